/-! ===== X7_isKnown ===== -/
theorem mX7_isKnown_1 : Cond.fieldLink RX7 7 "GateMazeModel" "z" "[I" ∈ wsX7_isKnown := List.mem_of_getElem? (i := 1) rfl
theorem iX7_isKnown_X7 : ∀ w ∈ u_ws RX7 TX7 16, w ∈ wsX7_isKnown := fun w h => List.mem_cons_of_mem _ (List.mem_append_right _ h)
set_option maxHeartbeats 4000000 in
set_option maxRecDepth 100000 in
theorem c_X7_isKnown (l : Launch) (D : va_G) (kI kJ kS : ClassId) (to : Nat) (ta : Nat → Nat) (x1 : Int32) (z : (Nat → Int32)) (nst : Int32) (his : (Nat → Int32)) (len : Int32) (txt : (Nat → Int32)) (thr : Int32) (god : (Nat → Int64)) (prm : (Nat → Int32)) (npr : Int32) (cov : (Nat → Int32)) (siz : (Nat → Int32)) (pts : (Nat → Int32)) (rea : Int32) (pla : Int32) (bef : (Nat → Int32)) (has : Int64) {r : Int32} (hrun : fX7_isKnown z x1 = some r) : cI l D (tyL kI kJ kS) false yX7_isKnown wsX7_isKnown (rmk 0 0 0 0) [.ref to, .int x1] (wX7 kI kJ to ta z nst his len txt thr god prm npr cov siz pts rea pla bef has) (wX7 kI kJ to ta z nst his len txt thr god prm npr cov siz pts rea pla bef has) r := by
  refine cI_of (cc := cX7_isKnown) (maxL := 2) (by decide) rfl (Nat.le_of_ble_eq_true rfl) ?_
  intro p e s m av below meth c A Q ls hE hP hD hS hl hret
  have hE : ent_ p s m av meth c RX7 cX7_isKnown 2 (some .boolean) wsX7_isKnown (tyL kI kJ kS) D A false := hE
  obtain ⟨hx, hb, hml, hown, hts, hr, hlocks, hK, hA, hst⟩ := id hE
  have hl : lv_has ls 2 [(0, .ref to), (1, .int x1)] := hl
  unfold fX7_isKnown at hrun
  refine lv_aload_n hx hb dX7_isKnown_0 rfl (lv_at hl 0 rfl) ?_
  refine va_get (D := D) (ci := 6) (v := .ref (ta 0)) (C := RX7) (T := TX7) (N := 16) hx hb hts iX7_isKnown_X7 hown hK hP 0 rfl rfl 0 (by decide) (hts _ mX7_isKnown_1) (fun _ h9 => h9) rfl dX7_isKnown_1 ?_
  refine lv_iconst (v := 1) hx hb dX7_isKnown_4 (by decide) ?_
  obtain ⟨hin, hrun⟩ := gd_some hrun
  refine va_iald hx hb hK hP 1 0 rfl rfl hin dX7_isKnown_5 ?_
  refine lv_iload_n hx hb dX7_isKnown_6 rfl (lv_at hl 1 rfl) ?_
  refine lv_ishr hx hb dX7_isKnown_7 ?_
  refine lv_iconst (v := 1) hx hb dX7_isKnown_8 (by decide) ?_
  refine lv_iand hx hb dX7_isKnown_9 ?_
  refine lv_iconst (v := 1) hx hb dX7_isKnown_10 (by decide) ?_
  refine lv_icmp_ne (tgt := 18) hx hb dX7_isKnown_11 (by decide) (fun hc => ?_) (fun hc => ?_)
  · have hrun := it_f hc hrun
    refine lv_iconst (v := 0) hx hb dX7_isKnown_18 (by decide) ?_
    obtain rfl := Option.some.inj hrun
    exact hret _ _ _ _ (show narrow .boolean (.int 0) = .int 0 from rfl) dX7_isKnown_19 hP hD hS
  · have hrun := it_t hc hrun
    refine lv_iconst (v := 1) hx hb dX7_isKnown_14 (by decide) ?_
    refine lv_goto (tgt := 19) hx hb dX7_isKnown_15 (by decide) ?_
    obtain rfl := Option.some.inj hrun
    exact hret _ _ _ _ (show narrow .boolean (.int 1) = .int 1 from rfl) dX7_isKnown_19 hP hD hS
/-! ===== X7_forget ===== -/
theorem mX7_forget_1 : Cond.fieldLink RX7 38 "GateMazeModel" "thrown" "I" ∈ wsX7_forget := List.mem_of_getElem? (i := 1) rfl
theorem mX7_forget_2 : Cond.fieldLink RX7 7 "GateMazeModel" "z" "[I" ∈ wsX7_forget := List.mem_of_getElem? (i := 2) rfl
theorem iX7_forget_X7 : ∀ w ∈ u_ws RX7 TX7 16, w ∈ wsX7_forget := fun w h => List.mem_cons_of_mem _ (List.mem_append_right _ h)
set_option maxHeartbeats 4000000 in
set_option maxRecDepth 100000 in
theorem c_X7_forget (l : Launch) (D : va_G) (kI kJ kS : ClassId) (to : Nat) (ta : Nat → Nat) (x1 : Int32) (z : (Nat → Int32)) (nst : Int32) (his : (Nat → Int32)) (len : Int32) (txt : (Nat → Int32)) (thr : Int32) (god : (Nat → Int64)) (prm : (Nat → Int32)) (npr : Int32) (cov : (Nat → Int32)) (siz : (Nat → Int32)) (pts : (Nat → Int32)) (rea : Int32) (pla : Int32) (bef : (Nat → Int32)) (has : Int64) {r : Int32 × (Nat → Int32) × Int32 × (Nat → Int32) × Int32} (hrun : fX7_forget z nst his x1 = some r) : cI l D (tyL kI kJ kS) false yX7_forget wsX7_forget (rmk 4 0 0 93) [.ref to, .int x1] (wX7 kI kJ to ta z nst his len txt thr god prm npr cov siz pts rea pla bef has) (wX7 kI kJ to ta r.2.1 r.2.2.1 r.2.2.2.1 len txt r.2.2.2.2 god prm npr cov siz pts rea pla bef has) r.1 := by
  refine cI_of (cc := cX7_forget) (maxL := 2) (by decide) rfl (Nat.le_of_ble_eq_true rfl) ?_
  intro p e s m av below meth c A Q ls hE hP hD hS hl hret
  have hE : ent_ p s m av meth c RX7 cX7_forget 2 (some .int) wsX7_forget (tyL kI kJ kS) D A false := hE
  obtain ⟨hx, hb, hml, hown, hts, hr, hlocks, hK, hA, hst⟩ := id hE
  have hl : lv_has ls 2 [(0, .ref to), (1, .int x1)] := hl
  have c_J26 : ∀ (x1 : Int32) (s0 : Int32) (z : (Nat → Int32)) (nst : Int32) (his : (Nat → Int32)) (thr : Int32), fX7_forget_J26 x1 s0 z nst his = some r → wAt p l e (rmk 4 0 0 93) s m av below meth c D A 2 0 0 Q 26 [.int s0, .ref to] [(0, .ref to), (1, .int x1)] (wX7 kI kJ to ta z nst his len txt thr god prm npr cov siz pts rea pla bef has) := by
    intro x1 s0 z nst his thr hrun H locs ls hP hD hS hl
    unfold fX7_forget_J26 at hrun
    refine va_put (D := D) (ci := 6) (v := .int s0) (ty := .int) (C := RX7) (T := TX7) (N := 16) hx hb hts iX7_forget_X7 tyX7 tyX7_ok nmX7 hown hK hP hD hS 0 rfl rfl 5 (by decide) (hts _ mX7_forget_1) (fun _ h9 => h9) rfl (by decide +kernel) rfl rfl (Nat.le_of_ble_eq_true rfl) dX7_forget_26 (fun H locs hP hD hS => ?_)
    have hP : va_P D vwCl (wX7 kI kJ to ta z nst his len txt s0 god prm npr cov siz pts rea pla bef has) H := hP
    have hD : va_D A (wX7 kI kJ to ta z nst his len txt s0 god prm npr cov siz pts rea pla bef has) := hD
    refine lv_aload_n hx hb dX7_forget_29 rfl (lv_at hl 0 rfl) ?_
    refine va_get (D := D) (ci := 6) (v := .int s0) (C := RX7) (T := TX7) (N := 16) hx hb hts iX7_forget_X7 hown hK hP 0 rfl rfl 5 (by decide) (hts _ mX7_forget_1) (fun _ h9 => h9) rfl dX7_forget_30 ?_
    refine lv_if_le (tgt := 38) hx hb dX7_forget_33 (by decide) (fun hc => ?_) (fun hc => ?_)
    · have hrun := it_t hc hrun
      refine lv_aload_n hx hb dX7_forget_38 rfl (lv_at hl 0 rfl) ?_
      obtain ⟨q_1, hq_1, hrun⟩ := bd_some hrun
      refine cV_callV (As := []) (rest := []) (wr := []) (wN := (wX7 kI kJ to ta z q_1.1 q_1.2 len txt s0 god prm npr cov siz pts rea pla bef has)) (ci := 6) (q0 := 0) hE (c_X7_save l D kI kJ kS to ta  z nst his len txt s0 god prm npr cov siz pts rea pla bef has hq_1) (cwV 0 hts gX7_forget_X7_save rfl rfl rfl (by decide +kernel) ⟨Nat.le_of_ble_eq_true rfl, Nat.le_of_ble_eq_true rfl⟩) hP hD hS [0, 1, 2, 3, 4, 5, 6, 7, 8, 9] [] [0, 1, 2, 3, 4, 5, 6, 7, 8, 9] rfl rfl rfl rfl (by decide) rfl rfl rfl rfl rfl hl.1 rfl (Nat.le_of_ble_eq_true rfl) dX7_forget_39 ⟨Nat.le_of_ble_eq_true rfl, Nat.le_of_ble_eq_true rfl⟩ (fun H locs hP hD hS => ?_)
      refine lv_aload_n hx hb dX7_forget_42 rfl (lv_at hl 0 rfl) ?_
      refine va_get (D := D) (ci := 6) (v := .ref (ta 0)) (C := RX7) (T := TX7) (N := 16) hx hb hts iX7_forget_X7 hown hK hP 0 rfl rfl 0 (by decide) (hts _ mX7_forget_2) (fun _ h9 => h9) rfl dX7_forget_43 ?_
      refine lv_iconst (v := 1) hx hb dX7_forget_46 (by decide) ?_
      refine lv_dup2_11 hx hb dX7_forget_47 rfl rfl ?_
      obtain ⟨hin, hrun⟩ := gd_some hrun
      refine va_iald hx hb hK hP 1 0 rfl rfl hin dX7_forget_48 ?_
      refine lv_iconst (v := 1) hx hb dX7_forget_49 (by decide) ?_
      refine lv_iload_n hx hb dX7_forget_50 rfl (lv_at hl 1 rfl) ?_
      refine lv_ishl hx hb dX7_forget_51 ?_
      refine lv_iconst (v := (-1)) hx hb dX7_forget_52 (by decide) ?_
      refine lv_ixor hx hb dX7_forget_53 ?_
      refine lv_iand hx hb dX7_forget_54 ?_
      obtain ⟨hin, hrun⟩ := gd_some hrun
      refine va_iast hx hb hK hP hD hS 1 0 rfl rfl hin dX7_forget_55 (fun H locs hP hD hS => ?_)
      have hP : va_P D vwCl (wX7 kI kJ to ta (upd z ((1 : Int32)).toNatClampNeg ((z ((1 : Int32)).toNatClampNeg) &&& (((1 : Int32) <<< (x1 &&& 31)) ^^^ ((-1))))) q_1.1 q_1.2 len txt s0 god prm npr cov siz pts rea pla bef has) H := hP
      have hD : va_D A (wX7 kI kJ to ta (upd z ((1 : Int32)).toNatClampNeg ((z ((1 : Int32)).toNatClampNeg) &&& (((1 : Int32) <<< (x1 &&& 31)) ^^^ ((-1))))) q_1.1 q_1.2 len txt s0 god prm npr cov siz pts rea pla bef has) := hD
      obtain ⟨u_2, eu_2⟩ : ∃ y, y = upd z ((1 : Int32)).toNatClampNeg ((z ((1 : Int32)).toNatClampNeg) &&& (((1 : Int32) <<< (x1 &&& 31)) ^^^ ((-1)))) := ⟨_, rfl⟩
      have hrun := lt_some eu_2 hrun
      rw [← eu_2] at hP hD
      refine lv_aload_n hx hb dX7_forget_56 rfl (lv_at hl 0 rfl) ?_
      obtain ⟨q_3, hq_3, hrun⟩ := bd_some hrun
      refine cI_callV (As := []) (rest := []) (wr := []) (wN := (wX7 kI kJ to ta u_2 q_1.1 q_1.2 len txt s0 god prm npr cov siz pts rea pla bef has)) (ci := 6) (q0 := 0) hE (c_X7_undecided l D kI kJ kS to ta  u_2 q_1.1 q_1.2 len txt s0 god prm npr cov siz pts rea pla bef has hq_3) (cwV 0 hts gX7_forget_X7_undecided rfl rfl rfl (by decide +kernel) ⟨Nat.le_of_ble_eq_true rfl, Nat.le_of_ble_eq_true rfl⟩) hP hD hS [0, 1, 2, 3, 4, 5, 6, 7, 8, 9] [] [0, 1, 2, 3, 4, 5, 6, 7, 8, 9] rfl rfl rfl rfl (by decide) rfl rfl rfl rfl rfl hl.1 rfl (Nat.le_of_ble_eq_true rfl) dX7_forget_57 ⟨Nat.le_of_ble_eq_true rfl, Nat.le_of_ble_eq_true rfl⟩ (fun H locs hP hD hS => ?_)
      obtain rfl := Option.some.inj hrun
      exact hret _ _ _ _ rfl dX7_forget_60 hP hD hS
    · have hrun := it_f hc hrun
      refine lv_iconst (v := 0) hx hb dX7_forget_36 (by decide) ?_
      obtain rfl := Option.some.inj hrun
      exact hret _ _ _ _ rfl dX7_forget_37 hP hD hS
  unfold fX7_forget at hrun
  refine lv_aload_n hx hb dX7_forget_0 rfl (lv_at hl 0 rfl) ?_
  refine lv_aload_n hx hb dX7_forget_1 rfl (lv_at hl 0 rfl) ?_
  refine lv_iload_n hx hb dX7_forget_2 rfl (lv_at hl 1 rfl) ?_
  obtain ⟨q_4, hq_4, hrun⟩ := bd_some hrun
  refine cI_callV (As := [.int x1]) (rest := [.ref to]) (wr := []) (wN := (wX7 kI kJ to ta z nst his len txt thr god prm npr cov siz pts rea pla bef has)) (ci := 6) (q0 := 0) hE (c_X7_isInput l D kI kJ kS to ta x1 z nst his len txt thr god prm npr cov siz pts rea pla bef has hq_4) (cwV 1 hts gX7_forget_X7_isInput rfl rfl rfl (by decide +kernel) ⟨Nat.le_of_ble_eq_true rfl, Nat.le_of_ble_eq_true rfl⟩) hP hD hS [0, 1, 2, 3, 4, 5, 6, 7, 8, 9] [] [0, 1, 2, 3, 4, 5, 6, 7, 8, 9] rfl rfl rfl rfl (by decide) rfl rfl rfl rfl rfl hl.1 rfl (Nat.le_of_ble_eq_true rfl) dX7_forget_3 ⟨Nat.le_of_ble_eq_true rfl, Nat.le_of_ble_eq_true rfl⟩ (fun H locs hP hD hS => ?_)
  refine lv_if_ne (tgt := 13) hx hb dX7_forget_6 (by decide) (fun hc => ?_) (fun hc => ?_)
  · have hrun := it_f hc hrun
    refine lv_aload_n hx hb dX7_forget_13 rfl (lv_at hl 0 rfl) ?_
    refine lv_iload_n hx hb dX7_forget_14 rfl (lv_at hl 1 rfl) ?_
    obtain ⟨q_5, hq_5, hrun⟩ := bd_some hrun
    refine cI_callV (As := [.int x1]) (rest := [.ref to]) (wr := []) (wN := (wX7 kI kJ to ta z nst his len txt thr god prm npr cov siz pts rea pla bef has)) (ci := 6) (q0 := 0) hE (c_X7_isKnown l D kI kJ kS to ta x1 z nst his len txt thr god prm npr cov siz pts rea pla bef has hq_5) (cwV 1 hts gX7_forget_X7_isKnown rfl rfl rfl (by decide +kernel) ⟨Nat.le_of_ble_eq_true rfl, Nat.le_of_ble_eq_true rfl⟩) hP hD hS [0, 1, 2, 3, 4, 5, 6, 7, 8, 9] [] [0, 1, 2, 3, 4, 5, 6, 7, 8, 9] rfl rfl rfl rfl (by decide) rfl rfl rfl rfl rfl hl.1 rfl (Nat.le_of_ble_eq_true rfl) dX7_forget_15 ⟨Nat.le_of_ble_eq_true rfl, Nat.le_of_ble_eq_true rfl⟩ (fun H locs hP hD hS => ?_)
    refine lv_if_eq (tgt := 25) hx hb dX7_forget_18 (by decide) (fun hc => ?_) (fun hc => ?_)
    · have hrun := it_t hc hrun
      refine lv_iconst (v := 2) hx hb dX7_forget_25 (by decide) ?_
      exact c_J26 x1 2 z nst his thr hrun _ _ _ hP hD hS (lv_sub hl [0, 1] rfl)
    · have hrun := it_f hc hrun
      refine lv_iconst (v := 0) hx hb dX7_forget_21 (by decide) ?_
      refine lv_goto (tgt := 26) hx hb dX7_forget_22 (by decide) ?_
      exact c_J26 x1 0 z nst his thr hrun _ _ _ hP hD hS (lv_sub hl [0, 1] rfl)
  · have hrun := it_t hc hrun
    refine lv_iconst (v := 1) hx hb dX7_forget_9 (by decide) ?_
    refine lv_goto (tgt := 26) hx hb dX7_forget_10 (by decide) ?_
    exact c_J26 x1 1 z nst his thr hrun _ _ _ hP hD hS (lv_sub hl [0, 1] rfl)
/-! ===== X7_remember ===== -/
theorem mX7_remember_1 : Cond.fieldLink RX7 38 "GateMazeModel" "thrown" "I" ∈ wsX7_remember := List.mem_of_getElem? (i := 1) rfl
theorem mX7_remember_2 : Cond.fieldLink RX7 7 "GateMazeModel" "z" "[I" ∈ wsX7_remember := List.mem_of_getElem? (i := 2) rfl
theorem iX7_remember_X7 : ∀ w ∈ u_ws RX7 TX7 16, w ∈ wsX7_remember := fun w h => List.mem_cons_of_mem _ (List.mem_append_right _ h)
set_option maxHeartbeats 4000000 in
set_option maxRecDepth 100000 in
theorem c_X7_remember (l : Launch) (D : va_G) (kI kJ kS : ClassId) (to : Nat) (ta : Nat → Nat) (x1 : Int32) (z : (Nat → Int32)) (nst : Int32) (his : (Nat → Int32)) (len : Int32) (txt : (Nat → Int32)) (thr : Int32) (god : (Nat → Int64)) (prm : (Nat → Int32)) (npr : Int32) (cov : (Nat → Int32)) (siz : (Nat → Int32)) (pts : (Nat → Int32)) (rea : Int32) (pla : Int32) (bef : (Nat → Int32)) (has : Int64) {r : Int32 × (Nat → Int32) × Int32 × (Nat → Int32) × Int32} (hrun : fX7_remember z nst his x1 = some r) : cI l D (tyL kI kJ kS) false yX7_remember wsX7_remember (rmk 4 0 0 93) [.ref to, .int x1] (wX7 kI kJ to ta z nst his len txt thr god prm npr cov siz pts rea pla bef has) (wX7 kI kJ to ta r.2.1 r.2.2.1 r.2.2.2.1 len txt r.2.2.2.2 god prm npr cov siz pts rea pla bef has) r.1 := by
  refine cI_of (cc := cX7_remember) (maxL := 2) (by decide) rfl (Nat.le_of_ble_eq_true rfl) ?_
  intro p e s m av below meth c A Q ls hE hP hD hS hl hret
  have hE : ent_ p s m av meth c RX7 cX7_remember 2 (some .int) wsX7_remember (tyL kI kJ kS) D A false := hE
  obtain ⟨hx, hb, hml, hown, hts, hr, hlocks, hK, hA, hst⟩ := id hE
  have hl : lv_has ls 2 [(0, .ref to), (1, .int x1)] := hl
  have c_J26 : ∀ (x1 : Int32) (s0 : Int32) (z : (Nat → Int32)) (nst : Int32) (his : (Nat → Int32)) (thr : Int32), fX7_remember_J26 x1 s0 z nst his = some r → wAt p l e (rmk 4 0 0 93) s m av below meth c D A 2 0 0 Q 26 [.int s0, .ref to] [(0, .ref to), (1, .int x1)] (wX7 kI kJ to ta z nst his len txt thr god prm npr cov siz pts rea pla bef has) := by
    intro x1 s0 z nst his thr hrun H locs ls hP hD hS hl
    unfold fX7_remember_J26 at hrun
    refine va_put (D := D) (ci := 6) (v := .int s0) (ty := .int) (C := RX7) (T := TX7) (N := 16) hx hb hts iX7_remember_X7 tyX7 tyX7_ok nmX7 hown hK hP hD hS 0 rfl rfl 5 (by decide) (hts _ mX7_remember_1) (fun _ h9 => h9) rfl (by decide +kernel) rfl rfl (Nat.le_of_ble_eq_true rfl) dX7_remember_26 (fun H locs hP hD hS => ?_)
    have hP : va_P D vwCl (wX7 kI kJ to ta z nst his len txt s0 god prm npr cov siz pts rea pla bef has) H := hP
    have hD : va_D A (wX7 kI kJ to ta z nst his len txt s0 god prm npr cov siz pts rea pla bef has) := hD
    refine lv_aload_n hx hb dX7_remember_29 rfl (lv_at hl 0 rfl) ?_
    refine va_get (D := D) (ci := 6) (v := .int s0) (C := RX7) (T := TX7) (N := 16) hx hb hts iX7_remember_X7 hown hK hP 0 rfl rfl 5 (by decide) (hts _ mX7_remember_1) (fun _ h9 => h9) rfl dX7_remember_30 ?_
    refine lv_if_le (tgt := 38) hx hb dX7_remember_33 (by decide) (fun hc => ?_) (fun hc => ?_)
    · have hrun := it_t hc hrun
      refine lv_aload_n hx hb dX7_remember_38 rfl (lv_at hl 0 rfl) ?_
      obtain ⟨q_1, hq_1, hrun⟩ := bd_some hrun
      refine cV_callV (As := []) (rest := []) (wr := []) (wN := (wX7 kI kJ to ta z q_1.1 q_1.2 len txt s0 god prm npr cov siz pts rea pla bef has)) (ci := 6) (q0 := 0) hE (c_X7_save l D kI kJ kS to ta  z nst his len txt s0 god prm npr cov siz pts rea pla bef has hq_1) (cwV 0 hts gX7_remember_X7_save rfl rfl rfl (by decide +kernel) ⟨Nat.le_of_ble_eq_true rfl, Nat.le_of_ble_eq_true rfl⟩) hP hD hS [0, 1, 2, 3, 4, 5, 6, 7, 8, 9] [] [0, 1, 2, 3, 4, 5, 6, 7, 8, 9] rfl rfl rfl rfl (by decide) rfl rfl rfl rfl rfl hl.1 rfl (Nat.le_of_ble_eq_true rfl) dX7_remember_39 ⟨Nat.le_of_ble_eq_true rfl, Nat.le_of_ble_eq_true rfl⟩ (fun H locs hP hD hS => ?_)
      refine lv_aload_n hx hb dX7_remember_42 rfl (lv_at hl 0 rfl) ?_
      refine va_get (D := D) (ci := 6) (v := .ref (ta 0)) (C := RX7) (T := TX7) (N := 16) hx hb hts iX7_remember_X7 hown hK hP 0 rfl rfl 0 (by decide) (hts _ mX7_remember_2) (fun _ h9 => h9) rfl dX7_remember_43 ?_
      refine lv_iconst (v := 1) hx hb dX7_remember_46 (by decide) ?_
      refine lv_dup2_11 hx hb dX7_remember_47 rfl rfl ?_
      obtain ⟨hin, hrun⟩ := gd_some hrun
      refine va_iald hx hb hK hP 1 0 rfl rfl hin dX7_remember_48 ?_
      refine lv_iconst (v := 1) hx hb dX7_remember_49 (by decide) ?_
      refine lv_iload_n hx hb dX7_remember_50 rfl (lv_at hl 1 rfl) ?_
      refine lv_ishl hx hb dX7_remember_51 ?_
      refine lv_ior hx hb dX7_remember_52 ?_
      obtain ⟨hin, hrun⟩ := gd_some hrun
      refine va_iast hx hb hK hP hD hS 1 0 rfl rfl hin dX7_remember_53 (fun H locs hP hD hS => ?_)
      have hP : va_P D vwCl (wX7 kI kJ to ta (upd z ((1 : Int32)).toNatClampNeg ((z ((1 : Int32)).toNatClampNeg) ||| ((1 : Int32) <<< (x1 &&& 31)))) q_1.1 q_1.2 len txt s0 god prm npr cov siz pts rea pla bef has) H := hP
      have hD : va_D A (wX7 kI kJ to ta (upd z ((1 : Int32)).toNatClampNeg ((z ((1 : Int32)).toNatClampNeg) ||| ((1 : Int32) <<< (x1 &&& 31)))) q_1.1 q_1.2 len txt s0 god prm npr cov siz pts rea pla bef has) := hD
      obtain ⟨u_2, eu_2⟩ : ∃ y, y = upd z ((1 : Int32)).toNatClampNeg ((z ((1 : Int32)).toNatClampNeg) ||| ((1 : Int32) <<< (x1 &&& 31))) := ⟨_, rfl⟩
      have hrun := lt_some eu_2 hrun
      rw [← eu_2] at hP hD
      refine lv_aload_n hx hb dX7_remember_54 rfl (lv_at hl 0 rfl) ?_
      obtain ⟨q_3, hq_3, hrun⟩ := bd_some hrun
      refine cI_callV (As := []) (rest := []) (wr := []) (wN := (wX7 kI kJ to ta u_2 q_1.1 q_1.2 len txt s0 god prm npr cov siz pts rea pla bef has)) (ci := 6) (q0 := 0) hE (c_X7_undecided l D kI kJ kS to ta  u_2 q_1.1 q_1.2 len txt s0 god prm npr cov siz pts rea pla bef has hq_3) (cwV 0 hts gX7_remember_X7_undecided rfl rfl rfl (by decide +kernel) ⟨Nat.le_of_ble_eq_true rfl, Nat.le_of_ble_eq_true rfl⟩) hP hD hS [0, 1, 2, 3, 4, 5, 6, 7, 8, 9] [] [0, 1, 2, 3, 4, 5, 6, 7, 8, 9] rfl rfl rfl rfl (by decide) rfl rfl rfl rfl rfl hl.1 rfl (Nat.le_of_ble_eq_true rfl) dX7_remember_55 ⟨Nat.le_of_ble_eq_true rfl, Nat.le_of_ble_eq_true rfl⟩ (fun H locs hP hD hS => ?_)
      obtain rfl := Option.some.inj hrun
      exact hret _ _ _ _ rfl dX7_remember_58 hP hD hS
    · have hrun := it_f hc hrun
      refine lv_iconst (v := 0) hx hb dX7_remember_36 (by decide) ?_
      obtain rfl := Option.some.inj hrun
      exact hret _ _ _ _ rfl dX7_remember_37 hP hD hS
  unfold fX7_remember at hrun
  refine lv_aload_n hx hb dX7_remember_0 rfl (lv_at hl 0 rfl) ?_
  refine lv_aload_n hx hb dX7_remember_1 rfl (lv_at hl 0 rfl) ?_
  refine lv_iload_n hx hb dX7_remember_2 rfl (lv_at hl 1 rfl) ?_
  obtain ⟨q_4, hq_4, hrun⟩ := bd_some hrun
  refine cI_callV (As := [.int x1]) (rest := [.ref to]) (wr := []) (wN := (wX7 kI kJ to ta z nst his len txt thr god prm npr cov siz pts rea pla bef has)) (ci := 6) (q0 := 0) hE (c_X7_isInput l D kI kJ kS to ta x1 z nst his len txt thr god prm npr cov siz pts rea pla bef has hq_4) (cwV 1 hts gX7_remember_X7_isInput rfl rfl rfl (by decide +kernel) ⟨Nat.le_of_ble_eq_true rfl, Nat.le_of_ble_eq_true rfl⟩) hP hD hS [0, 1, 2, 3, 4, 5, 6, 7, 8, 9] [] [0, 1, 2, 3, 4, 5, 6, 7, 8, 9] rfl rfl rfl rfl (by decide) rfl rfl rfl rfl rfl hl.1 rfl (Nat.le_of_ble_eq_true rfl) dX7_remember_3 ⟨Nat.le_of_ble_eq_true rfl, Nat.le_of_ble_eq_true rfl⟩ (fun H locs hP hD hS => ?_)
  refine lv_if_ne (tgt := 13) hx hb dX7_remember_6 (by decide) (fun hc => ?_) (fun hc => ?_)
  · have hrun := it_f hc hrun
    refine lv_aload_n hx hb dX7_remember_13 rfl (lv_at hl 0 rfl) ?_
    refine lv_iload_n hx hb dX7_remember_14 rfl (lv_at hl 1 rfl) ?_
    obtain ⟨q_5, hq_5, hrun⟩ := bd_some hrun
    refine cI_callV (As := [.int x1]) (rest := [.ref to]) (wr := []) (wN := (wX7 kI kJ to ta z nst his len txt thr god prm npr cov siz pts rea pla bef has)) (ci := 6) (q0 := 0) hE (c_X7_isKnown l D kI kJ kS to ta x1 z nst his len txt thr god prm npr cov siz pts rea pla bef has hq_5) (cwV 1 hts gX7_remember_X7_isKnown rfl rfl rfl (by decide +kernel) ⟨Nat.le_of_ble_eq_true rfl, Nat.le_of_ble_eq_true rfl⟩) hP hD hS [0, 1, 2, 3, 4, 5, 6, 7, 8, 9] [] [0, 1, 2, 3, 4, 5, 6, 7, 8, 9] rfl rfl rfl rfl (by decide) rfl rfl rfl rfl rfl hl.1 rfl (Nat.le_of_ble_eq_true rfl) dX7_remember_15 ⟨Nat.le_of_ble_eq_true rfl, Nat.le_of_ble_eq_true rfl⟩ (fun H locs hP hD hS => ?_)
    refine lv_if_eq (tgt := 25) hx hb dX7_remember_18 (by decide) (fun hc => ?_) (fun hc => ?_)
    · have hrun := it_t hc hrun
      refine lv_iconst (v := 0) hx hb dX7_remember_25 (by decide) ?_
      exact c_J26 x1 0 z nst his thr hrun _ _ _ hP hD hS (lv_sub hl [0, 1] rfl)
    · have hrun := it_f hc hrun
      refine lv_iconst (v := 2) hx hb dX7_remember_21 (by decide) ?_
      refine lv_goto (tgt := 26) hx hb dX7_remember_22 (by decide) ?_
      exact c_J26 x1 2 z nst his thr hrun _ _ _ hP hD hS (lv_sub hl [0, 1] rfl)
  · have hrun := it_t hc hrun
    refine lv_iconst (v := 1) hx hb dX7_remember_9 (by decide) ?_
    refine lv_goto (tgt := 26) hx hb dX7_remember_10 (by decide) ?_
    exact c_J26 x1 1 z nst his thr hrun _ _ _ hP hD hS (lv_sub hl [0, 1] rfl)
/-! ===== X7_undecidedWithout ===== -/
theorem mX7_undecidedWithout_1 : Cond.fieldLink RX7 7 "GateMazeModel" "z" "[I" ∈ wsX7_undecidedWithout := List.mem_of_getElem? (i := 1) rfl
theorem iX7_undecidedWithout_X7 : ∀ w ∈ u_ws RX7 TX7 16, w ∈ wsX7_undecidedWithout := fun w h => List.mem_cons_of_mem _ (List.mem_append_right _ h)
set_option maxHeartbeats 4000000 in
set_option maxRecDepth 100000 in
theorem c_X7_undecidedWithout (l : Launch) (D : va_G) (kI kJ kS : ClassId) (to : Nat) (ta : Nat → Nat) (x1 : Int32) (z : (Nat → Int32)) (nst : Int32) (his : (Nat → Int32)) (len : Int32) (txt : (Nat → Int32)) (thr : Int32) (god : (Nat → Int64)) (prm : (Nat → Int32)) (npr : Int32) (cov : (Nat → Int32)) (siz : (Nat → Int32)) (pts : (Nat → Int32)) (rea : Int32) (pla : Int32) (bef : (Nat → Int32)) (has : Int64) {r : Int32 × (Nat → Int32)} (hrun : fX7_undecidedWithout z x1 = some r) : cI l D (tyL kI kJ kS) false yX7_undecidedWithout wsX7_undecidedWithout (rmk 4 0 0 93) [.ref to, .int x1] (wX7 kI kJ to ta z nst his len txt thr god prm npr cov siz pts rea pla bef has) (wX7 kI kJ to ta r.2 nst his len txt thr god prm npr cov siz pts rea pla bef has) r.1 := by
  refine cI_of (cc := cX7_undecidedWithout) (maxL := 3) (by decide) rfl (Nat.le_of_ble_eq_true rfl) ?_
  intro p e s m av below meth c A Q ls hE hP hD hS hl hret
  have hE : ent_ p s m av meth c RX7 cX7_undecidedWithout 3 (some .int) wsX7_undecidedWithout (tyL kI kJ kS) D A false := hE
  obtain ⟨hx, hb, hml, hown, hts, hr, hlocks, hK, hA, hst⟩ := id hE
  have hl : lv_has ls 3 [(0, .ref to), (1, .int x1)] := hl
  unfold fX7_undecidedWithout at hrun
  refine lv_aload_n hx hb dX7_undecidedWithout_0 rfl (lv_at hl 0 rfl) ?_
  refine va_get (D := D) (ci := 6) (v := .ref (ta 0)) (C := RX7) (T := TX7) (N := 16) hx hb hts iX7_undecidedWithout_X7 hown hK hP 0 rfl rfl 0 (by decide) (hts _ mX7_undecidedWithout_1) (fun _ h9 => h9) rfl dX7_undecidedWithout_1 ?_
  refine lv_iconst (v := 1) hx hb dX7_undecidedWithout_4 (by decide) ?_
  refine lv_dup2_11 hx hb dX7_undecidedWithout_5 rfl rfl ?_
  obtain ⟨hin, hrun⟩ := gd_some hrun
  refine va_iald hx hb hK hP 1 0 rfl rfl hin dX7_undecidedWithout_6 ?_
  refine lv_iconst (v := 1) hx hb dX7_undecidedWithout_7 (by decide) ?_
  refine lv_iload_n hx hb dX7_undecidedWithout_8 rfl (lv_at hl 1 rfl) ?_
  refine lv_ishl hx hb dX7_undecidedWithout_9 ?_
  refine lv_iconst (v := (-1)) hx hb dX7_undecidedWithout_10 (by decide) ?_
  refine lv_ixor hx hb dX7_undecidedWithout_11 ?_
  refine lv_iand hx hb dX7_undecidedWithout_12 ?_
  obtain ⟨hin, hrun⟩ := gd_some hrun
  refine va_iast hx hb hK hP hD hS 1 0 rfl rfl hin dX7_undecidedWithout_13 (fun H locs hP hD hS => ?_)
  have hP : va_P D vwCl (wX7 kI kJ to ta (upd z ((1 : Int32)).toNatClampNeg ((z ((1 : Int32)).toNatClampNeg) &&& (((1 : Int32) <<< (x1 &&& 31)) ^^^ ((-1))))) nst his len txt thr god prm npr cov siz pts rea pla bef has) H := hP
  have hD : va_D A (wX7 kI kJ to ta (upd z ((1 : Int32)).toNatClampNeg ((z ((1 : Int32)).toNatClampNeg) &&& (((1 : Int32) <<< (x1 &&& 31)) ^^^ ((-1))))) nst his len txt thr god prm npr cov siz pts rea pla bef has) := hD
  obtain ⟨u_1, eu_1⟩ : ∃ y, y = upd z ((1 : Int32)).toNatClampNeg ((z ((1 : Int32)).toNatClampNeg) &&& (((1 : Int32) <<< (x1 &&& 31)) ^^^ ((-1)))) := ⟨_, rfl⟩
  have hrun := lt_some eu_1 hrun
  rw [← eu_1] at hP hD
  refine lv_aload_n hx hb dX7_undecidedWithout_14 rfl (lv_at hl 0 rfl) ?_
  obtain ⟨q_2, hq_2, hrun⟩ := bd_some hrun
  refine cI_callV (As := []) (rest := []) (wr := []) (wN := (wX7 kI kJ to ta u_1 nst his len txt thr god prm npr cov siz pts rea pla bef has)) (ci := 6) (q0 := 0) hE (c_X7_undecided l D kI kJ kS to ta  u_1 nst his len txt thr god prm npr cov siz pts rea pla bef has hq_2) (cwV 0 hts gX7_undecidedWithout_X7_undecided rfl rfl rfl (by decide +kernel) ⟨Nat.le_of_ble_eq_true rfl, Nat.le_of_ble_eq_true rfl⟩) hP hD hS [0, 1, 2, 3, 4, 5, 6, 7, 8, 9] [] [0, 1, 2, 3, 4, 5, 6, 7, 8, 9] rfl rfl rfl rfl (by decide) rfl rfl rfl rfl rfl hl.1 rfl (Nat.le_of_ble_eq_true rfl) dX7_undecidedWithout_15 ⟨Nat.le_of_ble_eq_true rfl, Nat.le_of_ble_eq_true rfl⟩ (fun H locs hP hD hS => ?_)
  refine lv_istore_n (lv' := [(2, .int q_2), (0, .ref to), (1, .int x1)]) hx hb dX7_undecidedWithout_18 rfl hl (by decide) rfl (fun ls hl => ?_)
  refine lv_aload_n hx hb dX7_undecidedWithout_19 rfl (lv_at hl 1 rfl) ?_
  refine va_get (D := D) (ci := 6) (v := .ref (ta 0)) (C := RX7) (T := TX7) (N := 16) hx hb hts iX7_undecidedWithout_X7 hown hK hP 0 rfl rfl 0 (by decide) (hts _ mX7_undecidedWithout_1) (fun _ h9 => h9) rfl dX7_undecidedWithout_20 ?_
  refine lv_iconst (v := 1) hx hb dX7_undecidedWithout_23 (by decide) ?_
  refine lv_dup2_11 hx hb dX7_undecidedWithout_24 rfl rfl ?_
  obtain ⟨hin, hrun⟩ := gd_some hrun
  refine va_iald hx hb hK hP 1 0 rfl rfl hin dX7_undecidedWithout_25 ?_
  refine lv_iconst (v := 1) hx hb dX7_undecidedWithout_26 (by decide) ?_
  refine lv_iload_n hx hb dX7_undecidedWithout_27 rfl (lv_at hl 2 rfl) ?_
  refine lv_ishl hx hb dX7_undecidedWithout_28 ?_
  refine lv_ior hx hb dX7_undecidedWithout_29 ?_
  obtain ⟨hin, hrun⟩ := gd_some hrun
  refine va_iast hx hb hK hP hD hS 1 0 rfl rfl hin dX7_undecidedWithout_30 (fun H locs hP hD hS => ?_)
  have hP : va_P D vwCl (wX7 kI kJ to ta (upd u_1 ((1 : Int32)).toNatClampNeg ((u_1 ((1 : Int32)).toNatClampNeg) ||| ((1 : Int32) <<< (x1 &&& 31)))) nst his len txt thr god prm npr cov siz pts rea pla bef has) H := hP
  have hD : va_D A (wX7 kI kJ to ta (upd u_1 ((1 : Int32)).toNatClampNeg ((u_1 ((1 : Int32)).toNatClampNeg) ||| ((1 : Int32) <<< (x1 &&& 31)))) nst his len txt thr god prm npr cov siz pts rea pla bef has) := hD
  obtain ⟨u_3, eu_3⟩ : ∃ y, y = upd u_1 ((1 : Int32)).toNatClampNeg ((u_1 ((1 : Int32)).toNatClampNeg) ||| ((1 : Int32) <<< (x1 &&& 31))) := ⟨_, rfl⟩
  have hrun := lt_some eu_3 hrun
  rw [← eu_3] at hP hD
  refine lv_iload_n hx hb dX7_undecidedWithout_31 rfl (lv_at hl 0 rfl) ?_
  obtain rfl := Option.some.inj hrun
  exact hret _ _ _ _ rfl dX7_undecidedWithout_32 hP hD hS
/-! ===== X7_hour ===== -/
theorem mX7_hour_1 : Cond.fieldLink RX7 7 "GateMazeModel" "z" "[I" ∈ wsX7_hour := List.mem_of_getElem? (i := 1) rfl
theorem iX7_hour_X7 : ∀ w ∈ u_ws RX7 TX7 16, w ∈ wsX7_hour := fun w h => List.mem_cons_of_mem _ (List.mem_append_right _ h)
set_option maxHeartbeats 4000000 in
set_option maxRecDepth 100000 in
theorem c_X7_hour (l : Launch) (D : va_G) (kI kJ kS : ClassId) (to : Nat) (ta : Nat → Nat) (z : (Nat → Int32)) (nst : Int32) (his : (Nat → Int32)) (len : Int32) (txt : (Nat → Int32)) (thr : Int32) (god : (Nat → Int64)) (prm : (Nat → Int32)) (npr : Int32) (cov : (Nat → Int32)) (siz : (Nat → Int32)) (pts : (Nat → Int32)) (rea : Int32) (pla : Int32) (bef : (Nat → Int32)) (has : Int64) {r : Nat → Int32} (hrun : fX7_hour z = some r) : cV l D (tyL kI kJ kS) false yX7_hour wsX7_hour (rmk 5 0 0 115) [.ref to] (wX7 kI kJ to ta z nst his len txt thr god prm npr cov siz pts rea pla bef has) (wX7 kI kJ to ta r nst his len txt thr god prm npr cov siz pts rea pla bef has) := by
  refine cV_of (cc := cX7_hour) (maxL := 6) (by decide) rfl (Nat.le_of_ble_eq_true rfl) ?_
  intro p e s m av below meth c A Q ls hE hP hD hS hl hret
  have hE : ent_ p s m av meth c RX7 cX7_hour 6 none wsX7_hour (tyL kI kJ kS) D A false := hE
  obtain ⟨hx, hb, hml, hown, hts, hr, hlocks, hK, hA, hst⟩ := id hE
  have hl : lv_has ls 6 [(0, .ref to)] := hl
  have c_J72 : ∀ (x1 : Int32) (x2 : Int32) (x3 : Int32) (z : (Nat → Int32)) (k6 : Int32 → Int32 → Int32 → (Nat → Int32) → Option (Nat → Int32)) (hk6 : (∀ (x1 : Int32) (x2 : Int32) (x3 : Int32) (z : (Nat → Int32)), k6 x1 x2 x3 z = some r → wAt p l e (rmk 5 0 0 115) s m av below meth c D A 6 0 0 Q 6 [] [(0, .ref to), (1, .int x1), (2, .int x2), (3, .int x3)] (wX7 kI kJ to ta z nst his len txt thr god prm npr cov siz pts rea pla bef has))), fX7_hour_J72 x1 x2 x3 z k6 = some r → wAt p l e (rmk 5 0 0 115) s m av below meth c D A 6 0 0 Q 72 [] [(0, .ref to), (1, .int x1), (2, .int x2), (3, .int x3)] (wX7 kI kJ to ta z nst his len txt thr god prm npr cov siz pts rea pla bef has) := by
    intro x1 x2 x3 z k6 hk6 hrun H locs ls hP hD hS hl
    unfold fX7_hour_J72 at hrun
    refine lv_iinc (v := x3 + 1) (lv' := [(3, .int (x3 + 1)), (0, .ref to), (1, .int x1), (2, .int x2)]) hx hb dX7_hour_72 hl (k := 3) rfl rfl (by decide) rfl (fun ls hl => ?_)
    refine lv_goto (tgt := 6) hx hb dX7_hour_75 (by decide) ?_
    exact hk6 x1 x2 (x3 + 1) z  hrun _ _ _ hP hD hS (lv_sub hl [1, 2, 3, 0] rfl)
  have c_J71 : ∀ (x1 : Int32) (x3 : Int32) (s0 : Int32) (z : (Nat → Int32)) (k6 : Int32 → Int32 → Int32 → (Nat → Int32) → Option (Nat → Int32)) (hk6 : (∀ (x1 : Int32) (x2 : Int32) (x3 : Int32) (z : (Nat → Int32)), k6 x1 x2 x3 z = some r → wAt p l e (rmk 5 0 0 115) s m av below meth c D A 6 0 0 Q 6 [] [(0, .ref to), (1, .int x1), (2, .int x2), (3, .int x3)] (wX7 kI kJ to ta z nst his len txt thr god prm npr cov siz pts rea pla bef has))), fX7_hour_J71 x1 x3 s0 z k6 = some r → wAt p l e (rmk 5 0 0 115) s m av below meth c D A 6 0 0 Q 71 [.int s0] [(0, .ref to), (1, .int x1), (3, .int x3)] (wX7 kI kJ to ta z nst his len txt thr god prm npr cov siz pts rea pla bef has) := by
    intro x1 x3 s0 z k6 hk6 hrun H locs ls hP hD hS hl
    unfold fX7_hour_J71 at hrun
    refine lv_istore_n (lv' := [(2, .int s0), (0, .ref to), (1, .int x1), (3, .int x3)]) hx hb dX7_hour_71 rfl hl (by decide) rfl (fun ls hl => ?_)
    exact c_J72 x1 s0 x3 z k6 hk6  hrun _ _ _ hP hD hS (lv_sub hl [1, 2, 0, 3] rfl)
  have c_J59 : ∀ (x2 : Int32) (x3 : Int32) (x4 : Int32) (x5 : Int32) (s0 : Int32) (z : (Nat → Int32)) (k6 : Int32 → Int32 → Int32 → (Nat → Int32) → Option (Nat → Int32)) (hk6 : (∀ (x1 : Int32) (x2 : Int32) (x3 : Int32) (z : (Nat → Int32)), k6 x1 x2 x3 z = some r → wAt p l e (rmk 5 0 0 115) s m av below meth c D A 6 0 0 Q 6 [] [(0, .ref to), (1, .int x1), (2, .int x2), (3, .int x3)] (wX7 kI kJ to ta z nst his len txt thr god prm npr cov siz pts rea pla bef has))), fX7_hour_J59 x2 x3 x4 x5 s0 z k6 = some r → wAt p l e (rmk 5 0 0 115) s m av below meth c D A 6 0 0 Q 59 [.int s0] [(0, .ref to), (2, .int x2), (3, .int x3), (4, .int x4), (5, .int x5)] (wX7 kI kJ to ta z nst his len txt thr god prm npr cov siz pts rea pla bef has) := by
    intro x2 x3 x4 x5 s0 z k6 hk6 hrun H locs ls hP hD hS hl
    unfold fX7_hour_J59 at hrun
    refine lv_istore_n (lv' := [(1, .int s0), (0, .ref to), (2, .int x2), (3, .int x3), (4, .int x4), (5, .int x5)]) hx hb dX7_hour_59 rfl hl (by decide) rfl (fun ls hl => ?_)
    refine lv_iload hx hb dX7_hour_60 (lv_at hl 5 rfl) ?_
    refine lv_if_eq (tgt := 70) hx hb dX7_hour_62 (by decide) (fun hc => ?_) (fun hc => ?_)
    · have hrun := it_t hc hrun
      refine lv_iload_n hx hb dX7_hour_70 rfl (lv_at hl 2 rfl) ?_
      exact c_J71 s0 x3 x2 z k6 hk6  hrun _ _ _ hP hD hS (lv_sub hl [1, 0, 3] rfl)
    · have hrun := it_f hc hrun
      refine lv_iload hx hb dX7_hour_65 (lv_at hl 4 rfl) ?_
      refine lv_goto (tgt := 71) hx hb dX7_hour_67 (by decide) ?_
      exact c_J71 s0 x3 x4 z k6 hk6  hrun _ _ _ hP hD hS (lv_sub hl [1, 0, 3] rfl)
  have c_J47 : ∀ (x1 : Int32) (x2 : Int32) (x3 : Int32) (x4 : Int32) (s0 : Int32) (z : (Nat → Int32)) (k6 : Int32 → Int32 → Int32 → (Nat → Int32) → Option (Nat → Int32)) (hk6 : (∀ (x1 : Int32) (x2 : Int32) (x3 : Int32) (z : (Nat → Int32)), k6 x1 x2 x3 z = some r → wAt p l e (rmk 5 0 0 115) s m av below meth c D A 6 0 0 Q 6 [] [(0, .ref to), (1, .int x1), (2, .int x2), (3, .int x3)] (wX7 kI kJ to ta z nst his len txt thr god prm npr cov siz pts rea pla bef has))), fX7_hour_J47 x1 x2 x3 x4 s0 z k6 = some r → wAt p l e (rmk 5 0 0 115) s m av below meth c D A 6 0 0 Q 47 [.int s0] [(0, .ref to), (1, .int x1), (2, .int x2), (3, .int x3), (4, .int x4)] (wX7 kI kJ to ta z nst his len txt thr god prm npr cov siz pts rea pla bef has) := by
    intro x1 x2 x3 x4 s0 z k6 hk6 hrun H locs ls hP hD hS hl
    unfold fX7_hour_J47 at hrun
    refine lv_istore (lv' := [(5, .int s0), (0, .ref to), (1, .int x1), (2, .int x2), (3, .int x3), (4, .int x4)]) hx hb dX7_hour_47 hl (by decide) rfl (fun ls hl => ?_)
    refine lv_iload hx hb dX7_hour_49 (lv_at hl 0 rfl) ?_
    refine lv_if_eq (tgt := 58) hx hb dX7_hour_51 (by decide) (fun hc => ?_) (fun hc => ?_)
    · have hrun := it_t hc hrun
      refine lv_iload_n hx hb dX7_hour_58 rfl (lv_at hl 2 rfl) ?_
      exact c_J59 x2 x3 x4 s0 x1 z k6 hk6  hrun _ _ _ hP hD hS (lv_sub hl [1, 3, 4, 5, 0] rfl)
    · have hrun := it_f hc hrun
      refine lv_iload_n hx hb dX7_hour_54 rfl (lv_at hl 4 rfl) ?_
      refine lv_goto (tgt := 59) hx hb dX7_hour_55 (by decide) ?_
      exact c_J59 x2 x3 x4 s0 x3 z k6 hk6  hrun _ _ _ hP hD hS (lv_sub hl [1, 3, 4, 5, 0] rfl)
  have c_J42 : ∀ (x1 : Int32) (x2 : Int32) (x3 : Int32) (x4 : Int32) (z : (Nat → Int32)) (k6 : Int32 → Int32 → Int32 → (Nat → Int32) → Option (Nat → Int32)) (hk6 : (∀ (x1 : Int32) (x2 : Int32) (x3 : Int32) (z : (Nat → Int32)), k6 x1 x2 x3 z = some r → wAt p l e (rmk 5 0 0 115) s m av below meth c D A 6 0 0 Q 6 [] [(0, .ref to), (1, .int x1), (2, .int x2), (3, .int x3)] (wX7 kI kJ to ta z nst his len txt thr god prm npr cov siz pts rea pla bef has))), fX7_hour_J42 x1 x2 x3 x4 z k6 = some r → wAt p l e (rmk 5 0 0 115) s m av below meth c D A 6 0 0 Q 42 [] [(0, .ref to), (1, .int x1), (2, .int x2), (3, .int x3), (4, .int x4)] (wX7 kI kJ to ta z nst his len txt thr god prm npr cov siz pts rea pla bef has) := by
    intro x1 x2 x3 x4 z k6 hk6 hrun H locs ls hP hD hS hl
    unfold fX7_hour_J42 at hrun
    refine lv_iconst (v := 1) hx hb dX7_hour_42 (by decide) ?_
    refine lv_goto (tgt := 47) hx hb dX7_hour_43 (by decide) ?_
    exact c_J47 x1 x2 x3 x4 1 z k6 hk6  hrun _ _ _ hP hD hS (lv_sub hl [0, 1, 2, 3, 4] rfl)
  have c_J78 : ∀ (x1 : Int32) (z : (Nat → Int32)), fX7_hour_J78 x1 z = some r → wAt p l e (rmk 5 0 0 115) s m av below meth c D A 6 0 0 Q 78 [] [(0, .ref to), (1, .int x1)] (wX7 kI kJ to ta z nst his len txt thr god prm npr cov siz pts rea pla bef has) := by
    intro x1 z hrun H locs ls hP hD hS hl
    unfold fX7_hour_J78 at hrun
    refine lv_aload_n hx hb dX7_hour_78 rfl (lv_at hl 0 rfl) ?_
    refine va_get (D := D) (ci := 6) (v := .ref (ta 0)) (C := RX7) (T := TX7) (N := 16) hx hb hts iX7_hour_X7 hown hK hP 0 rfl rfl 0 (by decide) (hts _ mX7_hour_1) (fun _ h9 => h9) rfl dX7_hour_79 ?_
    refine lv_iconst (v := 1) hx hb dX7_hour_82 (by decide) ?_
    refine lv_dup2_11 hx hb dX7_hour_83 rfl rfl ?_
    obtain ⟨hin, hrun⟩ := gd_some hrun
    refine va_iald hx hb hK hP 1 0 rfl rfl hin dX7_hour_84 ?_
    refine lv_iconst (v := 1) hx hb dX7_hour_85 (by decide) ?_
    refine lv_iload_n hx hb dX7_hour_86 rfl (lv_at hl 1 rfl) ?_
    refine lv_ishl hx hb dX7_hour_87 ?_
    refine lv_iconst (v := (-1)) hx hb dX7_hour_88 (by decide) ?_
    refine lv_ixor hx hb dX7_hour_89 ?_
    refine lv_iand hx hb dX7_hour_90 ?_
    obtain ⟨hin, hrun⟩ := gd_some hrun
    refine va_iast hx hb hK hP hD hS 1 0 rfl rfl hin dX7_hour_91 (fun H locs hP hD hS => ?_)
    have hP : va_P D vwCl (wX7 kI kJ to ta (upd z ((1 : Int32)).toNatClampNeg ((z ((1 : Int32)).toNatClampNeg) &&& (((1 : Int32) <<< (x1 &&& 31)) ^^^ ((-1))))) nst his len txt thr god prm npr cov siz pts rea pla bef has) H := hP
    have hD : va_D A (wX7 kI kJ to ta (upd z ((1 : Int32)).toNatClampNeg ((z ((1 : Int32)).toNatClampNeg) &&& (((1 : Int32) <<< (x1 &&& 31)) ^^^ ((-1))))) nst his len txt thr god prm npr cov siz pts rea pla bef has) := hD
    obtain ⟨u_1, eu_1⟩ : ∃ y, y = upd z ((1 : Int32)).toNatClampNeg ((z ((1 : Int32)).toNatClampNeg) &&& (((1 : Int32) <<< (x1 &&& 31)) ^^^ ((-1)))) := ⟨_, rfl⟩
    have hrun := lt_some eu_1 hrun
    rw [← eu_1] at hP hD
    refine lv_aload_n hx hb dX7_hour_92 rfl (lv_at hl 0 rfl) ?_
    refine va_get (D := D) (ci := 6) (v := .ref (ta 0)) (C := RX7) (T := TX7) (N := 16) hx hb hts iX7_hour_X7 hown hK hP 0 rfl rfl 0 (by decide) (hts _ mX7_hour_1) (fun _ h9 => h9) rfl dX7_hour_93 ?_
    refine lv_iconst (v := 3) hx hb dX7_hour_96 (by decide) ?_
    refine lv_dup2_11 hx hb dX7_hour_97 rfl rfl ?_
    obtain ⟨hin, hrun⟩ := gd_some hrun
    refine va_iald hx hb hK hP 1 0 rfl rfl hin dX7_hour_98 ?_
    refine lv_iconst (v := 1) hx hb dX7_hour_99 (by decide) ?_
    refine lv_iadd hx hb dX7_hour_100 ?_
    obtain ⟨hin, hrun⟩ := gd_some hrun
    refine va_iast hx hb hK hP hD hS 1 0 rfl rfl hin dX7_hour_101 (fun H locs hP hD hS => ?_)
    have hP : va_P D vwCl (wX7 kI kJ to ta (upd u_1 ((3 : Int32)).toNatClampNeg ((u_1 ((3 : Int32)).toNatClampNeg) + 1)) nst his len txt thr god prm npr cov siz pts rea pla bef has) H := hP
    have hD : va_D A (wX7 kI kJ to ta (upd u_1 ((3 : Int32)).toNatClampNeg ((u_1 ((3 : Int32)).toNatClampNeg) + 1)) nst his len txt thr god prm npr cov siz pts rea pla bef has) := hD
    obtain ⟨u_2, eu_2⟩ : ∃ y, y = upd u_1 ((3 : Int32)).toNatClampNeg ((u_1 ((3 : Int32)).toNatClampNeg) + 1) := ⟨_, rfl⟩
    have hrun := lt_some eu_2 hrun
    rw [← eu_2] at hP hD
    obtain rfl := Option.some.inj hrun
    exact hret _ _ _ _ dX7_hour_102 hP hD hS
  have c_L6 : ∀  (n : Nat) (x1 : Int32) (x2 : Int32) (x3 : Int32) (z : (Nat → Int32)), fX7_hour_L6  n x1 x2 x3 z = some r → wAt p l e (rmk 5 0 0 115) s m av below meth c D A 6 0 0 Q 6 [] [(0, .ref to), (1, .int x1), (2, .int x2), (3, .int x3)] (wX7 kI kJ to ta z nst his len txt thr god prm npr cov siz pts rea pla bef has) := by
    intro  n
    induction n with
    | zero =>
      intro x1 x2 x3 z hrun
      rw [fX7_hour_L6] at hrun
      cases hrun
    | succ n ih =>
      intro x1 x2 x3 z hrun H locs ls hP hD hS hl
      rw [fX7_hour_L6] at hrun
      refine lv_iload_n hx hb dX7_hour_6 rfl (lv_at hl 3 rfl) ?_
      refine lv_aload_n hx hb dX7_hour_7 rfl (lv_at hl 0 rfl) ?_
      refine va_get (D := D) (ci := 6) (v := .ref (ta 0)) (C := RX7) (T := TX7) (N := 16) hx hb hts iX7_hour_X7 hown hK hP 0 rfl rfl 0 (by decide) (hts _ mX7_hour_1) (fun _ h9 => h9) rfl dX7_hour_8 ?_
      refine lv_iconst (v := 0) hx hb dX7_hour_11 (by decide) ?_
      obtain ⟨hin, hrun⟩ := gd_some hrun
      refine va_iald hx hb hK hP 1 0 rfl rfl hin dX7_hour_12 ?_
      refine lv_icmp_ge (tgt := 78) hx hb dX7_hour_13 (by decide) (fun hc => ?_) (fun hc => ?_)
      · have hrun := it_t hc hrun
        exact c_J78 x1 z  hrun _ _ _ hP hD hS (lv_sub hl [0, 1] rfl)
      · have hrun := it_f hc hrun
        refine lv_aload_n hx hb dX7_hour_16 rfl (lv_at hl 0 rfl) ?_
        refine lv_iload_n hx hb dX7_hour_17 rfl (lv_at hl 3 rfl) ?_
        obtain ⟨q_3, hq_3, hrun⟩ := bd_some hrun
        refine cI_callV (As := [.int x3]) (rest := []) (wr := []) (wN := (wX7 kI kJ to ta z nst his len txt thr god prm npr cov siz pts rea pla bef has)) (ci := 6) (q0 := 0) hE (c_X7_isKnown l D kI kJ kS to ta x3 z nst his len txt thr god prm npr cov siz pts rea pla bef has hq_3) (cwV 1 hts gX7_hour_X7_isKnown rfl rfl rfl (by decide +kernel) ⟨Nat.le_of_ble_eq_true rfl, Nat.le_of_ble_eq_true rfl⟩) hP hD hS [0, 1, 2, 3, 4, 5, 6, 7, 8, 9] [] [0, 1, 2, 3, 4, 5, 6, 7, 8, 9] rfl rfl rfl rfl (by decide) rfl rfl rfl rfl rfl hl.1 rfl (Nat.le_of_ble_eq_true rfl) dX7_hour_18 ⟨Nat.le_of_ble_eq_true rfl, Nat.le_of_ble_eq_true rfl⟩ (fun H locs hP hD hS => ?_)
        refine lv_if_eq (tgt := 72) hx hb dX7_hour_21 (by decide) (fun hc => ?_) (fun hc => ?_)
        · have hrun := it_t hc hrun
          exact c_J72 x1 x2 x3 z (fX7_hour_L6  n) ih  hrun _ _ _ hP hD hS (lv_sub hl [0, 1, 2, 3] rfl)
        · have hrun := it_f hc hrun
          refine lv_aload_n hx hb dX7_hour_24 rfl (lv_at hl 0 rfl) ?_
          refine lv_iload_n hx hb dX7_hour_25 rfl (lv_at hl 3 rfl) ?_
          obtain ⟨q_4, hq_4, hrun⟩ := bd_some hrun
          refine cI_callV (As := [.int x3]) (rest := []) (wr := []) (wN := (wX7 kI kJ to ta q_4.2 nst his len txt thr god prm npr cov siz pts rea pla bef has)) (ci := 6) (q0 := 0) hE (c_X7_undecidedWithout l D kI kJ kS to ta x3 z nst his len txt thr god prm npr cov siz pts rea pla bef has hq_4) (cwV 1 hts gX7_hour_X7_undecidedWithout rfl rfl rfl (by decide +kernel) ⟨Nat.le_of_ble_eq_true rfl, Nat.le_of_ble_eq_true rfl⟩) hP hD hS [0, 1, 2, 3, 4, 5, 6, 7, 8, 9] [] [0, 1, 2, 3, 4, 5, 6, 7, 8, 9] rfl rfl rfl rfl (by decide) rfl rfl rfl rfl rfl hl.1 rfl (Nat.le_of_ble_eq_true rfl) dX7_hour_26 ⟨Nat.le_of_ble_eq_true rfl, Nat.le_of_ble_eq_true rfl⟩ (fun H locs hP hD hS => ?_)
          refine lv_istore (lv' := [(4, .int q_4.1), (0, .ref to), (1, .int x1), (2, .int x2), (3, .int x3)]) hx hb dX7_hour_29 hl (by decide) rfl (fun ls hl => ?_)
          refine lv_iload_n hx hb dX7_hour_31 rfl (lv_at hl 2 rfl) ?_
          refine lv_iconst (v := (-1)) hx hb dX7_hour_32 (by decide) ?_
          refine lv_icmp_eq (tgt := 42) hx hb dX7_hour_33 (by decide) (fun hc => ?_) (fun hc => ?_)
          · have hrun := it_t hc hrun
            exact c_J42 x1 x2 x3 q_4.1 q_4.2 (fX7_hour_L6  n) ih  hrun _ _ _ hP hD hS (lv_sub hl [1, 2, 3, 4, 0] rfl)
          · have hrun := it_f hc hrun
            refine lv_iload hx hb dX7_hour_36 (lv_at hl 0 rfl) ?_
            refine lv_iload_n hx hb dX7_hour_38 rfl (lv_at hl 3 rfl) ?_
            refine lv_icmp_ge (tgt := 46) hx hb dX7_hour_39 (by decide) (fun hc => ?_) (fun hc => ?_)
            · have hrun := it_t hc hrun
              refine lv_iconst (v := 0) hx hb dX7_hour_46 (by decide) ?_
              exact c_J47 x1 x2 x3 q_4.1 0 q_4.2 (fX7_hour_L6  n) ih  hrun _ _ _ hP hD hS (lv_sub hl [1, 2, 3, 4, 0] rfl)
            · have hrun := it_f hc hrun
              exact c_J42 x1 x2 x3 q_4.1 q_4.2 (fX7_hour_L6  n) ih  hrun _ _ _ hP hD hS (lv_sub hl [1, 2, 3, 4, 0] rfl)
  unfold fX7_hour at hrun
  refine lv_iconst (v := (-1)) hx hb dX7_hour_0 (by decide) ?_
  refine lv_istore_n (lv' := [(1, .int ((-1))), (0, .ref to)]) hx hb dX7_hour_1 rfl hl (by decide) rfl (fun ls hl => ?_)
  refine lv_iconst (v := 0) hx hb dX7_hour_2 (by decide) ?_
  refine lv_istore_n (lv' := [(2, .int 0), (1, .int ((-1))), (0, .ref to)]) hx hb dX7_hour_3 rfl hl (by decide) rfl (fun ls hl => ?_)
  refine lv_iconst (v := 0) hx hb dX7_hour_4 (by decide) ?_
  refine lv_istore_n (lv' := [(3, .int 0), (2, .int 0), (1, .int ((-1))), (0, .ref to)]) hx hb dX7_hour_5 rfl hl (by decide) rfl (fun ls hl => ?_)
  exact c_L6  5000 ((-1)) 0 0 z  hrun _ _ _ hP hD hS (lv_sub hl [3, 2, 1, 0] rfl)
/-! ===== X7_pass ===== -/
theorem mX7_pass_2 : Cond.fieldLink RX7 7 "GateMazeModel" "z" "[I" ∈ wsX7_pass := List.mem_of_getElem? (i := 2) rfl
theorem mX7_pass_1 : Cond.fieldLink RX7 38 "GateMazeModel" "thrown" "I" ∈ wsX7_pass := List.mem_of_getElem? (i := 1) rfl
theorem iX7_pass_X7 : ∀ w ∈ u_ws RX7 TX7 16, w ∈ wsX7_pass := fun w h => List.mem_cons_of_mem _ (List.mem_append_right _ h)
set_option maxHeartbeats 4000000 in
set_option maxRecDepth 100000 in
theorem c_X7_pass (l : Launch) (D : va_G) (kI kJ kS : ClassId) (to : Nat) (ta : Nat → Nat) (x1 : Int32) (z : (Nat → Int32)) (nst : Int32) (his : (Nat → Int32)) (len : Int32) (txt : (Nat → Int32)) (thr : Int32) (god : (Nat → Int64)) (prm : (Nat → Int32)) (npr : Int32) (cov : (Nat → Int32)) (siz : (Nat → Int32)) (pts : (Nat → Int32)) (rea : Int32) (pla : Int32) (bef : (Nat → Int32)) (has : Int64) {r : Int32 × (Nat → Int32) × Int32 × (Nat → Int32) × Int32} (hrun : fX7_pass z nst his x1 = some r) : cI l D (tyL kI kJ kS) false yX7_pass wsX7_pass (rmk 6 0 0 140) [.ref to, .int x1] (wX7 kI kJ to ta z nst his len txt thr god prm npr cov siz pts rea pla bef has) (wX7 kI kJ to ta r.2.1 r.2.2.1 r.2.2.2.1 len txt r.2.2.2.2 god prm npr cov siz pts rea pla bef has) r.1 := by
  refine cI_of (cc := cX7_pass) (maxL := 3) (by decide) rfl (Nat.le_of_ble_eq_true rfl) ?_
  intro p e s m av below meth c A Q ls hE hP hD hS hl hret
  have hE : ent_ p s m av meth c RX7 cX7_pass 3 (some .int) wsX7_pass (tyL kI kJ kS) D A false := hE
  obtain ⟨hx, hb, hml, hown, hts, hr, hlocks, hK, hA, hst⟩ := id hE
  have hl : lv_has ls 3 [(0, .ref to), (1, .int x1)] := hl
  have c_J58 : ∀ (z : (Nat → Int32)) (nst : Int32) (his : (Nat → Int32)) (thr : Int32), fX7_pass_J58 z nst his thr = some r → wAt p l e (rmk 6 0 0 140) s m av below meth c D A 3 0 0 Q 58 [] [(0, .ref to)] (wX7 kI kJ to ta z nst his len txt thr god prm npr cov siz pts rea pla bef has) := by
    intro z nst his thr hrun H locs ls hP hD hS hl
    unfold fX7_pass_J58 at hrun
    refine lv_aload_n hx hb dX7_pass_58 rfl (lv_at hl 0 rfl) ?_
    refine va_get (D := D) (ci := 6) (v := .ref (ta 0)) (C := RX7) (T := TX7) (N := 16) hx hb hts iX7_pass_X7 hown hK hP 0 rfl rfl 0 (by decide) (hts _ mX7_pass_2) (fun _ h9 => h9) rfl dX7_pass_59 ?_
    refine lv_iconst (v := 1) hx hb dX7_pass_62 (by decide) ?_
    obtain ⟨hin, hrun⟩ := gd_some hrun
    refine va_iald hx hb hK hP 1 0 rfl rfl hin dX7_pass_63 ?_
    obtain ⟨q_1, hq_1, hrun⟩ := bd_some hrun
    refine cI_callS (As := [.int (z ((1 : Int32)).toNatClampNeg)]) (rest := []) (wr := (wX7 kI kJ to ta z nst his len txt thr god prm npr cov siz pts rea pla bef has)) (wN := (wX7 kI kJ to ta z nst his len txt thr god prm npr cov siz pts rea pla bef has)) hE (c_X7_ones l D kI kJ kS (z ((1 : Int32)).toNatClampNeg)  hq_1) (va_cwS 1 hts gX7_pass_X7_ones rfl rfl rfl (by decide +kernel) ⟨Nat.le_of_ble_eq_true rfl, Nat.le_of_ble_eq_true rfl⟩) hP hD hS [] [0, 1, 2, 3, 4, 5, 6, 7, 8, 9] [0, 1, 2, 3, 4, 5, 6, 7, 8, 9] rfl rfl rfl rfl (by decide) rfl rfl rfl hl.1 rfl (Nat.le_of_ble_eq_true rfl) dX7_pass_64 ⟨Nat.le_of_ble_eq_true rfl, Nat.le_of_ble_eq_true rfl⟩ (fun H locs hP hD hS => ?_)
    obtain rfl := Option.some.inj hrun
    exact hret _ _ _ _ rfl dX7_pass_67 hP hD hS
  have c_L34 : ∀ (x1 : Int32) (nst : Int32) (his : (Nat → Int32)) (thr : Int32) (n : Nat) (x2 : Int32) (z : (Nat → Int32)), fX7_pass_L34 x1 nst his thr n x2 z = some r → wAt p l e (rmk 6 0 0 140) s m av below meth c D A 3 0 0 Q 34 [] [(0, .ref to), (1, .int x1), (2, .int x2)] (wX7 kI kJ to ta z nst his len txt thr god prm npr cov siz pts rea pla bef has) := by
    intro x1 nst his thr n
    induction n with
    | zero =>
      intro x2 z hrun
      rw [fX7_pass_L34] at hrun
      cases hrun
    | succ n ih =>
      intro x2 z hrun H locs ls hP hD hS hl
      rw [fX7_pass_L34] at hrun
      refine lv_iload_n hx hb dX7_pass_34 rfl (lv_at hl 2 rfl) ?_
      refine lv_iload_n hx hb dX7_pass_35 rfl (lv_at hl 1 rfl) ?_
      refine lv_icmp_ge (tgt := 58) hx hb dX7_pass_36 (by decide) (fun hc => ?_) (fun hc => ?_)
      · have hrun := it_t hc hrun
        exact c_J58 z nst his thr  hrun _ _ _ hP hD hS (lv_sub hl [0] rfl)
      · have hrun := it_f hc hrun
        refine lv_aload_n hx hb dX7_pass_39 rfl (lv_at hl 0 rfl) ?_
        refine va_get (D := D) (ci := 6) (v := .ref (ta 0)) (C := RX7) (T := TX7) (N := 16) hx hb hts iX7_pass_X7 hown hK hP 0 rfl rfl 0 (by decide) (hts _ mX7_pass_2) (fun _ h9 => h9) rfl dX7_pass_40 ?_
        refine lv_iconst (v := 1) hx hb dX7_pass_43 (by decide) ?_
        obtain ⟨hin, hrun⟩ := gd_some hrun
        refine va_iald hx hb hK hP 1 0 rfl rfl hin dX7_pass_44 ?_
        refine lv_if_le (tgt := 58) hx hb dX7_pass_45 (by decide) (fun hc => ?_) (fun hc => ?_)
        · have hrun := it_t hc hrun
          exact c_J58 z nst his thr  hrun _ _ _ hP hD hS (lv_sub hl [0] rfl)
        · have hrun := it_f hc hrun
          refine lv_aload_n hx hb dX7_pass_48 rfl (lv_at hl 0 rfl) ?_
          obtain ⟨q_2, hq_2, hrun⟩ := bd_some hrun
          refine cV_callV (As := []) (rest := []) (wr := []) (wN := (wX7 kI kJ to ta q_2 nst his len txt thr god prm npr cov siz pts rea pla bef has)) (ci := 6) (q0 := 0) hE (c_X7_hour l D kI kJ kS to ta  z nst his len txt thr god prm npr cov siz pts rea pla bef has hq_2) (cwV 0 hts gX7_pass_X7_hour rfl rfl rfl (by decide +kernel) ⟨Nat.le_of_ble_eq_true rfl, Nat.le_of_ble_eq_true rfl⟩) hP hD hS [0, 1, 2, 3, 4, 5, 6, 7, 8, 9] [] [0, 1, 2, 3, 4, 5, 6, 7, 8, 9] rfl rfl rfl rfl (by decide) rfl rfl rfl rfl rfl hl.1 rfl (Nat.le_of_ble_eq_true rfl) dX7_pass_49 ⟨Nat.le_of_ble_eq_true rfl, Nat.le_of_ble_eq_true rfl⟩ (fun H locs hP hD hS => ?_)
          refine lv_iinc (v := x2 + 1) (lv' := [(2, .int (x2 + 1)), (0, .ref to), (1, .int x1)]) hx hb dX7_pass_52 hl (k := 2) rfl rfl (by decide) rfl (fun ls hl => ?_)
          refine lv_goto (tgt := 34) hx hb dX7_pass_55 (by decide) ?_
          exact ih (x2 + 1) q_2  hrun _ _ _ hP hD hS (lv_sub hl [1, 2, 0] rfl)
  have c_J16 : ∀ (x1 : Int32) (s0 : Int32) (z : (Nat → Int32)) (nst : Int32) (his : (Nat → Int32)) (thr : Int32), fX7_pass_J16 x1 s0 z nst his = some r → wAt p l e (rmk 6 0 0 140) s m av below meth c D A 3 0 0 Q 16 [.int s0, .ref to] [(0, .ref to), (1, .int x1)] (wX7 kI kJ to ta z nst his len txt thr god prm npr cov siz pts rea pla bef has) := by
    intro x1 s0 z nst his thr hrun H locs ls hP hD hS hl
    unfold fX7_pass_J16 at hrun
    refine va_put (D := D) (ci := 6) (v := .int s0) (ty := .int) (C := RX7) (T := TX7) (N := 16) hx hb hts iX7_pass_X7 tyX7 tyX7_ok nmX7 hown hK hP hD hS 0 rfl rfl 5 (by decide) (hts _ mX7_pass_1) (fun _ h9 => h9) rfl (by decide +kernel) rfl rfl (Nat.le_of_ble_eq_true rfl) dX7_pass_16 (fun H locs hP hD hS => ?_)
    have hP : va_P D vwCl (wX7 kI kJ to ta z nst his len txt s0 god prm npr cov siz pts rea pla bef has) H := hP
    have hD : va_D A (wX7 kI kJ to ta z nst his len txt s0 god prm npr cov siz pts rea pla bef has) := hD
    refine lv_aload_n hx hb dX7_pass_19 rfl (lv_at hl 0 rfl) ?_
    refine va_get (D := D) (ci := 6) (v := .int s0) (C := RX7) (T := TX7) (N := 16) hx hb hts iX7_pass_X7 hown hK hP 0 rfl rfl 5 (by decide) (hts _ mX7_pass_1) (fun _ h9 => h9) rfl dX7_pass_20 ?_
    refine lv_if_le (tgt := 28) hx hb dX7_pass_23 (by decide) (fun hc => ?_) (fun hc => ?_)
    · have hrun := it_t hc hrun
      refine lv_aload_n hx hb dX7_pass_28 rfl (lv_at hl 0 rfl) ?_
      obtain ⟨q_3, hq_3, hrun⟩ := bd_some hrun
      refine cV_callV (As := []) (rest := []) (wr := []) (wN := (wX7 kI kJ to ta z q_3.1 q_3.2 len txt s0 god prm npr cov siz pts rea pla bef has)) (ci := 6) (q0 := 0) hE (c_X7_save l D kI kJ kS to ta  z nst his len txt s0 god prm npr cov siz pts rea pla bef has hq_3) (cwV 0 hts gX7_pass_X7_save rfl rfl rfl (by decide +kernel) ⟨Nat.le_of_ble_eq_true rfl, Nat.le_of_ble_eq_true rfl⟩) hP hD hS [0, 1, 2, 3, 4, 5, 6, 7, 8, 9] [] [0, 1, 2, 3, 4, 5, 6, 7, 8, 9] rfl rfl rfl rfl (by decide) rfl rfl rfl rfl rfl hl.1 rfl (Nat.le_of_ble_eq_true rfl) dX7_pass_29 ⟨Nat.le_of_ble_eq_true rfl, Nat.le_of_ble_eq_true rfl⟩ (fun H locs hP hD hS => ?_)
      refine lv_iconst (v := 0) hx hb dX7_pass_32 (by decide) ?_
      refine lv_istore_n (lv' := [(2, .int 0), (0, .ref to), (1, .int x1)]) hx hb dX7_pass_33 rfl hl (by decide) rfl (fun ls hl => ?_)
      exact c_L34 x1 q_3.1 q_3.2 s0 5000 0 z  hrun _ _ _ hP hD hS (lv_sub hl [1, 2, 0] rfl)
    · have hrun := it_f hc hrun
      refine lv_iconst (v := 0) hx hb dX7_pass_26 (by decide) ?_
      obtain rfl := Option.some.inj hrun
      exact hret _ _ _ _ rfl dX7_pass_27 hP hD hS
  unfold fX7_pass at hrun
  refine lv_aload_n hx hb dX7_pass_0 rfl (lv_at hl 0 rfl) ?_
  refine lv_iload_n hx hb dX7_pass_1 rfl (lv_at hl 1 rfl) ?_
  refine lv_iconst (v := 1) hx hb dX7_pass_2 (by decide) ?_
  refine lv_bipush (v := 6) hx hb dX7_pass_3 (by decide) ?_
  obtain ⟨q_4, hq_4, hrun⟩ := bd_some hrun
  refine cI_callS (As := [.int x1, .int 1, .int 6]) (rest := [.ref to]) (wr := (wX7 kI kJ to ta z nst his len txt thr god prm npr cov siz pts rea pla bef has)) (wN := (wX7 kI kJ to ta z nst his len txt thr god prm npr cov siz pts rea pla bef has)) hE (c_X7_within l D kI kJ kS x1 1 6  hq_4) (va_cwS 3 hts gX7_pass_X7_within rfl rfl rfl (by decide +kernel) ⟨Nat.le_of_ble_eq_true rfl, Nat.le_of_ble_eq_true rfl⟩) hP hD hS [] [0, 1, 2, 3, 4, 5, 6, 7, 8, 9] [0, 1, 2, 3, 4, 5, 6, 7, 8, 9] rfl rfl rfl rfl (by decide) rfl rfl rfl hl.1 rfl (Nat.le_of_ble_eq_true rfl) dX7_pass_5 ⟨Nat.le_of_ble_eq_true rfl, Nat.le_of_ble_eq_true rfl⟩ (fun H locs hP hD hS => ?_)
  refine lv_if_eq (tgt := 15) hx hb dX7_pass_8 (by decide) (fun hc => ?_) (fun hc => ?_)
  · have hrun := it_t hc hrun
    refine lv_iconst (v := 1) hx hb dX7_pass_15 (by decide) ?_
    exact c_J16 x1 1 z nst his thr hrun _ _ _ hP hD hS (lv_sub hl [0, 1] rfl)
  · have hrun := it_f hc hrun
    refine lv_iconst (v := 0) hx hb dX7_pass_11 (by decide) ?_
    refine lv_goto (tgt := 16) hx hb dX7_pass_12 (by decide) ?_
    exact c_J16 x1 0 z nst his thr hrun _ _ _ hP hD hS (lv_sub hl [0, 1] rfl)
/-! ===== X7_ask ===== -/
theorem mX7_ask_2 : Cond.fieldLink RX7 7 "GateMazeModel" "z" "[I" ∈ wsX7_ask := List.mem_of_getElem? (i := 2) rfl
theorem mX7_ask_1 : Cond.fieldLink RX7 38 "GateMazeModel" "thrown" "I" ∈ wsX7_ask := List.mem_of_getElem? (i := 1) rfl
theorem iX7_ask_X7 : ∀ w ∈ u_ws RX7 TX7 16, w ∈ wsX7_ask := fun w h => List.mem_cons_of_mem _ (List.mem_append_right _ h)
set_option maxHeartbeats 4000000 in
set_option maxRecDepth 100000 in
theorem c_X7_ask (l : Launch) (D : va_G) (kI kJ kS : ClassId) (to : Nat) (ta : Nat → Nat) (x1 : Int32) (z : (Nat → Int32)) (nst : Int32) (his : (Nat → Int32)) (len : Int32) (txt : (Nat → Int32)) (thr : Int32) (god : (Nat → Int64)) (prm : (Nat → Int32)) (npr : Int32) (cov : (Nat → Int32)) (siz : (Nat → Int32)) (pts : (Nat → Int32)) (rea : Int32) (pla : Int32) (bef : (Nat → Int32)) (has : Int64) {r : Int32 × (Nat → Int32) × Int32 × (Nat → Int32) × Int32 × (Nat → Int64) × (Nat → Int32) × Int32 × (Nat → Int32) × (Nat → Int32)} (hrun : fX7_ask z nst his god prm npr cov siz x1 = some r) : cI l D (tyL kI kJ kS) false yX7_ask wsX7_ask (rmk 6 0 0 140) [.ref to, .int x1] (wX7 kI kJ to ta z nst his len txt thr god prm npr cov siz pts rea pla bef has) (wX7 kI kJ to ta r.2.1 r.2.2.1 r.2.2.2.1 len txt r.2.2.2.2.1 r.2.2.2.2.2.1 r.2.2.2.2.2.2.1 r.2.2.2.2.2.2.2.1 r.2.2.2.2.2.2.2.2.1 r.2.2.2.2.2.2.2.2.2 pts rea pla bef has) r.1 := by
  refine cI_of (cc := cX7_ask) (maxL := 6) (by decide) rfl (Nat.le_of_ble_eq_true rfl) ?_
  intro p e s m av below meth c A Q ls hE hP hD hS hl hret
  have hE : ent_ p s m av meth c RX7 cX7_ask 6 (some .int) wsX7_ask (tyL kI kJ kS) D A false := hE
  obtain ⟨hx, hb, hml, hown, hts, hr, hlocks, hK, hA, hst⟩ := id hE
  have hl : lv_has ls 6 [(0, .ref to), (1, .int x1)] := hl
  have c_J130 : ∀ (x1 : Int32) (x2 : Int32) (x3 : Int32) (s0 : Int32) (s1 : Int32) (s2 : Int32) (z : (Nat → Int32)) (nst : Int32) (his : (Nat → Int32)) (thr : Int32) (god : (Nat → Int64)) (prm : (Nat → Int32)) (npr : Int32) (cov : (Nat → Int32)) (siz : (Nat → Int32)) (k48 : Int32 → Int32 → (Nat → Int32) → Option (Int32 × (Nat → Int32) × Int32 × (Nat → Int32) × Int32 × (Nat → Int64) × (Nat → Int32) × Int32 × (Nat → Int32) × (Nat → Int32))) (hk48 : (∀ (x2 : Int32) (x3 : Int32) (z : (Nat → Int32)), k48 x2 x3 z = some r → wAt p l e (rmk 6 0 0 140) s m av below meth c D A 6 0 0 Q 48 [] [(0, .ref to), (1, .int x1), (2, .int x2), (3, .int x3)] (wX7 kI kJ to ta z nst his len txt thr god prm npr cov siz pts rea pla bef has))), fX7_ask_J130 x1 x2 x3 s0 s1 s2 z nst his thr god prm npr cov siz k48 = some r → wAt p l e (rmk 6 0 0 140) s m av below meth c D A 6 0 0 Q 130 [.int s0, .int s1, .int s2, .ref (ta 0)] [(0, .ref to), (1, .int x1), (2, .int x2), (3, .int x3)] (wX7 kI kJ to ta z nst his len txt thr god prm npr cov siz pts rea pla bef has) := by
    intro x1 x2 x3 s0 s1 s2 z nst his thr god prm npr cov siz k48 hk48 hrun H locs ls hP hD hS hl
    unfold fX7_ask_J130 at hrun
    refine lv_iadd hx hb dX7_ask_130 ?_
    obtain ⟨hin, hrun⟩ := gd_some hrun
    refine va_iast hx hb hK hP hD hS 1 0 rfl rfl hin dX7_ask_131 (fun H locs hP hD hS => ?_)
    have hP : va_P D vwCl (wX7 kI kJ to ta (upd z s2.toNatClampNeg (s1 + s0)) nst his len txt thr god prm npr cov siz pts rea pla bef has) H := hP
    have hD : va_D A (wX7 kI kJ to ta (upd z s2.toNatClampNeg (s1 + s0)) nst his len txt thr god prm npr cov siz pts rea pla bef has) := hD
    refine lv_iinc (v := x3 + 1) (lv' := [(3, .int (x3 + 1)), (0, .ref to), (1, .int x1), (2, .int x2)]) hx hb dX7_ask_132 hl (k := 3) rfl rfl (by decide) rfl (fun ls hl => ?_)
    refine lv_goto (tgt := 48) hx hb dX7_ask_135 (by decide) ?_
    exact hk48 x2 (x3 + 1) (upd z s2.toNatClampNeg (s1 + s0))  hrun _ _ _ hP hD hS (lv_sub hl [1, 2, 3, 0] rfl)
  have c_J129 : ∀ (x1 : Int32) (x2 : Int32) (x3 : Int32) (s0 : Int32) (s1 : Int32) (z : (Nat → Int32)) (nst : Int32) (his : (Nat → Int32)) (thr : Int32) (god : (Nat → Int64)) (prm : (Nat → Int32)) (npr : Int32) (cov : (Nat → Int32)) (siz : (Nat → Int32)) (k48 : Int32 → Int32 → (Nat → Int32) → Option (Int32 × (Nat → Int32) × Int32 × (Nat → Int32) × Int32 × (Nat → Int64) × (Nat → Int32) × Int32 × (Nat → Int32) × (Nat → Int32))) (hk48 : (∀ (x2 : Int32) (x3 : Int32) (z : (Nat → Int32)), k48 x2 x3 z = some r → wAt p l e (rmk 6 0 0 140) s m av below meth c D A 6 0 0 Q 48 [] [(0, .ref to), (1, .int x1), (2, .int x2), (3, .int x3)] (wX7 kI kJ to ta z nst his len txt thr god prm npr cov siz pts rea pla bef has))), fX7_ask_J129 x1 x2 x3 s0 s1 z nst his thr god prm npr cov siz k48 = some r → wAt p l e (rmk 6 0 0 140) s m av below meth c D A 6 0 0 Q 129 [.int s0, .int s1, .ref (ta 0)] [(0, .ref to), (1, .int x1), (2, .int x2), (3, .int x3)] (wX7 kI kJ to ta z nst his len txt thr god prm npr cov siz pts rea pla bef has) := by
    intro x1 x2 x3 s0 s1 z nst his thr god prm npr cov siz k48 hk48 hrun H locs ls hP hD hS hl
    unfold fX7_ask_J129 at hrun
    refine lv_iconst (v := 0) hx hb dX7_ask_129 (by decide) ?_
    exact c_J130 x1 x2 x3 0 s0 s1 z nst his thr god prm npr cov siz k48 hk48  hrun _ _ _ hP hD hS (lv_sub hl [0, 1, 2, 3] rfl)
  have c_J100 : ∀ (x1 : Int32) (x2 : Int32) (x3 : Int32) (x4 : Int32) (x5 : Int32) (s0 : Int32) (s1 : Int32) (s2 : Int32) (z : (Nat → Int32)) (nst : Int32) (his : (Nat → Int32)) (thr : Int32) (god : (Nat → Int64)) (prm : (Nat → Int32)) (npr : Int32) (cov : (Nat → Int32)) (siz : (Nat → Int32)) (k48 : Int32 → Int32 → (Nat → Int32) → Option (Int32 × (Nat → Int32) × Int32 × (Nat → Int32) × Int32 × (Nat → Int64) × (Nat → Int32) × Int32 × (Nat → Int32) × (Nat → Int32))) (hk48 : (∀ (x2 : Int32) (x3 : Int32) (z : (Nat → Int32)), k48 x2 x3 z = some r → wAt p l e (rmk 6 0 0 140) s m av below meth c D A 6 0 0 Q 48 [] [(0, .ref to), (1, .int x1), (2, .int x2), (3, .int x3)] (wX7 kI kJ to ta z nst his len txt thr god prm npr cov siz pts rea pla bef has))), fX7_ask_J100 x1 x2 x3 x4 x5 s0 s1 s2 z nst his thr god prm npr cov siz k48 = some r → wAt p l e (rmk 6 0 0 140) s m av below meth c D A 6 0 0 Q 100 [.int s0, .int s1, .int s2, .ref (ta 0)] [(0, .ref to), (1, .int x1), (2, .int x2), (3, .int x3), (4, .int x4), (5, .int x5)] (wX7 kI kJ to ta z nst his len txt thr god prm npr cov siz pts rea pla bef has) := by
    intro x1 x2 x3 x4 x5 s0 s1 s2 z nst his thr god prm npr cov siz k48 hk48 hrun H locs ls hP hD hS hl
    unfold fX7_ask_J100 at hrun
    refine lv_iadd hx hb dX7_ask_100 ?_
    obtain ⟨hin, hrun⟩ := gd_some hrun
    refine va_iast hx hb hK hP hD hS 1 0 rfl rfl hin dX7_ask_101 (fun H locs hP hD hS => ?_)
    have hP : va_P D vwCl (wX7 kI kJ to ta (upd z s2.toNatClampNeg (s1 + s0)) nst his len txt thr god prm npr cov siz pts rea pla bef has) H := hP
    have hD : va_D A (wX7 kI kJ to ta (upd z s2.toNatClampNeg (s1 + s0)) nst his len txt thr god prm npr cov siz pts rea pla bef has) := hD
    refine lv_aload_n hx hb dX7_ask_102 rfl (lv_at hl 0 rfl) ?_
    refine va_get (D := D) (ci := 6) (v := .ref (ta 0)) (C := RX7) (T := TX7) (N := 16) hx hb hts iX7_ask_X7 hown hK hP 0 rfl rfl 0 (by decide) (hts _ mX7_ask_2) (fun _ h9 => h9) rfl dX7_ask_103 ?_
    refine lv_bipush (v := 8) hx hb dX7_ask_106 (by decide) ?_
    refine lv_iload_n hx hb dX7_ask_108 rfl (lv_at hl 3 rfl) ?_
    refine lv_iadd hx hb dX7_ask_109 ?_
    refine lv_dup2_11 hx hb dX7_ask_110 rfl rfl ?_
    obtain ⟨hin, hrun⟩ := gd_some hrun
    refine va_iald hx hb hK hP 1 0 rfl rfl hin dX7_ask_111 ?_
    refine lv_iload hx hb dX7_ask_112 (lv_at hl 5 rfl) ?_
    refine lv_iconst (v := 2) hx hb dX7_ask_114 (by decide) ?_
    refine lv_icmp_ge (tgt := 129) hx hb dX7_ask_115 (by decide) (fun hc => ?_) (fun hc => ?_)
    · have hrun := it_t hc hrun
      exact c_J129 x1 x2 x3 ((upd z s2.toNatClampNeg (s1 + s0)) (8 + x3).toNatClampNeg) (8 + x3) (upd z s2.toNatClampNeg (s1 + s0)) nst his thr god prm npr cov siz k48 hk48  hrun _ _ _ hP hD hS (lv_sub hl [0, 1, 2, 3] rfl)
    · have hrun := it_f hc hrun
      refine lv_iload hx hb dX7_ask_118 (lv_at hl 5 rfl) ?_
      refine lv_iload hx hb dX7_ask_120 (lv_at hl 4 rfl) ?_
      refine lv_icmp_eq (tgt := 129) hx hb dX7_ask_122 (by decide) (fun hc => ?_) (fun hc => ?_)
      · have hrun := it_t hc hrun
        exact c_J129 x1 x2 x3 ((upd z s2.toNatClampNeg (s1 + s0)) (8 + x3).toNatClampNeg) (8 + x3) (upd z s2.toNatClampNeg (s1 + s0)) nst his thr god prm npr cov siz k48 hk48  hrun _ _ _ hP hD hS (lv_sub hl [0, 1, 2, 3] rfl)
      · have hrun := it_f hc hrun
        refine lv_iconst (v := 1) hx hb dX7_ask_125 (by decide) ?_
        refine lv_goto (tgt := 130) hx hb dX7_ask_126 (by decide) ?_
        exact c_J130 x1 x2 x3 1 ((upd z s2.toNatClampNeg (s1 + s0)) (8 + x3).toNatClampNeg) (8 + x3) (upd z s2.toNatClampNeg (s1 + s0)) nst his thr god prm npr cov siz k48 hk48  hrun _ _ _ hP hD hS (lv_sub hl [0, 1, 2, 3] rfl)
  have c_L48 : ∀ (x1 : Int32) (nst : Int32) (his : (Nat → Int32)) (thr : Int32) (god : (Nat → Int64)) (prm : (Nat → Int32)) (npr : Int32) (cov : (Nat → Int32)) (siz : (Nat → Int32)) (n : Nat) (x2 : Int32) (x3 : Int32) (z : (Nat → Int32)), fX7_ask_L48 x1 nst his thr god prm npr cov siz n x2 x3 z = some r → wAt p l e (rmk 6 0 0 140) s m av below meth c D A 6 0 0 Q 48 [] [(0, .ref to), (1, .int x1), (2, .int x2), (3, .int x3)] (wX7 kI kJ to ta z nst his len txt thr god prm npr cov siz pts rea pla bef has) := by
    intro x1 nst his thr god prm npr cov siz n
    induction n with
    | zero =>
      intro x2 x3 z hrun
      rw [fX7_ask_L48] at hrun
      cases hrun
    | succ n ih =>
      intro x2 x3 z hrun H locs ls hP hD hS hl
      rw [fX7_ask_L48] at hrun
      refine lv_iload_n hx hb dX7_ask_48 rfl (lv_at hl 3 rfl) ?_
      refine lv_iconst (v := 4) hx hb dX7_ask_49 (by decide) ?_
      refine lv_icmp_ge (tgt := 138) hx hb dX7_ask_50 (by decide) (fun hc => ?_) (fun hc => ?_)
      · have hrun := it_t hc hrun
        refine lv_iload_n hx hb dX7_ask_138 rfl (lv_at hl 2 rfl) ?_
        obtain rfl := Option.some.inj hrun
        exact hret _ _ _ _ rfl dX7_ask_139 hP hD hS
      · have hrun := it_f hc hrun
        refine lv_aload_n hx hb dX7_ask_53 rfl (lv_at hl 0 rfl) ?_
        refine lv_iload_n hx hb dX7_ask_54 rfl (lv_at hl 3 rfl) ?_
        refine lv_iload_n hx hb dX7_ask_55 rfl (lv_at hl 1 rfl) ?_
        obtain ⟨q_1, hq_1, hrun⟩ := bd_some hrun
        refine cI_callV (As := [.int x3, .int x1]) (rest := []) (wr := []) (wN := (wX7 kI kJ to ta z nst his len txt thr god prm npr cov siz pts rea pla bef has)) (ci := 6) (q0 := 0) hE (c_X7_answer l D kI kJ kS to ta x3 x1 z nst his len txt thr god prm npr cov siz pts rea pla bef has hq_1) (cwV 2 hts gX7_ask_X7_answer rfl rfl rfl (by decide +kernel) ⟨Nat.le_of_ble_eq_true rfl, Nat.le_of_ble_eq_true rfl⟩) hP hD hS [0, 1, 2, 3, 4, 5, 6, 7, 8, 9] [] [0, 1, 2, 3, 4, 5, 6, 7, 8, 9] rfl rfl rfl rfl (by decide) rfl rfl rfl rfl rfl hl.1 rfl (Nat.le_of_ble_eq_true rfl) dX7_ask_56 ⟨Nat.le_of_ble_eq_true rfl, Nat.le_of_ble_eq_true rfl⟩ (fun H locs hP hD hS => ?_)
        refine lv_istore (lv' := [(4, .int q_1), (0, .ref to), (1, .int x1), (2, .int x2), (3, .int x3)]) hx hb dX7_ask_59 hl (by decide) rfl (fun ls hl => ?_)
        refine lv_aload_n hx hb dX7_ask_61 rfl (lv_at hl 1 rfl) ?_
        refine lv_iload_n hx hb dX7_ask_62 rfl (lv_at hl 4 rfl) ?_
        refine lv_iload_n hx hb dX7_ask_63 rfl (lv_at hl 2 rfl) ?_
        obtain ⟨q_2, hq_2, hrun⟩ := bd_some hrun
        refine cI_callV (As := [.int x3, .int x1]) (rest := []) (wr := []) (wN := (wX7 kI kJ to ta z nst his len txt thr god prm npr cov siz pts rea pla bef has)) (ci := 6) (q0 := 0) hE (c_X7_truth l D kI kJ kS to ta x3 x1 z nst his len txt thr god prm npr cov siz pts rea pla bef has hq_2) (cwV 2 hts gX7_ask_X7_truth rfl rfl rfl (by decide +kernel) ⟨Nat.le_of_ble_eq_true rfl, Nat.le_of_ble_eq_true rfl⟩) hP hD hS [0, 1, 2, 3, 4, 5, 6, 7, 8, 9] [] [0, 1, 2, 3, 4, 5, 6, 7, 8, 9] rfl rfl rfl rfl (by decide) rfl rfl rfl rfl rfl hl.1 rfl (Nat.le_of_ble_eq_true rfl) dX7_ask_64 ⟨Nat.le_of_ble_eq_true rfl, Nat.le_of_ble_eq_true rfl⟩ (fun H locs hP hD hS => ?_)
        refine lv_istore (lv' := [(5, .int q_2), (4, .int q_1), (0, .ref to), (1, .int x1), (2, .int x2), (3, .int x3)]) hx hb dX7_ask_67 hl (by decide) rfl (fun ls hl => ?_)
        refine lv_iload_n hx hb dX7_ask_69 rfl (lv_at hl 4 rfl) ?_
        refine lv_iload hx hb dX7_ask_70 (lv_at hl 1 rfl) ?_
        refine lv_iload_n hx hb dX7_ask_72 rfl (lv_at hl 5 rfl) ?_
        refine lv_ishl hx hb dX7_ask_73 ?_
        refine lv_ior hx hb dX7_ask_74 ?_
        refine lv_istore_n (lv' := [(2, .int (x2 ||| (q_1 <<< (x3 &&& 31)))), (5, .int q_2), (4, .int q_1), (0, .ref to), (1, .int x1), (3, .int x3)]) hx hb dX7_ask_75 rfl hl (by decide) rfl (fun ls hl => ?_)
        refine lv_aload_n hx hb dX7_ask_76 rfl (lv_at hl 3 rfl) ?_
        refine va_get (D := D) (ci := 6) (v := .ref (ta 0)) (C := RX7) (T := TX7) (N := 16) hx hb hts iX7_ask_X7 hown hK hP 0 rfl rfl 0 (by decide) (hts _ mX7_ask_2) (fun _ h9 => h9) rfl dX7_ask_77 ?_
        refine lv_iconst (v := 4) hx hb dX7_ask_80 (by decide) ?_
        refine lv_iload_n hx hb dX7_ask_81 rfl (lv_at hl 5 rfl) ?_
        refine lv_iadd hx hb dX7_ask_82 ?_
        refine lv_dup2_11 hx hb dX7_ask_83 rfl rfl ?_
        obtain ⟨hin, hrun⟩ := gd_some hrun
        refine va_iald hx hb hK hP 1 0 rfl rfl hin dX7_ask_84 ?_
        refine lv_aload_n hx hb dX7_ask_85 rfl (lv_at hl 3 rfl) ?_
        refine lv_iload_n hx hb dX7_ask_86 rfl (lv_at hl 5 rfl) ?_
        refine lv_iload_n hx hb dX7_ask_87 rfl (lv_at hl 4 rfl) ?_
        obtain ⟨q_3, hq_3, hrun⟩ := bd_some hrun
        refine cI_callV (As := [.int x3, .int x1]) (rest := [.int (z (4 + x3).toNatClampNeg), .int (4 + x3), .ref (ta 0)]) (wr := []) (wN := (wX7 kI kJ to ta z nst his len txt thr god prm npr cov siz pts rea pla bef has)) (ci := 6) (q0 := 0) hE (c_X7_decided l D kI kJ kS to ta x3 x1 z nst his len txt thr god prm npr cov siz pts rea pla bef has hq_3) (cwV 2 hts gX7_ask_X7_decided rfl rfl rfl (by decide +kernel) ⟨Nat.le_of_ble_eq_true rfl, Nat.le_of_ble_eq_true rfl⟩) hP hD hS [0, 1, 2, 3, 4, 5, 6, 7, 8, 9] [] [0, 1, 2, 3, 4, 5, 6, 7, 8, 9] rfl rfl rfl rfl (by decide) rfl rfl rfl rfl rfl hl.1 rfl (Nat.le_of_ble_eq_true rfl) dX7_ask_88 ⟨Nat.le_of_ble_eq_true rfl, Nat.le_of_ble_eq_true rfl⟩ (fun H locs hP hD hS => ?_)
        refine lv_iconst (v := 3) hx hb dX7_ask_91 (by decide) ?_
        refine lv_icmp_ne (tgt := 99) hx hb dX7_ask_92 (by decide) (fun hc => ?_) (fun hc => ?_)
        · have hrun := it_f hc hrun
          refine lv_iconst (v := 0) hx hb dX7_ask_99 (by decide) ?_
          exact c_J100 x1 (x2 ||| (q_1 <<< (x3 &&& 31))) x3 q_1 q_2 0 (z (4 + x3).toNatClampNeg) (4 + x3) z nst his thr god prm npr cov siz (fX7_ask_L48 x1 nst his thr god prm npr cov siz n) ih  hrun _ _ _ hP hD hS (lv_sub hl [3, 4, 0, 5, 2, 1] rfl)
        · have hrun := it_t hc hrun
          refine lv_iconst (v := 1) hx hb dX7_ask_95 (by decide) ?_
          refine lv_goto (tgt := 100) hx hb dX7_ask_96 (by decide) ?_
          exact c_J100 x1 (x2 ||| (q_1 <<< (x3 &&& 31))) x3 q_1 q_2 1 (z (4 + x3).toNatClampNeg) (4 + x3) z nst his thr god prm npr cov siz (fX7_ask_L48 x1 nst his thr god prm npr cov siz n) ih  hrun _ _ _ hP hD hS (lv_sub hl [3, 4, 0, 5, 2, 1] rfl)
  have c_J14 : ∀ (x1 : Int32) (s0 : Int32) (z : (Nat → Int32)) (nst : Int32) (his : (Nat → Int32)) (god : (Nat → Int64)) (prm : (Nat → Int32)) (npr : Int32) (cov : (Nat → Int32)) (siz : (Nat → Int32)) (thr : Int32), fX7_ask_J14 x1 s0 z nst his god prm npr cov siz = some r → wAt p l e (rmk 6 0 0 140) s m av below meth c D A 6 0 0 Q 14 [.int s0, .ref to] [(0, .ref to), (1, .int x1)] (wX7 kI kJ to ta z nst his len txt thr god prm npr cov siz pts rea pla bef has) := by
    intro x1 s0 z nst his god prm npr cov siz thr hrun H locs ls hP hD hS hl
    unfold fX7_ask_J14 at hrun
    refine va_put (D := D) (ci := 6) (v := .int s0) (ty := .int) (C := RX7) (T := TX7) (N := 16) hx hb hts iX7_ask_X7 tyX7 tyX7_ok nmX7 hown hK hP hD hS 0 rfl rfl 5 (by decide) (hts _ mX7_ask_1) (fun _ h9 => h9) rfl (by decide +kernel) rfl rfl (Nat.le_of_ble_eq_true rfl) dX7_ask_14 (fun H locs hP hD hS => ?_)
    have hP : va_P D vwCl (wX7 kI kJ to ta z nst his len txt s0 god prm npr cov siz pts rea pla bef has) H := hP
    have hD : va_D A (wX7 kI kJ to ta z nst his len txt s0 god prm npr cov siz pts rea pla bef has) := hD
    refine lv_aload_n hx hb dX7_ask_17 rfl (lv_at hl 0 rfl) ?_
    refine va_get (D := D) (ci := 6) (v := .int s0) (C := RX7) (T := TX7) (N := 16) hx hb hts iX7_ask_X7 hown hK hP 0 rfl rfl 5 (by decide) (hts _ mX7_ask_1) (fun _ h9 => h9) rfl dX7_ask_18 ?_
    refine lv_if_le (tgt := 26) hx hb dX7_ask_21 (by decide) (fun hc => ?_) (fun hc => ?_)
    · have hrun := it_t hc hrun
      refine lv_aload_n hx hb dX7_ask_26 rfl (lv_at hl 0 rfl) ?_
      obtain ⟨q_4, hq_4, hrun⟩ := bd_some hrun
      refine cV_callV (As := []) (rest := []) (wr := []) (wN := (wX7 kI kJ to ta z q_4.1 q_4.2 len txt s0 god prm npr cov siz pts rea pla bef has)) (ci := 6) (q0 := 0) hE (c_X7_save l D kI kJ kS to ta  z nst his len txt s0 god prm npr cov siz pts rea pla bef has hq_4) (cwV 0 hts gX7_ask_X7_save rfl rfl rfl (by decide +kernel) ⟨Nat.le_of_ble_eq_true rfl, Nat.le_of_ble_eq_true rfl⟩) hP hD hS [0, 1, 2, 3, 4, 5, 6, 7, 8, 9] [] [0, 1, 2, 3, 4, 5, 6, 7, 8, 9] rfl rfl rfl rfl (by decide) rfl rfl rfl rfl rfl hl.1 rfl (Nat.le_of_ble_eq_true rfl) dX7_ask_27 ⟨Nat.le_of_ble_eq_true rfl, Nat.le_of_ble_eq_true rfl⟩ (fun H locs hP hD hS => ?_)
      refine lv_aload_n hx hb dX7_ask_30 rfl (lv_at hl 0 rfl) ?_
      obtain ⟨q_5, hq_5, hrun⟩ := bd_some hrun
      refine cV_callV (As := []) (rest := []) (wr := []) (wN := (wX7 kI kJ to ta z q_4.1 q_4.2 len txt s0 q_5.1 q_5.2.1 q_5.2.2.1 q_5.2.2.2.1 q_5.2.2.2.2 pts rea pla bef has)) (ci := 6) (q0 := 0) hE (c_X7_layAll l D kI kJ kS to ta  z q_4.1 q_4.2 len txt s0 god prm npr cov siz pts rea pla bef has hq_5) (cwV 0 hts gX7_ask_X7_layAll rfl rfl rfl (by decide +kernel) ⟨Nat.le_of_ble_eq_true rfl, Nat.le_of_ble_eq_true rfl⟩) hP hD hS [0, 1, 2, 3, 4, 5, 6, 7, 8, 9] [] [0, 1, 2, 3, 4, 5, 6, 7, 8, 9] rfl rfl rfl rfl (by decide) rfl rfl rfl rfl rfl hl.1 rfl (Nat.le_of_ble_eq_true rfl) dX7_ask_31 ⟨Nat.le_of_ble_eq_true rfl, Nat.le_of_ble_eq_true rfl⟩ (fun H locs hP hD hS => ?_)
      refine lv_aload_n hx hb dX7_ask_34 rfl (lv_at hl 0 rfl) ?_
      refine va_get (D := D) (ci := 6) (v := .ref (ta 0)) (C := RX7) (T := TX7) (N := 16) hx hb hts iX7_ask_X7 hown hK hP 0 rfl rfl 0 (by decide) (hts _ mX7_ask_2) (fun _ h9 => h9) rfl dX7_ask_35 ?_
      refine lv_iconst (v := 2) hx hb dX7_ask_38 (by decide) ?_
      refine lv_dup2_11 hx hb dX7_ask_39 rfl rfl ?_
      obtain ⟨hin, hrun⟩ := gd_some hrun
      refine va_iald hx hb hK hP 1 0 rfl rfl hin dX7_ask_40 ?_
      refine lv_iconst (v := 1) hx hb dX7_ask_41 (by decide) ?_
      refine lv_iadd hx hb dX7_ask_42 ?_
      obtain ⟨hin, hrun⟩ := gd_some hrun
      refine va_iast hx hb hK hP hD hS 1 0 rfl rfl hin dX7_ask_43 (fun H locs hP hD hS => ?_)
      have hP : va_P D vwCl (wX7 kI kJ to ta (upd z ((2 : Int32)).toNatClampNeg ((z ((2 : Int32)).toNatClampNeg) + 1)) q_4.1 q_4.2 len txt s0 q_5.1 q_5.2.1 q_5.2.2.1 q_5.2.2.2.1 q_5.2.2.2.2 pts rea pla bef has) H := hP
      have hD : va_D A (wX7 kI kJ to ta (upd z ((2 : Int32)).toNatClampNeg ((z ((2 : Int32)).toNatClampNeg) + 1)) q_4.1 q_4.2 len txt s0 q_5.1 q_5.2.1 q_5.2.2.1 q_5.2.2.2.1 q_5.2.2.2.2 pts rea pla bef has) := hD
      obtain ⟨u_6, eu_6⟩ : ∃ y, y = upd z ((2 : Int32)).toNatClampNeg ((z ((2 : Int32)).toNatClampNeg) + 1) := ⟨_, rfl⟩
      have hrun := lt_some eu_6 hrun
      rw [← eu_6] at hP hD
      refine lv_iconst (v := 0) hx hb dX7_ask_44 (by decide) ?_
      refine lv_istore_n (lv' := [(2, .int 0), (0, .ref to), (1, .int x1)]) hx hb dX7_ask_45 rfl hl (by decide) rfl (fun ls hl => ?_)
      refine lv_iconst (v := 0) hx hb dX7_ask_46 (by decide) ?_
      refine lv_istore_n (lv' := [(3, .int 0), (2, .int 0), (0, .ref to), (1, .int x1)]) hx hb dX7_ask_47 rfl hl (by decide) rfl (fun ls hl => ?_)
      exact c_L48 x1 q_4.1 q_4.2 s0 q_5.1 q_5.2.1 q_5.2.2.1 q_5.2.2.2.1 q_5.2.2.2.2 5000 0 0 u_6  hrun _ _ _ hP hD hS (lv_sub hl [2, 3, 1, 0] rfl)
    · have hrun := it_f hc hrun
      refine lv_iconst (v := 0) hx hb dX7_ask_24 (by decide) ?_
      obtain rfl := Option.some.inj hrun
      exact hret _ _ _ _ rfl dX7_ask_25 hP hD hS
  unfold fX7_ask at hrun
  refine lv_aload_n hx hb dX7_ask_0 rfl (lv_at hl 0 rfl) ?_
  refine lv_aload_n hx hb dX7_ask_1 rfl (lv_at hl 0 rfl) ?_
  refine lv_iload_n hx hb dX7_ask_2 rfl (lv_at hl 1 rfl) ?_
  obtain ⟨q_7, hq_7, hrun⟩ := bd_some hrun
  refine cI_callV (As := [.int x1]) (rest := [.ref to]) (wr := []) (wN := (wX7 kI kJ to ta z nst his len txt thr god prm npr cov siz pts rea pla bef has)) (ci := 6) (q0 := 0) hE (c_X7_isRow l D kI kJ kS to ta x1 z nst his len txt thr god prm npr cov siz pts rea pla bef has hq_7) (cwV 1 hts gX7_ask_X7_isRow rfl rfl rfl (by decide +kernel) ⟨Nat.le_of_ble_eq_true rfl, Nat.le_of_ble_eq_true rfl⟩) hP hD hS [0, 1, 2, 3, 4, 5, 6, 7, 8, 9] [] [0, 1, 2, 3, 4, 5, 6, 7, 8, 9] rfl rfl rfl rfl (by decide) rfl rfl rfl rfl rfl hl.1 rfl (Nat.le_of_ble_eq_true rfl) dX7_ask_3 ⟨Nat.le_of_ble_eq_true rfl, Nat.le_of_ble_eq_true rfl⟩ (fun H locs hP hD hS => ?_)
  refine lv_if_eq (tgt := 13) hx hb dX7_ask_6 (by decide) (fun hc => ?_) (fun hc => ?_)
  · have hrun := it_t hc hrun
    refine lv_iconst (v := 1) hx hb dX7_ask_13 (by decide) ?_
    exact c_J14 x1 1 z nst his god prm npr cov siz thr hrun _ _ _ hP hD hS (lv_sub hl [0, 1] rfl)
  · have hrun := it_f hc hrun
    refine lv_iconst (v := 0) hx hb dX7_ask_9 (by decide) ?_
    refine lv_goto (tgt := 14) hx hb dX7_ask_10 (by decide) ?_
    exact c_J14 x1 0 z nst his god prm npr cov siz thr hrun _ _ _ hP hD hS (lv_sub hl [0, 1] rfl)
/-! ===== X7_append ===== -/
theorem mX7_append_2 : Cond.fieldLink RX7 38 "GateMazeModel" "thrown" "I" ∈ wsX7_append := List.mem_of_getElem? (i := 2) rfl
theorem mX7_append_3 : Cond.fieldLink RX7 16 "GateMazeModel" "text" "[I" ∈ wsX7_append := List.mem_of_getElem? (i := 3) rfl
theorem mX7_append_1 : Cond.fieldLink RX7 144 "GateMazeModel" "length" "I" ∈ wsX7_append := List.mem_of_getElem? (i := 1) rfl
theorem iX7_append_X7 : ∀ w ∈ u_ws RX7 TX7 16, w ∈ wsX7_append := fun w h => List.mem_cons_of_mem _ (List.mem_append_right _ h)
set_option maxHeartbeats 4000000 in
set_option maxRecDepth 100000 in
theorem c_X7_append (l : Launch) (D : va_G) (kI kJ kS : ClassId) (to : Nat) (ta : Nat → Nat) (x1 : Int32) (z : (Nat → Int32)) (nst : Int32) (his : (Nat → Int32)) (len : Int32) (txt : (Nat → Int32)) (thr : Int32) (god : (Nat → Int64)) (prm : (Nat → Int32)) (npr : Int32) (cov : (Nat → Int32)) (siz : (Nat → Int32)) (pts : (Nat → Int32)) (rea : Int32) (pla : Int32) (bef : (Nat → Int32)) (has : Int64) {r : Int32 × Int32 × (Nat → Int32) × Int32} (hrun : fX7_append len txt x1 = some r) : cI l D (tyL kI kJ kS) false yX7_append wsX7_append (rmk 1 0 0 22) [.ref to, .int x1] (wX7 kI kJ to ta z nst his len txt thr god prm npr cov siz pts rea pla bef has) (wX7 kI kJ to ta z nst his r.2.1 r.2.2.1 r.2.2.2 god prm npr cov siz pts rea pla bef has) r.1 := by
  refine cI_of (cc := cX7_append) (maxL := 2) (by decide) rfl (Nat.le_of_ble_eq_true rfl) ?_
  intro p e s m av below meth c A Q ls hE hP hD hS hl hret
  have hE : ent_ p s m av meth c RX7 cX7_append 2 (some .int) wsX7_append (tyL kI kJ kS) D A false := hE
  obtain ⟨hx, hb, hml, hown, hts, hr, hlocks, hK, hA, hst⟩ := id hE
  have hl : lv_has ls 2 [(0, .ref to), (1, .int x1)] := hl
  have c_J30 : ∀ (x1 : Int32) (s0 : Int32) (len : Int32) (txt : (Nat → Int32)) (thr : Int32), fX7_append_J30 x1 s0 len txt = some r → wAt p l e (rmk 1 0 0 22) s m av below meth c D A 2 0 0 Q 30 [.int s0, .ref to] [(0, .ref to), (1, .int x1)] (wX7 kI kJ to ta z nst his len txt thr god prm npr cov siz pts rea pla bef has) := by
    intro x1 s0 len txt thr hrun H locs ls hP hD hS hl
    unfold fX7_append_J30 at hrun
    refine va_put (D := D) (ci := 6) (v := .int s0) (ty := .int) (C := RX7) (T := TX7) (N := 16) hx hb hts iX7_append_X7 tyX7 tyX7_ok nmX7 hown hK hP hD hS 0 rfl rfl 5 (by decide) (hts _ mX7_append_2) (fun _ h9 => h9) rfl (by decide +kernel) rfl rfl (Nat.le_of_ble_eq_true rfl) dX7_append_30 (fun H locs hP hD hS => ?_)
    have hP : va_P D vwCl (wX7 kI kJ to ta z nst his len txt s0 god prm npr cov siz pts rea pla bef has) H := hP
    have hD : va_D A (wX7 kI kJ to ta z nst his len txt s0 god prm npr cov siz pts rea pla bef has) := hD
    refine lv_aload_n hx hb dX7_append_33 rfl (lv_at hl 0 rfl) ?_
    refine va_get (D := D) (ci := 6) (v := .int s0) (C := RX7) (T := TX7) (N := 16) hx hb hts iX7_append_X7 hown hK hP 0 rfl rfl 5 (by decide) (hts _ mX7_append_2) (fun _ h9 => h9) rfl dX7_append_34 ?_
    refine lv_if_le (tgt := 42) hx hb dX7_append_37 (by decide) (fun hc => ?_) (fun hc => ?_)
    · have hrun := it_t hc hrun
      refine lv_aload_n hx hb dX7_append_42 rfl (lv_at hl 0 rfl) ?_
      refine va_get (D := D) (ci := 6) (v := .ref (ta 2)) (C := RX7) (T := TX7) (N := 16) hx hb hts iX7_append_X7 hown hK hP 0 rfl rfl 4 (by decide) (hts _ mX7_append_3) (fun _ h9 => h9) rfl dX7_append_43 ?_
      refine lv_aload_n hx hb dX7_append_46 rfl (lv_at hl 0 rfl) ?_
      refine va_get (D := D) (ci := 6) (v := .int len) (C := RX7) (T := TX7) (N := 16) hx hb hts iX7_append_X7 hown hK hP 0 rfl rfl 3 (by decide) (hts _ mX7_append_1) (fun _ h9 => h9) rfl dX7_append_47 ?_
      refine lv_iload_n hx hb dX7_append_50 rfl (lv_at hl 1 rfl) ?_
      obtain ⟨hin, hrun⟩ := gd_some hrun
      refine va_iast hx hb hK hP hD hS 3 0 rfl rfl hin dX7_append_51 (fun H locs hP hD hS => ?_)
      have hP : va_P D vwCl (wX7 kI kJ to ta z nst his len (upd txt len.toNatClampNeg x1) s0 god prm npr cov siz pts rea pla bef has) H := hP
      have hD : va_D A (wX7 kI kJ to ta z nst his len (upd txt len.toNatClampNeg x1) s0 god prm npr cov siz pts rea pla bef has) := hD
      refine lv_aload_n hx hb dX7_append_52 rfl (lv_at hl 0 rfl) ?_
      refine lv_dup hx hb dX7_append_53 rfl ?_
      refine va_get (D := D) (ci := 6) (v := .int len) (C := RX7) (T := TX7) (N := 16) hx hb hts iX7_append_X7 hown hK hP 0 rfl rfl 3 (by decide) (hts _ mX7_append_1) (fun _ h9 => h9) rfl dX7_append_54 ?_
      refine lv_iconst (v := 1) hx hb dX7_append_57 (by decide) ?_
      refine lv_iadd hx hb dX7_append_58 ?_
      refine va_put (D := D) (ci := 6) (v := .int (len + 1)) (ty := .int) (C := RX7) (T := TX7) (N := 16) hx hb hts iX7_append_X7 tyX7 tyX7_ok nmX7 hown hK hP hD hS 0 rfl rfl 3 (by decide) (hts _ mX7_append_1) (fun _ h9 => h9) rfl (by decide +kernel) rfl rfl (Nat.le_of_ble_eq_true rfl) dX7_append_59 (fun H locs hP hD hS => ?_)
      have hP : va_P D vwCl (wX7 kI kJ to ta z nst his (len + 1) (upd txt len.toNatClampNeg x1) s0 god prm npr cov siz pts rea pla bef has) H := hP
      have hD : va_D A (wX7 kI kJ to ta z nst his (len + 1) (upd txt len.toNatClampNeg x1) s0 god prm npr cov siz pts rea pla bef has) := hD
      refine lv_aload_n hx hb dX7_append_62 rfl (lv_at hl 0 rfl) ?_
      refine va_get (D := D) (ci := 6) (v := .int (len + 1)) (C := RX7) (T := TX7) (N := 16) hx hb hts iX7_append_X7 hown hK hP 0 rfl rfl 3 (by decide) (hts _ mX7_append_1) (fun _ h9 => h9) rfl dX7_append_63 ?_
      obtain rfl := Option.some.inj hrun
      exact hret _ _ _ _ rfl dX7_append_66 hP hD hS
    · have hrun := it_f hc hrun
      refine lv_iconst (v := 0) hx hb dX7_append_40 (by decide) ?_
      obtain rfl := Option.some.inj hrun
      exact hret _ _ _ _ rfl dX7_append_41 hP hD hS
  unfold fX7_append at hrun
  refine lv_aload_n hx hb dX7_append_0 rfl (lv_at hl 0 rfl) ?_
  refine lv_iload_n hx hb dX7_append_1 rfl (lv_at hl 1 rfl) ?_
  refine lv_bipush (v := 33) hx hb dX7_append_2 (by decide) ?_
  refine lv_bipush (v := 126) hx hb dX7_append_4 (by decide) ?_
  obtain ⟨q_1, hq_1, hrun⟩ := bd_some hrun
  refine cI_callS (As := [.int x1, .int 33, .int 126]) (rest := [.ref to]) (wr := (wX7 kI kJ to ta z nst his len txt thr god prm npr cov siz pts rea pla bef has)) (wN := (wX7 kI kJ to ta z nst his len txt thr god prm npr cov siz pts rea pla bef has)) hE (c_X7_within l D kI kJ kS x1 33 126  hq_1) (va_cwS 3 hts gX7_append_X7_within rfl rfl rfl (by decide +kernel) ⟨Nat.le_of_ble_eq_true rfl, Nat.le_of_ble_eq_true rfl⟩) hP hD hS [] [0, 1, 2, 3, 4, 5, 6, 7, 8, 9] [0, 1, 2, 3, 4, 5, 6, 7, 8, 9] rfl rfl rfl rfl (by decide) rfl rfl rfl hl.1 rfl (Nat.le_of_ble_eq_true rfl) dX7_append_6 ⟨Nat.le_of_ble_eq_true rfl, Nat.le_of_ble_eq_true rfl⟩ (fun H locs hP hD hS => ?_)
  refine lv_if_ne (tgt := 16) hx hb dX7_append_9 (by decide) (fun hc => ?_) (fun hc => ?_)
  · have hrun := it_f hc hrun
    refine lv_aload_n hx hb dX7_append_16 rfl (lv_at hl 0 rfl) ?_
    refine va_get (D := D) (ci := 6) (v := .int len) (C := RX7) (T := TX7) (N := 16) hx hb hts iX7_append_X7 hown hK hP 0 rfl rfl 3 (by decide) (hts _ mX7_append_1) (fun _ h9 => h9) rfl dX7_append_17 ?_
    refine lv_bipush (v := 60) hx hb dX7_append_20 (by decide) ?_
    refine lv_icmp_ne (tgt := 29) hx hb dX7_append_22 (by decide) (fun hc => ?_) (fun hc => ?_)
    · have hrun := it_f hc hrun
      refine lv_iconst (v := 0) hx hb dX7_append_29 (by decide) ?_
      exact c_J30 x1 0 len txt thr hrun _ _ _ hP hD hS (lv_sub hl [0, 1] rfl)
    · have hrun := it_t hc hrun
      refine lv_iconst (v := 2) hx hb dX7_append_25 (by decide) ?_
      refine lv_goto (tgt := 30) hx hb dX7_append_26 (by decide) ?_
      exact c_J30 x1 2 len txt thr hrun _ _ _ hP hD hS (lv_sub hl [0, 1] rfl)
  · have hrun := it_t hc hrun
    refine lv_iconst (v := 1) hx hb dX7_append_12 (by decide) ?_
    refine lv_goto (tgt := 30) hx hb dX7_append_13 (by decide) ?_
    exact c_J30 x1 1 len txt thr hrun _ _ _ hP hD hS (lv_sub hl [0, 1] rfl)
/-! ===== X7_clearBuffer ===== -/
theorem mX7_clearBuffer_1 : Cond.fieldLink RX7 38 "GateMazeModel" "thrown" "I" ∈ wsX7_clearBuffer := List.mem_of_getElem? (i := 1) rfl
theorem mX7_clearBuffer_2 : Cond.fieldLink RX7 144 "GateMazeModel" "length" "I" ∈ wsX7_clearBuffer := List.mem_of_getElem? (i := 2) rfl
theorem iX7_clearBuffer_X7 : ∀ w ∈ u_ws RX7 TX7 16, w ∈ wsX7_clearBuffer := fun w h => List.mem_cons_of_mem _ (List.mem_append_right _ h)
set_option maxHeartbeats 4000000 in
set_option maxRecDepth 100000 in
theorem c_X7_clearBuffer (l : Launch) (D : va_G) (kI kJ kS : ClassId) (to : Nat) (ta : Nat → Nat) (z : (Nat → Int32)) (nst : Int32) (his : (Nat → Int32)) (len : Int32) (txt : (Nat → Int32)) (thr : Int32) (god : (Nat → Int64)) (prm : (Nat → Int32)) (npr : Int32) (cov : (Nat → Int32)) (siz : (Nat → Int32)) (pts : (Nat → Int32)) (rea : Int32) (pla : Int32) (bef : (Nat → Int32)) (has : Int64) {r : Int32 × Int32 × Int32} (hrun : fX7_clearBuffer len = some r) : cI l D (tyL kI kJ kS) false yX7_clearBuffer wsX7_clearBuffer (rmk 0 0 0 0) [.ref to] (wX7 kI kJ to ta z nst his len txt thr god prm npr cov siz pts rea pla bef has) (wX7 kI kJ to ta z nst his r.2.1 txt r.2.2 god prm npr cov siz pts rea pla bef has) r.1 := by
  refine cI_of (cc := cX7_clearBuffer) (maxL := 2) (by decide) rfl (Nat.le_of_ble_eq_true rfl) ?_
  intro p e s m av below meth c A Q ls hE hP hD hS hl hret
  have hE : ent_ p s m av meth c RX7 cX7_clearBuffer 2 (some .int) wsX7_clearBuffer (tyL kI kJ kS) D A false := hE
  obtain ⟨hx, hb, hml, hown, hts, hr, hlocks, hK, hA, hst⟩ := id hE
  have hl : lv_has ls 2 [(0, .ref to)] := hl
  unfold fX7_clearBuffer at hrun
  refine lv_aload_n hx hb dX7_clearBuffer_0 rfl (lv_at hl 0 rfl) ?_
  refine lv_iconst (v := 0) hx hb dX7_clearBuffer_1 (by decide) ?_
  refine va_put (D := D) (ci := 6) (v := .int 0) (ty := .int) (C := RX7) (T := TX7) (N := 16) hx hb hts iX7_clearBuffer_X7 tyX7 tyX7_ok nmX7 hown hK hP hD hS 0 rfl rfl 5 (by decide) (hts _ mX7_clearBuffer_1) (fun _ h9 => h9) rfl (by decide +kernel) rfl rfl (Nat.le_of_ble_eq_true rfl) dX7_clearBuffer_2 (fun H locs hP hD hS => ?_)
  have hP : va_P D vwCl (wX7 kI kJ to ta z nst his len txt 0 god prm npr cov siz pts rea pla bef has) H := hP
  have hD : va_D A (wX7 kI kJ to ta z nst his len txt 0 god prm npr cov siz pts rea pla bef has) := hD
  refine lv_aload_n hx hb dX7_clearBuffer_5 rfl (lv_at hl 0 rfl) ?_
  refine va_get (D := D) (ci := 6) (v := .int len) (C := RX7) (T := TX7) (N := 16) hx hb hts iX7_clearBuffer_X7 hown hK hP 0 rfl rfl 3 (by decide) (hts _ mX7_clearBuffer_2) (fun _ h9 => h9) rfl dX7_clearBuffer_6 ?_
  refine lv_istore_n (lv' := [(1, .int len), (0, .ref to)]) hx hb dX7_clearBuffer_9 rfl hl (by decide) rfl (fun ls hl => ?_)
  refine lv_aload_n hx hb dX7_clearBuffer_10 rfl (lv_at hl 1 rfl) ?_
  refine lv_iconst (v := 0) hx hb dX7_clearBuffer_11 (by decide) ?_
  refine va_put (D := D) (ci := 6) (v := .int 0) (ty := .int) (C := RX7) (T := TX7) (N := 16) hx hb hts iX7_clearBuffer_X7 tyX7 tyX7_ok nmX7 hown hK hP hD hS 0 rfl rfl 3 (by decide) (hts _ mX7_clearBuffer_2) (fun _ h9 => h9) rfl (by decide +kernel) rfl rfl (Nat.le_of_ble_eq_true rfl) dX7_clearBuffer_12 (fun H locs hP hD hS => ?_)
  have hP : va_P D vwCl (wX7 kI kJ to ta z nst his 0 txt 0 god prm npr cov siz pts rea pla bef has) H := hP
  have hD : va_D A (wX7 kI kJ to ta z nst his 0 txt 0 god prm npr cov siz pts rea pla bef has) := hD
  refine lv_iload_n hx hb dX7_clearBuffer_15 rfl (lv_at hl 0 rfl) ?_
  obtain rfl := Option.some.inj hrun
  exact hret _ _ _ _ rfl dX7_clearBuffer_16 hP hD hS
/-! ===== X7_takesInput ===== -/
theorem mX7_takesInput_2 : Cond.fieldLink RX7 32 "GateMazeModel" "parts" "[I" ∈ wsX7_takesInput := List.mem_of_getElem? (i := 2) rfl
theorem mX7_takesInput_3 : Cond.fieldLink RX7 150 "GateMazeModel" "place" "I" ∈ wsX7_takesInput := List.mem_of_getElem? (i := 3) rfl
theorem mX7_takesInput_1 : Cond.fieldLink RX7 147 "GateMazeModel" "read" "I" ∈ wsX7_takesInput := List.mem_of_getElem? (i := 1) rfl
theorem iX7_takesInput_X7 : ∀ w ∈ u_ws RX7 TX7 16, w ∈ wsX7_takesInput := fun w h => List.mem_cons_of_mem _ (List.mem_append_right _ h)
set_option maxHeartbeats 4000000 in
set_option maxRecDepth 100000 in
theorem c_X7_takesInput (l : Launch) (D : va_G) (kI kJ kS : ClassId) (to : Nat) (ta : Nat → Nat) (x1 : Int32) (z : (Nat → Int32)) (nst : Int32) (his : (Nat → Int32)) (len : Int32) (txt : (Nat → Int32)) (thr : Int32) (god : (Nat → Int64)) (prm : (Nat → Int32)) (npr : Int32) (cov : (Nat → Int32)) (siz : (Nat → Int32)) (pts : (Nat → Int32)) (rea : Int32) (pla : Int32) (bef : (Nat → Int32)) (has : Int64) {r : Int32 × (Nat → Int32)} (hrun : fX7_takesInput pts rea pla x1 = some r) : cI l D (tyL kI kJ kS) false yX7_takesInput wsX7_takesInput (rmk 0 0 0 0) [.ref to, .int x1] (wX7 kI kJ to ta z nst his len txt thr god prm npr cov siz pts rea pla bef has) (wX7 kI kJ to ta z nst his len txt thr god prm npr cov siz r.2 rea pla bef has) r.1 := by
  refine cI_of (cc := cX7_takesInput) (maxL := 3) (by decide) rfl (Nat.le_of_ble_eq_true rfl) ?_
  intro p e s m av below meth c A Q ls hE hP hD hS hl hret
  have hE : ent_ p s m av meth c RX7 cX7_takesInput 3 (some .boolean) wsX7_takesInput (tyL kI kJ kS) D A false := hE
  obtain ⟨hx, hb, hml, hown, hts, hr, hlocks, hK, hA, hst⟩ := id hE
  have hl : lv_has ls 3 [(0, .ref to), (1, .int x1)] := hl
  have c_J107 : ∀ (x1 : Int32) (s0 : Int32) (s1 : Int32) (s2 : Int32) (pts : (Nat → Int32)), fX7_takesInput_J107 x1 s0 s1 s2 pts = some r → wAt p l e (rmk 0 0 0 0) s m av below meth c D A 3 0 0 Q 107 [.int s0, .int s1, .int s2, .ref (ta 7)] [(1, .int x1)] (wX7 kI kJ to ta z nst his len txt thr god prm npr cov siz pts rea pla bef has) := by
    intro x1 s0 s1 s2 pts hrun H locs ls hP hD hS hl
    unfold fX7_takesInput_J107 at hrun
    refine lv_ior hx hb dX7_takesInput_107 ?_
    obtain ⟨hin, hrun⟩ := gd_some hrun
    refine va_iast hx hb hK hP hD hS 8 0 rfl rfl hin dX7_takesInput_108 (fun H locs hP hD hS => ?_)
    have hP : va_P D vwCl (wX7 kI kJ to ta z nst his len txt thr god prm npr cov siz (upd pts s2.toNatClampNeg (s1 ||| s0)) rea pla bef has) H := hP
    have hD : va_D A (wX7 kI kJ to ta z nst his len txt thr god prm npr cov siz (upd pts s2.toNatClampNeg (s1 ||| s0)) rea pla bef has) := hD
    refine lv_iload_n hx hb dX7_takesInput_109 rfl (lv_at hl 0 rfl) ?_
    refine lv_bipush (v := 48) hx hb dX7_takesInput_110 (by decide) ?_
    refine lv_icmp_eq (tgt := 127) hx hb dX7_takesInput_112 (by decide) (fun hc => ?_) (fun hc => ?_)
    · have hrun := it_t hc hrun
      refine lv_iconst (v := 1) hx hb dX7_takesInput_127 (by decide) ?_
      refine lv_goto (tgt := 132) hx hb dX7_takesInput_128 (by decide) ?_
      obtain rfl := Option.some.inj hrun
      exact hret _ _ _ _ (show narrow .boolean (.int 1) = .int 1 from rfl) dX7_takesInput_132 hP hD hS
    · have hrun := it_f hc hrun
      refine lv_iload_n hx hb dX7_takesInput_115 rfl (lv_at hl 0 rfl) ?_
      refine lv_bipush (v := 49) hx hb dX7_takesInput_116 (by decide) ?_
      refine lv_icmp_eq (tgt := 127) hx hb dX7_takesInput_118 (by decide) (fun hc => ?_) (fun hc => ?_)
      · have hrun := it_t hc hrun
        refine lv_iconst (v := 1) hx hb dX7_takesInput_127 (by decide) ?_
        refine lv_goto (tgt := 132) hx hb dX7_takesInput_128 (by decide) ?_
        obtain rfl := Option.some.inj hrun
        exact hret _ _ _ _ (show narrow .boolean (.int 1) = .int 1 from rfl) dX7_takesInput_132 hP hD hS
      · have hrun := it_f hc hrun
        refine lv_iload_n hx hb dX7_takesInput_121 rfl (lv_at hl 0 rfl) ?_
        refine lv_bipush (v := 45) hx hb dX7_takesInput_122 (by decide) ?_
        refine lv_icmp_ne (tgt := 131) hx hb dX7_takesInput_124 (by decide) (fun hc => ?_) (fun hc => ?_)
        · have hrun := it_f hc hrun
          refine lv_iconst (v := 0) hx hb dX7_takesInput_131 (by decide) ?_
          obtain rfl := Option.some.inj hrun
          exact hret _ _ _ _ (show narrow .boolean (.int 0) = .int 0 from rfl) dX7_takesInput_132 hP hD hS
        · have hrun := it_t hc hrun
          refine lv_iconst (v := 1) hx hb dX7_takesInput_127 (by decide) ?_
          refine lv_goto (tgt := 132) hx hb dX7_takesInput_128 (by decide) ?_
          obtain rfl := Option.some.inj hrun
          exact hret _ _ _ _ (show narrow .boolean (.int 1) = .int 1 from rfl) dX7_takesInput_132 hP hD hS
  have c_J80 : ∀ (x1 : Int32) (x2 : Int32) (s0 : Int32) (s1 : Int32) (s2 : Int32) (pts : (Nat → Int32)), fX7_takesInput_J80 x1 x2 s0 s1 s2 pts pla = some r → wAt p l e (rmk 0 0 0 0) s m av below meth c D A 3 0 0 Q 80 [.int s0, .int s1, .int s2, .ref (ta 7)] [(0, .ref to), (1, .int x1), (2, .int x2)] (wX7 kI kJ to ta z nst his len txt thr god prm npr cov siz pts rea pla bef has) := by
    intro x1 x2 s0 s1 s2 pts hrun H locs ls hP hD hS hl
    unfold fX7_takesInput_J80 at hrun
    refine lv_ior hx hb dX7_takesInput_80 ?_
    obtain ⟨hin, hrun⟩ := gd_some hrun
    refine va_iast hx hb hK hP hD hS 8 0 rfl rfl hin dX7_takesInput_81 (fun H locs hP hD hS => ?_)
    have hP : va_P D vwCl (wX7 kI kJ to ta z nst his len txt thr god prm npr cov siz (upd pts s2.toNatClampNeg (s1 ||| s0)) rea pla bef has) H := hP
    have hD : va_D A (wX7 kI kJ to ta z nst his len txt thr god prm npr cov siz (upd pts s2.toNatClampNeg (s1 ||| s0)) rea pla bef has) := hD
    refine lv_aload_n hx hb dX7_takesInput_82 rfl (lv_at hl 0 rfl) ?_
    refine va_get (D := D) (ci := 6) (v := .ref (ta 7)) (C := RX7) (T := TX7) (N := 16) hx hb hts iX7_takesInput_X7 hown hK hP 0 rfl rfl 11 (by decide) (hts _ mX7_takesInput_2) (fun _ h9 => h9) rfl dX7_takesInput_83 ?_
    refine lv_iload_n hx hb dX7_takesInput_86 rfl (lv_at hl 2 rfl) ?_
    refine lv_iconst (v := 1) hx hb dX7_takesInput_87 (by decide) ?_
    refine lv_iadd hx hb dX7_takesInput_88 ?_
    refine lv_dup2_11 hx hb dX7_takesInput_89 rfl rfl ?_
    obtain ⟨hin, hrun⟩ := gd_some hrun
    refine va_iald hx hb hK hP 8 0 rfl rfl hin dX7_takesInput_90 ?_
    refine lv_iload_n hx hb dX7_takesInput_91 rfl (lv_at hl 1 rfl) ?_
    refine lv_bipush (v := 49) hx hb dX7_takesInput_92 (by decide) ?_
    refine lv_icmp_ne (tgt := 106) hx hb dX7_takesInput_94 (by decide) (fun hc => ?_) (fun hc => ?_)
    · have hrun := it_f hc hrun
      refine lv_iconst (v := 0) hx hb dX7_takesInput_106 (by decide) ?_
      exact c_J107 x1 0 ((upd pts s2.toNatClampNeg (s1 ||| s0)) (x2 + 1).toNatClampNeg) (x2 + 1) (upd pts s2.toNatClampNeg (s1 ||| s0))  hrun _ _ _ hP hD hS (lv_sub hl [1] rfl)
    · have hrun := it_t hc hrun
      refine lv_iconst (v := 1) hx hb dX7_takesInput_97 (by decide) ?_
      refine lv_aload_n hx hb dX7_takesInput_98 rfl (lv_at hl 0 rfl) ?_
      refine va_get (D := D) (ci := 6) (v := .int pla) (C := RX7) (T := TX7) (N := 16) hx hb hts iX7_takesInput_X7 hown hK hP 0 rfl rfl 13 (by decide) (hts _ mX7_takesInput_3) (fun _ h9 => h9) rfl dX7_takesInput_99 ?_
      refine lv_ishl hx hb dX7_takesInput_102 ?_
      refine lv_goto (tgt := 107) hx hb dX7_takesInput_103 (by decide) ?_
      exact c_J107 x1 ((1 : Int32) <<< (pla &&& 31)) ((upd pts s2.toNatClampNeg (s1 ||| s0)) (x2 + 1).toNatClampNeg) (x2 + 1) (upd pts s2.toNatClampNeg (s1 ||| s0))  hrun _ _ _ hP hD hS (lv_sub hl [1] rfl)
  have c_J56 : ∀ (x1 : Int32) (x2 : Int32) (s0 : Int32) (s1 : Int32) (pts : (Nat → Int32)), fX7_takesInput_J56 x1 x2 s0 s1 pts pla = some r → wAt p l e (rmk 0 0 0 0) s m av below meth c D A 3 0 0 Q 56 [.int s0, .int s1, .ref (ta 7)] [(0, .ref to), (1, .int x1), (2, .int x2)] (wX7 kI kJ to ta z nst his len txt thr god prm npr cov siz pts rea pla bef has) := by
    intro x1 x2 s0 s1 pts hrun H locs ls hP hD hS hl
    unfold fX7_takesInput_J56 at hrun
    obtain ⟨hin, hrun⟩ := gd_some hrun
    refine va_iast hx hb hK hP hD hS 8 0 rfl rfl hin dX7_takesInput_56 (fun H locs hP hD hS => ?_)
    have hP : va_P D vwCl (wX7 kI kJ to ta z nst his len txt thr god prm npr cov siz (upd pts s1.toNatClampNeg s0) rea pla bef has) H := hP
    have hD : va_D A (wX7 kI kJ to ta z nst his len txt thr god prm npr cov siz (upd pts s1.toNatClampNeg s0) rea pla bef has) := hD
    refine lv_aload_n hx hb dX7_takesInput_57 rfl (lv_at hl 0 rfl) ?_
    refine va_get (D := D) (ci := 6) (v := .ref (ta 7)) (C := RX7) (T := TX7) (N := 16) hx hb hts iX7_takesInput_X7 hown hK hP 0 rfl rfl 11 (by decide) (hts _ mX7_takesInput_2) (fun _ h9 => h9) rfl dX7_takesInput_58 ?_
    refine lv_iload_n hx hb dX7_takesInput_61 rfl (lv_at hl 2 rfl) ?_
    refine lv_dup2_11 hx hb dX7_takesInput_62 rfl rfl ?_
    obtain ⟨hin, hrun⟩ := gd_some hrun
    refine va_iald hx hb hK hP 8 0 rfl rfl hin dX7_takesInput_63 ?_
    refine lv_iload_n hx hb dX7_takesInput_64 rfl (lv_at hl 1 rfl) ?_
    refine lv_bipush (v := 45) hx hb dX7_takesInput_65 (by decide) ?_
    refine lv_icmp_ne (tgt := 74) hx hb dX7_takesInput_67 (by decide) (fun hc => ?_) (fun hc => ?_)
    · have hrun := it_f hc hrun
      refine lv_iconst (v := 1) hx hb dX7_takesInput_74 (by decide) ?_
      refine lv_aload_n hx hb dX7_takesInput_75 rfl (lv_at hl 0 rfl) ?_
      refine va_get (D := D) (ci := 6) (v := .int pla) (C := RX7) (T := TX7) (N := 16) hx hb hts iX7_takesInput_X7 hown hK hP 0 rfl rfl 13 (by decide) (hts _ mX7_takesInput_3) (fun _ h9 => h9) rfl dX7_takesInput_76 ?_
      refine lv_ishl hx hb dX7_takesInput_79 ?_
      exact c_J80 x1 x2 ((1 : Int32) <<< (pla &&& 31)) ((upd pts s1.toNatClampNeg s0) x2.toNatClampNeg) x2 (upd pts s1.toNatClampNeg s0)  hrun _ _ _ hP hD hS (lv_sub hl [0, 1, 2] rfl)
    · have hrun := it_t hc hrun
      refine lv_iconst (v := 0) hx hb dX7_takesInput_70 (by decide) ?_
      refine lv_goto (tgt := 80) hx hb dX7_takesInput_71 (by decide) ?_
      exact c_J80 x1 x2 0 ((upd pts s1.toNatClampNeg s0) x2.toNatClampNeg) x2 (upd pts s1.toNatClampNeg s0)  hrun _ _ _ hP hD hS (lv_sub hl [0, 1, 2] rfl)
  have c_J29 : ∀ (x1 : Int32) (x2 : Int32) (s0 : Int32) (s1 : Int32) (pts : (Nat → Int32)), fX7_takesInput_J29 x1 x2 s0 s1 pts pla = some r → wAt p l e (rmk 0 0 0 0) s m av below meth c D A 3 0 0 Q 29 [.int s0, .int s1, .ref (ta 7)] [(0, .ref to), (1, .int x1), (2, .int x2)] (wX7 kI kJ to ta z nst his len txt thr god prm npr cov siz pts rea pla bef has) := by
    intro x1 x2 s0 s1 pts hrun H locs ls hP hD hS hl
    unfold fX7_takesInput_J29 at hrun
    obtain ⟨hin, hrun⟩ := gd_some hrun
    refine va_iast hx hb hK hP hD hS 8 0 rfl rfl hin dX7_takesInput_29 (fun H locs hP hD hS => ?_)
    have hP : va_P D vwCl (wX7 kI kJ to ta z nst his len txt thr god prm npr cov siz (upd pts s1.toNatClampNeg s0) rea pla bef has) H := hP
    have hD : va_D A (wX7 kI kJ to ta z nst his len txt thr god prm npr cov siz (upd pts s1.toNatClampNeg s0) rea pla bef has) := hD
    refine lv_aload_n hx hb dX7_takesInput_30 rfl (lv_at hl 0 rfl) ?_
    refine va_get (D := D) (ci := 6) (v := .ref (ta 7)) (C := RX7) (T := TX7) (N := 16) hx hb hts iX7_takesInput_X7 hown hK hP 0 rfl rfl 11 (by decide) (hts _ mX7_takesInput_2) (fun _ h9 => h9) rfl dX7_takesInput_31 ?_
    refine lv_iload_n hx hb dX7_takesInput_34 rfl (lv_at hl 2 rfl) ?_
    refine lv_iconst (v := 1) hx hb dX7_takesInput_35 (by decide) ?_
    refine lv_iadd hx hb dX7_takesInput_36 ?_
    refine lv_aload_n hx hb dX7_takesInput_37 rfl (lv_at hl 0 rfl) ?_
    refine va_get (D := D) (ci := 6) (v := .int pla) (C := RX7) (T := TX7) (N := 16) hx hb hts iX7_takesInput_X7 hown hK hP 0 rfl rfl 13 (by decide) (hts _ mX7_takesInput_3) (fun _ h9 => h9) rfl dX7_takesInput_38 ?_
    refine lv_if_ne (tgt := 48) hx hb dX7_takesInput_41 (by decide) (fun hc => ?_) (fun hc => ?_)
    · have hrun := it_f hc hrun
      refine lv_aload_n hx hb dX7_takesInput_48 rfl (lv_at hl 0 rfl) ?_
      refine va_get (D := D) (ci := 6) (v := .ref (ta 7)) (C := RX7) (T := TX7) (N := 16) hx hb hts iX7_takesInput_X7 hown hK hP 0 rfl rfl 11 (by decide) (hts _ mX7_takesInput_2) (fun _ h9 => h9) rfl dX7_takesInput_49 ?_
      refine lv_iload_n hx hb dX7_takesInput_52 rfl (lv_at hl 2 rfl) ?_
      refine lv_iconst (v := 1) hx hb dX7_takesInput_53 (by decide) ?_
      refine lv_iadd hx hb dX7_takesInput_54 ?_
      obtain ⟨hin, hrun⟩ := gd_some hrun
      refine va_iald hx hb hK hP 8 0 rfl rfl hin dX7_takesInput_55 ?_
      exact c_J56 x1 x2 ((upd pts s1.toNatClampNeg s0) (x2 + 1).toNatClampNeg) (x2 + 1) (upd pts s1.toNatClampNeg s0)  hrun _ _ _ hP hD hS (lv_sub hl [0, 1, 2] rfl)
    · have hrun := it_t hc hrun
      refine lv_iconst (v := 0) hx hb dX7_takesInput_44 (by decide) ?_
      refine lv_goto (tgt := 56) hx hb dX7_takesInput_45 (by decide) ?_
      exact c_J56 x1 x2 0 (x2 + 1) (upd pts s1.toNatClampNeg s0)  hrun _ _ _ hP hD hS (lv_sub hl [0, 1, 2] rfl)
  unfold fX7_takesInput at hrun
  refine lv_iconst (v := 4) hx hb dX7_takesInput_0 (by decide) ?_
  refine lv_aload_n hx hb dX7_takesInput_1 rfl (lv_at hl 0 rfl) ?_
  refine va_get (D := D) (ci := 6) (v := .int rea) (C := RX7) (T := TX7) (N := 16) hx hb hts iX7_takesInput_X7 hown hK hP 0 rfl rfl 12 (by decide) (hts _ mX7_takesInput_1) (fun _ h9 => h9) rfl dX7_takesInput_2 ?_
  refine lv_imul hx hb dX7_takesInput_5 ?_
  refine lv_istore_n (lv' := [(2, .int (4 * rea)), (0, .ref to), (1, .int x1)]) hx hb dX7_takesInput_6 rfl hl (by decide) rfl (fun ls hl => ?_)
  refine lv_aload_n hx hb dX7_takesInput_7 rfl (lv_at hl 1 rfl) ?_
  refine va_get (D := D) (ci := 6) (v := .ref (ta 7)) (C := RX7) (T := TX7) (N := 16) hx hb hts iX7_takesInput_X7 hown hK hP 0 rfl rfl 11 (by decide) (hts _ mX7_takesInput_2) (fun _ h9 => h9) rfl dX7_takesInput_8 ?_
  refine lv_iload_n hx hb dX7_takesInput_11 rfl (lv_at hl 0 rfl) ?_
  refine lv_aload_n hx hb dX7_takesInput_12 rfl (lv_at hl 1 rfl) ?_
  refine va_get (D := D) (ci := 6) (v := .int pla) (C := RX7) (T := TX7) (N := 16) hx hb hts iX7_takesInput_X7 hown hK hP 0 rfl rfl 13 (by decide) (hts _ mX7_takesInput_3) (fun _ h9 => h9) rfl dX7_takesInput_13 ?_
  refine lv_if_ne (tgt := 23) hx hb dX7_takesInput_16 (by decide) (fun hc => ?_) (fun hc => ?_)
  · have hrun := it_f hc hrun
    refine lv_aload_n hx hb dX7_takesInput_23 rfl (lv_at hl 1 rfl) ?_
    refine va_get (D := D) (ci := 6) (v := .ref (ta 7)) (C := RX7) (T := TX7) (N := 16) hx hb hts iX7_takesInput_X7 hown hK hP 0 rfl rfl 11 (by decide) (hts _ mX7_takesInput_2) (fun _ h9 => h9) rfl dX7_takesInput_24 ?_
    refine lv_iload_n hx hb dX7_takesInput_27 rfl (lv_at hl 0 rfl) ?_
    obtain ⟨hin, hrun⟩ := gd_some hrun
    refine va_iald hx hb hK hP 8 0 rfl rfl hin dX7_takesInput_28 ?_
    exact c_J29 x1 (4 * rea) (pts (4 * rea).toNatClampNeg) (4 * rea) pts  hrun _ _ _ hP hD hS (lv_sub hl [1, 2, 0] rfl)
  · have hrun := it_t hc hrun
    refine lv_iconst (v := 0) hx hb dX7_takesInput_19 (by decide) ?_
    refine lv_goto (tgt := 29) hx hb dX7_takesInput_20 (by decide) ?_
    exact c_J29 x1 (4 * rea) 0 (4 * rea) pts  hrun _ _ _ hP hD hS (lv_sub hl [1, 2, 0] rfl)
/-! ===== X7_takes ===== -/
theorem mX7_takes_1 : Cond.fieldLink RX7 150 "GateMazeModel" "place" "I" ∈ wsX7_takes := List.mem_of_getElem? (i := 1) rfl
theorem mX7_takes_4 : Cond.fieldLink RX7 147 "GateMazeModel" "read" "I" ∈ wsX7_takes := List.mem_of_getElem? (i := 4) rfl
theorem mX7_takes_2 : Cond.fieldLink RX7 7 "GateMazeModel" "z" "[I" ∈ wsX7_takes := List.mem_of_getElem? (i := 2) rfl
theorem mX7_takes_3 : Cond.fieldLink RX7 32 "GateMazeModel" "parts" "[I" ∈ wsX7_takes := List.mem_of_getElem? (i := 3) rfl
theorem iX7_takes_X7 : ∀ w ∈ u_ws RX7 TX7 16, w ∈ wsX7_takes := fun w h => List.mem_cons_of_mem _ (List.mem_append_right _ h)
set_option maxHeartbeats 4000000 in
set_option maxRecDepth 100000 in
theorem c_X7_takes (l : Launch) (D : va_G) (kI kJ kS : ClassId) (to : Nat) (ta : Nat → Nat) (x1 : Int32) (z : (Nat → Int32)) (nst : Int32) (his : (Nat → Int32)) (len : Int32) (txt : (Nat → Int32)) (thr : Int32) (god : (Nat → Int64)) (prm : (Nat → Int32)) (npr : Int32) (cov : (Nat → Int32)) (siz : (Nat → Int32)) (pts : (Nat → Int32)) (rea : Int32) (pla : Int32) (bef : (Nat → Int32)) (has : Int64) {r : Int32 × (Nat → Int32) × Int32 × Int32} (hrun : fX7_takes z pts rea pla x1 = some r) : cI l D (tyL kI kJ kS) false yX7_takes wsX7_takes (rmk 1 0 0 22) [.ref to, .int x1] (wX7 kI kJ to ta z nst his len txt thr god prm npr cov siz pts rea pla bef has) (wX7 kI kJ to ta z nst his len txt thr god prm npr cov siz r.2.1 r.2.2.1 r.2.2.2 bef has) r.1 := by
  refine cI_of (cc := cX7_takes) (maxL := 4) (by decide) rfl (Nat.le_of_ble_eq_true rfl) ?_
  intro p e s m av below meth c A Q ls hE hP hD hS hl hret
  have hE : ent_ p s m av meth c RX7 cX7_takes 4 (some .boolean) wsX7_takes (tyL kI kJ kS) D A false := hE
  obtain ⟨hx, hb, hml, hown, hts, hr, hlocks, hK, hA, hst⟩ := id hE
  have hl : lv_has ls 4 [(0, .ref to), (1, .int x1)] := hl
  have c_J191 : ∀ (x3 : Int32) (pts : (Nat → Int32)) (rea : Int32) (pla : Int32), fX7_takes_J191 x3 pts rea pla = some r → wAt p l e (rmk 1 0 0 22) s m av below meth c D A 4 0 0 Q 191 [] [(0, .ref to), (3, .int x3)] (wX7 kI kJ to ta z nst his len txt thr god prm npr cov siz pts rea pla bef has) := by
    intro x3 pts rea pla hrun H locs ls hP hD hS hl
    unfold fX7_takes_J191 at hrun
    refine lv_aload_n hx hb dX7_takes_191 rfl (lv_at hl 0 rfl) ?_
    refine lv_dup hx hb dX7_takes_192 rfl ?_
    refine va_get (D := D) (ci := 6) (v := .int pla) (C := RX7) (T := TX7) (N := 16) hx hb hts iX7_takes_X7 hown hK hP 0 rfl rfl 13 (by decide) (hts _ mX7_takes_1) (fun _ h9 => h9) rfl dX7_takes_193 ?_
    refine lv_iconst (v := 1) hx hb dX7_takes_196 (by decide) ?_
    refine lv_iadd hx hb dX7_takes_197 ?_
    refine va_put (D := D) (ci := 6) (v := .int (pla + 1)) (ty := .int) (C := RX7) (T := TX7) (N := 16) hx hb hts iX7_takes_X7 tyX7 tyX7_ok nmX7 hown hK hP hD hS 0 rfl rfl 13 (by decide) (hts _ mX7_takes_1) (fun _ h9 => h9) rfl (by decide +kernel) rfl rfl (Nat.le_of_ble_eq_true rfl) dX7_takes_198 (fun H locs hP hD hS => ?_)
    have hP : va_P D vwCl (wX7 kI kJ to ta z nst his len txt thr god prm npr cov siz pts rea (pla + 1) bef has) H := hP
    have hD : va_D A (wX7 kI kJ to ta z nst his len txt thr god prm npr cov siz pts rea (pla + 1) bef has) := hD
    refine lv_iload_n hx hb dX7_takes_201 rfl (lv_at hl 1 rfl) ?_
    obtain ⟨hn, hrun⟩ := gb_some hrun
    obtain rfl := Option.some.inj hrun
    exact hret _ _ _ _ hn dX7_takes_202 hP hD hS
  have c_J59 : ∀ (s0 : Int32) (pts : (Nat → Int32)) (rea : Int32) (pla : Int32), fX7_takes_J59 s0 pts rea pla = some r → wAt p l e (rmk 1 0 0 22) s m av below meth c D A 4 0 0 Q 59 [.int s0] [(0, .ref to)] (wX7 kI kJ to ta z nst his len txt thr god prm npr cov siz pts rea pla bef has) := by
    intro s0 pts rea pla hrun H locs ls hP hD hS hl
    unfold fX7_takes_J59 at hrun
    refine lv_istore_n (lv' := [(3, .int s0), (0, .ref to)]) hx hb dX7_takes_59 rfl hl (by decide) rfl (fun ls hl => ?_)
    refine lv_goto (tgt := 191) hx hb dX7_takes_60 (by decide) ?_
    exact c_J191 s0 pts rea pla  hrun _ _ _ hP hD hS (lv_sub hl [1, 0] rfl)
  have c_J103 : ∀ (s0 : Int32) (pts : (Nat → Int32)) (rea : Int32) (pla : Int32), fX7_takes_J103 s0 pts rea pla = some r → wAt p l e (rmk 1 0 0 22) s m av below meth c D A 4 0 0 Q 103 [.int s0] [(0, .ref to)] (wX7 kI kJ to ta z nst his len txt thr god prm npr cov siz pts rea pla bef has) := by
    intro s0 pts rea pla hrun H locs ls hP hD hS hl
    unfold fX7_takes_J103 at hrun
    refine lv_istore_n (lv' := [(3, .int s0), (0, .ref to)]) hx hb dX7_takes_103 rfl hl (by decide) rfl (fun ls hl => ?_)
    refine lv_goto (tgt := 191) hx hb dX7_takes_104 (by decide) ?_
    exact c_J191 s0 pts rea pla  hrun _ _ _ hP hD hS (lv_sub hl [1, 0] rfl)
  have c_J179 : ∀ (x3 : Int32) (s0 : Int32) (pts : (Nat → Int32)) (rea : Int32) (pla : Int32), fX7_takes_J179 x3 s0 pts rea = some r → wAt p l e (rmk 1 0 0 22) s m av below meth c D A 4 0 0 Q 179 [.int s0, .ref to] [(0, .ref to), (3, .int x3)] (wX7 kI kJ to ta z nst his len txt thr god prm npr cov siz pts rea pla bef has) := by
    intro x3 s0 pts rea pla hrun H locs ls hP hD hS hl
    unfold fX7_takes_J179 at hrun
    refine va_put (D := D) (ci := 6) (v := .int s0) (ty := .int) (C := RX7) (T := TX7) (N := 16) hx hb hts iX7_takes_X7 tyX7 tyX7_ok nmX7 hown hK hP hD hS 0 rfl rfl 13 (by decide) (hts _ mX7_takes_1) (fun _ h9 => h9) rfl (by decide +kernel) rfl rfl (Nat.le_of_ble_eq_true rfl) dX7_takes_179 (fun H locs hP hD hS => ?_)
    have hP : va_P D vwCl (wX7 kI kJ to ta z nst his len txt thr god prm npr cov siz pts rea s0 bef has) H := hP
    have hD : va_D A (wX7 kI kJ to ta z nst his len txt thr god prm npr cov siz pts rea s0 bef has) := hD
    refine lv_goto (tgt := 191) hx hb dX7_takes_182 (by decide) ?_
    exact c_J191 x3 pts rea s0  hrun _ _ _ hP hD hS (lv_sub hl [0, 1] rfl)
  have c_J162 : ∀ (x3 : Int32) (s0 : Int32) (s1 : Int32) (pts : (Nat → Int32)) (pla : Int32) (rea : Int32), fX7_takes_J162 x3 s0 s1 pts pla = some r → wAt p l e (rmk 1 0 0 22) s m av below meth c D A 4 0 0 Q 162 [.int s0, .int s1, .ref to] [(0, .ref to), (3, .int x3)] (wX7 kI kJ to ta z nst his len txt thr god prm npr cov siz pts rea pla bef has) := by
    intro x3 s0 s1 pts pla rea hrun H locs ls hP hD hS hl
    unfold fX7_takes_J162 at hrun
    refine lv_iadd hx hb dX7_takes_162 ?_
    refine va_put (D := D) (ci := 6) (v := .int (s1 + s0)) (ty := .int) (C := RX7) (T := TX7) (N := 16) hx hb hts iX7_takes_X7 tyX7 tyX7_ok nmX7 hown hK hP hD hS 0 rfl rfl 12 (by decide) (hts _ mX7_takes_4) (fun _ h9 => h9) rfl (by decide +kernel) rfl rfl (Nat.le_of_ble_eq_true rfl) dX7_takes_163 (fun H locs hP hD hS => ?_)
    have hP : va_P D vwCl (wX7 kI kJ to ta z nst his len txt thr god prm npr cov siz pts (s1 + s0) pla bef has) H := hP
    have hD : va_D A (wX7 kI kJ to ta z nst his len txt thr god prm npr cov siz pts (s1 + s0) pla bef has) := hD
    refine lv_aload_n hx hb dX7_takes_166 rfl (lv_at hl 0 rfl) ?_
    refine lv_iload_n hx hb dX7_takes_167 rfl (lv_at hl 1 rfl) ?_
    refine lv_if_eq (tgt := 175) hx hb dX7_takes_168 (by decide) (fun hc => ?_) (fun hc => ?_)
    · have hrun := it_t hc hrun
      refine lv_aload_n hx hb dX7_takes_175 rfl (lv_at hl 0 rfl) ?_
      refine va_get (D := D) (ci := 6) (v := .int pla) (C := RX7) (T := TX7) (N := 16) hx hb hts iX7_takes_X7 hown hK hP 0 rfl rfl 13 (by decide) (hts _ mX7_takes_1) (fun _ h9 => h9) rfl dX7_takes_176 ?_
      exact c_J179 x3 pla pts (s1 + s0) pla hrun _ _ _ hP hD hS (lv_sub hl [0, 1] rfl)
    · have hrun := it_f hc hrun
      refine lv_iconst (v := (-1)) hx hb dX7_takes_171 (by decide) ?_
      refine lv_goto (tgt := 179) hx hb dX7_takes_172 (by decide) ?_
      exact c_J179 x3 ((-1)) pts (s1 + s0) pla hrun _ _ _ hP hD hS (lv_sub hl [0, 1] rfl)
  have c_J147 : ∀ (s0 : Int32) (pts : (Nat → Int32)) (rea : Int32) (pla : Int32), fX7_takes_J147 s0 pts rea pla = some r → wAt p l e (rmk 1 0 0 22) s m av below meth c D A 4 0 0 Q 147 [.int s0] [(0, .ref to)] (wX7 kI kJ to ta z nst his len txt thr god prm npr cov siz pts rea pla bef has) := by
    intro s0 pts rea pla hrun H locs ls hP hD hS hl
    unfold fX7_takes_J147 at hrun
    refine lv_istore_n (lv' := [(3, .int s0), (0, .ref to)]) hx hb dX7_takes_147 rfl hl (by decide) rfl (fun ls hl => ?_)
    refine lv_aload_n hx hb dX7_takes_148 rfl (lv_at hl 1 rfl) ?_
    refine lv_dup hx hb dX7_takes_149 rfl ?_
    refine va_get (D := D) (ci := 6) (v := .int rea) (C := RX7) (T := TX7) (N := 16) hx hb hts iX7_takes_X7 hown hK hP 0 rfl rfl 12 (by decide) (hts _ mX7_takes_4) (fun _ h9 => h9) rfl dX7_takes_150 ?_
    refine lv_iload_n hx hb dX7_takes_153 rfl (lv_at hl 0 rfl) ?_
    refine lv_if_eq (tgt := 161) hx hb dX7_takes_154 (by decide) (fun hc => ?_) (fun hc => ?_)
    · have hrun := it_t hc hrun
      refine lv_iconst (v := 0) hx hb dX7_takes_161 (by decide) ?_
      exact c_J162 s0 0 rea pts pla rea hrun _ _ _ hP hD hS (lv_sub hl [1, 0] rfl)
    · have hrun := it_f hc hrun
      refine lv_iconst (v := 1) hx hb dX7_takes_157 (by decide) ?_
      refine lv_goto (tgt := 162) hx hb dX7_takes_158 (by decide) ?_
      exact c_J162 s0 1 rea pts pla rea hrun _ _ _ hP hD hS (lv_sub hl [1, 0] rfl)
  unfold fX7_takes at hrun
  refine lv_aload_n hx hb dX7_takes_0 rfl (lv_at hl 0 rfl) ?_
  refine va_get (D := D) (ci := 6) (v := .int pla) (C := RX7) (T := TX7) (N := 16) hx hb hts iX7_takes_X7 hown hK hP 0 rfl rfl 13 (by decide) (hts _ mX7_takes_1) (fun _ h9 => h9) rfl dX7_takes_1 ?_
  refine lv_aload_n hx hb dX7_takes_4 rfl (lv_at hl 0 rfl) ?_
  refine va_get (D := D) (ci := 6) (v := .ref (ta 0)) (C := RX7) (T := TX7) (N := 16) hx hb hts iX7_takes_X7 hown hK hP 0 rfl rfl 0 (by decide) (hts _ mX7_takes_2) (fun _ h9 => h9) rfl dX7_takes_5 ?_
  refine lv_iconst (v := 0) hx hb dX7_takes_8 (by decide) ?_
  obtain ⟨hin, hrun⟩ := gd_some hrun
  refine va_iald hx hb hK hP 1 0 rfl rfl hin dX7_takes_9 ?_
  refine lv_isub hx hb dX7_takes_10 ?_
  refine lv_istore_n (lv' := [(2, .int (pla - (z ((0 : Int32)).toNatClampNeg))), (0, .ref to), (1, .int x1)]) hx hb dX7_takes_11 rfl hl (by decide) rfl (fun ls hl => ?_)
  refine lv_iload_n hx hb dX7_takes_12 rfl (lv_at hl 0 rfl) ?_
  by_cases hs0 : (pla - (z ((0 : Int32)).toNatClampNeg)) = 0
  · have hrun := it_t hs0 hrun
    refine lv_tableV (v := 0) (tgt := 48) hx hb dX7_takes_13 hs0 (by decide) (by decide) rfl (by decide) ?_
    refine lv_iload_n hx hb dX7_takes_48 rfl (lv_at hl 2 rfl) ?_
    refine lv_bipush (v := 61) hx hb dX7_takes_49 (by decide) ?_
    refine lv_icmp_ne (tgt := 58) hx hb dX7_takes_51 (by decide) (fun hc => ?_) (fun hc => ?_)
    · have hrun := it_f hc hrun
      refine lv_iconst (v := 0) hx hb dX7_takes_58 (by decide) ?_
      exact c_J59 0 pts rea pla  hrun _ _ _ hP hD hS (lv_sub hl [1] rfl)
    · have hrun := it_t hc hrun
      refine lv_iconst (v := 1) hx hb dX7_takes_54 (by decide) ?_
      refine lv_goto (tgt := 59) hx hb dX7_takes_55 (by decide) ?_
      exact c_J59 1 pts rea pla  hrun _ _ _ hP hD hS (lv_sub hl [1] rfl)
  have hrun := it_f hs0 hrun
  by_cases hs1 : (pla - (z ((0 : Int32)).toNatClampNeg)) = 1
  · have hrun := it_t hs1 hrun
    refine lv_tableV (v := 1) (tgt := 63) hx hb dX7_takes_13 hs1 (by decide) (by decide) rfl (by decide) ?_
    refine lv_aload_n hx hb dX7_takes_63 rfl (lv_at hl 1 rfl) ?_
    refine va_get (D := D) (ci := 6) (v := .ref (ta 7)) (C := RX7) (T := TX7) (N := 16) hx hb hts iX7_takes_X7 hown hK hP 0 rfl rfl 11 (by decide) (hts _ mX7_takes_3) (fun _ h9 => h9) rfl dX7_takes_64 ?_
    refine lv_iconst (v := 4) hx hb dX7_takes_67 (by decide) ?_
    refine lv_aload_n hx hb dX7_takes_68 rfl (lv_at hl 1 rfl) ?_
    refine va_get (D := D) (ci := 6) (v := .int rea) (C := RX7) (T := TX7) (N := 16) hx hb hts iX7_takes_X7 hown hK hP 0 rfl rfl 12 (by decide) (hts _ mX7_takes_4) (fun _ h9 => h9) rfl dX7_takes_69 ?_
    refine lv_imul hx hb dX7_takes_72 ?_
    refine lv_iconst (v := 2) hx hb dX7_takes_73 (by decide) ?_
    refine lv_iadd hx hb dX7_takes_74 ?_
    refine lv_iload_n hx hb dX7_takes_75 rfl (lv_at hl 2 rfl) ?_
    refine lv_bipush (v := 48) hx hb dX7_takes_76 (by decide) ?_
    refine lv_isub hx hb dX7_takes_78 ?_
    obtain ⟨hin, hrun⟩ := gd_some hrun
    refine va_iast hx hb hK hP hD hS 8 0 rfl rfl hin dX7_takes_79 (fun H locs hP hD hS => ?_)
    have hP : va_P D vwCl (wX7 kI kJ to ta z nst his len txt thr god prm npr cov siz (upd pts ((4 * rea) + 2).toNatClampNeg (x1 - 48)) rea pla bef has) H := hP
    have hD : va_D A (wX7 kI kJ to ta z nst his len txt thr god prm npr cov siz (upd pts ((4 * rea) + 2).toNatClampNeg (x1 - 48)) rea pla bef has) := hD
    refine lv_iload_n hx hb dX7_takes_80 rfl (lv_at hl 2 rfl) ?_
    refine lv_bipush (v := 48) hx hb dX7_takes_81 (by decide) ?_
    refine lv_bipush (v := 51) hx hb dX7_takes_83 (by decide) ?_
    obtain ⟨q_1, hq_1, hrun⟩ := bd_some hrun
    refine cI_callS (As := [.int x1, .int 48, .int 51]) (rest := []) (wr := (wX7 kI kJ to ta z nst his len txt thr god prm npr cov siz (upd pts ((4 * rea) + 2).toNatClampNeg (x1 - 48)) rea pla bef has)) (wN := (wX7 kI kJ to ta z nst his len txt thr god prm npr cov siz (upd pts ((4 * rea) + 2).toNatClampNeg (x1 - 48)) rea pla bef has)) hE (c_X7_within l D kI kJ kS x1 48 51  hq_1) (va_cwS 3 hts gX7_takes_X7_within rfl rfl rfl (by decide +kernel) ⟨Nat.le_of_ble_eq_true rfl, Nat.le_of_ble_eq_true rfl⟩) hP hD hS [] [0, 1, 2, 3, 4, 5, 6, 7, 8, 9] [0, 1, 2, 3, 4, 5, 6, 7, 8, 9] rfl rfl rfl rfl (by decide) rfl rfl rfl hl.1 rfl (Nat.le_of_ble_eq_true rfl) dX7_takes_85 ⟨Nat.le_of_ble_eq_true rfl, Nat.le_of_ble_eq_true rfl⟩ (fun H locs hP hD hS => ?_)
    refine lv_istore_n (lv' := [(3, .int q_1), (2, .int (pla - (z ((0 : Int32)).toNatClampNeg))), (0, .ref to), (1, .int x1)]) hx hb dX7_takes_88 rfl hl (by decide) rfl (fun ls hl => ?_)
    refine lv_goto (tgt := 191) hx hb dX7_takes_89 (by decide) ?_
    exact c_J191 q_1 (upd pts ((4 * rea) + 2).toNatClampNeg (x1 - 48)) rea pla  hrun _ _ _ hP hD hS (lv_sub hl [2, 0] rfl)
  have hrun := it_f hs1 hrun
  by_cases hs2 : (pla - (z ((0 : Int32)).toNatClampNeg)) = 2
  · have hrun := it_t hs2 hrun
    refine lv_tableV (v := 2) (tgt := 92) hx hb dX7_takes_13 hs2 (by decide) (by decide) rfl (by decide) ?_
    refine lv_iload_n hx hb dX7_takes_92 rfl (lv_at hl 2 rfl) ?_
    refine lv_bipush (v := 58) hx hb dX7_takes_93 (by decide) ?_
    refine lv_icmp_ne (tgt := 102) hx hb dX7_takes_95 (by decide) (fun hc => ?_) (fun hc => ?_)
    · have hrun := it_f hc hrun
      refine lv_iconst (v := 0) hx hb dX7_takes_102 (by decide) ?_
      exact c_J103 0 pts rea pla  hrun _ _ _ hP hD hS (lv_sub hl [1] rfl)
    · have hrun := it_t hc hrun
      refine lv_iconst (v := 1) hx hb dX7_takes_98 (by decide) ?_
      refine lv_goto (tgt := 103) hx hb dX7_takes_99 (by decide) ?_
      exact c_J103 1 pts rea pla  hrun _ _ _ hP hD hS (lv_sub hl [1] rfl)
  have hrun := it_f hs2 hrun
  by_cases hs3 : (pla - (z ((0 : Int32)).toNatClampNeg)) = 3
  · have hrun := it_t hs3 hrun
    refine lv_tableV (v := 3) (tgt := 107) hx hb dX7_takes_13 hs3 (by decide) (by decide) rfl (by decide) ?_
    refine lv_aload_n hx hb dX7_takes_107 rfl (lv_at hl 1 rfl) ?_
    refine va_get (D := D) (ci := 6) (v := .ref (ta 7)) (C := RX7) (T := TX7) (N := 16) hx hb hts iX7_takes_X7 hown hK hP 0 rfl rfl 11 (by decide) (hts _ mX7_takes_3) (fun _ h9 => h9) rfl dX7_takes_108 ?_
    refine lv_iconst (v := 4) hx hb dX7_takes_111 (by decide) ?_
    refine lv_aload_n hx hb dX7_takes_112 rfl (lv_at hl 1 rfl) ?_
    refine va_get (D := D) (ci := 6) (v := .int rea) (C := RX7) (T := TX7) (N := 16) hx hb hts iX7_takes_X7 hown hK hP 0 rfl rfl 12 (by decide) (hts _ mX7_takes_4) (fun _ h9 => h9) rfl dX7_takes_113 ?_
    refine lv_imul hx hb dX7_takes_116 ?_
    refine lv_iconst (v := 3) hx hb dX7_takes_117 (by decide) ?_
    refine lv_iadd hx hb dX7_takes_118 ?_
    refine lv_iload_n hx hb dX7_takes_119 rfl (lv_at hl 2 rfl) ?_
    refine lv_bipush (v := 48) hx hb dX7_takes_120 (by decide) ?_
    refine lv_isub hx hb dX7_takes_122 ?_
    obtain ⟨hin, hrun⟩ := gd_some hrun
    refine va_iast hx hb hK hP hD hS 8 0 rfl rfl hin dX7_takes_123 (fun H locs hP hD hS => ?_)
    have hP : va_P D vwCl (wX7 kI kJ to ta z nst his len txt thr god prm npr cov siz (upd pts ((4 * rea) + 3).toNatClampNeg (x1 - 48)) rea pla bef has) H := hP
    have hD : va_D A (wX7 kI kJ to ta z nst his len txt thr god prm npr cov siz (upd pts ((4 * rea) + 3).toNatClampNeg (x1 - 48)) rea pla bef has) := hD
    refine lv_iload_n hx hb dX7_takes_124 rfl (lv_at hl 2 rfl) ?_
    refine lv_bipush (v := 48) hx hb dX7_takes_125 (by decide) ?_
    refine lv_bipush (v := 50) hx hb dX7_takes_127 (by decide) ?_
    obtain ⟨q_2, hq_2, hrun⟩ := bd_some hrun
    refine cI_callS (As := [.int x1, .int 48, .int 50]) (rest := []) (wr := (wX7 kI kJ to ta z nst his len txt thr god prm npr cov siz (upd pts ((4 * rea) + 3).toNatClampNeg (x1 - 48)) rea pla bef has)) (wN := (wX7 kI kJ to ta z nst his len txt thr god prm npr cov siz (upd pts ((4 * rea) + 3).toNatClampNeg (x1 - 48)) rea pla bef has)) hE (c_X7_within l D kI kJ kS x1 48 50  hq_2) (va_cwS 3 hts gX7_takes_X7_within rfl rfl rfl (by decide +kernel) ⟨Nat.le_of_ble_eq_true rfl, Nat.le_of_ble_eq_true rfl⟩) hP hD hS [] [0, 1, 2, 3, 4, 5, 6, 7, 8, 9] [0, 1, 2, 3, 4, 5, 6, 7, 8, 9] rfl rfl rfl rfl (by decide) rfl rfl rfl hl.1 rfl (Nat.le_of_ble_eq_true rfl) dX7_takes_129 ⟨Nat.le_of_ble_eq_true rfl, Nat.le_of_ble_eq_true rfl⟩ (fun H locs hP hD hS => ?_)
    refine lv_istore_n (lv' := [(3, .int q_2), (2, .int (pla - (z ((0 : Int32)).toNatClampNeg))), (0, .ref to), (1, .int x1)]) hx hb dX7_takes_132 rfl hl (by decide) rfl (fun ls hl => ?_)
    refine lv_goto (tgt := 191) hx hb dX7_takes_133 (by decide) ?_
    exact c_J191 q_2 (upd pts ((4 * rea) + 3).toNatClampNeg (x1 - 48)) rea pla  hrun _ _ _ hP hD hS (lv_sub hl [2, 0] rfl)
  have hrun := it_f hs3 hrun
  by_cases hs4 : (pla - (z ((0 : Int32)).toNatClampNeg)) = 4
  · have hrun := it_t hs4 hrun
    refine lv_tableV (v := 4) (tgt := 136) hx hb dX7_takes_13 hs4 (by decide) (by decide) rfl (by decide) ?_
    refine lv_iload_n hx hb dX7_takes_136 rfl (lv_at hl 2 rfl) ?_
    refine lv_bipush (v := 44) hx hb dX7_takes_137 (by decide) ?_
    refine lv_icmp_ne (tgt := 146) hx hb dX7_takes_139 (by decide) (fun hc => ?_) (fun hc => ?_)
    · have hrun := it_f hc hrun
      refine lv_iconst (v := 0) hx hb dX7_takes_146 (by decide) ?_
      exact c_J147 0 pts rea pla  hrun _ _ _ hP hD hS (lv_sub hl [1] rfl)
    · have hrun := it_t hc hrun
      refine lv_iconst (v := 1) hx hb dX7_takes_142 (by decide) ?_
      refine lv_goto (tgt := 147) hx hb dX7_takes_143 (by decide) ?_
      exact c_J147 1 pts rea pla  hrun _ _ _ hP hD hS (lv_sub hl [1] rfl)
  have hrun := it_f hs4 hrun
  refine lv_tableOut (tgt := 185) hx hb dX7_takes_13 (sw_out [0, 1, 2, 3, 4] (by decide) (by decide) (by decide) (⟨hs0, hs1, hs2, hs3, hs4, trivial⟩)) (by decide) ?_
  refine lv_aload_n hx hb dX7_takes_185 rfl (lv_at hl 1 rfl) ?_
  refine lv_iload_n hx hb dX7_takes_186 rfl (lv_at hl 2 rfl) ?_
  obtain ⟨q_3, hq_3, hrun⟩ := bd_some hrun
  refine cI_callV (As := [.int x1]) (rest := []) (wr := []) (wN := (wX7 kI kJ to ta z nst his len txt thr god prm npr cov siz q_3.2 rea pla bef has)) (ci := 6) (q0 := 0) hE (c_X7_takesInput l D kI kJ kS to ta x1 z nst his len txt thr god prm npr cov siz pts rea pla bef has hq_3) (cwV 1 hts gX7_takes_X7_takesInput rfl rfl rfl (by decide +kernel) ⟨Nat.le_of_ble_eq_true rfl, Nat.le_of_ble_eq_true rfl⟩) hP hD hS [0, 1, 2, 3, 4, 5, 6, 7, 8, 9] [] [0, 1, 2, 3, 4, 5, 6, 7, 8, 9] rfl rfl rfl rfl (by decide) rfl rfl rfl rfl rfl hl.1 rfl (Nat.le_of_ble_eq_true rfl) dX7_takes_187 ⟨Nat.le_of_ble_eq_true rfl, Nat.le_of_ble_eq_true rfl⟩ (fun H locs hP hD hS => ?_)
  refine lv_istore_n (lv' := [(3, .int q_3.1), (2, .int (pla - (z ((0 : Int32)).toNatClampNeg))), (0, .ref to), (1, .int x1)]) hx hb dX7_takes_190 rfl hl (by decide) rfl (fun ls hl => ?_)
  exact c_J191 q_3.1 q_3.2 rea pla  hrun _ _ _ hP hD hS (lv_sub hl [2, 0] rfl)
/-! ===== X7_rightUpTo ===== -/
theorem mX7_rightUpTo_3 : Cond.fieldLink RX7 144 "GateMazeModel" "length" "I" ∈ wsX7_rightUpTo := List.mem_of_getElem? (i := 3) rfl
theorem mX7_rightUpTo_4 : Cond.fieldLink RX7 16 "GateMazeModel" "text" "[I" ∈ wsX7_rightUpTo := List.mem_of_getElem? (i := 4) rfl
theorem mX7_rightUpTo_1 : Cond.fieldLink RX7 147 "GateMazeModel" "read" "I" ∈ wsX7_rightUpTo := List.mem_of_getElem? (i := 1) rfl
theorem mX7_rightUpTo_2 : Cond.fieldLink RX7 150 "GateMazeModel" "place" "I" ∈ wsX7_rightUpTo := List.mem_of_getElem? (i := 2) rfl
theorem iX7_rightUpTo_X7 : ∀ w ∈ u_ws RX7 TX7 16, w ∈ wsX7_rightUpTo := fun w h => List.mem_cons_of_mem _ (List.mem_append_right _ h)
set_option maxHeartbeats 4000000 in
set_option maxRecDepth 100000 in
theorem c_X7_rightUpTo (l : Launch) (D : va_G) (kI kJ kS : ClassId) (to : Nat) (ta : Nat → Nat) (z : (Nat → Int32)) (nst : Int32) (his : (Nat → Int32)) (len : Int32) (txt : (Nat → Int32)) (thr : Int32) (god : (Nat → Int64)) (prm : (Nat → Int32)) (npr : Int32) (cov : (Nat → Int32)) (siz : (Nat → Int32)) (pts : (Nat → Int32)) (rea : Int32) (pla : Int32) (bef : (Nat → Int32)) (has : Int64) {r : Int32 × (Nat → Int32) × Int32 × Int32} (hrun : fX7_rightUpTo z len txt pts = some r) : cI l D (tyL kI kJ kS) false yX7_rightUpTo wsX7_rightUpTo (rmk 2 0 0 45) [.ref to] (wX7 kI kJ to ta z nst his len txt thr god prm npr cov siz pts rea pla bef has) (wX7 kI kJ to ta z nst his len txt thr god prm npr cov siz r.2.1 r.2.2.1 r.2.2.2 bef has) r.1 := by
  refine cI_of (cc := cX7_rightUpTo) (maxL := 2) (by decide) rfl (Nat.le_of_ble_eq_true rfl) ?_
  intro p e s m av below meth c A Q ls hE hP hD hS hl hret
  have hE : ent_ p s m av meth c RX7 cX7_rightUpTo 2 (some .int) wsX7_rightUpTo (tyL kI kJ kS) D A false := hE
  obtain ⟨hx, hb, hml, hown, hts, hr, hlocks, hK, hA, hst⟩ := id hE
  have hl : lv_has ls 2 [(0, .ref to)] := hl
  have c_L12 : ∀  (n : Nat) (x1 : Int32) (pts : (Nat → Int32)) (rea : Int32) (pla : Int32), fX7_rightUpTo_L12 z len txt n x1 pts rea pla = some r → wAt p l e (rmk 2 0 0 45) s m av below meth c D A 2 0 0 Q 12 [] [(0, .ref to), (1, .int x1)] (wX7 kI kJ to ta z nst his len txt thr god prm npr cov siz pts rea pla bef has) := by
    intro  n
    induction n with
    | zero =>
      intro x1 pts rea pla hrun
      rw [fX7_rightUpTo_L12] at hrun
      cases hrun
    | succ n ih =>
      intro x1 pts rea pla hrun H locs ls hP hD hS hl
      rw [fX7_rightUpTo_L12] at hrun
      refine lv_iload_n hx hb dX7_rightUpTo_12 rfl (lv_at hl 1 rfl) ?_
      refine lv_aload_n hx hb dX7_rightUpTo_13 rfl (lv_at hl 0 rfl) ?_
      refine va_get (D := D) (ci := 6) (v := .int len) (C := RX7) (T := TX7) (N := 16) hx hb hts iX7_rightUpTo_X7 hown hK hP 0 rfl rfl 3 (by decide) (hts _ mX7_rightUpTo_3) (fun _ h9 => h9) rfl dX7_rightUpTo_14 ?_
      refine lv_icmp_ge (tgt := 39) hx hb dX7_rightUpTo_17 (by decide) (fun hc => ?_) (fun hc => ?_)
      · have hrun := it_t hc hrun
        refine lv_iload_n hx hb dX7_rightUpTo_39 rfl (lv_at hl 1 rfl) ?_
        obtain rfl := Option.some.inj hrun
        exact hret _ _ _ _ rfl dX7_rightUpTo_40 hP hD hS
      · have hrun := it_f hc hrun
        refine lv_aload_n hx hb dX7_rightUpTo_20 rfl (lv_at hl 0 rfl) ?_
        refine lv_aload_n hx hb dX7_rightUpTo_21 rfl (lv_at hl 0 rfl) ?_
        refine va_get (D := D) (ci := 6) (v := .ref (ta 2)) (C := RX7) (T := TX7) (N := 16) hx hb hts iX7_rightUpTo_X7 hown hK hP 0 rfl rfl 4 (by decide) (hts _ mX7_rightUpTo_4) (fun _ h9 => h9) rfl dX7_rightUpTo_22 ?_
        refine lv_iload_n hx hb dX7_rightUpTo_25 rfl (lv_at hl 1 rfl) ?_
        obtain ⟨hin, hrun⟩ := gd_some hrun
        refine va_iald hx hb hK hP 3 0 rfl rfl hin dX7_rightUpTo_26 ?_
        obtain ⟨q_1, hq_1, hrun⟩ := bd_some hrun
        refine cI_callV (As := [.int (txt x1.toNatClampNeg)]) (rest := []) (wr := []) (wN := (wX7 kI kJ to ta z nst his len txt thr god prm npr cov siz q_1.2.1 q_1.2.2.1 q_1.2.2.2 bef has)) (ci := 6) (q0 := 0) hE (c_X7_takes l D kI kJ kS to ta (txt x1.toNatClampNeg) z nst his len txt thr god prm npr cov siz pts rea pla bef has hq_1) (cwV 1 hts gX7_rightUpTo_X7_takes rfl rfl rfl (by decide +kernel) ⟨Nat.le_of_ble_eq_true rfl, Nat.le_of_ble_eq_true rfl⟩) hP hD hS [0, 1, 2, 3, 4, 5, 6, 7, 8, 9] [] [0, 1, 2, 3, 4, 5, 6, 7, 8, 9] rfl rfl rfl rfl (by decide) rfl rfl rfl rfl rfl hl.1 rfl (Nat.le_of_ble_eq_true rfl) dX7_rightUpTo_27 ⟨Nat.le_of_ble_eq_true rfl, Nat.le_of_ble_eq_true rfl⟩ (fun H locs hP hD hS => ?_)
        refine lv_if_eq (tgt := 39) hx hb dX7_rightUpTo_30 (by decide) (fun hc => ?_) (fun hc => ?_)
        · have hrun := it_t hc hrun
          refine lv_iload_n hx hb dX7_rightUpTo_39 rfl (lv_at hl 1 rfl) ?_
          obtain rfl := Option.some.inj hrun
          exact hret _ _ _ _ rfl dX7_rightUpTo_40 hP hD hS
        · have hrun := it_f hc hrun
          refine lv_iinc (v := x1 + 1) (lv' := [(1, .int (x1 + 1)), (0, .ref to)]) hx hb dX7_rightUpTo_33 hl (k := 1) rfl rfl (by decide) rfl (fun ls hl => ?_)
          refine lv_goto (tgt := 12) hx hb dX7_rightUpTo_36 (by decide) ?_
          exact ih (x1 + 1) q_1.2.1 q_1.2.2.1 q_1.2.2.2  hrun _ _ _ hP hD hS (lv_sub hl [1, 0] rfl)
  unfold fX7_rightUpTo at hrun
  refine lv_aload_n hx hb dX7_rightUpTo_0 rfl (lv_at hl 0 rfl) ?_
  refine lv_iconst (v := 0) hx hb dX7_rightUpTo_1 (by decide) ?_
  refine va_put (D := D) (ci := 6) (v := .int 0) (ty := .int) (C := RX7) (T := TX7) (N := 16) hx hb hts iX7_rightUpTo_X7 tyX7 tyX7_ok nmX7 hown hK hP hD hS 0 rfl rfl 12 (by decide) (hts _ mX7_rightUpTo_1) (fun _ h9 => h9) rfl (by decide +kernel) rfl rfl (Nat.le_of_ble_eq_true rfl) dX7_rightUpTo_2 (fun H locs hP hD hS => ?_)
  have hP : va_P D vwCl (wX7 kI kJ to ta z nst his len txt thr god prm npr cov siz pts 0 pla bef has) H := hP
  have hD : va_D A (wX7 kI kJ to ta z nst his len txt thr god prm npr cov siz pts 0 pla bef has) := hD
  refine lv_aload_n hx hb dX7_rightUpTo_5 rfl (lv_at hl 0 rfl) ?_
  refine lv_iconst (v := 0) hx hb dX7_rightUpTo_6 (by decide) ?_
  refine va_put (D := D) (ci := 6) (v := .int 0) (ty := .int) (C := RX7) (T := TX7) (N := 16) hx hb hts iX7_rightUpTo_X7 tyX7 tyX7_ok nmX7 hown hK hP hD hS 0 rfl rfl 13 (by decide) (hts _ mX7_rightUpTo_2) (fun _ h9 => h9) rfl (by decide +kernel) rfl rfl (Nat.le_of_ble_eq_true rfl) dX7_rightUpTo_7 (fun H locs hP hD hS => ?_)
  have hP : va_P D vwCl (wX7 kI kJ to ta z nst his len txt thr god prm npr cov siz pts 0 0 bef has) H := hP
  have hD : va_D A (wX7 kI kJ to ta z nst his len txt thr god prm npr cov siz pts 0 0 bef has) := hD
  refine lv_iconst (v := 0) hx hb dX7_rightUpTo_10 (by decide) ?_
  refine lv_istore_n (lv' := [(1, .int 0), (0, .ref to)]) hx hb dX7_rightUpTo_11 rfl hl (by decide) rfl (fun ls hl => ?_)
  exact c_L12  5000 0 pts 0 0  hrun _ _ _ hP hD hS (lv_sub hl [1, 0] rfl)
/-! ===== X7_firstError ===== -/
theorem mX7_firstError_1 : Cond.fieldLink RX7 38 "GateMazeModel" "thrown" "I" ∈ wsX7_firstError := List.mem_of_getElem? (i := 1) rfl
theorem iX7_firstError_X7 : ∀ w ∈ u_ws RX7 TX7 16, w ∈ wsX7_firstError := fun w h => List.mem_cons_of_mem _ (List.mem_append_right _ h)
set_option maxHeartbeats 4000000 in
set_option maxRecDepth 100000 in
theorem c_X7_firstError (l : Launch) (D : va_G) (kI kJ kS : ClassId) (to : Nat) (ta : Nat → Nat) (z : (Nat → Int32)) (nst : Int32) (his : (Nat → Int32)) (len : Int32) (txt : (Nat → Int32)) (thr : Int32) (god : (Nat → Int64)) (prm : (Nat → Int32)) (npr : Int32) (cov : (Nat → Int32)) (siz : (Nat → Int32)) (pts : (Nat → Int32)) (rea : Int32) (pla : Int32) (bef : (Nat → Int32)) (has : Int64) {r : Int32 × Int32 × (Nat → Int32) × Int32 × Int32} (hrun : fX7_firstError z len txt pts = some r) : cI l D (tyL kI kJ kS) false yX7_firstError wsX7_firstError (rmk 3 0 0 66) [.ref to] (wX7 kI kJ to ta z nst his len txt thr god prm npr cov siz pts rea pla bef has) (wX7 kI kJ to ta z nst his len txt r.2.1 god prm npr cov siz r.2.2.1 r.2.2.2.1 r.2.2.2.2 bef has) r.1 := by
  refine cI_of (cc := cX7_firstError) (maxL := 1) (by decide) rfl (Nat.le_of_ble_eq_true rfl) ?_
  intro p e s m av below meth c A Q ls hE hP hD hS hl hret
  have hE : ent_ p s m av meth c RX7 cX7_firstError 1 (some .int) wsX7_firstError (tyL kI kJ kS) D A false := hE
  obtain ⟨hx, hb, hml, hown, hts, hr, hlocks, hK, hA, hst⟩ := id hE
  have hl : lv_has ls 1 [(0, .ref to)] := hl
  unfold fX7_firstError at hrun
  refine lv_aload_n hx hb dX7_firstError_0 rfl (lv_at hl 0 rfl) ?_
  refine lv_iconst (v := 0) hx hb dX7_firstError_1 (by decide) ?_
  refine va_put (D := D) (ci := 6) (v := .int 0) (ty := .int) (C := RX7) (T := TX7) (N := 16) hx hb hts iX7_firstError_X7 tyX7 tyX7_ok nmX7 hown hK hP hD hS 0 rfl rfl 5 (by decide) (hts _ mX7_firstError_1) (fun _ h9 => h9) rfl (by decide +kernel) rfl rfl (Nat.le_of_ble_eq_true rfl) dX7_firstError_2 (fun H locs hP hD hS => ?_)
  have hP : va_P D vwCl (wX7 kI kJ to ta z nst his len txt 0 god prm npr cov siz pts rea pla bef has) H := hP
  have hD : va_D A (wX7 kI kJ to ta z nst his len txt 0 god prm npr cov siz pts rea pla bef has) := hD
  refine lv_aload_n hx hb dX7_firstError_5 rfl (lv_at hl 0 rfl) ?_
  obtain ⟨q_1, hq_1, hrun⟩ := bd_some hrun
  refine cI_callV (As := []) (rest := []) (wr := []) (wN := (wX7 kI kJ to ta z nst his len txt 0 god prm npr cov siz q_1.2.1 q_1.2.2.1 q_1.2.2.2 bef has)) (ci := 6) (q0 := 0) hE (c_X7_rightUpTo l D kI kJ kS to ta  z nst his len txt 0 god prm npr cov siz pts rea pla bef has hq_1) (cwV 0 hts gX7_firstError_X7_rightUpTo rfl rfl rfl (by decide +kernel) ⟨Nat.le_of_ble_eq_true rfl, Nat.le_of_ble_eq_true rfl⟩) hP hD hS [0, 1, 2, 3, 4, 5, 6, 7, 8, 9] [] [0, 1, 2, 3, 4, 5, 6, 7, 8, 9] rfl rfl rfl rfl (by decide) rfl rfl rfl rfl rfl hl.1 rfl (Nat.le_of_ble_eq_true rfl) dX7_firstError_6 ⟨Nat.le_of_ble_eq_true rfl, Nat.le_of_ble_eq_true rfl⟩ (fun H locs hP hD hS => ?_)
  obtain rfl := Option.some.inj hrun
  exact hret _ _ _ _ rfl dX7_firstError_9 hP hD hS
/-! ===== X7_fill ===== -/
theorem mX7_fill_7 : Cond.fieldLink RX7 32 "GateMazeModel" "parts" "[I" ∈ wsX7_fill := List.mem_of_getElem? (i := 7) rfl
theorem mX7_fill_5 : Cond.fieldLink RX7 35 "GateMazeModel" "before" "[I" ∈ wsX7_fill := List.mem_of_getElem? (i := 5) rfl
theorem mX7_fill_3 : Cond.fieldLink RX7 7 "GateMazeModel" "z" "[I" ∈ wsX7_fill := List.mem_of_getElem? (i := 3) rfl
theorem mX7_fill_6 : Cond.fieldLink RX7 147 "GateMazeModel" "read" "I" ∈ wsX7_fill := List.mem_of_getElem? (i := 6) rfl
theorem mX7_fill_4 : Cond.fieldLink RX7 38 "GateMazeModel" "thrown" "I" ∈ wsX7_fill := List.mem_of_getElem? (i := 4) rfl
theorem mX7_fill_1 : Cond.fieldLink RX7 144 "GateMazeModel" "length" "I" ∈ wsX7_fill := List.mem_of_getElem? (i := 1) rfl
theorem mX7_fill_2 : Cond.fieldLink RX7 150 "GateMazeModel" "place" "I" ∈ wsX7_fill := List.mem_of_getElem? (i := 2) rfl
theorem iX7_fill_X7 : ∀ w ∈ u_ws RX7 TX7 16, w ∈ wsX7_fill := fun w h => List.mem_cons_of_mem _ (List.mem_append_right _ h)
set_option maxHeartbeats 4000000 in
set_option maxRecDepth 100000 in
theorem c_X7_fill (l : Launch) (D : va_G) (kI kJ kS : ClassId) (to : Nat) (ta : Nat → Nat) (z : (Nat → Int32)) (nst : Int32) (his : (Nat → Int32)) (len : Int32) (txt : (Nat → Int32)) (thr : Int32) (god : (Nat → Int64)) (prm : (Nat → Int32)) (npr : Int32) (cov : (Nat → Int32)) (siz : (Nat → Int32)) (pts : (Nat → Int32)) (rea : Int32) (pla : Int32) (bef : (Nat → Int32)) (has : Int64) {r : Int32 × (Nat → Int32) × Int32 × (Nat → Int32) × Int32 × Int32 × (Nat → Int32) × Int32 × Int32 × (Nat → Int32)} (hrun : fX7_fill z nst his len txt pts bef = some r) : cI l D (tyL kI kJ kS) false yX7_fill wsX7_fill (rmk 3 0 0 66) [.ref to] (wX7 kI kJ to ta z nst his len txt thr god prm npr cov siz pts rea pla bef has) (wX7 kI kJ to ta r.2.1 r.2.2.1 r.2.2.2.1 r.2.2.2.2.1 txt r.2.2.2.2.2.1 god prm npr cov siz r.2.2.2.2.2.2.1 r.2.2.2.2.2.2.2.1 r.2.2.2.2.2.2.2.2.1 r.2.2.2.2.2.2.2.2.2 has) r.1 := by
  refine cI_of (cc := cX7_fill) (maxL := 4) (by decide) rfl (Nat.le_of_ble_eq_true rfl) ?_
  intro p e s m av below meth c A Q ls hE hP hD hS hl hret
  have hE : ent_ p s m av meth c RX7 cX7_fill 4 (some .int) wsX7_fill (tyL kI kJ kS) D A false := hE
  obtain ⟨hx, hb, hml, hown, hts, hr, hlocks, hK, hA, hst⟩ := id hE
  have hl : lv_has ls 4 [(0, .ref to)] := hl
  have c_J161 : ∀ (x2 : Int32) (x3 : Int32) (z : (Nat → Int32)) (nst : Int32) (his : (Nat → Int32)) (len : Int32) (thr : Int32) (pts : (Nat → Int32)) (rea : Int32) (pla : Int32) (bef : (Nat → Int32)) (k105 : Int32 → (Nat → Int32) → Option (Int32 × (Nat → Int32) × Int32 × (Nat → Int32) × Int32 × Int32 × (Nat → Int32) × Int32 × Int32 × (Nat → Int32))) (hk105 : (∀ (x3 : Int32) (z : (Nat → Int32)), k105 x3 z = some r → wAt p l e (rmk 3 0 0 66) s m av below meth c D A 4 0 0 Q 105 [] [(0, .ref to), (2, .int x2), (3, .int x3)] (wX7 kI kJ to ta z nst his len txt thr god prm npr cov siz pts rea pla bef has))), fX7_fill_J161 x2 x3 z nst his len thr pts rea pla bef k105 = some r → wAt p l e (rmk 3 0 0 66) s m av below meth c D A 4 0 0 Q 161 [] [(0, .ref to), (2, .int x2), (3, .int x3)] (wX7 kI kJ to ta z nst his len txt thr god prm npr cov siz pts rea pla bef has) := by
    intro x2 x3 z nst his len thr pts rea pla bef k105 hk105 hrun H locs ls hP hD hS hl
    unfold fX7_fill_J161 at hrun
    refine lv_iinc (v := x3 + 1) (lv' := [(3, .int (x3 + 1)), (0, .ref to), (2, .int x2)]) hx hb dX7_fill_161 hl (k := 2) rfl rfl (by decide) rfl (fun ls hl => ?_)
    refine lv_goto (tgt := 105) hx hb dX7_fill_164 (by decide) ?_
    exact hk105 (x3 + 1) z  hrun _ _ _ hP hD hS (lv_sub hl [1, 2, 0] rfl)
  have c_J167 : ∀ (x2 : Int32) (z : (Nat → Int32)) (nst : Int32) (his : (Nat → Int32)) (len : Int32) (thr : Int32) (pts : (Nat → Int32)) (rea : Int32) (pla : Int32) (bef : (Nat → Int32)) (k95 : Int32 → (Nat → Int32) → Option (Int32 × (Nat → Int32) × Int32 × (Nat → Int32) × Int32 × Int32 × (Nat → Int32) × Int32 × Int32 × (Nat → Int32))) (hk95 : (∀ (x2 : Int32) (z : (Nat → Int32)), k95 x2 z = some r → wAt p l e (rmk 3 0 0 66) s m av below meth c D A 4 0 0 Q 95 [] [(0, .ref to), (2, .int x2)] (wX7 kI kJ to ta z nst his len txt thr god prm npr cov siz pts rea pla bef has))), fX7_fill_J167 x2 z nst his len thr pts rea pla bef k95 = some r → wAt p l e (rmk 3 0 0 66) s m av below meth c D A 4 0 0 Q 167 [] [(0, .ref to), (2, .int x2)] (wX7 kI kJ to ta z nst his len txt thr god prm npr cov siz pts rea pla bef has) := by
    intro x2 z nst his len thr pts rea pla bef k95 hk95 hrun H locs ls hP hD hS hl
    unfold fX7_fill_J167 at hrun
    refine lv_iinc (v := x2 + 1) (lv' := [(2, .int (x2 + 1)), (0, .ref to)]) hx hb dX7_fill_167 hl (k := 1) rfl rfl (by decide) rfl (fun ls hl => ?_)
    refine lv_goto (tgt := 95) hx hb dX7_fill_170 (by decide) ?_
    exact hk95 (x2 + 1) z  hrun _ _ _ hP hD hS (lv_sub hl [1, 0] rfl)
  have c_L105 : ∀ (x2 : Int32) (nst : Int32) (his : (Nat → Int32)) (len : Int32) (thr : Int32) (pts : (Nat → Int32)) (rea : Int32) (pla : Int32) (bef : (Nat → Int32)) (k95 : Int32 → (Nat → Int32) → Option (Int32 × (Nat → Int32) × Int32 × (Nat → Int32) × Int32 × Int32 × (Nat → Int32) × Int32 × Int32 × (Nat → Int32))) (hk95 : (∀ (x2 : Int32) (z : (Nat → Int32)), k95 x2 z = some r → wAt p l e (rmk 3 0 0 66) s m av below meth c D A 4 0 0 Q 95 [] [(0, .ref to), (2, .int x2)] (wX7 kI kJ to ta z nst his len txt thr god prm npr cov siz pts rea pla bef has))) (n : Nat) (x3 : Int32) (z : (Nat → Int32)), fX7_fill_L105 x2 nst his len thr pts rea pla bef k95 n x3 z = some r → wAt p l e (rmk 3 0 0 66) s m av below meth c D A 4 0 0 Q 105 [] [(0, .ref to), (2, .int x2), (3, .int x3)] (wX7 kI kJ to ta z nst his len txt thr god prm npr cov siz pts rea pla bef has) := by
    intro x2 nst his len thr pts rea pla bef k95 hk95 n
    induction n with
    | zero =>
      intro x3 z hrun
      rw [fX7_fill_L105] at hrun
      cases hrun
    | succ n ih =>
      intro x3 z hrun H locs ls hP hD hS hl
      rw [fX7_fill_L105] at hrun
      refine lv_iload_n hx hb dX7_fill_105 rfl (lv_at hl 2 rfl) ?_
      refine lv_aload_n hx hb dX7_fill_106 rfl (lv_at hl 0 rfl) ?_
      obtain ⟨q_1, hq_1, hrun⟩ := bd_some hrun
      refine cI_callV (As := []) (rest := [.int x3]) (wr := []) (wN := (wX7 kI kJ to ta z nst his len txt thr god prm npr cov siz pts rea pla bef has)) (ci := 6) (q0 := 0) hE (c_X7_rows l D kI kJ kS to ta  z nst his len txt thr god prm npr cov siz pts rea pla bef has hq_1) (cwV 0 hts gX7_fill_X7_rows rfl rfl rfl (by decide +kernel) ⟨Nat.le_of_ble_eq_true rfl, Nat.le_of_ble_eq_true rfl⟩) hP hD hS [0, 1, 2, 3, 4, 5, 6, 7, 8, 9] [] [0, 1, 2, 3, 4, 5, 6, 7, 8, 9] rfl rfl rfl rfl (by decide) rfl rfl rfl rfl rfl hl.1 rfl (Nat.le_of_ble_eq_true rfl) dX7_fill_107 ⟨Nat.le_of_ble_eq_true rfl, Nat.le_of_ble_eq_true rfl⟩ (fun H locs hP hD hS => ?_)
      refine lv_icmp_ge (tgt := 167) hx hb dX7_fill_110 (by decide) (fun hc => ?_) (fun hc => ?_)
      · have hrun := it_t hc hrun
        exact c_J167 x2 z nst his len thr pts rea pla bef k95 hk95  hrun _ _ _ hP hD hS (lv_sub hl [0, 1] rfl)
      · have hrun := it_f hc hrun
        refine lv_iload_n hx hb dX7_fill_113 rfl (lv_at hl 2 rfl) ?_
        refine lv_aload_n hx hb dX7_fill_114 rfl (lv_at hl 0 rfl) ?_
        refine va_get (D := D) (ci := 6) (v := .ref (ta 7)) (C := RX7) (T := TX7) (N := 16) hx hb hts iX7_fill_X7 hown hK hP 0 rfl rfl 11 (by decide) (hts _ mX7_fill_7) (fun _ h9 => h9) rfl dX7_fill_115 ?_
        refine lv_iconst (v := 4) hx hb dX7_fill_118 (by decide) ?_
        refine lv_iload_n hx hb dX7_fill_119 rfl (lv_at hl 1 rfl) ?_
        refine lv_imul hx hb dX7_fill_120 ?_
        obtain ⟨hin, hrun⟩ := gd_some hrun
        refine va_iald hx hb hK hP 8 0 rfl rfl hin dX7_fill_121 ?_
        refine lv_iand hx hb dX7_fill_122 ?_
        refine lv_aload_n hx hb dX7_fill_123 rfl (lv_at hl 0 rfl) ?_
        refine va_get (D := D) (ci := 6) (v := .ref (ta 7)) (C := RX7) (T := TX7) (N := 16) hx hb hts iX7_fill_X7 hown hK hP 0 rfl rfl 11 (by decide) (hts _ mX7_fill_7) (fun _ h9 => h9) rfl dX7_fill_124 ?_
        refine lv_iconst (v := 4) hx hb dX7_fill_127 (by decide) ?_
        refine lv_iload_n hx hb dX7_fill_128 rfl (lv_at hl 1 rfl) ?_
        refine lv_imul hx hb dX7_fill_129 ?_
        refine lv_iconst (v := 1) hx hb dX7_fill_130 (by decide) ?_
        refine lv_iadd hx hb dX7_fill_131 ?_
        obtain ⟨hin, hrun⟩ := gd_some hrun
        refine va_iald hx hb hK hP 8 0 rfl rfl hin dX7_fill_132 ?_
        refine lv_icmp_ne (tgt := 161) hx hb dX7_fill_133 (by decide) (fun hc => ?_) (fun hc => ?_)
        · have hrun := it_f hc hrun
          exact c_J161 x2 x3 z nst his len thr pts rea pla bef (fX7_fill_L105 x2 nst his len thr pts rea pla bef k95 n) ih  hrun _ _ _ hP hD hS (lv_sub hl [0, 1, 2] rfl)
        · have hrun := it_t hc hrun
          refine lv_aload_n hx hb dX7_fill_136 rfl (lv_at hl 0 rfl) ?_
          refine lv_aload_n hx hb dX7_fill_137 rfl (lv_at hl 0 rfl) ?_
          refine va_get (D := D) (ci := 6) (v := .ref (ta 7)) (C := RX7) (T := TX7) (N := 16) hx hb hts iX7_fill_X7 hown hK hP 0 rfl rfl 11 (by decide) (hts _ mX7_fill_7) (fun _ h9 => h9) rfl dX7_fill_138 ?_
          refine lv_iconst (v := 4) hx hb dX7_fill_141 (by decide) ?_
          refine lv_iload_n hx hb dX7_fill_142 rfl (lv_at hl 1 rfl) ?_
          refine lv_imul hx hb dX7_fill_143 ?_
          refine lv_iconst (v := 2) hx hb dX7_fill_144 (by decide) ?_
          refine lv_iadd hx hb dX7_fill_145 ?_
          obtain ⟨hin, hrun⟩ := gd_some hrun
          refine va_iald hx hb hK hP 8 0 rfl rfl hin dX7_fill_146 ?_
          refine lv_iload_n hx hb dX7_fill_147 rfl (lv_at hl 2 rfl) ?_
          refine lv_aload_n hx hb dX7_fill_148 rfl (lv_at hl 0 rfl) ?_
          refine va_get (D := D) (ci := 6) (v := .ref (ta 7)) (C := RX7) (T := TX7) (N := 16) hx hb hts iX7_fill_X7 hown hK hP 0 rfl rfl 11 (by decide) (hts _ mX7_fill_7) (fun _ h9 => h9) rfl dX7_fill_149 ?_
          refine lv_iconst (v := 4) hx hb dX7_fill_152 (by decide) ?_
          refine lv_iload_n hx hb dX7_fill_153 rfl (lv_at hl 1 rfl) ?_
          refine lv_imul hx hb dX7_fill_154 ?_
          refine lv_iconst (v := 3) hx hb dX7_fill_155 (by decide) ?_
          refine lv_iadd hx hb dX7_fill_156 ?_
          obtain ⟨hin, hrun⟩ := gd_some hrun
          refine va_iald hx hb hK hP 8 0 rfl rfl hin dX7_fill_157 ?_
          obtain ⟨q_2, hq_2, hrun⟩ := bd_some hrun
          refine cV_callV (As := [.int (pts ((4 * x2) + 2).toNatClampNeg), .int x3, .int (pts ((4 * x2) + 3).toNatClampNeg)]) (rest := []) (wr := []) (wN := (wX7 kI kJ to ta q_2 nst his len txt thr god prm npr cov siz pts rea pla bef has)) (ci := 6) (q0 := 0) hE (c_X7_setTruth l D kI kJ kS to ta (pts ((4 * x2) + 2).toNatClampNeg) x3 (pts ((4 * x2) + 3).toNatClampNeg) z nst his len txt thr god prm npr cov siz pts rea pla bef has hq_2) (cwV 3 hts gX7_fill_X7_setTruth rfl rfl rfl (by decide +kernel) ⟨Nat.le_of_ble_eq_true rfl, Nat.le_of_ble_eq_true rfl⟩) hP hD hS [0, 1, 2, 3, 4, 5, 6, 7, 8, 9] [] [0, 1, 2, 3, 4, 5, 6, 7, 8, 9] rfl rfl rfl rfl (by decide) rfl rfl rfl rfl rfl hl.1 rfl (Nat.le_of_ble_eq_true rfl) dX7_fill_158 ⟨Nat.le_of_ble_eq_true rfl, Nat.le_of_ble_eq_true rfl⟩ (fun H locs hP hD hS => ?_)
          exact c_J161 x2 x3 q_2 nst his len thr pts rea pla bef (fX7_fill_L105 x2 nst his len thr pts rea pla bef k95 n) ih  hrun _ _ _ hP hD hS (lv_sub hl [0, 1, 2] rfl)
  have c_J208 : ∀ (x3 : Int32) (s0 : Int32) (s1 : Int32) (z : (Nat → Int32)) (nst : Int32) (his : (Nat → Int32)) (len : Int32) (thr : Int32) (pts : (Nat → Int32)) (rea : Int32) (pla : Int32) (bef : (Nat → Int32)) (k177 : Int32 → Int32 → Option (Int32 × (Nat → Int32) × Int32 × (Nat → Int32) × Int32 × Int32 × (Nat → Int32) × Int32 × Int32 × (Nat → Int32))) (hk177 : (∀ (x2 : Int32) (x3 : Int32), k177 x2 x3 = some r → wAt p l e (rmk 3 0 0 66) s m av below meth c D A 4 0 0 Q 177 [] [(0, .ref to), (2, .int x2), (3, .int x3)] (wX7 kI kJ to ta z nst his len txt thr god prm npr cov siz pts rea pla bef has))), fX7_fill_J208 x3 s0 s1 z nst his len thr pts rea pla bef k177 = some r → wAt p l e (rmk 3 0 0 66) s m av below meth c D A 4 0 0 Q 208 [.int s0, .int s1] [(0, .ref to), (3, .int x3)] (wX7 kI kJ to ta z nst his len txt thr god prm npr cov siz pts rea pla bef has) := by
    intro x3 s0 s1 z nst his len thr pts rea pla bef k177 hk177 hrun H locs ls hP hD hS hl
    unfold fX7_fill_J208 at hrun
    refine lv_iadd hx hb dX7_fill_208 ?_
    refine lv_istore_n (lv' := [(2, .int (s1 + s0)), (0, .ref to), (3, .int x3)]) hx hb dX7_fill_209 rfl hl (by decide) rfl (fun ls hl => ?_)
    refine lv_iinc (v := x3 + 1) (lv' := [(3, .int (x3 + 1)), (2, .int (s1 + s0)), (0, .ref to)]) hx hb dX7_fill_210 hl (k := 2) rfl rfl (by decide) rfl (fun ls hl => ?_)
    refine lv_goto (tgt := 177) hx hb dX7_fill_213 (by decide) ?_
    exact hk177 (s1 + s0) (x3 + 1)  hrun _ _ _ hP hD hS (lv_sub hl [2, 1, 0] rfl)
  have c_L177 : ∀ (z : (Nat → Int32)) (nst : Int32) (his : (Nat → Int32)) (len : Int32) (thr : Int32) (pts : (Nat → Int32)) (rea : Int32) (pla : Int32) (bef : (Nat → Int32)) (n : Nat) (x2 : Int32) (x3 : Int32), fX7_fill_L177 z nst his len thr pts rea pla bef n x2 x3 = some r → wAt p l e (rmk 3 0 0 66) s m av below meth c D A 4 0 0 Q 177 [] [(0, .ref to), (2, .int x2), (3, .int x3)] (wX7 kI kJ to ta z nst his len txt thr god prm npr cov siz pts rea pla bef has) := by
    intro z nst his len thr pts rea pla bef n
    induction n with
    | zero =>
      intro x2 x3 hrun
      rw [fX7_fill_L177] at hrun
      cases hrun
    | succ n ih =>
      intro x2 x3 hrun H locs ls hP hD hS hl
      rw [fX7_fill_L177] at hrun
      refine lv_iload_n hx hb dX7_fill_177 rfl (lv_at hl 2 rfl) ?_
      refine lv_sipush (v := 256) hx hb dX7_fill_178 (by decide) ?_
      refine lv_icmp_ge (tgt := 216) hx hb dX7_fill_181 (by decide) (fun hc => ?_) (fun hc => ?_)
      · have hrun := it_t hc hrun
        refine lv_iload_n hx hb dX7_fill_216 rfl (lv_at hl 1 rfl) ?_
        obtain rfl := Option.some.inj hrun
        exact hret _ _ _ _ rfl dX7_fill_217 hP hD hS
      · have hrun := it_f hc hrun
        refine lv_iload_n hx hb dX7_fill_184 rfl (lv_at hl 1 rfl) ?_
        refine lv_aload_n hx hb dX7_fill_185 rfl (lv_at hl 0 rfl) ?_
        refine va_get (D := D) (ci := 6) (v := .ref (ta 8)) (C := RX7) (T := TX7) (N := 16) hx hb hts iX7_fill_X7 hown hK hP 0 rfl rfl 14 (by decide) (hts _ mX7_fill_5) (fun _ h9 => h9) rfl dX7_fill_186 ?_
        refine lv_iload_n hx hb dX7_fill_189 rfl (lv_at hl 2 rfl) ?_
        obtain ⟨hin, hrun⟩ := gd_some hrun
        refine va_iald hx hb hK hP 9 0 rfl rfl hin dX7_fill_190 ?_
        refine lv_aload_n hx hb dX7_fill_191 rfl (lv_at hl 0 rfl) ?_
        refine va_get (D := D) (ci := 6) (v := .ref (ta 0)) (C := RX7) (T := TX7) (N := 16) hx hb hts iX7_fill_X7 hown hK hP 0 rfl rfl 0 (by decide) (hts _ mX7_fill_3) (fun _ h9 => h9) rfl dX7_fill_192 ?_
        refine lv_bipush (v := 12) hx hb dX7_fill_195 (by decide) ?_
        refine lv_iload_n hx hb dX7_fill_197 rfl (lv_at hl 2 rfl) ?_
        refine lv_iadd hx hb dX7_fill_198 ?_
        obtain ⟨hin, hrun⟩ := gd_some hrun
        refine va_iald hx hb hK hP 1 0 rfl rfl hin dX7_fill_199 ?_
        refine lv_icmp_ne (tgt := 207) hx hb dX7_fill_200 (by decide) (fun hc => ?_) (fun hc => ?_)
        · have hrun := it_f hc hrun
          refine lv_iconst (v := 1) hx hb dX7_fill_207 (by decide) ?_
          exact c_J208 x3 1 x2 z nst his len thr pts rea pla bef (fX7_fill_L177 z nst his len thr pts rea pla bef n) ih  hrun _ _ _ hP hD hS (lv_sub hl [0, 2] rfl)
        · have hrun := it_t hc hrun
          refine lv_iconst (v := 0) hx hb dX7_fill_203 (by decide) ?_
          refine lv_goto (tgt := 208) hx hb dX7_fill_204 (by decide) ?_
          exact c_J208 x3 0 x2 z nst his len thr pts rea pla bef (fX7_fill_L177 z nst his len thr pts rea pla bef n) ih  hrun _ _ _ hP hD hS (lv_sub hl [0, 2] rfl)
  have c_J173 : ∀ (z : (Nat → Int32)) (nst : Int32) (his : (Nat → Int32)) (len : Int32) (thr : Int32) (pts : (Nat → Int32)) (rea : Int32) (pla : Int32) (bef : (Nat → Int32)), fX7_fill_J173 z nst his len thr pts rea pla bef = some r → wAt p l e (rmk 3 0 0 66) s m av below meth c D A 4 0 0 Q 173 [] [(0, .ref to)] (wX7 kI kJ to ta z nst his len txt thr god prm npr cov siz pts rea pla bef has) := by
    intro z nst his len thr pts rea pla bef hrun H locs ls hP hD hS hl
    unfold fX7_fill_J173 at hrun
    refine lv_iconst (v := 0) hx hb dX7_fill_173 (by decide) ?_
    refine lv_istore_n (lv' := [(2, .int 0), (0, .ref to)]) hx hb dX7_fill_174 rfl hl (by decide) rfl (fun ls hl => ?_)
    refine lv_iconst (v := 0) hx hb dX7_fill_175 (by decide) ?_
    refine lv_istore_n (lv' := [(3, .int 0), (2, .int 0), (0, .ref to)]) hx hb dX7_fill_176 rfl hl (by decide) rfl (fun ls hl => ?_)
    exact c_L177 z nst his len thr pts rea pla bef 5000 0 0  hrun _ _ _ hP hD hS (lv_sub hl [2, 1, 0] rfl)
  have c_L95 : ∀ (nst : Int32) (his : (Nat → Int32)) (len : Int32) (thr : Int32) (pts : (Nat → Int32)) (rea : Int32) (pla : Int32) (bef : (Nat → Int32)) (n : Nat) (x2 : Int32) (z : (Nat → Int32)), fX7_fill_L95 nst his len thr pts rea pla bef n x2 z = some r → wAt p l e (rmk 3 0 0 66) s m av below meth c D A 4 0 0 Q 95 [] [(0, .ref to), (2, .int x2)] (wX7 kI kJ to ta z nst his len txt thr god prm npr cov siz pts rea pla bef has) := by
    intro nst his len thr pts rea pla bef n
    induction n with
    | zero =>
      intro x2 z hrun
      rw [fX7_fill_L95] at hrun
      cases hrun
    | succ n ih =>
      intro x2 z hrun H locs ls hP hD hS hl
      rw [fX7_fill_L95] at hrun
      refine lv_iload_n hx hb dX7_fill_95 rfl (lv_at hl 1 rfl) ?_
      refine lv_aload_n hx hb dX7_fill_96 rfl (lv_at hl 0 rfl) ?_
      refine va_get (D := D) (ci := 6) (v := .int rea) (C := RX7) (T := TX7) (N := 16) hx hb hts iX7_fill_X7 hown hK hP 0 rfl rfl 12 (by decide) (hts _ mX7_fill_6) (fun _ h9 => h9) rfl dX7_fill_97 ?_
      refine lv_icmp_gt (tgt := 173) hx hb dX7_fill_100 (by decide) (fun hc => ?_) (fun hc => ?_)
      · have hrun := it_t hc hrun
        exact c_J173 z nst his len thr pts rea pla bef  hrun _ _ _ hP hD hS (lv_sub hl [0] rfl)
      · have hrun := it_f hc hrun
        refine lv_iconst (v := 0) hx hb dX7_fill_103 (by decide) ?_
        refine lv_istore_n (lv' := [(3, .int 0), (0, .ref to), (2, .int x2)]) hx hb dX7_fill_104 rfl hl (by decide) rfl (fun ls hl => ?_)
        exact c_L105 x2 nst his len thr pts rea pla bef (fX7_fill_L95 nst his len thr pts rea pla bef n) ih 5000 0 z  hrun _ _ _ hP hD hS (lv_sub hl [1, 2, 0] rfl)
  have c_J93 : ∀ (z : (Nat → Int32)) (nst : Int32) (his : (Nat → Int32)) (len : Int32) (thr : Int32) (pts : (Nat → Int32)) (rea : Int32) (pla : Int32) (bef : (Nat → Int32)), fX7_fill_J93 z nst his len thr pts rea pla bef = some r → wAt p l e (rmk 3 0 0 66) s m av below meth c D A 4 0 0 Q 93 [] [(0, .ref to)] (wX7 kI kJ to ta z nst his len txt thr god prm npr cov siz pts rea pla bef has) := by
    intro z nst his len thr pts rea pla bef hrun H locs ls hP hD hS hl
    unfold fX7_fill_J93 at hrun
    refine lv_iconst (v := 0) hx hb dX7_fill_93 (by decide) ?_
    refine lv_istore_n (lv' := [(2, .int 0), (0, .ref to)]) hx hb dX7_fill_94 rfl hl (by decide) rfl (fun ls hl => ?_)
    exact c_L95 nst his len thr pts rea pla bef 5000 0 z  hrun _ _ _ hP hD hS (lv_sub hl [1, 0] rfl)
  have c_L65 : ∀ (z : (Nat → Int32)) (nst : Int32) (his : (Nat → Int32)) (len : Int32) (thr : Int32) (pts : (Nat → Int32)) (rea : Int32) (pla : Int32) (n : Nat) (x2 : Int32) (bef : (Nat → Int32)), fX7_fill_L65 z nst his len thr pts rea pla n x2 bef = some r → wAt p l e (rmk 3 0 0 66) s m av below meth c D A 4 0 0 Q 65 [] [(0, .ref to), (2, .int x2)] (wX7 kI kJ to ta z nst his len txt thr god prm npr cov siz pts rea pla bef has) := by
    intro z nst his len thr pts rea pla n
    induction n with
    | zero =>
      intro x2 bef hrun
      rw [fX7_fill_L65] at hrun
      cases hrun
    | succ n ih =>
      intro x2 bef hrun H locs ls hP hD hS hl
      rw [fX7_fill_L65] at hrun
      refine lv_iload_n hx hb dX7_fill_65 rfl (lv_at hl 1 rfl) ?_
      refine lv_sipush (v := 256) hx hb dX7_fill_66 (by decide) ?_
      refine lv_icmp_ge (tgt := 93) hx hb dX7_fill_69 (by decide) (fun hc => ?_) (fun hc => ?_)
      · have hrun := it_t hc hrun
        exact c_J93 z nst his len thr pts rea pla bef  hrun _ _ _ hP hD hS (lv_sub hl [0] rfl)
      · have hrun := it_f hc hrun
        refine lv_aload_n hx hb dX7_fill_72 rfl (lv_at hl 0 rfl) ?_
        refine va_get (D := D) (ci := 6) (v := .ref (ta 8)) (C := RX7) (T := TX7) (N := 16) hx hb hts iX7_fill_X7 hown hK hP 0 rfl rfl 14 (by decide) (hts _ mX7_fill_5) (fun _ h9 => h9) rfl dX7_fill_73 ?_
        refine lv_iload_n hx hb dX7_fill_76 rfl (lv_at hl 1 rfl) ?_
        refine lv_aload_n hx hb dX7_fill_77 rfl (lv_at hl 0 rfl) ?_
        refine va_get (D := D) (ci := 6) (v := .ref (ta 0)) (C := RX7) (T := TX7) (N := 16) hx hb hts iX7_fill_X7 hown hK hP 0 rfl rfl 0 (by decide) (hts _ mX7_fill_3) (fun _ h9 => h9) rfl dX7_fill_78 ?_
        refine lv_bipush (v := 12) hx hb dX7_fill_81 (by decide) ?_
        refine lv_iload_n hx hb dX7_fill_83 rfl (lv_at hl 1 rfl) ?_
        refine lv_iadd hx hb dX7_fill_84 ?_
        obtain ⟨hin, hrun⟩ := gd_some hrun
        refine va_iald hx hb hK hP 1 0 rfl rfl hin dX7_fill_85 ?_
        obtain ⟨hin, hrun⟩ := gd_some hrun
        refine va_iast hx hb hK hP hD hS 9 0 rfl rfl hin dX7_fill_86 (fun H locs hP hD hS => ?_)
        have hP : va_P D vwCl (wX7 kI kJ to ta z nst his len txt thr god prm npr cov siz pts rea pla (upd bef x2.toNatClampNeg (z (12 + x2).toNatClampNeg)) has) H := hP
        have hD : va_D A (wX7 kI kJ to ta z nst his len txt thr god prm npr cov siz pts rea pla (upd bef x2.toNatClampNeg (z (12 + x2).toNatClampNeg)) has) := hD
        refine lv_iinc (v := x2 + 1) (lv' := [(2, .int (x2 + 1)), (0, .ref to)]) hx hb dX7_fill_87 hl (k := 1) rfl rfl (by decide) rfl (fun ls hl => ?_)
        refine lv_goto (tgt := 65) hx hb dX7_fill_90 (by decide) ?_
        exact ih (x2 + 1) (upd bef x2.toNatClampNeg (z (12 + x2).toNatClampNeg))  hrun _ _ _ hP hD hS (lv_sub hl [1, 0] rfl)
  have c_J42 : ∀ (s0 : Int32) (z : (Nat → Int32)) (nst : Int32) (his : (Nat → Int32)) (len : Int32) (pts : (Nat → Int32)) (rea : Int32) (pla : Int32) (bef : (Nat → Int32)) (thr : Int32), fX7_fill_J42 s0 z nst his len pts rea pla bef = some r → wAt p l e (rmk 3 0 0 66) s m av below meth c D A 4 0 0 Q 42 [.int s0, .ref to] [(0, .ref to)] (wX7 kI kJ to ta z nst his len txt thr god prm npr cov siz pts rea pla bef has) := by
    intro s0 z nst his len pts rea pla bef thr hrun H locs ls hP hD hS hl
    unfold fX7_fill_J42 at hrun
    refine va_put (D := D) (ci := 6) (v := .int s0) (ty := .int) (C := RX7) (T := TX7) (N := 16) hx hb hts iX7_fill_X7 tyX7 tyX7_ok nmX7 hown hK hP hD hS 0 rfl rfl 5 (by decide) (hts _ mX7_fill_4) (fun _ h9 => h9) rfl (by decide +kernel) rfl rfl (Nat.le_of_ble_eq_true rfl) dX7_fill_42 (fun H locs hP hD hS => ?_)
    have hP : va_P D vwCl (wX7 kI kJ to ta z nst his len txt s0 god prm npr cov siz pts rea pla bef has) H := hP
    have hD : va_D A (wX7 kI kJ to ta z nst his len txt s0 god prm npr cov siz pts rea pla bef has) := hD
    refine lv_aload_n hx hb dX7_fill_45 rfl (lv_at hl 0 rfl) ?_
    refine va_get (D := D) (ci := 6) (v := .int s0) (C := RX7) (T := TX7) (N := 16) hx hb hts iX7_fill_X7 hown hK hP 0 rfl rfl 5 (by decide) (hts _ mX7_fill_4) (fun _ h9 => h9) rfl dX7_fill_46 ?_
    refine lv_if_le (tgt := 54) hx hb dX7_fill_49 (by decide) (fun hc => ?_) (fun hc => ?_)
    · have hrun := it_t hc hrun
      refine lv_aload_n hx hb dX7_fill_54 rfl (lv_at hl 0 rfl) ?_
      obtain ⟨q_3, hq_3, hrun⟩ := bd_some hrun
      refine cV_callV (As := []) (rest := []) (wr := []) (wN := (wX7 kI kJ to ta z q_3.1 q_3.2 len txt s0 god prm npr cov siz pts rea pla bef has)) (ci := 6) (q0 := 0) hE (c_X7_save l D kI kJ kS to ta  z nst his len txt s0 god prm npr cov siz pts rea pla bef has hq_3) (cwV 0 hts gX7_fill_X7_save rfl rfl rfl (by decide +kernel) ⟨Nat.le_of_ble_eq_true rfl, Nat.le_of_ble_eq_true rfl⟩) hP hD hS [0, 1, 2, 3, 4, 5, 6, 7, 8, 9] [] [0, 1, 2, 3, 4, 5, 6, 7, 8, 9] rfl rfl rfl rfl (by decide) rfl rfl rfl rfl rfl hl.1 rfl (Nat.le_of_ble_eq_true rfl) dX7_fill_55 ⟨Nat.le_of_ble_eq_true rfl, Nat.le_of_ble_eq_true rfl⟩ (fun H locs hP hD hS => ?_)
      refine lv_aload_n hx hb dX7_fill_58 rfl (lv_at hl 0 rfl) ?_
      refine lv_iconst (v := 0) hx hb dX7_fill_59 (by decide) ?_
      refine va_put (D := D) (ci := 6) (v := .int 0) (ty := .int) (C := RX7) (T := TX7) (N := 16) hx hb hts iX7_fill_X7 tyX7 tyX7_ok nmX7 hown hK hP hD hS 0 rfl rfl 3 (by decide) (hts _ mX7_fill_1) (fun _ h9 => h9) rfl (by decide +kernel) rfl rfl (Nat.le_of_ble_eq_true rfl) dX7_fill_60 (fun H locs hP hD hS => ?_)
      have hP : va_P D vwCl (wX7 kI kJ to ta z q_3.1 q_3.2 0 txt s0 god prm npr cov siz pts rea pla bef has) H := hP
      have hD : va_D A (wX7 kI kJ to ta z q_3.1 q_3.2 0 txt s0 god prm npr cov siz pts rea pla bef has) := hD
      refine lv_iconst (v := 0) hx hb dX7_fill_63 (by decide) ?_
      refine lv_istore_n (lv' := [(2, .int 0), (0, .ref to)]) hx hb dX7_fill_64 rfl hl (by decide) rfl (fun ls hl => ?_)
      exact c_L65 z q_3.1 q_3.2 0 s0 pts rea pla 5000 0 bef  hrun _ _ _ hP hD hS (lv_sub hl [1, 0] rfl)
    · have hrun := it_f hc hrun
      refine lv_iconst (v := 0) hx hb dX7_fill_52 (by decide) ?_
      obtain rfl := Option.some.inj hrun
      exact hret _ _ _ _ rfl dX7_fill_53 hP hD hS
  have c_J31 : ∀ (s0 : Int32) (z : (Nat → Int32)) (nst : Int32) (his : (Nat → Int32)) (len : Int32) (pts : (Nat → Int32)) (rea : Int32) (pla : Int32) (bef : (Nat → Int32)) (thr : Int32), fX7_fill_J31 s0 z nst his len pts rea pla bef = some r → wAt p l e (rmk 3 0 0 66) s m av below meth c D A 4 0 0 Q 31 [.int s0] [(0, .ref to)] (wX7 kI kJ to ta z nst his len txt thr god prm npr cov siz pts rea pla bef has) := by
    intro s0 z nst his len pts rea pla bef thr hrun H locs ls hP hD hS hl
    unfold fX7_fill_J31 at hrun
    refine lv_istore_n (lv' := [(1, .int s0), (0, .ref to)]) hx hb dX7_fill_31 rfl hl (by decide) rfl (fun ls hl => ?_)
    refine lv_aload_n hx hb dX7_fill_32 rfl (lv_at hl 1 rfl) ?_
    refine lv_iload_n hx hb dX7_fill_33 rfl (lv_at hl 0 rfl) ?_
    refine lv_if_eq (tgt := 41) hx hb dX7_fill_34 (by decide) (fun hc => ?_) (fun hc => ?_)
    · have hrun := it_t hc hrun
      refine lv_iconst (v := 1) hx hb dX7_fill_41 (by decide) ?_
      exact c_J42 1 z nst his len pts rea pla bef thr hrun _ _ _ hP hD hS (lv_sub hl [1] rfl)
    · have hrun := it_f hc hrun
      refine lv_iconst (v := 0) hx hb dX7_fill_37 (by decide) ?_
      refine lv_goto (tgt := 42) hx hb dX7_fill_38 (by decide) ?_
      exact c_J42 0 z nst his len pts rea pla bef thr hrun _ _ _ hP hD hS (lv_sub hl [1] rfl)
  have c_J30 : ∀ (z : (Nat → Int32)) (nst : Int32) (his : (Nat → Int32)) (len : Int32) (pts : (Nat → Int32)) (rea : Int32) (pla : Int32) (bef : (Nat → Int32)) (thr : Int32), fX7_fill_J30 z nst his len pts rea pla bef = some r → wAt p l e (rmk 3 0 0 66) s m av below meth c D A 4 0 0 Q 30 [] [(0, .ref to)] (wX7 kI kJ to ta z nst his len txt thr god prm npr cov siz pts rea pla bef has) := by
    intro z nst his len pts rea pla bef thr hrun H locs ls hP hD hS hl
    unfold fX7_fill_J30 at hrun
    refine lv_iconst (v := 0) hx hb dX7_fill_30 (by decide) ?_
    exact c_J31 0 z nst his len pts rea pla bef thr hrun _ _ _ hP hD hS (lv_sub hl [0] rfl)
  unfold fX7_fill at hrun
  refine lv_aload_n hx hb dX7_fill_0 rfl (lv_at hl 0 rfl) ?_
  obtain ⟨q_4, hq_4, hrun⟩ := bd_some hrun
  refine cI_callV (As := []) (rest := []) (wr := []) (wN := (wX7 kI kJ to ta z nst his len txt thr god prm npr cov siz q_4.2.1 q_4.2.2.1 q_4.2.2.2 bef has)) (ci := 6) (q0 := 0) hE (c_X7_rightUpTo l D kI kJ kS to ta  z nst his len txt thr god prm npr cov siz pts rea pla bef has hq_4) (cwV 0 hts gX7_fill_X7_rightUpTo rfl rfl rfl (by decide +kernel) ⟨Nat.le_of_ble_eq_true rfl, Nat.le_of_ble_eq_true rfl⟩) hP hD hS [0, 1, 2, 3, 4, 5, 6, 7, 8, 9] [] [0, 1, 2, 3, 4, 5, 6, 7, 8, 9] rfl rfl rfl rfl (by decide) rfl rfl rfl rfl rfl hl.1 rfl (Nat.le_of_ble_eq_true rfl) dX7_fill_1 ⟨Nat.le_of_ble_eq_true rfl, Nat.le_of_ble_eq_true rfl⟩ (fun H locs hP hD hS => ?_)
  refine lv_aload_n hx hb dX7_fill_4 rfl (lv_at hl 0 rfl) ?_
  refine va_get (D := D) (ci := 6) (v := .int len) (C := RX7) (T := TX7) (N := 16) hx hb hts iX7_fill_X7 hown hK hP 0 rfl rfl 3 (by decide) (hts _ mX7_fill_1) (fun _ h9 => h9) rfl dX7_fill_5 ?_
  refine lv_icmp_ne (tgt := 30) hx hb dX7_fill_8 (by decide) (fun hc => ?_) (fun hc => ?_)
  · have hrun := it_f hc hrun
    exact c_J30 z nst his len q_4.2.1 q_4.2.2.1 q_4.2.2.2 bef thr hrun _ _ _ hP hD hS (lv_sub hl [0] rfl)
  · have hrun := it_t hc hrun
    refine lv_aload_n hx hb dX7_fill_11 rfl (lv_at hl 0 rfl) ?_
    refine va_get (D := D) (ci := 6) (v := .int q_4.2.2.2) (C := RX7) (T := TX7) (N := 16) hx hb hts iX7_fill_X7 hown hK hP 0 rfl rfl 13 (by decide) (hts _ mX7_fill_2) (fun _ h9 => h9) rfl dX7_fill_12 ?_
    refine lv_aload_n hx hb dX7_fill_15 rfl (lv_at hl 0 rfl) ?_
    refine va_get (D := D) (ci := 6) (v := .ref (ta 0)) (C := RX7) (T := TX7) (N := 16) hx hb hts iX7_fill_X7 hown hK hP 0 rfl rfl 0 (by decide) (hts _ mX7_fill_3) (fun _ h9 => h9) rfl dX7_fill_16 ?_
    refine lv_iconst (v := 0) hx hb dX7_fill_19 (by decide) ?_
    obtain ⟨hin, hrun⟩ := gd_some hrun
    refine va_iald hx hb hK hP 1 0 rfl rfl hin dX7_fill_20 ?_
    refine lv_iconst (v := 4) hx hb dX7_fill_21 (by decide) ?_
    refine lv_iadd hx hb dX7_fill_22 ?_
    refine lv_icmp_ne (tgt := 30) hx hb dX7_fill_23 (by decide) (fun hc => ?_) (fun hc => ?_)
    · have hrun := it_f hc hrun
      exact c_J30 z nst his len q_4.2.1 q_4.2.2.1 q_4.2.2.2 bef thr hrun _ _ _ hP hD hS (lv_sub hl [0] rfl)
    · have hrun := it_t hc hrun
      refine lv_iconst (v := 1) hx hb dX7_fill_26 (by decide) ?_
      refine lv_goto (tgt := 31) hx hb dX7_fill_27 (by decide) ?_
      exact c_J31 1 z nst his len q_4.2.1 q_4.2.2.1 q_4.2.2.2 bef thr hrun _ _ _ hP hD hS (lv_sub hl [0] rfl)
/-! ===== X7_undo ===== -/
theorem mX7_undo_1 : Cond.fieldLink RX7 42 "GateMazeModel" "states" "I" ∈ wsX7_undo := List.mem_of_getElem? (i := 1) rfl
theorem mX7_undo_3 : Cond.fieldLink RX7 7 "GateMazeModel" "z" "[I" ∈ wsX7_undo := List.mem_of_getElem? (i := 3) rfl
theorem mX7_undo_4 : Cond.fieldLink RX7 13 "GateMazeModel" "history" "[I" ∈ wsX7_undo := List.mem_of_getElem? (i := 4) rfl
theorem mX7_undo_2 : Cond.fieldLink RX7 38 "GateMazeModel" "thrown" "I" ∈ wsX7_undo := List.mem_of_getElem? (i := 2) rfl
theorem iX7_undo_X7 : ∀ w ∈ u_ws RX7 TX7 16, w ∈ wsX7_undo := fun w h => List.mem_cons_of_mem _ (List.mem_append_right _ h)
set_option maxHeartbeats 4000000 in
set_option maxRecDepth 100000 in
theorem c_X7_undo (l : Launch) (D : va_G) (kI kJ kS : ClassId) (to : Nat) (ta : Nat → Nat) (z : (Nat → Int32)) (nst : Int32) (his : (Nat → Int32)) (len : Int32) (txt : (Nat → Int32)) (thr : Int32) (god : (Nat → Int64)) (prm : (Nat → Int32)) (npr : Int32) (cov : (Nat → Int32)) (siz : (Nat → Int32)) (pts : (Nat → Int32)) (rea : Int32) (pla : Int32) (bef : (Nat → Int32)) (has : Int64) {r : Int32 × (Nat → Int32) × Int32 × Int32} (hrun : fX7_undo z nst his = some r) : cI l D (tyL kI kJ kS) false yX7_undo wsX7_undo (rmk 0 0 0 0) [.ref to] (wX7 kI kJ to ta z nst his len txt thr god prm npr cov siz pts rea pla bef has) (wX7 kI kJ to ta r.2.1 r.2.2.1 his len txt r.2.2.2 god prm npr cov siz pts rea pla bef has) r.1 := by
  refine cI_of (cc := cX7_undo) (maxL := 2) (by decide) rfl (Nat.le_of_ble_eq_true rfl) ?_
  intro p e s m av below meth c A Q ls hE hP hD hS hl hret
  have hE : ent_ p s m av meth c RX7 cX7_undo 2 (some .int) wsX7_undo (tyL kI kJ kS) D A false := hE
  obtain ⟨hx, hb, hml, hown, hts, hr, hlocks, hK, hA, hst⟩ := id hE
  have hl : lv_has ls 2 [(0, .ref to)] := hl
  have c_J71 : ∀ (z : (Nat → Int32)) (nst : Int32) (thr : Int32), fX7_undo_J71 z nst thr = some r → wAt p l e (rmk 0 0 0 0) s m av below meth c D A 2 0 0 Q 71 [] [(0, .ref to)] (wX7 kI kJ to ta z nst his len txt thr god prm npr cov siz pts rea pla bef has) := by
    intro z nst thr hrun H locs ls hP hD hS hl
    unfold fX7_undo_J71 at hrun
    refine lv_aload_n hx hb dX7_undo_71 rfl (lv_at hl 0 rfl) ?_
    refine va_get (D := D) (ci := 6) (v := .int nst) (C := RX7) (T := TX7) (N := 16) hx hb hts iX7_undo_X7 hown hK hP 0 rfl rfl 1 (by decide) (hts _ mX7_undo_1) (fun _ h9 => h9) rfl dX7_undo_72 ?_
    obtain rfl := Option.some.inj hrun
    exact hret _ _ _ _ rfl dX7_undo_75 hP hD hS
  have c_L37 : ∀ (nst : Int32) (thr : Int32) (n : Nat) (x1 : Int32) (z : (Nat → Int32)), fX7_undo_L37 nst his thr n x1 z = some r → wAt p l e (rmk 0 0 0 0) s m av below meth c D A 2 0 0 Q 37 [] [(0, .ref to), (1, .int x1)] (wX7 kI kJ to ta z nst his len txt thr god prm npr cov siz pts rea pla bef has) := by
    intro nst thr n
    induction n with
    | zero =>
      intro x1 z hrun
      rw [fX7_undo_L37] at hrun
      cases hrun
    | succ n ih =>
      intro x1 z hrun H locs ls hP hD hS hl
      rw [fX7_undo_L37] at hrun
      refine lv_iload_n hx hb dX7_undo_37 rfl (lv_at hl 1 rfl) ?_
      refine lv_sipush (v := 268) hx hb dX7_undo_38 (by decide) ?_
      refine lv_icmp_ge (tgt := 71) hx hb dX7_undo_41 (by decide) (fun hc => ?_) (fun hc => ?_)
      · have hrun := it_t hc hrun
        exact c_J71 z nst thr  hrun _ _ _ hP hD hS (lv_sub hl [0] rfl)
      · have hrun := it_f hc hrun
        refine lv_aload_n hx hb dX7_undo_44 rfl (lv_at hl 0 rfl) ?_
        refine va_get (D := D) (ci := 6) (v := .ref (ta 0)) (C := RX7) (T := TX7) (N := 16) hx hb hts iX7_undo_X7 hown hK hP 0 rfl rfl 0 (by decide) (hts _ mX7_undo_3) (fun _ h9 => h9) rfl dX7_undo_45 ?_
        refine lv_iload_n hx hb dX7_undo_48 rfl (lv_at hl 1 rfl) ?_
        refine lv_aload_n hx hb dX7_undo_49 rfl (lv_at hl 0 rfl) ?_
        refine va_get (D := D) (ci := 6) (v := .ref (ta 1)) (C := RX7) (T := TX7) (N := 16) hx hb hts iX7_undo_X7 hown hK hP 0 rfl rfl 2 (by decide) (hts _ mX7_undo_4) (fun _ h9 => h9) rfl dX7_undo_50 ?_
        refine lv_sipush (v := 268) hx hb dX7_undo_53 (by decide) ?_
        refine lv_aload_n hx hb dX7_undo_56 rfl (lv_at hl 0 rfl) ?_
        refine va_get (D := D) (ci := 6) (v := .int nst) (C := RX7) (T := TX7) (N := 16) hx hb hts iX7_undo_X7 hown hK hP 0 rfl rfl 1 (by decide) (hts _ mX7_undo_1) (fun _ h9 => h9) rfl dX7_undo_57 ?_
        refine lv_imul hx hb dX7_undo_60 ?_
        refine lv_iload_n hx hb dX7_undo_61 rfl (lv_at hl 1 rfl) ?_
        refine lv_iadd hx hb dX7_undo_62 ?_
        obtain ⟨hin, hrun⟩ := gd_some hrun
        refine va_iald hx hb hK hP 2 0 rfl rfl hin dX7_undo_63 ?_
        obtain ⟨hin, hrun⟩ := gd_some hrun
        refine va_iast hx hb hK hP hD hS 1 0 rfl rfl hin dX7_undo_64 (fun H locs hP hD hS => ?_)
        have hP : va_P D vwCl (wX7 kI kJ to ta (upd z x1.toNatClampNeg (his ((268 * nst) + x1).toNatClampNeg)) nst his len txt thr god prm npr cov siz pts rea pla bef has) H := hP
        have hD : va_D A (wX7 kI kJ to ta (upd z x1.toNatClampNeg (his ((268 * nst) + x1).toNatClampNeg)) nst his len txt thr god prm npr cov siz pts rea pla bef has) := hD
        obtain ⟨u_1, eu_1⟩ : ∃ y, y = upd z x1.toNatClampNeg (his ((268 * nst) + x1).toNatClampNeg) := ⟨_, rfl⟩
        have hrun := lt_some eu_1 hrun
        rw [← eu_1] at hP hD
        refine lv_iinc (v := x1 + 1) (lv' := [(1, .int (x1 + 1)), (0, .ref to)]) hx hb dX7_undo_65 hl (k := 1) rfl rfl (by decide) rfl (fun ls hl => ?_)
        refine lv_goto (tgt := 37) hx hb dX7_undo_68 (by decide) ?_
        exact ih (x1 + 1) u_1  hrun _ _ _ hP hD hS (lv_sub hl [1, 0] rfl)
  have c_J13 : ∀ (s0 : Int32) (z : (Nat → Int32)) (nst : Int32) (thr : Int32), fX7_undo_J13 s0 z nst his = some r → wAt p l e (rmk 0 0 0 0) s m av below meth c D A 2 0 0 Q 13 [.int s0, .ref to] [(0, .ref to)] (wX7 kI kJ to ta z nst his len txt thr god prm npr cov siz pts rea pla bef has) := by
    intro s0 z nst thr hrun H locs ls hP hD hS hl
    unfold fX7_undo_J13 at hrun
    refine va_put (D := D) (ci := 6) (v := .int s0) (ty := .int) (C := RX7) (T := TX7) (N := 16) hx hb hts iX7_undo_X7 tyX7 tyX7_ok nmX7 hown hK hP hD hS 0 rfl rfl 5 (by decide) (hts _ mX7_undo_2) (fun _ h9 => h9) rfl (by decide +kernel) rfl rfl (Nat.le_of_ble_eq_true rfl) dX7_undo_13 (fun H locs hP hD hS => ?_)
    have hP : va_P D vwCl (wX7 kI kJ to ta z nst his len txt s0 god prm npr cov siz pts rea pla bef has) H := hP
    have hD : va_D A (wX7 kI kJ to ta z nst his len txt s0 god prm npr cov siz pts rea pla bef has) := hD
    refine lv_aload_n hx hb dX7_undo_16 rfl (lv_at hl 0 rfl) ?_
    refine va_get (D := D) (ci := 6) (v := .int s0) (C := RX7) (T := TX7) (N := 16) hx hb hts iX7_undo_X7 hown hK hP 0 rfl rfl 5 (by decide) (hts _ mX7_undo_2) (fun _ h9 => h9) rfl dX7_undo_17 ?_
    refine lv_if_le (tgt := 25) hx hb dX7_undo_20 (by decide) (fun hc => ?_) (fun hc => ?_)
    · have hrun := it_t hc hrun
      refine lv_aload_n hx hb dX7_undo_25 rfl (lv_at hl 0 rfl) ?_
      refine lv_dup hx hb dX7_undo_26 rfl ?_
      refine va_get (D := D) (ci := 6) (v := .int nst) (C := RX7) (T := TX7) (N := 16) hx hb hts iX7_undo_X7 hown hK hP 0 rfl rfl 1 (by decide) (hts _ mX7_undo_1) (fun _ h9 => h9) rfl dX7_undo_27 ?_
      refine lv_iconst (v := 1) hx hb dX7_undo_30 (by decide) ?_
      refine lv_isub hx hb dX7_undo_31 ?_
      refine va_put (D := D) (ci := 6) (v := .int (nst - 1)) (ty := .int) (C := RX7) (T := TX7) (N := 16) hx hb hts iX7_undo_X7 tyX7 tyX7_ok nmX7 hown hK hP hD hS 0 rfl rfl 1 (by decide) (hts _ mX7_undo_1) (fun _ h9 => h9) rfl (by decide +kernel) rfl rfl (Nat.le_of_ble_eq_true rfl) dX7_undo_32 (fun H locs hP hD hS => ?_)
      have hP : va_P D vwCl (wX7 kI kJ to ta z (nst - 1) his len txt s0 god prm npr cov siz pts rea pla bef has) H := hP
      have hD : va_D A (wX7 kI kJ to ta z (nst - 1) his len txt s0 god prm npr cov siz pts rea pla bef has) := hD
      refine lv_iconst (v := 0) hx hb dX7_undo_35 (by decide) ?_
      refine lv_istore_n (lv' := [(1, .int 0), (0, .ref to)]) hx hb dX7_undo_36 rfl hl (by decide) rfl (fun ls hl => ?_)
      exact c_L37 (nst - 1) s0 5000 0 z  hrun _ _ _ hP hD hS (lv_sub hl [1, 0] rfl)
    · have hrun := it_f hc hrun
      refine lv_iconst (v := 0) hx hb dX7_undo_23 (by decide) ?_
      obtain rfl := Option.some.inj hrun
      exact hret _ _ _ _ rfl dX7_undo_24 hP hD hS
  unfold fX7_undo at hrun
  refine lv_aload_n hx hb dX7_undo_0 rfl (lv_at hl 0 rfl) ?_
  refine lv_aload_n hx hb dX7_undo_1 rfl (lv_at hl 0 rfl) ?_
  refine va_get (D := D) (ci := 6) (v := .int nst) (C := RX7) (T := TX7) (N := 16) hx hb hts iX7_undo_X7 hown hK hP 0 rfl rfl 1 (by decide) (hts _ mX7_undo_1) (fun _ h9 => h9) rfl dX7_undo_2 ?_
  refine lv_if_le (tgt := 12) hx hb dX7_undo_5 (by decide) (fun hc => ?_) (fun hc => ?_)
  · have hrun := it_t hc hrun
    refine lv_iconst (v := 1) hx hb dX7_undo_12 (by decide) ?_
    exact c_J13 1 z nst thr hrun _ _ _ hP hD hS (lv_sub hl [0] rfl)
  · have hrun := it_f hc hrun
    refine lv_iconst (v := 0) hx hb dX7_undo_8 (by decide) ?_
    refine lv_goto (tgt := 13) hx hb dX7_undo_9 (by decide) ?_
    exact c_J13 0 z nst thr hrun _ _ _ hP hD hS (lv_sub hl [0] rfl)
/-! ===== X7_atNow ===== -/
set_option maxHeartbeats 4000000 in
set_option maxRecDepth 100000 in
theorem c_X7_atNow (l : Launch) (D : va_G) (kI kJ kS : ClassId) (to : Nat) (ta : Nat → Nat) (x1 : Int32) (x2 : Int32) (x3 : Int32) (z : (Nat → Int32)) (nst : Int32) (his : (Nat → Int32)) (len : Int32) (txt : (Nat → Int32)) (thr : Int32) (god : (Nat → Int64)) (prm : (Nat → Int32)) (npr : Int32) (cov : (Nat → Int32)) (siz : (Nat → Int32)) (pts : (Nat → Int32)) (rea : Int32) (pla : Int32) (bef : (Nat → Int32)) (has : Int64) {r : Int32} (hrun : fX7_atNow z cov siz x1 x2 x3 = some r) : cI l D (tyL kI kJ kS) false yX7_atNow wsX7_atNow (rmk 2 0 0 47) [.ref to, .int x1, .int x2, .int x3] (wX7 kI kJ to ta z nst his len txt thr god prm npr cov siz pts rea pla bef has) (wX7 kI kJ to ta z nst his len txt thr god prm npr cov siz pts rea pla bef has) r := by
  refine cI_of (cc := cX7_atNow) (maxL := 4) (by decide) rfl (Nat.le_of_ble_eq_true rfl) ?_
  intro p e s m av below meth c A Q ls hE hP hD hS hl hret
  have hE : ent_ p s m av meth c RX7 cX7_atNow 4 (some .int) wsX7_atNow (tyL kI kJ kS) D A false := hE
  obtain ⟨hx, hb, hml, hown, hts, hr, hlocks, hK, hA, hst⟩ := id hE
  have hl : lv_has ls 4 [(0, .ref to), (1, .int x1), (2, .int x2), (3, .int x3)] := hl
  unfold fX7_atNow at hrun
  refine lv_iload_n hx hb dX7_atNow_0 rfl (lv_at hl 3 rfl) ?_
  refine lv_if_ne (tgt := 13) hx hb dX7_atNow_1 (by decide) (fun hc => ?_) (fun hc => ?_)
  · have hrun := it_f hc hrun
    refine lv_iload_n hx hb dX7_atNow_13 rfl (lv_at hl 3 rfl) ?_
    refine lv_iconst (v := 1) hx hb dX7_atNow_14 (by decide) ?_
    refine lv_icmp_ne (tgt := 27) hx hb dX7_atNow_15 (by decide) (fun hc => ?_) (fun hc => ?_)
    · have hrun := it_f hc hrun
      refine lv_aload_n hx hb dX7_atNow_27 rfl (lv_at hl 0 rfl) ?_
      refine lv_iload_n hx hb dX7_atNow_28 rfl (lv_at hl 1 rfl) ?_
      refine lv_iload_n hx hb dX7_atNow_29 rfl (lv_at hl 2 rfl) ?_
      obtain ⟨q_1, hq_1, hrun⟩ := bd_some hrun
      refine cI_callV (As := [.int x1, .int x2]) (rest := []) (wr := []) (wN := (wX7 kI kJ to ta z nst his len txt thr god prm npr cov siz pts rea pla bef has)) (ci := 6) (q0 := 0) hE (c_X7_answer l D kI kJ kS to ta x1 x2 z nst his len txt thr god prm npr cov siz pts rea pla bef has hq_1) (cwV 2 hts gX7_atNow_X7_answer rfl rfl rfl (by decide +kernel) ⟨Nat.le_of_ble_eq_true rfl, Nat.le_of_ble_eq_true rfl⟩) hP hD hS [0, 1, 2, 3, 4, 5, 6, 7, 8, 9] [] [0, 1, 2, 3, 4, 5, 6, 7, 8, 9] rfl rfl rfl rfl (by decide) rfl rfl rfl rfl rfl hl.1 rfl (Nat.le_of_ble_eq_true rfl) dX7_atNow_30 ⟨Nat.le_of_ble_eq_true rfl, Nat.le_of_ble_eq_true rfl⟩ (fun H locs hP hD hS => ?_)
      obtain rfl := Option.some.inj hrun
      exact hret _ _ _ _ rfl dX7_atNow_33 hP hD hS
    · have hrun := it_t hc hrun
      refine lv_aload_n hx hb dX7_atNow_18 rfl (lv_at hl 0 rfl) ?_
      refine lv_iload_n hx hb dX7_atNow_19 rfl (lv_at hl 1 rfl) ?_
      refine lv_iload_n hx hb dX7_atNow_20 rfl (lv_at hl 2 rfl) ?_
      obtain ⟨q_2, hq_2, hrun⟩ := bd_some hrun
      refine cI_callV (As := [.int x1, .int x2]) (rest := []) (wr := []) (wN := (wX7 kI kJ to ta z nst his len txt thr god prm npr cov siz pts rea pla bef has)) (ci := 6) (q0 := 0) hE (c_X7_decided l D kI kJ kS to ta x1 x2 z nst his len txt thr god prm npr cov siz pts rea pla bef has hq_2) (cwV 2 hts gX7_atNow_X7_decided rfl rfl rfl (by decide +kernel) ⟨Nat.le_of_ble_eq_true rfl, Nat.le_of_ble_eq_true rfl⟩) hP hD hS [0, 1, 2, 3, 4, 5, 6, 7, 8, 9] [] [0, 1, 2, 3, 4, 5, 6, 7, 8, 9] rfl rfl rfl rfl (by decide) rfl rfl rfl rfl rfl hl.1 rfl (Nat.le_of_ble_eq_true rfl) dX7_atNow_21 ⟨Nat.le_of_ble_eq_true rfl, Nat.le_of_ble_eq_true rfl⟩ (fun H locs hP hD hS => ?_)
      refine lv_goto (tgt := 33) hx hb dX7_atNow_24 (by decide) ?_
      obtain rfl := Option.some.inj hrun
      exact hret _ _ _ _ rfl dX7_atNow_33 hP hD hS
  · have hrun := it_t hc hrun
    refine lv_aload_n hx hb dX7_atNow_4 rfl (lv_at hl 0 rfl) ?_
    refine lv_iload_n hx hb dX7_atNow_5 rfl (lv_at hl 1 rfl) ?_
    refine lv_iload_n hx hb dX7_atNow_6 rfl (lv_at hl 2 rfl) ?_
    obtain ⟨q_3, hq_3, hrun⟩ := bd_some hrun
    refine cI_callV (As := [.int x1, .int x2]) (rest := []) (wr := []) (wN := (wX7 kI kJ to ta z nst his len txt thr god prm npr cov siz pts rea pla bef has)) (ci := 6) (q0 := 0) hE (c_X7_truth l D kI kJ kS to ta x1 x2 z nst his len txt thr god prm npr cov siz pts rea pla bef has hq_3) (cwV 2 hts gX7_atNow_X7_truth rfl rfl rfl (by decide +kernel) ⟨Nat.le_of_ble_eq_true rfl, Nat.le_of_ble_eq_true rfl⟩) hP hD hS [0, 1, 2, 3, 4, 5, 6, 7, 8, 9] [] [0, 1, 2, 3, 4, 5, 6, 7, 8, 9] rfl rfl rfl rfl (by decide) rfl rfl rfl rfl rfl hl.1 rfl (Nat.le_of_ble_eq_true rfl) dX7_atNow_7 ⟨Nat.le_of_ble_eq_true rfl, Nat.le_of_ble_eq_true rfl⟩ (fun H locs hP hD hS => ?_)
    refine lv_goto (tgt := 33) hx hb dX7_atNow_10 (by decide) ?_
    obtain rfl := Option.some.inj hrun
    exact hret _ _ _ _ rfl dX7_atNow_33 hP hD hS
