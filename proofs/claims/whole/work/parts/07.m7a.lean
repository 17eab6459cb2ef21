/-! ===== X7_thrown ===== -/
theorem mX7_thrown_1 : Cond.fieldLink RX7 38 "GateMazeModel" "thrown" "I" ∈ wsX7_thrown := List.mem_of_getElem? (i := 1) rfl
theorem iX7_thrown_X7 : ∀ w ∈ u_ws RX7 TX7 16, w ∈ wsX7_thrown := fun w h => List.mem_cons_of_mem _ (List.mem_append_right _ h)
set_option maxHeartbeats 4000000 in
set_option maxRecDepth 100000 in
theorem c_X7_thrown (l : Launch) (D : va_G) (kI kJ kS : ClassId) (to : Nat) (ta : Nat → Nat) (z : (Nat → Int32)) (nst : Int32) (his : (Nat → Int32)) (len : Int32) (txt : (Nat → Int32)) (thr : Int32) (god : (Nat → Int64)) (prm : (Nat → Int32)) (npr : Int32) (cov : (Nat → Int32)) (siz : (Nat → Int32)) (pts : (Nat → Int32)) (rea : Int32) (pla : Int32) (bef : (Nat → Int32)) (has : Int64) {r : Int32} (hrun : fX7_thrown thr = some r) : cI l D (tyL kI kJ kS) false yX7_thrown wsX7_thrown (rmk 0 0 0 0) [.ref to] (wX7 kI kJ to ta z nst his len txt thr god prm npr cov siz pts rea pla bef has) (wX7 kI kJ to ta z nst his len txt thr god prm npr cov siz pts rea pla bef has) r := by
  refine cI_of (cc := cX7_thrown) (maxL := 1) (by decide) rfl (Nat.le_of_ble_eq_true rfl) ?_
  intro p e s m av below meth c A Q ls hE hP hD hS hl hret
  have hE : ent_ p s m av meth c RX7 cX7_thrown 1 (some .int) wsX7_thrown (tyL kI kJ kS) D A false := hE
  obtain ⟨hx, hb, hml, hown, hts, hr, hlocks, hK, hA, hst⟩ := id hE
  have hl : lv_has ls 1 [(0, .ref to)] := hl
  unfold fX7_thrown at hrun
  refine lv_aload_n hx hb dX7_thrown_0 rfl (lv_at hl 0 rfl) ?_
  refine va_get (D := D) (ci := 6) (v := .int thr) (C := RX7) (T := TX7) (N := 16) hx hb hts iX7_thrown_X7 hown hK hP 0 rfl rfl 5 (by decide) (hts _ mX7_thrown_1) (fun _ h9 => h9) rfl dX7_thrown_1 ?_
  obtain rfl := Option.some.inj hrun
  exact hret _ _ _ _ rfl dX7_thrown_4 hP hD hS
/-! ===== X7_within ===== -/
set_option maxHeartbeats 4000000 in
set_option maxRecDepth 100000 in
theorem c_X7_within (l : Launch) (D : va_G) (kI kJ kS : ClassId) (x0 : Int32) (x1 : Int32) (x2 : Int32) {r : Int32} (hrun : fX7_within x0 x1 x2 = some r) : cI l D (tyL kI kJ kS) false yX7_within wsX7_within (rmk 0 0 0 0) [.int x0, .int x1, .int x2] [] [] r := by
  refine cI_of (cc := cX7_within) (maxL := 3) (by decide) rfl (Nat.le_of_ble_eq_true rfl) ?_
  intro p e s m av below meth c A Q ls hE hP hD hS hl hret
  have hE : ent_ p s m av meth c RX7 cX7_within 3 (some .boolean) wsX7_within (tyL kI kJ kS) D A false := hE
  obtain ⟨hx, hb, hml, hown, hts, hr, hlocks, hK, hA, hst⟩ := id hE
  have hl : lv_has ls 3 [(0, .int x0), (1, .int x1), (2, .int x2)] := hl
  unfold fX7_within at hrun
  refine lv_iload_n hx hb dX7_within_0 rfl (lv_at hl 0 rfl) ?_
  refine lv_iload_n hx hb dX7_within_1 rfl (lv_at hl 1 rfl) ?_
  refine lv_icmp_lt (tgt := 14) hx hb dX7_within_2 (by decide) (fun hc => ?_) (fun hc => ?_)
  · have hrun := it_t hc hrun
    refine lv_iconst (v := 0) hx hb dX7_within_14 (by decide) ?_
    obtain rfl := Option.some.inj hrun
    exact hret _ _ _ _ (show narrow .boolean (.int 0) = .int 0 from rfl) dX7_within_15 hP hD hS
  · have hrun := it_f hc hrun
    refine lv_iload_n hx hb dX7_within_5 rfl (lv_at hl 0 rfl) ?_
    refine lv_iload_n hx hb dX7_within_6 rfl (lv_at hl 2 rfl) ?_
    refine lv_icmp_gt (tgt := 14) hx hb dX7_within_7 (by decide) (fun hc => ?_) (fun hc => ?_)
    · have hrun := it_t hc hrun
      refine lv_iconst (v := 0) hx hb dX7_within_14 (by decide) ?_
      obtain rfl := Option.some.inj hrun
      exact hret _ _ _ _ (show narrow .boolean (.int 0) = .int 0 from rfl) dX7_within_15 hP hD hS
    · have hrun := it_f hc hrun
      refine lv_iconst (v := 1) hx hb dX7_within_10 (by decide) ?_
      refine lv_goto (tgt := 15) hx hb dX7_within_11 (by decide) ?_
      obtain rfl := Option.some.inj hrun
      exact hret _ _ _ _ (show narrow .boolean (.int 1) = .int 1 from rfl) dX7_within_15 hP hD hS
/-! ===== X7_ones ===== -/
set_option maxHeartbeats 4000000 in
set_option maxRecDepth 100000 in
theorem c_X7_ones (l : Launch) (D : va_G) (kI kJ kS : ClassId) (x0 : Int32) {r : Int32} (hrun : fX7_ones x0 = some r) : cI l D (tyL kI kJ kS) false yX7_ones wsX7_ones (rmk 0 0 0 0) [.int x0] [] [] r := by
  refine cI_of (cc := cX7_ones) (maxL := 3) (by decide) rfl (Nat.le_of_ble_eq_true rfl) ?_
  intro p e s m av below meth c A Q ls hE hP hD hS hl hret
  have hE : ent_ p s m av meth c RX7 cX7_ones 3 (some .int) wsX7_ones (tyL kI kJ kS) D A false := hE
  obtain ⟨hx, hb, hml, hown, hts, hr, hlocks, hK, hA, hst⟩ := id hE
  have hl : lv_has ls 3 [(0, .int x0)] := hl
  have c_L4 : ∀ (x0 : Int32) (n : Nat) (x1 : Int32) (x2 : Int32), fX7_ones_L4 x0 n x1 x2 = some r → wAt p l e (rmk 0 0 0 0) s m av below meth c D A 3 0 0 Q 4 [] [(0, .int x0), (1, .int x1), (2, .int x2)] [] := by
    intro x0 n
    induction n with
    | zero =>
      intro x1 x2 hrun
      rw [fX7_ones_L4] at hrun
      cases hrun
    | succ n ih =>
      intro x1 x2 hrun H locs ls hP hD hS hl
      rw [fX7_ones_L4] at hrun
      refine lv_iload_n hx hb dX7_ones_4 rfl (lv_at hl 2 rfl) ?_
      refine lv_bipush (v := 6) hx hb dX7_ones_5 (by decide) ?_
      refine lv_icmp_ge (tgt := 24) hx hb dX7_ones_7 (by decide) (fun hc => ?_) (fun hc => ?_)
      · have hrun := it_t hc hrun
        refine lv_iload_n hx hb dX7_ones_24 rfl (lv_at hl 1 rfl) ?_
        obtain rfl := Option.some.inj hrun
        exact hret _ _ _ _ rfl dX7_ones_25 hP hD hS
      · have hrun := it_f hc hrun
        refine lv_iload_n hx hb dX7_ones_10 rfl (lv_at hl 1 rfl) ?_
        refine lv_iload_n hx hb dX7_ones_11 rfl (lv_at hl 0 rfl) ?_
        refine lv_iload_n hx hb dX7_ones_12 rfl (lv_at hl 2 rfl) ?_
        refine lv_ishr hx hb dX7_ones_13 ?_
        refine lv_iconst (v := 1) hx hb dX7_ones_14 (by decide) ?_
        refine lv_iand hx hb dX7_ones_15 ?_
        refine lv_iadd hx hb dX7_ones_16 ?_
        refine lv_istore_n (lv' := [(1, .int (x1 + ((x0 >>> (x2 &&& 31)) &&& 1))), (0, .int x0), (2, .int x2)]) hx hb dX7_ones_17 rfl hl (by decide) rfl (fun ls hl => ?_)
        refine lv_iinc (v := x2 + 1) (lv' := [(2, .int (x2 + 1)), (1, .int (x1 + ((x0 >>> (x2 &&& 31)) &&& 1))), (0, .int x0)]) hx hb dX7_ones_18 hl (k := 2) rfl rfl (by decide) rfl (fun ls hl => ?_)
        refine lv_goto (tgt := 4) hx hb dX7_ones_21 (by decide) ?_
        exact ih (x1 + ((x0 >>> (x2 &&& 31)) &&& 1)) (x2 + 1)  hrun _ _ _ hP hD hS (lv_sub hl [2, 1, 0] rfl)
  unfold fX7_ones at hrun
  refine lv_iconst (v := 0) hx hb dX7_ones_0 (by decide) ?_
  refine lv_istore_n (lv' := [(1, .int 0), (0, .int x0)]) hx hb dX7_ones_1 rfl hl (by decide) rfl (fun ls hl => ?_)
  refine lv_iconst (v := 0) hx hb dX7_ones_2 (by decide) ?_
  refine lv_istore_n (lv' := [(2, .int 0), (1, .int 0), (0, .int x0)]) hx hb dX7_ones_3 rfl hl (by decide) rfl (fun ls hl => ?_)
  exact c_L4 x0 5000 0 0  hrun _ _ _ hP hD hS (lv_sub hl [2, 1, 0] rfl)
/-! ===== X7_onesOf ===== -/
set_option maxHeartbeats 4000000 in
set_option maxRecDepth 100000 in
theorem c_X7_onesOf (l : Launch) (D : va_G) (kI kJ kS : ClassId) (x0 : Int64) {r : Int32} (hrun : fX7_onesOf x0 = some r) : cI l D (tyL kI kJ kS) false yX7_onesOf wsX7_onesOf (rmk 0 0 0 0) [.long x0] [] [] r := by
  refine cI_of (cc := cX7_onesOf) (maxL := 4) (by decide) rfl (Nat.le_of_ble_eq_true rfl) ?_
  intro p e s m av below meth c A Q ls hE hP hD hS hl hret
  have hE : ent_ p s m av meth c RX7 cX7_onesOf 4 (some .int) wsX7_onesOf (tyL kI kJ kS) D A false := hE
  obtain ⟨hx, hb, hml, hown, hts, hr, hlocks, hK, hA, hst⟩ := id hE
  have hl : lv_has ls 4 [(0, .long x0)] := hl
  have c_L4 : ∀ (x0 : Int64) (n : Nat) (x2 : Int32) (x3 : Int32), fX7_onesOf_L4 x0 n x2 x3 = some r → wAt p l e (rmk 0 0 0 0) s m av below meth c D A 4 0 0 Q 4 [] [(0, .long x0), (2, .int x2), (3, .int x3)] [] := by
    intro x0 n
    induction n with
    | zero =>
      intro x2 x3 hrun
      rw [fX7_onesOf_L4] at hrun
      cases hrun
    | succ n ih =>
      intro x2 x3 hrun H locs ls hP hD hS hl
      rw [fX7_onesOf_L4] at hrun
      refine lv_iload_n hx hb dX7_onesOf_4 rfl (lv_at hl 2 rfl) ?_
      refine lv_bipush (v := 64) hx hb dX7_onesOf_5 (by decide) ?_
      refine lv_icmp_ge (tgt := 25) hx hb dX7_onesOf_7 (by decide) (fun hc => ?_) (fun hc => ?_)
      · have hrun := it_t hc hrun
        refine lv_iload_n hx hb dX7_onesOf_25 rfl (lv_at hl 1 rfl) ?_
        obtain rfl := Option.some.inj hrun
        exact hret _ _ _ _ rfl dX7_onesOf_26 hP hD hS
      · have hrun := it_f hc hrun
        refine lv_iload_n hx hb dX7_onesOf_10 rfl (lv_at hl 1 rfl) ?_
        refine lv_lload_n hx hb dX7_onesOf_11 rfl (lv_at hl 0 rfl) ?_
        refine lv_iload_n hx hb dX7_onesOf_12 rfl (lv_at hl 2 rfl) ?_
        refine lv_lushr hx hb dX7_onesOf_13 rfl ?_
        refine lv_lconst (v := 1) hx hb dX7_onesOf_14 (by decide) ?_
        refine lv_land hx hb dX7_onesOf_15 ?_
        refine lv_l2i hx hb dX7_onesOf_16 rfl ?_
        refine lv_iadd hx hb dX7_onesOf_17 ?_
        refine lv_istore_n (lv' := [(2, .int (x2 + (((lus_ x0 x3) &&& 1).toInt32))), (0, .long x0), (3, .int x3)]) hx hb dX7_onesOf_18 rfl hl (by decide) rfl (fun ls hl => ?_)
        refine lv_iinc (v := x3 + 1) (lv' := [(3, .int (x3 + 1)), (2, .int (x2 + (((lus_ x0 x3) &&& 1).toInt32))), (0, .long x0)]) hx hb dX7_onesOf_19 hl (k := 2) rfl rfl (by decide) rfl (fun ls hl => ?_)
        refine lv_goto (tgt := 4) hx hb dX7_onesOf_22 (by decide) ?_
        exact ih (x2 + (((lus_ x0 x3) &&& 1).toInt32)) (x3 + 1)  hrun _ _ _ hP hD hS (lv_sub hl [2, 1, 0] rfl)
  unfold fX7_onesOf at hrun
  refine lv_iconst (v := 0) hx hb dX7_onesOf_0 (by decide) ?_
  refine lv_istore_n (lv' := [(2, .int 0), (0, .long x0)]) hx hb dX7_onesOf_1 rfl hl (by decide) rfl (fun ls hl => ?_)
  refine lv_iconst (v := 0) hx hb dX7_onesOf_2 (by decide) ?_
  refine lv_istore_n (lv' := [(3, .int 0), (2, .int 0), (0, .long x0)]) hx hb dX7_onesOf_3 rfl hl (by decide) rfl (fun ls hl => ?_)
  exact c_L4 x0 5000 0 0  hrun _ _ _ hP hD hS (lv_sub hl [2, 1, 0] rfl)
/-! ===== X7_save ===== -/
theorem mX7_save_1 : Cond.fieldLink RX7 42 "GateMazeModel" "states" "I" ∈ wsX7_save := List.mem_of_getElem? (i := 1) rfl
theorem mX7_save_2 : Cond.fieldLink RX7 13 "GateMazeModel" "history" "[I" ∈ wsX7_save := List.mem_of_getElem? (i := 2) rfl
theorem mX7_save_3 : Cond.fieldLink RX7 7 "GateMazeModel" "z" "[I" ∈ wsX7_save := List.mem_of_getElem? (i := 3) rfl
theorem iX7_save_X7 : ∀ w ∈ u_ws RX7 TX7 16, w ∈ wsX7_save := fun w h => List.mem_cons_of_mem _ (List.mem_append_right _ h)
set_option maxHeartbeats 4000000 in
set_option maxRecDepth 100000 in
theorem c_X7_save (l : Launch) (D : va_G) (kI kJ kS : ClassId) (to : Nat) (ta : Nat → Nat) (z : (Nat → Int32)) (nst : Int32) (his : (Nat → Int32)) (len : Int32) (txt : (Nat → Int32)) (thr : Int32) (god : (Nat → Int64)) (prm : (Nat → Int32)) (npr : Int32) (cov : (Nat → Int32)) (siz : (Nat → Int32)) (pts : (Nat → Int32)) (rea : Int32) (pla : Int32) (bef : (Nat → Int32)) (has : Int64) {r : Int32 × (Nat → Int32)} (hrun : fX7_save z nst his = some r) : cV l D (tyL kI kJ kS) false yX7_save wsX7_save (rmk 0 0 0 0) [.ref to] (wX7 kI kJ to ta z nst his len txt thr god prm npr cov siz pts rea pla bef has) (wX7 kI kJ to ta z r.1 r.2 len txt thr god prm npr cov siz pts rea pla bef has) := by
  refine cV_of (cc := cX7_save) (maxL := 2) (by decide) rfl (Nat.le_of_ble_eq_true rfl) ?_
  intro p e s m av below meth c A Q ls hE hP hD hS hl hret
  have hE : ent_ p s m av meth c RX7 cX7_save 2 none wsX7_save (tyL kI kJ kS) D A false := hE
  obtain ⟨hx, hb, hml, hown, hts, hr, hlocks, hK, hA, hst⟩ := id hE
  have hl : lv_has ls 2 [(0, .ref to)] := hl
  have c_J88 : ∀ (nst : Int32) (his : (Nat → Int32)), fX7_save_J88 nst his = some r → wAt p l e (rmk 0 0 0 0) s m av below meth c D A 2 0 0 Q 88 [] [(0, .ref to)] (wX7 kI kJ to ta z nst his len txt thr god prm npr cov siz pts rea pla bef has) := by
    intro nst his hrun H locs ls hP hD hS hl
    unfold fX7_save_J88 at hrun
    refine lv_aload_n hx hb dX7_save_88 rfl (lv_at hl 0 rfl) ?_
    refine lv_dup hx hb dX7_save_89 rfl ?_
    refine va_get (D := D) (ci := 6) (v := .int nst) (C := RX7) (T := TX7) (N := 16) hx hb hts iX7_save_X7 hown hK hP 0 rfl rfl 1 (by decide) (hts _ mX7_save_1) (fun _ h9 => h9) rfl dX7_save_90 ?_
    refine lv_iconst (v := 1) hx hb dX7_save_93 (by decide) ?_
    refine lv_iadd hx hb dX7_save_94 ?_
    refine va_put (D := D) (ci := 6) (v := .int (nst + 1)) (ty := .int) (C := RX7) (T := TX7) (N := 16) hx hb hts iX7_save_X7 tyX7 tyX7_ok nmX7 hown hK hP hD hS 0 rfl rfl 1 (by decide) (hts _ mX7_save_1) (fun _ h9 => h9) rfl (by decide +kernel) rfl rfl (Nat.le_of_ble_eq_true rfl) dX7_save_95 (fun H locs hP hD hS => ?_)
    have hP : va_P D vwCl (wX7 kI kJ to ta z (nst + 1) his len txt thr god prm npr cov siz pts rea pla bef has) H := hP
    have hD : va_D A (wX7 kI kJ to ta z (nst + 1) his len txt thr god prm npr cov siz pts rea pla bef has) := hD
    obtain rfl := Option.some.inj hrun
    exact hret _ _ _ _ dX7_save_98 hP hD hS
  have c_L54 : ∀ (nst : Int32) (n : Nat) (x1 : Int32) (his : (Nat → Int32)), fX7_save_L54 z nst n x1 his = some r → wAt p l e (rmk 0 0 0 0) s m av below meth c D A 2 0 0 Q 54 [] [(0, .ref to), (1, .int x1)] (wX7 kI kJ to ta z nst his len txt thr god prm npr cov siz pts rea pla bef has) := by
    intro nst n
    induction n with
    | zero =>
      intro x1 his hrun
      rw [fX7_save_L54] at hrun
      cases hrun
    | succ n ih =>
      intro x1 his hrun H locs ls hP hD hS hl
      rw [fX7_save_L54] at hrun
      refine lv_iload_n hx hb dX7_save_54 rfl (lv_at hl 1 rfl) ?_
      refine lv_sipush (v := 268) hx hb dX7_save_55 (by decide) ?_
      refine lv_icmp_ge (tgt := 88) hx hb dX7_save_58 (by decide) (fun hc => ?_) (fun hc => ?_)
      · have hrun := it_t hc hrun
        exact c_J88 nst his  hrun _ _ _ hP hD hS (lv_sub hl [0] rfl)
      · have hrun := it_f hc hrun
        refine lv_aload_n hx hb dX7_save_61 rfl (lv_at hl 0 rfl) ?_
        refine va_get (D := D) (ci := 6) (v := .ref (ta 1)) (C := RX7) (T := TX7) (N := 16) hx hb hts iX7_save_X7 hown hK hP 0 rfl rfl 2 (by decide) (hts _ mX7_save_2) (fun _ h9 => h9) rfl dX7_save_62 ?_
        refine lv_sipush (v := 268) hx hb dX7_save_65 (by decide) ?_
        refine lv_aload_n hx hb dX7_save_68 rfl (lv_at hl 0 rfl) ?_
        refine va_get (D := D) (ci := 6) (v := .int nst) (C := RX7) (T := TX7) (N := 16) hx hb hts iX7_save_X7 hown hK hP 0 rfl rfl 1 (by decide) (hts _ mX7_save_1) (fun _ h9 => h9) rfl dX7_save_69 ?_
        refine lv_imul hx hb dX7_save_72 ?_
        refine lv_iload_n hx hb dX7_save_73 rfl (lv_at hl 1 rfl) ?_
        refine lv_iadd hx hb dX7_save_74 ?_
        refine lv_aload_n hx hb dX7_save_75 rfl (lv_at hl 0 rfl) ?_
        refine va_get (D := D) (ci := 6) (v := .ref (ta 0)) (C := RX7) (T := TX7) (N := 16) hx hb hts iX7_save_X7 hown hK hP 0 rfl rfl 0 (by decide) (hts _ mX7_save_3) (fun _ h9 => h9) rfl dX7_save_76 ?_
        refine lv_iload_n hx hb dX7_save_79 rfl (lv_at hl 1 rfl) ?_
        obtain ⟨hin, hrun⟩ := gd_some hrun
        refine va_iald hx hb hK hP 1 0 rfl rfl hin dX7_save_80 ?_
        obtain ⟨hin, hrun⟩ := gd_some hrun
        refine va_iast hx hb hK hP hD hS 2 0 rfl rfl hin dX7_save_81 (fun H locs hP hD hS => ?_)
        have hP : va_P D vwCl (wX7 kI kJ to ta z nst (upd his ((268 * nst) + x1).toNatClampNeg (z x1.toNatClampNeg)) len txt thr god prm npr cov siz pts rea pla bef has) H := hP
        have hD : va_D A (wX7 kI kJ to ta z nst (upd his ((268 * nst) + x1).toNatClampNeg (z x1.toNatClampNeg)) len txt thr god prm npr cov siz pts rea pla bef has) := hD
        obtain ⟨u_1, eu_1⟩ : ∃ y, y = upd his ((268 * nst) + x1).toNatClampNeg (z x1.toNatClampNeg) := ⟨_, rfl⟩
        have hrun := lt_some eu_1 hrun
        rw [← eu_1] at hP hD
        refine lv_iinc (v := x1 + 1) (lv' := [(1, .int (x1 + 1)), (0, .ref to)]) hx hb dX7_save_82 hl (k := 1) rfl rfl (by decide) rfl (fun ls hl => ?_)
        refine lv_goto (tgt := 54) hx hb dX7_save_85 (by decide) ?_
        exact ih (x1 + 1) u_1  hrun _ _ _ hP hD hS (lv_sub hl [1, 0] rfl)
  have c_J52 : ∀ (nst : Int32) (his : (Nat → Int32)), fX7_save_J52 z nst his = some r → wAt p l e (rmk 0 0 0 0) s m av below meth c D A 2 0 0 Q 52 [] [(0, .ref to)] (wX7 kI kJ to ta z nst his len txt thr god prm npr cov siz pts rea pla bef has) := by
    intro nst his hrun H locs ls hP hD hS hl
    unfold fX7_save_J52 at hrun
    refine lv_iconst (v := 0) hx hb dX7_save_52 (by decide) ?_
    refine lv_istore_n (lv' := [(1, .int 0), (0, .ref to)]) hx hb dX7_save_53 rfl hl (by decide) rfl (fun ls hl => ?_)
    exact c_L54 nst 5000 0 his  hrun _ _ _ hP hD hS (lv_sub hl [1, 0] rfl)
  have c_J42 : ∀ (nst : Int32) (his : (Nat → Int32)), fX7_save_J42 z nst his = some r → wAt p l e (rmk 0 0 0 0) s m av below meth c D A 2 0 0 Q 42 [] [(0, .ref to)] (wX7 kI kJ to ta z nst his len txt thr god prm npr cov siz pts rea pla bef has) := by
    intro nst his hrun H locs ls hP hD hS hl
    unfold fX7_save_J42 at hrun
    refine lv_aload_n hx hb dX7_save_42 rfl (lv_at hl 0 rfl) ?_
    refine lv_dup hx hb dX7_save_43 rfl ?_
    refine va_get (D := D) (ci := 6) (v := .int nst) (C := RX7) (T := TX7) (N := 16) hx hb hts iX7_save_X7 hown hK hP 0 rfl rfl 1 (by decide) (hts _ mX7_save_1) (fun _ h9 => h9) rfl dX7_save_44 ?_
    refine lv_iconst (v := 1) hx hb dX7_save_47 (by decide) ?_
    refine lv_isub hx hb dX7_save_48 ?_
    refine va_put (D := D) (ci := 6) (v := .int (nst - 1)) (ty := .int) (C := RX7) (T := TX7) (N := 16) hx hb hts iX7_save_X7 tyX7 tyX7_ok nmX7 hown hK hP hD hS 0 rfl rfl 1 (by decide) (hts _ mX7_save_1) (fun _ h9 => h9) rfl (by decide +kernel) rfl rfl (Nat.le_of_ble_eq_true rfl) dX7_save_49 (fun H locs hP hD hS => ?_)
    have hP : va_P D vwCl (wX7 kI kJ to ta z (nst - 1) his len txt thr god prm npr cov siz pts rea pla bef has) H := hP
    have hD : va_D A (wX7 kI kJ to ta z (nst - 1) his len txt thr god prm npr cov siz pts rea pla bef has) := hD
    exact c_J52 (nst - 1) his  hrun _ _ _ hP hD hS (lv_sub hl [0] rfl)
  have c_L13 : ∀ (nst : Int32) (n : Nat) (x1 : Int32) (his : (Nat → Int32)), fX7_save_L13 z nst n x1 his = some r → wAt p l e (rmk 0 0 0 0) s m av below meth c D A 2 0 0 Q 13 [] [(0, .ref to), (1, .int x1)] (wX7 kI kJ to ta z nst his len txt thr god prm npr cov siz pts rea pla bef has) := by
    intro nst n
    induction n with
    | zero =>
      intro x1 his hrun
      rw [fX7_save_L13] at hrun
      cases hrun
    | succ n ih =>
      intro x1 his hrun H locs ls hP hD hS hl
      rw [fX7_save_L13] at hrun
      refine lv_iload_n hx hb dX7_save_13 rfl (lv_at hl 1 rfl) ?_
      refine lv_sipush (v := 1608) hx hb dX7_save_14 (by decide) ?_
      refine lv_icmp_ge (tgt := 42) hx hb dX7_save_17 (by decide) (fun hc => ?_) (fun hc => ?_)
      · have hrun := it_t hc hrun
        exact c_J42 nst his  hrun _ _ _ hP hD hS (lv_sub hl [0] rfl)
      · have hrun := it_f hc hrun
        refine lv_aload_n hx hb dX7_save_20 rfl (lv_at hl 0 rfl) ?_
        refine va_get (D := D) (ci := 6) (v := .ref (ta 1)) (C := RX7) (T := TX7) (N := 16) hx hb hts iX7_save_X7 hown hK hP 0 rfl rfl 2 (by decide) (hts _ mX7_save_2) (fun _ h9 => h9) rfl dX7_save_21 ?_
        refine lv_iload_n hx hb dX7_save_24 rfl (lv_at hl 1 rfl) ?_
        refine lv_sipush (v := 268) hx hb dX7_save_25 (by decide) ?_
        refine lv_isub hx hb dX7_save_28 ?_
        refine lv_aload_n hx hb dX7_save_29 rfl (lv_at hl 0 rfl) ?_
        refine va_get (D := D) (ci := 6) (v := .ref (ta 1)) (C := RX7) (T := TX7) (N := 16) hx hb hts iX7_save_X7 hown hK hP 0 rfl rfl 2 (by decide) (hts _ mX7_save_2) (fun _ h9 => h9) rfl dX7_save_30 ?_
        refine lv_iload_n hx hb dX7_save_33 rfl (lv_at hl 1 rfl) ?_
        obtain ⟨hin, hrun⟩ := gd_some hrun
        refine va_iald hx hb hK hP 2 0 rfl rfl hin dX7_save_34 ?_
        obtain ⟨hin, hrun⟩ := gd_some hrun
        refine va_iast hx hb hK hP hD hS 2 0 rfl rfl hin dX7_save_35 (fun H locs hP hD hS => ?_)
        have hP : va_P D vwCl (wX7 kI kJ to ta z nst (upd his (x1 - 268).toNatClampNeg (his x1.toNatClampNeg)) len txt thr god prm npr cov siz pts rea pla bef has) H := hP
        have hD : va_D A (wX7 kI kJ to ta z nst (upd his (x1 - 268).toNatClampNeg (his x1.toNatClampNeg)) len txt thr god prm npr cov siz pts rea pla bef has) := hD
        refine lv_iinc (v := x1 + 1) (lv' := [(1, .int (x1 + 1)), (0, .ref to)]) hx hb dX7_save_36 hl (k := 1) rfl rfl (by decide) rfl (fun ls hl => ?_)
        refine lv_goto (tgt := 13) hx hb dX7_save_39 (by decide) ?_
        exact ih (x1 + 1) (upd his (x1 - 268).toNatClampNeg (his x1.toNatClampNeg))  hrun _ _ _ hP hD hS (lv_sub hl [1, 0] rfl)
  unfold fX7_save at hrun
  refine lv_aload_n hx hb dX7_save_0 rfl (lv_at hl 0 rfl) ?_
  refine va_get (D := D) (ci := 6) (v := .int nst) (C := RX7) (T := TX7) (N := 16) hx hb hts iX7_save_X7 hown hK hP 0 rfl rfl 1 (by decide) (hts _ mX7_save_1) (fun _ h9 => h9) rfl dX7_save_1 ?_
  refine lv_bipush (v := 6) hx hb dX7_save_4 (by decide) ?_
  refine lv_icmp_ne (tgt := 52) hx hb dX7_save_6 (by decide) (fun hc => ?_) (fun hc => ?_)
  · have hrun := it_f hc hrun
    exact c_J52 nst his  hrun _ _ _ hP hD hS (lv_sub hl [0] rfl)
  · have hrun := it_t hc hrun
    refine lv_sipush (v := 268) hx hb dX7_save_9 (by decide) ?_
    refine lv_istore_n (lv' := [(1, .int 268), (0, .ref to)]) hx hb dX7_save_12 rfl hl (by decide) rfl (fun ls hl => ?_)
    exact c_L13 nst 5000 268 his  hrun _ _ _ hP hD hS (lv_sub hl [1, 0] rfl)
/-! ===== X7_rows ===== -/
theorem mX7_rows_1 : Cond.fieldLink RX7 7 "GateMazeModel" "z" "[I" ∈ wsX7_rows := List.mem_of_getElem? (i := 1) rfl
theorem iX7_rows_X7 : ∀ w ∈ u_ws RX7 TX7 16, w ∈ wsX7_rows := fun w h => List.mem_cons_of_mem _ (List.mem_append_right _ h)
set_option maxHeartbeats 4000000 in
set_option maxRecDepth 100000 in
theorem c_X7_rows (l : Launch) (D : va_G) (kI kJ kS : ClassId) (to : Nat) (ta : Nat → Nat) (z : (Nat → Int32)) (nst : Int32) (his : (Nat → Int32)) (len : Int32) (txt : (Nat → Int32)) (thr : Int32) (god : (Nat → Int64)) (prm : (Nat → Int32)) (npr : Int32) (cov : (Nat → Int32)) (siz : (Nat → Int32)) (pts : (Nat → Int32)) (rea : Int32) (pla : Int32) (bef : (Nat → Int32)) (has : Int64) {r : Int32} (hrun : fX7_rows z = some r) : cI l D (tyL kI kJ kS) false yX7_rows wsX7_rows (rmk 0 0 0 0) [.ref to] (wX7 kI kJ to ta z nst his len txt thr god prm npr cov siz pts rea pla bef has) (wX7 kI kJ to ta z nst his len txt thr god prm npr cov siz pts rea pla bef has) r := by
  refine cI_of (cc := cX7_rows) (maxL := 1) (by decide) rfl (Nat.le_of_ble_eq_true rfl) ?_
  intro p e s m av below meth c A Q ls hE hP hD hS hl hret
  have hE : ent_ p s m av meth c RX7 cX7_rows 1 (some .int) wsX7_rows (tyL kI kJ kS) D A false := hE
  obtain ⟨hx, hb, hml, hown, hts, hr, hlocks, hK, hA, hst⟩ := id hE
  have hl : lv_has ls 1 [(0, .ref to)] := hl
  unfold fX7_rows at hrun
  refine lv_iconst (v := 1) hx hb dX7_rows_0 (by decide) ?_
  refine lv_aload_n hx hb dX7_rows_1 rfl (lv_at hl 0 rfl) ?_
  refine va_get (D := D) (ci := 6) (v := .ref (ta 0)) (C := RX7) (T := TX7) (N := 16) hx hb hts iX7_rows_X7 hown hK hP 0 rfl rfl 0 (by decide) (hts _ mX7_rows_1) (fun _ h9 => h9) rfl dX7_rows_2 ?_
  refine lv_iconst (v := 0) hx hb dX7_rows_5 (by decide) ?_
  obtain ⟨hin, hrun⟩ := gd_some hrun
  refine va_iald hx hb hK hP 1 0 rfl rfl hin dX7_rows_6 ?_
  refine lv_ishl hx hb dX7_rows_7 ?_
  obtain rfl := Option.some.inj hrun
  exact hret _ _ _ _ rfl dX7_rows_8 hP hD hS
/-! ===== X7_isRow ===== -/
set_option maxHeartbeats 4000000 in
set_option maxRecDepth 100000 in
theorem c_X7_isRow (l : Launch) (D : va_G) (kI kJ kS : ClassId) (to : Nat) (ta : Nat → Nat) (x1 : Int32) (z : (Nat → Int32)) (nst : Int32) (his : (Nat → Int32)) (len : Int32) (txt : (Nat → Int32)) (thr : Int32) (god : (Nat → Int64)) (prm : (Nat → Int32)) (npr : Int32) (cov : (Nat → Int32)) (siz : (Nat → Int32)) (pts : (Nat → Int32)) (rea : Int32) (pla : Int32) (bef : (Nat → Int32)) (has : Int64) {r : Int32} (hrun : fX7_isRow z x1 = some r) : cI l D (tyL kI kJ kS) false yX7_isRow wsX7_isRow (rmk 1 0 0 22) [.ref to, .int x1] (wX7 kI kJ to ta z nst his len txt thr god prm npr cov siz pts rea pla bef has) (wX7 kI kJ to ta z nst his len txt thr god prm npr cov siz pts rea pla bef has) r := by
  refine cI_of (cc := cX7_isRow) (maxL := 2) (by decide) rfl (Nat.le_of_ble_eq_true rfl) ?_
  intro p e s m av below meth c A Q ls hE hP hD hS hl hret
  have hE : ent_ p s m av meth c RX7 cX7_isRow 2 (some .boolean) wsX7_isRow (tyL kI kJ kS) D A false := hE
  obtain ⟨hx, hb, hml, hown, hts, hr, hlocks, hK, hA, hst⟩ := id hE
  have hl : lv_has ls 2 [(0, .ref to), (1, .int x1)] := hl
  unfold fX7_isRow at hrun
  refine lv_iload_n hx hb dX7_isRow_0 rfl (lv_at hl 1 rfl) ?_
  refine lv_iconst (v := 0) hx hb dX7_isRow_1 (by decide) ?_
  refine lv_aload_n hx hb dX7_isRow_2 rfl (lv_at hl 0 rfl) ?_
  obtain ⟨q_1, hq_1, hrun⟩ := bd_some hrun
  refine cI_callV (As := []) (rest := [.int 0, .int x1]) (wr := []) (wN := (wX7 kI kJ to ta z nst his len txt thr god prm npr cov siz pts rea pla bef has)) (ci := 6) (q0 := 0) hE (c_X7_rows l D kI kJ kS to ta  z nst his len txt thr god prm npr cov siz pts rea pla bef has hq_1) (cwV 0 hts gX7_isRow_X7_rows rfl rfl rfl (by decide +kernel) ⟨Nat.le_of_ble_eq_true rfl, Nat.le_of_ble_eq_true rfl⟩) hP hD hS [0, 1, 2, 3, 4, 5, 6, 7, 8, 9] [] [0, 1, 2, 3, 4, 5, 6, 7, 8, 9] rfl rfl rfl rfl (by decide) rfl rfl rfl rfl rfl hl.1 rfl (Nat.le_of_ble_eq_true rfl) dX7_isRow_3 ⟨Nat.le_of_ble_eq_true rfl, Nat.le_of_ble_eq_true rfl⟩ (fun H locs hP hD hS => ?_)
  refine lv_iconst (v := 1) hx hb dX7_isRow_6 (by decide) ?_
  refine lv_isub hx hb dX7_isRow_7 ?_
  obtain ⟨q_2, hq_2, hrun⟩ := bd_some hrun
  refine cI_callS (As := [.int x1, .int 0, .int (q_1 - 1)]) (rest := []) (wr := (wX7 kI kJ to ta z nst his len txt thr god prm npr cov siz pts rea pla bef has)) (wN := (wX7 kI kJ to ta z nst his len txt thr god prm npr cov siz pts rea pla bef has)) hE (c_X7_within l D kI kJ kS x1 0 (q_1 - 1)  hq_2) (va_cwS 3 hts gX7_isRow_X7_within rfl rfl rfl (by decide +kernel) ⟨Nat.le_of_ble_eq_true rfl, Nat.le_of_ble_eq_true rfl⟩) hP hD hS [] [0, 1, 2, 3, 4, 5, 6, 7, 8, 9] [0, 1, 2, 3, 4, 5, 6, 7, 8, 9] rfl rfl rfl rfl (by decide) rfl rfl rfl hl.1 rfl (Nat.le_of_ble_eq_true rfl) dX7_isRow_8 ⟨Nat.le_of_ble_eq_true rfl, Nat.le_of_ble_eq_true rfl⟩ (fun H locs hP hD hS => ?_)
  obtain ⟨hn, hrun⟩ := gb_some hrun
  obtain rfl := Option.some.inj hrun
  exact hret _ _ _ _ hn dX7_isRow_11 hP hD hS
/-! ===== X7_isInput ===== -/
theorem mX7_isInput_1 : Cond.fieldLink RX7 7 "GateMazeModel" "z" "[I" ∈ wsX7_isInput := List.mem_of_getElem? (i := 1) rfl
theorem iX7_isInput_X7 : ∀ w ∈ u_ws RX7 TX7 16, w ∈ wsX7_isInput := fun w h => List.mem_cons_of_mem _ (List.mem_append_right _ h)
set_option maxHeartbeats 4000000 in
set_option maxRecDepth 100000 in
theorem c_X7_isInput (l : Launch) (D : va_G) (kI kJ kS : ClassId) (to : Nat) (ta : Nat → Nat) (x1 : Int32) (z : (Nat → Int32)) (nst : Int32) (his : (Nat → Int32)) (len : Int32) (txt : (Nat → Int32)) (thr : Int32) (god : (Nat → Int64)) (prm : (Nat → Int32)) (npr : Int32) (cov : (Nat → Int32)) (siz : (Nat → Int32)) (pts : (Nat → Int32)) (rea : Int32) (pla : Int32) (bef : (Nat → Int32)) (has : Int64) {r : Int32} (hrun : fX7_isInput z x1 = some r) : cI l D (tyL kI kJ kS) false yX7_isInput wsX7_isInput (rmk 1 0 0 22) [.ref to, .int x1] (wX7 kI kJ to ta z nst his len txt thr god prm npr cov siz pts rea pla bef has) (wX7 kI kJ to ta z nst his len txt thr god prm npr cov siz pts rea pla bef has) r := by
  refine cI_of (cc := cX7_isInput) (maxL := 2) (by decide) rfl (Nat.le_of_ble_eq_true rfl) ?_
  intro p e s m av below meth c A Q ls hE hP hD hS hl hret
  have hE : ent_ p s m av meth c RX7 cX7_isInput 2 (some .boolean) wsX7_isInput (tyL kI kJ kS) D A false := hE
  obtain ⟨hx, hb, hml, hown, hts, hr, hlocks, hK, hA, hst⟩ := id hE
  have hl : lv_has ls 2 [(0, .ref to), (1, .int x1)] := hl
  unfold fX7_isInput at hrun
  refine lv_iload_n hx hb dX7_isInput_0 rfl (lv_at hl 1 rfl) ?_
  refine lv_iconst (v := 0) hx hb dX7_isInput_1 (by decide) ?_
  refine lv_aload_n hx hb dX7_isInput_2 rfl (lv_at hl 0 rfl) ?_
  refine va_get (D := D) (ci := 6) (v := .ref (ta 0)) (C := RX7) (T := TX7) (N := 16) hx hb hts iX7_isInput_X7 hown hK hP 0 rfl rfl 0 (by decide) (hts _ mX7_isInput_1) (fun _ h9 => h9) rfl dX7_isInput_3 ?_
  refine lv_iconst (v := 0) hx hb dX7_isInput_6 (by decide) ?_
  obtain ⟨hin, hrun⟩ := gd_some hrun
  refine va_iald hx hb hK hP 1 0 rfl rfl hin dX7_isInput_7 ?_
  refine lv_iconst (v := 1) hx hb dX7_isInput_8 (by decide) ?_
  refine lv_isub hx hb dX7_isInput_9 ?_
  obtain ⟨q_1, hq_1, hrun⟩ := bd_some hrun
  refine cI_callS (As := [.int x1, .int 0, .int ((z ((0 : Int32)).toNatClampNeg) - 1)]) (rest := []) (wr := (wX7 kI kJ to ta z nst his len txt thr god prm npr cov siz pts rea pla bef has)) (wN := (wX7 kI kJ to ta z nst his len txt thr god prm npr cov siz pts rea pla bef has)) hE (c_X7_within l D kI kJ kS x1 0 ((z ((0 : Int32)).toNatClampNeg) - 1)  hq_1) (va_cwS 3 hts gX7_isInput_X7_within rfl rfl rfl (by decide +kernel) ⟨Nat.le_of_ble_eq_true rfl, Nat.le_of_ble_eq_true rfl⟩) hP hD hS [] [0, 1, 2, 3, 4, 5, 6, 7, 8, 9] [0, 1, 2, 3, 4, 5, 6, 7, 8, 9] rfl rfl rfl rfl (by decide) rfl rfl rfl hl.1 rfl (Nat.le_of_ble_eq_true rfl) dX7_isInput_10 ⟨Nat.le_of_ble_eq_true rfl, Nat.le_of_ble_eq_true rfl⟩ (fun H locs hP hD hS => ?_)
  obtain ⟨hn, hrun⟩ := gb_some hrun
  obtain rfl := Option.some.inj hrun
  exact hret _ _ _ _ hn dX7_isInput_13 hP hD hS
/-! ===== X7_isOutput ===== -/
set_option maxHeartbeats 4000000 in
set_option maxRecDepth 100000 in
theorem c_X7_isOutput (l : Launch) (D : va_G) (kI kJ kS : ClassId) (x0 : Int32) {r : Int32} (hrun : fX7_isOutput x0 = some r) : cI l D (tyL kI kJ kS) false yX7_isOutput wsX7_isOutput (rmk 1 0 0 22) [.int x0] [] [] r := by
  refine cI_of (cc := cX7_isOutput) (maxL := 1) (by decide) rfl (Nat.le_of_ble_eq_true rfl) ?_
  intro p e s m av below meth c A Q ls hE hP hD hS hl hret
  have hE : ent_ p s m av meth c RX7 cX7_isOutput 1 (some .boolean) wsX7_isOutput (tyL kI kJ kS) D A false := hE
  obtain ⟨hx, hb, hml, hown, hts, hr, hlocks, hK, hA, hst⟩ := id hE
  have hl : lv_has ls 1 [(0, .int x0)] := hl
  unfold fX7_isOutput at hrun
  refine lv_iload_n hx hb dX7_isOutput_0 rfl (lv_at hl 0 rfl) ?_
  refine lv_iconst (v := 0) hx hb dX7_isOutput_1 (by decide) ?_
  refine lv_iconst (v := 3) hx hb dX7_isOutput_2 (by decide) ?_
  obtain ⟨q_1, hq_1, hrun⟩ := bd_some hrun
  refine cI_callS (As := [.int x0, .int 0, .int 3]) (rest := []) (wr := []) (wN := []) hE (c_X7_within l D kI kJ kS x0 0 3  hq_1) (va_cwS 3 hts gX7_isOutput_X7_within rfl rfl rfl (by decide +kernel) ⟨Nat.le_of_ble_eq_true rfl, Nat.le_of_ble_eq_true rfl⟩) hP hD hS [] [] [] rfl rfl rfl rfl (by decide) rfl rfl rfl hl.1 rfl (Nat.le_of_ble_eq_true rfl) dX7_isOutput_3 ⟨Nat.le_of_ble_eq_true rfl, Nat.le_of_ble_eq_true rfl⟩ (fun H locs hP hD hS => ?_)
  obtain ⟨hn, hrun⟩ := gb_some hrun
  obtain rfl := Option.some.inj hrun
  exact hret _ _ _ _ hn dX7_isOutput_6 hP hD hS
/-! ===== X7_truth ===== -/
theorem mX7_truth_1 : Cond.fieldLink RX7 7 "GateMazeModel" "z" "[I" ∈ wsX7_truth := List.mem_of_getElem? (i := 1) rfl
theorem iX7_truth_X7 : ∀ w ∈ u_ws RX7 TX7 16, w ∈ wsX7_truth := fun w h => List.mem_cons_of_mem _ (List.mem_append_right _ h)
set_option maxHeartbeats 4000000 in
set_option maxRecDepth 100000 in
theorem c_X7_truth (l : Launch) (D : va_G) (kI kJ kS : ClassId) (to : Nat) (ta : Nat → Nat) (x1 : Int32) (x2 : Int32) (z : (Nat → Int32)) (nst : Int32) (his : (Nat → Int32)) (len : Int32) (txt : (Nat → Int32)) (thr : Int32) (god : (Nat → Int64)) (prm : (Nat → Int32)) (npr : Int32) (cov : (Nat → Int32)) (siz : (Nat → Int32)) (pts : (Nat → Int32)) (rea : Int32) (pla : Int32) (bef : (Nat → Int32)) (has : Int64) {r : Int32} (hrun : fX7_truth z x1 x2 = some r) : cI l D (tyL kI kJ kS) false yX7_truth wsX7_truth (rmk 0 0 0 0) [.ref to, .int x1, .int x2] (wX7 kI kJ to ta z nst his len txt thr god prm npr cov siz pts rea pla bef has) (wX7 kI kJ to ta z nst his len txt thr god prm npr cov siz pts rea pla bef has) r := by
  refine cI_of (cc := cX7_truth) (maxL := 3) (by decide) rfl (Nat.le_of_ble_eq_true rfl) ?_
  intro p e s m av below meth c A Q ls hE hP hD hS hl hret
  have hE : ent_ p s m av meth c RX7 cX7_truth 3 (some .int) wsX7_truth (tyL kI kJ kS) D A false := hE
  obtain ⟨hx, hb, hml, hown, hts, hr, hlocks, hK, hA, hst⟩ := id hE
  have hl : lv_has ls 3 [(0, .ref to), (1, .int x1), (2, .int x2)] := hl
  unfold fX7_truth at hrun
  refine lv_aload_n hx hb dX7_truth_0 rfl (lv_at hl 0 rfl) ?_
  refine va_get (D := D) (ci := 6) (v := .ref (ta 0)) (C := RX7) (T := TX7) (N := 16) hx hb hts iX7_truth_X7 hown hK hP 0 rfl rfl 0 (by decide) (hts _ mX7_truth_1) (fun _ h9 => h9) rfl dX7_truth_1 ?_
  refine lv_bipush (v := 12) hx hb dX7_truth_4 (by decide) ?_
  refine lv_bipush (v := 64) hx hb dX7_truth_6 (by decide) ?_
  refine lv_iload_n hx hb dX7_truth_8 rfl (lv_at hl 1 rfl) ?_
  refine lv_imul hx hb dX7_truth_9 ?_
  refine lv_iadd hx hb dX7_truth_10 ?_
  refine lv_iload_n hx hb dX7_truth_11 rfl (lv_at hl 2 rfl) ?_
  refine lv_iadd hx hb dX7_truth_12 ?_
  obtain ⟨hin, hrun⟩ := gd_some hrun
  refine va_iald hx hb hK hP 1 0 rfl rfl hin dX7_truth_13 ?_
  obtain rfl := Option.some.inj hrun
  exact hret _ _ _ _ rfl dX7_truth_14 hP hD hS
/-! ===== X7_setTruth ===== -/
theorem mX7_setTruth_1 : Cond.fieldLink RX7 7 "GateMazeModel" "z" "[I" ∈ wsX7_setTruth := List.mem_of_getElem? (i := 1) rfl
theorem iX7_setTruth_X7 : ∀ w ∈ u_ws RX7 TX7 16, w ∈ wsX7_setTruth := fun w h => List.mem_cons_of_mem _ (List.mem_append_right _ h)
set_option maxHeartbeats 4000000 in
set_option maxRecDepth 100000 in
theorem c_X7_setTruth (l : Launch) (D : va_G) (kI kJ kS : ClassId) (to : Nat) (ta : Nat → Nat) (x1 : Int32) (x2 : Int32) (x3 : Int32) (z : (Nat → Int32)) (nst : Int32) (his : (Nat → Int32)) (len : Int32) (txt : (Nat → Int32)) (thr : Int32) (god : (Nat → Int64)) (prm : (Nat → Int32)) (npr : Int32) (cov : (Nat → Int32)) (siz : (Nat → Int32)) (pts : (Nat → Int32)) (rea : Int32) (pla : Int32) (bef : (Nat → Int32)) (has : Int64) {r : Nat → Int32} (hrun : fX7_setTruth z x1 x2 x3 = some r) : cV l D (tyL kI kJ kS) false yX7_setTruth wsX7_setTruth (rmk 0 0 0 0) [.ref to, .int x1, .int x2, .int x3] (wX7 kI kJ to ta z nst his len txt thr god prm npr cov siz pts rea pla bef has) (wX7 kI kJ to ta r nst his len txt thr god prm npr cov siz pts rea pla bef has) := by
  refine cV_of (cc := cX7_setTruth) (maxL := 4) (by decide) rfl (Nat.le_of_ble_eq_true rfl) ?_
  intro p e s m av below meth c A Q ls hE hP hD hS hl hret
  have hE : ent_ p s m av meth c RX7 cX7_setTruth 4 none wsX7_setTruth (tyL kI kJ kS) D A false := hE
  obtain ⟨hx, hb, hml, hown, hts, hr, hlocks, hK, hA, hst⟩ := id hE
  have hl : lv_has ls 4 [(0, .ref to), (1, .int x1), (2, .int x2), (3, .int x3)] := hl
  unfold fX7_setTruth at hrun
  refine lv_aload_n hx hb dX7_setTruth_0 rfl (lv_at hl 0 rfl) ?_
  refine va_get (D := D) (ci := 6) (v := .ref (ta 0)) (C := RX7) (T := TX7) (N := 16) hx hb hts iX7_setTruth_X7 hown hK hP 0 rfl rfl 0 (by decide) (hts _ mX7_setTruth_1) (fun _ h9 => h9) rfl dX7_setTruth_1 ?_
  refine lv_bipush (v := 12) hx hb dX7_setTruth_4 (by decide) ?_
  refine lv_bipush (v := 64) hx hb dX7_setTruth_6 (by decide) ?_
  refine lv_iload_n hx hb dX7_setTruth_8 rfl (lv_at hl 1 rfl) ?_
  refine lv_imul hx hb dX7_setTruth_9 ?_
  refine lv_iadd hx hb dX7_setTruth_10 ?_
  refine lv_iload_n hx hb dX7_setTruth_11 rfl (lv_at hl 2 rfl) ?_
  refine lv_iadd hx hb dX7_setTruth_12 ?_
  refine lv_iload_n hx hb dX7_setTruth_13 rfl (lv_at hl 3 rfl) ?_
  obtain ⟨hin, hrun⟩ := gd_some hrun
  refine va_iast hx hb hK hP hD hS 1 0 rfl rfl hin dX7_setTruth_14 (fun H locs hP hD hS => ?_)
  have hP : va_P D vwCl (wX7 kI kJ to ta (upd z ((12 + (64 * x1)) + x2).toNatClampNeg x3) nst his len txt thr god prm npr cov siz pts rea pla bef has) H := hP
  have hD : va_D A (wX7 kI kJ to ta (upd z ((12 + (64 * x1)) + x2).toNatClampNeg x3) nst his len txt thr god prm npr cov siz pts rea pla bef has) := hD
  obtain rfl := Option.some.inj hrun
  exact hret _ _ _ _ dX7_setTruth_15 hP hD hS
/-! ===== X7_decided ===== -/
theorem mX7_decided_1 : Cond.fieldLink RX7 7 "GateMazeModel" "z" "[I" ∈ wsX7_decided := List.mem_of_getElem? (i := 1) rfl
theorem iX7_decided_X7 : ∀ w ∈ u_ws RX7 TX7 16, w ∈ wsX7_decided := fun w h => List.mem_cons_of_mem _ (List.mem_append_right _ h)
set_option maxHeartbeats 4000000 in
set_option maxRecDepth 100000 in
theorem c_X7_decided (l : Launch) (D : va_G) (kI kJ kS : ClassId) (to : Nat) (ta : Nat → Nat) (x1 : Int32) (x2 : Int32) (z : (Nat → Int32)) (nst : Int32) (his : (Nat → Int32)) (len : Int32) (txt : (Nat → Int32)) (thr : Int32) (god : (Nat → Int64)) (prm : (Nat → Int32)) (npr : Int32) (cov : (Nat → Int32)) (siz : (Nat → Int32)) (pts : (Nat → Int32)) (rea : Int32) (pla : Int32) (bef : (Nat → Int32)) (has : Int64) {r : Int32} (hrun : fX7_decided z x1 x2 = some r) : cI l D (tyL kI kJ kS) false yX7_decided wsX7_decided (rmk 1 0 0 22) [.ref to, .int x1, .int x2] (wX7 kI kJ to ta z nst his len txt thr god prm npr cov siz pts rea pla bef has) (wX7 kI kJ to ta z nst his len txt thr god prm npr cov siz pts rea pla bef has) r := by
  refine cI_of (cc := cX7_decided) (maxL := 6) (by decide) rfl (Nat.le_of_ble_eq_true rfl) ?_
  intro p e s m av below meth c A Q ls hE hP hD hS hl hret
  have hE : ent_ p s m av meth c RX7 cX7_decided 6 (some .int) wsX7_decided (tyL kI kJ kS) D A false := hE
  obtain ⟨hx, hb, hml, hown, hts, hr, hlocks, hK, hA, hst⟩ := id hE
  have hl : lv_has ls 6 [(0, .ref to), (1, .int x1), (2, .int x2)] := hl
  have c_J74 : ∀ (x1 : Int32) (x2 : Int32) (x3 : Int32) (x4 : Int32) (x5 : Int32) (k8 : Int32 → Int32 → Int32 → Option (Int32)) (hk8 : (∀ (x3 : Int32) (x4 : Int32) (x5 : Int32), k8 x3 x4 x5 = some r → wAt p l e (rmk 1 0 0 22) s m av below meth c D A 6 0 0 Q 8 [] [(0, .ref to), (1, .int x1), (2, .int x2), (3, .int x3), (4, .int x4), (5, .int x5)] (wX7 kI kJ to ta z nst his len txt thr god prm npr cov siz pts rea pla bef has))), fX7_decided_J74 x1 x2 x3 x4 x5 z k8 = some r → wAt p l e (rmk 1 0 0 22) s m av below meth c D A 6 0 0 Q 74 [] [(0, .ref to), (1, .int x1), (2, .int x2), (3, .int x3), (4, .int x4), (5, .int x5)] (wX7 kI kJ to ta z nst his len txt thr god prm npr cov siz pts rea pla bef has) := by
    intro x1 x2 x3 x4 x5 k8 hk8 hrun H locs ls hP hD hS hl
    unfold fX7_decided_J74 at hrun
    refine lv_iinc (v := x5 + 1) (lv' := [(5, .int (x5 + 1)), (0, .ref to), (1, .int x1), (2, .int x2), (3, .int x3), (4, .int x4)]) hx hb dX7_decided_74 hl (k := 5) rfl rfl (by decide) rfl (fun ls hl => ?_)
    refine lv_goto (tgt := 8) hx hb dX7_decided_77 (by decide) ?_
    exact hk8 x3 x4 (x5 + 1)  hrun _ _ _ hP hD hS (lv_sub hl [1, 2, 3, 4, 5, 0] rfl)
  have c_J72 : ∀ (x1 : Int32) (x2 : Int32) (x3 : Int32) (x5 : Int32) (s0 : Int32) (k8 : Int32 → Int32 → Int32 → Option (Int32)) (hk8 : (∀ (x3 : Int32) (x4 : Int32) (x5 : Int32), k8 x3 x4 x5 = some r → wAt p l e (rmk 1 0 0 22) s m av below meth c D A 6 0 0 Q 8 [] [(0, .ref to), (1, .int x1), (2, .int x2), (3, .int x3), (4, .int x4), (5, .int x5)] (wX7 kI kJ to ta z nst his len txt thr god prm npr cov siz pts rea pla bef has))), fX7_decided_J72 x1 x2 x3 x5 s0 z k8 = some r → wAt p l e (rmk 1 0 0 22) s m av below meth c D A 6 0 0 Q 72 [.int s0] [(0, .ref to), (1, .int x1), (2, .int x2), (3, .int x3), (5, .int x5)] (wX7 kI kJ to ta z nst his len txt thr god prm npr cov siz pts rea pla bef has) := by
    intro x1 x2 x3 x5 s0 k8 hk8 hrun H locs ls hP hD hS hl
    unfold fX7_decided_J72 at hrun
    refine lv_istore (lv' := [(4, .int s0), (0, .ref to), (1, .int x1), (2, .int x2), (3, .int x3), (5, .int x5)]) hx hb dX7_decided_72 hl (by decide) rfl (fun ls hl => ?_)
    exact c_J74 x1 x2 x3 s0 x5 k8 hk8  hrun _ _ _ hP hD hS (lv_sub hl [1, 2, 3, 4, 0, 5] rfl)
  have c_J67 : ∀ (x1 : Int32) (x2 : Int32) (x3 : Int32) (x5 : Int32) (k8 : Int32 → Int32 → Int32 → Option (Int32)) (hk8 : (∀ (x3 : Int32) (x4 : Int32) (x5 : Int32), k8 x3 x4 x5 = some r → wAt p l e (rmk 1 0 0 22) s m av below meth c D A 6 0 0 Q 8 [] [(0, .ref to), (1, .int x1), (2, .int x2), (3, .int x3), (4, .int x4), (5, .int x5)] (wX7 kI kJ to ta z nst his len txt thr god prm npr cov siz pts rea pla bef has))), fX7_decided_J67 x1 x2 x3 x5 z k8 = some r → wAt p l e (rmk 1 0 0 22) s m av below meth c D A 6 0 0 Q 67 [] [(0, .ref to), (1, .int x1), (2, .int x2), (3, .int x3), (5, .int x5)] (wX7 kI kJ to ta z nst his len txt thr god prm npr cov siz pts rea pla bef has) := by
    intro x1 x2 x3 x5 k8 hk8 hrun H locs ls hP hD hS hl
    unfold fX7_decided_J67 at hrun
    refine lv_iconst (v := 1) hx hb dX7_decided_67 (by decide) ?_
    refine lv_goto (tgt := 72) hx hb dX7_decided_68 (by decide) ?_
    exact c_J72 x1 x2 x3 x5 1 k8 hk8  hrun _ _ _ hP hD hS (lv_sub hl [0, 1, 2, 3, 4] rfl)
  have c_J50 : ∀ (x1 : Int32) (x2 : Int32) (x4 : Int32) (x5 : Int32) (s0 : Int32) (k8 : Int32 → Int32 → Int32 → Option (Int32)) (hk8 : (∀ (x3 : Int32) (x4 : Int32) (x5 : Int32), k8 x3 x4 x5 = some r → wAt p l e (rmk 1 0 0 22) s m av below meth c D A 6 0 0 Q 8 [] [(0, .ref to), (1, .int x1), (2, .int x2), (3, .int x3), (4, .int x4), (5, .int x5)] (wX7 kI kJ to ta z nst his len txt thr god prm npr cov siz pts rea pla bef has))), fX7_decided_J50 x1 x2 x4 x5 s0 z k8 = some r → wAt p l e (rmk 1 0 0 22) s m av below meth c D A 6 0 0 Q 50 [.int s0] [(0, .ref to), (1, .int x1), (2, .int x2), (4, .int x4), (5, .int x5)] (wX7 kI kJ to ta z nst his len txt thr god prm npr cov siz pts rea pla bef has) := by
    intro x1 x2 x4 x5 s0 k8 hk8 hrun H locs ls hP hD hS hl
    unfold fX7_decided_J50 at hrun
    refine lv_istore_n (lv' := [(3, .int s0), (0, .ref to), (1, .int x1), (2, .int x2), (4, .int x4), (5, .int x5)]) hx hb dX7_decided_50 rfl hl (by decide) rfl (fun ls hl => ?_)
    refine lv_iload hx hb dX7_decided_51 (lv_at hl 4 rfl) ?_
    refine lv_if_ne (tgt := 67) hx hb dX7_decided_53 (by decide) (fun hc => ?_) (fun hc => ?_)
    · have hrun := it_f hc hrun
      exact c_J67 x1 x2 s0 x5 k8 hk8  hrun _ _ _ hP hD hS (lv_sub hl [1, 2, 3, 0, 5] rfl)
    · have hrun := it_t hc hrun
      refine lv_aload_n hx hb dX7_decided_56 rfl (lv_at hl 1 rfl) ?_
      refine lv_iload_n hx hb dX7_decided_57 rfl (lv_at hl 2 rfl) ?_
      refine lv_iload hx hb dX7_decided_58 (lv_at hl 5 rfl) ?_
      obtain ⟨q_1, hq_1, hrun⟩ := bd_some hrun
      refine cI_callV (As := [.int x1, .int x5]) (rest := []) (wr := []) (wN := (wX7 kI kJ to ta z nst his len txt thr god prm npr cov siz pts rea pla bef has)) (ci := 6) (q0 := 0) hE (c_X7_truth l D kI kJ kS to ta x1 x5 z nst his len txt thr god prm npr cov siz pts rea pla bef has hq_1) (cwV 2 hts gX7_decided_X7_truth rfl rfl rfl (by decide +kernel) ⟨Nat.le_of_ble_eq_true rfl, Nat.le_of_ble_eq_true rfl⟩) hP hD hS [0, 1, 2, 3, 4, 5, 6, 7, 8, 9] [] [0, 1, 2, 3, 4, 5, 6, 7, 8, 9] rfl rfl rfl rfl (by decide) rfl rfl rfl rfl rfl hl.1 rfl (Nat.le_of_ble_eq_true rfl) dX7_decided_60 ⟨Nat.le_of_ble_eq_true rfl, Nat.le_of_ble_eq_true rfl⟩ (fun H locs hP hD hS => ?_)
      refine lv_iconst (v := 1) hx hb dX7_decided_63 (by decide) ?_
      refine lv_icmp_ne (tgt := 71) hx hb dX7_decided_64 (by decide) (fun hc => ?_) (fun hc => ?_)
      · have hrun := it_f hc hrun
        refine lv_iconst (v := 0) hx hb dX7_decided_71 (by decide) ?_
        exact c_J72 x1 x2 s0 x5 0 k8 hk8  hrun _ _ _ hP hD hS (lv_sub hl [1, 2, 3, 0, 5] rfl)
      · have hrun := it_t hc hrun
        exact c_J67 x1 x2 s0 x5 k8 hk8  hrun _ _ _ hP hD hS (lv_sub hl [1, 2, 3, 0, 5] rfl)
  have c_J45 : ∀ (x1 : Int32) (x2 : Int32) (x4 : Int32) (x5 : Int32) (k8 : Int32 → Int32 → Int32 → Option (Int32)) (hk8 : (∀ (x3 : Int32) (x4 : Int32) (x5 : Int32), k8 x3 x4 x5 = some r → wAt p l e (rmk 1 0 0 22) s m av below meth c D A 6 0 0 Q 8 [] [(0, .ref to), (1, .int x1), (2, .int x2), (3, .int x3), (4, .int x4), (5, .int x5)] (wX7 kI kJ to ta z nst his len txt thr god prm npr cov siz pts rea pla bef has))), fX7_decided_J45 x1 x2 x4 x5 z k8 = some r → wAt p l e (rmk 1 0 0 22) s m av below meth c D A 6 0 0 Q 45 [] [(0, .ref to), (1, .int x1), (2, .int x2), (4, .int x4), (5, .int x5)] (wX7 kI kJ to ta z nst his len txt thr god prm npr cov siz pts rea pla bef has) := by
    intro x1 x2 x4 x5 k8 hk8 hrun H locs ls hP hD hS hl
    unfold fX7_decided_J45 at hrun
    refine lv_iconst (v := 1) hx hb dX7_decided_45 (by decide) ?_
    refine lv_goto (tgt := 50) hx hb dX7_decided_46 (by decide) ?_
    exact c_J50 x1 x2 x4 x5 1 k8 hk8  hrun _ _ _ hP hD hS (lv_sub hl [0, 1, 2, 3, 4] rfl)
  have c_J80 : ∀ (x3 : Int32) (x4 : Int32), fX7_decided_J80 x3 x4 = some r → wAt p l e (rmk 1 0 0 22) s m av below meth c D A 6 0 0 Q 80 [] [(3, .int x3), (4, .int x4)] (wX7 kI kJ to ta z nst his len txt thr god prm npr cov siz pts rea pla bef has) := by
    intro x3 x4 hrun H locs ls hP hD hS hl
    unfold fX7_decided_J80 at hrun
    refine lv_iload_n hx hb dX7_decided_80 rfl (lv_at hl 0 rfl) ?_
    refine lv_if_eq (tgt := 97) hx hb dX7_decided_81 (by decide) (fun hc => ?_) (fun hc => ?_)
    · have hrun := it_t hc hrun
      refine lv_iload hx hb dX7_decided_97 (lv_at hl 1 rfl) ?_
      refine lv_if_eq (tgt := 106) hx hb dX7_decided_99 (by decide) (fun hc => ?_) (fun hc => ?_)
      · have hrun := it_t hc hrun
        refine lv_iconst (v := 2) hx hb dX7_decided_106 (by decide) ?_
        obtain rfl := Option.some.inj hrun
        exact hret _ _ _ _ rfl dX7_decided_107 hP hD hS
      · have hrun := it_f hc hrun
        refine lv_iconst (v := 1) hx hb dX7_decided_102 (by decide) ?_
        refine lv_goto (tgt := 107) hx hb dX7_decided_103 (by decide) ?_
        obtain rfl := Option.some.inj hrun
        exact hret _ _ _ _ rfl dX7_decided_107 hP hD hS
    · have hrun := it_f hc hrun
      refine lv_iload hx hb dX7_decided_84 (lv_at hl 1 rfl) ?_
      refine lv_if_eq (tgt := 93) hx hb dX7_decided_86 (by decide) (fun hc => ?_) (fun hc => ?_)
      · have hrun := it_t hc hrun
        refine lv_iconst (v := 0) hx hb dX7_decided_93 (by decide) ?_
        refine lv_goto (tgt := 107) hx hb dX7_decided_94 (by decide) ?_
        obtain rfl := Option.some.inj hrun
        exact hret _ _ _ _ rfl dX7_decided_107 hP hD hS
      · have hrun := it_f hc hrun
        refine lv_iconst (v := 3) hx hb dX7_decided_89 (by decide) ?_
        refine lv_goto (tgt := 107) hx hb dX7_decided_90 (by decide) ?_
        obtain rfl := Option.some.inj hrun
        exact hret _ _ _ _ rfl dX7_decided_107 hP hD hS
  have c_L8 : ∀ (x1 : Int32) (x2 : Int32) (n : Nat) (x3 : Int32) (x4 : Int32) (x5 : Int32), fX7_decided_L8 x1 x2 z n x3 x4 x5 = some r → wAt p l e (rmk 1 0 0 22) s m av below meth c D A 6 0 0 Q 8 [] [(0, .ref to), (1, .int x1), (2, .int x2), (3, .int x3), (4, .int x4), (5, .int x5)] (wX7 kI kJ to ta z nst his len txt thr god prm npr cov siz pts rea pla bef has) := by
    intro x1 x2 n
    induction n with
    | zero =>
      intro x3 x4 x5 hrun
      rw [fX7_decided_L8] at hrun
      cases hrun
    | succ n ih =>
      intro x3 x4 x5 hrun H locs ls hP hD hS hl
      rw [fX7_decided_L8] at hrun
      refine lv_iload hx hb dX7_decided_8 (lv_at hl 5 rfl) ?_
      refine lv_aload_n hx hb dX7_decided_10 rfl (lv_at hl 0 rfl) ?_
      obtain ⟨q_2, hq_2, hrun⟩ := bd_some hrun
      refine cI_callV (As := []) (rest := [.int x5]) (wr := []) (wN := (wX7 kI kJ to ta z nst his len txt thr god prm npr cov siz pts rea pla bef has)) (ci := 6) (q0 := 0) hE (c_X7_rows l D kI kJ kS to ta  z nst his len txt thr god prm npr cov siz pts rea pla bef has hq_2) (cwV 0 hts gX7_decided_X7_rows rfl rfl rfl (by decide +kernel) ⟨Nat.le_of_ble_eq_true rfl, Nat.le_of_ble_eq_true rfl⟩) hP hD hS [0, 1, 2, 3, 4, 5, 6, 7, 8, 9] [] [0, 1, 2, 3, 4, 5, 6, 7, 8, 9] rfl rfl rfl rfl (by decide) rfl rfl rfl rfl rfl hl.1 rfl (Nat.le_of_ble_eq_true rfl) dX7_decided_11 ⟨Nat.le_of_ble_eq_true rfl, Nat.le_of_ble_eq_true rfl⟩ (fun H locs hP hD hS => ?_)
      refine lv_icmp_ge (tgt := 80) hx hb dX7_decided_14 (by decide) (fun hc => ?_) (fun hc => ?_)
      · have hrun := it_t hc hrun
        exact c_J80 x3 x4  hrun _ _ _ hP hD hS (lv_sub hl [3, 4] rfl)
      · have hrun := it_f hc hrun
        refine lv_iload hx hb dX7_decided_17 (lv_at hl 5 rfl) ?_
        refine lv_iload_n hx hb dX7_decided_19 rfl (lv_at hl 2 rfl) ?_
        refine lv_ixor hx hb dX7_decided_20 ?_
        refine lv_aload_n hx hb dX7_decided_21 rfl (lv_at hl 0 rfl) ?_
        refine va_get (D := D) (ci := 6) (v := .ref (ta 0)) (C := RX7) (T := TX7) (N := 16) hx hb hts iX7_decided_X7 hown hK hP 0 rfl rfl 0 (by decide) (hts _ mX7_decided_1) (fun _ h9 => h9) rfl dX7_decided_22 ?_
        refine lv_iconst (v := 1) hx hb dX7_decided_25 (by decide) ?_
        obtain ⟨hin, hrun⟩ := gd_some hrun
        refine va_iald hx hb hK hP 1 0 rfl rfl hin dX7_decided_26 ?_
        refine lv_iand hx hb dX7_decided_27 ?_
        refine lv_if_ne (tgt := 74) hx hb dX7_decided_28 (by decide) (fun hc => ?_) (fun hc => ?_)
        · have hrun := it_f hc hrun
          exact c_J74 x1 x2 x3 x4 x5 (fX7_decided_L8 x1 x2 z n) ih  hrun _ _ _ hP hD hS (lv_sub hl [0, 1, 2, 3, 4, 5] rfl)
        · have hrun := it_t hc hrun
          refine lv_iload_n hx hb dX7_decided_31 rfl (lv_at hl 3 rfl) ?_
          refine lv_if_ne (tgt := 45) hx hb dX7_decided_32 (by decide) (fun hc => ?_) (fun hc => ?_)
          · have hrun := it_f hc hrun
            exact c_J45 x1 x2 x4 x5 (fX7_decided_L8 x1 x2 z n) ih  hrun _ _ _ hP hD hS (lv_sub hl [0, 1, 2, 4, 5] rfl)
          · have hrun := it_t hc hrun
            refine lv_aload_n hx hb dX7_decided_35 rfl (lv_at hl 0 rfl) ?_
            refine lv_iload_n hx hb dX7_decided_36 rfl (lv_at hl 1 rfl) ?_
            refine lv_iload hx hb dX7_decided_37 (lv_at hl 5 rfl) ?_
            obtain ⟨q_3, hq_3, hrun⟩ := bd_some hrun
            refine cI_callV (As := [.int x1, .int x5]) (rest := []) (wr := []) (wN := (wX7 kI kJ to ta z nst his len txt thr god prm npr cov siz pts rea pla bef has)) (ci := 6) (q0 := 0) hE (c_X7_truth l D kI kJ kS to ta x1 x5 z nst his len txt thr god prm npr cov siz pts rea pla bef has hq_3) (cwV 2 hts gX7_decided_X7_truth rfl rfl rfl (by decide +kernel) ⟨Nat.le_of_ble_eq_true rfl, Nat.le_of_ble_eq_true rfl⟩) hP hD hS [0, 1, 2, 3, 4, 5, 6, 7, 8, 9] [] [0, 1, 2, 3, 4, 5, 6, 7, 8, 9] rfl rfl rfl rfl (by decide) rfl rfl rfl rfl rfl hl.1 rfl (Nat.le_of_ble_eq_true rfl) dX7_decided_39 ⟨Nat.le_of_ble_eq_true rfl, Nat.le_of_ble_eq_true rfl⟩ (fun H locs hP hD hS => ?_)
            refine lv_if_ne (tgt := 49) hx hb dX7_decided_42 (by decide) (fun hc => ?_) (fun hc => ?_)
            · have hrun := it_f hc hrun
              refine lv_iconst (v := 0) hx hb dX7_decided_49 (by decide) ?_
              exact c_J50 x1 x2 x4 x5 0 (fX7_decided_L8 x1 x2 z n) ih  hrun _ _ _ hP hD hS (lv_sub hl [0, 1, 2, 4, 5] rfl)
            · have hrun := it_t hc hrun
              exact c_J45 x1 x2 x4 x5 (fX7_decided_L8 x1 x2 z n) ih  hrun _ _ _ hP hD hS (lv_sub hl [0, 1, 2, 4, 5] rfl)
  unfold fX7_decided at hrun
  refine lv_iconst (v := 0) hx hb dX7_decided_0 (by decide) ?_
  refine lv_istore_n (lv' := [(3, .int 0), (0, .ref to), (1, .int x1), (2, .int x2)]) hx hb dX7_decided_1 rfl hl (by decide) rfl (fun ls hl => ?_)
  refine lv_iconst (v := 0) hx hb dX7_decided_2 (by decide) ?_
  refine lv_istore (lv' := [(4, .int 0), (3, .int 0), (0, .ref to), (1, .int x1), (2, .int x2)]) hx hb dX7_decided_3 hl (by decide) rfl (fun ls hl => ?_)
  refine lv_iconst (v := 0) hx hb dX7_decided_5 (by decide) ?_
  refine lv_istore (lv' := [(5, .int 0), (4, .int 0), (3, .int 0), (0, .ref to), (1, .int x1), (2, .int x2)]) hx hb dX7_decided_6 hl (by decide) rfl (fun ls hl => ?_)
  exact c_L8 x1 x2 5000 0 0 0  hrun _ _ _ hP hD hS (lv_sub hl [3, 4, 5, 2, 1, 0] rfl)
/-! ===== X7_decidedRows ===== -/
set_option maxHeartbeats 4000000 in
set_option maxRecDepth 100000 in
theorem c_X7_decidedRows (l : Launch) (D : va_G) (kI kJ kS : ClassId) (to : Nat) (ta : Nat → Nat) (x1 : Int32) (x2 : Int32) (z : (Nat → Int32)) (nst : Int32) (his : (Nat → Int32)) (len : Int32) (txt : (Nat → Int32)) (thr : Int32) (god : (Nat → Int64)) (prm : (Nat → Int32)) (npr : Int32) (cov : (Nat → Int32)) (siz : (Nat → Int32)) (pts : (Nat → Int32)) (rea : Int32) (pla : Int32) (bef : (Nat → Int32)) (has : Int64) {r : Int32} (hrun : fX7_decidedRows z x1 x2 = some r) : cI l D (tyL kI kJ kS) false yX7_decidedRows wsX7_decidedRows (rmk 2 0 0 47) [.ref to, .int x1, .int x2] (wX7 kI kJ to ta z nst his len txt thr god prm npr cov siz pts rea pla bef has) (wX7 kI kJ to ta z nst his len txt thr god prm npr cov siz pts rea pla bef has) r := by
  refine cI_of (cc := cX7_decidedRows) (maxL := 5) (by decide) rfl (Nat.le_of_ble_eq_true rfl) ?_
  intro p e s m av below meth c A Q ls hE hP hD hS hl hret
  have hE : ent_ p s m av meth c RX7 cX7_decidedRows 5 (some .int) wsX7_decidedRows (tyL kI kJ kS) D A false := hE
  obtain ⟨hx, hb, hml, hown, hts, hr, hlocks, hK, hA, hst⟩ := id hE
  have hl : lv_has ls 5 [(0, .ref to), (1, .int x1), (2, .int x2)] := hl
  have c_J31 : ∀ (x1 : Int32) (x2 : Int32) (x4 : Int32) (s0 : Int32) (s1 : Int32) (k5 : Int32 → Int32 → Option (Int32)) (hk5 : (∀ (x3 : Int32) (x4 : Int32), k5 x3 x4 = some r → wAt p l e (rmk 2 0 0 47) s m av below meth c D A 5 0 0 Q 5 [] [(0, .ref to), (1, .int x1), (2, .int x2), (3, .int x3), (4, .int x4)] (wX7 kI kJ to ta z nst his len txt thr god prm npr cov siz pts rea pla bef has))), fX7_decidedRows_J31 x1 x2 x4 s0 s1 z k5 = some r → wAt p l e (rmk 2 0 0 47) s m av below meth c D A 5 0 0 Q 31 [.int s0, .int s1] [(0, .ref to), (1, .int x1), (2, .int x2), (4, .int x4)] (wX7 kI kJ to ta z nst his len txt thr god prm npr cov siz pts rea pla bef has) := by
    intro x1 x2 x4 s0 s1 k5 hk5 hrun H locs ls hP hD hS hl
    unfold fX7_decidedRows_J31 at hrun
    refine lv_iadd hx hb dX7_decidedRows_31 ?_
    refine lv_istore_n (lv' := [(3, .int (s1 + s0)), (0, .ref to), (1, .int x1), (2, .int x2), (4, .int x4)]) hx hb dX7_decidedRows_32 rfl hl (by decide) rfl (fun ls hl => ?_)
    refine lv_iinc (v := x4 + 1) (lv' := [(4, .int (x4 + 1)), (3, .int (s1 + s0)), (0, .ref to), (1, .int x1), (2, .int x2)]) hx hb dX7_decidedRows_33 hl (k := 4) rfl rfl (by decide) rfl (fun ls hl => ?_)
    refine lv_goto (tgt := 5) hx hb dX7_decidedRows_36 (by decide) ?_
    exact hk5 (s1 + s0) (x4 + 1)  hrun _ _ _ hP hD hS (lv_sub hl [2, 3, 4, 1, 0] rfl)
  have c_L5 : ∀ (x1 : Int32) (x2 : Int32) (n : Nat) (x3 : Int32) (x4 : Int32), fX7_decidedRows_L5 x1 x2 z n x3 x4 = some r → wAt p l e (rmk 2 0 0 47) s m av below meth c D A 5 0 0 Q 5 [] [(0, .ref to), (1, .int x1), (2, .int x2), (3, .int x3), (4, .int x4)] (wX7 kI kJ to ta z nst his len txt thr god prm npr cov siz pts rea pla bef has) := by
    intro x1 x2 n
    induction n with
    | zero =>
      intro x3 x4 hrun
      rw [fX7_decidedRows_L5] at hrun
      cases hrun
    | succ n ih =>
      intro x3 x4 hrun H locs ls hP hD hS hl
      rw [fX7_decidedRows_L5] at hrun
      refine lv_iload hx hb dX7_decidedRows_5 (lv_at hl 4 rfl) ?_
      refine lv_aload_n hx hb dX7_decidedRows_7 rfl (lv_at hl 0 rfl) ?_
      obtain ⟨q_1, hq_1, hrun⟩ := bd_some hrun
      refine cI_callV (As := []) (rest := [.int x4]) (wr := []) (wN := (wX7 kI kJ to ta z nst his len txt thr god prm npr cov siz pts rea pla bef has)) (ci := 6) (q0 := 0) hE (c_X7_rows l D kI kJ kS to ta  z nst his len txt thr god prm npr cov siz pts rea pla bef has hq_1) (cwV 0 hts gX7_decidedRows_X7_rows rfl rfl rfl (by decide +kernel) ⟨Nat.le_of_ble_eq_true rfl, Nat.le_of_ble_eq_true rfl⟩) hP hD hS [0, 1, 2, 3, 4, 5, 6, 7, 8, 9] [] [0, 1, 2, 3, 4, 5, 6, 7, 8, 9] rfl rfl rfl rfl (by decide) rfl rfl rfl rfl rfl hl.1 rfl (Nat.le_of_ble_eq_true rfl) dX7_decidedRows_8 ⟨Nat.le_of_ble_eq_true rfl, Nat.le_of_ble_eq_true rfl⟩ (fun H locs hP hD hS => ?_)
      refine lv_icmp_ge (tgt := 39) hx hb dX7_decidedRows_11 (by decide) (fun hc => ?_) (fun hc => ?_)
      · have hrun := it_t hc hrun
        refine lv_iload_n hx hb dX7_decidedRows_39 rfl (lv_at hl 3 rfl) ?_
        obtain rfl := Option.some.inj hrun
        exact hret _ _ _ _ rfl dX7_decidedRows_40 hP hD hS
      · have hrun := it_f hc hrun
        refine lv_iload_n hx hb dX7_decidedRows_14 rfl (lv_at hl 3 rfl) ?_
        refine lv_aload_n hx hb dX7_decidedRows_15 rfl (lv_at hl 0 rfl) ?_
        refine lv_iload_n hx hb dX7_decidedRows_16 rfl (lv_at hl 1 rfl) ?_
        refine lv_iload hx hb dX7_decidedRows_17 (lv_at hl 4 rfl) ?_
        obtain ⟨q_2, hq_2, hrun⟩ := bd_some hrun
        refine cI_callV (As := [.int x1, .int x4]) (rest := [.int x3]) (wr := []) (wN := (wX7 kI kJ to ta z nst his len txt thr god prm npr cov siz pts rea pla bef has)) (ci := 6) (q0 := 0) hE (c_X7_decided l D kI kJ kS to ta x1 x4 z nst his len txt thr god prm npr cov siz pts rea pla bef has hq_2) (cwV 2 hts gX7_decidedRows_X7_decided rfl rfl rfl (by decide +kernel) ⟨Nat.le_of_ble_eq_true rfl, Nat.le_of_ble_eq_true rfl⟩) hP hD hS [0, 1, 2, 3, 4, 5, 6, 7, 8, 9] [] [0, 1, 2, 3, 4, 5, 6, 7, 8, 9] rfl rfl rfl rfl (by decide) rfl rfl rfl rfl rfl hl.1 rfl (Nat.le_of_ble_eq_true rfl) dX7_decidedRows_19 ⟨Nat.le_of_ble_eq_true rfl, Nat.le_of_ble_eq_true rfl⟩ (fun H locs hP hD hS => ?_)
        refine lv_iload_n hx hb dX7_decidedRows_22 rfl (lv_at hl 2 rfl) ?_
        refine lv_icmp_ne (tgt := 30) hx hb dX7_decidedRows_23 (by decide) (fun hc => ?_) (fun hc => ?_)
        · have hrun := it_f hc hrun
          refine lv_iconst (v := 0) hx hb dX7_decidedRows_30 (by decide) ?_
          exact c_J31 x1 x2 x4 0 x3 (fX7_decidedRows_L5 x1 x2 z n) ih  hrun _ _ _ hP hD hS (lv_sub hl [0, 1, 2, 4] rfl)
        · have hrun := it_t hc hrun
          refine lv_iconst (v := 1) hx hb dX7_decidedRows_26 (by decide) ?_
          refine lv_goto (tgt := 31) hx hb dX7_decidedRows_27 (by decide) ?_
          exact c_J31 x1 x2 x4 1 x3 (fX7_decidedRows_L5 x1 x2 z n) ih  hrun _ _ _ hP hD hS (lv_sub hl [0, 1, 2, 4] rfl)
  unfold fX7_decidedRows at hrun
  refine lv_iconst (v := 0) hx hb dX7_decidedRows_0 (by decide) ?_
  refine lv_istore_n (lv' := [(3, .int 0), (0, .ref to), (1, .int x1), (2, .int x2)]) hx hb dX7_decidedRows_1 rfl hl (by decide) rfl (fun ls hl => ?_)
  refine lv_iconst (v := 0) hx hb dX7_decidedRows_2 (by decide) ?_
  refine lv_istore (lv' := [(4, .int 0), (3, .int 0), (0, .ref to), (1, .int x1), (2, .int x2)]) hx hb dX7_decidedRows_3 hl (by decide) rfl (fun ls hl => ?_)
  exact c_L5 x1 x2 5000 0 0  hrun _ _ _ hP hD hS (lv_sub hl [2, 3, 4, 1, 0] rfl)
