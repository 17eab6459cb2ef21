/-! ===== X7_undecided ===== -/
set_option maxHeartbeats 4000000 in
set_option maxRecDepth 100000 in
theorem c_X7_undecided (l : Launch) (D : va_G) (kI kJ kS : ClassId) (to : Nat) (ta : Nat → Nat) (z : (Nat → Int32)) (nst : Int32) (his : (Nat → Int32)) (len : Int32) (txt : (Nat → Int32)) (thr : Int32) (god : (Nat → Int64)) (prm : (Nat → Int32)) (npr : Int32) (cov : (Nat → Int32)) (siz : (Nat → Int32)) (pts : (Nat → Int32)) (rea : Int32) (pla : Int32) (bef : (Nat → Int32)) (has : Int64) {r : Int32} (hrun : fX7_undecided z = some r) : cI l D (tyL kI kJ kS) false yX7_undecided wsX7_undecided (rmk 3 0 0 71) [.ref to] (wX7 kI kJ to ta z nst his len txt thr god prm npr cov siz pts rea pla bef has) (wX7 kI kJ to ta z nst his len txt thr god prm npr cov siz pts rea pla bef has) r := by
  refine cI_of (cc := cX7_undecided) (maxL := 3) (by decide) rfl (Nat.le_of_ble_eq_true rfl) ?_
  intro p e s m av below meth c A Q ls hE hP hD hS hl hret
  have hE : ent_ p s m av meth c RX7 cX7_undecided 3 (some .int) wsX7_undecided (tyL kI kJ kS) D A false := hE
  obtain ⟨hx, hb, hml, hown, hts, hr, hlocks, hK, hA, hst⟩ := id hE
  have hl : lv_has ls 3 [(0, .ref to)] := hl
  have c_L4 : ∀  (n : Nat) (x1 : Int32) (x2 : Int32), fX7_undecided_L4 z n x1 x2 = some r → wAt p l e (rmk 3 0 0 71) s m av below meth c D A 3 0 0 Q 4 [] [(0, .ref to), (1, .int x1), (2, .int x2)] (wX7 kI kJ to ta z nst his len txt thr god prm npr cov siz pts rea pla bef has) := by
    intro  n
    induction n with
    | zero =>
      intro x1 x2 hrun
      rw [fX7_undecided_L4] at hrun
      cases hrun
    | succ n ih =>
      intro x1 x2 hrun H locs ls hP hD hS hl
      rw [fX7_undecided_L4] at hrun
      refine lv_iload_n hx hb dX7_undecided_4 rfl (lv_at hl 2 rfl) ?_
      refine lv_iconst (v := 4) hx hb dX7_undecided_5 (by decide) ?_
      refine lv_icmp_ge (tgt := 24) hx hb dX7_undecided_6 (by decide) (fun hc => ?_) (fun hc => ?_)
      · have hrun := it_t hc hrun
        refine lv_iload_n hx hb dX7_undecided_24 rfl (lv_at hl 1 rfl) ?_
        obtain rfl := Option.some.inj hrun
        exact hret _ _ _ _ rfl dX7_undecided_25 hP hD hS
      · have hrun := it_f hc hrun
        refine lv_iload_n hx hb dX7_undecided_9 rfl (lv_at hl 1 rfl) ?_
        refine lv_aload_n hx hb dX7_undecided_10 rfl (lv_at hl 0 rfl) ?_
        refine lv_iload_n hx hb dX7_undecided_11 rfl (lv_at hl 2 rfl) ?_
        refine lv_iconst (v := 3) hx hb dX7_undecided_12 (by decide) ?_
        obtain ⟨q_1, hq_1, hrun⟩ := bd_some hrun
        refine cI_callV (As := [.int x2, .int 3]) (rest := [.int x1]) (wr := []) (wN := (wX7 kI kJ to ta z nst his len txt thr god prm npr cov siz pts rea pla bef has)) (ci := 6) (q0 := 0) hE (c_X7_decidedRows l D kI kJ kS to ta x2 3 z nst his len txt thr god prm npr cov siz pts rea pla bef has hq_1) (cwV 2 hts gX7_undecided_X7_decidedRows rfl rfl rfl (by decide +kernel) ⟨Nat.le_of_ble_eq_true rfl, Nat.le_of_ble_eq_true rfl⟩) hP hD hS [0, 1, 2, 3, 4, 5, 6, 7, 8, 9] [] [0, 1, 2, 3, 4, 5, 6, 7, 8, 9] rfl rfl rfl rfl (by decide) rfl rfl rfl rfl rfl hl.1 rfl (Nat.le_of_ble_eq_true rfl) dX7_undecided_13 ⟨Nat.le_of_ble_eq_true rfl, Nat.le_of_ble_eq_true rfl⟩ (fun H locs hP hD hS => ?_)
        refine lv_iadd hx hb dX7_undecided_16 ?_
        refine lv_istore_n (lv' := [(1, .int (x1 + q_1)), (0, .ref to), (2, .int x2)]) hx hb dX7_undecided_17 rfl hl (by decide) rfl (fun ls hl => ?_)
        refine lv_iinc (v := x2 + 1) (lv' := [(2, .int (x2 + 1)), (1, .int (x1 + q_1)), (0, .ref to)]) hx hb dX7_undecided_18 hl (k := 2) rfl rfl (by decide) rfl (fun ls hl => ?_)
        refine lv_goto (tgt := 4) hx hb dX7_undecided_21 (by decide) ?_
        exact ih (x1 + q_1) (x2 + 1)  hrun _ _ _ hP hD hS (lv_sub hl [2, 1, 0] rfl)
  unfold fX7_undecided at hrun
  refine lv_iconst (v := 0) hx hb dX7_undecided_0 (by decide) ?_
  refine lv_istore_n (lv' := [(1, .int 0), (0, .ref to)]) hx hb dX7_undecided_1 rfl hl (by decide) rfl (fun ls hl => ?_)
  refine lv_iconst (v := 0) hx hb dX7_undecided_2 (by decide) ?_
  refine lv_istore_n (lv' := [(2, .int 0), (1, .int 0), (0, .ref to)]) hx hb dX7_undecided_3 rfl hl (by decide) rfl (fun ls hl => ?_)
  exact c_L4  5000 0 0  hrun _ _ _ hP hD hS (lv_sub hl [2, 1, 0] rfl)
/-! ===== X7_rowsOf ===== -/
set_option maxHeartbeats 4000000 in
set_option maxRecDepth 100000 in
theorem c_X7_rowsOf (l : Launch) (D : va_G) (kI kJ kS : ClassId) (to : Nat) (ta : Nat → Nat) (x1 : Int32) (z : (Nat → Int32)) (nst : Int32) (his : (Nat → Int32)) (len : Int32) (txt : (Nat → Int32)) (thr : Int32) (god : (Nat → Int64)) (prm : (Nat → Int32)) (npr : Int32) (cov : (Nat → Int32)) (siz : (Nat → Int32)) (pts : (Nat → Int32)) (rea : Int32) (pla : Int32) (bef : (Nat → Int32)) (has : Int64) {r : Int64} (hrun : fX7_rowsOf z x1 = some r) : cL l D (tyL kI kJ kS) false yX7_rowsOf wsX7_rowsOf (rmk 1 0 0 20) [.ref to, .int x1] (wX7 kI kJ to ta z nst his len txt thr god prm npr cov siz pts rea pla bef has) (wX7 kI kJ to ta z nst his len txt thr god prm npr cov siz pts rea pla bef has) r := by
  refine cL_of (cc := cX7_rowsOf) (maxL := 7) (by decide) rfl (Nat.le_of_ble_eq_true rfl) ?_
  intro p e s m av below meth c A Q ls hE hP hD hS hl hret
  have hE : ent_ p s m av meth c RX7 cX7_rowsOf 7 (some .long) wsX7_rowsOf (tyL kI kJ kS) D A false := hE
  obtain ⟨hx, hb, hml, hown, hts, hr, hlocks, hK, hA, hst⟩ := id hE
  have hl : lv_has ls 7 [(0, .ref to), (1, .int x1)] := hl
  have c_J43 : ∀ (x2 : Int32) (x3 : Int32) (x6 : Int32) (s0 : Int64) (s1 : Int64) (k16 : Int64 → Int32 → Option (Int64)) (hk16 : (∀ (x4 : Int64) (x6 : Int32), k16 x4 x6 = some r → wAt p l e (rmk 1 0 0 20) s m av below meth c D A 7 0 0 Q 16 [] [(0, .ref to), (2, .int x2), (3, .int x3), (4, .long x4), (6, .int x6)] (wX7 kI kJ to ta z nst his len txt thr god prm npr cov siz pts rea pla bef has))), fX7_rowsOf_J43 x2 x3 x6 s0 s1 z k16 = some r → wAt p l e (rmk 1 0 0 20) s m av below meth c D A 7 0 0 Q 43 [.long s0, .long s1] [(0, .ref to), (2, .int x2), (3, .int x3), (6, .int x6)] (wX7 kI kJ to ta z nst his len txt thr god prm npr cov siz pts rea pla bef has) := by
    intro x2 x3 x6 s0 s1 k16 hk16 hrun H locs ls hP hD hS hl
    unfold fX7_rowsOf_J43 at hrun
    refine lv_lor hx hb dX7_rowsOf_43 ?_
    refine lv_lstore (lv' := [(4, .long (s1 ||| s0)), (0, .ref to), (2, .int x2), (3, .int x3), (6, .int x6)]) hx hb dX7_rowsOf_44 hl (by decide) rfl (fun ls hl => ?_)
    refine lv_iinc (v := x6 + 1) (lv' := [(6, .int (x6 + 1)), (4, .long (s1 ||| s0)), (0, .ref to), (2, .int x2), (3, .int x3)]) hx hb dX7_rowsOf_46 hl (k := 4) rfl rfl (by decide) rfl (fun ls hl => ?_)
    refine lv_goto (tgt := 16) hx hb dX7_rowsOf_49 (by decide) ?_
    exact hk16 (s1 ||| s0) (x6 + 1)  hrun _ _ _ hP hD hS (lv_sub hl [2, 3, 4, 1, 0] rfl)
  have c_L16 : ∀ (x2 : Int32) (x3 : Int32) (n : Nat) (x4 : Int64) (x6 : Int32), fX7_rowsOf_L16 x2 x3 z n x4 x6 = some r → wAt p l e (rmk 1 0 0 20) s m av below meth c D A 7 0 0 Q 16 [] [(0, .ref to), (2, .int x2), (3, .int x3), (4, .long x4), (6, .int x6)] (wX7 kI kJ to ta z nst his len txt thr god prm npr cov siz pts rea pla bef has) := by
    intro x2 x3 n
    induction n with
    | zero =>
      intro x4 x6 hrun
      rw [fX7_rowsOf_L16] at hrun
      cases hrun
    | succ n ih =>
      intro x4 x6 hrun H locs ls hP hD hS hl
      rw [fX7_rowsOf_L16] at hrun
      refine lv_iload hx hb dX7_rowsOf_16 (lv_at hl 4 rfl) ?_
      refine lv_aload_n hx hb dX7_rowsOf_18 rfl (lv_at hl 0 rfl) ?_
      obtain ⟨q_1, hq_1, hrun⟩ := bd_some hrun
      refine cI_callV (As := []) (rest := [.int x6]) (wr := []) (wN := (wX7 kI kJ to ta z nst his len txt thr god prm npr cov siz pts rea pla bef has)) (ci := 6) (q0 := 0) hE (c_X7_rows l D kI kJ kS to ta  z nst his len txt thr god prm npr cov siz pts rea pla bef has hq_1) (cwV 0 hts gX7_rowsOf_X7_rows rfl rfl rfl (by decide +kernel) ⟨Nat.le_of_ble_eq_true rfl, Nat.le_of_ble_eq_true rfl⟩) hP hD hS [0, 1, 2, 3, 4, 5, 6, 7, 8, 9] [] [0, 1, 2, 3, 4, 5, 6, 7, 8, 9] rfl rfl rfl rfl (by decide) rfl rfl rfl rfl rfl hl.1 rfl (Nat.le_of_ble_eq_true rfl) dX7_rowsOf_19 ⟨Nat.le_of_ble_eq_true rfl, Nat.le_of_ble_eq_true rfl⟩ (fun H locs hP hD hS => ?_)
      refine lv_icmp_ge (tgt := 52) hx hb dX7_rowsOf_22 (by decide) (fun hc => ?_) (fun hc => ?_)
      · have hrun := it_t hc hrun
        refine lv_lload hx hb dX7_rowsOf_52 (lv_at hl 3 rfl) ?_
        obtain rfl := Option.some.inj hrun
        exact hret _ _ _ _ dX7_rowsOf_54 hP hD hS
      · have hrun := it_f hc hrun
        refine lv_lload hx hb dX7_rowsOf_25 (lv_at hl 3 rfl) ?_
        refine lv_iload hx hb dX7_rowsOf_27 (lv_at hl 4 rfl) ?_
        refine lv_iload_n hx hb dX7_rowsOf_29 rfl (lv_at hl 1 rfl) ?_
        refine lv_iand hx hb dX7_rowsOf_30 ?_
        refine lv_iload_n hx hb dX7_rowsOf_31 rfl (lv_at hl 2 rfl) ?_
        refine lv_icmp_ne (tgt := 42) hx hb dX7_rowsOf_32 (by decide) (fun hc => ?_) (fun hc => ?_)
        · have hrun := it_f hc hrun
          refine lv_lconst (v := 0) hx hb dX7_rowsOf_42 (by decide) ?_
          exact c_J43 x2 x3 x6 0 x4 (fX7_rowsOf_L16 x2 x3 z n) ih  hrun _ _ _ hP hD hS (lv_sub hl [0, 1, 2, 4] rfl)
        · have hrun := it_t hc hrun
          refine lv_lconst (v := 1) hx hb dX7_rowsOf_35 (by decide) ?_
          refine lv_iload hx hb dX7_rowsOf_36 (lv_at hl 4 rfl) ?_
          refine lv_lshl hx hb dX7_rowsOf_38 rfl ?_
          refine lv_goto (tgt := 43) hx hb dX7_rowsOf_39 (by decide) ?_
          exact c_J43 x2 x3 x6 (lsl_ 1 x6) x4 (fX7_rowsOf_L16 x2 x3 z n) ih  hrun _ _ _ hP hD hS (lv_sub hl [0, 1, 2, 4] rfl)
  unfold fX7_rowsOf at hrun
  refine lv_iload_n hx hb dX7_rowsOf_0 rfl (lv_at hl 1 rfl) ?_
  refine lv_bipush (v := 64) hx hb dX7_rowsOf_1 (by decide) ?_
  refine lv_idiv hx hb dX7_rowsOf_3 (by decide) ?_
  refine lv_istore_n (lv' := [(2, .int (x1 / 64)), (0, .ref to), (1, .int x1)]) hx hb dX7_rowsOf_4 rfl hl (by decide) rfl (fun ls hl => ?_)
  refine lv_iload_n hx hb dX7_rowsOf_5 rfl (lv_at hl 2 rfl) ?_
  refine lv_bipush (v := 64) hx hb dX7_rowsOf_6 (by decide) ?_
  refine lv_irem hx hb dX7_rowsOf_8 (by decide) ?_
  refine lv_istore_n (lv' := [(3, .int (x1 - x1 / 64 * 64)), (2, .int (x1 / 64)), (0, .ref to), (1, .int x1)]) hx hb dX7_rowsOf_9 rfl hl (by decide) rfl (fun ls hl => ?_)
  refine lv_lconst (v := 0) hx hb dX7_rowsOf_10 (by decide) ?_
  refine lv_lstore (lv' := [(4, .long 0), (3, .int (x1 - x1 / 64 * 64)), (2, .int (x1 / 64)), (0, .ref to), (1, .int x1)]) hx hb dX7_rowsOf_11 hl (by decide) rfl (fun ls hl => ?_)
  refine lv_iconst (v := 0) hx hb dX7_rowsOf_13 (by decide) ?_
  refine lv_istore (lv' := [(6, .int 0), (4, .long 0), (3, .int (x1 - x1 / 64 * 64)), (2, .int (x1 / 64)), (0, .ref to), (1, .int x1)]) hx hb dX7_rowsOf_14 hl (by decide) rfl (fun ls hl => ?_)
  exact c_L16 (x1 / 64) (x1 - x1 / 64 * 64) 5000 0 0  hrun _ _ _ hP hD hS (lv_sub hl [4, 3, 2, 1, 0] rfl)
/-! ===== X7_isProduct ===== -/
theorem mX7_isProduct_1 : Cond.fieldLink RX7 7 "GateMazeModel" "z" "[I" ∈ wsX7_isProduct := List.mem_of_getElem? (i := 1) rfl
theorem iX7_isProduct_X7 : ∀ w ∈ u_ws RX7 TX7 16, w ∈ wsX7_isProduct := fun w h => List.mem_cons_of_mem _ (List.mem_append_right _ h)
set_option maxHeartbeats 4000000 in
set_option maxRecDepth 100000 in
theorem c_X7_isProduct (l : Launch) (D : va_G) (kI kJ kS : ClassId) (to : Nat) (ta : Nat → Nat) (x1 : Int32) (z : (Nat → Int32)) (nst : Int32) (his : (Nat → Int32)) (len : Int32) (txt : (Nat → Int32)) (thr : Int32) (god : (Nat → Int64)) (prm : (Nat → Int32)) (npr : Int32) (cov : (Nat → Int32)) (siz : (Nat → Int32)) (pts : (Nat → Int32)) (rea : Int32) (pla : Int32) (bef : (Nat → Int32)) (has : Int64) {r : Int32} (hrun : fX7_isProduct z x1 = some r) : cI l D (tyL kI kJ kS) false yX7_isProduct wsX7_isProduct (rmk 0 0 0 0) [.ref to, .int x1] (wX7 kI kJ to ta z nst his len txt thr god prm npr cov siz pts rea pla bef has) (wX7 kI kJ to ta z nst his len txt thr god prm npr cov siz pts rea pla bef has) r := by
  refine cI_of (cc := cX7_isProduct) (maxL := 3) (by decide) rfl (Nat.le_of_ble_eq_true rfl) ?_
  intro p e s m av below meth c A Q ls hE hP hD hS hl hret
  have hE : ent_ p s m av meth c RX7 cX7_isProduct 3 (some .boolean) wsX7_isProduct (tyL kI kJ kS) D A false := hE
  obtain ⟨hx, hb, hml, hown, hts, hr, hlocks, hK, hA, hst⟩ := id hE
  have hl : lv_has ls 3 [(0, .ref to), (1, .int x1)] := hl
  unfold fX7_isProduct at hrun
  refine lv_iload_n hx hb dX7_isProduct_0 rfl (lv_at hl 1 rfl) ?_
  refine lv_bipush (v := 64) hx hb dX7_isProduct_1 (by decide) ?_
  refine lv_idiv hx hb dX7_isProduct_3 (by decide) ?_
  refine lv_istore_n (lv' := [(2, .int (x1 / 64)), (0, .ref to), (1, .int x1)]) hx hb dX7_isProduct_4 rfl hl (by decide) rfl (fun ls hl => ?_)
  refine lv_iload_n hx hb dX7_isProduct_5 rfl (lv_at hl 0 rfl) ?_
  refine lv_aload_n hx hb dX7_isProduct_6 rfl (lv_at hl 1 rfl) ?_
  refine va_get (D := D) (ci := 6) (v := .ref (ta 0)) (C := RX7) (T := TX7) (N := 16) hx hb hts iX7_isProduct_X7 hown hK hP 0 rfl rfl 0 (by decide) (hts _ mX7_isProduct_1) (fun _ h9 => h9) rfl dX7_isProduct_7 ?_
  refine lv_iconst (v := 1) hx hb dX7_isProduct_10 (by decide) ?_
  obtain ⟨hin, hrun⟩ := gd_some hrun
  refine va_iald hx hb hK hP 1 0 rfl rfl hin dX7_isProduct_11 ?_
  refine lv_iconst (v := (-1)) hx hb dX7_isProduct_12 (by decide) ?_
  refine lv_ixor hx hb dX7_isProduct_13 ?_
  refine lv_iand hx hb dX7_isProduct_14 ?_
  refine lv_if_ne (tgt := 33) hx hb dX7_isProduct_15 (by decide) (fun hc => ?_) (fun hc => ?_)
  · have hrun := it_f hc hrun
    refine lv_iconst (v := 0) hx hb dX7_isProduct_33 (by decide) ?_
    obtain rfl := Option.some.inj hrun
    exact hret _ _ _ _ (show narrow .boolean (.int 0) = .int 0 from rfl) dX7_isProduct_34 hP hD hS
  · have hrun := it_t hc hrun
    refine lv_iload_n hx hb dX7_isProduct_18 rfl (lv_at hl 2 rfl) ?_
    refine lv_bipush (v := 64) hx hb dX7_isProduct_19 (by decide) ?_
    refine lv_irem hx hb dX7_isProduct_21 (by decide) ?_
    refine lv_iload_n hx hb dX7_isProduct_22 rfl (lv_at hl 0 rfl) ?_
    refine lv_iconst (v := (-1)) hx hb dX7_isProduct_23 (by decide) ?_
    refine lv_ixor hx hb dX7_isProduct_24 ?_
    refine lv_iand hx hb dX7_isProduct_25 ?_
    refine lv_if_ne (tgt := 33) hx hb dX7_isProduct_26 (by decide) (fun hc => ?_) (fun hc => ?_)
    · have hrun := it_f hc hrun
      refine lv_iconst (v := 0) hx hb dX7_isProduct_33 (by decide) ?_
      obtain rfl := Option.some.inj hrun
      exact hret _ _ _ _ (show narrow .boolean (.int 0) = .int 0 from rfl) dX7_isProduct_34 hP hD hS
    · have hrun := it_t hc hrun
      refine lv_iconst (v := 1) hx hb dX7_isProduct_29 (by decide) ?_
      refine lv_goto (tgt := 34) hx hb dX7_isProduct_30 (by decide) ?_
      obtain rfl := Option.some.inj hrun
      exact hret _ _ _ _ (show narrow .boolean (.int 1) = .int 1 from rfl) dX7_isProduct_34 hP hD hS
/-! ===== X7_layGood ===== -/
theorem mX7_layGood_1 : Cond.fieldLink RX7 19 "GateMazeModel" "good" "[J" ∈ wsX7_layGood := List.mem_of_getElem? (i := 1) rfl
theorem iX7_layGood_X7 : ∀ w ∈ u_ws RX7 TX7 16, w ∈ wsX7_layGood := fun w h => List.mem_cons_of_mem _ (List.mem_append_right _ h)
set_option maxHeartbeats 4000000 in
set_option maxRecDepth 100000 in
theorem c_X7_layGood (l : Launch) (D : va_G) (kI kJ kS : ClassId) (to : Nat) (ta : Nat → Nat) (x1 : Int32) (z : (Nat → Int32)) (nst : Int32) (his : (Nat → Int32)) (len : Int32) (txt : (Nat → Int32)) (thr : Int32) (god : (Nat → Int64)) (prm : (Nat → Int32)) (npr : Int32) (cov : (Nat → Int32)) (siz : (Nat → Int32)) (pts : (Nat → Int32)) (rea : Int32) (pla : Int32) (bef : (Nat → Int32)) (has : Int64) {r : Nat → Int64} (hrun : fX7_layGood z god x1 = some r) : cV l D (tyL kI kJ kS) false yX7_layGood wsX7_layGood (rmk 2 0 0 47) [.ref to, .int x1] (wX7 kI kJ to ta z nst his len txt thr god prm npr cov siz pts rea pla bef has) (wX7 kI kJ to ta z nst his len txt thr r prm npr cov siz pts rea pla bef has) := by
  refine cV_of (cc := cX7_layGood) (maxL := 7) (by decide) rfl (Nat.le_of_ble_eq_true rfl) ?_
  intro p e s m av below meth c A Q ls hE hP hD hS hl hret
  have hE : ent_ p s m av meth c RX7 cX7_layGood 7 none wsX7_layGood (tyL kI kJ kS) D A false := hE
  obtain ⟨hx, hb, hml, hown, hts, hr, hlocks, hK, hA, hst⟩ := id hE
  have hl : lv_has ls 7 [(0, .ref to), (1, .int x1)] := hl
  have c_J33 : ∀ (x1 : Int32) (x4 : Int32) (s0 : Int64) (s1 : Int64) (god : (Nat → Int64)) (k5 : Int64 → Int32 → Option (Nat → Int64)) (hk5 : (∀ (x2 : Int64) (x4 : Int32), k5 x2 x4 = some r → wAt p l e (rmk 2 0 0 47) s m av below meth c D A 7 0 0 Q 5 [] [(0, .ref to), (1, .int x1), (2, .long x2), (4, .int x4)] (wX7 kI kJ to ta z nst his len txt thr god prm npr cov siz pts rea pla bef has))), fX7_layGood_J33 x1 x4 s0 s1 z god k5 = some r → wAt p l e (rmk 2 0 0 47) s m av below meth c D A 7 0 0 Q 33 [.long s0, .long s1] [(0, .ref to), (1, .int x1), (4, .int x4)] (wX7 kI kJ to ta z nst his len txt thr god prm npr cov siz pts rea pla bef has) := by
    intro x1 x4 s0 s1 god k5 hk5 hrun H locs ls hP hD hS hl
    unfold fX7_layGood_J33 at hrun
    refine lv_lor hx hb dX7_layGood_33 ?_
    refine lv_lstore_n (lv' := [(2, .long (s1 ||| s0)), (0, .ref to), (1, .int x1), (4, .int x4)]) hx hb dX7_layGood_34 rfl hl (by decide) rfl (fun ls hl => ?_)
    refine lv_iinc (v := x4 + 1) (lv' := [(4, .int (x4 + 1)), (2, .long (s1 ||| s0)), (0, .ref to), (1, .int x1)]) hx hb dX7_layGood_35 hl (k := 3) rfl rfl (by decide) rfl (fun ls hl => ?_)
    refine lv_goto (tgt := 5) hx hb dX7_layGood_38 (by decide) ?_
    exact hk5 (s1 ||| s0) (x4 + 1)  hrun _ _ _ hP hD hS (lv_sub hl [2, 3, 1, 0] rfl)
  have c_J94 : ∀ (x2 : Int64) (x4 : Int32) (s0 : Int64) (s1 : Int32) (god : (Nat → Int64)) (k44 : Int32 → (Nat → Int64) → Option (Nat → Int64)) (hk44 : (∀ (x4 : Int32) (god : (Nat → Int64)), k44 x4 god = some r → wAt p l e (rmk 2 0 0 47) s m av below meth c D A 7 0 0 Q 44 [] [(0, .ref to), (2, .long x2), (4, .int x4)] (wX7 kI kJ to ta z nst his len txt thr god prm npr cov siz pts rea pla bef has))), fX7_layGood_J94 x2 x4 s0 s1 z god k44 = some r → wAt p l e (rmk 2 0 0 47) s m av below meth c D A 7 0 0 Q 94 [.long s0, .int s1, .ref (ta 3)] [(0, .ref to), (2, .long x2), (4, .int x4)] (wX7 kI kJ to ta z nst his len txt thr god prm npr cov siz pts rea pla bef has) := by
    intro x2 x4 s0 s1 god k44 hk44 hrun H locs ls hP hD hS hl
    unfold fX7_layGood_J94 at hrun
    obtain ⟨hin, hrun⟩ := gd_some hrun
    refine va_last hx hb hK hP hD hS 4 1 rfl rfl hin dX7_layGood_94 (fun H locs hP hD hS => ?_)
    have hP : va_P D vwCl (wX7 kI kJ to ta z nst his len txt thr (vp_updL god s1.toNatClampNeg s0) prm npr cov siz pts rea pla bef has) H := hP
    have hD : va_D A (wX7 kI kJ to ta z nst his len txt thr (vp_updL god s1.toNatClampNeg s0) prm npr cov siz pts rea pla bef has) := hD
    refine lv_iinc (v := x4 + 1) (lv' := [(4, .int (x4 + 1)), (0, .ref to), (2, .long x2)]) hx hb dX7_layGood_95 hl (k := 2) rfl rfl (by decide) rfl (fun ls hl => ?_)
    refine lv_goto (tgt := 44) hx hb dX7_layGood_98 (by decide) ?_
    exact hk44 (x4 + 1) (vp_updL god s1.toNatClampNeg s0)  hrun _ _ _ hP hD hS (lv_sub hl [1, 2, 0] rfl)
  have c_J71 : ∀ (x2 : Int64) (x4 : Int32) (s0 : Int64) (god : (Nat → Int64)) (k44 : Int32 → (Nat → Int64) → Option (Nat → Int64)) (hk44 : (∀ (x4 : Int32) (god : (Nat → Int64)), k44 x4 god = some r → wAt p l e (rmk 2 0 0 47) s m av below meth c D A 7 0 0 Q 44 [] [(0, .ref to), (2, .long x2), (4, .int x4)] (wX7 kI kJ to ta z nst his len txt thr god prm npr cov siz pts rea pla bef has))), fX7_layGood_J71 x2 x4 s0 z god k44 = some r → wAt p l e (rmk 2 0 0 47) s m av below meth c D A 7 0 0 Q 71 [.long s0] [(0, .ref to), (2, .long x2), (4, .int x4)] (wX7 kI kJ to ta z nst his len txt thr god prm npr cov siz pts rea pla bef has) := by
    intro x2 x4 s0 god k44 hk44 hrun H locs ls hP hD hS hl
    unfold fX7_layGood_J71 at hrun
    refine lv_lstore (lv' := [(5, .long s0), (0, .ref to), (2, .long x2), (4, .int x4)]) hx hb dX7_layGood_71 hl (by decide) rfl (fun ls hl => ?_)
    refine lv_aload_n hx hb dX7_layGood_73 rfl (lv_at hl 1 rfl) ?_
    refine va_get (D := D) (ci := 6) (v := .ref (ta 3)) (C := RX7) (T := TX7) (N := 16) hx hb hts iX7_layGood_X7 hown hK hP 0 rfl rfl 6 (by decide) (hts _ mX7_layGood_1) (fun _ h9 => h9) rfl dX7_layGood_74 ?_
    refine lv_iload hx hb dX7_layGood_77 (lv_at hl 3 rfl) ?_
    refine lv_lload hx hb dX7_layGood_79 (lv_at hl 0 rfl) ?_
    refine lv_lload_n hx hb dX7_layGood_81 rfl (lv_at hl 2 rfl) ?_
    refine lv_land hx hb dX7_layGood_82 ?_
    refine lv_lconst (v := 0) hx hb dX7_layGood_83 (by decide) ?_
    refine W.lcmp hx hb dX7_layGood_84 ?_
    refine lv_if_ne (tgt := 93) hx hb dX7_layGood_85 (by decide) (fun hc => ?_) (fun hc => ?_)
    · have hrun := it_f hc hrun
      refine lv_lconst (v := 0) hx hb dX7_layGood_93 (by decide) ?_
      exact c_J94 x2 x4 0 x4 god k44 hk44  hrun _ _ _ hP hD hS (lv_sub hl [1, 2, 3] rfl)
    · have hrun := it_t hc hrun
      refine lv_lload hx hb dX7_layGood_88 (lv_at hl 0 rfl) ?_
      refine lv_goto (tgt := 94) hx hb dX7_layGood_90 (by decide) ?_
      exact c_J94 x2 x4 s0 x4 god k44 hk44  hrun _ _ _ hP hD hS (lv_sub hl [1, 2, 3] rfl)
  have c_L44 : ∀ (x2 : Int64) (n : Nat) (x4 : Int32) (god : (Nat → Int64)), fX7_layGood_L44 x2 z n x4 god = some r → wAt p l e (rmk 2 0 0 47) s m av below meth c D A 7 0 0 Q 44 [] [(0, .ref to), (2, .long x2), (4, .int x4)] (wX7 kI kJ to ta z nst his len txt thr god prm npr cov siz pts rea pla bef has) := by
    intro x2 n
    induction n with
    | zero =>
      intro x4 god hrun
      rw [fX7_layGood_L44] at hrun
      cases hrun
    | succ n ih =>
      intro x4 god hrun H locs ls hP hD hS hl
      rw [fX7_layGood_L44] at hrun
      refine lv_iload hx hb dX7_layGood_44 (lv_at hl 2 rfl) ?_
      refine lv_sipush (v := 4096) hx hb dX7_layGood_46 (by decide) ?_
      refine lv_icmp_ge (tgt := 101) hx hb dX7_layGood_49 (by decide) (fun hc => ?_) (fun hc => ?_)
      · have hrun := it_t hc hrun
        obtain rfl := Option.some.inj hrun
        exact hret _ _ _ _ dX7_layGood_101 hP hD hS
      · have hrun := it_f hc hrun
        refine lv_aload_n hx hb dX7_layGood_52 rfl (lv_at hl 0 rfl) ?_
        refine lv_iload hx hb dX7_layGood_53 (lv_at hl 2 rfl) ?_
        obtain ⟨q_1, hq_1, hrun⟩ := bd_some hrun
        refine cI_callV (As := [.int x4]) (rest := []) (wr := []) (wN := (wX7 kI kJ to ta z nst his len txt thr god prm npr cov siz pts rea pla bef has)) (ci := 6) (q0 := 0) hE (c_X7_isProduct l D kI kJ kS to ta x4 z nst his len txt thr god prm npr cov siz pts rea pla bef has hq_1) (cwV 1 hts gX7_layGood_X7_isProduct rfl rfl rfl (by decide +kernel) ⟨Nat.le_of_ble_eq_true rfl, Nat.le_of_ble_eq_true rfl⟩) hP hD hS [0, 1, 2, 3, 4, 5, 6, 7, 8, 9] [] [0, 1, 2, 3, 4, 5, 6, 7, 8, 9] rfl rfl rfl rfl (by decide) rfl rfl rfl rfl rfl hl.1 rfl (Nat.le_of_ble_eq_true rfl) dX7_layGood_55 ⟨Nat.le_of_ble_eq_true rfl, Nat.le_of_ble_eq_true rfl⟩ (fun H locs hP hD hS => ?_)
        refine lv_if_eq (tgt := 70) hx hb dX7_layGood_58 (by decide) (fun hc => ?_) (fun hc => ?_)
        · have hrun := it_t hc hrun
          refine lv_lconst (v := 0) hx hb dX7_layGood_70 (by decide) ?_
          exact c_J71 x2 x4 0 god (fX7_layGood_L44 x2 z n) ih  hrun _ _ _ hP hD hS (lv_sub hl [0, 1, 2] rfl)
        · have hrun := it_f hc hrun
          refine lv_aload_n hx hb dX7_layGood_61 rfl (lv_at hl 0 rfl) ?_
          refine lv_iload hx hb dX7_layGood_62 (lv_at hl 2 rfl) ?_
          obtain ⟨q_2, hq_2, hrun⟩ := bd_some hrun
          refine cL_callV (As := [.int x4]) (rest := []) (wr := []) (wN := (wX7 kI kJ to ta z nst his len txt thr god prm npr cov siz pts rea pla bef has)) (ci := 6) (q0 := 0) hE (c_X7_rowsOf l D kI kJ kS to ta x4 z nst his len txt thr god prm npr cov siz pts rea pla bef has hq_2) (cwV 1 hts gX7_layGood_X7_rowsOf rfl rfl rfl (by decide +kernel) ⟨Nat.le_of_ble_eq_true rfl, Nat.le_of_ble_eq_true rfl⟩) hP hD hS [0, 1, 2, 3, 4, 5, 6, 7, 8, 9] [] [0, 1, 2, 3, 4, 5, 6, 7, 8, 9] rfl rfl rfl rfl (by decide) rfl rfl rfl rfl rfl hl.1 rfl (Nat.le_of_ble_eq_true rfl) dX7_layGood_64 ⟨Nat.le_of_ble_eq_true rfl, Nat.le_of_ble_eq_true rfl⟩ (fun H locs hP hD hS => ?_)
          refine lv_goto (tgt := 71) hx hb dX7_layGood_67 (by decide) ?_
          exact c_J71 x2 x4 q_2 god (fX7_layGood_L44 x2 z n) ih  hrun _ _ _ hP hD hS (lv_sub hl [0, 1, 2] rfl)
  have c_J41 : ∀ (x2 : Int64) (god : (Nat → Int64)), fX7_layGood_J41 x2 z god = some r → wAt p l e (rmk 2 0 0 47) s m av below meth c D A 7 0 0 Q 41 [] [(0, .ref to), (2, .long x2)] (wX7 kI kJ to ta z nst his len txt thr god prm npr cov siz pts rea pla bef has) := by
    intro x2 god hrun H locs ls hP hD hS hl
    unfold fX7_layGood_J41 at hrun
    refine lv_iconst (v := 0) hx hb dX7_layGood_41 (by decide) ?_
    refine lv_istore (lv' := [(4, .int 0), (0, .ref to), (2, .long x2)]) hx hb dX7_layGood_42 hl (by decide) rfl (fun ls hl => ?_)
    exact c_L44 x2 5000 0 god  hrun _ _ _ hP hD hS (lv_sub hl [1, 2, 0] rfl)
  have c_L5 : ∀ (x1 : Int32) (god : (Nat → Int64)) (n : Nat) (x2 : Int64) (x4 : Int32), fX7_layGood_L5 x1 z god n x2 x4 = some r → wAt p l e (rmk 2 0 0 47) s m av below meth c D A 7 0 0 Q 5 [] [(0, .ref to), (1, .int x1), (2, .long x2), (4, .int x4)] (wX7 kI kJ to ta z nst his len txt thr god prm npr cov siz pts rea pla bef has) := by
    intro x1 god n
    induction n with
    | zero =>
      intro x2 x4 hrun
      rw [fX7_layGood_L5] at hrun
      cases hrun
    | succ n ih =>
      intro x2 x4 hrun H locs ls hP hD hS hl
      rw [fX7_layGood_L5] at hrun
      refine lv_iload hx hb dX7_layGood_5 (lv_at hl 3 rfl) ?_
      refine lv_aload_n hx hb dX7_layGood_7 rfl (lv_at hl 0 rfl) ?_
      obtain ⟨q_3, hq_3, hrun⟩ := bd_some hrun
      refine cI_callV (As := []) (rest := [.int x4]) (wr := []) (wN := (wX7 kI kJ to ta z nst his len txt thr god prm npr cov siz pts rea pla bef has)) (ci := 6) (q0 := 0) hE (c_X7_rows l D kI kJ kS to ta  z nst his len txt thr god prm npr cov siz pts rea pla bef has hq_3) (cwV 0 hts gX7_layGood_X7_rows rfl rfl rfl (by decide +kernel) ⟨Nat.le_of_ble_eq_true rfl, Nat.le_of_ble_eq_true rfl⟩) hP hD hS [0, 1, 2, 3, 4, 5, 6, 7, 8, 9] [] [0, 1, 2, 3, 4, 5, 6, 7, 8, 9] rfl rfl rfl rfl (by decide) rfl rfl rfl rfl rfl hl.1 rfl (Nat.le_of_ble_eq_true rfl) dX7_layGood_8 ⟨Nat.le_of_ble_eq_true rfl, Nat.le_of_ble_eq_true rfl⟩ (fun H locs hP hD hS => ?_)
      refine lv_icmp_ge (tgt := 41) hx hb dX7_layGood_11 (by decide) (fun hc => ?_) (fun hc => ?_)
      · have hrun := it_t hc hrun
        exact c_J41 x2 god  hrun _ _ _ hP hD hS (lv_sub hl [0, 2] rfl)
      · have hrun := it_f hc hrun
        refine lv_lload_n hx hb dX7_layGood_14 rfl (lv_at hl 2 rfl) ?_
        refine lv_aload_n hx hb dX7_layGood_15 rfl (lv_at hl 0 rfl) ?_
        refine lv_iload_n hx hb dX7_layGood_16 rfl (lv_at hl 1 rfl) ?_
        refine lv_iload hx hb dX7_layGood_17 (lv_at hl 3 rfl) ?_
        obtain ⟨q_4, hq_4, hrun⟩ := bd_some hrun
        refine cI_callV (As := [.int x1, .int x4]) (rest := [.long x2]) (wr := []) (wN := (wX7 kI kJ to ta z nst his len txt thr god prm npr cov siz pts rea pla bef has)) (ci := 6) (q0 := 0) hE (c_X7_decided l D kI kJ kS to ta x1 x4 z nst his len txt thr god prm npr cov siz pts rea pla bef has hq_4) (cwV 2 hts gX7_layGood_X7_decided rfl rfl rfl (by decide +kernel) ⟨Nat.le_of_ble_eq_true rfl, Nat.le_of_ble_eq_true rfl⟩) hP hD hS [0, 1, 2, 3, 4, 5, 6, 7, 8, 9] [] [0, 1, 2, 3, 4, 5, 6, 7, 8, 9] rfl rfl rfl rfl (by decide) rfl rfl rfl rfl rfl hl.1 rfl (Nat.le_of_ble_eq_true rfl) dX7_layGood_19 ⟨Nat.le_of_ble_eq_true rfl, Nat.le_of_ble_eq_true rfl⟩ (fun H locs hP hD hS => ?_)
        refine lv_if_ne (tgt := 32) hx hb dX7_layGood_22 (by decide) (fun hc => ?_) (fun hc => ?_)
        · have hrun := it_f hc hrun
          refine lv_lconst (v := 0) hx hb dX7_layGood_32 (by decide) ?_
          exact c_J33 x1 x4 0 x2 god (fX7_layGood_L5 x1 z god n) ih  hrun _ _ _ hP hD hS (lv_sub hl [0, 1, 3] rfl)
        · have hrun := it_t hc hrun
          refine lv_lconst (v := 1) hx hb dX7_layGood_25 (by decide) ?_
          refine lv_iload hx hb dX7_layGood_26 (lv_at hl 3 rfl) ?_
          refine lv_lshl hx hb dX7_layGood_28 rfl ?_
          refine lv_goto (tgt := 33) hx hb dX7_layGood_29 (by decide) ?_
          exact c_J33 x1 x4 (lsl_ 1 x4) x2 god (fX7_layGood_L5 x1 z god n) ih  hrun _ _ _ hP hD hS (lv_sub hl [0, 1, 3] rfl)
  unfold fX7_layGood at hrun
  refine lv_lconst (v := 0) hx hb dX7_layGood_0 (by decide) ?_
  refine lv_lstore_n (lv' := [(2, .long 0), (0, .ref to), (1, .int x1)]) hx hb dX7_layGood_1 rfl hl (by decide) rfl (fun ls hl => ?_)
  refine lv_iconst (v := 0) hx hb dX7_layGood_2 (by decide) ?_
  refine lv_istore (lv' := [(4, .int 0), (2, .long 0), (0, .ref to), (1, .int x1)]) hx hb dX7_layGood_3 hl (by decide) rfl (fun ls hl => ?_)
  exact c_L5 x1 god 5000 0 0  hrun _ _ _ hP hD hS (lv_sub hl [2, 3, 1, 0] rfl)
/-! ===== X7_isPrime ===== -/
theorem mX7_isPrime_1 : Cond.fieldLink RX7 19 "GateMazeModel" "good" "[J" ∈ wsX7_isPrime := List.mem_of_getElem? (i := 1) rfl
theorem iX7_isPrime_X7 : ∀ w ∈ u_ws RX7 TX7 16, w ∈ wsX7_isPrime := fun w h => List.mem_cons_of_mem _ (List.mem_append_right _ h)
set_option maxHeartbeats 4000000 in
set_option maxRecDepth 100000 in
theorem c_X7_isPrime (l : Launch) (D : va_G) (kI kJ kS : ClassId) (to : Nat) (ta : Nat → Nat) (x1 : Int32) (z : (Nat → Int32)) (nst : Int32) (his : (Nat → Int32)) (len : Int32) (txt : (Nat → Int32)) (thr : Int32) (god : (Nat → Int64)) (prm : (Nat → Int32)) (npr : Int32) (cov : (Nat → Int32)) (siz : (Nat → Int32)) (pts : (Nat → Int32)) (rea : Int32) (pla : Int32) (bef : (Nat → Int32)) (has : Int64) {r : Int32} (hrun : fX7_isPrime god x1 = some r) : cI l D (tyL kI kJ kS) false yX7_isPrime wsX7_isPrime (rmk 0 0 0 0) [.ref to, .int x1] (wX7 kI kJ to ta z nst his len txt thr god prm npr cov siz pts rea pla bef has) (wX7 kI kJ to ta z nst his len txt thr god prm npr cov siz pts rea pla bef has) r := by
  refine cI_of (cc := cX7_isPrime) (maxL := 6) (by decide) rfl (Nat.le_of_ble_eq_true rfl) ?_
  intro p e s m av below meth c A Q ls hE hP hD hS hl hret
  have hE : ent_ p s m av meth c RX7 cX7_isPrime 6 (some .boolean) wsX7_isPrime (tyL kI kJ kS) D A false := hE
  obtain ⟨hx, hb, hml, hown, hts, hr, hlocks, hK, hA, hst⟩ := id hE
  have hl : lv_has ls 6 [(0, .ref to), (1, .int x1)] := hl
  have c_J83 : ∀ (x1 : Int32) (x3 : Int32) (s0 : Int32) (k19 : Int32 → Int32 → Option (Int32)) (hk19 : (∀ (x2 : Int32) (x3 : Int32), k19 x2 x3 = some r → wAt p l e (rmk 0 0 0 0) s m av below meth c D A 6 0 0 Q 19 [] [(0, .ref to), (1, .int x1), (2, .int x2), (3, .int x3)] (wX7 kI kJ to ta z nst his len txt thr god prm npr cov siz pts rea pla bef has))), fX7_isPrime_J83 x1 x3 s0 god k19 = some r → wAt p l e (rmk 0 0 0 0) s m av below meth c D A 6 0 0 Q 83 [.int s0] [(0, .ref to), (1, .int x1), (3, .int x3)] (wX7 kI kJ to ta z nst his len txt thr god prm npr cov siz pts rea pla bef has) := by
    intro x1 x3 s0 k19 hk19 hrun H locs ls hP hD hS hl
    unfold fX7_isPrime_J83 at hrun
    refine lv_istore_n (lv' := [(2, .int s0), (0, .ref to), (1, .int x1), (3, .int x3)]) hx hb dX7_isPrime_83 rfl hl (by decide) rfl (fun ls hl => ?_)
    refine lv_iinc (v := x3 + 1) (lv' := [(3, .int (x3 + 1)), (2, .int s0), (0, .ref to), (1, .int x1)]) hx hb dX7_isPrime_84 hl (k := 3) rfl rfl (by decide) rfl (fun ls hl => ?_)
    refine lv_goto (tgt := 19) hx hb dX7_isPrime_87 (by decide) ?_
    exact hk19 s0 (x3 + 1)  hrun _ _ _ hP hD hS (lv_sub hl [2, 3, 1, 0] rfl)
  have c_J78 : ∀ (x1 : Int32) (x3 : Int32) (k19 : Int32 → Int32 → Option (Int32)) (hk19 : (∀ (x2 : Int32) (x3 : Int32), k19 x2 x3 = some r → wAt p l e (rmk 0 0 0 0) s m av below meth c D A 6 0 0 Q 19 [] [(0, .ref to), (1, .int x1), (2, .int x2), (3, .int x3)] (wX7 kI kJ to ta z nst his len txt thr god prm npr cov siz pts rea pla bef has))), fX7_isPrime_J78 x1 x3 god k19 = some r → wAt p l e (rmk 0 0 0 0) s m av below meth c D A 6 0 0 Q 78 [] [(0, .ref to), (1, .int x1), (3, .int x3)] (wX7 kI kJ to ta z nst his len txt thr god prm npr cov siz pts rea pla bef has) := by
    intro x1 x3 k19 hk19 hrun H locs ls hP hD hS hl
    unfold fX7_isPrime_J78 at hrun
    refine lv_iconst (v := 1) hx hb dX7_isPrime_78 (by decide) ?_
    refine lv_goto (tgt := 83) hx hb dX7_isPrime_79 (by decide) ?_
    exact c_J83 x1 x3 1 k19 hk19  hrun _ _ _ hP hD hS (lv_sub hl [0, 1, 2] rfl)
  have c_J49 : ∀ (x1 : Int32) (x3 : Int32) (x4 : Int32) (s0 : Int32) (k19 : Int32 → Int32 → Option (Int32)) (hk19 : (∀ (x2 : Int32) (x3 : Int32), k19 x2 x3 = some r → wAt p l e (rmk 0 0 0 0) s m av below meth c D A 6 0 0 Q 19 [] [(0, .ref to), (1, .int x1), (2, .int x2), (3, .int x3)] (wX7 kI kJ to ta z nst his len txt thr god prm npr cov siz pts rea pla bef has))), fX7_isPrime_J49 x1 x3 x4 s0 god k19 = some r → wAt p l e (rmk 0 0 0 0) s m av below meth c D A 6 0 0 Q 49 [.int s0] [(0, .ref to), (1, .int x1), (3, .int x3), (4, .int x4)] (wX7 kI kJ to ta z nst his len txt thr god prm npr cov siz pts rea pla bef has) := by
    intro x1 x3 x4 s0 k19 hk19 hrun H locs ls hP hD hS hl
    unfold fX7_isPrime_J49 at hrun
    refine lv_istore (lv' := [(5, .int s0), (0, .ref to), (1, .int x1), (3, .int x3), (4, .int x4)]) hx hb dX7_isPrime_49 hl (by decide) rfl (fun ls hl => ?_)
    refine lv_iload hx hb dX7_isPrime_51 (lv_at hl 0 rfl) ?_
    refine lv_if_eq (tgt := 78) hx hb dX7_isPrime_53 (by decide) (fun hc => ?_) (fun hc => ?_)
    · have hrun := it_t hc hrun
      exact c_J78 x1 x3 k19 hk19  hrun _ _ _ hP hD hS (lv_sub hl [1, 2, 3] rfl)
    · have hrun := it_f hc hrun
      refine lv_aload_n hx hb dX7_isPrime_56 rfl (lv_at hl 1 rfl) ?_
      refine va_get (D := D) (ci := 6) (v := .ref (ta 3)) (C := RX7) (T := TX7) (N := 16) hx hb hts iX7_isPrime_X7 hown hK hP 0 rfl rfl 6 (by decide) (hts _ mX7_isPrime_1) (fun _ h9 => h9) rfl dX7_isPrime_57 ?_
      refine lv_iload_n hx hb dX7_isPrime_60 rfl (lv_at hl 2 rfl) ?_
      refine lv_bipush (v := 64) hx hb dX7_isPrime_61 (by decide) ?_
      refine lv_iload hx hb dX7_isPrime_63 (lv_at hl 4 rfl) ?_
      refine lv_imul hx hb dX7_isPrime_65 ?_
      refine lv_isub hx hb dX7_isPrime_66 ?_
      refine lv_iload_n hx hb dX7_isPrime_67 rfl (lv_at hl 2 rfl) ?_
      refine lv_iload hx hb dX7_isPrime_68 (lv_at hl 4 rfl) ?_
      refine lv_iand hx hb dX7_isPrime_70 ?_
      refine lv_isub hx hb dX7_isPrime_71 ?_
      obtain ⟨hin, hrun⟩ := gd_some hrun
      refine va_lald hx hb hK hP 4 1 rfl rfl hin dX7_isPrime_72 ?_
      refine lv_lconst (v := 0) hx hb dX7_isPrime_73 (by decide) ?_
      refine W.lcmp hx hb dX7_isPrime_74 ?_
      refine lv_if_ne (tgt := 82) hx hb dX7_isPrime_75 (by decide) (fun hc => ?_) (fun hc => ?_)
      · have hrun := it_f hc hrun
        refine lv_iconst (v := 0) hx hb dX7_isPrime_82 (by decide) ?_
        exact c_J83 x1 x3 0 k19 hk19  hrun _ _ _ hP hD hS (lv_sub hl [1, 2, 3] rfl)
      · have hrun := it_t hc hrun
        exact c_J78 x1 x3 k19 hk19  hrun _ _ _ hP hD hS (lv_sub hl [1, 2, 3] rfl)
  have c_L19 : ∀ (x1 : Int32) (n : Nat) (x2 : Int32) (x3 : Int32), fX7_isPrime_L19 x1 god n x2 x3 = some r → wAt p l e (rmk 0 0 0 0) s m av below meth c D A 6 0 0 Q 19 [] [(0, .ref to), (1, .int x1), (2, .int x2), (3, .int x3)] (wX7 kI kJ to ta z nst his len txt thr god prm npr cov siz pts rea pla bef has) := by
    intro x1 n
    induction n with
    | zero =>
      intro x2 x3 hrun
      rw [fX7_isPrime_L19] at hrun
      cases hrun
    | succ n ih =>
      intro x2 x3 hrun H locs ls hP hD hS hl
      rw [fX7_isPrime_L19] at hrun
      refine lv_iload_n hx hb dX7_isPrime_19 rfl (lv_at hl 3 rfl) ?_
      refine lv_bipush (v := 6) hx hb dX7_isPrime_20 (by decide) ?_
      refine lv_icmp_ge (tgt := 90) hx hb dX7_isPrime_22 (by decide) (fun hc => ?_) (fun hc => ?_)
      · have hrun := it_t hc hrun
        refine lv_iload_n hx hb dX7_isPrime_90 rfl (lv_at hl 2 rfl) ?_
        obtain ⟨hn, hrun⟩ := gb_some hrun
        obtain rfl := Option.some.inj hrun
        exact hret _ _ _ _ hn dX7_isPrime_91 hP hD hS
      · have hrun := it_f hc hrun
        refine lv_iload_n hx hb dX7_isPrime_25 rfl (lv_at hl 2 rfl) ?_
        refine lv_if_eq (tgt := 90) hx hb dX7_isPrime_26 (by decide) (fun hc => ?_) (fun hc => ?_)
        · have hrun := it_t hc hrun
          refine lv_iload_n hx hb dX7_isPrime_90 rfl (lv_at hl 2 rfl) ?_
          obtain ⟨hn, hrun⟩ := gb_some hrun
          obtain rfl := Option.some.inj hrun
          exact hret _ _ _ _ hn dX7_isPrime_91 hP hD hS
        · have hrun := it_f hc hrun
          refine lv_iconst (v := 1) hx hb dX7_isPrime_29 (by decide) ?_
          refine lv_iload_n hx hb dX7_isPrime_30 rfl (lv_at hl 3 rfl) ?_
          refine lv_ishl hx hb dX7_isPrime_31 ?_
          refine lv_istore (lv' := [(4, .int ((1 : Int32) <<< (x3 &&& 31))), (0, .ref to), (1, .int x1), (2, .int x2), (3, .int x3)]) hx hb dX7_isPrime_32 hl (by decide) rfl (fun ls hl => ?_)
          refine lv_iload_n hx hb dX7_isPrime_34 rfl (lv_at hl 2 rfl) ?_
          refine lv_bipush (v := 64) hx hb dX7_isPrime_35 (by decide) ?_
          refine lv_idiv hx hb dX7_isPrime_37 (by decide) ?_
          refine lv_iload hx hb dX7_isPrime_38 (lv_at hl 0 rfl) ?_
          refine lv_iand hx hb dX7_isPrime_40 ?_
          refine lv_if_eq (tgt := 48) hx hb dX7_isPrime_41 (by decide) (fun hc => ?_) (fun hc => ?_)
          · have hrun := it_t hc hrun
            refine lv_iconst (v := 0) hx hb dX7_isPrime_48 (by decide) ?_
            exact c_J49 x1 x3 ((1 : Int32) <<< (x3 &&& 31)) 0 (fX7_isPrime_L19 x1 god n) ih  hrun _ _ _ hP hD hS (lv_sub hl [1, 2, 4, 0] rfl)
          · have hrun := it_f hc hrun
            refine lv_iconst (v := 1) hx hb dX7_isPrime_44 (by decide) ?_
            refine lv_goto (tgt := 49) hx hb dX7_isPrime_45 (by decide) ?_
            exact c_J49 x1 x3 ((1 : Int32) <<< (x3 &&& 31)) 1 (fX7_isPrime_L19 x1 god n) ih  hrun _ _ _ hP hD hS (lv_sub hl [1, 2, 4, 0] rfl)
  have c_J16 : ∀ (x1 : Int32) (s0 : Int32), fX7_isPrime_J16 x1 s0 god = some r → wAt p l e (rmk 0 0 0 0) s m av below meth c D A 6 0 0 Q 16 [.int s0] [(0, .ref to), (1, .int x1)] (wX7 kI kJ to ta z nst his len txt thr god prm npr cov siz pts rea pla bef has) := by
    intro x1 s0 hrun H locs ls hP hD hS hl
    unfold fX7_isPrime_J16 at hrun
    refine lv_istore_n (lv' := [(2, .int s0), (0, .ref to), (1, .int x1)]) hx hb dX7_isPrime_16 rfl hl (by decide) rfl (fun ls hl => ?_)
    refine lv_iconst (v := 0) hx hb dX7_isPrime_17 (by decide) ?_
    refine lv_istore_n (lv' := [(3, .int 0), (2, .int s0), (0, .ref to), (1, .int x1)]) hx hb dX7_isPrime_18 rfl hl (by decide) rfl (fun ls hl => ?_)
    exact c_L19 x1 5000 s0 0  hrun _ _ _ hP hD hS (lv_sub hl [2, 3, 1, 0] rfl)
  unfold fX7_isPrime at hrun
  refine lv_aload_n hx hb dX7_isPrime_0 rfl (lv_at hl 0 rfl) ?_
  refine va_get (D := D) (ci := 6) (v := .ref (ta 3)) (C := RX7) (T := TX7) (N := 16) hx hb hts iX7_isPrime_X7 hown hK hP 0 rfl rfl 6 (by decide) (hts _ mX7_isPrime_1) (fun _ h9 => h9) rfl dX7_isPrime_1 ?_
  refine lv_iload_n hx hb dX7_isPrime_4 rfl (lv_at hl 1 rfl) ?_
  obtain ⟨hin, hrun⟩ := gd_some hrun
  refine va_lald hx hb hK hP 4 1 rfl rfl hin dX7_isPrime_5 ?_
  refine lv_lconst (v := 0) hx hb dX7_isPrime_6 (by decide) ?_
  refine W.lcmp hx hb dX7_isPrime_7 ?_
  refine lv_if_eq (tgt := 15) hx hb dX7_isPrime_8 (by decide) (fun hc => ?_) (fun hc => ?_)
  · have hrun := it_t hc hrun
    refine lv_iconst (v := 0) hx hb dX7_isPrime_15 (by decide) ?_
    exact c_J16 x1 0  hrun _ _ _ hP hD hS (lv_sub hl [0, 1] rfl)
  · have hrun := it_f hc hrun
    refine lv_iconst (v := 1) hx hb dX7_isPrime_11 (by decide) ?_
    refine lv_goto (tgt := 16) hx hb dX7_isPrime_12 (by decide) ?_
    exact c_J16 x1 1  hrun _ _ _ hP hD hS (lv_sub hl [0, 1] rfl)
/-! ===== X7_layPrimes ===== -/
theorem mX7_layPrimes_1 : Cond.fieldLink RX7 75 "GateMazeModel" "primes" "I" ∈ wsX7_layPrimes := List.mem_of_getElem? (i := 1) rfl
theorem mX7_layPrimes_2 : Cond.fieldLink RX7 23 "GateMazeModel" "prime" "[I" ∈ wsX7_layPrimes := List.mem_of_getElem? (i := 2) rfl
theorem iX7_layPrimes_X7 : ∀ w ∈ u_ws RX7 TX7 16, w ∈ wsX7_layPrimes := fun w h => List.mem_cons_of_mem _ (List.mem_append_right _ h)
set_option maxHeartbeats 4000000 in
set_option maxRecDepth 100000 in
theorem c_X7_layPrimes (l : Launch) (D : va_G) (kI kJ kS : ClassId) (to : Nat) (ta : Nat → Nat) (x1 : Int32) (z : (Nat → Int32)) (nst : Int32) (his : (Nat → Int32)) (len : Int32) (txt : (Nat → Int32)) (thr : Int32) (god : (Nat → Int64)) (prm : (Nat → Int32)) (npr : Int32) (cov : (Nat → Int32)) (siz : (Nat → Int32)) (pts : (Nat → Int32)) (rea : Int32) (pla : Int32) (bef : (Nat → Int32)) (has : Int64) {r : (Nat → Int64) × (Nat → Int32) × Int32} (hrun : fX7_layPrimes z god prm x1 = some r) : cV l D (tyL kI kJ kS) false yX7_layPrimes wsX7_layPrimes (rmk 3 0 0 73) [.ref to, .int x1] (wX7 kI kJ to ta z nst his len txt thr god prm npr cov siz pts rea pla bef has) (wX7 kI kJ to ta z nst his len txt thr r.1 r.2.1 r.2.2 cov siz pts rea pla bef has) := by
  refine cV_of (cc := cX7_layPrimes) (maxL := 3) (by decide) rfl (Nat.le_of_ble_eq_true rfl) ?_
  intro p e s m av below meth c A Q ls hE hP hD hS hl hret
  have hE : ent_ p s m av meth c RX7 cX7_layPrimes 3 none wsX7_layPrimes (tyL kI kJ kS) D A false := hE
  obtain ⟨hx, hb, hml, hown, hts, hr, hlocks, hK, hA, hst⟩ := id hE
  have hl : lv_has ls 3 [(0, .ref to), (1, .int x1)] := hl
  have c_J37 : ∀ (x2 : Int32) (s0 : Int32) (s1 : Int32) (god : (Nat → Int64)) (prm : (Nat → Int32)) (npr : Int32) (k12 : Int32 → (Nat → Int32) → Int32 → Option ((Nat → Int64) × (Nat → Int32) × Int32)) (hk12 : (∀ (x2 : Int32) (prm : (Nat → Int32)) (npr : Int32), k12 x2 prm npr = some r → wAt p l e (rmk 3 0 0 73) s m av below meth c D A 3 0 0 Q 12 [] [(0, .ref to), (2, .int x2)] (wX7 kI kJ to ta z nst his len txt thr god prm npr cov siz pts rea pla bef has))), fX7_layPrimes_J37 x2 s0 s1 god prm npr k12 = some r → wAt p l e (rmk 3 0 0 73) s m av below meth c D A 3 0 0 Q 37 [.int s0, .int s1, .ref (ta 4)] [(0, .ref to), (2, .int x2)] (wX7 kI kJ to ta z nst his len txt thr god prm npr cov siz pts rea pla bef has) := by
    intro x2 s0 s1 god prm npr k12 hk12 hrun H locs ls hP hD hS hl
    unfold fX7_layPrimes_J37 at hrun
    obtain ⟨hin, hrun⟩ := gd_some hrun
    refine va_iast hx hb hK hP hD hS 5 0 rfl rfl hin dX7_layPrimes_37 (fun H locs hP hD hS => ?_)
    have hP : va_P D vwCl (wX7 kI kJ to ta z nst his len txt thr god (upd prm s1.toNatClampNeg s0) npr cov siz pts rea pla bef has) H := hP
    have hD : va_D A (wX7 kI kJ to ta z nst his len txt thr god (upd prm s1.toNatClampNeg s0) npr cov siz pts rea pla bef has) := hD
    refine lv_aload_n hx hb dX7_layPrimes_38 rfl (lv_at hl 0 rfl) ?_
    refine lv_dup hx hb dX7_layPrimes_39 rfl ?_
    refine va_get (D := D) (ci := 6) (v := .int npr) (C := RX7) (T := TX7) (N := 16) hx hb hts iX7_layPrimes_X7 hown hK hP 0 rfl rfl 8 (by decide) (hts _ mX7_layPrimes_1) (fun _ h9 => h9) rfl dX7_layPrimes_40 ?_
    refine lv_aload_n hx hb dX7_layPrimes_43 rfl (lv_at hl 0 rfl) ?_
    refine va_get (D := D) (ci := 6) (v := .ref (ta 4)) (C := RX7) (T := TX7) (N := 16) hx hb hts iX7_layPrimes_X7 hown hK hP 0 rfl rfl 7 (by decide) (hts _ mX7_layPrimes_2) (fun _ h9 => h9) rfl dX7_layPrimes_44 ?_
    refine lv_iload_n hx hb dX7_layPrimes_47 rfl (lv_at hl 1 rfl) ?_
    obtain ⟨hin, hrun⟩ := gd_some hrun
    refine va_iald hx hb hK hP 5 0 rfl rfl hin dX7_layPrimes_48 ?_
    refine lv_iadd hx hb dX7_layPrimes_49 ?_
    refine va_put (D := D) (ci := 6) (v := .int (npr + ((upd prm s1.toNatClampNeg s0) x2.toNatClampNeg))) (ty := .int) (C := RX7) (T := TX7) (N := 16) hx hb hts iX7_layPrimes_X7 tyX7 tyX7_ok nmX7 hown hK hP hD hS 0 rfl rfl 8 (by decide) (hts _ mX7_layPrimes_1) (fun _ h9 => h9) rfl (by decide +kernel) rfl rfl (Nat.le_of_ble_eq_true rfl) dX7_layPrimes_50 (fun H locs hP hD hS => ?_)
    have hP : va_P D vwCl (wX7 kI kJ to ta z nst his len txt thr god (upd prm s1.toNatClampNeg s0) (npr + ((upd prm s1.toNatClampNeg s0) x2.toNatClampNeg)) cov siz pts rea pla bef has) H := hP
    have hD : va_D A (wX7 kI kJ to ta z nst his len txt thr god (upd prm s1.toNatClampNeg s0) (npr + ((upd prm s1.toNatClampNeg s0) x2.toNatClampNeg)) cov siz pts rea pla bef has) := hD
    refine lv_iinc (v := x2 + 1) (lv' := [(2, .int (x2 + 1)), (0, .ref to)]) hx hb dX7_layPrimes_53 hl (k := 1) rfl rfl (by decide) rfl (fun ls hl => ?_)
    refine lv_goto (tgt := 12) hx hb dX7_layPrimes_56 (by decide) ?_
    exact hk12 (x2 + 1) (upd prm s1.toNatClampNeg s0) (npr + ((upd prm s1.toNatClampNeg s0) x2.toNatClampNeg))  hrun _ _ _ hP hD hS (lv_sub hl [1, 0] rfl)
  have c_L12 : ∀ (god : (Nat → Int64)) (n : Nat) (x2 : Int32) (prm : (Nat → Int32)) (npr : Int32), fX7_layPrimes_L12 god n x2 prm npr = some r → wAt p l e (rmk 3 0 0 73) s m av below meth c D A 3 0 0 Q 12 [] [(0, .ref to), (2, .int x2)] (wX7 kI kJ to ta z nst his len txt thr god prm npr cov siz pts rea pla bef has) := by
    intro god n
    induction n with
    | zero =>
      intro x2 prm npr hrun
      rw [fX7_layPrimes_L12] at hrun
      cases hrun
    | succ n ih =>
      intro x2 prm npr hrun H locs ls hP hD hS hl
      rw [fX7_layPrimes_L12] at hrun
      refine lv_iload_n hx hb dX7_layPrimes_12 rfl (lv_at hl 1 rfl) ?_
      refine lv_sipush (v := 4096) hx hb dX7_layPrimes_13 (by decide) ?_
      refine lv_icmp_ge (tgt := 59) hx hb dX7_layPrimes_16 (by decide) (fun hc => ?_) (fun hc => ?_)
      · have hrun := it_t hc hrun
        obtain rfl := Option.some.inj hrun
        exact hret _ _ _ _ dX7_layPrimes_59 hP hD hS
      · have hrun := it_f hc hrun
        refine lv_aload_n hx hb dX7_layPrimes_19 rfl (lv_at hl 0 rfl) ?_
        refine va_get (D := D) (ci := 6) (v := .ref (ta 4)) (C := RX7) (T := TX7) (N := 16) hx hb hts iX7_layPrimes_X7 hown hK hP 0 rfl rfl 7 (by decide) (hts _ mX7_layPrimes_2) (fun _ h9 => h9) rfl dX7_layPrimes_20 ?_
        refine lv_iload_n hx hb dX7_layPrimes_23 rfl (lv_at hl 1 rfl) ?_
        refine lv_aload_n hx hb dX7_layPrimes_24 rfl (lv_at hl 0 rfl) ?_
        refine lv_iload_n hx hb dX7_layPrimes_25 rfl (lv_at hl 1 rfl) ?_
        obtain ⟨q_1, hq_1, hrun⟩ := bd_some hrun
        refine cI_callV (As := [.int x2]) (rest := [.int x2, .ref (ta 4)]) (wr := []) (wN := (wX7 kI kJ to ta z nst his len txt thr god prm npr cov siz pts rea pla bef has)) (ci := 6) (q0 := 0) hE (c_X7_isPrime l D kI kJ kS to ta x2 z nst his len txt thr god prm npr cov siz pts rea pla bef has hq_1) (cwV 1 hts gX7_layPrimes_X7_isPrime rfl rfl rfl (by decide +kernel) ⟨Nat.le_of_ble_eq_true rfl, Nat.le_of_ble_eq_true rfl⟩) hP hD hS [0, 1, 2, 3, 4, 5, 6, 7, 8, 9] [] [0, 1, 2, 3, 4, 5, 6, 7, 8, 9] rfl rfl rfl rfl (by decide) rfl rfl rfl rfl rfl hl.1 rfl (Nat.le_of_ble_eq_true rfl) dX7_layPrimes_26 ⟨Nat.le_of_ble_eq_true rfl, Nat.le_of_ble_eq_true rfl⟩ (fun H locs hP hD hS => ?_)
        refine lv_if_eq (tgt := 36) hx hb dX7_layPrimes_29 (by decide) (fun hc => ?_) (fun hc => ?_)
        · have hrun := it_t hc hrun
          refine lv_iconst (v := 0) hx hb dX7_layPrimes_36 (by decide) ?_
          exact c_J37 x2 0 x2 god prm npr (fX7_layPrimes_L12 god n) ih  hrun _ _ _ hP hD hS (lv_sub hl [0, 1] rfl)
        · have hrun := it_f hc hrun
          refine lv_iconst (v := 1) hx hb dX7_layPrimes_32 (by decide) ?_
          refine lv_goto (tgt := 37) hx hb dX7_layPrimes_33 (by decide) ?_
          exact c_J37 x2 1 x2 god prm npr (fX7_layPrimes_L12 god n) ih  hrun _ _ _ hP hD hS (lv_sub hl [0, 1] rfl)
  unfold fX7_layPrimes at hrun
  refine lv_aload_n hx hb dX7_layPrimes_0 rfl (lv_at hl 0 rfl) ?_
  refine lv_iload_n hx hb dX7_layPrimes_1 rfl (lv_at hl 1 rfl) ?_
  obtain ⟨q_2, hq_2, hrun⟩ := bd_some hrun
  refine cV_callV (As := [.int x1]) (rest := []) (wr := []) (wN := (wX7 kI kJ to ta z nst his len txt thr q_2 prm npr cov siz pts rea pla bef has)) (ci := 6) (q0 := 0) hE (c_X7_layGood l D kI kJ kS to ta x1 z nst his len txt thr god prm npr cov siz pts rea pla bef has hq_2) (cwV 1 hts gX7_layPrimes_X7_layGood rfl rfl rfl (by decide +kernel) ⟨Nat.le_of_ble_eq_true rfl, Nat.le_of_ble_eq_true rfl⟩) hP hD hS [0, 1, 2, 3, 4, 5, 6, 7, 8, 9] [] [0, 1, 2, 3, 4, 5, 6, 7, 8, 9] rfl rfl rfl rfl (by decide) rfl rfl rfl rfl rfl hl.1 rfl (Nat.le_of_ble_eq_true rfl) dX7_layPrimes_2 ⟨Nat.le_of_ble_eq_true rfl, Nat.le_of_ble_eq_true rfl⟩ (fun H locs hP hD hS => ?_)
  refine lv_aload_n hx hb dX7_layPrimes_5 rfl (lv_at hl 0 rfl) ?_
  refine lv_iconst (v := 0) hx hb dX7_layPrimes_6 (by decide) ?_
  refine va_put (D := D) (ci := 6) (v := .int 0) (ty := .int) (C := RX7) (T := TX7) (N := 16) hx hb hts iX7_layPrimes_X7 tyX7 tyX7_ok nmX7 hown hK hP hD hS 0 rfl rfl 8 (by decide) (hts _ mX7_layPrimes_1) (fun _ h9 => h9) rfl (by decide +kernel) rfl rfl (Nat.le_of_ble_eq_true rfl) dX7_layPrimes_7 (fun H locs hP hD hS => ?_)
  have hP : va_P D vwCl (wX7 kI kJ to ta z nst his len txt thr q_2 prm 0 cov siz pts rea pla bef has) H := hP
  have hD : va_D A (wX7 kI kJ to ta z nst his len txt thr q_2 prm 0 cov siz pts rea pla bef has) := hD
  refine lv_iconst (v := 0) hx hb dX7_layPrimes_10 (by decide) ?_
  refine lv_istore_n (lv' := [(2, .int 0), (0, .ref to), (1, .int x1)]) hx hb dX7_layPrimes_11 rfl hl (by decide) rfl (fun ls hl => ?_)
  exact c_L12 q_2 5000 0 prm 0  hrun _ _ _ hP hD hS (lv_sub hl [1, 0] rfl)
/-! ===== X7_bestPrime ===== -/
theorem mX7_bestPrime_1 : Cond.fieldLink RX7 23 "GateMazeModel" "prime" "[I" ∈ wsX7_bestPrime := List.mem_of_getElem? (i := 1) rfl
theorem mX7_bestPrime_2 : Cond.fieldLink RX7 19 "GateMazeModel" "good" "[J" ∈ wsX7_bestPrime := List.mem_of_getElem? (i := 2) rfl
theorem iX7_bestPrime_X7 : ∀ w ∈ u_ws RX7 TX7 16, w ∈ wsX7_bestPrime := fun w h => List.mem_cons_of_mem _ (List.mem_append_right _ h)
set_option maxHeartbeats 4000000 in
set_option maxRecDepth 100000 in
theorem c_X7_bestPrime (l : Launch) (D : va_G) (kI kJ kS : ClassId) (to : Nat) (ta : Nat → Nat) (x1 : Int64) (z : (Nat → Int32)) (nst : Int32) (his : (Nat → Int32)) (len : Int32) (txt : (Nat → Int32)) (thr : Int32) (god : (Nat → Int64)) (prm : (Nat → Int32)) (npr : Int32) (cov : (Nat → Int32)) (siz : (Nat → Int32)) (pts : (Nat → Int32)) (rea : Int32) (pla : Int32) (bef : (Nat → Int32)) (has : Int64) {r : Int32} (hrun : fX7_bestPrime god prm x1 = some r) : cI l D (tyL kI kJ kS) false yX7_bestPrime wsX7_bestPrime (rmk 1 0 0 23) [.ref to, .long x1] (wX7 kI kJ to ta z nst his len txt thr god prm npr cov siz pts rea pla bef has) (wX7 kI kJ to ta z nst his len txt thr god prm npr cov siz pts rea pla bef has) r := by
  refine cI_of (cc := cX7_bestPrime) (maxL := 8) (by decide) rfl (Nat.le_of_ble_eq_true rfl) ?_
  intro p e s m av below meth c A Q ls hE hP hD hS hl hret
  have hE : ent_ p s m av meth c RX7 cX7_bestPrime 8 (some .int) wsX7_bestPrime (tyL kI kJ kS) D A false := hE
  obtain ⟨hx, hb, hml, hown, hts, hr, hlocks, hK, hA, hst⟩ := id hE
  have hl : lv_has ls 8 [(0, .ref to), (1, .long x1)] := hl
  have c_J113 : ∀ (x1 : Int64) (x3 : Int32) (x5 : Int32) (s0 : Int32) (k8 : Int32 → Int32 → Int32 → Option (Int32)) (hk8 : (∀ (x3 : Int32) (x4 : Int32) (x5 : Int32), k8 x3 x4 x5 = some r → wAt p l e (rmk 1 0 0 23) s m av below meth c D A 8 0 0 Q 8 [] [(0, .ref to), (1, .long x1), (3, .int x3), (4, .int x4), (5, .int x5)] (wX7 kI kJ to ta z nst his len txt thr god prm npr cov siz pts rea pla bef has))), fX7_bestPrime_J113 x1 x3 x5 s0 god prm k8 = some r → wAt p l e (rmk 1 0 0 23) s m av below meth c D A 8 0 0 Q 113 [.int s0] [(0, .ref to), (1, .long x1), (3, .int x3), (5, .int x5)] (wX7 kI kJ to ta z nst his len txt thr god prm npr cov siz pts rea pla bef has) := by
    intro x1 x3 x5 s0 k8 hk8 hrun H locs ls hP hD hS hl
    unfold fX7_bestPrime_J113 at hrun
    refine lv_istore (lv' := [(4, .int s0), (0, .ref to), (1, .long x1), (3, .int x3), (5, .int x5)]) hx hb dX7_bestPrime_113 hl (by decide) rfl (fun ls hl => ?_)
    refine lv_iinc (v := x5 + 1) (lv' := [(5, .int (x5 + 1)), (4, .int s0), (0, .ref to), (1, .long x1), (3, .int x3)]) hx hb dX7_bestPrime_115 hl (k := 4) rfl rfl (by decide) rfl (fun ls hl => ?_)
    refine lv_goto (tgt := 8) hx hb dX7_bestPrime_118 (by decide) ?_
    exact hk8 x3 s0 (x5 + 1)  hrun _ _ _ hP hD hS (lv_sub hl [2, 3, 4, 1, 0] rfl)
  have c_J100 : ∀ (x1 : Int64) (x4 : Int32) (x5 : Int32) (x6 : Int32) (x7 : Int32) (s0 : Int32) (k8 : Int32 → Int32 → Int32 → Option (Int32)) (hk8 : (∀ (x3 : Int32) (x4 : Int32) (x5 : Int32), k8 x3 x4 x5 = some r → wAt p l e (rmk 1 0 0 23) s m av below meth c D A 8 0 0 Q 8 [] [(0, .ref to), (1, .long x1), (3, .int x3), (4, .int x4), (5, .int x5)] (wX7 kI kJ to ta z nst his len txt thr god prm npr cov siz pts rea pla bef has))), fX7_bestPrime_J100 x1 x4 x5 x6 x7 s0 god prm k8 = some r → wAt p l e (rmk 1 0 0 23) s m av below meth c D A 8 0 0 Q 100 [.int s0] [(0, .ref to), (1, .long x1), (4, .int x4), (5, .int x5), (6, .int x6), (7, .int x7)] (wX7 kI kJ to ta z nst his len txt thr god prm npr cov siz pts rea pla bef has) := by
    intro x1 x4 x5 x6 x7 s0 k8 hk8 hrun H locs ls hP hD hS hl
    unfold fX7_bestPrime_J100 at hrun
    refine lv_istore_n (lv' := [(3, .int s0), (0, .ref to), (1, .long x1), (4, .int x4), (5, .int x5), (6, .int x6), (7, .int x7)]) hx hb dX7_bestPrime_100 rfl hl (by decide) rfl (fun ls hl => ?_)
    refine lv_iload hx hb dX7_bestPrime_101 (lv_at hl 6 rfl) ?_
    refine lv_if_eq (tgt := 111) hx hb dX7_bestPrime_103 (by decide) (fun hc => ?_) (fun hc => ?_)
    · have hrun := it_t hc hrun
      refine lv_iload hx hb dX7_bestPrime_111 (lv_at hl 3 rfl) ?_
      exact c_J113 x1 s0 x5 x4 k8 hk8  hrun _ _ _ hP hD hS (lv_sub hl [1, 2, 0, 4] rfl)
    · have hrun := it_f hc hrun
      refine lv_iload hx hb dX7_bestPrime_106 (lv_at hl 5 rfl) ?_
      refine lv_goto (tgt := 113) hx hb dX7_bestPrime_108 (by decide) ?_
      exact c_J113 x1 s0 x5 x6 k8 hk8  hrun _ _ _ hP hD hS (lv_sub hl [1, 2, 0, 4] rfl)
  have c_J87 : ∀ (x1 : Int64) (x3 : Int32) (x4 : Int32) (x5 : Int32) (x6 : Int32) (s0 : Int32) (k8 : Int32 → Int32 → Int32 → Option (Int32)) (hk8 : (∀ (x3 : Int32) (x4 : Int32) (x5 : Int32), k8 x3 x4 x5 = some r → wAt p l e (rmk 1 0 0 23) s m av below meth c D A 8 0 0 Q 8 [] [(0, .ref to), (1, .long x1), (3, .int x3), (4, .int x4), (5, .int x5)] (wX7 kI kJ to ta z nst his len txt thr god prm npr cov siz pts rea pla bef has))), fX7_bestPrime_J87 x1 x3 x4 x5 x6 s0 god prm k8 = some r → wAt p l e (rmk 1 0 0 23) s m av below meth c D A 8 0 0 Q 87 [.int s0] [(0, .ref to), (1, .long x1), (3, .int x3), (4, .int x4), (5, .int x5), (6, .int x6)] (wX7 kI kJ to ta z nst his len txt thr god prm npr cov siz pts rea pla bef has) := by
    intro x1 x3 x4 x5 x6 s0 k8 hk8 hrun H locs ls hP hD hS hl
    unfold fX7_bestPrime_J87 at hrun
    refine lv_istore (lv' := [(7, .int s0), (0, .ref to), (1, .long x1), (3, .int x3), (4, .int x4), (5, .int x5), (6, .int x6)]) hx hb dX7_bestPrime_87 hl (by decide) rfl (fun ls hl => ?_)
    refine lv_iload hx hb dX7_bestPrime_89 (lv_at hl 0 rfl) ?_
    refine lv_if_eq (tgt := 99) hx hb dX7_bestPrime_91 (by decide) (fun hc => ?_) (fun hc => ?_)
    · have hrun := it_t hc hrun
      refine lv_iload_n hx hb dX7_bestPrime_99 rfl (lv_at hl 3 rfl) ?_
      exact c_J100 x1 x4 x5 x6 s0 x3 k8 hk8  hrun _ _ _ hP hD hS (lv_sub hl [1, 2, 4, 5, 6, 0] rfl)
    · have hrun := it_f hc hrun
      refine lv_iload hx hb dX7_bestPrime_94 (lv_at hl 5 rfl) ?_
      refine lv_goto (tgt := 100) hx hb dX7_bestPrime_96 (by decide) ?_
      exact c_J100 x1 x4 x5 x6 s0 x5 k8 hk8  hrun _ _ _ hP hD hS (lv_sub hl [1, 2, 4, 5, 6, 0] rfl)
  have c_J82 : ∀ (x1 : Int64) (x3 : Int32) (x4 : Int32) (x5 : Int32) (x6 : Int32) (k8 : Int32 → Int32 → Int32 → Option (Int32)) (hk8 : (∀ (x3 : Int32) (x4 : Int32) (x5 : Int32), k8 x3 x4 x5 = some r → wAt p l e (rmk 1 0 0 23) s m av below meth c D A 8 0 0 Q 8 [] [(0, .ref to), (1, .long x1), (3, .int x3), (4, .int x4), (5, .int x5)] (wX7 kI kJ to ta z nst his len txt thr god prm npr cov siz pts rea pla bef has))), fX7_bestPrime_J82 x1 x3 x4 x5 x6 god prm k8 = some r → wAt p l e (rmk 1 0 0 23) s m av below meth c D A 8 0 0 Q 82 [] [(0, .ref to), (1, .long x1), (3, .int x3), (4, .int x4), (5, .int x5), (6, .int x6)] (wX7 kI kJ to ta z nst his len txt thr god prm npr cov siz pts rea pla bef has) := by
    intro x1 x3 x4 x5 x6 k8 hk8 hrun H locs ls hP hD hS hl
    unfold fX7_bestPrime_J82 at hrun
    refine lv_iconst (v := 1) hx hb dX7_bestPrime_82 (by decide) ?_
    refine lv_goto (tgt := 87) hx hb dX7_bestPrime_83 (by decide) ?_
    exact c_J87 x1 x3 x4 x5 x6 1 k8 hk8  hrun _ _ _ hP hD hS (lv_sub hl [0, 1, 2, 3, 4, 5] rfl)
  have c_J86 : ∀ (x1 : Int64) (x3 : Int32) (x4 : Int32) (x5 : Int32) (x6 : Int32) (k8 : Int32 → Int32 → Int32 → Option (Int32)) (hk8 : (∀ (x3 : Int32) (x4 : Int32) (x5 : Int32), k8 x3 x4 x5 = some r → wAt p l e (rmk 1 0 0 23) s m av below meth c D A 8 0 0 Q 8 [] [(0, .ref to), (1, .long x1), (3, .int x3), (4, .int x4), (5, .int x5)] (wX7 kI kJ to ta z nst his len txt thr god prm npr cov siz pts rea pla bef has))), fX7_bestPrime_J86 x1 x3 x4 x5 x6 god prm k8 = some r → wAt p l e (rmk 1 0 0 23) s m av below meth c D A 8 0 0 Q 86 [] [(0, .ref to), (1, .long x1), (3, .int x3), (4, .int x4), (5, .int x5), (6, .int x6)] (wX7 kI kJ to ta z nst his len txt thr god prm npr cov siz pts rea pla bef has) := by
    intro x1 x3 x4 x5 x6 k8 hk8 hrun H locs ls hP hD hS hl
    unfold fX7_bestPrime_J86 at hrun
    refine lv_iconst (v := 0) hx hb dX7_bestPrime_86 (by decide) ?_
    exact c_J87 x1 x3 x4 x5 x6 0 k8 hk8  hrun _ _ _ hP hD hS (lv_sub hl [0, 1, 2, 3, 4, 5] rfl)
  have c_J43 : ∀ (x1 : Int64) (x3 : Int32) (x4 : Int32) (x5 : Int32) (s0 : Int32) (k8 : Int32 → Int32 → Int32 → Option (Int32)) (hk8 : (∀ (x3 : Int32) (x4 : Int32) (x5 : Int32), k8 x3 x4 x5 = some r → wAt p l e (rmk 1 0 0 23) s m av below meth c D A 8 0 0 Q 8 [] [(0, .ref to), (1, .long x1), (3, .int x3), (4, .int x4), (5, .int x5)] (wX7 kI kJ to ta z nst his len txt thr god prm npr cov siz pts rea pla bef has))), fX7_bestPrime_J43 x1 x3 x4 x5 s0 god prm k8 = some r → wAt p l e (rmk 1 0 0 23) s m av below meth c D A 8 0 0 Q 43 [.int s0] [(0, .ref to), (1, .long x1), (3, .int x3), (4, .int x4), (5, .int x5)] (wX7 kI kJ to ta z nst his len txt thr god prm npr cov siz pts rea pla bef has) := by
    intro x1 x3 x4 x5 s0 k8 hk8 hrun H locs ls hP hD hS hl
    unfold fX7_bestPrime_J43 at hrun
    refine lv_istore (lv' := [(6, .int s0), (0, .ref to), (1, .long x1), (3, .int x3), (4, .int x4), (5, .int x5)]) hx hb dX7_bestPrime_43 hl (by decide) rfl (fun ls hl => ?_)
    refine lv_iload hx hb dX7_bestPrime_45 (lv_at hl 0 rfl) ?_
    refine lv_iload hx hb dX7_bestPrime_47 (lv_at hl 4 rfl) ?_
    refine lv_icmp_gt (tgt := 82) hx hb dX7_bestPrime_49 (by decide) (fun hc => ?_) (fun hc => ?_)
    · have hrun := it_t hc hrun
      exact c_J82 x1 x3 x4 x5 s0 k8 hk8  hrun _ _ _ hP hD hS (lv_sub hl [1, 2, 3, 4, 5, 0] rfl)
    · have hrun := it_f hc hrun
      refine lv_iload hx hb dX7_bestPrime_52 (lv_at hl 0 rfl) ?_
      refine lv_iload hx hb dX7_bestPrime_54 (lv_at hl 4 rfl) ?_
      refine lv_icmp_ne (tgt := 86) hx hb dX7_bestPrime_56 (by decide) (fun hc => ?_) (fun hc => ?_)
      · have hrun := it_f hc hrun
        exact c_J86 x1 x3 x4 x5 s0 k8 hk8  hrun _ _ _ hP hD hS (lv_sub hl [1, 2, 3, 4, 5, 0] rfl)
      · have hrun := it_t hc hrun
        refine lv_iload hx hb dX7_bestPrime_59 (lv_at hl 0 rfl) ?_
        refine lv_if_le (tgt := 86) hx hb dX7_bestPrime_61 (by decide) (fun hc => ?_) (fun hc => ?_)
        · have hrun := it_t hc hrun
          exact c_J86 x1 x3 x4 x5 s0 k8 hk8  hrun _ _ _ hP hD hS (lv_sub hl [1, 2, 3, 4, 5, 0] rfl)
        · have hrun := it_f hc hrun
          refine lv_iload hx hb dX7_bestPrime_64 (lv_at hl 5 rfl) ?_
          refine lv_bipush (v := 64) hx hb dX7_bestPrime_66 (by decide) ?_
          refine lv_idiv hx hb dX7_bestPrime_68 (by decide) ?_
          obtain ⟨q_1, hq_1, hrun⟩ := bd_some hrun
          refine cI_callS (As := [.int (x5 / 64)]) (rest := []) (wr := (wX7 kI kJ to ta z nst his len txt thr god prm npr cov siz pts rea pla bef has)) (wN := (wX7 kI kJ to ta z nst his len txt thr god prm npr cov siz pts rea pla bef has)) hE (c_X7_ones l D kI kJ kS (x5 / 64)  hq_1) (va_cwS 1 hts gX7_bestPrime_X7_ones rfl rfl rfl (by decide +kernel) ⟨Nat.le_of_ble_eq_true rfl, Nat.le_of_ble_eq_true rfl⟩) hP hD hS [] [0, 1, 2, 3, 4, 5, 6, 7, 8, 9] [0, 1, 2, 3, 4, 5, 6, 7, 8, 9] rfl rfl rfl rfl (by decide) rfl rfl rfl hl.1 rfl (Nat.le_of_ble_eq_true rfl) dX7_bestPrime_69 ⟨Nat.le_of_ble_eq_true rfl, Nat.le_of_ble_eq_true rfl⟩ (fun H locs hP hD hS => ?_)
          refine lv_iload_n hx hb dX7_bestPrime_72 rfl (lv_at hl 3 rfl) ?_
          refine lv_bipush (v := 64) hx hb dX7_bestPrime_73 (by decide) ?_
          refine lv_idiv hx hb dX7_bestPrime_75 (by decide) ?_
          obtain ⟨q_2, hq_2, hrun⟩ := bd_some hrun
          refine cI_callS (As := [.int (x3 / 64)]) (rest := [.int q_1]) (wr := (wX7 kI kJ to ta z nst his len txt thr god prm npr cov siz pts rea pla bef has)) (wN := (wX7 kI kJ to ta z nst his len txt thr god prm npr cov siz pts rea pla bef has)) hE (c_X7_ones l D kI kJ kS (x3 / 64)  hq_2) (va_cwS 1 hts gX7_bestPrime_X7_ones rfl rfl rfl (by decide +kernel) ⟨Nat.le_of_ble_eq_true rfl, Nat.le_of_ble_eq_true rfl⟩) hP hD hS [] [0, 1, 2, 3, 4, 5, 6, 7, 8, 9] [0, 1, 2, 3, 4, 5, 6, 7, 8, 9] rfl rfl rfl rfl (by decide) rfl rfl rfl hl.1 rfl (Nat.le_of_ble_eq_true rfl) dX7_bestPrime_76 ⟨Nat.le_of_ble_eq_true rfl, Nat.le_of_ble_eq_true rfl⟩ (fun H locs hP hD hS => ?_)
          refine lv_icmp_ge (tgt := 86) hx hb dX7_bestPrime_79 (by decide) (fun hc => ?_) (fun hc => ?_)
          · have hrun := it_t hc hrun
            exact c_J86 x1 x3 x4 x5 s0 k8 hk8  hrun _ _ _ hP hD hS (lv_sub hl [1, 2, 3, 4, 5, 0] rfl)
          · have hrun := it_f hc hrun
            exact c_J82 x1 x3 x4 x5 s0 k8 hk8  hrun _ _ _ hP hD hS (lv_sub hl [1, 2, 3, 4, 5, 0] rfl)
  have c_L8 : ∀ (x1 : Int64) (n : Nat) (x3 : Int32) (x4 : Int32) (x5 : Int32), fX7_bestPrime_L8 x1 god prm n x3 x4 x5 = some r → wAt p l e (rmk 1 0 0 23) s m av below meth c D A 8 0 0 Q 8 [] [(0, .ref to), (1, .long x1), (3, .int x3), (4, .int x4), (5, .int x5)] (wX7 kI kJ to ta z nst his len txt thr god prm npr cov siz pts rea pla bef has) := by
    intro x1 n
    induction n with
    | zero =>
      intro x3 x4 x5 hrun
      rw [fX7_bestPrime_L8] at hrun
      cases hrun
    | succ n ih =>
      intro x3 x4 x5 hrun H locs ls hP hD hS hl
      rw [fX7_bestPrime_L8] at hrun
      refine lv_iload hx hb dX7_bestPrime_8 (lv_at hl 4 rfl) ?_
      refine lv_sipush (v := 4096) hx hb dX7_bestPrime_10 (by decide) ?_
      refine lv_icmp_ge (tgt := 121) hx hb dX7_bestPrime_13 (by decide) (fun hc => ?_) (fun hc => ?_)
      · have hrun := it_t hc hrun
        refine lv_iload_n hx hb dX7_bestPrime_121 rfl (lv_at hl 2 rfl) ?_
        obtain rfl := Option.some.inj hrun
        exact hret _ _ _ _ rfl dX7_bestPrime_122 hP hD hS
      · have hrun := it_f hc hrun
        refine lv_aload_n hx hb dX7_bestPrime_16 rfl (lv_at hl 0 rfl) ?_
        refine va_get (D := D) (ci := 6) (v := .ref (ta 4)) (C := RX7) (T := TX7) (N := 16) hx hb hts iX7_bestPrime_X7 hown hK hP 0 rfl rfl 7 (by decide) (hts _ mX7_bestPrime_1) (fun _ h9 => h9) rfl dX7_bestPrime_17 ?_
        refine lv_iload hx hb dX7_bestPrime_20 (lv_at hl 4 rfl) ?_
        obtain ⟨hin, hrun⟩ := gd_some hrun
        refine va_iald hx hb hK hP 5 0 rfl rfl hin dX7_bestPrime_22 ?_
        refine lv_iconst (v := 1) hx hb dX7_bestPrime_23 (by decide) ?_
        refine lv_icmp_ne (tgt := 42) hx hb dX7_bestPrime_24 (by decide) (fun hc => ?_) (fun hc => ?_)
        · have hrun := it_f hc hrun
          refine lv_iconst (v := 0) hx hb dX7_bestPrime_42 (by decide) ?_
          exact c_J43 x1 x3 x4 x5 0 (fX7_bestPrime_L8 x1 god prm n) ih  hrun _ _ _ hP hD hS (lv_sub hl [0, 1, 2, 3, 4] rfl)
        · have hrun := it_t hc hrun
          refine lv_aload_n hx hb dX7_bestPrime_27 rfl (lv_at hl 0 rfl) ?_
          refine va_get (D := D) (ci := 6) (v := .ref (ta 3)) (C := RX7) (T := TX7) (N := 16) hx hb hts iX7_bestPrime_X7 hown hK hP 0 rfl rfl 6 (by decide) (hts _ mX7_bestPrime_2) (fun _ h9 => h9) rfl dX7_bestPrime_28 ?_
          refine lv_iload hx hb dX7_bestPrime_31 (lv_at hl 4 rfl) ?_
          obtain ⟨hin, hrun⟩ := gd_some hrun
          refine va_lald hx hb hK hP 4 1 rfl rfl hin dX7_bestPrime_33 ?_
          refine lv_lload_n hx hb dX7_bestPrime_34 rfl (lv_at hl 1 rfl) ?_
          refine lv_land hx hb dX7_bestPrime_35 ?_
          obtain ⟨q_3, hq_3, hrun⟩ := bd_some hrun
          refine cI_callS (As := [.long ((god x5.toNatClampNeg) &&& x1)]) (rest := []) (wr := (wX7 kI kJ to ta z nst his len txt thr god prm npr cov siz pts rea pla bef has)) (wN := (wX7 kI kJ to ta z nst his len txt thr god prm npr cov siz pts rea pla bef has)) hE (c_X7_onesOf l D kI kJ kS ((god x5.toNatClampNeg) &&& x1)  hq_3) (va_cwS 1 hts gX7_bestPrime_X7_onesOf rfl rfl rfl (by decide +kernel) ⟨Nat.le_of_ble_eq_true rfl, Nat.le_of_ble_eq_true rfl⟩) hP hD hS [] [0, 1, 2, 3, 4, 5, 6, 7, 8, 9] [0, 1, 2, 3, 4, 5, 6, 7, 8, 9] rfl rfl rfl rfl (by decide) rfl rfl rfl hl.1 rfl (Nat.le_of_ble_eq_true rfl) dX7_bestPrime_36 ⟨Nat.le_of_ble_eq_true rfl, Nat.le_of_ble_eq_true rfl⟩ (fun H locs hP hD hS => ?_)
          refine lv_goto (tgt := 43) hx hb dX7_bestPrime_39 (by decide) ?_
          exact c_J43 x1 x3 x4 x5 q_3 (fX7_bestPrime_L8 x1 god prm n) ih  hrun _ _ _ hP hD hS (lv_sub hl [0, 1, 2, 3, 4] rfl)
  unfold fX7_bestPrime at hrun
  refine lv_iconst (v := (-1)) hx hb dX7_bestPrime_0 (by decide) ?_
  refine lv_istore_n (lv' := [(3, .int ((-1))), (0, .ref to), (1, .long x1)]) hx hb dX7_bestPrime_1 rfl hl (by decide) rfl (fun ls hl => ?_)
  refine lv_iconst (v := 0) hx hb dX7_bestPrime_2 (by decide) ?_
  refine lv_istore (lv' := [(4, .int 0), (3, .int ((-1))), (0, .ref to), (1, .long x1)]) hx hb dX7_bestPrime_3 hl (by decide) rfl (fun ls hl => ?_)
  refine lv_iconst (v := 0) hx hb dX7_bestPrime_5 (by decide) ?_
  refine lv_istore (lv' := [(5, .int 0), (4, .int 0), (3, .int ((-1))), (0, .ref to), (1, .long x1)]) hx hb dX7_bestPrime_6 hl (by decide) rfl (fun ls hl => ?_)
  exact c_L8 x1 5000 ((-1)) 0 0  hrun _ _ _ hP hD hS (lv_sub hl [3, 4, 2, 1, 0] rfl)
/-! ===== X7_layCover ===== -/
theorem mX7_layCover_2 : Cond.fieldLink RX7 26 "GateMazeModel" "covers" "[I" ∈ wsX7_layCover := List.mem_of_getElem? (i := 2) rfl
theorem mX7_layCover_1 : Cond.fieldLink RX7 29 "GateMazeModel" "sizes" "[I" ∈ wsX7_layCover := List.mem_of_getElem? (i := 1) rfl
theorem mX7_layCover_3 : Cond.fieldLink RX7 19 "GateMazeModel" "good" "[J" ∈ wsX7_layCover := List.mem_of_getElem? (i := 3) rfl
theorem mX7_layCover_4 : Cond.constantLong RX7 95 (-1) ∈ wsX7_layCover := List.mem_of_getElem? (i := 4) rfl
theorem iX7_layCover_X7 : ∀ w ∈ u_ws RX7 TX7 16, w ∈ wsX7_layCover := fun w h => List.mem_cons_of_mem _ (List.mem_append_right _ h)
set_option maxHeartbeats 4000000 in
set_option maxRecDepth 100000 in
theorem c_X7_layCover (l : Launch) (D : va_G) (kI kJ kS : ClassId) (to : Nat) (ta : Nat → Nat) (x1 : Int32) (z : (Nat → Int32)) (nst : Int32) (his : (Nat → Int32)) (len : Int32) (txt : (Nat → Int32)) (thr : Int32) (god : (Nat → Int64)) (prm : (Nat → Int32)) (npr : Int32) (cov : (Nat → Int32)) (siz : (Nat → Int32)) (pts : (Nat → Int32)) (rea : Int32) (pla : Int32) (bef : (Nat → Int32)) (has : Int64) {r : (Nat → Int64) × (Nat → Int32) × Int32 × (Nat → Int32) × (Nat → Int32)} (hrun : fX7_layCover z god prm cov siz x1 = some r) : cV l D (tyL kI kJ kS) false yX7_layCover wsX7_layCover (rmk 4 0 0 95) [.ref to, .int x1] (wX7 kI kJ to ta z nst his len txt thr god prm npr cov siz pts rea pla bef has) (wX7 kI kJ to ta z nst his len txt thr r.1 r.2.1 r.2.2.1 r.2.2.2.1 r.2.2.2.2 pts rea pla bef has) := by
  refine cV_of (cc := cX7_layCover) (maxL := 5) (by decide) rfl (Nat.le_of_ble_eq_true rfl) ?_
  intro p e s m av below meth c A Q ls hE hP hD hS hl hret
  have hE : ent_ p s m av meth c RX7 cX7_layCover 5 none wsX7_layCover (tyL kI kJ kS) D A false := hE
  obtain ⟨hx, hb, hml, hown, hts, hr, hlocks, hK, hA, hst⟩ := id hE
  have hl : lv_has ls 5 [(0, .ref to), (1, .int x1)] := hl
  have c_J39 : ∀ (x1 : Int32) (x4 : Int32) (s0 : Int64) (s1 : Int64) (god : (Nat → Int64)) (prm : (Nat → Int32)) (npr : Int32) (cov : (Nat → Int32)) (siz : (Nat → Int32)) (k10 : Int64 → Int32 → Option ((Nat → Int64) × (Nat → Int32) × Int32 × (Nat → Int32) × (Nat → Int32))) (hk10 : (∀ (x2 : Int64) (x4 : Int32), k10 x2 x4 = some r → wAt p l e (rmk 4 0 0 95) s m av below meth c D A 5 0 0 Q 10 [] [(0, .ref to), (1, .int x1), (2, .long x2), (4, .int x4)] (wX7 kI kJ to ta z nst his len txt thr god prm npr cov siz pts rea pla bef has))), fX7_layCover_J39 x1 x4 s0 s1 z god prm npr cov siz k10 = some r → wAt p l e (rmk 4 0 0 95) s m av below meth c D A 5 0 0 Q 39 [.long s0, .long s1] [(0, .ref to), (1, .int x1), (4, .int x4)] (wX7 kI kJ to ta z nst his len txt thr god prm npr cov siz pts rea pla bef has) := by
    intro x1 x4 s0 s1 god prm npr cov siz k10 hk10 hrun H locs ls hP hD hS hl
    unfold fX7_layCover_J39 at hrun
    refine lv_lor hx hb dX7_layCover_39 ?_
    refine lv_lstore_n (lv' := [(2, .long (s1 ||| s0)), (0, .ref to), (1, .int x1), (4, .int x4)]) hx hb dX7_layCover_40 rfl hl (by decide) rfl (fun ls hl => ?_)
    refine lv_iinc (v := x4 + 1) (lv' := [(4, .int (x4 + 1)), (2, .long (s1 ||| s0)), (0, .ref to), (1, .int x1)]) hx hb dX7_layCover_41 hl (k := 3) rfl rfl (by decide) rfl (fun ls hl => ?_)
    refine lv_goto (tgt := 10) hx hb dX7_layCover_44 (by decide) ?_
    exact hk10 (s1 ||| s0) (x4 + 1)  hrun _ _ _ hP hD hS (lv_sub hl [2, 3, 1, 0] rfl)
  have c_L54 : ∀ (x1 : Int32) (god : (Nat → Int64)) (prm : (Nat → Int32)) (npr : Int32) (n : Nat) (x2 : Int64) (cov : (Nat → Int32)) (siz : (Nat → Int32)), fX7_layCover_L54 x1 god prm npr n x2 cov siz = some r → wAt p l e (rmk 4 0 0 95) s m av below meth c D A 5 0 0 Q 54 [] [(0, .ref to), (1, .int x1), (2, .long x2)] (wX7 kI kJ to ta z nst his len txt thr god prm npr cov siz pts rea pla bef has) := by
    intro x1 god prm npr n
    induction n with
    | zero =>
      intro x2 cov siz hrun
      rw [fX7_layCover_L54] at hrun
      cases hrun
    | succ n ih =>
      intro x2 cov siz hrun H locs ls hP hD hS hl
      rw [fX7_layCover_L54] at hrun
      refine lv_lload_n hx hb dX7_layCover_54 rfl (lv_at hl 2 rfl) ?_
      refine lv_lconst (v := 0) hx hb dX7_layCover_55 (by decide) ?_
      refine W.lcmp hx hb dX7_layCover_56 ?_
      refine lv_if_eq (tgt := 112) hx hb dX7_layCover_57 (by decide) (fun hc => ?_) (fun hc => ?_)
      · have hrun := it_t hc hrun
        obtain rfl := Option.some.inj hrun
        exact hret _ _ _ _ dX7_layCover_112 hP hD hS
      · have hrun := it_f hc hrun
        refine lv_aload_n hx hb dX7_layCover_60 rfl (lv_at hl 0 rfl) ?_
        refine lv_lload_n hx hb dX7_layCover_61 rfl (lv_at hl 2 rfl) ?_
        obtain ⟨q_1, hq_1, hrun⟩ := bd_some hrun
        refine cI_callV (As := [.long x2]) (rest := []) (wr := []) (wN := (wX7 kI kJ to ta z nst his len txt thr god prm npr cov siz pts rea pla bef has)) (ci := 6) (q0 := 0) hE (c_X7_bestPrime l D kI kJ kS to ta x2 z nst his len txt thr god prm npr cov siz pts rea pla bef has hq_1) (cwV 1 hts gX7_layCover_X7_bestPrime rfl rfl rfl (by decide +kernel) ⟨Nat.le_of_ble_eq_true rfl, Nat.le_of_ble_eq_true rfl⟩) hP hD hS [0, 1, 2, 3, 4, 5, 6, 7, 8, 9] [] [0, 1, 2, 3, 4, 5, 6, 7, 8, 9] rfl rfl rfl rfl (by decide) rfl rfl rfl rfl rfl hl.1 rfl (Nat.le_of_ble_eq_true rfl) dX7_layCover_62 ⟨Nat.le_of_ble_eq_true rfl, Nat.le_of_ble_eq_true rfl⟩ (fun H locs hP hD hS => ?_)
        refine lv_istore (lv' := [(4, .int q_1), (0, .ref to), (1, .int x1), (2, .long x2)]) hx hb dX7_layCover_65 hl (by decide) rfl (fun ls hl => ?_)
        refine lv_aload_n hx hb dX7_layCover_67 rfl (lv_at hl 1 rfl) ?_
        refine va_get (D := D) (ci := 6) (v := .ref (ta 5)) (C := RX7) (T := TX7) (N := 16) hx hb hts iX7_layCover_X7 hown hK hP 0 rfl rfl 9 (by decide) (hts _ mX7_layCover_2) (fun _ h9 => h9) rfl dX7_layCover_68 ?_
        refine lv_bipush (v := 64) hx hb dX7_layCover_71 (by decide) ?_
        refine lv_iload_n hx hb dX7_layCover_73 rfl (lv_at hl 2 rfl) ?_
        refine lv_imul hx hb dX7_layCover_74 ?_
        refine lv_aload_n hx hb dX7_layCover_75 rfl (lv_at hl 1 rfl) ?_
        refine va_get (D := D) (ci := 6) (v := .ref (ta 6)) (C := RX7) (T := TX7) (N := 16) hx hb hts iX7_layCover_X7 hown hK hP 0 rfl rfl 10 (by decide) (hts _ mX7_layCover_1) (fun _ h9 => h9) rfl dX7_layCover_76 ?_
        refine lv_iload_n hx hb dX7_layCover_79 rfl (lv_at hl 2 rfl) ?_
        obtain ⟨hin, hrun⟩ := gd_some hrun
        refine va_iald hx hb hK hP 7 0 rfl rfl hin dX7_layCover_80 ?_
        refine lv_iadd hx hb dX7_layCover_81 ?_
        refine lv_iload hx hb dX7_layCover_82 (lv_at hl 0 rfl) ?_
        obtain ⟨hin, hrun⟩ := gd_some hrun
        refine va_iast hx hb hK hP hD hS 6 0 rfl rfl hin dX7_layCover_84 (fun H locs hP hD hS => ?_)
        have hP : va_P D vwCl (wX7 kI kJ to ta z nst his len txt thr god prm npr (upd cov ((64 * x1) + (siz x1.toNatClampNeg)).toNatClampNeg q_1) siz pts rea pla bef has) H := hP
        have hD : va_D A (wX7 kI kJ to ta z nst his len txt thr god prm npr (upd cov ((64 * x1) + (siz x1.toNatClampNeg)).toNatClampNeg q_1) siz pts rea pla bef has) := hD
        obtain ⟨u_2, eu_2⟩ : ∃ y, y = upd cov ((64 * x1) + (siz x1.toNatClampNeg)).toNatClampNeg q_1 := ⟨_, rfl⟩
        have hrun := lt_some eu_2 hrun
        rw [← eu_2] at hP hD
        refine lv_aload_n hx hb dX7_layCover_85 rfl (lv_at hl 1 rfl) ?_
        refine va_get (D := D) (ci := 6) (v := .ref (ta 6)) (C := RX7) (T := TX7) (N := 16) hx hb hts iX7_layCover_X7 hown hK hP 0 rfl rfl 10 (by decide) (hts _ mX7_layCover_1) (fun _ h9 => h9) rfl dX7_layCover_86 ?_
        refine lv_iload_n hx hb dX7_layCover_89 rfl (lv_at hl 2 rfl) ?_
        refine lv_dup2_11 hx hb dX7_layCover_90 rfl rfl ?_
        obtain ⟨hin, hrun⟩ := gd_some hrun
        refine va_iald hx hb hK hP 7 0 rfl rfl hin dX7_layCover_91 ?_
        refine lv_iconst (v := 1) hx hb dX7_layCover_92 (by decide) ?_
        refine lv_iadd hx hb dX7_layCover_93 ?_
        obtain ⟨hin, hrun⟩ := gd_some hrun
        refine va_iast hx hb hK hP hD hS 7 0 rfl rfl hin dX7_layCover_94 (fun H locs hP hD hS => ?_)
        have hP : va_P D vwCl (wX7 kI kJ to ta z nst his len txt thr god prm npr u_2 (upd siz x1.toNatClampNeg ((siz x1.toNatClampNeg) + 1)) pts rea pla bef has) H := hP
        have hD : va_D A (wX7 kI kJ to ta z nst his len txt thr god prm npr u_2 (upd siz x1.toNatClampNeg ((siz x1.toNatClampNeg) + 1)) pts rea pla bef has) := hD
        refine lv_lload_n hx hb dX7_layCover_95 rfl (lv_at hl 3 rfl) ?_
        refine lv_aload_n hx hb dX7_layCover_96 rfl (lv_at hl 1 rfl) ?_
        refine va_get (D := D) (ci := 6) (v := .ref (ta 3)) (C := RX7) (T := TX7) (N := 16) hx hb hts iX7_layCover_X7 hown hK hP 0 rfl rfl 6 (by decide) (hts _ mX7_layCover_3) (fun _ h9 => h9) rfl dX7_layCover_97 ?_
        refine lv_iload hx hb dX7_layCover_100 (lv_at hl 0 rfl) ?_
        obtain ⟨hin, hrun⟩ := gd_some hrun
        refine va_lald hx hb hK hP 4 1 rfl rfl hin dX7_layCover_102 ?_
        refine lv_ldc2 (v := (-1)) hx hb hown (hts _ mX7_layCover_4) dX7_layCover_103 ?_
        refine lv_lxor hx hb dX7_layCover_106 ?_
        refine lv_land hx hb dX7_layCover_107 ?_
        refine lv_lstore_n (lv' := [(2, .long (x2 &&& ((god q_1.toNatClampNeg) ^^^ ((-1))))), (4, .int q_1), (0, .ref to), (1, .int x1)]) hx hb dX7_layCover_108 rfl hl (by decide) rfl (fun ls hl => ?_)
        refine lv_goto (tgt := 54) hx hb dX7_layCover_109 (by decide) ?_
        exact ih (x2 &&& ((god q_1.toNatClampNeg) ^^^ ((-1)))) u_2 (upd siz x1.toNatClampNeg ((siz x1.toNatClampNeg) + 1))  hrun _ _ _ hP hD hS (lv_sub hl [2, 3, 0] rfl)
  have c_J47 : ∀ (x1 : Int32) (x2 : Int64) (god : (Nat → Int64)) (prm : (Nat → Int32)) (npr : Int32) (cov : (Nat → Int32)) (siz : (Nat → Int32)), fX7_layCover_J47 x1 x2 god prm npr cov siz = some r → wAt p l e (rmk 4 0 0 95) s m av below meth c D A 5 0 0 Q 47 [] [(0, .ref to), (1, .int x1), (2, .long x2)] (wX7 kI kJ to ta z nst his len txt thr god prm npr cov siz pts rea pla bef has) := by
    intro x1 x2 god prm npr cov siz hrun H locs ls hP hD hS hl
    unfold fX7_layCover_J47 at hrun
    refine lv_aload_n hx hb dX7_layCover_47 rfl (lv_at hl 0 rfl) ?_
    refine va_get (D := D) (ci := 6) (v := .ref (ta 6)) (C := RX7) (T := TX7) (N := 16) hx hb hts iX7_layCover_X7 hown hK hP 0 rfl rfl 10 (by decide) (hts _ mX7_layCover_1) (fun _ h9 => h9) rfl dX7_layCover_48 ?_
    refine lv_iload_n hx hb dX7_layCover_51 rfl (lv_at hl 1 rfl) ?_
    refine lv_iconst (v := 0) hx hb dX7_layCover_52 (by decide) ?_
    obtain ⟨hin, hrun⟩ := gd_some hrun
    refine va_iast hx hb hK hP hD hS 7 0 rfl rfl hin dX7_layCover_53 (fun H locs hP hD hS => ?_)
    have hP : va_P D vwCl (wX7 kI kJ to ta z nst his len txt thr god prm npr cov (upd siz x1.toNatClampNeg 0) pts rea pla bef has) H := hP
    have hD : va_D A (wX7 kI kJ to ta z nst his len txt thr god prm npr cov (upd siz x1.toNatClampNeg 0) pts rea pla bef has) := hD
    exact c_L54 x1 god prm npr 5000 x2 cov (upd siz x1.toNatClampNeg 0)  hrun _ _ _ hP hD hS (lv_sub hl [0, 1, 2] rfl)
  have c_L10 : ∀ (x1 : Int32) (god : (Nat → Int64)) (prm : (Nat → Int32)) (npr : Int32) (cov : (Nat → Int32)) (siz : (Nat → Int32)) (n : Nat) (x2 : Int64) (x4 : Int32), fX7_layCover_L10 x1 z god prm npr cov siz n x2 x4 = some r → wAt p l e (rmk 4 0 0 95) s m av below meth c D A 5 0 0 Q 10 [] [(0, .ref to), (1, .int x1), (2, .long x2), (4, .int x4)] (wX7 kI kJ to ta z nst his len txt thr god prm npr cov siz pts rea pla bef has) := by
    intro x1 god prm npr cov siz n
    induction n with
    | zero =>
      intro x2 x4 hrun
      rw [fX7_layCover_L10] at hrun
      cases hrun
    | succ n ih =>
      intro x2 x4 hrun H locs ls hP hD hS hl
      rw [fX7_layCover_L10] at hrun
      refine lv_iload hx hb dX7_layCover_10 (lv_at hl 3 rfl) ?_
      refine lv_aload_n hx hb dX7_layCover_12 rfl (lv_at hl 0 rfl) ?_
      obtain ⟨q_3, hq_3, hrun⟩ := bd_some hrun
      refine cI_callV (As := []) (rest := [.int x4]) (wr := []) (wN := (wX7 kI kJ to ta z nst his len txt thr god prm npr cov siz pts rea pla bef has)) (ci := 6) (q0 := 0) hE (c_X7_rows l D kI kJ kS to ta  z nst his len txt thr god prm npr cov siz pts rea pla bef has hq_3) (cwV 0 hts gX7_layCover_X7_rows rfl rfl rfl (by decide +kernel) ⟨Nat.le_of_ble_eq_true rfl, Nat.le_of_ble_eq_true rfl⟩) hP hD hS [0, 1, 2, 3, 4, 5, 6, 7, 8, 9] [] [0, 1, 2, 3, 4, 5, 6, 7, 8, 9] rfl rfl rfl rfl (by decide) rfl rfl rfl rfl rfl hl.1 rfl (Nat.le_of_ble_eq_true rfl) dX7_layCover_13 ⟨Nat.le_of_ble_eq_true rfl, Nat.le_of_ble_eq_true rfl⟩ (fun H locs hP hD hS => ?_)
      refine lv_icmp_ge (tgt := 47) hx hb dX7_layCover_16 (by decide) (fun hc => ?_) (fun hc => ?_)
      · have hrun := it_t hc hrun
        exact c_J47 x1 x2 god prm npr cov siz  hrun _ _ _ hP hD hS (lv_sub hl [0, 1, 2] rfl)
      · have hrun := it_f hc hrun
        refine lv_lload_n hx hb dX7_layCover_19 rfl (lv_at hl 2 rfl) ?_
        refine lv_aload_n hx hb dX7_layCover_20 rfl (lv_at hl 0 rfl) ?_
        refine lv_iload_n hx hb dX7_layCover_21 rfl (lv_at hl 1 rfl) ?_
        refine lv_iload hx hb dX7_layCover_22 (lv_at hl 3 rfl) ?_
        obtain ⟨q_4, hq_4, hrun⟩ := bd_some hrun
        refine cI_callV (As := [.int x1, .int x4]) (rest := [.long x2]) (wr := []) (wN := (wX7 kI kJ to ta z nst his len txt thr god prm npr cov siz pts rea pla bef has)) (ci := 6) (q0 := 0) hE (c_X7_decided l D kI kJ kS to ta x1 x4 z nst his len txt thr god prm npr cov siz pts rea pla bef has hq_4) (cwV 2 hts gX7_layCover_X7_decided rfl rfl rfl (by decide +kernel) ⟨Nat.le_of_ble_eq_true rfl, Nat.le_of_ble_eq_true rfl⟩) hP hD hS [0, 1, 2, 3, 4, 5, 6, 7, 8, 9] [] [0, 1, 2, 3, 4, 5, 6, 7, 8, 9] rfl rfl rfl rfl (by decide) rfl rfl rfl rfl rfl hl.1 rfl (Nat.le_of_ble_eq_true rfl) dX7_layCover_24 ⟨Nat.le_of_ble_eq_true rfl, Nat.le_of_ble_eq_true rfl⟩ (fun H locs hP hD hS => ?_)
        refine lv_iconst (v := 1) hx hb dX7_layCover_27 (by decide) ?_
        refine lv_icmp_ne (tgt := 38) hx hb dX7_layCover_28 (by decide) (fun hc => ?_) (fun hc => ?_)
        · have hrun := it_f hc hrun
          refine lv_lconst (v := 0) hx hb dX7_layCover_38 (by decide) ?_
          exact c_J39 x1 x4 0 x2 god prm npr cov siz (fX7_layCover_L10 x1 z god prm npr cov siz n) ih  hrun _ _ _ hP hD hS (lv_sub hl [0, 1, 3] rfl)
        · have hrun := it_t hc hrun
          refine lv_lconst (v := 1) hx hb dX7_layCover_31 (by decide) ?_
          refine lv_iload hx hb dX7_layCover_32 (lv_at hl 3 rfl) ?_
          refine lv_lshl hx hb dX7_layCover_34 rfl ?_
          refine lv_goto (tgt := 39) hx hb dX7_layCover_35 (by decide) ?_
          exact c_J39 x1 x4 (lsl_ 1 x4) x2 god prm npr cov siz (fX7_layCover_L10 x1 z god prm npr cov siz n) ih  hrun _ _ _ hP hD hS (lv_sub hl [0, 1, 3] rfl)
  unfold fX7_layCover at hrun
  refine lv_aload_n hx hb dX7_layCover_0 rfl (lv_at hl 0 rfl) ?_
  refine lv_iload_n hx hb dX7_layCover_1 rfl (lv_at hl 1 rfl) ?_
  obtain ⟨q_5, hq_5, hrun⟩ := bd_some hrun
  refine cV_callV (As := [.int x1]) (rest := []) (wr := []) (wN := (wX7 kI kJ to ta z nst his len txt thr q_5.1 q_5.2.1 q_5.2.2 cov siz pts rea pla bef has)) (ci := 6) (q0 := 0) hE (c_X7_layPrimes l D kI kJ kS to ta x1 z nst his len txt thr god prm npr cov siz pts rea pla bef has hq_5) (cwV 1 hts gX7_layCover_X7_layPrimes rfl rfl rfl (by decide +kernel) ⟨Nat.le_of_ble_eq_true rfl, Nat.le_of_ble_eq_true rfl⟩) hP hD hS [0, 1, 2, 3, 4, 5, 6, 7, 8, 9] [] [0, 1, 2, 3, 4, 5, 6, 7, 8, 9] rfl rfl rfl rfl (by decide) rfl rfl rfl rfl rfl hl.1 rfl (Nat.le_of_ble_eq_true rfl) dX7_layCover_2 ⟨Nat.le_of_ble_eq_true rfl, Nat.le_of_ble_eq_true rfl⟩ (fun H locs hP hD hS => ?_)
  refine lv_lconst (v := 0) hx hb dX7_layCover_5 (by decide) ?_
  refine lv_lstore_n (lv' := [(2, .long 0), (0, .ref to), (1, .int x1)]) hx hb dX7_layCover_6 rfl hl (by decide) rfl (fun ls hl => ?_)
  refine lv_iconst (v := 0) hx hb dX7_layCover_7 (by decide) ?_
  refine lv_istore (lv' := [(4, .int 0), (2, .long 0), (0, .ref to), (1, .int x1)]) hx hb dX7_layCover_8 hl (by decide) rfl (fun ls hl => ?_)
  exact c_L10 x1 q_5.1 q_5.2.1 q_5.2.2 cov siz 5000 0 0  hrun _ _ _ hP hD hS (lv_sub hl [2, 3, 1, 0] rfl)
/-! ===== X7_layAll ===== -/
set_option maxHeartbeats 4000000 in
set_option maxRecDepth 100000 in
theorem c_X7_layAll (l : Launch) (D : va_G) (kI kJ kS : ClassId) (to : Nat) (ta : Nat → Nat) (z : (Nat → Int32)) (nst : Int32) (his : (Nat → Int32)) (len : Int32) (txt : (Nat → Int32)) (thr : Int32) (god : (Nat → Int64)) (prm : (Nat → Int32)) (npr : Int32) (cov : (Nat → Int32)) (siz : (Nat → Int32)) (pts : (Nat → Int32)) (rea : Int32) (pla : Int32) (bef : (Nat → Int32)) (has : Int64) {r : (Nat → Int64) × (Nat → Int32) × Int32 × (Nat → Int32) × (Nat → Int32)} (hrun : fX7_layAll z god prm npr cov siz = some r) : cV l D (tyL kI kJ kS) false yX7_layAll wsX7_layAll (rmk 5 0 0 119) [.ref to] (wX7 kI kJ to ta z nst his len txt thr god prm npr cov siz pts rea pla bef has) (wX7 kI kJ to ta z nst his len txt thr r.1 r.2.1 r.2.2.1 r.2.2.2.1 r.2.2.2.2 pts rea pla bef has) := by
  refine cV_of (cc := cX7_layAll) (maxL := 2) (by decide) rfl (Nat.le_of_ble_eq_true rfl) ?_
  intro p e s m av below meth c A Q ls hE hP hD hS hl hret
  have hE : ent_ p s m av meth c RX7 cX7_layAll 2 none wsX7_layAll (tyL kI kJ kS) D A false := hE
  obtain ⟨hx, hb, hml, hown, hts, hr, hlocks, hK, hA, hst⟩ := id hE
  have hl : lv_has ls 2 [(0, .ref to)] := hl
  have c_L2 : ∀  (n : Nat) (x1 : Int32) (god : (Nat → Int64)) (prm : (Nat → Int32)) (npr : Int32) (cov : (Nat → Int32)) (siz : (Nat → Int32)), fX7_layAll_L2 z n x1 god prm npr cov siz = some r → wAt p l e (rmk 5 0 0 119) s m av below meth c D A 2 0 0 Q 2 [] [(0, .ref to), (1, .int x1)] (wX7 kI kJ to ta z nst his len txt thr god prm npr cov siz pts rea pla bef has) := by
    intro  n
    induction n with
    | zero =>
      intro x1 god prm npr cov siz hrun
      rw [fX7_layAll_L2] at hrun
      cases hrun
    | succ n ih =>
      intro x1 god prm npr cov siz hrun H locs ls hP hD hS hl
      rw [fX7_layAll_L2] at hrun
      refine lv_iload_n hx hb dX7_layAll_2 rfl (lv_at hl 1 rfl) ?_
      refine lv_iconst (v := 4) hx hb dX7_layAll_3 (by decide) ?_
      refine lv_icmp_ge (tgt := 18) hx hb dX7_layAll_4 (by decide) (fun hc => ?_) (fun hc => ?_)
      · have hrun := it_t hc hrun
        obtain rfl := Option.some.inj hrun
        exact hret _ _ _ _ dX7_layAll_18 hP hD hS
      · have hrun := it_f hc hrun
        refine lv_aload_n hx hb dX7_layAll_7 rfl (lv_at hl 0 rfl) ?_
        refine lv_iload_n hx hb dX7_layAll_8 rfl (lv_at hl 1 rfl) ?_
        obtain ⟨q_1, hq_1, hrun⟩ := bd_some hrun
        refine cV_callV (As := [.int x1]) (rest := []) (wr := []) (wN := (wX7 kI kJ to ta z nst his len txt thr q_1.1 q_1.2.1 q_1.2.2.1 q_1.2.2.2.1 q_1.2.2.2.2 pts rea pla bef has)) (ci := 6) (q0 := 0) hE (c_X7_layCover l D kI kJ kS to ta x1 z nst his len txt thr god prm npr cov siz pts rea pla bef has hq_1) (cwV 1 hts gX7_layAll_X7_layCover rfl rfl rfl (by decide +kernel) ⟨Nat.le_of_ble_eq_true rfl, Nat.le_of_ble_eq_true rfl⟩) hP hD hS [0, 1, 2, 3, 4, 5, 6, 7, 8, 9] [] [0, 1, 2, 3, 4, 5, 6, 7, 8, 9] rfl rfl rfl rfl (by decide) rfl rfl rfl rfl rfl hl.1 rfl (Nat.le_of_ble_eq_true rfl) dX7_layAll_9 ⟨Nat.le_of_ble_eq_true rfl, Nat.le_of_ble_eq_true rfl⟩ (fun H locs hP hD hS => ?_)
        refine lv_iinc (v := x1 + 1) (lv' := [(1, .int (x1 + 1)), (0, .ref to)]) hx hb dX7_layAll_12 hl (k := 1) rfl rfl (by decide) rfl (fun ls hl => ?_)
        refine lv_goto (tgt := 2) hx hb dX7_layAll_15 (by decide) ?_
        exact ih (x1 + 1) q_1.1 q_1.2.1 q_1.2.2.1 q_1.2.2.2.1 q_1.2.2.2.2  hrun _ _ _ hP hD hS (lv_sub hl [1, 0] rfl)
  unfold fX7_layAll at hrun
  refine lv_iconst (v := 0) hx hb dX7_layAll_0 (by decide) ?_
  refine lv_istore_n (lv' := [(1, .int 0), (0, .ref to)]) hx hb dX7_layAll_1 rfl hl (by decide) rfl (fun ls hl => ?_)
  exact c_L2  5000 0 god prm npr cov siz  hrun _ _ _ hP hD hS (lv_sub hl [1, 0] rfl)
/-! ===== X7_hasProduct ===== -/
theorem mX7_hasProduct_1 : Cond.fieldLink RX7 29 "GateMazeModel" "sizes" "[I" ∈ wsX7_hasProduct := List.mem_of_getElem? (i := 1) rfl
theorem mX7_hasProduct_2 : Cond.fieldLink RX7 26 "GateMazeModel" "covers" "[I" ∈ wsX7_hasProduct := List.mem_of_getElem? (i := 2) rfl
theorem iX7_hasProduct_X7 : ∀ w ∈ u_ws RX7 TX7 16, w ∈ wsX7_hasProduct := fun w h => List.mem_cons_of_mem _ (List.mem_append_right _ h)
set_option maxHeartbeats 4000000 in
set_option maxRecDepth 100000 in
theorem c_X7_hasProduct (l : Launch) (D : va_G) (kI kJ kS : ClassId) (to : Nat) (ta : Nat → Nat) (x1 : Int32) (x2 : Int32) (z : (Nat → Int32)) (nst : Int32) (his : (Nat → Int32)) (len : Int32) (txt : (Nat → Int32)) (thr : Int32) (god : (Nat → Int64)) (prm : (Nat → Int32)) (npr : Int32) (cov : (Nat → Int32)) (siz : (Nat → Int32)) (pts : (Nat → Int32)) (rea : Int32) (pla : Int32) (bef : (Nat → Int32)) (has : Int64) {r : Int32} (hrun : fX7_hasProduct cov siz x1 x2 = some r) : cI l D (tyL kI kJ kS) false yX7_hasProduct wsX7_hasProduct (rmk 0 0 0 0) [.ref to, .int x1, .int x2] (wX7 kI kJ to ta z nst his len txt thr god prm npr cov siz pts rea pla bef has) (wX7 kI kJ to ta z nst his len txt thr god prm npr cov siz pts rea pla bef has) r := by
  refine cI_of (cc := cX7_hasProduct) (maxL := 5) (by decide) rfl (Nat.le_of_ble_eq_true rfl) ?_
  intro p e s m av below meth c A Q ls hE hP hD hS hl hret
  have hE : ent_ p s m av meth c RX7 cX7_hasProduct 5 (some .boolean) wsX7_hasProduct (tyL kI kJ kS) D A false := hE
  obtain ⟨hx, hb, hml, hown, hts, hr, hlocks, hK, hA, hst⟩ := id hE
  have hl : lv_has ls 5 [(0, .ref to), (1, .int x1), (2, .int x2)] := hl
  have c_J41 : ∀ (x1 : Int32) (x2 : Int32) (x4 : Int32) (s0 : Int32) (k5 : Int32 → Int32 → Option (Int32)) (hk5 : (∀ (x3 : Int32) (x4 : Int32), k5 x3 x4 = some r → wAt p l e (rmk 0 0 0 0) s m av below meth c D A 5 0 0 Q 5 [] [(0, .ref to), (1, .int x1), (2, .int x2), (3, .int x3), (4, .int x4)] (wX7 kI kJ to ta z nst his len txt thr god prm npr cov siz pts rea pla bef has))), fX7_hasProduct_J41 x1 x2 x4 s0 cov siz k5 = some r → wAt p l e (rmk 0 0 0 0) s m av below meth c D A 5 0 0 Q 41 [.int s0] [(0, .ref to), (1, .int x1), (2, .int x2), (4, .int x4)] (wX7 kI kJ to ta z nst his len txt thr god prm npr cov siz pts rea pla bef has) := by
    intro x1 x2 x4 s0 k5 hk5 hrun H locs ls hP hD hS hl
    unfold fX7_hasProduct_J41 at hrun
    refine lv_istore_n (lv' := [(3, .int s0), (0, .ref to), (1, .int x1), (2, .int x2), (4, .int x4)]) hx hb dX7_hasProduct_41 rfl hl (by decide) rfl (fun ls hl => ?_)
    refine lv_iinc (v := x4 + 1) (lv' := [(4, .int (x4 + 1)), (3, .int s0), (0, .ref to), (1, .int x1), (2, .int x2)]) hx hb dX7_hasProduct_42 hl (k := 4) rfl rfl (by decide) rfl (fun ls hl => ?_)
    refine lv_goto (tgt := 5) hx hb dX7_hasProduct_45 (by decide) ?_
    exact hk5 s0 (x4 + 1)  hrun _ _ _ hP hD hS (lv_sub hl [2, 3, 4, 1, 0] rfl)
  have c_J36 : ∀ (x1 : Int32) (x2 : Int32) (x4 : Int32) (k5 : Int32 → Int32 → Option (Int32)) (hk5 : (∀ (x3 : Int32) (x4 : Int32), k5 x3 x4 = some r → wAt p l e (rmk 0 0 0 0) s m av below meth c D A 5 0 0 Q 5 [] [(0, .ref to), (1, .int x1), (2, .int x2), (3, .int x3), (4, .int x4)] (wX7 kI kJ to ta z nst his len txt thr god prm npr cov siz pts rea pla bef has))), fX7_hasProduct_J36 x1 x2 x4 cov siz k5 = some r → wAt p l e (rmk 0 0 0 0) s m av below meth c D A 5 0 0 Q 36 [] [(0, .ref to), (1, .int x1), (2, .int x2), (4, .int x4)] (wX7 kI kJ to ta z nst his len txt thr god prm npr cov siz pts rea pla bef has) := by
    intro x1 x2 x4 k5 hk5 hrun H locs ls hP hD hS hl
    unfold fX7_hasProduct_J36 at hrun
    refine lv_iconst (v := 1) hx hb dX7_hasProduct_36 (by decide) ?_
    refine lv_goto (tgt := 41) hx hb dX7_hasProduct_37 (by decide) ?_
    exact c_J41 x1 x2 x4 1 k5 hk5  hrun _ _ _ hP hD hS (lv_sub hl [0, 1, 2, 3] rfl)
  have c_L5 : ∀ (x1 : Int32) (x2 : Int32) (n : Nat) (x3 : Int32) (x4 : Int32), fX7_hasProduct_L5 x1 x2 cov siz n x3 x4 = some r → wAt p l e (rmk 0 0 0 0) s m av below meth c D A 5 0 0 Q 5 [] [(0, .ref to), (1, .int x1), (2, .int x2), (3, .int x3), (4, .int x4)] (wX7 kI kJ to ta z nst his len txt thr god prm npr cov siz pts rea pla bef has) := by
    intro x1 x2 n
    induction n with
    | zero =>
      intro x3 x4 hrun
      rw [fX7_hasProduct_L5] at hrun
      cases hrun
    | succ n ih =>
      intro x3 x4 hrun H locs ls hP hD hS hl
      rw [fX7_hasProduct_L5] at hrun
      refine lv_iload hx hb dX7_hasProduct_5 (lv_at hl 4 rfl) ?_
      refine lv_aload_n hx hb dX7_hasProduct_7 rfl (lv_at hl 0 rfl) ?_
      refine va_get (D := D) (ci := 6) (v := .ref (ta 6)) (C := RX7) (T := TX7) (N := 16) hx hb hts iX7_hasProduct_X7 hown hK hP 0 rfl rfl 10 (by decide) (hts _ mX7_hasProduct_1) (fun _ h9 => h9) rfl dX7_hasProduct_8 ?_
      refine lv_iload_n hx hb dX7_hasProduct_11 rfl (lv_at hl 1 rfl) ?_
      obtain ⟨hin, hrun⟩ := gd_some hrun
      refine va_iald hx hb hK hP 7 0 rfl rfl hin dX7_hasProduct_12 ?_
      refine lv_icmp_ge (tgt := 48) hx hb dX7_hasProduct_13 (by decide) (fun hc => ?_) (fun hc => ?_)
      · have hrun := it_t hc hrun
        refine lv_iload_n hx hb dX7_hasProduct_48 rfl (lv_at hl 3 rfl) ?_
        obtain ⟨hn, hrun⟩ := gb_some hrun
        obtain rfl := Option.some.inj hrun
        exact hret _ _ _ _ hn dX7_hasProduct_49 hP hD hS
      · have hrun := it_f hc hrun
        refine lv_iload_n hx hb dX7_hasProduct_16 rfl (lv_at hl 3 rfl) ?_
        refine lv_if_ne (tgt := 36) hx hb dX7_hasProduct_17 (by decide) (fun hc => ?_) (fun hc => ?_)
        · have hrun := it_f hc hrun
          exact c_J36 x1 x2 x4 (fX7_hasProduct_L5 x1 x2 cov siz n) ih  hrun _ _ _ hP hD hS (lv_sub hl [0, 1, 2, 4] rfl)
        · have hrun := it_t hc hrun
          refine lv_aload_n hx hb dX7_hasProduct_20 rfl (lv_at hl 0 rfl) ?_
          refine va_get (D := D) (ci := 6) (v := .ref (ta 5)) (C := RX7) (T := TX7) (N := 16) hx hb hts iX7_hasProduct_X7 hown hK hP 0 rfl rfl 9 (by decide) (hts _ mX7_hasProduct_2) (fun _ h9 => h9) rfl dX7_hasProduct_21 ?_
          refine lv_bipush (v := 64) hx hb dX7_hasProduct_24 (by decide) ?_
          refine lv_iload_n hx hb dX7_hasProduct_26 rfl (lv_at hl 1 rfl) ?_
          refine lv_imul hx hb dX7_hasProduct_27 ?_
          refine lv_iload hx hb dX7_hasProduct_28 (lv_at hl 4 rfl) ?_
          refine lv_iadd hx hb dX7_hasProduct_30 ?_
          obtain ⟨hin, hrun⟩ := gd_some hrun
          refine va_iald hx hb hK hP 6 0 rfl rfl hin dX7_hasProduct_31 ?_
          refine lv_iload_n hx hb dX7_hasProduct_32 rfl (lv_at hl 2 rfl) ?_
          refine lv_icmp_ne (tgt := 40) hx hb dX7_hasProduct_33 (by decide) (fun hc => ?_) (fun hc => ?_)
          · have hrun := it_f hc hrun
            refine lv_iconst (v := 0) hx hb dX7_hasProduct_40 (by decide) ?_
            exact c_J41 x1 x2 x4 0 (fX7_hasProduct_L5 x1 x2 cov siz n) ih  hrun _ _ _ hP hD hS (lv_sub hl [0, 1, 2, 4] rfl)
          · have hrun := it_t hc hrun
            exact c_J36 x1 x2 x4 (fX7_hasProduct_L5 x1 x2 cov siz n) ih  hrun _ _ _ hP hD hS (lv_sub hl [0, 1, 2, 4] rfl)
  unfold fX7_hasProduct at hrun
  refine lv_iconst (v := 0) hx hb dX7_hasProduct_0 (by decide) ?_
  refine lv_istore_n (lv' := [(3, .int 0), (0, .ref to), (1, .int x1), (2, .int x2)]) hx hb dX7_hasProduct_1 rfl hl (by decide) rfl (fun ls hl => ?_)
  refine lv_iconst (v := 0) hx hb dX7_hasProduct_2 (by decide) ?_
  refine lv_istore (lv' := [(4, .int 0), (3, .int 0), (0, .ref to), (1, .int x1), (2, .int x2)]) hx hb dX7_hasProduct_3 hl (by decide) rfl (fun ls hl => ?_)
  exact c_L5 x1 x2 5000 0 0  hrun _ _ _ hP hD hS (lv_sub hl [2, 3, 4, 1, 0] rfl)
/-! ===== X7_answer ===== -/
theorem mX7_answer_1 : Cond.fieldLink RX7 29 "GateMazeModel" "sizes" "[I" ∈ wsX7_answer := List.mem_of_getElem? (i := 1) rfl
theorem mX7_answer_2 : Cond.fieldLink RX7 26 "GateMazeModel" "covers" "[I" ∈ wsX7_answer := List.mem_of_getElem? (i := 2) rfl
theorem iX7_answer_X7 : ∀ w ∈ u_ws RX7 TX7 16, w ∈ wsX7_answer := fun w h => List.mem_cons_of_mem _ (List.mem_append_right _ h)
set_option maxHeartbeats 4000000 in
set_option maxRecDepth 100000 in
theorem c_X7_answer (l : Launch) (D : va_G) (kI kJ kS : ClassId) (to : Nat) (ta : Nat → Nat) (x1 : Int32) (x2 : Int32) (z : (Nat → Int32)) (nst : Int32) (his : (Nat → Int32)) (len : Int32) (txt : (Nat → Int32)) (thr : Int32) (god : (Nat → Int64)) (prm : (Nat → Int32)) (npr : Int32) (cov : (Nat → Int32)) (siz : (Nat → Int32)) (pts : (Nat → Int32)) (rea : Int32) (pla : Int32) (bef : (Nat → Int32)) (has : Int64) {r : Int32} (hrun : fX7_answer cov siz x1 x2 = some r) : cI l D (tyL kI kJ kS) false yX7_answer wsX7_answer (rmk 0 0 0 0) [.ref to, .int x1, .int x2] (wX7 kI kJ to ta z nst his len txt thr god prm npr cov siz pts rea pla bef has) (wX7 kI kJ to ta z nst his len txt thr god prm npr cov siz pts rea pla bef has) r := by
  refine cI_of (cc := cX7_answer) (maxL := 6) (by decide) rfl (Nat.le_of_ble_eq_true rfl) ?_
  intro p e s m av below meth c A Q ls hE hP hD hS hl hret
  have hE : ent_ p s m av meth c RX7 cX7_answer 6 (some .int) wsX7_answer (tyL kI kJ kS) D A false := hE
  obtain ⟨hx, hb, hml, hown, hts, hr, hlocks, hK, hA, hst⟩ := id hE
  have hl : lv_has ls 6 [(0, .ref to), (1, .int x1), (2, .int x2)] := hl
  have c_J50 : ∀ (x1 : Int32) (x2 : Int32) (x4 : Int32) (s0 : Int32) (k5 : Int32 → Int32 → Option (Int32)) (hk5 : (∀ (x3 : Int32) (x4 : Int32), k5 x3 x4 = some r → wAt p l e (rmk 0 0 0 0) s m av below meth c D A 6 0 0 Q 5 [] [(0, .ref to), (1, .int x1), (2, .int x2), (3, .int x3), (4, .int x4)] (wX7 kI kJ to ta z nst his len txt thr god prm npr cov siz pts rea pla bef has))), fX7_answer_J50 x1 x2 x4 s0 cov siz k5 = some r → wAt p l e (rmk 0 0 0 0) s m av below meth c D A 6 0 0 Q 50 [.int s0] [(0, .ref to), (1, .int x1), (2, .int x2), (4, .int x4)] (wX7 kI kJ to ta z nst his len txt thr god prm npr cov siz pts rea pla bef has) := by
    intro x1 x2 x4 s0 k5 hk5 hrun H locs ls hP hD hS hl
    unfold fX7_answer_J50 at hrun
    refine lv_istore_n (lv' := [(3, .int s0), (0, .ref to), (1, .int x1), (2, .int x2), (4, .int x4)]) hx hb dX7_answer_50 rfl hl (by decide) rfl (fun ls hl => ?_)
    refine lv_iinc (v := x4 + 1) (lv' := [(4, .int (x4 + 1)), (3, .int s0), (0, .ref to), (1, .int x1), (2, .int x2)]) hx hb dX7_answer_51 hl (k := 4) rfl rfl (by decide) rfl (fun ls hl => ?_)
    refine lv_goto (tgt := 5) hx hb dX7_answer_54 (by decide) ?_
    exact hk5 s0 (x4 + 1)  hrun _ _ _ hP hD hS (lv_sub hl [2, 3, 4, 1, 0] rfl)
  have c_L5 : ∀ (x1 : Int32) (x2 : Int32) (n : Nat) (x3 : Int32) (x4 : Int32), fX7_answer_L5 x1 x2 cov siz n x3 x4 = some r → wAt p l e (rmk 0 0 0 0) s m av below meth c D A 6 0 0 Q 5 [] [(0, .ref to), (1, .int x1), (2, .int x2), (3, .int x3), (4, .int x4)] (wX7 kI kJ to ta z nst his len txt thr god prm npr cov siz pts rea pla bef has) := by
    intro x1 x2 n
    induction n with
    | zero =>
      intro x3 x4 hrun
      rw [fX7_answer_L5] at hrun
      cases hrun
    | succ n ih =>
      intro x3 x4 hrun H locs ls hP hD hS hl
      rw [fX7_answer_L5] at hrun
      refine lv_iload hx hb dX7_answer_5 (lv_at hl 4 rfl) ?_
      refine lv_aload_n hx hb dX7_answer_7 rfl (lv_at hl 0 rfl) ?_
      refine va_get (D := D) (ci := 6) (v := .ref (ta 6)) (C := RX7) (T := TX7) (N := 16) hx hb hts iX7_answer_X7 hown hK hP 0 rfl rfl 10 (by decide) (hts _ mX7_answer_1) (fun _ h9 => h9) rfl dX7_answer_8 ?_
      refine lv_iload_n hx hb dX7_answer_11 rfl (lv_at hl 1 rfl) ?_
      obtain ⟨hin, hrun⟩ := gd_some hrun
      refine va_iald hx hb hK hP 7 0 rfl rfl hin dX7_answer_12 ?_
      refine lv_icmp_ge (tgt := 57) hx hb dX7_answer_13 (by decide) (fun hc => ?_) (fun hc => ?_)
      · have hrun := it_t hc hrun
        refine lv_iload_n hx hb dX7_answer_57 rfl (lv_at hl 3 rfl) ?_
        obtain rfl := Option.some.inj hrun
        exact hret _ _ _ _ rfl dX7_answer_58 hP hD hS
      · have hrun := it_f hc hrun
        refine lv_aload_n hx hb dX7_answer_16 rfl (lv_at hl 0 rfl) ?_
        refine va_get (D := D) (ci := 6) (v := .ref (ta 5)) (C := RX7) (T := TX7) (N := 16) hx hb hts iX7_answer_X7 hown hK hP 0 rfl rfl 9 (by decide) (hts _ mX7_answer_2) (fun _ h9 => h9) rfl dX7_answer_17 ?_
        refine lv_bipush (v := 64) hx hb dX7_answer_20 (by decide) ?_
        refine lv_iload_n hx hb dX7_answer_22 rfl (lv_at hl 1 rfl) ?_
        refine lv_imul hx hb dX7_answer_23 ?_
        refine lv_iload hx hb dX7_answer_24 (lv_at hl 4 rfl) ?_
        refine lv_iadd hx hb dX7_answer_26 ?_
        obtain ⟨hin, hrun⟩ := gd_some hrun
        refine va_iald hx hb hK hP 6 0 rfl rfl hin dX7_answer_27 ?_
        refine lv_istore (lv' := [(5, .int (cov ((64 * x1) + x4).toNatClampNeg)), (0, .ref to), (1, .int x1), (2, .int x2), (3, .int x3), (4, .int x4)]) hx hb dX7_answer_28 hl (by decide) rfl (fun ls hl => ?_)
        refine lv_iload_n hx hb dX7_answer_30 rfl (lv_at hl 3 rfl) ?_
        refine lv_iload hx hb dX7_answer_31 (lv_at hl 0 rfl) ?_
        refine lv_bipush (v := 64) hx hb dX7_answer_33 (by decide) ?_
        refine lv_idiv hx hb dX7_answer_35 (by decide) ?_
        refine lv_iand hx hb dX7_answer_36 ?_
        refine lv_iload hx hb dX7_answer_37 (lv_at hl 0 rfl) ?_
        refine lv_bipush (v := 64) hx hb dX7_answer_39 (by decide) ?_
        refine lv_irem hx hb dX7_answer_41 (by decide) ?_
        refine lv_icmp_ne (tgt := 49) hx hb dX7_answer_42 (by decide) (fun hc => ?_) (fun hc => ?_)
        · have hrun := it_f hc hrun
          refine lv_iload_n hx hb dX7_answer_49 rfl (lv_at hl 4 rfl) ?_
          exact c_J50 x1 x2 x4 x3 (fX7_answer_L5 x1 x2 cov siz n) ih  hrun _ _ _ hP hD hS (lv_sub hl [1, 2, 3, 5] rfl)
        · have hrun := it_t hc hrun
          refine lv_iconst (v := 1) hx hb dX7_answer_45 (by decide) ?_
          refine lv_goto (tgt := 50) hx hb dX7_answer_46 (by decide) ?_
          exact c_J50 x1 x2 x4 1 (fX7_answer_L5 x1 x2 cov siz n) ih  hrun _ _ _ hP hD hS (lv_sub hl [1, 2, 3, 5] rfl)
  unfold fX7_answer at hrun
  refine lv_iconst (v := 0) hx hb dX7_answer_0 (by decide) ?_
  refine lv_istore_n (lv' := [(3, .int 0), (0, .ref to), (1, .int x1), (2, .int x2)]) hx hb dX7_answer_1 rfl hl (by decide) rfl (fun ls hl => ?_)
  refine lv_iconst (v := 0) hx hb dX7_answer_2 (by decide) ?_
  refine lv_istore (lv' := [(4, .int 0), (3, .int 0), (0, .ref to), (1, .int x1), (2, .int x2)]) hx hb dX7_answer_3 hl (by decide) rfl (fun ls hl => ?_)
  exact c_L5 x1 x2 5000 0 0  hrun _ _ _ hP hD hS (lv_sub hl [2, 3, 4, 1, 0] rfl)
/-! ===== X7_coversWith ===== -/
set_option maxHeartbeats 4000000 in
set_option maxRecDepth 100000 in
theorem c_X7_coversWith (l : Launch) (D : va_G) (kI kJ kS : ClassId) (to : Nat) (ta : Nat → Nat) (x1 : Int32) (z : (Nat → Int32)) (nst : Int32) (his : (Nat → Int32)) (len : Int32) (txt : (Nat → Int32)) (thr : Int32) (god : (Nat → Int64)) (prm : (Nat → Int32)) (npr : Int32) (cov : (Nat → Int32)) (siz : (Nat → Int32)) (pts : (Nat → Int32)) (rea : Int32) (pla : Int32) (bef : (Nat → Int32)) (has : Int64) {r : Int32} (hrun : fX7_coversWith cov siz x1 = some r) : cI l D (tyL kI kJ kS) false yX7_coversWith wsX7_coversWith (rmk 1 0 0 24) [.ref to, .int x1] (wX7 kI kJ to ta z nst his len txt thr god prm npr cov siz pts rea pla bef has) (wX7 kI kJ to ta z nst his len txt thr god prm npr cov siz pts rea pla bef has) r := by
  refine cI_of (cc := cX7_coversWith) (maxL := 4) (by decide) rfl (Nat.le_of_ble_eq_true rfl) ?_
  intro p e s m av below meth c A Q ls hE hP hD hS hl hret
  have hE : ent_ p s m av meth c RX7 cX7_coversWith 4 (some .int) wsX7_coversWith (tyL kI kJ kS) D A false := hE
  obtain ⟨hx, hb, hml, hown, hts, hr, hlocks, hK, hA, hst⟩ := id hE
  have hl : lv_has ls 4 [(0, .ref to), (1, .int x1)] := hl
  have c_J24 : ∀ (x1 : Int32) (x3 : Int32) (s0 : Int32) (s1 : Int32) (k4 : Int32 → Int32 → Option (Int32)) (hk4 : (∀ (x2 : Int32) (x3 : Int32), k4 x2 x3 = some r → wAt p l e (rmk 1 0 0 24) s m av below meth c D A 4 0 0 Q 4 [] [(0, .ref to), (1, .int x1), (2, .int x2), (3, .int x3)] (wX7 kI kJ to ta z nst his len txt thr god prm npr cov siz pts rea pla bef has))), fX7_coversWith_J24 x1 x3 s0 s1 cov siz k4 = some r → wAt p l e (rmk 1 0 0 24) s m av below meth c D A 4 0 0 Q 24 [.int s0, .int s1] [(0, .ref to), (1, .int x1), (3, .int x3)] (wX7 kI kJ to ta z nst his len txt thr god prm npr cov siz pts rea pla bef has) := by
    intro x1 x3 s0 s1 k4 hk4 hrun H locs ls hP hD hS hl
    unfold fX7_coversWith_J24 at hrun
    refine lv_iadd hx hb dX7_coversWith_24 ?_
    refine lv_istore_n (lv' := [(2, .int (s1 + s0)), (0, .ref to), (1, .int x1), (3, .int x3)]) hx hb dX7_coversWith_25 rfl hl (by decide) rfl (fun ls hl => ?_)
    refine lv_iinc (v := x3 + 1) (lv' := [(3, .int (x3 + 1)), (2, .int (s1 + s0)), (0, .ref to), (1, .int x1)]) hx hb dX7_coversWith_26 hl (k := 3) rfl rfl (by decide) rfl (fun ls hl => ?_)
    refine lv_goto (tgt := 4) hx hb dX7_coversWith_29 (by decide) ?_
    exact hk4 (s1 + s0) (x3 + 1)  hrun _ _ _ hP hD hS (lv_sub hl [2, 3, 1, 0] rfl)
  have c_L4 : ∀ (x1 : Int32) (n : Nat) (x2 : Int32) (x3 : Int32), fX7_coversWith_L4 x1 cov siz n x2 x3 = some r → wAt p l e (rmk 1 0 0 24) s m av below meth c D A 4 0 0 Q 4 [] [(0, .ref to), (1, .int x1), (2, .int x2), (3, .int x3)] (wX7 kI kJ to ta z nst his len txt thr god prm npr cov siz pts rea pla bef has) := by
    intro x1 n
    induction n with
    | zero =>
      intro x2 x3 hrun
      rw [fX7_coversWith_L4] at hrun
      cases hrun
    | succ n ih =>
      intro x2 x3 hrun H locs ls hP hD hS hl
      rw [fX7_coversWith_L4] at hrun
      refine lv_iload_n hx hb dX7_coversWith_4 rfl (lv_at hl 3 rfl) ?_
      refine lv_iconst (v := 4) hx hb dX7_coversWith_5 (by decide) ?_
      refine lv_icmp_ge (tgt := 32) hx hb dX7_coversWith_6 (by decide) (fun hc => ?_) (fun hc => ?_)
      · have hrun := it_t hc hrun
        refine lv_iload_n hx hb dX7_coversWith_32 rfl (lv_at hl 2 rfl) ?_
        obtain rfl := Option.some.inj hrun
        exact hret _ _ _ _ rfl dX7_coversWith_33 hP hD hS
      · have hrun := it_f hc hrun
        refine lv_iload_n hx hb dX7_coversWith_9 rfl (lv_at hl 2 rfl) ?_
        refine lv_aload_n hx hb dX7_coversWith_10 rfl (lv_at hl 0 rfl) ?_
        refine lv_iload_n hx hb dX7_coversWith_11 rfl (lv_at hl 3 rfl) ?_
        refine lv_iload_n hx hb dX7_coversWith_12 rfl (lv_at hl 1 rfl) ?_
        obtain ⟨q_1, hq_1, hrun⟩ := bd_some hrun
        refine cI_callV (As := [.int x3, .int x1]) (rest := [.int x2]) (wr := []) (wN := (wX7 kI kJ to ta z nst his len txt thr god prm npr cov siz pts rea pla bef has)) (ci := 6) (q0 := 0) hE (c_X7_hasProduct l D kI kJ kS to ta x3 x1 z nst his len txt thr god prm npr cov siz pts rea pla bef has hq_1) (cwV 2 hts gX7_coversWith_X7_hasProduct rfl rfl rfl (by decide +kernel) ⟨Nat.le_of_ble_eq_true rfl, Nat.le_of_ble_eq_true rfl⟩) hP hD hS [0, 1, 2, 3, 4, 5, 6, 7, 8, 9] [] [0, 1, 2, 3, 4, 5, 6, 7, 8, 9] rfl rfl rfl rfl (by decide) rfl rfl rfl rfl rfl hl.1 rfl (Nat.le_of_ble_eq_true rfl) dX7_coversWith_13 ⟨Nat.le_of_ble_eq_true rfl, Nat.le_of_ble_eq_true rfl⟩ (fun H locs hP hD hS => ?_)
        refine lv_if_eq (tgt := 23) hx hb dX7_coversWith_16 (by decide) (fun hc => ?_) (fun hc => ?_)
        · have hrun := it_t hc hrun
          refine lv_iconst (v := 0) hx hb dX7_coversWith_23 (by decide) ?_
          exact c_J24 x1 x3 0 x2 (fX7_coversWith_L4 x1 cov siz n) ih  hrun _ _ _ hP hD hS (lv_sub hl [0, 1, 3] rfl)
        · have hrun := it_f hc hrun
          refine lv_iconst (v := 1) hx hb dX7_coversWith_19 (by decide) ?_
          refine lv_goto (tgt := 24) hx hb dX7_coversWith_20 (by decide) ?_
          exact c_J24 x1 x3 1 x2 (fX7_coversWith_L4 x1 cov siz n) ih  hrun _ _ _ hP hD hS (lv_sub hl [0, 1, 3] rfl)
  unfold fX7_coversWith at hrun
  refine lv_iconst (v := 0) hx hb dX7_coversWith_0 (by decide) ?_
  refine lv_istore_n (lv' := [(2, .int 0), (0, .ref to), (1, .int x1)]) hx hb dX7_coversWith_1 rfl hl (by decide) rfl (fun ls hl => ?_)
  refine lv_iconst (v := 0) hx hb dX7_coversWith_2 (by decide) ?_
  refine lv_istore_n (lv' := [(3, .int 0), (2, .int 0), (0, .ref to), (1, .int x1)]) hx hb dX7_coversWith_3 rfl hl (by decide) rfl (fun ls hl => ?_)
  exact c_L4 x1 5000 0 0  hrun _ _ _ hP hD hS (lv_sub hl [2, 3, 1, 0] rfl)
/-! ===== X7_partsOf ===== -/
set_option maxHeartbeats 4000000 in
set_option maxRecDepth 100000 in
theorem c_X7_partsOf (l : Launch) (D : va_G) (kI kJ kS : ClassId) (to : Nat) (ta : Nat → Nat) (x1 : Int32) (z : (Nat → Int32)) (nst : Int32) (his : (Nat → Int32)) (len : Int32) (txt : (Nat → Int32)) (thr : Int32) (god : (Nat → Int64)) (prm : (Nat → Int32)) (npr : Int32) (cov : (Nat → Int32)) (siz : (Nat → Int32)) (pts : (Nat → Int32)) (rea : Int32) (pla : Int32) (bef : (Nat → Int32)) (has : Int64) {r : Int32} (hrun : fX7_partsOf z cov siz x1 = some r) : cI l D (tyL kI kJ kS) false yX7_partsOf wsX7_partsOf (rmk 2 0 0 47) [.ref to, .int x1] (wX7 kI kJ to ta z nst his len txt thr god prm npr cov siz pts rea pla bef has) (wX7 kI kJ to ta z nst his len txt thr god prm npr cov siz pts rea pla bef has) r := by
  refine cI_of (cc := cX7_partsOf) (maxL := 5) (by decide) rfl (Nat.le_of_ble_eq_true rfl) ?_
  intro p e s m av below meth c A Q ls hE hP hD hS hl hret
  have hE : ent_ p s m av meth c RX7 cX7_partsOf 5 (some .int) wsX7_partsOf (tyL kI kJ kS) D A false := hE
  obtain ⟨hx, hb, hml, hown, hts, hr, hlocks, hK, hA, hst⟩ := id hE
  have hl : lv_has ls 5 [(0, .ref to), (1, .int x1)] := hl
  have c_J72 : ∀ (x1 : Int32) (x2 : Int32) (x3 : Int32) (k4 : Int32 → Int32 → Option (Int32)) (hk4 : (∀ (x2 : Int32) (x3 : Int32), k4 x2 x3 = some r → wAt p l e (rmk 2 0 0 47) s m av below meth c D A 5 0 0 Q 4 [] [(0, .ref to), (1, .int x1), (2, .int x2), (3, .int x3)] (wX7 kI kJ to ta z nst his len txt thr god prm npr cov siz pts rea pla bef has))), fX7_partsOf_J72 x1 x2 x3 z cov siz k4 = some r → wAt p l e (rmk 2 0 0 47) s m av below meth c D A 5 0 0 Q 72 [] [(0, .ref to), (1, .int x1), (2, .int x2), (3, .int x3)] (wX7 kI kJ to ta z nst his len txt thr god prm npr cov siz pts rea pla bef has) := by
    intro x1 x2 x3 k4 hk4 hrun H locs ls hP hD hS hl
    unfold fX7_partsOf_J72 at hrun
    refine lv_iinc (v := x3 + 1) (lv' := [(3, .int (x3 + 1)), (0, .ref to), (1, .int x1), (2, .int x2)]) hx hb dX7_partsOf_72 hl (k := 3) rfl rfl (by decide) rfl (fun ls hl => ?_)
    refine lv_goto (tgt := 4) hx hb dX7_partsOf_75 (by decide) ?_
    exact hk4 x2 (x3 + 1)  hrun _ _ _ hP hD hS (lv_sub hl [1, 2, 3, 0] rfl)
  have c_J70 : ∀ (x1 : Int32) (x3 : Int32) (s0 : Int32) (s1 : Int32) (k4 : Int32 → Int32 → Option (Int32)) (hk4 : (∀ (x2 : Int32) (x3 : Int32), k4 x2 x3 = some r → wAt p l e (rmk 2 0 0 47) s m av below meth c D A 5 0 0 Q 4 [] [(0, .ref to), (1, .int x1), (2, .int x2), (3, .int x3)] (wX7 kI kJ to ta z nst his len txt thr god prm npr cov siz pts rea pla bef has))), fX7_partsOf_J70 x1 x3 s0 s1 z cov siz k4 = some r → wAt p l e (rmk 2 0 0 47) s m av below meth c D A 5 0 0 Q 70 [.int s0, .int s1] [(0, .ref to), (1, .int x1), (3, .int x3)] (wX7 kI kJ to ta z nst his len txt thr god prm npr cov siz pts rea pla bef has) := by
    intro x1 x3 s0 s1 k4 hk4 hrun H locs ls hP hD hS hl
    unfold fX7_partsOf_J70 at hrun
    refine lv_iadd hx hb dX7_partsOf_70 ?_
    refine lv_istore_n (lv' := [(2, .int (s1 + s0)), (0, .ref to), (1, .int x1), (3, .int x3)]) hx hb dX7_partsOf_71 rfl hl (by decide) rfl (fun ls hl => ?_)
    exact c_J72 x1 (s1 + s0) x3 k4 hk4  hrun _ _ _ hP hD hS (lv_sub hl [1, 2, 0, 3] rfl)
  have c_J28 : ∀ (x1 : Int32) (x2 : Int32) (x3 : Int32) (s0 : Int32) (k4 : Int32 → Int32 → Option (Int32)) (hk4 : (∀ (x2 : Int32) (x3 : Int32), k4 x2 x3 = some r → wAt p l e (rmk 2 0 0 47) s m av below meth c D A 5 0 0 Q 4 [] [(0, .ref to), (1, .int x1), (2, .int x2), (3, .int x3)] (wX7 kI kJ to ta z nst his len txt thr god prm npr cov siz pts rea pla bef has))), fX7_partsOf_J28 x1 x2 x3 s0 z cov siz k4 = some r → wAt p l e (rmk 2 0 0 47) s m av below meth c D A 5 0 0 Q 28 [.int s0] [(0, .ref to), (1, .int x1), (2, .int x2), (3, .int x3)] (wX7 kI kJ to ta z nst his len txt thr god prm npr cov siz pts rea pla bef has) := by
    intro x1 x2 x3 s0 k4 hk4 hrun H locs ls hP hD hS hl
    unfold fX7_partsOf_J28 at hrun
    refine lv_istore (lv' := [(4, .int s0), (0, .ref to), (1, .int x1), (2, .int x2), (3, .int x3)]) hx hb dX7_partsOf_28 hl (by decide) rfl (fun ls hl => ?_)
    refine lv_iload hx hb dX7_partsOf_30 (lv_at hl 0 rfl) ?_
    refine lv_if_le (tgt := 72) hx hb dX7_partsOf_32 (by decide) (fun hc => ?_) (fun hc => ?_)
    · have hrun := it_t hc hrun
      exact c_J72 x1 x2 x3 k4 hk4  hrun _ _ _ hP hD hS (lv_sub hl [1, 2, 3, 4] rfl)
    · have hrun := it_f hc hrun
      refine lv_iload_n hx hb dX7_partsOf_35 rfl (lv_at hl 3 rfl) ?_
      refine lv_iload_n hx hb dX7_partsOf_36 rfl (lv_at hl 2 rfl) ?_
      refine lv_if_ne (tgt := 44) hx hb dX7_partsOf_37 (by decide) (fun hc => ?_) (fun hc => ?_)
      · have hrun := it_f hc hrun
        refine lv_iload_n hx hb dX7_partsOf_44 rfl (lv_at hl 2 rfl) ?_
        refine lv_iconst (v := 1) hx hb dX7_partsOf_45 (by decide) ?_
        refine lv_icmp_ne (tgt := 63) hx hb dX7_partsOf_46 (by decide) (fun hc => ?_) (fun hc => ?_)
        · have hrun := it_f hc hrun
          refine lv_iload_n hx hb dX7_partsOf_63 rfl (lv_at hl 4 rfl) ?_
          refine lv_bipush (v := 64) hx hb dX7_partsOf_64 (by decide) ?_
          refine lv_idiv hx hb dX7_partsOf_66 (by decide) ?_
          obtain ⟨q_1, hq_1, hrun⟩ := bd_some hrun
          refine cI_callS (As := [.int (x3 / 64)]) (rest := [.int x2]) (wr := (wX7 kI kJ to ta z nst his len txt thr god prm npr cov siz pts rea pla bef has)) (wN := (wX7 kI kJ to ta z nst his len txt thr god prm npr cov siz pts rea pla bef has)) hE (c_X7_ones l D kI kJ kS (x3 / 64)  hq_1) (va_cwS 1 hts gX7_partsOf_X7_ones rfl rfl rfl (by decide +kernel) ⟨Nat.le_of_ble_eq_true rfl, Nat.le_of_ble_eq_true rfl⟩) hP hD hS [] [0, 1, 2, 3, 4, 5, 6, 7, 8, 9] [0, 1, 2, 3, 4, 5, 6, 7, 8, 9] rfl rfl rfl rfl (by decide) rfl rfl rfl hl.1 rfl (Nat.le_of_ble_eq_true rfl) dX7_partsOf_67 ⟨Nat.le_of_ble_eq_true rfl, Nat.le_of_ble_eq_true rfl⟩ (fun H locs hP hD hS => ?_)
          exact c_J70 x1 x3 q_1 x2 k4 hk4  hrun _ _ _ hP hD hS (lv_sub hl [1, 2, 4] rfl)
        · have hrun := it_t hc hrun
          refine lv_iload hx hb dX7_partsOf_49 (lv_at hl 0 rfl) ?_
          refine lv_iconst (v := 1) hx hb dX7_partsOf_51 (by decide) ?_
          refine lv_icmp_le (tgt := 59) hx hb dX7_partsOf_52 (by decide) (fun hc => ?_) (fun hc => ?_)
          · have hrun := it_t hc hrun
            refine lv_iconst (v := 0) hx hb dX7_partsOf_59 (by decide) ?_
            refine lv_goto (tgt := 70) hx hb dX7_partsOf_60 (by decide) ?_
            exact c_J70 x1 x3 0 x2 k4 hk4  hrun _ _ _ hP hD hS (lv_sub hl [1, 2, 4] rfl)
          · have hrun := it_f hc hrun
            refine lv_iconst (v := 1) hx hb dX7_partsOf_55 (by decide) ?_
            refine lv_goto (tgt := 70) hx hb dX7_partsOf_56 (by decide) ?_
            exact c_J70 x1 x3 1 x2 k4 hk4  hrun _ _ _ hP hD hS (lv_sub hl [1, 2, 4] rfl)
      · have hrun := it_t hc hrun
        refine lv_iconst (v := 1) hx hb dX7_partsOf_40 (by decide) ?_
        refine lv_goto (tgt := 70) hx hb dX7_partsOf_41 (by decide) ?_
        exact c_J70 x1 x3 1 x2 k4 hk4  hrun _ _ _ hP hD hS (lv_sub hl [1, 2, 4] rfl)
  have c_L4 : ∀ (x1 : Int32) (n : Nat) (x2 : Int32) (x3 : Int32), fX7_partsOf_L4 x1 z cov siz n x2 x3 = some r → wAt p l e (rmk 2 0 0 47) s m av below meth c D A 5 0 0 Q 4 [] [(0, .ref to), (1, .int x1), (2, .int x2), (3, .int x3)] (wX7 kI kJ to ta z nst his len txt thr god prm npr cov siz pts rea pla bef has) := by
    intro x1 n
    induction n with
    | zero =>
      intro x2 x3 hrun
      rw [fX7_partsOf_L4] at hrun
      cases hrun
    | succ n ih =>
      intro x2 x3 hrun H locs ls hP hD hS hl
      rw [fX7_partsOf_L4] at hrun
      refine lv_iload_n hx hb dX7_partsOf_4 rfl (lv_at hl 3 rfl) ?_
      refine lv_sipush (v := 4096) hx hb dX7_partsOf_5 (by decide) ?_
      refine lv_icmp_ge (tgt := 78) hx hb dX7_partsOf_8 (by decide) (fun hc => ?_) (fun hc => ?_)
      · have hrun := it_t hc hrun
        refine lv_iload_n hx hb dX7_partsOf_78 rfl (lv_at hl 2 rfl) ?_
        obtain rfl := Option.some.inj hrun
        exact hret _ _ _ _ rfl dX7_partsOf_79 hP hD hS
      · have hrun := it_f hc hrun
        refine lv_aload_n hx hb dX7_partsOf_11 rfl (lv_at hl 0 rfl) ?_
        refine lv_iload_n hx hb dX7_partsOf_12 rfl (lv_at hl 3 rfl) ?_
        obtain ⟨q_2, hq_2, hrun⟩ := bd_some hrun
        refine cI_callV (As := [.int x3]) (rest := []) (wr := []) (wN := (wX7 kI kJ to ta z nst his len txt thr god prm npr cov siz pts rea pla bef has)) (ci := 6) (q0 := 0) hE (c_X7_isProduct l D kI kJ kS to ta x3 z nst his len txt thr god prm npr cov siz pts rea pla bef has hq_2) (cwV 1 hts gX7_partsOf_X7_isProduct rfl rfl rfl (by decide +kernel) ⟨Nat.le_of_ble_eq_true rfl, Nat.le_of_ble_eq_true rfl⟩) hP hD hS [0, 1, 2, 3, 4, 5, 6, 7, 8, 9] [] [0, 1, 2, 3, 4, 5, 6, 7, 8, 9] rfl rfl rfl rfl (by decide) rfl rfl rfl rfl rfl hl.1 rfl (Nat.le_of_ble_eq_true rfl) dX7_partsOf_13 ⟨Nat.le_of_ble_eq_true rfl, Nat.le_of_ble_eq_true rfl⟩ (fun H locs hP hD hS => ?_)
        refine lv_if_eq (tgt := 27) hx hb dX7_partsOf_16 (by decide) (fun hc => ?_) (fun hc => ?_)
        · have hrun := it_t hc hrun
          refine lv_iconst (v := 0) hx hb dX7_partsOf_27 (by decide) ?_
          exact c_J28 x1 x2 x3 0 (fX7_partsOf_L4 x1 z cov siz n) ih  hrun _ _ _ hP hD hS (lv_sub hl [0, 1, 2, 3] rfl)
        · have hrun := it_f hc hrun
          refine lv_aload_n hx hb dX7_partsOf_19 rfl (lv_at hl 0 rfl) ?_
          refine lv_iload_n hx hb dX7_partsOf_20 rfl (lv_at hl 3 rfl) ?_
          obtain ⟨q_3, hq_3, hrun⟩ := bd_some hrun
          refine cI_callV (As := [.int x3]) (rest := []) (wr := []) (wN := (wX7 kI kJ to ta z nst his len txt thr god prm npr cov siz pts rea pla bef has)) (ci := 6) (q0 := 0) hE (c_X7_coversWith l D kI kJ kS to ta x3 z nst his len txt thr god prm npr cov siz pts rea pla bef has hq_3) (cwV 1 hts gX7_partsOf_X7_coversWith rfl rfl rfl (by decide +kernel) ⟨Nat.le_of_ble_eq_true rfl, Nat.le_of_ble_eq_true rfl⟩) hP hD hS [0, 1, 2, 3, 4, 5, 6, 7, 8, 9] [] [0, 1, 2, 3, 4, 5, 6, 7, 8, 9] rfl rfl rfl rfl (by decide) rfl rfl rfl rfl rfl hl.1 rfl (Nat.le_of_ble_eq_true rfl) dX7_partsOf_21 ⟨Nat.le_of_ble_eq_true rfl, Nat.le_of_ble_eq_true rfl⟩ (fun H locs hP hD hS => ?_)
          refine lv_goto (tgt := 28) hx hb dX7_partsOf_24 (by decide) ?_
          exact c_J28 x1 x2 x3 q_3 (fX7_partsOf_L4 x1 z cov siz n) ih  hrun _ _ _ hP hD hS (lv_sub hl [0, 1, 2, 3] rfl)
  unfold fX7_partsOf at hrun
  refine lv_iconst (v := 0) hx hb dX7_partsOf_0 (by decide) ?_
  refine lv_istore_n (lv' := [(2, .int 0), (0, .ref to), (1, .int x1)]) hx hb dX7_partsOf_1 rfl hl (by decide) rfl (fun ls hl => ?_)
  refine lv_iconst (v := 0) hx hb dX7_partsOf_2 (by decide) ?_
  refine lv_istore_n (lv' := [(3, .int 0), (2, .int 0), (0, .ref to), (1, .int x1)]) hx hb dX7_partsOf_3 rfl hl (by decide) rfl (fun ls hl => ?_)
  exact c_L4 x1 5000 0 0  hrun _ _ _ hP hD hS (lv_sub hl [2, 3, 1, 0] rfl)
/-! ===== X7_begin ===== -/
theorem mX7_begin_2 : Cond.fieldLink RX7 7 "GateMazeModel" "z" "[I" ∈ wsX7_begin := List.mem_of_getElem? (i := 2) rfl
theorem mX7_begin_1 : Cond.fieldLink RX7 38 "GateMazeModel" "thrown" "I" ∈ wsX7_begin := List.mem_of_getElem? (i := 1) rfl
theorem iX7_begin_X7 : ∀ w ∈ u_ws RX7 TX7 16, w ∈ wsX7_begin := fun w h => List.mem_cons_of_mem _ (List.mem_append_right _ h)
set_option maxHeartbeats 4000000 in
set_option maxRecDepth 100000 in
theorem c_X7_begin (l : Launch) (D : va_G) (kI kJ kS : ClassId) (to : Nat) (ta : Nat → Nat) (x1 : Int32) (z : (Nat → Int32)) (nst : Int32) (his : (Nat → Int32)) (len : Int32) (txt : (Nat → Int32)) (thr : Int32) (god : (Nat → Int64)) (prm : (Nat → Int32)) (npr : Int32) (cov : (Nat → Int32)) (siz : (Nat → Int32)) (pts : (Nat → Int32)) (rea : Int32) (pla : Int32) (bef : (Nat → Int32)) (has : Int64) {r : Int32 × (Nat → Int32) × Int32 × (Nat → Int32) × Int32} (hrun : fX7_begin z nst his x1 = some r) : cI l D (tyL kI kJ kS) false yX7_begin wsX7_begin (rmk 1 0 0 22) [.ref to, .int x1] (wX7 kI kJ to ta z nst his len txt thr god prm npr cov siz pts rea pla bef has) (wX7 kI kJ to ta r.2.1 r.2.2.1 r.2.2.2.1 len txt r.2.2.2.2 god prm npr cov siz pts rea pla bef has) r.1 := by
  refine cI_of (cc := cX7_begin) (maxL := 4) (by decide) rfl (Nat.le_of_ble_eq_true rfl) ?_
  intro p e s m av below meth c A Q ls hE hP hD hS hl hret
  have hE : ent_ p s m av meth c RX7 cX7_begin 4 (some .int) wsX7_begin (tyL kI kJ kS) D A false := hE
  obtain ⟨hx, hb, hml, hown, hts, hr, hlocks, hK, hA, hst⟩ := id hE
  have hl : lv_has ls 4 [(0, .ref to), (1, .int x1)] := hl
  have c_L60 : ∀ (x2 : Int32) (nst : Int32) (his : (Nat → Int32)) (thr : Int32) (n : Nat) (x3 : Int32) (z : (Nat → Int32)), fX7_begin_L60 x2 nst his thr n x3 z = some r → wAt p l e (rmk 1 0 0 22) s m av below meth c D A 4 0 0 Q 60 [] [(0, .ref to), (2, .int x2), (3, .int x3)] (wX7 kI kJ to ta z nst his len txt thr god prm npr cov siz pts rea pla bef has) := by
    intro x2 nst his thr n
    induction n with
    | zero =>
      intro x3 z hrun
      rw [fX7_begin_L60] at hrun
      cases hrun
    | succ n ih =>
      intro x3 z hrun H locs ls hP hD hS hl
      rw [fX7_begin_L60] at hrun
      refine lv_iload_n hx hb dX7_begin_60 rfl (lv_at hl 2 rfl) ?_
      refine lv_sipush (v := 268) hx hb dX7_begin_61 (by decide) ?_
      refine lv_icmp_ge (tgt := 80) hx hb dX7_begin_64 (by decide) (fun hc => ?_) (fun hc => ?_)
      · have hrun := it_t hc hrun
        refine lv_iload_n hx hb dX7_begin_80 rfl (lv_at hl 1 rfl) ?_
        obtain rfl := Option.some.inj hrun
        exact hret _ _ _ _ rfl dX7_begin_81 hP hD hS
      · have hrun := it_f hc hrun
        refine lv_aload_n hx hb dX7_begin_67 rfl (lv_at hl 0 rfl) ?_
        refine va_get (D := D) (ci := 6) (v := .ref (ta 0)) (C := RX7) (T := TX7) (N := 16) hx hb hts iX7_begin_X7 hown hK hP 0 rfl rfl 0 (by decide) (hts _ mX7_begin_2) (fun _ h9 => h9) rfl dX7_begin_68 ?_
        refine lv_iload_n hx hb dX7_begin_71 rfl (lv_at hl 2 rfl) ?_
        refine lv_iconst (v := 0) hx hb dX7_begin_72 (by decide) ?_
        obtain ⟨hin, hrun⟩ := gd_some hrun
        refine va_iast hx hb hK hP hD hS 1 0 rfl rfl hin dX7_begin_73 (fun H locs hP hD hS => ?_)
        have hP : va_P D vwCl (wX7 kI kJ to ta (upd z x3.toNatClampNeg 0) nst his len txt thr god prm npr cov siz pts rea pla bef has) H := hP
        have hD : va_D A (wX7 kI kJ to ta (upd z x3.toNatClampNeg 0) nst his len txt thr god prm npr cov siz pts rea pla bef has) := hD
        refine lv_iinc (v := x3 + 1) (lv' := [(3, .int (x3 + 1)), (0, .ref to), (2, .int x2)]) hx hb dX7_begin_74 hl (k := 2) rfl rfl (by decide) rfl (fun ls hl => ?_)
        refine lv_goto (tgt := 60) hx hb dX7_begin_77 (by decide) ?_
        exact ih (x3 + 1) (upd z x3.toNatClampNeg 0)  hrun _ _ _ hP hD hS (lv_sub hl [1, 2, 0] rfl)
  have c_J16 : ∀ (x1 : Int32) (s0 : Int32) (z : (Nat → Int32)) (nst : Int32) (his : (Nat → Int32)) (thr : Int32), fX7_begin_J16 x1 s0 z nst his = some r → wAt p l e (rmk 1 0 0 22) s m av below meth c D A 4 0 0 Q 16 [.int s0, .ref to] [(0, .ref to), (1, .int x1)] (wX7 kI kJ to ta z nst his len txt thr god prm npr cov siz pts rea pla bef has) := by
    intro x1 s0 z nst his thr hrun H locs ls hP hD hS hl
    unfold fX7_begin_J16 at hrun
    refine va_put (D := D) (ci := 6) (v := .int s0) (ty := .int) (C := RX7) (T := TX7) (N := 16) hx hb hts iX7_begin_X7 tyX7 tyX7_ok nmX7 hown hK hP hD hS 0 rfl rfl 5 (by decide) (hts _ mX7_begin_1) (fun _ h9 => h9) rfl (by decide +kernel) rfl rfl (Nat.le_of_ble_eq_true rfl) dX7_begin_16 (fun H locs hP hD hS => ?_)
    have hP : va_P D vwCl (wX7 kI kJ to ta z nst his len txt s0 god prm npr cov siz pts rea pla bef has) H := hP
    have hD : va_D A (wX7 kI kJ to ta z nst his len txt s0 god prm npr cov siz pts rea pla bef has) := hD
    refine lv_aload_n hx hb dX7_begin_19 rfl (lv_at hl 0 rfl) ?_
    refine va_get (D := D) (ci := 6) (v := .int s0) (C := RX7) (T := TX7) (N := 16) hx hb hts iX7_begin_X7 hown hK hP 0 rfl rfl 5 (by decide) (hts _ mX7_begin_1) (fun _ h9 => h9) rfl dX7_begin_20 ?_
    refine lv_if_le (tgt := 28) hx hb dX7_begin_23 (by decide) (fun hc => ?_) (fun hc => ?_)
    · have hrun := it_t hc hrun
      refine lv_aload_n hx hb dX7_begin_28 rfl (lv_at hl 0 rfl) ?_
      obtain ⟨q_1, hq_1, hrun⟩ := bd_some hrun
      refine cV_callV (As := []) (rest := []) (wr := []) (wN := (wX7 kI kJ to ta z q_1.1 q_1.2 len txt s0 god prm npr cov siz pts rea pla bef has)) (ci := 6) (q0 := 0) hE (c_X7_save l D kI kJ kS to ta  z nst his len txt s0 god prm npr cov siz pts rea pla bef has hq_1) (cwV 0 hts gX7_begin_X7_save rfl rfl rfl (by decide +kernel) ⟨Nat.le_of_ble_eq_true rfl, Nat.le_of_ble_eq_true rfl⟩) hP hD hS [0, 1, 2, 3, 4, 5, 6, 7, 8, 9] [] [0, 1, 2, 3, 4, 5, 6, 7, 8, 9] rfl rfl rfl rfl (by decide) rfl rfl rfl rfl rfl hl.1 rfl (Nat.le_of_ble_eq_true rfl) dX7_begin_29 ⟨Nat.le_of_ble_eq_true rfl, Nat.le_of_ble_eq_true rfl⟩ (fun H locs hP hD hS => ?_)
      refine lv_aload_n hx hb dX7_begin_32 rfl (lv_at hl 0 rfl) ?_
      refine va_get (D := D) (ci := 6) (v := .ref (ta 0)) (C := RX7) (T := TX7) (N := 16) hx hb hts iX7_begin_X7 hown hK hP 0 rfl rfl 0 (by decide) (hts _ mX7_begin_2) (fun _ h9 => h9) rfl dX7_begin_33 ?_
      refine lv_iconst (v := 0) hx hb dX7_begin_36 (by decide) ?_
      obtain ⟨hin, hrun⟩ := gd_some hrun
      refine va_iald hx hb hK hP 1 0 rfl rfl hin dX7_begin_37 ?_
      refine lv_istore_n (lv' := [(2, .int (z ((0 : Int32)).toNatClampNeg)), (0, .ref to), (1, .int x1)]) hx hb dX7_begin_38 rfl hl (by decide) rfl (fun ls hl => ?_)
      refine lv_aload_n hx hb dX7_begin_39 rfl (lv_at hl 1 rfl) ?_
      refine va_get (D := D) (ci := 6) (v := .ref (ta 0)) (C := RX7) (T := TX7) (N := 16) hx hb hts iX7_begin_X7 hown hK hP 0 rfl rfl 0 (by decide) (hts _ mX7_begin_2) (fun _ h9 => h9) rfl dX7_begin_40 ?_
      refine lv_iconst (v := 0) hx hb dX7_begin_43 (by decide) ?_
      refine lv_iload_n hx hb dX7_begin_44 rfl (lv_at hl 2 rfl) ?_
      obtain ⟨hin, hrun⟩ := gd_some hrun
      refine va_iast hx hb hK hP hD hS 1 0 rfl rfl hin dX7_begin_45 (fun H locs hP hD hS => ?_)
      have hP : va_P D vwCl (wX7 kI kJ to ta (upd z ((0 : Int32)).toNatClampNeg x1) q_1.1 q_1.2 len txt s0 god prm npr cov siz pts rea pla bef has) H := hP
      have hD : va_D A (wX7 kI kJ to ta (upd z ((0 : Int32)).toNatClampNeg x1) q_1.1 q_1.2 len txt s0 god prm npr cov siz pts rea pla bef has) := hD
      refine lv_aload_n hx hb dX7_begin_46 rfl (lv_at hl 1 rfl) ?_
      refine va_get (D := D) (ci := 6) (v := .ref (ta 0)) (C := RX7) (T := TX7) (N := 16) hx hb hts iX7_begin_X7 hown hK hP 0 rfl rfl 0 (by decide) (hts _ mX7_begin_2) (fun _ h9 => h9) rfl dX7_begin_47 ?_
      refine lv_iconst (v := 1) hx hb dX7_begin_50 (by decide) ?_
      refine lv_iconst (v := 1) hx hb dX7_begin_51 (by decide) ?_
      refine lv_iload_n hx hb dX7_begin_52 rfl (lv_at hl 2 rfl) ?_
      refine lv_ishl hx hb dX7_begin_53 ?_
      refine lv_iconst (v := 1) hx hb dX7_begin_54 (by decide) ?_
      refine lv_isub hx hb dX7_begin_55 ?_
      obtain ⟨hin, hrun⟩ := gd_some hrun
      refine va_iast hx hb hK hP hD hS 1 0 rfl rfl hin dX7_begin_56 (fun H locs hP hD hS => ?_)
      have hP : va_P D vwCl (wX7 kI kJ to ta (upd (upd z ((0 : Int32)).toNatClampNeg x1) ((1 : Int32)).toNatClampNeg (((1 : Int32) <<< (x1 &&& 31)) - 1)) q_1.1 q_1.2 len txt s0 god prm npr cov siz pts rea pla bef has) H := hP
      have hD : va_D A (wX7 kI kJ to ta (upd (upd z ((0 : Int32)).toNatClampNeg x1) ((1 : Int32)).toNatClampNeg (((1 : Int32) <<< (x1 &&& 31)) - 1)) q_1.1 q_1.2 len txt s0 god prm npr cov siz pts rea pla bef has) := hD
      obtain ⟨u_2, eu_2⟩ : ∃ y, y = upd (upd z ((0 : Int32)).toNatClampNeg x1) ((1 : Int32)).toNatClampNeg (((1 : Int32) <<< (x1 &&& 31)) - 1) := ⟨_, rfl⟩
      have hrun := lt_some eu_2 hrun
      rw [← eu_2] at hP hD
      refine lv_bipush (v := 12) hx hb dX7_begin_57 (by decide) ?_
      refine lv_istore_n (lv' := [(3, .int 12), (2, .int (z ((0 : Int32)).toNatClampNeg)), (0, .ref to), (1, .int x1)]) hx hb dX7_begin_59 rfl hl (by decide) rfl (fun ls hl => ?_)
      exact c_L60 (z ((0 : Int32)).toNatClampNeg) q_1.1 q_1.2 s0 5000 12 u_2  hrun _ _ _ hP hD hS (lv_sub hl [2, 1, 0] rfl)
    · have hrun := it_f hc hrun
      refine lv_iconst (v := 0) hx hb dX7_begin_26 (by decide) ?_
      obtain rfl := Option.some.inj hrun
      exact hret _ _ _ _ rfl dX7_begin_27 hP hD hS
  unfold fX7_begin at hrun
  refine lv_aload_n hx hb dX7_begin_0 rfl (lv_at hl 0 rfl) ?_
  refine lv_iload_n hx hb dX7_begin_1 rfl (lv_at hl 1 rfl) ?_
  refine lv_iconst (v := 1) hx hb dX7_begin_2 (by decide) ?_
  refine lv_bipush (v := 6) hx hb dX7_begin_3 (by decide) ?_
  obtain ⟨q_3, hq_3, hrun⟩ := bd_some hrun
  refine cI_callS (As := [.int x1, .int 1, .int 6]) (rest := [.ref to]) (wr := (wX7 kI kJ to ta z nst his len txt thr god prm npr cov siz pts rea pla bef has)) (wN := (wX7 kI kJ to ta z nst his len txt thr god prm npr cov siz pts rea pla bef has)) hE (c_X7_within l D kI kJ kS x1 1 6  hq_3) (va_cwS 3 hts gX7_begin_X7_within rfl rfl rfl (by decide +kernel) ⟨Nat.le_of_ble_eq_true rfl, Nat.le_of_ble_eq_true rfl⟩) hP hD hS [] [0, 1, 2, 3, 4, 5, 6, 7, 8, 9] [0, 1, 2, 3, 4, 5, 6, 7, 8, 9] rfl rfl rfl rfl (by decide) rfl rfl rfl hl.1 rfl (Nat.le_of_ble_eq_true rfl) dX7_begin_5 ⟨Nat.le_of_ble_eq_true rfl, Nat.le_of_ble_eq_true rfl⟩ (fun H locs hP hD hS => ?_)
  refine lv_if_eq (tgt := 15) hx hb dX7_begin_8 (by decide) (fun hc => ?_) (fun hc => ?_)
  · have hrun := it_t hc hrun
    refine lv_iconst (v := 1) hx hb dX7_begin_15 (by decide) ?_
    exact c_J16 x1 1 z nst his thr hrun _ _ _ hP hD hS (lv_sub hl [0, 1] rfl)
  · have hrun := it_f hc hrun
    refine lv_iconst (v := 0) hx hb dX7_begin_11 (by decide) ?_
    refine lv_goto (tgt := 16) hx hb dX7_begin_12 (by decide) ?_
    exact c_J16 x1 0 z nst his thr hrun _ _ _ hP hD hS (lv_sub hl [0, 1] rfl)
/-! ===== X7_set ===== -/
theorem mX7_set_1 : Cond.fieldLink RX7 38 "GateMazeModel" "thrown" "I" ∈ wsX7_set := List.mem_of_getElem? (i := 1) rfl
theorem iX7_set_X7 : ∀ w ∈ u_ws RX7 TX7 16, w ∈ wsX7_set := fun w h => List.mem_cons_of_mem _ (List.mem_append_right _ h)
set_option maxHeartbeats 4000000 in
set_option maxRecDepth 100000 in
theorem c_X7_set (l : Launch) (D : va_G) (kI kJ kS : ClassId) (to : Nat) (ta : Nat → Nat) (x1 : Int32) (x2 : Int32) (x3 : Int32) (z : (Nat → Int32)) (nst : Int32) (his : (Nat → Int32)) (len : Int32) (txt : (Nat → Int32)) (thr : Int32) (god : (Nat → Int64)) (prm : (Nat → Int32)) (npr : Int32) (cov : (Nat → Int32)) (siz : (Nat → Int32)) (pts : (Nat → Int32)) (rea : Int32) (pla : Int32) (bef : (Nat → Int32)) (has : Int64) {r : Int32 × (Nat → Int32) × Int32 × (Nat → Int32) × Int32} (hrun : fX7_set z nst his x1 x2 x3 = some r) : cI l D (tyL kI kJ kS) false yX7_set wsX7_set (rmk 2 0 0 43) [.ref to, .int x1, .int x2, .int x3] (wX7 kI kJ to ta z nst his len txt thr god prm npr cov siz pts rea pla bef has) (wX7 kI kJ to ta r.2.1 r.2.2.1 r.2.2.2.1 len txt r.2.2.2.2 god prm npr cov siz pts rea pla bef has) r.1 := by
  refine cI_of (cc := cX7_set) (maxL := 5) (by decide) rfl (Nat.le_of_ble_eq_true rfl) ?_
  intro p e s m av below meth c A Q ls hE hP hD hS hl hret
  have hE : ent_ p s m av meth c RX7 cX7_set 5 (some .int) wsX7_set (tyL kI kJ kS) D A false := hE
  obtain ⟨hx, hb, hml, hown, hts, hr, hlocks, hK, hA, hst⟩ := id hE
  have hl : lv_has ls 5 [(0, .ref to), (1, .int x1), (2, .int x2), (3, .int x3)] := hl
  have c_J34 : ∀ (x1 : Int32) (x2 : Int32) (x3 : Int32) (s0 : Int32) (z : (Nat → Int32)) (nst : Int32) (his : (Nat → Int32)) (thr : Int32), fX7_set_J34 x1 x2 x3 s0 z nst his = some r → wAt p l e (rmk 2 0 0 43) s m av below meth c D A 5 0 0 Q 34 [.int s0, .ref to] [(0, .ref to), (1, .int x1), (2, .int x2), (3, .int x3)] (wX7 kI kJ to ta z nst his len txt thr god prm npr cov siz pts rea pla bef has) := by
    intro x1 x2 x3 s0 z nst his thr hrun H locs ls hP hD hS hl
    unfold fX7_set_J34 at hrun
    refine va_put (D := D) (ci := 6) (v := .int s0) (ty := .int) (C := RX7) (T := TX7) (N := 16) hx hb hts iX7_set_X7 tyX7 tyX7_ok nmX7 hown hK hP hD hS 0 rfl rfl 5 (by decide) (hts _ mX7_set_1) (fun _ h9 => h9) rfl (by decide +kernel) rfl rfl (Nat.le_of_ble_eq_true rfl) dX7_set_34 (fun H locs hP hD hS => ?_)
    have hP : va_P D vwCl (wX7 kI kJ to ta z nst his len txt s0 god prm npr cov siz pts rea pla bef has) H := hP
    have hD : va_D A (wX7 kI kJ to ta z nst his len txt s0 god prm npr cov siz pts rea pla bef has) := hD
    refine lv_aload_n hx hb dX7_set_37 rfl (lv_at hl 0 rfl) ?_
    refine va_get (D := D) (ci := 6) (v := .int s0) (C := RX7) (T := TX7) (N := 16) hx hb hts iX7_set_X7 hown hK hP 0 rfl rfl 5 (by decide) (hts _ mX7_set_1) (fun _ h9 => h9) rfl dX7_set_38 ?_
    refine lv_if_le (tgt := 46) hx hb dX7_set_41 (by decide) (fun hc => ?_) (fun hc => ?_)
    · have hrun := it_t hc hrun
      refine lv_aload_n hx hb dX7_set_46 rfl (lv_at hl 0 rfl) ?_
      obtain ⟨q_1, hq_1, hrun⟩ := bd_some hrun
      refine cV_callV (As := []) (rest := []) (wr := []) (wN := (wX7 kI kJ to ta z q_1.1 q_1.2 len txt s0 god prm npr cov siz pts rea pla bef has)) (ci := 6) (q0 := 0) hE (c_X7_save l D kI kJ kS to ta  z nst his len txt s0 god prm npr cov siz pts rea pla bef has hq_1) (cwV 0 hts gX7_set_X7_save rfl rfl rfl (by decide +kernel) ⟨Nat.le_of_ble_eq_true rfl, Nat.le_of_ble_eq_true rfl⟩) hP hD hS [0, 1, 2, 3, 4, 5, 6, 7, 8, 9] [] [0, 1, 2, 3, 4, 5, 6, 7, 8, 9] rfl rfl rfl rfl (by decide) rfl rfl rfl rfl rfl hl.1 rfl (Nat.le_of_ble_eq_true rfl) dX7_set_47 ⟨Nat.le_of_ble_eq_true rfl, Nat.le_of_ble_eq_true rfl⟩ (fun H locs hP hD hS => ?_)
      refine lv_aload_n hx hb dX7_set_50 rfl (lv_at hl 0 rfl) ?_
      refine lv_iload_n hx hb dX7_set_51 rfl (lv_at hl 1 rfl) ?_
      refine lv_iload_n hx hb dX7_set_52 rfl (lv_at hl 2 rfl) ?_
      obtain ⟨q_2, hq_2, hrun⟩ := bd_some hrun
      refine cI_callV (As := [.int x1, .int x2]) (rest := []) (wr := []) (wN := (wX7 kI kJ to ta z q_1.1 q_1.2 len txt s0 god prm npr cov siz pts rea pla bef has)) (ci := 6) (q0 := 0) hE (c_X7_truth l D kI kJ kS to ta x1 x2 z q_1.1 q_1.2 len txt s0 god prm npr cov siz pts rea pla bef has hq_2) (cwV 2 hts gX7_set_X7_truth rfl rfl rfl (by decide +kernel) ⟨Nat.le_of_ble_eq_true rfl, Nat.le_of_ble_eq_true rfl⟩) hP hD hS [0, 1, 2, 3, 4, 5, 6, 7, 8, 9] [] [0, 1, 2, 3, 4, 5, 6, 7, 8, 9] rfl rfl rfl rfl (by decide) rfl rfl rfl rfl rfl hl.1 rfl (Nat.le_of_ble_eq_true rfl) dX7_set_53 ⟨Nat.le_of_ble_eq_true rfl, Nat.le_of_ble_eq_true rfl⟩ (fun H locs hP hD hS => ?_)
      refine lv_istore (lv' := [(4, .int q_2), (0, .ref to), (1, .int x1), (2, .int x2), (3, .int x3)]) hx hb dX7_set_56 hl (by decide) rfl (fun ls hl => ?_)
      refine lv_aload_n hx hb dX7_set_58 rfl (lv_at hl 1 rfl) ?_
      refine lv_iload_n hx hb dX7_set_59 rfl (lv_at hl 2 rfl) ?_
      refine lv_iload_n hx hb dX7_set_60 rfl (lv_at hl 3 rfl) ?_
      refine lv_iload_n hx hb dX7_set_61 rfl (lv_at hl 4 rfl) ?_
      obtain ⟨q_3, hq_3, hrun⟩ := bd_some hrun
      refine cV_callV (As := [.int x1, .int x2, .int x3]) (rest := []) (wr := []) (wN := (wX7 kI kJ to ta q_3 q_1.1 q_1.2 len txt s0 god prm npr cov siz pts rea pla bef has)) (ci := 6) (q0 := 0) hE (c_X7_setTruth l D kI kJ kS to ta x1 x2 x3 z q_1.1 q_1.2 len txt s0 god prm npr cov siz pts rea pla bef has hq_3) (cwV 3 hts gX7_set_X7_setTruth rfl rfl rfl (by decide +kernel) ⟨Nat.le_of_ble_eq_true rfl, Nat.le_of_ble_eq_true rfl⟩) hP hD hS [0, 1, 2, 3, 4, 5, 6, 7, 8, 9] [] [0, 1, 2, 3, 4, 5, 6, 7, 8, 9] rfl rfl rfl rfl (by decide) rfl rfl rfl rfl rfl hl.1 rfl (Nat.le_of_ble_eq_true rfl) dX7_set_62 ⟨Nat.le_of_ble_eq_true rfl, Nat.le_of_ble_eq_true rfl⟩ (fun H locs hP hD hS => ?_)
      refine lv_iload hx hb dX7_set_65 (lv_at hl 0 rfl) ?_
      obtain rfl := Option.some.inj hrun
      exact hret _ _ _ _ rfl dX7_set_67 hP hD hS
    · have hrun := it_f hc hrun
      refine lv_iconst (v := 0) hx hb dX7_set_44 (by decide) ?_
      obtain rfl := Option.some.inj hrun
      exact hret _ _ _ _ rfl dX7_set_45 hP hD hS
  have c_J16 : ∀ (x1 : Int32) (x2 : Int32) (x3 : Int32) (z : (Nat → Int32)) (nst : Int32) (his : (Nat → Int32)) (thr : Int32), fX7_set_J16 x1 x2 x3 z nst his = some r → wAt p l e (rmk 2 0 0 43) s m av below meth c D A 5 0 0 Q 16 [.ref to] [(0, .ref to), (1, .int x1), (2, .int x2), (3, .int x3)] (wX7 kI kJ to ta z nst his len txt thr god prm npr cov siz pts rea pla bef has) := by
    intro x1 x2 x3 z nst his thr hrun H locs ls hP hD hS hl
    unfold fX7_set_J16 at hrun
    refine lv_iconst (v := 1) hx hb dX7_set_16 (by decide) ?_
    refine lv_goto (tgt := 34) hx hb dX7_set_17 (by decide) ?_
    exact c_J34 x1 x2 x3 1 z nst his thr hrun _ _ _ hP hD hS (lv_sub hl [0, 1, 2, 3] rfl)
  unfold fX7_set at hrun
  refine lv_aload_n hx hb dX7_set_0 rfl (lv_at hl 0 rfl) ?_
  refine lv_iload_n hx hb dX7_set_1 rfl (lv_at hl 1 rfl) ?_
  obtain ⟨q_4, hq_4, hrun⟩ := bd_some hrun
  refine cI_callS (As := [.int x1]) (rest := [.ref to]) (wr := (wX7 kI kJ to ta z nst his len txt thr god prm npr cov siz pts rea pla bef has)) (wN := (wX7 kI kJ to ta z nst his len txt thr god prm npr cov siz pts rea pla bef has)) hE (c_X7_isOutput l D kI kJ kS x1  hq_4) (va_cwS 1 hts gX7_set_X7_isOutput rfl rfl rfl (by decide +kernel) ⟨Nat.le_of_ble_eq_true rfl, Nat.le_of_ble_eq_true rfl⟩) hP hD hS [] [0, 1, 2, 3, 4, 5, 6, 7, 8, 9] [0, 1, 2, 3, 4, 5, 6, 7, 8, 9] rfl rfl rfl rfl (by decide) rfl rfl rfl hl.1 rfl (Nat.le_of_ble_eq_true rfl) dX7_set_2 ⟨Nat.le_of_ble_eq_true rfl, Nat.le_of_ble_eq_true rfl⟩ (fun H locs hP hD hS => ?_)
  refine lv_if_eq (tgt := 16) hx hb dX7_set_5 (by decide) (fun hc => ?_) (fun hc => ?_)
  · have hrun := it_t hc hrun
    exact c_J16 x1 x2 x3 z nst his thr hrun _ _ _ hP hD hS (lv_sub hl [0, 1, 2, 3] rfl)
  · have hrun := it_f hc hrun
    refine lv_aload_n hx hb dX7_set_8 rfl (lv_at hl 0 rfl) ?_
    refine lv_iload_n hx hb dX7_set_9 rfl (lv_at hl 2 rfl) ?_
    obtain ⟨q_5, hq_5, hrun⟩ := bd_some hrun
    refine cI_callV (As := [.int x2]) (rest := [.ref to]) (wr := []) (wN := (wX7 kI kJ to ta z nst his len txt thr god prm npr cov siz pts rea pla bef has)) (ci := 6) (q0 := 0) hE (c_X7_isRow l D kI kJ kS to ta x2 z nst his len txt thr god prm npr cov siz pts rea pla bef has hq_5) (cwV 1 hts gX7_set_X7_isRow rfl rfl rfl (by decide +kernel) ⟨Nat.le_of_ble_eq_true rfl, Nat.le_of_ble_eq_true rfl⟩) hP hD hS [0, 1, 2, 3, 4, 5, 6, 7, 8, 9] [] [0, 1, 2, 3, 4, 5, 6, 7, 8, 9] rfl rfl rfl rfl (by decide) rfl rfl rfl rfl rfl hl.1 rfl (Nat.le_of_ble_eq_true rfl) dX7_set_10 ⟨Nat.le_of_ble_eq_true rfl, Nat.le_of_ble_eq_true rfl⟩ (fun H locs hP hD hS => ?_)
    refine lv_if_ne (tgt := 20) hx hb dX7_set_13 (by decide) (fun hc => ?_) (fun hc => ?_)
    · have hrun := it_f hc hrun
      refine lv_iload_n hx hb dX7_set_20 rfl (lv_at hl 3 rfl) ?_
      refine lv_iconst (v := 0) hx hb dX7_set_21 (by decide) ?_
      refine lv_iconst (v := 2) hx hb dX7_set_22 (by decide) ?_
      obtain ⟨q_6, hq_6, hrun⟩ := bd_some hrun
      refine cI_callS (As := [.int x3, .int 0, .int 2]) (rest := [.ref to]) (wr := (wX7 kI kJ to ta z nst his len txt thr god prm npr cov siz pts rea pla bef has)) (wN := (wX7 kI kJ to ta z nst his len txt thr god prm npr cov siz pts rea pla bef has)) hE (c_X7_within l D kI kJ kS x3 0 2  hq_6) (va_cwS 3 hts gX7_set_X7_within rfl rfl rfl (by decide +kernel) ⟨Nat.le_of_ble_eq_true rfl, Nat.le_of_ble_eq_true rfl⟩) hP hD hS [] [0, 1, 2, 3, 4, 5, 6, 7, 8, 9] [0, 1, 2, 3, 4, 5, 6, 7, 8, 9] rfl rfl rfl rfl (by decide) rfl rfl rfl hl.1 rfl (Nat.le_of_ble_eq_true rfl) dX7_set_23 ⟨Nat.le_of_ble_eq_true rfl, Nat.le_of_ble_eq_true rfl⟩ (fun H locs hP hD hS => ?_)
      refine lv_if_eq (tgt := 33) hx hb dX7_set_26 (by decide) (fun hc => ?_) (fun hc => ?_)
      · have hrun := it_t hc hrun
        refine lv_iconst (v := 2) hx hb dX7_set_33 (by decide) ?_
        exact c_J34 x1 x2 x3 2 z nst his thr hrun _ _ _ hP hD hS (lv_sub hl [0, 1, 2, 3] rfl)
      · have hrun := it_f hc hrun
        refine lv_iconst (v := 0) hx hb dX7_set_29 (by decide) ?_
        refine lv_goto (tgt := 34) hx hb dX7_set_30 (by decide) ?_
        exact c_J34 x1 x2 x3 0 z nst his thr hrun _ _ _ hP hD hS (lv_sub hl [0, 1, 2, 3] rfl)
    · have hrun := it_t hc hrun
      exact c_J16 x1 x2 x3 z nst his thr hrun _ _ _ hP hD hS (lv_sub hl [0, 1, 2, 3] rfl)
/-! ===== X7_truthsOf ===== -/
set_option maxHeartbeats 4000000 in
set_option maxRecDepth 100000 in
theorem c_X7_truthsOf (l : Launch) (D : va_G) (kI kJ kS : ClassId) (to : Nat) (ta : Nat → Nat) (x1 : Int32) (x2 : Int32) (z : (Nat → Int32)) (nst : Int32) (his : (Nat → Int32)) (len : Int32) (txt : (Nat → Int32)) (thr : Int32) (god : (Nat → Int64)) (prm : (Nat → Int32)) (npr : Int32) (cov : (Nat → Int32)) (siz : (Nat → Int32)) (pts : (Nat → Int32)) (rea : Int32) (pla : Int32) (bef : (Nat → Int32)) (has : Int64) {r : Int32} (hrun : fX7_truthsOf z x1 x2 = some r) : cI l D (tyL kI kJ kS) false yX7_truthsOf wsX7_truthsOf (rmk 1 0 0 22) [.ref to, .int x1, .int x2] (wX7 kI kJ to ta z nst his len txt thr god prm npr cov siz pts rea pla bef has) (wX7 kI kJ to ta z nst his len txt thr god prm npr cov siz pts rea pla bef has) r := by
  refine cI_of (cc := cX7_truthsOf) (maxL := 5) (by decide) rfl (Nat.le_of_ble_eq_true rfl) ?_
  intro p e s m av below meth c A Q ls hE hP hD hS hl hret
  have hE : ent_ p s m av meth c RX7 cX7_truthsOf 5 (some .int) wsX7_truthsOf (tyL kI kJ kS) D A false := hE
  obtain ⟨hx, hb, hml, hown, hts, hr, hlocks, hK, hA, hst⟩ := id hE
  have hl : lv_has ls 5 [(0, .ref to), (1, .int x1), (2, .int x2)] := hl
  have c_J31 : ∀ (x1 : Int32) (x2 : Int32) (x4 : Int32) (s0 : Int32) (s1 : Int32) (k5 : Int32 → Int32 → Option (Int32)) (hk5 : (∀ (x3 : Int32) (x4 : Int32), k5 x3 x4 = some r → wAt p l e (rmk 1 0 0 22) s m av below meth c D A 5 0 0 Q 5 [] [(0, .ref to), (1, .int x1), (2, .int x2), (3, .int x3), (4, .int x4)] (wX7 kI kJ to ta z nst his len txt thr god prm npr cov siz pts rea pla bef has))), fX7_truthsOf_J31 x1 x2 x4 s0 s1 z k5 = some r → wAt p l e (rmk 1 0 0 22) s m av below meth c D A 5 0 0 Q 31 [.int s0, .int s1] [(0, .ref to), (1, .int x1), (2, .int x2), (4, .int x4)] (wX7 kI kJ to ta z nst his len txt thr god prm npr cov siz pts rea pla bef has) := by
    intro x1 x2 x4 s0 s1 k5 hk5 hrun H locs ls hP hD hS hl
    unfold fX7_truthsOf_J31 at hrun
    refine lv_iadd hx hb dX7_truthsOf_31 ?_
    refine lv_istore_n (lv' := [(3, .int (s1 + s0)), (0, .ref to), (1, .int x1), (2, .int x2), (4, .int x4)]) hx hb dX7_truthsOf_32 rfl hl (by decide) rfl (fun ls hl => ?_)
    refine lv_iinc (v := x4 + 1) (lv' := [(4, .int (x4 + 1)), (3, .int (s1 + s0)), (0, .ref to), (1, .int x1), (2, .int x2)]) hx hb dX7_truthsOf_33 hl (k := 4) rfl rfl (by decide) rfl (fun ls hl => ?_)
    refine lv_goto (tgt := 5) hx hb dX7_truthsOf_36 (by decide) ?_
    exact hk5 (s1 + s0) (x4 + 1)  hrun _ _ _ hP hD hS (lv_sub hl [2, 3, 4, 1, 0] rfl)
  have c_L5 : ∀ (x1 : Int32) (x2 : Int32) (n : Nat) (x3 : Int32) (x4 : Int32), fX7_truthsOf_L5 x1 x2 z n x3 x4 = some r → wAt p l e (rmk 1 0 0 22) s m av below meth c D A 5 0 0 Q 5 [] [(0, .ref to), (1, .int x1), (2, .int x2), (3, .int x3), (4, .int x4)] (wX7 kI kJ to ta z nst his len txt thr god prm npr cov siz pts rea pla bef has) := by
    intro x1 x2 n
    induction n with
    | zero =>
      intro x3 x4 hrun
      rw [fX7_truthsOf_L5] at hrun
      cases hrun
    | succ n ih =>
      intro x3 x4 hrun H locs ls hP hD hS hl
      rw [fX7_truthsOf_L5] at hrun
      refine lv_iload hx hb dX7_truthsOf_5 (lv_at hl 4 rfl) ?_
      refine lv_aload_n hx hb dX7_truthsOf_7 rfl (lv_at hl 0 rfl) ?_
      obtain ⟨q_1, hq_1, hrun⟩ := bd_some hrun
      refine cI_callV (As := []) (rest := [.int x4]) (wr := []) (wN := (wX7 kI kJ to ta z nst his len txt thr god prm npr cov siz pts rea pla bef has)) (ci := 6) (q0 := 0) hE (c_X7_rows l D kI kJ kS to ta  z nst his len txt thr god prm npr cov siz pts rea pla bef has hq_1) (cwV 0 hts gX7_truthsOf_X7_rows rfl rfl rfl (by decide +kernel) ⟨Nat.le_of_ble_eq_true rfl, Nat.le_of_ble_eq_true rfl⟩) hP hD hS [0, 1, 2, 3, 4, 5, 6, 7, 8, 9] [] [0, 1, 2, 3, 4, 5, 6, 7, 8, 9] rfl rfl rfl rfl (by decide) rfl rfl rfl rfl rfl hl.1 rfl (Nat.le_of_ble_eq_true rfl) dX7_truthsOf_8 ⟨Nat.le_of_ble_eq_true rfl, Nat.le_of_ble_eq_true rfl⟩ (fun H locs hP hD hS => ?_)
      refine lv_icmp_ge (tgt := 39) hx hb dX7_truthsOf_11 (by decide) (fun hc => ?_) (fun hc => ?_)
      · have hrun := it_t hc hrun
        refine lv_iload_n hx hb dX7_truthsOf_39 rfl (lv_at hl 3 rfl) ?_
        obtain rfl := Option.some.inj hrun
        exact hret _ _ _ _ rfl dX7_truthsOf_40 hP hD hS
      · have hrun := it_f hc hrun
        refine lv_iload_n hx hb dX7_truthsOf_14 rfl (lv_at hl 3 rfl) ?_
        refine lv_aload_n hx hb dX7_truthsOf_15 rfl (lv_at hl 0 rfl) ?_
        refine lv_iload_n hx hb dX7_truthsOf_16 rfl (lv_at hl 1 rfl) ?_
        refine lv_iload hx hb dX7_truthsOf_17 (lv_at hl 4 rfl) ?_
        obtain ⟨q_2, hq_2, hrun⟩ := bd_some hrun
        refine cI_callV (As := [.int x1, .int x4]) (rest := [.int x3]) (wr := []) (wN := (wX7 kI kJ to ta z nst his len txt thr god prm npr cov siz pts rea pla bef has)) (ci := 6) (q0 := 0) hE (c_X7_truth l D kI kJ kS to ta x1 x4 z nst his len txt thr god prm npr cov siz pts rea pla bef has hq_2) (cwV 2 hts gX7_truthsOf_X7_truth rfl rfl rfl (by decide +kernel) ⟨Nat.le_of_ble_eq_true rfl, Nat.le_of_ble_eq_true rfl⟩) hP hD hS [0, 1, 2, 3, 4, 5, 6, 7, 8, 9] [] [0, 1, 2, 3, 4, 5, 6, 7, 8, 9] rfl rfl rfl rfl (by decide) rfl rfl rfl rfl rfl hl.1 rfl (Nat.le_of_ble_eq_true rfl) dX7_truthsOf_19 ⟨Nat.le_of_ble_eq_true rfl, Nat.le_of_ble_eq_true rfl⟩ (fun H locs hP hD hS => ?_)
        refine lv_iload_n hx hb dX7_truthsOf_22 rfl (lv_at hl 2 rfl) ?_
        refine lv_icmp_ne (tgt := 30) hx hb dX7_truthsOf_23 (by decide) (fun hc => ?_) (fun hc => ?_)
        · have hrun := it_f hc hrun
          refine lv_iconst (v := 0) hx hb dX7_truthsOf_30 (by decide) ?_
          exact c_J31 x1 x2 x4 0 x3 (fX7_truthsOf_L5 x1 x2 z n) ih  hrun _ _ _ hP hD hS (lv_sub hl [0, 1, 2, 4] rfl)
        · have hrun := it_t hc hrun
          refine lv_iconst (v := 1) hx hb dX7_truthsOf_26 (by decide) ?_
          refine lv_goto (tgt := 31) hx hb dX7_truthsOf_27 (by decide) ?_
          exact c_J31 x1 x2 x4 1 x3 (fX7_truthsOf_L5 x1 x2 z n) ih  hrun _ _ _ hP hD hS (lv_sub hl [0, 1, 2, 4] rfl)
  unfold fX7_truthsOf at hrun
  refine lv_iconst (v := 0) hx hb dX7_truthsOf_0 (by decide) ?_
  refine lv_istore_n (lv' := [(3, .int 0), (0, .ref to), (1, .int x1), (2, .int x2)]) hx hb dX7_truthsOf_1 rfl hl (by decide) rfl (fun ls hl => ?_)
  refine lv_iconst (v := 0) hx hb dX7_truthsOf_2 (by decide) ?_
  refine lv_istore (lv' := [(4, .int 0), (3, .int 0), (0, .ref to), (1, .int x1), (2, .int x2)]) hx hb dX7_truthsOf_3 hl (by decide) rfl (fun ls hl => ?_)
  exact c_L5 x1 x2 5000 0 0  hrun _ _ _ hP hD hS (lv_sub hl [2, 3, 4, 1, 0] rfl)
/-! ===== X7_invert ===== -/
theorem mX7_invert_1 : Cond.fieldLink RX7 38 "GateMazeModel" "thrown" "I" ∈ wsX7_invert := List.mem_of_getElem? (i := 1) rfl
theorem iX7_invert_X7 : ∀ w ∈ u_ws RX7 TX7 16, w ∈ wsX7_invert := fun w h => List.mem_cons_of_mem _ (List.mem_append_right _ h)
set_option maxHeartbeats 4000000 in
set_option maxRecDepth 100000 in
theorem c_X7_invert (l : Launch) (D : va_G) (kI kJ kS : ClassId) (to : Nat) (ta : Nat → Nat) (x1 : Int32) (z : (Nat → Int32)) (nst : Int32) (his : (Nat → Int32)) (len : Int32) (txt : (Nat → Int32)) (thr : Int32) (god : (Nat → Int64)) (prm : (Nat → Int32)) (npr : Int32) (cov : (Nat → Int32)) (siz : (Nat → Int32)) (pts : (Nat → Int32)) (rea : Int32) (pla : Int32) (bef : (Nat → Int32)) (has : Int64) {r : Int32 × (Nat → Int32) × Int32 × (Nat → Int32) × Int32} (hrun : fX7_invert z nst his x1 = some r) : cI l D (tyL kI kJ kS) false yX7_invert wsX7_invert (rmk 2 0 0 46) [.ref to, .int x1] (wX7 kI kJ to ta z nst his len txt thr god prm npr cov siz pts rea pla bef has) (wX7 kI kJ to ta r.2.1 r.2.2.1 r.2.2.2.1 len txt r.2.2.2.2 god prm npr cov siz pts rea pla bef has) r.1 := by
  refine cI_of (cc := cX7_invert) (maxL := 4) (by decide) rfl (Nat.le_of_ble_eq_true rfl) ?_
  intro p e s m av below meth c A Q ls hE hP hD hS hl hret
  have hE : ent_ p s m av meth c RX7 cX7_invert 4 (some .int) wsX7_invert (tyL kI kJ kS) D A false := hE
  obtain ⟨hx, hb, hml, hown, hts, hr, hlocks, hK, hA, hst⟩ := id hE
  have hl : lv_has ls 4 [(0, .ref to), (1, .int x1)] := hl
  have c_J61 : ∀ (x1 : Int32) (x2 : Int32) (s0 : Int32) (s1 : Int32) (s2 : Int32) (z : (Nat → Int32)) (nst : Int32) (his : (Nat → Int32)) (thr : Int32) (k31 : Int32 → (Nat → Int32) → Option (Int32 × (Nat → Int32) × Int32 × (Nat → Int32) × Int32)) (hk31 : (∀ (x2 : Int32) (z : (Nat → Int32)), k31 x2 z = some r → wAt p l e (rmk 2 0 0 46) s m av below meth c D A 4 0 0 Q 31 [] [(0, .ref to), (1, .int x1), (2, .int x2)] (wX7 kI kJ to ta z nst his len txt thr god prm npr cov siz pts rea pla bef has))), fX7_invert_J61 x1 x2 s0 s1 s2 z nst his thr k31 = some r → wAt p l e (rmk 2 0 0 46) s m av below meth c D A 4 0 0 Q 61 [.int s0, .int s1, .int s2, .ref to] [(0, .ref to), (1, .int x1), (2, .int x2)] (wX7 kI kJ to ta z nst his len txt thr god prm npr cov siz pts rea pla bef has) := by
    intro x1 x2 s0 s1 s2 z nst his thr k31 hk31 hrun H locs ls hP hD hS hl
    unfold fX7_invert_J61 at hrun
    obtain ⟨q_1, hq_1, hrun⟩ := bd_some hrun
    refine cV_callV (As := [.int s2, .int s1, .int s0]) (rest := []) (wr := []) (wN := (wX7 kI kJ to ta q_1 nst his len txt thr god prm npr cov siz pts rea pla bef has)) (ci := 6) (q0 := 0) hE (c_X7_setTruth l D kI kJ kS to ta s2 s1 s0 z nst his len txt thr god prm npr cov siz pts rea pla bef has hq_1) (cwV 3 hts gX7_invert_X7_setTruth rfl rfl rfl (by decide +kernel) ⟨Nat.le_of_ble_eq_true rfl, Nat.le_of_ble_eq_true rfl⟩) hP hD hS [0, 1, 2, 3, 4, 5, 6, 7, 8, 9] [] [0, 1, 2, 3, 4, 5, 6, 7, 8, 9] rfl rfl rfl rfl (by decide) rfl rfl rfl rfl rfl hl.1 rfl (Nat.le_of_ble_eq_true rfl) dX7_invert_61 ⟨Nat.le_of_ble_eq_true rfl, Nat.le_of_ble_eq_true rfl⟩ (fun H locs hP hD hS => ?_)
    refine lv_iinc (v := x2 + 1) (lv' := [(2, .int (x2 + 1)), (0, .ref to), (1, .int x1)]) hx hb dX7_invert_64 hl (k := 2) rfl rfl (by decide) rfl (fun ls hl => ?_)
    refine lv_goto (tgt := 31) hx hb dX7_invert_67 (by decide) ?_
    exact hk31 (x2 + 1) q_1  hrun _ _ _ hP hD hS (lv_sub hl [1, 2, 0] rfl)
  have c_J70 : ∀ (x1 : Int32) (z : (Nat → Int32)) (nst : Int32) (his : (Nat → Int32)) (thr : Int32), fX7_invert_J70 x1 z nst his thr = some r → wAt p l e (rmk 2 0 0 46) s m av below meth c D A 4 0 0 Q 70 [] [(0, .ref to), (1, .int x1)] (wX7 kI kJ to ta z nst his len txt thr god prm npr cov siz pts rea pla bef has) := by
    intro x1 z nst his thr hrun H locs ls hP hD hS hl
    unfold fX7_invert_J70 at hrun
    refine lv_aload_n hx hb dX7_invert_70 rfl (lv_at hl 0 rfl) ?_
    refine lv_iload_n hx hb dX7_invert_71 rfl (lv_at hl 1 rfl) ?_
    refine lv_iconst (v := 1) hx hb dX7_invert_72 (by decide) ?_
    obtain ⟨q_2, hq_2, hrun⟩ := bd_some hrun
    refine cI_callV (As := [.int x1, .int 1]) (rest := []) (wr := []) (wN := (wX7 kI kJ to ta z nst his len txt thr god prm npr cov siz pts rea pla bef has)) (ci := 6) (q0 := 0) hE (c_X7_truthsOf l D kI kJ kS to ta x1 1 z nst his len txt thr god prm npr cov siz pts rea pla bef has hq_2) (cwV 2 hts gX7_invert_X7_truthsOf rfl rfl rfl (by decide +kernel) ⟨Nat.le_of_ble_eq_true rfl, Nat.le_of_ble_eq_true rfl⟩) hP hD hS [0, 1, 2, 3, 4, 5, 6, 7, 8, 9] [] [0, 1, 2, 3, 4, 5, 6, 7, 8, 9] rfl rfl rfl rfl (by decide) rfl rfl rfl rfl rfl hl.1 rfl (Nat.le_of_ble_eq_true rfl) dX7_invert_73 ⟨Nat.le_of_ble_eq_true rfl, Nat.le_of_ble_eq_true rfl⟩ (fun H locs hP hD hS => ?_)
    obtain rfl := Option.some.inj hrun
    exact hret _ _ _ _ rfl dX7_invert_76 hP hD hS
  have c_L31 : ∀ (x1 : Int32) (nst : Int32) (his : (Nat → Int32)) (thr : Int32) (n : Nat) (x2 : Int32) (z : (Nat → Int32)), fX7_invert_L31 x1 nst his thr n x2 z = some r → wAt p l e (rmk 2 0 0 46) s m av below meth c D A 4 0 0 Q 31 [] [(0, .ref to), (1, .int x1), (2, .int x2)] (wX7 kI kJ to ta z nst his len txt thr god prm npr cov siz pts rea pla bef has) := by
    intro x1 nst his thr n
    induction n with
    | zero =>
      intro x2 z hrun
      rw [fX7_invert_L31] at hrun
      cases hrun
    | succ n ih =>
      intro x2 z hrun H locs ls hP hD hS hl
      rw [fX7_invert_L31] at hrun
      refine lv_iload_n hx hb dX7_invert_31 rfl (lv_at hl 2 rfl) ?_
      refine lv_aload_n hx hb dX7_invert_32 rfl (lv_at hl 0 rfl) ?_
      obtain ⟨q_3, hq_3, hrun⟩ := bd_some hrun
      refine cI_callV (As := []) (rest := [.int x2]) (wr := []) (wN := (wX7 kI kJ to ta z nst his len txt thr god prm npr cov siz pts rea pla bef has)) (ci := 6) (q0 := 0) hE (c_X7_rows l D kI kJ kS to ta  z nst his len txt thr god prm npr cov siz pts rea pla bef has hq_3) (cwV 0 hts gX7_invert_X7_rows rfl rfl rfl (by decide +kernel) ⟨Nat.le_of_ble_eq_true rfl, Nat.le_of_ble_eq_true rfl⟩) hP hD hS [0, 1, 2, 3, 4, 5, 6, 7, 8, 9] [] [0, 1, 2, 3, 4, 5, 6, 7, 8, 9] rfl rfl rfl rfl (by decide) rfl rfl rfl rfl rfl hl.1 rfl (Nat.le_of_ble_eq_true rfl) dX7_invert_33 ⟨Nat.le_of_ble_eq_true rfl, Nat.le_of_ble_eq_true rfl⟩ (fun H locs hP hD hS => ?_)
      refine lv_icmp_ge (tgt := 70) hx hb dX7_invert_36 (by decide) (fun hc => ?_) (fun hc => ?_)
      · have hrun := it_t hc hrun
        exact c_J70 x1 z nst his thr  hrun _ _ _ hP hD hS (lv_sub hl [0, 1] rfl)
      · have hrun := it_f hc hrun
        refine lv_aload_n hx hb dX7_invert_39 rfl (lv_at hl 0 rfl) ?_
        refine lv_iload_n hx hb dX7_invert_40 rfl (lv_at hl 1 rfl) ?_
        refine lv_iload_n hx hb dX7_invert_41 rfl (lv_at hl 2 rfl) ?_
        obtain ⟨q_4, hq_4, hrun⟩ := bd_some hrun
        refine cI_callV (As := [.int x1, .int x2]) (rest := []) (wr := []) (wN := (wX7 kI kJ to ta z nst his len txt thr god prm npr cov siz pts rea pla bef has)) (ci := 6) (q0 := 0) hE (c_X7_truth l D kI kJ kS to ta x1 x2 z nst his len txt thr god prm npr cov siz pts rea pla bef has hq_4) (cwV 2 hts gX7_invert_X7_truth rfl rfl rfl (by decide +kernel) ⟨Nat.le_of_ble_eq_true rfl, Nat.le_of_ble_eq_true rfl⟩) hP hD hS [0, 1, 2, 3, 4, 5, 6, 7, 8, 9] [] [0, 1, 2, 3, 4, 5, 6, 7, 8, 9] rfl rfl rfl rfl (by decide) rfl rfl rfl rfl rfl hl.1 rfl (Nat.le_of_ble_eq_true rfl) dX7_invert_42 ⟨Nat.le_of_ble_eq_true rfl, Nat.le_of_ble_eq_true rfl⟩ (fun H locs hP hD hS => ?_)
        refine lv_istore_n (lv' := [(3, .int q_4), (0, .ref to), (1, .int x1), (2, .int x2)]) hx hb dX7_invert_45 rfl hl (by decide) rfl (fun ls hl => ?_)
        refine lv_aload_n hx hb dX7_invert_46 rfl (lv_at hl 1 rfl) ?_
        refine lv_iload_n hx hb dX7_invert_47 rfl (lv_at hl 2 rfl) ?_
        refine lv_iload_n hx hb dX7_invert_48 rfl (lv_at hl 3 rfl) ?_
        refine lv_iload_n hx hb dX7_invert_49 rfl (lv_at hl 0 rfl) ?_
        refine lv_iconst (v := 2) hx hb dX7_invert_50 (by decide) ?_
        refine lv_icmp_ne (tgt := 58) hx hb dX7_invert_51 (by decide) (fun hc => ?_) (fun hc => ?_)
        · have hrun := it_f hc hrun
          refine lv_iconst (v := 1) hx hb dX7_invert_58 (by decide) ?_
          refine lv_iload_n hx hb dX7_invert_59 rfl (lv_at hl 0 rfl) ?_
          refine lv_isub hx hb dX7_invert_60 ?_
          exact c_J61 x1 x2 (1 - q_4) x2 x1 z nst his thr (fX7_invert_L31 x1 nst his thr n) ih  hrun _ _ _ hP hD hS (lv_sub hl [1, 2, 3] rfl)
        · have hrun := it_t hc hrun
          refine lv_iconst (v := 2) hx hb dX7_invert_54 (by decide) ?_
          refine lv_goto (tgt := 61) hx hb dX7_invert_55 (by decide) ?_
          exact c_J61 x1 x2 2 x2 x1 z nst his thr (fX7_invert_L31 x1 nst his thr n) ih  hrun _ _ _ hP hD hS (lv_sub hl [1, 2, 3] rfl)
  have c_J13 : ∀ (x1 : Int32) (s0 : Int32) (z : (Nat → Int32)) (nst : Int32) (his : (Nat → Int32)) (thr : Int32), fX7_invert_J13 x1 s0 z nst his = some r → wAt p l e (rmk 2 0 0 46) s m av below meth c D A 4 0 0 Q 13 [.int s0, .ref to] [(0, .ref to), (1, .int x1)] (wX7 kI kJ to ta z nst his len txt thr god prm npr cov siz pts rea pla bef has) := by
    intro x1 s0 z nst his thr hrun H locs ls hP hD hS hl
    unfold fX7_invert_J13 at hrun
    refine va_put (D := D) (ci := 6) (v := .int s0) (ty := .int) (C := RX7) (T := TX7) (N := 16) hx hb hts iX7_invert_X7 tyX7 tyX7_ok nmX7 hown hK hP hD hS 0 rfl rfl 5 (by decide) (hts _ mX7_invert_1) (fun _ h9 => h9) rfl (by decide +kernel) rfl rfl (Nat.le_of_ble_eq_true rfl) dX7_invert_13 (fun H locs hP hD hS => ?_)
    have hP : va_P D vwCl (wX7 kI kJ to ta z nst his len txt s0 god prm npr cov siz pts rea pla bef has) H := hP
    have hD : va_D A (wX7 kI kJ to ta z nst his len txt s0 god prm npr cov siz pts rea pla bef has) := hD
    refine lv_aload_n hx hb dX7_invert_16 rfl (lv_at hl 0 rfl) ?_
    refine va_get (D := D) (ci := 6) (v := .int s0) (C := RX7) (T := TX7) (N := 16) hx hb hts iX7_invert_X7 hown hK hP 0 rfl rfl 5 (by decide) (hts _ mX7_invert_1) (fun _ h9 => h9) rfl dX7_invert_17 ?_
    refine lv_if_le (tgt := 25) hx hb dX7_invert_20 (by decide) (fun hc => ?_) (fun hc => ?_)
    · have hrun := it_t hc hrun
      refine lv_aload_n hx hb dX7_invert_25 rfl (lv_at hl 0 rfl) ?_
      obtain ⟨q_5, hq_5, hrun⟩ := bd_some hrun
      refine cV_callV (As := []) (rest := []) (wr := []) (wN := (wX7 kI kJ to ta z q_5.1 q_5.2 len txt s0 god prm npr cov siz pts rea pla bef has)) (ci := 6) (q0 := 0) hE (c_X7_save l D kI kJ kS to ta  z nst his len txt s0 god prm npr cov siz pts rea pla bef has hq_5) (cwV 0 hts gX7_invert_X7_save rfl rfl rfl (by decide +kernel) ⟨Nat.le_of_ble_eq_true rfl, Nat.le_of_ble_eq_true rfl⟩) hP hD hS [0, 1, 2, 3, 4, 5, 6, 7, 8, 9] [] [0, 1, 2, 3, 4, 5, 6, 7, 8, 9] rfl rfl rfl rfl (by decide) rfl rfl rfl rfl rfl hl.1 rfl (Nat.le_of_ble_eq_true rfl) dX7_invert_26 ⟨Nat.le_of_ble_eq_true rfl, Nat.le_of_ble_eq_true rfl⟩ (fun H locs hP hD hS => ?_)
      refine lv_iconst (v := 0) hx hb dX7_invert_29 (by decide) ?_
      refine lv_istore_n (lv' := [(2, .int 0), (0, .ref to), (1, .int x1)]) hx hb dX7_invert_30 rfl hl (by decide) rfl (fun ls hl => ?_)
      exact c_L31 x1 q_5.1 q_5.2 s0 5000 0 z  hrun _ _ _ hP hD hS (lv_sub hl [1, 2, 0] rfl)
    · have hrun := it_f hc hrun
      refine lv_iconst (v := 0) hx hb dX7_invert_23 (by decide) ?_
      obtain rfl := Option.some.inj hrun
      exact hret _ _ _ _ rfl dX7_invert_24 hP hD hS
  unfold fX7_invert at hrun
  refine lv_aload_n hx hb dX7_invert_0 rfl (lv_at hl 0 rfl) ?_
  refine lv_iload_n hx hb dX7_invert_1 rfl (lv_at hl 1 rfl) ?_
  obtain ⟨q_6, hq_6, hrun⟩ := bd_some hrun
  refine cI_callS (As := [.int x1]) (rest := [.ref to]) (wr := (wX7 kI kJ to ta z nst his len txt thr god prm npr cov siz pts rea pla bef has)) (wN := (wX7 kI kJ to ta z nst his len txt thr god prm npr cov siz pts rea pla bef has)) hE (c_X7_isOutput l D kI kJ kS x1  hq_6) (va_cwS 1 hts gX7_invert_X7_isOutput rfl rfl rfl (by decide +kernel) ⟨Nat.le_of_ble_eq_true rfl, Nat.le_of_ble_eq_true rfl⟩) hP hD hS [] [0, 1, 2, 3, 4, 5, 6, 7, 8, 9] [0, 1, 2, 3, 4, 5, 6, 7, 8, 9] rfl rfl rfl rfl (by decide) rfl rfl rfl hl.1 rfl (Nat.le_of_ble_eq_true rfl) dX7_invert_2 ⟨Nat.le_of_ble_eq_true rfl, Nat.le_of_ble_eq_true rfl⟩ (fun H locs hP hD hS => ?_)
  refine lv_if_eq (tgt := 12) hx hb dX7_invert_5 (by decide) (fun hc => ?_) (fun hc => ?_)
  · have hrun := it_t hc hrun
    refine lv_iconst (v := 1) hx hb dX7_invert_12 (by decide) ?_
    exact c_J13 x1 1 z nst his thr hrun _ _ _ hP hD hS (lv_sub hl [0, 1] rfl)
  · have hrun := it_f hc hrun
    refine lv_iconst (v := 0) hx hb dX7_invert_8 (by decide) ?_
    refine lv_goto (tgt := 13) hx hb dX7_invert_9 (by decide) ?_
    exact c_J13 x1 0 z nst his thr hrun _ _ _ hP hD hS (lv_sub hl [0, 1] rfl)
/-! ===== X7_join ===== -/
theorem mX7_join_1 : Cond.fieldLink RX7 38 "GateMazeModel" "thrown" "I" ∈ wsX7_join := List.mem_of_getElem? (i := 1) rfl
theorem iX7_join_X7 : ∀ w ∈ u_ws RX7 TX7 16, w ∈ wsX7_join := fun w h => List.mem_cons_of_mem _ (List.mem_append_right _ h)
set_option maxHeartbeats 4000000 in
set_option maxRecDepth 100000 in
theorem c_X7_join (l : Launch) (D : va_G) (kI kJ kS : ClassId) (to : Nat) (ta : Nat → Nat) (x1 : Int32) (x2 : Int32) (z : (Nat → Int32)) (nst : Int32) (his : (Nat → Int32)) (len : Int32) (txt : (Nat → Int32)) (thr : Int32) (god : (Nat → Int64)) (prm : (Nat → Int32)) (npr : Int32) (cov : (Nat → Int32)) (siz : (Nat → Int32)) (pts : (Nat → Int32)) (rea : Int32) (pla : Int32) (bef : (Nat → Int32)) (has : Int64) {r : Int32 × (Nat → Int32) × Int32 × (Nat → Int32) × Int32} (hrun : fX7_join z nst his x1 x2 = some r) : cI l D (tyL kI kJ kS) false yX7_join wsX7_join (rmk 2 0 0 46) [.ref to, .int x1, .int x2] (wX7 kI kJ to ta z nst his len txt thr god prm npr cov siz pts rea pla bef has) (wX7 kI kJ to ta r.2.1 r.2.2.1 r.2.2.2.1 len txt r.2.2.2.2 god prm npr cov siz pts rea pla bef has) r.1 := by
  refine cI_of (cc := cX7_join) (maxL := 6) (by decide) rfl (Nat.le_of_ble_eq_true rfl) ?_
  intro p e s m av below meth c A Q ls hE hP hD hS hl hret
  have hE : ent_ p s m av meth c RX7 cX7_join 6 (some .int) wsX7_join (tyL kI kJ kS) D A false := hE
  obtain ⟨hx, hb, hml, hown, hts, hr, hlocks, hK, hA, hst⟩ := id hE
  have hl : lv_has ls 6 [(0, .ref to), (1, .int x1), (2, .int x2)] := hl
  have c_J107 : ∀ (x1 : Int32) (x2 : Int32) (x3 : Int32) (s0 : Int32) (s1 : Int32) (s2 : Int32) (z : (Nat → Int32)) (nst : Int32) (his : (Nat → Int32)) (thr : Int32) (k47 : Int32 → (Nat → Int32) → Option (Int32 × (Nat → Int32) × Int32 × (Nat → Int32) × Int32)) (hk47 : (∀ (x3 : Int32) (z : (Nat → Int32)), k47 x3 z = some r → wAt p l e (rmk 2 0 0 46) s m av below meth c D A 6 0 0 Q 47 [] [(0, .ref to), (1, .int x1), (2, .int x2), (3, .int x3)] (wX7 kI kJ to ta z nst his len txt thr god prm npr cov siz pts rea pla bef has))), fX7_join_J107 x1 x2 x3 s0 s1 s2 z nst his thr k47 = some r → wAt p l e (rmk 2 0 0 46) s m av below meth c D A 6 0 0 Q 107 [.int s0, .int s1, .int s2, .ref to] [(0, .ref to), (1, .int x1), (2, .int x2), (3, .int x3)] (wX7 kI kJ to ta z nst his len txt thr god prm npr cov siz pts rea pla bef has) := by
    intro x1 x2 x3 s0 s1 s2 z nst his thr k47 hk47 hrun H locs ls hP hD hS hl
    unfold fX7_join_J107 at hrun
    obtain ⟨q_1, hq_1, hrun⟩ := bd_some hrun
    refine cV_callV (As := [.int s2, .int s1, .int s0]) (rest := []) (wr := []) (wN := (wX7 kI kJ to ta q_1 nst his len txt thr god prm npr cov siz pts rea pla bef has)) (ci := 6) (q0 := 0) hE (c_X7_setTruth l D kI kJ kS to ta s2 s1 s0 z nst his len txt thr god prm npr cov siz pts rea pla bef has hq_1) (cwV 3 hts gX7_join_X7_setTruth rfl rfl rfl (by decide +kernel) ⟨Nat.le_of_ble_eq_true rfl, Nat.le_of_ble_eq_true rfl⟩) hP hD hS [0, 1, 2, 3, 4, 5, 6, 7, 8, 9] [] [0, 1, 2, 3, 4, 5, 6, 7, 8, 9] rfl rfl rfl rfl (by decide) rfl rfl rfl rfl rfl hl.1 rfl (Nat.le_of_ble_eq_true rfl) dX7_join_107 ⟨Nat.le_of_ble_eq_true rfl, Nat.le_of_ble_eq_true rfl⟩ (fun H locs hP hD hS => ?_)
    refine lv_iinc (v := x3 + 1) (lv' := [(3, .int (x3 + 1)), (0, .ref to), (1, .int x1), (2, .int x2)]) hx hb dX7_join_110 hl (k := 3) rfl rfl (by decide) rfl (fun ls hl => ?_)
    refine lv_goto (tgt := 47) hx hb dX7_join_113 (by decide) ?_
    exact hk47 (x3 + 1) q_1  hrun _ _ _ hP hD hS (lv_sub hl [1, 2, 3, 0] rfl)
  have c_J86 : ∀ (x1 : Int32) (x2 : Int32) (x3 : Int32) (s0 : Int32) (s1 : Int32) (z : (Nat → Int32)) (nst : Int32) (his : (Nat → Int32)) (thr : Int32) (k47 : Int32 → (Nat → Int32) → Option (Int32 × (Nat → Int32) × Int32 × (Nat → Int32) × Int32)) (hk47 : (∀ (x3 : Int32) (z : (Nat → Int32)), k47 x3 z = some r → wAt p l e (rmk 2 0 0 46) s m av below meth c D A 6 0 0 Q 47 [] [(0, .ref to), (1, .int x1), (2, .int x2), (3, .int x3)] (wX7 kI kJ to ta z nst his len txt thr god prm npr cov siz pts rea pla bef has))), fX7_join_J86 x1 x2 x3 s0 s1 z nst his thr k47 = some r → wAt p l e (rmk 2 0 0 46) s m av below meth c D A 6 0 0 Q 86 [.int s0, .int s1, .ref to] [(0, .ref to), (1, .int x1), (2, .int x2), (3, .int x3)] (wX7 kI kJ to ta z nst his len txt thr god prm npr cov siz pts rea pla bef has) := by
    intro x1 x2 x3 s0 s1 z nst his thr k47 hk47 hrun H locs ls hP hD hS hl
    unfold fX7_join_J86 at hrun
    refine lv_iconst (v := 1) hx hb dX7_join_86 (by decide) ?_
    refine lv_goto (tgt := 107) hx hb dX7_join_87 (by decide) ?_
    exact c_J107 x1 x2 x3 1 s0 s1 z nst his thr k47 hk47  hrun _ _ _ hP hD hS (lv_sub hl [0, 1, 2, 3] rfl)
  have c_J102 : ∀ (x1 : Int32) (x2 : Int32) (x3 : Int32) (s0 : Int32) (s1 : Int32) (z : (Nat → Int32)) (nst : Int32) (his : (Nat → Int32)) (thr : Int32) (k47 : Int32 → (Nat → Int32) → Option (Int32 × (Nat → Int32) × Int32 × (Nat → Int32) × Int32)) (hk47 : (∀ (x3 : Int32) (z : (Nat → Int32)), k47 x3 z = some r → wAt p l e (rmk 2 0 0 46) s m av below meth c D A 6 0 0 Q 47 [] [(0, .ref to), (1, .int x1), (2, .int x2), (3, .int x3)] (wX7 kI kJ to ta z nst his len txt thr god prm npr cov siz pts rea pla bef has))), fX7_join_J102 x1 x2 x3 s0 s1 z nst his thr k47 = some r → wAt p l e (rmk 2 0 0 46) s m av below meth c D A 6 0 0 Q 102 [.int s0, .int s1, .ref to] [(0, .ref to), (1, .int x1), (2, .int x2), (3, .int x3)] (wX7 kI kJ to ta z nst his len txt thr god prm npr cov siz pts rea pla bef has) := by
    intro x1 x2 x3 s0 s1 z nst his thr k47 hk47 hrun H locs ls hP hD hS hl
    unfold fX7_join_J102 at hrun
    refine lv_iconst (v := 2) hx hb dX7_join_102 (by decide) ?_
    refine lv_goto (tgt := 107) hx hb dX7_join_103 (by decide) ?_
    exact c_J107 x1 x2 x3 2 s0 s1 z nst his thr k47 hk47  hrun _ _ _ hP hD hS (lv_sub hl [0, 1, 2, 3] rfl)
  have c_J116 : ∀ (x1 : Int32) (z : (Nat → Int32)) (nst : Int32) (his : (Nat → Int32)) (thr : Int32), fX7_join_J116 x1 z nst his thr = some r → wAt p l e (rmk 2 0 0 46) s m av below meth c D A 6 0 0 Q 116 [] [(0, .ref to), (1, .int x1)] (wX7 kI kJ to ta z nst his len txt thr god prm npr cov siz pts rea pla bef has) := by
    intro x1 z nst his thr hrun H locs ls hP hD hS hl
    unfold fX7_join_J116 at hrun
    refine lv_aload_n hx hb dX7_join_116 rfl (lv_at hl 0 rfl) ?_
    refine lv_iload_n hx hb dX7_join_117 rfl (lv_at hl 1 rfl) ?_
    refine lv_iconst (v := 1) hx hb dX7_join_118 (by decide) ?_
    obtain ⟨q_2, hq_2, hrun⟩ := bd_some hrun
    refine cI_callV (As := [.int x1, .int 1]) (rest := []) (wr := []) (wN := (wX7 kI kJ to ta z nst his len txt thr god prm npr cov siz pts rea pla bef has)) (ci := 6) (q0 := 0) hE (c_X7_truthsOf l D kI kJ kS to ta x1 1 z nst his len txt thr god prm npr cov siz pts rea pla bef has hq_2) (cwV 2 hts gX7_join_X7_truthsOf rfl rfl rfl (by decide +kernel) ⟨Nat.le_of_ble_eq_true rfl, Nat.le_of_ble_eq_true rfl⟩) hP hD hS [0, 1, 2, 3, 4, 5, 6, 7, 8, 9] [] [0, 1, 2, 3, 4, 5, 6, 7, 8, 9] rfl rfl rfl rfl (by decide) rfl rfl rfl rfl rfl hl.1 rfl (Nat.le_of_ble_eq_true rfl) dX7_join_119 ⟨Nat.le_of_ble_eq_true rfl, Nat.le_of_ble_eq_true rfl⟩ (fun H locs hP hD hS => ?_)
    obtain rfl := Option.some.inj hrun
    exact hret _ _ _ _ rfl dX7_join_122 hP hD hS
  have c_L47 : ∀ (x1 : Int32) (x2 : Int32) (nst : Int32) (his : (Nat → Int32)) (thr : Int32) (n : Nat) (x3 : Int32) (z : (Nat → Int32)), fX7_join_L47 x1 x2 nst his thr n x3 z = some r → wAt p l e (rmk 2 0 0 46) s m av below meth c D A 6 0 0 Q 47 [] [(0, .ref to), (1, .int x1), (2, .int x2), (3, .int x3)] (wX7 kI kJ to ta z nst his len txt thr god prm npr cov siz pts rea pla bef has) := by
    intro x1 x2 nst his thr n
    induction n with
    | zero =>
      intro x3 z hrun
      rw [fX7_join_L47] at hrun
      cases hrun
    | succ n ih =>
      intro x3 z hrun H locs ls hP hD hS hl
      rw [fX7_join_L47] at hrun
      refine lv_iload_n hx hb dX7_join_47 rfl (lv_at hl 3 rfl) ?_
      refine lv_aload_n hx hb dX7_join_48 rfl (lv_at hl 0 rfl) ?_
      obtain ⟨q_3, hq_3, hrun⟩ := bd_some hrun
      refine cI_callV (As := []) (rest := [.int x3]) (wr := []) (wN := (wX7 kI kJ to ta z nst his len txt thr god prm npr cov siz pts rea pla bef has)) (ci := 6) (q0 := 0) hE (c_X7_rows l D kI kJ kS to ta  z nst his len txt thr god prm npr cov siz pts rea pla bef has hq_3) (cwV 0 hts gX7_join_X7_rows rfl rfl rfl (by decide +kernel) ⟨Nat.le_of_ble_eq_true rfl, Nat.le_of_ble_eq_true rfl⟩) hP hD hS [0, 1, 2, 3, 4, 5, 6, 7, 8, 9] [] [0, 1, 2, 3, 4, 5, 6, 7, 8, 9] rfl rfl rfl rfl (by decide) rfl rfl rfl rfl rfl hl.1 rfl (Nat.le_of_ble_eq_true rfl) dX7_join_49 ⟨Nat.le_of_ble_eq_true rfl, Nat.le_of_ble_eq_true rfl⟩ (fun H locs hP hD hS => ?_)
      refine lv_icmp_ge (tgt := 116) hx hb dX7_join_52 (by decide) (fun hc => ?_) (fun hc => ?_)
      · have hrun := it_t hc hrun
        exact c_J116 x1 z nst his thr  hrun _ _ _ hP hD hS (lv_sub hl [0, 1] rfl)
      · have hrun := it_f hc hrun
        refine lv_aload_n hx hb dX7_join_55 rfl (lv_at hl 0 rfl) ?_
        refine lv_iload_n hx hb dX7_join_56 rfl (lv_at hl 1 rfl) ?_
        refine lv_iload_n hx hb dX7_join_57 rfl (lv_at hl 3 rfl) ?_
        obtain ⟨q_4, hq_4, hrun⟩ := bd_some hrun
        refine cI_callV (As := [.int x1, .int x3]) (rest := []) (wr := []) (wN := (wX7 kI kJ to ta z nst his len txt thr god prm npr cov siz pts rea pla bef has)) (ci := 6) (q0 := 0) hE (c_X7_truth l D kI kJ kS to ta x1 x3 z nst his len txt thr god prm npr cov siz pts rea pla bef has hq_4) (cwV 2 hts gX7_join_X7_truth rfl rfl rfl (by decide +kernel) ⟨Nat.le_of_ble_eq_true rfl, Nat.le_of_ble_eq_true rfl⟩) hP hD hS [0, 1, 2, 3, 4, 5, 6, 7, 8, 9] [] [0, 1, 2, 3, 4, 5, 6, 7, 8, 9] rfl rfl rfl rfl (by decide) rfl rfl rfl rfl rfl hl.1 rfl (Nat.le_of_ble_eq_true rfl) dX7_join_58 ⟨Nat.le_of_ble_eq_true rfl, Nat.le_of_ble_eq_true rfl⟩ (fun H locs hP hD hS => ?_)
        refine lv_istore (lv' := [(4, .int q_4), (0, .ref to), (1, .int x1), (2, .int x2), (3, .int x3)]) hx hb dX7_join_61 hl (by decide) rfl (fun ls hl => ?_)
        refine lv_aload_n hx hb dX7_join_63 rfl (lv_at hl 1 rfl) ?_
        refine lv_iload_n hx hb dX7_join_64 rfl (lv_at hl 3 rfl) ?_
        refine lv_iload_n hx hb dX7_join_65 rfl (lv_at hl 4 rfl) ?_
        obtain ⟨q_5, hq_5, hrun⟩ := bd_some hrun
        refine cI_callV (As := [.int x2, .int x3]) (rest := []) (wr := []) (wN := (wX7 kI kJ to ta z nst his len txt thr god prm npr cov siz pts rea pla bef has)) (ci := 6) (q0 := 0) hE (c_X7_truth l D kI kJ kS to ta x2 x3 z nst his len txt thr god prm npr cov siz pts rea pla bef has hq_5) (cwV 2 hts gX7_join_X7_truth rfl rfl rfl (by decide +kernel) ⟨Nat.le_of_ble_eq_true rfl, Nat.le_of_ble_eq_true rfl⟩) hP hD hS [0, 1, 2, 3, 4, 5, 6, 7, 8, 9] [] [0, 1, 2, 3, 4, 5, 6, 7, 8, 9] rfl rfl rfl rfl (by decide) rfl rfl rfl rfl rfl hl.1 rfl (Nat.le_of_ble_eq_true rfl) dX7_join_66 ⟨Nat.le_of_ble_eq_true rfl, Nat.le_of_ble_eq_true rfl⟩ (fun H locs hP hD hS => ?_)
        refine lv_istore (lv' := [(5, .int q_5), (4, .int q_4), (0, .ref to), (1, .int x1), (2, .int x2), (3, .int x3)]) hx hb dX7_join_69 hl (by decide) rfl (fun ls hl => ?_)
        refine lv_aload_n hx hb dX7_join_71 rfl (lv_at hl 2 rfl) ?_
        refine lv_iload_n hx hb dX7_join_72 rfl (lv_at hl 3 rfl) ?_
        refine lv_iload_n hx hb dX7_join_73 rfl (lv_at hl 5 rfl) ?_
        refine lv_iload hx hb dX7_join_74 (lv_at hl 1 rfl) ?_
        refine lv_iconst (v := 1) hx hb dX7_join_76 (by decide) ?_
        refine lv_icmp_eq (tgt := 86) hx hb dX7_join_77 (by decide) (fun hc => ?_) (fun hc => ?_)
        · have hrun := it_t hc hrun
          exact c_J86 x1 x2 x3 x3 x1 z nst his thr (fX7_join_L47 x1 x2 nst his thr n) ih  hrun _ _ _ hP hD hS (lv_sub hl [2, 3, 4, 5] rfl)
        · have hrun := it_f hc hrun
          refine lv_iload hx hb dX7_join_80 (lv_at hl 0 rfl) ?_
          refine lv_iconst (v := 1) hx hb dX7_join_82 (by decide) ?_
          refine lv_icmp_ne (tgt := 90) hx hb dX7_join_83 (by decide) (fun hc => ?_) (fun hc => ?_)
          · have hrun := it_f hc hrun
            refine lv_iload hx hb dX7_join_90 (lv_at hl 1 rfl) ?_
            refine lv_iconst (v := 2) hx hb dX7_join_92 (by decide) ?_
            refine lv_icmp_eq (tgt := 102) hx hb dX7_join_93 (by decide) (fun hc => ?_) (fun hc => ?_)
            · have hrun := it_t hc hrun
              exact c_J102 x1 x2 x3 x3 x1 z nst his thr (fX7_join_L47 x1 x2 nst his thr n) ih  hrun _ _ _ hP hD hS (lv_sub hl [2, 3, 4, 5] rfl)
            · have hrun := it_f hc hrun
              refine lv_iload hx hb dX7_join_96 (lv_at hl 0 rfl) ?_
              refine lv_iconst (v := 2) hx hb dX7_join_98 (by decide) ?_
              refine lv_icmp_ne (tgt := 106) hx hb dX7_join_99 (by decide) (fun hc => ?_) (fun hc => ?_)
              · have hrun := it_f hc hrun
                refine lv_iconst (v := 0) hx hb dX7_join_106 (by decide) ?_
                exact c_J107 x1 x2 x3 0 x3 x1 z nst his thr (fX7_join_L47 x1 x2 nst his thr n) ih  hrun _ _ _ hP hD hS (lv_sub hl [2, 3, 4, 5] rfl)
              · have hrun := it_t hc hrun
                exact c_J102 x1 x2 x3 x3 x1 z nst his thr (fX7_join_L47 x1 x2 nst his thr n) ih  hrun _ _ _ hP hD hS (lv_sub hl [2, 3, 4, 5] rfl)
          · have hrun := it_t hc hrun
            exact c_J86 x1 x2 x3 x3 x1 z nst his thr (fX7_join_L47 x1 x2 nst his thr n) ih  hrun _ _ _ hP hD hS (lv_sub hl [2, 3, 4, 5] rfl)
  have c_J29 : ∀ (x1 : Int32) (x2 : Int32) (s0 : Int32) (z : (Nat → Int32)) (nst : Int32) (his : (Nat → Int32)) (thr : Int32), fX7_join_J29 x1 x2 s0 z nst his = some r → wAt p l e (rmk 2 0 0 46) s m av below meth c D A 6 0 0 Q 29 [.int s0, .ref to] [(0, .ref to), (1, .int x1), (2, .int x2)] (wX7 kI kJ to ta z nst his len txt thr god prm npr cov siz pts rea pla bef has) := by
    intro x1 x2 s0 z nst his thr hrun H locs ls hP hD hS hl
    unfold fX7_join_J29 at hrun
    refine va_put (D := D) (ci := 6) (v := .int s0) (ty := .int) (C := RX7) (T := TX7) (N := 16) hx hb hts iX7_join_X7 tyX7 tyX7_ok nmX7 hown hK hP hD hS 0 rfl rfl 5 (by decide) (hts _ mX7_join_1) (fun _ h9 => h9) rfl (by decide +kernel) rfl rfl (Nat.le_of_ble_eq_true rfl) dX7_join_29 (fun H locs hP hD hS => ?_)
    have hP : va_P D vwCl (wX7 kI kJ to ta z nst his len txt s0 god prm npr cov siz pts rea pla bef has) H := hP
    have hD : va_D A (wX7 kI kJ to ta z nst his len txt s0 god prm npr cov siz pts rea pla bef has) := hD
    refine lv_aload_n hx hb dX7_join_32 rfl (lv_at hl 0 rfl) ?_
    refine va_get (D := D) (ci := 6) (v := .int s0) (C := RX7) (T := TX7) (N := 16) hx hb hts iX7_join_X7 hown hK hP 0 rfl rfl 5 (by decide) (hts _ mX7_join_1) (fun _ h9 => h9) rfl dX7_join_33 ?_
    refine lv_if_le (tgt := 41) hx hb dX7_join_36 (by decide) (fun hc => ?_) (fun hc => ?_)
    · have hrun := it_t hc hrun
      refine lv_aload_n hx hb dX7_join_41 rfl (lv_at hl 0 rfl) ?_
      obtain ⟨q_6, hq_6, hrun⟩ := bd_some hrun
      refine cV_callV (As := []) (rest := []) (wr := []) (wN := (wX7 kI kJ to ta z q_6.1 q_6.2 len txt s0 god prm npr cov siz pts rea pla bef has)) (ci := 6) (q0 := 0) hE (c_X7_save l D kI kJ kS to ta  z nst his len txt s0 god prm npr cov siz pts rea pla bef has hq_6) (cwV 0 hts gX7_join_X7_save rfl rfl rfl (by decide +kernel) ⟨Nat.le_of_ble_eq_true rfl, Nat.le_of_ble_eq_true rfl⟩) hP hD hS [0, 1, 2, 3, 4, 5, 6, 7, 8, 9] [] [0, 1, 2, 3, 4, 5, 6, 7, 8, 9] rfl rfl rfl rfl (by decide) rfl rfl rfl rfl rfl hl.1 rfl (Nat.le_of_ble_eq_true rfl) dX7_join_42 ⟨Nat.le_of_ble_eq_true rfl, Nat.le_of_ble_eq_true rfl⟩ (fun H locs hP hD hS => ?_)
      refine lv_iconst (v := 0) hx hb dX7_join_45 (by decide) ?_
      refine lv_istore_n (lv' := [(3, .int 0), (0, .ref to), (1, .int x1), (2, .int x2)]) hx hb dX7_join_46 rfl hl (by decide) rfl (fun ls hl => ?_)
      exact c_L47 x1 x2 q_6.1 q_6.2 s0 5000 0 z  hrun _ _ _ hP hD hS (lv_sub hl [1, 2, 3, 0] rfl)
    · have hrun := it_f hc hrun
      refine lv_iconst (v := 0) hx hb dX7_join_39 (by decide) ?_
      obtain rfl := Option.some.inj hrun
      exact hret _ _ _ _ rfl dX7_join_40 hP hD hS
  have c_J15 : ∀ (x1 : Int32) (x2 : Int32) (z : (Nat → Int32)) (nst : Int32) (his : (Nat → Int32)) (thr : Int32), fX7_join_J15 x1 x2 z nst his = some r → wAt p l e (rmk 2 0 0 46) s m av below meth c D A 6 0 0 Q 15 [.ref to] [(0, .ref to), (1, .int x1), (2, .int x2)] (wX7 kI kJ to ta z nst his len txt thr god prm npr cov siz pts rea pla bef has) := by
    intro x1 x2 z nst his thr hrun H locs ls hP hD hS hl
    unfold fX7_join_J15 at hrun
    refine lv_iconst (v := 1) hx hb dX7_join_15 (by decide) ?_
    refine lv_goto (tgt := 29) hx hb dX7_join_16 (by decide) ?_
    exact c_J29 x1 x2 1 z nst his thr hrun _ _ _ hP hD hS (lv_sub hl [0, 1, 2] rfl)
  unfold fX7_join at hrun
  refine lv_aload_n hx hb dX7_join_0 rfl (lv_at hl 0 rfl) ?_
  refine lv_iload_n hx hb dX7_join_1 rfl (lv_at hl 1 rfl) ?_
  obtain ⟨q_7, hq_7, hrun⟩ := bd_some hrun
  refine cI_callS (As := [.int x1]) (rest := [.ref to]) (wr := (wX7 kI kJ to ta z nst his len txt thr god prm npr cov siz pts rea pla bef has)) (wN := (wX7 kI kJ to ta z nst his len txt thr god prm npr cov siz pts rea pla bef has)) hE (c_X7_isOutput l D kI kJ kS x1  hq_7) (va_cwS 1 hts gX7_join_X7_isOutput rfl rfl rfl (by decide +kernel) ⟨Nat.le_of_ble_eq_true rfl, Nat.le_of_ble_eq_true rfl⟩) hP hD hS [] [0, 1, 2, 3, 4, 5, 6, 7, 8, 9] [0, 1, 2, 3, 4, 5, 6, 7, 8, 9] rfl rfl rfl rfl (by decide) rfl rfl rfl hl.1 rfl (Nat.le_of_ble_eq_true rfl) dX7_join_2 ⟨Nat.le_of_ble_eq_true rfl, Nat.le_of_ble_eq_true rfl⟩ (fun H locs hP hD hS => ?_)
  refine lv_if_eq (tgt := 15) hx hb dX7_join_5 (by decide) (fun hc => ?_) (fun hc => ?_)
  · have hrun := it_t hc hrun
    exact c_J15 x1 x2 z nst his thr hrun _ _ _ hP hD hS (lv_sub hl [0, 1, 2] rfl)
  · have hrun := it_f hc hrun
    refine lv_iload_n hx hb dX7_join_8 rfl (lv_at hl 2 rfl) ?_
    obtain ⟨q_8, hq_8, hrun⟩ := bd_some hrun
    refine cI_callS (As := [.int x2]) (rest := [.ref to]) (wr := (wX7 kI kJ to ta z nst his len txt thr god prm npr cov siz pts rea pla bef has)) (wN := (wX7 kI kJ to ta z nst his len txt thr god prm npr cov siz pts rea pla bef has)) hE (c_X7_isOutput l D kI kJ kS x2  hq_8) (va_cwS 1 hts gX7_join_X7_isOutput rfl rfl rfl (by decide +kernel) ⟨Nat.le_of_ble_eq_true rfl, Nat.le_of_ble_eq_true rfl⟩) hP hD hS [] [0, 1, 2, 3, 4, 5, 6, 7, 8, 9] [0, 1, 2, 3, 4, 5, 6, 7, 8, 9] rfl rfl rfl rfl (by decide) rfl rfl rfl hl.1 rfl (Nat.le_of_ble_eq_true rfl) dX7_join_9 ⟨Nat.le_of_ble_eq_true rfl, Nat.le_of_ble_eq_true rfl⟩ (fun H locs hP hD hS => ?_)
    refine lv_if_ne (tgt := 19) hx hb dX7_join_12 (by decide) (fun hc => ?_) (fun hc => ?_)
    · have hrun := it_f hc hrun
      refine lv_iload_n hx hb dX7_join_19 rfl (lv_at hl 1 rfl) ?_
      refine lv_iload_n hx hb dX7_join_20 rfl (lv_at hl 2 rfl) ?_
      refine lv_icmp_ne (tgt := 28) hx hb dX7_join_21 (by decide) (fun hc => ?_) (fun hc => ?_)
      · have hrun := it_f hc hrun
        refine lv_iconst (v := 0) hx hb dX7_join_28 (by decide) ?_
        exact c_J29 x1 x2 0 z nst his thr hrun _ _ _ hP hD hS (lv_sub hl [0, 1, 2] rfl)
      · have hrun := it_t hc hrun
        refine lv_iconst (v := 2) hx hb dX7_join_24 (by decide) ?_
        refine lv_goto (tgt := 29) hx hb dX7_join_25 (by decide) ?_
        exact c_J29 x1 x2 2 z nst his thr hrun _ _ _ hP hD hS (lv_sub hl [0, 1, 2] rfl)
    · have hrun := it_t hc hrun
      exact c_J15 x1 x2 z nst his thr hrun _ _ _ hP hD hS (lv_sub hl [0, 1, 2] rfl)
