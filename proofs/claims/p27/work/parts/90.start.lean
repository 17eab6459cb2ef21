/-! ===== the law's start ===== -/
section CNC
variable {p : Program} {l : Launch} {e : Env} {R : Room} {s : State} {m : MethodId} {args : Array Value} {below : List Frame} {meth : Method} {c : Code} {H : Heap} {locs : List Loc} {cells slots : Nat} {Q : State → Prop}
  {D : va_G} {tys : List (ClassId × FieldType)} {st : Bool} {A : Nat → Prop} {cc bytes : ByteArray} {nL maxL index n pc : Nat} {own host : String} {ret : Option FieldType} {Ts ws : List Cond} {rm : Room} {y : MethodName} {ww wc wr : va_W} {ls : Array Slot} {rest stk : List Value} {b : Nat} {As : List Value}
theorem cN_callI {S : Type} {W1 wN : S → va_W} (E : ent_ p s m args meth c own cc nL ret Ts tys D A st) (hM : cN l D tys st y ws rm (.ref b :: As) wc W1) (cw : CallB R s args own index y bytes maxL none ws rm rm.cells rm.slots n ∧ y.name = "<init>" ∧ (Cond.instanceMethod y).before args s = true)
    (hP : va_P D vwCl ww H) (hD : va_D A ww) (hS : va_S A s.heap H locs) (isC isR isN : List Nat) (hC : isC.map (fun i => ww[i]?) = wc.map some) (hR : isR.map (fun i => ww[i]?) = wr.map some) (hnC : va_nd isC = true) (hnR : va_nd isR = true) (hdis : ∀ i ∈ isR, i ∉ isC)
    (hN : ∀ a : S, isN.map (fun i => (wr ++ W1 a)[i]?) = (wN a).map some) (hnN : va_nd isN = true) (hlen : As.length = n) (hsz : ls.size = nL) (hstk : stk = As.reverse ++ .ref b :: rest) (hW : (rest.map fun v => v.category).sum ≤ 8) (hdg : decode cc pc = .ok (.invokespecial index, 3)) (hf : cells + rm.cells ≤ R.cells ∧ slots + rm.slots ≤ R.slots)
    (kk : ∀ (a : S) (H1 : Heap) (locs1 : List Loc), va_P D vwCl (wN a) H1 → va_D A (wN a) → va_S A s.heap H1 locs1 → W p l e R s m args below meth c H1 locs1 (cells + rm.cells) (slots + rm.slots) Q (F0 m (pc + 3) ls rest)) : W p l e R s m args below meth c H locs cells slots Q (F0 m pc ls stk) := by
  obtain ⟨hPc, hFc, hbl, hpre⟩ := cal_pre (av := .ref b :: As) E hP hD hS isC hC hnC
  obtain ⟨hx, hb, hml, hown, hts, -⟩ := id E
  refine va_callv (va_runI (As := As) (rest := rest) ⟨hx, hb, hml, hown, hts⟩ (hM H.size) cw ⟨hbl, hpre⟩ rfl hlen hsz hstk (lv_room hW) hdg hf) hS (fun q _ h => hFc q h) hFc (fun u t H1 locs1 ht hvm hw hB hz1 hk1 hS1 => ?_)
  obtain ⟨hP1, hD1⟩ := cal_fin E hP hD hS isC isR isN hC hR hnR hdis (hN u) hnN ht hB hk1
  exact kk u H1 locs1 hP1 hD1 hS1
end CNC
theorem st_run (xs : Nat → Int32) {L : Nat} (hL : L ≤ 260) : ∃ r : Int32 × Int32 × (Nat → Int64) × (Nat → Int64), fX3_restart (fun _ => 0) (fun _ => 0) 4 = some r ∧ fL_law xs L r.1 r.2.1 0 0 r.2.2.1 r.2.2.2 (fun _ => 0) (fun _ => 0) 0 (fun _ => 0) (fun _ => 0) (fun _ => 0) 0 0 0 0 0 0 (fun _ => 0) (fun _ => 0) (fun _ => 0) (fun _ => 0) (fun _ => 0) (fun _ => 0) (fun _ => 0) (fun _ => 0) (fun _ => 0) (fun _ => 0) (fun _ => 0) (fun _ => 0) (fun _ => 0) dv0 = some () := by
  obtain ⟨w, Z, O, e, h5, h6⟩ := rs_cls (fun _ => 0) (fun _ => 0) (v := 4) (by decide)
  exact ⟨(nI 4, nI (2 ^ 4 - 1), Z, O), e, law_all xs hL Z O⟩
theorem st_W {b : Nat} {s : State} {A : Nat → Prop} (hts : ∀ w ∈ lw_tbl, w.before #[Value.ref b] s = true) (hgv : (Jvm.Cond.and given_1 narrow_1).before #[Value.ref b] s = true) (hA : ∀ a : Nat, a < s.heap.size → ¬ A a) : StW A s s.heap := by
  have hs := flat_of_before _ hgv
  have hel : ∀ j : Nat, j < 6 → (Term.elem (Term.static "GateMaze$Rows" "WITH_INPUT" "[J") (.int (Int32.ofNat j))).eval #[Value.ref b] s none [] s = some ((fun j => Value.long (wIn j)) j) := by
    intro j hj
    match j, hj with
    | 0, _ => exact va_eqtl (hs _ (by decide +kernel))
    | 1, _ => exact va_eqtl (hs _ (by decide +kernel))
    | 2, _ => exact va_eqtl (hs _ (by decide +kernel))
    | 3, _ => exact va_eqtl (hs _ (by decide +kernel))
    | 4, _ => exact va_eqtl (hs _ (by decide +kernel))
    | 5, _ => exact va_eqtl (hs _ (by decide +kernel))
    | k + 6, h => exact absurd h (by omega)
  obtain ⟨t, ht, hT⟩ := va_Tof (A := A) (N := 6) (f := fun j => Value.long (wIn j)) (by decide) (hs (.arrayOf (.static "GateMaze$Rows" "WITH_INPUT" "[J") .long) (by decide +kernel)) (va_eqt (hs _ (by decide +kernel))) hel hA
  exact ⟨⟨t, va_Zref (hts (.laysStatic "GateMaze$Rows" "WITH_INPUT" "[J") (by decide +kernel)) (hts (.initialized "GateMaze$Rows") (by decide +kernel)) ht hA, hT⟩, vx_Zqof (hts (.laysStatic Bundle.tN "UNASSIGNED_STACK" Bundle.steD) (by decide +kernel)) (hts (.initialized Bundle.tN) (by decide +kernel)) (hs (.isRef (.static Bundle.tN "UNASSIGNED_STACK" Bundle.steD)) (by decide +kernel)) hA, vx_Zqof (hts (.laysStatic Bundle.tN "SUPPRESSED_SENTINEL" Bundle.listD) (by decide +kernel)) (hts (.initialized Bundle.tN) (by decide +kernel)) (hs (.isRef (.static Bundle.tN "SUPPRESSED_SENTINEL" Bundle.listD)) (by decide +kernel)) hA⟩
theorem st_n1 : ∀ q ∈ nestF, Cond.fieldLinkNest q.1 q.2.1 q.2.2.1 q.2.2.2.1 q.2.2.2.2 "GateMaze" ∈ lw_tbl := by decide +kernel
theorem st_n2 : ∀ q ∈ nestM, Cond.methodLinkNest q.1 q.2.1 q.2.2 "GateMaze" ∈ lw_tbl := by decide +kernel
theorem st_n3 : ∀ q ∈ exStr, Cond.stringRef RX6 q.1 q.2 ∈ lw_tbl := by decide +kernel
theorem st_n4 : ∀ q ∈ exCast, Cond.castable q q ∈ lw_tbl := by decide +kernel
theorem st_n5 : ∀ q ∈ exDecl, Cond.declares q ∈ lw_tbl := by decide +kernel
theorem st_n7 : ∀ q ∈ exStr, Cond.exactly (.string RX6 q.1) "java/lang/String" ∈ flatC (Jvm.Cond.and given_1 narrow_1) := by decide +kernel
theorem st_nest {b : Nat} {s : State} (hts : ∀ w ∈ lw_tbl, w.before #[Value.ref b] s = true) (hgv : (Jvm.Cond.and given_1 narrow_1).before #[Value.ref b] s = true) : nestOk s := by
  have hs := flat_of_before _ hgv
  refine ⟨fun q hq => va_Nw.of rfl (hts _ (st_n1 q hq)), fun q hq => va_Nw.of rfl (hts _ (st_n2 q hq)), fun q hq => ?_, fun q hq => va_Nw.of rfl (hts _ (st_n4 q hq)), fun q hq => va_Nw.of rfl (hts _ (st_n5 q hq)), fun q hq => absurd hq List.not_mem_nil, va_AO.of (hts (.arrayOver (.object "GateMaze$State")) (by decide +kernel))⟩
  obtain ⟨a, c, cA, kA, q1, -⟩ := Cond.exactly_spec (args := #[Value.ref b]) (first := s) (o := none) (s := s) (idx := []) (t := Term.string RX6 q.1) (cls := "java/lang/String") (hs _ (st_n7 q hq))
  exact ⟨a, vk_R.of (hts _ (st_n3 q hq)) q1⟩
theorem st_arr {b : Nat} {s : State} (hts : ∀ w ∈ lw_tbl, w.before #[Value.ref b] s = true) : ∃ kI kJ kS : ClassId, ∀ (k : Nat) (q : ClassId × FieldType), (tyL kI kJ kS)[k]? = some q → ArrOfT s q.1 q.2 ∧ va_RA s q.1 q.2 := by
  obtain ⟨kI, kA, cA, a1, a2, a3⟩ := Cond.arrayClass_spec (hts (.arrayClass .int) (by decide +kernel))
  obtain ⟨kJ, kB, cB, b1, b2, b3⟩ := Cond.arrayClass_spec (hts (.arrayClass .long) (by decide +kernel))
  obtain ⟨cC, kS, kC, d1, -, d2, d3, d4⟩ := Cond.arrayOver_spec (hts (.arrayOver (.object "GateMaze$State")) (by decide +kernel))
  refine ⟨kI, kJ, kS, fun k q hq => ?_⟩
  match k, hq with
  | 0, hq =>
    cases hq
    exact ⟨fun n z => ⟨fun k h => (by cases h), kA, a2, cA, a3⟩, a1⟩
  | 1, hq =>
    cases hq
    exact ⟨fun n z => ⟨fun k h => (by cases h), kB, b2, cB, b3⟩, b1⟩
  | 2, hq =>
    cases hq
    exact ⟨fun n z => ⟨fun k h => (by cases h), kC, d2, cC, d3⟩, kC, cC, d2, d3, d1, d4⟩
  | k + 3, hq => exact absurd (List.getElem?_eq_some_iff.mp hq).1 (show ¬ k + 3 < 3 by omega)
theorem st_cls {b : Nat} {s : State} (hts : ∀ w ∈ lw_tbl, w.before #[Value.ref b] s = true) : ∃ D : va_G, ∀ (k : Nat) (q : vw_C), vwCl[k]? = some q → u_Kn s q.1 q.2.1 q.2.2 (D.1 k) (D.2 k) := by
  obtain ⟨c0, i0, h0⟩ := u_known (C := RX0) (T := TX0) (N := 2) (n := 2) hts inX0 (hts (.instantiable RX0 2) (by decide +kernel))
  obtain ⟨c1, i1, h1⟩ := u_known (C := RX1) (T := TX1) (N := 4) (n := 4) hts inX1 (hts (.instantiable RX1 4) (by decide +kernel))
  obtain ⟨c3, i3, h3⟩ := u_known (C := RX3) (T := TX3) (N := 8) (n := 8) hts inX3 (hts (.instantiable RX3 8) (by decide +kernel))
  obtain ⟨c4, i4, h4⟩ := u_known (C := RX4) (T := TX4) (N := 2) (n := 2) hts inX4 (hts (.instantiable RX4 2) (by decide +kernel))
  obtain ⟨c5, i5, h5⟩ := u_known (C := RX5) (T := TX5) (N := 12) (n := 12) hts inX5 (hts (.instantiable RX5 12) (by decide +kernel))
  obtain ⟨c6, i6, h6⟩ := u_known (C := RX6) (T := TX6) (N := 7) (n := 7) hts inX6 (hts (.instantiable RX6 7) (by decide +kernel))
  refine ⟨(fun k => if k = 0 then c0 else if k = 1 then c1 else if k = 2 then c3 else if k = 3 then c4 else if k = 4 then c5 else c6, fun k => if k = 0 then i0 else if k = 1 then i1 else if k = 2 then i3 else if k = 3 then i4 else if k = 4 then i5 else i6), fun k q hq => ?_⟩
  match k, hq with
  | 0, hq =>
    cases hq
    exact h0
  | 1, hq =>
    cases hq
    exact h1
  | 2, hq =>
    cases hq
    exact h3
  | 3, hq =>
    cases hq
    exact h4
  | 4, hq =>
    cases hq
    exact h5
  | 5, hq =>
    cases hq
    exact h6
  | k + 6, hq => exact absurd (List.getElem?_eq_some_iff.mp hq).1 (show ¬ k + 6 < 6 by omega)
