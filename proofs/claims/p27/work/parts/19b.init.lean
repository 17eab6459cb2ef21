def cN {S : Type} (l : Launch) (D : va_G) (tys : List (ClassId × FieldType)) (st : Bool) (y : MethodName) (ws : List Cond) (rm : Room) (args : List Value) (Wd : va_W) (W1 : S → va_W) : Prop :=
  ∀ sz : Nat, Met l y ws rm (va_Pc args (pre_ D tys Wd st sz)) (va_Qv (fun (_ : S) => True) (fun a t => post_ D tys (va_A Wd sz) (W1 a) t) (va_A Wd sz)) rm.cells rm.slots (va_A Wd sz)
theorem cN_of {S : Type} {l : Launch} {D : va_G} {tys : List (ClassId × FieldType)} {st : Bool} {y : MethodName} {ws ws' : List Cond} {rm : Room} {args : List Value} {Wd : va_W} {W1 : S → va_W} {cc : ByteArray} {maxL : Nat} (hy : plainName y.cls = true) (hw : ws = Cond.code y cc maxL none :: ws') (hlen : (lg_sl args).length ≤ maxL)
    (body : ∀ (p : Program) (e : Env) (s : State) (m : MethodId) (av : Array Value) (below : List Frame) (meth : Method) (c : Code) (A : Nat → Prop) (Q : State → Prop) (ls : Array Slot), ent_ p s m av meth c y.cls cc maxL none ws tys D A st → meth.name = y.name →
      va_P D vwCl Wd s.heap → va_D A Wd → va_S A s.heap s.heap [] → lv_has ls maxL (lv_args 0 args) →
      (∀ (pc : Nat) (H : Heap) (locs : List Loc) (ls : Array Slot) (a : S), decode cc pc = .ok (.return_, 1) → va_P D vwCl (W1 a) H → va_D A (W1 a) → va_S A s.heap H locs → W p l e rm s m av below meth c H locs rm.cells rm.slots Q (F0 m pc ls [])) →
      W p l e rm s m av below meth c s.heap [] 0 0 Q (F0 m 0 ls [])) : cN l D tys st y ws rm args Wd W1 := by
  intro sz
  refine Met.ofW (cc := cc) (maxL := maxL) (ret := none) hy hw ?_
  intro p e s m av below meth c s₁ B hml hv
  obtain ⟨rfl, hsz, hP, hK, hD0, hst⟩ := hv
  have hts := atoms_spec (ws := ws) B.pre
  have hown : s.vm.findClass y.cls = some m.cls := findClass_of_methodNamed B.named
  subst hsz
  have hD := hD0.self (sz := s.heap.size)
  have hl := lv_entry args (n := maxL) hlen
  rw [lg_entry_eq]
  refine body p e s m args.toArray below meth c (va_A Wd s.heap.size) _ _ ⟨B.exec, B.bytes, hml, hown, hts, B.returns, B.notSynchronized, hK, fun q h => Or.inr h, hst⟩ (name_of_methodNamed B.named B.method).1 hP hD va_S.rf hl ?_
  intro pc H locs ls a hdg hP hD hS
  exact W.vret B.exec B.bytes B.returns (fun t ht hW => ⟨⟨a, rfl, trivial, by rw [ht]; exact hP, va_K.moved hW.alike hK, hD⟩, hS.F ht⟩) hS.2.2 hdg B.notSynchronized
theorem ty_I {D : va_G} {kI kJ kS c : ClassId} {s : State} {tys : List (ClassId × FieldType)} (h : va_K D vwCl (tyL kI kJ kS ++ (c, .int) :: tys) s) : c = kI :=
  Option.some.inj ((h.2 3 (c, .int) rfl).2.symm.trans (h.2 0 (kI, .int) rfl).2)
theorem ty_J {D : va_G} {kI kJ kS c : ClassId} {s : State} {tys : List (ClassId × FieldType)} (h : va_K D vwCl (tyL kI kJ kS ++ (c, .long) :: tys) s) : c = kJ :=
  Option.some.inj ((h.2 3 (c, .long) rfl).2.symm.trans (h.2 1 (kJ, .long) rfl).2)
theorem ty_S {D : va_G} {kI kJ kS c : ClassId} {s : State} {tys : List (ClassId × FieldType)} (h : va_K D vwCl (tyL kI kJ kS ++ (c, .object "GateMaze$State") :: tys) s) : c = kS := by
  obtain ⟨-, -, -, -, -, h1⟩ := (h.2 3 (c, .object "GateMaze$State") rfl).2
  obtain ⟨-, -, -, -, -, h2⟩ := (h.2 2 (kS, .object "GateMaze$State") rfl).2
  exact Option.some.inj (h1.symm.trans h2)
section CNC
variable {p : Program} {l : Launch} {e : Env} {R : Room} {s : State} {m : MethodId} {args : Array Value} {below : List Frame} {meth : Method} {c : Code} {H : Heap} {locs : List Loc} {cells slots : Nat} {Q : State → Prop}
  {D : va_G} {tys : List (ClassId × FieldType)} {st : Bool} {A : Nat → Prop} {cc bytes : ByteArray} {nL maxL index n pc : Nat} {own host : String} {ret : Option FieldType} {Ts ws : List Cond} {rm : Room} {y : MethodName} {ww wc wr : va_W} {ls : Array Slot} {rest stk : List Value} {b : Nat} {As : List Value}
theorem cN_callIN {S : Type} {W1 wN : S → va_W} (E : ent_ p s m args meth c own cc nL ret Ts tys D A st) (hM : cN l D tys st y ws rm (.ref b :: As) wc W1) (cw : va_CN R s args own index y host bytes maxL none ws rm rm.cells rm.slots n ∧ y.name = "<init>" ∧ (Cond.instanceMethod y).before args s = true)
    (hP : va_P D vwCl ww H) (hD : va_D A ww) (hS : va_S A s.heap H locs) (isC isR isN : List Nat) (hC : isC.map (fun i => ww[i]?) = wc.map some) (hR : isR.map (fun i => ww[i]?) = wr.map some) (hnC : va_nd isC = true) (hnR : va_nd isR = true) (hdis : ∀ i ∈ isR, i ∉ isC)
    (hN : ∀ a : S, isN.map (fun i => (wr ++ W1 a)[i]?) = (wN a).map some) (hnN : va_nd isN = true) (hlen : As.length = n) (hsz : ls.size = nL) (hstk : stk = As.reverse ++ .ref b :: rest) (hW : (rest.map fun v => v.category).sum ≤ 8) (hdg : decode cc pc = .ok (.invokespecial index, 3)) (hf : cells + rm.cells ≤ R.cells ∧ slots + rm.slots ≤ R.slots)
    (kk : ∀ (a : S) (H1 : Heap) (locs1 : List Loc), va_P D vwCl (wN a) H1 → va_D A (wN a) → va_S A s.heap H1 locs1 → W p l e R s m args below meth c H1 locs1 (cells + rm.cells) (slots + rm.slots) Q (F0 m (pc + 3) ls rest)) : W p l e R s m args below meth c H locs cells slots Q (F0 m pc ls stk) := by
  obtain ⟨hPc, hFc, hbl, hpre⟩ := cal_pre (av := .ref b :: As) E hP hD hS isC hC hnC
  obtain ⟨hx, hb, hml, hown, hts, -⟩ := id E
  refine va_callv (va_runIN (As := As) (rest := rest) ⟨hx, hb, hml, hown, hts⟩ (hM H.size) cw ⟨hbl, hpre⟩ rfl hlen hsz hstk (lv_room hW) hdg hf) hS (fun q _ h => hFc q h) hFc (fun u t H1 locs1 ht hvm hw hB hz1 hk1 hS1 => ?_)
  obtain ⟨hP1, hD1⟩ := cal_fin E hP hD hS isC isR isN hC hR hnR hdis (hN u) hnN ht hB hk1
  exact kk u H1 locs1 hP1 hD1 hS1
end CNC
theorem iX3_init_X3 : ∀ w ∈ u_ws RX3 TX3 8, w ∈ wsX3_init := fun w h => List.mem_cons_of_mem _ (List.mem_append_right _ h)
set_option maxHeartbeats 4000000 in
set_option maxRecDepth 100000 in
theorem c_X3_init (l : Launch) (D : va_G) (kI kJ kS : ClassId) (o : Nat) : cN (S := (Nat → Nat)) l D (tyL kI kJ kS) true yX3_init wsX3_init (rmk 1 4 16 12) [.ref o] [(o, .inr (2, [.int 0, .int 0, .int 0, .int 0, .null, .null, .null, .null]))] (fun a => wX3 kI kJ o a 0 0 0 0 (fun _ => 0) (fun _ => 0) (fun _ => 0) (fun _ => 0)) := by
  refine cN_of (cc := cX3_init) (maxL := 1) (by decide) rfl (Nat.le_of_ble_eq_true rfl) ?_
  intro p e s m av below meth c A Q ls hE hin hP hD hS hl hret
  have hE : ent_ p s m av meth c RX3 cX3_init 1 none wsX3_init (tyL kI kJ kS) D A true := hE
  obtain ⟨hx, hb, hml, hown, hts, hrt, hlocks, hK, hA, hst⟩ := id hE
  have hin : meth.name = "<init>" := hin
  have hl : lv_has ls 1 [(0, .ref o)] := hl
  refine lv_aload_n hx hb dX3_init_0 rfl (lv_at hl 0 rfl) ?_
  refine W.objInit hx hb hown (hts (.methodLink RX3 3 objectInit) (List.mem_of_getElem? (i := 1) rfl)) (hts (.instanceMethod objectInit) (List.mem_of_getElem? (i := 2) rfl)) (hts _ (List.mem_of_getElem? (i := 3) rfl)) rfl (by rw [hml]; exact hl.1) rfl dX3_init_1 (Nat.le_of_ble_eq_true rfl) (Nat.le_of_ble_eq_true rfl) ?_
  refine W.eq (g2 := F0 m 4 ls []) rfl ?_
  refine lv_aload_n hx hb dX3_init_4 rfl (lv_at hl 0 rfl) ?_
  refine lv_iconst (v := 4) hx hb dX3_init_5 (by decide) ?_
  refine va_newa (atype := .long) (a0 := (4, .inr (.inl (fun _ => 0)))) (N' := 4) hx hb (hts _ (List.mem_of_getElem? (i := 4) rfl)) rfl hK hP hD hS hA (fun _ => rfl) (by decide) rfl (Nat.le_of_ble_eq_true rfl) (Nat.le_of_ble_eq_true rfl) (Nat.le_of_ble_eq_true rfl) dX3_init_6 (fun q0 c9 H hK9 hP hD hS => ?_)
  have hc9 := ty_J (tys := []) hK9
  rw [hc9] at hP hD
  have hP : va_P D vwCl [(o, .inr (2, [.int 0, .int 0, .int 0, .int 0, .null, .null, .null, .null])), (q0, .inl (kJ, 4, .inr (.inl (fun _ => 0))))] H := hP
  have hD : va_D A [(o, .inr (2, [.int 0, .int 0, .int 0, .int 0, .null, .null, .null, .null])), (q0, .inl (kJ, 4, .inr (.inl (fun _ => 0))))] := hD
  refine va_putF (D := D) (ci := 2) (v := .ref q0) (ty := (.array .long)) (C := RX3) (T := TX3) (N := 8) hx hb hts iX3_init_X3 tyX3 tyX3_ok nmX3 hown hK hP hD hS 0 rfl rfl 4 (by decide) (hts _ (List.mem_of_getElem? (i := 5) rfl)) (fun _ h9 => h9) rfl hin rfl (by decide +kernel) rfl rfl (Nat.le_of_ble_eq_true rfl) dX3_init_8 (fun H locs hP hD hS => ?_)
  have hP : va_P D vwCl [(o, .inr (2, [.int 0, .int 0, .int 0, .int 0, .ref q0, .null, .null, .null])), (q0, .inl (kJ, 4, .inr (.inl (fun _ => 0))))] H := hP
  have hD : va_D A [(o, .inr (2, [.int 0, .int 0, .int 0, .int 0, .ref q0, .null, .null, .null])), (q0, .inl (kJ, 4, .inr (.inl (fun _ => 0))))] := hD
  refine lv_aload_n hx hb dX3_init_11 rfl (lv_at hl 0 rfl) ?_
  refine lv_iconst (v := 4) hx hb dX3_init_12 (by decide) ?_
  refine va_newa (atype := .long) (a0 := (4, .inr (.inl (fun _ => 0)))) (N' := 4) hx hb (hts _ (List.mem_of_getElem? (i := 4) rfl)) rfl hK hP hD hS hA (fun _ => rfl) (by decide) rfl (Nat.le_of_ble_eq_true rfl) (Nat.le_of_ble_eq_true rfl) (Nat.le_of_ble_eq_true rfl) dX3_init_13 (fun q1 c9 H hK9 hP hD hS => ?_)
  have hc9 := ty_J (tys := []) hK9
  rw [hc9] at hP hD
  have hP : va_P D vwCl [(o, .inr (2, [.int 0, .int 0, .int 0, .int 0, .ref q0, .null, .null, .null])), (q0, .inl (kJ, 4, .inr (.inl (fun _ => 0)))), (q1, .inl (kJ, 4, .inr (.inl (fun _ => 0))))] H := hP
  have hD : va_D A [(o, .inr (2, [.int 0, .int 0, .int 0, .int 0, .ref q0, .null, .null, .null])), (q0, .inl (kJ, 4, .inr (.inl (fun _ => 0)))), (q1, .inl (kJ, 4, .inr (.inl (fun _ => 0))))] := hD
  refine va_putF (D := D) (ci := 2) (v := .ref q1) (ty := (.array .long)) (C := RX3) (T := TX3) (N := 8) hx hb hts iX3_init_X3 tyX3 tyX3_ok nmX3 hown hK hP hD hS 0 rfl rfl 5 (by decide) (hts _ (List.mem_of_getElem? (i := 6) rfl)) (fun _ h9 => h9) rfl hin rfl (by decide +kernel) rfl rfl (Nat.le_of_ble_eq_true rfl) dX3_init_15 (fun H locs hP hD hS => ?_)
  have hP : va_P D vwCl [(o, .inr (2, [.int 0, .int 0, .int 0, .int 0, .ref q0, .ref q1, .null, .null])), (q0, .inl (kJ, 4, .inr (.inl (fun _ => 0)))), (q1, .inl (kJ, 4, .inr (.inl (fun _ => 0))))] H := hP
  have hD : va_D A [(o, .inr (2, [.int 0, .int 0, .int 0, .int 0, .ref q0, .ref q1, .null, .null])), (q0, .inl (kJ, 4, .inr (.inl (fun _ => 0)))), (q1, .inl (kJ, 4, .inr (.inl (fun _ => 0))))] := hD
  refine lv_aload_n hx hb dX3_init_18 rfl (lv_at hl 0 rfl) ?_
  refine lv_iconst (v := 4) hx hb dX3_init_19 (by decide) ?_
  refine va_newa (atype := .int) (a0 := (4, .inl (fun _ => 0))) (N' := 4) hx hb (hts _ (List.mem_of_getElem? (i := 7) rfl)) rfl hK hP hD hS hA (fun _ => rfl) (by decide) rfl (Nat.le_of_ble_eq_true rfl) (Nat.le_of_ble_eq_true rfl) (Nat.le_of_ble_eq_true rfl) dX3_init_20 (fun q2 c9 H hK9 hP hD hS => ?_)
  have hc9 := ty_I (tys := []) hK9
  rw [hc9] at hP hD
  have hP : va_P D vwCl [(o, .inr (2, [.int 0, .int 0, .int 0, .int 0, .ref q0, .ref q1, .null, .null])), (q0, .inl (kJ, 4, .inr (.inl (fun _ => 0)))), (q1, .inl (kJ, 4, .inr (.inl (fun _ => 0)))), (q2, .inl (kI, 4, .inl (fun _ => 0)))] H := hP
  have hD : va_D A [(o, .inr (2, [.int 0, .int 0, .int 0, .int 0, .ref q0, .ref q1, .null, .null])), (q0, .inl (kJ, 4, .inr (.inl (fun _ => 0)))), (q1, .inl (kJ, 4, .inr (.inl (fun _ => 0)))), (q2, .inl (kI, 4, .inl (fun _ => 0)))] := hD
  refine va_putF (D := D) (ci := 2) (v := .ref q2) (ty := (.array .int)) (C := RX3) (T := TX3) (N := 8) hx hb hts iX3_init_X3 tyX3 tyX3_ok nmX3 hown hK hP hD hS 0 rfl rfl 6 (by decide) (hts _ (List.mem_of_getElem? (i := 8) rfl)) (fun _ h9 => h9) rfl hin rfl (by decide +kernel) rfl rfl (Nat.le_of_ble_eq_true rfl) dX3_init_22 (fun H locs hP hD hS => ?_)
  have hP : va_P D vwCl [(o, .inr (2, [.int 0, .int 0, .int 0, .int 0, .ref q0, .ref q1, .ref q2, .null])), (q0, .inl (kJ, 4, .inr (.inl (fun _ => 0)))), (q1, .inl (kJ, 4, .inr (.inl (fun _ => 0)))), (q2, .inl (kI, 4, .inl (fun _ => 0)))] H := hP
  have hD : va_D A [(o, .inr (2, [.int 0, .int 0, .int 0, .int 0, .ref q0, .ref q1, .ref q2, .null])), (q0, .inl (kJ, 4, .inr (.inl (fun _ => 0)))), (q1, .inl (kJ, 4, .inr (.inl (fun _ => 0)))), (q2, .inl (kI, 4, .inl (fun _ => 0)))] := hD
  refine lv_aload_n hx hb dX3_init_25 rfl (lv_at hl 0 rfl) ?_
  refine lv_iconst (v := 4) hx hb dX3_init_26 (by decide) ?_
  refine va_newa (atype := .int) (a0 := (4, .inl (fun _ => 0))) (N' := 4) hx hb (hts _ (List.mem_of_getElem? (i := 7) rfl)) rfl hK hP hD hS hA (fun _ => rfl) (by decide) rfl (Nat.le_of_ble_eq_true rfl) (Nat.le_of_ble_eq_true rfl) (Nat.le_of_ble_eq_true rfl) dX3_init_27 (fun q3 c9 H hK9 hP hD hS => ?_)
  have hc9 := ty_I (tys := []) hK9
  rw [hc9] at hP hD
  have hP : va_P D vwCl [(o, .inr (2, [.int 0, .int 0, .int 0, .int 0, .ref q0, .ref q1, .ref q2, .null])), (q0, .inl (kJ, 4, .inr (.inl (fun _ => 0)))), (q1, .inl (kJ, 4, .inr (.inl (fun _ => 0)))), (q2, .inl (kI, 4, .inl (fun _ => 0))), (q3, .inl (kI, 4, .inl (fun _ => 0)))] H := hP
  have hD : va_D A [(o, .inr (2, [.int 0, .int 0, .int 0, .int 0, .ref q0, .ref q1, .ref q2, .null])), (q0, .inl (kJ, 4, .inr (.inl (fun _ => 0)))), (q1, .inl (kJ, 4, .inr (.inl (fun _ => 0)))), (q2, .inl (kI, 4, .inl (fun _ => 0))), (q3, .inl (kI, 4, .inl (fun _ => 0)))] := hD
  refine va_putF (D := D) (ci := 2) (v := .ref q3) (ty := (.array .int)) (C := RX3) (T := TX3) (N := 8) hx hb hts iX3_init_X3 tyX3 tyX3_ok nmX3 hown hK hP hD hS 0 rfl rfl 7 (by decide) (hts _ (List.mem_of_getElem? (i := 9) rfl)) (fun _ h9 => h9) rfl hin rfl (by decide +kernel) rfl rfl (Nat.le_of_ble_eq_true rfl) dX3_init_29 (fun H locs hP hD hS => ?_)
  have hP : va_P D vwCl [(o, .inr (2, [.int 0, .int 0, .int 0, .int 0, .ref q0, .ref q1, .ref q2, .ref q3])), (q0, .inl (kJ, 4, .inr (.inl (fun _ => 0)))), (q1, .inl (kJ, 4, .inr (.inl (fun _ => 0)))), (q2, .inl (kI, 4, .inl (fun _ => 0))), (q3, .inl (kI, 4, .inl (fun _ => 0)))] H := hP
  have hD : va_D A [(o, .inr (2, [.int 0, .int 0, .int 0, .int 0, .ref q0, .ref q1, .ref q2, .ref q3])), (q0, .inl (kJ, 4, .inr (.inl (fun _ => 0)))), (q1, .inl (kJ, 4, .inr (.inl (fun _ => 0)))), (q2, .inl (kI, 4, .inl (fun _ => 0))), (q3, .inl (kI, 4, .inl (fun _ => 0)))] := hD
  exact hret _ _ _ _ (fun j => match j with | 0 => q0 | 1 => q1 | 2 => q2 | _ => q3) dX3_init_32 hP hD hS
theorem iX4_init_X4 : ∀ w ∈ u_ws RX4 TX4 2, w ∈ wsX4_init := fun w h => List.mem_cons_of_mem _ (List.mem_append_right _ h)
set_option maxHeartbeats 4000000 in
set_option maxRecDepth 100000 in
theorem c_X4_init (l : Launch) (D : va_G) (kI kJ kS : ClassId) (o : Nat) : cN (S := (Nat → Nat)) l D (tyL kI kJ kS) true yX4_init wsX4_init (rmk 1 1 60 12) [.ref o] [(o, .inr (3, [.null, .int 0]))] (fun a => wX4 kI kJ o a (fun _ => 0) 0) := by
  refine cN_of (cc := cX4_init) (maxL := 1) (by decide) rfl (Nat.le_of_ble_eq_true rfl) ?_
  intro p e s m av below meth c A Q ls hE hin hP hD hS hl hret
  have hE : ent_ p s m av meth c RX4 cX4_init 1 none wsX4_init (tyL kI kJ kS) D A true := hE
  obtain ⟨hx, hb, hml, hown, hts, hrt, hlocks, hK, hA, hst⟩ := id hE
  have hin : meth.name = "<init>" := hin
  have hl : lv_has ls 1 [(0, .ref o)] := hl
  refine lv_aload_n hx hb dX4_init_0 rfl (lv_at hl 0 rfl) ?_
  refine W.objInit hx hb hown (hts (.methodLink RX4 3 objectInit) (List.mem_of_getElem? (i := 1) rfl)) (hts (.instanceMethod objectInit) (List.mem_of_getElem? (i := 2) rfl)) (hts _ (List.mem_of_getElem? (i := 3) rfl)) rfl (by rw [hml]; exact hl.1) rfl dX4_init_1 (Nat.le_of_ble_eq_true rfl) (Nat.le_of_ble_eq_true rfl) ?_
  refine W.eq (g2 := F0 m 4 ls []) rfl ?_
  refine lv_aload_n hx hb dX4_init_4 rfl (lv_at hl 0 rfl) ?_
  refine lv_bipush (v := 60) hx hb dX4_init_5 (by decide) ?_
  refine va_newa (atype := .int) (a0 := (60, .inl (fun _ => 0))) (N' := 60) hx hb (hts _ (List.mem_of_getElem? (i := 4) rfl)) rfl hK hP hD hS hA (fun _ => rfl) (by decide) rfl (Nat.le_of_ble_eq_true rfl) (Nat.le_of_ble_eq_true rfl) (Nat.le_of_ble_eq_true rfl) dX4_init_7 (fun q0 c9 H hK9 hP hD hS => ?_)
  have hc9 := ty_I (tys := []) hK9
  rw [hc9] at hP hD
  have hP : va_P D vwCl [(o, .inr (3, [.null, .int 0])), (q0, .inl (kI, 60, .inl (fun _ => 0)))] H := hP
  have hD : va_D A [(o, .inr (3, [.null, .int 0])), (q0, .inl (kI, 60, .inl (fun _ => 0)))] := hD
  refine va_putF (D := D) (ci := 3) (v := .ref q0) (ty := (.array .int)) (C := RX4) (T := TX4) (N := 2) hx hb hts iX4_init_X4 tyX4 tyX4_ok nmX4 hown hK hP hD hS 0 rfl rfl 0 (by decide) (hts _ (List.mem_of_getElem? (i := 5) rfl)) (fun _ h9 => h9) rfl hin rfl (by decide +kernel) rfl rfl (Nat.le_of_ble_eq_true rfl) dX4_init_9 (fun H locs hP hD hS => ?_)
  have hP : va_P D vwCl [(o, .inr (3, [.ref q0, .int 0])), (q0, .inl (kI, 60, .inl (fun _ => 0)))] H := hP
  have hD : va_D A [(o, .inr (3, [.ref q0, .int 0])), (q0, .inl (kI, 60, .inl (fun _ => 0)))] := hD
  exact hret _ _ _ _ (fun j => match j with | _ => q0) dX4_init_12 hP hD hS
theorem iX1_init_X1 : ∀ w ∈ u_ws RX1 TX1 4, w ∈ wsX1_init := fun w h => List.mem_cons_of_mem _ (List.mem_append_right _ h)
set_option maxHeartbeats 4000000 in
set_option maxRecDepth 100000 in
theorem c_X1_init (l : Launch) (D : va_G) (kI kJ kS : ClassId) (o : Nat) : cN (S := (Nat → Nat)) l D (tyL kI kJ kS) true yX1_init wsX1_init (rmk 1 3 1522 12) [.ref o] [(o, .inr (1, [.null, .null, .null, .int 0]))] (fun a => wX1 kI kJ o a (fun _ => 0) (fun _ => 0) (fun _ => 0) 0) := by
  refine cN_of (cc := cX1_init) (maxL := 1) (by decide) rfl (Nat.le_of_ble_eq_true rfl) ?_
  intro p e s m av below meth c A Q ls hE hin hP hD hS hl hret
  have hE : ent_ p s m av meth c RX1 cX1_init 1 none wsX1_init (tyL kI kJ kS) D A true := hE
  obtain ⟨hx, hb, hml, hown, hts, hrt, hlocks, hK, hA, hst⟩ := id hE
  have hin : meth.name = "<init>" := hin
  have hl : lv_has ls 1 [(0, .ref o)] := hl
  refine lv_aload_n hx hb dX1_init_0 rfl (lv_at hl 0 rfl) ?_
  refine W.objInit hx hb hown (hts (.methodLink RX1 3 objectInit) (List.mem_of_getElem? (i := 1) rfl)) (hts (.instanceMethod objectInit) (List.mem_of_getElem? (i := 2) rfl)) (hts _ (List.mem_of_getElem? (i := 3) rfl)) rfl (by rw [hml]; exact hl.1) rfl dX1_init_1 (Nat.le_of_ble_eq_true rfl) (Nat.le_of_ble_eq_true rfl) ?_
  refine W.eq (g2 := F0 m 4 ls []) rfl ?_
  refine lv_aload_n hx hb dX1_init_4 rfl (lv_at hl 0 rfl) ?_
  refine lv_bipush (v := 64) hx hb dX1_init_5 (by decide) ?_
  refine va_newa (atype := .long) (a0 := (64, .inr (.inl (fun _ => 0)))) (N' := 64) hx hb (hts _ (List.mem_of_getElem? (i := 4) rfl)) rfl hK hP hD hS hA (fun _ => rfl) (by decide) rfl (Nat.le_of_ble_eq_true rfl) (Nat.le_of_ble_eq_true rfl) (Nat.le_of_ble_eq_true rfl) dX1_init_7 (fun q0 c9 H hK9 hP hD hS => ?_)
  have hc9 := ty_J (tys := []) hK9
  rw [hc9] at hP hD
  have hP : va_P D vwCl [(o, .inr (1, [.null, .null, .null, .int 0])), (q0, .inl (kJ, 64, .inr (.inl (fun _ => 0))))] H := hP
  have hD : va_D A [(o, .inr (1, [.null, .null, .null, .int 0])), (q0, .inl (kJ, 64, .inr (.inl (fun _ => 0))))] := hD
  refine va_putF (D := D) (ci := 1) (v := .ref q0) (ty := (.array .long)) (C := RX1) (T := TX1) (N := 4) hx hb hts iX1_init_X1 tyX1 tyX1_ok nmX1 hown hK hP hD hS 0 rfl rfl 0 (by decide) (hts _ (List.mem_of_getElem? (i := 5) rfl)) (fun _ h9 => h9) rfl hin rfl (by decide +kernel) rfl rfl (Nat.le_of_ble_eq_true rfl) dX1_init_9 (fun H locs hP hD hS => ?_)
  have hP : va_P D vwCl [(o, .inr (1, [.ref q0, .null, .null, .int 0])), (q0, .inl (kJ, 64, .inr (.inl (fun _ => 0))))] H := hP
  have hD : va_D A [(o, .inr (1, [.ref q0, .null, .null, .int 0])), (q0, .inl (kJ, 64, .inr (.inl (fun _ => 0))))] := hD
  refine lv_aload_n hx hb dX1_init_12 rfl (lv_at hl 0 rfl) ?_
  refine lv_sipush (v := 729) hx hb dX1_init_13 (by decide) ?_
  refine va_newa (atype := .int) (a0 := (729, .inl (fun _ => 0))) (N' := 729) hx hb (hts _ (List.mem_of_getElem? (i := 6) rfl)) rfl hK hP hD hS hA (fun _ => rfl) (by decide) rfl (Nat.le_of_ble_eq_true rfl) (Nat.le_of_ble_eq_true rfl) (Nat.le_of_ble_eq_true rfl) dX1_init_16 (fun q1 c9 H hK9 hP hD hS => ?_)
  have hc9 := ty_I (tys := []) hK9
  rw [hc9] at hP hD
  have hP : va_P D vwCl [(o, .inr (1, [.ref q0, .null, .null, .int 0])), (q0, .inl (kJ, 64, .inr (.inl (fun _ => 0)))), (q1, .inl (kI, 729, .inl (fun _ => 0)))] H := hP
  have hD : va_D A [(o, .inr (1, [.ref q0, .null, .null, .int 0])), (q0, .inl (kJ, 64, .inr (.inl (fun _ => 0)))), (q1, .inl (kI, 729, .inl (fun _ => 0)))] := hD
  refine va_putF (D := D) (ci := 1) (v := .ref q1) (ty := (.array .int)) (C := RX1) (T := TX1) (N := 4) hx hb hts iX1_init_X1 tyX1 tyX1_ok nmX1 hown hK hP hD hS 0 rfl rfl 1 (by decide) (hts _ (List.mem_of_getElem? (i := 7) rfl)) (fun _ h9 => h9) rfl hin rfl (by decide +kernel) rfl rfl (Nat.le_of_ble_eq_true rfl) dX1_init_18 (fun H locs hP hD hS => ?_)
  have hP : va_P D vwCl [(o, .inr (1, [.ref q0, .ref q1, .null, .int 0])), (q0, .inl (kJ, 64, .inr (.inl (fun _ => 0)))), (q1, .inl (kI, 729, .inl (fun _ => 0)))] H := hP
  have hD : va_D A [(o, .inr (1, [.ref q0, .ref q1, .null, .int 0])), (q0, .inl (kJ, 64, .inr (.inl (fun _ => 0)))), (q1, .inl (kI, 729, .inl (fun _ => 0)))] := hD
  refine lv_aload_n hx hb dX1_init_21 rfl (lv_at hl 0 rfl) ?_
  refine lv_sipush (v := 729) hx hb dX1_init_22 (by decide) ?_
  refine va_newa (atype := .long) (a0 := (729, .inr (.inl (fun _ => 0)))) (N' := 729) hx hb (hts _ (List.mem_of_getElem? (i := 4) rfl)) rfl hK hP hD hS hA (fun _ => rfl) (by decide) rfl (Nat.le_of_ble_eq_true rfl) (Nat.le_of_ble_eq_true rfl) (Nat.le_of_ble_eq_true rfl) dX1_init_25 (fun q2 c9 H hK9 hP hD hS => ?_)
  have hc9 := ty_J (tys := []) hK9
  rw [hc9] at hP hD
  have hP : va_P D vwCl [(o, .inr (1, [.ref q0, .ref q1, .null, .int 0])), (q0, .inl (kJ, 64, .inr (.inl (fun _ => 0)))), (q1, .inl (kI, 729, .inl (fun _ => 0))), (q2, .inl (kJ, 729, .inr (.inl (fun _ => 0))))] H := hP
  have hD : va_D A [(o, .inr (1, [.ref q0, .ref q1, .null, .int 0])), (q0, .inl (kJ, 64, .inr (.inl (fun _ => 0)))), (q1, .inl (kI, 729, .inl (fun _ => 0))), (q2, .inl (kJ, 729, .inr (.inl (fun _ => 0))))] := hD
  refine va_putF (D := D) (ci := 1) (v := .ref q2) (ty := (.array .long)) (C := RX1) (T := TX1) (N := 4) hx hb hts iX1_init_X1 tyX1 tyX1_ok nmX1 hown hK hP hD hS 0 rfl rfl 2 (by decide) (hts _ (List.mem_of_getElem? (i := 8) rfl)) (fun _ h9 => h9) rfl hin rfl (by decide +kernel) rfl rfl (Nat.le_of_ble_eq_true rfl) dX1_init_27 (fun H locs hP hD hS => ?_)
  have hP : va_P D vwCl [(o, .inr (1, [.ref q0, .ref q1, .ref q2, .int 0])), (q0, .inl (kJ, 64, .inr (.inl (fun _ => 0)))), (q1, .inl (kI, 729, .inl (fun _ => 0))), (q2, .inl (kJ, 729, .inr (.inl (fun _ => 0))))] H := hP
  have hD : va_D A [(o, .inr (1, [.ref q0, .ref q1, .ref q2, .int 0])), (q0, .inl (kJ, 64, .inr (.inl (fun _ => 0)))), (q1, .inl (kI, 729, .inl (fun _ => 0))), (q2, .inl (kJ, 729, .inr (.inl (fun _ => 0))))] := hD
  exact hret _ _ _ _ (fun j => match j with | 0 => q0 | 1 => q1 | _ => q2) dX1_init_30 hP hD hS
theorem iX5_init_X5 : ∀ w ∈ u_ws RX5 TX5 12, w ∈ wsX5_init := fun w h => List.mem_cons_of_mem _ (List.mem_append_right _ h)
set_option maxHeartbeats 4000000 in
set_option maxRecDepth 100000 in
theorem c_X5_init (l : Launch) (D : va_G) (kI kJ kS : ClassId) (o : Nat) : cN (S := (Nat → Nat)) l D (tyL kI kJ kS) true yX5_init wsX5_init (rmk 1 7 280 12) [.ref o] [(o, .inr (4, [.int 0, .int 0, .int 0, .int 0, .int 0, .null, .null, .null, .null, .null, .null, .null]))] (fun a => wX5 kI kJ o a 0 0 0 0 0 (fun _ => 0) (fun _ => 0) (fun _ => 0) (fun _ => 0) (fun _ => 0) (fun _ => 0) (fun _ => 0)) := by
  refine cN_of (cc := cX5_init) (maxL := 1) (by decide) rfl (Nat.le_of_ble_eq_true rfl) ?_
  intro p e s m av below meth c A Q ls hE hin hP hD hS hl hret
  have hE : ent_ p s m av meth c RX5 cX5_init 1 none wsX5_init (tyL kI kJ kS) D A true := hE
  obtain ⟨hx, hb, hml, hown, hts, hrt, hlocks, hK, hA, hst⟩ := id hE
  have hin : meth.name = "<init>" := hin
  have hl : lv_has ls 1 [(0, .ref o)] := hl
  refine lv_aload_n hx hb dX5_init_0 rfl (lv_at hl 0 rfl) ?_
  refine W.objInit hx hb hown (hts (.methodLink RX5 3 objectInit) (List.mem_of_getElem? (i := 1) rfl)) (hts (.instanceMethod objectInit) (List.mem_of_getElem? (i := 2) rfl)) (hts _ (List.mem_of_getElem? (i := 3) rfl)) rfl (by rw [hml]; exact hl.1) rfl dX5_init_1 (Nat.le_of_ble_eq_true rfl) (Nat.le_of_ble_eq_true rfl) ?_
  refine W.eq (g2 := F0 m 4 ls []) rfl ?_
  refine lv_aload_n hx hb dX5_init_4 rfl (lv_at hl 0 rfl) ?_
  refine lv_iconst (v := 4) hx hb dX5_init_5 (by decide) ?_
  refine va_newa (atype := .long) (a0 := (4, .inr (.inl (fun _ => 0)))) (N' := 4) hx hb (hts _ (List.mem_of_getElem? (i := 4) rfl)) rfl hK hP hD hS hA (fun _ => rfl) (by decide) rfl (Nat.le_of_ble_eq_true rfl) (Nat.le_of_ble_eq_true rfl) (Nat.le_of_ble_eq_true rfl) dX5_init_6 (fun q0 c9 H hK9 hP hD hS => ?_)
  have hc9 := ty_J (tys := []) hK9
  rw [hc9] at hP hD
  have hP : va_P D vwCl [(o, .inr (4, [.int 0, .int 0, .int 0, .int 0, .int 0, .null, .null, .null, .null, .null, .null, .null])), (q0, .inl (kJ, 4, .inr (.inl (fun _ => 0))))] H := hP
  have hD : va_D A [(o, .inr (4, [.int 0, .int 0, .int 0, .int 0, .int 0, .null, .null, .null, .null, .null, .null, .null])), (q0, .inl (kJ, 4, .inr (.inl (fun _ => 0))))] := hD
  refine va_putF (D := D) (ci := 4) (v := .ref q0) (ty := (.array .long)) (C := RX5) (T := TX5) (N := 12) hx hb hts iX5_init_X5 tyX5 tyX5_ok nmX5 hown hK hP hD hS 0 rfl rfl 5 (by decide) (hts _ (List.mem_of_getElem? (i := 5) rfl)) (fun _ h9 => h9) rfl hin rfl (by decide +kernel) rfl rfl (Nat.le_of_ble_eq_true rfl) dX5_init_8 (fun H locs hP hD hS => ?_)
  have hP : va_P D vwCl [(o, .inr (4, [.int 0, .int 0, .int 0, .int 0, .int 0, .ref q0, .null, .null, .null, .null, .null, .null])), (q0, .inl (kJ, 4, .inr (.inl (fun _ => 0))))] H := hP
  have hD : va_D A [(o, .inr (4, [.int 0, .int 0, .int 0, .int 0, .int 0, .ref q0, .null, .null, .null, .null, .null, .null])), (q0, .inl (kJ, 4, .inr (.inl (fun _ => 0))))] := hD
  refine lv_aload_n hx hb dX5_init_11 rfl (lv_at hl 0 rfl) ?_
  refine lv_iconst (v := 4) hx hb dX5_init_12 (by decide) ?_
  refine va_newa (atype := .long) (a0 := (4, .inr (.inl (fun _ => 0)))) (N' := 4) hx hb (hts _ (List.mem_of_getElem? (i := 4) rfl)) rfl hK hP hD hS hA (fun _ => rfl) (by decide) rfl (Nat.le_of_ble_eq_true rfl) (Nat.le_of_ble_eq_true rfl) (Nat.le_of_ble_eq_true rfl) dX5_init_13 (fun q1 c9 H hK9 hP hD hS => ?_)
  have hc9 := ty_J (tys := []) hK9
  rw [hc9] at hP hD
  have hP : va_P D vwCl [(o, .inr (4, [.int 0, .int 0, .int 0, .int 0, .int 0, .ref q0, .null, .null, .null, .null, .null, .null])), (q0, .inl (kJ, 4, .inr (.inl (fun _ => 0)))), (q1, .inl (kJ, 4, .inr (.inl (fun _ => 0))))] H := hP
  have hD : va_D A [(o, .inr (4, [.int 0, .int 0, .int 0, .int 0, .int 0, .ref q0, .null, .null, .null, .null, .null, .null])), (q0, .inl (kJ, 4, .inr (.inl (fun _ => 0)))), (q1, .inl (kJ, 4, .inr (.inl (fun _ => 0))))] := hD
  refine va_putF (D := D) (ci := 4) (v := .ref q1) (ty := (.array .long)) (C := RX5) (T := TX5) (N := 12) hx hb hts iX5_init_X5 tyX5 tyX5_ok nmX5 hown hK hP hD hS 0 rfl rfl 6 (by decide) (hts _ (List.mem_of_getElem? (i := 6) rfl)) (fun _ h9 => h9) rfl hin rfl (by decide +kernel) rfl rfl (Nat.le_of_ble_eq_true rfl) dX5_init_15 (fun H locs hP hD hS => ?_)
  have hP : va_P D vwCl [(o, .inr (4, [.int 0, .int 0, .int 0, .int 0, .int 0, .ref q0, .ref q1, .null, .null, .null, .null, .null])), (q0, .inl (kJ, 4, .inr (.inl (fun _ => 0)))), (q1, .inl (kJ, 4, .inr (.inl (fun _ => 0))))] H := hP
  have hD : va_D A [(o, .inr (4, [.int 0, .int 0, .int 0, .int 0, .int 0, .ref q0, .ref q1, .null, .null, .null, .null, .null])), (q0, .inl (kJ, 4, .inr (.inl (fun _ => 0)))), (q1, .inl (kJ, 4, .inr (.inl (fun _ => 0))))] := hD
  refine lv_aload_n hx hb dX5_init_18 rfl (lv_at hl 0 rfl) ?_
  refine lv_iconst (v := 4) hx hb dX5_init_19 (by decide) ?_
  refine va_newa (atype := .long) (a0 := (4, .inr (.inl (fun _ => 0)))) (N' := 4) hx hb (hts _ (List.mem_of_getElem? (i := 4) rfl)) rfl hK hP hD hS hA (fun _ => rfl) (by decide) rfl (Nat.le_of_ble_eq_true rfl) (Nat.le_of_ble_eq_true rfl) (Nat.le_of_ble_eq_true rfl) dX5_init_20 (fun q2 c9 H hK9 hP hD hS => ?_)
  have hc9 := ty_J (tys := []) hK9
  rw [hc9] at hP hD
  have hP : va_P D vwCl [(o, .inr (4, [.int 0, .int 0, .int 0, .int 0, .int 0, .ref q0, .ref q1, .null, .null, .null, .null, .null])), (q0, .inl (kJ, 4, .inr (.inl (fun _ => 0)))), (q1, .inl (kJ, 4, .inr (.inl (fun _ => 0)))), (q2, .inl (kJ, 4, .inr (.inl (fun _ => 0))))] H := hP
  have hD : va_D A [(o, .inr (4, [.int 0, .int 0, .int 0, .int 0, .int 0, .ref q0, .ref q1, .null, .null, .null, .null, .null])), (q0, .inl (kJ, 4, .inr (.inl (fun _ => 0)))), (q1, .inl (kJ, 4, .inr (.inl (fun _ => 0)))), (q2, .inl (kJ, 4, .inr (.inl (fun _ => 0))))] := hD
  refine va_putF (D := D) (ci := 4) (v := .ref q2) (ty := (.array .long)) (C := RX5) (T := TX5) (N := 12) hx hb hts iX5_init_X5 tyX5 tyX5_ok nmX5 hown hK hP hD hS 0 rfl rfl 7 (by decide) (hts _ (List.mem_of_getElem? (i := 7) rfl)) (fun _ h9 => h9) rfl hin rfl (by decide +kernel) rfl rfl (Nat.le_of_ble_eq_true rfl) dX5_init_22 (fun H locs hP hD hS => ?_)
  have hP : va_P D vwCl [(o, .inr (4, [.int 0, .int 0, .int 0, .int 0, .int 0, .ref q0, .ref q1, .ref q2, .null, .null, .null, .null])), (q0, .inl (kJ, 4, .inr (.inl (fun _ => 0)))), (q1, .inl (kJ, 4, .inr (.inl (fun _ => 0)))), (q2, .inl (kJ, 4, .inr (.inl (fun _ => 0))))] H := hP
  have hD : va_D A [(o, .inr (4, [.int 0, .int 0, .int 0, .int 0, .int 0, .ref q0, .ref q1, .ref q2, .null, .null, .null, .null])), (q0, .inl (kJ, 4, .inr (.inl (fun _ => 0)))), (q1, .inl (kJ, 4, .inr (.inl (fun _ => 0)))), (q2, .inl (kJ, 4, .inr (.inl (fun _ => 0))))] := hD
  refine lv_aload_n hx hb dX5_init_25 rfl (lv_at hl 0 rfl) ?_
  refine lv_iconst (v := 4) hx hb dX5_init_26 (by decide) ?_
  refine va_newa (atype := .long) (a0 := (4, .inr (.inl (fun _ => 0)))) (N' := 4) hx hb (hts _ (List.mem_of_getElem? (i := 4) rfl)) rfl hK hP hD hS hA (fun _ => rfl) (by decide) rfl (Nat.le_of_ble_eq_true rfl) (Nat.le_of_ble_eq_true rfl) (Nat.le_of_ble_eq_true rfl) dX5_init_27 (fun q3 c9 H hK9 hP hD hS => ?_)
  have hc9 := ty_J (tys := []) hK9
  rw [hc9] at hP hD
  have hP : va_P D vwCl [(o, .inr (4, [.int 0, .int 0, .int 0, .int 0, .int 0, .ref q0, .ref q1, .ref q2, .null, .null, .null, .null])), (q0, .inl (kJ, 4, .inr (.inl (fun _ => 0)))), (q1, .inl (kJ, 4, .inr (.inl (fun _ => 0)))), (q2, .inl (kJ, 4, .inr (.inl (fun _ => 0)))), (q3, .inl (kJ, 4, .inr (.inl (fun _ => 0))))] H := hP
  have hD : va_D A [(o, .inr (4, [.int 0, .int 0, .int 0, .int 0, .int 0, .ref q0, .ref q1, .ref q2, .null, .null, .null, .null])), (q0, .inl (kJ, 4, .inr (.inl (fun _ => 0)))), (q1, .inl (kJ, 4, .inr (.inl (fun _ => 0)))), (q2, .inl (kJ, 4, .inr (.inl (fun _ => 0)))), (q3, .inl (kJ, 4, .inr (.inl (fun _ => 0))))] := hD
  refine va_putF (D := D) (ci := 4) (v := .ref q3) (ty := (.array .long)) (C := RX5) (T := TX5) (N := 12) hx hb hts iX5_init_X5 tyX5 tyX5_ok nmX5 hown hK hP hD hS 0 rfl rfl 8 (by decide) (hts _ (List.mem_of_getElem? (i := 8) rfl)) (fun _ h9 => h9) rfl hin rfl (by decide +kernel) rfl rfl (Nat.le_of_ble_eq_true rfl) dX5_init_29 (fun H locs hP hD hS => ?_)
  have hP : va_P D vwCl [(o, .inr (4, [.int 0, .int 0, .int 0, .int 0, .int 0, .ref q0, .ref q1, .ref q2, .ref q3, .null, .null, .null])), (q0, .inl (kJ, 4, .inr (.inl (fun _ => 0)))), (q1, .inl (kJ, 4, .inr (.inl (fun _ => 0)))), (q2, .inl (kJ, 4, .inr (.inl (fun _ => 0)))), (q3, .inl (kJ, 4, .inr (.inl (fun _ => 0))))] H := hP
  have hD : va_D A [(o, .inr (4, [.int 0, .int 0, .int 0, .int 0, .int 0, .ref q0, .ref q1, .ref q2, .ref q3, .null, .null, .null])), (q0, .inl (kJ, 4, .inr (.inl (fun _ => 0)))), (q1, .inl (kJ, 4, .inr (.inl (fun _ => 0)))), (q2, .inl (kJ, 4, .inr (.inl (fun _ => 0)))), (q3, .inl (kJ, 4, .inr (.inl (fun _ => 0))))] := hD
  refine lv_aload_n hx hb dX5_init_32 rfl (lv_at hl 0 rfl) ?_
  refine lv_iconst (v := 4) hx hb dX5_init_33 (by decide) ?_
  refine va_newa (atype := .int) (a0 := (4, .inl (fun _ => 0))) (N' := 4) hx hb (hts _ (List.mem_of_getElem? (i := 9) rfl)) rfl hK hP hD hS hA (fun _ => rfl) (by decide) rfl (Nat.le_of_ble_eq_true rfl) (Nat.le_of_ble_eq_true rfl) (Nat.le_of_ble_eq_true rfl) dX5_init_34 (fun q4 c9 H hK9 hP hD hS => ?_)
  have hc9 := ty_I (tys := []) hK9
  rw [hc9] at hP hD
  have hP : va_P D vwCl [(o, .inr (4, [.int 0, .int 0, .int 0, .int 0, .int 0, .ref q0, .ref q1, .ref q2, .ref q3, .null, .null, .null])), (q0, .inl (kJ, 4, .inr (.inl (fun _ => 0)))), (q1, .inl (kJ, 4, .inr (.inl (fun _ => 0)))), (q2, .inl (kJ, 4, .inr (.inl (fun _ => 0)))), (q3, .inl (kJ, 4, .inr (.inl (fun _ => 0)))), (q4, .inl (kI, 4, .inl (fun _ => 0)))] H := hP
  have hD : va_D A [(o, .inr (4, [.int 0, .int 0, .int 0, .int 0, .int 0, .ref q0, .ref q1, .ref q2, .ref q3, .null, .null, .null])), (q0, .inl (kJ, 4, .inr (.inl (fun _ => 0)))), (q1, .inl (kJ, 4, .inr (.inl (fun _ => 0)))), (q2, .inl (kJ, 4, .inr (.inl (fun _ => 0)))), (q3, .inl (kJ, 4, .inr (.inl (fun _ => 0)))), (q4, .inl (kI, 4, .inl (fun _ => 0)))] := hD
  refine va_putF (D := D) (ci := 4) (v := .ref q4) (ty := (.array .int)) (C := RX5) (T := TX5) (N := 12) hx hb hts iX5_init_X5 tyX5 tyX5_ok nmX5 hown hK hP hD hS 0 rfl rfl 9 (by decide) (hts _ (List.mem_of_getElem? (i := 10) rfl)) (fun _ h9 => h9) rfl hin rfl (by decide +kernel) rfl rfl (Nat.le_of_ble_eq_true rfl) dX5_init_36 (fun H locs hP hD hS => ?_)
  have hP : va_P D vwCl [(o, .inr (4, [.int 0, .int 0, .int 0, .int 0, .int 0, .ref q0, .ref q1, .ref q2, .ref q3, .ref q4, .null, .null])), (q0, .inl (kJ, 4, .inr (.inl (fun _ => 0)))), (q1, .inl (kJ, 4, .inr (.inl (fun _ => 0)))), (q2, .inl (kJ, 4, .inr (.inl (fun _ => 0)))), (q3, .inl (kJ, 4, .inr (.inl (fun _ => 0)))), (q4, .inl (kI, 4, .inl (fun _ => 0)))] H := hP
  have hD : va_D A [(o, .inr (4, [.int 0, .int 0, .int 0, .int 0, .int 0, .ref q0, .ref q1, .ref q2, .ref q3, .ref q4, .null, .null])), (q0, .inl (kJ, 4, .inr (.inl (fun _ => 0)))), (q1, .inl (kJ, 4, .inr (.inl (fun _ => 0)))), (q2, .inl (kJ, 4, .inr (.inl (fun _ => 0)))), (q3, .inl (kJ, 4, .inr (.inl (fun _ => 0)))), (q4, .inl (kI, 4, .inl (fun _ => 0)))] := hD
  refine lv_aload_n hx hb dX5_init_39 rfl (lv_at hl 0 rfl) ?_
  refine lv_iconst (v := 4) hx hb dX5_init_40 (by decide) ?_
  refine va_newa (atype := .int) (a0 := (4, .inl (fun _ => 0))) (N' := 4) hx hb (hts _ (List.mem_of_getElem? (i := 9) rfl)) rfl hK hP hD hS hA (fun _ => rfl) (by decide) rfl (Nat.le_of_ble_eq_true rfl) (Nat.le_of_ble_eq_true rfl) (Nat.le_of_ble_eq_true rfl) dX5_init_41 (fun q5 c9 H hK9 hP hD hS => ?_)
  have hc9 := ty_I (tys := []) hK9
  rw [hc9] at hP hD
  have hP : va_P D vwCl [(o, .inr (4, [.int 0, .int 0, .int 0, .int 0, .int 0, .ref q0, .ref q1, .ref q2, .ref q3, .ref q4, .null, .null])), (q0, .inl (kJ, 4, .inr (.inl (fun _ => 0)))), (q1, .inl (kJ, 4, .inr (.inl (fun _ => 0)))), (q2, .inl (kJ, 4, .inr (.inl (fun _ => 0)))), (q3, .inl (kJ, 4, .inr (.inl (fun _ => 0)))), (q4, .inl (kI, 4, .inl (fun _ => 0))), (q5, .inl (kI, 4, .inl (fun _ => 0)))] H := hP
  have hD : va_D A [(o, .inr (4, [.int 0, .int 0, .int 0, .int 0, .int 0, .ref q0, .ref q1, .ref q2, .ref q3, .ref q4, .null, .null])), (q0, .inl (kJ, 4, .inr (.inl (fun _ => 0)))), (q1, .inl (kJ, 4, .inr (.inl (fun _ => 0)))), (q2, .inl (kJ, 4, .inr (.inl (fun _ => 0)))), (q3, .inl (kJ, 4, .inr (.inl (fun _ => 0)))), (q4, .inl (kI, 4, .inl (fun _ => 0))), (q5, .inl (kI, 4, .inl (fun _ => 0)))] := hD
  refine va_putF (D := D) (ci := 4) (v := .ref q5) (ty := (.array .int)) (C := RX5) (T := TX5) (N := 12) hx hb hts iX5_init_X5 tyX5 tyX5_ok nmX5 hown hK hP hD hS 0 rfl rfl 10 (by decide) (hts _ (List.mem_of_getElem? (i := 11) rfl)) (fun _ h9 => h9) rfl hin rfl (by decide +kernel) rfl rfl (Nat.le_of_ble_eq_true rfl) dX5_init_43 (fun H locs hP hD hS => ?_)
  have hP : va_P D vwCl [(o, .inr (4, [.int 0, .int 0, .int 0, .int 0, .int 0, .ref q0, .ref q1, .ref q2, .ref q3, .ref q4, .ref q5, .null])), (q0, .inl (kJ, 4, .inr (.inl (fun _ => 0)))), (q1, .inl (kJ, 4, .inr (.inl (fun _ => 0)))), (q2, .inl (kJ, 4, .inr (.inl (fun _ => 0)))), (q3, .inl (kJ, 4, .inr (.inl (fun _ => 0)))), (q4, .inl (kI, 4, .inl (fun _ => 0))), (q5, .inl (kI, 4, .inl (fun _ => 0)))] H := hP
  have hD : va_D A [(o, .inr (4, [.int 0, .int 0, .int 0, .int 0, .int 0, .ref q0, .ref q1, .ref q2, .ref q3, .ref q4, .ref q5, .null])), (q0, .inl (kJ, 4, .inr (.inl (fun _ => 0)))), (q1, .inl (kJ, 4, .inr (.inl (fun _ => 0)))), (q2, .inl (kJ, 4, .inr (.inl (fun _ => 0)))), (q3, .inl (kJ, 4, .inr (.inl (fun _ => 0)))), (q4, .inl (kI, 4, .inl (fun _ => 0))), (q5, .inl (kI, 4, .inl (fun _ => 0)))] := hD
  refine lv_aload_n hx hb dX5_init_46 rfl (lv_at hl 0 rfl) ?_
  refine lv_sipush (v := 256) hx hb dX5_init_47 (by decide) ?_
  refine va_newa (atype := .int) (a0 := (256, .inl (fun _ => 0))) (N' := 256) hx hb (hts _ (List.mem_of_getElem? (i := 9) rfl)) rfl hK hP hD hS hA (fun _ => rfl) (by decide) rfl (Nat.le_of_ble_eq_true rfl) (Nat.le_of_ble_eq_true rfl) (Nat.le_of_ble_eq_true rfl) dX5_init_50 (fun q6 c9 H hK9 hP hD hS => ?_)
  have hc9 := ty_I (tys := []) hK9
  rw [hc9] at hP hD
  have hP : va_P D vwCl [(o, .inr (4, [.int 0, .int 0, .int 0, .int 0, .int 0, .ref q0, .ref q1, .ref q2, .ref q3, .ref q4, .ref q5, .null])), (q0, .inl (kJ, 4, .inr (.inl (fun _ => 0)))), (q1, .inl (kJ, 4, .inr (.inl (fun _ => 0)))), (q2, .inl (kJ, 4, .inr (.inl (fun _ => 0)))), (q3, .inl (kJ, 4, .inr (.inl (fun _ => 0)))), (q4, .inl (kI, 4, .inl (fun _ => 0))), (q5, .inl (kI, 4, .inl (fun _ => 0))), (q6, .inl (kI, 256, .inl (fun _ => 0)))] H := hP
  have hD : va_D A [(o, .inr (4, [.int 0, .int 0, .int 0, .int 0, .int 0, .ref q0, .ref q1, .ref q2, .ref q3, .ref q4, .ref q5, .null])), (q0, .inl (kJ, 4, .inr (.inl (fun _ => 0)))), (q1, .inl (kJ, 4, .inr (.inl (fun _ => 0)))), (q2, .inl (kJ, 4, .inr (.inl (fun _ => 0)))), (q3, .inl (kJ, 4, .inr (.inl (fun _ => 0)))), (q4, .inl (kI, 4, .inl (fun _ => 0))), (q5, .inl (kI, 4, .inl (fun _ => 0))), (q6, .inl (kI, 256, .inl (fun _ => 0)))] := hD
  refine va_putF (D := D) (ci := 4) (v := .ref q6) (ty := (.array .int)) (C := RX5) (T := TX5) (N := 12) hx hb hts iX5_init_X5 tyX5 tyX5_ok nmX5 hown hK hP hD hS 0 rfl rfl 11 (by decide) (hts _ (List.mem_of_getElem? (i := 12) rfl)) (fun _ h9 => h9) rfl hin rfl (by decide +kernel) rfl rfl (Nat.le_of_ble_eq_true rfl) dX5_init_52 (fun H locs hP hD hS => ?_)
  have hP : va_P D vwCl [(o, .inr (4, [.int 0, .int 0, .int 0, .int 0, .int 0, .ref q0, .ref q1, .ref q2, .ref q3, .ref q4, .ref q5, .ref q6])), (q0, .inl (kJ, 4, .inr (.inl (fun _ => 0)))), (q1, .inl (kJ, 4, .inr (.inl (fun _ => 0)))), (q2, .inl (kJ, 4, .inr (.inl (fun _ => 0)))), (q3, .inl (kJ, 4, .inr (.inl (fun _ => 0)))), (q4, .inl (kI, 4, .inl (fun _ => 0))), (q5, .inl (kI, 4, .inl (fun _ => 0))), (q6, .inl (kI, 256, .inl (fun _ => 0)))] H := hP
  have hD : va_D A [(o, .inr (4, [.int 0, .int 0, .int 0, .int 0, .int 0, .ref q0, .ref q1, .ref q2, .ref q3, .ref q4, .ref q5, .ref q6])), (q0, .inl (kJ, 4, .inr (.inl (fun _ => 0)))), (q1, .inl (kJ, 4, .inr (.inl (fun _ => 0)))), (q2, .inl (kJ, 4, .inr (.inl (fun _ => 0)))), (q3, .inl (kJ, 4, .inr (.inl (fun _ => 0)))), (q4, .inl (kI, 4, .inl (fun _ => 0))), (q5, .inl (kI, 4, .inl (fun _ => 0))), (q6, .inl (kI, 256, .inl (fun _ => 0)))] := hD
  exact hret _ _ _ _ (fun j => match j with | 0 => q0 | 1 => q1 | 2 => q2 | 3 => q3 | 4 => q4 | 5 => q5 | _ => q6) dX5_init_55 hP hD hS
theorem iX0_init_X0 : ∀ w ∈ u_ws RX0 TX0 2, w ∈ wsX0_init := fun w h => List.mem_cons_of_mem _ (List.mem_append_right _ h)
set_option maxHeartbeats 4000000 in
set_option maxRecDepth 100000 in
theorem c_X0_init (l : Launch) (D : va_G) (kI kJ kS : ClassId) (o : Nat) : cN (S := Nat) l D (tyL kI kJ kS) true yX0_init wsX0_init (rmk 1 1 6 12) [.ref o] [(o, .inr (0, [.null, .int 0]))] (fun q => wX0 o q 0 ++ [(q, .inl (kS, 6, .inr (.inr (.inr (.inr (fun _ => none))))))]) := by
  refine cN_of (cc := cX0_init) (maxL := 1) (by decide) rfl (Nat.le_of_ble_eq_true rfl) ?_
  intro p e s m av below meth c A Q ls hE hin hP hD hS hl hret
  have hE : ent_ p s m av meth c RX0 cX0_init 1 none wsX0_init (tyL kI kJ kS) D A true := hE
  obtain ⟨hx, hb, hml, hown, hts, hrt, hlocks, hK, hA, hst⟩ := id hE
  have hin : meth.name = "<init>" := hin
  have hl : lv_has ls 1 [(0, .ref o)] := hl
  have hao : va_AO "GateMaze$State" s := (hst rfl).2.2.2.2.2.2.2
  refine lv_aload_n hx hb dX0_init_0 rfl (lv_at hl 0 rfl) ?_
  refine W.objInit hx hb hown (hts (.methodLink RX0 3 objectInit) (List.mem_of_getElem? (i := 1) rfl)) (hts (.instanceMethod objectInit) (List.mem_of_getElem? (i := 2) rfl)) (hts _ (List.mem_of_getElem? (i := 3) rfl)) rfl (by rw [hml]; exact hl.1) rfl dX0_init_1 (Nat.le_of_ble_eq_true rfl) (Nat.le_of_ble_eq_true rfl) ?_
  refine W.eq (g2 := F0 m 4 ls []) rfl ?_
  refine lv_aload_n hx hb dX0_init_4 rfl (lv_at hl 0 rfl) ?_
  refine lv_bipush (v := 6) hx hb dX0_init_5 (by decide) ?_
  refine va_newq (N' := 6) hx hb hown (hts _ (List.mem_of_getElem? (i := 4) rfl)) hao hK hP hD hS hA (by decide) rfl (Nat.le_of_ble_eq_true rfl) (Nat.le_of_ble_eq_true rfl) (Nat.le_of_ble_eq_true rfl) dX0_init_7 (fun q0 c9 H hK9 hP hD hS => ?_)
  have hc9 := ty_S (tys := []) hK9
  rw [hc9] at hP hD
  have hP : va_P D vwCl [(o, .inr (0, [.null, .int 0])), (q0, .inl (kS, 6, .inr (.inr (.inr (.inr (fun _ => none))))))] H := hP
  have hD : va_D A [(o, .inr (0, [.null, .int 0])), (q0, .inl (kS, 6, .inr (.inr (.inr (.inr (fun _ => none))))))] := hD
  refine va_putF (D := D) (ci := 0) (v := .ref q0) (ty := (.array (.object "GateMaze$State"))) (C := RX0) (T := TX0) (N := 2) hx hb hts iX0_init_X0 tyX0 tyX0_ok nmX0 hown hK hP hD hS 0 rfl rfl 0 (by decide) (hts _ (List.mem_of_getElem? (i := 5) rfl)) (fun _ h9 => h9) rfl hin rfl (by decide +kernel) rfl rfl (Nat.le_of_ble_eq_true rfl) dX0_init_10 (fun H locs hP hD hS => ?_)
  have hP : va_P D vwCl [(o, .inr (0, [.ref q0, .int 0])), (q0, .inl (kS, 6, .inr (.inr (.inr (.inr (fun _ => none))))))] H := hP
  have hD : va_D A [(o, .inr (0, [.ref q0, .int 0])), (q0, .inl (kS, 6, .inr (.inr (.inr (.inr (fun _ => none))))))] := hD
  exact hret _ _ _ _ q0 dX0_init_13 hP hD hS

