/-! ===== the law's own methods ===== -/
theorem gz_some {α : Type} {y : Int32} {k : Option α} {r : α} (h : gz y k = some r) : ¬ y = 0 ∧ k = some r := by
  unfold gz at h
  split at h
  · cases h
  · exact ⟨by assumption, h⟩
theorem sg_some {α β : Type} {o : Option (Nat ⊕ α)} {f : α → Option β} {r : β} (h : sg o f = some r) : ∃ q, o = some (.inr q) ∧ f q = some r := by
  unfold sg at h
  split at h
  · cases h
  · cases h
  · exact ⟨_, rfl, h⟩
def wAI5 (cI : ClassId) (o : Nat) (f : Nat → Int32) : va_W := [(o, .inl (cI, 5, .inl f))]
def wAI64 (cI : ClassId) (o : Nat) (f : Nat → Int32) : va_W := [(o, .inl (cI, 64, .inl f))]
/-- a method of the law that reads the script: L ints xs at the old cell b -/
def xI (l : Launch) (D : va_G) (tys : List (ClassId × FieldType)) (y : MethodName) (ws : List Cond) (rm : Room) (args : List Value) (b L : Nat) (xs : Nat → Int32) (r : Int32) : Prop :=
  ∀ sz : Nat, b < sz → Met l y ws rm (va_Pc args (fun U => pre_ D tys [] true sz U ∧ va_X b L xs U U.heap)) (va_Qi (fun x (_ : Unit) => x = r) (fun _ t => post_ D tys (va_A [] sz) [] t) (va_A [] sz)) rm.cells rm.slots (va_A [] sz)
theorem va_A0 {b sz : Nat} (h : b < sz) : ¬ va_A [] sz b := by
  intro h9
  rcases h9 with ⟨k, e9, h1⟩ | h1
  · exact absurd h1 (by simp)
  · omega
section XIO
variable {l : Launch} {D : va_G} {tys : List (ClassId × FieldType)} {y : MethodName} {ws ws' : List Cond} {rm : Room} {args : List Value} {cc : ByteArray} {maxL : Nat} {b L : Nat} {xs : Nat → Int32}
theorem xI_of {r : Int32} {ty : FieldType} (hy : plainName y.cls = true) (hw : ws = Cond.code y cc maxL (some ty) :: ws') (hlen : (lg_sl args).length ≤ maxL)
    (body : ∀ (p : Program) (e : Env) (s : State) (m : MethodId) (av : Array Value) (below : List Frame) (meth : Method) (c : Code) (A : Nat → Prop) (Q : State → Prop) (ls : Array Slot), ent_ p s m av meth c y.cls cc maxL (some ty) ws tys D A true →
      va_P D vwCl [] s.heap → va_D A [] → va_S A s.heap s.heap [] → lv_has ls maxL (lv_args 0 args) → va_X b L xs s s.heap → b < s.heap.size → ¬ A b →
      (∀ (pc : Nat) (H : Heap) (locs : List Loc) (ls : Array Slot), narrow ty (.int r) = .int r → decode cc pc = .ok (.ireturn, 1) → va_P D vwCl [] H → va_D A [] → va_S A s.heap H locs → W p l e rm s m av below meth c H locs rm.cells rm.slots Q (F0 m pc ls [.int r])) →
      W p l e rm s m av below meth c s.heap [] 0 0 Q (F0 m 0 ls [])) : xI l D tys y ws rm args b L xs r := by
  intro sz hbz
  refine Met.ofW (cc := cc) (maxL := maxL) (ret := some ty) hy hw ?_
  intro p e s m av below meth c s₁ B hml hv
  obtain ⟨rfl, ⟨hsz, hP, hK, hD0, hst⟩, hX⟩ := hv
  have hts := atoms_spec (ws := ws) B.pre
  have hown : s.vm.findClass y.cls = some m.cls := findClass_of_methodNamed B.named
  subst hsz
  have hD := hD0.self (sz := s.heap.size)
  have hl := lv_entry args (n := maxL) hlen
  rw [lg_entry_eq]
  refine body p e s m args.toArray below meth c (va_A [] s.heap.size) _ _ ⟨B.exec, B.bytes, hml, hown, hts, B.returns, B.notSynchronized, hK, fun q h => Or.inr h, hst⟩ hP hD va_S.rf hl hX hbz (va_A0 hbz) ?_
  intro pc H locs ls hn hdg hP hD hS
  exact W.zret (ty := ty) B.exec B.bytes B.returns hn (fun t ht hW => ⟨⟨r, (), rfl, rfl, by rw [ht]; exact hP, va_K.moved hW.alike hK, hD⟩, hS.F ht⟩) hS.2.2 hdg B.notSynchronized
theorem xI_blind {sz : Nat} : FrameBlind (va_Pc args (fun U => pre_ D tys [] true sz U ∧ va_X b L xs U U.heap)) := by
  intro a U g mk q
  obtain ⟨q0, q1, qX⟩ := q
  have q2 := pre_blind (D := D) (tys := tys) (Wd := []) (st := true) (sz := sz) (args := args) a U g mk ⟨q0, q1⟩
  exact ⟨q2.1, q2.2, va_X.moved (u := U) (U := U.calling g mk a) (Vm.Alike.refl U.vm) qX⟩
end XIO
section XIC
variable {p : Program} {l : Launch} {e : Env} {R : Room} {s : State} {m : MethodId} {args : Array Value} {below : List Frame} {meth : Method} {c : Code} {H : Heap} {locs : List Loc} {cells slots : Nat} {Q : State → Prop}
  {D : va_G} {tys : List (ClassId × FieldType)} {A : Nat → Prop} {cc bytes : ByteArray} {nL maxL index n pc : Nat} {own : String} {ret retY : Option FieldType} {Ts ws : List Cond} {rm : Room} {y : MethodName} {ww wc wr w1 wN tl : va_W} {ls : Array Slot} {rest stk : List Value} {b L : Nat} {xs : Nat → Int32} {As : List Value} {T : va_W → Prop}
theorem xI_callST {r : Int32} (E : ent_ p s m args meth c own cc nL ret Ts tys D A true) (hX : va_X b L xs s s.heap) (hbl : b < s.heap.size) (hbA : ¬ A b) (hM : xI l D tys y ws rm As b L xs r) (cw : CallB R s args own index y bytes maxL retY ws rm rm.cells rm.slots n ∧ (Cond.static y).before args s = true)
    (hP : va_P D vwCl (ww ++ tl) H) (hD : va_D A (ww ++ tl)) (hS : va_S A s.heap H locs) (isR isN : List Nat) (hR : isR.map (fun i => ww[i]?) = wr.map some) (hnR : va_nd isR = true)
    (hN : isN.map (fun i => (wr ++ [])[i]?) = wN.map some) (hnN : va_nd isN = true) (hlen : As.length = n) (hsz : ls.size = nL) (hstk : stk = As.reverse ++ rest) (hW : (rest.map fun v => v.category).sum ≤ 8) (hdg : decode cc pc = .ok (.invokestatic index, 3)) (hf : cells + rm.cells ≤ R.cells ∧ slots + rm.slots ≤ R.slots)
    (kk : ∀ (H1 : Heap) (locs1 : List Loc), va_P D vwCl (wN ++ tl) H1 → va_D A (wN ++ tl) → va_S A s.heap H1 locs1 → W p l e R s m args below meth c H1 locs1 (cells + rm.cells) (slots + rm.slots) Q (F0 m (pc + 3) ls (.int r :: rest))) : W p l e R s m args below meth c H locs cells slots Q (F0 m pc ls stk) := by
  have hC : ([] : List Nat).map (fun i => ww[i]?) = ([] : va_W).map some := rfl
  obtain ⟨hPc, hFc, hbl0, hpre⟩ := cal_pre (av := As) E hP hD hS [] (ap_map hC) (by decide)
  obtain ⟨hx, hb, hml, hown, hts, -⟩ := id E
  have hbH : b < H.size := Nat.lt_of_lt_of_le hbl hS.1
  refine va_calli (va_runS (As := As) (rest := rest) ⟨hx, hb, hml, hown, hts⟩ (hM H.size hbH) cw ⟨xI_blind, fun U hU hW => ⟨(hpre U hU hW).1, (hpre U hU hW).2, by rw [hU]; exact va_X.moved hW.alike (hX.kept (hS.2.1 b hbl hbA))⟩⟩ rfl hlen hsz hstk (lv_room hW) hdg hf) hS (fun q _ h => hFc q h) hFc (fun x u t H1 locs1 ht hvm hw hB hz1 hk1 hS1 => ?_)
  subst hw
  obtain ⟨hP1, hD1⟩ := cal_finT (w1 := []) E hP hD hS [] isR isN hC hR hnR (fun i _ h => absurd h List.not_mem_nil) hN hnN ht hB hk1
  exact kk H1 locs1 hP1 hD1 hS1
theorem gI_callST {r : Int32} (E : ent_ p s m args meth c own cc nL ret Ts tys D A true) (hM : gI l D tys y ws rm As (wc ++ tl) w1 T r) (cw : CallB R s args own index y bytes maxL retY ws rm rm.cells rm.slots n ∧ (Cond.static y).before args s = true)
    (hP : va_P D vwCl (ww ++ tl) H) (hD : va_D A (ww ++ tl)) (hS : va_S A s.heap H locs) (isC isR isN : List Nat) (hC : isC.map (fun i => ww[i]?) = wc.map some) (hR : isR.map (fun i => ww[i]?) = wr.map some) (hnC : va_nd isC = true) (hnR : va_nd isR = true) (hdis : ∀ i ∈ isR, i ∉ isC)
    (hN : isN.map (fun i => (wr ++ w1)[i]?) = wN.map some) (hnN : va_nd isN = true) (hlen : As.length = n) (hsz : ls.size = nL) (hstk : stk = As.reverse ++ rest) (hW : (rest.map fun v => v.category).sum ≤ 8) (hdg : decode cc pc = .ok (.invokestatic index, 3)) (hf : cells + rm.cells ≤ R.cells ∧ slots + rm.slots ≤ R.slots)
    (kk : ∀ (tl1 : va_W) (H1 : Heap) (locs1 : List Loc), T tl1 → va_P D vwCl (wN ++ tl1) H1 → va_D A (wN ++ tl1) → va_S A s.heap H1 locs1 → W p l e R s m args below meth c H1 locs1 (cells + rm.cells) (slots + rm.slots) Q (F0 m (pc + 3) ls (.int r :: rest))) : W p l e R s m args below meth c H locs cells slots Q (F0 m pc ls stk) := by
  obtain ⟨hFc, hbl, hpre⟩ := cal_preTT (av := As) E hP hD hS isC hC hnC
  obtain ⟨hx, hb, hml, hown, hts, -, -, hK, -⟩ := id E
  refine va_calli (va_runS (As := As) (rest := rest) ⟨hx, hb, hml, hown, hts⟩ (hM H.size) cw ⟨hbl, hpre⟩ rfl hlen hsz hstk (lv_room hW) hdg hf) hS (fun q _ h => hFc q h) hFc (fun x u t H1 locs1 ht hvm hw hB hz1 hk1 hS1 => ?_)
  subst hw
  obtain ⟨tl1, hT, hB⟩ := hB
  obtain ⟨hP1, hD1⟩ := cal_finTT E hP hD hS isC isR isN hC hR hnR hdis hN hnN ht hB hk1
  exact kk tl1 H1 locs1 hT hP1 hD1 hS1
end XIC

theorem mL_cell_1 : Cond.constant RL 7 (484763065) ∈ wsL_cell := List.mem_of_getElem? (i := 1) rfl
theorem c_L_cell (l : Launch) (D : va_G) (kI kJ kS : ClassId) (b L : Nat) (xs : Nat → Int32) (x1 : Int32) {r : Int32} (hrun : fL_cell xs L x1 = some r) : xI l D (tyL kI kJ kS) yL_cell wsL_cell (rmk 0 0 0 0) [.ref b, .int x1] b L xs r := by
  refine xI_of (cc := cL_cell) (maxL := 2) (by decide) rfl (Nat.le_of_ble_eq_true rfl) ?_
  intro p e s m av below meth c A Q ls hE hP hD hS hl hX hbl hbA hret
  have hE : ent_ p s m av meth c RL cL_cell 2 (some .int) wsL_cell (tyL kI kJ kS) D A true := hE
  obtain ⟨hx, hb, hml, hown, hts, hrt, hlocks, hK, hA, hst⟩ := id hE
  have hl : lv_has ls 2 [(0, .ref b), (1, .int x1)] := hl
  unfold fL_cell at hrun
  refine lv_iload_n hx hb dL_cell_0 rfl (lv_at hl 1 rfl) ?_
  refine lv_aload_n hx hb dL_cell_1 rfl (lv_at hl 0 rfl) ?_
  refine va_slen hx hb hX hbl hbA hS dL_cell_2 ?_
  refine lv_icmp_ge (tgt := 12) hx hb dL_cell_3 (by decide) (fun hc => ?_) (fun hc => ?_)
  · have hrun := it_t hc hrun
    refine lv_ldc (v := 484763065) hx hb hown (hts _ mL_cell_1) dL_cell_12 ?_
    refine lv_iload_n hx hb dL_cell_14 rfl (lv_at hl 1 rfl) ?_
    refine lv_sipush (v := 151) hx hb dL_cell_15 (by decide) ?_
    refine lv_iadd hx hb dL_cell_18 ?_
    refine lv_imul hx hb dL_cell_19 ?_
    obtain rfl := Option.some.inj hrun
    exact hret _ _ _ _ rfl dL_cell_20 hP hD hS
  · have hrun := it_f hc hrun
    refine lv_aload_n hx hb dL_cell_6 rfl (lv_at hl 0 rfl) ?_
    refine lv_iload_n hx hb dL_cell_7 rfl (lv_at hl 1 rfl) ?_
    obtain ⟨hin9, hrun⟩ := gd_some hrun
    refine va_sld hx hb hX hbl hbA hS hin9 dL_cell_8 ?_
    refine lv_goto (tgt := 20) hx hb dL_cell_9 (by decide) ?_
    obtain rfl := Option.some.inj hrun
    exact hret _ _ _ _ rfl dL_cell_20 hP hD hS
/-! ===== L_at ===== -/
set_option maxHeartbeats 4000000 in
set_option maxRecDepth 100000 in
theorem c_L_at (l : Launch) (D : va_G) (kI kJ kS : ClassId) (x0 : Int32) (x1 : Int32) {r : Int32} (hrun : fL_at x0 x1 = some r) : cI l D (tyL kI kJ kS) true yL_at wsL_at (rmk 0 0 0 0) [.int x0, .int x1] [] [] r := by
  refine cI_of (cc := cL_at) (maxL := 2) (by decide) rfl (Nat.le_of_ble_eq_true rfl) ?_
  intro p e s m av below meth c A Q ls hE hP hD hS hl hret
  have hE : ent_ p s m av meth c RL cL_at 2 (some .int) wsL_at (tyL kI kJ kS) D A true := hE
  obtain ⟨hx, hb, hml, hown, hts, hrt, hlocks, hK, hA, hst⟩ := id hE
  have hl : lv_has ls 2 [(0, .int x0), (1, .int x1)] := hl
  obtain ⟨⟨⟨tW, hZ, hT⟩, hU1, hU2⟩, hnk⟩ := hst rfl
  unfold fL_at at hrun
  refine lv_iload_n hx hb dL_at_0 rfl (lv_at hl 0 rfl) ?_
  refine lv_iconst (v := 1) hx hb dL_at_1 (by decide) ?_
  refine lv_iushr hx hb dL_at_2 rfl ?_
  refine lv_iload_n hx hb dL_at_3 rfl (lv_at hl 1 rfl) ?_
  obtain ⟨hdz, hrun⟩ := gz_some hrun
  refine lv_irem hx hb dL_at_4 hdz ?_
  obtain rfl := Option.some.inj hrun
  exact hret _ _ _ _ rfl dL_at_5 hP hD hS
/-! ===== L_ones ===== -/
set_option maxHeartbeats 4000000 in
set_option maxRecDepth 100000 in
theorem c_L_ones (l : Launch) (D : va_G) (kI kJ kS : ClassId) (x0 : Int32) {r : Int32} (hrun : fL_ones x0 = some r) : cI l D (tyL kI kJ kS) true yL_ones wsL_ones (rmk 0 0 0 0) [.int x0] [] [] r := by
  refine cI_of (cc := cL_ones) (maxL := 2) (by decide) rfl (Nat.le_of_ble_eq_true rfl) ?_
  intro p e s m av below meth c A Q ls hE hP hD hS hl hret
  have hE : ent_ p s m av meth c RL cL_ones 2 (some .int) wsL_ones (tyL kI kJ kS) D A true := hE
  obtain ⟨hx, hb, hml, hown, hts, hrt, hlocks, hK, hA, hst⟩ := id hE
  have hl : lv_has ls 2 [(0, .int x0)] := hl
  obtain ⟨⟨⟨tW, hZ, hT⟩, hU1, hU2⟩, hnk⟩ := hst rfl
  have c_L2 : ∀  (n : Nat) (x0 : Int32) (x1 : Int32), fL_ones_L2  n x0 x1 = some r → wAt p l e (rmk 0 0 0 0) s m av below meth c D A 2 0 0 Q 2 [] [(0, .int x0), (1, .int x1)] [] := by
    intro  n
    induction n with
    | zero =>
      intro x0 x1 hrun
      rw [fL_ones_L2] at hrun
      cases hrun
    | succ n ih =>
      intro x0 x1 hrun H locs ls hP hD hS hl
      rw [fL_ones_L2] at hrun
      refine lv_iload_n hx hb dL_ones_2 rfl (lv_at hl 0 rfl) ?_
      refine lv_if_eq (tgt := 18) hx hb dL_ones_3 (by decide) (fun hc => ?_) (fun hc => ?_)
      · have hrun := it_t hc hrun
        refine lv_iload_n hx hb dL_ones_18 rfl (lv_at hl 1 rfl) ?_
        obtain rfl := Option.some.inj hrun
        exact hret _ _ _ _ rfl dL_ones_19 hP hD hS
      · have hrun := it_f hc hrun
        refine lv_iload_n hx hb dL_ones_6 rfl (lv_at hl 0 rfl) ?_
        refine lv_iload_n hx hb dL_ones_7 rfl (lv_at hl 0 rfl) ?_
        refine lv_iconst (v := 1) hx hb dL_ones_8 (by decide) ?_
        refine lv_isub hx hb dL_ones_9 ?_
        refine lv_iand hx hb dL_ones_10 ?_
        refine lv_istore_n (lv' := [(0, .int (x0 &&& (x0 - 1))), (1, .int x1)]) hx hb dL_ones_11 rfl hl (by decide) rfl (fun ls hl => ?_)
        refine lv_iinc (v := x1 + 1) (lv' := [(1, .int (x1 + 1)), (0, .int (x0 &&& (x0 - 1)))]) hx hb dL_ones_12 hl (k := 1) rfl rfl (by decide) rfl (fun ls hl => ?_)
        refine lv_goto (tgt := 2) hx hb dL_ones_15 (by decide) ?_
        exact ih (x0 &&& (x0 - 1)) (x1 + 1)  hrun _ _ _ hP hD hS (lv_sub hl [1, 0] rfl)
  unfold fL_ones at hrun
  refine lv_iconst (v := 0) hx hb dL_ones_0 (by decide) ?_
  refine lv_istore_n (lv' := [(1, .int 0), (0, .int x0)]) hx hb dL_ones_1 rfl hl (by decide) rfl (fun ls hl => ?_)
  exact c_L2  5000 x0 0  hrun _ _ _ hP hD hS (lv_sub hl [1, 0] rfl)
/-! ===== L_decided ===== -/
set_option maxHeartbeats 4000000 in
set_option maxRecDepth 100000 in
theorem c_L_decided (l : Launch) (D : va_G) (kI kJ kS : ClassId) (nno : Nat) (tro : Nat) (x2 : Int32) (x3 : Int32) (x4 : Int32) (nn_arr : (Nat → Int32)) (tr_arr : (Nat → Int32)) {r : Int32} (hrun : fL_decided nn_arr tr_arr x2 x3 x4 = some r) : cI l D (tyL kI kJ kS) true yL_decided wsL_decided (rmk 0 0 0 0) [.ref nno, .ref tro, .int x2, .int x3, .int x4] (wAI5 kI nno nn_arr ++ (wAI64 kI tro tr_arr)) (wAI5 kI nno nn_arr ++ (wAI64 kI tro tr_arr)) r := by
  refine cI_of (cc := cL_decided) (maxL := 7) (by decide) rfl (Nat.le_of_ble_eq_true rfl) ?_
  intro p e s m av below meth c A Q ls hE hP hD hS hl hret
  have hE : ent_ p s m av meth c RL cL_decided 7 (some .int) wsL_decided (tyL kI kJ kS) D A true := hE
  obtain ⟨hx, hb, hml, hown, hts, hrt, hlocks, hK, hA, hst⟩ := id hE
  have hl : lv_has ls 7 [(0, .ref nno), (1, .ref tro), (2, .int x2), (3, .int x3), (4, .int x4)] := hl
  obtain ⟨⟨⟨tW, hZ, hT⟩, hU1, hU2⟩, hnk⟩ := hst rfl
  have c_J42 : ∀ (x2 : Int32) (x3 : Int32) (x4 : Int32) (x5 : Int32) (x6 : Int32) (k6 : Int32 → Int32 → Option (Int32)) (hk6 : (∀ (x5 : Int32) (x6 : Int32), k6 x5 x6 = some r → wAt p l e (rmk 0 0 0 0) s m av below meth c D A 7 0 0 Q 6 [] [(0, .ref nno), (1, .ref tro), (2, .int x2), (3, .int x3), (4, .int x4), (5, .int x5), (6, .int x6)] (wAI5 kI nno nn_arr ++ (wAI64 kI tro tr_arr)))), fL_decided_J42 x2 x3 x4 x5 x6 nn_arr tr_arr k6 = some r → wAt p l e (rmk 0 0 0 0) s m av below meth c D A 7 0 0 Q 42 [] [(0, .ref nno), (1, .ref tro), (2, .int x2), (3, .int x3), (4, .int x4), (5, .int x5), (6, .int x6)] (wAI5 kI nno nn_arr ++ (wAI64 kI tro tr_arr)) := by
    intro x2 x3 x4 x5 x6 k6 hk6 hrun H locs ls hP hD hS hl
    unfold fL_decided_J42 at hrun
    refine lv_iinc (v := x6 + 1) (lv' := [(6, .int (x6 + 1)), (0, .ref nno), (1, .ref tro), (2, .int x2), (3, .int x3), (4, .int x4), (5, .int x5)]) hx hb dL_decided_42 hl (k := 6) rfl rfl (by decide) rfl (fun ls hl => ?_)
    refine lv_goto (tgt := 6) hx hb dL_decided_45 (by decide) ?_
    exact hk6 x5 (x6 + 1)  hrun _ _ _ hP hD hS (lv_sub hl [1, 2, 3, 4, 5, 6, 0] rfl)
  have c_J48 : ∀ (x5 : Int32), fL_decided_J48 x5 = some r → wAt p l e (rmk 0 0 0 0) s m av below meth c D A 7 0 0 Q 48 [] [(5, .int x5)] (wAI5 kI nno nn_arr ++ (wAI64 kI tro tr_arr)) := by
    intro x5 hrun H locs ls hP hD hS hl
    unfold fL_decided_J48 at hrun
    refine lv_iload hx hb dL_decided_48 (lv_at hl 0 rfl) ?_
    refine lv_iconst (v := 3) hx hb dL_decided_50 (by decide) ?_
    refine lv_iand hx hb dL_decided_51 ?_
    refine lv_iconst (v := 3) hx hb dL_decided_52 (by decide) ?_
    refine lv_icmp_ne (tgt := 60) hx hb dL_decided_53 (by decide) (fun hc => ?_) (fun hc => ?_)
    · have hrun := it_f hc hrun
      refine lv_iload hx hb dL_decided_60 (lv_at hl 0 rfl) ?_
      refine lv_iconst (v := 1) hx hb dL_decided_62 (by decide) ?_
      refine lv_iand hx hb dL_decided_63 ?_
      refine lv_iconst (v := 1) hx hb dL_decided_64 (by decide) ?_
      refine lv_icmp_ne (tgt := 72) hx hb dL_decided_65 (by decide) (fun hc => ?_) (fun hc => ?_)
      · have hrun := it_f hc hrun
        refine lv_iload hx hb dL_decided_72 (lv_at hl 0 rfl) ?_
        refine lv_iconst (v := 2) hx hb dL_decided_74 (by decide) ?_
        refine lv_iand hx hb dL_decided_75 ?_
        refine lv_iconst (v := 2) hx hb dL_decided_76 (by decide) ?_
        refine lv_icmp_ne (tgt := 84) hx hb dL_decided_77 (by decide) (fun hc => ?_) (fun hc => ?_)
        · have hrun := it_f hc hrun
          refine lv_iconst (v := 2) hx hb dL_decided_84 (by decide) ?_
          obtain rfl := Option.some.inj hrun
          exact hret _ _ _ _ rfl dL_decided_85 hP hD hS
        · have hrun := it_t hc hrun
          refine lv_iconst (v := 1) hx hb dL_decided_80 (by decide) ?_
          refine lv_goto (tgt := 85) hx hb dL_decided_81 (by decide) ?_
          obtain rfl := Option.some.inj hrun
          exact hret _ _ _ _ rfl dL_decided_85 hP hD hS
      · have hrun := it_t hc hrun
        refine lv_iconst (v := 0) hx hb dL_decided_68 (by decide) ?_
        refine lv_goto (tgt := 85) hx hb dL_decided_69 (by decide) ?_
        obtain rfl := Option.some.inj hrun
        exact hret _ _ _ _ rfl dL_decided_85 hP hD hS
    · have hrun := it_t hc hrun
      refine lv_iconst (v := 3) hx hb dL_decided_56 (by decide) ?_
      refine lv_goto (tgt := 85) hx hb dL_decided_57 (by decide) ?_
      obtain rfl := Option.some.inj hrun
      exact hret _ _ _ _ rfl dL_decided_85 hP hD hS
  have c_L6 : ∀ (x2 : Int32) (x3 : Int32) (x4 : Int32) (n : Nat) (x5 : Int32) (x6 : Int32), fL_decided_L6 x2 x3 x4 nn_arr tr_arr n x5 x6 = some r → wAt p l e (rmk 0 0 0 0) s m av below meth c D A 7 0 0 Q 6 [] [(0, .ref nno), (1, .ref tro), (2, .int x2), (3, .int x3), (4, .int x4), (5, .int x5), (6, .int x6)] (wAI5 kI nno nn_arr ++ (wAI64 kI tro tr_arr)) := by
    intro x2 x3 x4 n
    induction n with
    | zero =>
      intro x5 x6 hrun
      rw [fL_decided_L6] at hrun
      cases hrun
    | succ n ih =>
      intro x5 x6 hrun H locs ls hP hD hS hl
      rw [fL_decided_L6] at hrun
      refine lv_iload hx hb dL_decided_6 (lv_at hl 6 rfl) ?_
      refine lv_iconst (v := 1) hx hb dL_decided_8 (by decide) ?_
      refine lv_aload_n hx hb dL_decided_9 rfl (lv_at hl 0 rfl) ?_
      refine lv_iconst (v := 0) hx hb dL_decided_10 (by decide) ?_
      obtain ⟨hin, hrun⟩ := gd_some hrun
      refine va_iald hx hb hK hP 0 0 rfl rfl hin dL_decided_11 ?_
      refine lv_ishl hx hb dL_decided_12 ?_
      refine lv_icmp_ge (tgt := 48) hx hb dL_decided_13 (by decide) (fun hc => ?_) (fun hc => ?_)
      · have hrun := it_t hc hrun
        exact c_J48 x5  hrun _ _ _ hP hD hS (lv_sub hl [5] rfl)
      · have hrun := it_f hc hrun
        refine lv_iload hx hb dL_decided_16 (lv_at hl 6 rfl) ?_
        refine lv_iload_n hx hb dL_decided_18 rfl (lv_at hl 3 rfl) ?_
        refine lv_ixor hx hb dL_decided_19 ?_
        refine lv_iload hx hb dL_decided_20 (lv_at hl 4 rfl) ?_
        refine lv_iand hx hb dL_decided_22 ?_
        refine lv_if_ne (tgt := 42) hx hb dL_decided_23 (by decide) (fun hc => ?_) (fun hc => ?_)
        · have hrun := it_f hc hrun
          exact c_J42 x2 x3 x4 x5 x6 (fL_decided_L6 x2 x3 x4 nn_arr tr_arr n) ih  hrun _ _ _ hP hD hS (lv_sub hl [0, 1, 2, 3, 4, 5, 6] rfl)
        · have hrun := it_t hc hrun
          refine lv_iload hx hb dL_decided_26 (lv_at hl 5 rfl) ?_
          refine lv_iconst (v := 1) hx hb dL_decided_28 (by decide) ?_
          refine lv_aload_n hx hb dL_decided_29 rfl (lv_at hl 1 rfl) ?_
          refine lv_bipush (v := 16) hx hb dL_decided_30 (by decide) ?_
          refine lv_iload_n hx hb dL_decided_32 rfl (lv_at hl 2 rfl) ?_
          refine lv_imul hx hb dL_decided_33 ?_
          refine lv_iload hx hb dL_decided_34 (lv_at hl 6 rfl) ?_
          refine lv_iadd hx hb dL_decided_36 ?_
          obtain ⟨hin, hrun⟩ := gd_some hrun
          refine va_iald hx hb hK hP 1 0 rfl rfl hin dL_decided_37 ?_
          refine lv_ishl hx hb dL_decided_38 ?_
          refine lv_ior hx hb dL_decided_39 ?_
          refine lv_topi (fun v_1 ev_1 => ?_)
          have hrun := lt_some ev_1 hrun
          refine lv_istore (lv' := [(5, .int v_1), (0, .ref nno), (1, .ref tro), (2, .int x2), (3, .int x3), (4, .int x4), (6, .int x6)]) hx hb dL_decided_40 hl (by decide) rfl (fun ls hl => ?_)
          exact c_J42 x2 x3 x4 v_1 x6 (fL_decided_L6 x2 x3 x4 nn_arr tr_arr n) ih  hrun _ _ _ hP hD hS (lv_sub hl [1, 2, 3, 4, 5, 0, 6] rfl)
  unfold fL_decided at hrun
  refine lv_iconst (v := 0) hx hb dL_decided_0 (by decide) ?_
  refine lv_istore (lv' := [(5, .int 0), (0, .ref nno), (1, .ref tro), (2, .int x2), (3, .int x3), (4, .int x4)]) hx hb dL_decided_1 hl (by decide) rfl (fun ls hl => ?_)
  refine lv_iconst (v := 0) hx hb dL_decided_3 (by decide) ?_
  refine lv_istore (lv' := [(6, .int 0), (5, .int 0), (0, .ref nno), (1, .ref tro), (2, .int x2), (3, .int x3), (4, .int x4)]) hx hb dL_decided_4 hl (by decide) rfl (fun ls hl => ?_)
  exact c_L6 x2 x3 x4 5000 0 0  hrun _ _ _ hP hD hS (lv_sub hl [2, 3, 4, 5, 6, 1, 0] rfl)
/-! ===== L_undecided ===== -/
set_option maxHeartbeats 4000000 in
set_option maxRecDepth 100000 in
theorem c_L_undecided (l : Launch) (D : va_G) (kI kJ kS : ClassId) (nno : Nat) (tro : Nat) (x2 : Int32) (nn_arr : (Nat → Int32)) (tr_arr : (Nat → Int32)) {r : Int32} (hrun : fL_undecided nn_arr tr_arr x2 = some r) : cI l D (tyL kI kJ kS) true yL_undecided wsL_undecided (rmk 1 0 0 26) [.ref nno, .ref tro, .int x2] (wAI5 kI nno nn_arr ++ (wAI64 kI tro tr_arr)) (wAI5 kI nno nn_arr ++ (wAI64 kI tro tr_arr)) r := by
  refine cI_of (cc := cL_undecided) (maxL := 6) (by decide) rfl (Nat.le_of_ble_eq_true rfl) ?_
  intro p e s m av below meth c A Q ls hE hP hD hS hl hret
  have hE : ent_ p s m av meth c RL cL_undecided 6 (some .int) wsL_undecided (tyL kI kJ kS) D A true := hE
  obtain ⟨hx, hb, hml, hown, hts, hrt, hlocks, hK, hA, hst⟩ := id hE
  have hl : lv_has ls 6 [(0, .ref nno), (1, .ref tro), (2, .int x2)] := hl
  obtain ⟨⟨⟨tW, hZ, hT⟩, hU1, hU2⟩, hnk⟩ := hst rfl
  have c_J41 : ∀ (x2 : Int32) (x3 : Int32) (x4 : Int32) (x5 : Int32) (k14 : Int32 → Int32 → Option (Int32)) (hk14 : (∀ (x3 : Int32) (x5 : Int32), k14 x3 x5 = some r → wAt p l e (rmk 1 0 0 26) s m av below meth c D A 6 0 0 Q 14 [] [(0, .ref nno), (1, .ref tro), (2, .int x2), (3, .int x3), (4, .int x4), (5, .int x5)] (wAI5 kI nno nn_arr ++ (wAI64 kI tro tr_arr)))), fL_undecided_J41 x2 x3 x4 x5 nn_arr tr_arr k14 = some r → wAt p l e (rmk 1 0 0 26) s m av below meth c D A 6 0 0 Q 41 [] [(0, .ref nno), (1, .ref tro), (2, .int x2), (3, .int x3), (4, .int x4), (5, .int x5)] (wAI5 kI nno nn_arr ++ (wAI64 kI tro tr_arr)) := by
    intro x2 x3 x4 x5 k14 hk14 hrun H locs ls hP hD hS hl
    unfold fL_undecided_J41 at hrun
    refine lv_iinc (v := x5 + 1) (lv' := [(5, .int (x5 + 1)), (0, .ref nno), (1, .ref tro), (2, .int x2), (3, .int x3), (4, .int x4)]) hx hb dL_undecided_41 hl (k := 5) rfl rfl (by decide) rfl (fun ls hl => ?_)
    refine lv_goto (tgt := 14) hx hb dL_undecided_44 (by decide) ?_
    exact hk14 x3 (x5 + 1)  hrun _ _ _ hP hD hS (lv_sub hl [1, 2, 3, 4, 5, 0] rfl)
  have c_J47 : ∀ (x2 : Int32) (x3 : Int32) (x4 : Int32) (k5 : Int32 → Int32 → Option (Int32)) (hk5 : (∀ (x3 : Int32) (x4 : Int32), k5 x3 x4 = some r → wAt p l e (rmk 1 0 0 26) s m av below meth c D A 6 0 0 Q 5 [] [(0, .ref nno), (1, .ref tro), (2, .int x2), (3, .int x3), (4, .int x4)] (wAI5 kI nno nn_arr ++ (wAI64 kI tro tr_arr)))), fL_undecided_J47 x2 x3 x4 nn_arr tr_arr k5 = some r → wAt p l e (rmk 1 0 0 26) s m av below meth c D A 6 0 0 Q 47 [] [(0, .ref nno), (1, .ref tro), (2, .int x2), (3, .int x3), (4, .int x4)] (wAI5 kI nno nn_arr ++ (wAI64 kI tro tr_arr)) := by
    intro x2 x3 x4 k5 hk5 hrun H locs ls hP hD hS hl
    unfold fL_undecided_J47 at hrun
    refine lv_iinc (v := x4 + 1) (lv' := [(4, .int (x4 + 1)), (0, .ref nno), (1, .ref tro), (2, .int x2), (3, .int x3)]) hx hb dL_undecided_47 hl (k := 4) rfl rfl (by decide) rfl (fun ls hl => ?_)
    refine lv_goto (tgt := 5) hx hb dL_undecided_50 (by decide) ?_
    exact hk5 x3 (x4 + 1)  hrun _ _ _ hP hD hS (lv_sub hl [1, 2, 3, 4, 0] rfl)
  have c_L14 : ∀ (x2 : Int32) (x4 : Int32) (k5 : Int32 → Int32 → Option (Int32)) (hk5 : (∀ (x3 : Int32) (x4 : Int32), k5 x3 x4 = some r → wAt p l e (rmk 1 0 0 26) s m av below meth c D A 6 0 0 Q 5 [] [(0, .ref nno), (1, .ref tro), (2, .int x2), (3, .int x3), (4, .int x4)] (wAI5 kI nno nn_arr ++ (wAI64 kI tro tr_arr)))) (n : Nat) (x3 : Int32) (x5 : Int32), fL_undecided_L14 x2 x4 nn_arr tr_arr k5 n x3 x5 = some r → wAt p l e (rmk 1 0 0 26) s m av below meth c D A 6 0 0 Q 14 [] [(0, .ref nno), (1, .ref tro), (2, .int x2), (3, .int x3), (4, .int x4), (5, .int x5)] (wAI5 kI nno nn_arr ++ (wAI64 kI tro tr_arr)) := by
    intro x2 x4 k5 hk5 n
    induction n with
    | zero =>
      intro x3 x5 hrun
      rw [fL_undecided_L14] at hrun
      cases hrun
    | succ n ih =>
      intro x3 x5 hrun H locs ls hP hD hS hl
      rw [fL_undecided_L14] at hrun
      refine lv_iload hx hb dL_undecided_14 (lv_at hl 5 rfl) ?_
      refine lv_iconst (v := 1) hx hb dL_undecided_16 (by decide) ?_
      refine lv_aload_n hx hb dL_undecided_17 rfl (lv_at hl 0 rfl) ?_
      refine lv_iconst (v := 0) hx hb dL_undecided_18 (by decide) ?_
      obtain ⟨hin, hrun⟩ := gd_some hrun
      refine va_iald hx hb hK hP 0 0 rfl rfl hin dL_undecided_19 ?_
      refine lv_ishl hx hb dL_undecided_20 ?_
      refine lv_icmp_ge (tgt := 47) hx hb dL_undecided_21 (by decide) (fun hc => ?_) (fun hc => ?_)
      · have hrun := it_t hc hrun
        exact c_J47 x2 x3 x4 k5 hk5  hrun _ _ _ hP hD hS (lv_sub hl [0, 1, 2, 3, 4] rfl)
      · have hrun := it_f hc hrun
        refine lv_aload_n hx hb dL_undecided_24 rfl (lv_at hl 0 rfl) ?_
        refine lv_aload_n hx hb dL_undecided_25 rfl (lv_at hl 1 rfl) ?_
        refine lv_iload hx hb dL_undecided_26 (lv_at hl 4 rfl) ?_
        refine lv_iload hx hb dL_undecided_28 (lv_at hl 5 rfl) ?_
        refine lv_iload_n hx hb dL_undecided_30 rfl (lv_at hl 2 rfl) ?_
        obtain ⟨q_1, hq_1, hrun⟩ := bd_some hrun
        refine cI_callS (As := [.ref nno, .ref tro, .int x4, .int x5, .int x2]) (rest := []) (wr := []) (wN := (wAI5 kI nno nn_arr ++ (wAI64 kI tro tr_arr))) hE (c_L_decided l D kI kJ kS nno tro x4 x5 x2 nn_arr tr_arr hq_1) (va_cwS 5 hts gL_undecided_L_decided rfl rfl rfl (by decide +kernel) ⟨Nat.le_of_ble_eq_true rfl, Nat.le_of_ble_eq_true rfl⟩) hP hD hS [0, 1] [] [0, 1] rfl rfl rfl rfl (by decide) rfl rfl rfl hl.1 rfl (Nat.le_of_ble_eq_true rfl) dL_undecided_31 ⟨Nat.le_of_ble_eq_true rfl, Nat.le_of_ble_eq_true rfl⟩ (fun H locs hP hD hS => ?_)
        refine lv_iconst (v := 3) hx hb dL_undecided_34 (by decide) ?_
        refine lv_icmp_ne (tgt := 41) hx hb dL_undecided_35 (by decide) (fun hc => ?_) (fun hc => ?_)
        · have hrun := it_f hc hrun
          exact c_J41 x2 x3 x4 x5 (fL_undecided_L14 x2 x4 nn_arr tr_arr k5 n) ih  hrun _ _ _ hP hD hS (lv_sub hl [0, 1, 2, 3, 4, 5] rfl)
        · have hrun := it_t hc hrun
          refine lv_iinc (v := x3 + 1) (lv' := [(3, .int (x3 + 1)), (0, .ref nno), (1, .ref tro), (2, .int x2), (4, .int x4), (5, .int x5)]) hx hb dL_undecided_38 hl (k := 3) rfl rfl (by decide) rfl (fun ls hl => ?_)
          exact c_J41 x2 (x3 + 1) x4 x5 (fL_undecided_L14 x2 x4 nn_arr tr_arr k5 n) ih  hrun _ _ _ hP hD hS (lv_sub hl [1, 2, 3, 0, 4, 5] rfl)
  have c_L5 : ∀ (x2 : Int32) (n : Nat) (x3 : Int32) (x4 : Int32), fL_undecided_L5 x2 nn_arr tr_arr n x3 x4 = some r → wAt p l e (rmk 1 0 0 26) s m av below meth c D A 6 0 0 Q 5 [] [(0, .ref nno), (1, .ref tro), (2, .int x2), (3, .int x3), (4, .int x4)] (wAI5 kI nno nn_arr ++ (wAI64 kI tro tr_arr)) := by
    intro x2 n
    induction n with
    | zero =>
      intro x3 x4 hrun
      rw [fL_undecided_L5] at hrun
      cases hrun
    | succ n ih =>
      intro x3 x4 hrun H locs ls hP hD hS hl
      rw [fL_undecided_L5] at hrun
      refine lv_iload hx hb dL_undecided_5 (lv_at hl 4 rfl) ?_
      refine lv_iconst (v := 4) hx hb dL_undecided_7 (by decide) ?_
      refine lv_icmp_ge (tgt := 53) hx hb dL_undecided_8 (by decide) (fun hc => ?_) (fun hc => ?_)
      · have hrun := it_t hc hrun
        refine lv_iload_n hx hb dL_undecided_53 rfl (lv_at hl 3 rfl) ?_
        obtain rfl := Option.some.inj hrun
        exact hret _ _ _ _ rfl dL_undecided_54 hP hD hS
      · have hrun := it_f hc hrun
        refine lv_iconst (v := 0) hx hb dL_undecided_11 (by decide) ?_
        refine lv_istore (lv' := [(5, .int 0), (0, .ref nno), (1, .ref tro), (2, .int x2), (3, .int x3), (4, .int x4)]) hx hb dL_undecided_12 hl (by decide) rfl (fun ls hl => ?_)
        exact c_L14 x2 x4 (fL_undecided_L5 x2 nn_arr tr_arr n) ih 5000 x3 0  hrun _ _ _ hP hD hS (lv_sub hl [1, 2, 3, 4, 5, 0] rfl)
  unfold fL_undecided at hrun
  refine lv_iconst (v := 0) hx hb dL_undecided_0 (by decide) ?_
  refine lv_istore_n (lv' := [(3, .int 0), (0, .ref nno), (1, .ref tro), (2, .int x2)]) hx hb dL_undecided_1 rfl hl (by decide) rfl (fun ls hl => ?_)
  refine lv_iconst (v := 0) hx hb dL_undecided_2 (by decide) ?_
  refine lv_istore (lv' := [(4, .int 0), (3, .int 0), (0, .ref nno), (1, .ref tro), (2, .int x2)]) hx hb dL_undecided_3 hl (by decide) rfl (fun ls hl => ?_)
  exact c_L5 x2 5000 0 0  hrun _ _ _ hP hD hS (lv_sub hl [2, 3, 4, 1, 0] rfl)
/-! ===== L_rows ===== -/
set_option maxHeartbeats 4000000 in
set_option maxRecDepth 100000 in
theorem c_L_rows (l : Launch) (D : va_G) (kI kJ kS : ClassId) (nno : Nat) (x1 : Int32) (x2 : Int32) (nn_arr : (Nat → Int32)) {r : Int32} (hrun : fL_rows nn_arr x1 x2 = some r) : cI l D (tyL kI kJ kS) true yL_rows wsL_rows (rmk 0 0 0 0) [.ref nno, .int x1, .int x2] (wAI5 kI nno nn_arr) (wAI5 kI nno nn_arr) r := by
  refine cI_of (cc := cL_rows) (maxL := 5) (by decide) rfl (Nat.le_of_ble_eq_true rfl) ?_
  intro p e s m av below meth c A Q ls hE hP hD hS hl hret
  have hE : ent_ p s m av meth c RL cL_rows 5 (some .int) wsL_rows (tyL kI kJ kS) D A true := hE
  obtain ⟨hx, hb, hml, hown, hts, hrt, hlocks, hK, hA, hst⟩ := id hE
  have hl : lv_has ls 5 [(0, .ref nno), (1, .int x1), (2, .int x2)] := hl
  obtain ⟨⟨⟨tW, hZ, hT⟩, hU1, hU2⟩, hnk⟩ := hst rfl
  have c_J30 : ∀ (x1 : Int32) (x2 : Int32) (x3 : Int32) (x4 : Int32) (k5 : Int32 → Int32 → Option (Int32)) (hk5 : (∀ (x3 : Int32) (x4 : Int32), k5 x3 x4 = some r → wAt p l e (rmk 0 0 0 0) s m av below meth c D A 5 0 0 Q 5 [] [(0, .ref nno), (1, .int x1), (2, .int x2), (3, .int x3), (4, .int x4)] (wAI5 kI nno nn_arr))), fL_rows_J30 x1 x2 x3 x4 nn_arr k5 = some r → wAt p l e (rmk 0 0 0 0) s m av below meth c D A 5 0 0 Q 30 [] [(0, .ref nno), (1, .int x1), (2, .int x2), (3, .int x3), (4, .int x4)] (wAI5 kI nno nn_arr) := by
    intro x1 x2 x3 x4 k5 hk5 hrun H locs ls hP hD hS hl
    unfold fL_rows_J30 at hrun
    refine lv_iinc (v := x4 + 1) (lv' := [(4, .int (x4 + 1)), (0, .ref nno), (1, .int x1), (2, .int x2), (3, .int x3)]) hx hb dL_rows_30 hl (k := 4) rfl rfl (by decide) rfl (fun ls hl => ?_)
    refine lv_goto (tgt := 5) hx hb dL_rows_33 (by decide) ?_
    exact hk5 x3 (x4 + 1)  hrun _ _ _ hP hD hS (lv_sub hl [1, 2, 3, 4, 0] rfl)
  have c_L5 : ∀ (x1 : Int32) (x2 : Int32) (n : Nat) (x3 : Int32) (x4 : Int32), fL_rows_L5 x1 x2 nn_arr n x3 x4 = some r → wAt p l e (rmk 0 0 0 0) s m av below meth c D A 5 0 0 Q 5 [] [(0, .ref nno), (1, .int x1), (2, .int x2), (3, .int x3), (4, .int x4)] (wAI5 kI nno nn_arr) := by
    intro x1 x2 n
    induction n with
    | zero =>
      intro x3 x4 hrun
      rw [fL_rows_L5] at hrun
      cases hrun
    | succ n ih =>
      intro x3 x4 hrun H locs ls hP hD hS hl
      rw [fL_rows_L5] at hrun
      refine lv_iload hx hb dL_rows_5 (lv_at hl 4 rfl) ?_
      refine lv_iconst (v := 1) hx hb dL_rows_7 (by decide) ?_
      refine lv_aload_n hx hb dL_rows_8 rfl (lv_at hl 0 rfl) ?_
      refine lv_iconst (v := 0) hx hb dL_rows_9 (by decide) ?_
      obtain ⟨hin, hrun⟩ := gd_some hrun
      refine va_iald hx hb hK hP 0 0 rfl rfl hin dL_rows_10 ?_
      refine lv_ishl hx hb dL_rows_11 ?_
      refine lv_icmp_ge (tgt := 36) hx hb dL_rows_12 (by decide) (fun hc => ?_) (fun hc => ?_)
      · have hrun := it_t hc hrun
        refine lv_iload_n hx hb dL_rows_36 rfl (lv_at hl 3 rfl) ?_
        obtain rfl := Option.some.inj hrun
        exact hret _ _ _ _ rfl dL_rows_37 hP hD hS
      · have hrun := it_f hc hrun
        refine lv_iload hx hb dL_rows_15 (lv_at hl 4 rfl) ?_
        refine lv_iload_n hx hb dL_rows_17 rfl (lv_at hl 1 rfl) ?_
        refine lv_iand hx hb dL_rows_18 ?_
        refine lv_iload_n hx hb dL_rows_19 rfl (lv_at hl 2 rfl) ?_
        refine lv_icmp_ne (tgt := 30) hx hb dL_rows_20 (by decide) (fun hc => ?_) (fun hc => ?_)
        · have hrun := it_f hc hrun
          exact c_J30 x1 x2 x3 x4 (fL_rows_L5 x1 x2 nn_arr n) ih  hrun _ _ _ hP hD hS (lv_sub hl [0, 1, 2, 3, 4] rfl)
        · have hrun := it_t hc hrun
          refine lv_iload_n hx hb dL_rows_23 rfl (lv_at hl 3 rfl) ?_
          refine lv_iconst (v := 1) hx hb dL_rows_24 (by decide) ?_
          refine lv_iload hx hb dL_rows_25 (lv_at hl 4 rfl) ?_
          refine lv_ishl hx hb dL_rows_27 ?_
          refine lv_ior hx hb dL_rows_28 ?_
          refine lv_istore_n (lv' := [(3, .int (x3 ||| ((1 : Int32) <<< (x4 &&& 31)))), (0, .ref nno), (1, .int x1), (2, .int x2), (4, .int x4)]) hx hb dL_rows_29 rfl hl (by decide) rfl (fun ls hl => ?_)
          exact c_J30 x1 x2 (x3 ||| ((1 : Int32) <<< (x4 &&& 31))) x4 (fL_rows_L5 x1 x2 nn_arr n) ih  hrun _ _ _ hP hD hS (lv_sub hl [1, 2, 3, 0, 4] rfl)
  unfold fL_rows at hrun
  refine lv_iconst (v := 0) hx hb dL_rows_0 (by decide) ?_
  refine lv_istore_n (lv' := [(3, .int 0), (0, .ref nno), (1, .int x1), (2, .int x2)]) hx hb dL_rows_1 rfl hl (by decide) rfl (fun ls hl => ?_)
  refine lv_iconst (v := 0) hx hb dL_rows_2 (by decide) ?_
  refine lv_istore (lv' := [(4, .int 0), (3, .int 0), (0, .ref nno), (1, .int x1), (2, .int x2)]) hx hb dL_rows_3 hl (by decide) rfl (fun ls hl => ?_)
  exact c_L5 x1 x2 5000 0 0  hrun _ _ _ hP hD hS (lv_sub hl [2, 3, 4, 1, 0] rfl)
/-! ===== L_those ===== -/
set_option maxHeartbeats 4000000 in
set_option maxRecDepth 100000 in
theorem c_L_those (l : Launch) (D : va_G) (kI kJ kS : ClassId) (nno : Nat) (tro : Nat) (x2 : Int32) (x3 : Int32) (nn_arr : (Nat → Int32)) (tr_arr : (Nat → Int32)) {r : Int32} (hrun : fL_those nn_arr tr_arr x2 x3 = some r) : cI l D (tyL kI kJ kS) true yL_those wsL_those (rmk 1 0 0 26) [.ref nno, .ref tro, .int x2, .int x3] (wAI5 kI nno nn_arr ++ (wAI64 kI tro tr_arr)) (wAI5 kI nno nn_arr ++ (wAI64 kI tro tr_arr)) r := by
  refine cI_of (cc := cL_those) (maxL := 6) (by decide) rfl (Nat.le_of_ble_eq_true rfl) ?_
  intro p e s m av below meth c A Q ls hE hP hD hS hl hret
  have hE : ent_ p s m av meth c RL cL_those 6 (some .int) wsL_those (tyL kI kJ kS) D A true := hE
  obtain ⟨hx, hb, hml, hown, hts, hrt, hlocks, hK, hA, hst⟩ := id hE
  have hl : lv_has ls 6 [(0, .ref nno), (1, .ref tro), (2, .int x2), (3, .int x3)] := hl
  obtain ⟨⟨⟨tW, hZ, hT⟩, hU1, hU2⟩, hnk⟩ := hst rfl
  have c_J40 : ∀ (x2 : Int32) (x3 : Int32) (x4 : Int32) (x5 : Int32) (k6 : Int32 → Int32 → Option (Int32)) (hk6 : (∀ (x4 : Int32) (x5 : Int32), k6 x4 x5 = some r → wAt p l e (rmk 1 0 0 26) s m av below meth c D A 6 0 0 Q 6 [] [(0, .ref nno), (1, .ref tro), (2, .int x2), (3, .int x3), (4, .int x4), (5, .int x5)] (wAI5 kI nno nn_arr ++ (wAI64 kI tro tr_arr)))), fL_those_J40 x2 x3 x4 x5 nn_arr tr_arr k6 = some r → wAt p l e (rmk 1 0 0 26) s m av below meth c D A 6 0 0 Q 40 [] [(0, .ref nno), (1, .ref tro), (2, .int x2), (3, .int x3), (4, .int x4), (5, .int x5)] (wAI5 kI nno nn_arr ++ (wAI64 kI tro tr_arr)) := by
    intro x2 x3 x4 x5 k6 hk6 hrun H locs ls hP hD hS hl
    unfold fL_those_J40 at hrun
    refine lv_iinc (v := x5 + 1) (lv' := [(5, .int (x5 + 1)), (0, .ref nno), (1, .ref tro), (2, .int x2), (3, .int x3), (4, .int x4)]) hx hb dL_those_40 hl (k := 5) rfl rfl (by decide) rfl (fun ls hl => ?_)
    refine lv_goto (tgt := 6) hx hb dL_those_43 (by decide) ?_
    exact hk6 x4 (x5 + 1)  hrun _ _ _ hP hD hS (lv_sub hl [1, 2, 3, 4, 5, 0] rfl)
  have c_L6 : ∀ (x2 : Int32) (x3 : Int32) (n : Nat) (x4 : Int32) (x5 : Int32), fL_those_L6 x2 x3 nn_arr tr_arr n x4 x5 = some r → wAt p l e (rmk 1 0 0 26) s m av below meth c D A 6 0 0 Q 6 [] [(0, .ref nno), (1, .ref tro), (2, .int x2), (3, .int x3), (4, .int x4), (5, .int x5)] (wAI5 kI nno nn_arr ++ (wAI64 kI tro tr_arr)) := by
    intro x2 x3 n
    induction n with
    | zero =>
      intro x4 x5 hrun
      rw [fL_those_L6] at hrun
      cases hrun
    | succ n ih =>
      intro x4 x5 hrun H locs ls hP hD hS hl
      rw [fL_those_L6] at hrun
      refine lv_iload hx hb dL_those_6 (lv_at hl 5 rfl) ?_
      refine lv_iconst (v := 1) hx hb dL_those_8 (by decide) ?_
      refine lv_aload_n hx hb dL_those_9 rfl (lv_at hl 0 rfl) ?_
      refine lv_iconst (v := 0) hx hb dL_those_10 (by decide) ?_
      obtain ⟨hin, hrun⟩ := gd_some hrun
      refine va_iald hx hb hK hP 0 0 rfl rfl hin dL_those_11 ?_
      refine lv_ishl hx hb dL_those_12 ?_
      refine lv_icmp_ge (tgt := 46) hx hb dL_those_13 (by decide) (fun hc => ?_) (fun hc => ?_)
      · have hrun := it_t hc hrun
        refine lv_iload hx hb dL_those_46 (lv_at hl 4 rfl) ?_
        obtain rfl := Option.some.inj hrun
        exact hret _ _ _ _ rfl dL_those_48 hP hD hS
      · have hrun := it_f hc hrun
        refine lv_aload_n hx hb dL_those_16 rfl (lv_at hl 0 rfl) ?_
        refine lv_aload_n hx hb dL_those_17 rfl (lv_at hl 1 rfl) ?_
        refine lv_iload_n hx hb dL_those_18 rfl (lv_at hl 2 rfl) ?_
        refine lv_iload hx hb dL_those_19 (lv_at hl 5 rfl) ?_
        refine lv_aload_n hx hb dL_those_21 rfl (lv_at hl 0 rfl) ?_
        refine lv_iconst (v := 1) hx hb dL_those_22 (by decide) ?_
        obtain ⟨hin, hrun⟩ := gd_some hrun
        refine va_iald hx hb hK hP 0 0 rfl rfl hin dL_those_23 ?_
        obtain ⟨q_1, hq_1, hrun⟩ := bd_some hrun
        refine cI_callS (As := [.ref nno, .ref tro, .int x2, .int x5, .int (nn_arr ((1 : Int32)).toNatClampNeg)]) (rest := []) (wr := []) (wN := (wAI5 kI nno nn_arr ++ (wAI64 kI tro tr_arr))) hE (c_L_decided l D kI kJ kS nno tro x2 x5 (nn_arr ((1 : Int32)).toNatClampNeg) nn_arr tr_arr hq_1) (va_cwS 5 hts gL_those_L_decided rfl rfl rfl (by decide +kernel) ⟨Nat.le_of_ble_eq_true rfl, Nat.le_of_ble_eq_true rfl⟩) hP hD hS [0, 1] [] [0, 1] rfl rfl rfl rfl (by decide) rfl rfl rfl hl.1 rfl (Nat.le_of_ble_eq_true rfl) dL_those_24 ⟨Nat.le_of_ble_eq_true rfl, Nat.le_of_ble_eq_true rfl⟩ (fun H locs hP hD hS => ?_)
        refine lv_iload_n hx hb dL_those_27 rfl (lv_at hl 3 rfl) ?_
        refine lv_icmp_ne (tgt := 40) hx hb dL_those_28 (by decide) (fun hc => ?_) (fun hc => ?_)
        · have hrun := it_f hc hrun
          exact c_J40 x2 x3 x4 x5 (fL_those_L6 x2 x3 nn_arr tr_arr n) ih  hrun _ _ _ hP hD hS (lv_sub hl [0, 1, 2, 3, 4, 5] rfl)
        · have hrun := it_t hc hrun
          refine lv_iload hx hb dL_those_31 (lv_at hl 4 rfl) ?_
          refine lv_iconst (v := 1) hx hb dL_those_33 (by decide) ?_
          refine lv_iload hx hb dL_those_34 (lv_at hl 5 rfl) ?_
          refine lv_ishl hx hb dL_those_36 ?_
          refine lv_ior hx hb dL_those_37 ?_
          refine lv_istore (lv' := [(4, .int (x4 ||| ((1 : Int32) <<< (x5 &&& 31)))), (0, .ref nno), (1, .ref tro), (2, .int x2), (3, .int x3), (5, .int x5)]) hx hb dL_those_38 hl (by decide) rfl (fun ls hl => ?_)
          exact c_J40 x2 x3 (x4 ||| ((1 : Int32) <<< (x5 &&& 31))) x5 (fL_those_L6 x2 x3 nn_arr tr_arr n) ih  hrun _ _ _ hP hD hS (lv_sub hl [1, 2, 3, 4, 0, 5] rfl)
  unfold fL_those at hrun
  refine lv_iconst (v := 0) hx hb dL_those_0 (by decide) ?_
  refine lv_istore (lv' := [(4, .int 0), (0, .ref nno), (1, .ref tro), (2, .int x2), (3, .int x3)]) hx hb dL_those_1 hl (by decide) rfl (fun ls hl => ?_)
  refine lv_iconst (v := 0) hx hb dL_those_3 (by decide) ?_
  refine lv_istore (lv' := [(5, .int 0), (4, .int 0), (0, .ref nno), (1, .ref tro), (2, .int x2), (3, .int x3)]) hx hb dL_those_4 hl (by decide) rfl (fun ls hl => ?_)
  exact c_L6 x2 x3 5000 0 0  hrun _ _ _ hP hD hS (lv_sub hl [2, 3, 4, 5, 1, 0] rfl)
/-! ===== L_prime ===== -/
set_option maxHeartbeats 4000000 in
set_option maxRecDepth 100000 in
theorem c_L_prime (l : Launch) (D : va_G) (kI kJ kS : ClassId) (nno : Nat) (x1 : Int32) (x2 : Int32) (x3 : Int32) (nn_arr : (Nat → Int32)) {r : Int32} (hrun : fL_prime nn_arr x1 x2 x3 = some r) : cI l D (tyL kI kJ kS) true yL_prime wsL_prime (rmk 1 0 0 24) [.ref nno, .int x1, .int x2, .int x3] (wAI5 kI nno nn_arr) (wAI5 kI nno nn_arr) r := by
  refine cI_of (cc := cL_prime) (maxL := 5) (by decide) rfl (Nat.le_of_ble_eq_true rfl) ?_
  intro p e s m av below meth c A Q ls hE hP hD hS hl hret
  have hE : ent_ p s m av meth c RL cL_prime 5 (some .boolean) wsL_prime (tyL kI kJ kS) D A true := hE
  obtain ⟨hx, hb, hml, hown, hts, hrt, hlocks, hK, hA, hst⟩ := id hE
  have hl : lv_has ls 5 [(0, .ref nno), (1, .int x1), (2, .int x2), (3, .int x3)] := hl
  obtain ⟨⟨⟨tW, hZ, hT⟩, hU1, hU2⟩, hnk⟩ := hst rfl
  have c_J61 : ∀ (x1 : Int32) (x2 : Int32) (x3 : Int32) (x4 : Int32) (k16 : Int32 → Option (Int32)) (hk16 : (∀ (x4 : Int32), k16 x4 = some r → wAt p l e (rmk 1 0 0 24) s m av below meth c D A 5 0 0 Q 16 [] [(0, .ref nno), (1, .int x1), (2, .int x2), (3, .int x3), (4, .int x4)] (wAI5 kI nno nn_arr))), fL_prime_J61 x1 x2 x3 x4 nn_arr k16 = some r → wAt p l e (rmk 1 0 0 24) s m av below meth c D A 5 0 0 Q 61 [] [(0, .ref nno), (1, .int x1), (2, .int x2), (3, .int x3), (4, .int x4)] (wAI5 kI nno nn_arr) := by
    intro x1 x2 x3 x4 k16 hk16 hrun H locs ls hP hD hS hl
    unfold fL_prime_J61 at hrun
    refine lv_iinc (v := x4 + 1) (lv' := [(4, .int (x4 + 1)), (0, .ref nno), (1, .int x1), (2, .int x2), (3, .int x3)]) hx hb dL_prime_61 hl (k := 4) rfl rfl (by decide) rfl (fun ls hl => ?_)
    refine lv_goto (tgt := 16) hx hb dL_prime_64 (by decide) ?_
    exact hk16 (x4 + 1)  hrun _ _ _ hP hD hS (lv_sub hl [1, 2, 3, 4, 0] rfl)
  have c_L16 : ∀ (x1 : Int32) (x2 : Int32) (x3 : Int32) (n : Nat) (x4 : Int32), fL_prime_L16 x1 x2 x3 nn_arr n x4 = some r → wAt p l e (rmk 1 0 0 24) s m av below meth c D A 5 0 0 Q 16 [] [(0, .ref nno), (1, .int x1), (2, .int x2), (3, .int x3), (4, .int x4)] (wAI5 kI nno nn_arr) := by
    intro x1 x2 x3 n
    induction n with
    | zero =>
      intro x4 hrun
      rw [fL_prime_L16] at hrun
      cases hrun
    | succ n ih =>
      intro x4 hrun H locs ls hP hD hS hl
      rw [fL_prime_L16] at hrun
      refine lv_iload hx hb dL_prime_16 (lv_at hl 4 rfl) ?_
      refine lv_aload_n hx hb dL_prime_18 rfl (lv_at hl 0 rfl) ?_
      refine lv_iconst (v := 0) hx hb dL_prime_19 (by decide) ?_
      obtain ⟨hin, hrun⟩ := gd_some hrun
      refine va_iald hx hb hK hP 0 0 rfl rfl hin dL_prime_20 ?_
      refine lv_icmp_ge (tgt := 67) hx hb dL_prime_21 (by decide) (fun hc => ?_) (fun hc => ?_)
      · have hrun := it_t hc hrun
        refine lv_iconst (v := 1) hx hb dL_prime_67 (by decide) ?_
        obtain rfl := Option.some.inj hrun
        exact hret _ _ _ _ (show narrow .boolean (.int 1) = .int 1 from rfl) dL_prime_68 hP hD hS
      · have hrun := it_f hc hrun
        refine lv_iload_n hx hb dL_prime_24 rfl (lv_at hl 2 rfl) ?_
        refine lv_iload hx hb dL_prime_25 (lv_at hl 4 rfl) ?_
        refine lv_ishr hx hb dL_prime_27 ?_
        refine lv_iconst (v := 1) hx hb dL_prime_28 (by decide) ?_
        refine lv_iand hx hb dL_prime_29 ?_
        refine lv_iconst (v := 1) hx hb dL_prime_30 (by decide) ?_
        refine lv_icmp_ne (tgt := 61) hx hb dL_prime_31 (by decide) (fun hc => ?_) (fun hc => ?_)
        · have hrun := it_f hc hrun
          exact c_J61 x1 x2 x3 x4 (fL_prime_L16 x1 x2 x3 nn_arr n) ih  hrun _ _ _ hP hD hS (lv_sub hl [0, 1, 2, 3, 4] rfl)
        · have hrun := it_t hc hrun
          refine lv_aload_n hx hb dL_prime_34 rfl (lv_at hl 0 rfl) ?_
          refine lv_iload_n hx hb dL_prime_35 rfl (lv_at hl 2 rfl) ?_
          refine lv_iconst (v := 1) hx hb dL_prime_36 (by decide) ?_
          refine lv_iload hx hb dL_prime_37 (lv_at hl 4 rfl) ?_
          refine lv_ishl hx hb dL_prime_39 ?_
          refine lv_iconst (v := (-1)) hx hb dL_prime_40 (by decide) ?_
          refine lv_ixor hx hb dL_prime_41 ?_
          refine lv_iand hx hb dL_prime_42 ?_
          refine lv_iload_n hx hb dL_prime_43 rfl (lv_at hl 3 rfl) ?_
          refine lv_iconst (v := 1) hx hb dL_prime_44 (by decide) ?_
          refine lv_iload hx hb dL_prime_45 (lv_at hl 4 rfl) ?_
          refine lv_ishl hx hb dL_prime_47 ?_
          refine lv_iconst (v := (-1)) hx hb dL_prime_48 (by decide) ?_
          refine lv_ixor hx hb dL_prime_49 ?_
          refine lv_iand hx hb dL_prime_50 ?_
          obtain ⟨q_1, hq_1, hrun⟩ := bd_some hrun
          refine cI_callS (As := [.ref nno, .int (x2 &&& (((1 : Int32) <<< (x4 &&& 31)) ^^^ ((-1)))), .int (x3 &&& (((1 : Int32) <<< (x4 &&& 31)) ^^^ ((-1))))]) (rest := []) (wr := []) (wN := (wAI5 kI nno nn_arr)) hE (c_L_rows l D kI kJ kS nno (x2 &&& (((1 : Int32) <<< (x4 &&& 31)) ^^^ ((-1)))) (x3 &&& (((1 : Int32) <<< (x4 &&& 31)) ^^^ ((-1)))) nn_arr hq_1) (va_cwS 3 hts gL_prime_L_rows rfl rfl rfl (by decide +kernel) ⟨Nat.le_of_ble_eq_true rfl, Nat.le_of_ble_eq_true rfl⟩) hP hD hS [0] [] [0] rfl rfl rfl rfl (by decide) rfl rfl rfl hl.1 rfl (Nat.le_of_ble_eq_true rfl) dL_prime_51 ⟨Nat.le_of_ble_eq_true rfl, Nat.le_of_ble_eq_true rfl⟩ (fun H locs hP hD hS => ?_)
          refine lv_iload_n hx hb dL_prime_54 rfl (lv_at hl 1 rfl) ?_
          refine lv_iand hx hb dL_prime_55 ?_
          refine lv_if_ne (tgt := 61) hx hb dL_prime_56 (by decide) (fun hc => ?_) (fun hc => ?_)
          · have hrun := it_f hc hrun
            exact c_J61 x1 x2 x3 x4 (fL_prime_L16 x1 x2 x3 nn_arr n) ih  hrun _ _ _ hP hD hS (lv_sub hl [0, 1, 2, 3, 4] rfl)
          · have hrun := it_t hc hrun
            refine lv_iconst (v := 0) hx hb dL_prime_59 (by decide) ?_
            obtain rfl := Option.some.inj hrun
            exact hret _ _ _ _ (show narrow .boolean (.int 0) = .int 0 from rfl) dL_prime_60 hP hD hS
  unfold fL_prime at hrun
  refine lv_aload_n hx hb dL_prime_0 rfl (lv_at hl 0 rfl) ?_
  refine lv_iload_n hx hb dL_prime_1 rfl (lv_at hl 2 rfl) ?_
  refine lv_iload_n hx hb dL_prime_2 rfl (lv_at hl 3 rfl) ?_
  obtain ⟨q_2, hq_2, hrun⟩ := bd_some hrun
  refine cI_callS (As := [.ref nno, .int x2, .int x3]) (rest := []) (wr := []) (wN := (wAI5 kI nno nn_arr)) hE (c_L_rows l D kI kJ kS nno x2 x3 nn_arr hq_2) (va_cwS 3 hts gL_prime_L_rows rfl rfl rfl (by decide +kernel) ⟨Nat.le_of_ble_eq_true rfl, Nat.le_of_ble_eq_true rfl⟩) hP hD hS [0] [] [0] rfl rfl rfl rfl (by decide) rfl rfl rfl hl.1 rfl (Nat.le_of_ble_eq_true rfl) dL_prime_3 ⟨Nat.le_of_ble_eq_true rfl, Nat.le_of_ble_eq_true rfl⟩ (fun H locs hP hD hS => ?_)
  refine lv_iload_n hx hb dL_prime_6 rfl (lv_at hl 1 rfl) ?_
  refine lv_iand hx hb dL_prime_7 ?_
  refine lv_if_eq (tgt := 13) hx hb dL_prime_8 (by decide) (fun hc => ?_) (fun hc => ?_)
  · have hrun := it_t hc hrun
    refine lv_iconst (v := 0) hx hb dL_prime_13 (by decide) ?_
    refine lv_istore (lv' := [(4, .int 0), (0, .ref nno), (1, .int x1), (2, .int x2), (3, .int x3)]) hx hb dL_prime_14 hl (by decide) rfl (fun ls hl => ?_)
    exact c_L16 x1 x2 x3 5000 0  hrun _ _ _ hP hD hS (lv_sub hl [1, 2, 3, 4, 0] rfl)
  · have hrun := it_f hc hrun
    refine lv_iconst (v := 0) hx hb dL_prime_11 (by decide) ?_
    obtain rfl := Option.some.inj hrun
    exact hret _ _ _ _ (show narrow .boolean (.int 0) = .int 0 from rfl) dL_prime_12 hP hD hS
/-! ===== L_primes ===== -/
set_option maxHeartbeats 4000000 in
set_option maxRecDepth 100000 in
theorem c_L_primes (l : Launch) (D : va_G) (kI kJ kS : ClassId) (nno : Nat) (tro : Nat) (x2 : Int32) (nn_arr : (Nat → Int32)) (tr_arr : (Nat → Int32)) {r : Int32} (hrun : fL_primes nn_arr tr_arr x2 = some r) : cI l D (tyL kI kJ kS) true yL_primes wsL_primes (rmk 2 0 0 51) [.ref nno, .ref tro, .int x2] (wAI5 kI nno nn_arr ++ (wAI64 kI tro tr_arr)) (wAI5 kI nno nn_arr ++ (wAI64 kI tro tr_arr)) r := by
  refine cI_of (cc := cL_primes) (maxL := 7) (by decide) rfl (Nat.le_of_ble_eq_true rfl) ?_
  intro p e s m av below meth c A Q ls hE hP hD hS hl hret
  have hE : ent_ p s m av meth c RL cL_primes 7 (some .int) wsL_primes (tyL kI kJ kS) D A true := hE
  obtain ⟨hx, hb, hml, hown, hts, hrt, hlocks, hK, hA, hst⟩ := id hE
  have hl : lv_has ls 7 [(0, .ref nno), (1, .ref tro), (2, .int x2)] := hl
  obtain ⟨⟨⟨tW, hZ, hT⟩, hU1, hU2⟩, hnk⟩ := hst rfl
  have c_J67 : ∀ (x3 : Int32) (x4 : Int32) (x5 : Int32) (x6 : Int32) (k24 : Int32 → Int32 → Option (Int32)) (hk24 : (∀ (x4 : Int32) (x6 : Int32), k24 x4 x6 = some r → wAt p l e (rmk 2 0 0 51) s m av below meth c D A 7 0 0 Q 24 [] [(0, .ref nno), (3, .int x3), (4, .int x4), (5, .int x5), (6, .int x6)] (wAI5 kI nno nn_arr ++ (wAI64 kI tro tr_arr)))), fL_primes_J67 x3 x4 x5 x6 nn_arr k24 = some r → wAt p l e (rmk 2 0 0 51) s m av below meth c D A 7 0 0 Q 67 [] [(0, .ref nno), (3, .int x3), (4, .int x4), (5, .int x5), (6, .int x6)] (wAI5 kI nno nn_arr ++ (wAI64 kI tro tr_arr)) := by
    intro x3 x4 x5 x6 k24 hk24 hrun H locs ls hP hD hS hl
    unfold fL_primes_J67 at hrun
    refine lv_iinc (v := x6 + 1) (lv' := [(6, .int (x6 + 1)), (0, .ref nno), (3, .int x3), (4, .int x4), (5, .int x5)]) hx hb dL_primes_67 hl (k := 4) rfl rfl (by decide) rfl (fun ls hl => ?_)
    refine lv_goto (tgt := 24) hx hb dL_primes_70 (by decide) ?_
    exact hk24 x4 (x6 + 1)  hrun _ _ _ hP hD hS (lv_sub hl [1, 2, 3, 4, 0] rfl)
  have c_J73 : ∀ (x3 : Int32) (x4 : Int32) (x5 : Int32) (k14 : Int32 → Int32 → Option (Int32)) (hk14 : (∀ (x4 : Int32) (x5 : Int32), k14 x4 x5 = some r → wAt p l e (rmk 2 0 0 51) s m av below meth c D A 7 0 0 Q 14 [] [(0, .ref nno), (3, .int x3), (4, .int x4), (5, .int x5)] (wAI5 kI nno nn_arr ++ (wAI64 kI tro tr_arr)))), fL_primes_J73 x3 x4 x5 nn_arr k14 = some r → wAt p l e (rmk 2 0 0 51) s m av below meth c D A 7 0 0 Q 73 [] [(0, .ref nno), (3, .int x3), (4, .int x4), (5, .int x5)] (wAI5 kI nno nn_arr ++ (wAI64 kI tro tr_arr)) := by
    intro x3 x4 x5 k14 hk14 hrun H locs ls hP hD hS hl
    unfold fL_primes_J73 at hrun
    refine lv_iinc (v := x5 + 1) (lv' := [(5, .int (x5 + 1)), (0, .ref nno), (3, .int x3), (4, .int x4)]) hx hb dL_primes_73 hl (k := 3) rfl rfl (by decide) rfl (fun ls hl => ?_)
    refine lv_goto (tgt := 14) hx hb dL_primes_76 (by decide) ?_
    exact hk14 x4 (x5 + 1)  hrun _ _ _ hP hD hS (lv_sub hl [1, 2, 3, 0] rfl)
  have c_L24 : ∀ (x3 : Int32) (x5 : Int32) (k14 : Int32 → Int32 → Option (Int32)) (hk14 : (∀ (x4 : Int32) (x5 : Int32), k14 x4 x5 = some r → wAt p l e (rmk 2 0 0 51) s m av below meth c D A 7 0 0 Q 14 [] [(0, .ref nno), (3, .int x3), (4, .int x4), (5, .int x5)] (wAI5 kI nno nn_arr ++ (wAI64 kI tro tr_arr)))) (n : Nat) (x4 : Int32) (x6 : Int32), fL_primes_L24 x3 x5 nn_arr k14 n x4 x6 = some r → wAt p l e (rmk 2 0 0 51) s m av below meth c D A 7 0 0 Q 24 [] [(0, .ref nno), (3, .int x3), (4, .int x4), (5, .int x5), (6, .int x6)] (wAI5 kI nno nn_arr ++ (wAI64 kI tro tr_arr)) := by
    intro x3 x5 k14 hk14 n
    induction n with
    | zero =>
      intro x4 x6 hrun
      rw [fL_primes_L24] at hrun
      cases hrun
    | succ n ih =>
      intro x4 x6 hrun H locs ls hP hD hS hl
      rw [fL_primes_L24] at hrun
      refine lv_iload hx hb dL_primes_24 (lv_at hl 4 rfl) ?_
      refine lv_bipush (v := 16) hx hb dL_primes_26 (by decide) ?_
      refine lv_icmp_ge (tgt := 73) hx hb dL_primes_28 (by decide) (fun hc => ?_) (fun hc => ?_)
      · have hrun := it_t hc hrun
        exact c_J73 x3 x4 x5 k14 hk14  hrun _ _ _ hP hD hS (lv_sub hl [0, 1, 2, 3] rfl)
      · have hrun := it_f hc hrun
        refine lv_iload hx hb dL_primes_31 (lv_at hl 3 rfl) ?_
        refine lv_aload_n hx hb dL_primes_33 rfl (lv_at hl 0 rfl) ?_
        refine lv_iconst (v := 1) hx hb dL_primes_34 (by decide) ?_
        obtain ⟨hin, hrun⟩ := gd_some hrun
        refine va_iald hx hb hK hP 0 0 rfl rfl hin dL_primes_35 ?_
        refine lv_iconst (v := (-1)) hx hb dL_primes_36 (by decide) ?_
        refine lv_ixor hx hb dL_primes_37 ?_
        refine lv_iand hx hb dL_primes_38 ?_
        refine lv_if_ne (tgt := 67) hx hb dL_primes_39 (by decide) (fun hc => ?_) (fun hc => ?_)
        · have hrun := it_f hc hrun
          exact c_J67 x3 x4 x5 x6 (fL_primes_L24 x3 x5 nn_arr k14 n) ih  hrun _ _ _ hP hD hS (lv_sub hl [0, 1, 2, 3, 4] rfl)
        · have hrun := it_t hc hrun
          refine lv_iload hx hb dL_primes_42 (lv_at hl 4 rfl) ?_
          refine lv_iload hx hb dL_primes_44 (lv_at hl 3 rfl) ?_
          refine lv_iconst (v := (-1)) hx hb dL_primes_46 (by decide) ?_
          refine lv_ixor hx hb dL_primes_47 ?_
          refine lv_iand hx hb dL_primes_48 ?_
          refine lv_if_ne (tgt := 67) hx hb dL_primes_49 (by decide) (fun hc => ?_) (fun hc => ?_)
          · have hrun := it_f hc hrun
            exact c_J67 x3 x4 x5 x6 (fL_primes_L24 x3 x5 nn_arr k14 n) ih  hrun _ _ _ hP hD hS (lv_sub hl [0, 1, 2, 3, 4] rfl)
          · have hrun := it_t hc hrun
            refine lv_aload_n hx hb dL_primes_52 rfl (lv_at hl 0 rfl) ?_
            refine lv_iload_n hx hb dL_primes_53 rfl (lv_at hl 1 rfl) ?_
            refine lv_iload hx hb dL_primes_54 (lv_at hl 3 rfl) ?_
            refine lv_iload hx hb dL_primes_56 (lv_at hl 4 rfl) ?_
            obtain ⟨q_1, hq_1, hrun⟩ := bd_some hrun
            refine cI_callS (As := [.ref nno, .int x3, .int x5, .int x6]) (rest := []) (wr := (wAI64 kI tro tr_arr)) (wN := (wAI5 kI nno nn_arr ++ (wAI64 kI tro tr_arr))) hE (c_L_prime l D kI kJ kS nno x3 x5 x6 nn_arr hq_1) (va_cwS 4 hts gL_primes_L_prime rfl rfl rfl (by decide +kernel) ⟨Nat.le_of_ble_eq_true rfl, Nat.le_of_ble_eq_true rfl⟩) hP hD hS [0] [1] [1, 0] rfl rfl rfl rfl (by decide) rfl rfl rfl hl.1 rfl (Nat.le_of_ble_eq_true rfl) dL_primes_58 ⟨Nat.le_of_ble_eq_true rfl, Nat.le_of_ble_eq_true rfl⟩ (fun H locs hP hD hS => ?_)
            refine lv_if_eq (tgt := 67) hx hb dL_primes_61 (by decide) (fun hc => ?_) (fun hc => ?_)
            · have hrun := it_t hc hrun
              exact c_J67 x3 x4 x5 x6 (fL_primes_L24 x3 x5 nn_arr k14 n) ih  hrun _ _ _ hP hD hS (lv_sub hl [0, 1, 2, 3, 4] rfl)
            · have hrun := it_f hc hrun
              refine lv_iinc (v := x4 + 1) (lv' := [(4, .int (x4 + 1)), (0, .ref nno), (3, .int x3), (5, .int x5), (6, .int x6)]) hx hb dL_primes_64 hl (k := 2) rfl rfl (by decide) rfl (fun ls hl => ?_)
              exact c_J67 x3 (x4 + 1) x5 x6 (fL_primes_L24 x3 x5 nn_arr k14 n) ih  hrun _ _ _ hP hD hS (lv_sub hl [1, 2, 0, 3, 4] rfl)
  have c_L14 : ∀ (x3 : Int32) (n : Nat) (x4 : Int32) (x5 : Int32), fL_primes_L14 x3 nn_arr n x4 x5 = some r → wAt p l e (rmk 2 0 0 51) s m av below meth c D A 7 0 0 Q 14 [] [(0, .ref nno), (3, .int x3), (4, .int x4), (5, .int x5)] (wAI5 kI nno nn_arr ++ (wAI64 kI tro tr_arr)) := by
    intro x3 n
    induction n with
    | zero =>
      intro x4 x5 hrun
      rw [fL_primes_L14] at hrun
      cases hrun
    | succ n ih =>
      intro x4 x5 hrun H locs ls hP hD hS hl
      rw [fL_primes_L14] at hrun
      refine lv_iload hx hb dL_primes_14 (lv_at hl 3 rfl) ?_
      refine lv_bipush (v := 16) hx hb dL_primes_16 (by decide) ?_
      refine lv_icmp_ge (tgt := 79) hx hb dL_primes_18 (by decide) (fun hc => ?_) (fun hc => ?_)
      · have hrun := it_t hc hrun
        refine lv_iload hx hb dL_primes_79 (lv_at hl 2 rfl) ?_
        obtain rfl := Option.some.inj hrun
        exact hret _ _ _ _ rfl dL_primes_81 hP hD hS
      · have hrun := it_f hc hrun
        refine lv_iconst (v := 0) hx hb dL_primes_21 (by decide) ?_
        refine lv_istore (lv' := [(6, .int 0), (0, .ref nno), (3, .int x3), (4, .int x4), (5, .int x5)]) hx hb dL_primes_22 hl (by decide) rfl (fun ls hl => ?_)
        exact c_L24 x3 x5 (fL_primes_L14 x3 nn_arr n) ih 5000 x4 0  hrun _ _ _ hP hD hS (lv_sub hl [1, 2, 3, 4, 0] rfl)
  unfold fL_primes at hrun
  refine lv_aload_n hx hb dL_primes_0 rfl (lv_at hl 0 rfl) ?_
  refine lv_aload_n hx hb dL_primes_1 rfl (lv_at hl 1 rfl) ?_
  refine lv_iload_n hx hb dL_primes_2 rfl (lv_at hl 2 rfl) ?_
  refine lv_iconst (v := 0) hx hb dL_primes_3 (by decide) ?_
  obtain ⟨q_2, hq_2, hrun⟩ := bd_some hrun
  refine cI_callS (As := [.ref nno, .ref tro, .int x2, .int 0]) (rest := []) (wr := []) (wN := (wAI5 kI nno nn_arr ++ (wAI64 kI tro tr_arr))) hE (c_L_those l D kI kJ kS nno tro x2 0 nn_arr tr_arr hq_2) (va_cwS 4 hts gL_primes_L_those rfl rfl rfl (by decide +kernel) ⟨Nat.le_of_ble_eq_true rfl, Nat.le_of_ble_eq_true rfl⟩) hP hD hS [0, 1] [] [0, 1] rfl rfl rfl rfl (by decide) rfl rfl rfl hl.1 rfl (Nat.le_of_ble_eq_true rfl) dL_primes_4 ⟨Nat.le_of_ble_eq_true rfl, Nat.le_of_ble_eq_true rfl⟩ (fun H locs hP hD hS => ?_)
  refine lv_istore_n (lv' := [(3, .int q_2), (0, .ref nno), (1, .ref tro), (2, .int x2)]) hx hb dL_primes_7 rfl hl (by decide) rfl (fun ls hl => ?_)
  refine lv_iconst (v := 0) hx hb dL_primes_8 (by decide) ?_
  refine lv_istore (lv' := [(4, .int 0), (3, .int q_2), (0, .ref nno), (1, .ref tro), (2, .int x2)]) hx hb dL_primes_9 hl (by decide) rfl (fun ls hl => ?_)
  refine lv_iconst (v := 0) hx hb dL_primes_11 (by decide) ?_
  refine lv_istore (lv' := [(5, .int 0), (4, .int 0), (3, .int q_2), (0, .ref nno), (1, .ref tro), (2, .int x2)]) hx hb dL_primes_12 hl (by decide) rfl (fun ls hl => ?_)
  exact c_L14 q_2 5000 0 0  hrun _ _ _ hP hD hS (lv_sub hl [3, 2, 1, 0] rfl)
/-! ===== L_cover ===== -/
set_option maxHeartbeats 4000000 in
set_option maxRecDepth 100000 in
theorem c_L_cover (l : Launch) (D : va_G) (kI kJ kS : ClassId) (nno : Nat) (tro : Nat) (coo : Nat) (cso : Nat) (x4 : Int32) (nn_arr : (Nat → Int32)) (tr_arr : (Nat → Int32)) (co_arr : (Nat → Int32)) (cs_arr : (Nat → Int32)) {r : (Nat → Int32) × (Nat → Int32)} (hrun : fL_cover nn_arr tr_arr co_arr cs_arr x4 = some r) : cV l D (tyL kI kJ kS) true yL_cover wsL_cover (rmk 2 0 0 51) [.ref nno, .ref tro, .ref coo, .ref cso, .int x4] (wAI5 kI nno nn_arr ++ (wAI64 kI tro tr_arr ++ (wAI64 kI coo co_arr ++ (wAI4 kI cso cs_arr)))) (wAI5 kI nno nn_arr ++ (wAI64 kI tro tr_arr ++ (wAI64 kI coo r.1 ++ (wAI4 kI cso r.2)))) := by
  refine cV_of (cc := cL_cover) (maxL := 12) (by decide) rfl (Nat.le_of_ble_eq_true rfl) ?_
  intro p e s m av below meth c A Q ls hE hP hD hS hl hret
  have hE : ent_ p s m av meth c RL cL_cover 12 none wsL_cover (tyL kI kJ kS) D A true := hE
  obtain ⟨hx, hb, hml, hown, hts, hrt, hlocks, hK, hA, hst⟩ := id hE
  have hl : lv_has ls 12 [(0, .ref nno), (1, .ref tro), (2, .ref coo), (3, .ref cso), (4, .int x4)] := hl
  obtain ⟨⟨⟨tW, hZ, hT⟩, hU1, hU2⟩, hnk⟩ := hst rfl
  have c_J153 : ∀ (x4 : Int32) (x5 : Int32) (x6 : Int32) (x7 : Int32) (x8 : Int32) (x9 : Int32) (x10 : Int32) (co_arr : (Nat → Int32)) (cs_arr : (Nat → Int32)) (k49 : Int32 → Int32 → Int32 → Option ((Nat → Int32) × (Nat → Int32))) (hk49 : (∀ (x7 : Int32) (x8 : Int32) (x10 : Int32), k49 x7 x8 x10 = some r → wAt p l e (rmk 2 0 0 51) s m av below meth c D A 12 0 0 Q 49 [] [(0, .ref nno), (2, .ref coo), (3, .ref cso), (4, .int x4), (5, .int x5), (6, .int x6), (7, .int x7), (8, .int x8), (9, .int x9), (10, .int x10)] (wAI5 kI nno nn_arr ++ (wAI64 kI tro tr_arr ++ (wAI64 kI coo co_arr ++ (wAI4 kI cso cs_arr)))))), fL_cover_J153 x4 x5 x6 x7 x8 x9 x10 nn_arr co_arr cs_arr k49 = some r → wAt p l e (rmk 2 0 0 51) s m av below meth c D A 12 0 0 Q 153 [] [(0, .ref nno), (2, .ref coo), (3, .ref cso), (4, .int x4), (5, .int x5), (6, .int x6), (7, .int x7), (8, .int x8), (9, .int x9), (10, .int x10)] (wAI5 kI nno nn_arr ++ (wAI64 kI tro tr_arr ++ (wAI64 kI coo co_arr ++ (wAI4 kI cso cs_arr)))) := by
    intro x4 x5 x6 x7 x8 x9 x10 co_arr cs_arr k49 hk49 hrun H locs ls hP hD hS hl
    unfold fL_cover_J153 at hrun
    refine lv_iinc (v := x10 + (-1)) (lv' := [(10, .int (x10 + (-1))), (0, .ref nno), (2, .ref coo), (3, .ref cso), (4, .int x4), (5, .int x5), (6, .int x6), (7, .int x7), (8, .int x8), (9, .int x9)]) hx hb dL_cover_153 hl (k := 9) rfl rfl (by decide) rfl (fun ls hl => ?_)
    refine lv_goto (tgt := 49) hx hb dL_cover_156 (by decide) ?_
    exact hk49 x7 x8 (x10 + (-1))  hrun _ _ _ hP hD hS (lv_sub hl [1, 2, 3, 4, 5, 6, 7, 8, 9, 0] rfl)
  have c_J139 : ∀ (x4 : Int32) (x5 : Int32) (x6 : Int32) (x9 : Int32) (x10 : Int32) (x11 : Int32) (co_arr : (Nat → Int32)) (cs_arr : (Nat → Int32)) (k49 : Int32 → Int32 → Int32 → Option ((Nat → Int32) × (Nat → Int32))) (hk49 : (∀ (x7 : Int32) (x8 : Int32) (x10 : Int32), k49 x7 x8 x10 = some r → wAt p l e (rmk 2 0 0 51) s m av below meth c D A 12 0 0 Q 49 [] [(0, .ref nno), (2, .ref coo), (3, .ref cso), (4, .int x4), (5, .int x5), (6, .int x6), (7, .int x7), (8, .int x8), (9, .int x9), (10, .int x10)] (wAI5 kI nno nn_arr ++ (wAI64 kI tro tr_arr ++ (wAI64 kI coo co_arr ++ (wAI4 kI cso cs_arr)))))), fL_cover_J139 x4 x5 x6 x9 x10 x11 nn_arr co_arr cs_arr k49 = some r → wAt p l e (rmk 2 0 0 51) s m av below meth c D A 12 0 0 Q 139 [] [(0, .ref nno), (2, .ref coo), (3, .ref cso), (4, .int x4), (5, .int x5), (6, .int x6), (9, .int x9), (10, .int x10), (11, .int x11)] (wAI5 kI nno nn_arr ++ (wAI64 kI tro tr_arr ++ (wAI64 kI coo co_arr ++ (wAI4 kI cso cs_arr)))) := by
    intro x4 x5 x6 x9 x10 x11 co_arr cs_arr k49 hk49 hrun H locs ls hP hD hS hl
    unfold fL_cover_J139 at hrun
    refine lv_bipush (v := 64) hx hb dL_cover_139 (by decide) ?_
    refine lv_iload hx hb dL_cover_141 (lv_at hl 6 rfl) ?_
    refine lv_imul hx hb dL_cover_143 ?_
    refine lv_iload hx hb dL_cover_144 (lv_at hl 7 rfl) ?_
    refine lv_iadd hx hb dL_cover_146 ?_
    refine lv_istore (lv' := [(7, .int ((64 * x9) + x10)), (0, .ref nno), (2, .ref coo), (3, .ref cso), (4, .int x4), (5, .int x5), (6, .int x6), (9, .int x9), (10, .int x10), (11, .int x11)]) hx hb dL_cover_147 hl (by decide) rfl (fun ls hl => ?_)
    refine lv_iload hx hb dL_cover_149 (lv_at hl 9 rfl) ?_
    refine lv_istore (lv' := [(8, .int x11), (7, .int ((64 * x9) + x10)), (0, .ref nno), (2, .ref coo), (3, .ref cso), (4, .int x4), (5, .int x5), (6, .int x6), (9, .int x9), (10, .int x10), (11, .int x11)]) hx hb dL_cover_151 hl (by decide) rfl (fun ls hl => ?_)
    exact c_J153 x4 x5 x6 ((64 * x9) + x10) x11 x9 x10 co_arr cs_arr k49 hk49  hrun _ _ _ hP hD hS (lv_sub hl [2, 3, 4, 5, 6, 7, 1, 0, 8, 9] rfl)
  have c_J159 : ∀ (x4 : Int32) (x5 : Int32) (x6 : Int32) (x7 : Int32) (x8 : Int32) (x9 : Int32) (co_arr : (Nat → Int32)) (cs_arr : (Nat → Int32)) (k40 : Int32 → Int32 → Int32 → Option ((Nat → Int32) × (Nat → Int32))) (hk40 : (∀ (x7 : Int32) (x8 : Int32) (x9 : Int32), k40 x7 x8 x9 = some r → wAt p l e (rmk 2 0 0 51) s m av below meth c D A 12 0 0 Q 40 [] [(0, .ref nno), (2, .ref coo), (3, .ref cso), (4, .int x4), (5, .int x5), (6, .int x6), (7, .int x7), (8, .int x8), (9, .int x9)] (wAI5 kI nno nn_arr ++ (wAI64 kI tro tr_arr ++ (wAI64 kI coo co_arr ++ (wAI4 kI cso cs_arr)))))), fL_cover_J159 x4 x5 x6 x7 x8 x9 nn_arr co_arr cs_arr k40 = some r → wAt p l e (rmk 2 0 0 51) s m av below meth c D A 12 0 0 Q 159 [] [(0, .ref nno), (2, .ref coo), (3, .ref cso), (4, .int x4), (5, .int x5), (6, .int x6), (7, .int x7), (8, .int x8), (9, .int x9)] (wAI5 kI nno nn_arr ++ (wAI64 kI tro tr_arr ++ (wAI64 kI coo co_arr ++ (wAI4 kI cso cs_arr)))) := by
    intro x4 x5 x6 x7 x8 x9 co_arr cs_arr k40 hk40 hrun H locs ls hP hD hS hl
    unfold fL_cover_J159 at hrun
    refine lv_iinc (v := x9 + (-1)) (lv' := [(9, .int (x9 + (-1))), (0, .ref nno), (2, .ref coo), (3, .ref cso), (4, .int x4), (5, .int x5), (6, .int x6), (7, .int x7), (8, .int x8)]) hx hb dL_cover_159 hl (k := 8) rfl rfl (by decide) rfl (fun ls hl => ?_)
    refine lv_goto (tgt := 40) hx hb dL_cover_162 (by decide) ?_
    exact hk40 x7 x8 (x9 + (-1))  hrun _ _ _ hP hD hS (lv_sub hl [1, 2, 3, 4, 5, 6, 7, 8, 0] rfl)
  have c_L49 : ∀ (x4 : Int32) (x5 : Int32) (x6 : Int32) (x9 : Int32) (co_arr : (Nat → Int32)) (cs_arr : (Nat → Int32)) (k40 : Int32 → Int32 → Int32 → Option ((Nat → Int32) × (Nat → Int32))) (hk40 : (∀ (x7 : Int32) (x8 : Int32) (x9 : Int32), k40 x7 x8 x9 = some r → wAt p l e (rmk 2 0 0 51) s m av below meth c D A 12 0 0 Q 40 [] [(0, .ref nno), (2, .ref coo), (3, .ref cso), (4, .int x4), (5, .int x5), (6, .int x6), (7, .int x7), (8, .int x8), (9, .int x9)] (wAI5 kI nno nn_arr ++ (wAI64 kI tro tr_arr ++ (wAI64 kI coo co_arr ++ (wAI4 kI cso cs_arr)))))) (n : Nat) (x7 : Int32) (x8 : Int32) (x10 : Int32), fL_cover_L49 x4 x5 x6 x9 nn_arr co_arr cs_arr k40 n x7 x8 x10 = some r → wAt p l e (rmk 2 0 0 51) s m av below meth c D A 12 0 0 Q 49 [] [(0, .ref nno), (2, .ref coo), (3, .ref cso), (4, .int x4), (5, .int x5), (6, .int x6), (7, .int x7), (8, .int x8), (9, .int x9), (10, .int x10)] (wAI5 kI nno nn_arr ++ (wAI64 kI tro tr_arr ++ (wAI64 kI coo co_arr ++ (wAI4 kI cso cs_arr)))) := by
    intro x4 x5 x6 x9 co_arr cs_arr k40 hk40 n
    induction n with
    | zero =>
      intro x7 x8 x10 hrun
      rw [fL_cover_L49] at hrun
      cases hrun
    | succ n ih =>
      intro x7 x8 x10 hrun H locs ls hP hD hS hl
      rw [fL_cover_L49] at hrun
      refine lv_iload hx hb dL_cover_49 (lv_at hl 9 rfl) ?_
      refine lv_if_lt (tgt := 159) hx hb dL_cover_51 (by decide) (fun hc => ?_) (fun hc => ?_)
      · have hrun := it_t hc hrun
        exact c_J159 x4 x5 x6 x7 x8 x9 co_arr cs_arr k40 hk40  hrun _ _ _ hP hD hS (lv_sub hl [0, 1, 2, 3, 4, 5, 6, 7, 8] rfl)
      · have hrun := it_f hc hrun
        refine lv_iload hx hb dL_cover_54 (lv_at hl 8 rfl) ?_
        refine lv_aload_n hx hb dL_cover_56 rfl (lv_at hl 0 rfl) ?_
        refine lv_iconst (v := 1) hx hb dL_cover_57 (by decide) ?_
        obtain ⟨hin, hrun⟩ := gd_some hrun
        refine va_iald hx hb hK hP 0 0 rfl rfl hin dL_cover_58 ?_
        refine lv_iconst (v := (-1)) hx hb dL_cover_59 (by decide) ?_
        refine lv_ixor hx hb dL_cover_60 ?_
        refine lv_iand hx hb dL_cover_61 ?_
        refine lv_if_ne (tgt := 153) hx hb dL_cover_62 (by decide) (fun hc => ?_) (fun hc => ?_)
        · have hrun := it_f hc hrun
          exact c_J153 x4 x5 x6 x7 x8 x9 x10 co_arr cs_arr (fL_cover_L49 x4 x5 x6 x9 nn_arr co_arr cs_arr k40 n) ih  hrun _ _ _ hP hD hS (lv_sub hl [0, 1, 2, 3, 4, 5, 6, 7, 8, 9] rfl)
        · have hrun := it_t hc hrun
          refine lv_iload hx hb dL_cover_65 (lv_at hl 9 rfl) ?_
          refine lv_iload hx hb dL_cover_67 (lv_at hl 8 rfl) ?_
          refine lv_iconst (v := (-1)) hx hb dL_cover_69 (by decide) ?_
          refine lv_ixor hx hb dL_cover_70 ?_
          refine lv_iand hx hb dL_cover_71 ?_
          refine lv_if_ne (tgt := 153) hx hb dL_cover_72 (by decide) (fun hc => ?_) (fun hc => ?_)
          · have hrun := it_f hc hrun
            exact c_J153 x4 x5 x6 x7 x8 x9 x10 co_arr cs_arr (fL_cover_L49 x4 x5 x6 x9 nn_arr co_arr cs_arr k40 n) ih  hrun _ _ _ hP hD hS (lv_sub hl [0, 1, 2, 3, 4, 5, 6, 7, 8, 9] rfl)
          · have hrun := it_t hc hrun
            refine lv_aload_n hx hb dL_cover_75 rfl (lv_at hl 0 rfl) ?_
            refine lv_iload hx hb dL_cover_76 (lv_at hl 4 rfl) ?_
            refine lv_iload hx hb dL_cover_78 (lv_at hl 8 rfl) ?_
            refine lv_iload hx hb dL_cover_80 (lv_at hl 9 rfl) ?_
            obtain ⟨q_1, hq_1, hrun⟩ := bd_some hrun
            refine cI_callS (As := [.ref nno, .int x5, .int x9, .int x10]) (rest := []) (wr := (wAI64 kI tro tr_arr ++ (wAI64 kI coo co_arr ++ (wAI4 kI cso cs_arr)))) (wN := (wAI5 kI nno nn_arr ++ (wAI64 kI tro tr_arr ++ (wAI64 kI coo co_arr ++ (wAI4 kI cso cs_arr))))) hE (c_L_prime l D kI kJ kS nno x5 x9 x10 nn_arr hq_1) (va_cwS 4 hts gL_cover_L_prime rfl rfl rfl (by decide +kernel) ⟨Nat.le_of_ble_eq_true rfl, Nat.le_of_ble_eq_true rfl⟩) hP hD hS [0] [1, 2, 3] [3, 0, 1, 2] rfl rfl rfl rfl (by decide) rfl rfl rfl hl.1 rfl (Nat.le_of_ble_eq_true rfl) dL_cover_82 ⟨Nat.le_of_ble_eq_true rfl, Nat.le_of_ble_eq_true rfl⟩ (fun H locs hP hD hS => ?_)
            refine lv_if_eq (tgt := 153) hx hb dL_cover_85 (by decide) (fun hc => ?_) (fun hc => ?_)
            · have hrun := it_t hc hrun
              exact c_J153 x4 x5 x6 x7 x8 x9 x10 co_arr cs_arr (fL_cover_L49 x4 x5 x6 x9 nn_arr co_arr cs_arr k40 n) ih  hrun _ _ _ hP hD hS (lv_sub hl [0, 1, 2, 3, 4, 5, 6, 7, 8, 9] rfl)
            · have hrun := it_f hc hrun
              refine lv_aload_n hx hb dL_cover_88 rfl (lv_at hl 0 rfl) ?_
              refine lv_iload hx hb dL_cover_89 (lv_at hl 8 rfl) ?_
              refine lv_iload hx hb dL_cover_91 (lv_at hl 9 rfl) ?_
              obtain ⟨q_2, hq_2, hrun⟩ := bd_some hrun
              refine cI_callS (As := [.ref nno, .int x9, .int x10]) (rest := []) (wr := (wAI64 kI tro tr_arr ++ (wAI64 kI coo co_arr ++ (wAI4 kI cso cs_arr)))) (wN := (wAI5 kI nno nn_arr ++ (wAI64 kI tro tr_arr ++ (wAI64 kI coo co_arr ++ (wAI4 kI cso cs_arr))))) hE (c_L_rows l D kI kJ kS nno x9 x10 nn_arr hq_2) (va_cwS 3 hts gL_cover_L_rows rfl rfl rfl (by decide +kernel) ⟨Nat.le_of_ble_eq_true rfl, Nat.le_of_ble_eq_true rfl⟩) hP hD hS [0] [1, 2, 3] [3, 0, 1, 2] rfl rfl rfl rfl (by decide) rfl rfl rfl hl.1 rfl (Nat.le_of_ble_eq_true rfl) dL_cover_93 ⟨Nat.le_of_ble_eq_true rfl, Nat.le_of_ble_eq_true rfl⟩ (fun H locs hP hD hS => ?_)
              refine lv_iload hx hb dL_cover_96 (lv_at hl 5 rfl) ?_
              refine lv_iand hx hb dL_cover_98 ?_
              obtain ⟨q_3, hq_3, hrun⟩ := bd_some hrun
              refine cI_callS (As := [.int (q_2 &&& x6)]) (rest := []) (wr := (wAI5 kI nno nn_arr ++ (wAI64 kI tro tr_arr ++ (wAI64 kI coo co_arr ++ (wAI4 kI cso cs_arr))))) (wN := (wAI5 kI nno nn_arr ++ (wAI64 kI tro tr_arr ++ (wAI64 kI coo co_arr ++ (wAI4 kI cso cs_arr))))) hE (c_L_ones l D kI kJ kS (q_2 &&& x6)  hq_3) (va_cwS 1 hts gL_cover_L_ones rfl rfl rfl (by decide +kernel) ⟨Nat.le_of_ble_eq_true rfl, Nat.le_of_ble_eq_true rfl⟩) hP hD hS [] [0, 1, 2, 3] [0, 1, 2, 3] rfl rfl rfl rfl (by decide) rfl rfl rfl hl.1 rfl (Nat.le_of_ble_eq_true rfl) dL_cover_99 ⟨Nat.le_of_ble_eq_true rfl, Nat.le_of_ble_eq_true rfl⟩ (fun H locs hP hD hS => ?_)
              refine lv_istore (lv' := [(11, .int q_3), (0, .ref nno), (2, .ref coo), (3, .ref cso), (4, .int x4), (5, .int x5), (6, .int x6), (7, .int x7), (8, .int x8), (9, .int x9), (10, .int x10)]) hx hb dL_cover_102 hl (by decide) rfl (fun ls hl => ?_)
              refine lv_iload hx hb dL_cover_104 (lv_at hl 0 rfl) ?_
              refine lv_iload hx hb dL_cover_106 (lv_at hl 8 rfl) ?_
              refine lv_icmp_gt (tgt := 139) hx hb dL_cover_108 (by decide) (fun hc => ?_) (fun hc => ?_)
              · have hrun := it_t hc hrun
                exact c_J139 x4 x5 x6 x9 x10 q_3 co_arr cs_arr (fL_cover_L49 x4 x5 x6 x9 nn_arr co_arr cs_arr k40 n) ih  hrun _ _ _ hP hD hS (lv_sub hl [1, 2, 3, 4, 5, 6, 9, 10, 0] rfl)
              · have hrun := it_f hc hrun
                refine lv_iload hx hb dL_cover_111 (lv_at hl 0 rfl) ?_
                refine lv_iload hx hb dL_cover_113 (lv_at hl 8 rfl) ?_
                refine lv_icmp_ne (tgt := 153) hx hb dL_cover_115 (by decide) (fun hc => ?_) (fun hc => ?_)
                · have hrun := it_f hc hrun
                  exact c_J153 x4 x5 x6 x7 x8 x9 x10 co_arr cs_arr (fL_cover_L49 x4 x5 x6 x9 nn_arr co_arr cs_arr k40 n) ih  hrun _ _ _ hP hD hS (lv_sub hl [1, 2, 3, 4, 5, 6, 7, 8, 9, 10] rfl)
                · have hrun := it_t hc hrun
                  refine lv_iload hx hb dL_cover_118 (lv_at hl 0 rfl) ?_
                  refine lv_if_le (tgt := 153) hx hb dL_cover_120 (by decide) (fun hc => ?_) (fun hc => ?_)
                  · have hrun := it_t hc hrun
                    exact c_J153 x4 x5 x6 x7 x8 x9 x10 co_arr cs_arr (fL_cover_L49 x4 x5 x6 x9 nn_arr co_arr cs_arr k40 n) ih  hrun _ _ _ hP hD hS (lv_sub hl [1, 2, 3, 4, 5, 6, 7, 8, 9, 10] rfl)
                  · have hrun := it_f hc hrun
                    refine lv_iload hx hb dL_cover_123 (lv_at hl 9 rfl) ?_
                    obtain ⟨q_4, hq_4, hrun⟩ := bd_some hrun
                    refine cI_callS (As := [.int x9]) (rest := []) (wr := (wAI5 kI nno nn_arr ++ (wAI64 kI tro tr_arr ++ (wAI64 kI coo co_arr ++ (wAI4 kI cso cs_arr))))) (wN := (wAI5 kI nno nn_arr ++ (wAI64 kI tro tr_arr ++ (wAI64 kI coo co_arr ++ (wAI4 kI cso cs_arr))))) hE (c_L_ones l D kI kJ kS x9  hq_4) (va_cwS 1 hts gL_cover_L_ones rfl rfl rfl (by decide +kernel) ⟨Nat.le_of_ble_eq_true rfl, Nat.le_of_ble_eq_true rfl⟩) hP hD hS [] [0, 1, 2, 3] [0, 1, 2, 3] rfl rfl rfl rfl (by decide) rfl rfl rfl hl.1 rfl (Nat.le_of_ble_eq_true rfl) dL_cover_125 ⟨Nat.le_of_ble_eq_true rfl, Nat.le_of_ble_eq_true rfl⟩ (fun H locs hP hD hS => ?_)
                    refine lv_iload hx hb dL_cover_128 (lv_at hl 7 rfl) ?_
                    refine lv_bipush (v := 64) hx hb dL_cover_130 (by decide) ?_
                    refine lv_idiv hx hb dL_cover_132 (by decide) ?_
                    obtain ⟨q_5, hq_5, hrun⟩ := bd_some hrun
                    refine cI_callS (As := [.int (x7 / 64)]) (rest := [.int q_4]) (wr := (wAI5 kI nno nn_arr ++ (wAI64 kI tro tr_arr ++ (wAI64 kI coo co_arr ++ (wAI4 kI cso cs_arr))))) (wN := (wAI5 kI nno nn_arr ++ (wAI64 kI tro tr_arr ++ (wAI64 kI coo co_arr ++ (wAI4 kI cso cs_arr))))) hE (c_L_ones l D kI kJ kS (x7 / 64)  hq_5) (va_cwS 1 hts gL_cover_L_ones rfl rfl rfl (by decide +kernel) ⟨Nat.le_of_ble_eq_true rfl, Nat.le_of_ble_eq_true rfl⟩) hP hD hS [] [0, 1, 2, 3] [0, 1, 2, 3] rfl rfl rfl rfl (by decide) rfl rfl rfl hl.1 rfl (Nat.le_of_ble_eq_true rfl) dL_cover_133 ⟨Nat.le_of_ble_eq_true rfl, Nat.le_of_ble_eq_true rfl⟩ (fun H locs hP hD hS => ?_)
                    refine lv_icmp_gt (tgt := 153) hx hb dL_cover_136 (by decide) (fun hc => ?_) (fun hc => ?_)
                    · have hrun := it_t hc hrun
                      exact c_J153 x4 x5 x6 x7 x8 x9 x10 co_arr cs_arr (fL_cover_L49 x4 x5 x6 x9 nn_arr co_arr cs_arr k40 n) ih  hrun _ _ _ hP hD hS (lv_sub hl [1, 2, 3, 4, 5, 6, 7, 8, 9, 10] rfl)
                    · have hrun := it_f hc hrun
                      exact c_J139 x4 x5 x6 x9 x10 q_3 co_arr cs_arr (fL_cover_L49 x4 x5 x6 x9 nn_arr co_arr cs_arr k40 n) ih  hrun _ _ _ hP hD hS (lv_sub hl [1, 2, 3, 4, 5, 6, 9, 10, 0] rfl)
  have c_J165 : ∀ (x4 : Int32) (x5 : Int32) (x6 : Int32) (x7 : Int32) (co_arr : (Nat → Int32)) (cs_arr : (Nat → Int32)) (k25 : Int32 → (Nat → Int32) → (Nat → Int32) → Option ((Nat → Int32) × (Nat → Int32))) (hk25 : (∀ (x6 : Int32) (co_arr : (Nat → Int32)) (cs_arr : (Nat → Int32)), k25 x6 co_arr cs_arr = some r → wAt p l e (rmk 2 0 0 51) s m av below meth c D A 12 0 0 Q 25 [] [(0, .ref nno), (2, .ref coo), (3, .ref cso), (4, .int x4), (5, .int x5), (6, .int x6)] (wAI5 kI nno nn_arr ++ (wAI64 kI tro tr_arr ++ (wAI64 kI coo co_arr ++ (wAI4 kI cso cs_arr)))))), fL_cover_J165 x4 x5 x6 x7 nn_arr co_arr cs_arr k25 = some r → wAt p l e (rmk 2 0 0 51) s m av below meth c D A 12 0 0 Q 165 [] [(0, .ref nno), (2, .ref coo), (3, .ref cso), (4, .int x4), (5, .int x5), (6, .int x6), (7, .int x7)] (wAI5 kI nno nn_arr ++ (wAI64 kI tro tr_arr ++ (wAI64 kI coo co_arr ++ (wAI4 kI cso cs_arr)))) := by
    intro x4 x5 x6 x7 co_arr cs_arr k25 hk25 hrun H locs ls hP hD hS hl
    unfold fL_cover_J165 at hrun
    refine lv_aload_n hx hb dL_cover_165 rfl (lv_at hl 1 rfl) ?_
    refine lv_bipush (v := 16) hx hb dL_cover_166 (by decide) ?_
    refine lv_iload hx hb dL_cover_168 (lv_at hl 3 rfl) ?_
    refine lv_imul hx hb dL_cover_170 ?_
    refine lv_aload_n hx hb dL_cover_171 rfl (lv_at hl 2 rfl) ?_
    refine lv_iload hx hb dL_cover_172 (lv_at hl 3 rfl) ?_
    obtain ⟨hin, hrun⟩ := gd_some hrun
    refine va_iald hx hb hK hP 3 0 rfl rfl hin dL_cover_174 ?_
    refine lv_iadd hx hb dL_cover_175 ?_
    refine lv_iload hx hb dL_cover_176 (lv_at hl 6 rfl) ?_
    obtain ⟨hin, hrun⟩ := gd_some hrun
    refine va_iast hx hb hK hP hD hS 2 0 rfl rfl hin dL_cover_178 (fun H locs hP hD hS => ?_)
    have hP : va_P D vwCl (wAI5 kI nno nn_arr ++ (wAI64 kI tro tr_arr ++ (wAI64 kI coo (upd co_arr ((16 * x4) + (cs_arr x4.toNatClampNeg)).toNatClampNeg x7) ++ (wAI4 kI cso cs_arr)))) H := hP
    have hD : va_D A (wAI5 kI nno nn_arr ++ (wAI64 kI tro tr_arr ++ (wAI64 kI coo (upd co_arr ((16 * x4) + (cs_arr x4.toNatClampNeg)).toNatClampNeg x7) ++ (wAI4 kI cso cs_arr)))) := hD
    obtain ⟨u_6, eu_6⟩ : ∃ y, y = upd co_arr ((16 * x4) + (cs_arr x4.toNatClampNeg)).toNatClampNeg x7 := ⟨_, rfl⟩
    have hrun := lt_some eu_6 hrun
    rw [← eu_6] at hP hD
    refine lv_aload_n hx hb dL_cover_179 rfl (lv_at hl 2 rfl) ?_
    refine lv_iload hx hb dL_cover_180 (lv_at hl 3 rfl) ?_
    refine lv_dup2_11 hx hb dL_cover_182 rfl rfl ?_
    obtain ⟨hin, hrun⟩ := gd_some hrun
    refine va_iald hx hb hK hP 3 0 rfl rfl hin dL_cover_183 ?_
    refine lv_iconst (v := 1) hx hb dL_cover_184 (by decide) ?_
    refine lv_iadd hx hb dL_cover_185 ?_
    obtain ⟨hin, hrun⟩ := gd_some hrun
    refine va_iast hx hb hK hP hD hS 3 0 rfl rfl hin dL_cover_186 (fun H locs hP hD hS => ?_)
    have hP : va_P D vwCl (wAI5 kI nno nn_arr ++ (wAI64 kI tro tr_arr ++ (wAI64 kI coo u_6 ++ (wAI4 kI cso (upd cs_arr x4.toNatClampNeg ((cs_arr x4.toNatClampNeg) + 1)))))) H := hP
    have hD : va_D A (wAI5 kI nno nn_arr ++ (wAI64 kI tro tr_arr ++ (wAI64 kI coo u_6 ++ (wAI4 kI cso (upd cs_arr x4.toNatClampNeg ((cs_arr x4.toNatClampNeg) + 1)))))) := hD
    refine lv_iload hx hb dL_cover_187 (lv_at hl 5 rfl) ?_
    refine lv_aload_n hx hb dL_cover_189 rfl (lv_at hl 0 rfl) ?_
    refine lv_iload hx hb dL_cover_190 (lv_at hl 6 rfl) ?_
    refine lv_bipush (v := 64) hx hb dL_cover_192 (by decide) ?_
    refine lv_idiv hx hb dL_cover_194 (by decide) ?_
    refine lv_iload hx hb dL_cover_195 (lv_at hl 6 rfl) ?_
    refine lv_bipush (v := 64) hx hb dL_cover_197 (by decide) ?_
    refine lv_irem hx hb dL_cover_199 (by decide) ?_
    obtain ⟨q_7, hq_7, hrun⟩ := bd_some hrun
    refine cI_callS (As := [.ref nno, .int (x7 / 64), .int (x7 - x7 / 64 * 64)]) (rest := [.int x6]) (wr := (wAI64 kI tro tr_arr ++ (wAI64 kI coo u_6 ++ (wAI4 kI cso (upd cs_arr x4.toNatClampNeg ((cs_arr x4.toNatClampNeg) + 1)))))) (wN := (wAI5 kI nno nn_arr ++ (wAI64 kI tro tr_arr ++ (wAI64 kI coo u_6 ++ (wAI4 kI cso (upd cs_arr x4.toNatClampNeg ((cs_arr x4.toNatClampNeg) + 1))))))) hE (c_L_rows l D kI kJ kS nno (x7 / 64) (x7 - x7 / 64 * 64) nn_arr hq_7) (va_cwS 3 hts gL_cover_L_rows rfl rfl rfl (by decide +kernel) ⟨Nat.le_of_ble_eq_true rfl, Nat.le_of_ble_eq_true rfl⟩) hP hD hS [0] [1, 2, 3] [3, 0, 1, 2] rfl rfl rfl rfl (by decide) rfl rfl rfl hl.1 rfl (Nat.le_of_ble_eq_true rfl) dL_cover_200 ⟨Nat.le_of_ble_eq_true rfl, Nat.le_of_ble_eq_true rfl⟩ (fun H locs hP hD hS => ?_)
    refine lv_iconst (v := (-1)) hx hb dL_cover_203 (by decide) ?_
    refine lv_ixor hx hb dL_cover_204 ?_
    refine lv_iand hx hb dL_cover_205 ?_
    refine lv_istore (lv' := [(6, .int (x6 &&& (q_7 ^^^ ((-1))))), (0, .ref nno), (2, .ref coo), (3, .ref cso), (4, .int x4), (5, .int x5), (7, .int x7)]) hx hb dL_cover_206 hl (by decide) rfl (fun ls hl => ?_)
    refine lv_goto (tgt := 25) hx hb dL_cover_208 (by decide) ?_
    exact hk25 (x6 &&& (q_7 ^^^ ((-1)))) u_6 (upd cs_arr x4.toNatClampNeg ((cs_arr x4.toNatClampNeg) + 1))  hrun _ _ _ hP hD hS (lv_sub hl [1, 2, 3, 4, 5, 0] rfl)
  have c_L40 : ∀ (x4 : Int32) (x5 : Int32) (x6 : Int32) (co_arr : (Nat → Int32)) (cs_arr : (Nat → Int32)) (k25 : Int32 → (Nat → Int32) → (Nat → Int32) → Option ((Nat → Int32) × (Nat → Int32))) (hk25 : (∀ (x6 : Int32) (co_arr : (Nat → Int32)) (cs_arr : (Nat → Int32)), k25 x6 co_arr cs_arr = some r → wAt p l e (rmk 2 0 0 51) s m av below meth c D A 12 0 0 Q 25 [] [(0, .ref nno), (2, .ref coo), (3, .ref cso), (4, .int x4), (5, .int x5), (6, .int x6)] (wAI5 kI nno nn_arr ++ (wAI64 kI tro tr_arr ++ (wAI64 kI coo co_arr ++ (wAI4 kI cso cs_arr)))))) (n : Nat) (x7 : Int32) (x8 : Int32) (x9 : Int32), fL_cover_L40 x4 x5 x6 nn_arr co_arr cs_arr k25 n x7 x8 x9 = some r → wAt p l e (rmk 2 0 0 51) s m av below meth c D A 12 0 0 Q 40 [] [(0, .ref nno), (2, .ref coo), (3, .ref cso), (4, .int x4), (5, .int x5), (6, .int x6), (7, .int x7), (8, .int x8), (9, .int x9)] (wAI5 kI nno nn_arr ++ (wAI64 kI tro tr_arr ++ (wAI64 kI coo co_arr ++ (wAI4 kI cso cs_arr)))) := by
    intro x4 x5 x6 co_arr cs_arr k25 hk25 n
    induction n with
    | zero =>
      intro x7 x8 x9 hrun
      rw [fL_cover_L40] at hrun
      cases hrun
    | succ n ih =>
      intro x7 x8 x9 hrun H locs ls hP hD hS hl
      rw [fL_cover_L40] at hrun
      refine lv_iload hx hb dL_cover_40 (lv_at hl 8 rfl) ?_
      refine lv_if_lt (tgt := 165) hx hb dL_cover_42 (by decide) (fun hc => ?_) (fun hc => ?_)
      · have hrun := it_t hc hrun
        exact c_J165 x4 x5 x6 x7 co_arr cs_arr k25 hk25  hrun _ _ _ hP hD hS (lv_sub hl [0, 1, 2, 3, 4, 5, 6] rfl)
      · have hrun := it_f hc hrun
        refine lv_bipush (v := 15) hx hb dL_cover_45 (by decide) ?_
        refine lv_istore (lv' := [(10, .int 15), (0, .ref nno), (2, .ref coo), (3, .ref cso), (4, .int x4), (5, .int x5), (6, .int x6), (7, .int x7), (8, .int x8), (9, .int x9)]) hx hb dL_cover_47 hl (by decide) rfl (fun ls hl => ?_)
        exact c_L49 x4 x5 x6 x9 co_arr cs_arr (fL_cover_L40 x4 x5 x6 nn_arr co_arr cs_arr k25 n) ih 5000 x7 x8 15  hrun _ _ _ hP hD hS (lv_sub hl [1, 2, 3, 4, 5, 6, 7, 8, 9, 0] rfl)
  have c_L25 : ∀ (x4 : Int32) (x5 : Int32) (n : Nat) (x6 : Int32) (co_arr : (Nat → Int32)) (cs_arr : (Nat → Int32)), fL_cover_L25 x4 x5 nn_arr n x6 co_arr cs_arr = some r → wAt p l e (rmk 2 0 0 51) s m av below meth c D A 12 0 0 Q 25 [] [(0, .ref nno), (2, .ref coo), (3, .ref cso), (4, .int x4), (5, .int x5), (6, .int x6)] (wAI5 kI nno nn_arr ++ (wAI64 kI tro tr_arr ++ (wAI64 kI coo co_arr ++ (wAI4 kI cso cs_arr)))) := by
    intro x4 x5 n
    induction n with
    | zero =>
      intro x6 co_arr cs_arr hrun
      rw [fL_cover_L25] at hrun
      cases hrun
    | succ n ih =>
      intro x6 co_arr cs_arr hrun H locs ls hP hD hS hl
      rw [fL_cover_L25] at hrun
      refine lv_iload hx hb dL_cover_25 (lv_at hl 5 rfl) ?_
      refine lv_if_eq (tgt := 211) hx hb dL_cover_27 (by decide) (fun hc => ?_) (fun hc => ?_)
      · have hrun := it_t hc hrun
        obtain rfl := Option.some.inj hrun
        exact hret _ _ _ _ dL_cover_211 hP hD hS
      · have hrun := it_f hc hrun
        refine lv_iconst (v := (-1)) hx hb dL_cover_30 (by decide) ?_
        refine lv_istore (lv' := [(7, .int ((-1))), (0, .ref nno), (2, .ref coo), (3, .ref cso), (4, .int x4), (5, .int x5), (6, .int x6)]) hx hb dL_cover_31 hl (by decide) rfl (fun ls hl => ?_)
        refine lv_iconst (v := 0) hx hb dL_cover_33 (by decide) ?_
        refine lv_istore (lv' := [(8, .int 0), (7, .int ((-1))), (0, .ref nno), (2, .ref coo), (3, .ref cso), (4, .int x4), (5, .int x5), (6, .int x6)]) hx hb dL_cover_34 hl (by decide) rfl (fun ls hl => ?_)
        refine lv_bipush (v := 15) hx hb dL_cover_36 (by decide) ?_
        refine lv_istore (lv' := [(9, .int 15), (8, .int 0), (7, .int ((-1))), (0, .ref nno), (2, .ref coo), (3, .ref cso), (4, .int x4), (5, .int x5), (6, .int x6)]) hx hb dL_cover_38 hl (by decide) rfl (fun ls hl => ?_)
        exact c_L40 x4 x5 x6 co_arr cs_arr (fL_cover_L25 x4 x5 nn_arr n) ih 5000 ((-1)) 0 15  hrun _ _ _ hP hD hS (lv_sub hl [3, 4, 5, 6, 7, 8, 2, 1, 0] rfl)
  unfold fL_cover at hrun
  refine lv_aload_n hx hb dL_cover_0 rfl (lv_at hl 0 rfl) ?_
  refine lv_aload_n hx hb dL_cover_1 rfl (lv_at hl 1 rfl) ?_
  refine lv_iload hx hb dL_cover_2 (lv_at hl 4 rfl) ?_
  refine lv_iconst (v := 0) hx hb dL_cover_4 (by decide) ?_
  obtain ⟨q_8, hq_8, hrun⟩ := bd_some hrun
  refine cI_callS (As := [.ref nno, .ref tro, .int x4, .int 0]) (rest := []) (wr := (wAI64 kI coo co_arr ++ (wAI4 kI cso cs_arr))) (wN := (wAI5 kI nno nn_arr ++ (wAI64 kI tro tr_arr ++ (wAI64 kI coo co_arr ++ (wAI4 kI cso cs_arr))))) hE (c_L_those l D kI kJ kS nno tro x4 0 nn_arr tr_arr hq_8) (va_cwS 4 hts gL_cover_L_those rfl rfl rfl (by decide +kernel) ⟨Nat.le_of_ble_eq_true rfl, Nat.le_of_ble_eq_true rfl⟩) hP hD hS [0, 1] [2, 3] [2, 3, 0, 1] rfl rfl rfl rfl (by decide) rfl rfl rfl hl.1 rfl (Nat.le_of_ble_eq_true rfl) dL_cover_5 ⟨Nat.le_of_ble_eq_true rfl, Nat.le_of_ble_eq_true rfl⟩ (fun H locs hP hD hS => ?_)
  refine lv_istore (lv' := [(5, .int q_8), (0, .ref nno), (1, .ref tro), (2, .ref coo), (3, .ref cso), (4, .int x4)]) hx hb dL_cover_8 hl (by decide) rfl (fun ls hl => ?_)
  refine lv_aload_n hx hb dL_cover_10 rfl (lv_at hl 1 rfl) ?_
  refine lv_aload_n hx hb dL_cover_11 rfl (lv_at hl 2 rfl) ?_
  refine lv_iload hx hb dL_cover_12 (lv_at hl 5 rfl) ?_
  refine lv_iconst (v := 1) hx hb dL_cover_14 (by decide) ?_
  obtain ⟨q_9, hq_9, hrun⟩ := bd_some hrun
  refine cI_callS (As := [.ref nno, .ref tro, .int x4, .int 1]) (rest := []) (wr := (wAI64 kI coo co_arr ++ (wAI4 kI cso cs_arr))) (wN := (wAI5 kI nno nn_arr ++ (wAI64 kI tro tr_arr ++ (wAI64 kI coo co_arr ++ (wAI4 kI cso cs_arr))))) hE (c_L_those l D kI kJ kS nno tro x4 1 nn_arr tr_arr hq_9) (va_cwS 4 hts gL_cover_L_those rfl rfl rfl (by decide +kernel) ⟨Nat.le_of_ble_eq_true rfl, Nat.le_of_ble_eq_true rfl⟩) hP hD hS [0, 1] [2, 3] [2, 3, 0, 1] rfl rfl rfl rfl (by decide) rfl rfl rfl hl.1 rfl (Nat.le_of_ble_eq_true rfl) dL_cover_15 ⟨Nat.le_of_ble_eq_true rfl, Nat.le_of_ble_eq_true rfl⟩ (fun H locs hP hD hS => ?_)
  refine lv_istore (lv' := [(6, .int q_9), (5, .int q_8), (0, .ref nno), (1, .ref tro), (2, .ref coo), (3, .ref cso), (4, .int x4)]) hx hb dL_cover_18 hl (by decide) rfl (fun ls hl => ?_)
  refine lv_aload_n hx hb dL_cover_20 rfl (lv_at hl 5 rfl) ?_
  refine lv_iload hx hb dL_cover_21 (lv_at hl 6 rfl) ?_
  refine lv_iconst (v := 0) hx hb dL_cover_23 (by decide) ?_
  obtain ⟨hin, hrun⟩ := gd_some hrun
  refine va_iast hx hb hK hP hD hS 3 0 rfl rfl hin dL_cover_24 (fun H locs hP hD hS => ?_)
  have hP : va_P D vwCl (wAI5 kI nno nn_arr ++ (wAI64 kI tro tr_arr ++ (wAI64 kI coo co_arr ++ (wAI4 kI cso (upd cs_arr x4.toNatClampNeg 0))))) H := hP
  have hD : va_D A (wAI5 kI nno nn_arr ++ (wAI64 kI tro tr_arr ++ (wAI64 kI coo co_arr ++ (wAI4 kI cso (upd cs_arr x4.toNatClampNeg 0))))) := hD
  exact c_L25 x4 q_8 5000 q_9 co_arr (upd cs_arr x4.toNatClampNeg 0)  hrun _ _ _ hP hD hS (lv_sub hl [2, 4, 5, 6, 1, 0] rfl)
/-! ===== L_answer ===== -/
set_option maxHeartbeats 4000000 in
set_option maxRecDepth 100000 in
theorem c_L_answer (l : Launch) (D : va_G) (kI kJ kS : ClassId) (coo : Nat) (cso : Nat) (x2 : Int32) (x3 : Int32) (co_arr : (Nat → Int32)) (cs_arr : (Nat → Int32)) {r : Int32} (hrun : fL_answer co_arr cs_arr x2 x3 = some r) : cI l D (tyL kI kJ kS) true yL_answer wsL_answer (rmk 0 0 0 0) [.ref coo, .ref cso, .int x2, .int x3] (wAI64 kI coo co_arr ++ (wAI4 kI cso cs_arr)) (wAI64 kI coo co_arr ++ (wAI4 kI cso cs_arr)) r := by
  refine cI_of (cc := cL_answer) (maxL := 5) (by decide) rfl (Nat.le_of_ble_eq_true rfl) ?_
  intro p e s m av below meth c A Q ls hE hP hD hS hl hret
  have hE : ent_ p s m av meth c RL cL_answer 5 (some .int) wsL_answer (tyL kI kJ kS) D A true := hE
  obtain ⟨hx, hb, hml, hown, hts, hrt, hlocks, hK, hA, hst⟩ := id hE
  have hl : lv_has ls 5 [(0, .ref coo), (1, .ref cso), (2, .int x2), (3, .int x3)] := hl
  obtain ⟨⟨⟨tW, hZ, hT⟩, hU1, hU2⟩, hnk⟩ := hst rfl
  have c_L3 : ∀ (x2 : Int32) (x3 : Int32) (n : Nat) (x4 : Int32), fL_answer_L3 x2 x3 co_arr cs_arr n x4 = some r → wAt p l e (rmk 0 0 0 0) s m av below meth c D A 5 0 0 Q 3 [] [(0, .ref coo), (1, .ref cso), (2, .int x2), (3, .int x3), (4, .int x4)] (wAI64 kI coo co_arr ++ (wAI4 kI cso cs_arr)) := by
    intro x2 x3 n
    induction n with
    | zero =>
      intro x4 hrun
      rw [fL_answer_L3] at hrun
      cases hrun
    | succ n ih =>
      intro x4 hrun H locs ls hP hD hS hl
      rw [fL_answer_L3] at hrun
      refine lv_iload hx hb dL_answer_3 (lv_at hl 4 rfl) ?_
      refine lv_aload_n hx hb dL_answer_5 rfl (lv_at hl 1 rfl) ?_
      refine lv_iload_n hx hb dL_answer_6 rfl (lv_at hl 2 rfl) ?_
      obtain ⟨hin, hrun⟩ := gd_some hrun
      refine va_iald hx hb hK hP 1 0 rfl rfl hin dL_answer_7 ?_
      refine lv_icmp_ge (tgt := 48) hx hb dL_answer_8 (by decide) (fun hc => ?_) (fun hc => ?_)
      · have hrun := it_t hc hrun
        refine lv_iconst (v := 0) hx hb dL_answer_48 (by decide) ?_
        obtain rfl := Option.some.inj hrun
        exact hret _ _ _ _ rfl dL_answer_49 hP hD hS
      · have hrun := it_f hc hrun
        refine lv_iload_n hx hb dL_answer_11 rfl (lv_at hl 3 rfl) ?_
        refine lv_aload_n hx hb dL_answer_12 rfl (lv_at hl 0 rfl) ?_
        refine lv_bipush (v := 16) hx hb dL_answer_13 (by decide) ?_
        refine lv_iload_n hx hb dL_answer_15 rfl (lv_at hl 2 rfl) ?_
        refine lv_imul hx hb dL_answer_16 ?_
        refine lv_iload hx hb dL_answer_17 (lv_at hl 4 rfl) ?_
        refine lv_iadd hx hb dL_answer_19 ?_
        obtain ⟨hin, hrun⟩ := gd_some hrun
        refine va_iald hx hb hK hP 0 0 rfl rfl hin dL_answer_20 ?_
        refine lv_bipush (v := 64) hx hb dL_answer_21 (by decide) ?_
        refine lv_idiv hx hb dL_answer_23 (by decide) ?_
        refine lv_iand hx hb dL_answer_24 ?_
        refine lv_aload_n hx hb dL_answer_25 rfl (lv_at hl 0 rfl) ?_
        refine lv_bipush (v := 16) hx hb dL_answer_26 (by decide) ?_
        refine lv_iload_n hx hb dL_answer_28 rfl (lv_at hl 2 rfl) ?_
        refine lv_imul hx hb dL_answer_29 ?_
        refine lv_iload hx hb dL_answer_30 (lv_at hl 4 rfl) ?_
        refine lv_iadd hx hb dL_answer_32 ?_
        obtain ⟨hin, hrun⟩ := gd_some hrun
        refine va_iald hx hb hK hP 0 0 rfl rfl hin dL_answer_33 ?_
        refine lv_bipush (v := 64) hx hb dL_answer_34 (by decide) ?_
        refine lv_irem hx hb dL_answer_36 (by decide) ?_
        refine lv_icmp_ne (tgt := 42) hx hb dL_answer_37 (by decide) (fun hc => ?_) (fun hc => ?_)
        · have hrun := it_f hc hrun
          refine lv_iinc (v := x4 + 1) (lv' := [(4, .int (x4 + 1)), (0, .ref coo), (1, .ref cso), (2, .int x2), (3, .int x3)]) hx hb dL_answer_42 hl (k := 4) rfl rfl (by decide) rfl (fun ls hl => ?_)
          refine lv_goto (tgt := 3) hx hb dL_answer_45 (by decide) ?_
          exact ih (x4 + 1)  hrun _ _ _ hP hD hS (lv_sub hl [1, 2, 3, 4, 0] rfl)
        · have hrun := it_t hc hrun
          refine lv_iconst (v := 1) hx hb dL_answer_40 (by decide) ?_
          obtain rfl := Option.some.inj hrun
          exact hret _ _ _ _ rfl dL_answer_41 hP hD hS
  unfold fL_answer at hrun
  refine lv_iconst (v := 0) hx hb dL_answer_0 (by decide) ?_
  refine lv_istore (lv' := [(4, .int 0), (0, .ref coo), (1, .ref cso), (2, .int x2), (3, .int x3)]) hx hb dL_answer_1 hl (by decide) rfl (fun ls hl => ?_)
  exact c_L3 x2 x3 5000 0  hrun _ _ _ hP hD hS (lv_sub hl [1, 2, 3, 4, 0] rfl)
