/-! ===== the saved states: a tail of the world that a method may lengthen ===== -/
def svW (kI kJ : ClassId) (o : Nat) (a : Nat → Nat) (v : SV) : va_W := wX3 kI kJ o a v.1 v.2.1 v.2.2.1 v.2.2.2.1 v.2.2.2.2.1 v.2.2.2.2.2.1 v.2.2.2.2.2.2.1 v.2.2.2.2.2.2.2
/-- the saved states that were ever made, one behind the other -/
def svs (kI kJ : ClassId) (so : Nat → Nat) (sa : Nat → Nat → Nat) (vs : Nat → SV) : Nat → va_W
  | 0 => []
  | n + 1 => svs kI kJ so sa vs n ++ svW kI kJ (so n) (sa n) (vs n)
def svEq (u v : SV) : Prop := u.1 = v.1 ∧ u.2.1 = v.2.1 ∧ u.2.2.1 = v.2.2.1 ∧ u.2.2.2.1 = v.2.2.2.1 ∧ (∀ j, j < 4 → u.2.2.2.2.1 j = v.2.2.2.2.1 j) ∧ (∀ j, j < 4 → u.2.2.2.2.2.1 j = v.2.2.2.2.2.1 j) ∧ (∀ j, j < 4 → u.2.2.2.2.2.2.1 j = v.2.2.2.2.2.2.1 j) ∧ ∀ j, j < 4 → u.2.2.2.2.2.2.2 j = v.2.2.2.2.2.2.2 j
def svA (kS : ClassId) (hr : Nat) (so : Nat → Nat) (n : Nat) : va_W := [(hr, .inl (kS, 6, .inr (.inr (.inr (.inr (fun k => if k < n then some (so k) else none))))))]
/-- the tail holds the saved states: the row of references, and behind it the states that were ever made; the first ones, as many as the history's size says, are those values -/
def TL (kI kJ kS : ClassId) (hr : Nat) (size : Int32) (vals : Nat → SV) (tl : va_W) : Prop := ∃ (n k : Nat) (so : Nat → Nat) (sa : Nat → Nat → Nat) (vs : Nat → SV), n ≤ 6 ∧ k ≤ n ∧ size = nI k ∧ (∀ j, j < k → svEq (vs j) (vals j)) ∧ tl = svA kS hr so n ++ svs kI kJ so sa vs n
def gV (l : Launch) (D : va_G) (tys : List (ClassId × FieldType)) (y : MethodName) (ws : List Cond) (rm : Room) (args : List Value) (Wd w1 : va_W) (T : va_W → Prop) : Prop :=
  ∀ sz : Nat, Met l y ws rm (va_Pc args (pre_ D tys Wd true sz)) (va_Qv (fun (_ : Unit) => True) (fun _ t => ∃ tl', T tl' ∧ post_ D tys (va_A Wd sz) (w1 ++ tl') t) (va_A Wd sz)) rm.cells rm.slots (va_A Wd sz)
def gI (l : Launch) (D : va_G) (tys : List (ClassId × FieldType)) (y : MethodName) (ws : List Cond) (rm : Room) (args : List Value) (Wd w1 : va_W) (T : va_W → Prop) (r : Int32) : Prop :=
  ∀ sz : Nat, Met l y ws rm (va_Pc args (pre_ D tys Wd true sz)) (va_Qi (fun x (_ : Unit) => x = r) (fun _ t => ∃ tl', T tl' ∧ post_ D tys (va_A Wd sz) (w1 ++ tl') t) (va_A Wd sz)) rm.cells rm.slots (va_A Wd sz)
section GEN
variable {l : Launch} {D : va_G} {tys : List (ClassId × FieldType)} {y : MethodName} {ws ws' : List Cond} {rm : Room} {args : List Value} {Wd w1 : va_W} {T : va_W → Prop} {cc : ByteArray} {maxL : Nat} {ret : Option FieldType}
theorem gV_of (hy : plainName y.cls = true) (hw : ws = Cond.code y cc maxL none :: ws') (hlen : (lg_sl args).length ≤ maxL)
    (body : ∀ (p : Program) (e : Env) (s : State) (m : MethodId) (av : Array Value) (below : List Frame) (meth : Method) (c : Code) (A : Nat → Prop) (Q : State → Prop) (ls : Array Slot), ent_ p s m av meth c y.cls cc maxL none ws tys D A true →
      va_P D vwCl Wd s.heap → va_D A Wd → va_S A s.heap s.heap [] → lv_has ls maxL (lv_args 0 args) →
      (∀ (pc : Nat) (H : Heap) (locs : List Loc) (ls : Array Slot) (tl9 : va_W), T tl9 → decode cc pc = .ok (.return_, 1) → va_P D vwCl (w1 ++ tl9) H → va_D A (w1 ++ tl9) → va_S A s.heap H locs → W p l e rm s m av below meth c H locs rm.cells rm.slots Q (F0 m pc ls [])) →
      W p l e rm s m av below meth c s.heap [] 0 0 Q (F0 m 0 ls [])) : gV l D tys y ws rm args Wd w1 T := by
  intro sz
  refine Met.ofW (cc := cc) (maxL := maxL) (ret := none) hy hw ?_
  intro p e s m av below meth c s₁ B hml hv
  obtain ⟨rfl, hsz, hP, hK, hD0, hst⟩ := hv
  have hts := atoms_spec (ws := ws) B.pre
  have hown : s.vm.findClass y.cls = some m.cls := findClass_of_methodNamed B.named
  subst hsz
  have hD := hD0.self (sz := s.heap.size)
  have hl := lv_entry args (n := maxL) hlen
  rw [lg_entry_eq]
  refine body p e s m args.toArray below meth c (va_A Wd s.heap.size) _ _ ⟨B.exec, B.bytes, hml, hown, hts, B.returns, B.notSynchronized, hK, fun q h => Or.inr h, hst⟩ hP hD va_S.rf hl ?_
  intro pc H locs ls tl9 hT hdg hP hD hS
  exact W.vret B.exec B.bytes B.returns (fun t ht hW => ⟨⟨(), rfl, trivial, tl9, hT, by rw [ht]; exact hP, va_K.moved hW.alike hK, hD⟩, hS.F ht⟩) hS.2.2 hdg B.notSynchronized
theorem gI_of {r : Int32} {ty : FieldType} (hy : plainName y.cls = true) (hw : ws = Cond.code y cc maxL (some ty) :: ws') (hlen : (lg_sl args).length ≤ maxL)
    (body : ∀ (p : Program) (e : Env) (s : State) (m : MethodId) (av : Array Value) (below : List Frame) (meth : Method) (c : Code) (A : Nat → Prop) (Q : State → Prop) (ls : Array Slot), ent_ p s m av meth c y.cls cc maxL (some ty) ws tys D A true →
      va_P D vwCl Wd s.heap → va_D A Wd → va_S A s.heap s.heap [] → lv_has ls maxL (lv_args 0 args) →
      (∀ (pc : Nat) (H : Heap) (locs : List Loc) (ls : Array Slot) (tl9 : va_W), narrow ty (.int r) = .int r → T tl9 → decode cc pc = .ok (.ireturn, 1) → va_P D vwCl (w1 ++ tl9) H → va_D A (w1 ++ tl9) → va_S A s.heap H locs → W p l e rm s m av below meth c H locs rm.cells rm.slots Q (F0 m pc ls [.int r])) →
      W p l e rm s m av below meth c s.heap [] 0 0 Q (F0 m 0 ls [])) : gI l D tys y ws rm args Wd w1 T r := by
  intro sz
  refine Met.ofW (cc := cc) (maxL := maxL) (ret := (some ty)) hy hw ?_
  intro p e s m av below meth c s₁ B hml hv
  obtain ⟨rfl, hsz, hP, hK, hD0, hst⟩ := hv
  have hts := atoms_spec (ws := ws) B.pre
  have hown : s.vm.findClass y.cls = some m.cls := findClass_of_methodNamed B.named
  subst hsz
  have hD := hD0.self (sz := s.heap.size)
  have hl := lv_entry args (n := maxL) hlen
  rw [lg_entry_eq]
  refine body p e s m args.toArray below meth c (va_A Wd s.heap.size) _ _ ⟨B.exec, B.bytes, hml, hown, hts, B.returns, B.notSynchronized, hK, fun q h => Or.inr h, hst⟩ hP hD va_S.rf hl ?_
  intro pc H locs ls tl9 hn hT hdg hP hD hS
  exact W.zret (ty := ty) B.exec B.bytes B.returns hn (fun t ht hW => ⟨⟨r, (), rfl, rfl, tl9, hT, by rw [ht]; exact hP, va_K.moved hW.alike hK, hD⟩, hS.F ht⟩) hS.2.2 hdg B.notSynchronized
end GEN
section CTT
variable {p : Program} {l : Launch} {e : Env} {R : Room} {s : State} {m : MethodId} {args : Array Value} {below : List Frame} {meth : Method} {c : Code} {H : Heap} {locs : List Loc} {cells slots : Nat} {Q : State → Prop}
  {D : va_G} {tys : List (ClassId × FieldType)} {A : Nat → Prop} {cc bytes : ByteArray} {nL maxL index n pc : Nat} {own C : String} {ret retY : Option FieldType} {Ts ws : List Cond} {rm : Room} {y : MethodName} {ww wc wr w1 wN tl : va_W} {ls : Array Slot} {rest stk : List Value} {b : Nat} {As av : List Value} {T : va_W → Prop}
theorem free_TT (hD : va_D A (ww ++ tl)) (hS : va_S A s.heap H locs) (hA : ∀ q : Nat, s.heap.size ≤ q → A q) (isC : List Nat) (hC : isC.map (fun i => ww[i]?) = wc.map some) : ∀ q, va_A (wc ++ tl) H.size q → A q := by
  intro q h
  rcases h with ⟨k, e9, h⟩ | h
  · by_cases hl : k < wc.length
    · rw [List.getElem?_append_left hl] at h
      obtain ⟨i, -, hi⟩ := at_map hC h
      exact hD.2 i (q, e9) (ap_get hi)
    · rw [List.getElem?_append_right (by omega)] at h
      exact hD.right.2 _ (q, e9) h
  · exact hA q (Nat.le_trans hS.1 h)
theorem sub_TT (hD : va_D A (ww ++ tl)) (isC : List Nat) (hC : isC.map (fun i => ww[i]?) = wc.map some) (hnC : va_nd isC = true) : va_D A (wc ++ tl) :=
  va_D.app (hD.left.sub isC hnC hC) hD.right fun i j p q hi hj e => by
    obtain ⟨i2, -, hi2⟩ := at_map hC hi
    exact hD.apart hi2 hj e
theorem cal_preTT (E : ent_ p s m args meth c own cc nL ret Ts tys D A true) (hP : va_P D vwCl (ww ++ tl) H) (hD : va_D A (ww ++ tl)) (hS : va_S A s.heap H locs) (isC : List Nat) (hC : isC.map (fun i => ww[i]?) = wc.map some) (hnC : va_nd isC = true) :
    (∀ q, va_A (wc ++ tl) H.size q → A q) ∧ FrameBlind (va_Pc av (pre_ D tys (wc ++ tl) true H.size)) ∧ ∀ U : State, U.heap = H → s.WarmedH U.vm → va_Pc av (pre_ D tys (wc ++ tl) true H.size) av.toArray U := by
  obtain ⟨-, -, -, -, -, -, -, hK, hA, hst⟩ := E
  have hPc : va_P D vwCl (wc ++ tl) H := (cal_sub hP.left isC hC).app hP.right
  have hFc := free_TT hD hS hA isC hC
  refine ⟨hFc, pre_blind, fun U hU hW => ⟨rfl, by rw [hU], by rw [hU]; exact hPc, va_K.moved hW.alike hK, (sub_TT hD isC hC hnC).weaken (fun _ _ _ _ => trivial), fun h => ⟨(hst h).1.call hS hU hW.alike hFc, (hst h).2.warm hW⟩⟩⟩
theorem cal_finTT (E : ent_ p s m args meth c own cc nL ret Ts tys D A true) (hP : va_P D vwCl (ww ++ tl) H) (hD : va_D A (ww ++ tl)) (hS : va_S A s.heap H locs) (isC isR isN : List Nat) (hC : isC.map (fun i => ww[i]?) = wc.map some) (hR : isR.map (fun i => ww[i]?) = wr.map some) (hnR : va_nd isR = true) (hdis : ∀ i ∈ isR, i ∉ isC)
    (hN : isN.map (fun i => (wr ++ w1)[i]?) = wN.map some) (hnN : va_nd isN = true) {t : State} {H1 : Heap} {tl1 : va_W} (ht : t.heap = H1) (hB : post_ D tys (va_A (wc ++ tl) H.size) (w1 ++ tl1) t) (hk1 : ∀ q : Nat, q < H.size → ¬ va_A (wc ++ tl) H.size q → H1[q]? = H[q]?) : va_P D vwCl (wN ++ tl1) H1 ∧ va_D A (wN ++ tl1) := by
  obtain ⟨-, -, -, -, -, -, -, hK, hA, hst⟩ := E
  obtain ⟨hP1, -, hD1⟩ := hB
  rw [ht] at hP1
  have hna : ∀ (k : Nat) (q : Nat × va_E), wr[k]? = some q → q.1 < H.size ∧ ¬ va_A (wc ++ tl) H.size q.1 := by
    intro k q hk
    obtain ⟨i, hi0, hi⟩ := at_map hR hk
    have hlt := (hP.left i q hi).lt
    refine ⟨hlt, fun h => ?_⟩
    rcases h with ⟨k2, e2, h⟩ | h
    · by_cases hl : k2 < wc.length
      · rw [List.getElem?_append_left hl] at h
        obtain ⟨j, hj0, hj⟩ := at_map hC h
        have hij := hD.left.1 i j q (q.1, e2) hi hj rfl
        subst hij
        exact hdis i (List.mem_of_getElem? hi0) (List.mem_of_getElem? hj0)
      · rw [List.getElem?_append_right (by omega)] at h
        exact hD.apart hi h rfl
    · omega
  have hPr : va_P D vwCl wr H1 := (cal_sub hP.left isR hR).kept fun k q hk => hk1 q.1 (hna k q hk).1 (hna k q hk).2
  have hDr : va_D A wr := hD.left.sub isR hnR hR
  have hD2 : va_D A (w1 ++ tl1) := hD1.weaken fun k q _ h => free_TT hD hS hA isC hC q.1 h
  have hD3 : va_D A (wr ++ w1) := va_D.app hDr hD2.left fun i j p q hi hj e => (hna i p hi).2 (e ▸ hD1.left.2 j q hj)
  refine ⟨(cal_sub (hPr.app hP1.left) isN hN).app hP1.right, va_D.app (hD3.sub isN hnN hN) hD2.right fun i j p q hi hj e => ?_⟩
  obtain ⟨i2, -, hi2⟩ := at_map hN hi
  by_cases hl : i2 < wr.length
  · rw [List.getElem?_append_left hl] at hi2
    exact (hna i2 p hi2).2 (e ▸ hD1.right.2 j q hj)
  · rw [List.getElem?_append_right (by omega)] at hi2
    exact hD1.apart hi2 hj e
theorem gV_callVT {ci q0 : Nat} {cq : vw_C} {fs : List Value} (E : ent_ p s m args meth c own cc nL ret Ts tys D A true) (hM : gV l D tys y ws rm (.ref b :: As) (wc ++ tl) w1 T) (cw : CallW R s args own cq.1 index y bytes maxL retY ws rm rm.cells rm.slots n)
    (hP : va_P D vwCl (ww ++ tl) H) (hD : va_D A (ww ++ tl)) (hS : va_S A s.heap H locs) (isC isR isN : List Nat) (hC : isC.map (fun i => ww[i]?) = wc.map some) (hR : isR.map (fun i => ww[i]?) = wr.map some) (hnC : va_nd isC = true) (hnR : va_nd isR = true) (hdis : ∀ i ∈ isR, i ∉ isC)
    (hN : isN.map (fun i => (wr ++ w1)[i]?) = wN.map some) (hnN : va_nd isN = true) (hcq : vwCl[ci]? = some cq) (hq0 : ww[q0]? = some (b, .inr (ci, fs))) (hlen : As.length = n) (hsz : ls.size = nL) (hstk : stk = As.reverse ++ .ref b :: rest) (hW : (rest.map fun v => v.category).sum ≤ 8) (hdg : decode cc pc = .ok (.invokevirtual index, 3)) (hf : cells + rm.cells ≤ R.cells ∧ slots + rm.slots ≤ R.slots)
    (kk : ∀ (tl1 : va_W) (H1 : Heap) (locs1 : List Loc), T tl1 → va_P D vwCl (wN ++ tl1) H1 → va_D A (wN ++ tl1) → va_S A s.heap H1 locs1 → W p l e R s m args below meth c H1 locs1 (cells + rm.cells) (slots + rm.slots) Q (F0 m (pc + 3) ls (rest))) : W p l e R s m args below meth c H locs cells slots Q (F0 m pc ls stk) := by
  obtain ⟨hFc, hbl, hpre⟩ := cal_preTT (av := .ref b :: As) E hP hD hS isC hC hnC
  obtain ⟨hx, hb, hml, hown, hts, -, -, hK, -⟩ := id E
  refine va_callv (va_runV (As := As) (rest := rest) ⟨hx, hb, hml, hown, hts⟩ (hM H.size) cw ⟨hbl, va_recv hK hP hcq (ap_get hq0), hpre⟩ rfl hlen hsz hstk (lv_room hW) hdg hf) hS (fun q _ h => hFc q h) hFc (fun u t H1 locs1 ht hvm hw hB hz1 hk1 hS1 => ?_)
  obtain ⟨tl1, hT, hB⟩ := hB
  obtain ⟨hP1, hD1⟩ := cal_finTT E hP hD hS isC isR isN hC hR hnR hdis hN hnN ht hB hk1
  exact kk tl1 H1 locs1 hT hP1 hD1 hS1
theorem gI_callVT {r : Int32} {ci q0 : Nat} {cq : vw_C} {fs : List Value} (E : ent_ p s m args meth c own cc nL ret Ts tys D A true) (hM : gI l D tys y ws rm (.ref b :: As) (wc ++ tl) w1 T r) (cw : CallW R s args own cq.1 index y bytes maxL retY ws rm rm.cells rm.slots n)
    (hP : va_P D vwCl (ww ++ tl) H) (hD : va_D A (ww ++ tl)) (hS : va_S A s.heap H locs) (isC isR isN : List Nat) (hC : isC.map (fun i => ww[i]?) = wc.map some) (hR : isR.map (fun i => ww[i]?) = wr.map some) (hnC : va_nd isC = true) (hnR : va_nd isR = true) (hdis : ∀ i ∈ isR, i ∉ isC)
    (hN : isN.map (fun i => (wr ++ w1)[i]?) = wN.map some) (hnN : va_nd isN = true) (hcq : vwCl[ci]? = some cq) (hq0 : ww[q0]? = some (b, .inr (ci, fs))) (hlen : As.length = n) (hsz : ls.size = nL) (hstk : stk = As.reverse ++ .ref b :: rest) (hW : (rest.map fun v => v.category).sum ≤ 8) (hdg : decode cc pc = .ok (.invokevirtual index, 3)) (hf : cells + rm.cells ≤ R.cells ∧ slots + rm.slots ≤ R.slots)
    (kk : ∀ (tl1 : va_W) (H1 : Heap) (locs1 : List Loc), T tl1 → va_P D vwCl (wN ++ tl1) H1 → va_D A (wN ++ tl1) → va_S A s.heap H1 locs1 → W p l e R s m args below meth c H1 locs1 (cells + rm.cells) (slots + rm.slots) Q (F0 m (pc + 3) ls (.int r :: rest))) : W p l e R s m args below meth c H locs cells slots Q (F0 m pc ls stk) := by
  obtain ⟨hFc, hbl, hpre⟩ := cal_preTT (av := .ref b :: As) E hP hD hS isC hC hnC
  obtain ⟨hx, hb, hml, hown, hts, -, -, hK, -⟩ := id E
  refine va_calli (va_runV (As := As) (rest := rest) ⟨hx, hb, hml, hown, hts⟩ (hM H.size) cw ⟨hbl, va_recv hK hP hcq (ap_get hq0), hpre⟩ rfl hlen hsz hstk (lv_room hW) hdg hf) hS (fun q _ h => hFc q h) hFc (fun x u t H1 locs1 ht hvm hw hB hz1 hk1 hS1 => ?_)
  subst hw
  obtain ⟨tl1, hT, hB⟩ := hB
  obtain ⟨hP1, hD1⟩ := cal_finTT E hP hD hS isC isR isN hC hR hnR hdis hN hnN ht hB hk1
  exact kk tl1 H1 locs1 hT hP1 hD1 hS1
end CTT

