/-! ===== base: guards of the pure functions; contracts over a world ===== -/
def gd {α : Type} (i : Int32) (n : Nat) (k : Option α) : Option α := if i < 0 ∨ n ≤ i.toNatClampNeg then none else k
theorem gd_some {α : Type} {i : Int32} {n : Nat} {k : Option α} {r : α} (h : gd i n k = some r) : vp_in i n ∧ k = some r := by
  unfold gd at h
  split at h
  · cases h
  · exact ⟨by assumption, h⟩
def gb {α : Type} (x : Int32) (k : Option α) : Option α := if x = 0 ∨ x = 1 then k else none
theorem gb_some {α : Type} {x : Int32} {k : Option α} {r : α} (h : gb x k = some r) : narrow .boolean (.int x) = .int x ∧ k = some r := by
  unfold gb at h
  split at h
  · rename_i h1
    rcases h1 with rfl | rfl <;> exact ⟨rfl, h⟩
  · cases h
def gn {α : Type} (x : UInt64) (k : Option α) : Option α := if x &&& 0x7fffffffffffffff ≤ 0x7ff0000000000000 then k else none
theorem gn_some {α : Type} {x : UInt64} {k : Option α} {r : α} (h : gn x k = some r) : vf_n64 x ∧ k = some r := by
  unfold gn at h
  split at h
  · rename_i h1
    exact ⟨h1, h⟩
  · cases h
theorem bd_some {α β : Type} {o : Option α} {f : α → Option β} {r : β} (h : o.bind f = some r) : ∃ q, o = some q ∧ f q = some r := by
  cases o with
  | none => cases h
  | some q => exact ⟨q, rfl, h⟩
theorem it_t {α : Type} {c : Prop} [Decidable c] {a b r : α} (hc : c) (h : (if c then a else b) = r) : a = r := by
  rw [if_pos hc] at h
  exact h
theorem it_f {α : Type} {c : Prop} [Decidable c] {a b r : α} (hc : ¬ c) (h : (if c then a else b) = r) : b = r := by
  rw [if_neg hc] at h
  exact h
/-- the rows of each input, as the class's static array holds them -/
def wIn (j : Nat) : Int64 := match j with
  | 0 => -6148914691236517206
  | 1 => -3689348814741910324
  | 2 => -1085102592571150096
  | 3 => -71777214294589696
  | 4 => -281470681808896
  | _ => -4294967296
def StW (A : Nat → Prop) (U : State) (H : Heap) : Prop := ∃ t : Nat, va_Z "GateMaze$Rows" "WITH_INPUT" "[J" (.ref t) A U H ∧ va_T .long t 6 (fun j => .long (wIn j)) A U H
theorem StW.call {A B : Nat → Prop} {s U : State} {H : Heap} {locs : List Loc} (h : StW A s s.heap) (hS : va_S A s.heap H locs) (hU : U.heap = H) (hW : s.vm.Alike U.vm) (hAB : ∀ q, B q → A q) : StW B U U.heap := by
  obtain ⟨t, h1, h2⟩ := h
  exact ⟨t, ((h1.kept (fun a ha hn => by rw [hU]; exact hS.2.1 a ha hn)).moved hW).narrow hAB, ((h2.kept (fun a ha hn => by rw [hU]; exact hS.2.1 a ha hn)).moved hW).narrow hAB⟩
theorem StW.moved {A : Nat → Prop} {s U : State} {H : Heap} (hW : s.vm.Alike U.vm) (h : StW A s H) : StW A U H := by
  obtain ⟨t, h1, h2⟩ := h
  exact ⟨t, h1.moved hW, h2.moved hW⟩
def pre_ (D : va_G) (tys : List (ClassId × FieldType)) (Wd : va_W) (st : Bool) (sz : Nat) (U : State) : Prop := U.heap.size = sz ∧ va_P D vwCl Wd U.heap ∧ va_K D vwCl tys U ∧ va_D (fun _ => True) Wd ∧ (st = true → StW (va_A Wd sz) U U.heap)
def post_ (D : va_G) (tys : List (ClassId × FieldType)) (A : Nat → Prop) (W' : va_W) (t : State) : Prop := va_P D vwCl W' t.heap ∧ va_K D vwCl tys t ∧ va_D A W'
theorem pre_blind {D : va_G} {tys : List (ClassId × FieldType)} {Wd : va_W} {st : Bool} {sz : Nat} {args : List Value} : FrameBlind (va_Pc args (pre_ D tys Wd st sz)) := by
  intro a U g mk q
  obtain ⟨q0, q1, qP, qK, qD, qS⟩ := q
  exact ⟨q0, q1, qP, va_K.moved (u := U) (U := U.calling g mk a) (Vm.Alike.refl U.vm) qK, qD, fun h => (qS h).moved (U := U.calling g mk a) (Vm.Alike.refl U.vm)⟩
/-- what a method's walk stands on -/
def ent_ (p : Program) (s : State) (m : MethodId) (args : Array Value) (meth : Method) (c : Code) (own : String) (cc : ByteArray) (nL : Nat) (ret : Option FieldType) (Ts : List Cond) (tys : List (ClassId × FieldType)) (D : va_G) (A : Nat → Prop) (st : Bool) : Prop :=
  p.tables.exec = Jvm.exec ∧ c.code = cc ∧ c.maxLocals = nL ∧ s.vm.findClass own = some m.cls ∧ (∀ w ∈ Ts, w.before args s = true) ∧ meth.sig.returnType = ret ∧ meth.locks = false ∧ va_K D vwCl tys s ∧ (∀ q : Nat, s.heap.size ≤ q → A q) ∧ (st = true → StW A s s.heap)
abbrev rmk (f c s l : Nat) : Room := { frames := f, cells := c, slots := s, locals := l }
abbrev tyL (cI cJ cS : ClassId) : List (ClassId × FieldType) := [(cI, .int), (cJ, .long), (cS, .object "GateMaze$State")]
def lus_ (x : Int64) (y : Int32) : Int64 := (x.toUInt64 >>> (y.toInt64.toUInt64 &&& Int64.toUInt64 63)).toInt64
def lsl_ (x : Int64) (y : Int32) : Int64 := x <<< (y.toInt64 &&& 63)
def lt_ {α β : Type} (x : α) (k : α → Option β) : Option β := k x
theorem lt_some {α β : Type} {v x : α} {k : α → Option β} {r : β} (e : v = x) (h : lt_ x k = some r) : k v = some r := by
  subst e
  exact h
def cI (l : Launch) (D : va_G) (tys : List (ClassId × FieldType)) (st : Bool) (y : MethodName) (ws : List Cond) (rm : Room) (args : List Value) (Wd W' : va_W) (r : Int32) : Prop :=
  ∀ sz : Nat, Met l y ws rm (va_Pc args (pre_ D tys Wd st sz)) (va_Qi (fun x (_ : Unit) => x = r) (fun _ t => post_ D tys (va_A Wd sz) W' t) (va_A Wd sz)) rm.cells rm.slots (va_A Wd sz)
def cL (l : Launch) (D : va_G) (tys : List (ClassId × FieldType)) (st : Bool) (y : MethodName) (ws : List Cond) (rm : Room) (args : List Value) (Wd W' : va_W) (r : Int64) : Prop :=
  ∀ sz : Nat, Met l y ws rm (va_Pc args (pre_ D tys Wd st sz)) (va_Ql (fun x (_ : Unit) => x = r) (fun _ t => post_ D tys (va_A Wd sz) W' t) (va_A Wd sz)) rm.cells rm.slots (va_A Wd sz)
def cD (l : Launch) (D : va_G) (tys : List (ClassId × FieldType)) (st : Bool) (y : MethodName) (ws : List Cond) (rm : Room) (args : List Value) (Wd W' : va_W) (r : UInt64) : Prop :=
  ∀ sz : Nat, Met l y ws rm (va_Pc args (pre_ D tys Wd st sz)) (va_Qd (fun x (_ : Unit) => x = r) (fun _ t => post_ D tys (va_A Wd sz) W' t) (va_A Wd sz)) rm.cells rm.slots (va_A Wd sz)
def cV (l : Launch) (D : va_G) (tys : List (ClassId × FieldType)) (st : Bool) (y : MethodName) (ws : List Cond) (rm : Room) (args : List Value) (Wd W' : va_W) : Prop :=
  ∀ sz : Nat, Met l y ws rm (va_Pc args (pre_ D tys Wd st sz)) (va_Qv (fun (_ : Unit) => True) (fun _ t => post_ D tys (va_A Wd sz) W' t) (va_A Wd sz)) rm.cells rm.slots (va_A Wd sz)
section ENT
variable {l : Launch} {D : va_G} {tys : List (ClassId × FieldType)} {st : Bool} {y : MethodName} {ws ws' : List Cond} {rm : Room} {args : List Value} {Wd W' : va_W} {cc : ByteArray} {maxL : Nat} {ret : Option FieldType}
theorem cI_of {r : Int32} {ty : FieldType} (hy : plainName y.cls = true) (hw : ws = Cond.code y cc maxL (some ty) :: ws') (hlen : (lg_sl args).length ≤ maxL)
    (body : ∀ (p : Program) (e : Env) (s : State) (m : MethodId) (av : Array Value) (below : List Frame) (meth : Method) (c : Code) (A : Nat → Prop) (Q : State → Prop) (ls : Array Slot), ent_ p s m av meth c y.cls cc maxL (some ty) ws tys D A st →
      va_P D vwCl Wd s.heap → va_D A Wd → va_S A s.heap s.heap [] → lv_has ls maxL (lv_args 0 args) →
      (∀ (pc : Nat) (H : Heap) (locs : List Loc) (ls : Array Slot), narrow ty (.int r) = .int r → decode cc pc = .ok (.ireturn, 1) → va_P D vwCl W' H → va_D A W' → va_S A s.heap H locs → W p l e rm s m av below meth c H locs rm.cells rm.slots Q (F0 m pc ls [.int r])) →
      W p l e rm s m av below meth c s.heap [] 0 0 Q (F0 m 0 ls [])) : cI l D tys st y ws rm args Wd W' r := by
  intro sz
  refine Met.ofW (cc := cc) (maxL := maxL) (ret := some ty) hy hw ?_
  intro p e s m av below meth c s₁ B hml hv
  obtain ⟨rfl, hsz, hP, hK, hD0, hst⟩ := hv
  have hts := atoms_spec (ws := ws) B.pre
  have hown : s.vm.findClass y.cls = some m.cls := findClass_of_methodNamed B.named
  subst hsz
  have hD := hD0.self (sz := s.heap.size)
  have hl := lv_entry args (n := maxL) hlen
  rw [lg_entry_eq]
  refine body p e s m args.toArray below meth c (va_A Wd s.heap.size) _ _ ⟨B.exec, B.bytes, hml, hown, hts, B.returns, B.notSynchronized, hK, fun q h => Or.inr h, hst⟩ hP hD va_S.rf hl ?_
  intro pc H locs ls hn hdg hP hD hS
  exact W.zret (ty := ty) B.exec B.bytes B.returns hn (fun t ht hW => ⟨⟨r, (), rfl, rfl, by rw [ht]; exact hP, va_K.moved hW.alike hK, hD⟩, hS.F ht⟩) hS.2.2 hdg B.notSynchronized
theorem cL_of {r : Int64} (hy : plainName y.cls = true) (hw : ws = Cond.code y cc maxL (some .long) :: ws') (hlen : (lg_sl args).length ≤ maxL)
    (body : ∀ (p : Program) (e : Env) (s : State) (m : MethodId) (av : Array Value) (below : List Frame) (meth : Method) (c : Code) (A : Nat → Prop) (Q : State → Prop) (ls : Array Slot), ent_ p s m av meth c y.cls cc maxL (some .long) ws tys D A st →
      va_P D vwCl Wd s.heap → va_D A Wd → va_S A s.heap s.heap [] → lv_has ls maxL (lv_args 0 args) →
      (∀ (pc : Nat) (H : Heap) (locs : List Loc) (ls : Array Slot), decode cc pc = .ok (.lreturn, 1) → va_P D vwCl W' H → va_D A W' → va_S A s.heap H locs → W p l e rm s m av below meth c H locs rm.cells rm.slots Q (F0 m pc ls [.long r])) →
      W p l e rm s m av below meth c s.heap [] 0 0 Q (F0 m 0 ls [])) : cL l D tys st y ws rm args Wd W' r := by
  intro sz
  refine Met.ofW (cc := cc) (maxL := maxL) (ret := some .long) hy hw ?_
  intro p e s m av below meth c s₁ B hml hv
  obtain ⟨rfl, hsz, hP, hK, hD0, hst⟩ := hv
  have hts := atoms_spec (ws := ws) B.pre
  have hown : s.vm.findClass y.cls = some m.cls := findClass_of_methodNamed B.named
  subst hsz
  have hD := hD0.self (sz := s.heap.size)
  have hl := lv_entry args (n := maxL) hlen
  rw [lg_entry_eq]
  refine body p e s m args.toArray below meth c (va_A Wd s.heap.size) _ _ ⟨B.exec, B.bytes, hml, hown, hts, B.returns, B.notSynchronized, hK, fun q h => Or.inr h, hst⟩ hP hD va_S.rf hl ?_
  intro pc H locs ls hdg hP hD hS
  exact W.lret B.exec B.bytes B.returns (fun t ht hW => ⟨⟨r, (), rfl, rfl, by rw [ht]; exact hP, va_K.moved hW.alike hK, hD⟩, hS.F ht⟩) hS.2.2 hdg B.notSynchronized
theorem cD_of {r : UInt64} (hy : plainName y.cls = true) (hw : ws = Cond.code y cc maxL (some .double) :: ws') (hlen : (lg_sl args).length ≤ maxL)
    (body : ∀ (p : Program) (e : Env) (s : State) (m : MethodId) (av : Array Value) (below : List Frame) (meth : Method) (c : Code) (A : Nat → Prop) (Q : State → Prop) (ls : Array Slot), ent_ p s m av meth c y.cls cc maxL (some .double) ws tys D A st →
      va_P D vwCl Wd s.heap → va_D A Wd → va_S A s.heap s.heap [] → lv_has ls maxL (lv_args 0 args) →
      (∀ (pc : Nat) (H : Heap) (locs : List Loc) (ls : Array Slot), decode cc pc = .ok (.dreturn, 1) → va_P D vwCl W' H → va_D A W' → va_S A s.heap H locs → W p l e rm s m av below meth c H locs rm.cells rm.slots Q (F0 m pc ls [.double r])) →
      W p l e rm s m av below meth c s.heap [] 0 0 Q (F0 m 0 ls [])) : cD l D tys st y ws rm args Wd W' r := by
  intro sz
  refine Met.ofW (cc := cc) (maxL := maxL) (ret := some .double) hy hw ?_
  intro p e s m av below meth c s₁ B hml hv
  obtain ⟨rfl, hsz, hP, hK, hD0, hst⟩ := hv
  have hts := atoms_spec (ws := ws) B.pre
  have hown : s.vm.findClass y.cls = some m.cls := findClass_of_methodNamed B.named
  subst hsz
  have hD := hD0.self (sz := s.heap.size)
  have hl := lv_entry args (n := maxL) hlen
  rw [lg_entry_eq]
  refine body p e s m args.toArray below meth c (va_A Wd s.heap.size) _ _ ⟨B.exec, B.bytes, hml, hown, hts, B.returns, B.notSynchronized, hK, fun q h => Or.inr h, hst⟩ hP hD va_S.rf hl ?_
  intro pc H locs ls hdg hP hD hS
  exact W.dret B.exec B.bytes B.returns (fun t ht hW => ⟨⟨r, (), rfl, rfl, by rw [ht]; exact hP, va_K.moved hW.alike hK, hD⟩, hS.F ht⟩) hS.2.2 hdg B.notSynchronized
theorem cV_of (hy : plainName y.cls = true) (hw : ws = Cond.code y cc maxL none :: ws') (hlen : (lg_sl args).length ≤ maxL)
    (body : ∀ (p : Program) (e : Env) (s : State) (m : MethodId) (av : Array Value) (below : List Frame) (meth : Method) (c : Code) (A : Nat → Prop) (Q : State → Prop) (ls : Array Slot), ent_ p s m av meth c y.cls cc maxL none ws tys D A st →
      va_P D vwCl Wd s.heap → va_D A Wd → va_S A s.heap s.heap [] → lv_has ls maxL (lv_args 0 args) →
      (∀ (pc : Nat) (H : Heap) (locs : List Loc) (ls : Array Slot), decode cc pc = .ok (.return_, 1) → va_P D vwCl W' H → va_D A W' → va_S A s.heap H locs → W p l e rm s m av below meth c H locs rm.cells rm.slots Q (F0 m pc ls [])) →
      W p l e rm s m av below meth c s.heap [] 0 0 Q (F0 m 0 ls [])) : cV l D tys st y ws rm args Wd W' := by
  intro sz
  refine Met.ofW (cc := cc) (maxL := maxL) (ret := none) hy hw ?_
  intro p e s m av below meth c s₁ B hml hv
  obtain ⟨rfl, hsz, hP, hK, hD0, hst⟩ := hv
  have hts := atoms_spec (ws := ws) B.pre
  have hown : s.vm.findClass y.cls = some m.cls := findClass_of_methodNamed B.named
  subst hsz
  have hD := hD0.self (sz := s.heap.size)
  have hl := lv_entry args (n := maxL) hlen
  rw [lg_entry_eq]
  refine body p e s m args.toArray below meth c (va_A Wd s.heap.size) _ _ ⟨B.exec, B.bytes, hml, hown, hts, B.returns, B.notSynchronized, hK, fun q h => Or.inr h, hst⟩ hP hD va_S.rf hl ?_
  intro pc H locs ls hdg hP hD hS
  exact W.vret B.exec B.bytes B.returns (fun t ht hW => ⟨⟨(), rfl, trivial, by rw [ht]; exact hP, va_K.moved hW.alike hK, hD⟩, hS.F ht⟩) hS.2.2 hdg B.notSynchronized
end ENT
section CAL
variable {p : Program} {l : Launch} {e : Env} {R : Room} {s : State} {m : MethodId} {args : Array Value} {below : List Frame} {meth : Method} {c : Code} {H : Heap} {locs : List Loc} {cells slots : Nat} {Q : State → Prop}
  {D : va_G} {tys : List (ClassId × FieldType)} {st : Bool} {A : Nat → Prop} {cc bytes : ByteArray} {nL maxL index n pc : Nat} {own C : String} {ret retY : Option FieldType} {Ts ws : List Cond} {rm : Room} {y : MethodName} {ww wc wr w1 wN : va_W} {ls : Array Slot} {rest stk : List Value} {b : Nat} {As av : List Value}
theorem cal_sub (hP : va_P D vwCl ww H) (isC : List Nat) (hC : isC.map (fun i => ww[i]?) = wc.map some) : va_P D vwCl wc H := by
  intro k q hk
  have h1 : (isC.map (fun i => ww[i]?))[k]? = some (some q) := by rw [hC, List.getElem?_map, hk]; rfl
  rw [List.getElem?_map] at h1
  cases hi : isC[k]? with
  | none => rw [hi] at h1; cases h1
  | some i => rw [hi] at h1; exact hP i q (Option.some.inj h1)
theorem cal_pre (E : ent_ p s m args meth c own cc nL ret Ts tys D A st) (hP : va_P D vwCl ww H) (hD : va_D A ww) (hS : va_S A s.heap H locs) (isC : List Nat) (hC : isC.map (fun i => ww[i]?) = wc.map some) (hnC : va_nd isC = true) :
    va_P D vwCl wc H ∧ (∀ q, va_A wc H.size q → A q) ∧ FrameBlind (va_Pc av (pre_ D tys wc st H.size)) ∧ ∀ U : State, U.heap = H → s.WarmedH U.vm → va_Pc av (pre_ D tys wc st H.size) av.toArray U := by
  obtain ⟨-, -, -, -, -, -, -, hK, hA, hst⟩ := E
  have hPc := cal_sub hP isC hC
  have hFc := va_free hD hS hA isC hC
  refine ⟨hPc, hFc, pre_blind, fun U hU hW => ⟨rfl, by rw [hU], by rw [hU]; exact hPc, va_K.moved hW.alike hK, (hD.sub isC hnC hC).weaken (fun _ _ _ _ => trivial), fun h => (hst h).call hS hU hW.alike hFc⟩⟩
theorem cal_fin (E : ent_ p s m args meth c own cc nL ret Ts tys D A st) (hP : va_P D vwCl ww H) (hD : va_D A ww) (hS : va_S A s.heap H locs) (isC isR isN : List Nat) (hC : isC.map (fun i => ww[i]?) = wc.map some) (hR : isR.map (fun i => ww[i]?) = wr.map some) (hnR : va_nd isR = true) (hdis : ∀ i ∈ isR, i ∉ isC)
    (hN : isN.map (fun i => (wr ++ w1)[i]?) = wN.map some) (hnN : va_nd isN = true) {t : State} {H1 : Heap} (ht : t.heap = H1) (hB : post_ D tys (va_A wc H.size) w1 t) (hk1 : ∀ q : Nat, q < H.size → ¬ va_A wc H.size q → H1[q]? = H[q]?) : va_P D vwCl wN H1 ∧ va_D A wN := by
  obtain ⟨-, -, -, -, -, -, -, hK, hA, hst⟩ := E
  obtain ⟨hP1, -, hD1⟩ := hB
  rw [ht] at hP1
  obtain ⟨hP2, hD2⟩ := va_join hP hD isC isR hC hR hnR hdis hk1 (va_free hD hS hA isC hC) hP1 hD1
  exact ⟨cal_sub hP2 isN hN, hD2.sub isN hnN hN⟩
theorem cI_callS {r : Int32} (E : ent_ p s m args meth c own cc nL ret Ts tys D A st) (hM : cI l D tys st y ws rm As wc w1 r) (cw : CallB R s args own index y bytes maxL retY ws rm rm.cells rm.slots n ∧ (Cond.static y).before args s = true)
    (hP : va_P D vwCl ww H) (hD : va_D A ww) (hS : va_S A s.heap H locs) (isC isR isN : List Nat) (hC : isC.map (fun i => ww[i]?) = wc.map some) (hR : isR.map (fun i => ww[i]?) = wr.map some) (hnC : va_nd isC = true) (hnR : va_nd isR = true) (hdis : ∀ i ∈ isR, i ∉ isC)
    (hN : isN.map (fun i => (wr ++ w1)[i]?) = wN.map some) (hnN : va_nd isN = true) (hlen : As.length = n) (hsz : ls.size = nL) (hstk : stk = As.reverse ++ rest) (hW : (rest.map fun v => v.category).sum ≤ 8) (hdg : decode cc pc = .ok (.invokestatic index, 3)) (hf : cells + rm.cells ≤ R.cells ∧ slots + rm.slots ≤ R.slots)
    (kk : ∀ (H1 : Heap) (locs1 : List Loc), va_P D vwCl wN H1 → va_D A wN → va_S A s.heap H1 locs1 → W p l e R s m args below meth c H1 locs1 (cells + rm.cells) (slots + rm.slots) Q (F0 m (pc + 3) ls (.int r :: rest))) : W p l e R s m args below meth c H locs cells slots Q (F0 m pc ls stk) := by
  obtain ⟨hPc, hFc, hbl, hpre⟩ := cal_pre (av := As) E hP hD hS isC hC hnC
  obtain ⟨hx, hb, hml, hown, hts, -⟩ := id E
  refine va_calli (va_runS (As := As) (rest := rest) ⟨hx, hb, hml, hown, hts⟩ (hM H.size) cw ⟨hbl, hpre⟩ rfl hlen hsz hstk (lv_room hW) hdg hf) hS (fun q _ h => hFc q h) hFc (fun x u t H1 locs1 ht hvm hw hB hz1 hk1 hS1 => ?_)
  subst hw
  obtain ⟨hP1, hD1⟩ := cal_fin E hP hD hS isC isR isN hC hR hnR hdis hN hnN ht hB hk1
  exact kk H1 locs1 hP1 hD1 hS1
theorem cI_callV {r : Int32} {ci q0 : Nat} {cq : vw_C} {fs : List Value} (E : ent_ p s m args meth c own cc nL ret Ts tys D A st) (hM : cI l D tys st y ws rm (.ref b :: As) wc w1 r) (cw : CallW R s args own cq.1 index y bytes maxL retY ws rm rm.cells rm.slots n)
    (hP : va_P D vwCl ww H) (hD : va_D A ww) (hS : va_S A s.heap H locs) (isC isR isN : List Nat) (hC : isC.map (fun i => ww[i]?) = wc.map some) (hR : isR.map (fun i => ww[i]?) = wr.map some) (hnC : va_nd isC = true) (hnR : va_nd isR = true) (hdis : ∀ i ∈ isR, i ∉ isC)
    (hN : isN.map (fun i => (wr ++ w1)[i]?) = wN.map some) (hnN : va_nd isN = true) (hcq : vwCl[ci]? = some cq) (hq0 : ww[q0]? = some (b, .inr (ci, fs))) (hlen : As.length = n) (hsz : ls.size = nL) (hstk : stk = As.reverse ++ .ref b :: rest) (hW : (rest.map fun v => v.category).sum ≤ 8) (hdg : decode cc pc = .ok (.invokevirtual index, 3)) (hf : cells + rm.cells ≤ R.cells ∧ slots + rm.slots ≤ R.slots)
    (kk : ∀ (H1 : Heap) (locs1 : List Loc), va_P D vwCl wN H1 → va_D A wN → va_S A s.heap H1 locs1 → W p l e R s m args below meth c H1 locs1 (cells + rm.cells) (slots + rm.slots) Q (F0 m (pc + 3) ls (.int r :: rest))) : W p l e R s m args below meth c H locs cells slots Q (F0 m pc ls stk) := by
  obtain ⟨hPc, hFc, hbl, hpre⟩ := cal_pre (av := .ref b :: As) E hP hD hS isC hC hnC
  obtain ⟨hx, hb, hml, hown, hts, -, -, hK, -⟩ := id E
  refine va_calli (va_runV (As := As) (rest := rest) ⟨hx, hb, hml, hown, hts⟩ (hM H.size) cw ⟨hbl, va_recv hK hP hcq hq0, hpre⟩ rfl hlen hsz hstk (lv_room hW) hdg hf) hS (fun q _ h => hFc q h) hFc (fun x u t H1 locs1 ht hvm hw hB hz1 hk1 hS1 => ?_)
  subst hw
  obtain ⟨hP1, hD1⟩ := cal_fin E hP hD hS isC isR isN hC hR hnR hdis hN hnN ht hB hk1
  exact kk H1 locs1 hP1 hD1 hS1
theorem cL_callS {r : Int64} (E : ent_ p s m args meth c own cc nL ret Ts tys D A st) (hM : cL l D tys st y ws rm As wc w1 r) (cw : CallB R s args own index y bytes maxL retY ws rm rm.cells rm.slots n ∧ (Cond.static y).before args s = true)
    (hP : va_P D vwCl ww H) (hD : va_D A ww) (hS : va_S A s.heap H locs) (isC isR isN : List Nat) (hC : isC.map (fun i => ww[i]?) = wc.map some) (hR : isR.map (fun i => ww[i]?) = wr.map some) (hnC : va_nd isC = true) (hnR : va_nd isR = true) (hdis : ∀ i ∈ isR, i ∉ isC)
    (hN : isN.map (fun i => (wr ++ w1)[i]?) = wN.map some) (hnN : va_nd isN = true) (hlen : As.length = n) (hsz : ls.size = nL) (hstk : stk = As.reverse ++ rest) (hW : (rest.map fun v => v.category).sum ≤ 8) (hdg : decode cc pc = .ok (.invokestatic index, 3)) (hf : cells + rm.cells ≤ R.cells ∧ slots + rm.slots ≤ R.slots)
    (kk : ∀ (H1 : Heap) (locs1 : List Loc), va_P D vwCl wN H1 → va_D A wN → va_S A s.heap H1 locs1 → W p l e R s m args below meth c H1 locs1 (cells + rm.cells) (slots + rm.slots) Q (F0 m (pc + 3) ls (.long r :: rest))) : W p l e R s m args below meth c H locs cells slots Q (F0 m pc ls stk) := by
  obtain ⟨hPc, hFc, hbl, hpre⟩ := cal_pre (av := As) E hP hD hS isC hC hnC
  obtain ⟨hx, hb, hml, hown, hts, -⟩ := id E
  refine va_calll (va_runS (As := As) (rest := rest) ⟨hx, hb, hml, hown, hts⟩ (hM H.size) cw ⟨hbl, hpre⟩ rfl hlen hsz hstk (lv_room hW) hdg hf) hS (fun q _ h => hFc q h) hFc (fun x u t H1 locs1 ht hvm hw hB hz1 hk1 hS1 => ?_)
  subst hw
  obtain ⟨hP1, hD1⟩ := cal_fin E hP hD hS isC isR isN hC hR hnR hdis hN hnN ht hB hk1
  exact kk H1 locs1 hP1 hD1 hS1
theorem cL_callV {r : Int64} {ci q0 : Nat} {cq : vw_C} {fs : List Value} (E : ent_ p s m args meth c own cc nL ret Ts tys D A st) (hM : cL l D tys st y ws rm (.ref b :: As) wc w1 r) (cw : CallW R s args own cq.1 index y bytes maxL retY ws rm rm.cells rm.slots n)
    (hP : va_P D vwCl ww H) (hD : va_D A ww) (hS : va_S A s.heap H locs) (isC isR isN : List Nat) (hC : isC.map (fun i => ww[i]?) = wc.map some) (hR : isR.map (fun i => ww[i]?) = wr.map some) (hnC : va_nd isC = true) (hnR : va_nd isR = true) (hdis : ∀ i ∈ isR, i ∉ isC)
    (hN : isN.map (fun i => (wr ++ w1)[i]?) = wN.map some) (hnN : va_nd isN = true) (hcq : vwCl[ci]? = some cq) (hq0 : ww[q0]? = some (b, .inr (ci, fs))) (hlen : As.length = n) (hsz : ls.size = nL) (hstk : stk = As.reverse ++ .ref b :: rest) (hW : (rest.map fun v => v.category).sum ≤ 8) (hdg : decode cc pc = .ok (.invokevirtual index, 3)) (hf : cells + rm.cells ≤ R.cells ∧ slots + rm.slots ≤ R.slots)
    (kk : ∀ (H1 : Heap) (locs1 : List Loc), va_P D vwCl wN H1 → va_D A wN → va_S A s.heap H1 locs1 → W p l e R s m args below meth c H1 locs1 (cells + rm.cells) (slots + rm.slots) Q (F0 m (pc + 3) ls (.long r :: rest))) : W p l e R s m args below meth c H locs cells slots Q (F0 m pc ls stk) := by
  obtain ⟨hPc, hFc, hbl, hpre⟩ := cal_pre (av := .ref b :: As) E hP hD hS isC hC hnC
  obtain ⟨hx, hb, hml, hown, hts, -, -, hK, -⟩ := id E
  refine va_calll (va_runV (As := As) (rest := rest) ⟨hx, hb, hml, hown, hts⟩ (hM H.size) cw ⟨hbl, va_recv hK hP hcq hq0, hpre⟩ rfl hlen hsz hstk (lv_room hW) hdg hf) hS (fun q _ h => hFc q h) hFc (fun x u t H1 locs1 ht hvm hw hB hz1 hk1 hS1 => ?_)
  subst hw
  obtain ⟨hP1, hD1⟩ := cal_fin E hP hD hS isC isR isN hC hR hnR hdis hN hnN ht hB hk1
  exact kk H1 locs1 hP1 hD1 hS1
theorem cD_callS {r : UInt64} (E : ent_ p s m args meth c own cc nL ret Ts tys D A st) (hM : cD l D tys st y ws rm As wc w1 r) (cw : CallB R s args own index y bytes maxL retY ws rm rm.cells rm.slots n ∧ (Cond.static y).before args s = true)
    (hP : va_P D vwCl ww H) (hD : va_D A ww) (hS : va_S A s.heap H locs) (isC isR isN : List Nat) (hC : isC.map (fun i => ww[i]?) = wc.map some) (hR : isR.map (fun i => ww[i]?) = wr.map some) (hnC : va_nd isC = true) (hnR : va_nd isR = true) (hdis : ∀ i ∈ isR, i ∉ isC)
    (hN : isN.map (fun i => (wr ++ w1)[i]?) = wN.map some) (hnN : va_nd isN = true) (hlen : As.length = n) (hsz : ls.size = nL) (hstk : stk = As.reverse ++ rest) (hW : (rest.map fun v => v.category).sum ≤ 8) (hdg : decode cc pc = .ok (.invokestatic index, 3)) (hf : cells + rm.cells ≤ R.cells ∧ slots + rm.slots ≤ R.slots)
    (kk : ∀ (H1 : Heap) (locs1 : List Loc), va_P D vwCl wN H1 → va_D A wN → va_S A s.heap H1 locs1 → W p l e R s m args below meth c H1 locs1 (cells + rm.cells) (slots + rm.slots) Q (F0 m (pc + 3) ls (.double r :: rest))) : W p l e R s m args below meth c H locs cells slots Q (F0 m pc ls stk) := by
  obtain ⟨hPc, hFc, hbl, hpre⟩ := cal_pre (av := As) E hP hD hS isC hC hnC
  obtain ⟨hx, hb, hml, hown, hts, -⟩ := id E
  refine va_calld (va_runS (As := As) (rest := rest) ⟨hx, hb, hml, hown, hts⟩ (hM H.size) cw ⟨hbl, hpre⟩ rfl hlen hsz hstk (lv_room hW) hdg hf) hS (fun q _ h => hFc q h) hFc (fun x u t H1 locs1 ht hvm hw hB hz1 hk1 hS1 => ?_)
  subst hw
  obtain ⟨hP1, hD1⟩ := cal_fin E hP hD hS isC isR isN hC hR hnR hdis hN hnN ht hB hk1
  exact kk H1 locs1 hP1 hD1 hS1
theorem cD_callV {r : UInt64} {ci q0 : Nat} {cq : vw_C} {fs : List Value} (E : ent_ p s m args meth c own cc nL ret Ts tys D A st) (hM : cD l D tys st y ws rm (.ref b :: As) wc w1 r) (cw : CallW R s args own cq.1 index y bytes maxL retY ws rm rm.cells rm.slots n)
    (hP : va_P D vwCl ww H) (hD : va_D A ww) (hS : va_S A s.heap H locs) (isC isR isN : List Nat) (hC : isC.map (fun i => ww[i]?) = wc.map some) (hR : isR.map (fun i => ww[i]?) = wr.map some) (hnC : va_nd isC = true) (hnR : va_nd isR = true) (hdis : ∀ i ∈ isR, i ∉ isC)
    (hN : isN.map (fun i => (wr ++ w1)[i]?) = wN.map some) (hnN : va_nd isN = true) (hcq : vwCl[ci]? = some cq) (hq0 : ww[q0]? = some (b, .inr (ci, fs))) (hlen : As.length = n) (hsz : ls.size = nL) (hstk : stk = As.reverse ++ .ref b :: rest) (hW : (rest.map fun v => v.category).sum ≤ 8) (hdg : decode cc pc = .ok (.invokevirtual index, 3)) (hf : cells + rm.cells ≤ R.cells ∧ slots + rm.slots ≤ R.slots)
    (kk : ∀ (H1 : Heap) (locs1 : List Loc), va_P D vwCl wN H1 → va_D A wN → va_S A s.heap H1 locs1 → W p l e R s m args below meth c H1 locs1 (cells + rm.cells) (slots + rm.slots) Q (F0 m (pc + 3) ls (.double r :: rest))) : W p l e R s m args below meth c H locs cells slots Q (F0 m pc ls stk) := by
  obtain ⟨hPc, hFc, hbl, hpre⟩ := cal_pre (av := .ref b :: As) E hP hD hS isC hC hnC
  obtain ⟨hx, hb, hml, hown, hts, -, -, hK, -⟩ := id E
  refine va_calld (va_runV (As := As) (rest := rest) ⟨hx, hb, hml, hown, hts⟩ (hM H.size) cw ⟨hbl, va_recv hK hP hcq hq0, hpre⟩ rfl hlen hsz hstk (lv_room hW) hdg hf) hS (fun q _ h => hFc q h) hFc (fun x u t H1 locs1 ht hvm hw hB hz1 hk1 hS1 => ?_)
  subst hw
  obtain ⟨hP1, hD1⟩ := cal_fin E hP hD hS isC isR isN hC hR hnR hdis hN hnN ht hB hk1
  exact kk H1 locs1 hP1 hD1 hS1
theorem cV_callS (E : ent_ p s m args meth c own cc nL ret Ts tys D A st) (hM : cV l D tys st y ws rm As wc w1) (cw : CallB R s args own index y bytes maxL retY ws rm rm.cells rm.slots n ∧ (Cond.static y).before args s = true)
    (hP : va_P D vwCl ww H) (hD : va_D A ww) (hS : va_S A s.heap H locs) (isC isR isN : List Nat) (hC : isC.map (fun i => ww[i]?) = wc.map some) (hR : isR.map (fun i => ww[i]?) = wr.map some) (hnC : va_nd isC = true) (hnR : va_nd isR = true) (hdis : ∀ i ∈ isR, i ∉ isC)
    (hN : isN.map (fun i => (wr ++ w1)[i]?) = wN.map some) (hnN : va_nd isN = true) (hlen : As.length = n) (hsz : ls.size = nL) (hstk : stk = As.reverse ++ rest) (hW : (rest.map fun v => v.category).sum ≤ 8) (hdg : decode cc pc = .ok (.invokestatic index, 3)) (hf : cells + rm.cells ≤ R.cells ∧ slots + rm.slots ≤ R.slots)
    (kk : ∀ (H1 : Heap) (locs1 : List Loc), va_P D vwCl wN H1 → va_D A wN → va_S A s.heap H1 locs1 → W p l e R s m args below meth c H1 locs1 (cells + rm.cells) (slots + rm.slots) Q (F0 m (pc + 3) ls (rest))) : W p l e R s m args below meth c H locs cells slots Q (F0 m pc ls stk) := by
  obtain ⟨hPc, hFc, hbl, hpre⟩ := cal_pre (av := As) E hP hD hS isC hC hnC
  obtain ⟨hx, hb, hml, hown, hts, -⟩ := id E
  refine va_callv (va_runS (As := As) (rest := rest) ⟨hx, hb, hml, hown, hts⟩ (hM H.size) cw ⟨hbl, hpre⟩ rfl hlen hsz hstk (lv_room hW) hdg hf) hS (fun q _ h => hFc q h) hFc (fun u t H1 locs1 ht hvm hw hB hz1 hk1 hS1 => ?_)
  obtain ⟨hP1, hD1⟩ := cal_fin E hP hD hS isC isR isN hC hR hnR hdis hN hnN ht hB hk1
  exact kk H1 locs1 hP1 hD1 hS1
theorem cV_callV {ci q0 : Nat} {cq : vw_C} {fs : List Value} (E : ent_ p s m args meth c own cc nL ret Ts tys D A st) (hM : cV l D tys st y ws rm (.ref b :: As) wc w1) (cw : CallW R s args own cq.1 index y bytes maxL retY ws rm rm.cells rm.slots n)
    (hP : va_P D vwCl ww H) (hD : va_D A ww) (hS : va_S A s.heap H locs) (isC isR isN : List Nat) (hC : isC.map (fun i => ww[i]?) = wc.map some) (hR : isR.map (fun i => ww[i]?) = wr.map some) (hnC : va_nd isC = true) (hnR : va_nd isR = true) (hdis : ∀ i ∈ isR, i ∉ isC)
    (hN : isN.map (fun i => (wr ++ w1)[i]?) = wN.map some) (hnN : va_nd isN = true) (hcq : vwCl[ci]? = some cq) (hq0 : ww[q0]? = some (b, .inr (ci, fs))) (hlen : As.length = n) (hsz : ls.size = nL) (hstk : stk = As.reverse ++ .ref b :: rest) (hW : (rest.map fun v => v.category).sum ≤ 8) (hdg : decode cc pc = .ok (.invokevirtual index, 3)) (hf : cells + rm.cells ≤ R.cells ∧ slots + rm.slots ≤ R.slots)
    (kk : ∀ (H1 : Heap) (locs1 : List Loc), va_P D vwCl wN H1 → va_D A wN → va_S A s.heap H1 locs1 → W p l e R s m args below meth c H1 locs1 (cells + rm.cells) (slots + rm.slots) Q (F0 m (pc + 3) ls (rest))) : W p l e R s m args below meth c H locs cells slots Q (F0 m pc ls stk) := by
  obtain ⟨hPc, hFc, hbl, hpre⟩ := cal_pre (av := .ref b :: As) E hP hD hS isC hC hnC
  obtain ⟨hx, hb, hml, hown, hts, -, -, hK, -⟩ := id E
  refine va_callv (va_runV (As := As) (rest := rest) ⟨hx, hb, hml, hown, hts⟩ (hM H.size) cw ⟨hbl, va_recv hK hP hcq hq0, hpre⟩ rfl hlen hsz hstk (lv_room hW) hdg hf) hS (fun q _ h => hFc q h) hFc (fun u t H1 locs1 ht hvm hw hB hz1 hk1 hS1 => ?_)
  obtain ⟨hP1, hD1⟩ := cal_fin E hP hD hS isC isR isN hC hR hnR hdis hN hnN ht hB hk1
  exact kk H1 locs1 hP1 hD1 hS1
end CAL
/-- a point of a method's walk: from any heap that holds the world -/
def wAt (p : Program) (l : Launch) (e : Env) (R : Room) (s : State) (m : MethodId) (args : Array Value) (below : List Frame) (meth : Method) (c : Code) (D : va_G) (A : Nat → Prop) (nL cells slots : Nat) (Q : State → Prop) (pc : Nat) (stk : List Value) (lo : List (Nat × Value)) (Wd : va_W) : Prop :=
  ∀ (H : Heap) (locs : List Loc) (ls : Array Slot), va_P D vwCl Wd H → va_D A Wd → va_S A s.heap H locs → lv_has ls nL lo → W p l e R s m args below meth c H locs cells slots Q (F0 m pc ls stk)
theorem i32_ne {x : Int32} {n : Int} (h : ¬ x = Int32.ofInt n) (h1 : -2147483648 ≤ n) (h2 : n < 2147483648) : x.toInt ≠ n := by
  intro e
  exact h (by rw [← e, Int32.ofInt_toInt])


theorem sw_out {x : Int32} {lo hi : Int} (vs : List Int32) (h1 : -2147483648 ≤ lo) (h2 : hi < 2147483648) (hv : (vs.map (fun v => v.toInt)) = (List.range (hi + 1 - lo).toNat).map (fun (k : Nat) => lo + (k : Int))) (h : vs.foldr (fun v P => ¬ x = v ∧ P) True) : x.toInt < lo ∨ hi < x.toInt := by
  by_cases ha : x.toInt < lo
  · exact Or.inl ha
  by_cases hb : hi < x.toInt
  · exact Or.inr hb
  exfalso
  have hall : ∀ (l : List Int32), l.foldr (fun v P => ¬ x = v ∧ P) True → ∀ v ∈ l, ¬ x = v := by
    intro l
    induction l with
    | nil => intro _ v hv; cases hv
    | cons a l ih =>
      intro hh v hv
      rcases List.mem_cons.mp hv with rfl | hv
      · exact hh.1
      · exact ih hh.2 v hv
  have hm : x.toInt ∈ vs.map (fun v => v.toInt) := by
    rw [hv]
    refine List.mem_map.mpr ⟨(x.toInt - lo).toNat, List.mem_range.mpr (by omega), by omega⟩
  obtain ⟨v, hv1, hv2⟩ := List.mem_map.mp hm
  exact hall vs h v hv1 (Int32.toInt_inj.mp hv2.symm)
section TBV
variable {p : Program} {l : Launch} {e : Env} {R : Room} {s : State} {m : MethodId} {args : Array Value} {below : List Frame} {meth : Method} {c : Code} {H : Heap} {locs : List Loc} {cells slots : Nat} {Q : State → Prop} {cc : ByteArray} {pc : Nat} {ls : Array Slot} {rest : List Value}
theorem lv_tableV (hexec : p.tables.exec = Jvm.exec) (hb : c.code = cc) {dflt lo hi : Int} {offs : Array Int} {len : Nat} {x v : Int32} {off : Int} {tgt : Nat} (hdg : decode cc pc = .ok (.tableswitch dflt lo hi offs, len)) (hv : x = v) (h1 : ¬ v.toInt < lo) (h2 : ¬ hi < v.toInt) (ho : offs[(v.toInt - lo).toNat]? = some off) (ht : (pc : Int) + off = (tgt : Int))
    (k : W p l e R s m args below meth c H locs cells slots Q (F0 m tgt ls rest)) : W p l e R s m args below meth c H locs cells slots Q (F0 m pc ls (.int x :: rest)) := by
  subst hv
  exact lv_tableIn hexec hb hdg h1 h2 ho ht k
end TBV
