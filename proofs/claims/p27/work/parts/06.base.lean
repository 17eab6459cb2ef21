/-! ===== base: guards of the pure functions; contracts over a world ===== -/
theorem gd_some {α : Type} {i : Int32} {n : Nat} {k : Option α} {r : α} (h : gd i n k = some r) : vp_in i n ∧ k = some r := by
  unfold gd at h
  split at h
  · cases h
  · exact ⟨by assumption, h⟩
theorem gb_some {α : Type} {x : Int32} {k : Option α} {r : α} (h : gb x k = some r) : narrow .boolean (.int x) = .int x ∧ k = some r := by
  unfold gb at h
  split at h
  · rename_i h1
    rcases h1 with rfl | rfl <;> exact ⟨rfl, h⟩
  · cases h
theorem gn_some {α : Type} {x : UInt64} {k : Option α} {r : α} (h : gn x k = some r) : vf_n64 x ∧ k = some r := by
  unfold gn at h
  split at h
  · rename_i h1
    exact ⟨h1, h⟩
  · cases h
theorem bd_some {α β : Type} {o : Option α} {f : α → Option β} {r : β} (h : o.bind f = some r) : ∃ q, o = some q ∧ f q = some r := by
  cases o with
  | none => cases h
  | some q => exact ⟨q, rfl, h⟩
theorem it_t {α : Type} {c : Prop} [Decidable c] {a b r : α} (hc : c) (h : (if c then a else b) = r) : a = r := by
  rw [if_pos hc] at h
  exact h
theorem it_f {α : Type} {c : Prop} [Decidable c] {a b r : α} (hc : ¬ c) (h : (if c then a else b) = r) : b = r := by
  rw [if_neg hc] at h
  exact h
def StW (A : Nat → Prop) (U : State) (H : Heap) : Prop := (∃ t : Nat, va_Z "GateMaze$Rows" "WITH_INPUT" "[J" (.ref t) A U H ∧ va_T .long t 6 (fun j => .long (wIn j)) A U H) ∧ vx_Zq Bundle.tN "UNASSIGNED_STACK" Bundle.steD A U H ∧ vx_Zq Bundle.tN "SUPPRESSED_SENTINEL" Bundle.listD A U H
theorem StW.call {A B : Nat → Prop} {s U : State} {H : Heap} {locs : List Loc} (h : StW A s s.heap) (hS : va_S A s.heap H locs) (hU : U.heap = H) (hW : s.vm.Alike U.vm) (hAB : ∀ q, B q → A q) : StW B U U.heap := by
  obtain ⟨⟨t, h1, h2⟩, h3, h4⟩ := h
  have hq : ∀ a : Nat, a < s.heap.size → ¬ A a → U.heap[a]? = s.heap[a]? := fun a ha hn => by rw [hU]; exact hS.2.1 a ha hn
  exact ⟨⟨t, ((h1.kept hq).moved hW).narrow hAB, ((h2.kept hq).moved hW).narrow hAB⟩, ((h3.kept hq).moved hW).narrow hAB, ((h4.kept hq).moved hW).narrow hAB⟩
theorem StW.moved {A : Nat → Prop} {s U : State} {H : Heap} (hW : s.vm.Alike U.vm) (h : StW A s H) : StW A U H := by
  obtain ⟨⟨t, h1, h2⟩, h3, h4⟩ := h
  exact ⟨⟨t, h1.moved hW, h2.moved hW⟩, h3.moved hW, h4.moved hW⟩
def nestF : List (String × Nat × String × String × String) := [("GateMaze$View", 34, "GateMaze$State", "inputs", "I"), ("GateMaze", 59, "GateMaze$State", "inputs", "I"), ("GateMaze", 116, "GateMaze$State", "remembered", "I"), ("GateMaze", 147, "GateMaze$State", "asks", "I"), ("GateMaze", 132, "GateMaze$State", "hours", "I"), ("GateMaze", 156, "GateMaze$State", "alarms", "[I"), ("GateMaze", 160, "GateMaze$State", "faults", "[I"), ("GateMaze", 192, "GateMaze$History", "size", "I"), ("GateMaze$View", 92, "GateMaze$Primes", "codes", "[I"), ("GateMaze$View", 93, "GateMaze$Primes", "rows", "[J"), ("GateMaze$View", 75, "GateMaze$Primes", "size", "I"), ("GateMaze", 283, "GateMaze$View", "undecidedPairs", "I"), ("GateMaze", 285, "GateMaze$View", "parts", "I"), ("GateMaze", 288, "GateMaze$View", "sharedParts", "I"), ("GateMaze", 291, "GateMaze$View", "partCares", "I")]
def nestM : List (String × Nat × MethodName) := [(RX6, 9, yX3_init), (RX6, 18, yX0_init), (RX6, 25, yX4_init), (RX6, 32, yX1_init), (RX6, 39, yX5_init), (RX3, 48, yX6_isOutput), (RX5, 85, yX6_isOutput), (RX0, 24, yX3_init)]
/-- the texts of the class's exceptions, by their places in its constant pool -/
def exStr : List (Nat × String) := [(113, "the input is forgotten"), (127, "the input is remembered"), (256, "no such output"), (262, "no such row"), (264, "no such input"), (266, "a number is out of range"), (95, "both outputs are the same")]
def exCast : List String := ["java/lang/IllegalArgumentException", "java/lang/IndexOutOfBoundsException", "java/lang/IllegalStateException"]
def exDecl : List MethodName := [⟨"java/lang/RuntimeException", "<init>", "(Ljava/lang/String;)V"⟩, ⟨"java/lang/Exception", "<init>", "(Ljava/lang/String;)V"⟩, ⟨"java/lang/Throwable", "<init>", "(Ljava/lang/String;)V"⟩]
def exNc : List (String × String) := []
def nestOk (U : State) : Prop := (∀ q ∈ nestF, va_Nw (.fieldLinkNest q.1 q.2.1 q.2.2.1 q.2.2.2.1 q.2.2.2.2 "GateMaze") U) ∧ (∀ q ∈ nestM, va_Nw (.methodLinkNest q.1 q.2.1 q.2.2 "GateMaze") U) ∧ (∀ q ∈ exStr, ∃ sa : Nat, vk_R RX6 q.1 q.2 sa U) ∧ (∀ q ∈ exCast, va_Nw (.castable q q) U) ∧ (∀ q ∈ exDecl, va_Nw (.declares q) U) ∧ (∀ q ∈ exNc, va_Nc q.1 q.2 U) ∧ va_AO "GateMaze$State" U
theorem nestOk.warm {s U : State} (hW : s.WarmedH U.vm) (h : nestOk s) : nestOk U := ⟨fun q hq => va_Nw.warmF hW (h.1 q hq), fun q hq => va_Nw.warmM hW (h.2.1 q hq), fun q hq => (h.2.2.1 q hq).imp fun _ z => z.warm hW, fun q hq => va_Nw.warmC hW (h.2.2.2.1 q hq), fun q hq => va_Nw.warmD hW (h.2.2.2.2.1 q hq), fun q hq => va_Nc.moved hW.alike (h.2.2.2.2.2.1 q hq), va_AO.moved hW.alike h.2.2.2.2.2.2⟩
theorem nestOk.same {u U : State} (e : u.vm = U.vm) (h : nestOk u) : nestOk U := ⟨fun q hq => va_Nw.same rfl e (h.1 q hq), fun q hq => va_Nw.same rfl e (h.2.1 q hq), fun q hq => (h.2.2.1 q hq).imp fun _ z => z.same e.symm, fun q hq => va_Nw.same rfl e (h.2.2.2.1 q hq), fun q hq => va_Nw.same rfl e (h.2.2.2.2.1 q hq), fun q hq => va_Nc.moved (by rw [e]; exact Vm.Alike.refl _) (h.2.2.2.2.2.1 q hq), va_AO.moved (by rw [e]; exact Vm.Alike.refl _) h.2.2.2.2.2.2⟩
def pre_ (D : va_G) (tys : List (ClassId × FieldType)) (Wd : va_W) (st : Bool) (sz : Nat) (U : State) : Prop := U.heap.size = sz ∧ va_P D vwCl Wd U.heap ∧ va_K D vwCl tys U ∧ va_D (fun _ => True) Wd ∧ (st = true → StW (va_A Wd sz) U U.heap ∧ nestOk U)
def post_ (D : va_G) (tys : List (ClassId × FieldType)) (A : Nat → Prop) (W' : va_W) (t : State) : Prop := va_P D vwCl W' t.heap ∧ va_K D vwCl tys t ∧ va_D A W'
theorem pre_blind {D : va_G} {tys : List (ClassId × FieldType)} {Wd : va_W} {st : Bool} {sz : Nat} {args : List Value} : FrameBlind (va_Pc args (pre_ D tys Wd st sz)) := by
  intro a U g mk q
  obtain ⟨q0, q1, qP, qK, qD, qS⟩ := q
  exact ⟨q0, q1, qP, va_K.moved (u := U) (U := U.calling g mk a) (Vm.Alike.refl U.vm) qK, qD, fun h => ⟨(qS h).1.moved (U := U.calling g mk a) (Vm.Alike.refl U.vm), (qS h).2.same (U := U.calling g mk a) rfl⟩⟩
/-- what a method's walk stands on -/
def ent_ (p : Program) (s : State) (m : MethodId) (args : Array Value) (meth : Method) (c : Code) (own : String) (cc : ByteArray) (nL : Nat) (ret : Option FieldType) (Ts : List Cond) (tys : List (ClassId × FieldType)) (D : va_G) (A : Nat → Prop) (st : Bool) : Prop :=
  p.tables.exec = Jvm.exec ∧ c.code = cc ∧ c.maxLocals = nL ∧ s.vm.findClass own = some m.cls ∧ (∀ w ∈ Ts, w.before args s = true) ∧ meth.sig.returnType = ret ∧ meth.locks = false ∧ va_K D vwCl tys s ∧ (∀ q : Nat, s.heap.size ≤ q → A q) ∧ (st = true → StW A s s.heap ∧ nestOk s)
abbrev rmk (f c s l : Nat) : Room := { frames := f, cells := c, slots := s, locals := l }
abbrev tyL (cI cJ cS : ClassId) : List (ClassId × FieldType) := [(cI, .int), (cJ, .long), (cS, .object "GateMaze$State")]
theorem lt_some {α β : Type} {v x : α} {k : α → Option β} {r : β} (e : v = x) (h : lt_ x k = some r) : k v = some r := by
  subst e
  exact h
def cI (l : Launch) (D : va_G) (tys : List (ClassId × FieldType)) (st : Bool) (y : MethodName) (ws : List Cond) (rm : Room) (args : List Value) (Wd W' : va_W) (r : Int32) : Prop :=
  ∀ sz : Nat, Met l y ws rm (va_Pc args (pre_ D tys Wd st sz)) (va_Qi (fun x (_ : Unit) => x = r) (fun _ t => post_ D tys (va_A Wd sz) W' t) (va_A Wd sz)) rm.cells rm.slots (va_A Wd sz)
def cL (l : Launch) (D : va_G) (tys : List (ClassId × FieldType)) (st : Bool) (y : MethodName) (ws : List Cond) (rm : Room) (args : List Value) (Wd W' : va_W) (r : Int64) : Prop :=
  ∀ sz : Nat, Met l y ws rm (va_Pc args (pre_ D tys Wd st sz)) (va_Ql (fun x (_ : Unit) => x = r) (fun _ t => post_ D tys (va_A Wd sz) W' t) (va_A Wd sz)) rm.cells rm.slots (va_A Wd sz)
def cD (l : Launch) (D : va_G) (tys : List (ClassId × FieldType)) (st : Bool) (y : MethodName) (ws : List Cond) (rm : Room) (args : List Value) (Wd W' : va_W) (r : UInt64) : Prop :=
  ∀ sz : Nat, Met l y ws rm (va_Pc args (pre_ D tys Wd st sz)) (va_Qd (fun x (_ : Unit) => x = r) (fun _ t => post_ D tys (va_A Wd sz) W' t) (va_A Wd sz)) rm.cells rm.slots (va_A Wd sz)
def cV (l : Launch) (D : va_G) (tys : List (ClassId × FieldType)) (st : Bool) (y : MethodName) (ws : List Cond) (rm : Room) (args : List Value) (Wd W' : va_W) : Prop :=
  ∀ sz : Nat, Met l y ws rm (va_Pc args (pre_ D tys Wd st sz)) (va_Qv (fun (_ : Unit) => True) (fun _ t => post_ D tys (va_A Wd sz) W' t) (va_A Wd sz)) rm.cells rm.slots (va_A Wd sz)
def cR (l : Launch) (D : va_G) (tys : List (ClassId × FieldType)) (st : Bool) (y : MethodName) (ws : List Cond) (rm : Room) (args : List Value) (Wd W' : va_W) (a : Nat) : Prop :=
  ∀ sz : Nat, Met l y ws rm (va_Pc args (pre_ D tys Wd st sz)) (va_Qr (fun (_ : Unit) => True) (fun _ b t => b = a ∧ post_ D tys (va_A Wd sz) W' t) (va_A Wd sz)) rm.cells rm.slots (va_A Wd sz)
section ENT
variable {l : Launch} {D : va_G} {tys : List (ClassId × FieldType)} {st : Bool} {y : MethodName} {ws ws' : List Cond} {rm : Room} {args : List Value} {Wd W' : va_W} {cc : ByteArray} {maxL : Nat} {ret : Option FieldType}
theorem cI_of {r : Int32} {ty : FieldType} (hy : plainName y.cls = true) (hw : ws = Cond.code y cc maxL (some ty) :: ws') (hlen : (lg_sl args).length ≤ maxL)
    (body : ∀ (p : Program) (e : Env) (s : State) (m : MethodId) (av : Array Value) (below : List Frame) (meth : Method) (c : Code) (A : Nat → Prop) (Q : State → Prop) (ls : Array Slot), ent_ p s m av meth c y.cls cc maxL (some ty) ws tys D A st →
      va_P D vwCl Wd s.heap → va_D A Wd → va_S A s.heap s.heap [] → lv_has ls maxL (lv_args 0 args) →
      (∀ (pc : Nat) (H : Heap) (locs : List Loc) (ls : Array Slot), narrow ty (.int r) = .int r → decode cc pc = .ok (.ireturn, 1) → va_P D vwCl W' H → va_D A W' → va_S A s.heap H locs → W p l e rm s m av below meth c H locs rm.cells rm.slots Q (F0 m pc ls [.int r])) →
      W p l e rm s m av below meth c s.heap [] 0 0 Q (F0 m 0 ls [])) : cI l D tys st y ws rm args Wd W' r := by
  intro sz
  refine Met.ofW (cc := cc) (maxL := maxL) (ret := some ty) hy hw ?_
  intro p e s m av below meth c s₁ B hml hv
  obtain ⟨rfl, hsz, hP, hK, hD0, hst⟩ := hv
  have hts := atoms_spec (ws := ws) B.pre
  have hown : s.vm.findClass y.cls = some m.cls := findClass_of_methodNamed B.named
  subst hsz
  have hD := hD0.self (sz := s.heap.size)
  have hl := lv_entry args (n := maxL) hlen
  rw [lg_entry_eq]
  refine body p e s m args.toArray below meth c (va_A Wd s.heap.size) _ _ ⟨B.exec, B.bytes, hml, hown, hts, B.returns, B.notSynchronized, hK, fun q h => Or.inr h, hst⟩ hP hD va_S.rf hl ?_
  intro pc H locs ls hn hdg hP hD hS
  exact W.zret (ty := ty) B.exec B.bytes B.returns hn (fun t ht hW => ⟨⟨r, (), rfl, rfl, by rw [ht]; exact hP, va_K.moved hW.alike hK, hD⟩, hS.F ht⟩) hS.2.2 hdg B.notSynchronized
theorem cL_of {r : Int64} (hy : plainName y.cls = true) (hw : ws = Cond.code y cc maxL (some .long) :: ws') (hlen : (lg_sl args).length ≤ maxL)
    (body : ∀ (p : Program) (e : Env) (s : State) (m : MethodId) (av : Array Value) (below : List Frame) (meth : Method) (c : Code) (A : Nat → Prop) (Q : State → Prop) (ls : Array Slot), ent_ p s m av meth c y.cls cc maxL (some .long) ws tys D A st →
      va_P D vwCl Wd s.heap → va_D A Wd → va_S A s.heap s.heap [] → lv_has ls maxL (lv_args 0 args) →
      (∀ (pc : Nat) (H : Heap) (locs : List Loc) (ls : Array Slot), decode cc pc = .ok (.lreturn, 1) → va_P D vwCl W' H → va_D A W' → va_S A s.heap H locs → W p l e rm s m av below meth c H locs rm.cells rm.slots Q (F0 m pc ls [.long r])) →
      W p l e rm s m av below meth c s.heap [] 0 0 Q (F0 m 0 ls [])) : cL l D tys st y ws rm args Wd W' r := by
  intro sz
  refine Met.ofW (cc := cc) (maxL := maxL) (ret := some .long) hy hw ?_
  intro p e s m av below meth c s₁ B hml hv
  obtain ⟨rfl, hsz, hP, hK, hD0, hst⟩ := hv
  have hts := atoms_spec (ws := ws) B.pre
  have hown : s.vm.findClass y.cls = some m.cls := findClass_of_methodNamed B.named
  subst hsz
  have hD := hD0.self (sz := s.heap.size)
  have hl := lv_entry args (n := maxL) hlen
  rw [lg_entry_eq]
  refine body p e s m args.toArray below meth c (va_A Wd s.heap.size) _ _ ⟨B.exec, B.bytes, hml, hown, hts, B.returns, B.notSynchronized, hK, fun q h => Or.inr h, hst⟩ hP hD va_S.rf hl ?_
  intro pc H locs ls hdg hP hD hS
  exact W.lret B.exec B.bytes B.returns (fun t ht hW => ⟨⟨r, (), rfl, rfl, by rw [ht]; exact hP, va_K.moved hW.alike hK, hD⟩, hS.F ht⟩) hS.2.2 hdg B.notSynchronized
theorem cD_of {r : UInt64} (hy : plainName y.cls = true) (hw : ws = Cond.code y cc maxL (some .double) :: ws') (hlen : (lg_sl args).length ≤ maxL)
    (body : ∀ (p : Program) (e : Env) (s : State) (m : MethodId) (av : Array Value) (below : List Frame) (meth : Method) (c : Code) (A : Nat → Prop) (Q : State → Prop) (ls : Array Slot), ent_ p s m av meth c y.cls cc maxL (some .double) ws tys D A st →
      va_P D vwCl Wd s.heap → va_D A Wd → va_S A s.heap s.heap [] → lv_has ls maxL (lv_args 0 args) →
      (∀ (pc : Nat) (H : Heap) (locs : List Loc) (ls : Array Slot), decode cc pc = .ok (.dreturn, 1) → va_P D vwCl W' H → va_D A W' → va_S A s.heap H locs → W p l e rm s m av below meth c H locs rm.cells rm.slots Q (F0 m pc ls [.double r])) →
      W p l e rm s m av below meth c s.heap [] 0 0 Q (F0 m 0 ls [])) : cD l D tys st y ws rm args Wd W' r := by
  intro sz
  refine Met.ofW (cc := cc) (maxL := maxL) (ret := some .double) hy hw ?_
  intro p e s m av below meth c s₁ B hml hv
  obtain ⟨rfl, hsz, hP, hK, hD0, hst⟩ := hv
  have hts := atoms_spec (ws := ws) B.pre
  have hown : s.vm.findClass y.cls = some m.cls := findClass_of_methodNamed B.named
  subst hsz
  have hD := hD0.self (sz := s.heap.size)
  have hl := lv_entry args (n := maxL) hlen
  rw [lg_entry_eq]
  refine body p e s m args.toArray below meth c (va_A Wd s.heap.size) _ _ ⟨B.exec, B.bytes, hml, hown, hts, B.returns, B.notSynchronized, hK, fun q h => Or.inr h, hst⟩ hP hD va_S.rf hl ?_
  intro pc H locs ls hdg hP hD hS
  exact W.dret B.exec B.bytes B.returns (fun t ht hW => ⟨⟨r, (), rfl, rfl, by rw [ht]; exact hP, va_K.moved hW.alike hK, hD⟩, hS.F ht⟩) hS.2.2 hdg B.notSynchronized
theorem cV_of (hy : plainName y.cls = true) (hw : ws = Cond.code y cc maxL none :: ws') (hlen : (lg_sl args).length ≤ maxL)
    (body : ∀ (p : Program) (e : Env) (s : State) (m : MethodId) (av : Array Value) (below : List Frame) (meth : Method) (c : Code) (A : Nat → Prop) (Q : State → Prop) (ls : Array Slot), ent_ p s m av meth c y.cls cc maxL none ws tys D A st →
      va_P D vwCl Wd s.heap → va_D A Wd → va_S A s.heap s.heap [] → lv_has ls maxL (lv_args 0 args) →
      (∀ (pc : Nat) (H : Heap) (locs : List Loc) (ls : Array Slot), decode cc pc = .ok (.return_, 1) → va_P D vwCl W' H → va_D A W' → va_S A s.heap H locs → W p l e rm s m av below meth c H locs rm.cells rm.slots Q (F0 m pc ls [])) →
      W p l e rm s m av below meth c s.heap [] 0 0 Q (F0 m 0 ls [])) : cV l D tys st y ws rm args Wd W' := by
  intro sz
  refine Met.ofW (cc := cc) (maxL := maxL) (ret := none) hy hw ?_
  intro p e s m av below meth c s₁ B hml hv
  obtain ⟨rfl, hsz, hP, hK, hD0, hst⟩ := hv
  have hts := atoms_spec (ws := ws) B.pre
  have hown : s.vm.findClass y.cls = some m.cls := findClass_of_methodNamed B.named
  subst hsz
  have hD := hD0.self (sz := s.heap.size)
  have hl := lv_entry args (n := maxL) hlen
  rw [lg_entry_eq]
  refine body p e s m args.toArray below meth c (va_A Wd s.heap.size) _ _ ⟨B.exec, B.bytes, hml, hown, hts, B.returns, B.notSynchronized, hK, fun q h => Or.inr h, hst⟩ hP hD va_S.rf hl ?_
  intro pc H locs ls hdg hP hD hS
  exact W.vret B.exec B.bytes B.returns (fun t ht hW => ⟨⟨(), rfl, trivial, by rw [ht]; exact hP, va_K.moved hW.alike hK, hD⟩, hS.F ht⟩) hS.2.2 hdg B.notSynchronized
theorem cR_of {a : Nat} {ty : FieldType} (hy : plainName y.cls = true) (hw : ws = Cond.code y cc maxL (some ty) :: ws') (hlen : (lg_sl args).length ≤ maxL)
    (body : ∀ (p : Program) (e : Env) (s : State) (m : MethodId) (av : Array Value) (below : List Frame) (meth : Method) (c : Code) (A : Nat → Prop) (Q : State → Prop) (ls : Array Slot), ent_ p s m av meth c y.cls cc maxL (some ty) ws tys D A st →
      va_P D vwCl Wd s.heap → va_D A Wd → va_S A s.heap s.heap [] → lv_has ls maxL (lv_args 0 args) →
      (∀ (pc : Nat) (H : Heap) (locs : List Loc) (ls : Array Slot), ((∃ n, ty = .object n) ∨ ∃ t, ty = .array t) → decode cc pc = .ok (.areturn, 1) → va_P D vwCl W' H → va_D A W' → va_S A s.heap H locs → W p l e rm s m av below meth c H locs rm.cells rm.slots Q (F0 m pc ls [.ref a])) →
      W p l e rm s m av below meth c s.heap [] 0 0 Q (F0 m 0 ls [])) : cR l D tys st y ws rm args Wd W' a := by
  intro sz
  refine Met.ofW (cc := cc) (maxL := maxL) (ret := some ty) hy hw ?_
  intro p e s m av below meth c s₁ B hml hv
  obtain ⟨rfl, hsz, hP, hK, hD0, hst⟩ := hv
  have hts := atoms_spec (ws := ws) B.pre
  have hown : s.vm.findClass y.cls = some m.cls := findClass_of_methodNamed B.named
  subst hsz
  have hD := hD0.self (sz := s.heap.size)
  have hl := lv_entry args (n := maxL) hlen
  rw [lg_entry_eq]
  refine body p e s m args.toArray below meth c (va_A Wd s.heap.size) _ _ ⟨B.exec, B.bytes, hml, hown, hts, B.returns, B.notSynchronized, hK, fun q h => Or.inr h, hst⟩ hP hD va_S.rf hl ?_
  intro pc H locs ls hn hdg hP hD hS
  exact W.aret B.exec B.bytes B.returns hn (Or.inr ⟨a, rfl⟩) (fun t ht hW => ⟨⟨(), a, rfl, trivial, rfl, by rw [ht]; exact hP, va_K.moved hW.alike hK, hD⟩, hS.F ht⟩) hS.2.2 hdg B.notSynchronized
end ENT
section CAL
variable {p : Program} {l : Launch} {e : Env} {R : Room} {s : State} {m : MethodId} {args : Array Value} {below : List Frame} {meth : Method} {c : Code} {H : Heap} {locs : List Loc} {cells slots : Nat} {Q : State → Prop}
  {D : va_G} {tys : List (ClassId × FieldType)} {st : Bool} {A : Nat → Prop} {cc bytes : ByteArray} {nL maxL index n pc : Nat} {own C : String} {ret retY : Option FieldType} {Ts ws : List Cond} {rm : Room} {y : MethodName} {ww wc wr w1 wN : va_W} {ls : Array Slot} {rest stk : List Value} {b : Nat} {As av : List Value}
theorem cal_sub (hP : va_P D vwCl ww H) (isC : List Nat) (hC : isC.map (fun i => ww[i]?) = wc.map some) : va_P D vwCl wc H := by
  intro k q hk
  have h1 : (isC.map (fun i => ww[i]?))[k]? = some (some q) := by rw [hC, List.getElem?_map, hk]; rfl
  rw [List.getElem?_map] at h1
  cases hi : isC[k]? with
  | none => rw [hi] at h1; cases h1
  | some i => rw [hi] at h1; exact hP i q (Option.some.inj h1)
theorem cal_pre (E : ent_ p s m args meth c own cc nL ret Ts tys D A st) (hP : va_P D vwCl ww H) (hD : va_D A ww) (hS : va_S A s.heap H locs) (isC : List Nat) (hC : isC.map (fun i => ww[i]?) = wc.map some) (hnC : va_nd isC = true) :
    va_P D vwCl wc H ∧ (∀ q, va_A wc H.size q → A q) ∧ FrameBlind (va_Pc av (pre_ D tys wc st H.size)) ∧ ∀ U : State, U.heap = H → s.WarmedH U.vm → va_Pc av (pre_ D tys wc st H.size) av.toArray U := by
  obtain ⟨-, -, -, -, -, -, -, hK, hA, hst⟩ := E
  have hPc := cal_sub hP isC hC
  have hFc := va_free hD hS hA isC hC
  refine ⟨hPc, hFc, pre_blind, fun U hU hW => ⟨rfl, by rw [hU], by rw [hU]; exact hPc, va_K.moved hW.alike hK, (hD.sub isC hnC hC).weaken (fun _ _ _ _ => trivial), fun h => ⟨(hst h).1.call hS hU hW.alike hFc, (hst h).2.warm hW⟩⟩⟩
theorem cal_fin (E : ent_ p s m args meth c own cc nL ret Ts tys D A st) (hP : va_P D vwCl ww H) (hD : va_D A ww) (hS : va_S A s.heap H locs) (isC isR isN : List Nat) (hC : isC.map (fun i => ww[i]?) = wc.map some) (hR : isR.map (fun i => ww[i]?) = wr.map some) (hnR : va_nd isR = true) (hdis : ∀ i ∈ isR, i ∉ isC)
    (hN : isN.map (fun i => (wr ++ w1)[i]?) = wN.map some) (hnN : va_nd isN = true) {t : State} {H1 : Heap} (ht : t.heap = H1) (hB : post_ D tys (va_A wc H.size) w1 t) (hk1 : ∀ q : Nat, q < H.size → ¬ va_A wc H.size q → H1[q]? = H[q]?) : va_P D vwCl wN H1 ∧ va_D A wN := by
  obtain ⟨-, -, -, -, -, -, -, hK, hA, hst⟩ := E
  obtain ⟨hP1, -, hD1⟩ := hB
  rw [ht] at hP1
  obtain ⟨hP2, hD2⟩ := va_join hP hD isC isR hC hR hnR hdis hk1 (va_free hD hS hA isC hC) hP1 hD1
  exact ⟨cal_sub hP2 isN hN, hD2.sub isN hnN hN⟩
theorem cI_callS {r : Int32} (E : ent_ p s m args meth c own cc nL ret Ts tys D A st) (hM : cI l D tys st y ws rm As wc w1 r) (cw : CallB R s args own index y bytes maxL retY ws rm rm.cells rm.slots n ∧ (Cond.static y).before args s = true)
    (hP : va_P D vwCl ww H) (hD : va_D A ww) (hS : va_S A s.heap H locs) (isC isR isN : List Nat) (hC : isC.map (fun i => ww[i]?) = wc.map some) (hR : isR.map (fun i => ww[i]?) = wr.map some) (hnC : va_nd isC = true) (hnR : va_nd isR = true) (hdis : ∀ i ∈ isR, i ∉ isC)
    (hN : isN.map (fun i => (wr ++ w1)[i]?) = wN.map some) (hnN : va_nd isN = true) (hlen : As.length = n) (hsz : ls.size = nL) (hstk : stk = As.reverse ++ rest) (hW : (rest.map fun v => v.category).sum ≤ 8) (hdg : decode cc pc = .ok (.invokestatic index, 3)) (hf : cells + rm.cells ≤ R.cells ∧ slots + rm.slots ≤ R.slots)
    (kk : ∀ (H1 : Heap) (locs1 : List Loc), va_P D vwCl wN H1 → va_D A wN → va_S A s.heap H1 locs1 → W p l e R s m args below meth c H1 locs1 (cells + rm.cells) (slots + rm.slots) Q (F0 m (pc + 3) ls (.int r :: rest))) : W p l e R s m args below meth c H locs cells slots Q (F0 m pc ls stk) := by
  obtain ⟨hPc, hFc, hbl, hpre⟩ := cal_pre (av := As) E hP hD hS isC hC hnC
  obtain ⟨hx, hb, hml, hown, hts, -⟩ := id E
  refine va_calli (va_runS (As := As) (rest := rest) ⟨hx, hb, hml, hown, hts⟩ (hM H.size) cw ⟨hbl, hpre⟩ rfl hlen hsz hstk (lv_room hW) hdg hf) hS (fun q _ h => hFc q h) hFc (fun x u t H1 locs1 ht hvm hw hB hz1 hk1 hS1 => ?_)
  subst hw
  obtain ⟨hP1, hD1⟩ := cal_fin E hP hD hS isC isR isN hC hR hnR hdis hN hnN ht hB hk1
  exact kk H1 locs1 hP1 hD1 hS1
theorem cI_callV {r : Int32} {ci q0 : Nat} {cq : vw_C} {fs : List Value} (E : ent_ p s m args meth c own cc nL ret Ts tys D A st) (hM : cI l D tys st y ws rm (.ref b :: As) wc w1 r) (cw : CallW R s args own cq.1 index y bytes maxL retY ws rm rm.cells rm.slots n)
    (hP : va_P D vwCl ww H) (hD : va_D A ww) (hS : va_S A s.heap H locs) (isC isR isN : List Nat) (hC : isC.map (fun i => ww[i]?) = wc.map some) (hR : isR.map (fun i => ww[i]?) = wr.map some) (hnC : va_nd isC = true) (hnR : va_nd isR = true) (hdis : ∀ i ∈ isR, i ∉ isC)
    (hN : isN.map (fun i => (wr ++ w1)[i]?) = wN.map some) (hnN : va_nd isN = true) (hcq : vwCl[ci]? = some cq) (hq0 : ww[q0]? = some (b, .inr (ci, fs))) (hlen : As.length = n) (hsz : ls.size = nL) (hstk : stk = As.reverse ++ .ref b :: rest) (hW : (rest.map fun v => v.category).sum ≤ 8) (hdg : decode cc pc = .ok (.invokevirtual index, 3)) (hf : cells + rm.cells ≤ R.cells ∧ slots + rm.slots ≤ R.slots)
    (kk : ∀ (H1 : Heap) (locs1 : List Loc), va_P D vwCl wN H1 → va_D A wN → va_S A s.heap H1 locs1 → W p l e R s m args below meth c H1 locs1 (cells + rm.cells) (slots + rm.slots) Q (F0 m (pc + 3) ls (.int r :: rest))) : W p l e R s m args below meth c H locs cells slots Q (F0 m pc ls stk) := by
  obtain ⟨hPc, hFc, hbl, hpre⟩ := cal_pre (av := .ref b :: As) E hP hD hS isC hC hnC
  obtain ⟨hx, hb, hml, hown, hts, -, -, hK, -⟩ := id E
  refine va_calli (va_runV (As := As) (rest := rest) ⟨hx, hb, hml, hown, hts⟩ (hM H.size) cw ⟨hbl, va_recv hK hP hcq hq0, hpre⟩ rfl hlen hsz hstk (lv_room hW) hdg hf) hS (fun q _ h => hFc q h) hFc (fun x u t H1 locs1 ht hvm hw hB hz1 hk1 hS1 => ?_)
  subst hw
  obtain ⟨hP1, hD1⟩ := cal_fin E hP hD hS isC isR isN hC hR hnR hdis hN hnN ht hB hk1
  exact kk H1 locs1 hP1 hD1 hS1
theorem cL_callS {r : Int64} (E : ent_ p s m args meth c own cc nL ret Ts tys D A st) (hM : cL l D tys st y ws rm As wc w1 r) (cw : CallB R s args own index y bytes maxL retY ws rm rm.cells rm.slots n ∧ (Cond.static y).before args s = true)
    (hP : va_P D vwCl ww H) (hD : va_D A ww) (hS : va_S A s.heap H locs) (isC isR isN : List Nat) (hC : isC.map (fun i => ww[i]?) = wc.map some) (hR : isR.map (fun i => ww[i]?) = wr.map some) (hnC : va_nd isC = true) (hnR : va_nd isR = true) (hdis : ∀ i ∈ isR, i ∉ isC)
    (hN : isN.map (fun i => (wr ++ w1)[i]?) = wN.map some) (hnN : va_nd isN = true) (hlen : As.length = n) (hsz : ls.size = nL) (hstk : stk = As.reverse ++ rest) (hW : (rest.map fun v => v.category).sum ≤ 8) (hdg : decode cc pc = .ok (.invokestatic index, 3)) (hf : cells + rm.cells ≤ R.cells ∧ slots + rm.slots ≤ R.slots)
    (kk : ∀ (H1 : Heap) (locs1 : List Loc), va_P D vwCl wN H1 → va_D A wN → va_S A s.heap H1 locs1 → W p l e R s m args below meth c H1 locs1 (cells + rm.cells) (slots + rm.slots) Q (F0 m (pc + 3) ls (.long r :: rest))) : W p l e R s m args below meth c H locs cells slots Q (F0 m pc ls stk) := by
  obtain ⟨hPc, hFc, hbl, hpre⟩ := cal_pre (av := As) E hP hD hS isC hC hnC
  obtain ⟨hx, hb, hml, hown, hts, -⟩ := id E
  refine va_calll (va_runS (As := As) (rest := rest) ⟨hx, hb, hml, hown, hts⟩ (hM H.size) cw ⟨hbl, hpre⟩ rfl hlen hsz hstk (lv_room hW) hdg hf) hS (fun q _ h => hFc q h) hFc (fun x u t H1 locs1 ht hvm hw hB hz1 hk1 hS1 => ?_)
  subst hw
  obtain ⟨hP1, hD1⟩ := cal_fin E hP hD hS isC isR isN hC hR hnR hdis hN hnN ht hB hk1
  exact kk H1 locs1 hP1 hD1 hS1
theorem cL_callV {r : Int64} {ci q0 : Nat} {cq : vw_C} {fs : List Value} (E : ent_ p s m args meth c own cc nL ret Ts tys D A st) (hM : cL l D tys st y ws rm (.ref b :: As) wc w1 r) (cw : CallW R s args own cq.1 index y bytes maxL retY ws rm rm.cells rm.slots n)
    (hP : va_P D vwCl ww H) (hD : va_D A ww) (hS : va_S A s.heap H locs) (isC isR isN : List Nat) (hC : isC.map (fun i => ww[i]?) = wc.map some) (hR : isR.map (fun i => ww[i]?) = wr.map some) (hnC : va_nd isC = true) (hnR : va_nd isR = true) (hdis : ∀ i ∈ isR, i ∉ isC)
    (hN : isN.map (fun i => (wr ++ w1)[i]?) = wN.map some) (hnN : va_nd isN = true) (hcq : vwCl[ci]? = some cq) (hq0 : ww[q0]? = some (b, .inr (ci, fs))) (hlen : As.length = n) (hsz : ls.size = nL) (hstk : stk = As.reverse ++ .ref b :: rest) (hW : (rest.map fun v => v.category).sum ≤ 8) (hdg : decode cc pc = .ok (.invokevirtual index, 3)) (hf : cells + rm.cells ≤ R.cells ∧ slots + rm.slots ≤ R.slots)
    (kk : ∀ (H1 : Heap) (locs1 : List Loc), va_P D vwCl wN H1 → va_D A wN → va_S A s.heap H1 locs1 → W p l e R s m args below meth c H1 locs1 (cells + rm.cells) (slots + rm.slots) Q (F0 m (pc + 3) ls (.long r :: rest))) : W p l e R s m args below meth c H locs cells slots Q (F0 m pc ls stk) := by
  obtain ⟨hPc, hFc, hbl, hpre⟩ := cal_pre (av := .ref b :: As) E hP hD hS isC hC hnC
  obtain ⟨hx, hb, hml, hown, hts, -, -, hK, -⟩ := id E
  refine va_calll (va_runV (As := As) (rest := rest) ⟨hx, hb, hml, hown, hts⟩ (hM H.size) cw ⟨hbl, va_recv hK hP hcq hq0, hpre⟩ rfl hlen hsz hstk (lv_room hW) hdg hf) hS (fun q _ h => hFc q h) hFc (fun x u t H1 locs1 ht hvm hw hB hz1 hk1 hS1 => ?_)
  subst hw
  obtain ⟨hP1, hD1⟩ := cal_fin E hP hD hS isC isR isN hC hR hnR hdis hN hnN ht hB hk1
  exact kk H1 locs1 hP1 hD1 hS1
theorem cD_callS {r : UInt64} (E : ent_ p s m args meth c own cc nL ret Ts tys D A st) (hM : cD l D tys st y ws rm As wc w1 r) (cw : CallB R s args own index y bytes maxL retY ws rm rm.cells rm.slots n ∧ (Cond.static y).before args s = true)
    (hP : va_P D vwCl ww H) (hD : va_D A ww) (hS : va_S A s.heap H locs) (isC isR isN : List Nat) (hC : isC.map (fun i => ww[i]?) = wc.map some) (hR : isR.map (fun i => ww[i]?) = wr.map some) (hnC : va_nd isC = true) (hnR : va_nd isR = true) (hdis : ∀ i ∈ isR, i ∉ isC)
    (hN : isN.map (fun i => (wr ++ w1)[i]?) = wN.map some) (hnN : va_nd isN = true) (hlen : As.length = n) (hsz : ls.size = nL) (hstk : stk = As.reverse ++ rest) (hW : (rest.map fun v => v.category).sum ≤ 8) (hdg : decode cc pc = .ok (.invokestatic index, 3)) (hf : cells + rm.cells ≤ R.cells ∧ slots + rm.slots ≤ R.slots)
    (kk : ∀ (H1 : Heap) (locs1 : List Loc), va_P D vwCl wN H1 → va_D A wN → va_S A s.heap H1 locs1 → W p l e R s m args below meth c H1 locs1 (cells + rm.cells) (slots + rm.slots) Q (F0 m (pc + 3) ls (.double r :: rest))) : W p l e R s m args below meth c H locs cells slots Q (F0 m pc ls stk) := by
  obtain ⟨hPc, hFc, hbl, hpre⟩ := cal_pre (av := As) E hP hD hS isC hC hnC
  obtain ⟨hx, hb, hml, hown, hts, -⟩ := id E
  refine va_calld (va_runS (As := As) (rest := rest) ⟨hx, hb, hml, hown, hts⟩ (hM H.size) cw ⟨hbl, hpre⟩ rfl hlen hsz hstk (lv_room hW) hdg hf) hS (fun q _ h => hFc q h) hFc (fun x u t H1 locs1 ht hvm hw hB hz1 hk1 hS1 => ?_)
  subst hw
  obtain ⟨hP1, hD1⟩ := cal_fin E hP hD hS isC isR isN hC hR hnR hdis hN hnN ht hB hk1
  exact kk H1 locs1 hP1 hD1 hS1
theorem cD_callV {r : UInt64} {ci q0 : Nat} {cq : vw_C} {fs : List Value} (E : ent_ p s m args meth c own cc nL ret Ts tys D A st) (hM : cD l D tys st y ws rm (.ref b :: As) wc w1 r) (cw : CallW R s args own cq.1 index y bytes maxL retY ws rm rm.cells rm.slots n)
    (hP : va_P D vwCl ww H) (hD : va_D A ww) (hS : va_S A s.heap H locs) (isC isR isN : List Nat) (hC : isC.map (fun i => ww[i]?) = wc.map some) (hR : isR.map (fun i => ww[i]?) = wr.map some) (hnC : va_nd isC = true) (hnR : va_nd isR = true) (hdis : ∀ i ∈ isR, i ∉ isC)
    (hN : isN.map (fun i => (wr ++ w1)[i]?) = wN.map some) (hnN : va_nd isN = true) (hcq : vwCl[ci]? = some cq) (hq0 : ww[q0]? = some (b, .inr (ci, fs))) (hlen : As.length = n) (hsz : ls.size = nL) (hstk : stk = As.reverse ++ .ref b :: rest) (hW : (rest.map fun v => v.category).sum ≤ 8) (hdg : decode cc pc = .ok (.invokevirtual index, 3)) (hf : cells + rm.cells ≤ R.cells ∧ slots + rm.slots ≤ R.slots)
    (kk : ∀ (H1 : Heap) (locs1 : List Loc), va_P D vwCl wN H1 → va_D A wN → va_S A s.heap H1 locs1 → W p l e R s m args below meth c H1 locs1 (cells + rm.cells) (slots + rm.slots) Q (F0 m (pc + 3) ls (.double r :: rest))) : W p l e R s m args below meth c H locs cells slots Q (F0 m pc ls stk) := by
  obtain ⟨hPc, hFc, hbl, hpre⟩ := cal_pre (av := .ref b :: As) E hP hD hS isC hC hnC
  obtain ⟨hx, hb, hml, hown, hts, -, -, hK, -⟩ := id E
  refine va_calld (va_runV (As := As) (rest := rest) ⟨hx, hb, hml, hown, hts⟩ (hM H.size) cw ⟨hbl, va_recv hK hP hcq hq0, hpre⟩ rfl hlen hsz hstk (lv_room hW) hdg hf) hS (fun q _ h => hFc q h) hFc (fun x u t H1 locs1 ht hvm hw hB hz1 hk1 hS1 => ?_)
  subst hw
  obtain ⟨hP1, hD1⟩ := cal_fin E hP hD hS isC isR isN hC hR hnR hdis hN hnN ht hB hk1
  exact kk H1 locs1 hP1 hD1 hS1
theorem cV_callS (E : ent_ p s m args meth c own cc nL ret Ts tys D A st) (hM : cV l D tys st y ws rm As wc w1) (cw : CallB R s args own index y bytes maxL retY ws rm rm.cells rm.slots n ∧ (Cond.static y).before args s = true)
    (hP : va_P D vwCl ww H) (hD : va_D A ww) (hS : va_S A s.heap H locs) (isC isR isN : List Nat) (hC : isC.map (fun i => ww[i]?) = wc.map some) (hR : isR.map (fun i => ww[i]?) = wr.map some) (hnC : va_nd isC = true) (hnR : va_nd isR = true) (hdis : ∀ i ∈ isR, i ∉ isC)
    (hN : isN.map (fun i => (wr ++ w1)[i]?) = wN.map some) (hnN : va_nd isN = true) (hlen : As.length = n) (hsz : ls.size = nL) (hstk : stk = As.reverse ++ rest) (hW : (rest.map fun v => v.category).sum ≤ 8) (hdg : decode cc pc = .ok (.invokestatic index, 3)) (hf : cells + rm.cells ≤ R.cells ∧ slots + rm.slots ≤ R.slots)
    (kk : ∀ (H1 : Heap) (locs1 : List Loc), va_P D vwCl wN H1 → va_D A wN → va_S A s.heap H1 locs1 → W p l e R s m args below meth c H1 locs1 (cells + rm.cells) (slots + rm.slots) Q (F0 m (pc + 3) ls (rest))) : W p l e R s m args below meth c H locs cells slots Q (F0 m pc ls stk) := by
  obtain ⟨hPc, hFc, hbl, hpre⟩ := cal_pre (av := As) E hP hD hS isC hC hnC
  obtain ⟨hx, hb, hml, hown, hts, -⟩ := id E
  refine va_callv (va_runS (As := As) (rest := rest) ⟨hx, hb, hml, hown, hts⟩ (hM H.size) cw ⟨hbl, hpre⟩ rfl hlen hsz hstk (lv_room hW) hdg hf) hS (fun q _ h => hFc q h) hFc (fun u t H1 locs1 ht hvm hw hB hz1 hk1 hS1 => ?_)
  obtain ⟨hP1, hD1⟩ := cal_fin E hP hD hS isC isR isN hC hR hnR hdis hN hnN ht hB hk1
  exact kk H1 locs1 hP1 hD1 hS1
theorem cV_callV {ci q0 : Nat} {cq : vw_C} {fs : List Value} (E : ent_ p s m args meth c own cc nL ret Ts tys D A st) (hM : cV l D tys st y ws rm (.ref b :: As) wc w1) (cw : CallW R s args own cq.1 index y bytes maxL retY ws rm rm.cells rm.slots n)
    (hP : va_P D vwCl ww H) (hD : va_D A ww) (hS : va_S A s.heap H locs) (isC isR isN : List Nat) (hC : isC.map (fun i => ww[i]?) = wc.map some) (hR : isR.map (fun i => ww[i]?) = wr.map some) (hnC : va_nd isC = true) (hnR : va_nd isR = true) (hdis : ∀ i ∈ isR, i ∉ isC)
    (hN : isN.map (fun i => (wr ++ w1)[i]?) = wN.map some) (hnN : va_nd isN = true) (hcq : vwCl[ci]? = some cq) (hq0 : ww[q0]? = some (b, .inr (ci, fs))) (hlen : As.length = n) (hsz : ls.size = nL) (hstk : stk = As.reverse ++ .ref b :: rest) (hW : (rest.map fun v => v.category).sum ≤ 8) (hdg : decode cc pc = .ok (.invokevirtual index, 3)) (hf : cells + rm.cells ≤ R.cells ∧ slots + rm.slots ≤ R.slots)
    (kk : ∀ (H1 : Heap) (locs1 : List Loc), va_P D vwCl wN H1 → va_D A wN → va_S A s.heap H1 locs1 → W p l e R s m args below meth c H1 locs1 (cells + rm.cells) (slots + rm.slots) Q (F0 m (pc + 3) ls (rest))) : W p l e R s m args below meth c H locs cells slots Q (F0 m pc ls stk) := by
  obtain ⟨hPc, hFc, hbl, hpre⟩ := cal_pre (av := .ref b :: As) E hP hD hS isC hC hnC
  obtain ⟨hx, hb, hml, hown, hts, -, -, hK, -⟩ := id E
  refine va_callv (va_runV (As := As) (rest := rest) ⟨hx, hb, hml, hown, hts⟩ (hM H.size) cw ⟨hbl, va_recv hK hP hcq hq0, hpre⟩ rfl hlen hsz hstk (lv_room hW) hdg hf) hS (fun q _ h => hFc q h) hFc (fun u t H1 locs1 ht hvm hw hB hz1 hk1 hS1 => ?_)
  obtain ⟨hP1, hD1⟩ := cal_fin E hP hD hS isC isR isN hC hR hnR hdis hN hnN ht hB hk1
  exact kk H1 locs1 hP1 hD1 hS1
theorem cI_callSN {r : Int32} (E : ent_ p s m args meth c own cc nL ret Ts tys D A true) (hM : cI l D tys true y ws rm As wc w1 r) (cw : va_CN R s args own index y "GateMaze" bytes maxL retY ws rm rm.cells rm.slots n ∧ (Cond.static y).before args s = true ∧ True)
    (hP : va_P D vwCl ww H) (hD : va_D A ww) (hS : va_S A s.heap H locs) (isC isR isN : List Nat) (hC : isC.map (fun i => ww[i]?) = wc.map some) (hR : isR.map (fun i => ww[i]?) = wr.map some) (hnC : va_nd isC = true) (hnR : va_nd isR = true) (hdis : ∀ i ∈ isR, i ∉ isC)
    (hN : isN.map (fun i => (wr ++ w1)[i]?) = wN.map some) (hnN : va_nd isN = true) (hlen : As.length = n) (hsz : ls.size = nL) (hstk : stk = As.reverse ++ rest) (hW : (rest.map fun v => v.category).sum ≤ 8) (hdg : decode cc pc = .ok (.invokestatic index, 3)) (hf : cells + rm.cells ≤ R.cells ∧ slots + rm.slots ≤ R.slots)
    (kk : ∀ (H1 : Heap) (locs1 : List Loc), va_P D vwCl wN H1 → va_D A wN → va_S A s.heap H1 locs1 → W p l e R s m args below meth c H1 locs1 (cells + rm.cells) (slots + rm.slots) Q (F0 m (pc + 3) ls (.int r :: rest))) : W p l e R s m args below meth c H locs cells slots Q (F0 m pc ls stk) := by
  obtain ⟨hPc, hFc, hbl, hpre⟩ := cal_pre (av := As) E hP hD hS isC hC hnC
  obtain ⟨hx, hb, hml, hown, hts, -⟩ := id E
  refine va_calli (va_runSN (As := As) (rest := rest) ⟨hx, hb, hml, hown, hts⟩ (hM H.size) cw ⟨hbl, hpre⟩ rfl hlen hsz hstk (lv_room hW) hdg hf) hS (fun q _ h => hFc q h) hFc (fun x u t H1 locs1 ht hvm hw hB hz1 hk1 hS1 => ?_)
  subst hw
  obtain ⟨hP1, hD1⟩ := cal_fin E hP hD hS isC isR isN hC hR hnR hdis hN hnN ht hB hk1
  exact kk H1 locs1 hP1 hD1 hS1
theorem cL_callSN {r : Int64} (E : ent_ p s m args meth c own cc nL ret Ts tys D A true) (hM : cL l D tys true y ws rm As wc w1 r) (cw : va_CN R s args own index y "GateMaze" bytes maxL retY ws rm rm.cells rm.slots n ∧ (Cond.static y).before args s = true ∧ True)
    (hP : va_P D vwCl ww H) (hD : va_D A ww) (hS : va_S A s.heap H locs) (isC isR isN : List Nat) (hC : isC.map (fun i => ww[i]?) = wc.map some) (hR : isR.map (fun i => ww[i]?) = wr.map some) (hnC : va_nd isC = true) (hnR : va_nd isR = true) (hdis : ∀ i ∈ isR, i ∉ isC)
    (hN : isN.map (fun i => (wr ++ w1)[i]?) = wN.map some) (hnN : va_nd isN = true) (hlen : As.length = n) (hsz : ls.size = nL) (hstk : stk = As.reverse ++ rest) (hW : (rest.map fun v => v.category).sum ≤ 8) (hdg : decode cc pc = .ok (.invokestatic index, 3)) (hf : cells + rm.cells ≤ R.cells ∧ slots + rm.slots ≤ R.slots)
    (kk : ∀ (H1 : Heap) (locs1 : List Loc), va_P D vwCl wN H1 → va_D A wN → va_S A s.heap H1 locs1 → W p l e R s m args below meth c H1 locs1 (cells + rm.cells) (slots + rm.slots) Q (F0 m (pc + 3) ls (.long r :: rest))) : W p l e R s m args below meth c H locs cells slots Q (F0 m pc ls stk) := by
  obtain ⟨hPc, hFc, hbl, hpre⟩ := cal_pre (av := As) E hP hD hS isC hC hnC
  obtain ⟨hx, hb, hml, hown, hts, -⟩ := id E
  refine va_calll (va_runSN (As := As) (rest := rest) ⟨hx, hb, hml, hown, hts⟩ (hM H.size) cw ⟨hbl, hpre⟩ rfl hlen hsz hstk (lv_room hW) hdg hf) hS (fun q _ h => hFc q h) hFc (fun x u t H1 locs1 ht hvm hw hB hz1 hk1 hS1 => ?_)
  subst hw
  obtain ⟨hP1, hD1⟩ := cal_fin E hP hD hS isC isR isN hC hR hnR hdis hN hnN ht hB hk1
  exact kk H1 locs1 hP1 hD1 hS1
theorem cR_callV {r : Nat} {ci q0 : Nat} {cq : vw_C} {fs : List Value} (E : ent_ p s m args meth c own cc nL ret Ts tys D A st) (hM : cR l D tys st y ws rm (.ref b :: As) wc w1 r) (cw : CallW R s args own cq.1 index y bytes maxL retY ws rm rm.cells rm.slots n)
    (hP : va_P D vwCl ww H) (hD : va_D A ww) (hS : va_S A s.heap H locs) (isC isR isN : List Nat) (hC : isC.map (fun i => ww[i]?) = wc.map some) (hR : isR.map (fun i => ww[i]?) = wr.map some) (hnC : va_nd isC = true) (hnR : va_nd isR = true) (hdis : ∀ i ∈ isR, i ∉ isC)
    (hN : isN.map (fun i => (wr ++ w1)[i]?) = wN.map some) (hnN : va_nd isN = true) (hcq : vwCl[ci]? = some cq) (hq0 : ww[q0]? = some (b, .inr (ci, fs))) (hlen : As.length = n) (hsz : ls.size = nL) (hstk : stk = As.reverse ++ .ref b :: rest) (hW : (rest.map fun v => v.category).sum ≤ 8) (hdg : decode cc pc = .ok (.invokevirtual index, 3)) (hf : cells + rm.cells ≤ R.cells ∧ slots + rm.slots ≤ R.slots)
    (kk : ∀ (H1 : Heap) (locs1 : List Loc), va_P D vwCl wN H1 → va_D A wN → va_S A s.heap H1 locs1 → W p l e R s m args below meth c H1 locs1 (cells + rm.cells) (slots + rm.slots) Q (F0 m (pc + 3) ls (.ref r :: rest))) : W p l e R s m args below meth c H locs cells slots Q (F0 m pc ls stk) := by
  obtain ⟨hPc, hFc, hbl, hpre⟩ := cal_pre (av := .ref b :: As) E hP hD hS isC hC hnC
  obtain ⟨hx, hb, hml, hown, hts, -, -, hK, -⟩ := id E
  refine va_callr (va_runV (As := As) (rest := rest) ⟨hx, hb, hml, hown, hts⟩ (hM H.size) cw ⟨hbl, va_recv hK hP hcq hq0, hpre⟩ rfl hlen hsz hstk (lv_room hW) hdg hf) hS (fun q _ h => hFc q h) hFc (fun u x t H1 locs1 ht hvm hw hB hz1 hk1 hS1 => ?_)
  obtain ⟨rfl, hB⟩ := hB
  obtain ⟨hP1, hD1⟩ := cal_fin E hP hD hS isC isR isN hC hR hnR hdis hN hnN ht hB hk1
  exact kk H1 locs1 hP1 hD1 hS1
end CAL

