/-- a point of a method's walk: from any heap that holds the world -/
def wAt (p : Program) (l : Launch) (e : Env) (R : Room) (s : State) (m : MethodId) (args : Array Value) (below : List Frame) (meth : Method) (c : Code) (D : va_G) (A : Nat → Prop) (nL cells slots : Nat) (Q : State → Prop) (pc : Nat) (stk : List Value) (lo : List (Nat × Value)) (Wd : va_W) : Prop :=
  ∀ (H : Heap) (locs : List Loc) (ls : Array Slot), va_P D vwCl Wd H → va_D A Wd → va_S A s.heap H locs → lv_has ls nL lo → W p l e R s m args below meth c H locs cells slots Q (F0 m pc ls stk)
theorem i32_ne {x : Int32} {n : Int} (h : ¬ x = Int32.ofInt n) (h1 : -2147483648 ≤ n) (h2 : n < 2147483648) : x.toInt ≠ n := by
  intro e
  exact h (by rw [← e, Int32.ofInt_toInt])


theorem sw_out {x : Int32} {lo hi : Int} (vs : List Int32) (h1 : -2147483648 ≤ lo) (h2 : hi < 2147483648) (hv : (vs.map (fun v => v.toInt)) = (List.range (hi + 1 - lo).toNat).map (fun (k : Nat) => lo + (k : Int))) (h : vs.foldr (fun v P => ¬ x = v ∧ P) True) : x.toInt < lo ∨ hi < x.toInt := by
  by_cases ha : x.toInt < lo
  · exact Or.inl ha
  by_cases hb : hi < x.toInt
  · exact Or.inr hb
  exfalso
  have hall : ∀ (l : List Int32), l.foldr (fun v P => ¬ x = v ∧ P) True → ∀ v ∈ l, ¬ x = v := by
    intro l
    induction l with
    | nil => intro _ v hv; cases hv
    | cons a l ih =>
      intro hh v hv
      rcases List.mem_cons.mp hv with rfl | hv
      · exact hh.1
      · exact ih hh.2 v hv
  have hm : x.toInt ∈ vs.map (fun v => v.toInt) := by
    rw [hv]
    refine List.mem_map.mpr ⟨(x.toInt - lo).toNat, List.mem_range.mpr (by omega), by omega⟩
  obtain ⟨v, hv1, hv2⟩ := List.mem_map.mp hm
  exact hall vs h v hv1 (Int32.toInt_inj.mp hv2.symm)
section TBV
variable {p : Program} {l : Launch} {e : Env} {R : Room} {s : State} {m : MethodId} {args : Array Value} {below : List Frame} {meth : Method} {c : Code} {H : Heap} {locs : List Loc} {cells slots : Nat} {Q : State → Prop} {cc : ByteArray} {pc : Nat} {ls : Array Slot} {rest : List Value}
theorem lv_tableV (hexec : p.tables.exec = Jvm.exec) (hb : c.code = cc) {dflt lo hi : Int} {offs : Array Int} {len : Nat} {x v : Int32} {off : Int} {tgt : Nat} (hdg : decode cc pc = .ok (.tableswitch dflt lo hi offs, len)) (hv : x = v) (h1 : ¬ v.toInt < lo) (h2 : ¬ hi < v.toInt) (ho : offs[(v.toInt - lo).toNat]? = some off) (ht : (pc : Int) + off = (tgt : Int))
    (k : W p l e R s m args below meth c H locs cells slots Q (F0 m tgt ls rest)) : W p l e R s m args below meth c H locs cells slots Q (F0 m pc ls (.int x :: rest)) := by
  subst hv
  exact lv_tableIn hexec hb hdg h1 h2 ho ht k
end TBV
section LKV
variable {p : Program} {l : Launch} {e : Env} {R : Room} {s : State} {m : MethodId} {args : Array Value} {below : List Frame} {meth : Method} {c : Code} {H : Heap} {locs : List Loc} {cells slots : Nat} {Q : State → Prop} {cc : ByteArray} {pc : Nat} {ls : Array Slot} {rest : List Value}
theorem lv_lookV (hexec : p.tables.exec = Jvm.exec) (hb : c.code = cc) {dflt : Int} {ps : Array (Int × Int)} {len : Nat} {x v : Int32} {off : Int} {tgt : Nat} (hdg : decode cc pc = .ok (.lookupswitch dflt ps, len)) (hp : (ps.toList.zip (ps.toList.drop 1)).all (fun (a, next) => a.1 < next.1) = true) (hv : x = v) (ho : Op.lookupswitch.offset ps.toList dflt v.toInt = off) (ht : (pc : Int) + off = (tgt : Int))
    (k : W p l e R s m args below meth c H locs cells slots Q (F0 m tgt ls rest)) : W p l e R s m args below meth c H locs cells slots Q (F0 m pc ls (.int x :: rest)) := by
  subst hv
  exact lv_lookup hexec hb hdg hp ho ht k
end LKV
theorem look2 {x : Int32} {o0 o1 d : Int} (h0 : ¬ x = 0) (h1 : ¬ x = 1) : Op.lookupswitch.offset [(0, o0), (1, o1)] d x.toInt = d := by
  rw [Op.lookupswitch.offset_cons, if_neg (fun e => i32_ne (n := 0) h0 (by decide) (by decide) e.symm), Op.lookupswitch.offset_cons, if_neg (fun e => i32_ne (n := 1) h1 (by decide) (by decide) e.symm), Op.lookupswitch.offset_nil]

