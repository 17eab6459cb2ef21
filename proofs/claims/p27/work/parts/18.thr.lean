/-! ===== worlds with a tail; methods that return or throw ===== -/
theorem va_P.left {D : va_G} {cl : List vw_C} {a b : va_W} {H : Heap} (h : va_P D cl (a ++ b) H) : va_P D cl a H := fun k q hk => h k q (by rw [List.getElem?_append_left (List.getElem?_eq_some_iff.mp hk).1]; exact hk)
theorem va_P.right {D : va_G} {cl : List vw_C} {a b : va_W} {H : Heap} (h : va_P D cl (a ++ b) H) : va_P D cl b H := fun k q hk => h (a.length + k) q (by rw [List.getElem?_append_right (by omega)]; rw [show a.length + k - a.length = k by omega]; exact hk)
theorem va_D.left {A : Nat → Prop} {a b : va_W} (h : va_D A (a ++ b)) : va_D A a := by
  have key : ∀ (k : Nat) (q : Nat × va_E), a[k]? = some q → (a ++ b)[k]? = some q := fun k q hk => by rw [List.getElem?_append_left (List.getElem?_eq_some_iff.mp hk).1]; exact hk
  exact ⟨fun i j p q hi hj e => h.1 i j p q (key i p hi) (key j q hj) e, fun k q hk => h.2 k q (key k q hk)⟩
theorem va_D.right {A : Nat → Prop} {a b : va_W} (h : va_D A (a ++ b)) : va_D A b := by
  have key : ∀ (k : Nat) (q : Nat × va_E), b[k]? = some q → (a ++ b)[a.length + k]? = some q := fun k q hk => by rw [List.getElem?_append_right (by omega), show a.length + k - a.length = k by omega]; exact hk
  exact ⟨fun i j p q hi hj e => by have := h.1 _ _ p q (key i p hi) (key j q hj) e; omega, fun k q hk => h.2 _ q (key k q hk)⟩
theorem va_D.apart {A : Nat → Prop} {a b : va_W} (h : va_D A (a ++ b)) {i j : Nat} {p q : Nat × va_E} (hi : a[i]? = some p) (hj : b[j]? = some q) : p.1 ≠ q.1 := by
  intro e
  have hil := (List.getElem?_eq_some_iff.mp hi).1
  have h1 : (a ++ b)[i]? = some p := by rw [List.getElem?_append_left hil]; exact hi
  have h2 : (a ++ b)[a.length + j]? = some q := by rw [List.getElem?_append_right (by omega), show a.length + j - a.length = j by omega]; exact hj
  have := h.1 _ _ p q h1 h2 e
  omega
theorem ap_get {ww tl : va_W} {q0 : Nat} {x : Nat × va_E} (h : ww[q0]? = some x) : (ww ++ tl)[q0]? = some x := by rw [List.getElem?_append_left (List.getElem?_eq_some_iff.mp h).1]; exact h
theorem ap_map {ww tl wc : va_W} {isC : List Nat} (hC : isC.map (fun i => ww[i]?) = wc.map some) : isC.map (fun i => (ww ++ tl)[i]?) = wc.map some := by
  rw [← hC]
  refine List.map_congr_left fun i hi => ?_
  have hm : ww[i]? ∈ isC.map (fun i => ww[i]?) := List.mem_map.mpr ⟨i, hi, rfl⟩
  rw [hC] at hm
  obtain ⟨x, -, hx⟩ := List.mem_map.mp hm
  rw [← hx]
  exact ap_get hx.symm
theorem at_map {ww wc : va_W} {isC : List Nat} (hC : isC.map (fun i => ww[i]?) = wc.map some) {k : Nat} {q : Nat × va_E} (hk : wc[k]? = some q) : ∃ i, isC[k]? = some i ∧ ww[i]? = some q := by
  have h1 : (isC.map (fun i => ww[i]?))[k]? = some (some q) := by rw [hC, List.getElem?_map, hk]; rfl
  rw [List.getElem?_map] at h1
  cases hi : isC[k]? with
  | none => rw [hi] at h1; cases h1
  | some i => rw [hi] at h1; exact ⟨i, rfl, Option.some.inj h1⟩
section CLT
variable {p : Program} {l : Launch} {e : Env} {R : Room} {s : State} {m : MethodId} {args : Array Value} {below : List Frame} {meth : Method} {c : Code} {H : Heap} {locs : List Loc} {cells slots : Nat} {Q : State → Prop}
  {D : va_G} {tys : List (ClassId × FieldType)} {st : Bool} {A : Nat → Prop} {cc bytes : ByteArray} {nL maxL index n pc : Nat} {own C : String} {ret retY : Option FieldType} {Ts ws : List Cond} {rm : Room} {y : MethodName} {ww wc wr w1 wN tl : va_W} {ls : Array Slot} {rest stk : List Value} {b : Nat} {As av : List Value}
theorem cal_finT (E : ent_ p s m args meth c own cc nL ret Ts tys D A st) (hP : va_P D vwCl (ww ++ tl) H) (hD : va_D A (ww ++ tl)) (hS : va_S A s.heap H locs) (isC isR isN : List Nat) (hC : isC.map (fun i => ww[i]?) = wc.map some) (hR : isR.map (fun i => ww[i]?) = wr.map some) (hnR : va_nd isR = true) (hdis : ∀ i ∈ isR, i ∉ isC)
    (hN : isN.map (fun i => (wr ++ w1)[i]?) = wN.map some) (hnN : va_nd isN = true) {t : State} {H1 : Heap} (ht : t.heap = H1) (hB : post_ D tys (va_A wc H.size) w1 t) (hk1 : ∀ q : Nat, q < H.size → ¬ va_A wc H.size q → H1[q]? = H[q]?) : va_P D vwCl (wN ++ tl) H1 ∧ va_D A (wN ++ tl) := by
  obtain ⟨hPn, hDn⟩ := cal_fin E hP.left hD.left hS isC isR isN hC hR hnR hdis hN hnN ht hB hk1
  have hna : ∀ (k : Nat) (q : Nat × va_E), tl[k]? = some q → q.1 < H.size ∧ ¬ va_A wc H.size q.1 := by
    intro k q hk
    have hlt := (hP.right k q hk).lt
    refine ⟨hlt, fun h => ?_⟩
    rcases h with ⟨k2, e2, h⟩ | h
    · obtain ⟨i, -, hi⟩ := at_map hC h
      exact hD.apart hi hk rfl
    · omega
  refine ⟨hPn.app (hP.right.kept fun k q hk => hk1 q.1 (hna k q hk).1 (hna k q hk).2), va_D.app hDn hD.right fun i j p q hi hj e => ?_⟩
  obtain ⟨i2, -, hi2⟩ := at_map hN hi
  by_cases hl : i2 < wr.length
  · rw [List.getElem?_append_left hl] at hi2
    obtain ⟨i3, -, hi3⟩ := at_map hR hi2
    exact hD.apart hi3 hj e
  · rw [List.getElem?_append_right (by omega)] at hi2
    exact (hna j q hj).2 (e ▸ hB.2.2.2 _ _ hi2)
theorem cI_callST {r : Int32} (E : ent_ p s m args meth c own cc nL ret Ts tys D A st) (hM : cI l D tys st y ws rm As wc w1 r) (cw : CallB R s args own index y bytes maxL retY ws rm rm.cells rm.slots n ∧ (Cond.static y).before args s = true)
    (hP : va_P D vwCl (ww ++ tl) H) (hD : va_D A (ww ++ tl)) (hS : va_S A s.heap H locs) (isC isR isN : List Nat) (hC : isC.map (fun i => ww[i]?) = wc.map some) (hR : isR.map (fun i => ww[i]?) = wr.map some) (hnC : va_nd isC = true) (hnR : va_nd isR = true) (hdis : ∀ i ∈ isR, i ∉ isC)
    (hN : isN.map (fun i => (wr ++ w1)[i]?) = wN.map some) (hnN : va_nd isN = true) (hlen : As.length = n) (hsz : ls.size = nL) (hstk : stk = As.reverse ++ rest) (hW : (rest.map fun v => v.category).sum ≤ 8) (hdg : decode cc pc = .ok (.invokestatic index, 3)) (hf : cells + rm.cells ≤ R.cells ∧ slots + rm.slots ≤ R.slots)
    (kk : ∀ (H1 : Heap) (locs1 : List Loc), va_P D vwCl (wN ++ tl) H1 → va_D A (wN ++ tl) → va_S A s.heap H1 locs1 → W p l e R s m args below meth c H1 locs1 (cells + rm.cells) (slots + rm.slots) Q (F0 m (pc + 3) ls (.int r :: rest))) : W p l e R s m args below meth c H locs cells slots Q (F0 m pc ls stk) := by
  obtain ⟨hPc, hFc, hbl, hpre⟩ := cal_pre (av := As) E hP hD hS isC (ap_map hC) hnC
  obtain ⟨hx, hb, hml, hown, hts, -⟩ := id E
  refine va_calli (va_runS (As := As) (rest := rest) ⟨hx, hb, hml, hown, hts⟩ (hM H.size) cw ⟨hbl, hpre⟩ rfl hlen hsz hstk (lv_room hW) hdg hf) hS (fun q _ h => hFc q h) hFc (fun x u t H1 locs1 ht hvm hw hB hz1 hk1 hS1 => ?_)
  subst hw
  obtain ⟨hP1, hD1⟩ := cal_finT E hP hD hS isC isR isN hC hR hnR hdis hN hnN ht hB hk1
  exact kk H1 locs1 hP1 hD1 hS1
theorem cI_callVT {r : Int32} {ci q0 : Nat} {cq : vw_C} {fs : List Value} (E : ent_ p s m args meth c own cc nL ret Ts tys D A st) (hM : cI l D tys st y ws rm (.ref b :: As) wc w1 r) (cw : CallW R s args own cq.1 index y bytes maxL retY ws rm rm.cells rm.slots n)
    (hP : va_P D vwCl (ww ++ tl) H) (hD : va_D A (ww ++ tl)) (hS : va_S A s.heap H locs) (isC isR isN : List Nat) (hC : isC.map (fun i => ww[i]?) = wc.map some) (hR : isR.map (fun i => ww[i]?) = wr.map some) (hnC : va_nd isC = true) (hnR : va_nd isR = true) (hdis : ∀ i ∈ isR, i ∉ isC)
    (hN : isN.map (fun i => (wr ++ w1)[i]?) = wN.map some) (hnN : va_nd isN = true) (hcq : vwCl[ci]? = some cq) (hq0 : ww[q0]? = some (b, .inr (ci, fs))) (hlen : As.length = n) (hsz : ls.size = nL) (hstk : stk = As.reverse ++ .ref b :: rest) (hW : (rest.map fun v => v.category).sum ≤ 8) (hdg : decode cc pc = .ok (.invokevirtual index, 3)) (hf : cells + rm.cells ≤ R.cells ∧ slots + rm.slots ≤ R.slots)
    (kk : ∀ (H1 : Heap) (locs1 : List Loc), va_P D vwCl (wN ++ tl) H1 → va_D A (wN ++ tl) → va_S A s.heap H1 locs1 → W p l e R s m args below meth c H1 locs1 (cells + rm.cells) (slots + rm.slots) Q (F0 m (pc + 3) ls (.int r :: rest))) : W p l e R s m args below meth c H locs cells slots Q (F0 m pc ls stk) := by
  obtain ⟨hPc, hFc, hbl, hpre⟩ := cal_pre (av := .ref b :: As) E hP hD hS isC (ap_map hC) hnC
  obtain ⟨hx, hb, hml, hown, hts, -, -, hK, -⟩ := id E
  refine va_calli (va_runV (As := As) (rest := rest) ⟨hx, hb, hml, hown, hts⟩ (hM H.size) cw ⟨hbl, va_recv hK hP hcq (ap_get hq0), hpre⟩ rfl hlen hsz hstk (lv_room hW) hdg hf) hS (fun q _ h => hFc q h) hFc (fun x u t H1 locs1 ht hvm hw hB hz1 hk1 hS1 => ?_)
  subst hw
  obtain ⟨hP1, hD1⟩ := cal_finT E hP hD hS isC isR isN hC hR hnR hdis hN hnN ht hB hk1
  exact kk H1 locs1 hP1 hD1 hS1
theorem cL_callST {r : Int64} (E : ent_ p s m args meth c own cc nL ret Ts tys D A st) (hM : cL l D tys st y ws rm As wc w1 r) (cw : CallB R s args own index y bytes maxL retY ws rm rm.cells rm.slots n ∧ (Cond.static y).before args s = true)
    (hP : va_P D vwCl (ww ++ tl) H) (hD : va_D A (ww ++ tl)) (hS : va_S A s.heap H locs) (isC isR isN : List Nat) (hC : isC.map (fun i => ww[i]?) = wc.map some) (hR : isR.map (fun i => ww[i]?) = wr.map some) (hnC : va_nd isC = true) (hnR : va_nd isR = true) (hdis : ∀ i ∈ isR, i ∉ isC)
    (hN : isN.map (fun i => (wr ++ w1)[i]?) = wN.map some) (hnN : va_nd isN = true) (hlen : As.length = n) (hsz : ls.size = nL) (hstk : stk = As.reverse ++ rest) (hW : (rest.map fun v => v.category).sum ≤ 8) (hdg : decode cc pc = .ok (.invokestatic index, 3)) (hf : cells + rm.cells ≤ R.cells ∧ slots + rm.slots ≤ R.slots)
    (kk : ∀ (H1 : Heap) (locs1 : List Loc), va_P D vwCl (wN ++ tl) H1 → va_D A (wN ++ tl) → va_S A s.heap H1 locs1 → W p l e R s m args below meth c H1 locs1 (cells + rm.cells) (slots + rm.slots) Q (F0 m (pc + 3) ls (.long r :: rest))) : W p l e R s m args below meth c H locs cells slots Q (F0 m pc ls stk) := by
  obtain ⟨hPc, hFc, hbl, hpre⟩ := cal_pre (av := As) E hP hD hS isC (ap_map hC) hnC
  obtain ⟨hx, hb, hml, hown, hts, -⟩ := id E
  refine va_calll (va_runS (As := As) (rest := rest) ⟨hx, hb, hml, hown, hts⟩ (hM H.size) cw ⟨hbl, hpre⟩ rfl hlen hsz hstk (lv_room hW) hdg hf) hS (fun q _ h => hFc q h) hFc (fun x u t H1 locs1 ht hvm hw hB hz1 hk1 hS1 => ?_)
  subst hw
  obtain ⟨hP1, hD1⟩ := cal_finT E hP hD hS isC isR isN hC hR hnR hdis hN hnN ht hB hk1
  exact kk H1 locs1 hP1 hD1 hS1
theorem cL_callVT {r : Int64} {ci q0 : Nat} {cq : vw_C} {fs : List Value} (E : ent_ p s m args meth c own cc nL ret Ts tys D A st) (hM : cL l D tys st y ws rm (.ref b :: As) wc w1 r) (cw : CallW R s args own cq.1 index y bytes maxL retY ws rm rm.cells rm.slots n)
    (hP : va_P D vwCl (ww ++ tl) H) (hD : va_D A (ww ++ tl)) (hS : va_S A s.heap H locs) (isC isR isN : List Nat) (hC : isC.map (fun i => ww[i]?) = wc.map some) (hR : isR.map (fun i => ww[i]?) = wr.map some) (hnC : va_nd isC = true) (hnR : va_nd isR = true) (hdis : ∀ i ∈ isR, i ∉ isC)
    (hN : isN.map (fun i => (wr ++ w1)[i]?) = wN.map some) (hnN : va_nd isN = true) (hcq : vwCl[ci]? = some cq) (hq0 : ww[q0]? = some (b, .inr (ci, fs))) (hlen : As.length = n) (hsz : ls.size = nL) (hstk : stk = As.reverse ++ .ref b :: rest) (hW : (rest.map fun v => v.category).sum ≤ 8) (hdg : decode cc pc = .ok (.invokevirtual index, 3)) (hf : cells + rm.cells ≤ R.cells ∧ slots + rm.slots ≤ R.slots)
    (kk : ∀ (H1 : Heap) (locs1 : List Loc), va_P D vwCl (wN ++ tl) H1 → va_D A (wN ++ tl) → va_S A s.heap H1 locs1 → W p l e R s m args below meth c H1 locs1 (cells + rm.cells) (slots + rm.slots) Q (F0 m (pc + 3) ls (.long r :: rest))) : W p l e R s m args below meth c H locs cells slots Q (F0 m pc ls stk) := by
  obtain ⟨hPc, hFc, hbl, hpre⟩ := cal_pre (av := .ref b :: As) E hP hD hS isC (ap_map hC) hnC
  obtain ⟨hx, hb, hml, hown, hts, -, -, hK, -⟩ := id E
  refine va_calll (va_runV (As := As) (rest := rest) ⟨hx, hb, hml, hown, hts⟩ (hM H.size) cw ⟨hbl, va_recv hK hP hcq (ap_get hq0), hpre⟩ rfl hlen hsz hstk (lv_room hW) hdg hf) hS (fun q _ h => hFc q h) hFc (fun x u t H1 locs1 ht hvm hw hB hz1 hk1 hS1 => ?_)
  subst hw
  obtain ⟨hP1, hD1⟩ := cal_finT E hP hD hS isC isR isN hC hR hnR hdis hN hnN ht hB hk1
  exact kk H1 locs1 hP1 hD1 hS1
theorem cD_callST {r : UInt64} (E : ent_ p s m args meth c own cc nL ret Ts tys D A st) (hM : cD l D tys st y ws rm As wc w1 r) (cw : CallB R s args own index y bytes maxL retY ws rm rm.cells rm.slots n ∧ (Cond.static y).before args s = true)
    (hP : va_P D vwCl (ww ++ tl) H) (hD : va_D A (ww ++ tl)) (hS : va_S A s.heap H locs) (isC isR isN : List Nat) (hC : isC.map (fun i => ww[i]?) = wc.map some) (hR : isR.map (fun i => ww[i]?) = wr.map some) (hnC : va_nd isC = true) (hnR : va_nd isR = true) (hdis : ∀ i ∈ isR, i ∉ isC)
    (hN : isN.map (fun i => (wr ++ w1)[i]?) = wN.map some) (hnN : va_nd isN = true) (hlen : As.length = n) (hsz : ls.size = nL) (hstk : stk = As.reverse ++ rest) (hW : (rest.map fun v => v.category).sum ≤ 8) (hdg : decode cc pc = .ok (.invokestatic index, 3)) (hf : cells + rm.cells ≤ R.cells ∧ slots + rm.slots ≤ R.slots)
    (kk : ∀ (H1 : Heap) (locs1 : List Loc), va_P D vwCl (wN ++ tl) H1 → va_D A (wN ++ tl) → va_S A s.heap H1 locs1 → W p l e R s m args below meth c H1 locs1 (cells + rm.cells) (slots + rm.slots) Q (F0 m (pc + 3) ls (.double r :: rest))) : W p l e R s m args below meth c H locs cells slots Q (F0 m pc ls stk) := by
  obtain ⟨hPc, hFc, hbl, hpre⟩ := cal_pre (av := As) E hP hD hS isC (ap_map hC) hnC
  obtain ⟨hx, hb, hml, hown, hts, -⟩ := id E
  refine va_calld (va_runS (As := As) (rest := rest) ⟨hx, hb, hml, hown, hts⟩ (hM H.size) cw ⟨hbl, hpre⟩ rfl hlen hsz hstk (lv_room hW) hdg hf) hS (fun q _ h => hFc q h) hFc (fun x u t H1 locs1 ht hvm hw hB hz1 hk1 hS1 => ?_)
  subst hw
  obtain ⟨hP1, hD1⟩ := cal_finT E hP hD hS isC isR isN hC hR hnR hdis hN hnN ht hB hk1
  exact kk H1 locs1 hP1 hD1 hS1
theorem cD_callVT {r : UInt64} {ci q0 : Nat} {cq : vw_C} {fs : List Value} (E : ent_ p s m args meth c own cc nL ret Ts tys D A st) (hM : cD l D tys st y ws rm (.ref b :: As) wc w1 r) (cw : CallW R s args own cq.1 index y bytes maxL retY ws rm rm.cells rm.slots n)
    (hP : va_P D vwCl (ww ++ tl) H) (hD : va_D A (ww ++ tl)) (hS : va_S A s.heap H locs) (isC isR isN : List Nat) (hC : isC.map (fun i => ww[i]?) = wc.map some) (hR : isR.map (fun i => ww[i]?) = wr.map some) (hnC : va_nd isC = true) (hnR : va_nd isR = true) (hdis : ∀ i ∈ isR, i ∉ isC)
    (hN : isN.map (fun i => (wr ++ w1)[i]?) = wN.map some) (hnN : va_nd isN = true) (hcq : vwCl[ci]? = some cq) (hq0 : ww[q0]? = some (b, .inr (ci, fs))) (hlen : As.length = n) (hsz : ls.size = nL) (hstk : stk = As.reverse ++ .ref b :: rest) (hW : (rest.map fun v => v.category).sum ≤ 8) (hdg : decode cc pc = .ok (.invokevirtual index, 3)) (hf : cells + rm.cells ≤ R.cells ∧ slots + rm.slots ≤ R.slots)
    (kk : ∀ (H1 : Heap) (locs1 : List Loc), va_P D vwCl (wN ++ tl) H1 → va_D A (wN ++ tl) → va_S A s.heap H1 locs1 → W p l e R s m args below meth c H1 locs1 (cells + rm.cells) (slots + rm.slots) Q (F0 m (pc + 3) ls (.double r :: rest))) : W p l e R s m args below meth c H locs cells slots Q (F0 m pc ls stk) := by
  obtain ⟨hPc, hFc, hbl, hpre⟩ := cal_pre (av := .ref b :: As) E hP hD hS isC (ap_map hC) hnC
  obtain ⟨hx, hb, hml, hown, hts, -, -, hK, -⟩ := id E
  refine va_calld (va_runV (As := As) (rest := rest) ⟨hx, hb, hml, hown, hts⟩ (hM H.size) cw ⟨hbl, va_recv hK hP hcq (ap_get hq0), hpre⟩ rfl hlen hsz hstk (lv_room hW) hdg hf) hS (fun q _ h => hFc q h) hFc (fun x u t H1 locs1 ht hvm hw hB hz1 hk1 hS1 => ?_)
  subst hw
  obtain ⟨hP1, hD1⟩ := cal_finT E hP hD hS isC isR isN hC hR hnR hdis hN hnN ht hB hk1
  exact kk H1 locs1 hP1 hD1 hS1
theorem cV_callST (E : ent_ p s m args meth c own cc nL ret Ts tys D A st) (hM : cV l D tys st y ws rm As wc w1) (cw : CallB R s args own index y bytes maxL retY ws rm rm.cells rm.slots n ∧ (Cond.static y).before args s = true)
    (hP : va_P D vwCl (ww ++ tl) H) (hD : va_D A (ww ++ tl)) (hS : va_S A s.heap H locs) (isC isR isN : List Nat) (hC : isC.map (fun i => ww[i]?) = wc.map some) (hR : isR.map (fun i => ww[i]?) = wr.map some) (hnC : va_nd isC = true) (hnR : va_nd isR = true) (hdis : ∀ i ∈ isR, i ∉ isC)
    (hN : isN.map (fun i => (wr ++ w1)[i]?) = wN.map some) (hnN : va_nd isN = true) (hlen : As.length = n) (hsz : ls.size = nL) (hstk : stk = As.reverse ++ rest) (hW : (rest.map fun v => v.category).sum ≤ 8) (hdg : decode cc pc = .ok (.invokestatic index, 3)) (hf : cells + rm.cells ≤ R.cells ∧ slots + rm.slots ≤ R.slots)
    (kk : ∀ (H1 : Heap) (locs1 : List Loc), va_P D vwCl (wN ++ tl) H1 → va_D A (wN ++ tl) → va_S A s.heap H1 locs1 → W p l e R s m args below meth c H1 locs1 (cells + rm.cells) (slots + rm.slots) Q (F0 m (pc + 3) ls (rest))) : W p l e R s m args below meth c H locs cells slots Q (F0 m pc ls stk) := by
  obtain ⟨hPc, hFc, hbl, hpre⟩ := cal_pre (av := As) E hP hD hS isC (ap_map hC) hnC
  obtain ⟨hx, hb, hml, hown, hts, -⟩ := id E
  refine va_callv (va_runS (As := As) (rest := rest) ⟨hx, hb, hml, hown, hts⟩ (hM H.size) cw ⟨hbl, hpre⟩ rfl hlen hsz hstk (lv_room hW) hdg hf) hS (fun q _ h => hFc q h) hFc (fun u t H1 locs1 ht hvm hw hB hz1 hk1 hS1 => ?_)
  obtain ⟨hP1, hD1⟩ := cal_finT E hP hD hS isC isR isN hC hR hnR hdis hN hnN ht hB hk1
  exact kk H1 locs1 hP1 hD1 hS1
theorem cV_callVT {ci q0 : Nat} {cq : vw_C} {fs : List Value} (E : ent_ p s m args meth c own cc nL ret Ts tys D A st) (hM : cV l D tys st y ws rm (.ref b :: As) wc w1) (cw : CallW R s args own cq.1 index y bytes maxL retY ws rm rm.cells rm.slots n)
    (hP : va_P D vwCl (ww ++ tl) H) (hD : va_D A (ww ++ tl)) (hS : va_S A s.heap H locs) (isC isR isN : List Nat) (hC : isC.map (fun i => ww[i]?) = wc.map some) (hR : isR.map (fun i => ww[i]?) = wr.map some) (hnC : va_nd isC = true) (hnR : va_nd isR = true) (hdis : ∀ i ∈ isR, i ∉ isC)
    (hN : isN.map (fun i => (wr ++ w1)[i]?) = wN.map some) (hnN : va_nd isN = true) (hcq : vwCl[ci]? = some cq) (hq0 : ww[q0]? = some (b, .inr (ci, fs))) (hlen : As.length = n) (hsz : ls.size = nL) (hstk : stk = As.reverse ++ .ref b :: rest) (hW : (rest.map fun v => v.category).sum ≤ 8) (hdg : decode cc pc = .ok (.invokevirtual index, 3)) (hf : cells + rm.cells ≤ R.cells ∧ slots + rm.slots ≤ R.slots)
    (kk : ∀ (H1 : Heap) (locs1 : List Loc), va_P D vwCl (wN ++ tl) H1 → va_D A (wN ++ tl) → va_S A s.heap H1 locs1 → W p l e R s m args below meth c H1 locs1 (cells + rm.cells) (slots + rm.slots) Q (F0 m (pc + 3) ls (rest))) : W p l e R s m args below meth c H locs cells slots Q (F0 m pc ls stk) := by
  obtain ⟨hPc, hFc, hbl, hpre⟩ := cal_pre (av := .ref b :: As) E hP hD hS isC (ap_map hC) hnC
  obtain ⟨hx, hb, hml, hown, hts, -, -, hK, -⟩ := id E
  refine va_callv (va_runV (As := As) (rest := rest) ⟨hx, hb, hml, hown, hts⟩ (hM H.size) cw ⟨hbl, va_recv hK hP hcq (ap_get hq0), hpre⟩ rfl hlen hsz hstk (lv_room hW) hdg hf) hS (fun q _ h => hFc q h) hFc (fun u t H1 locs1 ht hvm hw hB hz1 hk1 hS1 => ?_)
  obtain ⟨hP1, hD1⟩ := cal_finT E hP hD hS isC isR isN hC hR hnR hdis hN hnN ht hB hk1
  exact kk H1 locs1 hP1 hD1 hS1
theorem cR_callVT {r : Nat} {ci q0 : Nat} {cq : vw_C} {fs : List Value} (E : ent_ p s m args meth c own cc nL ret Ts tys D A st) (hM : cR l D tys st y ws rm (.ref b :: As) wc w1 r) (cw : CallW R s args own cq.1 index y bytes maxL retY ws rm rm.cells rm.slots n)
    (hP : va_P D vwCl (ww ++ tl) H) (hD : va_D A (ww ++ tl)) (hS : va_S A s.heap H locs) (isC isR isN : List Nat) (hC : isC.map (fun i => ww[i]?) = wc.map some) (hR : isR.map (fun i => ww[i]?) = wr.map some) (hnC : va_nd isC = true) (hnR : va_nd isR = true) (hdis : ∀ i ∈ isR, i ∉ isC)
    (hN : isN.map (fun i => (wr ++ w1)[i]?) = wN.map some) (hnN : va_nd isN = true) (hcq : vwCl[ci]? = some cq) (hq0 : ww[q0]? = some (b, .inr (ci, fs))) (hlen : As.length = n) (hsz : ls.size = nL) (hstk : stk = As.reverse ++ .ref b :: rest) (hW : (rest.map fun v => v.category).sum ≤ 8) (hdg : decode cc pc = .ok (.invokevirtual index, 3)) (hf : cells + rm.cells ≤ R.cells ∧ slots + rm.slots ≤ R.slots)
    (kk : ∀ (H1 : Heap) (locs1 : List Loc), va_P D vwCl (wN ++ tl) H1 → va_D A (wN ++ tl) → va_S A s.heap H1 locs1 → W p l e R s m args below meth c H1 locs1 (cells + rm.cells) (slots + rm.slots) Q (F0 m (pc + 3) ls (.ref r :: rest))) : W p l e R s m args below meth c H locs cells slots Q (F0 m pc ls stk) := by
  obtain ⟨hPc, hFc, hbl, hpre⟩ := cal_pre (av := .ref b :: As) E hP hD hS isC (ap_map hC) hnC
  obtain ⟨hx, hb, hml, hown, hts, -, -, hK, -⟩ := id E
  refine va_callr (va_runV (As := As) (rest := rest) ⟨hx, hb, hml, hown, hts⟩ (hM H.size) cw ⟨hbl, va_recv hK hP hcq (ap_get hq0), hpre⟩ rfl hlen hsz hstk (lv_room hW) hdg hf) hS (fun q _ h => hFc q h) hFc (fun u x t H1 locs1 ht hvm hw hB hz1 hk1 hS1 => ?_)
  obtain ⟨rfl, hB⟩ := hB
  obtain ⟨hP1, hD1⟩ := cal_finT E hP hD hS isC isR isN hC hR hnR hdis hN hnN ht hB hk1
  exact kk H1 locs1 hP1 hD1 hS1
theorem cI_callSNT {r : Int32} (E : ent_ p s m args meth c own cc nL ret Ts tys D A true) (hM : cI l D tys true y ws rm As wc w1 r) (cw : va_CN R s args own index y "GateMaze" bytes maxL retY ws rm rm.cells rm.slots n ∧ (Cond.static y).before args s = true ∧ True)
    (hP : va_P D vwCl (ww ++ tl) H) (hD : va_D A (ww ++ tl)) (hS : va_S A s.heap H locs) (isC isR isN : List Nat) (hC : isC.map (fun i => ww[i]?) = wc.map some) (hR : isR.map (fun i => ww[i]?) = wr.map some) (hnC : va_nd isC = true) (hnR : va_nd isR = true) (hdis : ∀ i ∈ isR, i ∉ isC)
    (hN : isN.map (fun i => (wr ++ w1)[i]?) = wN.map some) (hnN : va_nd isN = true) (hlen : As.length = n) (hsz : ls.size = nL) (hstk : stk = As.reverse ++ rest) (hW : (rest.map fun v => v.category).sum ≤ 8) (hdg : decode cc pc = .ok (.invokestatic index, 3)) (hf : cells + rm.cells ≤ R.cells ∧ slots + rm.slots ≤ R.slots)
    (kk : ∀ (H1 : Heap) (locs1 : List Loc), va_P D vwCl (wN ++ tl) H1 → va_D A (wN ++ tl) → va_S A s.heap H1 locs1 → W p l e R s m args below meth c H1 locs1 (cells + rm.cells) (slots + rm.slots) Q (F0 m (pc + 3) ls (.int r :: rest))) : W p l e R s m args below meth c H locs cells slots Q (F0 m pc ls stk) := by
  obtain ⟨hPc, hFc, hbl, hpre⟩ := cal_pre (av := As) E hP hD hS isC (ap_map hC) hnC
  obtain ⟨hx, hb, hml, hown, hts, -⟩ := id E
  refine va_calli (va_runSN (As := As) (rest := rest) ⟨hx, hb, hml, hown, hts⟩ (hM H.size) cw ⟨hbl, hpre⟩ rfl hlen hsz hstk (lv_room hW) hdg hf) hS (fun q _ h => hFc q h) hFc (fun x u t H1 locs1 ht hvm hw hB hz1 hk1 hS1 => ?_)
  subst hw
  obtain ⟨hP1, hD1⟩ := cal_finT E hP hD hS isC isR isN hC hR hnR hdis hN hnN ht hB hk1
  exact kk H1 locs1 hP1 hD1 hS1
theorem cL_callSNT {r : Int64} (E : ent_ p s m args meth c own cc nL ret Ts tys D A true) (hM : cL l D tys true y ws rm As wc w1 r) (cw : va_CN R s args own index y "GateMaze" bytes maxL retY ws rm rm.cells rm.slots n ∧ (Cond.static y).before args s = true ∧ True)
    (hP : va_P D vwCl (ww ++ tl) H) (hD : va_D A (ww ++ tl)) (hS : va_S A s.heap H locs) (isC isR isN : List Nat) (hC : isC.map (fun i => ww[i]?) = wc.map some) (hR : isR.map (fun i => ww[i]?) = wr.map some) (hnC : va_nd isC = true) (hnR : va_nd isR = true) (hdis : ∀ i ∈ isR, i ∉ isC)
    (hN : isN.map (fun i => (wr ++ w1)[i]?) = wN.map some) (hnN : va_nd isN = true) (hlen : As.length = n) (hsz : ls.size = nL) (hstk : stk = As.reverse ++ rest) (hW : (rest.map fun v => v.category).sum ≤ 8) (hdg : decode cc pc = .ok (.invokestatic index, 3)) (hf : cells + rm.cells ≤ R.cells ∧ slots + rm.slots ≤ R.slots)
    (kk : ∀ (H1 : Heap) (locs1 : List Loc), va_P D vwCl (wN ++ tl) H1 → va_D A (wN ++ tl) → va_S A s.heap H1 locs1 → W p l e R s m args below meth c H1 locs1 (cells + rm.cells) (slots + rm.slots) Q (F0 m (pc + 3) ls (.long r :: rest))) : W p l e R s m args below meth c H locs cells slots Q (F0 m pc ls stk) := by
  obtain ⟨hPc, hFc, hbl, hpre⟩ := cal_pre (av := As) E hP hD hS isC (ap_map hC) hnC
  obtain ⟨hx, hb, hml, hown, hts, -⟩ := id E
  refine va_calll (va_runSN (As := As) (rest := rest) ⟨hx, hb, hml, hown, hts⟩ (hM H.size) cw ⟨hbl, hpre⟩ rfl hlen hsz hstk (lv_room hW) hdg hf) hS (fun q _ h => hFc q h) hFc (fun x u t H1 locs1 ht hvm hw hB hz1 hk1 hS1 => ?_)
  subst hw
  obtain ⟨hP1, hD1⟩ := cal_finT E hP hD hS isC isR isN hC hR hnR hdis hN hnN ht hB hk1
  exact kk H1 locs1 hP1 hD1 hS1
end CLT
/-- the exceptions that the class throws, by the law's own numbers -/
def exN (k : Nat) : String := match k with
  | 0 => "java/lang/IllegalArgumentException"
  | 1 => "java/lang/IndexOutOfBoundsException"
  | _ => "java/lang/IllegalStateException"
theorem tb_some {α β : Type} {o : Option (Nat ⊕ α)} {f : α → Option (Nat ⊕ β)} {r : Nat ⊕ β} (h : tb_ o f = some r) : ∃ q, o = some q ∧ (∀ k, q = .inl k → r = .inl k) ∧ ∀ u, q = .inr u → f u = some r := by
  cases o with
  | none => cases h
  | some q =>
    refine ⟨q, rfl, fun k e => ?_, fun u e => ?_⟩
    · subst e
      exact (Option.some.inj h).symm
    · subst e
      exact h
def tI {α : Type} (l : Launch) (D : va_G) (tys : List (ClassId × FieldType)) (y : MethodName) (ws : List Cond) (rm : Room) (args : List Value) (Wd : va_W) (q : Nat ⊕ α) (rv : α → Int32) (PW : α → va_W → Prop) : Prop :=
  ∀ sz : Nat, vx_Met l y ws rm (va_Pc args (pre_ D tys Wd true sz)) (va_Qi (fun x (u : α) => q = .inr u ∧ x = rv u) (fun u t => ∃ w', PW u w' ∧ post_ D tys (va_A Wd sz) w' t) (va_A Wd sz)) (vx_X (fun k : Nat => q = .inl k) (fun E k t => E = exN k ∧ post_ D tys (va_A Wd sz) Wd t) (va_A Wd sz)) rm.cells rm.slots (va_A Wd sz)
def tV (l : Launch) (D : va_G) (tys : List (ClassId × FieldType)) (y : MethodName) (ws : List Cond) (rm : Room) (args : List Value) (Wd : va_W) (q : Nat ⊕ Unit) : Prop :=
  ∀ sz : Nat, vx_Met l y ws rm (va_Pc args (pre_ D tys Wd true sz)) (va_Qv (fun u : Unit => q = .inr u) (fun _ t => post_ D tys (va_A Wd sz) Wd t) (va_A Wd sz)) (vx_X (fun k : Nat => q = .inl k) (fun E k t => E = exN k ∧ post_ D tys (va_A Wd sz) Wd t) (va_A Wd sz)) rm.cells rm.slots (va_A Wd sz)
theorem ex_X {D : va_G} {tys : List (ClassId × FieldType)} {Wd : va_W} {A : Nat → Prop} {s t : State} {H : Heap} {locs : List Loc} (hK : va_K D vwCl tys s) (hP : va_P D vwCl Wd H) (hD : va_D A Wd) (hS : va_S A s.heap H locs) (hal : s.vm.Alike t.vm) (hz : H.size ≤ t.heap.size) (hk : ∀ a : Nat, a < H.size → t.heap[a]? = H[a]?) : post_ D tys A Wd t ∧ va_F A s t :=
  ⟨⟨hP.kept (fun k q hq => hk q.1 (hP k q hq).lt), va_K.moved hal hK, hD⟩, ⟨Nat.le_trans hS.1 hz, fun q h1 h2 => (hk q (Nat.lt_of_lt_of_le h1 hS.1)).trans (hS.2.1 q h1 h2)⟩⟩
section TEN
variable {l : Launch} {D : va_G} {tys : List (ClassId × FieldType)} {y : MethodName} {ws ws' : List Cond} {rm : Room} {args : List Value} {Wd : va_W} {cc : ByteArray} {maxL : Nat} {ret : Option FieldType}
theorem tI_of {α : Type} {q : Nat ⊕ α} {rv : α → Int32} {PW : α → va_W → Prop} (hy : plainName y.cls = true) (hw : ws = Cond.code y cc maxL (some .int) :: ws') (hlen : (lg_sl args).length ≤ maxL)
    (body : ∀ (p : Program) (e : Env) (s : State) (m : MethodId) (av : Array Value) (below : List Frame) (meth : Method) (c : Code) (A : Nat → Prop) (Qc : Array Value → State → Outcome → State → Prop) (XC : String → State → State → Prop) (ls : Array Slot), ent_ p s m av meth c y.cls cc maxL (some .int) ws tys D A true → (∀ x ∈ c.exceptionTable.toList, False) →
      va_P D vwCl Wd s.heap → va_D A Wd → va_S A s.heap s.heap [] → lv_has ls maxL (lv_args 0 args) →
      (∀ (pc : Nat) (H : Heap) (locs : List Loc) (ls : Array Slot) (u : α) (w' : va_W), q = .inr u → PW u w' → decode cc pc = .ok (.ireturn, 1) → va_P D vwCl w' H → va_D A w' → va_S A s.heap H locs → W p l e rm s m av below meth c H locs rm.cells rm.slots (vx_MQ below Qc XC av s rm.cells rm.slots A) (F0 m pc ls [.int (rv u)])) →
      (∀ (k : Nat) (H : Heap) (locs : List Loc) (t : State), q = .inl k → va_P D vwCl Wd H → va_D A Wd → va_S A s.heap H locs → s.vm.Alike t.vm → H.size ≤ t.heap.size → (∀ a : Nat, a < H.size → t.heap[a]? = H[a]?) → XC (exN k) s t) →
      W p l e rm s m av below meth c s.heap [] 0 0 (vx_MQ below Qc XC av s rm.cells rm.slots A) (F0 m 0 ls [])) : tI l D tys y ws rm args Wd q rv PW := by
  intro sz
  refine vx_ofW (cc := cc) (maxL := maxL) (ret := some .int) hy hw ?_
  intro p e s m av below meth c s₁ B hml hxt hv
  obtain ⟨rfl, hsz, hP, hK, hD0, hst⟩ := hv
  have hts := atoms_spec (ws := ws) B.pre
  have hown : s.vm.findClass y.cls = some m.cls := findClass_of_methodNamed B.named
  subst hsz
  have hD := hD0.self (sz := s.heap.size)
  have hl := lv_entry args (n := maxL) hlen
  rw [lg_entry_eq]
  refine body p e s m args.toArray below meth c (va_A Wd s.heap.size) _ _ _ ⟨B.exec, B.bytes, hml, hown, hts, B.returns, B.notSynchronized, hK, fun q h => Or.inr h, hst⟩ hxt hP hD va_S.rf hl ?_ ?_
  · intro pc H locs ls u w' hq hpw hdg hP hD hS
    exact vx_ret (W.iret B.exec B.bytes B.returns (fun t ht hW => ⟨⟨rv u, u, rfl, ⟨hq, rfl⟩, w', hpw, by rw [ht]; exact hP, va_K.moved hW.alike hK, hD⟩, hS.F ht⟩) hS.2.2 hdg B.notSynchronized)
  · intro k H locs t hq hP hD hS hal hz hk
    obtain ⟨h1, h2⟩ := ex_X hK hP hD hS hal hz hk
    exact ⟨k, hq, ⟨rfl, h1⟩, h2⟩
theorem tV_of {q : Nat ⊕ Unit} (hy : plainName y.cls = true) (hw : ws = Cond.code y cc maxL none :: ws') (hlen : (lg_sl args).length ≤ maxL)
    (body : ∀ (p : Program) (e : Env) (s : State) (m : MethodId) (av : Array Value) (below : List Frame) (meth : Method) (c : Code) (A : Nat → Prop) (Qc : Array Value → State → Outcome → State → Prop) (XC : String → State → State → Prop) (ls : Array Slot), ent_ p s m av meth c y.cls cc maxL none ws tys D A true → (∀ x ∈ c.exceptionTable.toList, False) →
      va_P D vwCl Wd s.heap → va_D A Wd → va_S A s.heap s.heap [] → lv_has ls maxL (lv_args 0 args) →
      (∀ (pc : Nat) (H : Heap) (locs : List Loc) (ls : Array Slot), q = .inr () → decode cc pc = .ok (.return_, 1) → va_P D vwCl Wd H → va_D A Wd → va_S A s.heap H locs → W p l e rm s m av below meth c H locs rm.cells rm.slots (vx_MQ below Qc XC av s rm.cells rm.slots A) (F0 m pc ls [])) →
      (∀ (k : Nat) (H : Heap) (locs : List Loc) (t : State), q = .inl k → va_P D vwCl Wd H → va_D A Wd → va_S A s.heap H locs → s.vm.Alike t.vm → H.size ≤ t.heap.size → (∀ a : Nat, a < H.size → t.heap[a]? = H[a]?) → XC (exN k) s t) →
      W p l e rm s m av below meth c s.heap [] 0 0 (vx_MQ below Qc XC av s rm.cells rm.slots A) (F0 m 0 ls [])) : tV l D tys y ws rm args Wd q := by
  intro sz
  refine vx_ofW (cc := cc) (maxL := maxL) (ret := none) hy hw ?_
  intro p e s m av below meth c s₁ B hml hxt hv
  obtain ⟨rfl, hsz, hP, hK, hD0, hst⟩ := hv
  have hts := atoms_spec (ws := ws) B.pre
  have hown : s.vm.findClass y.cls = some m.cls := findClass_of_methodNamed B.named
  subst hsz
  have hD := hD0.self (sz := s.heap.size)
  have hl := lv_entry args (n := maxL) hlen
  rw [lg_entry_eq]
  refine body p e s m args.toArray below meth c (va_A Wd s.heap.size) _ _ _ ⟨B.exec, B.bytes, hml, hown, hts, B.returns, B.notSynchronized, hK, fun q h => Or.inr h, hst⟩ hxt hP hD va_S.rf hl ?_ ?_
  · intro pc H locs ls hq hdg hP hD hS
    exact vx_ret (W.vret B.exec B.bytes B.returns (fun t ht hW => ⟨⟨(), rfl, hq, by rw [ht]; exact hP, va_K.moved hW.alike hK, hD⟩, hS.F ht⟩) hS.2.2 hdg B.notSynchronized)
  · intro k H locs t hq hP hD hS hal hz hk
    obtain ⟨h1, h2⟩ := ex_X hK hP hD hS hal hz hk
    exact ⟨k, hq, ⟨rfl, h1⟩, h2⟩
end TEN
section TCL
variable {p : Program} {l : Launch} {e : Env} {R : Room} {s : State} {m : MethodId} {args : Array Value} {below : List Frame} {meth : Method} {c : Code} {H : Heap} {locs : List Loc} {cells slots mc ms : Nat}
  {D : va_G} {tys : List (ClassId × FieldType)} {A : Nat → Prop} {cc bytes : ByteArray} {nL maxL index n pc : Nat} {own C : String} {ret retY : Option FieldType} {Ts ws : List Cond} {rm : Room} {y : MethodName} {ww wc wr tl : va_W} {ls : Array Slot} {rest stk : List Value} {b : Nat} {As av : List Value} {Qc : Array Value → State → Outcome → State → Prop} {XC : String → State → State → Prop} {q : Nat ⊕ Unit}
theorem tV_callST (E : ent_ p s m args meth c own cc nL ret Ts tys D A true) (hM : tV l D tys y ws rm As wc q) (cw : CallB R s args own index y bytes maxL retY ws rm rm.cells rm.slots n ∧ (Cond.static y).before args s = true)
    (hP : va_P D vwCl (ww ++ tl) H) (hD : va_D A (ww ++ tl)) (hS : va_S A s.heap H locs) (isC isR isN : List Nat) (hC : isC.map (fun i => ww[i]?) = wc.map some) (hR : isR.map (fun i => ww[i]?) = wr.map some) (hnC : va_nd isC = true) (hnR : va_nd isR = true) (hdis : ∀ i ∈ isR, i ∉ isC)
    (hN : isN.map (fun i => (wr ++ wc)[i]?) = ww.map some) (hnN : va_nd isN = true) (hlen : As.length = n) (hsz : ls.size = nL) (hstk : stk = As.reverse ++ rest) (hW : (rest.map fun v => v.category).sum ≤ 8) (hdg : decode cc pc = .ok (.invokestatic index, 3)) (hf : cells + rm.cells ≤ R.cells ∧ slots + rm.slots ≤ R.slots)
    (hxt : ∀ x ∈ c.exceptionTable.toList, False) (hcm : cells + rm.cells ≤ mc ∧ slots + rm.slots ≤ ms)
    (kx : ∀ (k : Nat) (H : Heap) (locs : List Loc) (t : State), q = .inl k → va_P D vwCl (ww ++ tl) H → va_D A (ww ++ tl) → va_S A s.heap H locs → s.vm.Alike t.vm → H.size ≤ t.heap.size → (∀ a : Nat, a < H.size → t.heap[a]? = H[a]?) → XC (exN k) s t)
    (kk : ∀ (H1 : Heap) (locs1 : List Loc), q = .inr () → va_P D vwCl (ww ++ tl) H1 → va_D A (ww ++ tl) → va_S A s.heap H1 locs1 → W p l e R s m args below meth c H1 locs1 (cells + rm.cells) (slots + rm.slots) (vx_MQ below Qc XC args s mc ms A) (F0 m (pc + 3) ls rest)) : W p l e R s m args below meth c H locs cells slots (vx_MQ below Qc XC args s mc ms A) (F0 m pc ls stk) := by
  obtain ⟨hPc, hFc, hbl, hpre⟩ := cal_pre (av := As) E hP hD hS isC (ap_map hC) hnC
  obtain ⟨hx, hb, hml, hown, hts, -, hlocks, hK, -⟩ := id E
  refine vx_callv (vx_runS (As := As) (rest := rest) ⟨hx, hb, hml, hown, hts⟩ (hM H.size) cw ⟨hbl, hpre⟩ rfl hlen hsz hstk (lv_room hW) hdg hf) hS (fun q _ h => hFc q h) hFc (fun q _ h => hFc q h) (fun E9 ce q9 k t H1 locs1 ht hvm hpx hB hz1 hk1 hS1 hce hcv hcl => ?_) (fun u t H1 locs1 ht hvm hw hB hz1 hk1 hS1 => ?_)
  · obtain ⟨rfl, hB⟩ := hB
    obtain ⟨hP1, hD1⟩ := cal_finT E hP hD hS isC isR isN hC hR hnR hdis hN hnN ht hB hk1
    exact vx_out (fun x hx9 => (hxt x hx9).elim) hlocks hce hcv hcl (fun t2 ht2 hal => kx k H1 locs1 t2 hpx hP1 hD1 hS1 hal (by rw [ht2]; exact Nat.le_refl _) (fun a _ => by rw [ht2])) hS1.2.2 hcm.1 hcm.2
  · obtain ⟨hP1, hD1⟩ := cal_finT E hP hD hS isC isR isN hC hR hnR hdis hN hnN ht hB hk1
    exact kk H1 locs1 hw hP1 hD1 hS1
theorem tV_callVT {ci q0 : Nat} {cq : vw_C} {fs : List Value} (E : ent_ p s m args meth c own cc nL ret Ts tys D A true) (hM : tV l D tys y ws rm (.ref b :: As) wc q) (cw : CallW R s args own cq.1 index y bytes maxL retY ws rm rm.cells rm.slots n)
    (hP : va_P D vwCl (ww ++ tl) H) (hD : va_D A (ww ++ tl)) (hS : va_S A s.heap H locs) (isC isR isN : List Nat) (hC : isC.map (fun i => ww[i]?) = wc.map some) (hR : isR.map (fun i => ww[i]?) = wr.map some) (hnC : va_nd isC = true) (hnR : va_nd isR = true) (hdis : ∀ i ∈ isR, i ∉ isC)
    (hN : isN.map (fun i => (wr ++ wc)[i]?) = ww.map some) (hnN : va_nd isN = true) (hcq : vwCl[ci]? = some cq) (hq0 : ww[q0]? = some (b, .inr (ci, fs))) (hlen : As.length = n) (hsz : ls.size = nL) (hstk : stk = As.reverse ++ .ref b :: rest) (hW : (rest.map fun v => v.category).sum ≤ 8) (hdg : decode cc pc = .ok (.invokevirtual index, 3)) (hf : cells + rm.cells ≤ R.cells ∧ slots + rm.slots ≤ R.slots)
    (hxt : ∀ x ∈ c.exceptionTable.toList, False) (hcm : cells + rm.cells ≤ mc ∧ slots + rm.slots ≤ ms)
    (kx : ∀ (k : Nat) (H : Heap) (locs : List Loc) (t : State), q = .inl k → va_P D vwCl (ww ++ tl) H → va_D A (ww ++ tl) → va_S A s.heap H locs → s.vm.Alike t.vm → H.size ≤ t.heap.size → (∀ a : Nat, a < H.size → t.heap[a]? = H[a]?) → XC (exN k) s t)
    (kk : ∀ (H1 : Heap) (locs1 : List Loc), q = .inr () → va_P D vwCl (ww ++ tl) H1 → va_D A (ww ++ tl) → va_S A s.heap H1 locs1 → W p l e R s m args below meth c H1 locs1 (cells + rm.cells) (slots + rm.slots) (vx_MQ below Qc XC args s mc ms A) (F0 m (pc + 3) ls rest)) : W p l e R s m args below meth c H locs cells slots (vx_MQ below Qc XC args s mc ms A) (F0 m pc ls stk) := by
  obtain ⟨hPc, hFc, hbl, hpre⟩ := cal_pre (av := .ref b :: As) E hP hD hS isC (ap_map hC) hnC
  obtain ⟨hx, hb, hml, hown, hts, -, hlocks, hK, -⟩ := id E
  refine vx_callv (vx_runV (As := As) (rest := rest) ⟨hx, hb, hml, hown, hts⟩ (hM H.size) cw ⟨hbl, va_recv hK hP hcq (ap_get hq0), hpre⟩ rfl hlen hsz hstk (lv_room hW) hdg hf) hS (fun q _ h => hFc q h) hFc (fun q _ h => hFc q h) (fun E9 ce q9 k t H1 locs1 ht hvm hpx hB hz1 hk1 hS1 hce hcv hcl => ?_) (fun u t H1 locs1 ht hvm hw hB hz1 hk1 hS1 => ?_)
  · obtain ⟨rfl, hB⟩ := hB
    obtain ⟨hP1, hD1⟩ := cal_finT E hP hD hS isC isR isN hC hR hnR hdis hN hnN ht hB hk1
    exact vx_out (fun x hx9 => (hxt x hx9).elim) hlocks hce hcv hcl (fun t2 ht2 hal => kx k H1 locs1 t2 hpx hP1 hD1 hS1 hal (by rw [ht2]; exact Nat.le_refl _) (fun a _ => by rw [ht2])) hS1.2.2 hcm.1 hcm.2
  · obtain ⟨hP1, hD1⟩ := cal_finT E hP hD hS isC isR isN hC hR hnR hdis hN hnN ht hB hk1
    exact kk H1 locs1 hw hP1 hD1 hS1
end TCL

