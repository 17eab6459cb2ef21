theorem cfh_ex (tz to_ : Nat → Int64) (tA tf : Nat → Int32) (a_inputs : Int32) (a_remembered : Int32) (a_asks : Int32) (a_hours : Int32) (a_zeros : Nat → Int64) (a_ones : Nat → Int64) (a_alarms : Nat → Int32) (a_faults : Nat → Int32) : ∃ q : SV, fX3_copyFrom tz to_ tA tf a_inputs a_remembered a_asks a_hours a_zeros a_ones a_alarms a_faults = some q ∧ svEq q (a_inputs, a_remembered, a_asks, a_hours, a_zeros, a_ones, a_alarms, a_faults) := by
  refine ⟨_, rfl, rfl, rfl, rfl, rfl, ?_, ?_, ?_, ?_⟩ <;> intro j hj <;> rcases (show j = 0 ∨ j = 1 ∨ j = 2 ∨ j = 3 by omega) with rfl | rfl | rfl | rfl <;> rfl
theorem svEq.trans {u v w : SV} (h : svEq u v) (g : svEq v w) : svEq u w := ⟨h.1.trans g.1, h.2.1.trans g.2.1, h.2.2.1.trans g.2.2.1, h.2.2.2.1.trans g.2.2.2.1, fun j hj => (h.2.2.2.2.1 j hj).trans (g.2.2.2.2.1 j hj), fun j hj => (h.2.2.2.2.2.1 j hj).trans (g.2.2.2.2.2.1 j hj), fun j hj => (h.2.2.2.2.2.2.1 j hj).trans (g.2.2.2.2.2.2.1 j hj), fun j hj => (h.2.2.2.2.2.2.2 j hj).trans (g.2.2.2.2.2.2.2 j hj)⟩
section CQC
variable {p : Program} {l : Launch} {e : Env} {R : Room} {s : State} {m : MethodId} {args : Array Value} {below : List Frame} {meth : Method} {c : Code} {H : Heap} {locs : List Loc} {cells slots : Nat} {Q : State → Prop}
  {D : va_G} {tys : List (ClassId × FieldType)} {A : Nat → Prop} {cc bytes : ByteArray} {nL maxL index n pc : Nat} {own : String} {ret retY : Option FieldType} {Ts ws : List Cond} {rm : Room} {y : MethodName} {ww wc wr : va_W} {ls : Array Slot} {rest stk : List Value} {b : Nat} {As : List Value} {a : Option Nat}
end CQC
def rt1 {α : Type} (f : Nat → α) : Nat → α := fun j => if j < 5 then f (j + 1) else f 0
def snoc {α : Type} (f : Nat → α) (n : Nat) (x : α) : Nat → α := fun j => if j = n then x else f j
abbrev zSV : SV := (0, 0, 0, 0, (fun _ => 0), (fun _ => 0), (fun _ => 0), (fun _ => 0))
theorem ar_snoc (so : Nat → Nat) (n q : Nat) : va_up (fun k => if k < n then some (so k) else none) n (some q) = (fun k => if k < n + 1 then some (snoc so n q k) else none) := by
  funext k
  unfold va_up snoc
  by_cases h : k = n
  · rw [if_pos h, if_pos (by omega), if_pos h]
  · rw [if_neg h, if_neg h]
    show (if k < n then some (so k) else none) = _
    by_cases h2 : k < n
    · rw [if_pos h2, if_pos (by omega)]
    · rw [if_neg h2, if_neg (by omega)]
theorem ar_rt (so : Nat → Nat) : va_up (va_up (va_up (va_up (va_up (va_up (fun k => if k < 6 then some (so k) else none) 0 (some (so 1))) 1 (some (so 2))) 2 (some (so 3))) 3 (some (so 4))) 4 (some (so 5))) 5 (some (so 0)) = (fun k => if k < 6 then some (rt1 so k) else none) := by
  funext k
  unfold va_up rt1
  rcases (show k = 0 ∨ k = 1 ∨ k = 2 ∨ k = 3 ∨ k = 4 ∨ k = 5 ∨ 6 ≤ k by omega) with rfl | rfl | rfl | rfl | rfl | rfl | h <;> try rfl
  rw [if_neg (by omega), if_neg (by omega), if_neg (by omega), if_neg (by omega), if_neg (by omega), if_neg (by omega), if_neg (show ¬ k < 6 by omega)]
  show (if k < 6 then some (so k) else none) = none
  rw [if_neg (by omega)]
theorem kp_ok {vs vals : Nat → SV} (k : Nat) {q v : SV} (hv : ∀ j, j < k → svEq (vs j) (vals j)) (hq : svEq q v) : ∀ j, j < k + 1 → svEq (vup vs k q j) (vup vals k v j) := by
  intro j hj
  unfold vup
  by_cases h : j = k
  · rw [if_pos h, if_pos h]
    exact hq
  · rw [if_neg h, if_neg h]
    exact hv j (by omega)
theorem kpn_ok {vs vals : Nat → SV} (k : Nat) {q v : SV} (hv : ∀ j, j < k → svEq (vs j) (vals j)) (hq : svEq q v) : ∀ j, j < k + 1 → svEq (vup (snoc vs k zSV) k q j) (vup vals k v j) := by
  intro j hj
  unfold vup snoc
  by_cases h : j = k
  · rw [if_pos h, if_pos h]
    exact hq
  · rw [if_neg h, if_neg h, if_neg h]
    exact hv j (by omega)
theorem kpr_ok {vs vals : Nat → SV} {q v : SV} (hv : ∀ j, j < 6 → svEq (vs j) (vals j)) (hq : svEq q v) : ∀ j, j < 6 → svEq (vup (rt1 vs) 5 q j) (vup (fun j => vals (j + 1)) 5 v j) := by
  intro j hj
  unfold vup rt1
  by_cases h : j = 5
  · rw [if_pos h, if_pos h]
    exact hq
  · rw [if_neg h, if_neg h, if_pos (by omega)]
    exact hv (j + 1) (by omega)
theorem mX0_moveOldestToEnd_1 : Cond.fieldLink RX0 11 "GateMaze$History" "saved" "[LGateMaze$State;" ∈ wsX0_moveOldestToEnd := List.mem_of_getElem? (i := 1) rfl
theorem iX0_moveOldestToEnd_X0 : ∀ w ∈ u_ws RX0 TX0 2, w ∈ wsX0_moveOldestToEnd := fun w h => List.mem_cons_of_mem _ (List.mem_append_right _ h)
theorem mX0_keep_1 : Cond.fieldLink RX0 17 "GateMaze$History" "size" "I" ∈ wsX0_keep := List.mem_of_getElem? (i := 1) rfl
theorem mX0_keep_2 : Cond.fieldLink RX0 11 "GateMaze$History" "saved" "[LGateMaze$State;" ∈ wsX0_keep := List.mem_of_getElem? (i := 2) rfl
theorem mX0_keep_3 : Cond.classLink RX0 9 RX3 ∈ wsX0_keep := List.mem_of_getElem? (i := 3) rfl
theorem mX0_keep_4 : Cond.instantiable RX3 8 ∈ wsX0_keep := List.mem_of_getElem? (i := 4) rfl
theorem mX0_keep_5 : Cond.initialized RX3 ∈ wsX0_keep := List.mem_of_getElem? (i := 5) rfl
theorem mX0_keep_11 : Cond.instanceMethod yX3_init ∈ wsX0_keep := List.mem_of_getElem? (i := 11) rfl
theorem iX0_keep_X0 : ∀ w ∈ u_ws RX0 TX0 2, w ∈ wsX0_keep := fun w h => List.mem_cons_of_mem _ (List.mem_append_left _ (List.mem_append_right _ h))
theorem iX0_keep_X3 : ∀ w ∈ u_ws RX3 TX3 8, w ∈ wsX0_keep := fun w h => List.mem_cons_of_mem _ (List.mem_append_right _ h)
set_option maxHeartbeats 4000000 in
set_option maxRecDepth 100000 in
theorem c_X0_moveOldestToEnd (l : Launch) (D : va_G) (kI kJ kS : ClassId) (ho : Nat) (hr : Nat) (so : Nat → Nat) (sa : Nat → Nat → Nat) (vs : Nat → SV) : cV l D (tyL kI kJ kS) true yX0_moveOldestToEnd wsX0_moveOldestToEnd (rmk 0 0 0 0) [.ref ho] (wX0 ho hr 6 ++ (svA kS hr so 6 ++ svs kI kJ so sa vs 6)) (wX0 ho hr 6 ++ (svA kS hr (rt1 so) 6 ++ svs kI kJ (rt1 so) (rt1 sa) (rt1 vs) 6)) := by
  refine cV_of (cc := cX0_moveOldestToEnd) (maxL := 3) (by decide) rfl (Nat.le_of_ble_eq_true rfl) ?_
  intro p e s m av below meth c A Q ls hE hP hD hS hl hret
  have hE : ent_ p s m av meth c RX0 cX0_moveOldestToEnd 3 none wsX0_moveOldestToEnd (tyL kI kJ kS) D A true := hE
  obtain ⟨hx, hb, hml, hown, hts, hrt, hlocks, hK, hA, hst⟩ := id hE
  have hl : lv_has ls 3 [(0, .ref ho)] := hl
  refine lv_aload_n hx hb dX0_moveOldestToEnd_0 rfl (lv_at hl 0 rfl) ?_
  refine va_get (D := D) (ci := 0) (v := .ref hr) (C := RX0) (T := TX0) (N := 2) hx hb hts iX0_moveOldestToEnd_X0 hown hK hP 0 rfl rfl 0 (by decide) (hts _ mX0_moveOldestToEnd_1) (fun _ h9 => h9) rfl dX0_moveOldestToEnd_1 ?_
  refine lv_iconst (v := 0) hx hb dX0_moveOldestToEnd_4 (by decide) ?_
  refine va_aldq hx hb hK hP 1 2 rfl rfl (by unfold vp_in; decide) dX0_moveOldestToEnd_5 ?_
  refine W.eq (g2 := F0 m 6 ls [.ref (so 0)]) rfl ?_
  refine lv_astore_n (lv' := [(1, .ref (so 0)), (0, .ref ho)]) hx hb dX0_moveOldestToEnd_6 rfl hl (by decide) rfl (fun ls hl => ?_)
  refine lv_iconst (v := 1) hx hb dX0_moveOldestToEnd_7 (by decide) ?_
  refine lv_istore_n (lv' := [(2, .int 1), (1, .ref (so 0)), (0, .ref ho)]) hx hb dX0_moveOldestToEnd_8 rfl hl (by decide) rfl (fun ls hl => ?_)
  refine lv_iload_n hx hb dX0_moveOldestToEnd_9 rfl (lv_at hl 0 rfl) ?_
  refine lv_aload_n hx hb dX0_moveOldestToEnd_10 rfl (lv_at hl 2 rfl) ?_
  refine va_get (D := D) (ci := 0) (v := .ref hr) (C := RX0) (T := TX0) (N := 2) hx hb hts iX0_moveOldestToEnd_X0 hown hK hP 0 rfl rfl 0 (by decide) (hts _ mX0_moveOldestToEnd_1) (fun _ h9 => h9) rfl dX0_moveOldestToEnd_11 ?_
  refine va_alen (v := 6) hx hb hK hP 1 2 rfl rfl rfl dX0_moveOldestToEnd_14 ?_
  refine lv_icmp_ge (tgt := 38) hx hb dX0_moveOldestToEnd_15 (by decide) (fun hc => absurd hc (by decide)) (fun _ => ?_)
  refine lv_aload_n hx hb dX0_moveOldestToEnd_18 rfl (lv_at hl 2 rfl) ?_
  refine va_get (D := D) (ci := 0) (v := .ref hr) (C := RX0) (T := TX0) (N := 2) hx hb hts iX0_moveOldestToEnd_X0 hown hK hP 0 rfl rfl 0 (by decide) (hts _ mX0_moveOldestToEnd_1) (fun _ h9 => h9) rfl dX0_moveOldestToEnd_19 ?_
  refine lv_iload_n hx hb dX0_moveOldestToEnd_22 rfl (lv_at hl 0 rfl) ?_
  refine lv_iconst (v := 1) hx hb dX0_moveOldestToEnd_23 (by decide) ?_
  refine lv_isub hx hb dX0_moveOldestToEnd_24 ?_
  refine W.eq (g2 := F0 m 25 ls [.int 0, .ref hr]) rfl ?_
  refine lv_aload_n hx hb dX0_moveOldestToEnd_25 rfl (lv_at hl 2 rfl) ?_
  refine va_get (D := D) (ci := 0) (v := .ref hr) (C := RX0) (T := TX0) (N := 2) hx hb hts iX0_moveOldestToEnd_X0 hown hK hP 0 rfl rfl 0 (by decide) (hts _ mX0_moveOldestToEnd_1) (fun _ h9 => h9) rfl dX0_moveOldestToEnd_26 ?_
  refine lv_iload_n hx hb dX0_moveOldestToEnd_29 rfl (lv_at hl 0 rfl) ?_
  refine va_aldq hx hb hK hP 1 2 rfl rfl (by unfold vp_in; decide) dX0_moveOldestToEnd_30 ?_
  refine W.eq (g2 := F0 m 31 ls [.ref (so 1), .int 0, .ref hr]) rfl ?_
  refine va_astq (r := (RX3, TX3, 8)) hx hb hK hP hD hS 1 2 7 2 rfl rfl rfl rfl (by unfold vp_in; decide) dX0_moveOldestToEnd_31 (fun H locs hP hD hS => ?_)
  have hP : va_P D vwCl (wX0 ho hr 6 ++ ([(hr, .inl (kS, 6, .inr (.inr (.inr (.inr (va_up (fun k => if k < 6 then some (so k) else none) 0 (some (so 1))))))))] ++ svs kI kJ so sa vs 6)) H := hP
  have hD : va_D A (wX0 ho hr 6 ++ ([(hr, .inl (kS, 6, .inr (.inr (.inr (.inr (va_up (fun k => if k < 6 then some (so k) else none) 0 (some (so 1))))))))] ++ svs kI kJ so sa vs 6)) := hD
  refine lv_iinc (v := 2) (lv' := [(2, .int 2), (1, .ref (so 0)), (0, .ref ho)]) hx hb dX0_moveOldestToEnd_32 hl (k := 0) rfl (by decide) (by decide) rfl (fun ls hl => ?_)
  refine lv_goto (tgt := 9) hx hb dX0_moveOldestToEnd_35 (by decide) ?_
  refine lv_iload_n hx hb dX0_moveOldestToEnd_9 rfl (lv_at hl 0 rfl) ?_
  refine lv_aload_n hx hb dX0_moveOldestToEnd_10 rfl (lv_at hl 2 rfl) ?_
  refine va_get (D := D) (ci := 0) (v := .ref hr) (C := RX0) (T := TX0) (N := 2) hx hb hts iX0_moveOldestToEnd_X0 hown hK hP 0 rfl rfl 0 (by decide) (hts _ mX0_moveOldestToEnd_1) (fun _ h9 => h9) rfl dX0_moveOldestToEnd_11 ?_
  refine va_alen (v := 6) hx hb hK hP 1 2 rfl rfl rfl dX0_moveOldestToEnd_14 ?_
  refine lv_icmp_ge (tgt := 38) hx hb dX0_moveOldestToEnd_15 (by decide) (fun hc => absurd hc (by decide)) (fun _ => ?_)
  refine lv_aload_n hx hb dX0_moveOldestToEnd_18 rfl (lv_at hl 2 rfl) ?_
  refine va_get (D := D) (ci := 0) (v := .ref hr) (C := RX0) (T := TX0) (N := 2) hx hb hts iX0_moveOldestToEnd_X0 hown hK hP 0 rfl rfl 0 (by decide) (hts _ mX0_moveOldestToEnd_1) (fun _ h9 => h9) rfl dX0_moveOldestToEnd_19 ?_
  refine lv_iload_n hx hb dX0_moveOldestToEnd_22 rfl (lv_at hl 0 rfl) ?_
  refine lv_iconst (v := 1) hx hb dX0_moveOldestToEnd_23 (by decide) ?_
  refine lv_isub hx hb dX0_moveOldestToEnd_24 ?_
  refine W.eq (g2 := F0 m 25 ls [.int 1, .ref hr]) rfl ?_
  refine lv_aload_n hx hb dX0_moveOldestToEnd_25 rfl (lv_at hl 2 rfl) ?_
  refine va_get (D := D) (ci := 0) (v := .ref hr) (C := RX0) (T := TX0) (N := 2) hx hb hts iX0_moveOldestToEnd_X0 hown hK hP 0 rfl rfl 0 (by decide) (hts _ mX0_moveOldestToEnd_1) (fun _ h9 => h9) rfl dX0_moveOldestToEnd_26 ?_
  refine lv_iload_n hx hb dX0_moveOldestToEnd_29 rfl (lv_at hl 0 rfl) ?_
  refine va_aldq hx hb hK hP 1 2 rfl rfl (by unfold vp_in; decide) dX0_moveOldestToEnd_30 ?_
  refine W.eq (g2 := F0 m 31 ls [.ref (so 2), .int 1, .ref hr]) rfl ?_
  refine va_astq (r := (RX3, TX3, 8)) hx hb hK hP hD hS 1 2 12 2 rfl rfl rfl rfl (by unfold vp_in; decide) dX0_moveOldestToEnd_31 (fun H locs hP hD hS => ?_)
  have hP : va_P D vwCl (wX0 ho hr 6 ++ ([(hr, .inl (kS, 6, .inr (.inr (.inr (.inr (va_up (va_up (fun k => if k < 6 then some (so k) else none) 0 (some (so 1))) 1 (some (so 2))))))))] ++ svs kI kJ so sa vs 6)) H := hP
  have hD : va_D A (wX0 ho hr 6 ++ ([(hr, .inl (kS, 6, .inr (.inr (.inr (.inr (va_up (va_up (fun k => if k < 6 then some (so k) else none) 0 (some (so 1))) 1 (some (so 2))))))))] ++ svs kI kJ so sa vs 6)) := hD
  refine lv_iinc (v := 3) (lv' := [(2, .int 3), (1, .ref (so 0)), (0, .ref ho)]) hx hb dX0_moveOldestToEnd_32 hl (k := 0) rfl (by decide) (by decide) rfl (fun ls hl => ?_)
  refine lv_goto (tgt := 9) hx hb dX0_moveOldestToEnd_35 (by decide) ?_
  refine lv_iload_n hx hb dX0_moveOldestToEnd_9 rfl (lv_at hl 0 rfl) ?_
  refine lv_aload_n hx hb dX0_moveOldestToEnd_10 rfl (lv_at hl 2 rfl) ?_
  refine va_get (D := D) (ci := 0) (v := .ref hr) (C := RX0) (T := TX0) (N := 2) hx hb hts iX0_moveOldestToEnd_X0 hown hK hP 0 rfl rfl 0 (by decide) (hts _ mX0_moveOldestToEnd_1) (fun _ h9 => h9) rfl dX0_moveOldestToEnd_11 ?_
  refine va_alen (v := 6) hx hb hK hP 1 2 rfl rfl rfl dX0_moveOldestToEnd_14 ?_
  refine lv_icmp_ge (tgt := 38) hx hb dX0_moveOldestToEnd_15 (by decide) (fun hc => absurd hc (by decide)) (fun _ => ?_)
  refine lv_aload_n hx hb dX0_moveOldestToEnd_18 rfl (lv_at hl 2 rfl) ?_
  refine va_get (D := D) (ci := 0) (v := .ref hr) (C := RX0) (T := TX0) (N := 2) hx hb hts iX0_moveOldestToEnd_X0 hown hK hP 0 rfl rfl 0 (by decide) (hts _ mX0_moveOldestToEnd_1) (fun _ h9 => h9) rfl dX0_moveOldestToEnd_19 ?_
  refine lv_iload_n hx hb dX0_moveOldestToEnd_22 rfl (lv_at hl 0 rfl) ?_
  refine lv_iconst (v := 1) hx hb dX0_moveOldestToEnd_23 (by decide) ?_
  refine lv_isub hx hb dX0_moveOldestToEnd_24 ?_
  refine W.eq (g2 := F0 m 25 ls [.int 2, .ref hr]) rfl ?_
  refine lv_aload_n hx hb dX0_moveOldestToEnd_25 rfl (lv_at hl 2 rfl) ?_
  refine va_get (D := D) (ci := 0) (v := .ref hr) (C := RX0) (T := TX0) (N := 2) hx hb hts iX0_moveOldestToEnd_X0 hown hK hP 0 rfl rfl 0 (by decide) (hts _ mX0_moveOldestToEnd_1) (fun _ h9 => h9) rfl dX0_moveOldestToEnd_26 ?_
  refine lv_iload_n hx hb dX0_moveOldestToEnd_29 rfl (lv_at hl 0 rfl) ?_
  refine va_aldq hx hb hK hP 1 2 rfl rfl (by unfold vp_in; decide) dX0_moveOldestToEnd_30 ?_
  refine W.eq (g2 := F0 m 31 ls [.ref (so 3), .int 2, .ref hr]) rfl ?_
  refine va_astq (r := (RX3, TX3, 8)) hx hb hK hP hD hS 1 2 17 2 rfl rfl rfl rfl (by unfold vp_in; decide) dX0_moveOldestToEnd_31 (fun H locs hP hD hS => ?_)
  have hP : va_P D vwCl (wX0 ho hr 6 ++ ([(hr, .inl (kS, 6, .inr (.inr (.inr (.inr (va_up (va_up (va_up (fun k => if k < 6 then some (so k) else none) 0 (some (so 1))) 1 (some (so 2))) 2 (some (so 3))))))))] ++ svs kI kJ so sa vs 6)) H := hP
  have hD : va_D A (wX0 ho hr 6 ++ ([(hr, .inl (kS, 6, .inr (.inr (.inr (.inr (va_up (va_up (va_up (fun k => if k < 6 then some (so k) else none) 0 (some (so 1))) 1 (some (so 2))) 2 (some (so 3))))))))] ++ svs kI kJ so sa vs 6)) := hD
  refine lv_iinc (v := 4) (lv' := [(2, .int 4), (1, .ref (so 0)), (0, .ref ho)]) hx hb dX0_moveOldestToEnd_32 hl (k := 0) rfl (by decide) (by decide) rfl (fun ls hl => ?_)
  refine lv_goto (tgt := 9) hx hb dX0_moveOldestToEnd_35 (by decide) ?_
  refine lv_iload_n hx hb dX0_moveOldestToEnd_9 rfl (lv_at hl 0 rfl) ?_
  refine lv_aload_n hx hb dX0_moveOldestToEnd_10 rfl (lv_at hl 2 rfl) ?_
  refine va_get (D := D) (ci := 0) (v := .ref hr) (C := RX0) (T := TX0) (N := 2) hx hb hts iX0_moveOldestToEnd_X0 hown hK hP 0 rfl rfl 0 (by decide) (hts _ mX0_moveOldestToEnd_1) (fun _ h9 => h9) rfl dX0_moveOldestToEnd_11 ?_
  refine va_alen (v := 6) hx hb hK hP 1 2 rfl rfl rfl dX0_moveOldestToEnd_14 ?_
  refine lv_icmp_ge (tgt := 38) hx hb dX0_moveOldestToEnd_15 (by decide) (fun hc => absurd hc (by decide)) (fun _ => ?_)
  refine lv_aload_n hx hb dX0_moveOldestToEnd_18 rfl (lv_at hl 2 rfl) ?_
  refine va_get (D := D) (ci := 0) (v := .ref hr) (C := RX0) (T := TX0) (N := 2) hx hb hts iX0_moveOldestToEnd_X0 hown hK hP 0 rfl rfl 0 (by decide) (hts _ mX0_moveOldestToEnd_1) (fun _ h9 => h9) rfl dX0_moveOldestToEnd_19 ?_
  refine lv_iload_n hx hb dX0_moveOldestToEnd_22 rfl (lv_at hl 0 rfl) ?_
  refine lv_iconst (v := 1) hx hb dX0_moveOldestToEnd_23 (by decide) ?_
  refine lv_isub hx hb dX0_moveOldestToEnd_24 ?_
  refine W.eq (g2 := F0 m 25 ls [.int 3, .ref hr]) rfl ?_
  refine lv_aload_n hx hb dX0_moveOldestToEnd_25 rfl (lv_at hl 2 rfl) ?_
  refine va_get (D := D) (ci := 0) (v := .ref hr) (C := RX0) (T := TX0) (N := 2) hx hb hts iX0_moveOldestToEnd_X0 hown hK hP 0 rfl rfl 0 (by decide) (hts _ mX0_moveOldestToEnd_1) (fun _ h9 => h9) rfl dX0_moveOldestToEnd_26 ?_
  refine lv_iload_n hx hb dX0_moveOldestToEnd_29 rfl (lv_at hl 0 rfl) ?_
  refine va_aldq hx hb hK hP 1 2 rfl rfl (by unfold vp_in; decide) dX0_moveOldestToEnd_30 ?_
  refine W.eq (g2 := F0 m 31 ls [.ref (so 4), .int 3, .ref hr]) rfl ?_
  refine va_astq (r := (RX3, TX3, 8)) hx hb hK hP hD hS 1 2 22 2 rfl rfl rfl rfl (by unfold vp_in; decide) dX0_moveOldestToEnd_31 (fun H locs hP hD hS => ?_)
  have hP : va_P D vwCl (wX0 ho hr 6 ++ ([(hr, .inl (kS, 6, .inr (.inr (.inr (.inr (va_up (va_up (va_up (va_up (fun k => if k < 6 then some (so k) else none) 0 (some (so 1))) 1 (some (so 2))) 2 (some (so 3))) 3 (some (so 4))))))))] ++ svs kI kJ so sa vs 6)) H := hP
  have hD : va_D A (wX0 ho hr 6 ++ ([(hr, .inl (kS, 6, .inr (.inr (.inr (.inr (va_up (va_up (va_up (va_up (fun k => if k < 6 then some (so k) else none) 0 (some (so 1))) 1 (some (so 2))) 2 (some (so 3))) 3 (some (so 4))))))))] ++ svs kI kJ so sa vs 6)) := hD
  refine lv_iinc (v := 5) (lv' := [(2, .int 5), (1, .ref (so 0)), (0, .ref ho)]) hx hb dX0_moveOldestToEnd_32 hl (k := 0) rfl (by decide) (by decide) rfl (fun ls hl => ?_)
  refine lv_goto (tgt := 9) hx hb dX0_moveOldestToEnd_35 (by decide) ?_
  refine lv_iload_n hx hb dX0_moveOldestToEnd_9 rfl (lv_at hl 0 rfl) ?_
  refine lv_aload_n hx hb dX0_moveOldestToEnd_10 rfl (lv_at hl 2 rfl) ?_
  refine va_get (D := D) (ci := 0) (v := .ref hr) (C := RX0) (T := TX0) (N := 2) hx hb hts iX0_moveOldestToEnd_X0 hown hK hP 0 rfl rfl 0 (by decide) (hts _ mX0_moveOldestToEnd_1) (fun _ h9 => h9) rfl dX0_moveOldestToEnd_11 ?_
  refine va_alen (v := 6) hx hb hK hP 1 2 rfl rfl rfl dX0_moveOldestToEnd_14 ?_
  refine lv_icmp_ge (tgt := 38) hx hb dX0_moveOldestToEnd_15 (by decide) (fun hc => absurd hc (by decide)) (fun _ => ?_)
  refine lv_aload_n hx hb dX0_moveOldestToEnd_18 rfl (lv_at hl 2 rfl) ?_
  refine va_get (D := D) (ci := 0) (v := .ref hr) (C := RX0) (T := TX0) (N := 2) hx hb hts iX0_moveOldestToEnd_X0 hown hK hP 0 rfl rfl 0 (by decide) (hts _ mX0_moveOldestToEnd_1) (fun _ h9 => h9) rfl dX0_moveOldestToEnd_19 ?_
  refine lv_iload_n hx hb dX0_moveOldestToEnd_22 rfl (lv_at hl 0 rfl) ?_
  refine lv_iconst (v := 1) hx hb dX0_moveOldestToEnd_23 (by decide) ?_
  refine lv_isub hx hb dX0_moveOldestToEnd_24 ?_
  refine W.eq (g2 := F0 m 25 ls [.int 4, .ref hr]) rfl ?_
  refine lv_aload_n hx hb dX0_moveOldestToEnd_25 rfl (lv_at hl 2 rfl) ?_
  refine va_get (D := D) (ci := 0) (v := .ref hr) (C := RX0) (T := TX0) (N := 2) hx hb hts iX0_moveOldestToEnd_X0 hown hK hP 0 rfl rfl 0 (by decide) (hts _ mX0_moveOldestToEnd_1) (fun _ h9 => h9) rfl dX0_moveOldestToEnd_26 ?_
  refine lv_iload_n hx hb dX0_moveOldestToEnd_29 rfl (lv_at hl 0 rfl) ?_
  refine va_aldq hx hb hK hP 1 2 rfl rfl (by unfold vp_in; decide) dX0_moveOldestToEnd_30 ?_
  refine W.eq (g2 := F0 m 31 ls [.ref (so 5), .int 4, .ref hr]) rfl ?_
  refine va_astq (r := (RX3, TX3, 8)) hx hb hK hP hD hS 1 2 27 2 rfl rfl rfl rfl (by unfold vp_in; decide) dX0_moveOldestToEnd_31 (fun H locs hP hD hS => ?_)
  have hP : va_P D vwCl (wX0 ho hr 6 ++ ([(hr, .inl (kS, 6, .inr (.inr (.inr (.inr (va_up (va_up (va_up (va_up (va_up (fun k => if k < 6 then some (so k) else none) 0 (some (so 1))) 1 (some (so 2))) 2 (some (so 3))) 3 (some (so 4))) 4 (some (so 5))))))))] ++ svs kI kJ so sa vs 6)) H := hP
  have hD : va_D A (wX0 ho hr 6 ++ ([(hr, .inl (kS, 6, .inr (.inr (.inr (.inr (va_up (va_up (va_up (va_up (va_up (fun k => if k < 6 then some (so k) else none) 0 (some (so 1))) 1 (some (so 2))) 2 (some (so 3))) 3 (some (so 4))) 4 (some (so 5))))))))] ++ svs kI kJ so sa vs 6)) := hD
  refine lv_iinc (v := 6) (lv' := [(2, .int 6), (1, .ref (so 0)), (0, .ref ho)]) hx hb dX0_moveOldestToEnd_32 hl (k := 0) rfl (by decide) (by decide) rfl (fun ls hl => ?_)
  refine lv_goto (tgt := 9) hx hb dX0_moveOldestToEnd_35 (by decide) ?_
  refine lv_iload_n hx hb dX0_moveOldestToEnd_9 rfl (lv_at hl 0 rfl) ?_
  refine lv_aload_n hx hb dX0_moveOldestToEnd_10 rfl (lv_at hl 2 rfl) ?_
  refine va_get (D := D) (ci := 0) (v := .ref hr) (C := RX0) (T := TX0) (N := 2) hx hb hts iX0_moveOldestToEnd_X0 hown hK hP 0 rfl rfl 0 (by decide) (hts _ mX0_moveOldestToEnd_1) (fun _ h9 => h9) rfl dX0_moveOldestToEnd_11 ?_
  refine va_alen (v := 6) hx hb hK hP 1 2 rfl rfl rfl dX0_moveOldestToEnd_14 ?_
  refine lv_icmp_ge (tgt := 38) hx hb dX0_moveOldestToEnd_15 (by decide) (fun _ => ?_) (fun hc => absurd hc (by decide))
  refine lv_aload_n hx hb dX0_moveOldestToEnd_38 rfl (lv_at hl 2 rfl) ?_
  refine va_get (D := D) (ci := 0) (v := .ref hr) (C := RX0) (T := TX0) (N := 2) hx hb hts iX0_moveOldestToEnd_X0 hown hK hP 0 rfl rfl 0 (by decide) (hts _ mX0_moveOldestToEnd_1) (fun _ h9 => h9) rfl dX0_moveOldestToEnd_39 ?_
  refine lv_aload_n hx hb dX0_moveOldestToEnd_42 rfl (lv_at hl 2 rfl) ?_
  refine va_get (D := D) (ci := 0) (v := .ref hr) (C := RX0) (T := TX0) (N := 2) hx hb hts iX0_moveOldestToEnd_X0 hown hK hP 0 rfl rfl 0 (by decide) (hts _ mX0_moveOldestToEnd_1) (fun _ h9 => h9) rfl dX0_moveOldestToEnd_43 ?_
  refine va_alen (v := 6) hx hb hK hP 1 2 rfl rfl rfl dX0_moveOldestToEnd_46 ?_
  refine lv_iconst (v := 1) hx hb dX0_moveOldestToEnd_47 (by decide) ?_
  refine lv_isub hx hb dX0_moveOldestToEnd_48 ?_
  refine W.eq (g2 := F0 m 49 ls [.int 5, .ref hr]) rfl ?_
  refine lv_aload_n hx hb dX0_moveOldestToEnd_49 rfl (lv_at hl 1 rfl) ?_
  refine va_astq (r := (RX3, TX3, 8)) hx hb hK hP hD hS 1 2 2 2 rfl rfl rfl rfl (by unfold vp_in; decide) dX0_moveOldestToEnd_50 (fun H locs hP hD hS => ?_)
  have hP : va_P D vwCl (wX0 ho hr 6 ++ ([(hr, .inl (kS, 6, .inr (.inr (.inr (.inr (va_up (va_up (va_up (va_up (va_up (va_up (fun k => if k < 6 then some (so k) else none) 0 (some (so 1))) 1 (some (so 2))) 2 (some (so 3))) 3 (some (so 4))) 4 (some (so 5))) 5 (some (so 0))))))))] ++ svs kI kJ so sa vs 6)) H := hP
  have hD : va_D A (wX0 ho hr 6 ++ ([(hr, .inl (kS, 6, .inr (.inr (.inr (.inr (va_up (va_up (va_up (va_up (va_up (va_up (fun k => if k < 6 then some (so k) else none) 0 (some (so 1))) 1 (some (so 2))) 2 (some (so 3))) 3 (some (so 4))) 4 (some (so 5))) 5 (some (so 0))))))))] ++ svs kI kJ so sa vs 6)) := hD
  rw [ar_rt] at hP hD
  have hP : va_P D vwCl (wX0 ho hr 6 ++ (svA kS hr (rt1 so) 6 ++ svs kI kJ so sa vs 6)) H := hP
  have hD : va_D A (wX0 ho hr 6 ++ (svA kS hr (rt1 so) 6 ++ svs kI kJ so sa vs 6)) := hD
  have hP := hP.sub (ws' := (wX0 ho hr 6 ++ (svA kS hr (rt1 so) 6 ++ svs kI kJ (rt1 so) (rt1 sa) (rt1 vs) 6))) [0, 1, 7, 8, 9, 10, 11, 12, 13, 14, 15, 16, 17, 18, 19, 20, 21, 22, 23, 24, 25, 26, 27, 28, 29, 30, 31, 2, 3, 4, 5, 6] rfl
  have hD := hD.sub (ws' := (wX0 ho hr 6 ++ (svA kS hr (rt1 so) 6 ++ svs kI kJ (rt1 so) (rt1 sa) (rt1 vs) 6))) [0, 1, 7, 8, 9, 10, 11, 12, 13, 14, 15, 16, 17, 18, 19, 20, 21, 22, 23, 24, 25, 26, 27, 28, 29, 30, 31, 2, 3, 4, 5, 6] rfl rfl
  exact hret _ _ _ _ dX0_moveOldestToEnd_51 hP hD hS
set_option maxHeartbeats 4000000 in
set_option maxRecDepth 100000 in
theorem c_X0_keep_0_0 (l : Launch) (D : va_G) (kI kJ kS : ClassId) (ho : Nat) (hr : Nat) (ao : Nat) (aa : Nat → Nat) (a_inputs : Int32) (a_remembered : Int32) (a_asks : Int32) (a_hours : Int32) (a_zeros : Nat → Int64) (a_ones : Nat → Int64) (a_alarms : Nat → Int32) (a_faults : Nat → Int32) (so : Nat → Nat) (sa : Nat → Nat → Nat) (vs : Nat → SV) (vals : Nat → SV) (hv : ∀ j, j < 0 → svEq (vs j) (vals j)) : gV l D (tyL kI kJ kS) yX0_keep wsX0_keep (rmk 2 5 24 32) [.ref ho, .ref ao] ((wX0 ho hr 0 ++ wX3 kI kJ ao aa a_inputs a_remembered a_asks a_hours a_zeros a_ones a_alarms a_faults) ++ (svA kS hr so 0 ++ svs kI kJ so sa vs 0)) (wX0 ho hr 1 ++ wX3 kI kJ ao aa a_inputs a_remembered a_asks a_hours a_zeros a_ones a_alarms a_faults) (TL kI kJ kS hr 1 (vup vals 0 (a_inputs, a_remembered, a_asks, a_hours, a_zeros, a_ones, a_alarms, a_faults))) := by
  refine gV_of (cc := cX0_keep) (maxL := 2) (by decide) rfl (Nat.le_of_ble_eq_true rfl) ?_
  intro p e s m av below meth c A Q ls hE hP hD hS hl hret
  have hE : ent_ p s m av meth c RX0 cX0_keep 2 none wsX0_keep (tyL kI kJ kS) D A true := hE
  obtain ⟨hx, hb, hml, hown, hts, hrt, hlocks, hK, hA, hst⟩ := id hE
  have hl : lv_has ls 2 [(0, .ref ho), (1, .ref ao)] := hl
  refine lv_aload_n hx hb dX0_keep_0 rfl (lv_at hl 0 rfl) ?_
  refine va_get (D := D) (ci := 0) (v := .int 0) (C := RX0) (T := TX0) (N := 2) hx hb hts iX0_keep_X0 hown hK hP 0 rfl rfl 1 (by decide) (hts _ mX0_keep_1) (fun _ h9 => h9) rfl dX0_keep_1 ?_
  refine lv_aload_n hx hb dX0_keep_4 rfl (lv_at hl 0 rfl) ?_
  refine va_get (D := D) (ci := 0) (v := .ref hr) (C := RX0) (T := TX0) (N := 2) hx hb hts iX0_keep_X0 hown hK hP 0 rfl rfl 0 (by decide) (hts _ mX0_keep_2) (fun _ h9 => h9) rfl dX0_keep_5 ?_
  refine va_alen (v := 6) hx hb hK hP 6 2 rfl rfl rfl dX0_keep_8 ?_
  refine lv_icmp_lt (tgt := 27) hx hb dX0_keep_9 (by decide) (fun _ => ?_) (fun hc => absurd hc (by decide))
  refine lv_aload_n hx hb dX0_keep_27 rfl (lv_at hl 0 rfl) ?_
  refine va_get (D := D) (ci := 0) (v := .int 0) (C := RX0) (T := TX0) (N := 2) hx hb hts iX0_keep_X0 hown hK hP 0 rfl rfl 1 (by decide) (hts _ mX0_keep_1) (fun _ h9 => h9) rfl dX0_keep_28 ?_
  refine lv_if_lt (tgt := 97) hx hb dX0_keep_31 (by decide) (fun hc => absurd hc (by decide)) (fun _ => ?_)
  refine lv_aload_n hx hb dX0_keep_34 rfl (lv_at hl 0 rfl) ?_
  refine va_get (D := D) (ci := 0) (v := .int 0) (C := RX0) (T := TX0) (N := 2) hx hb hts iX0_keep_X0 hown hK hP 0 rfl rfl 1 (by decide) (hts _ mX0_keep_1) (fun _ h9 => h9) rfl dX0_keep_35 ?_
  refine lv_aload_n hx hb dX0_keep_38 rfl (lv_at hl 0 rfl) ?_
  refine va_get (D := D) (ci := 0) (v := .ref hr) (C := RX0) (T := TX0) (N := 2) hx hb hts iX0_keep_X0 hown hK hP 0 rfl rfl 0 (by decide) (hts _ mX0_keep_2) (fun _ h9 => h9) rfl dX0_keep_39 ?_
  refine va_alen (v := 6) hx hb hK hP 6 2 rfl rfl rfl dX0_keep_42 ?_
  refine lv_icmp_ge (tgt := 97) hx hb dX0_keep_43 (by decide) (fun hc => absurd hc (by decide)) (fun _ => ?_)
  refine lv_aload_n hx hb dX0_keep_46 rfl (lv_at hl 0 rfl) ?_
  refine va_get (D := D) (ci := 0) (v := .ref hr) (C := RX0) (T := TX0) (N := 2) hx hb hts iX0_keep_X0 hown hK hP 0 rfl rfl 0 (by decide) (hts _ mX0_keep_2) (fun _ h9 => h9) rfl dX0_keep_47 ?_
  refine lv_aload_n hx hb dX0_keep_50 rfl (lv_at hl 0 rfl) ?_
  refine va_get (D := D) (ci := 0) (v := .int 0) (C := RX0) (T := TX0) (N := 2) hx hb hts iX0_keep_X0 hown hK hP 0 rfl rfl 1 (by decide) (hts _ mX0_keep_1) (fun _ h9 => h9) rfl dX0_keep_51 ?_
  refine va_aldq hx hb hK hP 6 2 rfl rfl (by unfold vp_in; decide) dX0_keep_54 ?_
  refine W.eq (g2 := F0 m 55 ls [.null]) rfl ?_
  refine lv_ifnonnullN hx hb dX0_keep_55 ?_
  refine lv_aload_n hx hb dX0_keep_58 rfl (lv_at hl 0 rfl) ?_
  refine va_get (D := D) (ci := 0) (v := .ref hr) (C := RX0) (T := TX0) (N := 2) hx hb hts iX0_keep_X0 hown hK hP 0 rfl rfl 0 (by decide) (hts _ mX0_keep_2) (fun _ h9 => h9) rfl dX0_keep_59 ?_
  refine lv_aload_n hx hb dX0_keep_62 rfl (lv_at hl 0 rfl) ?_
  refine va_get (D := D) (ci := 0) (v := .int 0) (C := RX0) (T := TX0) (N := 2) hx hb hts iX0_keep_X0 hown hK hP 0 rfl rfl 1 (by decide) (hts _ mX0_keep_1) (fun _ h9 => h9) rfl dX0_keep_63 ?_
  refine va_new (ci := 2) (fs := [.int 0, .int 0, .int 0, .int 0, .null, .null, .null, .null]) (C := RX3) (T := TX3) (N := 8) hx hb hts iX0_keep_X3 tyX3 tyX3_ok hown (hts _ mX0_keep_3) (hts _ mX0_keep_4) (hts _ mX0_keep_5) hK hP hD hS hA rfl (fun j hj => by rcases (show j = 0 ∨ j = 1 ∨ j = 2 ∨ j = 3 ∨ j = 4 ∨ j = 5 ∨ j = 6 ∨ j = 7 by omega) with rfl | rfl | rfl | rfl | rfl | rfl | rfl | rfl <;> rfl) (Nat.le_of_ble_eq_true rfl) (Nat.le_of_ble_eq_true rfl) dX0_keep_66 (fun nq H hP hD hS => ?_)
  have hP : va_P D vwCl ((wX0 ho hr 0 ++ wX3 kI kJ ao aa a_inputs a_remembered a_asks a_hours a_zeros a_ones a_alarms a_faults) ++ ((svA kS hr so 0 ++ svs kI kJ so sa vs 0) ++ [(nq, .inr (2, [.int 0, .int 0, .int 0, .int 0, .null, .null, .null, .null]))])) H := hP
  have hD : va_D A ((wX0 ho hr 0 ++ wX3 kI kJ ao aa a_inputs a_remembered a_asks a_hours a_zeros a_ones a_alarms a_faults) ++ ((svA kS hr so 0 ++ svs kI kJ so sa vs 0) ++ [(nq, .inr (2, [.int 0, .int 0, .int 0, .int 0, .null, .null, .null, .null]))])) := hD
  refine lv_dup hx hb dX0_keep_69 rfl ?_
  refine cN_callIN (As := []) (rest := [.ref nq, .int 0, .ref hr]) (wr := ((wX0 ho hr 0 ++ wX3 kI kJ ao aa a_inputs a_remembered a_asks a_hours a_zeros a_ones a_alarms a_faults) ++ (svA kS hr so 0 ++ svs kI kJ so sa vs 0))) (wN := fun na => ((wX0 ho hr 0 ++ wX3 kI kJ ao aa a_inputs a_remembered a_asks a_hours a_zeros a_ones a_alarms a_faults) ++ ((svA kS hr so 0 ++ svs kI kJ so sa vs 0) ++ wX3 kI kJ nq na 0 0 0 0 (fun _ => 0) (fun _ => 0) (fun _ => 0) (fun _ => 0)))) hE (c_X3_init l D kI kJ kS nq) ⟨va_cnB 0 hts ggX0_keep_X3_init rfl rfl rfl (nm_8 (hst rfl).2) (hts _ mX0_keep_5) (by decide +kernel) ⟨Nat.le_of_ble_eq_true rfl, Nat.le_of_ble_eq_true rfl⟩, rfl, hts _ mX0_keep_11⟩ hP hD hS [7] [0, 1, 2, 3, 4, 5, 6] [0, 1, 2, 3, 4, 5, 6, 7, 8, 9, 10, 11] rfl rfl rfl rfl (by decide) (fun _ => rfl) rfl rfl hl.1 rfl (Nat.le_of_ble_eq_true rfl) dX0_keep_70 ⟨Nat.le_of_ble_eq_true rfl, Nat.le_of_ble_eq_true rfl⟩ (fun na H locs hP hD hS => ?_)
  have hP : va_P D vwCl ((wX0 ho hr 0 ++ wX3 kI kJ ao aa a_inputs a_remembered a_asks a_hours a_zeros a_ones a_alarms a_faults) ++ ((svA kS hr so 0 ++ svs kI kJ so sa vs 0) ++ wX3 kI kJ nq na 0 0 0 0 (fun _ => 0) (fun _ => 0) (fun _ => 0) (fun _ => 0))) H := hP
  have hD : va_D A ((wX0 ho hr 0 ++ wX3 kI kJ ao aa a_inputs a_remembered a_asks a_hours a_zeros a_ones a_alarms a_faults) ++ ((svA kS hr so 0 ++ svs kI kJ so sa vs 0) ++ wX3 kI kJ nq na 0 0 0 0 (fun _ => 0) (fun _ => 0) (fun _ => 0) (fun _ => 0))) := hD
  refine va_astq (r := (RX3, TX3, 8)) hx hb hK hP hD hS 6 2 7 2 rfl rfl rfl rfl (by unfold vp_in; decide) dX0_keep_73 (fun H locs hP hD hS => ?_)
  have hP : va_P D vwCl ((wX0 ho hr 0 ++ wX3 kI kJ ao aa a_inputs a_remembered a_asks a_hours a_zeros a_ones a_alarms a_faults) ++ (([(hr, .inl (kS, 6, .inr (.inr (.inr (.inr (va_up (fun k => if k < 0 then some (so k) else none) 0 (some nq)))))))] ++ svs kI kJ so sa vs 0) ++ wX3 kI kJ nq na 0 0 0 0 (fun _ => 0) (fun _ => 0) (fun _ => 0) (fun _ => 0))) H := hP
  have hD : va_D A ((wX0 ho hr 0 ++ wX3 kI kJ ao aa a_inputs a_remembered a_asks a_hours a_zeros a_ones a_alarms a_faults) ++ (([(hr, .inl (kS, 6, .inr (.inr (.inr (.inr (va_up (fun k => if k < 0 then some (so k) else none) 0 (some nq)))))))] ++ svs kI kJ so sa vs 0) ++ wX3 kI kJ nq na 0 0 0 0 (fun _ => 0) (fun _ => 0) (fun _ => 0) (fun _ => 0))) := hD
  rw [ar_snoc so 0 nq] at hP hD
  have hP : va_P D vwCl ((wX0 ho hr 0 ++ wX3 kI kJ ao aa a_inputs a_remembered a_asks a_hours a_zeros a_ones a_alarms a_faults) ++ (svA kS hr (snoc so 0 nq) 1 ++ svs kI kJ (snoc so 0 nq) (snoc sa 0 na) (snoc vs 0 zSV) 1)) H := hP
  have hD : va_D A ((wX0 ho hr 0 ++ wX3 kI kJ ao aa a_inputs a_remembered a_asks a_hours a_zeros a_ones a_alarms a_faults) ++ (svA kS hr (snoc so 0 nq) 1 ++ svs kI kJ (snoc so 0 nq) (snoc sa 0 na) (snoc vs 0 zSV) 1)) := hD
  refine lv_aload_n hx hb dX0_keep_74 rfl (lv_at hl 0 rfl) ?_
  refine va_get (D := D) (ci := 0) (v := .ref hr) (C := RX0) (T := TX0) (N := 2) hx hb hts iX0_keep_X0 hown hK hP 0 rfl rfl 0 (by decide) (hts _ mX0_keep_2) (fun _ h9 => h9) rfl dX0_keep_75 ?_
  refine lv_aload_n hx hb dX0_keep_78 rfl (lv_at hl 0 rfl) ?_
  refine va_get (D := D) (ci := 0) (v := .int 0) (C := RX0) (T := TX0) (N := 2) hx hb hts iX0_keep_X0 hown hK hP 0 rfl rfl 1 (by decide) (hts _ mX0_keep_1) (fun _ h9 => h9) rfl dX0_keep_79 ?_
  refine va_aldq hx hb hK hP 6 2 rfl rfl (by unfold vp_in; decide) dX0_keep_82 ?_
  refine W.eq (g2 := F0 m 83 ls [.ref ((snoc so 0 nq) 0)]) rfl ?_
  refine lv_aload_n hx hb dX0_keep_83 rfl (lv_at hl 1 rfl) ?_
  obtain ⟨q, hq, hqe⟩ := cfh_ex ((snoc vs 0 zSV) 0).2.2.2.2.1 ((snoc vs 0 zSV) 0).2.2.2.2.2.1 ((snoc vs 0 zSV) 0).2.2.2.2.2.2.1 ((snoc vs 0 zSV) 0).2.2.2.2.2.2.2 a_inputs a_remembered a_asks a_hours a_zeros a_ones a_alarms a_faults
  refine cV_callV (As := [.ref ao]) (rest := []) (wr := List.filterMap (fun i => (((wX0 ho hr 0 ++ wX3 kI kJ ao aa a_inputs a_remembered a_asks a_hours a_zeros a_ones a_alarms a_faults) ++ (svA kS hr (snoc so 0 nq) 1 ++ svs kI kJ (snoc so 0 nq) (snoc sa 0 na) (snoc vs 0 zSV) 1)))[i]?) [0, 6]) (wN := ((wX0 ho hr 0 ++ wX3 kI kJ ao aa a_inputs a_remembered a_asks a_hours a_zeros a_ones a_alarms a_faults) ++ (svA kS hr (snoc so 0 nq) 1 ++ svs kI kJ (snoc so 0 nq) (snoc sa 0 na) (vup (snoc vs 0 zSV) 0 q) 1))) (ci := 2) (q0 := 7) hE (c_X3_copyFrom l D kI kJ kS ((snoc so 0 nq) 0) ((snoc sa 0 na) 0) ao aa ((snoc vs 0 zSV) 0).1 ((snoc vs 0 zSV) 0).2.1 ((snoc vs 0 zSV) 0).2.2.1 ((snoc vs 0 zSV) 0).2.2.2.1 ((snoc vs 0 zSV) 0).2.2.2.2.1 ((snoc vs 0 zSV) 0).2.2.2.2.2.1 ((snoc vs 0 zSV) 0).2.2.2.2.2.2.1 ((snoc vs 0 zSV) 0).2.2.2.2.2.2.2 a_inputs a_remembered a_asks a_hours a_zeros a_ones a_alarms a_faults hq) (cwV 1 hts gX0_keep_X3_copyFrom rfl rfl rfl (by decide +kernel) ⟨Nat.le_of_ble_eq_true rfl, Nat.le_of_ble_eq_true rfl⟩) hP hD hS [7, 8, 9, 10, 11, 1, 2, 3, 4, 5] [0, 6] [0, 7, 8, 9, 10, 11, 1, 2, 3, 4, 5, 6] rfl rfl rfl rfl (by decide) rfl rfl rfl rfl rfl hl.1 rfl (Nat.le_of_ble_eq_true rfl) dX0_keep_84 ⟨Nat.le_of_ble_eq_true rfl, Nat.le_of_ble_eq_true rfl⟩ (fun H locs hP hD hS => ?_)
  refine lv_aload_n hx hb dX0_keep_87 rfl (lv_at hl 0 rfl) ?_
  refine lv_dup hx hb dX0_keep_88 rfl ?_
  refine va_get (D := D) (ci := 0) (v := .int 0) (C := RX0) (T := TX0) (N := 2) hx hb hts iX0_keep_X0 hown hK hP 0 rfl rfl 1 (by decide) (hts _ mX0_keep_1) (fun _ h9 => h9) rfl dX0_keep_89 ?_
  refine lv_iconst (v := 1) hx hb dX0_keep_92 (by decide) ?_
  refine lv_iadd hx hb dX0_keep_93 ?_
  refine W.eq (g2 := F0 m 94 ls [.int 1, .ref ho]) rfl ?_
  refine va_put (D := D) (ci := 0) (v := .int 1) (ty := .int) (C := RX0) (T := TX0) (N := 2) hx hb hts iX0_keep_X0 tyX0 tyX0_ok nmX0 hown hK hP hD hS 0 rfl rfl 1 (by decide) (hts _ mX0_keep_1) (fun _ h9 => h9) rfl (by decide +kernel) rfl rfl (Nat.le_of_ble_eq_true rfl) dX0_keep_94 (fun H locs hP hD hS => ?_)
  have hP : va_P D vwCl ((wX0 ho hr 1 ++ wX3 kI kJ ao aa a_inputs a_remembered a_asks a_hours a_zeros a_ones a_alarms a_faults) ++ (svA kS hr (snoc so 0 nq) 1 ++ svs kI kJ (snoc so 0 nq) (snoc sa 0 na) (vup (snoc vs 0 zSV) 0 q) 1)) H := hP
  have hD : va_D A ((wX0 ho hr 1 ++ wX3 kI kJ ao aa a_inputs a_remembered a_asks a_hours a_zeros a_ones a_alarms a_faults) ++ (svA kS hr (snoc so 0 nq) 1 ++ svs kI kJ (snoc so 0 nq) (snoc sa 0 na) (vup (snoc vs 0 zSV) 0 q) 1)) := hD
  refine W.widen (k := 5) (n := 24) (Nat.le_of_ble_eq_true rfl) (Nat.le_of_ble_eq_true rfl) ?_
  refine hret _ _ _ _ (svA kS hr (snoc so 0 nq) 1 ++ svs kI kJ (snoc so 0 nq) (snoc sa 0 na) (vup (snoc vs 0 zSV) 0 q) 1) ⟨1, 1, (snoc so 0 nq), (snoc sa 0 na), (vup (snoc vs 0 zSV) 0 q), by decide, by decide, rfl, ?_, rfl⟩ dX0_keep_97 hP hD hS
  exact kpn_ok (vs := vs) (vals := vals) 0 hv hqe
set_option maxHeartbeats 4000000 in
set_option maxRecDepth 100000 in
theorem c_X0_keep_1_0 (l : Launch) (D : va_G) (kI kJ kS : ClassId) (ho : Nat) (hr : Nat) (ao : Nat) (aa : Nat → Nat) (a_inputs : Int32) (a_remembered : Int32) (a_asks : Int32) (a_hours : Int32) (a_zeros : Nat → Int64) (a_ones : Nat → Int64) (a_alarms : Nat → Int32) (a_faults : Nat → Int32) (so : Nat → Nat) (sa : Nat → Nat → Nat) (vs : Nat → SV) (vals : Nat → SV) (hv : ∀ j, j < 0 → svEq (vs j) (vals j)) : gV l D (tyL kI kJ kS) yX0_keep wsX0_keep (rmk 2 5 24 32) [.ref ho, .ref ao] ((wX0 ho hr 0 ++ wX3 kI kJ ao aa a_inputs a_remembered a_asks a_hours a_zeros a_ones a_alarms a_faults) ++ (svA kS hr so 1 ++ svs kI kJ so sa vs 1)) (wX0 ho hr 1 ++ wX3 kI kJ ao aa a_inputs a_remembered a_asks a_hours a_zeros a_ones a_alarms a_faults) (TL kI kJ kS hr 1 (vup vals 0 (a_inputs, a_remembered, a_asks, a_hours, a_zeros, a_ones, a_alarms, a_faults))) := by
  refine gV_of (cc := cX0_keep) (maxL := 2) (by decide) rfl (Nat.le_of_ble_eq_true rfl) ?_
  intro p e s m av below meth c A Q ls hE hP hD hS hl hret
  have hE : ent_ p s m av meth c RX0 cX0_keep 2 none wsX0_keep (tyL kI kJ kS) D A true := hE
  obtain ⟨hx, hb, hml, hown, hts, hrt, hlocks, hK, hA, hst⟩ := id hE
  have hl : lv_has ls 2 [(0, .ref ho), (1, .ref ao)] := hl
  refine lv_aload_n hx hb dX0_keep_0 rfl (lv_at hl 0 rfl) ?_
  refine va_get (D := D) (ci := 0) (v := .int 0) (C := RX0) (T := TX0) (N := 2) hx hb hts iX0_keep_X0 hown hK hP 0 rfl rfl 1 (by decide) (hts _ mX0_keep_1) (fun _ h9 => h9) rfl dX0_keep_1 ?_
  refine lv_aload_n hx hb dX0_keep_4 rfl (lv_at hl 0 rfl) ?_
  refine va_get (D := D) (ci := 0) (v := .ref hr) (C := RX0) (T := TX0) (N := 2) hx hb hts iX0_keep_X0 hown hK hP 0 rfl rfl 0 (by decide) (hts _ mX0_keep_2) (fun _ h9 => h9) rfl dX0_keep_5 ?_
  refine va_alen (v := 6) hx hb hK hP 6 2 rfl rfl rfl dX0_keep_8 ?_
  refine lv_icmp_lt (tgt := 27) hx hb dX0_keep_9 (by decide) (fun _ => ?_) (fun hc => absurd hc (by decide))
  refine lv_aload_n hx hb dX0_keep_27 rfl (lv_at hl 0 rfl) ?_
  refine va_get (D := D) (ci := 0) (v := .int 0) (C := RX0) (T := TX0) (N := 2) hx hb hts iX0_keep_X0 hown hK hP 0 rfl rfl 1 (by decide) (hts _ mX0_keep_1) (fun _ h9 => h9) rfl dX0_keep_28 ?_
  refine lv_if_lt (tgt := 97) hx hb dX0_keep_31 (by decide) (fun hc => absurd hc (by decide)) (fun _ => ?_)
  refine lv_aload_n hx hb dX0_keep_34 rfl (lv_at hl 0 rfl) ?_
  refine va_get (D := D) (ci := 0) (v := .int 0) (C := RX0) (T := TX0) (N := 2) hx hb hts iX0_keep_X0 hown hK hP 0 rfl rfl 1 (by decide) (hts _ mX0_keep_1) (fun _ h9 => h9) rfl dX0_keep_35 ?_
  refine lv_aload_n hx hb dX0_keep_38 rfl (lv_at hl 0 rfl) ?_
  refine va_get (D := D) (ci := 0) (v := .ref hr) (C := RX0) (T := TX0) (N := 2) hx hb hts iX0_keep_X0 hown hK hP 0 rfl rfl 0 (by decide) (hts _ mX0_keep_2) (fun _ h9 => h9) rfl dX0_keep_39 ?_
  refine va_alen (v := 6) hx hb hK hP 6 2 rfl rfl rfl dX0_keep_42 ?_
  refine lv_icmp_ge (tgt := 97) hx hb dX0_keep_43 (by decide) (fun hc => absurd hc (by decide)) (fun _ => ?_)
  refine lv_aload_n hx hb dX0_keep_46 rfl (lv_at hl 0 rfl) ?_
  refine va_get (D := D) (ci := 0) (v := .ref hr) (C := RX0) (T := TX0) (N := 2) hx hb hts iX0_keep_X0 hown hK hP 0 rfl rfl 0 (by decide) (hts _ mX0_keep_2) (fun _ h9 => h9) rfl dX0_keep_47 ?_
  refine lv_aload_n hx hb dX0_keep_50 rfl (lv_at hl 0 rfl) ?_
  refine va_get (D := D) (ci := 0) (v := .int 0) (C := RX0) (T := TX0) (N := 2) hx hb hts iX0_keep_X0 hown hK hP 0 rfl rfl 1 (by decide) (hts _ mX0_keep_1) (fun _ h9 => h9) rfl dX0_keep_51 ?_
  refine va_aldq hx hb hK hP 6 2 rfl rfl (by unfold vp_in; decide) dX0_keep_54 ?_
  refine W.eq (g2 := F0 m 55 ls [.ref (so 0)]) rfl ?_
  refine lv_ifnonnull (tgt := 74) hx hb dX0_keep_55 (by decide) ?_
  refine lv_aload_n hx hb dX0_keep_74 rfl (lv_at hl 0 rfl) ?_
  refine va_get (D := D) (ci := 0) (v := .ref hr) (C := RX0) (T := TX0) (N := 2) hx hb hts iX0_keep_X0 hown hK hP 0 rfl rfl 0 (by decide) (hts _ mX0_keep_2) (fun _ h9 => h9) rfl dX0_keep_75 ?_
  refine lv_aload_n hx hb dX0_keep_78 rfl (lv_at hl 0 rfl) ?_
  refine va_get (D := D) (ci := 0) (v := .int 0) (C := RX0) (T := TX0) (N := 2) hx hb hts iX0_keep_X0 hown hK hP 0 rfl rfl 1 (by decide) (hts _ mX0_keep_1) (fun _ h9 => h9) rfl dX0_keep_79 ?_
  refine va_aldq hx hb hK hP 6 2 rfl rfl (by unfold vp_in; decide) dX0_keep_82 ?_
  refine W.eq (g2 := F0 m 83 ls [.ref (so 0)]) rfl ?_
  refine lv_aload_n hx hb dX0_keep_83 rfl (lv_at hl 1 rfl) ?_
  obtain ⟨q, hq, hqe⟩ := cfh_ex (vs 0).2.2.2.2.1 (vs 0).2.2.2.2.2.1 (vs 0).2.2.2.2.2.2.1 (vs 0).2.2.2.2.2.2.2 a_inputs a_remembered a_asks a_hours a_zeros a_ones a_alarms a_faults
  refine cV_callV (As := [.ref ao]) (rest := []) (wr := List.filterMap (fun i => (((wX0 ho hr 0 ++ wX3 kI kJ ao aa a_inputs a_remembered a_asks a_hours a_zeros a_ones a_alarms a_faults) ++ (svA kS hr so 1 ++ svs kI kJ so sa vs 1)))[i]?) [0, 6]) (wN := ((wX0 ho hr 0 ++ wX3 kI kJ ao aa a_inputs a_remembered a_asks a_hours a_zeros a_ones a_alarms a_faults) ++ (svA kS hr so 1 ++ svs kI kJ so sa (vup vs 0 q) 1))) (ci := 2) (q0 := 7) hE (c_X3_copyFrom l D kI kJ kS (so 0) (sa 0) ao aa (vs 0).1 (vs 0).2.1 (vs 0).2.2.1 (vs 0).2.2.2.1 (vs 0).2.2.2.2.1 (vs 0).2.2.2.2.2.1 (vs 0).2.2.2.2.2.2.1 (vs 0).2.2.2.2.2.2.2 a_inputs a_remembered a_asks a_hours a_zeros a_ones a_alarms a_faults hq) (cwV 1 hts gX0_keep_X3_copyFrom rfl rfl rfl (by decide +kernel) ⟨Nat.le_of_ble_eq_true rfl, Nat.le_of_ble_eq_true rfl⟩) hP hD hS [7, 8, 9, 10, 11, 1, 2, 3, 4, 5] [0, 6] [0, 7, 8, 9, 10, 11, 1, 2, 3, 4, 5, 6] rfl rfl rfl rfl (by decide) rfl rfl rfl rfl rfl hl.1 rfl (Nat.le_of_ble_eq_true rfl) dX0_keep_84 ⟨Nat.le_of_ble_eq_true rfl, Nat.le_of_ble_eq_true rfl⟩ (fun H locs hP hD hS => ?_)
  refine lv_aload_n hx hb dX0_keep_87 rfl (lv_at hl 0 rfl) ?_
  refine lv_dup hx hb dX0_keep_88 rfl ?_
  refine va_get (D := D) (ci := 0) (v := .int 0) (C := RX0) (T := TX0) (N := 2) hx hb hts iX0_keep_X0 hown hK hP 0 rfl rfl 1 (by decide) (hts _ mX0_keep_1) (fun _ h9 => h9) rfl dX0_keep_89 ?_
  refine lv_iconst (v := 1) hx hb dX0_keep_92 (by decide) ?_
  refine lv_iadd hx hb dX0_keep_93 ?_
  refine W.eq (g2 := F0 m 94 ls [.int 1, .ref ho]) rfl ?_
  refine va_put (D := D) (ci := 0) (v := .int 1) (ty := .int) (C := RX0) (T := TX0) (N := 2) hx hb hts iX0_keep_X0 tyX0 tyX0_ok nmX0 hown hK hP hD hS 0 rfl rfl 1 (by decide) (hts _ mX0_keep_1) (fun _ h9 => h9) rfl (by decide +kernel) rfl rfl (Nat.le_of_ble_eq_true rfl) dX0_keep_94 (fun H locs hP hD hS => ?_)
  have hP : va_P D vwCl ((wX0 ho hr 1 ++ wX3 kI kJ ao aa a_inputs a_remembered a_asks a_hours a_zeros a_ones a_alarms a_faults) ++ (svA kS hr so 1 ++ svs kI kJ so sa (vup vs 0 q) 1)) H := hP
  have hD : va_D A ((wX0 ho hr 1 ++ wX3 kI kJ ao aa a_inputs a_remembered a_asks a_hours a_zeros a_ones a_alarms a_faults) ++ (svA kS hr so 1 ++ svs kI kJ so sa (vup vs 0 q) 1)) := hD
  refine W.widen (k := 5) (n := 24) (Nat.le_of_ble_eq_true rfl) (Nat.le_of_ble_eq_true rfl) ?_
  refine hret _ _ _ _ (svA kS hr so 1 ++ svs kI kJ so sa (vup vs 0 q) 1) ⟨1, 1, so, sa, (vup vs 0 q), by decide, by decide, rfl, ?_, rfl⟩ dX0_keep_97 hP hD hS
  exact kp_ok (vs := vs) (vals := vals) 0 hv hqe
set_option maxHeartbeats 4000000 in
set_option maxRecDepth 100000 in
theorem c_X0_keep_1_1 (l : Launch) (D : va_G) (kI kJ kS : ClassId) (ho : Nat) (hr : Nat) (ao : Nat) (aa : Nat → Nat) (a_inputs : Int32) (a_remembered : Int32) (a_asks : Int32) (a_hours : Int32) (a_zeros : Nat → Int64) (a_ones : Nat → Int64) (a_alarms : Nat → Int32) (a_faults : Nat → Int32) (so : Nat → Nat) (sa : Nat → Nat → Nat) (vs : Nat → SV) (vals : Nat → SV) (hv : ∀ j, j < 1 → svEq (vs j) (vals j)) : gV l D (tyL kI kJ kS) yX0_keep wsX0_keep (rmk 2 5 24 32) [.ref ho, .ref ao] ((wX0 ho hr 1 ++ wX3 kI kJ ao aa a_inputs a_remembered a_asks a_hours a_zeros a_ones a_alarms a_faults) ++ (svA kS hr so 1 ++ svs kI kJ so sa vs 1)) (wX0 ho hr 2 ++ wX3 kI kJ ao aa a_inputs a_remembered a_asks a_hours a_zeros a_ones a_alarms a_faults) (TL kI kJ kS hr 2 (vup vals 1 (a_inputs, a_remembered, a_asks, a_hours, a_zeros, a_ones, a_alarms, a_faults))) := by
  refine gV_of (cc := cX0_keep) (maxL := 2) (by decide) rfl (Nat.le_of_ble_eq_true rfl) ?_
  intro p e s m av below meth c A Q ls hE hP hD hS hl hret
  have hE : ent_ p s m av meth c RX0 cX0_keep 2 none wsX0_keep (tyL kI kJ kS) D A true := hE
  obtain ⟨hx, hb, hml, hown, hts, hrt, hlocks, hK, hA, hst⟩ := id hE
  have hl : lv_has ls 2 [(0, .ref ho), (1, .ref ao)] := hl
  refine lv_aload_n hx hb dX0_keep_0 rfl (lv_at hl 0 rfl) ?_
  refine va_get (D := D) (ci := 0) (v := .int 1) (C := RX0) (T := TX0) (N := 2) hx hb hts iX0_keep_X0 hown hK hP 0 rfl rfl 1 (by decide) (hts _ mX0_keep_1) (fun _ h9 => h9) rfl dX0_keep_1 ?_
  refine lv_aload_n hx hb dX0_keep_4 rfl (lv_at hl 0 rfl) ?_
  refine va_get (D := D) (ci := 0) (v := .ref hr) (C := RX0) (T := TX0) (N := 2) hx hb hts iX0_keep_X0 hown hK hP 0 rfl rfl 0 (by decide) (hts _ mX0_keep_2) (fun _ h9 => h9) rfl dX0_keep_5 ?_
  refine va_alen (v := 6) hx hb hK hP 6 2 rfl rfl rfl dX0_keep_8 ?_
  refine lv_icmp_lt (tgt := 27) hx hb dX0_keep_9 (by decide) (fun _ => ?_) (fun hc => absurd hc (by decide))
  refine lv_aload_n hx hb dX0_keep_27 rfl (lv_at hl 0 rfl) ?_
  refine va_get (D := D) (ci := 0) (v := .int 1) (C := RX0) (T := TX0) (N := 2) hx hb hts iX0_keep_X0 hown hK hP 0 rfl rfl 1 (by decide) (hts _ mX0_keep_1) (fun _ h9 => h9) rfl dX0_keep_28 ?_
  refine lv_if_lt (tgt := 97) hx hb dX0_keep_31 (by decide) (fun hc => absurd hc (by decide)) (fun _ => ?_)
  refine lv_aload_n hx hb dX0_keep_34 rfl (lv_at hl 0 rfl) ?_
  refine va_get (D := D) (ci := 0) (v := .int 1) (C := RX0) (T := TX0) (N := 2) hx hb hts iX0_keep_X0 hown hK hP 0 rfl rfl 1 (by decide) (hts _ mX0_keep_1) (fun _ h9 => h9) rfl dX0_keep_35 ?_
  refine lv_aload_n hx hb dX0_keep_38 rfl (lv_at hl 0 rfl) ?_
  refine va_get (D := D) (ci := 0) (v := .ref hr) (C := RX0) (T := TX0) (N := 2) hx hb hts iX0_keep_X0 hown hK hP 0 rfl rfl 0 (by decide) (hts _ mX0_keep_2) (fun _ h9 => h9) rfl dX0_keep_39 ?_
  refine va_alen (v := 6) hx hb hK hP 6 2 rfl rfl rfl dX0_keep_42 ?_
  refine lv_icmp_ge (tgt := 97) hx hb dX0_keep_43 (by decide) (fun hc => absurd hc (by decide)) (fun _ => ?_)
  refine lv_aload_n hx hb dX0_keep_46 rfl (lv_at hl 0 rfl) ?_
  refine va_get (D := D) (ci := 0) (v := .ref hr) (C := RX0) (T := TX0) (N := 2) hx hb hts iX0_keep_X0 hown hK hP 0 rfl rfl 0 (by decide) (hts _ mX0_keep_2) (fun _ h9 => h9) rfl dX0_keep_47 ?_
  refine lv_aload_n hx hb dX0_keep_50 rfl (lv_at hl 0 rfl) ?_
  refine va_get (D := D) (ci := 0) (v := .int 1) (C := RX0) (T := TX0) (N := 2) hx hb hts iX0_keep_X0 hown hK hP 0 rfl rfl 1 (by decide) (hts _ mX0_keep_1) (fun _ h9 => h9) rfl dX0_keep_51 ?_
  refine va_aldq hx hb hK hP 6 2 rfl rfl (by unfold vp_in; decide) dX0_keep_54 ?_
  refine W.eq (g2 := F0 m 55 ls [.null]) rfl ?_
  refine lv_ifnonnullN hx hb dX0_keep_55 ?_
  refine lv_aload_n hx hb dX0_keep_58 rfl (lv_at hl 0 rfl) ?_
  refine va_get (D := D) (ci := 0) (v := .ref hr) (C := RX0) (T := TX0) (N := 2) hx hb hts iX0_keep_X0 hown hK hP 0 rfl rfl 0 (by decide) (hts _ mX0_keep_2) (fun _ h9 => h9) rfl dX0_keep_59 ?_
  refine lv_aload_n hx hb dX0_keep_62 rfl (lv_at hl 0 rfl) ?_
  refine va_get (D := D) (ci := 0) (v := .int 1) (C := RX0) (T := TX0) (N := 2) hx hb hts iX0_keep_X0 hown hK hP 0 rfl rfl 1 (by decide) (hts _ mX0_keep_1) (fun _ h9 => h9) rfl dX0_keep_63 ?_
  refine va_new (ci := 2) (fs := [.int 0, .int 0, .int 0, .int 0, .null, .null, .null, .null]) (C := RX3) (T := TX3) (N := 8) hx hb hts iX0_keep_X3 tyX3 tyX3_ok hown (hts _ mX0_keep_3) (hts _ mX0_keep_4) (hts _ mX0_keep_5) hK hP hD hS hA rfl (fun j hj => by rcases (show j = 0 ∨ j = 1 ∨ j = 2 ∨ j = 3 ∨ j = 4 ∨ j = 5 ∨ j = 6 ∨ j = 7 by omega) with rfl | rfl | rfl | rfl | rfl | rfl | rfl | rfl <;> rfl) (Nat.le_of_ble_eq_true rfl) (Nat.le_of_ble_eq_true rfl) dX0_keep_66 (fun nq H hP hD hS => ?_)
  have hP : va_P D vwCl ((wX0 ho hr 1 ++ wX3 kI kJ ao aa a_inputs a_remembered a_asks a_hours a_zeros a_ones a_alarms a_faults) ++ ((svA kS hr so 1 ++ svs kI kJ so sa vs 1) ++ [(nq, .inr (2, [.int 0, .int 0, .int 0, .int 0, .null, .null, .null, .null]))])) H := hP
  have hD : va_D A ((wX0 ho hr 1 ++ wX3 kI kJ ao aa a_inputs a_remembered a_asks a_hours a_zeros a_ones a_alarms a_faults) ++ ((svA kS hr so 1 ++ svs kI kJ so sa vs 1) ++ [(nq, .inr (2, [.int 0, .int 0, .int 0, .int 0, .null, .null, .null, .null]))])) := hD
  refine lv_dup hx hb dX0_keep_69 rfl ?_
  refine cN_callIN (As := []) (rest := [.ref nq, .int 1, .ref hr]) (wr := ((wX0 ho hr 1 ++ wX3 kI kJ ao aa a_inputs a_remembered a_asks a_hours a_zeros a_ones a_alarms a_faults) ++ (svA kS hr so 1 ++ svs kI kJ so sa vs 1))) (wN := fun na => ((wX0 ho hr 1 ++ wX3 kI kJ ao aa a_inputs a_remembered a_asks a_hours a_zeros a_ones a_alarms a_faults) ++ ((svA kS hr so 1 ++ svs kI kJ so sa vs 1) ++ wX3 kI kJ nq na 0 0 0 0 (fun _ => 0) (fun _ => 0) (fun _ => 0) (fun _ => 0)))) hE (c_X3_init l D kI kJ kS nq) ⟨va_cnB 0 hts ggX0_keep_X3_init rfl rfl rfl (nm_8 (hst rfl).2) (hts _ mX0_keep_5) (by decide +kernel) ⟨Nat.le_of_ble_eq_true rfl, Nat.le_of_ble_eq_true rfl⟩, rfl, hts _ mX0_keep_11⟩ hP hD hS [12] [0, 1, 2, 3, 4, 5, 6, 7, 8, 9, 10, 11] [0, 1, 2, 3, 4, 5, 6, 7, 8, 9, 10, 11, 12, 13, 14, 15, 16] rfl rfl rfl rfl (by decide) (fun _ => rfl) rfl rfl hl.1 rfl (Nat.le_of_ble_eq_true rfl) dX0_keep_70 ⟨Nat.le_of_ble_eq_true rfl, Nat.le_of_ble_eq_true rfl⟩ (fun na H locs hP hD hS => ?_)
  have hP : va_P D vwCl ((wX0 ho hr 1 ++ wX3 kI kJ ao aa a_inputs a_remembered a_asks a_hours a_zeros a_ones a_alarms a_faults) ++ ((svA kS hr so 1 ++ svs kI kJ so sa vs 1) ++ wX3 kI kJ nq na 0 0 0 0 (fun _ => 0) (fun _ => 0) (fun _ => 0) (fun _ => 0))) H := hP
  have hD : va_D A ((wX0 ho hr 1 ++ wX3 kI kJ ao aa a_inputs a_remembered a_asks a_hours a_zeros a_ones a_alarms a_faults) ++ ((svA kS hr so 1 ++ svs kI kJ so sa vs 1) ++ wX3 kI kJ nq na 0 0 0 0 (fun _ => 0) (fun _ => 0) (fun _ => 0) (fun _ => 0))) := hD
  refine va_astq (r := (RX3, TX3, 8)) hx hb hK hP hD hS 6 2 12 2 rfl rfl rfl rfl (by unfold vp_in; decide) dX0_keep_73 (fun H locs hP hD hS => ?_)
  have hP : va_P D vwCl ((wX0 ho hr 1 ++ wX3 kI kJ ao aa a_inputs a_remembered a_asks a_hours a_zeros a_ones a_alarms a_faults) ++ (([(hr, .inl (kS, 6, .inr (.inr (.inr (.inr (va_up (fun k => if k < 1 then some (so k) else none) 1 (some nq)))))))] ++ svs kI kJ so sa vs 1) ++ wX3 kI kJ nq na 0 0 0 0 (fun _ => 0) (fun _ => 0) (fun _ => 0) (fun _ => 0))) H := hP
  have hD : va_D A ((wX0 ho hr 1 ++ wX3 kI kJ ao aa a_inputs a_remembered a_asks a_hours a_zeros a_ones a_alarms a_faults) ++ (([(hr, .inl (kS, 6, .inr (.inr (.inr (.inr (va_up (fun k => if k < 1 then some (so k) else none) 1 (some nq)))))))] ++ svs kI kJ so sa vs 1) ++ wX3 kI kJ nq na 0 0 0 0 (fun _ => 0) (fun _ => 0) (fun _ => 0) (fun _ => 0))) := hD
  rw [ar_snoc so 1 nq] at hP hD
  have hP : va_P D vwCl ((wX0 ho hr 1 ++ wX3 kI kJ ao aa a_inputs a_remembered a_asks a_hours a_zeros a_ones a_alarms a_faults) ++ (svA kS hr (snoc so 1 nq) 2 ++ svs kI kJ (snoc so 1 nq) (snoc sa 1 na) (snoc vs 1 zSV) 2)) H := hP
  have hD : va_D A ((wX0 ho hr 1 ++ wX3 kI kJ ao aa a_inputs a_remembered a_asks a_hours a_zeros a_ones a_alarms a_faults) ++ (svA kS hr (snoc so 1 nq) 2 ++ svs kI kJ (snoc so 1 nq) (snoc sa 1 na) (snoc vs 1 zSV) 2)) := hD
  refine lv_aload_n hx hb dX0_keep_74 rfl (lv_at hl 0 rfl) ?_
  refine va_get (D := D) (ci := 0) (v := .ref hr) (C := RX0) (T := TX0) (N := 2) hx hb hts iX0_keep_X0 hown hK hP 0 rfl rfl 0 (by decide) (hts _ mX0_keep_2) (fun _ h9 => h9) rfl dX0_keep_75 ?_
  refine lv_aload_n hx hb dX0_keep_78 rfl (lv_at hl 0 rfl) ?_
  refine va_get (D := D) (ci := 0) (v := .int 1) (C := RX0) (T := TX0) (N := 2) hx hb hts iX0_keep_X0 hown hK hP 0 rfl rfl 1 (by decide) (hts _ mX0_keep_1) (fun _ h9 => h9) rfl dX0_keep_79 ?_
  refine va_aldq hx hb hK hP 6 2 rfl rfl (by unfold vp_in; decide) dX0_keep_82 ?_
  refine W.eq (g2 := F0 m 83 ls [.ref ((snoc so 1 nq) 1)]) rfl ?_
  refine lv_aload_n hx hb dX0_keep_83 rfl (lv_at hl 1 rfl) ?_
  obtain ⟨q, hq, hqe⟩ := cfh_ex ((snoc vs 1 zSV) 1).2.2.2.2.1 ((snoc vs 1 zSV) 1).2.2.2.2.2.1 ((snoc vs 1 zSV) 1).2.2.2.2.2.2.1 ((snoc vs 1 zSV) 1).2.2.2.2.2.2.2 a_inputs a_remembered a_asks a_hours a_zeros a_ones a_alarms a_faults
  refine cV_callV (As := [.ref ao]) (rest := []) (wr := List.filterMap (fun i => (((wX0 ho hr 1 ++ wX3 kI kJ ao aa a_inputs a_remembered a_asks a_hours a_zeros a_ones a_alarms a_faults) ++ (svA kS hr (snoc so 1 nq) 2 ++ svs kI kJ (snoc so 1 nq) (snoc sa 1 na) (snoc vs 1 zSV) 2)))[i]?) [0, 6, 7, 8, 9, 10, 11]) (wN := ((wX0 ho hr 1 ++ wX3 kI kJ ao aa a_inputs a_remembered a_asks a_hours a_zeros a_ones a_alarms a_faults) ++ (svA kS hr (snoc so 1 nq) 2 ++ svs kI kJ (snoc so 1 nq) (snoc sa 1 na) (vup (snoc vs 1 zSV) 1 q) 2))) (ci := 2) (q0 := 12) hE (c_X3_copyFrom l D kI kJ kS ((snoc so 1 nq) 1) ((snoc sa 1 na) 1) ao aa ((snoc vs 1 zSV) 1).1 ((snoc vs 1 zSV) 1).2.1 ((snoc vs 1 zSV) 1).2.2.1 ((snoc vs 1 zSV) 1).2.2.2.1 ((snoc vs 1 zSV) 1).2.2.2.2.1 ((snoc vs 1 zSV) 1).2.2.2.2.2.1 ((snoc vs 1 zSV) 1).2.2.2.2.2.2.1 ((snoc vs 1 zSV) 1).2.2.2.2.2.2.2 a_inputs a_remembered a_asks a_hours a_zeros a_ones a_alarms a_faults hq) (cwV 1 hts gX0_keep_X3_copyFrom rfl rfl rfl (by decide +kernel) ⟨Nat.le_of_ble_eq_true rfl, Nat.le_of_ble_eq_true rfl⟩) hP hD hS [12, 13, 14, 15, 16, 1, 2, 3, 4, 5] [0, 6, 7, 8, 9, 10, 11] [0, 12, 13, 14, 15, 16, 1, 2, 3, 4, 5, 6, 7, 8, 9, 10, 11] rfl rfl rfl rfl (by decide) rfl rfl rfl rfl rfl hl.1 rfl (Nat.le_of_ble_eq_true rfl) dX0_keep_84 ⟨Nat.le_of_ble_eq_true rfl, Nat.le_of_ble_eq_true rfl⟩ (fun H locs hP hD hS => ?_)
  refine lv_aload_n hx hb dX0_keep_87 rfl (lv_at hl 0 rfl) ?_
  refine lv_dup hx hb dX0_keep_88 rfl ?_
  refine va_get (D := D) (ci := 0) (v := .int 1) (C := RX0) (T := TX0) (N := 2) hx hb hts iX0_keep_X0 hown hK hP 0 rfl rfl 1 (by decide) (hts _ mX0_keep_1) (fun _ h9 => h9) rfl dX0_keep_89 ?_
  refine lv_iconst (v := 1) hx hb dX0_keep_92 (by decide) ?_
  refine lv_iadd hx hb dX0_keep_93 ?_
  refine W.eq (g2 := F0 m 94 ls [.int 2, .ref ho]) rfl ?_
  refine va_put (D := D) (ci := 0) (v := .int 2) (ty := .int) (C := RX0) (T := TX0) (N := 2) hx hb hts iX0_keep_X0 tyX0 tyX0_ok nmX0 hown hK hP hD hS 0 rfl rfl 1 (by decide) (hts _ mX0_keep_1) (fun _ h9 => h9) rfl (by decide +kernel) rfl rfl (Nat.le_of_ble_eq_true rfl) dX0_keep_94 (fun H locs hP hD hS => ?_)
  have hP : va_P D vwCl ((wX0 ho hr 2 ++ wX3 kI kJ ao aa a_inputs a_remembered a_asks a_hours a_zeros a_ones a_alarms a_faults) ++ (svA kS hr (snoc so 1 nq) 2 ++ svs kI kJ (snoc so 1 nq) (snoc sa 1 na) (vup (snoc vs 1 zSV) 1 q) 2)) H := hP
  have hD : va_D A ((wX0 ho hr 2 ++ wX3 kI kJ ao aa a_inputs a_remembered a_asks a_hours a_zeros a_ones a_alarms a_faults) ++ (svA kS hr (snoc so 1 nq) 2 ++ svs kI kJ (snoc so 1 nq) (snoc sa 1 na) (vup (snoc vs 1 zSV) 1 q) 2)) := hD
  refine W.widen (k := 5) (n := 24) (Nat.le_of_ble_eq_true rfl) (Nat.le_of_ble_eq_true rfl) ?_
  refine hret _ _ _ _ (svA kS hr (snoc so 1 nq) 2 ++ svs kI kJ (snoc so 1 nq) (snoc sa 1 na) (vup (snoc vs 1 zSV) 1 q) 2) ⟨2, 2, (snoc so 1 nq), (snoc sa 1 na), (vup (snoc vs 1 zSV) 1 q), by decide, by decide, rfl, ?_, rfl⟩ dX0_keep_97 hP hD hS
  exact kpn_ok (vs := vs) (vals := vals) 1 hv hqe
set_option maxHeartbeats 4000000 in
set_option maxRecDepth 100000 in
theorem c_X0_keep_2_0 (l : Launch) (D : va_G) (kI kJ kS : ClassId) (ho : Nat) (hr : Nat) (ao : Nat) (aa : Nat → Nat) (a_inputs : Int32) (a_remembered : Int32) (a_asks : Int32) (a_hours : Int32) (a_zeros : Nat → Int64) (a_ones : Nat → Int64) (a_alarms : Nat → Int32) (a_faults : Nat → Int32) (so : Nat → Nat) (sa : Nat → Nat → Nat) (vs : Nat → SV) (vals : Nat → SV) (hv : ∀ j, j < 0 → svEq (vs j) (vals j)) : gV l D (tyL kI kJ kS) yX0_keep wsX0_keep (rmk 2 5 24 32) [.ref ho, .ref ao] ((wX0 ho hr 0 ++ wX3 kI kJ ao aa a_inputs a_remembered a_asks a_hours a_zeros a_ones a_alarms a_faults) ++ (svA kS hr so 2 ++ svs kI kJ so sa vs 2)) (wX0 ho hr 1 ++ wX3 kI kJ ao aa a_inputs a_remembered a_asks a_hours a_zeros a_ones a_alarms a_faults) (TL kI kJ kS hr 1 (vup vals 0 (a_inputs, a_remembered, a_asks, a_hours, a_zeros, a_ones, a_alarms, a_faults))) := by
  refine gV_of (cc := cX0_keep) (maxL := 2) (by decide) rfl (Nat.le_of_ble_eq_true rfl) ?_
  intro p e s m av below meth c A Q ls hE hP hD hS hl hret
  have hE : ent_ p s m av meth c RX0 cX0_keep 2 none wsX0_keep (tyL kI kJ kS) D A true := hE
  obtain ⟨hx, hb, hml, hown, hts, hrt, hlocks, hK, hA, hst⟩ := id hE
  have hl : lv_has ls 2 [(0, .ref ho), (1, .ref ao)] := hl
  refine lv_aload_n hx hb dX0_keep_0 rfl (lv_at hl 0 rfl) ?_
  refine va_get (D := D) (ci := 0) (v := .int 0) (C := RX0) (T := TX0) (N := 2) hx hb hts iX0_keep_X0 hown hK hP 0 rfl rfl 1 (by decide) (hts _ mX0_keep_1) (fun _ h9 => h9) rfl dX0_keep_1 ?_
  refine lv_aload_n hx hb dX0_keep_4 rfl (lv_at hl 0 rfl) ?_
  refine va_get (D := D) (ci := 0) (v := .ref hr) (C := RX0) (T := TX0) (N := 2) hx hb hts iX0_keep_X0 hown hK hP 0 rfl rfl 0 (by decide) (hts _ mX0_keep_2) (fun _ h9 => h9) rfl dX0_keep_5 ?_
  refine va_alen (v := 6) hx hb hK hP 6 2 rfl rfl rfl dX0_keep_8 ?_
  refine lv_icmp_lt (tgt := 27) hx hb dX0_keep_9 (by decide) (fun _ => ?_) (fun hc => absurd hc (by decide))
  refine lv_aload_n hx hb dX0_keep_27 rfl (lv_at hl 0 rfl) ?_
  refine va_get (D := D) (ci := 0) (v := .int 0) (C := RX0) (T := TX0) (N := 2) hx hb hts iX0_keep_X0 hown hK hP 0 rfl rfl 1 (by decide) (hts _ mX0_keep_1) (fun _ h9 => h9) rfl dX0_keep_28 ?_
  refine lv_if_lt (tgt := 97) hx hb dX0_keep_31 (by decide) (fun hc => absurd hc (by decide)) (fun _ => ?_)
  refine lv_aload_n hx hb dX0_keep_34 rfl (lv_at hl 0 rfl) ?_
  refine va_get (D := D) (ci := 0) (v := .int 0) (C := RX0) (T := TX0) (N := 2) hx hb hts iX0_keep_X0 hown hK hP 0 rfl rfl 1 (by decide) (hts _ mX0_keep_1) (fun _ h9 => h9) rfl dX0_keep_35 ?_
  refine lv_aload_n hx hb dX0_keep_38 rfl (lv_at hl 0 rfl) ?_
  refine va_get (D := D) (ci := 0) (v := .ref hr) (C := RX0) (T := TX0) (N := 2) hx hb hts iX0_keep_X0 hown hK hP 0 rfl rfl 0 (by decide) (hts _ mX0_keep_2) (fun _ h9 => h9) rfl dX0_keep_39 ?_
  refine va_alen (v := 6) hx hb hK hP 6 2 rfl rfl rfl dX0_keep_42 ?_
  refine lv_icmp_ge (tgt := 97) hx hb dX0_keep_43 (by decide) (fun hc => absurd hc (by decide)) (fun _ => ?_)
  refine lv_aload_n hx hb dX0_keep_46 rfl (lv_at hl 0 rfl) ?_
  refine va_get (D := D) (ci := 0) (v := .ref hr) (C := RX0) (T := TX0) (N := 2) hx hb hts iX0_keep_X0 hown hK hP 0 rfl rfl 0 (by decide) (hts _ mX0_keep_2) (fun _ h9 => h9) rfl dX0_keep_47 ?_
  refine lv_aload_n hx hb dX0_keep_50 rfl (lv_at hl 0 rfl) ?_
  refine va_get (D := D) (ci := 0) (v := .int 0) (C := RX0) (T := TX0) (N := 2) hx hb hts iX0_keep_X0 hown hK hP 0 rfl rfl 1 (by decide) (hts _ mX0_keep_1) (fun _ h9 => h9) rfl dX0_keep_51 ?_
  refine va_aldq hx hb hK hP 6 2 rfl rfl (by unfold vp_in; decide) dX0_keep_54 ?_
  refine W.eq (g2 := F0 m 55 ls [.ref (so 0)]) rfl ?_
  refine lv_ifnonnull (tgt := 74) hx hb dX0_keep_55 (by decide) ?_
  refine lv_aload_n hx hb dX0_keep_74 rfl (lv_at hl 0 rfl) ?_
  refine va_get (D := D) (ci := 0) (v := .ref hr) (C := RX0) (T := TX0) (N := 2) hx hb hts iX0_keep_X0 hown hK hP 0 rfl rfl 0 (by decide) (hts _ mX0_keep_2) (fun _ h9 => h9) rfl dX0_keep_75 ?_
  refine lv_aload_n hx hb dX0_keep_78 rfl (lv_at hl 0 rfl) ?_
  refine va_get (D := D) (ci := 0) (v := .int 0) (C := RX0) (T := TX0) (N := 2) hx hb hts iX0_keep_X0 hown hK hP 0 rfl rfl 1 (by decide) (hts _ mX0_keep_1) (fun _ h9 => h9) rfl dX0_keep_79 ?_
  refine va_aldq hx hb hK hP 6 2 rfl rfl (by unfold vp_in; decide) dX0_keep_82 ?_
  refine W.eq (g2 := F0 m 83 ls [.ref (so 0)]) rfl ?_
  refine lv_aload_n hx hb dX0_keep_83 rfl (lv_at hl 1 rfl) ?_
  obtain ⟨q, hq, hqe⟩ := cfh_ex (vs 0).2.2.2.2.1 (vs 0).2.2.2.2.2.1 (vs 0).2.2.2.2.2.2.1 (vs 0).2.2.2.2.2.2.2 a_inputs a_remembered a_asks a_hours a_zeros a_ones a_alarms a_faults
  refine cV_callV (As := [.ref ao]) (rest := []) (wr := List.filterMap (fun i => (((wX0 ho hr 0 ++ wX3 kI kJ ao aa a_inputs a_remembered a_asks a_hours a_zeros a_ones a_alarms a_faults) ++ (svA kS hr so 2 ++ svs kI kJ so sa vs 2)))[i]?) [0, 6, 12, 13, 14, 15, 16]) (wN := ((wX0 ho hr 0 ++ wX3 kI kJ ao aa a_inputs a_remembered a_asks a_hours a_zeros a_ones a_alarms a_faults) ++ (svA kS hr so 2 ++ svs kI kJ so sa (vup vs 0 q) 2))) (ci := 2) (q0 := 7) hE (c_X3_copyFrom l D kI kJ kS (so 0) (sa 0) ao aa (vs 0).1 (vs 0).2.1 (vs 0).2.2.1 (vs 0).2.2.2.1 (vs 0).2.2.2.2.1 (vs 0).2.2.2.2.2.1 (vs 0).2.2.2.2.2.2.1 (vs 0).2.2.2.2.2.2.2 a_inputs a_remembered a_asks a_hours a_zeros a_ones a_alarms a_faults hq) (cwV 1 hts gX0_keep_X3_copyFrom rfl rfl rfl (by decide +kernel) ⟨Nat.le_of_ble_eq_true rfl, Nat.le_of_ble_eq_true rfl⟩) hP hD hS [7, 8, 9, 10, 11, 1, 2, 3, 4, 5] [0, 6, 12, 13, 14, 15, 16] [0, 12, 13, 14, 15, 16, 1, 7, 8, 9, 10, 11, 2, 3, 4, 5, 6] rfl rfl rfl rfl (by decide) rfl rfl rfl rfl rfl hl.1 rfl (Nat.le_of_ble_eq_true rfl) dX0_keep_84 ⟨Nat.le_of_ble_eq_true rfl, Nat.le_of_ble_eq_true rfl⟩ (fun H locs hP hD hS => ?_)
  refine lv_aload_n hx hb dX0_keep_87 rfl (lv_at hl 0 rfl) ?_
  refine lv_dup hx hb dX0_keep_88 rfl ?_
  refine va_get (D := D) (ci := 0) (v := .int 0) (C := RX0) (T := TX0) (N := 2) hx hb hts iX0_keep_X0 hown hK hP 0 rfl rfl 1 (by decide) (hts _ mX0_keep_1) (fun _ h9 => h9) rfl dX0_keep_89 ?_
  refine lv_iconst (v := 1) hx hb dX0_keep_92 (by decide) ?_
  refine lv_iadd hx hb dX0_keep_93 ?_
  refine W.eq (g2 := F0 m 94 ls [.int 1, .ref ho]) rfl ?_
  refine va_put (D := D) (ci := 0) (v := .int 1) (ty := .int) (C := RX0) (T := TX0) (N := 2) hx hb hts iX0_keep_X0 tyX0 tyX0_ok nmX0 hown hK hP hD hS 0 rfl rfl 1 (by decide) (hts _ mX0_keep_1) (fun _ h9 => h9) rfl (by decide +kernel) rfl rfl (Nat.le_of_ble_eq_true rfl) dX0_keep_94 (fun H locs hP hD hS => ?_)
  have hP : va_P D vwCl ((wX0 ho hr 1 ++ wX3 kI kJ ao aa a_inputs a_remembered a_asks a_hours a_zeros a_ones a_alarms a_faults) ++ (svA kS hr so 2 ++ svs kI kJ so sa (vup vs 0 q) 2)) H := hP
  have hD : va_D A ((wX0 ho hr 1 ++ wX3 kI kJ ao aa a_inputs a_remembered a_asks a_hours a_zeros a_ones a_alarms a_faults) ++ (svA kS hr so 2 ++ svs kI kJ so sa (vup vs 0 q) 2)) := hD
  refine W.widen (k := 5) (n := 24) (Nat.le_of_ble_eq_true rfl) (Nat.le_of_ble_eq_true rfl) ?_
  refine hret _ _ _ _ (svA kS hr so 2 ++ svs kI kJ so sa (vup vs 0 q) 2) ⟨2, 1, so, sa, (vup vs 0 q), by decide, by decide, rfl, ?_, rfl⟩ dX0_keep_97 hP hD hS
  exact kp_ok (vs := vs) (vals := vals) 0 hv hqe
set_option maxHeartbeats 4000000 in
set_option maxRecDepth 100000 in
theorem c_X0_keep_2_1 (l : Launch) (D : va_G) (kI kJ kS : ClassId) (ho : Nat) (hr : Nat) (ao : Nat) (aa : Nat → Nat) (a_inputs : Int32) (a_remembered : Int32) (a_asks : Int32) (a_hours : Int32) (a_zeros : Nat → Int64) (a_ones : Nat → Int64) (a_alarms : Nat → Int32) (a_faults : Nat → Int32) (so : Nat → Nat) (sa : Nat → Nat → Nat) (vs : Nat → SV) (vals : Nat → SV) (hv : ∀ j, j < 1 → svEq (vs j) (vals j)) : gV l D (tyL kI kJ kS) yX0_keep wsX0_keep (rmk 2 5 24 32) [.ref ho, .ref ao] ((wX0 ho hr 1 ++ wX3 kI kJ ao aa a_inputs a_remembered a_asks a_hours a_zeros a_ones a_alarms a_faults) ++ (svA kS hr so 2 ++ svs kI kJ so sa vs 2)) (wX0 ho hr 2 ++ wX3 kI kJ ao aa a_inputs a_remembered a_asks a_hours a_zeros a_ones a_alarms a_faults) (TL kI kJ kS hr 2 (vup vals 1 (a_inputs, a_remembered, a_asks, a_hours, a_zeros, a_ones, a_alarms, a_faults))) := by
  refine gV_of (cc := cX0_keep) (maxL := 2) (by decide) rfl (Nat.le_of_ble_eq_true rfl) ?_
  intro p e s m av below meth c A Q ls hE hP hD hS hl hret
  have hE : ent_ p s m av meth c RX0 cX0_keep 2 none wsX0_keep (tyL kI kJ kS) D A true := hE
  obtain ⟨hx, hb, hml, hown, hts, hrt, hlocks, hK, hA, hst⟩ := id hE
  have hl : lv_has ls 2 [(0, .ref ho), (1, .ref ao)] := hl
  refine lv_aload_n hx hb dX0_keep_0 rfl (lv_at hl 0 rfl) ?_
  refine va_get (D := D) (ci := 0) (v := .int 1) (C := RX0) (T := TX0) (N := 2) hx hb hts iX0_keep_X0 hown hK hP 0 rfl rfl 1 (by decide) (hts _ mX0_keep_1) (fun _ h9 => h9) rfl dX0_keep_1 ?_
  refine lv_aload_n hx hb dX0_keep_4 rfl (lv_at hl 0 rfl) ?_
  refine va_get (D := D) (ci := 0) (v := .ref hr) (C := RX0) (T := TX0) (N := 2) hx hb hts iX0_keep_X0 hown hK hP 0 rfl rfl 0 (by decide) (hts _ mX0_keep_2) (fun _ h9 => h9) rfl dX0_keep_5 ?_
  refine va_alen (v := 6) hx hb hK hP 6 2 rfl rfl rfl dX0_keep_8 ?_
  refine lv_icmp_lt (tgt := 27) hx hb dX0_keep_9 (by decide) (fun _ => ?_) (fun hc => absurd hc (by decide))
  refine lv_aload_n hx hb dX0_keep_27 rfl (lv_at hl 0 rfl) ?_
  refine va_get (D := D) (ci := 0) (v := .int 1) (C := RX0) (T := TX0) (N := 2) hx hb hts iX0_keep_X0 hown hK hP 0 rfl rfl 1 (by decide) (hts _ mX0_keep_1) (fun _ h9 => h9) rfl dX0_keep_28 ?_
  refine lv_if_lt (tgt := 97) hx hb dX0_keep_31 (by decide) (fun hc => absurd hc (by decide)) (fun _ => ?_)
  refine lv_aload_n hx hb dX0_keep_34 rfl (lv_at hl 0 rfl) ?_
  refine va_get (D := D) (ci := 0) (v := .int 1) (C := RX0) (T := TX0) (N := 2) hx hb hts iX0_keep_X0 hown hK hP 0 rfl rfl 1 (by decide) (hts _ mX0_keep_1) (fun _ h9 => h9) rfl dX0_keep_35 ?_
  refine lv_aload_n hx hb dX0_keep_38 rfl (lv_at hl 0 rfl) ?_
  refine va_get (D := D) (ci := 0) (v := .ref hr) (C := RX0) (T := TX0) (N := 2) hx hb hts iX0_keep_X0 hown hK hP 0 rfl rfl 0 (by decide) (hts _ mX0_keep_2) (fun _ h9 => h9) rfl dX0_keep_39 ?_
  refine va_alen (v := 6) hx hb hK hP 6 2 rfl rfl rfl dX0_keep_42 ?_
  refine lv_icmp_ge (tgt := 97) hx hb dX0_keep_43 (by decide) (fun hc => absurd hc (by decide)) (fun _ => ?_)
  refine lv_aload_n hx hb dX0_keep_46 rfl (lv_at hl 0 rfl) ?_
  refine va_get (D := D) (ci := 0) (v := .ref hr) (C := RX0) (T := TX0) (N := 2) hx hb hts iX0_keep_X0 hown hK hP 0 rfl rfl 0 (by decide) (hts _ mX0_keep_2) (fun _ h9 => h9) rfl dX0_keep_47 ?_
  refine lv_aload_n hx hb dX0_keep_50 rfl (lv_at hl 0 rfl) ?_
  refine va_get (D := D) (ci := 0) (v := .int 1) (C := RX0) (T := TX0) (N := 2) hx hb hts iX0_keep_X0 hown hK hP 0 rfl rfl 1 (by decide) (hts _ mX0_keep_1) (fun _ h9 => h9) rfl dX0_keep_51 ?_
  refine va_aldq hx hb hK hP 6 2 rfl rfl (by unfold vp_in; decide) dX0_keep_54 ?_
  refine W.eq (g2 := F0 m 55 ls [.ref (so 1)]) rfl ?_
  refine lv_ifnonnull (tgt := 74) hx hb dX0_keep_55 (by decide) ?_
  refine lv_aload_n hx hb dX0_keep_74 rfl (lv_at hl 0 rfl) ?_
  refine va_get (D := D) (ci := 0) (v := .ref hr) (C := RX0) (T := TX0) (N := 2) hx hb hts iX0_keep_X0 hown hK hP 0 rfl rfl 0 (by decide) (hts _ mX0_keep_2) (fun _ h9 => h9) rfl dX0_keep_75 ?_
  refine lv_aload_n hx hb dX0_keep_78 rfl (lv_at hl 0 rfl) ?_
  refine va_get (D := D) (ci := 0) (v := .int 1) (C := RX0) (T := TX0) (N := 2) hx hb hts iX0_keep_X0 hown hK hP 0 rfl rfl 1 (by decide) (hts _ mX0_keep_1) (fun _ h9 => h9) rfl dX0_keep_79 ?_
  refine va_aldq hx hb hK hP 6 2 rfl rfl (by unfold vp_in; decide) dX0_keep_82 ?_
  refine W.eq (g2 := F0 m 83 ls [.ref (so 1)]) rfl ?_
  refine lv_aload_n hx hb dX0_keep_83 rfl (lv_at hl 1 rfl) ?_
  obtain ⟨q, hq, hqe⟩ := cfh_ex (vs 1).2.2.2.2.1 (vs 1).2.2.2.2.2.1 (vs 1).2.2.2.2.2.2.1 (vs 1).2.2.2.2.2.2.2 a_inputs a_remembered a_asks a_hours a_zeros a_ones a_alarms a_faults
  refine cV_callV (As := [.ref ao]) (rest := []) (wr := List.filterMap (fun i => (((wX0 ho hr 1 ++ wX3 kI kJ ao aa a_inputs a_remembered a_asks a_hours a_zeros a_ones a_alarms a_faults) ++ (svA kS hr so 2 ++ svs kI kJ so sa vs 2)))[i]?) [0, 6, 7, 8, 9, 10, 11]) (wN := ((wX0 ho hr 1 ++ wX3 kI kJ ao aa a_inputs a_remembered a_asks a_hours a_zeros a_ones a_alarms a_faults) ++ (svA kS hr so 2 ++ svs kI kJ so sa (vup vs 1 q) 2))) (ci := 2) (q0 := 12) hE (c_X3_copyFrom l D kI kJ kS (so 1) (sa 1) ao aa (vs 1).1 (vs 1).2.1 (vs 1).2.2.1 (vs 1).2.2.2.1 (vs 1).2.2.2.2.1 (vs 1).2.2.2.2.2.1 (vs 1).2.2.2.2.2.2.1 (vs 1).2.2.2.2.2.2.2 a_inputs a_remembered a_asks a_hours a_zeros a_ones a_alarms a_faults hq) (cwV 1 hts gX0_keep_X3_copyFrom rfl rfl rfl (by decide +kernel) ⟨Nat.le_of_ble_eq_true rfl, Nat.le_of_ble_eq_true rfl⟩) hP hD hS [12, 13, 14, 15, 16, 1, 2, 3, 4, 5] [0, 6, 7, 8, 9, 10, 11] [0, 12, 13, 14, 15, 16, 1, 2, 3, 4, 5, 6, 7, 8, 9, 10, 11] rfl rfl rfl rfl (by decide) rfl rfl rfl rfl rfl hl.1 rfl (Nat.le_of_ble_eq_true rfl) dX0_keep_84 ⟨Nat.le_of_ble_eq_true rfl, Nat.le_of_ble_eq_true rfl⟩ (fun H locs hP hD hS => ?_)
  refine lv_aload_n hx hb dX0_keep_87 rfl (lv_at hl 0 rfl) ?_
  refine lv_dup hx hb dX0_keep_88 rfl ?_
  refine va_get (D := D) (ci := 0) (v := .int 1) (C := RX0) (T := TX0) (N := 2) hx hb hts iX0_keep_X0 hown hK hP 0 rfl rfl 1 (by decide) (hts _ mX0_keep_1) (fun _ h9 => h9) rfl dX0_keep_89 ?_
  refine lv_iconst (v := 1) hx hb dX0_keep_92 (by decide) ?_
  refine lv_iadd hx hb dX0_keep_93 ?_
  refine W.eq (g2 := F0 m 94 ls [.int 2, .ref ho]) rfl ?_
  refine va_put (D := D) (ci := 0) (v := .int 2) (ty := .int) (C := RX0) (T := TX0) (N := 2) hx hb hts iX0_keep_X0 tyX0 tyX0_ok nmX0 hown hK hP hD hS 0 rfl rfl 1 (by decide) (hts _ mX0_keep_1) (fun _ h9 => h9) rfl (by decide +kernel) rfl rfl (Nat.le_of_ble_eq_true rfl) dX0_keep_94 (fun H locs hP hD hS => ?_)
  have hP : va_P D vwCl ((wX0 ho hr 2 ++ wX3 kI kJ ao aa a_inputs a_remembered a_asks a_hours a_zeros a_ones a_alarms a_faults) ++ (svA kS hr so 2 ++ svs kI kJ so sa (vup vs 1 q) 2)) H := hP
  have hD : va_D A ((wX0 ho hr 2 ++ wX3 kI kJ ao aa a_inputs a_remembered a_asks a_hours a_zeros a_ones a_alarms a_faults) ++ (svA kS hr so 2 ++ svs kI kJ so sa (vup vs 1 q) 2)) := hD
  refine W.widen (k := 5) (n := 24) (Nat.le_of_ble_eq_true rfl) (Nat.le_of_ble_eq_true rfl) ?_
  refine hret _ _ _ _ (svA kS hr so 2 ++ svs kI kJ so sa (vup vs 1 q) 2) ⟨2, 2, so, sa, (vup vs 1 q), by decide, by decide, rfl, ?_, rfl⟩ dX0_keep_97 hP hD hS
  exact kp_ok (vs := vs) (vals := vals) 1 hv hqe
set_option maxHeartbeats 4000000 in
set_option maxRecDepth 100000 in
theorem c_X0_keep_2_2 (l : Launch) (D : va_G) (kI kJ kS : ClassId) (ho : Nat) (hr : Nat) (ao : Nat) (aa : Nat → Nat) (a_inputs : Int32) (a_remembered : Int32) (a_asks : Int32) (a_hours : Int32) (a_zeros : Nat → Int64) (a_ones : Nat → Int64) (a_alarms : Nat → Int32) (a_faults : Nat → Int32) (so : Nat → Nat) (sa : Nat → Nat → Nat) (vs : Nat → SV) (vals : Nat → SV) (hv : ∀ j, j < 2 → svEq (vs j) (vals j)) : gV l D (tyL kI kJ kS) yX0_keep wsX0_keep (rmk 2 5 24 32) [.ref ho, .ref ao] ((wX0 ho hr 2 ++ wX3 kI kJ ao aa a_inputs a_remembered a_asks a_hours a_zeros a_ones a_alarms a_faults) ++ (svA kS hr so 2 ++ svs kI kJ so sa vs 2)) (wX0 ho hr 3 ++ wX3 kI kJ ao aa a_inputs a_remembered a_asks a_hours a_zeros a_ones a_alarms a_faults) (TL kI kJ kS hr 3 (vup vals 2 (a_inputs, a_remembered, a_asks, a_hours, a_zeros, a_ones, a_alarms, a_faults))) := by
  refine gV_of (cc := cX0_keep) (maxL := 2) (by decide) rfl (Nat.le_of_ble_eq_true rfl) ?_
  intro p e s m av below meth c A Q ls hE hP hD hS hl hret
  have hE : ent_ p s m av meth c RX0 cX0_keep 2 none wsX0_keep (tyL kI kJ kS) D A true := hE
  obtain ⟨hx, hb, hml, hown, hts, hrt, hlocks, hK, hA, hst⟩ := id hE
  have hl : lv_has ls 2 [(0, .ref ho), (1, .ref ao)] := hl
  refine lv_aload_n hx hb dX0_keep_0 rfl (lv_at hl 0 rfl) ?_
  refine va_get (D := D) (ci := 0) (v := .int 2) (C := RX0) (T := TX0) (N := 2) hx hb hts iX0_keep_X0 hown hK hP 0 rfl rfl 1 (by decide) (hts _ mX0_keep_1) (fun _ h9 => h9) rfl dX0_keep_1 ?_
  refine lv_aload_n hx hb dX0_keep_4 rfl (lv_at hl 0 rfl) ?_
  refine va_get (D := D) (ci := 0) (v := .ref hr) (C := RX0) (T := TX0) (N := 2) hx hb hts iX0_keep_X0 hown hK hP 0 rfl rfl 0 (by decide) (hts _ mX0_keep_2) (fun _ h9 => h9) rfl dX0_keep_5 ?_
  refine va_alen (v := 6) hx hb hK hP 6 2 rfl rfl rfl dX0_keep_8 ?_
  refine lv_icmp_lt (tgt := 27) hx hb dX0_keep_9 (by decide) (fun _ => ?_) (fun hc => absurd hc (by decide))
  refine lv_aload_n hx hb dX0_keep_27 rfl (lv_at hl 0 rfl) ?_
  refine va_get (D := D) (ci := 0) (v := .int 2) (C := RX0) (T := TX0) (N := 2) hx hb hts iX0_keep_X0 hown hK hP 0 rfl rfl 1 (by decide) (hts _ mX0_keep_1) (fun _ h9 => h9) rfl dX0_keep_28 ?_
  refine lv_if_lt (tgt := 97) hx hb dX0_keep_31 (by decide) (fun hc => absurd hc (by decide)) (fun _ => ?_)
  refine lv_aload_n hx hb dX0_keep_34 rfl (lv_at hl 0 rfl) ?_
  refine va_get (D := D) (ci := 0) (v := .int 2) (C := RX0) (T := TX0) (N := 2) hx hb hts iX0_keep_X0 hown hK hP 0 rfl rfl 1 (by decide) (hts _ mX0_keep_1) (fun _ h9 => h9) rfl dX0_keep_35 ?_
  refine lv_aload_n hx hb dX0_keep_38 rfl (lv_at hl 0 rfl) ?_
  refine va_get (D := D) (ci := 0) (v := .ref hr) (C := RX0) (T := TX0) (N := 2) hx hb hts iX0_keep_X0 hown hK hP 0 rfl rfl 0 (by decide) (hts _ mX0_keep_2) (fun _ h9 => h9) rfl dX0_keep_39 ?_
  refine va_alen (v := 6) hx hb hK hP 6 2 rfl rfl rfl dX0_keep_42 ?_
  refine lv_icmp_ge (tgt := 97) hx hb dX0_keep_43 (by decide) (fun hc => absurd hc (by decide)) (fun _ => ?_)
  refine lv_aload_n hx hb dX0_keep_46 rfl (lv_at hl 0 rfl) ?_
  refine va_get (D := D) (ci := 0) (v := .ref hr) (C := RX0) (T := TX0) (N := 2) hx hb hts iX0_keep_X0 hown hK hP 0 rfl rfl 0 (by decide) (hts _ mX0_keep_2) (fun _ h9 => h9) rfl dX0_keep_47 ?_
  refine lv_aload_n hx hb dX0_keep_50 rfl (lv_at hl 0 rfl) ?_
  refine va_get (D := D) (ci := 0) (v := .int 2) (C := RX0) (T := TX0) (N := 2) hx hb hts iX0_keep_X0 hown hK hP 0 rfl rfl 1 (by decide) (hts _ mX0_keep_1) (fun _ h9 => h9) rfl dX0_keep_51 ?_
  refine va_aldq hx hb hK hP 6 2 rfl rfl (by unfold vp_in; decide) dX0_keep_54 ?_
  refine W.eq (g2 := F0 m 55 ls [.null]) rfl ?_
  refine lv_ifnonnullN hx hb dX0_keep_55 ?_
  refine lv_aload_n hx hb dX0_keep_58 rfl (lv_at hl 0 rfl) ?_
  refine va_get (D := D) (ci := 0) (v := .ref hr) (C := RX0) (T := TX0) (N := 2) hx hb hts iX0_keep_X0 hown hK hP 0 rfl rfl 0 (by decide) (hts _ mX0_keep_2) (fun _ h9 => h9) rfl dX0_keep_59 ?_
  refine lv_aload_n hx hb dX0_keep_62 rfl (lv_at hl 0 rfl) ?_
  refine va_get (D := D) (ci := 0) (v := .int 2) (C := RX0) (T := TX0) (N := 2) hx hb hts iX0_keep_X0 hown hK hP 0 rfl rfl 1 (by decide) (hts _ mX0_keep_1) (fun _ h9 => h9) rfl dX0_keep_63 ?_
  refine va_new (ci := 2) (fs := [.int 0, .int 0, .int 0, .int 0, .null, .null, .null, .null]) (C := RX3) (T := TX3) (N := 8) hx hb hts iX0_keep_X3 tyX3 tyX3_ok hown (hts _ mX0_keep_3) (hts _ mX0_keep_4) (hts _ mX0_keep_5) hK hP hD hS hA rfl (fun j hj => by rcases (show j = 0 ∨ j = 1 ∨ j = 2 ∨ j = 3 ∨ j = 4 ∨ j = 5 ∨ j = 6 ∨ j = 7 by omega) with rfl | rfl | rfl | rfl | rfl | rfl | rfl | rfl <;> rfl) (Nat.le_of_ble_eq_true rfl) (Nat.le_of_ble_eq_true rfl) dX0_keep_66 (fun nq H hP hD hS => ?_)
  have hP : va_P D vwCl ((wX0 ho hr 2 ++ wX3 kI kJ ao aa a_inputs a_remembered a_asks a_hours a_zeros a_ones a_alarms a_faults) ++ ((svA kS hr so 2 ++ svs kI kJ so sa vs 2) ++ [(nq, .inr (2, [.int 0, .int 0, .int 0, .int 0, .null, .null, .null, .null]))])) H := hP
  have hD : va_D A ((wX0 ho hr 2 ++ wX3 kI kJ ao aa a_inputs a_remembered a_asks a_hours a_zeros a_ones a_alarms a_faults) ++ ((svA kS hr so 2 ++ svs kI kJ so sa vs 2) ++ [(nq, .inr (2, [.int 0, .int 0, .int 0, .int 0, .null, .null, .null, .null]))])) := hD
  refine lv_dup hx hb dX0_keep_69 rfl ?_
  refine cN_callIN (As := []) (rest := [.ref nq, .int 2, .ref hr]) (wr := ((wX0 ho hr 2 ++ wX3 kI kJ ao aa a_inputs a_remembered a_asks a_hours a_zeros a_ones a_alarms a_faults) ++ (svA kS hr so 2 ++ svs kI kJ so sa vs 2))) (wN := fun na => ((wX0 ho hr 2 ++ wX3 kI kJ ao aa a_inputs a_remembered a_asks a_hours a_zeros a_ones a_alarms a_faults) ++ ((svA kS hr so 2 ++ svs kI kJ so sa vs 2) ++ wX3 kI kJ nq na 0 0 0 0 (fun _ => 0) (fun _ => 0) (fun _ => 0) (fun _ => 0)))) hE (c_X3_init l D kI kJ kS nq) ⟨va_cnB 0 hts ggX0_keep_X3_init rfl rfl rfl (nm_8 (hst rfl).2) (hts _ mX0_keep_5) (by decide +kernel) ⟨Nat.le_of_ble_eq_true rfl, Nat.le_of_ble_eq_true rfl⟩, rfl, hts _ mX0_keep_11⟩ hP hD hS [17] [0, 1, 2, 3, 4, 5, 6, 7, 8, 9, 10, 11, 12, 13, 14, 15, 16] [0, 1, 2, 3, 4, 5, 6, 7, 8, 9, 10, 11, 12, 13, 14, 15, 16, 17, 18, 19, 20, 21] rfl rfl rfl rfl (by decide) (fun _ => rfl) rfl rfl hl.1 rfl (Nat.le_of_ble_eq_true rfl) dX0_keep_70 ⟨Nat.le_of_ble_eq_true rfl, Nat.le_of_ble_eq_true rfl⟩ (fun na H locs hP hD hS => ?_)
  have hP : va_P D vwCl ((wX0 ho hr 2 ++ wX3 kI kJ ao aa a_inputs a_remembered a_asks a_hours a_zeros a_ones a_alarms a_faults) ++ ((svA kS hr so 2 ++ svs kI kJ so sa vs 2) ++ wX3 kI kJ nq na 0 0 0 0 (fun _ => 0) (fun _ => 0) (fun _ => 0) (fun _ => 0))) H := hP
  have hD : va_D A ((wX0 ho hr 2 ++ wX3 kI kJ ao aa a_inputs a_remembered a_asks a_hours a_zeros a_ones a_alarms a_faults) ++ ((svA kS hr so 2 ++ svs kI kJ so sa vs 2) ++ wX3 kI kJ nq na 0 0 0 0 (fun _ => 0) (fun _ => 0) (fun _ => 0) (fun _ => 0))) := hD
  refine va_astq (r := (RX3, TX3, 8)) hx hb hK hP hD hS 6 2 17 2 rfl rfl rfl rfl (by unfold vp_in; decide) dX0_keep_73 (fun H locs hP hD hS => ?_)
  have hP : va_P D vwCl ((wX0 ho hr 2 ++ wX3 kI kJ ao aa a_inputs a_remembered a_asks a_hours a_zeros a_ones a_alarms a_faults) ++ (([(hr, .inl (kS, 6, .inr (.inr (.inr (.inr (va_up (fun k => if k < 2 then some (so k) else none) 2 (some nq)))))))] ++ svs kI kJ so sa vs 2) ++ wX3 kI kJ nq na 0 0 0 0 (fun _ => 0) (fun _ => 0) (fun _ => 0) (fun _ => 0))) H := hP
  have hD : va_D A ((wX0 ho hr 2 ++ wX3 kI kJ ao aa a_inputs a_remembered a_asks a_hours a_zeros a_ones a_alarms a_faults) ++ (([(hr, .inl (kS, 6, .inr (.inr (.inr (.inr (va_up (fun k => if k < 2 then some (so k) else none) 2 (some nq)))))))] ++ svs kI kJ so sa vs 2) ++ wX3 kI kJ nq na 0 0 0 0 (fun _ => 0) (fun _ => 0) (fun _ => 0) (fun _ => 0))) := hD
  rw [ar_snoc so 2 nq] at hP hD
  have hP : va_P D vwCl ((wX0 ho hr 2 ++ wX3 kI kJ ao aa a_inputs a_remembered a_asks a_hours a_zeros a_ones a_alarms a_faults) ++ (svA kS hr (snoc so 2 nq) 3 ++ svs kI kJ (snoc so 2 nq) (snoc sa 2 na) (snoc vs 2 zSV) 3)) H := hP
  have hD : va_D A ((wX0 ho hr 2 ++ wX3 kI kJ ao aa a_inputs a_remembered a_asks a_hours a_zeros a_ones a_alarms a_faults) ++ (svA kS hr (snoc so 2 nq) 3 ++ svs kI kJ (snoc so 2 nq) (snoc sa 2 na) (snoc vs 2 zSV) 3)) := hD
  refine lv_aload_n hx hb dX0_keep_74 rfl (lv_at hl 0 rfl) ?_
  refine va_get (D := D) (ci := 0) (v := .ref hr) (C := RX0) (T := TX0) (N := 2) hx hb hts iX0_keep_X0 hown hK hP 0 rfl rfl 0 (by decide) (hts _ mX0_keep_2) (fun _ h9 => h9) rfl dX0_keep_75 ?_
  refine lv_aload_n hx hb dX0_keep_78 rfl (lv_at hl 0 rfl) ?_
  refine va_get (D := D) (ci := 0) (v := .int 2) (C := RX0) (T := TX0) (N := 2) hx hb hts iX0_keep_X0 hown hK hP 0 rfl rfl 1 (by decide) (hts _ mX0_keep_1) (fun _ h9 => h9) rfl dX0_keep_79 ?_
  refine va_aldq hx hb hK hP 6 2 rfl rfl (by unfold vp_in; decide) dX0_keep_82 ?_
  refine W.eq (g2 := F0 m 83 ls [.ref ((snoc so 2 nq) 2)]) rfl ?_
  refine lv_aload_n hx hb dX0_keep_83 rfl (lv_at hl 1 rfl) ?_
  obtain ⟨q, hq, hqe⟩ := cfh_ex ((snoc vs 2 zSV) 2).2.2.2.2.1 ((snoc vs 2 zSV) 2).2.2.2.2.2.1 ((snoc vs 2 zSV) 2).2.2.2.2.2.2.1 ((snoc vs 2 zSV) 2).2.2.2.2.2.2.2 a_inputs a_remembered a_asks a_hours a_zeros a_ones a_alarms a_faults
  refine cV_callV (As := [.ref ao]) (rest := []) (wr := List.filterMap (fun i => (((wX0 ho hr 2 ++ wX3 kI kJ ao aa a_inputs a_remembered a_asks a_hours a_zeros a_ones a_alarms a_faults) ++ (svA kS hr (snoc so 2 nq) 3 ++ svs kI kJ (snoc so 2 nq) (snoc sa 2 na) (snoc vs 2 zSV) 3)))[i]?) [0, 6, 7, 8, 9, 10, 11, 12, 13, 14, 15, 16]) (wN := ((wX0 ho hr 2 ++ wX3 kI kJ ao aa a_inputs a_remembered a_asks a_hours a_zeros a_ones a_alarms a_faults) ++ (svA kS hr (snoc so 2 nq) 3 ++ svs kI kJ (snoc so 2 nq) (snoc sa 2 na) (vup (snoc vs 2 zSV) 2 q) 3))) (ci := 2) (q0 := 17) hE (c_X3_copyFrom l D kI kJ kS ((snoc so 2 nq) 2) ((snoc sa 2 na) 2) ao aa ((snoc vs 2 zSV) 2).1 ((snoc vs 2 zSV) 2).2.1 ((snoc vs 2 zSV) 2).2.2.1 ((snoc vs 2 zSV) 2).2.2.2.1 ((snoc vs 2 zSV) 2).2.2.2.2.1 ((snoc vs 2 zSV) 2).2.2.2.2.2.1 ((snoc vs 2 zSV) 2).2.2.2.2.2.2.1 ((snoc vs 2 zSV) 2).2.2.2.2.2.2.2 a_inputs a_remembered a_asks a_hours a_zeros a_ones a_alarms a_faults hq) (cwV 1 hts gX0_keep_X3_copyFrom rfl rfl rfl (by decide +kernel) ⟨Nat.le_of_ble_eq_true rfl, Nat.le_of_ble_eq_true rfl⟩) hP hD hS [17, 18, 19, 20, 21, 1, 2, 3, 4, 5] [0, 6, 7, 8, 9, 10, 11, 12, 13, 14, 15, 16] [0, 17, 18, 19, 20, 21, 1, 2, 3, 4, 5, 6, 7, 8, 9, 10, 11, 12, 13, 14, 15, 16] rfl rfl rfl rfl (by decide) rfl rfl rfl rfl rfl hl.1 rfl (Nat.le_of_ble_eq_true rfl) dX0_keep_84 ⟨Nat.le_of_ble_eq_true rfl, Nat.le_of_ble_eq_true rfl⟩ (fun H locs hP hD hS => ?_)
  refine lv_aload_n hx hb dX0_keep_87 rfl (lv_at hl 0 rfl) ?_
  refine lv_dup hx hb dX0_keep_88 rfl ?_
  refine va_get (D := D) (ci := 0) (v := .int 2) (C := RX0) (T := TX0) (N := 2) hx hb hts iX0_keep_X0 hown hK hP 0 rfl rfl 1 (by decide) (hts _ mX0_keep_1) (fun _ h9 => h9) rfl dX0_keep_89 ?_
  refine lv_iconst (v := 1) hx hb dX0_keep_92 (by decide) ?_
  refine lv_iadd hx hb dX0_keep_93 ?_
  refine W.eq (g2 := F0 m 94 ls [.int 3, .ref ho]) rfl ?_
  refine va_put (D := D) (ci := 0) (v := .int 3) (ty := .int) (C := RX0) (T := TX0) (N := 2) hx hb hts iX0_keep_X0 tyX0 tyX0_ok nmX0 hown hK hP hD hS 0 rfl rfl 1 (by decide) (hts _ mX0_keep_1) (fun _ h9 => h9) rfl (by decide +kernel) rfl rfl (Nat.le_of_ble_eq_true rfl) dX0_keep_94 (fun H locs hP hD hS => ?_)
  have hP : va_P D vwCl ((wX0 ho hr 3 ++ wX3 kI kJ ao aa a_inputs a_remembered a_asks a_hours a_zeros a_ones a_alarms a_faults) ++ (svA kS hr (snoc so 2 nq) 3 ++ svs kI kJ (snoc so 2 nq) (snoc sa 2 na) (vup (snoc vs 2 zSV) 2 q) 3)) H := hP
  have hD : va_D A ((wX0 ho hr 3 ++ wX3 kI kJ ao aa a_inputs a_remembered a_asks a_hours a_zeros a_ones a_alarms a_faults) ++ (svA kS hr (snoc so 2 nq) 3 ++ svs kI kJ (snoc so 2 nq) (snoc sa 2 na) (vup (snoc vs 2 zSV) 2 q) 3)) := hD
  refine W.widen (k := 5) (n := 24) (Nat.le_of_ble_eq_true rfl) (Nat.le_of_ble_eq_true rfl) ?_
  refine hret _ _ _ _ (svA kS hr (snoc so 2 nq) 3 ++ svs kI kJ (snoc so 2 nq) (snoc sa 2 na) (vup (snoc vs 2 zSV) 2 q) 3) ⟨3, 3, (snoc so 2 nq), (snoc sa 2 na), (vup (snoc vs 2 zSV) 2 q), by decide, by decide, rfl, ?_, rfl⟩ dX0_keep_97 hP hD hS
  exact kpn_ok (vs := vs) (vals := vals) 2 hv hqe

