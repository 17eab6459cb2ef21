set_option maxHeartbeats 8000000 in
set_option maxRecDepth 100000 in
theorem whole_start {p : Program} {e : Env} {s : State} {m : MethodId} {below : List Frame} {meth : Method} {c : Code} (l : Launch) (hflags : l.flags = flags0) {b L : Nat} {xs : Nat → Int32} (hL : L ≤ 260) (C0 : lw_At p s m meth c b L xs) : W p l e room_1 s m #[Value.ref b] below meth c s.heap [] 0 0 (lw_Z below #[Value.ref b] s) (entryFrame m ([Value.ref b] : List Value).toArray 13) := by
  obtain ⟨hx, hb, hr, hml, hown, hts, hX, hbl, hlocks, hgv⟩ := id C0
  obtain ⟨r, hrun, hlaw⟩ := st_run xs hL
  have hA : ∀ q : Nat, s.heap.size ≤ q → (fun q : Nat => s.heap.size ≤ q) q := fun _ h => h
  have hnA : ∀ a : Nat, a < s.heap.size → ¬ (fun q : Nat => s.heap.size ≤ q) a := fun a h => Nat.not_le.mpr h
  obtain ⟨D, hC⟩ := st_cls hts
  obtain ⟨kI, kJ, kS, hT⟩ := st_arr hts
  have hK : va_K D vwCl (tyL kI kJ kS) s := ⟨hC, hT⟩
  have hts1 : ∀ w ∈ wsL_law, w.before #[Value.ref b] s = true := fun w hw => hts w (wsL_law_in w hw)
  have hE : ent_ p s m #[Value.ref b] meth c RL cL_law 13 (some .boolean) wsL_law (tyL kI kJ kS) D (fun q : Nat => s.heap.size ≤ q) true := ⟨hx, hb, hml, hown, hts1, hr, hlocks, hK, hA, fun _ => ⟨st_W hts hgv hnA, st_nest hts hgv⟩⟩
  have hS : va_S (fun q : Nat => s.heap.size ≤ q) s.heap s.heap [] := va_S.rf
  have hP : va_P D vwCl [] s.heap := fun k q h => by simp at h
  have hD : va_D (fun q : Nat => s.heap.size ≤ q) [] := ⟨fun i j p q h => by simp at h, fun k q h => by simp at h⟩
  have hl := lv_entry ([.ref b]) (n := 13) (Nat.le_of_ble_eq_true rfl)
  rw [lg_entry_eq]
  generalize (lg_sl ([.ref b]) ++ List.replicate (13 - (lg_sl ([.ref b])).length) Slot.unset).toArray = ls at hl ⊢
  have hl : lv_has ls 13 [(0, .ref b)] := hl
  refine va_new (ci := 5) (fs := [.null, .null, .null, .null, .null, .null, .int 0]) (C := RX6) (T := TX6) (N := 7) hx hb hts inX6 tyX6 tyX6_ok hown (hts (.classLink RL 35 RX6) (by decide +kernel)) (hts (.instantiable RX6 7) (by decide +kernel)) (hts (.initialized RX6) (by decide +kernel)) hK hP hD hS hA rfl (fun j hj => by rcases (show j = 0 ∨ j = 1 ∨ j = 2 ∨ j = 3 ∨ j = 4 ∨ j = 5 ∨ j = 6 by omega) with rfl | rfl | rfl | rfl | rfl | rfl | rfl <;> rfl) (Nat.le_of_ble_eq_true rfl) (Nat.le_of_ble_eq_true rfl) dL_law_0 (fun q0 H hP hD hS => ?_)
  have hP : va_P D vwCl [(q0, .inr (5, [.null, .null, .null, .null, .null, .null, .int 0]))] H := hP
  have hD : va_D (fun q : Nat => s.heap.size ≤ q) [(q0, .inr (5, [.null, .null, .null, .null, .null, .null, .int 0]))] := hD
  refine lv_dup hx hb dL_law_3 rfl ?_
  refine cN_callI (As := []) (rest := [.ref q0]) (wr := []) (wN := fun u => ((wX6 q0 (u.1 0) (u.1 1) (u.1 2) (u.1 3) (u.1 4) (u.1 5) 1 ++ (wX3 kI kJ (u.1 0) (u.2 0) r.1 r.2.1 0 0 r.2.2.1 r.2.2.2 (fun _ => 0) (fun _ => 0) ++ (wX0 (u.1 1) (u.1 6) 0 ++ (wX4 kI kJ (u.1 2) (u.2 1) (fun _ => 0) 0 ++ (wX1 kI kJ (u.1 3) (u.2 2) (fun _ => 0) (fun _ => 0) (fun _ => 0) 0 ++ (wX5 kI kJ (u.1 4) (u.2 3) 0 0 0 0 0 (fun _ => 0) (fun _ => 0) (fun _ => 0) (fun _ => 0) (fun _ => 0) (fun _ => 0) (fun _ => 0) ++ wX5 kI kJ (u.1 5) (u.2 4) 0 0 0 0 0 (fun _ => 0) (fun _ => 0) (fun _ => 0) (fun _ => 0) (fun _ => 0) (fun _ => 0) (fun _ => 0))))))) ++ svA kS (u.1 6) (fun _ => 0) 0)) hE (c_X6_init l D kI kJ kS q0 hrun) (cwI 0 hts1 gL_law_X6_init rfl rfl rfl (hts (.initialized RX6) (by decide +kernel)) (hts (.methodLink RL 79 yX6_init) (by decide +kernel)) (hts (.instanceMethod yX6_init) (by decide +kernel)) rfl (by decide +kernel) ⟨(Nat.le_of_ble_eq_true rfl), (Nat.le_of_ble_eq_true rfl)⟩) hP hD hS [0] [] [0, 1, 2, 3, 4, 5, 6, 7, 8, 9, 10, 11, 12, 13, 14, 15, 16, 17, 18, 19, 20, 21, 22, 23, 24, 25, 26, 27, 28, 29] rfl rfl rfl rfl (by decide) (fun _ => rfl) rfl rfl hl.1 rfl (Nat.le_of_ble_eq_true rfl) dL_law_4 ⟨(Nat.le_of_ble_eq_true rfl), (Nat.le_of_ble_eq_true rfl)⟩ (fun u H locs hP hD hS => ?_)
  refine lv_astore_n (lv' := [(1, .ref q0), (0, .ref b)]) hx hb dL_law_7 rfl hl (by decide) rfl (fun ls hl => ?_)
  refine lv_iconst (v := 5) hx hb dL_law_8 (by decide) ?_
  refine va_newa (atype := .int) (a0 := (5, .inl (fun _ => 0))) (N' := 5) hx hb (hts (.arrayClass .int) (by decide +kernel)) rfl hK hP hD hS hA (fun _ => rfl) (by decide) rfl (Nat.le_of_ble_eq_true rfl) (Nat.le_of_ble_eq_true rfl) (Nat.le_of_ble_eq_true rfl) dL_law_9 (fun nno c9 H hK9 hP hD hS => ?_)
  have hc9 := ty_I (tys := []) hK9
  rw [hc9] at hP hD
  refine lv_astore_n (lv' := [(2, .ref nno), (1, .ref q0), (0, .ref b)]) hx hb dL_law_11 rfl hl (by decide) rfl (fun ls hl => ?_)
  refine lv_bipush (v := 64) hx hb dL_law_12 (by decide) ?_
  refine va_newa (atype := .int) (a0 := (64, .inl (fun _ => 0))) (N' := 64) hx hb (hts (.arrayClass .int) (by decide +kernel)) rfl hK hP hD hS hA (fun _ => rfl) (by decide) rfl (Nat.le_of_ble_eq_true rfl) (Nat.le_of_ble_eq_true rfl) (Nat.le_of_ble_eq_true rfl) dL_law_14 (fun tro c9 H hK9 hP hD hS => ?_)
  have hc9 := ty_I (tys := []) hK9
  rw [hc9] at hP hD
  refine lv_astore_n (lv' := [(3, .ref tro), (2, .ref nno), (1, .ref q0), (0, .ref b)]) hx hb dL_law_16 rfl hl (by decide) rfl (fun ls hl => ?_)
  refine lv_iconst (v := 4) hx hb dL_law_17 (by decide) ?_
  refine va_newa (atype := .int) (a0 := (4, .inl (fun _ => 0))) (N' := 4) hx hb (hts (.arrayClass .int) (by decide +kernel)) rfl hK hP hD hS hA (fun _ => rfl) (by decide) rfl (Nat.le_of_ble_eq_true rfl) (Nat.le_of_ble_eq_true rfl) (Nat.le_of_ble_eq_true rfl) dL_law_18 (fun alo c9 H hK9 hP hD hS => ?_)
  have hc9 := ty_I (tys := []) hK9
  rw [hc9] at hP hD
  refine lv_astore (lv' := [(4, .ref alo), (3, .ref tro), (2, .ref nno), (1, .ref q0), (0, .ref b)]) hx hb dL_law_20 hl (by decide) rfl (fun ls hl => ?_)
  refine lv_iconst (v := 4) hx hb dL_law_22 (by decide) ?_
  refine va_newa (atype := .int) (a0 := (4, .inl (fun _ => 0))) (N' := 4) hx hb (hts (.arrayClass .int) (by decide +kernel)) rfl hK hP hD hS hA (fun _ => rfl) (by decide) rfl (Nat.le_of_ble_eq_true rfl) (Nat.le_of_ble_eq_true rfl) (Nat.le_of_ble_eq_true rfl) dL_law_23 (fun fao c9 H hK9 hP hD hS => ?_)
  have hc9 := ty_I (tys := []) hK9
  rw [hc9] at hP hD
  refine lv_astore (lv' := [(5, .ref fao), (4, .ref alo), (3, .ref tro), (2, .ref nno), (1, .ref q0), (0, .ref b)]) hx hb dL_law_25 hl (by decide) rfl (fun ls hl => ?_)
  refine lv_bipush (v := 64) hx hb dL_law_27 (by decide) ?_
  refine va_newa (atype := .int) (a0 := (64, .inl (fun _ => 0))) (N' := 64) hx hb (hts (.arrayClass .int) (by decide +kernel)) rfl hK hP hD hS hA (fun _ => rfl) (by decide) rfl (Nat.le_of_ble_eq_true rfl) (Nat.le_of_ble_eq_true rfl) (Nat.le_of_ble_eq_true rfl) dL_law_29 (fun coo c9 H hK9 hP hD hS => ?_)
  have hc9 := ty_I (tys := []) hK9
  rw [hc9] at hP hD
  refine lv_astore (lv' := [(6, .ref coo), (5, .ref fao), (4, .ref alo), (3, .ref tro), (2, .ref nno), (1, .ref q0), (0, .ref b)]) hx hb dL_law_31 hl (by decide) rfl (fun ls hl => ?_)
  refine lv_iconst (v := 4) hx hb dL_law_33 (by decide) ?_
  refine va_newa (atype := .int) (a0 := (4, .inl (fun _ => 0))) (N' := 4) hx hb (hts (.arrayClass .int) (by decide +kernel)) rfl hK hP hD hS hA (fun _ => rfl) (by decide) rfl (Nat.le_of_ble_eq_true rfl) (Nat.le_of_ble_eq_true rfl) (Nat.le_of_ble_eq_true rfl) dL_law_34 (fun cso c9 H hK9 hP hD hS => ?_)
  have hc9 := ty_I (tys := []) hK9
  rw [hc9] at hP hD
  refine lv_astore (lv' := [(7, .ref cso), (6, .ref coo), (5, .ref fao), (4, .ref alo), (3, .ref tro), (2, .ref nno), (1, .ref q0), (0, .ref b)]) hx hb dL_law_36 hl (by decide) rfl (fun ls hl => ?_)
  have hP := hP.sub (ws' := ((wX6 q0 (u.1 0) (u.1 1) (u.1 2) (u.1 3) (u.1 4) (u.1 5) 1 ++ (wX3 kI kJ (u.1 0) (u.2 0) r.1 r.2.1 0 0 r.2.2.1 r.2.2.2 (fun _ => 0) (fun _ => 0) ++ (wX0 (u.1 1) (u.1 6) 0 ++ (wX4 kI kJ (u.1 2) (u.2 1) (fun _ => 0) 0 ++ (wX1 kI kJ (u.1 3) (u.2 2) (fun _ => 0) (fun _ => 0) (fun _ => 0) 0 ++ (wX5 kI kJ (u.1 4) (u.2 3) 0 0 0 0 0 (fun _ => 0) (fun _ => 0) (fun _ => 0) (fun _ => 0) (fun _ => 0) (fun _ => 0) (fun _ => 0) ++ (wX5 kI kJ (u.1 5) (u.2 4) 0 0 0 0 0 (fun _ => 0) (fun _ => 0) (fun _ => 0) (fun _ => 0) (fun _ => 0) (fun _ => 0) (fun _ => 0) ++ (wAI5 kI nno (fun _ => 0) ++ (wAI64 kI tro (fun _ => 0) ++ (wAI4 kI alo (fun _ => 0) ++ (wAI4 kI fao (fun _ => 0) ++ (wAI64 kI coo (fun _ => 0) ++ (wAI4 kI cso (fun _ => 0)))))))))))))) ++ (svA kS (u.1 6) (fun _ => 0) 0 ++ svs kI kJ (fun _ => 0) (fun _ _ => 0) dv0 0))) [0, 1, 2, 3, 4, 5, 6, 7, 8, 9, 10, 11, 12, 13, 14, 15, 16, 17, 18, 19, 20, 21, 22, 23, 24, 25, 26, 27, 28, 30, 31, 32, 33, 34, 35, 29] rfl
  have hD := hD.sub (ws' := ((wX6 q0 (u.1 0) (u.1 1) (u.1 2) (u.1 3) (u.1 4) (u.1 5) 1 ++ (wX3 kI kJ (u.1 0) (u.2 0) r.1 r.2.1 0 0 r.2.2.1 r.2.2.2 (fun _ => 0) (fun _ => 0) ++ (wX0 (u.1 1) (u.1 6) 0 ++ (wX4 kI kJ (u.1 2) (u.2 1) (fun _ => 0) 0 ++ (wX1 kI kJ (u.1 3) (u.2 2) (fun _ => 0) (fun _ => 0) (fun _ => 0) 0 ++ (wX5 kI kJ (u.1 4) (u.2 3) 0 0 0 0 0 (fun _ => 0) (fun _ => 0) (fun _ => 0) (fun _ => 0) (fun _ => 0) (fun _ => 0) (fun _ => 0) ++ (wX5 kI kJ (u.1 5) (u.2 4) 0 0 0 0 0 (fun _ => 0) (fun _ => 0) (fun _ => 0) (fun _ => 0) (fun _ => 0) (fun _ => 0) (fun _ => 0) ++ (wAI5 kI nno (fun _ => 0) ++ (wAI64 kI tro (fun _ => 0) ++ (wAI4 kI alo (fun _ => 0) ++ (wAI4 kI fao (fun _ => 0) ++ (wAI64 kI coo (fun _ => 0) ++ (wAI4 kI cso (fun _ => 0)))))))))))))) ++ (svA kS (u.1 6) (fun _ => 0) 0 ++ svs kI kJ (fun _ => 0) (fun _ _ => 0) dv0 0))) [0, 1, 2, 3, 4, 5, 6, 7, 8, 9, 10, 11, 12, 13, 14, 15, 16, 17, 18, 19, 20, 21, 22, 23, 24, 25, 26, 27, 28, 30, 31, 32, 33, 34, 35, 29] (by decide) rfl
  refine W.widen (k := 36 + 0) (n := 7400 + 0) (Nat.le_of_ble_eq_true rfl) (Nat.le_of_ble_eq_true rfl) ?_
  have htl : TL kI kJ kS (u.1 6) 0 dv0 (svA kS (u.1 6) (fun _ => 0) 0 ++ svs kI kJ (fun _ => 0) (fun _ _ => 0) dv0 0) := ⟨0, 0, (fun _ => 0), fun _ _ => 0, dv0, Nat.zero_le _, Nat.le_refl _, rfl, fun j hj => absurd hj (Nat.not_lt_zero j), rfl⟩
  exact law_38 (r := ()) hE rfl hX hbl q0 (u.1 0) (u.2 0) (u.1 1) (u.1 6) (u.1 2) (u.2 1) (u.1 3) (u.2 2) (u.1 4) (u.2 3) (u.1 5) (u.2 4) nno tro alo fao coo cso 1 r.1 r.2.1 0 0 r.2.2.1 r.2.2.2 (fun _ => 0) (fun _ => 0) 0 (fun _ => 0) 0 (fun _ => 0) (fun _ => 0) (fun _ => 0) 0 0 0 0 0 0 (fun _ => 0) (fun _ => 0) (fun _ => 0) (fun _ => 0) (fun _ => 0) (fun _ => 0) (fun _ => 0) 0 0 0 0 0 (fun _ => 0) (fun _ => 0) (fun _ => 0) (fun _ => 0) (fun _ => 0) (fun _ => 0) (fun _ => 0) (fun _ => 0) (fun _ => 0) (fun _ => 0) (fun _ => 0) (fun _ => 0) (fun _ => 0) dv0 htl hlaw H locs ls hP hD hS (lv_sub hl [7, 6, 5, 4, 3, 2, 1, 0] rfl)
