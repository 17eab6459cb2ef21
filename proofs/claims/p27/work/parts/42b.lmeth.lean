/-! ===== L_changes ===== -/
set_option maxHeartbeats 4000000 in
set_option maxRecDepth 100000 in
theorem c_L_changes (l : Launch) (D : va_G) (kI kJ kS : ClassId) (to : Nat) (so : Nat) (sa : Nat → Nat) (ho : Nat) (hr : Nat) (xo : Nat) (xa : Nat → Nat) (po : Nat) (pa : Nat → Nat) (vo : Nat) (va : Nat → Nat) (wo : Nat) (wa : Nat → Nat) (nno : Nat) (tro : Nat) (x1 : Int32) (x2 : Int32) (t_presentIsOld : Int32) (s_inputs : Int32) (s_remembered : Int32) (s_asks : Int32) (s_hours : Int32) (s_zeros : (Nat → Int64)) (s_ones : (Nat → Int64)) (s_alarms : (Nat → Int32)) (s_faults : (Nat → Int32)) (h_size : Int32) (x_codes : (Nat → Int32)) (x_length : Int32) (p_bad : (Nat → Int64)) (p_codes : (Nat → Int32)) (p_rows : (Nat → Int64)) (p_size : Int32) (v_inputs : Int32) (v_undecidedPairs : Int32) (v_parts : Int32) (v_sharedParts : Int32) (v_partCares : Int32) (v_zeros : (Nat → Int64)) (v_ones : (Nat → Int64)) (v_undecided : (Nat → Int64)) (v_answers : (Nat → Int64)) (v_primeCounts : (Nat → Int32)) (v_sizes : (Nat → Int32)) (v_codes : (Nat → Int32)) (w_inputs : Int32) (w_undecidedPairs : Int32) (w_parts : Int32) (w_sharedParts : Int32) (w_partCares : Int32) (w_zeros : (Nat → Int64)) (w_ones : (Nat → Int64)) (w_undecided : (Nat → Int64)) (w_answers : (Nat → Int64)) (w_primeCounts : (Nat → Int32)) (w_sizes : (Nat → Int32)) (w_codes : (Nat → Int32)) (nn_arr : (Nat → Int32)) (tr_arr : (Nat → Int32)) (h_vals : (Nat → SV)) {tl : va_W} (htl : TL kI kJ kS hr h_size h_vals tl) {r : Int32 × Int32 × (Nat → Int64) × (Nat → Int64) × Int32 × (Nat → Int32) × (Nat → Int32) × (Nat → SV)} (hrun : fL_changes s_inputs s_remembered s_asks s_hours s_zeros s_ones s_alarms s_faults h_size nn_arr tr_arr h_vals x1 x2 = some r) : gI l D (tyL kI kJ kS) yL_changes wsL_changes (rmk 5 5 24 97) [.ref to, .int x1, .int x2, .ref nno, .ref tro] ((wX6 to so ho xo po vo wo t_presentIsOld ++ (wX3 kI kJ so sa s_inputs s_remembered s_asks s_hours s_zeros s_ones s_alarms s_faults ++ (wX0 ho hr h_size ++ (wX4 kI kJ xo xa x_codes x_length ++ (wX1 kI kJ po pa p_bad p_codes p_rows p_size ++ (wX5 kI kJ vo va v_inputs v_undecidedPairs v_parts v_sharedParts v_partCares v_zeros v_ones v_undecided v_answers v_primeCounts v_sizes v_codes ++ (wX5 kI kJ wo wa w_inputs w_undecidedPairs w_parts w_sharedParts w_partCares w_zeros w_ones w_undecided w_answers w_primeCounts w_sizes w_codes ++ (wAI5 kI nno nn_arr ++ (wAI64 kI tro tr_arr))))))))) ++ tl) (wX6 to so ho xo po vo wo r.2.1 ++ (wX3 kI kJ so sa s_inputs s_remembered s_asks s_hours r.2.2.1 r.2.2.2.1 s_alarms s_faults ++ (wX0 ho hr r.2.2.2.2.1 ++ (wX4 kI kJ xo xa x_codes x_length ++ (wX1 kI kJ po pa p_bad p_codes p_rows p_size ++ (wX5 kI kJ vo va v_inputs v_undecidedPairs v_parts v_sharedParts v_partCares v_zeros v_ones v_undecided v_answers v_primeCounts v_sizes v_codes ++ (wX5 kI kJ wo wa w_inputs w_undecidedPairs w_parts w_sharedParts w_partCares w_zeros w_ones w_undecided w_answers w_primeCounts w_sizes w_codes ++ (wAI5 kI nno r.2.2.2.2.2.1 ++ (wAI64 kI tro r.2.2.2.2.2.2.1))))))))) (TL kI kJ kS hr r.2.2.2.2.1 r.2.2.2.2.2.2.2) r.1 := by
  refine gI_of (cc := cL_changes) (maxL := 13) (by decide) rfl (Nat.le_of_ble_eq_true rfl) ?_
  intro p e s m av below meth c A Q ls hE hP hD hS hl hret
  have hE : ent_ p s m av meth c RL cL_changes 13 (some .boolean) wsL_changes (tyL kI kJ kS) D A true := hE
  obtain ⟨hx, hb, hml, hown, hts, hrt, hlocks, hK, hA, hst⟩ := id hE
  have hl : lv_has ls 13 [(0, .ref to), (1, .int x1), (2, .int x2), (3, .ref nno), (4, .ref tro)] := hl
  obtain ⟨⟨⟨tW, hZ, hT⟩, hU1, hU2⟩, hnk⟩ := hst rfl
  have c_J209 : ∀ (x6 : Int32) (x8 : Int32) (x9 : Int32) (x10 : Int32) (s_zeros : (Nat → Int64)) (s_ones : (Nat → Int64)) (h_size : Int32) (nn_arr : (Nat → Int32)) (tr_arr : (Nat → Int32)) (h_vals : (Nat → SV)) (k145 : Int32 → Int32 → (Nat → Int32) → Option (Int32 × Int32 × (Nat → Int64) × (Nat → Int64) × Int32 × (Nat → Int32) × (Nat → Int32) × (Nat → SV))) (hk145 : (∀ (x9 : Int32) (x10 : Int32) (tr_arr : (Nat → Int32)) (t_presentIsOld : Int32) (tl : va_W) (htl : TL kI kJ kS hr h_size h_vals tl), k145 x9 x10 tr_arr = some r → wAt p l e (rmk 5 5 24 97) s m av below meth c D A 13 0 0 Q 145 [] [(0, .ref to), (4, .ref tro), (6, .int x6), (8, .int x8), (9, .int x9), (10, .int x10)] ((wX6 to so ho xo po vo wo t_presentIsOld ++ (wX3 kI kJ so sa s_inputs s_remembered s_asks s_hours s_zeros s_ones s_alarms s_faults ++ (wX0 ho hr h_size ++ (wX4 kI kJ xo xa x_codes x_length ++ (wX1 kI kJ po pa p_bad p_codes p_rows p_size ++ (wX5 kI kJ vo va v_inputs v_undecidedPairs v_parts v_sharedParts v_partCares v_zeros v_ones v_undecided v_answers v_primeCounts v_sizes v_codes ++ (wX5 kI kJ wo wa w_inputs w_undecidedPairs w_parts w_sharedParts w_partCares w_zeros w_ones w_undecided w_answers w_primeCounts w_sizes w_codes ++ (wAI5 kI nno nn_arr ++ (wAI64 kI tro tr_arr))))))))) ++ tl))) (t_presentIsOld : Int32) (tl : va_W) (htl : TL kI kJ kS hr h_size h_vals tl), fL_changes_J209 x6 x8 x9 x10 s_inputs s_remembered s_asks s_hours s_zeros s_ones s_alarms s_faults h_size nn_arr tr_arr h_vals k145 = some r → wAt p l e (rmk 5 5 24 97) s m av below meth c D A 13 0 0 Q 209 [] [(0, .ref to), (4, .ref tro), (6, .int x6), (8, .int x8), (9, .int x9), (10, .int x10)] ((wX6 to so ho xo po vo wo t_presentIsOld ++ (wX3 kI kJ so sa s_inputs s_remembered s_asks s_hours s_zeros s_ones s_alarms s_faults ++ (wX0 ho hr h_size ++ (wX4 kI kJ xo xa x_codes x_length ++ (wX1 kI kJ po pa p_bad p_codes p_rows p_size ++ (wX5 kI kJ vo va v_inputs v_undecidedPairs v_parts v_sharedParts v_partCares v_zeros v_ones v_undecided v_answers v_primeCounts v_sizes v_codes ++ (wX5 kI kJ wo wa w_inputs w_undecidedPairs w_parts w_sharedParts w_partCares w_zeros w_ones w_undecided w_answers w_primeCounts w_sizes w_codes ++ (wAI5 kI nno nn_arr ++ (wAI64 kI tro tr_arr))))))))) ++ tl) := by
    intro x6 x8 x9 x10 s_zeros s_ones h_size nn_arr tr_arr h_vals k145 hk145 t_presentIsOld tl htl hrun H locs ls hP hD hS hl
    unfold fL_changes_J209 at hrun
    refine lv_iinc (v := x10 + 1) (lv' := [(10, .int (x10 + 1)), (0, .ref to), (4, .ref tro), (6, .int x6), (8, .int x8), (9, .int x9)]) hx hb dL_changes_209 hl (k := 5) rfl rfl (by decide) rfl (fun ls hl => ?_)
    refine lv_goto (tgt := 145) hx hb dL_changes_212 (by decide) ?_
    exact hk145 x9 (x10 + 1) tr_arr t_presentIsOld _ htl hrun _ _ _ hP hD hS (lv_sub hl [1, 2, 3, 4, 5, 0] rfl)
  have c_J191 : ∀ (x6 : Int32) (x8 : Int32) (x9 : Int32) (x10 : Int32) (s_zeros : (Nat → Int64)) (s_ones : (Nat → Int64)) (h_size : Int32) (nn_arr : (Nat → Int32)) (tr_arr : (Nat → Int32)) (h_vals : (Nat → SV)) (k145 : Int32 → Int32 → (Nat → Int32) → Option (Int32 × Int32 × (Nat → Int64) × (Nat → Int64) × Int32 × (Nat → Int32) × (Nat → Int32) × (Nat → SV))) (hk145 : (∀ (x9 : Int32) (x10 : Int32) (tr_arr : (Nat → Int32)) (t_presentIsOld : Int32) (tl : va_W) (htl : TL kI kJ kS hr h_size h_vals tl), k145 x9 x10 tr_arr = some r → wAt p l e (rmk 5 5 24 97) s m av below meth c D A 13 0 0 Q 145 [] [(0, .ref to), (4, .ref tro), (6, .int x6), (8, .int x8), (9, .int x9), (10, .int x10)] ((wX6 to so ho xo po vo wo t_presentIsOld ++ (wX3 kI kJ so sa s_inputs s_remembered s_asks s_hours s_zeros s_ones s_alarms s_faults ++ (wX0 ho hr h_size ++ (wX4 kI kJ xo xa x_codes x_length ++ (wX1 kI kJ po pa p_bad p_codes p_rows p_size ++ (wX5 kI kJ vo va v_inputs v_undecidedPairs v_parts v_sharedParts v_partCares v_zeros v_ones v_undecided v_answers v_primeCounts v_sizes v_codes ++ (wX5 kI kJ wo wa w_inputs w_undecidedPairs w_parts w_sharedParts w_partCares w_zeros w_ones w_undecided w_answers w_primeCounts w_sizes w_codes ++ (wAI5 kI nno nn_arr ++ (wAI64 kI tro tr_arr))))))))) ++ tl))) (t_presentIsOld : Int32) (tl : va_W) (htl : TL kI kJ kS hr h_size h_vals tl), fL_changes_J191 x6 x8 x9 x10 s_inputs s_remembered s_asks s_hours s_zeros s_ones s_alarms s_faults h_size nn_arr tr_arr h_vals k145 = some r → wAt p l e (rmk 5 5 24 97) s m av below meth c D A 13 0 0 Q 191 [] [(0, .ref to), (4, .ref tro), (6, .int x6), (8, .int x8), (9, .int x9), (10, .int x10)] ((wX6 to so ho xo po vo wo t_presentIsOld ++ (wX3 kI kJ so sa s_inputs s_remembered s_asks s_hours s_zeros s_ones s_alarms s_faults ++ (wX0 ho hr h_size ++ (wX4 kI kJ xo xa x_codes x_length ++ (wX1 kI kJ po pa p_bad p_codes p_rows p_size ++ (wX5 kI kJ vo va v_inputs v_undecidedPairs v_parts v_sharedParts v_partCares v_zeros v_ones v_undecided v_answers v_primeCounts v_sizes v_codes ++ (wX5 kI kJ wo wa w_inputs w_undecidedPairs w_parts w_sharedParts w_partCares w_zeros w_ones w_undecided w_answers w_primeCounts w_sizes w_codes ++ (wAI5 kI nno nn_arr ++ (wAI64 kI tro tr_arr))))))))) ++ tl) := by
    intro x6 x8 x9 x10 s_zeros s_ones h_size nn_arr tr_arr h_vals k145 hk145 t_presentIsOld tl htl hrun H locs ls hP hD hS hl
    unfold fL_changes_J191 at hrun
    refine lv_aload hx hb dL_changes_191 (lv_at hl 1 rfl) ?_
    refine lv_bipush (v := 16) hx hb dL_changes_193 (by decide) ?_
    refine lv_iload hx hb dL_changes_195 (lv_at hl 2 rfl) ?_
    refine lv_imul hx hb dL_changes_197 ?_
    refine lv_iload hx hb dL_changes_198 (lv_at hl 5 rfl) ?_
    refine lv_iadd hx hb dL_changes_200 ?_
    obtain ⟨hin, hrun⟩ := gd_some hrun
    refine va_iald hx hb hK hP 30 0 rfl rfl hin dL_changes_201 ?_
    refine lv_iconst (v := 1) hx hb dL_changes_202 (by decide) ?_
    refine lv_icmp_ne (tgt := 209) hx hb dL_changes_203 (by decide) (fun hc => ?_) (fun hc => ?_)
    · have hrun := it_f hc hrun
      exact c_J209 x6 x8 x9 x10 s_zeros s_ones h_size nn_arr tr_arr h_vals k145 hk145 t_presentIsOld _ htl hrun _ _ _ hP hD hS (lv_sub hl [0, 1, 2, 3, 4, 5] rfl)
    · have hrun := it_t hc hrun
      refine lv_iinc (v := x9 + 1) (lv' := [(9, .int (x9 + 1)), (0, .ref to), (4, .ref tro), (6, .int x6), (8, .int x8), (10, .int x10)]) hx hb dL_changes_206 hl (k := 4) rfl rfl (by decide) rfl (fun ls hl => ?_)
      exact c_J209 x6 x8 (x9 + 1) x10 s_zeros s_ones h_size nn_arr tr_arr h_vals k145 hk145 t_presentIsOld _ htl hrun _ _ _ hP hD hS (lv_sub hl [1, 2, 3, 4, 0, 5] rfl)
  have c_J215 : ∀ (x6 : Int32) (x9 : Int32) (s_zeros : (Nat → Int64)) (s_ones : (Nat → Int64)) (h_size : Int32) (nn_arr : (Nat → Int32)) (tr_arr : (Nat → Int32)) (h_vals : (Nat → SV)) (t_presentIsOld : Int32) (tl : va_W) (htl : TL kI kJ kS hr h_size h_vals tl), fL_changes_J215 x6 x9 s_inputs s_remembered s_asks s_hours s_zeros s_ones s_alarms s_faults h_size nn_arr tr_arr h_vals = some r → wAt p l e (rmk 5 5 24 97) s m av below meth c D A 13 0 0 Q 215 [] [(0, .ref to), (6, .int x6), (9, .int x9)] ((wX6 to so ho xo po vo wo t_presentIsOld ++ (wX3 kI kJ so sa s_inputs s_remembered s_asks s_hours s_zeros s_ones s_alarms s_faults ++ (wX0 ho hr h_size ++ (wX4 kI kJ xo xa x_codes x_length ++ (wX1 kI kJ po pa p_bad p_codes p_rows p_size ++ (wX5 kI kJ vo va v_inputs v_undecidedPairs v_parts v_sharedParts v_partCares v_zeros v_ones v_undecided v_answers v_primeCounts v_sizes v_codes ++ (wX5 kI kJ wo wa w_inputs w_undecidedPairs w_parts w_sharedParts w_partCares w_zeros w_ones w_undecided w_answers w_primeCounts w_sizes w_codes ++ (wAI5 kI nno nn_arr ++ (wAI64 kI tro tr_arr))))))))) ++ tl) := by
    intro x6 x9 s_zeros s_ones h_size nn_arr tr_arr h_vals t_presentIsOld tl htl hrun H locs ls hP hD hS hl
    unfold fL_changes_J215 at hrun
    refine lv_aload_n hx hb dL_changes_215 rfl (lv_at hl 0 rfl) ?_
    refine lv_iload hx hb dL_changes_216 (lv_at hl 1 rfl) ?_
    obtain ⟨q_1, hq_1, hrun⟩ := sg_some hrun
    refine gI_callVT (As := [.int x6]) (rest := []) (wr := (wAI5 kI nno nn_arr ++ (wAI64 kI tro tr_arr))) (wN := (wX6 to so ho xo po vo wo q_1.2.1 ++ (wX3 kI kJ so sa s_inputs s_remembered s_asks s_hours q_1.2.2.1 q_1.2.2.2.1 s_alarms s_faults ++ (wX0 ho hr q_1.2.2.2.2.1 ++ (wX4 kI kJ xo xa x_codes x_length ++ (wX1 kI kJ po pa p_bad p_codes p_rows p_size ++ (wX5 kI kJ vo va v_inputs v_undecidedPairs v_parts v_sharedParts v_partCares v_zeros v_ones v_undecided v_answers v_primeCounts v_sizes v_codes ++ (wX5 kI kJ wo wa w_inputs w_undecidedPairs w_parts w_sharedParts w_partCares w_zeros w_ones w_undecided w_answers w_primeCounts w_sizes w_codes ++ (wAI5 kI nno nn_arr ++ (wAI64 kI tro tr_arr)))))))))) (ci := 5) (q0 := 0) hE (n_X6_invert l D kI kJ kS to so sa ho hr xo xa po pa vo va wo wa x6 t_presentIsOld s_inputs s_remembered s_asks s_hours s_zeros s_ones s_alarms s_faults h_size x_codes x_length p_bad p_codes p_rows p_size v_inputs v_undecidedPairs v_parts v_sharedParts v_partCares v_zeros v_ones v_undecided v_answers v_primeCounts v_sizes v_codes w_inputs w_undecidedPairs w_parts w_sharedParts w_partCares w_zeros w_ones w_undecided w_answers w_primeCounts w_sizes w_codes h_vals htl hq_1) (cwV 1 hts gL_changes_X6_invert rfl rfl rfl (by decide +kernel) ⟨Nat.le_of_ble_eq_true rfl, Nat.le_of_ble_eq_true rfl⟩) hP hD hS [0, 1, 2, 3, 4, 5, 6, 7, 8, 9, 10, 11, 12, 13, 14, 15, 16, 17, 18, 19, 20, 21, 22, 23, 24, 25, 26, 27, 28] [29, 30] [2, 3, 4, 5, 6, 7, 8, 9, 10, 11, 12, 13, 14, 15, 16, 17, 18, 19, 20, 21, 22, 23, 24, 25, 26, 27, 28, 29, 30, 0, 1] rfl rfl rfl rfl (by decide) rfl rfl rfl rfl rfl hl.1 rfl (Nat.le_of_ble_eq_true rfl) dL_changes_218 ⟨Nat.le_of_ble_eq_true rfl, Nat.le_of_ble_eq_true rfl⟩ (fun tl H locs htl hP hD hS => ?_)
    refine lv_iload hx hb dL_changes_221 (lv_at hl 2 rfl) ?_
    refine lv_icmp_ne (tgt := 230) hx hb dL_changes_223 (by decide) (fun hc => ?_) (fun hc => ?_)
    · have hrun := it_f hc hrun
      refine lv_iconst (v := 0) hx hb dL_changes_230 (by decide) ?_
      obtain rfl := Option.some.inj hrun
      exact hret _ _ _ _ _ (show narrow .boolean (.int 0) = .int 0 from rfl) htl dL_changes_231 hP hD hS
    · have hrun := it_t hc hrun
      refine lv_iconst (v := 1) hx hb dL_changes_226 (by decide) ?_
      refine lv_goto (tgt := 231) hx hb dL_changes_227 (by decide) ?_
      obtain rfl := Option.some.inj hrun
      exact hret _ _ _ _ _ (show narrow .boolean (.int 1) = .int 1 from rfl) htl dL_changes_231 hP hD hS
  have c_L145 : ∀ (x6 : Int32) (x8 : Int32) (s_zeros : (Nat → Int64)) (s_ones : (Nat → Int64)) (h_size : Int32) (nn_arr : (Nat → Int32)) (h_vals : (Nat → SV)) (n : Nat) (x9 : Int32) (x10 : Int32) (tr_arr : (Nat → Int32)) (t_presentIsOld : Int32) (tl : va_W) (htl : TL kI kJ kS hr h_size h_vals tl), fL_changes_L145 x6 x8 s_inputs s_remembered s_asks s_hours s_zeros s_ones s_alarms s_faults h_size nn_arr h_vals n x9 x10 tr_arr = some r → wAt p l e (rmk 5 5 24 97) s m av below meth c D A 13 0 0 Q 145 [] [(0, .ref to), (4, .ref tro), (6, .int x6), (8, .int x8), (9, .int x9), (10, .int x10)] ((wX6 to so ho xo po vo wo t_presentIsOld ++ (wX3 kI kJ so sa s_inputs s_remembered s_asks s_hours s_zeros s_ones s_alarms s_faults ++ (wX0 ho hr h_size ++ (wX4 kI kJ xo xa x_codes x_length ++ (wX1 kI kJ po pa p_bad p_codes p_rows p_size ++ (wX5 kI kJ vo va v_inputs v_undecidedPairs v_parts v_sharedParts v_partCares v_zeros v_ones v_undecided v_answers v_primeCounts v_sizes v_codes ++ (wX5 kI kJ wo wa w_inputs w_undecidedPairs w_parts w_sharedParts w_partCares w_zeros w_ones w_undecided w_answers w_primeCounts w_sizes w_codes ++ (wAI5 kI nno nn_arr ++ (wAI64 kI tro tr_arr))))))))) ++ tl) := by
    intro x6 x8 s_zeros s_ones h_size nn_arr h_vals n
    induction n with
    | zero =>
      intro x9 x10 tr_arr t_presentIsOld tl htl hrun
      rw [fL_changes_L145] at hrun
      cases hrun
    | succ n ih =>
      intro x9 x10 tr_arr t_presentIsOld tl htl hrun H locs ls hP hD hS hl
      rw [fL_changes_L145] at hrun
      refine lv_iload hx hb dL_changes_145 (lv_at hl 5 rfl) ?_
      refine lv_iload hx hb dL_changes_147 (lv_at hl 3 rfl) ?_
      refine lv_icmp_ge (tgt := 215) hx hb dL_changes_149 (by decide) (fun hc => ?_) (fun hc => ?_)
      · have hrun := it_t hc hrun
        exact c_J215 x6 x9 s_zeros s_ones h_size nn_arr tr_arr h_vals t_presentIsOld _ htl hrun _ _ _ hP hD hS (lv_sub hl [0, 2, 4] rfl)
      · have hrun := it_f hc hrun
        refine lv_aload hx hb dL_changes_152 (lv_at hl 1 rfl) ?_
        refine lv_bipush (v := 16) hx hb dL_changes_154 (by decide) ?_
        refine lv_iload hx hb dL_changes_156 (lv_at hl 2 rfl) ?_
        refine lv_imul hx hb dL_changes_158 ?_
        refine lv_iload hx hb dL_changes_159 (lv_at hl 5 rfl) ?_
        refine lv_iadd hx hb dL_changes_161 ?_
        obtain ⟨hin, hrun⟩ := gd_some hrun
        refine va_iald hx hb hK hP 30 0 rfl rfl hin dL_changes_162 ?_
        refine lv_iconst (v := 2) hx hb dL_changes_163 (by decide) ?_
        refine lv_icmp_ge (tgt := 191) hx hb dL_changes_164 (by decide) (fun hc => ?_) (fun hc => ?_)
        · have hrun := it_t hc hrun
          exact c_J191 x6 x8 x9 x10 s_zeros s_ones h_size nn_arr tr_arr h_vals (fL_changes_L145 x6 x8 s_inputs s_remembered s_asks s_hours s_zeros s_ones s_alarms s_faults h_size nn_arr h_vals n) ih t_presentIsOld _ htl hrun _ _ _ hP hD hS (lv_sub hl [0, 1, 2, 3, 4, 5] rfl)
        · have hrun := it_f hc hrun
          refine lv_aload hx hb dL_changes_167 (lv_at hl 1 rfl) ?_
          refine lv_bipush (v := 16) hx hb dL_changes_169 (by decide) ?_
          refine lv_iload hx hb dL_changes_171 (lv_at hl 2 rfl) ?_
          refine lv_imul hx hb dL_changes_173 ?_
          refine lv_iload hx hb dL_changes_174 (lv_at hl 5 rfl) ?_
          refine lv_iadd hx hb dL_changes_176 ?_
          refine lv_iconst (v := 1) hx hb dL_changes_177 (by decide) ?_
          refine lv_aload hx hb dL_changes_178 (lv_at hl 1 rfl) ?_
          refine lv_bipush (v := 16) hx hb dL_changes_180 (by decide) ?_
          refine lv_iload hx hb dL_changes_182 (lv_at hl 2 rfl) ?_
          refine lv_imul hx hb dL_changes_184 ?_
          refine lv_iload hx hb dL_changes_185 (lv_at hl 5 rfl) ?_
          refine lv_iadd hx hb dL_changes_187 ?_
          obtain ⟨hin, hrun⟩ := gd_some hrun
          refine va_iald hx hb hK hP 30 0 rfl rfl hin dL_changes_188 ?_
          refine lv_isub hx hb dL_changes_189 ?_
          obtain ⟨hin, hrun⟩ := gd_some hrun
          refine va_iast hx hb hK hP hD hS 30 0 rfl rfl hin dL_changes_190 (fun H locs hP hD hS => ?_)
          have hP : va_P D vwCl ((wX6 to so ho xo po vo wo t_presentIsOld ++ (wX3 kI kJ so sa s_inputs s_remembered s_asks s_hours s_zeros s_ones s_alarms s_faults ++ (wX0 ho hr h_size ++ (wX4 kI kJ xo xa x_codes x_length ++ (wX1 kI kJ po pa p_bad p_codes p_rows p_size ++ (wX5 kI kJ vo va v_inputs v_undecidedPairs v_parts v_sharedParts v_partCares v_zeros v_ones v_undecided v_answers v_primeCounts v_sizes v_codes ++ (wX5 kI kJ wo wa w_inputs w_undecidedPairs w_parts w_sharedParts w_partCares w_zeros w_ones w_undecided w_answers w_primeCounts w_sizes w_codes ++ (wAI5 kI nno nn_arr ++ (wAI64 kI tro (upd tr_arr ((16 * x6) + x10).toNatClampNeg (1 - (tr_arr ((16 * x6) + x10).toNatClampNeg)))))))))))) ++ tl) H := hP
          have hD : va_D A ((wX6 to so ho xo po vo wo t_presentIsOld ++ (wX3 kI kJ so sa s_inputs s_remembered s_asks s_hours s_zeros s_ones s_alarms s_faults ++ (wX0 ho hr h_size ++ (wX4 kI kJ xo xa x_codes x_length ++ (wX1 kI kJ po pa p_bad p_codes p_rows p_size ++ (wX5 kI kJ vo va v_inputs v_undecidedPairs v_parts v_sharedParts v_partCares v_zeros v_ones v_undecided v_answers v_primeCounts v_sizes v_codes ++ (wX5 kI kJ wo wa w_inputs w_undecidedPairs w_parts w_sharedParts w_partCares w_zeros w_ones w_undecided w_answers w_primeCounts w_sizes w_codes ++ (wAI5 kI nno nn_arr ++ (wAI64 kI tro (upd tr_arr ((16 * x6) + x10).toNatClampNeg (1 - (tr_arr ((16 * x6) + x10).toNatClampNeg)))))))))))) ++ tl) := hD
          obtain ⟨u_2, eu_2⟩ : ∃ y, y = upd tr_arr ((16 * x6) + x10).toNatClampNeg (1 - (tr_arr ((16 * x6) + x10).toNatClampNeg)) := ⟨_, rfl⟩
          have hrun := lt_some eu_2 hrun
          rw [← eu_2] at hP hD
          exact c_J191 x6 x8 x9 x10 s_zeros s_ones h_size nn_arr u_2 h_vals (fL_changes_L145 x6 x8 s_inputs s_remembered s_asks s_hours s_zeros s_ones s_alarms s_faults h_size nn_arr h_vals n) ih t_presentIsOld _ htl hrun _ _ _ hP hD hS (lv_sub hl [0, 1, 2, 3, 4, 5] rfl)
  have c_J142 : ∀ (x6 : Int32) (x8 : Int32) (x9 : Int32) (s_zeros : (Nat → Int64)) (s_ones : (Nat → Int64)) (h_size : Int32) (nn_arr : (Nat → Int32)) (tr_arr : (Nat → Int32)) (h_vals : (Nat → SV)) (t_presentIsOld : Int32) (tl : va_W) (htl : TL kI kJ kS hr h_size h_vals tl), fL_changes_J142 x6 x8 x9 s_inputs s_remembered s_asks s_hours s_zeros s_ones s_alarms s_faults h_size nn_arr tr_arr h_vals = some r → wAt p l e (rmk 5 5 24 97) s m av below meth c D A 13 0 0 Q 142 [] [(0, .ref to), (4, .ref tro), (6, .int x6), (8, .int x8), (9, .int x9)] ((wX6 to so ho xo po vo wo t_presentIsOld ++ (wX3 kI kJ so sa s_inputs s_remembered s_asks s_hours s_zeros s_ones s_alarms s_faults ++ (wX0 ho hr h_size ++ (wX4 kI kJ xo xa x_codes x_length ++ (wX1 kI kJ po pa p_bad p_codes p_rows p_size ++ (wX5 kI kJ vo va v_inputs v_undecidedPairs v_parts v_sharedParts v_partCares v_zeros v_ones v_undecided v_answers v_primeCounts v_sizes v_codes ++ (wX5 kI kJ wo wa w_inputs w_undecidedPairs w_parts w_sharedParts w_partCares w_zeros w_ones w_undecided w_answers w_primeCounts w_sizes w_codes ++ (wAI5 kI nno nn_arr ++ (wAI64 kI tro tr_arr))))))))) ++ tl) := by
    intro x6 x8 x9 s_zeros s_ones h_size nn_arr tr_arr h_vals t_presentIsOld tl htl hrun H locs ls hP hD hS hl
    unfold fL_changes_J142 at hrun
    refine lv_iconst (v := 0) hx hb dL_changes_142 (by decide) ?_
    refine lv_istore (lv' := [(10, .int 0), (0, .ref to), (4, .ref tro), (6, .int x6), (8, .int x8), (9, .int x9)]) hx hb dL_changes_143 hl (by decide) rfl (fun ls hl => ?_)
    exact c_L145 x6 x8 s_zeros s_ones h_size nn_arr h_vals 5000 x9 0 tr_arr t_presentIsOld _ htl hrun _ _ _ hP hD hS (lv_sub hl [1, 2, 3, 4, 5, 0] rfl)
  have c_J326 : ∀ (x6 : Int32) (x7 : Int32) (x8 : Int32) (x9 : Int32) (x10 : Int32) (s_zeros : (Nat → Int64)) (s_ones : (Nat → Int64)) (h_size : Int32) (nn_arr : (Nat → Int32)) (tr_arr : (Nat → Int32)) (h_vals : (Nat → SV)) (k235 : Int32 → Int32 → (Nat → Int32) → Option (Int32 × Int32 × (Nat → Int64) × (Nat → Int64) × Int32 × (Nat → Int32) × (Nat → Int32) × (Nat → SV))) (hk235 : (∀ (x9 : Int32) (x10 : Int32) (tr_arr : (Nat → Int32)) (t_presentIsOld : Int32) (tl : va_W) (htl : TL kI kJ kS hr h_size h_vals tl), k235 x9 x10 tr_arr = some r → wAt p l e (rmk 5 5 24 97) s m av below meth c D A 13 0 0 Q 235 [] [(0, .ref to), (4, .ref tro), (6, .int x6), (7, .int x7), (8, .int x8), (9, .int x9), (10, .int x10)] ((wX6 to so ho xo po vo wo t_presentIsOld ++ (wX3 kI kJ so sa s_inputs s_remembered s_asks s_hours s_zeros s_ones s_alarms s_faults ++ (wX0 ho hr h_size ++ (wX4 kI kJ xo xa x_codes x_length ++ (wX1 kI kJ po pa p_bad p_codes p_rows p_size ++ (wX5 kI kJ vo va v_inputs v_undecidedPairs v_parts v_sharedParts v_partCares v_zeros v_ones v_undecided v_answers v_primeCounts v_sizes v_codes ++ (wX5 kI kJ wo wa w_inputs w_undecidedPairs w_parts w_sharedParts w_partCares w_zeros w_ones w_undecided w_answers w_primeCounts w_sizes w_codes ++ (wAI5 kI nno nn_arr ++ (wAI64 kI tro tr_arr))))))))) ++ tl))) (t_presentIsOld : Int32) (tl : va_W) (htl : TL kI kJ kS hr h_size h_vals tl), fL_changes_J326 x6 x7 x8 x9 x10 s_inputs s_remembered s_asks s_hours s_zeros s_ones s_alarms s_faults h_size nn_arr tr_arr h_vals k235 = some r → wAt p l e (rmk 5 5 24 97) s m av below meth c D A 13 0 0 Q 326 [] [(0, .ref to), (4, .ref tro), (6, .int x6), (7, .int x7), (8, .int x8), (9, .int x9), (10, .int x10)] ((wX6 to so ho xo po vo wo t_presentIsOld ++ (wX3 kI kJ so sa s_inputs s_remembered s_asks s_hours s_zeros s_ones s_alarms s_faults ++ (wX0 ho hr h_size ++ (wX4 kI kJ xo xa x_codes x_length ++ (wX1 kI kJ po pa p_bad p_codes p_rows p_size ++ (wX5 kI kJ vo va v_inputs v_undecidedPairs v_parts v_sharedParts v_partCares v_zeros v_ones v_undecided v_answers v_primeCounts v_sizes v_codes ++ (wX5 kI kJ wo wa w_inputs w_undecidedPairs w_parts w_sharedParts w_partCares w_zeros w_ones w_undecided w_answers w_primeCounts w_sizes w_codes ++ (wAI5 kI nno nn_arr ++ (wAI64 kI tro tr_arr))))))))) ++ tl) := by
    intro x6 x7 x8 x9 x10 s_zeros s_ones h_size nn_arr tr_arr h_vals k235 hk235 t_presentIsOld tl htl hrun H locs ls hP hD hS hl
    unfold fL_changes_J326 at hrun
    refine lv_iinc (v := x10 + 1) (lv' := [(10, .int (x10 + 1)), (0, .ref to), (4, .ref tro), (6, .int x6), (7, .int x7), (8, .int x8), (9, .int x9)]) hx hb dL_changes_326 hl (k := 6) rfl rfl (by decide) rfl (fun ls hl => ?_)
    refine lv_goto (tgt := 235) hx hb dL_changes_329 (by decide) ?_
    exact hk235 x9 (x10 + 1) tr_arr t_presentIsOld _ htl hrun _ _ _ hP hD hS (lv_sub hl [1, 2, 3, 4, 5, 6, 0] rfl)
  have c_J307 : ∀ (x6 : Int32) (x7 : Int32) (x8 : Int32) (x9 : Int32) (x10 : Int32) (s0 : Int32) (s1 : Int32) (s_zeros : (Nat → Int64)) (s_ones : (Nat → Int64)) (h_size : Int32) (nn_arr : (Nat → Int32)) (tr_arr : (Nat → Int32)) (h_vals : (Nat → SV)) (k235 : Int32 → Int32 → (Nat → Int32) → Option (Int32 × Int32 × (Nat → Int64) × (Nat → Int64) × Int32 × (Nat → Int32) × (Nat → Int32) × (Nat → SV))) (hk235 : (∀ (x9 : Int32) (x10 : Int32) (tr_arr : (Nat → Int32)) (t_presentIsOld : Int32) (tl : va_W) (htl : TL kI kJ kS hr h_size h_vals tl), k235 x9 x10 tr_arr = some r → wAt p l e (rmk 5 5 24 97) s m av below meth c D A 13 0 0 Q 235 [] [(0, .ref to), (4, .ref tro), (6, .int x6), (7, .int x7), (8, .int x8), (9, .int x9), (10, .int x10)] ((wX6 to so ho xo po vo wo t_presentIsOld ++ (wX3 kI kJ so sa s_inputs s_remembered s_asks s_hours s_zeros s_ones s_alarms s_faults ++ (wX0 ho hr h_size ++ (wX4 kI kJ xo xa x_codes x_length ++ (wX1 kI kJ po pa p_bad p_codes p_rows p_size ++ (wX5 kI kJ vo va v_inputs v_undecidedPairs v_parts v_sharedParts v_partCares v_zeros v_ones v_undecided v_answers v_primeCounts v_sizes v_codes ++ (wX5 kI kJ wo wa w_inputs w_undecidedPairs w_parts w_sharedParts w_partCares w_zeros w_ones w_undecided w_answers w_primeCounts w_sizes w_codes ++ (wAI5 kI nno nn_arr ++ (wAI64 kI tro tr_arr))))))))) ++ tl))) (t_presentIsOld : Int32) (tl : va_W) (htl : TL kI kJ kS hr h_size h_vals tl), fL_changes_J307 x6 x7 x8 x9 x10 s0 s1 s_inputs s_remembered s_asks s_hours s_zeros s_ones s_alarms s_faults h_size nn_arr tr_arr h_vals k235 = some r → wAt p l e (rmk 5 5 24 97) s m av below meth c D A 13 0 0 Q 307 [.int s0, .int s1, .ref tro] [(0, .ref to), (4, .ref tro), (6, .int x6), (7, .int x7), (8, .int x8), (9, .int x9), (10, .int x10)] ((wX6 to so ho xo po vo wo t_presentIsOld ++ (wX3 kI kJ so sa s_inputs s_remembered s_asks s_hours s_zeros s_ones s_alarms s_faults ++ (wX0 ho hr h_size ++ (wX4 kI kJ xo xa x_codes x_length ++ (wX1 kI kJ po pa p_bad p_codes p_rows p_size ++ (wX5 kI kJ vo va v_inputs v_undecidedPairs v_parts v_sharedParts v_partCares v_zeros v_ones v_undecided v_answers v_primeCounts v_sizes v_codes ++ (wX5 kI kJ wo wa w_inputs w_undecidedPairs w_parts w_sharedParts w_partCares w_zeros w_ones w_undecided w_answers w_primeCounts w_sizes w_codes ++ (wAI5 kI nno nn_arr ++ (wAI64 kI tro tr_arr))))))))) ++ tl) := by
    intro x6 x7 x8 x9 x10 s0 s1 s_zeros s_ones h_size nn_arr tr_arr h_vals k235 hk235 t_presentIsOld tl htl hrun H locs ls hP hD hS hl
    unfold fL_changes_J307 at hrun
    obtain ⟨hin, hrun⟩ := gd_some hrun
    refine va_iast hx hb hK hP hD hS 30 0 rfl rfl hin dL_changes_307 (fun H locs hP hD hS => ?_)
    have hP : va_P D vwCl ((wX6 to so ho xo po vo wo t_presentIsOld ++ (wX3 kI kJ so sa s_inputs s_remembered s_asks s_hours s_zeros s_ones s_alarms s_faults ++ (wX0 ho hr h_size ++ (wX4 kI kJ xo xa x_codes x_length ++ (wX1 kI kJ po pa p_bad p_codes p_rows p_size ++ (wX5 kI kJ vo va v_inputs v_undecidedPairs v_parts v_sharedParts v_partCares v_zeros v_ones v_undecided v_answers v_primeCounts v_sizes v_codes ++ (wX5 kI kJ wo wa w_inputs w_undecidedPairs w_parts w_sharedParts w_partCares w_zeros w_ones w_undecided w_answers w_primeCounts w_sizes w_codes ++ (wAI5 kI nno nn_arr ++ (wAI64 kI tro (upd tr_arr s1.toNatClampNeg s0)))))))))) ++ tl) H := hP
    have hD : va_D A ((wX6 to so ho xo po vo wo t_presentIsOld ++ (wX3 kI kJ so sa s_inputs s_remembered s_asks s_hours s_zeros s_ones s_alarms s_faults ++ (wX0 ho hr h_size ++ (wX4 kI kJ xo xa x_codes x_length ++ (wX1 kI kJ po pa p_bad p_codes p_rows p_size ++ (wX5 kI kJ vo va v_inputs v_undecidedPairs v_parts v_sharedParts v_partCares v_zeros v_ones v_undecided v_answers v_primeCounts v_sizes v_codes ++ (wX5 kI kJ wo wa w_inputs w_undecidedPairs w_parts w_sharedParts w_partCares w_zeros w_ones w_undecided w_answers w_primeCounts w_sizes w_codes ++ (wAI5 kI nno nn_arr ++ (wAI64 kI tro (upd tr_arr s1.toNatClampNeg s0)))))))))) ++ tl) := hD
    refine lv_aload hx hb dL_changes_308 (lv_at hl 1 rfl) ?_
    refine lv_bipush (v := 16) hx hb dL_changes_310 (by decide) ?_
    refine lv_iload hx hb dL_changes_312 (lv_at hl 2 rfl) ?_
    refine lv_imul hx hb dL_changes_314 ?_
    refine lv_iload hx hb dL_changes_315 (lv_at hl 6 rfl) ?_
    refine lv_iadd hx hb dL_changes_317 ?_
    obtain ⟨hin, hrun⟩ := gd_some hrun
    refine va_iald hx hb hK hP 30 0 rfl rfl hin dL_changes_318 ?_
    refine lv_iconst (v := 1) hx hb dL_changes_319 (by decide) ?_
    refine lv_icmp_ne (tgt := 326) hx hb dL_changes_320 (by decide) (fun hc => ?_) (fun hc => ?_)
    · have hrun := it_f hc hrun
      exact c_J326 x6 x7 x8 x9 x10 s_zeros s_ones h_size nn_arr (upd tr_arr s1.toNatClampNeg s0) h_vals k235 hk235 t_presentIsOld _ htl hrun _ _ _ hP hD hS (lv_sub hl [0, 1, 2, 3, 4, 5, 6] rfl)
    · have hrun := it_t hc hrun
      refine lv_iinc (v := x9 + 1) (lv' := [(9, .int (x9 + 1)), (0, .ref to), (4, .ref tro), (6, .int x6), (7, .int x7), (8, .int x8), (10, .int x10)]) hx hb dL_changes_323 hl (k := 5) rfl rfl (by decide) rfl (fun ls hl => ?_)
      exact c_J326 x6 x7 x8 (x9 + 1) x10 s_zeros s_ones h_size nn_arr (upd tr_arr s1.toNatClampNeg s0) h_vals k235 hk235 t_presentIsOld _ htl hrun _ _ _ hP hD hS (lv_sub hl [1, 2, 3, 4, 5, 0, 6] rfl)
  have c_J290 : ∀ (x6 : Int32) (x7 : Int32) (x8 : Int32) (x9 : Int32) (x10 : Int32) (s0 : Int32) (s_zeros : (Nat → Int64)) (s_ones : (Nat → Int64)) (h_size : Int32) (nn_arr : (Nat → Int32)) (tr_arr : (Nat → Int32)) (h_vals : (Nat → SV)) (k235 : Int32 → Int32 → (Nat → Int32) → Option (Int32 × Int32 × (Nat → Int64) × (Nat → Int64) × Int32 × (Nat → Int32) × (Nat → Int32) × (Nat → SV))) (hk235 : (∀ (x9 : Int32) (x10 : Int32) (tr_arr : (Nat → Int32)) (t_presentIsOld : Int32) (tl : va_W) (htl : TL kI kJ kS hr h_size h_vals tl), k235 x9 x10 tr_arr = some r → wAt p l e (rmk 5 5 24 97) s m av below meth c D A 13 0 0 Q 235 [] [(0, .ref to), (4, .ref tro), (6, .int x6), (7, .int x7), (8, .int x8), (9, .int x9), (10, .int x10)] ((wX6 to so ho xo po vo wo t_presentIsOld ++ (wX3 kI kJ so sa s_inputs s_remembered s_asks s_hours s_zeros s_ones s_alarms s_faults ++ (wX0 ho hr h_size ++ (wX4 kI kJ xo xa x_codes x_length ++ (wX1 kI kJ po pa p_bad p_codes p_rows p_size ++ (wX5 kI kJ vo va v_inputs v_undecidedPairs v_parts v_sharedParts v_partCares v_zeros v_ones v_undecided v_answers v_primeCounts v_sizes v_codes ++ (wX5 kI kJ wo wa w_inputs w_undecidedPairs w_parts w_sharedParts w_partCares w_zeros w_ones w_undecided w_answers w_primeCounts w_sizes w_codes ++ (wAI5 kI nno nn_arr ++ (wAI64 kI tro tr_arr))))))))) ++ tl))) (t_presentIsOld : Int32) (tl : va_W) (htl : TL kI kJ kS hr h_size h_vals tl), fL_changes_J290 x6 x7 x8 x9 x10 s0 s_inputs s_remembered s_asks s_hours s_zeros s_ones s_alarms s_faults h_size nn_arr tr_arr h_vals k235 = some r → wAt p l e (rmk 5 5 24 97) s m av below meth c D A 13 0 0 Q 290 [.int s0, .ref tro] [(0, .ref to), (4, .ref tro), (6, .int x6), (7, .int x7), (8, .int x8), (9, .int x9), (10, .int x10)] ((wX6 to so ho xo po vo wo t_presentIsOld ++ (wX3 kI kJ so sa s_inputs s_remembered s_asks s_hours s_zeros s_ones s_alarms s_faults ++ (wX0 ho hr h_size ++ (wX4 kI kJ xo xa x_codes x_length ++ (wX1 kI kJ po pa p_bad p_codes p_rows p_size ++ (wX5 kI kJ vo va v_inputs v_undecidedPairs v_parts v_sharedParts v_partCares v_zeros v_ones v_undecided v_answers v_primeCounts v_sizes v_codes ++ (wX5 kI kJ wo wa w_inputs w_undecidedPairs w_parts w_sharedParts w_partCares w_zeros w_ones w_undecided w_answers w_primeCounts w_sizes w_codes ++ (wAI5 kI nno nn_arr ++ (wAI64 kI tro tr_arr))))))))) ++ tl) := by
    intro x6 x7 x8 x9 x10 s0 s_zeros s_ones h_size nn_arr tr_arr h_vals k235 hk235 t_presentIsOld tl htl hrun H locs ls hP hD hS hl
    unfold fL_changes_J290 at hrun
    refine lv_iconst (v := 1) hx hb dL_changes_290 (by decide) ?_
    refine lv_goto (tgt := 307) hx hb dL_changes_291 (by decide) ?_
    exact c_J307 x6 x7 x8 x9 x10 1 s0 s_zeros s_ones h_size nn_arr tr_arr h_vals k235 hk235 t_presentIsOld _ htl hrun _ _ _ hP hD hS (lv_sub hl [0, 1, 2, 3, 4, 5, 6] rfl)
  have c_J332 : ∀ (x6 : Int32) (x7 : Int32) (x9 : Int32) (s_zeros : (Nat → Int64)) (s_ones : (Nat → Int64)) (h_size : Int32) (nn_arr : (Nat → Int32)) (tr_arr : (Nat → Int32)) (h_vals : (Nat → SV)) (t_presentIsOld : Int32) (tl : va_W) (htl : TL kI kJ kS hr h_size h_vals tl), fL_changes_J332 x6 x7 x9 s_inputs s_remembered s_asks s_hours s_zeros s_ones s_alarms s_faults h_size nn_arr tr_arr h_vals = some r → wAt p l e (rmk 5 5 24 97) s m av below meth c D A 13 0 0 Q 332 [] [(0, .ref to), (6, .int x6), (7, .int x7), (9, .int x9)] ((wX6 to so ho xo po vo wo t_presentIsOld ++ (wX3 kI kJ so sa s_inputs s_remembered s_asks s_hours s_zeros s_ones s_alarms s_faults ++ (wX0 ho hr h_size ++ (wX4 kI kJ xo xa x_codes x_length ++ (wX1 kI kJ po pa p_bad p_codes p_rows p_size ++ (wX5 kI kJ vo va v_inputs v_undecidedPairs v_parts v_sharedParts v_partCares v_zeros v_ones v_undecided v_answers v_primeCounts v_sizes v_codes ++ (wX5 kI kJ wo wa w_inputs w_undecidedPairs w_parts w_sharedParts w_partCares w_zeros w_ones w_undecided w_answers w_primeCounts w_sizes w_codes ++ (wAI5 kI nno nn_arr ++ (wAI64 kI tro tr_arr))))))))) ++ tl) := by
    intro x6 x7 x9 s_zeros s_ones h_size nn_arr tr_arr h_vals t_presentIsOld tl htl hrun H locs ls hP hD hS hl
    unfold fL_changes_J332 at hrun
    refine lv_aload_n hx hb dL_changes_332 rfl (lv_at hl 0 rfl) ?_
    refine lv_iload hx hb dL_changes_333 (lv_at hl 1 rfl) ?_
    refine lv_iload hx hb dL_changes_335 (lv_at hl 2 rfl) ?_
    obtain ⟨q_3, hq_3, hrun⟩ := sg_some hrun
    refine gI_callVT (As := [.int x6, .int x7]) (rest := []) (wr := (wAI5 kI nno nn_arr ++ (wAI64 kI tro tr_arr))) (wN := (wX6 to so ho xo po vo wo q_3.2.1 ++ (wX3 kI kJ so sa s_inputs s_remembered s_asks s_hours q_3.2.2.1 q_3.2.2.2.1 s_alarms s_faults ++ (wX0 ho hr q_3.2.2.2.2.1 ++ (wX4 kI kJ xo xa x_codes x_length ++ (wX1 kI kJ po pa p_bad p_codes p_rows p_size ++ (wX5 kI kJ vo va v_inputs v_undecidedPairs v_parts v_sharedParts v_partCares v_zeros v_ones v_undecided v_answers v_primeCounts v_sizes v_codes ++ (wX5 kI kJ wo wa w_inputs w_undecidedPairs w_parts w_sharedParts w_partCares w_zeros w_ones w_undecided w_answers w_primeCounts w_sizes w_codes ++ (wAI5 kI nno nn_arr ++ (wAI64 kI tro tr_arr)))))))))) (ci := 5) (q0 := 0) hE (n_X6_join l D kI kJ kS to so sa ho hr xo xa po pa vo va wo wa x6 x7 t_presentIsOld s_inputs s_remembered s_asks s_hours s_zeros s_ones s_alarms s_faults h_size x_codes x_length p_bad p_codes p_rows p_size v_inputs v_undecidedPairs v_parts v_sharedParts v_partCares v_zeros v_ones v_undecided v_answers v_primeCounts v_sizes v_codes w_inputs w_undecidedPairs w_parts w_sharedParts w_partCares w_zeros w_ones w_undecided w_answers w_primeCounts w_sizes w_codes h_vals htl hq_3) (cwV 2 hts gL_changes_X6_join rfl rfl rfl (by decide +kernel) ⟨Nat.le_of_ble_eq_true rfl, Nat.le_of_ble_eq_true rfl⟩) hP hD hS [0, 1, 2, 3, 4, 5, 6, 7, 8, 9, 10, 11, 12, 13, 14, 15, 16, 17, 18, 19, 20, 21, 22, 23, 24, 25, 26, 27, 28] [29, 30] [2, 3, 4, 5, 6, 7, 8, 9, 10, 11, 12, 13, 14, 15, 16, 17, 18, 19, 20, 21, 22, 23, 24, 25, 26, 27, 28, 29, 30, 0, 1] rfl rfl rfl rfl (by decide) rfl rfl rfl rfl rfl hl.1 rfl (Nat.le_of_ble_eq_true rfl) dL_changes_337 ⟨Nat.le_of_ble_eq_true rfl, Nat.le_of_ble_eq_true rfl⟩ (fun tl H locs htl hP hD hS => ?_)
    refine lv_iload hx hb dL_changes_340 (lv_at hl 3 rfl) ?_
    refine lv_icmp_ne (tgt := 349) hx hb dL_changes_342 (by decide) (fun hc => ?_) (fun hc => ?_)
    · have hrun := it_f hc hrun
      refine lv_iconst (v := 0) hx hb dL_changes_349 (by decide) ?_
      obtain rfl := Option.some.inj hrun
      exact hret _ _ _ _ _ (show narrow .boolean (.int 0) = .int 0 from rfl) htl dL_changes_350 hP hD hS
    · have hrun := it_t hc hrun
      refine lv_iconst (v := 1) hx hb dL_changes_345 (by decide) ?_
      refine lv_goto (tgt := 350) hx hb dL_changes_346 (by decide) ?_
      obtain rfl := Option.some.inj hrun
      exact hret _ _ _ _ _ (show narrow .boolean (.int 1) = .int 1 from rfl) htl dL_changes_350 hP hD hS
  have c_L235 : ∀ (x6 : Int32) (x7 : Int32) (x8 : Int32) (s_zeros : (Nat → Int64)) (s_ones : (Nat → Int64)) (h_size : Int32) (nn_arr : (Nat → Int32)) (h_vals : (Nat → SV)) (n : Nat) (x9 : Int32) (x10 : Int32) (tr_arr : (Nat → Int32)) (t_presentIsOld : Int32) (tl : va_W) (htl : TL kI kJ kS hr h_size h_vals tl), fL_changes_L235 x6 x7 x8 s_inputs s_remembered s_asks s_hours s_zeros s_ones s_alarms s_faults h_size nn_arr h_vals n x9 x10 tr_arr = some r → wAt p l e (rmk 5 5 24 97) s m av below meth c D A 13 0 0 Q 235 [] [(0, .ref to), (4, .ref tro), (6, .int x6), (7, .int x7), (8, .int x8), (9, .int x9), (10, .int x10)] ((wX6 to so ho xo po vo wo t_presentIsOld ++ (wX3 kI kJ so sa s_inputs s_remembered s_asks s_hours s_zeros s_ones s_alarms s_faults ++ (wX0 ho hr h_size ++ (wX4 kI kJ xo xa x_codes x_length ++ (wX1 kI kJ po pa p_bad p_codes p_rows p_size ++ (wX5 kI kJ vo va v_inputs v_undecidedPairs v_parts v_sharedParts v_partCares v_zeros v_ones v_undecided v_answers v_primeCounts v_sizes v_codes ++ (wX5 kI kJ wo wa w_inputs w_undecidedPairs w_parts w_sharedParts w_partCares w_zeros w_ones w_undecided w_answers w_primeCounts w_sizes w_codes ++ (wAI5 kI nno nn_arr ++ (wAI64 kI tro tr_arr))))))))) ++ tl) := by
    intro x6 x7 x8 s_zeros s_ones h_size nn_arr h_vals n
    induction n with
    | zero =>
      intro x9 x10 tr_arr t_presentIsOld tl htl hrun
      rw [fL_changes_L235] at hrun
      cases hrun
    | succ n ih =>
      intro x9 x10 tr_arr t_presentIsOld tl htl hrun H locs ls hP hD hS hl
      rw [fL_changes_L235] at hrun
      refine lv_iload hx hb dL_changes_235 (lv_at hl 6 rfl) ?_
      refine lv_iload hx hb dL_changes_237 (lv_at hl 4 rfl) ?_
      refine lv_icmp_ge (tgt := 332) hx hb dL_changes_239 (by decide) (fun hc => ?_) (fun hc => ?_)
      · have hrun := it_t hc hrun
        exact c_J332 x6 x7 x9 s_zeros s_ones h_size nn_arr tr_arr h_vals t_presentIsOld _ htl hrun _ _ _ hP hD hS (lv_sub hl [0, 2, 3, 5] rfl)
      · have hrun := it_f hc hrun
        refine lv_aload hx hb dL_changes_242 (lv_at hl 1 rfl) ?_
        refine lv_bipush (v := 16) hx hb dL_changes_244 (by decide) ?_
        refine lv_iload hx hb dL_changes_246 (lv_at hl 2 rfl) ?_
        refine lv_imul hx hb dL_changes_248 ?_
        refine lv_iload hx hb dL_changes_249 (lv_at hl 6 rfl) ?_
        refine lv_iadd hx hb dL_changes_251 ?_
        obtain ⟨hin, hrun⟩ := gd_some hrun
        refine va_iald hx hb hK hP 30 0 rfl rfl hin dL_changes_252 ?_
        refine lv_istore (lv' := [(11, .int (tr_arr ((16 * x6) + x10).toNatClampNeg)), (0, .ref to), (4, .ref tro), (6, .int x6), (7, .int x7), (8, .int x8), (9, .int x9), (10, .int x10)]) hx hb dL_changes_253 hl (by decide) rfl (fun ls hl => ?_)
        refine lv_aload hx hb dL_changes_255 (lv_at hl 2 rfl) ?_
        refine lv_bipush (v := 16) hx hb dL_changes_257 (by decide) ?_
        refine lv_iload hx hb dL_changes_259 (lv_at hl 4 rfl) ?_
        refine lv_imul hx hb dL_changes_261 ?_
        refine lv_iload hx hb dL_changes_262 (lv_at hl 7 rfl) ?_
        refine lv_iadd hx hb dL_changes_264 ?_
        obtain ⟨hin, hrun⟩ := gd_some hrun
        refine va_iald hx hb hK hP 30 0 rfl rfl hin dL_changes_265 ?_
        refine lv_istore (lv' := [(12, .int (tr_arr ((16 * x7) + x10).toNatClampNeg)), (11, .int (tr_arr ((16 * x6) + x10).toNatClampNeg)), (0, .ref to), (4, .ref tro), (6, .int x6), (7, .int x7), (8, .int x8), (9, .int x9), (10, .int x10)]) hx hb dL_changes_266 hl (by decide) rfl (fun ls hl => ?_)
        refine lv_aload hx hb dL_changes_268 (lv_at hl 3 rfl) ?_
        refine lv_bipush (v := 16) hx hb dL_changes_270 (by decide) ?_
        refine lv_iload hx hb dL_changes_272 (lv_at hl 4 rfl) ?_
        refine lv_imul hx hb dL_changes_274 ?_
        refine lv_iload hx hb dL_changes_275 (lv_at hl 8 rfl) ?_
        refine lv_iadd hx hb dL_changes_277 ?_
        refine lv_iload hx hb dL_changes_278 (lv_at hl 1 rfl) ?_
        refine lv_iconst (v := 1) hx hb dL_changes_280 (by decide) ?_
        refine lv_icmp_eq (tgt := 290) hx hb dL_changes_281 (by decide) (fun hc => ?_) (fun hc => ?_)
        · have hrun := it_t hc hrun
          exact c_J290 x6 x7 x8 x9 x10 ((16 * x6) + x10) s_zeros s_ones h_size nn_arr tr_arr h_vals (fL_changes_L235 x6 x7 x8 s_inputs s_remembered s_asks s_hours s_zeros s_ones s_alarms s_faults h_size nn_arr h_vals n) ih t_presentIsOld _ htl hrun _ _ _ hP hD hS (lv_sub hl [2, 3, 4, 5, 6, 7, 8] rfl)
        · have hrun := it_f hc hrun
          refine lv_iload hx hb dL_changes_284 (lv_at hl 0 rfl) ?_
          refine lv_iconst (v := 1) hx hb dL_changes_286 (by decide) ?_
          refine lv_icmp_ne (tgt := 294) hx hb dL_changes_287 (by decide) (fun hc => ?_) (fun hc => ?_)
          · have hrun := it_f hc hrun
            refine lv_iload hx hb dL_changes_294 (lv_at hl 1 rfl) ?_
            refine lv_iload hx hb dL_changes_296 (lv_at hl 0 rfl) ?_
            refine lv_iadd hx hb dL_changes_298 ?_
            refine lv_if_le (tgt := 306) hx hb dL_changes_299 (by decide) (fun hc => ?_) (fun hc => ?_)
            · have hrun := it_t hc hrun
              refine lv_iconst (v := 0) hx hb dL_changes_306 (by decide) ?_
              exact c_J307 x6 x7 x8 x9 x10 0 ((16 * x6) + x10) s_zeros s_ones h_size nn_arr tr_arr h_vals (fL_changes_L235 x6 x7 x8 s_inputs s_remembered s_asks s_hours s_zeros s_ones s_alarms s_faults h_size nn_arr h_vals n) ih t_presentIsOld _ htl hrun _ _ _ hP hD hS (lv_sub hl [2, 3, 4, 5, 6, 7, 8] rfl)
            · have hrun := it_f hc hrun
              refine lv_iconst (v := 2) hx hb dL_changes_302 (by decide) ?_
              refine lv_goto (tgt := 307) hx hb dL_changes_303 (by decide) ?_
              exact c_J307 x6 x7 x8 x9 x10 2 ((16 * x6) + x10) s_zeros s_ones h_size nn_arr tr_arr h_vals (fL_changes_L235 x6 x7 x8 s_inputs s_remembered s_asks s_hours s_zeros s_ones s_alarms s_faults h_size nn_arr h_vals n) ih t_presentIsOld _ htl hrun _ _ _ hP hD hS (lv_sub hl [2, 3, 4, 5, 6, 7, 8] rfl)
          · have hrun := it_t hc hrun
            exact c_J290 x6 x7 x8 x9 x10 ((16 * x6) + x10) s_zeros s_ones h_size nn_arr tr_arr h_vals (fL_changes_L235 x6 x7 x8 s_inputs s_remembered s_asks s_hours s_zeros s_ones s_alarms s_faults h_size nn_arr h_vals n) ih t_presentIsOld _ htl hrun _ _ _ hP hD hS (lv_sub hl [2, 3, 4, 5, 6, 7, 8] rfl)
  have c_J46 : ∀ (x2 : Int32) (x5 : Int32) (x6 : Int32) (x7 : Int32) (x8 : Int32) (s_zeros : (Nat → Int64)) (s_ones : (Nat → Int64)) (h_size : Int32) (nn_arr : (Nat → Int32)) (tr_arr : (Nat → Int32)) (h_vals : (Nat → SV)) (t_presentIsOld : Int32) (tl : va_W) (htl : TL kI kJ kS hr h_size h_vals tl), fL_changes_J46 x2 x5 x6 x7 x8 s_inputs s_remembered s_asks s_hours s_zeros s_ones s_alarms s_faults h_size nn_arr tr_arr h_vals = some r → wAt p l e (rmk 5 5 24 97) s m av below meth c D A 13 0 0 Q 46 [] [(0, .ref to), (2, .int x2), (4, .ref tro), (5, .int x5), (6, .int x6), (7, .int x7), (8, .int x8)] ((wX6 to so ho xo po vo wo t_presentIsOld ++ (wX3 kI kJ so sa s_inputs s_remembered s_asks s_hours s_zeros s_ones s_alarms s_faults ++ (wX0 ho hr h_size ++ (wX4 kI kJ xo xa x_codes x_length ++ (wX1 kI kJ po pa p_bad p_codes p_rows p_size ++ (wX5 kI kJ vo va v_inputs v_undecidedPairs v_parts v_sharedParts v_partCares v_zeros v_ones v_undecided v_answers v_primeCounts v_sizes v_codes ++ (wX5 kI kJ wo wa w_inputs w_undecidedPairs w_parts w_sharedParts w_partCares w_zeros w_ones w_undecided w_answers w_primeCounts w_sizes w_codes ++ (wAI5 kI nno nn_arr ++ (wAI64 kI tro tr_arr))))))))) ++ tl) := by
    intro x2 x5 x6 x7 x8 s_zeros s_ones h_size nn_arr tr_arr h_vals t_presentIsOld tl htl hrun H locs ls hP hD hS hl
    unfold fL_changes_J46 at hrun
    refine lv_iload hx hb dL_changes_46 (lv_at hl 3 rfl) ?_
    refine lv_bipush (v := 6) hx hb dL_changes_48 (by decide) ?_
    refine lv_icmp_ge (tgt := 125) hx hb dL_changes_50 (by decide) (fun hc => ?_) (fun hc => ?_)
    · have hrun := it_t hc hrun
      refine lv_iconst (v := 0) hx hb dL_changes_125 (by decide) ?_
      refine lv_istore (lv' := [(9, .int 0), (0, .ref to), (2, .int x2), (4, .ref tro), (5, .int x5), (6, .int x6), (7, .int x7), (8, .int x8)]) hx hb dL_changes_126 hl (by decide) rfl (fun ls hl => ?_)
      refine lv_iload hx hb dL_changes_128 (lv_at hl 4 rfl) ?_
      refine lv_bipush (v := 8) hx hb dL_changes_130 (by decide) ?_
      refine lv_icmp_lt (tgt := 142) hx hb dL_changes_132 (by decide) (fun hc => ?_) (fun hc => ?_)
      · have hrun := it_t hc hrun
        exact c_J142 x6 x8 0 s_zeros s_ones h_size nn_arr tr_arr h_vals t_presentIsOld _ htl hrun _ _ _ hP hD hS (lv_sub hl [1, 3, 5, 7, 0] rfl)
      · have hrun := it_f hc hrun
        refine lv_iload hx hb dL_changes_135 (lv_at hl 5 rfl) ?_
        refine lv_iload hx hb dL_changes_137 (lv_at hl 6 rfl) ?_
        refine lv_icmp_ne (tgt := 232) hx hb dL_changes_139 (by decide) (fun hc => ?_) (fun hc => ?_)
        · have hrun := it_f hc hrun
          refine lv_iconst (v := 0) hx hb dL_changes_232 (by decide) ?_
          refine lv_istore (lv' := [(10, .int 0), (9, .int 0), (0, .ref to), (2, .int x2), (4, .ref tro), (5, .int x5), (6, .int x6), (7, .int x7), (8, .int x8)]) hx hb dL_changes_233 hl (by decide) rfl (fun ls hl => ?_)
          exact c_L235 x6 x7 x8 s_zeros s_ones h_size nn_arr h_vals 5000 0 0 tr_arr t_presentIsOld _ htl hrun _ _ _ hP hD hS (lv_sub hl [2, 4, 6, 7, 8, 1, 0] rfl)
        · have hrun := it_t hc hrun
          exact c_J142 x6 x8 0 s_zeros s_ones h_size nn_arr tr_arr h_vals t_presentIsOld _ htl hrun _ _ _ hP hD hS (lv_sub hl [1, 3, 5, 7, 0] rfl)
    · have hrun := it_f hc hrun
      refine lv_iload_n hx hb dL_changes_53 rfl (lv_at hl 1 rfl) ?_
      refine lv_iconst (v := 4) hx hb dL_changes_54 (by decide) ?_
      refine lv_ishr hx hb dL_changes_55 ?_
      refine lv_iload hx hb dL_changes_56 (lv_at hl 6 rfl) ?_
      obtain ⟨q_4, hq_4, hrun⟩ := bd_some hrun
      refine cI_callST (As := [.int (x2 >>> ((4 : Int32) &&& 31)), .int x8]) (rest := []) (wr := (wX6 to so ho xo po vo wo t_presentIsOld ++ (wX3 kI kJ so sa s_inputs s_remembered s_asks s_hours s_zeros s_ones s_alarms s_faults ++ (wX0 ho hr h_size ++ (wX4 kI kJ xo xa x_codes x_length ++ (wX1 kI kJ po pa p_bad p_codes p_rows p_size ++ (wX5 kI kJ vo va v_inputs v_undecidedPairs v_parts v_sharedParts v_partCares v_zeros v_ones v_undecided v_answers v_primeCounts v_sizes v_codes ++ (wX5 kI kJ wo wa w_inputs w_undecidedPairs w_parts w_sharedParts w_partCares w_zeros w_ones w_undecided w_answers w_primeCounts w_sizes w_codes ++ (wAI5 kI nno nn_arr ++ (wAI64 kI tro tr_arr)))))))))) (wN := (wX6 to so ho xo po vo wo t_presentIsOld ++ (wX3 kI kJ so sa s_inputs s_remembered s_asks s_hours s_zeros s_ones s_alarms s_faults ++ (wX0 ho hr h_size ++ (wX4 kI kJ xo xa x_codes x_length ++ (wX1 kI kJ po pa p_bad p_codes p_rows p_size ++ (wX5 kI kJ vo va v_inputs v_undecidedPairs v_parts v_sharedParts v_partCares v_zeros v_ones v_undecided v_answers v_primeCounts v_sizes v_codes ++ (wX5 kI kJ wo wa w_inputs w_undecidedPairs w_parts w_sharedParts w_partCares w_zeros w_ones w_undecided w_answers w_primeCounts w_sizes w_codes ++ (wAI5 kI nno nn_arr ++ (wAI64 kI tro tr_arr)))))))))) (tl := tl) hE (c_L_at l D kI kJ kS (x2 >>> ((4 : Int32) &&& 31)) x8  hq_4) (va_cwS 2 hts gL_changes_L_at rfl rfl rfl (by decide +kernel) ⟨Nat.le_of_ble_eq_true rfl, Nat.le_of_ble_eq_true rfl⟩) hP hD hS [] [0, 1, 2, 3, 4, 5, 6, 7, 8, 9, 10, 11, 12, 13, 14, 15, 16, 17, 18, 19, 20, 21, 22, 23, 24, 25, 26, 27, 28, 29, 30] [0, 1, 2, 3, 4, 5, 6, 7, 8, 9, 10, 11, 12, 13, 14, 15, 16, 17, 18, 19, 20, 21, 22, 23, 24, 25, 26, 27, 28, 29, 30] rfl rfl rfl rfl (by decide) rfl rfl rfl hl.1 rfl (Nat.le_of_ble_eq_true rfl) dL_changes_58 ⟨Nat.le_of_ble_eq_true rfl, Nat.le_of_ble_eq_true rfl⟩ (fun H locs hP hD hS => ?_)
      refine lv_istore (lv' := [(9, .int q_4), (0, .ref to), (2, .int x2), (4, .ref tro), (5, .int x5), (6, .int x6), (7, .int x7), (8, .int x8)]) hx hb dL_changes_61 hl (by decide) rfl (fun ls hl => ?_)
      refine lv_aload hx hb dL_changes_63 (lv_at hl 3 rfl) ?_
      refine lv_bipush (v := 16) hx hb dL_changes_65 (by decide) ?_
      refine lv_iload hx hb dL_changes_67 (lv_at hl 5 rfl) ?_
      refine lv_imul hx hb dL_changes_69 ?_
      refine lv_iload hx hb dL_changes_70 (lv_at hl 0 rfl) ?_
      refine lv_iadd hx hb dL_changes_72 ?_
      obtain ⟨hin, hrun⟩ := gd_some hrun
      refine va_iald hx hb hK hP 30 0 rfl rfl hin dL_changes_73 ?_
      refine lv_istore (lv' := [(10, .int (tr_arr ((16 * x6) + q_4).toNatClampNeg)), (9, .int q_4), (0, .ref to), (2, .int x2), (4, .ref tro), (5, .int x5), (6, .int x6), (7, .int x7), (8, .int x8)]) hx hb dL_changes_74 hl (by decide) rfl (fun ls hl => ?_)
      refine lv_aload hx hb dL_changes_76 (lv_at hl 4 rfl) ?_
      refine lv_bipush (v := 16) hx hb dL_changes_78 (by decide) ?_
      refine lv_iload hx hb dL_changes_80 (lv_at hl 6 rfl) ?_
      refine lv_imul hx hb dL_changes_82 ?_
      refine lv_iload hx hb dL_changes_83 (lv_at hl 1 rfl) ?_
      refine lv_iadd hx hb dL_changes_85 ?_
      refine lv_iload_n hx hb dL_changes_86 rfl (lv_at hl 3 rfl) ?_
      refine lv_bipush (v := 9) hx hb dL_changes_87 (by decide) ?_
      refine lv_ishr hx hb dL_changes_89 ?_
      refine lv_iconst (v := 3) hx hb dL_changes_90 (by decide) ?_
      obtain ⟨q_5, hq_5, hrun⟩ := bd_some hrun
      refine cI_callST (As := [.int (x2 >>> ((9 : Int32) &&& 31)), .int 3]) (rest := [.int ((16 * x6) + q_4), .ref tro]) (wr := (wX6 to so ho xo po vo wo t_presentIsOld ++ (wX3 kI kJ so sa s_inputs s_remembered s_asks s_hours s_zeros s_ones s_alarms s_faults ++ (wX0 ho hr h_size ++ (wX4 kI kJ xo xa x_codes x_length ++ (wX1 kI kJ po pa p_bad p_codes p_rows p_size ++ (wX5 kI kJ vo va v_inputs v_undecidedPairs v_parts v_sharedParts v_partCares v_zeros v_ones v_undecided v_answers v_primeCounts v_sizes v_codes ++ (wX5 kI kJ wo wa w_inputs w_undecidedPairs w_parts w_sharedParts w_partCares w_zeros w_ones w_undecided w_answers w_primeCounts w_sizes w_codes ++ (wAI5 kI nno nn_arr ++ (wAI64 kI tro tr_arr)))))))))) (wN := (wX6 to so ho xo po vo wo t_presentIsOld ++ (wX3 kI kJ so sa s_inputs s_remembered s_asks s_hours s_zeros s_ones s_alarms s_faults ++ (wX0 ho hr h_size ++ (wX4 kI kJ xo xa x_codes x_length ++ (wX1 kI kJ po pa p_bad p_codes p_rows p_size ++ (wX5 kI kJ vo va v_inputs v_undecidedPairs v_parts v_sharedParts v_partCares v_zeros v_ones v_undecided v_answers v_primeCounts v_sizes v_codes ++ (wX5 kI kJ wo wa w_inputs w_undecidedPairs w_parts w_sharedParts w_partCares w_zeros w_ones w_undecided w_answers w_primeCounts w_sizes w_codes ++ (wAI5 kI nno nn_arr ++ (wAI64 kI tro tr_arr)))))))))) (tl := tl) hE (c_L_at l D kI kJ kS (x2 >>> ((9 : Int32) &&& 31)) 3  hq_5) (va_cwS 2 hts gL_changes_L_at rfl rfl rfl (by decide +kernel) ⟨Nat.le_of_ble_eq_true rfl, Nat.le_of_ble_eq_true rfl⟩) hP hD hS [] [0, 1, 2, 3, 4, 5, 6, 7, 8, 9, 10, 11, 12, 13, 14, 15, 16, 17, 18, 19, 20, 21, 22, 23, 24, 25, 26, 27, 28, 29, 30] [0, 1, 2, 3, 4, 5, 6, 7, 8, 9, 10, 11, 12, 13, 14, 15, 16, 17, 18, 19, 20, 21, 22, 23, 24, 25, 26, 27, 28, 29, 30] rfl rfl rfl rfl (by decide) rfl rfl rfl hl.1 rfl (Nat.le_of_ble_eq_true rfl) dL_changes_91 ⟨Nat.le_of_ble_eq_true rfl, Nat.le_of_ble_eq_true rfl⟩ (fun H locs hP hD hS => ?_)
      obtain ⟨hin, hrun⟩ := gd_some hrun
      refine va_iast hx hb hK hP hD hS 30 0 rfl rfl hin dL_changes_94 (fun H locs hP hD hS => ?_)
      have hP : va_P D vwCl ((wX6 to so ho xo po vo wo t_presentIsOld ++ (wX3 kI kJ so sa s_inputs s_remembered s_asks s_hours s_zeros s_ones s_alarms s_faults ++ (wX0 ho hr h_size ++ (wX4 kI kJ xo xa x_codes x_length ++ (wX1 kI kJ po pa p_bad p_codes p_rows p_size ++ (wX5 kI kJ vo va v_inputs v_undecidedPairs v_parts v_sharedParts v_partCares v_zeros v_ones v_undecided v_answers v_primeCounts v_sizes v_codes ++ (wX5 kI kJ wo wa w_inputs w_undecidedPairs w_parts w_sharedParts w_partCares w_zeros w_ones w_undecided w_answers w_primeCounts w_sizes w_codes ++ (wAI5 kI nno nn_arr ++ (wAI64 kI tro (upd tr_arr ((16 * x6) + q_4).toNatClampNeg q_5)))))))))) ++ tl) H := hP
      have hD : va_D A ((wX6 to so ho xo po vo wo t_presentIsOld ++ (wX3 kI kJ so sa s_inputs s_remembered s_asks s_hours s_zeros s_ones s_alarms s_faults ++ (wX0 ho hr h_size ++ (wX4 kI kJ xo xa x_codes x_length ++ (wX1 kI kJ po pa p_bad p_codes p_rows p_size ++ (wX5 kI kJ vo va v_inputs v_undecidedPairs v_parts v_sharedParts v_partCares v_zeros v_ones v_undecided v_answers v_primeCounts v_sizes v_codes ++ (wX5 kI kJ wo wa w_inputs w_undecidedPairs w_parts w_sharedParts w_partCares w_zeros w_ones w_undecided w_answers w_primeCounts w_sizes w_codes ++ (wAI5 kI nno nn_arr ++ (wAI64 kI tro (upd tr_arr ((16 * x6) + q_4).toNatClampNeg q_5)))))))))) ++ tl) := hD
      refine lv_aload_n hx hb dL_changes_95 rfl (lv_at hl 2 rfl) ?_
      refine lv_iload hx hb dL_changes_96 (lv_at hl 6 rfl) ?_
      refine lv_iload hx hb dL_changes_98 (lv_at hl 1 rfl) ?_
      refine lv_aload hx hb dL_changes_100 (lv_at hl 4 rfl) ?_
      refine lv_bipush (v := 16) hx hb dL_changes_102 (by decide) ?_
      refine lv_iload hx hb dL_changes_104 (lv_at hl 6 rfl) ?_
      refine lv_imul hx hb dL_changes_106 ?_
      refine lv_iload hx hb dL_changes_107 (lv_at hl 1 rfl) ?_
      refine lv_iadd hx hb dL_changes_109 ?_
      obtain ⟨hin, hrun⟩ := gd_some hrun
      refine va_iald hx hb hK hP 30 0 rfl rfl hin dL_changes_110 ?_
      obtain ⟨q_6, hq_6, hrun⟩ := sg_some hrun
      refine gI_callVT (As := [.int x6, .int q_4, .int ((upd tr_arr ((16 * x6) + q_4).toNatClampNeg q_5) ((16 * x6) + q_4).toNatClampNeg)]) (rest := []) (wr := (wAI5 kI nno nn_arr ++ (wAI64 kI tro (upd tr_arr ((16 * x6) + q_4).toNatClampNeg q_5)))) (wN := (wX6 to so ho xo po vo wo q_6.2.1 ++ (wX3 kI kJ so sa s_inputs s_remembered s_asks s_hours q_6.2.2.1 q_6.2.2.2.1 s_alarms s_faults ++ (wX0 ho hr q_6.2.2.2.2.1 ++ (wX4 kI kJ xo xa x_codes x_length ++ (wX1 kI kJ po pa p_bad p_codes p_rows p_size ++ (wX5 kI kJ vo va v_inputs v_undecidedPairs v_parts v_sharedParts v_partCares v_zeros v_ones v_undecided v_answers v_primeCounts v_sizes v_codes ++ (wX5 kI kJ wo wa w_inputs w_undecidedPairs w_parts w_sharedParts w_partCares w_zeros w_ones w_undecided w_answers w_primeCounts w_sizes w_codes ++ (wAI5 kI nno nn_arr ++ (wAI64 kI tro (upd tr_arr ((16 * x6) + q_4).toNatClampNeg q_5))))))))))) (ci := 5) (q0 := 0) hE (n_X6_set l D kI kJ kS to so sa ho hr xo xa po pa vo va wo wa x6 q_4 ((upd tr_arr ((16 * x6) + q_4).toNatClampNeg q_5) ((16 * x6) + q_4).toNatClampNeg) t_presentIsOld s_inputs s_remembered s_asks s_hours s_zeros s_ones s_alarms s_faults h_size x_codes x_length p_bad p_codes p_rows p_size v_inputs v_undecidedPairs v_parts v_sharedParts v_partCares v_zeros v_ones v_undecided v_answers v_primeCounts v_sizes v_codes w_inputs w_undecidedPairs w_parts w_sharedParts w_partCares w_zeros w_ones w_undecided w_answers w_primeCounts w_sizes w_codes h_vals htl hq_6) (cwV 3 hts gL_changes_X6_set rfl rfl rfl (by decide +kernel) ⟨Nat.le_of_ble_eq_true rfl, Nat.le_of_ble_eq_true rfl⟩) hP hD hS [0, 1, 2, 3, 4, 5, 6, 7, 8, 9, 10, 11, 12, 13, 14, 15, 16, 17, 18, 19, 20, 21, 22, 23, 24, 25, 26, 27, 28] [29, 30] [2, 3, 4, 5, 6, 7, 8, 9, 10, 11, 12, 13, 14, 15, 16, 17, 18, 19, 20, 21, 22, 23, 24, 25, 26, 27, 28, 29, 30, 0, 1] rfl rfl rfl rfl (by decide) rfl rfl rfl rfl rfl hl.1 rfl (Nat.le_of_ble_eq_true rfl) dL_changes_111 ⟨Nat.le_of_ble_eq_true rfl, Nat.le_of_ble_eq_true rfl⟩ (fun tl H locs htl hP hD hS => ?_)
      refine lv_iload hx hb dL_changes_114 (lv_at hl 0 rfl) ?_
      refine lv_icmp_ne (tgt := 123) hx hb dL_changes_116 (by decide) (fun hc => ?_) (fun hc => ?_)
      · have hrun := it_f hc hrun
        refine lv_iconst (v := 0) hx hb dL_changes_123 (by decide) ?_
        obtain rfl := Option.some.inj hrun
        exact hret _ _ _ _ _ (show narrow .boolean (.int 0) = .int 0 from rfl) htl dL_changes_124 hP hD hS
      · have hrun := it_t hc hrun
        refine lv_iconst (v := 1) hx hb dL_changes_119 (by decide) ?_
        refine lv_goto (tgt := 124) hx hb dL_changes_120 (by decide) ?_
        obtain rfl := Option.some.inj hrun
        exact hret _ _ _ _ _ (show narrow .boolean (.int 1) = .int 1 from rfl) htl dL_changes_124 hP hD hS
  unfold fL_changes at hrun
  refine lv_iload_n hx hb dL_changes_0 rfl (lv_at hl 1 rfl) ?_
  refine lv_bipush (v := 10) hx hb dL_changes_1 (by decide) ?_
  obtain ⟨q_7, hq_7, hrun⟩ := bd_some hrun
  refine cI_callST (As := [.int x1, .int 10]) (rest := []) (wr := (wX6 to so ho xo po vo wo t_presentIsOld ++ (wX3 kI kJ so sa s_inputs s_remembered s_asks s_hours s_zeros s_ones s_alarms s_faults ++ (wX0 ho hr h_size ++ (wX4 kI kJ xo xa x_codes x_length ++ (wX1 kI kJ po pa p_bad p_codes p_rows p_size ++ (wX5 kI kJ vo va v_inputs v_undecidedPairs v_parts v_sharedParts v_partCares v_zeros v_ones v_undecided v_answers v_primeCounts v_sizes v_codes ++ (wX5 kI kJ wo wa w_inputs w_undecidedPairs w_parts w_sharedParts w_partCares w_zeros w_ones w_undecided w_answers w_primeCounts w_sizes w_codes ++ (wAI5 kI nno nn_arr ++ (wAI64 kI tro tr_arr)))))))))) (wN := (wX6 to so ho xo po vo wo t_presentIsOld ++ (wX3 kI kJ so sa s_inputs s_remembered s_asks s_hours s_zeros s_ones s_alarms s_faults ++ (wX0 ho hr h_size ++ (wX4 kI kJ xo xa x_codes x_length ++ (wX1 kI kJ po pa p_bad p_codes p_rows p_size ++ (wX5 kI kJ vo va v_inputs v_undecidedPairs v_parts v_sharedParts v_partCares v_zeros v_ones v_undecided v_answers v_primeCounts v_sizes v_codes ++ (wX5 kI kJ wo wa w_inputs w_undecidedPairs w_parts w_sharedParts w_partCares w_zeros w_ones w_undecided w_answers w_primeCounts w_sizes w_codes ++ (wAI5 kI nno nn_arr ++ (wAI64 kI tro tr_arr)))))))))) (tl := tl) hE (c_L_at l D kI kJ kS x1 10  hq_7) (va_cwS 2 hts gL_changes_L_at rfl rfl rfl (by decide +kernel) ⟨Nat.le_of_ble_eq_true rfl, Nat.le_of_ble_eq_true rfl⟩) hP hD hS [] [0, 1, 2, 3, 4, 5, 6, 7, 8, 9, 10, 11, 12, 13, 14, 15, 16, 17, 18, 19, 20, 21, 22, 23, 24, 25, 26, 27, 28, 29, 30] [0, 1, 2, 3, 4, 5, 6, 7, 8, 9, 10, 11, 12, 13, 14, 15, 16, 17, 18, 19, 20, 21, 22, 23, 24, 25, 26, 27, 28, 29, 30] rfl rfl rfl rfl (by decide) rfl rfl rfl hl.1 rfl (Nat.le_of_ble_eq_true rfl) dL_changes_3 ⟨Nat.le_of_ble_eq_true rfl, Nat.le_of_ble_eq_true rfl⟩ (fun H locs hP hD hS => ?_)
  refine lv_istore (lv' := [(5, .int q_7), (0, .ref to), (1, .int x1), (2, .int x2), (3, .ref nno), (4, .ref tro)]) hx hb dL_changes_6 hl (by decide) rfl (fun ls hl => ?_)
  refine lv_iload_n hx hb dL_changes_8 rfl (lv_at hl 3 rfl) ?_
  refine lv_iconst (v := 4) hx hb dL_changes_9 (by decide) ?_
  obtain ⟨q_8, hq_8, hrun⟩ := bd_some hrun
  refine cI_callST (As := [.int x2, .int 4]) (rest := []) (wr := (wX6 to so ho xo po vo wo t_presentIsOld ++ (wX3 kI kJ so sa s_inputs s_remembered s_asks s_hours s_zeros s_ones s_alarms s_faults ++ (wX0 ho hr h_size ++ (wX4 kI kJ xo xa x_codes x_length ++ (wX1 kI kJ po pa p_bad p_codes p_rows p_size ++ (wX5 kI kJ vo va v_inputs v_undecidedPairs v_parts v_sharedParts v_partCares v_zeros v_ones v_undecided v_answers v_primeCounts v_sizes v_codes ++ (wX5 kI kJ wo wa w_inputs w_undecidedPairs w_parts w_sharedParts w_partCares w_zeros w_ones w_undecided w_answers w_primeCounts w_sizes w_codes ++ (wAI5 kI nno nn_arr ++ (wAI64 kI tro tr_arr)))))))))) (wN := (wX6 to so ho xo po vo wo t_presentIsOld ++ (wX3 kI kJ so sa s_inputs s_remembered s_asks s_hours s_zeros s_ones s_alarms s_faults ++ (wX0 ho hr h_size ++ (wX4 kI kJ xo xa x_codes x_length ++ (wX1 kI kJ po pa p_bad p_codes p_rows p_size ++ (wX5 kI kJ vo va v_inputs v_undecidedPairs v_parts v_sharedParts v_partCares v_zeros v_ones v_undecided v_answers v_primeCounts v_sizes v_codes ++ (wX5 kI kJ wo wa w_inputs w_undecidedPairs w_parts w_sharedParts w_partCares w_zeros w_ones w_undecided w_answers w_primeCounts w_sizes w_codes ++ (wAI5 kI nno nn_arr ++ (wAI64 kI tro tr_arr)))))))))) (tl := tl) hE (c_L_at l D kI kJ kS x2 4  hq_8) (va_cwS 2 hts gL_changes_L_at rfl rfl rfl (by decide +kernel) ⟨Nat.le_of_ble_eq_true rfl, Nat.le_of_ble_eq_true rfl⟩) hP hD hS [] [0, 1, 2, 3, 4, 5, 6, 7, 8, 9, 10, 11, 12, 13, 14, 15, 16, 17, 18, 19, 20, 21, 22, 23, 24, 25, 26, 27, 28, 29, 30] [0, 1, 2, 3, 4, 5, 6, 7, 8, 9, 10, 11, 12, 13, 14, 15, 16, 17, 18, 19, 20, 21, 22, 23, 24, 25, 26, 27, 28, 29, 30] rfl rfl rfl rfl (by decide) rfl rfl rfl hl.1 rfl (Nat.le_of_ble_eq_true rfl) dL_changes_10 ⟨Nat.le_of_ble_eq_true rfl, Nat.le_of_ble_eq_true rfl⟩ (fun H locs hP hD hS => ?_)
  refine lv_istore (lv' := [(6, .int q_8), (5, .int q_7), (0, .ref to), (1, .int x1), (2, .int x2), (3, .ref nno), (4, .ref tro)]) hx hb dL_changes_13 hl (by decide) rfl (fun ls hl => ?_)
  refine lv_iload_n hx hb dL_changes_15 rfl (lv_at hl 4 rfl) ?_
  refine lv_iconst (v := 2) hx hb dL_changes_16 (by decide) ?_
  refine lv_ishr hx hb dL_changes_17 ?_
  refine lv_iconst (v := 4) hx hb dL_changes_18 (by decide) ?_
  obtain ⟨q_9, hq_9, hrun⟩ := bd_some hrun
  refine cI_callST (As := [.int (x2 >>> ((2 : Int32) &&& 31)), .int 4]) (rest := []) (wr := (wX6 to so ho xo po vo wo t_presentIsOld ++ (wX3 kI kJ so sa s_inputs s_remembered s_asks s_hours s_zeros s_ones s_alarms s_faults ++ (wX0 ho hr h_size ++ (wX4 kI kJ xo xa x_codes x_length ++ (wX1 kI kJ po pa p_bad p_codes p_rows p_size ++ (wX5 kI kJ vo va v_inputs v_undecidedPairs v_parts v_sharedParts v_partCares v_zeros v_ones v_undecided v_answers v_primeCounts v_sizes v_codes ++ (wX5 kI kJ wo wa w_inputs w_undecidedPairs w_parts w_sharedParts w_partCares w_zeros w_ones w_undecided w_answers w_primeCounts w_sizes w_codes ++ (wAI5 kI nno nn_arr ++ (wAI64 kI tro tr_arr)))))))))) (wN := (wX6 to so ho xo po vo wo t_presentIsOld ++ (wX3 kI kJ so sa s_inputs s_remembered s_asks s_hours s_zeros s_ones s_alarms s_faults ++ (wX0 ho hr h_size ++ (wX4 kI kJ xo xa x_codes x_length ++ (wX1 kI kJ po pa p_bad p_codes p_rows p_size ++ (wX5 kI kJ vo va v_inputs v_undecidedPairs v_parts v_sharedParts v_partCares v_zeros v_ones v_undecided v_answers v_primeCounts v_sizes v_codes ++ (wX5 kI kJ wo wa w_inputs w_undecidedPairs w_parts w_sharedParts w_partCares w_zeros w_ones w_undecided w_answers w_primeCounts w_sizes w_codes ++ (wAI5 kI nno nn_arr ++ (wAI64 kI tro tr_arr)))))))))) (tl := tl) hE (c_L_at l D kI kJ kS (x2 >>> ((2 : Int32) &&& 31)) 4  hq_9) (va_cwS 2 hts gL_changes_L_at rfl rfl rfl (by decide +kernel) ⟨Nat.le_of_ble_eq_true rfl, Nat.le_of_ble_eq_true rfl⟩) hP hD hS [] [0, 1, 2, 3, 4, 5, 6, 7, 8, 9, 10, 11, 12, 13, 14, 15, 16, 17, 18, 19, 20, 21, 22, 23, 24, 25, 26, 27, 28, 29, 30] [0, 1, 2, 3, 4, 5, 6, 7, 8, 9, 10, 11, 12, 13, 14, 15, 16, 17, 18, 19, 20, 21, 22, 23, 24, 25, 26, 27, 28, 29, 30] rfl rfl rfl rfl (by decide) rfl rfl rfl hl.1 rfl (Nat.le_of_ble_eq_true rfl) dL_changes_19 ⟨Nat.le_of_ble_eq_true rfl, Nat.le_of_ble_eq_true rfl⟩ (fun H locs hP hD hS => ?_)
  refine lv_istore (lv' := [(7, .int q_9), (6, .int q_8), (5, .int q_7), (0, .ref to), (1, .int x1), (2, .int x2), (3, .ref nno), (4, .ref tro)]) hx hb dL_changes_22 hl (by decide) rfl (fun ls hl => ?_)
  refine lv_iconst (v := 1) hx hb dL_changes_24 (by decide) ?_
  refine lv_aload_n hx hb dL_changes_25 rfl (lv_at hl 6 rfl) ?_
  refine lv_iconst (v := 0) hx hb dL_changes_26 (by decide) ?_
  obtain ⟨hin, hrun⟩ := gd_some hrun
  refine va_iald hx hb hK hP 29 0 rfl rfl hin dL_changes_27 ?_
  refine lv_ishl hx hb dL_changes_28 ?_
  refine lv_topi (fun v_10 ev_10 => ?_)
  have hrun := lt_some ev_10 hrun
  refine lv_istore (lv' := [(8, .int v_10), (7, .int q_9), (6, .int q_8), (5, .int q_7), (0, .ref to), (1, .int x1), (2, .int x2), (3, .ref nno), (4, .ref tro)]) hx hb dL_changes_29 hl (by decide) rfl (fun ls hl => ?_)
  refine lv_aload_n hx hb dL_changes_31 rfl (lv_at hl 7 rfl) ?_
  refine lv_iconst (v := 4) hx hb dL_changes_32 (by decide) ?_
  obtain ⟨hin, hrun⟩ := gd_some hrun
  refine va_iald hx hb hK hP 29 0 rfl rfl hin dL_changes_33 ?_
  refine lv_bipush (v := 6) hx hb dL_changes_34 (by decide) ?_
  refine lv_icmp_ge (tgt := 46) hx hb dL_changes_36 (by decide) (fun hc => ?_) (fun hc => ?_)
  · have hrun := it_t hc hrun
    exact c_J46 x2 q_7 q_8 q_9 v_10 s_zeros s_ones h_size nn_arr tr_arr h_vals t_presentIsOld _ htl hrun _ _ _ hP hD hS (lv_sub hl [4, 6, 8, 3, 2, 1, 0] rfl)
  · have hrun := it_f hc hrun
    refine lv_aload_n hx hb dL_changes_39 rfl (lv_at hl 7 rfl) ?_
    refine lv_iconst (v := 4) hx hb dL_changes_40 (by decide) ?_
    refine lv_dup2_11 hx hb dL_changes_41 rfl rfl ?_
    obtain ⟨hin, hrun⟩ := gd_some hrun
    refine va_iald hx hb hK hP 29 0 rfl rfl hin dL_changes_42 ?_
    refine lv_iconst (v := 1) hx hb dL_changes_43 (by decide) ?_
    refine lv_iadd hx hb dL_changes_44 ?_
    obtain ⟨hin, hrun⟩ := gd_some hrun
    refine va_iast hx hb hK hP hD hS 29 0 rfl rfl hin dL_changes_45 (fun H locs hP hD hS => ?_)
    have hP : va_P D vwCl ((wX6 to so ho xo po vo wo t_presentIsOld ++ (wX3 kI kJ so sa s_inputs s_remembered s_asks s_hours s_zeros s_ones s_alarms s_faults ++ (wX0 ho hr h_size ++ (wX4 kI kJ xo xa x_codes x_length ++ (wX1 kI kJ po pa p_bad p_codes p_rows p_size ++ (wX5 kI kJ vo va v_inputs v_undecidedPairs v_parts v_sharedParts v_partCares v_zeros v_ones v_undecided v_answers v_primeCounts v_sizes v_codes ++ (wX5 kI kJ wo wa w_inputs w_undecidedPairs w_parts w_sharedParts w_partCares w_zeros w_ones w_undecided w_answers w_primeCounts w_sizes w_codes ++ (wAI5 kI nno (upd nn_arr ((4 : Int32)).toNatClampNeg ((nn_arr ((4 : Int32)).toNatClampNeg) + 1)) ++ (wAI64 kI tro tr_arr))))))))) ++ tl) H := hP
    have hD : va_D A ((wX6 to so ho xo po vo wo t_presentIsOld ++ (wX3 kI kJ so sa s_inputs s_remembered s_asks s_hours s_zeros s_ones s_alarms s_faults ++ (wX0 ho hr h_size ++ (wX4 kI kJ xo xa x_codes x_length ++ (wX1 kI kJ po pa p_bad p_codes p_rows p_size ++ (wX5 kI kJ vo va v_inputs v_undecidedPairs v_parts v_sharedParts v_partCares v_zeros v_ones v_undecided v_answers v_primeCounts v_sizes v_codes ++ (wX5 kI kJ wo wa w_inputs w_undecidedPairs w_parts w_sharedParts w_partCares w_zeros w_ones w_undecided w_answers w_primeCounts w_sizes w_codes ++ (wAI5 kI nno (upd nn_arr ((4 : Int32)).toNatClampNeg ((nn_arr ((4 : Int32)).toNatClampNeg) + 1)) ++ (wAI64 kI tro tr_arr))))))))) ++ tl) := hD
    obtain ⟨u_11, eu_11⟩ : ∃ y, y = upd nn_arr ((4 : Int32)).toNatClampNeg ((nn_arr ((4 : Int32)).toNatClampNeg) + 1) := ⟨_, rfl⟩
    have hrun := lt_some eu_11 hrun
    rw [← eu_11] at hP hD
    exact c_J46 x2 q_7 q_8 q_9 v_10 s_zeros s_ones h_size u_11 tr_arr h_vals t_presentIsOld _ htl hrun _ _ _ hP hD hS (lv_sub hl [4, 6, 8, 3, 2, 1, 0] rfl)
/-! ===== L_forgets ===== -/
set_option maxHeartbeats 4000000 in
set_option maxRecDepth 100000 in
theorem c_L_forgets (l : Launch) (D : va_G) (kI kJ kS : ClassId) (to : Nat) (so : Nat) (sa : Nat → Nat) (ho : Nat) (hr : Nat) (xo : Nat) (xa : Nat → Nat) (po : Nat) (pa : Nat → Nat) (vo : Nat) (va : Nat → Nat) (wo : Nat) (wa : Nat → Nat) (nno : Nat) (tro : Nat) (x1 : Int32) (x2 : Int32) (t_presentIsOld : Int32) (s_inputs : Int32) (s_remembered : Int32) (s_asks : Int32) (s_hours : Int32) (s_zeros : (Nat → Int64)) (s_ones : (Nat → Int64)) (s_alarms : (Nat → Int32)) (s_faults : (Nat → Int32)) (h_size : Int32) (x_codes : (Nat → Int32)) (x_length : Int32) (p_bad : (Nat → Int64)) (p_codes : (Nat → Int32)) (p_rows : (Nat → Int64)) (p_size : Int32) (v_inputs : Int32) (v_undecidedPairs : Int32) (v_parts : Int32) (v_sharedParts : Int32) (v_partCares : Int32) (v_zeros : (Nat → Int64)) (v_ones : (Nat → Int64)) (v_undecided : (Nat → Int64)) (v_answers : (Nat → Int64)) (v_primeCounts : (Nat → Int32)) (v_sizes : (Nat → Int32)) (v_codes : (Nat → Int32)) (w_inputs : Int32) (w_undecidedPairs : Int32) (w_parts : Int32) (w_sharedParts : Int32) (w_partCares : Int32) (w_zeros : (Nat → Int64)) (w_ones : (Nat → Int64)) (w_undecided : (Nat → Int64)) (w_answers : (Nat → Int64)) (w_primeCounts : (Nat → Int32)) (w_sizes : (Nat → Int32)) (w_codes : (Nat → Int32)) (nn_arr : (Nat → Int32)) (tr_arr : (Nat → Int32)) (h_vals : (Nat → SV)) {tl : va_W} (htl : TL kI kJ kS hr h_size h_vals tl) {r : Int32 × Int32 × Int32 × Int32 × Int32 × (Nat → Int32) × (Nat → SV)} (hrun : fL_forgets s_inputs s_remembered s_asks s_hours s_zeros s_ones s_alarms s_faults h_size nn_arr tr_arr h_vals x1 x2 = some r) : gI l D (tyL kI kJ kS) yL_forgets wsL_forgets (rmk 5 5 24 99) [.ref to, .int x1, .int x2, .ref nno, .ref tro] ((wX6 to so ho xo po vo wo t_presentIsOld ++ (wX3 kI kJ so sa s_inputs s_remembered s_asks s_hours s_zeros s_ones s_alarms s_faults ++ (wX0 ho hr h_size ++ (wX4 kI kJ xo xa x_codes x_length ++ (wX1 kI kJ po pa p_bad p_codes p_rows p_size ++ (wX5 kI kJ vo va v_inputs v_undecidedPairs v_parts v_sharedParts v_partCares v_zeros v_ones v_undecided v_answers v_primeCounts v_sizes v_codes ++ (wX5 kI kJ wo wa w_inputs w_undecidedPairs w_parts w_sharedParts w_partCares w_zeros w_ones w_undecided w_answers w_primeCounts w_sizes w_codes ++ (wAI5 kI nno nn_arr ++ (wAI64 kI tro tr_arr))))))))) ++ tl) (wX6 to so ho xo po vo wo r.2.1 ++ (wX3 kI kJ so sa s_inputs r.2.2.1 s_asks r.2.2.2.1 s_zeros s_ones s_alarms s_faults ++ (wX0 ho hr r.2.2.2.2.1 ++ (wX4 kI kJ xo xa x_codes x_length ++ (wX1 kI kJ po pa p_bad p_codes p_rows p_size ++ (wX5 kI kJ vo va v_inputs v_undecidedPairs v_parts v_sharedParts v_partCares v_zeros v_ones v_undecided v_answers v_primeCounts v_sizes v_codes ++ (wX5 kI kJ wo wa w_inputs w_undecidedPairs w_parts w_sharedParts w_partCares w_zeros w_ones w_undecided w_answers w_primeCounts w_sizes w_codes ++ (wAI5 kI nno r.2.2.2.2.2.1 ++ (wAI64 kI tro tr_arr))))))))) (TL kI kJ kS hr r.2.2.2.2.1 r.2.2.2.2.2.2) r.1 := by
  refine gI_of (cc := cL_forgets) (maxL := 12) (by decide) rfl (Nat.le_of_ble_eq_true rfl) ?_
  intro p e s m av below meth c A Q ls hE hP hD hS hl hret
  have hE : ent_ p s m av meth c RL cL_forgets 12 (some .boolean) wsL_forgets (tyL kI kJ kS) D A true := hE
  obtain ⟨hx, hb, hml, hown, hts, hrt, hlocks, hK, hA, hst⟩ := id hE
  have hl : lv_has ls 12 [(0, .ref to), (1, .int x1), (2, .int x2), (3, .ref nno), (4, .ref tro)] := hl
  obtain ⟨⟨⟨tW, hZ, hT⟩, hU1, hU2⟩, hnk⟩ := hst rfl
  have c_J127 : ∀ (x6 : Int32) (x7 : Int32) (x8 : Int32) (x9 : Int32) (x10 : Int32) (s_remembered : Int32) (s_hours : Int32) (h_size : Int32) (nn_arr : (Nat → Int32)) (h_vals : (Nat → SV)) (k72 : Int32 → Int32 → Int32 → Option (Int32 × Int32 × Int32 × Int32 × Int32 × (Nat → Int32) × (Nat → SV))) (hk72 : (∀ (x8 : Int32) (x9 : Int32) (x10 : Int32) (t_presentIsOld : Int32) (tl : va_W) (htl : TL kI kJ kS hr h_size h_vals tl), k72 x8 x9 x10 = some r → wAt p l e (rmk 5 5 24 99) s m av below meth c D A 12 0 0 Q 72 [] [(0, .ref to), (3, .ref nno), (4, .ref tro), (6, .int x6), (7, .int x7), (8, .int x8), (9, .int x9), (10, .int x10)] ((wX6 to so ho xo po vo wo t_presentIsOld ++ (wX3 kI kJ so sa s_inputs s_remembered s_asks s_hours s_zeros s_ones s_alarms s_faults ++ (wX0 ho hr h_size ++ (wX4 kI kJ xo xa x_codes x_length ++ (wX1 kI kJ po pa p_bad p_codes p_rows p_size ++ (wX5 kI kJ vo va v_inputs v_undecidedPairs v_parts v_sharedParts v_partCares v_zeros v_ones v_undecided v_answers v_primeCounts v_sizes v_codes ++ (wX5 kI kJ wo wa w_inputs w_undecidedPairs w_parts w_sharedParts w_partCares w_zeros w_ones w_undecided w_answers w_primeCounts w_sizes w_codes ++ (wAI5 kI nno nn_arr ++ (wAI64 kI tro tr_arr))))))))) ++ tl))) (t_presentIsOld : Int32) (tl : va_W) (htl : TL kI kJ kS hr h_size h_vals tl), fL_forgets_J127 x6 x7 x8 x9 x10 s_inputs s_remembered s_asks s_hours s_zeros s_ones s_alarms s_faults h_size nn_arr tr_arr h_vals k72 = some r → wAt p l e (rmk 5 5 24 99) s m av below meth c D A 12 0 0 Q 127 [] [(0, .ref to), (3, .ref nno), (4, .ref tro), (6, .int x6), (7, .int x7), (8, .int x8), (9, .int x9), (10, .int x10)] ((wX6 to so ho xo po vo wo t_presentIsOld ++ (wX3 kI kJ so sa s_inputs s_remembered s_asks s_hours s_zeros s_ones s_alarms s_faults ++ (wX0 ho hr h_size ++ (wX4 kI kJ xo xa x_codes x_length ++ (wX1 kI kJ po pa p_bad p_codes p_rows p_size ++ (wX5 kI kJ vo va v_inputs v_undecidedPairs v_parts v_sharedParts v_partCares v_zeros v_ones v_undecided v_answers v_primeCounts v_sizes v_codes ++ (wX5 kI kJ wo wa w_inputs w_undecidedPairs w_parts w_sharedParts w_partCares w_zeros w_ones w_undecided w_answers w_primeCounts w_sizes w_codes ++ (wAI5 kI nno nn_arr ++ (wAI64 kI tro tr_arr))))))))) ++ tl) := by
    intro x6 x7 x8 x9 x10 s_remembered s_hours h_size nn_arr h_vals k72 hk72 t_presentIsOld tl htl hrun H locs ls hP hD hS hl
    unfold fL_forgets_J127 at hrun
    refine lv_iinc (v := x10 + (-1)) (lv' := [(10, .int (x10 + (-1))), (0, .ref to), (3, .ref nno), (4, .ref tro), (6, .int x6), (7, .int x7), (8, .int x8), (9, .int x9)]) hx hb dL_forgets_127 hl (k := 7) rfl rfl (by decide) rfl (fun ls hl => ?_)
    refine lv_goto (tgt := 72) hx hb dL_forgets_130 (by decide) ?_
    exact hk72 x8 x9 (x10 + (-1)) t_presentIsOld _ htl hrun _ _ _ hP hD hS (lv_sub hl [1, 2, 3, 4, 5, 6, 7, 0] rfl)
  have c_J119 : ∀ (x6 : Int32) (x7 : Int32) (x10 : Int32) (x11 : Int32) (s_remembered : Int32) (s_hours : Int32) (h_size : Int32) (nn_arr : (Nat → Int32)) (h_vals : (Nat → SV)) (k72 : Int32 → Int32 → Int32 → Option (Int32 × Int32 × Int32 × Int32 × Int32 × (Nat → Int32) × (Nat → SV))) (hk72 : (∀ (x8 : Int32) (x9 : Int32) (x10 : Int32) (t_presentIsOld : Int32) (tl : va_W) (htl : TL kI kJ kS hr h_size h_vals tl), k72 x8 x9 x10 = some r → wAt p l e (rmk 5 5 24 99) s m av below meth c D A 12 0 0 Q 72 [] [(0, .ref to), (3, .ref nno), (4, .ref tro), (6, .int x6), (7, .int x7), (8, .int x8), (9, .int x9), (10, .int x10)] ((wX6 to so ho xo po vo wo t_presentIsOld ++ (wX3 kI kJ so sa s_inputs s_remembered s_asks s_hours s_zeros s_ones s_alarms s_faults ++ (wX0 ho hr h_size ++ (wX4 kI kJ xo xa x_codes x_length ++ (wX1 kI kJ po pa p_bad p_codes p_rows p_size ++ (wX5 kI kJ vo va v_inputs v_undecidedPairs v_parts v_sharedParts v_partCares v_zeros v_ones v_undecided v_answers v_primeCounts v_sizes v_codes ++ (wX5 kI kJ wo wa w_inputs w_undecidedPairs w_parts w_sharedParts w_partCares w_zeros w_ones w_undecided w_answers w_primeCounts w_sizes w_codes ++ (wAI5 kI nno nn_arr ++ (wAI64 kI tro tr_arr))))))))) ++ tl))) (t_presentIsOld : Int32) (tl : va_W) (htl : TL kI kJ kS hr h_size h_vals tl), fL_forgets_J119 x6 x7 x10 x11 s_inputs s_remembered s_asks s_hours s_zeros s_ones s_alarms s_faults h_size nn_arr tr_arr h_vals k72 = some r → wAt p l e (rmk 5 5 24 99) s m av below meth c D A 12 0 0 Q 119 [] [(0, .ref to), (3, .ref nno), (4, .ref tro), (6, .int x6), (7, .int x7), (10, .int x10), (11, .int x11)] ((wX6 to so ho xo po vo wo t_presentIsOld ++ (wX3 kI kJ so sa s_inputs s_remembered s_asks s_hours s_zeros s_ones s_alarms s_faults ++ (wX0 ho hr h_size ++ (wX4 kI kJ xo xa x_codes x_length ++ (wX1 kI kJ po pa p_bad p_codes p_rows p_size ++ (wX5 kI kJ vo va v_inputs v_undecidedPairs v_parts v_sharedParts v_partCares v_zeros v_ones v_undecided v_answers v_primeCounts v_sizes v_codes ++ (wX5 kI kJ wo wa w_inputs w_undecidedPairs w_parts w_sharedParts w_partCares w_zeros w_ones w_undecided w_answers w_primeCounts w_sizes w_codes ++ (wAI5 kI nno nn_arr ++ (wAI64 kI tro tr_arr))))))))) ++ tl) := by
    intro x6 x7 x10 x11 s_remembered s_hours h_size nn_arr h_vals k72 hk72 t_presentIsOld tl htl hrun H locs ls hP hD hS hl
    unfold fL_forgets_J119 at hrun
    refine lv_iload hx hb dL_forgets_119 (lv_at hl 5 rfl) ?_
    refine lv_istore (lv' := [(8, .int x10), (0, .ref to), (3, .ref nno), (4, .ref tro), (6, .int x6), (7, .int x7), (10, .int x10), (11, .int x11)]) hx hb dL_forgets_121 hl (by decide) rfl (fun ls hl => ?_)
    refine lv_iload hx hb dL_forgets_123 (lv_at hl 7 rfl) ?_
    refine lv_istore (lv' := [(9, .int x11), (8, .int x10), (0, .ref to), (3, .ref nno), (4, .ref tro), (6, .int x6), (7, .int x7), (10, .int x10), (11, .int x11)]) hx hb dL_forgets_125 hl (by decide) rfl (fun ls hl => ?_)
    exact c_J127 x6 x7 x10 x11 x10 s_remembered s_hours h_size nn_arr h_vals k72 hk72 t_presentIsOld _ htl hrun _ _ _ hP hD hS (lv_sub hl [2, 3, 4, 5, 6, 1, 0, 7] rfl)
  have c_J133 : ∀ (x6 : Int32) (x7 : Int32) (x8 : Int32) (s_remembered : Int32) (s_hours : Int32) (h_size : Int32) (nn_arr : (Nat → Int32)) (h_vals : (Nat → SV)) (k46 : Int32 → (Nat → Int32) → Option (Int32 × Int32 × Int32 × Int32 × Int32 × (Nat → Int32) × (Nat → SV))) (hk46 : (∀ (x7 : Int32) (nn_arr : (Nat → Int32)) (t_presentIsOld : Int32) (tl : va_W) (htl : TL kI kJ kS hr h_size h_vals tl), k46 x7 nn_arr = some r → wAt p l e (rmk 5 5 24 99) s m av below meth c D A 12 0 0 Q 46 [] [(0, .ref to), (3, .ref nno), (4, .ref tro), (6, .int x6), (7, .int x7)] ((wX6 to so ho xo po vo wo t_presentIsOld ++ (wX3 kI kJ so sa s_inputs s_remembered s_asks s_hours s_zeros s_ones s_alarms s_faults ++ (wX0 ho hr h_size ++ (wX4 kI kJ xo xa x_codes x_length ++ (wX1 kI kJ po pa p_bad p_codes p_rows p_size ++ (wX5 kI kJ vo va v_inputs v_undecidedPairs v_parts v_sharedParts v_partCares v_zeros v_ones v_undecided v_answers v_primeCounts v_sizes v_codes ++ (wX5 kI kJ wo wa w_inputs w_undecidedPairs w_parts w_sharedParts w_partCares w_zeros w_ones w_undecided w_answers w_primeCounts w_sizes w_codes ++ (wAI5 kI nno nn_arr ++ (wAI64 kI tro tr_arr))))))))) ++ tl))) (t_presentIsOld : Int32) (tl : va_W) (htl : TL kI kJ kS hr h_size h_vals tl), fL_forgets_J133 x6 x7 x8 s_inputs s_remembered s_asks s_hours s_zeros s_ones s_alarms s_faults h_size nn_arr tr_arr h_vals k46 = some r → wAt p l e (rmk 5 5 24 99) s m av below meth c D A 12 0 0 Q 133 [] [(0, .ref to), (3, .ref nno), (4, .ref tro), (6, .int x6), (7, .int x7), (8, .int x8)] ((wX6 to so ho xo po vo wo t_presentIsOld ++ (wX3 kI kJ so sa s_inputs s_remembered s_asks s_hours s_zeros s_ones s_alarms s_faults ++ (wX0 ho hr h_size ++ (wX4 kI kJ xo xa x_codes x_length ++ (wX1 kI kJ po pa p_bad p_codes p_rows p_size ++ (wX5 kI kJ vo va v_inputs v_undecidedPairs v_parts v_sharedParts v_partCares v_zeros v_ones v_undecided v_answers v_primeCounts v_sizes v_codes ++ (wX5 kI kJ wo wa w_inputs w_undecidedPairs w_parts w_sharedParts w_partCares w_zeros w_ones w_undecided w_answers w_primeCounts w_sizes w_codes ++ (wAI5 kI nno nn_arr ++ (wAI64 kI tro tr_arr))))))))) ++ tl) := by
    intro x6 x7 x8 s_remembered s_hours h_size nn_arr h_vals k46 hk46 t_presentIsOld tl htl hrun H locs ls hP hD hS hl
    unfold fL_forgets_J133 at hrun
    refine lv_aload_n hx hb dL_forgets_133 rfl (lv_at hl 1 rfl) ?_
    refine lv_iconst (v := 1) hx hb dL_forgets_134 (by decide) ?_
    refine lv_dup2_11 hx hb dL_forgets_135 rfl rfl ?_
    obtain ⟨hin, hrun⟩ := gd_some hrun
    refine va_iald hx hb hK hP 29 0 rfl rfl hin dL_forgets_136 ?_
    refine lv_iconst (v := 1) hx hb dL_forgets_137 (by decide) ?_
    refine lv_iload hx hb dL_forgets_138 (lv_at hl 5 rfl) ?_
    refine lv_ishl hx hb dL_forgets_140 ?_
    refine lv_iconst (v := (-1)) hx hb dL_forgets_141 (by decide) ?_
    refine lv_ixor hx hb dL_forgets_142 ?_
    refine lv_iand hx hb dL_forgets_143 ?_
    obtain ⟨hin, hrun⟩ := gd_some hrun
    refine va_iast hx hb hK hP hD hS 29 0 rfl rfl hin dL_forgets_144 (fun H locs hP hD hS => ?_)
    have hP : va_P D vwCl ((wX6 to so ho xo po vo wo t_presentIsOld ++ (wX3 kI kJ so sa s_inputs s_remembered s_asks s_hours s_zeros s_ones s_alarms s_faults ++ (wX0 ho hr h_size ++ (wX4 kI kJ xo xa x_codes x_length ++ (wX1 kI kJ po pa p_bad p_codes p_rows p_size ++ (wX5 kI kJ vo va v_inputs v_undecidedPairs v_parts v_sharedParts v_partCares v_zeros v_ones v_undecided v_answers v_primeCounts v_sizes v_codes ++ (wX5 kI kJ wo wa w_inputs w_undecidedPairs w_parts w_sharedParts w_partCares w_zeros w_ones w_undecided w_answers w_primeCounts w_sizes w_codes ++ (wAI5 kI nno (upd nn_arr ((1 : Int32)).toNatClampNeg ((nn_arr ((1 : Int32)).toNatClampNeg) &&& (((1 : Int32) <<< (x8 &&& 31)) ^^^ ((-1))))) ++ (wAI64 kI tro tr_arr))))))))) ++ tl) H := hP
    have hD : va_D A ((wX6 to so ho xo po vo wo t_presentIsOld ++ (wX3 kI kJ so sa s_inputs s_remembered s_asks s_hours s_zeros s_ones s_alarms s_faults ++ (wX0 ho hr h_size ++ (wX4 kI kJ xo xa x_codes x_length ++ (wX1 kI kJ po pa p_bad p_codes p_rows p_size ++ (wX5 kI kJ vo va v_inputs v_undecidedPairs v_parts v_sharedParts v_partCares v_zeros v_ones v_undecided v_answers v_primeCounts v_sizes v_codes ++ (wX5 kI kJ wo wa w_inputs w_undecidedPairs w_parts w_sharedParts w_partCares w_zeros w_ones w_undecided w_answers w_primeCounts w_sizes w_codes ++ (wAI5 kI nno (upd nn_arr ((1 : Int32)).toNatClampNeg ((nn_arr ((1 : Int32)).toNatClampNeg) &&& (((1 : Int32) <<< (x8 &&& 31)) ^^^ ((-1))))) ++ (wAI64 kI tro tr_arr))))))))) ++ tl) := hD
    obtain ⟨u_1, eu_1⟩ : ∃ y, y = upd nn_arr ((1 : Int32)).toNatClampNeg ((nn_arr ((1 : Int32)).toNatClampNeg) &&& (((1 : Int32) <<< (x8 &&& 31)) ^^^ ((-1)))) := ⟨_, rfl⟩
    have hrun := lt_some eu_1 hrun
    rw [← eu_1] at hP hD
    refine lv_aload_n hx hb dL_forgets_145 rfl (lv_at hl 1 rfl) ?_
    refine lv_iconst (v := 3) hx hb dL_forgets_146 (by decide) ?_
    refine lv_dup2_11 hx hb dL_forgets_147 rfl rfl ?_
    obtain ⟨hin, hrun⟩ := gd_some hrun
    refine va_iald hx hb hK hP 29 0 rfl rfl hin dL_forgets_148 ?_
    refine lv_iconst (v := 1) hx hb dL_forgets_149 (by decide) ?_
    refine lv_iadd hx hb dL_forgets_150 ?_
    obtain ⟨hin, hrun⟩ := gd_some hrun
    refine va_iast hx hb hK hP hD hS 29 0 rfl rfl hin dL_forgets_151 (fun H locs hP hD hS => ?_)
    have hP : va_P D vwCl ((wX6 to so ho xo po vo wo t_presentIsOld ++ (wX3 kI kJ so sa s_inputs s_remembered s_asks s_hours s_zeros s_ones s_alarms s_faults ++ (wX0 ho hr h_size ++ (wX4 kI kJ xo xa x_codes x_length ++ (wX1 kI kJ po pa p_bad p_codes p_rows p_size ++ (wX5 kI kJ vo va v_inputs v_undecidedPairs v_parts v_sharedParts v_partCares v_zeros v_ones v_undecided v_answers v_primeCounts v_sizes v_codes ++ (wX5 kI kJ wo wa w_inputs w_undecidedPairs w_parts w_sharedParts w_partCares w_zeros w_ones w_undecided w_answers w_primeCounts w_sizes w_codes ++ (wAI5 kI nno (upd u_1 ((3 : Int32)).toNatClampNeg ((u_1 ((3 : Int32)).toNatClampNeg) + 1)) ++ (wAI64 kI tro tr_arr))))))))) ++ tl) H := hP
    have hD : va_D A ((wX6 to so ho xo po vo wo t_presentIsOld ++ (wX3 kI kJ so sa s_inputs s_remembered s_asks s_hours s_zeros s_ones s_alarms s_faults ++ (wX0 ho hr h_size ++ (wX4 kI kJ xo xa x_codes x_length ++ (wX1 kI kJ po pa p_bad p_codes p_rows p_size ++ (wX5 kI kJ vo va v_inputs v_undecidedPairs v_parts v_sharedParts v_partCares v_zeros v_ones v_undecided v_answers v_primeCounts v_sizes v_codes ++ (wX5 kI kJ wo wa w_inputs w_undecidedPairs w_parts w_sharedParts w_partCares w_zeros w_ones w_undecided w_answers w_primeCounts w_sizes w_codes ++ (wAI5 kI nno (upd u_1 ((3 : Int32)).toNatClampNeg ((u_1 ((3 : Int32)).toNatClampNeg) + 1)) ++ (wAI64 kI tro tr_arr))))))))) ++ tl) := hD
    obtain ⟨u_2, eu_2⟩ : ∃ y, y = upd u_1 ((3 : Int32)).toNatClampNeg ((u_1 ((3 : Int32)).toNatClampNeg) + 1) := ⟨_, rfl⟩
    have hrun := lt_some eu_2 hrun
    rw [← eu_2] at hP hD
    refine lv_iinc (v := x7 + 1) (lv' := [(7, .int (x7 + 1)), (0, .ref to), (3, .ref nno), (4, .ref tro), (6, .int x6), (8, .int x8)]) hx hb dL_forgets_152 hl (k := 4) rfl rfl (by decide) rfl (fun ls hl => ?_)
    refine lv_goto (tgt := 46) hx hb dL_forgets_155 (by decide) ?_
    exact hk46 (x7 + 1) u_2 t_presentIsOld _ htl hrun _ _ _ hP hD hS (lv_sub hl [1, 2, 3, 4, 0] rfl)
  have c_L72 : ∀ (x6 : Int32) (x7 : Int32) (s_remembered : Int32) (s_hours : Int32) (h_size : Int32) (nn_arr : (Nat → Int32)) (h_vals : (Nat → SV)) (k46 : Int32 → (Nat → Int32) → Option (Int32 × Int32 × Int32 × Int32 × Int32 × (Nat → Int32) × (Nat → SV))) (hk46 : (∀ (x7 : Int32) (nn_arr : (Nat → Int32)) (t_presentIsOld : Int32) (tl : va_W) (htl : TL kI kJ kS hr h_size h_vals tl), k46 x7 nn_arr = some r → wAt p l e (rmk 5 5 24 99) s m av below meth c D A 12 0 0 Q 46 [] [(0, .ref to), (3, .ref nno), (4, .ref tro), (6, .int x6), (7, .int x7)] ((wX6 to so ho xo po vo wo t_presentIsOld ++ (wX3 kI kJ so sa s_inputs s_remembered s_asks s_hours s_zeros s_ones s_alarms s_faults ++ (wX0 ho hr h_size ++ (wX4 kI kJ xo xa x_codes x_length ++ (wX1 kI kJ po pa p_bad p_codes p_rows p_size ++ (wX5 kI kJ vo va v_inputs v_undecidedPairs v_parts v_sharedParts v_partCares v_zeros v_ones v_undecided v_answers v_primeCounts v_sizes v_codes ++ (wX5 kI kJ wo wa w_inputs w_undecidedPairs w_parts w_sharedParts w_partCares w_zeros w_ones w_undecided w_answers w_primeCounts w_sizes w_codes ++ (wAI5 kI nno nn_arr ++ (wAI64 kI tro tr_arr))))))))) ++ tl))) (n : Nat) (x8 : Int32) (x9 : Int32) (x10 : Int32) (t_presentIsOld : Int32) (tl : va_W) (htl : TL kI kJ kS hr h_size h_vals tl), fL_forgets_L72 x6 x7 s_inputs s_remembered s_asks s_hours s_zeros s_ones s_alarms s_faults h_size nn_arr tr_arr h_vals k46 n x8 x9 x10 = some r → wAt p l e (rmk 5 5 24 99) s m av below meth c D A 12 0 0 Q 72 [] [(0, .ref to), (3, .ref nno), (4, .ref tro), (6, .int x6), (7, .int x7), (8, .int x8), (9, .int x9), (10, .int x10)] ((wX6 to so ho xo po vo wo t_presentIsOld ++ (wX3 kI kJ so sa s_inputs s_remembered s_asks s_hours s_zeros s_ones s_alarms s_faults ++ (wX0 ho hr h_size ++ (wX4 kI kJ xo xa x_codes x_length ++ (wX1 kI kJ po pa p_bad p_codes p_rows p_size ++ (wX5 kI kJ vo va v_inputs v_undecidedPairs v_parts v_sharedParts v_partCares v_zeros v_ones v_undecided v_answers v_primeCounts v_sizes v_codes ++ (wX5 kI kJ wo wa w_inputs w_undecidedPairs w_parts w_sharedParts w_partCares w_zeros w_ones w_undecided w_answers w_primeCounts w_sizes w_codes ++ (wAI5 kI nno nn_arr ++ (wAI64 kI tro tr_arr))))))))) ++ tl) := by
    intro x6 x7 s_remembered s_hours h_size nn_arr h_vals k46 hk46 n
    induction n with
    | zero =>
      intro x8 x9 x10 t_presentIsOld tl htl hrun
      rw [fL_forgets_L72] at hrun
      cases hrun
    | succ n ih =>
      intro x8 x9 x10 t_presentIsOld tl htl hrun H locs ls hP hD hS hl
      rw [fL_forgets_L72] at hrun
      refine lv_iload hx hb dL_forgets_72 (lv_at hl 7 rfl) ?_
      refine lv_if_lt (tgt := 133) hx hb dL_forgets_74 (by decide) (fun hc => ?_) (fun hc => ?_)
      · have hrun := it_t hc hrun
        exact c_J133 x6 x7 x8 s_remembered s_hours h_size nn_arr h_vals k46 hk46 t_presentIsOld _ htl hrun _ _ _ hP hD hS (lv_sub hl [0, 1, 2, 3, 4, 5] rfl)
      · have hrun := it_f hc hrun
        refine lv_aload_n hx hb dL_forgets_77 rfl (lv_at hl 1 rfl) ?_
        refine lv_iconst (v := 1) hx hb dL_forgets_78 (by decide) ?_
        obtain ⟨hin, hrun⟩ := gd_some hrun
        refine va_iald hx hb hK hP 29 0 rfl rfl hin dL_forgets_79 ?_
        refine lv_iload hx hb dL_forgets_80 (lv_at hl 7 rfl) ?_
        refine lv_ishr hx hb dL_forgets_82 ?_
        refine lv_iconst (v := 1) hx hb dL_forgets_83 (by decide) ?_
        refine lv_iand hx hb dL_forgets_84 ?_
        refine lv_iconst (v := 1) hx hb dL_forgets_85 (by decide) ?_
        refine lv_icmp_ne (tgt := 127) hx hb dL_forgets_86 (by decide) (fun hc => ?_) (fun hc => ?_)
        · have hrun := it_f hc hrun
          exact c_J127 x6 x7 x8 x9 x10 s_remembered s_hours h_size nn_arr h_vals (fL_forgets_L72 x6 x7 s_inputs s_remembered s_asks s_hours s_zeros s_ones s_alarms s_faults h_size nn_arr tr_arr h_vals k46 n) ih t_presentIsOld _ htl hrun _ _ _ hP hD hS (lv_sub hl [0, 1, 2, 3, 4, 5, 6, 7] rfl)
        · have hrun := it_t hc hrun
          refine lv_aload_n hx hb dL_forgets_89 rfl (lv_at hl 1 rfl) ?_
          refine lv_aload hx hb dL_forgets_90 (lv_at hl 2 rfl) ?_
          refine lv_aload_n hx hb dL_forgets_92 rfl (lv_at hl 1 rfl) ?_
          refine lv_iconst (v := 1) hx hb dL_forgets_93 (by decide) ?_
          obtain ⟨hin, hrun⟩ := gd_some hrun
          refine va_iald hx hb hK hP 29 0 rfl rfl hin dL_forgets_94 ?_
          refine lv_iconst (v := 1) hx hb dL_forgets_95 (by decide) ?_
          refine lv_iload hx hb dL_forgets_96 (lv_at hl 7 rfl) ?_
          refine lv_ishl hx hb dL_forgets_98 ?_
          refine lv_iconst (v := (-1)) hx hb dL_forgets_99 (by decide) ?_
          refine lv_ixor hx hb dL_forgets_100 ?_
          refine lv_iand hx hb dL_forgets_101 ?_
          obtain ⟨q_3, hq_3, hrun⟩ := bd_some hrun
          refine cI_callST (As := [.ref nno, .ref tro, .int ((nn_arr ((1 : Int32)).toNatClampNeg) &&& (((1 : Int32) <<< (x10 &&& 31)) ^^^ ((-1))))]) (rest := []) (wr := (wX6 to so ho xo po vo wo t_presentIsOld ++ (wX3 kI kJ so sa s_inputs s_remembered s_asks s_hours s_zeros s_ones s_alarms s_faults ++ (wX0 ho hr h_size ++ (wX4 kI kJ xo xa x_codes x_length ++ (wX1 kI kJ po pa p_bad p_codes p_rows p_size ++ (wX5 kI kJ vo va v_inputs v_undecidedPairs v_parts v_sharedParts v_partCares v_zeros v_ones v_undecided v_answers v_primeCounts v_sizes v_codes ++ (wX5 kI kJ wo wa w_inputs w_undecidedPairs w_parts w_sharedParts w_partCares w_zeros w_ones w_undecided w_answers w_primeCounts w_sizes w_codes)))))))) (wN := (wX6 to so ho xo po vo wo t_presentIsOld ++ (wX3 kI kJ so sa s_inputs s_remembered s_asks s_hours s_zeros s_ones s_alarms s_faults ++ (wX0 ho hr h_size ++ (wX4 kI kJ xo xa x_codes x_length ++ (wX1 kI kJ po pa p_bad p_codes p_rows p_size ++ (wX5 kI kJ vo va v_inputs v_undecidedPairs v_parts v_sharedParts v_partCares v_zeros v_ones v_undecided v_answers v_primeCounts v_sizes v_codes ++ (wX5 kI kJ wo wa w_inputs w_undecidedPairs w_parts w_sharedParts w_partCares w_zeros w_ones w_undecided w_answers w_primeCounts w_sizes w_codes ++ (wAI5 kI nno nn_arr ++ (wAI64 kI tro tr_arr)))))))))) (tl := tl) hE (c_L_undecided l D kI kJ kS nno tro ((nn_arr ((1 : Int32)).toNatClampNeg) &&& (((1 : Int32) <<< (x10 &&& 31)) ^^^ ((-1)))) nn_arr tr_arr hq_3) (va_cwS 3 hts gL_forgets_L_undecided rfl rfl rfl (by decide +kernel) ⟨Nat.le_of_ble_eq_true rfl, Nat.le_of_ble_eq_true rfl⟩) hP hD hS [29, 30] [0, 1, 2, 3, 4, 5, 6, 7, 8, 9, 10, 11, 12, 13, 14, 15, 16, 17, 18, 19, 20, 21, 22, 23, 24, 25, 26, 27, 28] [0, 1, 2, 3, 4, 5, 6, 7, 8, 9, 10, 11, 12, 13, 14, 15, 16, 17, 18, 19, 20, 21, 22, 23, 24, 25, 26, 27, 28, 29, 30] rfl rfl rfl rfl (by decide) rfl rfl rfl hl.1 rfl (Nat.le_of_ble_eq_true rfl) dL_forgets_102 ⟨Nat.le_of_ble_eq_true rfl, Nat.le_of_ble_eq_true rfl⟩ (fun H locs hP hD hS => ?_)
          refine lv_istore (lv' := [(11, .int q_3), (0, .ref to), (3, .ref nno), (4, .ref tro), (6, .int x6), (7, .int x7), (8, .int x8), (9, .int x9), (10, .int x10)]) hx hb dL_forgets_105 hl (by decide) rfl (fun ls hl => ?_)
          refine lv_iload hx hb dL_forgets_107 (lv_at hl 6 rfl) ?_
          refine lv_if_lt (tgt := 119) hx hb dL_forgets_109 (by decide) (fun hc => ?_) (fun hc => ?_)
          · have hrun := it_t hc hrun
            exact c_J119 x6 x7 x10 q_3 s_remembered s_hours h_size nn_arr h_vals (fL_forgets_L72 x6 x7 s_inputs s_remembered s_asks s_hours s_zeros s_ones s_alarms s_faults h_size nn_arr tr_arr h_vals k46 n) ih t_presentIsOld _ htl hrun _ _ _ hP hD hS (lv_sub hl [1, 2, 3, 4, 5, 8, 0] rfl)
          · have hrun := it_f hc hrun
            refine lv_iload hx hb dL_forgets_112 (lv_at hl 0 rfl) ?_
            refine lv_iload hx hb dL_forgets_114 (lv_at hl 7 rfl) ?_
            refine lv_icmp_gt (tgt := 127) hx hb dL_forgets_116 (by decide) (fun hc => ?_) (fun hc => ?_)
            · have hrun := it_t hc hrun
              exact c_J127 x6 x7 x8 x9 x10 s_remembered s_hours h_size nn_arr h_vals (fL_forgets_L72 x6 x7 s_inputs s_remembered s_asks s_hours s_zeros s_ones s_alarms s_faults h_size nn_arr tr_arr h_vals k46 n) ih t_presentIsOld _ htl hrun _ _ _ hP hD hS (lv_sub hl [1, 2, 3, 4, 5, 6, 7, 8] rfl)
            · have hrun := it_f hc hrun
              exact c_J119 x6 x7 x10 q_3 s_remembered s_hours h_size nn_arr h_vals (fL_forgets_L72 x6 x7 s_inputs s_remembered s_asks s_hours s_zeros s_ones s_alarms s_faults h_size nn_arr tr_arr h_vals k46 n) ih t_presentIsOld _ htl hrun _ _ _ hP hD hS (lv_sub hl [1, 2, 3, 4, 5, 8, 0] rfl)
  have c_J158 : ∀ (x6 : Int32) (s_remembered : Int32) (s_hours : Int32) (h_size : Int32) (nn_arr : (Nat → Int32)) (h_vals : (Nat → SV)) (t_presentIsOld : Int32) (tl : va_W) (htl : TL kI kJ kS hr h_size h_vals tl), fL_forgets_J158 x6 s_inputs s_remembered s_asks s_hours s_zeros s_ones s_alarms s_faults h_size nn_arr h_vals = some r → wAt p l e (rmk 5 5 24 99) s m av below meth c D A 12 0 0 Q 158 [] [(0, .ref to), (3, .ref nno), (6, .int x6)] ((wX6 to so ho xo po vo wo t_presentIsOld ++ (wX3 kI kJ so sa s_inputs s_remembered s_asks s_hours s_zeros s_ones s_alarms s_faults ++ (wX0 ho hr h_size ++ (wX4 kI kJ xo xa x_codes x_length ++ (wX1 kI kJ po pa p_bad p_codes p_rows p_size ++ (wX5 kI kJ vo va v_inputs v_undecidedPairs v_parts v_sharedParts v_partCares v_zeros v_ones v_undecided v_answers v_primeCounts v_sizes v_codes ++ (wX5 kI kJ wo wa w_inputs w_undecidedPairs w_parts w_sharedParts w_partCares w_zeros w_ones w_undecided w_answers w_primeCounts w_sizes w_codes ++ (wAI5 kI nno nn_arr ++ (wAI64 kI tro tr_arr))))))))) ++ tl) := by
    intro x6 s_remembered s_hours h_size nn_arr h_vals t_presentIsOld tl htl hrun H locs ls hP hD hS hl
    unfold fL_forgets_J158 at hrun
    refine lv_aload_n hx hb dL_forgets_158 rfl (lv_at hl 0 rfl) ?_
    refine lv_iload hx hb dL_forgets_159 (lv_at hl 2 rfl) ?_
    obtain ⟨q_4, hq_4, hrun⟩ := sg_some hrun
    refine gI_callVT (As := [.int x6]) (rest := []) (wr := (wAI5 kI nno nn_arr ++ (wAI64 kI tro tr_arr))) (wN := (wX6 to so ho xo po vo wo q_4.2.1 ++ (wX3 kI kJ so sa s_inputs q_4.2.2.1 s_asks q_4.2.2.2.1 s_zeros s_ones s_alarms s_faults ++ (wX0 ho hr q_4.2.2.2.2.1 ++ (wX4 kI kJ xo xa x_codes x_length ++ (wX1 kI kJ po pa p_bad p_codes p_rows p_size ++ (wX5 kI kJ vo va v_inputs v_undecidedPairs v_parts v_sharedParts v_partCares v_zeros v_ones v_undecided v_answers v_primeCounts v_sizes v_codes ++ (wX5 kI kJ wo wa w_inputs w_undecidedPairs w_parts w_sharedParts w_partCares w_zeros w_ones w_undecided w_answers w_primeCounts w_sizes w_codes ++ (wAI5 kI nno nn_arr ++ (wAI64 kI tro tr_arr)))))))))) (ci := 5) (q0 := 0) hE (n_X6_pass l D kI kJ kS to so sa ho hr xo xa po pa vo va wo wa x6 t_presentIsOld s_inputs s_remembered s_asks s_hours s_zeros s_ones s_alarms s_faults h_size x_codes x_length p_bad p_codes p_rows p_size v_inputs v_undecidedPairs v_parts v_sharedParts v_partCares v_zeros v_ones v_undecided v_answers v_primeCounts v_sizes v_codes w_inputs w_undecidedPairs w_parts w_sharedParts w_partCares w_zeros w_ones w_undecided w_answers w_primeCounts w_sizes w_codes h_vals htl hq_4) (cwV 1 hts gL_forgets_X6_pass rfl rfl rfl (by decide +kernel) ⟨Nat.le_of_ble_eq_true rfl, Nat.le_of_ble_eq_true rfl⟩) hP hD hS [0, 1, 2, 3, 4, 5, 6, 7, 8, 9, 10, 11, 12, 13, 14, 15, 16, 17, 18, 19, 20, 21, 22, 23, 24, 25, 26, 27, 28] [29, 30] [2, 3, 4, 5, 6, 7, 8, 9, 10, 11, 12, 13, 14, 15, 16, 17, 18, 19, 20, 21, 22, 23, 24, 25, 26, 27, 28, 29, 30, 0, 1] rfl rfl rfl rfl (by decide) rfl rfl rfl rfl rfl hl.1 rfl (Nat.le_of_ble_eq_true rfl) dL_forgets_161 ⟨Nat.le_of_ble_eq_true rfl, Nat.le_of_ble_eq_true rfl⟩ (fun tl H locs htl hP hD hS => ?_)
    refine lv_aload_n hx hb dL_forgets_164 rfl (lv_at hl 1 rfl) ?_
    refine lv_iconst (v := 1) hx hb dL_forgets_165 (by decide) ?_
    obtain ⟨hin, hrun⟩ := gd_some hrun
    refine va_iald hx hb hK hP 29 0 rfl rfl hin dL_forgets_166 ?_
    obtain ⟨q_5, hq_5, hrun⟩ := bd_some hrun
    refine cI_callST (As := [.int (nn_arr ((1 : Int32)).toNatClampNeg)]) (rest := [.int q_4.1]) (wr := (wX6 to so ho xo po vo wo q_4.2.1 ++ (wX3 kI kJ so sa s_inputs q_4.2.2.1 s_asks q_4.2.2.2.1 s_zeros s_ones s_alarms s_faults ++ (wX0 ho hr q_4.2.2.2.2.1 ++ (wX4 kI kJ xo xa x_codes x_length ++ (wX1 kI kJ po pa p_bad p_codes p_rows p_size ++ (wX5 kI kJ vo va v_inputs v_undecidedPairs v_parts v_sharedParts v_partCares v_zeros v_ones v_undecided v_answers v_primeCounts v_sizes v_codes ++ (wX5 kI kJ wo wa w_inputs w_undecidedPairs w_parts w_sharedParts w_partCares w_zeros w_ones w_undecided w_answers w_primeCounts w_sizes w_codes ++ (wAI5 kI nno nn_arr ++ (wAI64 kI tro tr_arr)))))))))) (wN := (wX6 to so ho xo po vo wo q_4.2.1 ++ (wX3 kI kJ so sa s_inputs q_4.2.2.1 s_asks q_4.2.2.2.1 s_zeros s_ones s_alarms s_faults ++ (wX0 ho hr q_4.2.2.2.2.1 ++ (wX4 kI kJ xo xa x_codes x_length ++ (wX1 kI kJ po pa p_bad p_codes p_rows p_size ++ (wX5 kI kJ vo va v_inputs v_undecidedPairs v_parts v_sharedParts v_partCares v_zeros v_ones v_undecided v_answers v_primeCounts v_sizes v_codes ++ (wX5 kI kJ wo wa w_inputs w_undecidedPairs w_parts w_sharedParts w_partCares w_zeros w_ones w_undecided w_answers w_primeCounts w_sizes w_codes ++ (wAI5 kI nno nn_arr ++ (wAI64 kI tro tr_arr)))))))))) (tl := tl) hE (c_L_ones l D kI kJ kS (nn_arr ((1 : Int32)).toNatClampNeg)  hq_5) (va_cwS 1 hts gL_forgets_L_ones rfl rfl rfl (by decide +kernel) ⟨Nat.le_of_ble_eq_true rfl, Nat.le_of_ble_eq_true rfl⟩) hP hD hS [] [0, 1, 2, 3, 4, 5, 6, 7, 8, 9, 10, 11, 12, 13, 14, 15, 16, 17, 18, 19, 20, 21, 22, 23, 24, 25, 26, 27, 28, 29, 30] [0, 1, 2, 3, 4, 5, 6, 7, 8, 9, 10, 11, 12, 13, 14, 15, 16, 17, 18, 19, 20, 21, 22, 23, 24, 25, 26, 27, 28, 29, 30] rfl rfl rfl rfl (by decide) rfl rfl rfl hl.1 rfl (Nat.le_of_ble_eq_true rfl) dL_forgets_167 ⟨Nat.le_of_ble_eq_true rfl, Nat.le_of_ble_eq_true rfl⟩ (fun H locs hP hD hS => ?_)
    refine lv_icmp_ne (tgt := 177) hx hb dL_forgets_170 (by decide) (fun hc => ?_) (fun hc => ?_)
    · have hrun := it_f hc hrun
      refine lv_iconst (v := 0) hx hb dL_forgets_177 (by decide) ?_
      obtain rfl := Option.some.inj hrun
      exact hret _ _ _ _ _ (show narrow .boolean (.int 0) = .int 0 from rfl) htl dL_forgets_178 hP hD hS
    · have hrun := it_t hc hrun
      refine lv_iconst (v := 1) hx hb dL_forgets_173 (by decide) ?_
      refine lv_goto (tgt := 178) hx hb dL_forgets_174 (by decide) ?_
      obtain rfl := Option.some.inj hrun
      exact hret _ _ _ _ _ (show narrow .boolean (.int 1) = .int 1 from rfl) htl dL_forgets_178 hP hD hS
  have c_L46 : ∀ (x6 : Int32) (s_remembered : Int32) (s_hours : Int32) (h_size : Int32) (h_vals : (Nat → SV)) (n : Nat) (x7 : Int32) (nn_arr : (Nat → Int32)) (t_presentIsOld : Int32) (tl : va_W) (htl : TL kI kJ kS hr h_size h_vals tl), fL_forgets_L46 x6 s_inputs s_remembered s_asks s_hours s_zeros s_ones s_alarms s_faults h_size tr_arr h_vals n x7 nn_arr = some r → wAt p l e (rmk 5 5 24 99) s m av below meth c D A 12 0 0 Q 46 [] [(0, .ref to), (3, .ref nno), (4, .ref tro), (6, .int x6), (7, .int x7)] ((wX6 to so ho xo po vo wo t_presentIsOld ++ (wX3 kI kJ so sa s_inputs s_remembered s_asks s_hours s_zeros s_ones s_alarms s_faults ++ (wX0 ho hr h_size ++ (wX4 kI kJ xo xa x_codes x_length ++ (wX1 kI kJ po pa p_bad p_codes p_rows p_size ++ (wX5 kI kJ vo va v_inputs v_undecidedPairs v_parts v_sharedParts v_partCares v_zeros v_ones v_undecided v_answers v_primeCounts v_sizes v_codes ++ (wX5 kI kJ wo wa w_inputs w_undecidedPairs w_parts w_sharedParts w_partCares w_zeros w_ones w_undecided w_answers w_primeCounts w_sizes w_codes ++ (wAI5 kI nno nn_arr ++ (wAI64 kI tro tr_arr))))))))) ++ tl) := by
    intro x6 s_remembered s_hours h_size h_vals n
    induction n with
    | zero =>
      intro x7 nn_arr t_presentIsOld tl htl hrun
      rw [fL_forgets_L46] at hrun
      cases hrun
    | succ n ih =>
      intro x7 nn_arr t_presentIsOld tl htl hrun H locs ls hP hD hS hl
      rw [fL_forgets_L46] at hrun
      refine lv_iload hx hb dL_forgets_46 (lv_at hl 4 rfl) ?_
      refine lv_iload hx hb dL_forgets_48 (lv_at hl 3 rfl) ?_
      refine lv_icmp_ge (tgt := 158) hx hb dL_forgets_50 (by decide) (fun hc => ?_) (fun hc => ?_)
      · have hrun := it_t hc hrun
        exact c_J158 x6 s_remembered s_hours h_size nn_arr h_vals t_presentIsOld _ htl hrun _ _ _ hP hD hS (lv_sub hl [0, 1, 3] rfl)
      · have hrun := it_f hc hrun
        refine lv_aload_n hx hb dL_forgets_53 rfl (lv_at hl 1 rfl) ?_
        refine lv_iconst (v := 1) hx hb dL_forgets_54 (by decide) ?_
        obtain ⟨hin, hrun⟩ := gd_some hrun
        refine va_iald hx hb hK hP 29 0 rfl rfl hin dL_forgets_55 ?_
        refine lv_if_eq (tgt := 158) hx hb dL_forgets_56 (by decide) (fun hc => ?_) (fun hc => ?_)
        · have hrun := it_t hc hrun
          exact c_J158 x6 s_remembered s_hours h_size nn_arr h_vals t_presentIsOld _ htl hrun _ _ _ hP hD hS (lv_sub hl [0, 1, 3] rfl)
        · have hrun := it_f hc hrun
          refine lv_iconst (v := (-1)) hx hb dL_forgets_59 (by decide) ?_
          refine lv_istore (lv' := [(8, .int ((-1))), (0, .ref to), (3, .ref nno), (4, .ref tro), (6, .int x6), (7, .int x7)]) hx hb dL_forgets_60 hl (by decide) rfl (fun ls hl => ?_)
          refine lv_iconst (v := 0) hx hb dL_forgets_62 (by decide) ?_
          refine lv_istore (lv' := [(9, .int 0), (8, .int ((-1))), (0, .ref to), (3, .ref nno), (4, .ref tro), (6, .int x6), (7, .int x7)]) hx hb dL_forgets_63 hl (by decide) rfl (fun ls hl => ?_)
          refine lv_aload_n hx hb dL_forgets_65 rfl (lv_at hl 3 rfl) ?_
          refine lv_iconst (v := 0) hx hb dL_forgets_66 (by decide) ?_
          obtain ⟨hin, hrun⟩ := gd_some hrun
          refine va_iald hx hb hK hP 29 0 rfl rfl hin dL_forgets_67 ?_
          refine lv_iconst (v := 1) hx hb dL_forgets_68 (by decide) ?_
          refine lv_isub hx hb dL_forgets_69 ?_
          refine lv_istore (lv' := [(10, .int ((nn_arr ((0 : Int32)).toNatClampNeg) - 1)), (9, .int 0), (8, .int ((-1))), (0, .ref to), (3, .ref nno), (4, .ref tro), (6, .int x6), (7, .int x7)]) hx hb dL_forgets_70 hl (by decide) rfl (fun ls hl => ?_)
          exact c_L72 x6 x7 s_remembered s_hours h_size nn_arr h_vals (fL_forgets_L46 x6 s_inputs s_remembered s_asks s_hours s_zeros s_ones s_alarms s_faults h_size tr_arr h_vals n) ih 5000 ((-1)) 0 ((nn_arr ((0 : Int32)).toNatClampNeg) - 1) t_presentIsOld _ htl hrun _ _ _ hP hD hS (lv_sub hl [3, 4, 5, 6, 7, 2, 1, 0] rfl)
  have c_J228 : ∀ (s0 : Int32) (t_presentIsOld : Int32) (s_remembered : Int32) (s_hours : Int32) (h_size : Int32) (nn_arr : (Nat → Int32)) (h_vals : (Nat → SV)) (tl : va_W) (htl : TL kI kJ kS hr h_size h_vals tl), fL_forgets_J228 s0 t_presentIsOld s_remembered s_hours h_size nn_arr tr_arr h_vals = some r → wAt p l e (rmk 5 5 24 99) s m av below meth c D A 12 5 24 Q 228 [.int s0] [(3, .ref nno), (4, .ref tro)] ((wX6 to so ho xo po vo wo t_presentIsOld ++ (wX3 kI kJ so sa s_inputs s_remembered s_asks s_hours s_zeros s_ones s_alarms s_faults ++ (wX0 ho hr h_size ++ (wX4 kI kJ xo xa x_codes x_length ++ (wX1 kI kJ po pa p_bad p_codes p_rows p_size ++ (wX5 kI kJ vo va v_inputs v_undecidedPairs v_parts v_sharedParts v_partCares v_zeros v_ones v_undecided v_answers v_primeCounts v_sizes v_codes ++ (wX5 kI kJ wo wa w_inputs w_undecidedPairs w_parts w_sharedParts w_partCares w_zeros w_ones w_undecided w_answers w_primeCounts w_sizes w_codes ++ (wAI5 kI nno nn_arr ++ (wAI64 kI tro tr_arr))))))))) ++ tl) := by
    intro s0 t_presentIsOld s_remembered s_hours h_size nn_arr h_vals tl htl hrun H locs ls hP hD hS hl
    unfold fL_forgets_J228 at hrun
    refine lv_aload_n hx hb dL_forgets_228 rfl (lv_at hl 0 rfl) ?_
    refine lv_aload hx hb dL_forgets_229 (lv_at hl 1 rfl) ?_
    refine lv_aload_n hx hb dL_forgets_231 rfl (lv_at hl 0 rfl) ?_
    refine lv_iconst (v := 1) hx hb dL_forgets_232 (by decide) ?_
    obtain ⟨hin, hrun⟩ := gd_some hrun
    refine va_iald hx hb hK hP 29 0 rfl rfl hin dL_forgets_233 ?_
    obtain ⟨q_6, hq_6, hrun⟩ := bd_some hrun
    refine cI_callST (As := [.ref nno, .ref tro, .int (nn_arr ((1 : Int32)).toNatClampNeg)]) (rest := [.int s0]) (wr := (wX6 to so ho xo po vo wo t_presentIsOld ++ (wX3 kI kJ so sa s_inputs s_remembered s_asks s_hours s_zeros s_ones s_alarms s_faults ++ (wX0 ho hr h_size ++ (wX4 kI kJ xo xa x_codes x_length ++ (wX1 kI kJ po pa p_bad p_codes p_rows p_size ++ (wX5 kI kJ vo va v_inputs v_undecidedPairs v_parts v_sharedParts v_partCares v_zeros v_ones v_undecided v_answers v_primeCounts v_sizes v_codes ++ (wX5 kI kJ wo wa w_inputs w_undecidedPairs w_parts w_sharedParts w_partCares w_zeros w_ones w_undecided w_answers w_primeCounts w_sizes w_codes)))))))) (wN := (wX6 to so ho xo po vo wo t_presentIsOld ++ (wX3 kI kJ so sa s_inputs s_remembered s_asks s_hours s_zeros s_ones s_alarms s_faults ++ (wX0 ho hr h_size ++ (wX4 kI kJ xo xa x_codes x_length ++ (wX1 kI kJ po pa p_bad p_codes p_rows p_size ++ (wX5 kI kJ vo va v_inputs v_undecidedPairs v_parts v_sharedParts v_partCares v_zeros v_ones v_undecided v_answers v_primeCounts v_sizes v_codes ++ (wX5 kI kJ wo wa w_inputs w_undecidedPairs w_parts w_sharedParts w_partCares w_zeros w_ones w_undecided w_answers w_primeCounts w_sizes w_codes ++ (wAI5 kI nno nn_arr ++ (wAI64 kI tro tr_arr)))))))))) (tl := tl) hE (c_L_undecided l D kI kJ kS nno tro (nn_arr ((1 : Int32)).toNatClampNeg) nn_arr tr_arr hq_6) (va_cwS 3 hts gL_forgets_L_undecided rfl rfl rfl (by decide +kernel) ⟨Nat.le_of_ble_eq_true rfl, Nat.le_of_ble_eq_true rfl⟩) hP hD hS [29, 30] [0, 1, 2, 3, 4, 5, 6, 7, 8, 9, 10, 11, 12, 13, 14, 15, 16, 17, 18, 19, 20, 21, 22, 23, 24, 25, 26, 27, 28] [0, 1, 2, 3, 4, 5, 6, 7, 8, 9, 10, 11, 12, 13, 14, 15, 16, 17, 18, 19, 20, 21, 22, 23, 24, 25, 26, 27, 28, 29, 30] rfl rfl rfl rfl (by decide) rfl rfl rfl hl.1 rfl (Nat.le_of_ble_eq_true rfl) dL_forgets_234 ⟨Nat.le_of_ble_eq_true rfl, Nat.le_of_ble_eq_true rfl⟩ (fun H locs hP hD hS => ?_)
    refine lv_icmp_ne (tgt := 244) hx hb dL_forgets_237 (by decide) (fun hc => ?_) (fun hc => ?_)
    · have hrun := it_f hc hrun
      refine lv_iconst (v := 0) hx hb dL_forgets_244 (by decide) ?_
      obtain rfl := Option.some.inj hrun
      exact hret _ _ _ _ _ (show narrow .boolean (.int 0) = .int 0 from rfl) htl dL_forgets_245 hP hD hS
    · have hrun := it_t hc hrun
      refine lv_iconst (v := 1) hx hb dL_forgets_240 (by decide) ?_
      refine lv_goto (tgt := 245) hx hb dL_forgets_241 (by decide) ?_
      obtain rfl := Option.some.inj hrun
      exact hret _ _ _ _ _ (show narrow .boolean (.int 1) = .int 1 from rfl) htl dL_forgets_245 hP hD hS
  have c_J196 : ∀ (x5 : Int32) (s0 : Int32) (s_remembered : Int32) (s_hours : Int32) (h_size : Int32) (nn_arr : (Nat → Int32)) (h_vals : (Nat → SV)) (t_presentIsOld : Int32) (tl : va_W) (htl : TL kI kJ kS hr h_size h_vals tl), fL_forgets_J196 x5 s0 s_inputs s_remembered s_asks s_hours s_zeros s_ones s_alarms s_faults h_size nn_arr tr_arr h_vals = some r → wAt p l e (rmk 5 5 24 99) s m av below meth c D A 12 0 0 Q 196 [.int s0] [(0, .ref to), (3, .ref nno), (4, .ref tro), (5, .int x5)] ((wX6 to so ho xo po vo wo t_presentIsOld ++ (wX3 kI kJ so sa s_inputs s_remembered s_asks s_hours s_zeros s_ones s_alarms s_faults ++ (wX0 ho hr h_size ++ (wX4 kI kJ xo xa x_codes x_length ++ (wX1 kI kJ po pa p_bad p_codes p_rows p_size ++ (wX5 kI kJ vo va v_inputs v_undecidedPairs v_parts v_sharedParts v_partCares v_zeros v_ones v_undecided v_answers v_primeCounts v_sizes v_codes ++ (wX5 kI kJ wo wa w_inputs w_undecidedPairs w_parts w_sharedParts w_partCares w_zeros w_ones w_undecided w_answers w_primeCounts w_sizes w_codes ++ (wAI5 kI nno nn_arr ++ (wAI64 kI tro tr_arr))))))))) ++ tl) := by
    intro x5 s0 s_remembered s_hours h_size nn_arr h_vals t_presentIsOld tl htl hrun H locs ls hP hD hS hl
    unfold fL_forgets_J196 at hrun
    refine lv_istore (lv' := [(6, .int s0), (0, .ref to), (3, .ref nno), (4, .ref tro), (5, .int x5)]) hx hb dL_forgets_196 hl (by decide) rfl (fun ls hl => ?_)
    refine lv_aload_n hx hb dL_forgets_198 rfl (lv_at hl 2 rfl) ?_
    refine lv_iconst (v := 1) hx hb dL_forgets_199 (by decide) ?_
    refine lv_dup2_11 hx hb dL_forgets_200 rfl rfl ?_
    obtain ⟨hin, hrun⟩ := gd_some hrun
    refine va_iald hx hb hK hP 29 0 rfl rfl hin dL_forgets_201 ?_
    refine lv_iconst (v := 1) hx hb dL_forgets_202 (by decide) ?_
    refine lv_iload hx hb dL_forgets_203 (lv_at hl 4 rfl) ?_
    refine lv_ishl hx hb dL_forgets_205 ?_
    refine lv_ixor hx hb dL_forgets_206 ?_
    obtain ⟨hin, hrun⟩ := gd_some hrun
    refine va_iast hx hb hK hP hD hS 29 0 rfl rfl hin dL_forgets_207 (fun H locs hP hD hS => ?_)
    have hP : va_P D vwCl ((wX6 to so ho xo po vo wo t_presentIsOld ++ (wX3 kI kJ so sa s_inputs s_remembered s_asks s_hours s_zeros s_ones s_alarms s_faults ++ (wX0 ho hr h_size ++ (wX4 kI kJ xo xa x_codes x_length ++ (wX1 kI kJ po pa p_bad p_codes p_rows p_size ++ (wX5 kI kJ vo va v_inputs v_undecidedPairs v_parts v_sharedParts v_partCares v_zeros v_ones v_undecided v_answers v_primeCounts v_sizes v_codes ++ (wX5 kI kJ wo wa w_inputs w_undecidedPairs w_parts w_sharedParts w_partCares w_zeros w_ones w_undecided w_answers w_primeCounts w_sizes w_codes ++ (wAI5 kI nno (upd nn_arr ((1 : Int32)).toNatClampNeg ((nn_arr ((1 : Int32)).toNatClampNeg) ^^^ ((1 : Int32) <<< (x5 &&& 31)))) ++ (wAI64 kI tro tr_arr))))))))) ++ tl) H := hP
    have hD : va_D A ((wX6 to so ho xo po vo wo t_presentIsOld ++ (wX3 kI kJ so sa s_inputs s_remembered s_asks s_hours s_zeros s_ones s_alarms s_faults ++ (wX0 ho hr h_size ++ (wX4 kI kJ xo xa x_codes x_length ++ (wX1 kI kJ po pa p_bad p_codes p_rows p_size ++ (wX5 kI kJ vo va v_inputs v_undecidedPairs v_parts v_sharedParts v_partCares v_zeros v_ones v_undecided v_answers v_primeCounts v_sizes v_codes ++ (wX5 kI kJ wo wa w_inputs w_undecidedPairs w_parts w_sharedParts w_partCares w_zeros w_ones w_undecided w_answers w_primeCounts w_sizes w_codes ++ (wAI5 kI nno (upd nn_arr ((1 : Int32)).toNatClampNeg ((nn_arr ((1 : Int32)).toNatClampNeg) ^^^ ((1 : Int32) <<< (x5 &&& 31)))) ++ (wAI64 kI tro tr_arr))))))))) ++ tl) := hD
    obtain ⟨u_7, eu_7⟩ : ∃ y, y = upd nn_arr ((1 : Int32)).toNatClampNeg ((nn_arr ((1 : Int32)).toNatClampNeg) ^^^ ((1 : Int32) <<< (x5 &&& 31))) := ⟨_, rfl⟩
    have hrun := lt_some eu_7 hrun
    rw [← eu_7] at hP hD
    refine lv_iload hx hb dL_forgets_208 (lv_at hl 0 rfl) ?_
    refine lv_if_eq (tgt := 222) hx hb dL_forgets_210 (by decide) (fun hc => ?_) (fun hc => ?_)
    · have hrun := it_t hc hrun
      refine lv_aload_n hx hb dL_forgets_222 rfl (lv_at hl 1 rfl) ?_
      refine lv_iload hx hb dL_forgets_223 (lv_at hl 4 rfl) ?_
      obtain ⟨q_8, hq_8, hrun⟩ := sg_some hrun
      refine gI_callVT (As := [.int x5]) (rest := []) (wr := (wAI5 kI nno u_7 ++ (wAI64 kI tro tr_arr))) (wN := (wX6 to so ho xo po vo wo q_8.2.1 ++ (wX3 kI kJ so sa s_inputs q_8.2.2.1 s_asks s_hours s_zeros s_ones s_alarms s_faults ++ (wX0 ho hr q_8.2.2.2.1 ++ (wX4 kI kJ xo xa x_codes x_length ++ (wX1 kI kJ po pa p_bad p_codes p_rows p_size ++ (wX5 kI kJ vo va v_inputs v_undecidedPairs v_parts v_sharedParts v_partCares v_zeros v_ones v_undecided v_answers v_primeCounts v_sizes v_codes ++ (wX5 kI kJ wo wa w_inputs w_undecidedPairs w_parts w_sharedParts w_partCares w_zeros w_ones w_undecided w_answers w_primeCounts w_sizes w_codes ++ (wAI5 kI nno u_7 ++ (wAI64 kI tro tr_arr)))))))))) (ci := 5) (q0 := 0) hE (n_X6_remember l D kI kJ kS to so sa ho hr xo xa po pa vo va wo wa x5 t_presentIsOld s_inputs s_remembered s_asks s_hours s_zeros s_ones s_alarms s_faults h_size x_codes x_length p_bad p_codes p_rows p_size v_inputs v_undecidedPairs v_parts v_sharedParts v_partCares v_zeros v_ones v_undecided v_answers v_primeCounts v_sizes v_codes w_inputs w_undecidedPairs w_parts w_sharedParts w_partCares w_zeros w_ones w_undecided w_answers w_primeCounts w_sizes w_codes h_vals htl hq_8) (cwV 1 hts gL_forgets_X6_remember rfl rfl rfl (by decide +kernel) ⟨Nat.le_of_ble_eq_true rfl, Nat.le_of_ble_eq_true rfl⟩) hP hD hS [0, 1, 2, 3, 4, 5, 6, 7, 8, 9, 10, 11, 12, 13, 14, 15, 16, 17, 18, 19, 20, 21, 22, 23, 24, 25, 26, 27, 28] [29, 30] [2, 3, 4, 5, 6, 7, 8, 9, 10, 11, 12, 13, 14, 15, 16, 17, 18, 19, 20, 21, 22, 23, 24, 25, 26, 27, 28, 29, 30, 0, 1] rfl rfl rfl rfl (by decide) rfl rfl rfl rfl rfl hl.1 rfl (Nat.le_of_ble_eq_true rfl) dL_forgets_225 ⟨Nat.le_of_ble_eq_true rfl, Nat.le_of_ble_eq_true rfl⟩ (fun tl H locs htl hP hD hS => ?_)
      exact c_J228 q_8.1 q_8.2.1 q_8.2.2.1 s_hours q_8.2.2.2.1 u_7 q_8.2.2.2.2  _ htl hrun _ _ _ hP hD hS (lv_sub hl [2, 3] rfl)
    · have hrun := it_f hc hrun
      refine lv_aload_n hx hb dL_forgets_213 rfl (lv_at hl 1 rfl) ?_
      refine lv_iload hx hb dL_forgets_214 (lv_at hl 4 rfl) ?_
      obtain ⟨q_9, hq_9, hrun⟩ := sg_some hrun
      refine gI_callVT (As := [.int x5]) (rest := []) (wr := (wAI5 kI nno u_7 ++ (wAI64 kI tro tr_arr))) (wN := (wX6 to so ho xo po vo wo q_9.2.1 ++ (wX3 kI kJ so sa s_inputs q_9.2.2.1 s_asks s_hours s_zeros s_ones s_alarms s_faults ++ (wX0 ho hr q_9.2.2.2.1 ++ (wX4 kI kJ xo xa x_codes x_length ++ (wX1 kI kJ po pa p_bad p_codes p_rows p_size ++ (wX5 kI kJ vo va v_inputs v_undecidedPairs v_parts v_sharedParts v_partCares v_zeros v_ones v_undecided v_answers v_primeCounts v_sizes v_codes ++ (wX5 kI kJ wo wa w_inputs w_undecidedPairs w_parts w_sharedParts w_partCares w_zeros w_ones w_undecided w_answers w_primeCounts w_sizes w_codes ++ (wAI5 kI nno u_7 ++ (wAI64 kI tro tr_arr)))))))))) (ci := 5) (q0 := 0) hE (n_X6_forget l D kI kJ kS to so sa ho hr xo xa po pa vo va wo wa x5 t_presentIsOld s_inputs s_remembered s_asks s_hours s_zeros s_ones s_alarms s_faults h_size x_codes x_length p_bad p_codes p_rows p_size v_inputs v_undecidedPairs v_parts v_sharedParts v_partCares v_zeros v_ones v_undecided v_answers v_primeCounts v_sizes v_codes w_inputs w_undecidedPairs w_parts w_sharedParts w_partCares w_zeros w_ones w_undecided w_answers w_primeCounts w_sizes w_codes h_vals htl hq_9) (cwV 1 hts gL_forgets_X6_forget rfl rfl rfl (by decide +kernel) ⟨Nat.le_of_ble_eq_true rfl, Nat.le_of_ble_eq_true rfl⟩) hP hD hS [0, 1, 2, 3, 4, 5, 6, 7, 8, 9, 10, 11, 12, 13, 14, 15, 16, 17, 18, 19, 20, 21, 22, 23, 24, 25, 26, 27, 28] [29, 30] [2, 3, 4, 5, 6, 7, 8, 9, 10, 11, 12, 13, 14, 15, 16, 17, 18, 19, 20, 21, 22, 23, 24, 25, 26, 27, 28, 29, 30, 0, 1] rfl rfl rfl rfl (by decide) rfl rfl rfl rfl rfl hl.1 rfl (Nat.le_of_ble_eq_true rfl) dL_forgets_216 ⟨Nat.le_of_ble_eq_true rfl, Nat.le_of_ble_eq_true rfl⟩ (fun tl H locs htl hP hD hS => ?_)
      refine lv_goto (tgt := 228) hx hb dL_forgets_219 (by decide) ?_
      exact c_J228 q_9.1 q_9.2.1 q_9.2.2.1 s_hours q_9.2.2.2.1 u_7 q_9.2.2.2.2  _ htl hrun _ _ _ hP hD hS (lv_sub hl [2, 3] rfl)
  have c_J24 : ∀ (x1 : Int32) (x2 : Int32) (x5 : Int32) (s_remembered : Int32) (s_hours : Int32) (h_size : Int32) (nn_arr : (Nat → Int32)) (h_vals : (Nat → SV)) (t_presentIsOld : Int32) (tl : va_W) (htl : TL kI kJ kS hr h_size h_vals tl), fL_forgets_J24 x1 x2 x5 s_inputs s_remembered s_asks s_hours s_zeros s_ones s_alarms s_faults h_size nn_arr tr_arr h_vals = some r → wAt p l e (rmk 5 5 24 99) s m av below meth c D A 12 0 0 Q 24 [] [(0, .ref to), (1, .int x1), (2, .int x2), (3, .ref nno), (4, .ref tro), (5, .int x5)] ((wX6 to so ho xo po vo wo t_presentIsOld ++ (wX3 kI kJ so sa s_inputs s_remembered s_asks s_hours s_zeros s_ones s_alarms s_faults ++ (wX0 ho hr h_size ++ (wX4 kI kJ xo xa x_codes x_length ++ (wX1 kI kJ po pa p_bad p_codes p_rows p_size ++ (wX5 kI kJ vo va v_inputs v_undecidedPairs v_parts v_sharedParts v_partCares v_zeros v_ones v_undecided v_answers v_primeCounts v_sizes v_codes ++ (wX5 kI kJ wo wa w_inputs w_undecidedPairs w_parts w_sharedParts w_partCares w_zeros w_ones w_undecided w_answers w_primeCounts w_sizes w_codes ++ (wAI5 kI nno nn_arr ++ (wAI64 kI tro tr_arr))))))))) ++ tl) := by
    intro x1 x2 x5 s_remembered s_hours h_size nn_arr h_vals t_presentIsOld tl htl hrun H locs ls hP hD hS hl
    unfold fL_forgets_J24 at hrun
    refine lv_iload_n hx hb dL_forgets_24 rfl (lv_at hl 1 rfl) ?_
    refine lv_iconst (v := 4) hx hb dL_forgets_25 (by decide) ?_
    obtain ⟨q_10, hq_10, hrun⟩ := bd_some hrun
    refine cI_callST (As := [.int x1, .int 4]) (rest := []) (wr := (wX6 to so ho xo po vo wo t_presentIsOld ++ (wX3 kI kJ so sa s_inputs s_remembered s_asks s_hours s_zeros s_ones s_alarms s_faults ++ (wX0 ho hr h_size ++ (wX4 kI kJ xo xa x_codes x_length ++ (wX1 kI kJ po pa p_bad p_codes p_rows p_size ++ (wX5 kI kJ vo va v_inputs v_undecidedPairs v_parts v_sharedParts v_partCares v_zeros v_ones v_undecided v_answers v_primeCounts v_sizes v_codes ++ (wX5 kI kJ wo wa w_inputs w_undecidedPairs w_parts w_sharedParts w_partCares w_zeros w_ones w_undecided w_answers w_primeCounts w_sizes w_codes ++ (wAI5 kI nno nn_arr ++ (wAI64 kI tro tr_arr)))))))))) (wN := (wX6 to so ho xo po vo wo t_presentIsOld ++ (wX3 kI kJ so sa s_inputs s_remembered s_asks s_hours s_zeros s_ones s_alarms s_faults ++ (wX0 ho hr h_size ++ (wX4 kI kJ xo xa x_codes x_length ++ (wX1 kI kJ po pa p_bad p_codes p_rows p_size ++ (wX5 kI kJ vo va v_inputs v_undecidedPairs v_parts v_sharedParts v_partCares v_zeros v_ones v_undecided v_answers v_primeCounts v_sizes v_codes ++ (wX5 kI kJ wo wa w_inputs w_undecidedPairs w_parts w_sharedParts w_partCares w_zeros w_ones w_undecided w_answers w_primeCounts w_sizes w_codes ++ (wAI5 kI nno nn_arr ++ (wAI64 kI tro tr_arr)))))))))) (tl := tl) hE (c_L_at l D kI kJ kS x1 4  hq_10) (va_cwS 2 hts gL_forgets_L_at rfl rfl rfl (by decide +kernel) ⟨Nat.le_of_ble_eq_true rfl, Nat.le_of_ble_eq_true rfl⟩) hP hD hS [] [0, 1, 2, 3, 4, 5, 6, 7, 8, 9, 10, 11, 12, 13, 14, 15, 16, 17, 18, 19, 20, 21, 22, 23, 24, 25, 26, 27, 28, 29, 30] [0, 1, 2, 3, 4, 5, 6, 7, 8, 9, 10, 11, 12, 13, 14, 15, 16, 17, 18, 19, 20, 21, 22, 23, 24, 25, 26, 27, 28, 29, 30] rfl rfl rfl rfl (by decide) rfl rfl rfl hl.1 rfl (Nat.le_of_ble_eq_true rfl) dL_forgets_26 ⟨Nat.le_of_ble_eq_true rfl, Nat.le_of_ble_eq_true rfl⟩ (fun H locs hP hD hS => ?_)
    refine lv_if_ne (tgt := 179) hx hb dL_forgets_29 (by decide) (fun hc => ?_) (fun hc => ?_)
    · have hrun := it_f hc hrun
      refine lv_aload_n hx hb dL_forgets_179 rfl (lv_at hl 3 rfl) ?_
      refine lv_iconst (v := 1) hx hb dL_forgets_180 (by decide) ?_
      obtain ⟨hin, hrun⟩ := gd_some hrun
      refine va_iald hx hb hK hP 29 0 rfl rfl hin dL_forgets_181 ?_
      refine lv_iload hx hb dL_forgets_182 (lv_at hl 5 rfl) ?_
      refine lv_ishr hx hb dL_forgets_184 ?_
      refine lv_iconst (v := 1) hx hb dL_forgets_185 (by decide) ?_
      refine lv_iand hx hb dL_forgets_186 ?_
      refine lv_iconst (v := 1) hx hb dL_forgets_187 (by decide) ?_
      refine lv_icmp_ne (tgt := 195) hx hb dL_forgets_188 (by decide) (fun hc => ?_) (fun hc => ?_)
      · have hrun := it_f hc hrun
        refine lv_iconst (v := 0) hx hb dL_forgets_195 (by decide) ?_
        exact c_J196 x5 0 s_remembered s_hours h_size nn_arr h_vals t_presentIsOld _ htl hrun _ _ _ hP hD hS (lv_sub hl [0, 3, 4, 5] rfl)
      · have hrun := it_t hc hrun
        refine lv_iconst (v := 1) hx hb dL_forgets_191 (by decide) ?_
        refine lv_goto (tgt := 196) hx hb dL_forgets_192 (by decide) ?_
        exact c_J196 x5 1 s_remembered s_hours h_size nn_arr h_vals t_presentIsOld _ htl hrun _ _ _ hP hD hS (lv_sub hl [0, 3, 4, 5] rfl)
    · have hrun := it_t hc hrun
      refine lv_iconst (v := 1) hx hb dL_forgets_32 (by decide) ?_
      refine lv_iload_n hx hb dL_forgets_33 rfl (lv_at hl 2 rfl) ?_
      refine lv_iconst (v := 3) hx hb dL_forgets_34 (by decide) ?_
      refine lv_ishr hx hb dL_forgets_35 ?_
      refine lv_iconst (v := 2) hx hb dL_forgets_36 (by decide) ?_
      obtain ⟨q_11, hq_11, hrun⟩ := bd_some hrun
      refine cI_callST (As := [.int (x2 >>> ((3 : Int32) &&& 31)), .int 2]) (rest := [.int 1]) (wr := (wX6 to so ho xo po vo wo t_presentIsOld ++ (wX3 kI kJ so sa s_inputs s_remembered s_asks s_hours s_zeros s_ones s_alarms s_faults ++ (wX0 ho hr h_size ++ (wX4 kI kJ xo xa x_codes x_length ++ (wX1 kI kJ po pa p_bad p_codes p_rows p_size ++ (wX5 kI kJ vo va v_inputs v_undecidedPairs v_parts v_sharedParts v_partCares v_zeros v_ones v_undecided v_answers v_primeCounts v_sizes v_codes ++ (wX5 kI kJ wo wa w_inputs w_undecidedPairs w_parts w_sharedParts w_partCares w_zeros w_ones w_undecided w_answers w_primeCounts w_sizes w_codes ++ (wAI5 kI nno nn_arr ++ (wAI64 kI tro tr_arr)))))))))) (wN := (wX6 to so ho xo po vo wo t_presentIsOld ++ (wX3 kI kJ so sa s_inputs s_remembered s_asks s_hours s_zeros s_ones s_alarms s_faults ++ (wX0 ho hr h_size ++ (wX4 kI kJ xo xa x_codes x_length ++ (wX1 kI kJ po pa p_bad p_codes p_rows p_size ++ (wX5 kI kJ vo va v_inputs v_undecidedPairs v_parts v_sharedParts v_partCares v_zeros v_ones v_undecided v_answers v_primeCounts v_sizes v_codes ++ (wX5 kI kJ wo wa w_inputs w_undecidedPairs w_parts w_sharedParts w_partCares w_zeros w_ones w_undecided w_answers w_primeCounts w_sizes w_codes ++ (wAI5 kI nno nn_arr ++ (wAI64 kI tro tr_arr)))))))))) (tl := tl) hE (c_L_at l D kI kJ kS (x2 >>> ((3 : Int32) &&& 31)) 2  hq_11) (va_cwS 2 hts gL_forgets_L_at rfl rfl rfl (by decide +kernel) ⟨Nat.le_of_ble_eq_true rfl, Nat.le_of_ble_eq_true rfl⟩) hP hD hS [] [0, 1, 2, 3, 4, 5, 6, 7, 8, 9, 10, 11, 12, 13, 14, 15, 16, 17, 18, 19, 20, 21, 22, 23, 24, 25, 26, 27, 28, 29, 30] [0, 1, 2, 3, 4, 5, 6, 7, 8, 9, 10, 11, 12, 13, 14, 15, 16, 17, 18, 19, 20, 21, 22, 23, 24, 25, 26, 27, 28, 29, 30] rfl rfl rfl rfl (by decide) rfl rfl rfl hl.1 rfl (Nat.le_of_ble_eq_true rfl) dL_forgets_37 ⟨Nat.le_of_ble_eq_true rfl, Nat.le_of_ble_eq_true rfl⟩ (fun H locs hP hD hS => ?_)
      refine lv_iadd hx hb dL_forgets_40 ?_
      refine lv_istore (lv' := [(6, .int (1 + q_11)), (0, .ref to), (1, .int x1), (2, .int x2), (3, .ref nno), (4, .ref tro), (5, .int x5)]) hx hb dL_forgets_41 hl (by decide) rfl (fun ls hl => ?_)
      refine lv_iconst (v := 0) hx hb dL_forgets_43 (by decide) ?_
      refine lv_istore (lv' := [(7, .int 0), (6, .int (1 + q_11)), (0, .ref to), (1, .int x1), (2, .int x2), (3, .ref nno), (4, .ref tro), (5, .int x5)]) hx hb dL_forgets_44 hl (by decide) rfl (fun ls hl => ?_)
      exact c_L46 (1 + q_11) s_remembered s_hours h_size h_vals 5000 0 nn_arr t_presentIsOld _ htl hrun _ _ _ hP hD hS (lv_sub hl [2, 5, 6, 1, 0] rfl)
  unfold fL_forgets at hrun
  refine lv_iload_n hx hb dL_forgets_0 rfl (lv_at hl 2 rfl) ?_
  refine lv_aload_n hx hb dL_forgets_1 rfl (lv_at hl 3 rfl) ?_
  refine lv_iconst (v := 0) hx hb dL_forgets_2 (by decide) ?_
  obtain ⟨hin, hrun⟩ := gd_some hrun
  refine va_iald hx hb hK hP 29 0 rfl rfl hin dL_forgets_3 ?_
  obtain ⟨q_12, hq_12, hrun⟩ := bd_some hrun
  refine cI_callST (As := [.int x2, .int (nn_arr ((0 : Int32)).toNatClampNeg)]) (rest := []) (wr := (wX6 to so ho xo po vo wo t_presentIsOld ++ (wX3 kI kJ so sa s_inputs s_remembered s_asks s_hours s_zeros s_ones s_alarms s_faults ++ (wX0 ho hr h_size ++ (wX4 kI kJ xo xa x_codes x_length ++ (wX1 kI kJ po pa p_bad p_codes p_rows p_size ++ (wX5 kI kJ vo va v_inputs v_undecidedPairs v_parts v_sharedParts v_partCares v_zeros v_ones v_undecided v_answers v_primeCounts v_sizes v_codes ++ (wX5 kI kJ wo wa w_inputs w_undecidedPairs w_parts w_sharedParts w_partCares w_zeros w_ones w_undecided w_answers w_primeCounts w_sizes w_codes ++ (wAI5 kI nno nn_arr ++ (wAI64 kI tro tr_arr)))))))))) (wN := (wX6 to so ho xo po vo wo t_presentIsOld ++ (wX3 kI kJ so sa s_inputs s_remembered s_asks s_hours s_zeros s_ones s_alarms s_faults ++ (wX0 ho hr h_size ++ (wX4 kI kJ xo xa x_codes x_length ++ (wX1 kI kJ po pa p_bad p_codes p_rows p_size ++ (wX5 kI kJ vo va v_inputs v_undecidedPairs v_parts v_sharedParts v_partCares v_zeros v_ones v_undecided v_answers v_primeCounts v_sizes v_codes ++ (wX5 kI kJ wo wa w_inputs w_undecidedPairs w_parts w_sharedParts w_partCares w_zeros w_ones w_undecided w_answers w_primeCounts w_sizes w_codes ++ (wAI5 kI nno nn_arr ++ (wAI64 kI tro tr_arr)))))))))) (tl := tl) hE (c_L_at l D kI kJ kS x2 (nn_arr ((0 : Int32)).toNatClampNeg)  hq_12) (va_cwS 2 hts gL_forgets_L_at rfl rfl rfl (by decide +kernel) ⟨Nat.le_of_ble_eq_true rfl, Nat.le_of_ble_eq_true rfl⟩) hP hD hS [] [0, 1, 2, 3, 4, 5, 6, 7, 8, 9, 10, 11, 12, 13, 14, 15, 16, 17, 18, 19, 20, 21, 22, 23, 24, 25, 26, 27, 28, 29, 30] [0, 1, 2, 3, 4, 5, 6, 7, 8, 9, 10, 11, 12, 13, 14, 15, 16, 17, 18, 19, 20, 21, 22, 23, 24, 25, 26, 27, 28, 29, 30] rfl rfl rfl rfl (by decide) rfl rfl rfl hl.1 rfl (Nat.le_of_ble_eq_true rfl) dL_forgets_4 ⟨Nat.le_of_ble_eq_true rfl, Nat.le_of_ble_eq_true rfl⟩ (fun H locs hP hD hS => ?_)
  refine lv_istore (lv' := [(5, .int q_12), (0, .ref to), (1, .int x1), (2, .int x2), (3, .ref nno), (4, .ref tro)]) hx hb dL_forgets_7 hl (by decide) rfl (fun ls hl => ?_)
  refine lv_aload_n hx hb dL_forgets_9 rfl (lv_at hl 4 rfl) ?_
  refine lv_iconst (v := 4) hx hb dL_forgets_10 (by decide) ?_
  obtain ⟨hin, hrun⟩ := gd_some hrun
  refine va_iald hx hb hK hP 29 0 rfl rfl hin dL_forgets_11 ?_
  refine lv_bipush (v := 6) hx hb dL_forgets_12 (by decide) ?_
  refine lv_icmp_ge (tgt := 24) hx hb dL_forgets_14 (by decide) (fun hc => ?_) (fun hc => ?_)
  · have hrun := it_t hc hrun
    exact c_J24 x1 x2 q_12 s_remembered s_hours h_size nn_arr h_vals t_presentIsOld _ htl hrun _ _ _ hP hD hS (lv_sub hl [1, 2, 3, 4, 5, 0] rfl)
  · have hrun := it_f hc hrun
    refine lv_aload_n hx hb dL_forgets_17 rfl (lv_at hl 4 rfl) ?_
    refine lv_iconst (v := 4) hx hb dL_forgets_18 (by decide) ?_
    refine lv_dup2_11 hx hb dL_forgets_19 rfl rfl ?_
    obtain ⟨hin, hrun⟩ := gd_some hrun
    refine va_iald hx hb hK hP 29 0 rfl rfl hin dL_forgets_20 ?_
    refine lv_iconst (v := 1) hx hb dL_forgets_21 (by decide) ?_
    refine lv_iadd hx hb dL_forgets_22 ?_
    obtain ⟨hin, hrun⟩ := gd_some hrun
    refine va_iast hx hb hK hP hD hS 29 0 rfl rfl hin dL_forgets_23 (fun H locs hP hD hS => ?_)
    have hP : va_P D vwCl ((wX6 to so ho xo po vo wo t_presentIsOld ++ (wX3 kI kJ so sa s_inputs s_remembered s_asks s_hours s_zeros s_ones s_alarms s_faults ++ (wX0 ho hr h_size ++ (wX4 kI kJ xo xa x_codes x_length ++ (wX1 kI kJ po pa p_bad p_codes p_rows p_size ++ (wX5 kI kJ vo va v_inputs v_undecidedPairs v_parts v_sharedParts v_partCares v_zeros v_ones v_undecided v_answers v_primeCounts v_sizes v_codes ++ (wX5 kI kJ wo wa w_inputs w_undecidedPairs w_parts w_sharedParts w_partCares w_zeros w_ones w_undecided w_answers w_primeCounts w_sizes w_codes ++ (wAI5 kI nno (upd nn_arr ((4 : Int32)).toNatClampNeg ((nn_arr ((4 : Int32)).toNatClampNeg) + 1)) ++ (wAI64 kI tro tr_arr))))))))) ++ tl) H := hP
    have hD : va_D A ((wX6 to so ho xo po vo wo t_presentIsOld ++ (wX3 kI kJ so sa s_inputs s_remembered s_asks s_hours s_zeros s_ones s_alarms s_faults ++ (wX0 ho hr h_size ++ (wX4 kI kJ xo xa x_codes x_length ++ (wX1 kI kJ po pa p_bad p_codes p_rows p_size ++ (wX5 kI kJ vo va v_inputs v_undecidedPairs v_parts v_sharedParts v_partCares v_zeros v_ones v_undecided v_answers v_primeCounts v_sizes v_codes ++ (wX5 kI kJ wo wa w_inputs w_undecidedPairs w_parts w_sharedParts w_partCares w_zeros w_ones w_undecided w_answers w_primeCounts w_sizes w_codes ++ (wAI5 kI nno (upd nn_arr ((4 : Int32)).toNatClampNeg ((nn_arr ((4 : Int32)).toNatClampNeg) + 1)) ++ (wAI64 kI tro tr_arr))))))))) ++ tl) := hD
    obtain ⟨u_13, eu_13⟩ : ∃ y, y = upd nn_arr ((4 : Int32)).toNatClampNeg ((nn_arr ((4 : Int32)).toNatClampNeg) + 1) := ⟨_, rfl⟩
    have hrun := lt_some eu_13 hrun
    rw [← eu_13] at hP hD
    exact c_J24 x1 x2 q_12 s_remembered s_hours h_size u_13 h_vals t_presentIsOld _ htl hrun _ _ _ hP hD hS (lv_sub hl [1, 2, 3, 4, 5, 0] rfl)
