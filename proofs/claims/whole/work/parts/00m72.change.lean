/-! changes, class and reference side by side -/
theorem ST_one {n K : Nat} {Z O : Nat → Int64} {asks hours : Int32} {A F : Nat → Int32} {z : Nat → Int32} (h : ST n K Z O asks hours A F z) {o : Nat} (ho : o < 4) {z' : Nat → Int32} {x y : Int64} (hx : subR n x) (hy : subR n y) (hd : ∀ r, r < 64 → tb x r = true → tb y r = false) (h1 : ∀ r, r < 2 ^ n → z' (12 + 64 * o + r) = if tb y r = true then 1 else if tb x r = true then 0 else 2) (h2 : ∀ q, q < 268 → (q < 12 + 64 * o ∨ 12 + 64 * o + 64 ≤ q) → z' q = z q) : ST n K (vp_updL Z o x) (vp_updL O o y) asks hours A F z' := by
  obtain ⟨⟨a1, a2, a3⟩, hk, a4, a5, a6, a7⟩ := h
  have h64 := p64 hk.2.1
  refine ⟨⟨?_, ?_, fun p hp r hr => ?_⟩, ⟨hk.1, hk.2.1, hk.2.2.1, fun p hp => ?_⟩, ?_, ?_, fun p hp => ?_, fun p hp => ?_⟩
  · rw [h2 0 (by decide) (by omega)]; exact a1
  · rw [h2 1 (by decide) (by omega)]; exact a2
  · by_cases e : p = o
    · subst e
      rw [h1 r hr]
      unfold tOf
      rw [pk_uLs, pk_uLs]
    · rw [h2 _ (by omega) (by omega), a3 p hp r hr]
      unfold tOf
      rw [pk_uLn e, pk_uLn e]
  · by_cases e : p = o
    · subst e
      rw [pk_uLs, pk_uLs]
      exact ⟨hx, hy, hd⟩
    · rw [pk_uLn e, pk_uLn e]
      exact hk.2.2.2 p hp
  · rw [h2 2 (by decide) (by omega)]; exact a4
  · rw [h2 3 (by decide) (by omega)]; exact a5
  · rw [h2 _ (by omega) (by omega)]; exact a6 p hp
  · rw [h2 _ (by omega) (by omega)]; exact a7 p hp
theorem r_rows0 {n : Nat} {z : Nat → Int32} (h : z 0 = nI n) (hn : n ≤ 6) : fX7_rows z = some (nI (2 ^ n)) := by
  unfold fX7_rows
  rw [gdz, c0_, h, al_sh n (by omega)]
theorem i0 : ¬ (1 : Int32) ≤ 0 := by decide
theorem i2 : ¬ (2 : Int32) ≤ 0 := by decide
theorem le00 : (0 : Int32) ≤ 0 := by decide
theorem z01 : ¬ (1 : Int32) = 0 := by decide
theorem rs_cls (Z O : Nat → Int64) {v : Nat} (hv : v ≤ 6) : ∃ w Z' O', fX3_restart Z O (nI v) = some (nI v, nI (2 ^ v - 1), Z', O') ∧ (∀ o, o < 4 → Z' o = w ∧ O' o = 0) ∧ ∀ r, r < 64 → tb w r = decide (r < 2 ^ v) := by
  obtain ⟨w, e, hw⟩ := oi_b v hv
  obtain ⟨m, s, e2, hI⟩ := loop0 (fun k i (s : (Nat → Int64) × (Nat → Int64)) => fX3_restart_L15 (nI v) (nI v) (nI (2 ^ v - 1)) k i s.1 s.2) (fun i s => ∀ o, o < i → s.1 o = w ∧ s.2 o = 0) 4 (s := (Z, O)) (by decide) (fun o ho => absurd ho (by omega)) (by
    intro m i s hi hI
    obtain ⟨a, b⟩ := s
    refine ⟨(vp_updL a i w, vp_updL b i 0), ?_, fun o ho => ?_⟩
    · show fX3_restart_L15 (nI v) (nI v) (nI (2 ^ v - 1)) (m + 1) (nI i) a b = _
      rw [fX3_restart_L15, if_neg (n4 hi), e, Option.bind_some, gd_in hi (by decide), gd_in hi (by decide), nI_clamp (by omega), nI_1]
    · show vp_updL a i w o = w ∧ vp_updL b i 0 o = 0
      by_cases hoi : o = i
      · subst hoi; exact ⟨pk_uLs, pk_uLs⟩
      · rw [pk_uLn hoi, pk_uLn hoi]
        exact hI o (by omega))
  obtain ⟨a, b⟩ := s
  refine ⟨w, a, b, ?_, hI, hw⟩
  unfold fX3_restart
  rw [is_eq v hv, Option.bind_some]
  refine Eq.trans e2 ?_
  show fX3_restart_L15 (nI v) (nI v) (nI (2 ^ v - 1)) (m + 1) (nI 4) a b = _
  rw [fX3_restart_L15, if_pos p4_]
theorem do_begin {n K k : Nat} {Z O : Nat → Int64} {asks hours : Int32} {A F : Nat → Int32} {z his : Nat → Int32} {hv : Nat → SV} (h : ST n K Z O asks hours A F z) (hh : HV k hv his) (x : Int32) : (fX6_begin (nI n) (nI K) asks hours Z O A F (nI k) hv x = some (.inl 0) ∧ fX7_begin z (nI k) his x = some (0, z, nI k, his, 1)) ∨ ∃ b n' K' k' Z' O' hv' z' his', fX6_begin (nI n) (nI K) asks hours Z O A F (nI k) hv x = some (.inr (b, 1, nI n', nI K', Z', O', nI k', hv')) ∧ fX7_begin z (nI k) his x = some (b, z', nI k', his', 0) ∧ ST n' K' Z' O' asks hours A F z' ∧ HV k' hv' his' := by
  unfold fX6_begin fX7_begin
  rcases crg (lo := 1) (hi := 6) (by decide) (by decide) (a := 1) (b := 6) rfl rfl x with ⟨e1, e2⟩ | ⟨v, v1, v2, rfl, e1, e2⟩
  · rw [e1, e2, tb_l, Option.bind_some, if_pos rfl]
    unfold fX7_begin_J16
    rw [if_neg i0]
    exact Or.inl ⟨rfl, rfl⟩
  · rw [e1, e2, tb_r, Option.bind_some, if_neg z01]
    obtain ⟨k', hv', his', e3, e4, h3, h4⟩ := keep2 h hh
    obtain ⟨w, Z', O', e5, h5, h6⟩ := rs_cls Z O v2
    have hp := Nat.two_pow_pos v
    have h64 := p64 v2
    unfold fX7_begin_J16
    rw [e3, Option.bind_some, e5, Option.bind_some, if_pos le00, e4, Option.bind_some, gdz, gdz, gdo, lt_e, c0_, c1_, sh_n v2, show nI (2 ^ v) - 1 = nI (2 ^ v - 1) from pk_sub (b := 1) hp, h.1.1]
    obtain ⟨m, s, e6, hI⟩ := loopI (fun n2 i s => fX7_begin_L60 (nI n) (nI (k' + 1)) his' 0 n2 i s) (fun i s => 12 ≤ i ∧ (∀ q, 12 ≤ q → q < i → s q = 0) ∧ ∀ q, q < 12 → s q = upd (upd z 0 (nI v)) 1 (nI (2 ^ v - 1)) q) 268 (by
      intro m i s hi hI
      obtain ⟨g0, g1, g2⟩ := hI
      refine ⟨upd s i 0, ?_, by omega, fun q q1 q2 => ?_, fun q q1 => ?_⟩
      · show fX7_begin_L60 (nI n) (nI (k' + 1)) his' 0 (m + 1) (nI i) s = _
        rw [fX7_begin_L60, if_neg (n268 hi), gd_in hi (by decide), nI_clamp (by omega), nI_1]
      · by_cases e : q = i
        · subst e; exact pk_us
        · rw [pk_un e]; exact g1 q q1 (by omega)
      · rw [pk_un (by omega)]; exact g2 q q1) 256 12 5000 (upd (upd z 0 (nI v)) 1 (nI (2 ^ v - 1))) (by decide) (by decide) ⟨Nat.le_refl _, fun q q1 q2 => absurd q1 (by omega), fun _ _ => rfl⟩
    obtain ⟨_, g1, g2⟩ := hI
    refine Or.inr ⟨nI n, v, 2 ^ v - 1, k' + 1, Z', O', hv', s, his', rfl, ?_, ⟨⟨?_, ?_, fun o ho r hr => ?_⟩, ⟨v1, v2, by omega, fun o ho => ?_⟩, ?_, ?_, fun o ho => ?_, fun o ho => ?_⟩, h3⟩
    · refine Eq.trans e6 ?_
      show fX7_begin_L60 (nI n) (nI (k' + 1)) his' 0 (m + 1) (nI 268) s = _
      rw [fX7_begin_L60, if_pos (by decide)]
    · rw [g2 0 (by decide), pk_un (by decide), pk_us]
    · rw [g2 1 (by decide), pk_us]
    · rw [g1 _ (by omega) (by omega)]
      unfold tOf
      rw [(h5 o ho).1, (h5 o ho).2, tb_0, h6 r (by omega), decide_eq_true hr]
      rfl
    · rw [(h5 o ho).1, (h5 o ho).2]
      refine ⟨fun r hr hb => ?_, fun r hr hb => ?_, fun r hr hb => tb_0 r⟩
      · rw [h6 r hr] at hb
        exact of_decide_eq_true hb
      · rw [tb_0] at hb
        exact absurd hb (by decide)
    · rw [g2 2 (by decide), pk_un (by decide), pk_un (by decide)]; exact h.2.2.1
    · rw [g2 3 (by decide), pk_un (by decide), pk_un (by decide)]; exact h.2.2.2.1
    · rw [g2 _ (by omega), pk_un (by omega), pk_un (by omega)]; exact h.2.2.2.2.1 o ho
    · rw [g2 _ (by omega), pk_un (by omega), pk_un (by omega)]; exact h.2.2.2.2.2 o ho
theorem gv_cls (Z O : Nat → Int64) {o v : Nat} (ho : o < 4) (x : Int64) (hv : v ≤ 2) : fX3_give Z O (nI o) x (nI v) = some (vp_updL Z o (if v = 0 then Z o ||| x else Z o &&& (x ^^^ (-1))), vp_updL O o (if v = 1 then O o ||| x else O o &&& (x ^^^ (-1)))) := by
  unfold fX3_give
  rw [io_1 o ho, Option.bind_some, if_neg z01, gd_in ho (by decide), gd_in ho (by decide), nI_clamp (by omega)]
  unfold fX3_give_J40 fX3_give_J75
  simp only [gd_in ho (show (4 : Nat) < 2 ^ 31 by decide), nI_clamp (show o < 2 ^ 31 by omega)]
  rcases (show v = 0 ∨ v = 1 ∨ v = 2 by omega) with rfl | rfl | rfl
  · rw [if_pos nI_0, if_neg (by decide), if_pos rfl, if_neg (by decide)]
  · rw [if_neg (by decide), if_pos (by decide), if_neg (by decide), if_pos rfl]
  · rw [if_neg (by decide), if_neg (by decide), if_neg (by decide), if_neg (by decide)]
theorem gv_b (x : Int64) {r q v c : Nat} (hr : r < 64) (hq : q < 64) : tb (if v = c then x ||| lsl_ 1 (nI r) else x &&& (lsl_ 1 (nI r) ^^^ (-1))) q = if q = r then decide (v = c) else tb x q := by
  by_cases h : v = c
  · rw [if_pos h, tb_or, tb_one hr hq, decide_eq_true h]
    by_cases e : q = r
    · rw [if_pos e, decide_eq_true e, Bool.or_true]
    · rw [if_neg e, decide_eq_false e, Bool.or_false]
  · rw [if_neg h, tb_and, tb_not _ hq, tb_one hr hq, decide_eq_false h]
    by_cases e : q = r
    · rw [if_pos e, decide_eq_true e, Bool.not_true, Bool.and_false]
    · rw [if_neg e, decide_eq_false e, Bool.not_false, Bool.and_true]
theorem do_set {n K k : Nat} {Z O : Nat → Int64} {asks hours : Int32} {A F : Nat → Int32} {z his : Nat → Int32} {hv : Nat → SV} (h : ST n K Z O asks hours A F z) (hh : HV k hv his) (x1 x2 x3 : Int32) : (fX6_set (nI n) (nI K) asks hours Z O A F (nI k) hv x1 x2 x3 = some (.inl 1) ∧ fX7_set z (nI k) his x1 x2 x3 = some (0, z, nI k, his, 1)) ∨ (fX6_set (nI n) (nI K) asks hours Z O A F (nI k) hv x1 x2 x3 = some (.inl 0) ∧ fX7_set z (nI k) his x1 x2 x3 = some (0, z, nI k, his, 2)) ∨ ∃ b k' Z' O' hv' z' his', fX6_set (nI n) (nI K) asks hours Z O A F (nI k) hv x1 x2 x3 = some (.inr (b, 1, Z', O', nI k', hv')) ∧ fX7_set z (nI k) his x1 x2 x3 = some (b, z', nI k', his', 0) ∧ ST n K Z' O' asks hours A F z' ∧ HV k' hv' his' := by
  have hn := h.2.1.2.1
  have h64 := p64 hn
  unfold fX6_set fX7_set
  rcases cko x1 with ⟨e1, e2⟩ | ⟨o, ho, rfl, e1, e2⟩
  · rw [e1, e2, tb_l, Option.bind_some, if_pos rfl]
    unfold fX7_set_J16 fX7_set_J34
    rw [if_neg i0]
    exact Or.inl ⟨rfl, rfl⟩
  · rw [e1, e2, tb_r, Option.bind_some, if_neg z01]
    rcases ckr h.1 hn x2 with ⟨e3, e4⟩ | ⟨r, hr, rfl, e3, e4⟩
    · rw [e3, e4, tb_l, Option.bind_some, if_pos rfl]
      unfold fX7_set_J16 fX7_set_J34
      rw [if_neg i0]
      exact Or.inl ⟨rfl, rfl⟩
    · rw [e3, e4, tb_r, Option.bind_some, if_neg z01]
      rcases crg (lo := 0) (hi := 2) (by decide) (by decide) (a := 0) (b := 2) rfl rfl x3 with ⟨e5, e6⟩ | ⟨v, v1, v2, rfl, e5, e6⟩
      · rw [e5, e6, tb_l, Option.bind_some, if_pos rfl]
        unfold fX7_set_J34
        rw [if_neg i2]
        exact Or.inr (Or.inl ⟨rfl, rfl⟩)
      · rw [e5, e6, tb_r, Option.bind_some, if_neg z01]
        obtain ⟨k', hv', his', e7, e8, h3, h4⟩ := keep2 h hh
        have hr64 : r < 64 := by omega
        unfold fX7_set_J34
        rw [ta_cls Z O ho hr64, Option.bind_some, e7, Option.bind_some, gv_cls Z O ho _ v2, Option.bind_some, if_pos le00, e8, Option.bind_some, r_truth z ho hr64, Option.bind_some, r_set z _ ho hr64, Option.bind_some, h.1.2.2 o ho r hr]
        obtain ⟨hz1, hz2, hz3⟩ := h.2.1.2.2.2 o ho
        refine Or.inr (Or.inr ⟨_, _, _, _, _, _, _, rfl, rfl, ST_one h ho ?_ ?_ ?_ ?_ ?_, h3⟩)
        · intro q hq hb
          rw [gv_b _ hr64 hq] at hb
          by_cases e : q = r
          · omega
          · rw [if_neg e] at hb
            exact hz1 q hq hb
        · intro q hq hb
          rw [gv_b _ hr64 hq] at hb
          by_cases e : q = r
          · omega
          · rw [if_neg e] at hb
            exact hz2 q hq hb
        · intro q hq hb
          rw [gv_b _ hr64 hq] at hb ⊢
          by_cases e : q = r
          · rw [if_pos e] at hb ⊢
            have := of_decide_eq_true hb
            exact decide_eq_false (by omega)
          · rw [if_neg e] at hb ⊢
            exact hz3 q hq hb
        · intro q hq
          have hq64 : q < 64 := by omega
          have h9 := h.1.2.2 o ho q hq
          unfold tOf at h9
          rw [gv_b _ hr64 hq64, gv_b _ hr64 hq64]
          by_cases e : q = r
          · subst e
            rw [pk_us, if_pos rfl, if_pos rfl]
            rcases (show v = 0 ∨ v = 1 ∨ v = 2 by omega) with rfl | rfl | rfl <;> decide
          · rw [pk_un (by omega), h9, if_neg e, if_neg e]
        · intro q hq hq2
          exact pk_un (by omega)
def ivT (t : Int32) : Int32 := if t = 2 then 2 else 1 - t
theorem iv_ref {n K : Nat} {Z O : Nat → Int64} {asks hours : Int32} {A F : Nat → Int32} {z : Nat → Int32} (h : ST n K Z O asks hours A F z) {o : Nat} (ho : o < 4) (nst : Int32) (his : Nat → Int32) : ∃ z', fX7_invert_L31 (nI o) nst his 0 5000 0 z = fX7_invert_J70 (nI o) z' nst his 0 ∧ (∀ r, r < 2 ^ n → z' (12 + 64 * o + r) = ivT (tOf Z O o r)) ∧ ∀ q, q < 268 → (q < 12 + 64 * o ∨ 12 + 64 * o + 64 ≤ q) → z' q = z q := by
  have hn := h.2.1.2.1
  have h64 := p64 hn
  obtain ⟨m, s, e, h1, h2⟩ := loop0 (fun k i s => fX7_invert_L31 (nI o) nst his 0 k i s) (fun i s => (∀ r, r < i → s (12 + 64 * o + r) = ivT (tOf Z O o r)) ∧ ∀ q, (q < 12 + 64 * o ∨ 12 + 64 * o + i ≤ q) → s q = z q) (2 ^ n) (s := z) (by omega) ⟨fun r hr => absurd hr (by omega), fun _ _ => rfl⟩ (by
    intro m i s hi hI
    obtain ⟨h1, h2⟩ := hI
    refine ⟨upd s (12 + 64 * o + i) (ivT (tOf Z O o i)), ?_, fun r hr => ?_, fun q hq => ?_⟩
    · show fX7_invert_L31 (nI o) nst his 0 (m + 1) (nI i) s = _
      rw [fX7_invert_L31, r_rows0 (by rw [h2 0 (by omega)]; exact h.1.1) hn, Option.bind_some, if_neg (nI_ge hi (by omega)), r_truth s ho (by omega), Option.bind_some, h2 _ (by omega), h.1.2.2 o ho i hi]
      unfold fX7_invert_J61 ivT
      by_cases q : tOf Z O o i = 2
      · rw [if_pos q, if_pos q, r_set s _ ho (by omega), Option.bind_some, nI_1]
      · rw [if_neg q, if_neg q, r_set s _ ho (by omega), Option.bind_some, nI_1]
    · by_cases e : r = i
      · subst e; exact pk_us
      · rw [pk_un (by omega)]; exact h1 r (by omega)
    · rw [pk_un (by omega)]; exact h2 q (by omega))
  refine ⟨s, ?_, h1, fun q _ hq => h2 q (by omega)⟩
  refine Eq.trans e ?_
  show fX7_invert_L31 (nI o) nst his 0 (m + 1) (nI (2 ^ n)) s = _
  rw [fX7_invert_L31, r_rows0 (by rw [h2 0 (by omega)]; exact h.1.1) hn, Option.bind_some, if_pos (nI_le (Nat.le_refl _) (by omega))]
theorem do_invert {n K k : Nat} {Z O : Nat → Int64} {asks hours : Int32} {A F : Nat → Int32} {z his : Nat → Int32} {hv : Nat → SV} (h : ST n K Z O asks hours A F z) (hh : HV k hv his) (x1 : Int32) : (fX6_invert (nI n) (nI K) asks hours Z O A F (nI k) hv x1 = some (.inl 1) ∧ fX7_invert z (nI k) his x1 = some (0, z, nI k, his, 1)) ∨ ∃ b k' Z' O' hv' z' his', fX6_invert (nI n) (nI K) asks hours Z O A F (nI k) hv x1 = some (.inr (b, 1, Z', O', nI k', hv')) ∧ fX7_invert z (nI k) his x1 = some (b, z', nI k', his', 0) ∧ ST n K Z' O' asks hours A F z' ∧ HV k' hv' his' := by
  have hn := h.2.1.2.1
  have h64 := p64 hn
  unfold fX6_invert fX7_invert
  rcases cko x1 with ⟨e1, e2⟩ | ⟨o, ho, rfl, e1, e2⟩
  · rw [e1, e2, tb_l, Option.bind_some, if_pos rfl]
    unfold fX7_invert_J13
    rw [if_neg i0]
    exact Or.inl ⟨rfl, rfl⟩
  · rw [e1, e2, tb_r, Option.bind_some, if_neg z01]
    obtain ⟨k', hv', his', e7, e8, h3, h4⟩ := keep2 h hh
    obtain ⟨hz1, hz2, hz3⟩ := h.2.1.2.2.2 o ho
    obtain ⟨z', e9, g1, g2⟩ := iv_ref h ho (nI (k' + 1)) his'
    have hST : ST n K (vp_updL Z o (O o)) (vp_updL O o (Z o)) asks hours A F z' := ST_one h ho hz2 hz1 (fun r hr hb => by
      cases q : tb (Z o) r
      · rfl
      · rw [hz3 r hr q] at hb
        exact absurd hb (by decide)) (fun r hr => by
      rw [g1 r hr]
      unfold tOf ivT
      have := hz3 r (by omega)
      revert this
      cases tb (Z o) r <;> cases tb (O o) r <;> intro h9 <;> first | decide | exact absurd (h9 rfl) (by decide)) g2
    have et : fX3_turnAround Z O (nI o) = some (vp_updL Z o (O o), vp_updL O o (Z o)) := by
      unfold fX3_turnAround
      rw [io_1 o ho, Option.bind_some, if_neg z01, gd_in ho (by decide), gd_in ho (by decide), gd_in ho (by decide), gd_in ho (by decide), nI_clamp (by omega)]
    unfold fX7_invert_J13
    rw [e7, Option.bind_some, et, Option.bind_some, on_cls _ ho, Option.bind_some, pc_cls, Option.bind_some, if_pos le00, e8, Option.bind_some, e9]
    unfold fX7_invert_J70
    rw [tr_1 hST.1 hST.2.1 ho, Option.bind_some]
    exact Or.inr ⟨_, _, _, _, _, _, _, rfl, rfl, hST, h3⟩
def jnT (a b : Int32) : Int32 := if a = 1 then 1 else if b = 1 then 1 else if a = 2 then 2 else if b = 2 then 2 else 0
theorem jn_ref {n K : Nat} {Z O : Nat → Int64} {asks hours : Int32} {A F : Nat → Int32} {z : Nat → Int32} (h : ST n K Z O asks hours A F z) {o p : Nat} (ho : o < 4) (hp : p < 4) (hop : o ≠ p) (nst : Int32) (his : Nat → Int32) : ∃ z', fX7_join_L47 (nI o) (nI p) nst his 0 5000 0 z = fX7_join_J116 (nI o) z' nst his 0 ∧ (∀ r, r < 2 ^ n → z' (12 + 64 * o + r) = jnT (tOf Z O o r) (tOf Z O p r)) ∧ ∀ q, q < 268 → (q < 12 + 64 * o ∨ 12 + 64 * o + 64 ≤ q) → z' q = z q := by
  have hn := h.2.1.2.1
  have h64 := p64 hn
  obtain ⟨m, s, e, h1, h2⟩ := loop0 (fun k i s => fX7_join_L47 (nI o) (nI p) nst his 0 k i s) (fun i s => (∀ r, r < i → s (12 + 64 * o + r) = jnT (tOf Z O o r) (tOf Z O p r)) ∧ ∀ q, (q < 12 + 64 * o ∨ 12 + 64 * o + i ≤ q) → s q = z q) (2 ^ n) (s := z) (by omega) ⟨fun r hr => absurd hr (by omega), fun _ _ => rfl⟩ (by
    intro m i s hi hI
    obtain ⟨h1, h2⟩ := hI
    refine ⟨upd s (12 + 64 * o + i) (jnT (tOf Z O o i) (tOf Z O p i)), ?_, fun r hr => ?_, fun q hq => ?_⟩
    · show fX7_join_L47 (nI o) (nI p) nst his 0 (m + 1) (nI i) s = _
      rw [fX7_join_L47, r_rows0 (by rw [h2 0 (by omega)]; exact h.1.1) hn, Option.bind_some, if_neg (nI_ge hi (by omega)), r_truth s ho (by omega), Option.bind_some, r_truth s hp (by omega), Option.bind_some, h2 (12 + 64 * o + i) (by omega), h2 (12 + 64 * p + i) (by omega), h.1.2.2 o ho i hi, h.1.2.2 p hp i hi]
      unfold fX7_join_J86 fX7_join_J102 fX7_join_J107 jnT
      simp only [r_set s _ ho (show i < 64 by omega), Option.bind_some, nI_1]
      split
      · rfl
      · split
        · rfl
        · split
          · rfl
          · split <;> rfl
    · by_cases e : r = i
      · subst e; exact pk_us
      · rw [pk_un (by omega)]; exact h1 r (by omega)
    · rw [pk_un (by omega)]; exact h2 q (by omega))
  refine ⟨s, ?_, h1, fun q _ hq => h2 q (by omega)⟩
  refine Eq.trans e ?_
  show fX7_join_L47 (nI o) (nI p) nst his 0 (m + 1) (nI (2 ^ n)) s = _
  rw [fX7_join_L47, r_rows0 (by rw [h2 0 (by omega)]; exact h.1.1) hn, Option.bind_some, if_pos (nI_le (Nat.le_refl _) (by omega))]
theorem do_join {n K k : Nat} {Z O : Nat → Int64} {asks hours : Int32} {A F : Nat → Int32} {z his : Nat → Int32} {hv : Nat → SV} (h : ST n K Z O asks hours A F z) (hh : HV k hv his) (x1 x2 : Int32) : (fX6_join (nI n) (nI K) asks hours Z O A F (nI k) hv x1 x2 = some (.inl 1) ∧ fX7_join z (nI k) his x1 x2 = some (0, z, nI k, his, 1)) ∨ (fX6_join (nI n) (nI K) asks hours Z O A F (nI k) hv x1 x2 = some (.inl 0) ∧ fX7_join z (nI k) his x1 x2 = some (0, z, nI k, his, 2)) ∨ ∃ b k' Z' O' hv' z' his', fX6_join (nI n) (nI K) asks hours Z O A F (nI k) hv x1 x2 = some (.inr (b, 1, Z', O', nI k', hv')) ∧ fX7_join z (nI k) his x1 x2 = some (b, z', nI k', his', 0) ∧ ST n K Z' O' asks hours A F z' ∧ HV k' hv' his' := by
  have hn := h.2.1.2.1
  have h64 := p64 hn
  unfold fX6_join fX7_join
  rcases cko x1 with ⟨e1, e2⟩ | ⟨o, ho, rfl, e1, e2⟩
  · rw [e1, e2, tb_l, Option.bind_some, if_pos rfl]
    unfold fX7_join_J15 fX7_join_J29
    rw [if_neg i0]
    exact Or.inl ⟨rfl, rfl⟩
  · rw [e1, e2, tb_r, Option.bind_some, if_neg z01]
    rcases cko x2 with ⟨e3, e4⟩ | ⟨p, hp, rfl, e3, e4⟩
    · rw [e3, e4, tb_l, Option.bind_some, if_pos rfl]
      unfold fX7_join_J15 fX7_join_J29
      rw [if_neg i0]
      exact Or.inl ⟨rfl, rfl⟩
    · rw [e3, e4, tb_r, Option.bind_some, if_neg z01]
      by_cases hop : o = p
      · rw [if_pos (by rw [hop]), if_pos (by rw [hop])]
        unfold fX7_join_J29
        rw [if_neg i2]
        exact Or.inr (Or.inl ⟨rfl, rfl⟩)
      · have hne : ¬ nI o = nI p := fun w => hop ((nI_eq (by omega) (by omega)).mp w)
        rw [if_neg hne, if_neg hne]
        obtain ⟨k', hv', his', e7, e8, h3, h4⟩ := keep2 h hh
        obtain ⟨a1, a2, a3⟩ := h.2.1.2.2.2 o ho
        obtain ⟨b1, b2, b3⟩ := h.2.1.2.2.2 p hp
        obtain ⟨z', e9, g1, g2⟩ := jn_ref h ho hp hop (nI (k' + 1)) his'
        have hST : ST n K (vp_updL Z o (Z o &&& Z p)) (vp_updL O o (O o ||| O p)) asks hours A F z' := ST_one h ho (fun r hr hb => by
          rw [tb_and, Bool.and_eq_true] at hb
          exact a1 r hr hb.1) (fun r hr hb => by
          rw [tb_or, Bool.or_eq_true] at hb
          rcases hb with hb | hb
          · exact a2 r hr hb
          · exact b2 r hr hb) (fun r hr hb => by
          rw [tb_and, Bool.and_eq_true] at hb
          rw [tb_or, a3 r hr hb.1, b3 r hr hb.2]
          rfl) (fun r hr => by
          rw [g1 r hr, tb_or, tb_and]
          unfold tOf jnT
          have u := a3 r (by omega)
          have w := b3 r (by omega)
          revert u w
          cases tb (Z o) r <;> cases tb (O o) r <;> cases tb (Z p) r <;> cases tb (O p) r <;> intro u w <;> first | decide | exact absurd (u rfl) (by decide) | exact absurd (w rfl) (by decide)) g2
        have et : fX3_takeIn Z O (nI o) (nI p) = some (vp_updL Z o (Z o &&& Z p), vp_updL O o (O o ||| O p)) := by
          unfold fX3_takeIn
          rw [io_1 o ho, Option.bind_some, if_neg z01, gd_in ho (by decide), on_cls O hp, Option.bind_some, gd_in ho (by decide), lt_e, gd_in ho (by decide), zo_cls Z hp, Option.bind_some, gd_in ho (by decide), lt_e, nI_clamp (by omega)]
        unfold fX7_join_J29
        rw [e7, Option.bind_some, et, Option.bind_some, on_cls _ ho, Option.bind_some, pc_cls, Option.bind_some, if_pos le00, e8, Option.bind_some, e9]
        unfold fX7_join_J116
        rw [tr_1 hST.1 hST.2.1 ho, Option.bind_some]
        exact Or.inr (Or.inr ⟨_, _, _, _, _, _, _, rfl, rfl, hST, h3⟩)
/-! remembered inputs -/
theorem ST_k {n K : Nat} {Z O : Nat → Int64} {asks hours : Int32} {A F : Nat → Int32} {z : Nat → Int32} (h : ST n K Z O asks hours A F z) {k : Nat} (hk : k < 2 ^ n) : ST n k Z O asks hours A F (upd z 1 (nI k)) := by
  obtain ⟨h1, h2, h3, h4, h5, h6⟩ := h
  refine ⟨TZ_k h1 k, OKs_k h2 hk, ?_, ?_, fun o ho => ?_, fun o ho => ?_⟩
  · rw [pk_un (by decide)]; exact h3
  · rw [pk_un (by decide)]; exact h4
  · rw [pk_un (by omega)]; exact h5 o ho
  · rw [pk_un (by omega)]; exact h6 o ho
theorem do_forget {n K k : Nat} {Z O : Nat → Int64} {asks hours : Int32} {A F : Nat → Int32} {z his : Nat → Int32} {hv : Nat → SV} (h : ST n K Z O asks hours A F z) (hh : HV k hv his) (x1 : Int32) : (fX6_forget (nI n) (nI K) asks hours Z O A F (nI k) hv x1 = some (.inl 1) ∧ fX7_forget z (nI k) his x1 = some (0, z, nI k, his, 1)) ∨ (fX6_forget (nI n) (nI K) asks hours Z O A F (nI k) hv x1 = some (.inl 2) ∧ fX7_forget z (nI k) his x1 = some (0, z, nI k, his, 2)) ∨ ∃ b K' k' hv' z' his', fX6_forget (nI n) (nI K) asks hours Z O A F (nI k) hv x1 = some (.inr (b, 1, nI K', nI k', hv')) ∧ fX7_forget z (nI k) his x1 = some (b, z', nI k', his', 0) ∧ ST n K' Z O asks hours A F z' ∧ HV k' hv' his' := by
  have hn := h.2.1.2.1
  have h64 := p64 hn
  have hK64 : K < 64 := Nat.lt_of_lt_of_le h.2.1.2.2.1 h64
  unfold fX6_forget fX7_forget
  rcases cki h.1 h.2.1.1 hn x1 with ⟨e1, e2⟩ | ⟨i, hi, rfl, e1, e2⟩
  · rw [e1, e2, tb_l, Option.bind_some, if_pos rfl]
    unfold fX7_forget_J26
    rw [if_neg i0]
    exact Or.inl ⟨rfl, rfl⟩
  · rw [e1, e2, tb_r, Option.bind_some, if_neg z01, ik_cls hK64 (by omega), Option.bind_some, ik_ref h.1 hK64 (by omega), Option.bind_some]
    unfold fX7_forget_J26
    cases q : K.testBit i
    · rw [if_pos (show bI false = 0 from rfl), if_pos (show bI false = 0 from rfl), if_neg i2]
      exact Or.inr (Or.inl ⟨rfl, rfl⟩)
    · obtain ⟨k', hv', his', e7, e8, h3, h4⟩ := keep2 h hh
      have hms := ms_p2 hn h.2.1.2.2.1 (2 ^ i)
      have hms64 := ms_lt hK64 (2 ^ i)
      have hST := ST_k h hms
      have ef : fX3_forgotten (nI n) (nI (ms K (2 ^ i))) = some (nI (fg n (ms K (2 ^ i)))) := by
        unfold fX3_forgotten
        rw [is_eq n hn, Option.bind_some, fg_m n hn _ hms64]
      rw [if_neg (show ¬ bI true = 0 by decide), if_neg (show ¬ bI true = 0 by decide), e7, Option.bind_some, al_sh i (by omega), kb_1 K hK64 i (by omega), ef, Option.bind_some, un_cls Z O (fg_lt n _), Option.bind_some, if_pos le00, e8, Option.bind_some, gdo, gdo, lt_e, c1_, h.1.2.1, kb_1 K hK64 i (by omega), un_ref hST.1 hST.2.1, Option.bind_some]
      exact Or.inr (Or.inr ⟨_, _, _, _, _, _, rfl, rfl, hST, h3⟩)
theorem kb_5 : ∀ n, n ≤ 6 → ∀ K, K < 2 ^ n → ∀ i, i < n → K ||| 2 ^ i < 2 ^ n := fun n hn K hK i hi => Nat.or_lt_two_pow hK (Nat.pow_lt_pow_right (by decide) hi)
theorem do_remember {n K k : Nat} {Z O : Nat → Int64} {asks hours : Int32} {A F : Nat → Int32} {z his : Nat → Int32} {hv : Nat → SV} (h : ST n K Z O asks hours A F z) (hh : HV k hv his) (x1 : Int32) : (fX6_remember (nI n) (nI K) asks hours Z O A F (nI k) hv x1 = some (.inl 1) ∧ fX7_remember z (nI k) his x1 = some (0, z, nI k, his, 1)) ∨ (fX6_remember (nI n) (nI K) asks hours Z O A F (nI k) hv x1 = some (.inl 2) ∧ fX7_remember z (nI k) his x1 = some (0, z, nI k, his, 2)) ∨ ∃ b K' k' hv' z' his', fX6_remember (nI n) (nI K) asks hours Z O A F (nI k) hv x1 = some (.inr (b, 1, nI K', nI k', hv')) ∧ fX7_remember z (nI k) his x1 = some (b, z', nI k', his', 0) ∧ ST n K' Z O asks hours A F z' ∧ HV k' hv' his' := by
  have hn := h.2.1.2.1
  have h64 := p64 hn
  have hK64 : K < 64 := Nat.lt_of_lt_of_le h.2.1.2.2.1 h64
  unfold fX6_remember fX7_remember
  rcases cki h.1 h.2.1.1 hn x1 with ⟨e1, e2⟩ | ⟨i, hi, rfl, e1, e2⟩
  · rw [e1, e2, tb_l, Option.bind_some, if_pos rfl]
    unfold fX7_remember_J26
    rw [if_neg i0]
    exact Or.inl ⟨rfl, rfl⟩
  · rw [e1, e2, tb_r, Option.bind_some, if_neg z01, ik_cls hK64 (by omega), Option.bind_some, ik_ref h.1 hK64 (by omega), Option.bind_some]
    unfold fX7_remember_J26
    cases q : K.testBit i
    · obtain ⟨k', hv', his', e7, e8, h3, h4⟩ := keep2 h hh
      have hms := kb_5 n hn K h.2.1.2.2.1 i hi
      have hms64 : K ||| 2 ^ i < 64 := by omega
      have hST := ST_k h hms
      have ef : fX3_forgotten (nI n) (nI (K ||| 2 ^ i)) = some (nI (fg n (K ||| 2 ^ i))) := by
        unfold fX3_forgotten
        rw [is_eq n hn, Option.bind_some, fg_m n hn _ hms64]
      rw [if_pos (show bI false = 0 from rfl), if_pos (show bI false = 0 from rfl), e7, Option.bind_some, al_sh i (by omega), nI_orr, ef, Option.bind_some, un_cls Z O (fg_lt n _), Option.bind_some, if_pos le00, e8, Option.bind_some, gdo, gdo, lt_e, c1_, h.1.2.1, nI_orr, un_ref hST.1 hST.2.1, Option.bind_some]
      exact Or.inr (Or.inr ⟨_, _, _, _, _, _, rfl, rfl, hST, h3⟩)
    · rw [if_neg (show ¬ bI true = 0 by decide), if_neg (show ¬ bI true = 0 by decide), if_neg i2]
      exact Or.inr (Or.inl ⟨rfl, rfl⟩)
