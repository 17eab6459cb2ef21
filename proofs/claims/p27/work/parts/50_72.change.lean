/-! mathematics of the class -/
theorem ST_one {n K : Nat} {Z O : Nat → Int64} {asks hours : Int32} {A F : Nat → Int32} {z : Nat → Int32} (h : ST n K Z O asks hours A F z) {o : Nat} (ho : o < 4) {z' : Nat → Int32} {x y : Int64} (hx : subR n x) (hy : subR n y) (hd : ∀ r, r < 64 → tb x r = true → tb y r = false) (h1 : ∀ r, r < 2 ^ n → z' (12 + 64 * o + r) = if tb y r = true then 1 else if tb x r = true then 0 else 2) (h2 : ∀ q, q < 268 → (q < 12 + 64 * o ∨ 12 + 64 * o + 64 ≤ q) → z' q = z q) : ST n K (vp_updL Z o x) (vp_updL O o y) asks hours A F z' := by
  obtain ⟨⟨a1, a2, a3⟩, hk, a4, a5, a6, a7⟩ := h
  have h64 := p64 hk.2.1
  refine ⟨⟨?_, ?_, fun p hp r hr => ?_⟩, ⟨hk.1, hk.2.1, hk.2.2.1, fun p hp => ?_⟩, ?_, ?_, fun p hp => ?_, fun p hp => ?_⟩
  · rw [h2 0 (by decide) (by omega)]; exact a1
  · rw [h2 1 (by decide) (by omega)]; exact a2
  · by_cases e : p = o
    · subst e
      rw [h1 r hr]
      unfold tOf
      rw [pk_uLs, pk_uLs]
    · rw [h2 _ (by omega) (by omega), a3 p hp r hr]
      unfold tOf
      rw [pk_uLn e, pk_uLn e]
  · by_cases e : p = o
    · subst e
      rw [pk_uLs, pk_uLs]
      exact ⟨hx, hy, hd⟩
    · rw [pk_uLn e, pk_uLn e]
      exact hk.2.2.2 p hp
  · rw [h2 2 (by decide) (by omega)]; exact a4
  · rw [h2 3 (by decide) (by omega)]; exact a5
  · rw [h2 _ (by omega) (by omega)]; exact a6 p hp
  · rw [h2 _ (by omega) (by omega)]; exact a7 p hp
theorem i0 : ¬ (1 : Int32) ≤ 0 := by decide
theorem i2 : ¬ (2 : Int32) ≤ 0 := by decide
theorem le00 : (0 : Int32) ≤ 0 := by decide
theorem z01 : ¬ (1 : Int32) = 0 := by decide
theorem rs_cls (Z O : Nat → Int64) {v : Nat} (hv : v ≤ 6) : ∃ w Z' O', fX3_restart Z O (nI v) = some (nI v, nI (2 ^ v - 1), Z', O') ∧ (∀ o, o < 4 → Z' o = w ∧ O' o = 0) ∧ ∀ r, r < 64 → tb w r = decide (r < 2 ^ v) := by
  obtain ⟨w, e, hw⟩ := oi_b v hv
  obtain ⟨m, s, e2, hI⟩ := loop0 (fun k i (s : (Nat → Int64) × (Nat → Int64)) => fX3_restart_L15 (nI v) (nI v) (nI (2 ^ v - 1)) k i s.1 s.2) (fun i s => ∀ o, o < i → s.1 o = w ∧ s.2 o = 0) 4 (s := (Z, O)) (by decide) (fun o ho => absurd ho (by omega)) (by
    intro m i s hi hI
    obtain ⟨a, b⟩ := s
    refine ⟨(vp_updL a i w, vp_updL b i 0), ?_, fun o ho => ?_⟩
    · show fX3_restart_L15 (nI v) (nI v) (nI (2 ^ v - 1)) (m + 1) (nI i) a b = _
      rw [fX3_restart_L15, if_neg (n4 hi), e, Option.bind_some, gd_in hi (by decide), gd_in hi (by decide), nI_clamp (by omega), nI_1]
    · show vp_updL a i w o = w ∧ vp_updL b i 0 o = 0
      by_cases hoi : o = i
      · subst hoi; exact ⟨pk_uLs, pk_uLs⟩
      · rw [pk_uLn hoi, pk_uLn hoi]
        exact hI o (by omega))
  obtain ⟨a, b⟩ := s
  refine ⟨w, a, b, ?_, hI, hw⟩
  unfold fX3_restart
  rw [is_eq v hv, Option.bind_some]
  refine Eq.trans e2 ?_
  show fX3_restart_L15 (nI v) (nI v) (nI (2 ^ v - 1)) (m + 1) (nI 4) a b = _
  rw [fX3_restart_L15, if_pos p4_]
theorem gv_cls (Z O : Nat → Int64) {o v : Nat} (ho : o < 4) (x : Int64) (hv : v ≤ 2) : fX3_give Z O (nI o) x (nI v) = some (vp_updL Z o (if v = 0 then Z o ||| x else Z o &&& (x ^^^ (-1))), vp_updL O o (if v = 1 then O o ||| x else O o &&& (x ^^^ (-1)))) := by
  unfold fX3_give
  rw [io_1 o ho, Option.bind_some, if_neg z01, gd_in ho (by decide), gd_in ho (by decide), nI_clamp (by omega)]
  unfold fX3_give_J40 fX3_give_J75
  simp only [gd_in ho (show (4 : Nat) < 2 ^ 31 by decide), nI_clamp (show o < 2 ^ 31 by omega)]
  rcases (show v = 0 ∨ v = 1 ∨ v = 2 by omega) with rfl | rfl | rfl
  · rw [if_pos nI_0, if_neg (by decide), if_pos rfl, if_neg (by decide)]
  · rw [if_neg (by decide), if_pos (by decide), if_neg (by decide), if_pos rfl]
  · rw [if_neg (by decide), if_neg (by decide), if_neg (by decide), if_neg (by decide)]
theorem gv_b (x : Int64) {r q v c : Nat} (hr : r < 64) (hq : q < 64) : tb (if v = c then x ||| lsl_ 1 (nI r) else x &&& (lsl_ 1 (nI r) ^^^ (-1))) q = if q = r then decide (v = c) else tb x q := by
  by_cases h : v = c
  · rw [if_pos h, tb_or, tb_one hr hq, decide_eq_true h]
    by_cases e : q = r
    · rw [if_pos e, decide_eq_true e, Bool.or_true]
    · rw [if_neg e, decide_eq_false e, Bool.or_false]
  · rw [if_neg h, tb_and, tb_not _ hq, tb_one hr hq, decide_eq_false h]
    by_cases e : q = r
    · rw [if_pos e, decide_eq_true e, Bool.not_true, Bool.and_false]
    · rw [if_neg e, decide_eq_false e, Bool.not_false, Bool.and_true]
def ivT (t : Int32) : Int32 := if t = 2 then 2 else 1 - t
def jnT (a b : Int32) : Int32 := if a = 1 then 1 else if b = 1 then 1 else if a = 2 then 2 else if b = 2 then 2 else 0
theorem ST_k {n K : Nat} {Z O : Nat → Int64} {asks hours : Int32} {A F : Nat → Int32} {z : Nat → Int32} (h : ST n K Z O asks hours A F z) {k : Nat} (hk : k < 2 ^ n) : ST n k Z O asks hours A F (upd z 1 (nI k)) := by
  obtain ⟨h1, h2, h3, h4, h5, h6⟩ := h
  refine ⟨TZ_k h1 k, OKs_k h2 hk, ?_, ?_, fun o ho => ?_, fun o ho => ?_⟩
  · rw [pk_un (by decide)]; exact h3
  · rw [pk_un (by decide)]; exact h4
  · rw [pk_un (by omega)]; exact h5 o ho
  · rw [pk_un (by omega)]; exact h6 o ho
theorem kb_5 : ∀ n, n ≤ 6 → ∀ K, K < 2 ^ n → ∀ i, i < n → K ||| 2 ^ i < 2 ^ n := fun n hn K hK i hi => Nat.or_lt_two_pow hK (Nat.pow_lt_pow_right (by decide) hi)
