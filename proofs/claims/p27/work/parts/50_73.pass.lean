/-! mathematics of the class -/
theorem vw_cls {n K : Nat} {Z O : Nat → Int64} (hk : OKs n K Z O) (po : Int32) (bad : Nat → Int64) (co : Nat → Int32) (ro : Nat → Int64) (si : Int32) (vi vu vp vs vc : Int32) (vz vo vn va : Nat → Int64) (vq vk vd : Nat → Int32) (hv : po = 0 → VW n K Z O vi vu vp vs vc vz vo vn va vq vk vd) : ∃ bad' co' ro' si' vi' vu' vp' vs' vc' vz' vo' vn' va' vq' vk' vd', fX6_viewOfPresent po (nI n) (nI K) Z O bad co ro si vi vu vp vs vc vz vo vn va vq vk vd = some (0, bad', co', ro', si', vi', vu', vp', vs', vc', vz', vo', vn', va', vq', vk', vd') ∧ VW n K Z O vi' vu' vp' vs' vc' vz' vo' vn' va' vq' vk' vd' := by
  unfold fX6_viewOfPresent
  by_cases h : po = 0
  · rw [if_pos h, h]
    exact ⟨bad, co, ro, si, vi, vu, vp, vs, vc, vz, vo, vn, va, vq, vk, vd, rfl, hv h⟩
  · rw [if_neg h]
    obtain ⟨vi', vu', vp', vs', vc', vz', vo', vn', va', vq', vk', vd', b, c, r, s, e, hw⟩ := lk_cls hk vz vo vn va vq vk vd bad co ro si
    rw [e, Option.bind_some]
    exact ⟨b, c, r, s, vi', vu', vp', vs', vc', vz', vo', vn', va', vq', vk', vd', rfl, hw⟩
theorem ST_h {n K : Nat} {Z O : Nat → Int64} {asks hours : Int32} {A F : Nat → Int32} {z : Nat → Int32} (h : ST n K Z O asks hours A F z) (x : Int32) : ST n K Z O asks x A F (upd z 3 x) := by
  obtain ⟨⟨h1, h2, h3⟩, hk, h4, h5, h6, h7⟩ := h
  refine ⟨⟨?_, ?_, fun o ho r hr => ?_⟩, hk, ?_, pk_us, fun o ho => ?_, fun o ho => ?_⟩
  · rw [pk_un (by decide)]; exact h1
  · rw [pk_un (by decide)]; exact h2
  · rw [pk_un (by omega)]; exact h3 o ho r hr
  · rw [pk_un (by decide)]; exact h4
  · rw [pk_un (by omega)]; exact h6 o ho
  · rw [pk_un (by omega)]; exact h7 o ho
theorem ST_a {n K : Nat} {Z O : Nat → Int64} {asks hours : Int32} {A F : Nat → Int32} {z : Nat → Int32} (h : ST n K Z O asks hours A F z) (x : Int32) : ST n K Z O x hours A F (upd z 2 x) := by
  obtain ⟨⟨h1, h2, h3⟩, hk, h4, h5, h6, h7⟩ := h
  refine ⟨⟨?_, ?_, fun o ho r hr => ?_⟩, hk, pk_us, ?_, fun o ho => ?_, fun o ho => ?_⟩
  · rw [pk_un (by decide)]; exact h1
  · rw [pk_un (by decide)]; exact h2
  · rw [pk_un (by omega)]; exact h3 o ho r hr
  · rw [pk_un (by decide)]; exact h5
  · rw [pk_un (by omega)]; exact h6 o ho
  · rw [pk_un (by omega)]; exact h7 o ho
theorem ST_al {n K : Nat} {Z O : Nat → Int64} {asks hours : Int32} {A F : Nat → Int32} {z : Nat → Int32} (h : ST n K Z O asks hours A F z) {o : Nat} (ho : o < 4) (x : Int32) : ST n K Z O asks hours (upd A o x) F (upd z (4 + o) x) := by
  obtain ⟨⟨h1, h2, h3⟩, hk, h4, h5, h6, h7⟩ := h
  refine ⟨⟨?_, ?_, fun p hp r hr => ?_⟩, hk, ?_, ?_, fun p hp => ?_, fun p hp => ?_⟩
  · rw [pk_un (by omega)]; exact h1
  · rw [pk_un (by omega)]; exact h2
  · rw [pk_un (by omega)]; exact h3 p hp r hr
  · rw [pk_un (by omega)]; exact h4
  · rw [pk_un (by omega)]; exact h5
  · by_cases e : p = o
    · subst e; rw [pk_us, pk_us]
    · rw [pk_un (by omega), pk_un e]; exact h6 p hp
  · rw [pk_un (by omega)]; exact h7 p hp
theorem ST_fa {n K : Nat} {Z O : Nat → Int64} {asks hours : Int32} {A F : Nat → Int32} {z : Nat → Int32} (h : ST n K Z O asks hours A F z) {o : Nat} (ho : o < 4) (x : Int32) : ST n K Z O asks hours A (upd F o x) (upd z (8 + o) x) := by
  obtain ⟨⟨h1, h2, h3⟩, hk, h4, h5, h6, h7⟩ := h
  refine ⟨⟨?_, ?_, fun p hp r hr => ?_⟩, hk, ?_, ?_, fun p hp => ?_, fun p hp => ?_⟩
  · rw [pk_un (by omega)]; exact h1
  · rw [pk_un (by omega)]; exact h2
  · rw [pk_un (by omega)]; exact h3 p hp r hr
  · rw [pk_un (by omega)]; exact h4
  · rw [pk_un (by omega)]; exact h5
  · rw [pk_un (by omega)]; exact h6 p hp
  · by_cases e : p = o
    · subst e; rw [pk_us, pk_us]
    · rw [pk_un (by omega), pk_un e]; exact h7 p hp
theorem ix4 (o : Nat) : (4 : Int32) + nI o = nI (4 + o) := nI_add 4 o
theorem ix8 (o : Nat) : (8 : Int32) + nI o = nI (8 + o) := nI_add 8 o
theorem tb_ne (Z O : Nat → Int64) (o r : Nat) (b : Bool) : (2 ≤ tOf Z O o r ↔ tOf Z O o r = 2) := by
  unfold tOf
  cases tb (O o) r <;> cases tb (Z o) r <;> decide
theorem cf_ex (tz to_ : Nat → Int64) (tA tf : Nat → Int32) (i r a h : Int32) (z o : Nat → Int64) (A F : Nat → Int32) : ∃ Z' O' A' F', fX3_copyFrom tz to_ tA tf i r a h z o A F = some (i, r, a, h, Z', O', A', F') ∧ ∀ p, p < 4 → Z' p = z p ∧ O' p = o p ∧ A' p = A p ∧ F' p = F p := by
  obtain ⟨m, s, e2, hI⟩ := loop0 (fun k j (s : (Nat → Int64) × (Nat → Int64) × (Nat → Int32) × (Nat → Int32)) => fX3_copyFrom_L34 i r a h z o A F k j s.1 s.2.1 s.2.2.1 s.2.2.2) (fun j s => ∀ p, p < j → s.1 p = z p ∧ s.2.1 p = o p ∧ s.2.2.1 p = A p ∧ s.2.2.2 p = F p) 4 (s := (tz, to_, tA, tf)) (by decide) (fun p hp => absurd hp (by omega)) (by
    intro m j s hj hI
    obtain ⟨s1, s2, s3, s4⟩ := s
    refine ⟨(vp_updL s1 j (z j), vp_updL s2 j (o j), upd s3 j (A j), upd s4 j (F j)), ?_, fun p hp => ?_⟩
    · show fX3_copyFrom_L34 i r a h z o A F (m + 1) (nI j) s1 s2 s3 s4 = _
      rw [fX3_copyFrom_L34, if_neg (n4 hj), gd_in hj (by decide), gd_in hj (by decide), gd_in hj (by decide), gd_in hj (by decide), gd_in hj (by decide), gd_in hj (by decide), gd_in hj (by decide), gd_in hj (by decide), nI_clamp (by omega), nI_1]
    · show vp_updL s1 j (z j) p = z p ∧ vp_updL s2 j (o j) p = o p ∧ upd s3 j (A j) p = A p ∧ upd s4 j (F j) p = F p
      by_cases hpj : p = j
      · subst hpj; exact ⟨pk_uLs, pk_uLs, pk_us, pk_us⟩
      · rw [pk_uLn hpj, pk_uLn hpj, pk_un hpj, pk_un hpj]
        exact hI p (by omega))
  obtain ⟨s1, s2, s3, s4⟩ := s
  refine ⟨s1, s2, s3, s4, ?_, hI⟩
  unfold fX3_copyFrom
  refine Eq.trans e2 ?_
  show fX3_copyFrom_L34 i r a h z o A F (m + 1) (nI 4) s1 s2 s3 s4 = _
  rw [fX3_copyFrom_L34, if_pos p4_]
