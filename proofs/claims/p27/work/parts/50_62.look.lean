/-! mathematics of the class -/
theorem io_1 : ∀ o, o < 4 → fX6_isOutput (nI o) = some 1 := by decide +kernel
theorem zo_cls (Z : Nat → Int64) {o : Nat} (ho : o < 4) : fX3_zerosOf Z (nI o) = some (Z o) := by
  unfold fX3_zerosOf
  rw [io_1 o ho, Option.bind_some, if_neg (by decide), gd_in ho (by decide), nI_clamp (by omega)]
theorem on_cls (O : Nat → Int64) {o : Nat} (ho : o < 4) : fX3_onesOf O (nI o) = some (O o) := by
  unfold fX3_onesOf
  rw [io_1 o ho, Option.bind_some, if_neg (by decide), gd_in ho (by decide), nI_clamp (by omega)]
theorem cwv {n K : Nat} {w x : Int64} (h : CV n K w x) {codes : Nat → Int32} {rows : Nat → Int64} (hI : PI n K w 4096 codes rows (nI (cnt K w 4096))) (ons ans : Nat → Int64) (siz cov : Nat → Int32) {o : Nat} (ho : o < 4) (hx : ons o = x) : ∃ cov', fX5_coverWith ons ans siz cov codes rows (nI (cnt K w 4096)) (nI o) = some (vp_updL ans o (anN n K w x (szN n K w x)), upd siz o (nI (szN n K w x)), cov') ∧ (∀ j, j < szN n K w x → cov' (64 * o + j) = nI (ccN n K w x j)) ∧ (∀ q, (q < 64 * o ∨ 64 * o + 64 ≤ q) → cov' q = cov q) := by
  have h64 := sz_le n K w x
  obtain ⟨c, e, h1, h2⟩ := cw_step h hI ans siz ho (szN n K w x) 0 (Nat.zero_add _) 5000 (by omega) cov
  refine ⟨c, ?_, fun j hj => h1 j (Nat.zero_le _) hj, fun q hq => h2 q (by omega)⟩
  unfold fX5_coverWith
  rw [io_1 o ho, Option.bind_some, if_neg (by decide), gd_in ho (by decide), nI_clamp (by omega), hx]
  exact e
def VW (n K : Nat) (Z O : Nat → Int64) (vi vu vp vs vc : Int32) (vz vo vn va : Nat → Int64) (vq vk vd : Nat → Int32) : Prop :=
  vi = nI n ∧ vu = nI (up (fg n K) Z O) ∧ vp = nI (PTS n K Z O 0) ∧ vs = nI (PTS n K Z O 1) ∧ vc = nI (PTS n K Z O 2) ∧ CVR n K Z O vd vk ∧ ∀ o, o < 4 → vz o = dz n K Z O o ∧ vo o = dn n K Z O o ∧ vn o = UN n K Z O o ∧ va o = AN n K Z O o ∧ vq o = nI (PN n K Z O o)
theorem and_c (x y : Int64) : x &&& y = y &&& x := by
  apply tb_ext
  intro i _
  rw [tb_and, tb_and, Bool.and_comm]
theorem lk_step {n K : Nat} {Z O : Nat → Int64} (hk : OKs n K Z O) {o : Nat} (ho : o < 4) (u : Nat) (zs os us as : Nat → Int64) (qs ks cs : Nat → Int32) (bad : Nat → Int64) (co : Nat → Int32) (ro : Nat → Int64) (si : Int32) (m : Nat) : ∃ ks' cs' bad' co' ro' si', fX5_look_L29 (nI K) (nI (fg n K)) (nI n) Z O (m + 1) (nI o) (nI u) zs os us as qs ks cs bad co ro si = fX5_look_L29 (nI K) (nI (fg n K)) (nI n) Z O m (nI (o + 1)) (nI (u + pc (UN n K Z O o))) (vp_updL zs o (dz n K Z O o)) (vp_updL os o (dn n K Z O o)) (vp_updL us o (UN n K Z O o)) (vp_updL as o (AN n K Z O o)) (upd qs o (nI (PN n K Z O o))) ks' cs' bad' co' ro' si' ∧ C1 n K Z O cs' ks' o ∧ (∀ q, (q < 64 * o ∨ 64 * o + 64 ≤ q) → cs' q = cs q) ∧ ∀ q, q ≠ o → ks' q = ks q := by
  have hc := cv_dd hk ho
  obtain ⟨b, c2, r2, e1, hI⟩ := fd_cls hc.1 hc.2.1 (dz n K Z O o) bad co ro
  obtain ⟨cs', e2, f1, f2⟩ := cwv hc hI (vp_updL os o (dn n K Z O o)) as ks cs ho pk_uLs
  refine ⟨upd ks o (nI (SZ n K Z O o)), cs', b, c2, r2, nI (PN n K Z O o), ?_, ⟨pk_us, f1⟩, f2, fun q hq => pk_un hq⟩
  rw [fX5_look_L29, if_neg (n4 ho), zo_cls Z ho, Option.bind_some, al_eq (fg_lt n K), Option.bind_some, on_cls O ho, Option.bind_some, al_eq (fg_lt n K), Option.bind_some, gd_in ho (by decide), gd_in ho (by decide), gd_in ho (by decide), gd_in ho (by decide), nI_clamp (by omega), pk_uLs, pk_uLs, pc_cls, Option.bind_some, gd_in ho (by decide)]
  rw [show al (fg n K) (Z o) &&& (al (fg n K) (O o) ^^^ (-1)) = dz n K Z O o from rfl, show al (fg n K) (O o) &&& (al (fg n K) (Z o) ^^^ (-1)) = dn n K Z O o from rfl, show al (fg n K) (Z o) &&& al (fg n K) (O o) = UN n K Z O o from rfl]
  rw [e1, Option.bind_some, gd_in ho (by decide), e2, Option.bind_some, nI_1, nI_add]
  rfl
theorem lk_cls {n K : Nat} {Z O : Nat → Int64} (hk : OKs n K Z O) (zs os us as : Nat → Int64) (qs ks cs : Nat → Int32) (bad : Nat → Int64) (co : Nat → Int32) (ro : Nat → Int64) (si : Int32) : ∃ vi vu vp vs vc vz vo vn va vq vk vd b c r s, fX5_look zs os us as qs ks cs (nI n) Z O bad co ro si (nI K) = some (vi, vu, vp, vs, vc, vz, vo, vn, va, vq, vk, vd, b, c, r, s) ∧ VW n K Z O vi vu vp vs vc vz vo vn va vq vk vd := by
  have h64 := p64 hk.2.1
  have hK64 : K < 64 := Nat.lt_of_lt_of_le hk.2.2.1 h64
  obtain ⟨m, s, e, h0, hI⟩ := loop0 (fun k i (s : Int32 × (Nat → Int64) × (Nat → Int64) × (Nat → Int64) × (Nat → Int64) × (Nat → Int32) × (Nat → Int32) × (Nat → Int32) × (Nat → Int64) × (Nat → Int32) × (Nat → Int64) × Int32) => fX5_look_L29 (nI K) (nI (fg n K)) (nI n) Z O k i s.1 s.2.1 s.2.2.1 s.2.2.2.1 s.2.2.2.2.1 s.2.2.2.2.2.1 s.2.2.2.2.2.2.1 s.2.2.2.2.2.2.2.1 s.2.2.2.2.2.2.2.2.1 s.2.2.2.2.2.2.2.2.2.1 s.2.2.2.2.2.2.2.2.2.2.1 s.2.2.2.2.2.2.2.2.2.2.2) (fun i s => s.1 = nI (sumN i (fun o => pc (UN n K Z O o))) ∧ ∀ o, o < i → C1 n K Z O s.2.2.2.2.2.2.2.1 s.2.2.2.2.2.2.1 o ∧ s.2.1 o = dz n K Z O o ∧ s.2.2.1 o = dn n K Z O o ∧ s.2.2.2.1 o = UN n K Z O o ∧ s.2.2.2.2.1 o = AN n K Z O o ∧ s.2.2.2.2.2.1 o = nI (PN n K Z O o)) 4 (s := ((0 : Int32), zs, os, us, as, qs, ks, cs, bad, co, ro, si)) (by decide) ⟨rfl, fun o ho => absurd ho (by omega)⟩ (by
    intro m i s hi hI
    obtain ⟨u, zs, os, us, as, qs, ks, cs, bad, co, ro, si⟩ := s
    obtain ⟨h0, hI⟩ := hI
    have h0 : u = nI (sumN i (fun o => pc (UN n K Z O o))) := h0
    subst h0
    obtain ⟨ks', cs', bad', co', ro', si', e, f1, f2, f3⟩ := lk_step hk hi (sumN i (fun o => pc (UN n K Z O o))) zs os us as qs ks cs bad co ro si m
    refine ⟨(nI (sumN i (fun o => pc (UN n K Z O o)) + pc (UN n K Z O i)), vp_updL zs i (dz n K Z O i), vp_updL os i (dn n K Z O i), vp_updL us i (UN n K Z O i), vp_updL as i (AN n K Z O i), upd qs i (nI (PN n K Z O i)), ks', cs', bad', co', ro', si'), e, rfl, fun o ho => ?_⟩
    show C1 n K Z O cs' ks' o ∧ vp_updL zs i (dz n K Z O i) o = dz n K Z O o ∧ vp_updL os i (dn n K Z O i) o = dn n K Z O o ∧ vp_updL us i (UN n K Z O i) o = UN n K Z O o ∧ vp_updL as i (AN n K Z O i) o = AN n K Z O o ∧ upd qs i (nI (PN n K Z O i)) o = nI (PN n K Z O o)
    by_cases hoi : o = i
    · subst hoi
      exact ⟨f1, pk_uLs, pk_uLs, pk_uLs, pk_uLs, pk_us⟩
    · obtain ⟨⟨g1, g2⟩, g3, g4, g5, g6, g7⟩ := hI o (by omega)
      have := SZ_le n K Z O o
      rw [pk_uLn hoi, pk_uLn hoi, pk_uLn hoi, pk_uLn hoi, pk_un hoi]
      exact ⟨⟨(f3 o hoi).trans g1, fun j hj => (f2 _ (by omega)).trans (g2 j hj)⟩, g3, g4, g5, g6, g7⟩)
  obtain ⟨u, zs', os', us', as', qs', ks', cs', bad', co', ro', si'⟩ := s
  have h0 : u = nI (sumN 4 (fun o => pc (UN n K Z O o))) := h0
  have hI : ∀ o, o < 4 → C1 n K Z O cs' ks' o ∧ zs' o = dz n K Z O o ∧ os' o = dn n K Z O o ∧ us' o = UN n K Z O o ∧ as' o = AN n K Z O o ∧ qs' o = nI (PN n K Z O o) := hI
  have hu : sumN 4 (fun o => pc (UN n K Z O o)) = up (fg n K) Z O := sumN_congr (fun o _ => by unfold UN; rw [and_c])
  have hcv : CVR n K Z O cs' ks' := fun o ho => (hI o ho).1
  refine ⟨nI n, u, nI (PTS n K Z O 0), nI (PTS n K Z O 1), nI (PTS n K Z O 2), zs', os', us', as', qs', ks', cs', bad', co', ro', si', ?_, rfl, by rw [h0, hu], rfl, rfl, rfl, hcv, fun o ho => ⟨(hI o ho).2.1, (hI o ho).2.2.1, (hI o ho).2.2.2.1, (hI o ho).2.2.2.2.1, (hI o ho).2.2.2.2.2⟩⟩
  unfold fX5_look
  rw [is_eq n hk.2.1, Option.bind_some, fg_m n hk.2.1 K hK64]
  refine Eq.trans e ?_
  show fX5_look_L29 (nI K) (nI (fg n K)) (nI n) Z O (m + 1) (nI 4) u zs' os' us' as' qs' ks' cs' bad' co' ro' si' = _
  rw [fX5_look_L29, if_pos p4_]
  unfold fX5_look_J164
  rw [cp_cls hk hcv, Option.bind_some]
