/-! the law's wrappers of what changes the maze -/
theorem ou_1 (f : Nat → Int64) (x : Int64) : vp_updL f (0 : Int32).toNatClampNeg x 0 = x := pk_uLs
theorem p10 {Q : Prop} : (1 : Int32) = 0 → Q := fun w => absurd w (by decide)
theorem p20 {Q : Prop} : (2 : Int32) = 0 → Q := fun w => absurd w (by decide)
theorem lc_begin {n K k : Nat} {Z O : Nat → Int64} {asks hours : Int32} {A F : Nat → Int32} {z his : Nat → Int32} {hv : Nat → SV} (h : ST n K Z O asks hours A F z) (hh : HV k hv his) (po : Int32) (vi vu vp vs vc : Int32) (vz vo vn va : Nat → Int64) (vq vk vd : Nat → Int32) (hw : po = 0 → VW n K Z O vi vu vp vs vc vz vo vn va vq vk vd) (out : Nat → Int64) (x : Int32) : ∃ t b po' n' K' Z' O' k' hv' out' z' his', fL_begin po (nI n) (nI K) asks hours Z O A F (nI k) hv out x = some (t, po', nI n', nI K', Z', O', nI k', hv', out') ∧ fX7_begin z (nI k) his x = some (b, z', nI k', his', t) ∧ (t = 0 → out' 0 = b.toInt64) ∧ ST n' K' Z' O' asks hours A F z' ∧ HV k' hv' his' ∧ (po' = 0 → VW n' K' Z' O' vi vu vp vs vc vz vo vn va vq vk vd) := by
  unfold fL_begin
  rcases do_begin h hh x with ⟨e1, e2⟩ | ⟨b, n', K', k', Z', O', hv', z', his', e1, e2, h1, h2⟩
  · rw [e1, e2, Option.bind_some]
    exact ⟨1, 0, po, n, K, Z, O, k, hv, out, z, his, rfl, rfl, p10, h, hh, hw⟩
  · rw [e1, e2, Option.bind_some]
    exact ⟨0, b, 1, n', K', Z', O', k', hv', _, z', his', rfl, rfl, fun _ => ou_1 _ _, h1, h2, p10⟩
theorem lc_set {n K k : Nat} {Z O : Nat → Int64} {asks hours : Int32} {A F : Nat → Int32} {z his : Nat → Int32} {hv : Nat → SV} (h : ST n K Z O asks hours A F z) (hh : HV k hv his) (po : Int32) (vi vu vp vs vc : Int32) (vz vo vn va : Nat → Int64) (vq vk vd : Nat → Int32) (hw : po = 0 → VW n K Z O vi vu vp vs vc vz vo vn va vq vk vd) (out : Nat → Int64) (x1 x2 x3 : Int32) : ∃ t b po' Z' O' k' hv' out' z' his', fL_set po (nI n) (nI K) asks hours Z O A F (nI k) hv out x1 x2 x3 = some (t, po', Z', O', nI k', hv', out') ∧ fX7_set z (nI k) his x1 x2 x3 = some (b, z', nI k', his', t) ∧ (t = 0 → out' 0 = b.toInt64) ∧ ST n K Z' O' asks hours A F z' ∧ HV k' hv' his' ∧ (po' = 0 → VW n K Z' O' vi vu vp vs vc vz vo vn va vq vk vd) := by
  unfold fL_set
  rcases do_set h hh x1 x2 x3 with ⟨e1, e2⟩ | ⟨e1, e2⟩ | ⟨b, k', Z', O', hv', z', his', e1, e2, h1, h2⟩
  · rw [e1, e2, Option.bind_some]
    exact ⟨1, 0, po, Z, O, k, hv, out, z, his, rfl, rfl, p10, h, hh, hw⟩
  · rw [e1, e2, Option.bind_some]
    exact ⟨2, 0, po, Z, O, k, hv, out, z, his, rfl, rfl, p20, h, hh, hw⟩
  · rw [e1, e2, Option.bind_some]
    exact ⟨0, b, 1, Z', O', k', hv', _, z', his', rfl, rfl, fun _ => ou_1 _ _, h1, h2, p10⟩
theorem lc_invert {n K k : Nat} {Z O : Nat → Int64} {asks hours : Int32} {A F : Nat → Int32} {z his : Nat → Int32} {hv : Nat → SV} (h : ST n K Z O asks hours A F z) (hh : HV k hv his) (po : Int32) (vi vu vp vs vc : Int32) (vz vo vn va : Nat → Int64) (vq vk vd : Nat → Int32) (hw : po = 0 → VW n K Z O vi vu vp vs vc vz vo vn va vq vk vd) (out : Nat → Int64) (x1 : Int32) : ∃ t b po' Z' O' k' hv' out' z' his', fL_invert po (nI n) (nI K) asks hours Z O A F (nI k) hv out x1 = some (t, po', Z', O', nI k', hv', out') ∧ fX7_invert z (nI k) his x1 = some (b, z', nI k', his', t) ∧ (t = 0 → out' 0 = b.toInt64) ∧ ST n K Z' O' asks hours A F z' ∧ HV k' hv' his' ∧ (po' = 0 → VW n K Z' O' vi vu vp vs vc vz vo vn va vq vk vd) := by
  unfold fL_invert
  rcases do_invert h hh x1 with ⟨e1, e2⟩ | ⟨b, k', Z', O', hv', z', his', e1, e2, h1, h2⟩
  · rw [e1, e2, Option.bind_some]
    exact ⟨1, 0, po, Z, O, k, hv, out, z, his, rfl, rfl, p10, h, hh, hw⟩
  · rw [e1, e2, Option.bind_some]
    exact ⟨0, b, 1, Z', O', k', hv', _, z', his', rfl, rfl, fun _ => ou_1 _ _, h1, h2, p10⟩
theorem lc_join {n K k : Nat} {Z O : Nat → Int64} {asks hours : Int32} {A F : Nat → Int32} {z his : Nat → Int32} {hv : Nat → SV} (h : ST n K Z O asks hours A F z) (hh : HV k hv his) (po : Int32) (vi vu vp vs vc : Int32) (vz vo vn va : Nat → Int64) (vq vk vd : Nat → Int32) (hw : po = 0 → VW n K Z O vi vu vp vs vc vz vo vn va vq vk vd) (out : Nat → Int64) (x1 x2 : Int32) : ∃ t b po' Z' O' k' hv' out' z' his', fL_join po (nI n) (nI K) asks hours Z O A F (nI k) hv out x1 x2 = some (t, po', Z', O', nI k', hv', out') ∧ fX7_join z (nI k) his x1 x2 = some (b, z', nI k', his', t) ∧ (t = 0 → out' 0 = b.toInt64) ∧ ST n K Z' O' asks hours A F z' ∧ HV k' hv' his' ∧ (po' = 0 → VW n K Z' O' vi vu vp vs vc vz vo vn va vq vk vd) := by
  unfold fL_join
  rcases do_join h hh x1 x2 with ⟨e1, e2⟩ | ⟨e1, e2⟩ | ⟨b, k', Z', O', hv', z', his', e1, e2, h1, h2⟩
  · rw [e1, e2, Option.bind_some]
    exact ⟨1, 0, po, Z, O, k, hv, out, z, his, rfl, rfl, p10, h, hh, hw⟩
  · rw [e1, e2, Option.bind_some]
    exact ⟨2, 0, po, Z, O, k, hv, out, z, his, rfl, rfl, p20, h, hh, hw⟩
  · rw [e1, e2, Option.bind_some]
    exact ⟨0, b, 1, Z', O', k', hv', _, z', his', rfl, rfl, fun _ => ou_1 _ _, h1, h2, p10⟩
theorem lc_forget {n K k : Nat} {Z O : Nat → Int64} {asks hours : Int32} {A F : Nat → Int32} {z his : Nat → Int32} {hv : Nat → SV} (h : ST n K Z O asks hours A F z) (hh : HV k hv his) (po : Int32) (vi vu vp vs vc : Int32) (vz vo vn va : Nat → Int64) (vq vk vd : Nat → Int32) (hw : po = 0 → VW n K Z O vi vu vp vs vc vz vo vn va vq vk vd) (out : Nat → Int64) (x1 : Int32) : ∃ t b po' K' k' hv' out' z' his', fL_forget po (nI n) (nI K) asks hours Z O A F (nI k) hv out x1 = some (t, po', nI K', nI k', hv', out') ∧ fX7_forget z (nI k) his x1 = some (b, z', nI k', his', t) ∧ (t = 0 → out' 0 = b.toInt64) ∧ ST n K' Z O asks hours A F z' ∧ HV k' hv' his' ∧ (po' = 0 → VW n K' Z O vi vu vp vs vc vz vo vn va vq vk vd) := by
  unfold fL_forget
  rcases do_forget h hh x1 with ⟨e1, e2⟩ | ⟨e1, e2⟩ | ⟨b, K', k', hv', z', his', e1, e2, h1, h2⟩
  · rw [e1, e2, Option.bind_some]
    exact ⟨1, 0, po, K, k, hv, out, z, his, rfl, rfl, p10, h, hh, hw⟩
  · rw [e1, e2, Option.bind_some]
    exact ⟨2, 0, po, K, k, hv, out, z, his, rfl, rfl, p20, h, hh, hw⟩
  · rw [e1, e2, Option.bind_some]
    exact ⟨0, b, 1, K', k', hv', _, z', his', rfl, rfl, fun _ => ou_1 _ _, h1, h2, p10⟩
theorem lc_remember {n K k : Nat} {Z O : Nat → Int64} {asks hours : Int32} {A F : Nat → Int32} {z his : Nat → Int32} {hv : Nat → SV} (h : ST n K Z O asks hours A F z) (hh : HV k hv his) (po : Int32) (vi vu vp vs vc : Int32) (vz vo vn va : Nat → Int64) (vq vk vd : Nat → Int32) (hw : po = 0 → VW n K Z O vi vu vp vs vc vz vo vn va vq vk vd) (out : Nat → Int64) (x1 : Int32) : ∃ t b po' K' k' hv' out' z' his', fL_remember po (nI n) (nI K) asks hours Z O A F (nI k) hv out x1 = some (t, po', nI K', nI k', hv', out') ∧ fX7_remember z (nI k) his x1 = some (b, z', nI k', his', t) ∧ (t = 0 → out' 0 = b.toInt64) ∧ ST n K' Z O asks hours A F z' ∧ HV k' hv' his' ∧ (po' = 0 → VW n K' Z O vi vu vp vs vc vz vo vn va vq vk vd) := by
  unfold fL_remember
  rcases do_remember h hh x1 with ⟨e1, e2⟩ | ⟨e1, e2⟩ | ⟨b, K', k', hv', z', his', e1, e2, h1, h2⟩
  · rw [e1, e2, Option.bind_some]
    exact ⟨1, 0, po, K, k, hv, out, z, his, rfl, rfl, p10, h, hh, hw⟩
  · rw [e1, e2, Option.bind_some]
    exact ⟨2, 0, po, K, k, hv, out, z, his, rfl, rfl, p20, h, hh, hw⟩
  · rw [e1, e2, Option.bind_some]
    exact ⟨0, b, 1, K', k', hv', _, z', his', rfl, rfl, fun _ => ou_1 _ _, h1, h2, p10⟩
theorem lc_pass {n K k : Nat} {Z O : Nat → Int64} {asks hours : Int32} {A F : Nat → Int32} {z his : Nat → Int32} {hv : Nat → SV} (h : ST n K Z O asks hours A F z) (hh : HV k hv his) (po : Int32) (vi vu vp vs vc : Int32) (vz vo vn va : Nat → Int64) (vq vk vd : Nat → Int32) (hw : po = 0 → VW n K Z O vi vu vp vs vc vz vo vn va vq vk vd) (out : Nat → Int64) (x1 : Int32) : ∃ t b po' K' hours' k' hv' out' z' his', fL_pass po (nI n) (nI K) asks hours Z O A F (nI k) hv out x1 = some (t, po', nI K', hours', nI k', hv', out') ∧ fX7_pass z (nI k) his x1 = some (b, z', nI k', his', t) ∧ (t = 0 → out' 0 = b.toInt64) ∧ ST n K' Z O asks hours' A F z' ∧ HV k' hv' his' ∧ (po' = 0 → VW n K' Z O vi vu vp vs vc vz vo vn va vq vk vd) := by
  unfold fL_pass
  rcases do_pass h hh x1 with ⟨e1, e2⟩ | ⟨b, K', hours', k', hv', z', his', e1, e2, h1, h2⟩
  · rw [e1, e2, Option.bind_some]
    exact ⟨1, 0, po, K, hours, k, hv, out, z, his, rfl, rfl, p10, h, hh, hw⟩
  · rw [e1, e2, Option.bind_some]
    exact ⟨0, b, 1, K', hours', k', hv', _, z', his', rfl, rfl, fun _ => ou_1 _ _, h1, h2, p10⟩
theorem lc_ask {n K k : Nat} {Z O : Nat → Int64} {asks hours : Int32} {A F : Nat → Int32} {z his : Nat → Int32} {hv : Nat → SV} (h : ST n K Z O asks hours A F z) (hh : HV k hv his) (po : Int32) (vi vu vp vs vc : Int32) (vz vo vn va : Nat → Int64) (vq vk vd : Nat → Int32) (hw : po = 0 → VW n K Z O vi vu vp vs vc vz vo vn va vq vk vd) (out : Nat → Int64) (bad : Nat → Int64) (co : Nat → Int32) (ro : Nat → Int64) (ps : Int32) (god : Nat → Int64) (prm : Nat → Int32) (npr : Int32) (cov siz : Nat → Int32) (x1 : Int32) : ∃ t b po' asks' A' F' k' bad' co' ro' ps' vi' vu' vp' vs' vc' vz' vo' vn' va' vq' vk' vd' hv' out' z' his' g p q c s, fL_ask po (nI n) (nI K) asks hours Z O A F (nI k) bad co ro ps vi vu vp vs vc vz vo vn va vq vk vd hv out x1 = some (t, po', asks', A', F', nI k', bad', co', ro', ps', vi', vu', vp', vs', vc', vz', vo', vn', va', vq', vk', vd', hv', out') ∧ fX7_ask z (nI k) his god prm npr cov siz x1 = some (b, z', nI k', his', t, g, p, q, c, s) ∧ (t = 0 → out' 0 = b.toInt64) ∧ ST n K Z O asks' hours A' F' z' ∧ HV k' hv' his' ∧ (po' = 0 → VW n K Z O vi' vu' vp' vs' vc' vz' vo' vn' va' vq' vk' vd') := by
  unfold fL_ask
  rcases do_ask h hh po bad co ro ps vi vu vp vs vc vz vo vn va vq vk vd hw god prm npr cov siz x1 with ⟨e1, e2⟩ | ⟨b, asks', A', F', k', bad', co', ro', ps', vi', vu', vp', vs', vc', vz', vo', vn', va', vq', vk', vd', hv', z', his', g, p, q, c, s, e1, e2, h1, h2, h3⟩
  · rw [e1, e2, Option.bind_some]
    exact ⟨1, 0, po, asks, A, F, k, bad, co, ro, ps, vi, vu, vp, vs, vc, vz, vo, vn, va, vq, vk, vd, hv, out, z, his, god, prm, npr, cov, siz, rfl, rfl, p10, h, hh, hw⟩
  · rw [e1, e2, Option.bind_some]
    exact ⟨0, b, 0, asks', A', F', k', bad', co', ro', ps', vi', vu', vp', vs', vc', vz', vo', vn', va', vq', vk', vd', hv', _, z', his', g, p, q, c, s, rfl, rfl, fun _ => ou_1 _ _, h1, h2, fun _ => h3⟩
theorem lc_append {c txt : Nat → Int32} {L : Nat} (hL : L ≤ 60) (ht : ∀ i, i < L → c i = txt i) (out : Nat → Int64) (x : Int32) : ∃ t b c' txt' L' out', fL_append c (nI L) out x = some (t, c', nI L', out') ∧ fX7_append (nI L) txt x = some (b, nI L', txt', t) ∧ (t = 0 → out' 0 = b.toInt64) ∧ L' ≤ 60 ∧ ∀ i, i < L' → c' i = txt' i := by
  unfold fL_append
  rcases do_append hL ht x with ⟨e1, e2⟩ | ⟨e1, e2⟩ | ⟨c', txt', L', e1, e2, h1, h2⟩
  · rw [e1, e2, Option.bind_some]
    exact ⟨1, 0, c, txt, L, out, rfl, rfl, p10, hL, ht⟩
  · rw [e1, e2, Option.bind_some]
    exact ⟨2, 0, c, txt, L, out, rfl, rfl, p20, hL, ht⟩
  · rw [e1, e2, Option.bind_some]
    exact ⟨0, nI L', c', txt', L', _, rfl, rfl, fun _ => ou_1 _ _, h1, h2⟩
theorem lc_fill {n K k : Nat} {Z O : Nat → Int64} {asks hours : Int32} {A F : Nat → Int32} {z his : Nat → Int32} {hv : Nat → SV} (h : ST n K Z O asks hours A F z) (hh : HV k hv his) (po : Int32) (vi vu vp vs vc : Int32) (vz vo vn va : Nat → Int64) (vq vk vd : Nat → Int32) (hw : po = 0 → VW n K Z O vi vu vp vs vc vz vo vn va vq vk vd) (out : Nat → Int64) {c txt : Nat → Int32} {L : Nat} (hL : L ≤ 60) (ht : ∀ i, i < L → c i = txt i) (pts bef : Nat → Int32) : ∃ t b po' Z' O' k' L' hv' out' z' his' pts' rea pla bef', fL_fill po (nI n) (nI K) asks hours Z O A F (nI k) c (nI L) hv out = some (t, po', Z', O', nI k', nI L', hv', out') ∧ fX7_fill z (nI k) his (nI L) txt pts bef = some (b, z', nI k', his', nI L', t, pts', rea, pla, bef') ∧ (t = 0 → out' 0 = b.toInt64) ∧ ST n K Z' O' asks hours A F z' ∧ HV k' hv' his' ∧ (po' = 0 → VW n K Z' O' vi vu vp vs vc vz vo vn va vq vk vd) ∧ L' ≤ L := by
  unfold fL_fill
  rcases do_fill h hh hL ht pts bef with ⟨pts', rea, pla, e1, e2⟩ | ⟨b, k', Z', O', hv', z', his', pts', rea, pla, bef', e1, e2, h1, h2⟩
  · rw [e1, e2, Option.bind_some]
    exact ⟨1, 0, po, Z, O, k, L, hv, out, z, his, pts', rea, pla, bef, rfl, rfl, p10, h, hh, hw, Nat.le_refl _⟩
  · rw [e1, e2, Option.bind_some]
    exact ⟨0, b, 1, Z', O', k', 0, hv', _, z', his', pts', rea, pla, bef', rfl, rfl, fun _ => ou_1 _ _, h1, h2, p10, Nat.zero_le _⟩
theorem lc_undo {n K k : Nat} {Z O : Nat → Int64} {asks hours : Int32} {A F : Nat → Int32} {z his : Nat → Int32} {hv : Nat → SV} (h : ST n K Z O asks hours A F z) (hh : HV k hv his) (po : Int32) (vi vu vp vs vc : Int32) (vz vo vn va : Nat → Int64) (vq vk vd : Nat → Int32) (hw : po = 0 → VW n K Z O vi vu vp vs vc vz vo vn va vq vk vd) (out : Nat → Int64) : ∃ t b po' n' K' asks' hours' Z' O' A' F' k' out' z', fL_undo po (nI n) (nI K) asks hours Z O A F (nI k) hv out = some (t, po', nI n', nI K', asks', hours', Z', O', A', F', nI k', out') ∧ fX7_undo z (nI k) his = some (b, z', nI k', t) ∧ (t = 0 → out' 0 = b.toInt64) ∧ ST n' K' Z' O' asks' hours' A' F' z' ∧ HV k' hv his ∧ (po' = 0 → VW n' K' Z' O' vi vu vp vs vc vz vo vn va vq vk vd) := by
  unfold fL_undo
  rcases do_undo (n := n) (K := K) (Z := Z) (O := O) (asks := asks) (hours := hours) (A := A) (F := F) (z := z) hh with ⟨e1, e2⟩ | ⟨n', K', k', asks', hours', Z', O', A', F', z', e1, e2, h1, h2⟩
  · rw [e1, e2, Option.bind_some]
    exact ⟨1, 0, po, n, K, asks, hours, Z, O, A, F, k, out, z, rfl, rfl, p10, h, hh, hw⟩
  · rw [e1, e2, Option.bind_some]
    exact ⟨0, nI k', 1, n', K', asks', hours', Z', O', A', F', k', _, z', rfl, rfl, fun _ => ou_1 _ _, h1, h2, p10⟩
