/-! the law's acts: set, invert, join -/
def NV (n K : Nat) (asks hours : Int32) (k : Nat) (nn : Nat → Int32) : Prop := nn 0 = nI n ∧ nn 1 = nI K ∧ nn 2 = asks ∧ nn 3 = hours ∧ nn 4 = nI k
def LW (n K : Nat) (Z O : Nat → Int64) (asks hours : Int32) (A F : Nat → Int32) (k : Nat) (nn tr al fa : Nat → Int32) : Prop := n ≤ 4 ∧ OKs n K Z O ∧ k ≤ 6 ∧ NV n K asks hours k nn ∧ TR n Z O tr ∧ ∀ o, o < 4 → al o = A o ∧ fa o = F o
def nn4 (nn : Nat → Int32) (k : Nat) : Nat → Int32 := if k < 6 then upd nn 4 (nI (k + 1)) else nn
theorem c4_ : ((4 : Int32)).toNatClampNeg = 4 := rfl
theorem c2_ : ((2 : Int32)).toNatClampNeg = 2 := rfl
theorem c3_ : ((3 : Int32)).toNatClampNeg = 3 := rfl
theorem n4_step {k : Nat} (h6 : k ≤ 6) {nn : Nat → Int32} (h4 : nn 4 = nI k) {α : Type} (J : (Nat → Int32) → Option α) : gd ((4 : Int32)) 5 (if 6 ≤ (nn ((4 : Int32)).toNatClampNeg) then J nn else gd ((4 : Int32)) 5 (gd ((4 : Int32)) 5 (lt_ (upd nn ((4 : Int32)).toNatClampNeg ((nn ((4 : Int32)).toNatClampNeg) + 1)) (fun u => J u)))) = J (nn4 nn k) := by
  rw [g45, g45, g45, lt_e, c4_, h4, nI_1]
  unfold nn4
  by_cases q : k < 6
  · rw [if_neg (show ¬ (6 : Int32) ≤ nI k from nI_ge (b := 6) q (by decide)), if_pos q]
  · have : k = 6 := by omega
    subst this
    rw [if_pos (by decide), if_neg q]
theorem NV_4 {n K : Nat} {asks hours : Int32} {k : Nat} {nn : Nat → Int32} (h6 : k ≤ 6) (h : NV n K asks hours k nn) : NV n K asks hours (kn k) (nn4 nn k) := by
  obtain ⟨h0, h1, h2, h3, h4⟩ := h
  unfold nn4 kn
  by_cases q : k < 6
  · rw [if_pos q, if_pos q]
    exact ⟨(pk_un (by decide)).trans h0, (pk_un (by decide)).trans h1, (pk_un (by decide)).trans h2, (pk_un (by decide)).trans h3, pk_us⟩
  · have : k = 6 := by omega
    subst this
    rw [if_neg q, if_neg q]
    exact ⟨h0, h1, h2, h3, h4⟩
theorem sg_r {α β : Type} (u : α) (f : α → Option β) : sg (some (.inr u)) f = f u := rfl
theorem tOf_3 (Z O : Nat → Int64) (o r : Nat) : tOf Z O o r = 0 ∨ tOf Z O o r = 1 ∨ tOf Z O o r = 2 := by
  unfold tOf
  cases tb (O o) r <;> cases tb (Z o) r <;> decide
theorem pc_tOf {n : Nat} (hn : n ≤ 4) (Z O : Nat → Int64) {o : Nat} (h : subR n (O o)) : pc (O o) = sumN (2 ^ n) (fun q => (decide (tOf Z O o q = 1)).toNat) := by
  refine pc_rows (by omega) (fun q => decide (tOf Z O o q = 1)) (fun i hi => ?_)
  cases q : tb (O o) i
  · have : ¬ tOf Z O o i = 1 := fun z => by rw [t_is1.mp z] at q; cases q
    rw [decide_eq_false this, Bool.and_false]
  · rw [decide_eq_true (h i hi q), decide_eq_true (t_is1.mpr q)]
    rfl
section ACH
variable {n K k : Nat} {Z O : Nat → Int64} {asks hours : Int32} {A F : Nat → Int32} {hv : Nat → SV} {nn tr al fa : Nat → Int32}
theorem iv_loop (hn : n ≤ 4) (ht : TR n Z O tr) {o : Nat} (ho : o < 4) (a b c d : Int32) (e f : Nat → Int64) (g h : Nat → Int32) (hs : Int32) (hv : Nat → SV) : ∃ tr', fL_changes_L145 (nI o) (nI (2 ^ n)) a b c d e f g h hs nn hv 5000 0 0 tr = fL_changes_J215 (nI o) (nI (sumN (2 ^ n) (fun q => (decide (ivT (tOf Z O o q) = 1)).toNat))) a b c d e f g h hs nn tr' hv ∧ (∀ q, q < 2 ^ n → tr' (16 * o + q) = ivT (tOf Z O o q)) ∧ ∀ q, (q < 16 * o ∨ 16 * o + 2 ^ n ≤ q) → tr' q = tr q := by
  have h16 := p16 hn
  obtain ⟨m, s, e2, hI⟩ := loop0 (fun m i (s : Int32 × (Nat → Int32)) => fL_changes_L145 (nI o) (nI (2 ^ n)) a b c d e f g h hs nn hv m s.1 i s.2) (fun i s => s.1 = nI (sumN i (fun q => (decide (ivT (tOf Z O o q) = 1)).toNat)) ∧ (∀ q, q < i → s.2 (16 * o + q) = ivT (tOf Z O o q)) ∧ ∀ q, (q < 16 * o ∨ 16 * o + i ≤ q) → s.2 q = tr q) (2 ^ n) (s := (0, tr)) (by omega) ⟨rfl, fun q hq => absurd hq (Nat.not_lt_zero q), fun _ _ => rfl⟩ (by
    intro m i s hi hI
    obtain ⟨x, t⟩ := s
    obtain ⟨i1, i2, i3⟩ := hI
    have i1 : x = nI (sumN i (fun q => (decide (ivT (tOf Z O o q) = 1)).toNat)) := i1
    subst i1
    have hti : t (16 * o + i) = tOf Z O o i := (i3 _ (by omega)).trans (ht o ho i hi)
    refine ⟨(nI (sumN (i + 1) (fun q => (decide (ivT (tOf Z O o q) = 1)).toNat)), upd t (16 * o + i) (ivT (tOf Z O o i))), ?_, rfl, fun q hq => ?_, fun q hq => ?_⟩
    · show fL_changes_L145 (nI o) (nI (2 ^ n)) a b c d e f g h hs nn hv (m + 1) _ (nI i) t = fL_changes_L145 (nI o) (nI (2 ^ n)) a b c d e f g h hs nn hv m (nI (sumN i (fun q => (decide (ivT (tOf Z O o q) = 1)).toNat) + (decide (ivT (tOf Z O o i) = 1)).toNat)) (nI (i + 1)) (upd t (16 * o + i) (ivT (tOf Z O o i)))
      rw [fL_changes_L145, if_neg (nI_ge hi (by omega)), ix16]
      simp only [gd_in (show 16 * o + i < 64 by omega) (show (64 : Nat) < 2 ^ 31 by decide), nI_clamp (show 16 * o + i < 2 ^ 31 by omega), lt_e]
      unfold fL_changes_J191 fL_changes_J209
      rw [ix16]
      simp only [gd_in (show 16 * o + i < 64 by omega) (show (64 : Nat) < 2 ^ 31 by decide), nI_clamp (show 16 * o + i < 2 ^ 31 by omega), nI_1, hti, pk_us]
      have hu : t = upd t (16 * o + i) (tOf Z O o i) := by rw [← hti]; exact upd_s t _
      rcases tOf_3 Z O o i with q | q | q
      · rw [q, if_neg (by decide), if_pos (by decide)]
        rfl
      · rw [q, if_neg (by decide), if_neg (by decide)]
        rfl
      · rw [q] at hu ⊢
        rw [if_pos (by decide), if_neg (by decide)]
        show fL_changes_L145 (nI o) (nI (2 ^ n)) a b c d e f g h hs nn hv m _ (nI (i + 1)) t = fL_changes_L145 (nI o) (nI (2 ^ n)) a b c d e f g h hs nn hv m _ (nI (i + 1)) (upd t (16 * o + i) 2)
        rw [← hu]
        rfl
    · show upd t (16 * o + i) (ivT (tOf Z O o i)) (16 * o + q) = _
      by_cases e : q = i
      · subst e; exact pk_us
      · rw [pk_un (by omega)]; exact i2 q (by omega)
    · show upd t (16 * o + i) (ivT (tOf Z O o i)) q = _
      rw [pk_un (by omega)]; exact i3 q (by omega))
  obtain ⟨x, t⟩ := s
  obtain ⟨i1, i2, i3⟩ := hI
  have i1 : x = nI (sumN (2 ^ n) (fun q => (decide (ivT (tOf Z O o q) = 1)).toNat)) := i1
  subst i1
  refine ⟨t, ?_, i2, fun q hq => i3 q (by omega)⟩
  refine Eq.trans e2 ?_
  show fL_changes_L145 (nI o) (nI (2 ^ n)) a b c d e f g h hs nn hv (m + 1) _ (nI (2 ^ n)) t = _
  rw [fL_changes_L145, if_pos (nI_le (Nat.le_refl _) (by omega))]
theorem jn_loop (hn : n ≤ 4) (ht : TR n Z O tr) {o p : Nat} (ho : o < 4) (hp : p < 4) (hop : o ≠ p) (a b c d : Int32) (e f : Nat → Int64) (g h : Nat → Int32) (hs : Int32) (hv : Nat → SV) : ∃ tr', fL_changes_L235 (nI o) (nI p) (nI (2 ^ n)) a b c d e f g h hs nn hv 5000 0 0 tr = fL_changes_J332 (nI o) (nI p) (nI (sumN (2 ^ n) (fun q => (decide (jnT (tOf Z O o q) (tOf Z O p q) = 1)).toNat))) a b c d e f g h hs nn tr' hv ∧ (∀ q, q < 2 ^ n → tr' (16 * o + q) = jnT (tOf Z O o q) (tOf Z O p q)) ∧ ∀ q, (q < 16 * o ∨ 16 * o + 2 ^ n ≤ q) → tr' q = tr q := by
  have h16 := p16 hn
  obtain ⟨m, s, e2, hI⟩ := loop0 (fun m i (s : Int32 × (Nat → Int32)) => fL_changes_L235 (nI o) (nI p) (nI (2 ^ n)) a b c d e f g h hs nn hv m s.1 i s.2) (fun i s => s.1 = nI (sumN i (fun q => (decide (jnT (tOf Z O o q) (tOf Z O p q) = 1)).toNat)) ∧ (∀ q, q < i → s.2 (16 * o + q) = jnT (tOf Z O o q) (tOf Z O p q)) ∧ ∀ q, (q < 16 * o ∨ 16 * o + i ≤ q) → s.2 q = tr q) (2 ^ n) (s := (0, tr)) (by omega) ⟨rfl, fun q hq => absurd hq (Nat.not_lt_zero q), fun _ _ => rfl⟩ (by
    intro m i s hi hI
    obtain ⟨x, t⟩ := s
    obtain ⟨i1, i2, i3⟩ := hI
    have i1 : x = nI (sumN i (fun q => (decide (jnT (tOf Z O o q) (tOf Z O p q) = 1)).toNat)) := i1
    subst i1
    have hti : t (16 * o + i) = tOf Z O o i := (i3 _ (by omega)).trans (ht o ho i hi)
    have htp : t (16 * p + i) = tOf Z O p i := (i3 _ (by omega)).trans (ht p hp i hi)
    refine ⟨(nI (sumN (i + 1) (fun q => (decide (jnT (tOf Z O o q) (tOf Z O p q) = 1)).toNat)), upd t (16 * o + i) (jnT (tOf Z O o i) (tOf Z O p i))), ?_, rfl, fun q hq => ?_, fun q hq => ?_⟩
    · show fL_changes_L235 (nI o) (nI p) (nI (2 ^ n)) a b c d e f g h hs nn hv (m + 1) _ (nI i) t = fL_changes_L235 (nI o) (nI p) (nI (2 ^ n)) a b c d e f g h hs nn hv m (nI (sumN i (fun q => (decide (jnT (tOf Z O o q) (tOf Z O p q) = 1)).toNat) + (decide (jnT (tOf Z O o i) (tOf Z O p i) = 1)).toNat)) (nI (i + 1)) (upd t (16 * o + i) (jnT (tOf Z O o i) (tOf Z O p i)))
      have hJ : ∀ v : Int32, fL_changes_J307 (nI o) (nI p) (nI (2 ^ n)) (nI (sumN i (fun q => (decide (jnT (tOf Z O o q) (tOf Z O p q) = 1)).toNat))) (nI i) v (nI (16 * o + i)) a b c d e f g h hs nn t hv (fL_changes_L235 (nI o) (nI p) (nI (2 ^ n)) a b c d e f g h hs nn hv m) = fL_changes_L235 (nI o) (nI p) (nI (2 ^ n)) a b c d e f g h hs nn hv m (nI (sumN i (fun q => (decide (jnT (tOf Z O o q) (tOf Z O p q) = 1)).toNat) + (decide (v = 1)).toNat)) (nI (i + 1)) (upd t (16 * o + i) v) := by
        intro v
        unfold fL_changes_J307 fL_changes_J326
        rw [ix16]
        simp only [gd_in (show 16 * o + i < 64 by omega) (show (64 : Nat) < 2 ^ 31 by decide), nI_clamp (show 16 * o + i < 2 ^ 31 by omega), nI_1, pk_us]
        by_cases q : v = 1
        · rw [if_pos q, decide_eq_true q]
          rfl
        · rw [if_neg q, decide_eq_false q]
          rfl
      rw [fL_changes_L235, if_neg (nI_ge hi (by omega)), ix16, ix16]
      unfold fL_changes_J290
      simp only [gd_in (show 16 * o + i < 64 by omega) (show (64 : Nat) < 2 ^ 31 by decide), gd_in (show 16 * p + i < 64 by omega) (show (64 : Nat) < 2 ^ 31 by decide), nI_clamp (show 16 * o + i < 2 ^ 31 by omega), nI_clamp (show 16 * p + i < 2 ^ 31 by omega), hti, htp, hJ]
      rcases tOf_3 Z O o i with q | q | q <;> rcases tOf_3 Z O p i with q2 | q2 | q2 <;> rw [q, q2] <;> rfl
    · show upd t (16 * o + i) (jnT (tOf Z O o i) (tOf Z O p i)) (16 * o + q) = _
      by_cases e : q = i
      · subst e; exact pk_us
      · rw [pk_un (by omega)]; exact i2 q (by omega)
    · show upd t (16 * o + i) (jnT (tOf Z O o i) (tOf Z O p i)) q = _
      rw [pk_un (by omega)]; exact i3 q (by omega))
  obtain ⟨x, t⟩ := s
  obtain ⟨i1, i2, i3⟩ := hI
  have i1 : x = nI (sumN (2 ^ n) (fun q => (decide (jnT (tOf Z O o q) (tOf Z O p q) = 1)).toNat)) := i1
  subst i1
  refine ⟨t, ?_, i2, fun q hq => i3 q (by omega)⟩
  refine Eq.trans e2 ?_
  show fL_changes_L235 (nI o) (nI p) (nI (2 ^ n)) a b c d e f g h hs nn hv (m + 1) _ (nI (2 ^ n)) t = _
  rw [fL_changes_L235, if_pos (nI_le (Nat.le_refl _) (by omega))]
theorem a_invert (h : LW n K Z O asks hours A F k nn tr al fa) {o : Nat} (ho : o < 4) {nn' : Nat → Int32} (hnn : NV n K asks hours (kn k) nn') : ∃ Z' O' hv' tr', fL_changes_J142 (nI o) (nI (2 ^ n)) 0 (nI n) (nI K) asks hours Z O A F (nI k) nn' tr hv = some (1, 1, Z', O', nI (kn k), nn', tr', hv') ∧ LW n K Z' O' asks hours A F (kn k) nn' tr' al fa := by
  obtain ⟨hn, hk, h6, hnv, ht, haf⟩ := h
  have h16 := p16 hn
  obtain ⟨tr', e1, t1, t2⟩ := iv_loop (nn := nn') hn ht ho (nI n) (nI K) asks hours Z O A F (nI k) hv
  obtain ⟨Z', O', hv', e2, hk', hT⟩ := cs_invert (asks := asks) (hours := hours) (A := A) (F := F) (hv := hv) hn hk h6 ho
  refine ⟨Z', O', hv', tr', ?_, hn, hk', kn_le k, hnn, fun p hp q hq => ?_, haf⟩
  · unfold fL_changes_J142
    refine Eq.trans e1 ?_
    unfold fL_changes_J215
    rw [e2, sg_r, if_pos ?_]
    show nI (pc (O' o)) = nI _
    rw [pc_tOf hn Z' O' (hk'.2.2.2 o ho).2.1]
    exact congrArg nI (sumN_congr (fun q hq => by rw [hT o ho q hq, if_pos rfl]))
  · rw [hT p hp q hq]
    by_cases e : p = o
    · subst e; rw [if_pos rfl]; exact t1 q hq
    · rw [if_neg e, t2 _ (by omega)]; exact ht p hp q hq
theorem a_join (h : LW n K Z O asks hours A F k nn tr al fa) {o p : Nat} (ho : o < 4) (hp : p < 4) (hop : o ≠ p) {nn' : Nat → Int32} (hnn : NV n K asks hours (kn k) nn') : ∃ Z' O' hv' tr', fL_changes_L235 (nI o) (nI p) (nI (2 ^ n)) (nI n) (nI K) asks hours Z O A F (nI k) nn' hv 5000 0 0 tr = some (1, 1, Z', O', nI (kn k), nn', tr', hv') ∧ LW n K Z' O' asks hours A F (kn k) nn' tr' al fa := by
  obtain ⟨hn, hk, h6, hnv, ht, haf⟩ := h
  have h16 := p16 hn
  obtain ⟨tr', e1, t1, t2⟩ := jn_loop (nn := nn') hn ht ho hp hop (nI n) (nI K) asks hours Z O A F (nI k) hv
  obtain ⟨Z', O', hv', e2, hk', hT⟩ := cs_join (asks := asks) (hours := hours) (A := A) (F := F) (hv := hv) hn hk h6 ho hp hop
  refine ⟨Z', O', hv', tr', ?_, hn, hk', kn_le k, hnn, fun p' hp' q hq => ?_, haf⟩
  · refine Eq.trans e1 ?_
    unfold fL_changes_J332
    rw [e2, sg_r, if_pos ?_]
    show nI (pc (O' o)) = nI _
    rw [pc_tOf hn Z' O' (hk'.2.2.2 o ho).2.1]
    exact congrArg nI (sumN_congr (fun q hq => by rw [hT o ho q hq, if_pos rfl]))
  · rw [hT p' hp' q hq]
    by_cases e : p' = o
    · subst e; rw [if_pos rfl]; exact t1 q hq
    · rw [if_neg e, t2 _ (by omega)]; exact ht p' hp' q hq
theorem a_changes (h : LW n K Z O asks hours A F k nn tr al fa) (x y : Int32) : ∃ Z' O' hv' nn' tr', fL_changes (nI n) (nI K) asks hours Z O A F (nI k) nn tr hv x y = some (1, 1, Z', O', nI (kn k), nn', tr', hv') ∧ LW n K Z' O' asks hours A F (kn k) nn' tr' al fa := by
  obtain ⟨hn, hk, h6, hnv, ht, haf⟩ := id h
  have h16 := p16 hn
  have hpos := Nat.two_pow_pos n
  obtain ⟨act, ha, ea⟩ := lg_at x (y := 10) (by decide) (by decide)
  obtain ⟨o, ho, eo⟩ := lg_at y (y := 4) (by decide) (by decide)
  obtain ⟨p, hp, ep⟩ := lg_at (y >>> ((2 : Int32) &&& 31)) (y := 4) (by decide) (by decide)
  have ea : fL_at x 10 = some (nI act) := ea
  have eo : fL_at y 4 = some (nI o) := eo
  have ep : fL_at (y >>> ((2 : Int32) &&& 31)) 4 = some (nI p) := ep
  have hnv' := NV_4 h6 hnv
  have h0' : nn4 nn k 0 = nI n := hnv'.1
  have key : ∃ Z' O' hv' tr', fL_changes_J46 y (nI act) (nI o) (nI p) (nI (2 ^ n)) (nI n) (nI K) asks hours Z O A F (nI k) (nn4 nn k) tr hv = some (1, 1, Z', O', nI (kn k), nn4 nn k, tr', hv') ∧ LW n K Z' O' asks hours A F (kn k) (nn4 nn k) tr' al fa := by
    unfold fL_changes_J46
    by_cases q1 : act < 6
    · rw [if_neg (show ¬ (6 : Int32) ≤ nI act from nI_ge (b := 6) q1 (by decide))]
      obtain ⟨r, hr, er⟩ := lg_at (y >>> ((4 : Int32) &&& 31)) (y := 2 ^ n) hpos (by omega)
      obtain ⟨v, hv3, ev⟩ := lg_at (y >>> ((9 : Int32) &&& 31)) (y := 3) (by decide) (by decide)
      have ev : fL_at (y >>> ((9 : Int32) &&& 31)) 3 = some (nI v) := ev
      obtain ⟨Z', O', hv', e2, hk', hT⟩ := cs_set (asks := asks) (hours := hours) (A := A) (F := F) (hv := hv) hn hk h6 ho hr (show v ≤ 2 by omega)
      refine ⟨Z', O', hv', upd tr (16 * o + r) (nI v), ?_, hn, hk', kn_le k, hnv', fun p' hp' q hq => ?_, haf⟩
      · rw [er, Option.bind_some, ev, Option.bind_some, ix16]
        simp only [gd_in (show 16 * o + r < 64 by omega) (show (64 : Nat) < 2 ^ 31 by decide), nI_clamp (show 16 * o + r < 2 ^ 31 by omega), pk_us]
        rw [e2, sg_r, if_pos (ht o ho r hr).symm]
      · rw [hT p' hp' q hq]
        by_cases e : p' = o ∧ q = r
        · rw [if_pos e, e.1, e.2, pk_us]
        · rw [if_neg e, pk_un (fun z => e (by constructor <;> omega))]
          exact ht p' hp' q hq
    · rw [if_pos (show (6 : Int32) ≤ nI act from nI_le (a := 6) (by omega) (by omega))]
      by_cases q2 : act < 8
      · rw [if_pos (show nI act < 8 from nI_lt (b := 8) q2 (by decide))]
        exact a_invert h ho hnv'
      · rw [if_neg (show ¬ nI act < 8 from nI_nlt (b := 8) (by omega) (by omega))]
        by_cases q3 : o = p
        · rw [if_pos (congrArg nI q3)]
          exact a_invert h ho hnv'
        · rw [if_neg (fun z => q3 ((nI_eq (by omega) (by omega)).mp z))]
          exact a_join h ho hp q3 hnv'
  obtain ⟨Z', O', hv', tr', e1, e2⟩ := key
  refine ⟨Z', O', hv', nn4 nn k, tr', ?_, e2⟩
  unfold fL_changes
  rw [ea, Option.bind_some, eo, Option.bind_some, ep, Option.bind_some, g05, c0_, hnv.1, sh_n (by omega), lt_e]
  refine Eq.trans (n4_step h6 hnv.2.2.2.2 (fun u => fL_changes_J46 y (nI act) (nI o) (nI p) (nI (2 ^ n)) (nI n) (nI K) asks hours Z O A F (nI k) u tr hv)) ?_
  exact e1
end ACH
