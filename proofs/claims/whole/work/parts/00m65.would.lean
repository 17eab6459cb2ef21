/-! the nearest undecided row -/
def neF (x : Int64) (r : Nat) : Nat → Nat × Nat
  | 0 => (0, 99)
  | m + 1 => if tb x m = true then (if ocN (m ^^^ r) < (neF x r m).2 then (m + 1, ocN (m ^^^ r)) else neF x r m) else neF x r m
theorem ne_ok (x : Int64) (r : Nat) : ∀ m, ((neF x r m).1 = 0 ∧ (neF x r m).2 = 99) ∨ ((neF x r m).1 ≠ 0 ∧ (neF x r m).1 ≤ m ∧ (neF x r m).2 < 99) := by
  intro m
  induction m with
  | zero => exact Or.inl ⟨rfl, rfl⟩
  | succ m ih =>
    have hold : ((neF x r m).1 = 0 ∧ (neF x r m).2 = 99) ∨ ((neF x r m).1 ≠ 0 ∧ (neF x r m).1 ≤ m + 1 ∧ (neF x r m).2 < 99) := by
      rcases ih with h | h
      · exact Or.inl h
      · exact Or.inr ⟨h.1, by omega, h.2.2⟩
    show ((if tb x m = true then (if ocN (m ^^^ r) < (neF x r m).2 then (m + 1, ocN (m ^^^ r)) else neF x r m) else neF x r m).1 = 0 ∧ _) ∨ _
    rw [show neF x r (m + 1) = if tb x m = true then (if ocN (m ^^^ r) < (neF x r m).2 then (m + 1, ocN (m ^^^ r)) else neF x r m) else neF x r m from rfl]
    split
    · split
      · refine Or.inr ⟨by show m + 1 ≠ 0; omega, Nat.le_refl _, ?_⟩
        show ocN (m ^^^ r) < 99
        rcases ih with h | h
        · omega
        · omega
      · exact hold
    · exact hold
theorem ne_hi (x : Int64) (r N : Nat) (hx : ∀ i, i < 64 → tb x i = true → i < N) : ∀ d, N + d ≤ 64 → neF x r (N + d) = neF x r N := by
  intro d
  induction d with
  | zero => intro _; rfl
  | succ d ih =>
    intro h
    rw [← ih (by omega)]
    show (if tb x (N + d) = true then (if ocN ((N + d) ^^^ r) < (neF x r (N + d)).2 then (N + d + 1, ocN ((N + d) ^^^ r)) else neF x r (N + d)) else neF x r (N + d)) = _
    cases q : tb x (N + d)
    · rw [if_neg (by decide)]
    · have := hx (N + d) (by omega) q
      omega
def nrV (n K : Nat) (Z O : Nat → Int64) (o r : Nat) : Int32 := nI (neF (UN n K Z O o) r 64).1 - 1
theorem UN_sub {n K : Nat} {Z O : Nat → Int64} (hk : OKs n K Z O) {o : Nat} (ho : o < 4) : subR n (UN n K Z O o) := by
  intro r hr h
  unfold UN at h
  rw [tb_and, Bool.and_eq_true] at h
  exact al_sub hk.2.1 (fg_lt2 n K) (hk.2.2.2 o ho).1 r hr h.1
theorem nr_ref {n K : Nat} {Z O : Nat → Int64} {z : Nat → Int32} (h : TZ n K Z O z) (hk : OKs n K Z O) {o r : Nat} (ho : o < 4) (hr : r < 2 ^ n) : fX7_nearestNow z (nI o) (nI r) = some (nrV n K Z O o r) := by
  have h64 := p64 hk.2.1
  obtain ⟨m, s, e, hI⟩ := loop0 (fun k i (s : Int32 × Int32) => fX7_nearestNow_L9 (nI o) (nI r) z k s.1 s.2 i) (fun i s => s = (nI (neF (UN n K Z O o) r i).1 - 1, nI (neF (UN n K Z O o) r i).2)) (2 ^ n) (s := ((-1 : Int32), (99 : Int32))) (by omega) rfl (by
    intro m i s hi hI
    subst hI
    refine ⟨_, ?_, rfl⟩
    show fX7_nearestNow_L9 (nI o) (nI r) z (m + 1) (nI (neF (UN n K Z O o) r i).1 - 1) (nI (neF (UN n K Z O o) r i).2) (nI i) = fX7_nearestNow_L9 (nI o) (nI r) z m (nI (if tb (UN n K Z O o) i = true then (if ocN (i ^^^ r) < (neF (UN n K Z O o) r i).2 then (i + 1, ocN (i ^^^ r)) else neF (UN n K Z O o) r i) else neF (UN n K Z O o) r i).1 - 1) (nI (if tb (UN n K Z O o) i = true then (if ocN (i ^^^ r) < (neF (UN n K Z O o) r i).2 then (i + 1, ocN (i ^^^ r)) else neF (UN n K Z O o) r i) else neF (UN n K Z O o) r i).2) (nI (i + 1))
    have hx : i ^^^ r < 64 := x64 (by omega) (by omega)
    have hoc := oc_le _ hx
    have hne := ne_ok (UN n K Z O o) r i
    rw [fX7_nearestNow_L9, r_rows h hk.2.1, Option.bind_some, if_neg (nI_ge hi (by omega)), dec_ref h hk ho hi, Option.bind_some, nI_xr, oc_ref _ hx, Option.bind_some, Option.bind_some]
    unfold fX7_nearestNow_J53
    rw [nI_1]
    have hu : tb (UN n K Z O o) i = (tb (al (fg n K) (Z o)) i && tb (al (fg n K) (O o)) i) := tb_and _ _ _
    have hd : (dv (tb (al (fg n K) (Z o)) i) (tb (al (fg n K) (O o)) i) = 3) = (tb (UN n K Z O o) i = true) := by
      rw [hu]
      cases tb (al (fg n K) (Z o)) i <;> cases tb (al (fg n K) (O o)) i <;> decide
    simp only [hd]
    by_cases q : tb (UN n K Z O o) i = true
    · rw [if_pos q, if_pos q]
      by_cases q2 : ocN (i ^^^ r) < (neF (UN n K Z O o) r i).2
      · rw [if_neg (nI_ge q2 (by omega)), if_pos q2, nI_pred]
      · rw [if_pos (nI_le (by omega) (by omega)), if_neg q2]
    · rw [if_neg q, if_neg q])
  unfold fX7_nearestNow
  refine Eq.trans e ?_
  show fX7_nearestNow_L9 (nI o) (nI r) z (m + 1) s.1 s.2 (nI (2 ^ n)) = _
  rw [fX7_nearestNow_L9, r_rows h hk.2.1, Option.bind_some, if_pos (nI_le (Nat.le_refl _) (by omega)), hI]
  unfold nrV
  obtain ⟨d, hd⟩ : ∃ d, 64 = 2 ^ n + d := ⟨64 - 2 ^ n, by omega⟩
  rw [show neF (UN n K Z O o) r 64 = neF (UN n K Z O o) r (2 ^ n + d) from congrArg _ hd, ne_hi (UN n K Z O o) r (2 ^ n) (UN_sub hk ho) d (by omega)]
theorem m1_ne {b : Nat} (h : b < 2 ^ 31) : ¬ nI b = -1 := fun z => nI_pos h (by rw [z]; decide)
theorem nr_cls {n K : Nat} {Z O : Nat → Int64} (vn : Nat → Int64) {o r : Nat} (ho : o < 4) (hr : r < 64) (hv : vn o = UN n K Z O o) : fX5_nearestUndecided vn (nI o) (nI r) = some (nrV n K Z O o r) := by
  obtain ⟨m, s, e, hI⟩ := loop0 (fun k i (s : Int32 × Int32) => fX5_nearestUndecided_L8 (nI o) (nI r) vn k s.1 s.2 i) (fun i s => s = (nI (neF (UN n K Z O o) r i).1 - 1, if (neF (UN n K Z O o) r i).1 = 0 then 0 else nI (neF (UN n K Z O o) r i).2)) 64 (s := ((-1 : Int32), (0 : Int32))) (by decide) rfl (by
    intro m i s hi hI
    subst hI
    refine ⟨_, ?_, rfl⟩
    show fX5_nearestUndecided_L8 (nI o) (nI r) vn (m + 1) (nI (neF (UN n K Z O o) r i).1 - 1) (if (neF (UN n K Z O o) r i).1 = 0 then 0 else nI (neF (UN n K Z O o) r i).2) (nI i) = fX5_nearestUndecided_L8 (nI o) (nI r) vn m (nI (neF (UN n K Z O o) r (i + 1)).1 - 1) (if (neF (UN n K Z O o) r (i + 1)).1 = 0 then 0 else nI (neF (UN n K Z O o) r (i + 1)).2) (nI (i + 1))
    have hx : i ^^^ r < 64 := x64 hi hr
    have hoc := oc_le _ hx
    have hne := ne_ok (UN n K Z O o) r i
    have hnext : neF (UN n K Z O o) r (i + 1) = if tb (UN n K Z O o) i = true then (if ocN (i ^^^ r) < (neF (UN n K Z O o) r i).2 then (i + 1, ocN (i ^^^ r)) else neF (UN n K Z O o) r i) else neF (UN n K Z O o) r i := rfl
    rw [hnext, fX5_nearestUndecided_L8, if_neg (n64 hi), nI_xr, oc_eq _ hx, Option.bind_some]
    unfold fX5_nearestUndecided_J36 fX5_nearestUndecided_J41 fX5_nearestUndecided_J70
    rw [uo_cls ho, Option.bind_some, nI_1, if_tb hi, hv]
    rcases hne with ⟨h1, h2⟩ | ⟨h1, h2, h3⟩
    · rw [h1, h2, if_pos (show nI 0 - 1 = -1 by decide), if_neg (by decide), if_pos rfl, if_pos (show ocN (i ^^^ r) < 99 by omega)]
      by_cases q : tb (UN n K Z O o) i = true
      · rw [if_pos q, if_pos q]
        show _ = fX5_nearestUndecided_L8 (nI o) (nI r) vn m (nI (i + 1) - 1) (if i + 1 = 0 then 0 else nI (ocN (i ^^^ r))) (nI (i + 1))
        rw [nI_pred, if_neg (by omega)]
      · rw [if_neg q, if_neg q, h1, if_pos rfl]
    · obtain ⟨b, hb⟩ : ∃ b, (neF (UN n K Z O o) r i).1 = b + 1 := ⟨(neF (UN n K Z O o) r i).1 - 1, by omega⟩
      have e1 : nI (neF (UN n K Z O o) r i).1 - 1 = nI b := by rw [hb, nI_pred]
      rw [if_neg h1, e1, if_neg (m1_ne (show b < 2 ^ 31 by omega)), if_pos (show (0 : Int32) = 0 from rfl), if_neg (show ¬ (1 : Int32) = 0 by decide)]
      by_cases q : tb (UN n K Z O o) i = true
      · rw [if_pos q, if_pos q]
        by_cases q2 : ocN (i ^^^ r) < (neF (UN n K Z O o) r i).2
        · rw [if_neg (nI_ge q2 (by omega)), if_pos q2]
          show _ = fX5_nearestUndecided_L8 (nI o) (nI r) vn m (nI (i + 1) - 1) (if i + 1 = 0 then 0 else nI (ocN (i ^^^ r))) (nI (i + 1))
          rw [nI_pred, if_neg (show ¬ i + 1 = 0 by omega)]
        · rw [if_pos (nI_le (by omega) (by omega)), if_neg q2, e1, if_neg h1]
      · rw [if_neg q, if_neg q, e1, if_neg h1]
        split <;> rfl)
  unfold fX5_nearestUndecided
  refine Eq.trans e ?_
  show fX5_nearestUndecided_L8 (nI o) (nI r) vn (m + 1) s.1 s.2 (nI 64) = _
  rw [fX5_nearestUndecided_L8, if_pos p64_, hI]
  rfl
/-! other sets of remembered inputs -/
theorem TZ_k {n K : Nat} {Z O : Nat → Int64} {z : Nat → Int32} (h : TZ n K Z O z) (k : Nat) : TZ n k Z O (upd z 1 (nI k)) := by
  refine ⟨?_, pk_us, fun o ho r hr => ?_⟩
  · rw [pk_un (by decide)]; exact h.1
  · rw [pk_un (by omega)]; exact h.2.2 o ho r hr
theorem OKs_k {n K : Nat} {Z O : Nat → Int64} (h : OKs n K Z O) {k : Nat} (hk : k < 2 ^ n) : OKs n k Z O := ⟨h.1, h.2.1, hk, h.2.2.2⟩
theorem up_le (f : Nat) (Z O : Nat → Int64) : up f Z O ≤ 256 := by
  have h := sumN_le (n := 4) (f := fun o => pc (al f (O o) &&& al f (Z o))) (g := fun _ => 64) (fun i _ => pc_le _)
  exact h
theorem kb_1 : ∀ K, K < 64 → ∀ i, i < 6 → nI K &&& ((nI (2 ^ i)) ^^^ (-1)) = nI (ms K (2 ^ i)) := by decide +kernel
theorem kb_2 : ∀ K, K < 64 → ∀ i, i < 6 → K.testBit i = true → nI (ms K (2 ^ i)) ||| nI (2 ^ i) = nI K := by decide +kernel
theorem kb_3 : ∀ n, n ≤ 6 → ∀ K, K < 64 → ∀ i, i < n → fg n K ||| 2 ^ i = fg n (ms K (2 ^ i)) := by decide +kernel
theorem kb_4 : ∀ K, K < 64 → ∀ i, i < 6 → (((nI K) >>> (nI i &&& 31)) &&& 1 = 1 ↔ K.testBit i = true) := by decide +kernel
theorem upd_k (z : Nat → Int32) (a b : Int32) (k : Nat) (h : z k = b) : upd (upd z k a) k b = z := by
  funext j
  by_cases e : j = k
  · subst e; rw [pk_us, h]
  · rw [pk_un e, pk_un e]
theorem upd_s (z : Nat → Int32) (k : Nat) : z = upd z k (z k) := by
  funext j
  by_cases e : j = k
  · subst e; rw [pk_us]
  · rw [pk_un e]
theorem upd_u (z : Nat → Int32) (a b : Int32) (k : Nat) : upd (upd z k a) k b = upd z k b := by
  funext j
  by_cases e : j = k
  · subst e; rw [pk_us, pk_us]
  · rw [pk_un e, pk_un e, pk_un e]
theorem c1_ : ((1 : Int32)).toNatClampNeg = 1 := rfl
theorem c0_ : ((0 : Int32)).toNatClampNeg = 0 := rfl
theorem uw_ref {n K : Nat} {Z O : Nat → Int64} {z : Nat → Int32} (h : TZ n K Z O z) (hk : OKs n K Z O) {i : Nat} (hi : i < n) (hb : K.testBit i = true) : fX7_undecidedWithout z (nI i) = some (nI (up (fg n (ms K (2 ^ i))) Z O), z) := by
  have hn := hk.2.1
  have h64 := p64 hn
  have hK64 : K < 64 := Nat.lt_of_lt_of_le hk.2.2.1 h64
  unfold fX7_undecidedWithout
  rw [gdo, gdo, c1_, lt_e, h.2.1, al_sh i (by omega), kb_1 K hK64 i (by omega), un_ref (TZ_k h _) (OKs_k hk (ms_p2 hn hk.2.2.1 _)), Option.bind_some, gdo, gdo, lt_e, pk_us, kb_2 K hK64 i (by omega) hb, upd_k z _ _ 1 h.2.1]
theorem ik_ref {n K : Nat} {Z O : Nat → Int64} {z : Nat → Int32} (h : TZ n K Z O z) (hK : K < 64) {i : Nat} (hi : i < 6) : fX7_isKnown z (nI i) = some (bI (K.testBit i)) := by
  unfold fX7_isKnown
  rw [gdo, c1_, h.2.1]
  have e := kb_4 K hK i hi
  cases q : K.testBit i
  · rw [if_neg (fun w => by rw [e.mp w] at q; exact absurd q (by decide))]
    rfl
  · rw [if_pos (e.mpr q)]
    rfl
theorem ik_cls {K : Nat} (hK : K < 64) {i : Nat} (hi : i < 6) : fX3_remembers (nI K) (nI i) = some (bI (K.testBit i)) := by
  unfold fX3_remembers
  have e := al_c K hK i hi
  cases q : K.testBit i
  · rw [if_pos (e.mpr q)]
    rfl
  · rw [if_neg (fun w => by rw [e.mp w] at q; exact absurd q (by decide))]
    rfl
/-! the most harmless set -/
def haF (Z O : Nat → Int64) : Nat → Nat
  | 0 => 0
  | s + 1 => if ocN (haF Z O s) < ocN (s + 1) then (if up (s + 1) Z O = 0 then s + 1 else haF Z O s) else haF Z O s
theorem ha_le (Z O : Nat → Int64) : ∀ s, haF Z O s ≤ s := by
  intro s
  induction s with
  | zero => exact Nat.le_refl _
  | succ s ih =>
    show (if ocN (haF Z O s) < ocN (s + 1) then (if up (s + 1) Z O = 0 then s + 1 else haF Z O s) else haF Z O s) ≤ _
    split
    · split <;> omega
    · omega
theorem ha_cls {n : Nat} (hn : n ≤ 6) (Z O : Nat → Int64) : fX3_mostHarmless (nI n) Z O = some (nI (haF Z O (2 ^ n - 1))) := by
  have h64 := p64 hn
  have hp := Nat.two_pow_pos n
  obtain ⟨m, s, e, hi1, hI⟩ := loopI (fun k i s => fX3_mostHarmless_L12 (nI (2 ^ n - 1)) Z O k s i) (fun i s => 0 < i ∧ s = nI (haF Z O (i - 1))) (2 ^ n) (by
    intro m i s hi hI
    obtain ⟨hi0, hI⟩ := hI
    subst hI
    obtain ⟨j, rfl⟩ : ∃ j, i = j + 1 := ⟨i - 1, by omega⟩
    refine ⟨_, ?_, by omega, rfl⟩
    show fX3_mostHarmless_L12 (nI (2 ^ n - 1)) Z O (m + 1) (nI (haF Z O j)) (nI (j + 1)) = fX3_mostHarmless_L12 (nI (2 ^ n - 1)) Z O m (nI (if ocN (haF Z O j) < ocN (j + 1) then (if up (j + 1) Z O = 0 then j + 1 else haF Z O j) else haF Z O j)) (nI (j + 1 + 1))
    have hh := ha_le Z O j
    have o1 := oc_le (j + 1) (by omega)
    have o2 := oc_le (haF Z O j) (by omega)
    have hu := up_le (j + 1) Z O
    rw [fX3_mostHarmless_L12, if_neg (nI_nlt (by omega) (by omega)), oc_eq _ (by omega), Option.bind_some, oc_eq _ (by omega), Option.bind_some, un_cls Z O (by omega), Option.bind_some]
    unfold fX3_mostHarmless_J38
    rw [nI_1]
    by_cases q : ocN (haF Z O j) < ocN (j + 1)
    · rw [if_neg (nI_ge q (by omega)), if_pos q]
      by_cases q2 : up (j + 1) Z O = 0
      · rw [if_pos q2, if_pos (by rw [q2]; decide)]
      · rw [if_neg q2, if_neg (nI_ne0 (by omega) (by omega))]
    · rw [if_pos (nI_le (by omega) (by omega)), if_neg q]) (2 ^ n - 1) 1 5000 0 (by omega) (by omega) ⟨by decide, rfl⟩
  unfold fX3_mostHarmless
  rw [is_eq n hn, Option.bind_some]
  refine Eq.trans e ?_
  show fX3_mostHarmless_L12 (nI (2 ^ n - 1)) Z O (m + 1) s (nI (2 ^ n)) = _
  rw [fX3_mostHarmless_L12, if_pos (nI_lt (by omega) (by omega)), hI]
theorem fg_iv : ∀ n, n ≤ 6 → ∀ s, s < 2 ^ n → fg n (ms (2 ^ n - 1) s) = s := by decide +kernel
theorem ha_ref {n K : Nat} {Z O : Nat → Int64} {z : Nat → Int32} (h : TZ n K Z O z) (hk : OKs n K Z O) : fX7_harmlessNow z = some (nI (haF Z O (2 ^ n - 1)), z) := by
  have hn := hk.2.1
  have h64 := p64 hn
  have hp := Nat.two_pow_pos n
  obtain ⟨m, s, e, hi1, hI, y, hy⟩ := loopI (fun k i (s : Int32 × (Nat → Int32)) => fX7_harmlessNow_L11 (nI K) k s.1 i s.2) (fun i s => 0 < i ∧ s.1 = nI (haF Z O (i - 1)) ∧ ∃ y, s.2 = upd z 1 y) (2 ^ n) (by
    intro m i s hi hI
    obtain ⟨b, zz⟩ := s
    obtain ⟨hi0, hI, y, hy⟩ := hI
    have hI : b = nI (haF Z O (i - 1)) := hI
    have hy : zz = upd z 1 y := hy
    subst hI
    subst hy
    obtain ⟨j, rfl⟩ : ∃ j, i = j + 1 := ⟨i - 1, by omega⟩
    have hh := ha_le Z O j
    have o1 := oc_le (j + 1) (by omega)
    have o2 := oc_le (haF Z O j) (by omega)
    have hu := up_le (j + 1) Z O
    have hrw : fX7_rows (upd z 1 y) = some (nI (2 ^ n)) := by
      unfold fX7_rows
      rw [c0_, pk_un (by decide), h.1, al_sh n (by omega)]
      exact gd_in (c := 0) (by decide) (by decide) _
    have hK' : (nI (2 ^ n) - 1) &&& (nI (j + 1) ^^^ (-1)) = nI (ms (2 ^ n - 1) (j + 1)) := by
      have e1 : nI (2 ^ n) - 1 = nI (2 ^ n - 1) := by
        rw [show 2 ^ n = (2 ^ n - 1) + 1 by omega, nI_pred]
        rfl
      rw [e1, ms_m (2 ^ n - 1) (by omega) (j + 1) (by omega)]
    have hms : ms (2 ^ n - 1) (j + 1) < 2 ^ n := Nat.lt_of_le_of_lt Nat.and_le_left (by omega)
    have hun : fX7_undecided (upd z 1 (nI (ms (2 ^ n - 1) (j + 1)))) = some (nI (up (j + 1) Z O)) := by
      have := un_ref (TZ_k h (ms (2 ^ n - 1) (j + 1))) (OKs_k hk hms)
      rw [fg_iv n hn (j + 1) hi] at this
      exact this
    refine ⟨(nI (haF Z O (j + 1)), upd z 1 (nI (ms (2 ^ n - 1) (j + 1)))), ?_, by omega, rfl, _, rfl⟩
    show fX7_harmlessNow_L11 (nI K) (m + 1) (nI (haF Z O j)) (nI (j + 1)) (upd z 1 y) = fX7_harmlessNow_L11 (nI K) m (nI (if ocN (haF Z O j) < ocN (j + 1) then (if up (j + 1) Z O = 0 then j + 1 else haF Z O j) else haF Z O j)) (nI (j + 1 + 1)) (upd z 1 (nI (ms (2 ^ n - 1) (j + 1))))
    rw [fX7_harmlessNow_L11, hrw, Option.bind_some, if_neg (nI_ge hi (by omega)), Option.bind_some, gdo, hK', c1_, upd_u, lt_e, oc_ref _ (by omega), Option.bind_some, oc_ref _ (by omega), Option.bind_some, hun, Option.bind_some]
    unfold fX7_harmlessNow_J57 fX7_harmlessNow_J58
    rw [nI_1]
    by_cases q : ocN (haF Z O j) < ocN (j + 1)
    · rw [if_neg (nI_ge q (by omega)), if_pos q]
      by_cases q2 : up (j + 1) Z O = 0
      · rw [if_pos q2, if_pos (by rw [q2]; decide)]
      · rw [if_neg q2, if_neg (nI_ne0 (by omega) (by omega))]
    · rw [if_pos (nI_le (by omega) (by omega)), if_neg q]) (2 ^ n - 1) 1 5000 ((0 : Int32), z) (by omega) (by omega) ⟨by decide, rfl, z 1, upd_s z 1⟩
  unfold fX7_harmlessNow
  rw [gdo, c1_, h.2.1]
  refine Eq.trans e ?_
  show fX7_harmlessNow_L11 (nI K) (m + 1) s.1 (nI (2 ^ n)) s.2 = _
  have hrw : fX7_rows (upd z 1 y) = some (nI (2 ^ n)) := by
    unfold fX7_rows
    rw [c0_, pk_un (by decide), h.1, al_sh n (by omega)]
    exact gd_in (c := 0) (by decide) (by decide) _
  rw [hy, fX7_harmlessNow_L11, hrw, Option.bind_some, if_pos (nI_le (Nat.le_refl _) (by omega))]
  unfold fX7_harmlessNow_J65
  rw [gdo, c1_, hI, upd_k z _ _ 1 h.2.1]
