/-! class and reference side by side: what is saved -/
def ST (n K : Nat) (Z O : Nat → Int64) (asks hours : Int32) (A F : Nat → Int32) (z : Nat → Int32) : Prop := TZ n K Z O z ∧ OKs n K Z O ∧ z 2 = asks ∧ z 3 = hours ∧ (∀ o, o < 4 → z (4 + o) = A o) ∧ ∀ o, o < 4 → z (8 + o) = F o
theorem ST_z {n K : Nat} {Z O : Nat → Int64} {asks hours : Int32} {A F : Nat → Int32} {z y : Nat → Int32} (h : ST n K Z O asks hours A F z) (e : ∀ i, i < 268 → y i = z i) : ST n K Z O asks hours A F y := by
  obtain ⟨⟨h1, h2, h3⟩, hk, h4, h5, h6, h7⟩ := h
  have h64 := p64 hk.2.1
  refine ⟨⟨?_, ?_, fun o ho r hr => ?_⟩, hk, ?_, ?_, fun o ho => ?_, fun o ho => ?_⟩
  · rw [e 0 (by decide)]; exact h1
  · rw [e 1 (by decide)]; exact h2
  · rw [e _ (by omega)]; exact h3 o ho r hr
  · rw [e 2 (by decide)]; exact h4
  · rw [e 3 (by decide)]; exact h5
  · rw [e _ (by omega)]; exact h6 o ho
  · rw [e _ (by omega)]; exact h7 o ho
theorem ST_v {n K : Nat} {Z O Z' O' : Nat → Int64} {asks hours : Int32} {A F A' F' : Nat → Int32} {z : Nat → Int32} (h : ST n K Z O asks hours A F z) (eZ : ∀ o, o < 4 → Z' o = Z o) (eO : ∀ o, o < 4 → O' o = O o) (eA : ∀ o, o < 4 → A' o = A o) (eF : ∀ o, o < 4 → F' o = F o) : ST n K Z' O' asks hours A' F' z := by
  obtain ⟨⟨h1, h2, h3⟩, hk, h4, h5, h6, h7⟩ := h
  refine ⟨⟨h1, h2, fun o ho r hr => ?_⟩, ⟨hk.1, hk.2.1, hk.2.2.1, fun o ho => ?_⟩, h4, h5, fun o ho => ?_, fun o ho => ?_⟩
  · rw [h3 o ho r hr]
    unfold tOf
    rw [eZ o ho, eO o ho]
  · rw [eZ o ho, eO o ho]; exact hk.2.2.2 o ho
  · rw [eA o ho]; exact h6 o ho
  · rw [eF o ho]; exact h7 o ho
def HV (k : Nat) (hv : Nat → SV) (his : Nat → Int32) : Prop := k ≤ 6 ∧ ∀ j, j < k → ∃ n K : Nat, (hv j).1 = nI n ∧ (hv j).2.1 = nI K ∧ ST n K (hv j).2.2.2.2.1 (hv j).2.2.2.2.2.1 (hv j).2.2.1 (hv j).2.2.2.1 (hv j).2.2.2.2.2.2.1 (hv j).2.2.2.2.2.2.2 (fun i => his (268 * j + i))
theorem n268 {i : Nat} (h : i < 268) : ¬ (268 : Int32) ≤ nI i := nI_ge (b := 268) h (by decide)
theorem n1608 {i : Nat} (h : i < 1608) : ¬ (1608 : Int32) ≤ nI i := nI_ge (b := 1608) h (by decide)
theorem sv_ix (k i : Nat) : (268 : Int32) * nI k + nI i = nI (268 * k + i) := by
  rw [show (268 : Int32) * nI k = nI (268 * k) from pk_mul 268 k, nI_add]
theorem sv_put (z : Nat → Int32) {k : Nat} (hk : k < 6) (his : Nat → Int32) : ∃ his', fX7_save_J52 z (nI k) his = some (nI (k + 1), his') ∧ (∀ i, i < 268 → his' (268 * k + i) = z i) ∧ ∀ q, (q < 268 * k ∨ 268 * k + 268 ≤ q) → his' q = his q := by
  obtain ⟨m, s, e, h1, h2⟩ := loop0 (fun n i s => fX7_save_L54 z (nI k) n i s) (fun i s => (∀ j, j < i → s (268 * k + j) = z j) ∧ ∀ q, (q < 268 * k ∨ 268 * k + i ≤ q) → s q = his q) 268 (s := his) (by decide) ⟨fun j hj => absurd hj (by omega), fun _ _ => rfl⟩ (by
    intro m i s hi hI
    obtain ⟨h1, h2⟩ := hI
    refine ⟨upd s (268 * k + i) (z i), ?_, fun j hj => ?_, fun q hq => ?_⟩
    · show fX7_save_L54 z (nI k) (m + 1) (nI i) s = _
      rw [fX7_save_L54, if_neg (n268 hi), gd_in hi (by decide), sv_ix, gd_in (show 268 * k + i < 1608 by omega) (by decide), lt_e, nI_clamp (by omega), nI_clamp (by omega), nI_1]
    · by_cases e : j = i
      · subst e; exact pk_us
      · rw [pk_un (by omega)]; exact h1 j (by omega)
    · rw [pk_un (by omega)]; exact h2 q (by omega))
  refine ⟨s, ?_, h1, h2⟩
  unfold fX7_save_J52
  refine Eq.trans e ?_
  show fX7_save_L54 z (nI k) (m + 1) (nI 268) s = _
  rw [fX7_save_L54, if_pos (by decide)]
  unfold fX7_save_J88
  rw [nI_1]
theorem sv_move (z : Nat → Int32) (his : Nat → Int32) : ∃ h2, fX7_save_L13 z (nI 6) 5000 268 his = fX7_save_J42 z (nI 6) h2 ∧ ∀ i, i < 1340 → h2 i = his (i + 268) := by
  obtain ⟨m, s, e, t, ht, h1, h2⟩ := loopI (fun n i s => fX7_save_L13 z (nI 6) n i s) (fun i s => ∃ t, i = 268 + t ∧ (∀ j, j < t → s j = his (j + 268)) ∧ ∀ q, t ≤ q → s q = his q) 1608 (by
    intro m i s hi hI
    obtain ⟨t, rfl, h1, h2⟩ := hI
    refine ⟨upd s t (his (268 + t)), ?_, t + 1, rfl, fun j hj => ?_, fun q hq => ?_⟩
    · show fX7_save_L13 z (nI 6) (m + 1) (nI (268 + t)) s = _
      have es : nI (268 + t) - 268 = nI t := by
        have := pk_sub (a := 268 + t) (b := 268) (by omega)
        rw [show 268 + t - 268 = t from Nat.add_sub_cancel_left 268 t] at this
        exact this
      rw [fX7_save_L13, if_neg (n1608 hi), gd_in hi (by decide), es, gd_in (show t < 1608 by omega) (by decide), nI_clamp (by omega), nI_clamp (by omega), nI_1, h2 (268 + t) (by omega)]
    · by_cases e : j = t
      · subst e; rw [pk_us, Nat.add_comm]
      · rw [pk_un e]; exact h1 j (by omega)
    · rw [pk_un (by omega)]; exact h2 q (by omega)) 1340 268 5000 his (by decide) (by decide) ⟨0, rfl, fun j hj => absurd hj (by omega), fun _ _ => rfl⟩
  refine ⟨s, ?_, fun i hi => h1 i (by omega)⟩
  refine Eq.trans e ?_
  show fX7_save_L13 z (nI 6) (m + 1) (nI 1608) s = _
  rw [fX7_save_L13, if_pos (by decide)]
theorem keep {n K k : Nat} {Z O : Nat → Int64} {asks hours : Int32} {A F : Nat → Int32} {z his : Nat → Int32} {hv : Nat → SV} (h : ST n K Z O asks hours A F z) (hh : HV k hv his) : ∃ k' hv' his', fX0_keep (nI k) (nI n) (nI K) asks hours Z O A F hv = some (nI (k' + 1), hv') ∧ fX7_save z (nI k) his = some (nI (k' + 1), his') ∧ HV (k' + 1) hv' his' ∧ hv' k' = (nI n, nI K, asks, hours, Z, O, A, F) := by
  obtain ⟨h6, hj⟩ := hh
  by_cases hk6 : k = 6
  · subst hk6
    obtain ⟨h2, e2, m2⟩ := sv_move z his
    obtain ⟨h3, e3, p1, p2⟩ := sv_put z (k := 5) (by decide) h2
    refine ⟨5, vup (fun k => hv (k + 1)) 5 (nI n, nI K, asks, hours, Z, O, A, F), h3, ?_, ?_, ⟨by decide, fun j hj2 => ?_⟩, if_pos rfl⟩
    · unfold fX0_keep
      rw [if_pos (by decide)]
      rfl
    · unfold fX7_save
      rw [if_pos (by decide), e2]
      unfold fX7_save_J42
      rw [show nI 6 - 1 = nI 5 by decide]
      exact e3
    · by_cases e : j = 5
      · subst e
        refine ⟨n, K, ?_⟩
        have ev : vup (fun k => hv (k + 1)) 5 (nI n, nI K, asks, hours, Z, O, A, F) 5 = (nI n, nI K, asks, hours, Z, O, A, F) := if_pos rfl
        rw [ev]
        exact ⟨rfl, rfl, ST_z h (fun i hi => p1 i hi)⟩
      · obtain ⟨n1, K1, a1, a2, a3⟩ := hj (j + 1) (by omega)
        have ev : vup (fun k => hv (k + 1)) 5 (nI n, nI K, asks, hours, Z, O, A, F) j = hv (j + 1) := if_neg e
        rw [ev]
        refine ⟨n1, K1, a1, a2, ST_z a3 (fun i hi => ?_)⟩
        show h3 (268 * j + i) = his (268 * (j + 1) + i)
        rw [p2 _ (by omega), m2 _ (by omega), show 268 * (j + 1) + i = 268 * j + i + 268 by omega]
  · obtain ⟨h3, e3, p1, p2⟩ := sv_put z (k := k) (by omega) his
    refine ⟨k, vup hv k (nI n, nI K, asks, hours, Z, O, A, F), h3, ?_, ?_, ⟨by omega, fun j hj2 => ?_⟩, if_pos rfl⟩
    · unfold fX0_keep
      rw [if_neg (show ¬ (6 : Int32) ≤ nI k from nI_ge (b := 6) (by omega) (by decide)), nI_1, nI_clamp (by omega)]
    · unfold fX7_save
      rw [if_neg (show ¬ nI k = 6 from fun w => hk6 ((nI_eq (b := 6) (by omega) (by decide)).mp w))]
      exact e3
    · by_cases e : j = k
      · subst e
        refine ⟨n, K, ?_⟩
        have ev : vup hv j (nI n, nI K, asks, hours, Z, O, A, F) j = (nI n, nI K, asks, hours, Z, O, A, F) := if_pos rfl
        rw [ev]
        exact ⟨rfl, rfl, ST_z h (fun i hi => p1 i hi)⟩
      · obtain ⟨n1, K1, a1, a2, a3⟩ := hj j (by omega)
        have ev : vup hv k (nI n, nI K, asks, hours, Z, O, A, F) j = hv j := if_neg e
        rw [ev]
        refine ⟨n1, K1, a1, a2, ST_z a3 (fun i hi => ?_)⟩
        show h3 (268 * j + i) = his (268 * j + i)
        exact p2 _ (by omega)
theorem keep2 {n K k : Nat} {Z O : Nat → Int64} {asks hours : Int32} {A F : Nat → Int32} {z his : Nat → Int32} {hv : Nat → SV} (h : ST n K Z O asks hours A F z) (hh : HV k hv his) : ∃ k' hv' his', fX6_saveBeforeChange (nI n) (nI K) asks hours Z O A F (nI k) hv = some (1, nI (k' + 1), hv') ∧ fX7_save z (nI k) his = some (nI (k' + 1), his') ∧ HV (k' + 1) hv' his' ∧ hv' k' = (nI n, nI K, asks, hours, Z, O, A, F) := by
  obtain ⟨k', hv', his', e1, e2, h1, h2⟩ := keep h hh
  refine ⟨k', hv', his', ?_, e2, h1, h2⟩
  unfold fX6_saveBeforeChange
  rw [e1, Option.bind_some]
/-! what is refused -/
theorem tb_l {α β : Type} (k : Nat) (f : α → Option (Nat ⊕ β)) : tb_ (some (.inl k)) f = some (.inl k) := rfl
theorem tb_r {α β : Type} (a : α) (f : α → Option (Nat ⊕ β)) : tb_ (some (.inr a)) f = f a := rfl
theorem rg3 {lo hi : Nat} (h : hi < 2 ^ 31) (hl : lo ≤ hi) (x : Int32) : x < nI lo ∨ (¬ x < nI lo ∧ nI hi < x) ∨ ∃ v, lo ≤ v ∧ v ≤ hi ∧ x = nI v := by
  by_cases h1 : x < nI lo
  · exact Or.inl h1
  · by_cases h2 : nI hi < x
    · exact Or.inr (Or.inl ⟨h1, h2⟩)
    · have h0 : ¬ x < 0 := by
        intro z
        refine h1 ?_
        rw [Int32.lt_iff_toInt_lt] at z ⊢
        rw [nI_toInt (by omega)]
        have : (0 : Int32).toInt = 0 := by decide
        omega
      obtain ⟨j, hj, rfl⟩ := nI_of h0
      rw [nI_ltI hj (by omega)] at h1
      rw [nI_ltI h hj] at h2
      exact Or.inr (Or.inr ⟨j, by omega, by omega, rfl⟩)
theorem crg {lo hi : Nat} (h : hi < 2 ^ 31) (hl : lo ≤ hi) {a b : Int32} (ha : a = nI lo) (hb : b = nI hi) (x : Int32) : (fX6_checkRange x a b = some (.inl 0) ∧ fX7_within x a b = some 0) ∨ ∃ v, lo ≤ v ∧ v ≤ hi ∧ x = nI v ∧ fX6_checkRange x a b = some (.inr ()) ∧ fX7_within x a b = some 1 := by
  subst ha hb
  unfold fX6_checkRange fX7_within fX6_checkRange_J10
  rcases rg3 h hl x with h1 | ⟨h1, h2⟩ | ⟨v, h1, h2, rfl⟩
  · rw [if_pos h1, if_pos h1]
    exact Or.inl ⟨rfl, rfl⟩
  · have h3 : ¬ x ≤ nI hi := by
      rw [Int32.lt_iff_toInt_lt] at h2
      rw [Int32.le_iff_toInt_le]
      omega
    rw [if_neg h1, if_neg h1, if_neg h3, if_pos h2]
    exact Or.inl ⟨rfl, rfl⟩
  · rw [if_neg (nI_nlt h1 (by omega)), if_neg (nI_nlt h1 (by omega)), if_pos (nI_le h2 h), if_neg (nI_nlt h2 h)]
    exact Or.inr ⟨v, h1, h2, rfl, rfl, rfl⟩
theorem cko (x : Int32) : (fX6_checkOutput x = some (.inl 1) ∧ fX7_isOutput x = some 0) ∨ ∃ o, o < 4 ∧ x = nI o ∧ fX6_checkOutput x = some (.inr ()) ∧ fX7_isOutput x = some 1 := by
  unfold fX6_checkOutput fX7_isOutput fX7_within fX6_isOutput
  rcases rg3 (lo := 0) (hi := 3) (by decide) (by decide) x with h1 | ⟨h1, h2⟩ | ⟨v, h1, h2, rfl⟩
  · have h1 : x < 0 := h1
    rw [if_pos h1, if_pos h1]
    exact Or.inl ⟨rfl, rfl⟩
  · have h1 : ¬ x < 0 := h1
    have h2 : 3 < x := h2
    have h3 : 4 ≤ x := by
      rw [Int32.lt_iff_toInt_lt] at h2
      rw [Int32.le_iff_toInt_le]
      have : (3 : Int32).toInt = 3 := by decide
      have : (4 : Int32).toInt = 4 := by decide
      omega
    rw [if_neg h1, if_neg h1, if_pos h3, if_pos h2]
    exact Or.inl ⟨rfl, rfl⟩
  · rw [if_neg (nI_pos (by omega)), if_neg (nI_pos (by omega)), if_neg (n4 (by omega)), if_neg (show ¬ (3 : Int32) < nI v from nI_nlt (a := 3) h2 (by decide))]
    exact Or.inr ⟨v, by omega, rfl, rfl, rfl⟩
theorem ckr {n K : Nat} {Z O : Nat → Int64} {z : Nat → Int32} (h : TZ n K Z O z) (hn : n ≤ 6) (x : Int32) : (fX6_checkRow (nI n) x = some (.inl 1) ∧ fX7_isRow z x = some 0) ∨ ∃ r, r < 2 ^ n ∧ x = nI r ∧ fX6_checkRow (nI n) x = some (.inr ()) ∧ fX7_isRow z x = some 1 := by
  have h64 := p64 hn
  have hp := Nat.two_pow_pos n
  have e1 : nI (2 ^ n) - 1 = nI (2 ^ n - 1) := by
    rw [show 2 ^ n = (2 ^ n - 1) + 1 by omega, nI_pred]
    rfl
  unfold fX6_checkRow fX7_isRow fX7_within fX6_checkRow_J15 fX3_rowCount
  rw [r_rows h hn, Option.bind_some, Option.bind_some, e1, sh_n hn]
  rcases rg3 (lo := 0) (hi := 2 ^ n - 1) (by omega) (by omega) x with h1 | ⟨h1, h2⟩ | ⟨v, h1, h2, rfl⟩
  · have h1 : x < 0 := h1
    rw [if_pos h1, if_pos h1]
    exact Or.inl ⟨rfl, rfl⟩
  · have h1 : ¬ x < 0 := h1
    have h3 : ¬ x < nI (2 ^ n) := by
      rw [Int32.lt_iff_toInt_lt] at h2 ⊢
      rw [nI_toInt (by omega)] at h2 ⊢
      omega
    rw [if_neg h1, if_neg h1, if_neg h3, if_pos h2]
    exact Or.inl ⟨rfl, rfl⟩
  · rw [if_neg (nI_pos (by omega)), if_neg (nI_pos (by omega)), if_pos (nI_lt (show v < 2 ^ n by omega) (by omega)), if_neg (nI_nlt h2 (by omega))]
    exact Or.inr ⟨v, by omega, rfl, rfl, rfl⟩
theorem cki {n K : Nat} {Z O : Nat → Int64} {z : Nat → Int32} (h : TZ n K Z O z) (h1n : 1 ≤ n) (hn : n ≤ 6) (x : Int32) : (fX6_checkInput (nI n) x = some (.inl 1) ∧ fX7_isInput z x = some 0) ∨ ∃ i, i < n ∧ x = nI i ∧ fX6_checkInput (nI n) x = some (.inr ()) ∧ fX7_isInput z x = some 1 := by
  have e1 : nI n - 1 = nI (n - 1) := by
    obtain ⟨j, rfl⟩ : ∃ j, n = j + 1 := ⟨n - 1, by omega⟩
    rw [nI_pred]
    rfl
  unfold fX6_checkInput fX7_isInput fX7_within fX6_checkInput_J15
  rw [gdz, c0_, h.1, e1]
  rcases rg3 (lo := 0) (hi := n - 1) (by omega) (by omega) x with h1 | ⟨h1, h2⟩ | ⟨v, h1, h2, rfl⟩
  · have h1 : x < 0 := h1
    rw [if_pos h1, if_pos h1]
    exact Or.inl ⟨rfl, rfl⟩
  · have h1 : ¬ x < 0 := h1
    have h3 : ¬ x < nI n := by
      rw [Int32.lt_iff_toInt_lt] at h2 ⊢
      rw [nI_toInt (by omega)] at h2 ⊢
      omega
    rw [if_neg h1, if_neg h1, if_neg h3, if_pos h2]
    exact Or.inl ⟨rfl, rfl⟩
  · rw [if_neg (nI_pos (by omega)), if_neg (nI_pos (by omega)), if_pos (nI_lt (show v < n by omega) (by omega)), if_neg (nI_nlt h2 (by omega))]
    exact Or.inr ⟨v, by omega, rfl, rfl, rfl⟩
