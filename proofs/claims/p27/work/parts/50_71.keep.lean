/-! mathematics of the class -/
def ST (n K : Nat) (Z O : Nat → Int64) (asks hours : Int32) (A F : Nat → Int32) (z : Nat → Int32) : Prop := TZ n K Z O z ∧ OKs n K Z O ∧ z 2 = asks ∧ z 3 = hours ∧ (∀ o, o < 4 → z (4 + o) = A o) ∧ ∀ o, o < 4 → z (8 + o) = F o
theorem ST_z {n K : Nat} {Z O : Nat → Int64} {asks hours : Int32} {A F : Nat → Int32} {z y : Nat → Int32} (h : ST n K Z O asks hours A F z) (e : ∀ i, i < 268 → y i = z i) : ST n K Z O asks hours A F y := by
  obtain ⟨⟨h1, h2, h3⟩, hk, h4, h5, h6, h7⟩ := h
  have h64 := p64 hk.2.1
  refine ⟨⟨?_, ?_, fun o ho r hr => ?_⟩, hk, ?_, ?_, fun o ho => ?_, fun o ho => ?_⟩
  · rw [e 0 (by decide)]; exact h1
  · rw [e 1 (by decide)]; exact h2
  · rw [e _ (by omega)]; exact h3 o ho r hr
  · rw [e 2 (by decide)]; exact h4
  · rw [e 3 (by decide)]; exact h5
  · rw [e _ (by omega)]; exact h6 o ho
  · rw [e _ (by omega)]; exact h7 o ho
theorem ST_v {n K : Nat} {Z O Z' O' : Nat → Int64} {asks hours : Int32} {A F A' F' : Nat → Int32} {z : Nat → Int32} (h : ST n K Z O asks hours A F z) (eZ : ∀ o, o < 4 → Z' o = Z o) (eO : ∀ o, o < 4 → O' o = O o) (eA : ∀ o, o < 4 → A' o = A o) (eF : ∀ o, o < 4 → F' o = F o) : ST n K Z' O' asks hours A' F' z := by
  obtain ⟨⟨h1, h2, h3⟩, hk, h4, h5, h6, h7⟩ := h
  refine ⟨⟨h1, h2, fun o ho r hr => ?_⟩, ⟨hk.1, hk.2.1, hk.2.2.1, fun o ho => ?_⟩, h4, h5, fun o ho => ?_, fun o ho => ?_⟩
  · rw [h3 o ho r hr]
    unfold tOf
    rw [eZ o ho, eO o ho]
  · rw [eZ o ho, eO o ho]; exact hk.2.2.2 o ho
  · rw [eA o ho]; exact h6 o ho
  · rw [eF o ho]; exact h7 o ho
def HV (k : Nat) (hv : Nat → SV) (his : Nat → Int32) : Prop := k ≤ 6 ∧ ∀ j, j < k → ∃ n K : Nat, (hv j).1 = nI n ∧ (hv j).2.1 = nI K ∧ ST n K (hv j).2.2.2.2.1 (hv j).2.2.2.2.2.1 (hv j).2.2.1 (hv j).2.2.2.1 (hv j).2.2.2.2.2.2.1 (hv j).2.2.2.2.2.2.2 (fun i => his (268 * j + i))
theorem n268 {i : Nat} (h : i < 268) : ¬ (268 : Int32) ≤ nI i := nI_ge (b := 268) h (by decide)
theorem n1608 {i : Nat} (h : i < 1608) : ¬ (1608 : Int32) ≤ nI i := nI_ge (b := 1608) h (by decide)
theorem sv_ix (k i : Nat) : (268 : Int32) * nI k + nI i = nI (268 * k + i) := by
  rw [show (268 : Int32) * nI k = nI (268 * k) from pk_mul 268 k, nI_add]
theorem tb_l {α β : Type} (k : Nat) (f : α → Option (Nat ⊕ β)) : tb_ (some (.inl k)) f = some (.inl k) := rfl
theorem tb_r {α β : Type} (a : α) (f : α → Option (Nat ⊕ β)) : tb_ (some (.inr a)) f = f a := rfl
theorem rg3 {lo hi : Nat} (h : hi < 2 ^ 31) (hl : lo ≤ hi) (x : Int32) : x < nI lo ∨ (¬ x < nI lo ∧ nI hi < x) ∨ ∃ v, lo ≤ v ∧ v ≤ hi ∧ x = nI v := by
  by_cases h1 : x < nI lo
  · exact Or.inl h1
  · by_cases h2 : nI hi < x
    · exact Or.inr (Or.inl ⟨h1, h2⟩)
    · have h0 : ¬ x < 0 := by
        intro z
        refine h1 ?_
        rw [Int32.lt_iff_toInt_lt] at z ⊢
        rw [nI_toInt (by omega)]
        have : (0 : Int32).toInt = 0 := by decide
        omega
      obtain ⟨j, hj, rfl⟩ := nI_of h0
      rw [nI_ltI hj (by omega)] at h1
      rw [nI_ltI h hj] at h2
      exact Or.inr (Or.inr ⟨j, by omega, by omega, rfl⟩)
