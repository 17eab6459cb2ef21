/-! mathematics of the class -/
theorem gd3 {α : Type} (k : Option α) : gd (3 : Int32) 268 k = k := if_neg (by decide)
theorem gd2 {α : Type} (k : Option α) : gd (2 : Int32) 268 k = k := if_neg (by decide)
def ftV (n K : Nat) (Z O : Nat → Int64) (i w : Nat) : Int32 := if K.testBit i = true then (if w = 0 then nI (up (fg n (ms K (2 ^ i))) Z O) else nI (PTS n (ms K (2 ^ i)) Z O 0)) else -1
def lmS (n K : Nat) (Z O : Nat → Int64) (p : Nat × Nat) (i : Nat) : Nat × Nat := if p.1 = 0 then (i + 1, up (fg n (ms K (2 ^ i))) Z O) else if up (fg n (ms K (2 ^ i))) Z O < p.2 then (i + 1, up (fg n (ms K (2 ^ i))) Z O) else p
def lmF (n K : Nat) (Z O : Nat → Int64) : Nat → Nat × Nat
  | 0 => (0, 0)
  | i + 1 => if K.testBit i = true then lmS n K Z O (lmF n K Z O i) i else lmF n K Z O i
def lmV (n K : Nat) (Z O : Nat → Int64) : Nat := (lmF n K Z O n).1 - 1
theorem lm_ok (n K : Nat) (Z O : Nat → Int64) : ∀ i, (lmF n K Z O i).2 ≤ 256 ∧ ((lmF n K Z O i).1 = 0 ∧ (∀ j, j < i → K.testBit j = false) ∨ ∃ b, (lmF n K Z O i).1 = b + 1 ∧ b < i ∧ K.testBit b = true) := by
  intro i
  induction i with
  | zero => exact ⟨Nat.zero_le _, Or.inl ⟨rfl, fun j h => absurd h (by omega)⟩⟩
  | succ i ih =>
    have hs : lmF n K Z O (i + 1) = if K.testBit i = true then lmS n K Z O (lmF n K Z O i) i else lmF n K Z O i := rfl
    rw [hs]
    have hu := up_le (fg n (ms K (2 ^ i))) Z O
    obtain ⟨h1, h2⟩ := ih
    by_cases q : K.testBit i = true
    · rw [if_pos q]
      have hold : (lmF n K Z O i).1 ≠ 0 → ∃ b, (lmF n K Z O i).1 = b + 1 ∧ b < i + 1 ∧ K.testBit b = true := by
        intro hne
        rcases h2 with ⟨z, _⟩ | ⟨b, b1, b2, b3⟩
        · exact absurd z hne
        · exact ⟨b, b1, by omega, b3⟩
      unfold lmS
      split
      · exact ⟨hu, Or.inr ⟨i, rfl, Nat.lt_succ_self i, q⟩⟩
      · rename_i hne
        split
        · exact ⟨hu, Or.inr ⟨i, rfl, Nat.lt_succ_self i, q⟩⟩
        · exact ⟨h1, Or.inr (hold hne)⟩
    · rw [if_neg q]
      refine ⟨h1, ?_⟩
      rcases h2 with ⟨z, z2⟩ | ⟨b, b1, b2, b3⟩
      · refine Or.inl ⟨z, fun j hj => ?_⟩
        by_cases e : j = i
        · subst e; simpa using q
        · exact z2 j (by omega)
      · exact Or.inr ⟨b, b1, by omega, b3⟩
theorem lm_pos {n K : Nat} (hK : K < 2 ^ n) (h0 : K ≠ 0) (Z O : Nat → Int64) : (lmF n K Z O n).1 = lmV n K Z O + 1 ∧ lmV n K Z O < n ∧ K.testBit (lmV n K Z O) = true := by
  rcases (lm_ok n K Z O n).2 with ⟨_, h2⟩ | ⟨b, b1, b2, b3⟩
  · refine absurd ?_ h0
    apply Nat.eq_of_testBit_eq
    intro j
    rw [Nat.zero_testBit]
    rcases Nat.lt_or_ge j n with z | z
    · exact h2 j z
    · exact Nat.testBit_lt_two_pow (Nat.lt_of_lt_of_le hK (Nat.pow_le_pow_right (by decide) z))
  · have e : lmV n K Z O = b := by unfold lmV; omega
    rw [e]
    exact ⟨b1, b2, b3⟩
theorem lm_cls {n K : Nat} {Z O : Nat → Int64} (hk : OKs n K Z O) (h0 : K ≠ 0) : fX3_leastMissed (nI n) (nI K) Z O = some (nI (lmV n K Z O)) := by
  have hn := hk.2.1
  have h64 := p64 hn
  have hK64 : K < 64 := Nat.lt_of_lt_of_le hk.2.2.1 h64
  obtain ⟨m, s, e, hI⟩ := loop0 (fun k i (s : Int32 × Int32) => fX3_leastMissed_L6 (nI n) (nI K) Z O k s.1 s.2 i) (fun i s => s = (nI (lmF n K Z O i).1 - 1, nI (lmF n K Z O i).2)) n (s := ((-1 : Int32), (0 : Int32))) (by omega) rfl (by
    intro m i s hi hI
    subst hI
    refine ⟨_, ?_, rfl⟩
    show fX3_leastMissed_L6 (nI n) (nI K) Z O (m + 1) (nI (lmF n K Z O i).1 - 1) (nI (lmF n K Z O i).2) (nI i) = fX3_leastMissed_L6 (nI n) (nI K) Z O m (nI (if K.testBit i = true then lmS n K Z O (lmF n K Z O i) i else lmF n K Z O i).1 - 1) (nI (if K.testBit i = true then lmS n K Z O (lmF n K Z O i) i else lmF n K Z O i).2) (nI (i + 1))
    obtain ⟨l1, l2⟩ := lm_ok n K Z O i
    have hu := up_le (fg n (ms K (2 ^ i))) Z O
    have hfo : fX3_forgotten (nI n) (nI K) = some (nI (fg n K)) := by
      unfold fX3_forgotten
      rw [is_eq n hn, Option.bind_some, fg_m n hn K hK64]
    rw [fX3_leastMissed_L6, if_neg (nI_ge hi (by omega)), ik_cls hK64 (by omega), Option.bind_some, hfo, Option.bind_some, al_sh i (by omega), nI_orr, kb_3 n hn K hK64 i hi, un_cls Z O (fg_lt n _), Option.bind_some]
    unfold fX3_leastMissed_J47 fX3_leastMissed_J52
    rw [nI_1]
    cases q : K.testBit i
    · rw [if_pos (show bI false = 0 from rfl), if_neg (by decide)]
    · rw [if_neg (show ¬ bI true = 0 by decide), if_pos rfl]
      unfold lmS
      rcases l2 with ⟨h1, _⟩ | ⟨b, b1, b2, b3⟩
      · rw [h1, if_pos (by decide), if_pos rfl, nI_pred]
      · have e1 : nI (lmF n K Z O i).1 - 1 = nI b := by rw [b1, nI_pred]
        rw [e1, if_neg (m1_ne (show b < 2 ^ 31 by omega)), if_neg (show ¬ (lmF n K Z O i).1 = 0 by omega)]
        by_cases q2 : up (fg n (ms K (2 ^ i))) Z O < (lmF n K Z O i).2
        · rw [if_neg (nI_ge q2 (by omega)), if_pos q2, nI_pred]
        · rw [if_pos (nI_le (by omega) (by omega)), if_neg q2, e1])
  unfold fX3_leastMissed
  refine Eq.trans e ?_
  show fX3_leastMissed_L6 (nI n) (nI K) Z O (m + 1) s.1 s.2 (nI n) = _
  rw [fX3_leastMissed_L6, if_pos (nI_le (Nat.le_refl _) (by omega)), hI]
  obtain ⟨p1, p2, p3⟩ := lm_pos hk.2.2.1 h0 Z O
  unfold fX3_leastMissed_J58
  rw [p1, nI_pred, if_neg (m1_ne (by omega))]
