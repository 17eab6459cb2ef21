/-! mathematics of the class -/
def neF (x : Int64) (r : Nat) : Nat → Nat × Nat
  | 0 => (0, 99)
  | m + 1 => if tb x m = true then (if ocN (m ^^^ r) < (neF x r m).2 then (m + 1, ocN (m ^^^ r)) else neF x r m) else neF x r m
theorem ne_ok (x : Int64) (r : Nat) : ∀ m, ((neF x r m).1 = 0 ∧ (neF x r m).2 = 99) ∨ ((neF x r m).1 ≠ 0 ∧ (neF x r m).1 ≤ m ∧ (neF x r m).2 < 99) := by
  intro m
  induction m with
  | zero => exact Or.inl ⟨rfl, rfl⟩
  | succ m ih =>
    have hold : ((neF x r m).1 = 0 ∧ (neF x r m).2 = 99) ∨ ((neF x r m).1 ≠ 0 ∧ (neF x r m).1 ≤ m + 1 ∧ (neF x r m).2 < 99) := by
      rcases ih with h | h
      · exact Or.inl h
      · exact Or.inr ⟨h.1, by omega, h.2.2⟩
    show ((if tb x m = true then (if ocN (m ^^^ r) < (neF x r m).2 then (m + 1, ocN (m ^^^ r)) else neF x r m) else neF x r m).1 = 0 ∧ _) ∨ _
    rw [show neF x r (m + 1) = if tb x m = true then (if ocN (m ^^^ r) < (neF x r m).2 then (m + 1, ocN (m ^^^ r)) else neF x r m) else neF x r m from rfl]
    split
    · split
      · refine Or.inr ⟨by show m + 1 ≠ 0; omega, Nat.le_refl _, ?_⟩
        show ocN (m ^^^ r) < 99
        rcases ih with h | h
        · omega
        · omega
      · exact hold
    · exact hold
theorem ne_hi (x : Int64) (r N : Nat) (hx : ∀ i, i < 64 → tb x i = true → i < N) : ∀ d, N + d ≤ 64 → neF x r (N + d) = neF x r N := by
  intro d
  induction d with
  | zero => intro _; rfl
  | succ d ih =>
    intro h
    rw [← ih (by omega)]
    show (if tb x (N + d) = true then (if ocN ((N + d) ^^^ r) < (neF x r (N + d)).2 then (N + d + 1, ocN ((N + d) ^^^ r)) else neF x r (N + d)) else neF x r (N + d)) = _
    cases q : tb x (N + d)
    · rw [if_neg (by decide)]
    · have := hx (N + d) (by omega) q
      omega
def nrV (n K : Nat) (Z O : Nat → Int64) (o r : Nat) : Int32 := nI (neF (UN n K Z O o) r 64).1 - 1
theorem UN_sub {n K : Nat} {Z O : Nat → Int64} (hk : OKs n K Z O) {o : Nat} (ho : o < 4) : subR n (UN n K Z O o) := by
  intro r hr h
  unfold UN at h
  rw [tb_and, Bool.and_eq_true] at h
  exact al_sub hk.2.1 (fg_lt2 n K) (hk.2.2.2 o ho).1 r hr h.1
theorem m1_ne {b : Nat} (h : b < 2 ^ 31) : ¬ nI b = -1 := fun z => nI_pos h (by rw [z]; decide)
theorem TZ_k {n K : Nat} {Z O : Nat → Int64} {z : Nat → Int32} (h : TZ n K Z O z) (k : Nat) : TZ n k Z O (upd z 1 (nI k)) := by
  refine ⟨?_, pk_us, fun o ho r hr => ?_⟩
  · rw [pk_un (by decide)]; exact h.1
  · rw [pk_un (by omega)]; exact h.2.2 o ho r hr
theorem OKs_k {n K : Nat} {Z O : Nat → Int64} (h : OKs n K Z O) {k : Nat} (hk : k < 2 ^ n) : OKs n k Z O := ⟨h.1, h.2.1, hk, h.2.2.2⟩
theorem up_le (f : Nat) (Z O : Nat → Int64) : up f Z O ≤ 256 := by
  have h := sumN_le (n := 4) (f := fun o => pc (al f (O o) &&& al f (Z o))) (g := fun _ => 64) (fun i _ => pc_le _)
  exact h
theorem kb_1 : ∀ K, K < 64 → ∀ i, i < 6 → nI K &&& ((nI (2 ^ i)) ^^^ (-1)) = nI (ms K (2 ^ i)) := by decide +kernel
theorem kb_2 : ∀ K, K < 64 → ∀ i, i < 6 → K.testBit i = true → nI (ms K (2 ^ i)) ||| nI (2 ^ i) = nI K := by decide +kernel
theorem kb_3 : ∀ n, n ≤ 6 → ∀ K, K < 64 → ∀ i, i < n → fg n K ||| 2 ^ i = fg n (ms K (2 ^ i)) := by decide +kernel
theorem kb_4 : ∀ K, K < 64 → ∀ i, i < 6 → (((nI K) >>> (nI i &&& 31)) &&& 1 = 1 ↔ K.testBit i = true) := by decide +kernel
theorem upd_k (z : Nat → Int32) (a b : Int32) (k : Nat) (h : z k = b) : upd (upd z k a) k b = z := by
  funext j
  by_cases e : j = k
  · subst e; rw [pk_us, h]
  · rw [pk_un e, pk_un e]
theorem upd_s (z : Nat → Int32) (k : Nat) : z = upd z k (z k) := by
  funext j
  by_cases e : j = k
  · subst e; rw [pk_us]
  · rw [pk_un e]
theorem upd_u (z : Nat → Int32) (a b : Int32) (k : Nat) : upd (upd z k a) k b = upd z k b := by
  funext j
  by_cases e : j = k
  · subst e; rw [pk_us, pk_us]
  · rw [pk_un e, pk_un e, pk_un e]
theorem c1_ : ((1 : Int32)).toNatClampNeg = 1 := rfl
theorem c0_ : ((0 : Int32)).toNatClampNeg = 0 := rfl
theorem ik_cls {K : Nat} (hK : K < 64) {i : Nat} (hi : i < 6) : fX3_remembers (nI K) (nI i) = some (bI (K.testBit i)) := by
  unfold fX3_remembers
  have e := al_c K hK i hi
  cases q : K.testBit i
  · rw [if_pos (e.mpr q)]
    rfl
  · rw [if_neg (fun w => by rw [e.mp w] at q; exact absurd q (by decide))]
    rfl
def haF (Z O : Nat → Int64) : Nat → Nat
  | 0 => 0
  | s + 1 => if ocN (haF Z O s) < ocN (s + 1) then (if up (s + 1) Z O = 0 then s + 1 else haF Z O s) else haF Z O s
theorem ha_le (Z O : Nat → Int64) : ∀ s, haF Z O s ≤ s := by
  intro s
  induction s with
  | zero => exact Nat.le_refl _
  | succ s ih =>
    show (if ocN (haF Z O s) < ocN (s + 1) then (if up (s + 1) Z O = 0 then s + 1 else haF Z O s) else haF Z O s) ≤ _
    split
    · split <;> omega
    · omega
theorem fg_iv : ∀ n, n ≤ 6 → ∀ s, s < 2 ^ n → fg n (ms (2 ^ n - 1) s) = s := by decide +kernel
