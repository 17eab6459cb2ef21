/-! mathematics of the class -/
theorem nI_xr (a b : Nat) : nI a ^^^ nI b = nI (a ^^^ b) := by
  apply Int32.toBitVec_inj.1
  show BitVec.ofNat 32 a ^^^ BitVec.ofNat 32 b = BitVec.ofNat 32 (a ^^^ b)
  apply BitVec.eq_of_getLsbD_eq
  intro i hi
  simp [hi]
theorem nI_an (a b : Nat) : nI a &&& nI b = nI (a &&& b) := by
  apply Int32.toBitVec_inj.1
  show BitVec.ofNat 32 a &&& BitVec.ofNat 32 b = BitVec.ofNat 32 (a &&& b)
  apply BitVec.eq_of_getLsbD_eq
  intro i hi
  simp [hi]
theorem nI_orr (a b : Nat) : nI a ||| nI b = nI (a ||| b) := by
  apply Int32.toBitVec_inj.1
  show BitVec.ofNat 32 a ||| BitVec.ofNat 32 b = BitVec.ofNat 32 (a ||| b)
  apply BitVec.eq_of_getLsbD_eq
  intro i hi
  simp [hi]
def bI (b : Bool) : Int32 := if b = true then 1 else 0
def anyN : Nat → (Nat → Bool) → Bool
  | 0, _ => false
  | n + 1, f => anyN n f || f n
theorem anyN_iff {n : Nat} {f : Nat → Bool} : anyN n f = true ↔ ∃ i, i < n ∧ f i = true := by
  induction n with
  | zero => exact ⟨fun h => absurd (show false = true from h) (by decide), fun ⟨i, h, _⟩ => absurd h (by omega)⟩
  | succ n ih =>
    show (anyN n f || f n) = true ↔ _
    rw [Bool.or_eq_true, ih]
    constructor
    · rintro (⟨i, h1, h2⟩ | h)
      · exact ⟨i, by omega, h2⟩
      · exact ⟨n, by omega, h⟩
    · rintro ⟨i, h1, h2⟩
      rcases Nat.lt_or_ge i n with z | z
      · exact Or.inl ⟨i, z, h2⟩
      · have : i = n := by omega
        subst this
        exact Or.inr h2
def subR (n : Nat) (x : Int64) : Prop := ∀ r, r < 64 → tb x r = true → r < 2 ^ n
def tOf (Z O : Nat → Int64) (o r : Nat) : Int32 := if tb (O o) r = true then 1 else if tb (Z o) r = true then 0 else 2
def TZ (n K : Nat) (Z O : Nat → Int64) (z : Nat → Int32) : Prop := z 0 = nI n ∧ z 1 = nI K ∧ ∀ o, o < 4 → ∀ r, r < 2 ^ n → z (12 + 64 * o + r) = tOf Z O o r
def OKs (n K : Nat) (Z O : Nat → Int64) : Prop := 1 ≤ n ∧ n ≤ 6 ∧ K < 2 ^ n ∧ ∀ o, o < 4 → subR n (Z o) ∧ subR n (O o) ∧ ∀ r, r < 64 → tb (Z o) r = true → tb (O o) r = false
theorem p64 {n : Nat} (h : n ≤ 6) : 2 ^ n ≤ 64 := Nat.pow_le_pow_right (n := 2) (by decide) h
theorem gdo {α : Type} (k : Option α) : gd (1 : Int32) 268 k = k := if_neg (by decide)
theorem gdz {α : Type} (k : Option α) : gd (0 : Int32) 268 k = k := if_neg (by decide)
theorem r_ix (o r : Nat) : (12 + (64 * nI o)) + nI r = nI (12 + 64 * o + r) := by
  rw [show (64 : Int32) = nI 64 from rfl, show (12 : Int32) = nI 12 from rfl, pk_mul, nI_add, nI_add]
theorem t_is1 {Z O : Nat → Int64} {o r : Nat} : tOf Z O o r = 1 ↔ tb (O o) r = true := by
  unfold tOf
  cases tb (O o) r <;> cases tb (Z o) r <;> decide
theorem t_is0 {Z O : Nat → Int64} {o r : Nat} (h : tb (Z o) r = true → tb (O o) r = false) : tOf Z O o r = 0 ↔ tb (Z o) r = true := by
  unfold tOf
  revert h
  cases tb (O o) r <;> cases tb (Z o) r <;> decide
def cnd (K r i : Nat) : Bool := decide ((i ^^^ r) &&& K = 0)
def dv (a b : Bool) : Int32 := if a = true then (if b = true then 3 else 0) else (if b = true then 1 else 2)
theorem any_al {n K : Nat} (hn : n ≤ 6) (hK : K < 2 ^ n) {x : Int64} (hx : subR n x) {r : Nat} (hr : r < 2 ^ n) : anyN (2 ^ n) (fun i => cnd K r i && tb x i) = tb (al (fg n K) x) r := by
  have h64 := p64 hn
  rw [Bool.eq_iff_iff, anyN_iff, al_b (fg_lt n K) x (by omega : r < 64)]
  constructor
  · rintro ⟨i, hi, h⟩
    rw [Bool.and_eq_true] at h
    obtain ⟨h1, h2⟩ := h
    have h3 : (i ^^^ r) &&& K = 0 := by simpa [cnd] using h1
    refine ⟨i ^^^ r, x64 (by omega) (by omega), (fg_al n hn K hK i hi r hr).mp h3, ?_⟩
    rw [Nat.xor_comm i r, ← Nat.xor_assoc, Nat.xor_self, Nat.zero_xor]
    exact h2
  · rintro ⟨s, h1, h2, h3⟩
    have h4 := hx _ (x64 (by omega) h1) h3
    refine ⟨r ^^^ s, h4, ?_⟩
    rw [Bool.and_eq_true]
    refine ⟨?_, h3⟩
    have h5 : (r ^^^ s) ^^^ r = s := by rw [Nat.xor_comm r s, Nat.xor_assoc, Nat.xor_self, Nat.xor_zero]
    have h6 := (fg_al n hn K hK _ h4 r hr).mpr (by rw [h5]; exact h2)
    unfold cnd
    exact decide_eq_true h6
