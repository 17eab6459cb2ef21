/-! mathematics of the class -/
theorem wIn_b : ∀ i, i < 6 → ∀ r, r < 64 → tb (wIn i) r = r.testBit i := by decide +kernel
theorem al_lo : ∀ i, i < 6 → ∀ r, r < 64 → r.testBit i = false → r ^^^ 2 ^ i = 2 ^ i + r ∧ 2 ^ i + r < 64 ∧ (2 ^ i + r).testBit i = true ∧ (2 ^ i ≤ r → (r - 2 ^ i).testBit i = true) := by decide +kernel
theorem al_hi : ∀ i, i < 6 → ∀ r, r < 64 → r.testBit i = true → r ^^^ 2 ^ i = r - 2 ^ i ∧ 2 ^ i ≤ r ∧ (r - 2 ^ i).testBit i = false ∧ (2 ^ i + r < 64 → (2 ^ i + r).testBit i = false) := by decide +kernel
theorem al_p : ∀ i, i < 6 → 2 ^ i < 64 := by decide
theorem al_sh : ∀ i, i < 31 → (1 : Int32) <<< (nI i &&& 31) = nI (2 ^ i) := by decide +kernel
def alS (i : Nat) (x : Int64) : Int64 := x ||| ((lus_ (x &&& wIn i) (nI (2 ^ i))) ||| (lsl_ (x &&& (wIn i ^^^ (-1))) (nI (2 ^ i))))
theorem alS_b {i : Nat} (hi : i < 6) (x : Int64) {r : Nat} (hr : r < 64) : tb (alS i x) r = (tb x r || tb x (r ^^^ 2 ^ i)) := by
  unfold alS
  rw [tb_or, tb_or, tb_lus (al_p i hi), tb_lsl (al_p i hi) _ hr, tb_and, tb_and]
  have hs : r - 2 ^ i < 64 := Nat.lt_of_le_of_lt (Nat.sub_le _ _) hr
  rw [tb_not _ hs, wIn_b i hi _ hs]
  cases hb : r.testBit i
  · obtain ⟨h1, h2, h3, h4⟩ := al_lo i hi r hr hb
    rw [h1, wIn_b i hi _ h2, h3, Bool.and_true]
    rcases Nat.lt_or_ge r (2 ^ i) with z | z
    · rw [decide_eq_false (Nat.not_le.mpr z)]; simp
    · rw [h4 z]; simp
  · obtain ⟨h1, h2, h3, h4⟩ := al_hi i hi r hr hb
    rw [h1, h3, decide_eq_true h2]
    rcases Nat.lt_or_ge (2 ^ i + r) 64 with z | z
    · rw [wIn_b i hi _ z, h4 z]; simp
    · rw [tb_big z]; simp
def alF (f : Nat) : Nat → Int64 → Int64
  | 0, x => x
  | i + 1, x => if f.testBit i = true then alS i (alF f i x) else alF f i x
def al (f : Nat) (x : Int64) : Int64 := alF f 6 x
theorem sb_iff {s f : Nat} : s &&& f = s ↔ ∀ i, s.testBit i = true → f.testBit i = true := by
  constructor
  · intro h i hi
    have e : (s &&& f).testBit i = s.testBit i := by rw [h]
    rw [Nat.testBit_and, hi, Bool.true_and] at e
    exact e
  · intro h
    apply Nat.eq_of_testBit_eq
    intro i
    rw [Nat.testBit_and]
    have := h i
    revert this
    cases s.testBit i <;> cases f.testBit i <;> intro z <;> first | rfl | exact absurd (z rfl) (by decide)
theorem p2_sub {i f : Nat} (h : f.testBit i = true) : 2 ^ i &&& f = 2 ^ i := by
  rw [sb_iff]
  intro j hj
  rw [Nat.testBit_two_pow, decide_eq_true_eq] at hj
  subst hj
  exact h
theorem al_in (i : Nat) (s : Nat) (hs : s < 2 ^ i) (f : Nat) (hb : f.testBit i = true) (h : s &&& f = s) : (2 ^ i ^^^ s) < 2 ^ (i + 1) ∧ (2 ^ i ^^^ s) &&& f = 2 ^ i ^^^ s := by
  have hlt : 2 ^ i < 2 ^ (i + 1) := Nat.pow_lt_pow_right (by decide) (Nat.lt_succ_self i)
  exact ⟨Nat.xor_lt_two_pow hlt (Nat.lt_trans hs hlt), by rw [Nat.and_xor_distrib_right, h, p2_sub hb]⟩
theorem al_out (i : Nat) (s : Nat) (hs : s < 2 ^ (i + 1)) (f : Nat) (h : s &&& f = s) : s < 2 ^ i ∨ (f.testBit i = true ∧ (2 ^ i ^^^ s) < 2 ^ i ∧ (2 ^ i ^^^ s) &&& f = 2 ^ i ^^^ s) := by
  have hbig : ∀ j, i < j → s.testBit j = false := fun j hj => Nat.testBit_lt_two_pow (Nat.lt_of_lt_of_le hs (Nat.pow_le_pow_right (by decide) hj))
  cases q : s.testBit i
  · refine Or.inl (Nat.lt_pow_two_of_testBit s (fun j hj => ?_))
    by_cases e : j = i
    · subst e; exact q
    · exact hbig j (by omega)
  · have hf := sb_iff.mp h i q
    refine Or.inr ⟨hf, Nat.lt_pow_two_of_testBit _ (fun j hj => ?_), by rw [Nat.and_xor_distrib_right, h, p2_sub hf]⟩
    rw [Nat.testBit_xor, Nat.testBit_two_pow]
    by_cases e : j = i
    · subst e; rw [q, decide_eq_true rfl]; rfl
    · rw [hbig j (by omega), decide_eq_false (by omega)]; rfl
theorem x64 {a b : Nat} (ha : a < 64) (hb : b < 64) : a ^^^ b < 64 := Nat.xor_lt_two_pow (n := 6) ha hb
theorem alF_b {f : Nat} (hf : f < 64) (x : Int64) : ∀ i, i ≤ 6 → ∀ r, r < 64 → (tb (alF f i x) r = true ↔ ∃ s, s < 2 ^ i ∧ s &&& f = s ∧ tb x (r ^^^ s) = true) := by
  intro i
  induction i with
  | zero =>
    intro _ r hr
    constructor
    · intro h; exact ⟨0, by decide, Nat.zero_and f, by rw [Nat.xor_zero]; exact h⟩
    · intro ⟨s, h1, h2, h3⟩
      have : s = 0 := by omega
      subst this
      rw [Nat.xor_zero] at h3
      exact h3
  | succ i ih =>
    intro hi r hr
    have hi' : i < 6 := by omega
    have ih' := ih (by omega)
    have hlt : 2 ^ i < 2 ^ (i + 1) := Nat.pow_lt_pow_right (by decide) (by omega)
    show tb (if f.testBit i = true then alS i (alF f i x) else alF f i x) r = true ↔ _
    by_cases hb : f.testBit i = true
    · rw [if_pos hb, alS_b hi' _ hr, Bool.or_eq_true, ih' r hr, ih' _ (x64 hr (al_p i hi'))]
      constructor
      · rintro (⟨s, h1, h2, h3⟩ | ⟨s, h1, h2, h3⟩)
        · exact ⟨s, by omega, h2, h3⟩
        · obtain ⟨g1, g2⟩ := al_in i s h1 f hb h2
          exact ⟨2 ^ i ^^^ s, g1, g2, by rw [← Nat.xor_assoc]; exact h3⟩
      · rintro ⟨s, h1, h2, h3⟩
        rcases al_out i s h1 f h2 with g | ⟨g1, g2, g3⟩
        · exact Or.inl ⟨s, g, h2, h3⟩
        · exact Or.inr ⟨2 ^ i ^^^ s, g2, g3, by rw [Nat.xor_assoc, ← Nat.xor_assoc (2 ^ i) (2 ^ i) s, Nat.xor_self, Nat.zero_xor]; exact h3⟩
    · rw [if_neg hb, ih' r hr]
      constructor
      · rintro ⟨s, h1, h2, h3⟩; exact ⟨s, by omega, h2, h3⟩
      · rintro ⟨s, h1, h2, h3⟩
        rcases al_out i s h1 f h2 with g | ⟨g1, _⟩
        · exact ⟨s, g, h2, h3⟩
        · exact absurd g1 hb
theorem al_b {f : Nat} (hf : f < 64) (x : Int64) {r : Nat} (hr : r < 64) : tb (al f x) r = true ↔ ∃ s, s < 64 ∧ s &&& f = s ∧ tb x (r ^^^ s) = true := alF_b hf x 6 (Nat.le_refl 6) r hr
theorem al_c : ∀ f, f < 64 → ∀ i, i < 6 → (((nI f) >>> (nI i &&& 31)) &&& 1 = 0 ↔ f.testBit i = false) := by decide +kernel
theorem al_6 : ∀ i, i < 6 → ¬ (6 : Int32) ≤ nI i := by decide
theorem gd_in {α : Type} {c N : Nat} (h : c < N) (hN : N < 2 ^ 31) (k : Option α) : gd (nI c) N k = k := if_neg (nI_in h hN)
theorem al_eq {f : Nat} (hf : f < 64) (x : Int64) : fX2_alikeTo x (nI f) = some (al f x) := by
  obtain ⟨m, s, e, h⟩ := loop0 (fun n i s => fX2_alikeTo_L5 (nI f) n s i) (fun i s => s = alF f i x) 6 (s := x) (by decide) rfl (by
    intro n i s hi hI
    subst hI
    refine ⟨_, ?_, rfl⟩
    show fX2_alikeTo_L5 (nI f) (n + 1) _ (nI i) = fX2_alikeTo_L5 (nI f) n (if f.testBit i = true then alS i (alF f i x) else alF f i x) (nI (i + 1))
    rw [fX2_alikeTo_L5, if_neg (al_6 i hi)]
    by_cases hb : f.testBit i = true
    · rw [if_neg (fun z => by rw [(al_c f hf i hi).mp z] at hb; exact absurd hb (by decide)), gd_in hi (by decide), if_pos hb, nI_clamp (by omega), al_sh i (by omega)]
      unfold lt_ fX2_alikeTo_J59 alS
      rw [nI_1]
    · rw [if_pos ((al_c f hf i hi).mpr (by simpa using hb)), if_neg hb]
      unfold fX2_alikeTo_J59
      rw [nI_1])
  unfold fX2_alikeTo
  refine Eq.trans e ?_
  show fX2_alikeTo_L5 (nI f) (m + 1) s (nI 6) = _
  rw [fX2_alikeTo_L5, if_pos p6_, h]
  rfl
theorem is_eq : ∀ n, n ≤ 6 → fX2_inputSet (nI n) = some (nI (2 ^ n - 1)) := by decide +kernel
theorem oi_b : ∀ n, n ≤ 6 → ∃ w, fX2_ofInputs (nI n) = some w ∧ ∀ r, r < 64 → tb w r = decide (r < 2 ^ n) := by
  intro n hn
  have h : ∀ n, n ≤ 6 → ((fX2_ofInputs (nI n)).isSome = true ∧ ∀ r, r < 64 → tb ((fX2_ofInputs (nI n)).getD 0) r = decide (r < 2 ^ n)) := by decide +kernel
  obtain ⟨h1, h2⟩ := h n hn
  refine ⟨(fX2_ofInputs (nI n)).getD 0, ?_, fun r hr => h2 r hr⟩
  cases e : fX2_ofInputs (nI n) with
  | none => rw [e] at h1; cases h1
  | some w => rfl
def fg (n K : Nat) : Nat := (2 ^ n - 1) &&& (63 - K)
theorem fg_lt (n K : Nat) : fg n K < 64 := Nat.lt_of_le_of_lt Nat.and_le_right (by omega)
theorem fg_m : ∀ n, n ≤ 6 → ∀ K, K < 64 → nI (2 ^ n - 1) &&& (nI K ^^^ (-1)) = nI (fg n K) := by decide +kernel
theorem fg_al : ∀ n, n ≤ 6 → ∀ K, K < 2 ^ n → ∀ a, a < 2 ^ n → ∀ b, b < 2 ^ n → ((a ^^^ b) &&& K = 0 ↔ (a ^^^ b) &&& fg n K = a ^^^ b) := by
  intro n hn K hK a ha b hb
  have h : ∀ n, n ≤ 6 → ∀ K, K < 2 ^ n → ∀ d, d < 2 ^ n → (d &&& K = 0 ↔ d &&& fg n K = d) := by decide +kernel
  exact h n hn K hK _ (Nat.xor_lt_two_pow ha hb)
theorem fg_in : ∀ n, n ≤ 6 → ∀ K, K < 64 → ∀ s, s < 64 → s &&& fg n K = s → s < 2 ^ n := by decide +kernel
