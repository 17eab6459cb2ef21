/-! mathematics of the class -/
def bN (p : Prop) [Decidable p] : Nat := if p then 1 else 0
theorem sumN_0 {n : Nat} {f : Nat → Nat} (h : ∀ i, i < n → f i = 0) : sumN n f = 0 := by
  induction n with
  | zero => rfl
  | succ n ih => show sumN n f + f n = 0; rw [ih (fun i hi => h i (by omega)), h n (by omega)]
theorem sumN_le {n : Nat} {f g : Nat → Nat} (h : ∀ i, i < n → f i ≤ g i) : sumN n f ≤ sumN n g := by
  induction n with
  | zero => exact Nat.le_refl _
  | succ n ih => exact Nat.add_le_add (ih (fun i hi => h i (by omega))) (h n (by omega))
theorem sumN_add (n : Nat) (f g : Nat → Nat) : sumN n (fun i => f i + g i) = sumN n f + sumN n g := by
  induction n with
  | zero => rfl
  | succ n ih => show sumN n (fun i => f i + g i) + (f n + g n) = (sumN n f + f n) + (sumN n g + g n); omega
theorem sumN_one (n : Nat) : sumN n (fun _ => 1) = n := by
  induction n with
  | zero => rfl
  | succ n ih => show sumN n (fun _ => 1) + 1 = n + 1; rw [ih]
theorem pc_rows {n : Nat} (hn : n ≤ 6) {x : Int64} (p : Nat → Bool) (h : ∀ i, i < 64 → tb x i = (decide (i < 2 ^ n) && p i)) : pc x = sumN (2 ^ n) (fun i => (p i).toNat) := by
  have h64 := p64 hn
  unfold pc
  obtain ⟨d, hd⟩ : ∃ d, 64 = 2 ^ n + d := ⟨64 - 2 ^ n, by omega⟩
  have hz : ∀ i, i < d → (tb x (2 ^ n + i)).toNat = 0 := by
    intro i hi
    rw [h _ (by omega), decide_eq_false (by omega)]
    rfl
  have e : sumN 64 (fun i => (tb x i).toNat) = sumN (2 ^ n + d) (fun i => (tb x i).toNat) := congrArg (fun k => sumN k (fun i => (tb x i).toNat)) hd
  rw [e, sumN_front, sumN_0 hz, Nat.add_zero]
  exact sumN_congr (fun i hi => by rw [h i (by omega), decide_eq_true hi, Bool.true_and])
theorem pc_le (x : Int64) : pc x ≤ 64 := by
  have h := sumN_le (n := 64) (f := fun i => (tb x i).toNat) (g := fun _ => 1) (fun i _ => by cases tb x i <;> decide)
  rw [sumN_one] at h
  exact h
theorem pc_mono {x y : Int64} (h : ∀ i, i < 64 → tb x i = true → tb y i = true) : pc x ≤ pc y := by
  refine sumN_le (fun i hi => ?_)
  have := h i hi
  revert this
  cases tb x i <;> cases tb y i <;> intro z <;> first | decide | exact absurd (z rfl) (by decide)
theorem sumN_pos {n : Nat} {f : Nat → Nat} {k : Nat} (hk : k < n) (h : 0 < f k) : 0 < sumN n f := by
  induction n with
  | zero => omega
  | succ n ih =>
    show 0 < sumN n f + f n
    rcases Nat.lt_or_ge k n with z | z
    · have := ih z; omega
    · have : k = n := by omega
      subst this; omega
theorem pc_pos {x : Int64} : 0 < pc x ↔ x ≠ 0 := by
  constructor
  · intro h e
    subst e
    have : pc 0 = 0 := sumN_0 (fun i _ => by rw [tb_0]; rfl)
    omega
  · intro h
    rcases Nat.eq_zero_or_pos (pc x) with z | z
    · refine absurd (tb_eq0.mpr (fun i hi => ?_)) h
      cases e : tb x i
      · rfl
      · have := sumN_pos (n := 64) (f := fun i => (tb x i).toNat) hi (by rw [e]; decide)
        unfold pc at z
        omega
    · exact z
theorem pc_split (x y : Int64) : pc x = pc (x &&& y) + pc (x &&& (y ^^^ (-1))) := by
  unfold pc
  rw [← sumN_add]
  refine sumN_congr (fun i hi => ?_)
  rw [tb_and, tb_and, tb_not y hi]
  cases tb x i <;> cases tb y i <;> rfl
theorem al_sub {n : Nat} (hn : n ≤ 6) {f : Nat} (hf : f < 2 ^ n) {x : Int64} (hx : subR n x) : subR n (al f x) := by
  intro r hr h
  have h64 := p64 hn
  obtain ⟨s, h1, h2, h3⟩ := (al_b (by omega) x hr).mp h
  have h4 := hx _ (x64 hr h1) h3
  have h5 : s < 2 ^ n := by
    rw [← h2]
    exact Nat.lt_of_le_of_lt Nat.and_le_right hf
  have h6 : r = (r ^^^ s) ^^^ s := by rw [Nat.xor_assoc, Nat.xor_self, Nat.xor_zero]
  rw [h6]
  exact Nat.xor_lt_two_pow h4 h5
theorem fg_lt2 (n K : Nat) : fg n K < 2 ^ n := Nat.lt_of_le_of_lt Nat.and_le_left (by have := Nat.two_pow_pos n; omega)
def up (f : Nat) (Z O : Nat → Int64) : Nat := sumN 4 (fun o => pc (al f (O o) &&& al f (Z o)))
theorem un_cls (Z O : Nat → Int64) {f : Nat} (hf : f < 64) : fX3_undecidedPairs Z O (nI f) = some (nI (up f Z O)) := by
  obtain ⟨m, s, e, hI⟩ := loop0 (fun n i s => fX3_undecidedPairs_L4 (nI f) Z O n s i) (fun i s => s = nI (sumN i (fun o => pc (al f (O o) &&& al f (Z o))))) 4 (s := (0 : Int32)) (by decide) rfl (by
    intro m i s hi hI
    subst hI
    refine ⟨_, ?_, rfl⟩
    show fX3_undecidedPairs_L4 (nI f) Z O (m + 1) _ (nI i) = _
    rw [fX3_undecidedPairs_L4]
    rw [if_neg (n4 hi), gd_in hi (by decide), nI_clamp (by omega), al_eq hf, Option.bind_some, gd_in hi (by decide), al_eq hf, Option.bind_some, pc_cls, Option.bind_some, nI_add, nI_1]
    rfl)
  unfold fX3_undecidedPairs
  refine Eq.trans e ?_
  show fX3_undecidedPairs_L4 (nI f) Z O (m + 1) s (nI 4) = _
  rw [fX3_undecidedPairs_L4]
  rw [if_pos p4_, hI]
  rfl
