/-! rows counted -/
def bN (p : Prop) [Decidable p] : Nat := if p then 1 else 0
theorem sumN_0 {n : Nat} {f : Nat → Nat} (h : ∀ i, i < n → f i = 0) : sumN n f = 0 := by
  induction n with
  | zero => rfl
  | succ n ih => show sumN n f + f n = 0; rw [ih (fun i hi => h i (by omega)), h n (by omega)]
theorem sumN_le {n : Nat} {f g : Nat → Nat} (h : ∀ i, i < n → f i ≤ g i) : sumN n f ≤ sumN n g := by
  induction n with
  | zero => exact Nat.le_refl _
  | succ n ih => exact Nat.add_le_add (ih (fun i hi => h i (by omega))) (h n (by omega))
theorem sumN_add (n : Nat) (f g : Nat → Nat) : sumN n (fun i => f i + g i) = sumN n f + sumN n g := by
  induction n with
  | zero => rfl
  | succ n ih => show sumN n (fun i => f i + g i) + (f n + g n) = (sumN n f + f n) + (sumN n g + g n); omega
theorem sumN_one (n : Nat) : sumN n (fun _ => 1) = n := by
  induction n with
  | zero => rfl
  | succ n ih => show sumN n (fun _ => 1) + 1 = n + 1; rw [ih]
theorem pc_rows {n : Nat} (hn : n ≤ 6) {x : Int64} (p : Nat → Bool) (h : ∀ i, i < 64 → tb x i = (decide (i < 2 ^ n) && p i)) : pc x = sumN (2 ^ n) (fun i => (p i).toNat) := by
  have h64 := p64 hn
  unfold pc
  obtain ⟨d, hd⟩ : ∃ d, 64 = 2 ^ n + d := ⟨64 - 2 ^ n, by omega⟩
  have hz : ∀ i, i < d → (tb x (2 ^ n + i)).toNat = 0 := by
    intro i hi
    rw [h _ (by omega), decide_eq_false (by omega)]
    rfl
  have e : sumN 64 (fun i => (tb x i).toNat) = sumN (2 ^ n + d) (fun i => (tb x i).toNat) := congrArg (fun k => sumN k (fun i => (tb x i).toNat)) hd
  rw [e, sumN_front, sumN_0 hz, Nat.add_zero]
  exact sumN_congr (fun i hi => by rw [h i (by omega), decide_eq_true hi, Bool.true_and])
theorem pc_le (x : Int64) : pc x ≤ 64 := by
  have h := sumN_le (n := 64) (f := fun i => (tb x i).toNat) (g := fun _ => 1) (fun i _ => by cases tb x i <;> decide)
  rw [sumN_one] at h
  exact h
theorem pc_mono {x y : Int64} (h : ∀ i, i < 64 → tb x i = true → tb y i = true) : pc x ≤ pc y := by
  refine sumN_le (fun i hi => ?_)
  have := h i hi
  revert this
  cases tb x i <;> cases tb y i <;> intro z <;> first | decide | exact absurd (z rfl) (by decide)
theorem sumN_pos {n : Nat} {f : Nat → Nat} {k : Nat} (hk : k < n) (h : 0 < f k) : 0 < sumN n f := by
  induction n with
  | zero => omega
  | succ n ih =>
    show 0 < sumN n f + f n
    rcases Nat.lt_or_ge k n with z | z
    · have := ih z; omega
    · have : k = n := by omega
      subst this; omega
theorem pc_pos {x : Int64} : 0 < pc x ↔ x ≠ 0 := by
  constructor
  · intro h e
    subst e
    have : pc 0 = 0 := sumN_0 (fun i _ => by rw [tb_0]; rfl)
    omega
  · intro h
    rcases Nat.eq_zero_or_pos (pc x) with z | z
    · refine absurd (tb_eq0.mpr (fun i hi => ?_)) h
      cases e : tb x i
      · rfl
      · have := sumN_pos (n := 64) (f := fun i => (tb x i).toNat) hi (by rw [e]; decide)
        unfold pc at z
        omega
    · exact z
theorem pc_split (x y : Int64) : pc x = pc (x &&& y) + pc (x &&& (y ^^^ (-1))) := by
  unfold pc
  rw [← sumN_add]
  refine sumN_congr (fun i hi => ?_)
  rw [tb_and, tb_and, tb_not y hi]
  cases tb x i <;> cases tb y i <;> rfl
theorem al_sub {n : Nat} (hn : n ≤ 6) {f : Nat} (hf : f < 2 ^ n) {x : Int64} (hx : subR n x) : subR n (al f x) := by
  intro r hr h
  have h64 := p64 hn
  obtain ⟨s, h1, h2, h3⟩ := (al_b (by omega) x hr).mp h
  have h4 := hx _ (x64 hr h1) h3
  have h5 : s < 2 ^ n := by
    rw [← h2]
    exact Nat.lt_of_le_of_lt Nat.and_le_right hf
  have h6 : r = (r ^^^ s) ^^^ s := by rw [Nat.xor_assoc, Nat.xor_self, Nat.xor_zero]
  rw [h6]
  exact Nat.xor_lt_two_pow h4 h5
theorem fg_lt2 (n K : Nat) : fg n K < 2 ^ n := Nat.lt_of_le_of_lt Nat.and_le_left (by have := Nat.two_pow_pos n; omega)
theorem dr_ref {n K : Nat} {Z O : Nat → Int64} {z : Nat → Int32} (h : TZ n K Z O z) (hk : OKs n K Z O) {o : Nat} (ho : o < 4) (w : Int32) : fX7_decidedRows z (nI o) w = some (nI (sumN (2 ^ n) (fun r => (decide (dv (tb (al (fg n K) (Z o)) r) (tb (al (fg n K) (O o)) r) = w)).toNat))) := by
  have h64 := p64 hk.2.1
  obtain ⟨m, s, e, hI⟩ := loop0 (fun n i s => fX7_decidedRows_L5 (nI o) w z n s i) (fun i s => s = nI (sumN i (fun r => (decide (dv (tb (al (fg n K) (Z o)) r) (tb (al (fg n K) (O o)) r) = w)).toNat))) (2 ^ n) (s := (0 : Int32)) (by omega) rfl (by
    intro m i s hi hI
    subst hI
    refine ⟨_, ?_, rfl⟩
    show fX7_decidedRows_L5 (nI o) w z (m + 1) _ (nI i) = _
    rw [fX7_decidedRows_L5]
    rw [r_rows h hk.2.1, Option.bind_some, if_neg (nI_ge hi (by omega)), dec_ref h hk ho hi, Option.bind_some]
    unfold fX7_decidedRows_J31
    show _ = fX7_decidedRows_L5 (nI o) w z m (nI (sumN i _ + (decide (dv (tb (al (fg n K) (Z o)) i) (tb (al (fg n K) (O o)) i) = w)).toNat)) _
    by_cases hc : dv (tb (al (fg n K) (Z o)) i) (tb (al (fg n K) (O o)) i) = w
    · rw [if_pos hc, decide_eq_true hc, nI_1, nI_1]
      rfl
    · rw [if_neg hc, decide_eq_false hc, nI_1, Int32.add_zero]
      rfl)
  unfold fX7_decidedRows
  refine Eq.trans e ?_
  show fX7_decidedRows_L5 (nI o) w z (m + 1) s (nI (2 ^ n)) = _
  rw [fX7_decidedRows_L5]
  rw [r_rows h hk.2.1, Option.bind_some, if_pos (nI_le (Nat.le_refl _) (by omega)), hI]
def up (f : Nat) (Z O : Nat → Int64) : Nat := sumN 4 (fun o => pc (al f (O o) &&& al f (Z o)))
theorem dr_3 {n K : Nat} {Z O : Nat → Int64} {z : Nat → Int32} (h : TZ n K Z O z) (hk : OKs n K Z O) {o : Nat} (ho : o < 4) : fX7_decidedRows z (nI o) 3 = some (nI (pc (al (fg n K) (O o) &&& al (fg n K) (Z o)))) := by
  rw [dr_ref h hk ho 3]
  congr 2
  refine (pc_rows hk.2.1 _ (fun i hi => ?_)).symm
  rw [tb_and]
  have hz := al_sub hk.2.1 (fg_lt2 n K) (hk.2.2.2 o ho).1 i hi
  revert hz
  cases tb (al (fg n K) (Z o)) i <;> cases tb (al (fg n K) (O o)) i <;> intro hz
  · cases decide (i < 2 ^ n) <;> rfl
  · cases decide (i < 2 ^ n) <;> rfl
  · cases decide (i < 2 ^ n) <;> rfl
  · rw [decide_eq_true (hz rfl)]; rfl
theorem un_ref {n K : Nat} {Z O : Nat → Int64} {z : Nat → Int32} (h : TZ n K Z O z) (hk : OKs n K Z O) : fX7_undecided z = some (nI (up (fg n K) Z O)) := by
  obtain ⟨m, s, e, hI⟩ := loop0 (fun n i s => fX7_undecided_L4 z n s i) (fun i s => s = nI (sumN i (fun o => pc (al (fg n K) (O o) &&& al (fg n K) (Z o))))) 4 (s := (0 : Int32)) (by decide) rfl (by
    intro m i s hi hI
    subst hI
    refine ⟨_, ?_, rfl⟩
    show fX7_undecided_L4 z (m + 1) _ (nI i) = _
    rw [fX7_undecided_L4]
    rw [if_neg (n4 hi), dr_3 h hk hi, Option.bind_some, nI_add, nI_1]
    rfl)
  unfold fX7_undecided
  refine Eq.trans e ?_
  show fX7_undecided_L4 z (m + 1) s (nI 4) = _
  rw [fX7_undecided_L4]
  rw [if_pos p4_, hI]
  rfl
theorem un_cls (Z O : Nat → Int64) {f : Nat} (hf : f < 64) : fX3_undecidedPairs Z O (nI f) = some (nI (up f Z O)) := by
  obtain ⟨m, s, e, hI⟩ := loop0 (fun n i s => fX3_undecidedPairs_L4 (nI f) Z O n s i) (fun i s => s = nI (sumN i (fun o => pc (al f (O o) &&& al f (Z o))))) 4 (s := (0 : Int32)) (by decide) rfl (by
    intro m i s hi hI
    subst hI
    refine ⟨_, ?_, rfl⟩
    show fX3_undecidedPairs_L4 (nI f) Z O (m + 1) _ (nI i) = _
    rw [fX3_undecidedPairs_L4]
    rw [if_neg (n4 hi), gd_in hi (by decide), nI_clamp (by omega), al_eq hf, Option.bind_some, gd_in hi (by decide), al_eq hf, Option.bind_some, pc_cls, Option.bind_some, nI_add, nI_1]
    rfl)
  unfold fX3_undecidedPairs
  refine Eq.trans e ?_
  show fX3_undecidedPairs_L4 (nI f) Z O (m + 1) s (nI 4) = _
  rw [fX3_undecidedPairs_L4]
  rw [if_pos p4_, hI]
  rfl
theorem tr_ref {n K : Nat} {Z O : Nat → Int64} {z : Nat → Int32} (h : TZ n K Z O z) (hk : OKs n K Z O) {o : Nat} (ho : o < 4) (w : Int32) : fX7_truthsOf z (nI o) w = some (nI (sumN (2 ^ n) (fun r => (decide (tOf Z O o r = w)).toNat))) := by
  have h64 := p64 hk.2.1
  obtain ⟨m, s, e, hI⟩ := loop0 (fun n i s => fX7_truthsOf_L5 (nI o) w z n s i) (fun i s => s = nI (sumN i (fun r => (decide (tOf Z O o r = w)).toNat))) (2 ^ n) (s := (0 : Int32)) (by omega) rfl (by
    intro m i s hi hI
    subst hI
    refine ⟨_, ?_, rfl⟩
    show fX7_truthsOf_L5 (nI o) w z (m + 1) _ (nI i) = _
    rw [fX7_truthsOf_L5]
    rw [r_rows h hk.2.1, Option.bind_some, if_neg (nI_ge hi (by omega)), r_truth z ho (by omega), Option.bind_some, h.2.2 o ho i hi]
    unfold fX7_truthsOf_J31
    show _ = fX7_truthsOf_L5 (nI o) w z m (nI (sumN i _ + (decide (tOf Z O o i = w)).toNat)) _
    by_cases hc : tOf Z O o i = w
    · rw [if_pos hc, decide_eq_true hc, nI_1, nI_1]
      rfl
    · rw [if_neg hc, decide_eq_false hc, nI_1, Int32.add_zero]
      rfl)
  unfold fX7_truthsOf
  refine Eq.trans e ?_
  show fX7_truthsOf_L5 (nI o) w z (m + 1) s (nI (2 ^ n)) = _
  rw [fX7_truthsOf_L5]
  rw [r_rows h hk.2.1, Option.bind_some, if_pos (nI_le (Nat.le_refl _) (by omega)), hI]
theorem tr_1 {n K : Nat} {Z O : Nat → Int64} {z : Nat → Int32} (h : TZ n K Z O z) (hk : OKs n K Z O) {o : Nat} (ho : o < 4) : fX7_truthsOf z (nI o) 1 = some (nI (pc (O o))) := by
  rw [tr_ref h hk ho 1]
  congr 2
  refine (pc_rows hk.2.1 _ (fun i hi => ?_)).symm
  have hz := (hk.2.2.2 o ho).2.1 i hi
  rw [show decide (tOf Z O o i = 1) = tb (O o) i by rw [Bool.eq_iff_iff, decide_eq_true_eq]; exact t_is1]
  revert hz
  cases tb (O o) i <;> intro hz
  · rw [Bool.and_false]
  · rw [decide_eq_true (hz rfl)]; rfl
theorem tr_2 {n K : Nat} {Z O : Nat → Int64} {z : Nat → Int32} (h : TZ n K Z O z) (hk : OKs n K Z O) {o : Nat} (ho : o < 4) : fX7_truthsOf z (nI o) 2 = some (nI (2 ^ n) - nI (pc (O o ||| Z o))) := by
  rw [tr_ref h hk ho 2]
  have e1 : pc (O o ||| Z o) = sumN (2 ^ n) (fun i => (tb (O o) i || tb (Z o) i).toNat) := pc_rows hk.2.1 _ (fun i hi => by
    rw [tb_or]
    have hz := (hk.2.2.2 o ho).1 i hi
    have ho := (hk.2.2.2 o ho).2.1 i hi
    revert hz ho
    cases tb (O o) i <;> cases tb (Z o) i <;> intro hz ho
    · rw [Bool.or_false, Bool.and_false]
    · rw [decide_eq_true (hz rfl)]; rfl
    · rw [decide_eq_true (ho rfl)]; rfl
    · rw [decide_eq_true (ho rfl)]; rfl)
  have e2 : sumN (2 ^ n) (fun r => (decide (tOf Z O o r = 2)).toNat) + pc (O o ||| Z o) = 2 ^ n := by
    rw [e1, ← sumN_add]
    refine Eq.trans (sumN_congr (g := fun _ => 1) (fun i _ => ?_)) (sumN_one _)
    unfold tOf
    cases tb (O o) i <;> cases tb (Z o) i <;> decide
  rw [pk_sub (by omega)]
  congr 2
  omega
