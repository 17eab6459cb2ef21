/-! mathematics of the class -/
theorem cmp_b : ∀ c, c < 64 → ∀ i, i < 6 → (63 - c).testBit i = !c.testBit i := by decide +kernel
theorem big_b {s : Nat} (hs : s < 64) {i : Nat} (h : s.testBit i = true) : i < 6 := by
  rcases Nat.lt_or_ge i 6 with z | z
  · exact z
  · rw [Nat.testBit_lt_two_pow (Nat.lt_of_lt_of_le (show s < 2 ^ 6 from hs) (Nat.pow_le_pow_right (by decide) z))] at h
    exact absurd h (by decide)
theorem ms_sub (K : Nat) (_ : K < 64) (c : Nat) (hc : c < 64) (d : Nat) (hd : d < 64) (h : d &&& c = 0) : (d &&& K) &&& ms K c = d &&& K := by
  rw [sb_iff]
  intro i hi
  rw [Nat.testBit_and, Bool.and_eq_true] at hi
  have h6 := big_b hd hi.1
  have e : (d &&& c).testBit i = false := by rw [h]; exact Nat.zero_testBit i
  rw [Nat.testBit_and, hi.1, Bool.true_and] at e
  unfold ms
  rw [Nat.testBit_and, hi.2, cmp_b c hc i h6, e]
  rfl
theorem ms_c (K : Nat) (_ : K < 64) (c : Nat) (hc : c < 64) (s : Nat) (hs : s < 64) (h : s &&& ms K c = s) : s &&& c = 0 := by
  apply Nat.eq_of_testBit_eq
  intro i
  rw [Nat.testBit_and, Nat.zero_testBit]
  cases q : s.testBit i
  · rfl
  · have h6 := big_b hs q
    have e := sb_iff.mp h i q
    unfold ms at e
    rw [Nat.testBit_and, cmp_b c hc i h6, Bool.and_eq_true] at e
    rw [Bool.true_and]
    simpa using e.2
theorem ms_p2 {n K : Nat} (hn : n ≤ 6) (hK : K < 2 ^ n) (c : Nat) : ms K c < 2 ^ n := Nat.lt_of_le_of_lt Nat.and_le_left hK
theorem fg_cut : ∀ n, n ≤ 6 → ∀ K, K < 2 ^ n → ∀ d, d < 2 ^ n → ∃ t, t < 64 ∧ t &&& fg n K = t ∧ d ^^^ t = d &&& K := by
  intro n hn K hK d hd
  have h : ∀ n, n ≤ 6 → ∀ K, K < 2 ^ n → ∀ d, d < 2 ^ n → (d &&& fg n K < 64 ∧ (d &&& fg n K) &&& fg n K = d &&& fg n K ∧ d ^^^ (d &&& fg n K) = d &&& K) := by decide +kernel
  exact ⟨_, h n hn K hK d hd⟩
/-- a product has a row of a closed set iff the set, with the product's other remembered inputs set free, has its values -/
theorem rw_al {n K : Nat} (hn : n ≤ 6) (hK : K < 2 ^ n) {w : Int64} (hs : subR n w) (hcl : ∀ r t, r < 64 → t < 64 → t &&& fg n K = t → tb w (r ^^^ t) = tb w r) {c v : Nat} (hc : c &&& K = c) (hv : v &&& c = v) (hc64 : c < 64) (hv64 : v < 64) : rwS n (64 * c + v) &&& w = 0 ↔ tb (al (ms K c) w) v = false := by
  have h64 := p64 hn
  have hK64 : K < 64 := Nat.lt_of_lt_of_le hK h64
  have hm := ms_lt hK64 c
  have ed : (64 * c + v) / 64 = c := by omega
  have em : (64 * c + v) % 64 = v := by omega
  have hc2 : c < 2 ^ n := by rw [← hc]; exact Nat.lt_of_le_of_lt Nat.and_le_right hK
  have hv2 : v < 2 ^ n := by rw [← hv]; exact Nat.lt_of_le_of_lt Nat.and_le_right hc2
  constructor
  · intro h
    cases e : tb (al (ms K c) w) v
    · rfl
    · obtain ⟨s, h1, h2, h3⟩ := (al_b hm w hv64).mp e
      have g := tb_eq0.mp h (v ^^^ s) (x64 hv64 h1)
      rw [tb_and, h3, Bool.and_true] at g
      unfold rwS at g
      rw [mkN_b _ (x64 hv64 h1) _ h64, ed, em, decide_eq_true (hs _ (x64 hv64 h1) h3), Bool.true_and, Nat.and_xor_distrib_right, hv, ms_c K hK64 c hc64 s h1 h2, Nat.xor_zero, decide_eq_true rfl] at g
      exact absurd g (by decide)
  · intro h
    refine tb_eq0.mpr (fun r hr => ?_)
    rw [tb_and]
    unfold rwS
    rw [mkN_b _ hr _ h64, ed, em]
    cases e : tb w r
    · rw [Bool.and_false]
    · rw [Bool.and_true]
      have hr2 := hs r hr e
      rw [decide_eq_true hr2, Bool.true_and]
      refine decide_eq_false (fun hq => ?_)
      have hd : r ^^^ v < 2 ^ n := Nat.xor_lt_two_pow hr2 hv2
      have hdc : (r ^^^ v) &&& c = 0 := by rw [Nat.and_xor_distrib_right, hq, hv, Nat.xor_self]
      obtain ⟨t, t1, t2, t3⟩ := fg_cut n hn K hK _ hd
      have hsub := ms_sub K hK64 c hc64 (r ^^^ v) (by omega) hdc
      have hx : tb w (v ^^^ ((r ^^^ v) &&& K)) = true := by
        rw [← t3, ← Nat.xor_assoc, ← Nat.xor_assoc, Nat.xor_comm v r, Nat.xor_assoc r v v, Nat.xor_self, Nat.xor_zero, hcl r t hr t1 t2]
        exact e
      have := (al_b hm w hv64).mpr ⟨(r ^^^ v) &&& K, Nat.lt_of_le_of_lt Nat.and_le_left (by omega), hsub, hx⟩
      rw [h] at this
      exact absurd this (by decide)
theorem rw_ne {n K : Nat} (hn : n ≤ 6) (hK : K < 2 ^ n) {c v : Nat} (hc : c &&& K = c) (hv : v &&& c = v) (hv64 : v < 64) : rwS n (64 * c + v) ≠ 0 := by
  have h64 := p64 hn
  have ed : (64 * c + v) / 64 = c := by omega
  have em : (64 * c + v) % 64 = v := by omega
  have hc2 : c < 2 ^ n := by rw [← hc]; exact Nat.lt_of_le_of_lt Nat.and_le_right hK
  have hv2 : v < 2 ^ n := by rw [← hv]; exact Nat.lt_of_le_of_lt Nat.and_le_right hc2
  intro h
  have g := tb_eq0.mp h v hv64
  unfold rwS at g
  rw [mkN_b _ hv64 _ h64, ed, em, decide_eq_true hv2, decide_eq_true hv] at g
  exact absurd g (by decide)
def badB (K : Nat) (w : Int64) (c v : Nat) : Bool := tb (al (ms K c) w) v
theorem gd_0 {n K : Nat} (hn : n ≤ 6) (hK : K < 2 ^ n) {w : Int64} (hs : subR n w) (hcl : ∀ r t, r < 64 → t < 64 → t &&& fg n K = t → tb w (r ^^^ t) = tb w r) {c v : Nat} (hc64 : c < 64) (hv64 : v < 64) : gdS n K w (64 * c + v) = 0 ↔ ¬ (c &&& K = c ∧ v &&& c = v ∧ badB K w c v = false) := by
  have ed : (64 * c + v) / 64 = c := by omega
  have em : (64 * c + v) % 64 = v := by omega
  unfold gdS isP
  rw [ed, em]
  by_cases hc : c &&& K = c
  · by_cases hv : v &&& c = v
    · rw [decide_eq_true hc, decide_eq_true hv, if_pos (by rfl)]
      have hx := rw_al hn hK hs hcl hc hv hc64 hv64
      have hy := rw_ne hn hK hc hv hv64
      unfold badB
      by_cases hz : rwS n (64 * c + v) &&& w = 0
      · rw [if_pos hz]
        exact ⟨fun e => absurd e hy, fun e => absurd ⟨hc, hv, hx.mp hz⟩ e⟩
      · rw [if_neg hz]
        exact ⟨fun _ e => hz (hx.mpr e.2.2), fun _ => rfl⟩
    · rw [decide_eq_false hv, Bool.and_false, if_neg (by decide)]
      exact ⟨fun _ e => hv e.2.1, fun _ => rfl⟩
  · rw [decide_eq_false hc, Bool.false_and, if_neg (by decide)]
    exact ⟨fun _ e => hc e.1, fun _ => rfl⟩
def allN : Nat → (Nat → Bool) → Bool
  | 0, _ => true
  | n + 1, f => allN n f && f n
theorem allN_iff {n : Nat} {f : Nat → Bool} : allN n f = true ↔ ∀ i, i < n → f i = true := by
  induction n with
  | zero => exact ⟨fun _ i h => absurd h (by omega), fun _ => rfl⟩
  | succ n ih =>
    show (allN n f && f n) = true ↔ _
    rw [Bool.and_eq_true, ih]
    constructor
    · rintro ⟨h1, h2⟩ i hi
      rcases Nat.lt_or_ge i n with z | z
      · exact h1 i z
      · have : i = n := by omega
        subst this; exact h2
    · intro h
      exact ⟨fun i hi => h i (by omega), h n (by omega)⟩
/-- the input i of c can't be left out -/
def nd (K : Nat) (w : Int64) (c v i : Nat) : Bool := !c.testBit i || badB K w (c ^^^ 2 ^ i) v
def prB (K : Nat) (w : Int64) (code : Nat) : Bool := (decide ((code / 64) &&& K = code / 64) && decide ((code % 64) &&& (code / 64) = code % 64) && !badB K w (code / 64) (code % 64)) && allN 6 (fun i => nd K w (code / 64) (code % 64) i)
theorem cx_1 : ∀ c, c < 64 → ∀ i, i < 6 → (nI c &&& nI (2 ^ i) = 0 ↔ c.testBit i = false) := by decide +kernel
theorem cx_2 : ∀ c, c < 64 → ∀ i, i < 6 → c.testBit i = true → c ^^^ 2 ^ i = c - 2 ^ i ∧ 2 ^ i ≤ c ∧ c ^^^ 2 ^ i < 64 := by decide +kernel
theorem cx_3 : ∀ v, v < 64 → ∀ i, i < 6 → v - (v &&& 2 ^ i) = v ^^^ (v &&& 2 ^ i) ∧ v &&& 2 ^ i ≤ v ∧ (v &&& 2 ^ i) < 64 ∧ v ^^^ (v &&& 2 ^ i) < 64 := by decide +kernel
theorem cx_4 (c : Nat) (_ : c < 64) (v : Nat) (_ : v < 64) (h : v &&& c = v) (i : Nat) (_ : i < 6) (_ : c.testBit i = true) : (v ^^^ (v &&& 2 ^ i)) &&& (c ^^^ 2 ^ i) = v ^^^ (v &&& 2 ^ i) := by
  rw [sb_iff]
  intro j hj
  rw [Nat.testBit_xor, Nat.testBit_and, Nat.testBit_two_pow] at hj
  rw [Nat.testBit_xor, Nat.testBit_two_pow]
  have e := sb_iff.mp h j
  revert hj e
  cases v.testBit j <;> cases c.testBit j <;> cases decide (i = j) <;> simp
theorem cx_5 (K : Nat) (_ : K < 64) (c : Nat) (hc : c < 64) (h : c &&& K = c) (i : Nat) (hi : i < 6) (hb : c.testBit i = true) : (c ^^^ 2 ^ i) &&& K = c ^^^ 2 ^ i ∧ 2 ^ i &&& ms K (c ^^^ 2 ^ i) = 2 ^ i := by
  refine ⟨?_, p2_sub ?_⟩
  · rw [sb_iff]
    intro j hj
    rw [Nat.testBit_xor, Nat.testBit_two_pow] at hj
    by_cases e : i = j
    · subst e
      rw [hb, decide_eq_true rfl] at hj
      exact absurd hj (by decide)
    · rw [decide_eq_false e, Bool.xor_false] at hj
      exact sb_iff.mp h j hj
  · unfold ms
    rw [Nat.testBit_and, sb_iff.mp h i hb, cmp_b _ (cx_2 c hc i hi hb).2.2 i hi, Nat.testBit_xor, hb, Nat.testBit_two_pow, decide_eq_true rfl]
    rfl
theorem cx_6 (c v : Nat) {i : Nat} (hv : v < 64) (hi : i < 6) : (64 * c + v) &&& 2 ^ i = v &&& 2 ^ i := by
  apply Nat.eq_of_testBit_eq
  intro j
  rw [Nat.testBit_and, Nat.testBit_and, Nat.testBit_two_pow]
  by_cases h : i = j
  · subst h
    rw [show (64 : Nat) = 2 ^ 6 from rfl, Nat.testBit_two_pow_mul_add _ (show v < 2 ^ 6 from hv), if_pos hi]
  · rw [decide_eq_false h, Bool.and_false, Bool.and_false]
theorem nd_eq {n K : Nat} (hn : n ≤ 6) (hK : K < 2 ^ n) {w : Int64} (hs : subR n w) (hcl : ∀ r t, r < 64 → t < 64 → t &&& fg n K = t → tb w (r ^^^ t) = tb w r) {c v : Nat} (hc64 : c < 64) (hv64 : v < 64) (hc : c &&& K = c) (hv : v &&& c = v) {i : Nat} (hi : i < 6) (hb : c.testBit i = true) : gdS n K w (64 * (c ^^^ 2 ^ i) + (v ^^^ (v &&& 2 ^ i))) = 0 ↔ badB K w (c ^^^ 2 ^ i) v = true := by
  have h64 := p64 hn
  have hK64 : K < 64 := Nat.lt_of_lt_of_le hK h64
  have g2 := cx_2 c hc64 i hi hb
  have g3 := cx_3 v hv64 i hi
  have g4 := cx_4 c hc64 v hv64 hv i hi hb
  have g5 := cx_5 K hK64 c hc64 hc i hi hb
  rw [gd_0 hn hK hs hcl g2.2.2 g3.2.2.2]
  have e : badB K w (c ^^^ 2 ^ i) (v ^^^ (v &&& 2 ^ i)) = badB K w (c ^^^ 2 ^ i) v := by
    refine al_cl (ms_lt hK64 _) w hv64 g3.2.2.1 ?_
    rw [Nat.and_assoc, g5.2]
  rw [e]
  constructor
  · intro h
    cases q : badB K w (c ^^^ 2 ^ i) v
    · exact absurd ⟨g5.1, g4, q⟩ h
    · rfl
  · rintro h ⟨_, _, q⟩
    rw [h] at q
    exact absurd q (by decide)
def cnt (K : Nat) (w : Int64) (m : Nat) : Nat := sumN m (fun code => (prB K w code).toNat)
