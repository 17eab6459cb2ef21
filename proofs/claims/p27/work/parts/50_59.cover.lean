/-! mathematics of the class -/
theorem lt_e {α β : Type} (x : α) (k : α → Option β) : lt_ x k = k x := rfl
def CV (n K : Nat) (w x : Int64) : Prop := n ≤ 6 ∧ K < 2 ^ n ∧ subR n w ∧ (∀ r t, r < 64 → t < 64 → t &&& fg n K = t → tb w (r ^^^ t) = tb w r) ∧ ∀ r, r < 64 → tb x r = true → r < 2 ^ n ∧ tb w r = false
theorem tb_ex {x : Int64} (h : ¬ x = 0) : ∃ r, r < 64 ∧ tb x r = true := by
  refine Classical.byContradiction (fun hn => h (tb_eq0.mpr (fun i hi => ?_)))
  cases q : tb x i
  · rfl
  · exact absurd ⟨i, hi, q⟩ hn
theorem rw_b {n : Nat} (hn : n ≤ 6) {c v r : Nat} (hv : v < 64) (hr : r < 64) : tb (rwS n (64 * c + v)) r = (decide (r < 2 ^ n) && decide (r &&& c = v)) := by
  unfold rwS
  rw [mkN_b _ hr _ (p64 hn), show (64 * c + v) / 64 = c by omega, show (64 * c + v) % 64 = v by omega]
theorem pr_ex {n K : Nat} {w x : Int64} (h : CV n K w x) {r : Nat} (hr : r < 64) (hx : tb x r = true) : ∃ c, c < 4096 ∧ prB K w c = true ∧ tb (rwS n c) r = true := by
  obtain ⟨hn, hK, hs, hcl, hd⟩ := h
  have h64 := p64 hn
  have hK64 : K < 64 := by omega
  obtain ⟨hr2, hw⟩ := hd r hr hx
  obtain ⟨t, t1, t2, t3⟩ := fg_cut n hn K hK r hr2
  have hPK : K < 64 ∧ K &&& K = K ∧ badB K w K (r &&& K) = false := by
    refine ⟨hK64, Nat.and_self K, ?_⟩
    have e : ms K K = 0 := (by decide +kernel : ∀ K, K < 64 → ms K K = 0) K hK64
    unfold badB
    rw [e, al_0, ← t3, hcl r t hr t1 t2]
    exact hw
  obtain ⟨c, ⟨hc64, hcK, hcb⟩, hl⟩ := pk_least (fun c => c < 64 ∧ c &&& K = c ∧ badB K w c (r &&& c) = false) ⟨K, hPK⟩
  have hv : r &&& c < 64 := Nat.lt_of_le_of_lt Nat.and_le_left hr
  refine ⟨64 * c + (r &&& c), by omega, ?_, ?_⟩
  · rw [pr_cv K w hv, decide_eq_true hcK, decide_eq_true (show (r &&& c) &&& c = r &&& c by rw [Nat.and_assoc, Nat.and_self]), hcb, Bool.true_and, Bool.not_false, Bool.true_and]
    refine allN_iff.mpr (fun i hi => ?_)
    unfold nd
    cases q : c.testBit i
    · rfl
    · obtain ⟨g1, g2, g3⟩ := cx_2 c hc64 i hi q
      obtain ⟨g4, g5⟩ := cx_5 K hK64 c hc64 hcK i hi q
      have hp := Nat.two_pow_pos i
      have hn2 := hl (c ^^^ 2 ^ i) (by omega)
      have e : r &&& (c ^^^ 2 ^ i) = (r &&& c) ^^^ ((r &&& c) &&& 2 ^ i) := by
        apply Nat.eq_of_testBit_eq
        intro j
        rw [Nat.testBit_and, Nat.testBit_xor, Nat.testBit_xor, Nat.testBit_and, Nat.testBit_and, Nat.testBit_and, Nat.testBit_two_pow]
        by_cases hj : i = j
        · subst hj
          rw [q, decide_eq_true rfl]
          cases r.testBit i <;> rfl
        · rw [decide_eq_false hj]
          cases r.testBit j <;> cases c.testBit j <;> rfl
      have e2 : badB K w (c ^^^ 2 ^ i) (r &&& (c ^^^ 2 ^ i)) = badB K w (c ^^^ 2 ^ i) (r &&& c) := by
        rw [e]
        refine al_cl (ms_lt hK64 _) w hv (cx_3 (r &&& c) hv i hi).2.2.1 ?_
        rw [Nat.and_assoc, g5]
      cases z : badB K w (c ^^^ 2 ^ i) (r &&& c)
      · exact absurd ⟨g3, g4, e2.trans z⟩ hn2
      · rfl
  · rw [rw_b hn hv hr, decide_eq_true hr2, decide_eq_true rfl]
    rfl
def bcd (n K : Nat) (w x : Int64) : Nat := (bsB n K w x 4096).1 - 1
theorem cv_step {n K : Nat} {w x : Int64} (h : CV n K w x) (hx : ¬ x = 0) : bcd n K w x < 4096 ∧ prB K w (bcd n K w x) = true ∧ (bsB n K w x 4096).1 = bcd n K w x + 1 ∧ 0 < pc (rwS n (bcd n K w x) &&& x) ∧ CV n K w (x &&& (rwS n (bcd n K w x) ^^^ (-1))) ∧ pc (x &&& (rwS n (bcd n K w x) ^^^ (-1))) < pc x := by
  obtain ⟨r, hr, hxr⟩ := tb_ex hx
  obtain ⟨c0, c1, c2, c3⟩ := pr_ex h hr hxr
  have hmax := bs_max n K w x 4096 c0 c1 c2
  have hpos : 0 < pc (rwS n c0 &&& x) := by
    refine pc_pos.mpr (fun z => ?_)
    have := tb_eq0.mp z r hr
    rw [tb_and, c3, hxr] at this
    exact absurd this (by decide)
  rcases bs_ok n K w x 4096 with ⟨_, b⟩ | ⟨c, b1, b2, b3, b4, b5⟩
  · omega
  · have e : bcd n K w x = c := by unfold bcd; omega
    rw [e]
    refine ⟨b1, b3, b2, by omega, ⟨h.1, h.2.1, h.2.2.1, h.2.2.2.1, fun r hr hb => ?_⟩, ?_⟩
    · rw [tb_and, Bool.and_eq_true] at hb
      exact h.2.2.2.2 r hr hb.1
    · have := pc_split x (rwS n c)
      have e2 : x &&& rwS n c = rwS n c &&& x := by
        apply tb_ext
        intro i _
        rw [tb_and, tb_and, Bool.and_comm]
      rw [e2] at this
      omega
def lfN (n K : Nat) (w x : Int64) : Nat → Int64
  | 0 => x
  | i + 1 => if lfN n K w x i = 0 then 0 else lfN n K w x i &&& (rwS n (bcd n K w (lfN n K w x i)) ^^^ (-1))
def ccN (n K : Nat) (w x : Int64) (i : Nat) : Nat := bcd n K w (lfN n K w x i)
def szN (n K : Nat) (w x : Int64) : Nat := sumN 64 (fun i => (!decide (lfN n K w x i = 0)).toNat)
theorem lf_s {n K : Nat} {w x : Int64} {i : Nat} (h : ¬ lfN n K w x i = 0) : lfN n K w x (i + 1) = lfN n K w x i &&& (rwS n (ccN n K w x i) ^^^ (-1)) := if_neg h
theorem lf_z {n K : Nat} {w x : Int64} {i : Nat} (h : lfN n K w x i = 0) : lfN n K w x (i + 1) = 0 := if_pos h
theorem lf_ok {n K : Nat} {w x : Int64} (h : CV n K w x) : ∀ i, CV n K w (lfN n K w x i) ∧ (¬ lfN n K w x i = 0 → pc (lfN n K w x i) + i ≤ 64) := by
  intro i
  induction i with
  | zero => exact ⟨h, fun _ => pc_le x⟩
  | succ i ih =>
    obtain ⟨h1, h2⟩ := ih
    by_cases hz : lfN n K w x i = 0
    · rw [lf_z hz]
      refine ⟨⟨h.1, h.2.1, h.2.2.1, h.2.2.2.1, fun r _ hb => ?_⟩, fun z => absurd rfl z⟩
      rw [tb_0] at hb
      exact absurd hb (by decide)
    · rw [lf_s hz]
      obtain ⟨_, _, _, _, h3, h4⟩ := cv_step h1 hz
      have := h2 hz
      exact ⟨h3, fun _ => by unfold ccN; omega⟩
theorem lf_64 {n K : Nat} {w x : Int64} (h : CV n K w x) : lfN n K w x 64 = 0 := by
  refine Classical.byContradiction (fun hz => ?_)
  have h1 := (lf_ok h 64).2 hz
  have h2 := pc_pos.mpr hz
  omega
theorem ant_sum (f : Nat → Bool) (hf : ∀ i, f (i + 1) = true → f i = true) : ∀ N i, i < N → (f i = true ↔ i < sumN N (fun i => (f i).toNat)) := by
  have down : ∀ d i, f (i + d) = true → f i = true := by
    intro d
    induction d with
    | zero => intro i h; exact h
    | succ d ih => intro i h; exact ih i (hf (i + d) h)
  have le : ∀ N, sumN N (fun i => (f i).toNat) ≤ N := by
    intro N
    have h := sumN_le (n := N) (f := fun i => (f i).toNat) (g := fun _ => 1) (fun i _ => by cases f i <;> decide)
    rw [sumN_one] at h
    exact h
  intro N
  induction N with
  | zero => intro i h; omega
  | succ N ih =>
    intro i hi
    show f i = true ↔ i < sumN N (fun i => (f i).toNat) + (f N).toNat
    cases q : f N
    · show f i = true ↔ i < sumN N (fun i => (f i).toNat) + 0
      rw [Nat.add_zero]
      rcases Nat.lt_or_ge i N with z | z
      · exact ih i z
      · have : i = N := by omega
        subst this
        have := le i
        rw [q]
        exact ⟨fun z => absurd z (by decide), fun z => by omega⟩
    · have hall : ∀ j, j ≤ N → f j = true := by
        intro j hj
        obtain ⟨d, hd⟩ : ∃ d, N = j + d := ⟨N - j, by omega⟩
        rw [hd] at q
        exact down d j q
      have e : sumN N (fun i => (f i).toNat) = N := by
        refine Eq.trans (sumN_congr (g := fun _ => 1) (fun j hj => ?_)) (sumN_one N)
        rw [hall j (by omega)]
        rfl
      rw [e]
      show _ ↔ i < N + 1
      exact ⟨fun _ => hi, fun _ => hall i (by omega)⟩
theorem sz_le (n K : Nat) (w x : Int64) : szN n K w x ≤ 64 := by
  have h := sumN_le (n := 64) (f := fun i => (!decide (lfN n K w x i = 0)).toNat) (g := fun _ => 1) (fun i _ => by cases decide (lfN n K w x i = 0) <;> decide)
  rw [sumN_one] at h
  exact h
theorem sz_iff (n K : Nat) (w x : Int64) {i : Nat} (hi : i < 64) : ¬ lfN n K w x i = 0 ↔ i < szN n K w x := by
  have h := ant_sum (fun i => !decide (lfN n K w x i = 0)) (fun j hj => by
    by_cases hz : lfN n K w x j = 0
    · have hz2 := lf_z hz
      have hj : (!decide (lfN n K w x (j + 1) = 0)) = true := hj
      rw [decide_eq_true hz2] at hj
      exact absurd hj (by decide)
    · show (!decide (lfN n K w x j = 0)) = true
      rw [decide_eq_false hz]
      rfl) 64 i hi
  refine Iff.trans ?_ h
  show _ ↔ (!decide (lfN n K w x i = 0)) = true
  by_cases hz : lfN n K w x i = 0
  · rw [decide_eq_true hz]
    exact ⟨fun z => absurd hz z, fun z => absurd z (by decide)⟩
  · rw [decide_eq_false hz]
    exact ⟨fun _ => rfl, fun _ => hz⟩
theorem sz_ne {n K : Nat} {w x : Int64} {i : Nat} (hi : i < szN n K w x) : ¬ lfN n K w x i = 0 := (sz_iff n K w x (Nat.lt_of_lt_of_le hi (sz_le n K w x))).mpr hi
theorem sz_end {n K : Nat} {w x : Int64} (h : CV n K w x) : lfN n K w x (szN n K w x) = 0 := by
  rcases Nat.lt_or_ge (szN n K w x) 64 with z | z
  · refine Classical.byContradiction (fun hz => ?_)
    have := (sz_iff n K w x z).mp hz
    omega
  · have : szN n K w x = 64 := by have := sz_le n K w x; omega
    rw [this]
    exact lf_64 h
theorem cc_ok {n K : Nat} {w x : Int64} (h : CV n K w x) {i : Nat} (hi : i < szN n K w x) : ccN n K w x i < 4096 ∧ prB K w (ccN n K w x i) = true ∧ (bsB n K w (lfN n K w x i) 4096).1 = ccN n K w x i + 1 := by
  obtain ⟨h1, h2, h3, _⟩ := cv_step (lf_ok h i).1 (sz_ne hi)
  exact ⟨h1, h2, h3⟩
theorem cv_ix (o i : Nat) : 64 * nI o + nI i = nI (64 * o + i) := by
  rw [show (64 : Int32) = nI 64 from rfl, pk_mul, nI_add]
/-- the rows that the first i products hold -/
def anN (n K : Nat) (w x : Int64) : Nat → Int64
  | 0 => 0
  | i + 1 => anN n K w x i ||| rwS n (ccN n K w x i)
theorem an_s (n K : Nat) (w x : Int64) (i : Nat) : anN n K w x (i + 1) = anN n K w x i ||| rwS n (ccN n K w x i) := rfl
theorem cw_step {n K : Nat} {w x : Int64} (h : CV n K w x) {codes : Nat → Int32} {rows : Nat → Int64} (hI : PI n K w 4096 codes rows (nI (cnt K w 4096))) (ans : Nat → Int64) (siz : Nat → Int32) {o : Nat} (ho : o < 4) : ∀ d i, i + d = szN n K w x → ∀ fuel, d < fuel → ∀ cov, ∃ cov', fX5_coverWith_L24 (nI o) ans siz codes rows (nI (cnt K w 4096)) fuel (lfN n K w x i) (anN n K w x i) (nI i) (nI i) cov = some (vp_updL ans o (anN n K w x (szN n K w x)), upd siz o (nI (szN n K w x)), cov') ∧ (∀ j, i ≤ j → j < szN n K w x → cov' (64 * o + j) = nI (ccN n K w x j)) ∧ (∀ q, (q < 64 * o + i ∨ 64 * o + 64 ≤ q) → cov' q = cov q) := by
  intro d
  induction d with
  | zero =>
    intro i hi fuel h2 cov
    obtain ⟨f, rfl⟩ : ∃ f, fuel = f + 1 := ⟨fuel - 1, by omega⟩
    have e : i = szN n K w x := by omega
    have h64 := sz_le n K w x
    have hz : lfN n K w x i = 0 := by rw [e]; exact sz_end h
    refine ⟨cov, ?_, fun j h1 h2 => by omega, fun _ _ => rfl⟩
    have hJ : fX5_coverWith_J114 (nI o) (anN n K w x i) (nI i) ans siz cov = some (vp_updL ans o (anN n K w x (szN n K w x)), upd siz o (nI (szN n K w x)), cov) := by
      unfold fX5_coverWith_J114
      rw [gd_in ho (by decide), gd_in ho (by decide), nI_clamp (by omega), e]
    rw [fX5_coverWith_L24, hJ, if_pos ((lg0 _).mpr hz)]
    split <;> rfl
  | succ d ih =>
    intro i hi fuel h2 cov
    obtain ⟨f, rfl⟩ : ∃ f, fuel = f + 1 := ⟨fuel - 1, by omega⟩
    have hi' : i < szN n K w x := by omega
    have h64 := sz_le n K w x
    obtain ⟨c1, c2, c3⟩ := cc_ok h hi'
    have hne := sz_ne hi'
    obtain ⟨p1, p2⟩ := hI.2 _ c1 c2
    have h729 := cnt_729 K w c1 c2
    have eb : bpl n K w (lfN n K w x i) 4096 = nI (cnt K w (ccN n K w x i)) := by
      unfold bpl
      rw [c3, if_neg (Nat.succ_ne_zero _), Nat.add_sub_cancel]
    rw [fX5_coverWith_L24, if_neg (n64 (by omega)), if_neg (fun z => hne ((lg0 _).mp z)), bf_cls hI, Option.bind_some, eb, if_neg (nI_pos (by omega)), if_pos (show nI (cnt K w (ccN n K w x i)) < 729 from nI_lt (b := 729) h729 (by decide)), gd_in h729 (by decide), show nI o * 64 = nI (64 * o) by rw [show (64 : Int32) = nI 64 from rfl, pk_mul, Nat.mul_comm], nI_add, gd_in (show 64 * o + i < 256 by omega) (by decide)]
    rw [lt_e, gd_in h729 (by decide), gd_in h729 (by decide), nI_clamp (show cnt K w (ccN n K w x i) < 2 ^ 31 by omega), nI_clamp (show 64 * o + i < 2 ^ 31 by omega), p1, p2, ← lf_s hne, nI_1, ← an_s]
    obtain ⟨cov', e1, e3, e4⟩ := ih (i + 1) (by omega) f (by omega) (upd cov (64 * o + i) (nI (ccN n K w x i)))
    refine ⟨cov', e1, fun j h1 h3 => ?_, fun q hq => ?_⟩
    · by_cases e : j = i
      · subst e
        rw [e4 _ (Or.inl (by omega)), pk_us]
      · exact e3 j (by omega) h3
    · rw [e4 q (by omega), pk_un (by omega)]
