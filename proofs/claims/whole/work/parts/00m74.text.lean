/-! the buffer read as a table -/
def plc (c : Nat → Int32) : Nat → Nat
  | 0 => 0
  | i + 1 => if c i = 44 then 0 else plc c i + 1
def rdc (c : Nat → Int32) : Nat → Nat
  | 0 => 0
  | i + 1 => if c i = 44 then rdc c i + 1 else rdc c i
def in3 (x : Int32) : Bool := decide (x = 48) || decide (x = 49) || decide (x = 45)
def fitB (n : Nat) (x : Int32) (p : Nat) : Bool := if p < n then in3 x else if p = n then decide (x = 61) else if p = n + 1 then (!decide (x < 48) && !decide (51 < x)) else if p = n + 2 then decide (x = 58) else if p = n + 3 then (!decide (x < 48) && !decide (50 < x)) else decide (x = 44)
theorem bI_d (p : Prop) [Decidable p] : (if p then some (1 : Int32) else some 0) = some (bI (decide p)) := by
  by_cases h : p
  · rw [if_pos h, decide_eq_true h]; rfl
  · rw [if_neg h, decide_eq_false h]; rfl
theorem in3_e (x : Int32) : (if x = 48 then some (1 : Int32) else (if x = 49 then some 1 else (if x = 45 then some 1 else some 0))) = some (bI (in3 x)) := by
  unfold in3
  by_cases h1 : x = 48
  · rw [if_pos h1, decide_eq_true h1]; rfl
  · rw [if_neg h1, decide_eq_false h1]
    by_cases h2 : x = 49
    · rw [if_pos h2, decide_eq_true h2]; rfl
    · rw [if_neg h2, decide_eq_false h2]
      by_cases h3 : x = 45
      · rw [if_pos h3, decide_eq_true h3]; rfl
      · rw [if_neg h3, decide_eq_false h3]; rfl
theorem rgB (x a b : Int32) : (if x < a then some (0 : Int32) else (if b < x then some 0 else some 1)) = some (bI (!decide (x < a) && !decide (b < x))) := by
  by_cases h1 : x < a
  · rw [if_pos h1, decide_eq_true h1]; rfl
  · rw [if_neg h1, decide_eq_false h1]
    by_cases h2 : b < x
    · rw [if_pos h2, decide_eq_true h2]; rfl
    · rw [if_neg h2, decide_eq_false h2]; rfl
theorem fit_i {n p : Nat} (x : Int32) (h : p < n) : fitB n x p = in3 x := if_pos h
theorem fit_0 (n : Nat) (x : Int32) : fitB n x n = decide (x = 61) := by
  unfold fitB
  rw [if_neg (show ¬ n < n by omega), if_pos rfl]
theorem fit_1 (n : Nat) (x : Int32) : fitB n x (n + 1) = (!decide (x < 48) && !decide (51 < x)) := by
  unfold fitB
  rw [if_neg (show ¬ n + 1 < n by omega), if_neg (show ¬ n + 1 = n by omega), if_pos rfl]
theorem fit_2 (n : Nat) (x : Int32) : fitB n x (n + 2) = decide (x = 58) := by
  unfold fitB
  rw [if_neg (show ¬ n + 2 < n by omega), if_neg (show ¬ n + 2 = n by omega), if_neg (show ¬ n + 2 = n + 1 by omega), if_pos rfl]
theorem fit_3 (n : Nat) (x : Int32) : fitB n x (n + 3) = (!decide (x < 48) && !decide (50 < x)) := by
  unfold fitB
  rw [if_neg (show ¬ n + 3 < n by omega), if_neg (show ¬ n + 3 = n by omega), if_neg (show ¬ n + 3 = n + 1 by omega), if_neg (show ¬ n + 3 = n + 2 by omega), if_pos rfl]
theorem fit_4 {n p : Nat} (x : Int32) (h : n + 4 ≤ p) : fitB n x p = decide (x = 44) := by
  unfold fitB
  rw [if_neg (show ¬ p < n by omega), if_neg (show ¬ p = n by omega), if_neg (show ¬ p = n + 1 by omega), if_neg (show ¬ p = n + 2 by omega), if_neg (show ¬ p = n + 3 by omega)]
theorem fits_eq {n p : Nat} (hn : n ≤ 6) (hp : p ≤ 70) (x : Int32) : fX4_fits x (nI p) (nI n) = some (bI (fitB n x p)) := by
  unfold fX4_fits
  by_cases h : p < n
  · rw [if_neg (nI_ge h (by omega)), fit_i x h]
    exact in3_e x
  · rw [if_pos (nI_le (by omega) (by omega)), pk_sub (show n ≤ p by omega)]
    obtain ⟨k, rfl⟩ : ∃ k, p = n + k := ⟨p - n, by omega⟩
    rw [Nat.add_sub_cancel_left]
    rcases (show k = 0 ∨ k = 1 ∨ k = 2 ∨ k = 3 ∨ 4 ≤ k by omega) with rfl | rfl | rfl | rfl | h4
    · rw [if_pos nI_0, Nat.add_zero, fit_0]
      exact bI_d _
    · rw [if_neg (show ¬ nI 1 = 0 by decide), if_pos (show nI 1 = 1 by decide), fit_1]
      exact rgB x 48 51
    · rw [if_neg (show ¬ nI 2 = 0 by decide), if_neg (show ¬ nI 2 = 1 by decide), if_pos (show nI 2 = 2 by decide), fit_2]
      exact bI_d _
    · rw [if_neg (show ¬ nI 3 = 0 by decide), if_neg (show ¬ nI 3 = 1 by decide), if_neg (show ¬ nI 3 = 2 by decide), if_pos (show nI 3 = 3 by decide), fit_3]
      exact rgB x 48 50
    · rw [if_neg (nI_ne0 (by omega) (by omega)), if_neg (show ¬ nI k = 1 from fun w => by have := (nI_eq (b := 1) (by omega) (by decide)).mp w; omega), if_neg (show ¬ nI k = 2 from fun w => by have := (nI_eq (b := 2) (by omega) (by decide)).mp w; omega), if_neg (show ¬ nI k = 3 from fun w => by have := (nI_eq (b := 3) (by omega) (by decide)).mp w; omega), fit_4 x (by omega)]
      exact bI_d _
def rgt (c : Nat → Int32) (n i : Nat) : Prop := ∀ j, j < i → fitB n (c j) (plc c j) = true
theorem fit44 {n p : Nat} (h : fitB n 44 p = true) : n + 4 ≤ p := by
  unfold fitB at h
  split at h
  · exact absurd h (by decide)
  · split at h
    · exact absurd h (by decide)
    · split at h
      · exact absurd h (by decide)
      · split at h
        · exact absurd h (by decide)
        · split at h
          · exact absurd h (by decide)
          · omega
theorem fitn4 {n : Nat} {x : Int32} (h : fitB n x (n + 4) = true) : x = 44 := by
  rw [fit_4 x (Nat.le_refl _)] at h
  exact of_decide_eq_true h
theorem rgt_p {c : Nat → Int32} {n : Nat} : ∀ i, rgt c n i → plc c i ≤ n + 4 ∧ (n + 5) * rdc c i + plc c i = i := by
  intro i
  induction i with
  | zero => intro _; exact ⟨Nat.zero_le _, rfl⟩
  | succ i ih =>
    intro h
    obtain ⟨h1, h2⟩ := ih (fun j hj => h j (by omega))
    have h3 := h i (by omega)
    show (if c i = 44 then 0 else plc c i + 1) ≤ n + 4 ∧ (n + 5) * (if c i = 44 then rdc c i + 1 else rdc c i) + (if c i = 44 then 0 else plc c i + 1) = i + 1
    by_cases e : c i = 44
    · rw [if_pos e, if_pos e]
      rw [e] at h3
      have := fit44 h3
      refine ⟨Nat.zero_le _, ?_⟩
      rw [Nat.mul_add]
      omega
    · rw [if_neg e, if_neg e]
      refine ⟨?_, by omega⟩
      rcases Nat.lt_or_ge (plc c i) (n + 4) with z | z
      · omega
      · have : plc c i = n + 4 := by omega
        rw [this] at h3
        exact absurd (fitn4 h3) e
theorem n60 {i : Nat} (h : i < 60) : ¬ (60 : Int32) ≤ nI i := nI_ge (b := 60) h (by decide)
/-! the parts as the reference keeps them -/
def cpF (c : Nat → Int32) (s : Nat) : Nat → Nat
  | 0 => 0
  | j + 1 => if c (s + j) = 45 then cpF c s j else cpF c s j ||| 2 ^ j
def vpF (c : Nat → Int32) (s : Nat) : Nat → Nat
  | 0 => 0
  | j + 1 => if c (s + j) = 49 then vpF c s j ||| 2 ^ j else vpF c s j
def pfl (c : Nat → Int32) (n : Nat) (pts : Nat → Int32) (q : Nat) : Prop := pts (4 * q) = nI (cpF c ((n + 5) * q) n) ∧ pts (4 * q + 1) = nI (vpF c ((n + 5) * q) n) ∧ pts (4 * q + 2) = c ((n + 5) * q + n + 1) - 48 ∧ pts (4 * q + 3) = c ((n + 5) * q + n + 3) - 48
def ptc (c : Nat → Int32) (n : Nat) (pts : Nat → Int32) (i : Nat) : Prop := (∀ q, q < rdc c i → pfl c n pts q) ∧ (0 < plc c i → pts (4 * rdc c i) = nI (cpF c ((n + 5) * rdc c i) (min (plc c i) n)) ∧ pts (4 * rdc c i + 1) = nI (vpF c ((n + 5) * rdc c i) (min (plc c i) n))) ∧ (n + 1 < plc c i → pts (4 * rdc c i + 2) = c ((n + 5) * rdc c i + n + 1) - 48) ∧ (n + 3 < plc c i → pts (4 * rdc c i + 3) = c ((n + 5) * rdc c i + n + 3) - 48)
theorem n48 {i : Nat} (h : i < 48) {α : Type} (k : Option α) : gd (nI i) 48 k = k := gd_in h (by decide) k
theorem ti_ref (pts : Nat → Int32) {q p : Nat} (hq : q ≤ 10) (hp : p < 31) (x : Int32) : ∃ pts', fX7_takesInput pts (nI q) (nI p) x = some (bI (in3 x), pts') ∧ pts' (4 * q) = ((if p = 0 then 0 else pts (4 * q)) ||| (if x = 45 then 0 else nI (2 ^ p))) ∧ pts' (4 * q + 1) = ((if p = 0 then 0 else pts (4 * q + 1)) ||| (if x = 49 then nI (2 ^ p) else 0)) ∧ ∀ j, j ≠ 4 * q → j ≠ 4 * q + 1 → pts' j = pts j := by
  have e4 : (4 : Int32) * nI q = nI (4 * q) := m4_ q
  have hJ : ∀ (p2 : Nat → Int32) (s0 s1 : Int32), fX7_takesInput_J107 x s0 s1 (nI (4 * q + 1)) p2 = some (bI (in3 x), upd p2 (4 * q + 1) (s1 ||| s0)) := by
    intro p2 s0 s1
    unfold fX7_takesInput_J107 in3
    rw [n48 (by omega), nI_clamp (by omega)]
    by_cases h1 : x = 48
    · rw [if_pos h1, decide_eq_true h1]; rfl
    · rw [if_neg h1, decide_eq_false h1]
      by_cases h2 : x = 49
      · rw [if_pos h2, decide_eq_true h2]; rfl
      · rw [if_neg h2, decide_eq_false h2]
        by_cases h3 : x = 45
        · rw [if_pos h3, decide_eq_true h3]; rfl
        · rw [if_neg h3, decide_eq_false h3]; rfl
  have hJ2 : ∀ (p2 : Nat → Int32) (s0 s1 : Int32), fX7_takesInput_J80 x (nI (4 * q)) s0 s1 (nI (4 * q)) p2 (nI p) = some (bI (in3 x), upd (upd p2 (4 * q) (s1 ||| s0)) (4 * q + 1) (p2 (4 * q + 1) ||| (if x = 49 then nI (2 ^ p) else 0))) := by
    intro p2 s0 s1
    unfold fX7_takesInput_J80
    rw [n48 (by omega), nI_1, n48 (by omega), nI_clamp (show 4 * q < 2 ^ 31 by omega), nI_clamp (show 4 * q + 1 < 2 ^ 31 by omega), hJ, hJ, pk_un (show 4 * q + 1 ≠ 4 * q by omega), al_sh p hp]
    by_cases h1 : x = 49
    · rw [if_pos h1, if_pos h1]
    · rw [if_neg h1, if_neg h1]
  have hJ3 : ∀ (p2 : Nat → Int32) (s0 : Int32), fX7_takesInput_J56 x (nI (4 * q)) s0 (nI (4 * q + 1)) p2 (nI p) = some (bI (in3 x), upd (upd (upd p2 (4 * q + 1) s0) (4 * q) (p2 (4 * q) ||| (if x = 45 then 0 else nI (2 ^ p)))) (4 * q + 1) (s0 ||| (if x = 49 then nI (2 ^ p) else 0))) := by
    intro p2 s0
    unfold fX7_takesInput_J56
    rw [n48 (by omega), n48 (by omega), nI_clamp (show 4 * q < 2 ^ 31 by omega), nI_clamp (show 4 * q + 1 < 2 ^ 31 by omega), hJ2, hJ2, pk_un (show 4 * q ≠ 4 * q + 1 by omega), pk_us, al_sh p hp]
    by_cases h1 : x = 45
    · rw [if_pos h1, if_pos h1]
    · rw [if_neg h1, if_neg h1]
  unfold fX7_takesInput fX7_takesInput_J29
  rw [e4, nI_1]
  by_cases h0 : p = 0
  · rw [if_pos (by rw [h0]; decide), n48 (by omega), if_pos (by rw [h0]; decide), hJ3, nI_clamp (show 4 * q < 2 ^ 31 by omega)]
    refine ⟨_, rfl, ?_, ?_, fun j h1 h2 => ?_⟩
    · rw [pk_un (by omega), pk_us, pk_us, if_pos h0]
    · rw [pk_us, if_pos h0]
    · rw [pk_un h2, pk_un h1, pk_un h2, pk_un h1]
  · rw [if_neg (nI_ne0 (by omega) (by omega)), n48 (by omega), n48 (by omega), if_neg (nI_ne0 (by omega) (by omega)), n48 (by omega), hJ3, nI_clamp (show 4 * q < 2 ^ 31 by omega), nI_clamp (show 4 * q + 1 < 2 ^ 31 by omega)]
    refine ⟨_, rfl, ?_, ?_, fun j h1 h2 => ?_⟩
    · rw [pk_un (by omega), pk_us, pk_us, if_neg h0]
    · rw [pk_us, pk_un (by omega), if_neg h0]
    · rw [pk_un h2, pk_un h1, pk_un h2, pk_un h1]
theorem rd_10 {n q p i : Nat} (h1 : 1 ≤ n) (h : (n + 5) * q + p = i) (hi : i < 60) : q ≤ 10 := by
  rcases Nat.lt_or_ge q 11 with z | z
  · omega
  · have : 6 * 11 ≤ (n + 5) * q := Nat.mul_le_mul (by omega) z
    omega
theorem cpF_0 (c : Nat → Int32) (s : Nat) : cpF c s 0 = 0 := rfl
theorem vpF_0 (c : Nat → Int32) (s : Nat) : vpF c s 0 = 0 := rfl
theorem cpF_s (c : Nat → Int32) (s j : Nat) : cpF c s (j + 1) = if c (s + j) = 45 then cpF c s j else cpF c s j ||| 2 ^ j := rfl
theorem vpF_s (c : Nat → Int32) (s j : Nat) : vpF c s (j + 1) = if c (s + j) = 49 then vpF c s j ||| 2 ^ j else vpF c s j := rfl
theorem tk_191 (b : Bool) (pts : Nat → Int32) (rea : Int32) (p : Nat) : fX7_takes_J191 (bI b) pts rea (nI p) = some (bI b, pts, rea, nI (p + 1)) := by
  unfold fX7_takes_J191 gb
  rw [nI_1]
  cases b <;> rfl
theorem tk_ref {z : Nat → Int32} {n : Nat} (h1 : 1 ≤ n) (hn : n ≤ 6) (hz : z 0 = nI n) {c : Nat → Int32} {i : Nat} (hi : i < 60) (hr : rgt c n i) {pts : Nat → Int32} (hp : ptc c n pts i) : ∃ pts' rea pla, fX7_takes z pts (nI (rdc c i)) (nI (plc c i)) (c i) = some (bI (fitB n (c i) (plc c i)), pts', rea, pla) ∧ (fitB n (c i) (plc c i) = true → rea = nI (rdc c (i + 1)) ∧ pla = nI (plc c (i + 1)) ∧ ptc c n pts' (i + 1)) := by
  obtain ⟨g1, g2⟩ := rgt_p i hr
  have hq := rd_10 h1 g2 hi
  obtain ⟨q1, q2, q3, q4⟩ := hp
  have hnx : c i ≠ 44 → rdc c (i + 1) = rdc c i ∧ plc c (i + 1) = plc c i + 1 := fun e => ⟨if_neg e, if_neg e⟩
  unfold fX7_takes
  rw [gdz, c0_, hz]
  rcases (show plc c i < n ∨ plc c i = n ∨ plc c i = n + 1 ∨ plc c i = n + 2 ∨ plc c i = n + 3 ∨ plc c i = n + 4 by omega) with hc | hc | hc | hc | hc | hc
  · -- an input
    have hneg := pk_sneg (a := plc c i) (b := n) (by omega) hc
    have hne : ∀ k : Int32, ¬ k < 0 → ¬ nI (plc c i) - nI n = k := fun k hk w => hk (by rw [← w]; exact hneg)
    rw [if_neg (hne 0 (by decide)), if_neg (hne 1 (by decide)), if_neg (hne 2 (by decide)), if_neg (hne 3 (by decide)), if_neg (hne 4 (by decide))]
    obtain ⟨pts', e, t1, t2, t3⟩ := ti_ref pts hq (show plc c i < 31 by omega) (c i)
    have hfit : fitB n (c i) (plc c i) = in3 (c i) := if_pos hc
    rw [e, Option.bind_some, hfit]
    refine ⟨pts', nI (rdc c i), nI (plc c i + 1), tk_191 _ _ _ _, fun hb => ?_⟩
    have h44 : c i ≠ 44 := by
      intro w
      rw [w] at hb
      exact absurd hb (by decide)
    obtain ⟨e1, e2⟩ := hnx h44
    have hs : (n + 5) * rdc c i + plc c i = i := g2
    refine ⟨by rw [e1], by rw [e2], ?_⟩
    unfold ptc
    rw [e1, e2]
    refine ⟨fun q hqq => ?_, fun _ => ?_, fun w => by omega, fun w => by omega⟩
    · obtain ⟨a, b, d, f⟩ := q1 q hqq
      unfold pfl
      rw [t3 _ (by omega) (by omega), t3 _ (by omega) (by omega), t3 _ (by omega) (by omega), t3 _ (by omega) (by omega)]
      exact ⟨a, b, d, f⟩
    · rw [t1, t2, show min (plc c i + 1) n = plc c i + 1 by omega, cpF_s, vpF_s, hs]
      by_cases h0 : plc c i = 0
      · rw [if_pos h0, if_pos h0, h0]
        constructor
        · by_cases w : c i = 45
          · rw [if_pos w, if_pos w, cpF_0]; decide
          · rw [if_neg w, if_neg w, cpF_0]; decide
        · by_cases w : c i = 49
          · rw [if_pos w, if_pos w, vpF_0]; decide
          · rw [if_neg w, if_neg w, vpF_0]; decide
      · obtain ⟨a, b⟩ := q2 (by omega)
        rw [if_neg h0, if_neg h0, a, b, show min (plc c i) n = plc c i by omega]
        constructor
        · by_cases w : c i = 45
          · rw [if_pos w, if_pos w, ← nI_0, nI_orr, Nat.or_zero]
          · rw [if_neg w, if_neg w, nI_orr]
        · by_cases w : c i = 49
          · rw [if_pos w, if_pos w, nI_orr]
          · rw [if_neg w, if_neg w, ← nI_0, nI_orr, Nat.or_zero]
  · -- the sign =
    have hd : nI (plc c i) - nI n = nI 0 := by rw [hc, pk_sub (Nat.le_refl n), Nat.sub_self]
    have hfit : fitB n (c i) (plc c i) = decide (c i = 61) := by rw [hc]; exact fit_0 n _
    rw [hd, if_pos nI_0, hfit]
    unfold fX7_takes_J59
    refine ⟨pts, nI (rdc c i), nI (plc c i + 1), ?_, fun hb => ?_⟩
    · by_cases w : c i = 61
      · rw [if_pos w, decide_eq_true w]; exact tk_191 true _ _ _
      · rw [if_neg w, decide_eq_false w]; exact tk_191 false _ _ _
    · have w := of_decide_eq_true hb
      obtain ⟨e1, e2⟩ := hnx (by rw [w]; decide)
      refine ⟨by rw [e1], by rw [e2], ?_⟩
      unfold ptc
      rw [e1, e2]
      refine ⟨q1, fun _ => ?_, fun w => by omega, fun w => by omega⟩
      rw [show min (plc c i + 1) n = min (plc c i) n by omega]
      exact q2 (by omega)
  · -- the output
    have hd : nI (plc c i) - nI n = nI 1 := by rw [hc, pk_sub (by omega), Nat.add_sub_cancel_left]
    have hfit : fitB n (c i) (plc c i) = (!decide (c i < 48) && !decide (51 < c i)) := by
      rw [hc]
      first | exact fit_1 n _ | exact fit_2 n _ | exact fit_3 n _ | exact fit_4 _ (Nat.le_refl _)
    have eix : (4 : Int32) * nI (rdc c i) + 2 = nI (4 * rdc c i + 2) := by rw [m4_]; exact nI_add _ 2
    rw [hd, if_neg (by decide), if_pos (by decide), hfit, eix, n48 (by omega), nI_clamp (by omega)]
    unfold fX7_within
    rw [rgB, Option.bind_some]
    refine ⟨_, _, _, tk_191 _ _ _ _, fun hb => ?_⟩
    have h44 : c i ≠ 44 := by
      intro w
      rw [w] at hb
      exact absurd hb (by decide)
    obtain ⟨e1, e2⟩ := hnx h44
    refine ⟨by rw [e1], by rw [e2], ?_⟩
    unfold ptc
    rw [e1, e2]
    refine ⟨fun q hqq => ?_, fun _ => ?_, fun _ => ?_, fun w => by omega⟩
    · obtain ⟨a, b, d, f⟩ := q1 q hqq
      unfold pfl
      rw [pk_un (by omega), pk_un (by omega), pk_un (by omega), pk_un (by omega)]
      exact ⟨a, b, d, f⟩
    · rw [pk_un (by omega), pk_un (by omega), show min (plc c i + 1) n = min (plc c i) n by omega]
      exact q2 (by omega)
    · rw [pk_us]
      congr 2
      omega
  · -- the colon
    have hd : nI (plc c i) - nI n = nI 2 := by rw [hc, pk_sub (by omega), Nat.add_sub_cancel_left]
    have hfit : fitB n (c i) (plc c i) = decide (c i = 58) := by
      rw [hc]
      first | exact fit_1 n _ | exact fit_2 n _ | exact fit_3 n _ | exact fit_4 _ (Nat.le_refl _)
    rw [hd, if_neg (by decide), if_neg (by decide), if_pos (by decide), hfit]
    unfold fX7_takes_J103
    refine ⟨pts, nI (rdc c i), nI (plc c i + 1), ?_, fun hb => ?_⟩
    · by_cases w : c i = 58
      · rw [if_pos w, decide_eq_true w]; exact tk_191 true _ _ _
      · rw [if_neg w, decide_eq_false w]; exact tk_191 false _ _ _
    · have w := of_decide_eq_true hb
      obtain ⟨e1, e2⟩ := hnx (by rw [w]; decide)
      refine ⟨by rw [e1], by rw [e2], ?_⟩
      unfold ptc
      rw [e1, e2]
      refine ⟨q1, fun _ => ?_, fun _ => q3 (by omega), fun w => by omega⟩
      rw [show min (plc c i + 1) n = min (plc c i) n by omega]
      exact q2 (by omega)
  · -- the truth
    have hd : nI (plc c i) - nI n = nI 3 := by rw [hc, pk_sub (by omega), Nat.add_sub_cancel_left]
    have hfit : fitB n (c i) (plc c i) = (!decide (c i < 48) && !decide (50 < c i)) := by
      rw [hc]
      first | exact fit_1 n _ | exact fit_2 n _ | exact fit_3 n _ | exact fit_4 _ (Nat.le_refl _)
    have eix : (4 : Int32) * nI (rdc c i) + 3 = nI (4 * rdc c i + 3) := by rw [m4_]; exact nI_add _ 3
    rw [hd, if_neg (by decide), if_neg (by decide), if_neg (by decide), if_pos (by decide), hfit, eix, n48 (by omega), nI_clamp (by omega)]
    unfold fX7_within
    rw [rgB, Option.bind_some]
    refine ⟨_, _, _, tk_191 _ _ _ _, fun hb => ?_⟩
    have h44 : c i ≠ 44 := by
      intro w
      rw [w] at hb
      exact absurd hb (by decide)
    obtain ⟨e1, e2⟩ := hnx h44
    refine ⟨by rw [e1], by rw [e2], ?_⟩
    unfold ptc
    rw [e1, e2]
    refine ⟨fun q hqq => ?_, fun _ => ?_, fun _ => ?_, fun _ => ?_⟩
    · obtain ⟨a, b, d, f⟩ := q1 q hqq
      unfold pfl
      rw [pk_un (by omega), pk_un (by omega), pk_un (by omega), pk_un (by omega)]
      exact ⟨a, b, d, f⟩
    · rw [pk_un (by omega), pk_un (by omega), show min (plc c i + 1) n = min (plc c i) n by omega]
      exact q2 (by omega)
    · rw [pk_un (by omega)]
      exact q3 (by omega)
    · rw [pk_us]
      congr 2
      omega
  · -- the comma
    have hd : nI (plc c i) - nI n = nI 4 := by rw [hc, pk_sub (by omega), Nat.add_sub_cancel_left]
    have hfit : fitB n (c i) (plc c i) = decide (c i = 44) := by
      rw [hc]
      first | exact fit_1 n _ | exact fit_2 n _ | exact fit_3 n _ | exact fit_4 _ (Nat.le_refl _)
    rw [hd, if_neg (by decide), if_neg (by decide), if_neg (by decide), if_neg (by decide), if_pos (by decide), hfit]
    unfold fX7_takes_J147 fX7_takes_J162 fX7_takes_J179
    by_cases w : c i = 44
    · have e1 : rdc c (i + 1) = rdc c i + 1 := if_pos w
      have e2 : plc c (i + 1) = 0 := if_pos w
      rw [if_pos w, decide_eq_true w, if_neg z01, if_neg z01, nI_1]
      refine ⟨pts, nI (rdc c i + 1), nI 0, ?_, fun _ => ⟨by rw [e1], by rw [e2], ?_⟩⟩
      · unfold fX7_takes_J191 gb
        rfl
      · unfold ptc
        rw [e1, e2]
        refine ⟨fun q hqq => ?_, fun w => by omega, fun w => by omega, fun w => by omega⟩
        by_cases e : q = rdc c i
        · subst e
          obtain ⟨a, b⟩ := q2 (by omega)
          rw [show min (plc c i) n = n by omega] at a b
          exact ⟨a, b, q3 (by omega), q4 (by omega)⟩
        · exact q1 q (by omega)
    · rw [if_neg w, decide_eq_false w, if_pos rfl, if_pos rfl, Int32.add_zero]
      exact ⟨pts, nI (rdc c i), nI (plc c i + 1), tk_191 false _ _ _, fun hb => absurd hb (by decide)⟩
