/-! the table: where the first error is, and what is given -/
theorem plc_s (c : Nat → Int32) (i : Nat) : plc c (i + 1) = if c i = 44 then 0 else plc c i + 1 := rfl
theorem plc_le (c : Nat → Int32) : ∀ i, plc c i ≤ i := by
  intro i
  induction i with
  | zero => exact Nat.le_refl _
  | succ i ih =>
    rw [plc_s]
    split <;> omega
theorem fe_step {z : Nat → Int32} {n : Nat} (h1 : 1 ≤ n) (hn : n ≤ 6) (hz : z 0 = nI n) {c txt : Nat → Int32} {L : Nat} (hL : L ≤ 60) (ht : ∀ i, i < L → c i = txt i) : ∀ d i, i + d = L → ∀ fuel, d < fuel → ∀ pts, rgt c n i → ptc c n pts i → ∃ w pts' rea pla, fX4_firstWrong_L4 (nI n) c (nI L) fuel (nI (plc c i)) (nI i) = some (nI w) ∧ fX7_rightUpTo_L12 z (nI L) txt fuel (nI i) pts (nI (rdc c i)) (nI (plc c i)) = some (nI w, pts', rea, pla) ∧ w ≤ L ∧ (w < L ∨ (w = L ∧ rgt c n L ∧ ptc c n pts' L ∧ rea = nI (rdc c L) ∧ pla = nI (plc c L))) := by
  intro d
  induction d with
  | zero =>
    intro i hi fuel hf pts hr hp
    obtain ⟨f, rfl⟩ : ∃ f, fuel = f + 1 := ⟨fuel - 1, by omega⟩
    have e : i = L := by omega
    subst e
    refine ⟨i, pts, nI (rdc c i), nI (plc c i), ?_, ?_, Nat.le_refl _, Or.inr ⟨rfl, hr, hp, rfl, rfl⟩⟩
    · rw [fX4_firstWrong_L4, if_pos (nI_le (Nat.le_refl _) (by omega))]
      rfl
    · rw [fX7_rightUpTo_L12, if_pos (nI_le (Nat.le_refl _) (by omega))]
  | succ d ih =>
    intro i hi fuel hf pts hr hp
    obtain ⟨f, rfl⟩ : ∃ f, fuel = f + 1 := ⟨fuel - 1, by omega⟩
    have hiL : i < L := by omega
    have hpl := plc_le c i
    obtain ⟨pts', rea, pla, e1, e2⟩ := tk_ref h1 hn hz (show i < 60 by omega) hr hp
    rw [fX4_firstWrong_L4, if_neg (nI_ge hiL (by omega)), if_neg (n60 (by omega)), gd_in (show i < 60 by omega) (by decide), gd_in (show i < 60 by omega) (by decide), nI_clamp (by omega), fits_eq hn (show plc c i ≤ 70 by omega), Option.bind_some, fX7_rightUpTo_L12, if_neg (nI_ge hiL (by omega)), gd_in (show i < 60 by omega) (by decide), nI_clamp (by omega), ← ht i hiL, e1, Option.bind_some]
    unfold fX4_firstWrong_J55
    cases q : fitB n (c i) (plc c i)
    · rw [if_pos (show bI false = 0 from rfl), if_pos (show bI false = 0 from rfl)]
      exact ⟨i, pts', rea, pla, rfl, rfl, by omega, Or.inl hiL⟩
    · rw [if_neg (show ¬ bI true = 0 by decide), if_neg (show ¬ bI true = 0 by decide)]
      obtain ⟨e3, e4, e5⟩ := e2 q
      have hr2 : rgt c n (i + 1) := by
        intro j hj
        by_cases e : j = i
        · subst e; exact q
        · exact hr j (by omega)
      have h := ih (i + 1) (by omega) f (by omega) pts' hr2 e5
      show ∃ w pts'_1 rea_1 pla_1, (if c i = 44 then fX4_firstWrong_L4 (nI n) c (nI L) f 0 (nI i + 1) else fX4_firstWrong_L4 (nI n) c (nI L) f (nI (plc c i) + 1) (nI i + 1)) = some (nI w) ∧ fX7_rightUpTo_L12 z (nI L) txt f (nI i + 1) pts' rea pla = some (nI w, pts'_1, rea_1, pla_1) ∧ w ≤ L ∧ (w < L ∨ (w = L ∧ rgt c n L ∧ ptc c n pts'_1 L ∧ rea_1 = nI (rdc c L) ∧ pla_1 = nI (plc c L)))
      rw [e3, e4, nI_1, nI_1]
      by_cases w44 : c i = 44
      · rw [if_pos w44]
        have e6 : plc c (i + 1) = 0 := if_pos w44
        rw [e6] at h ⊢
        exact h
      · rw [if_neg w44]
        have e6 : plc c (i + 1) = plc c i + 1 := if_neg w44
        rw [e6] at h ⊢
        exact h
theorem ptc_0 (c : Nat → Int32) (n : Nat) (pts : Nat → Int32) : ptc c n pts 0 := ⟨fun q hq => absurd (show q < 0 from hq) (by omega), fun w => absurd (show 0 < 0 from w) (by omega), fun w => absurd (show n + 1 < 0 from w) (by omega), fun w => absurd (show n + 3 < 0 from w) (by omega)⟩
theorem fe_both {z : Nat → Int32} {n : Nat} (h1 : 1 ≤ n) (hn : n ≤ 6) (hz : z 0 = nI n) {c txt : Nat → Int32} {L : Nat} (hL : L ≤ 60) (ht : ∀ i, i < L → c i = txt i) (pts : Nat → Int32) : ∃ w pts' rea pla, fX4_firstWrong c (nI L) (nI n) = some (nI w) ∧ fX7_rightUpTo z (nI L) txt pts = some (nI w, pts', rea, pla) ∧ w ≤ L ∧ (w < L ∨ (w = L ∧ rgt c n L ∧ ptc c n pts' L ∧ rea = nI (rdc c L) ∧ pla = nI (plc c L))) :=
  fe_step h1 hn hz hL ht L 0 (Nat.zero_add L) 5000 (by omega) pts (fun j hj => absurd hj (by omega)) (ptc_0 c n pts)
theorem it_cls {n : Nat} (c : Nat → Int32) {L : Nat} (hL : L ≤ 60) : fX4_isTable c (nI L) (nI n) = fX4_isTable_J46 (nI n) (nI (plc c L)) c (nI L) := by
  obtain ⟨m, s, e, hI⟩ := loop0 (fun k i s => fX4_isTable_L4 (nI n) c (nI L) k s i) (fun i s => s = nI (plc c i)) L (s := (0 : Int32)) (by omega) rfl (by
    intro m i s hi hI
    subst hI
    refine ⟨_, ?_, rfl⟩
    show fX4_isTable_L4 (nI n) c (nI L) (m + 1) _ (nI i) = fX4_isTable_L4 (nI n) c (nI L) m (nI (if c i = 44 then 0 else plc c i + 1)) (nI (i + 1))
    rw [fX4_isTable_L4, if_neg (nI_ge hi (by omega)), if_neg (n60 (by omega)), gd_in (show i < 60 by omega) (by decide), nI_clamp (by omega)]
    unfold fX4_isTable_J39
    rw [nI_1, nI_1]
    by_cases w : c i = 44
    · rw [if_pos w, if_pos w]
      rfl
    · rw [if_neg w, if_neg w])
  unfold fX4_isTable
  refine Eq.trans e ?_
  show fX4_isTable_L4 (nI n) c (nI L) (m + 1) s (nI L) = _
  rw [fX4_isTable_L4, if_pos (nI_le (Nat.le_refl _) (by omega)), hI]
/-! the parts of a right table -/
theorem lt_s1 {b j : Nat} (e : ¬ b = j) : decide (b < j + 1) = decide (b < j) := decide_eq_decide.mpr (by omega)
theorem nb_t {p : Prop} [Decidable p] (h : (!decide p) = true) : ¬ p := by
  intro q
  rw [decide_eq_true q] at h
  exact absurd h (by decide)
theorem cpF_b (c : Nat → Int32) (s : Nat) : ∀ j b, (cpF c s j).testBit b = (decide (b < j) && !decide (c (s + b) = 45)) := by
  intro j
  induction j with
  | zero => intro b; rw [cpF_0, Nat.zero_testBit, decide_eq_false (by omega)]; rfl
  | succ j ih =>
    intro b
    rw [cpF_s]
    by_cases w : c (s + j) = 45
    · rw [if_pos w, ih]
      by_cases e : b = j
      · subst e
        rw [decide_eq_false (Nat.lt_irrefl b), decide_eq_true w]
        simp
      · rw [lt_s1 e]
    · rw [if_neg w, Nat.testBit_or, ih, Nat.testBit_two_pow]
      by_cases e : b = j
      · subst e
        rw [decide_eq_false (Nat.lt_irrefl b), decide_eq_false w, decide_eq_true rfl, decide_eq_true (Nat.lt_succ_self b)]
        rfl
      · rw [decide_eq_false (show ¬ j = b by omega), Bool.or_false, lt_s1 e]
theorem vpF_b (c : Nat → Int32) (s : Nat) : ∀ j b, (vpF c s j).testBit b = (decide (b < j) && decide (c (s + b) = 49)) := by
  intro j
  induction j with
  | zero => intro b; rw [vpF_0, Nat.zero_testBit, decide_eq_false (by omega)]; rfl
  | succ j ih =>
    intro b
    rw [vpF_s]
    by_cases w : c (s + j) = 49
    · rw [if_pos w, Nat.testBit_or, ih, Nat.testBit_two_pow]
      by_cases e : b = j
      · subst e
        rw [decide_eq_false (Nat.lt_irrefl b), decide_eq_true w, decide_eq_true rfl, decide_eq_true (Nat.lt_succ_self b)]
        rfl
      · rw [decide_eq_false (show ¬ j = b by omega), Bool.or_false, lt_s1 e]
    · rw [if_neg w, ih]
      by_cases e : b = j
      · subst e
        rw [decide_eq_false (Nat.lt_irrefl b), decide_eq_false w]
        simp
      · rw [lt_s1 e]
theorem cpF_lt (c : Nat → Int32) (s j : Nat) : cpF c s j < 2 ^ j := by
  refine Nat.lt_pow_two_of_testBit _ (fun b hb => ?_)
  rw [cpF_b, decide_eq_false (by omega)]
  rfl
theorem vp_sub (c : Nat → Int32) (s j : Nat) : vpF c s j &&& cpF c s j = vpF c s j := by
  rw [sb_iff]
  intro b hb
  rw [vpF_b, Bool.and_eq_true] at hb
  rw [cpF_b, hb.1, of_decide_eq_true hb.2]
  decide
theorem uq {m a b q r : Nat} (hb : b < m) (hr : r < m) (h : m * a + b = m * q + r) : a = q ∧ b = r := by
  have e1 : (m * a + b) / m = a := by rw [Nat.mul_add_div (by omega), Nat.div_eq_of_lt hb, Nat.add_zero]
  have e2 : (m * q + r) / m = q := by rw [Nat.mul_add_div (by omega), Nat.div_eq_of_lt hr, Nat.add_zero]
  have e3 : a = q := by rw [← e1, ← e2, h]
  subst e3
  exact ⟨rfl, by omega⟩
def dgt (x : Int32) : Nat := (x - 48).toNatClampNeg
theorem dgt_e {x : Int32} {hi : Nat} (hh : hi < 100) (h1 : ¬ x < 48) (h2 : ¬ nI (48 + hi) < x) : x - 48 = nI (dgt x) ∧ dgt x ≤ hi := by
  rcases rg3 (lo := 48) (hi := 48 + hi) (by omega) (by omega) x with h | ⟨_, h⟩ | ⟨v, v1, v2, rfl⟩
  · exact absurd h h1
  · exact absurd h h2
  · have e : nI v - 48 = nI (v - 48) := pk_sub (b := 48) v1
    unfold dgt
    rw [e, nI_clamp (by omega)]
    exact ⟨rfl, by omega⟩
def po (c : Nat → Int32) (n q : Nat) : Nat := dgt (c ((n + 5) * q + n + 1))
def pv (c : Nat → Int32) (n q : Nat) : Nat := dgt (c ((n + 5) * q + n + 3))
def pP (c : Nat → Int32) (n q : Nat) : Int64 := rwS n (64 * cpF c ((n + 5) * q) n + vpF c ((n + 5) * q) n)
theorem po_e {c : Nat → Int32} {n q L : Nat} (hr : rgt c n L) (h : (n + 5) * q + n + 1 < L) : c ((n + 5) * q + n + 1) - 48 = nI (po c n q) ∧ po c n q < 4 := by
  obtain ⟨g1, g2⟩ := rgt_p ((n + 5) * q + n + 1) (fun j hj => hr j (by omega))
  obtain ⟨u1, u2⟩ := uq (m := n + 5) (by omega) (show n + 1 < n + 5 by omega) (g2.trans (Nat.add_assoc _ n 1))
  have h3 := hr _ h
  rw [u2, fit_1, Bool.and_eq_true] at h3
  have := dgt_e (x := c ((n + 5) * q + n + 1)) (hi := 3) (by decide) (nb_t h3.1) (nb_t h3.2)
  exact ⟨this.1, by unfold po; omega⟩
theorem pv_e {c : Nat → Int32} {n q L : Nat} (hr : rgt c n L) (h : (n + 5) * q + n + 3 < L) : c ((n + 5) * q + n + 3) - 48 = nI (pv c n q) ∧ pv c n q ≤ 2 := by
  obtain ⟨g1, g2⟩ := rgt_p ((n + 5) * q + n + 3) (fun j hj => hr j (by omega))
  obtain ⟨u1, u2⟩ := uq (m := n + 5) (by omega) (show n + 3 < n + 5 by omega) (g2.trans (Nat.add_assoc _ n 3))
  have h3 := hr _ h
  rw [u2, fit_3, Bool.and_eq_true] at h3
  have := dgt_e (x := c ((n + 5) * q + n + 3)) (hi := 2) (by decide) (nb_t h3.1) (nb_t h3.2)
  exact ⟨this.1, by unfold pv; omega⟩
def gvz (v k : Nat) (X P : Int64) : Int64 := if v = k then X ||| P else X &&& (P ^^^ (-1))
def GPz (c : Nat → Int32) (n : Nat) (Z : Nat → Int64) : Nat → Nat → Int64
  | 0 => Z
  | q + 1 => vp_updL (GPz c n Z q) (po c n q) (gvz (pv c n q) 0 (GPz c n Z q (po c n q)) (pP c n q))
def GPo (c : Nat → Int32) (n : Nat) (O : Nat → Int64) : Nat → Nat → Int64
  | 0 => O
  | q + 1 => vp_updL (GPo c n O q) (po c n q) (gvz (pv c n q) 1 (GPo c n O q (po c n q)) (pP c n q))
theorem GPz_s (c : Nat → Int32) (n : Nat) (Z : Nat → Int64) (q : Nat) : GPz c n Z (q + 1) = vp_updL (GPz c n Z q) (po c n q) (gvz (pv c n q) 0 (GPz c n Z q (po c n q)) (pP c n q)) := rfl
theorem GPo_s (c : Nat → Int32) (n : Nat) (O : Nat → Int64) (q : Nat) : GPo c n O (q + 1) = vp_updL (GPo c n O q) (po c n q) (gvz (pv c n q) 1 (GPo c n O q (po c n q)) (pP c n q)) := rfl
def cuS (c : Nat → Int32) (n i : Nat) : Nat := if plc c i ≤ n + 3 then cpF c ((n + 5) * rdc c i) (min (plc c i) n) else 0
def vuS (c : Nat → Int32) (n i : Nat) : Nat := if plc c i ≤ n + 3 then vpF c ((n + 5) * rdc c i) (min (plc c i) n) else 0
def gpN (c : Nat → Int32) (n i : Nat) : Nat := if plc c i = n + 4 then rdc c i + 1 else rdc c i
theorem in3_c {x : Int32} (h : in3 x = true) (h45 : ¬ x = 45) {p : Nat} (hp : p < 31) : (x - 48) <<< (nI p &&& 31) = if x = 49 then nI (2 ^ p) else 0 := by
  unfold in3 at h
  rw [decide_eq_false h45, Bool.or_false, Bool.or_eq_true] at h
  rcases h with h | h
  · rw [of_decide_eq_true h, if_neg (by decide), show (48 : Int32) - 48 = nI 0 by decide]
    exact (by decide +kernel : ∀ p, p < 31 → nI 0 <<< (nI p &&& 31) = 0) p hp
  · rw [of_decide_eq_true h, if_pos rfl, show (49 : Int32) - 48 = 1 by decide, al_sh p hp]
theorem gt_step {n : Nat} (h1 : 1 ≤ n) (hn : n ≤ 6) {c : Nat → Int32} {L : Nat} (hL : L ≤ 60) (hr : rgt c n L) (Z O : Nat → Int64) : ∀ d i, i + d = L → ∀ fuel, d < fuel → ∀ out : Int32, (n + 1 < plc c i → out = c ((n + 5) * rdc c i + n + 1) - 48) → fX4_giveTo_L19 (nI n) c (nI L) fuel (nI (plc c i)) (nI (cuS c n i)) (nI (vuS c n i)) out (nI i) (GPz c n Z (gpN c n i)) (GPo c n O (gpN c n i)) = some (GPz c n Z (gpN c n L), GPo c n O (gpN c n L)) := by
  intro d
  induction d with
  | zero =>
    intro i hi fuel hf out hout
    obtain ⟨f, rfl⟩ : ∃ f, fuel = f + 1 := ⟨fuel - 1, by omega⟩
    have e : i = L := by omega
    subst e
    rw [fX4_giveTo_L19, if_pos (nI_le (Nat.le_refl _) (by omega))]
  | succ d ih =>
    intro i hi fuel hf out hout
    obtain ⟨f, rfl⟩ : ∃ f, fuel = f + 1 := ⟨fuel - 1, by omega⟩
    have hiL : i < L := by omega
    obtain ⟨g1, g2⟩ := rgt_p i (fun j hj => hr j (by omega))
    have hfit := hr i hiL
    have nx : c i ≠ 44 → rdc c (i + 1) = rdc c i ∧ plc c (i + 1) = plc c i + 1 := fun e => ⟨if_neg e, if_neg e⟩
    have hn1 : nI n + 1 = nI (n + 1) := nI_1 n
    have hn3 : nI n + 3 = nI (n + 3) := nI_add n 3
    have J131 : ∀ (c4 c5 : Nat) (x6 : Int32) (a b : Nat → Int64), c i ≠ 44 → c4 = cuS c n (i + 1) → c5 = vuS c n (i + 1) → (n + 1 < plc c (i + 1) → x6 = c ((n + 5) * rdc c (i + 1) + n + 1) - 48) → a = GPz c n Z (gpN c n (i + 1)) → b = GPo c n O (gpN c n (i + 1)) → fX4_giveTo_J131 (nI n) (nI (plc c i)) (nI c4) (nI c5) x6 (nI i) (c i) c (nI L) a b (fX4_giveTo_L19 (nI n) c (nI L) f) = some (GPz c n Z (gpN c n L), GPo c n O (gpN c n L)) := by
      intro c4 c5 x6 a b h44 e4 e5 e6 ea eb
      subst e4 e5 ea eb
      unfold fX4_giveTo_J131 fX4_giveTo_J145
      rw [if_neg h44, nI_1, nI_1, ← (nx h44).2]
      exact ih (i + 1) (by omega) f (by omega) x6 e6
    rw [fX4_giveTo_L19, if_neg (nI_ge hiL (by omega)), if_neg (n60 (by omega)), gd_in (show i < 60 by omega) (by decide), nI_clamp (by omega)]
    rcases (show plc c i < n ∨ plc c i = n ∨ plc c i = n + 1 ∨ plc c i = n + 2 ∨ plc c i = n + 3 ∨ plc c i = n + 4 by omega) with hc | hc | hc | hc | hc | hc
    · -- an input
      rw [fit_i _ hc] at hfit
      have h44 : c i ≠ 44 := by
        intro w
        rw [w] at hfit
        exact absurd hfit (by decide)
      obtain ⟨e1, e2⟩ := nx h44
      have hcu : cuS c n i = cpF c ((n + 5) * rdc c i) (plc c i) := by
        unfold cuS
        rw [if_pos (by omega), show min (plc c i) n = plc c i by omega]
      have hvu : vuS c n i = vpF c ((n + 5) * rdc c i) (plc c i) := by
        unfold vuS
        rw [if_pos (by omega), show min (plc c i) n = plc c i by omega]
      have hcu2 : cuS c n (i + 1) = cpF c ((n + 5) * rdc c i) (plc c i + 1) := by
        unfold cuS
        rw [e1, e2, if_pos (by omega), show min (plc c i + 1) n = plc c i + 1 by omega]
      have hvu2 : vuS c n (i + 1) = vpF c ((n + 5) * rdc c i) (plc c i + 1) := by
        unfold vuS
        rw [e1, e2, if_pos (by omega), show min (plc c i + 1) n = plc c i + 1 by omega]
      have hgp : gpN c n (i + 1) = gpN c n i := by
        unfold gpN
        rw [e1, e2, if_neg (by omega), if_neg (by omega)]
      rw [cpF_s, g2, ← hcu] at hcu2
      rw [vpF_s, g2, ← hvu] at hvu2
      rw [if_neg (nI_ge hc (by omega))]
      by_cases w : c i = 45
      · rw [if_pos w]
        rw [if_pos w] at hcu2
        rw [if_neg (by rw [w]; decide)] at hvu2
        unfold fX4_giveTo_J82
        rw [hn1, hn3, if_neg (fun w => by have := (nI_eq (by omega) (by omega)).mp w; omega), if_neg (fun w => by have := (nI_eq (by omega) (by omega)).mp w; omega)]
        exact J131 _ _ out _ _ h44 hcu2.symm hvu2.symm (fun w => by omega) (by rw [hgp]) (by rw [hgp])
      · rw [if_neg w]
        rw [if_neg w] at hcu2
        rw [in3_c hfit w (by omega), al_sh _ (by omega), nI_orr]
        by_cases w2 : c i = 49
        · rw [if_pos w2] at hvu2 ⊢
          rw [nI_orr]
          exact J131 _ _ out _ _ h44 hcu2.symm hvu2.symm (fun w => by omega) (by rw [hgp]) (by rw [hgp])
        · rw [if_neg w2] at hvu2 ⊢
          rw [← nI_0, nI_orr, Nat.or_zero]
          exact J131 _ _ out _ _ h44 hcu2.symm hvu2.symm (fun w => by omega) (by rw [hgp]) (by rw [hgp])
    · -- the sign =
      have h44 : c i ≠ 44 := by
        intro w
        rw [w] at hfit
        have := fit44 hfit
        omega
      obtain ⟨e1, e2⟩ := nx h44
      rw [if_pos (nI_le (by omega) (by omega))]
      unfold fX4_giveTo_J82
      rw [hn1, hn3, if_neg (fun w => by have := (nI_eq (by omega) (by omega)).mp w; omega), if_neg (fun w => by have := (nI_eq (by omega) (by omega)).mp w; omega)]
      refine J131 _ _ out _ _ h44 ?_ ?_ (fun w => by omega) ?_ ?_
      · unfold cuS
        rw [e1, e2, if_pos (by omega), if_pos (by omega), show min (plc c i + 1) n = min (plc c i) n by omega]
      · unfold vuS
        rw [e1, e2, if_pos (by omega), if_pos (by omega), show min (plc c i + 1) n = min (plc c i) n by omega]
      · unfold gpN
        rw [e1, e2, if_neg (by omega), if_neg (by omega)]
      · unfold gpN
        rw [e1, e2, if_neg (by omega), if_neg (by omega)]
    · -- the output
      have h44 : c i ≠ 44 := by
        intro w
        rw [w] at hfit
        have := fit44 hfit
        omega
      obtain ⟨e1, e2⟩ := nx h44
      rw [if_pos (nI_le (by omega) (by omega))]
      unfold fX4_giveTo_J82
      rw [hn1, hn3, if_pos (by rw [hc])]
      refine J131 _ _ (c i - 48) _ _ h44 ?_ ?_ (fun w => ?_) ?_ ?_
      · unfold cuS
        rw [e1, e2, if_pos (by omega), if_pos (by omega), show min (plc c i + 1) n = min (plc c i) n by omega]
      · unfold vuS
        rw [e1, e2, if_pos (by omega), if_pos (by omega), show min (plc c i + 1) n = min (plc c i) n by omega]
      · rw [e1]
        congr 2
        omega
      · unfold gpN
        rw [e1, e2, if_neg (by omega), if_neg (by omega)]
      · unfold gpN
        rw [e1, e2, if_neg (by omega), if_neg (by omega)]
    · -- the colon
      have h44 : c i ≠ 44 := by
        intro w
        rw [w] at hfit
        have := fit44 hfit
        omega
      obtain ⟨e1, e2⟩ := nx h44
      rw [if_pos (nI_le (by omega) (by omega))]
      unfold fX4_giveTo_J82
      rw [hn1, hn3, if_neg (fun w => by have := (nI_eq (by omega) (by omega)).mp w; omega), if_neg (fun w => by have := (nI_eq (by omega) (by omega)).mp w; omega)]
      refine J131 _ _ out _ _ h44 ?_ ?_ (fun w => ?_) ?_ ?_
      · unfold cuS
        rw [e1, e2, if_pos (by omega), if_pos (by omega), show min (plc c i + 1) n = min (plc c i) n by omega]
      · unfold vuS
        rw [e1, e2, if_pos (by omega), if_pos (by omega), show min (plc c i + 1) n = min (plc c i) n by omega]
      · rw [e1]
        exact hout (by omega)
      · unfold gpN
        rw [e1, e2, if_neg (by omega), if_neg (by omega)]
      · unfold gpN
        rw [e1, e2, if_neg (by omega), if_neg (by omega)]
    · -- the truth
      have h44 : c i ≠ 44 := by
        intro w
        rw [w] at hfit
        have := fit44 hfit
        omega
      obtain ⟨e1, e2⟩ := nx h44
      have hcu : cuS c n i = cpF c ((n + 5) * rdc c i) n := by
        unfold cuS
        rw [if_pos (by omega), show min (plc c i) n = n by omega]
      have hvu : vuS c n i = vpF c ((n + 5) * rdc c i) n := by
        unfold vuS
        rw [if_pos (by omega), show min (plc c i) n = n by omega]
      obtain ⟨o1, o2⟩ := po_e (q := rdc c i) hr (by omega)
      obtain ⟨v1, v2⟩ := pv_e (q := rdc c i) hr (by omega)
      have hix : (n + 5) * rdc c i + n + 3 = i := by omega
      rw [hix] at v1
      have hgp : gpN c n i = rdc c i := by
        unfold gpN
        rw [if_neg (by omega)]
      have hgp2 : gpN c n (i + 1) = rdc c i + 1 := by
        unfold gpN
        rw [e1, e2, if_pos (by omega)]
      rw [if_pos (nI_le (by omega) (by omega))]
      unfold fX4_giveTo_J82
      rw [hn1, hn3, if_neg (fun w => by have := (nI_eq (by omega) (by omega)).mp w; omega), if_pos (by rw [hc]), hcu, hvu, ipr_cls hn (cpF_lt c _ n) (vp_sub c _ n), Option.bind_some, hout (by omega), o1, v1, gv_cls _ _ o2 _ v2, Option.bind_some, ← nI_0]
      refine J131 0 0 (nI (po c n (rdc c i))) _ _ h44 ?_ ?_ (fun w => ?_) ?_ ?_
      · unfold cuS
        rw [e2, if_neg (by omega)]
      · unfold vuS
        rw [e2, if_neg (by omega)]
      · rw [e1]
        exact o1.symm
      · rw [hgp2, hgp, GPz_s]
        rfl
      · rw [hgp2, hgp, GPo_s]
        rfl
    · -- the comma
      rw [hc] at hfit
      have h44 := fitn4 hfit
      have e1 : rdc c (i + 1) = rdc c i + 1 := if_pos h44
      have e2 : plc c (i + 1) = 0 := if_pos h44
      have hcu : cuS c n i = 0 := by
        unfold cuS
        rw [if_neg (by omega)]
      have hvu : vuS c n i = 0 := by
        unfold vuS
        rw [if_neg (by omega)]
      have hcu2 : cuS c n (i + 1) = 0 := by
        unfold cuS
        rw [e2, if_pos (Nat.zero_le _), Nat.zero_min]
        rfl
      have hvu2 : vuS c n (i + 1) = 0 := by
        unfold vuS
        rw [e2, if_pos (Nat.zero_le _), Nat.zero_min]
        rfl
      have hgp : gpN c n (i + 1) = gpN c n i := by
        unfold gpN
        rw [e1, e2, if_neg (by omega), if_pos hc]
      rw [if_pos (nI_le (by omega) (by omega))]
      unfold fX4_giveTo_J82 fX4_giveTo_J131 fX4_giveTo_J145
      rw [hn1, hn3, if_neg (fun w => by have := (nI_eq (by omega) (by omega)).mp w; omega), if_neg (fun w => by have := (nI_eq (by omega) (by omega)).mp w; omega), if_pos h44, nI_1]
      have h := ih (i + 1) (by omega) f (by omega) out (fun w => by omega)
      rw [e2, hcu2, hvu2, hgp] at h
      rw [hcu, hvu]
      exact h
