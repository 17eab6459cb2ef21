/-! what would be if an input were forgotten -/
theorem gd3 {α : Type} (k : Option α) : gd (3 : Int32) 268 k = k := if_neg (by decide)
theorem gd2 {α : Type} (k : Option α) : gd (2 : Int32) 268 k = k := if_neg (by decide)
def ftV (n K : Nat) (Z O : Nat → Int64) (i w : Nat) : Int32 := if K.testBit i = true then (if w = 0 then nI (up (fg n (ms K (2 ^ i))) Z O) else nI (PTS n (ms K (2 ^ i)) Z O 0)) else -1
theorem ft_cls {n K : Nat} {Z O : Nat → Int64} (hk : OKs n K Z O) (bad : Nat → Int64) (co : Nat → Int32) (ro : Nat → Int64) (si wi wu wp ws wc : Int32) (wz wo wn wa : Nat → Int64) (wq wk wd : Nat → Int32) {i w : Nat} (hi : i < n) (hw : w < 2) : ∃ bad' co' ro' si' wi' wu' wp' ws' wc' wz' wo' wn' wa' wq' wk' wd', fX6_forgottenNumber (nI n) (nI K) Z O bad co ro si wi wu wp ws wc wz wo wn wa wq wk wd (nI i) (nI w) = some (ftV n K Z O i w, bad', co', ro', si', wi', wu', wp', ws', wc', wz', wo', wn', wa', wq', wk', wd') := by
  have hn := hk.2.1
  have h64 := p64 hn
  have hK64 : K < 64 := Nat.lt_of_lt_of_le hk.2.2.1 h64
  have hms := ms_p2 hn hk.2.2.1 (2 ^ i)
  have hms64 := ms_lt hK64 (2 ^ i)
  unfold fX6_forgottenNumber ftV
  rw [ik_cls hK64 (by omega), Option.bind_some, al_sh i (by omega), kb_1 K hK64 i (by omega)]
  cases q : K.testBit i
  · rw [if_pos (show bI false = 0 from rfl), if_neg (by decide)]
    exact ⟨_, _, _, _, _, _, _, _, _, _, _, _, _, _, _, _, rfl⟩
  · rw [if_neg (show ¬ bI true = 0 by decide), if_pos rfl]
    rcases (show w = 0 ∨ w = 1 by omega) with rfl | rfl
    · rw [if_pos nI_0, if_pos rfl, is_eq n hn, Option.bind_some, fg_m n hn _ hms64, un_cls Z O (fg_lt n _), Option.bind_some]
      exact ⟨_, _, _, _, _, _, _, _, _, _, _, _, _, _, _, _, rfl⟩
    · obtain ⟨vi, vu, vp, vs, vc, vz, vo, vn, va, vq, vk, vd, b, c, r, s, e, hv⟩ := lk_cls (OKs_k hk hms) wz wo wn wa wq wk wd bad co ro si
      rw [if_neg (by decide), if_neg (by decide), e, Option.bind_some]
      have h1 : vp = nI (PTS n (ms K (2 ^ i)) Z O 0) := hv.2.2.1
      subst h1
      exact ⟨_, _, _, _, _, _, _, _, _, _, _, _, _, _, _, _, rfl⟩
theorem ft_ref {n K : Nat} {Z O : Nat → Int64} {z : Nat → Int32} (h : TZ n K Z O z) (hk : OKs n K Z O) (god : Nat → Int64) (prm : Nat → Int32) (npr : Int32) (cov siz : Nat → Int32) {i w : Nat} (hi : i < n) (hw : w < 2) : ∃ g p q c s, fX7_forgottenThen z god prm npr cov siz (nI i) (nI w) = some (ftV n K Z O i w, z, g, p, q, c, s) := by
  have hn := hk.2.1
  have h64 := p64 hn
  have hK64 : K < 64 := Nat.lt_of_lt_of_le hk.2.2.1 h64
  have hms := ms_p2 hn hk.2.2.1 (2 ^ i)
  unfold fX7_forgottenThen ftV
  rw [ik_ref h hK64 (by omega), Option.bind_some]
  cases q : K.testBit i
  · rw [if_pos (show bI false = 0 from rfl), if_neg (by decide)]
    exact ⟨_, _, _, _, _, rfl⟩
  · rw [if_neg (show ¬ bI true = 0 by decide), if_pos rfl]
    rcases (show w = 0 ∨ w = 1 by omega) with rfl | rfl
    · rw [if_pos nI_0, if_pos rfl, uw_ref h hk hi q, Option.bind_some]
      exact ⟨_, _, _, _, _, rfl⟩
    · have hk' := OKs_k hk hms
      have h' := TZ_k h (ms K (2 ^ i))
      obtain ⟨g, p, q2, c, s, e, hc⟩ := la_ref h' hk' god prm npr cov siz
      have e2 : fX7_partsOf (upd z 1 (nI (ms K (2 ^ i)))) c s 0 = some (nI (PTS n (ms K (2 ^ i)) Z O 0)) := po_ref h' hk' hc (wt := 0) (by decide)
      rw [if_neg (by decide), if_neg (by decide), gdo, gdo, c1_, lt_e, h.2.1, al_sh i (by omega), kb_1 K hK64 i (by omega), e, Option.bind_some, e2, Option.bind_some, gdo, gdo, lt_e, pk_us, kb_2 K hK64 i (by omega) q, upd_k z _ _ 1 h.2.1]
      exact ⟨_, _, _, _, _, rfl⟩
/-! the input that is missed least -/
def lmS (n K : Nat) (Z O : Nat → Int64) (p : Nat × Nat) (i : Nat) : Nat × Nat := if p.1 = 0 then (i + 1, up (fg n (ms K (2 ^ i))) Z O) else if up (fg n (ms K (2 ^ i))) Z O < p.2 then (i + 1, up (fg n (ms K (2 ^ i))) Z O) else p
def lmF (n K : Nat) (Z O : Nat → Int64) : Nat → Nat × Nat
  | 0 => (0, 0)
  | i + 1 => if K.testBit i = true then lmS n K Z O (lmF n K Z O i) i else lmF n K Z O i
def lmV (n K : Nat) (Z O : Nat → Int64) : Nat := (lmF n K Z O n).1 - 1
theorem lm_ok (n K : Nat) (Z O : Nat → Int64) : ∀ i, (lmF n K Z O i).2 ≤ 256 ∧ ((lmF n K Z O i).1 = 0 ∧ (∀ j, j < i → K.testBit j = false) ∨ ∃ b, (lmF n K Z O i).1 = b + 1 ∧ b < i ∧ K.testBit b = true) := by
  intro i
  induction i with
  | zero => exact ⟨Nat.zero_le _, Or.inl ⟨rfl, fun j h => absurd h (by omega)⟩⟩
  | succ i ih =>
    have hs : lmF n K Z O (i + 1) = if K.testBit i = true then lmS n K Z O (lmF n K Z O i) i else lmF n K Z O i := rfl
    rw [hs]
    have hu := up_le (fg n (ms K (2 ^ i))) Z O
    obtain ⟨h1, h2⟩ := ih
    by_cases q : K.testBit i = true
    · rw [if_pos q]
      have hold : (lmF n K Z O i).1 ≠ 0 → ∃ b, (lmF n K Z O i).1 = b + 1 ∧ b < i + 1 ∧ K.testBit b = true := by
        intro hne
        rcases h2 with ⟨z, _⟩ | ⟨b, b1, b2, b3⟩
        · exact absurd z hne
        · exact ⟨b, b1, by omega, b3⟩
      unfold lmS
      split
      · exact ⟨hu, Or.inr ⟨i, rfl, Nat.lt_succ_self i, q⟩⟩
      · rename_i hne
        split
        · exact ⟨hu, Or.inr ⟨i, rfl, Nat.lt_succ_self i, q⟩⟩
        · exact ⟨h1, Or.inr (hold hne)⟩
    · rw [if_neg q]
      refine ⟨h1, ?_⟩
      rcases h2 with ⟨z, z2⟩ | ⟨b, b1, b2, b3⟩
      · refine Or.inl ⟨z, fun j hj => ?_⟩
        by_cases e : j = i
        · subst e; simpa using q
        · exact z2 j (by omega)
      · exact Or.inr ⟨b, b1, by omega, b3⟩
theorem lm_pos {n K : Nat} (hK : K < 2 ^ n) (h0 : K ≠ 0) (Z O : Nat → Int64) : (lmF n K Z O n).1 = lmV n K Z O + 1 ∧ lmV n K Z O < n ∧ K.testBit (lmV n K Z O) = true := by
  rcases (lm_ok n K Z O n).2 with ⟨_, h2⟩ | ⟨b, b1, b2, b3⟩
  · refine absurd ?_ h0
    apply Nat.eq_of_testBit_eq
    intro j
    rw [Nat.zero_testBit]
    rcases Nat.lt_or_ge j n with z | z
    · exact h2 j z
    · exact Nat.testBit_lt_two_pow (Nat.lt_of_lt_of_le hK (Nat.pow_le_pow_right (by decide) z))
  · have e : lmV n K Z O = b := by unfold lmV; omega
    rw [e]
    exact ⟨b1, b2, b3⟩
theorem lm_cls {n K : Nat} {Z O : Nat → Int64} (hk : OKs n K Z O) (h0 : K ≠ 0) : fX3_leastMissed (nI n) (nI K) Z O = some (nI (lmV n K Z O)) := by
  have hn := hk.2.1
  have h64 := p64 hn
  have hK64 : K < 64 := Nat.lt_of_lt_of_le hk.2.2.1 h64
  obtain ⟨m, s, e, hI⟩ := loop0 (fun k i (s : Int32 × Int32) => fX3_leastMissed_L6 (nI n) (nI K) Z O k s.1 s.2 i) (fun i s => s = (nI (lmF n K Z O i).1 - 1, nI (lmF n K Z O i).2)) n (s := ((-1 : Int32), (0 : Int32))) (by omega) rfl (by
    intro m i s hi hI
    subst hI
    refine ⟨_, ?_, rfl⟩
    show fX3_leastMissed_L6 (nI n) (nI K) Z O (m + 1) (nI (lmF n K Z O i).1 - 1) (nI (lmF n K Z O i).2) (nI i) = fX3_leastMissed_L6 (nI n) (nI K) Z O m (nI (if K.testBit i = true then lmS n K Z O (lmF n K Z O i) i else lmF n K Z O i).1 - 1) (nI (if K.testBit i = true then lmS n K Z O (lmF n K Z O i) i else lmF n K Z O i).2) (nI (i + 1))
    obtain ⟨l1, l2⟩ := lm_ok n K Z O i
    have hu := up_le (fg n (ms K (2 ^ i))) Z O
    have hfo : fX3_forgotten (nI n) (nI K) = some (nI (fg n K)) := by
      unfold fX3_forgotten
      rw [is_eq n hn, Option.bind_some, fg_m n hn K hK64]
    rw [fX3_leastMissed_L6, if_neg (nI_ge hi (by omega)), ik_cls hK64 (by omega), Option.bind_some, hfo, Option.bind_some, al_sh i (by omega), nI_orr, kb_3 n hn K hK64 i hi, un_cls Z O (fg_lt n _), Option.bind_some]
    unfold fX3_leastMissed_J47 fX3_leastMissed_J52
    rw [nI_1]
    cases q : K.testBit i
    · rw [if_pos (show bI false = 0 from rfl), if_neg (by decide)]
    · rw [if_neg (show ¬ bI true = 0 by decide), if_pos rfl]
      unfold lmS
      rcases l2 with ⟨h1, _⟩ | ⟨b, b1, b2, b3⟩
      · rw [h1, if_pos (by decide), if_pos rfl, nI_pred]
      · have e1 : nI (lmF n K Z O i).1 - 1 = nI b := by rw [b1, nI_pred]
        rw [e1, if_neg (m1_ne (show b < 2 ^ 31 by omega)), if_neg (show ¬ (lmF n K Z O i).1 = 0 by omega)]
        by_cases q2 : up (fg n (ms K (2 ^ i))) Z O < (lmF n K Z O i).2
        · rw [if_neg (nI_ge q2 (by omega)), if_pos q2, nI_pred]
        · rw [if_pos (nI_le (by omega) (by omega)), if_neg q2, e1])
  unfold fX3_leastMissed
  refine Eq.trans e ?_
  show fX3_leastMissed_L6 (nI n) (nI K) Z O (m + 1) s.1 s.2 (nI n) = _
  rw [fX3_leastMissed_L6, if_pos (nI_le (Nat.le_refl _) (by omega)), hI]
  obtain ⟨p1, p2, p3⟩ := lm_pos hk.2.2.1 h0 Z O
  unfold fX3_leastMissed_J58
  rw [p1, nI_pred, if_neg (m1_ne (by omega))]
theorem hr_ref {n K : Nat} {Z O : Nat → Int64} {z : Nat → Int32} (h : TZ n K Z O z) (hk : OKs n K Z O) (h0 : K ≠ 0) : fX7_hour z = some (upd (upd z 1 (nI (ms K (2 ^ lmV n K Z O)))) 3 (z 3 + 1)) := by
  have hn := hk.2.1
  have h64 := p64 hn
  have hK64 : K < 64 := Nat.lt_of_lt_of_le hk.2.2.1 h64
  obtain ⟨m, s, e, hI⟩ := loop0 (fun k i (s : Int32 × Int32 × (Nat → Int32)) => fX7_hour_L6 k s.1 s.2.1 i s.2.2) (fun i s => s = (nI (lmF n K Z O i).1 - 1, nI (lmF n K Z O i).2, z)) n (s := ((-1 : Int32), (0 : Int32), z)) (by omega) rfl (by
    intro m i s hi hI
    subst hI
    refine ⟨_, ?_, rfl⟩
    show fX7_hour_L6 (m + 1) (nI (lmF n K Z O i).1 - 1) (nI (lmF n K Z O i).2) (nI i) z = fX7_hour_L6 m (nI (if K.testBit i = true then lmS n K Z O (lmF n K Z O i) i else lmF n K Z O i).1 - 1) (nI (if K.testBit i = true then lmS n K Z O (lmF n K Z O i) i else lmF n K Z O i).2) (nI (i + 1)) z
    obtain ⟨l1, l2⟩ := lm_ok n K Z O i
    have hu := up_le (fg n (ms K (2 ^ i))) Z O
    rw [fX7_hour_L6, gdz, c0_, h.1, if_neg (nI_ge hi (by omega)), ik_ref h hK64 (by omega), Option.bind_some]
    unfold fX7_hour_J42 fX7_hour_J47 fX7_hour_J59 fX7_hour_J71 fX7_hour_J72
    rw [nI_1]
    cases q : K.testBit i
    · rw [if_pos (show bI false = 0 from rfl), if_neg (by decide)]
    · rw [if_neg (show ¬ bI true = 0 by decide), if_pos rfl, uw_ref h hk hi q, Option.bind_some, if_neg (show ¬ (1 : Int32) = 0 by decide), if_neg (show ¬ (1 : Int32) = 0 by decide), if_pos (show (0 : Int32) = 0 from rfl), if_pos (show (0 : Int32) = 0 from rfl)]
      unfold lmS
      rcases l2 with ⟨h1, _⟩ | ⟨b, b1, b2, b3⟩
      · rw [h1, if_pos (by decide), if_pos rfl, nI_pred]
      · have e1 : nI (lmF n K Z O i).1 - 1 = nI b := by rw [b1, nI_pred]
        rw [e1, if_neg (m1_ne (show b < 2 ^ 31 by omega)), if_neg (show ¬ (lmF n K Z O i).1 = 0 by omega)]
        by_cases q2 : up (fg n (ms K (2 ^ i))) Z O < (lmF n K Z O i).2
        · rw [if_neg (nI_ge q2 (by omega)), if_pos q2, nI_pred]
        · rw [if_pos (nI_le (by omega) (by omega)), if_neg q2, e1])
  unfold fX7_hour
  refine Eq.trans e ?_
  show fX7_hour_L6 (m + 1) s.1 s.2.1 (nI n) s.2.2 = _
  obtain ⟨p1, p2, p3⟩ := lm_pos hk.2.2.1 h0 Z O
  rw [hI, fX7_hour_L6, gdz, c0_]
  show (if z 0 ≤ nI n then fX7_hour_J78 (nI (lmF n K Z O n).1 - 1) z else _) = _
  rw [h.1, if_pos (nI_le (Nat.le_refl _) (by omega)), p1, nI_pred]
  unfold fX7_hour_J78
  rw [gdo, gdo, c1_, lt_e, h.2.1, al_sh _ (by omega), kb_1 K hK64 _ (by omega), show ((3 : Int32)).toNatClampNeg = 3 from rfl, gd3, gd3, lt_e, pk_un (show (3 : Nat) ≠ 1 by decide)]
