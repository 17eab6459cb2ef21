/-! mathematics of the class -/
def ocN (k : Nat) : Nat := sumN 6 (fun i => (k.testBit i).toNat)
theorem oc_eq : ∀ k, k < 64 → fJ6_bitCount_0f7a4 (nI k) = some (nI (ocN k)) := by decide +kernel
theorem oc_le : ∀ k, k < 64 → ocN k ≤ 6 := by decide +kernel
def mny (n K : Nat) (w x : Int64) (c : Nat) : Nat := if prB K w c = true then pc (rwS n c &&& x) else 0
def btr (p : Nat × Nat) (q m : Nat) : Prop := p.2 < q ∨ (q = p.2 ∧ 0 < q ∧ ocN (m / 64) < ocN ((p.1 - 1) / 64))
def bsS (p : Nat × Nat) (q m : Nat) : Nat × Nat := if p.2 < q then (m + 1, q) else if q = p.2 then (if q = 0 then p else if ocN (m / 64) < ocN ((p.1 - 1) / 64) then (m + 1, q) else p) else p
def bsB (n K : Nat) (w x : Int64) : Nat → Nat × Nat
  | 0 => (0, 0)
  | m + 1 => bsS (bsB n K w x m) (mny n K w x m) m
theorem bs_ok (n K : Nat) (w x : Int64) : ∀ m, ((bsB n K w x m).1 = 0 ∧ (bsB n K w x m).2 = 0) ∨ ∃ c, c < m ∧ (bsB n K w x m).1 = c + 1 ∧ prB K w c = true ∧ (bsB n K w x m).2 = pc (rwS n c &&& x) ∧ 0 < (bsB n K w x m).2 := by
  intro m
  induction m with
  | zero => exact Or.inl ⟨rfl, rfl⟩
  | succ m ih =>
    have hold : ((bsB n K w x m).1 = 0 ∧ (bsB n K w x m).2 = 0) ∨ ∃ c, c < m + 1 ∧ (bsB n K w x m).1 = c + 1 ∧ prB K w c = true ∧ (bsB n K w x m).2 = pc (rwS n c &&& x) ∧ 0 < (bsB n K w x m).2 := by
      rcases ih with h | ⟨c, h1, h2⟩
      · exact Or.inl h
      · exact Or.inr ⟨c, by omega, h2⟩
    have hnew : 0 < mny n K w x m → ∃ c, c < m + 1 ∧ m + 1 = c + 1 ∧ prB K w c = true ∧ mny n K w x m = pc (rwS n c &&& x) ∧ 0 < mny n K w x m := by
      intro h
      refine ⟨m, by omega, rfl, ?_, ?_, h⟩
      · unfold mny at h
        cases q : prB K w m
        · rw [q, if_neg (by decide)] at h
          omega
        · rfl
      · unfold mny at h ⊢
        cases q : prB K w m
        · rw [q, if_neg (by decide)] at h
          omega
        · rfl
    show ((bsS (bsB n K w x m) (mny n K w x m) m).1 = 0 ∧ (bsS (bsB n K w x m) (mny n K w x m) m).2 = 0) ∨ ∃ c, c < m + 1 ∧ (bsS (bsB n K w x m) (mny n K w x m) m).1 = c + 1 ∧ prB K w c = true ∧ (bsS (bsB n K w x m) (mny n K w x m) m).2 = pc (rwS n c &&& x) ∧ 0 < (bsS (bsB n K w x m) (mny n K w x m) m).2
    unfold bsS
    split
    · exact Or.inr (hnew (by omega))
    · split
      · split
        · exact hold
        · split
          · exact Or.inr (hnew (by omega))
          · exact hold
      · exact hold
theorem bs_max (n K : Nat) (w x : Int64) : ∀ m c, c < m → prB K w c = true → pc (rwS n c &&& x) ≤ (bsB n K w x m).2 := by
  intro m
  induction m with
  | zero => intro c h; omega
  | succ m ih =>
    intro c hc hp
    have h1 : (bsB n K w x m).2 ≤ (bsB n K w x (m + 1)).2 := by
      show _ ≤ (bsS (bsB n K w x m) (mny n K w x m) m).2
      unfold bsS
      split
      · show _ ≤ mny n K w x m; omega
      · split
        · split
          · exact Nat.le_refl _
          · split
            · show _ ≤ mny n K w x m; omega
            · exact Nat.le_refl _
        · exact Nat.le_refl _
    have h2 : mny n K w x m ≤ (bsB n K w x (m + 1)).2 := by
      show _ ≤ (bsS (bsB n K w x m) (mny n K w x m) m).2
      unfold bsS
      split
      · exact Nat.le_refl _
      · split
        · split
          · omega
          · split
            · exact Nat.le_refl _
            · omega
        · omega
    by_cases e : c = m
    · subst e
      unfold mny at h2
      rw [if_pos hp] at h2
      exact h2
    · exact Nat.le_trans (ih c (by omega) hp) h1
theorem bs_le (n K : Nat) (w x : Int64) (m : Nat) : (bsB n K w x m).1 ≤ m ∧ (bsB n K w x m).2 ≤ 64 := by
  rcases bs_ok n K w x m with ⟨h1, h2⟩ | ⟨c, h1, h2, h3, h4, h5⟩
  · omega
  · have := pc_le (rwS n c &&& x)
    omega
theorem my_le (n K : Nat) (w x : Int64) (m : Nat) : mny n K w x m ≤ 64 := by
  unfold mny
  split
  · exact pc_le _
  · omega
theorem gd_pr {n K : Nat} (hn : n ≤ 6) (hK : K < 2 ^ n) {w : Int64} (hs : subR n w) (hcl : ∀ r t, r < 64 → t < 64 → t &&& fg n K = t → tb w (r ^^^ t) = tb w r) {c : Nat} (hc : c < 4096) (hp : prB K w c = true) : gdS n K w c = rwS n c := by
  have h0 := gd_0 hn hK hs hcl (show c / 64 < 64 by omega) (show c % 64 < 64 by omega)
  rw [show 64 * (c / 64) + c % 64 = c by omega] at h0
  have hne : ¬ gdS n K w c = 0 := by
    intro z
    refine h0.mp z ?_
    unfold prB at hp
    rw [Bool.and_eq_true, Bool.and_eq_true, Bool.and_eq_true] at hp
    exact ⟨of_decide_eq_true hp.1.1.1, of_decide_eq_true hp.1.1.2, by simpa using hp.1.2⟩
  unfold gdS at hne ⊢
  split
  · rename_i h1
    rw [if_pos h1] at hne
    split
    · rfl
    · rename_i h2
      rw [if_neg h2] at hne
      exact absurd rfl hne
  · rename_i h1
    rw [if_neg h1] at hne
    exact absurd rfl hne
theorem d64 {a : Nat} (h : a < 2 ^ 31) : nI a / 64 = nI (a / 64) := pk_div (d := 64) h (by decide) (by decide)
/-- the place of the prime that is best -/
def bpl (n K : Nat) (w x : Int64) (m : Nat) : Int32 := if (bsB n K w x m).1 = 0 then -1 else nI (cnt K w ((bsB n K w x m).1 - 1))
theorem bf_step {n K : Nat} {w : Int64} {codes : Nat → Int32} {rows : Nat → Int64} (hI : PI n K w 4096 codes rows (nI (cnt K w 4096))) (h729 : cnt K w 4096 ≤ 729) (x : Int64) : ∀ d m, m + d = 4096 → ∀ fuel, d < fuel → ∀ cr : Int32, ((bsB n K w x m).1 ≠ 0 → cr = nI (ocN (((bsB n K w x m).1 - 1) / 64))) → fX1_bestFor_L11 x codes rows (nI (cnt K w 4096)) fuel (bpl n K w x m) (nI (bsB n K w x m).2) cr (nI (cnt K w m)) = some (bpl n K w x 4096) := by
  intro d
  induction d with
  | zero =>
    intro m hm fuel h2 cr hc
    obtain ⟨f, rfl⟩ : ∃ f, fuel = f + 1 := ⟨fuel - 1, by omega⟩
    have e : m = 4096 := by omega
    subst e
    rw [fX1_bestFor_L11, if_pos (nI_le (Nat.le_refl _) (by omega))]
  | succ d ih =>
    intro m hm fuel h2 cr hc
    obtain ⟨f, rfl⟩ : ∃ f, fuel = f + 1 := ⟨fuel - 1, by omega⟩
    have hm' : m < 4096 := by omega
    have hbs : bsB n K w x (m + 1) = bsS (bsB n K w x m) (mny n K w x m) m := rfl
    have hmy : mny n K w x m = if prB K w m = true then pc (rwS n m &&& x) else 0 := rfl
    cases hp : prB K w m
    · -- no prime
      rw [hp, if_neg (by decide)] at hmy
      have e1 : bsB n K w x (m + 1) = bsB n K w x m := by
        rw [hbs, hmy]
        unfold bsS
        rw [if_neg (by omega)]
        split
        · rw [if_pos rfl]
        · rfl
      have e2 : cnt K w (m + 1) = cnt K w m := by rw [cnt_s, hp]; rfl
      have h := ih (m + 1) (by omega) (f + 1) (by omega) cr (by rw [e1]; exact hc)
      have e3 : bpl n K w x (m + 1) = bpl n K w x m := by unfold bpl; rw [e1]
      rw [e1, e2, e3] at h
      exact h
    · rw [hp, if_pos rfl] at hmy
      obtain ⟨q1, q2⟩ := hI.2 m hm' hp
      have hlt := cnt_lt K w hm' hp
      have e2 : cnt K w (m + 1) = cnt K w m + 1 := by rw [cnt_s, hp]; rfl
      have hb := bs_le n K w x m
      have hq := my_le n K w x m
      rw [fX1_bestFor_L11, if_neg (nI_ge hlt (by omega)), if_neg (n729 (by omega)), gd_in (show cnt K w m < 729 by omega) (by decide), nI_clamp (by omega), q2, pc_cls, Option.bind_some, gd_in (show cnt K w m < 729 by omega) (by decide), q1, d64 (by omega), oc_eq _ (by omega), Option.bind_some, ← hmy]
      have take : bsB n K w x (m + 1) = (m + 1, mny n K w x m) → fX1_bestFor_J83 x (nI (cnt K w m)) (nI (mny n K w x m)) (nI (ocN (m / 64))) codes rows (nI (cnt K w 4096)) (fX1_bestFor_L11 x codes rows (nI (cnt K w 4096)) f) = some (bpl n K w x 4096) := by
        intro e
        have h := ih (m + 1) (by omega) f (by omega) (nI (ocN (m / 64))) (by rw [e]; intro _; rfl)
        have e3 : bpl n K w x (m + 1) = nI (cnt K w m) := by unfold bpl; rw [e]; rfl
        rw [e3, e, e2] at h
        unfold fX1_bestFor_J83 fX1_bestFor_J94
        rw [nI_1]
        exact h
      have leave : bsB n K w x (m + 1) = bsB n K w x m → fX1_bestFor_J94 x (bpl n K w x m) (nI (bsB n K w x m).2) cr (nI (cnt K w m)) codes rows (nI (cnt K w 4096)) (fX1_bestFor_L11 x codes rows (nI (cnt K w 4096)) f) = some (bpl n K w x 4096) := by
        intro e
        have h := ih (m + 1) (by omega) f (by omega) cr (by rw [e]; exact hc)
        have e3 : bpl n K w x (m + 1) = bpl n K w x m := by unfold bpl; rw [e]
        rw [e3, e, e2] at h
        unfold fX1_bestFor_J94
        rw [nI_1]
        exact h
      by_cases c1 : (bsB n K w x m).2 < mny n K w x m
      · rw [if_pos (nI_lt c1 (by omega))]
        exact take (by rw [hbs]; unfold bsS; rw [if_pos c1])
      · rw [if_neg (nI_nlt (by omega) (by omega))]
        by_cases c2 : mny n K w x m = (bsB n K w x m).2
        · rw [if_pos (by rw [c2])]
          by_cases c3 : mny n K w x m = 0
          · rw [if_pos (show nI (mny n K w x m) ≤ 0 by rw [c3]; decide)]
            exact leave (by rw [hbs]; unfold bsS; rw [if_neg c1, if_pos c2, if_pos c3])
          · rw [if_neg (nI_nle (by omega) (by omega))]
            have hne : (bsB n K w x m).1 ≠ 0 := by
              intro z
              rcases bs_ok n K w x m with ⟨_, h⟩ | ⟨c, _, h, _⟩
              · omega
              · omega
            rw [hc hne]
            have b1 := oc_le (m / 64) (by omega)
            have b2 := oc_le (((bsB n K w x m).1 - 1) / 64) (by omega)
            by_cases c4 : ocN (m / 64) < ocN (((bsB n K w x m).1 - 1) / 64)
            · rw [if_neg (nI_ge c4 (by omega))]
              exact take (by rw [hbs]; unfold bsS; rw [if_neg c1, if_pos c2, if_neg c3, if_pos c4])
            · rw [if_pos (nI_le (by omega) (by omega)), ← hc hne]
              exact leave (by rw [hbs]; unfold bsS; rw [if_neg c1, if_pos c2, if_neg c3, if_neg c4])
        · rw [if_neg (fun z => c2 ((nI_eq (by omega) (by omega)).mp z))]
          exact leave (by rw [hbs]; unfold bsS; rw [if_neg c1, if_neg c2])
theorem cnt_all (K : Nat) (w : Int64) : cnt K w 4096 ≤ 729 := by
  have h2 : cnt K w 4096 ≤ sumN 4096 (fun code => (decide ((code % 64) &&& (code / 64) = code % 64)).toNat) := by
    refine sumN_le (fun i _ => ?_)
    unfold prB
    cases q : decide ((i % 64) &&& (i / 64) = i % 64)
    · rw [Bool.and_false, Bool.false_and, Bool.false_and]
      exact Nat.le_refl _
    · cases ((decide ((i / 64) &&& K = i / 64) && true && !badB K w (i / 64) (i % 64)) && allN 6 (fun j => nd K w (i / 64) (i % 64) j)) <;> decide
  have h3 : sumN 4096 (fun code => (decide ((code % 64) &&& (code / 64) = code % 64)).toNat) = 729 := by decide +kernel
  omega
theorem bf_cls {n K : Nat} {w : Int64} {codes : Nat → Int32} {rows : Nat → Int64} (hI : PI n K w 4096 codes rows (nI (cnt K w 4096))) (x : Int64) : fX1_bestFor codes rows (nI (cnt K w 4096)) x = some (bpl n K w x 4096) := by
  have h := bf_step hI (cnt_all K w) x 4096 0 (by omega) 5000 (by decide) 0 (fun z => absurd rfl z)
  exact h
