/-! the best prime: upwards as the class looks, downwards as the law looks -/
def mnS (n : Nat) (x : Int64) (s : Nat) : Nat := pc (rwS n s &&& x)
def BST (n K : Nat) (w x : Int64) (S : Nat → Prop) (b : Nat) : Prop := S b ∧ prB K w b = true ∧ 0 < mnS n x b ∧ ∀ s, S s → prB K w s = true → mnS n x s ≤ mnS n x b ∧ (mnS n x s = mnS n x b → ocN (b / 64) < ocN (s / 64) ∨ (ocN (b / 64) = ocN (s / 64) ∧ b ≤ s))
def NON (n K : Nat) (w x : Int64) (S : Nat → Prop) : Prop := ∀ s, S s → prB K w s = true → mnS n x s = 0
theorem bst_one {n K : Nat} {w x : Int64} {S T : Nat → Prop} (h : ∀ s, prB K w s = true → (S s ↔ T s)) {a b : Nat} (ha : BST n K w x S a) (hb : BST n K w x T b) : a = b := by
  obtain ⟨a1, a2, a3, a4⟩ := ha
  obtain ⟨b1, b2, b3, b4⟩ := hb
  obtain ⟨p1, p2⟩ := a4 b ((h b b2).mpr b1) b2
  obtain ⟨q1, q2⟩ := b4 a ((h a a2).mp a1) a2
  have e : mnS n x a = mnS n x b := by omega
  have r1 := p2 e.symm
  have r2 := q2 e
  omega
theorem bst_non {n K : Nat} {w x : Int64} {S T : Nat → Prop} (h : ∀ s, prB K w s = true → (S s ↔ T s)) {a : Nat} (ha : BST n K w x S a) (hb : NON n K w x T) : False := by
  obtain ⟨a1, a2, a3, a4⟩ := ha
  have := hb a ((h a a2).mp a1) a2
  omega
/-- what the class's search has, after the codes below m -/
theorem bs_best (n K : Nat) (w x : Int64) : ∀ m, ((bsB n K w x m).1 = 0 ∧ (bsB n K w x m).2 = 0 ∧ NON n K w x (fun s => s < m)) ∨ ∃ b, (bsB n K w x m).1 = b + 1 ∧ (bsB n K w x m).2 = mnS n x b ∧ BST n K w x (fun s => s < m) b := by
  intro m
  induction m with
  | zero => exact Or.inl ⟨rfl, rfl, fun s hs => absurd hs (Nat.not_lt_zero s)⟩
  | succ m ih =>
    have hstep : bsB n K w x (m + 1) = bsS (bsB n K w x m) (mny n K w x m) m := rfl
    rw [hstep]
    have hny : mny n K w x m = if prB K w m = true then mnS n x m else 0 := rfl
    generalize bsB n K w x m = p at ih
    obtain ⟨p1, p2⟩ := p
    unfold bsS
    rcases ih with ⟨h1, h2, h3⟩ | ⟨b, h1, h2, h3⟩
    · have h1 : p1 = 0 := h1
      have h2 : p2 = 0 := h2
      subst h1; subst h2
      by_cases q : 0 < mny n K w x m
      · rw [if_pos q]
        have hp : prB K w m = true := by
          by_cases hp : prB K w m = true
          · exact hp
          · rw [hny, if_neg hp] at q; exact absurd q (by decide)
        rw [hny, if_pos hp] at q ⊢
        refine Or.inr ⟨m, rfl, rfl, Nat.lt_succ_self m, hp, q, fun s hs hps => ?_⟩
        by_cases e : s = m
        · subst e; exact ⟨Nat.le_refl _, fun _ => Or.inr ⟨rfl, Nat.le_refl _⟩⟩
        · have := h3 s (by have : s < m + 1 := hs; omega) hps
          exact ⟨by omega, fun z => by omega⟩
      · rw [if_neg q, if_pos (show mny n K w x m = 0 by omega), if_pos (show mny n K w x m = 0 by omega)]
        refine Or.inl ⟨rfl, rfl, fun s hs hps => ?_⟩
        by_cases e : s = m
        · subst e
          rw [hny, if_pos hps] at q
          omega
        · exact h3 s (by have : s < m + 1 := hs; omega) hps
    · have h1 : p1 = b + 1 := h1
      have h2 : p2 = mnS n x b := h2
      subst h1; subst h2
      obtain ⟨b1, b2, b3, b4⟩ := h3
      have b1 : b < m := b1
      show ((if mnS n x b < mny n K w x m then (m + 1, mny n K w x m) else if mny n K w x m = mnS n x b then if mny n K w x m = 0 then (b + 1, mnS n x b) else if ocN (m / 64) < ocN ((b + 1 - 1) / 64) then (m + 1, mny n K w x m) else (b + 1, mnS n x b) else (b + 1, mnS n x b)).1 = 0 ∧ _) ∨ _
      rw [Nat.add_sub_cancel]
      by_cases q : mnS n x b < mny n K w x m
      · rw [if_pos q]
        have hp : prB K w m = true := by
          by_cases hp : prB K w m = true
          · exact hp
          · rw [hny, if_neg hp] at q; exact absurd q (Nat.not_lt_zero _)
        rw [hny, if_pos hp] at q ⊢
        refine Or.inr ⟨m, rfl, rfl, Nat.lt_succ_self m, hp, by omega, fun s hs hps => ?_⟩
        by_cases e : s = m
        · subst e; exact ⟨Nat.le_refl _, fun _ => Or.inr ⟨rfl, Nat.le_refl _⟩⟩
        · have := (b4 s (by have : s < m + 1 := hs; show s < m; omega) hps).1
          exact ⟨by omega, fun z => by omega⟩
      · rw [if_neg q]
        have keepb : (∀ s, s < m + 1 → prB K w s = true → s = m → mnS n x s ≤ mnS n x b ∧ (mnS n x s = mnS n x b → ocN (b / 64) < ocN (s / 64) ∨ (ocN (b / 64) = ocN (s / 64) ∧ b ≤ s))) → BST n K w x (fun s => s < m + 1) b := by
          intro h9
          refine ⟨Nat.lt_succ_of_lt b1, b2, b3, fun s hs hps => ?_⟩
          by_cases e : s = m
          · exact h9 s hs hps e
          · exact b4 s (by have : s < m + 1 := hs; show s < m; omega) hps
        by_cases q2 : mny n K w x m = mnS n x b
        · rw [if_pos q2, if_neg (by omega)]
          have hp : prB K w m = true := by
            by_cases hp : prB K w m = true
            · exact hp
            · rw [hny, if_neg hp] at q2; omega
          by_cases q3 : ocN (m / 64) < ocN (b / 64)
          · rw [if_pos q3]
            rw [hny, if_pos hp] at q2 ⊢
            refine Or.inr ⟨m, rfl, rfl, Nat.lt_succ_self m, hp, by omega, fun s hs hps => ?_⟩
            by_cases e : s = m
            · subst e; exact ⟨Nat.le_refl _, fun _ => Or.inr ⟨rfl, Nat.le_refl _⟩⟩
            · obtain ⟨u1, u2⟩ := b4 s (by have : s < m + 1 := hs; show s < m; omega) hps
              exact ⟨by omega, fun z => by have := u2 (by omega); omega⟩
          · rw [if_neg q3]
            refine Or.inr ⟨b, rfl, rfl, keepb (fun s hs hps e => ?_)⟩
            subst e
            rw [hny, if_pos hps] at q2
            exact ⟨by omega, fun _ => by omega⟩
        · rw [if_neg q2]
          refine Or.inr ⟨b, rfl, rfl, keepb (fun s hs hps e => ?_)⟩
          subst e
          rw [hny, if_pos hps] at q q2
          exact ⟨by omega, fun z => absurd z q2⟩
/-- one look downwards -/
def dsS (p : Nat × Nat) (q m : Nat) : Nat × Nat := if p.2 < q then (m + 1, q) else if q = p.2 then (if q = 0 then p else if ocN ((p.1 - 1) / 64) < ocN (m / 64) then p else (m + 1, q)) else p
def cd (t : Nat) : Nat := 64 * (15 - t / 16) + (15 - t % 16)
def dsB (n K : Nat) (w x : Int64) : Nat → Nat × Nat
  | 0 => (0, 0)
  | t + 1 => dsS (dsB n K w x t) (mny n K w x (cd t)) (cd t)
def SD (t s : Nat) : Prop := ∃ i, i < t ∧ s = cd i
theorem cd_lt {i t : Nat} (h : i < t) (ht : t < 256) : cd t < cd i := by
  unfold cd; omega
theorem sd_s {t s : Nat} (h : SD (t + 1) s) (hne : s ≠ cd t) : SD t s := by
  obtain ⟨i, h1, h2⟩ := h
  by_cases e : i = t
  · subst e; exact absurd h2 hne
  · exact ⟨i, by omega, h2⟩
theorem ds_best (n K : Nat) (w x : Int64) : ∀ t, t ≤ 256 → ((dsB n K w x t).1 = 0 ∧ (dsB n K w x t).2 = 0 ∧ NON n K w x (SD t)) ∨ ∃ b, (dsB n K w x t).1 = b + 1 ∧ (dsB n K w x t).2 = mnS n x b ∧ BST n K w x (SD t) b := by
  intro t
  induction t with
  | zero => intro _; exact Or.inl ⟨rfl, rfl, fun s hs => by obtain ⟨i, h, -⟩ := hs; exact absurd h (Nat.not_lt_zero i)⟩
  | succ t ih =>
    intro ht
    have ih := ih (by omega)
    have hstep : dsB n K w x (t + 1) = dsS (dsB n K w x t) (mny n K w x (cd t)) (cd t) := rfl
    rw [hstep]
    have hin : SD (t + 1) (cd t) := ⟨t, Nat.lt_succ_self t, rfl⟩
    have hmono : ∀ s, SD t s → SD (t + 1) s := fun s ⟨i, h1, h2⟩ => ⟨i, Nat.lt_succ_of_lt h1, h2⟩
    have hbig : ∀ s, SD t s → cd t < s := fun s ⟨i, h1, h2⟩ => by rw [h2]; exact cd_lt h1 (by omega)
    have hny : mny n K w x (cd t) = if prB K w (cd t) = true then mnS n x (cd t) else 0 := rfl
    generalize dsB n K w x t = p at ih
    obtain ⟨p1, p2⟩ := p
    generalize cd t = m at hin hbig hny
    have hsplit : ∀ s, SD (t + 1) s → s ≠ m → SD t s := by
      intro s hs hne
      obtain ⟨i, h1, h2⟩ := hs
      by_cases e : i = t
      · exfalso
        subst e
        obtain ⟨j, h3, h4⟩ := hin
        by_cases e2 : j = i
        · subst e2; exact hne (h2.trans h4.symm)
        · have := hbig m ⟨j, by omega, h4⟩
          omega
      · exact ⟨i, by omega, h2⟩
    unfold dsS
    rcases ih with ⟨h1, h2, h3⟩ | ⟨b, h1, h2, h3⟩
    · have h1 : p1 = 0 := h1
      have h2 : p2 = 0 := h2
      subst h1; subst h2
      by_cases q : 0 < mny n K w x m
      · rw [if_pos q]
        have hp : prB K w m = true := by
          by_cases hp : prB K w m = true
          · exact hp
          · rw [hny, if_neg hp] at q; exact absurd q (by decide)
        rw [hny, if_pos hp] at q ⊢
        refine Or.inr ⟨m, rfl, rfl, hin, hp, q, fun s hs hps => ?_⟩
        by_cases e : s = m
        · subst e; exact ⟨Nat.le_refl _, fun _ => Or.inr ⟨rfl, Nat.le_refl _⟩⟩
        · have := h3 s (hsplit s hs e) hps
          exact ⟨by omega, fun z => by omega⟩
      · rw [if_neg q, if_pos (show mny n K w x m = 0 by omega), if_pos (show mny n K w x m = 0 by omega)]
        refine Or.inl ⟨rfl, rfl, fun s hs hps => ?_⟩
        by_cases e : s = m
        · subst e
          rw [hny, if_pos hps] at q
          omega
        · exact h3 s (hsplit s hs e) hps
    · have h1 : p1 = b + 1 := h1
      have h2 : p2 = mnS n x b := h2
      subst h1; subst h2
      obtain ⟨b1, b2, b3, b4⟩ := h3
      have hmb := hbig b b1
      show ((if mnS n x b < mny n K w x m then (m + 1, mny n K w x m) else if mny n K w x m = mnS n x b then if mny n K w x m = 0 then (b + 1, mnS n x b) else if ocN ((b + 1 - 1) / 64) < ocN (m / 64) then (b + 1, mnS n x b) else (m + 1, mny n K w x m) else (b + 1, mnS n x b)).1 = 0 ∧ _) ∨ _
      rw [Nat.add_sub_cancel]
      by_cases q : mnS n x b < mny n K w x m
      · rw [if_pos q]
        have hp : prB K w m = true := by
          by_cases hp : prB K w m = true
          · exact hp
          · rw [hny, if_neg hp] at q; exact absurd q (Nat.not_lt_zero _)
        rw [hny, if_pos hp] at q ⊢
        refine Or.inr ⟨m, rfl, rfl, hin, hp, by omega, fun s hs hps => ?_⟩
        by_cases e : s = m
        · subst e; exact ⟨Nat.le_refl _, fun _ => Or.inr ⟨rfl, Nat.le_refl _⟩⟩
        · have := (b4 s (hsplit s hs e) hps).1
          exact ⟨by omega, fun z => by omega⟩
      · rw [if_neg q]
        have keepb : (prB K w m = true → mnS n x m ≤ mnS n x b ∧ (mnS n x m = mnS n x b → ocN (b / 64) < ocN (m / 64) ∨ (ocN (b / 64) = ocN (m / 64) ∧ b ≤ m))) → BST n K w x (SD (t + 1)) b := by
          intro h9
          refine ⟨hmono b b1, b2, b3, fun s hs hps => ?_⟩
          by_cases e : s = m
          · subst e; exact h9 hps
          · exact b4 s (hsplit s hs e) hps
        by_cases q2 : mny n K w x m = mnS n x b
        · rw [if_pos q2, if_neg (by omega)]
          have hp : prB K w m = true := by
            by_cases hp : prB K w m = true
            · exact hp
            · rw [hny, if_neg hp] at q2; omega
          by_cases q3 : ocN (b / 64) < ocN (m / 64)
          · rw [if_pos q3]
            refine Or.inr ⟨b, rfl, rfl, keepb (fun hps => ?_)⟩
            rw [hny, if_pos hps] at q2
            exact ⟨by omega, fun _ => Or.inl q3⟩
          · rw [if_neg q3]
            rw [hny, if_pos hp] at q2 ⊢
            refine Or.inr ⟨m, rfl, rfl, hin, hp, by omega, fun s hs hps => ?_⟩
            by_cases e : s = m
            · subst e; exact ⟨Nat.le_refl _, fun _ => Or.inr ⟨rfl, Nat.le_refl _⟩⟩
            · obtain ⟨u1, u2⟩ := b4 s (hsplit s hs e) hps
              have hms := hbig s (hsplit s hs e)
              exact ⟨by omega, fun z => by have := u2 (by omega); omega⟩
        · rw [if_neg q2]
          refine Or.inr ⟨b, rfl, rfl, keepb (fun hps => ?_)⟩
          rw [hny, if_pos hps] at q q2
          exact ⟨by omega, fun z => absurd z q2⟩
theorem pr_code {n K : Nat} (hn : n ≤ 4) (hK : K < 2 ^ n) {w : Int64} {s : Nat} (h : prB K w s = true) : s / 64 < 16 ∧ s % 64 < 16 := by
  have h16 := p16 hn
  obtain ⟨h1, h2⟩ := pr_in h
  have a1 : s / 64 ≤ K := by rw [← h1]; exact Nat.and_le_right
  have a2 : s % 64 ≤ s / 64 := by
    have : (s % 64) &&& (s / 64) ≤ s / 64 := Nat.and_le_right
    omega
  omega
theorem sd_all {n K : Nat} (hn : n ≤ 4) (hK : K < 2 ^ n) {w : Int64} {s : Nat} (h : prB K w s = true) : s < 4096 ↔ SD 256 s := by
  obtain ⟨h1, h2⟩ := pr_code hn hK h
  constructor
  · intro _
    refine ⟨16 * (15 - s / 64) + (15 - s % 64), by omega, ?_⟩
    unfold cd
    omega
  · rintro ⟨i, h3, h4⟩
    omega
/-- downwards and upwards they find the same -/
theorem ds_eq {n K : Nat} (hn : n ≤ 4) (hK : K < 2 ^ n) (w x : Int64) : (dsB n K w x 256).1 = (bsB n K w x 4096).1 := by
  have hS : ∀ s, prB K w s = true → ((fun s => s < 4096) s ↔ SD 256 s) := fun s h => sd_all hn hK h
  rcases ds_best n K w x 256 (Nat.le_refl _) with ⟨a1, a2, a3⟩ | ⟨a, a1, a2, a3⟩ <;> rcases bs_best n K w x 4096 with ⟨b1, b2, b3⟩ | ⟨b, b1, b2, b3⟩
  · rw [a1, b1]
  · exact (bst_non hS b3 a3).elim
  · exact (bst_non (fun s h => (hS s h).symm) a3 b3).elim
  · rw [a1, b1, bst_one hS b3 a3]
