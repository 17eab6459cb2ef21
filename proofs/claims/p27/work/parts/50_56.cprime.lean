/-! mathematics of the class -/
theorem ms_m : ∀ K, K < 64 → ∀ c, c < 64 → nI K &&& (nI c ^^^ (-1)) = nI (ms K c) := by decide +kernel
def lbn (u : Nat) : Nat := u &&& (64 - u)
theorem lb_m : ∀ u, u < 64 → 0 < u → nI u &&& (-(nI u)) = nI (lbn u) := by decide +kernel
def lbC (K d : Nat) : Bool := !(decide (d &&& K = d)) || (decide (ms K d = 0) || (decide (lbn (ms K d) < 64) && (decide ((d ||| lbn (ms K d)) < 64) && (decide (d < (d ||| lbn (ms K d))) && (decide ((d ||| lbn (ms K d)) &&& K = (d ||| lbn (ms K d))) && (decide (lbn (ms K d) &&& ms K (d ||| lbn (ms K d)) = 0) && decide (lbn (ms K d) ||| ms K (d ||| lbn (ms K d)) = ms K d)))))))
theorem lb_c : ∀ K, K < 64 → ∀ d, d < 64 → lbC K d = true := by decide +kernel
theorem lb_f (K : Nat) (hK : K < 64) (d : Nat) (hd : d < 64) (h1 : d &&& K = d) (h2 : 0 < ms K d) : lbn (ms K d) < 64 ∧ (d ||| lbn (ms K d)) < 64 ∧ d < (d ||| lbn (ms K d)) ∧ (d ||| lbn (ms K d)) &&& K = (d ||| lbn (ms K d)) ∧ lbn (ms K d) &&& ms K (d ||| lbn (ms K d)) = 0 ∧ lbn (ms K d) ||| ms K (d ||| lbn (ms K d)) = ms K d := by
  have h := lb_c K hK d hd
  unfold lbC at h
  rw [decide_eq_true h1, decide_eq_false (show ¬ ms K d = 0 by omega)] at h
  simp only [Bool.not_true, Bool.false_or, Bool.and_eq_true, decide_eq_true_eq] at h
  exact h
theorem bw_cls (bad : Nat → Int64) {e : Nat} (he : e < 64) : fX1_badWith bad (nI e) = some (bad e) := by
  unfold fX1_badWith
  rw [if_neg (nI_pos (by omega)), if_neg (n64 he), gd_in he (by decide), nI_clamp (by omega)]
theorem fb_step {K : Nat} (hK : K < 64) (w : Int64) : ∀ d, d ≤ 64 → ∀ fuel, d < fuel → ∀ bad : Nat → Int64, (∀ c, d ≤ c → c < 64 → c &&& K = c → bad c = al (ms K c) w) → ∃ b, fX1_findBad_L4 (nI K) w fuel (nI d + (-1)) bad = some b ∧ ∀ c, c < 64 → c &&& K = c → b c = al (ms K c) w := by
  intro d
  induction d with
  | zero =>
    intro _ fuel h2 bad hI
    obtain ⟨m, rfl⟩ : ∃ m, fuel = m + 1 := ⟨fuel - 1, by omega⟩
    refine ⟨bad, ?_, fun c h1 h3 => hI c (by omega) h1 h3⟩
    rw [fX1_findBad_L4, if_pos (by decide)]
  | succ d ih =>
    intro hd fuel h2 bad hI
    obtain ⟨m, rfl⟩ : ∃ m, fuel = m + 1 := ⟨fuel - 1, by omega⟩
    have hd64 : d < 64 := by omega
    rw [pk_m1, fX1_findBad_L4, if_neg (nI_pos (by omega))]
    have p1 := cm_0 K hK d hd64
    have go : ∀ b' : Nat → Int64, (∀ c, d ≤ c → c < 64 → c &&& K = c → b' c = al (ms K c) w) → ∃ b, fX1_findBad_L4 (nI K) w m (nI d + (-1)) b' = some b ∧ ∀ c, c < 64 → c &&& K = c → b c = al (ms K c) w := fun b' h => ih (by omega) m (by omega) b' h
    have up' : ∀ x, x = al (ms K d) w → ∀ c, d ≤ c → c < 64 → c &&& K = c → vp_updL bad d x c = al (ms K c) w := by
      intro x hx c h3 h4 h5
      by_cases hcd : c = d
      · subst hcd; rw [pk_uLs]; exact hx
      · rw [pk_uLn hcd]; exact hI c (by omega) h4 h5
    by_cases hc : d &&& K = d
    · rw [if_pos (p1.mpr hc), ms_m K hK d hd64]
      unfold fX1_findBad_J63 fX1_findBad_J64
      by_cases hz : ms K d = 0
      · rw [hz, if_pos nI_0, gd_in hd64 (by decide), nI_clamp (by omega)]
        exact go _ (up' w (by rw [hz, al_0]))
      · have hm := ms_lt hK d
        obtain ⟨g1, g2, g3, g4, g5, g6⟩ := lb_f K hK d hd64 hc (by omega)
        rw [if_neg (nI_ne0 (by omega) (by omega)), lb_m _ hm (by omega), nI_orr, bw_cls bad g2, Option.bind_some, al_eq g1, Option.bind_some, gd_in hd64 (by decide), nI_clamp (by omega)]
        refine go _ (up' _ ?_)
        rw [hI _ (by omega) g2 g4, al_al g1 (ms_lt hK _) g5, g6]
    · rw [if_neg (fun z => hc (p1.mp z))]
      unfold fX1_findBad_J64
      refine go _ (fun c h3 h4 h5 => ?_)
      by_cases hcd : c = d
      · subst hcd; exact absurd h5 hc
      · exact hI c (by omega) h4 h5
theorem fb_cls {K : Nat} (hK : K < 64) (w : Int64) (bad : Nat → Int64) : ∃ b, fX1_findBad bad (nI K) w = some b ∧ ∀ c, c < 64 → c &&& K = c → b c = al (ms K c) w := by
  unfold fX1_findBad
  rw [show (63 : Int32) = nI 64 + (-1) by decide]
  exact fb_step hK w 64 (by decide) 5000 (by decide) bad (fun c h1 h2 => by omega)
theorem ipr_cls {n : Nat} (hn : n ≤ 6) {c v : Nat} (hc : c < 2 ^ n) (hv : v &&& c = v) : fX2_inProduct (nI n) (nI c) (nI v) = some (rwS n (64 * c + v)) := by
  have h64 := p64 hn
  have hvc : v < 2 ^ n := by rw [← hv]; exact Nat.lt_of_le_of_lt Nat.and_le_right hc
  have ed : (64 * c + v) / 64 = c := by omega
  have em : (64 * c + v) % 64 = v := by omega
  unfold fX2_inProduct
  rw [is_eq n hn, Option.bind_some, fg_m n hn c (by omega), al_eq (fg_lt n c), Option.bind_some]
  congr 1
  apply tb_ext
  intro r hr
  unfold rwS
  rw [Bool.eq_iff_iff, mkN_b _ hr _ h64, ed, em, al_b (fg_lt n c) _ hr, Bool.and_eq_true, decide_eq_true_eq, decide_eq_true_eq]
  have hsc : ∀ s, s &&& fg n c = s → s &&& c = 0 := by
    intro s hs
    apply Nat.eq_of_testBit_eq
    intro i
    have a := sb_iff.mp hs i
    rw [Nat.testBit_and, Nat.zero_testBit]
    cases q : s.testBit i
    · rfl
    · rw [Bool.true_and]
      have b := a q
      rcases Nat.lt_or_ge i 6 with z | z
      · exact (by decide +kernel : ∀ n, n ≤ 6 → ∀ c, c < 64 → ∀ i, i < 6 → (fg n c).testBit i = true → c.testBit i = false) n hn c (by omega) i z b
      · exact Nat.testBit_lt_two_pow (Nat.lt_of_lt_of_le (show c < 2 ^ 6 by omega) (Nat.pow_le_pow_right (by decide) z))
  constructor
  · rintro ⟨s, h1, h2, h3⟩
    rw [tb_one (by omega) (x64 hr h1)] at h3
    have h4 : r ^^^ s = v := of_decide_eq_true h3
    have hr' : r = v ^^^ s := by rw [← h4, Nat.xor_assoc, Nat.xor_self, Nat.xor_zero]
    refine ⟨?_, ?_⟩
    · rw [hr']
      exact Nat.xor_lt_two_pow hvc (fg_in n hn c (by omega) s h1 h2)
    · rw [hr', Nat.and_xor_distrib_right, hv, hsc s h2, Nat.xor_zero]
  · rintro ⟨h1, h2⟩
    refine ⟨r ^^^ v, x64 hr (by omega), ?_, ?_⟩
    · have hd : r ^^^ v < 2 ^ n := Nat.xor_lt_two_pow h1 hvc
      have h3 : (r ^^^ v) &&& c = 0 := by rw [Nat.and_xor_distrib_right, h2, hv, Nat.xor_self]
      exact (by decide +kernel : ∀ n, n ≤ 6 → ∀ c, c < 2 ^ n → ∀ d, d < 2 ^ n → d &&& c = 0 → d &&& fg n c = d) n hn c hc _ hd h3
    · rw [tb_one (by omega) (x64 hr (x64 hr (by omega)))]
      exact decide_eq_true (by rw [← Nat.xor_assoc, Nat.xor_self, Nat.zero_xor])
/-- the list of primes, up to the code m -/
def PI (n K : Nat) (w : Int64) (m : Nat) (codes : Nat → Int32) (rows : Nat → Int64) (size : Int32) : Prop := size = nI (cnt K w m) ∧ ∀ c, c < m → prB K w c = true → codes (cnt K w c) = nI c ∧ rows (cnt K w c) = rwS n c
theorem cnt_s (K : Nat) (w : Int64) (m : Nat) : cnt K w (m + 1) = cnt K w m + (prB K w m).toNat := rfl
theorem cnt_le (K : Nat) (w : Int64) {a b : Nat} (h : a ≤ b) : cnt K w a ≤ cnt K w b := by
  obtain ⟨d, rfl⟩ : ∃ d, b = a + d := ⟨b - a, by omega⟩
  unfold cnt
  rw [sumN_front]
  exact Nat.le_add_right _ _
theorem cnt_lt (K : Nat) (w : Int64) {a b : Nat} (h : a < b) (hp : prB K w a = true) : cnt K w a < cnt K w b := by
  have h1 := cnt_le K w (show a + 1 ≤ b from h)
  rw [cnt_s, hp] at h1
  exact h1
theorem PI_skip {n K : Nat} {w : Int64} {m : Nat} {codes : Nat → Int32} {rows : Nat → Int64} {size : Int32} (h : PI n K w m codes rows size) : ∀ d, (∀ j, j < d → prB K w (m + j) = false) → PI n K w (m + d) codes rows size := by
  intro d
  induction d with
  | zero => intro _; exact h
  | succ d ih =>
    intro hp
    obtain ⟨h1, h2⟩ := ih (fun j hj => hp j (by omega))
    have h3 := hp d (by omega)
    refine ⟨?_, ?_⟩
    · rw [h1, show m + (d + 1) = (m + d) + 1 by omega, cnt_s, h3]
      rfl
    · intro c hc hpc
      by_cases e : c = m + d
      · subst e; rw [h3] at hpc; exact absurd hpc (by decide)
      · exact h2 c (by omega) hpc
theorem PI_add {n K : Nat} {w : Int64} {m : Nat} {codes : Nat → Int32} {rows : Nat → Int64} {size : Int32} (h : PI n K w m codes rows size) (hp : prB K w m = true) : PI n K w (m + 1) (upd codes (cnt K w m) (nI m)) (vp_updL rows (cnt K w m) (rwS n m)) (nI (cnt K w m + 1)) := by
  obtain ⟨h1, h2⟩ := h
  refine ⟨?_, ?_⟩
  · rw [cnt_s, hp]
    rfl
  · intro c hc hpc
    by_cases e : c = m
    · subst e
      exact ⟨pk_us, pk_uLs⟩
    · have hne : cnt K w c ≠ cnt K w m := Nat.ne_of_lt (cnt_lt K w (by omega) hpc)
      rw [pk_un hne, pk_uLn hne]
      exact h2 c (by omega) hpc
theorem cnt_729 (K : Nat) (w : Int64) {m : Nat} (hm : m < 4096) (hp : prB K w m = true) : cnt K w m < 729 := by
  have h1 := cnt_lt K w hm hp
  have h2 : cnt K w 4096 ≤ sumN 4096 (fun code => (decide ((code % 64) &&& (code / 64) = code % 64)).toNat) := by
    refine sumN_le (fun i _ => ?_)
    unfold prB
    cases q : decide ((i % 64) &&& (i / 64) = i % 64)
    · rw [Bool.and_false, Bool.false_and, Bool.false_and]
      exact Nat.le_refl _
    · cases ((decide ((i / 64) &&& K = i / 64) && true && !badB K w (i / 64) (i % 64)) && allN 6 (fun j => nd K w (i / 64) (i % 64) j)) <;> decide
  have h3 : sumN 4096 (fun code => (decide ((code % 64) &&& (code / 64) = code % 64)).toNat) = 729 := by decide +kernel
  omega
