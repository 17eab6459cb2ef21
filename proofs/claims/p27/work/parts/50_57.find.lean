/-! mathematics of the class -/
theorem aw_1 : ∀ c, c < 64 → ∀ i, i < 6 → (nI c &&& (nI (2 ^ i) ^^^ (-1)) = nI c ↔ c.testBit i = false) ∧ (c.testBit i = true → nI c &&& (nI (2 ^ i) ^^^ (-1)) = nI (c ^^^ 2 ^ i)) := by decide +kernel
theorem aw_mask {n K : Nat} (hn : n ≤ 6) (hK : K < 2 ^ n) {w : Int64} {bad : Nat → Int64} (hb : ∀ c, c < 64 → c &&& K = c → bad c = al (ms K c) w) {c : Nat} (hc : c < 2 ^ n) (hcK : c &&& K = c) (codes : Nat → Int32) (rows : Nat → Int64) (size : Int32) : ∃ p, fX1_addWith bad codes rows size (nI n) (nI c) = fX1_addWith_J50 (nI n) (nI c) p codes rows size ∧ ∀ v, v < 64 → tb p v = (!badB K w c v && allN 6 (fun i => nd K w c v i)) := by
  have h64 := p64 hn
  have hc64 : c < 64 := by omega
  have hK64 : K < 64 := by omega
  unfold fX1_addWith
  rw [bw_cls bad hc64, Option.bind_some]
  obtain ⟨m, p, e, hI⟩ := loop0 (fun k i s => fX1_addWith_L13 (nI n) (nI c) bad codes rows size k s i) (fun i p => ∀ v, v < 64 → tb p v = (!badB K w c v && allN i (fun i => nd K w c v i))) n (s := bad c ^^^ (-1)) (by omega) (by
    intro v hv
    rw [tb_not _ hv, hb c hc64 hcK]
    show _ = (!badB K w c v && true)
    rw [Bool.and_true]
    rfl) (by
    intro m i p hi hI
    have hi6 : i < 6 := by omega
    obtain ⟨a1, a2⟩ := aw_1 c hc64 i hi6
    show ∃ s', fX1_addWith_L13 (nI n) (nI c) bad codes rows size (m + 1) p (nI i) = _ ∧ _
    rw [fX1_addWith_L13, if_neg (nI_ge hi (by omega)), al_sh i (by omega)]
    unfold fX1_addWith_J44
    cases q : c.testBit i
    · refine ⟨p, by rw [if_pos (a1.mpr q), nI_1], fun v hv => ?_⟩
      rw [hI v hv]
      show _ = (!badB K w c v && (allN i _ && nd K w c v i))
      have : nd K w c v i = true := by unfold nd; rw [q]; rfl
      rw [this, Bool.and_true]
    · obtain ⟨g1, g2, g3⟩ := cx_2 c hc64 i hi6 q
      have g5 := cx_5 K hK64 c hc64 hcK i hi6 q
      refine ⟨p &&& bad (c ^^^ 2 ^ i), ?_, fun v hv => ?_⟩
      · rw [if_neg (fun z => by rw [a1.mp z] at q; exact absurd q (by decide)), a2 q, bw_cls bad g3, Option.bind_some, nI_1]
      · rw [tb_and, hI v hv, hb _ g3 g5.1]
        show _ = (!badB K w c v && (allN i _ && nd K w c v i))
        have : nd K w c v i = tb (al (ms K (c ^^^ 2 ^ i)) w) v := by unfold nd; rw [q]; rfl
        rw [this, Bool.and_assoc])
  refine ⟨p, ?_, fun v hv => ?_⟩
  · refine Eq.trans e ?_
    show fX1_addWith_L13 (nI n) (nI c) bad codes rows size (m + 1) p (nI n) = _
    rw [fX1_addWith_L13, if_pos (nI_le (Nat.le_refl n) (by omega))]
  · rw [hI v hv]
    congr 1
    rw [Bool.eq_iff_iff, allN_iff, allN_iff]
    constructor
    · intro h i hi
      rcases Nat.lt_or_ge i n with z | z
      · exact h i z
      · have : c.testBit i = false := Nat.testBit_lt_two_pow (Nat.lt_of_lt_of_le hc (Nat.pow_le_pow_right (by decide) z))
        unfold nd
        rw [this]
        rfl
    · intro h i hi
      exact h i (by omega)
theorem pr_cv (K : Nat) (w : Int64) {c v : Nat} (hv : v < 64) : prB K w (64 * c + v) = ((decide (c &&& K = c) && decide (v &&& c = v) && !badB K w c v) && allN 6 (fun i => nd K w c v i)) := by
  unfold prB
  rw [show (64 * c + v) / 64 = c by omega, show (64 * c + v) % 64 = v by omega]
theorem aw_loop {n K : Nat} (hn : n ≤ 6) (hK : K < 2 ^ n) {w p : Int64} {c : Nat} (hc : c < 2 ^ n) (hcK : c &&& K = c) (hp : ∀ v, v < 64 → tb p v = (!badB K w c v && allN 6 (fun i => nd K w c v i))) : ∀ d v, v + d = c + 1 → ∀ fuel, d < fuel → ∀ codes rows size, PI n K w (64 * c + v) codes rows size → ∃ co ro si, fX1_addWith_L53 (nI n) (nI c) p fuel (nI v) codes rows size = some (co, ro, si) ∧ PI n K w (64 * c + 64) co ro si := by
  have h64 := p64 hn
  have hc64 : c < 64 := by omega
  have hprim : ∀ v, v < 64 → prB K w (64 * c + v) = (decide (v &&& c = v) && tb p v) := by
    intro v hv
    rw [pr_cv K w hv, hp v hv, decide_eq_true hcK, Bool.true_and, Bool.and_assoc]
  intro d
  induction d with
  | zero =>
    intro v hv fuel h2 codes rows size hI
    obtain ⟨m, rfl⟩ : ∃ m, fuel = m + 1 := ⟨fuel - 1, by omega⟩
    have e : v = c + 1 := by omega
    subst e
    refine ⟨codes, rows, size, ?_, ?_⟩
    · rw [fX1_addWith_L53, if_pos (nI_lt (by omega) (by omega))]
    · have h := PI_skip hI (63 - c) (fun j hj => by
        rw [show 64 * c + (c + 1) + j = 64 * c + (c + 1 + j) by omega, hprim _ (by omega)]
        have : ¬ (c + 1 + j) &&& c = c + 1 + j := by
          intro z
          have : (c + 1 + j) &&& c ≤ c := Nat.and_le_right
          omega
        rw [decide_eq_false this]
        rfl)
      rw [show 64 * c + (c + 1) + (63 - c) = 64 * c + 64 by omega] at h
      exact h
  | succ d ih =>
    intro v hv fuel h2 codes rows size hI
    obtain ⟨m, rfl⟩ : ∃ m, fuel = m + 1 := ⟨fuel - 1, by omega⟩
    have hv64 : v < 64 := by omega
    have hnot : ¬ nI c < nI v := nI_nlt (by omega) (by omega)
    rw [fX1_addWith_L53, if_neg hnot]
    by_cases hp0 : p = 0
    · rw [if_pos ((lg0 p).mpr hp0)]
      refine ⟨codes, rows, size, rfl, ?_⟩
      have h := PI_skip hI (64 - v) (fun j hj => by
        rw [show 64 * c + v + j = 64 * c + (v + j) by omega, hprim _ (by omega), hp0, tb_0, Bool.and_false])
      rw [show 64 * c + v + (64 - v) = 64 * c + 64 by omega] at h
      exact h
    · rw [if_neg (fun z => hp0 ((lg0 p).mp z))]
      have pv := hprim v hv64
      have skip : prB K w (64 * c + v) = false → ∃ co ro si, fX1_addWith_L53 (nI n) (nI c) p m (nI (v + 1)) codes rows size = some (co, ro, si) ∧ PI n K w (64 * c + 64) co ro si := by
        intro hf
        refine ih (v + 1) (by omega) m (by omega) codes rows size ?_
        exact PI_skip hI 1 (fun j hj => by
          have : j = 0 := by omega
          subst this
          exact hf)
      unfold fX1_addWith_J137
      have q1 := cm_0 c hc64 v hv64
      by_cases hvc : v &&& c = v
      · rw [if_pos (q1.mpr hvc)]
        rw [decide_eq_true hvc, Bool.true_and] at pv
        have q2 := tb_at0 hv64 p
        cases q : tb p v
        · rw [if_pos (q2.mpr q), nI_1]
          exact skip (pv.trans q)
        · rw [if_neg (fun z => by rw [q2.mp z] at q; exact absurd q (by decide))]
          have hpr : prB K w (64 * c + v) = true := pv.trans q
          have h729 := cnt_729 K w (show 64 * c + v < 4096 by omega) hpr
          obtain ⟨hs, _⟩ := id hI
          rw [hs, if_neg (n729 h729), gd_in h729 (by decide), ipr_cls hn hc hvc, Option.bind_some, gd_in h729 (by decide), nI_clamp (by omega), nI_1, nI_1, show (64 : Int32) = nI 64 from rfl, pk_mul, nI_add, Nat.mul_comm c 64]
          exact ih (v + 1) (by omega) m (by omega) _ _ _ (PI_add hI hpr)
      · rw [if_neg (fun z => hvc (q1.mp z)), nI_1]
        refine skip ?_
        rw [pv, decide_eq_false hvc]
        rfl
theorem fd_cls {n K : Nat} (hn : n ≤ 6) (hK : K < 2 ^ n) (w : Int64) (bad : Nat → Int64) (codes : Nat → Int32) (rows : Nat → Int64) : ∃ b co ro, fX1_find bad codes rows (nI n) (nI K) w = some (b, co, ro, nI (cnt K w 4096)) ∧ PI n K w 4096 co ro (nI (cnt K w 4096)) := by
  have h64 := p64 hn
  have hK64 : K < 64 := by omega
  obtain ⟨b, eb, hb⟩ := fb_cls hK64 w bad
  unfold fX1_find
  rw [eb, Option.bind_some]
  obtain ⟨m, s, e, hI⟩ := loop0 (fun k i (s : (Nat → Int32) × (Nat → Int64) × Int32) => fX1_find_L14 (nI n) (nI K) b k i s.1 s.2.1 s.2.2) (fun i s => PI n K w (64 * i) s.1 s.2.1 s.2.2) 64 (s := (codes, rows, (0 : Int32))) (by decide) ⟨rfl, fun c hc => absurd hc (by omega)⟩ (by
    intro m i s hi hI
    obtain ⟨co, ro, si⟩ := s
    show ∃ s', fX1_find_L14 (nI n) (nI K) b (m + 1) (nI i) co ro si = _ ∧ _
    rw [fX1_find_L14, if_neg (n64 hi)]
    unfold fX1_find_J37
    have q1 := cm_0 K hK64 i hi
    by_cases hc : i &&& K = i
    · have hi2 : i < 2 ^ n := by rw [← hc]; exact Nat.lt_of_le_of_lt Nat.and_le_right hK
      rw [if_pos (q1.mpr hc)]
      obtain ⟨p, ep, hp⟩ := aw_mask hn hK hb hi2 hc co ro si
      obtain ⟨co', ro', si', e2, hI2⟩ := aw_loop hn hK hi2 hc hp (i + 1) 0 (by omega) 5000 (by omega) co ro si hI
      have e3 : fX1_addWith b co ro si (nI n) (nI i) = some (co', ro', si') := by
        rw [ep]
        unfold fX1_addWith_J50
        exact e2
      rw [e3, Option.bind_some, nI_1]
      exact ⟨(co', ro', si'), rfl, hI2⟩
    · rw [if_neg (fun z => hc (q1.mp z)), nI_1]
      refine ⟨(co, ro, si), rfl, ?_⟩
      exact PI_skip hI 64 (fun j hj => by
        rw [pr_cv K w hj, decide_eq_false hc]
        rfl))
  obtain ⟨co, ro, si⟩ := s
  have hsi : si = nI (cnt K w 4096) := hI.1
  subst hsi
  refine ⟨b, co, ro, ?_, hI⟩
  refine Eq.trans e ?_
  show fX1_find_L14 (nI n) (nI K) b (m + 1) (nI 64) co ro _ = _
  rw [fX1_find_L14, if_pos p64_]
