/-! the law's primes and covers -/
theorem z_iff {a : Nat} (h : a < 2 ^ 31) : nI a = 0 ↔ a = 0 := by
  constructor
  · intro e
    rcases Nat.eq_zero_or_pos a with q | q
    · exact q
    · exact absurd e (nI_ne0 q h)
  · intro e; rw [e]; rfl
theorem rz {n : Nat} (hn : n ≤ 4) {w : Int64} {zb : Nat} (hz : ∀ i, zb.testBit i = (decide (i < 2 ^ n) && tb w i)) {c v : Nat} (hv : v < 64) : (bmN (2 ^ n) (fun r => decide (r &&& c = v)) &&& zb = 0) ↔ rwS n (64 * c + v) &&& w = 0 := by
  have h16 := p16 hn
  have key : ∀ i, i < 64 → (bmN (2 ^ n) (fun r => decide (r &&& c = v)) &&& zb).testBit i = tb (rwS n (64 * c + v) &&& w) i := by
    intro i hi
    rw [Nat.testBit_and, bm_b, hz, tb_and, rw_b (by omega) hv hi]
    cases decide (i < 2 ^ n) <;> cases decide (i &&& c = v) <;> rfl
  constructor
  · intro h
    refine tb_eq0.mpr (fun i hi => ?_)
    rw [← key i hi, h, Nat.zero_testBit]
  · intro h
    refine Nat.eq_of_testBit_eq (fun i => ?_)
    rw [Nat.zero_testBit]
    by_cases hi : i < 64
    · rw [key i hi, h, tb_0]
    · rw [Nat.testBit_and, bm_b, decide_eq_false (by omega), Bool.false_and, Bool.false_and]
theorem x_and {c i : Nat} (h : c.testBit i = true) : c &&& 2 ^ i = 2 ^ i := by
  rw [Nat.and_comm]; exact p2_sub h
section LPR
variable {n K : Nat} {nn : Nat → Int32} {w : Int64} {zb : Nat}
theorem pr_loop (hn : n ≤ 4) (hK : K < 2 ^ n) (h0 : nn 0 = nI n) (hs : subR n w) (hcl : ∀ r t, r < 64 → t < 64 → t &&& fg n K = t → tb w (r ^^^ t) = tb w r) (hz : ∀ i, zb.testBit i = (decide (i < 2 ^ n) && tb w i)) (hzb : zb < 65536) {c v : Nat} (hc : c &&& K = c) (hv : v &&& c = v) (hc16 : c < 16) (hv16 : v < 16) : ∀ d i, i + d = n → ∀ fuel, d < fuel → ((∀ j, i ≤ j → j < n → nd K w c v j = true) → fL_prime_L16 (nI zb) (nI c) (nI v) nn fuel (nI i) = some 1) ∧ ((∃ j, i ≤ j ∧ j < n ∧ nd K w c v j = false) → fL_prime_L16 (nI zb) (nI c) (nI v) nn fuel (nI i) = some 0) := by
  intro d
  induction d with
  | zero =>
    intro i hi fuel hf
    obtain ⟨f, rfl⟩ : ∃ f, fuel = f + 1 := ⟨fuel - 1, by omega⟩
    constructor
    · intro _
      rw [fL_prime_L16, g05, c0_, h0, if_pos (nI_le (by omega) (by omega))]
    · rintro ⟨j, h1, h2, -⟩
      omega
  | succ d ih =>
    intro i hi fuel hf
    obtain ⟨f, rfl⟩ : ∃ f, fuel = f + 1 := ⟨fuel - 1, by omega⟩
    have hi4 : i < 4 := by omega
    have h16 := p16 hn
    obtain ⟨ih1, ih2⟩ := ih (i + 1) (by omega) f (by omega)
    have hgo : nd K w c v i = true → fL_prime_L16 (nI zb) (nI c) (nI v) nn (f + 1) (nI i) = fL_prime_L16 (nI zb) (nI c) (nI v) nn f (nI (i + 1)) := by
      intro hnd
      rw [fL_prime_L16, g05, c0_, h0, if_neg (nI_ge (by omega) (by omega))]
      unfold fL_prime_J61
      rw [nI_1]
      cases q : c.testBit i
      · rw [if_neg (fun z => by rw [(kb_4 c (by omega) i (by omega)).mp z] at q; cases q)]
      · have hx1 : c ^^^ (c &&& 2 ^ i) = c ^^^ 2 ^ i := by rw [x_and q]
        have hb1 := cx_4 c (by omega) v (by omega) hv i (by omega) q
        obtain ⟨hb2, -⟩ := cx_5 K (by omega) c (by omega) hc i (by omega) q
        have hcx := (cx_2 c (by omega) i (by omega) q).2.2
        have hvx := (cx_3 v (by omega) i (by omega)).2.2.2
        have hne := nd_eq (n := n) (K := K) (w := w) (by omega) hK hs hcl (show c < 64 by omega) (show v < 64 by omega) hc hv (show i < 6 by omega) q
        have hg0 := gd_0 (n := n) (K := K) (w := w) (by omega) hK hs hcl hcx hvx
        have hbad : badB K w (c ^^^ 2 ^ i) (v ^^^ (v &&& 2 ^ i)) = true := by
          have h1 : badB K w (c ^^^ 2 ^ i) v = true := by
            unfold nd at hnd
            rw [q] at hnd
            exact hnd
          have h2 := hg0.mp (hne.mpr h1)
          cases q9 : badB K w (c ^^^ 2 ^ i) (v ^^^ (v &&& 2 ^ i))
          · exact absurd ⟨hb2, hb1, q9⟩ h2
          · rfl
        have hrow : ¬ (bmN (2 ^ n) (fun r => decide (r &&& (c ^^^ 2 ^ i) = v ^^^ (v &&& 2 ^ i))) &&& zb = 0) := by
          intro z
          have h3 := (rw_al (by omega) hK hs hcl hb2 hb1 hcx hvx).mp ((rz hn hz hvx).mp z)
          unfold badB at hbad
          rw [h3] at hbad
          cases hbad
        rw [if_pos ((kb_4 c (by omega) i (by omega)).mpr q), al_sh i (by omega), nI_andn, nI_andn, hx1, lg_rows hn h0 (by omega), Option.bind_some, nI_an, if_neg (fun z => hrow ((z_iff (Nat.lt_of_le_of_lt Nat.and_le_right (by omega))).mp z))]
    have hst : nd K w c v i = false → fL_prime_L16 (nI zb) (nI c) (nI v) nn (f + 1) (nI i) = some 0 := by
      intro hnd
      unfold nd at hnd
      have q : c.testBit i = true := by
        cases q : c.testBit i
        · rw [q] at hnd; cases hnd
        · rfl
      have hbf : badB K w (c ^^^ 2 ^ i) v = false := by
        rw [q] at hnd; exact hnd
      rw [fL_prime_L16, g05, c0_, h0, if_neg (nI_ge (by omega) (by omega))]
      have hx1 : c ^^^ (c &&& 2 ^ i) = c ^^^ 2 ^ i := by rw [x_and q]
      have hb1 := cx_4 c (by omega) v (by omega) hv i (by omega) q
      obtain ⟨hb2, -⟩ := cx_5 K (by omega) c (by omega) hc i (by omega) q
      have hcx := (cx_2 c (by omega) i (by omega) q).2.2
      have hvx := (cx_3 v (by omega) i (by omega)).2.2.2
      have hne := nd_eq (n := n) (K := K) (w := w) (by omega) hK hs hcl (show c < 64 by omega) (show v < 64 by omega) hc hv (show i < 6 by omega) q
      have hg0 := gd_0 (n := n) (K := K) (w := w) (by omega) hK hs hcl hcx hvx
      have hbad : badB K w (c ^^^ 2 ^ i) (v ^^^ (v &&& 2 ^ i)) = false := by
        cases q9 : badB K w (c ^^^ 2 ^ i) (v ^^^ (v &&& 2 ^ i))
        · rfl
        · have h4 := hne.mp (hg0.mpr (fun z => by rw [q9] at z; cases z.2.2))
          rw [h4] at hbf
          cases hbf
      have hrow : bmN (2 ^ n) (fun r => decide (r &&& (c ^^^ 2 ^ i) = v ^^^ (v &&& 2 ^ i))) &&& zb = 0 := (rz hn hz hvx).mpr ((rw_al (by omega) hK hs hcl hb2 hb1 hcx hvx).mpr hbad)
      rw [if_pos ((kb_4 c (by omega) i (by omega)).mpr q), al_sh i (by omega), nI_andn, nI_andn, hx1, lg_rows hn h0 (by omega), Option.bind_some, nI_an, hrow, if_pos (show nI 0 = 0 from rfl)]
    constructor
    · intro h
      rw [hgo (h i (Nat.le_refl _) (by omega))]
      exact ih1 (fun j h1 h2 => h j (by omega) h2)
    · rintro ⟨j, h1, h2, h3⟩
      cases q : nd K w c v i
      · exact hst q
      · rw [hgo q]
        refine ih2 ⟨j, ?_, h2, h3⟩
        rcases Nat.eq_or_lt_of_le h1 with e | e
        · subst e; rw [q] at h3; cases h3
        · exact e
theorem lg_prime (hn : n ≤ 4) (hK : K < 2 ^ n) (h0 : nn 0 = nI n) (hs : subR n w) (hcl : ∀ r t, r < 64 → t < 64 → t &&& fg n K = t → tb w (r ^^^ t) = tb w r) (hz : ∀ i, zb.testBit i = (decide (i < 2 ^ n) && tb w i)) (hzb : zb < 65536) {c v : Nat} (hc : c &&& K = c) (hv : v &&& c = v) (hc16 : c < 16) (hv16 : v < 16) : fL_prime nn (nI zb) (nI c) (nI v) = some (bI (prB K w (64 * c + v))) := by
  have hal := rw_al (n := n) (w := w) (by omega) hK hs hcl hc hv (show c < 64 by omega) (show v < 64 by omega)
  unfold fL_prime
  rw [lg_rows hn h0 (by omega), Option.bind_some, nI_an, pr_cv K w (by omega), decide_eq_true hc, decide_eq_true hv]
  obtain ⟨l1, l2⟩ := pr_loop hn hK h0 hs hcl hz hzb hc hv hc16 hv16 n 0 (Nat.zero_add n) 5000 (by omega)
  cases q : badB K w c v
  · rw [(rz hn hz (by omega)).mpr (hal.mpr q), if_pos (show nI 0 = 0 from rfl)]
    cases q2 : allN 6 (fun i => nd K w c v i)
    · have : ∃ j, 0 ≤ j ∧ j < n ∧ nd K w c v j = false := by
        by_cases h : ∀ j, j < n → nd K w c v j = true
        · exfalso
          have h6 : allN 6 (fun i => nd K w c v i) = true := by
            refine allN_iff.mpr (fun j _ => ?_)
            by_cases hj : j < n
            · exact h j hj
            · have hcn : c < 2 ^ n := by rw [← hc]; exact Nat.lt_of_le_of_lt Nat.and_le_right hK
              show (!c.testBit j || _) = true
              rw [Nat.testBit_lt_two_pow (Nat.lt_of_lt_of_le hcn (Nat.pow_le_pow_right (by decide) (by omega)))]
              rfl
          rw [h6] at q2; cases q2
        · have := Classical.not_forall.mp h
          obtain ⟨j, hj⟩ := this
          have hj2 := Classical.not_imp.mp hj
          refine ⟨j, Nat.zero_le _, hj2.1, ?_⟩
          cases q3 : nd K w c v j
          · rfl
          · exact absurd q3 hj2.2
      rw [show (0 : Int32) = nI 0 from rfl, l2 this]
      rfl
    · rw [show (0 : Int32) = nI 0 from rfl, l1 (fun j _ hj => allN_iff.mp q2 j (by omega))]
      rfl
  · rw [if_neg (fun z => by
      have h3 := hal.mp ((rz hn hz (by omega)).mp ((z_iff (Nat.lt_of_le_of_lt Nat.and_le_right (by omega))).mp z))
      unfold badB at q
      rw [h3] at q
      cases q)]
    rfl
end LPR
/-! how many primes -/
theorem sum_grid (a b : Nat) (g : Nat → Nat) : sumN (a * b) g = sumN a (fun c => sumN b (fun v => g (b * c + v))) := by
  induction a with
  | zero => rw [Nat.zero_mul]; rfl
  | succ a ih =>
    rw [Nat.succ_mul, sumN_split, ih]
    show _ = sumN a _ + sumN b (fun v => g (b * a + v))
    rw [Nat.mul_comm a b]
theorem pr_out {K : Nat} {w : Int64} {c v : Nat} (hv : v < 64) (h : ¬ (c &&& K = c ∧ v &&& c = v)) : prB K w (64 * c + v) = false := by
  rw [pr_cv K w hv]
  by_cases h1 : c &&& K = c
  · rw [decide_eq_false (fun z => h ⟨h1, z⟩), Bool.and_false, Bool.false_and, Bool.false_and]
  · rw [decide_eq_false h1, Bool.false_and, Bool.false_and, Bool.false_and]
theorem cnt_grid {n K : Nat} (hn : n ≤ 4) (hK : K < 2 ^ n) (w : Int64) : cnt K w 4096 = sumN 16 (fun c => sumN 16 (fun v => (prB K w (64 * c + v)).toNat)) := by
  have h16 := p16 hn
  unfold cnt
  rw [show (4096 : Nat) = 64 * 64 from rfl, sum_grid, show (64 : Nat) = 16 + 48 from rfl, sumN_split 16 48, sumN_0 (n := 48) (fun c _ => sumN_0 (fun v hv => by
    show (prB K w (64 * (16 + c) + v)).toNat = 0
    rw [pr_out hv (fun z => by have := Nat.and_le_right (n := 16 + c) (m := K); omega)]; rfl)), Nat.add_zero]
  refine sumN_congr (fun c hc => ?_)
  show sumN (16 + 48) (fun v => (prB K w (64 * c + v)).toNat) = _
  rw [sumN_split 16 48, sumN_0 (n := 48) (fun v hv => by
    show (prB K w (64 * c + (16 + v))).toNat = 0
    rw [pr_out (by omega) (fun z => by have := Nat.and_le_right (n := 16 + v) (m := c); omega)]; rfl), Nat.add_zero]
theorem n16 {i : Nat} (h : i < 16) : ¬ (16 : Int32) ≤ nI i := nI_ge (b := 16) h (by decide)
theorem zb_bits {n K : Nat} (hn : n ≤ 4) {Z O : Nat → Int64} {o : Nat} : ∀ i, (bmN (2 ^ n) (fun r => decide (DV n K Z O o r = 0))).testBit i = (decide (i < 2 ^ n) && tb (dz n K Z O o) i) := by
  intro i
  have h16 := p16 hn
  rw [bm_b]
  by_cases hi : i < 2 ^ n
  · rw [dz_b n K Z O o (by omega)]
    unfold DV
    cases tb (al (fg n K) (Z o)) i <;> cases tb (al (fg n K) (O o)) i <;> rfl
  · rw [decide_eq_false hi, Bool.false_and, Bool.false_and]
theorem ob_bits {n K : Nat} (hn : n ≤ 4) {Z O : Nat → Int64} {o : Nat} : ∀ i, (bmN (2 ^ n) (fun r => decide (DV n K Z O o r = 1))).testBit i = (decide (i < 2 ^ n) && tb (dn n K Z O o) i) := by
  intro i
  have h16 := p16 hn
  rw [bm_b]
  by_cases hi : i < 2 ^ n
  · rw [dn_b n K Z O o (by omega)]
    unfold DV
    cases tb (al (fg n K) (Z o)) i <;> cases tb (al (fg n K) (O o)) i <;> rfl
  · rw [decide_eq_false hi, Bool.false_and, Bool.false_and]
theorem lg_primes {n K : Nat} (hn : n ≤ 4) {nn : Nat → Int32} (h0 : nn 0 = nI n) (h1 : nn 1 = nI K) {Z O : Nat → Int64} (hk : OKs n K Z O) {tr : Nat → Int32} (ht : TR n Z O tr) {o : Nat} (ho : o < 4) : fL_primes nn tr (nI o) = some (nI (PN n K Z O o)) := by
  have h16 := p16 hn
  have hK := hk.2.2.1
  unfold fL_primes
  rw [lg_those hn h0 h1 hk ht ho 0, Option.bind_some]
  have hz := zb_bits (n := n) (K := K) hn (Z := Z) (O := O) (o := o)
  have hzb := bm_65 hn (fun r => decide (DV n K Z O o r = 0))
  generalize bmN (2 ^ n) (fun r => decide (DV n K Z O o r = 0)) = zb at hz hzb
  have hs := dz_sub hk ho
  have hcl := fun r t => dz_cl n K Z O o (r := r) (t := t)
  unfold PN
  rw [cnt_grid hn hK]
  generalize dz n K Z O o = w at hz hs hcl
  have hrow : ∀ c, c < 16 → ∀ (s : Nat) (kk : Int32 → Int32 → Option Int32), fL_primes_L24 (nI zb) (nI c) nn kk 5000 (nI s) 0 = kk (nI (s + sumN 16 (fun v => (prB K w (64 * c + v)).toNat))) (nI (c + 1)) := by
    intro c hc s kk
    obtain ⟨m, t, e, hI⟩ := loop0 (fun m i t => fL_primes_L24 (nI zb) (nI c) nn kk m t i) (fun i t => t = nI (s + sumN i (fun v => (prB K w (64 * c + v)).toNat))) 16 (s := nI s) (by omega) rfl (by
      intro m i t hi hI
      subst hI
      refine ⟨_, ?_, rfl⟩
      show fL_primes_L24 (nI zb) (nI c) nn kk (m + 1) _ (nI i) = fL_primes_L24 (nI zb) (nI c) nn kk m (nI (s + (sumN i (fun v => (prB K w (64 * c + v)).toNat) + (prB K w (64 * c + i)).toNat))) (nI (i + 1))
      rw [fL_primes_L24, if_neg (n16 hi), g15, c1_, h1]
      unfold fL_primes_J67
      rw [nI_1, nI_1]
      by_cases q1 : c &&& K = c
      · rw [if_pos ((cm_0 K (by omega) c (by omega)).mpr q1)]
        by_cases q2 : i &&& c = i
        · rw [if_pos ((cm_0 c (by omega) i (by omega)).mpr q2), lg_prime hn hK h0 hs hcl hz hzb q1 q2 hc hi, Option.bind_some]
          cases prB K w (64 * c + i)
          · rfl
          · rfl
        · rw [if_neg (fun z => q2 ((cm_0 c (by omega) i (by omega)).mp z)), pr_out (by omega) (fun z => q2 z.2)]
          rfl
      · rw [if_neg (fun z => q1 ((cm_0 K (by omega) c (by omega)).mp z)), pr_out (by omega) (fun z => q1 z.1)]
        rfl)
    refine Eq.trans e ?_
    show fL_primes_L24 (nI zb) (nI c) nn kk (m + 1) t (nI 16) = _
    rw [fL_primes_L24, if_pos (by decide), hI]
    unfold fL_primes_J73
    rw [nI_1]
  obtain ⟨m, t, e, hI⟩ := loop0 (fun m i t => fL_primes_L14 (nI zb) nn m t i) (fun i t => t = nI (sumN i (fun c => sumN 16 (fun v => (prB K w (64 * c + v)).toNat)))) 16 (s := 0) (by omega) rfl (by
    intro m i t hi hI
    subst hI
    refine ⟨_, ?_, rfl⟩
    show fL_primes_L14 (nI zb) nn (m + 1) _ (nI i) = _
    rw [fL_primes_L14, if_neg (n16 hi), hrow i hi]
    rfl)
  refine Eq.trans e ?_
  show fL_primes_L14 (nI zb) nn (m + 1) t (nI 16) = _
  rw [fL_primes_L14, if_pos (by decide), hI]
