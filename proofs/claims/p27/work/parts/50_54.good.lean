/-! mathematics of the class -/
def mkN : Nat → (Nat → Bool) → Int64
  | 0, _ => 0
  | i + 1, p => mkN i p ||| (if p i = true then lsl_ 1 (nI i) else 0)
theorem mkN_b (p : Nat → Bool) {r : Nat} (hr : r < 64) : ∀ i, i ≤ 64 → tb (mkN i p) r = (decide (r < i) && p r) := by
  intro i
  induction i with
  | zero => intro _; exact tb_0 r
  | succ i ih =>
    intro hi
    show tb (mkN i p ||| _) r = _
    rw [tb_or, ih (by omega)]
    by_cases hp : p i = true
    · rw [if_pos hp, tb_one (by omega) hr]
      rcases Nat.lt_trichotomy r i with h | h | h
      · rw [decide_eq_true h, decide_eq_false (by omega), decide_eq_true (by omega), Bool.or_false]
      · subst h
        rw [decide_eq_false (by omega), decide_eq_true rfl, decide_eq_true (by omega), hp]
        rfl
      · rw [decide_eq_false (by omega), decide_eq_false (by omega), decide_eq_false (by omega)]
        rfl
    · rw [if_neg hp, tb_0, Bool.or_false]
      rcases Nat.lt_trichotomy r i with h | h | h
      · rw [decide_eq_true h, decide_eq_true (by omega)]
      · subst h
        have : p r = false := by simpa using hp
        rw [this, Bool.and_false, Bool.and_false]
      · rw [decide_eq_false (by omega), decide_eq_false (by omega)]
theorem al_cl {f : Nat} (hf : f < 64) (x : Int64) {r t : Nat} (hr : r < 64) (ht : t < 64) (h : t &&& f = t) : tb (al f x) (r ^^^ t) = tb (al f x) r := by
  rw [Bool.eq_iff_iff, al_b hf x (x64 hr ht), al_b hf x hr]
  have key : ∀ s, s &&& f = s → (t ^^^ s) &&& f = t ^^^ s := by
    intro s hs
    rw [Nat.and_xor_distrib_right, h, hs]
  constructor
  · rintro ⟨s, h1, h2, h3⟩
    exact ⟨t ^^^ s, x64 ht h1, key s h2, by rw [← Nat.xor_assoc]; exact h3⟩
  · rintro ⟨s, h1, h2, h3⟩
    refine ⟨t ^^^ s, x64 ht h1, key s h2, ?_⟩
    rw [Nat.xor_assoc, ← Nat.xor_assoc t t s, Nat.xor_self, Nat.zero_xor]
    exact h3
theorem al_al {f g : Nat} (hf : f < 64) (hg : g < 64) (hd : f &&& g = 0) (x : Int64) : al f (al g x) = al (f ||| g) x := by
  have hfg : f ||| g < 64 := Nat.or_lt_two_pow (n := 6) hf hg
  apply tb_ext
  intro r hr
  rw [Bool.eq_iff_iff, al_b hf _ hr, al_b hfg x hr]
  constructor
  · rintro ⟨s, h1, h2, h3⟩
    obtain ⟨s', g1, g2, g3⟩ := (al_b hg x (x64 hr h1)).mp h3
    refine ⟨s ^^^ s', x64 h1 g1, ?_, by rw [← Nat.xor_assoc]; exact g3⟩
    rw [sb_iff] at h2 g2 ⊢
    intro i
    have a := h2 i
    have b := g2 i
    rw [Nat.testBit_xor, Nat.testBit_or]
    revert a b
    cases s.testBit i <;> cases s'.testBit i <;> cases f.testBit i <;> cases g.testBit i <;> simp
  · rintro ⟨t, h1, h2, h3⟩
    have ht1 : t &&& f < 64 := Nat.lt_of_le_of_lt Nat.and_le_left h1
    have ht2 : t &&& g < 64 := Nat.lt_of_le_of_lt Nat.and_le_left h1
    have et : t = (t &&& f) ^^^ (t &&& g) := by
      apply Nat.eq_of_testBit_eq
      intro i
      have a := (sb_iff.mp h2) i
      have b : (f &&& g).testBit i = false := by rw [hd]; exact Nat.zero_testBit i
      rw [Nat.testBit_or] at a
      rw [Nat.testBit_and] at b
      rw [Nat.testBit_xor, Nat.testBit_and, Nat.testBit_and]
      revert a b
      cases t.testBit i <;> cases f.testBit i <;> cases g.testBit i <;> simp
    refine ⟨t &&& f, ht1, by rw [Nat.and_assoc, Nat.and_self], (al_b hg x (x64 hr ht1)).mpr ⟨t &&& g, ht2, by rw [Nat.and_assoc, Nat.and_self], ?_⟩⟩
    rw [Nat.xor_assoc, ← et]
    exact h3
theorem al_0 (x : Int64) : al 0 x = x := by
  apply tb_ext
  intro r hr
  rw [Bool.eq_iff_iff, al_b (by decide) x hr]
  constructor
  · rintro ⟨s, h1, h2, h3⟩
    have : s = 0 := by rw [← h2, Nat.and_zero]
    subst this
    rw [Nat.xor_zero] at h3
    exact h3
  · intro h
    exact ⟨0, by decide, rfl, by rw [Nat.xor_zero]; exact h⟩
def rwS (n code : Nat) : Int64 := mkN (2 ^ n) (fun r => decide (r &&& (code / 64) = code % 64))
def ms (K c : Nat) : Nat := K &&& (63 - c)
def isP (K code : Nat) : Bool := decide ((code / 64) &&& K = code / 64) && decide ((code % 64) &&& (code / 64) = code % 64)
theorem ms_lt {K : Nat} (hK : K < 64) (c : Nat) : ms K c < 64 := Nat.lt_of_le_of_lt Nat.and_le_left hK
theorem cm_0 : ∀ K, K < 64 → ∀ c, c < 64 → (nI c &&& (nI K ^^^ (-1)) = 0 ↔ c &&& K = c) := by decide +kernel
def dz (n K : Nat) (Z O : Nat → Int64) (o : Nat) : Int64 := al (fg n K) (Z o) &&& (al (fg n K) (O o) ^^^ (-1))
def dn (n K : Nat) (Z O : Nat → Int64) (o : Nat) : Int64 := al (fg n K) (O o) &&& (al (fg n K) (Z o) ^^^ (-1))
theorem dz_b (n K : Nat) (Z O : Nat → Int64) (o : Nat) {r : Nat} (hr : r < 64) : tb (dz n K Z O o) r = (tb (al (fg n K) (Z o)) r && !tb (al (fg n K) (O o)) r) := by
  unfold dz
  rw [tb_and, tb_not _ hr]
theorem dn_b (n K : Nat) (Z O : Nat → Int64) (o : Nat) {r : Nat} (hr : r < 64) : tb (dn n K Z O o) r = (tb (al (fg n K) (O o)) r && !tb (al (fg n K) (Z o)) r) := by
  unfold dn
  rw [tb_and, tb_not _ hr]
theorem dz_sub {n K : Nat} {Z O : Nat → Int64} (hk : OKs n K Z O) {o : Nat} (ho : o < 4) : subR n (dz n K Z O o) := by
  intro r hr h
  rw [dz_b n K Z O o hr, Bool.and_eq_true] at h
  exact al_sub hk.2.1 (fg_lt2 n K) (hk.2.2.2 o ho).1 r hr h.1
theorem dn_sub {n K : Nat} {Z O : Nat → Int64} (hk : OKs n K Z O) {o : Nat} (ho : o < 4) : subR n (dn n K Z O o) := by
  intro r hr h
  rw [dn_b n K Z O o hr, Bool.and_eq_true] at h
  exact al_sub hk.2.1 (fg_lt2 n K) (hk.2.2.2 o ho).2.1 r hr h.1
theorem dz_cl (n K : Nat) (Z O : Nat → Int64) (o : Nat) {r t : Nat} (hr : r < 64) (ht : t < 64) (h : t &&& fg n K = t) : tb (dz n K Z O o) (r ^^^ t) = tb (dz n K Z O o) r := by
  rw [dz_b n K Z O o hr, dz_b n K Z O o (x64 hr ht), al_cl (fg_lt n K) _ hr ht h, al_cl (fg_lt n K) _ hr ht h]
theorem dn_cl (n K : Nat) (Z O : Nat → Int64) (o : Nat) {r t : Nat} (hr : r < 64) (ht : t < 64) (h : t &&& fg n K = t) : tb (dn n K Z O o) (r ^^^ t) = tb (dn n K Z O o) r := by
  rw [dn_b n K Z O o hr, dn_b n K Z O o (x64 hr ht), al_cl (fg_lt n K) _ hr ht h, al_cl (fg_lt n K) _ hr ht h]
theorem mk_dz {n K : Nat} {Z O : Nat → Int64} (hk : OKs n K Z O) {o : Nat} (ho : o < 4) : mkN (2 ^ n) (fun r => decide (dv (tb (al (fg n K) (Z o)) r) (tb (al (fg n K) (O o)) r) = 0)) = dz n K Z O o := by
  apply tb_ext
  intro r hr
  rw [mkN_b _ hr _ (p64 hk.2.1), dz_b n K Z O o hr]
  have hz := al_sub hk.2.1 (fg_lt2 n K) (hk.2.2.2 o ho).1 r hr
  revert hz
  cases tb (al (fg n K) (Z o)) r <;> cases tb (al (fg n K) (O o)) r <;> intro hz
  · cases decide (r < 2 ^ n) <;> rfl
  · cases decide (r < 2 ^ n) <;> rfl
  · rw [decide_eq_true (hz rfl)]; rfl
  · cases decide (r < 2 ^ n) <;> rfl
theorem mk_dn {n K : Nat} {Z O : Nat → Int64} (hk : OKs n K Z O) {o : Nat} (ho : o < 4) : mkN (2 ^ n) (fun r => decide (dv (tb (al (fg n K) (Z o)) r) (tb (al (fg n K) (O o)) r) = 1)) = dn n K Z O o := by
  apply tb_ext
  intro r hr
  rw [mkN_b _ hr _ (p64 hk.2.1), dn_b n K Z O o hr]
  have hz := al_sub hk.2.1 (fg_lt2 n K) (hk.2.2.2 o ho).2.1 r hr
  revert hz
  cases tb (al (fg n K) (Z o)) r <;> cases tb (al (fg n K) (O o)) r <;> intro hz
  · cases decide (r < 2 ^ n) <;> rfl
  · rw [decide_eq_true (hz rfl)]; rfl
  · cases decide (r < 2 ^ n) <;> rfl
  · cases decide (r < 2 ^ n) <;> rfl
def gdS (n K : Nat) (w : Int64) (code : Nat) : Int64 := if isP K code = true then (if rwS n code &&& w = 0 then rwS n code else 0) else 0
theorem lg0 (x : Int64) : (lg_cmp x 0 = 0) ↔ x = 0 := by
  constructor
  · intro h
    unfold lg_cmp at h
    split at h
    · exact absurd h (by decide)
    · split at h
      · assumption
      · exact absurd h (by decide)
  · rintro rfl
    decide
