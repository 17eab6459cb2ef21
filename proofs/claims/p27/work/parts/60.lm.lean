/-! the law's leaves: bits, rows, what is decided -/
def bmN : Nat → (Nat → Bool) → Nat
  | 0, _ => 0
  | m + 1, p => bmN m p ||| (if p m = true then 2 ^ m else 0)
theorem bm_b (p : Nat → Bool) (i : Nat) : ∀ m, (bmN m p).testBit i = (decide (i < m) && p i) := by
  intro m
  induction m with
  | zero =>
    show (0 : Nat).testBit i = _
    rw [Nat.zero_testBit, decide_eq_false (Nat.not_lt_zero i), Bool.false_and]
  | succ m ih =>
    show (bmN m p ||| (if p m = true then 2 ^ m else 0)).testBit i = _
    rw [Nat.testBit_or, ih]
    by_cases e : i = m
    · subst e
      rw [decide_eq_false (Nat.lt_irrefl i), Bool.false_and, Bool.false_or, decide_eq_true (Nat.lt_succ_self i), Bool.true_and]
      by_cases h : p i = true
      · rw [if_pos h, Nat.testBit_two_pow_self, h]
      · rw [if_neg h, Nat.zero_testBit]
        cases q : p i
        · rfl
        · exact absurd q h
    · have e2 : (if p m = true then 2 ^ m else 0).testBit i = false := by
        by_cases h : p m = true
        · rw [if_pos h, Nat.testBit_two_pow_of_ne (fun w => e w.symm)]
        · rw [if_neg h, Nat.zero_testBit]
      rw [e2, Bool.or_false]
      by_cases h : i < m
      · rw [decide_eq_true h, decide_eq_true (Nat.lt_succ_of_lt h)]
      · rw [decide_eq_false h, decide_eq_false (by omega)]
theorem bm_lt (p : Nat → Bool) (m : Nat) : bmN m p < 2 ^ m := by
  refine Nat.lt_pow_two_of_testBit _ (fun i hi => ?_)
  rw [bm_b, decide_eq_false (by omega), Bool.false_and]
theorem bm_s (p : Nat → Bool) (m : Nat) : bmN (m + 1) p = bmN m p ||| (if p m = true then 2 ^ m else 0) := rfl
theorem bm_congr {m : Nat} {p q : Nat → Bool} (h : ∀ i, i < m → p i = q i) : bmN m p = bmN m q := by
  refine Nat.eq_of_testBit_eq (fun i => ?_)
  rw [bm_b, bm_b]
  by_cases hi : i < m
  · rw [h i hi]
  · rw [decide_eq_false hi, Bool.false_and, Bool.false_and]
theorem p16 {n : Nat} (h : n ≤ 4) : 2 ^ n ≤ 16 := Nat.pow_le_pow_right (n := 2) (by decide) h
theorem bm_65 {n : Nat} (hn : n ≤ 4) (p : Nat → Bool) : bmN (2 ^ n) p < 65536 := Nat.lt_of_lt_of_le (bm_lt p _) (Nat.pow_le_pow_right (n := 2) (by decide) (p16 hn) : 2 ^ 2 ^ n ≤ 2 ^ 16)
theorem g05 {α : Type} (k : Option α) : gd (0 : Int32) 5 k = k := if_neg (by decide)
theorem g15 {α : Type} (k : Option α) : gd (1 : Int32) 5 k = k := if_neg (by decide)
theorem g25 {α : Type} (k : Option α) : gd (2 : Int32) 5 k = k := if_neg (by decide)
theorem g35 {α : Type} (k : Option α) : gd (3 : Int32) 5 k = k := if_neg (by decide)
theorem g45 {α : Type} (k : Option α) : gd (4 : Int32) 5 k = k := if_neg (by decide)
theorem ix16 (o r : Nat) : (16 : Int32) * nI o + nI r = nI (16 * o + r) := by
  rw [show (16 : Int32) * nI o = nI (16 * o) from pk_mul 16 o, nI_add]
theorem m1_b : ∀ i, i < 32 → (-1 : Int32).toBitVec.getLsbD i = true := by decide +kernel
theorem nI_andn (a b : Nat) : nI a &&& (nI b ^^^ (-1)) = nI (a ^^^ (a &&& b)) := by
  apply Int32.toBitVec_inj.mp
  apply BitVec.eq_of_getLsbD_eq
  intro i hi
  rw [Int32.toBitVec_and, BitVec.getLsbD_and, Int32.toBitVec_xor, BitVec.getLsbD_xor, m1_b i hi]
  show ((BitVec.ofNat 32 a).getLsbD i && ((BitVec.ofNat 32 b).getLsbD i ^^ true)) = (BitVec.ofNat 32 (a ^^^ (a &&& b))).getLsbD i
  rw [BitVec.getLsbD_ofNat, BitVec.getLsbD_ofNat, BitVec.getLsbD_ofNat, decide_eq_true hi, Nat.testBit_xor, Nat.testBit_and]
  cases a.testBit i <;> cases b.testBit i <;> rfl
/-! ones -/
def ocb (b : Nat) : Nat := sumN 16 (fun i => (b.testBit i).toNat)
theorem sum1 (w : Nat) (f : Nat → Nat) : sumN (w + 1) f = f 0 + sumN w (fun i => f (i + 1)) := by
  induction w with
  | zero => show sumN 0 f + f 0 = f 0 + 0; show 0 + f 0 = f 0 + 0; omega
  | succ w ih =>
    show sumN (w + 1) f + f (w + 1) = f 0 + (sumN w (fun i => f (i + 1)) + f (w + 1))
    rw [ih]; omega
theorem kern : ∀ w b, 0 < b → b < 2 ^ w → sumN w (fun i => ((b &&& (b - 1)).testBit i).toNat) + 1 = sumN w (fun i => (b.testBit i).toNat) := by
  intro w
  induction w with
  | zero => intro b h1 h2; exact absurd h2 (by show ¬ b < 1; omega)
  | succ w ih =>
    intro b h1 h2
    rw [sum1, sum1]
    have hq : b / 2 < 2 ^ w := by rw [Nat.pow_succ] at h2; omega
    have ht : ∀ i, b.testBit (i + 1) = (b / 2).testBit i := fun i => Nat.testBit_succ b i
    rcases Nat.mod_two_eq_zero_or_one b with h | h
    · have hb1 : (b - 1) / 2 = b / 2 - 1 := by omega
      have e0 : b.testBit 0 = false := by rw [Nat.testBit_zero, h]; rfl
      have e1 : ∀ i, (b &&& (b - 1)).testBit (i + 1) = ((b / 2) &&& (b / 2 - 1)).testBit i := by
        intro i
        rw [Nat.testBit_and, Nat.testBit_and, ht i, Nat.testBit_succ (b - 1) i, hb1]
      have e2 : (b &&& (b - 1)).testBit 0 = false := by rw [Nat.testBit_and, e0]; rfl
      rw [e0, e2, sumN_congr (fun i _ => by rw [e1 i]), sumN_congr (fun i _ => congrArg Bool.toNat (ht i))]
      have := ih (b / 2) (by omega) hq
      show 0 + _ + 1 = 0 + _
      omega
    · have hb1 : (b - 1) / 2 = b / 2 := by omega
      have e0 : b.testBit 0 = true := by rw [Nat.testBit_zero, h]; rfl
      have e9 : (b - 1).testBit 0 = false := by rw [Nat.testBit_zero, show (b - 1) % 2 = 0 by omega]; rfl
      have e1 : ∀ i, (b &&& (b - 1)).testBit (i + 1) = (b / 2).testBit i := by
        intro i
        rw [Nat.testBit_and, ht i, Nat.testBit_succ (b - 1) i, hb1, Bool.and_self]
      have e2 : (b &&& (b - 1)).testBit 0 = false := by rw [Nat.testBit_and, e9, Bool.and_false]
      rw [e0, e2, sumN_congr (fun i _ => by rw [e1 i]), sumN_congr (fun i _ => congrArg Bool.toNat (ht i))]
      show 0 + _ + 1 = 1 + _
      omega
theorem ones_st : ∀ d b, ocb b = d → b < 65536 → ∀ fuel, d < fuel → ∀ c, fL_ones_L2 fuel (nI b) (nI c) = some (nI (c + d)) := by
  intro d
  induction d with
  | zero =>
    intro b hb hb2 fuel hf c
    obtain ⟨f, rfl⟩ : ∃ f, fuel = f + 1 := ⟨fuel - 1, by omega⟩
    have h0 : b = 0 := by
      rcases Nat.eq_zero_or_pos b with h | h
      · exact h
      · have := kern 16 b h hb2
        unfold ocb at hb
        omega
    rw [fL_ones_L2, if_pos (by rw [h0]; decide)]
    rfl
  | succ d ih =>
    intro b hb hb2 fuel hf c
    obtain ⟨f, rfl⟩ : ∃ f, fuel = f + 1 := ⟨fuel - 1, by omega⟩
    have h0 : 0 < b := by
      rcases Nat.eq_zero_or_pos b with h | h
      · subst h
        have h9 : ocb 0 = 0 := by decide
        omega
      · exact h
    have hk := kern 16 b h0 hb2
    have hs : nI b - 1 = nI (b - 1) := pk_sub (b := 1) h0
    rw [fL_ones_L2, if_neg (nI_ne0 h0 (by omega)), hs, nI_an, nI_1, ih (b &&& (b - 1)) (by unfold ocb at hb ⊢; omega) (Nat.lt_of_le_of_lt Nat.and_le_left hb2) f (by omega) (c + 1)]
    congr 2
    omega
theorem ocb_le (b : Nat) : ocb b ≤ 16 := by
  have := sumN_le (n := 16) (f := fun i => (b.testBit i).toNat) (g := fun _ => 1) (fun i _ => by cases b.testBit i <;> decide)
  rw [sumN_one] at this
  exact this
theorem lg_ones {b : Nat} (hb : b < 65536) : fL_ones (nI b) = some (nI (ocb b)) := by
  have := ones_st (ocb b) b rfl hb 5000 (by have := ocb_le b; omega) 0
  rw [Nat.zero_add] at this
  exact this
theorem sumN_split (a b : Nat) (f : Nat → Nat) : sumN (a + b) f = sumN a f + sumN b (fun i => f (a + i)) := sumN_front a b f
theorem ocb_bm {m : Nat} (hm : m ≤ 16) (p : Nat → Bool) : ocb (bmN m p) = sumN m (fun i => (p i).toNat) := by
  unfold ocb
  obtain ⟨d, hd⟩ : ∃ d, 16 = m + d := ⟨16 - m, by omega⟩
  rw [hd, sumN_split, sumN_congr (fun i hi => by rw [bm_b, decide_eq_true hi, Bool.true_and] : ∀ i, i < m → ((bmN m p).testBit i).toNat = (p i).toNat), sumN_0 (n := d) (fun i _ => by rw [bm_b, decide_eq_false (by omega), Bool.false_and]; rfl)]
  rfl
theorem pc_bm {n : Nat} (hn : n ≤ 4) {x : Int64} {p : Nat → Bool} (h : ∀ i, i < 64 → tb x i = (decide (i < 2 ^ n) && p i)) : pc x = ocb (bmN (2 ^ n) p) := by
  rw [pc_rows (by omega) p h, ocb_bm (p16 hn)]
theorem ocb_ocN : ∀ k, k < 64 → ocb k = ocN k := by decide +kernel
/-! at -/
theorem lg_at (x : Int32) {y : Nat} (h0 : 0 < y) (hy : y < 2 ^ 31) : ∃ v, v < y ∧ fL_at x (nI y) = some (nI v) := by
  have hu : (x.toUInt32 >>> ((1 : Int32).toUInt32 &&& Int32.toUInt32 31)).toInt32 = nI (x.toBitVec.toNat / 2) := by
    apply Int32.toBitVec_inj.mp
    apply BitVec.eq_of_toNat_eq
    rw [pk_ushr x 1 1 (by decide)]
    have := x.toBitVec.isLt
    exact (pk_tn (by omega)).symm
  have hm : x.toBitVec.toNat / 2 < 2 ^ 31 := by have := x.toBitVec.isLt; omega
  refine ⟨(x.toBitVec.toNat / 2) % y, Nat.mod_lt _ h0, ?_⟩
  unfold fL_at gz
  rw [if_neg (nI_ne0 h0 hy), hu, pk_rem hm h0 hy]
/-! rows -/
theorem lg_rows {n : Nat} (hn : n ≤ 4) {nn : Nat → Int32} (h0 : nn 0 = nI n) {c v : Nat} (hv : v < 2 ^ 31) : fL_rows nn (nI c) (nI v) = some (nI (bmN (2 ^ n) (fun r => decide (r &&& c = v)))) := by
  have h16 := p16 hn
  obtain ⟨m, s, e, hI⟩ := loop0 (fun k i s => fL_rows_L5 (nI c) (nI v) nn k s i) (fun i s => s = nI (bmN i (fun r => decide (r &&& c = v)))) (2 ^ n) (s := 0) (by omega) rfl (by
    intro m i s hi hI
    subst hI
    refine ⟨_, ?_, rfl⟩
    show fL_rows_L5 (nI c) (nI v) nn (m + 1) _ (nI i) = _
    rw [fL_rows_L5, g05, c0_, h0, sh_n (by omega), if_neg (nI_ge hi (by omega)), nI_an, bm_s]
    unfold fL_rows_J30
    by_cases q : i &&& c = v
    · rw [if_pos (congrArg nI q), if_pos (decide_eq_true q), al_sh i (by omega), nI_orr, nI_1]
    · have hle : i &&& c ≤ i := Nat.and_le_left
      rw [if_neg (fun w => q ((nI_eq (by omega) hv).mp w)), if_neg (fun w => q (of_decide_eq_true w)), Nat.or_zero, nI_1])
  unfold fL_rows
  refine Eq.trans e ?_
  show fL_rows_L5 (nI c) (nI v) nn (m + 1) s (nI (2 ^ n)) = _
  rw [fL_rows_L5, g05, c0_, h0, sh_n (by omega), if_pos (nI_le (Nat.le_refl _) (by omega)), hI]
/-! what is decided -/
/-- the law's table of truths tells the class's -/
def TR (n : Nat) (Z O : Nat → Int64) (tr : Nat → Int32) : Prop := ∀ o, o < 4 → ∀ r, r < 2 ^ n → tr (16 * o + r) = tOf Z O o r
def DV (n K : Nat) (Z O : Nat → Int64) (o r : Nat) : Int32 := dv (tb (al (fg n K) (Z o)) r) (tb (al (fg n K) (O o)) r)
def b3 (z o f : Bool) : Nat := z.toNat + 2 * o.toNat + 4 * f.toNat
theorem b3_0 : ∀ z o f : Bool, nI (b3 z o f) ||| ((1 : Int32) <<< ((0 : Int32) &&& 31)) = nI (b3 true o f) := by decide +kernel
theorem b3_1 : ∀ z o f : Bool, nI (b3 z o f) ||| ((1 : Int32) <<< ((1 : Int32) &&& 31)) = nI (b3 z true f) := by decide +kernel
theorem b3_2 : ∀ z o f : Bool, nI (b3 z o f) ||| ((1 : Int32) <<< ((2 : Int32) &&& 31)) = nI (b3 z o true) := by decide +kernel
theorem b3_e : ∀ z o f : Bool, fL_decided_J48 (nI (b3 z o f)) = some (dv z o) := by decide +kernel
theorem lg_dec0 {n : Nat} (hn : n ≤ 4) {nn : Nat → Int32} (h0 : nn 0 = nI n) {Z O : Nat → Int64} {tr : Nat → Int32} (ht : TR n Z O tr) {o : Nat} (ho : o < 4) (hd : ∀ r, r < 64 → tb (Z o) r = true → tb (O o) r = false) {r k : Nat} (hr : r < 64) : fL_decided nn tr (nI o) (nI r) (nI k) = some (dv (anyN (2 ^ n) (fun i => cnd k r i && tb (Z o) i)) (anyN (2 ^ n) (fun i => cnd k r i && tb (O o) i))) := by
  have h16 := p16 hn
  obtain ⟨m, s, e, f, hI⟩ := loop0 (fun m i s => fL_decided_L6 (nI o) (nI r) (nI k) nn tr m s i) (fun i s => ∃ f : Bool, s = nI (b3 (anyN i (fun i => cnd k r i && tb (Z o) i)) (anyN i (fun i => cnd k r i && tb (O o) i)) f)) (2 ^ n) (s := 0) (by omega) ⟨false, rfl⟩ (by
    intro m i s hi hI
    obtain ⟨f, rfl⟩ := hI
    have hx : i ^^^ r < 64 := x64 (by omega) hr
    have hle : (i ^^^ r) &&& k ≤ i ^^^ r := Nat.and_le_left
    have hst : fL_decided_L6 (nI o) (nI r) (nI k) nn tr (m + 1) (nI (b3 (anyN i (fun i => cnd k r i && tb (Z o) i)) (anyN i (fun i => cnd k r i && tb (O o) i)) f)) (nI i) = if cnd k r i = true then fL_decided_L6 (nI o) (nI r) (nI k) nn tr m (nI (b3 (anyN i (fun i => cnd k r i && tb (Z o) i)) (anyN i (fun i => cnd k r i && tb (O o) i)) f) ||| ((1 : Int32) <<< (tOf Z O o i &&& 31))) (nI (i + 1)) else fL_decided_L6 (nI o) (nI r) (nI k) nn tr m (nI (b3 (anyN i (fun i => cnd k r i && tb (Z o) i)) (anyN i (fun i => cnd k r i && tb (O o) i)) f)) (nI (i + 1)) := by
      rw [fL_decided_L6, g05, c0_, h0, sh_n (by omega), if_neg (nI_ge hi (by omega)), nI_xr, nI_an, ix16, gd_in (show 16 * o + i < 64 by omega) (by decide), nI_clamp (by omega), ht o ho i hi, lt_e]
      unfold fL_decided_J42 cnd
      rw [nI_1]
      by_cases q : (i ^^^ r) &&& k = 0
      · rw [if_pos (by rw [q]; rfl), if_pos (decide_eq_true q)]
      · rw [if_neg (nI_ne0 (Nat.pos_of_ne_zero q) (by omega)), if_neg (fun w => q (of_decide_eq_true w))]
    have h9 := hd i (by omega)
    by_cases q : cnd k r i = true
    · rw [if_pos q] at hst
      unfold tOf at hst
      cases z : tb (Z o) i
      · cases w : tb (O o) i
        · rw [z, w, if_neg (by decide), if_neg (by decide), b3_2] at hst
          refine ⟨_, hst, true, ?_⟩
          show _ = nI (b3 (anyN i _ || (cnd k r i && tb (Z o) i)) (anyN i _ || (cnd k r i && tb (O o) i)) true)
          rw [z, w, Bool.and_false, Bool.or_false, Bool.or_false]
        · rw [w, if_pos rfl, b3_1] at hst
          refine ⟨_, hst, f, ?_⟩
          show _ = nI (b3 (anyN i _ || (cnd k r i && tb (Z o) i)) (anyN i _ || (cnd k r i && tb (O o) i)) f)
          rw [z, w, q, Bool.and_false, Bool.or_false, Bool.and_true, Bool.or_true]
      · rw [h9 z, z, if_neg (by decide), if_pos rfl, b3_0] at hst
        refine ⟨_, hst, f, ?_⟩
        show _ = nI (b3 (anyN i _ || (cnd k r i && tb (Z o) i)) (anyN i _ || (cnd k r i && tb (O o) i)) f)
        rw [z, h9 z, q, Bool.and_false, Bool.or_false, Bool.and_true, Bool.or_true]
    · rw [if_neg q] at hst
      refine ⟨_, hst, f, ?_⟩
      show _ = nI (b3 (anyN i _ || (cnd k r i && tb (Z o) i)) (anyN i _ || (cnd k r i && tb (O o) i)) f)
      cases q2 : cnd k r i
      · rw [Bool.false_and, Bool.or_false, Bool.false_and, Bool.or_false]
      · exact absurd q2 q)
  unfold fL_decided
  refine Eq.trans e ?_
  show fL_decided_L6 (nI o) (nI r) (nI k) nn tr (m + 1) s (nI (2 ^ n)) = _
  rw [fL_decided_L6, g05, c0_, h0, sh_n (by omega), if_pos (nI_le (Nat.le_refl _) (by omega)), hI, b3_e]
theorem lg_dec {n K : Nat} (hn : n ≤ 4) {nn : Nat → Int32} (h0 : nn 0 = nI n) {Z O : Nat → Int64} (hk : OKs n K Z O) {tr : Nat → Int32} (ht : TR n Z O tr) {o : Nat} (ho : o < 4) {r k : Nat} (hr : r < 2 ^ n) (hk2 : k < 2 ^ n) : fL_decided nn tr (nI o) (nI r) (nI k) = some (DV n k Z O o r) := by
  have h16 := p16 hn
  obtain ⟨a1, a2, a3⟩ := hk.2.2.2 o ho
  rw [lg_dec0 hn h0 ht ho a3 (by omega), any_al (by omega) hk2 a1 hr, any_al (by omega) hk2 a2 hr]
  rfl
theorem dv_3 (a b : Bool) : dv a b = 3 ↔ (b && a) = true := by cases a <;> cases b <;> decide
theorem dv_0 (a b : Bool) : dv a b = 0 ↔ (a && !b) = true := by cases a <;> cases b <;> decide
theorem dv_1 (a b : Bool) : dv a b = 1 ↔ (b && !a) = true := by cases a <;> cases b <;> decide
theorem DV_un {n k : Nat} (hn : n ≤ 4) {K : Nat} {Z O : Nat → Int64} (hk : OKs n K Z O) (hk2 : k < 2 ^ n) {o : Nat} (ho : o < 4) : pc (al (fg n k) (O o) &&& al (fg n k) (Z o)) = sumN (2 ^ n) (fun r => (decide (DV n k Z O o r = 3)).toNat) := by
  have h64 := p64 (show n ≤ 6 by omega)
  obtain ⟨a1, a2, a3⟩ := hk.2.2.2 o ho
  refine pc_rows (by omega) (fun r => decide (DV n k Z O o r = 3)) (fun i hi => ?_)
  rw [tb_and]
  show (_ && _) = (_ && decide (dv _ _ = 3))
  by_cases q : i < 2 ^ n
  · rw [decide_eq_true q, Bool.true_and]
    cases x : tb (al (fg n k) (Z o)) i <;> cases y : tb (al (fg n k) (O o)) i <;> decide
  · rw [decide_eq_false q, Bool.false_and]
    cases y : tb (al (fg n k) (O o)) i
    · rfl
    · exact absurd (al_sub (by omega) (fg_lt2 n k) a2 i hi y) q
theorem lg_und {n K : Nat} (hn : n ≤ 4) {nn : Nat → Int32} (h0 : nn 0 = nI n) {Z O : Nat → Int64} (hk : OKs n K Z O) {tr : Nat → Int32} (ht : TR n Z O tr) {k : Nat} (hk2 : k < 2 ^ n) : fL_undecided nn tr (nI k) = some (nI (up (fg n k) Z O)) := by
  have h16 := p16 hn
  have hrow : ∀ (o : Nat), o < 4 → ∀ (s : Nat) (kk : Int32 → Int32 → Option Int32), fL_undecided_L14 (nI k) (nI o) nn tr kk 5000 (nI s) 0 = kk (nI (s + sumN (2 ^ n) (fun r => (decide (DV n k Z O o r = 3)).toNat))) (nI (o + 1)) := by
    intro o ho s kk
    obtain ⟨m, t, e, hI⟩ := loop0 (fun m i t => fL_undecided_L14 (nI k) (nI o) nn tr kk m t i) (fun i t => t = nI (s + sumN i (fun r => (decide (DV n k Z O o r = 3)).toNat))) (2 ^ n) (s := nI s) (by omega) rfl (by
      intro m i t hi hI
      subst hI
      refine ⟨_, ?_, rfl⟩
      show fL_undecided_L14 (nI k) (nI o) nn tr kk (m + 1) _ (nI i) = _
      rw [fL_undecided_L14, g05, c0_, h0, sh_n (by omega), if_neg (nI_ge hi (by omega)), lg_dec hn h0 hk ht ho hi hk2, Option.bind_some]
      unfold fL_undecided_J41
      show _ = fL_undecided_L14 (nI k) (nI o) nn tr kk m (nI (s + (sumN i _ + (decide (DV n k Z O o i = 3)).toNat))) (nI (i + 1))
      by_cases q : DV n k Z O o i = 3
      · rw [if_pos q, decide_eq_true q, nI_1, nI_1]
        rfl
      · rw [if_neg q, decide_eq_false q, nI_1]
        rfl)
    refine Eq.trans e ?_
    show fL_undecided_L14 (nI k) (nI o) nn tr kk (m + 1) t (nI (2 ^ n)) = _
    rw [fL_undecided_L14, g05, c0_, h0, sh_n (by omega), if_pos (nI_le (Nat.le_refl _) (by omega)), hI]
    unfold fL_undecided_J47
    rw [nI_1]
  obtain ⟨m, t, e, hI⟩ := loop0 (fun m i t => fL_undecided_L5 (nI k) nn tr m t i) (fun i t => t = nI (sumN i (fun o => sumN (2 ^ n) (fun r => (decide (DV n k Z O o r = 3)).toNat)))) 4 (s := 0) (by omega) rfl (by
    intro m i t hi hI
    subst hI
    refine ⟨_, ?_, rfl⟩
    show fL_undecided_L5 (nI k) nn tr (m + 1) _ (nI i) = _
    rw [fL_undecided_L5, if_neg (n4 hi), hrow i hi]
    rfl)
  unfold fL_undecided
  refine Eq.trans e ?_
  show fL_undecided_L5 (nI k) nn tr (m + 1) t (nI 4) = _
  rw [fL_undecided_L5, if_pos p4_, hI]
  unfold up
  rw [sumN_congr (fun o ho => (DV_un hn hk hk2 ho).symm)]
theorem lg_those {n K : Nat} (hn : n ≤ 4) {nn : Nat → Int32} (h0 : nn 0 = nI n) (h1 : nn 1 = nI K) {Z O : Nat → Int64} (hk : OKs n K Z O) {tr : Nat → Int32} (ht : TR n Z O tr) {o : Nat} (ho : o < 4) (w : Int32) : fL_those nn tr (nI o) w = some (nI (bmN (2 ^ n) (fun r => decide (DV n K Z O o r = w)))) := by
  have h16 := p16 hn
  obtain ⟨m, t, e, hI⟩ := loop0 (fun m i t => fL_those_L6 (nI o) w nn tr m t i) (fun i t => t = nI (bmN i (fun r => decide (DV n K Z O o r = w)))) (2 ^ n) (s := 0) (by omega) rfl (by
    intro m i t hi hI
    subst hI
    refine ⟨_, ?_, rfl⟩
    show fL_those_L6 (nI o) w nn tr (m + 1) _ (nI i) = _
    rw [fL_those_L6, g05, c0_, h0, sh_n (by omega), if_neg (nI_ge hi (by omega)), g15, c1_, h1, lg_dec hn h0 hk ht ho hi hk.2.2.1, Option.bind_some, bm_s]
    unfold fL_those_J40
    by_cases q : DV n K Z O o i = w
    · rw [if_pos q, if_pos (decide_eq_true q), al_sh i (by omega), nI_orr, nI_1]
    · rw [if_neg q, if_neg (fun z => q (of_decide_eq_true z)), Nat.or_zero, nI_1])
  unfold fL_those
  refine Eq.trans e ?_
  show fL_those_L6 (nI o) w nn tr (m + 1) t (nI (2 ^ n)) = _
  rw [fL_those_L6, g05, c0_, h0, sh_n (by omega), if_pos (nI_le (Nat.le_refl _) (by omega)), hI]
