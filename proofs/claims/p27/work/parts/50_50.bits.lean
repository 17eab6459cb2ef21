/-! mathematics of the class -/
def tb (x : Int64) (i : Nat) : Bool := x.toBitVec.getLsbD i
theorem tb_ext {x y : Int64} (h : ∀ i, i < 64 → tb x i = tb y i) : x = y := Int64.toBitVec_inj.mp (BitVec.eq_of_getLsbD_eq (fun i hi => h i hi))
theorem tb_or (x y : Int64) (i : Nat) : tb (x ||| y) i = (tb x i || tb y i) := by unfold tb; rw [Int64.toBitVec_or, BitVec.getLsbD_or]
theorem tb_and (x y : Int64) (i : Nat) : tb (x &&& y) i = (tb x i && tb y i) := by unfold tb; rw [Int64.toBitVec_and, BitVec.getLsbD_and]
theorem tb_xor (x y : Int64) (i : Nat) : tb (x ^^^ y) i = (tb x i ^^ tb y i) := by unfold tb; rw [Int64.toBitVec_xor, BitVec.getLsbD_xor]
theorem tb_big {x : Int64} {i : Nat} (h : 64 ≤ i) : tb x i = false := BitVec.getLsbD_of_ge _ _ h
theorem tb_0 (i : Nat) : tb 0 i = false := BitVec.getLsbD_zero
theorem tb_m1 : ∀ i, i < 64 → tb (-1) i = true := by decide +kernel
theorem tb_not (x : Int64) {i : Nat} (h : i < 64) : tb (x ^^^ (-1)) i = !tb x i := by rw [tb_xor, tb_m1 i h, Bool.xor_true]
theorem tb_1 (i : Nat) : tb 1 i = decide (i = 0) := by
  rcases Nat.lt_or_ge i 64 with h | h
  · exact (by decide +kernel : ∀ i, i < 64 → tb 1 i = decide (i = 0)) i h
  · rw [tb_big h, decide_eq_false (by omega)]
theorem tb_eq0 {x : Int64} : x = 0 ↔ ∀ i, i < 64 → tb x i = false := ⟨fun h i _ => h ▸ tb_0 i, fun h => tb_ext (fun i hi => (h i hi).trans (tb_0 i).symm)⟩
theorem tb_su : ∀ n, n < 64 → (((nI n).toInt64.toUInt64 &&& Int64.toUInt64 63).toBitVec % 64).toNat = n := by decide +kernel
theorem tb_sl : ∀ n, n < 64 → (((nI n).toInt64 &&& 63).toBitVec.smod 64).toNat = n := by decide +kernel
theorem tb_lus {n : Nat} (hn : n < 64) (x : Int64) (i : Nat) : tb (lus_ x (nI n)) i = tb x (n + i) := by
  unfold lus_
  show (x.toUInt64 >>> ((nI n).toInt64.toUInt64 &&& Int64.toUInt64 63)).toBitVec.getLsbD i = x.toUInt64.toBitVec.getLsbD (n + i)
  rw [UInt64.toBitVec_shiftRight]
  show (x.toUInt64.toBitVec >>> (((nI n).toInt64.toUInt64 &&& Int64.toUInt64 63).toBitVec % 64).toNat).getLsbD i = _
  rw [tb_su n hn, BitVec.getLsbD_ushiftRight]
theorem tb_lsl {n : Nat} (hn : n < 64) (x : Int64) {i : Nat} (hi : i < 64) : tb (lsl_ x (nI n)) i = (decide (n ≤ i) && tb x (i - n)) := by
  unfold lsl_ tb
  rw [Int64.toBitVec_shiftLeft]
  show (x.toBitVec <<< (((nI n).toInt64 &&& 63).toBitVec.smod 64).toNat).getLsbD i = _
  rw [tb_sl n hn, BitVec.getLsbD_shiftLeft]
  rcases Nat.lt_or_ge i n with h | h
  · simp [h, Nat.not_le.mpr h]
  · simp [hi, h, Nat.not_lt.mpr h]
theorem tb_one {n : Nat} (hn : n < 64) {i : Nat} (hi : i < 64) : tb (lsl_ 1 (nI n)) i = decide (i = n) := by
  rw [tb_lsl hn 1 hi, tb_1]
  by_cases h : i = n
  · subst h; simp
  · rw [decide_eq_false h]
    rcases Nat.lt_or_ge i n with z | z
    · simp [Nat.not_le.mpr z]
    · have : i - n ≠ 0 := by omega
      simp [this]
theorem tb_at {n : Nat} (hn : n < 64) (x : Int64) : (lus_ x (nI n)) &&& 1 = if tb x n = true then 1 else 0 := by
  apply tb_ext
  intro i hi
  rw [tb_and, tb_1, tb_lus hn]
  cases i with
  | zero =>
    rw [Nat.add_zero]
    cases tb x n
    · simp [tb_0]
    · simp [tb_1]
  | succ i =>
    cases tb x n
    · simp [tb_0]
    · simp [tb_1]
theorem tb_atI {n : Nat} (hn : n < 64) (x : Int64) : ((lus_ x (nI n)) &&& 1).toInt32 = nI (tb x n).toNat := by
  rw [tb_at hn]
  cases tb x n <;> decide
theorem tb_at0 {n : Nat} (hn : n < 64) (x : Int64) : (lg_cmp ((lus_ x (nI n)) &&& 1) 0 = 0) ↔ tb x n = false := by
  rw [tb_at hn]
  cases tb x n <;> decide
theorem tb_lN {a : Nat} (h : a < 2 ^ 64) (i : Nat) : tb (lN a) i = a.testBit i := by
  show (BitVec.ofNat 64 a).getLsbD i = _
  rw [BitVec.getLsbD_ofNat]
  rcases Nat.lt_or_ge i 64 with z | z
  · rw [decide_eq_true z, Bool.true_and]
  · rw [decide_eq_false (by omega), Bool.false_and, Nat.testBit_lt_two_pow (Nat.lt_of_lt_of_le h (Nat.pow_le_pow_right (by decide) z))]
theorem lN_of (x : Int64) : ∃ n, n < 2 ^ 64 ∧ x = lN n := ⟨x.toBitVec.toNat, x.toBitVec.isLt, Int64.toBitVec_inj.mp (by show _ = BitVec.ofNat 64 _; simp)⟩
theorem n64 {i : Nat} (h : i < 64) : ¬ (64 : Int32) ≤ nI i := nI_ge (b := 64) h (by decide)
theorem p64_ : (64 : Int32) ≤ nI 64 := by decide
theorem n4 {i : Nat} (h : i < 4) : ¬ (4 : Int32) ≤ nI i := nI_ge (b := 4) h (by decide)
theorem p4_ : (4 : Int32) ≤ nI 4 := by decide
theorem n4096 {i : Nat} (h : i < 4096) : ¬ (4096 : Int32) ≤ nI i := nI_ge (b := 4096) h (by decide)
theorem p4096_ : (4096 : Int32) ≤ nI 4096 := by decide
theorem n729 {i : Nat} (h : i < 729) : ¬ (729 : Int32) ≤ nI i := nI_ge (b := 729) h (by decide)
theorem p6_ : (6 : Int32) ≤ nI 6 := by decide
theorem loopI {σ ρ : Type} (F : Nat → Int32 → σ → Option ρ) (I : Nat → σ → Prop) (N : Nat) (hs : ∀ n i s, i < N → I i s → ∃ s', F (n + 1) (nI i) s = F n (nI (i + 1)) s' ∧ I (i + 1) s') : ∀ d i fuel s, i + d = N → d < fuel → I i s → ∃ m s', F fuel (nI i) s = F (m + 1) (nI N) s' ∧ I N s' := by
  intro d
  induction d with
  | zero =>
    intro i fuel s h1 h2 h3
    obtain ⟨m, rfl⟩ : ∃ m, fuel = m + 1 := ⟨fuel - 1, by omega⟩
    have e : i = N := by omega
    subst e
    exact ⟨m, s, rfl, h3⟩
  | succ d ih =>
    intro i fuel s h1 h2 h3
    obtain ⟨m, rfl⟩ : ∃ m, fuel = m + 1 := ⟨fuel - 1, by omega⟩
    obtain ⟨s1, e1, h4⟩ := hs m i s (by omega) h3
    obtain ⟨m2, s2, e2, h5⟩ := ih (i + 1) m s1 (by omega) (by omega) h4
    exact ⟨m2, s2, e1.trans e2, h5⟩
theorem loop0 {σ ρ : Type} (F : Nat → Int32 → σ → Option ρ) (I : Nat → σ → Prop) (N : Nat) {s : σ} (hN : N < 5000) (h0 : I 0 s) (hs : ∀ n i s, i < N → I i s → ∃ s', F (n + 1) (nI i) s = F n (nI (i + 1)) s' ∧ I (i + 1) s') : ∃ m s', F 5000 0 s = F (m + 1) (nI N) s' ∧ I N s' := loopI F I N hs N 0 5000 s (by omega) hN h0
def sumN : Nat → (Nat → Nat) → Nat
  | 0, _ => 0
  | n + 1, f => sumN n f + f n
theorem sumN_congr {n : Nat} {f g : Nat → Nat} (h : ∀ i, i < n → f i = g i) : sumN n f = sumN n g := by
  induction n with
  | zero => rfl
  | succ n ih => show sumN n f + f n = sumN n g + g n; rw [ih (fun i hi => h i (by omega)), h n (by omega)]
theorem sumN_front (m n : Nat) (f : Nat → Nat) : sumN (m + n) f = sumN m f + sumN n (fun i => f (m + i)) := by
  induction n with
  | zero => rfl
  | succ n ih => show sumN (m + n) f + f (m + n) = sumN m f + (sumN n (fun i => f (m + i)) + f (m + n)); omega
def pc (x : Int64) : Nat := sumN 64 (fun i => (tb x i).toNat)
def bc1 (b : Nat) : Nat := b - ((b / 2) &&& 85)
def bc2 (b : Nat) : Nat := (b &&& 51) + ((b / 4) &&& 51)
def bc3 (b : Nat) : Nat := (b + b / 16) &&& 15
def bcB (b : Nat) : Nat := sumN 8 (fun i => (b.testBit i).toNat)
def bcM (c : Nat) : Nat → Nat
  | 0 => 0
  | k + 1 => 256 * bcM c k + c
theorem bc_and {a b c d : Nat} (hb : b < 256) (hd : d < 256) : (256 * a + b) &&& (256 * c + d) = 256 * (a &&& c) + (b &&& d) := by
  apply Nat.eq_of_testBit_eq
  intro i
  rw [show (256 : Nat) = 2 ^ 8 from rfl] at *
  have h : b &&& d < 2 ^ 8 := Nat.and_lt_two_pow _ hd
  rw [Nat.testBit_and, Nat.testBit_two_pow_mul_add _ hb, Nat.testBit_two_pow_mul_add _ hd, Nat.testBit_two_pow_mul_add _ h]
  split <;> rw [Nat.testBit_and]
def bcS (k a : Nat) : Nat := a - ((a / 2) &&& bcM 85 k)
def bcT (k a : Nat) : Nat := (a &&& bcM 51 k) + ((a / 4) &&& bcM 51 k)
def bcU (k a : Nat) : Nat := (a + a / 16) &&& bcM 15 k
theorem bcS_s (k a : Nat) {b : Nat} (hb : b < 256) : bcS (k + 1) (256 * a + b) = 256 * bcS k a + bc1 b := by
  unfold bcS bc1
  show (256 * a + b) - ((256 * a + b) / 2 &&& (256 * bcM 85 k + 85)) = _
  have e : (256 * a + b) / 2 = 256 * (a / 2) + (128 * (a % 2) + b / 2) := by omega
  rw [e, bc_and (by omega) (by decide)]
  have e2 : (128 * (a % 2) + b / 2) &&& 85 = (b / 2) &&& 85 := by
    have := (by decide +kernel : ∀ e, e < 2 → ∀ c, c < 128 → (128 * e + c) &&& 85 = c &&& 85)
    exact this _ (by omega) _ (by omega)
  rw [e2]
  have h1 : (a / 2) &&& bcM 85 k ≤ a / 2 := Nat.and_le_left
  have h2 : (b / 2) &&& 85 ≤ b / 2 := Nat.and_le_left
  omega
theorem bcT_s (k a : Nat) {b : Nat} (hb : b < 256) : bcT (k + 1) (256 * a + b) = 256 * bcT k a + bc2 b := by
  unfold bcT bc2
  show ((256 * a + b) &&& (256 * bcM 51 k + 51)) + ((256 * a + b) / 4 &&& (256 * bcM 51 k + 51)) = _
  have e : (256 * a + b) / 4 = 256 * (a / 4) + (64 * (a % 4) + b / 4) := by omega
  rw [e, bc_and hb (by decide), bc_and (by omega) (by decide)]
  have e2 : (64 * (a % 4) + b / 4) &&& 51 = (b / 4) &&& 51 := by
    have := (by decide +kernel : ∀ e, e < 4 → ∀ c, c < 64 → (64 * e + c) &&& 51 = c &&& 51)
    exact this _ (by omega) _ (by omega)
  rw [e2]
  omega
theorem bcU_s (k a : Nat) {b : Nat} (ha : a % 16 ≤ 4) (hb : b < 256) (hb2 : b + 64 + b / 16 < 256) : bcU (k + 1) (256 * a + b) = 256 * bcU k a + bc3 b := by
  unfold bcU bc3
  show (256 * a + b + (256 * a + b) / 16) &&& (256 * bcM 15 k + 15) = _
  have e : 256 * a + b + (256 * a + b) / 16 = 256 * (a + a / 16) + (16 * (a % 16) + (b + b / 16)) := by omega
  rw [e, bc_and (by omega) (by decide)]
  have e2 : (16 * (a % 16) + (b + b / 16)) &&& 15 = (b + b / 16) &&& 15 := by
    rw [show (15 : Nat) = 2 ^ 4 - 1 from rfl, Nat.and_two_pow_sub_one_eq_mod, Nat.and_two_pow_sub_one_eq_mod]
    omega
  rw [e2]
theorem bc_byte : ∀ b, b < 256 → bc1 b < 256 ∧ bc2 (bc1 b) + 64 + bc2 (bc1 b) / 16 < 256 ∧ bc2 (bc1 b) % 16 ≤ 4 ∧ bc2 (bc1 b) < 256 ∧ bc3 (bc2 (bc1 b)) = bcB b ∧ bcB b ≤ 8 := by decide +kernel
def bcF (k a : Nat) : Nat := bcU k (bcT k (bcS k a))
theorem bcF_s (k a : Nat) {b : Nat} (ha : bcT k (bcS k a) % 16 ≤ 4) (hb : b < 256) : bcF (k + 1) (256 * a + b) = 256 * bcF k a + bcB b ∧ bcT (k + 1) (bcS (k + 1) (256 * a + b)) % 16 ≤ 4 := by
  obtain ⟨h1, h2, h3, h4, h5, h6⟩ := bc_byte b hb
  unfold bcF
  rw [bcS_s k a hb, bcT_s k _ h1, bcU_s k _ ha h4 h2, h5]
  exact ⟨rfl, by omega⟩
def bcP : Nat → Nat → Nat
  | 0, _ => 0
  | k + 1, a => 256 * bcP k (a / 256) + bcB (a % 256)
theorem bcF_p : ∀ k a, a < 256 ^ k → bcF k a = bcP k a ∧ bcT k (bcS k a) % 16 ≤ 4 := by
  intro k
  induction k with
  | zero =>
    intro a h
    have : a = 0 := by omega
    subst this
    exact ⟨by decide, by decide⟩
  | succ k ih =>
    intro a h
    obtain ⟨e1, h1⟩ := ih (a / 256) (by rw [Nat.pow_succ] at h; omega)
    have e : 256 * (a / 256) + a % 256 = a := by omega
    obtain ⟨e2, h2⟩ := bcF_s k (a / 256) h1 (b := a % 256) (by omega)
    rw [e] at e2 h2
    refine ⟨?_, h2⟩
    rw [e2, e1]
    rfl
def bcQ : Nat → Nat → Nat
  | 0, _ => 0
  | k + 1, a => bcQ k (a / 256) + bcB (a % 256)
theorem bcQ_p : ∀ k a, sumN (8 * k) (fun i => (a.testBit i).toNat) = bcQ k a := by
  intro k
  induction k with
  | zero => intro a; rfl
  | succ k ih =>
    intro a
    rw [show 8 * (k + 1) = 8 + 8 * k by omega, sumN_front]
    have e1 : sumN 8 (fun i => (a.testBit i).toNat) = bcB (a % 256) := sumN_congr (fun i hi => by
      show _ = ((a % 2 ^ 8).testBit i).toNat
      rw [Nat.testBit_mod_two_pow, decide_eq_true hi, Bool.true_and])
    have e2 : sumN (8 * k) (fun i => (a.testBit (8 + i)).toNat) = bcQ k (a / 256) := by
      rw [← ih (a / 256)]
      refine sumN_congr (fun i _ => ?_)
      show _ = ((a / 2 ^ 8).testBit i).toNat
      rw [Nat.testBit_div_two_pow, Nat.add_comm]
    rw [e1, e2]
    exact Nat.add_comm _ _
theorem bc_d1 {V U1 p0 : Nat} (e0 : V = 256 * U1 + p0) (h0 : p0 ≤ 8) : V / 256 = U1 := by omega
theorem bc_d2 {U2 U3 p0 p1 p2 : Nat} (h0 : p0 ≤ 8) (h1 : p1 ≤ 8) (h2 : p2 ≤ 8) : (65536 * (U2 + U3) + 256 * (p1 + p2) + (p0 + p1)) / 65536 = U2 + U3 := by omega
theorem bc_d3 {A s0 s1 s2 s3 : Nat} (h0 : s0 ≤ 64) (h1 : s1 ≤ 64) (h2 : s2 ≤ 64) (h3 : s3 ≤ 64) : (4294967296 * A + 16777216 * s3 + 65536 * s2 + 256 * s1 + s0) / 4294967296 = A := by omega
theorem bc_d4 {X s : Nat} (h : s ≤ 64) : (256 * X + s) % 128 = s := by omega
theorem bc_u2 {U1 U2 U3 p0 p1 p2 : Nat} (u1 : U1 = 256 * U2 + p1) (u2 : U2 = 256 * U3 + p2) : 256 * U1 + p0 + U1 = 65536 * (U2 + U3) + 256 * (p1 + p2) + (p0 + p1) := by omega
theorem bc_u3 {U2 U3 U4 U5 U6 p0 p1 p2 p3 p4 p5 p6 p7 : Nat} (u2 : U2 = 256 * U3 + p2) (u3 : U3 = 256 * U4 + p3) (u4 : U4 = 256 * U5 + p4) (u5 : U5 = 256 * U6 + p5) (u6 : U6 = 256 * p7 + p6) : 65536 * (U2 + U3) + 256 * (p1 + p2) + (p0 + p1) + (U2 + U3) = 4294967296 * (U4 + U5 + (U6 + p7)) + 16777216 * (p3 + p4 + (p5 + p6)) + 65536 * (p2 + p3 + (p4 + p5)) + 256 * (p1 + p2 + (p3 + p4)) + (p0 + p1 + (p2 + p3)) := by omega
theorem bc_u4 {U4 U5 U6 p0 p1 p2 p3 p4 p5 p6 p7 : Nat} (u4 : U4 = 256 * U5 + p4) (u5 : U5 = 256 * U6 + p5) (u6 : U6 = 256 * p7 + p6) : 4294967296 * (U4 + U5 + (U6 + p7)) + 16777216 * (p3 + p4 + (p5 + p6)) + 65536 * (p2 + p3 + (p4 + p5)) + 256 * (p1 + p2 + (p3 + p4)) + (p0 + p1 + (p2 + p3)) + (U4 + U5 + (U6 + p7)) = 256 * (16777216 * (U4 + U5 + (U6 + p7)) + 65536 * (p3 + p4 + (p5 + p6)) + 256 * (p2 + p3 + (p4 + p5)) + (p1 + p2 + (p3 + p4)) + (U5 + U6 + p7)) + (0 + p7 + p6 + p5 + p4 + p3 + p2 + p1 + p0) := by omega
theorem bc_b {U p u : Nat} (h : U ≤ u) (hp : p ≤ 8) : 256 * U + p ≤ 256 * u + 8 := by omega
theorem bc_end {p0 p1 p2 p3 p4 p5 p6 p7 V : Nat} (h0 : p0 ≤ 8) (h1 : p1 ≤ 8) (h2 : p2 ≤ 8) (h3 : p3 ≤ 8) (h4 : p4 ≤ 8) (h5 : p5 ≤ 8) (h6 : p6 ≤ 8) (h7 : p7 ≤ 8) (eV : V = 256 * (256 * (256 * (256 * (256 * (256 * (256 * (256 * 0 + p7) + p6) + p5) + p4) + p3) + p2) + p1) + p0) : (V < 18446744073709551616) ∧ (V + V / 256 < 18446744073709551616) ∧ ((V + V / 256) + (V + V / 256) / 65536 < 18446744073709551616) ∧ (((V + V / 256) + (V + V / 256) / 65536) + ((V + V / 256) + (V + V / 256) / 65536) / 4294967296) % 128 = 0 + p7 + p6 + p5 + p4 + p3 + p2 + p1 + p0 := by
  obtain ⟨U6, u6⟩ : ∃ u, u = 256 * p7 + p6 := ⟨_, rfl⟩
  obtain ⟨U5, u5⟩ : ∃ u, u = 256 * U6 + p5 := ⟨_, rfl⟩
  obtain ⟨U4, u4⟩ : ∃ u, u = 256 * U5 + p4 := ⟨_, rfl⟩
  obtain ⟨U3, u3⟩ : ∃ u, u = 256 * U4 + p3 := ⟨_, rfl⟩
  obtain ⟨U2, u2⟩ : ∃ u, u = 256 * U3 + p2 := ⟨_, rfl⟩
  obtain ⟨U1, u1⟩ : ∃ u, u = 256 * U2 + p1 := ⟨_, rfl⟩
  have e : V = 256 * U1 + p0 := by rw [eV, u1, u2, u3, u4, u5, u6, Nat.mul_zero, Nat.zero_add]
  have b6 : U6 ≤ 2056 := by rw [u6]; exact bc_b h7 h6
  have b5 : U5 ≤ 526344 := by rw [u5]; exact bc_b b6 h5
  have b4 : U4 ≤ 134744072 := by rw [u4]; exact bc_b b5 h4
  have b3 : U3 ≤ 34494482440 := by rw [u3]; exact bc_b b4 h3
  have b2 : U2 ≤ 8830587504648 := by rw [u2]; exact bc_b b3 h2
  have b1 : U1 ≤ 2260630401189896 := by rw [u1]; exact bc_b b2 h1
  have b0 : V ≤ 578721382704613384 := by rw [e]; exact bc_b b1 h0
  have d1 : V / 256 = U1 := bc_d1 e h0
  have d2 : (V + U1) / 65536 = U2 + U3 := by rw [e, bc_u2 u1 u2]; exact bc_d2 h0 h1 h2
  have w2 : V + U1 = 65536 * (U2 + U3) + 256 * (p1 + p2) + (p0 + p1) := by rw [e]; exact bc_u2 u1 u2
  have w3 : V + U1 + (U2 + U3) = 4294967296 * (U4 + U5 + (U6 + p7)) + 16777216 * (p3 + p4 + (p5 + p6)) + 65536 * (p2 + p3 + (p4 + p5)) + 256 * (p1 + p2 + (p3 + p4)) + (p0 + p1 + (p2 + p3)) := by rw [w2]; exact bc_u3 u2 u3 u4 u5 u6
  have d3 : (V + U1 + (U2 + U3)) / 4294967296 = U4 + U5 + (U6 + p7) := by
    rw [w3]
    exact bc_d3 (by clear w3 w2 d2 d1 eV e u1 u2 u3 u4 u5 u6; omega) (by clear w3 w2 d2 d1 eV e u1 u2 u3 u4 u5 u6; omega) (by clear w3 w2 d2 d1 eV e u1 u2 u3 u4 u5 u6; omega) (by clear w3 w2 d2 d1 eV e u1 u2 u3 u4 u5 u6; omega)
  have w4 : V + U1 + (U2 + U3) + (U4 + U5 + (U6 + p7)) = 256 * (16777216 * (U4 + U5 + (U6 + p7)) + 65536 * (p3 + p4 + (p5 + p6)) + 256 * (p2 + p3 + (p4 + p5)) + (p1 + p2 + (p3 + p4)) + (U5 + U6 + p7)) + (0 + p7 + p6 + p5 + p4 + p3 + p2 + p1 + p0) := by rw [w3]; exact bc_u4 u4 u5 u6
  rw [d1, d2, d3, w4]
  clear w4 d3 w3 w2 d2 d1 eV e u1 u2 u3 u4 u5 u6
  refine ⟨?_, ?_, ?_, ?_⟩
  · omega
  · omega
  · omega
  · exact bc_d4 (by omega)
theorem bc_sum {a : Nat} : ∃ V, V = bcP 8 a ∧ (V < 18446744073709551616) ∧ (V + V / 256 < 18446744073709551616) ∧ ((V + V / 256) + (V + V / 256) / 65536 < 18446744073709551616) ∧ (((V + V / 256) + (V + V / 256) / 65536) + ((V + V / 256) + (V + V / 256) / 65536) / 4294967296) % 128 = bcQ 8 a := by
  have hB : ∀ x, bcB (x % 256) ≤ 8 := fun x => (bc_byte (x % 256) (by omega)).2.2.2.2.2
  obtain ⟨p0, e0⟩ : ∃ p, p = bcB (a % 256) := ⟨_, rfl⟩
  obtain ⟨p1, e1⟩ : ∃ p, p = bcB (a / 256 % 256) := ⟨_, rfl⟩
  obtain ⟨p2, e2⟩ : ∃ p, p = bcB (a / 256 / 256 % 256) := ⟨_, rfl⟩
  obtain ⟨p3, e3⟩ : ∃ p, p = bcB (a / 256 / 256 / 256 % 256) := ⟨_, rfl⟩
  obtain ⟨p4, e4⟩ : ∃ p, p = bcB (a / 256 / 256 / 256 / 256 % 256) := ⟨_, rfl⟩
  obtain ⟨p5, e5⟩ : ∃ p, p = bcB (a / 256 / 256 / 256 / 256 / 256 % 256) := ⟨_, rfl⟩
  obtain ⟨p6, e6⟩ : ∃ p, p = bcB (a / 256 / 256 / 256 / 256 / 256 / 256 % 256) := ⟨_, rfl⟩
  obtain ⟨p7, e7⟩ : ∃ p, p = bcB (a / 256 / 256 / 256 / 256 / 256 / 256 / 256 % 256) := ⟨_, rfl⟩
  have h0 : p0 ≤ 8 := by rw [e0]; exact hB _
  have h1 : p1 ≤ 8 := by rw [e1]; exact hB _
  have h2 : p2 ≤ 8 := by rw [e2]; exact hB _
  have h3 : p3 ≤ 8 := by rw [e3]; exact hB _
  have h4 : p4 ≤ 8 := by rw [e4]; exact hB _
  have h5 : p5 ≤ 8 := by rw [e5]; exact hB _
  have h6 : p6 ≤ 8 := by rw [e6]; exact hB _
  have h7 : p7 ≤ 8 := by rw [e7]; exact hB _
  have eQ : bcQ 8 a = 0 + p7 + p6 + p5 + p4 + p3 + p2 + p1 + p0 := by rw [e0, e1, e2, e3, e4, e5, e6, e7]; rfl
  have eP : bcP 8 a = 256 * (256 * (256 * (256 * (256 * (256 * (256 * (256 * 0 + p7) + p6) + p5) + p4) + p3) + p2) + p1) + p0 := by rw [e0, e1, e2, e3, e4, e5, e6, e7]; rfl
  clear e0 e1 e2 e3 e4 e5 e6 e7 hB
  refine ⟨_, rfl, ?_⟩
  rw [eQ]
  exact bc_end h0 h1 h2 h3 h4 h5 h6 h7 eP
theorem lN_shr {n k p : Nat} (hn : n < 2 ^ 64) (hk : k < 64) (hp : 2 ^ k = p) : lus_ (lN n) (nI k) = lN (n / p) := by
  subst hp
  apply tb_ext
  intro i hi
  rw [tb_lus hk, tb_lN hn, tb_lN (Nat.lt_of_le_of_lt (Nat.div_le_self _ _) hn), Nat.testBit_div_two_pow, Nat.add_comm]
theorem lN_and {a b : Nat} (ha : a < 2 ^ 64) (hb : b < 2 ^ 64) : lN a &&& lN b = lN (a &&& b) := by
  apply tb_ext
  intro i hi
  rw [tb_and, tb_lN ha, tb_lN hb, tb_lN (Nat.and_lt_two_pow _ hb), Nat.testBit_and]
theorem pc_cls (x : Int64) : fJ13_bitCount_95d88 x = some (nI (pc x)) := by
  obtain ⟨a, ha, rfl⟩ := lN_of x
  obtain ⟨V, eV, g1, g2, g3, g4⟩ := bc_sum (a := a)
  have eF := (bcF_p 8 a (Nat.lt_of_lt_of_le ha (by decide))).1
  unfold bcF bcU bcT bcS at eF
  rw [show bcM 85 8 = 6148914691236517205 by decide, show bcM 51 8 = 3689348814741910323 by decide, show bcM 15 8 = 1085102592571150095 by decide, ← eV] at eF
  have q1 : (a / 2) &&& 6148914691236517205 ≤ a / 2 := Nat.and_le_left
  have m1 : (6148914691236517205 : Int64) = lN 6148914691236517205 := rfl
  have m2 : (3689348814741910323 : Int64) = lN 3689348814741910323 := rfl
  have m3 : (1085102592571150095 : Int64) = lN 1085102592571150095 := rfl
  have f1 : lN a - ((lus_ (lN a) 1) &&& 6148914691236517205) = lN (a - ((a / 2) &&& 6148914691236517205)) := by
    rw [show (1 : Int32) = nI 1 from rfl, lN_shr ha (by decide) (show 2 ^ 1 = 2 from rfl), m1, lN_and (by omega) (by decide), lN_sub (by omega)]
  unfold fJ13_bitCount_95d88 lt_
  rw [f1]
  have hA : a - ((a / 2) &&& 6148914691236517205) < 2 ^ 64 := by omega
  revert eF hA
  generalize a - ((a / 2) &&& 6148914691236517205) = A
  intro eF hA
  have q2 : A &&& 3689348814741910323 ≤ 3689348814741910323 := Nat.and_le_right
  have q3 : (A / 4) &&& 3689348814741910323 ≤ 3689348814741910323 := Nat.and_le_right
  have f2 : ((lN A) &&& 3689348814741910323) + ((lus_ (lN A) 2) &&& 3689348814741910323) = lN ((A &&& 3689348814741910323) + ((A / 4) &&& 3689348814741910323)) := by
    rw [show (2 : Int32) = nI 2 from rfl, lN_shr hA (by decide) (show 2 ^ 2 = 4 from rfl), m2, lN_and hA (by decide), lN_and (by omega) (by decide), lN_add]
  rw [f2]
  have hB : (A &&& 3689348814741910323) + ((A / 4) &&& 3689348814741910323) < 2 ^ 63 := by omega
  revert eF hB
  generalize (A &&& 3689348814741910323) + ((A / 4) &&& 3689348814741910323) = B
  intro eF hB
  have f3 : ((lN B) + (lus_ (lN B) 4)) &&& 1085102592571150095 = lN V := by
    rw [show (4 : Int32) = nI 4 from rfl, lN_shr (by omega) (by decide) (show 2 ^ 4 = 16 from rfl), lN_add, m3, lN_and (by omega) (by decide), eF]
  have f4 : (lN V) + (lus_ (lN V) 8) = lN (V + V / 256) := by
    rw [show (8 : Int32) = nI 8 from rfl, lN_shr g1 (by decide) (show 2 ^ 8 = 256 from rfl), lN_add]
  have f5 : lN (V + V / 256) + (lus_ (lN (V + V / 256)) 16) = lN ((V + V / 256) + (V + V / 256) / 65536) := by
    rw [show (16 : Int32) = nI 16 from rfl, lN_shr g2 (by decide) (show 2 ^ 16 = 65536 from rfl), lN_add]
  have f6 : lN ((V + V / 256) + (V + V / 256) / 65536) + (lus_ (lN ((V + V / 256) + (V + V / 256) / 65536)) 32) = lN (((V + V / 256) + (V + V / 256) / 65536) + ((V + V / 256) + (V + V / 256) / 65536) / 4294967296) := by
    rw [show (32 : Int32) = nI 32 from rfl, lN_shr g3 (by decide) (show 2 ^ 32 = 4294967296 from rfl), lN_add]
  show some (_ : Int32) = _
  rw [f3, f4, f5, f6, lN_i]
  have hm : ∀ n : Nat, nI n &&& 127 = nI (n % 128) := by
    intro n
    apply Int32.toBitVec_inj.1
    show BitVec.ofNat 32 n &&& BitVec.ofNat 32 127 = BitVec.ofNat 32 (n % 128)
    apply BitVec.eq_of_getLsbD_eq
    intro i hi
    rw [BitVec.getLsbD_and, BitVec.getLsbD_ofNat, BitVec.getLsbD_ofNat, BitVec.getLsbD_ofNat, decide_eq_true hi, Bool.true_and, Bool.true_and, Bool.true_and, show (127 : Nat) = 2 ^ 7 - 1 from rfl, show (128 : Nat) = 2 ^ 7 from rfl, Nat.testBit_two_pow_sub_one, Nat.testBit_mod_two_pow, Bool.and_comm]
  rw [hm, g4]
  congr 2
  unfold pc
  rw [← bcQ_p 8 a]
  exact sumN_congr (fun i _ => by rw [tb_lN ha])
