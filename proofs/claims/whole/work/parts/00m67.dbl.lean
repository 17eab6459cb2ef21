/-! doubles: exact steps -/
theorem fp_t : FP.Core.b64.tails = 4503599627370496 := by decide
theorem fp_x : FP.Core.b64.exps = 2048 := by decide
theorem fp_q : FP.Core.b64.qmin = -1074 := by decide
theorem fp_qm : FP.Core.b64.qmax = 971 := by decide
theorem fp_p : FP.Core.b64.p = 53 := rfl
theorem fp_dec {E f : Nat} (h1 : 1 ≤ E) (h2 : E ≤ 2046) (hf : f < 4503599627370496) : FP.Core.decode FP.Core.b64 (4503599627370496 * E + f) = .fin false (4503599627370496 + f) ((E : Int) - 1075) := by
  have e0 : (4503599627370496 * E + f) / 4503599627370496 = E := by omega
  have e1 : FP.Core.fieldE FP.Core.b64 (4503599627370496 * E + f) = E := by
    unfold FP.Core.fieldE
    rw [fp_t, fp_x, e0]
    omega
  have e2 : FP.Core.fieldS FP.Core.b64 (4503599627370496 * E + f) = false := by
    unfold FP.Core.fieldS
    rw [fp_t, fp_x, e0, show E / 2048 = 0 by omega]
    rfl
  have e3 : FP.Core.fieldT FP.Core.b64 (4503599627370496 * E + f) = f := by
    unfold FP.Core.fieldT
    rw [fp_t]
    omega
  unfold FP.Core.decode
  rw [e1, e2, e3, fp_x, fp_t, fp_q, if_neg (by omega), if_neg (by omega)]
  congr 1
  omega
theorem fp_enc {c : Nat} {q : Int} (hc : 4503599627370496 ≤ c) : FP.Core.encode FP.Core.b64 (.fin false c q) = 4503599627370496 * ((q + 1074).toNat + 1) + (c - 4503599627370496) := by
  show (if c < FP.Core.b64.tails then FP.Core.assemble FP.Core.b64 false 0 c else FP.Core.assemble FP.Core.b64 false ((q - FP.Core.b64.qmin).toNat + 1) (c - FP.Core.b64.tails)) = _
  rw [fp_t, fp_q, if_neg (by omega)]
  unfold FP.Core.assemble
  rw [fp_t, fp_x, show q - (-1074 : Int) = q + 1074 by omega, show (false.toNat * 2048 + ((q + 1074).toNat + 1)) = (q + 1074).toNat + 1 by show 0 * 2048 + _ = _; omega]
  omega
theorem fp_near (c : Nat) {d : Nat} (hd : 0 < d) : FP.Core.nearest (c * d) d = c := by
  unfold FP.Core.nearest
  rw [Nat.mul_mod_left, if_pos (by omega), Nat.mul_div_cancel c hd]
theorem fp_set {s : Bool} {c : Nat} {q : Int} (hc : c < 9007199254740992) (hq : q ≤ 971) : FP.Core.settle FP.Core.b64 s c q = .fin s c q := by
  unfold FP.Core.settle FP.Core.bound
  rw [fp_p, fp_qm, if_pos hc, if_pos hq]
theorem fp_lead {a L : Nat} (h0 : a ≠ 0) (h : a.log2 = L) : FP.Core.leading a 1 = (L : Int) := by
  have hl : 2 ^ L ≤ a := by rw [← h]; exact Nat.log2_self_le h0
  unfold FP.Core.leading
  show (if 1 * 2 ^ ((a.log2 : Int) - ((1 : Nat).log2 : Int)).toNat ≤ a * 2 ^ (-((a.log2 : Int) - ((1 : Nat).log2 : Int))).toNat then ((a.log2 : Int) - ((1 : Nat).log2 : Int)) else ((a.log2 : Int) - ((1 : Nat).log2 : Int)) - 1) = _
  rw [h, show ((1 : Nat).log2 : Int) = 0 from rfl, Int.sub_zero, if_pos]
  rw [show ((L : Int)).toNat = L from rfl, show (-(L : Int)).toNat = 0 by omega, Nat.pow_zero, Nat.one_mul, Nat.mul_one]
  exact hl
theorem fp_rr {s : Bool} {c j : Nat} {e : Int} (hc : 4503599627370496 ≤ c) (hc2 : c < 9007199254740992) (he : -1074 ≤ e + j) (he2 : e + j ≤ 971) : FP.Core.roundRatio FP.Core.b64 s (c * 2 ^ j) 1 e = .fin s c (e + j) := by
  have hp := Nat.two_pow_pos j
  have h0 : c * 2 ^ j ≠ 0 := by
    have := Nat.mul_pos (show 0 < c by omega) hp
    omega
  have hl : (c * 2 ^ j).log2 = 52 + j := by
    rw [Nat.log2_eq_iff h0]
    constructor
    · rw [Nat.pow_add]
      exact Nat.mul_le_mul_right _ hc
    · rw [show 52 + j + 1 = 53 + j by omega, Nat.pow_add]
      exact Nat.mul_lt_mul_of_pos_right hc2 hp
  have hq : FP.Core.quantum FP.Core.b64 (c * 2 ^ j) 1 e = e + j := by
    unfold FP.Core.quantum
    rw [fp_lead h0 hl, fp_q, fp_p]
    omega
  unfold FP.Core.roundRatio
  rw [if_neg h0, hq]
  unfold FP.Core.roundAt FP.Core.unitsNum FP.Core.unitsDen
  rw [show (e - (e + (j : Int))).toNat = 0 by omega, show (e + (j : Int) - e).toNat = j by omega, Nat.pow_zero, Nat.mul_one, Nat.one_mul, fp_near c hp, fp_set hc2 he2]
theorem fp_rs {f : Nat} (h0 : f ≠ 0) (hf : f < 4503599627370496) : FP.Core.roundRatio FP.Core.b64 false f 1 (-52) = .fin false (f * 2 ^ (52 - f.log2)) ((f.log2 : Int) - 104) ∧ f.log2 < 52 ∧ 4503599627370496 ≤ f * 2 ^ (52 - f.log2) ∧ f * 2 ^ (52 - f.log2) < 9007199254740992 := by
  obtain ⟨L, hL⟩ : ∃ L, f.log2 = L := ⟨_, rfl⟩
  have hL52 : f.log2 < 52 := (Nat.log2_lt h0).mpr hf
  obtain ⟨g1, g2⟩ := (Nat.log2_eq_iff h0).mp hL
  rw [hL] at hL52
  have e52 : (2 : Nat) ^ L * 2 ^ (52 - L) = 4503599627370496 := by
    rw [← Nat.pow_add, show L + (52 - L) = 52 by omega]
  have e53 : (2 : Nat) ^ (L + 1) * 2 ^ (52 - L) = 9007199254740992 := by
    rw [← Nat.pow_add, show L + 1 + (52 - L) = 53 by omega]
  have hp := Nat.two_pow_pos (52 - L)
  have l1 : 4503599627370496 ≤ f * 2 ^ (52 - L) := by rw [← e52]; exact Nat.mul_le_mul_right _ g1
  have l2 : f * 2 ^ (52 - L) < 9007199254740992 := by rw [← e53]; exact Nat.mul_lt_mul_of_pos_right g2 hp
  rw [hL]
  refine ⟨?_, hL52, l1, l2⟩
  have hq : FP.Core.quantum FP.Core.b64 f 1 (-52) = (L : Int) - 104 := by
    unfold FP.Core.quantum
    rw [fp_lead h0 hL, fp_q, fp_p]
    omega
  unfold FP.Core.roundRatio
  rw [if_neg h0, hq]
  unfold FP.Core.roundAt FP.Core.unitsNum FP.Core.unitsDen
  rw [show ((-52 : Int) - ((L : Int) - 104)).toNat = 52 - L by omega, show ((L : Int) - 104 - (-52)).toNat = 0 by omega, Nat.pow_zero, Nat.mul_one]
  have := fp_near (f * 2 ^ (52 - L)) (d := 1) (by decide)
  rw [Nat.mul_one] at this
  rw [this, fp_set l2 (by omega)]
/-- a normal double as bits -/
def dbl (E f : Nat) : UInt64 := UInt64.ofNat (4503599627370496 * E + f)
theorem dbl_n {E f : Nat} (h2 : E ≤ 2046) (hf : f < 4503599627370496) : (dbl E f).toNat = 4503599627370496 * E + f := by
  unfold dbl
  rw [UInt64.toNat_ofNat']
  omega
theorem dbl_mul {E f k : Nat} (h1 : 1 ≤ E) (h2 : E ≤ 2046) (hf : f < 4503599627370496) (hk : 1 ≤ k) (hk2 : k ≤ 2046) (h3 : 1024 ≤ E + k) (h4 : E + k ≤ 3069) : FP.dmul (dbl E f) (dbl k 0) = dbl (E + k - 1023) f := by
  show UInt64.ofNat (FP.Core.mul FP.Core.b64 (dbl E f).toNat (dbl k 0).toNat) = UInt64.ofNat _
  rw [dbl_n h2 hf, dbl_n hk2 (by decide)]
  unfold FP.Core.mul
  rw [fp_dec h1 h2 hf, fp_dec hk hk2 (by decide)]
  show UInt64.ofNat (FP.Core.encode FP.Core.b64 (FP.Core.roundRatio FP.Core.b64 false ((4503599627370496 + f) * (4503599627370496 + 0)) 1 ((E : Int) - 1075 + ((k : Int) - 1075)))) = _
  rw [show (4503599627370496 + 0 : Nat) = 2 ^ 52 from rfl, fp_rr (by omega) (by omega) (by omega) (by omega), fp_enc (by omega)]
  refine congrArg UInt64.ofNat ?_
  omega
theorem dbl_i (E f : Nat) : (dbl E f).toInt64 = lN (4503599627370496 * E + f) := rfl
theorem dbl_gn {E f : Nat} (h2 : E ≤ 2046) (hf : f < 4503599627370496) {α : Type} (k : Option α) : gn (dbl E f) k = k := by
  unfold gn
  refine if_pos ?_
  rw [UInt64.le_iff_toNat_le, UInt64.toNat_and]
  refine Nat.le_trans Nat.and_le_left ?_
  rw [dbl_n h2 hf]
  show _ ≤ 9218868437227405312
  omega
theorem dbl_cmp1 {E f : Nat} (h1 : 1 ≤ E) (h2 : E < 1023) (hf : f < 4503599627370496) : FP.dcmp (dbl E f) FP.dconst1 = some .lt := by
  have e1 : FP.dconst1 = dbl 1023 0 := by decide
  show FP.Core.cmp FP.Core.b64 (dbl E f).toNat FP.dconst1.toNat = _
  rw [e1, dbl_n (by omega) hf, dbl_n (by decide) (by decide)]
  unfold FP.Core.cmp
  rw [fp_dec h1 (by omega) hf, fp_dec (by decide) (by decide) (by decide)]
  show some (compare (FP.Core.signed false (FP.Core.inUnits (4503599627370496 + f) ((E : Int) - 1075) (min ((E : Int) - 1075) (((1023 : Nat) : Int) - 1075)))) (FP.Core.signed false (FP.Core.inUnits (4503599627370496 + 0) (((1023 : Nat) : Int) - 1075) (min ((E : Int) - 1075) (((1023 : Nat) : Int) - 1075))))) = _
  rw [show min ((E : Int) - 1075) (((1023 : Nat) : Int) - 1075) = (E : Int) - 1075 by omega]
  unfold FP.Core.inUnits
  rw [show ((E : Int) - 1075 - ((E : Int) - 1075)).toNat = 0 by omega, show (((1023 : Nat) : Int) - 1075 - ((E : Int) - 1075)).toNat = (1022 - E) + 1 by omega, Nat.pow_zero, Nat.mul_one, Nat.pow_succ]
  have hp := Nat.two_pow_pos (1022 - E)
  show some (compareOfLessAndEq ((4503599627370496 + f : Nat) : Int) (((4503599627370496 + 0) * (2 ^ (1022 - E) * 2) : Nat) : Int)) = _
  unfold compareOfLessAndEq
  rw [if_pos]
  rw [Int.ofNat_lt]
  omega
theorem dbl_cmp2 {f : Nat} (hf : f < 4503599627370496) : 0 ≤ Op.cmpValue (FP.dcmp (dbl 1023 f) FP.dconst1) .g := by
  have e1 : FP.dconst1 = dbl 1023 0 := by decide
  have e2 : FP.dcmp (dbl 1023 f) FP.dconst1 = some (compareOfLessAndEq ((4503599627370496 + f : Nat) : Int) ((4503599627370496 + 0 : Nat) : Int)) := by
    show FP.Core.cmp FP.Core.b64 (dbl 1023 f).toNat FP.dconst1.toNat = _
    rw [e1, dbl_n (by decide) hf, dbl_n (by decide) (by decide)]
    unfold FP.Core.cmp
    rw [fp_dec (by decide) (by decide) hf, fp_dec (by decide) (by decide) (by decide)]
    show some (compareOfLessAndEq ((((4503599627370496 + f) * 2 ^ ((((1023 : Nat) : Int) - 1075) - min (((1023 : Nat) : Int) - 1075) (((1023 : Nat) : Int) - 1075)).toNat : Nat)) : Int) ((((4503599627370496 + 0) * 2 ^ ((((1023 : Nat) : Int) - 1075) - min (((1023 : Nat) : Int) - 1075) (((1023 : Nat) : Int) - 1075)).toNat : Nat)) : Int)) = _
    rw [show ((((1023 : Nat) : Int) - 1075) - min (((1023 : Nat) : Int) - 1075) (((1023 : Nat) : Int) - 1075)).toNat = 0 by decide, Nat.pow_zero, Nat.mul_one, Nat.mul_one]
  rw [e2]
  unfold compareOfLessAndEq
  rw [if_neg (by rw [Int.ofNat_lt]; omega)]
  split <;> decide
theorem dbl_cmp0 {E f : Nat} (h1 : 1 ≤ E) (h2 : E ≤ 2046) (hf : f < 4503599627370496) : FP.dcmp (dbl E f) FP.dconst0 = some .gt := by
  show FP.Core.cmp FP.Core.b64 (dbl E f).toNat FP.dconst0.toNat = _
  rw [dbl_n h2 hf]
  unfold FP.Core.cmp
  rw [fp_dec h1 h2 hf, show FP.Core.decode FP.Core.b64 FP.dconst0.toNat = .fin false 0 (-1074) by decide]
  show some (compareOfLessAndEq ((((4503599627370496 + f) * 2 ^ (((E : Int) - 1075) - min ((E : Int) - 1075) (-1074)).toNat : Nat)) : Int) (((0 * 2 ^ ((-1074 : Int) - min ((E : Int) - 1075) (-1074)).toNat : Nat)) : Int)) = _
  generalize (((E : Int) - 1075) - min ((E : Int) - 1075) (-1074)).toNat = a
  rw [Nat.zero_mul]
  have hp := Nat.mul_pos (show 0 < 4503599627370496 + f by omega) (Nat.two_pow_pos a)
  unfold compareOfLessAndEq
  rw [if_neg (by rw [Int.ofNat_lt]; omega), if_neg]
  intro h
  have := Int.ofNat.inj h
  omega
theorem dbl_cmpS {E f : Nat} (h1 : 1 ≤ E) (h2 : E ≤ 2046) (hf : f < 4503599627370496) : FP.dcmp (dbl E f) (dbl E f) = some .eq := by
  show FP.Core.cmp FP.Core.b64 (dbl E f).toNat (dbl E f).toNat = _
  rw [dbl_n h2 hf]
  unfold FP.Core.cmp
  rw [fp_dec h1 h2 hf]
  show some (compareOfLessAndEq ((((4503599627370496 + f) * 2 ^ (((E : Int) - 1075) - min ((E : Int) - 1075) ((E : Int) - 1075)).toNat : Nat)) : Int) ((((4503599627370496 + f) * 2 ^ (((E : Int) - 1075) - min ((E : Int) - 1075) ((E : Int) - 1075)).toNat : Nat)) : Int)) = _
  generalize ((((4503599627370496 + f) * 2 ^ (((E : Int) - 1075) - min ((E : Int) - 1075) ((E : Int) - 1075)).toNat : Nat)) : Int) = y
  unfold compareOfLessAndEq
  rw [if_neg (Int.lt_irrefl y), if_pos rfl]
theorem dbl_sub {f : Nat} (h0 : f ≠ 0) (hf : f < 4503599627370496) : FP.dsub (dbl 1023 f) FP.dconst1 = dbl (971 + f.log2) (f * 2 ^ (52 - f.log2) - 4503599627370496) := by
  have e1 : FP.dconst1 = dbl 1023 0 := by decide
  obtain ⟨g1, g2, g3, g4⟩ := fp_rs h0 hf
  show UInt64.ofNat (FP.Core.sub FP.Core.b64 (dbl 1023 f).toNat FP.dconst1.toNat) = UInt64.ofNat _
  rw [e1, dbl_n (by decide) hf, dbl_n (by decide) (by decide)]
  unfold FP.Core.sub
  rw [fp_dec (by decide) (by decide) hf, fp_dec (by decide) (by decide) (by decide)]
  have e2 : FP.Core.sumUnits false (4503599627370496 + f) (((1023 : Nat) : Int) - 1075) (!false) (4503599627370496 + 0) (((1023 : Nat) : Int) - 1075) (min (((1023 : Nat) : Int) - 1075) (((1023 : Nat) : Int) - 1075)) = (f : Int) := by
    show (((4503599627370496 + f) * 2 ^ ((((1023 : Nat) : Int) - 1075) - min (((1023 : Nat) : Int) - 1075) (((1023 : Nat) : Int) - 1075)).toNat : Nat) : Int) + -(((4503599627370496 + 0) * 2 ^ ((((1023 : Nat) : Int) - 1075) - min (((1023 : Nat) : Int) - 1075) (((1023 : Nat) : Int) - 1075)).toNat : Nat) : Int) = _
    rw [show ((((1023 : Nat) : Int) - 1075) - min (((1023 : Nat) : Int) - 1075) (((1023 : Nat) : Int) - 1075)).toNat = 0 by decide, Nat.pow_zero, Nat.mul_one, Nat.mul_one]
    omega
  have e3 : FP.Core.exactSum (.fin false (4503599627370496 + f) (((1023 : Nat) : Int) - 1075)) (FP.Core.negate (.fin false (4503599627370496 + 0) (((1023 : Nat) : Int) - 1075))) = .fin false f (-52) := by
    show FP.Core.Datum.fin (FP.Core.sumSign false (!false) (FP.Core.sumUnits false (4503599627370496 + f) (((1023 : Nat) : Int) - 1075) (!false) (4503599627370496 + 0) (((1023 : Nat) : Int) - 1075) (min (((1023 : Nat) : Int) - 1075) (((1023 : Nat) : Int) - 1075)))) (FP.Core.sumUnits false (4503599627370496 + f) (((1023 : Nat) : Int) - 1075) (!false) (4503599627370496 + 0) (((1023 : Nat) : Int) - 1075) (min (((1023 : Nat) : Int) - 1075) (((1023 : Nat) : Int) - 1075))).natAbs (min (((1023 : Nat) : Int) - 1075) (((1023 : Nat) : Int) - 1075)) = _
    rw [e2]
    unfold FP.Core.sumSign
    rw [if_neg (by omega), decide_eq_false (by omega)]
    rfl
  rw [e3]
  show UInt64.ofNat (FP.Core.encode FP.Core.b64 (FP.Core.roundRatio FP.Core.b64 false f 1 (-52))) = _
  rw [g1, fp_enc g3]
  refine congrArg UInt64.ofNat ?_
  omega
theorem dbl_d2l {L c : Nat} (hL : L ≤ 52) (hc : 4503599627370496 ≤ c) (hc2 : c < 9007199254740992) : FP.d2l (dbl (1023 + L) (c - 4503599627370496)) = lN (c / 2 ^ (52 - L)) := by
  show FP.Core.toL (FP.Core.decode FP.Core.b64 (dbl (1023 + L) (c - 4503599627370496)).toNat) = _
  rw [dbl_n (by omega) (by omega), fp_dec (by omega) (by omega) (by omega)]
  show Int64.ofInt (max (-2 ^ 63) (min (2 ^ 63 - 1) (((4503599627370496 + (c - 4503599627370496)) * 2 ^ ((((1023 + L : Nat) : Int) - 1075)).toNat / 2 ^ (-(((1023 + L : Nat) : Int) - 1075)).toNat : Nat) : Int))) = _
  rw [show ((((1023 + L : Nat) : Int) - 1075)).toNat = 0 by omega, show (-(((1023 + L : Nat) : Int) - 1075)).toNat = 52 - L by omega, Nat.pow_zero, Nat.mul_one, show 4503599627370496 + (c - 4503599627370496) = c by omega]
  have hle : c / 2 ^ (52 - L) ≤ c := Nat.div_le_self _ _
  revert hle
  generalize c / 2 ^ (52 - L) = y
  intro hle
  rw [show min (2 ^ 63 - 1 : Int) (y : Int) = (y : Int) by omega, show max (-2 ^ 63 : Int) (y : Int) = (y : Int) by omega]
  rfl
theorem sl_52 (a : Nat) : lsl_ (lN a) 52 = lN (4503599627370496 * a) := by
  unfold lsl_
  apply Int64.toBitVec_inj.mp
  rw [Int64.toBitVec_shiftLeft]
  show BitVec.ofNat 64 a <<< ((((52 : Int32).toInt64 &&& 63).toBitVec.smod 64)).toNat = BitVec.ofNat 64 (4503599627370496 * a)
  rw [show ((((52 : Int32).toInt64 &&& 63).toBitVec.smod 64)).toNat = 52 by decide]
  apply BitVec.eq_of_toNat_eq
  rw [BitVec.toNat_shiftLeft, BitVec.toNat_ofNat, BitVec.toNat_ofNat, Nat.shiftLeft_eq]
  omega
theorem bs_end {f : Nat} (hf : f < 4503599627370496) (E : Nat) : fX6_bitsOfShare_J50 (dbl 1023 f) (lN E) = some (lN (4503599627370496 * E + f)) := by
  have e52 : (4841369599423283200 : UInt64) = dbl 1075 0 := by decide
  unfold fX6_bitsOfShare_J50
  rw [sl_52]
  by_cases h0 : f = 0
  · subst h0
    have e1 : FP.dsub (dbl 1023 0) FP.dconst1 = 0 := by decide
    have e2 : FP.dmul 0 4841369599423283200 = 0 := by decide
    have e3 : FP.d2l 0 = lN 0 := by decide +kernel
    rw [e1, e2, e3, lN_add]
    rfl
  · obtain ⟨g1, g2, g3, g4⟩ := fp_rs h0 hf
    rw [dbl_sub h0 hf, e52, dbl_gn (by omega) (by omega), dbl_mul (by omega) (by omega) (by omega) (by decide) (by decide) (by omega) (by omega), show 971 + f.log2 + 1075 - 1023 = 1023 + f.log2 by omega, dbl_gn (by omega) (by omega), dbl_d2l (by omega) g3 g4, Nat.mul_div_cancel f (Nat.two_pow_pos _), lN_add]
theorem bs_loop {f : Nat} (hf : f < 4503599627370496) : ∀ d E, E + d = 1023 → 1 ≤ E → d ≤ 1000 → ∀ fuel, d < fuel → ∀ E0 k, k + d ≤ 1021 → fX6_bitsOfShare_L18 fuel (dbl E f) (lN (E0 + d)) (nI k) = some (lN (4503599627370496 * E0 + f)) := by
  intro d
  induction d with
  | zero =>
    intro E h1 h2 h3 fuel h4 E0 k hk
    obtain ⟨m, rfl⟩ : ∃ m, fuel = m + 1 := ⟨fuel - 1, by omega⟩
    have e : E = 1023 := by omega
    subst e
    rw [fX6_bitsOfShare_L18, if_neg (show ¬ (1022 : Int32) ≤ nI k from nI_ge (b := 1022) (by omega) (by decide)), if_pos (dbl_cmp2 hf), Nat.add_zero, bs_end hf]
  | succ d ih =>
    intro E h1 h2 h3 fuel h4 E0 k hk
    obtain ⟨m, rfl⟩ : ∃ m, fuel = m + 1 := ⟨fuel - 1, by omega⟩
    have e2 : (4611686018427387904 : UInt64) = dbl 1024 0 := by decide
    rw [fX6_bitsOfShare_L18, if_neg (show ¬ (1022 : Int32) ≤ nI k from nI_ge (b := 1022) (by omega) (by decide)), dbl_cmp1 h2 (by omega) hf, if_neg (by decide), e2, dbl_mul h2 (by omega) hf (by decide) (by decide) (by omega) (by omega), show E + 1024 - 1023 = E + 1 by omega, dbl_gn (by omega) hf, nI_1, show lN (E0 + (d + 1)) - 1 = lN (E0 + d) from lN_sub (a := E0 + (d + 1)) (b := 1) (by omega)]
    exact ih (E + 1) (by omega) (by omega) (by omega) m (by omega) E0 (k + 1) (by omega)
theorem bs_norm {E f : Nat} (h1 : 23 ≤ E) (h2 : E ≤ 1023) (hf : f < 4503599627370496) : fX6_bitsOfShare (dbl E f) = some (dbl E f).toInt64 ∧ fJxe99ae_doubleToLongBits_ccdee (dbl E f) = some (dbl E f).toInt64 := by
  constructor
  · unfold fX6_bitsOfShare
    rw [dbl_cmp0 (by omega) (by omega) hf, if_pos (by decide), dbl_i]
    have h := bs_loop hf (1023 - E) E (by omega) (by omega) (by omega) 5000 (by omega) E 0 (by omega)
    rw [show E + (1023 - E) = 1023 by omega] at h
    exact h
  · unfold fJxe99ae_doubleToLongBits_ccdee fJxe99ae_isNaN_b9ae7
    rw [dbl_cmpS (by omega) (by omega) hf, if_pos (by decide), Option.bind_some, if_pos rfl]
