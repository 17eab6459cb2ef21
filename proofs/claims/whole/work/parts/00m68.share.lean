/-! the decided share: class and reference -/
def goodD (x : UInt64) : Prop := fX6_bitsOfShare x = some x.toInt64 ∧ fJxe99ae_doubleToLongBits_ccdee x = some x.toInt64 ∧ FP.dcmp x x = some .eq ∧ x &&& 0x7fffffffffffffff ≤ 0x7ff0000000000000
theorem good_dbl {E f : Nat} (h1 : 23 ≤ E) (h2 : E ≤ 1023) (hf : f < 4503599627370496) : goodD (dbl E f) := by
  refine ⟨(bs_norm h1 h2 hf).1, (bs_norm h1 h2 hf).2, dbl_cmpS (by omega) (by omega) hf, ?_⟩
  rw [UInt64.le_iff_toNat_le, UInt64.toNat_and]
  refine Nat.le_trans Nat.and_le_left ?_
  rw [dbl_n (by omega) hf]
  show _ ≤ 9218868437227405312
  omega
theorem good_0 : goodD 0 := by
  refine ⟨by decide +kernel, by decide +kernel, by decide +kernel, by decide⟩
theorem good_sh {a b : Nat} (h1 : a ≤ b) (h0 : 1 ≤ b) (h2 : b ≤ 256) : goodD (shX a b) := by
  rcases Nat.eq_zero_or_pos a with z | z
  · subst z
    have h := allN_iff.mp sh_0 b (by omega)
    rw [Bool.or_eq_true] at h
    rcases h with h | h
    · have : b = 0 := by simpa using h
      omega
    · rw [of_decide_eq_true h]
      exact good_0
  · have h := sh_r z h1 h2
    unfold shR at h
    rw [Bool.and_eq_true, decide_eq_true_eq, decide_eq_true_eq] at h
    have e : shX a b = dbl ((shX a b).toNat / 4503599627370496) ((shX a b).toNat % 4503599627370496) := by
      unfold dbl
      rw [show 4503599627370496 * ((shX a b).toNat / 4503599627370496) + (shX a b).toNat % 4503599627370496 = (shX a b).toNat by omega, UInt64.ofNat_toNat]
    rw [e]
    exact good_dbl (by omega) (by omega) (Nat.mod_lt _ (by decide))
def tld (Z O : Nat → Int64) : Nat := sumN 4 (fun o => pc (O o ||| Z o))
def sur (n K : Nat) (Z O : Nat → Int64) : Nat := sumN 4 (fun o => pc ((O o ||| Z o) &&& (UN n K Z O o ^^^ (-1))))
theorem tld_le (Z O : Nat → Int64) : tld Z O ≤ 256 := sumN_le (n := 4) (g := fun _ => 64) (fun i _ => pc_le _)
theorem sur_le (n K : Nat) (Z O : Nat → Int64) : sur n K Z O ≤ tld Z O := sumN_le (fun i _ => pc_mono (fun j _ h => by
  rw [tb_and, Bool.and_eq_true] at h
  exact h.1))
def shV (n K : Nat) (Z O : Nat → Int64) : UInt64 := if tld Z O = 0 then dbl 1023 0 else shX (sur n K Z O) (tld Z O)
theorem shV_good (n K : Nat) (Z O : Nat → Int64) : goodD (shV n K Z O) := by
  unfold shV
  split
  · exact good_dbl (by decide) (by decide) (by decide)
  · exact good_sh (sur_le n K Z O) (by omega) (tld_le Z O)
theorem sh_end (n K : Nat) (Z O : Nat → Int64) : (if nI (tld Z O) = 0 then some FP.dconst1 else gn (FP.ddiv (FP.i2d (nI (sur n K Z O))) (FP.i2d (nI (tld Z O)))) (some (FP.ddiv (FP.i2d (nI (sur n K Z O))) (FP.i2d (nI (tld Z O)))))) = some (shV n K Z O) := by
  have h1 := tld_le Z O
  have h2 := shV_good n K Z O
  have e1 : FP.dconst1 = dbl 1023 0 := by decide
  by_cases h : tld Z O = 0
  · rw [if_pos (by rw [h]; decide), e1]
    unfold shV
    rw [if_pos h]
  · rw [if_neg (nI_ne0 (by omega) (by omega))]
    unfold shV at h2 ⊢
    rw [if_neg h] at h2 ⊢
    unfold gn
    exact if_pos h2.2.2.2
theorem sh_cls {n K : Nat} (Z O : Nat → Int64) {vn : Nat → Int64} (hv : ∀ o, o < 4 → vn o = UN n K Z O o) : fX6_shareDecided Z O vn = some (shV n K Z O) := by
  obtain ⟨m, s, e, hI⟩ := loop0 (fun k i (s : Int32 × Int32) => fX6_shareDecided_L7 Z O vn k s.1 s.2 i) (fun i s => s = (nI (sumN i (fun o => pc (O o ||| Z o))), nI (sumN i (fun o => pc ((O o ||| Z o) &&& (UN n K Z O o ^^^ (-1))))))) 4 (s := ((0 : Int32), (0 : Int32))) (by decide) rfl (by
    intro m i s hi hI
    subst hI
    refine ⟨_, ?_, rfl⟩
    show fX6_shareDecided_L7 Z O vn (m + 1) _ _ (nI i) = fX6_shareDecided_L7 Z O vn m (nI (sumN i (fun o => pc (O o ||| Z o)) + pc (O i ||| Z i))) (nI (sumN i (fun o => pc ((O o ||| Z o) &&& (UN n K Z O o ^^^ (-1)))) + pc ((O i ||| Z i) &&& (UN n K Z O i ^^^ (-1))))) (nI (i + 1))
    rw [fX6_shareDecided_L7, if_neg (n4 hi), on_cls O hi, Option.bind_some, zo_cls Z hi, Option.bind_some, pc_cls, Option.bind_some, uo_cls hi, Option.bind_some, hv i hi, pc_cls, Option.bind_some, nI_add, nI_add, nI_1])
  unfold fX6_shareDecided
  refine Eq.trans e ?_
  show fX6_shareDecided_L7 Z O vn (m + 1) s.1 s.2 (nI 4) = _
  rw [fX6_shareDecided_L7, if_pos p4_, hI]
  unfold fX6_shareDecided_J67
  exact sh_end n K Z O
def cr (Z O : Nat → Int64) (o r : Nat) : Bool := tb (O o) r || tb (Z o) r
theorem t_lt2 (Z O : Nat → Int64) (o r : Nat) : (2 ≤ tOf Z O o r) = (cr Z O o r = false) := by
  unfold tOf cr
  cases tb (O o) r <;> cases tb (Z o) r <;> decide
theorem sh_in {n K : Nat} {Z O : Nat → Int64} {z : Nat → Int32} (h : TZ n K Z O z) (hk : OKs n K Z O) {o : Nat} (ho : o < 4) (k : Int32 → Int32 → Int32 → Option UInt64) (a b : Nat) : fX7_share_L14 (nI o) z k 5000 (nI a) (nI b) 0 = k (nI (a + pc (O o ||| Z o))) (nI (b + pc ((O o ||| Z o) &&& (UN n K Z O o ^^^ (-1))))) (nI (o + 1)) := by
  have h64 := p64 hk.2.1
  obtain ⟨m, s, e, hI⟩ := loop0 (fun k2 i (s : Int32 × Int32) => fX7_share_L14 (nI o) z k k2 s.1 s.2 i) (fun i s => s = (nI (a + sumN i (fun r => (cr Z O o r).toNat)), nI (b + sumN i (fun r => (cr Z O o r && !tb (UN n K Z O o) r).toNat)))) (2 ^ n) (s := (nI a, nI b)) (by omega) rfl (by
    intro m i s hi hI
    subst hI
    refine ⟨_, ?_, rfl⟩
    show fX7_share_L14 (nI o) z k (m + 1) (nI (a + sumN i (fun r => (cr Z O o r).toNat))) (nI (b + sumN i (fun r => (cr Z O o r && !tb (UN n K Z O o) r).toNat))) (nI i) = fX7_share_L14 (nI o) z k m (nI (a + sumN (i + 1) (fun r => (cr Z O o r).toNat))) (nI (b + sumN (i + 1) (fun r => (cr Z O o r && !tb (UN n K Z O o) r).toNat))) (nI (i + 1))
    rw [sumN_s, sumN_s, ← Nat.add_assoc, ← Nat.add_assoc]
    generalize a + sumN i (fun r => (cr Z O o r).toNat) = a1
    generalize b + sumN i (fun r => (cr Z O o r && !tb (UN n K Z O o) r).toNat) = b1
    rw [fX7_share_L14, r_rows h hk.2.1, Option.bind_some, if_neg (nI_ge hi (by omega)), r_truth z ho (by omega), Option.bind_some, h.2.2 o ho i hi]
    unfold fX7_share_J39 fX7_share_J52 fX7_share_J75 fX7_share_J76
    rw [nI_1]
    have hu : tb (UN n K Z O o) i = (tb (al (fg n K) (Z o)) i && tb (al (fg n K) (O o)) i) := tb_and _ _ _
    have hd : (3 ≤ dv (tb (al (fg n K) (Z o)) i) (tb (al (fg n K) (O o)) i)) = (tb (UN n K Z O o) i = true) := by
      rw [hu]
      cases tb (al (fg n K) (Z o)) i <;> cases tb (al (fg n K) (O o)) i <;> decide
    have ht := t_lt2 Z O o i
    cases q : cr Z O o i
    · rw [if_pos (ht.mpr q), if_pos (show (0 : Int32) = 0 from rfl), if_pos (show (0 : Int32) = 0 from rfl), Int32.add_zero, Int32.add_zero]
      rfl
    · rw [if_neg (fun w => by have := ht.mp w; rw [q] at this; exact absurd this (by decide)), if_neg (show ¬ (1 : Int32) = 0 by decide), if_neg (show ¬ (1 : Int32) = 0 by decide), dec_ref h hk ho hi, Option.bind_some]
      cases q2 : tb (UN n K Z O o) i
      · rw [if_neg (fun w => by have := hd.mp w; rw [q2] at this; exact absurd this (by decide)), nI_1, nI_1]
        rfl
      · rw [if_pos (hd.mpr q2), nI_1, Int32.add_zero]
        rfl)
  refine Eq.trans e ?_
  show fX7_share_L14 (nI o) z k (m + 1) s.1 s.2 (nI (2 ^ n)) = _
  rw [fX7_share_L14, r_rows h hk.2.1, Option.bind_some, if_pos (nI_le (Nat.le_refl _) (by omega)), hI]
  unfold fX7_share_J84
  rw [nI_1]
  have hs : ∀ i, i < 64 → tb (O o ||| Z o) i = (decide (i < 2 ^ n) && cr Z O o i) := by
    intro i hi
    rw [tb_or]
    unfold cr
    have hz := (hk.2.2.2 o ho).1 i hi
    have ho' := (hk.2.2.2 o ho).2.1 i hi
    revert hz ho'
    cases tb (O o) i <;> cases tb (Z o) i <;> intro hz ho'
    · cases decide (i < 2 ^ n) <;> rfl
    · rw [decide_eq_true (hz rfl)]; rfl
    · rw [decide_eq_true (ho' rfl)]; rfl
    · rw [decide_eq_true (ho' rfl)]; rfl
  rw [pc_rows hk.2.1 (fun i => cr Z O o i) hs, pc_rows hk.2.1 (fun i => cr Z O o i && !tb (UN n K Z O o) i) (fun i hi => by rw [tb_and, hs i hi, tb_not _ hi, Bool.and_assoc])]
theorem sh_ref {n K : Nat} {Z O : Nat → Int64} {z : Nat → Int32} (h : TZ n K Z O z) (hk : OKs n K Z O) : fX7_share z = some (shV n K Z O) := by
  obtain ⟨m, s, e, hI⟩ := loop0 (fun k i (s : Int32 × Int32) => fX7_share_L6 z k s.1 s.2 i) (fun i s => s = (nI (sumN i (fun o => pc (O o ||| Z o))), nI (sumN i (fun o => pc ((O o ||| Z o) &&& (UN n K Z O o ^^^ (-1))))))) 4 (s := ((0 : Int32), (0 : Int32))) (by decide) rfl (by
    intro m i s hi hI
    subst hI
    refine ⟨_, ?_, rfl⟩
    show fX7_share_L6 z (m + 1) _ _ (nI i) = _
    rw [fX7_share_L6, if_neg (n4 hi)]
    exact sh_in h hk hi (fX7_share_L6 z m) _ _)
  unfold fX7_share
  refine Eq.trans e ?_
  show fX7_share_L6 z (m + 1) s.1 s.2 (nI 4) = _
  rw [fX7_share_L6, if_pos p4_, hI]
  unfold fX7_share_J90
  exact sh_end n K Z O
