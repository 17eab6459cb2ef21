/-! mathematics of the class -/
theorem cv_dd {n K : Nat} {Z O : Nat → Int64} (hk : OKs n K Z O) {o : Nat} (ho : o < 4) : CV n K (dz n K Z O o) (dn n K Z O o) := by
  refine ⟨hk.2.1, hk.2.2.1, dz_sub hk ho, fun r t hr ht h => dz_cl n K Z O o hr ht h, fun r hr h => ⟨dn_sub hk ho r hr h, ?_⟩⟩
  rw [dn_b n K Z O o hr, Bool.and_eq_true] at h
  rw [dz_b n K Z O o hr, h.1]
  exact Bool.and_false _
def SZ (n K : Nat) (Z O : Nat → Int64) (o : Nat) : Nat := szN n K (dz n K Z O o) (dn n K Z O o)
def CC (n K : Nat) (Z O : Nat → Int64) (o i : Nat) : Nat := ccN n K (dz n K Z O o) (dn n K Z O o) i
def AN (n K : Nat) (Z O : Nat → Int64) (o : Nat) : Int64 := anN n K (dz n K Z O o) (dn n K Z O o) (SZ n K Z O o)
def PN (n K : Nat) (Z O : Nat → Int64) (o : Nat) : Nat := cnt K (dz n K Z O o) 4096
def UN (n K : Nat) (Z O : Nat → Int64) (o : Nat) : Int64 := al (fg n K) (Z o) &&& al (fg n K) (O o)
theorem SZ_le (n K : Nat) (Z O : Nat → Int64) (o : Nat) : SZ n K Z O o ≤ 64 := sz_le _ _ _ _
theorem CC_ok {n K : Nat} {Z O : Nat → Int64} (hk : OKs n K Z O) {o : Nat} (ho : o < 4) {i : Nat} (hi : i < SZ n K Z O o) : CC n K Z O o i < 4096 ∧ prB K (dz n K Z O o) (CC n K Z O o i) = true := ⟨(cc_ok (cv_dd hk ho) hi).1, (cc_ok (cv_dd hk ho) hi).2.1⟩
def C1 (n K : Nat) (Z O : Nat → Int64) (cov siz : Nat → Int32) (o : Nat) : Prop := siz o = nI (SZ n K Z O o) ∧ ∀ i, i < SZ n K Z O o → cov (64 * o + i) = nI (CC n K Z O o i)
def CVR (n K : Nat) (Z O : Nat → Int64) (cov siz : Nat → Int32) : Prop := ∀ o, o < 4 → C1 n K Z O cov siz o
def has (n K : Nat) (Z O : Nat → Int64) (c o : Nat) : Bool := anyN (SZ n K Z O o) (fun i => decide (CC n K Z O o i = c))
def mnH (n K : Nat) (Z O : Nat → Int64) (c : Nat) : Nat := sumN 4 (fun o => (has n K Z O c o).toNat)
theorem mnH_le (n K : Nat) (Z O : Nat → Int64) (c : Nat) : mnH n K Z O c ≤ 4 := by
  have h := sumN_le (n := 4) (f := fun o => (has n K Z O c o).toNat) (g := fun _ => 1) (fun i _ => by cases has n K Z O c i <;> decide)
  rw [sumN_one] at h
  exact h
def hb4 (a b c d : Bool) : Nat := a.toNat + 2 * b.toNat + 4 * c.toNat + 8 * d.toNat
def sl4 (a b c d : Bool) (o : Nat) : Bool := match o with
  | 0 => a
  | 1 => b
  | 2 => c
  | _ => d
def fs4 (a b c d : Bool) (o : Nat) : Bool := match o with
  | 0 => true
  | 1 => !a
  | 2 => !a && !b
  | _ => !a && !b && !c
def HO (n K : Nat) (Z O : Nat → Int64) (c : Nat) : Nat := hb4 (has n K Z O c 0) (has n K Z O c 1) (has n K Z O c 2) (has n K Z O c 3)
def fsH (n K : Nat) (Z O : Nat → Int64) (c o : Nat) : Bool := fs4 (has n K Z O c 0) (has n K Z O c 1) (has n K Z O c 2) (has n K Z O c 3) o
theorem h4_a : ∀ a b c d : Bool, ∀ o, o < 4 → (nI (hb4 a b c d) &&& (((1 : Int32) <<< (nI o &&& 31)) - 1) = 0 ↔ fs4 a b c d o = true) := by decide +kernel
theorem h4_b : ∀ a b c d : Bool, ∀ o, o < 4 → sl4 a b c d o = true → fs4 a b c d o = true → (nI (hb4 a b c d) = (1 : Int32) <<< (nI o &&& 31) ↔ ¬ 1 < 0 + a.toNat + b.toNat + c.toNat + d.toNat) := by decide +kernel
theorem h4_c : ∀ a b c d : Bool, 0 + (sl4 a b c d 0 && fs4 a b c d 0).toNat + (sl4 a b c d 1 && fs4 a b c d 1).toNat + (sl4 a b c d 2 && fs4 a b c d 2).toNat + (sl4 a b c d 3 && fs4 a b c d 3).toNat = if 0 < 0 + a.toNat + b.toNat + c.toNat + d.toNat then 1 else 0 := by decide +kernel
theorem h4_d : ∀ a b c d : Bool, hb4 a b c d < 64 ∧ ocN (hb4 a b c d) = 0 + a.toNat + b.toNat + c.toNat + d.toNat := by decide +kernel
def hmF (f : Nat → Bool) : Nat → Nat
  | 0 => 0
  | o + 1 => if f o = true then hmF f o ||| 2 ^ o else hmF f o
theorem hm_4 (f : Nat → Bool) : hmF f 4 = hb4 (f 0) (f 1) (f 2) (f 3) := by
  have h : ∀ a b c d : Bool, hmF (sl4 a b c d) 4 = hb4 a b c d := by decide +kernel
  have e : ∀ g : Nat → Bool, (∀ i, i < 4 → f i = g i) → hmF f 4 = hmF g 4 := by
    intro g hg
    show (if f 3 = true then (if f 2 = true then (if f 1 = true then (if f 0 = true then 0 ||| 2 ^ 0 else 0) ||| 2 ^ 1 else (if f 0 = true then 0 ||| 2 ^ 0 else 0)) ||| 2 ^ 2 else (if f 1 = true then (if f 0 = true then 0 ||| 2 ^ 0 else 0) ||| 2 ^ 1 else (if f 0 = true then 0 ||| 2 ^ 0 else 0))) ||| 2 ^ 3 else (if f 2 = true then (if f 1 = true then (if f 0 = true then 0 ||| 2 ^ 0 else 0) ||| 2 ^ 1 else (if f 0 = true then 0 ||| 2 ^ 0 else 0)) ||| 2 ^ 2 else (if f 1 = true then (if f 0 = true then 0 ||| 2 ^ 0 else 0) ||| 2 ^ 1 else (if f 0 = true then 0 ||| 2 ^ 0 else 0)))) = _
    rw [hg 0 (by decide), hg 1 (by decide), hg 2 (by decide), hg 3 (by decide)]
    rfl
  rw [e (sl4 (f 0) (f 1) (f 2) (f 3)) (fun i hi => by
    rcases i with _ | _ | _ | _ | i
    · rfl
    · rfl
    · rfl
    · rfl
    · omega), h]
theorem ho_cls {n K : Nat} {Z O : Nat → Int64} (hk : OKs n K Z O) {cov siz : Nat → Int32} (hc : CVR n K Z O cov siz) {c : Nat} (hc6 : c < 4096) : fX5_holdersOf siz cov (nI c) = some (nI (HO n K Z O c)) := by
  obtain ⟨m, s, e, hI⟩ := loop0 (fun k i s => fX5_holdersOf_L4 (nI c) siz cov k s i) (fun i s => s = nI (hmF (has n K Z O c) i)) 4 (s := (0 : Int32)) (by decide) rfl (by
    intro m o s ho hI
    subst hI
    refine ⟨_, ?_, rfl⟩
    have h64 := SZ_le n K Z O o
    have h1 := hc o ho
    show fX5_holdersOf_L4 (nI c) siz cov (m + 1) _ (nI o) = fX5_holdersOf_L4 (nI c) siz cov m (nI (if has n K Z O c o = true then hmF (has n K Z O c) o ||| 2 ^ o else hmF (has n K Z O c) o)) (nI (o + 1))
    rw [fX5_holdersOf_L4, if_neg (n4 ho)]
    generalize hmF (has n K Z O c) o = y
    obtain ⟨m2, s2, e2, hI2⟩ := loop0 (fun k i s => fX5_holdersOf_L12 (nI c) (nI o) siz cov (fX5_holdersOf_L4 (nI c) siz cov m) k s i) (fun i s => s = nI (if anyN i (fun i => decide (CC n K Z O o i = c)) = true then y ||| 2 ^ o else y)) (SZ n K Z O o) (s := nI y) (by omega) rfl (by
      intro m i s hi hI
      subst hI
      refine ⟨_, ?_, rfl⟩
      show fX5_holdersOf_L12 (nI c) (nI o) siz cov _ (m + 1) _ (nI i) = fX5_holdersOf_L12 (nI c) (nI o) siz cov _ m (nI (if (anyN i (fun i => decide (CC n K Z O o i = c)) || decide (CC n K Z O o i = c)) = true then y ||| 2 ^ o else y)) (nI (i + 1))
      have h2 := (CC_ok hk ho hi).1
      rw [fX5_holdersOf_L12, gd_in ho (by decide), nI_clamp (by omega), h1.1, if_neg (nI_ge hi (by omega)), if_neg (n64 (by omega)), show nI o * 64 = nI (64 * o) by rw [show (64 : Int32) = nI 64 from rfl, pk_mul, Nat.mul_comm], nI_add, gd_in (show 64 * o + i < 256 by omega) (by decide), nI_clamp (by omega), h1.2 i hi, al_sh o (by omega), nI_orr]
      unfold fX5_holdersOf_J52
      rw [nI_1]
      by_cases hq : CC n K Z O o i = c
      · rw [if_pos (by rw [hq]), decide_eq_true hq, Bool.or_true, if_pos rfl]
        congr 2
        split
        · rw [Nat.or_assoc, Nat.or_self]
        · rfl
      · rw [if_neg (fun z => hq ((nI_eq (by omega) (by omega)).mp z)), decide_eq_false hq, Bool.or_false])
    refine Eq.trans e2 ?_
    show fX5_holdersOf_L12 (nI c) (nI o) siz cov _ (m2 + 1) s2 (nI (SZ n K Z O o)) = _
    rw [fX5_holdersOf_L12, gd_in ho (by decide), nI_clamp (by omega), h1.1, if_pos (nI_le (Nat.le_refl _) (by omega)), hI2]
    unfold fX5_holdersOf_J58
    rw [nI_1]
    rfl)
  unfold fX5_holdersOf
  refine Eq.trans e ?_
  show fX5_holdersOf_L4 (nI c) siz cov (m + 1) s (nI 4) = _
  rw [fX5_holdersOf_L4, if_pos p4_, hI, hm_4]
  rfl
