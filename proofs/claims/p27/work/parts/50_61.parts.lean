/-! mathematics of the class -/
theorem lf_dis (n K : Nat) (w x : Int64) (i : Nat) : ∀ d r, r < 64 → tb (lfN n K w x (i + 1 + d)) r = true → tb (rwS n (ccN n K w x i)) r = false := by
  intro d
  induction d with
  | zero =>
    intro r hr h
    by_cases hz : lfN n K w x i = 0
    · rw [Nat.add_zero, lf_z hz, tb_0] at h
      exact absurd h (by decide)
    · rw [Nat.add_zero, lf_s hz, tb_and, tb_not _ hr, Bool.and_eq_true] at h
      simpa using h.2
  | succ d ih =>
    intro r hr h
    refine ih r hr ?_
    rw [show i + 1 + (d + 1) = (i + 1 + d) + 1 by omega] at h
    by_cases hz : lfN n K w x (i + 1 + d) = 0
    · rw [lf_z hz, tb_0] at h
      exact absurd h (by decide)
    · rw [lf_s hz, tb_and, Bool.and_eq_true] at h
      exact h.1
theorem cc_inj {n K : Nat} {w x : Int64} (h : CV n K w x) {i j : Nat} (hij : i < j) (hj : j < szN n K w x) : ccN n K w x i ≠ ccN n K w x j := by
  intro e
  obtain ⟨_, _, _, h4, _⟩ := cv_step (lf_ok h j).1 (sz_ne hj)
  obtain ⟨r, hr, hb⟩ := tb_ex (pc_pos.mp h4)
  rw [tb_and, Bool.and_eq_true] at hb
  obtain ⟨d, hd⟩ : ∃ d, j = i + 1 + d := ⟨j - (i + 1), by omega⟩
  have h5 := lf_dis n K w x i d r hr (by rw [← hd]; exact hb.2)
  rw [e] at h5
  have h6 : tb (rwS n (ccN n K w x j)) r = true := hb.1
  rw [h5] at h6
  exact absurd h6 (by decide)
theorem and_mulN (a b : Bool) (k : Nat) : (a && b).toNat * k = a.toNat * (b.toNat * k) := by
  cases a <;> cases b <;> simp
theorem sumN_mul (n : Nat) (f : Nat → Nat) (k : Nat) : sumN n (fun i => f i * k) = sumN n f * k := by
  induction n with
  | zero => exact (Nat.zero_mul k).symm
  | succ n ih => show sumN n (fun i => f i * k) + f n * k = (sumN n f + f n) * k; rw [ih, Nat.add_mul]
theorem sumN_swap (m n : Nat) (f : Nat → Nat → Nat) : sumN m (fun i => sumN n (fun j => f i j)) = sumN n (fun j => sumN m (fun i => f i j)) := by
  induction m with
  | zero => exact (sumN_0 (fun _ _ => rfl)).symm
  | succ m ih =>
    show sumN m (fun i => sumN n (fun j => f i j)) + sumN n (fun j => f m j) = sumN n (fun j => sumN m (fun i => f i j) + f m j)
    rw [ih, sumN_add]
theorem any_sum (f : Nat → Nat) (c : Nat) : ∀ N, (∀ i j, i < j → j < N → f i ≠ f j) → (anyN N (fun i => decide (f i = c))).toNat = sumN N (fun i => (decide (f i = c)).toNat) := by
  intro N
  induction N with
  | zero => intro _; rfl
  | succ N ih =>
    intro h
    show (anyN N (fun i => decide (f i = c)) || decide (f N = c)).toNat = sumN N (fun i => (decide (f i = c)).toNat) + (decide (f N = c)).toNat
    by_cases hc : f N = c
    · have h0 : sumN N (fun i => (decide (f i = c)).toNat) = 0 := sumN_0 (fun i hi => by
        have := h i N hi (by omega)
        rw [decide_eq_false (fun z => this (z.trans hc.symm))]
        rfl)
      rw [h0, decide_eq_true hc, Bool.or_true]
      exact (Nat.zero_add _).symm
    · rw [decide_eq_false hc, Bool.or_false, ih (fun i j hij hj => h i j hij (by omega))]
      rfl
theorem sum_pick (h : Nat → Nat) {a : Nat} : ∀ N, a < N → sumN N (fun c => (decide (a = c)).toNat * h c) = h a := by
  intro N
  induction N with
  | zero => intro z; omega
  | succ N ih =>
    intro z
    show sumN N (fun c => (decide (a = c)).toNat * h c) + (decide (a = N)).toNat * h N = h a
    by_cases e : a = N
    · have h0 : sumN N (fun c => (decide (a = c)).toNat * h c) = 0 := sumN_0 (fun i hi => by
        rw [decide_eq_false (by omega)]
        exact Nat.zero_mul _)
      rw [h0, decide_eq_true e, e]
      show 0 + 1 * h N = h N
      omega
    · rw [ih (by omega), decide_eq_false e]
      show h a + 0 * h N = h a
      omega
def gW (wt m c : Nat) : Nat := if wt = 0 then 1 else if wt = 1 then (if 1 < m then 1 else 0) else ocN (c / 64)
def PTS (n K : Nat) (Z O : Nat → Int64) (wt : Nat) : Nat := sumN 4096 (fun c => if 0 < mnH n K Z O c then gW wt (mnH n K Z O c) c else 0)
def cP (n K : Nat) (Z O : Nat → Int64) (wt o i : Nat) : Nat := if fsH n K Z O (CC n K Z O o i) o = true then gW wt (mnH n K Z O (CC n K Z O o i)) (CC n K Z O o i) else 0
theorem has_isP {n K : Nat} {Z O : Nat → Int64} (hk : OKs n K Z O) {c : Nat} (h : 0 < mnH n K Z O c) : isP K c = true := by
  have h1 : ∃ o, o < 4 ∧ has n K Z O c o = true := by
    refine Classical.byContradiction (fun hn => ?_)
    have : mnH n K Z O c = 0 := sumN_0 (fun o ho => by
      cases q : has n K Z O c o
      · rfl
      · exact absurd ⟨o, ho, q⟩ hn)
    omega
  obtain ⟨o, ho, h2⟩ := h1
  obtain ⟨i, hi, h3⟩ := anyN_iff.mp h2
  have h4 := (CC_ok hk ho hi).2
  rw [of_decide_eq_true h3] at h4
  unfold prB at h4
  rw [Bool.and_eq_true, Bool.and_eq_true] at h4
  exact h4.1.1
theorem sl_f (f : Nat → Bool) {o : Nat} (ho : o < 4) : sl4 (f 0) (f 1) (f 2) (f 3) o = f o := by
  rcases o with _ | _ | _ | _ | o
  · rfl
  · rfl
  · rfl
  · rfl
  · omega
theorem sl_has (n K : Nat) (Z O : Nat → Int64) (c : Nat) {o : Nat} (ho : o < 4) : sl4 (has n K Z O c 0) (has n K Z O c 1) (has n K Z O c 2) (has n K Z O c 3) o = has n K Z O c o := sl_f (has n K Z O c) ho
theorem h4_f (f : Nat → Bool) : sumN 4 (fun o => (f o && fs4 (f 0) (f 1) (f 2) (f 3) o).toNat) = if 0 < sumN 4 (fun o => (f o).toNat) then 1 else 0 := h4_c (f 0) (f 1) (f 2) (f 3)
theorem gW_0 (m c : Nat) : gW 0 m c = 1 := rfl
theorem gW_1 (m c : Nat) : gW 1 m c = if 1 < m then 1 else 0 := rfl
theorem gW_2 (m c : Nat) : gW 2 m c = ocN (c / 64) := rfl
theorem mn_4 (n K : Nat) (Z O : Nat → Int64) (c : Nat) : mnH n K Z O c = 0 + (has n K Z O c 0).toNat + (has n K Z O c 1).toNat + (has n K Z O c 2).toNat + (has n K Z O c 3).toNat := rfl
theorem pt_eq {n K : Nat} {Z O : Nat → Int64} (hk : OKs n K Z O) (wt : Nat) : sumN 4 (fun o => sumN (SZ n K Z O o) (fun i => cP n K Z O wt o i)) = PTS n K Z O wt := by
  have h1 : PTS n K Z O wt = sumN 4096 (fun c => sumN 4 (fun o => (has n K Z O c o && fsH n K Z O c o).toNat * gW wt (mnH n K Z O c) c)) := by
    refine sumN_congr (fun c _ => ?_)
    rw [sumN_mul]
    have e : sumN 4 (fun o => (has n K Z O c o && fsH n K Z O c o).toNat) = if 0 < mnH n K Z O c then 1 else 0 := h4_f (has n K Z O c)
    rw [e]
    split
    · exact (Nat.one_mul _).symm
    · exact (Nat.zero_mul _).symm
  rw [h1, sumN_swap]
  refine sumN_congr (fun o ho => ?_)
  have h2 : sumN 4096 (fun c => (has n K Z O c o && fsH n K Z O c o).toNat * gW wt (mnH n K Z O c) c) = sumN 4096 (fun c => sumN (SZ n K Z O o) (fun i => (decide (CC n K Z O o i = c)).toNat * ((fsH n K Z O c o).toNat * gW wt (mnH n K Z O c) c))) := by
    refine sumN_congr (fun c _ => ?_)
    rw [sumN_mul, ← any_sum (fun i => CC n K Z O o i) c (SZ n K Z O o) (fun i j hij hj => cc_inj (cv_dd hk ho) hij hj)]
    show _ = (has n K Z O c o).toNat * _
    exact and_mulN _ _ _
  rw [h2, sumN_swap]
  refine sumN_congr (fun i hi => ?_)
  rw [sum_pick (fun c => (fsH n K Z O c o).toNat * gW wt (mnH n K Z O c) c) 4096 (CC_ok hk ho hi).1]
  unfold cP
  split
  · rename_i q
    rw [q]
    exact (Nat.one_mul _).symm
  · rename_i q
    have q : fsH n K Z O (CC n K Z O o i) o = false := by simpa using q
    rw [q]
    exact (Nat.zero_mul _).symm
theorem sumN_s (n : Nat) (f : Nat → Nat) : sumN (n + 1) f = sumN n f + f n := rfl
theorem cp_in {n K : Nat} {Z O : Nat → Int64} (hk : OKs n K Z O) {cov siz : Nat → Int32} (hc : CVR n K Z O cov siz) {o : Nat} (ho : o < 4) (k : Int32 → Int32 → Int32 → Int32 → Option (Int32 × Int32 × Int32)) (a b c : Nat) : fX5_countParts_L24 (nI o) siz cov k 5000 0 (nI a) (nI b) (nI c) = k (nI (o + 1)) (nI (a + sumN (SZ n K Z O o) (fun i => cP n K Z O 0 o i))) (nI (b + sumN (SZ n K Z O o) (fun i => cP n K Z O 1 o i))) (nI (c + sumN (SZ n K Z O o) (fun i => cP n K Z O 2 o i))) := by
  have h64 := SZ_le n K Z O o
  have h1 := hc o ho
  obtain ⟨m, s, e, hI⟩ := loop0 (fun k2 i (s : Int32 × Int32 × Int32) => fX5_countParts_L24 (nI o) siz cov k k2 i s.1 s.2.1 s.2.2) (fun i s => s = (nI (a + sumN i (fun i => cP n K Z O 0 o i)), nI (b + sumN i (fun i => cP n K Z O 1 o i)), nI (c + sumN i (fun i => cP n K Z O 2 o i)))) (SZ n K Z O o) (s := (nI a, nI b, nI c)) (by omega) rfl (by
    intro m i s hi hI
    subst hI
    refine ⟨_, ?_, rfl⟩
    have h2 := (CC_ok hk ho hi).1
    have hh : has n K Z O (CC n K Z O o i) o = true := anyN_iff.mpr ⟨i, hi, decide_eq_true rfl⟩
    show fX5_countParts_L24 (nI o) siz cov k (m + 1) (nI i) (nI (a + sumN i (fun i => cP n K Z O 0 o i))) (nI (b + sumN i (fun i => cP n K Z O 1 o i))) (nI (c + sumN i (fun i => cP n K Z O 2 o i))) = fX5_countParts_L24 (nI o) siz cov k m (nI (i + 1)) (nI (a + sumN (i + 1) (fun i => cP n K Z O 0 o i))) (nI (b + sumN (i + 1) (fun i => cP n K Z O 1 o i))) (nI (c + sumN (i + 1) (fun i => cP n K Z O 2 o i)))
    rw [sumN_s, sumN_s, sumN_s, ← Nat.add_assoc, ← Nat.add_assoc, ← Nat.add_assoc]
    generalize a + sumN i (fun i => cP n K Z O 0 o i) = a1
    generalize b + sumN i (fun i => cP n K Z O 1 o i) = b1
    generalize c + sumN i (fun i => cP n K Z O 2 o i) = c1
    rw [fX5_countParts_L24, gd_in ho (by decide), nI_clamp (show o < 2 ^ 31 by omega), h1.1, if_neg (nI_ge hi (by omega)), if_neg (n64 (by omega)), show nI o * 64 = nI (64 * o) by rw [show (64 : Int32) = nI 64 from rfl, pk_mul, Nat.mul_comm], nI_add, gd_in (show 64 * o + i < 256 by omega) (by decide), nI_clamp (show 64 * o + i < 2 ^ 31 by omega), h1.2 i hi, ho_cls hk hc h2, Option.bind_some]
    unfold fX5_countParts_J118 fX5_countParts_J122
    have ha := h4_a (has n K Z O (CC n K Z O o i) 0) (has n K Z O (CC n K Z O o i) 1) (has n K Z O (CC n K Z O o i) 2) (has n K Z O (CC n K Z O o i) 3) o ho
    have hb := h4_b (has n K Z O (CC n K Z O o i) 0) (has n K Z O (CC n K Z O o i) 1) (has n K Z O (CC n K Z O o i) 2) (has n K Z O (CC n K Z O o i) 3) o ho
    rw [sl_has n K Z O _ ho, ← mn_4] at hb
    have ha : nI (HO n K Z O (CC n K Z O o i)) &&& (((1 : Int32) <<< (nI o &&& 31)) - 1) = 0 ↔ fsH n K Z O (CC n K Z O o i) o = true := ha
    have hb : has n K Z O (CC n K Z O o i) o = true → fsH n K Z O (CC n K Z O o i) o = true → (nI (HO n K Z O (CC n K Z O o i)) = (1 : Int32) <<< (nI o &&& 31) ↔ ¬ 1 < mnH n K Z O (CC n K Z O o i)) := hb
    unfold cP
    cases q : fsH n K Z O (CC n K Z O o i) o
    · rw [if_neg (fun z => by rw [ha.mp z] at q; exact absurd q (by decide)), if_neg (by decide), if_neg (by decide), if_neg (by decide), nI_1]
      rfl
    · rw [if_pos (ha.mpr q), if_pos rfl, if_pos rfl, if_pos rfl, d64 (by omega), oc_eq _ (by omega), Option.bind_some, nI_1, nI_1, nI_add]
      have hb2 := hb hh q
      rw [gW_0, gW_1, gW_2]
      by_cases h3 : 1 < mnH n K Z O (CC n K Z O o i)
      · rw [if_neg (fun z => hb2.mp z h3), if_pos h3, nI_1]
      · rw [if_pos (hb2.mpr h3), if_neg h3, Int32.add_zero]
        rfl)
  refine Eq.trans e ?_
  show fX5_countParts_L24 (nI o) siz cov k (m + 1) (nI (SZ n K Z O o)) s.1 s.2.1 s.2.2 = _
  rw [fX5_countParts_L24, gd_in ho (by decide), nI_clamp (by omega), h1.1, if_pos (nI_le (Nat.le_refl _) (by omega)), hI]
  unfold fX5_countParts_J128
  rw [nI_1]
theorem cp_cls {n K : Nat} {Z O : Nat → Int64} (hk : OKs n K Z O) {cov siz : Nat → Int32} (hc : CVR n K Z O cov siz) : fX5_countParts siz cov = some (nI (PTS n K Z O 0), nI (PTS n K Z O 1), nI (PTS n K Z O 2)) := by
  obtain ⟨m, s, e, hI⟩ := loop0 (fun k i (s : Int32 × Int32 × Int32) => fX5_countParts_L17 siz cov k i s.1 s.2.1 s.2.2) (fun i s => s = (nI (sumN i (fun o => sumN (SZ n K Z O o) (fun i => cP n K Z O 0 o i))), nI (sumN i (fun o => sumN (SZ n K Z O o) (fun i => cP n K Z O 1 o i))), nI (sumN i (fun o => sumN (SZ n K Z O o) (fun i => cP n K Z O 2 o i))))) 4 (s := ((0 : Int32), (0 : Int32), (0 : Int32))) (by decide) rfl (by
    intro m i s hi hI
    subst hI
    refine ⟨_, ?_, rfl⟩
    show fX5_countParts_L17 siz cov (m + 1) (nI i) _ _ _ = _
    rw [fX5_countParts_L17, if_neg (n4 hi)]
    exact cp_in hk hc hi (fX5_countParts_L17 siz cov m) _ _ _)
  unfold fX5_countParts
  refine Eq.trans e ?_
  show fX5_countParts_L17 siz cov (m + 1) (nI 4) s.1 s.2.1 s.2.2 = _
  rw [fX5_countParts_L17, if_pos p4_, hI, pt_eq hk 0, pt_eq hk 1, pt_eq hk 2]
