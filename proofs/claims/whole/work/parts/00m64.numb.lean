/-! numbers of the maze -/
theorem su_4 (A : Nat → Int32) : fX3_sum A = some (0 + A 0 + A 1 + A 2 + A 3) := rfl
theorem sr_4 (z : Nat → Int32) : fX7_sumOf z 4 = some (0 + z 4 + z 5 + z 6 + z 7) := rfl
theorem sr_8 (z : Nat → Int32) : fX7_sumOf z 8 = some (0 + z 8 + z 9 + z 10 + z 11) := rfl
def mzV (n K : Nat) (Z O : Nat → Int64) (asks hours : Int32) (A F : Nat → Int32) (hs : Int32) (w : Nat) : Int32 := match w with
  | 0 => nI n
  | 1 => nI K
  | 2 => nI (up (fg n K) Z O)
  | 3 => nI (PTS n K Z O 0)
  | 4 => nI (PTS n K Z O 1)
  | 5 => nI (PTS n K Z O 2)
  | 6 => asks
  | 7 => 0 + A 0 + A 1 + A 2 + A 3
  | 8 => 0 + F 0 + F 1 + F 2 + F 3
  | 9 => hours
  | _ => hs
theorem mz_cls {n K : Nat} {Z O : Nat → Int64} {vi vu vp vs vc : Int32} {vz vo vn va : Nat → Int64} {vq vk vd : Nat → Int32} (hv : VW n K Z O vi vu vp vs vc vz vo vn va vq vk vd) (asks hours : Int32) (A F : Nat → Int32) (hs : Int32) {w : Nat} (hw : w < 11) : fX6_mazeNumber (nI n) (nI K) asks hours A F hs vu vp vs vc (nI w) = some (mzV n K Z O asks hours A F hs w) := by
  obtain ⟨_, h2, h3, h4, h5, _⟩ := hv
  unfold fX6_mazeNumber
  rcases w11 hw with rfl | rfl | rfl | rfl | rfl | rfl | rfl | rfl | rfl | rfl | rfl
  · rw [if_pos nI_0]
    rfl
  · rw [if_neg (by decide), if_pos (by decide)]
    rfl
  · rw [if_neg (by decide), if_neg (by decide), if_pos (by decide), h2]
    rfl
  · rw [if_neg (by decide), if_neg (by decide), if_neg (by decide), if_pos (by decide), h3]
    rfl
  · rw [if_neg (by decide), if_neg (by decide), if_neg (by decide), if_neg (by decide), if_pos (by decide), h4]
    rfl
  · rw [if_neg (by decide), if_neg (by decide), if_neg (by decide), if_neg (by decide), if_neg (by decide), if_pos (by decide), h5]
    rfl
  · rw [if_neg (by decide), if_neg (by decide), if_neg (by decide), if_neg (by decide), if_neg (by decide), if_neg (by decide), if_pos (by decide)]
    rfl
  · rw [if_neg (by decide), if_neg (by decide), if_neg (by decide), if_neg (by decide), if_neg (by decide), if_neg (by decide), if_neg (by decide), if_pos (by decide), su_4]
    rfl
  · rw [if_neg (by decide), if_neg (by decide), if_neg (by decide), if_neg (by decide), if_neg (by decide), if_neg (by decide), if_neg (by decide), if_neg (by decide), if_pos (by decide), su_4]
    rfl
  · rw [if_neg (by decide), if_neg (by decide), if_neg (by decide), if_neg (by decide), if_neg (by decide), if_neg (by decide), if_neg (by decide), if_neg (by decide), if_neg (by decide), if_pos (by decide)]
    rfl
  · rw [if_neg (by decide), if_neg (by decide), if_neg (by decide), if_neg (by decide), if_neg (by decide), if_neg (by decide), if_neg (by decide), if_neg (by decide), if_neg (by decide), if_neg (by decide)]
    rfl
theorem ct_ref {n K : Nat} {Z O : Nat → Int64} {z : Nat → Int32} (h : TZ n K Z O z) (hk : OKs n K Z O) {asks hours : Int32} {A F : Nat → Int32} (ha : z 2 = asks) (hh : z 3 = hours) (hA : ∀ o, o < 4 → z (4 + o) = A o) (hF : ∀ o, o < 4 → z (8 + o) = F o) (hs : Int32) {cov siz : Nat → Int32} {w : Nat} (hw : w < 11) (hc : CVR n K Z O cov siz) : fX7_counted z hs cov siz (nI w) = some (mzV n K Z O asks hours A F hs w) := by
  have a0 : z 4 = A 0 := hA 0 (by decide)
  have a1 : z 5 = A 1 := hA 1 (by decide)
  have a2 : z 6 = A 2 := hA 2 (by decide)
  have a3 : z 7 = A 3 := hA 3 (by decide)
  have f0 : z 8 = F 0 := hF 0 (by decide)
  have f1 : z 9 = F 1 := hF 1 (by decide)
  have f2 : z 10 = F 2 := hF 2 (by decide)
  have f3 : z 11 = F 3 := hF 3 (by decide)
  unfold fX7_counted
  rcases w11 hw with rfl | rfl | rfl | rfl | rfl | rfl | rfl | rfl | rfl | rfl | rfl
  · rw [if_pos nI_0, gdz, show ((0 : Int32)).toNatClampNeg = 0 from rfl, h.1]
    rfl
  · rw [if_neg (by decide), if_pos (by decide), gdo, show ((1 : Int32)).toNatClampNeg = 1 from rfl, h.2.1]
    rfl
  · rw [if_neg (by decide), if_neg (by decide), if_pos (by decide), un_ref h hk]
    rfl
  · rw [if_neg (by decide), if_neg (by decide), if_neg (by decide), if_pos (by decide), show nI 3 - 3 = nI 0 by decide, po_ref h hk hc (by decide)]
    rfl
  · rw [if_neg (by decide), if_neg (by decide), if_neg (by decide), if_neg (by decide), if_pos (by decide), show nI 4 - 3 = nI 1 by decide, po_ref h hk hc (by decide)]
    rfl
  · rw [if_neg (by decide), if_neg (by decide), if_neg (by decide), if_neg (by decide), if_neg (by decide), if_pos (by decide), show nI 5 - 3 = nI 2 by decide, po_ref h hk hc (by decide)]
    rfl
  · rw [if_neg (by decide), if_neg (by decide), if_neg (by decide), if_neg (by decide), if_neg (by decide), if_neg (by decide), if_pos (by decide), show gd (2 : Int32) 268 (some (z ((2 : Int32)).toNatClampNeg)) = some (z 2) from rfl, ha]
    rfl
  · rw [if_neg (by decide), if_neg (by decide), if_neg (by decide), if_neg (by decide), if_neg (by decide), if_neg (by decide), if_neg (by decide), if_pos (by decide), sr_4, a0, a1, a2, a3]
    rfl
  · rw [if_neg (by decide), if_neg (by decide), if_neg (by decide), if_neg (by decide), if_neg (by decide), if_neg (by decide), if_neg (by decide), if_neg (by decide), if_pos (by decide), sr_8, f0, f1, f2, f3]
    rfl
  · rw [if_neg (by decide), if_neg (by decide), if_neg (by decide), if_neg (by decide), if_neg (by decide), if_neg (by decide), if_neg (by decide), if_neg (by decide), if_neg (by decide), if_pos (by decide), show gd (3 : Int32) 268 (some (z ((3 : Int32)).toNatClampNeg)) = some (z 3) from rfl, hh]
    rfl
  · rw [if_neg (by decide), if_neg (by decide), if_neg (by decide), if_neg (by decide), if_neg (by decide), if_neg (by decide), if_neg (by decide), if_neg (by decide), if_neg (by decide), if_neg (by decide)]
    rfl
/-! products of a cover -/
def pdW (n K : Nat) (Z O : Nat → Int64) (c w : Nat) : Int32 := match w with
  | 0 => nI (c / 64)
  | 1 => nI (c % 64)
  | 2 => nI (pc (rwS n c))
  | _ => nI (mnH n K Z O c)
def pdV (n K : Nat) (Z O : Nat → Int64) (o i w : Nat) : Int32 := if i < SZ n K Z O o then pdW n K Z O (CC n K Z O o i) w else -1
theorem pr_in {K : Nat} {w : Int64} {c : Nat} (h : prB K w c = true) : (c / 64) &&& K = c / 64 ∧ (c % 64) &&& (c / 64) = c % 64 := by
  unfold prB at h
  rw [Bool.and_eq_true, Bool.and_eq_true, Bool.and_eq_true] at h
  exact ⟨of_decide_eq_true h.1.1.1, of_decide_eq_true h.1.1.2⟩
theorem w4 {w : Nat} (h : w < 4) : w = 0 ∨ w = 1 ∨ w = 2 ∨ w = 3 := by omega
theorem pd_cls {n K : Nat} {Z O : Nat → Int64} (hk : OKs n K Z O) {vi vu vp vs vc : Int32} {vz vo vn va : Nat → Int64} {vq vk vd : Nat → Int32} (hv : VW n K Z O vi vu vp vs vc vz vo vn va vq vk vd) {o i w : Nat} (ho : o < 4) (hi : i < 64) (hw : w < 4) : fX5_productNumber vi vk vd (nI o) (nI i) (nI w) = some (pdV n K Z O o i w) := by
  obtain ⟨hvi, _, _, _, _, hcv, _⟩ := hv
  have hc := hcv o ho
  have h64 := SZ_le n K Z O o
  unfold fX5_productNumber pdV
  by_cases hs : i < SZ n K Z O o
  · obtain ⟨c1, c2⟩ := CC_ok hk ho hs
    obtain ⟨c3, c4⟩ := pr_in c2
    have c5 : CC n K Z O o i / 64 < 2 ^ n := by rw [← c3]; exact Nat.lt_of_le_of_lt Nat.and_le_right hk.2.2.1
    have hd := h4_d (has n K Z O (CC n K Z O o i) 0) (has n K Z O (CC n K Z O o i) 1) (has n K Z O (CC n K Z O o i) 2) (has n K Z O (CC n K Z O o i) 3)
    rw [← mn_4] at hd
    have hd : HO n K Z O (CC n K Z O o i) < 64 ∧ ocN (HO n K Z O (CC n K Z O o i)) = mnH n K Z O (CC n K Z O o i) := hd
    rw [ca_cls ho hs hc, Option.bind_some, if_pos hs, if_neg (fun z => nI_pos (show CC n K Z O o i < 2 ^ 31 by omega) (by rw [z]; decide)), r64 (by omega), d64 (by omega), hvi, ipr_cls hk.2.1 c5 c4, show 64 * (CC n K Z O o i / 64) + CC n K Z O o i % 64 = CC n K Z O o i by omega, Option.bind_some, pc_cls, Option.bind_some, ho_cls hk hcv c1, Option.bind_some, oc_eq _ hd.1, Option.bind_some, hd.2]
    rcases w4 hw with rfl | rfl | rfl | rfl
    · rw [if_pos nI_0]
      rfl
    · rw [if_neg (by decide), if_pos (by decide)]
      rfl
    · rw [if_neg (by decide), if_neg (by decide), if_pos (by decide)]
      rfl
    · rw [if_neg (by decide), if_neg (by decide), if_neg (by decide)]
      rfl
  · have e : fX5_codeAt vk vd (nI o) (nI i) = some (-1) := by
      unfold fX5_codeAt
      rw [io_1 o ho, Option.bind_some, if_neg (by decide), if_neg (nI_pos (by omega)), if_neg (n64 hi), gd_in ho (by decide), nI_clamp (show o < 2 ^ 31 by omega), hc.1, if_neg (nI_nlt (by omega) (by omega))]
    rw [e, Option.bind_some, if_pos rfl, if_neg hs]
theorem pd_ref {n K : Nat} {Z O : Nat → Int64} {z : Nat → Int32} (h : TZ n K Z O z) (hk : OKs n K Z O) {cov siz : Nat → Int32} (hcv : CVR n K Z O cov siz) {o i w : Nat} (ho : o < 4) (hi : i < 64) (hw : w < 4) : fX7_productNow z cov siz (nI o) (nI i) (nI w) = some (pdV n K Z O o i w) := by
  have hc := hcv o ho
  have h64 := SZ_le n K Z O o
  unfold fX7_productNow pdV
  rw [gd_in ho (by decide), nI_clamp (show o < 2 ^ 31 by omega), hc.1]
  by_cases hs : i < SZ n K Z O o
  · obtain ⟨c1, c2⟩ := CC_ok hk ho hs
    rw [if_pos (nI_lt hs (by omega)), if_pos hs, cv_ix, gd_in (show 64 * o + i < 256 by omega) (by decide), nI_clamp (by omega), hc.2 i hs, r64 (by omega), d64 (by omega), ro_ref h hk.2.1 c1, Option.bind_some, pc_ref, Option.bind_some, cw_ref hk hcv c1, Option.bind_some]
    rcases w4 hw with rfl | rfl | rfl | rfl
    · rw [if_pos nI_0]
      rfl
    · rw [if_neg (by decide), if_pos (by decide)]
      rfl
    · rw [if_neg (by decide), if_neg (by decide), if_pos (by decide)]
      rfl
    · rw [if_neg (by decide), if_neg (by decide), if_neg (by decide)]
      rfl
  · rw [if_neg (nI_nlt (by omega) (by omega)), if_neg hs]
/-! the inputs that an output needs -/
def nb (Z O : Nat → Int64) (o i : Nat) : Bool := !decide (al (2 ^ i) (O o) &&& Z o = 0)
def ndF (Z O : Nat → Int64) (o : Nat) : Nat → Nat
  | 0 => 0
  | i + 1 => if nb Z O o i = true then ndF Z O o i ||| 2 ^ i else ndF Z O o i
theorem s2_sub {s i : Nat} (h : s &&& 2 ^ i = s) : s = 0 ∨ s = 2 ^ i := by
  cases q : s.testBit i
  · left
    rw [← h]
    apply Nat.eq_of_testBit_eq
    intro j
    rw [Nat.testBit_and, Nat.testBit_two_pow, Nat.zero_testBit]
    by_cases e : i = j
    · subst e; rw [q]; rfl
    · rw [decide_eq_false e, Bool.and_false]
  · right
    rw [← h]
    apply Nat.eq_of_testBit_eq
    intro j
    rw [Nat.testBit_and, Nat.testBit_two_pow]
    by_cases e : i = j
    · subst e; rw [q]; rfl
    · rw [decide_eq_false e, Bool.and_false]
theorem nb_eq {n K : Nat} {Z O : Nat → Int64} (hk : OKs n K Z O) {o i : Nat} (ho : o < 4) (hi : i < n) : anyN (2 ^ n) (fun r => decide (tOf Z O o r = 0) && decide (tOf Z O o (r ^^^ 2 ^ i) = 1)) = nb Z O o i := by
  have h64 := p64 hk.2.1
  have hi6 : i < 6 := by have := hk.2.1; omega
  obtain ⟨hz1, hz2, hz3⟩ := hk.2.2.2 o ho
  rw [Bool.eq_iff_iff, anyN_iff]
  unfold nb
  rw [Bool.not_eq_true', decide_eq_false_iff_not]
  constructor
  · rintro ⟨r, hr, h⟩ hq
    rw [Bool.and_eq_true, decide_eq_true_eq, decide_eq_true_eq] at h
    have hr64 : r < 64 := by omega
    have h0 := (t_is0 (hz3 r hr64)).mp h.1
    have h1 := t_is1.mp h.2
    have := tb_eq0.mp hq r hr64
    rw [tb_and, h0, Bool.and_true] at this
    have hb : tb (al (2 ^ i) (O o)) r = true := (al_b (al_p i hi6) _ hr64).mpr ⟨2 ^ i, al_p i hi6, Nat.and_self _, h1⟩
    rw [hb] at this
    exact absurd this (by decide)
  · intro hq
    obtain ⟨r, hr, hb⟩ := tb_ex hq
    rw [tb_and, Bool.and_eq_true] at hb
    obtain ⟨s, s1, s2, s3⟩ := (al_b (al_p i hi6) _ hr).mp hb.1
    refine ⟨r, hz1 r hr hb.2, ?_⟩
    rw [Bool.and_eq_true, decide_eq_true_eq, decide_eq_true_eq]
    refine ⟨(t_is0 (hz3 r hr)).mpr hb.2, t_is1.mpr ?_⟩
    rcases s2_sub s2 with e | e
    · rw [e, Nat.xor_zero, hz3 r hr hb.2] at s3
      exact absurd s3 (by decide)
    · rw [← e]; exact s3
theorem ne_cls {n K : Nat} {Z O : Nat → Int64} (hk : OKs n K Z O) {o : Nat} (ho : o < 4) : fX3_neededBy (nI n) Z O (nI o) = some (nI (ndF Z O o n)) := by
  have hn := hk.2.1
  obtain ⟨m, s, e, hI⟩ := loop0 (fun k i s => fX3_neededBy_L4 (nI o) (nI n) Z O k s i) (fun i s => s = nI (ndF Z O o i)) n (s := (0 : Int32)) (by omega) rfl (by
    intro m i s hi hI
    subst hI
    refine ⟨_, ?_, rfl⟩
    show fX3_neededBy_L4 (nI o) (nI n) Z O (m + 1) _ (nI i) = fX3_neededBy_L4 (nI o) (nI n) Z O m (nI (if nb Z O o i = true then ndF Z O o i ||| 2 ^ i else ndF Z O o i)) (nI (i + 1))
    rw [fX3_neededBy_L4, if_neg (nI_ge hi (by omega)), on_cls O ho, Option.bind_some, al_sh i (by omega), al_eq (al_p i (by omega)), Option.bind_some, zo_cls Z ho, Option.bind_some, nI_orr]
    unfold fX3_neededBy_J40 nb
    rw [nI_1]
    by_cases hq : al (2 ^ i) (O o) &&& Z o = 0
    · rw [if_pos ((lg0 _).mpr hq), decide_eq_true hq]
      rfl
    · rw [if_neg (fun z => hq ((lg0 _).mp z)), decide_eq_false hq]
      rfl)
  unfold fX3_neededBy
  refine Eq.trans e ?_
  show fX3_neededBy_L4 (nI o) (nI n) Z O (m + 1) s (nI n) = _
  rw [fX3_neededBy_L4, if_pos (nI_le (Nat.le_refl _) (by omega)), hI]
theorem ne_ref {n K : Nat} {Z O : Nat → Int64} {z : Nat → Int32} (h : TZ n K Z O z) (hk : OKs n K Z O) {o : Nat} (ho : o < 4) : fX7_needsNow z (nI o) = some (nI (ndF Z O o n)) := by
  have hn := hk.2.1
  have h64 := p64 hn
  obtain ⟨m, s, e, hI⟩ := loop0 (fun k i s => fX7_needsNow_L4 (nI o) z k s i) (fun i s => s = nI (ndF Z O o i)) n (s := (0 : Int32)) (by omega) rfl (by
    intro m i s hi hI
    subst hI
    refine ⟨_, ?_, rfl⟩
    show fX7_needsNow_L4 (nI o) z (m + 1) _ (nI i) = fX7_needsNow_L4 (nI o) z m (nI (if nb Z O o i = true then ndF Z O o i ||| 2 ^ i else ndF Z O o i)) (nI (i + 1))
    rw [fX7_needsNow_L4, gdz, show ((0 : Int32)).toNatClampNeg = 0 from rfl, h.1, if_neg (nI_ge hi (by omega)), ← nb_eq hk ho hi]
    generalize ndF Z O o i = y
    have hi2 : 2 ^ i < 2 ^ n := Nat.pow_lt_pow_right (by decide) hi
    obtain ⟨m2, s2, e2, hI2⟩ := loop0 (fun k r s => fX7_needsNow_L17 (nI o) (nI i) z (fX7_needsNow_L4 (nI o) z m) k s r) (fun r s => s = nI (if anyN r (fun r => decide (tOf Z O o r = 0) && decide (tOf Z O o (r ^^^ 2 ^ i) = 1)) = true then y ||| 2 ^ i else y)) (2 ^ n) (s := nI y) (by omega) rfl (by
      intro m r s hr hI
      subst hI
      refine ⟨_, ?_, rfl⟩
      have hx : r ^^^ 2 ^ i < 2 ^ n := Nat.xor_lt_two_pow hr hi2
      show fX7_needsNow_L17 (nI o) (nI i) z _ (m + 1) _ (nI r) = fX7_needsNow_L17 (nI o) (nI i) z _ m (nI (if (anyN r (fun r => decide (tOf Z O o r = 0) && decide (tOf Z O o (r ^^^ 2 ^ i) = 1)) || (decide (tOf Z O o r = 0) && decide (tOf Z O o (r ^^^ 2 ^ i) = 1))) = true then y ||| 2 ^ i else y)) (nI (r + 1))
      rw [fX7_needsNow_L17, r_rows h hn, Option.bind_some, if_neg (nI_ge hr (by omega)), r_truth z ho (by omega), Option.bind_some, al_sh i (by omega), nI_xr, r_truth z ho (by omega), Option.bind_some, h.2.2 o ho r hr, h.2.2 o ho _ hx]
      unfold fX7_needsNow_J62 fX7_needsNow_J63
      rw [nI_1, nI_orr]
      generalize anyN r (fun r => decide (tOf Z O o r = 0) && decide (tOf Z O o (r ^^^ 2 ^ i) = 1)) = a
      have hor : nI (if a = true then y ||| 2 ^ i else y) ||| 0 = nI (if a = true then y ||| 2 ^ i else y) := by
        rw [← nI_0, nI_orr, Nat.or_zero]
      by_cases h0 : tOf Z O o r = 0
      · rw [if_pos h0, decide_eq_true h0, Bool.true_and]
        by_cases h1 : tOf Z O o (r ^^^ 2 ^ i) = 1
        · rw [if_pos h1, decide_eq_true h1, Bool.or_true, if_pos rfl]
          congr 2
          split
          · rw [Nat.or_assoc, Nat.or_self]
          · rfl
        · rw [if_neg h1, decide_eq_false h1, Bool.or_false, hor]
      · rw [if_neg h0, decide_eq_false h0, Bool.false_and, Bool.or_false, hor])
    refine Eq.trans e2 ?_
    show fX7_needsNow_L17 (nI o) (nI i) z _ (m2 + 1) s2 (nI (2 ^ n)) = _
    rw [fX7_needsNow_L17, r_rows h hn, Option.bind_some, if_pos (nI_le (Nat.le_refl _) (by omega)), hI2]
    unfold fX7_needsNow_J71
    rw [nI_1])
  unfold fX7_needsNow
  refine Eq.trans e ?_
  show fX7_needsNow_L4 (nI o) z (m + 1) s (nI n) = _
  rw [fX7_needsNow_L4, gdz, show ((0 : Int32)).toNatClampNeg = 0 from rfl, h.1, if_pos (nI_le (Nat.le_refl _) (by omega)), hI]
/-! outputs that answer alike -/
theorem AN_sub {n K : Nat} {Z O : Nat → Int64} (hk : OKs n K Z O) (o : Nat) : subR n (AN n K Z O o) := by
  intro r hr h
  rw [AN_b] at h
  obtain ⟨i, _, h2⟩ := anyN_iff.mp h
  unfold rwS at h2
  rw [mkN_b _ hr _ (p64 hk.2.1), Bool.and_eq_true] at h2
  exact of_decide_eq_true h2.1
def akV (n K : Nat) (Z O : Nat → Int64) (o p : Nat) : Int32 := nI (2 ^ n) - nI (pc (AN n K Z O o ^^^ AN n K Z O p))
theorem ak_cls {n K : Nat} {Z O : Nat → Int64} (hk : OKs n K Z O) {vi vu vp vs vc : Int32} {vz vo vn va : Nat → Int64} {vq vk vd : Nat → Int32} (hv : VW n K Z O vi vu vp vs vc vz vo vn va vq vk vd) {o p : Nat} (ho : o < 4) (hp : p < 4) : fX5_sameAnswers vi va (nI o) (nI p) = some (akV n K Z O o p) := by
  obtain ⟨hvi, _, _, _, _, _, h⟩ := hv
  unfold fX5_sameAnswers akV
  rw [ao_cls ho, Option.bind_some, ao_cls hp, Option.bind_some, pc_cls, Option.bind_some, hvi, sh_n hk.2.1, (h o ho).2.2.2.1, (h p hp).2.2.2.1]
theorem ak_ref {n K : Nat} {Z O : Nat → Int64} {z : Nat → Int32} (h : TZ n K Z O z) (hk : OKs n K Z O) {cov siz : Nat → Int32} (hcv : CVR n K Z O cov siz) {o p : Nat} (ho : o < 4) (hp : p < 4) : fX7_alikeNow z cov siz (nI o) (nI p) = some (akV n K Z O o p) := by
  have h64 := p64 hk.2.1
  obtain ⟨m, s, e, hI⟩ := loop0 (fun k i s => fX7_alikeNow_L5 (nI o) (nI p) z cov siz k s i) (fun i s => s = nI (sumN i (fun r => (!(tb (AN n K Z O o) r ^^ tb (AN n K Z O p) r)).toNat))) (2 ^ n) (s := (0 : Int32)) (by omega) rfl (by
    intro m i s hi hI
    subst hI
    refine ⟨_, ?_, rfl⟩
    show fX7_alikeNow_L5 (nI o) (nI p) z cov siz (m + 1) _ (nI i) = fX7_alikeNow_L5 (nI o) (nI p) z cov siz m (nI (sumN i (fun r => (!(tb (AN n K Z O o) r ^^ tb (AN n K Z O p) r)).toNat) + (!(tb (AN n K Z O o) i ^^ tb (AN n K Z O p) i)).toNat)) (nI (i + 1))
    rw [fX7_alikeNow_L5, r_rows h hk.2.1, Option.bind_some, if_neg (nI_ge hi (by omega)), an_ref hk ho hi (hcv o ho), Option.bind_some, an_ref hk hp hi (hcv p hp), Option.bind_some]
    unfold fX7_alikeNow_J37
    rw [nI_1]
    generalize sumN i (fun r => (!(tb (AN n K Z O o) r ^^ tb (AN n K Z O p) r)).toNat) = y
    cases tb (AN n K Z O o) i <;> cases tb (AN n K Z O p) i
    · rw [if_pos rfl, nI_1]; rfl
    · rw [if_neg (by decide), Int32.add_zero, nI_1]; rfl
    · rw [if_neg (by decide), Int32.add_zero, nI_1]; rfl
    · rw [if_pos rfl, nI_1]; rfl)
  unfold fX7_alikeNow
  refine Eq.trans e ?_
  show fX7_alikeNow_L5 (nI o) (nI p) z cov siz (m + 1) s (nI (2 ^ n)) = _
  rw [fX7_alikeNow_L5, r_rows h hk.2.1, Option.bind_some, if_pos (nI_le (Nat.le_refl _) (by omega)), hI]
  have e1 : pc (AN n K Z O o ^^^ AN n K Z O p) = sumN (2 ^ n) (fun i => (tb (AN n K Z O o) i ^^ tb (AN n K Z O p) i).toNat) := pc_rows hk.2.1 _ (fun i hi => by
    rw [tb_xor]
    have h1 := AN_sub hk o i hi
    have h2 := AN_sub hk p i hi
    revert h1 h2
    cases tb (AN n K Z O o) i <;> cases tb (AN n K Z O p) i <;> intro h1 h2
    · cases decide (i < 2 ^ n) <;> rfl
    · rw [decide_eq_true (h2 rfl)]; rfl
    · rw [decide_eq_true (h1 rfl)]; rfl
    · cases decide (i < 2 ^ n) <;> rfl)
  have e2 : sumN (2 ^ n) (fun r => (!(tb (AN n K Z O o) r ^^ tb (AN n K Z O p) r)).toNat) + pc (AN n K Z O o ^^^ AN n K Z O p) = 2 ^ n := by
    rw [e1, ← sumN_add]
    refine Eq.trans (sumN_congr (g := fun _ => 1) (fun i _ => ?_)) (sumN_one _)
    cases tb (AN n K Z O o) i <;> cases tb (AN n K Z O p) i <;> decide
  unfold akV
  rw [pk_sub (by omega)]
  congr 2
  omega
