/-! mathematics of the class -/
theorem su_4 (A : Nat → Int32) : fX3_sum A = some (0 + A 0 + A 1 + A 2 + A 3) := rfl
def mzV (n K : Nat) (Z O : Nat → Int64) (asks hours : Int32) (A F : Nat → Int32) (hs : Int32) (w : Nat) : Int32 := match w with
  | 0 => nI n
  | 1 => nI K
  | 2 => nI (up (fg n K) Z O)
  | 3 => nI (PTS n K Z O 0)
  | 4 => nI (PTS n K Z O 1)
  | 5 => nI (PTS n K Z O 2)
  | 6 => asks
  | 7 => 0 + A 0 + A 1 + A 2 + A 3
  | 8 => 0 + F 0 + F 1 + F 2 + F 3
  | 9 => hours
  | _ => hs
theorem mz_cls {n K : Nat} {Z O : Nat → Int64} {vi vu vp vs vc : Int32} {vz vo vn va : Nat → Int64} {vq vk vd : Nat → Int32} (hv : VW n K Z O vi vu vp vs vc vz vo vn va vq vk vd) (asks hours : Int32) (A F : Nat → Int32) (hs : Int32) {w : Nat} (hw : w < 11) : fX6_mazeNumber (nI n) (nI K) asks hours A F hs vu vp vs vc (nI w) = some (mzV n K Z O asks hours A F hs w) := by
  obtain ⟨_, h2, h3, h4, h5, _⟩ := hv
  unfold fX6_mazeNumber
  rcases w11 hw with rfl | rfl | rfl | rfl | rfl | rfl | rfl | rfl | rfl | rfl | rfl
  · rw [if_pos nI_0]
    rfl
  · rw [if_neg (by decide), if_pos (by decide)]
    rfl
  · rw [if_neg (by decide), if_neg (by decide), if_pos (by decide), h2]
    rfl
  · rw [if_neg (by decide), if_neg (by decide), if_neg (by decide), if_pos (by decide), h3]
    rfl
  · rw [if_neg (by decide), if_neg (by decide), if_neg (by decide), if_neg (by decide), if_pos (by decide), h4]
    rfl
  · rw [if_neg (by decide), if_neg (by decide), if_neg (by decide), if_neg (by decide), if_neg (by decide), if_pos (by decide), h5]
    rfl
  · rw [if_neg (by decide), if_neg (by decide), if_neg (by decide), if_neg (by decide), if_neg (by decide), if_neg (by decide), if_pos (by decide)]
    rfl
  · rw [if_neg (by decide), if_neg (by decide), if_neg (by decide), if_neg (by decide), if_neg (by decide), if_neg (by decide), if_neg (by decide), if_pos (by decide), su_4]
    rfl
  · rw [if_neg (by decide), if_neg (by decide), if_neg (by decide), if_neg (by decide), if_neg (by decide), if_neg (by decide), if_neg (by decide), if_neg (by decide), if_pos (by decide), su_4]
    rfl
  · rw [if_neg (by decide), if_neg (by decide), if_neg (by decide), if_neg (by decide), if_neg (by decide), if_neg (by decide), if_neg (by decide), if_neg (by decide), if_neg (by decide), if_pos (by decide)]
    rfl
  · rw [if_neg (by decide), if_neg (by decide), if_neg (by decide), if_neg (by decide), if_neg (by decide), if_neg (by decide), if_neg (by decide), if_neg (by decide), if_neg (by decide), if_neg (by decide)]
    rfl
def pdW (n K : Nat) (Z O : Nat → Int64) (c w : Nat) : Int32 := match w with
  | 0 => nI (c / 64)
  | 1 => nI (c % 64)
  | 2 => nI (pc (rwS n c))
  | _ => nI (mnH n K Z O c)
def pdV (n K : Nat) (Z O : Nat → Int64) (o i w : Nat) : Int32 := if i < SZ n K Z O o then pdW n K Z O (CC n K Z O o i) w else -1
theorem pr_in {K : Nat} {w : Int64} {c : Nat} (h : prB K w c = true) : (c / 64) &&& K = c / 64 ∧ (c % 64) &&& (c / 64) = c % 64 := by
  unfold prB at h
  rw [Bool.and_eq_true, Bool.and_eq_true, Bool.and_eq_true] at h
  exact ⟨of_decide_eq_true h.1.1.1, of_decide_eq_true h.1.1.2⟩
theorem w4 {w : Nat} (h : w < 4) : w = 0 ∨ w = 1 ∨ w = 2 ∨ w = 3 := by omega
theorem pd_cls {n K : Nat} {Z O : Nat → Int64} (hk : OKs n K Z O) {vi vu vp vs vc : Int32} {vz vo vn va : Nat → Int64} {vq vk vd : Nat → Int32} (hv : VW n K Z O vi vu vp vs vc vz vo vn va vq vk vd) {o i w : Nat} (ho : o < 4) (hi : i < 64) (hw : w < 4) : fX5_productNumber vi vk vd (nI o) (nI i) (nI w) = some (pdV n K Z O o i w) := by
  obtain ⟨hvi, _, _, _, _, hcv, _⟩ := hv
  have hc := hcv o ho
  have h64 := SZ_le n K Z O o
  unfold fX5_productNumber pdV
  by_cases hs : i < SZ n K Z O o
  · obtain ⟨c1, c2⟩ := CC_ok hk ho hs
    obtain ⟨c3, c4⟩ := pr_in c2
    have c5 : CC n K Z O o i / 64 < 2 ^ n := by rw [← c3]; exact Nat.lt_of_le_of_lt Nat.and_le_right hk.2.2.1
    have hd := h4_d (has n K Z O (CC n K Z O o i) 0) (has n K Z O (CC n K Z O o i) 1) (has n K Z O (CC n K Z O o i) 2) (has n K Z O (CC n K Z O o i) 3)
    rw [← mn_4] at hd
    have hd : HO n K Z O (CC n K Z O o i) < 64 ∧ ocN (HO n K Z O (CC n K Z O o i)) = mnH n K Z O (CC n K Z O o i) := hd
    rw [ca_cls ho hs hc, Option.bind_some, if_pos hs, if_neg (fun z => nI_pos (show CC n K Z O o i < 2 ^ 31 by omega) (by rw [z]; decide)), r64 (by omega), d64 (by omega), hvi, ipr_cls hk.2.1 c5 c4, show 64 * (CC n K Z O o i / 64) + CC n K Z O o i % 64 = CC n K Z O o i by omega, Option.bind_some, pc_cls, Option.bind_some, ho_cls hk hcv c1, Option.bind_some, oc_eq _ hd.1, Option.bind_some, hd.2]
    rcases w4 hw with rfl | rfl | rfl | rfl
    · rw [if_pos nI_0]
      rfl
    · rw [if_neg (by decide), if_pos (by decide)]
      rfl
    · rw [if_neg (by decide), if_neg (by decide), if_pos (by decide)]
      rfl
    · rw [if_neg (by decide), if_neg (by decide), if_neg (by decide)]
      rfl
  · have e : fX5_codeAt vk vd (nI o) (nI i) = some (-1) := by
      unfold fX5_codeAt
      rw [io_1 o ho, Option.bind_some, if_neg (by decide), if_neg (nI_pos (by omega)), if_neg (n64 hi), gd_in ho (by decide), nI_clamp (show o < 2 ^ 31 by omega), hc.1, if_neg (nI_nlt (by omega) (by omega))]
    rw [e, Option.bind_some, if_pos rfl, if_neg hs]
def nb (Z O : Nat → Int64) (o i : Nat) : Bool := !decide (al (2 ^ i) (O o) &&& Z o = 0)
def ndF (Z O : Nat → Int64) (o : Nat) : Nat → Nat
  | 0 => 0
  | i + 1 => if nb Z O o i = true then ndF Z O o i ||| 2 ^ i else ndF Z O o i
theorem s2_sub {s i : Nat} (h : s &&& 2 ^ i = s) : s = 0 ∨ s = 2 ^ i := by
  cases q : s.testBit i
  · left
    rw [← h]
    apply Nat.eq_of_testBit_eq
    intro j
    rw [Nat.testBit_and, Nat.testBit_two_pow, Nat.zero_testBit]
    by_cases e : i = j
    · subst e; rw [q]; rfl
    · rw [decide_eq_false e, Bool.and_false]
  · right
    rw [← h]
    apply Nat.eq_of_testBit_eq
    intro j
    rw [Nat.testBit_and, Nat.testBit_two_pow]
    by_cases e : i = j
    · subst e; rw [q]; rfl
    · rw [decide_eq_false e, Bool.and_false]
theorem nb_eq {n K : Nat} {Z O : Nat → Int64} (hk : OKs n K Z O) {o i : Nat} (ho : o < 4) (hi : i < n) : anyN (2 ^ n) (fun r => decide (tOf Z O o r = 0) && decide (tOf Z O o (r ^^^ 2 ^ i) = 1)) = nb Z O o i := by
  have h64 := p64 hk.2.1
  have hi6 : i < 6 := by have := hk.2.1; omega
  obtain ⟨hz1, hz2, hz3⟩ := hk.2.2.2 o ho
  rw [Bool.eq_iff_iff, anyN_iff]
  unfold nb
  rw [Bool.not_eq_true', decide_eq_false_iff_not]
  constructor
  · rintro ⟨r, hr, h⟩ hq
    rw [Bool.and_eq_true, decide_eq_true_eq, decide_eq_true_eq] at h
    have hr64 : r < 64 := by omega
    have h0 := (t_is0 (hz3 r hr64)).mp h.1
    have h1 := t_is1.mp h.2
    have := tb_eq0.mp hq r hr64
    rw [tb_and, h0, Bool.and_true] at this
    have hb : tb (al (2 ^ i) (O o)) r = true := (al_b (al_p i hi6) _ hr64).mpr ⟨2 ^ i, al_p i hi6, Nat.and_self _, h1⟩
    rw [hb] at this
    exact absurd this (by decide)
  · intro hq
    obtain ⟨r, hr, hb⟩ := tb_ex hq
    rw [tb_and, Bool.and_eq_true] at hb
    obtain ⟨s, s1, s2, s3⟩ := (al_b (al_p i hi6) _ hr).mp hb.1
    refine ⟨r, hz1 r hr hb.2, ?_⟩
    rw [Bool.and_eq_true, decide_eq_true_eq, decide_eq_true_eq]
    refine ⟨(t_is0 (hz3 r hr)).mpr hb.2, t_is1.mpr ?_⟩
    rcases s2_sub s2 with e | e
    · rw [e, Nat.xor_zero, hz3 r hr hb.2] at s3
      exact absurd s3 (by decide)
    · rw [← e]; exact s3
theorem AN_sub {n K : Nat} {Z O : Nat → Int64} (hk : OKs n K Z O) (o : Nat) : subR n (AN n K Z O o) := by
  intro r hr h
  rw [AN_b] at h
  obtain ⟨i, _, h2⟩ := anyN_iff.mp h
  unfold rwS at h2
  rw [mkN_b _ hr _ (p64 hk.2.1), Bool.and_eq_true] at h2
  exact of_decide_eq_true h2.1
def akV (n K : Nat) (Z O : Nat → Int64) (o p : Nat) : Int32 := nI (2 ^ n) - nI (pc (AN n K Z O o ^^^ AN n K Z O p))
