/-! the law's loop -/
def LV (po si sr sa sh : Int32) (sz so : Nat → Int64) (sA sF : Nat → Int32) (hs : Int32) (xc : Nat → Int32) (xl : Int32) (vi vu vp vs vc : Int32) (vz vo vn va : Nat → Int64) (vq vk vd : Nat → Int32) (z : Nat → Int32) (nst : Int32) (his : Nat → Int32) (len : Int32) (txt : Nat → Int32) (hv : Nat → SV) : Prop := ∃ n K k L : Nat, si = nI n ∧ sr = nI K ∧ hs = nI k ∧ nst = nI k ∧ xl = nI L ∧ len = nI L ∧ ST n K sz so sa sh sA sF z ∧ HV k hv his ∧ L ≤ 60 ∧ (∀ i, i < L → xc i = txt i) ∧ (po = 0 → VW n K sz so vi vu vp vs vc vz vo vn va vq vk vd)
def HK (xs : Nat → Int32) (L f i : Nat) : Prop := ∀ (po si sr sa sh : Int32) (sz so : Nat → Int64) (sA sF : Nat → Int32) (hs : Int32) (xc : Nat → Int32) (xl : Int32) (bad : Nat → Int64) (co : Nat → Int32) (ro : Nat → Int64) (ps : Int32) (vi vu vp vs vc : Int32) (vz vo vn va : Nat → Int64) (vq vk vd : Nat → Int32) (wi wu wp ws wc : Int32) (wz wo wn wa : Nat → Int64) (wq wk wd : Nat → Int32) (out : Nat → Int64) (z : Nat → Int32) (nst : Int32) (his : Nat → Int32) (len : Int32) (txt : Nat → Int32) (thr : Int32) (god : Nat → Int64) (prm : Nat → Int32) (npr : Int32) (cov siz pts : Nat → Int32) (rea pla : Int32) (bef : Nat → Int32) (has : Int64) (hv : Nat → SV), LV po si sr sa sh sz so sA sF hs xc xl vi vu vp vs vc vz vo vn va vq vk vd z nst his len txt hv → fL_law_L23 xs L f (nI (4 * (i + 1))) po si sr sa sh sz so sA sF hs xc xl bad co ro ps vi vu vp vs vc vz vo vn va vq vk vd wi wu wp ws wc wz wo wn wa wq wk wd out z nst his len txt thr god prm npr cov siz pts rea pla bef has hv = some ()
theorem lgE (a : Int64) : lg_cmp a a = 0 := by
  unfold lg_cmp
  rw [if_neg (by intro h; exact absurd h Int64.lt_irrefl), if_pos rfl]
theorem gd01 {α : Type} (k : Option α) : gd (0 : Int32) 1 k = k := if_neg (by decide)
theorem law_tail {t b : Int32} {o : Nat → Int64} {k : Option Unit} (h : t = 0 → o 0 = b.toInt64) : ((fX7_thrown t).bind (fun q => if q = t then (if t = 0 then gd (0 : Int32) 1 (if (lg_cmp (o (0 : Int32).toNatClampNeg) b.toInt64) = 0 then k else none) else k) else none)) = k := by
  unfold fX7_thrown
  rw [Option.bind_some, if_pos rfl]
  by_cases h0 : t = 0
  · rw [if_pos h0, gd01, c0_, h h0, if_pos (lgE _)]
  · rw [if_neg h0]
theorem law_go {L i : Nat} (hi : 4 * i + 4 ≤ L) (hL : L ≤ 2048) : ¬ (Int32.ofNat L - 4) < nI (4 * i) := by
  have e : Int32.ofNat L - 4 = nI (L - 4) := pk_sub (a := L) (b := 4) (by omega)
  rw [e]
  exact nI_nlt (by omega) (by omega)
theorem gx0 {L i : Nat} (hi : 4 * i + 4 ≤ L) (hL : L ≤ 2048) {α : Type} (k : Option α) : gd (nI (4 * i)) L k = k := gd_in (by omega) (by omega) k
theorem gx1 {L i : Nat} (hi : 4 * i + 4 ≤ L) (hL : L ≤ 2048) {α : Type} (k : Option α) : gd (nI (4 * i) + 1) L k = k := by rw [nI_1]; exact gd_in (by omega) (by omega) k
theorem gx2 {L i : Nat} (hi : 4 * i + 4 ≤ L) (hL : L ≤ 2048) {α : Type} (k : Option α) : gd (nI (4 * i) + 2) L k = k := by rw [show nI (4 * i) + 2 = nI (4 * i + 2) from nI_add _ 2]; exact gd_in (by omega) (by omega) k
theorem gx3 {L i : Nat} (hi : 4 * i + 4 ≤ L) (hL : L ≤ 2048) {α : Type} (k : Option α) : gd (nI (4 * i) + 3) L k = k := by rw [show nI (4 * i) + 3 = nI (4 * i + 3) from nI_add _ 3]; exact gd_in (by omega) (by omega) k
theorem law_end {L i : Nat} (h : L < 4 * i + 4) (hL : L ≤ 2048) (hi : i ≤ 600) : (Int32.ofNat L - 4) < nI (4 * i) := by
  have e : (Int32.ofNat L - 4).toInt = (L : Int) - 4 := pk_sub_toInt (a := L) (b := 4) (by omega) (by decide)
  rw [Int32.lt_iff_toInt_lt, e, nI_toInt (n := 4 * i) (by omega)]
  omega
theorem nx4 (i : Nat) : nI (4 * i) + 4 = nI (4 * (i + 1)) := by
  rw [show nI (4 * i) + 4 = nI (4 * i + 4) from nI_add _ 4, show 4 * (i + 1) = 4 * i + 4 by omega]
theorem nc {x a b : Int32} (h : x = a) (hn : ¬ a = b) : ¬ x = b := by rw [h]; exact hn
theorem pc_ {x a b : Int32} (h : x = a) (hn : a = b) : x = b := h.trans hn
theorem law_c0 {xs : Nat → Int32} {L f i : Nat} (hi : 4 * i + 4 ≤ L) (hL : L ≤ 2048) (hk : HK xs L f i) (hc : xs (nI (4 * i)).toNatClampNeg &&& 31 = nI 0) (po si sr sa sh : Int32) (sz so : Nat → Int64) (sA sF : Nat → Int32) (hs : Int32) (xc : Nat → Int32) (xl : Int32) (bad : Nat → Int64) (co : Nat → Int32) (ro : Nat → Int64) (ps : Int32) (vi vu vp vs vc : Int32) (vz vo vn va : Nat → Int64) (vq vk vd : Nat → Int32) (wi wu wp ws wc : Int32) (wz wo wn wa : Nat → Int64) (wq wk wd : Nat → Int32) (out : Nat → Int64) (z : Nat → Int32) (nst : Int32) (his : Nat → Int32) (len : Int32) (txt : Nat → Int32) (thr : Int32) (god : Nat → Int64) (prm : Nat → Int32) (npr : Int32) (cov siz pts : Nat → Int32) (rea pla : Int32) (bef : Nat → Int32) (has : Int64) (hv : Nat → SV) (h : LV po si sr sa sh sz so sA sF hs xc xl vi vu vp vs vc vz vo vn va vq vk vd z nst his len txt hv) : fL_law_L23 xs L (f + 1) (nI (4 * i)) po si sr sa sh sz so sA sF hs xc xl bad co ro ps vi vu vp vs vc vz vo vn va vq vk vd wi wu wp ws wc wz wo wn wa wq wk wd out z nst his len txt thr god prm npr cov siz pts rea pla bef has hv = some () := by
  obtain ⟨n, K, k, Ln, rfl, rfl, rfl, rfl, rfl, rfl, h, hh, hLn, ht, hw⟩ := h
  rw [fL_law_L23, if_neg (law_go hi hL), gx0 hi hL]
  refine (if_pos (pc_ hc (show nI 0 = 0 by decide))).trans ?_
  obtain ⟨t, b, po', n', K', Z', O', k', hv', out', z', his', e1, e2, e3, h1, h2, hw2⟩ := lc_begin h hh po vi vu vp vs vc vz vo vn va vq vk vd hw out (xs (nI (4 * i) + 1).toNatClampNeg)
  rw [gx1 hi hL, e1, Option.bind_some, gx1 hi hL, e2, Option.bind_some]
  refine (law_tail (o := out') e3).trans ?_
  unfold fL_law_J201 fL_law_J1414
  rw [nx4]
  exact hk _ _ _ _ _ _ _ _ _ _ _ _ _ _ _ _ _ _ _ _ _ _ _ _ _ _ _ _ _ _ _ _ _ _ _ _ _ _ _ _ _ _ _ _ _ _ _ _ _ _ _ _ _ _ _ _ _ _ ⟨n', K', k', Ln, rfl, rfl, rfl, rfl, rfl, rfl, h1, h2, hLn, ht, hw2⟩
theorem law_c1 {xs : Nat → Int32} {L f i : Nat} (hi : 4 * i + 4 ≤ L) (hL : L ≤ 2048) (hk : HK xs L f i) (hc : xs (nI (4 * i)).toNatClampNeg &&& 31 = nI 1) (po si sr sa sh : Int32) (sz so : Nat → Int64) (sA sF : Nat → Int32) (hs : Int32) (xc : Nat → Int32) (xl : Int32) (bad : Nat → Int64) (co : Nat → Int32) (ro : Nat → Int64) (ps : Int32) (vi vu vp vs vc : Int32) (vz vo vn va : Nat → Int64) (vq vk vd : Nat → Int32) (wi wu wp ws wc : Int32) (wz wo wn wa : Nat → Int64) (wq wk wd : Nat → Int32) (out : Nat → Int64) (z : Nat → Int32) (nst : Int32) (his : Nat → Int32) (len : Int32) (txt : Nat → Int32) (thr : Int32) (god : Nat → Int64) (prm : Nat → Int32) (npr : Int32) (cov siz pts : Nat → Int32) (rea pla : Int32) (bef : Nat → Int32) (has : Int64) (hv : Nat → SV) (h : LV po si sr sa sh sz so sA sF hs xc xl vi vu vp vs vc vz vo vn va vq vk vd z nst his len txt hv) : fL_law_L23 xs L (f + 1) (nI (4 * i)) po si sr sa sh sz so sA sF hs xc xl bad co ro ps vi vu vp vs vc vz vo vn va vq vk vd wi wu wp ws wc wz wo wn wa wq wk wd out z nst his len txt thr god prm npr cov siz pts rea pla bef has hv = some () := by
  obtain ⟨n, K, k, Ln, rfl, rfl, rfl, rfl, rfl, rfl, h, hh, hLn, ht, hw⟩ := h
  rw [fL_law_L23, if_neg (law_go hi hL), gx0 hi hL]
  refine (if_neg (nc hc (show ¬ nI 1 = 0 by decide))).trans ?_
  refine (if_pos (pc_ hc (show nI 1 = 1 by decide))).trans ?_
  obtain ⟨t, b, po', Z', O', k', hv', out', z', his', e1, e2, e3, h1, h2, hw2⟩ := lc_set h hh po vi vu vp vs vc vz vo vn va vq vk vd hw out (xs (nI (4 * i) + 1).toNatClampNeg) (xs (nI (4 * i) + 2).toNatClampNeg) (xs (nI (4 * i) + 3).toNatClampNeg)
  rw [gx1 hi hL, gx2 hi hL, gx3 hi hL, e1, Option.bind_some, gx1 hi hL, gx2 hi hL, gx3 hi hL, e2, Option.bind_some]
  refine (law_tail (o := out') e3).trans ?_
  unfold fL_law_J281 fL_law_J1414
  rw [nx4]
  exact hk _ _ _ _ _ _ _ _ _ _ _ _ _ _ _ _ _ _ _ _ _ _ _ _ _ _ _ _ _ _ _ _ _ _ _ _ _ _ _ _ _ _ _ _ _ _ _ _ _ _ _ _ _ _ _ _ _ _ ⟨n, K, k', Ln, rfl, rfl, rfl, rfl, rfl, rfl, h1, h2, hLn, ht, hw2⟩
theorem law_c2 {xs : Nat → Int32} {L f i : Nat} (hi : 4 * i + 4 ≤ L) (hL : L ≤ 2048) (hk : HK xs L f i) (hc : xs (nI (4 * i)).toNatClampNeg &&& 31 = nI 2) (po si sr sa sh : Int32) (sz so : Nat → Int64) (sA sF : Nat → Int32) (hs : Int32) (xc : Nat → Int32) (xl : Int32) (bad : Nat → Int64) (co : Nat → Int32) (ro : Nat → Int64) (ps : Int32) (vi vu vp vs vc : Int32) (vz vo vn va : Nat → Int64) (vq vk vd : Nat → Int32) (wi wu wp ws wc : Int32) (wz wo wn wa : Nat → Int64) (wq wk wd : Nat → Int32) (out : Nat → Int64) (z : Nat → Int32) (nst : Int32) (his : Nat → Int32) (len : Int32) (txt : Nat → Int32) (thr : Int32) (god : Nat → Int64) (prm : Nat → Int32) (npr : Int32) (cov siz pts : Nat → Int32) (rea pla : Int32) (bef : Nat → Int32) (has : Int64) (hv : Nat → SV) (h : LV po si sr sa sh sz so sA sF hs xc xl vi vu vp vs vc vz vo vn va vq vk vd z nst his len txt hv) : fL_law_L23 xs L (f + 1) (nI (4 * i)) po si sr sa sh sz so sA sF hs xc xl bad co ro ps vi vu vp vs vc vz vo vn va vq vk vd wi wu wp ws wc wz wo wn wa wq wk wd out z nst his len txt thr god prm npr cov siz pts rea pla bef has hv = some () := by
  obtain ⟨n, K, k, Ln, rfl, rfl, rfl, rfl, rfl, rfl, h, hh, hLn, ht, hw⟩ := h
  rw [fL_law_L23, if_neg (law_go hi hL), gx0 hi hL]
  refine (if_neg (nc hc (show ¬ nI 2 = 0 by decide))).trans ?_
  refine (if_neg (nc hc (show ¬ nI 2 = 1 by decide))).trans ?_
  refine (if_pos (pc_ hc (show nI 2 = 2 by decide))).trans ?_
  obtain ⟨t, b, po', Z', O', k', hv', out', z', his', e1, e2, e3, h1, h2, hw2⟩ := lc_invert h hh po vi vu vp vs vc vz vo vn va vq vk vd hw out (xs (nI (4 * i) + 1).toNatClampNeg)
  rw [gx1 hi hL, e1, Option.bind_some, gx1 hi hL, e2, Option.bind_some]
  refine (law_tail (o := out') e3).trans ?_
  unfold fL_law_J337 fL_law_J1414
  rw [nx4]
  exact hk _ _ _ _ _ _ _ _ _ _ _ _ _ _ _ _ _ _ _ _ _ _ _ _ _ _ _ _ _ _ _ _ _ _ _ _ _ _ _ _ _ _ _ _ _ _ _ _ _ _ _ _ _ _ _ _ _ _ ⟨n, K, k', Ln, rfl, rfl, rfl, rfl, rfl, rfl, h1, h2, hLn, ht, hw2⟩
theorem law_c3 {xs : Nat → Int32} {L f i : Nat} (hi : 4 * i + 4 ≤ L) (hL : L ≤ 2048) (hk : HK xs L f i) (hc : xs (nI (4 * i)).toNatClampNeg &&& 31 = nI 3) (po si sr sa sh : Int32) (sz so : Nat → Int64) (sA sF : Nat → Int32) (hs : Int32) (xc : Nat → Int32) (xl : Int32) (bad : Nat → Int64) (co : Nat → Int32) (ro : Nat → Int64) (ps : Int32) (vi vu vp vs vc : Int32) (vz vo vn va : Nat → Int64) (vq vk vd : Nat → Int32) (wi wu wp ws wc : Int32) (wz wo wn wa : Nat → Int64) (wq wk wd : Nat → Int32) (out : Nat → Int64) (z : Nat → Int32) (nst : Int32) (his : Nat → Int32) (len : Int32) (txt : Nat → Int32) (thr : Int32) (god : Nat → Int64) (prm : Nat → Int32) (npr : Int32) (cov siz pts : Nat → Int32) (rea pla : Int32) (bef : Nat → Int32) (has : Int64) (hv : Nat → SV) (h : LV po si sr sa sh sz so sA sF hs xc xl vi vu vp vs vc vz vo vn va vq vk vd z nst his len txt hv) : fL_law_L23 xs L (f + 1) (nI (4 * i)) po si sr sa sh sz so sA sF hs xc xl bad co ro ps vi vu vp vs vc vz vo vn va vq vk vd wi wu wp ws wc wz wo wn wa wq wk wd out z nst his len txt thr god prm npr cov siz pts rea pla bef has hv = some () := by
  obtain ⟨n, K, k, Ln, rfl, rfl, rfl, rfl, rfl, rfl, h, hh, hLn, ht, hw⟩ := h
  rw [fL_law_L23, if_neg (law_go hi hL), gx0 hi hL]
  refine (if_neg (nc hc (show ¬ nI 3 = 0 by decide))).trans ?_
  refine (if_neg (nc hc (show ¬ nI 3 = 1 by decide))).trans ?_
  refine (if_neg (nc hc (show ¬ nI 3 = 2 by decide))).trans ?_
  refine (if_pos (pc_ hc (show nI 3 = 3 by decide))).trans ?_
  obtain ⟨t, b, po', Z', O', k', hv', out', z', his', e1, e2, e3, h1, h2, hw2⟩ := lc_join h hh po vi vu vp vs vc vz vo vn va vq vk vd hw out (xs (nI (4 * i) + 1).toNatClampNeg) (xs (nI (4 * i) + 2).toNatClampNeg)
  rw [gx1 hi hL, gx2 hi hL, e1, Option.bind_some, gx1 hi hL, gx2 hi hL, e2, Option.bind_some]
  refine (law_tail (o := out') e3).trans ?_
  unfold fL_law_J405 fL_law_J1414
  rw [nx4]
  exact hk _ _ _ _ _ _ _ _ _ _ _ _ _ _ _ _ _ _ _ _ _ _ _ _ _ _ _ _ _ _ _ _ _ _ _ _ _ _ _ _ _ _ _ _ _ _ _ _ _ _ _ _ _ _ _ _ _ _ ⟨n, K, k', Ln, rfl, rfl, rfl, rfl, rfl, rfl, h1, h2, hLn, ht, hw2⟩
theorem law_c4 {xs : Nat → Int32} {L f i : Nat} (hi : 4 * i + 4 ≤ L) (hL : L ≤ 2048) (hk : HK xs L f i) (hc : xs (nI (4 * i)).toNatClampNeg &&& 31 = nI 4) (po si sr sa sh : Int32) (sz so : Nat → Int64) (sA sF : Nat → Int32) (hs : Int32) (xc : Nat → Int32) (xl : Int32) (bad : Nat → Int64) (co : Nat → Int32) (ro : Nat → Int64) (ps : Int32) (vi vu vp vs vc : Int32) (vz vo vn va : Nat → Int64) (vq vk vd : Nat → Int32) (wi wu wp ws wc : Int32) (wz wo wn wa : Nat → Int64) (wq wk wd : Nat → Int32) (out : Nat → Int64) (z : Nat → Int32) (nst : Int32) (his : Nat → Int32) (len : Int32) (txt : Nat → Int32) (thr : Int32) (god : Nat → Int64) (prm : Nat → Int32) (npr : Int32) (cov siz pts : Nat → Int32) (rea pla : Int32) (bef : Nat → Int32) (has : Int64) (hv : Nat → SV) (h : LV po si sr sa sh sz so sA sF hs xc xl vi vu vp vs vc vz vo vn va vq vk vd z nst his len txt hv) : fL_law_L23 xs L (f + 1) (nI (4 * i)) po si sr sa sh sz so sA sF hs xc xl bad co ro ps vi vu vp vs vc vz vo vn va vq vk vd wi wu wp ws wc wz wo wn wa wq wk wd out z nst his len txt thr god prm npr cov siz pts rea pla bef has hv = some () := by
  obtain ⟨n, K, k, Ln, rfl, rfl, rfl, rfl, rfl, rfl, h, hh, hLn, ht, hw⟩ := h
  rw [fL_law_L23, if_neg (law_go hi hL), gx0 hi hL]
  refine (if_neg (nc hc (show ¬ nI 4 = 0 by decide))).trans ?_
  refine (if_neg (nc hc (show ¬ nI 4 = 1 by decide))).trans ?_
  refine (if_neg (nc hc (show ¬ nI 4 = 2 by decide))).trans ?_
  refine (if_neg (nc hc (show ¬ nI 4 = 3 by decide))).trans ?_
  refine (if_pos (pc_ hc (show nI 4 = 4 by decide))).trans ?_
  obtain ⟨t, b, po', K', k', hv', out', z', his', e1, e2, e3, h1, h2, hw2⟩ := lc_forget h hh po vi vu vp vs vc vz vo vn va vq vk vd hw out (xs (nI (4 * i) + 1).toNatClampNeg)
  rw [gx1 hi hL, e1, Option.bind_some, gx1 hi hL, e2, Option.bind_some]
  refine (law_tail (o := out') e3).trans ?_
  unfold fL_law_J461 fL_law_J1414
  rw [nx4]
  exact hk _ _ _ _ _ _ _ _ _ _ _ _ _ _ _ _ _ _ _ _ _ _ _ _ _ _ _ _ _ _ _ _ _ _ _ _ _ _ _ _ _ _ _ _ _ _ _ _ _ _ _ _ _ _ _ _ _ _ ⟨n, K', k', Ln, rfl, rfl, rfl, rfl, rfl, rfl, h1, h2, hLn, ht, hw2⟩
theorem law_c5 {xs : Nat → Int32} {L f i : Nat} (hi : 4 * i + 4 ≤ L) (hL : L ≤ 2048) (hk : HK xs L f i) (hc : xs (nI (4 * i)).toNatClampNeg &&& 31 = nI 5) (po si sr sa sh : Int32) (sz so : Nat → Int64) (sA sF : Nat → Int32) (hs : Int32) (xc : Nat → Int32) (xl : Int32) (bad : Nat → Int64) (co : Nat → Int32) (ro : Nat → Int64) (ps : Int32) (vi vu vp vs vc : Int32) (vz vo vn va : Nat → Int64) (vq vk vd : Nat → Int32) (wi wu wp ws wc : Int32) (wz wo wn wa : Nat → Int64) (wq wk wd : Nat → Int32) (out : Nat → Int64) (z : Nat → Int32) (nst : Int32) (his : Nat → Int32) (len : Int32) (txt : Nat → Int32) (thr : Int32) (god : Nat → Int64) (prm : Nat → Int32) (npr : Int32) (cov siz pts : Nat → Int32) (rea pla : Int32) (bef : Nat → Int32) (has : Int64) (hv : Nat → SV) (h : LV po si sr sa sh sz so sA sF hs xc xl vi vu vp vs vc vz vo vn va vq vk vd z nst his len txt hv) : fL_law_L23 xs L (f + 1) (nI (4 * i)) po si sr sa sh sz so sA sF hs xc xl bad co ro ps vi vu vp vs vc vz vo vn va vq vk vd wi wu wp ws wc wz wo wn wa wq wk wd out z nst his len txt thr god prm npr cov siz pts rea pla bef has hv = some () := by
  obtain ⟨n, K, k, Ln, rfl, rfl, rfl, rfl, rfl, rfl, h, hh, hLn, ht, hw⟩ := h
  rw [fL_law_L23, if_neg (law_go hi hL), gx0 hi hL]
  refine (if_neg (nc hc (show ¬ nI 5 = 0 by decide))).trans ?_
  refine (if_neg (nc hc (show ¬ nI 5 = 1 by decide))).trans ?_
  refine (if_neg (nc hc (show ¬ nI 5 = 2 by decide))).trans ?_
  refine (if_neg (nc hc (show ¬ nI 5 = 3 by decide))).trans ?_
  refine (if_neg (nc hc (show ¬ nI 5 = 4 by decide))).trans ?_
  refine (if_pos (pc_ hc (show nI 5 = 5 by decide))).trans ?_
  obtain ⟨t, b, po', K', k', hv', out', z', his', e1, e2, e3, h1, h2, hw2⟩ := lc_remember h hh po vi vu vp vs vc vz vo vn va vq vk vd hw out (xs (nI (4 * i) + 1).toNatClampNeg)
  rw [gx1 hi hL, e1, Option.bind_some, gx1 hi hL, e2, Option.bind_some]
  refine (law_tail (o := out') e3).trans ?_
  unfold fL_law_J517 fL_law_J1414
  rw [nx4]
  exact hk _ _ _ _ _ _ _ _ _ _ _ _ _ _ _ _ _ _ _ _ _ _ _ _ _ _ _ _ _ _ _ _ _ _ _ _ _ _ _ _ _ _ _ _ _ _ _ _ _ _ _ _ _ _ _ _ _ _ ⟨n, K', k', Ln, rfl, rfl, rfl, rfl, rfl, rfl, h1, h2, hLn, ht, hw2⟩
theorem law_c6 {xs : Nat → Int32} {L f i : Nat} (hi : 4 * i + 4 ≤ L) (hL : L ≤ 2048) (hk : HK xs L f i) (hc : xs (nI (4 * i)).toNatClampNeg &&& 31 = nI 6) (po si sr sa sh : Int32) (sz so : Nat → Int64) (sA sF : Nat → Int32) (hs : Int32) (xc : Nat → Int32) (xl : Int32) (bad : Nat → Int64) (co : Nat → Int32) (ro : Nat → Int64) (ps : Int32) (vi vu vp vs vc : Int32) (vz vo vn va : Nat → Int64) (vq vk vd : Nat → Int32) (wi wu wp ws wc : Int32) (wz wo wn wa : Nat → Int64) (wq wk wd : Nat → Int32) (out : Nat → Int64) (z : Nat → Int32) (nst : Int32) (his : Nat → Int32) (len : Int32) (txt : Nat → Int32) (thr : Int32) (god : Nat → Int64) (prm : Nat → Int32) (npr : Int32) (cov siz pts : Nat → Int32) (rea pla : Int32) (bef : Nat → Int32) (has : Int64) (hv : Nat → SV) (h : LV po si sr sa sh sz so sA sF hs xc xl vi vu vp vs vc vz vo vn va vq vk vd z nst his len txt hv) : fL_law_L23 xs L (f + 1) (nI (4 * i)) po si sr sa sh sz so sA sF hs xc xl bad co ro ps vi vu vp vs vc vz vo vn va vq vk vd wi wu wp ws wc wz wo wn wa wq wk wd out z nst his len txt thr god prm npr cov siz pts rea pla bef has hv = some () := by
  obtain ⟨n, K, k, Ln, rfl, rfl, rfl, rfl, rfl, rfl, h, hh, hLn, ht, hw⟩ := h
  rw [fL_law_L23, if_neg (law_go hi hL), gx0 hi hL]
  refine (if_neg (nc hc (show ¬ nI 6 = 0 by decide))).trans ?_
  refine (if_neg (nc hc (show ¬ nI 6 = 1 by decide))).trans ?_
  refine (if_neg (nc hc (show ¬ nI 6 = 2 by decide))).trans ?_
  refine (if_neg (nc hc (show ¬ nI 6 = 3 by decide))).trans ?_
  refine (if_neg (nc hc (show ¬ nI 6 = 4 by decide))).trans ?_
  refine (if_neg (nc hc (show ¬ nI 6 = 5 by decide))).trans ?_
  refine (if_pos (pc_ hc (show nI 6 = 6 by decide))).trans ?_
  obtain ⟨t, b, po', K', hours', k', hv', out', z', his', e1, e2, e3, h1, h2, hw2⟩ := lc_pass h hh po vi vu vp vs vc vz vo vn va vq vk vd hw out (xs (nI (4 * i) + 1).toNatClampNeg)
  rw [gx1 hi hL, e1, Option.bind_some, gx1 hi hL, e2, Option.bind_some]
  refine (law_tail (o := out') e3).trans ?_
  unfold fL_law_J573 fL_law_J1414
  rw [nx4]
  exact hk _ _ _ _ _ _ _ _ _ _ _ _ _ _ _ _ _ _ _ _ _ _ _ _ _ _ _ _ _ _ _ _ _ _ _ _ _ _ _ _ _ _ _ _ _ _ _ _ _ _ _ _ _ _ _ _ _ _ ⟨n, K', k', Ln, rfl, rfl, rfl, rfl, rfl, rfl, h1, h2, hLn, ht, hw2⟩
theorem law_c7 {xs : Nat → Int32} {L f i : Nat} (hi : 4 * i + 4 ≤ L) (hL : L ≤ 2048) (hk : HK xs L f i) (hc : xs (nI (4 * i)).toNatClampNeg &&& 31 = nI 7) (po si sr sa sh : Int32) (sz so : Nat → Int64) (sA sF : Nat → Int32) (hs : Int32) (xc : Nat → Int32) (xl : Int32) (bad : Nat → Int64) (co : Nat → Int32) (ro : Nat → Int64) (ps : Int32) (vi vu vp vs vc : Int32) (vz vo vn va : Nat → Int64) (vq vk vd : Nat → Int32) (wi wu wp ws wc : Int32) (wz wo wn wa : Nat → Int64) (wq wk wd : Nat → Int32) (out : Nat → Int64) (z : Nat → Int32) (nst : Int32) (his : Nat → Int32) (len : Int32) (txt : Nat → Int32) (thr : Int32) (god : Nat → Int64) (prm : Nat → Int32) (npr : Int32) (cov siz pts : Nat → Int32) (rea pla : Int32) (bef : Nat → Int32) (has : Int64) (hv : Nat → SV) (h : LV po si sr sa sh sz so sA sF hs xc xl vi vu vp vs vc vz vo vn va vq vk vd z nst his len txt hv) : fL_law_L23 xs L (f + 1) (nI (4 * i)) po si sr sa sh sz so sA sF hs xc xl bad co ro ps vi vu vp vs vc vz vo vn va vq vk vd wi wu wp ws wc wz wo wn wa wq wk wd out z nst his len txt thr god prm npr cov siz pts rea pla bef has hv = some () := by
  obtain ⟨n, K, k, Ln, rfl, rfl, rfl, rfl, rfl, rfl, h, hh, hLn, ht, hw⟩ := h
  rw [fL_law_L23, if_neg (law_go hi hL), gx0 hi hL]
  refine (if_neg (nc hc (show ¬ nI 7 = 0 by decide))).trans ?_
  refine (if_neg (nc hc (show ¬ nI 7 = 1 by decide))).trans ?_
  refine (if_neg (nc hc (show ¬ nI 7 = 2 by decide))).trans ?_
  refine (if_neg (nc hc (show ¬ nI 7 = 3 by decide))).trans ?_
  refine (if_neg (nc hc (show ¬ nI 7 = 4 by decide))).trans ?_
  refine (if_neg (nc hc (show ¬ nI 7 = 5 by decide))).trans ?_
  refine (if_neg (nc hc (show ¬ nI 7 = 6 by decide))).trans ?_
  refine (if_pos (pc_ hc (show nI 7 = 7 by decide))).trans ?_
  obtain ⟨t, b, po', asks', A', F', k', bad', co', ro', ps', vi', vu', vp', vs', vc', vz', vo', vn', va', vq', vk', vd', hv', out', z', his', g, p, q, c, s, e1, e2, e3, h1, h2, hw2⟩ := lc_ask h hh po vi vu vp vs vc vz vo vn va vq vk vd hw out bad co ro ps god prm npr cov siz (xs (nI (4 * i) + 1).toNatClampNeg)
  rw [gx1 hi hL, e1, Option.bind_some, gx1 hi hL, e2, Option.bind_some]
  refine (law_tail (o := out') e3).trans ?_
  unfold fL_law_J629 fL_law_J1414
  rw [nx4]
  exact hk _ _ _ _ _ _ _ _ _ _ _ _ _ _ _ _ _ _ _ _ _ _ _ _ _ _ _ _ _ _ _ _ _ _ _ _ _ _ _ _ _ _ _ _ _ _ _ _ _ _ _ _ _ _ _ _ _ _ ⟨n, K, k', Ln, rfl, rfl, rfl, rfl, rfl, rfl, h1, h2, hLn, ht, hw2⟩
theorem law_c8 {xs : Nat → Int32} {L f i : Nat} (hi : 4 * i + 4 ≤ L) (hL : L ≤ 2048) (hk : HK xs L f i) (hc : xs (nI (4 * i)).toNatClampNeg &&& 31 = nI 8) (po si sr sa sh : Int32) (sz so : Nat → Int64) (sA sF : Nat → Int32) (hs : Int32) (xc : Nat → Int32) (xl : Int32) (bad : Nat → Int64) (co : Nat → Int32) (ro : Nat → Int64) (ps : Int32) (vi vu vp vs vc : Int32) (vz vo vn va : Nat → Int64) (vq vk vd : Nat → Int32) (wi wu wp ws wc : Int32) (wz wo wn wa : Nat → Int64) (wq wk wd : Nat → Int32) (out : Nat → Int64) (z : Nat → Int32) (nst : Int32) (his : Nat → Int32) (len : Int32) (txt : Nat → Int32) (thr : Int32) (god : Nat → Int64) (prm : Nat → Int32) (npr : Int32) (cov siz pts : Nat → Int32) (rea pla : Int32) (bef : Nat → Int32) (has : Int64) (hv : Nat → SV) (h : LV po si sr sa sh sz so sA sF hs xc xl vi vu vp vs vc vz vo vn va vq vk vd z nst his len txt hv) : fL_law_L23 xs L (f + 1) (nI (4 * i)) po si sr sa sh sz so sA sF hs xc xl bad co ro ps vi vu vp vs vc vz vo vn va vq vk vd wi wu wp ws wc wz wo wn wa wq wk wd out z nst his len txt thr god prm npr cov siz pts rea pla bef has hv = some () := by
  obtain ⟨n, K, k, Ln, rfl, rfl, rfl, rfl, rfl, rfl, h, hh, hLn, ht, hw⟩ := h
  rw [fL_law_L23, if_neg (law_go hi hL), gx0 hi hL]
  refine (if_neg (nc hc (show ¬ nI 8 = 0 by decide))).trans ?_
  refine (if_neg (nc hc (show ¬ nI 8 = 1 by decide))).trans ?_
  refine (if_neg (nc hc (show ¬ nI 8 = 2 by decide))).trans ?_
  refine (if_neg (nc hc (show ¬ nI 8 = 3 by decide))).trans ?_
  refine (if_neg (nc hc (show ¬ nI 8 = 4 by decide))).trans ?_
  refine (if_neg (nc hc (show ¬ nI 8 = 5 by decide))).trans ?_
  refine (if_neg (nc hc (show ¬ nI 8 = 6 by decide))).trans ?_
  refine (if_neg (nc hc (show ¬ nI 8 = 7 by decide))).trans ?_
  refine (if_pos (pc_ hc (show nI 8 = 8 by decide))).trans ?_
  obtain ⟨t, b, c', txt', L', out', e1, e2, e3, h1, h2⟩ := lc_append hLn ht out (xs (nI (4 * i) + 1).toNatClampNeg)
  rw [gx1 hi hL, e1, Option.bind_some, gx1 hi hL, e2, Option.bind_some]
  refine (law_tail (o := out') e3).trans ?_
  unfold fL_law_J685 fL_law_J1414
  rw [nx4]
  exact hk _ _ _ _ _ _ _ _ _ _ _ _ _ _ _ _ _ _ _ _ _ _ _ _ _ _ _ _ _ _ _ _ _ _ _ _ _ _ _ _ _ _ _ _ _ _ _ _ _ _ _ _ _ _ _ _ _ _ ⟨n, K, k, L', rfl, rfl, rfl, rfl, rfl, rfl, h, hh, h1, h2, hw⟩
theorem law_c9 {xs : Nat → Int32} {L f i : Nat} (hi : 4 * i + 4 ≤ L) (hL : L ≤ 2048) (hk : HK xs L f i) (hc : xs (nI (4 * i)).toNatClampNeg &&& 31 = nI 9) (po si sr sa sh : Int32) (sz so : Nat → Int64) (sA sF : Nat → Int32) (hs : Int32) (xc : Nat → Int32) (xl : Int32) (bad : Nat → Int64) (co : Nat → Int32) (ro : Nat → Int64) (ps : Int32) (vi vu vp vs vc : Int32) (vz vo vn va : Nat → Int64) (vq vk vd : Nat → Int32) (wi wu wp ws wc : Int32) (wz wo wn wa : Nat → Int64) (wq wk wd : Nat → Int32) (out : Nat → Int64) (z : Nat → Int32) (nst : Int32) (his : Nat → Int32) (len : Int32) (txt : Nat → Int32) (thr : Int32) (god : Nat → Int64) (prm : Nat → Int32) (npr : Int32) (cov siz pts : Nat → Int32) (rea pla : Int32) (bef : Nat → Int32) (has : Int64) (hv : Nat → SV) (h : LV po si sr sa sh sz so sA sF hs xc xl vi vu vp vs vc vz vo vn va vq vk vd z nst his len txt hv) : fL_law_L23 xs L (f + 1) (nI (4 * i)) po si sr sa sh sz so sA sF hs xc xl bad co ro ps vi vu vp vs vc vz vo vn va vq vk vd wi wu wp ws wc wz wo wn wa wq wk wd out z nst his len txt thr god prm npr cov siz pts rea pla bef has hv = some () := by
  obtain ⟨n, K, k, Ln, rfl, rfl, rfl, rfl, rfl, rfl, h, hh, hLn, ht, hw⟩ := h
  rw [fL_law_L23, if_neg (law_go hi hL), gx0 hi hL]
  refine (if_neg (nc hc (show ¬ nI 9 = 0 by decide))).trans ?_
  refine (if_neg (nc hc (show ¬ nI 9 = 1 by decide))).trans ?_
  refine (if_neg (nc hc (show ¬ nI 9 = 2 by decide))).trans ?_
  refine (if_neg (nc hc (show ¬ nI 9 = 3 by decide))).trans ?_
  refine (if_neg (nc hc (show ¬ nI 9 = 4 by decide))).trans ?_
  refine (if_neg (nc hc (show ¬ nI 9 = 5 by decide))).trans ?_
  refine (if_neg (nc hc (show ¬ nI 9 = 6 by decide))).trans ?_
  refine (if_neg (nc hc (show ¬ nI 9 = 7 by decide))).trans ?_
  refine (if_neg (nc hc (show ¬ nI 9 = 8 by decide))).trans ?_
  refine (if_pos (pc_ hc (show nI 9 = 9 by decide))).trans ?_
  unfold fX6_clearBuffer fX7_clearBuffer
  rw [Option.bind_some, Option.bind_some, if_pos rfl]
  unfold fL_law_J1414
  rw [nx4]
  exact hk _ _ _ _ _ _ _ _ _ _ _ _ _ _ _ _ _ _ _ _ _ _ _ _ _ _ _ _ _ _ _ _ _ _ _ _ _ _ _ _ _ _ _ _ _ _ _ _ _ _ _ _ _ _ _ _ _ _ ⟨n, K, k, 0, rfl, rfl, rfl, rfl, rfl, rfl, h, hh, (Nat.zero_le _), (fun j hj => absurd hj (by omega)), hw⟩
theorem law_c10 {xs : Nat → Int32} {L f i : Nat} (hi : 4 * i + 4 ≤ L) (hL : L ≤ 2048) (hk : HK xs L f i) (hc : xs (nI (4 * i)).toNatClampNeg &&& 31 = nI 10) (po si sr sa sh : Int32) (sz so : Nat → Int64) (sA sF : Nat → Int32) (hs : Int32) (xc : Nat → Int32) (xl : Int32) (bad : Nat → Int64) (co : Nat → Int32) (ro : Nat → Int64) (ps : Int32) (vi vu vp vs vc : Int32) (vz vo vn va : Nat → Int64) (vq vk vd : Nat → Int32) (wi wu wp ws wc : Int32) (wz wo wn wa : Nat → Int64) (wq wk wd : Nat → Int32) (out : Nat → Int64) (z : Nat → Int32) (nst : Int32) (his : Nat → Int32) (len : Int32) (txt : Nat → Int32) (thr : Int32) (god : Nat → Int64) (prm : Nat → Int32) (npr : Int32) (cov siz pts : Nat → Int32) (rea pla : Int32) (bef : Nat → Int32) (has : Int64) (hv : Nat → SV) (h : LV po si sr sa sh sz so sA sF hs xc xl vi vu vp vs vc vz vo vn va vq vk vd z nst his len txt hv) : fL_law_L23 xs L (f + 1) (nI (4 * i)) po si sr sa sh sz so sA sF hs xc xl bad co ro ps vi vu vp vs vc vz vo vn va vq vk vd wi wu wp ws wc wz wo wn wa wq wk wd out z nst his len txt thr god prm npr cov siz pts rea pla bef has hv = some () := by
  obtain ⟨n, K, k, Ln, rfl, rfl, rfl, rfl, rfl, rfl, h, hh, hLn, ht, hw⟩ := h
  rw [fL_law_L23, if_neg (law_go hi hL), gx0 hi hL]
  refine (if_neg (nc hc (show ¬ nI 10 = 0 by decide))).trans ?_
  refine (if_neg (nc hc (show ¬ nI 10 = 1 by decide))).trans ?_
  refine (if_neg (nc hc (show ¬ nI 10 = 2 by decide))).trans ?_
  refine (if_neg (nc hc (show ¬ nI 10 = 3 by decide))).trans ?_
  refine (if_neg (nc hc (show ¬ nI 10 = 4 by decide))).trans ?_
  refine (if_neg (nc hc (show ¬ nI 10 = 5 by decide))).trans ?_
  refine (if_neg (nc hc (show ¬ nI 10 = 6 by decide))).trans ?_
  refine (if_neg (nc hc (show ¬ nI 10 = 7 by decide))).trans ?_
  refine (if_neg (nc hc (show ¬ nI 10 = 8 by decide))).trans ?_
  refine (if_neg (nc hc (show ¬ nI 10 = 9 by decide))).trans ?_
  refine (if_pos (pc_ hc (show nI 10 = 10 by decide))).trans ?_
  obtain ⟨w, pts', rea', pla', e1, e2, _, _⟩ := fe_both h.2.1.1 h.2.1.2.1 h.1.1 hLn ht pts
  unfold fX6_firstError fX7_firstError
  rw [e1, Option.bind_some, Option.bind_some, e2, Option.bind_some, Option.bind_some, if_pos rfl]
  unfold fL_law_J1414
  rw [nx4]
  exact hk _ _ _ _ _ _ _ _ _ _ _ _ _ _ _ _ _ _ _ _ _ _ _ _ _ _ _ _ _ _ _ _ _ _ _ _ _ _ _ _ _ _ _ _ _ _ _ _ _ _ _ _ _ _ _ _ _ _ ⟨n, K, k, Ln, rfl, rfl, rfl, rfl, rfl, rfl, h, hh, hLn, ht, hw⟩
theorem law_c11 {xs : Nat → Int32} {L f i : Nat} (hi : 4 * i + 4 ≤ L) (hL : L ≤ 2048) (hk : HK xs L f i) (hc : xs (nI (4 * i)).toNatClampNeg &&& 31 = nI 11) (po si sr sa sh : Int32) (sz so : Nat → Int64) (sA sF : Nat → Int32) (hs : Int32) (xc : Nat → Int32) (xl : Int32) (bad : Nat → Int64) (co : Nat → Int32) (ro : Nat → Int64) (ps : Int32) (vi vu vp vs vc : Int32) (vz vo vn va : Nat → Int64) (vq vk vd : Nat → Int32) (wi wu wp ws wc : Int32) (wz wo wn wa : Nat → Int64) (wq wk wd : Nat → Int32) (out : Nat → Int64) (z : Nat → Int32) (nst : Int32) (his : Nat → Int32) (len : Int32) (txt : Nat → Int32) (thr : Int32) (god : Nat → Int64) (prm : Nat → Int32) (npr : Int32) (cov siz pts : Nat → Int32) (rea pla : Int32) (bef : Nat → Int32) (has : Int64) (hv : Nat → SV) (h : LV po si sr sa sh sz so sA sF hs xc xl vi vu vp vs vc vz vo vn va vq vk vd z nst his len txt hv) : fL_law_L23 xs L (f + 1) (nI (4 * i)) po si sr sa sh sz so sA sF hs xc xl bad co ro ps vi vu vp vs vc vz vo vn va vq vk vd wi wu wp ws wc wz wo wn wa wq wk wd out z nst his len txt thr god prm npr cov siz pts rea pla bef has hv = some () := by
  obtain ⟨n, K, k, Ln, rfl, rfl, rfl, rfl, rfl, rfl, h, hh, hLn, ht, hw⟩ := h
  rw [fL_law_L23, if_neg (law_go hi hL), gx0 hi hL]
  refine (if_neg (nc hc (show ¬ nI 11 = 0 by decide))).trans ?_
  refine (if_neg (nc hc (show ¬ nI 11 = 1 by decide))).trans ?_
  refine (if_neg (nc hc (show ¬ nI 11 = 2 by decide))).trans ?_
  refine (if_neg (nc hc (show ¬ nI 11 = 3 by decide))).trans ?_
  refine (if_neg (nc hc (show ¬ nI 11 = 4 by decide))).trans ?_
  refine (if_neg (nc hc (show ¬ nI 11 = 5 by decide))).trans ?_
  refine (if_neg (nc hc (show ¬ nI 11 = 6 by decide))).trans ?_
  refine (if_neg (nc hc (show ¬ nI 11 = 7 by decide))).trans ?_
  refine (if_neg (nc hc (show ¬ nI 11 = 8 by decide))).trans ?_
  refine (if_neg (nc hc (show ¬ nI 11 = 9 by decide))).trans ?_
  refine (if_neg (nc hc (show ¬ nI 11 = 10 by decide))).trans ?_
  refine (if_pos (pc_ hc (show nI 11 = 11 by decide))).trans ?_
  obtain ⟨t, b, po', Z', O', k', L', hv', out', z', his', pts', rea', pla', bef', e1, e2, e3, h1, h2, hw2, hL2⟩ := lc_fill h hh po vi vu vp vs vc vz vo vn va vq vk vd hw out hLn ht pts bef
  rw [e1, Option.bind_some, e2, Option.bind_some]
  refine (law_tail (o := out') e3).trans ?_
  unfold fL_law_J755 fL_law_J1414
  rw [nx4]
  exact hk _ _ _ _ _ _ _ _ _ _ _ _ _ _ _ _ _ _ _ _ _ _ _ _ _ _ _ _ _ _ _ _ _ _ _ _ _ _ _ _ _ _ _ _ _ _ _ _ _ _ _ _ _ _ _ _ _ _ ⟨n, K, k', L', rfl, rfl, rfl, rfl, rfl, rfl, h1, h2, (Nat.le_trans hL2 hLn), (fun j hj => ht j (Nat.lt_of_lt_of_le hj hL2)), hw2⟩
theorem law_c12 {xs : Nat → Int32} {L f i : Nat} (hi : 4 * i + 4 ≤ L) (hL : L ≤ 2048) (hk : HK xs L f i) (hc : xs (nI (4 * i)).toNatClampNeg &&& 31 = nI 12) (po si sr sa sh : Int32) (sz so : Nat → Int64) (sA sF : Nat → Int32) (hs : Int32) (xc : Nat → Int32) (xl : Int32) (bad : Nat → Int64) (co : Nat → Int32) (ro : Nat → Int64) (ps : Int32) (vi vu vp vs vc : Int32) (vz vo vn va : Nat → Int64) (vq vk vd : Nat → Int32) (wi wu wp ws wc : Int32) (wz wo wn wa : Nat → Int64) (wq wk wd : Nat → Int32) (out : Nat → Int64) (z : Nat → Int32) (nst : Int32) (his : Nat → Int32) (len : Int32) (txt : Nat → Int32) (thr : Int32) (god : Nat → Int64) (prm : Nat → Int32) (npr : Int32) (cov siz pts : Nat → Int32) (rea pla : Int32) (bef : Nat → Int32) (has : Int64) (hv : Nat → SV) (h : LV po si sr sa sh sz so sA sF hs xc xl vi vu vp vs vc vz vo vn va vq vk vd z nst his len txt hv) : fL_law_L23 xs L (f + 1) (nI (4 * i)) po si sr sa sh sz so sA sF hs xc xl bad co ro ps vi vu vp vs vc vz vo vn va vq vk vd wi wu wp ws wc wz wo wn wa wq wk wd out z nst his len txt thr god prm npr cov siz pts rea pla bef has hv = some () := by
  obtain ⟨n, K, k, Ln, rfl, rfl, rfl, rfl, rfl, rfl, h, hh, hLn, ht, hw⟩ := h
  rw [fL_law_L23, if_neg (law_go hi hL), gx0 hi hL]
  refine (if_neg (nc hc (show ¬ nI 12 = 0 by decide))).trans ?_
  refine (if_neg (nc hc (show ¬ nI 12 = 1 by decide))).trans ?_
  refine (if_neg (nc hc (show ¬ nI 12 = 2 by decide))).trans ?_
  refine (if_neg (nc hc (show ¬ nI 12 = 3 by decide))).trans ?_
  refine (if_neg (nc hc (show ¬ nI 12 = 4 by decide))).trans ?_
  refine (if_neg (nc hc (show ¬ nI 12 = 5 by decide))).trans ?_
  refine (if_neg (nc hc (show ¬ nI 12 = 6 by decide))).trans ?_
  refine (if_neg (nc hc (show ¬ nI 12 = 7 by decide))).trans ?_
  refine (if_neg (nc hc (show ¬ nI 12 = 8 by decide))).trans ?_
  refine (if_neg (nc hc (show ¬ nI 12 = 9 by decide))).trans ?_
  refine (if_neg (nc hc (show ¬ nI 12 = 10 by decide))).trans ?_
  refine (if_neg (nc hc (show ¬ nI 12 = 11 by decide))).trans ?_
  refine (if_pos (pc_ hc (show nI 12 = 12 by decide))).trans ?_
  obtain ⟨t, b, po', n', K', asks', hours', Z', O', A', F', k', out', z', e1, e2, e3, h1, h2, hw2⟩ := lc_undo h hh po vi vu vp vs vc vz vo vn va vq vk vd hw out
  rw [e1, Option.bind_some, e2, Option.bind_some]
  refine (law_tail (o := out') e3).trans ?_
  unfold fL_law_J799 fL_law_J1414
  rw [nx4]
  exact hk _ _ _ _ _ _ _ _ _ _ _ _ _ _ _ _ _ _ _ _ _ _ _ _ _ _ _ _ _ _ _ _ _ _ _ _ _ _ _ _ _ _ _ _ _ _ _ _ _ _ _ _ _ _ _ _ _ _ ⟨n', K', k', Ln, rfl, rfl, rfl, rfl, rfl, rfl, h1, h2, hLn, ht, hw2⟩
theorem law_c13 {xs : Nat → Int32} {L f i : Nat} (hi : 4 * i + 4 ≤ L) (hL : L ≤ 2048) (hk : HK xs L f i) (hc : xs (nI (4 * i)).toNatClampNeg &&& 31 = nI 13) (po si sr sa sh : Int32) (sz so : Nat → Int64) (sA sF : Nat → Int32) (hs : Int32) (xc : Nat → Int32) (xl : Int32) (bad : Nat → Int64) (co : Nat → Int32) (ro : Nat → Int64) (ps : Int32) (vi vu vp vs vc : Int32) (vz vo vn va : Nat → Int64) (vq vk vd : Nat → Int32) (wi wu wp ws wc : Int32) (wz wo wn wa : Nat → Int64) (wq wk wd : Nat → Int32) (out : Nat → Int64) (z : Nat → Int32) (nst : Int32) (his : Nat → Int32) (len : Int32) (txt : Nat → Int32) (thr : Int32) (god : Nat → Int64) (prm : Nat → Int32) (npr : Int32) (cov siz pts : Nat → Int32) (rea pla : Int32) (bef : Nat → Int32) (has : Int64) (hv : Nat → SV) (h : LV po si sr sa sh sz so sA sF hs xc xl vi vu vp vs vc vz vo vn va vq vk vd z nst his len txt hv) : fL_law_L23 xs L (f + 1) (nI (4 * i)) po si sr sa sh sz so sA sF hs xc xl bad co ro ps vi vu vp vs vc vz vo vn va vq vk vd wi wu wp ws wc wz wo wn wa wq wk wd out z nst his len txt thr god prm npr cov siz pts rea pla bef has hv = some () := by
  obtain ⟨n, K, k, Ln, rfl, rfl, rfl, rfl, rfl, rfl, h, hh, hLn, ht, hw⟩ := h
  rw [fL_law_L23, if_neg (law_go hi hL), gx0 hi hL]
  refine (if_neg (nc hc (show ¬ nI 13 = 0 by decide))).trans ?_
  refine (if_neg (nc hc (show ¬ nI 13 = 1 by decide))).trans ?_
  refine (if_neg (nc hc (show ¬ nI 13 = 2 by decide))).trans ?_
  refine (if_neg (nc hc (show ¬ nI 13 = 3 by decide))).trans ?_
  refine (if_neg (nc hc (show ¬ nI 13 = 4 by decide))).trans ?_
  refine (if_neg (nc hc (show ¬ nI 13 = 5 by decide))).trans ?_
  refine (if_neg (nc hc (show ¬ nI 13 = 6 by decide))).trans ?_
  refine (if_neg (nc hc (show ¬ nI 13 = 7 by decide))).trans ?_
  refine (if_neg (nc hc (show ¬ nI 13 = 8 by decide))).trans ?_
  refine (if_neg (nc hc (show ¬ nI 13 = 9 by decide))).trans ?_
  refine (if_neg (nc hc (show ¬ nI 13 = 10 by decide))).trans ?_
  refine (if_neg (nc hc (show ¬ nI 13 = 11 by decide))).trans ?_
  refine (if_neg (nc hc (show ¬ nI 13 = 12 by decide))).trans ?_
  refine (if_pos (pc_ hc (show nI 13 = 13 by decide))).trans ?_
  obtain ⟨t, b, po', bad', co', ro', ps', vi', vu', vp', vs', vc', vz', vo', vn', va', vq', vk', vd', out', g, p, q, c, s, e1, e2, e3, hw2⟩ := lw_at h po bad co ro ps vi vu vp vs vc vz vo vn va vq vk vd hw god prm npr cov siz out (xs (nI (4 * i) + 1).toNatClampNeg) (xs (nI (4 * i) + 2).toNatClampNeg) (xs (nI (4 * i) + 3).toNatClampNeg)
  rw [gx1 hi hL, gx2 hi hL, gx3 hi hL, e1, Option.bind_some, gx1 hi hL, gx2 hi hL, gx3 hi hL, e2, Option.bind_some]
  refine (law_tail (o := out') e3).trans ?_
  unfold fL_law_J879 fL_law_J1414
  rw [nx4]
  exact hk _ _ _ _ _ _ _ _ _ _ _ _ _ _ _ _ _ _ _ _ _ _ _ _ _ _ _ _ _ _ _ _ _ _ _ _ _ _ _ _ _ _ _ _ _ _ _ _ _ _ _ _ _ _ _ _ _ _ ⟨n, K, k, Ln, rfl, rfl, rfl, rfl, rfl, rfl, h, hh, hLn, ht, hw2⟩
theorem law_c14 {xs : Nat → Int32} {L f i : Nat} (hi : 4 * i + 4 ≤ L) (hL : L ≤ 2048) (hk : HK xs L f i) (hc : xs (nI (4 * i)).toNatClampNeg &&& 31 = nI 14) (po si sr sa sh : Int32) (sz so : Nat → Int64) (sA sF : Nat → Int32) (hs : Int32) (xc : Nat → Int32) (xl : Int32) (bad : Nat → Int64) (co : Nat → Int32) (ro : Nat → Int64) (ps : Int32) (vi vu vp vs vc : Int32) (vz vo vn va : Nat → Int64) (vq vk vd : Nat → Int32) (wi wu wp ws wc : Int32) (wz wo wn wa : Nat → Int64) (wq wk wd : Nat → Int32) (out : Nat → Int64) (z : Nat → Int32) (nst : Int32) (his : Nat → Int32) (len : Int32) (txt : Nat → Int32) (thr : Int32) (god : Nat → Int64) (prm : Nat → Int32) (npr : Int32) (cov siz pts : Nat → Int32) (rea pla : Int32) (bef : Nat → Int32) (has : Int64) (hv : Nat → SV) (h : LV po si sr sa sh sz so sA sF hs xc xl vi vu vp vs vc vz vo vn va vq vk vd z nst his len txt hv) : fL_law_L23 xs L (f + 1) (nI (4 * i)) po si sr sa sh sz so sA sF hs xc xl bad co ro ps vi vu vp vs vc vz vo vn va vq vk vd wi wu wp ws wc wz wo wn wa wq wk wd out z nst his len txt thr god prm npr cov siz pts rea pla bef has hv = some () := by
  obtain ⟨n, K, k, Ln, rfl, rfl, rfl, rfl, rfl, rfl, h, hh, hLn, ht, hw⟩ := h
  rw [fL_law_L23, if_neg (law_go hi hL), gx0 hi hL]
  refine (if_neg (nc hc (show ¬ nI 14 = 0 by decide))).trans ?_
  refine (if_neg (nc hc (show ¬ nI 14 = 1 by decide))).trans ?_
  refine (if_neg (nc hc (show ¬ nI 14 = 2 by decide))).trans ?_
  refine (if_neg (nc hc (show ¬ nI 14 = 3 by decide))).trans ?_
  refine (if_neg (nc hc (show ¬ nI 14 = 4 by decide))).trans ?_
  refine (if_neg (nc hc (show ¬ nI 14 = 5 by decide))).trans ?_
  refine (if_neg (nc hc (show ¬ nI 14 = 6 by decide))).trans ?_
  refine (if_neg (nc hc (show ¬ nI 14 = 7 by decide))).trans ?_
  refine (if_neg (nc hc (show ¬ nI 14 = 8 by decide))).trans ?_
  refine (if_neg (nc hc (show ¬ nI 14 = 9 by decide))).trans ?_
  refine (if_neg (nc hc (show ¬ nI 14 = 10 by decide))).trans ?_
  refine (if_neg (nc hc (show ¬ nI 14 = 11 by decide))).trans ?_
  refine (if_neg (nc hc (show ¬ nI 14 = 12 by decide))).trans ?_
  refine (if_neg (nc hc (show ¬ nI 14 = 13 by decide))).trans ?_
  refine (if_pos (pc_ hc (show nI 14 = 14 by decide))).trans ?_
  obtain ⟨t, b, po', bad', co', ro', ps', vi', vu', vp', vs', vc', vz', vo', vn', va', vq', vk', vd', out', g, p, q, c, s, e1, e2, e3, hw2⟩ := lw_output h po bad co ro ps vi vu vp vs vc vz vo vn va vq vk vd hw god prm npr cov siz out (xs (nI (4 * i) + 1).toNatClampNeg) (xs (nI (4 * i) + 2).toNatClampNeg)
  rw [gx1 hi hL, gx2 hi hL, e1, Option.bind_some, gx1 hi hL, gx2 hi hL, e2, Option.bind_some]
  refine (law_tail (o := out') e3).trans ?_
  unfold fL_law_J947 fL_law_J1414
  rw [nx4]
  exact hk _ _ _ _ _ _ _ _ _ _ _ _ _ _ _ _ _ _ _ _ _ _ _ _ _ _ _ _ _ _ _ _ _ _ _ _ _ _ _ _ _ _ _ _ _ _ _ _ _ _ _ _ _ _ _ _ _ _ ⟨n, K, k, Ln, rfl, rfl, rfl, rfl, rfl, rfl, h, hh, hLn, ht, hw2⟩
theorem law_c15 {xs : Nat → Int32} {L f i : Nat} (hi : 4 * i + 4 ≤ L) (hL : L ≤ 2048) (hk : HK xs L f i) (hc : xs (nI (4 * i)).toNatClampNeg &&& 31 = nI 15) (po si sr sa sh : Int32) (sz so : Nat → Int64) (sA sF : Nat → Int32) (hs : Int32) (xc : Nat → Int32) (xl : Int32) (bad : Nat → Int64) (co : Nat → Int32) (ro : Nat → Int64) (ps : Int32) (vi vu vp vs vc : Int32) (vz vo vn va : Nat → Int64) (vq vk vd : Nat → Int32) (wi wu wp ws wc : Int32) (wz wo wn wa : Nat → Int64) (wq wk wd : Nat → Int32) (out : Nat → Int64) (z : Nat → Int32) (nst : Int32) (his : Nat → Int32) (len : Int32) (txt : Nat → Int32) (thr : Int32) (god : Nat → Int64) (prm : Nat → Int32) (npr : Int32) (cov siz pts : Nat → Int32) (rea pla : Int32) (bef : Nat → Int32) (has : Int64) (hv : Nat → SV) (h : LV po si sr sa sh sz so sA sF hs xc xl vi vu vp vs vc vz vo vn va vq vk vd z nst his len txt hv) : fL_law_L23 xs L (f + 1) (nI (4 * i)) po si sr sa sh sz so sA sF hs xc xl bad co ro ps vi vu vp vs vc vz vo vn va vq vk vd wi wu wp ws wc wz wo wn wa wq wk wd out z nst his len txt thr god prm npr cov siz pts rea pla bef has hv = some () := by
  obtain ⟨n, K, k, Ln, rfl, rfl, rfl, rfl, rfl, rfl, h, hh, hLn, ht, hw⟩ := h
  rw [fL_law_L23, if_neg (law_go hi hL), gx0 hi hL]
  refine (if_neg (nc hc (show ¬ nI 15 = 0 by decide))).trans ?_
  refine (if_neg (nc hc (show ¬ nI 15 = 1 by decide))).trans ?_
  refine (if_neg (nc hc (show ¬ nI 15 = 2 by decide))).trans ?_
  refine (if_neg (nc hc (show ¬ nI 15 = 3 by decide))).trans ?_
  refine (if_neg (nc hc (show ¬ nI 15 = 4 by decide))).trans ?_
  refine (if_neg (nc hc (show ¬ nI 15 = 5 by decide))).trans ?_
  refine (if_neg (nc hc (show ¬ nI 15 = 6 by decide))).trans ?_
  refine (if_neg (nc hc (show ¬ nI 15 = 7 by decide))).trans ?_
  refine (if_neg (nc hc (show ¬ nI 15 = 8 by decide))).trans ?_
  refine (if_neg (nc hc (show ¬ nI 15 = 9 by decide))).trans ?_
  refine (if_neg (nc hc (show ¬ nI 15 = 10 by decide))).trans ?_
  refine (if_neg (nc hc (show ¬ nI 15 = 11 by decide))).trans ?_
  refine (if_neg (nc hc (show ¬ nI 15 = 12 by decide))).trans ?_
  refine (if_neg (nc hc (show ¬ nI 15 = 13 by decide))).trans ?_
  refine (if_neg (nc hc (show ¬ nI 15 = 14 by decide))).trans ?_
  refine (if_pos (pc_ hc (show nI 15 = 15 by decide))).trans ?_
  obtain ⟨t, b, po', bad', co', ro', ps', vi', vu', vp', vs', vc', vz', vo', vn', va', vq', vk', vd', out', g, p, q, c, s, e1, e2, e3, hw2⟩ := lw_product h po bad co ro ps vi vu vp vs vc vz vo vn va vq vk vd hw god prm npr cov siz out (xs (nI (4 * i) + 1).toNatClampNeg) (xs (nI (4 * i) + 2).toNatClampNeg) (xs (nI (4 * i) + 3).toNatClampNeg)
  rw [gx1 hi hL, gx2 hi hL, gx3 hi hL, e1, Option.bind_some, gx1 hi hL, gx2 hi hL, gx3 hi hL, e2, Option.bind_some]
  refine (law_tail (o := out') e3).trans ?_
  unfold fL_law_J1027 fL_law_J1414
  rw [nx4]
  exact hk _ _ _ _ _ _ _ _ _ _ _ _ _ _ _ _ _ _ _ _ _ _ _ _ _ _ _ _ _ _ _ _ _ _ _ _ _ _ _ _ _ _ _ _ _ _ _ _ _ _ _ _ _ _ _ _ _ _ ⟨n, K, k, Ln, rfl, rfl, rfl, rfl, rfl, rfl, h, hh, hLn, ht, hw2⟩
theorem law_c16 {xs : Nat → Int32} {L f i : Nat} (hi : 4 * i + 4 ≤ L) (hL : L ≤ 2048) (hk : HK xs L f i) (hc : xs (nI (4 * i)).toNatClampNeg &&& 31 = nI 16) (po si sr sa sh : Int32) (sz so : Nat → Int64) (sA sF : Nat → Int32) (hs : Int32) (xc : Nat → Int32) (xl : Int32) (bad : Nat → Int64) (co : Nat → Int32) (ro : Nat → Int64) (ps : Int32) (vi vu vp vs vc : Int32) (vz vo vn va : Nat → Int64) (vq vk vd : Nat → Int32) (wi wu wp ws wc : Int32) (wz wo wn wa : Nat → Int64) (wq wk wd : Nat → Int32) (out : Nat → Int64) (z : Nat → Int32) (nst : Int32) (his : Nat → Int32) (len : Int32) (txt : Nat → Int32) (thr : Int32) (god : Nat → Int64) (prm : Nat → Int32) (npr : Int32) (cov siz pts : Nat → Int32) (rea pla : Int32) (bef : Nat → Int32) (has : Int64) (hv : Nat → SV) (h : LV po si sr sa sh sz so sA sF hs xc xl vi vu vp vs vc vz vo vn va vq vk vd z nst his len txt hv) : fL_law_L23 xs L (f + 1) (nI (4 * i)) po si sr sa sh sz so sA sF hs xc xl bad co ro ps vi vu vp vs vc vz vo vn va vq vk vd wi wu wp ws wc wz wo wn wa wq wk wd out z nst his len txt thr god prm npr cov siz pts rea pla bef has hv = some () := by
  obtain ⟨n, K, k, Ln, rfl, rfl, rfl, rfl, rfl, rfl, h, hh, hLn, ht, hw⟩ := h
  rw [fL_law_L23, if_neg (law_go hi hL), gx0 hi hL]
  refine (if_neg (nc hc (show ¬ nI 16 = 0 by decide))).trans ?_
  refine (if_neg (nc hc (show ¬ nI 16 = 1 by decide))).trans ?_
  refine (if_neg (nc hc (show ¬ nI 16 = 2 by decide))).trans ?_
  refine (if_neg (nc hc (show ¬ nI 16 = 3 by decide))).trans ?_
  refine (if_neg (nc hc (show ¬ nI 16 = 4 by decide))).trans ?_
  refine (if_neg (nc hc (show ¬ nI 16 = 5 by decide))).trans ?_
  refine (if_neg (nc hc (show ¬ nI 16 = 6 by decide))).trans ?_
  refine (if_neg (nc hc (show ¬ nI 16 = 7 by decide))).trans ?_
  refine (if_neg (nc hc (show ¬ nI 16 = 8 by decide))).trans ?_
  refine (if_neg (nc hc (show ¬ nI 16 = 9 by decide))).trans ?_
  refine (if_neg (nc hc (show ¬ nI 16 = 10 by decide))).trans ?_
  refine (if_neg (nc hc (show ¬ nI 16 = 11 by decide))).trans ?_
  refine (if_neg (nc hc (show ¬ nI 16 = 12 by decide))).trans ?_
  refine (if_neg (nc hc (show ¬ nI 16 = 13 by decide))).trans ?_
  refine (if_neg (nc hc (show ¬ nI 16 = 14 by decide))).trans ?_
  refine (if_neg (nc hc (show ¬ nI 16 = 15 by decide))).trans ?_
  refine (if_pos (pc_ hc (show nI 16 = 16 by decide))).trans ?_
  obtain ⟨t, b, po', bad', co', ro', ps', vi', vu', vp', vs', vc', vz', vo', vn', va', vq', vk', vd', out', g, p, q, c, s, e1, e2, e3, hw2⟩ := lw_count h (nI k) po bad co ro ps vi vu vp vs vc vz vo vn va vq vk vd hw god prm npr cov siz out (xs (nI (4 * i) + 1).toNatClampNeg)
  rw [gx1 hi hL, e1, Option.bind_some, gx1 hi hL, e2, Option.bind_some]
  refine (law_tail (o := out') e3).trans ?_
  unfold fL_law_J1083 fL_law_J1414
  rw [nx4]
  exact hk _ _ _ _ _ _ _ _ _ _ _ _ _ _ _ _ _ _ _ _ _ _ _ _ _ _ _ _ _ _ _ _ _ _ _ _ _ _ _ _ _ _ _ _ _ _ _ _ _ _ _ _ _ _ _ _ _ _ ⟨n, K, k, Ln, rfl, rfl, rfl, rfl, rfl, rfl, h, hh, hLn, ht, hw2⟩
theorem law_c17 {xs : Nat → Int32} {L f i : Nat} (hi : 4 * i + 4 ≤ L) (hL : L ≤ 2048) (hk : HK xs L f i) (hc : xs (nI (4 * i)).toNatClampNeg &&& 31 = nI 17) (po si sr sa sh : Int32) (sz so : Nat → Int64) (sA sF : Nat → Int32) (hs : Int32) (xc : Nat → Int32) (xl : Int32) (bad : Nat → Int64) (co : Nat → Int32) (ro : Nat → Int64) (ps : Int32) (vi vu vp vs vc : Int32) (vz vo vn va : Nat → Int64) (vq vk vd : Nat → Int32) (wi wu wp ws wc : Int32) (wz wo wn wa : Nat → Int64) (wq wk wd : Nat → Int32) (out : Nat → Int64) (z : Nat → Int32) (nst : Int32) (his : Nat → Int32) (len : Int32) (txt : Nat → Int32) (thr : Int32) (god : Nat → Int64) (prm : Nat → Int32) (npr : Int32) (cov siz pts : Nat → Int32) (rea pla : Int32) (bef : Nat → Int32) (has : Int64) (hv : Nat → SV) (h : LV po si sr sa sh sz so sA sF hs xc xl vi vu vp vs vc vz vo vn va vq vk vd z nst his len txt hv) : fL_law_L23 xs L (f + 1) (nI (4 * i)) po si sr sa sh sz so sA sF hs xc xl bad co ro ps vi vu vp vs vc vz vo vn va vq vk vd wi wu wp ws wc wz wo wn wa wq wk wd out z nst his len txt thr god prm npr cov siz pts rea pla bef has hv = some () := by
  obtain ⟨n, K, k, Ln, rfl, rfl, rfl, rfl, rfl, rfl, h, hh, hLn, ht, hw⟩ := h
  rw [fL_law_L23, if_neg (law_go hi hL), gx0 hi hL]
  refine (if_neg (nc hc (show ¬ nI 17 = 0 by decide))).trans ?_
  refine (if_neg (nc hc (show ¬ nI 17 = 1 by decide))).trans ?_
  refine (if_neg (nc hc (show ¬ nI 17 = 2 by decide))).trans ?_
  refine (if_neg (nc hc (show ¬ nI 17 = 3 by decide))).trans ?_
  refine (if_neg (nc hc (show ¬ nI 17 = 4 by decide))).trans ?_
  refine (if_neg (nc hc (show ¬ nI 17 = 5 by decide))).trans ?_
  refine (if_neg (nc hc (show ¬ nI 17 = 6 by decide))).trans ?_
  refine (if_neg (nc hc (show ¬ nI 17 = 7 by decide))).trans ?_
  refine (if_neg (nc hc (show ¬ nI 17 = 8 by decide))).trans ?_
  refine (if_neg (nc hc (show ¬ nI 17 = 9 by decide))).trans ?_
  refine (if_neg (nc hc (show ¬ nI 17 = 10 by decide))).trans ?_
  refine (if_neg (nc hc (show ¬ nI 17 = 11 by decide))).trans ?_
  refine (if_neg (nc hc (show ¬ nI 17 = 12 by decide))).trans ?_
  refine (if_neg (nc hc (show ¬ nI 17 = 13 by decide))).trans ?_
  refine (if_neg (nc hc (show ¬ nI 17 = 14 by decide))).trans ?_
  refine (if_neg (nc hc (show ¬ nI 17 = 15 by decide))).trans ?_
  refine (if_neg (nc hc (show ¬ nI 17 = 16 by decide))).trans ?_
  refine (if_pos (pc_ hc (show nI 17 = 17 by decide))).trans ?_
  obtain ⟨t, b, bad', co', ro', ps', wi', wu', wp', ws', wc', wz', wo', wn', wa', wq', wk', wd', out', g, p, q, c, s, e1, e2, e3⟩ := lw_if h bad co ro ps wi wu wp ws wc wz wo wn wa wq wk wd god prm npr cov siz out (xs (nI (4 * i) + 1).toNatClampNeg) (xs (nI (4 * i) + 2).toNatClampNeg)
  rw [gx1 hi hL, gx2 hi hL, e1, Option.bind_some, gx1 hi hL, gx2 hi hL, e2, Option.bind_some]
  refine (law_tail (o := out') e3).trans ?_
  unfold fL_law_J1151 fL_law_J1414
  rw [nx4]
  exact hk _ _ _ _ _ _ _ _ _ _ _ _ _ _ _ _ _ _ _ _ _ _ _ _ _ _ _ _ _ _ _ _ _ _ _ _ _ _ _ _ _ _ _ _ _ _ _ _ _ _ _ _ _ _ _ _ _ _ ⟨n, K, k, Ln, rfl, rfl, rfl, rfl, rfl, rfl, h, hh, hLn, ht, hw⟩
theorem law_c18 {xs : Nat → Int32} {L f i : Nat} (hi : 4 * i + 4 ≤ L) (hL : L ≤ 2048) (hk : HK xs L f i) (hc : xs (nI (4 * i)).toNatClampNeg &&& 31 = nI 18) (po si sr sa sh : Int32) (sz so : Nat → Int64) (sA sF : Nat → Int32) (hs : Int32) (xc : Nat → Int32) (xl : Int32) (bad : Nat → Int64) (co : Nat → Int32) (ro : Nat → Int64) (ps : Int32) (vi vu vp vs vc : Int32) (vz vo vn va : Nat → Int64) (vq vk vd : Nat → Int32) (wi wu wp ws wc : Int32) (wz wo wn wa : Nat → Int64) (wq wk wd : Nat → Int32) (out : Nat → Int64) (z : Nat → Int32) (nst : Int32) (his : Nat → Int32) (len : Int32) (txt : Nat → Int32) (thr : Int32) (god : Nat → Int64) (prm : Nat → Int32) (npr : Int32) (cov siz pts : Nat → Int32) (rea pla : Int32) (bef : Nat → Int32) (has : Int64) (hv : Nat → SV) (h : LV po si sr sa sh sz so sA sF hs xc xl vi vu vp vs vc vz vo vn va vq vk vd z nst his len txt hv) : fL_law_L23 xs L (f + 1) (nI (4 * i)) po si sr sa sh sz so sA sF hs xc xl bad co ro ps vi vu vp vs vc vz vo vn va vq vk vd wi wu wp ws wc wz wo wn wa wq wk wd out z nst his len txt thr god prm npr cov siz pts rea pla bef has hv = some () := by
  obtain ⟨n, K, k, Ln, rfl, rfl, rfl, rfl, rfl, rfl, h, hh, hLn, ht, hw⟩ := h
  rw [fL_law_L23, if_neg (law_go hi hL), gx0 hi hL]
  refine (if_neg (nc hc (show ¬ nI 18 = 0 by decide))).trans ?_
  refine (if_neg (nc hc (show ¬ nI 18 = 1 by decide))).trans ?_
  refine (if_neg (nc hc (show ¬ nI 18 = 2 by decide))).trans ?_
  refine (if_neg (nc hc (show ¬ nI 18 = 3 by decide))).trans ?_
  refine (if_neg (nc hc (show ¬ nI 18 = 4 by decide))).trans ?_
  refine (if_neg (nc hc (show ¬ nI 18 = 5 by decide))).trans ?_
  refine (if_neg (nc hc (show ¬ nI 18 = 6 by decide))).trans ?_
  refine (if_neg (nc hc (show ¬ nI 18 = 7 by decide))).trans ?_
  refine (if_neg (nc hc (show ¬ nI 18 = 8 by decide))).trans ?_
  refine (if_neg (nc hc (show ¬ nI 18 = 9 by decide))).trans ?_
  refine (if_neg (nc hc (show ¬ nI 18 = 10 by decide))).trans ?_
  refine (if_neg (nc hc (show ¬ nI 18 = 11 by decide))).trans ?_
  refine (if_neg (nc hc (show ¬ nI 18 = 12 by decide))).trans ?_
  refine (if_neg (nc hc (show ¬ nI 18 = 13 by decide))).trans ?_
  refine (if_neg (nc hc (show ¬ nI 18 = 14 by decide))).trans ?_
  refine (if_neg (nc hc (show ¬ nI 18 = 15 by decide))).trans ?_
  refine (if_neg (nc hc (show ¬ nI 18 = 16 by decide))).trans ?_
  refine (if_neg (nc hc (show ¬ nI 18 = 17 by decide))).trans ?_
  refine (if_pos (pc_ hc (show nI 18 = 18 by decide))).trans ?_
  obtain ⟨t, b, out', e1, e2, e3⟩ := lw_needs h out (xs (nI (4 * i) + 1).toNatClampNeg)
  rw [gx1 hi hL, e1, Option.bind_some, gx1 hi hL, e2, Option.bind_some]
  refine (law_tail (o := out') e3).trans ?_
  unfold fL_law_J1207 fL_law_J1414
  rw [nx4]
  exact hk _ _ _ _ _ _ _ _ _ _ _ _ _ _ _ _ _ _ _ _ _ _ _ _ _ _ _ _ _ _ _ _ _ _ _ _ _ _ _ _ _ _ _ _ _ _ _ _ _ _ _ _ _ _ _ _ _ _ ⟨n, K, k, Ln, rfl, rfl, rfl, rfl, rfl, rfl, h, hh, hLn, ht, hw⟩
theorem law_c19 {xs : Nat → Int32} {L f i : Nat} (hi : 4 * i + 4 ≤ L) (hL : L ≤ 2048) (hk : HK xs L f i) (hc : xs (nI (4 * i)).toNatClampNeg &&& 31 = nI 19) (po si sr sa sh : Int32) (sz so : Nat → Int64) (sA sF : Nat → Int32) (hs : Int32) (xc : Nat → Int32) (xl : Int32) (bad : Nat → Int64) (co : Nat → Int32) (ro : Nat → Int64) (ps : Int32) (vi vu vp vs vc : Int32) (vz vo vn va : Nat → Int64) (vq vk vd : Nat → Int32) (wi wu wp ws wc : Int32) (wz wo wn wa : Nat → Int64) (wq wk wd : Nat → Int32) (out : Nat → Int64) (z : Nat → Int32) (nst : Int32) (his : Nat → Int32) (len : Int32) (txt : Nat → Int32) (thr : Int32) (god : Nat → Int64) (prm : Nat → Int32) (npr : Int32) (cov siz pts : Nat → Int32) (rea pla : Int32) (bef : Nat → Int32) (has : Int64) (hv : Nat → SV) (h : LV po si sr sa sh sz so sA sF hs xc xl vi vu vp vs vc vz vo vn va vq vk vd z nst his len txt hv) : fL_law_L23 xs L (f + 1) (nI (4 * i)) po si sr sa sh sz so sA sF hs xc xl bad co ro ps vi vu vp vs vc vz vo vn va vq vk vd wi wu wp ws wc wz wo wn wa wq wk wd out z nst his len txt thr god prm npr cov siz pts rea pla bef has hv = some () := by
  obtain ⟨n, K, k, Ln, rfl, rfl, rfl, rfl, rfl, rfl, h, hh, hLn, ht, hw⟩ := h
  rw [fL_law_L23, if_neg (law_go hi hL), gx0 hi hL]
  refine (if_neg (nc hc (show ¬ nI 19 = 0 by decide))).trans ?_
  refine (if_neg (nc hc (show ¬ nI 19 = 1 by decide))).trans ?_
  refine (if_neg (nc hc (show ¬ nI 19 = 2 by decide))).trans ?_
  refine (if_neg (nc hc (show ¬ nI 19 = 3 by decide))).trans ?_
  refine (if_neg (nc hc (show ¬ nI 19 = 4 by decide))).trans ?_
  refine (if_neg (nc hc (show ¬ nI 19 = 5 by decide))).trans ?_
  refine (if_neg (nc hc (show ¬ nI 19 = 6 by decide))).trans ?_
  refine (if_neg (nc hc (show ¬ nI 19 = 7 by decide))).trans ?_
  refine (if_neg (nc hc (show ¬ nI 19 = 8 by decide))).trans ?_
  refine (if_neg (nc hc (show ¬ nI 19 = 9 by decide))).trans ?_
  refine (if_neg (nc hc (show ¬ nI 19 = 10 by decide))).trans ?_
  refine (if_neg (nc hc (show ¬ nI 19 = 11 by decide))).trans ?_
  refine (if_neg (nc hc (show ¬ nI 19 = 12 by decide))).trans ?_
  refine (if_neg (nc hc (show ¬ nI 19 = 13 by decide))).trans ?_
  refine (if_neg (nc hc (show ¬ nI 19 = 14 by decide))).trans ?_
  refine (if_neg (nc hc (show ¬ nI 19 = 15 by decide))).trans ?_
  refine (if_neg (nc hc (show ¬ nI 19 = 16 by decide))).trans ?_
  refine (if_neg (nc hc (show ¬ nI 19 = 17 by decide))).trans ?_
  refine (if_neg (nc hc (show ¬ nI 19 = 18 by decide))).trans ?_
  refine (if_pos (pc_ hc (show nI 19 = 19 by decide))).trans ?_
  unfold fX6_harmless fX7_harmless
  rw [ha_cls h.2.1.2.1, Option.bind_some, Option.bind_some, ha_ref h.1 h.2.1, Option.bind_some, Option.bind_some, if_pos rfl]
  unfold fL_law_J1414
  rw [nx4]
  exact hk _ _ _ _ _ _ _ _ _ _ _ _ _ _ _ _ _ _ _ _ _ _ _ _ _ _ _ _ _ _ _ _ _ _ _ _ _ _ _ _ _ _ _ _ _ _ _ _ _ _ _ _ _ _ _ _ _ _ ⟨n, K, k, Ln, rfl, rfl, rfl, rfl, rfl, rfl, h, hh, hLn, ht, hw⟩
theorem law_c20 {xs : Nat → Int32} {L f i : Nat} (hi : 4 * i + 4 ≤ L) (hL : L ≤ 2048) (hk : HK xs L f i) (hc : xs (nI (4 * i)).toNatClampNeg &&& 31 = nI 20) (po si sr sa sh : Int32) (sz so : Nat → Int64) (sA sF : Nat → Int32) (hs : Int32) (xc : Nat → Int32) (xl : Int32) (bad : Nat → Int64) (co : Nat → Int32) (ro : Nat → Int64) (ps : Int32) (vi vu vp vs vc : Int32) (vz vo vn va : Nat → Int64) (vq vk vd : Nat → Int32) (wi wu wp ws wc : Int32) (wz wo wn wa : Nat → Int64) (wq wk wd : Nat → Int32) (out : Nat → Int64) (z : Nat → Int32) (nst : Int32) (his : Nat → Int32) (len : Int32) (txt : Nat → Int32) (thr : Int32) (god : Nat → Int64) (prm : Nat → Int32) (npr : Int32) (cov siz pts : Nat → Int32) (rea pla : Int32) (bef : Nat → Int32) (has : Int64) (hv : Nat → SV) (h : LV po si sr sa sh sz so sA sF hs xc xl vi vu vp vs vc vz vo vn va vq vk vd z nst his len txt hv) : fL_law_L23 xs L (f + 1) (nI (4 * i)) po si sr sa sh sz so sA sF hs xc xl bad co ro ps vi vu vp vs vc vz vo vn va vq vk vd wi wu wp ws wc wz wo wn wa wq wk wd out z nst his len txt thr god prm npr cov siz pts rea pla bef has hv = some () := by
  obtain ⟨n, K, k, Ln, rfl, rfl, rfl, rfl, rfl, rfl, h, hh, hLn, ht, hw⟩ := h
  rw [fL_law_L23, if_neg (law_go hi hL), gx0 hi hL]
  refine (if_neg (nc hc (show ¬ nI 20 = 0 by decide))).trans ?_
  refine (if_neg (nc hc (show ¬ nI 20 = 1 by decide))).trans ?_
  refine (if_neg (nc hc (show ¬ nI 20 = 2 by decide))).trans ?_
  refine (if_neg (nc hc (show ¬ nI 20 = 3 by decide))).trans ?_
  refine (if_neg (nc hc (show ¬ nI 20 = 4 by decide))).trans ?_
  refine (if_neg (nc hc (show ¬ nI 20 = 5 by decide))).trans ?_
  refine (if_neg (nc hc (show ¬ nI 20 = 6 by decide))).trans ?_
  refine (if_neg (nc hc (show ¬ nI 20 = 7 by decide))).trans ?_
  refine (if_neg (nc hc (show ¬ nI 20 = 8 by decide))).trans ?_
  refine (if_neg (nc hc (show ¬ nI 20 = 9 by decide))).trans ?_
  refine (if_neg (nc hc (show ¬ nI 20 = 10 by decide))).trans ?_
  refine (if_neg (nc hc (show ¬ nI 20 = 11 by decide))).trans ?_
  refine (if_neg (nc hc (show ¬ nI 20 = 12 by decide))).trans ?_
  refine (if_neg (nc hc (show ¬ nI 20 = 13 by decide))).trans ?_
  refine (if_neg (nc hc (show ¬ nI 20 = 14 by decide))).trans ?_
  refine (if_neg (nc hc (show ¬ nI 20 = 15 by decide))).trans ?_
  refine (if_neg (nc hc (show ¬ nI 20 = 16 by decide))).trans ?_
  refine (if_neg (nc hc (show ¬ nI 20 = 17 by decide))).trans ?_
  refine (if_neg (nc hc (show ¬ nI 20 = 18 by decide))).trans ?_
  refine (if_neg (nc hc (show ¬ nI 20 = 19 by decide))).trans ?_
  refine (if_pos (pc_ hc (show nI 20 = 20 by decide))).trans ?_
  obtain ⟨t, b, po', bad', co', ro', ps', vi', vu', vp', vs', vc', vz', vo', vn', va', vq', vk', vd', out', g, p, q, c, s, e1, e2, e3, hw2⟩ := lw_alike h po bad co ro ps vi vu vp vs vc vz vo vn va vq vk vd hw god prm npr cov siz out (xs (nI (4 * i) + 1).toNatClampNeg) (xs (nI (4 * i) + 2).toNatClampNeg)
  rw [gx1 hi hL, gx2 hi hL, e1, Option.bind_some, gx1 hi hL, gx2 hi hL, e2, Option.bind_some]
  refine (law_tail (o := out') e3).trans ?_
  unfold fL_law_J1288 fL_law_J1414
  rw [nx4]
  exact hk _ _ _ _ _ _ _ _ _ _ _ _ _ _ _ _ _ _ _ _ _ _ _ _ _ _ _ _ _ _ _ _ _ _ _ _ _ _ _ _ _ _ _ _ _ _ _ _ _ _ _ _ _ _ _ _ _ _ ⟨n, K, k, Ln, rfl, rfl, rfl, rfl, rfl, rfl, h, hh, hLn, ht, hw2⟩
theorem law_c21 {xs : Nat → Int32} {L f i : Nat} (hi : 4 * i + 4 ≤ L) (hL : L ≤ 2048) (hk : HK xs L f i) (hc : xs (nI (4 * i)).toNatClampNeg &&& 31 = nI 21) (po si sr sa sh : Int32) (sz so : Nat → Int64) (sA sF : Nat → Int32) (hs : Int32) (xc : Nat → Int32) (xl : Int32) (bad : Nat → Int64) (co : Nat → Int32) (ro : Nat → Int64) (ps : Int32) (vi vu vp vs vc : Int32) (vz vo vn va : Nat → Int64) (vq vk vd : Nat → Int32) (wi wu wp ws wc : Int32) (wz wo wn wa : Nat → Int64) (wq wk wd : Nat → Int32) (out : Nat → Int64) (z : Nat → Int32) (nst : Int32) (his : Nat → Int32) (len : Int32) (txt : Nat → Int32) (thr : Int32) (god : Nat → Int64) (prm : Nat → Int32) (npr : Int32) (cov siz pts : Nat → Int32) (rea pla : Int32) (bef : Nat → Int32) (has : Int64) (hv : Nat → SV) (h : LV po si sr sa sh sz so sA sF hs xc xl vi vu vp vs vc vz vo vn va vq vk vd z nst his len txt hv) : fL_law_L23 xs L (f + 1) (nI (4 * i)) po si sr sa sh sz so sA sF hs xc xl bad co ro ps vi vu vp vs vc vz vo vn va vq vk vd wi wu wp ws wc wz wo wn wa wq wk wd out z nst his len txt thr god prm npr cov siz pts rea pla bef has hv = some () := by
  obtain ⟨n, K, k, Ln, rfl, rfl, rfl, rfl, rfl, rfl, h, hh, hLn, ht, hw⟩ := h
  rw [fL_law_L23, if_neg (law_go hi hL), gx0 hi hL]
  refine (if_neg (nc hc (show ¬ nI 21 = 0 by decide))).trans ?_
  refine (if_neg (nc hc (show ¬ nI 21 = 1 by decide))).trans ?_
  refine (if_neg (nc hc (show ¬ nI 21 = 2 by decide))).trans ?_
  refine (if_neg (nc hc (show ¬ nI 21 = 3 by decide))).trans ?_
  refine (if_neg (nc hc (show ¬ nI 21 = 4 by decide))).trans ?_
  refine (if_neg (nc hc (show ¬ nI 21 = 5 by decide))).trans ?_
  refine (if_neg (nc hc (show ¬ nI 21 = 6 by decide))).trans ?_
  refine (if_neg (nc hc (show ¬ nI 21 = 7 by decide))).trans ?_
  refine (if_neg (nc hc (show ¬ nI 21 = 8 by decide))).trans ?_
  refine (if_neg (nc hc (show ¬ nI 21 = 9 by decide))).trans ?_
  refine (if_neg (nc hc (show ¬ nI 21 = 10 by decide))).trans ?_
  refine (if_neg (nc hc (show ¬ nI 21 = 11 by decide))).trans ?_
  refine (if_neg (nc hc (show ¬ nI 21 = 12 by decide))).trans ?_
  refine (if_neg (nc hc (show ¬ nI 21 = 13 by decide))).trans ?_
  refine (if_neg (nc hc (show ¬ nI 21 = 14 by decide))).trans ?_
  refine (if_neg (nc hc (show ¬ nI 21 = 15 by decide))).trans ?_
  refine (if_neg (nc hc (show ¬ nI 21 = 16 by decide))).trans ?_
  refine (if_neg (nc hc (show ¬ nI 21 = 17 by decide))).trans ?_
  refine (if_neg (nc hc (show ¬ nI 21 = 18 by decide))).trans ?_
  refine (if_neg (nc hc (show ¬ nI 21 = 19 by decide))).trans ?_
  refine (if_neg (nc hc (show ¬ nI 21 = 20 by decide))).trans ?_
  refine (if_pos (pc_ hc (show nI 21 = 21 by decide))).trans ?_
  obtain ⟨t, b, po', bad', co', ro', ps', vi', vu', vp', vs', vc', vz', vo', vn', va', vq', vk', vd', out', e1, e2, e3, hw2⟩ := lw_nearest h po bad co ro ps vi vu vp vs vc vz vo vn va vq vk vd hw out (xs (nI (4 * i) + 1).toNatClampNeg) (xs (nI (4 * i) + 2).toNatClampNeg)
  rw [gx1 hi hL, gx2 hi hL, e1, Option.bind_some, gx1 hi hL, gx2 hi hL, e2, Option.bind_some]
  refine (law_tail (o := out') e3).trans ?_
  unfold fL_law_J1356 fL_law_J1414
  rw [nx4]
  exact hk _ _ _ _ _ _ _ _ _ _ _ _ _ _ _ _ _ _ _ _ _ _ _ _ _ _ _ _ _ _ _ _ _ _ _ _ _ _ _ _ _ _ _ _ _ _ _ _ _ _ _ _ _ _ _ _ _ _ ⟨n, K, k, Ln, rfl, rfl, rfl, rfl, rfl, rfl, h, hh, hLn, ht, hw2⟩
theorem law_c22 {xs : Nat → Int32} {L f i : Nat} (hi : 4 * i + 4 ≤ L) (hL : L ≤ 2048) (hk : HK xs L f i) (hc : xs (nI (4 * i)).toNatClampNeg &&& 31 = nI 22) (po si sr sa sh : Int32) (sz so : Nat → Int64) (sA sF : Nat → Int32) (hs : Int32) (xc : Nat → Int32) (xl : Int32) (bad : Nat → Int64) (co : Nat → Int32) (ro : Nat → Int64) (ps : Int32) (vi vu vp vs vc : Int32) (vz vo vn va : Nat → Int64) (vq vk vd : Nat → Int32) (wi wu wp ws wc : Int32) (wz wo wn wa : Nat → Int64) (wq wk wd : Nat → Int32) (out : Nat → Int64) (z : Nat → Int32) (nst : Int32) (his : Nat → Int32) (len : Int32) (txt : Nat → Int32) (thr : Int32) (god : Nat → Int64) (prm : Nat → Int32) (npr : Int32) (cov siz pts : Nat → Int32) (rea pla : Int32) (bef : Nat → Int32) (has : Int64) (hv : Nat → SV) (h : LV po si sr sa sh sz so sA sF hs xc xl vi vu vp vs vc vz vo vn va vq vk vd z nst his len txt hv) : fL_law_L23 xs L (f + 1) (nI (4 * i)) po si sr sa sh sz so sA sF hs xc xl bad co ro ps vi vu vp vs vc vz vo vn va vq vk vd wi wu wp ws wc wz wo wn wa wq wk wd out z nst his len txt thr god prm npr cov siz pts rea pla bef has hv = some () := by
  obtain ⟨n, K, k, Ln, rfl, rfl, rfl, rfl, rfl, rfl, h, hh, hLn, ht, hw⟩ := h
  rw [fL_law_L23, if_neg (law_go hi hL), gx0 hi hL]
  refine (if_neg (nc hc (show ¬ nI 22 = 0 by decide))).trans ?_
  refine (if_neg (nc hc (show ¬ nI 22 = 1 by decide))).trans ?_
  refine (if_neg (nc hc (show ¬ nI 22 = 2 by decide))).trans ?_
  refine (if_neg (nc hc (show ¬ nI 22 = 3 by decide))).trans ?_
  refine (if_neg (nc hc (show ¬ nI 22 = 4 by decide))).trans ?_
  refine (if_neg (nc hc (show ¬ nI 22 = 5 by decide))).trans ?_
  refine (if_neg (nc hc (show ¬ nI 22 = 6 by decide))).trans ?_
  refine (if_neg (nc hc (show ¬ nI 22 = 7 by decide))).trans ?_
  refine (if_neg (nc hc (show ¬ nI 22 = 8 by decide))).trans ?_
  refine (if_neg (nc hc (show ¬ nI 22 = 9 by decide))).trans ?_
  refine (if_neg (nc hc (show ¬ nI 22 = 10 by decide))).trans ?_
  refine (if_neg (nc hc (show ¬ nI 22 = 11 by decide))).trans ?_
  refine (if_neg (nc hc (show ¬ nI 22 = 12 by decide))).trans ?_
  refine (if_neg (nc hc (show ¬ nI 22 = 13 by decide))).trans ?_
  refine (if_neg (nc hc (show ¬ nI 22 = 14 by decide))).trans ?_
  refine (if_neg (nc hc (show ¬ nI 22 = 15 by decide))).trans ?_
  refine (if_neg (nc hc (show ¬ nI 22 = 16 by decide))).trans ?_
  refine (if_neg (nc hc (show ¬ nI 22 = 17 by decide))).trans ?_
  refine (if_neg (nc hc (show ¬ nI 22 = 18 by decide))).trans ?_
  refine (if_neg (nc hc (show ¬ nI 22 = 19 by decide))).trans ?_
  refine (if_neg (nc hc (show ¬ nI 22 = 20 by decide))).trans ?_
  refine (if_neg (nc hc (show ¬ nI 22 = 21 by decide))).trans ?_
  refine (if_pos (pc_ hc (show nI 22 = 22 by decide))).trans ?_
  obtain ⟨d, bad', co', ro', ps', vi', vu', vp', vs', vc', vz', vo', vn', va', vq', vk', vd', e1, e2, e3, hw2⟩ := lw_share h po bad co ro ps vi vu vp vs vc vz vo vn va vq vk vd hw
  rw [e1, Option.bind_some, e2, Option.bind_some, if_pos e3]
  unfold fL_law_J1397 fL_law_J1414
  rw [nx4]
  exact hk _ _ _ _ _ _ _ _ _ _ _ _ _ _ _ _ _ _ _ _ _ _ _ _ _ _ _ _ _ _ _ _ _ _ _ _ _ _ _ _ _ _ _ _ _ _ _ _ _ _ _ _ _ _ _ _ _ _ ⟨n, K, k, Ln, rfl, rfl, rfl, rfl, rfl, rfl, h, hh, hLn, ht, (fun _ => hw2)⟩
theorem law_c23 {xs : Nat → Int32} {L f i : Nat} (hi : 4 * i + 4 ≤ L) (hL : L ≤ 2048) (hk : HK xs L f i) (hc : xs (nI (4 * i)).toNatClampNeg &&& 31 = nI 23) (po si sr sa sh : Int32) (sz so : Nat → Int64) (sA sF : Nat → Int32) (hs : Int32) (xc : Nat → Int32) (xl : Int32) (bad : Nat → Int64) (co : Nat → Int32) (ro : Nat → Int64) (ps : Int32) (vi vu vp vs vc : Int32) (vz vo vn va : Nat → Int64) (vq vk vd : Nat → Int32) (wi wu wp ws wc : Int32) (wz wo wn wa : Nat → Int64) (wq wk wd : Nat → Int32) (out : Nat → Int64) (z : Nat → Int32) (nst : Int32) (his : Nat → Int32) (len : Int32) (txt : Nat → Int32) (thr : Int32) (god : Nat → Int64) (prm : Nat → Int32) (npr : Int32) (cov siz pts : Nat → Int32) (rea pla : Int32) (bef : Nat → Int32) (has : Int64) (hv : Nat → SV) (h : LV po si sr sa sh sz so sA sF hs xc xl vi vu vp vs vc vz vo vn va vq vk vd z nst his len txt hv) : fL_law_L23 xs L (f + 1) (nI (4 * i)) po si sr sa sh sz so sA sF hs xc xl bad co ro ps vi vu vp vs vc vz vo vn va vq vk vd wi wu wp ws wc wz wo wn wa wq wk wd out z nst his len txt thr god prm npr cov siz pts rea pla bef has hv = some () := by
  obtain ⟨n, K, k, Ln, rfl, rfl, rfl, rfl, rfl, rfl, h, hh, hLn, ht, hw⟩ := h
  rw [fL_law_L23, if_neg (law_go hi hL), gx0 hi hL]
  refine (if_neg (nc hc (show ¬ nI 23 = 0 by decide))).trans ?_
  refine (if_neg (nc hc (show ¬ nI 23 = 1 by decide))).trans ?_
  refine (if_neg (nc hc (show ¬ nI 23 = 2 by decide))).trans ?_
  refine (if_neg (nc hc (show ¬ nI 23 = 3 by decide))).trans ?_
  refine (if_neg (nc hc (show ¬ nI 23 = 4 by decide))).trans ?_
  refine (if_neg (nc hc (show ¬ nI 23 = 5 by decide))).trans ?_
  refine (if_neg (nc hc (show ¬ nI 23 = 6 by decide))).trans ?_
  refine (if_neg (nc hc (show ¬ nI 23 = 7 by decide))).trans ?_
  refine (if_neg (nc hc (show ¬ nI 23 = 8 by decide))).trans ?_
  refine (if_neg (nc hc (show ¬ nI 23 = 9 by decide))).trans ?_
  refine (if_neg (nc hc (show ¬ nI 23 = 10 by decide))).trans ?_
  refine (if_neg (nc hc (show ¬ nI 23 = 11 by decide))).trans ?_
  refine (if_neg (nc hc (show ¬ nI 23 = 12 by decide))).trans ?_
  refine (if_neg (nc hc (show ¬ nI 23 = 13 by decide))).trans ?_
  refine (if_neg (nc hc (show ¬ nI 23 = 14 by decide))).trans ?_
  refine (if_neg (nc hc (show ¬ nI 23 = 15 by decide))).trans ?_
  refine (if_neg (nc hc (show ¬ nI 23 = 16 by decide))).trans ?_
  refine (if_neg (nc hc (show ¬ nI 23 = 17 by decide))).trans ?_
  refine (if_neg (nc hc (show ¬ nI 23 = 18 by decide))).trans ?_
  refine (if_neg (nc hc (show ¬ nI 23 = 19 by decide))).trans ?_
  refine (if_neg (nc hc (show ¬ nI 23 = 20 by decide))).trans ?_
  refine (if_neg (nc hc (show ¬ nI 23 = 21 by decide))).trans ?_
  refine (if_neg (nc hc (show ¬ nI 23 = 22 by decide))).trans ?_
  refine (if_pos (pc_ hc (show nI 23 = 23 by decide))).trans ?_
  obtain ⟨d, bad', co', ro', ps', vi', vu', vp', vs', vc', vz', vo', vn', va', vq', vk', vd', wi', wu', wp', ws', wc', wz', wo', wn', wa', wq', wk', wd', g, p, q, c, s, e1, e2, hw2⟩ := lw_digest h (nI k) hLn ht po bad co ro ps vi vu vp vs vc vz vo vn va vq vk vd hw wi wu wp ws wc wz wo wn wa wq wk wd god prm npr cov siz
  rw [e1, Option.bind_some, e2, Option.bind_some, if_pos (lgE d)]
  unfold fL_law_J1414
  rw [nx4]
  exact hk _ _ _ _ _ _ _ _ _ _ _ _ _ _ _ _ _ _ _ _ _ _ _ _ _ _ _ _ _ _ _ _ _ _ _ _ _ _ _ _ _ _ _ _ _ _ _ _ _ _ _ _ _ _ _ _ _ _ ⟨n, K, k, Ln, rfl, rfl, rfl, rfl, rfl, rfl, h, hh, hLn, ht, (fun _ => hw2)⟩
theorem law_cx {xs : Nat → Int32} {L f i j : Nat} (hi : 4 * i + 4 ≤ L) (hL : L ≤ 2048) (hk : HK xs L f i) (hj : 24 ≤ j) (hj2 : j < 32) (hc : xs (nI (4 * i)).toNatClampNeg &&& 31 = nI j) (po si sr sa sh : Int32) (sz so : Nat → Int64) (sA sF : Nat → Int32) (hs : Int32) (xc : Nat → Int32) (xl : Int32) (bad : Nat → Int64) (co : Nat → Int32) (ro : Nat → Int64) (ps : Int32) (vi vu vp vs vc : Int32) (vz vo vn va : Nat → Int64) (vq vk vd : Nat → Int32) (wi wu wp ws wc : Int32) (wz wo wn wa : Nat → Int64) (wq wk wd : Nat → Int32) (out : Nat → Int64) (z : Nat → Int32) (nst : Int32) (his : Nat → Int32) (len : Int32) (txt : Nat → Int32) (thr : Int32) (god : Nat → Int64) (prm : Nat → Int32) (npr : Int32) (cov siz pts : Nat → Int32) (rea pla : Int32) (bef : Nat → Int32) (has : Int64) (hv : Nat → SV) (h : LV po si sr sa sh sz so sA sF hs xc xl vi vu vp vs vc vz vo vn va vq vk vd z nst his len txt hv) : fL_law_L23 xs L (f + 1) (nI (4 * i)) po si sr sa sh sz so sA sF hs xc xl bad co ro ps vi vu vp vs vc vz vo vn va vq vk vd wi wu wp ws wc wz wo wn wa wq wk wd out z nst his len txt thr god prm npr cov siz pts rea pla bef has hv = some () := by
  have hne : ∀ u, u < 24 → ¬ nI j = nI u := fun u hu w => by have := (nI_eq (by omega) (by omega)).mp w; omega
  rw [fL_law_L23, if_neg (law_go hi hL), gx0 hi hL]
  refine (if_neg (nc hc (show ¬ nI j = 0 from hne 0 (by decide)))).trans ?_
  refine (if_neg (nc hc (show ¬ nI j = 1 from hne 1 (by decide)))).trans ?_
  refine (if_neg (nc hc (show ¬ nI j = 2 from hne 2 (by decide)))).trans ?_
  refine (if_neg (nc hc (show ¬ nI j = 3 from hne 3 (by decide)))).trans ?_
  refine (if_neg (nc hc (show ¬ nI j = 4 from hne 4 (by decide)))).trans ?_
  refine (if_neg (nc hc (show ¬ nI j = 5 from hne 5 (by decide)))).trans ?_
  refine (if_neg (nc hc (show ¬ nI j = 6 from hne 6 (by decide)))).trans ?_
  refine (if_neg (nc hc (show ¬ nI j = 7 from hne 7 (by decide)))).trans ?_
  refine (if_neg (nc hc (show ¬ nI j = 8 from hne 8 (by decide)))).trans ?_
  refine (if_neg (nc hc (show ¬ nI j = 9 from hne 9 (by decide)))).trans ?_
  refine (if_neg (nc hc (show ¬ nI j = 10 from hne 10 (by decide)))).trans ?_
  refine (if_neg (nc hc (show ¬ nI j = 11 from hne 11 (by decide)))).trans ?_
  refine (if_neg (nc hc (show ¬ nI j = 12 from hne 12 (by decide)))).trans ?_
  refine (if_neg (nc hc (show ¬ nI j = 13 from hne 13 (by decide)))).trans ?_
  refine (if_neg (nc hc (show ¬ nI j = 14 from hne 14 (by decide)))).trans ?_
  refine (if_neg (nc hc (show ¬ nI j = 15 from hne 15 (by decide)))).trans ?_
  refine (if_neg (nc hc (show ¬ nI j = 16 from hne 16 (by decide)))).trans ?_
  refine (if_neg (nc hc (show ¬ nI j = 17 from hne 17 (by decide)))).trans ?_
  refine (if_neg (nc hc (show ¬ nI j = 18 from hne 18 (by decide)))).trans ?_
  refine (if_neg (nc hc (show ¬ nI j = 19 from hne 19 (by decide)))).trans ?_
  refine (if_neg (nc hc (show ¬ nI j = 20 from hne 20 (by decide)))).trans ?_
  refine (if_neg (nc hc (show ¬ nI j = 21 from hne 21 (by decide)))).trans ?_
  refine (if_neg (nc hc (show ¬ nI j = 22 from hne 22 (by decide)))).trans ?_
  refine (if_neg (nc hc (show ¬ nI j = 23 from hne 23 (by decide)))).trans ?_
  unfold fL_law_J1414
  rw [nx4]
  exact hk _ _ _ _ _ _ _ _ _ _ _ _ _ _ _ _ _ _ _ _ _ _ _ _ _ _ _ _ _ _ _ _ _ _ _ _ _ _ _ _ _ _ _ _ _ _ _ _ _ _ _ _ _ _ _ _ _ _ h
theorem law_loop (xs : Nat → Int32) {L : Nat} (hL : L ≤ 2048) : ∀ d i, L < 4 * (i + d) + 4 → i + d ≤ 600 → ∀ fuel, d < fuel → ∀ (po si sr sa sh : Int32) (sz so : Nat → Int64) (sA sF : Nat → Int32) (hs : Int32) (xc : Nat → Int32) (xl : Int32) (bad : Nat → Int64) (co : Nat → Int32) (ro : Nat → Int64) (ps : Int32) (vi vu vp vs vc : Int32) (vz vo vn va : Nat → Int64) (vq vk vd : Nat → Int32) (wi wu wp ws wc : Int32) (wz wo wn wa : Nat → Int64) (wq wk wd : Nat → Int32) (out : Nat → Int64) (z : Nat → Int32) (nst : Int32) (his : Nat → Int32) (len : Int32) (txt : Nat → Int32) (thr : Int32) (god : Nat → Int64) (prm : Nat → Int32) (npr : Int32) (cov siz pts : Nat → Int32) (rea pla : Int32) (bef : Nat → Int32) (has : Int64) (hv : Nat → SV), LV po si sr sa sh sz so sA sF hs xc xl vi vu vp vs vc vz vo vn va vq vk vd z nst his len txt hv → fL_law_L23 xs L fuel (nI (4 * i)) po si sr sa sh sz so sA sF hs xc xl bad co ro ps vi vu vp vs vc vz vo vn va vq vk vd wi wu wp ws wc wz wo wn wa wq wk wd out z nst his len txt thr god prm npr cov siz pts rea pla bef has hv = some () := by
  intro d
  induction d with
  | zero =>
    intro i hi hb fuel hf
    intros
    obtain ⟨f, rfl⟩ : ∃ f, fuel = f + 1 := ⟨fuel - 1, by omega⟩
    rw [fL_law_L23, if_pos (law_end (i := i) (by omega) hL hb)]
  | succ d ih =>
    intro i hi hb0 fuel hf
    have hb : i ≤ 600 := by omega
    obtain ⟨f, rfl⟩ : ∃ f, fuel = f + 1 := ⟨fuel - 1, by omega⟩
    intro po si sr sa sh sz so sA sF hs xc xl bad co ro ps vi vu vp vs vc vz vo vn va vq vk vd wi wu wp ws wc wz wo wn wa wq wk wd out z nst his len txt thr god prm npr cov siz pts rea pla bef has hv h
    rcases Nat.lt_or_ge L (4 * i + 4) with z1 | z1
    · rw [fL_law_L23, if_pos (law_end z1 hL hb)]
    · have hk : HK xs L f i := ih (i + 1) (by omega) (by omega) f (by omega)
      obtain ⟨j, hj, hc⟩ := pk_andE (xs (nI (4 * i)).toNatClampNeg) (m := 31) 5 (by decide)
      have hj : j < 32 := hj
      rcases (show j = 0 ∨ j = 1 ∨ j = 2 ∨ j = 3 ∨ j = 4 ∨ j = 5 ∨ j = 6 ∨ j = 7 ∨ j = 8 ∨ j = 9 ∨ j = 10 ∨ j = 11 ∨ j = 12 ∨ j = 13 ∨ j = 14 ∨ j = 15 ∨ j = 16 ∨ j = 17 ∨ j = 18 ∨ j = 19 ∨ j = 20 ∨ j = 21 ∨ j = 22 ∨ j = 23 ∨ 24 ≤ j by omega) with rfl | rfl | rfl | rfl | rfl | rfl | rfl | rfl | rfl | rfl | rfl | rfl | rfl | rfl | rfl | rfl | rfl | rfl | rfl | rfl | rfl | rfl | rfl | rfl | h24
      · exact law_c0 z1 hL hk hc _ _ _ _ _ _ _ _ _ _ _ _ _ _ _ _ _ _ _ _ _ _ _ _ _ _ _ _ _ _ _ _ _ _ _ _ _ _ _ _ _ _ _ _ _ _ _ _ _ _ _ _ _ _ _ _ _ _ h
      · exact law_c1 z1 hL hk hc _ _ _ _ _ _ _ _ _ _ _ _ _ _ _ _ _ _ _ _ _ _ _ _ _ _ _ _ _ _ _ _ _ _ _ _ _ _ _ _ _ _ _ _ _ _ _ _ _ _ _ _ _ _ _ _ _ _ h
      · exact law_c2 z1 hL hk hc _ _ _ _ _ _ _ _ _ _ _ _ _ _ _ _ _ _ _ _ _ _ _ _ _ _ _ _ _ _ _ _ _ _ _ _ _ _ _ _ _ _ _ _ _ _ _ _ _ _ _ _ _ _ _ _ _ _ h
      · exact law_c3 z1 hL hk hc _ _ _ _ _ _ _ _ _ _ _ _ _ _ _ _ _ _ _ _ _ _ _ _ _ _ _ _ _ _ _ _ _ _ _ _ _ _ _ _ _ _ _ _ _ _ _ _ _ _ _ _ _ _ _ _ _ _ h
      · exact law_c4 z1 hL hk hc _ _ _ _ _ _ _ _ _ _ _ _ _ _ _ _ _ _ _ _ _ _ _ _ _ _ _ _ _ _ _ _ _ _ _ _ _ _ _ _ _ _ _ _ _ _ _ _ _ _ _ _ _ _ _ _ _ _ h
      · exact law_c5 z1 hL hk hc _ _ _ _ _ _ _ _ _ _ _ _ _ _ _ _ _ _ _ _ _ _ _ _ _ _ _ _ _ _ _ _ _ _ _ _ _ _ _ _ _ _ _ _ _ _ _ _ _ _ _ _ _ _ _ _ _ _ h
      · exact law_c6 z1 hL hk hc _ _ _ _ _ _ _ _ _ _ _ _ _ _ _ _ _ _ _ _ _ _ _ _ _ _ _ _ _ _ _ _ _ _ _ _ _ _ _ _ _ _ _ _ _ _ _ _ _ _ _ _ _ _ _ _ _ _ h
      · exact law_c7 z1 hL hk hc _ _ _ _ _ _ _ _ _ _ _ _ _ _ _ _ _ _ _ _ _ _ _ _ _ _ _ _ _ _ _ _ _ _ _ _ _ _ _ _ _ _ _ _ _ _ _ _ _ _ _ _ _ _ _ _ _ _ h
      · exact law_c8 z1 hL hk hc _ _ _ _ _ _ _ _ _ _ _ _ _ _ _ _ _ _ _ _ _ _ _ _ _ _ _ _ _ _ _ _ _ _ _ _ _ _ _ _ _ _ _ _ _ _ _ _ _ _ _ _ _ _ _ _ _ _ h
      · exact law_c9 z1 hL hk hc _ _ _ _ _ _ _ _ _ _ _ _ _ _ _ _ _ _ _ _ _ _ _ _ _ _ _ _ _ _ _ _ _ _ _ _ _ _ _ _ _ _ _ _ _ _ _ _ _ _ _ _ _ _ _ _ _ _ h
      · exact law_c10 z1 hL hk hc _ _ _ _ _ _ _ _ _ _ _ _ _ _ _ _ _ _ _ _ _ _ _ _ _ _ _ _ _ _ _ _ _ _ _ _ _ _ _ _ _ _ _ _ _ _ _ _ _ _ _ _ _ _ _ _ _ _ h
      · exact law_c11 z1 hL hk hc _ _ _ _ _ _ _ _ _ _ _ _ _ _ _ _ _ _ _ _ _ _ _ _ _ _ _ _ _ _ _ _ _ _ _ _ _ _ _ _ _ _ _ _ _ _ _ _ _ _ _ _ _ _ _ _ _ _ h
      · exact law_c12 z1 hL hk hc _ _ _ _ _ _ _ _ _ _ _ _ _ _ _ _ _ _ _ _ _ _ _ _ _ _ _ _ _ _ _ _ _ _ _ _ _ _ _ _ _ _ _ _ _ _ _ _ _ _ _ _ _ _ _ _ _ _ h
      · exact law_c13 z1 hL hk hc _ _ _ _ _ _ _ _ _ _ _ _ _ _ _ _ _ _ _ _ _ _ _ _ _ _ _ _ _ _ _ _ _ _ _ _ _ _ _ _ _ _ _ _ _ _ _ _ _ _ _ _ _ _ _ _ _ _ h
      · exact law_c14 z1 hL hk hc _ _ _ _ _ _ _ _ _ _ _ _ _ _ _ _ _ _ _ _ _ _ _ _ _ _ _ _ _ _ _ _ _ _ _ _ _ _ _ _ _ _ _ _ _ _ _ _ _ _ _ _ _ _ _ _ _ _ h
      · exact law_c15 z1 hL hk hc _ _ _ _ _ _ _ _ _ _ _ _ _ _ _ _ _ _ _ _ _ _ _ _ _ _ _ _ _ _ _ _ _ _ _ _ _ _ _ _ _ _ _ _ _ _ _ _ _ _ _ _ _ _ _ _ _ _ h
      · exact law_c16 z1 hL hk hc _ _ _ _ _ _ _ _ _ _ _ _ _ _ _ _ _ _ _ _ _ _ _ _ _ _ _ _ _ _ _ _ _ _ _ _ _ _ _ _ _ _ _ _ _ _ _ _ _ _ _ _ _ _ _ _ _ _ h
      · exact law_c17 z1 hL hk hc _ _ _ _ _ _ _ _ _ _ _ _ _ _ _ _ _ _ _ _ _ _ _ _ _ _ _ _ _ _ _ _ _ _ _ _ _ _ _ _ _ _ _ _ _ _ _ _ _ _ _ _ _ _ _ _ _ _ h
      · exact law_c18 z1 hL hk hc _ _ _ _ _ _ _ _ _ _ _ _ _ _ _ _ _ _ _ _ _ _ _ _ _ _ _ _ _ _ _ _ _ _ _ _ _ _ _ _ _ _ _ _ _ _ _ _ _ _ _ _ _ _ _ _ _ _ h
      · exact law_c19 z1 hL hk hc _ _ _ _ _ _ _ _ _ _ _ _ _ _ _ _ _ _ _ _ _ _ _ _ _ _ _ _ _ _ _ _ _ _ _ _ _ _ _ _ _ _ _ _ _ _ _ _ _ _ _ _ _ _ _ _ _ _ h
      · exact law_c20 z1 hL hk hc _ _ _ _ _ _ _ _ _ _ _ _ _ _ _ _ _ _ _ _ _ _ _ _ _ _ _ _ _ _ _ _ _ _ _ _ _ _ _ _ _ _ _ _ _ _ _ _ _ _ _ _ _ _ _ _ _ _ h
      · exact law_c21 z1 hL hk hc _ _ _ _ _ _ _ _ _ _ _ _ _ _ _ _ _ _ _ _ _ _ _ _ _ _ _ _ _ _ _ _ _ _ _ _ _ _ _ _ _ _ _ _ _ _ _ _ _ _ _ _ _ _ _ _ _ _ h
      · exact law_c22 z1 hL hk hc _ _ _ _ _ _ _ _ _ _ _ _ _ _ _ _ _ _ _ _ _ _ _ _ _ _ _ _ _ _ _ _ _ _ _ _ _ _ _ _ _ _ _ _ _ _ _ _ _ _ _ _ _ _ _ _ _ _ h
      · exact law_c23 z1 hL hk hc _ _ _ _ _ _ _ _ _ _ _ _ _ _ _ _ _ _ _ _ _ _ _ _ _ _ _ _ _ _ _ _ _ _ _ _ _ _ _ _ _ _ _ _ _ _ _ _ _ _ _ _ _ _ _ _ _ _ h
      · exact law_cx z1 hL hk h24 hj hc _ _ _ _ _ _ _ _ _ _ _ _ _ _ _ _ _ _ _ _ _ _ _ _ _ _ _ _ _ _ _ _ _ _ _ _ _ _ _ _ _ _ _ _ _ _ _ _ _ _ _ _ _ _ _ _ _ _ h
