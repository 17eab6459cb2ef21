/-! the digest: the class -/
def mxF (f : Nat → Int64) : Nat → Int64 → Int64
  | 0, h => h
  | i + 1, h => 31 * mxF f i h + f i
theorem mxF_s (f : Nat → Int64) (i : Nat) (h : Int64) : mxF f (i + 1) h = 31 * mxF f i h + f i := rfl
theorem mxF_congr {f g : Nat → Int64} {N : Nat} (h : ∀ i, i < N → f i = g i) (x : Int64) : mxF f N x = mxF g N x := by
  induction N with
  | zero => rfl
  | succ N ih => rw [mxF_s, mxF_s, ih (fun i hi => h i (by omega)), h N (by omega)]
theorem mx_c (a b : Int64) : fX6_mixed a b = some (31 * a + b) := rfl
theorem mx_r (a b : Int64) : fX7_mix a b = some (31 * a + b) := rfl
def dgM (n K : Nat) (Z O : Nat → Int64) (asks hours : Int32) (A F : Nat → Int32) (hs : Int32) (w : Nat) : Int64 := (mzV n K Z O asks hours A F hs w).toInt64
def dgR (n K : Nat) (Z O : Nat → Int64) (o k : Nat) : Int64 := (rnV n K Z O o (k / 3) (k % 3)).toInt64
def dgO (n K : Nat) (Z O : Nat → Int64) (A F : Nat → Int32) (o w : Nat) : Int64 := (onV n K Z O A F o w).toInt64
def dgP (n K : Nat) (Z O : Nat → Int64) (o k : Nat) : Int64 := (pdV n K Z O o (k / 4) (k % 4)).toInt64
def dgF (n K : Nat) (Z O : Nat → Int64) (k : Nat) : Int64 := (ftV n K Z O (k / 2) (k % 2)).toInt64
def dgE (n K : Nat) (Z O : Nat → Int64) (o : Nat) (h : Int64) : Int64 := 31 * (31 * (31 * h + (nI (ndF Z O o n)).toInt64) + (akV n K Z O o 0).toInt64) + (nrV n K Z O o 0).toInt64
def dgB (n K : Nat) (Z O : Nat → Int64) (A F : Nat → Int32) (o : Nat) (h : Int64) : Int64 := dgE n K Z O o (mxF (dgP n K Z O o) (4 * SZ n K Z O o) (mxF (dgO n K Z O A F o) 11 (mxF (dgR n K Z O o) (3 * 2 ^ n) h)))
def dgA (n K : Nat) (Z O : Nat → Int64) (A F : Nat → Int32) : Nat → Int64 → Int64
  | 0, h => h
  | o + 1, h => dgB n K Z O A F o (dgA n K Z O A F o h)
def dgT (txt : Nat → Int32) (i : Nat) : Int64 := (txt i).toInt64
def dgZ (n K : Nat) (Z O : Nat → Int64) (txt : Nat → Int32) (L : Nat) (h : Int64) : Int64 := mxF (dgT txt) L (31 * (31 * (31 * h + (nI (haF Z O (2 ^ n - 1))).toInt64) + (shV n K Z O).toInt64) + (nI L).toInt64)
def dgV (n K : Nat) (Z O : Nat → Int64) (asks hours : Int32) (A F : Nat → Int32) (hs : Int32) (txt : Nat → Int32) (L : Nat) : Int64 := dgZ n K Z O txt L (mxF (dgF n K Z O) (2 * n) (dgA n K Z O A F 4 (mxF (dgM n K Z O asks hours A F hs) 11 2423)))
theorem mr_cls {n K : Nat} {Z O : Nat → Int64} (hn : n ≤ 6) {vi vu vp vs vc : Int32} {vz vo vn va : Nat → Int64} {vq vk vd : Nat → Int32} (hv : VW n K Z O vi vu vp vs vc vz vo vn va vq vk vd) {o : Nat} (ho : o < 4) (h : Int64) : fX6_mixedRows (nI n) Z O vz vo vn va h (nI o) = some (mxF (dgR n K Z O o) (3 * 2 ^ n) h) := by
  have h64 := p64 hn
  obtain ⟨m, s, e, hI⟩ := loop0 (fun k i s => fX6_mixedRows_L15 (nI o) (nI (2 ^ n)) Z O vz vo vn va k s i) (fun i s => s = mxF (dgR n K Z O o) (3 * i) h) (2 ^ n) (s := h) (by omega) rfl (by
    intro m r s hr hI
    subst hI
    refine ⟨_, ?_, rfl⟩
    show fX6_mixedRows_L15 (nI o) (nI (2 ^ n)) Z O vz vo vn va (m + 1) _ (nI r) = _
    rw [fX6_mixedRows_L15, if_neg (nI_ge hr (by omega))]
    obtain ⟨m2, s2, e2, hI2⟩ := loop0 (fun k i s => fX6_mixedRows_L25 (nI o) (nI (2 ^ n)) (nI r) Z O vz vo vn va (fX6_mixedRows_L15 (nI o) (nI (2 ^ n)) Z O vz vo vn va m) k s i) (fun w s => s = mxF (dgR n K Z O o) (3 * r + w) h) 3 (s := mxF (dgR n K Z O o) (3 * r) h) (by decide) rfl (by
      intro m2 w s hw hI
      subst hI
      refine ⟨_, ?_, rfl⟩
      show fX6_mixedRows_L25 (nI o) (nI (2 ^ n)) (nI r) Z O vz vo vn va _ (m2 + 1) _ (nI w) = fX6_mixedRows_L25 (nI o) (nI (2 ^ n)) (nI r) Z O vz vo vn va _ m2 (31 * mxF (dgR n K Z O o) (3 * r + w) h + (rnV n K Z O o ((3 * r + w) / 3) ((3 * r + w) % 3)).toInt64) (nI (w + 1))
      rw [fX6_mixedRows_L25, if_neg (show ¬ (2 : Int32) < nI w from nI_nlt (a := 2) (by omega) (by decide)), rn_cls hv ho (by omega) hw, Option.bind_some, mx_c, Option.bind_some, nI_1, show (3 * r + w) / 3 = r by omega, show (3 * r + w) % 3 = w by omega])
    refine Eq.trans e2 ?_
    show fX6_mixedRows_L25 (nI o) (nI (2 ^ n)) (nI r) Z O vz vo vn va _ (m2 + 1) s2 (nI 3) = fX6_mixedRows_L15 (nI o) (nI (2 ^ n)) Z O vz vo vn va m (mxF (dgR n K Z O o) (3 * (r + 1)) h) (nI (r + 1))
    rw [fX6_mixedRows_L25, if_pos (by decide), hI2]
    unfold fX6_mixedRows_J56
    rw [nI_1, show 3 * (r + 1) = 3 * r + 3 by omega])
  unfold fX6_mixedRows fX3_rowCount
  rw [Option.bind_some, sh_n hn]
  refine Eq.trans e ?_
  show fX6_mixedRows_L15 (nI o) (nI (2 ^ n)) Z O vz vo vn va (m + 1) s (nI (2 ^ n)) = _
  rw [fX6_mixedRows_L15, if_pos (nI_le (Nat.le_refl _) (by omega)), hI]
theorem mo_cls {n K : Nat} {Z O : Nat → Int64} (hk : OKs n K Z O) {vi vu vp vs vc : Int32} {vz vo vn va : Nat → Int64} {vq vk vd : Nat → Int32} (hv : VW n K Z O vi vu vp vs vc vz vo vn va vq vk vd) (A F : Nat → Int32) {o : Nat} (ho : o < 4) (h : Int64) : fX6_mixedOutput (nI n) Z O A F vi vz vo vn va vq vk vd h (nI o) = some (dgE n K Z O o (mxF (dgP n K Z O o) (4 * SZ n K Z O o) (mxF (dgO n K Z O A F o) 11 h))) := by
  have h64 := SZ_le n K Z O o
  have hc : C1 n K Z O vd vk o := hv.2.2.2.2.2.1 o ho
  have hp := Nat.two_pow_pos n
  have hun : vn o = UN n K Z O o := (hv.2.2.2.2.2.2 o ho).2.2.1
  obtain ⟨m, s, e, hI⟩ := loop0 (fun k i s => fX6_mixedOutput_L6 (nI o) (nI n) Z O A F vi vz vo vn va vq vk vd k s i) (fun i s => s = mxF (dgO n K Z O A F o) i h) 11 (s := h) (by decide) rfl (by
    intro m w s hw hI
    subst hI
    refine ⟨_, ?_, rfl⟩
    show fX6_mixedOutput_L6 (nI o) (nI n) Z O A F vi vz vo vn va vq vk vd (m + 1) _ (nI w) = fX6_mixedOutput_L6 (nI o) (nI n) Z O A F vi vz vo vn va vq vk vd m (31 * mxF (dgO n K Z O A F o) w h + (onV n K Z O A F o w).toInt64) (nI (w + 1))
    rw [fX6_mixedOutput_L6, if_neg (show ¬ (10 : Int32) < nI w from nI_nlt (a := 10) (by omega) (by decide)), on_num hk hv A F ho hw, Option.bind_some, mx_c, Option.bind_some, nI_1])
  unfold fX6_mixedOutput
  refine Eq.trans e ?_
  show fX6_mixedOutput_L6 (nI o) (nI n) Z O A F vi vz vo vn va vq vk vd (m + 1) s (nI 11) = _
  rw [fX6_mixedOutput_L6, if_pos (by decide), hI]
  unfold fX6_mixedOutput_J36
  rw [so_cls ho, Option.bind_some, hc.1]
  generalize mxF (dgO n K Z O A F o) 11 h = h2
  obtain ⟨m, s, e, hI⟩ := loop0 (fun k i s => fX6_mixedOutput_L47 (nI o) (nI (SZ n K Z O o)) (nI n) Z O vi vn va vk vd k s i) (fun i s => s = mxF (dgP n K Z O o) (4 * i) h2) (SZ n K Z O o) (s := h2) (by omega) rfl (by
    intro m r s hr hI
    subst hI
    refine ⟨_, ?_, rfl⟩
    show fX6_mixedOutput_L47 (nI o) (nI (SZ n K Z O o)) (nI n) Z O vi vn va vk vd (m + 1) _ (nI r) = _
    rw [fX6_mixedOutput_L47, if_neg (nI_ge hr (by omega))]
    obtain ⟨m2, s2, e2, hI2⟩ := loop0 (fun k i s => fX6_mixedOutput_L57 (nI o) (nI (SZ n K Z O o)) (nI r) (nI n) Z O vi vn va vk vd (fX6_mixedOutput_L47 (nI o) (nI (SZ n K Z O o)) (nI n) Z O vi vn va vk vd m) k s i) (fun w s => s = mxF (dgP n K Z O o) (4 * r + w) h2) 4 (s := mxF (dgP n K Z O o) (4 * r) h2) (by decide) rfl (by
      intro m2 w s hw hI
      subst hI
      refine ⟨_, ?_, rfl⟩
      show fX6_mixedOutput_L57 (nI o) (nI (SZ n K Z O o)) (nI r) (nI n) Z O vi vn va vk vd _ (m2 + 1) _ (nI w) = fX6_mixedOutput_L57 (nI o) (nI (SZ n K Z O o)) (nI r) (nI n) Z O vi vn va vk vd _ m2 (31 * mxF (dgP n K Z O o) (4 * r + w) h2 + (pdV n K Z O o ((4 * r + w) / 4) ((4 * r + w) % 4)).toInt64) (nI (w + 1))
      rw [fX6_mixedOutput_L57, if_neg (show ¬ (3 : Int32) < nI w from nI_nlt (a := 3) (by omega) (by decide)), pd_cls hk hv ho (by omega) hw, Option.bind_some, mx_c, Option.bind_some, nI_1, show (4 * r + w) / 4 = r by omega, show (4 * r + w) % 4 = w by omega])
    refine Eq.trans e2 ?_
    show fX6_mixedOutput_L57 (nI o) (nI (SZ n K Z O o)) (nI r) (nI n) Z O vi vn va vk vd _ (m2 + 1) s2 (nI 4) = fX6_mixedOutput_L47 (nI o) (nI (SZ n K Z O o)) (nI n) Z O vi vn va vk vd m (mxF (dgP n K Z O o) (4 * (r + 1)) h2) (nI (r + 1))
    rw [fX6_mixedOutput_L57, if_pos (by decide), hI2]
    unfold fX6_mixedOutput_J87
    rw [nI_1, show 4 * (r + 1) = 4 * r + 4 by omega])
  refine Eq.trans e ?_
  show fX6_mixedOutput_L47 (nI o) (nI (SZ n K Z O o)) (nI n) Z O vi vn va vk vd (m + 1) s (nI (SZ n K Z O o)) = _
  rw [fX6_mixedOutput_L47, if_pos (nI_le (Nat.le_refl _) (by omega)), hI]
  unfold fX6_mixedOutput_J93
  have ek := ak_cls hk hv ho (show 0 < 4 by decide)
  have er := nr_cls (K := K) (Z := Z) (O := O) (r := 0) vn ho (by decide) hun
  rw [nI_0] at ek er
  rw [ne_cls hk ho, Option.bind_some, mx_c, Option.bind_some, ek, Option.bind_some, mx_c, Option.bind_some, er, Option.bind_some, mx_c]
  rfl
theorem mt_cls (txt : Nat → Int32) {L : Nat} (hL : L ≤ 60) (h : Int64) : fX4_mixedInto txt (nI L) h = some (mxF (dgT txt) L (31 * h + (nI L).toInt64)) := by
  unfold fX4_mixedInto
  rw [mx_c, Option.bind_some]
  obtain ⟨m, s, e, hI⟩ := loop0 (fun k i s => fX4_mixedInto_L13 txt (nI L) k s i) (fun i s => s = mxF (dgT txt) i (31 * h + (nI L).toInt64)) L (s := 31 * h + (nI L).toInt64) (by omega) rfl (by
    intro m i s hi hI
    subst hI
    refine ⟨_, ?_, rfl⟩
    show fX4_mixedInto_L13 txt (nI L) (m + 1) _ (nI i) = fX4_mixedInto_L13 txt (nI L) m (31 * mxF (dgT txt) i (31 * h + (nI L).toInt64) + (txt i).toInt64) (nI (i + 1))
    rw [fX4_mixedInto_L13, if_neg (nI_ge hi (by omega)), if_neg (show ¬ (60 : Int32) ≤ nI i from nI_ge (b := 60) (by omega) (by decide)), gd_in (show i < 60 by omega) (by decide), nI_clamp (by omega), mx_c, Option.bind_some, nI_1])
  refine Eq.trans e ?_
  show fX4_mixedInto_L13 txt (nI L) (m + 1) s (nI L) = _
  rw [fX4_mixedInto_L13, if_pos (nI_le (Nat.le_refl _) (by omega)), hI]
theorem dg_in {n K : Nat} {Z O : Nat → Int64} (hk : OKs n K Z O) (po : Int32) (txt : Nat → Int32) (L : Nat) (vi vu vp vs vc : Int32) (vz vo vn va : Nat → Int64) (vq vk vd : Nat → Int32) {i : Nat} (hi : i < n) (m : Nat) (h : Int64) (bad : Nat → Int64) (co : Nat → Int32) (ro : Nat → Int64) (si wi wu wp ws wc : Int32) (wz wo wn wa : Nat → Int64) (wq wk wd : Nat → Int32) : ∃ bad' co' ro' si' wi' wu' wp' ws' wc' wz' wo' wn' wa' wq' wk' wd', fX6_digest_L89 (nI i) po (nI n) (nI K) Z O txt (nI L) vi vu vp vs vc vz vo vn va vq vk vd (fX6_digest_L74 po (nI n) (nI K) Z O txt (nI L) vi vu vp vs vc vz vo vn va vq vk vd m) 5000 (mxF (dgF n K Z O) (2 * i) h) 0 bad co ro si wi wu wp ws wc wz wo wn wa wq wk wd = fX6_digest_L74 po (nI n) (nI K) Z O txt (nI L) vi vu vp vs vc vz vo vn va vq vk vd m (mxF (dgF n K Z O) (2 * (i + 1)) h) (nI (i + 1)) bad' co' ro' si' wi' wu' wp' ws' wc' wz' wo' wn' wa' wq' wk' wd' := by
  obtain ⟨b1, c1, r1, s1, x1, x2, x3, x4, x5, x6, x7, x8, x9, xa, xb, xc, e1⟩ := ft_cls hk bad co ro si wi wu wp ws wc wz wo wn wa wq wk wd (w := 0) hi (by decide)
  obtain ⟨b2, c2, r2, s2, y1, y2, y3, y4, y5, y6, y7, y8, y9, ya, yb, yc, e2⟩ := ft_cls hk b1 c1 r1 s1 x1 x2 x3 x4 x5 x6 x7 x8 x9 xa xb xc (w := 1) hi (by decide)
  refine ⟨b2, c2, r2, s2, y1, y2, y3, y4, y5, y6, y7, y8, y9, ya, yb, yc, ?_⟩
  rw [nI_0] at e1
  have e2' : fX6_forgottenNumber (nI n) (nI K) Z O b1 c1 r1 s1 x1 x2 x3 x4 x5 x6 x7 x8 x9 xa xb xc (nI i) (0 + 1) = some (ftV n K Z O i 1, b2, c2, r2, s2, y1, y2, y3, y4, y5, y6, y7, y8, y9, ya, yb, yc) := e2
  rw [show (5000 : Nat) = 4997 + 1 + 1 + 1 from rfl, fX6_digest_L89, if_neg (by decide), e1, Option.bind_some, mx_c, Option.bind_some, fX6_digest_L89, if_neg (by decide), e2', Option.bind_some, mx_c, Option.bind_some, fX6_digest_L89, if_pos (by decide)]
  unfold fX6_digest_J115
  rw [nI_1, show 2 * (i + 1) = (2 * i + 1) + 1 by omega, mxF_s, mxF_s]
  unfold dgF
  rw [show (2 * i + 1) / 2 = i by omega, show (2 * i + 1) % 2 = 1 by omega, show 2 * i / 2 = i by omega, show 2 * i % 2 = 0 by omega]
theorem dg_74 {n K : Nat} {Z O : Nat → Int64} (hk : OKs n K Z O) (po : Int32) (txt : Nat → Int32) {L : Nat} (hL : L ≤ 60) {vi vu vp vs vc : Int32} {vz vo vn va : Nat → Int64} {vq vk vd : Nat → Int32} (hv : VW n K Z O vi vu vp vs vc vz vo vn va vq vk vd) (h : Int64) : ∀ d i, i + d = n → ∀ fuel, d < fuel → ∀ (bad : Nat → Int64) (co : Nat → Int32) (ro : Nat → Int64) (si wi wu wp ws wc : Int32) (wz wo wn wa : Nat → Int64) (wq wk wd : Nat → Int32), ∃ bad' co' ro' si' wi' wu' wp' ws' wc' wz' wo' wn' wa' wq' wk' wd', fX6_digest_L74 po (nI n) (nI K) Z O txt (nI L) vi vu vp vs vc vz vo vn va vq vk vd fuel (mxF (dgF n K Z O) (2 * i) h) (nI i) bad co ro si wi wu wp ws wc wz wo wn wa wq wk wd = some (dgZ n K Z O txt L (mxF (dgF n K Z O) (2 * n) h), po, bad', co', ro', si', vi, vu, vp, vs, vc, vz, vo, vn, va, vq, vk, vd, wi', wu', wp', ws', wc', wz', wo', wn', wa', wq', wk', wd') := by
  have hn := hk.2.1
  intro d
  induction d with
  | zero =>
    intro i hi fuel hf bad co ro si wi wu wp ws wc wz wo wn wa wq wk wd
    obtain ⟨f, rfl⟩ : ∃ f, fuel = f + 1 := ⟨fuel - 1, by omega⟩
    have e : i = n := by omega
    subst e
    refine ⟨bad, co, ro, si, wi, wu, wp, ws, wc, wz, wo, wn, wa, wq, wk, wd, ?_⟩
    rw [fX6_digest_L74, if_pos (nI_le (Nat.le_refl _) (by omega))]
    unfold fX6_digest_J121
    have hg := shV_good i K Z O
    rw [ha_cls hn, Option.bind_some, mx_c, Option.bind_some, sh_cls Z O (K := K) (n := i) (fun o ho => (hv.2.2.2.2.2.2 o ho).2.2.1), Option.bind_some, hg.1, Option.bind_some, mx_c, Option.bind_some, mt_cls txt hL, Option.bind_some]
    rfl
  | succ d ih =>
    intro i hi fuel hf bad co ro si wi wu wp ws wc wz wo wn wa wq wk wd
    obtain ⟨f, rfl⟩ : ∃ f, fuel = f + 1 := ⟨fuel - 1, by omega⟩
    obtain ⟨bad', co', ro', si', wi', wu', wp', ws', wc', wz', wo', wn', wa', wq', wk', wd', e⟩ := dg_in hk po txt L vi vu vp vs vc vz vo vn va vq vk vd (show i < n by omega) f h bad co ro si wi wu wp ws wc wz wo wn wa wq wk wd
    obtain ⟨bad'', co'', ro'', si'', wi'', wu'', wp'', ws'', wc'', wz'', wo'', wn'', wa'', wq'', wk'', wd'', e2⟩ := ih (i + 1) (by omega) f (by omega) bad' co' ro' si' wi' wu' wp' ws' wc' wz' wo' wn' wa' wq' wk' wd'
    refine ⟨bad'', co'', ro'', si'', wi'', wu'', wp'', ws'', wc'', wz'', wo'', wn'', wa'', wq'', wk'', wd'', ?_⟩
    rw [fX6_digest_L74, if_neg (nI_ge (show i < n by omega) (by omega)), e]
    exact e2
theorem dg_cls {n K : Nat} {Z O : Nat → Int64} (hk : OKs n K Z O) (po asks hours : Int32) (A F : Nat → Int32) (hs : Int32) (txt : Nat → Int32) {L : Nat} (hL : L ≤ 60) {vi vu vp vs vc : Int32} {vz vo vn va : Nat → Int64} {vq vk vd : Nat → Int32} (hv : VW n K Z O vi vu vp vs vc vz vo vn va vq vk vd) (bad : Nat → Int64) (co : Nat → Int32) (ro : Nat → Int64) (si wi wu wp ws wc : Int32) (wz wo wn wa : Nat → Int64) (wq wk wd : Nat → Int32) : ∃ bad' co' ro' si' wi' wu' wp' ws' wc' wz' wo' wn' wa' wq' wk' wd', fX6_digest_L12 po (nI n) (nI K) asks hours Z O A F hs txt (nI L) bad co ro si vi vu vp vs vc vz vo vn va vq vk vd wi wu wp ws wc wz wo wn wa wq wk wd 5000 2423 0 = some (dgV n K Z O asks hours A F hs txt L, po, bad', co', ro', si', vi, vu, vp, vs, vc, vz, vo, vn, va, vq, vk, vd, wi', wu', wp', ws', wc', wz', wo', wn', wa', wq', wk', wd') := by
  have hn := hk.2.1
  obtain ⟨m, s, e, hI⟩ := loop0 (fun k i s => fX6_digest_L12 po (nI n) (nI K) asks hours Z O A F hs txt (nI L) bad co ro si vi vu vp vs vc vz vo vn va vq vk vd wi wu wp ws wc wz wo wn wa wq wk wd k s i) (fun i s => s = mxF (dgM n K Z O asks hours A F hs) i 2423) 11 (s := (2423 : Int64)) (by decide) rfl (by
    intro m w s hw hI
    subst hI
    refine ⟨_, ?_, rfl⟩
    show fX6_digest_L12 po (nI n) (nI K) asks hours Z O A F hs txt (nI L) bad co ro si vi vu vp vs vc vz vo vn va vq vk vd wi wu wp ws wc wz wo wn wa wq wk wd (m + 1) _ (nI w) = fX6_digest_L12 po (nI n) (nI K) asks hours Z O A F hs txt (nI L) bad co ro si vi vu vp vs vc vz vo vn va vq vk vd wi wu wp ws wc wz wo wn wa wq wk wd m (31 * mxF (dgM n K Z O asks hours A F hs) w 2423 + (mzV n K Z O asks hours A F hs w).toInt64) (nI (w + 1))
    rw [fX6_digest_L12, if_neg (show ¬ (10 : Int32) < nI w from nI_nlt (a := 10) (by omega) (by decide)), mz_cls hv asks hours A F hs hw, Option.bind_some, mx_c, Option.bind_some, nI_1])
  obtain ⟨m2, s2, e2, hI2⟩ := loop0 (fun k i s => fX6_digest_L41 po (nI n) (nI K) Z O A F txt (nI L) bad co ro si vi vu vp vs vc vz vo vn va vq vk vd wi wu wp ws wc wz wo wn wa wq wk wd k s i) (fun i s => s = dgA n K Z O A F i (mxF (dgM n K Z O asks hours A F hs) 11 2423)) 4 (s := mxF (dgM n K Z O asks hours A F hs) 11 2423) (by decide) rfl (by
    intro m o s ho hI
    subst hI
    refine ⟨_, ?_, rfl⟩
    show fX6_digest_L41 po (nI n) (nI K) Z O A F txt (nI L) bad co ro si vi vu vp vs vc vz vo vn va vq vk vd wi wu wp ws wc wz wo wn wa wq wk wd (m + 1) _ (nI o) = fX6_digest_L41 po (nI n) (nI K) Z O A F txt (nI L) bad co ro si vi vu vp vs vc vz vo vn va vq vk vd wi wu wp ws wc wz wo wn wa wq wk wd m (dgE n K Z O o (mxF (dgP n K Z O o) (4 * SZ n K Z O o) (mxF (dgO n K Z O A F o) 11 (mxF (dgR n K Z O o) (3 * 2 ^ n) (dgA n K Z O A F o (mxF (dgM n K Z O asks hours A F hs) 11 2423)))))) (nI (o + 1))
    rw [fX6_digest_L41, if_neg (n4 ho), mr_cls hn hv ho, Option.bind_some, mo_cls hk hv A F ho, Option.bind_some, nI_1])
  obtain ⟨bad', co', ro', si', wi', wu', wp', ws', wc', wz', wo', wn', wa', wq', wk', wd', e3⟩ := dg_74 hk po txt hL hv (dgA n K Z O A F 4 (mxF (dgM n K Z O asks hours A F hs) 11 2423)) n 0 (Nat.zero_add n) 5000 (by omega) bad co ro si wi wu wp ws wc wz wo wn wa wq wk wd
  refine ⟨bad', co', ro', si', wi', wu', wp', ws', wc', wz', wo', wn', wa', wq', wk', wd', ?_⟩
  refine Eq.trans e ?_
  show fX6_digest_L12 po (nI n) (nI K) asks hours Z O A F hs txt (nI L) bad co ro si vi vu vp vs vc vz vo vn va vq vk vd wi wu wp ws wc wz wo wn wa wq wk wd (m + 1) s (nI 11) = _
  rw [fX6_digest_L12, if_pos (by decide), hI]
  unfold fX6_digest_J38
  refine Eq.trans e2 ?_
  show fX6_digest_L41 po (nI n) (nI K) Z O A F txt (nI L) bad co ro si vi vu vp vs vc vz vo vn va vq vk vd wi wu wp ws wc wz wo wn wa wq wk wd (m2 + 1) s2 (nI 4) = _
  rw [fX6_digest_L41, if_pos p4_, hI2]
  unfold fX6_digest_J71
  exact e3
