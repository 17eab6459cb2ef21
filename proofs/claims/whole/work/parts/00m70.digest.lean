/-! the digest: the reference -/
theorem dN {a d : Nat} (ha : a < 2 ^ 31) (h0 : 0 < d) (hd : d < 2 ^ 31) : nI a / nI d = nI (a / d) := pk_div ha h0 hd
theorem d3 {a : Nat} (h : a < 2 ^ 31) : nI a / 3 = nI (a / 3) := pk_div (d := 3) h (by decide) (by decide)
theorem r3 {a : Nat} (h : a < 2 ^ 31) : nI a - nI a / 3 * 3 = nI (a % 3) := pk_rem (d := 3) h (by decide) (by decide)
theorem d4 {a : Nat} (h : a < 2 ^ 31) : nI a / 4 = nI (a / 4) := pk_div (d := 4) h (by decide) (by decide)
theorem r4 {a : Nat} (h : a < 2 ^ 31) : nI a - nI a / 4 * 4 = nI (a % 4) := pk_rem (d := 4) h (by decide) (by decide)
theorem d2 {a : Nat} (h : a < 2 ^ 31) : nI a / 2 = nI (a / 2) := pk_div (d := 2) h (by decide) (by decide)
theorem r2 {a : Nat} (h : a < 2 ^ 31) : nI a - nI a / 2 * 2 = nI (a % 2) := pk_rem (d := 2) h (by decide) (by decide)
theorem m3_ (a : Nat) : (3 : Int32) * nI a = nI (3 * a) := pk_mul 3 a
theorem m4_ (a : Nat) : (4 : Int32) * nI a = nI (4 * a) := pk_mul 4 a
theorem m2_ (a : Nat) : (2 : Int32) * nI a = nI (2 * a) := pk_mul 2 a
theorem mxF_0 (f : Nat → Int64) (h : Int64) : mxF f 0 h = h := rfl
theorem mo_ref {n K : Nat} {Z O : Nat → Int64} {z : Nat → Int32} (h : TZ n K Z O z) (hk : OKs n K Z O) {A F : Nat → Int32} (hA : ∀ o, o < 4 → z (4 + o) = A o) (hF : ∀ o, o < 4 → z (8 + o) = F o) {cov siz : Nat → Int32} (hcv : CVR n K Z O cov siz) (god : Nat → Int64) (prm : Nat → Int32) (npr : Int32) {o : Nat} (ho : o < 4) (x : Int64) : ∃ g p q, fX7_mixOutput z god prm npr cov siz x (nI o) = some (g, p, q, dgB n K Z O A F o x) := by
  have h64 := p64 hk.2.1
  have hs64 := SZ_le n K Z O o
  have hc := hcv o ho
  obtain ⟨m, s, e, hI⟩ := loop0 (fun k i s => fX7_mixOutput_L2 (nI o) z god prm npr cov siz k i s) (fun i s => s = mxF (dgR n K Z O o) i x) (3 * 2 ^ n) (s := x) (by omega) rfl (by
    intro m k s hk2 hI
    subst hI
    refine ⟨_, ?_, rfl⟩
    show fX7_mixOutput_L2 (nI o) z god prm npr cov siz (m + 1) (nI k) _ = fX7_mixOutput_L2 (nI o) z god prm npr cov siz m (nI (k + 1)) (31 * mxF (dgR n K Z O o) k x + (rnV n K Z O o (k / 3) (k % 3)).toInt64)
    rw [fX7_mixOutput_L2, r_rows h hk.2.1, Option.bind_some, m3_, if_neg (nI_ge hk2 (by omega)), r3 (by omega), d3 (by omega), rn_ref h hk ho (show k / 3 < 2 ^ n by omega) (show k % 3 < 3 by omega) hc, Option.bind_some, mx_r, Option.bind_some, nI_1])
  obtain ⟨m2, ⟨g, p, q, s2⟩, e2, hI2⟩ := loop0 (fun k i (s : (Nat → Int64) × (Nat → Int32) × Int32 × Int64) => fX7_mixOutput_L36 (nI o) z cov siz k i s.1 s.2.1 s.2.2.1 s.2.2.2) (fun i s => s.2.2.2 = mxF (dgO n K Z O A F o) i (mxF (dgR n K Z O o) (3 * 2 ^ n) x)) 11 (s := (god, prm, npr, mxF (dgR n K Z O o) (3 * 2 ^ n) x)) (by decide) (mxF_0 _ _).symm (by
    intro m w s hw hI
    obtain ⟨g, p, q, s⟩ := s
    have hI : s = mxF (dgO n K Z O A F o) w (mxF (dgR n K Z O o) (3 * 2 ^ n) x) := hI
    subst hI
    obtain ⟨g2, p2, q2, e⟩ := on_ref h hk hA hF g p q ho hw hc
    refine ⟨(g2, p2, q2, 31 * mxF (dgO n K Z O A F o) w (mxF (dgR n K Z O o) (3 * 2 ^ n) x) + (onV n K Z O A F o w).toInt64), ?_, rfl⟩
    show fX7_mixOutput_L36 (nI o) z cov siz (m + 1) (nI w) g p q _ = _
    rw [fX7_mixOutput_L36, if_neg (show ¬ (11 : Int32) ≤ nI w from nI_ge (b := 11) hw (by decide)), e, Option.bind_some, mx_r, Option.bind_some, nI_1])
  have hI2 : s2 = mxF (dgO n K Z O A F o) 11 (mxF (dgR n K Z O o) (3 * 2 ^ n) x) := hI2
  subst hI2
  obtain ⟨m3, s3, e3, hI3⟩ := loop0 (fun k i s => fX7_mixOutput_L61 (nI o) z g p q cov siz k i s) (fun i s => s = mxF (dgP n K Z O o) i (mxF (dgO n K Z O A F o) 11 (mxF (dgR n K Z O o) (3 * 2 ^ n) x))) (4 * SZ n K Z O o) (s := mxF (dgO n K Z O A F o) 11 (mxF (dgR n K Z O o) (3 * 2 ^ n) x)) (by omega) (mxF_0 _ _).symm (by
    intro m k s hk2 hI
    subst hI
    refine ⟨_, ?_, rfl⟩
    show fX7_mixOutput_L61 (nI o) z g p q cov siz (m + 1) (nI k) _ = fX7_mixOutput_L61 (nI o) z g p q cov siz m (nI (k + 1)) (31 * mxF (dgP n K Z O o) k (mxF (dgO n K Z O A F o) 11 (mxF (dgR n K Z O o) (3 * 2 ^ n) x)) + (pdV n K Z O o (k / 4) (k % 4)).toInt64)
    rw [fX7_mixOutput_L61, gd_in ho (by decide), nI_clamp (show o < 2 ^ 31 by omega), hc.1, m4_, if_neg (nI_ge hk2 (by omega)), r4 (by omega), d4 (by omega), pd_ref h hk hcv ho (show k / 4 < 64 by omega) (show k % 4 < 4 by omega), Option.bind_some, mx_r, Option.bind_some, nI_1])
  refine ⟨g, p, q, ?_⟩
  unfold fX7_mixOutput
  refine Eq.trans e ?_
  show fX7_mixOutput_L2 (nI o) z god prm npr cov siz (m + 1) (nI (3 * 2 ^ n)) s = _
  rw [fX7_mixOutput_L2, r_rows h hk.2.1, Option.bind_some, m3_, if_pos (nI_le (Nat.le_refl _) (by omega)), hI]
  unfold fX7_mixOutput_J34
  refine Eq.trans e2 ?_
  show fX7_mixOutput_L36 (nI o) z cov siz (m2 + 1) (nI 11) g p q _ = _
  rw [fX7_mixOutput_L36, if_pos (by decide)]
  unfold fX7_mixOutput_J59
  refine Eq.trans e3 ?_
  show fX7_mixOutput_L61 (nI o) z g p q cov siz (m3 + 1) (nI (4 * SZ n K Z O o)) s3 = _
  rw [fX7_mixOutput_L61, gd_in ho (by decide), nI_clamp (show o < 2 ^ 31 by omega), hc.1, m4_, if_pos (nI_le (Nat.le_refl _) (by omega)), hI3]
  unfold fX7_mixOutput_J95
  have ek := ak_ref h hk hcv ho (show 0 < 4 by decide)
  have er := nr_ref h hk ho (show 0 < 2 ^ n from Nat.two_pow_pos n)
  rw [nI_0] at ek er
  rw [ne_ref h hk ho, Option.bind_some, mx_r, Option.bind_some, ek, Option.bind_some, mx_r, Option.bind_some, er, Option.bind_some, mx_r, Option.bind_some]
  rfl
theorem dg_ref {n K : Nat} {Z O : Nat → Int64} {z : Nat → Int32} (h : TZ n K Z O z) (hk : OKs n K Z O) {asks hours : Int32} {A F : Nat → Int32} (ha : z 2 = asks) (hh : z 3 = hours) (hA : ∀ o, o < 4 → z (4 + o) = A o) (hF : ∀ o, o < 4 → z (8 + o) = F o) (hs : Int32) (txt : Nat → Int32) {L : Nat} (hL : L ≤ 60) (god : Nat → Int64) (prm : Nat → Int32) (npr : Int32) (cov siz : Nat → Int32) : ∃ g p q c s, fX7_digest z hs (nI L) txt god prm npr cov siz = some (dgV n K Z O asks hours A F hs txt L, z, 0, g, p, q, c, s, dgV n K Z O asks hours A F hs txt L) := by
  have hn := hk.2.1
  have h64 := p64 hn
  obtain ⟨g, p, q, cov', siz', el, hcv⟩ := la_ref h hk god prm npr cov siz
  obtain ⟨m, s, e, hI⟩ := loop0 (fun k i s => fX7_digest_L18 z hs (nI L) txt 0 g p q cov' siz' k i s) (fun i s => s = mxF (dgM n K Z O asks hours A F hs) i 2423) 11 (s := (2423 : Int64)) (by decide) rfl (by
    intro m w s hw hI
    subst hI
    refine ⟨_, ?_, rfl⟩
    show fX7_digest_L18 z hs (nI L) txt 0 g p q cov' siz' (m + 1) (nI w) _ = fX7_digest_L18 z hs (nI L) txt 0 g p q cov' siz' m (nI (w + 1)) (31 * mxF (dgM n K Z O asks hours A F hs) w 2423 + (mzV n K Z O asks hours A F hs w).toInt64)
    rw [fX7_digest_L18, if_neg (show ¬ (11 : Int32) ≤ nI w from nI_ge (b := 11) hw (by decide)), ct_ref h hk ha hh hA hF hs hw hcv, Option.bind_some, mx_r, Option.bind_some, nI_1])
  obtain ⟨m2, ⟨g2, p2, q2, s2⟩, e2, hI2⟩ := loop0 (fun k i (s : (Nat → Int64) × (Nat → Int32) × Int32 × Int64) => fX7_digest_L42 z (nI L) txt 0 cov' siz' k i s.1 s.2.1 s.2.2.1 s.2.2.2) (fun i s => s.2.2.2 = dgA n K Z O A F i (mxF (dgM n K Z O asks hours A F hs) 11 2423)) 4 (s := (g, p, q, mxF (dgM n K Z O asks hours A F hs) 11 2423)) (by decide) rfl (by
    intro m o s ho hI
    obtain ⟨g, p, q, s⟩ := s
    have hI : s = dgA n K Z O A F o (mxF (dgM n K Z O asks hours A F hs) 11 2423) := hI
    subst hI
    obtain ⟨g2, p2, q2, e⟩ := mo_ref h hk hA hF hcv g p q ho (dgA n K Z O A F o (mxF (dgM n K Z O asks hours A F hs) 11 2423))
    refine ⟨(g2, p2, q2, dgB n K Z O A F o (dgA n K Z O A F o (mxF (dgM n K Z O asks hours A F hs) 11 2423))), ?_, rfl⟩
    show fX7_digest_L42 z (nI L) txt 0 cov' siz' (m + 1) (nI o) g p q _ = _
    rw [fX7_digest_L42, if_neg (n4 ho), e, Option.bind_some, nI_1])
  have hI2 : s2 = dgA n K Z O A F 4 (mxF (dgM n K Z O asks hours A F hs) 11 2423) := hI2
  subst hI2
  obtain ⟨m3, ⟨g3, p3, q3, c3, z3, s3⟩, e3, hI3⟩ := loop0 (fun k i (s : (Nat → Int64) × (Nat → Int32) × Int32 × (Nat → Int32) × (Nat → Int32) × Int64) => fX7_digest_L60 (nI L) txt 0 k i z s.1 s.2.1 s.2.2.1 s.2.2.2.1 s.2.2.2.2.1 s.2.2.2.2.2) (fun i s => s.2.2.2.2.2 = mxF (dgF n K Z O) i (dgA n K Z O A F 4 (mxF (dgM n K Z O asks hours A F hs) 11 2423))) (2 * n) (s := (g2, p2, q2, cov', siz', dgA n K Z O A F 4 (mxF (dgM n K Z O asks hours A F hs) 11 2423))) (by omega) (mxF_0 _ _).symm (by
    intro m k s hk2 hI
    obtain ⟨g, p, q, c, t, s⟩ := s
    have hI : s = mxF (dgF n K Z O) k (dgA n K Z O A F 4 (mxF (dgM n K Z O asks hours A F hs) 11 2423)) := hI
    subst hI
    obtain ⟨g2, p2, q2, c2, t2, e⟩ := ft_ref h hk g p q c t (show k / 2 < n by omega) (show k % 2 < 2 by omega)
    refine ⟨(g2, p2, q2, c2, t2, 31 * mxF (dgF n K Z O) k (dgA n K Z O A F 4 (mxF (dgM n K Z O asks hours A F hs) 11 2423)) + (ftV n K Z O (k / 2) (k % 2)).toInt64), ?_, rfl⟩
    show fX7_digest_L60 (nI L) txt 0 (m + 1) (nI k) z g p q c t _ = _
    rw [fX7_digest_L60, gdz, c0_, h.1, m2_, if_neg (nI_ge hk2 (by omega)), r2 (by omega), d2 (by omega), e, Option.bind_some, mx_r, Option.bind_some, nI_1])
  have hI3 : s3 = mxF (dgF n K Z O) (2 * n) (dgA n K Z O A F 4 (mxF (dgM n K Z O asks hours A F hs) 11 2423)) := hI3
  subst hI3
  obtain ⟨m4, s4, e4, hI4⟩ := loop0 (fun k i s => fX7_digest_L124 z (nI L) txt 0 g3 p3 q3 c3 z3 k i s) (fun i s => s = mxF (dgT txt) i (31 * (31 * (31 * (mxF (dgF n K Z O) (2 * n) (dgA n K Z O A F 4 (mxF (dgM n K Z O asks hours A F hs) 11 2423))) + (nI (haF Z O (2 ^ n - 1))).toInt64) + (shV n K Z O).toInt64) + (nI L).toInt64)) L (s := 31 * (31 * (31 * (mxF (dgF n K Z O) (2 * n) (dgA n K Z O A F 4 (mxF (dgM n K Z O asks hours A F hs) 11 2423))) + (nI (haF Z O (2 ^ n - 1))).toInt64) + (shV n K Z O).toInt64) + (nI L).toInt64) (by omega) (mxF_0 _ _).symm (by
    intro m k s hk2 hI
    subst hI
    refine ⟨_, ?_, rfl⟩
    show fX7_digest_L124 z (nI L) txt 0 g3 p3 q3 c3 z3 (m + 1) (nI k) _ = fX7_digest_L124 z (nI L) txt 0 g3 p3 q3 c3 z3 m (nI (k + 1)) (31 * mxF (dgT txt) k _ + (txt k).toInt64)
    rw [fX7_digest_L124, if_neg (nI_ge hk2 (by omega)), gd_in (show k < 60 by omega) (by decide), nI_clamp (by omega), mx_r, Option.bind_some, nI_1])
  refine ⟨g3, p3, q3, c3, z3, ?_⟩
  unfold fX7_digest
  rw [el, Option.bind_some]
  refine Eq.trans e ?_
  show fX7_digest_L18 z hs (nI L) txt 0 g p q cov' siz' (m + 1) (nI 11) s = _
  rw [fX7_digest_L18, if_pos (by decide), hI]
  unfold fX7_digest_J40
  refine Eq.trans e2 ?_
  show fX7_digest_L42 z (nI L) txt 0 cov' siz' (m2 + 1) (nI 4) g2 p2 q2 _ = _
  rw [fX7_digest_L42, if_pos p4_]
  unfold fX7_digest_J58
  refine Eq.trans e3 ?_
  show fX7_digest_L60 (nI L) txt 0 (m3 + 1) (nI (2 * n)) z g3 p3 q3 c3 z3 _ = _
  rw [fX7_digest_L60, gdz, c0_, h.1, m2_, if_pos (nI_le (Nat.le_refl _) (by omega))]
  unfold fX7_digest_J93
  have hg := shV_good n K Z O
  rw [ha_ref h hk, Option.bind_some, mx_r, Option.bind_some, sh_ref h hk, Option.bind_some, hg.2.1, Option.bind_some, mx_r, Option.bind_some, mx_r, Option.bind_some]
  refine Eq.trans e4 ?_
  show fX7_digest_L124 z (nI L) txt 0 g3 p3 q3 c3 z3 (m4 + 1) (nI L) s4 = _
  rw [fX7_digest_L124, if_pos (nI_le (Nat.le_refl _) (by omega)), hI4]
  rfl
