/-! the law's covers and answers -/
def vr : Nat → Int32
  | 0 => -1
  | r + 1 => nI r
theorem vr_dec : ∀ r, nI r + (-1) = vr r
  | 0 => by decide
  | r + 1 => pk_m1 r
theorem vr_s (r : Nat) : vr (r + 1) = nI r := rfl
theorem ds_0 (p : Nat × Nat) (m : Nat) : dsS p 0 m = p := by
  unfold dsS
  rw [if_neg (Nat.not_lt_zero _)]
  by_cases h : 0 = p.2
  · rw [if_pos h, if_pos rfl]
  · rw [if_neg h]
theorem pc_ocb {y : Int64} {a : Nat} (h : ∀ i, i < 64 → tb y i = a.testBit i) (ha : a < 65536) : pc y = ocb a := by
  unfold pc ocb
  rw [show (64 : Nat) = 16 + 48 from rfl, sumN_split 16 48, sumN_0 (n := 48) (fun i hi => by
    rw [h (16 + i) (by omega), Nat.testBit_lt_two_pow (Nat.lt_of_lt_of_le ha (Nat.pow_le_pow_right (n := 2) (by decide) (show 16 ≤ 16 + i by omega)))]
    rfl), Nat.add_zero]
  exact sumN_congr (fun i hi => by rw [h i (by omega)])
theorem ds_fst {n K : Nat} {w x : Int64} {t : Nat} (ht : t ≤ 256) : (dsB n K w x t).2 ≤ 64 ∧ ((dsB n K w x t).2 ≠ 0 → ∃ b, (dsB n K w x t).1 = b + 1 ∧ prB K w b = true) := by
  rcases ds_best n K w x t ht with ⟨a1, a2, a3⟩ | ⟨a, a1, a2, a3⟩
  · exact ⟨by omega, fun h => absurd a2 h⟩
  · exact ⟨by rw [a2]; exact pc_le _, fun _ => ⟨a, a1, a3.2.1⟩⟩
section LCV
variable {n K : Nat} {nn : Nat → Int32} {w x : Int64} {zb lb : Nat}
theorem cv_in (hn : n ≤ 4) (hK : K < 2 ^ n) (h0 : nn 0 = nI n) (h1 : nn 1 = nI K) (hs : subR n w) (hcl : ∀ r t, r < 64 → t < 64 → t &&& fg n K = t → tb w (r ^^^ t) = tb w r) (hz : ∀ i, zb.testBit i = (decide (i < 2 ^ n) && tb w i)) (hzb : zb < 65536) (hl : ∀ i, lb.testBit i = (decide (i < 2 ^ n) && tb x i)) (hlb : lb < 65536) (o : Nat) (co cs : Nat → Int32) (kk : Int32 → Int32 → Int32 → Option ((Nat → Int32) × (Nat → Int32))) {c : Nat} (hc : c < 16) : ∀ r, r ≤ 16 → ∀ fuel, r < fuel → ∀ t, t = 16 * (15 - c) + (16 - r) → fL_cover_L49 (nI o) (nI zb) (nI lb) (nI c) nn co cs kk fuel (vr (dsB n K w x t).1) (nI (dsB n K w x t).2) (vr r) = kk (vr (dsB n K w x (t + r)).1) (nI (dsB n K w x (t + r)).2) (vr c) := by
  have h16 := p16 hn
  intro r
  induction r with
  | zero =>
    intro _ fuel hf t ht
    obtain ⟨f, rfl⟩ : ∃ f, fuel = f + 1 := ⟨fuel - 1, by omega⟩
    rw [fL_cover_L49, if_pos (by decide : vr 0 < 0)]
    unfold fL_cover_J159
    rw [vr_dec]
    rfl
  | succ r ih =>
    intro hr fuel hf t ht
    obtain ⟨f, rfl⟩ : ∃ f, fuel = f + 1 := ⟨fuel - 1, by omega⟩
    have hcd : cd t = 64 * c + r := by unfold cd; omega
    have hnext : dsB n K w x (t + 1) = dsS (dsB n K w x t) (mny n K w x (64 * c + r)) (64 * c + r) := by
      rw [← hcd]; rfl
    have ih := ih (by omega) f (by omega) (t + 1) (by omega)
    rw [show t + (r + 1) = t + 1 + r by omega]
    refine Eq.trans ?_ ih
    rw [hnext]
    obtain ⟨d1, d2⟩ := ds_fst (n := n) (K := K) (w := w) (x := x) (t := t) (by omega)
    generalize dsB n K w x t = p at d1 d2
    obtain ⟨p1, p2⟩ := p
    have d1 : p2 ≤ 64 := d1
    show fL_cover_L49 (nI o) (nI zb) (nI lb) (nI c) nn co cs kk (f + 1) (vr p1) (nI p2) (vr (r + 1)) = _
    rw [vr_s, fL_cover_L49, if_neg (nI_pos (by omega)), g15, c1_, h1]
    unfold fL_cover_J139
    unfold fL_cover_J153
    rw [vr_dec]
    by_cases q1 : c &&& K = c
    · rw [if_pos ((cm_0 K (by omega) c (by omega)).mpr q1)]
      by_cases q2 : r &&& c = r
      · rw [if_pos ((cm_0 c (by omega) r (by omega)).mpr q2), lg_prime hn hK h0 hs hcl hz hzb q1 q2 hc (by omega), Option.bind_some]
        cases hp : prB K w (64 * c + r)
        · rw [if_pos (show bI false = 0 from rfl)]
          have : mny n K w x (64 * c + r) = 0 := by unfold mny; rw [hp]; rfl
          rw [this, ds_0]
        · have hm : mny n K w x (64 * c + r) = mnS n x (64 * c + r) := by unfold mny; rw [if_pos hp]; rfl
          have hbl : bmN (2 ^ n) (fun i => decide (i &&& c = r)) &&& lb < 65536 := Nat.lt_of_le_of_lt Nat.and_le_right hlb
          have hq : mnS n x (64 * c + r) = ocb (bmN (2 ^ n) (fun i => decide (i &&& c = r)) &&& lb) := by
            refine pc_ocb (fun i hi => ?_) hbl
            rw [tb_and, rw_b (by omega) (by omega) hi, Nat.testBit_and, bm_b, hl]
            cases decide (i < 2 ^ n) <;> cases decide (i &&& c = r) <;> rfl
          rw [if_neg (show ¬ bI true = 0 by decide), lg_rows hn h0 (by omega), Option.bind_some, nI_an, lg_ones hbl, Option.bind_some, ← hq, hm]
          have hle : mnS n x (64 * c + r) ≤ 64 := pc_le _
          have hE : (64 : Int32) * nI c + nI r = vr (64 * c + r + 1) := cv_ix c r
          unfold dsS
          show _ = fL_cover_L49 (nI o) (nI zb) (nI lb) (nI c) nn co cs kk f (vr (if p2 < mnS n x (64 * c + r) then (64 * c + r + 1, mnS n x (64 * c + r)) else if mnS n x (64 * c + r) = p2 then if mnS n x (64 * c + r) = 0 then (p1, p2) else if ocN ((p1 - 1) / 64) < ocN ((64 * c + r) / 64) then (p1, p2) else (64 * c + r + 1, mnS n x (64 * c + r)) else (p1, p2)).1) (nI (if p2 < mnS n x (64 * c + r) then (64 * c + r + 1, mnS n x (64 * c + r)) else if mnS n x (64 * c + r) = p2 then if mnS n x (64 * c + r) = 0 then (p1, p2) else if ocN ((p1 - 1) / 64) < ocN ((64 * c + r) / 64) then (p1, p2) else (64 * c + r + 1, mnS n x (64 * c + r)) else (p1, p2)).2) (vr r)
          rw [hE]
          generalize mnS n x (64 * c + r) = q at hle
          by_cases a1 : p2 < q
          · rw [if_pos ((nI_ltI (by omega) (by omega)).mpr a1), if_pos a1]
          · rw [if_neg (fun z => a1 ((nI_ltI (by omega) (by omega)).mp z)), if_neg a1]
            by_cases a2 : q = p2
            · rw [if_pos (congrArg nI a2), if_pos a2]
              by_cases a3 : q = 0
              · rw [if_pos a3, if_pos (by rw [a3]; decide)]
              · rw [if_neg a3, if_neg (nI_nle (Nat.pos_of_ne_zero a3) (by omega))]
                obtain ⟨b, e1, e2⟩ := d2 (show ¬ p2 = 0 by omega)
                have e1 : p1 = b + 1 := e1
                subst e1
                obtain ⟨e3, e4⟩ := pr_code hn hK e2
                have hoc : (64 * c + r) / 64 = c := by omega
                rw [vr_s, d64 (by omega), lg_ones (by omega), Option.bind_some, lg_ones (by omega), Option.bind_some, ocb_ocN c (by omega), ocb_ocN (b / 64) (by omega), hoc, Nat.add_sub_cancel]
                have o1 := oc_le c (by omega)
                have o2 := oc_le (b / 64) (by omega)
                by_cases a4 : ocN (b / 64) < ocN c
                · rw [if_pos ((nI_ltI (by omega) (by omega)).mpr a4), if_pos a4]
                  rfl
                · rw [if_neg (fun z => a4 ((nI_ltI (by omega) (by omega)).mp z)), if_neg a4]
            · rw [if_neg (fun z => a2 ((nI_eq (by omega) (by omega)).mp z)), if_neg a2]
      · rw [if_neg (fun z => q2 ((cm_0 c (by omega) r (by omega)).mp z))]
        have : mny n K w x (64 * c + r) = 0 := by unfold mny; rw [pr_out (by omega) (fun z => q2 z.2)]; rfl
        rw [this, ds_0]
    · rw [if_neg (fun z => q1 ((cm_0 K (by omega) c (by omega)).mp z))]
      have : mny n K w x (64 * c + r) = 0 := by unfold mny; rw [pr_out (by omega) (fun z => q1 z.1)]; rfl
      rw [this, ds_0]
theorem cv_out (hn : n ≤ 4) (hK : K < 2 ^ n) (h0 : nn 0 = nI n) (h1 : nn 1 = nI K) (hs : subR n w) (hcl : ∀ r t, r < 64 → t < 64 → t &&& fg n K = t → tb w (r ^^^ t) = tb w r) (hz : ∀ i, zb.testBit i = (decide (i < 2 ^ n) && tb w i)) (hzb : zb < 65536) (hl : ∀ i, lb.testBit i = (decide (i < 2 ^ n) && tb x i)) (hlb : lb < 65536) (o : Nat) (co cs : Nat → Int32) (kk : Int32 → (Nat → Int32) → (Nat → Int32) → Option ((Nat → Int32) × (Nat → Int32))) : ∀ r, r ≤ 16 → ∀ fuel, r < fuel → ∀ t, t = 16 * (16 - r) → fL_cover_L40 (nI o) (nI zb) (nI lb) nn co cs kk fuel (vr (dsB n K w x t).1) (nI (dsB n K w x t).2) (vr r) = fL_cover_J165 (nI o) (nI zb) (nI lb) (vr (dsB n K w x 256).1) nn co cs kk := by
  intro r
  induction r with
  | zero =>
    intro _ fuel hf t ht
    obtain ⟨f, rfl⟩ : ∃ f, fuel = f + 1 := ⟨fuel - 1, by omega⟩
    rw [fL_cover_L40, if_pos (by decide : vr 0 < 0), show t = 256 by omega]
  | succ r ih =>
    intro hr fuel hf t ht
    obtain ⟨f, rfl⟩ : ∃ f, fuel = f + 1 := ⟨fuel - 1, by omega⟩
    have hin := cv_in hn hK h0 h1 hs hcl hz hzb hl hlb o co cs (fL_cover_L40 (nI o) (nI zb) (nI lb) nn co cs kk f) (c := r) (by omega) 16 (Nat.le_refl _) 5000 (by decide) t (by omega)
    rw [vr_s, fL_cover_L40, if_neg (nI_pos (by omega)), show (15 : Int32) = vr 16 from rfl, hin]
    exact ih (by omega) f (by omega) (t + 16) (by omega)
theorem pc_16 (hn : n ≤ 4) (h : subR n x) : pc x ≤ 16 := by
  have h16 := p16 hn
  rw [pc_rows (n := n) (by omega) (fun i => tb x i) (fun i hi => by
    cases q : tb x i
    · rw [Bool.and_false]
    · rw [decide_eq_true (h i hi q)]; rfl)]
  have := sumN_le (n := 2 ^ n) (f := fun i => (tb x i).toNat) (g := fun _ => 1) (fun i _ => by cases tb x i <;> decide)
  rw [sumN_one] at this
  omega
theorem lf_pc (h : CV n K w x) : ∀ i, ¬ lfN n K w x i = 0 → pc (lfN n K w x i) + i ≤ pc x := by
  intro i
  induction i with
  | zero => intro _; exact Nat.le_refl _
  | succ i ih =>
    intro h1
    have h2 : ¬ lfN n K w x i = 0 := fun z => h1 (lf_z z)
    have h3 := (cv_step (lf_ok h i).1 h2).2.2.2.2.2
    rw [lf_s h2]
    have := ih h2
    unfold ccN
    omega
theorem sz_16 (hn : n ≤ 4) (h : CV n K w x) (hx : subR n x) : szN n K w x ≤ 16 := by
  rcases Nat.lt_or_ge 16 (szN n K w x) with q | q
  · exfalso
    have h1 := sz_ne q
    have h2 := lf_pc h 16 h1
    have h3 := pc_pos.mpr h1
    have h4 := pc_16 hn hx
    omega
  · exact q
theorem cv_while (hn : n ≤ 4) (h0 : nn 0 = nI n) (h1 : nn 1 = nI K) (h : CV n K w x) (hx : subR n x) (hz : ∀ i, zb.testBit i = (decide (i < 2 ^ n) && tb w i)) (hzb : zb < 65536) {o : Nat} (ho : o < 4) : ∀ d i, i + d = szN n K w x → ∀ fuel, d < fuel → ∀ (lb : Nat) (co cs : Nat → Int32), (∀ i', lb.testBit i' = (decide (i' < 2 ^ n) && tb (lfN n K w x i) i')) → lb < 65536 → cs o = nI i → (∀ j, j < i → co (16 * o + j) = nI (ccN n K w x j)) → ∃ co' cs', fL_cover_L25 (nI o) (nI zb) nn fuel (nI lb) co cs = some (co', cs') ∧ cs' o = nI (szN n K w x) ∧ (∀ j, j < szN n K w x → co' (16 * o + j) = nI (ccN n K w x j)) ∧ (∀ q, (q < 16 * o ∨ 16 * o + 16 ≤ q) → co' q = co q) ∧ ∀ p, p ≠ o → cs' p = cs p := by
  have h16 := p16 hn
  have hsz := sz_16 hn h hx
  have hK := h.2.1
  have hse := sz_end h
  have hsn : ∀ i, i < szN n K w x → ¬ lfN n K w x i = 0 := fun i hi => sz_ne hi
  generalize szN n K w x = sz at hsz hse hsn ⊢
  intro d
  induction d with
  | zero =>
    intro i hi fuel hf lb co cs hl hlb hcs hco
    obtain ⟨f, rfl⟩ : ∃ f, fuel = f + 1 := ⟨fuel - 1, by omega⟩
    have hi : i = sz := by omega
    subst hi
    have hl0 : lb = 0 := by
      refine Nat.eq_of_testBit_eq (fun i' => ?_)
      rw [hl, hse, tb_0, Bool.and_false, Nat.zero_testBit]
    refine ⟨co, cs, ?_, hcs, hco, fun _ _ => rfl, fun _ _ => rfl⟩
    rw [fL_cover_L25, if_pos (by rw [hl0]; rfl)]
  | succ d ih =>
    intro i hi fuel hf lb co cs hl hlb hcs hco
    obtain ⟨f, rfl⟩ : ∃ f, fuel = f + 1 := ⟨fuel - 1, by omega⟩
    have hne := hsn i (by omega)
    obtain ⟨hcv, -⟩ := lf_ok h i
    obtain ⟨s1, s2, s3, -, -, -⟩ := cv_step hcv hne
    obtain ⟨bb, hbb⟩ : ∃ bb, bb = ccN n K w x i := ⟨_, rfl⟩
    have hcc : bcd n K w (lfN n K w x i) = bb := hbb.symm
    rw [hcc] at s1 s2 s3
    have hlfs := lf_s hne
    rw [← hbb] at hlfs
    have hlb0 : 0 < lb := by
      rcases Nat.eq_zero_or_pos lb with q | q
      · exfalso
        obtain ⟨r, hr, hb⟩ := tb_ex hne
        have h9 := hl r
        rw [q, Nat.zero_testBit, hb, decide_eq_true (hcv.2.2.2.2 r hr hb).1] at h9
        cases h9
      · exact q
    have hcl := h.2.2.2.1
    have hout := cv_out (x := lfN n K w x i) hn hK h0 h1 h.2.2.1 hcl hz hzb hl hlb o co cs (fL_cover_L25 (nI o) (nI zb) nn f) 16 (Nat.le_refl _) 5000 (by decide) 0 rfl
    have hbest : vr (dsB n K w (lfN n K w x i) 256).1 = nI bb := by
      rw [ds_eq hn hK, s3]
      rfl
    obtain ⟨e3, e4⟩ := pr_code hn hK s2
    have hstep : fL_cover_L25 (nI o) (nI zb) nn (f + 1) (nI lb) co cs = fL_cover_L25 (nI o) (nI zb) nn f (nI (lb ^^^ (lb &&& bmN (2 ^ n) (fun r => decide (r &&& (bb / 64) = bb % 64))))) (upd co (16 * o + i) (nI (bb))) (upd cs o (nI (i + 1))) := by
      rw [fL_cover_L25, if_neg (nI_ne0 hlb0 (by omega))]
      refine Eq.trans hout ?_
      unfold fL_cover_J165
      rw [hbest, nI_clamp (show o < 2 ^ 31 by omega), hcs, ix16]
      simp only [gd_in ho (show (4 : Nat) < 2 ^ 31 by decide), gd_in (show 16 * o + i < 64 by omega) (show (64 : Nat) < 2 ^ 31 by decide), lt_e, nI_clamp (show 16 * o + i < 2 ^ 31 by omega)]
      rw [r64 (by omega), d64 (by omega), lg_rows hn h0 (by omega), Option.bind_some, nI_andn, nI_1]
    have hlb' : ∀ i', (lb ^^^ (lb &&& bmN (2 ^ n) (fun r => decide (r &&& (bb / 64) = bb % 64)))).testBit i' = (decide (i' < 2 ^ n) && tb (lfN n K w x (i + 1)) i') := by
      intro i'
      rw [Nat.testBit_xor, Nat.testBit_and, hl, bm_b, hlfs]
      by_cases q : i' < 2 ^ n
      · rw [tb_and, tb_not _ (by omega), rw_c (by omega) _ q, decide_eq_true q]
        cases tb (lfN n K w x i) i' <;> cases decide (i' &&& (bb / 64) = bb % 64) <;> rfl
      · rw [decide_eq_false q]
        rfl
    have hlt : lb ^^^ (lb &&& bmN (2 ^ n) (fun r => decide (r &&& (bb / 64) = bb % 64))) < 65536 := Nat.xor_lt_two_pow (n := 16) hlb (Nat.lt_of_le_of_lt Nat.and_le_left hlb)
    obtain ⟨co', cs', r1, r2, r3, r4, r5⟩ := ih (i + 1) (by omega) f (by omega) _ (upd co (16 * o + i) (nI bb)) (upd cs o (nI (i + 1))) hlb' hlt pk_us (fun j hj => by
      by_cases e : j = i
      · subst e; rw [pk_us, hbb]
      · rw [pk_un (by omega)]; exact hco j (by omega))
    refine ⟨co', cs', by rw [hstep]; exact r1, r2, r3, fun q hq => ?_, fun p hp => ?_⟩
    · rw [r4 q hq, pk_un (by omega)]
    · rw [r5 p hp, pk_un hp]
end LCV
/-- one output's cover, as the law lays it -/
def LC (n K : Nat) (Z O : Nat → Int64) (co cs : Nat → Int32) (o : Nat) : Prop := cs o = nI (SZ n K Z O o) ∧ ∀ j, j < SZ n K Z O o → co (16 * o + j) = nI (CC n K Z O o j)
theorem SZ_16 {n K : Nat} (hn : n ≤ 4) {Z O : Nat → Int64} (hk : OKs n K Z O) {o : Nat} (ho : o < 4) : SZ n K Z O o ≤ 16 := sz_16 hn (cv_dd hk ho) (dn_sub hk ho)
theorem lg_cover {n K : Nat} (hn : n ≤ 4) {nn : Nat → Int32} (h0 : nn 0 = nI n) (h1 : nn 1 = nI K) {Z O : Nat → Int64} (hk : OKs n K Z O) {tr : Nat → Int32} (ht : TR n Z O tr) {o : Nat} (ho : o < 4) (co cs : Nat → Int32) : ∃ co' cs', fL_cover nn tr co cs (nI o) = some (co', cs') ∧ LC n K Z O co' cs' o ∧ (∀ q, (q < 16 * o ∨ 16 * o + 16 ≤ q) → co' q = co q) ∧ ∀ p, p ≠ o → cs' p = cs p := by
  have h16 := p16 hn
  have hsz := SZ_16 hn hk ho
  obtain ⟨co', cs', r1, r2, r3, r4, r5⟩ := cv_while (zb := bmN (2 ^ n) (fun r => decide (DV n K Z O o r = 0))) hn h0 h1 (cv_dd hk ho) (dn_sub hk ho) (zb_bits hn) (bm_65 hn _) ho (SZ n K Z O o) 0 (Nat.zero_add _) 5000 (by omega) (bmN (2 ^ n) (fun r => decide (DV n K Z O o r = 1))) co (upd cs o 0) (ob_bits hn) (bm_65 hn _) pk_us (fun j hj => absurd hj (Nat.not_lt_zero j))
  refine ⟨co', cs', ?_, ⟨r2, r3⟩, r4, fun p hp => ?_⟩
  · unfold fL_cover
    rw [lg_those hn h0 h1 hk ht ho 0, Option.bind_some, lg_those hn h0 h1 hk ht ho 1, Option.bind_some, gd_in ho (by decide), nI_clamp (by omega)]
    exact r1
  · rw [r5 p hp, pk_un hp]
theorem lg_answer {n K : Nat} (hn : n ≤ 4) {Z O : Nat → Int64} (hk : OKs n K Z O) {co cs : Nat → Int32} {o : Nat} (ho : o < 4) (hc : LC n K Z O co cs o) {r : Nat} (hr : r < 2 ^ n) : fL_answer co cs (nI o) (nI r) = some (bI (tb (AN n K Z O o) r)) := by
  have h16 := p16 hn
  have hsz := SZ_16 hn hk ho
  have key : ∀ d i, i + d = SZ n K Z O o → ∀ fuel, d < fuel → (∀ j, j < i → tb (rwS n (CC n K Z O o j)) r = false) → fL_answer_L3 (nI o) (nI r) co cs fuel (nI i) = some (bI (anyN (SZ n K Z O o) (fun j => tb (rwS n (CC n K Z O o j)) r))) := by
    intro d
    induction d with
    | zero =>
      intro i hi fuel hf hno
      obtain ⟨f, rfl⟩ : ∃ f, fuel = f + 1 := ⟨fuel - 1, by omega⟩
      rw [fL_answer_L3, gd_in ho (by decide), nI_clamp (by omega), hc.1, if_pos (nI_le (by omega) (by omega))]
      cases q : anyN (SZ n K Z O o) (fun j => tb (rwS n (CC n K Z O o j)) r)
      · rfl
      · obtain ⟨j, hj, hb⟩ := anyN_iff.mp q
        rw [hno j (by omega)] at hb
        cases hb
    | succ d ih =>
      intro i hi fuel hf hno
      obtain ⟨f, rfl⟩ : ∃ f, fuel = f + 1 := ⟨fuel - 1, by omega⟩
      have hcc := (CC_ok hk ho (show i < SZ n K Z O o by omega)).1
      rw [fL_answer_L3, gd_in ho (by decide), nI_clamp (by omega), hc.1, if_neg (nI_ge (by omega) (by omega)), ix16, gd_in (show 16 * o + i < 64 by omega) (by decide), gd_in (show 16 * o + i < 64 by omega) (by decide), nI_clamp (by omega), hc.2 i (by omega), r64 (by omega), d64 (by omega), nI_an, nI_1]
      have hrw := rw_c (n := n) (by omega) (CC n K Z O o i) hr
      by_cases q : r &&& (CC n K Z O o i / 64) = CC n K Z O o i % 64
      · rw [if_pos (congrArg nI q)]
        have : anyN (SZ n K Z O o) (fun j => tb (rwS n (CC n K Z O o j)) r) = true := anyN_iff.mpr ⟨i, by omega, by rw [hrw, decide_eq_true q]⟩
        rw [this]
        rfl
      · have hle : r &&& (CC n K Z O o i / 64) ≤ r := Nat.and_le_left
        rw [if_neg (fun z => q ((nI_eq (by omega) (by omega)).mp z))]
        exact ih (i + 1) (by omega) f (by omega) (fun j hj => by
          by_cases e : j = i
          · subst e; rw [hrw, decide_eq_false q]
          · exact hno j (by omega))
  unfold fL_answer
  rw [AN_b]
  exact key (SZ n K Z O o) 0 (Nat.zero_add _) 5000 (by omega) (fun j hj => absurd hj (Nat.not_lt_zero j))
