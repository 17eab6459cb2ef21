/-! the law's agree: all that the class says is what the law says -/
theorem sg_go {α β : Type} {o : Option (Nat ⊕ α)} {u : α} {f : α → Option β} {r : Option β} (h : o = some (.inr u)) (k : f u = r) : sg o f = r := by
  rw [h]; exact k
theorem bd_go {α β : Type} {o : Option α} {a : α} {f : α → Option β} {r : Option β} (h : o = some a) (k : f a = r) : o.bind f = r := by
  rw [h]; exact k
theorem if_go {α : Type} {c : Prop} [Decidable c] {a b r : α} (h : c) (k : a = r) : (if c then a else b) = r := (if_pos h).trans k
theorem gix {o r : Nat} (ho : o < 4) (hr : r < 16) {α : Type} (k : Option α) : gd ((16 * nI o) + nI r) 64 k = k := by
  rw [ix16]; exact gd_in (by omega) (by decide) k
theorem go4 {o : Nat} (ho : o < 4) {α : Type} (k : Option α) : gd (nI o) 4 k = k := gd_in ho (by decide) k
theorem g04 {α : Type} (k : Option α) : gd (0 : Int32) 4 k = k := if_neg (by decide)
theorem g14 {α : Type} (k : Option α) : gd (1 : Int32) 4 k = k := if_neg (by decide)
theorem g24 {α : Type} (k : Option α) : gd (2 : Int32) 4 k = k := if_neg (by decide)
theorem g34 {α : Type} (k : Option α) : gd (3 : Int32) 4 k = k := if_neg (by decide)
/-! numbers of one output -/
section AON
variable {n K : Nat} {Z O : Nat → Int64}
theorem on_2 (hn : n ≤ 4) (hk : OKs n K Z O) (A F : Nat → Int32) {o : Nat} (ho : o < 4) : onV n K Z O A F o 2 = nI (ocb (bmN (2 ^ n) (fun r => decide (DV n K Z O o r = 1)))) := by
  show nI (pc (dn n K Z O o)) = _
  refine congrArg nI (pc_ocb (fun i hi => ?_) (bm_65 hn _))
  rw [ob_bits hn]
  cases q : tb (dn n K Z O o) i
  · rw [Bool.and_false]
  · rw [decide_eq_true (dn_sub hk ho i hi q)]; rfl
theorem un_b (hn : n ≤ 4) {o i : Nat} : tb (UN n K Z O o) i = decide (DV n K Z O o i = 3) := by
  unfold UN DV
  rw [tb_and]
  cases tb (al (fg n K) (Z o)) i <;> cases tb (al (fg n K) (O o)) i <;> rfl
theorem on_4 (hn : n ≤ 4) (hk : OKs n K Z O) (A F : Nat → Int32) {o : Nat} (ho : o < 4) : onV n K Z O A F o 4 = nI (ocb (bmN (2 ^ n) (fun r => decide (DV n K Z O o r = 3)))) := by
  show nI (pc (UN n K Z O o)) = _
  refine congrArg nI (pc_ocb (fun i hi => ?_) (bm_65 hn _))
  rw [bm_b, ← un_b hn]
  cases q : tb (UN n K Z O o) i
  · rw [Bool.and_false]
  · rw [decide_eq_true (UN_sub hk ho i hi q)]; rfl
theorem al_b3 (hn : n ≤ 4) {o i : Nat} (hi : i < 64) : tb ((dn n K Z O o ||| dz n K Z O o) ||| UN n K Z O o) i = !decide (DV n K Z O o i = 2) := by
  rw [tb_or, tb_or, dn_b _ _ _ _ _ hi, dz_b _ _ _ _ _ hi]
  unfold UN DV
  rw [tb_and]
  cases tb (al (fg n K) (Z o)) i <;> cases tb (al (fg n K) (O o)) i <;> rfl
theorem on_3 (hn : n ≤ 4) (hk : OKs n K Z O) (A F : Nat → Int32) {o : Nat} (ho : o < 4) : onV n K Z O A F o 3 = nI (ocb (bmN (2 ^ n) (fun r => decide (DV n K Z O o r = 2)))) := by
  have h16 := p16 hn
  show nI (2 ^ n) - nI (pc ((dn n K Z O o ||| dz n K Z O o) ||| UN n K Z O o)) = _
  have hp : pc ((dn n K Z O o ||| dz n K Z O o) ||| UN n K Z O o) = sumN (2 ^ n) (fun i => (!decide (DV n K Z O o i = 2)).toNat) := by
    refine pc_rows (by omega) _ (fun i hi => ?_)
    rw [← al_b3 hn hi]
    cases q : tb ((dn n K Z O o ||| dz n K Z O o) ||| UN n K Z O o) i
    · rw [Bool.and_false]
    · rw [tb_or, tb_or, Bool.or_eq_true, Bool.or_eq_true] at q
      rw [decide_eq_true (show i < 2 ^ n from by
        rcases q with (q | q) | q
        · exact dn_sub hk ho i hi q
        · exact dz_sub hk ho i hi q
        · exact UN_sub hk ho i hi q)]
      rfl
  have hs : sumN (2 ^ n) (fun i => (decide (DV n K Z O o i = 2)).toNat) + sumN (2 ^ n) (fun i => (!decide (DV n K Z O o i = 2)).toNat) = 2 ^ n := by
    rw [← sumN_add, sumN_congr (g := fun _ => 1) (fun i _ => by cases decide (DV n K Z O o i = 2) <;> rfl), sumN_one]
  rw [hp, ocb_bm h16, pk_sub (by omega)]
  exact congrArg nI (by omega)
theorem pd_0 {o i c : Nat} (hi : i < SZ n K Z O o) (hc : CC n K Z O o i = c) : pdV n K Z O o i 0 = nI (c / 64) := by
  subst hc
  exact if_pos hi
theorem pd_1 {o i c : Nat} (hi : i < SZ n K Z O o) (hc : CC n K Z O o i = c) : pdV n K Z O o i 1 = nI (c % 64) := by
  subst hc
  exact if_pos hi
end AON
section AGR
variable {n K k : Nat} {Z O : Nat → Int64} {asks hours : Int32} {A F : Nat → Int32} {nn tr al fa co cs : Nat → Int32} {p1 : Nat → Int64} {p2 : Nat → Int32} {p3 : Nat → Int64} {p4 vi vu vp vs vc : Int32} {vz vo vn va : Nat → Int64} {vq vk vd : Nat → Int32}
theorem ag_at (h : LW n K Z O asks hours A F k nn tr al fa) (hc : ∀ o, o < 4 → LC n K Z O co cs o) (hw : VW n K Z O vi vu vp vs vc vz vo vn va vq vk vd) (y : Int32) {o : Nat} (ho : o < 4) (k3 : Int32 → Int32 → (Nat → Int64) → (Nat → Int32) → (Nat → Int64) → Int32 → Int32 → Int32 → Int32 → Int32 → Int32 → (Nat → Int64) → (Nat → Int64) → (Nat → Int64) → (Nat → Int64) → (Nat → Int32) → (Nat → Int32) → (Nat → Int32) → Option (Int32 × Int32 × (Nat → Int64) × (Nat → Int32) × (Nat → Int64) × Int32 × Int32 × Int32 × Int32 × Int32 × Int32 × (Nat → Int64) × (Nat → Int64) × (Nat → Int64) × (Nat → Int64) × (Nat → Int32) × (Nat → Int32) × (Nat → Int32))) : fL_agree_J194 y (nI o) 0 (nI n) (nI K) asks hours Z O A F (nI k) p1 p2 p3 p4 vi vu vp vs vc vz vo vn va vq vk vd nn tr al fa co cs k3 = k3 (nI (o + 1)) 0 p1 p2 p3 p4 vi vu vp vs vc vz vo vn va vq vk vd := by
  obtain ⟨hn, hk, h6, hnv, ht, haf⟩ := id h
  have h16 := p16 hn
  have hpos := Nat.two_pow_pos n
  obtain ⟨r, hr, er⟩ := lg_at (y >>> ((2 * nI o) &&& 31)) (y := 2 ^ n) hpos (by omega)
  have er : fL_at (y >>> ((2 * nI o) &&& 31)) ((1 : Int32) <<< ((nn ((0 : Int32)).toNatClampNeg) &&& 31)) = some (nI r) := by
    rw [c0_, hnv.1, sh_n (by omega)]; exact er
  unfold fL_agree_J194
  refine (g05 _).trans ?_
  refine bd_go er ?_
  refine sg_go (cq_at hn hw p1 p2 p3 p4 ho hr (w := 0) (by decide)) ?_
  refine (gix ho (by omega) _).trans ?_
  refine if_go (show rnV n K Z O o r 0 = tr ((16 * nI o) + nI r).toNatClampNeg from by rw [ix16, nI_clamp (by omega), ht o ho r hr]; rfl) ?_
  refine sg_go (cq_at hn hw p1 p2 p3 p4 ho hr (w := 1) (by decide)) ?_
  refine (g15 _).trans ?_
  refine bd_go (show fL_decided nn tr (nI o) (nI r) (nn ((1 : Int32)).toNatClampNeg) = some (DV n K Z O o r) from by rw [c1_, hnv.2.1]; exact lg_dec hn hnv.1 hk ht ho hr hk.2.2.1) ?_
  refine if_go (show rnV n K Z O o r 1 = DV n K Z O o r from rfl) ?_
  refine sg_go (cq_at hn hw p1 p2 p3 p4 ho hr (w := 2) (by decide)) ?_
  refine bd_go (lg_answer hn hk ho (hc o ho) hr) ?_
  refine if_go (show rnV n K Z O o r 2 = bI (tb (AN n K Z O o) r) from rfl) ?_
  exact congrArg (fun z => k3 z 0 p1 p2 p3 p4 vi vu vp vs vc vz vo vn va vq vk vd) (nI_1 o)
theorem ag_prod (h : LW n K Z O asks hours A F k nn tr al fa) (hc : ∀ o, o < 4 → LC n K Z O co cs o) (hw : VW n K Z O vi vu vp vs vc vz vo vn va vq vk vd) (y : Int32) {o : Nat} (ho : o < 4) (k3 : Int32 → Int32 → (Nat → Int64) → (Nat → Int32) → (Nat → Int64) → Int32 → Int32 → Int32 → Int32 → Int32 → Int32 → (Nat → Int64) → (Nat → Int64) → (Nat → Int64) → (Nat → Int64) → (Nat → Int32) → (Nat → Int32) → (Nat → Int32) → Option (Int32 × Int32 × (Nat → Int64) × (Nat → Int32) × (Nat → Int64) × Int32 × Int32 × Int32 × Int32 × Int32 × Int32 × (Nat → Int64) × (Nat → Int64) × (Nat → Int64) × (Nat → Int64) × (Nat → Int32) × (Nat → Int32) × (Nat → Int32))) : ∀ d i, i + d = SZ n K Z O o → ∀ fuel, d < fuel → fL_agree_L124 y (nI o) (nI n) (nI K) asks hours Z O A F (nI k) nn tr al fa co cs k3 fuel (nI i) 0 p1 p2 p3 p4 vi vu vp vs vc vz vo vn va vq vk vd = fL_agree_J194 y (nI o) 0 (nI n) (nI K) asks hours Z O A F (nI k) p1 p2 p3 p4 vi vu vp vs vc vz vo vn va vq vk vd nn tr al fa co cs k3 := by
  obtain ⟨hn, hk, h6, hnv, ht, haf⟩ := id h
  have h16 := p16 hn
  have hsz := SZ_16 hn hk ho
  have hcs : cs (nI o).toNatClampNeg = nI (SZ n K Z O o) := by rw [nI_clamp (by omega)]; exact (hc o ho).1
  intro d
  induction d with
  | zero =>
    intro i hi fuel hf
    obtain ⟨f, rfl⟩ : ∃ f, fuel = f + 1 := ⟨fuel - 1, by omega⟩
    rw [fL_agree_L124]
    refine (go4 ho _).trans ?_
    exact if_pos (by rw [hcs]; exact nI_le (by omega) (by omega))
  | succ d ih =>
    intro i hi fuel hf
    obtain ⟨f, rfl⟩ : ∃ f, fuel = f + 1 := ⟨fuel - 1, by omega⟩
    have hiS : i < SZ n K Z O o := by omega
    have hco : co ((16 * nI o) + nI i).toNatClampNeg = nI (CC n K Z O o i) := by
      rw [ix16, nI_clamp (by omega)]; exact (hc o ho).2 i hiS
    have hcc := (CC_ok hk ho hiS).1
    have hq0 := fun c (e : CC n K Z O o i = c) => pd_0 (n := n) (K := K) (Z := Z) (O := O) hiS e
    have hq1 := fun c (e : CC n K Z O o i = c) => pd_1 (n := n) (K := K) (Z := Z) (O := O) hiS e
    obtain ⟨cc, hE⟩ : ∃ cc, CC n K Z O o i = cc := ⟨_, rfl⟩
    have hq0 := hq0 cc hE
    have hq1 := hq1 cc hE
    rw [hE] at hco hcc
    have e0 : pdV n K Z O o i 0 = co ((16 * nI o) + nI i).toNatClampNeg / 64 := by rw [hq0, hco, d64 (by omega)]
    have e1 : pdV n K Z O o i 1 = co ((16 * nI o) + nI i).toNatClampNeg - co ((16 * nI o) + nI i).toNatClampNeg / 64 * 64 := by rw [hq1, hco, r64 (by omega)]
    have c0 := cq_prod hk hw p1 p2 p3 p4 ho (show i < 64 by omega) (w := 0) (by decide)
    have c1 := cq_prod hk hw p1 p2 p3 p4 ho (show i < 64 by omega) (w := 1) (by decide)
    generalize pdV n K Z O o i 0 = d0 at e0 c0
    generalize pdV n K Z O o i 1 = d1 at e1 c1
    rw [fL_agree_L124]
    refine (go4 ho _).trans ?_
    refine (if_neg (show ¬ cs (nI o).toNatClampNeg ≤ nI i from by rw [hcs]; exact nI_ge hiS (by omega))).trans ?_
    refine sg_go c0 ?_
    refine (gix ho (by omega) _).trans ?_
    refine if_go e0 ?_
    refine sg_go c1 ?_
    refine (gix ho (by omega) _).trans ?_
    refine if_go e1 ?_
    exact (congrArg (fun z => fL_agree_L124 y (nI o) (nI n) (nI K) asks hours Z O A F (nI k) nn tr al fa co cs k3 f z 0 p1 p2 p3 p4 vi vu vp vs vc vz vo vn va vq vk vd) (nI_1 i)).trans (ih (i + 1) (by omega) f (by omega))
theorem ag_row (h : LW n K Z O asks hours A F k nn tr al fa) (hc : ∀ o, o < 4 → LC n K Z O co cs o) (hw : VW n K Z O vi vu vp vs vc vz vo vn va vq vk vd) (y : Int32) {o : Nat} (ho : o < 4) (f : Nat) : fL_agree_L3 y (nI n) (nI K) asks hours Z O A F (nI k) nn tr al fa co cs (f + 1) (nI o) 0 p1 p2 p3 p4 vi vu vp vs vc vz vo vn va vq vk vd = fL_agree_L3 y (nI n) (nI K) asks hours Z O A F (nI k) nn tr al fa co cs f (nI (o + 1)) 0 p1 p2 p3 p4 vi vu vp vs vc vz vo vn va vq vk vd := by
  obtain ⟨hn, hk, h6, hnv, ht, haf⟩ := id h
  have hsz := SZ_16 hn hk ho
  have hcl : (nI o).toNatClampNeg = o := nI_clamp (by omega)
  rw [fL_agree_L3]
  refine (if_neg (n4 ho)).trans ?_
  refine sg_go (cq_out hk hw A F p1 p2 p3 p4 ho (w := 2) (by decide)) ?_
  refine bd_go (lg_those hn hnv.1 hnv.2.1 hk ht ho 1) ?_
  refine bd_go (lg_ones (bm_65 hn _)) ?_
  refine if_go (on_2 hn hk A F ho) ?_
  refine sg_go (cq_out hk hw A F p1 p2 p3 p4 ho (w := 3) (by decide)) ?_
  refine bd_go (lg_those hn hnv.1 hnv.2.1 hk ht ho 2) ?_
  refine bd_go (lg_ones (bm_65 hn _)) ?_
  refine if_go (on_3 hn hk A F ho) ?_
  refine sg_go (cq_out hk hw A F p1 p2 p3 p4 ho (w := 4) (by decide)) ?_
  refine bd_go (lg_those hn hnv.1 hnv.2.1 hk ht ho 3) ?_
  refine bd_go (lg_ones (bm_65 hn _)) ?_
  refine if_go (on_4 hn hk A F ho) ?_
  refine sg_go (cq_out hk hw A F p1 p2 p3 p4 ho (w := 6) (by decide)) ?_
  refine (go4 ho _).trans ?_
  refine if_go (show nI (SZ n K Z O o) = cs (nI o).toNatClampNeg from by rw [hcl]; exact (hc o ho).1.symm) ?_
  refine sg_go (cq_out hk hw A F p1 p2 p3 p4 ho (w := 8) (by decide)) ?_
  refine (go4 ho _).trans ?_
  refine if_go (show A o = al (nI o).toNatClampNeg from by rw [hcl]; exact (haf o ho).1.symm) ?_
  refine sg_go (cq_out hk hw A F p1 p2 p3 p4 ho (w := 9) (by decide)) ?_
  refine (go4 ho _).trans ?_
  refine if_go (show F o = fa (nI o).toNatClampNeg from by rw [hcl]; exact (haf o ho).2.symm) ?_
  refine Eq.trans (ag_prod h hc hw y ho (fL_agree_L3 y (nI n) (nI K) asks hours Z O A F (nI k) nn tr al fa co cs f) (SZ n K Z O o) 0 (Nat.zero_add _) 5000 (by omega)) ?_
  exact ag_at h hc hw y ho _
theorem ag_end (h : LW n K Z O asks hours A F k nn tr al fa) (hw : VW n K Z O vi vu vp vs vc vz vo vn va vq vk vd) (y : Int32) : fL_agree_J288 y 0 (nI n) (nI K) asks hours Z O A F (nI k) p1 p2 p3 p4 vi vu vp vs vc vz vo vn va vq vk vd nn tr al fa = some (1, 0, p1, p2, p3, p4, vi, vu, vp, vs, vc, vz, vo, vn, va, vq, vk, vd) := by
  obtain ⟨hn, hk, h6, hnv, ht, haf⟩ := id h
  obtain ⟨h0, h1, h2, h3, h4⟩ := hnv
  obtain ⟨o, ho, eo⟩ := lg_at y (y := 4) (by decide) (by decide)
  have eo : fL_at y 4 = some (nI o) := eo
  have hsum : ∀ (B b : Nat → Int32), (∀ o, o < 4 → b o = B o) → 0 + B 0 + B 1 + B 2 + B 3 = (((b ((0 : Int32)).toNatClampNeg) + (b ((1 : Int32)).toNatClampNeg)) + (b ((2 : Int32)).toNatClampNeg)) + (b ((3 : Int32)).toNatClampNeg) := by
    intro B b hb
    rw [c0_, c1_, c2_, c3_, hb 0 (by decide), hb 1 (by decide), hb 2 (by decide), hb 3 (by decide), Int32.zero_add]
  unfold fL_agree_J288
  refine bd_go eo ?_
  refine sg_go (cq_out hk hw A F p1 p2 p3 p4 ho (w := 5) (by decide)) ?_
  refine bd_go (lg_primes hn h0 h1 hk ht ho) ?_
  refine if_go (show onV n K Z O A F o 5 = nI (PN n K Z O o) from rfl) ?_
  refine sg_go (cq_count hw asks hours A F (nI k) p1 p2 p3 p4 (w := 0) (by decide)) ?_
  refine (g05 _).trans ?_
  refine if_go (show nI n = nn ((0 : Int32)).toNatClampNeg from by rw [c0_]; exact h0.symm) ?_
  refine sg_go (cq_count hw asks hours A F (nI k) p1 p2 p3 p4 (w := 1) (by decide)) ?_
  refine (g15 _).trans ?_
  refine if_go (show nI K = nn ((1 : Int32)).toNatClampNeg from by rw [c1_]; exact h1.symm) ?_
  refine sg_go (cq_count hw asks hours A F (nI k) p1 p2 p3 p4 (w := 2) (by decide)) ?_
  refine (g15 _).trans ?_
  refine bd_go (show fL_undecided nn tr (nn ((1 : Int32)).toNatClampNeg) = some (nI (up (fg n K) Z O)) from by rw [c1_, h1]; exact lg_und hn h0 hk ht hk.2.2.1) ?_
  refine if_go (show mzV n K Z O asks hours A F (nI k) 2 = nI (up (fg n K) Z O) from rfl) ?_
  refine sg_go (cq_count hw asks hours A F (nI k) p1 p2 p3 p4 (w := 6) (by decide)) ?_
  refine (g25 _).trans ?_
  refine if_go (show asks = nn ((2 : Int32)).toNatClampNeg from by rw [c2_]; exact h2.symm) ?_
  refine sg_go (cq_count hw asks hours A F (nI k) p1 p2 p3 p4 (w := 7) (by decide)) ?_
  refine (g04 _).trans ((g14 _).trans ((g24 _).trans ((g34 _).trans ?_)))
  refine if_go (hsum A al (fun o ho => (haf o ho).1)) ?_
  refine sg_go (cq_count hw asks hours A F (nI k) p1 p2 p3 p4 (w := 8) (by decide)) ?_
  refine (g04 _).trans ((g14 _).trans ((g24 _).trans ((g34 _).trans ?_)))
  refine if_go (hsum F fa (fun o ho => (haf o ho).2)) ?_
  refine sg_go (cq_count hw asks hours A F (nI k) p1 p2 p3 p4 (w := 9) (by decide)) ?_
  refine (g35 _).trans ?_
  refine if_go (show hours = nn ((3 : Int32)).toNatClampNeg from by rw [c3_]; exact h3.symm) ?_
  refine sg_go (cq_count hw asks hours A F (nI k) p1 p2 p3 p4 (w := 10) (by decide)) ?_
  refine (g45 _).trans ?_
  refine if_go (show nI k = nn ((4 : Int32)).toNatClampNeg from by rw [c4_]; exact h4.symm) ?_
  rfl
end AGR
theorem a_agree {n K k : Nat} {Z O : Nat → Int64} {asks hours : Int32} {A F : Nat → Int32} {nn tr al fa co cs : Nat → Int32} (h : LW n K Z O asks hours A F k nn tr al fa) (hc : ∀ o, o < 4 → LC n K Z O co cs o) (po : Int32) (p1 : Nat → Int64) (p2 : Nat → Int32) (p3 : Nat → Int64) (p4 vi vu vp vs vc : Int32) (vz vo vn va : Nat → Int64) (vq vk vd : Nat → Int32) (hw : po = 0 → VW n K Z O vi vu vp vs vc vz vo vn va vq vk vd) (y : Int32) : ∃ p1' p2' p3' p4' vi' vu' vp' vs' vc' vz' vo' vn' va' vq' vk' vd', fL_agree po (nI n) (nI K) asks hours Z O A F (nI k) p1 p2 p3 p4 vi vu vp vs vc vz vo vn va vq vk vd nn tr al fa co cs y = some (1, 0, p1', p2', p3', p4', vi', vu', vp', vs', vc', vz', vo', vn', va', vq', vk', vd') ∧ VW n K Z O vi' vu' vp' vs' vc' vz' vo' vn' va' vq' vk' vd' := by
  obtain ⟨p1', p2', p3', p4', vi', vu', vp', vs', vc', vz', vo', vn', va', vq', vk', vd', e1, hw'⟩ := cq_out1 h.2.1 po A F p1 p2 p3 p4 hw (o := 0) (w := 2) (by decide) (by decide)
  have e2 := cq_out h.2.1 hw' A F p1' p2' p3' p4' (o := 0) (w := 2) (by decide) (by decide)
  obtain ⟨G, hG⟩ : ∃ G : Int32 × Int32 × (Nat → Int64) × (Nat → Int32) × (Nat → Int64) × Int32 × Int32 × Int32 × Int32 × Int32 × Int32 × (Nat → Int64) × (Nat → Int64) × (Nat → Int64) × (Nat → Int64) × (Nat → Int32) × (Nat → Int32) × (Nat → Int32) → Option (Int32 × Int32 × (Nat → Int64) × (Nat → Int32) × (Nat → Int64) × Int32 × Int32 × Int32 × Int32 × Int32 × Int32 × (Nat → Int64) × (Nat → Int64) × (Nat → Int64) × (Nat → Int64) × (Nat → Int32) × (Nat → Int32) × (Nat → Int32)), ∀ (po : Int32) (p1 : Nat → Int64) (p2 : Nat → Int32) (p3 : Nat → Int64) (p4 vi vu vp vs vc : Int32) (vz vo vn va : Nat → Int64) (vq vk vd : Nat → Int32), fL_agree_L3 y (nI n) (nI K) asks hours Z O A F (nI k) nn tr al fa co cs (4999 + 1) (nI 0) po p1 p2 p3 p4 vi vu vp vs vc vz vo vn va vq vk vd = sg (fX6_output po (nI n) (nI K) Z O A F p1 p2 p3 p4 vi vu vp vs vc vz vo vn va vq vk vd (nI 0) (nI 2)) G := by
    refine ⟨?_, fun po p1 p2 p3 p4 vi vu vp vs vc vz vo vn va vq vk vd => ?_⟩
    rotate_left
    · rw [fL_agree_L3]
      exact if_neg (n4 (i := 0) (by decide))
  refine ⟨p1', p2', p3', p4', vi', vu', vp', vs', vc', vz', vo', vn', va', vq', vk', vd', ?_, hw'⟩
  have r0 : fL_agree_L3 y (nI n) (nI K) asks hours Z O A F (nI k) nn tr al fa co cs (4999 + 1) (nI 0) po p1 p2 p3 p4 vi vu vp vs vc vz vo vn va vq vk vd = fL_agree_L3 y (nI n) (nI K) asks hours Z O A F (nI k) nn tr al fa co cs (4999 + 1) (nI 0) 0 p1' p2' p3' p4' vi' vu' vp' vs' vc' vz' vo' vn' va' vq' vk' vd' := by
    rw [hG, hG, e1, e2]
  have r1 := ag_row (p1 := p1') (p2 := p2') (p3 := p3') (p4 := p4') h hc hw' y (o := 0) (by decide) 4999
  have r2 := ag_row (p1 := p1') (p2 := p2') (p3 := p3') (p4 := p4') h hc hw' y (o := 1) (by decide) 4998
  have r3 := ag_row (p1 := p1') (p2 := p2') (p3 := p3') (p4 := p4') h hc hw' y (o := 2) (by decide) 4997
  have r4 := ag_row (p1 := p1') (p2 := p2') (p3 := p3') (p4 := p4') h hc hw' y (o := 3) (by decide) 4996
  unfold fL_agree
  refine Eq.trans r0 (r1.trans (r2.trans (r3.trans (r4.trans ?_))))
  show fL_agree_L3 y (nI n) (nI K) asks hours Z O A F (nI k) nn tr al fa co cs (4995 + 1) (nI 4) 0 p1' p2' p3' p4' vi' vu' vp' vs' vc' vz' vo' vn' va' vq' vk' vd' = _
  rw [fL_agree_L3]
  exact (if_pos p4_).trans (ag_end h hw' y)
