/-! the law, from its first call on -/
theorem cell_ok (xs : Nat → Int32) {L : Nat} (hL : L ≤ 260) {i : Nat} (hi : i < 2 ^ 31) : ∃ v, fL_cell xs L (nI i) = some v := by
  unfold fL_cell
  by_cases h : L ≤ i
  · rw [if_pos (show Int32.ofNat L ≤ nI i from nI_le h hi)]
    exact ⟨_, rfl⟩
  · rw [if_neg (show ¬ Int32.ofNat L ≤ nI i from nI_ge (by omega) (by omega)), gd_in (show i < L by omega) (by omega)]
    exact ⟨_, rfl⟩
/-- the covers of all outputs, laid one after the other -/
theorem cov4 {n K : Nat} (hn : n ≤ 4) {nn : Nat → Int32} (h0 : nn 0 = nI n) (h1 : nn 1 = nI K) {Z O : Nat → Int64} (hk : OKs n K Z O) {tr : Nat → Int32} (ht : TR n Z O tr) {ρ : Type} (G : Nat → Int32 → (Nat → Int32) → (Nat → Int32) → Option ρ) (hG : ∀ f o, o < 4 → ∀ co cs co' cs', fL_cover nn tr co cs (nI o) = some (co', cs') → G (f + 1) (nI o) co cs = G f (nI (o + 1)) co' cs') : ∀ d o, o + d = 4 → ∀ fuel, d < fuel → ∀ co cs, (∀ p, p < o → LC n K Z O co cs p) → ∃ f co' cs', G fuel (nI o) co cs = G (f + 1) (nI 4) co' cs' ∧ ∀ p, p < 4 → LC n K Z O co' cs' p := by
  intro d
  induction d with
  | zero =>
    intro o ho fuel hf co cs hc
    obtain ⟨f, rfl⟩ : ∃ f, fuel = f + 1 := ⟨fuel - 1, by omega⟩
    have e : o = 4 := by omega
    subst e
    exact ⟨f, co, cs, rfl, hc⟩
  | succ d ih =>
    intro o ho fuel hf co cs hc
    obtain ⟨f, rfl⟩ : ∃ f, fuel = f + 1 := ⟨fuel - 1, by omega⟩
    obtain ⟨co', cs', e1, c1, c2, c3⟩ := lg_cover hn h0 h1 hk ht (show o < 4 by omega) co cs
    obtain ⟨f', co2, cs2, e2, h2⟩ := ih (o + 1) (by omega) f (by omega) co' cs' (fun p hp => by
      by_cases e : p = o
      · rw [e]; exact c1
      · have hpo : p < o := by omega
        have hsz := SZ_16 hn hk (show p < 4 by omega)
        obtain ⟨l1, l2⟩ := hc p hpo
        refine ⟨(c3 p e).trans l1, fun j hj => ?_⟩
        rw [c2 _ (by omega)]
        exact l2 j hj)
    exact ⟨f', co2, cs2, (hG f o (by omega) co cs co' cs' e1).trans e2, h2⟩
section LLP
variable {n K k : Nat} {Z O : Nat → Int64} {asks hours : Int32} {A F : Nat → Int32} {nn tr al fa : Nat → Int32}
theorem law_215 (xs : Nat → Int32) (L : Nat) (h : LW n K Z O asks hours A F k nn tr al fa) (po : Int32) (p1 : Nat → Int64) (p2 : Nat → Int32) (p3 : Nat → Int64) (p4 vi vu vp vs vc : Int32) (vz vo vn va : Nat → Int64) (vq vk vd : Nat → Int32) (hw : po = 0 → VW n K Z O vi vu vp vs vc vz vo vn va vq vk vd) (co cs : Nat → Int32) (hv : Nat → SV) (a : Nat) (y : Int32) (k82 : Int32 → Int32 → Int32 → Int32 → Int32 → (Nat → Int64) → (Nat → Int64) → (Nat → Int32) → (Nat → Int32) → Int32 → (Nat → Int64) → (Nat → Int32) → (Nat → Int64) → Int32 → Int32 → Int32 → Int32 → Int32 → Int32 → (Nat → Int64) → (Nat → Int64) → (Nat → Int64) → (Nat → Int64) → (Nat → Int32) → (Nat → Int32) → (Nat → Int32) → (Nat → Int32) → (Nat → Int32) → (Nat → Int32) → (Nat → Int32) → (Nat → Int32) → (Nat → Int32) → (Nat → SV) → Option Unit) (hkk : ∀ (p1 : Nat → Int64) (p2 : Nat → Int32) (p3 : Nat → Int64) (p4 vi vu vp vs vc : Int32) (vz vo vn va : Nat → Int64) (vq vk vd : Nat → Int32) (co cs : Nat → Int32), VW n K Z O vi vu vp vs vc vz vo vn va vq vk vd → k82 (nI (a + 1)) 0 (nI K) asks hours Z O A F (nI k) p1 p2 p3 p4 vi vu vp vs vc vz vo vn va vq vk vd nn tr al fa co cs hv = some ()) : fL_law_J215 xs L (nI a) y po (nI n) (nI K) asks hours Z O A F (nI k) p1 p2 p3 p4 vi vu vp vs vc vz vo vn va vq vk vd nn tr al fa co cs hv k82 = some () := by
  obtain ⟨hn, hk, h6, hnv, ht, haf⟩ := id h
  obtain ⟨f, co', cs', e1, hc⟩ := cov4 hn hnv.1 hnv.2.1 hk ht (fun f o co cs => fL_law_L218 xs L (nI a) y po (nI n) (nI K) asks hours Z O A F (nI k) p1 p2 p3 p4 vi vu vp vs vc vz vo vn va vq vk vd nn tr al fa hv k82 f o co cs) (fun f o ho co cs co' cs' e => by
    show fL_law_L218 xs L (nI a) y po (nI n) (nI K) asks hours Z O A F (nI k) p1 p2 p3 p4 vi vu vp vs vc vz vo vn va vq vk vd nn tr al fa hv k82 (f + 1) (nI o) co cs = _
    rw [fL_law_L218, if_neg (n4 ho), e, Option.bind_some, nI_1]) 4 0 rfl 5000 (by decide) co cs (fun p hp => absurd hp (Nat.not_lt_zero p))
  obtain ⟨p1', p2', p3', p4', vi', vu', vp', vs', vc', vz', vo', vn', va', vq', vk', vd', e2, hw'⟩ := a_agree h hc po p1 p2 p3 p4 vi vu vp vs vc vz vo vn va vq vk vd hw y
  unfold fL_law_J215
  refine Eq.trans e1 ?_
  show fL_law_L218 xs L (nI a) y po (nI n) (nI K) asks hours Z O A F (nI k) p1 p2 p3 p4 vi vu vp vs vc vz vo vn va vq vk vd nn tr al fa hv k82 (f + 1) (nI 4) co' cs' = _
  rw [fL_law_L218, if_pos p4_]
  unfold fL_law_J241
  refine bd_go e2 ?_
  refine (if_neg (show ¬ (1 : Int32) = 0 by decide)).trans ?_
  exact (congrArg (fun z => k82 z 0 (nI K) asks hours Z O A F (nI k) p1' p2' p3' p4' vi' vu' vp' vs' vc' vz' vo' vn' va' vq' vk' vd' nn tr al fa co' cs' hv) (nI_1 a)).trans (hkk p1' p2' p3' p4' vi' vu' vp' vs' vc' vz' vo' vn' va' vq' vk' vd' co' cs' hw')
end LLP
theorem law_loop (xs : Nat → Int32) {L : Nat} (hL : L ≤ 260) {n : Nat} : ∀ d j, j + d = 25 → ∀ fuel, d < fuel → ∀ (K k : Nat) (Z O : Nat → Int64) (asks hours : Int32) (A F : Nat → Int32) (nn tr al fa co cs : Nat → Int32) (po : Int32) (p1 : Nat → Int64) (p2 : Nat → Int32) (p3 : Nat → Int64) (p4 vi vu vp vs vc : Int32) (vz vo vn va : Nat → Int64) (vq vk vd : Nat → Int32) (hv : Nat → SV), LW n K Z O asks hours A F k nn tr al fa → (po = 0 → VW n K Z O vi vu vp vs vc vz vo vn va vq vk vd) → fL_law_L82 xs L (nI n) fuel (nI (1 + j)) po (nI K) asks hours Z O A F (nI k) p1 p2 p3 p4 vi vu vp vs vc vz vo vn va vq vk vd nn tr al fa co cs hv = some () := by
  intro d
  induction d with
  | zero =>
    intro j hj fuel hf K k Z O asks hours A F nn tr al fa co cs po p1 p2 p3 p4 vi vu vp vs vc vz vo vn va vq vk vd hv h hw
    obtain ⟨f, rfl⟩ : ∃ f, fuel = f + 1 := ⟨fuel - 1, by omega⟩
    have e : j = 25 := by omega
    subst e
    rw [fL_law_L82]
    exact if_pos (by decide)
  | succ d ih =>
    intro j hj fuel hf K k Z O asks hours A F nn tr al fa co cs po p1 p2 p3 p4 vi vu vp vs vc vz vo vn va vq vk vd hv h hw
    obtain ⟨f, rfl⟩ : ∃ f, fuel = f + 1 := ⟨fuel - 1, by omega⟩
    have ih := ih (j + 1) (by omega) f (by omega)
    obtain ⟨hn, hk, h6, hnv, ht, haf⟩ := id h
    obtain ⟨x, ex⟩ := cell_ok xs hL (i := 2 * (1 + j)) (by omega)
    obtain ⟨y, ey⟩ := cell_ok xs hL (i := 2 * (1 + j) + 1) (by omega)
    have ex : fL_cell xs L (2 * nI (1 + j)) = some x := by rw [show (2 : Int32) * nI (1 + j) = nI (2 * (1 + j)) from pk_mul 2 (1 + j)]; exact ex
    have ey : fL_cell xs L ((2 * nI (1 + j)) + 1) = some y := by rw [show (2 : Int32) * nI (1 + j) = nI (2 * (1 + j)) from pk_mul 2 (1 + j), nI_1]; exact ey
    obtain ⟨act, hact, ea⟩ := lg_at (x >>> ((20 : Int32) &&& 31)) (y := 8) (by decide) (by decide)
    have ea : fL_at (x >>> ((20 : Int32) &&& 31)) 8 = some (nI act) := ea
    obtain ⟨f', co', cs', e1, hc⟩ := cov4 hn hnv.1 hnv.2.1 hk ht (fun f' o co cs => fL_law_L126 xs L (nI (1 + j)) x y (nI act) po (nI n) (nI K) asks hours Z O A F (nI k) p1 p2 p3 p4 vi vu vp vs vc vz vo vn va vq vk vd nn tr al fa hv (fL_law_L82 xs L (nI n) f) f' o co cs) (fun f' o ho co cs co' cs' e => by
      show fL_law_L126 xs L (nI (1 + j)) x y (nI act) po (nI n) (nI K) asks hours Z O A F (nI k) p1 p2 p3 p4 vi vu vp vs vc vz vo vn va vq vk vd nn tr al fa hv (fL_law_L82 xs L (nI n) f) (f' + 1) (nI o) co cs = _
      rw [fL_law_L126, if_neg (n4 ho), e, Option.bind_some, nI_1]) 4 0 rfl 5000 (by decide) co cs (fun p hp => absurd hp (Nat.not_lt_zero p))
    rw [fL_law_L82]
    refine (if_neg (show ¬ (26 : Int32) ≤ nI (1 + j) from nI_ge (b := 26) (by omega) (by decide))).trans ?_
    refine bd_go ex ?_
    refine bd_go ey ?_
    refine bd_go ea ?_
    refine Eq.trans e1 ?_
    show fL_law_L126 xs L (nI (1 + j)) x y (nI act) po (nI n) (nI K) asks hours Z O A F (nI k) p1 p2 p3 p4 vi vu vp vs vc vz vo vn va vq vk vd nn tr al fa hv (fL_law_L82 xs L (nI n) f) (f' + 1) (nI 4) co' cs' = _
    rw [fL_law_L126, if_pos p4_]
    unfold fL_law_J149
    by_cases q1 : act < 5
    · refine (if_neg (show ¬ (5 : Int32) ≤ nI act from nI_ge (b := 5) q1 (by decide))).trans ?_
      obtain ⟨Z', O', hv', nn', tr', e2, h2⟩ := a_changes (hv := hv) h x y
      refine bd_go e2 ?_
      refine (if_neg (show ¬ (1 : Int32) = 0 by decide)).trans ?_
      exact law_215 xs L h2 1 p1 p2 p3 p4 vi vu vp vs vc vz vo vn va vq vk vd (fun z => absurd z (by decide)) co' cs' hv' (1 + j) y _ (fun p1' p2' p3' p4' vi' vu' vp' vs' vc' vz' vo' vn' va' vq' vk' vd' co2 cs2 hw2 => ih K (kn k) Z' O' asks hours A F nn' tr' al fa co2 cs2 0 p1' p2' p3' p4' vi' vu' vp' vs' vc' vz' vo' vn' va' vq' vk' vd' hv' h2 (fun _ => hw2))
    · refine (if_pos (show (5 : Int32) ≤ nI act from nI_le (a := 5) (by omega) (by omega))).trans ?_
      by_cases q2 : act < 7
      · refine (if_neg (show ¬ (7 : Int32) ≤ nI act from nI_ge (b := 7) q2 (by decide))).trans ?_
        obtain ⟨K', hours', hv', nn', e2, h2⟩ := a_forgets (hv := hv) h x y
        refine bd_go e2 ?_
        refine (if_neg (show ¬ (1 : Int32) = 0 by decide)).trans ?_
        exact law_215 xs L h2 1 p1 p2 p3 p4 vi vu vp vs vc vz vo vn va vq vk vd (fun z => absurd z (by decide)) co' cs' hv' (1 + j) y _ (fun p1' p2' p3' p4' vi' vu' vp' vs' vc' vz' vo' vn' va' vq' vk' vd' co2 cs2 hw2 => ih K' (kn k) Z O asks hours' A F nn' tr al fa co2 cs2 0 p1' p2' p3' p4' vi' vu' vp' vs' vc' vz' vo' vn' va' vq' vk' vd' hv' h2 (fun _ => hw2))
      · refine (if_pos (show (7 : Int32) ≤ nI act from nI_le (a := 7) (by omega) (by omega))).trans ?_
        obtain ⟨A', F', q1, q2, q3, q4, wi, wu, wp, ws, wc, wz, wo, wn, wa, wq, wk, wd, hv', nn', al', fa', e2, h2, hw2⟩ := a_asks (hv := hv) h hc po p1 p2 p3 p4 vi vu vp vs vc vz vo vn va vq vk vd hw y
        refine bd_go e2 ?_
        refine (if_neg (show ¬ (1 : Int32) = 0 by decide)).trans ?_
        exact law_215 xs L h2 0 q1 q2 q3 q4 wi wu wp ws wc wz wo wn wa wq wk wd (fun _ => hw2) co' cs' hv' (1 + j) y _ (fun p1' p2' p3' p4' vi' vu' vp' vs' vc' vz' vo' vn' va' vq' vk' vd' co2 cs2 hw3 => ih K (kn k) Z O (asks + 1) hours A' F' nn' tr al' fa' co2 cs2 0 p1' p2' p3' p4' vi' vu' vp' vs' vc' vz' vo' vn' va' vq' vk' vd' hv' h2 (fun _ => hw3))
def dv0 : Nat → SV := fun _ => (0, 0, 0, 0, fun _ => 0, fun _ => 0, fun _ => 0, fun _ => 0)
theorem law_all (xs : Nat → Int32) {L : Nat} (hL : L ≤ 260) (Z O : Nat → Int64) : fL_law xs L (nI 4) (nI 15) 0 0 Z O (fun _ => 0) (fun _ => 0) 0 (fun _ => 0) (fun _ => 0) (fun _ => 0) 0 0 0 0 0 0 (fun _ => 0) (fun _ => 0) (fun _ => 0) (fun _ => 0) (fun _ => 0) (fun _ => 0) (fun _ => 0) (fun _ => 0) (fun _ => 0) (fun _ => 0) (fun _ => 0) (fun _ => 0) (fun _ => 0) dv0 = some () := by
  obtain ⟨q, eq⟩ := cell_ok xs hL (i := 0) (by decide)
  have eq : fL_cell xs L 0 = some q := eq
  obtain ⟨v, hv4, ev⟩ := lg_at q (y := 4) (by decide) (by decide)
  have ev : fL_at q 4 = some (nI v) := ev
  obtain ⟨n, en⟩ : ∃ n, n = 1 + v := ⟨_, rfl⟩
  have hn4 : n ≤ 4 := by omega
  have h16 := p16 hn4
  have hpos := Nat.two_pow_pos n
  have hnv : (1 : Int32) + nI v = nI n := by rw [en]; exact nI_add 1 v
  obtain ⟨w, Z', O', hv', e2, h2, hw⟩ := cs_begin (K := 15) (k := 0) (Z := Z) (O := O) (asks := 0) (hours := 0) (A := fun _ => 0) (F := fun _ => 0) (hv := dv0) (Nat.zero_le _) (v := n) (by omega) (by omega)
  unfold fL_law
  refine bd_go eq ?_
  refine bd_go ev ?_
  refine (g05 _).trans ((g05 _).trans ((g15 _).trans ?_))
  rw [lt_e, c0_, c1_, c4_, hnv, pk_us, sh_n (show n ≤ 6 by omega), show nI (2 ^ n) - 1 = nI (2 ^ n - 1) from pk_sub (b := 1) hpos]
  refine (g45 _).trans ((g05 _).trans ?_)
  have hx : upd (upd (upd (fun _ => 0) 0 (nI n)) 1 (nI (2 ^ n - 1))) 4 1 0 = nI n := (pk_un (by decide)).trans ((pk_un (by decide)).trans pk_us)
  rw [hx]
  refine sg_go e2 ?_
  refine if_go (show nI 4 = 4 from rfl) ?_
  have hLW : LW n (2 ^ n - 1) Z' O' 0 0 (fun _ => 0) (fun _ => 0) (kn 0) (upd (upd (upd (fun _ => 0) 0 (nI n)) 1 (nI (2 ^ n - 1))) 4 1) (fun _ => 0) (fun _ => 0) (fun _ => 0) := by
    refine ⟨hn4, ⟨by omega, by omega, by omega, fun o ho => ?_⟩, kn_le 0, ⟨hx, (pk_un (by decide)).trans pk_us, (pk_un (by decide)).trans ((pk_un (by decide)).trans (pk_un (by decide))), (pk_un (by decide)).trans ((pk_un (by decide)).trans (pk_un (by decide))), pk_us⟩, fun o ho r hr => ?_, fun o ho => ⟨rfl, rfl⟩⟩
    · rw [(h2 o ho).1, (h2 o ho).2]
      refine ⟨fun r hr hb => ?_, fun r hr hb => ?_, fun r hr hb => tb_0 r⟩
      · rw [hw r hr] at hb
        exact of_decide_eq_true hb
      · rw [tb_0] at hb
        exact absurd hb (by decide)
    · show (0 : Int32) = tOf Z' O' o r
      unfold tOf
      rw [(h2 o ho).1, (h2 o ho).2, tb_0, hw r (by omega), decide_eq_true hr]
      rfl
  exact law_loop xs hL 25 0 rfl 5000 (by decide) _ _ _ _ _ _ _ _ _ _ _ _ _ _ 1 _ _ _ _ _ _ _ _ _ _ _ _ _ _ _ _ _ hLW (fun z => absurd z (by decide))
