/-! the class's calls, as the law makes them -/
def kn (k : Nat) : Nat := if k < 6 then k + 1 else 6
theorem kn_le (k : Nat) : kn k ≤ 6 := by unfold kn; split <;> omega
theorem ck_o : ∀ o, o < 4 → fX6_checkOutput (nI o) = some (.inr ()) := by decide +kernel
theorem ck_r : ∀ n, n ≤ 4 → ∀ r, r < 2 ^ n → fX6_checkRow (nI n) (nI r) = some (.inr ()) := by decide +kernel
theorem ck_i : ∀ n, n ≤ 4 → ∀ i, i < n → fX6_checkInput (nI n) (nI i) = some (.inr ()) := by decide +kernel
theorem ck_2 : ∀ v, v ≤ 2 → fX6_checkRange (nI v) 0 2 = some (.inr ()) := by decide +kernel
theorem ck_16 : ∀ v, v ≤ 6 → 1 ≤ v → fX6_checkRange (nI v) 1 6 = some (.inr ()) := by decide +kernel
theorem ck_10 : ∀ v, v < 11 → fX6_checkRange (nI v) 0 10 = some (.inr ()) := by decide +kernel
theorem ck_63 : ∀ v, v < 64 → fX6_checkRange (nI v) 0 63 = some (.inr ()) := by decide +kernel
theorem ck_3 : ∀ v, v < 4 → fX6_checkRange (nI v) 0 3 = some (.inr ()) := by decide +kernel
section CSL
variable {n K k : Nat} {Z O : Nat → Int64} {asks hours : Int32} {A F : Nat → Int32} {hv : Nat → SV}
theorem cs_keep (h6 : k ≤ 6) (a b c d : Int32) (e f : Nat → Int64) (g h : Nat → Int32) (hv : Nat → SV) : ∃ hv', fX0_keep (nI k) a b c d e f g h hv = some (nI (kn k), hv') := by
  unfold fX0_keep kn
  by_cases q : k < 6
  · rw [if_neg (show ¬ (6 : Int32) ≤ nI k from nI_ge (b := 6) q (by decide)), if_pos q, nI_1]
    exact ⟨_, rfl⟩
  · have : k = 6 := by omega
    subst this
    rw [if_pos (by decide), if_neg q]
    exact ⟨_, rfl⟩
theorem cs_save (h6 : k ≤ 6) (a b c d : Int32) (e f : Nat → Int64) (g h : Nat → Int32) (hv : Nat → SV) : ∃ hv', fX6_saveBeforeChange a b c d e f g h (nI k) hv = some (1, nI (kn k), hv') := by
  obtain ⟨hv', e1⟩ := cs_keep h6 a b c d e f g h hv
  refine ⟨hv', ?_⟩
  unfold fX6_saveBeforeChange
  rw [e1, Option.bind_some]
theorem OKs_one (hk : OKs n K Z O) {o : Nat} {x y : Int64} (hx : subR n x) (hy : subR n y) (hd : ∀ r, r < 64 → tb x r = true → tb y r = false) : OKs n K (vp_updL Z o x) (vp_updL O o y) := by
  refine ⟨hk.1, hk.2.1, hk.2.2.1, fun p hp => ?_⟩
  by_cases e : p = o
  · subst e
    rw [pk_uLs, pk_uLs]
    exact ⟨hx, hy, hd⟩
  · rw [pk_uLn e, pk_uLn e]
    exact hk.2.2.2 p hp
theorem tOf_o (Z O : Nat → Int64) (o r : Nat) (x y : Int64) : tOf (vp_updL Z o x) (vp_updL O o y) o r = if tb y r = true then 1 else if tb x r = true then 0 else 2 := by
  unfold tOf
  rw [pk_uLs, pk_uLs]
theorem tOf_n (Z O : Nat → Int64) {o p : Nat} (h : p ≠ o) (r : Nat) (x y : Int64) : tOf (vp_updL Z o x) (vp_updL O o y) p r = tOf Z O p r := by
  unfold tOf
  rw [pk_uLn h, pk_uLn h]
theorem cs_set (hn : n ≤ 4) (hk : OKs n K Z O) (h6 : k ≤ 6) {o r v : Nat} (ho : o < 4) (hr : r < 2 ^ n) (hv2 : v ≤ 2) : ∃ Z' O' hv', fX6_set (nI n) (nI K) asks hours Z O A F (nI k) hv (nI o) (nI r) (nI v) = some (.inr (tOf Z O o r, 1, Z', O', nI (kn k), hv')) ∧ OKs n K Z' O' ∧ ∀ p, p < 4 → ∀ q, q < 2 ^ n → tOf Z' O' p q = if p = o ∧ q = r then nI v else tOf Z O p q := by
  have h16 := p16 hn
  have hr64 : r < 64 := by omega
  obtain ⟨hv', e7⟩ := cs_save h6 (nI n) (nI K) asks hours Z O A F hv
  obtain ⟨hz1, hz2, hz3⟩ := hk.2.2.2 o ho
  refine ⟨vp_updL Z o (if v = 0 then Z o ||| lsl_ 1 (nI r) else Z o &&& (lsl_ 1 (nI r) ^^^ (-1))), vp_updL O o (if v = 1 then O o ||| lsl_ 1 (nI r) else O o &&& (lsl_ 1 (nI r) ^^^ (-1))), hv', ?_, OKs_one hk ?_ ?_ ?_, fun p hp q hq => ?_⟩
  · unfold fX6_set
    rw [ck_o o ho, tb_r, ck_r n hn r hr, tb_r, ck_2 v hv2, tb_r, ta_cls Z O ho hr64, Option.bind_some, e7, Option.bind_some, gv_cls Z O ho _ hv2, Option.bind_some]
  · intro q hq hb
    rw [gv_b _ hr64 hq] at hb
    by_cases e : q = r
    · omega
    · rw [if_neg e] at hb
      exact hz1 q hq hb
  · intro q hq hb
    rw [gv_b _ hr64 hq] at hb
    by_cases e : q = r
    · omega
    · rw [if_neg e] at hb
      exact hz2 q hq hb
  · intro q hq hb
    rw [gv_b _ hr64 hq] at hb ⊢
    by_cases e : q = r
    · rw [if_pos e] at hb ⊢
      have := of_decide_eq_true hb
      exact decide_eq_false (by omega)
    · rw [if_neg e] at hb ⊢
      exact hz3 q hq hb
  · by_cases e : p = o
    · subst e
      rw [tOf_o, gv_b _ hr64 (by omega), gv_b _ hr64 (by omega)]
      by_cases e2 : q = r
      · subst e2
        rw [if_pos (show p = p ∧ q = q from ⟨rfl, rfl⟩), if_pos (show q = q from rfl), if_pos (show q = q from rfl)]
        rcases (show v = 0 ∨ v = 1 ∨ v = 2 by omega) with rfl | rfl | rfl <;> decide
      · rw [if_neg (show ¬ (p = p ∧ q = r) from fun z => e2 z.2), if_neg e2, if_neg e2]
        rfl
    · rw [tOf_n Z O e, if_neg (fun z => e z.1)]
theorem cs_invert (hn : n ≤ 4) (hk : OKs n K Z O) (h6 : k ≤ 6) {o : Nat} (ho : o < 4) : ∃ Z' O' hv', fX6_invert (nI n) (nI K) asks hours Z O A F (nI k) hv (nI o) = some (.inr (nI (pc (O' o)), 1, Z', O', nI (kn k), hv')) ∧ OKs n K Z' O' ∧ ∀ p, p < 4 → ∀ q, q < 2 ^ n → tOf Z' O' p q = if p = o then ivT (tOf Z O o q) else tOf Z O p q := by
  have h16 := p16 hn
  obtain ⟨hv', e7⟩ := cs_save h6 (nI n) (nI K) asks hours Z O A F hv
  obtain ⟨hz1, hz2, hz3⟩ := hk.2.2.2 o ho
  have et : fX3_turnAround Z O (nI o) = some (vp_updL Z o (O o), vp_updL O o (Z o)) := by
    unfold fX3_turnAround
    rw [io_1 o ho, Option.bind_some, if_neg z01, gd_in ho (by decide), gd_in ho (by decide), gd_in ho (by decide), gd_in ho (by decide), nI_clamp (by omega)]
  refine ⟨vp_updL Z o (O o), vp_updL O o (Z o), hv', ?_, OKs_one hk hz2 hz1 ?_, fun p hp q hq => ?_⟩
  · unfold fX6_invert
    rw [ck_o o ho, tb_r, e7, Option.bind_some, et, Option.bind_some, on_cls _ ho, Option.bind_some, pc_cls, Option.bind_some]
  · intro r hr hb
    cases q : tb (Z o) r
    · rfl
    · rw [hz3 r hr q] at hb
      exact absurd hb (by decide)
  · by_cases e : p = o
    · subst e
      rw [tOf_o, if_pos rfl]
      unfold tOf ivT
      have := hz3 q (by omega)
      revert this
      cases tb (Z p) q <;> cases tb (O p) q <;> intro h9 <;> first | decide | exact absurd (h9 rfl) (by decide)
    · rw [tOf_n Z O e, if_neg e]
theorem cs_join (hn : n ≤ 4) (hk : OKs n K Z O) (h6 : k ≤ 6) {o p : Nat} (ho : o < 4) (hp : p < 4) (hop : o ≠ p) : ∃ Z' O' hv', fX6_join (nI n) (nI K) asks hours Z O A F (nI k) hv (nI o) (nI p) = some (.inr (nI (pc (O' o)), 1, Z', O', nI (kn k), hv')) ∧ OKs n K Z' O' ∧ ∀ p', p' < 4 → ∀ q, q < 2 ^ n → tOf Z' O' p' q = if p' = o then jnT (tOf Z O o q) (tOf Z O p q) else tOf Z O p' q := by
  have h16 := p16 hn
  obtain ⟨hv', e7⟩ := cs_save h6 (nI n) (nI K) asks hours Z O A F hv
  obtain ⟨a1, a2, a3⟩ := hk.2.2.2 o ho
  obtain ⟨b1, b2, b3⟩ := hk.2.2.2 p hp
  have et : fX3_takeIn Z O (nI o) (nI p) = some (vp_updL Z o (Z o &&& Z p), vp_updL O o (O o ||| O p)) := by
    unfold fX3_takeIn
    rw [io_1 o ho, Option.bind_some, if_neg z01, gd_in ho (by decide), on_cls O hp, Option.bind_some, gd_in ho (by decide), lt_e, gd_in ho (by decide), zo_cls Z hp, Option.bind_some, gd_in ho (by decide), lt_e, nI_clamp (by omega)]
  refine ⟨vp_updL Z o (Z o &&& Z p), vp_updL O o (O o ||| O p), hv', ?_, OKs_one hk ?_ ?_ ?_, fun p' hp' q hq => ?_⟩
  · unfold fX6_join
    rw [ck_o o ho, tb_r, ck_o p hp, tb_r, if_neg (fun w => hop ((nI_eq (by omega) (by omega)).mp w)), e7, Option.bind_some, et, Option.bind_some, on_cls _ ho, Option.bind_some, pc_cls, Option.bind_some]
  · intro r hr hb
    rw [tb_and, Bool.and_eq_true] at hb
    exact a1 r hr hb.1
  · intro r hr hb
    rw [tb_or, Bool.or_eq_true] at hb
    rcases hb with hb | hb
    · exact a2 r hr hb
    · exact b2 r hr hb
  · intro r hr hb
    rw [tb_and, Bool.and_eq_true] at hb
    rw [tb_or, a3 r hr hb.1, b3 r hr hb.2]
    rfl
  · by_cases e : p' = o
    · subst e
      rw [tOf_o, if_pos rfl, tb_or, tb_and]
      unfold tOf jnT
      have u := a3 q (by omega)
      have w := b3 q (by omega)
      revert u w
      cases tb (Z p') q <;> cases tb (O p') q <;> cases tb (Z p) q <;> cases tb (O p) q <;> intro u w <;> first | decide | exact absurd (u rfl) (by decide) | exact absurd (w rfl) (by decide)
    · rw [tOf_n Z O e, if_neg e]
theorem cs_forget (hn : n ≤ 4) (hk : OKs n K Z O) (h6 : k ≤ 6) {i : Nat} (hi : i < n) (hb : K.testBit i = true) : ∃ hv', fX6_forget (nI n) (nI K) asks hours Z O A F (nI k) hv (nI i) = some (.inr (nI (up (fg n (ms K (2 ^ i))) Z O), 1, nI (ms K (2 ^ i)), nI (kn k), hv')) := by
  have hK := hk.2.2.1
  have h16 := p16 hn
  obtain ⟨hv', e7⟩ := cs_save h6 (nI n) (nI K) asks hours Z O A F hv
  have ef : fX3_forgotten (nI n) (nI (ms K (2 ^ i))) = some (nI (fg n (ms K (2 ^ i)))) := by
    unfold fX3_forgotten
    rw [is_eq n (by omega), Option.bind_some, fg_m n (by omega) _ (ms_lt (by omega) _)]
  refine ⟨hv', ?_⟩
  unfold fX6_forget
  rw [ck_i n hn i hi, tb_r, ik_cls (show K < 64 by omega) (by omega), Option.bind_some, hb, if_neg (show ¬ bI true = 0 by decide), e7, Option.bind_some, al_sh i (by omega), kb_1 K (by omega) i (by omega), ef, Option.bind_some, un_cls Z O (fg_lt n _), Option.bind_some]
theorem cs_remember (hn : n ≤ 4) (hk : OKs n K Z O) (h6 : k ≤ 6) {i : Nat} (hi : i < n) (hb : K.testBit i = false) : ∃ hv', fX6_remember (nI n) (nI K) asks hours Z O A F (nI k) hv (nI i) = some (.inr (nI (up (fg n (K ||| 2 ^ i)) Z O), 1, nI (K ||| 2 ^ i), nI (kn k), hv')) := by
  have hK := hk.2.2.1
  have h16 := p16 hn
  have hms := kb_5 n (by omega) K hK i hi
  obtain ⟨hv', e7⟩ := cs_save h6 (nI n) (nI K) asks hours Z O A F hv
  have ef : fX3_forgotten (nI n) (nI (K ||| 2 ^ i)) = some (nI (fg n (K ||| 2 ^ i))) := by
    unfold fX3_forgotten
    rw [is_eq n (by omega), Option.bind_some, fg_m n (by omega) _ (by omega)]
  refine ⟨hv', ?_⟩
  unfold fX6_remember
  rw [ck_i n hn i hi, tb_r, ik_cls (show K < 64 by omega) (by omega), Option.bind_some, hb, if_pos (show bI false = 0 from rfl), e7, Option.bind_some, al_sh i (by omega), nI_orr, ef, Option.bind_some, un_cls Z O (fg_lt n _), Option.bind_some]
end CSL
/-- the hours that pass: the inputs left, and the count -/
def psK (n : Nat) (Z O : Nat → Int64) : Nat → Nat → Nat
  | 0, K => K
  | d + 1, K => if K = 0 then K else psK n Z O d (ms K (2 ^ lmV n K Z O))
def psH (n : Nat) (Z O : Nat → Int64) : Nat → Nat → Int32 → Int32
  | 0, _, h => h
  | d + 1, K, h => if K = 0 then h else psH n Z O d (ms K (2 ^ lmV n K Z O)) (h + 1)
theorem psK_0 {n d : Nat} (Z O : Nat → Int64) {K : Nat} (h : K = 0) : psK n Z O (d + 1) K = K := if_pos h
theorem psK_s {n d : Nat} (Z O : Nat → Int64) {K : Nat} (h : ¬ K = 0) : psK n Z O (d + 1) K = psK n Z O d (ms K (2 ^ lmV n K Z O)) := if_neg h
theorem psH_0 {n d : Nat} (Z O : Nat → Int64) {K : Nat} (h : K = 0) (x : Int32) : psH n Z O (d + 1) K x = x := if_pos h
theorem psH_s {n d : Nat} (Z O : Nat → Int64) {K : Nat} (h : ¬ K = 0) (x : Int32) : psH n Z O (d + 1) K x = psH n Z O d (ms K (2 ^ lmV n K Z O)) (x + 1) := if_neg h
theorem ps_lt {n : Nat} (Z O : Nat → Int64) : ∀ d K, n ≤ 6 → K < 2 ^ n → psK n Z O d K < 2 ^ n := by
  intro d
  induction d with
  | zero => intro K _ h; exact h
  | succ d ih =>
    intro K hn h
    show (if K = 0 then K else _) < _
    split
    · exact h
    · exact ih _ hn (ms_p2 hn h _)
theorem cs_pl {n : Nat} (hn : n ≤ 6) {Z O : Nat → Int64} (po hs : Int32) (hv : Nat → SV) {v : Nat} (hv6 : v ≤ 6) : ∀ d i, i + d = v → ∀ fuel, d < fuel → ∀ (K : Nat) (hours : Int32), OKs n K Z O → fX6_pass_L13 (nI v) po (nI n) Z O hs hv fuel (nI i) (nI K) hours = some (.inr (nI (ocN (psK n Z O d K)), po, nI (psK n Z O d K), psH n Z O d K hours, hs, hv)) := by
  intro d
  induction d with
  | zero =>
    intro i hi fuel hf K hours hk
    obtain ⟨f, rfl⟩ : ∃ f, fuel = f + 1 := ⟨fuel - 1, by omega⟩
    have h64 := p64 hn
    have hK64 : K < 64 := Nat.lt_of_lt_of_le hk.2.2.1 h64
    rw [fX6_pass_L13, if_pos (nI_le (by omega) (by omega))]
    unfold fX6_pass_J70
    rw [oc_eq K hK64, Option.bind_some]
    rfl
  | succ d ih =>
    intro i hi fuel hf K hours hk
    obtain ⟨f, rfl⟩ : ∃ f, fuel = f + 1 := ⟨fuel - 1, by omega⟩
    have h64 := p64 hn
    have hK64 : K < 64 := Nat.lt_of_lt_of_le hk.2.2.1 h64
    rw [fX6_pass_L13, if_neg (nI_ge (show i < v by omega) (by omega))]
    by_cases h0 : K = 0
    · rw [if_pos (by rw [h0]; decide)]
      unfold fX6_pass_J70
      rw [oc_eq K hK64, Option.bind_some]
      rw [psK_0 Z O h0, psH_0 Z O h0]
    · obtain ⟨p1, p2, p3⟩ := lm_pos hk.2.2.1 h0 Z O
      have hms := ms_p2 hn hk.2.2.1 (2 ^ lmV n K Z O)
      rw [if_neg (nI_ne0 (by omega) (by omega)), lm_cls hk h0, Option.bind_some, al_sh _ (by omega), kb_1 K hK64 _ (by omega), nI_1, ih (i + 1) (by omega) f (by omega) _ _ (OKs_k hk hms)]
      rw [psK_s Z O h0, psH_s Z O h0]
theorem cs_pass {n K k : Nat} {Z O : Nat → Int64} {asks hours : Int32} {A F : Nat → Int32} {hv : Nat → SV} (hn : n ≤ 4) (hk : OKs n K Z O) (h6 : k ≤ 6) {v : Nat} (v1 : 1 ≤ v) (v6 : v ≤ 6) : ∃ hv', fX6_pass (nI n) (nI K) asks hours Z O A F (nI k) hv (nI v) = some (.inr (nI (ocN (psK n Z O v K)), 1, nI (psK n Z O v K), psH n Z O v K hours, nI (kn k), hv')) := by
  obtain ⟨hv', e7⟩ := cs_save h6 (nI n) (nI K) asks hours Z O A F hv
  refine ⟨hv', ?_⟩
  unfold fX6_pass
  rw [ck_16 v v6 v1, tb_r, e7, Option.bind_some]
  exact cs_pl (by omega) 1 (nI (kn k)) hv' v6 v 0 (Nat.zero_add v) 5000 (by omega) K hours hk
theorem cs_begin {K k : Nat} {Z O : Nat → Int64} {asks hours : Int32} {A F : Nat → Int32} {hv : Nat → SV} (h6 : k ≤ 6) {v : Nat} (v1 : 1 ≤ v) (v6 : v ≤ 6) : ∃ w Z' O' hv', fX6_begin (nI 4) (nI K) asks hours Z O A F (nI k) hv (nI v) = some (.inr (nI 4, 1, nI v, nI (2 ^ v - 1), Z', O', nI (kn k), hv')) ∧ (∀ o, o < 4 → Z' o = w ∧ O' o = 0) ∧ ∀ r, r < 64 → tb w r = decide (r < 2 ^ v) := by
  obtain ⟨hv', e7⟩ := cs_save h6 (nI 4) (nI K) asks hours Z O A F hv
  obtain ⟨w, Z', O', e5, h5, hw⟩ := rs_cls Z O v6
  refine ⟨w, Z', O', hv', ?_, h5, hw⟩
  unfold fX6_begin
  rw [ck_16 v v6 v1, tb_r, e7, Option.bind_some, e5, Option.bind_some]
/-! asking -/
def tol (n K : Nat) (Z O : Nat → Int64) (r : Nat) : Nat → Int32
  | 0 => 0
  | o + 1 => tol n K Z O r o ||| (bI (tb (AN n K Z O o) r) <<< (nI o &&& 31))
def alD (n K : Nat) (Z O : Nat → Int64) (o r : Nat) : Int32 := if DV n K Z O o r = 3 then 1 else 0
def faD (n K : Nat) (Z O : Nat → Int64) (o r : Nat) : Int32 := if tOf Z O o r = 2 then 0 else if tOf Z O o r = bI (tb (AN n K Z O o) r) then 0 else 1
theorem cs_al {n K : Nat} {Z O : Nat → Int64} (hn : n ≤ 4) (po asks hs : Int32) (hv : Nat → SV) (bad : Nat → Int64) (co : Nat → Int32) (ro : Nat → Int64) (si : Int32) {vi vu vp vs vc : Int32} {vz vo vn va : Nat → Int64} {vq vk vd : Nat → Int32} (hw : VW n K Z O vi vu vp vs vc vz vo vn va vq vk vd) {r : Nat} (hr : r < 2 ^ n) : ∀ d o, o + d = 4 → ∀ fuel, d < fuel → ∀ (A F : Nat → Int32), ∃ (A' F' : Nat → Int32), fX6_ask_L39 (nI r) po asks Z O hs bad co ro si vi vu vp vs vc vz vo vn va vq vk vd hv fuel (tol n K Z O r o) (nI o) A F = some (.inr (tol n K Z O r 4, po, asks, A', F', hs, bad, co, ro, si, vi, vu, vp, vs, vc, vz, vo, vn, va, vq, vk, vd, hv)) ∧ ∀ p, p < 4 → A' p = (if p < o then A p else A p + alD n K Z O p r) ∧ F' p = (if p < o then F p else F p + faD n K Z O p r) := by
  have h16 := p16 hn
  intro d
  induction d with
  | zero =>
    intro o ho fuel hf A F
    obtain ⟨f, rfl⟩ : ∃ f, fuel = f + 1 := ⟨fuel - 1, by omega⟩
    have e : o = 4 := by omega
    subst e
    refine ⟨A, F, ?_, fun p hp => ⟨by rw [if_pos hp], by rw [if_pos hp]⟩⟩
    rw [fX6_ask_L39, if_pos p4_]
  | succ d ih =>
    intro o ho fuel hf A F
    obtain ⟨f, rfl⟩ : ∃ f, fuel = f + 1 := ⟨fuel - 1, by omega⟩
    have ho4 : o < 4 := by omega
    have hr64 : r < 64 := by omega
    obtain ⟨w1, w2, w3, w4, w5⟩ := hw.2.2.2.2.2.2 o ho4
    obtain ⟨A', F', e1, h3⟩ := ih (o + 1) (by omega) f (by omega) (upd A o (A o + alD n K Z O o r)) (upd F o (F o + faD n K Z O o r))
    refine ⟨A', F', ?_, fun p hp => ?_⟩
    · rw [← e1]
      rw [fX6_ask_L39, if_neg (n4 ho4), aa_cls ho4 hr64 w4, Option.bind_some, ta_cls Z O ho4 hr64, Option.bind_some, da_cls ho4 hr64 w1 w2 w3, Option.bind_some, gd_in ho4 (by decide), gd_in ho4 (by decide), lt_e, nI_clamp (by omega)]
      unfold fX6_ask_J91 fX6_ask_J118
      simp only [gd_in ho4 (show (4 : Nat) < 2 ^ 31 by decide), nI_clamp (show o < 2 ^ 31 by omega), lt_e, nI_1]
      show _ = fX6_ask_L39 (nI r) po asks Z O hs bad co ro si vi vu vp vs vc vz vo vn va vq vk vd hv f (tol n K Z O r o ||| (bI (tb (AN n K Z O o) r) <<< (nI o &&& 31))) (nI (o + 1)) (upd A o (A o + if dv (tb (al (fg n K) (Z o)) r) (tb (al (fg n K) (O o)) r) = 3 then 1 else 0)) (upd F o (F o + if tOf Z O o r = 2 then 0 else if tOf Z O o r = bI (tb (AN n K Z O o) r) then 0 else 1))
      by_cases c1 : dv (tb (al (fg n K) (Z o)) r) (tb (al (fg n K) (O o)) r) = 3
      · rw [if_pos c1, if_pos c1]
        by_cases c2 : tOf Z O o r = 2
        · rw [if_pos c2, if_pos c2, Int32.add_zero, ← upd_s F o]
        · rw [if_neg c2, if_neg c2]
          by_cases c3 : tOf Z O o r = bI (tb (AN n K Z O o) r)
          · rw [if_pos c3, if_pos c3, Int32.add_zero, ← upd_s F o]
          · rw [if_neg c3, if_neg c3]
      · rw [if_neg c1, if_neg c1, Int32.add_zero, ← upd_s A o]
        by_cases c2 : tOf Z O o r = 2
        · rw [if_pos c2, if_pos c2, Int32.add_zero, ← upd_s F o]
        · rw [if_neg c2, if_neg c2]
          by_cases c3 : tOf Z O o r = bI (tb (AN n K Z O o) r)
          · rw [if_pos c3, if_pos c3, Int32.add_zero, ← upd_s F o]
          · rw [if_neg c3, if_neg c3]
    · obtain ⟨g1, g2⟩ := h3 p hp
      rw [g1, g2]
      by_cases e : p = o
      · subst e
        rw [if_pos (Nat.lt_succ_self p), if_pos (Nat.lt_succ_self p), pk_us, pk_us, if_neg (Nat.lt_irrefl p), if_neg (Nat.lt_irrefl p)]
        exact ⟨rfl, rfl⟩
      · rw [pk_un e, pk_un e]
        by_cases e2 : p < o
        · rw [if_pos (show p < o + 1 by omega), if_pos (show p < o + 1 by omega), if_pos e2, if_pos e2]
          exact ⟨rfl, rfl⟩
        · rw [if_neg (show ¬ p < o + 1 by omega), if_neg (show ¬ p < o + 1 by omega), if_neg e2, if_neg e2]
          exact ⟨rfl, rfl⟩
theorem cs_ask {n K k : Nat} {Z O : Nat → Int64} {asks hours : Int32} {A F : Nat → Int32} {hv : Nat → SV} (hn : n ≤ 4) (hk : OKs n K Z O) (h6 : k ≤ 6) (po : Int32) (bad : Nat → Int64) (co : Nat → Int32) (ro : Nat → Int64) (si : Int32) (vi vu vp vs vc : Int32) (vz vo vn va : Nat → Int64) (vq vk vd : Nat → Int32) (hw : po = 0 → VW n K Z O vi vu vp vs vc vz vo vn va vq vk vd) {r : Nat} (hr : r < 2 ^ n) : ∃ A' F' bad' co' ro' si' vi' vu' vp' vs' vc' vz' vo' vn' va' vq' vk' vd' hv', fX6_ask po (nI n) (nI K) asks hours Z O A F (nI k) bad co ro si vi vu vp vs vc vz vo vn va vq vk vd hv (nI r) = some (.inr (tol n K Z O r 4, 0, asks + 1, A', F', nI (kn k), bad', co', ro', si', vi', vu', vp', vs', vc', vz', vo', vn', va', vq', vk', vd', hv')) ∧ VW n K Z O vi' vu' vp' vs' vc' vz' vo' vn' va' vq' vk' vd' ∧ ∀ p, p < 4 → A' p = A p + alD n K Z O p r ∧ F' p = F p + faD n K Z O p r := by
  obtain ⟨bad', co', ro', si', vi', vu', vp', vs', vc', vz', vo', vn', va', vq', vk', vd', e3, hw2⟩ := vw_cls hk po bad co ro si vi vu vp vs vc vz vo vn va vq vk vd hw
  obtain ⟨hv', e7⟩ := cs_keep h6 (nI n) (nI K) asks hours Z O A F hv
  obtain ⟨A', F', e1, h3⟩ := cs_al hn 0 (asks + 1) (nI (kn k)) hv' bad' co' ro' si' hw2 hr 4 0 (by decide) 5000 (by decide) A F
  refine ⟨A', F', bad', co', ro', si', vi', vu', vp', vs', vc', vz', vo', vn', va', vq', vk', vd', hv', ?_, hw2, fun p hp => ?_⟩
  · unfold fX6_ask
    rw [ck_r n hn r hr, tb_r, e3, Option.bind_some, e7, Option.bind_some]
    exact e1
  · obtain ⟨g1, g2⟩ := h3 p hp
    rw [g1, g2, if_neg (Nat.not_lt_zero p), if_neg (Nat.not_lt_zero p)]
    exact ⟨rfl, rfl⟩
/-! what there is -/
section CSQ
variable {n K : Nat} {Z O : Nat → Int64} {vi vu vp vs vc : Int32} {vz vo vn va : Nat → Int64} {vq vk vd : Nat → Int32}
theorem vw_0 (a b : Int32) (c d : Nat → Int64) (bad : Nat → Int64) (co : Nat → Int32) (ro : Nat → Int64) (si : Int32) (vi vu vp vs vc : Int32) (vz vo vn va : Nat → Int64) (vq vk vd : Nat → Int32) : fX6_viewOfPresent 0 a b c d bad co ro si vi vu vp vs vc vz vo vn va vq vk vd = some (0, bad, co, ro, si, vi, vu, vp, vs, vc, vz, vo, vn, va, vq, vk, vd) := by
  unfold fX6_viewOfPresent
  rw [if_pos rfl]
  rfl
theorem cq_at (hn : n ≤ 4) (hv : VW n K Z O vi vu vp vs vc vz vo vn va vq vk vd) (bad : Nat → Int64) (co : Nat → Int32) (ro : Nat → Int64) (si : Int32) {o r w : Nat} (ho : o < 4) (hr : r < 2 ^ n) (hw : w < 3) : fX6_at 0 (nI n) (nI K) Z O bad co ro si vi vu vp vs vc vz vo vn va vq vk vd (nI o) (nI r) (nI w) = some (.inr (rnV n K Z O o r w, 0, bad, co, ro, si, vi, vu, vp, vs, vc, vz, vo, vn, va, vq, vk, vd)) := by
  have h16 := p16 hn
  unfold fX6_at
  rw [ck_o o ho, tb_r, ck_r n hn r hr, tb_r, ck_2 w (by omega), tb_r, vw_0, Option.bind_some, rn_cls hv ho (by omega) hw, Option.bind_some]
theorem cq_out (hk : OKs n K Z O) (hv : VW n K Z O vi vu vp vs vc vz vo vn va vq vk vd) (A F : Nat → Int32) (bad : Nat → Int64) (co : Nat → Int32) (ro : Nat → Int64) (si : Int32) {o w : Nat} (ho : o < 4) (hw : w < 11) : fX6_output 0 (nI n) (nI K) Z O A F bad co ro si vi vu vp vs vc vz vo vn va vq vk vd (nI o) (nI w) = some (.inr (onV n K Z O A F o w, 0, bad, co, ro, si, vi, vu, vp, vs, vc, vz, vo, vn, va, vq, vk, vd)) := by
  unfold fX6_output
  rw [ck_o o ho, tb_r, ck_10 w hw, tb_r, vw_0, Option.bind_some, on_num hk hv A F ho hw, Option.bind_some]
theorem cq_out1 (hk : OKs n K Z O) (po : Int32) (A F : Nat → Int32) (bad : Nat → Int64) (co : Nat → Int32) (ro : Nat → Int64) (si : Int32) (hv : po = 0 → VW n K Z O vi vu vp vs vc vz vo vn va vq vk vd) {o w : Nat} (ho : o < 4) (hw : w < 11) : ∃ bad' co' ro' si' vi' vu' vp' vs' vc' vz' vo' vn' va' vq' vk' vd', fX6_output po (nI n) (nI K) Z O A F bad co ro si vi vu vp vs vc vz vo vn va vq vk vd (nI o) (nI w) = some (.inr (onV n K Z O A F o w, 0, bad', co', ro', si', vi', vu', vp', vs', vc', vz', vo', vn', va', vq', vk', vd')) ∧ VW n K Z O vi' vu' vp' vs' vc' vz' vo' vn' va' vq' vk' vd' := by
  obtain ⟨bad', co', ro', si', vi', vu', vp', vs', vc', vz', vo', vn', va', vq', vk', vd', e3, hw2⟩ := vw_cls hk po bad co ro si vi vu vp vs vc vz vo vn va vq vk vd hv
  refine ⟨bad', co', ro', si', vi', vu', vp', vs', vc', vz', vo', vn', va', vq', vk', vd', ?_, hw2⟩
  unfold fX6_output
  rw [ck_o o ho, tb_r, ck_10 w hw, tb_r, e3, Option.bind_some, on_num hk hw2 A F ho hw, Option.bind_some]
theorem cq_prod (hk : OKs n K Z O) (hv : VW n K Z O vi vu vp vs vc vz vo vn va vq vk vd) (bad : Nat → Int64) (co : Nat → Int32) (ro : Nat → Int64) (si : Int32) {o i w : Nat} (ho : o < 4) (hi : i < 64) (hw : w < 4) : fX6_product 0 (nI n) (nI K) Z O bad co ro si vi vu vp vs vc vz vo vn va vq vk vd (nI o) (nI i) (nI w) = some (.inr (pdV n K Z O o i w, 0, bad, co, ro, si, vi, vu, vp, vs, vc, vz, vo, vn, va, vq, vk, vd)) := by
  unfold fX6_product
  rw [ck_o o ho, tb_r, ck_63 i hi, tb_r, ck_3 w hw, tb_r, vw_0, Option.bind_some, pd_cls hk hv ho hi hw, Option.bind_some]
theorem cq_count (hv : VW n K Z O vi vu vp vs vc vz vo vn va vq vk vd) (asks hours : Int32) (A F : Nat → Int32) (hs : Int32) (bad : Nat → Int64) (co : Nat → Int32) (ro : Nat → Int64) (si : Int32) {w : Nat} (hw : w < 11) : fX6_count 0 (nI n) (nI K) asks hours Z O A F hs bad co ro si vi vu vp vs vc vz vo vn va vq vk vd (nI w) = some (.inr (mzV n K Z O asks hours A F hs w, 0, bad, co, ro, si, vi, vu, vp, vs, vc, vz, vo, vn, va, vq, vk, vd)) := by
  unfold fX6_count
  rw [ck_10 w hw, tb_r, vw_0, Option.bind_some, mz_cls hv asks hours A F hs hw, Option.bind_some]
end CSQ
