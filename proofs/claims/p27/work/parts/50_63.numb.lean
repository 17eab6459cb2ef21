/-! mathematics of the class -/
theorem if_tb {α : Type} {r : Nat} (hr : r < 64) (x : Int64) (a b : α) : (if (lg_cmp ((lus_ x (nI r)) &&& 1) 0) = 0 then a else b) = if tb x r = true then b else a := by
  have h := tb_at0 hr x
  cases q : tb x r
  · rw [if_pos (h.mpr q), if_neg (by decide)]
  · rw [if_neg (fun z => by rw [h.mp z] at q; exact absurd q (by decide)), if_pos rfl]
theorem ta_cls (Z O : Nat → Int64) {o r : Nat} (ho : o < 4) (hr : r < 64) : fX3_truthAt Z O (nI o) (nI r) = some (tOf Z O o r) := by
  unfold fX3_truthAt
  rw [on_cls O ho, Option.bind_some, if_tb hr, zo_cls Z ho, Option.bind_some, if_tb hr]
  unfold tOf
  cases tb (O o) r <;> cases tb (Z o) r <;> rfl
theorem da_cls {n K : Nat} {Z O : Nat → Int64} {vz vo vn : Nat → Int64} {o r : Nat} (ho : o < 4) (hr : r < 64) (h1 : vz o = dz n K Z O o) (h2 : vo o = dn n K Z O o) (h3 : vn o = UN n K Z O o) : fX5_decidedAt vz vo vn (nI o) (nI r) = some (dv (tb (al (fg n K) (Z o)) r) (tb (al (fg n K) (O o)) r)) := by
  unfold fX5_decidedAt
  rw [io_1 o ho, Option.bind_some, if_neg (by decide), gd_in ho (by decide), gd_in ho (by decide), gd_in ho (by decide), nI_clamp (by omega), h1, h2, h3, if_tb hr, if_tb hr, if_tb hr, dz_b n K Z O o hr, dn_b n K Z O o hr]
  unfold UN
  rw [tb_and]
  cases tb (al (fg n K) (Z o)) r <;> cases tb (al (fg n K) (O o)) r <;> rfl
theorem an_b (n K : Nat) (w x : Int64) (r : Nat) : ∀ i, tb (anN n K w x i) r = anyN i (fun j => tb (rwS n (ccN n K w x j)) r) := by
  intro i
  induction i with
  | zero => exact tb_0 r
  | succ i ih => rw [an_s, tb_or, ih]; rfl
theorem AN_b (n K : Nat) (Z O : Nat → Int64) (o r : Nat) : tb (AN n K Z O o) r = anyN (SZ n K Z O o) (fun j => tb (rwS n (CC n K Z O o j)) r) := an_b n K _ _ r _
theorem ao_cls {va : Nat → Int64} {o : Nat} (ho : o < 4) : fX5_answersOf va (nI o) = some (va o) := by
  unfold fX5_answersOf
  rw [io_1 o ho, Option.bind_some, if_neg (by decide), gd_in ho (by decide), nI_clamp (by omega)]
theorem so_cls {va : Nat → Int32} {o : Nat} (ho : o < 4) : fX5_sizeOf va (nI o) = some (va o) := by
  unfold fX5_sizeOf
  rw [io_1 o ho, Option.bind_some, if_neg (by decide), gd_in ho (by decide), nI_clamp (by omega)]
theorem aa_cls {n K : Nat} {Z O : Nat → Int64} {va : Nat → Int64} {o r : Nat} (ho : o < 4) (hr : r < 64) (h : va o = AN n K Z O o) : fX5_answerAt va (nI o) (nI r) = some (bI (tb (AN n K Z O o) r)) := by
  unfold fX5_answerAt
  rw [ao_cls ho, Option.bind_some, if_tb hr, h]
  cases tb (AN n K Z O o) r <;> rfl
theorem r64 {a : Nat} (h : a < 2 ^ 31) : nI a - nI a / 64 * 64 = nI (a % 64) := pk_rem (d := 64) h (by decide) (by decide)
theorem rw_c {n : Nat} (hn : n ≤ 6) (c : Nat) {r : Nat} (hr : r < 2 ^ n) : tb (rwS n c) r = decide (r &&& (c / 64) = c % 64) := by
  have h64 := p64 hn
  unfold rwS
  rw [mkN_b _ (by omega) _ h64, decide_eq_true hr, Bool.true_and]
def rnV (n K : Nat) (Z O : Nat → Int64) (o r w : Nat) : Int32 := if w = 0 then tOf Z O o r else if w = 1 then dv (tb (al (fg n K) (Z o)) r) (tb (al (fg n K) (O o)) r) else bI (tb (AN n K Z O o) r)
theorem rn_cls {n K : Nat} {Z O : Nat → Int64} {vi vu vp vs vc : Int32} {vz vo vn va : Nat → Int64} {vq vk vd : Nat → Int32} (hv : VW n K Z O vi vu vp vs vc vz vo vn va vq vk vd) {o r w : Nat} (ho : o < 4) (hr : r < 64) (hw : w < 3) : fX6_rowNumber Z O vz vo vn va (nI o) (nI r) (nI w) = some (rnV n K Z O o r w) := by
  obtain ⟨_, _, _, _, _, _, h⟩ := hv
  obtain ⟨h1, h2, h3, h4, h5⟩ := h o ho
  unfold fX6_rowNumber rnV
  rcases (show w = 0 ∨ w = 1 ∨ w = 2 by omega) with rfl | rfl | rfl
  · rw [if_pos nI_0, if_pos rfl, ta_cls Z O ho hr, Option.bind_some]
  · rw [if_neg (by decide), if_pos (by decide), if_neg (by decide), if_pos rfl, da_cls ho hr h1 h2 h3, Option.bind_some]
  · rw [if_neg (by decide), if_neg (by decide), if_neg (by decide), if_neg (by decide), aa_cls ho hr h4, Option.bind_some]
def orN : Nat → (Nat → Nat) → Nat
  | 0, _ => 0
  | i + 1, f => orN i f ||| f i
def cvV (n K : Nat) (Z O : Nat → Int64) (o w : Nat) : Int32 := if w = 6 then nI (SZ n K Z O o) else if w = 7 then nI (sumN (SZ n K Z O o) (fun i => ocN (CC n K Z O o i / 64))) else nI (orN (SZ n K Z O o) (fun i => CC n K Z O o i / 64))
theorem ca_cls {n K : Nat} {Z O : Nat → Int64} {cov siz : Nat → Int32} {o i : Nat} (ho : o < 4) (hi : i < SZ n K Z O o) (hc : C1 n K Z O cov siz o) : fX5_codeAt siz cov (nI o) (nI i) = some (nI (CC n K Z O o i)) := by
  have h64 := SZ_le n K Z O o
  unfold fX5_codeAt
  rw [io_1 o ho, Option.bind_some, if_neg (by decide), if_neg (nI_pos (by omega)), if_neg (n64 (by omega)), gd_in ho (by decide), nI_clamp (show o < 2 ^ 31 by omega), hc.1, if_pos (nI_lt hi (by omega)), show nI o * 64 = nI (64 * o) by rw [show (64 : Int32) = nI 64 from rfl, pk_mul, Nat.mul_comm], nI_add, gd_in (show 64 * o + i < 256 by omega) (by decide), nI_clamp (by omega), hc.2 i hi]
theorem cc_cls {n K : Nat} {Z O : Nat → Int64} (hk : OKs n K Z O) {cov siz : Nat → Int32} {o : Nat} (ho : o < 4) (hc : C1 n K Z O cov siz o) : fX5_caresCounted siz cov (nI o) = some (nI (sumN (SZ n K Z O o) (fun i => ocN (CC n K Z O o i / 64)))) := by
  have h64 := SZ_le n K Z O o
  obtain ⟨m, s, e, hI⟩ := loop0 (fun k i s => fX5_caresCounted_L11 (nI o) (nI (SZ n K Z O o)) siz cov k s i) (fun i s => s = nI (sumN i (fun i => ocN (CC n K Z O o i / 64)))) (SZ n K Z O o) (s := (0 : Int32)) (by omega) rfl (by
    intro m i s hi hI
    subst hI
    refine ⟨_, ?_, rfl⟩
    have h1 := (CC_ok hk ho hi).1
    show fX5_caresCounted_L11 (nI o) (nI (SZ n K Z O o)) siz cov (m + 1) _ (nI i) = fX5_caresCounted_L11 (nI o) (nI (SZ n K Z O o)) siz cov m (nI (sumN i (fun i => ocN (CC n K Z O o i / 64)) + ocN (CC n K Z O o i / 64))) (nI (i + 1))
    rw [fX5_caresCounted_L11, if_neg (nI_ge hi (by omega)), ca_cls ho hi hc, Option.bind_some, d64 (by omega), oc_eq _ (by omega), Option.bind_some, nI_add, nI_1])
  unfold fX5_caresCounted
  rw [so_cls ho, Option.bind_some, hc.1]
  refine Eq.trans e ?_
  show fX5_caresCounted_L11 (nI o) (nI (SZ n K Z O o)) siz cov (m + 1) s (nI (SZ n K Z O o)) = _
  rw [fX5_caresCounted_L11, if_pos (nI_le (Nat.le_refl _) (by omega)), hI]
theorem cy_cls {n K : Nat} {Z O : Nat → Int64} (hk : OKs n K Z O) {cov siz : Nat → Int32} {o : Nat} (ho : o < 4) (hc : C1 n K Z O cov siz o) : fX5_caresOfAny siz cov (nI o) = some (nI (orN (SZ n K Z O o) (fun i => CC n K Z O o i / 64))) := by
  have h64 := SZ_le n K Z O o
  obtain ⟨m, s, e, hI⟩ := loop0 (fun k i s => fX5_caresOfAny_L11 (nI o) (nI (SZ n K Z O o)) siz cov k s i) (fun i s => s = nI (orN i (fun i => CC n K Z O o i / 64))) (SZ n K Z O o) (s := (0 : Int32)) (by omega) rfl (by
    intro m i s hi hI
    subst hI
    refine ⟨_, ?_, rfl⟩
    have h1 := (CC_ok hk ho hi).1
    show fX5_caresOfAny_L11 (nI o) (nI (SZ n K Z O o)) siz cov (m + 1) _ (nI i) = fX5_caresOfAny_L11 (nI o) (nI (SZ n K Z O o)) siz cov m (nI (orN i (fun i => CC n K Z O o i / 64) ||| (CC n K Z O o i / 64))) (nI (i + 1))
    rw [fX5_caresOfAny_L11, if_neg (nI_ge hi (by omega)), ca_cls ho hi hc, Option.bind_some, d64 (by omega), nI_orr, nI_1])
  unfold fX5_caresOfAny
  rw [so_cls ho, Option.bind_some, hc.1]
  refine Eq.trans e ?_
  show fX5_caresOfAny_L11 (nI o) (nI (SZ n K Z O o)) siz cov (m + 1) s (nI (SZ n K Z O o)) = _
  rw [fX5_caresOfAny_L11, if_pos (nI_le (Nat.le_refl _) (by omega)), hI]
def onV (n K : Nat) (Z O : Nat → Int64) (A F : Nat → Int32) (o w : Nat) : Int32 := match w with
  | 0 => nI (pc (O o))
  | 1 => nI (2 ^ n) - nI (pc (O o ||| Z o))
  | 2 => nI (pc (dn n K Z O o))
  | 3 => nI (2 ^ n) - nI (pc ((dn n K Z O o ||| dz n K Z O o) ||| UN n K Z O o))
  | 4 => nI (pc (UN n K Z O o))
  | 5 => nI (PN n K Z O o)
  | 8 => A o
  | 9 => F o
  | _ => cvV n K Z O o w
theorem w11 {w : Nat} (h : w < 11) : w = 0 ∨ w = 1 ∨ w = 2 ∨ w = 3 ∨ w = 4 ∨ w = 5 ∨ w = 6 ∨ w = 7 ∨ w = 8 ∨ w = 9 ∨ w = 10 := by omega
theorem sh_n {n : Nat} (hn : n ≤ 6) : (1 : Int32) <<< (nI n &&& 31) = nI (2 ^ n) := al_sh n (by omega)
theorem on_num {n K : Nat} {Z O : Nat → Int64} (hk : OKs n K Z O) {vi vu vp vs vc : Int32} {vz vo vn va : Nat → Int64} {vq vk vd : Nat → Int32} (hv : VW n K Z O vi vu vp vs vc vz vo vn va vq vk vd) (A F : Nat → Int32) {o w : Nat} (ho : o < 4) (hw : w < 11) : fX6_outputNumber (nI n) Z O A F vi vz vo vn vq vk vd (nI o) (nI w) = some (onV n K Z O A F o w) := by
  obtain ⟨hvi, _, _, _, _, hcv, h⟩ := hv
  obtain ⟨h1, h2, h3, h4, h5⟩ := h o ho
  have hc := hcv o ho
  have hal : fX3_alarmsOf A (nI o) = some (A o) := by
    unfold fX3_alarmsOf
    rw [io_1 o ho, Option.bind_some, if_neg (by decide), gd_in ho (by decide), nI_clamp (by omega)]
  have hfa : fX3_faultsOf F (nI o) = some (F o) := by
    unfold fX3_faultsOf
    rw [io_1 o ho, Option.bind_some, if_neg (by decide), gd_in ho (by decide), nI_clamp (by omega)]
  have hon : ∀ w, fX5_outputNumber vi vz vo vn vq vk vd (nI o) (nI w) = (if nI w = 2 then some (nI (pc (dn n K Z O o))) else if nI w = 3 then some (nI (2 ^ n) - nI (pc ((dn n K Z O o ||| dz n K Z O o) ||| UN n K Z O o))) else if nI w = 4 then some (nI (pc (UN n K Z O o))) else if nI w = 5 then some (nI (PN n K Z O o)) else if nI w = 6 then some (nI (SZ n K Z O o)) else if nI w = 7 then some (nI (sumN (SZ n K Z O o) (fun i => ocN (CC n K Z O o i / 64)))) else some (nI (orN (SZ n K Z O o) (fun i => CC n K Z O o i / 64)))) := by
    intro w
    unfold fX5_outputNumber
    rw [io_1 o ho, Option.bind_some, if_neg (by decide), cc_cls hk ho hc, cy_cls hk ho hc]
    simp only [gd_in ho (show (4 : Nat) < 2 ^ 31 by decide), nI_clamp (show o < 2 ^ 31 by omega), h1, h2, h3, h5, hc.1, pc_cls, Option.bind_some, hvi, sh_n hk.2.1]
  unfold fX6_outputNumber
  rcases w11 hw with rfl | rfl | rfl | rfl | rfl | rfl | rfl | rfl | rfl | rfl | rfl
  · rw [if_pos nI_0, on_cls O ho, Option.bind_some, pc_cls]
    rfl
  · rw [if_neg (by decide), if_pos (by decide)]
    unfold fX3_rowCount
    rw [Option.bind_some, on_cls O ho, Option.bind_some, zo_cls Z ho, Option.bind_some, pc_cls, sh_n hk.2.1]
    rfl
  · rw [if_neg (by decide), if_neg (by decide), if_pos (by decide), hon, if_pos (by decide)]
    rfl
  · rw [if_neg (by decide), if_neg (by decide), if_neg (by decide), if_pos (by decide), hon, if_neg (by decide), if_pos (by decide)]
    rfl
  · rw [if_neg (by decide), if_neg (by decide), if_neg (by decide), if_neg (by decide), if_pos (by decide), hon, if_neg (by decide), if_neg (by decide), if_pos (by decide)]
    rfl
  · rw [if_neg (by decide), if_neg (by decide), if_neg (by decide), if_neg (by decide), if_neg (by decide), if_pos (by decide), hon, if_neg (by decide), if_neg (by decide), if_neg (by decide), if_pos (by decide)]
    rfl
  · rw [if_neg (by decide), if_neg (by decide), if_neg (by decide), if_neg (by decide), if_neg (by decide), if_neg (by decide), if_pos (by decide), hon, if_neg (by decide), if_neg (by decide), if_neg (by decide), if_neg (by decide), if_pos (by decide)]
    rfl
  · rw [if_neg (by decide), if_neg (by decide), if_neg (by decide), if_neg (by decide), if_neg (by decide), if_neg (by decide), if_neg (by decide), if_pos (by decide), hon, if_neg (by decide), if_neg (by decide), if_neg (by decide), if_neg (by decide), if_neg (by decide), if_pos (by decide)]
    rfl
  · rw [if_neg (by decide), if_neg (by decide), if_neg (by decide), if_neg (by decide), if_neg (by decide), if_neg (by decide), if_neg (by decide), if_neg (by decide), if_pos (by decide), hal]
    rfl
  · rw [if_neg (by decide), if_neg (by decide), if_neg (by decide), if_neg (by decide), if_neg (by decide), if_neg (by decide), if_neg (by decide), if_neg (by decide), if_neg (by decide), if_pos (by decide), hfa]
    rfl
  · rw [if_neg (by decide), if_neg (by decide), if_neg (by decide), if_neg (by decide), if_neg (by decide), if_neg (by decide), if_neg (by decide), if_neg (by decide), if_neg (by decide), if_neg (by decide), hon, if_neg (by decide), if_neg (by decide), if_neg (by decide), if_neg (by decide), if_neg (by decide), if_neg (by decide)]
    rfl
