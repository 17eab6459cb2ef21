/-! fill -/
theorem gvz_b (X P : Int64) {r v k : Nat} (hr : r < 64) : tb (gvz v k X P) r = if tb P r = true then decide (v = k) else tb X r := by
  unfold gvz
  by_cases h : v = k
  · rw [if_pos h, tb_or, decide_eq_true h]
    cases tb P r
    · rw [Bool.or_false, if_neg (by decide)]
    · rw [Bool.or_true, if_pos rfl]
  · rw [if_neg h, tb_and, tb_not _ hr, decide_eq_false h]
    cases tb P r
    · rw [Bool.not_false, Bool.and_true, if_neg (by decide)]
    · rw [Bool.not_true, Bool.and_false, if_pos rfl]
theorem pP_b {c : Nat → Int32} {n q r : Nat} (hn : n ≤ 6) (hr : r < 2 ^ n) : tb (pP c n q) r = decide (r &&& cpF c ((n + 5) * q) n = vpF c ((n + 5) * q) n) := by
  have h64 := p64 hn
  have h1 := cpF_lt c ((n + 5) * q) n
  have h2 : vpF c ((n + 5) * q) n < 64 := by
    rw [← vp_sub]
    exact Nat.lt_of_le_of_lt Nat.and_le_right (by omega)
  unfold pP
  rw [rw_c hn _ hr, show (64 * cpF c ((n + 5) * q) n + vpF c ((n + 5) * q) n) / 64 = cpF c ((n + 5) * q) n by omega, show (64 * cpF c ((n + 5) * q) n + vpF c ((n + 5) * q) n) % 64 = vpF c ((n + 5) * q) n by omega]
theorem pP_sub {c : Nat → Int32} {n q : Nat} (hn : n ≤ 6) : subR n (pP c n q) := by
  intro r hr h
  unfold pP rwS at h
  rw [mkN_b _ hr _ (p64 hn), Bool.and_eq_true] at h
  exact of_decide_eq_true h.1
theorem gv_ST {n K : Nat} {Z O : Nat → Int64} {asks hours : Int32} {A F : Nat → Int32} {z : Nat → Int32} (h : ST n K Z O asks hours A F z) {o : Nat} (ho : o < 4) {P : Int64} (hP : subR n P) {v : Nat} (hv : v ≤ 2) {z' : Nat → Int32} (h1 : ∀ r, r < 2 ^ n → z' (12 + 64 * o + r) = if tb P r = true then nI v else z (12 + 64 * o + r)) (h2 : ∀ q, q < 268 → (q < 12 + 64 * o ∨ 12 + 64 * o + 64 ≤ q) → z' q = z q) : ST n K (vp_updL Z o (gvz v 0 (Z o) P)) (vp_updL O o (gvz v 1 (O o) P)) asks hours A F z' := by
  have h64 := p64 h.2.1.2.1
  obtain ⟨a1, a2, a3⟩ := h.2.1.2.2.2 o ho
  refine ST_one h ho (fun r hr hb => ?_) (fun r hr hb => ?_) (fun r hr hb => ?_) (fun r hr => ?_) h2
  · rw [gvz_b _ _ hr] at hb
    cases q : tb P r
    · rw [q, if_neg (by decide)] at hb
      exact a1 r hr hb
    · exact hP r hr q
  · rw [gvz_b _ _ hr] at hb
    cases q : tb P r
    · rw [q, if_neg (by decide)] at hb
      exact a2 r hr hb
    · exact hP r hr q
  · rw [gvz_b _ _ hr] at hb ⊢
    cases q : tb P r
    · rw [q, if_neg (by decide)] at hb
      rw [if_neg (by decide)]
      exact a3 r hr hb
    · rw [q, if_pos rfl] at hb
      rw [if_pos rfl]
      have := of_decide_eq_true hb
      exact decide_eq_false (by omega)
  · have hr64 : r < 64 := by omega
    rw [h1 r hr, gvz_b _ _ hr64, gvz_b _ _ hr64]
    cases q : tb P r
    · have hF : ¬ (false = true) := by decide
      rw [if_neg hF, if_neg hF, if_neg hF, h.1.2.2 o ho r hr]
      rfl
    · rw [if_pos rfl, if_pos rfl, if_pos rfl]
      rcases (show v = 0 ∨ v = 1 ∨ v = 2 by omega) with rfl | rfl | rfl <;> decide
theorem fl_part {n K : Nat} {Z O : Nat → Int64} {asks hours : Int32} {A F : Nat → Int32} {z : Nat → Int32} (h : ST n K Z O asks hours A F z) {c : Nat → Int32} {L : Nat} (hr : rgt c n L) {q : Nat} (hq : (n + 5) * q + n + 3 < L) (hq10 : q ≤ 10) {pts : Nat → Int32} (hp : pfl c n pts q) (nst : Int32) (his : Nat → Int32) (len thr rea pla : Int32) (bef : Nat → Int32) (k : Int32 → (Nat → Int32) → Option (Int32 × (Nat → Int32) × Int32 × (Nat → Int32) × Int32 × Int32 × (Nat → Int32) × Int32 × Int32 × (Nat → Int32))) : ∃ z', fX7_fill_L105 (nI q) nst his len thr pts rea pla bef k 5000 0 z = k (nI (q + 1)) z' ∧ (∀ r, r < 2 ^ n → z' (12 + 64 * po c n q + r) = if tb (pP c n q) r = true then nI (pv c n q) else z (12 + 64 * po c n q + r)) ∧ ∀ j, (j < 12 + 64 * po c n q ∨ 12 + 64 * po c n q + 2 ^ n ≤ j) → z' j = z j := by
  have hn := h.2.1.2.1
  have h64 := p64 hn
  obtain ⟨o1, o2⟩ := po_e (q := q) hr (by omega)
  obtain ⟨v1, v2⟩ := pv_e (q := q) hr hq
  obtain ⟨p1, p2, p3, p4⟩ := hp
  rw [o1] at p3
  rw [v1] at p4
  have hC := cpF_lt c ((n + 5) * q) n
  have e4 : (4 : Int32) * nI q = nI (4 * q) := m4_ q
  have e5 : (4 : Int32) * nI q + 1 = nI (4 * q + 1) := by rw [m4_]; exact nI_add _ 1
  have e6 : (4 : Int32) * nI q + 2 = nI (4 * q + 2) := by rw [m4_]; exact nI_add _ 2
  have e7 : (4 : Int32) * nI q + 3 = nI (4 * q + 3) := by rw [m4_]; exact nI_add _ 3
  obtain ⟨m, s, e, h1, h2⟩ := loop0 (fun k2 i s => fX7_fill_L105 (nI q) nst his len thr pts rea pla bef k k2 i s) (fun i s => (∀ r, r < i → s (12 + 64 * po c n q + r) = if tb (pP c n q) r = true then nI (pv c n q) else z (12 + 64 * po c n q + r)) ∧ ∀ j, (j < 12 + 64 * po c n q ∨ 12 + 64 * po c n q + i ≤ j) → s j = z j) (2 ^ n) (s := z) (by omega) ⟨fun r hr => absurd hr (by omega), fun _ _ => rfl⟩ (by
    intro m i s hi hI
    obtain ⟨h1, h2⟩ := hI
    have hl : i &&& cpF c ((n + 5) * q) n < 2 ^ 31 := Nat.lt_of_le_of_lt Nat.and_le_left (by omega)
    have hV : vpF c ((n + 5) * q) n < 64 := by
      rw [← vp_sub]
      exact Nat.lt_of_le_of_lt Nat.and_le_right (by omega)
    have hb := pP_b (c := c) (q := q) hn hi
    refine ⟨if tb (pP c n q) i = true then upd s (12 + 64 * po c n q + i) (nI (pv c n q)) else s, ?_, fun r hr => ?_, fun j hj => ?_⟩
    · show fX7_fill_L105 (nI q) nst his len thr pts rea pla bef k (m + 1) (nI i) s = _
      rw [fX7_fill_L105, r_rows0 (by rw [h2 0 (by omega)]; exact h.1.1) hn, Option.bind_some, if_neg (nI_ge hi (by omega)), e5, e6, e7, e4, n48 (by omega), n48 (by omega), n48 (by omega), n48 (by omega), nI_clamp (show 4 * q < 2 ^ 31 by omega), nI_clamp (show 4 * q + 1 < 2 ^ 31 by omega), nI_clamp (show 4 * q + 2 < 2 ^ 31 by omega), nI_clamp (show 4 * q + 3 < 2 ^ 31 by omega), p1, p2, p3, p4, nI_an]
      unfold fX7_fill_J161
      rw [hb]
      by_cases w : i &&& cpF c ((n + 5) * q) n = vpF c ((n + 5) * q) n
      · rw [if_pos (by rw [w]), decide_eq_true w, if_pos rfl, r_set s _ o2 (by omega), Option.bind_some, nI_1]
      · rw [if_neg (fun y => w ((nI_eq hl (by omega)).mp y)), decide_eq_false w, if_neg (by decide), nI_1]
    · by_cases e : r = i
      · subst e
        by_cases w : tb (pP c n q) r = true
        · rw [if_pos w, if_pos w, pk_us]
        · rw [if_neg w, if_neg w]
          exact h2 _ (by omega)
      · by_cases w : tb (pP c n q) i = true
        · rw [if_pos w, pk_un (by omega)]
          exact h1 r (by omega)
        · rw [if_neg w]
          exact h1 r (by omega)
    · by_cases w : tb (pP c n q) i = true
      · rw [if_pos w, pk_un (by omega)]
        exact h2 j (by omega)
      · rw [if_neg w]
        exact h2 j (by omega))
  refine ⟨s, ?_, h1, h2⟩
  refine Eq.trans e ?_
  show fX7_fill_L105 (nI q) nst his len thr pts rea pla bef k (m + 1) (nI (2 ^ n)) s = _
  rw [fX7_fill_L105, r_rows0 (by rw [h2 0 (by omega)]; exact h.1.1) hn, Option.bind_some, if_pos (nI_le (Nat.le_refl _) (by omega))]
  unfold fX7_fill_J167
  rw [nI_1]
theorem fl_parts {n K : Nat} {Z O : Nat → Int64} {asks hours : Int32} {A F : Nat → Int32} {z : Nat → Int32} (h : ST n K Z O asks hours A F z) {c : Nat → Int32} {L : Nat} (hr : rgt c n L) {R : Nat} (hR : (n + 5) * R + n + 3 < L) (hR10 : R ≤ 10) {pts : Nat → Int32} (hp : ∀ q, q ≤ R → pfl c n pts q) (nst : Int32) (his : Nat → Int32) (len thr pla : Int32) (bef : Nat → Int32) : ∃ z', fX7_fill_L95 nst his len thr pts (nI R) pla bef 5000 0 z = fX7_fill_J173 z' nst his len thr pts (nI R) pla bef ∧ ST n K (GPz c n Z (R + 1)) (GPo c n O (R + 1)) asks hours A F z' ∧ ∀ o r, o < 4 → 2 ^ n ≤ r → r < 64 → z' (12 + 64 * o + r) = z (12 + 64 * o + r) := by
  have hn := h.2.1.2.1
  have h64 := p64 hn
  obtain ⟨m, s, e, h1, h2⟩ := loop0 (fun k i s => fX7_fill_L95 nst his len thr pts (nI R) pla bef k i s) (fun i s => ST n K (GPz c n Z i) (GPo c n O i) asks hours A F s ∧ ∀ o r, o < 4 → 2 ^ n ≤ r → r < 64 → s (12 + 64 * o + r) = z (12 + 64 * o + r)) (R + 1) (s := z) (by omega) ⟨h, fun _ _ _ _ _ => rfl⟩ (by
    intro m i s hi hI
    obtain ⟨h1, h2⟩ := hI
    have hiR : i ≤ R := by omega
    have hmul : (n + 5) * i ≤ (n + 5) * R := Nat.mul_le_mul_left _ hiR
    obtain ⟨o1, o2⟩ := po_e (q := i) hr (by omega)
    obtain ⟨v1, v2⟩ := pv_e (q := i) hr (by omega)
    obtain ⟨z', e, g1, g2⟩ := fl_part h1 hr (show (n + 5) * i + n + 3 < L by omega) (by omega) (hp i hiR) nst his len thr (nI R) pla bef (fX7_fill_L95 nst his len thr pts (nI R) pla bef m)
    refine ⟨z', ?_, ?_, fun o r ho hr1 hr2 => ?_⟩
    · show fX7_fill_L95 nst his len thr pts (nI R) pla bef (m + 1) (nI i) s = _
      rw [fX7_fill_L95, if_neg (nI_nlt hiR (by omega)), e]
    · rw [GPz_s, GPo_s]
      exact gv_ST h1 o2 (pP_sub hn) v2 g1 (fun q _ hq => g2 q (by omega))
    · rw [← h2 o r ho hr1 hr2]
      by_cases e : o = po c n i
      · subst e
        exact g2 _ (by omega)
      · exact g2 _ (by omega))
  refine ⟨s, ?_, h1, h2⟩
  refine Eq.trans e ?_
  show fX7_fill_L95 nst his len thr pts (nI R) pla bef (m + 1) (nI (R + 1)) s = _
  rw [fX7_fill_L95, if_pos (nI_lt (Nat.lt_succ_self R) (by omega))]
/-! how many truths another one -/
def chN (Z O Y P : Nat → Int64) : Nat := sumN 4 (fun o => pc ((P o ^^^ O o) ||| (Y o ^^^ Z o)))
theorem tt_cls (Z O Y P : Nat → Int64) : fX3_truthsOtherThan Y P Z O = some (nI (chN Z O Y P)) := by
  obtain ⟨m, s, e, hI⟩ := loop0 (fun k i s => fX3_truthsOtherThan_L4 Y P Z O k s i) (fun i s => s = nI (sumN i (fun o => pc ((P o ^^^ O o) ||| (Y o ^^^ Z o))))) 4 (s := (0 : Int32)) (by decide) rfl (by
    intro m i s hi hI
    subst hI
    refine ⟨_, ?_, rfl⟩
    show fX3_truthsOtherThan_L4 Y P Z O (m + 1) _ (nI i) = fX3_truthsOtherThan_L4 Y P Z O m (nI (sumN i (fun o => pc ((P o ^^^ O o) ||| (Y o ^^^ Z o))) + pc ((P i ^^^ O i) ||| (Y i ^^^ Z i)))) (nI (i + 1))
    rw [fX3_truthsOtherThan_L4, if_neg (n4 hi), gd_in hi (by decide), gd_in hi (by decide), gd_in hi (by decide), gd_in hi (by decide), nI_clamp (by omega), pc_cls, Option.bind_some, nI_add, nI_1])
  unfold fX3_truthsOtherThan
  refine Eq.trans e ?_
  show fX3_truthsOtherThan_L4 Y P Z O (m + 1) s (nI 4) = _
  rw [fX3_truthsOtherThan_L4, if_pos p4_, hI]
  rfl
theorem sum_256 (f : Nat → Nat) : sumN 256 f = sumN 4 (fun o => sumN 64 (fun r => f (64 * o + r))) := by
  have h : ∀ k, sumN (64 * k) f = sumN k (fun o => sumN 64 (fun r => f (64 * o + r))) := by
    intro k
    induction k with
    | zero => rfl
    | succ k ih => rw [show 64 * (k + 1) = 64 * k + 64 by omega, sumN_front, ih]; rfl
  exact h 4
theorem n256 {i : Nat} (h : i < 256) : ¬ (256 : Int32) ≤ nI i := nI_ge (b := 256) h (by decide)
theorem ix12 (o : Nat) : (12 : Int32) + nI o = nI (12 + o) := nI_add 12 o
theorem ch_sum {n K K' : Nat} {Z O Y P : Nat → Int64} {asks hours asks' hours' : Int32} {A F A' F' : Nat → Int32} {z y bef : Nat → Int32} (h : ST n K Z O asks hours A F z) (h' : ST n K' Y P asks' hours' A' F' y) (hb : ∀ k, k < 256 → bef k = z (12 + k)) (hx : ∀ o r, o < 4 → 2 ^ n ≤ r → r < 64 → y (12 + 64 * o + r) = z (12 + 64 * o + r)) : sumN 256 (fun k => (!decide (bef k = y (12 + k))).toNat) = chN Z O Y P := by
  have hn := h.2.1.2.1
  have h64 := p64 hn
  rw [sum_256]
  refine sumN_congr (fun o ho => sumN_congr (fun r hr => ?_))
  obtain ⟨a1, a2, a3⟩ := h.2.1.2.2.2 o ho
  obtain ⟨b1, b2, b3⟩ := h'.2.1.2.2.2 o ho
  rw [hb _ (by omega), show 12 + (64 * o + r) = 12 + 64 * o + r by omega]
  congr 1
  rw [tb_or, tb_xor, tb_xor]
  by_cases hr2 : r < 2 ^ n
  · rw [h.1.2.2 o ho r hr2, h'.1.2.2 o ho r hr2]
    have u := a3 r hr
    have w := b3 r hr
    unfold tOf
    revert u w
    cases tb (Z o) r <;> cases tb (O o) r <;> cases tb (Y o) r <;> cases tb (P o) r <;> intro u w <;> first | decide | exact absurd (u rfl) (by decide) | exact absurd (w rfl) (by decide)
  · rw [hx o r ho (by omega) hr, decide_eq_true rfl]
    have u1 : tb (Z o) r = false := by
      cases q : tb (Z o) r
      · rfl
      · exact absurd (a1 r hr q) hr2
    have u2 : tb (O o) r = false := by
      cases q : tb (O o) r
      · rfl
      · exact absurd (a2 r hr q) hr2
    have u3 : tb (Y o) r = false := by
      cases q : tb (Y o) r
      · rfl
      · exact absurd (b1 r hr q) hr2
    have u4 : tb (P o) r = false := by
      cases q : tb (P o) r
      · rfl
      · exact absurd (b2 r hr q) hr2
    rw [u1, u2, u3, u4]
    rfl
theorem do_fill {n K k : Nat} {Z O : Nat → Int64} {asks hours : Int32} {A F : Nat → Int32} {z his : Nat → Int32} {hv : Nat → SV} (h : ST n K Z O asks hours A F z) (hh : HV k hv his) {c txt : Nat → Int32} {L : Nat} (hL : L ≤ 60) (ht : ∀ i, i < L → c i = txt i) (pts bef : Nat → Int32) : (∃ pts' rea pla, fX6_fill (nI n) (nI K) asks hours Z O A F (nI k) c (nI L) hv = some (.inl 0) ∧ fX7_fill z (nI k) his (nI L) txt pts bef = some (0, z, nI k, his, nI L, 1, pts', rea, pla, bef)) ∨ ∃ b k' Z' O' hv' z' his' pts' rea pla bef', fX6_fill (nI n) (nI K) asks hours Z O A F (nI k) c (nI L) hv = some (.inr (b, 1, Z', O', nI k', 0, hv')) ∧ fX7_fill z (nI k) his (nI L) txt pts bef = some (b, z', nI k', his', 0, 0, pts', rea, pla, bef') ∧ ST n K Z' O' asks hours A F z' ∧ HV k' hv' his' := by
  have hn1 := h.2.1.1
  have hn := h.2.1.2.1
  have h64 := p64 hn
  obtain ⟨w, pts', rea, pla, e1, e2, hw, hcase⟩ := fe_both hn1 hn h.1.1 hL ht pts
  have hpl := plc_le c L
  have hn4 : nI n + 4 = nI (n + 4) := nI_add n 4
  unfold fX6_fill fX7_fill
  rw [it_cls c hL, e2, Option.bind_some]
  unfold fX4_isTable_J46
  rw [e1, Option.bind_some, hn4]
  have bad : ¬ (w = L ∧ plc c L = n + 4) → (∃ pts' rea pla, ((if nI w = nI L then (if nI (plc c L) = nI (n + 4) then some (1 : Int32) else some 0) else some 0).bind (fun q_1 => (if q_1 = 0 then some (.inl 0) else (fX6_saveBeforeChange (nI n) (nI K) asks hours Z O A F (nI k) hv).bind (fun q_2 => (fX4_giveTo c (nI L) (nI n) Z O).bind (fun q_3 => (fX0_truthsChanged q_2.2.1 q_3.1 q_3.2 q_2.2.2).bind (fun q_4 => some (.inr (q_4, q_2.1, q_3.1, q_3.2, q_2.2.1, 0, q_2.2.2)))))))) = (some (.inl 0) : Option (Nat ⊕ (Int32 × Int32 × (Nat → Int64) × (Nat → Int64) × Int32 × Int32 × (Nat → SV)))) ∧ fX7_fill_J42 1 z (nI k) his (nI L) pts' rea pla bef = some (0, z, nI k, his, nI L, 1, pts', rea, pla, bef)) := by
    intro hbad
    refine ⟨pts', rea, pla, ?_, ?_⟩
    · by_cases q1 : w = L
      · have q2 : ¬ plc c L = n + 4 := fun q => hbad ⟨q1, q⟩
        rw [if_pos (by rw [q1]), if_neg (fun y => q2 ((nI_eq (by omega) (by omega)).mp y)), Option.bind_some, if_pos rfl]
      · rw [if_neg (fun y => q1 ((nI_eq (by omega) (by omega)).mp y)), Option.bind_some, if_pos rfl]
    · unfold fX7_fill_J42
      rw [if_neg i0]
  by_cases q1 : w = L
  · rcases hcase with hlt | ⟨_, hr, hp, er, ep⟩
    · omega
    · rw [if_pos (show nI w = nI L by rw [q1]), if_pos (show nI w = nI L by rw [q1]), gdz, c0_, h.1.1, hn4]
      subst er ep
      show (∃ _ _ _, _ ∧ (if nI (plc c L) = nI (n + 4) then _ else _) = _) ∨ ∃ _ _ _ _ _ _ _ _ _ _ _, _ ∧ (if nI (plc c L) = nI (n + 4) then _ else _) = _ ∧ _
      by_cases q2 : plc c L = n + 4
      · rw [if_pos (show nI (plc c L) = nI (n + 4) by rw [q2]), if_pos (show nI (plc c L) = nI (n + 4) by rw [q2]), Option.bind_some, if_neg z01]
        obtain ⟨k', hv', his', e7, e8, h3, h4⟩ := keep2 h hh
        obtain ⟨g1, g2⟩ := rgt_p L hr
        have hR : (n + 5) * rdc c L + n + 3 < L := by omega
        have hR10 : rdc c L ≤ 10 := by
          rcases Nat.lt_or_ge (rdc c L) 11 with y | y
          · omega
          · have : 6 * 11 ≤ (n + 5) * rdc c L := Nat.mul_le_mul (by omega) y
            omega
        have hpf : ∀ q, q ≤ rdc c L → pfl c n pts' q := by
          intro q hq
          by_cases y : q = rdc c L
          · subst y
            obtain ⟨a, b⟩ := hp.2.1 (by omega)
            rw [show min (plc c L) n = n by omega] at a b
            exact ⟨a, b, hp.2.2.1 (by omega), hp.2.2.2 (by omega)⟩
          · exact hp.1 q (by omega)
        have hg := gt_step hn1 hn hL hr Z O L 0 (Nat.zero_add L) 5000 (by omega) 0 (fun y => absurd (show n + 1 < 0 from y) (by omega))
        have hgp : gpN c n L = rdc c L + 1 := if_pos q2
        have hgp0 : gpN c n 0 = 0 := by
          unfold gpN
          rw [if_neg (show ¬ plc c 0 = n + 4 from fun y => absurd (show 0 = n + 4 from y) (by omega))]
          rfl
        have hcu0 : cuS c n 0 = 0 := by
          unfold cuS
          rw [show plc c 0 = 0 from rfl, if_pos (Nat.zero_le _), Nat.zero_min]
          rfl
        have hvu0 : vuS c n 0 = 0 := by
          unfold vuS
          rw [show plc c 0 = 0 from rfl, if_pos (Nat.zero_le _), Nat.zero_min]
          rfl
        rw [hgp, hgp0, hcu0, hvu0, show plc c 0 = 0 from rfl] at hg
        have hg2 : fX4_giveTo c (nI L) (nI n) Z O = some (GPz c n Z (rdc c L + 1), GPo c n O (rdc c L + 1)) := hg
        obtain ⟨m, s, e3, hb⟩ := loop0 (fun k2 i s => fX7_fill_L65 z (nI (k' + 1)) his' 0 0 pts' (nI (rdc c L)) (nI (plc c L)) k2 i s) (fun i s => ∀ j, j < i → s j = z (12 + j)) 256 (s := bef) (by decide) (fun j hj => absurd hj (by omega)) (by
          intro m i s hi hI
          refine ⟨upd s i (z (12 + i)), ?_, fun j hj => ?_⟩
          · show fX7_fill_L65 z (nI (k' + 1)) his' 0 0 pts' (nI (rdc c L)) (nI (plc c L)) (m + 1) (nI i) s = _
            rw [fX7_fill_L65, if_neg (n256 hi), ix12, gd_in (show 12 + i < 268 by omega) (by decide), gd_in hi (by decide), nI_clamp (by omega), nI_clamp (by omega), nI_1]
          · by_cases y : j = i
            · subst y; exact pk_us
            · rw [pk_un y]; exact hI j (by omega))
        obtain ⟨z', e4, hST, hx⟩ := fl_parts h hr hR hR10 hpf (nI (k' + 1)) his' 0 0 (nI (plc c L)) s
        obtain ⟨m2, s2, e5, hI2⟩ := loop0 (fun k2 i t => fX7_fill_L177 z' (nI (k' + 1)) his' 0 0 pts' (nI (rdc c L)) (nI (plc c L)) s k2 t i) (fun i t => t = nI (sumN i (fun j => (!decide (s j = z' (12 + j))).toNat))) 256 (s := (0 : Int32)) (by decide) rfl (by
          intro m i t hi hI
          subst hI
          refine ⟨_, ?_, rfl⟩
          show fX7_fill_L177 z' (nI (k' + 1)) his' 0 0 pts' (nI (rdc c L)) (nI (plc c L)) s (m + 1) _ (nI i) = fX7_fill_L177 z' (nI (k' + 1)) his' 0 0 pts' (nI (rdc c L)) (nI (plc c L)) s m (nI (sumN i (fun j => (!decide (s j = z' (12 + j))).toNat) + (!decide (s i = z' (12 + i))).toNat)) (nI (i + 1))
          rw [fX7_fill_L177, if_neg (n256 hi), gd_in hi (by decide), ix12, gd_in (show 12 + i < 268 by omega) (by decide), nI_clamp (by omega), nI_clamp (by omega)]
          unfold fX7_fill_J208
          by_cases y : s i = z' (12 + i)
          · rw [if_pos y, decide_eq_true y, nI_1, Int32.add_zero]
            rfl
          · rw [if_neg y, decide_eq_false y, nI_1, nI_1]
            rfl)
        have hcls : fX0_truthsChanged (nI (k' + 1)) (GPz c n Z (rdc c L + 1)) (GPo c n O (rdc c L + 1)) hv' = some (nI (chN Z O (GPz c n Z (rdc c L + 1)) (GPo c n O (rdc c L + 1)))) := by
          have hk6 := h3.1
          unfold fX0_truthsChanged
          rw [if_neg (nI_nle (by omega) (by omega)), nI_pred, nI_clamp (by omega), h4]
          exact tt_cls Z O _ _
        rw [e7, Option.bind_some, hg2, Option.bind_some, hcls, Option.bind_some]
        unfold fX7_fill_J31 fX7_fill_J42
        rw [if_neg z01, if_pos le00, e8, Option.bind_some]
        refine Or.inr ⟨_, _, _, _, _, z', his', pts', nI (rdc c L), nI (plc c L), s, rfl, ?_, hST, h3⟩
        refine Eq.trans e3 ?_
        show fX7_fill_L65 z (nI (k' + 1)) his' 0 0 pts' (nI (rdc c L)) (nI (plc c L)) (m + 1) (nI 256) s = _
        rw [fX7_fill_L65, if_pos (by decide)]
        unfold fX7_fill_J93
        rw [e4]
        unfold fX7_fill_J173
        refine Eq.trans e5 ?_
        show fX7_fill_L177 z' (nI (k' + 1)) his' 0 0 pts' (nI (rdc c L)) (nI (plc c L)) s (m2 + 1) s2 (nI 256) = _
        rw [fX7_fill_L177, if_pos (by decide), hI2, ch_sum h hST (fun j hj => hb j hj) hx]
      · have hb := bad (fun y => q2 y.2)
        obtain ⟨p1, p2, p3, hb1, hb2⟩ := hb
        rw [if_pos (show nI w = nI L by rw [q1])] at hb1
        rw [if_neg (show ¬ nI (plc c L) = nI (n + 4) from fun y => q2 ((nI_eq (by omega) (by omega)).mp y))]
        rw [if_neg (show ¬ nI (plc c L) = nI (n + 4) from fun y => q2 ((nI_eq (by omega) (by omega)).mp y))] at hb1
        rw [if_neg (show ¬ nI (plc c L) = nI (n + 4) from fun y => q2 ((nI_eq (by omega) (by omega)).mp y))]
        unfold fX7_fill_J30 fX7_fill_J31 fX7_fill_J42
        rw [if_pos rfl, if_neg i0]
        exact Or.inl ⟨_, _, _, hb1, rfl⟩
  · have hb := bad (fun y => q1 y.1)
    obtain ⟨p1, p2, p3, hb1, hb2⟩ := hb
    rw [if_neg (show ¬ nI w = nI L from fun y => q1 ((nI_eq (by omega) (by omega)).mp y))] at hb1
    rw [if_neg (show ¬ nI w = nI L from fun y => q1 ((nI_eq (by omega) (by omega)).mp y)), if_neg (show ¬ nI w = nI L from fun y => q1 ((nI_eq (by omega) (by omega)).mp y))]
    unfold fX7_fill_J30 fX7_fill_J31 fX7_fill_J42
    rw [if_pos rfl, if_neg i0]
    exact Or.inl ⟨_, _, _, hb1, rfl⟩
theorem do_append {c txt : Nat → Int32} {L : Nat} (hL : L ≤ 60) (ht : ∀ i, i < L → c i = txt i) (x : Int32) : (fX6_append c (nI L) x = some (.inl 0) ∧ fX7_append (nI L) txt x = some (0, nI L, txt, 1)) ∨ (fX6_append c (nI L) x = some (.inl 2) ∧ fX7_append (nI L) txt x = some (0, nI L, txt, 2)) ∨ ∃ c' txt' L', fX6_append c (nI L) x = some (.inr (nI L', c', nI L')) ∧ fX7_append (nI L) txt x = some (nI L', nI L', txt', 0) ∧ L' ≤ 60 ∧ ∀ i, i < L' → c' i = txt' i := by
  unfold fX6_append fX7_append fX7_append_J30
  rcases crg (lo := 33) (hi := 126) (by decide) (by decide) (a := 33) (b := 126) rfl rfl x with ⟨e1, e2⟩ | ⟨v, v1, v2, rfl, e1, e2⟩
  · rw [e1, e2, tb_l, Option.bind_some, if_pos rfl, if_neg i0]
    exact Or.inl ⟨rfl, rfl⟩
  · rw [e1, e2, tb_r, Option.bind_some, if_neg z01]
    unfold fX4_add
    rw [if_neg (nI_pos (by omega))]
    by_cases h : L = 60
    · subst h
      rw [if_neg (by decide), Option.bind_some, if_pos rfl, if_pos (by decide), if_neg i2]
      exact Or.inr (Or.inl ⟨rfl, rfl⟩)
    · rw [if_pos (show nI L < 60 from nI_lt (b := 60) (by omega) (by decide)), gd_in (show L < 60 by omega) (by decide), Option.bind_some, if_neg z01, if_neg (show ¬ nI L = 60 from fun w => h ((nI_eq (b := 60) (by omega) (by decide)).mp w)), if_pos le00, gd_in (show L < 60 by omega) (by decide), nI_clamp (by omega), nI_1]
      refine Or.inr (Or.inr ⟨_, _, L + 1, rfl, rfl, by omega, fun i hi => ?_⟩)
      show upd c L (nI v) i = upd txt L (nI v) i
      by_cases e : i = L
      · rw [e, pk_us, pk_us]
      · rw [pk_un e, pk_un e]; exact ht i (by omega)
