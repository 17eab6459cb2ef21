/-! the view that is kept; hours; asks; undo -/
theorem vw_cls {n K : Nat} {Z O : Nat → Int64} (hk : OKs n K Z O) (po : Int32) (bad : Nat → Int64) (co : Nat → Int32) (ro : Nat → Int64) (si : Int32) (vi vu vp vs vc : Int32) (vz vo vn va : Nat → Int64) (vq vk vd : Nat → Int32) (hv : po = 0 → VW n K Z O vi vu vp vs vc vz vo vn va vq vk vd) : ∃ bad' co' ro' si' vi' vu' vp' vs' vc' vz' vo' vn' va' vq' vk' vd', fX6_viewOfPresent po (nI n) (nI K) Z O bad co ro si vi vu vp vs vc vz vo vn va vq vk vd = some (0, bad', co', ro', si', vi', vu', vp', vs', vc', vz', vo', vn', va', vq', vk', vd') ∧ VW n K Z O vi' vu' vp' vs' vc' vz' vo' vn' va' vq' vk' vd' := by
  unfold fX6_viewOfPresent
  by_cases h : po = 0
  · rw [if_pos h, h]
    exact ⟨bad, co, ro, si, vi, vu, vp, vs, vc, vz, vo, vn, va, vq, vk, vd, rfl, hv h⟩
  · rw [if_neg h]
    obtain ⟨vi', vu', vp', vs', vc', vz', vo', vn', va', vq', vk', vd', b, c, r, s, e, hw⟩ := lk_cls hk vz vo vn va vq vk vd bad co ro si
    rw [e, Option.bind_some]
    exact ⟨b, c, r, s, vi', vu', vp', vs', vc', vz', vo', vn', va', vq', vk', vd', rfl, hw⟩
theorem ST_h {n K : Nat} {Z O : Nat → Int64} {asks hours : Int32} {A F : Nat → Int32} {z : Nat → Int32} (h : ST n K Z O asks hours A F z) (x : Int32) : ST n K Z O asks x A F (upd z 3 x) := by
  obtain ⟨⟨h1, h2, h3⟩, hk, h4, h5, h6, h7⟩ := h
  refine ⟨⟨?_, ?_, fun o ho r hr => ?_⟩, hk, ?_, pk_us, fun o ho => ?_, fun o ho => ?_⟩
  · rw [pk_un (by decide)]; exact h1
  · rw [pk_un (by decide)]; exact h2
  · rw [pk_un (by omega)]; exact h3 o ho r hr
  · rw [pk_un (by decide)]; exact h4
  · rw [pk_un (by omega)]; exact h6 o ho
  · rw [pk_un (by omega)]; exact h7 o ho
theorem ST_a {n K : Nat} {Z O : Nat → Int64} {asks hours : Int32} {A F : Nat → Int32} {z : Nat → Int32} (h : ST n K Z O asks hours A F z) (x : Int32) : ST n K Z O x hours A F (upd z 2 x) := by
  obtain ⟨⟨h1, h2, h3⟩, hk, h4, h5, h6, h7⟩ := h
  refine ⟨⟨?_, ?_, fun o ho r hr => ?_⟩, hk, pk_us, ?_, fun o ho => ?_, fun o ho => ?_⟩
  · rw [pk_un (by decide)]; exact h1
  · rw [pk_un (by decide)]; exact h2
  · rw [pk_un (by omega)]; exact h3 o ho r hr
  · rw [pk_un (by decide)]; exact h5
  · rw [pk_un (by omega)]; exact h6 o ho
  · rw [pk_un (by omega)]; exact h7 o ho
theorem ST_al {n K : Nat} {Z O : Nat → Int64} {asks hours : Int32} {A F : Nat → Int32} {z : Nat → Int32} (h : ST n K Z O asks hours A F z) {o : Nat} (ho : o < 4) (x : Int32) : ST n K Z O asks hours (upd A o x) F (upd z (4 + o) x) := by
  obtain ⟨⟨h1, h2, h3⟩, hk, h4, h5, h6, h7⟩ := h
  refine ⟨⟨?_, ?_, fun p hp r hr => ?_⟩, hk, ?_, ?_, fun p hp => ?_, fun p hp => ?_⟩
  · rw [pk_un (by omega)]; exact h1
  · rw [pk_un (by omega)]; exact h2
  · rw [pk_un (by omega)]; exact h3 p hp r hr
  · rw [pk_un (by omega)]; exact h4
  · rw [pk_un (by omega)]; exact h5
  · by_cases e : p = o
    · subst e; rw [pk_us, pk_us]
    · rw [pk_un (by omega), pk_un e]; exact h6 p hp
  · rw [pk_un (by omega)]; exact h7 p hp
theorem ST_fa {n K : Nat} {Z O : Nat → Int64} {asks hours : Int32} {A F : Nat → Int32} {z : Nat → Int32} (h : ST n K Z O asks hours A F z) {o : Nat} (ho : o < 4) (x : Int32) : ST n K Z O asks hours A (upd F o x) (upd z (8 + o) x) := by
  obtain ⟨⟨h1, h2, h3⟩, hk, h4, h5, h6, h7⟩ := h
  refine ⟨⟨?_, ?_, fun p hp r hr => ?_⟩, hk, ?_, ?_, fun p hp => ?_, fun p hp => ?_⟩
  · rw [pk_un (by omega)]; exact h1
  · rw [pk_un (by omega)]; exact h2
  · rw [pk_un (by omega)]; exact h3 p hp r hr
  · rw [pk_un (by omega)]; exact h4
  · rw [pk_un (by omega)]; exact h5
  · rw [pk_un (by omega)]; exact h6 p hp
  · by_cases e : p = o
    · subst e; rw [pk_us, pk_us]
    · rw [pk_un (by omega), pk_un e]; exact h7 p hp
theorem pass_both {n : Nat} {Z O : Nat → Int64} {asks : Int32} {A F : Nat → Int32} (po hs nst : Int32) (hv : Nat → SV) (his : Nat → Int32) {v : Nat} (hv6 : v ≤ 6) : ∀ d i, i + d = v → ∀ fuel, d < fuel → ∀ (K : Nat) (hours : Int32) (z : Nat → Int32), ST n K Z O asks hours A F z → ∃ (K' : Nat) (hours' : Int32) (z' : Nat → Int32), fX6_pass_L13 (nI v) po (nI n) Z O hs hv fuel (nI i) (nI K) hours = some (.inr (nI (ocN K'), po, nI K', hours', hs, hv)) ∧ fX7_pass_L34 (nI v) nst his 0 fuel (nI i) z = some (nI (ocN K'), z', nst, his, 0) ∧ ST n K' Z O asks hours' A F z' := by
  intro d
  induction d with
  | zero =>
    intro i hi fuel hf K hours z h
    obtain ⟨f, rfl⟩ : ∃ f, fuel = f + 1 := ⟨fuel - 1, by omega⟩
    have h64 := p64 h.2.1.2.1
    have hK64 : K < 64 := Nat.lt_of_lt_of_le h.2.1.2.2.1 h64
    refine ⟨K, hours, z, ?_, ?_, h⟩
    · rw [fX6_pass_L13, if_pos (nI_le (by omega) (by omega))]
      unfold fX6_pass_J70
      rw [oc_eq K hK64, Option.bind_some]
    · rw [fX7_pass_L34, if_pos (nI_le (by omega) (by omega))]
      unfold fX7_pass_J58
      rw [gdo, c1_, h.1.2.1, oc_ref K hK64, Option.bind_some]
  | succ d ih =>
    intro i hi fuel hf K hours z h
    obtain ⟨f, rfl⟩ : ∃ f, fuel = f + 1 := ⟨fuel - 1, by omega⟩
    have hn := h.2.1.2.1
    have h64 := p64 hn
    have hK64 : K < 64 := Nat.lt_of_lt_of_le h.2.1.2.2.1 h64
    by_cases h0 : K = 0
    · refine ⟨K, hours, z, ?_, ?_, h⟩
      · rw [fX6_pass_L13, if_neg (nI_ge (show i < v by omega) (by omega)), if_pos (by rw [h0]; decide)]
        unfold fX6_pass_J70
        rw [oc_eq K hK64, Option.bind_some]
      · rw [fX7_pass_L34, if_neg (nI_ge (show i < v by omega) (by omega)), gdo, c1_, h.1.2.1, if_pos (by rw [h0]; decide)]
        unfold fX7_pass_J58
        rw [gdo, c1_, h.1.2.1, oc_ref K hK64, Option.bind_some]
    · obtain ⟨p1, p2, p3⟩ := lm_pos h.2.1.2.2.1 h0 Z O
      have hms := ms_p2 hn h.2.1.2.2.1 (2 ^ lmV n K Z O)
      have hST : ST n (ms K (2 ^ lmV n K Z O)) Z O asks (hours + 1) A F (upd (upd z 1 (nI (ms K (2 ^ lmV n K Z O)))) 3 (hours + 1)) := ST_h (ST_k h hms) (hours + 1)
      obtain ⟨K', hours', z', e1, e2, h3⟩ := ih (i + 1) (by omega) f (by omega) _ _ _ hST
      refine ⟨K', hours', z', ?_, ?_, h3⟩
      · rw [fX6_pass_L13, if_neg (nI_ge (show i < v by omega) (by omega)), if_neg (nI_ne0 (by omega) (by omega)), lm_cls h.2.1 h0, Option.bind_some, al_sh _ (by omega), kb_1 K hK64 _ (by omega), nI_1]
        exact e1
      · rw [fX7_pass_L34, if_neg (nI_ge (show i < v by omega) (by omega)), gdo, c1_, h.1.2.1, if_neg (nI_nle (by omega) (by omega)), hr_ref h.1 h.2.1 h0, Option.bind_some, h.2.2.2.1, nI_1]
        exact e2
theorem do_pass {n K k : Nat} {Z O : Nat → Int64} {asks hours : Int32} {A F : Nat → Int32} {z his : Nat → Int32} {hv : Nat → SV} (h : ST n K Z O asks hours A F z) (hh : HV k hv his) (x : Int32) : (fX6_pass (nI n) (nI K) asks hours Z O A F (nI k) hv x = some (.inl 0) ∧ fX7_pass z (nI k) his x = some (0, z, nI k, his, 1)) ∨ ∃ b K' hours' k' hv' z' his', fX6_pass (nI n) (nI K) asks hours Z O A F (nI k) hv x = some (.inr (b, 1, nI K', hours', nI k', hv')) ∧ fX7_pass z (nI k) his x = some (b, z', nI k', his', 0) ∧ ST n K' Z O asks hours' A F z' ∧ HV k' hv' his' := by
  unfold fX6_pass fX7_pass
  rcases crg (lo := 1) (hi := 6) (by decide) (by decide) (a := 1) (b := 6) rfl rfl x with ⟨e1, e2⟩ | ⟨v, v1, v2, rfl, e1, e2⟩
  · rw [e1, e2, tb_l, Option.bind_some, if_pos rfl]
    unfold fX7_pass_J16
    rw [if_neg i0]
    exact Or.inl ⟨rfl, rfl⟩
  · rw [e1, e2, tb_r, Option.bind_some, if_neg z01]
    obtain ⟨k', hv', his', e3, e4, h3, h4⟩ := keep2 h hh
    obtain ⟨K', hours', z', e5, e6, h5⟩ := pass_both (asks := asks) (A := A) (F := F) 1 (nI (k' + 1)) (nI (k' + 1)) hv' his' v2 v 0 (Nat.zero_add v) 5000 (by omega) K hours z h
    unfold fX7_pass_J16
    rw [e3, Option.bind_some, if_pos le00, e4, Option.bind_some]
    exact Or.inr ⟨_, _, _, _, _, _, _, e5, e6, h5, h3⟩
theorem ix4 (o : Nat) : (4 : Int32) + nI o = nI (4 + o) := nI_add 4 o
theorem ix8 (o : Nat) : (8 : Int32) + nI o = nI (8 + o) := nI_add 8 o
theorem tb_ne (Z O : Nat → Int64) (o r : Nat) (b : Bool) : (2 ≤ tOf Z O o r ↔ tOf Z O o r = 2) := by
  unfold tOf
  cases tb (O o) r <;> cases tb (Z o) r <;> decide
theorem ask_both {n K : Nat} {Z O : Nat → Int64} {asks hours : Int32} (po hs nst : Int32) (hv : Nat → SV) (his : Nat → Int32) (god : Nat → Int64) (prm : Nat → Int32) (npr : Int32) {cov siz : Nat → Int32} (hc : CVR n K Z O cov siz) (bad : Nat → Int64) (co : Nat → Int32) (ro : Nat → Int64) (si : Int32) {vi vu vp vs vc : Int32} {vz vo vn va : Nat → Int64} {vq vk vd : Nat → Int32} (hw : VW n K Z O vi vu vp vs vc vz vo vn va vq vk vd) {r : Nat} (hr : r < 2 ^ n) : ∀ d o, o + d = 4 → ∀ fuel, d < fuel → ∀ (b : Int32) (A F : Nat → Int32) (z : Nat → Int32), ST n K Z O asks hours A F z → ∃ (b' : Int32) (A' F' : Nat → Int32) (z' : Nat → Int32), fX6_ask_L39 (nI r) po asks Z O hs bad co ro si vi vu vp vs vc vz vo vn va vq vk vd hv fuel b (nI o) A F = some (.inr (b', po, asks, A', F', hs, bad, co, ro, si, vi, vu, vp, vs, vc, vz, vo, vn, va, vq, vk, vd, hv)) ∧ fX7_ask_L48 (nI r) nst his 0 god prm npr cov siz fuel b (nI o) z = some (b', z', nst, his, 0, god, prm, npr, cov, siz) ∧ ST n K Z O asks hours A' F' z' := by
  intro d
  induction d with
  | zero =>
    intro o ho fuel hf b A F z h
    obtain ⟨f, rfl⟩ : ∃ f, fuel = f + 1 := ⟨fuel - 1, by omega⟩
    have e : o = 4 := by omega
    subst e
    refine ⟨b, A, F, z, ?_, ?_, h⟩
    · rw [fX6_ask_L39, if_pos p4_]
    · rw [fX7_ask_L48, if_pos p4_]
  | succ d ih =>
    intro o ho fuel hf b A F z h
    obtain ⟨f, rfl⟩ : ∃ f, fuel = f + 1 := ⟨fuel - 1, by omega⟩
    have ho4 : o < 4 := by omega
    have hn := h.2.1.2.1
    have h64 := p64 hn
    have hr64 : r < 64 := by omega
    obtain ⟨w1, w2, w3, w4, w5⟩ := hw.2.2.2.2.2.2 o ho4
    have hA : z (4 + o) = A o := h.2.2.2.2.1 o ho4
    -- the new numbers
    obtain ⟨x, ex⟩ : ∃ x : Int32, x = A o + (if dv (tb (al (fg n K) (Z o)) r) (tb (al (fg n K) (O o)) r) = 3 then 1 else 0) := ⟨_, rfl⟩
    obtain ⟨y, ey⟩ : ∃ y : Int32, y = F o + (if tOf Z O o r = 2 then 0 else if tOf Z O o r = bI (tb (AN n K Z O o) r) then 0 else 1) := ⟨_, rfl⟩
    have hST : ST n K Z O asks hours (upd A o x) (upd F o y) (upd (upd z (4 + o) x) (8 + o) y) := ST_fa (ST_al h ho4 x) ho4 y
    obtain ⟨b', A', F', z', e1, e2, h3⟩ := ih (o + 1) (by omega) f (by omega) (b ||| (bI (tb (AN n K Z O o) r) <<< (nI o &&& 31))) (upd A o x) (upd F o y) _ hST
    refine ⟨b', A', F', z', ?_, ?_, h3⟩
    · rw [← e1]
      rw [fX6_ask_L39, if_neg (n4 ho4), aa_cls ho4 hr64 w4, Option.bind_some, ta_cls Z O ho4 hr64, Option.bind_some, da_cls ho4 hr64 w1 w2 w3, Option.bind_some, gd_in ho4 (by decide), gd_in ho4 (by decide), lt_e, nI_clamp (by omega)]
      unfold fX6_ask_J91 fX6_ask_J118
      simp only [gd_in ho4 (show (4 : Nat) < 2 ^ 31 by decide), nI_clamp (show o < 2 ^ 31 by omega), lt_e, nI_1]
      by_cases c1 : dv (tb (al (fg n K) (Z o)) r) (tb (al (fg n K) (O o)) r) = 3
      · rw [if_pos c1] at ex ⊢
        rw [ex]
        by_cases c2 : tOf Z O o r = 2
        · rw [if_pos c2] at ey ⊢
          rw [ey, Int32.add_zero, ← upd_s F o]
        · rw [if_neg c2] at ey ⊢
          by_cases c3 : tOf Z O o r = bI (tb (AN n K Z O o) r)
          · rw [if_pos c3] at ey ⊢
            rw [ey, Int32.add_zero, ← upd_s F o]
          · rw [if_neg c3] at ey ⊢
            rw [ey]
      · rw [if_neg c1] at ex ⊢
        rw [ex, Int32.add_zero, ← upd_s A o]
        by_cases c2 : tOf Z O o r = 2
        · rw [if_pos c2] at ey ⊢
          rw [ey, Int32.add_zero, ← upd_s F o]
        · rw [if_neg c2] at ey ⊢
          by_cases c3 : tOf Z O o r = bI (tb (AN n K Z O o) r)
          · rw [if_pos c3] at ey ⊢
            rw [ey, Int32.add_zero, ← upd_s F o]
          · rw [if_neg c3] at ey ⊢
            rw [ey]
    · rw [← e2]
      have hF : upd z (4 + o) x (8 + o) = F o := by rw [pk_un (by omega)]; exact h.2.2.2.2.2 o ho4
      rw [fX7_ask_L48, if_neg (n4 ho4), an_ref h.2.1 ho4 hr (hc o ho4), Option.bind_some, r_truth z ho4 hr64, Option.bind_some, h.1.2.2 o ho4 r hr, ix4, gd_in (show 4 + o < 268 by omega) (by decide), dec_ref h.1 h.2.1 ho4 hr, Option.bind_some, nI_clamp (show 4 + o < 2 ^ 31 by omega), hA]
      have hJ : ∀ s : Int32, x = A o + s → fX7_ask_J100 (nI r) (b ||| (bI (tb (AN n K Z O o) r) <<< (nI o &&& 31))) (nI o) (bI (tb (AN n K Z O o) r)) (tOf Z O o r) s (A o) (nI (4 + o)) z nst his 0 god prm npr cov siz (fX7_ask_L48 (nI r) nst his 0 god prm npr cov siz f) = fX7_ask_L48 (nI r) nst his 0 god prm npr cov siz f (b ||| (bI (tb (AN n K Z O o) r) <<< (nI o &&& 31))) (nI (o + 1)) (upd (upd z (4 + o) x) (8 + o) y) := by
        intro s hs
        unfold fX7_ask_J100 fX7_ask_J129 fX7_ask_J130
        rw [ix8, ← hs]
        simp only [gd_in (show 4 + o < 268 by omega) (show (268 : Nat) < 2 ^ 31 by decide), gd_in (show 8 + o < 268 by omega) (show (268 : Nat) < 2 ^ 31 by decide), nI_clamp (show 4 + o < 2 ^ 31 by omega), nI_clamp (show 8 + o < 2 ^ 31 by omega), hF, nI_1]
        by_cases c2 : tOf Z O o r = 2
        · rw [if_pos c2] at ey
          rw [if_pos ((tb_ne Z O o r true).mpr c2), ey]
        · rw [if_neg c2] at ey
          rw [if_neg (fun w => c2 ((tb_ne Z O o r true).mp w))]
          by_cases c3 : tOf Z O o r = bI (tb (AN n K Z O o) r)
          · rw [if_pos c3] at ey ⊢
            rw [ey]
          · rw [if_neg c3] at ey ⊢
            rw [ey]
      by_cases c1 : dv (tb (al (fg n K) (Z o)) r) (tb (al (fg n K) (O o)) r) = 3
      · rw [if_pos c1] at ex ⊢
        exact hJ 1 ex
      · rw [if_neg c1] at ex ⊢
        exact hJ 0 ex
theorem do_ask {n K k : Nat} {Z O : Nat → Int64} {asks hours : Int32} {A F : Nat → Int32} {z his : Nat → Int32} {hv : Nat → SV} (h : ST n K Z O asks hours A F z) (hh : HV k hv his) (po : Int32) (bad : Nat → Int64) (co : Nat → Int32) (ro : Nat → Int64) (si : Int32) (vi vu vp vs vc : Int32) (vz vo vn va : Nat → Int64) (vq vk vd : Nat → Int32) (hw : po = 0 → VW n K Z O vi vu vp vs vc vz vo vn va vq vk vd) (god : Nat → Int64) (prm : Nat → Int32) (npr : Int32) (cov siz : Nat → Int32) (x : Int32) : (fX6_ask po (nI n) (nI K) asks hours Z O A F (nI k) bad co ro si vi vu vp vs vc vz vo vn va vq vk vd hv x = some (.inl 1) ∧ fX7_ask z (nI k) his god prm npr cov siz x = some (0, z, nI k, his, 1, god, prm, npr, cov, siz)) ∨ ∃ b asks' A' F' k' bad' co' ro' si' vi' vu' vp' vs' vc' vz' vo' vn' va' vq' vk' vd' hv' z' his' g p q c s, fX6_ask po (nI n) (nI K) asks hours Z O A F (nI k) bad co ro si vi vu vp vs vc vz vo vn va vq vk vd hv x = some (.inr (b, 0, asks', A', F', nI k', bad', co', ro', si', vi', vu', vp', vs', vc', vz', vo', vn', va', vq', vk', vd', hv')) ∧ fX7_ask z (nI k) his god prm npr cov siz x = some (b, z', nI k', his', 0, g, p, q, c, s) ∧ ST n K Z O asks' hours A' F' z' ∧ HV k' hv' his' ∧ VW n K Z O vi' vu' vp' vs' vc' vz' vo' vn' va' vq' vk' vd' := by
  unfold fX6_ask fX7_ask
  rcases ckr h.1 h.2.1.2.1 x with ⟨e1, e2⟩ | ⟨r, hr, rfl, e1, e2⟩
  · rw [e1, e2, tb_l, Option.bind_some, if_pos rfl]
    unfold fX7_ask_J14
    rw [if_neg i0]
    exact Or.inl ⟨rfl, rfl⟩
  · rw [e1, e2, tb_r, Option.bind_some, if_neg z01]
    obtain ⟨bad', co', ro', si', vi', vu', vp', vs', vc', vz', vo', vn', va', vq', vk', vd', e3, hw2⟩ := vw_cls h.2.1 po bad co ro si vi vu vp vs vc vz vo vn va vq vk vd hw
    obtain ⟨k', hv', his', e4, e5, h3, h4⟩ := keep h hh
    obtain ⟨g, p, q, c, s, e6, hc⟩ := la_ref h.1 h.2.1 god prm npr cov siz
    obtain ⟨b, A', F', z', e7, e8, h5⟩ := ask_both 0 (nI (k' + 1)) (nI (k' + 1)) hv' his' g p q hc bad' co' ro' si' hw2 hr 4 0 (by decide) 5000 (by decide) 0 A F (upd z 2 (asks + 1)) (ST_a h (asks + 1))
    unfold fX7_ask_J14
    rw [e3, Option.bind_some, e4, Option.bind_some, if_pos le00, e5, Option.bind_some, e6, Option.bind_some, gd2, gd2, lt_e, show ((2 : Int32)).toNatClampNeg = 2 from rfl, h.2.2.1]
    exact Or.inr ⟨_, _, _, _, _, bad', co', ro', si', vi', vu', vp', vs', vc', vz', vo', vn', va', vq', vk', vd', _, _, _, _, _, _, _, _, e7, e8, h5, h3, hw2⟩
theorem cf_ex (tz to_ : Nat → Int64) (tA tf : Nat → Int32) (i r a h : Int32) (z o : Nat → Int64) (A F : Nat → Int32) : ∃ Z' O' A' F', fX3_copyFrom tz to_ tA tf i r a h z o A F = some (i, r, a, h, Z', O', A', F') ∧ ∀ p, p < 4 → Z' p = z p ∧ O' p = o p ∧ A' p = A p ∧ F' p = F p := by
  obtain ⟨m, s, e2, hI⟩ := loop0 (fun k j (s : (Nat → Int64) × (Nat → Int64) × (Nat → Int32) × (Nat → Int32)) => fX3_copyFrom_L34 i r a h z o A F k j s.1 s.2.1 s.2.2.1 s.2.2.2) (fun j s => ∀ p, p < j → s.1 p = z p ∧ s.2.1 p = o p ∧ s.2.2.1 p = A p ∧ s.2.2.2 p = F p) 4 (s := (tz, to_, tA, tf)) (by decide) (fun p hp => absurd hp (by omega)) (by
    intro m j s hj hI
    obtain ⟨s1, s2, s3, s4⟩ := s
    refine ⟨(vp_updL s1 j (z j), vp_updL s2 j (o j), upd s3 j (A j), upd s4 j (F j)), ?_, fun p hp => ?_⟩
    · show fX3_copyFrom_L34 i r a h z o A F (m + 1) (nI j) s1 s2 s3 s4 = _
      rw [fX3_copyFrom_L34, if_neg (n4 hj), gd_in hj (by decide), gd_in hj (by decide), gd_in hj (by decide), gd_in hj (by decide), gd_in hj (by decide), gd_in hj (by decide), gd_in hj (by decide), gd_in hj (by decide), nI_clamp (by omega), nI_1]
    · show vp_updL s1 j (z j) p = z p ∧ vp_updL s2 j (o j) p = o p ∧ upd s3 j (A j) p = A p ∧ upd s4 j (F j) p = F p
      by_cases hpj : p = j
      · subst hpj; exact ⟨pk_uLs, pk_uLs, pk_us, pk_us⟩
      · rw [pk_uLn hpj, pk_uLn hpj, pk_un hpj, pk_un hpj]
        exact hI p (by omega))
  obtain ⟨s1, s2, s3, s4⟩ := s
  refine ⟨s1, s2, s3, s4, ?_, hI⟩
  unfold fX3_copyFrom
  refine Eq.trans e2 ?_
  show fX3_copyFrom_L34 i r a h z o A F (m + 1) (nI 4) s1 s2 s3 s4 = _
  rw [fX3_copyFrom_L34, if_pos p4_]
theorem do_undo {n K k : Nat} {Z O : Nat → Int64} {asks hours : Int32} {A F : Nat → Int32} {z his : Nat → Int32} {hv : Nat → SV} (hh : HV k hv his) : (fX6_undo (nI n) (nI K) asks hours Z O A F (nI k) hv = some (.inl 2) ∧ fX7_undo z (nI k) his = some (0, z, nI k, 1)) ∨ ∃ n' K' k' asks' hours' Z' O' A' F' z', fX6_undo (nI n) (nI K) asks hours Z O A F (nI k) hv = some (.inr (nI k', 1, nI n', nI K', asks', hours', Z', O', A', F', nI k')) ∧ fX7_undo z (nI k) his = some (nI k', z', nI k', 0) ∧ ST n' K' Z' O' asks' hours' A' F' z' ∧ HV k' hv his := by
  obtain ⟨h6, hj⟩ := hh
  unfold fX6_undo fX7_undo fX0_bringBack
  rcases Nat.eq_zero_or_pos k with hk0 | hk0
  · subst hk0
    rw [if_pos (show nI 0 ≤ 0 by decide), if_pos (show nI 0 ≤ 0 by decide), Option.bind_some, if_pos rfl]
    unfold fX7_undo_J13
    rw [if_neg i0]
    exact Or.inl ⟨rfl, rfl⟩
  · obtain ⟨j, rfl⟩ : ∃ j, k = j + 1 := ⟨k - 1, by omega⟩
    obtain ⟨n', K', a1, a2, a3⟩ := hj j (by omega)
    rw [if_neg (nI_nle hk0 (by omega)), if_neg (nI_nle hk0 (by omega)), nI_pred, nI_clamp (by omega)]
    obtain ⟨Z', O', A', F', e1, g1⟩ := cf_ex Z O A F (hv j).1 (hv j).2.1 (hv j).2.2.1 (hv j).2.2.2.1 (hv j).2.2.2.2.1 (hv j).2.2.2.2.2.1 (hv j).2.2.2.2.2.2.1 (hv j).2.2.2.2.2.2.2
    rw [e1, Option.bind_some, Option.bind_some, if_neg z01, a1, a2]
    unfold fX7_undo_J13
    rw [if_pos le00, nI_pred]
    obtain ⟨m, s, e2, hI⟩ := loop0 (fun k i s => fX7_undo_L37 (nI j) his 0 k i s) (fun i s => ∀ q, q < i → s q = his (268 * j + q)) 268 (s := z) (by decide) (fun q hq => absurd hq (by omega)) (by
      intro m i s hi hI
      refine ⟨upd s i (his (268 * j + i)), ?_, fun q hq => ?_⟩
      · show fX7_undo_L37 (nI j) his 0 (m + 1) (nI i) s = _
        rw [fX7_undo_L37, if_neg (n268 hi), sv_ix, gd_in (show 268 * j + i < 1608 by omega) (by decide), gd_in hi (by decide), lt_e, nI_clamp (by omega), nI_clamp (by omega), nI_1]
      · by_cases e : q = i
        · subst e; exact pk_us
        · rw [pk_un e]; exact hI q (by omega))
    refine Or.inr ⟨n', K', j, (hv j).2.2.1, (hv j).2.2.2.1, Z', O', A', F', s, rfl, ?_, ?_, ⟨by omega, fun i hi => hj i (by omega)⟩⟩
    · refine Eq.trans e2 ?_
      show fX7_undo_L37 (nI j) his 0 (m + 1) (nI 268) s = _
      rw [fX7_undo_L37, if_pos (by decide)]
      rfl
    · exact ST_v (ST_z a3 (fun i hi => hI i hi)) (fun p hp => (g1 p hp).1) (fun p hp => (g1 p hp).2.1) (fun p hp => (g1 p hp).2.2.1) (fun p hp => (g1 p hp).2.2.2)
