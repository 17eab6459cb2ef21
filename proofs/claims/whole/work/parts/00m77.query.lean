/-! what is asked of the maze, class and reference side by side -/
theorem ou_0 (f : Nat → Int64) (x : Int64) : vp_updL f (0 : Int32).toNatClampNeg x 0 = x := pk_uLs
theorem lw_at {n K : Nat} {Z O : Nat → Int64} {asks hours : Int32} {A F : Nat → Int32} {z : Nat → Int32} (h : ST n K Z O asks hours A F z)  (po : Int32) (bad : Nat → Int64) (co : Nat → Int32) (ro : Nat → Int64) (si : Int32) (vi vu vp vs vc : Int32) (vz vo vn va : Nat → Int64) (vq vk vd : Nat → Int32) (hw : po = 0 → VW n K Z O vi vu vp vs vc vz vo vn va vq vk vd) (god : Nat → Int64) (prm : Nat → Int32) (npr : Int32) (cov siz : Nat → Int32) (out : Nat → Int64) (x1 x2 x3 : Int32) : ∃ t b po' bad' co' ro' si' vi' vu' vp' vs' vc' vz' vo' vn' va' vq' vk' vd' out' g p q c s, fL_at po (nI n) (nI K) Z O bad co ro si vi vu vp vs vc vz vo vn va vq vk vd out x1 x2 x3 = some (t, po', bad', co', ro', si', vi', vu', vp', vs', vc', vz', vo', vn', va', vq', vk', vd', out') ∧ fX7_at z god prm npr cov siz x1 x2 x3 = some (b, t, g, p, q, c, s) ∧ (t = 0 → out' 0 = b.toInt64) ∧ (po' = 0 → VW n K Z O vi' vu' vp' vs' vc' vz' vo' vn' va' vq' vk' vd') := by
  unfold fL_at fX6_at fX7_at
  rcases cko x1 with ⟨e1, e2⟩ | ⟨o, ho, rfl, e1, e2⟩
  · rw [e1, e2, tb_l, Option.bind_some, Option.bind_some, if_pos rfl]
    unfold fX7_at_J16 fX7_at_J34
    rw [if_neg i0]
    exact ⟨1, 0, po, bad, co, ro, si, vi, vu, vp, vs, vc, vz, vo, vn, va, vq, vk, vd, out, god, prm, npr, cov, siz, rfl, rfl, fun w => absurd w (by decide), hw⟩
  · rw [e1, e2, tb_r, Option.bind_some, if_neg z01]
    rcases ckr h.1 h.2.1.2.1 x2 with ⟨e3, e4⟩ | ⟨r, hr, rfl, e3, e4⟩
    · rw [e3, e4, tb_l, Option.bind_some, Option.bind_some, if_pos rfl]
      unfold fX7_at_J16 fX7_at_J34
      rw [if_neg i0]
      exact ⟨1, 0, po, bad, co, ro, si, vi, vu, vp, vs, vc, vz, vo, vn, va, vq, vk, vd, out, god, prm, npr, cov, siz, rfl, rfl, fun w => absurd w (by decide), hw⟩
    · rw [e3, e4, tb_r, Option.bind_some, if_neg z01]
      rcases crg (lo := 0) (hi := 2) (by decide) (by decide) (a := 0) (b := 2) rfl rfl x3 with ⟨e5, e6⟩ | ⟨v, v1, v2, rfl, e5, e6⟩
      · rw [e5, e6, tb_l, Option.bind_some, Option.bind_some, if_pos rfl]
        unfold fX7_at_J34
        rw [if_neg i2]
        exact ⟨2, 0, po, bad, co, ro, si, vi, vu, vp, vs, vc, vz, vo, vn, va, vq, vk, vd, out, god, prm, npr, cov, siz, rfl, rfl, fun w => absurd w (by decide), hw⟩
      · have h64 := p64 h.2.1.2.1
        rw [e5, e6, tb_r, Option.bind_some, if_neg z01]
        obtain ⟨bad', co', ro', si', vi', vu', vp', vs', vc', vz', vo', vn', va', vq', vk', vd', e7, hw2⟩ := vw_cls h.2.1 po bad co ro si vi vu vp vs vc vz vo vn va vq vk vd hw
        obtain ⟨g, p, c, s, e8, hc, _, _⟩ := lc_ref h.1 h.2.1 ho god prm cov siz
        unfold fX7_at_J34
        rw [e7, Option.bind_some, rn_cls hw2 ho (show r < 64 by omega) (show v < 3 by omega), Option.bind_some, Option.bind_some, if_pos le00, e8, Option.bind_some, rn_ref h.1 h.2.1 ho hr (show v < 3 by omega) hc, Option.bind_some]
        exact ⟨0, _, 0, bad', co', ro', si', vi', vu', vp', vs', vc', vz', vo', vn', va', vq', vk', vd', _, g, p, _, c, s, rfl, rfl, fun _ => ou_0 _ _, fun _ => hw2⟩
theorem lw_output {n K : Nat} {Z O : Nat → Int64} {asks hours : Int32} {A F : Nat → Int32} {z : Nat → Int32} (h : ST n K Z O asks hours A F z)  (po : Int32) (bad : Nat → Int64) (co : Nat → Int32) (ro : Nat → Int64) (si : Int32) (vi vu vp vs vc : Int32) (vz vo vn va : Nat → Int64) (vq vk vd : Nat → Int32) (hw : po = 0 → VW n K Z O vi vu vp vs vc vz vo vn va vq vk vd) (god : Nat → Int64) (prm : Nat → Int32) (npr : Int32) (cov siz : Nat → Int32) (out : Nat → Int64) (x1 x2 : Int32) : ∃ t b po' bad' co' ro' si' vi' vu' vp' vs' vc' vz' vo' vn' va' vq' vk' vd' out' g p q c s, fL_output po (nI n) (nI K) Z O A F bad co ro si vi vu vp vs vc vz vo vn va vq vk vd out x1 x2 = some (t, po', bad', co', ro', si', vi', vu', vp', vs', vc', vz', vo', vn', va', vq', vk', vd', out') ∧ fX7_output z god prm npr cov siz x1 x2 = some (b, t, g, p, q, c, s) ∧ (t = 0 → out' 0 = b.toInt64) ∧ (po' = 0 → VW n K Z O vi' vu' vp' vs' vc' vz' vo' vn' va' vq' vk' vd') := by
  unfold fL_output fX6_output fX7_output fX7_output_J27
  rcases cko x1 with ⟨e1, e2⟩ | ⟨o, ho, rfl, e1, e2⟩
  · rw [e1, e2, tb_l, Option.bind_some, Option.bind_some, if_pos rfl, if_neg i0]
    exact ⟨1, 0, po, bad, co, ro, si, vi, vu, vp, vs, vc, vz, vo, vn, va, vq, vk, vd, out, god, prm, npr, cov, siz, rfl, rfl, fun w => absurd w (by decide), hw⟩
  · rw [e1, e2, tb_r, Option.bind_some, if_neg z01]
    rcases crg (lo := 0) (hi := 10) (by decide) (by decide) (a := 0) (b := 10) rfl rfl x2 with ⟨e5, e6⟩ | ⟨v, v1, v2, rfl, e5, e6⟩
    · rw [e5, e6, tb_l, Option.bind_some, Option.bind_some, if_pos rfl, if_neg i2]
      exact ⟨2, 0, po, bad, co, ro, si, vi, vu, vp, vs, vc, vz, vo, vn, va, vq, vk, vd, out, god, prm, npr, cov, siz, rfl, rfl, fun w => absurd w (by decide), hw⟩
    · rw [e5, e6, tb_r, Option.bind_some, if_neg z01]
      obtain ⟨bad', co', ro', si', vi', vu', vp', vs', vc', vz', vo', vn', va', vq', vk', vd', e7, hw2⟩ := vw_cls h.2.1 po bad co ro si vi vu vp vs vc vz vo vn va vq vk vd hw
      obtain ⟨g, p, c, s, e8, hc, _, _⟩ := lc_ref h.1 h.2.1 ho god prm cov siz
      obtain ⟨g2, p2, q2, e9⟩ := on_ref h.1 h.2.1 h.2.2.2.2.1 h.2.2.2.2.2 g p (nI (PN n K Z O o)) ho (show v < 11 by omega) hc
      rw [e7, Option.bind_some, on_num h.2.1 hw2 A F ho (show v < 11 by omega), Option.bind_some, Option.bind_some, if_pos le00, e8, Option.bind_some, e9, Option.bind_some]
      exact ⟨0, _, 0, bad', co', ro', si', vi', vu', vp', vs', vc', vz', vo', vn', va', vq', vk', vd', _, g2, p2, q2, c, s, rfl, rfl, fun _ => ou_0 _ _, fun _ => hw2⟩
theorem lw_product {n K : Nat} {Z O : Nat → Int64} {asks hours : Int32} {A F : Nat → Int32} {z : Nat → Int32} (h : ST n K Z O asks hours A F z)  (po : Int32) (bad : Nat → Int64) (co : Nat → Int32) (ro : Nat → Int64) (si : Int32) (vi vu vp vs vc : Int32) (vz vo vn va : Nat → Int64) (vq vk vd : Nat → Int32) (hw : po = 0 → VW n K Z O vi vu vp vs vc vz vo vn va vq vk vd) (god : Nat → Int64) (prm : Nat → Int32) (npr : Int32) (cov siz : Nat → Int32) (out : Nat → Int64) (x1 x2 x3 : Int32) : ∃ t b po' bad' co' ro' si' vi' vu' vp' vs' vc' vz' vo' vn' va' vq' vk' vd' out' g p q c s, fL_product po (nI n) (nI K) Z O bad co ro si vi vu vp vs vc vz vo vn va vq vk vd out x1 x2 x3 = some (t, po', bad', co', ro', si', vi', vu', vp', vs', vc', vz', vo', vn', va', vq', vk', vd', out') ∧ fX7_product z god prm npr cov siz x1 x2 x3 = some (b, t, g, p, q, c, s) ∧ (t = 0 → out' 0 = b.toInt64) ∧ (po' = 0 → VW n K Z O vi' vu' vp' vs' vc' vz' vo' vn' va' vq' vk' vd') := by
  unfold fL_product fX6_product fX7_product
  rcases cko x1 with ⟨e1, e2⟩ | ⟨o, ho, rfl, e1, e2⟩
  · rw [e1, e2, tb_l, Option.bind_some, Option.bind_some, if_pos rfl]
    unfold fX7_product_J36
    rw [if_neg i0]
    exact ⟨1, 0, po, bad, co, ro, si, vi, vu, vp, vs, vc, vz, vo, vn, va, vq, vk, vd, out, god, prm, npr, cov, siz, rfl, rfl, fun w => absurd w (by decide), hw⟩
  · rw [e1, e2, tb_r, Option.bind_some, if_neg z01]
    rcases crg (lo := 0) (hi := 63) (by decide) (by decide) (a := 0) (b := 63) rfl rfl x2 with ⟨e3, e4⟩ | ⟨i, i1, i2', rfl, e3, e4⟩
    · rw [e3, e4, tb_l, Option.bind_some, Option.bind_some, if_pos rfl]
      unfold fX7_product_J35 fX7_product_J36
      rw [if_neg i2]
      exact ⟨2, 0, po, bad, co, ro, si, vi, vu, vp, vs, vc, vz, vo, vn, va, vq, vk, vd, out, god, prm, npr, cov, siz, rfl, rfl, fun w => absurd w (by decide), hw⟩
    · rw [e3, e4, tb_r, Option.bind_some, if_neg z01]
      rcases crg (lo := 0) (hi := 3) (by decide) (by decide) (a := 0) (b := 3) rfl rfl x3 with ⟨e5, e6⟩ | ⟨v, v1, v2, rfl, e5, e6⟩
      · rw [e5, e6, tb_l, Option.bind_some, Option.bind_some, if_pos rfl]
        unfold fX7_product_J35 fX7_product_J36
        rw [if_neg i2]
        exact ⟨2, 0, po, bad, co, ro, si, vi, vu, vp, vs, vc, vz, vo, vn, va, vq, vk, vd, out, god, prm, npr, cov, siz, rfl, rfl, fun w => absurd w (by decide), hw⟩
      · rw [e5, e6, tb_r, Option.bind_some, if_neg z01]
        obtain ⟨bad', co', ro', si', vi', vu', vp', vs', vc', vz', vo', vn', va', vq', vk', vd', e7, hw2⟩ := vw_cls h.2.1 po bad co ro si vi vu vp vs vc vz vo vn va vq vk vd hw
        obtain ⟨g, p, q, c, s, e8, hc⟩ := la_ref h.1 h.2.1 god prm npr cov siz
        unfold fX7_product_J36
        rw [e7, Option.bind_some, pd_cls h.2.1 hw2 ho (show i < 64 by omega) (show v < 4 by omega), Option.bind_some, Option.bind_some, if_pos le00, e8, Option.bind_some, pd_ref h.1 h.2.1 hc ho (show i < 64 by omega) (show v < 4 by omega), Option.bind_some]
        generalize pdV n K Z O o i v = y
        exact ⟨0, y, 0, bad', co', ro', si', vi', vu', vp', vs', vc', vz', vo', vn', va', vq', vk', vd', _, g, p, q, c, s, rfl, rfl, fun _ => ou_0 _ _, fun _ => hw2⟩
theorem lw_count {n K : Nat} {Z O : Nat → Int64} {asks hours : Int32} {A F : Nat → Int32} {z : Nat → Int32} (h : ST n K Z O asks hours A F z)  (hs : Int32) (po : Int32) (bad : Nat → Int64) (co : Nat → Int32) (ro : Nat → Int64) (si : Int32) (vi vu vp vs vc : Int32) (vz vo vn va : Nat → Int64) (vq vk vd : Nat → Int32) (hw : po = 0 → VW n K Z O vi vu vp vs vc vz vo vn va vq vk vd) (god : Nat → Int64) (prm : Nat → Int32) (npr : Int32) (cov siz : Nat → Int32) (out : Nat → Int64) (x1 : Int32) : ∃ t b po' bad' co' ro' si' vi' vu' vp' vs' vc' vz' vo' vn' va' vq' vk' vd' out' g p q c s, fL_count po (nI n) (nI K) asks hours Z O A F hs bad co ro si vi vu vp vs vc vz vo vn va vq vk vd out x1 = some (t, po', bad', co', ro', si', vi', vu', vp', vs', vc', vz', vo', vn', va', vq', vk', vd', out') ∧ fX7_count z hs god prm npr cov siz x1 = some (b, t, g, p, q, c, s) ∧ (t = 0 → out' 0 = b.toInt64) ∧ (po' = 0 → VW n K Z O vi' vu' vp' vs' vc' vz' vo' vn' va' vq' vk' vd') := by
  unfold fL_count fX6_count fX7_count fX7_count_J16
  rcases crg (lo := 0) (hi := 10) (by decide) (by decide) (a := 0) (b := 10) rfl rfl x1 with ⟨e5, e6⟩ | ⟨v, v1, v2, rfl, e5, e6⟩
  · rw [e5, e6, tb_l, Option.bind_some, Option.bind_some, if_pos rfl, if_neg i0]
    exact ⟨1, 0, po, bad, co, ro, si, vi, vu, vp, vs, vc, vz, vo, vn, va, vq, vk, vd, out, god, prm, npr, cov, siz, rfl, rfl, fun w => absurd w (by decide), hw⟩
  · rw [e5, e6, tb_r, Option.bind_some, if_neg z01]
    obtain ⟨bad', co', ro', si', vi', vu', vp', vs', vc', vz', vo', vn', va', vq', vk', vd', e7, hw2⟩ := vw_cls h.2.1 po bad co ro si vi vu vp vs vc vz vo vn va vq vk vd hw
    obtain ⟨g, p, q, c, s, e8, hc⟩ := la_ref h.1 h.2.1 god prm npr cov siz
    rw [e7, Option.bind_some, mz_cls hw2 asks hours A F hs (show v < 11 by omega), Option.bind_some, Option.bind_some, if_pos le00, e8, Option.bind_some, ct_ref h.1 h.2.1 h.2.2.1 h.2.2.2.1 h.2.2.2.2.1 h.2.2.2.2.2 hs (show v < 11 by omega) hc, Option.bind_some]
    exact ⟨0, _, 0, bad', co', ro', si', vi', vu', vp', vs', vc', vz', vo', vn', va', vq', vk', vd', _, g, p, q, c, s, rfl, rfl, fun _ => ou_0 _ _, fun _ => hw2⟩
theorem lw_if {n K : Nat} {Z O : Nat → Int64} {asks hours : Int32} {A F : Nat → Int32} {z : Nat → Int32} (h : ST n K Z O asks hours A F z)  (bad : Nat → Int64) (co : Nat → Int32) (ro : Nat → Int64) (si : Int32) (wi wu wp ws wc : Int32) (wz wo wn wa : Nat → Int64) (wq wk wd : Nat → Int32) (god : Nat → Int64) (prm : Nat → Int32) (npr : Int32) (cov siz : Nat → Int32) (out : Nat → Int64) (x1 x2 : Int32) : ∃ t b bad' co' ro' si' wi' wu' wp' ws' wc' wz' wo' wn' wa' wq' wk' wd' out' g p q c s, fL_ifForgotten (nI n) (nI K) Z O bad co ro si wi wu wp ws wc wz wo wn wa wq wk wd out x1 x2 = some (t, bad', co', ro', si', wi', wu', wp', ws', wc', wz', wo', wn', wa', wq', wk', wd', out') ∧ fX7_ifForgotten z god prm npr cov siz x1 x2 = some (b, z, t, g, p, q, c, s) ∧ (t = 0 → out' 0 = b.toInt64) := by
  unfold fL_ifForgotten fX6_ifForgotten fX7_ifForgotten fX7_ifForgotten_J27
  rcases cki h.1 h.2.1.1 h.2.1.2.1 x1 with ⟨e1, e2⟩ | ⟨i, hi, rfl, e1, e2⟩
  · rw [e1, e2, tb_l, Option.bind_some, Option.bind_some, if_pos rfl, if_neg i0]
    exact ⟨1, 0, bad, co, ro, si, wi, wu, wp, ws, wc, wz, wo, wn, wa, wq, wk, wd, out, god, prm, npr, cov, siz, rfl, rfl, fun w => absurd w (by decide)⟩
  · rw [e1, e2, tb_r, Option.bind_some, if_neg z01]
    rcases crg (lo := 0) (hi := 1) (by decide) (by decide) (a := 0) (b := 1) rfl rfl x2 with ⟨e5, e6⟩ | ⟨v, v1, v2, rfl, e5, e6⟩
    · rw [e5, e6, tb_l, Option.bind_some, Option.bind_some, if_pos rfl, if_neg i2]
      exact ⟨2, 0, bad, co, ro, si, wi, wu, wp, ws, wc, wz, wo, wn, wa, wq, wk, wd, out, god, prm, npr, cov, siz, rfl, rfl, fun w => absurd w (by decide)⟩
    · rw [e5, e6, tb_r, Option.bind_some, if_neg z01]
      obtain ⟨bad', co', ro', si', wi', wu', wp', ws', wc', wz', wo', wn', wa', wq', wk', wd', e7⟩ := ft_cls h.2.1 bad co ro si wi wu wp ws wc wz wo wn wa wq wk wd hi (show v < 2 by omega)
      obtain ⟨g, p, q, c, s, e8⟩ := ft_ref h.1 h.2.1 god prm npr cov siz hi (show v < 2 by omega)
      rw [e7, Option.bind_some, Option.bind_some, if_pos le00, e8, Option.bind_some]
      exact ⟨0, _, bad', co', ro', si', wi', wu', wp', ws', wc', wz', wo', wn', wa', wq', wk', wd', _, g, p, q, c, s, rfl, rfl, fun _ => ou_0 _ _⟩
theorem lw_needs {n K : Nat} {Z O : Nat → Int64} {asks hours : Int32} {A F : Nat → Int32} {z : Nat → Int32} (h : ST n K Z O asks hours A F z)  (out : Nat → Int64) (x1 : Int32) : ∃ t b out', fL_needs (nI n) Z O out x1 = some (t, out') ∧ fX7_needs z x1 = some (b, t) ∧ (t = 0 → out' 0 = b.toInt64) := by
  unfold fL_needs fX6_needs fX7_needs fX7_needs_J13
  rcases cko x1 with ⟨e1, e2⟩ | ⟨o, ho, rfl, e1, e2⟩
  · rw [e1, e2, tb_l, Option.bind_some, Option.bind_some, if_pos rfl, if_neg i0]
    exact ⟨1, 0, out, rfl, rfl, fun w => absurd w (by decide)⟩
  · rw [e1, e2, tb_r, Option.bind_some, if_neg z01, ne_cls h.2.1 ho, Option.bind_some, Option.bind_some, if_pos le00, ne_ref h.1 h.2.1 ho, Option.bind_some]
    exact ⟨0, _, _, rfl, rfl, fun _ => ou_0 _ _⟩
theorem lw_alike {n K : Nat} {Z O : Nat → Int64} {asks hours : Int32} {A F : Nat → Int32} {z : Nat → Int32} (h : ST n K Z O asks hours A F z)  (po : Int32) (bad : Nat → Int64) (co : Nat → Int32) (ro : Nat → Int64) (si : Int32) (vi vu vp vs vc : Int32) (vz vo vn va : Nat → Int64) (vq vk vd : Nat → Int32) (hw : po = 0 → VW n K Z O vi vu vp vs vc vz vo vn va vq vk vd) (god : Nat → Int64) (prm : Nat → Int32) (npr : Int32) (cov siz : Nat → Int32) (out : Nat → Int64) (x1 x2 : Int32) : ∃ t b po' bad' co' ro' si' vi' vu' vp' vs' vc' vz' vo' vn' va' vq' vk' vd' out' g p q c s, fL_alike po (nI n) (nI K) Z O bad co ro si vi vu vp vs vc vz vo vn va vq vk vd out x1 x2 = some (t, po', bad', co', ro', si', vi', vu', vp', vs', vc', vz', vo', vn', va', vq', vk', vd', out') ∧ fX7_alike z god prm npr cov siz x1 x2 = some (b, t, g, p, q, c, s) ∧ (t = 0 → out' 0 = b.toInt64) ∧ (po' = 0 → VW n K Z O vi' vu' vp' vs' vc' vz' vo' vn' va' vq' vk' vd') := by
  unfold fL_alike fX6_alike fX7_alike
  rcases cko x1 with ⟨e1, e2⟩ | ⟨o, ho, rfl, e1, e2⟩
  · rw [e1, e2, tb_l, Option.bind_some, Option.bind_some, if_pos rfl]
    unfold fX7_alike_J19 fX7_alike_J20
    rw [if_neg i0]
    exact ⟨1, 0, po, bad, co, ro, si, vi, vu, vp, vs, vc, vz, vo, vn, va, vq, vk, vd, out, god, prm, npr, cov, siz, rfl, rfl, fun w => absurd w (by decide), hw⟩
  · rw [e1, e2, tb_r, Option.bind_some, if_neg z01]
    rcases cko x2 with ⟨e3, e4⟩ | ⟨p2, hp2, rfl, e3, e4⟩
    · rw [e3, e4, tb_l, Option.bind_some, Option.bind_some, if_pos rfl]
      unfold fX7_alike_J19 fX7_alike_J20
      rw [if_neg i0]
      exact ⟨1, 0, po, bad, co, ro, si, vi, vu, vp, vs, vc, vz, vo, vn, va, vq, vk, vd, out, god, prm, npr, cov, siz, rfl, rfl, fun w => absurd w (by decide), hw⟩
    · rw [e3, e4, tb_r, Option.bind_some, if_neg z01]
      obtain ⟨bad', co', ro', si', vi', vu', vp', vs', vc', vz', vo', vn', va', vq', vk', vd', e7, hw2⟩ := vw_cls h.2.1 po bad co ro si vi vu vp vs vc vz vo vn va vq vk vd hw
      obtain ⟨g, p, q, c, s, e8, hc⟩ := la_ref h.1 h.2.1 god prm npr cov siz
      unfold fX7_alike_J20
      rw [e7, Option.bind_some, ak_cls h.2.1 hw2 ho hp2, Option.bind_some, Option.bind_some, if_pos le00, e8, Option.bind_some, ak_ref h.1 h.2.1 hc ho hp2, Option.bind_some]
      exact ⟨0, _, 0, bad', co', ro', si', vi', vu', vp', vs', vc', vz', vo', vn', va', vq', vk', vd', _, g, p, q, c, s, rfl, rfl, fun _ => ou_0 _ _, fun _ => hw2⟩
theorem lw_nearest {n K : Nat} {Z O : Nat → Int64} {asks hours : Int32} {A F : Nat → Int32} {z : Nat → Int32} (h : ST n K Z O asks hours A F z)  (po : Int32) (bad : Nat → Int64) (co : Nat → Int32) (ro : Nat → Int64) (si : Int32) (vi vu vp vs vc : Int32) (vz vo vn va : Nat → Int64) (vq vk vd : Nat → Int32) (hw : po = 0 → VW n K Z O vi vu vp vs vc vz vo vn va vq vk vd) (out : Nat → Int64) (x1 x2 : Int32) : ∃ t b po' bad' co' ro' si' vi' vu' vp' vs' vc' vz' vo' vn' va' vq' vk' vd' out', fL_nearest po (nI n) (nI K) Z O bad co ro si vi vu vp vs vc vz vo vn va vq vk vd out x1 x2 = some (t, po', bad', co', ro', si', vi', vu', vp', vs', vc', vz', vo', vn', va', vq', vk', vd', out') ∧ fX7_nearest z x1 x2 = some (b, t) ∧ (t = 0 → out' 0 = b.toInt64) ∧ (po' = 0 → VW n K Z O vi' vu' vp' vs' vc' vz' vo' vn' va' vq' vk' vd') := by
  unfold fL_nearest fX6_nearest fX7_nearest
  rcases cko x1 with ⟨e1, e2⟩ | ⟨o, ho, rfl, e1, e2⟩
  · rw [e1, e2, tb_l, Option.bind_some, Option.bind_some, if_pos rfl]
    unfold fX7_nearest_J20 fX7_nearest_J21
    rw [if_neg i0]
    exact ⟨1, 0, po, bad, co, ro, si, vi, vu, vp, vs, vc, vz, vo, vn, va, vq, vk, vd, out, rfl, rfl, fun w => absurd w (by decide), hw⟩
  · rw [e1, e2, tb_r, Option.bind_some, if_neg z01]
    rcases ckr h.1 h.2.1.2.1 x2 with ⟨e3, e4⟩ | ⟨r, hr, rfl, e3, e4⟩
    · rw [e3, e4, tb_l, Option.bind_some, Option.bind_some, if_pos rfl]
      unfold fX7_nearest_J20 fX7_nearest_J21
      rw [if_neg i0]
      exact ⟨1, 0, po, bad, co, ro, si, vi, vu, vp, vs, vc, vz, vo, vn, va, vq, vk, vd, out, rfl, rfl, fun w => absurd w (by decide), hw⟩
    · have h64 := p64 h.2.1.2.1
      rw [e3, e4, tb_r, Option.bind_some, if_neg z01]
      obtain ⟨bad', co', ro', si', vi', vu', vp', vs', vc', vz', vo', vn', va', vq', vk', vd', e7, hw2⟩ := vw_cls h.2.1 po bad co ro si vi vu vp vs vc vz vo vn va vq vk vd hw
      unfold fX7_nearest_J21
      rw [e7, Option.bind_some, nr_cls _ ho (show r < 64 by omega) (hw2.2.2.2.2.2.2 o ho).2.2.1, Option.bind_some, Option.bind_some, if_pos le00, nr_ref h.1 h.2.1 ho hr, Option.bind_some]
      exact ⟨0, _, 0, bad', co', ro', si', vi', vu', vp', vs', vc', vz', vo', vn', va', vq', vk', vd', _, rfl, rfl, fun _ => ou_0 _ _, fun _ => hw2⟩
theorem lw_share {n K : Nat} {Z O : Nat → Int64} {asks hours : Int32} {A F : Nat → Int32} {z : Nat → Int32} (h : ST n K Z O asks hours A F z)  (po : Int32) (bad : Nat → Int64) (co : Nat → Int32) (ro : Nat → Int64) (si : Int32) (vi vu vp vs vc : Int32) (vz vo vn va : Nat → Int64) (vq vk vd : Nat → Int32) (hw : po = 0 → VW n K Z O vi vu vp vs vc vz vo vn va vq vk vd) : ∃ d bad' co' ro' si' vi' vu' vp' vs' vc' vz' vo' vn' va' vq' vk' vd', fX6_decidedShare po (nI n) (nI K) Z O bad co ro si vi vu vp vs vc vz vo vn va vq vk vd = some (d, 0, bad', co', ro', si', vi', vu', vp', vs', vc', vz', vo', vn', va', vq', vk', vd') ∧ fX7_decidedShare z = some (d, 0) ∧ Op.cmpValue (FP.dcmp d d) .l = 0 ∧ VW n K Z O vi' vu' vp' vs' vc' vz' vo' vn' va' vq' vk' vd' := by
  obtain ⟨bad', co', ro', si', vi', vu', vp', vs', vc', vz', vo', vn', va', vq', vk', vd', e7, hw2⟩ := vw_cls h.2.1 po bad co ro si vi vu vp vs vc vz vo vn va vq vk vd hw
  refine ⟨shV n K Z O, bad', co', ro', si', vi', vu', vp', vs', vc', vz', vo', vn', va', vq', vk', vd', ?_, ?_, ?_, hw2⟩
  · unfold fX6_decidedShare
    rw [e7, Option.bind_some, sh_cls Z O (fun o ho => (hw2.2.2.2.2.2.2 o ho).2.2.1), Option.bind_some]
  · unfold fX7_decidedShare
    rw [sh_ref h.1 h.2.1, Option.bind_some]
  · rw [(shV_good n K Z O).2.2.1]
    rfl
theorem dgV_c (n K : Nat) (Z O : Nat → Int64) (asks hours : Int32) (A F : Nat → Int32) (hs : Int32) {c txt : Nat → Int32} {L : Nat} (ht : ∀ i, i < L → c i = txt i) : dgV n K Z O asks hours A F hs c L = dgV n K Z O asks hours A F hs txt L := by
  unfold dgV dgZ
  exact mxF_congr (fun i hi => by unfold dgT; rw [ht i hi]) _
theorem lw_digest {n K : Nat} {Z O : Nat → Int64} {asks hours : Int32} {A F : Nat → Int32} {z : Nat → Int32} (h : ST n K Z O asks hours A F z)  (hs : Int32) {c txt : Nat → Int32} {L : Nat} (hL : L ≤ 60) (ht : ∀ i, i < L → c i = txt i) (po : Int32) (bad : Nat → Int64) (co : Nat → Int32) (ro : Nat → Int64) (si : Int32) (vi vu vp vs vc : Int32) (vz vo vn va : Nat → Int64) (vq vk vd : Nat → Int32) (hw : po = 0 → VW n K Z O vi vu vp vs vc vz vo vn va vq vk vd) (wi wu wp ws wc : Int32) (wz wo wn wa : Nat → Int64) (wq wk wd : Nat → Int32) (god : Nat → Int64) (prm : Nat → Int32) (npr : Int32) (cov siz : Nat → Int32) : ∃ d bad' co' ro' si' vi' vu' vp' vs' vc' vz' vo' vn' va' vq' vk' vd' wi' wu' wp' ws' wc' wz' wo' wn' wa' wq' wk' wd' g p q cv s, fX6_digest po (nI n) (nI K) asks hours Z O A F hs c (nI L) bad co ro si vi vu vp vs vc vz vo vn va vq vk vd wi wu wp ws wc wz wo wn wa wq wk wd = some (d, 0, bad', co', ro', si', vi', vu', vp', vs', vc', vz', vo', vn', va', vq', vk', vd', wi', wu', wp', ws', wc', wz', wo', wn', wa', wq', wk', wd') ∧ fX7_digest z hs (nI L) txt god prm npr cov siz = some (d, z, 0, g, p, q, cv, s, d) ∧ VW n K Z O vi' vu' vp' vs' vc' vz' vo' vn' va' vq' vk' vd' := by
  obtain ⟨bad'', co'', ro'', si'', vi', vu', vp', vs', vc', vz', vo', vn', va', vq', vk', vd', e7, hw2⟩ := vw_cls h.2.1 po bad co ro si vi vu vp vs vc vz vo vn va vq vk vd hw
  obtain ⟨bad', co', ro', si', wi', wu', wp', ws', wc', wz', wo', wn', wa', wq', wk', wd', e8⟩ := dg_cls h.2.1 0 asks hours A F hs c hL hw2 bad'' co'' ro'' si'' wi wu wp ws wc wz wo wn wa wq wk wd
  obtain ⟨g, p, q, cv, s, e9⟩ := dg_ref h.1 h.2.1 h.2.2.1 h.2.2.2.1 h.2.2.2.2.1 h.2.2.2.2.2 hs txt hL god prm npr cov siz
  refine ⟨dgV n K Z O asks hours A F hs txt L, bad', co', ro', si', vi', vu', vp', vs', vc', vz', vo', vn', va', vq', vk', vd', wi', wu', wp', ws', wc', wz', wo', wn', wa', wq', wk', wd', g, p, q, cv, s, ?_, e9, hw2⟩
  unfold fX6_digest
  rw [e7, Option.bind_some, ← dgV_c n K Z O asks hours A F hs ht]
  exact e8
