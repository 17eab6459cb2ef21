/-! the law's acts: pass, forget, remember, ask -/
def uI (n K : Nat) (Z O : Nat → Int64) (i : Nat) : Nat := up (fg n (ms K (2 ^ i))) Z O
def BLS (n K : Nat) (Z O : Nat → Int64) (S : Nat → Prop) (b : Nat) : Prop := S b ∧ K.testBit b = true ∧ ∀ s, S s → K.testBit s = true → uI n K Z O b ≤ uI n K Z O s ∧ (uI n K Z O s = uI n K Z O b → b ≤ s)
theorem lm_best (n K : Nat) (Z O : Nat → Int64) : ∀ i, ((lmF n K Z O i).1 = 0 ∧ ∀ s, s < i → K.testBit s = false) ∨ ∃ b, lmF n K Z O i = (b + 1, uI n K Z O b) ∧ BLS n K Z O (fun s => s < i) b := by
  intro i
  induction i with
  | zero => exact Or.inl ⟨rfl, fun s hs => absurd hs (Nat.not_lt_zero s)⟩
  | succ i ih =>
    show ((if K.testBit i = true then lmS n K Z O (lmF n K Z O i) i else lmF n K Z O i).1 = 0 ∧ _) ∨ ∃ b, (if K.testBit i = true then lmS n K Z O (lmF n K Z O i) i else lmF n K Z O i) = _ ∧ _
    by_cases q : K.testBit i = true
    · rw [if_pos q]
      unfold lmS
      rcases ih with ⟨h1, h2⟩ | ⟨b, h1, h2, h3, h4⟩
      · rw [if_pos h1]
        refine Or.inr ⟨i, rfl, Nat.lt_succ_self i, q, fun s hs hb => ?_⟩
        by_cases e : s = i
        · subst e; exact ⟨Nat.le_refl _, fun _ => Nat.le_refl _⟩
        · rw [h2 s (by have : s < i + 1 := hs; omega)] at hb; cases hb
      · have h2 : b < i := h2
        rw [h1, if_neg (show ¬ b + 1 = 0 by omega)]
        show ((if uI n K Z O i < uI n K Z O b then (i + 1, uI n K Z O i) else (b + 1, uI n K Z O b)).1 = 0 ∧ _) ∨ ∃ b', (if uI n K Z O i < uI n K Z O b then (i + 1, uI n K Z O i) else (b + 1, uI n K Z O b)) = _ ∧ _
        by_cases q2 : uI n K Z O i < uI n K Z O b
        · rw [if_pos q2]
          refine Or.inr ⟨i, rfl, Nat.lt_succ_self i, q, fun s hs hb => ?_⟩
          by_cases e : s = i
          · subst e; exact ⟨Nat.le_refl _, fun _ => Nat.le_refl _⟩
          · have := (h4 s (by have : s < i + 1 := hs; show s < i; omega) hb).1
            exact ⟨by omega, fun z => by omega⟩
        · rw [if_neg q2]
          refine Or.inr ⟨b, rfl, Nat.lt_succ_of_lt h2, h3, fun s hs hb => ?_⟩
          by_cases e : s = i
          · subst e; exact ⟨by omega, fun _ => by omega⟩
          · exact h4 s (by have : s < i + 1 := hs; show s < i; omega) hb
    · rw [if_neg q]
      rcases ih with ⟨h1, h2⟩ | ⟨b, h1, h2, h3, h4⟩
      · refine Or.inl ⟨h1, fun s hs => ?_⟩
        by_cases e : s = i
        · subst e
          cases q3 : K.testBit s
          · rfl
          · exact absurd q3 q
        · exact h2 s (by omega)
      · have h2 : b < i := h2
        refine Or.inr ⟨b, h1, Nat.lt_succ_of_lt h2, h3, fun s hs hb => ?_⟩
        by_cases e : s = i
        · subst e; exact absurd hb q
        · exact h4 s (by have : s < i + 1 := hs; show s < i; omega) hb
/-- downwards: the inputs from i up are looked at -/
def ldF (n K : Nat) (Z O : Nat → Int64) : Nat → Nat × Nat
  | 0 => (0, 0)
  | t + 1 => if K.testBit (n - 1 - t) = true then (if (ldF n K Z O t).1 = 0 then (n - 1 - t + 1, uI n K Z O (n - 1 - t)) else if (ldF n K Z O t).2 < uI n K Z O (n - 1 - t) then ldF n K Z O t else (n - 1 - t + 1, uI n K Z O (n - 1 - t))) else ldF n K Z O t
theorem ld_best (n K : Nat) (Z O : Nat → Int64) : ∀ t, t ≤ n → ((ldF n K Z O t) = (0, 0) ∧ ∀ s, n - t ≤ s → s < n → K.testBit s = false) ∨ ∃ b, ldF n K Z O t = (b + 1, uI n K Z O b) ∧ BLS n K Z O (fun s => n - t ≤ s ∧ s < n) b := by
  intro t
  induction t with
  | zero => intro _; exact Or.inl ⟨rfl, fun s h1 h2 => by omega⟩
  | succ t ih =>
    intro ht
    have ih := ih (by omega)
    have hdef : ldF n K Z O (t + 1) = if K.testBit (n - 1 - t) = true then (if (ldF n K Z O t).1 = 0 then (n - 1 - t + 1, uI n K Z O (n - 1 - t)) else if (ldF n K Z O t).2 < uI n K Z O (n - 1 - t) then ldF n K Z O t else (n - 1 - t + 1, uI n K Z O (n - 1 - t))) else ldF n K Z O t := rfl
    rw [hdef]
    obtain ⟨i, hi⟩ : ∃ i, i = n - 1 - t := ⟨_, rfl⟩
    rw [← hi]
    by_cases q : K.testBit i = true
    · rw [if_pos q]
      rcases ih with ⟨h1, h2⟩ | ⟨b, h1, h2, h3, h4⟩
      · rw [h1, if_pos rfl]
        refine Or.inr ⟨i, rfl, ⟨by omega, by omega⟩, q, fun s hs hb => ?_⟩
        obtain ⟨s1, s2⟩ := hs
        by_cases e : s = i
        · subst e; exact ⟨Nat.le_refl _, fun _ => Nat.le_refl _⟩
        · rw [h2 s (by omega) s2] at hb; cases hb
      · obtain ⟨b1, b2⟩ := h2
        rw [h1, if_neg (show ¬ b + 1 = 0 by omega)]
        show ((if uI n K Z O b < uI n K Z O i then (b + 1, uI n K Z O b) else (i + 1, uI n K Z O i)) = _ ∧ _) ∨ ∃ b', (if uI n K Z O b < uI n K Z O i then (b + 1, uI n K Z O b) else (i + 1, uI n K Z O i)) = _ ∧ _
        by_cases q2 : uI n K Z O b < uI n K Z O i
        · rw [if_pos q2]
          refine Or.inr ⟨b, rfl, ⟨by omega, b2⟩, h3, fun s hs hb => ?_⟩
          obtain ⟨s1, s2⟩ := hs
          by_cases e : s = i
          · subst e; exact ⟨by omega, fun z => by omega⟩
          · exact h4 s ⟨by omega, s2⟩ hb
        · rw [if_neg q2]
          refine Or.inr ⟨i, rfl, ⟨by omega, by omega⟩, q, fun s hs hb => ?_⟩
          obtain ⟨s1, s2⟩ := hs
          by_cases e : s = i
          · subst e; exact ⟨Nat.le_refl _, fun _ => Nat.le_refl _⟩
          · obtain ⟨u1, u2⟩ := h4 s ⟨by omega, s2⟩ hb
            exact ⟨by omega, fun z => by omega⟩
    · rw [if_neg q]
      rcases ih with ⟨h1, h2⟩ | ⟨b, h1, h2, h3, h4⟩
      · refine Or.inl ⟨h1, fun s s1 s2 => ?_⟩
        by_cases e : s = i
        · subst e
          cases q3 : K.testBit s
          · rfl
          · exact absurd q3 q
        · exact h2 s (by omega) s2
      · obtain ⟨b1, b2⟩ := h2
        refine Or.inr ⟨b, h1, ⟨by omega, b2⟩, h3, fun s hs hb => ?_⟩
        obtain ⟨s1, s2⟩ := hs
        by_cases e : s = i
        · subst e; exact absurd hb q
        · exact h4 s ⟨by omega, s2⟩ hb
theorem ld_eq {n K : Nat} (hK : K < 2 ^ n) (h0 : K ≠ 0) (Z O : Nat → Int64) : (ldF n K Z O n).1 = lmV n K Z O + 1 ∧ lmV n K Z O < n ∧ K.testBit (lmV n K Z O) = true := by
  obtain ⟨p1, p2, p3⟩ := lm_pos hK h0 Z O
  refine ⟨?_, p2, p3⟩
  rcases lm_best n K Z O n with ⟨a1, a2⟩ | ⟨a, a1, a2, a3, a4⟩
  · rw [a1] at p1; omega
  · rw [a1] at p1
    have p1 : a + 1 = lmV n K Z O + 1 := p1
    have ea : a = lmV n K Z O := by omega
    rcases ld_best n K Z O n (Nat.le_refl n) with ⟨b1, b2⟩ | ⟨b, b1, b2, b3, b4⟩
    · rw [b2 _ (by omega) p2] at p3; cases p3
    · rw [b1]
      have a2 : a < n := a2
      obtain ⟨b5, b6⟩ := b2
      obtain ⟨u1, u2⟩ := a4 b b6 b3
      obtain ⟨v1, v2⟩ := b4 a ⟨by omega, a2⟩ a3
      have e : uI n K Z O a = uI n K Z O b := by omega
      have := u2 e.symm
      have := v2 e
      show b + 1 = lmV n K Z O + 1
      omega
section AFO
variable {n K k : Nat} {Z O : Nat → Int64} {asks hours : Int32} {A F : Nat → Int32} {hv : Nat → SV} {nn tr al fa : Nat → Int32}
theorem ld_loop (hn : n ≤ 4) {nn : Nat → Int32} (h0 : nn 0 = nI n) (h1 : nn 1 = nI K) (hk : OKs n K Z O) (ht : TR n Z O tr) (x6 x7 : Int32) (a b c d : Int32) (e f : Nat → Int64) (g h : Nat → Int32) (hs : Int32) (hv : Nat → SV) (kk : Int32 → (Nat → Int32) → Option (Int32 × Int32 × Int32 × Int32 × Int32 × (Nat → Int32) × (Nat → SV))) : ∀ r, r ≤ n → ∀ fuel, r < fuel → fL_forgets_L72 x6 x7 a b c d e f g h hs nn tr hv kk fuel (vr (ldF n K Z O (n - r)).1) (nI (ldF n K Z O (n - r)).2) (vr r) = fL_forgets_J133 x6 x7 (vr (ldF n K Z O n).1) a b c d e f g h hs nn tr hv kk := by
  have h16 := p16 hn
  have hK := hk.2.2.1
  intro r
  induction r with
  | zero =>
    intro _ fuel hf
    obtain ⟨f', rfl⟩ : ∃ f, fuel = f + 1 := ⟨fuel - 1, by omega⟩
    rw [fL_forgets_L72, if_pos (by decide : vr 0 < 0), Nat.sub_zero]
  | succ r ih =>
    intro hr fuel hf
    obtain ⟨f', rfl⟩ : ∃ f, fuel = f + 1 := ⟨fuel - 1, by omega⟩
    have ih := ih (by omega) f' (by omega)
    obtain ⟨t, et⟩ : ∃ t, t = n - (r + 1) := ⟨_, rfl⟩
    rw [← et]
    rw [show n - r = t + 1 by omega] at ih
    refine Eq.trans ?_ ih
    have hdef : ldF n K Z O (t + 1) = if K.testBit r = true then (if (ldF n K Z O t).1 = 0 then (r + 1, uI n K Z O r) else if (ldF n K Z O t).2 < uI n K Z O r then ldF n K Z O t else (r + 1, uI n K Z O r)) else ldF n K Z O t := by
      have : n - 1 - t = r := by omega
      rw [← this]; rfl
    rw [hdef]
    have hb := ld_best n K Z O t (by omega)
    have hule : ∀ i, uI n K Z O i ≤ 256 := fun i => up_le _ Z O
    rw [vr_s, fL_forgets_L72, if_neg (nI_pos (by omega))]
    unfold fL_forgets_J119 fL_forgets_J127
    rw [vr_dec, g15, c1_, h1]
    cases q : K.testBit r
    · rw [if_neg (fun z => by rw [(kb_4 K (by omega) r (by omega)).mp z] at q; cases q), if_neg (by decide)]
    · rw [if_pos ((kb_4 K (by omega) r (by omega)).mpr q), if_pos rfl, g15, al_sh r (by omega), kb_1 K (by omega) r (by omega), lg_und hn h0 hk ht (ms_p2 (by omega) hK _), Option.bind_some]
      rcases hb with ⟨b1, b2⟩ | ⟨b9, b1, b2⟩
      · rw [b1, if_pos (by decide : vr 0 < 0), if_pos rfl]
        rfl
      · rw [b1]
        have hb4 : b9 < n := b2.1.2
        rw [if_neg (show ¬ vr (b9 + 1) < 0 from nI_pos (by omega)), if_neg (show ¬ b9 + 1 = 0 by omega)]
        show (if nI (uI n K Z O b9) < nI (uI n K Z O r) then _ else _) = fL_forgets_L72 x6 x7 a b c d e f g h hs nn tr hv kk f' (vr (if uI n K Z O b9 < uI n K Z O r then (b9 + 1, uI n K Z O b9) else (r + 1, uI n K Z O r)).1) (nI (if uI n K Z O b9 < uI n K Z O r then (b9 + 1, uI n K Z O b9) else (r + 1, uI n K Z O r)).2) (vr r)
        have u1 := hule b9
        have u2 := hule r
        by_cases q2 : uI n K Z O b9 < uI n K Z O r
        · rw [if_pos ((nI_ltI (by omega) (by omega)).mpr q2), if_pos q2]
        · rw [if_neg (fun z => q2 ((nI_ltI (by omega) (by omega)).mp z)), if_neg q2]
          rfl
theorem ps_loop (hn : n ≤ 4) (ht : TR n Z O tr) {v : Nat} (hv6 : v ≤ 6) (a b c d : Int32) (g h : Nat → Int32) (hs : Int32) (hv : Nat → SV) : ∀ dd i, i + dd = v → ∀ fuel, dd < fuel → ∀ (K : Nat) (hours : Int32) (nn : Nat → Int32) (k : Nat) (asks : Int32), OKs n K Z O → NV n K asks hours k nn → ∃ nn', fL_forgets_L46 (nI v) a b c d Z O g h hs tr hv fuel (nI i) nn = fL_forgets_J158 (nI v) a b c d Z O g h hs nn' hv ∧ NV n (psK n Z O dd K) asks (psH n Z O dd K hours) k nn' := by
  have h16 := p16 hn
  intro dd
  induction dd with
  | zero =>
    intro i hi fuel hf K hours nn k asks hk hnv
    obtain ⟨f, rfl⟩ : ∃ f, fuel = f + 1 := ⟨fuel - 1, by omega⟩
    refine ⟨nn, ?_, hnv⟩
    rw [fL_forgets_L46, if_pos (nI_le (by omega) (by omega))]
  | succ dd ih =>
    intro i hi fuel hf K hours nn k asks hk hnv
    obtain ⟨f, rfl⟩ : ∃ f, fuel = f + 1 := ⟨fuel - 1, by omega⟩
    have hK := hk.2.2.1
    rw [fL_forgets_L46, if_neg (nI_ge (show i < v by omega) (by omega)), g15, c1_, hnv.2.1]
    by_cases h0 : K = 0
    · rw [if_pos (by rw [h0]; rfl)]
      refine ⟨nn, rfl, ?_⟩
      rw [psK_0 Z O h0, psH_0 Z O h0]
      exact hnv
    · obtain ⟨p1, p2, p3⟩ := ld_eq hK h0 Z O
      have hms := ms_p2 (n := n) (by omega) hK (2 ^ lmV n K Z O)
      have hn1 : 1 ≤ n := hk.1
      have hin := ld_loop (x6 := nI v) (x7 := nI i) hn hnv.1 hnv.2.1 hk ht a b c d Z O g h hs hv (fL_forgets_L46 (nI v) a b c d Z O g h hs tr hv f) n (Nat.le_refl n) 5000 (by omega)
      rw [Nat.sub_self] at hin
      have hvr : nI n - 1 = vr n := by
        obtain ⟨n', rfl⟩ : ∃ n', n = n' + 1 := ⟨n - 1, by omega⟩
        exact nI_pred n'
      rw [if_neg (nI_ne0 (Nat.pos_of_ne_zero h0) (by omega)), g05, c0_, hnv.1, hvr]
      obtain ⟨nn', e2, e3⟩ := ih (i + 1) (by omega) f (by omega) (ms K (2 ^ lmV n K Z O)) (hours + 1) (upd (upd nn 1 (nI (ms K (2 ^ lmV n K Z O)))) 3 (hours + 1)) k asks (OKs_k hk hms) ⟨(pk_un (by decide)).trans ((pk_un (by decide)).trans hnv.1), (pk_un (by decide)).trans pk_us, (pk_un (by decide)).trans ((pk_un (by decide)).trans hnv.2.2.1), pk_us, (pk_un (by decide)).trans ((pk_un (by decide)).trans hnv.2.2.2.2)⟩
      refine ⟨nn', ?_, ?_⟩
      · refine Eq.trans hin ?_
        unfold fL_forgets_J133
        rw [p1, vr_s, g15, g15, lt_e, g35, g35, lt_e, c1_, c3_, hnv.2.1, al_sh _ (by omega), kb_1 K (by omega) _ (by omega), pk_un (show (3 : Nat) ≠ 1 by decide), hnv.2.2.2.1, nI_1]
        exact e2
      · rw [psK_s Z O h0, psH_s Z O h0]
        exact e3
theorem kx_1 : ∀ K, K < 16 → ∀ i, i < 4 → K.testBit i = true → K ^^^ 2 ^ i = ms K (2 ^ i) := by decide +kernel
theorem kx_2 : ∀ K, K < 16 → ∀ i, i < 4 → K.testBit i = false → K ^^^ 2 ^ i = K ||| 2 ^ i := by decide +kernel
theorem NV_k {K' : Nat} (h : NV n K asks hours k nn) : NV n K' asks hours k (upd nn 1 (nI K')) := ⟨(pk_un (by decide)).trans h.1, pk_us, (pk_un (by decide)).trans h.2.2.1, (pk_un (by decide)).trans h.2.2.2.1, (pk_un (by decide)).trans h.2.2.2.2⟩
theorem a_forgets (h : LW n K Z O asks hours A F k nn tr al fa) (x y : Int32) : ∃ K' hours' hv' nn', fL_forgets (nI n) (nI K) asks hours Z O A F (nI k) nn tr hv x y = some (1, 1, nI K', hours', nI (kn k), nn', hv') ∧ LW n K' Z O asks hours' A F (kn k) nn' tr al fa := by
  obtain ⟨hn, hk, h6, hnv, ht, haf⟩ := id h
  have h16 := p16 hn
  have hn1 : 1 ≤ n := hk.1
  have hK := hk.2.2.1
  have hnv' := NV_4 h6 hnv
  obtain ⟨i, hi, ei⟩ := lg_at y (y := n) (by omega) (by omega)
  have key : ∃ K' hours' hv' nn', fL_forgets_J24 x y (nI i) (nI n) (nI K) asks hours Z O A F (nI k) (nn4 nn k) tr hv = some (1, 1, nI K', hours', nI (kn k), nn', hv') ∧ LW n K' Z O asks hours' A F (kn k) nn' tr al fa := by
    unfold fL_forgets_J24
    obtain ⟨w, hw, ew⟩ := lg_at x (y := 4) (by decide) (by decide)
    have ew : fL_at x 4 = some (nI w) := ew
    rw [ew, Option.bind_some]
    by_cases q : w = 0
    · rw [if_pos (by rw [q]; rfl)]
      obtain ⟨v, hv2, ev⟩ := lg_at (y >>> ((3 : Int32) &&& 31)) (y := 2) (by decide) (by decide)
      have ev : fL_at (y >>> ((3 : Int32) &&& 31)) 2 = some (nI v) := ev
      rw [ev, Option.bind_some, show (1 : Int32) + nI v = nI (1 + v) from nI_add 1 v]
      obtain ⟨nn', e1, e2⟩ := ps_loop hn ht (v := 1 + v) (by omega) (nI n) (nI K) asks hours A F (nI k) hv (1 + v) 0 (Nat.zero_add _) 5000 (by omega) K hours (nn4 nn k) (kn k) asks hk hnv'
      obtain ⟨hv', e3⟩ := cs_pass (asks := asks) (hours := hours) (A := A) (F := F) (hv := hv) hn hk h6 (v := 1 + v) (by omega) (by omega)
      have hps := ps_lt Z O (1 + v) K (show n ≤ 6 by omega) hK
      refine ⟨psK n Z O (1 + v) K, psH n Z O (1 + v) K hours, hv', nn', ?_, hn, OKs_k hk hps, kn_le k, e2, ht, haf⟩
      refine Eq.trans e1 ?_
      unfold fL_forgets_J158
      rw [e3, sg_r, g15, c1_, e2.2.1, lg_ones (by omega), Option.bind_some, ocb_ocN _ (by omega), if_pos rfl]
    · rw [if_neg (nI_ne0 (Nat.pos_of_ne_zero q) (by omega)), g15, c1_, hnv'.2.1]
      unfold fL_forgets_J196 fL_forgets_J228
      simp only [g15, lt_e, c1_, hnv'.2.1, al_sh i (show i < 31 by omega), nI_xr, pk_us]
      cases q2 : K.testBit i
      · obtain ⟨hv', e3⟩ := cs_remember (asks := asks) (hours := hours) (A := A) (F := F) (hv := hv) hn hk h6 hi q2
        have hx := kx_2 K (by omega) i (by omega) q2
        have hms := kb_5 n (by omega) K hK i hi
        refine ⟨K ||| 2 ^ i, hours, hv', upd (nn4 nn k) 1 (nI (K ||| 2 ^ i)), ?_, hn, OKs_k hk hms, kn_le k, NV_k hnv', ht, haf⟩
        rw [if_neg (fun z => by rw [(kb_4 K (by omega) i (by omega)).mp z] at q2; cases q2), if_pos trivial, e3, sg_r, hx, lg_und hn (NV_k (K' := K ||| 2 ^ i) hnv').1 hk ht hms, Option.bind_some, if_pos rfl]
      · obtain ⟨hv', e3⟩ := cs_forget (asks := asks) (hours := hours) (A := A) (F := F) (hv := hv) hn hk h6 hi q2
        have hx := kx_1 K (by omega) i (by omega) q2
        have hms := ms_p2 (n := n) (by omega) hK (2 ^ i)
        refine ⟨ms K (2 ^ i), hours, hv', upd (nn4 nn k) 1 (nI (ms K (2 ^ i))), ?_, hn, OKs_k hk hms, kn_le k, NV_k hnv', ht, haf⟩
        rw [if_pos ((kb_4 K (by omega) i (by omega)).mpr q2), if_neg (show ¬ (1 : Int32) = 0 by decide), e3, sg_r, hx, lg_und hn (NV_k (K' := ms K (2 ^ i)) hnv').1 hk ht hms, Option.bind_some, if_pos rfl]
  obtain ⟨K', hours', hv', nn', e1, e2⟩ := key
  refine ⟨K', hours', hv', nn', ?_, e2⟩
  unfold fL_forgets
  rw [g05, c0_, hnv.1, ei, Option.bind_some]
  refine Eq.trans (n4_step h6 hnv.2.2.2.2 (fun u => fL_forgets_J24 x y (nI i) (nI n) (nI K) asks hours Z O A F (nI k) u tr hv)) ?_
  exact e1
theorem fa_c (Z O : Nat → Int64) (o r : Nat) (b : Bool) : tOf Z O o r + bI b = 1 ↔ ¬ tOf Z O o r = 2 ∧ ¬ tOf Z O o r = bI b := by
  rcases tOf_3 Z O o r with q | q | q <;> rw [q] <;> cases b <;> decide
theorem as_loop (hn : n ≤ 4) (hk : OKs n K Z O) {nn : Nat → Int32} (h0 : nn 0 = nI n) (h1 : nn 1 = nI K) (ht : TR n Z O tr) {co cs : Nat → Int32} (hc : ∀ o, o < 4 → LC n K Z O co cs o) {r : Nat} (hr : r < 2 ^ n) (po a b c d : Int32) (e f : Nat → Int64) (g h : Nat → Int32) (hs : Int32) (p1 : Nat → Int64) (p2 : Nat → Int32) (p3 : Nat → Int64) (p4 vi vu vp vs vc : Int32) (vz vo vn va : Nat → Int64) (vq vk vd : Nat → Int32) (hv : Nat → SV) : ∀ dd o, o + dd = 4 → ∀ fuel, dd < fuel → ∀ (al fa : Nat → Int32), ∃ (al' fa' : Nat → Int32), fL_asks_L39 (nI r) po a b c d e f g h hs p1 p2 p3 p4 vi vu vp vs vc vz vo vn va vq vk vd nn tr co cs hv fuel (tol n K Z O r o) (nI o) al fa = fL_asks_J125 (nI r) (tol n K Z O r 4) po a b c d e f g h hs p1 p2 p3 p4 vi vu vp vs vc vz vo vn va vq vk vd nn al' fa' hv ∧ ∀ p, p < 4 → al' p = (if p < o then al p else al p + alD n K Z O p r) ∧ fa' p = (if p < o then fa p else fa p + faD n K Z O p r) := by
  have h16 := p16 hn
  intro dd
  induction dd with
  | zero =>
    intro o ho fuel hf al fa
    obtain ⟨f', rfl⟩ : ∃ f, fuel = f + 1 := ⟨fuel - 1, by omega⟩
    have e : o = 4 := by omega
    subst e
    refine ⟨al, fa, ?_, fun p hp => ⟨by rw [if_pos hp], by rw [if_pos hp]⟩⟩
    rw [fL_asks_L39, if_pos p4_]
  | succ dd ih =>
    intro o ho fuel hf al fa
    obtain ⟨f', rfl⟩ : ∃ f, fuel = f + 1 := ⟨fuel - 1, by omega⟩
    have ho4 : o < 4 := by omega
    obtain ⟨al', fa', e1, h3⟩ := ih (o + 1) (by omega) f' (by omega) (upd al o (al o + alD n K Z O o r)) (upd fa o (fa o + faD n K Z O o r))
    refine ⟨al', fa', ?_, fun p hp => ?_⟩
    · rw [← e1]
      rw [fL_asks_L39, if_neg (n4 ho4), lg_answer hn hk ho4 (hc o ho4) hr, Option.bind_some, g15, c1_, h1, lg_dec hn h0 hk ht ho4 hr hk.2.2.1, Option.bind_some]
      unfold fL_asks_J93 fL_asks_J119
      rw [ix16]
      simp only [gd_in ho4 (show (4 : Nat) < 2 ^ 31 by decide), gd_in (show 16 * o + r < 64 by omega) (show (64 : Nat) < 2 ^ 31 by decide), nI_clamp (show o < 2 ^ 31 by omega), nI_clamp (show 16 * o + r < 2 ^ 31 by omega), lt_e, nI_1, ht o ho4 r hr]
      have hfc := fa_c Z O o r (tb (AN n K Z O o) r)
      show _ = fL_asks_L39 (nI r) po a b c d e f g h hs p1 p2 p3 p4 vi vu vp vs vc vz vo vn va vq vk vd nn tr co cs hv f' (tol n K Z O r o ||| (bI (tb (AN n K Z O o) r) <<< (nI o &&& 31))) (nI (o + 1)) (upd al o (al o + if DV n K Z O o r = 3 then 1 else 0)) (upd fa o (fa o + if tOf Z O o r = 2 then 0 else if tOf Z O o r = bI (tb (AN n K Z O o) r) then 0 else 1))
      have hfa : (if tOf Z O o r = 2 then (0 : Int32) else if tOf Z O o r = bI (tb (AN n K Z O o) r) then 0 else 1) = if tOf Z O o r + bI (tb (AN n K Z O o) r) = 1 then 1 else 0 := by
        by_cases c2 : tOf Z O o r = 2
        · rw [if_pos c2, if_neg (fun z => (hfc.mp z).1 c2)]
        · rw [if_neg c2]
          by_cases c3 : tOf Z O o r = bI (tb (AN n K Z O o) r)
          · rw [if_pos c3, if_neg (fun z => (hfc.mp z).2 c3)]
          · rw [if_neg c3, if_pos (hfc.mpr ⟨c2, c3⟩)]
      rw [hfa]
      by_cases c1 : DV n K Z O o r = 3
      · rw [if_pos c1, if_pos c1]
        by_cases c2 : tOf Z O o r + bI (tb (AN n K Z O o) r) = 1
        · rw [if_pos c2, if_pos c2]
        · rw [if_neg c2, if_neg c2, Int32.add_zero, ← upd_s fa o]
      · rw [if_neg c1, if_neg c1, Int32.add_zero, ← upd_s al o]
        by_cases c2 : tOf Z O o r + bI (tb (AN n K Z O o) r) = 1
        · rw [if_pos c2, if_pos c2]
        · rw [if_neg c2, if_neg c2, Int32.add_zero, ← upd_s fa o]
    · obtain ⟨g1, g2⟩ := h3 p hp
      rw [g1, g2]
      by_cases e : p = o
      · subst e
        rw [if_pos (Nat.lt_succ_self p), if_pos (Nat.lt_succ_self p), pk_us, pk_us, if_neg (Nat.lt_irrefl p), if_neg (Nat.lt_irrefl p)]
        exact ⟨rfl, rfl⟩
      · rw [pk_un e, pk_un e]
        by_cases e2 : p < o
        · rw [if_pos (show p < o + 1 by omega), if_pos (show p < o + 1 by omega), if_pos e2, if_pos e2]
          exact ⟨rfl, rfl⟩
        · rw [if_neg (show ¬ p < o + 1 by omega), if_neg (show ¬ p < o + 1 by omega), if_neg e2, if_neg e2]
          exact ⟨rfl, rfl⟩
theorem a_asks (h : LW n K Z O asks hours A F k nn tr al fa) {co cs : Nat → Int32} (hc : ∀ o, o < 4 → LC n K Z O co cs o) (po : Int32) (p1 : Nat → Int64) (p2 : Nat → Int32) (p3 : Nat → Int64) (p4 vi vu vp vs vc : Int32) (vz vo vn va : Nat → Int64) (vq vk vd : Nat → Int32) (hw : po = 0 → VW n K Z O vi vu vp vs vc vz vo vn va vq vk vd) (y : Int32) : ∃ A' F' p1' p2' p3' p4' vi' vu' vp' vs' vc' vz' vo' vn' va' vq' vk' vd' hv' nn' al' fa', fL_asks po (nI n) (nI K) asks hours Z O A F (nI k) p1 p2 p3 p4 vi vu vp vs vc vz vo vn va vq vk vd nn tr al fa co cs hv y = some (1, 0, asks + 1, A', F', nI (kn k), p1', p2', p3', p4', vi', vu', vp', vs', vc', vz', vo', vn', va', vq', vk', vd', nn', al', fa', hv') ∧ LW n K Z O (asks + 1) hours A' F' (kn k) nn' tr al' fa' ∧ VW n K Z O vi' vu' vp' vs' vc' vz' vo' vn' va' vq' vk' vd' := by
  obtain ⟨hn, hk, h6, hnv, ht, haf⟩ := id h
  have h16 := p16 hn
  have hpos := Nat.two_pow_pos n
  obtain ⟨r, hr, er⟩ := lg_at y (y := 2 ^ n) hpos (by omega)
  have hnv2 : NV n K (asks + 1) hours k (upd nn 2 (asks + 1)) := ⟨(pk_un (by decide)).trans hnv.1, (pk_un (by decide)).trans hnv.2.1, pk_us, (pk_un (by decide)).trans hnv.2.2.2.1, (pk_un (by decide)).trans hnv.2.2.2.2⟩
  have hnv' := NV_4 h6 hnv2
  obtain ⟨A', F', p1', p2', p3', p4', vi', vu', vp', vs', vc', vz', vo', vn', va', vq', vk', vd', hv', e1, hw', hAF⟩ := cs_ask (asks := asks) (hours := hours) (A := A) (F := F) (hv := hv) hn hk h6 po p1 p2 p3 p4 vi vu vp vs vc vz vo vn va vq vk vd hw hr
  obtain ⟨al', fa', e2, haf'⟩ := as_loop hn hk hnv'.1 hnv'.2.1 ht hc hr po (nI n) (nI K) asks hours Z O A F (nI k) p1 p2 p3 p4 vi vu vp vs vc vz vo vn va vq vk vd hv 4 0 (by decide) 5000 (by decide) al fa
  refine ⟨A', F', p1', p2', p3', p4', vi', vu', vp', vs', vc', vz', vo', vn', va', vq', vk', vd', hv', nn4 (upd nn 2 (asks + 1)) k, al', fa', ?_, ⟨hn, hk, kn_le k, hnv', ht, fun o ho => ?_⟩, hw'⟩
  · unfold fL_asks
    rw [g05, c0_, hnv.1, sh_n (by omega), er, Option.bind_some, g25, g25, lt_e, c2_, hnv.2.2.1]
    refine Eq.trans (n4_step h6 hnv2.2.2.2.2 (fun u => fL_asks_J36 (nI r) 0 po (nI n) (nI K) asks hours Z O A F (nI k) p1 p2 p3 p4 vi vu vp vs vc vz vo vn va vq vk vd u tr al fa co cs hv)) ?_
    unfold fL_asks_J36
    refine Eq.trans e2 ?_
    unfold fL_asks_J125
    rw [e1, sg_r, if_pos rfl]
  · obtain ⟨g1, g2⟩ := haf' o ho
    obtain ⟨g3, g4⟩ := hAF o ho
    rw [g1, g2, g3, g4, if_neg (Nat.not_lt_zero o), if_neg (Nat.not_lt_zero o), (haf o ho).1, (haf o ho).2]
    exact ⟨rfl, rfl⟩
end AFO
