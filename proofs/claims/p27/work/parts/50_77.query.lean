/-! mathematics of the class -/
theorem ou_0 (f : Nat → Int64) (x : Int64) : vp_updL f (0 : Int32).toNatClampNeg x 0 = x := pk_uLs
theorem dgV_c (n K : Nat) (Z O : Nat → Int64) (asks hours : Int32) (A F : Nat → Int32) (hs : Int32) {c txt : Nat → Int32} {L : Nat} (ht : ∀ i, i < L → c i = txt i) : dgV n K Z O asks hours A F hs c L = dgV n K Z O asks hours A F hs txt L := by
  unfold dgV dgZ
  exact mxF_congr (fun i hi => by unfold dgT; rw [ht i hi]) _
