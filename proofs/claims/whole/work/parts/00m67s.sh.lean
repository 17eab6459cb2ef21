/-! the decided share -/
def shX (a b : Nat) : UInt64 := FP.ddiv (FP.i2d (nI a)) (FP.i2d (nI b))
def shR (a b : Nat) : Bool := decide (4571153621781053440 ≤ (shX a b).toNat) && decide ((shX a b).toNat < 4611686018427387904)
theorem sh_a : allN 129 (fun b => allN b (fun a => shR (a + 1) b)) = true := by decide +kernel
theorem sh_b : allN 64 (fun b => allN (129 + b) (fun a => shR (a + 1) (129 + b))) = true := by decide +kernel
theorem sh_c : allN 64 (fun b => allN (193 + b) (fun a => shR (a + 1) (193 + b))) = true := by decide +kernel
theorem sh_0 : allN 257 (fun b => b == 0 || decide (shX 0 b = 0)) = true := by decide +kernel
theorem sh_r {a b : Nat} (h0 : 1 ≤ a) (h1 : a ≤ b) (h2 : b ≤ 256) : shR a b = true := by
  obtain ⟨c, rfl⟩ : ∃ c, a = c + 1 := ⟨a - 1, by omega⟩
  rcases Nat.lt_or_ge b 129 with z | z
  · exact allN_iff.mp (allN_iff.mp sh_a b z) c (by omega)
  · rcases Nat.lt_or_ge b 193 with z2 | z2
    · obtain ⟨d, rfl⟩ : ∃ d, b = 129 + d := ⟨b - 129, by omega⟩
      exact allN_iff.mp (allN_iff.mp sh_b d (by omega)) c (by omega)
    · obtain ⟨d, rfl⟩ : ∃ d, b = 193 + d := ⟨b - 193, by omega⟩
      exact allN_iff.mp (allN_iff.mp sh_c d (by omega)) c (by omega)
