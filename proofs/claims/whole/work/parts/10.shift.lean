/-! ===== shifts by a small number ===== -/
theorem am_m31 {k : Nat} (h : k < 32) : (nI k &&& 31 : Int32) = nI k := by
  have := pk_andN (n := k) (by omega) (m := 31) 5 (by decide +kernel)
  rw [this, Nat.mod_eq_of_lt (by omega)]
theorem am_smod {k : Nat} (h : k < 32) : ((nI k).toBitVec.smod 32).toNat = k := by
  have key : ∀ k : Fin 32, ((nI k.1).toBitVec.smod 32).toNat = k.1 := by decide +kernel
  exact key ⟨k, h⟩
theorem am_nm1 {k : Nat} (h : k < 2 ^ 31) : ¬ nI k = -1 := by
  intro e
  have h1 := congrArg Int32.toInt e
  rw [nI_toInt h, show (-1 : Int32).toInt = -1 by decide +kernel] at h1
  omega
