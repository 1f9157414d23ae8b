/-! the model's modulo -/
def md (P : Nat) (z : Int) : Nat := (z % (P : Int)).toNat
theorem md_lt {P : Nat} (hP : 0 < P) (z : Int) : md P z < P := by
  have h1 := Int.emod_nonneg z (show (P : Int) ≠ 0 by omega)
  have h2 := Int.emod_lt_of_pos z (show (0 : Int) < P by omega)
  unfold md; omega
theorem md_pos (P n : Nat) : md P (n : Int) = n % P := by
  unfold md; rw [← Int.natCast_emod]; exact Int.toNat_natCast _
theorem md_neg {P n : Nat} (hP : 0 < P) : md P (-(n : Int)) = if n % P = 0 then 0 else P - n % P := by
  unfold md
  have hl := Nat.mod_lt n hP
  have e : (-(n : Int)) % (P : Int) = ((if n % P = 0 then 0 else P - n % P : Nat) : Int) := by
    have hn : (n : Int) = (P : Int) * ((n / P : Nat) : Int) + ((n % P : Nat) : Int) := by
      have := Nat.div_add_mod n P
      rw [← Int.natCast_mul, ← Int.natCast_add, this]
    by_cases h0 : n % P = 0
    · rw [if_pos h0, hn, h0]
      simp
    · rw [if_neg h0]
      have e2 : (-(n : Int)) = ((P - n % P : Nat) : Int) + (P : Int) * (-((n / P : Nat) : Int) - 1) := by
        rw [Int.mul_sub, Int.mul_neg, Int.mul_one, Int.ofNat_sub (by omega)]
        omega
      rw [e2, Int.add_mul_emod_self_left, ← Int.natCast_emod, Nat.mod_eq_of_lt (by omega)]
  rw [e, Int.toNat_natCast]
