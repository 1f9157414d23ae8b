/-! the model's modulo -/
def md (P : Nat) (z : Int) : Nat := (z % (P : Int)).toNat
theorem md_lt {P : Nat} (hP : 0 < P) (z : Int) : md P z < P := by
  have h1 := Int.emod_nonneg z (show (P : Int) ≠ 0 by omega)
  have h2 := Int.emod_lt_of_pos z (show (0 : Int) < P by omega)
  unfold md; omega
theorem md_pos (P n : Nat) : md P (n : Int) = n % P := by
  unfold md; rw [← Int.natCast_emod]; exact Int.toNat_natCast _
theorem md_neg {P n : Nat} (hP : 0 < P) : md P (-(n : Int)) = if n % P = 0 then 0 else P - n % P := by
  unfold md
  have hl := Nat.mod_lt n hP
  have e : (-(n : Int)) % (P : Int) = ((if n % P = 0 then 0 else P - n % P : Nat) : Int) := by
    have hn : (n : Int) = (P : Int) * ((n / P : Nat) : Int) + ((n % P : Nat) : Int) := by
      have := Nat.div_add_mod n P
      rw [← Int.natCast_mul, ← Int.natCast_add, this]
    by_cases h0 : n % P = 0
    · rw [if_pos h0, hn, h0]
      simp
    · rw [if_neg h0]
      have e2 : (-(n : Int)) = ((P - n % P : Nat) : Int) + (P : Int) * (-((n / P : Nat) : Int) - 1) := by
        rw [Int.mul_sub, Int.mul_neg, Int.mul_one, Int.ofNat_sub (by omega)]
        omega
      rw [e2, Int.add_mul_emod_self_left, ← Int.natCast_emod, Nat.mod_eq_of_lt (by omega)]
  rw [e, Int.toNat_natCast]
theorem nP_l {P : Nat} (hP2 : P < 200) : (nI P).toInt64 = lN P := nI_l (by omega)
theorem l_of {x : Int64} {n : Nat} (hn : n < 2147483648) (h : x.toInt = (n : Int)) : x = lN n := Int64.toInt_inj.mp (by rw [h, lN_toInt (by omega)])
theorem m_modulo {P : Nat} {x : Int64} (hP : 0 < P) (hP2 : P < 200) : FX7_modulo (nI P) x = some (nI (md P x.toInt)) := by
  have h0 : ¬ lN P = 0 := fun e => by
    have := congrArg Int64.toInt e
    rw [lN_toInt (by omega)] at this
    have : (P : Int) = 0 := this
    omega
  rw [FX7_modulo, nP_l hP2, gd_i h0, bd]
  rcases lrm_t (x := x) hP hP2 with ⟨n, h1, h2⟩ | ⟨n, hn, h1, h2⟩
  · have hl := Nat.mod_lt n hP
    have e : lrm x (lN P) = lN (n % P) := l_of (by omega) h2
    rw [e, if_pos ((lg_cmp_ge _ _).mpr (by rw [show (0 : Int64) = lN 0 from rfl, lN_le (by omega) (by omega)]; omega)), lN_i, h1, md_pos]
  · have hl := Nat.mod_lt n hP
    rw [h1, md_neg hP]
    by_cases hz : n % P = 0
    · have e : lrm x (lN P) = lN 0 := l_of (by omega) (by rw [h2, hz]; rfl)
      rw [e, if_pos ((lg_cmp_ge _ _).mpr (by decide)), lN_i, if_pos hz]
    · have e : lrm x (lN P) + lN P = lN (P - n % P) := l_of (by omega) (by
        rw [fb_addL (by rw [h2, lN_toInt (by omega)]; omega) (by rw [h2, lN_toInt (by omega)]; omega), h2, lN_toInt (by omega)]; omega)
      rw [if_neg (fun h => by
        have := Int64.le_iff_toInt_le.mp ((lg_cmp_ge _ _).mp h)
        rw [h2] at this
        have : (0 : Int) ≤ -((n % P : Nat) : Int) := this
        omega), e, lN_i, if_neg hz]
