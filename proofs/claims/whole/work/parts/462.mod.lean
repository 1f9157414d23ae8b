/-! remainders of signed numbers -/
theorem td_pos (n P : Nat) : ((n : Int).tdiv (P : Int)) = ((n / P : Nat) : Int) := rfl
theorem td_neg (n P : Nat) : ((-(n : Int)).tdiv (P : Int)) = -((n / P : Nat) : Int) := by rw [Int.neg_tdiv]; rfl
/-- the remainder by size and sign -/
theorem lrm_t {x : Int64} {P : Nat} (hP : 0 < P) (hP2 : P < 200) : (∃ n : Nat, x.toInt = (n : Int) ∧ (lrm x (lN P)).toInt = ((n % P : Nat) : Int)) ∨ ∃ n : Nat, 0 < n ∧ x.toInt = -(n : Int) ∧ (lrm x (lN P)).toInt = -((n % P : Nat) : Int) := by
  have hp : (lN P).toInt = (P : Int) := lN_toInt (by omega)
  have hx := fb_rngL x
  have key : ∀ n : Nat, n / P * P + n % P = n := fun n => by rw [Nat.mul_comm]; exact Nat.div_add_mod n P
  have kle : ∀ n : Nat, n / P ≤ n := fun n => Nat.div_le_self n P
  obtain ⟨n, h | h⟩ := Int.eq_nat_or_neg x.toInt
  · have h1 := key n
    have h2 := kle n
    refine Or.inl ⟨n, h, ?_⟩
    have hd : (x / lN P).toInt = ((n / P : Nat) : Int) := by rw [Int64.toInt_div, hp, h, td_pos]; exact fb_bmodL (by have := Int.natCast_nonneg (n / P); omega) (by have := Int.natCast_nonneg (n / P); omega)
    have e : ((n / P : Nat) : Int) * (P : Int) = ((n / P * P : Nat) : Int) := by omega
    have hm : (x / lN P * lN P).toInt = ((n / P * P : Nat) : Int) := by
      rw [fb_mulL (by rw [hd, hp, e]; omega) (by rw [hd, hp, e]; omega), hd, hp, e]
    rw [lrm, fb_subL (by rw [hm, h]; omega) (by rw [hm, h]; omega), hm, h]
    omega
  · by_cases h0 : n = 0
    · subst h0
      refine Or.inl ⟨0, h, ?_⟩
      have hd : (x / lN P).toInt = 0 := by rw [Int64.toInt_div, hp, h]; simp
      have hm : (x / lN P * lN P).toInt = 0 := by
        rw [fb_mulL (by rw [hd, hp]; omega) (by rw [hd, hp]; omega), hd, hp]; omega
      rw [lrm, fb_subL (by rw [hm, h]; omega) (by rw [hm, h]; omega), hm, h]
      simp
    · have h1 := key n
      have h2 := kle n
      refine Or.inr ⟨n, by omega, h, ?_⟩
      have hd : (x / lN P).toInt = -((n / P : Nat) : Int) := by rw [Int64.toInt_div, hp, h, td_neg]; exact fb_bmodL (by have := Int.natCast_nonneg (n / P); omega) (by have := Int.natCast_nonneg (n / P); omega)
      have e : -((n / P : Nat) : Int) * (P : Int) = -((n / P * P : Nat) : Int) := by rw [Int.neg_mul]; omega
      have hm : (x / lN P * lN P).toInt = -((n / P * P : Nat) : Int) := by
        rw [fb_mulL (by rw [hd, hp, e]; omega) (by rw [hd, hp, e]; omega), hd, hp, e]
      rw [lrm, fb_subL (by rw [hm, h]; omega) (by rw [hm, h]; omega), hm, h]
      omega
