/-! floorMod of longs and ints -/
theorem ms_L (x : Int64) : (0 ≤ x) ↔ x.toBitVec.msb = false := by
  rw [Int64.le_iff_toInt_le, BitVec.msb_eq_toInt]
  show (0 : Int) ≤ x.toInt ↔ decide (x.toInt < 0) = false
  rw [decide_eq_false_iff_not]; omega
theorem xr_L (x y : Int64) (hy : 0 ≤ y) : (0 ≤ x ^^^ y) ↔ 0 ≤ x := by
  rw [ms_L, ms_L, Int64.toBitVec_xor, BitVec.msb_xor, (ms_L y).mp hy, Bool.xor_false]
theorem ms_I (x : Int32) : (0 ≤ x) ↔ x.toBitVec.msb = false := by
  rw [Int32.le_iff_toInt_le, BitVec.msb_eq_toInt]
  show (0 : Int) ≤ x.toInt ↔ decide (x.toInt < 0) = false
  rw [decide_eq_false_iff_not]; omega
theorem xr_I (x y : Int32) (hy : 0 ≤ y) : (0 ≤ x ^^^ y) ↔ 0 ≤ x := by
  rw [ms_I, ms_I, Int32.toBitVec_xor, BitVec.msb_xor, (ms_I y).mp hy, Bool.xor_false]
theorem lN0 {n : Nat} (h : n < 2147483648) : (0 : Int64) ≤ lN n := by rw [show (0 : Int64) = lN 0 from rfl, lN_le (by omega) (by omega)]; omega
theorem lNe0 {n : Nat} (hn : 0 < n) (h : n < 2147483648) : ¬ lN n = 0 := fun e => by
  have := congrArg Int64.toInt e
  rw [lN_toInt (by omega)] at this
  have : (n : Int) = 0 := this
  omega
theorem fm_L {P : Nat} {x : Int64} (hP : 0 < P) (hP2 : P < 200) : FJ9_floorMod_f86c9 x (lN P) = some (lN (md P x.toInt)) := by
  rw [FJ9_floorMod_f86c9, gd_i (lNe0 hP (by omega)), bd]
  rcases lrm_t (x := x) hP hP2 with ⟨n, h1, h2⟩ | ⟨n, hn, h1, h2⟩
  · have hl := Nat.mod_lt n hP
    have e : lrm x (lN P) = lN (n % P) := l_of (by omega) h2
    have hx : (0 : Int64) ≤ x := Int64.le_iff_toInt_le.mpr (by rw [h1]; show (0 : Int) ≤ _; omega)
    rw [if_pos ((lg_cmp_ge _ _).mpr ((xr_L x _ (lN0 (by omega))).mpr hx)), e, h1, md_pos]
  · have hl := Nat.mod_lt n hP
    have hx : ¬ (0 : Int64) ≤ x := fun h => by
      have := Int64.le_iff_toInt_le.mp h
      rw [h1] at this
      have : (0 : Int) ≤ -(n : Int) := this
      omega
    rw [if_neg (fun h => hx ((xr_L x _ (lN0 (by omega))).mp ((lg_cmp_ge _ _).mp h))), h1, md_neg hP]
    by_cases hz : n % P = 0
    · have e : lrm x (lN P) = lN 0 := l_of (by omega) (by rw [h2, hz]; rfl)
      rw [e, if_pos ((lg_cmp_eq (lN 0) 0).mpr rfl), if_pos hz]
    · have e : lrm x (lN P) + lN P = lN (P - n % P) := l_of (by omega) (by
        rw [fb_addL (by rw [h2, lN_toInt (by omega)]; omega) (by rw [h2, lN_toInt (by omega)]; omega), h2, lN_toInt (by omega)]; omega)
      rw [if_neg (fun h => by
        have := (lg_cmp_eq _ _).mp h
        rw [this] at h2
        have : (0 : Int) = -((n % P : Nat) : Int) := h2
        omega), e, if_neg hz]
theorem irm_t {x : Int32} {P : Nat} (hP : 0 < P) (hP2 : P < 200) : (∃ n : Nat, x.toInt = (n : Int) ∧ (irm x (nI P)).toInt = ((n % P : Nat) : Int)) ∨ ∃ n : Nat, 0 < n ∧ x.toInt = -(n : Int) ∧ (irm x (nI P)).toInt = -((n % P : Nat) : Int) := by
  have hp : (nI P).toInt = (P : Int) := nI_toInt (by omega)
  have hx := fb_rng x
  have key : ∀ n : Nat, n / P * P + n % P = n := fun n => by rw [Nat.mul_comm]; exact Nat.div_add_mod n P
  have kle : ∀ n : Nat, n / P ≤ n := fun n => Nat.div_le_self n P
  by_cases hx1 : x.toInt = -2147483648 ∧ P = 1
  · refine Or.inr ⟨2147483648, by omega, hx1.1, ?_⟩
    have e : x = (-2147483648 : Int32) := Int32.toInt_inj.mp (by rw [hx1.1]; rfl)
    rw [e, hx1.2]; decide
  obtain ⟨n, h | h⟩ := Int.eq_nat_or_neg x.toInt
  · have h1 := key n
    have h2 := kle n
    refine Or.inl ⟨n, h, ?_⟩
    have hd : (x / nI P).toInt = ((n / P : Nat) : Int) := by rw [Int32.toInt_div, hp, h, td_pos]; exact fb_bmod (by have := Int.natCast_nonneg (n / P); omega) (by have := Int.natCast_nonneg (n / P); omega)
    have e : ((n / P : Nat) : Int) * (P : Int) = ((n / P * P : Nat) : Int) := by omega
    have hm : (x / nI P * nI P).toInt = ((n / P * P : Nat) : Int) := by
      rw [fb_mulI (by rw [hd, hp, e]; omega) (by rw [hd, hp, e]; omega), hd, hp, e]
    rw [irm, fb_subI (by rw [hm, h]; omega) (by rw [hm, h]; omega), hm, h]
    omega
  · by_cases h0 : n = 0
    · subst h0
      refine Or.inl ⟨0, h, ?_⟩
      have hd : (x / nI P).toInt = 0 := by rw [Int32.toInt_div, hp, h]; simp
      have hm : (x / nI P * nI P).toInt = 0 := by
        rw [fb_mulI (by rw [hd, hp]; omega) (by rw [hd, hp]; omega), hd, hp]; omega
      rw [irm, fb_subI (by rw [hm, h]; omega) (by rw [hm, h]; omega), hm, h]
      simp
    · have h1 := key n
      have h2 := kle n
      refine Or.inr ⟨n, by omega, h, ?_⟩
      have hd : (x / nI P).toInt = -((n / P : Nat) : Int) := by rw [Int32.toInt_div, hp, h, td_neg]; exact fb_bmod (by have := Int.natCast_nonneg (n / P); omega) (by have := Int.natCast_nonneg (n / P); omega)
      have e : -((n / P : Nat) : Int) * (P : Int) = -((n / P * P : Nat) : Int) := by rw [Int.neg_mul]; omega
      have hm : (x / nI P * nI P).toInt = -((n / P * P : Nat) : Int) := by
        rw [fb_mulI (by rw [hd, hp, e]; omega) (by rw [hd, hp, e]; omega), hd, hp, e]
      rw [irm, fb_subI (by rw [hm, h]; omega) (by rw [hm, h]; omega), hm, h]
      omega
theorem i_of {x : Int32} {n : Nat} (hn : n < 2147483648) (h : x.toInt = (n : Int)) : x = nI n := Int32.toInt_inj.mp (by rw [h, nI_toInt (by omega)])
theorem fm_I {P : Nat} {x : Int32} (hP : 0 < P) (hP2 : P < 200) : FJ9_floorMod_7cf53 x (nI P) = some (nI (md P x.toInt)) := by
  rw [FJ9_floorMod_7cf53, gd_i (ne0_n hP (by omega)), bd]
  rcases irm_t (x := x) hP hP2 with ⟨n, h1, h2⟩ | ⟨n, hn, h1, h2⟩
  · have hl := Nat.mod_lt n hP
    have e : irm x (nI P) = nI (n % P) := i_of (by omega) h2
    have hx : (0 : Int32) ≤ x := Int32.le_iff_toInt_le.mpr (by rw [h1]; show (0 : Int) ≤ _; omega)
    rw [if_pos ((xr_I x _ (nI_pos' (by omega))).mpr hx), e, h1, md_pos]
  · have hl := Nat.mod_lt n hP
    have hx : ¬ (0 : Int32) ≤ x := fun h => by
      have := Int32.le_iff_toInt_le.mp h
      rw [h1] at this
      have : (0 : Int) ≤ -(n : Int) := this
      omega
    rw [if_neg (fun h => hx ((xr_I x _ (nI_pos' (by omega))).mp h)), h1, md_neg hP]
    by_cases hz : n % P = 0
    · have e : irm x (nI P) = nI 0 := i_of (by omega) (by rw [h2, hz]; rfl)
      rw [e, if_pos (show nI 0 = 0 from rfl), if_pos hz]
    · have e : irm x (nI P) + nI P = nI (P - n % P) := i_of (by omega) (by
        rw [fb_addI (by rw [h2, nI_toInt (by omega)]; omega) (by rw [h2, nI_toInt (by omega)]; omega), h2, nI_toInt (by omega)]; omega)
      rw [if_neg (fun h => by
        rw [h] at h2
        have : (0 : Int) = -((n % P : Nat) : Int) := h2
        omega), e, if_neg hz]
theorem m_modI {P : Nat} {x : Int32} (hP : 0 < P) (hP2 : P < 200) : FX7_modulo (nI P) x.toInt64 = some (nI (md P x.toInt)) := by
  rw [m_modulo hP hP2, Int32.toInt_toInt64]
theorem md_nat {P n : Nat} (hn : n < P) : md P (n : Int) = n := by rw [md_pos, Nat.mod_eq_of_lt hn]
