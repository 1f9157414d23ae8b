/-! fractions: common divisors, the next one -/
theorem m_gcdL : ∀ m n fuel, m < 100 → n < 2147483648 → m < fuel → FX7_divisor_L13 fuel (nI n) (nI m) = some (nI (Nat.gcd n m)) := by
  intro m
  induction m using Nat.strongRecOn with
  | ind m ih =>
    intro n fuel h1 h2 h3
    obtain ⟨f, rfl⟩ : ∃ f, fuel = f + 1 := ⟨fuel - 1, by omega⟩
    rw [FX7_divisor_L13]
    by_cases h0 : m = 0
    · subst h0; rw [if_pos (show nI 0 = 0 from rfl), Nat.gcd_zero_right]
    · have hl := Nat.mod_lt n (show 0 < m by omega)
      rw [if_neg (ne0_n (by omega) (by omega)), gd_i (ne0_n (by omega) (by omega)), irm_n (by omega) (by omega) (by omega), bd, ih (n % m) hl m f (by omega) (by omega) (by omega), Nat.gcd_comm m (n % m), ← Nat.gcd_rec, Nat.gcd_comm]
theorem x_gcdL : ∀ m n i fuel, m + i < 100 → n < 2147483648 → m < fuel → FX6_commonDivisor_L13 fuel (nI n) (nI m) (nI i) = some (nI (Nat.gcd n m)) := by
  intro m
  induction m using Nat.strongRecOn with
  | ind m ih =>
    intro n i fuel h1 h2 h3
    obtain ⟨f, rfl⟩ : ∃ f, fuel = f + 1 := ⟨fuel - 1, by omega⟩
    rw [FX6_commonDivisor_L13, if_neg (show ¬ (100 : Int32) ≤ nI i from nI_ge (a := i) (b := 100) (by omega) (by omega))]
    by_cases h0 : m = 0
    · subst h0; rw [if_pos (show nI 0 = 0 from rfl), Nat.gcd_zero_right]
    · have hl := Nat.mod_lt n (show 0 < m by omega)
      rw [if_neg (ne0_n (by omega) (by omega)), gd_i (ne0_n (by omega) (by omega)), irm_n (by omega) (by omega) (by omega), bd, bd, nI_1, ih (n % m) hl m (i + 1) f (by omega) (by omega) (by omega), Nat.gcd_comm m (n % m), ← Nat.gcd_rec, Nat.gcd_comm]
theorem neg_I {x : Int32} (h : -2147483648 < x.toInt) : (-x).toInt = -x.toInt := by
  have := fb_rng x
  rw [← Int32.zero_sub, fb_subI (by show -2147483648 ≤ (0 : Int) - x.toInt; omega) (by show (0 : Int) - x.toInt < 2147483648; omega)]
  show (0 : Int) - x.toInt = _
  omega
theorem abs_pos {x : Int32} (h : 0 ≤ x) : x = nI x.toInt.natAbs := by
  have h1 := Int32.le_iff_toInt_le.mp h
  have h1 : (0 : Int) ≤ x.toInt := h1
  have := fb_rng x
  exact i_of (by omega) (by omega)
theorem abs_neg {x : Int32} (h : ¬ 0 ≤ x) (h2 : -2147483648 < x.toInt) : -x = nI x.toInt.natAbs := by
  have h1 : ¬ (0 : Int) ≤ x.toInt := fun e => h (Int32.le_iff_toInt_le.mpr e)
  have := fb_rng x
  exact i_of (by omega) (by rw [neg_I h2]; omega)
theorem iab_n {x : Int32} (h2 : -2147483648 < x.toInt) : iab x = nI x.toInt.natAbs := by
  rw [iab]
  by_cases h : 0 ≤ x
  · rw [if_pos h]; exact abs_pos h
  · rw [if_neg h, Int32.zero_sub]; exact abs_neg h h2
theorem m_gcd {x : Int32} {m : Nat} (hm : m < 100) (h : -2147483648 < x.toInt) : FX7_divisor x (nI m) = some (nI (Nat.gcd x.toInt.natAbs m)) := by
  have := fb_rng x
  rw [FX7_divisor]
  by_cases h0 : 0 ≤ x
  · rw [if_pos h0, FX7_divisor_J10]
    have e := m_gcdL m x.toInt.natAbs FU hm (by omega) (FU_big (by omega))
    rw [← abs_pos h0] at e
    exact e
  · rw [if_neg h0, FX7_divisor_J10, abs_neg h0 h]
    exact m_gcdL m _ FU hm (by omega) (FU_big (by omega))
theorem x_gcd {x : Int32} {m : Nat} (hm : m < 100) (h : -2147483648 < x.toInt) : FX6_commonDivisor x (nI m) = some (nI (Nat.gcd x.toInt.natAbs m)) := by
  have := fb_rng x
  have e1 : iab (nI m) = nI m := by
    rw [iab_n (by rw [nI_toInt (by omega)]; omega), nI_toInt (by omega)]; rfl
  rw [FX6_commonDivisor, iab_n h, e1, bd, bd]
  exact x_gcdL m _ 0 FU (by omega) (by omega) (FU_big (by omega))
theorem gcd_le {k m : Nat} (hm : 0 < m) : Nat.gcd k m ≤ m := Nat.le_of_dvd hm (Nat.gcd_dvd_right k m)
theorem one_n {g : Nat} (h : g < 2147483648) : (nI g = 1) = (g = 1) := eq_n (a := g) (b := 1) h (by omega)
/-- where n by d goes; -1000000: elsewhere -/
def qv (a : Int) (d : Nat) (n : Int) : Int := if (n * n + a).natAbs % d = 0 ∧ Nat.gcd ((n * n + a).tdiv (d : Int)).natAbs d = 1 then (n * n + a).tdiv (d : Int) else -1000000
theorem sq_le {n : Int} {k : Int} (h1 : -k ≤ n) (h2 : n ≤ k) : 0 ≤ n * n ∧ n * n ≤ k * k := by
  have e : n * n = (n.natAbs : Int) * (n.natAbs : Int) := by rw [← Int.natCast_mul, Int.natAbs_mul_self]
  have h3 : (n.natAbs : Int) ≤ k := by omega
  rw [e]
  exact ⟨Int.mul_nonneg (by omega) (by omega), Int.mul_le_mul h3 h3 (by omega) (by omega)⟩
theorem td_abs (v : Int) (d : Nat) : (v.tdiv (d : Int)).natAbs = v.natAbs / d := by rw [Int.natAbs_tdiv]; rfl
theorem x_image {x1 x3 : Int32} {m : Nat} (hm : 1 ≤ m) (hm2 : m ≤ 30) (h1 : -10000 ≤ x1.toInt) (h2 : x1.toInt ≤ 10000) (h3 : -1000 ≤ x3.toInt) (h4 : x3.toInt ≤ 1000) : ∃ r, FX0_image x1 (nI m) x3 = some r ∧ FX7_nextOf x1 (nI m) x3 = some r ∧ r.toInt = qv x1.toInt m x3.toInt := by
  obtain ⟨s1, s2⟩ := sq_le h3 h4
  have e1 : (x3 * x3).toInt = x3.toInt * x3.toInt := fb_mulI (by omega) (by omega)
  have e2 : (x3 * x3 + x1).toInt = x3.toInt * x3.toInt + x1.toInt := by
    rw [fb_addI (by rw [e1]; omega) (by rw [e1]; omega), e1]
  have e3 : ((x3 * x3 + x1) / nI m).toInt = (x3.toInt * x3.toInt + x1.toInt).tdiv (m : Int) := by
    have ha := td_abs (x3.toInt * x3.toInt + x1.toInt) m
    have hb : (x3.toInt * x3.toInt + x1.toInt).natAbs / m ≤ (x3.toInt * x3.toInt + x1.toInt).natAbs := Nat.div_le_self _ _
    rw [Int32.toInt_div, e2, nI_toInt (by omega)]
    exact fb_bmod (by omega) (by omega)
  have hmod : irm (x3 * x3 + x1) (nI m) = 0 ↔ (x3.toInt * x3.toInt + x1.toInt).natAbs % m = 0 := by
    rcases irm_t (x := x3 * x3 + x1) (P := m) (by omega) (by omega) with ⟨n, q1, q2⟩ | ⟨n, hn, q1, q2⟩
    · rw [e2] at q1
      rw [q1, Int.natAbs_natCast]
      constructor
      · intro h; rw [h] at q2
        have q2 : (0 : Int) = ((n % m : Nat) : Int) := q2
        omega
      · intro h; rw [h] at q2; exact Int32.toInt_inj.mp q2
    · rw [e2] at q1
      rw [q1, Int.natAbs_neg, Int.natAbs_natCast]
      constructor
      · intro h; rw [h] at q2
        have q2 : (0 : Int) = -((n % m : Nat) : Int) := q2
        omega
      · intro h; rw [h] at q2; exact Int32.toInt_inj.mp q2
  have hne : ¬ nI m = 0 := ne0_n (by omega) (by omega)
  have hvd : -2147483648 < ((x3 * x3 + x1) / nI m).toInt := by
    have ha := td_abs (x3.toInt * x3.toInt + x1.toInt) m
    have hb : (x3.toInt * x3.toInt + x1.toInt).natAbs / m ≤ (x3.toInt * x3.toInt + x1.toInt).natAbs := Nat.div_le_self _ _
    rw [e3]; omega
  rw [FX0_image, FX7_nextOf]
  simp only [bd, gd_i hne]
  rw [if_neg (nI_nle (by omega) (by omega))]
  by_cases h5 : (x3.toInt * x3.toInt + x1.toInt).natAbs % m = 0
  · rw [if_pos (hmod.mpr h5), if_pos (hmod.mpr h5), ob_i (x_gcd (by omega) hvd), ob_i (m_gcd (by omega) hvd)]
    have hg := gcd_le (k := ((x3 * x3 + x1) / nI m).toInt.natAbs) (show 0 < m by omega)
    by_cases h6 : Nat.gcd ((x3 * x3 + x1) / nI m).toInt.natAbs m = 1
    · rw [if_pos (by rw [one_n (by omega)]; exact h6)]; try rw [if_pos (by rw [one_n (by omega)]; exact h6)]
      refine ⟨_, rfl, rfl, ?_⟩
      rw [e3] at h6
      rw [e3, qv, if_pos ⟨h5, h6⟩]
    · rw [if_neg (by rw [one_n (by omega)]; exact h6)]; try rw [if_neg (by rw [one_n (by omega)]; exact h6)]
      refine ⟨_, rfl, rfl, ?_⟩
      rw [e3] at h6
      rw [qv, if_neg (fun e => h6 e.2)]; rfl
  · rw [if_neg (fun e => h5 (hmod.mp e)), if_neg (fun e => h5 (hmod.mp e))]
    refine ⟨_, rfl, rfl, ?_⟩
    rw [qv, if_neg (fun e => h5 e.1)]; rfl
theorem iI_lt {x y : Int32} : ¬ x < y ↔ y.toInt ≤ x.toInt := by rw [Int32.lt_iff_toInt_lt]; omega
theorem pair_ok (x1 x2 : Int32) : (FX7_isFraction x1 x2 = some false ∧ FX6_isPair x1 x2 = some false) ∨ ∃ m, 1 ≤ m ∧ m ≤ 30 ∧ x2 = nI m ∧ -10000 ≤ x1.toInt ∧ x1.toInt ≤ 10000 ∧ FX7_isFraction x1 x2 = some true ∧ FX6_isPair x1 x2 = some true := by
  rw [FX7_isFraction, FX6_isPair, show FX7_in x1.toInt64 (-10000) 10000 = some (decide ((-10000 : Int32) ≤ x1 ∧ x1 ≤ 10000)) from m_inI (a := -10000) (b := 10000)]
  by_cases h1 : x1 < -10000
  · rw [decide_eq_false (fun e => absurd h1 (Int32.not_lt.mpr e.1)), ob_i rfl, if_pos bf0, if_pos h1]
    exact Or.inl ⟨rfl, rfl⟩
  by_cases h2 : 10000 < x1
  · rw [decide_eq_false (fun e => absurd h2 (Int32.not_lt.mpr e.2)), ob_i rfl, if_pos bf0, if_neg h1, if_pos h2]
    exact Or.inl ⟨rfl, rfl⟩
  rw [decide_eq_true ⟨Int32.not_lt.mp h1, Int32.not_lt.mp h2⟩, ob_i rfl, if_neg bt0, if_neg h1, if_neg h2]
  have h1' : (-10000 : Int) ≤ x1.toInt := iI_lt.mp h1
  have h2' : x1.toInt ≤ (10000 : Int) := iI_lt.mp h2
  rcases in_1 x2 30 (by omega) (B := 30) rfl with ⟨hx, e⟩ | ⟨m, hm1, hm, rfl, e⟩
  · rw [ob_i e, if_pos bf0]
    rcases hx with hx | ⟨hx1, hx2⟩
    · rw [if_pos hx]; exact Or.inl ⟨rfl, rfl⟩
    · rw [if_neg hx1, if_pos (show (30 : Int32) < x2 from Int32.not_le.mp hx2)]; exact Or.inl ⟨rfl, rfl⟩
  rw [ob_i e, if_neg bt0, if_neg (show ¬ nI m < 1 from nI_nlt (a := m) (b := 1) hm1 (by omega)), if_neg (show ¬ (30 : Int32) < nI m from nI_nlt (a := 30) (b := m) hm (by omega)), ob_i (m_gcd (by omega) (by omega)), ob_i (x_gcd (by omega) (by omega))]
  have hg := gcd_le (k := x1.toInt.natAbs) (show 0 < m by omega)
  by_cases h6 : Nat.gcd x1.toInt.natAbs m = 1
  · rw [if_pos (by rw [one_n (by omega)]; exact h6)]; try rw [if_pos (by rw [one_n (by omega)]; exact h6)]
    exact Or.inr ⟨m, hm1, hm, rfl, h1', h2', rfl, rfl⟩
  · rw [if_neg (by rw [one_n (by omega)]; exact h6)]; try rw [if_neg (by rw [one_n (by omega)]; exact h6)]
    exact Or.inl ⟨rfl, rfl⟩
theorem op_next (x1 x2 x3 : Int32) : ∃ a, FX7_next x1 x2 x3 = some (a, 0) ∧ FX6_next x1 x2 x3 = some a := by
  rw [FX7_next, FX6_next]
  rcases pair_ok x1 x2 with ⟨e1, e2⟩ | ⟨m, hm1, hm, rfl, h1, h2, e1, e2⟩
  · rw [ob_i e1, ob_i e2, if_pos bf0, if_pos bf0]; exact ⟨_, rfl, rfl⟩
  rw [ob_i e1, ob_i e2, if_neg bt0, if_neg bt0, show FX7_in x3.toInt64 (-1000) 1000 = some (decide ((-1000 : Int32) ≤ x3 ∧ x3 ≤ 1000)) from m_inI (a := -1000) (b := 1000)]
  by_cases h3 : x3 < -1000
  · rw [decide_eq_false (fun e => absurd h3 (Int32.not_lt.mpr e.1)), ob_i rfl, if_pos bf0, if_pos h3]; exact ⟨_, rfl, rfl⟩
  by_cases h4 : 1000 < x3
  · rw [decide_eq_false (fun e => absurd h4 (Int32.not_lt.mpr e.2)), ob_i rfl, if_pos bf0, if_neg h3, if_pos h4]; exact ⟨_, rfl, rfl⟩
  have h3' : (-1000 : Int) ≤ x3.toInt := iI_lt.mp h3
  have h4' : x3.toInt ≤ (1000 : Int) := iI_lt.mp h4
  obtain ⟨r, q1, q2, q3⟩ := x_image hm1 hm h1 h2 h3' h4'
  rw [decide_eq_true ⟨Int32.not_lt.mp h3, Int32.not_lt.mp h4⟩, ob_i rfl, if_neg bt0, if_neg h3, if_neg h4, ob_i (m_gcd (by omega) (by omega)), ob_i (x_gcd (by omega) (by omega)), ob_i q1, ob_i q2]
  have hg := gcd_le (k := x3.toInt.natAbs) (show 0 < m by omega)
  by_cases h6 : Nat.gcd x3.toInt.natAbs m = 1
  · rw [if_pos (by rw [one_n (by omega)]; exact h6)]; try rw [if_pos (by rw [one_n (by omega)]; exact h6)]
    exact ⟨_, rfl, rfl⟩
  · rw [if_neg (by rw [one_n (by omega)]; exact h6)]; try rw [if_neg (by rw [one_n (by omega)]; exact h6)]
    exact ⟨_, rfl, rfl⟩
