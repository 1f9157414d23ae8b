/-! the start: the prime, what the constructors make -/
theorem dv_table : (List.range 200).all (fun n => (List.range 16).all (fun i => decide (n < 3) || (decide (i * i ≤ n) || (! ((List.range i).all (fun k => decide (k < 2) || n % k != 0)) || isP n)))) = true := by decide +kernel
theorem dv_of {n i : Nat} (h3 : 3 ≤ n) (h : n < 200) (hi : i < 16) (h1 : n < i * i) (h2 : ∀ k, 2 ≤ k → k < i → n % k ≠ 0) : isP n = true := by
  have e1 := List.all_eq_true.mp dv_table n (List.mem_range.mpr h)
  have e2 := List.all_eq_true.mp e1 i (List.mem_range.mpr hi)
  have e3 : (List.range i).all (fun k => decide (k < 2) || n % k != 0) = true := List.all_eq_true.mpr (fun k hk => by
    by_cases h4 : k < 2
    · simp [h4]
    · have := h2 k (by omega) (List.mem_range.mp hk)
      simp [this])
  rw [e3] at e2
  simp only [Bool.not_true, Bool.false_or, Bool.or_eq_true, decide_eq_true_eq] at e2
  rcases e2 with e | e | e
  · omega
  · omega
  · exact e
theorem isP_t {n : Nat} (h : isP n = true) : ∀ k, 2 ≤ k → k < n → n % k ≠ 0 := fun k h1 h2 => by
  have := List.all_eq_true.mp h k (List.mem_range.mpr h2)
  simp only [Bool.or_eq_true, decide_eq_true_eq, bne_iff_ne] at this
  rcases this with e | e
  · omega
  · exact e
theorem isP_f {n k : Nat} (h1 : 2 ≤ k) (h2 : k < n) (h : n % k = 0) : isP n = false := by
  cases e : isP n with
  | false => rfl
  | true => exact absurd h (isP_t e k h1 h2)
theorem isP_of {n : Nat} (h : ∀ k, 2 ≤ k → k < n → n % k ≠ 0) : isP n = true := List.all_eq_true.mpr (fun k hk => by
  by_cases h4 : k < 2
  · simp [h4]
  · have := h k (by omega) (List.mem_range.mp hk)
    simp [this])
theorem x_primeL {n : Nat} (h3 : 3 ≤ n) (h : n < 200) : ∀ k fuel i, i + k = 15 → 2 ≤ i → k < fuel → (∀ j, 2 ≤ j → j < i → n % j ≠ 0) → FX6_isPrimeHere_L16 (nI n) fuel (nI i) = some (isP n)
  | 0, fuel, i, h1, h2, h4, h5 => by
    obtain ⟨f, rfl⟩ : ∃ f, fuel = f + 1 := ⟨fuel - 1, by omega⟩
    have : i = 15 := by omega
    subst this
    rw [FX6_isPrimeHere_L16, pk_mul, if_pos (by rw [lt_n (by omega) (by omega)]; omega), dv_of h3 h (by omega) (by omega) h5]
  | k + 1, fuel, i, h1, h2, h4, h5 => by
    obtain ⟨f, rfl⟩ : ∃ f, fuel = f + 1 := ⟨fuel - 1, by omega⟩
    have hii : i * i ≤ 15 * 15 := Nat.mul_le_mul (by omega) (by omega)
    rw [FX6_isPrimeHere_L16, pk_mul]
    by_cases h6 : n < i * i
    · rw [if_pos (by rw [lt_n (by omega) (by omega)]; exact h6), dv_of h3 h (by omega) h6 h5]
    · have hin : i < n := by
        have : i * 2 ≤ i * i := Nat.mul_le_mul_left _ h2
        omega
      have hm := Nat.mod_lt n (show 0 < i by omega)
      rw [if_neg (by rw [lt_n (by omega) (by omega)]; exact h6), gd_i (ne0_n (by omega) (by omega)), irm_n (by omega) (by omega) (by omega)]
      by_cases h7 : n % i = 0
      · rw [if_pos (by rw [h7]; rfl), isP_f h2 hin h7]
      · rw [if_neg (ne0_n (by omega) (by omega)), bd, nI_1]
        exact x_primeL h3 h k f (i + 1) (by omega) (by omega) (by omega) (fun j h8 h9 => by
          by_cases h10 : j = i
          · subst h10; exact h7
          · exact h5 j h8 (by omega))
theorem m_primeL {n : Nat} (h3 : 3 ≤ n) (h : n < 200) : ∀ k fuel i, i + k = n → 2 ≤ i → k + 1 < fuel → (∀ j, 2 ≤ j → j < i → n % j ≠ 0) → FX7_isPrime_L13 (nI n) fuel true (nI i) = some (isP n)
  | 0, fuel, i, h1, h2, h4, h5 => by
    obtain ⟨f, rfl⟩ : ∃ f, fuel = f + 1 := ⟨fuel - 1, by omega⟩
    have : i = n := by omega
    subst this
    rw [FX7_isPrime_L13, if_pos (Int32.le_refl _), isP_of h5]
  | k + 1, fuel, i, h1, h2, h4, h5 => by
    obtain ⟨f, rfl⟩ : ∃ f, fuel = f + 1 := ⟨fuel - 1, by omega⟩
    have hm := Nat.mod_lt n (show 0 < i by omega)
    rw [FX7_isPrime_L13, if_neg (nI_ge (by omega) (by omega)), if_neg bt0, gd_i (ne0_n (by omega) (by omega)), irm_n (by omega) (by omega) (by omega)]
    by_cases h7 : n % i = 0
    · obtain ⟨f2, rfl⟩ : ∃ f2, f = f2 + 1 := ⟨f - 1, by omega⟩
      rw [if_pos (by rw [h7]; rfl), FX7_isPrime_J33, bd, FX7_isPrime_L13, isP_f h2 (by omega) h7]
      split
      · rfl
      · rw [if_pos bf0]
    · rw [if_neg (ne0_n (by omega) (by omega)), FX7_isPrime_J33, bd, nI_1]
      exact m_primeL h3 h k f (i + 1) (by omega) (by omega) (by omega) (fun j h8 h9 => by
        by_cases h10 : j = i
        · subst h10; exact h7
        · exact h5 j h8 (by omega))
def o6 (P : Nat) : (Int32) × (Int32) × (Int32) × (Nat → Option Nat) × (Nat → Option Nat) × (Nat → Int32) × (Int32) × (Int32) × (Int32) × (Nat → Int32) × (Nat → Int32) × (Nat → Int32) × (Nat → Int32) × (Nat → Int32) × (Nat → Int32) × (Nat → Int32) × (Nat → Int32) × (Nat → Int32) × (Nat → Int32) × (Nat → Int32) × (Nat → Int32) × (Nat → Int32) × (Int32) × (Int32) × (Int32) × (Nat → Int32) × (Nat → Int32) × (Nat → Int32) × (Nat → Int32) × (Nat → Int32) × (Nat → Int32) × (Nat → Int32) × (Nat → Int32) × (Nat → Int32) × (Nat → Int32) × (Nat → Int32) × (Nat → Int32) × (Nat → Int32) × (Int32) × (Int32) × (Nat → Int32) × (Nat → Int32) × (Nat → Int32) × (Nat → Int32) × (Nat → Int32) × (Nat → Int32) × (Nat → Int32) × (Nat → Int32) × (Nat → Int32) × (Nat → Int32) × (Nat → Int32) × (Nat → Int32) × (Nat → Int32) × (Nat → Int32) × (Nat → Int32) × (Nat → Int32) × (Int32) × (Int32) × (Int32) × (Int32) × (Nat → Int32) × (Nat → Int32) × (Nat → Int32) × (Nat → Int32) × (Nat → Int32) × (Nat → Int32) := (nI P, 0, 0, (fun _ => none), (fun _ => none), (fun _ => 0), nI P, 0, nI P, (fun _ => 0), (fun _ => 0), (fun _ => 0), (fun _ => 0), (fun _ => 0), (fun _ => 0), (fun _ => 0), (fun _ => 0), (fun _ => 0), (fun _ => 0), (fun _ => 0), (fun _ => 0), (fun _ => 0), nI P, 0, nI P, (fun _ => 0), (fun _ => 0), (fun _ => 0), (fun _ => 0), (fun _ => 0), (fun _ => 0), (fun _ => 0), (fun _ => 0), (fun _ => 0), (fun _ => 0), (fun _ => 0), (fun _ => 0), (fun _ => 0), nI P, 0, (upd (fun _ => 0) (Int32.toNatClampNeg 1) 1), (fun _ => 0), (fun _ => 0), (fun _ => 0), (fun _ => 0), (fun _ => 0), (fun _ => 0), (upd (fun _ => 0) (Int32.toNatClampNeg 0) 1), (fun _ => 0), (fun _ => 0), (fun _ => 0), (fun _ => 0), (fun _ => 0), (fun _ => 0), (fun _ => 0), (fun _ => 0), 0, 0, 0, 233, (fun _ => 0), (fun _ => 0), (fun _ => 0), (fun _ => 0), (fun _ => 0), (fun _ => 0))
def o7 (P : Nat) : (Int32) × (Int32) × (Int32) × (Int32) × (Int32) × (Int32) × (Nat → Int32) × (Nat → Int32) × (Nat → Int64) × (Nat → Int32) × (Nat → Int32) × (Nat → Int32) × (Nat → Int32) × (Nat → Int32) × (Nat → Int32) × (Nat → Int32) × (Nat → Int32) × (Nat → Int32) × (Nat → Int32) × (Nat → Int32) × (Nat → Int32) × (Nat → Int32) × (Nat → Int32) × (Nat → Int32) × (Nat → Int32) × (Nat → Int32) × (Nat → Int32) × (Nat → Int32) := (0, 0, nI P, 0, 0, 0, (upd (upd (upd (upd (upd (upd (upd (upd (fun _ => 0) (Int32.toNatClampNeg 0) (-1)) (Int32.toNatClampNeg 1) (-1)) (Int32.toNatClampNeg 2) (-1)) (Int32.toNatClampNeg 3) (-1)) (Int32.toNatClampNeg 4) (-1)) (Int32.toNatClampNeg 5) (-1)) (Int32.toNatClampNeg 6) (-1)) (Int32.toNatClampNeg 7) (-1)), (fun _ => 0), (fun _ => 0), (upd (upd (upd (upd (upd (upd (upd (upd (upd (upd (fun _ => 0) (Int32.toNatClampNeg 0) (-1)) (Int32.toNatClampNeg 1) (-1)) (Int32.toNatClampNeg 2) (-1)) (Int32.toNatClampNeg 3) (-1)) (Int32.toNatClampNeg 4) (-1)) (Int32.toNatClampNeg 5) (-1)) (Int32.toNatClampNeg 6) (-1)) (Int32.toNatClampNeg 7) (-1)) (Int32.toNatClampNeg 8) (-1)) (Int32.toNatClampNeg 9) (-1)), (fun _ => 0), (fun _ => 0), (fun _ => 0), (fun _ => 0), (fun _ => 0), (fun _ => 0), (fun _ => 0), (fun _ => 0), (fun _ => 0), (fun _ => 0), (fun _ => 0), (fun _ => 0), (fun _ => 0), (fun _ => 0), (fun _ => 0), (fun _ => 0), (fun _ => 0), (fun _ => 0))
theorem x_three {P : Nat} (hP2 : P < 200) : FX3_init (nI P) = some (nI P, 0, nI P, (fun _ => 0), (fun _ => 0), (fun _ => 0), (fun _ => 0), (fun _ => 0), (fun _ => 0), (fun _ => 0), (fun _ => 0), (fun _ => 0), (fun _ => 0), (fun _ => 0), (fun _ => 0), (fun _ => 0)) := by
  have h1 : ¬ (nI P : Int32) < 0 ∧ (Int32.toNatClampNeg (nI P)) ≤ 240 := ⟨nI_pos (by omega), by rw [cl_n (by omega)]; omega⟩
  have h2 : ¬ (nI P + 1 : Int32) < 0 ∧ (Int32.toNatClampNeg (nI P + 1)) ≤ 240 := by rw [nI_1]; exact ⟨nI_pos (by omega), by rw [cl_n (by omega)]; omega⟩
  rw [FX3_init, FX1_init]
  simp only [gd_i h1, gd_i h2]
  rfl
theorem x_start18 {P : Nat} (hP2 : P < 200) : FX6_init_J18 (nI P) = some (o6 P) := by
  have e0 : FX0_init = some (0, 0, 0, 233, (fun _ => 0), (fun _ => 0), (fun _ => 0), (fun _ => 0), (fun _ => 0), (fun _ => 0)) := by
    rw [FX0_init, FX1_init]
    simp only [gd_i (show ¬ (233 : Int32) < 0 ∧ (Int32.toNatClampNeg 233) ≤ 240 by decide)]
    rfl
  have e4 : FX4_init (nI P) = some (nI P, 0, (upd (fun _ => 0) (Int32.toNatClampNeg 1) 1), (fun _ => 0), (fun _ => 0), (fun _ => 0), (fun _ => 0), (fun _ => 0), (fun _ => 0), (upd (fun _ => 0) (Int32.toNatClampNeg 0) 1), (fun _ => 0), (fun _ => 0), (fun _ => 0), (fun _ => 0), (fun _ => 0), (fun _ => 0), (fun _ => 0), (fun _ => 0)) := by
    rw [FX4_init, gi_i (show vp_in 0 7 from in_n (i := 0) (by omega) (by omega)), gi_i (show vp_in 1 65 from in_n (i := 1) (by omega) (by omega)), gi_i (show vp_in 0 7 from in_n (i := 0) (by omega) (by omega))]
  rw [FX6_init_J18, ob_i (x_three hP2), ob_i (x_three hP2), ob_i e4, ob_i e0]
  rfl
theorem start_ok (x1 : Int32) : ∃ P, PR P ∧ FX6_init x1 = some (o6 P) ∧ FX7_init x1 = some (o7 P) := by
  have g8 : ∀ {α : Type} (i : Nat) (z : Option α), i < 8 → gi (nI i) 8 z = z := fun i z hi => gi_i (in_n hi (by omega))
  have g10 : ∀ {α : Type} (i : Nat) (z : Option α), i < 10 → gi (nI i) 10 z = z := fun i z hi => gi_i (in_n hi (by omega))
  have h101 : PR 101 := PR_of (by omega) (by omega) (isP_t (by decide +kernel))
  have p0 : ∀ {α : Type} (z : Option α), gi 0 8 z = z := fun z => g8 0 z (by omega)
  have p1 : ∀ {α : Type} (z : Option α), gi 1 8 z = z := fun z => g8 1 z (by omega)
  have p2 : ∀ {α : Type} (z : Option α), gi 2 8 z = z := fun z => g8 2 z (by omega)
  have p3 : ∀ {α : Type} (z : Option α), gi 3 8 z = z := fun z => g8 3 z (by omega)
  have p4 : ∀ {α : Type} (z : Option α), gi 4 8 z = z := fun z => g8 4 z (by omega)
  have p5 : ∀ {α : Type} (z : Option α), gi 5 8 z = z := fun z => g8 5 z (by omega)
  have p6 : ∀ {α : Type} (z : Option α), gi 6 8 z = z := fun z => g8 6 z (by omega)
  have p7 : ∀ {α : Type} (z : Option α), gi 7 8 z = z := fun z => g8 7 z (by omega)
  have r0 : ∀ {α : Type} (z : Option α), gi 0 10 z = z := fun z => g10 0 z (by omega)
  have r1 : ∀ {α : Type} (z : Option α), gi 1 10 z = z := fun z => g10 1 z (by omega)
  have r2 : ∀ {α : Type} (z : Option α), gi 2 10 z = z := fun z => g10 2 z (by omega)
  have r3 : ∀ {α : Type} (z : Option α), gi 3 10 z = z := fun z => g10 3 z (by omega)
  have r4 : ∀ {α : Type} (z : Option α), gi 4 10 z = z := fun z => g10 4 z (by omega)
  have r5 : ∀ {α : Type} (z : Option α), gi 5 10 z = z := fun z => g10 5 z (by omega)
  have r6 : ∀ {α : Type} (z : Option α), gi 6 10 z = z := fun z => g10 6 z (by omega)
  have r7 : ∀ {α : Type} (z : Option α), gi 7 10 z = z := fun z => g10 7 z (by omega)
  have r8 : ∀ {α : Type} (z : Option α), gi 8 10 z = z := fun z => g10 8 z (by omega)
  have r9 : ∀ {α : Type} (z : Option α), gi 9 10 z = z := fun z => g10 9 z (by omega)
  have hin : FX7_in (Int32.toInt64 x1) 3 199 = some (decide ((3 : Int32) ≤ x1 ∧ x1 ≤ 199)) := m_inI (a := 3) (b := 199)
  rw [FX6_init, FX7_init, FX6_isPrimeHere]
  simp only [p0, p1, p2, p3, p4, p5, p6, p7, r0, r1, r2, r3, r4, r5, r6, r7, r8, r9]
  rw [ob_i hin]
  have no : ∃ P, PR P ∧ some (o6 101) = some (o6 P) ∧ some (o7 101) = some (o7 P) := ⟨101, h101, rfl, rfl⟩
  by_cases h1 : x1 < 3
  · rw [decide_eq_false (fun e => absurd h1 (Int32.not_lt.mpr e.1)), if_pos h1, ob_i rfl, if_pos bf0, if_pos bf0, show (101 : Int32) = nI 101 from rfl, x_start18 (by omega)]
    exact no
  by_cases h2 : x1 ≤ 199
  · have h0 : ¬ x1 < 0 := fun e => h1 (Int32.lt_trans e (by decide))
    obtain ⟨n, hn, rfl⟩ := nI_of h0
    have h3 : 3 ≤ n := by
      rw [show (3 : Int32) = nI 3 from rfl, lt_n (by omega) (by omega)] at h1; omega
    have h4 : n < 200 := by
      rw [show (199 : Int32) = nI 199 from rfl, le_n (by omega) (by omega)] at h2; omega
    have e6 : FX6_isPrimeHere_L16 (nI n) FU 2 = some (isP n) := x_primeL h3 h4 13 FU 2 (by omega) (by omega) (FU_big (by omega)) (fun j h5 h6 => by omega)
    have e7 : FX7_isPrime (nI n) = some (isP n) := by
      rw [FX7_isPrime, if_neg (show ¬ nI n ≤ 1 by rw [show (1 : Int32) = nI 1 from rfl, le_n (by omega) (by omega)]; omega), FX7_isPrime_J10]
      exact m_primeL h3 h4 (n - 2) FU 2 (by omega) (by omega) (FU_big (by omega)) (fun j h5 h6 => by omega)
    rw [decide_eq_true ⟨Int32.not_lt.mp h1, h2⟩, if_neg h1, if_pos h2, ob_i e6, if_neg bt0, ob_i e7]
    cases hp : isP n with
    | false =>
      rw [if_pos bf0, if_pos bf0, show (101 : Int32) = nI 101 from rfl, x_start18 (by omega)]
      exact no
    | true =>
      rw [if_neg bt0, if_neg bt0, x_start18 h4]
      exact ⟨n, PR_of h3 h4 (isP_t hp), rfl, rfl⟩
  · rw [decide_eq_false (fun e => h2 e.2), if_neg h1, if_neg h2, ob_i rfl, if_pos bf0, if_pos bf0, show (101 : Int32) = nI 101 from rfl, x_start18 (by omega)]
    exact no
