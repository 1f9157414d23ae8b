/-! inverses modulo a prime: by powers, by looking -/
/-- the primes at hand: Fermat's rule is what is needed of them -/
def PR (P : Nat) : Prop := 3 ≤ P ∧ P < 200 ∧ ∀ v, 0 < v → v < P → v ^ (P - 1) % P = 1
def iv (P v : Nat) : Nat := v ^ (P - 2) % P
theorem iv_lt {P v : Nat} (h : PR P) : iv P v < P := Nat.mod_lt _ (by have := h.1; omega)
theorem iv_mul {P v : Nat} (h : PR P) (h0 : 0 < v) (h1 : v < P) : v * iv P v % P = 1 := by
  have := h.1
  rw [iv, Nat.mul_mod, Nat.mod_mod, ← Nat.mul_mod, Nat.mul_comm, ← Nat.pow_succ, show (P - 2).succ = P - 1 by omega]
  exact h.2.2 v h0 h1
theorem iv_one {P v i : Nat} (h : PR P) (h0 : 0 < v) (h1 : v < P) (hi : i < P) (e : v * i % P = 1) : i = iv P v := by
  have e2 := iv_mul h h0 h1
  have l := iv_lt (v := v) h
  have e3 : i * (v * iv P v) % P = i := by rw [Nat.mul_mod, e2, Nat.mul_one, Nat.mod_mod, Nat.mod_eq_of_lt hi]
  have e4 : (v * i) * iv P v % P = iv P v := by rw [Nat.mul_mod, e, Nat.one_mul, Nat.mod_mod, Nat.mod_eq_of_lt l]
  exact e3.symm.trans ((congrArg (fun z => z % P) (by rw [← Nat.mul_assoc, Nat.mul_comm i v])).trans e4)
theorem iv_pos {P v : Nat} (h : PR P) (h0 : 0 < v) (h1 : v < P) : 0 < iv P v := by
  have := iv_mul h h0 h1
  rcases Nat.eq_zero_or_pos (iv P v) with e | e
  · rw [e, Nat.mul_zero, Nat.zero_mod] at this; omega
  · exact e
theorem mm {a b P : Nat} (hP : 1 < P) (hP2 : P < 200) (ha : a < P) (hb : b < P) : irm (nI a * nI b) (nI P) = nI (a * b % P) := by
  have : a * b ≤ 199 * 199 := Nat.mul_le_mul (by omega) (by omega)
  rw [pk_mul, irm_n (by omega) (by omega) (by omega)]
theorem m_inv {P v : Nat} (h : PR P) (h1 : v < P) : FX7_inverse (nI P) (nI v) = some (nI (iv P v)) := by
  have h3 := h.1
  have h4 := h.2.1
  have e2 : nI P - 2 = nI (P - 2) := sub_n (a := P) (b := 2) (by omega)
  obtain ⟨st, h5, e⟩ := cloop0 (σ := Int32) (P - 2) (by omega) (fun fuel i st => FX7_inverse_L4 (nI v) (nI P) fuel st i) (fun st => some st) (fun i st => st = nI (v ^ i % P)) 1 (by rw [Nat.pow_zero, Nat.mod_eq_of_lt (by omega)]; rfl) (fun fuel st h5 => by
    show FX7_inverse_L4 _ _ _ _ _ = _
    rw [FX7_inverse_L4, e2, if_pos (Int32.le_refl _)]) (fun fuel i st hi h5 => by
    subst h5
    refine ⟨_, rfl, ?_⟩
    show FX7_inverse_L4 _ _ _ _ _ = FX7_inverse_L4 _ _ _ _ _
    rw [FX7_inverse_L4, e2, if_neg (nI_ge hi (by omega)), gd_i (ne0_n (by omega) (by omega)), mm (by omega) h4 (Nat.mod_lt _ (by omega)) h1, bd, bd, nI_1, Nat.pow_succ]
    congr 2
    rw [Nat.mul_mod, Nat.mod_mod, ← Nat.mul_mod])
  rw [FX7_inverse]
  exact e.trans (by rw [h5]; rfl)
theorem x_inv {P v : Nat} (h : PR P) (h0 : 0 < v) (h1 : v < P) : FX6_inverse (nI v) (nI P) = some (nI (iv P v)) := by
  have h3 := h.1
  have h4 := h.2.1
  have hl := iv_lt (v := v) h
  have hp := iv_pos h h0 h1
  obtain ⟨st, h5, e⟩ := cloop1 (σ := Unit) 1 (iv P v) (by omega) (by omega) (fun fuel i st => FX6_inverse_L2 (nI v) (nI P) fuel i) (fun st => some (nI (iv P v))) (fun i st => True) () trivial (fun fuel st h5 => by
    show FX6_inverse_L2 _ _ _ _ = _
    rw [FX6_inverse_L2, if_neg (nI_ge hl (by omega)), gd_i (ne0_n (by omega) (by omega)), mm (by omega) h4 h1 hl, iv_mul h h0 h1, if_pos (show nI 1 = 1 from rfl)]) (fun fuel i st hi h5 => by
    refine ⟨(), trivial, ?_⟩
    show FX6_inverse_L2 _ _ _ _ = FX6_inverse_L2 _ _ _ _
    have hne : ¬ v * i % P = 1 := fun e => by
      have := iv_one h h0 h1 (by omega) e
      omega
    have hm := Nat.mod_lt (v * i) (show 0 < P by omega)
    rw [FX6_inverse_L2, if_neg (nI_ge (by omega) (by omega)), gd_i (ne0_n (by omega) (by omega)), mm (by omega) h4 h1 (by omega), if_neg (show ¬ nI (v * i % P) = 1 from nI_ne (b := 1) (by omega) (by omega) hne), bd, nI_1])
  rw [FX6_inverse]
  exact e
/-- the primes from 3 to 199 -/
def isP (P : Nat) : Bool := (List.range P).all (fun k => k < 2 || P % k != 0)
theorem PR_all : (List.range 200).all (fun P => P < 3 || !(isP P) || (List.range P).all (fun v => v == 0 || v ^ (P - 1) % P == 1)) = true := by decide +kernel
theorem PR_of {P : Nat} (h3 : 3 ≤ P) (h : P < 200) (hp : ∀ k, 2 ≤ k → k < P → P % k ≠ 0) : PR P := by
  refine ⟨h3, h, fun v hv0 hv => ?_⟩
  have h1 := List.all_eq_true.mp PR_all P (List.mem_range.mpr h)
  have h2 : isP P = true := List.all_eq_true.mpr (fun k hk => by
    by_cases h4 : k < 2
    · simp [h4]
    · have := hp k (by omega) (List.mem_range.mp hk)
      simp [this])
  rw [h2] at h1
  simp only [Bool.not_true, Bool.or_false, Bool.or_eq_true, decide_eq_true_eq] at h1
  rcases h1 with h1 | h1
  · omega
  · have h5 := List.all_eq_true.mp h1 v (List.mem_range.mpr hv)
    simp only [Bool.or_eq_true, beq_iff_eq] at h5
    omega
