/-! values and slopes: model and class -/
def pI : Nat → Int32
  | 0 => -1
  | k + 1 => nI k
theorem pI_0 : pI 0 < 0 := by decide
theorem pI_dec (k : Nat) : nI k + (-1) = pI k := by
  cases k with
  | zero => rfl
  | succ k => exact pk_m1 k
def CR (num : Nat → Int32) (base : Nat) (c : Nat → Nat) : Prop := ∀ k, k < 5 → num (base + k) = nI (c k)
/-- the numbers of a MAP of degree d -/
def PolyC (P : Nat) (c : Nat → Nat) (d : Nat) : Prop := d ≤ 4 ∧ (∀ k, k < 5 → c k < P) ∧ (∀ k, d < k → k < 5 → c k = 0) ∧ (0 < d → c d ≠ 0)
theorem i5 (a k : Nat) : (5 * nI a + nI k : Int32) = nI (5 * a + k) := by rw [show (5 : Int32) = nI 5 from rfl, pk_mul, nI_add]
theorem mulmod {P v x w : Nat} (hP : 0 < P) (hP2 : P < 200) (hv : v < P) (hx : x < P) (hw : w < 1000) : irm (nI v * nI x + nI w) (nI P) = nI ((v * x + w) % P) := by
  rw [pk_mul, nI_add]
  have : v * x ≤ 199 * 199 := Nat.mul_le_mul (by omega) (by omega)
  exact irm_n (by omega) hP (by omega)
theorem m_value_L {P a x : Nat} {num : Nat → Int32} {c : Nat → Nat} (hP : 0 < P) (hP2 : P < 200) (ha : a < 10) (hx : x < P) (hc : CR num (5 * a) c) (hcP : ∀ k, k < 5 → c k < P) : ∀ k fuel v, k ≤ 5 → k < fuel → v < P → FX7_valueOf_L10 (nI a) (nI x) (nI P) num fuel (nI v) (pI k) = some (nI (hor P c x k v))
  | 0, fuel, v, _, hf, _ => by
    obtain ⟨f, rfl⟩ : ∃ f, fuel = f + 1 := ⟨fuel - 1, by omega⟩
    rw [FX7_valueOf_L10, if_pos pI_0]; rfl
  | k + 1, fuel, v, hk, hf, hv => by
    obtain ⟨f, rfl⟩ : ∃ f, fuel = f + 1 := ⟨fuel - 1, by omega⟩
    have hck := hcP k (by omega)
    rw [FX7_valueOf_L10, show pI (k + 1) = nI k from rfl, if_neg (nI_pos (by omega)), i5, gi_i (in_n (by omega) (by omega)), gd_i (ne0_n hP (by omega)), cl_n (by omega), hc k (by omega), mulmod hP hP2 hv hx (by omega), bd, bd, pI_dec]
    exact m_value_L hP hP2 ha hx hc hcP k f _ (by omega) (by omega) (Nat.mod_lt _ hP)
theorem m_value {P a x d : Nat} {deg num : Nat → Int32} {c : Nat → Nat} (hP : 0 < P) (hP2 : P < 200) (ha : a < 10) (hx : x < P) (hd : deg a = nI d) (hc : CR num (5 * a) c) (hp : PolyC P c d) : FX7_valueOf (nI P) deg num (nI a) (nI x) = some (nI (valP P c d x)) := by
  have h4 := hp.1
  rw [FX7_valueOf, gi_i (in_n ha (by omega)), cl_n (by omega), hd, bd]
  exact m_value_L hP hP2 ha hx hc hp.2.1 (d + 1) FU 0 (by omega) (FU_big (by omega)) hP
theorem m_slope_L {P a x : Nat} {num : Nat → Int32} {c : Nat → Nat} (hP : 0 < P) (hP2 : P < 200) (ha : a < 10) (hx : x < P) (hc : CR num (5 * a) c) (hcP : ∀ k, k < 5 → c k < P) : ∀ k fuel v, k ≤ 4 → k < fuel → v < P → FX7_slopeOf_L10 (nI a) (nI x) (nI P) num fuel (nI v) (nI k) = some (nI (slo P c x k v))
  | 0, fuel, v, _, hf, _ => by
    obtain ⟨f, rfl⟩ : ∃ f, fuel = f + 1 := ⟨fuel - 1, by omega⟩
    rw [FX7_slopeOf_L10, if_pos (by decide)]; rfl
  | k + 1, fuel, v, hk, hf, hv => by
    obtain ⟨f, rfl⟩ : ∃ f, fuel = f + 1 := ⟨fuel - 1, by omega⟩
    have hck := hcP (k + 1) (by omega)
    have h2 : (k + 1) * c (k + 1) < 1000 := Nat.lt_of_le_of_lt (Nat.mul_le_mul (show k + 1 ≤ 4 by omega) (show c (k + 1) ≤ 199 by omega)) (by omega)
    rw [FX7_slopeOf_L10, if_neg (nI_nle (by omega) (by omega)), i5, gi_i (in_n (by omega) (by omega)), gd_i (ne0_n hP (by omega)), cl_n (by omega), hc (k + 1) (by omega), pk_mul (k + 1), mulmod hP hP2 hv hx h2, bd, bd, pk_m1]
    exact m_slope_L hP hP2 ha hx hc hcP k f _ (by omega) (by omega) (Nat.mod_lt _ hP)
theorem m_slope {P a x d : Nat} {deg num : Nat → Int32} {c : Nat → Nat} (hP : 0 < P) (hP2 : P < 200) (ha : a < 10) (hx : x < P) (hd : deg a = nI d) (hc : CR num (5 * a) c) (hp : PolyC P c d) : FX7_slopeOf (nI P) deg num (nI a) (nI x) = some (nI (sloP P c d x)) := by
  have h4 := hp.1
  rw [FX7_slopeOf, gi_i (in_n ha (by omega)), cl_n (by omega), hd, bd]
  exact m_slope_L hP hP2 ha hx hc hp.2.1 d FU 0 (by omega) (FU_big (by omega)) hP
theorem x_value_L {P x : Nat} {pc : Nat → Int32} {c : Nat → Nat} (hP : 0 < P) (hP2 : P < 200) (hx : x < P) (hc : CR pc 0 c) (hcP : ∀ k, k < 5 → c k < P) : ∀ k fuel v, k ≤ 5 → k < fuel → v < P → FX2_valueAt_L7 (nI x) 5 (nI P) pc fuel (nI v) (pI k) = some (nI (hor P c x k v))
  | 0, fuel, v, _, hf, _ => by
    obtain ⟨f, rfl⟩ : ∃ f, fuel = f + 1 := ⟨fuel - 1, by omega⟩
    rw [FX2_valueAt_L7, if_pos pI_0]; rfl
  | k + 1, fuel, v, hk, hf, hv => by
    obtain ⟨f, rfl⟩ : ∃ f, fuel = f + 1 := ⟨fuel - 1, by omega⟩
    have hck := hcP k (by omega)
    have hc' := hc k (by omega)
    rw [Nat.zero_add] at hc'
    rw [FX2_valueAt_L7, show pI (k + 1) = nI k from rfl, if_neg (nI_pos (by omega)), gi_i (in_n (by omega) (by omega)), gd_i (ne0_n hP (by omega)), cl_n (by omega), hc', mulmod hP hP2 hv hx (by omega), bd, bd, pI_dec]
    exact x_value_L hP hP2 hx hc hcP k f _ (by omega) (by omega) (Nat.mod_lt _ hP)
theorem x_value {P x d : Nat} {pc : Nat → Int32} {c : Nat → Nat} (hP : 0 < P) (hP2 : P < 200) (hx : x < P) (hc : CR pc 0 c) (hp : PolyC P c d) : FX2_valueAt 5 (nI P) (nI d) pc (nI x) = some (nI (valP P c d x)) := by
  have h4 := hp.1
  rw [FX2_valueAt]
  exact x_value_L hP hP2 hx hc hp.2.1 (d + 1) FU 0 (by omega) (FU_big (by omega)) hP
theorem x_slope_L {P x : Nat} {pc : Nat → Int32} {c : Nat → Nat} (hP : 0 < P) (hP2 : P < 200) (hx : x < P) (hc : CR pc 0 c) (hcP : ∀ k, k < 5 → c k < P) : ∀ k fuel v, k ≤ 4 → k < fuel → v < P → FX2_slopeAt_L7 (nI x) 5 (nI P) pc fuel (nI v) (nI k) = some (nI (slo P c x k v))
  | 0, fuel, v, _, hf, _ => by
    obtain ⟨f, rfl⟩ : ∃ f, fuel = f + 1 := ⟨fuel - 1, by omega⟩
    rw [FX2_slopeAt_L7, if_pos (by decide)]; rfl
  | k + 1, fuel, v, hk, hf, hv => by
    obtain ⟨f, rfl⟩ : ∃ f, fuel = f + 1 := ⟨fuel - 1, by omega⟩
    have hck := hcP (k + 1) (by omega)
    have hc' := hc (k + 1) (by omega)
    rw [Nat.zero_add] at hc'
    have h2 : (k + 1) * c (k + 1) < 1000 := Nat.lt_of_le_of_lt (Nat.mul_le_mul (show k + 1 ≤ 4 by omega) (show c (k + 1) ≤ 199 by omega)) (by omega)
    have h1 : ¬ nI (k + 1) < 1 := by rw [show (1 : Int32) = nI 1 from rfl, lt_n (by omega) (by omega)]; omega
    rw [FX2_slopeAt_L7, if_neg h1, gi_i (in_n (by omega) (by omega)), gd_i (ne0_n hP (by omega)), cl_n (by omega), hc', pk_mul (k + 1), mulmod hP hP2 hv hx h2, bd, bd, pk_m1]
    exact x_slope_L hP hP2 hx hc hcP k f _ (by omega) (by omega) (Nat.mod_lt _ hP)
theorem x_slope {P x d : Nat} {pc : Nat → Int32} {c : Nat → Nat} (hP : 0 < P) (hP2 : P < 200) (hx : x < P) (hc : CR pc 0 c) (hp : PolyC P c d) : FX2_slopeAt 5 (nI P) (nI d) pc (nI x) = some (nI (sloP P c d x)) := by
  have h4 := hp.1
  rw [FX2_slopeAt]
  exact x_slope_L hP hP2 hx hc hp.2.1 d FU 0 (by omega) (FU_big (by omega)) hP
