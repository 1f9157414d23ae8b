/-! a row becomes a MAP: lay, put -/
def dgr (c : Nat → Nat) : Nat → Nat
  | 0 => 0
  | k + 1 => if c (k + 1) = 0 then dgr c k else k + 1
theorem dgr_le (c : Nat → Nat) : ∀ k, dgr c k ≤ k
  | 0 => Nat.le_refl _
  | k + 1 => by
    rw [dgr]
    have := dgr_le c k
    split <;> omega
theorem dgr_hi (c : Nat → Nat) : ∀ k j, dgr c k < j → j ≤ k → c j = 0
  | 0, j, h1, h2 => by omega
  | k + 1, j, h1, h2 => by
    rw [dgr] at h1
    by_cases h : c (k + 1) = 0
    · rw [if_pos h] at h1
      by_cases h3 : j = k + 1
      · subst h3; exact h
      · exact dgr_hi c k j h1 (by omega)
    · rw [if_neg h] at h1; omega
theorem dgr_ne (c : Nat → Nat) : ∀ k, 0 < dgr c k → c (dgr c k) ≠ 0
  | 0, h => by have : dgr c 0 = 0 := rfl; omega
  | k + 1, h => by
    rw [dgr] at h ⊢
    by_cases h1 : c (k + 1) = 0
    · rw [if_pos h1] at h ⊢; exact dgr_ne c k h
    · rw [if_neg h1]; exact h1
theorem poly_of {P : Nat} {c : Nat → Nat} (h : ∀ k, k < 5 → c k < P) : PolyC P c (dgr c 4) := ⟨dgr_le c 4, h, fun k h1 h2 => dgr_hi c 4 k h1 (by omega), dgr_ne c 4⟩
theorem m_lay {P a : Nat} {c : Nat → Nat} {deg num mad : Nat → Int32} (hP2 : P < 200) (ha : a < 10) (hc : ∀ k, k < 5 → c k < P) (hm : ∀ k, k < 5 → mad k = nI (c k)) : ∃ deg' num', FX7_lay deg num mad (nI a) = some (nI (kd c (dgr c 4)), 0, deg', num') ∧ deg' a = nI (dgr c 4) ∧ (∀ j, j ≠ a → deg' j = deg j) ∧ CR num' (5 * a) c ∧ ∀ j, (j < 5 * a ∨ 5 * a + 5 ≤ j) → num' j = num j := by
  obtain ⟨⟨d1, n1⟩, h1, e1⟩ := cloop0 (σ := (Nat → Int32) × (Nat → Int32)) 5 (by omega) (fun fuel i st => FX7_lay_L14 (nI a) 0 mad fuel i st.1 st.2) (fun st => (ob (FX7_kindOf st.1 st.2 (nI a)) (fun u_68 => some (u_68, 0, st.1, st.2)))) (fun i st => st.1 a = nI (dgr c (i - 1)) ∧ (∀ j, j ≠ a → st.1 j = deg j) ∧ (∀ k, k < i → st.2 (5 * a + k) = nI (c k)) ∧ ∀ j, (j < 5 * a ∨ 5 * a + 5 ≤ j) → st.2 j = num j) (upd deg a 0, num) ⟨upd_s, fun j hj => upd_n hj, fun k hk => by omega, fun j _ => rfl⟩ (fun fuel st h1 => by
    show FX7_lay_L14 _ _ _ _ _ _ _ = _
    rw [FX7_lay_L14, if_pos (by decide)]) (fun fuel i st hi h1 => by
    obtain ⟨h1, h2, h3, h4⟩ := h1
    have hci := hc i hi
    have hnum : ∀ k, k < i + 1 → upd st.2 (5 * a + i) (nI (c i)) (5 * a + k) = nI (c k) := fun k hk => by
      by_cases h : k = i
      · subst h; exact upd_s
      · rw [upd_n (by omega)]; exact h3 k (by omega)
    have hout : ∀ j, (j < 5 * a ∨ 5 * a + 5 ≤ j) → upd st.2 (5 * a + i) (nI (c i)) j = num j := fun j hj => by
      rw [upd_n (by omega)]; exact h4 j hj
    have hd : dgr c (i + 1 - 1) = if c i = 0 then dgr c (i - 1) else i := by
      rw [Nat.add_sub_cancel]
      cases i with
      | zero => show 0 = _; split <;> rfl
      | succ k => rfl
    refine ⟨(upd st.1 a (nI (dgr c (i + 1 - 1))), upd st.2 (5 * a + i) (nI (c i))), ⟨upd_s, fun j hj => (upd_n hj).trans (h2 j hj), hnum, hout⟩, ?_⟩
    show FX7_lay_L14 _ _ _ _ _ _ _ = FX7_lay_L14 _ _ _ _ _ _ _
    rw [FX7_lay_L14, if_neg (show ¬ (5 : Int32) ≤ nI i from nI_ge (a := i) (b := 5) hi (by omega)), gi_i (in_n hi (by omega)), i5, gi_i (in_n (by omega) (by omega)), gi_i (in_n hi (by omega)), cl_n (n := i) (by omega), cl_n (n := 5 * a + i) (by omega), hm i hi, hd]
    by_cases h0 : c i = 0
    · rw [if_pos (by rw [h0]; rfl), if_pos h0, gi_i (in_n ha (by omega)), FX7_lay_J59, gi_i (in_n ha (by omega)), cl_n (n := a) (by omega), bd, nI_1, h1]
    · rw [if_neg (ne0_n (by omega) (by omega)), if_neg h0, FX7_lay_J59, gi_i (in_n ha (by omega)), cl_n (n := a) (by omega), bd, nI_1])
  dsimp only at h1 e1
  obtain ⟨h1, h2, h3, h4⟩ := h1
  refine ⟨d1, n1, ?_, h1, h2, h3, h4⟩
  rw [FX7_lay, gi_i (in_n ha (by omega)), cl_n (n := a) (by omega), e1, ob_i (m_kind hP2 ha h1 h3 (poly_of hc))]
theorem x_deg_L {P : Nat} {c : Nat → Nat} {f : Nat → Int32} (hP2 : P < 200) (hc : ∀ k, k < 5 → c k < P) (hf : ∀ k, k < 5 → f k = nI (c k)) : ∀ k fuel, k ≤ 4 → k < fuel → FX2_degreeOf_L5 5 f fuel (nI k) = some (nI (dgr c k))
  | 0, fuel, _, h => by
    obtain ⟨n, rfl⟩ : ∃ n, fuel = n + 1 := ⟨fuel - 1, by omega⟩
    rw [FX2_degreeOf_L5, if_pos (by decide)]; rfl
  | k + 1, fuel, hk, h => by
    obtain ⟨n, rfl⟩ : ∃ n, fuel = n + 1 := ⟨fuel - 1, by omega⟩
    have hck := hc (k + 1) (by omega)
    rw [FX2_degreeOf_L5, if_neg (nI_nle (by omega) (by omega)), gi_i (in_n (by omega) (by omega)), cl_n (n := k + 1) (by omega), hf (k + 1) (by omega), dgr]
    by_cases h0 : c (k + 1) = 0
    · rw [if_pos (by rw [h0]; rfl), if_pos h0, bd, show nI (k + 1) + -1 = nI k from by rw [← nI_pred k]; exact (Int32.sub_eq_add_neg ..).symm]
      exact x_deg_L hP2 hc hf k n (by omega) (by omega)
    · rw [if_neg (ne0_n (by omega) (by omega)), if_neg h0]
theorem x_told {P d : Nat} {c : Nat → Nat} {f : Nat → Int32} (hP2 : P < 200) (hd : d ≤ 4) (hc : ∀ k, k < 5 → c k < P) (hf : ∀ k, k < 5 → f k = nI (c k)) : FX2_toldOf 5 f (nI d) = some (nI (kd c d)) := by
  have h1 := hc 1 (by omega)
  have h2 := hc 2 (by omega)
  have hd5 : d = 0 ∨ d = 1 ∨ d = 2 ∨ d = 3 ∨ d = 4 := by omega
  rw [FX2_toldOf, kd]
  rcases hd5 with rfl | rfl | rfl | rfl | rfl
  · rfl
  · rfl
  · rw [if_neg (by decide), if_neg (by decide), if_pos (by decide), if_pos rfl, gi_i (show vp_in 2 5 from in_n (i := 2) (n := 5) (by omega) (by omega)), show f (Int32.toNatClampNeg 2) = nI (c 2) from hf 2 (by omega)]
    by_cases e3 : c 2 = 1
    · rw [if_pos (show nI (c 2) = 1 by rw [e3]; rfl), if_pos e3, gi_i (show vp_in 1 5 from in_n (i := 1) (n := 5) (by omega) (by omega)), show f (Int32.toNatClampNeg 1) = nI (c 1) from hf 1 (by omega)]
      by_cases e4 : c 1 = 0
      · rw [if_pos (show nI (c 1) = 0 by rw [e4]; rfl), if_pos e4]; rfl
      · rw [if_neg (ne0_n (by omega) (by omega)), if_neg e4]; rfl
    · rw [if_neg (show ¬ nI (c 2) = 1 from nI_ne (b := 1) (by omega) (by omega) e3), if_neg e3]; rfl
  · rfl
  · rfl
theorem x_put {P a : Nat} {c : Nat → Nat} {f : Nat → Int32} (hP2 : P < 200) (ha : a < 10) (hc : ∀ k, k < 5 → c k < P) (hf : ∀ k, k < 5 → f k = nI (c k)) : FX6_put (nI P) 5 f (nI a) = some (nI (kd c (dgr c 4)), 0, nI P, nI (dgr c 4), nI (kd c (dgr c 4))) := by
  have e : FX2_degreeOf 5 f = some (nI (dgr c 4)) := by
    rw [FX2_degreeOf, bd]
    exact x_deg_L hP2 hc hf 4 FU (by omega) (FU_big (by omega))
  rw [FX6_put, FX2_init, ob_i e, ob_i (x_told hP2 (dgr_le c 4) hc hf), ob_i rfl, gi_i (in_n ha (by omega)), fin6, ob_i rfl]
