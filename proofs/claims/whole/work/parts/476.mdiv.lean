/-! the model's division -/
def hdg (b : Nat → Nat) : Nat → Nat
  | 0 => 0
  | k + 1 => if b k = 0 then hdg b k else k
theorem hdg_e {b : Nat → Nat} {e : Nat} (h : 0 < b e) : ∀ n, (∀ j, e < j → j < e + 1 + n → b j = 0) → hdg b (e + 1 + n) = e
  | 0, _ => if_neg (by omega)
  | n + 1, h0 => by
    show (if b (e + 1 + n) = 0 then hdg b (e + 1 + n) else e + 1 + n) = e
    rw [if_pos (h0 _ (by omega) (by omega))]
    exact hdg_e h n (fun j h1 h2 => h0 j h1 (by omega))
theorem hdg_lt (b : Nat → Nat) : ∀ k, hdg b k ≤ k
  | 0 => Nat.le_refl _
  | k + 1 => by
    have := hdg_lt b k
    rw [hdg]; split <;> omega
theorem i65 (a b : Nat) : (65 * nI a + nI b : Int32) = nI (65 * a + b) := by rw [show (65 : Int32) = nI 65 from rfl, pk_mul, nI_add]
theorem m_degree {P t : Nat} {x : (Nat → Nat) × Nat} {rou : Nat → Int32} (hP2 : P < 200) (ht : t ≤ 6) (hx : RW P x) (hr : ∀ j, j < 65 → rou (65 * t + j) = nI (x.1 j)) : FX7_degreeOf rou (nI t) = some (nI x.2) := by
  obtain ⟨x1, x2, x3, x4⟩ := hx
  obtain ⟨st, h1, e1⟩ := cloop0 (σ := Int32) 65 (by omega) (fun fuel i st => FX7_degreeOf_L4 (nI t) rou fuel st i) (fun st => some st) (fun i st => st = nI (hdg x.1 i)) 0 rfl (fun fuel st h => by
    show FX7_degreeOf_L4 _ _ _ _ _ = _
    rw [FX7_degreeOf_L4, if_pos (by decide)]) (fun fuel i st hi h => by
    subst h
    have h2 := x2 i hi
    refine ⟨_, rfl, ?_⟩
    show FX7_degreeOf_L4 _ _ _ _ _ = FX7_degreeOf_L4 _ _ _ _ _
    rw [FX7_degreeOf_L4, if_neg (show ¬ (65 : Int32) ≤ nI i from nI_ge (a := i) (b := 65) hi (by omega)), i65, gi_i (in_n (by omega) (by omega)), cl_n (n := 65 * t + i) (by omega), hr i hi, hdg]
    by_cases h0 : x.1 i = 0
    · rw [if_pos (by rw [h0]; rfl), if_pos h0, FX7_degreeOf_J29, bd, nI_1]
    · rw [if_neg (ne0_n (by omega) (by omega)), if_neg h0, FX7_degreeOf_J29, bd, nI_1])
  have e2 : hdg x.1 65 = x.2 := by
    have := hdg_e x4 (64 - x.2) (fun j h5 h6 => x3 j h5 (by omega))
    rw [show x.2 + 1 + (64 - x.2) = 65 by omega] at this
    exact this
  rw [FX7_degreeOf]
  exact e1.trans (by rw [h1, e2])
theorem m_div87 {P t e s w : Nat} {b r : Nat → Nat} {x3 : Int32} {res quo_ rou : Nat → Int32} {k52 : Int32 → (Nat → Int32) → (Nat → Int32) → Option ((Nat → Int32) × (Nat → Int32))} (hP : 1 < P) (hP2 : P < 200) (ht : t ≤ 6) (hes : e + s < 65) (hw : w < P) (hb : ∀ j, j < 65 → b j < P) (hr : ∀ j, j < 65 → rou (65 * t + j) = nI (b j)) (hrP : ∀ j, j < 65 → r j < P) (hres : ∀ j, j < e + s + 1 → res j = nI (r j)) : ∃ res', FX7_divide_L87 k52 (nI t) (nI e) x3 (nI s) (nI w) (nI P) quo_ rou FU 0 res = k52 (pI s) res' quo_ ∧ ∀ j, j < e + s → res' j = nI (if s ≤ j then (r j + (P - w) * b (j - s)) % P else r j) := by
  obtain ⟨st, h1, e1⟩ := cloop0 (σ := Nat → Int32) (e + 1) (by omega) (fun fuel i st => FX7_divide_L87 k52 (nI t) (nI e) x3 (nI s) (nI w) (nI P) quo_ rou fuel i st) (fun st => k52 (pI s) st quo_) (fun i st => ∀ j, j < e + s + 1 → st j = nI (if s ≤ j ∧ j < s + i then (r j + (P - w) * b (j - s)) % P else r j)) res (fun j hj => by rw [hres j hj, if_neg (by omega)]) (fun fuel st h => by
    show FX7_divide_L87 _ _ _ _ _ _ _ _ _ _ _ _ = _
    rw [FX7_divide_L87, if_pos (by rw [lt_n (by omega) (by omega)]; omega), bd, pI_dec]) (fun fuel i st hi h => by
    have hbi := hb i (by omega)
    have hri := hrP (s + i) (by omega)
    have h2 : (P - w) * b i ≤ 199 * 199 := Nat.mul_le_mul (by omega) (by omega)
    refine ⟨upd st (s + i) (nI ((r (s + i) + (P - w) * b i) % P)), fun j hj => ?_, ?_⟩
    · by_cases h3 : j = s + i
      · subst h3
        rw [upd_s, if_pos (by omega), show s + i - s = i by omega]
      · rw [upd_n h3, h j hj]
        by_cases h4 : s ≤ j ∧ j < s + i
        · rw [if_pos h4, if_pos (by omega)]
        · rw [if_neg h4, if_neg (by omega)]
    · show FX7_divide_L87 _ _ _ _ _ _ _ _ _ _ _ _ = FX7_divide_L87 _ _ _ _ _ _ _ _ _ _ _ _
      have g1 : ∀ {α : Type} (z : Option α), gi (nI (s + i)) 65 z = z := fun z => gi_i (in_n (by omega) (by omega))
      rw [FX7_divide_L87, if_neg (by rw [lt_n (by omega) (by omega)]; omega), nI_add, i65]
      simp only [g1]
      rw [gi_i (in_n (by omega) (by omega)), gd_i (ne0_n (by omega) (by omega)), cl_n (n := s + i) (by omega), cl_n (n := 65 * t + i) (by omega), hr i (by omega), h (s + i) (by omega), if_neg (by omega), sub_n (by omega), pk_mul, nI_add, irm_n (by omega) (by omega) (by omega), bd, nI_1])
  refine ⟨st, e1, fun j hj => ?_⟩
  rw [h1 j (by omega)]
  by_cases h3 : s ≤ j
  · rw [if_pos h3, if_pos (by omega)]
  · rw [if_neg h3, if_neg (by omega)]
theorem m_divL {P t e i : Nat} {b : Nat → Nat} {rou : Nat → Int32} (hP : 1 < P) (hP2 : P < 200) (ht : t ≤ 6) (hi : i < P) (hb : ∀ j, j < 65 → b j < P) (hr : ∀ j, j < 65 → rou (65 * t + j) = nI (b j)) : ∀ s fuel (res quo_ : Nat → Int32) (r : Nat → Nat), e + s ≤ 65 → s < fuel → (∀ j, j < 65 → r j < P) → (∀ j, j < e + s → res j = nI (r j)) → ∃ res' quo', FX7_divide_L52 (nI t) (nI e) (nI i) (nI P) rou fuel (pI s) res quo_ = FX7_divide_L154 quo' FU 0 res' ∧ (∀ k, k < s → quo' k = nI (dv P i b e s r (k + e))) ∧ ∀ k, s ≤ k → quo' k = quo_ k
  | 0, fuel, res, quo_, r, _, hf, _, _ => by
    obtain ⟨f, rfl⟩ : ∃ f, fuel = f + 1 := ⟨fuel - 1, by omega⟩
    exact ⟨res, quo_, by rw [FX7_divide_L52, if_pos pI_0], fun k hk => by omega, fun k _ => rfl⟩
  | s + 1, fuel, res, quo_, r, hs, hf, hrP, hres => by
    obtain ⟨f, rfl⟩ : ∃ f, fuel = f + 1 := ⟨fuel - 1, by omega⟩
    have hw : r (e + s) * i % P < P := Nat.mod_lt _ (by omega)
    obtain ⟨res1, e1, h1⟩ := m_div87 (x3 := nI i) (quo_ := upd quo_ s (nI (r (e + s) * i % P))) (k52 := FX7_divide_L52 (nI t) (nI e) (nI i) (nI P) rou f) hP hP2 ht (by omega : e + s < 65) hw hb hr hrP (fun j hj => hres j (by omega))
    obtain ⟨res', quo', e2, h2, h3⟩ := m_divL (e := e) hP hP2 ht hi hb hr s f res1 (upd quo_ s (nI (r (e + s) * i % P))) (dst P i b e s r) (by omega) (by omega) (dst_lt (by omega) hrP) (fun j hj => by
      have e5 : dst P i b e s r j = if s ≤ j ∧ j < e + s then (r j + (P - r (e + s) * i % P) * b (j - s)) % P else r j := by
        unfold dst
        exact if_neg (by omega)
      rw [h1 j hj, e5]
      by_cases h4 : s ≤ j
      · rw [if_pos h4, if_pos ⟨h4, hj⟩]
      · rw [if_neg h4, if_neg (by omega)])
    refine ⟨res', quo', ?_, fun k hk => ?_, fun k hk => ?_⟩
    · rw [FX7_divide_L52, show pI (s + 1) = nI s from rfl, if_neg (nI_pos (by omega)), nI_add, gi_i (in_n (by omega) (by omega)), gd_i (ne0_n (by omega) (by omega)), cl_n (n := s + e) (by omega), cl_n (n := s) (by omega), hres (s + e) (by omega), show s + e = e + s by omega, mm hP hP2 (hrP (e + s) (by omega)) hi, bd, gi_i (in_n (by omega) (by omega)), e1]
      exact e2
    · by_cases h4 : k = s
      · subst h4
        rw [h3 k (Nat.le_refl k), upd_s, dv, dv_hi _ _ (by omega), dst, if_pos (by omega)]
      · rw [h2 k (by omega)]; rfl
    · rw [h3 k (by omega), upd_n (by omega)]
theorem m_divide {P t g : Nat} {x : (Nat → Nat) × Nat} {r : Nat → Nat} {res quo_ rou : Nat → Int32} (h : PR P) (ht : t ≤ 6) (hx : RW P x) (hr : ∀ j, j < 65 → rou (65 * t + j) = nI (x.1 j)) (hrw : RW P (r, g)) (he : x.2 ≤ g) (hres : ∀ j, j < 65 → res j = nI (r j)) : ∃ res' quo', FX7_divide (nI P) res quo_ rou (nI t) = some (res', quo') ∧ ∀ j, j < 65 → res' j = nI (quo P x.1 x.2 g r j) := by
  have hP := h.1
  have hP2 := h.2.1
  have e0 := m_degree hP2 ht hx hr
  obtain ⟨x1, x2, x3, x4⟩ := hx
  obtain ⟨r1, r2, r3, r4⟩ := hrw
  have r1 : g ≤ 64 := r1
  have r3 : ∀ j, g < j → j < 65 → r j = 0 := r3
  have r2 : ∀ j, j < 65 → r j < P := r2
  obtain ⟨q1, h1, e1⟩ := cloop0 (σ := Nat → Int32) 65 (by omega) (fun fuel i s => FX7_divide_L25 (nI t) (nI x.2) (nI (iv P (x.1 x.2))) (nI P) res rou fuel i s) (fun s => FX7_divide_L52 (nI t) (nI x.2) (nI (iv P (x.1 x.2))) (nI P) rou FU (pI (65 - x.2)) res s) (fun i s => ∀ j, j < i → s j = 0) quo_ (fun j hj => by omega) (fun fuel s h1 => by
    show FX7_divide_L25 _ _ _ _ _ _ _ _ _ = _
    have e6 : (64 : Int32) - nI x.2 = pI (65 - x.2) := by
      rw [show (64 : Int32) = nI 64 from rfl, sub_n x1, show 65 - x.2 = (64 - x.2) + 1 by omega]; rfl
    rw [FX7_divide_L25, if_pos (by decide), e6, bd]) (fun fuel i s hi h1 => ⟨upd s i 0, fun j hj => by
      by_cases h : j = i
      · subst h; exact upd_s
      · rw [upd_n h]; exact h1 j (by omega), by
      show FX7_divide_L25 _ _ _ _ _ _ _ _ _ = FX7_divide_L25 _ _ _ _ _ _ _ _ _
      rw [FX7_divide_L25, if_neg (show ¬ (65 : Int32) ≤ nI i from nI_ge (a := i) (b := 65) hi (by omega)), gi_i (in_n (by omega) (by omega)), bd, nI_1, cl_n (n := i) (by omega)]⟩)
  obtain ⟨res', quo', e2, h2, h3⟩ := m_divL (e := x.2) (by omega : 1 < P) hP2 ht (iv_lt (v := x.1 x.2) h) x2 hr (65 - x.2) FU res q1 r (by omega) (FU_big (by omega)) r2 (fun j hj => hres j (by omega))
  obtain ⟨d2, h5, e3⟩ := cloop0 (σ := Nat → Int32) 65 (by omega) (fun fuel i s => FX7_divide_L154 quo' fuel i s) (fun s => some (s, quo')) (fun i s => ∀ j, j < i → s j = quo' j) res' (fun j hj => by omega) (fun fuel s h1 => by
    show FX7_divide_L154 _ _ _ _ = _
    rw [FX7_divide_L154, if_pos (by decide)]) (fun fuel i s hi h1 => ⟨upd s i (quo' i), fun j hj => by
      by_cases h : j = i
      · subst h; exact upd_s
      · rw [upd_n h]; exact h1 j (by omega), by
      show FX7_divide_L154 _ _ _ _ = FX7_divide_L154 _ _ _ _
      rw [FX7_divide_L154, if_neg (show ¬ (65 : Int32) ≤ nI i from nI_ge (a := i) (b := 65) hi (by omega)), gi_i (in_n (by omega) (by omega)), gi_i (in_n (by omega) (by omega)), bd, nI_1, cl_n (n := i) (by omega)]⟩)
  refine ⟨d2, quo', ?_, fun j hj => ?_⟩
  · rw [FX7_divide, ob_i e0, i65, gi_i (in_n (by omega) (by omega)), cl_n (n := 65 * t + x.2) (by omega), hr x.2 (by omega), ob_i (m_inv h (x2 _ (by omega))), e1, e2]
    exact e3
  · rw [h5 j hj, quo]
    by_cases h6 : j < 65 - x.2
    · rw [h2 j h6, show 65 - x.2 = (g - x.2 + 1) + (64 - g) by omega, dv_ext r2 (fun j h7 h8 => r3 j (by omega) h8) _ (by omega)]
      by_cases h7 : j + x.2 ≤ g
      · rw [if_pos h7]
      · rw [if_neg h7, dv_hi _ _ (by omega), r3 _ (by omega) (by omega)]
    · rw [h3 j (by omega), h1 j hj, if_neg (by omega)]; rfl
