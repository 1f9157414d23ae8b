/-! the model's findRounds -/
theorem m_div103 {P d m : Nat} {c : Nat → Nat} {k32 : Int32 → (Nat → Int32) → (Nat → Int32) → (Nat → Int32) → (Nat → Int32) → (Nat → Int32) → Option ((Nat → Int32) × (Nat → Int32) × (Nat → Int32) × (Nat → Int32) × (Nat → Int32))} {x1 x2 : Int32} {deg num don nex res quo_ rou : Nat → Int32} (h : PR P) (hpc : PolyC P c d) (hd : 2 ≤ d) (hm : m < 6) (h1 : d ^ (m + 1) ≤ 64) (hr : ∀ t, 1 ≤ t → t ≤ m → ∀ j, j < 65 → rou (65 * t + j) = nI ((RT P c d t).1 j)) (hres : ∀ j, j < 65 → res j = nI (R0 P c d (m + 1) j)) : ∃ res' quo', FX7_findRounds_L103 k32 x1 x2 (nI (m + 1)) (nI P) deg num don nex rou FU 1 res quo_ = FX7_findRounds_L131 k32 x1 x2 (nI (m + 1)) (nI P) deg num don nex res' quo' FU 0 rou ∧ ∀ j, j < 65 → res' j = nI ((RT P c d (m + 1)).1 j) := by
  have hP := h.1
  have hP2 := h.2.1
  have hT : ∀ k, 1 ≤ k → k ≤ m → RW P (RT P c d k) := fun k h2 h3 => RT_ok h hpc hd k k (Nat.le_refl k) h2 (by omega) (pow_le hd (by omega) h1)
  obtain ⟨⟨r1, q1⟩, h2, e1⟩ := cloop1 (σ := (Nat → Int32) × (Nat → Int32)) 1 (m + 1) (by omega) (by omega) (fun fuel i st => FX7_findRounds_L103 k32 x1 x2 (nI (m + 1)) (nI P) deg num don nex rou fuel i st.1 st.2) (fun st => FX7_findRounds_L131 k32 x1 x2 (nI (m + 1)) (nI P) deg num don nex st.1 st.2 FU 0 rou) (fun i st => 1 ≤ i ∧ ∀ j, j < 65 → st.1 j = nI ((dvs P c d (RT P c d) (m + 1) (i - 1)).1 j)) (res, quo_) ⟨Nat.le_refl 1, fun j hj => hres j hj⟩ (fun fuel st h2 => by
    show FX7_findRounds_L103 _ _ _ _ _ _ _ _ _ _ _ _ _ _ = _
    rw [FX7_findRounds_L103, if_pos (Int32.le_refl _)]) (fun fuel i st hi h2 => by
    obtain ⟨h2, h3⟩ := h2
    obtain ⟨t, rfl⟩ : ∃ t, i = t + 1 := ⟨i - 1, by omega⟩
    rw [Nat.add_sub_cancel] at h3
    by_cases h4 : (m + 1) % (t + 1) = 0
    · obtain ⟨res', quo', e, h5⟩ := m_divide (quo_ := st.2) (res := st.1) (x := RT P c d (t + 1)) (r := (dvs P c d (RT P c d) (m + 1) t).1) (g := (dvs P c d (RT P c d) (m + 1) t).2) h (by omega : t + 1 ≤ 6) (hT _ (by omega) (by omega)) (hr _ (by omega) (by omega)) (dvs_ok h hpc hd hm h1 hT t (by omega)) (RT_le hd hpc.1 hm h1 (by omega) h4) h3
      refine ⟨(res', quo'), ⟨by omega, fun j hj => ?_⟩, ?_⟩
      · show res' j = _
        rw [h5 j hj, Nat.add_sub_cancel, dvs, if_pos h4]
      · show FX7_findRounds_L103 _ _ _ _ _ _ _ _ _ _ _ _ _ _ = FX7_findRounds_L103 _ _ _ _ _ _ _ _ _ _ _ _ _ _
        rw [FX7_findRounds_L103, if_neg (nI_ge hi (by omega)), gd_i (ne0_n (by omega) (by omega)), irm_n (by omega) (by omega) (by omega), if_pos (by rw [h4]; rfl), ob_i e, FX7_findRounds_J122, bd, nI_1]
    · refine ⟨st, ⟨by omega, fun j hj => ?_⟩, ?_⟩
      · rw [h3 j hj, Nat.add_sub_cancel, dvs, if_neg h4]
      · have h6 := Nat.mod_lt (m + 1) (show 0 < t + 1 by omega)
        show FX7_findRounds_L103 _ _ _ _ _ _ _ _ _ _ _ _ _ _ = FX7_findRounds_L103 _ _ _ _ _ _ _ _ _ _ _ _ _ _
        rw [FX7_findRounds_L103, if_neg (nI_ge hi (by omega)), gd_i (ne0_n (by omega) (by omega)), irm_n (by omega) (by omega) (by omega), if_neg (ne0_n (by omega) (by omega)), FX7_findRounds_J122, bd, nI_1])
  refine ⟨r1, q1, e1, fun j hj => ?_⟩
  rw [RT_eq]
  exact h2.2 j hj
theorem m_sub45 {P d m : Nat} {c : Nat → Nat} {k32 : Int32 → (Nat → Int32) → (Nat → Int32) → (Nat → Int32) → (Nat → Int32) → (Nat → Int32) → Option ((Nat → Int32) × (Nat → Int32) × (Nat → Int32) × (Nat → Int32) × (Nat → Int32))} {x1 x2 x3 : Int32} {deg num don nex res quo_ rou : Nat → Int32} (h : PR P) (hdo : ∀ j, j < 65 → don j = nI (itr P c d m j)) (hlt : ∀ j, j < 65 → itr P c d m j < P) : ∃ res', FX7_findRounds_L45 k32 x1 x2 x3 (nI P) deg num don nex quo_ rou FU 0 res = FX7_findRounds_L103 k32 x1 x2 x3 (nI P) deg num don nex rou FU 1 res' quo_ ∧ ∀ j, j < 65 → res' j = nI (R0 P c d m j) := by
  have hP := h.1
  have hP2 := h.2.1
  obtain ⟨r1, h2, e1⟩ := cloop0 (σ := Nat → Int32) 65 (by omega) (fun fuel i st => FX7_findRounds_L45 k32 x1 x2 x3 (nI P) deg num don nex quo_ rou fuel i st) (fun st => FX7_findRounds_L103 k32 x1 x2 x3 (nI P) deg num don nex rou FU 1 st quo_) (fun i st => ∀ j, j < i → st j = nI (R0 P c d m j)) res (fun j hj => by omega) (fun fuel st h2 => by
    show FX7_findRounds_L45 _ _ _ _ _ _ _ _ _ _ _ _ _ _ = _
    rw [FX7_findRounds_L45, if_pos (by decide)]) (fun fuel i st hi h2 => by
    have h3 := hlt i hi
    refine ⟨upd st i (nI (R0 P c d m i)), fun j hj => ?_, ?_⟩
    · by_cases h : j = i
      · subst h; exact upd_s
      · rw [upd_n h]; exact h2 j (by omega)
    show FX7_findRounds_L45 _ _ _ _ _ _ _ _ _ _ _ _ _ _ = FX7_findRounds_L45 _ _ _ _ _ _ _ _ _ _ _ _ _ _
    rw [FX7_findRounds_L45, if_neg (show ¬ (65 : Int32) ≤ nI i from nI_ge (a := i) (b := 65) hi (by omega))]
    by_cases h4 : i = 1
    · have e5 : R0 P c d m i = (itr P c d m i + P - 1) % P := by rw [R0, if_pos h4, h4]
      have e6 : nI (itr P c d m i + P) - 1 = nI (itr P c d m i + P - 1) := sub_n (b := 1) (by omega)
      rw [if_pos (by rw [h4]; rfl), gi_i (in_n hi (by omega)), gd_i (ne0_n (by omega) (by omega)), FX7_findRounds_J93, gi_i (in_n hi (by omega)), bd, nI_1, cl_n (n := i) (by omega), hdo i hi, nI_add, e6, irm_n (by omega) (by omega) (by omega), e5]
    · have e5 : R0 P c d m i = itr P c d m i := if_neg h4
      rw [if_neg (show ¬ nI i = 1 from nI_ne (b := 1) (by omega) (by omega) h4), gi_i (in_n hi (by omega)), FX7_findRounds_J93, gi_i (in_n hi (by omega)), bd, nI_1, cl_n (n := i) (by omega), hdo i hi, e5])
  exact ⟨r1, e1, h2⟩
theorem m_put131 {m : Nat} {k32 : Int32 → (Nat → Int32) → (Nat → Int32) → (Nat → Int32) → (Nat → Int32) → (Nat → Int32) → Option ((Nat → Int32) × (Nat → Int32) × (Nat → Int32) × (Nat → Int32) × (Nat → Int32))} {x1 x2 pri : Int32} {deg num don nex res quo_ rou : Nat → Int32} (hm : m ≤ 6) : ∃ rou', FX7_findRounds_L131 k32 x1 x2 (nI m) pri deg num don nex res quo_ FU 0 rou = k32 (nI (m + 1)) don nex res quo_ rou' ∧ (∀ j, j < 65 → rou' (65 * m + j) = res j) ∧ ∀ j, (j < 65 * m ∨ 65 * m + 65 ≤ j) → rou' j = rou j := by
  obtain ⟨r1, h2, e1⟩ := cloop0 (σ := Nat → Int32) 65 (by omega) (fun fuel i st => FX7_findRounds_L131 k32 x1 x2 (nI m) pri deg num don nex res quo_ fuel i st) (fun st => k32 (nI (m + 1)) don nex res quo_ st) (fun i st => (∀ j, j < i → st (65 * m + j) = res j) ∧ ∀ j, (j < 65 * m ∨ 65 * m + 65 ≤ j) → st j = rou j) rou ⟨fun j hj => by omega, fun j _ => rfl⟩ (fun fuel st h2 => by
    show FX7_findRounds_L131 _ _ _ _ _ _ _ _ _ _ _ _ _ _ = _
    rw [FX7_findRounds_L131, if_pos (by decide), bd, nI_1]) (fun fuel i st hi h2 => by
    refine ⟨upd st (65 * m + i) (res i), ⟨fun j hj => ?_, fun j hj => ?_⟩, ?_⟩
    · by_cases h : j = i
      · subst h; exact upd_s
      · rw [upd_n (by omega)]; exact h2.1 j (by omega)
    · rw [upd_n (by omega)]; exact h2.2 j hj
    · show FX7_findRounds_L131 _ _ _ _ _ _ _ _ _ _ _ _ _ _ = FX7_findRounds_L131 _ _ _ _ _ _ _ _ _ _ _ _ _ _
      rw [FX7_findRounds_L131, if_neg (show ¬ (65 : Int32) ≤ nI i from nI_ge (a := i) (b := 65) hi (by omega)), i65, gi_i (in_n hi (by omega)), gi_i (in_n (by omega) (by omega)), bd, nI_1, cl_n (n := i) (by omega), cl_n (n := 65 * m + i) (by omega)])
  exact ⟨r1, e1, h2.1, h2.2⟩
theorem m_find {P a d n : Nat} {c : Nat → Nat} {deg num don nex res quo_ rou : Nat → Int32} (h : PR P) (ha : a < 10) (hda : deg a = nI d) (hpc : PolyC P c d) (hc : CR num (5 * a) c) (hd : 2 ≤ d) (hn : n ≤ 6) (h1 : d ^ n ≤ 64) : ∃ don' nex' res' quo' rou', FX7_findRounds (nI P) deg num don nex res quo_ rou (nI a) (nI n) = some (don', nex', res', quo', rou') ∧ ∀ m, 1 ≤ m → m ≤ n → ∀ j, j < 65 → rou' (65 * m + j) = nI ((RT P c d m).1 j) := by
  have hP := h.1
  have hP2 := h.2.1
  obtain ⟨d1, h2, e1⟩ := cloop0 (σ := Nat → Int32) 65 (by omega) (fun fuel i st => FX7_findRounds_L2 (nI a) (nI n) (nI P) deg num nex res quo_ rou fuel i st) (fun st => FX7_findRounds_L32 (nI a) (nI n) (nI P) deg num FU 1 st nex res quo_ rou) (fun i st => ∀ j, j < i → st j = nI (itr P c d 0 j)) don (fun j hj => by omega) (fun fuel st h2 => by
    show FX7_findRounds_L2 _ _ _ _ _ _ _ _ _ _ _ _ = _
    rw [FX7_findRounds_L2, if_pos (by decide)]) (fun fuel i st hi h2 => by
    refine ⟨upd st i (nI (itr P c d 0 i)), fun j hj => ?_, ?_⟩
    · by_cases h : j = i
      · subst h; exact upd_s
      · rw [upd_n h]; exact h2 j (by omega)
    show FX7_findRounds_L2 _ _ _ _ _ _ _ _ _ _ _ _ = FX7_findRounds_L2 _ _ _ _ _ _ _ _ _ _ _ _
    rw [FX7_findRounds_L2, if_neg (show ¬ (65 : Int32) ≤ nI i from nI_ge (a := i) (b := 65) hi (by omega))]
    by_cases h4 : i = 1
    · have e5 : itr P c d 0 i = 1 := if_pos h4
      rw [if_pos (by rw [h4]; rfl), FX7_findRounds_J23, gi_i (in_n hi (by omega)), bd, nI_1, cl_n (n := i) (by omega), e5]; rfl
    · have e5 : itr P c d 0 i = 0 := if_neg h4
      rw [if_neg (show ¬ nI i = 1 from nI_ne (b := 1) (by omega) (by omega) h4), FX7_findRounds_J23, gi_i (in_n hi (by omega)), bd, nI_1, cl_n (n := i) (by omega), e5]; rfl)
  by_cases hn0 : n = 0
  · subst hn0
    obtain ⟨f, hf⟩ := FU_s 0 (by omega)
    refine ⟨d1, nex, res, quo_, rou, ?_, fun m h3 h4 => by omega⟩
    rw [FX7_findRounds, e1, hf, FX7_findRounds_L32, if_pos (by decide)]
  obtain ⟨⟨d2, n2, r2, q2, o2⟩, h3, e2⟩ := cloop1 (σ := (Nat → Int32) × (Nat → Int32) × (Nat → Int32) × (Nat → Int32) × (Nat → Int32)) 1 (n + 1) (by omega) (by omega) (fun fuel i st => FX7_findRounds_L32 (nI a) (nI n) (nI P) deg num fuel i st.1 st.2.1 st.2.2.1 st.2.2.2.1 st.2.2.2.2) (fun st => some st) (fun i st => 1 ≤ i ∧ (∀ j, j < 65 → st.1 j = nI (itr P c d (i - 1) j)) ∧ ∀ m, 1 ≤ m → m < i → ∀ j, j < 65 → st.2.2.2.2 (65 * m + j) = nI ((RT P c d m).1 j)) (d1, nex, res, quo_, rou) ⟨Nat.le_refl 1, h2, fun m h3 h4 => by omega⟩ (fun fuel st h2 => by
    show FX7_findRounds_L32 _ _ _ _ _ _ _ _ _ _ _ _ = _
    rw [FX7_findRounds_L32, if_pos (by rw [lt_n (by omega) (by omega)]; omega)]) (fun fuel i st hi h2 => by
    obtain ⟨h2, h3, h4⟩ := h2
    obtain ⟨m, rfl⟩ : ∃ m, i = m + 1 := ⟨i - 1, by omega⟩
    rw [Nat.add_sub_cancel] at h3
    have hp1 : d ^ (m + 1) ≤ 64 := pow_le hd (by omega) h1
    obtain ⟨i1, i2, i3, i4⟩ := itr_ok h hpc hd m (pow_le hd (by omega) hp1)
    obtain ⟨don1, nex1, res1, e3, h5⟩ := m_goOn (nex := st.2.1) (res := st.2.2.1) (by omega : 1 < P) hP2 ha hda hpc.1 hpc.2.1 hc i2 h3
    obtain ⟨j1, j2, j3, j4⟩ := itr_ok h hpc hd (m + 1) hp1
    obtain ⟨res2, e4, h6⟩ := m_sub45 (k32 := FX7_findRounds_L32 (nI a) (nI n) (nI P) deg num fuel) (x1 := nI a) (x2 := nI n) (x3 := nI (m + 1)) (deg := deg) (num := num) (nex := nex1) (res := res1) (quo_ := st.2.2.2.1) (rou := st.2.2.2.2) (m := m + 1) h h5 j2
    obtain ⟨res3, quo3, e5, h7⟩ := m_div103 (k32 := FX7_findRounds_L32 (nI a) (nI n) (nI P) deg num fuel) (x1 := nI a) (x2 := nI n) (deg := deg) (num := num) (don := don1) (nex := nex1) (quo_ := st.2.2.2.1) (rou := st.2.2.2.2) h hpc hd (by omega : m < 6) hp1 (fun t h8 h9 => h4 t h8 (by omega)) h6
    obtain ⟨rou4, e6, h8, h9⟩ := m_put131 (k32 := FX7_findRounds_L32 (nI a) (nI n) (nI P) deg num fuel) (x1 := nI a) (x2 := nI n) (pri := nI P) (deg := deg) (num := num) (don := don1) (nex := nex1) (res := res3) (quo_ := quo3) (rou := st.2.2.2.2) (m := m + 1) (by omega)
    refine ⟨(don1, nex1, res3, quo3, rou4), ⟨by omega, h5, fun k h10 h11 j hj => ?_⟩, ?_⟩
    · show rou4 (65 * k + j) = _
      by_cases h12 : k = m + 1
      · subst h12; rw [h8 j hj, h7 j hj]
      · rw [h9 _ (Or.inl (by omega))]; exact h4 k h10 (by omega) j hj
    · show FX7_findRounds_L32 _ _ _ _ _ _ _ _ _ _ _ _ = FX7_findRounds_L32 _ _ _ _ _ _ _ _ _ _ _ _
      rw [FX7_findRounds_L32, if_neg (by rw [lt_n (by omega) (by omega)]; omega), ob_i e3]
      exact e4.trans (e5.trans e6))
  refine ⟨d2, n2, r2, q2, o2, ?_, fun m h4 h5 => h3.2.2 m h4 (by omega)⟩
  rw [FX7_findRounds, e1]
  exact e2
