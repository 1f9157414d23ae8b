/-! alike: the class's and the model's loops -/
theorem df_up (a b : Nat) : nI a - nI b + 1 = nI (a + 1) - nI b := by
  rw [← nI_1, Int32.sub_eq_add_neg, Int32.sub_eq_add_neg, Int32.add_assoc, Int32.add_assoc, Int32.add_comm (-nI b) 1]
theorem df_dn (a b : Nat) : nI a - nI b - 1 = nI a - nI (b + 1) := by
  rw [← nI_1, Int32.sub_eq_add_neg (nI a) (nI b + 1), Int32.neg_add, Int32.sub_eq_add_neg (-nI b) 1, Int32.sub_eq_add_neg (nI a - nI b) 1, Int32.sub_eq_add_neg (nI a) (nI b), Int32.add_assoc]
theorem df_0 {a b : Nat} (ha : a < 2147483648) (hb : b < 2147483648) : nI a - nI b = 0 ↔ a = b := by
  constructor
  · intro h
    have h2 := congrArg Int32.toInt h
    rw [fb_subI (by rw [nI_toInt (by omega), nI_toInt (by omega)]; omega) (by rw [nI_toInt (by omega), nI_toInt (by omega)]; omega), nI_toInt (by omega), nI_toInt (by omega)] at h2
    have : (a : Int) - (b : Int) = 0 := h2
    omega
  · intro h; subst h; exact Int32.sub_self ..
/-- the count of a key, up to i -/
noncomputable def cK (g : Nat → Nat) (k i : Nat) : Nat := fb_ct (fun x => decide (ky g x = k)) i
theorem cK_t {g : Nat → Nat} {k i : Nat} (h : ky g i = k) : cK g k (i + 1) = cK g k i + 1 := ct_t (decide_eq_true h)
theorem cK_f {g : Nat → Nat} {k i : Nat} (h : ky g i ≠ k) : cK g k (i + 1) = cK g k i := ct_f (fun e => h (of_decide_eq_true e))
theorem cK_le (g : Nat → Nat) (k i : Nat) : cK g k i ≤ i := fb_ct_le _ _
theorem ky_eq {P i t r : Nat} {g : Nat → Nat} (hP2 : P < 200) (hg : ∀ y, y < P → g y < P) (hi : i < P) (hr : r < 200) : ky g i = 200 * t + r ↔ tT g i = t ∧ tR g i = r := by
  have h1 := t_le hg hi
  unfold ky; omega
theorem x_zeros {P : Nat} {bt : Nat → Int32} (hP2 : P < 200) : ∀ k fuel i, i + k = P → k < fuel → ∃ v, FX3_hasTailsOf_L37 (nI P) P bt fuel (nI i) = some (v, bt) ∧ (v = true ↔ ∀ t, i ≤ t → t < P → bt t = 0)
  | 0, fuel, i, h1, h2 => by
    obtain ⟨f, rfl⟩ : ∃ f, fuel = f + 1 := ⟨fuel - 1, by omega⟩
    have : i = P := by omega
    subst this
    refine ⟨true, by rw [FX3_hasTailsOf_L37, if_pos (Int32.le_refl _)], fun _ t h3 h4 => by omega, fun _ => rfl⟩
  | k + 1, fuel, i, h1, h2 => by
    obtain ⟨f, rfl⟩ : ∃ f, fuel = f + 1 := ⟨fuel - 1, by omega⟩
    rw [FX3_hasTailsOf_L37, if_neg (nI_ge (by omega) (by omega)), gi_i (in_n (by omega) (by omega)), cl_n (n := i) (by omega), bd]
    by_cases h : bt i = 0
    · obtain ⟨v, e, hv⟩ := x_zeros hP2 k f (i + 1) (by omega) (by omega)
      refine ⟨v, by rw [if_pos h, bd, nI_1]; exact e, hv.trans ⟨fun h3 t h4 h5 => ?_, fun h3 t h4 h5 => h3 t (by omega) h5⟩⟩
      by_cases h6 : t = i
      · subst h6; exact h
      · exact h3 t (by omega) h5
    · refine ⟨false, by rw [if_neg h], fun h3 => (Bool.false_ne_true h3).elim, fun h3 => absurd (h3 i (Nat.le_refl i) (by omega)) h⟩
theorem x_tallyU {P r : Nat} {g : Nat → Nat} {bt tl pe : Nat → Int32} (hP2 : P < 200) (hg : ∀ y, y < P → g y < P) (hr : r < 200) (hp : ∀ x, x < P → tl x = nI (tT g x) ∧ pe x = nI (tR g x)) (hb : ∀ t, t < P → bt t = 0) : ∃ bt', FX3_tally P bt P (nI P) tl pe (nI r) 1 = some bt' ∧ ∀ t, t < P → bt' t = nI (cK g (200 * t + r) P) := by
  rw [FX3_tally]
  obtain ⟨st, h1, e1⟩ := cloop0 (σ := Nat → Int32) P (by omega) (fun fuel i st => FX3_tally_L3 (nI r) 1 P P (nI P) tl pe fuel i st) (fun st => some st) (fun i st => ∀ t, t < P → st t = nI (cK g (200 * t + r) i)) bt (fun t ht => by rw [hb t ht]; rfl) (fun fuel st h => by
    rw [FX3_tally_L3, if_pos (Int32.le_refl _)]) (fun fuel i st hi h => by
    have h1 := t_le hg hi
    have h2 := tR_pos hg hi
    have ci : (nI i).toNatClampNeg = i := cl_n (by omega)
    by_cases h3 : tR g i = r
    · have ct : (nI (tT g i)).toNatClampNeg = tT g i := cl_n (by omega)
      refine ⟨upd st (tT g i) (st (tT g i) + 1), fun t ht => ?_, ?_⟩
      · by_cases h4 : t = tT g i
        · subst h4
          rw [upd_s, h _ ht, cK_t ((ky_eq hP2 hg hi hr).mpr ⟨rfl, h3⟩), nI_1]
        · rw [upd_n h4, h t ht, cK_f (fun e => h4 ((ky_eq hP2 hg hi hr).mp e).1.symm)]
      · show FX3_tally_L3 _ _ _ _ _ _ _ _ _ _ = FX3_tally_L3 _ _ _ _ _ _ _ _ _ _
        rw [FX3_tally_L3, if_neg (nI_ge hi (by omega)), gi_i (in_n hi (by omega)), ci, (hp i hi).1, bd, gi_i (in_n hi (by omega)), (hp i hi).2, if_pos (by rw [h3]), if_neg (nI_pos (by omega)), if_neg (show ¬ Int32.ofNat P ≤ nI (tT g i) from nI_ge (by omega) (by omega)), gi_i (in_n (by omega) (by omega)), gi_i (in_n (by omega) (by omega)), FX3_tally_J58, bd, nI_1 i, ct]
    · refine ⟨st, fun t ht => ?_, ?_⟩
      · rw [h t ht, cK_f (fun e => h3 ((ky_eq hP2 hg hi hr).mp e).2)]
      · show FX3_tally_L3 _ _ _ _ _ _ _ _ _ _ = FX3_tally_L3 _ _ _ _ _ _ _ _ _ _
        rw [FX3_tally_L3, if_neg (nI_ge hi (by omega)), gi_i (in_n hi (by omega)), ci, (hp i hi).1, bd, gi_i (in_n hi (by omega)), (hp i hi).2, if_neg (nI_ne (by omega) (by omega) h3), FX3_tally_J58, bd, nI_1 i])
  exact ⟨st, e1, h1⟩
theorem x_tallyD {P r : Nat} {g : Nat → Nat} {A : Nat → Nat} {bt tl pe : Nat → Int32} (hP2 : P < 200) (hg : ∀ y, y < P → g y < P) (hr : r < 200) (hp : ∀ x, x < P → tl x = nI (tT g x) ∧ pe x = nI (tR g x)) (hb : ∀ t, t < P → bt t = nI (A t)) : ∃ bt', FX3_tally P bt P (nI P) tl pe (nI r) (-1) = some bt' ∧ ∀ t, t < P → bt' t = nI (A t) - nI (cK g (200 * t + r) P) := by
  rw [FX3_tally]
  obtain ⟨st, h1, e1⟩ := cloop0 (σ := Nat → Int32) P (by omega) (fun fuel i st => FX3_tally_L3 (nI r) (-1) P P (nI P) tl pe fuel i st) (fun st => some st) (fun i st => ∀ t, t < P → st t = nI (A t) - nI (cK g (200 * t + r) i)) bt (fun t ht => by
    rw [hb t ht]
    exact (Int32.sub_zero _).symm) (fun fuel st h => by
    rw [FX3_tally_L3, if_pos (Int32.le_refl _)]) (fun fuel i st hi h => by
    have h1 := t_le hg hi
    have h2 := tR_pos hg hi
    have ci : (nI i).toNatClampNeg = i := cl_n (by omega)
    by_cases h3 : tR g i = r
    · have ct : (nI (tT g i)).toNatClampNeg = tT g i := cl_n (by omega)
      refine ⟨upd st (tT g i) (st (tT g i) + (-1)), fun t ht => ?_, ?_⟩
      · by_cases h4 : t = tT g i
        · subst h4
          rw [upd_s, h _ ht, cK_t ((ky_eq hP2 hg hi hr).mpr ⟨rfl, h3⟩), ← Int32.sub_eq_add_neg, df_dn]
        · rw [upd_n h4, h t ht, cK_f (fun e => h4 ((ky_eq hP2 hg hi hr).mp e).1.symm)]
      · show FX3_tally_L3 _ _ _ _ _ _ _ _ _ _ = FX3_tally_L3 _ _ _ _ _ _ _ _ _ _
        rw [FX3_tally_L3, if_neg (nI_ge hi (by omega)), gi_i (in_n hi (by omega)), ci, (hp i hi).1, bd, gi_i (in_n hi (by omega)), (hp i hi).2, if_pos (by rw [h3]), if_neg (nI_pos (by omega)), if_neg (show ¬ Int32.ofNat P ≤ nI (tT g i) from nI_ge (by omega) (by omega)), gi_i (in_n (by omega) (by omega)), gi_i (in_n (by omega) (by omega)), FX3_tally_J58, bd, nI_1 i, ct]
    · refine ⟨st, fun t ht => ?_, ?_⟩
      · rw [h t ht, cK_f (fun e => h3 ((ky_eq hP2 hg hi hr).mp e).2)]
      · show FX3_tally_L3 _ _ _ _ _ _ _ _ _ _ = FX3_tally_L3 _ _ _ _ _ _ _ _ _ _
        rw [FX3_tally_L3, if_neg (nI_ge hi (by omega)), gi_i (in_n hi (by omega)), ci, (hp i hi).1, bd, gi_i (in_n hi (by omega)), (hp i hi).2, if_neg (nI_ne (by omega) (by omega) h3), FX3_tally_J58, bd, nI_1 i])
  exact ⟨st, e1, h1⟩
theorem x_has {P r : Nat} {g g' : Nat → Nat} {bt tl pe qt qp : Nat → Int32} (hP2 : P < 200) (hg : ∀ y, y < P → g y < P) (hg' : ∀ y, y < P → g' y < P) (hr : r < 200) (hp : ∀ x, x < P → tl x = nI (tT g x) ∧ pe x = nI (tR g x)) (hq : ∀ x, x < P → qt x = nI (tT g' x) ∧ qp x = nI (tR g' x)) : ∃ v bt', FX3_hasTailsOf P bt (nI P) tl pe P (nI P) qt qp (nI r) = some (v, bt') ∧ (v = true ↔ ∀ t, t < P → cA P g (200 * t + r) = cA P g' (200 * t + r)) := by
  obtain ⟨bt0, f1, f2⟩ := j_fill (n := P) (by omega) bt 0
  obtain ⟨bt1, u1, u2⟩ := x_tallyU (bt := bt0) hP2 hg hr hp f2
  obtain ⟨st, d1, h1⟩ := x_tallyD (bt := bt1) (A := fun t => cK g (200 * t + r) P) hP2 hg' hr hq u2
  obtain ⟨v, e2, h2⟩ := x_zeros (bt := st) hP2 P FU 0 (by omega) (FU_big (by omega))
  refine ⟨v, st, by rw [FX3_hasTailsOf, ob_i f1, ob_i u1, ob_i d1, bd]; exact e2, h2.trans ⟨fun h t ht => ?_, fun h t _ ht => ?_⟩⟩
  · have h3 := h t (Nat.zero_le t) ht
    rw [h1 t ht] at h3
    have l1 := cK_le g (200 * t + r) P
    have l2 := cK_le g' (200 * t + r) P
    exact (df_0 (a := cK g (200 * t + r) P) (b := cK g' (200 * t + r) P) (by omega) (by omega)).mp h3
  · rw [h1 t ht]
    have l1 := cK_le g (200 * t + r) P
    have l2 := cK_le g' (200 * t + r) P
    exact (df_0 (a := cK g (200 * t + r) P) (b := cK g' (200 * t + r) P) (by omega) (by omega)).mpr (h t ht)
theorem x_likeL {P : Nat} {g g' : Nat → Nat} {tl pe qt qp : Nat → Int32} (hP2 : P < 200) (hg : ∀ y, y < P → g y < P) (hg' : ∀ y, y < P → g' y < P) (hp : ∀ x, x < P → tl x = nI (tT g x) ∧ pe x = nI (tR g x)) (hq : ∀ x, x < P → qt x = nI (tT g' x) ∧ qp x = nI (tR g' x)) : ∀ k fuel i (bt cp : Nat → Int32), i + k = P → k < fuel → (∀ r, r ≤ P → cp r = 0 ∨ ∀ t, t < P → cA P g (200 * t + r) = cA P g' (200 * t + r)) → ∃ v bt' cp', FX3_isLike_L22 (nI P) P (P + 1) (nI P) tl pe P (nI P) qt qp fuel (nI i) bt cp = some (v, bt', cp') ∧ (v = true ↔ ∀ x, i ≤ x → x < P → ∀ t, t < P → cA P g (200 * t + tR g x) = cA P g' (200 * t + tR g x))
  | 0, fuel, i, bt, cp, h1, h2, _ => by
    obtain ⟨f, rfl⟩ : ∃ f, fuel = f + 1 := ⟨fuel - 1, by omega⟩
    have : i = P := by omega
    subst this
    exact ⟨true, bt, cp, by rw [FX3_isLike_L22, if_pos (Int32.le_refl _)], fun _ x h3 h4 => by omega, fun _ => rfl⟩
  | k + 1, fuel, i, bt, cp, h1, h2, hc => by
    obtain ⟨f, rfl⟩ : ∃ f, fuel = f + 1 := ⟨fuel - 1, by omega⟩
    have hi : i < P := by omega
    have h3 := tR_le hg hi
    have h0 := tR_pos hg hi
    have ci : (nI i).toNatClampNeg = i := cl_n (by omega)
    have cr : (nI (tR g i)).toNatClampNeg = tR g i := cl_n (by omega)
    rw [FX3_isLike_L22, if_neg (nI_ge hi (by omega)), gi_i (in_n hi (by omega)), ci, (hp i hi).2, bd, if_neg (nI_nle h0 (by omega)), if_neg (show ¬ Int32.ofNat (P + 1) ≤ nI (tR g i) from nI_ge (by omega) (by omega)), gi_i (in_n (by omega) (by omega)), gi_i (in_n (by omega) (by omega)), cr]
    by_cases h4 : cp (tR g i) = 0
    · obtain ⟨v, bt1, e, hv⟩ := x_has (bt := bt) hP2 hg hg' (by omega : tR g i < 200) hp hq
      rw [if_pos h4, ob_i e]
      cases v with
      | false =>
        refine ⟨false, bt1, _, by rw [if_pos bf0], fun h => (Bool.false_ne_true h).elim, fun h => hv.mpr (fun t ht => h i (Nat.le_refl i) hi t ht)⟩
      | true =>
        have hok := hv.mp rfl
        obtain ⟨v2, bt2, cp2, e2, hv2⟩ := x_likeL hP2 hg hg' hp hq k f (i + 1) bt1 (upd cp (tR g i) 1) (by omega) (by omega) (fun r hr => by
          by_cases h5 : r = tR g i
          · subst h5; exact Or.inr hok
          · rw [upd_n h5]; exact hc r hr)
        refine ⟨v2, bt2, cp2, by rw [if_neg bt0, FX3_isLike_J79, bd, nI_1]; exact e2, hv2.trans ⟨fun h x h5 h6 => ?_, fun h x h5 h6 => h x (by omega) h6⟩⟩
        by_cases h7 : x = i
        · subst h7; exact hok
        · exact h x (by omega) h6
    · have hok := (hc _ h3).resolve_left h4
      obtain ⟨v2, bt2, cp2, e2, hv2⟩ := x_likeL hP2 hg hg' hp hq k f (i + 1) bt cp (by omega) (by omega) hc
      refine ⟨v2, bt2, cp2, by rw [if_neg h4, FX3_isLike_J79, bd, nI_1]; exact e2, hv2.trans ⟨fun h x h5 h6 => ?_, fun h x h5 h6 => h x (by omega) h6⟩⟩
      by_cases h7 : x = i
      · subst h7; exact hok
      · exact h x (by omega) h6
theorem x_like {P : Nat} {g g' : Nat → Nat} {bt cp tl pe qt qp : Nat → Int32} (hP2 : P < 200) (hg : ∀ y, y < P → g y < P) (hg' : ∀ y, y < P → g' y < P) (hp : ∀ x, x < P → tl x = nI (tT g x) ∧ pe x = nI (tR g x)) (hq : ∀ x, x < P → qt x = nI (tT g' x) ∧ qp x = nI (tR g' x)) : ∃ v bt' cp', FX3_isLike P (P + 1) bt cp (nI P) tl pe P (nI P) qt qp = some (v, bt', cp') ∧ (v = true ↔ ∀ k, k < 40000 → cA P g k = cA P g' k) := by
  obtain ⟨cp0, f1, f2⟩ := j_fill (n := P + 1) (by omega) cp 0
  obtain ⟨v, bt', cp', e, hv⟩ := x_likeL hP2 hg hg' hp hq P FU 0 bt cp0 (by omega) (FU_big (by omega)) (fun r hr => Or.inl (f2 r (by omega)))
  exact ⟨v, bt', cp', by rw [FX3_isLike, ob_i f1, bd]; exact e, (hv.trans ⟨fun h x hx => h x (Nat.zero_le x) hx, fun h x _ hx => h x hx⟩).trans (hist hP2 hg hg')⟩
