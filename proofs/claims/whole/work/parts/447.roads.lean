/-! the class's Roads: what a survey leaves -/
theorem mul_b {P v s : Nat} (hP2 : P < 200) (hv : v < P) (hs : s < P) : v * s < 2147483648 := by
  have : v * s ≤ 199 * 199 := Nat.mul_le_mul (by omega) (by omega)
  omega
theorem round_loop {P d x r : Nat} {c g : Nat → Nat} {le lst mu ba nx pe pc : Nat → Int32} (hP : 0 < P) (hP2 : P < 200) (hg : ∀ y, y < P → g y < P) (hc : CR pc 0 c) (hp : PolyC P c d) (hx : x < P) (hr : r < P) (hR : tR g x ≤ P) (hnx : ∀ y, y < P → nx y = nI (g y)) (hpe : pe x = nI (tR g x)) : ∀ m fuel k v ro, k + m = tR g x → m < fuel → v < P → ∃ ro', FX3_goRound_L9 (nI x) (nI r) P (nI P) le lst mu ba (nI P) nx pe 5 (nI P) (nI d) pc fuel (nI v) (nI (it g k x)) (nI k) ro = some (ro', upd le r (nI (tR g x)), upd lst r (nI x), upd mu r (nI (mulL P (sloP P c d) g m (it g k x) v)), upd ba r 0) ∧ (∀ i, k ≤ i → i < tR g x → ro' (it g i x) = nI r) ∧ ∀ y, (∀ i, k ≤ i → i < tR g x → it g i x ≠ y) → ro' y = ro y := by
  intro m
  induction m with
  | zero =>
    intro fuel k v ro h1 h2 hv
    obtain ⟨f, rfl⟩ : ∃ f, fuel = f + 1 := ⟨fuel - 1, by omega⟩
    refine ⟨ro, ?_, fun i a b => by omega, fun y _ => rfl⟩
    rw [FX3_goRound_L9, gi_i (in_n hx (by omega)), cl_n (by omega), hpe, if_pos (by rw [le_n (by omega) (by omega)]; omega), FX3_goRound_J77, gi_i (in_n hx (by omega)), gi_i (in_n hr (by omega)), gi_i (in_n hr (by omega)), gi_i (in_n hr (by omega)), gi_i (in_n hr (by omega)), cl_n (n := x) (by omega), cl_n (n := r) (by omega), hpe]
    rfl
  | succ m ih =>
    intro fuel k v ro h1 h2 hv
    obtain ⟨f, rfl⟩ : ∃ f, fuel = f + 1 := ⟨fuel - 1, by omega⟩
    have hat := it_lt hg hx k
    have hs := sloP_lt (P := P) (c := c) (d := d) (x := it g k x) hP
    obtain ⟨ro', e1, e2, e3⟩ := ih f (k + 1) (v * sloP P c d (it g k x) % P) (upd ro (it g k x) (nI r)) (by omega) (by omega) (Nat.mod_lt _ hP)
    refine ⟨ro', ?_, fun i a b => ?_, fun y hy => ?_⟩
    · rw [FX3_goRound_L9, gi_i (in_n hx (by omega)), cl_n (by omega), hpe, if_neg (by rw [le_n (by omega) (by omega)]; omega), ob_i (inside_t hat (by omega)), if_neg bi_t, gi_i (in_n hat (by omega)), ob_i (x_slope hP hP2 hat hc hp), gd_i (ne0_n hP (by omega)), pk_mul, irm_n (mul_b hP2 hv hs) hP (by omega), bd, gi_i (in_n hat (by omega)), bd, bd, cl_n (by omega), hnx _ hat, nI_1]
      exact e1
    · by_cases hik : i = k
      · subst hik
        by_cases hlater : ∃ j, i + 1 ≤ j ∧ j < tR g x ∧ it g j x = it g i x
        · obtain ⟨j, j1, j2, j3⟩ := hlater
          rw [← j3]; exact e2 j j1 j2
        · rw [e3 _ (fun j j1 j2 j3 => hlater ⟨j, j1, j2, j3⟩)]; exact upd_s
      · exact e2 i (by omega) b
    · rw [e3 y (fun i a b => hy i (by omega) b)]
      exact upd_n (fun e => hy k (Nat.le_refl _) (by omega) e.symm)
/-- what holds of the rings numbered so far: heads below b -/
def RingsTo (P : Nat) (s g : Nat → Nat) (b : Nat) (rgs : Int32) (ro le lst mu ba : Nat → Int32) : Prop := rgs = nI (rk g b) ∧ (∀ y, y < P → (tT g y = 0 ∧ tM g y < b → ro y = nI (rk g (tM g y))) ∧ (¬ (tT g y = 0 ∧ tM g y < b) → ro y = -1000000)) ∧ ∀ h, h < b → hd g h = true → le (rk g h) = nI (tR g h) ∧ lst (rk g h) = nI h ∧ mu (rk g h) = nI (mulR P s g h) ∧ ba (rk g h) = 0
theorem m1e6 (n : Nat) (hn : n < 100000) : ¬ nI n = -1000000 := fun e => nI_pos (n := n) (by omega) (by rw [e]; decide)
theorem rings_ok {P d : Nat} {c g : Nat → Nat} {ro le lst mu ba nx tl pe pc : Nat → Int32} (hP : 1 < P) (hP2 : P < 200) (hg : ∀ y, y < P → g y < P) (hc : CR pc 0 c) (hp : PolyC P c d) (hnx : ∀ y, y < P → nx y = nI (g y)) (htl : ∀ y, y < P → tl y = nI (tT g y)) (hpe : ∀ y, y < P → pe y = nI (tR g y)) : ∃ rgs' ro' le' lst' mu' ba', FX3_numberRings P (nI P) ro le lst mu ba (nI P) nx tl pe 5 (nI P) (nI d) pc = some (rgs', ro', le', lst', mu', ba') ∧ RingsTo P (sloP P c d) g P rgs' ro' le' lst' mu' ba' := by
  obtain ⟨ro1, f1, f2⟩ := j_fill (n := P) (by omega) ro (-1000000)
  rw [FX3_numberRings, ob_i f1]
  obtain ⟨⟨rgs', ro', le', lst', mu', ba'⟩, h1, e1⟩ := cloop0 (σ := Int32 × (Nat → Int32) × (Nat → Int32) × (Nat → Int32) × (Nat → Int32) × (Nat → Int32)) P (by omega) (fun fuel i st => FX3_numberRings_L16 P (nI P) (nI P) nx tl pe 5 (nI P) (nI d) pc fuel i st.1 st.2.1 st.2.2.1 st.2.2.2.1 st.2.2.2.2.1 st.2.2.2.2.2) (fun st => some st) (fun i st => RingsTo P (sloP P c d) g i st.1 st.2.1 st.2.2.1 st.2.2.2.1 st.2.2.2.2.1 st.2.2.2.2.2) (0, ro1, le, lst, mu, ba) ⟨rfl, fun y hy => ⟨fun h => absurd h.2 (Nat.not_lt_zero _), fun _ => f2 y hy⟩, fun h hh => absurd hh (Nat.not_lt_zero _)⟩ (fun fuel st h => by
    show FX3_numberRings_L16 _ _ _ _ _ _ _ _ _ _ _ _ _ _ _ _ _ _ = _
    rw [FX3_numberRings_L16, if_pos (Int32.le_refl _)]) (fun fuel x st hx h => by
    obtain ⟨rgs, ro, le, lst, mu, ba⟩ := st
    dsimp only at h ⊢
    obtain ⟨h1, h2, h3⟩ := h
    have hTx := tTP hg hx
    have hRP := t_le hg hx
    by_cases hH : hd g x = true
    · obtain ⟨hT0, hM⟩ := hd_iff.mp hH
      have hrk : rk g x < P := Nat.lt_of_le_of_lt (rk_le g x) hx
      have hro : ro x = -1000000 := (h2 x hx).2 (fun h => by omega)
      obtain ⟨ro2, g1, g2, g3⟩ := round_loop (le := le) (lst := lst) (mu := mu) (ba := ba) (r := rk g x) (by omega) hP2 hg hc hp hx hrk (by omega) hnx (hpe x hx) (tR g x) FU 0 1 ro (by omega) (FU_big (by omega)) hP
      refine ⟨(nI (rk g x) + 1, ro2, upd le (rk g x) (nI (tR g x)), upd lst (rk g x) (nI x), upd mu (rk g x) (nI (mulR P (sloP P c d) g x)), upd ba (rk g x) 0), ⟨?_, fun y hy => ?_, fun h hh hhd => ?_⟩, ?_⟩
      · show nI (rk g x) + 1 = nI (rk g (x + 1))
        rw [nI_1]; unfold rk; rw [fb_ct_succ, hH]; rfl
      · have hon := on_ring hg hx hH hy
        by_cases hyx : tT g y = 0 ∧ tM g y = x
        · obtain ⟨i, i1, i2⟩ := hon.mp hyx
          refine ⟨fun _ => ?_, fun hn => absurd ⟨hyx.1, by omega⟩ hn⟩
          show ro2 y = _
          rw [← i2, g2 i (Nat.zero_le _) i1, i2, hyx.2]
        · have hk : ro2 y = ro y := g3 y (fun i _ i1 e => hyx (hon.mpr ⟨i, i1, e⟩))
          refine ⟨fun hq => ?_, fun hq => ?_⟩
          · show ro2 y = _
            rw [hk]; exact (h2 y hy).1 ⟨hq.1, Nat.lt_of_le_of_ne (Nat.le_of_lt_succ hq.2) (fun e => hyx ⟨hq.1, e⟩)⟩
          · show ro2 y = _
            rw [hk]; exact (h2 y hy).2 (fun h => hq ⟨h.1, by omega⟩)
      · show upd le _ _ _ = _ ∧ upd lst _ _ _ = _ ∧ upd mu _ _ _ = _ ∧ upd ba _ _ _ = _
        by_cases hhx : h = x
        · subst hhx; exact ⟨upd_s, upd_s, upd_s, upd_s⟩
        · have hne : rk g h ≠ rk g x := fun e => hhx (rk_inj hhd hH e)
          rw [upd_n hne, upd_n hne, upd_n hne, upd_n hne]; exact h3 h (by omega) hhd
      · rw [FX3_numberRings_L16, if_neg (nI_ge hx (by omega)), gi_i (in_n hx (by omega)), cl_n (by omega), htl x hx, hT0, if_pos nI_0, gi_i (in_n hx (by omega)), hro, if_pos rfl, h1, if_neg (nI_ge hrk (by omega))]
        have e2 : FX3_goRound P (nI P) ro le lst mu ba (nI P) nx pe 5 (nI P) (nI d) pc (nI x) (nI (rk g x)) = _ := g1
        rw [ob_i e2, FX3_numberRings_J78, bd, nI_1]
        rfl
    · have hrk1 : rk g (x + 1) = rk g x := by unfold rk; rw [fb_ct_succ]; simp [hH]
      have hne : ∀ y, y < P → ¬ (tT g y = 0 ∧ tM g y = x) := fun y hy hq => hH (by rw [← hq.2]; exact hd_tM hg hy)
      refine ⟨(rgs, ro, le, lst, mu, ba), ⟨by rw [hrk1]; exact h1, fun y hy => ⟨fun hq => (h2 y hy).1 ⟨hq.1, ?_⟩, fun hq => (h2 y hy).2 (fun h => hq ⟨h.1, by omega⟩)⟩, fun h hh hhd => h3 h ?_ hhd⟩, ?_⟩
      · have := hq.2
        by_cases e : tM g y = x
        · exact absurd ⟨hq.1, e⟩ (hne y hy)
        · omega
      · by_cases e : h = x
        · subst e; exact absurd hhd hH
        · omega
      · rw [FX3_numberRings_L16, if_neg (nI_ge hx (by omega)), gi_i (in_n hx (by omega)), cl_n (by omega), htl x hx]
        by_cases hT0 : tT g x = 0
        · have hlt : tM g x < x := by
            have := ring_le hg hx hT0
            by_cases e : tM g x = x
            · exact absurd (hd_iff.mpr ⟨hT0, e⟩) hH
            · omega
          have hM := tM_lt hg hx
          have hro := (h2 x hx).1 ⟨hT0, hlt⟩
          rw [hT0, if_pos nI_0, gi_i (in_n hx (by omega)), hro, if_neg (m1e6 _ (by have := rk_le g (tM g x); omega)), FX3_numberRings_J78, bd, nI_1]
        · rw [if_neg (nI_ne0 (by omega) (by omega)), FX3_numberRings_J78, bd, nI_1])
  exact ⟨rgs', ro', le', lst', mu', ba', e1, h1⟩
