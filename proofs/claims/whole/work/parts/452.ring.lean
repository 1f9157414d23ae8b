/-! ring -/
theorem bi_1 (a : Nat) : nI a + bi true = nI (a + 1) := nI_1 a
theorem bi_0 (a : Nat) : nI a + bi false = nI a := Int32.add_zero _
theorem ct_t {p : Nat → Bool} {n : Nat} (h : p n = true) : fb_ct p (n + 1) = fb_ct p n + 1 := by rw [fb_ct_succ, if_pos h]
theorem ct_f {p : Nat → Bool} {n : Nat} (h : ¬ p n = true) : fb_ct p (n + 1) = fb_ct p n := by rw [fb_ct_succ, if_neg h]; rfl
theorem m_times {P k d : Nat} {c : Nat → Nat} {deg num goe tai per lea com : Nat → Int32} (hP : 1 < P) (hP2 : P < 200) (hk : k < 10) (hd : deg k = nI d) (hc : CR num (5 * k) c) (hp : PolyC P c d) (h : WaysM (valP P c d) P goe tai per lea com) {y : Nat} (hy : y < P) : FX7_times (nI P) deg num goe per (nI k) (nI y) = some (nI (mulR P (sloP P c d) (valP P c d) y)) := by
  have hv := val_in (P := P) (c := c) (d := d) (by omega)
  have hT := t_le hv hy
  have hpy : per y = nI (tR (valP P c d) y) := (h y hy).2.2.2.1
  have cy : (nI y).toNatClampNeg = y := cl_n (by omega)
  obtain ⟨st, h1, e1⟩ := cloop0 (σ := Int32 × Int32) (tR (valP P c d) y) (by omega) (fun fuel i st => FX7_times_L8 (nI k) (nI y) (nI P) deg num goe per fuel st.1 st.2 i) (fun st => some st.1) (fun i st => ∃ v, v < P ∧ st.1 = nI v ∧ st.2 = nI (it (valP P c d) i y) ∧ mulL P (sloP P c d) (valP P c d) (tR (valP P c d) y - i) (it (valP P c d) i y) v = mulR P (sloP P c d) (valP P c d) y) (nI 1, nI y) ⟨1, by omega, rfl, rfl, rfl⟩ (fun fuel st h1 => by
    show FX7_times_L8 _ _ _ _ _ _ _ _ _ _ _ = _
    rw [FX7_times_L8, gi_i (in_n (by omega : y < 200) (by omega)), if_pos (by rw [cy, hpy]; exact Int32.le_refl _)]) (fun fuel i st hi h1 => by
    obtain ⟨v, h1, h2, h3, h4⟩ := h1
    have hz := it_lt hv hy i
    have hsl := sloP_lt (P := P) (c := c) (d := d) (x := it (valP P c d) i y) (by omega)
    have hb : v * sloP P c d (it (valP P c d) i y) ≤ 199 * 199 := Nat.mul_le_mul (by omega) (by omega)
    refine ⟨(nI (v * sloP P c d (it (valP P c d) i y) % P), nI (it (valP P c d) (i + 1) y)), ⟨_, Nat.mod_lt _ (by omega), rfl, rfl, ?_⟩, ?_⟩
    · rw [show tR (valP P c d) y - i = (tR (valP P c d) y - (i + 1)) + 1 by omega, mulL] at h4
      exact h4
    · show FX7_times_L8 _ _ _ _ _ _ _ _ _ _ _ = FX7_times_L8 _ _ _ _ _ _ _ _ _ _ _
      rw [FX7_times_L8, gi_i (in_n (by omega : y < 200) (by omega)), if_neg (by rw [cy, hpy]; exact nI_ge hi (by omega)), h2, h3, ob_i (m_slope (by omega) hP2 hk hz hd hc hp), gd_i (ne0_n (by omega) (by omega)), bd, pk_mul, irm_n (by omega) (by omega) (by omega), gi_i (in_n (by omega : it (valP P c d) i y < 200) (by omega)), cl_n (n := it (valP P c d) i y) (by omega), (h _ hz).1, bd, bd, nI_1]
      rfl)
  obtain ⟨v, h1, h2, h3, h4⟩ := h1
  rw [Nat.sub_self] at h4
  rw [FX7_times]
  refine e1.trans ?_
  rw [h2, ← h4]
  rfl
/-- the head of rank i below N, or none -/
def AtR (g : Nat → Nat) (i : Int32) (N : Nat) (low : Int32) : Prop := (low = -1000000 ∧ ∀ h, h < N → hd g h = true → ¬ nI (rk g h) = i) ∨ ∃ h, h < N ∧ hd g h = true ∧ nI (rk g h) = i ∧ low = nI h
theorem m_ring_L {P : Nat} {g : Nat → Nat} {x1 x2 x3 thr sta : Int32} {deg num goe tai per lea com see : Nat → Int32} (hg : ∀ x, x < P → g x < P) (hP2 : P < 200) (h : WaysM g P goe tai per lea com) : ∃ low, AtR g x2 P low ∧ FX7_ring_L57 x1 x2 x3 thr sta (nI P) deg num goe tai per lea com see FU 0 (-1000000) 0 = (if low = -1000000 then some (-1000000, thr, sta, goe, tai, per, lea, com, see) else FX7_ring_L128 x1 x3 low thr sta (nI P) deg num goe tai per lea com see FU 0 0) := by
  obtain ⟨st, h1, e1⟩ := cloop0 (σ := Int32 × Int32) P (by omega) (fun fuel i st => FX7_ring_L57 x1 x2 x3 thr sta (nI P) deg num goe tai per lea com see fuel st.1 st.2 i) (fun st => if st.2 = -1000000 then some (-1000000, thr, sta, goe, tai, per, lea, com, see) else FX7_ring_L128 x1 x3 st.2 thr sta (nI P) deg num goe tai per lea com see FU 0 0) (fun i st => st.1 = nI (rk g i) ∧ AtR g x2 i st.2) (0, -1000000) ⟨rfl, Or.inl ⟨rfl, fun h hh => by omega⟩⟩ (fun fuel st h1 => by
    show FX7_ring_L57 _ _ _ _ _ _ _ _ _ _ _ _ _ _ _ _ _ _ = _
    rw [FX7_ring_L57, if_pos (Int32.le_refl _)]) (fun fuel i st hi h1 => by
    obtain ⟨h1, h2⟩ := h1
    have es : rk g (i + 1) = rk g i + (if hd g i = true then 1 else 0) := fb_ct_succ _ _
    have hk := rk_le g i
    by_cases h0 : hd g i = true
    · rw [if_pos h0] at es
      by_cases h3 : nI (rk g i) = x2
      · refine ⟨(nI (rk g (i + 1)), nI i), ⟨rfl, Or.inr ⟨i, by omega, h0, h3, rfl⟩⟩, ?_⟩
        show FX7_ring_L57 _ _ _ _ _ _ _ _ _ _ _ _ _ _ _ _ _ _ = FX7_ring_L57 _ _ _ _ _ _ _ _ _ _ _ _ _ _ _ _ _ _
        rw [FX7_ring_L57, if_neg (nI_ge hi (by omega)), gi_i (in_n (by omega : i < 200) (by omega)), cl_n (by omega), head_if hg hP2 h hi, if_pos h0, h1, if_pos h3, FX7_ring_J101, bd, FX7_ring_J106, bd, nI_1, nI_1, es]
      · refine ⟨(nI (rk g (i + 1)), st.2), ⟨rfl, ?_⟩, ?_⟩
        · rcases h2 with ⟨h2, h4⟩ | ⟨y, h4, h5, h6, h7⟩
          · refine Or.inl ⟨h2, fun y hy hyd => ?_⟩
            by_cases hyi : y = i
            · subst hyi; exact h3
            · exact h4 y (by omega) hyd
          · exact Or.inr ⟨y, by omega, h5, h6, h7⟩
        · show FX7_ring_L57 _ _ _ _ _ _ _ _ _ _ _ _ _ _ _ _ _ _ = FX7_ring_L57 _ _ _ _ _ _ _ _ _ _ _ _ _ _ _ _ _ _
          rw [FX7_ring_L57, if_neg (nI_ge hi (by omega)), gi_i (in_n (by omega : i < 200) (by omega)), cl_n (by omega), head_if hg hP2 h hi, if_pos h0, h1, if_neg h3, FX7_ring_J101, bd, FX7_ring_J106, bd, nI_1, nI_1, es]
    · rw [if_neg h0, Nat.add_zero (rk g i)] at es
      refine ⟨(st.1, st.2), ⟨h1.trans (by rw [es]), ?_⟩, ?_⟩
      · rcases h2 with ⟨h2, h4⟩ | ⟨y, h4, h5, h6, h7⟩
        · refine Or.inl ⟨h2, fun y hy hyd => ?_⟩
          by_cases hyi : y = i
          · subst hyi; exact absurd hyd h0
          · exact h4 y (by omega) hyd
        · exact Or.inr ⟨y, by omega, h5, h6, h7⟩
      · show FX7_ring_L57 _ _ _ _ _ _ _ _ _ _ _ _ _ _ _ _ _ _ = FX7_ring_L57 _ _ _ _ _ _ _ _ _ _ _ _ _ _ _ _ _ _
        rw [FX7_ring_L57, if_neg (nI_ge hi (by omega)), gi_i (in_n (by omega : i < 200) (by omega)), cl_n (by omega), head_if hg hP2 h hi, if_neg h0, FX7_ring_J106, bd, nI_1])
  exact ⟨st.2, h1.2, e1⟩
/-- how many points come to the ring of y -/
theorem m_ring_all {P y : Nat} {g : Nat → Nat} {x1 x3 thr sta : Int32} {deg num goe tai per lea com see : Nat → Int32} (hg : ∀ x, x < P → g x < P) (hP2 : P < 200) (h : WaysM g P goe tai per lea com) (hy : y < P) {R : Option M9} (hR : FX7_ring_L128 x1 x3 (nI y) thr sta (nI P) deg num goe tai per lea com see 1 (nI (fb_ct (fun z => decide (tM g z = y)) P)) (nI P) = R) : FX7_ring_L128 x1 x3 (nI y) thr sta (nI P) deg num goe tai per lea com see FU 0 0 = R := by
  obtain ⟨st, h1, e1⟩ := cloop0 (σ := Int32) P (by omega) (fun fuel i st => FX7_ring_L128 x1 x3 (nI y) thr sta (nI P) deg num goe tai per lea com see fuel st i) (fun st => FX7_ring_L128 x1 x3 (nI y) thr sta (nI P) deg num goe tai per lea com see 1 st (nI P)) (fun i st => st = nI (fb_ct (fun z => decide (tM g z = y)) i)) 0 rfl (fun fuel st h1 => by
    show FX7_ring_L128 _ _ _ _ _ _ _ _ _ _ _ _ _ _ _ _ _ = FX7_ring_L128 _ _ _ _ _ _ _ _ _ _ _ _ _ _ _ _ _
    rw [FX7_ring_L128, FX7_ring_L128, if_pos (Int32.le_refl _), if_pos (Int32.le_refl _)]) (fun fuel i st hi h1 => by
    subst h1
    have hw := (h i hi).2.2.2.2
    have hM := tM_lt hg hi
    refine ⟨nI (fb_ct (fun z => decide (tM g z = y)) (i + 1)), rfl, ?_⟩
    show FX7_ring_L128 _ _ _ _ _ _ _ _ _ _ _ _ _ _ _ _ _ = FX7_ring_L128 _ _ _ _ _ _ _ _ _ _ _ _ _ _ _ _ _
    rw [FX7_ring_L128, if_neg (nI_ge hi (by omega)), gi_i (in_n (by omega : i < 200) (by omega)), cl_n (by omega), hw]
    by_cases h0 : tM g i = y
    · rw [if_pos (by rw [h0]), FX7_ring_J156, bd, bd, nI_1, bi_1, ct_t (p := fun z => decide (tM g z = y)) (decide_eq_true h0)]
    · rw [if_neg (by rw [eq_n (by omega) (by omega)]; exact h0), FX7_ring_J156, bd, bd, nI_1, bi_0, ct_f (p := fun z => decide (tM g z = y)) (fun e => h0 (of_decide_eq_true e))])
  rw [h1] at e1
  exact e1.trans hR
theorem nI_neg {n : Nat} {c : Int32} (hn : n < 2147483648) (hc : c < 0) : ¬ nI n = c := fun e => nI_pos (n := n) (by omega) (by rw [e]; exact hc)
theorem op_ring {P : Nat} {PL : List Nat} {sf : Nat → Option Nat} {ppp pdg ptd deg num goe tai per lea com see : Nat → Int32} {pca : Nat → Nat} {pcc : Nat → Nat → Int32} {sta rgs : Int32} {sv : Option Nat} {co ro le lst mu ba nx tl pe en pa : Nat → Int32} (hP : 1 < P) (hP2 : P < 200) (hpl : ∀ q, q ∈ PL → GP P ppp pdg ptd pcc q) (hsf : SF PL sf deg num pdg pcc) (hsv : SV P PL pdg pcc rgs sv co ro le lst mu ba nx tl pe) (x1 x2 x3 : Int32) : Same P PL pdg pcc (FX7_ring sta (nI P) deg num goe tai per lea com see x1 x2 x3) (FX6_ring sta sf P (nI P) rgs sv co ro le lst mu ba (nI P) nx tl pe en pa PL ppp pca pdg ptd pcc x1 x2 x3) := by
  rw [FX7_ring, FX6_ring]
  rcases plc x1 with ⟨e1, e2⟩ | ⟨k, hk, rfl, e1, e2⟩
  · rw [ob_i e1, ob_i e2, if_pos bf0, if_pos bf0]; exact ⟨_, _, rfl, rfl, rfl, rfl, rfl, hsv⟩
  rw [ob_i e1, ob_i e2, if_neg bt0, if_neg bt0]
  rcases m_rng x3 3 (by omega) (B := 3) rfl with ⟨h, e⟩ | ⟨w, hw, rfl, e⟩
  · rw [ob_i e, if_pos bf0]
    rcases h with h | ⟨h1, h2, -⟩
    · rw [if_pos h]; exact ⟨_, _, rfl, rfl, rfl, rfl, rfl, hsv⟩
    · rw [if_neg h1, if_neg (show ¬ x3 ≤ 3 from h2)]; exact ⟨_, _, rfl, rfl, rfl, rfl, rfl, hsv⟩
  rw [ob_i e, if_neg bt0, if_neg (nI_pos (by omega)), if_pos (show nI w ≤ 3 from nI_le (b := 3) hw (by omega)), gi_i (in_n hk (by omega)), cl_n (n := k) (by omega)]
  rcases hsf k hk with ⟨s1, s2⟩ | ⟨q, s1, hq, s3, s4⟩
  · rw [s1, ob_i (look_no hk s2)]
    exact ⟨_, _, rfl, rfl, rfl, rfl, rfl, hsv⟩
  have hg := hpl q hq
  rw [s1, ob_i (look_ok hk (s3.trans hg.2.1) (dq_le hg)), bd, bd, if_pos (by decide), oq, gd_i hq]
  obtain ⟨goe', tai', per', lea', com', see', e3, hw3⟩ := ways_of (goe := goe) (tai := tai) (per := per) (lea := lea) (com := com) (see := see) hP hP2 hk hg s3 s4
  obtain ⟨rgs', co', ro', le', lst', mu', ba', nx', tl', pe', en', pa', e4, hr⟩ := roads_of (pca := pca) (en := en) (pa := pa) hP hP2 hq hg hsv
  rw [ob_i e3, ob_i e4]
  have hv := val_in (P := P) (c := cq pcc q) (d := dq pdg q) (by omega)
  have hr0 := hr
  obtain ⟨r0, -, r6⟩ := hr0
  subst r0
  have hrk := rk_le (valP P (cq pcc q) (dq pdg q)) P
  dsimp only
  obtain ⟨low, hlow, e5⟩ := m_ring_L (x1 := nI k) (x2 := x2) (x3 := nI w) (thr := 0) (sta := 0) (deg := deg) (num := num) (see := see') hv hP2 hw3
  rw [e5, FX3_ofRing]
  rcases hlow with ⟨h1, h2⟩ | ⟨y, hy, hyd, h3, h4⟩
  · rw [if_pos h1]
    have hx : ∀ j : Nat, x2 = nI j → j < rk (valP P (cq pcc q) (dq pdg q)) P → False := fun j ej hj => by
      obtain ⟨i, i1, i2, i3⟩ := fb_ct_kth hj
      exact h2 i i1 i2 (by rw [ej]; exact congrArg nI i3)
    by_cases h5 : x2 < 0
    · rw [if_pos h5, ob_i rfl, fin6, ob_i rfl]
      exact ⟨_, _, rfl, rfl, rfl, rfl, rfl, SV_of hq hr⟩
    · obtain ⟨j, hj, rfl⟩ := nI_of h5
      rw [if_neg h5, if_neg (by rw [lt_n (by omega) (by omega)]; exact fun h => hx j rfl h), ob_i rfl, fin6, ob_i rfl]
      exact ⟨_, _, rfl, rfl, rfl, rfl, rfl, SV_of hq hr⟩
  · subst h4
    have hky := rk_le (valP P (cq pcc q) (dq pdg q)) y
    have hlt := rk_lt hyd hy
    obtain ⟨l1, l2, l3, l4⟩ := r6 y hy hyd
    have w4 := (hw3 y hy).2.2.2.1
    rw [if_neg (nI_neg (by omega) (by decide)), ← h3, if_neg (nI_pos (by omega)), if_pos (by rw [lt_n (by omega) (by omega)]; exact hlt), cl_n (n := rk (valP P (cq pcc q) (dq pdg q)) y) (by omega), l1, l2, l3, l4]
    have hwz : w = 0 ∨ w = 1 ∨ w = 2 ∨ w = 3 := by omega
    rcases hwz with rfl | rfl | rfl | rfl
    · rw [if_pos (by decide), gi_i (in_n (by omega : rk (valP P (cq pcc q) (dq pdg q)) y < P) (by omega)), ob_i rfl, fin6, ob_i rfl]
      refine ⟨_, _, m_ring_all hv hP2 hw3 hy (by rw [FX7_ring_L128, if_pos (Int32.le_refl _), if_pos (by decide), gi_i (in_n (by omega : y < 200) (by omega)), cl_n (n := y) (by omega), w4]), rfl, rfl, rfl, rfl, SV_of hq hr⟩
    · rw [if_neg (by decide), if_pos (by decide), gi_i (in_n (by omega : rk (valP P (cq pcc q) (dq pdg q)) y < P) (by omega)), ob_i rfl, fin6, ob_i rfl]
      refine ⟨_, _, m_ring_all hv hP2 hw3 hy (by rw [FX7_ring_L128, if_pos (Int32.le_refl _), if_neg (by decide), if_pos (by decide)]), rfl, rfl, rfl, rfl, SV_of hq hr⟩
    · rw [if_neg (by decide), if_neg (by decide), if_pos (by decide), gi_i (in_n (by omega : rk (valP P (cq pcc q) (dq pdg q)) y < P) (by omega)), ob_i rfl, fin6, ob_i rfl]
      refine ⟨_, _, m_ring_all hv hP2 hw3 hy (by rw [FX7_ring_L128, if_pos (Int32.le_refl _), if_neg (by decide), if_neg (by decide), if_pos (by decide), ob_i (m_times hP hP2 hk (s3.trans hg.2.1) (CR_sh s4 hg.2.2.2.1) hg.2.2.2.2 hw3 hy)]), rfl, rfl, rfl, rfl, SV_of hq hr⟩
    · rw [if_neg (by decide), if_neg (by decide), if_neg (by decide), gi_i (in_n (by omega : rk (valP P (cq pcc q) (dq pdg q)) y < P) (by omega)), ob_i rfl, fin6, ob_i rfl]
      refine ⟨_, _, m_ring_all hv hP2 hw3 hy (by rw [FX7_ring_L128, if_pos (Int32.le_refl _), if_neg (by decide), if_neg (by decide), if_neg (by decide)]), rfl, rfl, rfl, rfl, SV_of hq hr⟩
