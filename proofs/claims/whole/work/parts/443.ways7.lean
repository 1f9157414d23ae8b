/-! the reference's ways -/
theorem m_least {P x t r : Nat} {g : Nat → Nat} {goe : Nat → Int32} {tai per lea com see : Nat → Int32} {k68 : Int32 → (Nat → Int32) → (Nat → Int32) → (Nat → Int32) → (Nat → Int32) → Option ((Nat → Int32) × (Nat → Int32) × (Nat → Int32) × (Nat → Int32) × (Nat → Int32) × (Nat → Int32))} (hP2 : P < 200) (hg : ∀ y, y < P → g y < P) (hgo : ∀ y, y < P → goe y = nI (g y)) (hx : x < P) (hTP : TP g x t r) (htr : t + r ≤ P) (hper : per x = nI r) (pri : Int32) : ∀ n fuel k low, k + n = r → n < fuel → (k = 0 → low = it g t x) → (0 < k → (∃ i, t ≤ i ∧ i < t + k ∧ low = it g i x) ∧ ∀ i, t ≤ i → i < t + k → low ≤ it g i x) → low < P → FX7_findWays_L167 k68 (nI x) pri goe tai per lea com see fuel (nI (it g (t + k) x)) (nI low) (nI k) = k68 (nI (x + 1)) tai per (upd lea x (nI (tM g x))) see := by
  intro n
  induction n with
  | zero =>
    intro fuel k low h1 h2 h3 h4 h5
    obtain ⟨f, rfl⟩ : ∃ f, fuel = f + 1 := ⟨fuel - 1, by omega⟩
    have hk : k = r := by omega
    subst hk
    have hm := tM_of hTP (h4 hTP.1)
    rw [FX7_findWays_L167, gi_i (in_n (by omega) (by omega)), cl_n (by omega), hper, if_pos (by rw [le_n (by omega) (by omega)]; omega), gi_i (in_n (by omega) (by omega)), bd, nI_1, hm]
  | succ n ih =>
    intro fuel k low h1 h2 h3 h4 h5
    obtain ⟨f, rfl⟩ : ∃ f, fuel = f + 1 := ⟨fuel - 1, by omega⟩
    have hat := it_lt hg hx (t + k)
    rw [FX7_findWays_L167, gi_i (in_n (by omega) (by omega)), cl_n (by omega), hper, if_neg (by rw [le_n (by omega) (by omega)]; omega)]
    by_cases hc : low ≤ it g (t + k) x
    · rw [if_pos (by rw [le_n (by omega) (by omega)]; exact hc), FX7_findWays_J190, gi_i (in_n (by omega) (by omega)), bd, bd, cl_n (by omega), hgo _ hat, nI_1]
      refine ih f (k + 1) low (by omega) (by omega) (fun h => by omega) (fun _ => ?_) h5
      rcases Nat.eq_zero_or_pos k with hk | hk
      · have h6 := h3 hk
        subst hk
        exact ⟨⟨t, Nat.le_refl _, by omega, h6⟩, fun i a b => by rw [show i = t by omega, h6]; exact Nat.le_refl _⟩
      · obtain ⟨⟨i, a1, a2, a3⟩, a4⟩ := h4 hk
        refine ⟨⟨i, a1, by omega, a3⟩, fun j b1 b2 => ?_⟩
        by_cases hj : j = t + k
        · subst hj; exact hc
        · exact a4 j b1 (by omega)
    · rw [if_neg (by rw [le_n (by omega) (by omega)]; exact hc), FX7_findWays_J190, gi_i (in_n (by omega) (by omega)), bd, bd, cl_n (by omega), hgo _ hat, nI_1]
      refine ih f (k + 1) (it g (t + k) x) (by omega) (by omega) (fun h => by omega) (fun _ => ⟨⟨t + k, by omega, by omega, rfl⟩, fun j b1 b2 => ?_⟩) hat
      rcases Nat.eq_zero_or_pos k with hk | hk
      · subst hk
        have : j = t := by omega
        subst this; exact Nat.le_refl _
      · obtain ⟨-, a4⟩ := h4 hk
        by_cases hj : j = t + k
        · subst hj; exact Nat.le_refl _
        · have := a4 j b1 (by omega)
          omega
/-- the walk from x: the first point that comes again -/
theorem m_walk {P x : Nat} {g : Nat → Nat} {goe : Nat → Int32} {tai per lea com : Nat → Int32} {k68 : Int32 → (Nat → Int32) → (Nat → Int32) → (Nat → Int32) → (Nat → Int32) → Option ((Nat → Int32) × (Nat → Int32) × (Nat → Int32) × (Nat → Int32) × (Nat → Int32) × (Nat → Int32))} (hP2 : P < 200) (hg : ∀ y, y < P → g y < P) (hgo : ∀ y, y < P → goe y = nI (g y)) (hx : x < P) (pri : Int32) : ∀ m fuel n see, n + m = P + 1 → m < fuel → (∀ i j, i < j → j < n → it g i x ≠ it g j x) → (∀ i, i < n → see (it g i x) = nI i) → (∀ y, y < P → (∀ i, i < n → it g i x ≠ y) → see y < 0) → ∃ see', FX7_findWays_L104 k68 (nI x) pri goe tai per lea com fuel (nI (it g n x)) (nI n) see = k68 (nI (x + 1)) (upd tai x (nI (tT g x))) (upd per x (nI (tR g x))) (upd lea x (nI (tM g x))) see' := by
  intro m
  induction m with
  | zero =>
    intro fuel n see h1 h2 h3 h4 h5
    exfalso
    have := fb_holes P n (fun i => it g i x) (fun i _ => it_lt hg hx i) h3
    omega
  | succ m ih =>
    intro fuel n see h1 h2 h3 h4 h5
    obtain ⟨f, rfl⟩ : ∃ f, fuel = f + 1 := ⟨fuel - 1, by omega⟩
    have hat := it_lt hg hx n
    by_cases hc : ∃ i, i < n ∧ it g i x = it g n x
    · obtain ⟨i, hi, he⟩ := hc
      have hTP : TP g x i (n - i) := ⟨by omega, by rw [show i + (n - i) = n by omega]; exact he.symm, fun a b hab hb => h3 a b hab (by omega)⟩
      have hs : see (it g n x) = nI i := by rw [← he]; exact h4 i hi
      have hle : i + (n - i) ≤ P := by have h9 := t_le hg hx; rw [tT_of hTP, tR_of hTP] at h9; exact h9
      refine ⟨see, ?_⟩
      rw [FX7_findWays_L104, gi_i (in_n (by omega) (by omega)), cl_n (by omega), hs, if_pos (nI_pos' (by omega)), gi_i (in_n (by omega) (by omega)), gi_i (in_n (by omega) (by omega)), gi_i (in_n (by omega) (by omega)), gi_i (in_n (by omega) (by omega)), cl_n (by omega), sub_n (by omega), ← he]
      have key := m_least (tai := upd tai x (nI i)) (per := upd per x (nI (n - i))) (lea := lea) (com := com) (see := see) (k68 := k68) hP2 hg hgo hx hTP hle (by rw [upd_s]) pri (n - i) FU 0 (it g i x) (by omega) (FU_big (by omega)) (fun _ => rfl) (fun h => by omega) (it_lt hg hx i)
      rw [Nat.add_zero] at key
      rw [show (0 : Int32) = nI 0 from rfl, key, tT_of hTP, tR_of hTP]
    · have hs : see (it g n x) < 0 := h5 _ hat (fun i hi he => hc ⟨i, hi, he⟩)
      obtain ⟨see', hk⟩ := ih f (n + 1) (upd see (it g n x) (nI n)) (by omega) (by omega) (fun i j hij hj => by
        by_cases hjn : j = n
        · subst hjn; exact fun e => hc ⟨i, hij, e⟩
        · exact h3 i j hij (by omega)) (fun i hi => by
        by_cases hin : i = n
        · subst hin; exact upd_s
        · rw [upd_n (fun e => hc ⟨i, by omega, e⟩)]; exact h4 i (by omega)) (fun y hy hn => by
        rw [upd_n (fun e => hn n (by omega) e.symm)]; exact h5 y hy (fun i hi => hn i (by omega)))
      refine ⟨see', ?_⟩
      rw [FX7_findWays_L104, gi_i (in_n (by omega) (by omega)), cl_n (by omega), if_neg (by rw [Int32.le_iff_toInt_le]; rw [Int32.lt_iff_toInt_lt] at hs; exact fun h => absurd hs (by omega)), gi_i (in_n (by omega) (by omega)), bd, gi_i (in_n (by omega) (by omega)), bd, hgo _ hat, nI_1]
      exact hk
def WaysM (g : Nat → Nat) (P : Nat) (goe tai per lea com : Nat → Int32) : Prop := ∀ x, x < P → goe x = nI (g x) ∧ com x = nI (fb_ct (fun z => decide (g z = x)) P) ∧ tai x = nI (tT g x) ∧ per x = nI (tR g x) ∧ lea x = nI (tM g x)
theorem m_ways {P a d : Nat} {c : Nat → Nat} {deg num goe tai per lea com see : Nat → Int32} (hP : 0 < P) (hP2 : P < 200) (ha : a < 10) (hd : deg a = nI d) (hc : CR num (5 * a) c) (hp : PolyC P c d) : ∃ goe' tai' per' lea' com' see', FX7_findWays (nI P) deg num goe tai per lea com see (nI a) = some (goe', tai', per', lea', com', see') ∧ WaysM (valP P c d) P goe' tai' per' lea' com' := by
  generalize hge : valP P c d = g
  have hg : ∀ y, y < P → g y < P := fun y _ => by rw [← hge]; exact valP_lt hP
  have hv : ∀ y, y < P → FX7_valueOf (nI P) deg num (nI a) (nI y) = some (nI (g y)) := fun y hy => by rw [← hge]; exact m_value hP hP2 ha hy hd hc hp
  rw [FX7_findWays]
  -- values
  obtain ⟨⟨goe1, com1⟩, ⟨h1, h2⟩, e1⟩ := cloop0 (σ := (Nat → Int32) × (Nat → Int32)) P (by omega) (fun fuel i st => FX7_findWays_L2 (nI a) (nI P) deg num tai per lea see fuel i st.1 st.2) (fun st => FX7_findWays_L37 (nI P) st.1 tai per lea see FU 0 st.2) (fun i st => (∀ y, y < i → st.1 y = nI (g y)) ∧ ∀ y, y < i → st.2 y = 0) (goe, com) ⟨fun y h => by omega, fun y h => by omega⟩ (fun fuel st h => by
    show FX7_findWays_L2 _ _ _ _ _ _ _ _ _ _ _ _ = _
    rw [FX7_findWays_L2, if_pos (Int32.le_refl _)]) (fun fuel i st hi h => ⟨(upd st.1 i (nI (g i)), upd st.2 i 0), ⟨fun y hy => by
      by_cases hyi : y = i
      · subst hyi; exact upd_s
      · exact (upd_n hyi).trans (h.1 y (by omega)), fun y hy => by
      by_cases hyi : y = i
      · subst hyi; exact upd_s
      · exact (upd_n hyi).trans (h.2 y (by omega))⟩, by
      show FX7_findWays_L2 _ _ _ _ _ _ _ _ _ _ _ _ = FX7_findWays_L2 _ _ _ _ _ _ _ _ _ _ _ _
      rw [FX7_findWays_L2, if_neg (nI_ge hi (by omega)), ob_i (hv i hi), gi_i (in_n (by omega) (by omega)), gi_i (in_n (by omega) (by omega)), bd, cl_n (by omega), nI_1]⟩)
  dsimp only at h1 h2 e1
  have e1' : FX7_findWays_L2 (nI a) (nI P) deg num tai per lea see FU 0 goe com = _ := e1
  rw [e1']
  -- how many come to each
  obtain ⟨com2, h3, e2⟩ := cloop0 (σ := Nat → Int32) P (by omega) (fun fuel i st => FX7_findWays_L37 (nI P) goe1 tai per lea see fuel i st) (fun st => FX7_findWays_L68 (nI P) goe1 st FU 0 tai per lea see) (fun i st => ∀ y, y < P → st y = nI (fb_ct (fun z => decide (g z = y)) i)) com1 (fun y h => by rw [h2 y h]; rfl) (fun fuel st h => by
    rw [FX7_findWays_L37, if_pos (Int32.le_refl _)]) (fun fuel i st hi h => ⟨upd st (g i) (nI (fb_ct (fun z => decide (g z = g i)) i) + 1), fun y hy => by
      have hgi := hg i hi
      rw [fb_ct_succ]
      by_cases hyi : y = g i
      · subst hyi; rw [upd_s, nI_1]; simp
      · rw [upd_n hyi, h y hy]
        simp [show ¬ g i = y from fun e => hyi e.symm], by
      have hgi := hg i hi
      rw [FX7_findWays_L37, if_neg (nI_ge hi (by omega)), gi_i (in_n (by omega) (by omega)), cl_n (by omega), h1 i hi, gi_i (in_n (by omega) (by omega)), gi_i (in_n (by omega) (by omega)), bd, cl_n (by omega), h _ hgi, nI_1 i]⟩)
  have e2' : FX7_findWays_L37 (nI P) goe1 tai per lea see FU 0 com1 = _ := e2
  show ∃ goe' tai' per' lea' com' see', FX7_findWays_L37 (nI P) goe1 tai per lea see FU 0 com1 = _ ∧ _
  rw [e2']
  -- the ways
  obtain ⟨⟨tai3, per3, lea3, see3⟩, h4, e3⟩ := cloop0 (σ := (Nat → Int32) × (Nat → Int32) × (Nat → Int32) × (Nat → Int32)) P (by omega) (fun fuel i st => FX7_findWays_L68 (nI P) goe1 com2 fuel i st.1 st.2.1 st.2.2.1 st.2.2.2) (fun st => some (goe1, st.1, st.2.1, st.2.2.1, com2, st.2.2.2)) (fun i st => ∀ y, y < i → st.1 y = nI (tT g y) ∧ st.2.1 y = nI (tR g y) ∧ st.2.2.1 y = nI (tM g y)) (tai, per, lea, see) (fun y h => by omega) (fun fuel st h => by
    show FX7_findWays_L68 _ _ _ _ _ _ _ _ _ = _
    rw [FX7_findWays_L68, if_pos (Int32.le_refl _)]) (fun fuel x st hx h => by
    obtain ⟨see4, h5, e4⟩ := cloop0 (σ := Nat → Int32) P (by omega) (fun f i s => FX7_findWays_L78 (FX7_findWays_L68 (nI P) goe1 com2 fuel) (nI x) (nI P) goe1 st.1 st.2.1 st.2.2.1 com2 f i s) (fun s => FX7_findWays_L104 (FX7_findWays_L68 (nI P) goe1 com2 fuel) (nI x) (nI P) goe1 st.1 st.2.1 st.2.2.1 com2 FU (nI x) 0 s) (fun i s => ∀ y, y < i → s y = -1) st.2.2.2 (fun y h => by omega) (fun f s h => by
      rw [FX7_findWays_L78, if_pos (Int32.le_refl _)]) (fun f i s hi h => ⟨upd s i (-1), fun y hy => by
        by_cases hyi : y = i
        · subst hyi; exact upd_s
        · rw [upd_n hyi]; exact h y (by omega), by
        rw [FX7_findWays_L78, if_neg (nI_ge hi (by omega)), gi_i (in_n (by omega) (by omega)), bd, cl_n (by omega), nI_1]⟩)
    obtain ⟨see5, e5⟩ := m_walk (tai := st.1) (per := st.2.1) (lea := st.2.2.1) (com := com2) (k68 := FX7_findWays_L68 (nI P) goe1 com2 fuel) hP2 hg h1 hx (nI P) (P + 1) FU 0 see4 (by omega) (FU_big (by omega)) (fun i j _ h => by omega) (fun i h => by omega) (fun y hy _ => by rw [h5 y hy]; decide)
    refine ⟨(upd st.1 x (nI (tT g x)), upd st.2.1 x (nI (tR g x)), upd st.2.2.1 x (nI (tM g x)), see5), fun y hy => ?_, ?_⟩
    · by_cases hyx : y = x
      · subst hyx; exact ⟨upd_s, upd_s, upd_s⟩
      · show upd _ _ _ _ = _ ∧ upd _ _ _ _ = _ ∧ upd _ _ _ _ = _
        rw [upd_n hyx, upd_n hyx, upd_n hyx]; exact h y (by omega)
    · show FX7_findWays_L68 _ _ _ _ _ _ _ _ _ = FX7_findWays_L68 _ _ _ _ _ _ _ _ _
      rw [FX7_findWays_L68, if_neg (nI_ge hx (by omega))]
      have e4' : FX7_findWays_L78 (FX7_findWays_L68 (nI P) goe1 com2 fuel) (nI x) (nI P) goe1 st.1 st.2.1 st.2.2.1 com2 FU 0 st.2.2.2 = _ := e4
      rw [e4']
      exact e5)
  have e3' : FX7_findWays_L68 (nI P) goe1 com2 FU 0 tai per lea see = _ := e3
  refine ⟨goe1, tai3, per3, lea3, com2, see3, by rw [e3'], fun x hx => ?_⟩
  obtain ⟨a1, a2, a3⟩ := h4 x hx
  exact ⟨h1 x hx, h3 x hx, a1, a2, a3⟩
