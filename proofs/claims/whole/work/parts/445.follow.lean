/-! the class's walks, one after another -/
theorem walk_loop {N x : Nat} {g : Nat → Nat} {nx tl en pe0 : Nat → Int32} (hN : N < 1000) (hgN : g N = N) (hnx : NXr nx N g) (hx : x < N) (hP0 : PI g N (fun _ => False) tl pe0 en) : ∀ m fuel k pe pa v, k + m = N → m < fuel → (∀ i, i < k → it g i x < N) → (∀ i j, i < j → j < k → it g i x ≠ it g j x) → (∀ i, i < k → pa i = nI (it g i x)) → (∀ i, i < k → pe (it g i x) = -2 ∧ pe0 (it g i x) = -1) → (∀ y, (∀ i, i < k → it g i x ≠ y) → pe y = pe0 y) → AtV N (it g k x) v → ∃ tl' pe' en' pa', FX1_walkFrom_L4 N (nI N) nx tl en fuel (nI k) v pe pa = some (tl', pe', en', pa') ∧ PI g N (fun _ => False) tl' pe' en' ∧ (∀ y, y < N → DnV g N y (tl y) (pe0 y) (en y) → DnV g N y (tl' y) (pe' y) (en' y)) ∧ DnV g N x (tl' x) (pe' x) (en' x) := by
  have hlt := NXr_lt hnx hgN
  intro m
  induction m with
  | zero =>
    intro fuel k pe pa v h1 h2 h3 h4 h5 h6 h7 h8
    obtain ⟨f, rfl⟩ : ∃ f, fuel = f + 1 := ⟨fuel - 1, by omega⟩
    have hk : k = N := by omega
    have hPI : PI g N (fun y => ∃ i, i < k ∧ it g i x = y) tl pe en := ⟨fun y hy hS => by
      have e : pe y = pe0 y := h7 y (fun i hi he => hS ⟨i, hi, he⟩)
      rcases hP0.1 y hy (fun h => h) with q | ⟨q1, q2⟩
      · exact Or.inl (e.trans q)
      · refine Or.inr ⟨by rw [e]; exact q1, fun hl => ?_⟩
        have hd := q2 hl
        have e2 : pe (g y) = pe0 (g y) := h7 _ (fun i hi he => (DnV_seen hN hlt hl hd).1 (by rw [← he]; exact (h6 i hi).2))
        rw [e2]; exact hd, fun y ⟨i, hi, he⟩ => ⟨by rw [← he]; exact h3 i hi, by rw [← he]; exact (h6 i hi).1⟩⟩
    have hend : it g k x < N → pe (it g k x) ≠ -1 := fun hl e => by
      have hn : ∀ i, i < k → it g i x ≠ it g k x := fun i hi he => by rw [← he, (h6 i hi).1] at e; exact absurd e (by decide)
      have := fb_holes N (k + 1) (fun i => it g i x) (fun i hi => by
        rcases Nat.lt_or_ge i k with q | q
        · exact h3 i q
        · have : i = k := by omega
          subst this; exact hl) (fun i j hij hj => by
        rcases Nat.lt_or_ge j k with q | q
        · exact h4 i j hij q
        · have : j = k := by omega
          subst this; exact hn i hij)
      omega
    rw [FX1_walkFrom_L4, if_pos (by rw [hk]; exact Int32.le_refl _)]
    obtain ⟨tl', pe', en', pa', r1, r2, r3, r4⟩ := walk_end hN hgN hnx hx (by omega) h3 h4 h5 hPI h8 hend
    refine ⟨tl', pe', en', pa', r1, r2, fun y hy hd => r3 y hy ?_, r4⟩
    have e2 : pe y = pe0 y := h7 _ (fun i hi he => (DnV_seen hN hlt hy hd).1 (by rw [← he]; exact (h6 i hi).2))
    rw [e2]; exact hd
  | succ m ih =>
    intro fuel k pe pa v h1 h2 h3 h4 h5 h6 h7 h8
    obtain ⟨f, rfl⟩ : ∃ f, fuel = f + 1 := ⟨fuel - 1, by omega⟩
    have hPI : PI g N (fun y => ∃ i, i < k ∧ it g i x = y) tl pe en := ⟨fun y hy hS => by
      have e : pe y = pe0 y := h7 y (fun i hi he => hS ⟨i, hi, he⟩)
      rcases hP0.1 y hy (fun h => h) with q | ⟨q1, q2⟩
      · exact Or.inl (e.trans q)
      · refine Or.inr ⟨by rw [e]; exact q1, fun hl => ?_⟩
        have hd := q2 hl
        have e2 : pe (g y) = pe0 (g y) := h7 _ (fun i hi he => (DnV_seen hN hlt hl hd).1 (by rw [← he]; exact (h6 i hi).2))
        rw [e2]; exact hd, fun y ⟨i, hi, he⟩ => ⟨by rw [← he]; exact h3 i hi, by rw [← he]; exact (h6 i hi).1⟩⟩
    have hold : ∀ y, y < N → DnV g N y (tl y) (pe0 y) (en y) → DnV g N y (tl y) (pe y) (en y) := fun y hy hd => by
      have e2 : pe y = pe0 y := h7 _ (fun i hi he => (DnV_seen hN hlt hy hd).1 (by rw [← he]; exact (h6 i hi).2))
      rw [e2]; exact hd
    have fin : (it g k x < N → pe (it g k x) ≠ -1) → ∃ tl' pe' en' pa', FX1_walkFrom_J58 (nI k) v N (nI N) nx tl pe en pa = some (tl', pe', en', pa') ∧ PI g N (fun _ => False) tl' pe' en' ∧ (∀ y, y < N → DnV g N y (tl y) (pe0 y) (en y) → DnV g N y (tl' y) (pe' y) (en' y)) ∧ DnV g N x (tl' x) (pe' x) (en' x) := fun hend => by
      obtain ⟨tl', pe', en', pa', r1, r2, r3, r4⟩ := walk_end hN hgN hnx hx (by omega) h3 h4 h5 hPI h8 hend
      exact ⟨tl', pe', en', pa', r1, r2, fun y hy hd => r3 y hy (hold y hy hd), r4⟩
    rw [FX1_walkFrom_L4, if_neg (nI_ge (by omega) (by omega))]
    rcases h8 with ⟨hz, rfl⟩ | ⟨hz, hv⟩
    · rw [ob_i (inside_t hz (by omega)), if_neg bi_t, gi_i (in_n hz (by omega)), cl_n (by omega)]
      by_cases hc : pe (it g k x) = -1
      · have hn : ∀ i, i < k → it g i x ≠ it g k x := fun i hi he => by rw [← he, (h6 i hi).1] at hc; exact absurd hc (by decide)
        have h0 : pe0 (it g k x) = -1 := by rw [← h7 _ hn]; exact hc
        rw [if_pos hc, gi_i (in_n hz (by omega)), gi_i (in_n (by omega) (by omega)), bd, gi_i (in_n hz (by omega)), bd, cl_n (by omega), nI_1]
        refine ih f (k + 1) (upd pe (it g k x) (-2)) (upd pa k (nI (it g k x))) (nx (it g k x)) (by omega) (by omega) (fun i hi => ?_) (fun i j hij hj => ?_) (fun i hi => ?_) (fun i hi => ?_) (fun y hy => ?_) (hnx _ hz)
        · by_cases hik : i = k
          · subst hik; exact hz
          · exact h3 i (by omega)
        · by_cases hjk : j = k
          · subst hjk; exact hn i hij
          · exact h4 i j hij (by omega)
        · by_cases hik : i = k
          · subst hik; exact upd_s
          · rw [upd_n hik]; exact h5 i (by omega)
        · by_cases hik : i = k
          · subst hik; exact ⟨upd_s, h0⟩
          · rw [upd_n (hn i (by omega))]; exact h6 i (by omega)
        · rw [upd_n (fun e => hy k (by omega) e.symm)]; exact h7 y (fun i hi => hy i (by omega))
      · rw [if_neg hc]
        exact fin (fun _ => hc)
    · rw [ob_i (inside_f hv), if_pos bi_f]
      exact fin (fun h => by omega)
theorem walk_ok {N x : Nat} {g : Nat → Nat} {nx tl pe en pa : Nat → Int32} (hN : N < 1000) (hgN : g N = N) (hnx : NXr nx N g) (hx : x < N) (hP0 : PI g N (fun _ => False) tl pe en) : ∃ tl' pe' en' pa', FX1_walkFrom N (nI N) nx tl pe en pa (nI x) = some (tl', pe', en', pa') ∧ PI g N (fun _ => False) tl' pe' en' ∧ (∀ y, y < N → DnV g N y (tl y) (pe y) (en y) → DnV g N y (tl' y) (pe' y) (en' y)) ∧ DnV g N x (tl' x) (pe' x) (en' x) := by
  rw [FX1_walkFrom]
  exact walk_loop hN hgN hnx hx hP0 N FU 0 pe pa (nI x) (by omega) (FU_big (by omega)) (fun i h => by omega) (fun i j _ h => by omega) (fun i h => by omega) (fun i h => by omega) (fun y _ => rfl) (Or.inl ⟨hx, rfl⟩)
theorem j_fill {n : Nat} (hn : n < 100000) (f : Nat → Int32) (v : Int32) : ∃ f', FJ7_fill_53178 n f v = some f' ∧ ∀ i, i < n → f' i = v := by
  obtain ⟨f', h1, e1⟩ := cloop0 (σ := Nat → Int32) n hn (fun fuel i st => FJ7_fill_53178_L5 v (Int32.ofNat n) n fuel i st) (fun st => some st) (fun i st => ∀ j, j < i → st j = v) f (fun j h => by omega) (fun fuel st h => by
    rw [FJ7_fill_53178_L5]; exact if_pos (Int32.le_refl _)) (fun fuel i st hi h => ⟨upd st i v, fun j hj => by
      by_cases hji : j = i
      · subst hji; exact upd_s
      · exact (upd_n hji).trans (h j (by omega)), by
      rw [FJ7_fill_53178_L5, if_neg (show ¬ Int32.ofNat n ≤ nI i from nI_ge hi (by omega)), gi_i (in_n hi (by omega)), bd, cl_n (by omega), nI_1]⟩)
  exact ⟨f', e1, h1⟩
/-- after followAll every point is told -/
theorem follow_ok {N : Nat} {g : Nat → Nat} {nx tl pe en pa : Nat → Int32} (hN : N < 1000) (hgN : g N = N) (hnx : NXr nx N g) : ∃ tl' pe' en' pa', FX1_followAll N (nI N) nx tl pe en pa = some (tl', pe', en', pa') ∧ ∀ y, y < N → DnV g N y (tl' y) (pe' y) (en' y) := by
  obtain ⟨pe1, f1, f2⟩ := j_fill (n := N) (by omega) pe (-1)
  rw [FX1_followAll, ob_i f1]
  obtain ⟨⟨tl', pe', en', pa'⟩, h1, e1⟩ := cloop0 (σ := (Nat → Int32) × (Nat → Int32) × (Nat → Int32) × (Nat → Int32)) N (by omega) (fun fuel i st => FX1_followAll_L10 N (nI N) nx fuel i st.1 st.2.1 st.2.2.1 st.2.2.2) (fun st => some (st.1, st.2.1, st.2.2.1, st.2.2.2)) (fun i st => PI g N (fun _ => False) st.1 st.2.1 st.2.2.1 ∧ ∀ y, y < i → DnV g N y (st.1 y) (st.2.1 y) (st.2.2.1 y)) (tl, pe1, en, pa) ⟨⟨fun y hy _ => Or.inl (f2 y hy), fun y h => h.elim⟩, fun y h => by omega⟩ (fun fuel st h => by
    show FX1_followAll_L10 _ _ _ _ _ _ _ _ _ = _
    rw [FX1_followAll_L10, if_pos (Int32.le_refl _)]) (fun fuel i st hi h => by
    obtain ⟨tl2, pe2, en2, pa2, r1, r2, r3, r4⟩ := walk_ok (pa := st.2.2.2) hN hgN hnx hi h.1
    refine ⟨(tl2, pe2, en2, pa2), ⟨r2, fun y hy => ?_⟩, ?_⟩
    · by_cases hyi : y = i
      · subst hyi; exact r4
      · exact r3 y (by omega) (h.2 y (by omega))
    · show FX1_followAll_L10 _ _ _ _ _ _ _ _ _ = FX1_followAll_L10 _ _ _ _ _ _ _ _ _
      rw [FX1_followAll_L10, if_neg (nI_ge hi (by omega)), ob_i r1, bd, nI_1])
  exact ⟨tl', pe', en', pa', e1, h1.2⟩
