/-! fraction -/
noncomputable def rB (a : Int) (d : Nat) : Nat → Bool := fun y => @decide (¬ Gone (gC a d) 233 y) (Classical.propDecidable _)
theorem rB_t {a : Int} {d y : Nat} : rB a d y = true ↔ ¬ Gone (gC a d) 233 y := by
  unfold rB
  exact @decide_eq_true_iff _ (Classical.propDecidable _)
noncomputable def cR (a : Int) (d n : Nat) : Nat := fb_ct (rB a d) n
theorem cR_le (a : Int) (d n : Nat) : cR a d n ≤ n := fb_ct_le _ _
theorem cR_t {a : Int} {d n : Nat} (h : rB a d n = true) : cR a d (n + 1) = cR a d n + 1 := ct_t h
theorem cR_f {a : Int} {d n : Nat} (h : ¬ rB a d n = true) : cR a d (n + 1) = cR a d n := ct_f h
theorem cR_mono {a : Int} {d m n : Nat} (h : m ≤ n) : cR a d m ≤ cR a d n := fb_ct_mono _ h
def FR (a : Int) (d : Nat) (fl : Int32) (li tl pe : Nat → Int32) : Prop := fl = nI (cR a d 233) ∧ ∀ y, y < 233 → rB a d y = true → li (cR a d y) = nI y ∧ tl y = nI (tT (gC a d) y) ∧ pe y = nI (tR (gC a d) y)
def FRI (fl fu fw : Int32) (li tl pe : Nat → Int32) : Prop := fw = 0 ∨ ∃ d, 1 ≤ d ∧ d ≤ 30 ∧ fw = nI d ∧ -10000 ≤ fu.toInt ∧ fu.toInt ≤ 10000 ∧ FR fu.toInt d fl li tl pe
theorem x_foll {x1 : Int32} {d y : Nat} (hd : 1 ≤ d) (hd2 : d ≤ 30) (h1 : -10000 ≤ x1.toInt) (h2 : x1.toInt ≤ 10000) (hy : y < 233) : ∃ r, FX0_follower x1 (nI d) (nI y - 116) = some r ∧ ((gC x1.toInt d y < 233 ∧ r = nI (gC x1.toInt d y)) ∨ (gC x1.toInt d y = 233 ∧ (r < 0 ∨ nI 233 ≤ r))) := by
  have ht : (nI y - 116).toInt = (y : Int) - 116 := fI_c (by omega)
  rw [FX0_follower, ob_i (x_gcd (by omega) (by omega)), ht]
  have hgl := gcd_le (k := ((y : Int) - 116).natAbs) (show 0 < d by omega)
  by_cases hg : Nat.gcd ((y : Int) - 116).natAbs d = 1
  · obtain ⟨r, q1, -, q3⟩ := x_image (x3 := nI y - 116) hd hd2 h1 h2 (by omega) (by omega)
    rw [ht] at q3
    rw [if_pos (by rw [one_n (by omega)]; exact hg), ob_i q1]
    have hout : (qv x1.toInt d ((y : Int) - 116) < -116 ∨ 116 < qv x1.toInt d ((y : Int) - 116)) → gC x1.toInt d y = 233 := fun h => by
      unfold gC; rw [if_neg (by omega)]
    by_cases h3 : r < -116
    · have h3' : r.toInt < (-116 : Int) := Int32.lt_iff_toInt_lt.mp h3
      rw [if_pos h3]
      exact ⟨_, rfl, Or.inr ⟨hout (Or.inl (by omega)), Or.inl (by decide)⟩⟩
    · by_cases h4 : 116 < r
      · have h4' : (116 : Int) < r.toInt := Int32.lt_iff_toInt_lt.mp h4
        rw [if_neg h3, if_pos h4]
        exact ⟨_, rfl, Or.inr ⟨hout (Or.inr (by omega)), Or.inl (by decide)⟩⟩
      · have h3' : (-116 : Int) ≤ r.toInt := iI_lt.mp h3
        have h4' : r.toInt ≤ (116 : Int) := iI_lt.mp h4
        have e := gC_eq (a := x1.toInt) (d := d) hy rfl hg (by omega) (by omega)
        rw [if_neg h3, if_neg h4]
        refine ⟨_, rfl, Or.inl ⟨by rw [e]; omega, i_of (by rw [e]; omega) ?_⟩⟩
        have h6 : (116 : Int32).toInt = 116 := rfl
        rw [fb_addI (by rw [h6]; omega) (by rw [h6]; omega), h6, e]; omega
  · rw [if_neg (by rw [one_n (by omega)]; exact hg)]
    refine ⟨_, rfl, Or.inr ⟨?_, Or.inl (by decide)⟩⟩
    unfold gC; rw [if_neg (fun h => hg h.2.1)]
theorem x_fprep {x1 fl fu fw : Int32} {d : Nat} {li nx tl pe en pa : Nat → Int32} (hd : 1 ≤ d) (hd2 : d ≤ 30) (h1 : -10000 ≤ x1.toInt) (h2 : x1.toInt ≤ 10000) (hI : FRI fl fu fw li tl pe) : ∃ fl' fu' fw' li' nx' tl' pe' en' pa', FX0_prepare 233 fl fu fw li (nI 233) nx tl pe en pa x1 (nI d) = some (fl', fu', fw', li', nx', tl', pe', en', pa') ∧ FRI fl' fu' fw' li' tl' pe' ∧ FR x1.toInt d fl' li' tl' pe' := by
  have hJ : ∃ fl' fu' fw' li' nx' tl' pe' en' pa', FX0_prepare_J17 x1 (nI d) 233 li (nI 233) nx tl pe en pa = some (fl', fu', fw', li', nx', tl', pe', en', pa') ∧ FRI fl' fu' fw' li' tl' pe' ∧ FR x1.toInt d fl' li' tl' pe' := by
    obtain ⟨nx1, n1, e1⟩ := cloop0 (σ := Nat → Int32) 233 (by omega) (fun fuel i st => FX0_prepare_L29 233 x1 (nI d) li (nI 233) tl pe en pa fuel i st) (fun st => (ob (FX1_followAll 233 (nI 233) st tl pe en pa) (fun u_67 => FX0_prepare_L77 233 x1 (nI d) (nI 233) st u_67.1 u_67.2.1 u_67.2.2.1 u_67.2.2.2 FU 0 0 li))) (fun i st => ∀ j, j < i → ((gC x1.toInt d j < 233 ∧ st j = nI (gC x1.toInt d j)) ∨ (gC x1.toInt d j = 233 ∧ (st j < 0 ∨ nI 233 ≤ st j)))) nx (fun j hj => by omega) (fun fuel s h1 => by
      show FX0_prepare_L29 _ _ _ _ _ _ _ _ _ _ _ _ = _
      rw [FX0_prepare_L29, if_pos (Int32.le_refl _)]) (fun fuel i s hi hs => by
      obtain ⟨r, q1, q2⟩ := x_foll hd hd2 h1 h2 hi
      refine ⟨upd s i r, fun j hj => ?_, ?_⟩
      · by_cases h : j = i
        · subst h; rw [upd_s]; exact q2
        · rw [upd_n h]; exact hs j (by omega)
      · show FX0_prepare_L29 _ _ _ _ _ _ _ _ _ _ _ _ = FX0_prepare_L29 _ _ _ _ _ _ _ _ _ _ _ _
        rw [FX0_prepare_L29, if_neg (nI_ge hi (by omega)), ob_i q1, gi_i (in_n hi (by omega)), bd, nI_1, cl_n (n := i) (by omega)])
    obtain ⟨tl1, pe1, en1, pa1, e2, hD⟩ := follow_ok (N := 233) (g := gC x1.toInt d) (tl := tl) (pe := pe) (en := en) (pa := pa) (by omega) (gC_N _ _) (nx := nx1) n1
    have hgone : ∀ y, y < 233 → (pe1 y = 0 ↔ ¬ rB x1.toInt d y = true) := fun y hy => by
      obtain ⟨d1, d2⟩ := hD y hy
      rw [rB_t, Classical.not_not]
      constructor
      · intro h
        exact Classical.byContradiction fun hn => by
          obtain ⟨-, f2, -⟩ := d2 hn
          have h5 := tR_pos (gC_cl x1.toInt d) (by omega : y < 234)
          have h6 := tR_le (gC_cl x1.toInt d) (by omega : y < 234)
          rw [f2] at h
          exact ne0_n h5 (by omega) h
      · intro h
        exact (d1 h).2.1
    obtain ⟨⟨fl1, li1⟩, ⟨h3, h4⟩, e3⟩ := cloop0 (σ := Int32 × (Nat → Int32)) 233 (by omega) (fun fuel i st => FX0_prepare_L77 233 x1 (nI d) (nI 233) nx1 tl1 pe1 en1 pa1 fuel i st.1 st.2) (fun st => some (st.1, x1, nI d, st.2, nx1, tl1, pe1, en1, pa1)) (fun i st => st.1 = nI (cR x1.toInt d i) ∧ ∀ y, y < i → rB x1.toInt d y = true → st.2 (cR x1.toInt d y) = nI y) (0, li) ⟨rfl, fun y hy => by omega⟩ (fun fuel s h1 => by
      show FX0_prepare_L77 _ _ _ _ _ _ _ _ _ _ _ _ _ = _
      rw [FX0_prepare_L77, if_pos (Int32.le_refl _)]) (fun fuel i s hi hs => by
      obtain ⟨s1, s2⟩ := hs
      have hle := cR_le x1.toInt d i
      by_cases hb : rB x1.toInt d i = true
      · refine ⟨(nI (cR x1.toInt d i) + 1, upd s.2 (cR x1.toInt d i) (nI i)), ⟨?_, fun y hy hyb => ?_⟩, ?_⟩
        · show nI (cR x1.toInt d i) + 1 = _
          rw [nI_1, cR_t hb]
        · show upd _ _ _ _ = _
          by_cases h : y = i
          · subst h; exact upd_s
          · have hm := cR_mono (a := x1.toInt) (d := d) (show y + 1 ≤ i by omega)
            rw [cR_t hyb] at hm
            rw [upd_n (by omega)]; exact s2 y (by omega) hyb
        · show FX0_prepare_L77 _ _ _ _ _ _ _ _ _ _ _ _ _ = FX0_prepare_L77 _ _ _ _ _ _ _ _ _ _ _ _ _
          rw [FX0_prepare_L77, if_neg (nI_ge hi (by omega)), s1, if_neg (show ¬ Int32.ofNat 233 ≤ nI (cR x1.toInt d i) from nI_ge (b := 233) (by omega) (by omega)), gi_i (in_n hi (by omega)), cl_n (n := i) (by omega), if_neg (fun h => (hgone i hi).mp h hb), gi_i (in_n (by omega) (by omega)), FX0_prepare_J132, bd, nI_1, cl_n (n := cR x1.toInt d i) (by omega)]
      · refine ⟨s, ⟨by rw [cR_f hb]; exact s1, fun y hy hyb => ?_⟩, ?_⟩
        · by_cases h : y = i
          · subst h; exact absurd hyb hb
          · exact s2 y (by omega) hyb
        · show FX0_prepare_L77 _ _ _ _ _ _ _ _ _ _ _ _ _ = FX0_prepare_L77 _ _ _ _ _ _ _ _ _ _ _ _ _
          rw [FX0_prepare_L77, if_neg (nI_ge hi (by omega)), s1, if_neg (show ¬ Int32.ofNat 233 ≤ nI (cR x1.toInt d i) from nI_ge (b := 233) (by omega) (by omega)), gi_i (in_n hi (by omega)), cl_n (n := i) (by omega), if_pos ((hgone i hi).mpr hb), FX0_prepare_J132, bd, nI_1])
    have hFR : FR x1.toInt d fl1 li1 tl1 pe1 := ⟨h3, fun y hy hyb => by
      obtain ⟨-, d2⟩ := hD y hy
      obtain ⟨f1, f2, -⟩ := d2 (rB_t.mp hyb)
      exact ⟨h4 y hy hyb, f1, f2⟩⟩
    refine ⟨fl1, x1, nI d, li1, nx1, tl1, pe1, en1, pa1, ?_, Or.inr ⟨d, hd, hd2, rfl, h1, h2, hFR⟩, hFR⟩
    rw [FX0_prepare_J17, e1, ob_i e2]
    exact e3
  rw [FX0_prepare]
  by_cases c1 : fu = x1
  · by_cases c2 : fw = nI d
    · rw [if_pos c1, if_pos c2]
      refine ⟨fl, fu, fw, li, nx, tl, pe, en, pa, rfl, hI, ?_⟩
      rcases hI with h3 | ⟨d', k1, k2, k3, -, -, k6⟩
      · rw [c2] at h3; exact absurd h3 (ne0_n (by omega) (by omega))
      · rw [c2, eq_n (by omega) (by omega)] at k3
        subst k3; subst c1; exact k6
    · rw [if_pos c1, if_neg c2]; exact hJ
  · rw [if_neg c1]; exact hJ
/-- the count below x, in the model's numbering -/
noncomputable def cM (a : Int) (d x : Nat) : Nat := cR a d (if x < 4 then 0 else if x < 237 then x - 4 else 233)
theorem cM_0 (a : Int) (d : Nat) : cM a d 0 = 0 := by
  unfold cM; rw [if_pos (by omega)]; rfl
theorem cM_end (a : Int) (d : Nat) : cM a d 241 = cR a d 233 := by
  unfold cM; rw [if_neg (by omega), if_neg (by omega)]
theorem cM_t {a : Int} {d x : Nat} (h : RQ a d x) : cM a d x = cR a d (x - 4) ∧ cM a d (x + 1) = cM a d x + 1 := by
  obtain ⟨h1, h2, h3⟩ := h
  have e : cM a d x = cR a d (x - 4) := by unfold cM; rw [if_neg (by omega), if_pos h2]
  refine ⟨e, ?_⟩
  have e2 : cM a d (x + 1) = cR a d (x - 4 + 1) := by
    unfold cM
    rw [if_neg (by omega)]
    by_cases h4 : x + 1 < 237
    · rw [if_pos h4, show x + 1 - 4 = x - 4 + 1 by omega]
    · rw [if_neg h4, show x - 4 + 1 = 233 by omega]
  rw [e2, e, cR_t (rB_t.mpr h3)]
theorem cM_f {a : Int} {d x : Nat} (h : ¬ RQ a d x) : cM a d (x + 1) = cM a d x := by
  unfold cM
  by_cases h1 : x + 1 < 4
  · rw [if_pos h1, if_pos (by omega)]
  · by_cases h2 : x < 4
    · rw [if_neg h1, if_pos h2, if_pos (by omega), show x + 1 - 4 = 0 by omega]
    · rw [if_neg h1, if_neg h2]
      by_cases h3 : x < 237
      · have hb : ¬ rB a d (x - 4) = true := fun e => h ⟨by omega, h3, rB_t.mp e⟩
        rw [if_pos h3]
        by_cases h4 : x + 1 < 237
        · rw [if_pos h4, show x + 1 - 4 = x - 4 + 1 by omega]; exact cR_f hb
        · rw [if_neg h4, show 233 = x - 4 + 1 by omega]; exact cR_f hb
      · rw [if_neg h3, if_neg (by omega)]
theorem cM_le (a : Int) (d x : Nat) : cM a d x ≤ 233 := Nat.le_trans (cR_le a d _) (by
  split
  · omega
  · split <;> omega)
/-- what is told of a listed one -/
noncomputable def aF (a : Int) (d : Nat) (x4 : Int32) (y : Nat) : Int32 := if x4 = 0 then nI y - nI 116 else if x4 = 1 then nI (tT (gC a d) y) else nI (tR (gC a d) y)
def FRes (a : Int) (d : Nat) (x3 x4 res : Int32) : Prop := (x3 = -1000000 ∧ res = nI (cR a d 233)) ∨ (x3 ≠ -1000000 ∧ (∀ y, y < 233 → rB a d y = true → nI (cR a d y) ≠ x3) ∧ res = -1000000) ∨ ∃ y, y < 233 ∧ rB a d y = true ∧ nI (cR a d y) = x3 ∧ res = aF a d x4 y
theorem m_fracL {x1 x3 x4 : Int32} {d : Nat} (hd : 1 ≤ d) (hd2 : d ≤ 30) (h1 : -10000 ≤ x1.toInt) (h2 : x1.toInt ≤ 10000) : ∀ k fuel x (frt frp : Int32) (met : Nat → Int32), x + k = 241 → k < fuel → (∀ y, y < 233 → y + 4 < x → rB x1.toInt d y = true → nI (cR x1.toInt d y) ≠ x3) → ∃ res frt' frp' met', FX7_fraction_L36 x1 (nI d) x3 x4 0 fuel (nI (cM x1.toInt d x)) (nI x - nI 120) frt frp met = some (res, 0, frt', frp', met') ∧ FRes x1.toInt d x3 x4 res
  | 0, fuel, x, frt, frp, met, e1, e2, h3 => by
    obtain ⟨f, rfl⟩ : ∃ f, fuel = f + 1 := ⟨fuel - 1, by omega⟩
    have : x = 241 := by omega
    subst this
    rw [FX7_fraction_L36, if_pos (by decide), cM_end]
    by_cases hN : x3 = -1000000
    · rw [if_pos hN]; exact ⟨_, _, _, _, rfl, Or.inl ⟨hN, rfl⟩⟩
    · rw [if_neg hN]; exact ⟨_, _, _, _, rfl, Or.inr (Or.inl ⟨hN, fun y hy hb => h3 y hy (by omega) hb, rfl⟩)⟩
  | k + 1, fuel, x, frt, frp, met, e1, e2, h3 => by
    obtain ⟨f, rfl⟩ : ∃ f, fuel = f + 1 := ⟨fuel - 1, by omega⟩
    have hx : x < 241 := by omega
    have hng : ¬ (120 : Int32) < nI x - nI 120 := iI_lt.mpr (by
      rw [fI_t (by omega)]
      show (x : Int) - 120 ≤ 120
      omega)
    have hcl := cM_le x1.toInt d x
    obtain ⟨b, frt', frp', met', e3, hb, hv⟩ := m_returns (frt := frt) (frp := frp) (met := met) hd hd2 h1 h2 hx
    rw [FX7_fraction_L36, if_neg hng, ob_i e3]
    cases b with
    | false =>
      have hnQ : ¬ RQ x1.toInt d x := fun h => Bool.false_ne_true (hb.mpr h)
      obtain ⟨res, a, b, c, e4, h4⟩ := m_fracL hd hd2 h1 h2 k f (x + 1) frt' frp' met' (by omega) (by omega) (fun y hy hy2 hyb => by
        by_cases h5 : y + 4 < x
        · exact h3 y hy h5 hyb
        · exact absurd ⟨by omega, by omega, by rw [show x - 4 = y by omega]; exact rB_t.mp hyb⟩ hnQ)
      refine ⟨res, a, b, c, ?_, h4⟩
      rw [if_pos bf0, FX7_fraction_J91, bd, df_up, ← cM_f hnQ]
      exact e4
    | true =>
      have hQ : RQ x1.toInt d x := hb.mp rfl
      obtain ⟨q1, q2⟩ := hv rfl
      obtain ⟨c1, c2⟩ := cM_t hQ
      rw [if_neg bt0]
      by_cases h5 : nI (cM x1.toInt d x) = x3
      · rw [if_pos h5]
        have hres : ∀ r : Int32, r = aF x1.toInt d x4 (x - 4) → FRes x1.toInt d x3 x4 r := fun r hr => Or.inr (Or.inr ⟨x - 4, by have := hQ.2.1; omega, rB_t.mpr hQ.2.2, by rw [← c1]; exact h5, hr⟩)
        by_cases h6 : x4 = 0
        · rw [if_pos h6]
          refine ⟨_, _, _, _, rfl, hres _ ?_⟩
          rw [aF, if_pos h6]
          have h7 := hQ.1
          exact Int32.toInt_inj.mp (by rw [fI_t (by omega), fI_c (by omega)]; omega)
        · by_cases h7 : x4 = 1
          · rw [if_neg h6, if_pos h7]
            refine ⟨_, _, _, _, rfl, hres _ ?_⟩
            rw [aF, if_neg h6, if_pos h7]; exact q1
          · rw [if_neg h6, if_neg h7]
            refine ⟨_, _, _, _, rfl, hres _ ?_⟩
            rw [aF, if_neg h6, if_neg h7]; exact q2
      · obtain ⟨res, a, b, c, e4, h4⟩ := m_fracL hd hd2 h1 h2 k f (x + 1) frt' frp' met' (by omega) (by omega) (fun y hy hy2 hyb => by
          by_cases h6 : y + 4 < x
          · exact h3 y hy h6 hyb
          · rw [c1, show x - 4 = y by omega] at h5; exact h5)
        refine ⟨res, a, b, c, ?_, h4⟩
        rw [if_neg h5, bd, nI_1, FX7_fraction_J91, bd, df_up, ← c2]
        exact e4
theorem op_fraction {fl fu fw : Int32} {li nx tl pe en pa : Nat → Int32} {frt frp : Int32} {met : Nat → Int32} (hI : FRI fl fu fw li tl pe) (x1 x2 x3 x4 : Int32) : ∃ a frt' frp' met' fl' fu' fw' li' nx' tl' pe' en' pa', FX7_fraction frt frp met x1 x2 x3 x4 = some (a, 0, frt', frp', met') ∧ FX6_fraction fl fu fw li (nI 233) nx tl pe en pa x1 x2 x3 x4 = some (a, fl', fu', fw', li', nx', tl', pe', en', pa') ∧ FRI fl' fu' fw' li' tl' pe' := by
  rw [FX7_fraction, FX6_fraction]
  rcases pair_ok x1 x2 with ⟨e1, e2⟩ | ⟨d, hd, hd2, rfl, h1, h2, e1, e2⟩
  · rw [ob_i e1, ob_i e2, if_pos bf0, if_pos bf0]; exact ⟨_, _, _, _, _, _, _, _, _, _, _, _, _, rfl, rfl, hI⟩
  rw [ob_i e1, ob_i e2, if_neg bt0, if_neg bt0]
  rcases m_rng x4 2 (by omega) (B := 2) rfl with ⟨h, e⟩ | ⟨w, hw, rfl, e⟩
  · rw [ob_i e, if_pos bf0]
    rcases h with h | ⟨h1, h2, -⟩
    · rw [if_pos h]; exact ⟨_, _, _, _, _, _, _, _, _, _, _, _, _, rfl, rfl, hI⟩
    · rw [if_neg h1, if_neg (show ¬ x4 ≤ 2 from h2)]; exact ⟨_, _, _, _, _, _, _, _, _, _, _, _, _, rfl, rfl, hI⟩
  rw [ob_i e, if_neg bt0, if_neg (nI_pos (by omega)), if_pos (show nI w ≤ 2 from nI_le (b := 2) hw (by omega))]
  obtain ⟨res, frt', frp', met', m1, hres⟩ := m_fracL (x3 := x3) (x4 := nI w) hd hd2 h1 h2 241 FU 0 frt frp met (by omega) (FU_big (by omega)) (fun y hy hy2 => by omega)
  rw [cM_0, show nI 0 - nI 120 = (-120 : Int32) from by decide, show nI 0 = (0 : Int32) from rfl] at m1
  obtain ⟨fl', fu', fw', li', nx', tl', pe', en', pa', c1, hI', hF1, hF2⟩ := x_fprep (nx := nx) (en := en) (pa := pa) hd hd2 h1 h2 hI
  rw [m1, ob_i c1]
  by_cases hN : x3 = -1000000
  · rw [if_pos hN]
    rcases hres with ⟨-, r2⟩ | ⟨r1, -⟩ | ⟨y, hy, hb, r1, -⟩
    · have hr : res = fl' := r2.trans hF1.symm
      subst hr
      exact ⟨_, _, _, _, _, _, _, _, _, _, _, _, _, rfl, rfl, hI'⟩
    · exact absurd hN r1
    · have := cR_le x1.toInt d y
      rw [hN] at r1
      exact absurd (show nI (cR x1.toInt d y) < 0 by rw [r1]; decide) (nI_pos (by omega))
  · rw [if_neg hN]
    have e9 : FX0_ofListed 233 fl' li' tl' pe' x3 (nI w) = some res := by
      rw [FX0_ofListed]
      have hc := cR_le x1.toInt d 233
      by_cases h3 : x3 < 0
      · rw [if_pos h3]
        rcases hres with ⟨r1, -⟩ | ⟨-, -, r2⟩ | ⟨y, hy, hb, r1, -⟩
        · exact absurd r1 hN
        · rw [r2]
        · have := cR_le x1.toInt d y
          rw [← r1] at h3
          exact absurd h3 (nI_pos (by omega))
      · obtain ⟨i, hi, rfl⟩ := nI_of h3
        rw [if_neg h3, hF1]
        by_cases h4 : i < cR x1.toInt d 233
        · rw [if_pos (by rw [lt_n (by omega) (by omega)]; exact h4)]
          obtain ⟨y, hy, hyb, hyc⟩ := fb_ct_kth h4
          have hyc : cR x1.toInt d y = i := hyc
          obtain ⟨f1, f2, f3⟩ := hF2 y hy hyb
          rw [hyc] at f1
          rw [gi_i (in_n (by omega) (by omega)), cl_n (n := i) (by omega), f1, bd]
          have hr : res = aF x1.toInt d (nI w) y := by
            rcases hres with ⟨r1, -⟩ | ⟨-, r1, -⟩ | ⟨z, hz, hzb, r1, r2⟩
            · exact absurd r1 hN
            · exact absurd (by rw [hyc]) (r1 y hy hyb)
            · have := cR_le x1.toInt d z
              rw [eq_n (by omega) (by omega), ← hyc] at r1
              have : z = y := fb_ct_kth_one hzb hyb r1
              subst this; exact r2
          rw [hr, aF]
          by_cases h6 : nI w = 0
          · rw [if_pos h6, if_pos h6]; rfl
          · by_cases h7 : nI w = 1
            · rw [if_neg h6, if_pos h7, if_neg h6, if_pos h7, gi_i (in_n hy (by omega)), cl_n (n := y) (by omega), f2]
            · rw [if_neg h6, if_neg h7, if_neg h6, if_neg h7, gi_i (in_n hy (by omega)), cl_n (n := y) (by omega), f3]
        · rw [if_neg (by rw [lt_n (by omega) (by omega)]; exact h4)]
          rcases hres with ⟨r1, -⟩ | ⟨-, -, r2⟩ | ⟨y, hy, hb, r1, -⟩
          · exact absurd r1 hN
          · rw [r2]
          · have h7 := cR_mono (a := x1.toInt) (d := d) (show y + 1 ≤ 233 by omega)
            have h8 := cR_le x1.toInt d y
            rw [cR_t hb] at h7
            rw [eq_n (by omega) (by omega)] at r1
            omega
    rw [ob_i e9]
    exact ⟨_, _, _, _, _, _, _, _, _, _, _, _, _, rfl, rfl, hI'⟩
