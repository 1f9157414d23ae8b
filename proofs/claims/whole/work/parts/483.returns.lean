/-! fractions: does one return? the model's walk -/
theorem in_120 (x : Int32) : FX7_in x.toInt64 (-120) 120 = some (decide ((-120 : Int32) ≤ x ∧ x ≤ 120)) := m_inI (a := -120) (b := 120)
theorem in120_t {x : Int32} (h1 : -120 ≤ x.toInt) (h2 : x.toInt ≤ 120) : FX7_in x.toInt64 (-120) 120 = some true := by
  rw [in_120, decide_eq_true ⟨Int32.le_iff_toInt_le.mpr h1, Int32.le_iff_toInt_le.mpr h2⟩]
theorem in120_f {x : Int32} (h : x.toInt < -120 ∨ 120 < x.toInt) : FX7_in x.toInt64 (-120) 120 = some false := by
  rw [in_120, decide_eq_false (fun e => by
    have h1 : (-120 : Int) ≤ x.toInt := Int32.le_iff_toInt_le.mp e.1
    have h2 : x.toInt ≤ (120 : Int) := Int32.le_iff_toInt_le.mp e.2
    omega)]
/-- at stands for y -/
def RP (at' : Int32) (y : Nat) : Prop := (y < 241 ∧ at'.toInt = (y : Int) - 120) ∨ (y = 241 ∧ (at'.toInt < -120 ∨ 120 < at'.toInt))
theorem at_120 {at' : Int32} {y : Nat} (h : y < 241) (e : at'.toInt = (y : Int) - 120) : at' + 120 = nI y := i_of (by omega) (by
  have h2 : (120 : Int32).toInt = 120 := rfl
  rw [fb_addI (by rw [h2]; omega) (by rw [h2]; omega), h2, e]; omega)
theorem RP_next {x1 at' : Int32} {d y : Nat} (hd : 1 ≤ d) (hd2 : d ≤ 30) (h1 : -10000 ≤ x1.toInt) (h2 : x1.toInt ≤ 10000) (hy : y < 241) (e : at'.toInt = (y : Int) - 120) : ∃ r, FX7_nextOf x1 (nI d) at' = some r ∧ RP r (gM x1.toInt d y) := by
  obtain ⟨r, -, q2, q3⟩ := x_image (x3 := at') hd hd2 h1 h2 (by omega) (by omega)
  rw [e] at q3
  refine ⟨r, q2, ?_⟩
  unfold gM
  by_cases hc : y < 241 ∧ -120 ≤ qv x1.toInt d ((y : Int) - 120) ∧ qv x1.toInt d ((y : Int) - 120) ≤ 120
  · rw [if_pos hc]; exact Or.inl ⟨by omega, by omega⟩
  · rw [if_neg hc]; exact Or.inr ⟨rfl, by omega⟩
theorem m_ret42 {x1 : Int32} {d x : Nat} {frt frp : Int32} (hd : 1 ≤ d) (hd2 : d ≤ 30) (h1 : -10000 ≤ x1.toInt) (h2 : x1.toInt ≤ 10000) (hx : x < 241) : ∀ m fuel n (at' : Int32) (met : Nat → Int32), n + m = 242 → m < fuel → (∀ i j, i < j → j < n → it (gM x1.toInt d) i x ≠ it (gM x1.toInt d) j x) → (∀ i, i < n → it (gM x1.toInt d) i x < 241 ∧ met (it (gM x1.toInt d) i x) = nI i) → (∀ y, y < 241 → (∀ i, i < n → it (gM x1.toInt d) i x ≠ y) → met y < 0) → RP at' (it (gM x1.toInt d) n x) → (¬ Gone (gM x1.toInt d) 241 x ∧ ∃ met', FX7_returns_L42 x1 (nI d) frt frp fuel at' (nI n) met = some (true, nI (tT (gM x1.toInt d) x), nI (tR (gM x1.toInt d) x), met')) ∨ (Gone (gM x1.toInt d) 241 x ∧ ∃ met', FX7_returns_L42 x1 (nI d) frt frp fuel at' (nI n) met = some (false, frt, frp, met')) := by
  intro m
  induction m with
  | zero =>
    intro fuel n at' met e1 e2 e3 e4 e5 e6
    exfalso
    have := fb_holes 241 n (fun i => it (gM x1.toInt d) i x) (fun i hi => (e4 i hi).1) e3
    omega
  | succ m ih =>
    intro fuel n at' met e1 e2 e3 e4 e5 e6
    obtain ⟨f, rfl⟩ : ∃ f, fuel = f + 1 := ⟨fuel - 1, by omega⟩
    rcases e6 with ⟨hy, hat⟩ | ⟨hy, hat⟩
    · have ha := at_120 hy hat
      have hin := in120_t (x := at') (by omega) (by omega)
      by_cases hc : ∃ i, i < n ∧ it (gM x1.toInt d) i x = it (gM x1.toInt d) n x
      · obtain ⟨i, hi, he⟩ := hc
        have hTP : TP (gM x1.toInt d) x i (n - i) := ⟨by omega, by rw [show i + (n - i) = n by omega]; exact he.symm, fun a b hab hb => e3 a b hab (by omega)⟩
        have hs : met (it (gM x1.toInt d) n x) = nI i := by rw [← he]; exact (e4 i hi).2
        refine Or.inl ⟨fun ⟨k, hk⟩ => ?_, met, ?_⟩
        · by_cases hk2 : k < n
          · have := (e4 k hk2).1; omega
          · have hl := Nat.mod_lt (k - i) (show 0 < n - i by omega)
            have := TP_mod hTP (n := k) (by omega)
            have := (e4 (i + (k - i) % (n - i)) (by omega)).1
            omega
        · rw [FX7_returns_L42, ob_i hin, if_neg bt0, ha, gi_i (in_n hy (by omega)), cl_n (by omega), hs, if_pos (nI_pos' (by omega)), FX7_returns_J97, ob_i hin, if_neg bt0, ha, gi_i (in_n hy (by omega)), cl_n (by omega), hs, sub_n (by omega), tT_of hTP, tR_of hTP]
      · have hs : met (it (gM x1.toInt d) n x) < 0 := e5 _ hy (fun i hi he => hc ⟨i, hi, he⟩)
        obtain ⟨r, q1, q2⟩ := RP_next hd hd2 h1 h2 hy hat
        have hk := ih f (n + 1) r (upd met (it (gM x1.toInt d) n x) (nI n)) (by omega) (by omega) (fun i j hij hj => by
          by_cases hjn : j = n
          · subst hjn; exact fun e => hc ⟨i, hij, e⟩
          · exact e3 i j hij (by omega)) (fun i hi => by
          by_cases hin : i = n
          · subst hin; exact ⟨hy, upd_s⟩
          · refine ⟨(e4 i (by omega)).1, ?_⟩
            rw [upd_n (fun e => hc ⟨i, by omega, e⟩)]; exact (e4 i (by omega)).2) (fun y hy hn => by
          rw [upd_n (fun e => hn n (by omega) e.symm)]; exact e5 y hy (fun i hi => hn i (by omega))) q2
        have est : FX7_returns_L42 x1 (nI d) frt frp (f + 1) at' (nI n) met = FX7_returns_L42 x1 (nI d) frt frp f r (nI (n + 1)) (upd met (it (gM x1.toInt d) n x) (nI n)) := by
          rw [FX7_returns_L42, ob_i hin, if_neg bt0, ha, gi_i (in_n hy (by omega)), cl_n (by omega), if_neg (by rw [Int32.le_iff_toInt_le]; rw [Int32.lt_iff_toInt_lt] at hs; exact fun h => absurd hs (by omega)), gi_i (in_n hy (by omega)), bd, ob_i q1, nI_1]
        rw [est]
        exact hk
    · refine Or.inr ⟨⟨n, hy⟩, met, ?_⟩
      rw [FX7_returns_L42, ob_i (in120_f hat), if_pos bf0, FX7_returns_J97, ob_i (in120_f hat), if_pos bf0]
theorem fI_t {x : Nat} (h : x < 1000) : (nI x - nI 120).toInt = (x : Int) - 120 := by
  rw [fb_subI (by rw [nI_toInt (by omega), nI_toInt (by omega)]; omega) (by rw [nI_toInt (by omega), nI_toInt (by omega)]; omega), nI_toInt (by omega), nI_toInt (by omega)]; rfl
theorem fI_c {x : Nat} (h : x < 1000) : (nI x - nI 116).toInt = (x : Int) - 116 := by
  rw [fb_subI (by rw [nI_toInt (by omega), nI_toInt (by omega)]; omega) (by rw [nI_toInt (by omega), nI_toInt (by omega)]; omega), nI_toInt (by omega), nI_toInt (by omega)]; rfl
theorem m_returns {x1 : Int32} {d x : Nat} {frt frp : Int32} {met : Nat → Int32} (hd : 1 ≤ d) (hd2 : d ≤ 30) (h1 : -10000 ≤ x1.toInt) (h2 : x1.toInt ≤ 10000) (hx : x < 241) : ∃ b frt' frp' met', FX7_returns frt frp met x1 (nI d) (nI x - nI 120) = some (b, frt', frp', met') ∧ (b = true ↔ RQ x1.toInt d x) ∧ (b = true → frt' = nI (tT (gC x1.toInt d) (x - 4)) ∧ frp' = nI (tR (gC x1.toInt d) (x - 4))) := by
  have ht := fI_t (x := x) (by omega)
  rw [FX7_returns, ob_i (m_gcd (by omega) (by omega)), ht]
  have hgl := gcd_le (k := ((x : Int) - 120).natAbs) (show 0 < d by omega)
  by_cases hg : Nat.gcd ((x : Int) - 120).natAbs d = 1
  · rw [if_pos (by rw [one_n (by omega)]; exact hg)]
    obtain ⟨me, m1, e1⟩ := cloop0 (σ := Nat → Int32) 241 (by omega) (fun fuel i st => FX7_returns_L14 x1 (nI d) (nI x - nI 120) frt frp fuel i st) (fun st => FX7_returns_L42 x1 (nI d) frt frp FU (nI x - nI 120) 0 st) (fun i st => ∀ j, j < i → st j = -1) met (fun j hj => by omega) (fun fuel s h1 => by
      show FX7_returns_L14 _ _ _ _ _ _ _ _ = _
      rw [FX7_returns_L14, if_pos (by decide)]) (fun fuel i s hi h1 => ⟨upd s i (-1), fun j hj => by
        by_cases h : j = i
        · subst h; exact upd_s
        · rw [upd_n h]; exact h1 j (by omega), by
        show FX7_returns_L14 _ _ _ _ _ _ _ _ = FX7_returns_L14 _ _ _ _ _ _ _ _
        rw [FX7_returns_L14, if_neg (show ¬ (241 : Int32) ≤ nI i from nI_ge (a := i) (b := 241) hi (by omega)), gi_i (in_n hi (by omega)), bd, nI_1, cl_n (n := i) (by omega)]⟩)
    rw [e1]
    have hw := m_ret42 (frt := frt) (frp := frp) hd hd2 h1 h2 hx 242 FU 0 (nI x - nI 120) me (by omega) (FU_big (by omega)) (fun i j h3 h4 => by omega) (fun i h3 => by omega) (fun y hy _ => by rw [m1 y hy]; decide) (Or.inl ⟨hx, ht⟩)
    rcases hw with ⟨hn, met', e2⟩ | ⟨hn, met', e2⟩
    · have hR := (RQ_iff h1 hd hd2 hx).mp ⟨hg, hn⟩
      obtain ⟨t1, t2⟩ := tT_4 (a := x1.toInt) (d := d) (y := x - 4) (by have := hR.2.1; omega) hR.2.2
      rw [show x - 4 + 4 = x by have := hR.1; omega] at t1 t2
      exact ⟨true, _, _, met', e2, ⟨fun _ => hR, fun _ => rfl⟩, fun _ => ⟨by rw [t1], by rw [t2]⟩⟩
    · exact ⟨false, _, _, met', e2, ⟨fun h => (Bool.false_ne_true h).elim, fun h => absurd hn ((RQ_iff h1 hd hd2 hx).mpr h).2⟩, fun h => (Bool.false_ne_true h).elim⟩
  · rw [if_neg (by rw [one_n (by omega)]; exact hg)]
    exact ⟨false, _, _, _, rfl, ⟨fun h => (Bool.false_ne_true h).elim, fun h => absurd ((RQ_iff h1 hd hd2 hx).mpr h).1 hg⟩, fun h => (Bool.false_ne_true h).elim⟩
