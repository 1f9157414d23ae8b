/-! clear, number, kind, is, as, trace, count -/
theorem nI_ne {a b : Nat} (ha : a < 2147483648) (hb : b < 2147483648) (h : ¬ a = b) : ¬ nI a = nI b := by rw [eq_n ha hb]; exact h
theorem m_kind {P k d : Nat} {c : Nat → Nat} {deg num : Nat → Int32} (hP2 : P < 200) (hk : k < 10) (hd : deg k = nI d) (hc : CR num (5 * k) c) (hp : PolyC P c d) : FX7_kindOf deg num (nI k) = some (nI (kd c d)) := by
  have hd4 := hp.1
  have h1 := hp.2.1 1 (by omega)
  have h2 := hp.2.1 2 (by omega)
  rw [FX7_kindOf, gi_i (in_n hk (by omega)), cl_n (n := k) (by omega), hd, bd, kd]
  by_cases e2 : d = 2
  · subst e2
    rw [if_pos rfl, if_pos (show nI 2 = 2 from rfl), show (2 : Int32) = nI 2 from rfl, i5, gi_i (in_n (by omega : 5 * k + 2 < 50) (by omega)), cl_n (n := 5 * k + 2) (by omega), hc 2 (by omega)]
    by_cases e3 : c 2 = 1
    · rw [if_pos e3, if_pos (by rw [e3]; rfl), show (1 : Int32) = nI 1 from rfl, i5, gi_i (in_n (by omega : 5 * k + 1 < 50) (by omega)), cl_n (n := 5 * k + 1) (by omega), hc 1 (by omega)]
      by_cases e4 : c 1 = 0
      · rw [if_pos e4, if_pos (by rw [e4]; rfl)]; rfl
      · rw [if_neg e4, if_neg (ne0_n (by omega) (by omega))]; rfl
    · rw [if_neg e3, if_neg (show ¬ nI (c 2) = 1 from nI_ne (b := 1) (by omega) (by omega) e3)]; rfl
  · rw [if_neg e2, if_neg (show ¬ nI d = 2 from nI_ne (b := 2) (by omega) (by omega) e2)]
    by_cases e3 : d = 1
    · rw [if_pos e3, if_pos (by rw [e3]; rfl)]; rfl
    · rw [if_neg e3, if_neg (show ¬ nI d = 1 from nI_ne (b := 1) (by omega) (by omega) e3)]
      by_cases e4 : d = 0
      · rw [if_pos e4, if_pos (by rw [e4]; rfl)]; rfl
      · rw [if_neg e4, if_neg (ne0_n (by omega) (by omega))]; rfl
theorem m_kind_of {P k q : Nat} {ppp pdg ptd deg num : Nat → Int32} {pcc : Nat → Nat → Int32} (hP2 : P < 200) (hk : k < 10) (hg : GP P ppp pdg ptd pcc q) (s3 : deg k = pdg q) (s4 : ∀ j, j < 5 → num (5 * k + j) = pcc q j) : FX7_kindOf deg num (nI k) = some (ptd q) := by
  rw [hg.2.2.1]
  exact m_kind hP2 hk (s3.trans hg.2.1) (CR_sh s4 hg.2.2.2.1) hg.2.2.2.2
theorem fits_eq (t x : Int32) : FX2_fits t x = FX7_isOf t x := by
  rw [FX2_fits, FX7_isOf]
  by_cases h0 : x = 0
  · rw [if_pos h0, if_pos h0]
  rw [if_neg h0, if_neg h0]
  by_cases h : x = t
  · rw [if_pos h, if_pos h.symm]
  · rw [if_neg h, if_neg (show ¬ t = x from fun e => h e.symm)]
theorem isOf_t (t x : Int32) : ∃ b, FX7_isOf t x = some b := by
  rw [FX7_isOf]
  split <;> (try split) <;> (try split) <;> (try split) <;> exact ⟨_, rfl⟩
theorem kinds (x : Int32) : (FX7_in x.toInt64 0 5 = some false ∧ FX6_isKind x = some false) ∨ (FX7_in x.toInt64 0 5 = some true ∧ FX6_isKind x = some true) := by
  rcases m_rng x 5 (by omega) (B := 5) rfl with ⟨h, e⟩ | ⟨k, hk, rfl, e⟩
  · refine Or.inl ⟨e, ?_⟩
    rw [FX6_isKind]
    rcases h with h | ⟨h1, h2, -⟩
    · rw [if_pos h]
    · rw [if_neg h1, if_pos (show (5 : Int32) < x from Int32.not_le.mp h2)]
  · refine Or.inr ⟨e, ?_⟩
    rw [FX6_isKind, if_neg (nI_pos (by omega)), if_neg (show ¬ (5 : Int32) < nI k from nI_nlt (a := 5) (b := k) hk (by omega))]
theorem deg_pos {P q : Nat} {ppp pdg ptd : Nat → Int32} {pcc : Nat → Nat → Int32} (hg : GP P ppp pdg ptd pcc q) : ¬ pdg q < 0 := by
  have := dq_le hg
  rw [hg.2.1]; exact nI_pos (by omega)
theorem op_clear {P : Nat} {PL : List Nat} {sf : Nat → Option Nat} {ppp pdg ptd deg num : Nat → Int32} {pcc : Nat → Nat → Int32} (hpl : ∀ q, q ∈ PL → GP P ppp pdg ptd pcc q) (hsf : SF PL sf deg num pdg pcc) (x1 : Int32) : ∃ a deg' sf', FX7_clear deg x1 = some (a, 0, deg') ∧ FX6_clear sf x1 = some (a, sf') ∧ SF PL sf' deg' num pdg pcc := by
  rw [FX7_clear, FX6_clear]
  rcases plc x1 with ⟨e1, e2⟩ | ⟨k, hk, rfl, e1, e2⟩
  · rw [ob_i e1, ob_i e2, if_pos bf0, if_pos bf0]; exact ⟨_, _, _, rfl, rfl, hsf⟩
  rw [ob_i e1, ob_i e2, if_neg bt0, if_neg bt0, gi_i (in_n hk (by omega)), gi_i (in_n hk (by omega)), cl_n (n := k) (by omega), bd]
  have hnew : SF PL (va_up sf k none) (upd deg k (-1)) num pdg pcc := fun j hj => by
    by_cases h : j = k
    · subst h; exact Or.inl ⟨if_pos rfl, upd_s⟩
    · rw [upd_n h, show va_up sf k none j = sf j from if_neg h]
      exact hsf j hj
  rcases hsf k hk with ⟨s1, s2⟩ | ⟨q, s1, hq, s3, s4⟩
  · rw [s1, if_pos (by rw [s2]; decide), oq, FX7_clear_J29, FX6_clear_J24, gi_i (in_n hk (by omega)), gi_i (in_n hk (by omega)), cl_n (n := k) (by omega), if_pos bf0]
    exact ⟨_, _, _, rfl, rfl, hnew⟩
  · rw [s1, if_neg (by rw [s3]; exact deg_pos (hpl q hq)), oq, FX7_clear_J29, FX6_clear_J24, gi_i (in_n hk (by omega)), gi_i (in_n hk (by omega)), cl_n (n := k) (by omega), if_neg bt0]
    exact ⟨_, _, _, rfl, rfl, hnew⟩
theorem op_kind {P : Nat} {PL : List Nat} {sf : Nat → Option Nat} {ppp pdg ptd deg num : Nat → Int32} {pcc : Nat → Nat → Int32} {sta : Int32} (hP2 : P < 200) (hpl : ∀ q, q ∈ PL → GP P ppp pdg ptd pcc q) (hsf : SF PL sf deg num pdg pcc) (x1 : Int32) : ∃ a s, FX7_kind sta deg num x1 = some (a, 0, s) ∧ FX6_kind sta sf PL ptd x1 = some (a, s) := by
  rw [FX7_kind, FX6_kind]
  rcases plc x1 with ⟨e1, e2⟩ | ⟨k, hk, rfl, e1, e2⟩
  · rw [ob_i e1, ob_i e2, if_pos bf0, if_pos bf0]; exact ⟨_, _, rfl, rfl⟩
  rw [ob_i e1, ob_i e2, if_neg bt0, if_neg bt0, gi_i (in_n hk (by omega)), cl_n (n := k) (by omega)]
  rcases hsf k hk with ⟨s1, s2⟩ | ⟨q, s1, hq, s3, s4⟩
  · rw [s1, ob_i (look_no hk s2)]
    exact ⟨_, _, rfl, rfl⟩
  have hg := hpl q hq
  rw [s1, ob_i (look_ok hk (s3.trans hg.2.1) (dq_le hg)), bd, bd, if_pos (by decide), oq, gd_i hq, ob_i (m_kind_of hP2 hk hg s3 s4), fin6, ob_i rfl]
  exact ⟨_, _, rfl, rfl⟩
theorem op_is {P : Nat} {PL : List Nat} {sf : Nat → Option Nat} {ppp pdg ptd deg num : Nat → Int32} {pca : Nat → Nat} {pcc : Nat → Nat → Int32} (hP2 : P < 200) (hpl : ∀ q, q ∈ PL → GP P ppp pdg ptd pcc q) (hsf : SF PL sf deg num pdg pcc) (x1 x2 : Int32) : ∃ a, FX7_is deg num x1 x2 = some (a, 0) ∧ FX6_is sf PL ppp pca pdg ptd pcc x1 x2 = some a := by
  rw [FX7_is, FX6_is]
  rcases plc x1 with ⟨e1, e2⟩ | ⟨k, hk, rfl, e1, e2⟩
  · rw [ob_i e1, ob_i e2, if_pos bf0, if_pos bf0]; exact ⟨_, rfl, rfl⟩
  rw [ob_i e1, ob_i e2, if_neg bt0, if_neg bt0]
  rcases kinds x2 with ⟨e1, e2⟩ | ⟨e1, e2⟩
  · rw [ob_i e1, ob_i e2, if_pos bf0, if_pos bf0]; exact ⟨_, rfl, rfl⟩
  rw [ob_i e1, ob_i e2, if_neg bt0, if_neg bt0, gi_i (in_n hk (by omega)), gi_i (in_n hk (by omega)), cl_n (n := k) (by omega)]
  rcases hsf k hk with ⟨s1, s2⟩ | ⟨q, s1, hq, s3, s4⟩
  · rw [s1, if_pos (by rw [s2]; decide)]
    exact ⟨_, rfl, rfl⟩
  have hg := hpl q hq
  obtain ⟨b, hb⟩ := isOf_t (ptd q) x2
  rw [s1, if_neg (by rw [s3]; exact deg_pos hg), bd, oq, gd_i hq, ob_i (m_kind_of hP2 hk hg s3 s4), fits_eq, ob_i hb, ob_i hb]
  cases b with
  | false => exact ⟨_, rfl, rfl⟩
  | true => exact ⟨_, rfl, rfl⟩
theorem op_as {P : Nat} {PL : List Nat} {sf : Nat → Option Nat} {ppp pdg ptd deg num : Nat → Int32} {pca : Nat → Nat} {pcc : Nat → Nat → Int32} {sta : Int32} (hP2 : P < 200) (hpl : ∀ q, q ∈ PL → GP P ppp pdg ptd pcc q) (hsf : SF PL sf deg num pdg pcc) (x1 x2 : Int32) : ∃ a s, FX7_as sta deg num x1 x2 = some (a, 0, s) ∧ FX6_as sta sf PL ppp pca pdg ptd pcc x1 x2 = some (a, s) := by
  rw [FX7_as, FX6_as]
  rcases plc x1 with ⟨e1, e2⟩ | ⟨k, hk, rfl, e1, e2⟩
  · rw [ob_i e1, ob_i e2, if_pos bf0, if_pos bf0]; exact ⟨_, _, rfl, rfl⟩
  rw [ob_i e1, ob_i e2, if_neg bt0, if_neg bt0]
  rcases kinds x2 with ⟨e1, e2⟩ | ⟨e1, e2⟩
  · rw [ob_i e1, ob_i e2, if_pos bf0, if_pos bf0]; exact ⟨_, _, rfl, rfl⟩
  rw [ob_i e1, ob_i e2, if_neg bt0, if_neg bt0, gi_i (in_n hk (by omega)), cl_n (n := k) (by omega)]
  rcases hsf k hk with ⟨s1, s2⟩ | ⟨q, s1, hq, s3, s4⟩
  · rw [s1, ob_i (look_no hk s2)]
    exact ⟨_, _, rfl, rfl⟩
  have hg := hpl q hq
  obtain ⟨b, hb⟩ := isOf_t (ptd q) x2
  rw [s1, ob_i (look_ok hk (s3.trans hg.2.1) (dq_le hg)), bd, bd, if_pos (by decide), oq, gd_i hq, ob_i (m_kind_of hP2 hk hg s3 s4), fits_eq, ob_i hb, ob_i hb]
  cases b with
  | false => exact ⟨_, _, rfl, rfl⟩
  | true =>
    rw [if_neg bt0, if_neg bt0, gi_i (in_n hk (by omega)), s3, fin6, ob_i rfl]
    exact ⟨_, _, rfl, rfl⟩
theorem op_number {P : Nat} {PL : List Nat} {sf : Nat → Option Nat} {ppp pdg ptd deg num : Nat → Int32} {pca : Nat → Nat} {pcc : Nat → Nat → Int32} {sta : Int32} (hpl : ∀ q, q ∈ PL → GP P ppp pdg ptd pcc q) (hsf : SF PL sf deg num pdg pcc) (x1 x2 : Int32) : ∃ a s, FX7_number sta deg num x1 x2 = some (a, 0, s) ∧ FX6_number sta sf PL pca pdg pcc x1 x2 = some (a, s) := by
  rw [FX7_number, FX6_number]
  rcases plc x1 with ⟨e1, e2⟩ | ⟨k, hk, rfl, e1, e2⟩
  · rw [ob_i e1, ob_i e2, if_pos bf0, if_pos bf0]; exact ⟨_, _, rfl, rfl⟩
  rw [ob_i e1, ob_i e2, if_neg bt0, if_neg bt0, show FX7_in x2.toInt64 (-1) 4 = some (decide ((-1 : Int32) ≤ x2 ∧ x2 ≤ 4)) from m_inI (a := -1) (b := 4)]
  by_cases h1 : x2 < -1
  · rw [ob_i rfl, decide_eq_false (fun h => absurd h1 (Int32.not_lt.mpr h.1)), if_pos bf0, if_pos h1]; exact ⟨_, _, rfl, rfl⟩
  by_cases h2 : x2 ≤ 4
  · rw [ob_i rfl, decide_eq_true ⟨Int32.not_lt.mp h1, h2⟩, if_neg bt0, if_neg h1, if_pos h2, gi_i (in_n hk (by omega)), cl_n (n := k) (by omega)]
    rcases hsf k hk with ⟨s1, s2⟩ | ⟨q, s1, hq, s3, s4⟩
    · rw [s1, ob_i (look_no hk s2)]
      exact ⟨_, _, rfl, rfl⟩
    have hg := hpl q hq
    rw [s1, ob_i (look_ok hk (s3.trans hg.2.1) (dq_le hg)), bd, bd, if_pos (by decide), oq, gd_i hq]
    by_cases h3 : 0 ≤ x2
    · obtain ⟨j, hj, rfl⟩ := nI_of2 (M := 4) (n := 4) rfl (Int32.not_lt.mpr h3) h2
      rw [if_pos h3, if_pos h3, i5, gi_i (in_n (by omega : 5 * k + j < 50) (by omega)), gi_i (in_n (by omega : j < 5) (by omega)), cl_n (n := 5 * k + j) (by omega), s4 j (by omega), FX6_number_J55, fin6, ob_i rfl, cl_n (n := j) (by omega)]
      exact ⟨_, _, rfl, rfl⟩
    · rw [if_neg h3, if_neg h3, gi_i (in_n hk (by omega)), s3, FX6_number_J55, fin6, ob_i rfl]
      exact ⟨_, _, rfl, rfl⟩
  · rw [ob_i rfl, decide_eq_false (fun h => h2 h.2), if_pos bf0, if_neg h1, if_neg h2]; exact ⟨_, _, rfl, rfl⟩
/-- what is traced -/
def TRC (xt tcd : Int32) (tr trc : Nat → Int32) : Prop := ∃ t, t ≤ 16 ∧ xt = nI t ∧ tcd = nI t ∧ ∀ i, i < t → tr i = trc i
theorem op_trace {xt tcd : Int32} {tr trc : Nat → Int32} (h : TRC xt tcd tr trc) (x1 : Int32) : ∃ a, FX7_trace tcd trc x1 = some (a, 0) ∧ FX6_trace xt tr x1 = some a := by
  obtain ⟨t, ht, rfl, rfl, h⟩ := h
  rw [FX7_trace, FX6_trace, show FX7_in x1.toInt64 0 (Int32.toInt64 (nI t - 1)) = some (decide ((0 : Int32) ≤ x1 ∧ x1 ≤ nI t - 1)) from m_inI (a := 0), ob_i rfl]
  by_cases h1 : x1 < 0
  · rw [decide_eq_false (fun h => absurd h1 (Int32.not_lt.mpr h.1)), if_pos bf0, if_pos h1]; exact ⟨_, rfl, rfl⟩
  obtain ⟨j, hj, rfl⟩ := nI_of h1
  rw [if_neg h1]
  by_cases h2 : t ≤ j
  · rw [decide_eq_false (fun h => ?_), if_pos bf0, if_pos (by rw [le_n (by omega) (by omega)]; exact h2)]
    · exact ⟨_, rfl, rfl⟩
    · rcases Nat.eq_zero_or_pos t with h3 | h3
      · subst h3
        have := h.2
        exact absurd (Int32.le_trans (nI_pos' (n := j) (by omega)) this) (by decide)
      · have e : nI t - 1 = nI (t - 1) := sub_n (a := t) (b := 1) h3
        rw [e, le_n (by omega) (by omega)] at h
        omega
  · have e : nI t - 1 = nI (t - 1) := sub_n (a := t) (b := 1) (by omega)
    rw [e, decide_eq_true (nI_in0 (by omega) (by omega)), if_neg bt0, if_neg (by rw [le_n (by omega) (by omega)]; exact h2), gi_i (in_n (by omega : j < 16) (by omega)), gi_i (in_n (by omega : j < 16) (by omega)), cl_n (n := j) (by omega), h j (by omega)]
    exact ⟨_, rfl, rfl⟩
/-- a sheet -/
def SHT (SL : List Nat) (sh : Nat → Option Nat) (lan man : Nat → Int32) (itm : Nat → Int64) (sln : Nat → Int32) (snn : Nat → Nat) (svv : Nat → Nat → Int64) : Prop := (∀ s, s < 8 → (sh s = none ∧ lan s = -1) ∨ ∃ q, sh s = some q ∧ q ∈ SL ∧ lan s = sln q ∧ man s = nI (snn q) ∧ snn q ≤ 40 ∧ (∃ m, m ≤ 2 ∧ sln q = nI m) ∧ ∀ i, i < snn q → itm (40 * s + i) = svv q i) ∧ ∀ s t q, s < 8 → t < 8 → sh s = some q → sh t = some q → s = t
theorem m_there {lan : Nat → Int32} {sh : Nat → Option Nat} (h : ∀ s, s < 8 → (sh s = none ∧ lan s = -1) ∨ ∃ q, sh s = some q ∧ ¬ lan s < 0) : ∃ a, FX7_count_L58 0 lan FU 0 0 = some (a, 0) ∧ FX6_sheetsThere sh = some a := by
  obtain ⟨st, h1, e1⟩ := cloop0 (σ := Int32) 8 (by omega) (fun fuel i st => FX7_count_L58 0 lan fuel st i) (fun st => some (st, 0)) (fun i st => st = nI (fb_ct (fun s => (sh s).isSome) i)) 0 rfl (fun fuel st h1 => by
    show FX7_count_L58 _ _ _ _ _ = _
    rw [FX7_count_L58, if_pos (by decide)]) (fun fuel i st hi h1 => by
    subst h1
    refine ⟨nI (fb_ct (fun s => (sh s).isSome) (i + 1)), rfl, ?_⟩
    show FX7_count_L58 _ _ _ _ _ = FX7_count_L58 _ _ _ _ _
    rw [FX7_count_L58, if_neg (show ¬ (8 : Int32) ≤ nI i from nI_ge (a := i) (b := 8) hi (by omega)), gi_i (in_n hi (by omega)), cl_n (n := i) (by omega)]
    rcases h i hi with ⟨s1, s2⟩ | ⟨q, s1, s2⟩
    · rw [if_pos (by rw [s2]; decide), FX7_count_J79, bd, bd, bi_0, nI_1, ct_f (p := fun s => (sh s).isSome) (by rw [s1]; exact Bool.false_ne_true)]
    · rw [if_neg s2, FX7_count_J79, bd, bd, bi_1, nI_1, ct_t (p := fun s => (sh s).isSome) (by rw [s1]; rfl)])
  obtain ⟨st2, h2, e2⟩ := cloop0 (σ := Int32) 8 (by omega) (fun fuel i st => FX6_sheetsThere_L13 (nI 8) sh fuel st i) (fun st => some st) (fun i st => st = nI (fb_ct (fun s => (sh s).isSome) i)) 0 rfl (fun fuel st h1 => by
    show FX6_sheetsThere_L13 _ _ _ _ _ = _
    rw [FX6_sheetsThere_L13, if_pos (Int32.le_refl _)]) (fun fuel i st hi h1 => by
    subst h1
    refine ⟨nI (fb_ct (fun s => (sh s).isSome) (i + 1)), rfl, ?_⟩
    show FX6_sheetsThere_L13 _ _ _ _ _ = FX6_sheetsThere_L13 _ _ _ _ _
    rw [FX6_sheetsThere_L13, if_neg (nI_ge hi (by omega)), gi_i (in_n hi (by omega)), cl_n (n := i) (by omega), bd]
    rcases h i hi with ⟨s1, s2⟩ | ⟨q, s1, s2⟩
    · rw [s1, oq, FX6_sheetsThere_J33, bd, nI_1, ct_f (p := fun s => (sh s).isSome) (by rw [s1]; exact Bool.false_ne_true)]
    · rw [s1, oq, bd, FX6_sheetsThere_J33, bd, nI_1, nI_1, ct_t (p := fun s => (sh s).isSome) (by rw [s1]; rfl)])
  refine ⟨_, e1, ?_⟩
  rw [FX6_sheetsThere, bd]
  exact e2.trans (by rw [h1, h2])
theorem m_maps {P : Nat} {PL : List Nat} {sf : Nat → Option Nat} {ppp pdg ptd deg num : Nat → Int32} {pca : Nat → Nat} {pcc : Nat → Nat → Int32} (hP2 : P < 200) (hpl : ∀ q, q ∈ PL → GP P ppp pdg ptd pcc q) (hsf : SF PL sf deg num pdg pcc) {x1 w : Int32} (hx : x1 - 1 = w) : ∃ a, FX7_count_J89 x1 0 deg num = some (a, 0) ∧ FX6_mapsOf sf PL ppp pca pdg ptd pcc w = some a := by
  subst hx
  obtain ⟨st, h1, e1⟩ := cloop0 (σ := Int32) 10 (by omega) (fun fuel i st => FX7_count_L91 x1 0 deg num fuel st i) (fun st => some (st, 0)) (fun i st => st = nI (fb_ct (fun s => match sf s with | none => false | some q => decide (FX7_isOf (ptd q) (x1 - 1) = some true)) i)) 0 rfl (fun fuel st h1 => by
    show FX7_count_L91 _ _ _ _ _ _ _ = _
    rw [FX7_count_L91, if_pos (by decide)]) (fun fuel i st hi h1 => by
    subst h1
    refine ⟨nI (fb_ct (fun s => match sf s with | none => false | some q => decide (FX7_isOf (ptd q) (x1 - 1) = some true)) (i + 1)), rfl, ?_⟩
    show FX7_count_L91 _ _ _ _ _ _ _ = FX7_count_L91 _ _ _ _ _ _ _
    rw [FX7_count_L91, if_neg (show ¬ (10 : Int32) ≤ nI i from nI_ge (a := i) (b := 10) hi (by omega)), gi_i (in_n hi (by omega)), cl_n (n := i) (by omega)]
    rcases hsf i hi with ⟨s1, s2⟩ | ⟨q, s1, hq, s3, s4⟩
    · rw [if_pos (by rw [s2]; decide), FX7_count_J125, FX7_count_J126, bd, bd, bi_0, nI_1, ct_f (p := fun s => match sf s with | none => false | some q => decide (FX7_isOf (ptd q) (x1 - 1) = some true)) (by rw [s1]; exact Bool.false_ne_true)]
    · have hg := hpl q hq
      obtain ⟨b, hb⟩ := isOf_t (ptd q) (x1 - 1)
      rw [if_neg (by rw [s3]; exact deg_pos hg), ob_i (m_kind_of hP2 hi hg s3 s4), ob_i hb]
      cases b with
      | false => rw [if_pos bf0, FX7_count_J125, FX7_count_J126, bd, bd, bi_0, nI_1, ct_f (p := fun s => match sf s with | none => false | some q => decide (FX7_isOf (ptd q) (x1 - 1) = some true)) (by rw [s1]; dsimp only; rw [hb]; decide)]
      | true => rw [if_neg bt0, FX7_count_J126, bd, bd, bi_1, nI_1, ct_t (p := fun s => match sf s with | none => false | some q => decide (FX7_isOf (ptd q) (x1 - 1) = some true)) (by rw [s1]; dsimp only; rw [hb]; decide)])
  obtain ⟨st2, h2, e2⟩ := cloop0 (σ := Int32) 10 (by omega) (fun fuel i st => FX6_mapsOf_L14 (x1 - 1) (nI 10) sf PL ppp pca pdg ptd pcc fuel st i) (fun st => some st) (fun i st => st = nI (fb_ct (fun s => match sf s with | none => false | some q => decide (FX7_isOf (ptd q) (x1 - 1) = some true)) i)) 0 rfl (fun fuel st h1 => by
    show FX6_mapsOf_L14 _ _ _ _ _ _ _ _ _ _ _ _ = _
    rw [FX6_mapsOf_L14, if_pos (Int32.le_refl _)]) (fun fuel i st hi h1 => by
    subst h1
    refine ⟨nI (fb_ct (fun s => match sf s with | none => false | some q => decide (FX7_isOf (ptd q) (x1 - 1) = some true)) (i + 1)), rfl, ?_⟩
    show FX6_mapsOf_L14 _ _ _ _ _ _ _ _ _ _ _ _ = FX6_mapsOf_L14 _ _ _ _ _ _ _ _ _ _ _ _
    rw [FX6_mapsOf_L14, if_neg (nI_ge hi (by omega)), gi_i (in_n hi (by omega)), cl_n (n := i) (by omega), bd]
    rcases hsf i hi with ⟨s1, s2⟩ | ⟨q, s1, hq, s3, s4⟩
    · rw [ct_f (p := fun s => match sf s with | none => false | some q => decide (FX7_isOf (ptd q) (x1 - 1) = some true)) (by rw [s1]; exact Bool.false_ne_true), s1, oq, FX6_mapsOf_J44, bd, nI_1]
    · obtain ⟨b, hb⟩ := isOf_t (ptd q) (x1 - 1)
      cases b with
      | false => rw [ct_f (p := fun s => match sf s with | none => false | some q => decide (FX7_isOf (ptd q) (x1 - 1) = some true)) (by rw [s1]; dsimp only; rw [hb]; decide), s1, oq, gd_i hq, fits_eq, ob_i hb, if_pos bf0, FX6_mapsOf_J44, bd, nI_1]
      | true => rw [ct_t (p := fun s => match sf s with | none => false | some q => decide (FX7_isOf (ptd q) (x1 - 1) = some true)) (by rw [s1]; dsimp only; rw [hb]; decide), s1, oq, gd_i hq, fits_eq, ob_i hb, if_neg bt0, bd, FX6_mapsOf_J44, bd, nI_1, nI_1])
  refine ⟨st, ?_, ?_⟩
  · rw [FX7_count_J89]; exact e1
  · rw [FX6_mapsOf, bd]; exact e2.trans (by rw [h1, h2])
theorem op_count {P : Nat} {PL SL : List Nat} {sf sh : Nat → Option Nat} {ppp pdg ptd deg num lan man sln : Nat → Int32} {itm : Nat → Int64} {snn pca : Nat → Nat} {svv : Nat → Nat → Int64} {pcc : Nat → Nat → Int32} (hP2 : P < 200) (hpl : ∀ q, q ∈ PL → GP P ppp pdg ptd pcc q) (hsf : SF PL sf deg num pdg pcc) (hsh : SHT SL sh lan man itm sln snn svv) (x1 : Int32) : ∃ a, FX7_count (nI P) lan deg num x1 = some (a, 0) ∧ FX6_count (nI P) sh sf PL ppp pca pdg ptd pcc x1 = some a := by
  rw [FX7_count, FX6_count]
  by_cases h0 : x1 = 0
  · obtain ⟨a, e1, e2⟩ := m_there (lan := lan) (sh := sh) (fun s hs => by
      rcases hsh.1 s hs with h | ⟨q, h1, h2, h3, h4, h5, ⟨m, h6, h7⟩, h8⟩
      · exact Or.inl h
      · exact Or.inr ⟨q, h1, by rw [h3, h7]; exact nI_pos (by omega)⟩)
    exact ⟨a, by rw [if_pos h0]; exact e1, by rw [if_pos h0, ob_i e2]⟩
  by_cases h1 : x1 = 1
  · obtain ⟨a, e1, e2⟩ := m_maps (pca := pca) hP2 hpl hsf (x1 := x1) (w := 0) (by rw [h1]; rfl)
    exact ⟨a, by rw [if_neg h0, if_pos h1]; exact e1, by rw [if_neg h0, if_pos h1, ob_i e2]⟩
  by_cases h2 : x1 = 2
  · obtain ⟨a, e1, e2⟩ := m_maps (pca := pca) hP2 hpl hsf (x1 := x1) (w := 1) (by rw [h2]; rfl)
    exact ⟨a, by rw [if_neg h0, if_neg h1, if_pos h2]; exact e1, by rw [if_neg h0, if_neg h1, if_pos h2, ob_i e2]⟩
  by_cases h3 : x1 = 3
  · obtain ⟨a, e1, e2⟩ := m_maps (pca := pca) hP2 hpl hsf (x1 := x1) (w := 2) (by rw [h3]; rfl)
    exact ⟨a, by rw [if_neg h0, if_neg h1, if_neg h2, if_pos h3]; exact e1, by rw [if_neg h0, if_neg h1, if_neg h2, if_pos h3, ob_i e2]⟩
  by_cases h4 : x1 = 4
  · obtain ⟨a, e1, e2⟩ := m_maps (pca := pca) hP2 hpl hsf (x1 := x1) (w := 3) (by rw [h4]; rfl)
    exact ⟨a, by rw [if_neg h0, if_neg h1, if_neg h2, if_neg h3, if_pos h4]; exact e1, by rw [if_neg h0, if_neg h1, if_neg h2, if_neg h3, if_pos h4, ob_i e2]⟩
  by_cases h5 : x1 = 5
  · obtain ⟨a, e1, e2⟩ := m_maps (pca := pca) hP2 hpl hsf (x1 := x1) (w := 4) (by rw [h5]; rfl)
    exact ⟨a, by rw [if_neg h0, if_neg h1, if_neg h2, if_neg h3, if_neg h4, if_pos h5]; exact e1, by rw [if_neg h0, if_neg h1, if_neg h2, if_neg h3, if_neg h4, if_pos h5, ob_i e2]⟩
  by_cases h6 : x1 = 6
  · obtain ⟨a, e1, e2⟩ := m_maps (pca := pca) hP2 hpl hsf (x1 := x1) (w := 5) (by rw [h6]; rfl)
    exact ⟨a, by rw [if_neg h0, if_neg h1, if_neg h2, if_neg h3, if_neg h4, if_neg h5, if_pos h6]; exact e1, by rw [if_neg h0, if_neg h1, if_neg h2, if_neg h3, if_neg h4, if_neg h5, if_pos h6, ob_i e2]⟩
  rw [if_neg h0, if_neg h0, if_neg h1, if_neg h1, if_neg h2, if_neg h2, if_neg h3, if_neg h3, if_neg h4, if_neg h4, if_neg h5, if_neg h5, if_neg h6, if_neg h6]
  by_cases h7 : x1 = 7
  · rw [if_pos h7, if_pos h7]; exact ⟨_, rfl, rfl⟩
  · rw [if_neg h7, if_neg h7]; exact ⟨_, rfl, rfl⟩
