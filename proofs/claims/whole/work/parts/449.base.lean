/-! what the operations share: bounds, places, MAPs of the shelf -/
theorem m_in {x a b : Int64} : FX7_in x a b = some (decide (a ≤ x ∧ x ≤ b)) := by
  rw [FX7_in]
  by_cases h1 : x < a
  · rw [if_pos ((lg_cmp_lt x a).mpr h1), decide_eq_false (fun h => by have := Int64.lt_iff_toInt_lt.mp h1; have := Int64.le_iff_toInt_le.mp h.1; omega)]
  · rw [if_neg (fun h => h1 ((lg_cmp_lt x a).mp h))]
    have h1' : a ≤ x := Int64.le_iff_toInt_le.mpr (Int.not_lt.mp fun h => h1 (Int64.lt_iff_toInt_lt.mpr h))
    by_cases h2 : b < x
    · rw [if_pos ((lg_cmp_gt x b).mpr h2), decide_eq_false (fun h => by have := Int64.lt_iff_toInt_lt.mp h2; have := Int64.le_iff_toInt_le.mp h.2; omega)]
    · rw [if_neg (fun h => h2 ((lg_cmp_gt x b).mp h)), decide_eq_true ⟨h1', Int64.le_iff_toInt_le.mpr (Int.not_lt.mp fun h => h2 (Int64.lt_iff_toInt_lt.mpr h))⟩]
theorem m_inI {x a b : Int32} : FX7_in x.toInt64 a.toInt64 b.toInt64 = some (decide (a ≤ x ∧ x ≤ b)) := by
  rw [m_in]
  congr 1
  have e : (a.toInt64 ≤ x.toInt64 ∧ x.toInt64 ≤ b.toInt64) ↔ (a ≤ x ∧ x ≤ b) := by
    rw [Int64.le_iff_toInt_le, Int64.le_iff_toInt_le, Int32.le_iff_toInt_le, Int32.le_iff_toInt_le, Int32.toInt_toInt64, Int32.toInt_toInt64, Int32.toInt_toInt64]
  exact decide_eq_decide.mpr e
/-- within 0 .. m, or not -/
theorem bnd (x : Int32) (m : Nat) (hm : m < 2147483647) : ((x < 0 ∨ ¬ x < 0 ∧ ¬ x ≤ nI m ∧ nI (m + 1) ≤ x) ∧ ¬ (0 ≤ x ∧ x ≤ nI m)) ∨ ∃ k, k ≤ m ∧ x = nI k := by
  by_cases h : x < 0
  · refine Or.inl ⟨Or.inl h, fun h2 => ?_⟩
    have := Int32.lt_iff_toInt_lt.mp h; have := Int32.le_iff_toInt_le.mp h2.1; omega
  · obtain ⟨j, hj, rfl⟩ := nI_of h
    by_cases h2 : j ≤ m
    · exact Or.inr ⟨j, h2, rfl⟩
    · exact Or.inl ⟨Or.inr ⟨h, by rw [le_n (by omega) (by omega)]; exact h2, by rw [le_n (by omega) (by omega)]; omega⟩, fun h3 => h2 (by have := h3.2; rw [le_n (by omega) (by omega)] at this; exact this)⟩
theorem nI_in0 {k m : Nat} (h : k ≤ m) (hm : m < 2147483648) : (0 : Int32) ≤ nI k ∧ nI k ≤ nI m := ⟨nI_pos' (by omega), by rw [le_n (by omega) hm]; exact h⟩
theorem m_rng (x : Int32) (m : Nat) (hm : m < 2147483647) {B : Int64} (hB : B = (nI m).toInt64) : ((x < 0 ∨ ¬ x < 0 ∧ ¬ x ≤ nI m ∧ nI (m + 1) ≤ x) ∧ FX7_in x.toInt64 0 B = some false) ∨ ∃ k, k ≤ m ∧ x = nI k ∧ FX7_in x.toInt64 0 B = some true := by
  subst hB
  rw [show (0 : Int64) = (0 : Int32).toInt64 from rfl, m_inI]
  rcases bnd x m hm with ⟨h1, h2⟩ | ⟨k, hk, rfl⟩
  · exact Or.inl ⟨h1, by rw [decide_eq_false h2]⟩
  · exact Or.inr ⟨k, hk, rfl, by rw [decide_eq_true (nI_in0 hk (by omega))]⟩
theorem plc (x : Int32) : (FX7_isPlace x = some false ∧ FX6_isPlace x = some false) ∨ ∃ k, k < 10 ∧ x = nI k ∧ FX7_isPlace x = some true ∧ FX6_isPlace x = some true := by
  rcases m_rng x 9 (by omega) (B := 9) rfl with ⟨h, e⟩ | ⟨k, hk, rfl, e⟩
  · refine Or.inl ⟨by rw [FX7_isPlace, ob_i e], ?_⟩
    rw [FX6_isPlace]
    rcases h with h | ⟨h1, -, h2⟩
    · rw [if_pos h]
    · rw [if_neg h1, if_pos (show (10 : Int32) ≤ x from h2)]
  · refine Or.inr ⟨k, by omega, rfl, by rw [FX7_isPlace, ob_i e], ?_⟩
    rw [FX6_isPlace, if_neg (nI_pos (by omega)), if_neg (show ¬ (10 : Int32) ≤ nI k from nI_ge (a := k) (b := 10) (by omega) (by omega))]
theorem pnt (x : Int32) {P : Nat} (hP : 0 < P) (hP2 : P < 200) : (FX7_in x.toInt64 0 (Int32.toInt64 (nI P - 1)) = some false ∧ FX6_isPoint (nI P) x = some false) ∨ ∃ k, k < P ∧ x = nI k ∧ FX7_in x.toInt64 0 (Int32.toInt64 (nI P - 1)) = some true ∧ FX6_isPoint (nI P) x = some true := by
  have eP : nI P - 1 = nI (P - 1) := sub_n (a := P) (b := 1) (by omega)
  rw [eP]
  rcases m_rng x (P - 1) (by omega) rfl with ⟨h, e⟩ | ⟨k, hk, rfl, e⟩
  · refine Or.inl ⟨e, ?_⟩
    rw [FX6_isPoint]
    rcases h with h | ⟨h1, -, h2⟩
    · rw [if_pos h]
    · rw [if_neg h1, if_pos (by rw [show P - 1 + 1 = P by omega] at h2; exact h2)]
  · refine Or.inr ⟨k, by omega, rfl, e, ?_⟩
    rw [FX6_isPoint, if_neg (nI_pos (by omega)), if_neg (nI_ge (by omega : k < P) (by omega))]
theorem bf0 : bi false = 0 := rfl
theorem bt0 : ¬ bi true = 0 := by decide
/-- the kind's number -/
def kd (c : Nat → Nat) (d : Nat) : Nat := if d = 2 then (if c 2 = 1 then (if c 1 = 0 then 4 else 3) else 3) else if d = 1 then 2 else if d = 0 then 1 else 5
theorem kd_le (c : Nat → Nat) (d : Nat) : 1 ≤ kd c d ∧ kd c d ≤ 5 := by
  unfold kd; split <;> (try split) <;> (try split) <;> omega
/-- a MAP of the pool: its numbers, its degree -/
def cq (pcc : Nat → Nat → Int32) (q : Nat) : Nat → Nat := fun k => (pcc q k).toNatClampNeg
def dq (pdg : Nat → Int32) (q : Nat) : Nat := (pdg q).toNatClampNeg
def GP (P : Nat) (ppp pdg ptd : Nat → Int32) (pcc : Nat → Nat → Int32) (q : Nat) : Prop := ppp q = nI P ∧ pdg q = nI (dq pdg q) ∧ ptd q = nI (kd (cq pcc q) (dq pdg q)) ∧ CR (pcc q) 0 (cq pcc q) ∧ PolyC P (cq pcc q) (dq pdg q)
/-- a place of the shelf -/
def SF (PL : List Nat) (sf : Nat → Option Nat) (deg num : Nat → Int32) (pdg : Nat → Int32) (pcc : Nat → Nat → Int32) : Prop := ∀ k, k < 10 → (sf k = none ∧ deg k = -1) ∨ ∃ q, sf k = some q ∧ q ∈ PL ∧ deg k = pdg q ∧ ∀ j, j < 5 → num (5 * k + j) = pcc q j
/-- what is surveyed -/
def SV (P : Nat) (PL : List Nat) (pdg : Nat → Int32) (pcc : Nat → Nat → Int32) (rgs : Int32) (sv : Option Nat) (co ro le lst mu ba nx tl pe : Nat → Int32) : Prop := sv = none ∨ ∃ q, sv = some q ∧ q ∈ PL ∧ RoadsOK P (sloP P (cq pcc q) (dq pdg q)) (valP P (cq pcc q) (dq pdg q)) rgs co ro le lst mu ba nx tl pe
theorem CR_sh {num : Nat → Int32} {k : Nat} {pcc : Nat → Nat → Int32} {q : Nat} (h : ∀ j, j < 5 → num (5 * k + j) = pcc q j) (hc : CR (pcc q) 0 (cq pcc q)) : CR num (5 * k) (cq pcc q) := fun j hj => by
  have := hc j hj
  rw [Nat.zero_add] at this
  rw [h j hj, this]
theorem roads_of {P : Nat} {PL : List Nat} {ppp pdg ptd : Nat → Int32} {pca : Nat → Nat} {pcc : Nat → Nat → Int32} {q : Nat} (hP : 1 < P) (hP2 : P < 200) (hq : q ∈ PL) (hg : GP P ppp pdg ptd pcc q) {rgs : Int32} {sv : Option Nat} {co ro le lst mu ba nx tl pe en pa : Nat → Int32} (hsv : SV P PL pdg pcc rgs sv co ro le lst mu ba nx tl pe) : ∃ rgs' co' ro' le' lst' mu' ba' nx' tl' pe' en' pa', FX6_roadsOf (adP pca q) P (nI P) rgs sv co ro le lst mu ba (nI P) nx tl pe en pa 5 (ppp q) (pdg q) (pcc q) = some (rgs', some q, co', ro', le', lst', mu', ba', nx', tl', pe', en', pa') ∧ RoadsOK P (sloP P (cq pcc q) (dq pdg q)) (valP P (cq pcc q) (dq pdg q)) rgs' co' ro' le' lst' mu' ba' nx' tl' pe' := by
  obtain ⟨g1, g2, g3, g4, g5⟩ := hg
  by_cases h : some (adP pca q 0) = sv
  · have hs : sv = some q := h.symm
    rcases hsv with e | ⟨q', e, -, hr⟩
    · rw [hs] at e; cases e
    · rw [hs] at e; cases e
      refine ⟨rgs, co, ro, le, lst, mu, ba, nx, tl, pe, en, pa, ?_, hr⟩
      rw [FX6_roadsOf, ob_i (x := (rgs, sv, co, ro, le, lst, mu, ba, nx, tl, pe, en, pa)) (by rw [FX3_survey, if_pos h]), hs]
  · obtain ⟨rgs', co', ro', le', lst', mu', ba', nx', tl', pe', en', pa', e, hr⟩ := survey_ok (am := adP pca q) (rgs := rgs) (co := co) (ro := ro) (le := le) (lst := lst) (mu := mu) (ba := ba) (nx := nx) (tl := tl) (pe := pe) (en := en) (pa := pa) hP hP2 rfl g4 g5 h
    refine ⟨rgs', co', ro', le', lst', mu', ba', nx', tl', pe', en', pa', ?_, hr⟩
    rw [FX6_roadsOf, g1, g2, ob_i e]
    rfl
theorem SV_of {P : Nat} {PL : List Nat} {pdg : Nat → Int32} {pcc : Nat → Nat → Int32} {q : Nat} {rgs : Int32} {co ro le lst mu ba nx tl pe : Nat → Int32} (hq : q ∈ PL) (h : RoadsOK P (sloP P (cq pcc q) (dq pdg q)) (valP P (cq pcc q) (dq pdg q)) rgs co ro le lst mu ba nx tl pe) : SV P PL pdg pcc rgs (some q) co ro le lst mu ba nx tl pe := Or.inr ⟨q, rfl, hq, h⟩
theorem look_no {deg : Nat → Int32} {k : Nat} (hk : k < 10) (h : deg k = -1) : FX7_look deg (nI k) = some (-1000011, 1) := by
  rw [FX7_look, gi_i (in_n hk (by omega)), cl_n (by omega), h, if_neg (by decide), FX7_found, ob_i rfl]; rfl
theorem look_ok {deg : Nat → Int32} {k d : Nat} (hk : k < 10) (h : deg k = nI d) (hd : d ≤ 4) : FX7_look deg (nI k) = some (0, 0) := by
  rw [FX7_look, gi_i (in_n hk (by omega)), cl_n (by omega), h, if_pos (nI_pos' (by omega))]
theorem fnd6 (i : Int32) : FX6_found i = some ((-1000010) - i, i) := rfl
theorem fin6 (i : Int32) : FX6_fine i = some (i, 0) := rfl
/-- the question 'a head?' -/
theorem head_if {R : Type} {P : Nat} {g : Nat → Nat} {goe tai per lea com : Nat → Int32} (hg : ∀ x, x < P → g x < P) (hP2 : P < 200) (h : WaysM g P goe tai per lea com) {x : Nat} (hx : x < P) (A B : Option R) : (if tai x = 0 then gi (nI x) 200 (if lea x = nI x then A else B) else B) = (if hd g x = true then A else B) := by
  obtain ⟨-, -, w3, -, w5⟩ := h x hx
  have hT := t_le hg hx
  have hM := tM_lt hg hx
  rw [w3, w5, gi_i (in_n (by omega : x < 200) (by omega))]
  by_cases h0 : tT g x = 0
  · rw [if_pos (show nI (tT g x) = 0 by rw [h0]; rfl)]
    by_cases h2 : tM g x = x
    · rw [if_pos (by rw [h2]), if_pos (hd_iff.mpr ⟨h0, h2⟩)]
    · rw [if_neg (by rw [eq_n (by omega) (by omega)]; exact h2), if_neg (fun e => h2 (hd_iff.mp e).2)]
  · rw [if_neg (ne0_n (by omega) (by omega)), if_neg (fun e => h0 (hd_iff.mp e).1)]
/-- a rank: the ones below that are heads -/
theorem m_ringOf {P : Nat} {g : Nat → Nat} {goe tai per lea com : Nat → Int32} (hg : ∀ x, x < P → g x < P) (hP2 : P < 200) (h : WaysM g P goe tai per lea com) {low : Nat} (hl : low < P) : FX7_ringOf tai lea (nI low) = some (nI (rk g low)) := by
  obtain ⟨st, h1, e1⟩ := cloop0 (σ := Int32) low (by omega) (fun fuel i st => FX7_ringOf_L4 (nI low) tai lea fuel st i) (fun st => some st) (fun i st => st = nI (rk g i)) 0 rfl (fun fuel st h1 => by
    show FX7_ringOf_L4 _ _ _ _ _ _ = _
    rw [FX7_ringOf_L4, if_pos (Int32.le_refl _)]) (fun fuel i st hi h1 => by
    subst h1
    refine ⟨nI (rk g (i + 1)), rfl, ?_⟩
    show FX7_ringOf_L4 _ _ _ _ _ _ = FX7_ringOf_L4 _ _ _ _ _ _
    have es : rk g (i + 1) = rk g i + (if hd g i = true then 1 else 0) := fb_ct_succ _ _
    rw [FX7_ringOf_L4, if_neg (nI_ge hi (by omega)), gi_i (in_n (by omega : i < 200) (by omega)), cl_n (by omega), head_if hg hP2 h (by omega), es]
    by_cases h0 : hd g i = true
    · rw [if_pos h0, if_pos h0, FX7_ringOf_J34, bd, bd, nI_1]
      show FX7_ringOf_L4 _ _ _ _ (nI (rk g i) + 1) _ = _
      rw [nI_1]
    · rw [if_neg h0, if_neg h0, FX7_ringOf_J33, FX7_ringOf_J34, bd, bd, nI_1]
      show FX7_ringOf_L4 _ _ _ _ (nI (rk g i) + 0) _ = _
      exact congrArg (fun z => FX7_ringOf_L4 (nI low) tai lea fuel z (nI (i + 1))) (Int32.add_zero _))
  rw [FX7_ringOf]
  rw [show (0 : Int32) = nI 0 from rfl] at e1 ⊢
  exact e1.trans (by rw [h1])
