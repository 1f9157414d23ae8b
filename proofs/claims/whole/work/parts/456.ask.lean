/-! ask -/
theorem in_0 {n : Nat} (h : 0 < n) (hn : n < 2147483648) : vp_in 0 n := in_n (i := 0) h hn
def TRA (t : Nat) (tr trc : Nat → Int32) : Prop := ∀ i, i < t → tr i = trc i
theorem TRA_0 {tr trc : Nat → Int32} : TRA 0 tr trc := fun i h => by omega
theorem TRA_s {t : Nat} {tr trc : Nat → Int32} {v : Int32} (h : TRA t tr trc) : TRA (t + 1) (upd tr t v) (upd trc t v) := fun i hi => by
  by_cases e : i = t
  · subst e; rw [upd_s, upd_s]
  · rw [upd_n e, upd_n e]; exact h i (by omega)
theorem beg7 {t : Nat} (ht : t < 16) (trc : Nat → Int32) (v : Int32) : FX7_began (nI t) trc v = some (nI (t + 1), upd trc t v) := by
  rw [FX7_began, if_neg (show ¬ (16 : Int32) ≤ nI t from nI_ge (a := t) (b := 16) ht (by omega)), gi_i (in_n ht (by omega)), cl_n (n := t) (by omega), nI_1]
theorem beg6 {t : Nat} (ht : t < 16) (tr : Nat → Int32) (v : Int32) : FX6_begin (nI t) tr v = some (nI (t + 1), upd tr t v) := by
  rw [FX6_begin, if_neg (show ¬ Int32.ofNat 16 ≤ nI t from nI_ge (a := t) (b := 16) ht (by omega)), gi_i (in_n ht (by omega)), cl_n (n := t) (by omega), nI_1]
/-- how many values -/
def nval (P : Nat) (g : Nat → Nat) : Nat := P - fb_ct (fun i => decide (fb_ct (fun z => decide (g z = i)) P = 0)) P
theorem nval_ct (P : Nat) (g : Nat → Nat) : fb_ct (fun i => !decide (fb_ct (fun z => decide (g z = i)) P = 0)) P = nval P g := by
  have := fb_ct_not (fun i => decide (fb_ct (fun z => decide (g z = i)) P = 0)) P
  unfold nval; omega
theorem m_values {P : Nat} {g : Nat → Nat} {goe tai per lea com see : Nat → Int32} (hP2 : P < 200) (h : WaysM g P goe tai per lea com) : FX7_valuesOf_L9 (nI P) goe tai per lea com see FU 0 0 = some (nI (nval P g), goe, tai, per, lea, com, see) := by
  obtain ⟨st, h1, e1⟩ := cloop0 (σ := Int32) P (by omega) (fun fuel i st => FX7_valuesOf_L9 (nI P) goe tai per lea com see fuel st i) (fun st => some (st, goe, tai, per, lea, com, see)) (fun i st => st = nI (fb_ct (fun i => !decide (fb_ct (fun z => decide (g z = i)) P = 0)) i)) 0 rfl (fun fuel st h1 => by
    show FX7_valuesOf_L9 _ _ _ _ _ _ _ _ _ _ = _
    rw [FX7_valuesOf_L9, if_pos (Int32.le_refl _)]) (fun fuel i st hi h1 => by
    subst h1
    have hc := fb_ct_le (fun z => decide (g z = i)) P
    refine ⟨nI (fb_ct (fun i => !decide (fb_ct (fun z => decide (g z = i)) P = 0)) (i + 1)), rfl, ?_⟩
    show FX7_valuesOf_L9 _ _ _ _ _ _ _ _ _ _ = FX7_valuesOf_L9 _ _ _ _ _ _ _ _ _ _
    rw [FX7_valuesOf_L9, if_neg (nI_ge hi (by omega)), gi_i (in_n (by omega : i < 200) (by omega)), cl_n (n := i) (by omega), (h i hi).2.1]
    by_cases h0 : fb_ct (fun z => decide (g z = i)) P = 0
    · rw [if_pos (by rw [h0]; decide), FX7_valuesOf_J32, bd, bd, bi_0, nI_1, ct_f (p := fun i => !decide (fb_ct (fun z => decide (g z = i)) P = 0)) (by rw [decide_eq_true h0]; decide)]
    · rw [if_neg (nI_nle (by omega) (by omega)), FX7_valuesOf_J32, bd, bd, bi_1, nI_1, ct_t (p := fun i => !decide (fb_ct (fun z => decide (g z = i)) P = 0)) (by rw [decide_eq_false h0]; decide)])
  rw [h1, nval_ct] at e1
  exact e1
theorem m_plain {P q k t : Nat} {ppp pdg ptd deg num goe tai per lea com see trc : Nat → Int32} {pcc : Nat → Nat → Int32} (hP : 1 < P) (hP2 : P < 200) (hk : k < 10) (hg : GP P ppp pdg ptd pcc q) (s3 : deg k = pdg q) (s4 : ∀ j, j < 5 → num (5 * k + j) = pcc q j) (ht : t < 16) : ∃ goe' tai' per' lea' com' see', FX7_plainSize (nI P) (nI t) deg num goe tai per lea com see trc (nI k) = some (nI (nval P (valP P (cq pcc q) (dq pdg q))), nI (t + 1), goe', tai', per', lea', com', see', upd trc t 10) := by
  obtain ⟨goe', tai', per', lea', com', see', e3, hw3⟩ := ways_of (goe := goe) (tai := tai) (per := per) (lea := lea) (com := com) (see := see) hP hP2 hk hg s3 s4
  refine ⟨goe', tai', per', lea', com', see', ?_⟩
  rw [FX7_plainSize, ob_i (beg7 ht _ _), FX7_valuesOf, ob_i e3]
  dsimp only
  rw [m_values hP2 hw3, ob_i rfl]
theorem x_10 {P t : Nat} {g : Nat → Nat} {s : Nat → Nat} {rgs : Int32} {co ro le lst mu ba nx tl pe tr : Nat → Int32} (hP2 : P < 200) (hr : RoadsOK P s g rgs co ro le lst mu ba nx tl pe) (ht : t < 16) : FX6_body10 (nI P) (nI t) tr P (nI P) co = some (nI (nval P g), nI (t + 1), upd tr t 10) := by
  have hc := fb_ct_le (fun i => decide (fb_ct (fun z => decide (g z = i)) P = 0)) P
  rw [FX6_body10, ob_i (beg6 ht _ _), ob_i (x_none (Nat.le_refl P) hP2 (fun i hi => (hr.2.1 i hi).2.1) (fun i hi => by have := fb_ct_le (fun z => decide (g z = i)) P; omega)), sub_n hc]
  rfl
theorem x_12 {P t : Nat} {g : Nat → Nat} {s : Nat → Nat} {rgs : Int32} {co ro le lst mu ba nx tl pe tr : Nat → Int32} (hP2 : P < 200) (hr : RoadsOK P s g rgs co ro le lst mu ba nx tl pe) (ht : t + 1 < 16) : FX6_body12 (nI P) (nI t) tr P (nI P) co = some (2 * nI (nval P g), nI (t + 2), upd (upd tr t 12) (t + 1) 10) := by
  rw [FX6_body12, ob_i (beg6 (by omega) _ _), ob_i (x_10 hP2 hr ht)]
theorem x_20 {t : Nat} {tr pc : Nat → Int32} (ht : t < 16) : FX6_body20 (nI t) tr 5 pc = some (pc 0, nI (t + 1), upd tr t 20) := by
  rw [FX6_body20, ob_i (beg6 ht _ _), gi_i (in_0 (by omega : 0 < 5) (by omega))]
  rfl
theorem x_21 {P t : Nat} {tr pc : Nat → Int32} (ht : t + 1 < 16) : FX6_body21 (nI P) (nI t) tr 5 pc = some (pc 0 + nI P, nI (t + 2), upd (upd tr t 21) (t + 1) 20) := by
  rw [FX6_body21, ob_i (beg6 (by omega) _ _), ob_i (x_20 ht)]
theorem x_22 {P t : Nat} {tr pc pe : Nat → Int32} (hP : 1 < P) (hP2 : P < 200) (ht : t + 2 < 16) : FX6_body22 (nI P) (nI t) tr P pe 5 pc = some (pc 0 + nI P + pe 0, nI (t + 3), upd (upd (upd tr t 22) (t + 1) 21) (t + 2) 20) := by
  rw [FX6_body22, ob_i (beg6 (by omega) _ _), ob_i (x_21 (by omega)), bd, gi_i (in_0 (by omega : 0 < P) (by omega))]
  rfl
theorem m_23 {P q k t : Nat} {ppp pdg ptd deg num goe tai per lea com see trc : Nat → Int32} {pcc : Nat → Nat → Int32} (hP : 1 < P) (hP2 : P < 200) (hk : k < 10) (hg : GP P ppp pdg ptd pcc q) (s3 : deg k = pdg q) (s4 : ∀ j, j < 5 → num (5 * k + j) = pcc q j) {rgs : Int32} {co ro le lst mu ba nx tl pe tr : Nat → Int32} (hr : RoadsOK P (sloP P (cq pcc q) (dq pdg q)) (valP P (cq pcc q) (dq pdg q)) rgs co ro le lst mu ba nx tl pe) (ht : t + 4 < 16) (htr : TRA t tr trc) : ∃ a u goe' tai' per' lea' com' see' trc' tr', u ≤ 16 ∧ FX7_marked (nI P) (nI t) deg num goe tai per lea com see trc (nI k) = some (a, nI u, goe', tai', per', lea', com', see', trc') ∧ FX6_markAsked (nI P) (nI t) tr P (nI P) co pe 5 (ptd q) (pcc q) = some (a, nI u, tr') ∧ TRA u tr' trc' ∧ (ptd q = 4 → a = pcc q 0 + nI P + pe 0 ∧ u = t + 3 ∧ tr' = upd (upd (upd tr t 22) (t + 1) 21) (t + 2) 20) := by
  have c5 : (5 * nI k : Int32).toNatClampNeg = 5 * k := by
    rw [show (5 : Int32) = nI 5 from rfl, pk_mul]; exact cl_n (by omega)
  have g5 : vp_in (5 * nI k) 50 := by
    rw [show (5 : Int32) = nI 5 from rfl, pk_mul]; exact in_n (by omega) (by omega)
  have n0 : num (5 * nI k).toNatClampNeg = pcc q 0 := by rw [c5]; exact s4 0 (by omega)
  have hkd := kd_le (cq pcc q) (dq pdg q)
  have hkind := m_kind_of hP2 hk hg s3 s4
  rw [FX7_marked, ob_i hkind, FX6_markAsked]
  rw [hg.2.2.1] at *
  have hc : kd (cq pcc q) (dq pdg q) = 1 ∨ kd (cq pcc q) (dq pdg q) = 2 ∨ kd (cq pcc q) (dq pdg q) = 3 ∨ kd (cq pcc q) (dq pdg q) = 4 ∨ kd (cq pcc q) (dq pdg q) = 5 := by omega
  rcases hc with e | e | e | e | e <;> rw [e]
  · rw [if_neg (by decide), if_neg (by decide), if_neg (by decide), if_neg (by decide), if_neg (by decide), ob_i (x_20 (by omega)), FX7_marked_J49, ob_i (show FX7_isOf (nI 1) 3 = some false from rfl), if_pos bf0, FX7_marked_J63, ob_i (beg7 (by omega) _ _), gi_i g5, ob_i (show FX7_isOf (nI 1) 3 = some false from rfl), if_pos bf0, FX7_marked_J93, bd, if_neg (by decide), n0, Int32.add_zero]
    exact ⟨_, t + 1, _, _, _, _, _, _, _, _, by omega, rfl, rfl, TRA_s htr, fun h => absurd h (by decide)⟩
  · rw [if_neg (by decide), if_neg (by decide), if_neg (by decide), if_neg (by decide), if_neg (by decide), ob_i (x_20 (by omega)), FX7_marked_J49, ob_i (show FX7_isOf (nI 2) 3 = some false from rfl), if_pos bf0, FX7_marked_J63, ob_i (beg7 (by omega) _ _), gi_i g5, ob_i (show FX7_isOf (nI 2) 3 = some false from rfl), if_pos bf0, FX7_marked_J93, bd, if_neg (by decide), n0, Int32.add_zero]
    exact ⟨_, t + 1, _, _, _, _, _, _, _, _, by omega, rfl, rfl, TRA_s htr, fun h => absurd h (by decide)⟩
  · rw [if_neg (by decide), if_neg (by decide), if_pos (by decide), ob_i (x_21 (by omega)), FX7_marked_J49, ob_i (show FX7_isOf (nI 3) 3 = some true from rfl), if_neg bt0, ob_i (beg7 (by omega) _ _), FX7_marked_J63, ob_i (beg7 (by omega) _ _), gi_i g5, ob_i (show FX7_isOf (nI 3) 3 = some true from rfl), if_neg bt0, FX7_marked_J93, bd, if_neg (by decide), n0]
    exact ⟨_, t + 2, _, _, _, _, _, _, _, _, by omega, rfl, rfl, TRA_s (TRA_s htr), fun h => absurd h (by decide)⟩
  · obtain ⟨goe', tai', per', lea', com', see', e3, hw3⟩ := ways_of (goe := goe) (tai := tai) (per := per) (lea := lea) (com := com) (see := see) hP hP2 hk hg s3 s4
    rw [if_neg (by decide), if_pos (by decide), if_neg (by decide), if_pos (by decide), ob_i (beg7 (by omega) _ _), ob_i (x_22 hP hP2 (by omega)), FX7_marked_J49, ob_i (show FX7_isOf (nI 4) 3 = some true from rfl), if_neg bt0, ob_i (beg7 (by omega) _ _), FX7_marked_J63, ob_i (beg7 (by omega) _ _), gi_i g5, ob_i (show FX7_isOf (nI 4) 3 = some true from rfl), if_neg bt0, FX7_marked_J93, bd, if_pos (by decide), n0, ob_i e3, gi_i (in_0 (by omega : 0 < 200) (by omega))]
    have ep : per' (Int32.toNatClampNeg 0) = pe 0 := ((hw3 0 (by omega)).2.2.2.1).trans ((hr.2.1 0 (by omega)).2.2.2.1).symm
    dsimp only
    rw [bd, ep]
    exact ⟨_, t + 3, _, _, _, _, _, _, _, _, by omega, rfl, rfl, TRA_s (TRA_s (TRA_s htr)), fun _ => ⟨rfl, rfl, rfl⟩⟩
  · obtain ⟨goe', tai', per', lea', com', see', e3⟩ := m_plain (goe := goe) (tai := tai) (per := per) (lea := lea) (com := com) (see := see) (trc := upd (upd trc t 23) (t + 1) 20) (t := t + 2) hP hP2 hk hg s3 s4 (by omega)
    rw [if_pos (by decide), if_neg (by decide), if_neg (by decide), if_pos (by decide), ob_i (beg7 (by omega) _ _), ob_i (beg7 (by omega) _ _), gi_i g5, ob_i e3, FX6_body23, ob_i (beg6 (by omega) _ _), ob_i (x_20 (by omega)), bd, ob_i (x_10 hP2 hr (by omega)), n0]
    exact ⟨_, t + 3, _, _, _, _, _, _, _, _, by omega, rfl, rfl, TRA_s (TRA_s (TRA_s htr)), fun h => absurd h (by decide)⟩
/-- the same answer, status, trace; a survey that holds -/
theorem m_13 {P q k : Nat} {ppp pdg ptd deg num goe tai per lea com see trc : Nat → Int32} {pcc : Nat → Nat → Int32} (hP : 1 < P) (hP2 : P < 200) (hk : k < 10) (hg : GP P ppp pdg ptd pcc q) (s3 : deg k = pdg q) (s4 : ∀ j, j < 5 → num (5 * k + j) = pcc q j) {rgs : Int32} {co ro le lst mu ba nx tl pe tr : Nat → Int32} (hr : RoadsOK P (sloP P (cq pcc q) (dq pdg q)) (valP P (cq pcc q) (dq pdg q)) rgs co ro le lst mu ba nx tl pe) : ∃ a u goe' tai' per' lea' com' see' trc' tr', u ≤ 16 ∧ FX7_sized (nI P) 0 deg num goe tai per lea com see trc (nI k) = some (a, nI u, goe', tai', per', lea', com', see', trc') ∧ FX6_sizeAsked (nI P) 0 tr P (nI P) co pe 5 (ptd q) (pcc q) = some (a, nI u, tr') ∧ TRA u tr' trc' := by
  have hkd := kd_le (cq pcc q) (dq pdg q)
  have hkind := m_kind_of hP2 hk hg s3 s4
  have hc : kd (cq pcc q) (dq pdg q) = 1 ∨ kd (cq pcc q) (dq pdg q) = 2 ∨ kd (cq pcc q) (dq pdg q) = 3 ∨ kd (cq pcc q) (dq pdg q) = 4 ∨ kd (cq pcc q) (dq pdg q) = 5 := by omega
  have e0 : (0 : Int32) = nI 0 := rfl
  rw [FX7_sized, ob_i hkind, FX6_sizeAsked, e0]
  rcases hc with e | e | e | e | e
  · obtain ⟨goe', tai', per', lea', com', see', e3⟩ := m_plain (goe := goe) (tai := tai) (per := per) (lea := lea) (com := com) (see := see) (trc := trc) (t := 0) hP hP2 hk hg s3 s4 (by omega)
    rw [hg.2.2.1, e, if_neg (by decide), if_neg (by decide), if_neg (by decide), if_neg (by decide), if_neg (by decide), FX7_sized_J33, ob_i (show FX7_isOf (nI 1) 3 = some false from rfl), if_pos bf0, FX7_sized_J47, ob_i e3, bd, if_neg (by decide), if_neg (by decide), ob_i (x_10 hP2 hr (by omega))]
    exact ⟨_, 1, _, _, _, _, _, _, _, _, by omega, rfl, rfl, TRA_s TRA_0⟩
  · rw [hg.2.2.1, e, if_pos (by decide), if_pos (by decide), ob_i (beg7 (by omega) _ _), FX6_body11, ob_i (beg6 (by omega) _ _), ob_i rfl]
    exact ⟨_, 1, _, _, _, _, _, _, _, _, by omega, rfl, rfl, TRA_s TRA_0⟩
  · obtain ⟨goe', tai', per', lea', com', see', e3⟩ := m_plain (goe := goe) (tai := tai) (per := per) (lea := lea) (com := com) (see := see) (trc := upd trc 0 12) (t := 1) hP hP2 hk hg s3 s4 (by omega)
    rw [hg.2.2.1, e, if_neg (by decide), if_neg (by decide), if_neg (by decide), if_pos (by decide), FX7_sized_J33, ob_i (show FX7_isOf (nI 3) 3 = some true from rfl), if_neg bt0, ob_i (beg7 (by omega) _ _), FX7_sized_J47, ob_i e3, bd, if_neg (by decide), if_pos (by decide), ob_i (x_12 hP2 hr (by omega))]
    exact ⟨_, 2, _, _, _, _, _, _, _, _, by omega, rfl, rfl, TRA_s (TRA_s TRA_0)⟩
  · obtain ⟨goe', tai', per', lea', com', see', e3⟩ := m_plain (goe := goe) (tai := tai) (per := per) (lea := lea) (com := com) (see := see) (trc := upd (upd trc 0 13) 1 12) (t := 2) hP hP2 hk hg s3 s4 (by omega)
    obtain ⟨a, u, goe2, tai2, per2, lea2, com2, see2, trc2, tr2, hu, e4, e5, h5, h6⟩ := m_23 (t := 3) (goe := goe') (tai := tai') (per := per') (lea := lea') (com := com') (see := see') (trc := upd (upd (upd trc 0 13) 1 12) 2 10) (tr := upd (upd (upd tr 0 13) 1 12) 2 10) hP hP2 hk hg s3 s4 hr (by omega) (TRA_s (TRA_s (TRA_s TRA_0)))
    obtain ⟨h7, h8, h9⟩ := h6 (by rw [hg.2.2.1, e]; rfl)
    subst h7; subst h8; subst h9
    rw [hg.2.2.1, e, if_neg (by decide), if_pos (by decide), if_neg (by decide), if_neg (by decide), if_pos (by decide), ob_i (beg7 (by omega) _ _), FX7_sized_J33, ob_i (show FX7_isOf (nI 4) 3 = some true from rfl), if_neg bt0, ob_i (beg7 (by omega) _ _), FX7_sized_J47, ob_i e3, bd, if_pos (by decide), ob_i e4, FX6_body13, ob_i (beg6 (by omega) _ _), ob_i (x_12 hP2 hr (by omega)), bd, ob_i (x_22 hP hP2 (by omega))]
    exact ⟨_, 6, _, _, _, _, _, _, _, _, by omega, rfl, rfl, h5⟩
  · obtain ⟨goe', tai', per', lea', com', see', e3⟩ := m_plain (goe := goe) (tai := tai) (per := per) (lea := lea) (com := com) (see := see) (trc := trc) (t := 0) hP hP2 hk hg s3 s4 (by omega)
    rw [hg.2.2.1, e, if_neg (by decide), if_neg (by decide), if_neg (by decide), if_neg (by decide), if_neg (by decide), FX7_sized_J33, ob_i (show FX7_isOf (nI 5) 3 = some false from rfl), if_pos bf0, FX7_sized_J47, ob_i e3, bd, if_neg (by decide), if_neg (by decide), ob_i (x_10 hP2 hr (by omega))]
    exact ⟨_, 1, _, _, _, _, _, _, _, _, by omega, rfl, rfl, TRA_s TRA_0⟩
