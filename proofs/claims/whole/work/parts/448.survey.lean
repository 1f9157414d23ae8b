/-! a survey whole -/
def RoadsOK (P : Nat) (s g : Nat → Nat) (rgs : Int32) (co ro le lst mu ba nx tl pe : Nat → Int32) : Prop := rgs = nI (rk g P) ∧ (∀ x, x < P → nx x = nI (g x) ∧ co x = nI (fb_ct (fun z => decide (g z = x)) P) ∧ tl x = nI (tT g x) ∧ pe x = nI (tR g x) ∧ ro x = nI (rk g (tM g x))) ∧ ∀ h, h < P → hd g h = true → le (rk g h) = nI (tR g h) ∧ lst (rk g h) = nI h ∧ mu (rk g h) = nI (mulR P s g h) ∧ ba (rk g h) = nI (fb_ct (fun z => decide (tM g z = h)) P)
def exG (P : Nat) (g : Nat → Nat) : Nat → Nat := fun x => if x < P then g x else P
theorem exG_in {P : Nat} {g : Nat → Nat} {x : Nat} (hx : x < P) : exG P g x = g x := if_pos hx
theorem exG_N {P : Nat} {g : Nat → Nat} : exG P g P = P := if_neg (Nat.lt_irrefl _)
/-- Orbits over a step that never leaves -/
theorem told_in {P x : Nat} {g : Nat → Nat} {a b c : Int32} (hg : ∀ y, y < P → g y < P) (hx : x < P) (h : DnV (exG P g) P x a b c) : a = nI (tT g x) ∧ b = nI (tR g x) ∧ c = nI (it g (tT g x) x) := by
  have hcg : ∀ n, it (exG P g) n x = it g n x := it_congr hg (fun y hy => exG_in hy) hx
  have hng : ¬ Gone (exG P g) P x := fun ⟨k, hk⟩ => by rw [hcg] at hk; exact absurd hk (Nat.ne_of_lt (it_lt hg hx k))
  have hT := TP_congr hg (g' := exG P g) (fun y hy => exG_in hy) hx (tTP hg hx)
  obtain ⟨h1, h2, h3⟩ := h.2 hng
  rw [tT_of hT] at h1 h3
  rw [tR_of hT] at h2
  rw [hcg] at h3
  exact ⟨h1, h2, h3⟩
/-- how many points come to each -/
theorem comers_ok {P : Nat} {g : Nat → Nat} {co nx : Nat → Int32} (hP2 : P < 200) (hg : ∀ y, y < P → g y < P) (hnx : ∀ y, y < P → nx y = nI (g y)) : ∃ co', FX3_countComers P co (nI P) nx = some co' ∧ ∀ y, y < P → co' y = nI (fb_ct (fun z => decide (g z = y)) P) := by
  obtain ⟨co1, f1, f2⟩ := j_fill (n := P) (by omega) co 0
  rw [FX3_countComers, ob_i f1, bd]
  obtain ⟨co2, h1, e1⟩ := cloop0 (σ := Nat → Int32) P (by omega) (fun fuel i st => FX3_countComers_L21 (Int32.ofNat P) P (nI P) nx fuel i st) (fun st => some st) (fun i st => ∀ y, y < P → st y = nI (fb_ct (fun z => decide (g z = y)) i)) co1 (fun y hy => f2 y hy) (fun fuel st h => by
    rw [FX3_countComers_L21]; exact if_pos (Int32.le_refl _)) (fun fuel i st hi h => ⟨upd st (g i) (nI (fb_ct (fun z => decide (g z = g i)) i) + 1), fun y hy => by
      rw [fb_ct_succ]
      by_cases hyi : y = g i
      · subst hyi; rw [upd_s, nI_1]; simp
      · rw [upd_n hyi, h y hy]
        simp [show ¬ g i = y from fun e => hyi e.symm], by
      have hgi := hg i hi
      rw [FX3_countComers_L21, if_neg (show ¬ Int32.ofNat P ≤ nI i from nI_ge hi (by omega)), gi_i (in_n hi (by omega)), cl_n (n := i) (by omega), hnx i hi, bd, ob_i (inside_t hgi (by omega)), if_neg bi_t, gi_i (in_n hgi (by omega)), gi_i (in_n hgi (by omega)), cl_n (n := g i) (by omega), h _ hgi, FX3_countComers_J54, bd, nI_1 i]⟩)
  exact ⟨co2, e1, h1⟩
/-- each point's ring, and how many come to it -/
theorem gather_ok {P : Nat} {g : Nat → Nat} {ro ba en : Nat → Int32} (hP2 : P < 200) (hg : ∀ y, y < P → g y < P) (hen : ∀ y, y < P → en y = nI (it g (tT g y) y)) (hro0 : ∀ y, y < P → tT g y = 0 → ro y = nI (rk g (tM g y))) (hba0 : ∀ h, h < P → hd g h = true → ba (rk g h) = 0) : ∃ ro' ba', FX3_gatherBasins P (nI P) (nI (rk g P)) ro ba (nI P) en = some (ro', ba') ∧ (∀ x, x < P → ro' x = nI (rk g (tM g x))) ∧ ∀ h, h < P → hd g h = true → ba' (rk g h) = nI (fb_ct (fun z => decide (tM g z = h)) P) := by
  rw [FX3_gatherBasins]
  obtain ⟨⟨ro5, ba5⟩, h7, e5⟩ := cloop0 (σ := (Nat → Int32) × (Nat → Int32)) P (by omega) (fun fuel i st => FX3_gatherBasins_L2 P (nI P) (nI (rk g P)) (nI P) en fuel i st.1 st.2) (fun st => some (st.1, st.2)) (fun i st => (∀ y, y < P → (tT g y = 0 ∨ y < i) → st.1 y = nI (rk g (tM g y))) ∧ ∀ h, h < P → hd g h = true → st.2 (rk g h) = nI (fb_ct (fun z => decide (tM g z = h)) i)) (ro, ba) ⟨fun y hy h => h.elim (hro0 y hy) (fun h => by omega), fun h hh hhd => hba0 h hh hhd⟩ (fun fuel st h => by
    show FX3_gatherBasins_L2 _ _ _ _ _ _ _ _ _ = _
    rw [FX3_gatherBasins_L2, if_pos (Int32.le_refl _)]) (fun fuel i st hi h => by
    obtain ⟨q1, q2⟩ := tM_en hg hi
    have hz := it_lt hg hi (tT g i)
    have hM := tM_lt hg hi
    have hr := rk_le g (tM g i)
    have hhd := hd_tM hg hi
    have hrl : rk g (tM g i) < rk g P := rk_lt hhd hM
    have hrP := rk_le g P
    have hro : st.1 (it g (tT g i) i) = nI (rk g (tM g i)) := by rw [h.1 _ hz (Or.inl q1), q2]
    refine ⟨(upd st.1 i (nI (rk g (tM g i))), upd st.2 (rk g (tM g i)) (nI (fb_ct (fun z => decide (tM g z = tM g i)) i) + 1)), ⟨fun y hy hq => ?_, fun h' hh' hhd' => ?_⟩, ?_⟩
    · show upd _ _ _ _ = _
      by_cases hyi : y = i
      · subst hyi; exact upd_s
      · exact (upd_n hyi).trans (h.1 y hy (hq.elim Or.inl (fun q => Or.inr (by omega))))
    · show upd _ _ _ _ = _
      rw [fb_ct_succ]
      by_cases e : h' = tM g i
      · subst e; rw [upd_s, nI_1]; simp
      · rw [upd_n (fun e2 => e (rk_inj hhd' hhd e2)), h.2 h' hh' hhd']
        simp [show ¬ tM g i = h' from fun e2 => e e2.symm]
    · show FX3_gatherBasins_L2 _ _ _ _ _ _ _ _ _ = FX3_gatherBasins_L2 _ _ _ _ _ _ _ _ _
      rw [FX3_gatherBasins_L2, if_neg (nI_ge hi (by omega)), gi_i (in_n hi (by omega)), cl_n (n := i) (by omega), hen i hi, bd, ob_i (inside_t hz (by omega)), if_neg bi_t, gi_i (in_n hz (by omega)), cl_n (n := it g (tT g i) i) (by omega), hro, FX3_gatherBasins_J42, gi_i (in_n hi (by omega)), if_neg (nI_pos (by omega)), if_neg (nI_ge hrl (by omega)), gi_i (in_n (by omega) (by omega)), gi_i (in_n (by omega) (by omega)), FX3_gatherBasins_J72, bd, cl_n (n := i) (by omega), cl_n (n := rk g (tM g i)) (by omega), h.2 _ hM hhd, nI_1 i])
  dsimp only at h7 e5
  have e5' : FX3_gatherBasins_L2 P (nI P) (nI (rk g P)) (nI P) en FU 0 ro ba = _ := e5
  exact ⟨ro5, ba5, e5', fun x hx => h7.1 x hx (Or.inr hx), h7.2⟩
theorem survey_ok {P d : Nat} {c g : Nat → Nat} {am : Nat → Nat} {rgs : Int32} {sv : Option Nat} {co ro le lst mu ba nx tl pe en pa pc : Nat → Int32} (hP : 1 < P) (hP2 : P < 200) (hge : valP P c d = g) (hc : CR pc 0 c) (hp : PolyC P c d) (hsv : ¬ some (am 0) = sv) : ∃ rgs' co' ro' le' lst' mu' ba' nx' tl' pe' en' pa', FX3_survey am P (nI P) rgs sv co ro le lst mu ba (nI P) nx tl pe en pa 5 (nI P) (nI d) pc = some (rgs', some (am 0), co', ro', le', lst', mu', ba', nx', tl', pe', en', pa') ∧ RoadsOK P (sloP P c d) g rgs' co' ro' le' lst' mu' ba' nx' tl' pe' := by
  have hg : ∀ y, y < P → g y < P := fun y _ => by rw [← hge]; exact valP_lt (by omega)
  have hv : ∀ y, y < P → FX2_valueAt 5 (nI P) (nI d) pc (nI y) = some (nI (g y)) := fun y hy => by rw [← hge]; exact x_value (by omega) hP2 hy hc hp
  rw [FX3_survey, if_neg hsv]
  -- values
  obtain ⟨nx2, h2, e1⟩ := cloop0 (σ := Nat → Int32) P (by omega) (fun fuel i st => FX3_survey_L16 am P (nI P) (some (am 0)) co ro le lst mu ba (nI P) tl pe en pa 5 (nI P) (nI d) pc fuel i st) (fun st => ob (FX3_countComers P co (nI P) st) (fun u45 => ob (FX1_followAll P (nI P) st tl pe en pa) (fun u => ob (FX3_numberRings P (nI P) ro le lst mu ba (nI P) st u.1 u.2.1 5 (nI P) (nI d) pc) (fun w => ob (FX3_gatherBasins P (nI P) w.1 w.2.1 w.2.2.2.2.2 (nI P) u.2.2.1) (fun z => some (w.1, some (am 0), u45, z.1, w.2.2.1, w.2.2.2.1, w.2.2.2.2.1, z.2, st, u.1, u.2.1, u.2.2.1, u.2.2.2)))))) (fun i st => ∀ y, y < i → st y = nI (g y)) nx (fun y h => by omega) (fun fuel st h => by
    rw [FX3_survey_L16, if_pos (Int32.le_refl _)]) (fun fuel i st hi h => ⟨upd st i (nI (g i)), fun y hy => by
      by_cases hyi : y = i
      · subst hyi; exact upd_s
      · exact (upd_n hyi).trans (h y (by omega)), by
      rw [FX3_survey_L16, if_neg (nI_ge hi (by omega)), ob_i (hv i hi), gi_i (in_n hi (by omega)), bd, cl_n (n := i) (by omega), nI_1]⟩)
  have e1' : FX3_survey_L16 am P (nI P) (some (am 0)) co ro le lst mu ba (nI P) tl pe en pa 5 (nI P) (nI d) pc FU 0 nx = _ := e1
  rw [e1']
  -- comers
  obtain ⟨co2, c1, c2⟩ := comers_ok (co := co) hP2 hg h2
  rw [ob_i c1]
  -- ways
  have hnx : NXr nx2 P (exG P g) := fun i hi => Or.inl ⟨by rw [exG_in hi]; exact hg i hi, by rw [exG_in hi]; exact h2 i hi⟩
  obtain ⟨tl3, pe3, en3, pa3, e3, h3⟩ := follow_ok (tl := tl) (pe := pe) (en := en) (pa := pa) (by omega) exG_N hnx
  have htl : ∀ y, y < P → tl3 y = nI (tT g y) := fun y hy => (told_in hg hy (h3 y hy)).1
  have hpe : ∀ y, y < P → pe3 y = nI (tR g y) := fun y hy => (told_in hg hy (h3 y hy)).2.1
  have hen : ∀ y, y < P → en3 y = nI (it g (tT g y) y) := fun y hy => (told_in hg hy (h3 y hy)).2.2
  rw [ob_i e3]
  -- rings
  obtain ⟨rgs4, ro4, le4, lst4, mu4, ba4, e4, h4, h5, h6⟩ := rings_ok (ro := ro) (le := le) (lst := lst) (mu := mu) (ba := ba) hP hP2 hg hc hp h2 htl hpe
  subst h4
  rw [ob_i e4]
  -- each point's ring, and how many come to it
  obtain ⟨ro5, ba5, e5, h7, h8⟩ := gather_ok (ro := ro4) (ba := ba4) (en := en3) hP2 hg hen (fun y hy h0 => (h5 y hy).1 ⟨h0, tM_lt hg hy⟩) (fun h hh hhd => (h6 h hh hhd).2.2.2)
  rw [ob_i e5]
  exact ⟨_, co2, ro5, le4, lst4, mu4, ba5, nx2, tl3, pe3, en3, pa3, rfl, rfl, fun x hx => ⟨h2 x hx, c2 x hx, htl x hx, hpe x hx, h7 x hx⟩, fun h hh hhd => ⟨(h6 h hh hhd).1, (h6 h hh hhd).2.1, (h6 h hh hhd).2.2.1, h8 h hh hhd⟩⟩
