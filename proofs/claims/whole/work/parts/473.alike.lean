/-! alike: the model's side, the call -/
theorem i200 (a b : Nat) : (200 * nI a + nI b : Int32) = nI (200 * a + b) := by rw [show (200 : Int32) = nI 200 from rfl, pk_mul, nI_add]
theorem m_up {P : Nat} {g : Nat → Nat} {x2 thr sta : Int32} {deg num goe tai per lea com see cou : Nat → Int32} (hP2 : P < 200) (hg : ∀ y, y < P → g y < P) (hw : WaysM g P goe tai per lea com) (hc : ∀ k, k < 40000 → cou k = 0) : ∃ cou', FX7_alike_L79 x2 thr sta (nI P) deg num goe tai per lea com see FU 0 cou = (ob (FX7_findWays (nI P) deg num goe tai per lea com see x2) (fun u_121 => FX7_alike_L126 thr sta (nI P) u_121.1 u_121.2.1 u_121.2.2.1 u_121.2.2.2.1 u_121.2.2.2.2.1 u_121.2.2.2.2.2 FU 0 cou')) ∧ ∀ k, k < 40000 → cou' k = nI (cA P g k) := by
  obtain ⟨st, h1, e1⟩ := cloop0 (σ := Nat → Int32) P (by omega) (fun fuel i st => FX7_alike_L79 x2 thr sta (nI P) deg num goe tai per lea com see fuel i st) (fun st => (ob (FX7_findWays (nI P) deg num goe tai per lea com see x2) (fun u_121 => FX7_alike_L126 thr sta (nI P) u_121.1 u_121.2.1 u_121.2.2.1 u_121.2.2.2.1 u_121.2.2.2.2.1 u_121.2.2.2.2.2 FU 0 st))) (fun i st => ∀ k, k < 40000 → st k = nI (cK g k i)) cou (fun k hk => by rw [hc k hk]; rfl) (fun fuel st h => by
    show FX7_alike_L79 _ _ _ _ _ _ _ _ _ _ _ _ _ _ _ = _
    rw [FX7_alike_L79, if_pos (Int32.le_refl _)]) (fun fuel i st hi h => by
    obtain ⟨-, -, w3, w4, -⟩ := hw i hi
    have hk := ky_r hP2 hg hi
    have h2 := t_le hg hi
    have ci : (nI i).toNatClampNeg = i := cl_n (by omega)
    have ek : (200 * nI (tT g i) + nI (tR g i) : Int32) = nI (ky g i) := i200 _ _
    refine ⟨upd st (ky g i) (st (ky g i) + 1), fun k hk2 => ?_, ?_⟩
    · by_cases h3 : k = ky g i
      · subst h3; rw [upd_s, h _ hk2, cK_t rfl, nI_1]
      · rw [upd_n h3, h k hk2, cK_f (fun e => h3 e.symm)]
    · show FX7_alike_L79 _ _ _ _ _ _ _ _ _ _ _ _ _ _ _ = FX7_alike_L79 _ _ _ _ _ _ _ _ _ _ _ _ _ _ _
      rw [FX7_alike_L79, if_neg (nI_ge hi (by omega)), ci, w3, w4, ek, gi_i (in_n (by omega) (by omega)), gi_i (in_n (by omega) (by omega)), gi_i (in_n (by omega) (by omega)), gi_i (in_n (by omega) (by omega)), bd, nI_1, cl_n (n := ky g i) (by omega)])
  exact ⟨st, e1, h1⟩
theorem m_down {P : Nat} {g : Nat → Nat} {A : Nat → Nat} {thr sta : Int32} {goe tai per lea com see cou : Nat → Int32} (hP2 : P < 200) (hg : ∀ y, y < P → g y < P) (hw : WaysM g P goe tai per lea com) (hc : ∀ k, k < 40000 → cou k = nI (A k)) : ∃ cou', FX7_alike_L126 thr sta (nI P) goe tai per lea com see FU 0 cou = FX7_alike_L171 thr sta goe tai per lea com see cou' FU true 0 ∧ ∀ k, k < 40000 → cou' k = nI (A k) - nI (cA P g k) := by
  obtain ⟨st, h1, e1⟩ := cloop0 (σ := Nat → Int32) P (by omega) (fun fuel i st => FX7_alike_L126 thr sta (nI P) goe tai per lea com see fuel i st) (fun st => FX7_alike_L171 thr sta goe tai per lea com see st FU true 0) (fun i st => ∀ k, k < 40000 → st k = nI (A k) - nI (cK g k i)) cou (fun k hk => by
    rw [hc k hk]
    exact (Int32.sub_zero _).symm) (fun fuel st h => by
    show FX7_alike_L126 _ _ _ _ _ _ _ _ _ _ _ _ = _
    rw [FX7_alike_L126, if_pos (Int32.le_refl _)]) (fun fuel i st hi h => by
    obtain ⟨-, -, w3, w4, -⟩ := hw i hi
    have hk := ky_r hP2 hg hi
    have h2 := t_le hg hi
    have ci : (nI i).toNatClampNeg = i := cl_n (by omega)
    have ek : (200 * nI (tT g i) + nI (tR g i) : Int32) = nI (ky g i) := i200 _ _
    refine ⟨upd st (ky g i) (st (ky g i) - 1), fun k hk2 => ?_, ?_⟩
    · by_cases h3 : k = ky g i
      · subst h3; rw [upd_s, h _ hk2, cK_t rfl, df_dn]
      · rw [upd_n h3, h k hk2, cK_f (fun e => h3 e.symm)]
    · show FX7_alike_L126 _ _ _ _ _ _ _ _ _ _ _ _ = FX7_alike_L126 _ _ _ _ _ _ _ _ _ _ _ _
      rw [FX7_alike_L126, if_neg (nI_ge hi (by omega)), ci, w3, w4, ek, gi_i (in_n (by omega) (by omega)), gi_i (in_n (by omega) (by omega)), gi_i (in_n (by omega) (by omega)), gi_i (in_n (by omega) (by omega)), bd, nI_1, cl_n (n := ky g i) (by omega)])
  exact ⟨st, e1, h1⟩
theorem m_end {thr sta : Int32} {goe tai per lea com see cou : Nat → Int32} {v : Bool} (hv : v = true ↔ ∀ k, k < 40000 → cou k = 0) : FX7_alike_L171 thr sta goe tai per lea com see cou FU true 0 = some (bi v, thr, sta, goe, tai, per, lea, com, see, cou) := by
  obtain ⟨st, h1, e1⟩ := cloop0 (σ := Bool) 40000 (by omega) (fun fuel i st => FX7_alike_L171 thr sta goe tai per lea com see cou fuel st i) (fun st => some (bi st, thr, sta, goe, tai, per, lea, com, see, cou)) (fun i st => st = true ↔ ∀ k, k < i → cou k = 0) true ⟨fun _ k hk => by omega, fun _ => rfl⟩ (fun fuel st h => by
    show FX7_alike_L171 _ _ _ _ _ _ _ _ _ _ _ _ = _
    rw [FX7_alike_L171, if_pos (show (40000 : Int32) ≤ nI 40000 from Int32.le_refl _)]
    cases st with
    | true => rw [if_neg bt0]; rfl
    | false => rw [if_pos bf0]; rfl) (fun fuel i st hi h => by
    have ci : (nI i).toNatClampNeg = i := cl_n (by omega)
    have hlt : ¬ (40000 : Int32) ≤ nI i := nI_ge (a := i) (b := 40000) hi (by omega)
    by_cases hs : st = true
    · subst hs
      by_cases h0 : cou i = 0
      · refine ⟨true, ⟨fun _ k hk => ?_, fun _ => rfl⟩, ?_⟩
        · by_cases h2 : k = i
          · subst h2; exact h0
          · exact h.mp rfl k (by omega)
        · show FX7_alike_L171 _ _ _ _ _ _ _ _ _ _ _ _ = FX7_alike_L171 _ _ _ _ _ _ _ _ _ _ _ _
          rw [FX7_alike_L171, if_neg hlt, if_neg bt0, gi_i (in_n hi (by omega)), ci, if_pos h0, FX7_alike_J197, bd, nI_1]
      · refine ⟨false, ⟨fun h2 => (Bool.false_ne_true h2).elim, fun h2 => absurd (h2 i (by omega)) h0⟩, ?_⟩
        show FX7_alike_L171 _ _ _ _ _ _ _ _ _ _ _ _ = FX7_alike_L171 _ _ _ _ _ _ _ _ _ _ _ _
        rw [FX7_alike_L171, if_neg hlt, if_neg bt0, gi_i (in_n hi (by omega)), ci, if_neg h0, FX7_alike_J196, FX7_alike_J197, bd, nI_1]
    · have hs2 : st = false := by
        cases st with
        | true => exact absurd rfl hs
        | false => rfl
      subst hs2
      refine ⟨false, ⟨fun h2 => (Bool.false_ne_true h2).elim, fun h2 => ?_⟩, ?_⟩
      · exact h.mpr (fun k hk => h2 k (by omega))
      · show FX7_alike_L171 _ _ _ _ _ _ _ _ _ _ _ _ = FX7_alike_L171 _ _ _ _ _ _ _ _ _ _ _ _
        rw [FX7_alike_L171, if_neg hlt, if_pos bf0, FX7_alike_J196, FX7_alike_J197, bd, nI_1])
  have e : st = v := by
    cases st with
    | true =>
      cases v with
      | true => rfl
      | false => exact absurd (hv.mpr (h1.mp rfl)) Bool.false_ne_true
    | false =>
      cases v with
      | true => exact absurd (h1.mpr (hv.mp rfl)) Bool.false_ne_true
      | false => rfl
  rw [← e]
  exact e1
theorem surv_of {P : Nat} {PL : List Nat} {ppp pdg ptd : Nat → Int32} {pca : Nat → Nat} {pcc : Nat → Nat → Int32} {q : Nat} (hP : 1 < P) (hP2 : P < 200) (hq : q ∈ PL) (hg : GP P ppp pdg ptd pcc q) {rgs : Int32} {sv : Option Nat} {co ro le lst mu ba nx tl pe en pa : Nat → Int32} (hsv : SV P PL pdg pcc rgs sv co ro le lst mu ba nx tl pe) : ∃ rgs' co' ro' le' lst' mu' ba' nx' tl' pe' en' pa', FX3_survey (adP pca q) P (nI P) rgs sv co ro le lst mu ba (nI P) nx tl pe en pa 5 (ppp q) (pdg q) (pcc q) = some (rgs', some q, co', ro', le', lst', mu', ba', nx', tl', pe', en', pa') ∧ RoadsOK P (sloP P (cq pcc q) (dq pdg q)) (valP P (cq pcc q) (dq pdg q)) rgs' co' ro' le' lst' mu' ba' nx' tl' pe' := by
  obtain ⟨g1, g2, g3, g4, g5⟩ := hg
  by_cases h : some (adP pca q 0) = sv
  · have hs : sv = some q := h.symm
    rcases hsv with e | ⟨q', e, -, hr⟩
    · rw [hs] at e; cases e
    · rw [hs] at e; cases e
      refine ⟨rgs, co, ro, le, lst, mu, ba, nx, tl, pe, en, pa, ?_, hr⟩
      rw [FX3_survey, if_pos h, hs]
  · obtain ⟨rgs', co', ro', le', lst', mu', ba', nx', tl', pe', en', pa', e, hr⟩ := survey_ok (am := adP pca q) (rgs := rgs) (co := co) (ro := ro) (le := le) (lst := lst) (mu := mu) (ba := ba) (nx := nx) (tl := tl) (pe := pe) (en := en) (pa := pa) hP hP2 rfl g4 g5 h
    refine ⟨rgs', co', ro', le', lst', mu', ba', nx', tl', pe', en', pa', ?_, hr⟩
    rw [g1, g2, e]
    rfl
theorem op_alike {P : Nat} {PL : List Nat} {sf : Nat → Option Nat} {ppp pdg ptd deg num goe tai per lea com see cou : Nat → Int32} {pca : Nat → Nat} {pcc : Nat → Nat → Int32} {sta rgs rgb : Int32} {sv svb : Option Nat} {co ro le lst mu ba bt cp nx tl pe en pa co2 ro2 le2 lst2 mu2 ba2 nx2 tl2 pe2 en2 pa2 : Nat → Int32} (hP : 1 < P) (hP2 : P < 200) (hpl : ∀ q, q ∈ PL → GP P ppp pdg ptd pcc q) (hsf : SF PL sf deg num pdg pcc) (hsv : SV P PL pdg pcc rgs sv co ro le lst mu ba nx tl pe) (hsb : SV P PL pdg pcc rgb svb co2 ro2 le2 lst2 mu2 ba2 nx2 tl2 pe2) (x1 x2 : Int32) : ∃ a s goe' tai' per' lea' com' see' cou' rgs' sv' co' ro' le' lst' mu' ba' bt' cp' nx' tl' pe' en' pa' rgb' svb' co2' ro2' le2' lst2' mu2' ba2' nx2' tl2' pe2' en2' pa2', FX7_alike sta (nI P) deg num goe tai per lea com see cou x1 x2 = some (a, 0, s, goe', tai', per', lea', com', see', cou') ∧ FX6_alike sta sf P (P + 1) (nI P) rgs sv co ro le lst mu ba bt cp (nI P) nx tl pe en pa (nI P) rgb svb co2 ro2 le2 lst2 mu2 ba2 (nI P) nx2 tl2 pe2 en2 pa2 PL ppp pca pdg ptd pcc x1 x2 = some (a, s, rgs', sv', co', ro', le', lst', mu', ba', bt', cp', nx', tl', pe', en', pa', rgb', svb', co2', ro2', le2', lst2', mu2', ba2', nx2', tl2', pe2', en2', pa2') ∧ SV P PL pdg pcc rgs' sv' co' ro' le' lst' mu' ba' nx' tl' pe' ∧ SV P PL pdg pcc rgb' svb' co2' ro2' le2' lst2' mu2' ba2' nx2' tl2' pe2' := by
  rw [FX7_alike, FX6_alike]
  rcases plc x1 with ⟨e1, e2⟩ | ⟨k, hk, rfl, e1, e2⟩
  · rw [ob_i e1, ob_i e2, if_pos bf0, if_pos bf0]
    exact ⟨_, _, _, _, _, _, _, _, _, _, _, _, _, _, _, _, _, _, _, _, _, _, _, _, _, _, _, _, _, _, _, _, _, _, _, _, _, rfl, rfl, hsv, hsb⟩
  rw [ob_i e1, ob_i e2, if_neg bt0, if_neg bt0]
  rcases plc x2 with ⟨e1, e2⟩ | ⟨l, hl, rfl, e1, e2⟩
  · rw [ob_i e1, ob_i e2, if_pos bf0, if_pos bf0]
    exact ⟨_, _, _, _, _, _, _, _, _, _, _, _, _, _, _, _, _, _, _, _, _, _, _, _, _, _, _, _, _, _, _, _, _, _, _, _, _, rfl, rfl, hsv, hsb⟩
  rw [ob_i e1, ob_i e2, if_neg bt0, if_neg bt0]
  have gk : ∀ {α : Type} (z : Option α), gi (nI k) 10 z = z := fun z => gi_i (in_n hk (by omega))
  have gl : ∀ {α : Type} (z : Option α), gi (nI l) 10 z = z := fun z => gi_i (in_n hl (by omega))
  simp only [gk, gl]
  rw [cl_n (n := k) (by omega), cl_n (n := l) (by omega), bd, bd]
  rcases hsf k hk with ⟨s1, s2⟩ | ⟨q, s1, hq, s3, s4⟩
  · rw [s1, oq, if_pos (by rw [s2]; decide)]
    exact ⟨_, _, _, _, _, _, _, _, _, _, _, _, _, _, _, _, _, _, _, _, _, _, _, _, _, _, _, _, _, _, _, _, _, _, _, _, _, rfl, rfl, hsv, hsb⟩
  have hgq := hpl q hq
  have hdq := dq_le hgq
  rw [s1, oq, gd_i hq, if_neg (by rw [s3, hgq.2.1]; exact nI_pos (by omega))]
  rcases hsf l hl with ⟨t1, t2⟩ | ⟨r, t1, hr, t3, t4⟩
  · rw [t1, oq, if_neg (by rw [t2]; decide)]
    exact ⟨_, _, _, _, _, _, _, _, _, _, _, _, _, _, _, _, _, _, _, _, _, _, _, _, _, _, _, _, _, _, _, _, _, _, _, _, _, rfl, rfl, hsv, hsb⟩
  have hgr := hpl r hr
  have hdr := dq_le hgr
  rw [t1, oq, gd_i hr, if_pos (by rw [t3, hgr.2.1]; exact nI_pos' (by omega))]
  obtain ⟨rgs', co', ro', le', lst', mu', ba', nx', tl', pe', en', pa', c1, hr1⟩ := surv_of (pca := pca) (en := en) (pa := pa) hP hP2 hq hgq hsv
  obtain ⟨rgb', co2', ro2', le2', lst2', mu2', ba2', nx2', tl2', pe2', en2', pa2', c2, hr2⟩ := surv_of (pca := pca) (en := en2) (pa := pa2) hP hP2 hr hgr hsb
  have hg := val_in (P := P) (c := cq pcc q) (d := dq pdg q) (by omega)
  have hg' := val_in (P := P) (c := cq pcc r) (d := dq pdg r) (by omega)
  obtain ⟨v, bt', cp', c3, hv⟩ := x_like (bt := bt) (cp := cp) hP2 hg hg' (fun x hx => ⟨(hr1.2.1 x hx).2.2.1, (hr1.2.1 x hx).2.2.2.1⟩) (fun x hx => ⟨(hr2.2.1 x hx).2.2.1, (hr2.2.1 x hx).2.2.2.1⟩)
  -- the model
  obtain ⟨z, z1, d0⟩ := cloop0 (σ := Nat → Int32) 40000 (by omega) (fun fuel i st => FX7_alike_L53 (nI k) (nI l) 0 0 (nI P) deg num goe tai per lea com see fuel i st) (fun st => (ob (FX7_findWays (nI P) deg num goe tai per lea com see (nI k)) (fun u_74 => FX7_alike_L79 (nI l) 0 0 (nI P) deg num u_74.1 u_74.2.1 u_74.2.2.1 u_74.2.2.2.1 u_74.2.2.2.2.1 u_74.2.2.2.2.2 FU 0 st))) (fun i st => ∀ k, k < i → st k = 0) cou (fun k hk => by omega) (fun fuel st h => by
    show FX7_alike_L53 _ _ _ _ _ _ _ _ _ _ _ _ _ _ _ _ = _
    rw [FX7_alike_L53, if_pos (show (40000 : Int32) ≤ nI 40000 from Int32.le_refl _)]) (fun fuel i st hi h => ⟨upd st i 0, fun j hj => by
      by_cases hji : j = i
      · subst hji; exact upd_s
      · rw [upd_n hji]; exact h j (by omega), by
      show FX7_alike_L53 _ _ _ _ _ _ _ _ _ _ _ _ _ _ _ _ = FX7_alike_L53 _ _ _ _ _ _ _ _ _ _ _ _ _ _ _ _
      rw [FX7_alike_L53, if_neg (show ¬ (40000 : Int32) ≤ nI i from nI_ge (a := i) (b := 40000) hi (by omega)), gi_i (in_n hi (by omega)), bd, nI_1, cl_n (n := i) (by omega)]⟩)
  obtain ⟨goe1, tai1, per1, lea1, com1, see1, d1, w1⟩ := ways_of (goe := goe) (tai := tai) (per := per) (lea := lea) (com := com) (see := see) hP hP2 hk hgq s3 s4
  obtain ⟨y, d2, y1⟩ := m_up (x2 := nI l) (thr := 0) (sta := 0) (deg := deg) (num := num) (see := see1) hP2 hg w1 z1
  obtain ⟨goe2, tai2, per2, lea2, com2, see2, d3, w2⟩ := ways_of (goe := goe1) (tai := tai1) (per := per1) (lea := lea1) (com := com1) (see := see1) hP hP2 hl hgr t3 t4
  obtain ⟨x, d4, x1⟩ := m_down (thr := 0) (sta := 0) (see := see2) hP2 hg' w2 y1
  have hv2 : v = true ↔ ∀ k, k < 40000 → x k = 0 := hv.trans (forall_congr' fun k => forall_congr' fun hk => by
    have l1 : cA P (valP P (cq pcc q) (dq pdg q)) k ≤ P := fb_ct_le _ _
    have l2 : cA P (valP P (cq pcc r) (dq pdg r)) k ≤ P := fb_ct_le _ _
    rw [x1 k hk, df_0 (by omega) (by omega)])
  rw [d0, ob_i d1, d2, ob_i d3, d4, m_end hv2, ob_i c1, ob_i c2]
  dsimp only
  rw [ob_i c3]
  cases v with
  | true =>
    rw [if_neg bt0, FX6_alike_J87, fin6, ob_i rfl]
    exact ⟨_, _, _, _, _, _, _, _, _, _, _, _, _, _, _, _, _, _, _, _, _, _, _, _, _, _, _, _, _, _, _, _, _, _, _, _, _, rfl, rfl, SV_of hq hr1, SV_of hr hr2⟩
  | false =>
    rw [if_pos bf0, FX6_alike_J87, fin6, ob_i rfl]
    exact ⟨_, _, _, _, _, _, _, _, _, _, _, _, _, _, _, _, _, _, _, _, _, _, _, _, _, _, _, _, _, _, _, _, _, _, _, _, _, rfl, rfl, SV_of hq hr1, SV_of hr hr2⟩
