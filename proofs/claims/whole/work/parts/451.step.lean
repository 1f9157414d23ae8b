/-! step -/
theorem m_steps {P : Nat} {g : Nat → Nat} {goe tai per lea com see : Nat → Int32} {thr sta : Int32} (hg : ∀ x, x < P → g x < P) (hP2 : P < 200) (h : WaysM g P goe tai per lea com) {x n : Nat} (hx : x < P) (hn : n < 1000) : FX7_step_L107 (nI n) thr sta goe tai per lea com see FU (nI x) 0 = some (nI (it g n x), thr, sta, goe, tai, per, lea, com, see) := by
  obtain ⟨st, h1, e1⟩ := cloop0 (σ := Int32) n (by omega) (fun fuel i st => FX7_step_L107 (nI n) thr sta goe tai per lea com see fuel st i) (fun st => some (st, thr, sta, goe, tai, per, lea, com, see)) (fun i st => st = nI (it g i x)) (nI x) rfl (fun fuel st h1 => by
    show FX7_step_L107 _ _ _ _ _ _ _ _ _ _ _ _ = _
    rw [FX7_step_L107, if_pos (Int32.le_refl _)]) (fun fuel i st hi h1 => by
    subst h1
    have hz := it_lt hg hx i
    refine ⟨nI (it g (i + 1) x), rfl, ?_⟩
    show FX7_step_L107 _ _ _ _ _ _ _ _ _ _ _ _ = FX7_step_L107 _ _ _ _ _ _ _ _ _ _ _ _
    rw [FX7_step_L107, if_neg (nI_ge hi (by omega)), gi_i (in_n (by omega : it g i x < 200) (by omega)), cl_n (by omega), (h _ hz).1, bd, bd, nI_1]
    rfl)
  exact e1.trans (by rw [h1])
theorem x_steps {P : Nat} {g : Nat → Nat} {nx : Nat → Int32} (hg : ∀ x, x < P → g x < P) (hP2 : P < 200) (h : ∀ x, x < P → nx x = nI (g x)) {x n : Nat} (hx : x < P) (hn : n < 1000) : FX1_after_L50 (nI n) P (nI P) nx FU (nI x) 0 = some (nI (it g n x)) := by
  obtain ⟨st, h1, e1⟩ := cloop0 (σ := Int32) n (by omega) (fun fuel i st => FX1_after_L50 (nI n) P (nI P) nx fuel st i) (fun st => some st) (fun i st => st = nI (it g i x)) (nI x) rfl (fun fuel st h1 => by
    show FX1_after_L50 _ _ _ _ _ _ _ = _
    rw [FX1_after_L50, if_pos (Int32.le_refl _)]) (fun fuel i st hi h1 => by
    subst h1
    have hz := it_lt hg hx i
    refine ⟨nI (it g (i + 1) x), rfl, ?_⟩
    show FX1_after_L50 _ _ _ _ _ _ _ = FX1_after_L50 _ _ _ _ _ _ _
    rw [FX1_after_L50, if_neg (nI_ge hi (by omega)), ob_i (inside_t hz (by omega)), if_neg bt0, gi_i (in_n hz (by omega)), cl_n (by omega), h _ hz, bd, bd, nI_1]
    rfl)
  exact e1.trans (by rw [h1])
theorem op_step {P : Nat} {PL : List Nat} {sf : Nat → Option Nat} {ppp pdg ptd deg num goe tai per lea com see : Nat → Int32} {pca : Nat → Nat} {pcc : Nat → Nat → Int32} {sta rgs : Int32} {sv : Option Nat} {co ro le lst mu ba nx tl pe en pa : Nat → Int32} (hP : 1 < P) (hP2 : P < 200) (hpl : ∀ q, q ∈ PL → GP P ppp pdg ptd pcc q) (hsf : SF PL sf deg num pdg pcc) (hsv : SV P PL pdg pcc rgs sv co ro le lst mu ba nx tl pe) (x1 x2 x3 : Int32) : Same P PL pdg pcc (FX7_step sta (nI P) deg num goe tai per lea com see x1 x2 x3) (FX6_step (nI P) sta sf P (nI P) rgs sv co ro le lst mu ba (nI P) nx tl pe en pa PL ppp pca pdg ptd pcc x1 x2 x3) := by
  rw [FX7_step, FX6_step]
  rcases plc x1 with ⟨e1, e2⟩ | ⟨k, hk, rfl, e1, e2⟩
  · rw [ob_i e1, ob_i e2, if_pos bf0, if_pos bf0]; exact ⟨_, _, rfl, rfl, rfl, rfl, rfl, hsv⟩
  rw [ob_i e1, ob_i e2, if_neg bt0, if_neg bt0]
  rcases pnt x2 (by omega) hP2 with ⟨e1, e2⟩ | ⟨y, hy, rfl, e1, e2⟩
  · rw [ob_i e1, ob_i e2, if_pos bf0, if_pos bf0]; exact ⟨_, _, rfl, rfl, rfl, rfl, rfl, hsv⟩
  rw [ob_i e1, ob_i e2, if_neg bt0, if_neg bt0]
  rcases m_rng x3 1000000000 (by omega) (B := 1000000000) rfl with ⟨h, e⟩ | ⟨w, hw, rfl, e⟩
  · rw [ob_i e, if_pos bf0]
    rcases h with h | ⟨h1, h2, -⟩
    · rw [if_pos h]; exact ⟨_, _, rfl, rfl, rfl, rfl, rfl, hsv⟩
    · rw [if_neg h1, if_neg (show ¬ x3 ≤ 1000000000 from h2)]; exact ⟨_, _, rfl, rfl, rfl, rfl, rfl, hsv⟩
  rw [ob_i e, if_neg bt0, if_neg (nI_pos (by omega)), if_pos (show nI w ≤ 1000000000 from nI_le (b := 1000000000) hw (by omega)), gi_i (in_n hk (by omega)), cl_n (n := k) (by omega)]
  rcases hsf k hk with ⟨s1, s2⟩ | ⟨q, s1, hq, s3, s4⟩
  · rw [s1, ob_i (look_no hk s2)]
    exact ⟨_, _, rfl, rfl, rfl, rfl, rfl, hsv⟩
  have hg := hpl q hq
  rw [s1, ob_i (look_ok hk (s3.trans hg.2.1) (dq_le hg)), bd, bd, if_pos (by decide), oq, gd_i hq]
  obtain ⟨goe', tai', per', lea', com', see', e3, hw3⟩ := ways_of (goe := goe) (tai := tai) (per := per) (lea := lea) (com := com) (see := see) hP hP2 hk hg s3 s4
  obtain ⟨rgs', co', ro', le', lst', mu', ba', nx', tl', pe', en', pa', e4, hr⟩ := roads_of (pca := pca) (en := en) (pa := pa) hP hP2 hq hg hsv
  rw [ob_i e3, ob_i e4]
  have hv := val_in (P := P) (c := cq pcc q) (d := dq pdg q) (by omega)
  obtain ⟨w1, w2, w3, w4, w5⟩ := hw3 y hy
  obtain ⟨r1, r2, r3, r4, r5⟩ := hr.2.1 y hy
  have hT := t_le hv hy
  have hR := tR_pos hv hy
  have hnx : ∀ x, x < P → nx' x = nI (valP P (cq pcc q) (dq pdg q) x) := fun x hx => (hr.2.1 x hx).1
  rw [FX1_after]
  dsimp only
  have cy : (nI y).toNatClampNeg = y := cl_n (by omega)
  rw [gi_i (in_n (by omega : y < 200) (by omega)), gi_i (in_n hy (by omega))]
  by_cases hs : w ≤ tT (valP P (cq pcc q) (dq pdg q)) y
  · rw [if_neg (by rw [cy, w3, lt_n (by omega) (by omega)]; omega), if_pos (by rw [cy, r3, le_n (by omega) (by omega)]; exact hs), FX7_step_J99, FX1_after_J44, m_steps hv hP2 hw3 hy (by omega), ob_i (x_steps hv hP2 hnx hy (by omega)), fin6, ob_i rfl]
    exact ⟨_, _, rfl, rfl, rfl, rfl, rfl, SV_of hq hr⟩
  · have hl := Nat.mod_lt (w - tT (valP P (cq pcc q) (dq pdg q)) y) hR
    rw [if_pos (by rw [cy, w3, lt_n (by omega) (by omega)]; omega), if_neg (by rw [cy, r3, le_n (by omega) (by omega)]; exact hs), gi_i (in_n (by omega : y < 200) (by omega)), gi_i (in_n (by omega : y < 200) (by omega)), gi_i (in_n (by omega : y < 200) (by omega)), gi_i (in_n hy (by omega)), if_neg (by rw [cy, r4]; exact nI_nle hR (by omega)), gi_i (in_n hy (by omega)), gi_i (in_n hy (by omega)), gi_i (in_n hy (by omega)), gd_i (by rw [cy, w4]; exact ne0_n hR (by omega)), gd_i (by rw [cy, r4]; exact ne0_n hR (by omega)), bd, cy, w3, w4, r3, r4, sub_n (by omega), irm_n (by omega) hR (by omega), nI_add, FX7_step_J99, FX1_after_J44, m_steps hv hP2 hw3 hy (by omega), ob_i (x_steps hv hP2 hnx hy (by omega)), fin6, ob_i rfl]
    exact ⟨_, _, rfl, rfl, rfl, rfl, rfl, SV_of hq hr⟩
