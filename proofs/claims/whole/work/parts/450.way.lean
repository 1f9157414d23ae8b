/-! way -/
abbrev M9 : Type := Int32 × (Int32) × (Int32) × (Nat → Int32) × (Nat → Int32) × (Nat → Int32) × (Nat → Int32) × (Nat → Int32) × (Nat → Int32)
abbrev X15 : Type := Int32 × (Int32) × (Int32) × (Option Nat) × (Nat → Int32) × (Nat → Int32) × (Nat → Int32) × (Nat → Int32) × (Nat → Int32) × (Nat → Int32) × (Nat → Int32) × (Nat → Int32) × (Nat → Int32) × (Nat → Int32) × (Nat → Int32)
/-- the same answer, the same status, and a survey that holds -/
def Same (P : Nat) (PL : List Nat) (pdg : Nat → Int32) (pcc : Nat → Nat → Int32) (om : Option M9) (ox : Option X15) : Prop := ∃ m x, om = some m ∧ ox = some x ∧ m.1 = x.1 ∧ m.2.2.1 = x.2.1 ∧ m.2.1 = 0 ∧ SV P PL pdg pcc x.2.2.1 x.2.2.2.1 x.2.2.2.2.1 x.2.2.2.2.2.1 x.2.2.2.2.2.2.1 x.2.2.2.2.2.2.2.1 x.2.2.2.2.2.2.2.2.1 x.2.2.2.2.2.2.2.2.2.1 x.2.2.2.2.2.2.2.2.2.2.1 x.2.2.2.2.2.2.2.2.2.2.2.1 x.2.2.2.2.2.2.2.2.2.2.2.2.1
theorem dq_le {P : Nat} {ppp pdg ptd : Nat → Int32} {pcc : Nat → Nat → Int32} {q : Nat} (h : GP P ppp pdg ptd pcc q) : dq pdg q ≤ 4 := h.2.2.2.2.1
theorem val_in {P d : Nat} {c : Nat → Nat} (hP : 0 < P) : ∀ y, y < P → valP P c d y < P := fun y _ => valP_lt hP
theorem ways_of {P : Nat} {ppp pdg ptd deg num goe tai per lea com see : Nat → Int32} {pcc : Nat → Nat → Int32} {q k : Nat} (hP : 1 < P) (hP2 : P < 200) (hk : k < 10) (hg : GP P ppp pdg ptd pcc q) (s3 : deg k = pdg q) (s4 : ∀ j, j < 5 → num (5 * k + j) = pcc q j) : ∃ goe' tai' per' lea' com' see', FX7_findWays (nI P) deg num goe tai per lea com see (nI k) = some (goe', tai', per', lea', com', see') ∧ WaysM (valP P (cq pcc q) (dq pdg q)) P goe' tai' per' lea' com' := m_ways (by omega) hP2 hk (s3.trans hg.2.1) (CR_sh s4 hg.2.2.2.1) hg.2.2.2.2
theorem op_way {P : Nat} {PL : List Nat} {sf : Nat → Option Nat} {ppp pdg ptd deg num goe tai per lea com see : Nat → Int32} {pca : Nat → Nat} {pcc : Nat → Nat → Int32} {sta rgs : Int32} {sv : Option Nat} {co ro le lst mu ba nx tl pe en pa : Nat → Int32} (hP : 1 < P) (hP2 : P < 200) (hpl : ∀ q, q ∈ PL → GP P ppp pdg ptd pcc q) (hsf : SF PL sf deg num pdg pcc) (hsv : SV P PL pdg pcc rgs sv co ro le lst mu ba nx tl pe) (x1 x2 x3 : Int32) : Same P PL pdg pcc (FX7_way sta (nI P) deg num goe tai per lea com see x1 x2 x3) (FX6_way (nI P) sta sf P (nI P) rgs sv co ro le lst mu ba (nI P) nx tl pe en pa PL ppp pca pdg ptd pcc x1 x2 x3) := by
  rw [FX7_way, FX6_way]
  rcases plc x1 with ⟨e1, e2⟩ | ⟨k, hk, rfl, e1, e2⟩
  · rw [ob_i e1, ob_i e2, if_pos bf0, if_pos bf0]; exact ⟨_, _, rfl, rfl, rfl, rfl, rfl, hsv⟩
  rw [ob_i e1, ob_i e2, if_neg bt0, if_neg bt0]
  rcases pnt x2 (by omega) hP2 with ⟨e1, e2⟩ | ⟨y, hy, rfl, e1, e2⟩
  · rw [ob_i e1, ob_i e2, if_pos bf0, if_pos bf0]; exact ⟨_, _, rfl, rfl, rfl, rfl, rfl, hsv⟩
  rw [ob_i e1, ob_i e2, if_neg bt0, if_neg bt0]
  rcases m_rng x3 3 (by omega) (B := 3) rfl with ⟨h, e⟩ | ⟨w, hw, rfl, e⟩
  · rw [ob_i e, if_pos bf0]
    rcases h with h | ⟨h1, h2, -⟩
    · rw [if_pos h]; exact ⟨_, _, rfl, rfl, rfl, rfl, rfl, hsv⟩
    · rw [if_neg h1, if_neg (show ¬ x3 ≤ 3 from h2)]; exact ⟨_, _, rfl, rfl, rfl, rfl, rfl, hsv⟩
  rw [ob_i e, if_neg bt0, if_neg (nI_pos (by omega)), if_pos (show nI w ≤ 3 from nI_le (b := 3) hw (by omega)), gi_i (in_n hk (by omega)), cl_n (n := k) (by omega)]
  rcases hsf k hk with ⟨s1, s2⟩ | ⟨q, s1, hq, s3, s4⟩
  · rw [s1, ob_i (look_no hk s2)]
    exact ⟨_, _, rfl, rfl, rfl, rfl, rfl, hsv⟩
  have hg := hpl q hq
  rw [s1, ob_i (look_ok hk (s3.trans hg.2.1) (dq_le hg)), bd, bd, if_pos (by decide), oq, gd_i hq]
  obtain ⟨goe', tai', per', lea', com', see', e3, hw3⟩ := ways_of (goe := goe) (tai := tai) (per := per) (lea := lea) (com := com) (see := see) hP hP2 hk hg s3 s4
  obtain ⟨rgs', co', ro', le', lst', mu', ba', nx', tl', pe', en', pa', e4, hr⟩ := roads_of (pca := pca) (en := en) (pa := pa) hP hP2 hq hg hsv
  rw [ob_i e3, ob_i e4]
  have hv := val_in (P := P) (c := cq pcc q) (d := dq pdg q) (by omega)
  obtain ⟨w1, w2, w3, w4, w5⟩ := hw3 y hy
  obtain ⟨r1, r2, r3, r4, r5⟩ := hr.2.1 y hy
  have hwz : w = 0 ∨ w = 1 ∨ w = 2 ∨ w = 3 := by omega
  rw [FX3_ofPoint, cl_n (n := y) (by omega)]
  dsimp only
  rcases hwz with rfl | rfl | rfl | rfl
  · rw [if_pos (by decide), if_pos (by decide), gi_i (in_n (by omega : y < 200) (by omega)), gi_i (in_n hy (by omega)), ob_i rfl, fin6, ob_i rfl]
    exact ⟨_, _, rfl, rfl, w3.trans r3.symm, rfl, rfl, SV_of hq hr⟩
  · rw [if_neg (by decide), if_pos (by decide), if_neg (by decide), if_pos (by decide), gi_i (in_n (by omega : y < 200) (by omega)), gi_i (in_n hy (by omega)), ob_i rfl, fin6, ob_i rfl]
    exact ⟨_, _, rfl, rfl, w4.trans r4.symm, rfl, rfl, SV_of hq hr⟩
  · rw [if_neg (by decide), if_neg (by decide), if_pos (by decide), if_neg (by decide), if_neg (by decide), if_pos (by decide), gi_i (in_n (by omega : y < 200) (by omega)), gi_i (in_n hy (by omega)), w5, ob_i (m_ringOf hv hP2 hw3 (tM_lt hv hy)), ob_i rfl, fin6, ob_i rfl]
    exact ⟨_, _, rfl, rfl, r5.symm, rfl, rfl, SV_of hq hr⟩
  · rw [if_neg (by decide), if_neg (by decide), if_neg (by decide), if_neg (by decide), if_neg (by decide), if_neg (by decide), gi_i (in_n (by omega : y < 200) (by omega)), gi_i (in_n hy (by omega)), ob_i rfl, fin6, ob_i rfl]
    exact ⟨_, _, rfl, rfl, w2.trans r2.symm, rfl, rfl, SV_of hq hr⟩
