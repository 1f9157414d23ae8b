/-! ask, whole -/
theorem rd_sv {am : Nat → Nat} {n : Nat} {rp rgs osz m_pp m_pd : Int32} {sv : Option Nat} {co ro le lst mu ba nx tl pe en pa m_pc : Nat → Int32} {m_pn : Nat} {t : (Int32) × (Option Nat) × (Nat → Int32) × (Nat → Int32) × (Nat → Int32) × (Nat → Int32) × (Nat → Int32) × (Nat → Int32) × (Nat → Int32) × (Nat → Int32) × (Nat → Int32) × (Nat → Int32) × (Nat → Int32)} (h : FX6_roadsOf am n rp rgs sv co ro le lst mu ba osz nx tl pe en pa m_pn m_pp m_pd m_pc = some t) : FX3_survey am n rp rgs sv co ro le lst mu ba osz nx tl pe en pa m_pn m_pp m_pd m_pc = some t := by
  rw [FX6_roadsOf] at h
  obtain ⟨x, h1, h2⟩ := ob_e h
  rw [h1]
  exact h2
abbrev M11 : Type := Int32 × (Int32) × (Int32) × (Int32) × (Nat → Int32) × (Nat → Int32) × (Nat → Int32) × (Nat → Int32) × (Nat → Int32) × (Nat → Int32) × (Nat → Int32)
abbrev X17 : Type := Int32 × (Int32) × (Int32) × (Nat → Int32) × (Int32) × (Option Nat) × (Nat → Int32) × (Nat → Int32) × (Nat → Int32) × (Nat → Int32) × (Nat → Int32) × (Nat → Int32) × (Nat → Int32) × (Nat → Int32) × (Nat → Int32) × (Nat → Int32) × (Nat → Int32)
def SameA (P : Nat) (PL : List Nat) (pdg : Nat → Int32) (pcc : Nat → Nat → Int32) (om : Option M11) (ox : Option X17) : Prop := ∃ m x, om = some m ∧ ox = some x ∧ m.1 = x.1 ∧ m.2.2.1 = x.2.2.1 ∧ m.2.1 = 0 ∧ TRC x.2.1 m.2.2.2.1 x.2.2.2.1 m.2.2.2.2.2.2.2.2.2.2 ∧ SV P PL pdg pcc x.2.2.2.2.1 x.2.2.2.2.2.1 x.2.2.2.2.2.2.1 x.2.2.2.2.2.2.2.1 x.2.2.2.2.2.2.2.2.1 x.2.2.2.2.2.2.2.2.2.1 x.2.2.2.2.2.2.2.2.2.2.1 x.2.2.2.2.2.2.2.2.2.2.2.1 x.2.2.2.2.2.2.2.2.2.2.2.2.1 x.2.2.2.2.2.2.2.2.2.2.2.2.2.1 x.2.2.2.2.2.2.2.2.2.2.2.2.2.2.1
theorem op_ask {P : Nat} {PL : List Nat} {sf : Nat → Option Nat} {ppp pdg ptd deg num goe tai per lea com see tr trc : Nat → Int32} {pca : Nat → Nat} {pcc : Nat → Nat → Int32} {sta rgs xt tcd : Int32} {sv : Option Nat} {co ro le lst mu ba nx tl pe en pa : Nat → Int32} (hP : 1 < P) (hP2 : P < 200) (hpl : ∀ q, q ∈ PL → GP P ppp pdg ptd pcc q) (hsf : SF PL sf deg num pdg pcc) (hsv : SV P PL pdg pcc rgs sv co ro le lst mu ba nx tl pe) (htr : TRC xt tcd tr trc) (x1 x2 : Int32) : SameA P PL pdg pcc (FX7_ask sta (nI P) tcd deg num goe tai per lea com see trc x1 x2) (FX6_ask (nI P) xt sta sf tr P (nI P) rgs sv co ro le lst mu ba (nI P) nx tl pe en pa PL ppp pca pdg ptd pcc x1 x2) := by
  rw [FX7_ask, FX6_ask]
  rcases plc x1 with ⟨e1, e2⟩ | ⟨k, hk, rfl, e1, e2⟩
  · rw [ob_i e1, ob_i e2, if_pos bf0, if_pos bf0]; exact ⟨_, _, rfl, rfl, rfl, rfl, rfl, htr, hsv⟩
  rw [ob_i e1, ob_i e2, if_neg bt0, if_neg bt0]
  rcases m_rng x2 1 (by omega) (B := 1) rfl with ⟨h, e⟩ | ⟨w, hw, rfl, e⟩
  · rw [ob_i e, if_pos bf0]
    rcases h with h | ⟨h1, h2, -⟩
    · rw [if_pos h]; exact ⟨_, _, rfl, rfl, rfl, rfl, rfl, htr, hsv⟩
    · rw [if_neg h1, if_neg (show ¬ x2 ≤ 1 from h2)]; exact ⟨_, _, rfl, rfl, rfl, rfl, rfl, htr, hsv⟩
  rw [ob_i e, if_neg bt0, if_neg (nI_pos (by omega)), if_pos (show nI w ≤ 1 from nI_le (b := 1) hw (by omega)), gi_i (in_n hk (by omega)), cl_n (n := k) (by omega)]
  rcases hsf k hk with ⟨s1, s2⟩ | ⟨q, s1, hq, s3, s4⟩
  · rw [s1, ob_i (look_no hk s2)]
    exact ⟨_, _, rfl, rfl, rfl, rfl, rfl, ⟨0, by omega, rfl, rfl, fun i h => by omega⟩, hsv⟩
  have hg := hpl q hq
  rw [s1, ob_i (look_ok hk (s3.trans hg.2.1) (dq_le hg)), bd, bd, if_pos (by decide), oq, gd_i hq]
  obtain ⟨rgs', co', ro', le', lst', mu', ba', nx', tl', pe', en', pa', e4, hr⟩ := roads_of (pca := pca) (en := en) (pa := pa) hP hP2 hq hg hsv
  rw [ob_i (rd_sv e4)]
  have hwz : w = 0 ∨ w = 1 := by omega
  rcases hwz with rfl | rfl
  · rw [if_pos (by decide), if_pos (by decide)]
    obtain ⟨a, u, goe', tai', per', lea', com', see', trc', tr', hu, e5, e6, h7⟩ := m_13 (goe := goe) (tai := tai) (per := per) (lea := lea) (com := com) (see := see) (trc := trc) (tr := tr) hP hP2 hk hg s3 s4 hr
    rw [ob_i e5]
    dsimp only
    rw [ob_i e6, FX6_ask_J67, fin6, ob_i rfl]
    exact ⟨_, _, rfl, rfl, rfl, rfl, rfl, ⟨u, hu, rfl, rfl, h7⟩, SV_of hq hr⟩
  · rw [if_neg (by decide), if_neg (by decide)]
    obtain ⟨a, u, goe', tai', per', lea', com', see', trc', tr', hu, e5, e6, h7, -⟩ := m_23 (t := 0) (goe := goe) (tai := tai) (per := per) (lea := lea) (com := com) (see := see) (trc := trc) (tr := tr) hP hP2 hk hg s3 s4 hr (by omega) TRA_0
    rw [show nI 0 = 0 from rfl] at e5 e6
    rw [ob_i e5]
    dsimp only
    rw [ob_i e6, FX6_ask_J67, fin6, ob_i rfl]
    exact ⟨_, _, rfl, rfl, rfl, rfl, rfl, ⟨u, hu, rfl, rfl, h7⟩, SV_of hq hr⟩
