/-! turn, behind -/
theorem iv_hp {P N : Nat} {c b : Nat → Nat} {d : Nat} (hP : 1 < P) : ∀ j, j < N → hp P c b (d + 1) (fun _ => 0) j < P := hp_lt (by omega) _ _ (fun j _ => by omega)
theorem x_turned {P d u w : Nat} {c : Nat → Nat} {pf : Nat → Int32} (h : PR P) (hd : d ≤ 4) (hc : ∀ k, k < 5 → c k < P) (hpf : ∀ k, k < 5 → pf k = nI (c k)) (hu0 : 0 < u) (hu : u < P) (hw : w < P) : ∃ g f, FX2_turned 5 (nI P) (nI d) pf (nI u) (nI w) = some (g, f) ∧ ∀ j, j < 5 → f j = nI ((if j = 0 then md P (nI (hp P c (fun j => if j = 0 then w else if j = 1 then u else 0) (d + 1) (fun _ => 0) 0) - nI w).toInt else hp P c (fun j => if j = 0 then w else if j = 1 then u else 0) (d + 1) (fun _ => 0) j) * iv P u % P) := by
  have h3 := h.1
  have h4 := h.2.1
  let b : Nat → Nat := fun j => if j = 0 then w else if j = 1 then u else 0
  have hb : ∀ j, j < 2 → b j < P := fun j hj => by
    show (if j = 0 then w else if j = 1 then u else 0) < P
    split
    · exact hw
    · split <;> omega
  have hbf : ∀ j, j < 2 → upd (upd (fun _ => (0 : Int32)) (Int32.toNatClampNeg 0) (nI w)) (Int32.toNatClampNeg 1) (nI u) j = nI (b j) := fun j hj => by
    have h5 : j = 0 ∨ j = 1 := by omega
    rcases h5 with rfl | rfl <;> rfl
  have hb0 : ∀ j, 1 < j → j < 5 → b j = 0 := fun j h1 h2 => by
    show (if j = 0 then w else if j = 1 then u else 0) = 0
    rw [if_neg (by omega), if_neg (by omega)]
  obtain ⟨r, e1, h1⟩ := x_over (N := 5) (bN := 2) (db := 1) (d := d) (tf := fun _ => 0) (by omega : 1 < P) h4 (by omega) hd (by omega) (by omega) (by omega) hc hpf hb hbf hb0
  have hlt : ∀ j, j < 5 → hp P c b (d + 1) (fun _ => 0) j < P := iv_hp (by omega)
  let o : Nat → Nat := fun j => if j = 0 then md P (nI (hp P c b (d + 1) (fun _ => 0) 0) - nI w).toInt else hp P c b (d + 1) (fun _ => 0) j
  have ho : ∀ j, j < 5 → o j < P := fun j hj => by
    show (if j = 0 then md P (nI (hp P c b (d + 1) (fun _ => 0) 0) - nI w).toInt else hp P c b (d + 1) (fun _ => 0) j) < P
    split
    · exact md_lt (by omega) _
    · exact hlt j hj
  have hr0 : ∀ j, j < 5 → upd r 0 (nI (md P (nI (hp P c b (d + 1) (fun _ => 0) 0) - nI w).toInt)) j = nI (o j) := fun j hj => by
    by_cases h5 : j = 0
    · subst h5; exact upd_s
    · rw [upd_n h5, h1 j hj, show o j = hp P c b (d + 1) (fun _ => 0) j from if_neg h5]
  have hiv := iv_lt (v := u) h
  obtain ⟨f1, ⟨h5, h6⟩, e5⟩ := cloop0 (σ := Nat → Int32) 5 (by omega) (fun fuel i st => FX2_turned_L55 (nI (iv P u)) (nI P) (upd (upd (fun _ => (0 : Int32)) (Int32.toNatClampNeg 0) (nI w)) (Int32.toNatClampNeg 1) (nI u)) fuel i st) (fun st => some (upd (upd (fun _ => (0 : Int32)) (Int32.toNatClampNeg 0) (nI w)) (Int32.toNatClampNeg 1) (nI u), st)) (fun i st => (∀ j, j < i → st j = nI (o j * iv P u % P)) ∧ ∀ j, i ≤ j → j < 5 → st j = nI (o j)) (upd r 0 (nI (md P (nI (hp P c b (d + 1) (fun _ => 0) 0) - nI w).toInt))) ⟨fun j hj => by omega, fun j _ hj => hr0 j hj⟩ (fun fuel st h1 => by
    show FX2_turned_L55 _ _ _ _ _ _ = _
    rw [FX2_turned_L55, if_pos (by decide)]) (fun fuel i st hi h1 => by
    obtain ⟨h1, h2⟩ := h1
    refine ⟨upd st i (nI (o i * iv P u % P)), ⟨fun j hj => ?_, fun j hj hj5 => ?_⟩, ?_⟩
    · by_cases h5 : j = i
      · subst h5; exact upd_s
      · rw [upd_n h5]; exact h1 j (by omega)
    · rw [upd_n (by omega)]; exact h2 j (by omega) hj5
    · show FX2_turned_L55 _ _ _ _ _ _ = FX2_turned_L55 _ _ _ _ _ _
      rw [FX2_turned_L55, if_neg (show ¬ (Int32.ofNat 5) ≤ nI i from nI_ge (a := i) (b := 5) hi (by omega)), gi_i (in_n (by omega) (by omega)), gd_i (ne0_n (by omega) (by omega)), gi_i (in_n (by omega) (by omega)), cl_n (n := i) (by omega), h2 i (Nat.le_refl i) hi, mm (by omega) h4 (ho i hi) hiv, bd, nI_1])
  refine ⟨upd (upd (fun _ => (0 : Int32)) (Int32.toNatClampNeg 0) (nI w)) (Int32.toNatClampNeg 1) (nI u), f1, ?_, h5⟩
  rw [FX2_turned, gi_i (show vp_in 0 2 from in_n (i := 0) (by omega) (by omega)), gi_i (show vp_in 1 2 from in_n (i := 1) (by omega) (by omega)), show (1 : Int32) = nI 1 from rfl, show Int32.toNatClampNeg (nI 1) = Int32.toNatClampNeg 1 from rfl, ob_i e1]
  have g0 : ∀ {α : Type} (z : Option α), gi 0 5 z = z := fun z => gi_i (show vp_in 0 5 from in_n (i := 0) (by omega) (by omega))
  simp only [g0]
  rw [show Int32.toNatClampNeg 0 = 0 from rfl, h1 0 (by omega), ob_i (fm_I (by omega) h4), ob_i (x_inv h hu0 hu)]
  exact e5
theorem m_turnL {P a : Nat} {by_ : Nat} {o : Nat → Nat} {thr : Int32} {deg num inn lon mad : Nat → Int32} (h : PR P) (ho : ∀ j, j < 5 → o j < P) (hb : by_ < P) (hm : ∀ j, j < 5 → mad j = nI (o j)) : ∃ mad', FX7_turn_L144 (nI a) (nI by_) thr (nI P) deg num inn lon FU 0 mad = (ob (FX7_lay deg num mad' (nI a)) (fun u_180 => some (u_180.1, thr, u_180.2.1, u_180.2.2.1, u_180.2.2.2, mad', inn, lon))) ∧ ∀ j, j < 5 → mad' j = nI (o j * by_ % P) := by
  have h3 := h.1
  have h4 := h.2.1
  obtain ⟨f1, ⟨h5, h6⟩, e5⟩ := cloop0 (σ := Nat → Int32) 5 (by omega) (fun fuel i st => FX7_turn_L144 (nI a) (nI by_) thr (nI P) deg num inn lon fuel i st) (fun st => (ob (FX7_lay deg num st (nI a)) (fun u_180 => some (u_180.1, thr, u_180.2.1, u_180.2.2.1, u_180.2.2.2, st, inn, lon)))) (fun i st => (∀ j, j < i → st j = nI (o j * by_ % P)) ∧ ∀ j, i ≤ j → j < 5 → st j = nI (o j)) mad ⟨fun j hj => by omega, fun j _ hj => hm j hj⟩ (fun fuel st h1 => by
    show FX7_turn_L144 _ _ _ _ _ _ _ _ _ _ _ = _
    rw [FX7_turn_L144, if_pos (by decide)]) (fun fuel i st hi h1 => by
    obtain ⟨h1, h2⟩ := h1
    refine ⟨upd st i (nI (o i * by_ % P)), ⟨fun j hj => ?_, fun j hj hj5 => ?_⟩, ?_⟩
    · by_cases h5 : j = i
      · subst h5; exact upd_s
      · rw [upd_n h5]; exact h1 j (by omega)
    · rw [upd_n (by omega)]; exact h2 j (by omega) hj5
    · show FX7_turn_L144 _ _ _ _ _ _ _ _ _ _ _ = FX7_turn_L144 _ _ _ _ _ _ _ _ _ _ _
      rw [FX7_turn_L144, if_neg (show ¬ (5 : Int32) ≤ nI i from nI_ge (a := i) (b := 5) hi (by omega)), gi_i (in_n (by omega) (by omega)), gd_i (ne0_n (by omega) (by omega)), gi_i (in_n (by omega) (by omega)), cl_n (n := i) (by omega), h2 i (Nat.le_refl i) hi, mm (by omega) h4 (ho i hi) hb, bd, nI_1])
  exact ⟨f1, e5, h5⟩
theorem op_turn {P : Nat} {PL : List Nat} {sf : Nat → Option Nat} {ppp pdg ptd : Nat → Int32} {pca : Nat → Nat} {pcc : Nat → Nat → Int32} {deg num mad inn lon : Nat → Int32} {sta : Int32} (h : PR P) (hsf : SF PL sf deg num pdg pcc) (hg : ∀ q, q ∈ PL → GP P ppp pdg ptd pcc q) (x1 x2 x3 x4 : Int32) : ∃ a s deg' num' mad' inn' lon' g f pp d t mk, FX7_turn sta (nI P) deg num mad inn lon x1 x2 x3 x4 = some (a, 0, s, deg', num', mad', inn', lon') ∧ FX6_turn (nI P) sta sf PL ppp pca pdg ptd pcc x1 x2 x3 x4 = some (a, s, g, f, pp, d, t, mk) ∧ MADE P x1 deg num deg' num' f pp d t mk := by
  have h3 := h.1
  have h4 := h.2.1
  rw [FX7_turn, FX6_turn, ob_i (fm_I (x := x3) (by omega) h4)]
  rcases plc x1 with ⟨e1, e2⟩ | ⟨p, hp', rfl, e1, e2⟩
  · rw [ob_i e1, ob_i e2, if_pos bf0, if_pos bf0]; exact ⟨_, _, _, _, _, _, _, _, _, _, _, _, _, rfl, rfl, made_no⟩
  rw [ob_i e1, ob_i e2, if_neg bt0, if_neg bt0]
  rcases plc x2 with ⟨e1, e2⟩ | ⟨k, hk, rfl, e1, e2⟩
  · rw [ob_i e1, ob_i e2, if_pos bf0, if_pos bf0]; exact ⟨_, _, _, _, _, _, _, _, _, _, _, _, _, rfl, rfl, made_no⟩
  rw [ob_i e1, ob_i e2, if_neg bt0, if_neg bt0, ob_i (m_modI (x := x3) (by omega) h4)]
  have hu := md_lt (show 0 < P by omega) x3.toInt
  have hw := md_lt (show 0 < P by omega) x4.toInt
  by_cases hu0 : md P x3.toInt = 0
  · rw [hu0, if_pos (show nI 0 = 0 from rfl), if_pos (show nI 0 = 0 from rfl)]; exact ⟨_, _, _, _, _, _, _, _, _, _, _, _, _, rfl, rfl, made_no⟩
  rw [if_neg (ne0_n (by omega) (by omega)), if_neg (ne0_n (by omega) (by omega))]
  have gk : ∀ {α : Type} (z : Option α), gi (nI k) 10 z = z := fun z => gi_i (in_n hk (by omega))
  have g0 : ∀ {α : Type} (z : Option α), gi 0 5 z = z := fun z => gi_i (show vp_in 0 5 from in_n (i := 0) (by omega) (by omega))
  simp only [gk]
  rw [cl_n (n := k) (by omega), bd]
  rcases hsf k hk with ⟨s1, s2⟩ | ⟨q, s1, hq, s3, s4⟩
  · rw [s1, oq, if_neg (by rw [s2]; decide)]
    exact ⟨_, _, _, _, _, _, _, _, _, _, _, _, _, rfl, rfl, made_no⟩
  obtain ⟨g1, g2, g3, g4, g5⟩ := hg q hq
  have hdk : deg k = nI (dq pdg q) := s3.trans g2
  have hpf : ∀ j, j < 5 → pcc q j = nI (cq pcc q j) := fun j hj => by
    have := g4 j hj
    rw [Nat.zero_add] at this; exact this
  have hd4 := g5.1
  obtain ⟨g, f, e6, h6⟩ := x_turned (u := md P x3.toInt) (w := md P x4.toInt) h hd4 g5.2.1 hpf (by omega) hu hw
  rw [s1, oq, gd_i hq, if_pos (by rw [hdk]; exact nI_pos' (by omega)), ob_i (fm_I (x := x4) (by omega) h4), g1, g2, ob_i e6]
  -- the model
  let b : Nat → Nat := fun j => if j = 0 then md P x4.toInt else if j = 1 then md P x3.toInt else 0
  have hb : ∀ j, j < 5 → b j < P := fun j hj => by
    show (if j = 0 then md P x4.toInt else if j = 1 then md P x3.toInt else 0) < P
    split
    · exact hw
    · split <;> omega
  obtain ⟨in1, h7, e7⟩ := cloop0 (σ := Nat → Int32) 5 (by omega) (fun fuel i st => FX7_turn_L49 (nI p) (nI k) x3 x4 0 (nI P) deg num mad lon fuel i st) (fun st => (ob (FX7_mix (nI P) deg num mad st lon (nI k)) (fun u_101 => gi 0 5 (ob (FX7_modulo (nI P) (Int32.toInt64 x4)) (fun u_120 => ob (FX7_modulo (nI P) (Int32.toInt64 ((u_101.1 (Int32.toNatClampNeg 0)) - u_120))) (fun u_125 => gi 0 5 (ob (FX7_modulo (nI P) (Int32.toInt64 x3)) (fun u_133 => ob (FX7_inverse (nI P) u_133) (fun u_136 => FX7_turn_L144 (nI p) u_136 0 (nI P) deg num st u_101.2 FU 0 (upd u_101.1 (Int32.toNatClampNeg 0) u_125)))))))))) (fun i st => ∀ j, j < i → st j = nI (b j)) inn (fun j hj => by omega) (fun fuel st h1 => by
    show FX7_turn_L49 _ _ _ _ _ _ _ _ _ _ _ _ _ = _
    rw [FX7_turn_L49, if_pos (by decide)]) (fun fuel i st hi h1 => by
    refine ⟨upd st i (nI (b i)), fun w hw => ?_, ?_⟩
    · by_cases h : w = i
      · subst h; exact upd_s
      · rw [upd_n h]; exact h1 w (by omega)
    show FX7_turn_L49 _ _ _ _ _ _ _ _ _ _ _ _ _ = FX7_turn_L49 _ _ _ _ _ _ _ _ _ _ _ _ _
    rw [FX7_turn_L49, if_neg (show ¬ (5 : Int32) ≤ nI i from nI_ge (a := i) (b := 5) hi (by omega))]
    by_cases h0 : i = 0
    · have e6 : b i = md P x4.toInt := if_pos h0
      rw [if_pos (by rw [h0]; rfl), ob_i (m_modI (by omega) h4), FX7_turn_J92, gi_i (in_n hi (by omega)), cl_n (n := i) (by omega), bd, nI_1, e6]
    · by_cases h2 : i = 1
      · have e6 : b i = md P x3.toInt := by
          show (if i = 0 then md P x4.toInt else if i = 1 then md P x3.toInt else 0) = md P x3.toInt
          rw [if_neg h0, if_pos h2]
        rw [if_neg (ne0_n (by omega) (by omega)), if_pos (by rw [h2]; rfl), ob_i (m_modI (by omega) h4), FX7_turn_J92, gi_i (in_n hi (by omega)), cl_n (n := i) (by omega), bd, nI_1, e6]
      · have e6 : b i = 0 := by
          show (if i = 0 then md P x4.toInt else if i = 1 then md P x3.toInt else 0) = 0
          rw [if_neg h0, if_neg h2]
        rw [if_neg (ne0_n (by omega) (by omega)), if_neg (show ¬ nI i = 1 from nI_ne (b := 1) (by omega) (by omega) h2), FX7_turn_J92, gi_i (in_n hi (by omega)), cl_n (n := i) (by omega), bd, nI_1, e6]; rfl)
  obtain ⟨m2, l2, e8, h8⟩ := m_mix (mad := mad) (lon := lon) (by omega : 1 < P) h4 hk hdk hd4 g5.2.1 (CR_sh s4 g4) hb h7
  let o : Nat → Nat := fun j => if j = 0 then md P (nI (hp P (cq pcc q) b (dq pdg q + 1) (fun _ => 0) 0) - nI (md P x4.toInt)).toInt else hp P (cq pcc q) b (dq pdg q + 1) (fun _ => 0) j
  have ho : ∀ j, j < 5 → o j < P := fun j hj => by
    show (if j = 0 then md P (nI (hp P (cq pcc q) b (dq pdg q + 1) (fun _ => 0) 0) - nI (md P x4.toInt)).toInt else hp P (cq pcc q) b (dq pdg q + 1) (fun _ => 0) j) < P
    split
    · exact md_lt (by omega) _
    · exact iv_hp (by omega) j hj
  have hr0 : ∀ j, j < 5 → upd m2 0 (nI (md P (nI (hp P (cq pcc q) b (dq pdg q + 1) (fun _ => 0) 0) - nI (md P x4.toInt)).toInt)) j = nI (o j) := fun j hj => by
    by_cases h5 : j = 0
    · subst h5; exact upd_s
    · rw [upd_n h5, h8 j hj, show o j = hp P (cq pcc q) b (dq pdg q + 1) (fun _ => 0) j from if_neg h5]
  obtain ⟨m3, e9, h9⟩ := m_turnL (a := p) (thr := 0) (deg := deg) (num := num) (inn := in1) (lon := l2) h ho (iv_lt (v := md P x3.toInt) h) hr0
  obtain ⟨r, pp, d, t, deg', num', q1, q2, q3⟩ := made_ok (deg := deg) (num := num) h4 hp' (fun w _ => Nat.mod_lt (o w * iv P (md P x3.toInt)) (show 0 < P by omega)) h9 h6
  rw [e7, ob_i e8]
  simp only [g0]
  rw [ob_i (m_modI (by omega) h4), show Int32.toNatClampNeg 0 = 0 from rfl, h8 0 (by omega), ob_i (m_modI (by omega) h4), ob_i (m_modI (by omega) h4), ob_i (m_inv h hu), e9, ob_i q1, ob_i q2]
  exact ⟨_, _, _, _, _, _, _, _, _, _, _, _, _, rfl, rfl, q3⟩
theorem op_behind {P : Nat} {PL : List Nat} {sf : Nat → Option Nat} {ppp pdg ptd : Nat → Int32} {pca : Nat → Nat} {pcc : Nat → Nat → Int32} {deg num mad inn lon : Nat → Int32} {sta : Int32} (h : PR P) (hsf : SF PL sf deg num pdg pcc) (hg : ∀ q, q ∈ PL → GP P ppp pdg ptd pcc q) (x1 x2 x3 : Int32) : ∃ a s deg' num' mad' inn' lon' f pp d t mk, FX7_behind sta (nI P) deg num mad inn lon x1 x2 x3 = some (a, 0, s, deg', num', mad', inn', lon') ∧ FX6_behind (nI P) sta sf PL ppp pca pdg ptd pcc x1 x2 x3 = some (a, s, f, pp, d, t, mk) ∧ MADE P x1 deg num deg' num' f pp d t mk := by
  have h3 := h.1
  have h4 := h.2.1
  rw [FX7_behind, FX6_behind]
  rcases plc x1 with ⟨e1, e2⟩ | ⟨p, hp', rfl, e1, e2⟩
  · rw [ob_i e1, ob_i e2, if_pos bf0, if_pos bf0]; exact ⟨_, _, _, _, _, _, _, _, _, _, _, _, rfl, rfl, made_no⟩
  rw [ob_i e1, ob_i e2, if_neg bt0, if_neg bt0]
  rcases plc x2 with ⟨e1, e2⟩ | ⟨k, hk, rfl, e1, e2⟩
  · rw [ob_i e1, ob_i e2, if_pos bf0, if_pos bf0]; exact ⟨_, _, _, _, _, _, _, _, _, _, _, _, rfl, rfl, made_no⟩
  rw [ob_i e1, ob_i e2, if_neg bt0, if_neg bt0]
  rcases plc x3 with ⟨e1, e2⟩ | ⟨l, hl, rfl, e1, e2⟩
  · rw [ob_i e1, ob_i e2, if_pos bf0, if_pos bf0]; exact ⟨_, _, _, _, _, _, _, _, _, _, _, _, rfl, rfl, made_no⟩
  rw [ob_i e1, ob_i e2, if_neg bt0, if_neg bt0]
  have gk : ∀ {α : Type} (z : Option α), gi (nI k) 10 z = z := fun z => gi_i (in_n hk (by omega))
  have gl : ∀ {α : Type} (z : Option α), gi (nI l) 10 z = z := fun z => gi_i (in_n hl (by omega))
  simp only [gk, gl]
  rw [cl_n (n := k) (by omega), cl_n (n := l) (by omega), bd, bd]
  rcases hsf k hk with ⟨s1, s2⟩ | ⟨q, s1, hq, s3, s4⟩
  · rw [s1, oq, if_pos (by rw [s2]; decide)]
    exact ⟨_, _, _, _, _, _, _, _, _, _, _, _, rfl, rfl, made_no⟩
  obtain ⟨g1, g2, g3, g4, g5⟩ := hg q hq
  have hdk : deg k = nI (dq pdg q) := s3.trans g2
  have hd4 := g5.1
  rw [s1, oq, gd_i hq, if_neg (by rw [hdk]; exact nI_pos (by omega))]
  rcases hsf l hl with ⟨t1, t2⟩ | ⟨r, t1, hr, t3, t4⟩
  · rw [t1, oq, if_neg (by rw [t2]; decide)]
    exact ⟨_, _, _, _, _, _, _, _, _, _, _, _, rfl, rfl, made_no⟩
  obtain ⟨r1, r2, r3, r4, r5⟩ := hg r hr
  have hdl : deg l = nI (dq pdg r) := t3.trans r2
  have he4 := r5.1
  rw [t1, oq, gd_i hr, if_pos (by rw [hdl]; exact nI_pos' (by omega)), hdk, hdl, g1, g2, r2, pk_mul]
  have hde : dq pdg q * dq pdg r ≤ 16 := Nat.mul_le_mul hd4 he4
  by_cases h5 : dq pdg q * dq pdg r ≤ 4
  · have hpf : ∀ j, j < 5 → pcc q j = nI (cq pcc q j) := fun j hj => by
      have := g4 j hj
      rw [Nat.zero_add] at this; exact this
    have hrf : ∀ j, j < 5 → pcc r j = nI (cq pcc r j) := fun j hj => by
      have := r4 j hj
      rw [Nat.zero_add] at this; exact this
    have hle : nI (dq pdg q * dq pdg r) ≤ 4 := by
      rw [show (4 : Int32) = nI 4 from rfl, le_n (by omega) (by omega)]; exact h5
    rw [if_pos hle, if_pos hle]
    obtain ⟨f, e6, h6⟩ := x_over (N := 5) (bN := 5) (db := dq pdg r) (d := dq pdg q) (tf := fun _ => 0) (by omega : 1 < P) h4 (by omega) hd4 (by omega) (by omega) (by omega) g5.2.1 hpf r5.2.1 hrf r5.2.2.1
    obtain ⟨in1, h7, e7⟩ := cloop0 (σ := Nat → Int32) 5 (by omega) (fun fuel i st => FX7_behind_L76 (nI p) (nI k) (nI l) 0 (nI P) deg num mad lon fuel i st) (fun st => (ob (FX7_mix (nI P) deg num mad st lon (nI k)) (fun u_108 => ob (FX7_lay deg num u_108.1 (nI p)) (fun u_113 => some (u_113.1, 0, u_113.2.1, u_113.2.2.1, u_113.2.2.2, u_108.1, st, u_108.2))))) (fun i st => ∀ j, j < i → st j = nI (cq pcc r j)) inn (fun j hj => by omega) (fun fuel st h1 => by
      show FX7_behind_L76 _ _ _ _ _ _ _ _ _ _ _ _ = _
      rw [FX7_behind_L76, if_pos (by decide)]) (fun fuel i st hi h1 => by
      refine ⟨upd st i (nI (cq pcc r i)), fun w hw => ?_, ?_⟩
      · by_cases h : w = i
        · subst h; exact upd_s
        · rw [upd_n h]; exact h1 w (by omega)
      show FX7_behind_L76 _ _ _ _ _ _ _ _ _ _ _ _ = FX7_behind_L76 _ _ _ _ _ _ _ _ _ _ _ _
      rw [FX7_behind_L76, if_neg (show ¬ (5 : Int32) ≤ nI i from nI_ge (a := i) (b := 5) hi (by omega)), i5, gi_i (in_n (by omega) (by omega)), gi_i (in_n (by omega) (by omega)), cl_n (n := 5 * l + i) (by omega), cl_n (n := i) (by omega), bd, nI_1, t4 i hi, hrf i hi])
    obtain ⟨m2, l2, e8, h8⟩ := m_mix (mad := mad) (lon := lon) (by omega : 1 < P) h4 hk hdk hd4 g5.2.1 (CR_sh s4 g4) r5.2.1 h7
    obtain ⟨rr, pp, d, t, deg', num', q1, q2, q3⟩ := made_ok (deg := deg) (num := num) h4 hp' (iv_hp (by omega)) h8 h6
    rw [e7, ob_i e8, ob_i q1, ob_i e6, ob_i q2]
    exact ⟨_, _, _, _, _, _, _, _, _, _, _, _, rfl, rfl, q3⟩
  · have hle : ¬ nI (dq pdg q * dq pdg r) ≤ 4 := by
      rw [show (4 : Int32) = nI 4 from rfl, le_n (by omega) (by omega)]; exact h5
    rw [if_neg hle, if_neg hle]
    exact ⟨_, _, _, _, _, _, _, _, _, _, _, _, rfl, rfl, made_no⟩
