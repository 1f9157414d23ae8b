/-! round -/
def cpw (d : Nat) : Nat → Nat
  | 0 => 1
  | k + 1 => if cpw d k ≤ 64 then cpw d k * d else cpw d k
theorem cpw_ok {d : Nat} (hd : 2 ≤ d) (hd4 : d ≤ 4) : ∀ k, cpw d k ≤ 256 ∧ ((cpw d k ≤ 64 ∧ cpw d k = d ^ k) ∨ (64 < cpw d k ∧ 64 < d ^ k))
  | 0 => ⟨by rw [cpw]; omega, Or.inl ⟨by rw [cpw]; omega, rfl⟩⟩
  | k + 1 => by
    obtain ⟨h1, h2⟩ := cpw_ok hd hd4 k
    rw [cpw]
    rcases h2 with ⟨h3, h4⟩ | ⟨h3, h4⟩
    · have h5 : cpw d k * d ≤ 64 * 4 := Nat.mul_le_mul h3 hd4
      rw [if_pos h3, Nat.pow_succ, ← h4]
      refine ⟨by omega, ?_⟩
      by_cases h6 : cpw d k * d ≤ 64
      · exact Or.inl ⟨h6, rfl⟩
      · exact Or.inr ⟨by omega, by omega⟩
    · rw [if_neg (by omega), Nat.pow_succ]
      have h5 : d ^ k * 1 ≤ d ^ k * d := Nat.mul_le_mul_left _ (by omega)
      exact ⟨h1, Or.inr ⟨h3, by omega⟩⟩
theorem pow_6 {d n : Nat} (hd : 2 ≤ d) (hd4 : d ≤ 4) (hn : n ≤ 6) : d ^ n ≤ 4096 := Nat.le_trans (Nat.pow_le_pow_right (by omega) hn) (Nat.pow_le_pow_left hd4 6)
theorem x_power {d n : Nat} (hd : 2 ≤ d) (hd4 : d ≤ 4) (hn : n ≤ 6) : FX4_power (nI d) (nI n) = some (nI (d ^ n)) := by
  obtain ⟨st, h1, e⟩ := cloop0 (σ := Int32) n (by omega) (fun fuel i st => FX4_power_L4 (nI d) (nI n) fuel st i) (fun st => some st) (fun i st => st = nI (d ^ i)) 1 rfl (fun fuel st h1 => by
    show FX4_power_L4 _ _ _ _ _ = _
    rw [FX4_power_L4, if_pos (Int32.le_refl _)]) (fun fuel i st hi h1 => by
    subst h1
    refine ⟨_, rfl, ?_⟩
    show FX4_power_L4 _ _ _ _ _ = FX4_power_L4 _ _ _ _ _
    rw [FX4_power_L4, if_neg (nI_ge hi (by omega)), pk_mul, bd, bd, nI_1, Nat.pow_succ])
  rw [FX4_power]
  exact e.trans (by rw [h1])
theorem op_round {P : Nat} {PL : List Nat} {sf : Nat → Option Nat} {ppp pdg ptd : Nat → Int32} {pca : Nat → Nat} {pcc : Nat → Nat → Int32} {deg num don nex res quo_ rou : Nat → Int32} {sta : Int32} {mp : Option Nat} {kn : Int32} {dd rd : Nat → Int32} {dn rn : Nat → Nat → Int32} (h : PR P) (hsf : SF PL sf deg num pdg pcc) (hg : ∀ q, q ∈ PL → GP P ppp pdg ptd pcc q) (hr : RND P PL pdg pcc mp kn dd rd dn rn) (x1 x2 x3 : Int32) : ∃ a s don' nex' res' quo' rou' mp' kn' dd' rd' dn' rn', FX7_round sta (nI P) deg num don nex res quo_ rou x1 x2 x3 = some (a, 0, s, don', nex', res', quo', rou') ∧ FX6_round sta sf (nI P) mp kn dd rd dn rn PL ppp pca pdg ptd pcc x1 x2 x3 = some (a, s, mp', kn', dd', rd', dn', rn') ∧ RND P PL pdg pcc mp' kn' dd' rd' dn' rn' := by
  have h3 := h.1
  have h4 := h.2.1
  rw [FX7_round, FX6_round]
  rcases plc x1 with ⟨e1, e2⟩ | ⟨k, hk, rfl, e1, e2⟩
  · rw [ob_i e1, ob_i e2, if_pos bf0, if_pos bf0]; exact ⟨_, _, _, _, _, _, _, _, _, _, _, _, _, rfl, rfl, hr⟩
  rw [ob_i e1, ob_i e2, if_neg bt0, if_neg bt0]
  rcases in_1 x2 6 (by omega) (B := 6) rfl with ⟨hx, e⟩ | ⟨n, hn1, hn, rfl, e⟩
  · rw [ob_i e, if_pos bf0]
    rcases hx with hx | ⟨hx1, hx2⟩
    · rw [if_pos hx]; exact ⟨_, _, _, _, _, _, _, _, _, _, _, _, _, rfl, rfl, hr⟩
    · rw [if_neg hx1, if_pos (show (6 : Int32) < x2 from Int32.not_le.mp hx2)]; exact ⟨_, _, _, _, _, _, _, _, _, _, _, _, _, rfl, rfl, hr⟩
  rw [ob_i e, if_neg bt0, if_neg (show ¬ nI n < 1 from nI_nlt (a := n) (b := 1) hn1 (by omega)), if_neg (show ¬ (6 : Int32) < nI n from nI_nlt (a := 6) (b := n) hn (by omega))]
  by_cases hx3 : -1 ≤ x3
  · rw [if_pos hx3, if_pos hx3]
    have gk : ∀ {α : Type} (z : Option α), gi (nI k) 10 z = z := fun z => gi_i (in_n hk (by omega))
    simp only [gk]
    rw [cl_n (n := k) (by omega), bd]
    rcases hsf k hk with ⟨s1, s2⟩ | ⟨q, s1, hq, s3, s4⟩
    · rw [s1, oq, ob_i (look_no hk s2), bd, if_neg (by decide)]
      exact ⟨_, _, _, _, _, _, _, _, _, _, _, _, _, rfl, rfl, hr⟩
    have hgq := hg q hq
    obtain ⟨g1, g2, g3, g4, g5⟩ := hgq
    have hdk : deg k = nI (dq pdg q) := s3.trans g2
    have hd4 := g5.1
    rw [s1, oq, gd_i hq, ob_i (look_ok hk hdk hd4), bd, if_pos (by decide), hdk, g2]
    by_cases hd : 2 ≤ dq pdg q
    · have hd2 : (2 : Int32) ≤ nI (dq pdg q) := by rw [show (2 : Int32) = nI 2 from rfl, le_n (by omega) (by omega)]; exact hd
      have hp6 := pow_6 hd hd4 hn
      rw [if_pos hd2, if_pos hd2, ob_i (x_power hd hd4 hn)]
      -- the model's power
      obtain ⟨st, hst, e5⟩ := cloop0 (σ := Int32) n (by omega) (fun fuel i st => FX7_round_L75 (nI k) (nI n) x3 sta 0 0 (nI P) deg num don nex res quo_ rou fuel st i) (fun st => (if st ≤ 64 then (ob (FX7_findRounds (nI P) deg num don nex res quo_ rou (nI k) (nI n)) (fun u_129 => if 0 ≤ x3 then (if x3 ≤ 64 then (gi ((65 * (nI n)) + x3) 455 ((some ((u_129.2.2.2.2 (Int32.toNatClampNeg ((65 * (nI n)) + x3))), 0, 0, u_129.1, u_129.2.1, u_129.2.2.1, u_129.2.2.2.1, u_129.2.2.2.2)))) else ((some (0, 0, 0, u_129.1, u_129.2.1, u_129.2.2.1, u_129.2.2.2.1, u_129.2.2.2.2)))) else (ob (FX7_degreeOf u_129.2.2.2.2 (nI n)) (fun u_138 => (some (u_138, 0, 0, u_129.1, u_129.2.1, u_129.2.2.1, u_129.2.2.2.1, u_129.2.2.2.2)))))) else (some ((-1000003), 0, sta, don, nex, res, quo_, rou)))) (fun i st => st = nI (cpw (dq pdg q) i)) 1 rfl (fun fuel st h1 => by
        show FX7_round_L75 _ _ _ _ _ _ _ _ _ _ _ _ _ _ _ _ _ = _
        rw [FX7_round_L75, if_pos (Int32.le_refl _)]) (fun fuel i st hi h1 => by
        subst h1
        obtain ⟨c1, c2⟩ := cpw_ok hd hd4 i
        refine ⟨_, rfl, ?_⟩
        show FX7_round_L75 _ _ _ _ _ _ _ _ _ _ _ _ _ _ _ _ _ = FX7_round_L75 _ _ _ _ _ _ _ _ _ _ _ _ _ _ _ _ _
        rw [FX7_round_L75, if_neg (nI_ge hi (by omega)), cpw]
        by_cases h6 : cpw (dq pdg q) i ≤ 64
        · rw [if_pos (show nI (cpw (dq pdg q) i) ≤ 64 by rw [show (64 : Int32) = nI 64 from rfl, le_n (by omega) (by omega)]; exact h6), gi_i (in_n hk (by omega)), cl_n (n := k) (by omega), hdk, pk_mul, FX7_round_J102, bd, nI_1, if_pos h6]
        · rw [if_neg (show ¬ nI (cpw (dq pdg q) i) ≤ 64 by rw [show (64 : Int32) = nI 64 from rfl, le_n (by omega) (by omega)]; exact h6), FX7_round_J102, bd, nI_1, if_neg h6])
      subst hst
      obtain ⟨c1, c2⟩ := cpw_ok hd hd4 n
      rw [e5]
      rcases c2 with ⟨c3, c4⟩ | ⟨c3, c4⟩
      · have hpw : dq pdg q ^ n ≤ 64 := by rw [← c4]; exact c3
        obtain ⟨don', nex', res', quo', rou', e6, h6⟩ := m_find (don := don) (nex := nex) (res := res) (quo_ := quo_) (rou := rou) h hk hdk g5 (CR_sh s4 g4) hd hn hpw
        obtain ⟨kn', dd', rd', dn', rn', e7, h7, h8⟩ := x_prepare (pca := pca) h hq (hg q hq) hd hn hpw hr
        rw [g2] at e7
        have hRW := RT_ok h g5 hd n n (Nat.le_refl n) hn1 hn hpw
        obtain ⟨w1, w2, w3, w4⟩ := h8 n hn1 (Nat.le_refl n)
        have hRW2 := hRW
        obtain ⟨z1, z2, z3, z4⟩ := hRW
        rw [if_pos (show nI (cpw (dq pdg q) n) ≤ 64 by rw [show (64 : Int32) = nI 64 from rfl, le_n (by omega) (by omega)]; exact c3), if_pos (show nI (dq pdg q ^ n) ≤ 64 by rw [show (64 : Int32) = nI 64 from rfl, le_n (by omega) (by omega)]; exact hpw), ob_i e6, ob_i e7]
        dsimp only
        by_cases hx0 : 0 ≤ x3
        · obtain ⟨j, hj, rfl⟩ := nI_of (Int32.not_lt.mpr hx0)
          rw [if_pos hx0, if_pos hx0]
          by_cases hj64 : j ≤ 64
          · rw [if_pos (show nI j ≤ 64 by rw [show (64 : Int32) = nI 64 from rfl, le_n (by omega) (by omega)]; exact hj64), i65, gi_i (in_n (by omega) (by omega)), cl_n (n := 65 * n + j) (by omega), h6 n hn1 (Nat.le_refl n) j (by omega)]
            have e9 : FX4_numberOf rd' rn' (nI n) (nI j) = some (nI ((RT P (cq pcc q) (dq pdg q) n).1 j)) := by
              rw [FX4_numberOf, if_neg (nI_pos (by omega)), gi_i (in_n (by omega) (by omega)), cl_n (n := n) (by omega), w2]
              by_cases hjd : (RT P (cq pcc q) (dq pdg q) n).2 < j
              · rw [if_pos (by rw [lt_n (by omega) (by omega)]; exact hjd), z3 j hjd (by omega)]; rfl
              · rw [if_neg (by rw [lt_n (by omega) (by omega)]; exact hjd), gi_i (in_n (by omega) (by omega)), gi_i (in_n (by omega) (by omega)), cl_n (n := j) (by omega), w4 j (by omega)]
            rw [ob_i e9, FX6_round_J112, fin6, ob_i rfl]
            exact ⟨_, _, _, _, _, _, _, _, _, _, _, _, _, rfl, rfl, h7⟩
          · rw [if_neg (show ¬ nI j ≤ 64 by rw [show (64 : Int32) = nI 64 from rfl, le_n (by omega) (by omega)]; exact hj64)]
            have e9 : FX4_numberOf rd' rn' (nI n) (nI j) = some 0 := by
              rw [FX4_numberOf, if_neg (nI_pos (by omega)), gi_i (in_n (by omega) (by omega)), cl_n (n := n) (by omega), w2, if_pos (by rw [lt_n (by omega) (by omega)]; omega)]
            rw [ob_i e9, FX6_round_J112, fin6, ob_i rfl]
            exact ⟨_, _, _, _, _, _, _, _, _, _, _, _, _, rfl, rfl, h7⟩
        · rw [if_neg hx0, if_neg hx0, ob_i (m_degree h4 hn hRW2 (h6 n hn1 (Nat.le_refl n)))]
          have e9 : FX4_degreeOf rd' (nI n) = some (nI (RT P (cq pcc q) (dq pdg q) n).2) := by
            rw [FX4_degreeOf, gi_i (in_n (by omega) (by omega)), cl_n (n := n) (by omega), w2]
          rw [ob_i e9, FX6_round_J112, fin6, ob_i rfl]
          exact ⟨_, _, _, _, _, _, _, _, _, _, _, _, _, rfl, rfl, h7⟩
      · rw [if_neg (show ¬ nI (cpw (dq pdg q) n) ≤ 64 by rw [show (64 : Int32) = nI 64 from rfl, le_n (by omega) (by omega)]; omega), if_neg (show ¬ nI (dq pdg q ^ n) ≤ 64 by rw [show (64 : Int32) = nI 64 from rfl, le_n (by omega) (by omega)]; omega)]
        exact ⟨_, _, _, _, _, _, _, _, _, _, _, _, _, rfl, rfl, hr⟩
    · have hd2 : ¬ (2 : Int32) ≤ nI (dq pdg q) := by rw [show (2 : Int32) = nI 2 from rfl, le_n (by omega) (by omega)]; exact hd
      rw [if_neg hd2, if_neg hd2]
      exact ⟨_, _, _, _, _, _, _, _, _, _, _, _, _, rfl, rfl, hr⟩
  · rw [if_neg hx3, if_neg hx3]
    exact ⟨_, _, _, _, _, _, _, _, _, _, _, _, _, rfl, rfl, hr⟩
