/-! map, plain -/
/-- what a call that makes a MAP leaves: the class's row, the model's rows -/
def MADE (P : Nat) (x1 : Int32) (deg num deg' num' f : Nat → Int32) (pp d t : Int32) (mk : Bool) : Prop := (mk = false → deg' = deg ∧ num' = num) ∧ (mk = true → ∃ (a : Nat) (c : Nat → Nat), a < 10 ∧ x1 = nI a ∧ (∀ k, k < 5 → c k < P) ∧ (∀ k, k < 5 → f k = nI (c k)) ∧ pp = nI P ∧ d = nI (dgr c 4) ∧ t = nI (kd c (dgr c 4)) ∧ deg' a = nI (dgr c 4) ∧ (∀ j, j ≠ a → deg' j = deg j) ∧ CR num' (5 * a) c ∧ ∀ j, (j < 5 * a ∨ 5 * a + 5 ≤ j) → num' j = num j)
theorem made_no {P : Nat} {x1 : Int32} {deg num f : Nat → Int32} {pp d t : Int32} : MADE P x1 deg num deg num f pp d t false := ⟨fun _ => ⟨rfl, rfl⟩, fun h => (Bool.false_ne_true h).elim⟩
/-- the two ends: the model's lay, the class's put -/
theorem made_ok {P a : Nat} {c : Nat → Nat} {deg num mad f : Nat → Int32} (hP2 : P < 200) (ha : a < 10) (hc : ∀ k, k < 5 → c k < P) (hm : ∀ k, k < 5 → mad k = nI (c k)) (hf : ∀ k, k < 5 → f k = nI (c k)) : ∃ r pp d t deg' num', FX7_lay deg num mad (nI a) = some (r, 0, deg', num') ∧ FX6_put (nI P) 5 f (nI a) = some (r, 0, pp, d, t) ∧ MADE P (nI a) deg num deg' num' f pp d t true := by
  obtain ⟨deg', num', e, h1, h2, h3, h4⟩ := m_lay (deg := deg) (num := num) hP2 ha hc hm
  exact ⟨_, _, _, _, deg', num', e, x_put hP2 ha hc hf, fun h => (Bool.false_ne_true h.symm).elim, fun _ => ⟨a, c, ha, rfl, hc, hf, rfl, rfl, rfl, h1, h2, h3, h4⟩⟩
theorem in_1 (x : Int32) (m : Nat) (hm : m < 2147483647) {B : Int64} (hB : B = (nI m).toInt64) : ((x < 1 ∨ ¬ x < 1 ∧ ¬ x ≤ nI m) ∧ FX7_in x.toInt64 1 B = some false) ∨ ∃ k, 1 ≤ k ∧ k ≤ m ∧ x = nI k ∧ FX7_in x.toInt64 1 B = some true := by
  subst hB
  rw [show (1 : Int64) = (1 : Int32).toInt64 from rfl, m_inI]
  by_cases h : x < 1
  · refine Or.inl ⟨Or.inl h, by rw [decide_eq_false (fun h2 => absurd h (Int32.not_lt.mpr h2.1))]⟩
  · have h0 : ¬ x < 0 := fun e => h (Int32.lt_trans e (by decide))
    obtain ⟨j, hj, rfl⟩ := nI_of h0
    have hj1 : 1 ≤ j := by
      rw [show (1 : Int32) = nI 1 from rfl, lt_n (by omega) (by omega)] at h; omega
    by_cases h2 : j ≤ m
    · exact Or.inr ⟨j, hj1, h2, rfl, by rw [decide_eq_true ⟨Int32.not_lt.mp h, by rw [le_n (by omega) (by omega)]; exact h2⟩]⟩
    · have h3 : ¬ nI j ≤ nI m := by rw [le_n (by omega) (by omega)]; exact h2
      exact Or.inl ⟨Or.inr ⟨h, h3⟩, by rw [decide_eq_false (fun e => h3 e.2)]⟩
theorem fnd7 (i : Int32) : FX7_found i = some ((-1000010) - i, i) := rfl
theorem op_map {P : Nat} (hP : 1 < P) (hP2 : P < 200) {SL : List Nat} {sh : Nat → Option Nat} {lan man sln : Nat → Int32} {itm : Nat → Int64} {snn sia : Nat → Nat} {svv : Nat → Nat → Int64} {deg num mad : Nat → Int32} {sta : Int32} (hsh : SHT SL sh lan man itm sln snn svv) (x1 x2 x3 x4 : Int32) : ∃ a s deg' num' mad' f pp d t mk, FX7_map sta (nI P) lan man itm deg num mad x1 x2 x3 x4 = some (a, 0, s, deg', num', mad') ∧ FX6_map (nI P) sta sh SL sln sia snn svv x1 x2 x3 x4 = some (a, s, f, pp, d, t, mk) ∧ MADE P x1 deg num deg' num' f pp d t mk := by
  rw [FX7_map, FX6_map]
  rcases plc x1 with ⟨e1, e2⟩ | ⟨p, hp, rfl, e1, e2⟩
  · rw [ob_i e1, ob_i e2, if_pos bf0, if_pos bf0]; exact ⟨_, _, _, _, _, _, _, _, _, _, rfl, rfl, made_no⟩
  rw [ob_i e1, ob_i e2, if_neg bt0, if_neg bt0]
  rcases sht x2 with ⟨e1, e2⟩ | ⟨k, hk, rfl, e1, e2⟩
  · rw [ob_i e1, ob_i e2, if_pos bf0, if_pos bf0]; exact ⟨_, _, _, _, _, _, _, _, _, _, rfl, rfl, made_no⟩
  rw [ob_i e1, ob_i e2, if_neg bt0, if_neg bt0]
  rcases in_1 x4 5 (by omega) (B := 5) rfl with ⟨h, e⟩ | ⟨n, hn1, hn, rfl, e⟩
  · rw [ob_i e, if_pos bf0]
    rcases h with h | ⟨h1, h2⟩
    · rw [if_pos h]; exact ⟨_, _, _, _, _, _, _, _, _, _, rfl, rfl, made_no⟩
    · rw [if_neg h1, if_neg (show ¬ x4 ≤ 5 from h2)]; exact ⟨_, _, _, _, _, _, _, _, _, _, rfl, rfl, made_no⟩
  rw [ob_i e, if_neg bt0, if_neg (show ¬ nI n < 1 from nI_nlt (a := n) (b := 1) hn1 (by omega)), if_pos (show nI n ≤ 5 from by rw [show (5 : Int32) = nI 5 from rfl, le_n (by omega) (by omega)]; exact hn)]
  have gk : ∀ {α : Type} (z : Option α), gi (nI k) 8 z = z := fun z => gi_i (in_n hk (by omega))
  simp only [gk]
  rw [cl_n (n := k) (by omega), bd]
  rcases hsh.1 k hk with ⟨s1, s2⟩ | ⟨q, s1, hq, s3, s4, s5, ⟨m, s6, s7⟩, s8⟩
  · rw [s1, oq, if_neg (by rw [s2]; decide)]
    exact ⟨_, _, _, _, _, _, _, _, _, _, rfl, rfl, made_no⟩
  have hl : lan k = nI m := s3.trans s7
  rw [s1, oq, gd_i hq, if_pos (by rw [hl]; exact nI_pos' (by omega)), s4]
  by_cases h3 : x3 < 0
  · rw [if_pos h3, FX5_holds, if_pos h3]
    exact ⟨_, _, _, _, _, _, _, _, _, _, rfl, rfl, made_no⟩
  obtain ⟨j, hj, rfl⟩ := nI_of h3
  rw [if_neg h3, ob_i (holds_n (sn := snn q) (j := j) (m := n) (by omega) (by omega) (by omega))]
  by_cases h4 : j + n ≤ snn q
  · rw [if_pos ((cmp_le (n := snn q) (by omega) (by omega) (by omega)).mpr h4), decide_eq_true h4, if_neg bt0]
    -- the model's row
    let cc : Nat → Nat := fun i => if i < n then md P (svv q (j + i)).toInt else 0
    have hcc : ∀ i, cc i < P := fun i => by
      show (if i < n then md P (svv q (j + i)).toInt else 0) < P
      split
      · exact md_lt (by omega) _
      · omega
    obtain ⟨m1, h5, e5⟩ := cloop0 (σ := Nat → Int32) 5 (by omega) (fun fuel i st => FX7_map_L80 (nI p) (nI k) (nI j) (nI n) 0 (nI P) itm deg num fuel i st) (fun st => (ob (FX7_lay deg num st (nI p)) (fun u_130 => some (u_130.1, 0, u_130.2.1, u_130.2.2.1, u_130.2.2.2, st)))) (fun i st => ∀ w, w < i → st w = nI (cc w)) mad (fun w hw => by omega) (fun fuel st h1 => by
      show FX7_map_L80 _ _ _ _ _ _ _ _ _ _ _ _ = _
      rw [FX7_map_L80, if_pos (by decide)]) (fun fuel i st hi h1 => by
      refine ⟨upd st i (nI (cc i)), fun w hw => ?_, ?_⟩
      · by_cases h : w = i
        · subst h; exact upd_s
        · rw [upd_n h]; exact h1 w (by omega)
      show FX7_map_L80 _ _ _ _ _ _ _ _ _ _ _ _ = FX7_map_L80 _ _ _ _ _ _ _ _ _ _ _ _
      rw [FX7_map_L80, if_neg (show ¬ (5 : Int32) ≤ nI i from nI_ge (a := i) (b := 5) hi (by omega))]
      by_cases hin : i < n
      · have e6 : cc i = md P (svv q (j + i)).toInt := if_pos hin
        rw [if_neg (nI_ge hin (by omega)), i40, nI_add, gi_i (in_n (by omega) (by omega)), cl_n (n := 40 * k + j + i) (by omega), show itm (40 * k + j + i) = svv q (j + i) from by rw [show 40 * k + j + i = 40 * k + (j + i) by omega]; exact s8 _ (by omega), ob_i (m_modulo (by omega) hP2), FX7_map_J121, gi_i (in_n hi (by omega)), cl_n (n := i) (by omega), bd, nI_1, e6]
      · have e6 : cc i = 0 := if_neg hin
        rw [if_pos (by rw [le_n (by omega) (by omega)]; omega), FX7_map_J121, gi_i (in_n hi (by omega)), cl_n (n := i) (by omega), bd, nI_1, e6]; rfl)
    obtain ⟨f1, ⟨h7, h8⟩, e7⟩ := cloop0 (σ := Nat → Int32) n (by omega) (fun fuel i st => FX6_map_L73 (nI p) (nI j) (nI n) q (nI P) sia snn svv fuel i st) (fun st => (ob (FX6_put (nI P) 5 st (nI p)) (fun u_114 => some (u_114.1, u_114.2.1, st, u_114.2.2.1, u_114.2.2.2.1, u_114.2.2.2.2, true)))) (fun i st => (∀ w, w < i → st w = nI (cc w)) ∧ ∀ w, i ≤ w → st w = 0) (fun _ => 0) ⟨fun w hw => by omega, fun w _ => rfl⟩ (fun fuel st h1 => by
      show FX6_map_L73 _ _ _ _ _ _ _ _ _ _ _ = _
      rw [FX6_map_L73, if_pos (Int32.le_refl _)]) (fun fuel i st hi h1 => by
      obtain ⟨h1, h2⟩ := h1
      have e6 : cc i = md P (svv q (j + i)).toInt := if_pos hi
      refine ⟨upd st i (nI (cc i)), ⟨fun w hw => ?_, fun w hw => ?_⟩, ?_⟩
      · by_cases h : w = i
        · subst h; exact upd_s
        · rw [upd_n h]; exact h1 w (by omega)
      · rw [upd_n (by omega)]; exact h2 w (by omega)
      show FX6_map_L73 _ _ _ _ _ _ _ _ _ _ _ = FX6_map_L73 _ _ _ _ _ _ _ _ _ _ _
      rw [FX6_map_L73, if_neg (nI_ge hi (by omega)), nI_add, gi_i (in_n (by omega) (by omega)), cl_n (n := j + i) (by omega), nP_l hP2, ob_i (fm_L (by omega) hP2), gi_i (in_n (by omega) (by omega)), cl_n (n := i) (by omega), bd, nI_1, lN_i, e6])
    have hf : ∀ w, w < 5 → f1 w = nI (cc w) := fun w hw => by
      by_cases h : w < n
      · exact h7 w h
      · rw [h8 w (by omega), show cc w = 0 from if_neg h]; rfl
    obtain ⟨r, pp, d, t, deg', num', q1, q2, q3⟩ := made_ok (deg := deg) (num := num) hP2 hp (fun w _ => hcc w) h5 hf
    rw [e5, e7, ob_i q1, ob_i q2]
    exact ⟨_, _, _, _, _, _, _, _, _, _, rfl, rfl, q3⟩
  · rw [if_neg (fun h => h4 ((cmp_le (n := snn q) (by omega) (by omega) (by omega)).mp h)), decide_eq_false h4, if_pos bf0]
    exact ⟨_, _, _, _, _, _, _, _, _, _, rfl, rfl, made_no⟩
theorem op_plain {P : Nat} (hP : 1 < P) (hP2 : P < 200) {deg num mad : Nat → Int32} {sta : Int32} (x1 x2 : Int32) : ∃ a s deg' num' mad' f pp d t mk, FX7_plain sta (nI P) deg num mad x1 x2 = some (a, 0, s, deg', num', mad') ∧ FX6_plain (nI P) sta x1 x2 = some (a, s, f, pp, d, t, mk) ∧ MADE P x1 deg num deg' num' f pp d t mk := by
  rw [FX7_plain, FX6_plain]
  rcases plc x1 with ⟨e1, e2⟩ | ⟨p, hp, rfl, e1, e2⟩
  · rw [ob_i e1, ob_i e2, if_pos bf0, if_pos bf0]; exact ⟨_, _, _, _, _, _, _, _, _, _, rfl, rfl, made_no⟩
  rw [ob_i e1, ob_i e2, if_neg bt0, if_neg bt0, ob_i (fm_I (by omega) hP2), gi_i (show vp_in 0 5 from in_n (i := 0) (n := 5) (by omega) (by omega)), gi_i (show vp_in 2 5 from in_n (i := 2) (n := 5) (by omega) (by omega))]
  let cc : Nat → Nat := fun i => if i = 0 then md P x2.toInt else if i = 2 then 1 else 0
  have hcc : ∀ i, cc i < P := fun i => by
    show (if i = 0 then md P x2.toInt else if i = 2 then 1 else 0) < P
    split
    · exact md_lt (by omega) _
    · split <;> omega
  obtain ⟨m1, h5, e5⟩ := cloop0 (σ := Nat → Int32) 5 (by omega) (fun fuel i st => FX7_plain_L17 (nI p) x2 0 (nI P) deg num fuel i st) (fun st => (ob (FX7_lay deg num st (nI p)) (fun u_130 => some (u_130.1, 0, u_130.2.1, u_130.2.2.1, u_130.2.2.2, st)))) (fun i st => ∀ w, w < i → st w = nI (cc w)) mad (fun w hw => by omega) (fun fuel st h1 => by
    show FX7_plain_L17 _ _ _ _ _ _ _ _ _ = _
    rw [FX7_plain_L17, if_pos (by decide)]) (fun fuel i st hi h1 => by
    refine ⟨upd st i (nI (cc i)), fun w hw => ?_, ?_⟩
    · by_cases h : w = i
      · subst h; exact upd_s
      · rw [upd_n h]; exact h1 w (by omega)
    show FX7_plain_L17 _ _ _ _ _ _ _ _ _ = FX7_plain_L17 _ _ _ _ _ _ _ _ _
    rw [FX7_plain_L17, if_neg (show ¬ (5 : Int32) ≤ nI i from nI_ge (a := i) (b := 5) hi (by omega))]
    by_cases h0 : i = 0
    · have e6 : cc i = md P x2.toInt := if_pos h0
      rw [if_pos (by rw [h0]; rfl), ob_i (m_modI (by omega) hP2), FX7_plain_J50, gi_i (in_n hi (by omega)), cl_n (n := i) (by omega), bd, nI_1, e6]
    · by_cases h2 : i = 2
      · have e6 : cc i = 1 := by
          show (if i = 0 then md P x2.toInt else if i = 2 then 1 else 0) = 1
          rw [if_neg h0, if_pos h2]
        rw [if_neg (ne0_n (by omega) (by omega)), if_pos (by rw [h2]; rfl), FX7_plain_J50, gi_i (in_n hi (by omega)), cl_n (n := i) (by omega), bd, nI_1, e6]; rfl
      · have e6 : cc i = 0 := by
          show (if i = 0 then md P x2.toInt else if i = 2 then 1 else 0) = 0
          rw [if_neg h0, if_neg h2]
        rw [if_neg (ne0_n (by omega) (by omega)), if_neg (show ¬ nI i = 2 from nI_ne (b := 2) (by omega) (by omega) h2), FX7_plain_J50, gi_i (in_n hi (by omega)), cl_n (n := i) (by omega), bd, nI_1, e6]; rfl)
  have hf : ∀ w, w < 5 → upd (upd (fun _ => (0 : Int32)) (Int32.toNatClampNeg 0) (nI (md P x2.toInt))) (Int32.toNatClampNeg 2) 1 w = nI (cc w) := fun w hw => by
    have h5 : w = 0 ∨ w = 1 ∨ w = 2 ∨ w = 3 ∨ w = 4 := by omega
    rcases h5 with rfl | rfl | rfl | rfl | rfl <;> rfl
  obtain ⟨r, pp, d, t, deg', num', q1, q2, q3⟩ := made_ok (deg := deg) (num := num) hP2 hp (fun w _ => hcc w) h5 hf
  rw [e5, ob_i q1, ob_i q2]
  exact ⟨_, _, _, _, _, _, _, _, _, _, rfl, rfl, q3⟩
