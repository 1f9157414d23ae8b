/-! the class's rounds: divideOut, prepare -/
theorem x_divOutL {P d m : Nat} {c : Nat → Nat} {rd : Nat → Int32} {rn : Nat → Nat → Int32} (h : PR P) (hpc : PolyC P c d) (hd : 2 ≤ d) (hm : m < 6) (h1 : d ^ (m + 1) ≤ 64) (hrd : ∀ t, 1 ≤ t → t ≤ m → rd t = nI (RT P c d t).2) (hrn : ∀ t, 1 ≤ t → t ≤ m → ∀ j, j < 65 → rn t j = nI ((RT P c d t).1 j)) (hd0 : rd (m + 1) = nI (d ^ (m + 1))) (hn0 : ∀ j, j < 65 → rn (m + 1) j = nI (R0 P c d (m + 1) j)) : ∃ rd' rn', FX4_divideOut_L50 (nI (m + 1)) (nI P) FU 1 rd rn = some (rd', rn') ∧ rd' (m + 1) = nI (RT P c d (m + 1)).2 ∧ (∀ j, j < 65 → rn' (m + 1) j = nI ((RT P c d (m + 1)).1 j)) ∧ ∀ t, t ≠ m + 1 → rd' t = rd t ∧ rn' t = rn t := by
  have hP := h.1
  have hP2 := h.2.1
  have hT : ∀ k, 1 ≤ k → k ≤ m → RW P (RT P c d k) := fun k h2 h3 => RT_ok h hpc hd k k (Nat.le_refl k) h2 (by omega) (pow_le hd (by omega) h1)
  have cm : (nI (m + 1)).toNatClampNeg = m + 1 := cl_n (by omega)
  obtain ⟨⟨rd1, rn1⟩, h2, e1⟩ := cloop1 (σ := (Nat → Int32) × (Nat → Nat → Int32)) 1 (m + 1) (by omega) (by omega) (fun fuel i st => FX4_divideOut_L50 (nI (m + 1)) (nI P) fuel i st.1 st.2) (fun st => some st) (fun i st => 1 ≤ i ∧ st.1 (m + 1) = nI (dvs P c d (RT P c d) (m + 1) (i - 1)).2 ∧ (∀ j, j < 65 → st.2 (m + 1) j = nI ((dvs P c d (RT P c d) (m + 1) (i - 1)).1 j)) ∧ ∀ t, t ≠ m + 1 → st.1 t = rd t ∧ st.2 t = rn t) (rd, rn) ⟨Nat.le_refl 1, hd0, hn0, fun t _ => ⟨rfl, rfl⟩⟩ (fun fuel st h2 => by
    show FX4_divideOut_L50 _ _ _ _ _ _ = _
    rw [FX4_divideOut_L50, if_pos (Int32.le_refl _)]) (fun fuel i st hi h2 => by
    obtain ⟨h2, h3, h4, h5⟩ := h2
    obtain ⟨t, rfl⟩ : ∃ t, i = t + 1 := ⟨i - 1, by omega⟩
    rw [Nat.add_sub_cancel] at h3 h4
    have ct : (nI (t + 1)).toNatClampNeg = t + 1 := cl_n (by omega)
    by_cases h6 : (m + 1) % (t + 1) = 0
    · have hle := RT_le (c := c) (P := P) hd hpc.1 hm h1 (by omega : t < m) h6
      have hT1 := hT (t + 1) (by omega) (by omega)
      have hD := dvs_ok h hpc hd hm h1 hT t (by omega)
      obtain ⟨rf', e, h7⟩ := x_divide (rf := st.2 (m + 1)) (bf := st.2 (t + 1)) (x := RT P c d (t + 1)) (r := (dvs P c d (RT P c d) (m + 1) t).1) (g := (dvs P c d (RT P c d) (m + 1) t).2) h hT1 (fun j hj => by
        rw [(h5 (t + 1) (by omega)).2]; exact hrn (t + 1) (by omega) (by omega) j hj) hD hle h4
      have er : st.1 (t + 1) = nI (RT P c d (t + 1)).2 := by
        rw [(h5 (t + 1) (by omega)).1]; exact hrd (t + 1) (by omega) (by omega)
      refine ⟨(upd st.1 (m + 1) (nI ((dvs P c d (RT P c d) (m + 1) t).2 - (RT P c d (t + 1)).2)), va_up st.2 (m + 1) rf'), ⟨by omega, ?_, fun j hj => ?_, fun k hk => ⟨?_, ?_⟩⟩, ?_⟩
      · show upd _ _ _ _ = _
        rw [upd_s, Nat.add_sub_cancel, dvs, if_pos h6]
      · show va_up st.2 (m + 1) rf' (m + 1) j = _
        rw [vaup_s, h7 j hj, Nat.add_sub_cancel, dvs, if_pos h6]
      · show upd _ _ _ _ = _
        rw [upd_n hk]; exact (h5 k hk).1
      · show va_up st.2 (m + 1) rf' k = _
        rw [vaup_n hk]; exact (h5 k hk).2
      · show FX4_divideOut_L50 _ _ _ _ _ _ = FX4_divideOut_L50 _ _ _ _ _ _
        have g1 : ∀ {α : Type} (z : Option α), gi (nI (m + 1)) 7 z = z := fun z => gi_i (in_n (by omega) (by omega))
        have g2 : ∀ {α : Type} (z : Option α), gi (nI (t + 1)) 7 z = z := fun z => gi_i (in_n (by omega) (by omega))
        rw [FX4_divideOut_L50, if_neg (nI_ge hi (by omega)), gd_i (ne0_n (by omega) (by omega)), irm_n (by omega) (by omega) (by omega), if_pos (by rw [h6]; rfl)]
        simp only [g1, g2]
        rw [ct, cm, gd_i (by omega), h3, er, ob_i e, FX4_divideOut_J99, bd, nI_1, sub_n hle]
    · have h8 := Nat.mod_lt (m + 1) (show 0 < t + 1 by omega)
      refine ⟨st, ⟨by omega, ?_, fun j hj => ?_, h5⟩, ?_⟩
      · rw [h3, Nat.add_sub_cancel, dvs, if_neg h6]
      · rw [h4 j hj, Nat.add_sub_cancel, dvs, if_neg h6]
      · show FX4_divideOut_L50 _ _ _ _ _ _ = FX4_divideOut_L50 _ _ _ _ _ _
        rw [FX4_divideOut_L50, if_neg (nI_ge hi (by omega)), gd_i (ne0_n (by omega) (by omega)), irm_n (by omega) (by omega) (by omega), if_neg (ne0_n (by omega) (by omega)), FX4_divideOut_J99, bd, nI_1])
  obtain ⟨-, h3, h4, h5⟩ := h2
  refine ⟨rd1, rn1, e1, ?_, fun j hj => ?_, h5⟩
  · rw [RT_eq]; exact h3
  · rw [RT_eq]; exact h4 j hj
theorem x_divOut {P d m : Nat} {c : Nat → Nat} {dd rd : Nat → Int32} {dn rn : Nat → Nat → Int32} (h : PR P) (hpc : PolyC P c d) (hd : 2 ≤ d) (hm : m < 6) (h1 : d ^ (m + 1) ≤ 64) (hrd : ∀ t, 1 ≤ t → t ≤ m → rd t = nI (RT P c d t).2) (hrn : ∀ t, 1 ≤ t → t ≤ m → ∀ j, j < 65 → rn t j = nI ((RT P c d t).1 j)) (hdd : dd (m + 1) = nI (d ^ (m + 1))) (hdn : ∀ j, j < 65 → dn (m + 1) j = nI (itr P c d (m + 1) j)) : ∃ rd' rn', FX4_divideOut (nI P) dd rd dn rn (nI (m + 1)) = some (rd', rn') ∧ rd' (m + 1) = nI (RT P c d (m + 1)).2 ∧ (∀ j, j < 65 → rn' (m + 1) j = nI ((RT P c d (m + 1)).1 j)) ∧ ∀ t, t ≠ m + 1 → rd' t = rd t ∧ rn' t = rn t := by
  have hP := h.1
  have hP2 := h.2.1
  have cm : (nI (m + 1)).toNatClampNeg = m + 1 := cl_n (by omega)
  obtain ⟨i1, i2, i3, i4⟩ := itr_ok h hpc hd (m + 1) h1
  have i2 : ∀ j, j < 65 → itr P c d (m + 1) j < P := i2
  have hi1 := i2 1 (by omega)
  have hcp : ∀ j, j < 65 → va_cpy (dn (m + 1)) (rn (m + 1)) 0 0 65 j = nI (itr P c d (m + 1) j) := fun j hj => by
    rw [va_cpy, if_pos (by omega), show 0 + (j - 0) = j by omega]; exact hdn j hj
  have e6 : FJ9_floorMod_7cf53 (nI (itr P c d (m + 1) 1) - 1) (nI P) = some (nI ((itr P c d (m + 1) 1 + P - 1) % P)) := by
    have := fm_sub (a := itr P c d (m + 1) 1) (t := 1) (b := 1) (by omega : 1 < P) hP2 hi1 (by omega) (by omega)
    rw [show itr P c d (m + 1) 1 + (P - 1) * 1 = itr P c d (m + 1) 1 + P - 1 by omega] at this
    exact this
  obtain ⟨rd', rn', e, h2, h3, h4⟩ := x_divOutL (rd := upd rd (m + 1) (nI (d ^ (m + 1)))) (rn := va_up (va_up rn (m + 1) (va_cpy (dn (m + 1)) (rn (m + 1)) 0 0 65)) (m + 1) (upd (va_cpy (dn (m + 1)) (rn (m + 1)) 0 0 65) 1 (nI ((itr P c d (m + 1) 1 + P - 1) % P)))) h hpc hd hm h1 (fun t ht1 ht2 => by rw [upd_n (by omega)]; exact hrd t ht1 ht2) (fun t ht1 ht2 j hj => by rw [vaup_n (by omega), vaup_n (by omega)]; exact hrn t ht1 ht2 j hj) upd_s (fun j hj => by
    rw [vaup_s, R0]
    by_cases h5 : j = 1
    · subst h5; rw [upd_s, if_pos rfl]
    · rw [upd_n h5, if_neg h5]; exact hcp j hj)
  refine ⟨rd', rn', ?_, h2, h3, fun t ht => ?_⟩
  · have g1 : ∀ {α : Type} (z : Option α), gi (nI (m + 1)) 7 z = z := fun z => gi_i (in_n (by omega) (by omega))
    have g2 : ∀ {α : Type} (z : Option α), gi 1 65 z = z := fun z => gi_i (show vp_in 1 65 from in_n (i := 1) (by omega) (by omega))
    rw [FX4_divideOut]
    simp only [g1, g2]
    rw [gd_i (by decide), cm, show Int32.toNatClampNeg 0 = 0 from rfl, show Int32.toNatClampNeg 1 = 1 from rfl, show Int32.toNatClampNeg (Int32.ofNat 65) = 65 from rfl, vaup_s, hcp 1 (by omega), ob_i e6, hdd]
    exact e
  · obtain ⟨h5, h6⟩ := h4 t ht
    rw [h5, h6, upd_n ht, vaup_n ht, vaup_n ht]
    exact ⟨rfl, rfl⟩
/-- the rows that stand -/
def ROWS (P : Nat) (c : Nat → Nat) (d K : Nat) (dd rd : Nat → Int32) (dn rn : Nat → Nat → Int32) : Prop := ∀ m, 1 ≤ m → m ≤ K → dd m = nI (d ^ m) ∧ rd m = nI (RT P c d m).2 ∧ (∀ j, j < 65 → dn m j = nI (itr P c d m j)) ∧ ∀ j, j < 65 → rn m j = nI ((RT P c d m).1 j)
def RND (P : Nat) (PL : List Nat) (pdg : Nat → Int32) (pcc : Nat → Nat → Int32) (mp : Option Nat) (kn : Int32) (dd rd : Nat → Int32) (dn rn : Nat → Nat → Int32) : Prop := dd 0 = 1 ∧ (∀ j, j < 65 → dn 0 j = nI (if j = 1 then 1 else 0)) ∧ (mp = none ∨ ∃ q K, mp = some q ∧ q ∈ PL ∧ kn = nI K ∧ K ≤ 6 ∧ ROWS P (cq pcc q) (dq pdg q) K dd rd dn rn)
theorem x_prepL {P d n : Nat} {c : Nat → Nat} {am : Nat → Nat} {pf : Nat → Int32} (h : PR P) (hpc : PolyC P c d) (hpf : ∀ k, k < 5 → pf k = nI (c k)) (hd : 2 ≤ d) (hn : n ≤ 6) (h1 : d ^ n ≤ 64) : ∀ k fuel m (dd rd : Nat → Int32) (dn rn : Nat → Nat → Int32), m + k = n → k < fuel → dd 0 = 1 → (∀ j, j < 65 → dn 0 j = nI (if j = 1 then 1 else 0)) → ROWS P c d m dd rd dn rn → ∃ dd' rd' dn' rn', FX4_prepare_L25 am (nI n) (nI P) (some (am 0)) 5 (nI P) (nI d) pf fuel (nI (m + 1)) (nI m) dd rd dn rn = some (some (am 0), nI n, dd', rd', dn', rn') ∧ dd' 0 = 1 ∧ (∀ j, j < 65 → dn' 0 j = nI (if j = 1 then 1 else 0)) ∧ ROWS P c d n dd' rd' dn' rn'
  | 0, fuel, m, dd, rd, dn, rn, h2, hf, h3, h4, h5 => by
    obtain ⟨f, rfl⟩ : ∃ f, fuel = f + 1 := ⟨fuel - 1, by omega⟩
    have : m = n := by omega
    subst this
    exact ⟨dd, rd, dn, rn, by rw [FX4_prepare_L25, if_pos (by rw [lt_n (by omega) (by omega)]; omega)], h3, h4, h5⟩
  | k + 1, fuel, m, dd, rd, dn, rn, h2, hf, h3, h4, h5 => by
    obtain ⟨f, rfl⟩ : ∃ f, fuel = f + 1 := ⟨fuel - 1, by omega⟩
    have hP := h.1
    have hP2 := h.2.1
    have hp1 : d ^ (m + 1) ≤ 64 := pow_le hd (by omega) h1
    have hp0 : d ^ m ≤ 64 := pow_le hd (by omega) h1
    obtain ⟨i1, i2, i3, i4⟩ := itr_ok h hpc hd m hp0
    have hdm : dd m = nI (d ^ m) := by
      rcases Nat.eq_zero_or_pos m with h6 | h6
      · subst h6; rw [h3, Nat.pow_zero]; rfl
      · exact (h5 m h6 (Nat.le_refl m)).1
    have hnm : ∀ j, j < 65 → dn m j = nI (itr P c d m j) := fun j hj => by
      rcases Nat.eq_zero_or_pos m with h6 | h6
      · subst h6; exact h4 j hj
      · exact (h5 m h6 (Nat.le_refl m)).2.2.1 j hj
    have e7 : nI (m + 1) - 1 = nI m := sub_n (a := m + 1) (b := 1) (by omega)
    have cm : (nI m).toNatClampNeg = m := cl_n (by omega)
    have cm1 : (nI (m + 1)).toNatClampNeg = m + 1 := cl_n (by omega)
    have hdp : d * d ^ m = d ^ (m + 1) := by rw [Nat.pow_succ, Nat.mul_comm]
    obtain ⟨u, e1, h6⟩ := x_over (N := 65) (bN := 65) (db := d ^ m) (d := d) (tf := dn (m + 1)) (by omega : 1 < P) hP2 (by omega) hpc.1 (by omega) (by omega) (by omega) hpc.2.1 hpf i2 hnm i3
    have e8 : nI (d ^ m) * nI d = nI (d ^ (m + 1)) := by rw [pk_mul, Nat.pow_succ]
    obtain ⟨rd', rn', e2, h7, h8, h9⟩ := x_divOut (dd := upd dd (m + 1) (nI (d ^ (m + 1)))) (rd := rd) (dn := va_up dn (m + 1) u) (rn := rn) h hpc hd (by omega : m < 6) hp1 (fun t ht1 ht2 => (h5 t ht1 ht2).2.1) (fun t ht1 ht2 => (h5 t ht1 ht2).2.2.2) upd_s (fun j hj => by rw [vaup_s]; exact h6 j hj)
    obtain ⟨dd2, rd2, dn2, rn2, e3, h10, h11, h12⟩ := x_prepL (am := am) h hpc hpf hd hn h1 k f (m + 1) (upd dd (m + 1) (nI (d ^ (m + 1)))) rd' (va_up dn (m + 1) u) rn' (by omega) (by omega) (by rw [upd_n (by omega)]; exact h3) (fun j hj => by rw [vaup_n (by omega)]; exact h4 j hj) (fun t ht1 ht2 => by
      by_cases h13 : t = m + 1
      · subst h13
        exact ⟨upd_s, h7, fun j hj => by rw [vaup_s]; exact h6 j hj, h8⟩
      · obtain ⟨j1, j2, j3, j4⟩ := h5 t ht1 (by omega)
        obtain ⟨k1, k2⟩ := h9 t h13
        refine ⟨by rw [upd_n h13]; exact j1, k1.trans j2, fun j hj => by rw [vaup_n h13]; exact j3 j hj, fun j hj => by rw [k2]; exact j4 j hj⟩)
    refine ⟨dd2, rd2, dn2, rn2, ?_, h10, h11, h12⟩
    have g1 : ∀ {α : Type} (z : Option α), gi (nI (m + 1)) 7 z = z := fun z => gi_i (in_n (by omega) (by omega))
    have g2 : ∀ {α : Type} (z : Option α), gi (nI m) 7 z = z := fun z => gi_i (in_n (by omega) (by omega))
    rw [FX4_prepare_L25, if_neg (by rw [lt_n (by omega) (by omega)]; omega), if_neg (show ¬ (6 : Int32) < nI (m + 1) from nI_nlt (a := 6) (b := m + 1) (by omega) (by omega)), gd_i rfl, e7]
    simp only [g1, g2]
    rw [cm, cm1, gd_i (by omega), hdm, ob_i e1, gd_i trivial, e8, ob_i e2, bd, nI_1]
    exact e3
theorem ROWS_le {P : Nat} {c : Nat → Nat} {d K n : Nat} {dd rd : Nat → Int32} {dn rn : Nat → Nat → Int32} (h : n ≤ K) (hr : ROWS P c d K dd rd dn rn) : ROWS P c d n dd rd dn rn := fun m h1 h2 => hr m h1 (by omega)
theorem x_prepare {P n q : Nat} {PL : List Nat} {ppp pdg ptd : Nat → Int32} {pca : Nat → Nat} {pcc : Nat → Nat → Int32} {mp : Option Nat} {kn : Int32} {dd rd : Nat → Int32} {dn rn : Nat → Nat → Int32} (h : PR P) (hq : q ∈ PL) (hg : GP P ppp pdg ptd pcc q) (hd : 2 ≤ dq pdg q) (hn : n ≤ 6) (h1 : dq pdg q ^ n ≤ 64) (hr : RND P PL pdg pcc mp kn dd rd dn rn) : ∃ kn' dd' rd' dn' rn', FX4_prepare (adP pca q) (nI P) mp kn dd rd dn rn 5 (ppp q) (pdg q) (pcc q) (nI n) = some (some q, kn', dd', rd', dn', rn') ∧ RND P PL pdg pcc (some q) kn' dd' rd' dn' rn' ∧ ROWS P (cq pcc q) (dq pdg q) n dd' rd' dn' rn' := by
  obtain ⟨g1, g2, g3, g4, g5⟩ := hg
  obtain ⟨r1, r2, r3⟩ := hr
  have hpf : ∀ j, j < 5 → pcc q j = nI (cq pcc q j) := fun j hj => by
    have := g4 j hj
    rw [Nat.zero_add] at this; exact this
  rw [FX4_prepare, g1, g2]
  by_cases hm : mp = some (adP pca q 0)
  · have hm : mp = some q := hm
    rcases r3 with e | ⟨q', K, e, hq', hk, hK, hrows⟩
    · rw [hm] at e; cases e
    · have eq : q' = q := Option.some.inj (e.symm.trans hm)
      subst eq
      subst hm
      rw [if_pos (show some q' = some (adP pca q' 0) from rfl), FX4_prepare_J18, hk, bd, nI_1]
      by_cases hle : K ≤ n
      · obtain ⟨dd', rd', dn', rn', e2, h3, h4, h5⟩ := x_prepL (am := adP pca q') h g5 hpf hd hn h1 (n - K) FU K dd rd dn rn (by omega) (FU_big (by omega)) r1 r2 hrows
        exact ⟨nI n, dd', rd', dn', rn', e2, ⟨h3, h4, Or.inr ⟨q', n, rfl, hq', rfl, hn, h5⟩⟩, h5⟩
      · obtain ⟨f, hf⟩ := FU_s 0 (by omega)
        refine ⟨nI K, dd, rd, dn, rn, ?_, ⟨r1, r2, Or.inr ⟨q', K, rfl, hq', rfl, hK, hrows⟩⟩, ROWS_le (by omega) hrows⟩
        rw [hf, FX4_prepare_L25, if_pos (by rw [lt_n (by omega) (by omega)]; omega)]
  · rw [if_neg hm, FX4_prepare_J18, bd]
    obtain ⟨dd', rd', dn', rn', e2, h3, h4, h5⟩ := x_prepL (am := adP pca q) h g5 hpf hd hn h1 n FU 0 dd rd dn rn (by omega) (FU_big (by omega)) r1 r2 (fun m h6 h7 => by omega)
    exact ⟨nI n, dd', rd', dn', rn', e2, ⟨h3, h4, Or.inr ⟨q, n, rfl, hq, rfl, hn, h5⟩⟩, h5⟩
