/-! set, copy -/
theorem sum_n {j m : Nat} (hj : j < 2147483648) (hm : m < 2147483648) : ((nI j).toInt64 + (nI m).toInt64).toInt = ((j + m : Nat) : Int) := by
  have h1 : (nI j).toInt64.toInt = (j : Int) := by rw [Int32.toInt_toInt64, nI_toInt (by omega)]
  have h2 : (nI m).toInt64.toInt = (m : Int) := by rw [Int32.toInt_toInt64, nI_toInt (by omega)]
  rw [fb_addL (by rw [h1, h2]; omega) (by rw [h1, h2]; omega), h1, h2]; omega
theorem cmp_gt {j m n : Nat} (hj : j < 2147483648) (hm : m < 2147483648) (hn : n < 2147483648) : (0 < lg_cmp ((nI j).toInt64 + (nI m).toInt64) (nI n).toInt64) ↔ n < j + m := by
  rw [lg_cmp_gt, Int64.lt_iff_toInt_lt, sum_n hj hm, Int32.toInt_toInt64, nI_toInt (by omega)]; omega
theorem cmp_le {j m n : Nat} (hj : j < 2147483648) (hm : m < 2147483648) (hn : n < 2147483648) : (lg_cmp ((nI j).toInt64 + (nI m).toInt64) (nI n).toInt64 ≤ 0) ↔ j + m ≤ n := by
  rw [lg_cmp_le, Int64.le_iff_toInt_le, sum_n hj hm, Int32.toInt_toInt64, nI_toInt (by omega)]; omega
theorem holds_n {sn j m : Nat} (hj : j < 2147483648) (hm : m < 2147483648) (hs : sn < 2147483648) : FX5_holds sn (nI j) (nI m) = some (decide (j + m ≤ sn)) := by
  rw [FX5_holds, if_neg (nI_pos (by omega)), if_neg (nI_pos (by omega)), show Int32.ofNat sn = nI sn from rfl]
  by_cases h : j + m ≤ sn
  · rw [if_neg (fun e => by have := (cmp_gt hj hm hs).mp e; omega), decide_eq_true h]
  · rw [if_pos ((cmp_gt hj hm hs).mpr (by omega)), decide_eq_false h]
theorem below (x : Int32) {n : Nat} (hn : n < 2147483647) : ((x < 0 ∨ ∃ j, n ≤ j ∧ j < 2147483648 ∧ x = nI j) ∧ FX7_in x.toInt64 0 (Int32.toInt64 (nI n - 1)) = some false) ∨ ∃ j, j < n ∧ x = nI j ∧ FX7_in x.toInt64 0 (Int32.toInt64 (nI n - 1)) = some true := by
  rw [show FX7_in x.toInt64 0 (Int32.toInt64 (nI n - 1)) = some (decide ((0 : Int32) ≤ x ∧ x ≤ nI n - 1)) from m_inI (a := 0)]
  by_cases h1 : x < 0
  · exact Or.inl ⟨Or.inl h1, by rw [decide_eq_false (fun h => absurd h1 (Int32.not_lt.mpr h.1))]⟩
  obtain ⟨j, hj, rfl⟩ := nI_of h1
  by_cases h2 : n ≤ j
  · refine Or.inl ⟨Or.inr ⟨j, h2, hj, rfl⟩, ?_⟩
    rw [decide_eq_false (fun h => ?_)]
    rcases Nat.eq_zero_or_pos n with h3 | h3
    · subst h3
      exact absurd (Int32.le_trans (nI_pos' (n := j) (by omega)) h.2) (by decide)
    · have e : nI n - 1 = nI (n - 1) := sub_n (a := n) (b := 1) h3
      rw [e, le_n (by omega) (by omega)] at h
      omega
  · have e : nI n - 1 = nI (n - 1) := sub_n (a := n) (b := 1) (by omega)
    exact Or.inr ⟨j, by omega, rfl, by rw [e, decide_eq_true (nI_in0 (by omega) (by omega))]⟩
theorem op_set {SL : List Nat} {sh : Nat → Option Nat} {lan man sln : Nat → Int32} {itm : Nat → Int64} {snn sia : Nat → Nat} {svv : Nat → Nat → Int64} {sta : Int32} (hsh : SHT SL sh lan man itm sln snn svv) (x1 x2 : Int32) (x3 : Int64) : ∃ a s itm' svv', FX7_set sta lan man itm x1 x2 x3 = some (a, 0, s, itm') ∧ FX6_set sta sh SL sln sia snn svv x1 x2 x3 = some (a, s, svv') ∧ SHT SL sh lan man itm' sln snn svv' := by
  rw [FX7_set, FX6_set]
  rcases sht x1 with ⟨e1, e2⟩ | ⟨k, hk, rfl, e1, e2⟩
  · rw [ob_i e1, ob_i e2, if_pos bf0, if_pos bf0]; exact ⟨_, _, _, _, rfl, rfl, hsh⟩
  rw [ob_i e1, ob_i e2, if_neg bt0, if_neg bt0, gi_i (in_n hk (by omega)), gi_i (in_n hk (by omega)), cl_n (n := k) (by omega), bd]
  rcases hsh.1 k hk with ⟨s1, s2⟩ | ⟨q, s1, hq, s3, s4, s5, ⟨m, s6, s7⟩, s8⟩
  · rw [s1, oq, if_neg (by rw [s2]; decide)]
    try rw [gi_i (in_n hk (by omega))]
    exact ⟨_, _, _, _, rfl, rfl, hsh⟩
  have hl : lan k = nI m := s3.trans s7
  rw [s1, oq, gd_i hq, if_pos (by rw [hl]; exact nI_pos' (by omega)), s4]
  try rw [gi_i (in_n hk (by omega))]
  rcases below x2 (n := snn q) (by omega) with ⟨h, e⟩ | ⟨j, hj, rfl, e⟩
  · have e3 : FX5_holds (snn q) x2 1 = some false := by
      rcases h with h | ⟨j, h1, h2, rfl⟩
      · rw [FX5_holds, if_pos h]
      · rw [show (1 : Int32) = nI 1 from rfl, holds_n h2 (by omega) (by omega), decide_eq_false (by omega)]
    rw [ob_i e, ob_i e3, if_pos bf0, if_pos bf0]
    try rw [gi_i (in_n hk (by omega))]
    exact ⟨_, _, _, _, rfl, rfl, hsh⟩
  have e3 : FX5_holds (snn q) (nI j) 1 = some true := by
    rw [show (1 : Int32) = nI 1 from rfl, holds_n (by omega) (by omega) (by omega), decide_eq_true (by omega)]
  have done : ∀ u : Int64, SHT SL sh lan man (vp_updL itm (40 * k + j) u) sln snn (va_up svv q (vp_updL (svv q) j u)) := fun u => ⟨fun s hs => by
    rcases hsh.1 s hs with h5 | ⟨q', t1, tq, t3, t4, t5, t7, t8⟩
    · exact Or.inl h5
    · refine Or.inr ⟨q', t1, tq, t3, t4, t5, t7, fun i hi => ?_⟩
      by_cases h : s = k
      · subst h
        rw [s1] at t1
        cases t1
        rw [vaup_s]
        by_cases hij : i = j
        · subst hij; rw [updL_s, updL_s]
        · rw [updL_n hij, updL_n (by omega)]; exact s8 i hi
      · have hne : q' ≠ q := fun e => h (hsh.2 s k q' hs hk t1 (by rw [s1, e]))
        rw [vaup_n hne, updL_n (by omega)]
        exact t8 i hi, hsh.2⟩
  rw [ob_i e, ob_i e3, if_neg bt0, if_neg bt0, hl, s7, FX5_cut]
  have fin7 : ∀ v : Int64, FX7_set_J105 (nI k) (nI j) (40 * nI k + nI j) v 0 0 itm = some (v, 0, 0, vp_updL itm (40 * k + j) v) := fun v => by
    rw [FX7_set_J105, i40, gi_i (in_n (by omega) (by omega)), gi_i (in_n (by omega) (by omega)), cl_n (n := 40 * k + j) (by omega), updL_s]
  have hm : m = 0 ∨ m = 1 ∨ m = 2 := by omega
  have gk : ∀ {α : Type} (z : Option α), gi (nI k) 8 z = z := fun z => gi_i (in_n hk (by omega))
  have gj : ∀ {α : Type} (z : Option α), gi (nI j) (snn q) z = z := fun z => gi_i (in_n hj (by omega))
  have fin : ∀ v : Int64, (va_up svv q (vp_updL (svv q) (nI j).toNatClampNeg v)) q (nI j).toNatClampNeg = v ∧ va_up svv q (vp_updL (svv q) (nI j).toNatClampNeg v) = va_up svv q (vp_updL (svv q) j v) := fun v => by
    rw [cl_n (n := j) (by omega)]
    exact ⟨by rw [vaup_s, updL_s], rfl⟩
  rcases hm with rfl | rfl | rfl
  · simp only [gk, gj]
    rw [if_pos (by decide), if_pos (by decide), fin7, ob_i rfl, (fin _).1, (fin _).2]
    exact ⟨_, _, _, _, rfl, rfl, done _⟩
  · simp only [gk, gj]
    rw [if_neg (by decide), if_pos (by decide), if_neg (by decide), if_pos (by decide), fin7, ob_i rfl, (fin _).1, (fin _).2]
    exact ⟨_, _, _, _, rfl, rfl, done _⟩
  · simp only [gk, gj]
    rw [if_neg (by decide), if_neg (by decide), if_neg (by decide), if_neg (by decide), fin7, ob_i rfl, (fin _).1, (fin _).2]
    exact ⟨_, _, _, _, rfl, rfl, done _⟩
/-- the model's copy: up or down, the same as an array copy within the row -/
theorem m_copy {a b i j n : Nat} {up : Bool} {itm : Nat → Int64} (ha : a < 8) (hb : b < 8) (hi : i + n ≤ 40) (hj : j + n ≤ 40) (hup : a = b → (up = true → j ≤ i) ∧ (up = false → i < j)) : ∃ itm', FX7_copy_J138 (nI a) (nI i) (nI b) (nI j) (nI n) up 0 0 itm = some (nI n, 0, 0, itm') ∧ (∀ k, k < n → itm' (40 * b + j + k) = itm (40 * a + i + k)) ∧ ∀ k, (k < 40 * b + j ∨ 40 * b + j + n ≤ k) → itm' k = itm k := by
  cases up with
  | true =>
    obtain ⟨st, ⟨h1, h2⟩, e1⟩ := cloop0 (σ := Nat → Int64) n (by omega) (fun fuel i' st => FX7_copy_L143 (nI a) (nI i) (nI b) (nI j) (nI n) true 0 0 fuel i' st) (fun st => some (nI n, 0, 0, st)) (fun m st => (∀ k, k < m → st (40 * b + j + k) = itm (40 * a + i + k)) ∧ ∀ k, (k < 40 * b + j ∨ 40 * b + j + m ≤ k) → st k = itm k) itm ⟨fun k hk => by omega, fun k _ => rfl⟩ (fun fuel st h1 => by
      show FX7_copy_L143 _ _ _ _ _ _ _ _ _ _ _ = _
      rw [FX7_copy_L143, if_pos (Int32.le_refl _)]) (fun fuel m st hm h1 => by
      obtain ⟨h1, h2⟩ := h1
      have ev : st (40 * a + i + m) = itm (40 * a + i + m) := by
        by_cases hab : a = b
        · have := (hup hab).1 rfl
          exact h2 _ (Or.inr (by omega))
        · exact h2 _ (by omega)
      refine ⟨vp_updL st (40 * b + j + m) (itm (40 * a + i + m)), ⟨fun k hk => ?_, fun k hk => ?_⟩, ?_⟩
      · by_cases h : k = m
        · subst h; exact updL_s
        · rw [updL_n (by omega)]; exact h1 k (by omega)
      · rw [updL_n (by omega)]; exact h2 k (by omega)
      · show FX7_copy_L143 _ _ _ _ _ _ _ _ _ _ _ = FX7_copy_L143 _ _ _ _ _ _ _ _ _ _ _
        rw [FX7_copy_L143, if_neg (nI_ge hm (by omega)), if_neg bt0, FX7_copy_J167, i40, i40, nI_add, nI_add, gi_i (in_n (by omega) (by omega)), gi_i (in_n (by omega) (by omega)), cl_n (n := 40 * a + i + m) (by omega), cl_n (n := 40 * b + j + m) (by omega), bd, nI_1, ev])
    exact ⟨st, by rw [FX7_copy_J138]; exact e1, h1, h2⟩
  | false =>
    obtain ⟨st, ⟨h1, h2⟩, e1⟩ := cloop0 (σ := Nat → Int64) n (by omega) (fun fuel i' st => FX7_copy_L143 (nI a) (nI i) (nI b) (nI j) (nI n) false 0 0 fuel i' st) (fun st => some (nI n, 0, 0, st)) (fun m st => (∀ k, n - m ≤ k → k < n → st (40 * b + j + k) = itm (40 * a + i + k)) ∧ ∀ k, (k < 40 * b + j + (n - m) ∨ 40 * b + j + n ≤ k) → st k = itm k) itm ⟨fun k _ hk => by omega, fun k _ => rfl⟩ (fun fuel st h1 => by
      show FX7_copy_L143 _ _ _ _ _ _ _ _ _ _ _ = _
      rw [FX7_copy_L143, if_pos (Int32.le_refl _)]) (fun fuel m st hm h1 => by
      obtain ⟨h1, h2⟩ := h1
      have ev : st (40 * a + i + (n - 1 - m)) = itm (40 * a + i + (n - 1 - m)) := by
        by_cases hab : a = b
        · have := (hup hab).2 rfl
          exact h2 _ (Or.inl (by omega))
        · exact h2 _ (by omega)
      refine ⟨vp_updL st (40 * b + j + (n - 1 - m)) (itm (40 * a + i + (n - 1 - m))), ⟨fun k hk hk2 => ?_, fun k hk => ?_⟩, ?_⟩
      · by_cases h : k = n - 1 - m
        · subst h; exact updL_s
        · rw [updL_n (by omega)]; exact h1 k (by omega) hk2
      · rw [updL_n (by omega)]; exact h2 k (by omega)
      · have e5 : nI n - 1 = nI (n - 1) := sub_n (a := n) (b := 1) (by omega)
        show FX7_copy_L143 _ _ _ _ _ _ _ _ _ _ _ = FX7_copy_L143 _ _ _ _ _ _ _ _ _ _ _
        rw [FX7_copy_L143, if_neg (nI_ge hm (by omega)), if_pos bf0, FX7_copy_J167, e5, sub_n (by omega), i40, i40, nI_add, nI_add, gi_i (in_n (by omega) (by omega)), gi_i (in_n (by omega) (by omega)), cl_n (n := 40 * a + i + (n - 1 - m)) (by omega), cl_n (n := 40 * b + j + (n - 1 - m)) (by omega), bd, nI_1, ev])
    exact ⟨st, by rw [FX7_copy_J138]; exact e1, fun k hk => h1 k (by omega) hk, fun k hk => h2 k (by omega)⟩
