/-! copy -/
theorem holds_some (sn : Nat) (x y : Int32) : ∃ b, FX5_holds sn x y = some b := by
  rw [FX5_holds]
  split <;> (try split) <;> (try split) <;> exact ⟨_, rfl⟩
theorem no_copy {o1 o2 : Option Bool} {svv : Nat → Nat → Int64} {K : Option (Int32 × (Int32) × (Nat → Nat → Int64))} (h1 : ∃ b, o1 = some b) (h : o1 = some false ∨ o2 = some false) : (ob o1 fun u => if (bi u) = 0 then FX6_copy_J91 svv else (ob o2 (fun v => if (bi v) = 0 then FX6_copy_J91 svv else K))) = some (-1000012, 2, svv) := by
  rcases h with h | h
  · rw [ob_i h, if_pos bf0, FX6_copy_J91]; rfl
  · obtain ⟨b, hb⟩ := h1
    rw [ob_i hb]
    cases b with
    | false => rw [if_pos bf0, FX6_copy_J91]; rfl
    | true => rw [if_neg bt0, ob_i h, if_pos bf0, FX6_copy_J91]; rfl
theorem op_copy {SL : List Nat} {sh : Nat → Option Nat} {lan man sln : Nat → Int32} {itm : Nat → Int64} {snn sia : Nat → Nat} {svv : Nat → Nat → Int64} {sta : Int32} (hsh : SHT SL sh lan man itm sln snn svv) (x1 x2 x3 x4 x5 : Int32) : ∃ a s itm' svv', FX7_copy sta lan man itm x1 x2 x3 x4 x5 = some (a, 0, s, itm') ∧ FX6_copy sta sh SL sln sia snn svv x1 x2 x3 x4 x5 = some (a, s, svv') ∧ SHT SL sh lan man itm' sln snn svv' := by
  rw [FX7_copy, FX6_copy]
  rcases sht x1 with ⟨e1, e2⟩ | ⟨k, hk, rfl, e1, e2⟩
  · rw [ob_i e1, ob_i e2, if_pos bf0, if_pos bf0]; exact ⟨_, _, _, _, rfl, rfl, hsh⟩
  rw [ob_i e1, ob_i e2, if_neg bt0, if_neg bt0]
  rcases sht x3 with ⟨e1, e2⟩ | ⟨t, ht, rfl, e1, e2⟩
  · rw [ob_i e1, ob_i e2, if_pos bf0, if_pos bf0]; exact ⟨_, _, _, _, rfl, rfl, hsh⟩
  rw [ob_i e1, ob_i e2, if_neg bt0, if_neg bt0]
  have gk : ∀ {α : Type} (z : Option α), gi (nI k) 8 z = z := fun z => gi_i (in_n hk (by omega))
  have gt : ∀ {α : Type} (z : Option α), gi (nI t) 8 z = z := fun z => gi_i (in_n ht (by omega))
  simp only [gk, gt, bd]
  rw [cl_n (n := k) (by omega), cl_n (n := t) (by omega)]
  rcases hsh.1 k hk with ⟨s1, s2⟩ | ⟨q, s1, hq, s3, s4, s5, ⟨m, s6, s7⟩, s8⟩
  · rw [s1, oq, if_pos (by rw [s2]; decide), FX7_copy_J45, FX6_copy_J43]
    exact ⟨_, _, _, _, rfl, rfl, hsh⟩
  have hl : lan k = nI m := s3.trans s7
  rw [s1, oq, gd_i hq, if_neg (by rw [hl]; exact nI_pos (by omega))]
  rcases hsh.1 t ht with ⟨t1, t2⟩ | ⟨q', t1, tq, t3, t4, t5, ⟨m', t6, t7⟩, t8⟩
  · rw [t1, oq, if_neg (by rw [t2]; decide), FX7_copy_J45, FX6_copy_J43]
    exact ⟨_, _, _, _, rfl, rfl, hsh⟩
  have hl' : lan t = nI m' := t3.trans t7
  rw [t1, oq, gd_i tq, if_pos (by rw [hl']; exact nI_pos' (by omega)), s3, t3]
  by_cases hlan : sln q = sln q'
  case neg =>
    rw [if_neg hlan, if_neg hlan]
    exact ⟨_, _, _, _, rfl, rfl, hsh⟩
  rw [if_pos hlan, if_pos hlan, s4, t4]
  have no7 : FX7_copy_J121 0 itm = some (-1000012, 0, 2, itm) := by rw [FX7_copy_J121]; rfl
  by_cases h2 : x2 < 0
  · rw [if_pos h2, no7]
    exact ⟨_, _, _, _, rfl, no_copy (holds_some _ _ _) (Or.inl (by rw [FX5_holds, if_pos h2])), hsh⟩
  by_cases h4 : x4 < 0
  · rw [if_neg h2, if_pos h4, no7]
    exact ⟨_, _, _, _, rfl, no_copy (holds_some _ _ _) (Or.inr (by rw [FX5_holds, if_pos h4])), hsh⟩
  by_cases h5 : x5 < 0
  · rw [if_neg h2, if_neg h4, if_pos h5, no7]
    exact ⟨_, _, _, _, rfl, no_copy (holds_some _ _ _) (Or.inl (by rw [FX5_holds, if_neg h2, if_pos h5])), hsh⟩
  obtain ⟨i, hi, rfl⟩ := nI_of h2
  obtain ⟨j, hj, rfl⟩ := nI_of h4
  obtain ⟨n, hn, rfl⟩ := nI_of h5
  rw [if_neg h2, if_neg h4, if_neg h5]
  by_cases c1 : i + n ≤ snn q
  case neg =>
    rw [if_pos ((cmp_gt hi hn (by omega)).mpr (by omega)), no7]
    exact ⟨_, _, _, _, rfl, no_copy (holds_some _ _ _) (Or.inl (by rw [holds_n hi hn (by omega), decide_eq_false c1])), hsh⟩
  rw [if_neg (fun e => by have := (cmp_gt hi hn (by omega)).mp e; omega)]
  by_cases c2 : j + n ≤ snn q'
  case neg =>
    rw [if_neg (fun e => c2 ((cmp_le hj hn (by omega)).mp e)), no7]
    exact ⟨_, _, _, _, rfl, no_copy (holds_some _ _ _) (Or.inr (by rw [holds_n hj hn (by omega), decide_eq_false c2])), hsh⟩
  rw [if_pos ((cmp_le hj hn (by omega)).mpr c2)]
  obtain ⟨itm', e3, z1, z2⟩ : ∃ itm', (if nI i < nI j then FX7_copy_J138 (nI k) (nI i) (nI t) (nI j) (nI n) false 0 0 itm else FX7_copy_J138 (nI k) (nI i) (nI t) (nI j) (nI n) true 0 0 itm) = some (nI n, 0, 0, itm') ∧ (∀ y, y < n → itm' (40 * t + j + y) = itm (40 * k + i + y)) ∧ ∀ y, (y < 40 * t + j ∨ 40 * t + j + n ≤ y) → itm' y = itm y := by
    by_cases h : i < j
    · rw [if_pos (by rw [lt_n (by omega) (by omega)]; exact h)]
      exact m_copy hk ht (by omega) (by omega) (fun _ => ⟨fun e => (Bool.false_ne_true e).elim, fun _ => h⟩)
    · rw [if_neg (by rw [lt_n (by omega) (by omega)]; exact h)]
      exact m_copy hk ht (by omega) (by omega) (fun _ => ⟨fun _ => by omega, fun e => (Bool.false_ne_true e.symm).elim⟩)
  rw [e3, ob_i (by rw [holds_n hi hn (by omega), decide_eq_true c1]), if_neg bt0, ob_i (by rw [holds_n hj hn (by omega), decide_eq_true c2]), if_neg bt0, gd_i ⟨h2, h4, h5, by rw [cl_n (by omega), cl_n (by omega)]; exact c1, by rw [cl_n (by omega), cl_n (by omega)]; exact c2⟩, fin6, ob_i rfl, cl_n (n := i) (by omega), cl_n (n := j) (by omega), cl_n (n := n) (by omega)]
  refine ⟨_, _, _, _, rfl, rfl, fun s hs => ?_, hsh.2⟩
  rcases hsh.1 s hs with h6 | ⟨p, p1, pq, p3, p4, p5, p7, p8⟩
  · exact Or.inl h6
  · refine Or.inr ⟨p, p1, pq, p3, p4, p5, p7, fun y hy => ?_⟩
    by_cases h : s = t
    · subst h
      rw [t1] at p1
      cases p1
      rw [vaup_s, va_cpy]
      by_cases hin : j ≤ y ∧ y < j + n
      · rw [if_pos hin]
        have ez := z1 (y - j) (by omega)
        rw [show 40 * s + j + (y - j) = 40 * s + y by omega] at ez
        rw [ez, ← s8 (i + (y - j)) (by omega)]
        exact congrArg itm (by omega)
      · rw [if_neg hin, z2 _ (by omega)]
        exact p8 y hy
    · have hne : p ≠ q' := fun e => h (hsh.2 s t p hs ht p1 (by rw [t1, e]))
      rw [vaup_n hne, z2 _ (by omega)]
      exact p8 y hy
