/-! sums over rings and sums over points -/
theorem sm_heads {g : Nat → Nat} {f F : Nat → Nat} : ∀ N, (∀ h, h < N → hd g h = true → f (rk g h) = F h) → fb_sm f (rk g N) = fb_sm (fun h => if hd g h = true then F h else 0) N
  | 0, _ => rfl
  | N + 1, h => by
    have ih := sm_heads N (fun x hx => h x (by omega))
    rw [fb_sm_succ]
    by_cases h0 : hd g N = true
    · rw [if_pos h0, show rk g (N + 1) = rk g N + 1 from ct_t h0, fb_sm_succ, ih, h N (by omega) h0]
    · rw [if_neg h0, show rk g (N + 1) = rk g N from ct_f h0, ih]; rfl
theorem ct_sm (p : Nat → Bool) : ∀ N, fb_ct p N = fb_sm (fun k => if p k = true then 1 else 0) N
  | 0 => rfl
  | N + 1 => by rw [fb_ct_succ, fb_sm_succ, ct_sm p N]
theorem sm_one {P i v : Nat} (h : i < P) : fb_sm (fun k => if k = i then v else 0) P = v := by
  have h1 := fb_sm_upd (fun _ => 0) v h
  have h2 : fb_sm (fun _ => 0) P = 0 := by rw [fb_sm_const]; omega
  omega
/-- the points of p, told apart by m -/
theorem ct_part {p : Nat → Bool} {m : Nat → Nat} {P : Nat} : ∀ N, (∀ y, y < N → m y < P) → fb_ct p N = fb_sm (fun h => fb_ct (fun y => p y && decide (m y = h)) N) P
  | 0, _ => by
    show 0 = _
    have h2 : fb_sm (fun _ => 0) P = 0 := by rw [fb_sm_const]; omega
    exact h2.symm
  | N + 1, h => by
    have ih := ct_part (p := p) (m := m) (P := P) N (fun y hy => h y (by omega))
    have e : fb_sm (fun h => fb_ct (fun y => p y && decide (m y = h)) (N + 1)) P = fb_sm (fun h => fb_ct (fun y => p y && decide (m y = h)) N + (if h = m N then (if p N = true then 1 else 0) else 0)) P := fb_sm_cong fun h _ => by
      rw [fb_ct_succ]
      by_cases h1 : h = m N
      · subst h1; rw [if_pos rfl, decide_eq_true rfl, Bool.and_true]
      · rw [if_neg h1, decide_eq_false (fun e => h1 e.symm), Bool.and_false]; rfl
    rw [e, fb_sm_add, ← ih, sm_one (h N (by omega)), fb_ct_succ]
/-- so many points has an image -/
theorem ct_image {f : Nat → Nat} {P : Nat} : ∀ R, (∀ i, i < R → f i < P) → (∀ i j, i < j → j < R → f i ≠ f j) → ∀ p : Nat → Bool, (∀ y, y < P → (p y = true ↔ ∃ i, i < R ∧ f i = y)) → fb_ct p P = R
  | 0, _, _, p, h => fb_ct_zero.mpr fun k hk => by
    cases hp : p k with
    | false => rfl
    | true => obtain ⟨i, hi, -⟩ := (h k hk).mp hp; omega
  | R + 1, h1, h2, p, h => by
    have hR := h1 R (by omega)
    have ih := ct_image (P := P) R (fun i hi => h1 i (by omega)) (fun i j a b => h2 i j a (by omega)) (fun y => if y = f R then false else p y) (fun y hy => by
      by_cases hy2 : y = f R
      · subst hy2
        rw [if_pos rfl]
        exact ⟨fun e => (Bool.false_ne_true e).elim, fun ⟨i, hi, e⟩ => absurd e (h2 i R hi (by omega))⟩
      · rw [if_neg hy2, h y hy]
        constructor
        · rintro ⟨i, hi, e⟩
          refine ⟨i, ?_, e⟩
          rcases Nat.lt_or_ge i R with h3 | h3
          · exact h3
          · have : i = R := by omega
            subst this; exact absurd e.symm hy2
        · rintro ⟨i, hi, e⟩
          exact ⟨i, by omega, e⟩)
    have h3 := fb_ct_upd p false hR
    have h4 : p (f R) = true := (h _ hR).mpr ⟨R, by omega, rfl⟩
    rw [if_pos h4] at h3
    rw [ih] at h3
    have : (if false = true then 1 else 0) = (0 : Nat) := rfl
    omega
/-- so many points are on rings as the rings are long -/
theorem on_rings {g : Nat → Nat} {P : Nat} (hg : ∀ x, x < P → g x < P) : fb_ct (fun y => decide (tT g y = 0)) P = fb_sm (fun h => if hd g h = true then tR g h else 0) P := by
  rw [ct_part (m := tM g) P (fun y hy => tM_lt hg hy)]
  refine fb_sm_cong fun h hh => ?_
  by_cases h0 : hd g h = true
  · rw [if_pos h0]
    have hT := tTP hg hh
    rw [(hd_iff.mp h0).1] at hT
    refine ct_image (f := fun i => it g i h) _ (fun i _ => it_lt hg hh i) (fun i j a b e => ?_) _ (fun y hy => ?_)
    · exact hT.2.2 i j a (by omega) e
    · rw [Bool.and_eq_true, decide_eq_true_eq, decide_eq_true_eq]
      exact on_ring hg hh h0 hy
  · rw [if_neg h0]
    refine fb_ct_zero.mpr fun y hy => ?_
    rw [Bool.and_eq_false_iff, decide_eq_false_iff_not, decide_eq_false_iff_not]
    by_cases h1 : tM g y = h
    · exact absurd (h1 ▸ hd_tM hg hy) h0
    · exact Or.inr h1
/-- the most -/
def mx (f : Nat → Nat) : Nat → Nat
  | 0 => 0
  | n + 1 => if f n ≤ mx f n then mx f n else f n
theorem mx_ge (f : Nat → Nat) : ∀ {n i : Nat}, i < n → f i ≤ mx f n
  | n + 1, i, h => by
    rw [mx]
    rcases Nat.lt_or_ge i n with h1 | h1
    · have := mx_ge f h1
      split <;> omega
    · have : i = n := by omega
      subst this
      split <;> omega
theorem mx_le {f : Nat → Nat} {m : Nat} : ∀ {n : Nat}, (∀ i, i < n → f i ≤ m) → mx f n ≤ m
  | 0, _ => Nat.zero_le _
  | n + 1, h => by
    rw [mx]
    have := mx_le (n := n) (fun i hi => h i (by omega))
    have := h n (by omega)
    split <;> omega
theorem mx_cong {f f' : Nat → Nat} : ∀ {n : Nat}, (∀ i, i < n → f i = f' i) → mx f n = mx f' n
  | 0, _ => rfl
  | n + 1, h => by rw [mx, mx, mx_cong (fun i hi => h i (by omega)), h n (by omega)]
theorem mx_rings {g f : Nat → Nat} {P : Nat} (hg : ∀ x, x < P → g x < P) (h : ∀ x, x < P → hd g x = true → f (rk g x) = tR g x) : mx f (rk g P) = mx (tR g) P := by
  apply Nat.le_antisymm
  · refine mx_le fun i hi => ?_
    obtain ⟨x, h1, h2, h3⟩ := fb_ct_kth hi
    have e : f i = tR g x := by rw [← h x h1 h2]; exact congrArg f h3.symm
    rw [e]
    exact mx_ge _ h1
  · refine mx_le fun x hx => ?_
    have hM := tM_lt hg hx
    have hh := hd_tM hg hx
    rw [← tR_tM hg hx, ← h _ hM hh]
    exact mx_ge _ (rk_lt hh hM)
theorem tR_le {g : Nat → Nat} {P : Nat} (hg : ∀ x, x < P → g x < P) {x : Nat} (hx : x < P) : tR g x ≤ P := by have := t_le hg hx; omega
theorem imx_n {a b : Nat} (ha : a < 2147483648) (hb : b < 2147483648) : imx (nI a) (nI b) = nI (if b ≤ a then a else b) := by
  rw [imx]
  by_cases h : b ≤ a
  · rw [if_pos h, if_neg (by rw [lt_n ha hb]; omega)]
  · rw [if_neg h, if_pos (by rw [lt_n ha hb]; omega)]
/-! the class's sums -/
theorem x_points {n N : Nat} {le : Nat → Int32} {f : Nat → Nat} (hN : N ≤ n) (hn : n < 200) (h : ∀ i, i < N → le i = nI (f i)) : FX3_pointsOnRings n (nI N) le = some (nI (fb_sm f N)) := by
  obtain ⟨st, h1, e1⟩ := cloop0 (σ := Int32) N (by omega) (fun fuel i st => FX3_pointsOnRings_L4 n (nI N) le fuel st i) (fun st => some st) (fun i st => st = nI (fb_sm f i)) 0 rfl (fun fuel st h1 => by
    show FX3_pointsOnRings_L4 _ _ _ _ _ _ = _
    rw [FX3_pointsOnRings_L4, if_pos (Int32.le_refl _)]) (fun fuel i st hi h1 => by
    subst h1
    refine ⟨nI (fb_sm f (i + 1)), rfl, ?_⟩
    show FX3_pointsOnRings_L4 _ _ _ _ _ _ = FX3_pointsOnRings_L4 _ _ _ _ _ _
    rw [FX3_pointsOnRings_L4, if_neg (nI_ge hi (by omega)), gi_i (in_n (by omega : i < n) (by omega)), cl_n (by omega), h i hi, bd, bd, nI_add, nI_1]
    rfl)
  exact e1.trans (by rw [h1])
theorem x_longest {n N : Nat} {le : Nat → Int32} {f : Nat → Nat} (hN : N ≤ n) (hn : n < 200) (h : ∀ i, i < N → le i = nI (f i)) (hf : ∀ i, i < N → f i < 1000) : FX3_longestRing n (nI N) le = some (nI (mx f N)) := by
  obtain ⟨st, h1, e1⟩ := cloop0 (σ := Int32) N (by omega) (fun fuel i st => FX3_longestRing_L4 n (nI N) le fuel st i) (fun st => some st) (fun i st => st = nI (mx f i)) 0 rfl (fun fuel st h1 => by
    show FX3_longestRing_L4 _ _ _ _ _ _ = _
    rw [FX3_longestRing_L4, if_pos (Int32.le_refl _)]) (fun fuel i st hi h1 => by
    subst h1
    have hm : mx f i ≤ 1000 := mx_le fun j hj => by have := hf j (by omega); omega
    have hfi := hf i hi
    refine ⟨nI (mx f (i + 1)), rfl, ?_⟩
    show FX3_longestRing_L4 _ _ _ _ _ _ = FX3_longestRing_L4 _ _ _ _ _ _
    rw [FX3_longestRing_L4, if_neg (nI_ge hi (by omega)), gi_i (in_n (by omega : i < n) (by omega)), cl_n (by omega), h i hi, bd, bd, imx_n (by omega) (by omega), nI_1]
    rfl)
  exact e1.trans (by rw [h1])
theorem x_tails {n N : Nat} {le : Nat → Int32} {f : Nat → Nat} (hN : N ≤ n) (hn : n < 200) (h : ∀ i, i < N → le i = nI (f i)) (hf : ∀ i, i < N → f i < 1000) : FX3_longestTail n (nI N) le = some (nI (mx f N)) := by
  obtain ⟨st, h1, e1⟩ := cloop0 (σ := Int32) N (by omega) (fun fuel i st => FX3_longestTail_L4 n (nI N) le fuel st i) (fun st => some st) (fun i st => st = nI (mx f i)) 0 rfl (fun fuel st h1 => by
    show FX3_longestTail_L4 _ _ _ _ _ _ = _
    rw [FX3_longestTail_L4, if_pos (Int32.le_refl _)]) (fun fuel i st hi h1 => by
    subst h1
    have hm : mx f i ≤ 1000 := mx_le fun j hj => by have := hf j (by omega); omega
    have hfi := hf i hi
    refine ⟨nI (mx f (i + 1)), rfl, ?_⟩
    show FX3_longestTail_L4 _ _ _ _ _ _ = FX3_longestTail_L4 _ _ _ _ _ _
    rw [FX3_longestTail_L4, if_neg (nI_ge hi (by omega)), gi_i (in_n (by omega : i < n) (by omega)), cl_n (by omega), h i hi, bd, bd, imx_n (by omega) (by omega), nI_1]
    rfl)
  exact e1.trans (by rw [h1])
theorem x_none {n N : Nat} {le : Nat → Int32} {f : Nat → Nat} (hN : N ≤ n) (hn : n < 200) (h : ∀ i, i < N → le i = nI (f i)) (hf : ∀ i, i < N → f i < 1000) : FX3_pointsWithoutComers n (nI N) le = some (nI (fb_ct (fun i => decide (f i = 0)) N)) := by
  obtain ⟨st, h1, e1⟩ := cloop0 (σ := Int32) N (by omega) (fun fuel i st => FX3_pointsWithoutComers_L4 n (nI N) le fuel st i) (fun st => some st) (fun i st => st = nI (fb_ct (fun i => decide (f i = 0)) i)) 0 rfl (fun fuel st h1 => by
    show FX3_pointsWithoutComers_L4 _ _ _ _ _ _ = _
    rw [FX3_pointsWithoutComers_L4, if_pos (Int32.le_refl _)]) (fun fuel i st hi h1 => by
    subst h1
    have hfi := hf i hi
    refine ⟨nI (fb_ct (fun i => decide (f i = 0)) (i + 1)), rfl, ?_⟩
    show FX3_pointsWithoutComers_L4 _ _ _ _ _ _ = FX3_pointsWithoutComers_L4 _ _ _ _ _ _
    rw [FX3_pointsWithoutComers_L4, if_neg (nI_ge hi (by omega)), gi_i (in_n (by omega : i < n) (by omega)), cl_n (by omega), h i hi]
    by_cases h0 : f i = 0
    · rw [if_pos (by rw [h0]; rfl), FX3_pointsWithoutComers_J27, bd, bd, bi_1, nI_1, ct_t (p := fun i => decide (f i = 0)) (decide_eq_true h0)]
    · rw [if_neg (ne0_n (by omega) (by omega)), FX3_pointsWithoutComers_J27, bd, bd, bi_0, nI_1, ct_f (p := fun i => decide (f i = 0)) (fun e => h0 (of_decide_eq_true e))])
  exact e1.trans (by rw [h1])
theorem x_still {n N : Nat} {le : Nat → Int32} {f : Nat → Nat} (hN : N ≤ n) (hn : n < 200) (h : ∀ i, i < N → le i = nI (f i)) (hf : ∀ i, i < N → f i < 1000) : FX3_stillRings n (nI N) le = some (nI (fb_ct (fun i => decide (f i = 0)) N)) := by
  obtain ⟨st, h1, e1⟩ := cloop0 (σ := Int32) N (by omega) (fun fuel i st => FX3_stillRings_L4 n (nI N) le fuel st i) (fun st => some st) (fun i st => st = nI (fb_ct (fun i => decide (f i = 0)) i)) 0 rfl (fun fuel st h1 => by
    show FX3_stillRings_L4 _ _ _ _ _ _ = _
    rw [FX3_stillRings_L4, if_pos (Int32.le_refl _)]) (fun fuel i st hi h1 => by
    subst h1
    have hfi := hf i hi
    refine ⟨nI (fb_ct (fun i => decide (f i = 0)) (i + 1)), rfl, ?_⟩
    show FX3_stillRings_L4 _ _ _ _ _ _ = FX3_stillRings_L4 _ _ _ _ _ _
    rw [FX3_stillRings_L4, if_neg (nI_ge hi (by omega)), gi_i (in_n (by omega : i < n) (by omega)), cl_n (by omega), h i hi]
    by_cases h0 : f i = 0
    · rw [if_pos (by rw [h0]; rfl), FX3_stillRings_J27, bd, bd, bi_1, nI_1, ct_t (p := fun i => decide (f i = 0)) (decide_eq_true h0)]
    · rw [if_neg (ne0_n (by omega) (by omega)), FX3_stillRings_J27, bd, bd, bi_0, nI_1, ct_f (p := fun i => decide (f i = 0)) (fun e => h0 (of_decide_eq_true e))])
  exact e1.trans (by rw [h1])
