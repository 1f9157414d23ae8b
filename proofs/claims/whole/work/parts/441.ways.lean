/-! ways: a step done n times, tail and period -/
def it (g : Nat → Nat) : Nat → Nat → Nat
  | 0, x => x
  | n + 1, x => g (it g n x)
theorem it_add (g : Nat → Nat) (a b x : Nat) : it g (a + b) x = it g a (it g b x) := by
  induction a with
  | zero => rw [Nat.zero_add]; rfl
  | succ a ih => rw [show a + 1 + b = (a + b) + 1 by omega]; show g _ = g _; rw [ih]
theorem it_succ' (g : Nat → Nat) (n x : Nat) : it g (n + 1) x = it g n (g x) := by rw [it_add g n 1 x]; rfl
theorem it_lt {g : Nat → Nat} {P : Nat} (hg : ∀ x, x < P → g x < P) {x : Nat} (hx : x < P) : ∀ n, it g n x < P
  | 0 => hx
  | n + 1 => hg _ (it_lt hg hx n)
/-- TAIL t and PERIOD r of x: the first t + r points differ, then the one at t comes again -/
def TP (g : Nat → Nat) (x t r : Nat) : Prop := 0 < r ∧ it g (t + r) x = it g t x ∧ ∀ i j, i < j → j < t + r → it g i x ≠ it g j x
theorem TP_uni {g : Nat → Nat} {x t r t' r' : Nat} (h : TP g x t r) (h' : TP g x t' r') : t = t' ∧ r = r' := by
  obtain ⟨h1, h2, h3⟩ := h
  obtain ⟨h1', h2', h3'⟩ := h'
  have e : t + r = t' + r' := by
    rcases Nat.lt_trichotomy (t + r) (t' + r') with q | q | q
    · exact absurd h2.symm (h3' t (t + r) (by omega) q)
    · exact q
    · exact absurd h2'.symm (h3 t' (t' + r') (by omega) q)
  have et : t = t' := by
    rcases Nat.lt_trichotomy t t' with q | q | q
    · exact absurd (by rw [← h2, e, h2']) (h3 t t' q (by omega))
    · exact q
    · exact absurd (by rw [← h2', ← e, h2]) (h3 t' t q (by omega))
  exact ⟨et, by omega⟩
/-- behind the tail the way goes round -/
theorem TP_round {g : Nat → Nat} {x t r : Nat} (h : TP g x t r) : ∀ k i, t ≤ i → it g (i + k * r) x = it g i x
  | 0, i, _ => by rw [Nat.zero_mul]; rfl
  | k + 1, i, hi => by
    have e : it g (i + r) x = it g i x := by
      rw [show i + r = (i - t) + (t + r) by omega, it_add, h.2.1, ← it_add, show i - t + t = i by omega]
    rw [show i + (k + 1) * r = (i + r) + k * r by rw [Nat.add_mul]; omega, TP_round h k (i + r) (by omega), e]
theorem TP_mod {g : Nat → Nat} {x t r n : Nat} (h : TP g x t r) (hn : t ≤ n) : it g n x = it g (t + (n - t) % r) x := by
  have := TP_round h ((n - t) / r) (t + (n - t) % r) (by omega)
  rw [← this]
  congr 1
  have := Nat.mod_add_div (n - t) r
  rw [Nat.mul_comm] at this
  omega
/-- a point of the ring: no tail, the same period -/
theorem TP_ring {g : Nat → Nat} {x t r i : Nat} (h : TP g x t r) (hi : t ≤ i) : TP g (it g i x) 0 r := by
  have hr := h.1
  refine ⟨hr, ?_, fun a b hab hb => ?_⟩
  · rw [Nat.zero_add, ← it_add, show r + i = i + 1 * r by omega, TP_round h 1 i hi]; rfl
  · rw [← it_add, ← it_add, TP_mod h (n := a + i) (by omega), TP_mod h (n := b + i) (by omega)]
    have ha' : (a + i - t) % r < r := Nat.mod_lt _ hr
    have hb' : (b + i - t) % r < r := Nat.mod_lt _ hr
    have hne : (a + i - t) % r ≠ (b + i - t) % r := by
      intro e
      have h1 : (b + i - t) = (a + i - t) + (b - a) := by omega
      rw [h1, Nat.add_mod] at e
      have h2 : (b - a) % r = b - a := Nat.mod_eq_of_lt (by omega)
      rw [h2] at e
      by_cases hc : (a + i - t) % r + (b - a) < r
      · rw [Nat.mod_eq_of_lt hc] at e; omega
      · have h3 : ((a + i - t) % r + (b - a)) % r = (a + i - t) % r + (b - a) - r := by
          rw [Nat.mod_eq_sub_mod (by omega), Nat.mod_eq_of_lt (by omega)]
        rw [h3] at e; omega
    rcases Nat.lt_or_gt_of_ne hne with q | q
    · exact h.2.2 _ _ (by omega) (by omega)
    · exact (h.2.2 _ _ (by omega) (by omega)).symm
/-- one step ahead of a point with a tail, or that isn't on the ring that it leads to -/
theorem TP_step {g : Nat → Nat} {x t r : Nat} (h : TP g (g x) t r) (hx : ∀ i, i < t + r → it g i (g x) ≠ x) : TP g x (t + 1) r := by
  refine ⟨h.1, ?_, fun i j hij hj => ?_⟩
  · rw [show t + 1 + r = (t + r) + 1 by omega, it_succ', it_succ']; exact h.2.1
  · cases i with
    | zero =>
      cases j with
      | zero => omega
      | succ j => rw [it_succ']; exact (hx j (by omega)).symm
    | succ i =>
      cases j with
      | zero => omega
      | succ j => rw [it_succ', it_succ']; exact h.2.2 i j (by omega) (by omega)
/-- every point of a finite step has tail and period -/
theorem TP_ex {g : Nat → Nat} {P : Nat} (hg : ∀ x, x < P → g x < P) {x : Nat} (hx : x < P) : ∃ t r, TP g x t r ∧ t + r ≤ P := by
  have key : ∀ n, (∃ t r, TP g x t r ∧ t + r ≤ n) ∨ ∀ i j, i < j → j ≤ n → it g i x ≠ it g j x := by
    intro n
    induction n with
    | zero => exact Or.inr (fun i j h1 h2 => by omega)
    | succ n ih =>
      rcases ih with ⟨t, r, h, hn⟩ | h
      · exact Or.inl ⟨t, r, h, by omega⟩
      · by_cases hc : ∃ t, t < n + 1 ∧ it g t x = it g (n + 1) x
        · obtain ⟨t, h1, h2⟩ := hc
          refine Or.inl ⟨t, n + 1 - t, ⟨by omega, ?_, fun i j hij hj => h i j hij (by omega)⟩, by omega⟩
          rw [show t + (n + 1 - t) = n + 1 by omega]; exact h2.symm
        · refine Or.inr (fun i j hij hj => ?_)
          by_cases hjn : j = n + 1
          · subst hjn; exact fun e => hc ⟨i, hij, e⟩
          · exact h i j hij (by omega)
  rcases key P with h | h
  · exact h
  · exfalso
    -- P + 1 different points below P
    have : ∀ n, (∀ i j, i < j → j < n → it g i x ≠ it g j x) → n ≤ P := fun n hn => fb_holes P n (fun i => it g i x) (fun i _ => it_lt hg hx i) hn
    have := this (P + 1) (fun i j hij hj => h i j hij (by omega))
    omega
/-- the least point of the ring that x comes to -/
def LE (g : Nat → Nat) (x t r m : Nat) : Prop := (∃ i, t ≤ i ∧ i < t + r ∧ m = it g i x) ∧ ∀ i, t ≤ i → i < t + r → m ≤ it g i x
noncomputable def tP (g : Nat → Nat) (x : Nat) : Nat × Nat := Classical.epsilon (fun p : Nat × Nat => TP g x p.1 p.2)
noncomputable def tT (g : Nat → Nat) (x : Nat) : Nat := (tP g x).1
noncomputable def tR (g : Nat → Nat) (x : Nat) : Nat := (tP g x).2
noncomputable def tM (g : Nat → Nat) (x : Nat) : Nat := Classical.epsilon (fun m => LE g x (tT g x) (tR g x) m)
theorem tTR {g : Nat → Nat} {x t r : Nat} (h : TP g x t r) : TP g x (tT g x) (tR g x) := Classical.epsilon_spec (p := fun p : Nat × Nat => TP g x p.1 p.2) ⟨(t, r), h⟩
theorem tT_of {g : Nat → Nat} {x t r : Nat} (h : TP g x t r) : tT g x = t := (TP_uni (tTR h) h).1
theorem tR_of {g : Nat → Nat} {x t r : Nat} (h : TP g x t r) : tR g x = r := (TP_uni (tTR h) h).2
theorem tTP {g : Nat → Nat} {P : Nat} (hg : ∀ x, x < P → g x < P) {x : Nat} (hx : x < P) : TP g x (tT g x) (tR g x) := by
  obtain ⟨t, r, h, -⟩ := TP_ex hg hx
  exact tTR h
theorem t_le {g : Nat → Nat} {P : Nat} (hg : ∀ x, x < P → g x < P) {x : Nat} (hx : x < P) : tT g x + tR g x ≤ P := by
  obtain ⟨t, r, h, h2⟩ := TP_ex hg hx
  rw [tT_of h, tR_of h]; exact h2
theorem tR_pos {g : Nat → Nat} {P : Nat} (hg : ∀ x, x < P → g x < P) {x : Nat} (hx : x < P) : 0 < tR g x := (tTP hg hx).1
theorem LE_uni {g : Nat → Nat} {x t r m m' : Nat} (h : LE g x t r m) (h' : LE g x t r m') : m = m' := by
  obtain ⟨⟨i, h1, h2, h3⟩, h4⟩ := h
  obtain ⟨⟨i', h1', h2', h3'⟩, h4'⟩ := h'
  have := h4 i' h1' h2'
  have := h4' i h1 h2
  omega
theorem LE_ex {g : Nat → Nat} {x t r : Nat} (hr : 0 < r) : ∃ m, LE g x t r m := by
  have key : ∀ n, 0 < n → ∃ m, (∃ i, t ≤ i ∧ i < t + n ∧ m = it g i x) ∧ ∀ i, t ≤ i → i < t + n → m ≤ it g i x := by
    intro n
    induction n with
    | zero => intro h; omega
    | succ n ih =>
      intro _
      rcases Nat.eq_zero_or_pos n with h | h
      · subst h
        exact ⟨it g t x, ⟨t, Nat.le_refl _, by omega, rfl⟩, fun i h1 h2 => by rw [show i = t by omega]; exact Nat.le_refl _⟩
      · obtain ⟨m, ⟨i, h1, h2, h3⟩, h4⟩ := ih h
        by_cases hc : m ≤ it g (t + n) x
        · refine ⟨m, ⟨i, h1, by omega, h3⟩, fun j h5 h6 => ?_⟩
          by_cases hj : j = t + n
          · subst hj; exact hc
          · exact h4 j h5 (by omega)
        · refine ⟨it g (t + n) x, ⟨t + n, by omega, by omega, rfl⟩, fun j h5 h6 => ?_⟩
          by_cases hj : j = t + n
          · subst hj; exact Nat.le_refl _
          · have := h4 j h5 (by omega)
            omega
  exact key r hr
theorem tM_LE {g : Nat → Nat} {x t r : Nat} (h : TP g x t r) : LE g x (tT g x) (tR g x) (tM g x) := by
  have h2 := tTR h
  exact Classical.epsilon_spec (p := fun m => LE g x (tT g x) (tR g x) m) (LE_ex h2.1)
theorem tM_of {g : Nat → Nat} {x t r m : Nat} (h : TP g x t r) (hm : LE g x t r m) : tM g x = m := by
  have h1 := tM_LE h
  rw [tT_of h, tR_of h] at h1
  exact LE_uni h1 hm
theorem tM_lt {g : Nat → Nat} {P : Nat} (hg : ∀ x, x < P → g x < P) {x : Nat} (hx : x < P) : tM g x < P := by
  obtain ⟨⟨i, -, -, h⟩, -⟩ := tM_LE (tTP hg hx)
  rw [h]; exact it_lt hg hx i
