/-! alike: counts of tails and periods -/
noncomputable def ky (g : Nat → Nat) (x : Nat) : Nat := 200 * tT g x + tR g x
noncomputable def cA (P : Nat) (g : Nat → Nat) (k : Nat) : Nat := fb_ct (fun x => decide (ky g x = k)) P
theorem ky_r {P x : Nat} {g : Nat → Nat} (hP2 : P < 200) (hg : ∀ y, y < P → g y < P) (hx : x < P) : ky g x % 200 = tR g x ∧ ky g x / 200 = tT g x ∧ ky g x < 40000 ∧ tT g x < P := by
  have h1 := t_le hg hx
  have h2 := tR_pos hg hx
  unfold ky; omega
theorem cA_zero {P k : Nat} {g : Nat → Nat} (h : ∀ x, x < P → ky g x ≠ k) : cA P g k = 0 := fb_ct_zero.mpr (fun x hx => decide_eq_false (h x hx))
theorem hist {P : Nat} {g g' : Nat → Nat} (hP2 : P < 200) (hg : ∀ y, y < P → g y < P) (hg' : ∀ y, y < P → g' y < P) : (∀ x, x < P → ∀ t, t < P → cA P g (200 * t + tR g x) = cA P g' (200 * t + tR g x)) ↔ ∀ k, k < 40000 → cA P g k = cA P g' k := by
  constructor
  · intro h
    let S : Nat → Bool := fun r => decide (0 < fb_ct (fun x => decide (tR g x = r)) P)
    have hS : ∀ r, S r = true ↔ ∃ x, x < P ∧ tR g x = r := fun r => by
      show decide (0 < fb_ct (fun x => decide (tR g x = r)) P) = true ↔ _
      rw [decide_eq_true_iff, fb_ct_pos]
      exact ⟨fun ⟨x, h1, h2⟩ => ⟨x, h1, of_decide_eq_true h2⟩, fun ⟨x, h1, h2⟩ => ⟨x, h1, decide_eq_true h2⟩⟩
    have hk : ∀ k, S (k % 200) = true → cA P g k = cA P g' k := fun k hs => by
      obtain ⟨x, hx, e⟩ := (hS _).mp hs
      by_cases ht : k / 200 < P
      · have := h x hx (k / 200) ht
        rw [e, Nat.div_add_mod] at this
        exact this
      · rw [cA_zero (fun y hy e2 => by have := ky_r hP2 hg hy; rw [e2] at this; omega), cA_zero (fun y hy e2 => by have := ky_r hP2 hg' hy; rw [e2] at this; omega)]
    have hQ : ∀ f : Nat → Nat, (∀ y, y < P → f y < P) → ∀ k, fb_ct (fun y => S (tR f y) && decide (ky f y = k)) P = if S (k % 200) = true then cA P f k else 0 := fun f hf k => by
      by_cases hs : S (k % 200) = true
      · rw [if_pos hs]
        refine fb_ct_cong (fun y hy => ?_)
        have := ky_r hP2 hf hy
        by_cases e : ky f y = k
        · rw [e] at this
          rw [decide_eq_true e, ← this.1, hs]; rfl
        · rw [decide_eq_false e, Bool.and_false]
      · rw [if_neg hs]
        refine fb_ct_zero.mpr (fun y hy => ?_)
        have := ky_r hP2 hf hy
        by_cases e : ky f y = k
        · rw [e] at this
          rw [← this.1]
          cases hh : S (k % 200) with
          | true => exact absurd hh hs
          | false => rfl
        · rw [decide_eq_false e, Bool.and_false]
    have hall : ∀ y, y < P → S (tR g' y) = true := by
      have n1 : fb_ct (fun y => S (tR g y)) P = P := fb_ct_all.mpr (fun y hy => (hS _).mpr ⟨y, hy, rfl⟩)
      have n2 : fb_ct (fun y => S (tR g' y)) P = fb_ct (fun y => S (tR g y)) P := by
        rw [ct_part (m := ky g') (P := 40000) P (fun y hy => (ky_r hP2 hg' hy).2.2.1), ct_part (p := fun y => S (tR g y)) (m := ky g) (P := 40000) P (fun y hy => (ky_r hP2 hg hy).2.2.1)]
        congr 1
        funext k
        rw [hQ g' hg' k, hQ g hg k]
        by_cases hs : S (k % 200) = true
        · rw [if_pos hs, if_pos hs, hk k hs]
        · rw [if_neg hs, if_neg hs]
      exact fb_ct_all.mp (n2.trans n1)
    intro k _
    by_cases hs : S (k % 200) = true
    · exact hk k hs
    · rw [cA_zero (fun y hy e2 => hs (by
        have := ky_r hP2 hg hy
        rw [e2] at this
        exact (hS _).mpr ⟨y, hy, this.1.symm⟩)), cA_zero (fun y hy e2 => hs (by
        have := ky_r hP2 hg' hy
        rw [e2] at this
        rw [this.1]; exact hall y hy))]
  · intro h x hx t ht
    have h1 := tR_le hg hx
    exact h _ (by omega)
