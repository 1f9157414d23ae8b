/-! fractions: the two graphs -/
def gM (a : Int) (d y : Nat) : Nat := if y < 241 ∧ -120 ≤ qv a d ((y : Int) - 120) ∧ qv a d ((y : Int) - 120) ≤ 120 then (qv a d ((y : Int) - 120) + 120).toNat else 241
def gC (a : Int) (d y : Nat) : Nat := if y < 233 ∧ Nat.gcd ((y : Int) - 116).natAbs d = 1 ∧ -116 ≤ qv a d ((y : Int) - 116) ∧ qv a d ((y : Int) - 116) ≤ 116 then (qv a d ((y : Int) - 116) + 116).toNat else 233
theorem gM_lt (a : Int) (d y : Nat) : gM a d y < 242 := by
  unfold gM; split <;> omega
theorem gC_lt (a : Int) (d y : Nat) : gC a d y < 234 := by
  unfold gC; split <;> omega
theorem gM_N (a : Int) (d : Nat) : gM a d 241 = 241 := by
  unfold gM; rw [if_neg (by omega)]
theorem gC_N (a : Int) (d : Nat) : gC a d 233 = 233 := by
  unfold gC; rw [if_neg (by omega)]
theorem gM_in {a : Int} {d y : Nat} (h : gM a d y < 241) : y < 241 ∧ (gM a d y : Int) = qv a d ((y : Int) - 120) + 120 := by
  unfold gM at h ⊢
  split at h
  · rename_i hc
    rw [if_pos hc]; omega
  · omega
theorem gC_in {a : Int} {d y : Nat} (h : gC a d y < 233) : y < 233 ∧ Nat.gcd ((y : Int) - 116).natAbs d = 1 ∧ (gC a d y : Int) = qv a d ((y : Int) - 116) + 116 := by
  unfold gC at h ⊢
  split at h
  · rename_i hc
    rw [if_pos hc]; exact ⟨hc.1, hc.2.1, by omega⟩
  · omega
theorem qv_far {a : Int} {d : Nat} {n : Int} (h1 : -10000 ≤ a) (hd : 1 ≤ d) (hd2 : d ≤ 30) (hn : 117 ≤ n ∨ n ≤ -117) : qv a d n < -120 ∨ 120 < qv a d n := by
  have hsq : 13689 ≤ n * n := by
    have e : n * n = (n.natAbs : Int) * (n.natAbs : Int) := by rw [← Int.natCast_mul, Int.natAbs_mul_self]
    have h3 : (117 : Int) ≤ (n.natAbs : Int) := by omega
    rw [e]
    exact Int.mul_le_mul h3 h3 (by omega) (by omega)
  unfold qv
  split
  · right
    obtain ⟨k, hk⟩ : ∃ k : Nat, n * n + a = (k : Int) := ⟨(n * n + a).toNat, by omega⟩
    rw [hk, td_pos]
    have h4 : k / 30 ≤ k / d := Nat.div_le_div_left hd2 (by omega)
    omega
  · left; omega
theorem gM_far {a : Int} {d y : Nat} (h1 : -10000 ≤ a) (hd : 1 ≤ d) (hd2 : d ≤ 30) (h : gM a d y < 241) : 4 ≤ y ∧ y < 237 := by
  have h2 := gM_in h
  by_cases hc : 4 ≤ y ∧ y < 237
  · exact hc
  · have := qv_far (n := (y : Int) - 120) h1 hd hd2 (by omega)
    omega
theorem qv_cop {a : Int} {d : Nat} {n : Int} (h : qv a d n ≠ -1000000) : Nat.gcd (qv a d n).natAbs d = 1 := by
  unfold qv at h ⊢
  split at h
  · rename_i hc
    rw [if_pos hc]; exact hc.2
  · exact absurd rfl h
theorem gC_eq {a n : Int} {d y : Nat} (hy : y < 233) (e : (y : Int) - 116 = n) (hg : Nat.gcd n.natAbs d = 1) (h1 : -116 ≤ qv a d n) (h2 : qv a d n ≤ 116) : gC a d y = (qv a d n + 116).toNat := by
  subst e
  unfold gC
  rw [if_pos ⟨hy, hg, h1, h2⟩]
/-- the class's way is the model's -/
theorem way_A {a : Int} {d y : Nat} (hy : y < 233) (hn : ¬ Gone (gC a d) 233 y) : ∀ k, it (gC a d) k y < 233 ∧ it (gM a d) k (y + 4) = it (gC a d) k y + 4
  | 0 => ⟨hy, rfl⟩
  | k + 1 => by
    obtain ⟨h1, h2⟩ := way_A hy hn k
    have h3 : gC a d (it (gC a d) k y) < 233 := by
      have h4 := gC_lt a d (it (gC a d) k y)
      rcases Nat.lt_or_ge (gC a d (it (gC a d) k y)) 233 with h5 | h5
      · exact h5
      · exact absurd ⟨k + 1, (by omega : gC a d (it (gC a d) k y) = 233)⟩ hn
    refine ⟨h3, ?_⟩
    show gM a d (it (gM a d) k (y + 4)) = gC a d (it (gC a d) k y) + 4
    rw [h2]
    obtain ⟨c1, c2, c3⟩ := gC_in h3
    have e : ((it (gC a d) k y + 4 : Nat) : Int) - 120 = (it (gC a d) k y : Int) - 116 := by omega
    unfold gM
    rw [e, if_pos (by omega)]
    omega
theorem way_B {a : Int} {d x : Nat} (h1 : -10000 ≤ a) (hd : 1 ≤ d) (hd2 : d ≤ 30) (hx : x < 241) (hg : Nat.gcd ((x : Int) - 120).natAbs d = 1) (hn : ¬ Gone (gM a d) 241 x) : ∀ k, 4 ≤ it (gM a d) k x ∧ it (gM a d) k x < 237 ∧ Nat.gcd ((it (gM a d) k x : Int) - 120).natAbs d = 1 ∧ it (gC a d) k (x - 4) + 4 = it (gM a d) k x := by
  have hin : ∀ k, it (gM a d) k x < 241 := fun k => by
    have h4 : it (gM a d) k x < 242 := by
      cases k with
      | zero => exact Nat.lt_succ_of_lt hx
      | succ k => exact gM_lt a d _
    rcases Nat.lt_or_ge (it (gM a d) k x) 241 with h5 | h5
    · exact h5
    · exact absurd ⟨k, by omega⟩ hn
  have hfar : ∀ k, 4 ≤ it (gM a d) k x ∧ it (gM a d) k x < 237 := fun k => gM_far h1 hd hd2 (hin (k + 1))
  intro k
  induction k with
  | zero => exact ⟨(hfar 0).1, (hfar 0).2, hg, by
      have := (hfar 0).1
      show x - 4 + 4 = x
      have : 4 ≤ x := this
      omega⟩
  | succ k ih =>
    obtain ⟨i1, i2, i3, i4⟩ := ih
    have c := gM_in (hin (k + 1))
    have f := hfar (k + 1)
    have c2 : (gM a d (it (gM a d) k x) : Int) = qv a d ((it (gM a d) k x : Int) - 120) + 120 := c.2
    have f1 : 4 ≤ gM a d (it (gM a d) k x) := f.1
    have f2 : gM a d (it (gM a d) k x) < 237 := f.2
    refine ⟨f1, f2, ?_, ?_⟩
    · show Nat.gcd ((gM a d (it (gM a d) k x) : Int) - 120).natAbs d = 1
      rw [c2, show qv a d ((it (gM a d) k x : Int) - 120) + 120 - 120 = qv a d ((it (gM a d) k x : Int) - 120) by omega]
      exact qv_cop (by omega)
    · show gC a d (it (gC a d) k (x - 4)) + 4 = gM a d (it (gM a d) k x)
      have e : (it (gC a d) k (x - 4) : Int) - 116 = (it (gM a d) k x : Int) - 120 := by omega
      rw [gC_eq (by omega) e i3 (by omega) (by omega)]; omega
/-- does a fraction return? -/
def RQ (a : Int) (d x : Nat) : Prop := 4 ≤ x ∧ x < 237 ∧ ¬ Gone (gC a d) 233 (x - 4)
theorem RQ_iff {a : Int} {d x : Nat} (h1 : -10000 ≤ a) (hd : 1 ≤ d) (hd2 : d ≤ 30) (hx : x < 241) : (Nat.gcd ((x : Int) - 120).natAbs d = 1 ∧ ¬ Gone (gM a d) 241 x) ↔ RQ a d x := by
  constructor
  · rintro ⟨hg, hn⟩
    have hB := way_B h1 hd hd2 hx hg hn
    refine ⟨(hB 0).1, (hB 0).2.1, fun ⟨k, hk⟩ => ?_⟩
    have := hB k
    omega
  · rintro ⟨h3, h4, h5⟩
    have hA := way_A (a := a) (d := d) (by omega : x - 4 < 233) h5
    have e : x - 4 + 4 = x := by omega
    rw [e] at hA
    obtain ⟨c1, c2, c3⟩ := gC_in (hA 1).1
    have e2 : ((it (gC a d) 0 (x - 4) : Nat) : Int) - 116 = (x : Int) - 120 := by
      show ((x - 4 : Nat) : Int) - 116 = (x : Int) - 120
      omega
    rw [e2] at c2
    refine ⟨c2, fun ⟨k, hk⟩ => ?_⟩
    have := hA k
    omega
theorem gC_cl (a : Int) (d : Nat) : ∀ y, y < 234 → gC a d y < 234 := fun y _ => gC_lt a d y
theorem TP_4 {a : Int} {d y : Nat} (hy : y < 233) (hn : ¬ Gone (gC a d) 233 y) : TP (gM a d) (y + 4) (tT (gC a d) y) (tR (gC a d) y) := by
  have hA := way_A hy hn
  obtain ⟨p1, p2, p3⟩ := tTP (gC_cl a d) (by omega : y < 234)
  refine ⟨p1, ?_, fun i j hij hj => ?_⟩
  · rw [(hA _).2, (hA _).2, p2]
  · have := p3 i j hij hj
    rw [(hA _).2, (hA _).2]; omega
theorem tT_4 {a : Int} {d y : Nat} (hy : y < 233) (hn : ¬ Gone (gC a d) 233 y) : tT (gM a d) (y + 4) = tT (gC a d) y ∧ tR (gM a d) (y + 4) = tR (gC a d) y := ⟨tT_of (TP_4 hy hn), tR_of (TP_4 hy hn)⟩
