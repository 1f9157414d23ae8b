/-! round polynomials: what the numbers are -/
theorem PR_mul {P a b : Nat} (h : PR P) (ha0 : 0 < a) (ha : a < P) (hb0 : 0 < b) (hb : b < P) : a * b % P ≠ 0 := fun e => by
  have e1 := iv_mul h ha0 ha
  have e2 : b * (a * iv P a) % P = b := by rw [Nat.mul_mod, e1, Nat.mul_one, Nat.mod_mod, Nat.mod_eq_of_lt hb]
  have e3 : b * (a * iv P a) = (a * b) * iv P a := by rw [← Nat.mul_assoc, Nat.mul_comm b a]
  rw [e3, Nat.mul_mod, e, Nat.zero_mul, Nat.zero_mod] at e2
  omega
theorem SUM_one {f : Nat → Nat} {n i : Nat} (hi : i < n) (h0 : ∀ j, j < n → j ≠ i → f j = 0) : SUM f n = f i := by
  rw [SUM_cut (a := i + 1) (by omega) (fun j h1 h2 => h0 j h2 (by omega)), SUM, SUM_0 (fun j hj => h0 j (by omega) (by omega)), Nat.zero_add]
theorem cv_lead {N da db : Nat} {a b : Nat → Nat} (ha : ∀ j, da < j → j < N → a j = 0) (hb : ∀ j, db < j → j < N → b j = 0) (h : da + db < N) : cv a b (da + db) = a da * b db := by
  unfold cv
  rw [SUM_one (i := da) (by omega) (fun j hj hne => by
    by_cases h1 : da < j
    · rw [ha j h1 (by omega), Nat.zero_mul]
    · rw [hb (da + db - j) (by omega) (by omega), Nat.mul_zero])]
  rw [show da + db - da = db by omega]
theorem hp_lead {P N db : Nat} {c b : Nat → Nat} (h : PR P) (hdb : 1 ≤ db) (hb0 : ∀ j, db < j → j < N → b j = 0) (hbl : 0 < b db) (hbP : ∀ j, j < N → b j < P) : ∀ k v od, od + k * db < N → (∀ j, od < j → j < N → v j = 0) → 0 < v od → (∀ j, j < N → v j < P) → 0 < hp P c b k v (od + k * db)
  | 0, v, od, h1, h2, h3, h4 => by rw [hp, Nat.zero_mul, Nat.add_zero od]; exact h3
  | k + 1, v, od, h1, h2, h3, h4 => by
    have hP := h.1
    rw [Nat.succ_mul] at h1 ⊢
    rw [hp, show od + (k * db + db) = (od + db) + k * db by omega]
    refine hp_lead h hdb hb0 hbl hbP k _ (od + db) (by omega) (fun j h5 h6 => ?_) ?_ (fun j _ => Nat.mod_lt _ (by omega))
    · show (cv v b j + if j = 0 then c k else 0) % P = 0
      rw [cv_zero h2 hb0 h5 h6, if_neg (by omega)]; exact Nat.zero_mod P
    · show 0 < (cv v b (od + db) + if od + db = 0 then c k else 0) % P
      rw [cv_lead h2 hb0 (by omega), if_neg (by omega), Nat.add_zero (v od * b db)]
      have := PR_mul h h3 (h4 od (by omega)) hbl (hbP db (by omega))
      omega
/-- the MAP gone m times -/
def itr (P : Nat) (c : Nat → Nat) (d : Nat) : Nat → Nat → Nat
  | 0 => fun j => if j = 1 then 1 else 0
  | m + 1 => hp P c (itr P c d m) (d + 1) (fun _ => 0)
/-- a row with its degree -/
def RW (P : Nat) (x : (Nat → Nat) × Nat) : Prop := x.2 ≤ 64 ∧ (∀ j, j < 65 → x.1 j < P) ∧ (∀ j, x.2 < j → j < 65 → x.1 j = 0) ∧ 0 < x.1 x.2
theorem pow_down {d m : Nat} (hd : 2 ≤ d) (h : d ^ (m + 1) ≤ 64) : d ^ m ≤ 64 ∧ 1 ≤ d ^ m := by
  rw [Nat.pow_succ] at h
  have h1 : d ^ m * 2 ≤ d ^ m * d := Nat.mul_le_mul_left _ hd
  have h2 : 0 < d ^ m := Nat.pow_pos (by omega)
  omega
theorem itr_ok {P d : Nat} {c : Nat → Nat} (h : PR P) (hpc : PolyC P c d) (hd : 2 ≤ d) : ∀ m, d ^ m ≤ 64 → RW P (itr P c d m, d ^ m)
  | 0, h1 => by
    have hP := h.1
    rw [Nat.pow_zero] at h1 ⊢
    refine ⟨by show (1 : Nat) ≤ 64; omega, fun j _ => ?_, fun j hj _ => if_neg (by have : 1 < j := hj; omega), ?_⟩
    · show (if j = 1 then 1 else 0) < P
      split <;> omega
    · show 0 < (if 1 = 1 then 1 else 0)
      rw [if_pos rfl]; omega
  | m + 1, h1 => by
    have hP := h.1
    obtain ⟨h2, h3⟩ := pow_down hd h1
    obtain ⟨i1, i2, i3, i4⟩ := itr_ok h hpc hd m h2
    have i3 : ∀ j, d ^ m < j → j < 65 → itr P c d m j = 0 := i3
    have i4 : 0 < itr P c d m (d ^ m) := i4
    have hcd := hpc.2.1 d (by have := hpc.1; omega)
    have hcl := hpc.2.2.2 (by omega)
    have e : d ^ (m + 1) = 0 + d * d ^ m := by rw [Nat.pow_succ, Nat.mul_comm]; omega
    refine ⟨h1, fun j hj => ?_, fun j hj hj2 => ?_, ?_⟩
    · show hp P c (itr P c d m) (d + 1) (fun _ => 0) j < P
      exact hp_lt (N := 65) (by omega) _ _ (fun j _ => by omega) j hj
    · show hp P c (itr P c d m) (d + 1) (fun _ => 0) j = 0
      have hj : d ^ (m + 1) < j := hj
      rw [hp_first hcd]
      exact hp_deg i3 d _ 0 (fun j h5 _ => if_neg (by omega)) j (by omega) hj2
    · show 0 < hp P c (itr P c d m) (d + 1) (fun _ => 0) (d ^ (m + 1))
      rw [hp_first hcd, e]
      exact hp_lead h h3 i3 i4 i2 d _ 0 (by omega) (fun j h5 _ => if_neg (by omega)) (by
        show 0 < (if 0 = 0 then c d else 0)
        rw [if_pos rfl]; omega) (fun j _ => by
        show (if j = 0 then c d else 0) < P
        split <;> omega)
/-- less x -/
def R0 (P : Nat) (c : Nat → Nat) (d m : Nat) : Nat → Nat := fun j => if j = 1 then (itr P c d m 1 + P - 1) % P else itr P c d m j
theorem R0_ok {P d m : Nat} {c : Nat → Nat} (h : PR P) (hpc : PolyC P c d) (hd : 2 ≤ d) (h1 : d ^ (m + 1) ≤ 64) : RW P (R0 P c d (m + 1), d ^ (m + 1)) := by
  have hP := h.1
  obtain ⟨i1, i2, i3, i4⟩ := itr_ok h hpc hd (m + 1) h1
  have h2 : 2 ≤ d ^ (m + 1) := by
    obtain ⟨-, h3⟩ := pow_down hd h1
    rw [Nat.pow_succ]
    have := Nat.mul_le_mul h3 hd
    omega
  refine ⟨h1, fun j hj => ?_, fun j hj hj2 => ?_, ?_⟩
  · show (if j = 1 then (itr P c d (m + 1) 1 + P - 1) % P else itr P c d (m + 1) j) < P
    split
    · exact Nat.mod_lt _ (by omega)
    · exact i2 j hj
  · have hj : d ^ (m + 1) < j := hj
    exact (if_neg (by omega)).trans (i3 j hj hj2)
  · show 0 < R0 P c d (m + 1) (d ^ (m + 1))
    rw [R0, if_neg (by omega)]
    exact i4
/-! division -/
def dst (P i : Nat) (b : Nat → Nat) (e s : Nat) (r : Nat → Nat) : Nat → Nat := fun j => if j = e + s then r (e + s) * i % P else if s ≤ j ∧ j < e + s then (r j + (P - r (e + s) * i % P) * b (j - s)) % P else r j
def dv (P i : Nat) (b : Nat → Nat) (e : Nat) : Nat → (Nat → Nat) → Nat → Nat
  | 0, r => r
  | s + 1, r => dv P i b e s (dst P i b e s r)
theorem dst_lt {P i e s : Nat} {b r : Nat → Nat} (hP : 0 < P) (hr : ∀ j, j < 65 → r j < P) : ∀ j, j < 65 → dst P i b e s r j < P := fun j hj => by
  unfold dst
  split
  · exact Nat.mod_lt _ hP
  · split
    · exact Nat.mod_lt _ hP
    · exact hr j hj
theorem dv_lt {P i e : Nat} {b : Nat → Nat} (hP : 0 < P) : ∀ s r, (∀ j, j < 65 → r j < P) → ∀ j, j < 65 → dv P i b e s r j < P
  | 0, r, h => h
  | s + 1, r, h => dv_lt hP s _ (dst_lt hP h)
theorem dst_hi {P i e s j : Nat} {b r : Nat → Nat} (h : e + s < j) : dst P i b e s r j = r j := by
  unfold dst
  rw [if_neg (by omega), if_neg (by omega)]
theorem dv_hi {P i e j : Nat} {b : Nat → Nat} : ∀ s r, e + s ≤ j → dv P i b e s r j = r j
  | 0, r, _ => rfl
  | s + 1, r, h => by rw [dv, dv_hi s _ (by omega), dst_hi (by omega)]
theorem dst_none {P i e s : Nat} {b r : Nat → Nat} (hs : e + s < 65) (hr : ∀ j, j < 65 → r j < P) (h0 : r (e + s) = 0) : dst P i b e s r = r := by
  funext j
  unfold dst
  by_cases h1 : j = e + s
  · subst h1
    rw [if_pos rfl, h0, Nat.zero_mul, Nat.zero_mod]
  · rw [if_neg h1]
    by_cases h2 : s ≤ j ∧ j < e + s
    · rw [if_pos h2, h0, Nat.zero_mul, Nat.zero_mod, Nat.sub_zero, Nat.add_mul_mod_self_left, Nat.mod_eq_of_lt (hr j (by omega))]
    · rw [if_neg h2]
theorem dv_ext {P i e s : Nat} {b r : Nat → Nat} (hr : ∀ j, j < 65 → r j < P) (h0 : ∀ j, e + s ≤ j → j < 65 → r j = 0) : ∀ n, e + s + n ≤ 65 → dv P i b e (s + n) r = dv P i b e s r
  | 0, _ => rfl
  | n + 1, h => by
    rw [← Nat.add_assoc, dv, dst_none (by omega) hr (h0 _ (by omega) (by omega))]
    exact dv_ext hr h0 n (by omega)
def quo (P : Nat) (b : Nat → Nat) (e g : Nat) (r : Nat → Nat) : Nat → Nat := fun k => if k + e ≤ g then dv P (iv P (b e)) b e (g - e + 1) r (k + e) else 0
theorem quo_ok {P e g : Nat} {b r : Nat → Nat} (h : PR P) (hr : RW P (r, g)) (hb : 0 < b e) (hbP : b e < P) (he : e ≤ g) : RW P (quo P b e g r, g - e) := by
  have hP := h.1
  obtain ⟨i1, i2, i3, i4⟩ := hr
  have i1 : g ≤ 64 := i1
  have i4 : 0 < r g := i4
  refine ⟨by show g - e ≤ 64; omega, fun j hj => ?_, fun j hj hj2 => if_neg (by have : g - e < j := hj; omega), ?_⟩
  · show (if j + e ≤ g then dv P (iv P (b e)) b e (g - e + 1) r (j + e) else 0) < P
    split
    · exact dv_lt (by omega) _ _ i2 _ (by omega)
    · omega
  · show 0 < (if g - e + e ≤ g then dv P (iv P (b e)) b e (g - e + 1) r (g - e + e) else 0)
    rw [if_pos (by omega), show g - e + e = g by omega, dv, dv_hi _ _ (by omega), dst, if_pos (by omega), show e + (g - e) = g by omega]
    have := PR_mul h i4 (i2 g (by omega)) (iv_pos h hb hbP) (iv_lt h)
    omega
/-- divided by the rows of the divisors 1 .. t of m -/
def dvs (P : Nat) (c : Nat → Nat) (d : Nat) (T : Nat → (Nat → Nat) × Nat) (m : Nat) : Nat → (Nat → Nat) × Nat
  | 0 => (R0 P c d m, d ^ m)
  | t + 1 => if m % (t + 1) = 0 then (quo P (T (t + 1)).1 (T (t + 1)).2 (dvs P c d T m t).2 (dvs P c d T m t).1, (dvs P c d T m t).2 - (T (t + 1)).2) else dvs P c d T m t
def tab (P : Nat) (c : Nat → Nat) (d : Nat) : Nat → Nat → (Nat → Nat) × Nat
  | 0 => fun _ => (fun _ => 0, 0)
  | n + 1 => fun m => if m = n + 1 then dvs P c d (tab P c d n) (n + 1) n else tab P c d n m
def RT (P : Nat) (c : Nat → Nat) (d m : Nat) : (Nat → Nat) × Nat := tab P c d m m
theorem tab_RT {P d m : Nat} {c : Nat → Nat} : ∀ n, m ≤ n → tab P c d n m = RT P c d m
  | 0, h => by rw [show m = 0 by omega]; rfl
  | n + 1, h => by
    by_cases h1 : m = n + 1
    · rw [h1]; rfl
    · rw [tab]
      exact (if_neg h1).trans (tab_RT n (by omega))
theorem dvs_cong {P d m : Nat} {c : Nat → Nat} {T T' : Nat → (Nat → Nat) × Nat} : ∀ t, (∀ k, k ≤ t → T k = T' k) → dvs P c d T m t = dvs P c d T' m t
  | 0, _ => rfl
  | t + 1, h => by rw [dvs, dvs, h (t + 1) (Nat.le_refl _), dvs_cong t (fun k hk => h k (by omega))]
theorem RT_eq {P d m : Nat} {c : Nat → Nat} : RT P c d (m + 1) = dvs P c d (RT P c d) (m + 1) m := by
  rw [RT, tab]
  exact (if_pos rfl).trans (dvs_cong m (fun k hk => tab_RT m hk))
/-- the degrees alone -/
def dgN (d : Nat) (T : Nat → Nat) (m : Nat) : Nat → Nat
  | 0 => d ^ m
  | t + 1 => if m % (t + 1) = 0 then dgN d T m t - T (t + 1) else dgN d T m t
def tabN (d : Nat) : Nat → Nat → Nat
  | 0 => fun _ => 0
  | n + 1 => fun m => if m = n + 1 then dgN d (tabN d n) (n + 1) n else tabN d n m
theorem dvs_N {P d m : Nat} {c : Nat → Nat} {T : Nat → (Nat → Nat) × Nat} : ∀ t, (dvs P c d T m t).2 = dgN d (fun k => (T k).2) m t
  | 0 => rfl
  | t + 1 => by
    rw [dvs, dgN]
    by_cases h : m % (t + 1) = 0
    · rw [if_pos h, if_pos h, ← dvs_N t]
    · rw [if_neg h, if_neg h, ← dvs_N t]
theorem tab_N {P d m : Nat} {c : Nat → Nat} : ∀ n, (tab P c d n m).2 = tabN d n m
  | 0 => rfl
  | n + 1 => by
    rw [tab, tabN]
    by_cases h : m = n + 1
    · subst h
      have e : (fun k => (tab P c d n k).2) = tabN d n := funext (fun k => tab_N n)
      show (if n + 1 = n + 1 then dvs P c d (tab P c d n) (n + 1) n else tab P c d n (n + 1)).2 = (if n + 1 = n + 1 then dgN d (tabN d n) (n + 1) n else tabN d n (n + 1))
      rw [if_pos rfl, if_pos rfl, dvs_N, e]
    · show (if m = n + 1 then dvs P c d (tab P c d n) (n + 1) n else tab P c d n m).2 = (if m = n + 1 then dgN d (tabN d n) (n + 1) n else tabN d n m)
      rw [if_neg h, if_neg h]; exact tab_N n
theorem N_all0 : (List.range 5).all (fun d => (List.range 6).all (fun m => (List.range m).all (fun t => decide (d < 2) || (decide (64 < d ^ (m + 1)) || (decide ((m + 1) % (t + 1) ≠ 0) || decide (tabN d (t + 1) (t + 1) ≤ dgN d (fun k => tabN d k k) (m + 1) t)))))) = true := by decide +kernel
theorem N_all (d : Nat) (h : d < 5) (m : Nat) (hm : m < 6) (hd : 2 ≤ d) (h1 : d ^ (m + 1) ≤ 64) (t : Nat) (ht : t < m) (h2 : (m + 1) % (t + 1) = 0) : tabN d (t + 1) (t + 1) ≤ dgN d (fun k => tabN d k k) (m + 1) t := by
  have e1 := List.all_eq_true.mp N_all0 d (List.mem_range.mpr h)
  have e2 := List.all_eq_true.mp e1 m (List.mem_range.mpr hm)
  have e3 := List.all_eq_true.mp e2 t (List.mem_range.mpr ht)
  simp only [Bool.or_eq_true, decide_eq_true_eq] at e3
  rcases e3 with e | e | e | e
  · omega
  · omega
  · exact absurd h2 e
  · exact e
theorem pow_le {d t m : Nat} (hd : 2 ≤ d) (h : t ≤ m) (h1 : d ^ m ≤ 64) : d ^ t ≤ 64 := Nat.le_trans (Nat.pow_le_pow_right (by omega) h) h1
theorem RT_le {P d m t : Nat} {c : Nat → Nat} (hd : 2 ≤ d) (hd4 : d ≤ 4) (hm : m < 6) (h1 : d ^ (m + 1) ≤ 64) (ht : t < m) (h2 : (m + 1) % (t + 1) = 0) : (RT P c d (t + 1)).2 ≤ (dvs P c d (RT P c d) (m + 1) t).2 := by
  rw [dvs_N]
  have := N_all d (by omega) m hm hd h1 t ht h2
  have e : ∀ k, (RT P c d k).2 = tabN d k k := fun k => tab_N k
  rw [e (t + 1), show (fun k => (RT P c d k).2) = (fun k => tabN d k k) from funext e]
  exact this
theorem dvs_ok {P d m : Nat} {c : Nat → Nat} (h : PR P) (hpc : PolyC P c d) (hd : 2 ≤ d) (hm : m < 6) (h1 : d ^ (m + 1) ≤ 64) (hT : ∀ k, 1 ≤ k → k ≤ m → RW P (RT P c d k)) : ∀ t, t ≤ m → RW P (dvs P c d (RT P c d) (m + 1) t)
  | 0, _ => R0_ok h hpc hd h1
  | t + 1, ht => by
    have ih := dvs_ok h hpc hd hm h1 hT t (by omega)
    rw [dvs]
    by_cases h2 : (m + 1) % (t + 1) = 0
    · rw [if_pos h2]
      obtain ⟨j1, j2, j3, j4⟩ := hT (t + 1) (by omega) ht
      exact quo_ok h ih j4 (j2 _ (by omega)) (RT_le hd hpc.1 hm h1 (by omega) h2)
    · rw [if_neg h2]; exact ih
theorem RT_ok {P d : Nat} {c : Nat → Nat} (h : PR P) (hpc : PolyC P c d) (hd : 2 ≤ d) : ∀ n m, m ≤ n → 1 ≤ m → m ≤ 6 → d ^ m ≤ 64 → RW P (RT P c d m)
  | 0, m, h1, h2, _, _ => by omega
  | n + 1, m, h1, h2, h3, h4 => by
    obtain ⟨k, rfl⟩ : ∃ k, m = k + 1 := ⟨m - 1, by omega⟩
    rw [RT_eq]
    exact dvs_ok h hpc hd (by omega) h4 (fun j h5 h6 => RT_ok h hpc hd n j (by omega) h5 (by omega) (pow_le hd (by omega) h4)) k (Nat.le_refl k)
