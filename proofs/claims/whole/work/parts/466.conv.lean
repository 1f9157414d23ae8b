/-! products of polynomials by their numbers -/
def SUM (f : Nat → Nat) : Nat → Nat
  | 0 => 0
  | n + 1 => SUM f n + f n
theorem SUM_congr {f g : Nat → Nat} : ∀ {n : Nat}, (∀ i, i < n → f i = g i) → SUM f n = SUM g n
  | 0, _ => rfl
  | n + 1, h => by rw [SUM, SUM, SUM_congr (fun i hi => h i (by omega)), h n (by omega)]
theorem SUM_cut {f : Nat → Nat} {a : Nat} : ∀ {n : Nat}, a ≤ n → (∀ i, a ≤ i → i < n → f i = 0) → SUM f n = SUM f a
  | 0, h, _ => by rw [show a = 0 by omega]
  | n + 1, h, h0 => by
    by_cases e : a = n + 1
    · rw [e]
    · rw [SUM, h0 n (by omega) (by omega), Nat.add_zero (SUM f n)]
      exact SUM_cut (by omega) (fun i h1 h2 => h0 i h1 (by omega))
theorem SUM_0 {f : Nat → Nat} {n : Nat} (h : ∀ i, i < n → f i = 0) : SUM f n = 0 := SUM_cut (Nat.zero_le n) (fun i _ h2 => h i h2)
theorem SUM_le {f : Nat → Nat} {M : Nat} : ∀ {n : Nat}, (∀ i, i < n → f i ≤ M) → SUM f n ≤ n * M
  | 0, _ => by rw [SUM]; omega
  | n + 1, h => by
    have h1 := SUM_le (n := n) (fun i hi => h i (by omega))
    have h2 := h n (by omega)
    rw [SUM, Nat.succ_mul]; omega
theorem SUM_front (f : Nat → Nat) : ∀ n : Nat, SUM f (n + 1) = f 0 + SUM (fun i => f (i + 1)) n
  | 0 => by rw [SUM, SUM, SUM]; omega
  | n + 1 => by rw [SUM, SUM_front f n, SUM]; omega
theorem SUM_rev (f : Nat → Nat) : ∀ n : Nat, SUM (fun i => f (n - 1 - i)) n = SUM f n
  | 0 => rfl
  | n + 1 => by
    rw [SUM_front, SUM, ← SUM_rev f n]
    have e : SUM (fun i => f (n + 1 - 1 - (i + 1))) n = SUM (fun i => f (n - 1 - i)) n := SUM_congr (fun i hi => by rw [show n + 1 - 1 - (i + 1) = n - 1 - i by omega])
    show f (n + 1 - 1 - 0) + SUM (fun i => f (n + 1 - 1 - (i + 1))) n = _
    rw [e, show n + 1 - 1 - 0 = n by omega]; omega
/-- the number k of a product -/
def cv (a b : Nat → Nat) (k : Nat) : Nat := SUM (fun i => a i * b (k - i)) (k + 1)
theorem cv_comm (a b : Nat → Nat) (k : Nat) : cv a b k = cv b a k := by
  unfold cv
  rw [← SUM_rev (fun i => a i * b (k - i)) (k + 1)]
  exact SUM_congr (fun i hi => by
    show a (k + 1 - 1 - i) * b (k - (k + 1 - 1 - i)) = b i * a (k - i)
    rw [show k + 1 - 1 - i = k - i by omega, show k - (k - i) = i by omega, Nat.mul_comm])
theorem cv_zero {N da db k : Nat} {a b : Nat → Nat} (ha : ∀ j, da < j → j < N → a j = 0) (hb : ∀ j, db < j → j < N → b j = 0) (h : da + db < k) (hk : k < N) : cv a b k = 0 := SUM_0 (fun i hi => by
  by_cases h1 : da < i
  · rw [ha i h1 (by omega), Nat.zero_mul]
  · rw [hb (k - i) (by omega) (by omega), Nat.mul_zero])
theorem cv_congr {a b a' b' : Nat → Nat} {k : Nat} (ha : ∀ j, j ≤ k → a j = a' j) (hb : ∀ j, j ≤ k → b j = b' j) : cv a b k = cv a' b' k := SUM_congr (fun i hi => by rw [ha i (by omega), hb (k - i) (by omega)])
theorem cv_le {a b : Nat → Nat} {k : Nat} (ha : ∀ j, j ≤ k → a j < 200) (hb : ∀ j, j ≤ k → b j < 200) : cv a b k ≤ (k + 1) * 39601 := SUM_le (fun i hi => Nat.mul_le_mul (show a i ≤ 199 by have := ha i (by omega); omega) (show b (k - i) ≤ 199 by have := hb (k - i) (by omega); omega))
theorem cv_none (b : Nat → Nat) (k : Nat) : cv (fun _ => 0) b k = 0 := SUM_0 (fun i hi => Nat.zero_mul _)
/-- a product under way: of the numbers a 0 .. a (I - 1) -/
def pc (a b : Nat → Nat) (I k : Nat) : Nat := SUM (fun i => if i ≤ k then a i * b (k - i) else 0) I
theorem pc_le (a b : Nat → Nat) {i k : Nat} (h : i ≤ k) : pc a b (i + 1) k = pc a b i k + a i * b (k - i) := by
  show pc a b i k + (if i ≤ k then a i * b (k - i) else 0) = _
  rw [if_pos h]
theorem pc_gt (a b : Nat → Nat) {i k : Nat} (h : k < i) : pc a b (i + 1) k = pc a b i k := by
  show pc a b i k + (if i ≤ k then a i * b (k - i) else 0) = _
  rw [if_neg (by omega)]; omega
theorem pc_full (a b : Nat → Nat) {N k : Nat} (h : k < N) : pc a b N k = cv a b k := by
  unfold pc
  rw [SUM_cut (a := k + 1) (by omega) (fun i h1 h2 => if_neg (by omega))]
  exact SUM_congr (fun i hi => if_pos (by omega))
theorem pc_bound {a b : Nat → Nat} {I k N : Nat} (hI : I ≤ N) (hk : k < N) (ha : ∀ j, j < N → a j < 200) (hb : ∀ j, j < N → b j < 200) : pc a b I k ≤ N * 39601 := Nat.le_trans (SUM_le (M := 39601) (fun i hi => by
  split
  · exact Nat.mul_le_mul (show a i ≤ 199 by have := ha i (by omega); omega) (show b (k - i) ≤ 199 by have := hb (k - i) (by omega); omega)
  · omega)) (Nat.mul_le_mul_right _ hI)
/-- Horner with polynomials: c (k - 1), .., c 0 behind v -/
def hp (P : Nat) (c b : Nat → Nat) : Nat → (Nat → Nat) → Nat → Nat
  | 0, v => v
  | k + 1, v => hp P c b k (fun j => (cv v b j + if j = 0 then c k else 0) % P)
theorem hp_lt {P N : Nat} {c b : Nat → Nat} (hP : 0 < P) : ∀ k v, (∀ j, j < N → v j < P) → ∀ j, j < N → hp P c b k v j < P
  | 0, v, h => h
  | k + 1, v, h => hp_lt hP k _ (fun j _ => Nat.mod_lt _ hP)
theorem hp_deg {P N db : Nat} {c b : Nat → Nat} (hb : ∀ j, db < j → j < N → b j = 0) : ∀ k v od, (∀ j, od < j → j < N → v j = 0) → ∀ j, od + k * db < j → j < N → hp P c b k v j = 0
  | 0, v, od, h, j, h1, h2 => h j (by omega) h2
  | k + 1, v, od, h, j, h1, h2 => hp_deg hb k _ (od + db) (fun j h3 h4 => by
    show (cv v b j + if j = 0 then c k else 0) % P = 0
    rw [cv_zero h hb h3 h4, if_neg (by omega)]; exact Nat.zero_mod P) j (by rw [Nat.succ_mul] at h1; omega) h2
theorem hp_first {P d : Nat} {c b : Nat → Nat} (hc : c d < P) : hp P c b (d + 1) (fun _ => 0) = hp P c b d (fun j => if j = 0 then c d else 0) := by
  rw [hp]
  congr 1
  funext j
  rw [cv_none]
  split
  · rw [Nat.zero_add, Nat.mod_eq_of_lt hc]
  · exact Nat.zero_mod P
