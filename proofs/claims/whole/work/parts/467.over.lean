/-! the class's product and composition -/
theorem imn_n {a b : Nat} (ha : a < 2147483648) (hb : b < 2147483648) : imn (nI a) (nI b) = nI (if b < a then b else a) := by
  rw [imn]
  by_cases h : b < a
  · rw [if_pos (by rw [lt_n hb ha]; exact h), if_pos h]
  · rw [if_neg (by rw [lt_n hb ha]; exact h), if_neg h]
theorem imx_sub {a b : Nat} (ha : a < 2147483648) (hb : b < 2147483648) : imx 0 (nI a - nI b) = nI (a - b) := by
  by_cases h : b ≤ a
  · rw [sub_n h, imx]
    by_cases h2 : a - b = 0
    · rw [h2]; rfl
    · rw [if_pos (show (0 : Int32) < nI (a - b) by rw [show (0 : Int32) = nI 0 from rfl, lt_n (by omega) (by omega)]; omega)]
  · rw [imx, if_neg (fun e => by
      have := Int32.lt_iff_toInt_lt.mp e
      rw [fb_subI (by rw [nI_toInt (by omega), nI_toInt (by omega)]; omega) (by rw [nI_toInt (by omega), nI_toInt (by omega)]; omega), nI_toInt (by omega), nI_toInt (by omega)] at this
      have : (0 : Int) < (a : Int) - (b : Int) := this
      omega), show a - b = 0 by omega]; rfl
/-- one number of a product -/
theorem x_mul1 {P N bN rd db k : Nat} {v b : Nat → Nat} {rf bf : Nat → Int32} {k12 : Int32 → (Nat → Int32) → Option (Nat → Int32)} (hP : 1 < P) (hP2 : P < 200) (hN : N ≤ 65) (hbN : db < bN) (hbN2 : bN ≤ 65) (hrd : rd < N) (hk : k < N) (hv : ∀ j, j < N → v j < P) (hb : ∀ j, j < bN → b j < P) (hr : ∀ j, j ≤ k → rf j = nI (v j)) (hbf : ∀ j, j < bN → bf j = nI (b j)) (hv0 : ∀ j, rd < j → j < N → v j = 0) (hb0 : ∀ j, db < j → j < N → b j = 0) : FX2_multiply_L30 k12 (nI rd) (nI db) (nI P) (nI k) N rf bN bf FU 0 (nI (k - rd)) = k12 (pI k) (upd rf k (nI (cv v b k % P))) := by
  have hterm : ∀ i, i ≤ k → i ≤ db → b i * v (k - i) ≤ 39601 := fun i h1 h2 => Nat.mul_le_mul (show b i ≤ 199 by have := hb i (by omega); omega) (show v (k - i) ≤ 199 by have := hv (k - i) (by omega); omega)
  have htop : ∀ n, n ≤ k + 1 → n ≤ db + 1 → SUM (fun i => b i * v (k - i)) n ≤ 65 * 39601 := fun n h1 h2 => Nat.le_trans (SUM_le (fun i hi => hterm i (by omega) (by omega))) (Nat.mul_le_mul_right _ (by omega))
  let T := (if db < k then db else k) + 1
  have hT : T = (if db < k then db else k) + 1 := rfl
  have hT1 : T ≤ k + 1 := by rw [hT]; split <;> omega
  have hT2 : T ≤ db + 1 := by rw [hT]; split <;> omega
  have hT3 : T = k + 1 ∨ T = db + 1 := by rw [hT]; split <;> omega
  have hlo : SUM (fun i => b i * v (k - i)) (k - rd) = 0 ∨ T < k - rd := by
    by_cases h : T < k - rd
    · exact Or.inr h
    · exact Or.inl (SUM_0 (fun i hi => by rw [hv0 (k - i) (by omega) (by omega), Nat.mul_zero]))
  have hfull : SUM (fun i => b i * v (k - i)) T = cv v b k := by
    rw [cv_comm]
    exact (SUM_cut (a := T) hT1 (fun i h1 h2 => by rw [hb0 i (by omega) (by omega), Nat.zero_mul])).symm
  have hend : ∀ fuel i S, T ≤ i → i ≤ 65 → S % P = cv v b k % P → S ≤ 65 * 39601 → FX2_multiply_L30 k12 (nI rd) (nI db) (nI P) (nI k) N rf bN bf (fuel + 1) (nI S) (nI i) = k12 (pI k) (upd rf k (nI (cv v b k % P))) := fun fuel i S h1 h2 h3 h4 => by
    rw [FX2_multiply_L30, imn_n (by omega) (by omega), if_pos (by rw [lt_n (by omega) (by omega)]; omega), gd_i (ne0_n (by omega) (by omega)), gi_i (in_n hk (by omega)), cl_n (n := k) (by omega), bd, pI_dec, irm_n (by omega) (by omega) (by omega), h3]
  by_cases hbig : T < k - rd
  · have hz : cv v b k = 0 := by
      rw [← hfull]
      exact SUM_0 (fun i hi => by rw [hv0 (k - i) (by omega) (by omega), Nat.mul_zero])
    obtain ⟨f, hf⟩ := FU_s 0 (by omega)
    rw [hf]
    exact hend _ _ 0 (by omega) (by omega) (by rw [hz]) (by omega)
  · have hlo : SUM (fun i => b i * v (k - i)) (k - rd) = 0 := hlo.resolve_right hbig
    obtain ⟨st, h1, e1⟩ := cloop1 (σ := Int32) (k - rd) T (by omega) (by omega) (fun fuel i st => FX2_multiply_L30 k12 (nI rd) (nI db) (nI P) (nI k) N rf bN bf fuel st i) (fun st => k12 (pI k) (upd rf k (nI (cv v b k % P)))) (fun i st => st = nI (SUM (fun i => b i * v (k - i)) i)) 0 (by rw [hlo]; rfl) (fun fuel st h1 => by
      subst h1
      show FX2_multiply_L30 _ _ _ _ _ _ _ _ _ _ _ _ = _
      exact hend fuel T _ (by omega) (by omega) (by rw [hfull]) (htop T hT1 hT2)) (fun fuel i st hi h1 => by
      subst h1
      refine ⟨_, rfl, ?_⟩
      have h2 := hterm i (by omega) (by omega)
      have h3 := htop i (by omega) (by omega)
      show FX2_multiply_L30 _ _ _ _ _ _ _ _ _ _ _ _ = FX2_multiply_L30 _ _ _ _ _ _ _ _ _ _ _ _
      rw [FX2_multiply_L30, imn_n (by omega) (by omega), if_neg (by rw [lt_n (by omega) (by omega)]; omega), sub_n (by omega), gi_i (in_n (by omega) (by omega)), gi_i (in_n (by omega) (by omega)), cl_n (n := k - i) (by omega), cl_n (n := i) (by omega), hr (k - i) (by omega), hbf i (by omega), pk_mul, nI_add, bd, bd, nI_1, SUM, Nat.mul_comm (v (k - i))])
    exact e1
theorem x_mulL {P N bN rd db : Nat} {v b : Nat → Nat} {bf : Nat → Int32} (hP : 1 < P) (hP2 : P < 200) (hN : N ≤ 65) (hbN : db < bN) (hbN2 : bN ≤ 65) (hrd : rd < N) (hv : ∀ j, j < N → v j < P) (hb : ∀ j, j < bN → b j < P) (hbf : ∀ j, j < bN → bf j = nI (b j)) (hv0 : ∀ j, rd < j → j < N → v j = 0) (hb0 : ∀ j, db < j → j < N → b j = 0) : ∀ k fuel (st : Nat → Int32), k ≤ N → k < fuel → (∀ j, j < k → st j = nI (v j)) → ∃ st', FX2_multiply_L12 (nI rd) (nI db) (nI P) N bN bf fuel (pI k) st = some st' ∧ (∀ j, j < k → st' j = nI (cv v b j % P)) ∧ ∀ j, k ≤ j → st' j = st j
  | 0, fuel, st, _, hf, _ => by
    obtain ⟨f, rfl⟩ : ∃ f, fuel = f + 1 := ⟨fuel - 1, by omega⟩
    exact ⟨st, by rw [FX2_multiply_L12, if_pos pI_0], fun j hj => by omega, fun j _ => rfl⟩
  | k + 1, fuel, st, hk, hf, hs => by
    obtain ⟨f, rfl⟩ : ∃ f, fuel = f + 1 := ⟨fuel - 1, by omega⟩
    obtain ⟨st', e, h1, h2⟩ := x_mulL hP hP2 hN hbN hbN2 hrd hv hb hbf hv0 hb0 k f (upd st k (nI (cv v b k % P))) (by omega) (by omega) (fun j hj => by rw [upd_n (by omega)]; exact hs j (by omega))
    refine ⟨st', ?_, fun j hj => ?_, fun j hj => ?_⟩
    · rw [FX2_multiply_L12, show pI (k + 1) = nI k from rfl, if_neg (nI_pos (by omega)), imx_sub (by omega) (by omega), bd, x_mul1 hP hP2 hN hbN hbN2 hrd (by omega) hv hb (fun j hj => hs j (by omega)) hbf hv0 hb0]
      exact e
    · by_cases h : j = k
      · subst h; rw [h2 j (Nat.le_refl j), upd_s]
      · exact h1 j (by omega)
    · rw [h2 j (by omega), upd_n (by omega)]
theorem x_mul {P N bN rd db : Nat} {v b : Nat → Nat} {st bf : Nat → Int32} (hP : 1 < P) (hP2 : P < 200) (hN : N ≤ 65) (hbN : db < bN) (hbN2 : bN ≤ 65) (hrd : rd + db < N) (hv : ∀ j, j < N → v j < P) (hb : ∀ j, j < bN → b j < P) (hs : ∀ j, j < N → st j = nI (v j)) (hbf : ∀ j, j < bN → bf j = nI (b j)) (hv0 : ∀ j, rd < j → j < N → v j = 0) (hb0 : ∀ j, db < j → j < N → b j = 0) : ∃ st', FX2_multiply N st bN bf (nI rd) (nI db) (nI P) = some st' ∧ ∀ j, j < N → st' j = nI (cv v b j % P) := by
  obtain ⟨st', e, h1, h2⟩ := x_mulL hP hP2 hN hbN hbN2 (by omega) hv hb hbf hv0 hb0 (rd + db + 1) FU st (by omega) (FU_big (by omega)) (fun j hj => hs j (by omega))
  refine ⟨st', ?_, fun j hj => ?_⟩
  · have e1 : Int32.ofNat N - 1 = nI (N - 1) := sub_n (a := N) (b := 1) (by omega)
    rw [FX2_multiply, e1, nI_add, imn_n (by omega) (by omega), if_neg (by omega), bd]
    exact e
  · by_cases h : j < rd + db + 1
    · exact h1 j h
    · rw [h2 j (by omega), hs j hj, hv0 j (by omega) hj, cv_zero hv0 hb0 (by omega) hj, Nat.zero_mod]
theorem x_overL {P N bN db : Nat} {c b : Nat → Nat} {pf bf : Nat → Int32} (hP : 1 < P) (hP2 : P < 200) (hN : N ≤ 65) (hN0 : 0 < N) (hbN : db < bN) (hbN2 : bN ≤ 65) (hc : ∀ k, k < 5 → c k < P) (hpf : ∀ k, k < 5 → pf k = nI (c k)) (hb : ∀ j, j < bN → b j < P) (hbf : ∀ j, j < bN → bf j = nI (b j)) (hb0 : ∀ j, db < j → j < N → b j = 0) : ∀ k fuel od (st : Nat → Int32) (v : Nat → Nat), k ≤ 5 → k < fuel → od + k * db < N → (∀ j, j < N → v j < P) → (∀ j, j < N → st j = nI (v j)) → (∀ j, od < j → j < N → v j = 0) → ∃ st', FX2_putOver_L28 (nI db) 5 (nI P) pf bN bf N fuel (nI od) (pI k) st = some st' ∧ ∀ j, j < N → st' j = nI (hp P c b k v j)
  | 0, fuel, od, st, v, _, hf, _, _, hs, _ => by
    obtain ⟨f, rfl⟩ : ∃ f, fuel = f + 1 := ⟨fuel - 1, by omega⟩
    exact ⟨st, by rw [FX2_putOver_L28, if_pos pI_0], hs⟩
  | k + 1, fuel, od, st, v, hk, hf, hod, hv, hs, hv0 => by
    obtain ⟨f, rfl⟩ : ∃ f, fuel = f + 1 := ⟨fuel - 1, by omega⟩
    rw [Nat.succ_mul] at hod
    obtain ⟨s1, e1, h1⟩ := x_mul hP hP2 hN hbN hbN2 (by omega : od + db < N) hv hb hs hbf hv0 hb0
    have hck := hc k (by omega)
    have hx : ∀ j, j < N → upd s1 0 (nI ((cv v b 0 % P + c k) % P)) j = nI ((cv v b j + if j = 0 then c k else 0) % P) := fun j hj => by
      by_cases h : j = 0
      · subst h; rw [upd_s, if_pos rfl, Nat.mod_add_mod]
      · rw [upd_n h, h1 j hj, if_neg h, Nat.add_zero (cv v b j)]
    obtain ⟨st', e, h2⟩ := x_overL hP hP2 hN hN0 hbN hbN2 hc hpf hb hbf hb0 k f (od + db) (upd s1 0 (nI ((cv v b 0 % P + c k) % P))) (fun j => (cv v b j + if j = 0 then c k else 0) % P) (by omega) (by omega) (by omega) (fun j _ => Nat.mod_lt _ (by omega)) hx (fun j h3 h4 => by
      show (cv v b j + if j = 0 then c k else 0) % P = 0
      rw [cv_zero hv0 hb0 h3 h4, if_neg (by omega)]; exact Nat.zero_mod P)
    refine ⟨st', ?_, h2⟩
    have hm := Nat.mod_lt (cv v b 0) (show 0 < P by omega)
    rw [FX2_putOver_L28, show pI (k + 1) = nI k from rfl, if_neg (nI_pos (by omega)), ob_i e1, nI_add, bd]
    have g0 : ∀ {α : Type} (z : Option α), gi 0 N z = z := fun z => gi_i (in_n (i := 0) hN0 (by omega))
    have gk : ∀ {α : Type} (z : Option α), gi (nI k) 5 z = z := fun z => gi_i (in_n (by omega) (by omega))
    simp only [g0, gk]
    rw [gd_i (ne0_n (by omega) (by omega)), cl_n (n := k) (by omega), hpf k (by omega), show Int32.toNatClampNeg 0 = 0 from rfl, h1 0 hN0, nI_add, irm_n (by omega) (by omega) (by omega), bd, pI_dec]
    exact e
theorem x_over {P N bN db d : Nat} {c b : Nat → Nat} {pf bf tf : Nat → Int32} (hP : 1 < P) (hP2 : P < 200) (hN : N ≤ 65) (hd : d ≤ 4) (hdN : d * db < N) (hbN : db < bN) (hbN2 : bN ≤ 65) (hc : ∀ k, k < 5 → c k < P) (hpf : ∀ k, k < 5 → pf k = nI (c k)) (hb : ∀ j, j < bN → b j < P) (hbf : ∀ j, j < bN → bf j = nI (b j)) (hb0 : ∀ j, db < j → j < N → b j = 0) : ∃ st', FX2_putOver 5 (nI P) (nI d) pf bN bf N tf (nI db) = some st' ∧ ∀ j, j < N → st' j = nI (hp P c b (d + 1) (fun _ => 0) j) := by
  obtain ⟨t1, e1, h1⟩ := j_fill (n := N) (by omega) tf 0
  have hcd := hc d (by omega)
  obtain ⟨st', e, h2⟩ := x_overL hP hP2 hN (by omega) hbN hbN2 hc hpf hb hbf hb0 d FU 0 (upd t1 0 (nI (c d))) (fun j => if j = 0 then c d else 0) (by omega) (FU_big (by omega)) (by omega) (fun j _ => by
    show (if j = 0 then c d else 0) < P
    split <;> omega) (fun j hj => by
    by_cases h : j = 0
    · subst h; rw [upd_s]; rfl
    · rw [upd_n h, h1 j hj, if_neg h]; rfl) (fun j h3 _ => if_neg (by omega))
  refine ⟨st', ?_, fun j hj => by rw [hp_first hcd]; exact h2 j hj⟩
  have e5 : nI d - 1 = pI d := by
    rw [← pI_dec d]; exact Int32.sub_eq_add_neg ..
  rw [FX2_putOver, ob_i e1, gi_i (in_n (by omega) (by omega)), gi_i (show vp_in 0 N from in_n (i := 0) (by omega) (by omega)), e5, bd, cl_n (n := d) (by omega), hpf d (by omega)]
  exact e
