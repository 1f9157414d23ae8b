/-! the class's division, rounds -/
theorem md_sub {P a t b : Nat} (hP : 0 < P) (ht : t ≤ P) : md P ((a : Int) - (t : Int) * (b : Int)) = (a + (P - t) * b) % P := by
  have e : ((a + (P - t) * b : Nat) : Int) = ((a : Int) - (t : Int) * (b : Int)) + (P : Int) * (b : Int) := by
    rw [Int.natCast_add, Int.natCast_mul, Int.ofNat_sub ht, Int.sub_mul]; omega
  rw [← md_pos]
  unfold md
  rw [e, Int.add_mul_emod_self_left]
theorem fm_sub {P a t b : Nat} (hP : 1 < P) (hP2 : P < 200) (ha : a < P) (ht : t < P) (hb : b < P) : FJ9_floorMod_7cf53 (nI a - nI t * nI b) (nI P) = some (nI ((a + (P - t) * b) % P)) := by
  have h : t * b ≤ 199 * 199 := Nat.mul_le_mul (by omega) (by omega)
  have e : (nI a - nI t * nI b).toInt = (a : Int) - (t : Int) * (b : Int) := by
    rw [pk_mul, fb_subI (by rw [nI_toInt (by omega), nI_toInt (by omega)]; omega) (by rw [nI_toInt (by omega), nI_toInt (by omega)]; omega), nI_toInt (by omega), nI_toInt (by omega), Int.natCast_mul]
  rw [fm_I (by omega) hP2, e, md_sub (by omega) (by omega)]
theorem x_div40 {P e s w : Nat} {b r : Nat → Nat} {x2 x5 : Int32} {st bf : Nat → Int32} {k16 : Int32 → (Nat → Int32) → Option (Nat → Int32)} (hP : 1 < P) (hP2 : P < 200) (hes : e + s < 65) (hw : w = r (e + s) * x5.toNatClampNeg % P) (hb : ∀ j, j < 65 → b j < P) (hbf : ∀ j, j < 65 → bf j = nI (b j)) (hrP : ∀ j, j < 65 → r j < P) (hs : ∀ j, j < 65 → st j = nI (r j)) : ∃ st', FX4_divide_L40 k16 x2 (nI e) x5 (nI (e + s)) (nI w) (nI P) 65 65 bf FU 0 st = k16 (pI (e + s)) st' ∧ ∀ j, j < 65 → st' j = nI (dst P x5.toNatClampNeg b e s r j) := by
  have hwP : w < P := by rw [hw]; exact Nat.mod_lt _ (by omega)
  obtain ⟨s1, h1, e1⟩ := cloop0 (σ := Nat → Int32) e (by omega) (fun fuel i st => FX4_divide_L40 k16 x2 (nI e) x5 (nI (e + s)) (nI w) (nI P) 65 65 bf fuel i st) (fun st => k16 (pI (e + s)) (upd st (e + s) (nI w))) (fun i st => ∀ j, j < 65 → st j = nI (if s ≤ j ∧ j < s + i then (r j + (P - w) * b (j - s)) % P else r j)) st (fun j hj => by rw [hs j hj, if_neg (by omega)]) (fun fuel st h => by
    show FX4_divide_L40 _ _ _ _ _ _ _ _ _ _ _ _ _ = _
    rw [FX4_divide_L40, if_pos (Int32.le_refl _), gi_i (in_n (by omega) (by omega)), bd, pI_dec, cl_n (n := e + s) (by omega)]) (fun fuel i st hi h => by
    refine ⟨upd st (s + i) (nI ((r (s + i) + (P - w) * b i) % P)), fun j hj => ?_, ?_⟩
    · by_cases h3 : j = s + i
      · subst h3
        rw [upd_s, if_pos (by omega), show s + i - s = i by omega]
      · rw [upd_n h3, h j hj]
        by_cases h4 : s ≤ j ∧ j < s + i
        · rw [if_pos h4, if_pos (by omega)]
        · rw [if_neg h4, if_neg (by omega)]
    · show FX4_divide_L40 _ _ _ _ _ _ _ _ _ _ _ _ _ = FX4_divide_L40 _ _ _ _ _ _ _ _ _ _ _ _ _
      have e6 : nI (e + s) - nI e + nI i = nI (s + i) := by rw [sub_n (by omega), nI_add, show e + s - e + i = s + i by omega]
      have g1 : ∀ {α : Type} (z : Option α), gi (nI (s + i)) 65 z = z := fun z => gi_i (in_n (by omega) (by omega))
      rw [FX4_divide_L40, if_neg (nI_ge hi (by omega)), e6, bd]
      simp only [g1]
      rw [gi_i (in_n (by omega) (by omega)), cl_n (n := s + i) (by omega), cl_n (n := i) (by omega), h (s + i) (by omega), if_neg (by omega), hbf i (by omega), ob_i (fm_sub hP hP2 (hrP _ (by omega)) hwP (hb i (by omega))), bd, nI_1])
  refine ⟨_, e1, fun j hj => ?_⟩
  unfold dst
  by_cases h2 : j = e + s
  · subst h2; rw [upd_s, if_pos rfl, ← hw]
  · rw [upd_n h2, h1 j hj, if_neg h2, ← hw]
    by_cases h3 : s ≤ j ∧ j < e + s
    · rw [if_pos h3, if_pos (by omega)]
    · rw [if_neg h3, if_neg (by omega)]
theorem pI_lt {e : Nat} (he : e < 2147483647) : pI e < nI e := by
  cases e with
  | zero => decide
  | succ k => show nI k < nI (k + 1); rw [lt_n (by omega) (by omega)]; omega
theorem x_divL {P e i : Nat} {b : Nat → Nat} {x2 : Int32} {bf : Nat → Int32} (hP : 1 < P) (hP2 : P < 200) (hi : i < P) (hb : ∀ j, j < 65 → b j < P) (hbf : ∀ j, j < 65 → bf j = nI (b j)) : ∀ s fuel (st : Nat → Int32) (r : Nat → Nat), e + s ≤ 65 → s < fuel → (∀ j, j < 65 → r j < P) → (∀ j, j < 65 → st j = nI (r j)) → ∃ st', FX4_divide_L16 x2 (nI e) (nI i) (nI P) 65 65 bf fuel (pI (e + s)) st = FX4_divide_L101 x2 (nI e) 65 FU 0 st' ∧ ∀ j, j < 65 → st' j = nI (dv P i b e s r j)
  | 0, fuel, st, r, h1, hf, hr, hs => by
    obtain ⟨f, rfl⟩ : ∃ f, fuel = f + 1 := ⟨fuel - 1, by omega⟩
    exact ⟨st, by rw [FX4_divide_L16, Nat.add_zero e, if_pos (pI_lt (by omega))], hs⟩
  | s + 1, fuel, st, r, h1, hf, hr, hs => by
    obtain ⟨f, rfl⟩ : ∃ f, fuel = f + 1 := ⟨fuel - 1, by omega⟩
    have ci : (nI i).toNatClampNeg = i := cl_n (by omega)
    obtain ⟨s1, e1, h2⟩ := x_div40 (e := e) (s := s) (x2 := x2) (x5 := nI i) (k16 := FX4_divide_L16 x2 (nI e) (nI i) (nI P) 65 65 bf f) hP hP2 (by omega) (rfl : r (e + s) * (nI i).toNatClampNeg % P = _) hb hbf hr hs
    rw [ci] at e1 h2
    obtain ⟨st', e2, h3⟩ := x_divL (e := e) (x2 := x2) hP hP2 hi hb hbf s f s1 (dst P i b e s r) (by omega) (by omega) (dst_lt (by omega) hr) h2
    refine ⟨st', ?_, h3⟩
    rw [FX4_divide_L16, show pI (e + (s + 1)) = nI (e + s) from rfl, if_neg (by rw [lt_n (by omega) (by omega)]; omega), gi_i (in_n (by omega) (by omega)), gd_i (ne0_n (by omega) (by omega)), cl_n (n := e + s) (by omega), hs (e + s) (by omega), mm hP hP2 (hr (e + s) (by omega)) hi, bd, e1]
    exact e2
theorem x_divide {P g : Nat} {x : (Nat → Nat) × Nat} {r : Nat → Nat} {rf bf : Nat → Int32} (h : PR P) (hx : RW P x) (hbf : ∀ j, j < 65 → bf j = nI (x.1 j)) (hrw : RW P (r, g)) (he : x.2 ≤ g) (hrf : ∀ j, j < 65 → rf j = nI (r j)) : ∃ st, FX4_divide (nI P) 65 rf 65 bf (nI g) (nI x.2) = some st ∧ ∀ j, j < 65 → st j = nI (quo P x.1 x.2 g r j) := by
  have hP := h.1
  have hP2 := h.2.1
  obtain ⟨x1, x2, x3, x4⟩ := hx
  obtain ⟨r1, r2, r3, r4⟩ := hrw
  have r1 : g ≤ 64 := r1
  have r2 : ∀ j, j < 65 → r j < P := r2
  obtain ⟨st, e1, h1⟩ := x_divL (e := x.2) (x2 := nI g) (by omega : 1 < P) hP2 (iv_lt (v := x.1 x.2) h) x2 hbf (g - x.2 + 1) FU rf r (by omega) (FU_big (by omega)) r2 hrf
  obtain ⟨s2, ⟨h2, h3⟩, e2⟩ := cloop0 (σ := Nat → Int32) 65 (by omega) (fun fuel i s => FX4_divide_L101 (nI g) (nI x.2) 65 fuel i s) (fun s => some s) (fun i s => (∀ j, j < i → s j = nI (quo P x.1 x.2 g r j)) ∧ ∀ j, i ≤ j → j < 65 → s j = nI (dv P (iv P (x.1 x.2)) x.1 x.2 (g - x.2 + 1) r j)) st ⟨fun j hj => by omega, fun j _ hj => h1 j hj⟩ (fun fuel s h2 => by
    show FX4_divide_L101 _ _ _ _ _ _ = _
    rw [FX4_divide_L101, if_pos (by decide)]) (fun fuel i s hi h2 => by
    obtain ⟨h2, h3⟩ := h2
    refine ⟨upd s i (nI (quo P x.1 x.2 g r i)), ⟨fun j hj => ?_, fun j hj hj2 => ?_⟩, ?_⟩
    · by_cases h : j = i
      · subst h; exact upd_s
      · rw [upd_n h]; exact h2 j (by omega)
    · rw [upd_n (by omega)]; exact h3 j (by omega) hj2
    · show FX4_divide_L101 _ _ _ _ _ _ = FX4_divide_L101 _ _ _ _ _ _
      rw [FX4_divide_L101, if_neg (show ¬ (Int32.ofNat 65) ≤ nI i from nI_ge (a := i) (b := 65) hi (by omega)), nI_add]
      by_cases h4 : i + x.2 ≤ g
      · rw [if_neg (by rw [lt_n (by omega) (by omega)]; omega), gi_i (in_n (by omega) (by omega)), FX4_divide_J131, gi_i (in_n (by omega) (by omega)), bd, nI_1, cl_n (n := i) (by omega), cl_n (n := i + x.2) (by omega), h3 _ (by omega) (by omega), quo, if_pos h4]
      · rw [if_pos (by rw [lt_n (by omega) (by omega)]; omega), FX4_divide_J131, gi_i (in_n (by omega) (by omega)), bd, nI_1, cl_n (n := i) (by omega), quo, if_neg h4]; rfl)
  refine ⟨s2, ?_, h2⟩
  rw [FX4_divide, gi_i (in_n (by omega) (by omega)), cl_n (n := x.2) (by omega), hbf _ (by omega), ob_i (x_inv h x4 (x2 _ (by omega)))]
  rw [show x.2 + (g - x.2 + 1) = g + 1 by omega] at e1
  exact e1.trans e2
