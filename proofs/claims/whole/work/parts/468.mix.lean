/-! the model's composition -/
theorem m_mix61 {P i : Nat} {v b : Nat → Nat} {a d : Int32} {num mad inn lon : Nat → Int32} {k27 : Int32 → (Nat → Int32) → (Nat → Int32) → Option ((Nat → Int32) × (Nat → Int32))} {k53 : Int32 → (Nat → Int32) → Option ((Nat → Int32) × (Nat → Int32))} (hP : 1 < P) (hP2 : P < 200) (hi : i < 5) (hv : ∀ j, j < 5 → v j < P) (hb : ∀ j, j < 5 → b j < P) (hm : ∀ j, j < 5 → mad j = nI (v j)) (hn : ∀ j, j < 5 → inn j = nI (b j)) (hl : ∀ k, k < 5 → lon k = nI (pc v b i k % P)) : ∃ lon', FX7_mix_L61 k27 k53 a d (nI i) (nI P) num mad inn FU 0 lon = k53 (nI (i + 1)) lon' ∧ ∀ k, k < 5 → lon' k = nI (pc v b (i + 1) k % P) := by
  obtain ⟨st, h1, e1⟩ := cloop0 (σ := Nat → Int32) (5 - i) (by omega) (fun fuel j st => FX7_mix_L61 k27 k53 a d (nI i) (nI P) num mad inn fuel j st) (fun st => k53 (nI (i + 1)) st) (fun j st => ∀ k, k < 5 → st k = nI (pc v b (if k < i + j then i + 1 else i) k % P)) lon (fun k hk => by
    rw [hl k hk]
    by_cases h : k < i + 0
    · rw [if_pos h, pc_gt v b (by omega)]
    · rw [if_neg h]) (fun fuel st h1 => by
    show FX7_mix_L61 _ _ _ _ _ _ _ _ _ _ _ _ = _
    rw [FX7_mix_L61, nI_add, show i + (5 - i) = 5 by omega, if_pos (show (5 : Int32) ≤ nI 5 by decide), bd, nI_1]) (fun fuel j st hj h1 => by
    have ha := hv i hi
    have hbj := hb j (by omega)
    have h2 : v i * b j ≤ 199 * 199 := Nat.mul_le_mul (by omega) (by omega)
    have h3 := Nat.mod_lt (pc v b i (i + j)) (show 0 < P by omega)
    have es : st (i + j) = nI (pc v b i (i + j) % P) := by rw [h1 _ (by omega), if_neg (by omega)]
    refine ⟨upd st (i + j) (nI ((pc v b i (i + j) % P + v i * b j) % P)), fun k hk => ?_, ?_⟩
    · by_cases h : k = i + j
      · subst h
        rw [upd_s, if_pos (by omega), pc_le v b (by omega), show i + j - i = j by omega, Nat.mod_add_mod]
      · rw [upd_n h, h1 k hk]
        by_cases h4 : k < i + j
        · rw [if_pos h4, if_pos (by omega)]
        · rw [if_neg h4, if_neg (by omega)]
    · show FX7_mix_L61 _ _ _ _ _ _ _ _ _ _ _ _ = FX7_mix_L61 _ _ _ _ _ _ _ _ _ _ _ _
      rw [FX7_mix_L61, nI_add, if_neg (show ¬ (5 : Int32) ≤ nI (i + j) from nI_ge (a := i + j) (b := 5) (by omega) (by omega))]
      have g1 : ∀ {α : Type} (z : Option α), gi (nI (i + j)) 5 z = z := fun z => gi_i (in_n (by omega) (by omega))
      have g2 : ∀ {α : Type} (z : Option α), gi (nI i) 5 z = z := fun z => gi_i (in_n (by omega) (by omega))
      have g3 : ∀ {α : Type} (z : Option α), gi (nI j) 5 z = z := fun z => gi_i (in_n (by omega) (by omega))
      simp only [g1, g2, g3]
      rw [gd_i (ne0_n (by omega) (by omega)), cl_n (n := i + j) (by omega), cl_n (n := i) (by omega), cl_n (n := j) (by omega), es, hm i hi, hn j (by omega), pk_mul, nI_add, irm_n (by omega) (by omega) (by omega), bd, nI_1])
  refine ⟨st, e1, fun k hk => ?_⟩
  rw [h1 k hk]
  by_cases h : k < i + (5 - i)
  · rw [if_pos h]
  · omega
theorem m_mix53 {P : Nat} {v b : Nat → Nat} {a d : Int32} {num mad inn lon : Nat → Int32} {k27 : Int32 → (Nat → Int32) → (Nat → Int32) → Option ((Nat → Int32) × (Nat → Int32))} (hP : 1 < P) (hP2 : P < 200) (hv : ∀ j, j < 5 → v j < P) (hb : ∀ j, j < 5 → b j < P) (hm : ∀ j, j < 5 → mad j = nI (v j)) (hn : ∀ j, j < 5 → inn j = nI (b j)) (hl : ∀ k, k < 5 → lon k = 0) : ∃ lon', FX7_mix_L53 k27 a d (nI P) num mad inn FU 0 lon = FX7_mix_L121 k27 a d (nI P) num inn lon' FU 0 mad ∧ ∀ k, k < 5 → lon' k = nI (cv v b k % P) := by
  obtain ⟨st, h1, e1⟩ := cloop0 (σ := Nat → Int32) 5 (by omega) (fun fuel i st => FX7_mix_L53 k27 a d (nI P) num mad inn fuel i st) (fun st => FX7_mix_L121 k27 a d (nI P) num inn st FU 0 mad) (fun i st => ∀ k, k < 5 → st k = nI (pc v b i k % P)) lon (fun k hk => by
    rw [hl k hk, pc, SUM, Nat.zero_mod]; rfl) (fun fuel st h1 => by
    show FX7_mix_L53 _ _ _ _ _ _ _ _ _ _ = _
    rw [FX7_mix_L53, if_pos (by decide)]) (fun fuel i st hi h1 => by
    obtain ⟨lon', e, h2⟩ := m_mix61 (a := a) (d := d) (num := num) (k27 := k27) (k53 := FX7_mix_L53 k27 a d (nI P) num mad inn fuel) hP hP2 hi hv hb hm hn h1
    refine ⟨lon', h2, ?_⟩
    show FX7_mix_L53 _ _ _ _ _ _ _ _ _ _ = FX7_mix_L53 _ _ _ _ _ _ _ _ _ _
    rw [FX7_mix_L53, if_neg (show ¬ (5 : Int32) ≤ nI i from nI_ge (a := i) (b := 5) hi (by omega)), e])
  exact ⟨st, e1, fun k hk => by rw [h1 k hk, pc_full v b hk]⟩
theorem m_mix121 {P a d : Nat} {w c : Nat → Nat} {num mad inn lon : Nat → Int32} {k27 : Int32 → (Nat → Int32) → (Nat → Int32) → Option ((Nat → Int32) × (Nat → Int32))} (hP : 1 < P) (hP2 : P < 200) (ha : a < 10) (hd : d < 5) (hcd : c d < P) (hc : CR num (5 * a) c) (hl : ∀ k, k < 5 → lon k = nI (w k)) (hw : ∀ k, k < 5 → w k < P) : ∃ mad', FX7_mix_L121 k27 (nI a) (nI d) (nI P) num inn lon FU 0 mad = k27 (pI d) mad' lon ∧ ∀ k, k < 5 → mad' k = nI ((w k + if k = 0 then c d else 0) % P) := by
  obtain ⟨st, h1, e1⟩ := cloop0 (σ := Nat → Int32) 5 (by omega) (fun fuel i st => FX7_mix_L121 k27 (nI a) (nI d) (nI P) num inn lon fuel i st) (fun st => k27 (pI d) st lon) (fun i st => ∀ k, k < i → st k = nI ((w k + if k = 0 then c d else 0) % P)) mad (fun k hk => by omega) (fun fuel st h1 => by
    show FX7_mix_L121 _ _ _ _ _ _ _ _ _ _ = _
    rw [FX7_mix_L121, if_pos (by decide), bd, pI_dec]) (fun fuel i st hi h1 => by
    have hwi := hw i hi
    refine ⟨upd st i (nI ((w i + if i = 0 then c d else 0) % P)), fun k hk => ?_, ?_⟩
    · by_cases h : k = i
      · subst h; exact upd_s
      · rw [upd_n h]; exact h1 k (by omega)
    · show FX7_mix_L121 _ _ _ _ _ _ _ _ _ _ = FX7_mix_L121 _ _ _ _ _ _ _ _ _ _
      rw [FX7_mix_L121, if_neg (show ¬ (5 : Int32) ≤ nI i from nI_ge (a := i) (b := 5) hi (by omega)), gi_i (in_n (by omega) (by omega))]
      by_cases h0 : i = 0
      · rw [if_pos (by rw [h0]; rfl), i5, gi_i (in_n (by omega) (by omega)), FX7_mix_J155, gd_i (ne0_n (by omega) (by omega)), gi_i (in_n (by omega) (by omega)), bd, nI_1, cl_n (n := i) (by omega), cl_n (n := 5 * a + d) (by omega), hl i hi, hc d hd, nI_add, irm_n (by omega) (by omega) (by omega), if_pos h0]
      · rw [if_neg (ne0_n (by omega) (by omega)), FX7_mix_J155, gd_i (ne0_n (by omega) (by omega)), gi_i (in_n (by omega) (by omega)), bd, nI_1, cl_n (n := i) (by omega), hl i hi, show nI (w i) + 0 = nI (w i + 0) from nI_add .., irm_n (by omega) (by omega) (by omega), if_neg h0])
  exact ⟨st, e1, h1⟩
theorem m_mixL {P a : Nat} {c b : Nat → Nat} {num inn : Nat → Int32} (hP : 1 < P) (hP2 : P < 200) (ha : a < 10) (hcP : ∀ k, k < 5 → c k < P) (hc : CR num (5 * a) c) (hb : ∀ j, j < 5 → b j < P) (hn : ∀ j, j < 5 → inn j = nI (b j)) : ∀ k fuel (st lon : Nat → Int32) (v : Nat → Nat), k ≤ 5 → k < fuel → (∀ j, j < 5 → v j < P) → (∀ j, j < 5 → st j = nI (v j)) → ∃ st' lon', FX7_mix_L27 (nI a) (nI P) num inn fuel (pI k) st lon = some (st', lon') ∧ ∀ j, j < 5 → st' j = nI (hp P c b k v j)
  | 0, fuel, st, lon, v, _, hf, _, hs => by
    obtain ⟨f, rfl⟩ : ∃ f, fuel = f + 1 := ⟨fuel - 1, by omega⟩
    exact ⟨st, lon, by rw [FX7_mix_L27, if_pos pI_0], hs⟩
  | k + 1, fuel, st, lon, v, hk, hf, hv, hs => by
    obtain ⟨f, rfl⟩ : ∃ f, fuel = f + 1 := ⟨fuel - 1, by omega⟩
    obtain ⟨l1, h1, e1⟩ := cloop0 (σ := Nat → Int32) 5 (by omega) (fun fuel i s => FX7_mix_L33 (FX7_mix_L27 (nI a) (nI P) num inn f) (nI a) (nI k) (nI P) num st inn fuel i s) (fun s => FX7_mix_L53 (FX7_mix_L27 (nI a) (nI P) num inn f) (nI a) (nI k) (nI P) num st inn FU 0 s) (fun i s => ∀ j, j < i → s j = 0) lon (fun j hj => by omega) (fun fuel s h1 => by
      show FX7_mix_L33 _ _ _ _ _ _ _ _ _ _ = _
      rw [FX7_mix_L33, if_pos (by decide)]) (fun fuel i s hi h1 => ⟨upd s i 0, fun j hj => by
        by_cases h : j = i
        · subst h; exact upd_s
        · rw [upd_n h]; exact h1 j (by omega), by
        show FX7_mix_L33 _ _ _ _ _ _ _ _ _ _ = FX7_mix_L33 _ _ _ _ _ _ _ _ _ _
        rw [FX7_mix_L33, if_neg (show ¬ (5 : Int32) ≤ nI i from nI_ge (a := i) (b := 5) hi (by omega)), gi_i (in_n (by omega) (by omega)), bd, nI_1, cl_n (n := i) (by omega)]⟩)
    obtain ⟨l2, e2, h2⟩ := m_mix53 (a := nI a) (d := nI k) (num := num) (k27 := FX7_mix_L27 (nI a) (nI P) num inn f) hP hP2 hv hb hs hn h1
    obtain ⟨st1, e3, h3⟩ := m_mix121 (mad := st) (inn := inn) (k27 := FX7_mix_L27 (nI a) (nI P) num inn f) (w := fun j => cv v b j % P) hP hP2 ha (by omega : k < 5) (hcP k (by omega)) hc h2 (fun j _ => Nat.mod_lt _ (by omega))
    obtain ⟨st', lon', e4, h4⟩ := m_mixL hP hP2 ha hcP hc hb hn k f st1 l2 (fun j => (cv v b j + if j = 0 then c k else 0) % P) (by omega) (by omega) (fun j _ => Nat.mod_lt _ (by omega)) (fun j hj => by rw [h3 j hj, Nat.mod_add_mod])
    refine ⟨st', lon', ?_, h4⟩
    rw [FX7_mix_L27, show pI (k + 1) = nI k from rfl, if_neg (nI_pos (by omega)), e1, e2, e3]
    exact e4
theorem m_mix {P a d : Nat} {c b : Nat → Nat} {deg num inn mad lon : Nat → Int32} (hP : 1 < P) (hP2 : P < 200) (ha : a < 10) (hd : deg a = nI d) (hd4 : d ≤ 4) (hcP : ∀ k, k < 5 → c k < P) (hc : CR num (5 * a) c) (hb : ∀ j, j < 5 → b j < P) (hn : ∀ j, j < 5 → inn j = nI (b j)) : ∃ mad' lon', FX7_mix (nI P) deg num mad inn lon (nI a) = some (mad', lon') ∧ ∀ j, j < 5 → mad' j = nI (hp P c b (d + 1) (fun _ => 0) j) := by
  obtain ⟨m1, h1, e1⟩ := cloop0 (σ := Nat → Int32) 5 (by omega) (fun fuel i s => FX7_mix_L2 (nI a) (nI P) deg num inn lon fuel i s) (fun s => FX7_mix_L27 (nI a) (nI P) num inn FU (nI d) s lon) (fun i s => ∀ j, j < i → s j = 0) mad (fun j hj => by omega) (fun fuel s h1 => by
    show FX7_mix_L2 _ _ _ _ _ _ _ _ _ = _
    rw [FX7_mix_L2, if_pos (by decide), gi_i (in_n ha (by omega)), bd, cl_n (n := a) (by omega), hd]) (fun fuel i s hi h1 => ⟨upd s i 0, fun j hj => by
      by_cases h : j = i
      · subst h; exact upd_s
      · rw [upd_n h]; exact h1 j (by omega), by
      show FX7_mix_L2 _ _ _ _ _ _ _ _ _ = FX7_mix_L2 _ _ _ _ _ _ _ _ _
      rw [FX7_mix_L2, if_neg (show ¬ (5 : Int32) ≤ nI i from nI_ge (a := i) (b := 5) hi (by omega)), gi_i (in_n (by omega) (by omega)), bd, nI_1, cl_n (n := i) (by omega)]⟩)
  obtain ⟨st', lon', e, h2⟩ := m_mixL hP hP2 ha hcP hc hb hn (d + 1) FU m1 lon (fun _ => 0) (by omega) (FU_big (by omega)) (fun j _ => by omega) h1
  exact ⟨st', lon', by rw [FX7_mix, e1]; exact e, h2⟩
