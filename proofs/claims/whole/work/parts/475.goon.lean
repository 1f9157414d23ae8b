/-! the model's goOn -/
theorem pc_same {a b : Nat → Nat} {i k : Nat} (h : a i = 0) : pc a b (i + 1) k = pc a b i k := by
  show pc a b i k + (if i ≤ k then a i * b (k - i) else 0) = _
  rw [h, Nat.zero_mul, ite_self]; rfl
theorem m_on64 {P i : Nat} {v b : Nat → Nat} {a d : Int32} {num don nex res : Nat → Int32} {k28 : Int32 → (Nat → Int32) → (Nat → Int32) → Option ((Nat → Int32) × (Nat → Int32) × (Nat → Int32))} {k55 : Int32 → (Nat → Int32) → Option ((Nat → Int32) × (Nat → Int32) × (Nat → Int32))} (hP : 1 < P) (hP2 : P < 200) (hi : i < 65) (hv : ∀ j, j < 65 → v j < P) (hb : ∀ j, j < 65 → b j < P) (hm : ∀ j, j < 65 → nex j = nI (v j)) (hn : ∀ j, j < 65 → don j = nI (b j)) (hl : ∀ k, k < 65 → res k = nI (pc v b i k % P)) : ∃ res', FX7_goOn_L64 k28 k55 a d (nI i) (nI P) num don nex FU 0 res = k55 (nI (i + 1)) res' ∧ ∀ k, k < 65 → res' k = nI (pc v b (i + 1) k % P) := by
  have ci : (nI i).toNatClampNeg = i := cl_n (by omega)
  have hvi := hv i hi
  by_cases h0 : v i = 0
  · refine ⟨res, ?_, fun k hk => by rw [pc_same h0]; exact hl k hk⟩
    obtain ⟨f, hf⟩ := FU_s 0 (by omega)
    rw [hf, FX7_goOn_L64, show nI i + 0 = nI (i + 0) from nI_add .., if_neg (show ¬ (65 : Int32) ≤ nI (i + 0) from nI_ge (a := i + 0) (b := 65) (by omega) (by omega)), gi_i (in_n hi (by omega)), ci, hm i hi, if_pos (by rw [h0]; rfl), FX7_goOn_J126, bd, nI_1]
  · obtain ⟨st, h1, e1⟩ := cloop0 (σ := Nat → Int32) (65 - i) (by omega) (fun fuel j st => FX7_goOn_L64 k28 k55 a d (nI i) (nI P) num don nex fuel j st) (fun st => k55 (nI (i + 1)) st) (fun j st => ∀ k, k < 65 → st k = nI (pc v b (if k < i + j then i + 1 else i) k % P)) res (fun k hk => by
      rw [hl k hk]
      by_cases h : k < i + 0
      · rw [if_pos h, pc_gt v b (by omega)]
      · rw [if_neg h]) (fun fuel st h1 => by
      show FX7_goOn_L64 _ _ _ _ _ _ _ _ _ _ _ _ = _
      rw [FX7_goOn_L64, nI_add, show i + (65 - i) = 65 by omega, if_pos (show (65 : Int32) ≤ nI 65 by decide), FX7_goOn_J126, bd, nI_1]) (fun fuel j st hj h1 => by
      have hbj := hb j (by omega)
      have h2 : v i * b j ≤ 199 * 199 := Nat.mul_le_mul (by omega) (by omega)
      have h3 := Nat.mod_lt (pc v b i (i + j)) (show 0 < P by omega)
      have es : st (i + j) = nI (pc v b i (i + j) % P) := by rw [h1 _ (by omega), if_neg (by omega)]
      refine ⟨upd st (i + j) (nI ((pc v b i (i + j) % P + v i * b j) % P)), fun k hk => ?_, ?_⟩
      · by_cases h : k = i + j
        · subst h
          rw [upd_s, if_pos (by omega), pc_le v b (by omega), show i + j - i = j by omega, Nat.mod_add_mod]
        · rw [upd_n h, h1 k hk]
          by_cases h4 : k < i + j
          · rw [if_pos h4, if_pos (by omega)]
          · rw [if_neg h4, if_neg (by omega)]
      · show FX7_goOn_L64 _ _ _ _ _ _ _ _ _ _ _ _ = FX7_goOn_L64 _ _ _ _ _ _ _ _ _ _ _ _
        rw [FX7_goOn_L64, nI_add, if_neg (show ¬ (65 : Int32) ≤ nI (i + j) from nI_ge (a := i + j) (b := 65) (by omega) (by omega))]
        have g1 : ∀ {α : Type} (z : Option α), gi (nI (i + j)) 65 z = z := fun z => gi_i (in_n (by omega) (by omega))
        have g2 : ∀ {α : Type} (z : Option α), gi (nI i) 65 z = z := fun z => gi_i (in_n (by omega) (by omega))
        have g3 : ∀ {α : Type} (z : Option α), gi (nI j) 65 z = z := fun z => gi_i (in_n (by omega) (by omega))
        simp only [g1, g2, g3]
        rw [ci, hm i hi, if_neg (ne0_n (by omega) (by omega)), gd_i (ne0_n (by omega) (by omega)), cl_n (n := i + j) (by omega), cl_n (n := j) (by omega), es, hn j (by omega), pk_mul, nI_add, irm_n (by omega) (by omega) (by omega), bd, nI_1])
    refine ⟨st, e1, fun k hk => ?_⟩
    rw [h1 k hk]
    by_cases h : k < i + (65 - i)
    · rw [if_pos h]
    · omega
theorem m_on55 {P : Nat} {v b : Nat → Nat} {a d : Int32} {num don nex res : Nat → Int32} {k28 : Int32 → (Nat → Int32) → (Nat → Int32) → Option ((Nat → Int32) × (Nat → Int32) × (Nat → Int32))} (hP : 1 < P) (hP2 : P < 200) (hv : ∀ j, j < 65 → v j < P) (hb : ∀ j, j < 65 → b j < P) (hm : ∀ j, j < 65 → nex j = nI (v j)) (hn : ∀ j, j < 65 → don j = nI (b j)) (hl : ∀ k, k < 65 → res k = 0) : ∃ res', FX7_goOn_L55 k28 a d (nI P) num don nex FU 0 res = FX7_goOn_L134 k28 a d (nI P) num don res' FU 0 nex ∧ ∀ k, k < 65 → res' k = nI (cv v b k % P) := by
  obtain ⟨st, h1, e1⟩ := cloop0 (σ := Nat → Int32) 65 (by omega) (fun fuel i st => FX7_goOn_L55 k28 a d (nI P) num don nex fuel i st) (fun st => FX7_goOn_L134 k28 a d (nI P) num don st FU 0 nex) (fun i st => ∀ k, k < 65 → st k = nI (pc v b i k % P)) res (fun k hk => by
    rw [hl k hk, pc, SUM, Nat.zero_mod]; rfl) (fun fuel st h1 => by
    show FX7_goOn_L55 _ _ _ _ _ _ _ _ _ _ = _
    rw [FX7_goOn_L55, if_pos (by decide)]) (fun fuel i st hi h1 => by
    obtain ⟨res', e, h2⟩ := m_on64 (a := a) (d := d) (num := num) (k28 := k28) (k55 := FX7_goOn_L55 k28 a d (nI P) num don nex fuel) hP hP2 hi hv hb hm hn h1
    refine ⟨res', h2, ?_⟩
    show FX7_goOn_L55 _ _ _ _ _ _ _ _ _ _ = FX7_goOn_L55 _ _ _ _ _ _ _ _ _ _
    rw [FX7_goOn_L55, if_neg (show ¬ (65 : Int32) ≤ nI i from nI_ge (a := i) (b := 65) hi (by omega)), e])
  exact ⟨st, e1, fun k hk => by rw [h1 k hk, pc_full v b hk]⟩
theorem m_on134 {P a d : Nat} {w c : Nat → Nat} {num don nex res : Nat → Int32} {k28 : Int32 → (Nat → Int32) → (Nat → Int32) → Option ((Nat → Int32) × (Nat → Int32) × (Nat → Int32))} (hP : 1 < P) (hP2 : P < 200) (ha : a < 10) (hd : d < 5) (hcd : c d < P) (hc : CR num (5 * a) c) (hl : ∀ k, k < 65 → res k = nI (w k)) (hw : ∀ k, k < 65 → w k < P) : ∃ nex', FX7_goOn_L134 k28 (nI a) (nI d) (nI P) num don res FU 0 nex = k28 (pI d) nex' res ∧ ∀ k, k < 65 → nex' k = nI ((w k + if k = 0 then c d else 0) % P) := by
  obtain ⟨st, h1, e1⟩ := cloop0 (σ := Nat → Int32) 65 (by omega) (fun fuel i st => FX7_goOn_L134 k28 (nI a) (nI d) (nI P) num don res fuel i st) (fun st => k28 (pI d) (upd st 0 (nI ((w 0 + c d) % P))) res) (fun i st => ∀ k, k < i → st k = nI (w k)) nex (fun k hk => by omega) (fun fuel st h1 => by
    have h0 := hw 0 (by omega)
    show FX7_goOn_L134 _ _ _ _ _ _ _ _ _ _ = _
    have g0 : ∀ {α : Type} (z : Option α), gi 0 65 z = z := fun z => gi_i (show vp_in 0 65 from in_n (i := 0) (by omega) (by omega))
    rw [FX7_goOn_L134, if_pos (by decide)]
    simp only [g0]
    rw [i5, gi_i (in_n (by omega) (by omega)), gd_i (ne0_n (by omega) (by omega)), bd, pI_dec, cl_n (n := 5 * a + d) (by omega), hc d hd, show Int32.toNatClampNeg 0 = 0 from rfl, h1 0 (by omega), nI_add, irm_n (by omega) (by omega) (by omega)]) (fun fuel i st hi h1 => by
    refine ⟨upd st i (nI (w i)), fun k hk => ?_, ?_⟩
    · by_cases h : k = i
      · subst h; exact upd_s
      · rw [upd_n h]; exact h1 k (by omega)
    · show FX7_goOn_L134 _ _ _ _ _ _ _ _ _ _ = FX7_goOn_L134 _ _ _ _ _ _ _ _ _ _
      rw [FX7_goOn_L134, if_neg (show ¬ (65 : Int32) ≤ nI i from nI_ge (a := i) (b := 65) hi (by omega)), gi_i (in_n (by omega) (by omega)), gi_i (in_n (by omega) (by omega)), bd, nI_1, cl_n (n := i) (by omega), hl i hi])
  refine ⟨_, e1, fun k hk => ?_⟩
  by_cases h : k = 0
  · subst h; rw [upd_s, if_pos rfl]
  · rw [upd_n h, h1 k hk, if_neg h, Nat.add_zero (w k), Nat.mod_eq_of_lt (hw k hk)]
theorem m_onL {P a : Nat} {c b : Nat → Nat} {num don : Nat → Int32} (hP : 1 < P) (hP2 : P < 200) (ha : a < 10) (hcP : ∀ k, k < 5 → c k < P) (hc : CR num (5 * a) c) (hb : ∀ j, j < 65 → b j < P) (hn : ∀ j, j < 65 → don j = nI (b j)) : ∀ k fuel (st res : Nat → Int32) (v : Nat → Nat), k ≤ 5 → k < fuel → (∀ j, j < 65 → v j < P) → (∀ j, j < 65 → st j = nI (v j)) → ∃ st' res', FX7_goOn_L28 (nI a) (nI P) num don fuel (pI k) st res = FX7_goOn_L194 st' res' FU 0 don ∧ ∀ j, j < 65 → st' j = nI (hp P c b k v j)
  | 0, fuel, st, res, v, _, hf, _, hs => by
    obtain ⟨f, rfl⟩ : ∃ f, fuel = f + 1 := ⟨fuel - 1, by omega⟩
    exact ⟨st, res, by rw [FX7_goOn_L28, if_pos pI_0], hs⟩
  | k + 1, fuel, st, res, v, hk, hf, hv, hs => by
    obtain ⟨f, rfl⟩ : ∃ f, fuel = f + 1 := ⟨fuel - 1, by omega⟩
    obtain ⟨l1, h1, e1⟩ := cloop0 (σ := Nat → Int32) 65 (by omega) (fun fuel i s => FX7_goOn_L34 (FX7_goOn_L28 (nI a) (nI P) num don f) (nI a) (nI k) (nI P) num don st fuel i s) (fun s => FX7_goOn_L55 (FX7_goOn_L28 (nI a) (nI P) num don f) (nI a) (nI k) (nI P) num don st FU 0 s) (fun i s => ∀ j, j < i → s j = 0) res (fun j hj => by omega) (fun fuel s h1 => by
      show FX7_goOn_L34 _ _ _ _ _ _ _ _ _ _ = _
      rw [FX7_goOn_L34, if_pos (by decide)]) (fun fuel i s hi h1 => ⟨upd s i 0, fun j hj => by
        by_cases h : j = i
        · subst h; exact upd_s
        · rw [upd_n h]; exact h1 j (by omega), by
        show FX7_goOn_L34 _ _ _ _ _ _ _ _ _ _ = FX7_goOn_L34 _ _ _ _ _ _ _ _ _ _
        rw [FX7_goOn_L34, if_neg (show ¬ (65 : Int32) ≤ nI i from nI_ge (a := i) (b := 65) hi (by omega)), gi_i (in_n (by omega) (by omega)), bd, nI_1, cl_n (n := i) (by omega)]⟩)
    obtain ⟨l2, e2, h2⟩ := m_on55 (a := nI a) (d := nI k) (num := num) (k28 := FX7_goOn_L28 (nI a) (nI P) num don f) hP hP2 hv hb hs hn h1
    obtain ⟨st1, e3, h3⟩ := m_on134 (nex := st) (don := don) (k28 := FX7_goOn_L28 (nI a) (nI P) num don f) (w := fun j => cv v b j % P) hP hP2 ha (by omega : k < 5) (hcP k (by omega)) hc h2 (fun j _ => Nat.mod_lt _ (by omega))
    obtain ⟨st', res', e4, h4⟩ := m_onL hP hP2 ha hcP hc hb hn k f st1 l2 (fun j => (cv v b j + if j = 0 then c k else 0) % P) (by omega) (by omega) (fun j _ => Nat.mod_lt _ (by omega)) (fun j hj => by rw [h3 j hj, Nat.mod_add_mod])
    refine ⟨st', res', ?_, h4⟩
    rw [FX7_goOn_L28, show pI (k + 1) = nI k from rfl, if_neg (nI_pos (by omega)), e1, e2, e3]
    exact e4
theorem m_goOn {P a d : Nat} {c b : Nat → Nat} {deg num don nex res : Nat → Int32} (hP : 1 < P) (hP2 : P < 200) (ha : a < 10) (hd : deg a = nI d) (hd4 : d ≤ 4) (hcP : ∀ k, k < 5 → c k < P) (hc : CR num (5 * a) c) (hb : ∀ j, j < 65 → b j < P) (hn : ∀ j, j < 65 → don j = nI (b j)) : ∃ don' nex' res', FX7_goOn (nI P) deg num don nex res (nI a) = some (don', nex', res') ∧ ∀ j, j < 65 → don' j = nI (hp P c b (d + 1) (fun _ => 0) j) := by
  obtain ⟨m1, h1, e1⟩ := cloop0 (σ := Nat → Int32) 65 (by omega) (fun fuel i s => FX7_goOn_L2 (nI a) (nI P) deg num don res fuel i s) (fun s => FX7_goOn_L28 (nI a) (nI P) num don FU (nI d) s res) (fun i s => ∀ j, j < i → s j = 0) nex (fun j hj => by omega) (fun fuel s h1 => by
    show FX7_goOn_L2 _ _ _ _ _ _ _ _ _ = _
    rw [FX7_goOn_L2, if_pos (by decide), gi_i (in_n ha (by omega)), bd, cl_n (n := a) (by omega), hd]) (fun fuel i s hi h1 => ⟨upd s i 0, fun j hj => by
      by_cases h : j = i
      · subst h; exact upd_s
      · rw [upd_n h]; exact h1 j (by omega), by
      show FX7_goOn_L2 _ _ _ _ _ _ _ _ _ = FX7_goOn_L2 _ _ _ _ _ _ _ _ _
      rw [FX7_goOn_L2, if_neg (show ¬ (65 : Int32) ≤ nI i from nI_ge (a := i) (b := 65) hi (by omega)), gi_i (in_n (by omega) (by omega)), bd, nI_1, cl_n (n := i) (by omega)]⟩)
  obtain ⟨st', res', e, h2⟩ := m_onL hP hP2 ha hcP hc hb hn (d + 1) FU m1 res (fun _ => 0) (by omega) (FU_big (by omega)) (fun j _ => by omega) h1
  obtain ⟨d2, h3, e3⟩ := cloop0 (σ := Nat → Int32) 65 (by omega) (fun fuel i s => FX7_goOn_L194 st' res' fuel i s) (fun s => some (s, st', res')) (fun i s => ∀ j, j < i → s j = st' j) don (fun j hj => by omega) (fun fuel s h1 => by
    show FX7_goOn_L194 _ _ _ _ _ = _
    rw [FX7_goOn_L194, if_pos (by decide)]) (fun fuel i s hi h1 => ⟨upd s i (st' i), fun j hj => by
      by_cases h : j = i
      · subst h; exact upd_s
      · rw [upd_n h]; exact h1 j (by omega), by
      show FX7_goOn_L194 _ _ _ _ _ = FX7_goOn_L194 _ _ _ _ _
      rw [FX7_goOn_L194, if_neg (show ¬ (65 : Int32) ≤ nI i from nI_ge (a := i) (b := 65) hi (by omega)), gi_i (in_n (by omega) (by omega)), gi_i (in_n (by omega) (by omega)), bd, nI_1, cl_n (n := i) (by omega)]⟩)
  refine ⟨d2, st', res', ?_, fun j hj => by rw [h3 j hj]; exact h2 j hj⟩
  rw [FX7_goOn, e1]
  exact e.trans e3
