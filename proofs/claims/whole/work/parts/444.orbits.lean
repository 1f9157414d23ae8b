/-! the class's Orbits: a step on 0 .. N - 1; what leaves comes to N, and stays there -/
def NXr (nx : Nat → Int32) (N : Nat) (g : Nat → Nat) : Prop := ∀ i, i < N → (g i < N ∧ nx i = nI (g i)) ∨ (g i = N ∧ (nx i < 0 ∨ nI N ≤ nx i))
def Gone (g : Nat → Nat) (N x : Nat) : Prop := ∃ k, it g k x = N
/-- what is told of y: tail a, period b, entry c -/
def DnV (g : Nat → Nat) (N y : Nat) (a b c : Int32) : Prop := (Gone g N y → a = 0 ∧ b = 0 ∧ c = nI y) ∧ (¬ Gone g N y → a = nI (tT g y) ∧ b = nI (tR g y) ∧ c = nI (it g (tT g y) y))
theorem gone_g {g : Nat → Nat} {N y : Nat} (hy : y < N) : Gone g N y ↔ Gone g N (g y) := by
  constructor
  · rintro ⟨k, hk⟩
    cases k with
    | zero => exact absurd hk (Nat.ne_of_lt hy)
    | succ k => exact ⟨k, by rw [← it_succ']; exact hk⟩
  · rintro ⟨k, hk⟩
    exact ⟨k + 1, by rw [it_succ']; exact hk⟩
theorem NXr_lt {nx : Nat → Int32} {N : Nat} {g : Nat → Nat} (h : NXr nx N g) (hN : g N = N) : ∀ x, x < N + 1 → g x < N + 1 := by
  intro x hx
  rcases Nat.lt_or_ge x N with q | q
  · rcases h x q with ⟨h1, -⟩ | ⟨h1, -⟩ <;> omega
  · have : x = N := by omega
    subst this; omega
theorem inside_t {N v : Nat} (hv : v < N) (hN : N < 100000) : FX1_isInside (nI N) (nI v) = some true := by
  rw [FX1_isInside, if_neg (nI_pos (by omega)), if_neg (nI_ge hv (by omega))]
theorem inside_f {N : Nat} {v : Int32} (h : v < 0 ∨ nI N ≤ v) : FX1_isInside (nI N) v = some false := by
  rw [FX1_isInside]
  by_cases hc : v < 0
  · rw [if_pos hc]
  · rw [if_neg hc, if_pos (h.resolve_left hc)]
theorem bi_t : ¬ bi true = 0 := by decide
theorem bi_f : bi false = 0 := by decide
theorem hang_ok {N y : Nat} {g : Nat → Nat} {nx tl pe en : Nat → Int32} (hN : N < 1000) (hgN : g N = N) (hnx : NXr nx N g) (hy : y < N) (hd : g y < N → DnV g N (g y) (tl (g y)) (pe (g y)) (en (g y))) (hr : ∀ i, it g i (g y) ≠ y) : ∃ a b c, FX1_hang N (nI N) nx tl pe en (nI y) = some (upd tl y a, upd pe y b, upd en y c) ∧ DnV g N y a b c := by
  have hlt := NXr_lt hnx hgN
  rcases hnx y hy with ⟨h1, h2⟩ | ⟨h1, h2⟩
  · obtain ⟨d1, d2⟩ := hd h1
    by_cases hG : Gone g N (g y)
    · obtain ⟨e1, e2, e3⟩ := d1 hG
      refine ⟨0, 0, nI y, ?_, fun _ => ⟨rfl, rfl, rfl⟩, fun h => absurd ((gone_g hy).mpr hG) h⟩
      rw [FX1_hang, gi_i (in_n hy (by omega)), cl_n (by omega), bd, h2, ob_i (inside_t h1 (by omega)), if_neg bi_t, gi_i (in_n h1 (by omega)), cl_n (by omega), if_pos e2, FX1_hang_J65, gi_i (in_n hy (by omega)), gi_i (in_n hy (by omega)), gi_i (in_n hy (by omega)), cl_n (by omega)]
    · obtain ⟨e1, e2, e3⟩ := d2 hG
      have hTP := tTP hlt (show g y < N + 1 by omega)
      have hst := TP_step (x := y) hTP (fun i _ => hr i)
      have hle := t_le hlt (show g y < N + 1 by omega)
      refine ⟨nI (tT g (g y)) + 1, nI (tR g (g y)), nI (it g (tT g (g y)) (g y)), ?_, fun h => absurd ((gone_g hy).mp h) hG, fun _ => ⟨by rw [nI_1, tT_of hst], by rw [tR_of hst], by rw [tT_of hst, it_succ']⟩⟩
      rw [FX1_hang, gi_i (in_n hy (by omega)), cl_n (by omega), bd, h2, ob_i (inside_t h1 (by omega)), if_neg bi_t, gi_i (in_n h1 (by omega)), cl_n (by omega), if_neg (by rw [e2]; exact nI_ne0 hTP.1 (by omega)), gi_i (in_n h1 (by omega)), gi_i (in_n hy (by omega)), gi_i (in_n h1 (by omega)), gi_i (in_n hy (by omega)), gi_i (in_n h1 (by omega)), gi_i (in_n hy (by omega)), e1, e2, e3]
  · have hG : Gone g N y := ⟨1, h1⟩
    refine ⟨0, 0, nI y, ?_, fun _ => ⟨rfl, rfl, rfl⟩, fun h => absurd hG h⟩
    rw [FX1_hang, gi_i (in_n hy (by omega)), cl_n (by omega), bd, ob_i (inside_f h2), if_pos bi_f, FX1_hang_J65, gi_i (in_n hy (by omega)), gi_i (in_n hy (by omega)), gi_i (in_n hy (by omega)), cl_n (by omega)]
theorem close_first {N at' k f : Nat} {x : Nat} {g : Nat → Nat} {tl pe en pa : Nat → Int32} (hN : N < 1000) (hk : k ≤ N) (hfk : f < k) (hlt : ∀ i, i < k → it g i x < N) (hpa : ∀ i, i < k → pa i = nI (it g i x)) (hdis : ∀ i j, i < j → j < k → it g i x ≠ it g j x) (hat : it g f x = at') : ∀ m fuel, f + m < k → m < fuel → FX1_closeRing_L8 (nI at') (nI k) N tl pe en pa fuel (nI (f + m)) = FX1_closeRing_J28 (nI k) (nI f) N tl pe en pa := by
  intro m
  induction m with
  | zero =>
    intro fuel h1 h2
    obtain ⟨fu, rfl⟩ : ∃ f, fuel = f + 1 := ⟨fuel - 1, by omega⟩
    simp only [Nat.add_zero]
    rw [FX1_closeRing_L8]
    by_cases hz : f = 0
    · subst hz; rw [if_pos (by decide)]
    · rw [if_neg (nI_nle (by omega) (by omega)), gi_i (in_n (by omega) (by omega)), cl_n (by omega), hpa f hfk, if_pos (by rw [hat])]
  | succ m ih =>
    intro fuel h1 h2
    obtain ⟨fu, rfl⟩ : ∃ f, fuel = f + 1 := ⟨fuel - 1, by omega⟩
    have hl1 := hlt f hfk
    have hl2 := hlt (f + (m + 1)) h1
    rw [FX1_closeRing_L8, if_neg (nI_nle (by omega) (by omega)), gi_i (in_n (by omega) (by omega)), cl_n (by omega), hpa _ h1, if_neg (by rw [eq_n (by omega) (by omega), ← hat]; exact fun e => hdis f (f + (m + 1)) (by omega) h1 e.symm), bd, show f + (m + 1) = (f + m) + 1 by omega, pk_m1]
    exact ih fu (by omega) (by omega)
/-- what a ring's points are told; all else stays -/
def RingSet (g : Nat → Nat) (x f k : Nat) (tl pe en tl' pe' en' : Nat → Int32) (n : Nat) : Prop := (∀ i, f ≤ i → i < n → tl' (it g i x) = 0 ∧ pe' (it g i x) = nI (k - f) ∧ en' (it g i x) = nI (it g i x)) ∧ ∀ y, (∀ i, f ≤ i → i < n → it g i x ≠ y) → tl' y = tl y ∧ pe' y = pe y ∧ en' y = en y
theorem close_ok {N k f : Nat} {x : Nat} {g : Nat → Nat} {tl pe en pa : Nat → Int32} (hN : N < 1000) (hk : k ≤ N) (hfk : f < k) (hlt : ∀ i, i < k → it g i x < N) (hpa : ∀ i, i < k → pa i = nI (it g i x)) (hdis : ∀ i j, i < j → j < k → it g i x ≠ it g j x) : ∃ tl' pe' en', FX1_closeRing N tl pe en pa (nI (it g f x)) (nI k) = some (nI f, tl', pe', en') ∧ RingSet g x f k tl pe en tl' pe' en' k := by
  rw [FX1_closeRing, show (1 : Int32) = nI 1 from rfl, sub_n (by omega), show imx (nI (k - 1)) 0 = nI (k - 1) by rw [imx, if_neg (nI_pos (by omega))], bd, show k - 1 = f + (k - 1 - f) by omega, close_first hN hk hfk hlt hpa hdis rfl (k - 1 - f) FU (by omega) (FU_big (by omega)), FX1_closeRing_J28]
  obtain ⟨⟨tl', pe', en'⟩, h1, e1⟩ := cloop1 (σ := (Nat → Int32) × (Nat → Int32) × (Nat → Int32)) f k (by omega) (by omega) (fun fuel i st => FX1_closeRing_L31 (nI k) (nI f) N pa fuel i st.1 st.2.1 st.2.2) (fun st => some (nI f, st.1, st.2.1, st.2.2)) (fun i st => f ≤ i ∧ RingSet g x f k tl pe en st.1 st.2.1 st.2.2 i) (tl, pe, en) ⟨Nat.le_refl _, fun i a b => by omega, fun y _ => ⟨rfl, rfl, rfl⟩⟩ (fun fuel st h => by
    show FX1_closeRing_L31 _ _ _ _ _ _ _ _ _ = _
    rw [FX1_closeRing_L31, if_pos (Int32.le_refl _)]) (fun fuel i st hi h => by
    obtain ⟨hfi, h⟩ := h
    have hl := hlt i hi
    refine ⟨(upd st.1 (it g i x) 0, upd st.2.1 (it g i x) (nI (k - f)), upd st.2.2 (it g i x) (nI (it g i x))), ⟨by omega, fun j a b => ?_, fun y hy => ?_⟩, ?_⟩
    · show upd _ _ _ _ = _ ∧ upd _ _ _ _ = _ ∧ upd _ _ _ _ = _
      by_cases hji : j = i
      · subst hji; exact ⟨upd_s, upd_s, upd_s⟩
      · have hne : it g j x ≠ it g i x := hdis j i (by omega) hi
        rw [upd_n hne, upd_n hne, upd_n hne]; exact h.1 j a (by omega)
    · show upd _ _ _ _ = _ ∧ upd _ _ _ _ = _ ∧ upd _ _ _ _ = _
      have hne : y ≠ it g i x := fun e => hy i hfi (by omega) e.symm
      rw [upd_n hne, upd_n hne, upd_n hne]; exact h.2 y (fun j a b => hy j a (by omega))
    · show FX1_closeRing_L31 _ _ _ _ _ _ _ _ _ = FX1_closeRing_L31 _ _ _ _ _ _ _ _ _
      rw [FX1_closeRing_L31, if_neg (nI_ge hi (by omega)), gi_i (in_n (by omega) (by omega)), cl_n (by omega), hpa i hi, gi_i (in_n (by omega) (by omega)), gi_i (in_n (by omega) (by omega)), gi_i (in_n (by omega) (by omega)), gi_i (in_n (by omega) (by omega)), gi_i (in_n (by omega) (by omega)), gi_i (in_n (by omega) (by omega)), bd, cl_n (by omega), nI_1, sub_n (by omega)])
  exact ⟨tl', pe', en', e1, h1.2⟩
/-- the points told rightly, but those in S, which are open; the unseen -/
def PI (g : Nat → Nat) (N : Nat) (S : Nat → Prop) (tl pe en : Nat → Int32) : Prop := (∀ y, y < N → ¬ S y → pe y = -1 ∨ (DnV g N y (tl y) (pe y) (en y) ∧ (g y < N → DnV g N (g y) (tl (g y)) (pe (g y)) (en (g y))))) ∧ ∀ y, S y → y < N ∧ pe y = -2
theorem DnV_seen {g : Nat → Nat} {N y : Nat} {a b c : Int32} (hN : N < 1000) (hlt : ∀ x, x < N + 1 → g x < N + 1) (hy : y < N) (h : DnV g N y a b c) : b ≠ -1 ∧ b ≠ -2 := by
  by_cases hG : Gone g N y
  · rw [(h.1 hG).2.1]; decide
  · rw [(h.2 hG).2.1]
    have h1 := t_le hlt (show y < N + 1 by omega)
    have h2 : ¬ nI (tR g y) < 0 := nI_pos (by omega)
    exact ⟨fun e => h2 (by rw [e]; decide), fun e => h2 (by rw [e]; decide)⟩
theorem PI_way {g : Nat → Nat} {N : Nat} {S : Nat → Prop} {tl pe en : Nat → Int32} (hN : N < 1000) (hlt : ∀ x, x < N + 1 → g x < N + 1) (hgN : g N = N) (h : PI g N S tl pe en) {z : Nat} (hz : z < N) (hd : DnV g N z (tl z) (pe z) (en z)) : ∀ k, it g k z = N ∨ (it g k z < N ∧ DnV g N (it g k z) (tl (it g k z)) (pe (it g k z)) (en (it g k z)))
  | 0 => Or.inr ⟨hz, hd⟩
  | k + 1 => by
    rcases PI_way hN hlt hgN h hz hd k with q | ⟨q1, q2⟩
    · exact Or.inl (by show g _ = N; rw [q, hgN])
    · have hs := DnV_seen hN hlt q1 q2
      have hS : ¬ S (it g k z) := fun hS => hs.2 (h.2 _ hS).2
      rcases h.1 _ q1 hS with e | ⟨-, e⟩
      · exact absurd e hs.1
      · have := hlt _ (show it g k z < N + 1 by omega)
        rcases Nat.lt_or_ge (g (it g k z)) N with c | c
        · exact Or.inr ⟨c, e c⟩
        · exact Or.inl (by show g _ = N; omega)
/-- the path's points are hung on, from its end back -/
theorem hang_loop {N x : Nat} {g : Nat → Nat} {nx pa : Nat → Int32} (hN : N < 1000) (hgN : g N = N) (hnx : NXr nx N g) : ∀ m fuel tl pe en, m < fuel → m ≤ N → (∀ i, i < m → it g i x < N) → (∀ i j, i < j → j < m → it g i x ≠ it g j x) → (∀ i, i < m → pa i = nI (it g i x)) → PI g N (fun y => ∃ i, i < m ∧ it g i x = y) tl pe en → (it g m x < N → DnV g N (it g m x) (tl (it g m x)) (pe (it g m x)) (en (it g m x))) → ∃ tl' pe' en', FX1_walkFrom_L95 N (nI N) nx pa fuel (pI m) tl pe en = some (tl', pe', en', pa) ∧ PI g N (fun _ => False) tl' pe' en' ∧ (∀ y, y < N → DnV g N y (tl y) (pe y) (en y) → DnV g N y (tl' y) (pe' y) (en' y)) ∧ ∀ i, i ≤ m → it g i x < N → DnV g N (it g i x) (tl' (it g i x)) (pe' (it g i x)) (en' (it g i x)) := by
  have hlt := NXr_lt hnx hgN
  intro m
  induction m with
  | zero =>
    intro fuel tl pe en h1 h2 h3 h4 h5 h6 h7
    obtain ⟨f, rfl⟩ : ∃ f, fuel = f + 1 := ⟨fuel - 1, by omega⟩
    refine ⟨tl, pe, en, by rw [FX1_walkFrom_L95, if_pos pI_0], ⟨fun y hy _ => h6.1 y hy (fun ⟨i, hi, _⟩ => by omega), fun y h => h.elim⟩, fun y _ h => h, fun i hi hl => ?_⟩
    have : i = 0 := by omega
    subst this
    exact h7 hl
  | succ m ih =>
    intro fuel tl pe en h1 h2 h3 h4 h5 h6 h7
    obtain ⟨f, rfl⟩ : ∃ f, fuel = f + 1 := ⟨fuel - 1, by omega⟩
    have hy := h3 m (by omega)
    have hyS : pe (it g m x) = -2 := (h6.2 _ ⟨m, by omega, rfl⟩).2
    have hr : ∀ i, it g i (g (it g m x)) ≠ it g m x := by
      intro i e
      have hl : g (it g m x) < N ∨ g (it g m x) = N := by have := hlt _ (show it g m x < N + 1 by omega); omega
      rcases hl with hl | hl
      · rcases PI_way hN hlt hgN h6 hl (h7 hl) i with q | ⟨q1, q2⟩
        · omega
        · rw [e] at q2
          exact (DnV_seen hN hlt hy q2).2 hyS
      · have hs : ∀ k, it g k N = N := fun k => by
          induction k with
          | zero => rfl
          | succ k ih => show g _ = N; rw [ih, hgN]
        rw [hl, hs] at e
        omega
    obtain ⟨a, b, c, e1, e2⟩ := hang_ok (tl := tl) (pe := pe) (en := en) hN hgN hnx hy (fun hl => h7 hl) hr
    have hother : ∀ z, z ≠ it g m x → upd tl (it g m x) a z = tl z ∧ upd pe (it g m x) b z = pe z ∧ upd en (it g m x) c z = en z := fun z hz => ⟨upd_n hz, upd_n hz, upd_n hz⟩
    have hkeep : ∀ z, z < N → DnV g N z (tl z) (pe z) (en z) → DnV g N z (upd tl (it g m x) a z) (upd pe (it g m x) b z) (upd en (it g m x) c z) := by
      intro z hz hd
      have hne : z ≠ it g m x := fun e => by subst e; exact (DnV_seen hN hlt hz hd).2 hyS
      obtain ⟨o1, o2, o3⟩ := hother z hne
      rw [o1, o2, o3]; exact hd
    have hself : DnV g N (it g m x) (upd tl (it g m x) a (it g m x)) (upd pe (it g m x) b (it g m x)) (upd en (it g m x) c (it g m x)) := by rw [upd_s, upd_s, upd_s]; exact e2
    obtain ⟨tl', pe', en', r1, r2, r3, r4⟩ := ih f (upd tl (it g m x) a) (upd pe (it g m x) b) (upd en (it g m x) c) (by omega) (by omega) (fun i hi => h3 i (by omega)) (fun i j hij hj => h4 i j hij (by omega)) (fun i hi => h5 i (by omega)) ⟨fun z hz hS => by
      by_cases hzy : z = it g m x
      · subst hzy
        exact Or.inr ⟨hself, fun hl => hkeep _ hl (h7 hl)⟩
      · obtain ⟨o1, o2, o3⟩ := hother z hzy
        rcases h6.1 z hz (fun ⟨i, hi, hie⟩ => by
          by_cases him : i = m
          · subst him; exact hzy hie.symm
          · exact hS ⟨i, by omega, hie⟩) with q | ⟨q1, q2⟩
        · exact Or.inl (by rw [o2]; exact q)
        · exact Or.inr ⟨by rw [o1, o2, o3]; exact q1, fun hl => hkeep _ hl (q2 hl)⟩, fun z ⟨i, hi, hie⟩ => by
      have hz := h6.2 z ⟨i, by omega, hie⟩
      have hne : z ≠ it g m x := fun e => h4 i m hi (by omega) (by rw [hie, e])
      exact ⟨hz.1, by rw [(hother z hne).2.1]; exact hz.2⟩⟩ (fun _ => hself)
    refine ⟨tl', pe', en', ?_, r2, fun y hy' hd => r3 y hy' (hkeep y hy' hd), fun i hi hl => ?_⟩
    · rw [FX1_walkFrom_L95, show pI (m + 1) = nI m from rfl, if_neg (nI_pos (by omega)), gi_i (in_n (by omega) (by omega)), cl_n (by omega), h5 m (by omega), ob_i e1, bd, pI_dec]
      exact r1
    · by_cases him : i ≤ m
      · exact r4 i him hl
      · have : i = m + 1 := by omega
        subst this
        exact r3 _ hl (hkeep _ hl (h7 hl))
/-- an Int32 at the step's point s -/
def AtV (N : Nat) (z : Nat) (v : Int32) : Prop := (z < N ∧ v = nI z) ∨ (z = N ∧ (v < 0 ∨ nI N ≤ v))
theorem walk_end {N x k : Nat} {g : Nat → Nat} {nx tl pe en pa : Nat → Int32} {v : Int32} (hN : N < 1000) (hgN : g N = N) (hnx : NXr nx N g) (hx : x < N) (hk : k ≤ N) (hl : ∀ i, i < k → it g i x < N) (hdis : ∀ i j, i < j → j < k → it g i x ≠ it g j x) (hpa : ∀ i, i < k → pa i = nI (it g i x)) (hPI : PI g N (fun y => ∃ i, i < k ∧ it g i x = y) tl pe en) (hv : AtV N (it g k x) v) (hend : it g k x < N → pe (it g k x) ≠ -1) : ∃ tl' pe' en' pa', FX1_walkFrom_J58 (nI k) v N (nI N) nx tl pe en pa = some (tl', pe', en', pa') ∧ PI g N (fun _ => False) tl' pe' en' ∧ (∀ y, y < N → DnV g N y (tl y) (pe y) (en y) → DnV g N y (tl' y) (pe' y) (en' y)) ∧ DnV g N x (tl' x) (pe' x) (en' x) := by
  have hlt := NXr_lt hnx hgN
  have hsub : ∀ m, m ≤ N → (nI m - 1 : Int32) = pI m := fun m _ => by
    cases m with
    | zero => rfl
    | succ m => exact nI_pred m
  rcases hv with ⟨hz, rfl⟩ | ⟨hz, hv⟩
  · by_cases ho : ∃ f, f < k ∧ it g f x = it g k x
    · obtain ⟨f, hf, hfe⟩ := ho
      have hop : pe (it g k x) = -2 := (hPI.2 _ ⟨f, hf, hfe⟩).2
      obtain ⟨tl1, pe1, en1, c1, c2, c3⟩ := close_ok (tl := tl) (pe := pe) (en := en) hN hk hf hl hpa hdis
      have hTP : TP g x f (k - f) := ⟨by omega, by rw [show f + (k - f) = k by omega]; exact hfe.symm, fun i j hij hj => hdis i j hij (by omega)⟩
      have hring : ∀ i, f ≤ i → it g i x < N := fun i hi => by
        rw [TP_mod hTP hi]
        have := Nat.mod_lt (i - f) (show 0 < k - f by omega)
        exact hl _ (by omega)
      have hDn : ∀ i, f ≤ i → i < k → DnV g N (it g i x) (tl1 (it g i x)) (pe1 (it g i x)) (en1 (it g i x)) := fun i hi hik => by
        have hR := TP_ring hTP hi
        obtain ⟨d1, d2, d3⟩ := c2 i hi hik
        refine ⟨fun ⟨q, hq⟩ => ?_, fun _ => ⟨by rw [d1, tT_of hR]; rfl, by rw [d2, tR_of hR], by rw [d3, tT_of hR]; rfl⟩⟩
        rw [← it_add] at hq
        have := hring (q + i) (by omega)
        omega
      have hkeep : ∀ y, y < N → DnV g N y (tl y) (pe y) (en y) → DnV g N y (tl1 y) (pe1 y) (en1 y) := fun y hy hd => by
        have hs := DnV_seen hN hlt hy hd
        obtain ⟨o1, o2, o3⟩ := c3 y (fun i _ hi e => hs.2 (hPI.2 y ⟨i, hi, e⟩).2)
        rw [o1, o2, o3]; exact hd
      obtain ⟨tl', pe', en', r1, r2, r3, r4⟩ := hang_loop (x := x) (pa := pa) hN hgN hnx f FU tl1 pe1 en1 (FU_big (by omega)) (by omega) (fun i hi => hl i (by omega)) (fun i j hij hj => hdis i j hij (by omega)) (fun i hi => hpa i (by omega)) ⟨fun y hy hS => by
        by_cases hr : ∃ i, f ≤ i ∧ i < k ∧ it g i x = y
        · obtain ⟨i, h1, h2, rfl⟩ := hr
          refine Or.inr ⟨hDn i h1 h2, fun _ => ?_⟩
          by_cases hik : i + 1 < k
          · exact hDn (i + 1) (by omega) hik
          · have : g (it g i x) = it g f x := by rw [hfe]; show it g (i + 1) x = _; congr 1; omega
            rw [this]; exact hDn f (Nat.le_refl _) hf
        · obtain ⟨o1, o2, o3⟩ := c3 y (fun i h1 h2 e => hr ⟨i, h1, h2, e⟩)
          rcases hPI.1 y hy (fun ⟨i, hi, e⟩ => by
            by_cases hif : i < f
            · exact hS ⟨i, hif, e⟩
            · exact hr ⟨i, by omega, hi, e⟩) with q | ⟨q1, q2⟩
          · exact Or.inl (by rw [o2]; exact q)
          · exact Or.inr ⟨by rw [o1, o2, o3]; exact q1, fun hgl => hkeep _ hgl (q2 hgl)⟩, fun y ⟨i, hi, e⟩ => by
        have hz := hPI.2 y ⟨i, by omega, e⟩
        obtain ⟨o1, o2, o3⟩ := c3 y (fun j h1 h2 e2 => hdis i j (by omega) h2 (e.trans e2.symm))
        exact ⟨hz.1, by rw [o2]; exact hz.2⟩⟩ (fun _ => hDn f (Nat.le_refl _) hf)
      refine ⟨tl', pe', en', pa, ?_, r2, fun y hy hd => r3 y hy (hkeep y hy hd), r4 0 (by omega) hx⟩
      rw [FX1_walkFrom_J58, ob_i (inside_t hz (by omega)), if_neg bi_t, gi_i (in_n hz (by omega)), cl_n (by omega), if_pos hop, ← hfe, ob_i c1, FX1_walkFrom_J87, hsub f (by omega), bd]
      exact r1
    · have hnS : ¬ ∃ i, i < k ∧ it g i x = it g k x := ho
      have hd : DnV g N (it g k x) (tl (it g k x)) (pe (it g k x)) (en (it g k x)) := by
        rcases hPI.1 _ hz hnS with q | ⟨q, -⟩
        · exact absurd q (hend hz)
        · exact q
      obtain ⟨tl', pe', en', r1, r2, r3, r4⟩ := hang_loop (x := x) (pa := pa) hN hgN hnx k FU tl pe en (FU_big (by omega)) hk hl hdis hpa hPI (fun _ => hd)
      refine ⟨tl', pe', en', pa, ?_, r2, r3, r4 0 (by omega) hx⟩
      rw [FX1_walkFrom_J58, ob_i (inside_t hz (by omega)), if_neg bi_t, gi_i (in_n hz (by omega)), cl_n (by omega), if_neg (DnV_seen hN hlt hz hd).2, FX1_walkFrom_J86, FX1_walkFrom_J87, hsub k hk, bd]
      exact r1
  · obtain ⟨tl', pe', en', r1, r2, r3, r4⟩ := hang_loop (x := x) (pa := pa) hN hgN hnx k FU tl pe en (FU_big (by omega)) hk hl hdis hpa hPI (fun h => by omega)
    refine ⟨tl', pe', en', pa, ?_, r2, r3, r4 0 (by omega) hx⟩
    rw [FX1_walkFrom_J58, ob_i (inside_f hv), if_pos bi_f, FX1_walkFrom_J86, FX1_walkFrom_J87, hsub k hk, bd]
    exact r1
