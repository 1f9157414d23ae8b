/-! rings by their least points -/
theorem tM_ring {g : Nat → Nat} {x t r i : Nat} (h : TP g x t r) (hi : t ≤ i) : tM g (it g i x) = tM g x := by
  have hR := TP_ring h hi
  have hr := h.1
  have h1 := tM_LE h
  rw [tT_of h, tR_of h] at h1
  refine tM_of hR ⟨?_, fun j _ hj => ?_⟩
  · obtain ⟨⟨k, k1, k2, k3⟩, -⟩ := h1
    -- the point at k is reached from i on
    refine ⟨(k + (i - t + 1) * r - i) % r, by omega, by have := Nat.mod_lt (k + (i - t + 1) * r - i) hr; omega, ?_⟩
    have hge : i ≤ k + (i - t + 1) * r := by
      have : i - t + 1 ≤ (i - t + 1) * r := Nat.le_mul_of_pos_right _ hr
      omega
    have e1 : it g (k + (i - t + 1) * r) x = it g k x := TP_round h _ k k1
    have e2 := TP_mod hR (n := k + (i - t + 1) * r - i) (by omega)
    rw [Nat.zero_add, Nat.sub_zero, ← it_add, Nat.sub_add_cancel hge, e1] at e2
    rw [k3, e2]
  · rw [← it_add, TP_mod h (n := j + i) (by omega)]
    have := Nat.mod_lt (j + i - t) hr
    exact h1.2 _ (by omega) (by omega)
theorem tM_le {g : Nat → Nat} {x t r : Nat} (h : TP g x t r) : tM g x ≤ it g t x := by
  have h1 := tM_LE h
  rw [tT_of h, tR_of h] at h1
  exact h1.2 t (Nat.le_refl _) (by have := h.1; omega)
/-- a head: a point of a ring that is its least -/
noncomputable def hd (g : Nat → Nat) (x : Nat) : Bool := decide (tT g x = 0) && decide (tM g x = x)
theorem hd_iff {g : Nat → Nat} {x : Nat} : hd g x = true ↔ tT g x = 0 ∧ tM g x = x := by
  unfold hd; rw [Bool.and_eq_true, decide_eq_true_eq, decide_eq_true_eq]
theorem tM_at {g : Nat → Nat} {P : Nat} (hg : ∀ x, x < P → g x < P) {x : Nat} (hx : x < P) : ∃ i, tT g x ≤ i ∧ i < tT g x + tR g x ∧ tM g x = it g i x := (tM_LE (tTP hg hx)).1
theorem hd_tM {g : Nat → Nat} {P : Nat} (hg : ∀ x, x < P → g x < P) {x : Nat} (hx : x < P) : hd g (tM g x) = true := by
  obtain ⟨i, h1, h2, h3⟩ := tM_at hg hx
  have hT := tTP hg hx
  rw [hd_iff, h3]
  exact ⟨tT_of (TP_ring hT h1), by rw [tM_ring hT h1, h3]⟩
theorem tR_tM {g : Nat → Nat} {P : Nat} (hg : ∀ x, x < P → g x < P) {x : Nat} (hx : x < P) : tR g (tM g x) = tR g x := by
  obtain ⟨i, h1, h2, h3⟩ := tM_at hg hx
  rw [h3]
  exact tR_of (TP_ring (tTP hg hx) h1)
theorem ring_le {g : Nat → Nat} {P : Nat} (hg : ∀ x, x < P → g x < P) {x : Nat} (hx : x < P) (h0 : tT g x = 0) : tM g x ≤ x := by
  have h := tM_le (tTP hg hx)
  rw [h0] at h
  exact h
theorem tM_en {g : Nat → Nat} {P : Nat} (hg : ∀ x, x < P → g x < P) {x : Nat} (hx : x < P) : tT g (it g (tT g x) x) = 0 ∧ tM g (it g (tT g x) x) = tM g x := ⟨tT_of (TP_ring (tTP hg hx) (Nat.le_refl _)), tM_ring (tTP hg hx) (Nat.le_refl _)⟩
/-- the points of a head's ring are those without tail that have it as their least -/
theorem on_ring {g : Nat → Nat} {P : Nat} (hg : ∀ x, x < P → g x < P) {h y : Nat} (hh : h < P) (hhd : hd g h = true) (hy : y < P) : (tT g y = 0 ∧ tM g y = h) ↔ ∃ i, i < tR g h ∧ it g i h = y := by
  obtain ⟨hT0, hM⟩ := hd_iff.mp hhd
  have hTh := tTP hg hh
  rw [hT0] at hTh
  constructor
  · rintro ⟨y0, yM⟩
    obtain ⟨i, h1, h2, h3⟩ := tM_at hg hy
    have hTy := tTP hg hy
    rw [y0] at h1 h2 hTy
    rw [Nat.zero_add] at h2
    -- y comes to h behind i steps, so h comes to y behind R - i
    have hR : tR g h = tR g y := by rw [← yM]; exact tR_tM hg hy
    have e : it g (tR g y - i) h = y := by
      rw [← yM, h3, ← it_add, Nat.sub_add_cancel (by omega)]
      have := hTy.2.1
      rw [Nat.zero_add] at this
      exact this
    rcases Nat.eq_zero_or_pos i with hi | hi
    · subst hi
      exact ⟨0, by rw [hR]; exact hTy.1, by rw [← yM, h3]; rfl⟩
    · exact ⟨tR g y - i, by rw [hR]; have := hTy.1; omega, e⟩
  · rintro ⟨i, -, rfl⟩
    exact ⟨tT_of (TP_ring hTh (Nat.zero_le _)), by rw [tM_ring hTh (Nat.zero_le _), hM]⟩
/-- how many heads are below x -/
noncomputable def rk (g : Nat → Nat) (x : Nat) : Nat := fb_ct (hd g) x
theorem rk_le (g : Nat → Nat) (x : Nat) : rk g x ≤ x := fb_ct_le _ x
theorem rk_inj {g : Nat → Nat} {a b : Nat} (ha : hd g a = true) (hb : hd g b = true) (e : rk g a = rk g b) : a = b := fb_ct_kth_one ha hb e
theorem rk_lt {g : Nat → Nat} {h x : Nat} (hh : hd g h = true) (hx : h < x) : rk g h < rk g x := by
  have h1 : rk g (h + 1) ≤ rk g x := fb_ct_mono _ (by omega)
  have h2 : rk g (h + 1) = rk g h + 1 := by unfold rk; rw [fb_ct_succ, hh]; rfl
  omega
/-- the product of the slopes along a way -/
def mulL (P : Nat) (s g : Nat → Nat) : Nat → Nat → Nat → Nat
  | 0, _, v => v
  | k + 1, a, v => mulL P s g k (g a) (v * s a % P)
noncomputable def mulR (P : Nat) (s g : Nat → Nat) (h : Nat) : Nat := mulL P s g (tR g h) h 1
theorem mulL_lt {P : Nat} {s g : Nat → Nat} (hP : 0 < P) : ∀ k a v, v < P → mulL P s g k a v < P
  | 0, _, v, h => h
  | k + 1, a, v, _ => mulL_lt hP k _ _ (Nat.mod_lt _ hP)
theorem it_congr {g g' : Nat → Nat} {P : Nat} (hg : ∀ x, x < P → g x < P) (h : ∀ x, x < P → g' x = g x) {x : Nat} (hx : x < P) : ∀ n, it g' n x = it g n x
  | 0 => rfl
  | n + 1 => by show g' _ = g _; rw [it_congr hg h hx n, h _ (it_lt hg hx n)]
theorem TP_congr {g g' : Nat → Nat} {P : Nat} (hg : ∀ x, x < P → g x < P) (h : ∀ x, x < P → g' x = g x) {x t r : Nat} (hx : x < P) (hT : TP g x t r) : TP g' x t r := by
  refine ⟨hT.1, ?_, fun i j a b => ?_⟩
  · rw [it_congr hg h hx, it_congr hg h hx]; exact hT.2.1
  · rw [it_congr hg h hx, it_congr hg h hx]; exact hT.2.2 i j a b
