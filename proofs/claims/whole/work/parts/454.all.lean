/-! all -/
/-- the model's loop: six sums -/
theorem m_all {P k d : Nat} {c : Nat → Nat} {x2 thr sta : Int32} {deg num goe tai per lea com see : Nat → Int32} (hP : 1 < P) (hP2 : P < 200) (hk : k < 10) (hd1 : deg k = nI d) (hc : CR num (5 * k) c) (hp : PolyC P c d) (h : WaysM (valP P c d) P goe tai per lea com) {R : Option M9} (hR : FX7_all_L65 (nI k) x2 thr sta (nI P) deg num goe tai per lea com see 1 (nI (rk (valP P c d) P)) (nI (fb_ct (fun y => decide (tT (valP P c d) y = 0)) P)) (nI (mx (tR (valP P c d)) P)) (nI (mx (tT (valP P c d)) P)) (nI (fb_ct (fun y => decide (fb_ct (fun z => decide (valP P c d z = y)) P = 0)) P)) (nI (fb_sm (fun y => if hd (valP P c d) y = true then (if mulR P (sloP P c d) (valP P c d) y = 0 then 1 else 0) else 0) P)) (nI P) = R) : FX7_all_L65 (nI k) x2 thr sta (nI P) deg num goe tai per lea com see FU 0 0 0 0 0 0 0 = R := by
  have hv := val_in (P := P) (c := c) (d := d) (by omega)
  obtain ⟨st, h1, e1⟩ := cloop0 (σ := Int32 × Int32 × Int32 × Int32 × Int32 × Int32) P (by omega) (fun fuel i st => FX7_all_L65 (nI k) x2 thr sta (nI P) deg num goe tai per lea com see fuel st.1 st.2.1 st.2.2.1 st.2.2.2.1 st.2.2.2.2.1 st.2.2.2.2.2 i) (fun st => FX7_all_L65 (nI k) x2 thr sta (nI P) deg num goe tai per lea com see 1 st.1 st.2.1 st.2.2.1 st.2.2.2.1 st.2.2.2.2.1 st.2.2.2.2.2 (nI P)) (fun i st => st = (nI (rk (valP P c d) i), nI (fb_ct (fun y => decide (tT (valP P c d) y = 0)) i), nI (mx (tR (valP P c d)) i), nI (mx (tT (valP P c d)) i), nI (fb_ct (fun y => decide (fb_ct (fun z => decide (valP P c d z = y)) P = 0)) i), nI (fb_sm (fun y => if hd (valP P c d) y = true then (if mulR P (sloP P c d) (valP P c d) y = 0 then 1 else 0) else 0) i))) (0, 0, 0, 0, 0, 0) rfl (fun fuel st h1 => by
    show FX7_all_L65 _ _ _ _ _ _ _ _ _ _ _ _ _ _ _ _ _ _ _ _ _ = FX7_all_L65 _ _ _ _ _ _ _ _ _ _ _ _ _ _ _ _ _ _ _ _ _
    rw [FX7_all_L65, FX7_all_L65, if_pos (Int32.le_refl _), if_pos (Int32.le_refl _)]) (fun fuel i st hi h1 => by
    subst h1
    have hT := t_le hv hi
    have hRp := tR_pos hv hi
    have h2 : mx (tR (valP P c d)) i ≤ 199 := mx_le fun j hj => by have := tR_le hv (show j < P by omega); omega
    have h3 : mx (tT (valP P c d)) i ≤ 199 := mx_le fun j hj => by have := t_le hv (show j < P by omega); omega
    have hcm := fb_ct_le (fun z => decide (valP P c d z = i)) P
    obtain ⟨w1, w2, w3, w4, w5⟩ := h i hi
    have es0 : hd (valP P c d) i = false → fb_sm (fun y => if hd (valP P c d) y = true then (if mulR P (sloP P c d) (valP P c d) y = 0 then 1 else 0) else 0) (i + 1) = fb_sm (fun y => if hd (valP P c d) y = true then (if mulR P (sloP P c d) (valP P c d) y = 0 then 1 else 0) else 0) i := fun e => by rw [fb_sm_succ, if_neg (by rw [e]; decide)]; rfl
    have es1 : hd (valP P c d) i = true → mulR P (sloP P c d) (valP P c d) i = 0 → fb_sm (fun y => if hd (valP P c d) y = true then (if mulR P (sloP P c d) (valP P c d) y = 0 then 1 else 0) else 0) (i + 1) = fb_sm (fun y => if hd (valP P c d) y = true then (if mulR P (sloP P c d) (valP P c d) y = 0 then 1 else 0) else 0) i + 1 := fun e e2 => by rw [fb_sm_succ, if_pos e, if_pos e2]
    have es2 : hd (valP P c d) i = true → ¬ mulR P (sloP P c d) (valP P c d) i = 0 → fb_sm (fun y => if hd (valP P c d) y = true then (if mulR P (sloP P c d) (valP P c d) y = 0 then 1 else 0) else 0) (i + 1) = fb_sm (fun y => if hd (valP P c d) y = true then (if mulR P (sloP P c d) (valP P c d) y = 0 then 1 else 0) else 0) i := fun e e2 => by rw [fb_sm_succ, if_pos e, if_neg e2]; rfl
    refine ⟨_, rfl, ?_⟩
    show FX7_all_L65 _ _ _ _ _ _ _ _ _ _ _ _ _ _ _ _ _ _ _ _ _ = FX7_all_L65 _ _ _ _ _ _ _ _ _ _ _ _ _ _ _ _ _ _ _ _ _
    -- behind the question 'a head?': all the rest, by its answer
    have key : ∀ b : Bool, b = hd (valP P c d) i → FX7_all_J101 (FX7_all_L65 (nI k) x2 thr sta (nI P) deg num goe tai per lea com see fuel) (nI k) x2 (nI (rk (valP P c d) i)) (nI (fb_ct (fun y => decide (tT (valP P c d) y = 0)) i)) (nI (mx (tR (valP P c d)) i)) (nI (mx (tT (valP P c d)) i)) (nI (fb_ct (fun y => decide (fb_ct (fun z => decide (valP P c d z = y)) P = 0)) i)) (nI (fb_sm (fun y => if hd (valP P c d) y = true then (if mulR P (sloP P c d) (valP P c d) y = 0 then 1 else 0) else 0) i)) (nI i) b thr sta (nI P) deg num goe tai per lea com see = FX7_all_L65 (nI k) x2 thr sta (nI P) deg num goe tai per lea com see fuel (nI (rk (valP P c d) (i + 1))) (nI (fb_ct (fun y => decide (tT (valP P c d) y = 0)) (i + 1))) (nI (mx (tR (valP P c d)) (i + 1))) (nI (mx (tT (valP P c d)) (i + 1))) (nI (fb_ct (fun y => decide (fb_ct (fun z => decide (valP P c d z = y)) P = 0)) (i + 1))) (nI (fb_sm (fun y => if hd (valP P c d) y = true then (if mulR P (sloP P c d) (valP P c d) y = 0 then 1 else 0) else 0) (i + 1))) (nI (i + 1)) := by
      intro b hb
      -- the last sum
      have z1 : ∀ a1 a2 a3 a4 a5, FX7_all_J207 (FX7_all_L65 (nI k) x2 thr sta (nI P) deg num goe tai per lea com see fuel) (nI k) x2 a1 a2 a3 a4 (nI (fb_sm (fun y => if hd (valP P c d) y = true then (if mulR P (sloP P c d) (valP P c d) y = 0 then 1 else 0) else 0) i)) (nI i) b (nI a5) (decide (fb_ct (fun z => decide (valP P c d z = i)) P = 0)) thr sta (nI P) deg num goe tai per lea com see = FX7_all_L65 (nI k) x2 thr sta (nI P) deg num goe tai per lea com see fuel a1 a2 a3 a4 (nI (a5 + if fb_ct (fun z => decide (valP P c d z = i)) P = 0 then 1 else 0)) (nI (fb_sm (fun y => if hd (valP P c d) y = true then (if mulR P (sloP P c d) (valP P c d) y = 0 then 1 else 0) else 0) (i + 1))) (nI (i + 1)) := by
        intro a1 a2 a3 a4 a5
        have eb : nI a5 + bi (decide (fb_ct (fun z => decide (valP P c d z = i)) P = 0)) = nI (a5 + if fb_ct (fun z => decide (valP P c d z = i)) P = 0 then 1 else 0) := by
          by_cases h0 : fb_ct (fun z => decide (valP P c d z = i)) P = 0
          · rw [decide_eq_true h0, if_pos h0, bi_1]
          · rw [decide_eq_false h0, if_neg h0, bi_0]; rfl
        rw [FX7_all_J207, bd, eb]
        cases hh : b with
        | false =>
          rw [if_pos bf0, FX7_all_J231, FX7_all_J232, bd, bd, bi_0, nI_1, es0 (hb ▸ hh)]
        | true =>
          have hm := mulL_lt (P := P) (s := sloP P c d) (g := valP P c d) (by omega) (tR (valP P c d) i) i 1 (by omega)
          rw [if_neg bt0, ob_i (m_times hP hP2 hk hd1 hc hp h hi)]
          by_cases h0 : mulR P (sloP P c d) (valP P c d) i = 0
          · rw [if_pos (by rw [h0]; rfl), FX7_all_J232, bd, bd, bi_1, nI_1, es1 (hb ▸ hh) h0]
          · rw [if_neg (ne0_n (by omega) (show mulR P (sloP P c d) (valP P c d) i < 2147483648 from by unfold mulR; omega)), FX7_all_J231, FX7_all_J232, bd, bd, bi_0, nI_1, es2 (hb ▸ hh) h0]
      have z2 : ∀ a1 a2 a3 a4 a5, FX7_all_J188 (FX7_all_L65 (nI k) x2 thr sta (nI P) deg num goe tai per lea com see fuel) (nI k) x2 a1 a2 a3 (nI a5) (nI (fb_sm (fun y => if hd (valP P c d) y = true then (if mulR P (sloP P c d) (valP P c d) y = 0 then 1 else 0) else 0) i)) (nI i) b a4 thr sta (nI P) deg num goe tai per lea com see = FX7_all_L65 (nI k) x2 thr sta (nI P) deg num goe tai per lea com see fuel a1 a2 a3 a4 (nI (a5 + if fb_ct (fun z => decide (valP P c d z = i)) P = 0 then 1 else 0)) (nI (fb_sm (fun y => if hd (valP P c d) y = true then (if mulR P (sloP P c d) (valP P c d) y = 0 then 1 else 0) else 0) (i + 1))) (nI (i + 1)) := by
        intro a1 a2 a3 a4 a5
        rw [FX7_all_J188, gi_i (in_n (by omega : i < 200) (by omega)), cl_n (n := i) (by omega), w2, ← z1]
        by_cases h0 : fb_ct (fun z => decide (valP P c d z = i)) P = 0
        · rw [if_pos (by rw [h0]; rfl), decide_eq_true h0]
        · rw [if_neg (ne0_n (by omega) (by omega)), decide_eq_false h0]
      have z3 : ∀ a1 a2 a3 a5, FX7_all_J162 (FX7_all_L65 (nI k) x2 thr sta (nI P) deg num goe tai per lea com see fuel) (nI k) x2 a1 a2 (nI (mx (tT (valP P c d)) i)) (nI a5) (nI (fb_sm (fun y => if hd (valP P c d) y = true then (if mulR P (sloP P c d) (valP P c d) y = 0 then 1 else 0) else 0) i)) (nI i) b a3 thr sta (nI P) deg num goe tai per lea com see = FX7_all_L65 (nI k) x2 thr sta (nI P) deg num goe tai per lea com see fuel a1 a2 a3 (nI (mx (tT (valP P c d)) (i + 1))) (nI (a5 + if fb_ct (fun z => decide (valP P c d z = i)) P = 0 then 1 else 0)) (nI (fb_sm (fun y => if hd (valP P c d) y = true then (if mulR P (sloP P c d) (valP P c d) y = 0 then 1 else 0) else 0) (i + 1))) (nI (i + 1)) := by
        intro a1 a2 a3 a5
        rw [FX7_all_J162, gi_i (in_n (by omega : i < 200) (by omega)), cl_n (n := i) (by omega), w3, mx]
        by_cases h0 : tT (valP P c d) i ≤ mx (tT (valP P c d)) i
        · rw [if_pos (by rw [le_n (by omega) (by omega)]; exact h0), if_pos h0, z2]
        · rw [if_neg (by rw [le_n (by omega) (by omega)]; exact h0), if_neg h0, gi_i (in_n (by omega : i < 200) (by omega)), z2]
      have z4 : ∀ a1 a5 (s1 : Bool) a2, FX7_all_J135 (FX7_all_L65 (nI k) x2 thr sta (nI P) deg num goe tai per lea com see fuel) (nI k) x2 a1 (nI (mx (tR (valP P c d)) i)) (nI (mx (tT (valP P c d)) i)) (nI a5) (nI (fb_sm (fun y => if hd (valP P c d) y = true then (if mulR P (sloP P c d) (valP P c d) y = 0 then 1 else 0) else 0) i)) (nI i) b a2 s1 thr sta (nI P) deg num goe tai per lea com see = FX7_all_L65 (nI k) x2 thr sta (nI P) deg num goe tai per lea com see fuel a1 (a2 + bi s1) (nI (mx (tR (valP P c d)) (i + 1))) (nI (mx (tT (valP P c d)) (i + 1))) (nI (a5 + if fb_ct (fun z => decide (valP P c d z = i)) P = 0 then 1 else 0)) (nI (fb_sm (fun y => if hd (valP P c d) y = true then (if mulR P (sloP P c d) (valP P c d) y = 0 then 1 else 0) else 0) (i + 1))) (nI (i + 1)) := by
        intro a1 a5 s1 a2
        rw [FX7_all_J135, bd, gi_i (in_n (by omega : i < 200) (by omega)), cl_n (n := i) (by omega), w4, show mx (tR (valP P c d)) (i + 1) = if tR (valP P c d) i ≤ mx (tR (valP P c d)) i then mx (tR (valP P c d)) i else tR (valP P c d) i from rfl]
        by_cases h0 : tR (valP P c d) i ≤ mx (tR (valP P c d)) i
        · rw [if_pos (by rw [le_n (by omega) (by omega)]; exact h0), if_pos h0, z3]
        · rw [if_neg (by rw [le_n (by omega) (by omega)]; exact h0), if_neg h0, gi_i (in_n (by omega : i < 200) (by omega)), z3]
      have z5 : ∀ a1 (s1 : Bool), FX7_all_J115 (FX7_all_L65 (nI k) x2 thr sta (nI P) deg num goe tai per lea com see fuel) (nI k) x2 (nI (fb_ct (fun y => decide (tT (valP P c d) y = 0)) i)) (nI (mx (tR (valP P c d)) i)) (nI (mx (tT (valP P c d)) i)) (nI (fb_ct (fun y => decide (fb_ct (fun z => decide (valP P c d z = y)) P = 0)) i)) (nI (fb_sm (fun y => if hd (valP P c d) y = true then (if mulR P (sloP P c d) (valP P c d) y = 0 then 1 else 0) else 0) i)) (nI i) b a1 s1 thr sta (nI P) deg num goe tai per lea com see = FX7_all_L65 (nI k) x2 thr sta (nI P) deg num goe tai per lea com see fuel (a1 + bi s1) (nI (fb_ct (fun y => decide (tT (valP P c d) y = 0)) (i + 1))) (nI (mx (tR (valP P c d)) (i + 1))) (nI (mx (tT (valP P c d)) (i + 1))) (nI (fb_ct (fun y => decide (fb_ct (fun z => decide (valP P c d z = y)) P = 0)) (i + 1))) (nI (fb_sm (fun y => if hd (valP P c d) y = true then (if mulR P (sloP P c d) (valP P c d) y = 0 then 1 else 0) else 0) (i + 1))) (nI (i + 1)) := by
        intro a1 s1
        have ec : fb_ct (fun y => decide (fb_ct (fun z => decide (valP P c d z = y)) P = 0)) (i + 1) = fb_ct (fun y => decide (fb_ct (fun z => decide (valP P c d z = y)) P = 0)) i + if fb_ct (fun z => decide (valP P c d z = i)) P = 0 then 1 else 0 := by
          rw [fb_ct_succ]
          by_cases h0 : fb_ct (fun z => decide (valP P c d z = i)) P = 0
          · rw [if_pos h0, if_pos (decide_eq_true h0)]
          · rw [if_neg h0, if_neg (fun e => h0 (of_decide_eq_true e))]
        rw [FX7_all_J115, bd, gi_i (in_n (by omega : i < 200) (by omega)), cl_n (n := i) (by omega), w3, ec]
        by_cases h0 : tT (valP P c d) i = 0
        · rw [if_pos (by rw [h0]; rfl), z4, bi_1, ct_t (p := fun y => decide (tT (valP P c d) y = 0)) (decide_eq_true h0)]
        · rw [if_neg (ne0_n (by omega) (by omega)), z4, bi_0, ct_f (p := fun y => decide (tT (valP P c d) y = 0)) (fun e => h0 (of_decide_eq_true e))]
      rw [FX7_all_J101]
      cases b with
      | false => rw [if_pos bf0, z5, bi_0, show rk (valP P c d) (i + 1) = rk (valP P c d) i from ct_f (by rw [← hb]; decide)]
      | true => rw [if_neg bt0, z5, bi_1, show rk (valP P c d) (i + 1) = rk (valP P c d) i + 1 from ct_t hb.symm]
    rw [FX7_all_L65, if_neg (nI_ge hi (by omega)), gi_i (in_n (by omega : i < 200) (by omega)), cl_n (n := i) (by omega), head_if hv hP2 h hi]
    by_cases h0 : hd (valP P c d) i = true
    · rw [if_pos h0, key true h0.symm]
    · rw [if_neg h0, FX7_all_J100, key false (Bool.eq_false_iff.mpr h0).symm])
  rw [h1] at e1
  exact e1.trans hR
theorem op_all {P : Nat} {PL : List Nat} {sf : Nat → Option Nat} {ppp pdg ptd deg num goe tai per lea com see : Nat → Int32} {pca : Nat → Nat} {pcc : Nat → Nat → Int32} {sta rgs : Int32} {sv : Option Nat} {co ro le lst mu ba nx tl pe en pa : Nat → Int32} (hP : 1 < P) (hP2 : P < 200) (hpl : ∀ q, q ∈ PL → GP P ppp pdg ptd pcc q) (hsf : SF PL sf deg num pdg pcc) (hsv : SV P PL pdg pcc rgs sv co ro le lst mu ba nx tl pe) (x1 x2 : Int32) : Same P PL pdg pcc (FX7_all sta (nI P) deg num goe tai per lea com see x1 x2) (FX6_all sta sf P (nI P) rgs sv co ro le lst mu ba (nI P) nx tl pe en pa PL ppp pca pdg ptd pcc x1 x2) := by
  rw [FX7_all, FX6_all]
  rcases plc x1 with ⟨e1, e2⟩ | ⟨k, hk, rfl, e1, e2⟩
  · rw [ob_i e1, ob_i e2, if_pos bf0, if_pos bf0]; exact ⟨_, _, rfl, rfl, rfl, rfl, rfl, hsv⟩
  rw [ob_i e1, ob_i e2, if_neg bt0, if_neg bt0]
  rcases m_rng x2 5 (by omega) (B := 5) rfl with ⟨h, e⟩ | ⟨w, hw, rfl, e⟩
  · rw [ob_i e, if_pos bf0]
    rcases h with h | ⟨h1, h2, -⟩
    · rw [if_pos h]; exact ⟨_, _, rfl, rfl, rfl, rfl, rfl, hsv⟩
    · rw [if_neg h1, if_neg (show ¬ x2 ≤ 5 from h2)]; exact ⟨_, _, rfl, rfl, rfl, rfl, rfl, hsv⟩
  rw [ob_i e, if_neg bt0, if_neg (nI_pos (by omega)), if_pos (show nI w ≤ 5 from nI_le (b := 5) hw (by omega)), gi_i (in_n hk (by omega)), cl_n (n := k) (by omega)]
  rcases hsf k hk with ⟨s1, s2⟩ | ⟨q, s1, hq, s3, s4⟩
  · rw [s1, ob_i (look_no hk s2)]
    exact ⟨_, _, rfl, rfl, rfl, rfl, rfl, hsv⟩
  have hg := hpl q hq
  rw [s1, ob_i (look_ok hk (s3.trans hg.2.1) (dq_le hg)), bd, bd, if_pos (by decide), oq, gd_i hq]
  obtain ⟨goe', tai', per', lea', com', see', e3, hw3⟩ := ways_of (goe := goe) (tai := tai) (per := per) (lea := lea) (com := com) (see := see) hP hP2 hk hg s3 s4
  obtain ⟨rgs', co', ro', le', lst', mu', ba', nx', tl', pe', en', pa', e4, hr⟩ := roads_of (pca := pca) (en := en) (pa := pa) hP hP2 hq hg hsv
  rw [ob_i e3, ob_i e4]
  have hv := val_in (P := P) (c := cq pcc q) (d := dq pdg q) (by omega)
  have hr0 := hr
  obtain ⟨r0, r5, r6⟩ := hr0
  subst r0
  have hrk := rk_le (valP P (cq pcc q) (dq pdg q)) P
  -- the rings by their rank
  have hle : ∃ f : Nat → Nat, (∀ i, i < rk (valP P (cq pcc q) (dq pdg q)) P → le' i = nI (f i) ∧ f i < 1000) ∧ ∀ x, x < P → hd (valP P (cq pcc q) (dq pdg q)) x = true → f (rk (valP P (cq pcc q) (dq pdg q)) x) = tR (valP P (cq pcc q) (dq pdg q)) x := by
    refine ⟨fun i => (le' i).toNatClampNeg, fun i hi => ?_, fun x hx hx2 => ?_⟩
    · obtain ⟨x, h1, h2, h3⟩ := fb_ct_kth hi
      have e := (r6 x h1 h2).1
      have hR := tR_le hv h1
      rw [show rk (valP P (cq pcc q) (dq pdg q)) x = i from h3] at e
      dsimp only
      rw [e, cl_n (by omega)]
      exact ⟨rfl, by omega⟩
    · have e := (r6 x hx hx2).1
      have hR := tR_le hv hx
      dsimp only
      rw [e, cl_n (by omega)]
  have hmu : ∃ f : Nat → Nat, (∀ i, i < rk (valP P (cq pcc q) (dq pdg q)) P → mu' i = nI (f i) ∧ f i < 1000) ∧ ∀ x, x < P → hd (valP P (cq pcc q) (dq pdg q)) x = true → f (rk (valP P (cq pcc q) (dq pdg q)) x) = mulR P (sloP P (cq pcc q) (dq pdg q)) (valP P (cq pcc q) (dq pdg q)) x := by
    refine ⟨fun i => (mu' i).toNatClampNeg, fun i hi => ?_, fun x hx hx2 => ?_⟩
    · obtain ⟨x, h1, h2, h3⟩ := fb_ct_kth hi
      have e := (r6 x h1 h2).2.2.1
      have hR : mulR P (sloP P (cq pcc q) (dq pdg q)) (valP P (cq pcc q) (dq pdg q)) x < P := mulL_lt (by omega) _ _ _ (by omega)
      rw [show rk (valP P (cq pcc q) (dq pdg q)) x = i from h3] at e
      dsimp only
      rw [e, cl_n (by omega)]
      exact ⟨rfl, by omega⟩
    · have e := (r6 x hx hx2).2.2.1
      have hR : mulR P (sloP P (cq pcc q) (dq pdg q)) (valP P (cq pcc q) (dq pdg q)) x < P := mulL_lt (by omega) _ _ _ (by omega)
      dsimp only
      rw [e, cl_n (by omega)]
  obtain ⟨f, f1, f2⟩ := hle
  obtain ⟨f', f3, f4⟩ := hmu
  dsimp only
  rw [FX3_ofAll]
  have hwz : w = 0 ∨ w = 1 ∨ w = 2 ∨ w = 3 ∨ w = 4 ∨ w = 5 := by omega
  have M := fun (w : Nat) (R : Option M9) => m_all (x2 := nI w) (thr := 0) (sta := 0) (see := see') (R := R) hP hP2 hk (s3.trans hg.2.1) (CR_sh s4 hg.2.2.2.1) hg.2.2.2.2 hw3
  rcases hwz with rfl | rfl | rfl | rfl | rfl | rfl
  · rw [if_pos (by decide), ob_i rfl, fin6, ob_i rfl]
    exact ⟨_, _, M 0 _ (by rw [FX7_all_L65, if_pos (Int32.le_refl _), if_pos (by decide)]), rfl, rfl, rfl, rfl, SV_of hq hr⟩
  · rw [if_neg (by decide), if_pos (by decide), ob_i (x_points hrk hP2 (fun i hi => (f1 i hi).1)), ob_i rfl, fin6, ob_i rfl]
    refine ⟨_, _, M 1 _ (by rw [FX7_all_L65, if_pos (Int32.le_refl _), if_neg (by decide), if_pos (by decide)]), rfl, ?_, rfl, rfl, SV_of hq hr⟩
    show nI _ = nI _
    rw [on_rings hv, sm_heads P f2]
  · rw [if_neg (by decide), if_neg (by decide), if_pos (by decide), ob_i (x_longest hrk hP2 (fun i hi => (f1 i hi).1) (fun i hi => (f1 i hi).2)), ob_i rfl, fin6, ob_i rfl]
    refine ⟨_, _, M 2 _ (by rw [FX7_all_L65, if_pos (Int32.le_refl _), if_neg (by decide), if_neg (by decide), if_pos (by decide)]), rfl, ?_, rfl, rfl, SV_of hq hr⟩
    show nI _ = nI _
    rw [mx_rings hv f2]
  · rw [if_neg (by decide), if_neg (by decide), if_neg (by decide), if_pos (by decide), ob_i (x_tails (Nat.le_refl P) hP2 (fun i hi => (r5 i hi).2.2.1) (fun i hi => by have := t_le hv hi; omega)), ob_i rfl, fin6, ob_i rfl]
    exact ⟨_, _, M 3 _ (by rw [FX7_all_L65, if_pos (Int32.le_refl _), if_neg (by decide), if_neg (by decide), if_neg (by decide), if_pos (by decide)]), rfl, rfl, rfl, rfl, SV_of hq hr⟩
  · rw [if_neg (by decide), if_neg (by decide), if_neg (by decide), if_neg (by decide), if_pos (by decide), ob_i (x_none (Nat.le_refl P) hP2 (fun i hi => (r5 i hi).2.1) (fun i hi => by have := fb_ct_le (fun z => decide (valP P (cq pcc q) (dq pdg q) z = i)) P; omega)), ob_i rfl, fin6, ob_i rfl]
    exact ⟨_, _, M 4 _ (by rw [FX7_all_L65, if_pos (Int32.le_refl _), if_neg (by decide), if_neg (by decide), if_neg (by decide), if_neg (by decide), if_pos (by decide)]), rfl, rfl, rfl, rfl, SV_of hq hr⟩
  · rw [if_neg (by decide), if_neg (by decide), if_neg (by decide), if_neg (by decide), if_neg (by decide), ob_i (x_still hrk hP2 (fun i hi => (f3 i hi).1) (fun i hi => (f3 i hi).2)), ob_i rfl, fin6, ob_i rfl]
    refine ⟨_, _, M 5 _ (by rw [FX7_all_L65, if_pos (Int32.le_refl _), if_neg (by decide), if_neg (by decide), if_neg (by decide), if_neg (by decide), if_neg (by decide)]), rfl, ?_, rfl, rfl, SV_of hq hr⟩
    show nI _ = nI _
    rw [ct_sm, sm_heads (f := fun k => if decide (f' k = 0) = true then 1 else 0) (F := fun y => if mulR P (sloP P (cq pcc q) (dq pdg q)) (valP P (cq pcc q) (dq pdg q)) y = 0 then 1 else 0) P (fun h hh hh2 => by
      rw [f4 h hh hh2]
      by_cases h0 : mulR P (sloP P (cq pcc q) (dq pdg q)) (valP P (cq pcc q) (dq pdg q)) h = 0
      · rw [if_pos h0, if_pos (decide_eq_true h0)]
      · rw [if_neg h0, if_neg (fun e => h0 (of_decide_eq_true e))])]
