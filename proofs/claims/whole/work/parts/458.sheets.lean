/-! sheet, set, copy, drop -/
theorem sht (x : Int32) : (FX7_isSheet x = some false ∧ FX6_isSheet x = some false) ∨ ∃ k, k < 8 ∧ x = nI k ∧ FX7_isSheet x = some true ∧ FX6_isSheet x = some true := by
  rcases m_rng x 7 (by omega) (B := 7) rfl with ⟨h, e⟩ | ⟨k, hk, rfl, e⟩
  · refine Or.inl ⟨by rw [FX7_isSheet, ob_i e], ?_⟩
    rw [FX6_isSheet]
    rcases h with h | ⟨h1, -, h2⟩
    · rw [if_pos h]
    · rw [if_neg h1, if_pos (show (8 : Int32) ≤ x from h2)]
  · refine Or.inr ⟨k, by omega, rfl, by rw [FX7_isSheet, ob_i e], ?_⟩
    rw [FX6_isSheet, if_neg (nI_pos (by omega)), if_neg (show ¬ (8 : Int32) ≤ nI k from nI_ge (a := k) (b := 8) (by omega) (by omega))]
theorem i40 (a k : Nat) : (40 * nI a + nI k : Int32) = nI (40 * a + k) := by rw [show (40 : Int32) = nI 40 from rfl, pk_mul, nI_add]
theorem updL_s {f : Nat → Int64} {k : Nat} {x : Int64} : vp_updL f k x k = x := if_pos rfl
theorem updL_n {f : Nat → Int64} {k j : Nat} {x : Int64} (h : j ≠ k) : vp_updL f k x j = f j := if_neg h
theorem vaup_s {α : Type} {f : Nat → α} {k : Nat} {x : α} : va_up f k x k = x := if_pos rfl
theorem vaup_n {α : Type} {f : Nat → α} {k j : Nat} {x : α} (h : j ≠ k) : va_up f k x j = f j := if_neg h
theorem op_drop {SL : List Nat} {sh : Nat → Option Nat} {lan man sln : Nat → Int32} {itm : Nat → Int64} {snn sia : Nat → Nat} {svv : Nat → Nat → Int64} {sta : Int32} (hsh : SHT SL sh lan man itm sln snn svv) (x1 : Int32) : ∃ a s lan' sh', FX7_drop sta lan man x1 = some (a, 0, s, lan') ∧ FX6_drop sta sh SL sia snn x1 = some (a, s, sh') ∧ SHT SL sh' lan' man itm sln snn svv := by
  rw [FX7_drop, FX6_drop]
  rcases sht x1 with ⟨e1, e2⟩ | ⟨k, hk, rfl, e1, e2⟩
  · rw [ob_i e1, ob_i e2, if_pos bf0, if_pos bf0]; exact ⟨_, _, _, _, rfl, rfl, hsh⟩
  rw [ob_i e1, ob_i e2, if_neg bt0, if_neg bt0, gi_i (in_n hk (by omega)), gi_i (in_n hk (by omega)), cl_n (n := k) (by omega), bd]
  rcases hsh.1 k hk with ⟨s1, s2⟩ | ⟨q, s1, hq, s3, s4, s5, ⟨m, s6, s7⟩, s8⟩
  · rw [s1, oq, if_neg (by rw [s2]; decide), gi_i (in_n hk (by omega))]
    exact ⟨_, _, _, _, rfl, rfl, hsh⟩
  · rw [s1, oq, gd_i hq, if_pos (by rw [s3, s7]; exact nI_pos' (by omega)), gi_i (in_n hk (by omega)), gi_i (in_n hk (by omega)), gi_i (in_n hk (by omega)), fin6, ob_i rfl, s4]
    refine ⟨_, _, _, _, rfl, rfl, fun s hs => ?_, fun s t q' hs ht h1 h2 => ?_⟩
    · by_cases h : s = k
      · subst h; exact Or.inl ⟨vaup_s, upd_s⟩
      · rw [vaup_n h, upd_n h]; exact hsh.1 s hs
    · have hs2 : s ≠ k := fun e => by subst e; rw [vaup_s] at h1; cases h1
      have ht2 : t ≠ k := fun e => by subst e; rw [vaup_s] at h2; cases h2
      rw [vaup_n hs2] at h1
      rw [vaup_n ht2] at h2
      exact hsh.2 s t q' hs ht h1 h2
theorem m_zero {k n : Nat} {lan man : Nat → Int32} {itm : Nat → Int64} (hk : k < 8) : ∃ itm', FX7_sheet_L65 (nI k) (nI n) 0 0 lan man FU 0 itm = some (nI n, 0, 0, lan, man, itm') ∧ (∀ i, i < 40 → itm' (40 * k + i) = 0) ∧ ∀ j, (j < 40 * k ∨ 40 * k + 40 ≤ j) → itm' j = itm j := by
  obtain ⟨st, h1, e1⟩ := cloop0 (σ := Nat → Int64) 40 (by omega) (fun fuel i st => FX7_sheet_L65 (nI k) (nI n) 0 0 lan man fuel i st) (fun st => some (nI n, 0, 0, lan, man, st)) (fun i st => (∀ j, j < i → st (40 * k + j) = 0) ∧ ∀ j, (j < 40 * k ∨ 40 * k + 40 ≤ j) → st j = itm j) itm ⟨fun j hj => by omega, fun j _ => rfl⟩ (fun fuel st h1 => by
    show FX7_sheet_L65 _ _ _ _ _ _ _ _ _ = _
    rw [FX7_sheet_L65, if_pos (by decide)]) (fun fuel i st hi h1 => by
    refine ⟨vp_updL st (40 * k + i) 0, ⟨fun j hj => ?_, fun j hj => ?_⟩, ?_⟩
    · by_cases h : j = i
      · subst h; exact updL_s
      · rw [updL_n (by omega)]; exact h1.1 j (by omega)
    · rw [updL_n (by omega)]; exact h1.2 j hj
    · show FX7_sheet_L65 _ _ _ _ _ _ _ _ _ = FX7_sheet_L65 _ _ _ _ _ _ _ _ _
      rw [FX7_sheet_L65, if_neg (show ¬ (40 : Int32) ≤ nI i from nI_ge (a := i) (b := 40) hi (by omega)), i40, gi_i (in_n (by omega) (by omega)), cl_n (n := 40 * k + i) (by omega), bd, nI_1])
  exact ⟨st, e1, h1.1, h1.2⟩
theorem op_sheet {SL : List Nat} {sh : Nat → Option Nat} {lan man sln : Nat → Int32} {itm : Nat → Int64} {snn : Nat → Nat} {svv : Nat → Nat → Int64} {sta : Int32} (hsh : SHT SL sh lan man itm sln snn svv) (hSL : ∀ s q, s < 8 → sh s = some q → q ∈ SL) (x1 x2 x3 : Int32) : ∃ a s lan' man' itm' ln mk, FX7_sheet sta lan man itm x1 x2 x3 = some (a, 0, s, lan', man', itm') ∧ FX6_sheet sta x1 x2 x3 = some (a, s, ln, (fun _ => 0), mk) ∧ (mk = false → SHT SL sh lan' man' itm' sln snn svv) ∧ (mk = true → (imx x3 0).toNatClampNeg ≤ 40 ∧ ∀ q0, q0 ∉ SL → SHT (q0 :: SL) (va_up sh x1.toNatClampNeg (some q0)) lan' man' itm' (va_up sln q0 ln) (va_up snn q0 (imx x3 0).toNatClampNeg) (va_up svv q0 (fun _ => 0))) := by
  rw [FX7_sheet, FX6_sheet]
  have no : ∀ {p : Prop}, false = true → p := fun h => (Bool.false_ne_true h).elim
  rcases sht x1 with ⟨e1, e2⟩ | ⟨k, hk, rfl, e1, e2⟩
  · rw [ob_i e1, ob_i e2, if_pos bf0, if_pos bf0]; exact ⟨_, _, _, _, _, _, _, rfl, rfl, fun _ => hsh, no⟩
  rw [ob_i e1, ob_i e2, if_neg bt0, if_neg bt0]
  rcases m_rng x2 2 (by omega) (B := 2) rfl with ⟨h, e⟩ | ⟨w, hw, rfl, e⟩
  · rw [ob_i e, if_pos bf0]
    rcases h with h | ⟨h1, h2, -⟩
    · rw [if_pos h]; exact ⟨_, _, _, _, _, _, _, rfl, rfl, fun _ => hsh, no⟩
    · rw [if_neg h1, if_pos (show (2 : Int32) < x2 from Int32.not_le.mp h2)]; exact ⟨_, _, _, _, _, _, _, rfl, rfl, fun _ => hsh, no⟩
  rw [ob_i e, if_neg bt0, if_neg (nI_pos (by omega)), if_neg (show ¬ (2 : Int32) < nI w from nI_nlt (a := 2) (b := w) hw (by omega))]
  by_cases h3 : x3 ≤ 40
  · rw [if_pos h3, if_pos h3]
    by_cases h4 : 0 ≤ x3
    · obtain ⟨n, hn, rfl⟩ := nI_of2 (M := 40) (n := 40) rfl (Int32.not_lt.mpr h4) h3
      have ei : imx (nI n) 0 = nI n := by rw [imx, if_neg (nI_pos (by omega))]
      obtain ⟨itm', e3, z1, z2⟩ := m_zero (n := n) (lan := upd lan k (nI w)) (man := upd man k (nI n)) (itm := itm) hk
      rw [if_pos h4, if_pos h4, gi_i (in_n hk (by omega)), gi_i (in_n hk (by omega)), cl_n (n := k) (by omega), e3, FX5_init, ei, cl_n (n := n) (by omega), gd_i ⟨nI_pos (by omega), by omega⟩, ob_i rfl, gi_i (in_n hk (by omega)), fin6, ob_i rfl]
      refine ⟨_, _, _, _, _, _, _, rfl, rfl, fun h => (Bool.false_ne_true h.symm).elim, fun _ => ⟨hn, fun q0 hq0 => ⟨fun s hs => ?_, fun s t q' hs ht h1 h2 => ?_⟩⟩⟩
      · by_cases h : s = k
        · subst h
          refine Or.inr ⟨q0, vaup_s, List.mem_cons_self, ?_, ?_, ?_, ⟨w, hw, vaup_s⟩, fun i hi => ?_⟩
          · rw [upd_s, vaup_s]
          · rw [upd_s, vaup_s]
          · rw [vaup_s]; exact hn
          · rw [vaup_s] at hi
            rw [vaup_s]; exact z1 i (by omega)
        · rw [vaup_n h, upd_n h, upd_n h]
          rcases hsh.1 s hs with h5 | ⟨q, s1, hq, s3, s4, s5, s7, s8⟩
          · exact Or.inl h5
          · have hne : q ≠ q0 := fun e => hq0 (e ▸ hq)
            refine Or.inr ⟨q, s1, List.mem_cons_of_mem _ hq, ?_, ?_, ?_, ?_, fun i hi => ?_⟩
            · rw [vaup_n hne]; exact s3
            · rw [vaup_n hne]; exact s4
            · rw [vaup_n hne]; exact s5
            · rw [vaup_n hne]; exact s7
            · rw [vaup_n hne] at hi
              rw [vaup_n hne, ← s8 i hi]; exact z2 _ (by omega)
      · by_cases h5 : s = k
        · by_cases h6 : t = k
          · omega
          · subst h5; rw [vaup_s] at h1; rw [vaup_n h6] at h2
            cases h1
            exact absurd (hSL t _ ht h2) hq0
        · rw [vaup_n h5] at h1
          by_cases h6 : t = k
          · subst h6; rw [vaup_s] at h2; cases h2
            exact absurd (hSL s _ hs h1) hq0
          · rw [vaup_n h6] at h2
            exact hsh.2 s t q' hs ht h1 h2
    · rw [if_neg h4, if_neg h4]
      exact ⟨_, _, _, _, _, _, _, rfl, rfl, fun _ => hsh, no⟩
  · rw [if_neg h3, if_neg h3]
    exact ⟨_, _, _, _, _, _, _, rfl, rfl, fun _ => hsh, no⟩
