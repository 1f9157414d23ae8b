/-! a MAP made: the pool grows by a fresh one -/
theorem dq_up {pdg : Nat → Int32} {q q0 : Nat} {d : Int32} (h : q ≠ q0) : dq (va_up pdg q0 d) q = dq pdg q := by unfold dq; rw [vaup_n h]
theorem cq_up {pcc : Nat → Nat → Int32} {q q0 : Nat} {f : Nat → Int32} (h : q ≠ q0) : cq (va_up pcc q0 f) q = cq pcc q := by unfold cq; rw [vaup_n h]
theorem GP_up {P : Nat} {ppp pdg ptd : Nat → Int32} {pcc : Nat → Nat → Int32} {q q0 : Nat} {pp d t : Int32} {f : Nat → Int32} (h : q ≠ q0) (hg : GP P ppp pdg ptd pcc q) : GP P (va_up ppp q0 pp) (va_up pdg q0 d) (va_up ptd q0 t) (va_up pcc q0 f) q := by
  unfold GP at hg ⊢
  rw [dq_up h, cq_up h, vaup_n h, vaup_n h, vaup_n h, vaup_n h]
  exact hg
theorem SV_up {P : Nat} {PL : List Nat} {pdg : Nat → Int32} {pcc : Nat → Nat → Int32} {q0 : Nat} {d : Int32} {f : Nat → Int32} {rgs : Int32} {sv : Option Nat} {co ro le lst mu ba nx tl pe : Nat → Int32} (h0 : q0 ∉ PL) (h : SV P PL pdg pcc rgs sv co ro le lst mu ba nx tl pe) : SV P (q0 :: PL) (va_up pdg q0 d) (va_up pcc q0 f) rgs sv co ro le lst mu ba nx tl pe := by
  rcases h with h | ⟨q, h1, h2, h3⟩
  · exact Or.inl h
  · have hne : q ≠ q0 := fun e => h0 (e ▸ h2)
    exact Or.inr ⟨q, h1, List.mem_cons_of_mem _ h2, by rw [dq_up hne, cq_up hne]; exact h3⟩
theorem RND_up {P : Nat} {PL : List Nat} {pdg : Nat → Int32} {pcc : Nat → Nat → Int32} {q0 : Nat} {d : Int32} {f : Nat → Int32} {mp : Option Nat} {kn : Int32} {dd rd : Nat → Int32} {dn rn : Nat → Nat → Int32} (h0 : q0 ∉ PL) (h : RND P PL pdg pcc mp kn dd rd dn rn) : RND P (q0 :: PL) (va_up pdg q0 d) (va_up pcc q0 f) mp kn dd rd dn rn := by
  obtain ⟨h1, h2, h3⟩ := h
  refine ⟨h1, h2, ?_⟩
  rcases h3 with h3 | ⟨q, K, h4, h5, h6, h7, h8⟩
  · exact Or.inl h3
  · have hne : q ≠ q0 := fun e => h0 (e ▸ h5)
    exact Or.inr ⟨q, K, h4, List.mem_cons_of_mem _ h5, h6, h7, by rw [dq_up hne, cq_up hne]; exact h8⟩
theorem made_up {P : Nat} {PL : List Nat} {sf : Nat → Option Nat} {ppp pdg ptd deg num deg' num' f : Nat → Int32} {pcc : Nat → Nat → Int32} {x1 pp d t : Int32} {q0 : Nat} (hP2 : P < 200) (hm : MADE P x1 deg num deg' num' f pp d t true) (h0 : q0 ∉ PL) (hg : ∀ q, q ∈ PL → GP P ppp pdg ptd pcc q) (hsf : SF PL sf deg num pdg pcc) : (∀ q, q ∈ q0 :: PL → GP P (va_up ppp q0 pp) (va_up pdg q0 d) (va_up ptd q0 t) (va_up pcc q0 f) q) ∧ SF (q0 :: PL) (va_up sf x1.toNatClampNeg (some q0)) deg' num' (va_up pdg q0 d) (va_up pcc q0 f) := by
  obtain ⟨a, c, ha, rfl, hc, hf, hpp, hd, ht, m1, m2, m3, m4⟩ := hm.2 rfl
  have hca : (nI a).toNatClampNeg = a := cl_n (by omega)
  have hdl := dgr_le c 4
  have e1 : dq (va_up pdg q0 d) q0 = dgr c 4 := by unfold dq; rw [vaup_s, hd, cl_n (by omega)]
  have e2 : ∀ k, k < 5 → cq (va_up pcc q0 f) q0 k = c k := fun k hk => by
    have := hc k hk
    unfold cq; rw [vaup_s, hf k hk, cl_n (by omega)]
  have e3 : kd (cq (va_up pcc q0 f) q0) (dgr c 4) = kd c (dgr c 4) := by unfold kd; rw [e2 2 (by omega), e2 1 (by omega)]
  refine ⟨fun q hq => ?_, fun k hk => ?_⟩
  · rcases List.mem_cons.mp hq with e | hq
    · subst e
      obtain ⟨p1, p2, p3, p4⟩ := poly_of hc
      refine ⟨vaup_s.trans hpp, by rw [e1, vaup_s, hd], by rw [e1, e3, vaup_s, ht], fun k hk => ?_, ?_⟩
      · rw [Nat.zero_add, vaup_s, e2 k hk]; exact hf k hk
      · rw [e1]
        exact ⟨p1, fun k hk => by rw [e2 k hk]; exact p2 k hk, fun k h1 h2 => by rw [e2 k h2]; exact p3 k h1 h2, fun h => by rw [e2 _ (by omega)]; exact p4 h⟩
    · exact GP_up (fun e => h0 (e ▸ hq)) (hg q hq)
  · rw [hca]
    by_cases h : k = a
    · subst h
      refine Or.inr ⟨q0, vaup_s, List.mem_cons_self, by rw [vaup_s, m1, hd], fun j hj => by rw [vaup_s, hf j hj]; exact m3 j hj⟩
    · rw [vaup_n h, m2 k h]
      rcases hsf k hk with ⟨s1, s2⟩ | ⟨q, s1, hq, s3, s4⟩
      · exact Or.inl ⟨s1, s2⟩
      · have hne : q ≠ q0 := fun e => h0 (e ▸ hq)
        refine Or.inr ⟨q, s1, List.mem_cons_of_mem _ hq, by rw [vaup_n hne]; exact s3, fun j hj => ?_⟩
        rw [vaup_n hne, m4 _ (by omega)]
        exact s4 j hj
theorem made_0 {P : Nat} {deg num deg' num' f : Nat → Int32} {x1 pp d t : Int32} (hm : MADE P x1 deg num deg' num' f pp d t false) : deg' = deg ∧ num' = num := hm.1 rfl
