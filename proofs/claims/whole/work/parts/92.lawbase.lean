/-! the law's world -/
def w6A (cy : Nat → ClassId) (ad : Nat → Nat) (xp : Int32) (xt : Int32) (xs : Int32) (sh : Nat → Option Nat) (sf : Nat → Option Nat) (tr : Nat → Int32) (xn : Nat) (xn1 : Nat) (a_rp : Int32) (a_rgs : Int32) (a_sv : Option Nat) (a_co : Nat → Int32) (a_ro : Nat → Int32) (a_le : Nat → Int32) (a_lst : Nat → Int32) (a_mu : Nat → Int32) (a_ba : Nat → Int32) (a_bt : Nat → Int32) (a_cp : Nat → Int32) (a_osz : Int32) (a_nx : Nat → Int32) (a_tl : Nat → Int32) (a_pe : Nat → Int32) (a_en : Nat → Int32) (a_pa : Nat → Int32) (b_rp : Int32) (b_rgs : Int32) (b_sv : Option Nat) (b_co : Nat → Int32) (b_ro : Nat → Int32) (b_le : Nat → Int32) (b_lst : Nat → Int32) (b_mu : Nat → Int32) (b_ba : Nat → Int32) (b_bt : Nat → Int32) (b_cp : Nat → Int32) (b_osz : Int32) (b_nx : Nat → Int32) (b_tl : Nat → Int32) (b_pe : Nat → Int32) (b_en : Nat → Int32) (b_pa : Nat → Int32) (r_p4 : Int32) (r_mp : Option Nat) (r_kn : Int32) (r_dd : Nat → Int32) (r_rd : Nat → Int32) (r_dn : Nat → Nat → Int32) (r_rn : Nat → Nat → Int32) (f_fl : Int32) (f_fu : Int32) (f_fw : Int32) (f_li : Nat → Int32) (f_osz : Int32) (f_nx : Nat → Int32) (f_tl : Nat → Int32) (f_pe : Nat → Int32) (f_en : Nat → Int32) (f_pa : Nat → Int32) : va_W := [(ad 0, .inr (6, [.int xp, .ref (ad 1), .ref (ad 2), .ref (ad 3), .ref (ad 4), .ref (ad 19), .ref (ad 34), .ref (ad 53), .int xt, .int xs])), (ad 1, .inl (cy 3, 8, .inr (.inr (.inr (.inr sh))))), (ad 2, .inl (cy 4, 10, .inr (.inr (.inr (.inr sf))))), (ad 3, .inl (cy 0, 16, .inl tr)), (ad 4, .inr (3, [.int a_rp, .ref (ad 13), .ref (ad 5), .ref (ad 6), .ref (ad 7), .ref (ad 8), .ref (ad 9), .ref (ad 10), .ref (ad 11), .ref (ad 12), .int a_rgs, va_rf a_sv])), (ad 5, .inl (cy 0, xn, .inl a_co)), (ad 6, .inl (cy 0, xn, .inl a_ro)), (ad 7, .inl (cy 0, xn, .inl a_le)), (ad 8, .inl (cy 0, xn, .inl a_lst)), (ad 9, .inl (cy 0, xn, .inl a_mu)), (ad 10, .inl (cy 0, xn, .inl a_ba)), (ad 11, .inl (cy 0, xn, .inl a_bt)), (ad 12, .inl (cy 0, xn1, .inl a_cp)), (ad 13, .inr (1, [.int a_osz, .ref (ad 14), .ref (ad 15), .ref (ad 16), .ref (ad 17), .ref (ad 18)])), (ad 14, .inl (cy 0, xn, .inl a_nx)), (ad 15, .inl (cy 0, xn, .inl a_tl)), (ad 16, .inl (cy 0, xn, .inl a_pe)), (ad 17, .inl (cy 0, xn, .inl a_en)), (ad 18, .inl (cy 0, xn, .inl a_pa)), (ad 19, .inr (3, [.int b_rp, .ref (ad 28), .ref (ad 20), .ref (ad 21), .ref (ad 22), .ref (ad 23), .ref (ad 24), .ref (ad 25), .ref (ad 26), .ref (ad 27), .int b_rgs, va_rf b_sv])), (ad 20, .inl (cy 0, xn, .inl b_co)), (ad 21, .inl (cy 0, xn, .inl b_ro)), (ad 22, .inl (cy 0, xn, .inl b_le)), (ad 23, .inl (cy 0, xn, .inl b_lst)), (ad 24, .inl (cy 0, xn, .inl b_mu)), (ad 25, .inl (cy 0, xn, .inl b_ba)), (ad 26, .inl (cy 0, xn, .inl b_bt)), (ad 27, .inl (cy 0, xn1, .inl b_cp)), (ad 28, .inr (1, [.int b_osz, .ref (ad 29), .ref (ad 30), .ref (ad 31), .ref (ad 32), .ref (ad 33)])), (ad 29, .inl (cy 0, xn, .inl b_nx)), (ad 30, .inl (cy 0, xn, .inl b_tl)), (ad 31, .inl (cy 0, xn, .inl b_pe)), (ad 32, .inl (cy 0, xn, .inl b_en)), (ad 33, .inl (cy 0, xn, .inl b_pa)), (ad 34, .inr (4, [.int r_p4, .ref (ad 35), .ref (ad 36), .ref (ad 37), .ref (ad 38), va_rf r_mp, .int r_kn])), (ad 35, .inl (cy 5, 7, .inr (.inr (.inr (.inr (rwo (fun i => ad (34 + i)) 5)))))), (ad 36, .inl (cy 0, 7, .inl r_dd)), (ad 37, .inl (cy 5, 7, .inr (.inr (.inr (.inr (rwo (fun i => ad (34 + i)) 12)))))), (ad 38, .inl (cy 0, 7, .inl r_rd)), (ad 39, .inl (cy 0, 65, .inl (r_dn 0))), (ad 40, .inl (cy 0, 65, .inl (r_dn 1))), (ad 41, .inl (cy 0, 65, .inl (r_dn 2))), (ad 42, .inl (cy 0, 65, .inl (r_dn 3))), (ad 43, .inl (cy 0, 65, .inl (r_dn 4))), (ad 44, .inl (cy 0, 65, .inl (r_dn 5))), (ad 45, .inl (cy 0, 65, .inl (r_dn 6))), (ad 46, .inl (cy 0, 65, .inl (r_rn 0))), (ad 47, .inl (cy 0, 65, .inl (r_rn 1))), (ad 48, .inl (cy 0, 65, .inl (r_rn 2))), (ad 49, .inl (cy 0, 65, .inl (r_rn 3))), (ad 50, .inl (cy 0, 65, .inl (r_rn 4))), (ad 51, .inl (cy 0, 65, .inl (r_rn 5))), (ad 52, .inl (cy 0, 65, .inl (r_rn 6))), (ad 53, .inr (0, [.ref (ad 55), .ref (ad 54), .int f_fl, .int f_fu, .int f_fw])), (ad 54, .inl (cy 0, 233, .inl f_li)), (ad 55, .inr (1, [.int f_osz, .ref (ad 56), .ref (ad 57), .ref (ad 58), .ref (ad 59), .ref (ad 60)])), (ad 56, .inl (cy 0, 233, .inl f_nx)), (ad 57, .inl (cy 0, 233, .inl f_tl)), (ad 58, .inl (cy 0, 233, .inl f_pe)), (ad 59, .inl (cy 0, 233, .inl f_en)), (ad 60, .inl (cy 0, 233, .inl f_pa))]
def w7A (cy : Nat → ClassId) (ad : Nat → Nat) (thr : Int32) (sta : Int32) (pri : Int32) (tcd : Int32) (frt : Int32) (frp : Int32) (lan : Nat → Int32) (man : Nat → Int32) (itm : Nat → Int64) (deg : Nat → Int32) (num : Nat → Int32) (mad : Nat → Int32) (inn : Nat → Int32) (lon : Nat → Int32) (goe : Nat → Int32) (tai : Nat → Int32) (per : Nat → Int32) (lea : Nat → Int32) (com : Nat → Int32) (see : Nat → Int32) (trc : Nat → Int32) (cou : Nat → Int32) (don : Nat → Int32) (nex : Nat → Int32) (res : Nat → Int32) (quo : Nat → Int32) (rou : Nat → Int32) (met : Nat → Int32) : va_W := [(ad 0, .inr (7, [.int thr, .int sta, .int pri, .ref (ad 1), .ref (ad 2), .ref (ad 3), .ref (ad 4), .ref (ad 5), .ref (ad 6), .ref (ad 7), .ref (ad 8), .ref (ad 9), .ref (ad 10), .ref (ad 11), .ref (ad 12), .ref (ad 13), .ref (ad 14), .ref (ad 15), .int tcd, .ref (ad 16), .ref (ad 17), .ref (ad 18), .ref (ad 19), .ref (ad 20), .ref (ad 21), .ref (ad 22), .int frt, .int frp])), (ad 1, .inl (cy 0, 8, .inl lan)), (ad 2, .inl (cy 0, 8, .inl man)), (ad 3, .inl (cy 1, 320, .inr (.inl itm))), (ad 4, .inl (cy 0, 10, .inl deg)), (ad 5, .inl (cy 0, 50, .inl num)), (ad 6, .inl (cy 0, 5, .inl mad)), (ad 7, .inl (cy 0, 5, .inl inn)), (ad 8, .inl (cy 0, 5, .inl lon)), (ad 9, .inl (cy 0, 200, .inl goe)), (ad 10, .inl (cy 0, 200, .inl tai)), (ad 11, .inl (cy 0, 200, .inl per)), (ad 12, .inl (cy 0, 200, .inl lea)), (ad 13, .inl (cy 0, 200, .inl com)), (ad 14, .inl (cy 0, 200, .inl see)), (ad 15, .inl (cy 0, 16, .inl trc)), (ad 16, .inl (cy 0, 40000, .inl cou)), (ad 17, .inl (cy 0, 65, .inl don)), (ad 18, .inl (cy 0, 65, .inl nex)), (ad 19, .inl (cy 0, 65, .inl res)), (ad 20, .inl (cy 0, 65, .inl quo)), (ad 21, .inl (cy 0, 455, .inl rou)), (ad 22, .inl (cy 0, 241, .inl met))]
theorem P_mem {D : va_G} {ws ws' : va_W} {H : Heap} (hP : va_P D vwCl ws H) (h : ∀ q, q ∈ ws' → q ∈ ws) : va_P D vwCl ws' H := fun k q hq => by
  obtain ⟨j, hj⟩ := List.getElem?_of_mem (h q (List.mem_of_getElem? hq))
  exact hP j q hj
theorem D_iff {A : Nat → Prop} {ws : va_W} : va_D A ws ↔ (ws.map Prod.fst).Nodup ∧ ∀ q, q ∈ ws → A q.1 := by
  constructor
  · rintro ⟨h1, h2⟩
    refine ⟨?_, fun q hq => ?_⟩
    · show List.Pairwise (· ≠ ·) (ws.map Prod.fst)
      rw [List.pairwise_iff_getElem]
      intro i j hi hj hij e
      rw [List.length_map] at hi hj
      rw [List.getElem_map, List.getElem_map] at e
      have := h1 i j _ _ (List.getElem?_eq_getElem hi) (List.getElem?_eq_getElem hj) e
      omega
    · obtain ⟨k, hk⟩ := List.getElem?_of_mem hq
      exact h2 k q hk
  · rintro ⟨h1, h2⟩
    have h1 : List.Pairwise (· ≠ ·) (ws.map Prod.fst) := h1
    rw [List.pairwise_iff_getElem] at h1
    refine ⟨fun i j p q hi hj e => ?_, fun k q hq => h2 q (List.mem_of_getElem? hq)⟩
    obtain ⟨hi2, hi3⟩ := List.getElem?_eq_some_iff.mp hi
    obtain ⟨hj2, hj3⟩ := List.getElem?_eq_some_iff.mp hj
    subst hi3
    subst hj3
    rcases Nat.lt_trichotomy i j with h | h | h
    · exact absurd (by rw [List.getElem_map, List.getElem_map]; exact e) (h1 i j (by rw [List.length_map]; exact hi2) (by rw [List.length_map]; exact hj2) h)
    · exact h
    · exact absurd (by rw [List.getElem_map, List.getElem_map]; exact e.symm) (h1 j i (by rw [List.length_map]; exact hj2) (by rw [List.length_map]; exact hi2) h)
theorem P_perm {D : va_G} {ws ws' : va_W} {H : Heap} (h : ws.Perm ws') (hP : va_P D vwCl ws H) : va_P D vwCl ws' H := P_mem hP (fun q hq => h.mem_iff.mpr hq)
theorem D_perm {A : Nat → Prop} {ws ws' : va_W} (h : ws.Perm ws') (hD : va_D A ws) : va_D A ws' := by
  obtain ⟨h1, h2⟩ := D_iff.mp hD
  exact D_iff.mpr ⟨(h.map Prod.fst).nodup_iff.mp h1, fun q hq => h2 q (h.mem_iff.mpr hq)⟩
theorem D_tail {A : Nat → Prop} {x : Nat × va_E} {ws : va_W} (hD : va_D A (x :: ws)) : va_D A ws := by
  obtain ⟨h1, h2⟩ := D_iff.mp hD
  exact D_iff.mpr ⟨(List.nodup_cons.mp h1).2, fun q hq => h2 q (List.mem_cons_of_mem _ hq)⟩
theorem sepE {A : Nat → Prop} {E R Rc wc : va_W} {is : List Nat} {N : Nat} (hD : va_D A (E ++ R)) (hE : E.length = N) (hC : is.map (fun i => (E ++ R)[i]?) = wc.map some) (hlt : ∀ i, i ∈ is → i < N) (hsub : ∀ q, q ∈ Rc → q ∈ R) : sepW Rc wc := by
  intro i j p q hi hj e
  obtain ⟨k1, h1⟩ := List.getElem?_of_mem (hsub p (List.mem_of_getElem? hi))
  have h2 : (E ++ R)[E.length + k1]? = some p := by rw [List.getElem?_append_right (by omega), Nat.add_sub_cancel_left]; exact h1
  obtain ⟨k2, a2, h3⟩ := va_in_of is hC hj
  have h4 := hD.1 _ _ p q h2 h3 e
  have := hlt _ (List.mem_of_getElem? a2)
  omega
theorem rng_nd : ∀ (k n : Nat), va_nd (List.range' k n) = true
  | k, 0 => rfl
  | k, n + 1 => by
    rw [List.range'_succ, va_nd, rng_nd (k + 1) n, Bool.and_true, decide_eq_true_iff]
    intro h
    have := (List.mem_range'.mp h)
    obtain ⟨i, h1, h2⟩ := this
    omega
theorem rng_C : ∀ (X wc rs : va_W), (List.range' X.length wc.length).map (fun i => (X ++ (wc ++ rs))[i]?) = wc.map some
  | X, [], rs => rfl
  | X, a :: wc, rs => by
    rw [List.length_cons, List.range'_succ, List.map_cons, List.map_cons]
    have e1 : (X ++ (a :: wc ++ rs))[X.length]? = some a := by rw [List.getElem?_append_right (Nat.le_refl _), Nat.sub_self]; rfl
    have e2 := rng_C (X ++ [a]) wc rs
    rw [List.length_append] at e2
    have e3 : (X ++ [a]) ++ (wc ++ rs) = X ++ (a :: wc ++ rs) := by rw [List.append_assoc]; rfl
    rw [e3] at e2
    rw [e1]
    exact congrArg (some a :: ·) e2
theorem rng_set : ∀ (X wc w1 rs : va_W), w1.length = wc.length → setM (X ++ (wc ++ rs)) (List.range' X.length wc.length) w1 = X ++ (w1 ++ rs)
  | X, [], [], rs, _ => rfl
  | X, a :: wc, b :: w1, rs, h => by
    rw [List.length_cons, List.range'_succ, setM]
    have e1 : (X ++ (a :: wc ++ rs)).set X.length b = (X ++ [b]) ++ (wc ++ rs) := by
      rw [List.set_append_right _ _ (Nat.le_refl _), Nat.sub_self, List.append_assoc]; rfl
    have e2 := rng_set (X ++ [b]) wc w1 rs (by simpa using h)
    rw [List.length_append] at e2
    rw [e1]
    exact e2.trans (by rw [List.append_assoc]; rfl)
section LCALLS
variable {p : Program} {l : Launch} {e : Env} {R : Room} {s : State} {m : MethodId} {args : Array Value} {below : List Frame} {meth : Method} {c : Code} {H : Heap} {locs : List Loc} {cells slots : Nat} {Q : State → Prop}
variable {cc : ByteArray} {pc : Nat} {ls : Array Slot} {rest st0 : List Value} {D : va_G} {cy : Nat → ClassId} {A : Nat → Prop} {ws wc wx Rc w1c rs : va_W} {H0 : Heap} {a : Array Value} {val0 val : Option Value} {is : List Nat} {mc ms : Nat}
variable {st1 : List Value} {val2 : (Nat → Nat) → Option Value} {w2 : (Nat → Nat) → va_W} {st1c : List Value}
variable {y : MethodName} {bytes : ByteArray} {maxL nL n index : Nat} {ret : Option FieldType} {wsy : List Cond} {rm : Room} {Ts : List Cond} {own C : String} {b : Addr} {As : List Value} {w1 : va_W}
/-- a call whose written cells stand first -/
theorem ivWf (S : CallFix p m c cc nL s args Ts own) (hK : va_K D vwCl (TYs cy) s) (hN : NK s) (hM : Met l y wsy rm (PW D cy (.ref b :: As) H.size wc Rc) (QW D val w1 (va_A wc H.size)) 0 0 (va_A wc H.size)) (cw : CallW R s args own C index y bytes maxL ret wsy rm 0 0 n)
    (hrecv : ∃ cellB : Cell, H[b]? = some cellB ∧ cellB.vm.isStatics = false ∧ s.vm.findClass C = some cellB.cls) (hP : va_P D vwCl (wc ++ rs) H) (hD : va_D A (wc ++ rs)) (hS : va_S A H0 H locs) (hA : ∀ q, H0.size ≤ q → A q) (hRc : va_P D vwCl Rc H) (hsep : sepW Rc wc)
    (ha : w1.map Prod.fst = wc.map Prod.fst) (hn : As.length = n) (hsz : ls.size = nL) (hst0 : st0 = As.reverse ++ .ref b :: rest) (hroom : (rest.map fun v => v.category).sum ≤ 8) (hst : st1 = val.toList ++ rest) (hdg : decode cc pc = .ok (.invokevirtual index, 3)) (hf : cells ≤ R.cells ∧ slots ≤ R.slots)
    (kk : ∀ (H1 : Heap) (locs1 : List Loc), va_P D vwCl (w1 ++ rs) H1 → va_D A (w1 ++ rs) → va_S A H0 H1 locs1 → W p l e R s m args below meth c H1 locs1 cells slots Q (F0 m (pc + 3) ls st1)) : W p l e R s m args below meth c H locs cells slots Q (F0 m pc ls st0) := by
  have hlen : w1.length = wc.length := by
    have := congrArg List.length ha
    rw [List.length_map, List.length_map] at this; exact this
  have hset := rng_set [] wc w1 rs hlen
  refine ivW (ws := wc ++ rs) (is := List.range' 0 wc.length) (w1 := w1) S hK hN hM cw hrecv hP hD hS hA hRc hsep (rng_nd _ _) (rng_C [] wc rs) ha hn hsz hst0 hroom hst hdg hf (fun H1 locs1 h1 h2 h3 => kk H1 locs1 ?_ ?_ h3)
  · rw [show setM (wc ++ rs) (List.range' 0 wc.length) w1 = w1 ++ rs from hset] at h1; exact h1
  · rw [show setM (wc ++ rs) (List.range' 0 wc.length) w1 = w1 ++ rs from hset] at h2; exact h2
/-- a call that might have made cells, and hasn't -/
theorem ivN0 (S : CallFix p m c cc nL s args Ts own) (hK : va_K D vwCl (TYs cy) s) (hN : NK s) (hM : Met l y wsy rm (PW D cy (.ref b :: As) H.size wc Rc) (QN D val false w1 val2 w2 (va_A wc H.size)) mc ms (va_A wc H.size)) (cw : CallW R s args own C index y bytes maxL ret wsy rm mc ms n)
    (hrecv : ∃ cellB : Cell, H[b]? = some cellB ∧ cellB.vm.isStatics = false ∧ s.vm.findClass C = some cellB.cls) (hP : va_P D vwCl ws H) (hD : va_D A ws) (hS : va_S A H0 H locs) (hA : ∀ q, H0.size ≤ q → A q) (hRc : va_P D vwCl Rc H) (hsep : sepW Rc wc)
    (hnd : va_nd is = true) (hC : is.map (fun i => ws[i]?) = wc.map some) (ha : w1.map Prod.fst = wc.map Prod.fst) (hn : As.length = n) (hsz : ls.size = nL) (hst0 : st0 = As.reverse ++ .ref b :: rest) (hroom : (rest.map fun v => v.category).sum ≤ 8) (hst : st1 = val.toList ++ rest) (hdg : decode cc pc = .ok (.invokevirtual index, 3)) (hf : cells + mc ≤ R.cells ∧ slots + ms ≤ R.slots)
    (kk : ∀ (H1 : Heap) (locs1 : List Loc), va_P D vwCl (setM ws is w1) H1 → va_D A (setM ws is w1) → va_S A H0 H1 locs1 → W p l e R s m args below meth c H1 locs1 (cells + mc) (slots + ms) Q (F0 m (pc + 3) ls st1)) : W p l e R s m args below meth c H locs cells slots Q (F0 m pc ls st0) := by
  intro T hT X
  subst hst
  obtain ⟨v, st₀, t, T', L, h0, X', hL, e1, e2, ⟨⟨hz, hk⟩, hm⟩, st⟩ := va_runV S hM cw ⟨PW_blind, hrecv, PW_mk hK hN (P_pl hP hC) hRc (DP_sub hD hnd hC) hsep⟩ rfl hn hsz hst0 (lv_room (pc := pc) (ls := ls) (rest := st0) hroom) hdg hf T hT X
  rw [if_neg Bool.false_ne_true] at hm
  obtain ⟨hv, hP1⟩ := hm
  have hv : v = val := Outcome.returned.inj hv
  subst hv
  rw [h0] at hz hk
  have hfr : ∀ q, va_A wc H.size q → A q := va_free hD hS hA is hC
  obtain ⟨hP2, hD2⟩ := rejoin hnd hC ha hP hD hP1 hk
  obtain ⟨t2, a1, b1⟩ := kk T'.heap (locs ++ L) (by rw [e1]; exact hP2) hD2
    ⟨Nat.le_trans hS.1 (by rw [e1]; exact hz), fun q h1 h2 => by rw [e1, hk q (Nat.lt_of_lt_of_le h1 hS.1) (fun z => h2 (hfr q z))]; exact hS.2.1 q h1 h2, fun q hq => by
      rcases List.mem_append.mp hq with h | h
      · exact hS.2.2 q h
      · exact hfr _ (hL q h)⟩ T' rfl X'
  exact ⟨t2, st t2 a1, b1⟩
end LCALLS
theorem perm_o {α : Type} {A B : List α} {r o : α} : ((A ++ B) ++ [r, o]).Perm (o :: A ++ r :: B) :=
  List.perm_append_comm.trans ((List.Perm.swap o r (A ++ B)).trans (List.Perm.cons o List.perm_middle.symm))
theorem perm_s {α : Type} {R W S P : List α} : (R ++ (W ++ (S ++ P))).Perm (S ++ (R ++ (W ++ P))) :=
  (List.Perm.append_left R (List.perm_append_comm_assoc _ _ _)).trans (List.perm_append_comm_assoc _ _ _)
theorem map_up {PL : List Nat} {q0 : Nat} {f g : Nat → Nat × va_E} (h0 : q0 ∉ PL) (h : ∀ q, q ≠ q0 → f q = g q) : PL.map f = PL.map g := List.map_congr_left (fun q hq => h q (fun e => h0 (e ▸ hq)))
theorem sgP_up {cy : Nat → ClassId} {PL : List Nat} {ppp : Nat → Int32} {pca : Nat → Nat} {pdg ptd : Nat → Int32} {pcc : Nat → Nat → Int32} {q0 r0 : Nat} {pp d t : Int32} {f : Nat → Int32} (h0 : q0 ∉ PL) : (sgP cy PL ppp pca pdg ptd pcc ++ ([(r0, .inl (cy 0, 5, .inl f)), (q0, .inr (2, [.int pp, .ref r0, .int d, .int t]))] : va_W)).Perm (sgP cy (q0 :: PL) (va_up ppp q0 pp) (va_up pca q0 r0) (va_up pdg q0 d) (va_up ptd q0 t) (va_up pcc q0 f)) := by
  unfold sgP
  rw [List.map_cons, List.map_cons, vaup_s, vaup_s, vaup_s, vaup_s, vaup_s]
  rw [map_up (f := fun a => (a, .inr (2, [.int (va_up ppp q0 pp a), .ref (va_up pca q0 r0 a), .int (va_up pdg q0 d a), .int (va_up ptd q0 t a)]))) (g := fun a => (a, .inr (2, [.int (ppp a), .ref (pca a), .int (pdg a), .int (ptd a)]))) h0 (fun q hq => by rw [vaup_n hq, vaup_n hq, vaup_n hq, vaup_n hq])]
  rw [map_up (f := fun a => (va_up pca q0 r0 a, .inl (cy 0, 5, .inl (va_up pcc q0 f a)))) (g := fun a => (pca a, .inl (cy 0, 5, .inl (pcc a)))) h0 (fun q hq => by rw [vaup_n hq, vaup_n hq])]
  exact perm_o
theorem sgS_up {cy : Nat → ClassId} {SL : List Nat} {sln : Nat → Int32} {sia snn : Nat → Nat} {svv : Nat → Nat → Int64} {q0 r0 n : Nat} {ln : Int32} {f : Nat → Int64} (h0 : q0 ∉ SL) : (sgS cy SL sln sia snn svv ++ ([(r0, .inl (cy 1, n, .inr (.inl f))), (q0, .inr (5, [.int ln, .ref r0]))] : va_W)).Perm (sgS cy (q0 :: SL) (va_up sln q0 ln) (va_up sia q0 r0) (va_up snn q0 n) (va_up svv q0 f)) := by
  unfold sgS
  rw [List.map_cons, List.map_cons, vaup_s, vaup_s, vaup_s, vaup_s]
  rw [map_up (f := fun a => (a, .inr (5, [.int (va_up sln q0 ln a), .ref (va_up sia q0 r0 a)]))) (g := fun a => (a, .inr (5, [.int (sln a), .ref (sia a)]))) h0 (fun q hq => by rw [vaup_n hq, vaup_n hq])]
  rw [map_up (f := fun a => (va_up sia q0 r0 a, .inl (cy 1, va_up snn q0 n a, .inr (.inl (va_up svv q0 f a))))) (g := fun a => (sia a, .inl (cy 1, snn a, .inr (.inl (svv a))))) h0 (fun q hq => by rw [vaup_n hq, vaup_n hq, vaup_n hq])]
  exact perm_o
def mrg : va_W → Nat → List Nat → va_W → va_W
  | [], _, _, _ => []
  | x :: ws, _, [], _ => x :: ws
  | x :: ws, _, _ :: _, [] => x :: ws
  | x :: ws, k, i :: is, a :: w1 => match Nat.beq i k with
    | true => a :: mrg ws (k + 1) is w1
    | false => x :: mrg ws (k + 1) (i :: is) (a :: w1)
def ascn : Nat → List Nat → Bool
  | _, [] => true
  | k, i :: is => Nat.ble k i && ascn (i + 1) is
theorem setM_out : ∀ (is : List Nat) (ws w1 : va_W) (k : Nat), ascn k is = true → ws.length ≤ k → setM ws is w1 = ws
  | [], ws, w1, k, _, _ => by cases w1 <;> rfl
  | i :: is, ws, [], k, _, _ => rfl
  | i :: is, ws, a :: w1, k, h, hl => by
    rw [ascn, Bool.and_eq_true] at h
    have h1 := Nat.le_of_ble_eq_true h.1
    rw [setM, List.set_eq_of_length_le (by omega)]
    exact setM_out is ws w1 (i + 1) h.2 (by omega)
theorem setM_mrg : ∀ (ws pre : va_W) (is : List Nat) (w1 : va_W), ascn pre.length is = true → setM (pre ++ ws) is w1 = pre ++ mrg ws pre.length is w1
  | [], pre, is, w1, h => by
    rw [mrg, List.append_nil]
    exact setM_out is pre w1 _ h (Nat.le_refl _)
  | x :: ws, pre, [], w1, h => by cases w1 <;> rfl
  | x :: ws, pre, i :: is, [], h => rfl
  | x :: ws, pre, i :: is, a :: w1, h => by
    have h0 := h
    rw [ascn, Bool.and_eq_true] at h
    have h1 := Nat.le_of_ble_eq_true h.1
    cases hb : Nat.beq i pre.length with
    | true =>
      have hi : i = pre.length := Nat.eq_of_beq_eq_true hb
      have e0 : mrg (x :: ws) pre.length (i :: is) (a :: w1) = a :: mrg ws (pre.length + 1) is w1 := by rw [mrg, hb]
      have e1 : (pre ++ x :: ws).set i a = (pre ++ [a]) ++ ws := by
        rw [List.set_append_right _ _ (by omega), hi, Nat.sub_self, List.append_assoc]; rfl
      have e2 := setM_mrg ws (pre ++ [a]) is w1 (by rw [List.length_append]; rw [hi] at h; exact h.2)
      rw [List.length_append] at e2
      rw [setM, e1, e2, e0, List.append_assoc]; rfl
    | false =>
      have hi : i ≠ pre.length := Nat.ne_of_beq_eq_false hb
      have e0 : mrg (x :: ws) pre.length (i :: is) (a :: w1) = x :: mrg ws (pre.length + 1) (i :: is) (a :: w1) := by rw [mrg, hb]
      have e2 := setM_mrg ws (pre ++ [x]) (i :: is) (a :: w1) (by
        rw [List.length_append, ascn, Bool.and_eq_true]
        exact ⟨Nat.ble_eq_true_of_le (by show pre.length + 1 ≤ i; omega), h.2⟩)
      rw [List.length_append, List.append_assoc] at e2
      rw [e0]
      exact e2.trans (by rw [List.append_assoc]; rfl)
theorem PD_mrg {D : va_G} {A : Nat → Prop} {ws w1 w2 : va_W} {is : List Nat} {H : Heap} (ha : ascn 0 is = true) (he : mrg ws 0 is w1 = w2) (hP : va_P D vwCl (setM ws is w1) H) (hD : va_D A (setM ws is w1)) : va_P D vwCl w2 H ∧ va_D A w2 := by
  have e := (setM_mrg ws [] is w1 ha).trans he
  have e : setM ws is w1 = w2 := e
  rw [e] at hP hD
  exact ⟨hP, hD⟩
theorem PD_mrgA {D : va_G} {A : Nat → Prop} {ws w1 w2 wn : va_W} {is : List Nat} {H : Heap} (ha : ascn 0 is = true) (he : mrg ws 0 is w1 = w2) (hP : va_P D vwCl (setM ws is w1 ++ wn) H) (hD : va_D A (setM ws is w1 ++ wn)) : va_P D vwCl (w2 ++ wn) H ∧ va_D A (w2 ++ wn) := by
  have e := (setM_mrg ws [] is w1 ha).trans he
  have e : setM ws is w1 = w2 := e
  rw [e] at hP hD
  exact ⟨hP, hD⟩
theorem fst_app {V V' : va_W} {cy : Nat → ClassId} {SL : List Nat} {sln : Nat → Int32} {sia snn : Nat → Nat} {svv svv' : Nat → Nat → Int64} (h : V'.map Prod.fst = V.map Prod.fst) : (V' ++ sgS cy SL sln sia snn svv').map Prod.fst = (V ++ sgS cy SL sln sia snn svv).map Prod.fst := by
  rw [List.map_append, List.map_append, h]
  unfold sgS
  rw [List.map_append, List.map_append, List.map_map, List.map_map, List.map_map]
  rfl
theorem pool_P {A : Nat → Prop} {cy : Nat → ClassId} {X Y Z : va_W} {PL : List Nat} {ppp : Nat → Int32} {pca : Nat → Nat} {pdg ptd : Nat → Int32} {pcc : Nat → Nat → Int32} {r o : Nat × va_E} (hD : va_D A ((X ++ (Y ++ (Z ++ sgP cy PL ppp pca pdg ptd pcc))) ++ [r, o])) : o.1 ∉ PL := fun h => by
  obtain ⟨h1, -⟩ := D_iff.mp hD
  rw [List.map_append] at h1
  exact (List.nodup_append.mp h1).2.2 o.1 (List.mem_map.mpr ⟨_, List.mem_append_right _ (List.mem_append_right _ (List.mem_append_right _ (sgP_1 h))), rfl⟩) o.1 (List.mem_map.mpr ⟨o, List.mem_cons_of_mem _ List.mem_cons_self, rfl⟩) rfl
theorem pool_S {A : Nat → Prop} {cy : Nat → ClassId} {X Y Z : va_W} {SL : List Nat} {sln : Nat → Int32} {sia snn : Nat → Nat} {svv : Nat → Nat → Int64} {r o : Nat × va_E} (hD : va_D A ((X ++ (Y ++ (sgS cy SL sln sia snn svv ++ Z))) ++ [r, o])) : o.1 ∉ SL := fun h => by
  obtain ⟨h1, -⟩ := D_iff.mp hD
  rw [List.map_append] at h1
  exact (List.nodup_append.mp h1).2.2 o.1 (List.mem_map.mpr ⟨_, List.mem_append_right _ (List.mem_append_right _ (List.mem_append_left _ (sgS_1 h))), rfl⟩) o.1 (List.mem_map.mpr ⟨o, List.mem_cons_of_mem _ List.mem_cons_self, rfl⟩) rfl
theorem pool_Pp {X Y Z B B' : va_W} {w : va_W} (h : (B ++ w).Perm B') : ((X ++ (Y ++ (Z ++ B))) ++ w).Perm (X ++ (Y ++ (Z ++ B'))) := by
  rw [List.append_assoc, List.append_assoc, List.append_assoc]
  exact List.Perm.append_left _ (List.Perm.append_left _ (List.Perm.append_left _ h))
theorem pool_Sp {X Y Z B B' : va_W} {w : va_W} (h : (B ++ w).Perm B') : ((X ++ (Y ++ (B ++ Z))) ++ w).Perm (X ++ (Y ++ (B' ++ Z))) := by
  rw [List.append_assoc, List.append_assoc]
  refine List.Perm.append_left _ (List.Perm.append_left _ ?_)
  rw [List.append_assoc]
  exact ((List.Perm.append_left B List.perm_append_comm).trans (by rw [← List.append_assoc])).trans (List.Perm.append_right Z h)
theorem SHT_in {SL : List Nat} {sh : Nat → Option Nat} {lan man sln : Nat → Int32} {itm : Nat → Int64} {snn : Nat → Nat} {svv : Nat → Nat → Int64} (h : SHT SL sh lan man itm sln snn svv) : ∀ s q, s < 8 → sh s = some q → q ∈ SL := fun s q hs e => by
  rcases h.1 s hs with ⟨h1, -⟩ | ⟨q', h1, h2, -⟩
  · rw [h1] at e; cases e
  · rw [h1] at e; cases e; exact h2
def LW (D : va_G) (cy : Nat → ClassId) (A : Nat → Prop) (q6 q7 : Nat) (H : Heap) : Prop := ∀ (motive : Prop), (∀ (ad ad7 : Nat → Nat) (P : Nat) (xt : Int32) (xs : Int32) (sh : Nat → Option Nat) (sf : Nat → Option Nat) (tr : Nat → Int32) (a_rgs : Int32) (a_sv : Option Nat) (a_co : Nat → Int32) (a_ro : Nat → Int32) (a_le : Nat → Int32) (a_lst : Nat → Int32) (a_mu : Nat → Int32) (a_ba : Nat → Int32) (a_bt : Nat → Int32) (a_cp : Nat → Int32) (a_nx : Nat → Int32) (a_tl : Nat → Int32) (a_pe : Nat → Int32) (a_en : Nat → Int32) (a_pa : Nat → Int32) (b_rgs : Int32) (b_sv : Option Nat) (b_co : Nat → Int32) (b_ro : Nat → Int32) (b_le : Nat → Int32) (b_lst : Nat → Int32) (b_mu : Nat → Int32) (b_ba : Nat → Int32) (b_bt : Nat → Int32) (b_cp : Nat → Int32) (b_nx : Nat → Int32) (b_tl : Nat → Int32) (b_pe : Nat → Int32) (b_en : Nat → Int32) (b_pa : Nat → Int32) (r_mp : Option Nat) (r_kn : Int32) (r_dd : Nat → Int32) (r_rd : Nat → Int32) (r_dn : Nat → Nat → Int32) (r_rn : Nat → Nat → Int32) (f_fl : Int32) (f_fu : Int32) (f_fw : Int32) (f_li : Nat → Int32) (f_nx : Nat → Int32) (f_tl : Nat → Int32) (f_pe : Nat → Int32) (f_en : Nat → Int32) (f_pa : Nat → Int32) (thr : Int32) (sta : Int32) (tcd : Int32) (frt : Int32) (frp : Int32) (lan : Nat → Int32) (man : Nat → Int32) (itm : Nat → Int64) (deg : Nat → Int32) (num : Nat → Int32) (mad : Nat → Int32) (inn : Nat → Int32) (lon : Nat → Int32) (goe : Nat → Int32) (tai : Nat → Int32) (per : Nat → Int32) (lea : Nat → Int32) (com : Nat → Int32) (see : Nat → Int32) (trc : Nat → Int32) (cou : Nat → Int32) (don : Nat → Int32) (nex : Nat → Int32) (res : Nat → Int32) (quo : Nat → Int32) (rou : Nat → Int32) (met : Nat → Int32) (SL : List Nat) (sln : Nat → Int32) (sia : Nat → Nat) (snn : Nat → Nat) (svv : Nat → Nat → Int64) (PL : List Nat) (ppp : Nat → Int32) (pca : Nat → Nat) (pdg : Nat → Int32) (ptd : Nat → Int32) (pcc : Nat → Nat → Int32), ad 0 = q6 → ad7 0 = q7 → PR P → xs = sta → SHT SL sh lan man itm sln snn svv → (∀ q, q ∈ PL → GP P ppp pdg ptd pcc q) → SF PL sf deg num pdg pcc → TRC xt tcd tr trc → SV P PL pdg pcc a_rgs a_sv a_co a_ro a_le a_lst a_mu a_ba a_nx a_tl a_pe → SV P PL pdg pcc b_rgs b_sv b_co b_ro b_le b_lst b_mu b_ba b_nx b_tl b_pe → RND P PL pdg pcc r_mp r_kn r_dd r_rd r_dn r_rn → FRI f_fl f_fu f_fw f_li f_tl f_pe → va_P D vwCl ((w6A cy ad (nI P) xt xs sh sf tr P (P + 1) (nI P) a_rgs a_sv a_co a_ro a_le a_lst a_mu a_ba a_bt a_cp (nI P) a_nx a_tl a_pe a_en a_pa (nI P) b_rgs b_sv b_co b_ro b_le b_lst b_mu b_ba b_bt b_cp (nI P) b_nx b_tl b_pe b_en b_pa (nI P) r_mp r_kn r_dd r_rd r_dn r_rn f_fl f_fu f_fw f_li (nI 233) f_nx f_tl f_pe f_en f_pa) ++ ((w7A cy ad7 thr sta (nI P) tcd frt frp lan man itm deg num mad inn lon goe tai per lea com see trc cou don nex res quo rou met) ++ ((sgS cy SL sln sia snn svv) ++ (sgP cy PL ppp pca pdg ptd pcc)))) H → va_D A ((w6A cy ad (nI P) xt xs sh sf tr P (P + 1) (nI P) a_rgs a_sv a_co a_ro a_le a_lst a_mu a_ba a_bt a_cp (nI P) a_nx a_tl a_pe a_en a_pa (nI P) b_rgs b_sv b_co b_ro b_le b_lst b_mu b_ba b_bt b_cp (nI P) b_nx b_tl b_pe b_en b_pa (nI P) r_mp r_kn r_dd r_rd r_dn r_rn f_fl f_fu f_fw f_li (nI 233) f_nx f_tl f_pe f_en f_pa) ++ ((w7A cy ad7 thr sta (nI P) tcd frt frp lan man itm deg num mad inn lon goe tai per lea com see trc cou don nex res quo rou met) ++ ((sgS cy SL sln sia snn svv) ++ (sgP cy PL ppp pca pdg ptd pcc)))) → motive) → motive
