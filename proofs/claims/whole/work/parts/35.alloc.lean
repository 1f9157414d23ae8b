/-! contracts of methods that make cells -/
def QN (D : va_G) (val0 : Option Value) (made : Bool) (wx : va_W) (val2 : (Nat → Nat) → Option Value) (w2 : (Nat → Nat) → va_W) (A : Nat → Prop) : Array Value → State → Outcome → State → Prop := fun _ st o t => va_F A st t ∧ (if made = true then ∃ nad : Nat → Nat, o = .returned (val2 nad) ∧ va_P D vwCl (w2 nad) t.heap ∧ va_D A (w2 nad) else o = .returned val0 ∧ va_P D vwCl wx t.heap)
def adl (l : List Nat) : Nat → Nat := fun i => l.getD i 0
theorem new_R {D : va_G} {cy : Nat → ClassId} {s : State} {cA : ClassId} {t : Nat} {ty : FieldType} (h : va_K D vwCl (TYs cy ++ [(cA, ty)]) s) (ht : (TYs cy)[t]? = some (cy t, ty)) (hp : ∀ C, ty ≠ .object C) : cA = cy t := by
  have h1 := (h.2 6 (cA, ty) rfl).2
  have h2 := (h.2 t (cy t, ty) (by rw [List.getElem?_append_left ((List.getElem?_eq_some_iff.mp ht).1)]; exact ht)).2
  cases ty <;> first | exact absurd rfl (hp _) | exact Option.some.inj (h1.symm.trans h2)
theorem new_I {D : va_G} {cy : Nat → ClassId} {s : State} {cA : ClassId} (h : va_K D vwCl (TYs cy ++ [(cA, .int)]) s) : cA = cy 0 := new_R h (t := 0) rfl (fun C h => by cases h)
theorem new_J {D : va_G} {cy : Nat → ClassId} {s : State} {cA : ClassId} (h : va_K D vwCl (TYs cy ++ [(cA, .long)]) s) : cA = cy 1 := new_R h (t := 1) rfl (fun C h => by cases h)
theorem le_byt {n k : Nat} (h : n ≤ 240) (hk : k ≤ 8 := by decide) : n * k ≤ 536870912 := Nat.le_trans (Nat.mul_le_mul h hk) (by decide)
theorem P_left {D : va_G} {X Y : va_W} {H : Heap} (h : va_P D vwCl (X ++ Y) H) : va_P D vwCl X H := fun k q hk => h k q (by rw [List.getElem?_append_left (List.getElem?_eq_some_iff.mp hk).1]; exact hk)
theorem setM_adr : ∀ (is : List Nat) (ws wc w1 : va_W), is.map (fun i => ws[i]?) = wc.map some → w1.map Prod.fst = wc.map Prod.fst → va_nd is = true → ∀ (k : Nat) (q : Nat × va_E), (setM ws is w1)[k]? = some q → ∃ q0, ws[k]? = some q0 ∧ q0.1 = q.1
  | [], ws, wc, w1, _, _, _, k, q, hq => ⟨q, (by cases w1 <;> exact hq), rfl⟩
  | i :: is, ws, wc, w1, h, h1, hnd, k, q, hq => by
    cases wc with
    | nil => simp at h
    | cons a wc =>
      cases w1 with
      | nil => simp at h1
      | cons x w1 =>
        simp only [List.map_cons, List.cons.injEq] at h h1
        simp only [va_nd, Bool.and_eq_true, decide_eq_true_eq] at hnd
        obtain ⟨hi, h⟩ := h
        have hlen : i < ws.length := (List.getElem?_eq_some_iff.mp hi).1
        obtain ⟨q0, e0, e1⟩ := setM_adr is (ws.set i x) wc w1 (by
          rw [← h]
          apply List.map_congr_left
          intro k hk2
          exact List.getElem?_set_ne (fun e : i = k => hnd.1 (by rw [e]; exact hk2))) h1.2 hnd.2 k q hq
        by_cases hki : k = i
        · subst hki
          rw [List.getElem?_set_self hlen] at e0
          cases e0
          exact ⟨a, hi, h1.1.symm.trans e1⟩
        · rw [List.getElem?_set_ne (Ne.symm hki)] at e0
          exact ⟨q0, e0, e1⟩
theorem rejoinN {D : va_G} {A : Nat → Prop} {is : List Nat} {ws wc w1 wn : va_W} {H H1 : Heap} (hnd : va_nd is = true) (hC : is.map (fun i => ws[i]?) = wc.map some) (ha : w1.map Prod.fst = wc.map Prod.fst) (hP : va_P D vwCl ws H) (hD : va_D A ws) (hP1 : va_P D vwCl (w1 ++ wn) H1) (hD1 : va_D (va_A wc H.size) (w1 ++ wn)) (hf : ∀ q, va_A wc H.size q → A q) (hk : ∀ q : Nat, q < H.size → ¬ va_A wc H.size q → H1[q]? = H[q]?) : va_P D vwCl (setM ws is w1 ++ wn) H1 ∧ va_D A (setM ws is w1 ++ wn) := by
  obtain ⟨hPa, hDa⟩ := rejoin hnd hC ha hP hD (P_left hP1) hk
  have hpos : ∀ j q, wn[j]? = some q → (w1 ++ wn)[w1.length + j]? = some q := fun j q hq => by rw [List.getElem?_append_right (by omega), Nat.add_sub_cancel_left]; exact hq
  have hnew : ∀ (j : Nat) (q : Nat × va_E), wn[j]? = some q → H.size ≤ q.1 := by
    intro j q hq
    rcases hD1.2 _ q (hpos j q hq) with ⟨k, e, h⟩ | h
    · exfalso
      have h2 : (w1.map Prod.fst)[k]? = some q.1 := by rw [ha, List.getElem?_map, h]; rfl
      rw [List.getElem?_map] at h2
      cases hw : w1[k]? with
      | none => rw [hw] at h2; cases h2
      | some z =>
        rw [hw] at h2
        have hz : z.1 = q.1 := Option.some.inj h2
        have hl := (List.getElem?_eq_some_iff.mp hw).1
        have := hD1.1 k (w1.length + j) z q (by rw [List.getElem?_append_left hl]; exact hw) (hpos j q hq) hz
        omega
    · exact h
  refine ⟨va_P.app hPa (P_right hP1), va_D.app hDa ⟨fun i j p q hi hj e => ?_, fun k q hq => hf q.1 (hD1.2 _ q (hpos k q hq))⟩ (fun i j p q hi hj e => ?_)⟩
  · have := hD1.1 _ _ p q (hpos i p hi) (hpos j q hj) e
    omega
  · obtain ⟨p0, h1, h2⟩ := setM_adr is ws wc w1 hC ha hnd i p hi
    have h3 := (hP i p0 h1).lt
    have h4 := hnew j q hj
    rw [h2, e] at h3
    omega
section NCALLS
variable {p : Program} {l : Launch} {e : Env} {R : Room} {s : State} {m : MethodId} {args : Array Value} {below : List Frame} {meth : Method} {c : Code} {H : Heap} {locs : List Loc} {cells slots : Nat} {Q : State → Prop}
variable {cc : ByteArray} {pc : Nat} {ls : Array Slot} {rest st0 : List Value} {D : va_G} {cy : Nat → ClassId} {A : Nat → Prop} {ws wc wx Rc w1c : va_W} {H0 : Heap} {a : Array Value} {val0 val : Option Value} {is : List Nat} {mc ms : Nat}
variable {st1 : (Nat → Nat) → List Value} {val2 : (Nat → Nat) → Option Value} {w1 wn : (Nat → Nat) → va_W} {st1c : List Value}
theorem callQN (hr : va_Run p l e R s m args below meth c H locs cells slots mc ms (F0 m pc ls st0) rest (QN D val0 true wx val2 (fun nad => w1 nad ++ wn nad) (va_A wc H.size) a) (va_A wc H.size)) (hnd : va_nd is = true) (hC : is.map (fun i => ws[i]?) = wc.map some) (ha : ∀ nad, (w1 nad).map Prod.fst = wc.map Prod.fst) (hP : va_P D vwCl ws H) (hD : va_D A ws) (hS : va_S A H0 H locs) (hA : ∀ q, H0.size ≤ q → A q) (hst : ∀ nad, st1 nad = (val2 nad).toList ++ rest)
    (kk : ∀ (nad : Nat → Nat) (H1 : Heap) (locs1 : List Loc), va_P D vwCl (setM ws is (w1 nad) ++ wn nad) H1 → va_D A (setM ws is (w1 nad) ++ wn nad) → va_S A H0 H1 locs1 → W p l e R s m args below meth c H1 locs1 (cells + mc) (slots + ms) Q (F0 m (pc + 3) ls (st1 nad))) : W p l e R s m args below meth c H locs cells slots Q (F0 m pc ls st0) := by
  intro T hT X
  obtain ⟨v, st₀, t, T', L, h0, X', hL, e1, e2, ⟨⟨hz, hk⟩, hm⟩, st⟩ := hr T hT X
  rw [if_pos rfl] at hm
  obtain ⟨nad, hv, hP1, hD1⟩ := hm
  have hv : v = val2 nad := Outcome.returned.inj hv
  subst hv
  rw [h0] at hz hk
  have hf : ∀ q, va_A wc H.size q → A q := va_free hD hS hA is hC
  obtain ⟨hP2, hD2⟩ := rejoinN hnd hC (ha nad) hP hD hP1 hD1 hf hk
  obtain ⟨t2, a1, b1⟩ := kk nad T'.heap (locs ++ L) (by rw [e1]; exact hP2) hD2
    ⟨Nat.le_trans hS.1 (by rw [e1]; exact hz), fun q h1 h2 => by rw [e1, hk q (Nat.lt_of_lt_of_le h1 hS.1) (fun z => h2 (hf q z))]; exact hS.2.1 q h1 h2, fun q hq => by
      rcases List.mem_append.mp hq with h | h
      · exact hS.2.2 q h
      · exact hf _ (hL q h)⟩ T' rfl X'
  rw [hst] at a1
  exact ⟨t2, st t2 a1, b1⟩
variable {y : MethodName} {bytes : ByteArray} {maxL nL n index : Nat} {ret : Option FieldType} {wsy : List Cond} {rm : Room} {Ts : List Cond} {own C : String} {b : Addr} {As : List Value}
theorem ivN (S : CallFix p m c cc nL s args Ts own) (hK : va_K D vwCl (TYs cy) s) (hN : NK s) (hM : Met l y wsy rm (PW D cy (.ref b :: As) H.size wc Rc) (QN D val0 true wx val2 (fun nad => w1 nad ++ wn nad) (va_A wc H.size)) mc ms (va_A wc H.size)) (cw : CallW R s args own C index y bytes maxL ret wsy rm mc ms n)
    (hrecv : ∃ cellB : Cell, H[b]? = some cellB ∧ cellB.vm.isStatics = false ∧ s.vm.findClass C = some cellB.cls) (hP : va_P D vwCl ws H) (hD : va_D A ws) (hS : va_S A H0 H locs) (hA : ∀ q, H0.size ≤ q → A q) (hRc : va_P D vwCl Rc H) (hsep : sepW Rc wc)
    (hnd : va_nd is = true) (hC : is.map (fun i => ws[i]?) = wc.map some) (ha : ∀ nad, (w1 nad).map Prod.fst = wc.map Prod.fst) (hn : As.length = n) (hsz : ls.size = nL) (hst0 : st0 = As.reverse ++ .ref b :: rest) (hroom : (rest.map fun v => v.category).sum ≤ 8) (hst : ∀ nad, st1 nad = (val2 nad).toList ++ rest) (hdg : decode cc pc = .ok (.invokevirtual index, 3)) (hf : cells + mc ≤ R.cells ∧ slots + ms ≤ R.slots)
    (kk : ∀ (nad : Nat → Nat) (H1 : Heap) (locs1 : List Loc), va_P D vwCl (setM ws is (w1 nad) ++ wn nad) H1 → va_D A (setM ws is (w1 nad) ++ wn nad) → va_S A H0 H1 locs1 → W p l e R s m args below meth c H1 locs1 (cells + mc) (slots + ms) Q (F0 m (pc + 3) ls (st1 nad))) : W p l e R s m args below meth c H locs cells slots Q (F0 m pc ls st0) :=
  callQN (va_runV S hM cw ⟨PW_blind, hrecv, PW_mk hK hN (P_pl hP hC) hRc (DP_sub hD hnd hC) hsep⟩ rfl hn hsz hst0 (lv_room (pc := pc) (ls := ls) (rest := st0) hroom) hdg hf) hnd hC ha hP hD hS hA hst kk
theorem iiN (S : CallFix p m c cc nL s args Ts own) (hK : va_K D vwCl (TYs cy) s) (hN : NK s) (hM : Met l y wsy rm (PW D cy (.ref b :: As) H.size wc Rc) (QN D val0 true wx val2 (fun nad => w1 nad ++ wn nad) (va_A wc H.size)) mc ms (va_A wc H.size)) (cw : CallB R s args own index y bytes maxL none wsy rm mc ms n ∧ y.name = "<init>" ∧ (Cond.instanceMethod y).before args s = true)
    (hP : va_P D vwCl ws H) (hD : va_D A ws) (hS : va_S A H0 H locs) (hA : ∀ q, H0.size ≤ q → A q) (hRc : va_P D vwCl Rc H) (hsep : sepW Rc wc)
    (hnd : va_nd is = true) (hC : is.map (fun i => ws[i]?) = wc.map some) (ha : ∀ nad, (w1 nad).map Prod.fst = wc.map Prod.fst) (hn : As.length = n) (hsz : ls.size = nL) (hst0 : st0 = As.reverse ++ .ref b :: rest) (hroom : (rest.map fun v => v.category).sum ≤ 8) (hst : ∀ nad, st1 nad = (val2 nad).toList ++ rest) (hdg : decode cc pc = .ok (.invokespecial index, 3)) (hf : cells + mc ≤ R.cells ∧ slots + ms ≤ R.slots)
    (kk : ∀ (nad : Nat → Nat) (H1 : Heap) (locs1 : List Loc), va_P D vwCl (setM ws is (w1 nad) ++ wn nad) H1 → va_D A (setM ws is (w1 nad) ++ wn nad) → va_S A H0 H1 locs1 → W p l e R s m args below meth c H1 locs1 (cells + mc) (slots + ms) Q (F0 m (pc + 3) ls (st1 nad))) : W p l e R s m args below meth c H locs cells slots Q (F0 m pc ls st0) :=
  callQN (va_runI S hM cw ⟨PW_blind, PW_mk hK hN (P_pl hP hC) hRc (DP_sub hD hnd hC) hsep⟩ rfl hn hsz hst0 (lv_room (pc := pc) (ls := ls) (rest := st0) hroom) hdg hf) hnd hC ha hP hD hS hA hst kk
theorem iiW (S : CallFix p m c cc nL s args Ts own) (hK : va_K D vwCl (TYs cy) s) (hN : NK s) (hM : Met l y wsy rm (PW D cy (.ref b :: As) H.size wc Rc) (QW D val w1c (va_A wc H.size)) 0 0 (va_A wc H.size)) (cw : CallB R s args own index y bytes maxL none wsy rm 0 0 n ∧ y.name = "<init>" ∧ (Cond.instanceMethod y).before args s = true)
    (hP : va_P D vwCl ws H) (hD : va_D A ws) (hS : va_S A H0 H locs) (hA : ∀ q, H0.size ≤ q → A q) (hRc : va_P D vwCl Rc H) (hsep : sepW Rc wc)
    (hnd : va_nd is = true) (hC : is.map (fun i => ws[i]?) = wc.map some) (ha : w1c.map Prod.fst = wc.map Prod.fst) (hn : As.length = n) (hsz : ls.size = nL) (hst0 : st0 = As.reverse ++ .ref b :: rest) (hroom : (rest.map fun v => v.category).sum ≤ 8) (hst : st1c = val.toList ++ rest) (hdg : decode cc pc = .ok (.invokespecial index, 3)) (hf : cells ≤ R.cells ∧ slots ≤ R.slots)
    (kk : ∀ (H1 : Heap) (locs1 : List Loc), va_P D vwCl (setM ws is w1c) H1 → va_D A (setM ws is w1c) → va_S A H0 H1 locs1 → W p l e R s m args below meth c H1 locs1 cells slots Q (F0 m (pc + 3) ls st1c)) : W p l e R s m args below meth c H locs cells slots Q (F0 m pc ls st0) :=
  callQW (va_runI S hM cw ⟨PW_blind, PW_mk hK hN (P_pl hP hC) hRc (DP_sub hD hnd hC) hsep⟩ rfl hn hsz hst0 (lv_room (pc := pc) (ls := ls) (rest := st0) hroom) hdg hf) hnd hC ha hP hD hS hA hst kk
end NCALLS
