/-! contracts over a world of listed cells: what a method's start and end say, and the rows of its calls -/
abbrev va_WL : Type := va_W
def TYs (cy : Nat → ClassId) : List (ClassId × FieldType) := [(cy 0, .int), (cy 1, .long), (cy 2, .int), (cy 3, .object "ReturnPoints$Sheet"), (cy 4, .object "ReturnPoints$Poly"), (cy 5, .array .int)]
/-- no cell of R is one of W's -/
def sepW (R W : va_W) : Prop := ∀ (i j : Nat) (p q : Nat × va_E), R[i]? = some p → W[j]? = some q → p.1 ≠ q.1
theorem sepW_nil (W : va_W) : sepW [] W := fun i j p q h => by simp at h
/-- the three links to private methods of a nest mate -/
def NK (U : State) : Prop := va_Nw (.methodLinkNest RX0 50 yX6_commonDivisor RX6) U ∧ va_Nw (.methodLinkNest RX2 43 yX6_inverse RX6) U ∧ va_Nw (.methodLinkNest RX4 66 yX6_inverse RX6) U
theorem NK_warm {s U : State} (hW : s.WarmedH U.vm) (h : NK s) : NK U := ⟨va_Nw.warmM hW h.1, va_Nw.warmM hW h.2.1, va_Nw.warmM hW h.2.2⟩
theorem NK_same {u U : State} (hv : u.vm = U.vm) (h : NK u) : NK U := ⟨va_Nw.same rfl hv h.1, va_Nw.same rfl hv h.2.1, va_Nw.same rfl hv h.2.2⟩
def PW (D : va_G) (cy : Nat → ClassId) (av : List Value) (sz : Nat) (wc Rc : va_W) : Array Value → State → Prop := fun v U => v = av.toArray ∧ U.heap.size = sz ∧ va_P D vwCl wc U.heap ∧ va_P D vwCl Rc U.heap ∧ va_K D vwCl (TYs cy) U ∧ NK U ∧ va_D (fun _ => True) wc ∧ sepW Rc wc
theorem PW_blind {D : va_G} {cy : Nat → ClassId} {av : List Value} {sz : Nat} {wc Rc : va_W} : FrameBlind (PW D cy av sz wc Rc) := fun a U g mk q => ⟨q.1, q.2.1, q.2.2.1, q.2.2.2.1, va_K.moved (u := U) (U := U.calling g mk a) (Vm.Alike.refl U.vm) q.2.2.2.2.1, NK_same (u := U) (U := U.calling g mk a) rfl q.2.2.2.2.2.1, q.2.2.2.2.2.2.1, q.2.2.2.2.2.2.2⟩
def QW (D : va_G) (val : Option Value) (w1 : va_W) (A : Nat → Prop) : Array Value → State → Outcome → State → Prop := fun _ st o t => o = .returned val ∧ va_P D vwCl w1 t.heap ∧ va_F A st t
def QR (val : Option Value) : Array Value → State → Outcome → State → Prop := fun _ st o t => o = .returned val ∧ t.heap = st.heap
/-- the cells at the places is, set anew -/
def setM (ws : va_W) : List Nat → va_W → va_W
  | i :: is, x :: xs => setM (ws.set i x) is xs
  | _, _ => ws
def no_A : Addr → Prop := fun _ => False
def gd {α : Type} (c : Prop) [Decidable c] (k : Option α) : Option α := if c then k else none
def bd {α β : Type} (a : α) (k : α → β) : β := k a
def ob {α β : Type} (a : Option α) (k : α → Option β) : Option β := match a with
  | none => none
  | some x => k x
theorem gd_e {α : Type} {c : Prop} [Decidable c] {k : Option α} {r : α} (h : gd c k = some r) : c ∧ k = some r := by
  by_cases hc : c
  · exact ⟨hc, by rw [gd, if_pos hc] at h; exact h⟩
  · rw [gd, if_neg hc] at h; cases h
theorem gd_i {α : Type} {c : Prop} [Decidable c] {k : Option α} (h : c) : gd c k = k := by rw [gd, if_pos h]
/-- an index is looked at -/
def gi {α : Type} (i : Int32) (n : Nat) (k : Option α) : Option α := if i < 0 ∨ n ≤ i.toNatClampNeg then none else k
theorem gi_e {α : Type} {i : Int32} {n : Nat} {k : Option α} {r : α} (h : gi i n k = some r) : vp_in i n ∧ k = some r := by
  by_cases hc : i < 0 ∨ n ≤ i.toNatClampNeg
  · rw [gi, if_pos hc] at h; cases h
  · exact ⟨hc, by rw [gi, if_neg hc] at h; exact h⟩
theorem gi_i {α : Type} {i : Int32} {n : Nat} {k : Option α} (h : vp_in i n) : gi i n k = k := by rw [gi, if_neg h]
theorem bd_at {α β : Type} {a x : α} {k : α → β} {r : β} (h : x = a) (e : bd a k = r) : k x = r := by subst h; exact e
theorem ob_e {α β : Type} {a : Option α} {k : α → Option β} {r : β} (h : ob a k = some r) : ∃ x, a = some x ∧ k x = some r := by
  cases a with
  | none => cases h
  | some x => exact ⟨x, rfl, h⟩
theorem ob_i {α β : Type} {a : Option α} {k : α → Option β} {x : α} (h : a = some x) : ob a k = k x := by rw [h]; rfl
theorem it_p {α : Type} {c : Prop} [Decidable c] {a b r : α} (h : c) (e : (if c then a else b) = r) : a = r := by rw [if_pos h] at e; exact e
theorem it_n {α : Type} {c : Prop} [Decidable c] {a b r : α} (h : ¬ c) (e : (if c then a else b) = r) : b = r := by rw [if_neg h] at e; exact e
def irm (x y : Int32) : Int32 := x - x / y * y
def lrm (x y : Int64) : Int64 := x - x / y * y
theorem setM_spec {D : va_G} {A : Nat → Prop} : ∀ (is : List Nat) (ws wc w1 : va_W) (H1 : Heap), va_nd is = true → is.map (fun i => ws[i]?) = wc.map some → w1.map Prod.fst = wc.map Prod.fst → va_D A ws → va_P D vwCl w1 H1 → (∀ (k : Nat) (q : Nat × va_E), ws[k]? = some q → (∀ (j : Nat) (e : va_E), wc[j]? ≠ some (q.1, e)) → va_at D vwCl q H1) → va_P D vwCl (setM ws is w1) H1 ∧ va_D A (setM ws is w1)
  | [], ws, wc, w1, H1, _, h, h1, hD, hP, hk => by
    have e : wc = [] := by
      cases wc with
      | nil => rfl
      | cons a b => simp at h
    subst e
    have e1 : w1 = [] := by
      cases w1 with
      | nil => rfl
      | cons a b => simp at h1
    subst e1
    exact ⟨fun k q hq => hk k q hq (fun j e => by simp), hD⟩
  | i :: is, ws, wc, w1, H1, hnd, h, h1, hD, hP, hk => by
    cases wc with
    | nil => simp at h
    | cons a wc =>
      cases w1 with
      | nil => simp at h1
      | cons x w1 =>
        obtain ⟨xa, xe⟩ := x
        obtain ⟨aa, ae⟩ := a
        simp only [List.map_cons, List.cons.injEq] at h h1
        obtain ⟨hi, h⟩ := h
        obtain ⟨hx, h1⟩ := h1
        have hx : xa = aa := hx
        subst hx
        simp only [va_nd, Bool.and_eq_true, decide_eq_true_eq] at hnd
        have hD' : va_D A (ws.set i (xa, xe)) := hD.set hi
        have hlen : i < ws.length := (List.getElem?_eq_some_iff.mp hi).1
        have hne : ∀ k q, ws[k]? = some q → k ≠ i → q.1 ≠ xa := fun k q hq hki e => hki (hD.1 k i q (xa, ae) hq hi e)
        refine setM_spec is (ws.set i (xa, xe)) wc w1 H1 hnd.2 ?_ h1 hD' (fun k q hq => hP (k + 1) q hq) ?_
        · rw [← h]
          apply List.map_congr_left
          intro k hk2
          exact List.getElem?_set_ne (fun e : i = k => hnd.1 (by rw [e]; exact hk2))
        · intro k q hq hn
          by_cases hki : k = i
          · subst hki
            rw [List.getElem?_set_self hlen] at hq
            cases hq
            exact hP 0 _ rfl
          · rw [List.getElem?_set_ne (Ne.symm hki)] at hq
            refine hk k q hq (fun j e hj => ?_)
            cases j with
            | zero =>
              have h5 := Option.some.inj hj
              exact hne k q hq hki (congrArg Prod.fst h5).symm
            | succ j => exact hn j e hj
theorem rejoin {D : va_G} {A : Nat → Prop} {is : List Nat} {ws wc w1 : va_W} {H H1 : Heap} (hnd : va_nd is = true) (hC : is.map (fun i => ws[i]?) = wc.map some) (ha : w1.map Prod.fst = wc.map Prod.fst) (hP : va_P D vwCl ws H) (hD : va_D A ws) (hP1 : va_P D vwCl w1 H1) (hk : ∀ q : Nat, q < H.size → ¬ va_A wc H.size q → H1[q]? = H[q]?) : va_P D vwCl (setM ws is w1) H1 ∧ va_D A (setM ws is w1) := by
  refine setM_spec is ws wc w1 H1 hnd hC ha hD hP1 (fun k q hq hn => (hP k q hq).kept (hk q.1 (hP k q hq).lt (fun h => ?_)))
  rcases h with ⟨j, e, h⟩ | h
  · exact hn j e h
  · exact absurd (hP k q hq).lt (by omega)
section CALLS
variable {p : Program} {l : Launch} {e : Env} {R : Room} {s : State} {m : MethodId} {args : Array Value} {below : List Frame} {meth : Method} {c : Code} {H : Heap} {locs : List Loc} {cells slots : Nat} {Q : State → Prop}
variable {cc : ByteArray} {pc : Nat} {ls : Array Slot} {rest st0 st1 : List Value} {D : va_G} {cy : Nat → ClassId} {A : Nat → Prop} {ws wc w1 Rc : va_W} {H0 : Heap} {a : Array Value} {val : Option Value} {is : List Nat}
/-- the caller's read-only cells, now -/
theorem roN {R0 : va_W} (hR : va_P D vwCl R0 H0) (hn : ∀ (k : Nat) (q : Nat × va_E), R0[k]? = some q → ¬ A q.1) (hS : va_S A H0 H locs) : va_P D vwCl R0 H := hR.kept (fun k q hq => hS.2.1 q.1 (hR k q hq).lt (hn k q hq))
theorem callQW (hr : va_Run p l e R s m args below meth c H locs cells slots 0 0 (F0 m pc ls st0) rest (QW D val w1 (va_A wc H.size) a) (va_A wc H.size)) (hnd : va_nd is = true) (hC : is.map (fun i => ws[i]?) = wc.map some) (ha : w1.map Prod.fst = wc.map Prod.fst) (hP : va_P D vwCl ws H) (hD : va_D A ws) (hS : va_S A H0 H locs) (hA : ∀ q, H0.size ≤ q → A q) (hst : st1 = val.toList ++ rest)
    (kk : ∀ (H1 : Heap) (locs1 : List Loc), va_P D vwCl (setM ws is w1) H1 → va_D A (setM ws is w1) → va_S A H0 H1 locs1 → W p l e R s m args below meth c H1 locs1 cells slots Q (F0 m (pc + 3) ls st1)) : W p l e R s m args below meth c H locs cells slots Q (F0 m pc ls st0) := by
  intro T hT X
  subst hst
  obtain ⟨v, st₀, t, T', L, h0, X', hL, e1, e2, ⟨hv, hP1, hz, hk⟩, st⟩ := hr T hT X
  have hv : v = val := Outcome.returned.inj hv
  subst hv
  rw [h0] at hz hk
  have hf : ∀ q, va_A wc H.size q → A q := va_free hD hS hA is hC
  obtain ⟨hP2, hD2⟩ := rejoin hnd hC ha hP hD hP1 hk
  obtain ⟨t2, a1, b1⟩ := kk T'.heap (locs ++ L) (by rw [e1]; exact hP2) hD2
    ⟨Nat.le_trans hS.1 (by rw [e1]; exact hz), fun q h1 h2 => by rw [e1, hk q (Nat.lt_of_lt_of_le h1 hS.1) (fun z => h2 (hf q z))]; exact hS.2.1 q h1 h2, fun q hq => by
      rcases List.mem_append.mp hq with h | h
      · exact hS.2.2 q h
      · exact hf _ (hL q h)⟩ T' rfl X'
  exact ⟨t2, st t2 a1, b1⟩
theorem callQR (hr : va_Run p l e R s m args below meth c H locs cells slots 0 0 (F0 m pc ls st0) rest (QR val a) no_A) (hst : st1 = val.toList ++ rest)
    (kk : W p l e R s m args below meth c H locs cells slots Q (F0 m (pc + 3) ls st1)) : W p l e R s m args below meth c H locs cells slots Q (F0 m pc ls st0) := by
  intro T hT X
  subst hst
  obtain ⟨v, st₀, t, T', L, h0, X', hL, e1, e2, ⟨hv, hh⟩, st⟩ := hr T hT X
  have hv : v = val := Outcome.returned.inj hv
  subst hv
  have hL0 : L = [] := by
    cases L with
    | nil => rfl
    | cons x L => exact (hL x List.mem_cons_self).elim
  subst hL0
  rw [List.append_nil] at X'
  obtain ⟨t2, a1, b1⟩ := kk T' (by rw [e1, hh, h0]) X'
  exact ⟨t2, st t2 a1, b1⟩
theorem P_pl (hP : va_P D vwCl ws H) (hC : is.map (fun i => ws[i]?) = wc.map some) : va_P D vwCl wc H := by
  intro k q hq
  have h1 : (is.map (fun i => ws[i]?))[k]? = some (some q) := by rw [hC, List.getElem?_map, hq]; rfl
  rw [List.getElem?_map] at h1
  cases hi : is[k]? with
  | none => rw [hi] at h1; cases h1
  | some i => rw [hi] at h1; exact hP i q (Option.some.inj h1)
theorem roA {Rc wc : va_W} {H : Heap} (hs : sepW Rc wc) (hR : va_P D vwCl Rc H) : ∀ (k : Nat) (q : Nat × va_E), Rc[k]? = some q → ¬ va_A wc H.size q.1 := by
  intro k q hq h
  rcases h with ⟨j, e, h⟩ | h
  · exact hs k j q _ hq h rfl
  · exact absurd (hR k q hq).lt (by omega)
theorem roA0 {A : Nat → Prop} : ∀ (k : Nat) (q : Nat × va_E), ([] : va_W)[k]? = some q → ¬ A q.1 := fun k q h => by simp at h
theorem sep_nA {R0 : va_W} {isR : List Nat} (hn : ∀ (k : Nat) (q : Nat × va_E), R0[k]? = some q → ¬ A q.1) (hD : va_D A ws) (hR : isR.map (fun i => R0[i]?) = Rc.map some) (hC : is.map (fun i => ws[i]?) = wc.map some) : sepW Rc wc := by
  intro i j p q hi hj e
  obtain ⟨k1, -, h1⟩ := va_in_of isR hR hi
  obtain ⟨k2, -, h2⟩ := va_in_of is hC hj
  exact hn k1 p h1 (by rw [e]; exact hD.2 k2 q h2)
theorem sep_D {isR : List Nat} (hD : va_D A ws) (hR : isR.map (fun i => ws[i]?) = Rc.map some) (hC : is.map (fun i => ws[i]?) = wc.map some) (hd : ∀ i ∈ isR, i ∉ is) : sepW Rc wc := by
  intro i j p q hi hj e
  obtain ⟨k1, a1, h1⟩ := va_in_of isR hR hi
  obtain ⟨k2, a2, h2⟩ := va_in_of is hC hj
  have := hD.1 k1 k2 p q h1 h2 e
  subst this
  exact hd k1 (List.mem_of_getElem? a1) (List.mem_of_getElem? a2)
theorem sep_ap {R1 R2 W1 : va_W} (h1 : sepW R1 W1) (h2 : sepW R2 W1) : sepW (R1 ++ R2) W1 := by
  intro i j p q hi hj
  rcases List.mem_append.mp (List.mem_of_getElem? hi) with h | h
  · obtain ⟨k, hk⟩ := List.getElem?_of_mem h
    exact h1 k j p q hk hj
  · obtain ⟨k, hk⟩ := List.getElem?_of_mem h
    exact h2 k j p q hk hj
theorem sep_nl (R1 : va_W) : sepW R1 [] := fun i j p q _ h => by simp at h
variable {y : MethodName} {bytes : ByteArray} {maxL nL n index : Nat} {ret : Option FieldType} {wsy : List Cond} {rm : Room} {Ts : List Cond} {own C : String} {b : Addr} {As : List Value}
theorem PW_mk (hK : va_K D vwCl (TYs cy) s) (hN : NK s) (hPc : va_P D vwCl wc H) (hRc : va_P D vwCl Rc H) (hDc : va_D A wc) (hsep : sepW Rc wc) {av : List Value} : ∀ U : State, U.heap = H → s.WarmedH U.vm → PW D cy av H.size wc Rc av.toArray U := fun U hU hW => ⟨rfl, by rw [hU], by rw [hU]; exact hPc, by rw [hU]; exact hRc, va_K.moved hW.alike hK, NK_warm hW hN, hDc.weaken (fun _ _ _ _ => trivial), hsep⟩
theorem DP_sub {is : List Nat} (hD : va_D A ws) (hnd : va_nd is = true) (hC : is.map (fun i => ws[i]?) = wc.map some) : va_D A wc := hD.sub is hnd hC
/-- a call of an instance method that writes -/
theorem ivW (S : CallFix p m c cc nL s args Ts own) (hK : va_K D vwCl (TYs cy) s) (hN : NK s) (hM : Met l y wsy rm (PW D cy (.ref b :: As) H.size wc Rc) (QW D val w1 (va_A wc H.size)) 0 0 (va_A wc H.size)) (cw : CallW R s args own C index y bytes maxL ret wsy rm 0 0 n)
    (hrecv : ∃ cellB : Cell, H[b]? = some cellB ∧ cellB.vm.isStatics = false ∧ s.vm.findClass C = some cellB.cls) (hP : va_P D vwCl ws H) (hD : va_D A ws) (hS : va_S A H0 H locs) (hA : ∀ q, H0.size ≤ q → A q) (hRc : va_P D vwCl Rc H) (hsep : sepW Rc wc)
    (hnd : va_nd is = true) (hC : is.map (fun i => ws[i]?) = wc.map some) (ha : w1.map Prod.fst = wc.map Prod.fst) (hn : As.length = n) (hsz : ls.size = nL) (hst0 : st0 = As.reverse ++ .ref b :: rest) (hroom : (rest.map fun v => v.category).sum ≤ 8) (hst : st1 = val.toList ++ rest) (hdg : decode cc pc = .ok (.invokevirtual index, 3)) (hf : cells ≤ R.cells ∧ slots ≤ R.slots)
    (kk : ∀ (H1 : Heap) (locs1 : List Loc), va_P D vwCl (setM ws is w1) H1 → va_D A (setM ws is w1) → va_S A H0 H1 locs1 → W p l e R s m args below meth c H1 locs1 cells slots Q (F0 m (pc + 3) ls st1)) : W p l e R s m args below meth c H locs cells slots Q (F0 m pc ls st0) :=
  callQW (va_runV S hM cw ⟨PW_blind, hrecv, PW_mk hK hN (P_pl hP hC) hRc (DP_sub hD hnd hC) hsep⟩ rfl hn hsz hst0 (lv_room (pc := pc) (ls := ls) (rest := st0) hroom) hdg hf) hnd hC ha hP hD hS hA hst kk
/-- a call of an instance method that reads -/
theorem ivR (S : CallFix p m c cc nL s args Ts own) (hK : va_K D vwCl (TYs cy) s) (hN : NK s) (hM : Met l y wsy rm (PW D cy (.ref b :: As) H.size [] Rc) (QR val) 0 0 no_A) (cw : CallW R s args own C index y bytes maxL ret wsy rm 0 0 n)
    (hrecv : ∃ cellB : Cell, H[b]? = some cellB ∧ cellB.vm.isStatics = false ∧ s.vm.findClass C = some cellB.cls) (hRc : va_P D vwCl Rc H)
    (hn : As.length = n) (hsz : ls.size = nL) (hst0 : st0 = As.reverse ++ .ref b :: rest) (hroom : (rest.map fun v => v.category).sum ≤ 8) (hst : st1 = val.toList ++ rest) (hdg : decode cc pc = .ok (.invokevirtual index, 3)) (hf : cells ≤ R.cells ∧ slots ≤ R.slots)
    (kk : W p l e R s m args below meth c H locs cells slots Q (F0 m (pc + 3) ls st1)) : W p l e R s m args below meth c H locs cells slots Q (F0 m pc ls st0) :=
  callQR (va_runV S hM cw ⟨PW_blind, hrecv, PW_mk (A := fun _ => True) hK hN (fun k q h => by simp at h) hRc ⟨fun i j p q h => by simp at h, fun k q h => by simp at h⟩ (sep_nl _)⟩ rfl hn hsz hst0 (lv_room (pc := pc) (ls := ls) (rest := st0) hroom) hdg hf) hst kk
/-- a call of a static method that writes -/
theorem isW (S : CallFix p m c cc nL s args Ts own) (hK : va_K D vwCl (TYs cy) s) (hN : NK s) (hM : Met l y wsy rm (PW D cy As H.size wc Rc) (QW D val w1 (va_A wc H.size)) 0 0 (va_A wc H.size)) (cw : CallB R s args own index y bytes maxL ret wsy rm 0 0 n ∧ (Cond.static y).before args s = true)
    (hP : va_P D vwCl ws H) (hD : va_D A ws) (hS : va_S A H0 H locs) (hA : ∀ q, H0.size ≤ q → A q) (hRc : va_P D vwCl Rc H) (hsep : sepW Rc wc)
    (hnd : va_nd is = true) (hC : is.map (fun i => ws[i]?) = wc.map some) (ha : w1.map Prod.fst = wc.map Prod.fst) (hn : As.length = n) (hsz : ls.size = nL) (hst0 : st0 = As.reverse ++ rest) (hroom : (rest.map fun v => v.category).sum ≤ 8) (hst : st1 = val.toList ++ rest) (hdg : decode cc pc = .ok (.invokestatic index, 3)) (hf : cells ≤ R.cells ∧ slots ≤ R.slots)
    (kk : ∀ (H1 : Heap) (locs1 : List Loc), va_P D vwCl (setM ws is w1) H1 → va_D A (setM ws is w1) → va_S A H0 H1 locs1 → W p l e R s m args below meth c H1 locs1 cells slots Q (F0 m (pc + 3) ls st1)) : W p l e R s m args below meth c H locs cells slots Q (F0 m pc ls st0) :=
  callQW (va_runS S hM cw ⟨PW_blind, PW_mk hK hN (P_pl hP hC) hRc (DP_sub hD hnd hC) hsep⟩ rfl hn hsz hst0 (lv_room (pc := pc) (ls := ls) (rest := st0) hroom) hdg hf) hnd hC ha hP hD hS hA hst kk
/-- a call of a static method that reads -/
theorem isR (S : CallFix p m c cc nL s args Ts own) (hK : va_K D vwCl (TYs cy) s) (hN : NK s) (hM : Met l y wsy rm (PW D cy As H.size [] Rc) (QR val) 0 0 no_A) (cw : CallB R s args own index y bytes maxL ret wsy rm 0 0 n ∧ (Cond.static y).before args s = true) (hRc : va_P D vwCl Rc H)
    (hn : As.length = n) (hsz : ls.size = nL) (hst0 : st0 = As.reverse ++ rest) (hroom : (rest.map fun v => v.category).sum ≤ 8) (hst : st1 = val.toList ++ rest) (hdg : decode cc pc = .ok (.invokestatic index, 3)) (hf : cells ≤ R.cells ∧ slots ≤ R.slots)
    (kk : W p l e R s m args below meth c H locs cells slots Q (F0 m (pc + 3) ls st1)) : W p l e R s m args below meth c H locs cells slots Q (F0 m pc ls st0) :=
  callQR (va_runS S hM cw ⟨PW_blind, PW_mk (A := fun _ => True) hK hN (fun k q h => by simp at h) hRc ⟨fun i j p q h => by simp at h, fun k q h => by simp at h⟩ (sep_nl _)⟩ rfl hn hsz hst0 (lv_room (pc := pc) (ls := ls) (rest := st0) hroom) hdg hf) hst kk
/-- a call of a nest mate's private static method that reads -/
theorem inR {host : String} (S : CallFix p m c cc nL s args Ts own) (hK : va_K D vwCl (TYs cy) s) (hN : NK s) (hM : Met l y wsy rm (PW D cy As H.size [] Rc) (QR val) 0 0 no_A) (cw : va_CN R s args own index y host bytes maxL ret wsy rm 0 0 n ∧ (Cond.static y).before args s = true ∧ True) (hRc : va_P D vwCl Rc H)
    (hn : As.length = n) (hsz : ls.size = nL) (hst0 : st0 = As.reverse ++ rest) (hroom : (rest.map fun v => v.category).sum ≤ 8) (hst : st1 = val.toList ++ rest) (hdg : decode cc pc = .ok (.invokestatic index, 3)) (hf : cells ≤ R.cells ∧ slots ≤ R.slots)
    (kk : W p l e R s m args below meth c H locs cells slots Q (F0 m (pc + 3) ls st1)) : W p l e R s m args below meth c H locs cells slots Q (F0 m pc ls st0) :=
  callQR (va_runSN S hM cw ⟨PW_blind, PW_mk (A := fun _ => True) hK hN (fun k q h => by simp at h) hRc ⟨fun i j p q h => by simp at h, fun k q h => by simp at h⟩ (sep_nl _)⟩ rfl hn hsz hst0 (lv_room (pc := pc) (ls := ls) (rest := st0) hroom) hdg hf) hst kk
theorem rw_irem {x y : Int32} (hexec : p.tables.exec = Jvm.exec) (hb : c.code = cc) (hdg : decode cc pc = .ok (.irem, 1)) (hne : ¬ y = 0) (k : W p l e R s m args below meth c H locs cells slots Q (F0 m (pc + 1) ls (.int (irm x y) :: rest))) : W p l e R s m args below meth c H locs cells slots Q (F0 m pc ls (.int y :: .int x :: rest)) := lv_irem hexec hb hdg hne k
theorem rw_lrem {x y : Int64} (hexec : p.tables.exec = Jvm.exec) (hb : c.code = cc) (hdg : decode cc pc = .ok (.lrem, 1)) (hne : ¬ y = 0) (k : W p l e R s m args below meth c H locs cells slots Q (F0 m (pc + 1) ls (.long (lrm x y) :: rest))) : W p l e R s m args below meth c H locs cells slots Q (F0 m pc ls (.long y :: .long x :: rest)) := lv_lrem hexec hb hdg hne k
end CALLS
def bi (b : Bool) : Int32 := if b then 1 else 0
theorem nar_bi (b : Bool) : narrow .boolean (.int (bi b)) = .int (bi b) := by cases b <;> rfl
def FU : Nat := 100000
theorem FU_s (n : Nat) (h : n < 100000) : ∃ k, FU = k + 1 + n := ⟨99999 - n, by unfold FU; omega⟩
/-- an optional reference, by cases -/
def oq {α : Type} (o : Option Nat) (A : Option α) (B : Nat → Option α) : Option α := match o with
  | none => A
  | some a => B a
theorem oq_e {α : Type} {o : Option Nat} {A : Option α} {B : Nat → Option α} {r : α} (h : oq o A B = some r) : (o = none ∧ A = some r) ∨ ∃ a, o = some a ∧ B a = some r := by
  cases o with
  | none => exact Or.inl ⟨rfl, h⟩
  | some a => exact Or.inr ⟨a, rfl, h⟩
theorem P_nil {D : va_G} {H : Heap} : va_P D vwCl [] H := fun k q h => by simp at h
theorem ent_ok {m : MethodId} {args : Array Value} (vs : List Value) {n : Nat} {l' : List (Nat × Value)} (hav : args = vs.toArray) (h : (lg_sl vs).length ≤ n) (hl : lv_args 0 vs = l') : ∃ ls, entryFrame m args n = F0 m 0 ls [] ∧ lv_has ls n l' := by
  subst hav
  subst hl
  exact ⟨_, lg_entry_eq .., lv_entry vs h⟩
theorem ne_toInt {x k : Int32} (h : ¬ x = k) : x.toInt ≠ k.toInt := fun e => h (Int32.toInt_inj.mp e)
def iab (x : Int32) : Int32 := if 0 ≤ x then x else 0 - x
def imx (x y : Int32) : Int32 := if x < y then y else x
def imn (x y : Int32) : Int32 := if y < x then y else x
