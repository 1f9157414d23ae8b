/-! arrays of arrays, optional references, rows of the pools -/
def rwo (ad : Nat → Nat) (k : Nat) : Nat → Option Nat := fun i => if i < 7 then some (ad (k + i)) else none
theorem row7 {P : Nat → Prop} (h0 : P 0) (h1 : P 1) (h2 : P 2) (h3 : P 3) (h4 : P 4) (h5 : P 5) (h6 : P 6) {k : Nat} (hk : k < 7) : P k := by
  match k, hk with
  | 0, _ => exact h0
  | 1, _ => exact h1
  | 2, _ => exact h2
  | 3, _ => exact h3
  | 4, _ => exact h4
  | 5, _ => exact h5
  | 6, _ => exact h6
theorem in_lt {i : Int32} {n : Nat} (h : vp_in i n) : i.toNatClampNeg < n := Nat.not_le.mp fun q => h (Or.inr q)
theorem P_cast {D : va_G} {ws ws' : va_W} {H : Heap} (h : ws = ws') (hP : va_P D vwCl ws H) : va_P D vwCl ws' H := h ▸ hP
theorem D_cast {A : Nat → Prop} {ws ws' : va_W} (h : ws = ws') (hD : va_D A ws) : va_D A ws' := h ▸ hD
theorem P_right {D : va_G} {X Y : va_W} {H : Heap} (h : va_P D vwCl (X ++ Y) H) : va_P D vwCl Y H := by
  intro k q hk
  have h1 : (X ++ Y)[X.length + k]? = some q := by rw [List.getElem?_append_right (by omega), Nat.add_sub_cancel_left]; exact hk
  exact h _ q h1
theorem nA_right {A : Nat → Prop} {X Y : va_W} (h : ∀ (k : Nat) (q : Nat × va_E), (X ++ Y)[k]? = some q → ¬ A q.1) : ∀ (k : Nat) (q : Nat × va_E), Y[k]? = some q → ¬ A q.1 := by
  intro k q hk
  have h1 : (X ++ Y)[X.length + k]? = some q := by rw [List.getElem?_append_right (by omega), Nat.add_sub_cancel_left]; exact hk
  exact h _ q h1
section ROWS
variable {p : Program} {l : Launch} {e : Env} {R : Room} {s : State} {m : MethodId} {args : Array Value} {below : List Frame} {meth : Method} {c : Code} {H : Heap} {locs : List Loc} {cells slots : Nat} {Q : State → Prop}
variable {cc : ByteArray} {pc : Nat} {ls : Array Slot} {rest : List Value} {D : va_G} {cl : List vw_C} {A : Nat → Prop} {a : Nat} {tys : List (ClassId × FieldType)} {ws : va_W} {H0 : Heap}
theorem va_aldI (hexec : p.tables.exec = Jvm.exec) (hb : c.code = cc) (hK : va_K D cl tys s) (hP : va_P D cl ws H) (q0 t0 : Nat) {cA : ClassId} {ad : Nat → Nat} {k : Nat} (ha : ws[q0]? = some (a, .inl (cA, 7, .inr (.inr (.inr (.inr (rwo ad k))))))) (ht : tys[t0]? = some (cA, .array .int)) {i : Int32} (hin : vp_in i 7) (hdg : decode cc pc = .ok (.aaload, 1))
    (kk : W p l e R s m args below meth c H locs cells slots Q (F0 m (pc + 1) ls (.ref (ad (k + i.toNatClampNeg)) :: rest))) : W p l e R s m args below meth c H locs cells slots Q (F0 m pc ls (.int i :: .ref a :: rest)) := by
  have hlt : i.toNatClampNeg < 7 := in_lt hin
  have hv : va_rf (rwo ad k i.toNatClampNeg) = .ref (ad (k + i.toNatClampNeg)) := by rw [rwo, if_pos hlt]; rfl
  refine W.aald (v := va_rf (rwo ad k i.toNatClampNeg)) (ty := .array .int) hexec hb (hP q0 _ ha) ((hK.2 t0 _ ht).1 7 (fun j => va_rf (rwo ad k j))) rfl (fun q => by cases q) (by show ¬ (i < 0 ∨ (arrV _ _ _).slots.size ≤ _); rw [arrV_size]; exact hin) (by show (arrV _ _ _).slots[_]? = _; rw [arrV_read _ _ hlt]) rfl rfl hdg ?_
  rw [hv]
  exact kk
theorem top_q {x : Option Nat} (k : ∀ y : Option Nat, y = x → W p l e R s m args below meth c H locs cells slots Q (F0 m pc ls (va_rf y :: rest))) : W p l e R s m args below meth c H locs cells slots Q (F0 m pc ls (va_rf x :: rest)) := k x rfl
theorem as_ref {x : Option Nat} {b : Nat} (h : x = some b) (k : W p l e R s m args below meth c H locs cells slots Q (F0 m pc ls (.ref b :: rest))) : W p l e R s m args below meth c H locs cells slots Q (F0 m pc ls (va_rf x :: rest)) := by subst h; exact k
theorem lv_Qastore (hexec : p.tables.exec = Jvm.exec) (hb : c.code = cc) {i nL : Nat} {x : Option Nat} {lv lv' : List (Nat × Value)} (hdg : decode cc pc = .ok (.astore i, 2)) (h : lv_has ls nL lv) (hn : i < nL) (hl : (i, va_rf x) :: lv.filter (fun q => !(q.1 == i) && !(q.1 + 1 == i && q.2.category == 2)) = lv') (k : ∀ ls' : Array Slot, lv_has ls' nL lv' → W p l e R s m args below meth c H locs cells slots Q (F0 m (pc + 2) ls' rest)) : W p l e R s m args below meth c H locs cells slots Q (F0 m pc ls (va_rf x :: rest)) := by
  cases x with
  | none => exact lv_astoreN hexec hb hdg h hn hl k
  | some b => exact lv_astore hexec hb hdg h hn hl k
theorem lv_Qastore_n (hexec : p.tables.exec = Jvm.exec) (hb : c.code = cc) {i : Fin 4} {j nL : Nat} {x : Option Nat} {lv lv' : List (Nat × Value)} (hdg : decode cc pc = .ok (.astore_n i, 1)) (hi : (i : Nat) = j) (h : lv_has ls nL lv) (hn : j < nL) (hl : (j, va_rf x) :: lv.filter (fun q => !(q.1 == j) && !(q.1 + 1 == j && q.2.category == 2)) = lv') (k : ∀ ls' : Array Slot, lv_has ls' nL lv' → W p l e R s m args below meth c H locs cells slots Q (F0 m (pc + 1) ls' rest)) : W p l e R s m args below meth c H locs cells slots Q (F0 m pc ls (va_rf x :: rest)) := by
  cases x with
  | none => exact lv_astore_nN hexec hb hdg hi h hn hl k
  | some b => exact lv_astore_n hexec hb hdg hi h hn hl k
theorem lv_Qaload (hexec : p.tables.exec = Jvm.exec) (hb : c.code = cc) {i : Nat} {x : Option Nat} (hdg : decode cc pc = .ok (.aload i, 2)) (hl : ls[i]? = some (.val (va_rf x))) (k : W p l e R s m args below meth c H locs cells slots Q (F0 m (pc + 2) ls (va_rf x :: rest))) : W p l e R s m args below meth c H locs cells slots Q (F0 m pc ls rest) := by
  cases x with
  | none => exact lv_aloadN hexec hb hdg hl k
  | some b => exact lv_aload hexec hb hdg hl k
theorem lv_Qaload_n (hexec : p.tables.exec = Jvm.exec) (hb : c.code = cc) {i : Fin 4} {j : Nat} {x : Option Nat} (hdg : decode cc pc = .ok (.aload_n i, 1)) (hi : (i : Nat) = j) (hl : ls[j]? = some (.val (va_rf x))) (k : W p l e R s m args below meth c H locs cells slots Q (F0 m (pc + 1) ls (va_rf x :: rest))) : W p l e R s m args below meth c H locs cells slots Q (F0 m pc ls rest) := by
  cases x with
  | none => exact lv_aload_nN hexec hb hdg hi hl k
  | some b => exact lv_aload_n hexec hb hdg hi hl k
end ROWS
/-- the MAPs: their objects, their numbers -/
def sgP (cy : Nat → ClassId) (PL : List Nat) (ppp : Nat → Int32) (pca : Nat → Nat) (pdg ptd : Nat → Int32) (pcc : Nat → Nat → Int32) : va_W := PL.map (fun a => (a, .inr (2, [.int (ppp a), .ref (pca a), .int (pdg a), .int (ptd a)]))) ++ PL.map (fun a => (pca a, .inl (cy 0, 5, .inl (pcc a))))
/-- the SHEETs: their objects, their items -/
def sgS (cy : Nat → ClassId) (SL : List Nat) (sln : Nat → Int32) (sia : Nat → Nat) (snn : Nat → Nat) (svv : Nat → Nat → Int64) : va_W := SL.map (fun a => (a, .inr (5, [.int (sln a), .ref (sia a)]))) ++ SL.map (fun a => (sia a, .inl (cy 1, snn a, .inr (.inl (svv a)))))
def adP (f : Nat → Nat) (a : Nat) : Nat → Nat := fun i => if i = 0 then a else f a
theorem mem_at {w : va_W} {q : Nat × va_E} (h : q ∈ w) : ∃ k : Nat, w[k]? = some q := List.getElem?_of_mem h
theorem P_two {D : va_G} {w : va_W} {H : Heap} {q1 q2 : Nat × va_E} (hP : va_P D vwCl w H) (h1 : q1 ∈ w) (h2 : q2 ∈ w) : va_P D vwCl [q1, q2] H := by
  obtain ⟨k1, e1⟩ := mem_at h1
  obtain ⟨k2, e2⟩ := mem_at h2
  intro k q hk
  match k, hk with
  | 0, hk => cases hk; exact hP k1 _ e1
  | 1, hk => cases hk; exact hP k2 _ e2
theorem nA_two {A : Nat → Prop} {w : va_W} {q1 q2 : Nat × va_E} (hn : ∀ (k : Nat) (q : Nat × va_E), w[k]? = some q → ¬ A q.1) (h1 : q1 ∈ w) (h2 : q2 ∈ w) : ∀ (k : Nat) (q : Nat × va_E), ([q1, q2] : va_W)[k]? = some q → ¬ A q.1 := by
  obtain ⟨k1, e1⟩ := mem_at h1
  obtain ⟨k2, e2⟩ := mem_at h2
  intro k q hk
  match k, hk with
  | 0, hk => cases hk; exact hn k1 _ e1
  | 1, hk => cases hk; exact hn k2 _ e2
theorem sgP_1 {cy : Nat → ClassId} {PL : List Nat} {ppp : Nat → Int32} {pca : Nat → Nat} {pdg ptd : Nat → Int32} {pcc : Nat → Nat → Int32} {a : Nat} (h : a ∈ PL) : (a, .inr (2, [.int (ppp a), .ref (pca a), .int (pdg a), .int (ptd a)])) ∈ sgP cy PL ppp pca pdg ptd pcc := List.mem_append_left _ (List.mem_map.mpr ⟨a, h, rfl⟩)
theorem sgP_2 {cy : Nat → ClassId} {PL : List Nat} {ppp : Nat → Int32} {pca : Nat → Nat} {pdg ptd : Nat → Int32} {pcc : Nat → Nat → Int32} {a : Nat} (h : a ∈ PL) : (pca a, .inl (cy 0, 5, .inl (pcc a))) ∈ sgP cy PL ppp pca pdg ptd pcc := List.mem_append_right _ (List.mem_map.mpr ⟨a, h, rfl⟩)
theorem sgS_1 {cy : Nat → ClassId} {SL : List Nat} {sln : Nat → Int32} {sia : Nat → Nat} {snn : Nat → Nat} {svv : Nat → Nat → Int64} {a : Nat} (h : a ∈ SL) : (a, .inr (5, [.int (sln a), .ref (sia a)])) ∈ sgS cy SL sln sia snn svv := List.mem_append_left _ (List.mem_map.mpr ⟨a, h, rfl⟩)
theorem sgS_2 {cy : Nat → ClassId} {SL : List Nat} {sln : Nat → Int32} {sia : Nat → Nat} {snn : Nat → Nat} {svv : Nat → Nat → Int64} {a : Nat} (h : a ∈ SL) : (sia a, .inl (cy 1, snn a, .inr (.inl (svv a)))) ∈ sgS cy SL sln sia snn svv := List.mem_append_right _ (List.mem_map.mpr ⟨a, h, rfl⟩)
theorem sgS_at {cy : Nat → ClassId} {X : va_W} {SL : List Nat} {sln : Nat → Int32} {sia : Nat → Nat} {snn : Nat → Nat} {svv : Nat → Nat → Int64} {a : Nat} (h : a ∈ SL) : ∃ k : Nat, (X ++ sgS cy SL sln sia snn svv)[k]? = some (sia a, .inl (cy 1, snn a, .inr (.inl (svv a)))) := mem_at (List.mem_append_right _ (sgS_2 h))
theorem sgS_set {cy : Nat → ClassId} {X : va_W} {SL : List Nat} {sln : Nat → Int32} {sia : Nat → Nat} {snn : Nat → Nat} {svv : Nat → Nat → Int64} {a k : Nat} {f : Nat → Int64} {A : Nat → Prop} (hD : va_D A ((X ++ sgS cy SL sln sia snn svv).set k (sia a, .inl (cy 1, snn a, .inr (.inl f))))) (hk : (X ++ sgS cy SL sln sia snn svv)[k]? = some (sia a, .inl (cy 1, snn a, .inr (.inl (svv a))))) (h : a ∈ SL) : (X ++ sgS cy SL sln sia snn svv).set k (sia a, .inl (cy 1, snn a, .inr (.inl f))) = X ++ sgS cy SL sln sia snn (va_up svv a f) := by
  have hl := (List.getElem?_eq_some_iff.mp hk).1
  -- one place alone has this address
  have uni : ∀ j q, (X ++ sgS cy SL sln sia snn svv)[j]? = some q → q.1 = sia a → j = k := by
    intro j q hj hq
    by_cases e : j = k
    · exact e
    · have h1 : ((X ++ sgS cy SL sln sia snn svv).set k (sia a, .inl (cy 1, snn a, .inr (.inl f))))[j]? = some q := by rw [List.getElem?_set_ne (Ne.symm e)]; exact hj
      have h2 : ((X ++ sgS cy SL sln sia snn svv).set k (sia a, .inl (cy 1, snn a, .inr (.inl f))))[k]? = some (sia a, .inl (cy 1, snn a, .inr (.inl f))) := List.getElem?_set_self hl
      exact hD.1 j k _ _ h1 h2 hq
  have hpos : ∀ i b, SL[i]? = some b → (X ++ sgS cy SL sln sia snn svv)[X.length + SL.length + i]? = some (sia b, .inl (cy 1, snn b, .inr (.inl (svv b)))) := by
    intro i b hb
    unfold sgS
    rw [← List.append_assoc, List.getElem?_append_right (by simp), List.getElem?_map]
    simp only [List.length_append, List.length_map]
    rw [show X.length + SL.length + i - (X.length + SL.length) = i by omega, hb]
    rfl
  apply List.ext_getElem?
  intro j
  by_cases hj : j = k
  · subst hj
    rw [List.getElem?_set_self hl]
    obtain ⟨i, hi⟩ := List.getElem?_of_mem h
    have hji := uni _ _ (hpos i a hi) rfl
    subst hji
    unfold sgS
    rw [← List.append_assoc, List.getElem?_append_right (by simp), List.getElem?_map]
    simp only [List.length_append, List.length_map]
    rw [show X.length + SL.length + i - (X.length + SL.length) = i by omega, hi]
    simp [va_up_self]
  · rw [List.getElem?_set_ne (Ne.symm hj)]
    unfold sgS
    rw [← List.append_assoc, ← List.append_assoc]
    generalize hY : X ++ List.map (fun a => (a, Sum.inr (5, [Value.int (sln a), Value.ref (sia a)]))) SL = Y
    have hYl : Y.length = X.length + SL.length := by rw [← hY]; simp
    by_cases hx : j < X.length + SL.length
    · rw [List.getElem?_append_left (by omega), List.getElem?_append_left (by omega)]
    · rw [List.getElem?_append_right (by omega), List.getElem?_append_right (by omega), List.getElem?_map, List.getElem?_map, hYl]
      cases hb : SL[j - (X.length + SL.length)]? with
      | none => rfl
      | some b =>
        have hne : b ≠ a := by
          intro e
          subst e
          have h2 := hpos _ _ hb
          rw [show X.length + SL.length + (j - (X.length + SL.length)) = j by omega] at h2
          exact hj (uni _ _ h2 rfl)
        simp [va_up_ne _ _ hne]
