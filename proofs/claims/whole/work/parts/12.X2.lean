def wX2_0 (cy : Nat → ClassId) (ad : Nat → Nat) (pp : Int32) (pd : Int32) (pt : Int32) : va_W := [(ad 0, .inr (2, [.int pp, .ref (ad 1), .int pd, .int pt]))]
def wX2_0_1 (cy : Nat → ClassId) (ad : Nat → Nat) (pn : Nat) (pp : Int32) (pd : Int32) (pt : Int32) (pc : Nat → Int32) : va_W := [(ad 0, .inr (2, [.int pp, .ref (ad 1), .int pd, .int pt])), (ad 1, .inl (cy 0, pn, .inl pc))]
def FX2_degreeOf_L5   (n : Nat) (f : Nat → Int32) : Nat → Int32 → Option (Int32)
  | 0, _ => none
  | fuel + 1, x1_5 => (if x1_5 ≤ 0 then (some (x1_5)) else (gi x1_5 n (if (f (Int32.toNatClampNeg x1_5)) = 0 then (bd (x1_5 + (-1)) (fun v_15 => (FX2_degreeOf_L5 n f fuel) v_15)) else (some (x1_5)))))
def FX2_degreeOf  (n : Nat) (f : Nat → Int32)  : Option (Int32) := (bd ((Int32.ofNat n) - 1) (fun v_4 => FX2_degreeOf_L5 n f FU v_4))
abbrev RMX2_degreeOf : Room := { frames := 0, cells := 0, slots := 0, locals := 0 }
set_option maxHeartbeats 4000000 in
set_option maxRecDepth 100000 in
theorem KX2_degreeOf (l : Launch) (D : va_G) (cy : Nat → ClassId) (q0 : Nat) (n : Nat) (f : Nat → Int32)  (sz : Nat) {out : Int32} (hf : FX2_degreeOf n f = some out) : Met l yX2_degreeOf wsX2_degreeOf RMX2_degreeOf (PW D cy [.ref q0] sz [] ((waI cy q0 n f))) (QR (some (.int out))) 0 0 no_A := by
  refine Met.ofW (cc := cX2_degreeOf) (maxL := 2) (ret := (some .int)) (by decide +kernel) rfl ?_
  intro p e s m args below meth c s₁ B hml hv
  obtain ⟨hav, hsz, hP, hR0, hK, hN, hD0, hsep⟩ := hv
  have hx := B.exec
  have hb := B.bytes
  have hr := B.returns
  have hts := atoms_spec (ws := wsX2_degreeOf) B.pre
  have hown : s.vm.findClass RX2 = some m.cls := findClass_of_methodNamed B.named
  have hlocks := B.notSynchronized
  subst hsz
  obtain ⟨ls, hfr, hl⟩ := ent_ok (m := m) (n := 2) (l' := [(0, .ref q0)]) [.ref q0] hav (Nat.le_of_ble_eq_true rfl) rfl
  rw [hfr]
  generalize hQe : MQ below (QR (some (.int out))) args s 0 0 no_A = QQ
  change W p l e RMX2_degreeOf s m args below meth c s.heap [] 0 0 QQ (F0 m 0 ls [])
  have L5 : ∀  (n5 : Nat) (ls : Array Slot) (x1_5 : Int32), FX2_degreeOf_L5 n f n5 x1_5 = some out → lv_has ls 2 [(0, .ref q0), (1, .int x1_5)] → W p l e RMX2_degreeOf s m args below meth c s.heap [] 0 0 QQ (F0 m 5 ls []) := by
    intro  n5
    induction n5 with
    | zero => intro ls x1_5 hf; simp [FX2_degreeOf_L5] at hf
    | succ n5 ih5 =>
      intro ls x1_5 hf hl
      rw [FX2_degreeOf_L5] at hf
      refine lv_iload_n hx hb dX2_degreeOf_5 rfl (lv_at hl 1 rfl) ?_
      refine lv_if_le (tgt := 21) hx hb dX2_degreeOf_6 (by decide) (fun c_6 => ?_) (fun c_6 => ?_)
      · replace hf := it_p c_6 hf
        refine lv_iload_n hx hb dX2_degreeOf_21 rfl (lv_at hl 1 rfl) ?_
        obtain rfl := Option.some.inj hf
        rw [← hQe]
        exact W.iret (v := x1_5) hx hb hr (fun t ht hW => ⟨rfl, ht⟩) (fun q h => by cases h) dX2_degreeOf_22
      · replace hf := it_n c_6 hf
        refine lv_aload_n hx hb dX2_degreeOf_9 rfl (lv_at hl 0 rfl) ?_
        refine lv_iload_n hx hb dX2_degreeOf_10 rfl (lv_at hl 1 rfl) ?_
        replace hf := gi_e hf
        obtain ⟨i_11, hf⟩ := hf
        refine va_iald (a := q0) hx hb hK hR0 0 0 rfl rfl i_11 dX2_degreeOf_11 ?_
        refine lv_if_ne (tgt := 21) hx hb dX2_degreeOf_12 (by decide) (fun c_12 => ?_) (fun c_12 => ?_)
        · replace hf := it_n c_12 hf
          refine lv_iload_n hx hb dX2_degreeOf_21 rfl (lv_at hl 1 rfl) ?_
          obtain rfl := Option.some.inj hf
          rw [← hQe]
          exact W.iret (v := x1_5) hx hb hr (fun t ht hW => ⟨rfl, ht⟩) (fun q h => by cases h) dX2_degreeOf_22
        · replace hf := it_p c_12 hf
          obtain ⟨v_15, e_15⟩ : ∃ y : Int32, y = x1_5 + (-1) := ⟨_, rfl⟩
          replace hf := bd_at e_15 hf
          refine lv_iinc (v := v_15) (lv' := [(1, .int v_15), (0, .ref q0)]) hx hb dX2_degreeOf_15 hl (k := 1) rfl (by rw [e_15]; rfl) (by decide) rfl (fun ls hl => ?_)
          clear e_15
          refine lv_goto (tgt := 5) hx hb dX2_degreeOf_18 (by decide) ?_
          exact ih5 ls v_15 hf (lv_sub hl [1, 0] rfl)
  unfold FX2_degreeOf at hf
  refine lv_aload_n hx hb dX2_degreeOf_0 rfl (lv_at hl 0 rfl) ?_
  refine va_alen (a := q0) (v := (Int32.ofNat n)) hx hb hK hR0 0 0 rfl rfl rfl dX2_degreeOf_1 ?_
  refine lv_iconst (v := 1) hx hb dX2_degreeOf_2 (by decide) ?_
  refine lv_isub hx hb dX2_degreeOf_3 ?_
  refine lv_topi (fun v_4 e_4 => ?_)
  replace hf := bd_at e_4 hf
  clear e_4
  refine lv_istore_n (lv' := [(1, .int v_4), (0, .ref q0)]) hx hb dX2_degreeOf_4 rfl hl (by decide) rfl (fun ls hl => ?_)
  exact L5 FU ls v_4 hf (lv_sub hl [1, 0] rfl)
def FX2_toldOf  (n : Nat) (f : Nat → Int32) (x2 : Int32) : Option (Int32) := (if x2 = 0 then (some (1)) else if x2 = 1 then (some (2)) else if x2 = 2 then (gi 2 n (if (f (Int32.toNatClampNeg 2)) = 1 then (gi 1 n (if (f (Int32.toNatClampNeg 1)) = 0 then ((some (4))) else ((some (3))))) else ((some (3))))) else (some (5)))
abbrev RMX2_toldOf : Room := { frames := 0, cells := 0, slots := 0, locals := 0 }
set_option maxHeartbeats 4000000 in
set_option maxRecDepth 100000 in
theorem KX2_toldOf (l : Launch) (D : va_G) (cy : Nat → ClassId) (q0 : Nat) (n : Nat) (f : Nat → Int32) (x2 : Int32) (sz : Nat) {out : Int32} (hf : FX2_toldOf n f x2 = some out) : Met l yX2_toldOf wsX2_toldOf RMX2_toldOf (PW D cy [.ref q0, .int x2] sz [] ((waI cy q0 n f))) (QR (some (.int out))) 0 0 no_A := by
  refine Met.ofW (cc := cX2_toldOf) (maxL := 2) (ret := (some .int)) (by decide +kernel) rfl ?_
  intro p e s m args below meth c s₁ B hml hv
  obtain ⟨hav, hsz, hP, hR0, hK, hN, hD0, hsep⟩ := hv
  have hx := B.exec
  have hb := B.bytes
  have hr := B.returns
  have hts := atoms_spec (ws := wsX2_toldOf) B.pre
  have hown : s.vm.findClass RX2 = some m.cls := findClass_of_methodNamed B.named
  have hlocks := B.notSynchronized
  subst hsz
  obtain ⟨ls, hfr, hl⟩ := ent_ok (m := m) (n := 2) (l' := [(0, .ref q0), (1, .int x2)]) [.ref q0, .int x2] hav (Nat.le_of_ble_eq_true rfl) rfl
  rw [hfr]
  generalize hQe : MQ below (QR (some (.int out))) args s 0 0 no_A = QQ
  change W p l e RMX2_toldOf s m args below meth c s.heap [] 0 0 QQ (F0 m 0 ls [])
  unfold FX2_toldOf at hf
  refine lv_iload_n hx hb dX2_toldOf_0 rfl (lv_at hl 1 rfl) ?_
  by_cases c_1_0 : x2 = 0
  · replace hf := it_p c_1_0 hf
    refine lv_tableIn (tgt := 28) (off := 27) hx hb dX2_toldOf_1 (by rw [c_1_0]; decide) (by rw [c_1_0]; decide) (by rw [c_1_0]; rfl) (by decide) ?_
    refine lv_iconst (v := 1) hx hb dX2_toldOf_28 (by decide) ?_
    obtain rfl := Option.some.inj hf
    rw [← hQe]
    exact W.iret (v := 1) hx hb hr (fun t ht hW => ⟨rfl, ht⟩) (fun q h => by cases h) dX2_toldOf_29
  replace hf := it_n c_1_0 hf
  by_cases c_1_1 : x2 = 1
  · replace hf := it_p c_1_1 hf
    refine lv_tableIn (tgt := 30) (off := 29) hx hb dX2_toldOf_1 (by rw [c_1_1]; decide) (by rw [c_1_1]; decide) (by rw [c_1_1]; rfl) (by decide) ?_
    refine lv_iconst (v := 2) hx hb dX2_toldOf_30 (by decide) ?_
    obtain rfl := Option.some.inj hf
    rw [← hQe]
    exact W.iret (v := 2) hx hb hr (fun t ht hW => ⟨rfl, ht⟩) (fun q h => by cases h) dX2_toldOf_31
  replace hf := it_n c_1_1 hf
  by_cases c_1_2 : x2 = 2
  · replace hf := it_p c_1_2 hf
    refine lv_tableIn (tgt := 32) (off := 31) hx hb dX2_toldOf_1 (by rw [c_1_2]; decide) (by rw [c_1_2]; decide) (by rw [c_1_2]; rfl) (by decide) ?_
    refine lv_aload_n hx hb dX2_toldOf_32 rfl (lv_at hl 0 rfl) ?_
    refine lv_iconst (v := 2) hx hb dX2_toldOf_33 (by decide) ?_
    replace hf := gi_e hf
    obtain ⟨i_34, hf⟩ := hf
    refine va_iald (a := q0) hx hb hK hR0 0 0 rfl rfl i_34 dX2_toldOf_34 ?_
    refine lv_iconst (v := 1) hx hb dX2_toldOf_35 (by decide) ?_
    refine lv_icmp_ne (tgt := 49) hx hb dX2_toldOf_36 (by decide) (fun c_36 => ?_) (fun c_36 => ?_)
    · replace hf := it_n c_36 hf
      refine lv_iconst (v := 3) hx hb dX2_toldOf_49 (by decide) ?_
      obtain rfl := Option.some.inj hf
      rw [← hQe]
      exact W.iret (v := 3) hx hb hr (fun t ht hW => ⟨rfl, ht⟩) (fun q h => by cases h) dX2_toldOf_50
    · replace hf := it_p c_36 hf
      refine lv_aload_n hx hb dX2_toldOf_39 rfl (lv_at hl 0 rfl) ?_
      refine lv_iconst (v := 1) hx hb dX2_toldOf_40 (by decide) ?_
      replace hf := gi_e hf
      obtain ⟨i_41, hf⟩ := hf
      refine va_iald (a := q0) hx hb hK hR0 0 0 rfl rfl i_41 dX2_toldOf_41 ?_
      refine lv_if_ne (tgt := 49) hx hb dX2_toldOf_42 (by decide) (fun c_42 => ?_) (fun c_42 => ?_)
      · replace hf := it_n c_42 hf
        refine lv_iconst (v := 3) hx hb dX2_toldOf_49 (by decide) ?_
        obtain rfl := Option.some.inj hf
        rw [← hQe]
        exact W.iret (v := 3) hx hb hr (fun t ht hW => ⟨rfl, ht⟩) (fun q h => by cases h) dX2_toldOf_50
      · replace hf := it_p c_42 hf
        refine lv_iconst (v := 4) hx hb dX2_toldOf_45 (by decide) ?_
        refine lv_goto (tgt := 50) hx hb dX2_toldOf_46 (by decide) ?_
        obtain rfl := Option.some.inj hf
        rw [← hQe]
        exact W.iret (v := 4) hx hb hr (fun t ht hW => ⟨rfl, ht⟩) (fun q h => by cases h) dX2_toldOf_50
  replace hf := it_n c_1_2 hf
  have hsw : (x2 : Int32).toInt < 0 ∨ 2 < (x2 : Int32).toInt := by
    have h0 : (x2 : Int32).toInt ≠ 0 := ne_toInt c_1_0
    have h1 : (x2 : Int32).toInt ≠ 1 := ne_toInt c_1_1
    have h2 : (x2 : Int32).toInt ≠ 2 := ne_toInt c_1_2
    omega
  refine lv_tableOut (tgt := 51) hx hb dX2_toldOf_1 hsw (by decide) ?_
  refine lv_iconst (v := 5) hx hb dX2_toldOf_51 (by decide) ?_
  obtain rfl := Option.some.inj hf
  rw [← hQe]
  exact W.iret (v := 5) hx hb hr (fun t ht hW => ⟨rfl, ht⟩) (fun q h => by cases h) dX2_toldOf_52
def FX2_fits  (pt : Int32) (x1 : Int32) : Option (Bool) := (if x1 = 0 then ((some (true))) else (if x1 = pt then ((some (true))) else (if x1 = 3 then (if pt = 4 then ((some (true))) else ((some (false)))) else ((some (false))))))
abbrev RMX2_fits : Room := { frames := 0, cells := 0, slots := 0, locals := 0 }
set_option maxHeartbeats 4000000 in
set_option maxRecDepth 100000 in
theorem KX2_fits (l : Launch) (D : va_G) (cy : Nat → ClassId) (ad : Nat → Nat) (pp : Int32) (pd : Int32) (pt : Int32) (x1 : Int32) (sz : Nat) {out : Bool} (hf : FX2_fits pt x1 = some out) : Met l yX2_fits wsX2_fits RMX2_fits (PW D cy [.ref (ad 0), .int x1] sz [] ((wX2_0 cy ad pp pd pt))) (QR (some (.int (bi out)))) 0 0 no_A := by
  refine Met.ofW (cc := cX2_fits) (maxL := 2) (ret := (some .boolean)) (by decide +kernel) rfl ?_
  intro p e s m args below meth c s₁ B hml hv
  obtain ⟨hav, hsz, hP, hR0, hK, hN, hD0, hsep⟩ := hv
  have hx := B.exec
  have hb := B.bytes
  have hr := B.returns
  have hts := atoms_spec (ws := wsX2_fits) B.pre
  have hown : s.vm.findClass RX2 = some m.cls := findClass_of_methodNamed B.named
  have hlocks := B.notSynchronized
  subst hsz
  have hin_X2 : ∀ w ∈ u_ws RX2 TX2 4, w ∈ wsX2_fits := by decide +kernel
  have hw_0 := hts (.fieldLink RX2 30 "ReturnPoints$Poly" "told" "I") (by decide +kernel)
  obtain ⟨ls, hfr, hl⟩ := ent_ok (m := m) (n := 2) (l' := [(0, .ref (ad 0)), (1, .int x1)]) [.ref (ad 0), .int x1] hav (Nat.le_of_ble_eq_true rfl) rfl
  rw [hfr]
  generalize hQe : MQ below (QR (some (.int (bi out)))) args s 0 0 no_A = QQ
  change W p l e RMX2_fits s m args below meth c s.heap [] 0 0 QQ (F0 m 0 ls [])
  unfold FX2_fits at hf
  refine lv_iload_n hx hb dX2_fits_0 rfl (lv_at hl 1 rfl) ?_
  refine lv_if_eq (tgt := 25) hx hb dX2_fits_1 (by decide) (fun c_1 => ?_) (fun c_1 => ?_)
  · replace hf := it_p c_1 hf
    refine lv_iconst (v := 1) hx hb dX2_fits_25 (by decide) ?_
    refine lv_goto (tgt := 30) hx hb dX2_fits_26 (by decide) ?_
    obtain rfl := Option.some.inj hf
    rw [← hQe]
    exact W.zret (v := bi true) hx hb hr (nar_bi _) (fun t ht hW => ⟨rfl, ht⟩) (fun q h => by cases h) dX2_fits_30
  · replace hf := it_n c_1 hf
    refine lv_iload_n hx hb dX2_fits_4 rfl (lv_at hl 1 rfl) ?_
    refine lv_aload_n hx hb dX2_fits_5 rfl (lv_at hl 0 rfl) ?_
    refine va_get (a := (ad 0)) (ci := 2) (v := .int pt) (C := RX2) (T := TX2) (N := 4) hx hb hts hin_X2 hown hK hR0 0 rfl rfl 3 (by decide) hw_0 (fun _ h => h) rfl dX2_fits_6 ?_
    refine lv_icmp_eq (tgt := 25) hx hb dX2_fits_9 (by decide) (fun c_9 => ?_) (fun c_9 => ?_)
    · replace hf := it_p c_9 hf
      refine lv_iconst (v := 1) hx hb dX2_fits_25 (by decide) ?_
      refine lv_goto (tgt := 30) hx hb dX2_fits_26 (by decide) ?_
      obtain rfl := Option.some.inj hf
      rw [← hQe]
      exact W.zret (v := bi true) hx hb hr (nar_bi _) (fun t ht hW => ⟨rfl, ht⟩) (fun q h => by cases h) dX2_fits_30
    · replace hf := it_n c_9 hf
      refine lv_iload_n hx hb dX2_fits_12 rfl (lv_at hl 1 rfl) ?_
      refine lv_iconst (v := 3) hx hb dX2_fits_13 (by decide) ?_
      refine lv_icmp_ne (tgt := 29) hx hb dX2_fits_14 (by decide) (fun c_14 => ?_) (fun c_14 => ?_)
      · replace hf := it_n c_14 hf
        refine lv_iconst (v := 0) hx hb dX2_fits_29 (by decide) ?_
        obtain rfl := Option.some.inj hf
        rw [← hQe]
        exact W.zret (v := bi false) hx hb hr (nar_bi _) (fun t ht hW => ⟨rfl, ht⟩) (fun q h => by cases h) dX2_fits_30
      · replace hf := it_p c_14 hf
        refine lv_aload_n hx hb dX2_fits_17 rfl (lv_at hl 0 rfl) ?_
        refine va_get (a := (ad 0)) (ci := 2) (v := .int pt) (C := RX2) (T := TX2) (N := 4) hx hb hts hin_X2 hown hK hR0 0 rfl rfl 3 (by decide) hw_0 (fun _ h => h) rfl dX2_fits_18 ?_
        refine lv_iconst (v := 4) hx hb dX2_fits_21 (by decide) ?_
        refine lv_icmp_ne (tgt := 29) hx hb dX2_fits_22 (by decide) (fun c_22 => ?_) (fun c_22 => ?_)
        · replace hf := it_n c_22 hf
          refine lv_iconst (v := 0) hx hb dX2_fits_29 (by decide) ?_
          obtain rfl := Option.some.inj hf
          rw [← hQe]
          exact W.zret (v := bi false) hx hb hr (nar_bi _) (fun t ht hW => ⟨rfl, ht⟩) (fun q h => by cases h) dX2_fits_30
        · replace hf := it_p c_22 hf
          refine lv_iconst (v := 1) hx hb dX2_fits_25 (by decide) ?_
          refine lv_goto (tgt := 30) hx hb dX2_fits_26 (by decide) ?_
          obtain rfl := Option.some.inj hf
          rw [← hQe]
          exact W.zret (v := bi true) hx hb hr (nar_bi _) (fun t ht hW => ⟨rfl, ht⟩) (fun q h => by cases h) dX2_fits_30
def FX2_valueAt_L7   (x1 : Int32) (pn : Nat) (pp : Int32) (pc : Nat → Int32) : Nat → Int32 → Int32 → Option (Int32)
  | 0, _, _ => none
  | fuel + 1, x2_7, x3_7 => (if x3_7 < 0 then (some (x2_7)) else (gi x3_7 pn (gd (¬ pp = 0) (bd (irm ((x2_7 * x1) + (pc (Int32.toNatClampNeg x3_7))) pp) (fun v_26 => bd (x3_7 + (-1)) (fun v_27 => (FX2_valueAt_L7 x1 pn pp pc fuel) v_26 v_27))))))
def FX2_valueAt  (pn : Nat) (pp : Int32) (pd : Int32) (pc : Nat → Int32) (x1 : Int32) : Option (Int32) := (FX2_valueAt_L7 x1 pn pp pc FU 0 pd)
abbrev RMX2_valueAt : Room := { frames := 0, cells := 0, slots := 0, locals := 0 }
set_option maxHeartbeats 4000000 in
set_option maxRecDepth 100000 in
theorem KX2_valueAt (l : Launch) (D : va_G) (cy : Nat → ClassId) (ad : Nat → Nat) (pn : Nat) (pp : Int32) (pd : Int32) (pt : Int32) (pc : Nat → Int32) (x1 : Int32) (sz : Nat) {out : Int32} (hf : FX2_valueAt pn pp pd pc x1 = some out) : Met l yX2_valueAt wsX2_valueAt RMX2_valueAt (PW D cy [.ref (ad 0), .int x1] sz [] ((wX2_0_1 cy ad pn pp pd pt pc))) (QR (some (.int out))) 0 0 no_A := by
  refine Met.ofW (cc := cX2_valueAt) (maxL := 4) (ret := (some .int)) (by decide +kernel) rfl ?_
  intro p e s m args below meth c s₁ B hml hv
  obtain ⟨hav, hsz, hP, hR0, hK, hN, hD0, hsep⟩ := hv
  have hx := B.exec
  have hb := B.bytes
  have hr := B.returns
  have hts := atoms_spec (ws := wsX2_valueAt) B.pre
  have hown : s.vm.findClass RX2 = some m.cls := findClass_of_methodNamed B.named
  have hlocks := B.notSynchronized
  subst hsz
  have hin_X2 : ∀ w ∈ u_ws RX2 TX2 4, w ∈ wsX2_valueAt := by decide +kernel
  have hw_0 := hts (.fieldLink RX2 15 "ReturnPoints$Poly" "c" "[I") (by decide +kernel)
  have hw_1 := hts (.fieldLink RX2 9 "ReturnPoints$Poly" "p" "I") (by decide +kernel)
  have hw_2 := hts (.fieldLink RX2 23 "ReturnPoints$Poly" "degree" "I") (by decide +kernel)
  obtain ⟨ls, hfr, hl⟩ := ent_ok (m := m) (n := 4) (l' := [(0, .ref (ad 0)), (1, .int x1)]) [.ref (ad 0), .int x1] hav (Nat.le_of_ble_eq_true rfl) rfl
  rw [hfr]
  generalize hQe : MQ below (QR (some (.int out))) args s 0 0 no_A = QQ
  change W p l e RMX2_valueAt s m args below meth c s.heap [] 0 0 QQ (F0 m 0 ls [])
  have L7 : ∀  (n7 : Nat) (ls : Array Slot) (x2_7 : Int32) (x3_7 : Int32), FX2_valueAt_L7 x1 pn pp pc n7 x2_7 x3_7 = some out → lv_has ls 4 [(0, .ref (ad 0)), (1, .int x1), (2, .int x2_7), (3, .int x3_7)] → W p l e RMX2_valueAt s m args below meth c s.heap [] 0 0 QQ (F0 m 7 ls []) := by
    intro  n7
    induction n7 with
    | zero => intro ls x2_7 x3_7 hf; simp [FX2_valueAt_L7] at hf
    | succ n7 ih7 =>
      intro ls x2_7 x3_7 hf hl
      rw [FX2_valueAt_L7] at hf
      refine lv_iload_n hx hb dX2_valueAt_7 rfl (lv_at hl 3 rfl) ?_
      refine lv_if_lt (tgt := 33) hx hb dX2_valueAt_8 (by decide) (fun c_8 => ?_) (fun c_8 => ?_)
      · replace hf := it_p c_8 hf
        refine lv_iload_n hx hb dX2_valueAt_33 rfl (lv_at hl 2 rfl) ?_
        obtain rfl := Option.some.inj hf
        rw [← hQe]
        exact W.iret (v := x2_7) hx hb hr (fun t ht hW => ⟨rfl, ht⟩) (fun q h => by cases h) dX2_valueAt_34
      · replace hf := it_n c_8 hf
        refine lv_iload_n hx hb dX2_valueAt_11 rfl (lv_at hl 2 rfl) ?_
        refine lv_iload_n hx hb dX2_valueAt_12 rfl (lv_at hl 1 rfl) ?_
        refine lv_imul hx hb dX2_valueAt_13 ?_
        refine lv_aload_n hx hb dX2_valueAt_14 rfl (lv_at hl 0 rfl) ?_
        refine va_get (a := (ad 0)) (ci := 2) (v := .ref (ad 1)) (C := RX2) (T := TX2) (N := 4) hx hb hts hin_X2 hown hK hR0 0 rfl rfl 1 (by decide) hw_0 (fun _ h => h) rfl dX2_valueAt_15 ?_
        refine lv_iload_n hx hb dX2_valueAt_18 rfl (lv_at hl 3 rfl) ?_
        replace hf := gi_e hf
        obtain ⟨i_19, hf⟩ := hf
        refine va_iald (a := (ad 1)) hx hb hK hR0 1 0 rfl rfl i_19 dX2_valueAt_19 ?_
        refine lv_iadd hx hb dX2_valueAt_20 ?_
        refine lv_aload_n hx hb dX2_valueAt_21 rfl (lv_at hl 0 rfl) ?_
        refine va_get (a := (ad 0)) (ci := 2) (v := .int pp) (C := RX2) (T := TX2) (N := 4) hx hb hts hin_X2 hown hK hR0 0 rfl rfl 0 (by decide) hw_1 (fun _ h => h) rfl dX2_valueAt_22 ?_
        replace hf := gd_e hf
        obtain ⟨z_25, hf⟩ := hf
        refine rw_irem hx hb dX2_valueAt_25 z_25 ?_
        refine lv_topi (fun v_26 e_26 => ?_)
        replace hf := bd_at e_26 hf
        clear e_26
        refine lv_istore_n (lv' := [(2, .int v_26), (0, .ref (ad 0)), (1, .int x1), (3, .int x3_7)]) hx hb dX2_valueAt_26 rfl hl (by decide) rfl (fun ls hl => ?_)
        obtain ⟨v_27, e_27⟩ : ∃ y : Int32, y = x3_7 + (-1) := ⟨_, rfl⟩
        replace hf := bd_at e_27 hf
        refine lv_iinc (v := v_27) (lv' := [(3, .int v_27), (2, .int v_26), (0, .ref (ad 0)), (1, .int x1)]) hx hb dX2_valueAt_27 hl (k := 3) rfl (by rw [e_27]; rfl) (by decide) rfl (fun ls hl => ?_)
        clear e_27
        refine lv_goto (tgt := 7) hx hb dX2_valueAt_30 (by decide) ?_
        exact ih7 ls v_26 v_27 hf (lv_sub hl [2, 3, 1, 0] rfl)
  unfold FX2_valueAt at hf
  refine lv_iconst (v := 0) hx hb dX2_valueAt_0 (by decide) ?_
  refine lv_istore_n (lv' := [(2, .int 0), (0, .ref (ad 0)), (1, .int x1)]) hx hb dX2_valueAt_1 rfl hl (by decide) rfl (fun ls hl => ?_)
  refine lv_aload_n hx hb dX2_valueAt_2 rfl (lv_at hl 1 rfl) ?_
  refine va_get (a := (ad 0)) (ci := 2) (v := .int pd) (C := RX2) (T := TX2) (N := 4) hx hb hts hin_X2 hown hK hR0 0 rfl rfl 2 (by decide) hw_2 (fun _ h => h) rfl dX2_valueAt_3 ?_
  refine lv_istore_n (lv' := [(3, .int pd), (2, .int 0), (0, .ref (ad 0)), (1, .int x1)]) hx hb dX2_valueAt_6 rfl hl (by decide) rfl (fun ls hl => ?_)
  exact L7 FU ls 0 pd hf (lv_sub hl [2, 3, 1, 0] rfl)
def FX2_slopeAt_L7   (x1 : Int32) (pn : Nat) (pp : Int32) (pc : Nat → Int32) : Nat → Int32 → Int32 → Option (Int32)
  | 0, _, _ => none
  | fuel + 1, x2_7, x3_7 => (if x3_7 < 1 then (some (x2_7)) else (gi x3_7 pn (gd (¬ pp = 0) (bd (irm ((x2_7 * x1) + (x3_7 * (pc (Int32.toNatClampNeg x3_7)))) pp) (fun v_29 => bd (x3_7 + (-1)) (fun v_30 => (FX2_slopeAt_L7 x1 pn pp pc fuel) v_29 v_30))))))
def FX2_slopeAt  (pn : Nat) (pp : Int32) (pd : Int32) (pc : Nat → Int32) (x1 : Int32) : Option (Int32) := (FX2_slopeAt_L7 x1 pn pp pc FU 0 pd)
abbrev RMX2_slopeAt : Room := { frames := 0, cells := 0, slots := 0, locals := 0 }
set_option maxHeartbeats 4000000 in
set_option maxRecDepth 100000 in
theorem KX2_slopeAt (l : Launch) (D : va_G) (cy : Nat → ClassId) (ad : Nat → Nat) (pn : Nat) (pp : Int32) (pd : Int32) (pt : Int32) (pc : Nat → Int32) (x1 : Int32) (sz : Nat) {out : Int32} (hf : FX2_slopeAt pn pp pd pc x1 = some out) : Met l yX2_slopeAt wsX2_slopeAt RMX2_slopeAt (PW D cy [.ref (ad 0), .int x1] sz [] ((wX2_0_1 cy ad pn pp pd pt pc))) (QR (some (.int out))) 0 0 no_A := by
  refine Met.ofW (cc := cX2_slopeAt) (maxL := 4) (ret := (some .int)) (by decide +kernel) rfl ?_
  intro p e s m args below meth c s₁ B hml hv
  obtain ⟨hav, hsz, hP, hR0, hK, hN, hD0, hsep⟩ := hv
  have hx := B.exec
  have hb := B.bytes
  have hr := B.returns
  have hts := atoms_spec (ws := wsX2_slopeAt) B.pre
  have hown : s.vm.findClass RX2 = some m.cls := findClass_of_methodNamed B.named
  have hlocks := B.notSynchronized
  subst hsz
  have hin_X2 : ∀ w ∈ u_ws RX2 TX2 4, w ∈ wsX2_slopeAt := by decide +kernel
  have hw_0 := hts (.fieldLink RX2 15 "ReturnPoints$Poly" "c" "[I") (by decide +kernel)
  have hw_1 := hts (.fieldLink RX2 9 "ReturnPoints$Poly" "p" "I") (by decide +kernel)
  have hw_2 := hts (.fieldLink RX2 23 "ReturnPoints$Poly" "degree" "I") (by decide +kernel)
  obtain ⟨ls, hfr, hl⟩ := ent_ok (m := m) (n := 4) (l' := [(0, .ref (ad 0)), (1, .int x1)]) [.ref (ad 0), .int x1] hav (Nat.le_of_ble_eq_true rfl) rfl
  rw [hfr]
  generalize hQe : MQ below (QR (some (.int out))) args s 0 0 no_A = QQ
  change W p l e RMX2_slopeAt s m args below meth c s.heap [] 0 0 QQ (F0 m 0 ls [])
  have L7 : ∀  (n7 : Nat) (ls : Array Slot) (x2_7 : Int32) (x3_7 : Int32), FX2_slopeAt_L7 x1 pn pp pc n7 x2_7 x3_7 = some out → lv_has ls 4 [(0, .ref (ad 0)), (1, .int x1), (2, .int x2_7), (3, .int x3_7)] → W p l e RMX2_slopeAt s m args below meth c s.heap [] 0 0 QQ (F0 m 7 ls []) := by
    intro  n7
    induction n7 with
    | zero => intro ls x2_7 x3_7 hf; simp [FX2_slopeAt_L7] at hf
    | succ n7 ih7 =>
      intro ls x2_7 x3_7 hf hl
      rw [FX2_slopeAt_L7] at hf
      refine lv_iload_n hx hb dX2_slopeAt_7 rfl (lv_at hl 3 rfl) ?_
      refine lv_iconst (v := 1) hx hb dX2_slopeAt_8 (by decide) ?_
      refine lv_icmp_lt (tgt := 36) hx hb dX2_slopeAt_9 (by decide) (fun c_9 => ?_) (fun c_9 => ?_)
      · replace hf := it_p c_9 hf
        refine lv_iload_n hx hb dX2_slopeAt_36 rfl (lv_at hl 2 rfl) ?_
        obtain rfl := Option.some.inj hf
        rw [← hQe]
        exact W.iret (v := x2_7) hx hb hr (fun t ht hW => ⟨rfl, ht⟩) (fun q h => by cases h) dX2_slopeAt_37
      · replace hf := it_n c_9 hf
        refine lv_iload_n hx hb dX2_slopeAt_12 rfl (lv_at hl 2 rfl) ?_
        refine lv_iload_n hx hb dX2_slopeAt_13 rfl (lv_at hl 1 rfl) ?_
        refine lv_imul hx hb dX2_slopeAt_14 ?_
        refine lv_iload_n hx hb dX2_slopeAt_15 rfl (lv_at hl 3 rfl) ?_
        refine lv_aload_n hx hb dX2_slopeAt_16 rfl (lv_at hl 0 rfl) ?_
        refine va_get (a := (ad 0)) (ci := 2) (v := .ref (ad 1)) (C := RX2) (T := TX2) (N := 4) hx hb hts hin_X2 hown hK hR0 0 rfl rfl 1 (by decide) hw_0 (fun _ h => h) rfl dX2_slopeAt_17 ?_
        refine lv_iload_n hx hb dX2_slopeAt_20 rfl (lv_at hl 3 rfl) ?_
        replace hf := gi_e hf
        obtain ⟨i_21, hf⟩ := hf
        refine va_iald (a := (ad 1)) hx hb hK hR0 1 0 rfl rfl i_21 dX2_slopeAt_21 ?_
        refine lv_imul hx hb dX2_slopeAt_22 ?_
        refine lv_iadd hx hb dX2_slopeAt_23 ?_
        refine lv_aload_n hx hb dX2_slopeAt_24 rfl (lv_at hl 0 rfl) ?_
        refine va_get (a := (ad 0)) (ci := 2) (v := .int pp) (C := RX2) (T := TX2) (N := 4) hx hb hts hin_X2 hown hK hR0 0 rfl rfl 0 (by decide) hw_1 (fun _ h => h) rfl dX2_slopeAt_25 ?_
        replace hf := gd_e hf
        obtain ⟨z_28, hf⟩ := hf
        refine rw_irem hx hb dX2_slopeAt_28 z_28 ?_
        refine lv_topi (fun v_29 e_29 => ?_)
        replace hf := bd_at e_29 hf
        clear e_29
        refine lv_istore_n (lv' := [(2, .int v_29), (0, .ref (ad 0)), (1, .int x1), (3, .int x3_7)]) hx hb dX2_slopeAt_29 rfl hl (by decide) rfl (fun ls hl => ?_)
        obtain ⟨v_30, e_30⟩ : ∃ y : Int32, y = x3_7 + (-1) := ⟨_, rfl⟩
        replace hf := bd_at e_30 hf
        refine lv_iinc (v := v_30) (lv' := [(3, .int v_30), (2, .int v_29), (0, .ref (ad 0)), (1, .int x1)]) hx hb dX2_slopeAt_30 hl (k := 3) rfl (by rw [e_30]; rfl) (by decide) rfl (fun ls hl => ?_)
        clear e_30
        refine lv_goto (tgt := 7) hx hb dX2_slopeAt_33 (by decide) ?_
        exact ih7 ls v_29 v_30 hf (lv_sub hl [2, 3, 1, 0] rfl)
  unfold FX2_slopeAt at hf
  refine lv_iconst (v := 0) hx hb dX2_slopeAt_0 (by decide) ?_
  refine lv_istore_n (lv' := [(2, .int 0), (0, .ref (ad 0)), (1, .int x1)]) hx hb dX2_slopeAt_1 rfl hl (by decide) rfl (fun ls hl => ?_)
  refine lv_aload_n hx hb dX2_slopeAt_2 rfl (lv_at hl 1 rfl) ?_
  refine va_get (a := (ad 0)) (ci := 2) (v := .int pd) (C := RX2) (T := TX2) (N := 4) hx hb hts hin_X2 hown hK hR0 0 rfl rfl 2 (by decide) hw_2 (fun _ h => h) rfl dX2_slopeAt_3 ?_
  refine lv_istore_n (lv' := [(3, .int pd), (2, .int 0), (0, .ref (ad 0)), (1, .int x1)]) hx hb dX2_slopeAt_6 rfl hl (by decide) rfl (fun ls hl => ?_)
  exact L7 FU ls 0 pd hf (lv_sub hl [2, 3, 1, 0] rfl)
def FX2_multiply_L30  (k12 : Int32 → (Nat → Int32) → Option ((Nat → Int32))) (x2 : Int32) (x4 : Int32) (x5 : Int32) (x5_30 : Int32) (r_n : Nat) (r_f_30 : Nat → Int32) (b_n : Nat) (b_f : Nat → Int32) : Nat → Int32 → Int32 → Option ((Nat → Int32))
  | 0, _, _ => none
  | fuel + 1, x6_30, x7_30 => (if (imn x5_30 x4) < x7_30 then (gd (¬ x5 = 0) (gi x5_30 r_n (bd (x5_30 + (-1)) (fun v_73 => k12 v_73 (upd r_f_30 (Int32.toNatClampNeg x5_30) (irm x6_30 x5)))))) else (gi (x5_30 - x7_30) r_n (gi x7_30 b_n (bd (x6_30 + ((r_f_30 (Int32.toNatClampNeg (x5_30 - x7_30))) * (b_f (Int32.toNatClampNeg x7_30)))) (fun v_56 => bd (x7_30 + 1) (fun v_58 => (FX2_multiply_L30 k12 x2 x4 x5 x5_30 r_n r_f_30 b_n b_f fuel) v_56 v_58))))))
def FX2_multiply_L12   (x2 : Int32) (x4 : Int32) (x5 : Int32) (r_n : Nat) (b_n : Nat) (b_f : Nat → Int32) : Nat → Int32 → (Nat → Int32) → Option ((Nat → Int32))
  | 0, _, _ => none
  | fuel + 1, x5_12, r_f_12 => (if x5_12 < 0 then (some (r_f_12)) else (bd (imx 0 (x5_12 - x2)) (fun v_28 => FX2_multiply_L30 (FX2_multiply_L12 x2 x4 x5 r_n b_n b_f fuel) x2 x4 x5 x5_12 r_n r_f_12 b_n b_f FU 0 v_28)))
def FX2_multiply  (r_n : Nat) (r_f : Nat → Int32) (b_n : Nat) (b_f : Nat → Int32) (x2 : Int32) (x4 : Int32) (x5 : Int32) : Option ((Nat → Int32)) := (bd (imn (x2 + x4) ((Int32.ofNat r_n) - 1)) (fun v_10 => FX2_multiply_L12 x2 x4 x5 r_n b_n b_f FU v_10 r_f))
abbrev RMX2_multiply : Room := { frames := 1, cells := 0, slots := 0, locals := 24 }
set_option maxHeartbeats 4000000 in
set_option maxRecDepth 100000 in
theorem KX2_multiply (l : Launch) (D : va_G) (cy : Nat → ClassId) (q0 : Nat) (q2 : Nat) (r_n : Nat) (r_f : Nat → Int32) (b_n : Nat) (b_f : Nat → Int32) (x2 : Int32) (x4 : Int32) (x5 : Int32) (sz : Nat) {out : (Nat → Int32)} (hf : FX2_multiply r_n r_f b_n b_f x2 x4 x5 = some out) : Met l yX2_multiply wsX2_multiply RMX2_multiply (PW D cy [.ref q0, .int x2, .ref q2, .int x4, .int x5] sz ((waI cy q0 r_n r_f)) ((waI cy q2 b_n b_f))) (QW D none ((waI cy q0 r_n out)) (va_A ((waI cy q0 r_n r_f)) sz)) 0 0 (va_A ((waI cy q0 r_n r_f)) sz) := by
  refine Met.ofW (cc := cX2_multiply) (maxL := 8) (ret := none) (by decide +kernel) rfl ?_
  intro p e s m args below meth c s₁ B hml hv
  obtain ⟨hav, hsz, hP, hR0, hK, hN, hD0, hsep⟩ := hv
  have hx := B.exec
  have hb := B.bytes
  have hr := B.returns
  have hts := atoms_spec (ws := wsX2_multiply) B.pre
  have hown : s.vm.findClass RX2 = some m.cls := findClass_of_methodNamed B.named
  have hlocks := B.notSynchronized
  subst hsz
  have hw_0 := hts (.methodLink RX2 56 Lib.Math.min.name) (by decide +kernel)
  have hw_1 := hts (.static Lib.Math.min.name) (by decide +kernel)
  have hw_2 := hts (.initialized "java/lang/Math") (by decide +kernel)
  have hw_3 := hts (.code Lib.Math.min.name Lib.Math.min.code 2 (some .int)) (by decide +kernel)
  have hw_4 := hts (.methodLink RX2 59 Lib.Math.max.name) (by decide +kernel)
  have hw_5 := hts (.static Lib.Math.max.name) (by decide +kernel)
  have hw_6 := hts (.code Lib.Math.max.name Lib.Math.max.code 2 (some .int)) (by decide +kernel)
  have hD := hD0.self (sz := s.heap.size)
  have hnA := roA hsep hR0
  generalize hAe : va_A ((waI cy q0 r_n r_f)) s.heap.size = A at hD hnA ⊢
  have hA : ∀ q : Nat, s.heap.size ≤ q → A q := fun q h => by rw [← hAe]; exact Or.inr h
  have hS : va_S A s.heap s.heap [] := va_S.rf
  obtain ⟨ls, hfr, hl⟩ := ent_ok (m := m) (n := 8) (l' := [(0, .ref q0), (1, .int x2), (2, .ref q2), (3, .int x4), (4, .int x5)]) [.ref q0, .int x2, .ref q2, .int x4, .int x5] hav (Nat.le_of_ble_eq_true rfl) rfl
  rw [hfr]
  generalize hQe : MQ below (QW D none ((waI cy q0 r_n out)) A) args s 0 0 A = QQ
  change W p l e RMX2_multiply s m args below meth c s.heap [] 0 0 QQ (F0 m 0 ls [])
  have hP : va_P D vwCl ((waI cy q0 r_n r_f)) s.heap := hP
  have hD : va_D A ((waI cy q0 r_n r_f)) := hD
  suffices h00 : ∀ (H : Heap) (locs : List Loc), va_P D vwCl ((waI cy q0 r_n r_f)) H → va_S A s.heap H locs → W p l e RMX2_multiply s m args below meth c H locs 0 0 QQ (F0 m 0 ls []) from h00 _ _ hP hS
  clear hP hS
  intro H locs hP hS
  have L12 : ∀  (n12 : Nat) (H : Heap) (locs : List Loc) (ls : Array Slot) (x5_12 : Int32) (r_f_12 : Nat → Int32), FX2_multiply_L12 x2 x4 x5 r_n b_n b_f n12 x5_12 r_f_12 = some out → va_P D vwCl ((waI cy q0 r_n r_f_12)) H → va_D A ((waI cy q0 r_n r_f_12)) → va_S A s.heap H locs → lv_has ls 8 [(0, .ref q0), (1, .int x2), (2, .ref q2), (3, .int x4), (4, .int x5), (5, .int x5_12)] → W p l e RMX2_multiply s m args below meth c H locs 0 0 QQ (F0 m 12 ls []) := by
    intro  n12
    induction n12 with
    | zero => intro H locs ls x5_12 r_f_12 hf; simp [FX2_multiply_L12] at hf
    | succ n12 ih12 =>
      intro H locs ls x5_12 r_f_12 hf hP hD hS hl
      rw [FX2_multiply_L12] at hf
      have L30 : ∀ (x5_30 : Int32) (r_f_30 : Nat → Int32) (n30 : Nat) (H : Heap) (locs : List Loc) (ls : Array Slot) (x6_30 : Int32) (x7_30 : Int32), FX2_multiply_L30 (FX2_multiply_L12 x2 x4 x5 r_n b_n b_f n12) x2 x4 x5 x5_30 r_n r_f_30 b_n b_f n30 x6_30 x7_30 = some out → va_P D vwCl ((waI cy q0 r_n r_f_30)) H → va_D A ((waI cy q0 r_n r_f_30)) → va_S A s.heap H locs → lv_has ls 8 [(0, .ref q0), (1, .int x2), (2, .ref q2), (3, .int x4), (4, .int x5), (5, .int x5_30), (6, .int x6_30), (7, .int x7_30)] → W p l e RMX2_multiply s m args below meth c H locs 0 0 QQ (F0 m 30 ls []) := by
        intro x5_30 r_f_30 n30
        induction n30 with
        | zero => intro H locs ls x6_30 x7_30 hf; simp [FX2_multiply_L30] at hf
        | succ n30 ih30 =>
          intro H locs ls x6_30 x7_30 hf hP hD hS hl
          rw [FX2_multiply_L30] at hf
          refine lv_iload hx hb dX2_multiply_30 (lv_at hl 7 rfl) ?_
          refine lv_iload hx hb dX2_multiply_32 (lv_at hl 5 rfl) ?_
          refine lv_iload_n hx hb dX2_multiply_34 rfl (lv_at hl 3 rfl) ?_
          refine va_mmin hx hb (hml.trans hl.1.symm) hown hw_0 hw_1 hw_2 hw_3 (Nat.le_of_ble_eq_true rfl) (Nat.le_of_ble_eq_true rfl) (Nat.zero_le _) (Nat.zero_le _) dX2_multiply_35 ?_
          show W p l e RMX2_multiply s m args below meth c H locs 0 0 QQ (F0 m 38 ls [.int (imn x5_30 x4), .int x7_30])
          refine lv_icmp_gt (tgt := 64) hx hb dX2_multiply_38 (by decide) (fun c_38 => ?_) (fun c_38 => ?_)
          · replace hf := it_p c_38 hf
            refine lv_aload_n hx hb dX2_multiply_64 rfl (lv_at hl 0 rfl) ?_
            refine lv_iload hx hb dX2_multiply_65 (lv_at hl 5 rfl) ?_
            refine lv_iload hx hb dX2_multiply_67 (lv_at hl 6 rfl) ?_
            refine lv_iload hx hb dX2_multiply_69 (lv_at hl 4 rfl) ?_
            replace hf := gd_e hf
            obtain ⟨z_71, hf⟩ := hf
            refine rw_irem hx hb dX2_multiply_71 z_71 ?_
            replace hf := gi_e hf
            obtain ⟨i_72, hf⟩ := hf
            refine va_iast (a := q0) hx hb hK hP hD hS 0 0 rfl rfl i_72 dX2_multiply_72 (fun H locs hP hD hS => ?_)
            have hP : va_P D vwCl ((waI cy q0 r_n (upd r_f_30 (Int32.toNatClampNeg x5_30) (irm x6_30 x5)))) H := hP
            have hD : va_D A ((waI cy q0 r_n (upd r_f_30 (Int32.toNatClampNeg x5_30) (irm x6_30 x5)))) := hD
            obtain ⟨v_73, e_73⟩ : ∃ y : Int32, y = x5_30 + (-1) := ⟨_, rfl⟩
            replace hf := bd_at e_73 hf
            refine lv_iinc (v := v_73) (lv' := [(5, .int v_73), (0, .ref q0), (1, .int x2), (2, .ref q2), (3, .int x4), (4, .int x5), (6, .int x6_30), (7, .int x7_30)]) hx hb dX2_multiply_73 hl (k := 5) rfl (by rw [e_73]; rfl) (by decide) rfl (fun ls hl => ?_)
            clear e_73
            refine lv_goto (tgt := 12) hx hb dX2_multiply_76 (by decide) ?_
            exact ih12 H locs ls v_73 (upd r_f_30 (Int32.toNatClampNeg x5_30) (irm x6_30 x5)) hf hP hD hS (lv_sub hl [1, 2, 3, 4, 5, 0] rfl)
          · replace hf := it_n c_38 hf
            refine lv_iload hx hb dX2_multiply_41 (lv_at hl 6 rfl) ?_
            refine lv_aload_n hx hb dX2_multiply_43 rfl (lv_at hl 0 rfl) ?_
            refine lv_iload hx hb dX2_multiply_44 (lv_at hl 5 rfl) ?_
            refine lv_iload hx hb dX2_multiply_46 (lv_at hl 7 rfl) ?_
            refine lv_isub hx hb dX2_multiply_48 ?_
            replace hf := gi_e hf
            obtain ⟨i_49, hf⟩ := hf
            refine va_iald (a := q0) hx hb hK hP 0 0 rfl rfl i_49 dX2_multiply_49 ?_
            refine lv_aload_n hx hb dX2_multiply_50 rfl (lv_at hl 2 rfl) ?_
            refine lv_iload hx hb dX2_multiply_51 (lv_at hl 7 rfl) ?_
            replace hf := gi_e hf
            obtain ⟨i_53, hf⟩ := hf
            have hR := roN hR0 hnA hS
            refine va_iald (a := q2) hx hb hK hR 0 0 rfl rfl i_53 dX2_multiply_53 ?_
            refine lv_imul hx hb dX2_multiply_54 ?_
            refine lv_iadd hx hb dX2_multiply_55 ?_
            refine lv_topi (fun v_56 e_56 => ?_)
            replace hf := bd_at e_56 hf
            clear e_56
            refine lv_istore (lv' := [(6, .int v_56), (0, .ref q0), (1, .int x2), (2, .ref q2), (3, .int x4), (4, .int x5), (5, .int x5_30), (7, .int x7_30)]) hx hb dX2_multiply_56 hl (by decide) rfl (fun ls hl => ?_)
            obtain ⟨v_58, e_58⟩ : ∃ y : Int32, y = x7_30 + 1 := ⟨_, rfl⟩
            replace hf := bd_at e_58 hf
            refine lv_iinc (v := v_58) (lv' := [(7, .int v_58), (6, .int v_56), (0, .ref q0), (1, .int x2), (2, .ref q2), (3, .int x4), (4, .int x5), (5, .int x5_30)]) hx hb dX2_multiply_58 hl (k := 7) rfl (by rw [e_58]; rfl) (by decide) rfl (fun ls hl => ?_)
            clear e_58
            refine lv_goto (tgt := 30) hx hb dX2_multiply_61 (by decide) ?_
            exact ih30 H locs ls v_56 v_58 hf hP hD hS (lv_sub hl [2, 3, 4, 5, 6, 7, 1, 0] rfl)
      refine lv_iload hx hb dX2_multiply_12 (lv_at hl 5 rfl) ?_
      refine lv_if_lt (tgt := 79) hx hb dX2_multiply_14 (by decide) (fun c_14 => ?_) (fun c_14 => ?_)
      · replace hf := it_p c_14 hf
        obtain rfl := Option.some.inj hf
        rw [← hQe]
        exact W.vret hx hb hr (fun t ht hW => ⟨rfl, by rw [ht]; exact hP, hS.F ht⟩) hS.2.2 dX2_multiply_79
      · replace hf := it_n c_14 hf
        refine lv_iconst (v := 0) hx hb dX2_multiply_17 (by decide) ?_
        refine lv_istore (lv' := [(6, .int 0), (0, .ref q0), (1, .int x2), (2, .ref q2), (3, .int x4), (4, .int x5), (5, .int x5_12)]) hx hb dX2_multiply_18 hl (by decide) rfl (fun ls hl => ?_)
        refine lv_iconst (v := 0) hx hb dX2_multiply_20 (by decide) ?_
        refine lv_iload hx hb dX2_multiply_21 (lv_at hl 6 rfl) ?_
        refine lv_iload_n hx hb dX2_multiply_23 rfl (lv_at hl 2 rfl) ?_
        refine lv_isub hx hb dX2_multiply_24 ?_
        refine va_mmax hx hb (hml.trans hl.1.symm) hown hw_4 hw_5 hw_2 hw_6 (Nat.le_of_ble_eq_true rfl) (Nat.le_of_ble_eq_true rfl) (Nat.zero_le _) (Nat.zero_le _) dX2_multiply_25 ?_
        show W p l e RMX2_multiply s m args below meth c H locs 0 0 QQ (F0 m 28 ls [.int (imx 0 (x5_12 - x2))])
        refine lv_topi (fun v_28 e_28 => ?_)
        replace hf := bd_at e_28 hf
        clear e_28
        refine lv_istore (lv' := [(7, .int v_28), (6, .int 0), (0, .ref q0), (1, .int x2), (2, .ref q2), (3, .int x4), (4, .int x5), (5, .int x5_12)]) hx hb dX2_multiply_28 hl (by decide) rfl (fun ls hl => ?_)
        exact L30 x5_12 r_f_12 FU H locs ls 0 v_28 hf hP hD hS (lv_sub hl [2, 3, 4, 5, 6, 7, 1, 0] rfl)
  unfold FX2_multiply at hf
  refine lv_iload_n hx hb dX2_multiply_0 rfl (lv_at hl 1 rfl) ?_
  refine lv_iload_n hx hb dX2_multiply_1 rfl (lv_at hl 3 rfl) ?_
  refine lv_iadd hx hb dX2_multiply_2 ?_
  refine lv_aload_n hx hb dX2_multiply_3 rfl (lv_at hl 0 rfl) ?_
  refine va_alen (a := q0) (v := (Int32.ofNat r_n)) hx hb hK hP 0 0 rfl rfl rfl dX2_multiply_4 ?_
  refine lv_iconst (v := 1) hx hb dX2_multiply_5 (by decide) ?_
  refine lv_isub hx hb dX2_multiply_6 ?_
  refine va_mmin hx hb (hml.trans hl.1.symm) hown hw_0 hw_1 hw_2 hw_3 (Nat.le_of_ble_eq_true rfl) (Nat.le_of_ble_eq_true rfl) (Nat.zero_le _) (Nat.zero_le _) dX2_multiply_7 ?_
  show W p l e RMX2_multiply s m args below meth c H locs 0 0 QQ (F0 m 10 ls [.int (imn (x2 + x4) ((Int32.ofNat r_n) - 1))])
  refine lv_topi (fun v_10 e_10 => ?_)
  replace hf := bd_at e_10 hf
  clear e_10
  refine lv_istore (lv' := [(5, .int v_10), (0, .ref q0), (1, .int x2), (2, .ref q2), (3, .int x4), (4, .int x5)]) hx hb dX2_multiply_10 hl (by decide) rfl (fun ls hl => ?_)
  exact L12 FU H locs ls v_10 r_f hf hP hD hS (lv_sub hl [1, 2, 3, 4, 5, 0] rfl)
def FX2_putOver_L28   (x2 : Int32) (pn : Nat) (pp : Int32) (pc : Nat → Int32) (i_n : Nat) (i_f : Nat → Int32) (t_n : Nat) : Nat → Int32 → Int32 → (Nat → Int32) → Option ((Nat → Int32))
  | 0, _, _, _ => none
  | fuel + 1, x4_28, x5_28, t_f_28 => (if x5_28 < 0 then (some (t_f_28)) else (ob (FX2_multiply t_n t_f_28 i_n i_f x4_28 x2 pp) (fun u_42 => bd (x4_28 + x2) (fun v_49 => gi 0 t_n (gi x5_28 pn (gd (¬ pp = 0) (gi 0 t_n (bd (x5_28 + (-1)) (fun v_70 => (FX2_putOver_L28 x2 pn pp pc i_n i_f t_n fuel) v_49 v_70 (upd u_42 (Int32.toNatClampNeg 0) (irm ((u_42 (Int32.toNatClampNeg 0)) + (pc (Int32.toNatClampNeg x5_28))) pp)))))))))))
def FX2_putOver  (pn : Nat) (pp : Int32) (pd : Int32) (pc : Nat → Int32) (i_n : Nat) (i_f : Nat → Int32) (t_n : Nat) (t_f : Nat → Int32) (x2 : Int32) : Option ((Nat → Int32)) := (ob (FJ7_fill_53178 t_n t_f 0) (fun u_2 => gi pd pn (gi 0 t_n (bd (pd - 1) (fun v_26 => FX2_putOver_L28 x2 pn pp pc i_n i_f t_n FU 0 v_26 (upd u_2 (Int32.toNatClampNeg 0) (pc (Int32.toNatClampNeg pd))))))))
abbrev RMX2_putOver : Room := { frames := 2, cells := 0, slots := 0, locals := 51 }
set_option maxHeartbeats 4000000 in
set_option maxRecDepth 100000 in
theorem KX2_putOver (l : Launch) (D : va_G) (cy : Nat → ClassId) (ad : Nat → Nat) (q1 : Nat) (q3 : Nat) (pn : Nat) (pp : Int32) (pd : Int32) (pt : Int32) (pc : Nat → Int32) (i_n : Nat) (i_f : Nat → Int32) (t_n : Nat) (t_f : Nat → Int32) (x2 : Int32) (sz : Nat) {out : (Nat → Int32)} (hf : FX2_putOver pn pp pd pc i_n i_f t_n t_f x2 = some out) : Met l yX2_putOver wsX2_putOver RMX2_putOver (PW D cy [.ref (ad 0), .ref q1, .int x2, .ref q3] sz ((waI cy q3 t_n t_f)) ((wX2_0_1 cy ad pn pp pd pt pc) ++ (waI cy q1 i_n i_f))) (QW D none ((waI cy q3 t_n out)) (va_A ((waI cy q3 t_n t_f)) sz)) 0 0 (va_A ((waI cy q3 t_n t_f)) sz) := by
  refine Met.ofW (cc := cX2_putOver) (maxL := 6) (ret := none) (by decide +kernel) rfl ?_
  intro p e s m args below meth c s₁ B hml hv
  obtain ⟨hav, hsz, hP, hR0, hK, hN, hD0, hsep⟩ := hv
  have hx := B.exec
  have hb := B.bytes
  have hr := B.returns
  have hts := atoms_spec (ws := wsX2_putOver) B.pre
  have hown : s.vm.findClass RX2 = some m.cls := findClass_of_methodNamed B.named
  have hlocks := B.notSynchronized
  subst hsz
  have hin_X2 : ∀ w ∈ u_ws RX2 TX2 4, w ∈ wsX2_putOver := by decide +kernel
  have hw_0 := hts (.fieldLink RX2 9 "ReturnPoints$Poly" "p" "I") (by decide +kernel)
  have hw_1 := hts (.fieldLink RX2 15 "ReturnPoints$Poly" "c" "[I") (by decide +kernel)
  have hw_2 := hts (.fieldLink RX2 23 "ReturnPoints$Poly" "degree" "I") (by decide +kernel)
  have hD := hD0.self (sz := s.heap.size)
  have hnA := roA hsep hR0
  generalize hAe : va_A ((waI cy q3 t_n t_f)) s.heap.size = A at hD hnA ⊢
  have hA : ∀ q : Nat, s.heap.size ≤ q → A q := fun q h => by rw [← hAe]; exact Or.inr h
  have hS : va_S A s.heap s.heap [] := va_S.rf
  obtain ⟨ls, hfr, hl⟩ := ent_ok (m := m) (n := 6) (l' := [(0, .ref (ad 0)), (1, .ref q1), (2, .int x2), (3, .ref q3)]) [.ref (ad 0), .ref q1, .int x2, .ref q3] hav (Nat.le_of_ble_eq_true rfl) rfl
  rw [hfr]
  generalize hQe : MQ below (QW D none ((waI cy q3 t_n out)) A) args s 0 0 A = QQ
  change W p l e RMX2_putOver s m args below meth c s.heap [] 0 0 QQ (F0 m 0 ls [])
  have hP : va_P D vwCl ((waI cy q3 t_n t_f)) s.heap := hP
  have hD : va_D A ((waI cy q3 t_n t_f)) := hD
  suffices h00 : ∀ (H : Heap) (locs : List Loc), va_P D vwCl ((waI cy q3 t_n t_f)) H → va_S A s.heap H locs → W p l e RMX2_putOver s m args below meth c H locs 0 0 QQ (F0 m 0 ls []) from h00 _ _ hP hS
  clear hP hS
  intro H locs hP hS
  have L28 : ∀  (n28 : Nat) (H : Heap) (locs : List Loc) (ls : Array Slot) (x4_28 : Int32) (x5_28 : Int32) (t_f_28 : Nat → Int32), FX2_putOver_L28 x2 pn pp pc i_n i_f t_n n28 x4_28 x5_28 t_f_28 = some out → va_P D vwCl ((waI cy q3 t_n t_f_28)) H → va_D A ((waI cy q3 t_n t_f_28)) → va_S A s.heap H locs → lv_has ls 6 [(0, .ref (ad 0)), (1, .ref q1), (2, .int x2), (3, .ref q3), (4, .int x4_28), (5, .int x5_28)] → W p l e RMX2_putOver s m args below meth c H locs 0 0 QQ (F0 m 28 ls []) := by
    intro  n28
    induction n28 with
    | zero => intro H locs ls x4_28 x5_28 t_f_28 hf; simp [FX2_putOver_L28] at hf
    | succ n28 ih28 =>
      intro H locs ls x4_28 x5_28 t_f_28 hf hP hD hS hl
      rw [FX2_putOver_L28] at hf
      refine lv_iload hx hb dX2_putOver_28 (lv_at hl 5 rfl) ?_
      refine lv_if_lt (tgt := 76) hx hb dX2_putOver_30 (by decide) (fun c_30 => ?_) (fun c_30 => ?_)
      · replace hf := it_p c_30 hf
        obtain rfl := Option.some.inj hf
        rw [← hQe]
        exact W.vret hx hb hr (fun t ht hW => ⟨rfl, by rw [ht]; exact hP, hS.F ht⟩) hS.2.2 dX2_putOver_76
      · replace hf := it_n c_30 hf
        refine lv_aload_n hx hb dX2_putOver_33 rfl (lv_at hl 3 rfl) ?_
        refine lv_iload hx hb dX2_putOver_34 (lv_at hl 4 rfl) ?_
        refine lv_aload_n hx hb dX2_putOver_36 rfl (lv_at hl 1 rfl) ?_
        refine lv_iload_n hx hb dX2_putOver_37 rfl (lv_at hl 2 rfl) ?_
        refine lv_aload_n hx hb dX2_putOver_38 rfl (lv_at hl 0 rfl) ?_
        have hR := roN hR0 hnA hS
        refine va_get (a := (ad 0)) (ci := 2) (v := .int pp) (C := RX2) (T := TX2) (N := 4) hx hb hts hin_X2 hown hK hR 0 rfl rfl 0 (by decide) hw_0 (fun _ h => h) rfl dX2_putOver_39 ?_
        replace hf := ob_e hf
        obtain ⟨u_42, hu_42, hf⟩ := hf
        have hR := roN hR0 hnA hS
        refine isW (As := [.ref q3, .int x4_28, .ref q1, .int x2, .int pp]) (rest := []) (st1 := []) (is := [0]) (w1 := (waI cy q3 t_n u_42)) ⟨hx, hb, hml, hown, hts⟩ hK hN (KX2_multiply l D cy q3 q1 t_n t_f_28 i_n i_f x4_28 x2 pp H.size hu_42) (va_cwS 5 hts gX2_putOver_X2_multiply rfl rfl rfl (by decide +kernel) ⟨Nat.le_of_ble_eq_true rfl, Nat.le_of_ble_eq_true rfl⟩) hP hD hS hA (P_pl (wc := (waI cy q1 i_n i_f)) (is := [2]) hR rfl) (sep_nA (is := [0]) (isR := [2]) hnA hD rfl rfl) (by decide) rfl rfl rfl hl.1 rfl (Nat.le_of_ble_eq_true rfl) rfl dX2_putOver_42 ⟨Nat.zero_le _, Nat.zero_le _⟩ (fun H locs hP hD hS => ?_)
        have hP : va_P D vwCl ((waI cy q3 t_n u_42)) H := hP
        have hD : va_D A ((waI cy q3 t_n u_42)) := hD
        refine lv_iload hx hb dX2_putOver_45 (lv_at hl 4 rfl) ?_
        refine lv_iload_n hx hb dX2_putOver_47 rfl (lv_at hl 2 rfl) ?_
        refine lv_iadd hx hb dX2_putOver_48 ?_
        refine lv_topi (fun v_49 e_49 => ?_)
        replace hf := bd_at e_49 hf
        clear e_49
        refine lv_istore (lv' := [(4, .int v_49), (0, .ref (ad 0)), (1, .ref q1), (2, .int x2), (3, .ref q3), (5, .int x5_28)]) hx hb dX2_putOver_49 hl (by decide) rfl (fun ls hl => ?_)
        refine lv_aload_n hx hb dX2_putOver_51 rfl (lv_at hl 4 rfl) ?_
        refine lv_iconst (v := 0) hx hb dX2_putOver_52 (by decide) ?_
        refine lv_aload_n hx hb dX2_putOver_53 rfl (lv_at hl 4 rfl) ?_
        refine lv_iconst (v := 0) hx hb dX2_putOver_54 (by decide) ?_
        replace hf := gi_e hf
        obtain ⟨i_55, hf⟩ := hf
        refine va_iald (a := q3) hx hb hK hP 0 0 rfl rfl i_55 dX2_putOver_55 ?_
        refine lv_aload_n hx hb dX2_putOver_56 rfl (lv_at hl 1 rfl) ?_
        have hR := roN hR0 hnA hS
        refine va_get (a := (ad 0)) (ci := 2) (v := .ref (ad 1)) (C := RX2) (T := TX2) (N := 4) hx hb hts hin_X2 hown hK hR 0 rfl rfl 1 (by decide) hw_1 (fun _ h => h) rfl dX2_putOver_57 ?_
        refine lv_iload hx hb dX2_putOver_60 (lv_at hl 5 rfl) ?_
        replace hf := gi_e hf
        obtain ⟨i_62, hf⟩ := hf
        have hR := roN hR0 hnA hS
        refine va_iald (a := (ad 1)) hx hb hK hR 1 0 rfl rfl i_62 dX2_putOver_62 ?_
        refine lv_iadd hx hb dX2_putOver_63 ?_
        refine lv_aload_n hx hb dX2_putOver_64 rfl (lv_at hl 1 rfl) ?_
        have hR := roN hR0 hnA hS
        refine va_get (a := (ad 0)) (ci := 2) (v := .int pp) (C := RX2) (T := TX2) (N := 4) hx hb hts hin_X2 hown hK hR 0 rfl rfl 0 (by decide) hw_0 (fun _ h => h) rfl dX2_putOver_65 ?_
        replace hf := gd_e hf
        obtain ⟨z_68, hf⟩ := hf
        refine rw_irem hx hb dX2_putOver_68 z_68 ?_
        replace hf := gi_e hf
        obtain ⟨i_69, hf⟩ := hf
        refine va_iast (a := q3) hx hb hK hP hD hS 0 0 rfl rfl i_69 dX2_putOver_69 (fun H locs hP hD hS => ?_)
        have hP : va_P D vwCl ((waI cy q3 t_n (upd u_42 (Int32.toNatClampNeg 0) (irm ((u_42 (Int32.toNatClampNeg 0)) + (pc (Int32.toNatClampNeg x5_28))) pp)))) H := hP
        have hD : va_D A ((waI cy q3 t_n (upd u_42 (Int32.toNatClampNeg 0) (irm ((u_42 (Int32.toNatClampNeg 0)) + (pc (Int32.toNatClampNeg x5_28))) pp)))) := hD
        obtain ⟨v_70, e_70⟩ : ∃ y : Int32, y = x5_28 + (-1) := ⟨_, rfl⟩
        replace hf := bd_at e_70 hf
        refine lv_iinc (v := v_70) (lv' := [(5, .int v_70), (4, .int v_49), (0, .ref (ad 0)), (1, .ref q1), (2, .int x2), (3, .ref q3)]) hx hb dX2_putOver_70 hl (k := 5) rfl (by rw [e_70]; rfl) (by decide) rfl (fun ls hl => ?_)
        clear e_70
        refine lv_goto (tgt := 28) hx hb dX2_putOver_73 (by decide) ?_
        exact ih28 H locs ls v_49 v_70 (upd u_42 (Int32.toNatClampNeg 0) (irm ((u_42 (Int32.toNatClampNeg 0)) + (pc (Int32.toNatClampNeg x5_28))) pp)) hf hP hD hS (lv_sub hl [2, 3, 4, 5, 1, 0] rfl)
  unfold FX2_putOver at hf
  refine lv_aload_n hx hb dX2_putOver_0 rfl (lv_at hl 3 rfl) ?_
  refine lv_iconst (v := 0) hx hb dX2_putOver_1 (by decide) ?_
  replace hf := ob_e hf
  obtain ⟨u_2, hu_2, hf⟩ := hf
  refine isW (As := [.ref q3, .int 0]) (rest := []) (st1 := []) (is := [0]) (w1 := (waI cy q3 t_n u_2)) ⟨hx, hb, hml, hown, hts⟩ hK hN (KJ7_fill_53178 l D cy q3 t_n t_f 0 H.size hu_2) (va_cwS 2 hts gX2_putOver_J7_fill_53178 rfl rfl rfl (by decide +kernel) ⟨Nat.le_of_ble_eq_true rfl, Nat.le_of_ble_eq_true rfl⟩) hP hD hS hA P_nil (sepW_nil _) (by decide) rfl rfl rfl hl.1 rfl (Nat.le_of_ble_eq_true rfl) rfl dX2_putOver_2 ⟨Nat.zero_le _, Nat.zero_le _⟩ (fun H locs hP hD hS => ?_)
  have hP : va_P D vwCl ((waI cy q3 t_n u_2)) H := hP
  have hD : va_D A ((waI cy q3 t_n u_2)) := hD
  refine lv_aload_n hx hb dX2_putOver_5 rfl (lv_at hl 3 rfl) ?_
  refine lv_iconst (v := 0) hx hb dX2_putOver_6 (by decide) ?_
  refine lv_aload_n hx hb dX2_putOver_7 rfl (lv_at hl 0 rfl) ?_
  have hR := roN hR0 hnA hS
  refine va_get (a := (ad 0)) (ci := 2) (v := .ref (ad 1)) (C := RX2) (T := TX2) (N := 4) hx hb hts hin_X2 hown hK hR 0 rfl rfl 1 (by decide) hw_1 (fun _ h => h) rfl dX2_putOver_8 ?_
  refine lv_aload_n hx hb dX2_putOver_11 rfl (lv_at hl 0 rfl) ?_
  have hR := roN hR0 hnA hS
  refine va_get (a := (ad 0)) (ci := 2) (v := .int pd) (C := RX2) (T := TX2) (N := 4) hx hb hts hin_X2 hown hK hR 0 rfl rfl 2 (by decide) hw_2 (fun _ h => h) rfl dX2_putOver_12 ?_
  replace hf := gi_e hf
  obtain ⟨i_15, hf⟩ := hf
  have hR := roN hR0 hnA hS
  refine va_iald (a := (ad 1)) hx hb hK hR 1 0 rfl rfl i_15 dX2_putOver_15 ?_
  replace hf := gi_e hf
  obtain ⟨i_16, hf⟩ := hf
  refine va_iast (a := q3) hx hb hK hP hD hS 0 0 rfl rfl i_16 dX2_putOver_16 (fun H locs hP hD hS => ?_)
  have hP : va_P D vwCl ((waI cy q3 t_n (upd u_2 (Int32.toNatClampNeg 0) (pc (Int32.toNatClampNeg pd))))) H := hP
  have hD : va_D A ((waI cy q3 t_n (upd u_2 (Int32.toNatClampNeg 0) (pc (Int32.toNatClampNeg pd))))) := hD
  refine lv_iconst (v := 0) hx hb dX2_putOver_17 (by decide) ?_
  refine lv_istore (lv' := [(4, .int 0), (0, .ref (ad 0)), (1, .ref q1), (2, .int x2), (3, .ref q3)]) hx hb dX2_putOver_18 hl (by decide) rfl (fun ls hl => ?_)
  refine lv_aload_n hx hb dX2_putOver_20 rfl (lv_at hl 1 rfl) ?_
  have hR := roN hR0 hnA hS
  refine va_get (a := (ad 0)) (ci := 2) (v := .int pd) (C := RX2) (T := TX2) (N := 4) hx hb hts hin_X2 hown hK hR 0 rfl rfl 2 (by decide) hw_2 (fun _ h => h) rfl dX2_putOver_21 ?_
  refine lv_iconst (v := 1) hx hb dX2_putOver_24 (by decide) ?_
  refine lv_isub hx hb dX2_putOver_25 ?_
  refine lv_topi (fun v_26 e_26 => ?_)
  replace hf := bd_at e_26 hf
  clear e_26
  refine lv_istore (lv' := [(5, .int v_26), (4, .int 0), (0, .ref (ad 0)), (1, .ref q1), (2, .int x2), (3, .ref q3)]) hx hb dX2_putOver_26 hl (by decide) rfl (fun ls hl => ?_)
  exact L28 FU H locs ls 0 v_26 (upd u_2 (Int32.toNatClampNeg 0) (pc (Int32.toNatClampNeg pd))) hf hP hD hS (lv_sub hl [2, 3, 4, 5, 1, 0] rfl)
