def wX1_0 (cy : Nat → ClassId) (ad : Nat → Nat) (osz : Int32) : va_W := [(ad 0, .inr (1, [.int osz, .ref (ad 1), .ref (ad 2), .ref (ad 3), .ref (ad 4), .ref (ad 5)]))]
def wX1_0_2_3_4_5 (cy : Nat → ClassId) (ad : Nat → Nat) (n : Nat) (osz : Int32) (tl : Nat → Int32) (pe : Nat → Int32) (en : Nat → Int32) (pa : Nat → Int32) : va_W := [(ad 0, .inr (1, [.int osz, .ref (ad 1), .ref (ad 2), .ref (ad 3), .ref (ad 4), .ref (ad 5)])), (ad 2, .inl (cy 0, n, .inl tl)), (ad 3, .inl (cy 0, n, .inl pe)), (ad 4, .inl (cy 0, n, .inl en)), (ad 5, .inl (cy 0, n, .inl pa))]
def wX1_0_1_2_3_4 (cy : Nat → ClassId) (ad : Nat → Nat) (n : Nat) (osz : Int32) (nx : Nat → Int32) (tl : Nat → Int32) (pe : Nat → Int32) (en : Nat → Int32) : va_W := [(ad 0, .inr (1, [.int osz, .ref (ad 1), .ref (ad 2), .ref (ad 3), .ref (ad 4), .ref (ad 5)])), (ad 1, .inl (cy 0, n, .inl nx)), (ad 2, .inl (cy 0, n, .inl tl)), (ad 3, .inl (cy 0, n, .inl pe)), (ad 4, .inl (cy 0, n, .inl en))]
def wX1_0_1_2_3_4_5 (cy : Nat → ClassId) (ad : Nat → Nat) (n : Nat) (osz : Int32) (nx : Nat → Int32) (tl : Nat → Int32) (pe : Nat → Int32) (en : Nat → Int32) (pa : Nat → Int32) : va_W := [(ad 0, .inr (1, [.int osz, .ref (ad 1), .ref (ad 2), .ref (ad 3), .ref (ad 4), .ref (ad 5)])), (ad 1, .inl (cy 0, n, .inl nx)), (ad 2, .inl (cy 0, n, .inl tl)), (ad 3, .inl (cy 0, n, .inl pe)), (ad 4, .inl (cy 0, n, .inl en)), (ad 5, .inl (cy 0, n, .inl pa))]
def wX1_0_1_2_3 (cy : Nat → ClassId) (ad : Nat → Nat) (n : Nat) (osz : Int32) (nx : Nat → Int32) (tl : Nat → Int32) (pe : Nat → Int32) : va_W := [(ad 0, .inr (1, [.int osz, .ref (ad 1), .ref (ad 2), .ref (ad 3), .ref (ad 4), .ref (ad 5)])), (ad 1, .inl (cy 0, n, .inl nx)), (ad 2, .inl (cy 0, n, .inl tl)), (ad 3, .inl (cy 0, n, .inl pe))]
def FX1_isInside  (osz : Int32) (x1 : Int32) : Option (Bool) := (if x1 < 0 then ((some (false))) else (if osz ≤ x1 then ((some (false))) else ((some (true)))))
abbrev RMX1_isInside : Room := { frames := 0, cells := 0, slots := 0, locals := 0 }
set_option maxHeartbeats 4000000 in
set_option maxRecDepth 100000 in
theorem KX1_isInside (l : Launch) (D : va_G) (cy : Nat → ClassId) (ad : Nat → Nat) (osz : Int32) (x1 : Int32) (sz : Nat) {out : Bool} (hf : FX1_isInside osz x1 = some out) : Met l yX1_isInside wsX1_isInside RMX1_isInside (PW D cy [.ref (ad 0), .int x1] sz [] ((wX1_0 cy ad osz))) (QR (some (.int (bi out)))) 0 0 no_A := by
  refine Met.ofW (cc := cX1_isInside) (maxL := 2) (ret := (some .boolean)) (by decide +kernel) rfl ?_
  intro p e s m args below meth c s₁ B hml hv
  obtain ⟨hav, hsz, hP, hR0, hK, hN, hD0, hsep⟩ := hv
  have hx := B.exec
  have hb := B.bytes
  have hr := B.returns
  have hts := atoms_spec (ws := wsX1_isInside) B.pre
  have hown : s.vm.findClass RX1 = some m.cls := findClass_of_methodNamed B.named
  have hlocks := B.notSynchronized
  subst hsz
  have hin_X1 : ∀ w ∈ u_ws RX1 TX1 6, w ∈ wsX1_isInside := by decide +kernel
  have hw_0 := hts (.fieldLink RX1 7 "ReturnPoints$Orbits" "size" "I") (by decide +kernel)
  obtain ⟨ls, hfr, hl⟩ := ent_ok (m := m) (n := 2) (l' := [(0, .ref (ad 0)), (1, .int x1)]) [.ref (ad 0), .int x1] hav (Nat.le_of_ble_eq_true rfl) rfl
  rw [hfr]
  generalize hQe : MQ below (QR (some (.int (bi out)))) args s 0 0 no_A = QQ
  change W p l e RMX1_isInside s m args below meth c s.heap [] 0 0 QQ (F0 m 0 ls [])
  unfold FX1_isInside at hf
  refine lv_iload_n hx hb dX1_isInside_0 rfl (lv_at hl 1 rfl) ?_
  refine lv_if_lt (tgt := 16) hx hb dX1_isInside_1 (by decide) (fun c_1 => ?_) (fun c_1 => ?_)
  · replace hf := it_p c_1 hf
    refine lv_iconst (v := 0) hx hb dX1_isInside_16 (by decide) ?_
    obtain rfl := Option.some.inj hf
    rw [← hQe]
    exact W.zret (v := bi false) hx hb hr (nar_bi _) (fun t ht hW => ⟨rfl, ht⟩) (fun q h => by cases h) dX1_isInside_17
  · replace hf := it_n c_1 hf
    refine lv_iload_n hx hb dX1_isInside_4 rfl (lv_at hl 1 rfl) ?_
    refine lv_aload_n hx hb dX1_isInside_5 rfl (lv_at hl 0 rfl) ?_
    refine va_get (a := (ad 0)) (ci := 1) (v := .int osz) (C := RX1) (T := TX1) (N := 6) hx hb hts hin_X1 hown hK hR0 0 rfl rfl 0 (by decide) hw_0 (fun _ h => h) rfl dX1_isInside_6 ?_
    refine lv_icmp_ge (tgt := 16) hx hb dX1_isInside_9 (by decide) (fun c_9 => ?_) (fun c_9 => ?_)
    · replace hf := it_p c_9 hf
      refine lv_iconst (v := 0) hx hb dX1_isInside_16 (by decide) ?_
      obtain rfl := Option.some.inj hf
      rw [← hQe]
      exact W.zret (v := bi false) hx hb hr (nar_bi _) (fun t ht hW => ⟨rfl, ht⟩) (fun q h => by cases h) dX1_isInside_17
    · replace hf := it_n c_9 hf
      refine lv_iconst (v := 1) hx hb dX1_isInside_12 (by decide) ?_
      refine lv_goto (tgt := 17) hx hb dX1_isInside_13 (by decide) ?_
      obtain rfl := Option.some.inj hf
      rw [← hQe]
      exact W.zret (v := bi true) hx hb hr (nar_bi _) (fun t ht hW => ⟨rfl, ht⟩) (fun q h => by cases h) dX1_isInside_17
def FX1_closeRing_L31   (x2 : Int32) (x3_31 : Int32) (n : Nat) (pa : Nat → Int32) : Nat → Int32 → (Nat → Int32) → (Nat → Int32) → (Nat → Int32) → Option (Int32 × (Nat → Int32) × (Nat → Int32) × (Nat → Int32))
  | 0, _, _, _, _ => none
  | fuel + 1, x4_31, tl_31, pe_31, en_31 => (if x2 ≤ x4_31 then (some (x3_31, tl_31, pe_31, en_31)) else (gi x4_31 n (gi (pa (Int32.toNatClampNeg x4_31)) n (gi x4_31 n (gi (pa (Int32.toNatClampNeg x4_31)) n (gi x4_31 n (gi x4_31 n (gi (pa (Int32.toNatClampNeg x4_31)) n (bd (x4_31 + 1) (fun v_84 => (FX1_closeRing_L31 x2 x3_31 n pa fuel) v_84 (upd tl_31 (Int32.toNatClampNeg (pa (Int32.toNatClampNeg x4_31))) 0) (upd pe_31 (Int32.toNatClampNeg (pa (Int32.toNatClampNeg x4_31))) (x2 - x3_31)) (upd en_31 (Int32.toNatClampNeg (pa (Int32.toNatClampNeg x4_31))) (pa (Int32.toNatClampNeg x4_31)))))))))))))
def FX1_closeRing_J28   (x2 : Int32) (x3_28 : Int32) (n : Nat) (tl_28 : Nat → Int32) (pe_28 : Nat → Int32) (en_28 : Nat → Int32) (pa : Nat → Int32) : Option (Int32 × (Nat → Int32) × (Nat → Int32) × (Nat → Int32)) := (FX1_closeRing_L31 x2 x3_28 n pa FU x3_28 tl_28 pe_28 en_28)
def FX1_closeRing_L8   (x1 : Int32) (x2 : Int32) (n : Nat) (tl_8 : Nat → Int32) (pe_8 : Nat → Int32) (en_8 : Nat → Int32) (pa : Nat → Int32) : Nat → Int32 → Option (Int32 × (Nat → Int32) × (Nat → Int32) × (Nat → Int32))
  | 0, _ => none
  | fuel + 1, x3_8 => (if x3_8 ≤ 0 then FX1_closeRing_J28 x2 x3_8 n tl_8 pe_8 en_8 pa else (gi x3_8 n (if (pa (Int32.toNatClampNeg x3_8)) = x1 then FX1_closeRing_J28 x2 x3_8 n tl_8 pe_8 en_8 pa else (bd (x3_8 + (-1)) (fun v_22 => (FX1_closeRing_L8 x1 x2 n tl_8 pe_8 en_8 pa fuel) v_22)))))
def FX1_closeRing  (n : Nat) (tl : Nat → Int32) (pe : Nat → Int32) (en : Nat → Int32) (pa : Nat → Int32) (x1 : Int32) (x2 : Int32) : Option (Int32 × (Nat → Int32) × (Nat → Int32) × (Nat → Int32)) := (bd (imx (x2 - 1) 0) (fun v_7 => FX1_closeRing_L8 x1 x2 n tl pe en pa FU v_7))
abbrev RMX1_closeRing : Room := { frames := 1, cells := 0, slots := 0, locals := 24 }
set_option maxHeartbeats 4000000 in
set_option maxRecDepth 100000 in
theorem KX1_closeRing (l : Launch) (D : va_G) (cy : Nat → ClassId) (ad : Nat → Nat) (n : Nat) (osz : Int32) (tl : Nat → Int32) (pe : Nat → Int32) (en : Nat → Int32) (pa : Nat → Int32) (x1 : Int32) (x2 : Int32) (sz : Nat) {out : Int32 × (Nat → Int32) × (Nat → Int32) × (Nat → Int32)} (hf : FX1_closeRing n tl pe en pa x1 x2 = some out) : Met l yX1_closeRing wsX1_closeRing RMX1_closeRing (PW D cy [.ref (ad 0), .int x1, .int x2] sz ((wX1_0_2_3_4_5 cy ad n osz tl pe en pa)) []) (QW D (some (.int out.1)) ((wX1_0_2_3_4_5 cy ad n osz out.2.1 out.2.2.1 out.2.2.2 pa)) (va_A ((wX1_0_2_3_4_5 cy ad n osz tl pe en pa)) sz)) 0 0 (va_A ((wX1_0_2_3_4_5 cy ad n osz tl pe en pa)) sz) := by
  refine Met.ofW (cc := cX1_closeRing) (maxL := 5) (ret := (some .int)) (by decide +kernel) rfl ?_
  intro p e s m args below meth c s₁ B hml hv
  obtain ⟨hav, hsz, hP, hR0, hK, hN, hD0, hsep⟩ := hv
  have hx := B.exec
  have hb := B.bytes
  have hr := B.returns
  have hts := atoms_spec (ws := wsX1_closeRing) B.pre
  have hown : s.vm.findClass RX1 = some m.cls := findClass_of_methodNamed B.named
  have hlocks := B.notSynchronized
  subst hsz
  have hin_X1 : ∀ w ∈ u_ws RX1 TX1 6, w ∈ wsX1_closeRing := by decide +kernel
  have hw_0 := hts (.methodLink RX1 50 Lib.Math.max.name) (by decide +kernel)
  have hw_1 := hts (.static Lib.Math.max.name) (by decide +kernel)
  have hw_2 := hts (.initialized "java/lang/Math") (by decide +kernel)
  have hw_3 := hts (.code Lib.Math.max.name Lib.Math.max.code 2 (some .int)) (by decide +kernel)
  have hw_4 := hts (.fieldLink RX1 17 "ReturnPoints$Orbits" "tail" "[I") (by decide +kernel)
  have hw_5 := hts (.fieldLink RX1 26 "ReturnPoints$Orbits" "path" "[I") (by decide +kernel)
  have hw_6 := hts (.fieldLink RX1 20 "ReturnPoints$Orbits" "period" "[I") (by decide +kernel)
  have hw_7 := hts (.fieldLink RX1 23 "ReturnPoints$Orbits" "entry" "[I") (by decide +kernel)
  have hD := hD0.self (sz := s.heap.size)
  have hnA := roA hsep hR0
  generalize hAe : va_A ((wX1_0_2_3_4_5 cy ad n osz tl pe en pa)) s.heap.size = A at hD hnA ⊢
  have hA : ∀ q : Nat, s.heap.size ≤ q → A q := fun q h => by rw [← hAe]; exact Or.inr h
  have hS : va_S A s.heap s.heap [] := va_S.rf
  obtain ⟨ls, hfr, hl⟩ := ent_ok (m := m) (n := 5) (l' := [(0, .ref (ad 0)), (1, .int x1), (2, .int x2)]) [.ref (ad 0), .int x1, .int x2] hav (Nat.le_of_ble_eq_true rfl) rfl
  rw [hfr]
  generalize hQe : MQ below (QW D (some (.int out.1)) ((wX1_0_2_3_4_5 cy ad n osz out.2.1 out.2.2.1 out.2.2.2 pa)) A) args s 0 0 A = QQ
  change W p l e RMX1_closeRing s m args below meth c s.heap [] 0 0 QQ (F0 m 0 ls [])
  have hP : va_P D vwCl ((wX1_0_2_3_4_5 cy ad n osz tl pe en pa)) s.heap := hP
  have hD : va_D A ((wX1_0_2_3_4_5 cy ad n osz tl pe en pa)) := hD
  suffices h00 : ∀ (H : Heap) (locs : List Loc), va_P D vwCl ((wX1_0_2_3_4_5 cy ad n osz tl pe en pa)) H → va_S A s.heap H locs → W p l e RMX1_closeRing s m args below meth c H locs 0 0 QQ (F0 m 0 ls []) from h00 _ _ hP hS
  clear hP hS
  intro H locs hP hS
  have L31 : ∀ (x3_31 : Int32) (n31 : Nat) (H : Heap) (locs : List Loc) (ls : Array Slot) (x4_31 : Int32) (tl_31 : Nat → Int32) (pe_31 : Nat → Int32) (en_31 : Nat → Int32), FX1_closeRing_L31 x2 x3_31 n pa n31 x4_31 tl_31 pe_31 en_31 = some out → va_P D vwCl ((wX1_0_2_3_4_5 cy ad n osz tl_31 pe_31 en_31 pa)) H → va_D A ((wX1_0_2_3_4_5 cy ad n osz tl_31 pe_31 en_31 pa)) → va_S A s.heap H locs → lv_has ls 5 [(0, .ref (ad 0)), (2, .int x2), (3, .int x3_31), (4, .int x4_31)] → W p l e RMX1_closeRing s m args below meth c H locs 0 0 QQ (F0 m 31 ls []) := by
    intro x3_31 n31
    induction n31 with
    | zero => intro H locs ls x4_31 tl_31 pe_31 en_31 hf; simp [FX1_closeRing_L31] at hf
    | succ n31 ih31 =>
      intro H locs ls x4_31 tl_31 pe_31 en_31 hf hP hD hS hl
      rw [FX1_closeRing_L31] at hf
      refine lv_iload hx hb dX1_closeRing_31 (lv_at hl 3 rfl) ?_
      refine lv_iload_n hx hb dX1_closeRing_33 rfl (lv_at hl 1 rfl) ?_
      refine lv_icmp_ge (tgt := 90) hx hb dX1_closeRing_34 (by decide) (fun c_34 => ?_) (fun c_34 => ?_)
      · replace hf := it_p c_34 hf
        refine lv_iload_n hx hb dX1_closeRing_90 rfl (lv_at hl 2 rfl) ?_
        obtain rfl := Option.some.inj hf
        rw [← hQe]
        exact W.iret (v := x3_31) hx hb hr (fun t ht hW => ⟨rfl, by rw [ht]; exact hP, hS.F ht⟩) hS.2.2 dX1_closeRing_91
      · replace hf := it_n c_34 hf
        refine lv_aload_n hx hb dX1_closeRing_37 rfl (lv_at hl 0 rfl) ?_
        refine va_get (a := (ad 0)) (ci := 1) (v := .ref (ad 2)) (C := RX1) (T := TX1) (N := 6) hx hb hts hin_X1 hown hK hP 0 rfl rfl 2 (by decide) hw_4 (fun _ h => h) rfl dX1_closeRing_38 ?_
        refine lv_aload_n hx hb dX1_closeRing_41 rfl (lv_at hl 0 rfl) ?_
        refine va_get (a := (ad 0)) (ci := 1) (v := .ref (ad 5)) (C := RX1) (T := TX1) (N := 6) hx hb hts hin_X1 hown hK hP 0 rfl rfl 5 (by decide) hw_5 (fun _ h => h) rfl dX1_closeRing_42 ?_
        refine lv_iload hx hb dX1_closeRing_45 (lv_at hl 3 rfl) ?_
        replace hf := gi_e hf
        obtain ⟨i_47, hf⟩ := hf
        refine va_iald (a := (ad 5)) hx hb hK hP 4 0 rfl rfl i_47 dX1_closeRing_47 ?_
        refine lv_iconst (v := 0) hx hb dX1_closeRing_48 (by decide) ?_
        replace hf := gi_e hf
        obtain ⟨i_49, hf⟩ := hf
        refine va_iast (a := (ad 2)) hx hb hK hP hD hS 1 0 rfl rfl i_49 dX1_closeRing_49 (fun H locs hP hD hS => ?_)
        have hP : va_P D vwCl ((wX1_0_2_3_4_5 cy ad n osz (upd tl_31 (Int32.toNatClampNeg (pa (Int32.toNatClampNeg x4_31))) 0) pe_31 en_31 pa)) H := hP
        have hD : va_D A ((wX1_0_2_3_4_5 cy ad n osz (upd tl_31 (Int32.toNatClampNeg (pa (Int32.toNatClampNeg x4_31))) 0) pe_31 en_31 pa)) := hD
        refine lv_aload_n hx hb dX1_closeRing_50 rfl (lv_at hl 0 rfl) ?_
        refine va_get (a := (ad 0)) (ci := 1) (v := .ref (ad 3)) (C := RX1) (T := TX1) (N := 6) hx hb hts hin_X1 hown hK hP 0 rfl rfl 3 (by decide) hw_6 (fun _ h => h) rfl dX1_closeRing_51 ?_
        refine lv_aload_n hx hb dX1_closeRing_54 rfl (lv_at hl 0 rfl) ?_
        refine va_get (a := (ad 0)) (ci := 1) (v := .ref (ad 5)) (C := RX1) (T := TX1) (N := 6) hx hb hts hin_X1 hown hK hP 0 rfl rfl 5 (by decide) hw_5 (fun _ h => h) rfl dX1_closeRing_55 ?_
        refine lv_iload hx hb dX1_closeRing_58 (lv_at hl 3 rfl) ?_
        replace hf := gi_e hf
        obtain ⟨i_60, hf⟩ := hf
        refine va_iald (a := (ad 5)) hx hb hK hP 4 0 rfl rfl i_60 dX1_closeRing_60 ?_
        refine lv_iload_n hx hb dX1_closeRing_61 rfl (lv_at hl 1 rfl) ?_
        refine lv_iload_n hx hb dX1_closeRing_62 rfl (lv_at hl 2 rfl) ?_
        refine lv_isub hx hb dX1_closeRing_63 ?_
        replace hf := gi_e hf
        obtain ⟨i_64, hf⟩ := hf
        refine va_iast (a := (ad 3)) hx hb hK hP hD hS 2 0 rfl rfl i_64 dX1_closeRing_64 (fun H locs hP hD hS => ?_)
        have hP : va_P D vwCl ((wX1_0_2_3_4_5 cy ad n osz (upd tl_31 (Int32.toNatClampNeg (pa (Int32.toNatClampNeg x4_31))) 0) (upd pe_31 (Int32.toNatClampNeg (pa (Int32.toNatClampNeg x4_31))) (x2 - x3_31)) en_31 pa)) H := hP
        have hD : va_D A ((wX1_0_2_3_4_5 cy ad n osz (upd tl_31 (Int32.toNatClampNeg (pa (Int32.toNatClampNeg x4_31))) 0) (upd pe_31 (Int32.toNatClampNeg (pa (Int32.toNatClampNeg x4_31))) (x2 - x3_31)) en_31 pa)) := hD
        refine lv_aload_n hx hb dX1_closeRing_65 rfl (lv_at hl 0 rfl) ?_
        refine va_get (a := (ad 0)) (ci := 1) (v := .ref (ad 4)) (C := RX1) (T := TX1) (N := 6) hx hb hts hin_X1 hown hK hP 0 rfl rfl 4 (by decide) hw_7 (fun _ h => h) rfl dX1_closeRing_66 ?_
        refine lv_aload_n hx hb dX1_closeRing_69 rfl (lv_at hl 0 rfl) ?_
        refine va_get (a := (ad 0)) (ci := 1) (v := .ref (ad 5)) (C := RX1) (T := TX1) (N := 6) hx hb hts hin_X1 hown hK hP 0 rfl rfl 5 (by decide) hw_5 (fun _ h => h) rfl dX1_closeRing_70 ?_
        refine lv_iload hx hb dX1_closeRing_73 (lv_at hl 3 rfl) ?_
        replace hf := gi_e hf
        obtain ⟨i_75, hf⟩ := hf
        refine va_iald (a := (ad 5)) hx hb hK hP 4 0 rfl rfl i_75 dX1_closeRing_75 ?_
        refine lv_aload_n hx hb dX1_closeRing_76 rfl (lv_at hl 0 rfl) ?_
        refine va_get (a := (ad 0)) (ci := 1) (v := .ref (ad 5)) (C := RX1) (T := TX1) (N := 6) hx hb hts hin_X1 hown hK hP 0 rfl rfl 5 (by decide) hw_5 (fun _ h => h) rfl dX1_closeRing_77 ?_
        refine lv_iload hx hb dX1_closeRing_80 (lv_at hl 3 rfl) ?_
        replace hf := gi_e hf
        obtain ⟨i_82, hf⟩ := hf
        refine va_iald (a := (ad 5)) hx hb hK hP 4 0 rfl rfl i_82 dX1_closeRing_82 ?_
        replace hf := gi_e hf
        obtain ⟨i_83, hf⟩ := hf
        refine va_iast (a := (ad 4)) hx hb hK hP hD hS 3 0 rfl rfl i_83 dX1_closeRing_83 (fun H locs hP hD hS => ?_)
        have hP : va_P D vwCl ((wX1_0_2_3_4_5 cy ad n osz (upd tl_31 (Int32.toNatClampNeg (pa (Int32.toNatClampNeg x4_31))) 0) (upd pe_31 (Int32.toNatClampNeg (pa (Int32.toNatClampNeg x4_31))) (x2 - x3_31)) (upd en_31 (Int32.toNatClampNeg (pa (Int32.toNatClampNeg x4_31))) (pa (Int32.toNatClampNeg x4_31))) pa)) H := hP
        have hD : va_D A ((wX1_0_2_3_4_5 cy ad n osz (upd tl_31 (Int32.toNatClampNeg (pa (Int32.toNatClampNeg x4_31))) 0) (upd pe_31 (Int32.toNatClampNeg (pa (Int32.toNatClampNeg x4_31))) (x2 - x3_31)) (upd en_31 (Int32.toNatClampNeg (pa (Int32.toNatClampNeg x4_31))) (pa (Int32.toNatClampNeg x4_31))) pa)) := hD
        obtain ⟨v_84, e_84⟩ : ∃ y : Int32, y = x4_31 + 1 := ⟨_, rfl⟩
        replace hf := bd_at e_84 hf
        refine lv_iinc (v := v_84) (lv' := [(4, .int v_84), (0, .ref (ad 0)), (2, .int x2), (3, .int x3_31)]) hx hb dX1_closeRing_84 hl (k := 3) rfl (by rw [e_84]; rfl) (by decide) rfl (fun ls hl => ?_)
        clear e_84
        refine lv_goto (tgt := 31) hx hb dX1_closeRing_87 (by decide) ?_
        exact ih31 H locs ls v_84 (upd tl_31 (Int32.toNatClampNeg (pa (Int32.toNatClampNeg x4_31))) 0) (upd pe_31 (Int32.toNatClampNeg (pa (Int32.toNatClampNeg x4_31))) (x2 - x3_31)) (upd en_31 (Int32.toNatClampNeg (pa (Int32.toNatClampNeg x4_31))) (pa (Int32.toNatClampNeg x4_31))) hf hP hD hS (lv_sub hl [1, 2, 3, 0] rfl)
  have J28 : ∀ (H : Heap) (locs : List Loc) (ls : Array Slot) (x3_28 : Int32) (tl_28 : Nat → Int32) (pe_28 : Nat → Int32) (en_28 : Nat → Int32), FX1_closeRing_J28 x2 x3_28 n tl_28 pe_28 en_28 pa = some out → va_P D vwCl ((wX1_0_2_3_4_5 cy ad n osz tl_28 pe_28 en_28 pa)) H → va_D A ((wX1_0_2_3_4_5 cy ad n osz tl_28 pe_28 en_28 pa)) → va_S A s.heap H locs → lv_has ls 5 [(0, .ref (ad 0)), (2, .int x2), (3, .int x3_28)] → W p l e RMX1_closeRing s m args below meth c H locs 0 0 QQ (F0 m 28 ls []) := by
    intro H locs ls x3_28 tl_28 pe_28 en_28 hf hP hD hS hl
    unfold FX1_closeRing_J28 at hf
    refine lv_iload_n hx hb dX1_closeRing_28 rfl (lv_at hl 2 rfl) ?_
    refine lv_istore (lv' := [(4, .int x3_28), (0, .ref (ad 0)), (2, .int x2), (3, .int x3_28)]) hx hb dX1_closeRing_29 hl (by decide) rfl (fun ls hl => ?_)
    exact L31 x3_28 FU H locs ls x3_28 tl_28 pe_28 en_28 hf hP hD hS (lv_sub hl [1, 2, 3, 0] rfl)
  have L8 : ∀ (tl_8 : Nat → Int32) (pe_8 : Nat → Int32) (en_8 : Nat → Int32) (n8 : Nat) (H : Heap) (locs : List Loc) (ls : Array Slot) (x3_8 : Int32), FX1_closeRing_L8 x1 x2 n tl_8 pe_8 en_8 pa n8 x3_8 = some out → va_P D vwCl ((wX1_0_2_3_4_5 cy ad n osz tl_8 pe_8 en_8 pa)) H → va_D A ((wX1_0_2_3_4_5 cy ad n osz tl_8 pe_8 en_8 pa)) → va_S A s.heap H locs → lv_has ls 5 [(0, .ref (ad 0)), (1, .int x1), (2, .int x2), (3, .int x3_8)] → W p l e RMX1_closeRing s m args below meth c H locs 0 0 QQ (F0 m 8 ls []) := by
    intro tl_8 pe_8 en_8 n8
    induction n8 with
    | zero => intro H locs ls x3_8 hf; simp [FX1_closeRing_L8] at hf
    | succ n8 ih8 =>
      intro H locs ls x3_8 hf hP hD hS hl
      rw [FX1_closeRing_L8] at hf
      refine lv_iload_n hx hb dX1_closeRing_8 rfl (lv_at hl 3 rfl) ?_
      refine lv_if_le (tgt := 28) hx hb dX1_closeRing_9 (by decide) (fun c_9 => ?_) (fun c_9 => ?_)
      · replace hf := it_p c_9 hf
        exact J28 H locs ls x3_8 tl_8 pe_8 en_8 hf hP hD hS (lv_sub hl [0, 2, 3] rfl)
      · replace hf := it_n c_9 hf
        refine lv_aload_n hx hb dX1_closeRing_12 rfl (lv_at hl 0 rfl) ?_
        refine va_get (a := (ad 0)) (ci := 1) (v := .ref (ad 5)) (C := RX1) (T := TX1) (N := 6) hx hb hts hin_X1 hown hK hP 0 rfl rfl 5 (by decide) hw_5 (fun _ h => h) rfl dX1_closeRing_13 ?_
        refine lv_iload_n hx hb dX1_closeRing_16 rfl (lv_at hl 3 rfl) ?_
        replace hf := gi_e hf
        obtain ⟨i_17, hf⟩ := hf
        refine va_iald (a := (ad 5)) hx hb hK hP 4 0 rfl rfl i_17 dX1_closeRing_17 ?_
        refine lv_iload_n hx hb dX1_closeRing_18 rfl (lv_at hl 1 rfl) ?_
        refine lv_icmp_eq (tgt := 28) hx hb dX1_closeRing_19 (by decide) (fun c_19 => ?_) (fun c_19 => ?_)
        · replace hf := it_p c_19 hf
          exact J28 H locs ls x3_8 tl_8 pe_8 en_8 hf hP hD hS (lv_sub hl [0, 2, 3] rfl)
        · replace hf := it_n c_19 hf
          obtain ⟨v_22, e_22⟩ : ∃ y : Int32, y = x3_8 + (-1) := ⟨_, rfl⟩
          replace hf := bd_at e_22 hf
          refine lv_iinc (v := v_22) (lv' := [(3, .int v_22), (0, .ref (ad 0)), (1, .int x1), (2, .int x2)]) hx hb dX1_closeRing_22 hl (k := 3) rfl (by rw [e_22]; rfl) (by decide) rfl (fun ls hl => ?_)
          clear e_22
          refine lv_goto (tgt := 8) hx hb dX1_closeRing_25 (by decide) ?_
          exact ih8 H locs ls v_22 hf hP hD hS (lv_sub hl [1, 2, 3, 0] rfl)
  unfold FX1_closeRing at hf
  refine lv_iload_n hx hb dX1_closeRing_0 rfl (lv_at hl 2 rfl) ?_
  refine lv_iconst (v := 1) hx hb dX1_closeRing_1 (by decide) ?_
  refine lv_isub hx hb dX1_closeRing_2 ?_
  refine lv_iconst (v := 0) hx hb dX1_closeRing_3 (by decide) ?_
  refine va_mmax hx hb (hml.trans hl.1.symm) hown hw_0 hw_1 hw_2 hw_3 (Nat.le_of_ble_eq_true rfl) (Nat.le_of_ble_eq_true rfl) (Nat.zero_le _) (Nat.zero_le _) dX1_closeRing_4 ?_
  show W p l e RMX1_closeRing s m args below meth c H locs 0 0 QQ (F0 m 7 ls [.int (imx (x2 - 1) 0)])
  refine lv_topi (fun v_7 e_7 => ?_)
  replace hf := bd_at e_7 hf
  clear e_7
  refine lv_istore_n (lv' := [(3, .int v_7), (0, .ref (ad 0)), (1, .int x1), (2, .int x2)]) hx hb dX1_closeRing_7 rfl hl (by decide) rfl (fun ls hl => ?_)
  exact L8 tl pe en FU H locs ls v_7 hf hP hD hS (lv_sub hl [1, 2, 3, 0] rfl)
def FX1_hang_J65   (x1 : Int32) (n : Nat) (tl_65 : Nat → Int32) (pe_65 : Nat → Int32) (en_65 : Nat → Int32) : Option ((Nat → Int32) × (Nat → Int32) × (Nat → Int32)) := (gi x1 n (gi x1 n (gi x1 n ((some ((upd tl_65 (Int32.toNatClampNeg x1) 0), (upd pe_65 (Int32.toNatClampNeg x1) 0), (upd en_65 (Int32.toNatClampNeg x1) x1)))))))
def FX1_hang  (n : Nat) (osz : Int32) (nx : Nat → Int32) (tl : Nat → Int32) (pe : Nat → Int32) (en : Nat → Int32) (x1 : Int32) : Option ((Nat → Int32) × (Nat → Int32) × (Nat → Int32)) := (gi x1 n (bd (nx (Int32.toNatClampNeg x1)) (fun v_6 => ob (FX1_isInside osz v_6) (fun u_9 => if (bi u_9) = 0 then FX1_hang_J65 x1 n tl pe en else (gi v_6 n (if (pe (Int32.toNatClampNeg v_6)) = 0 then FX1_hang_J65 x1 n tl pe en else (gi v_6 n (gi x1 n (gi v_6 n (gi x1 n (gi v_6 n (gi x1 n ((some ((upd tl (Int32.toNatClampNeg x1) ((tl (Int32.toNatClampNeg v_6)) + 1)), (upd pe (Int32.toNatClampNeg x1) (pe (Int32.toNatClampNeg v_6))), (upd en (Int32.toNatClampNeg x1) (en (Int32.toNatClampNeg v_6))))))))))))))))))
abbrev RMX1_hang : Room := { frames := 1, cells := 0, slots := 0, locals := 21 }
set_option maxHeartbeats 4000000 in
set_option maxRecDepth 100000 in
theorem KX1_hang (l : Launch) (D : va_G) (cy : Nat → ClassId) (ad : Nat → Nat) (n : Nat) (osz : Int32) (nx : Nat → Int32) (tl : Nat → Int32) (pe : Nat → Int32) (en : Nat → Int32) (x1 : Int32) (sz : Nat) {out : (Nat → Int32) × (Nat → Int32) × (Nat → Int32)} (hf : FX1_hang n osz nx tl pe en x1 = some out) : Met l yX1_hang wsX1_hang RMX1_hang (PW D cy [.ref (ad 0), .int x1] sz ((wX1_0_1_2_3_4 cy ad n osz nx tl pe en)) []) (QW D none ((wX1_0_1_2_3_4 cy ad n osz nx out.1 out.2.1 out.2.2)) (va_A ((wX1_0_1_2_3_4 cy ad n osz nx tl pe en)) sz)) 0 0 (va_A ((wX1_0_1_2_3_4 cy ad n osz nx tl pe en)) sz) := by
  refine Met.ofW (cc := cX1_hang) (maxL := 3) (ret := none) (by decide +kernel) rfl ?_
  intro p e s m args below meth c s₁ B hml hv
  obtain ⟨hav, hsz, hP, hR0, hK, hN, hD0, hsep⟩ := hv
  have hx := B.exec
  have hb := B.bytes
  have hr := B.returns
  have hts := atoms_spec (ws := wsX1_hang) B.pre
  have hown : s.vm.findClass RX1 = some m.cls := findClass_of_methodNamed B.named
  have hlocks := B.notSynchronized
  subst hsz
  have hin_X1 : ∀ w ∈ u_ws RX1 TX1 6, w ∈ wsX1_hang := by decide +kernel
  have hw_0 := hts (.fieldLink RX1 17 "ReturnPoints$Orbits" "tail" "[I") (by decide +kernel)
  have hw_1 := hts (.fieldLink RX1 20 "ReturnPoints$Orbits" "period" "[I") (by decide +kernel)
  have hw_2 := hts (.fieldLink RX1 23 "ReturnPoints$Orbits" "entry" "[I") (by decide +kernel)
  have hw_3 := hts (.fieldLink RX1 13 "ReturnPoints$Orbits" "next" "[I") (by decide +kernel)
  have hD := hD0.self (sz := s.heap.size)
  have hnA := roA hsep hR0
  generalize hAe : va_A ((wX1_0_1_2_3_4 cy ad n osz nx tl pe en)) s.heap.size = A at hD hnA ⊢
  have hA : ∀ q : Nat, s.heap.size ≤ q → A q := fun q h => by rw [← hAe]; exact Or.inr h
  have hS : va_S A s.heap s.heap [] := va_S.rf
  obtain ⟨ls, hfr, hl⟩ := ent_ok (m := m) (n := 3) (l' := [(0, .ref (ad 0)), (1, .int x1)]) [.ref (ad 0), .int x1] hav (Nat.le_of_ble_eq_true rfl) rfl
  rw [hfr]
  generalize hQe : MQ below (QW D none ((wX1_0_1_2_3_4 cy ad n osz nx out.1 out.2.1 out.2.2)) A) args s 0 0 A = QQ
  change W p l e RMX1_hang s m args below meth c s.heap [] 0 0 QQ (F0 m 0 ls [])
  have hP : va_P D vwCl ((wX1_0_1_2_3_4 cy ad n osz nx tl pe en)) s.heap := hP
  have hD : va_D A ((wX1_0_1_2_3_4 cy ad n osz nx tl pe en)) := hD
  suffices h00 : ∀ (H : Heap) (locs : List Loc), va_P D vwCl ((wX1_0_1_2_3_4 cy ad n osz nx tl pe en)) H → va_S A s.heap H locs → W p l e RMX1_hang s m args below meth c H locs 0 0 QQ (F0 m 0 ls []) from h00 _ _ hP hS
  clear hP hS
  intro H locs hP hS
  have J65 : ∀ (H : Heap) (locs : List Loc) (ls : Array Slot) (tl_65 : Nat → Int32) (pe_65 : Nat → Int32) (en_65 : Nat → Int32), FX1_hang_J65 x1 n tl_65 pe_65 en_65 = some out → va_P D vwCl ((wX1_0_1_2_3_4 cy ad n osz nx tl_65 pe_65 en_65)) H → va_D A ((wX1_0_1_2_3_4 cy ad n osz nx tl_65 pe_65 en_65)) → va_S A s.heap H locs → lv_has ls 3 [(0, .ref (ad 0)), (1, .int x1)] → W p l e RMX1_hang s m args below meth c H locs 0 0 QQ (F0 m 65 ls []) := by
    intro H locs ls tl_65 pe_65 en_65 hf hP hD hS hl
    unfold FX1_hang_J65 at hf
    refine lv_aload_n hx hb dX1_hang_65 rfl (lv_at hl 0 rfl) ?_
    refine va_get (a := (ad 0)) (ci := 1) (v := .ref (ad 2)) (C := RX1) (T := TX1) (N := 6) hx hb hts hin_X1 hown hK hP 0 rfl rfl 2 (by decide) hw_0 (fun _ h => h) rfl dX1_hang_66 ?_
    refine lv_iload_n hx hb dX1_hang_69 rfl (lv_at hl 1 rfl) ?_
    refine lv_iconst (v := 0) hx hb dX1_hang_70 (by decide) ?_
    replace hf := gi_e hf
    obtain ⟨i_71, hf⟩ := hf
    refine va_iast (a := (ad 2)) hx hb hK hP hD hS 2 0 rfl rfl i_71 dX1_hang_71 (fun H locs hP hD hS => ?_)
    have hP : va_P D vwCl ((wX1_0_1_2_3_4 cy ad n osz nx (upd tl_65 (Int32.toNatClampNeg x1) 0) pe_65 en_65)) H := hP
    have hD : va_D A ((wX1_0_1_2_3_4 cy ad n osz nx (upd tl_65 (Int32.toNatClampNeg x1) 0) pe_65 en_65)) := hD
    refine lv_aload_n hx hb dX1_hang_72 rfl (lv_at hl 0 rfl) ?_
    refine va_get (a := (ad 0)) (ci := 1) (v := .ref (ad 3)) (C := RX1) (T := TX1) (N := 6) hx hb hts hin_X1 hown hK hP 0 rfl rfl 3 (by decide) hw_1 (fun _ h => h) rfl dX1_hang_73 ?_
    refine lv_iload_n hx hb dX1_hang_76 rfl (lv_at hl 1 rfl) ?_
    refine lv_iconst (v := 0) hx hb dX1_hang_77 (by decide) ?_
    replace hf := gi_e hf
    obtain ⟨i_78, hf⟩ := hf
    refine va_iast (a := (ad 3)) hx hb hK hP hD hS 3 0 rfl rfl i_78 dX1_hang_78 (fun H locs hP hD hS => ?_)
    have hP : va_P D vwCl ((wX1_0_1_2_3_4 cy ad n osz nx (upd tl_65 (Int32.toNatClampNeg x1) 0) (upd pe_65 (Int32.toNatClampNeg x1) 0) en_65)) H := hP
    have hD : va_D A ((wX1_0_1_2_3_4 cy ad n osz nx (upd tl_65 (Int32.toNatClampNeg x1) 0) (upd pe_65 (Int32.toNatClampNeg x1) 0) en_65)) := hD
    refine lv_aload_n hx hb dX1_hang_79 rfl (lv_at hl 0 rfl) ?_
    refine va_get (a := (ad 0)) (ci := 1) (v := .ref (ad 4)) (C := RX1) (T := TX1) (N := 6) hx hb hts hin_X1 hown hK hP 0 rfl rfl 4 (by decide) hw_2 (fun _ h => h) rfl dX1_hang_80 ?_
    refine lv_iload_n hx hb dX1_hang_83 rfl (lv_at hl 1 rfl) ?_
    refine lv_iload_n hx hb dX1_hang_84 rfl (lv_at hl 1 rfl) ?_
    replace hf := gi_e hf
    obtain ⟨i_85, hf⟩ := hf
    refine va_iast (a := (ad 4)) hx hb hK hP hD hS 4 0 rfl rfl i_85 dX1_hang_85 (fun H locs hP hD hS => ?_)
    have hP : va_P D vwCl ((wX1_0_1_2_3_4 cy ad n osz nx (upd tl_65 (Int32.toNatClampNeg x1) 0) (upd pe_65 (Int32.toNatClampNeg x1) 0) (upd en_65 (Int32.toNatClampNeg x1) x1))) H := hP
    have hD : va_D A ((wX1_0_1_2_3_4 cy ad n osz nx (upd tl_65 (Int32.toNatClampNeg x1) 0) (upd pe_65 (Int32.toNatClampNeg x1) 0) (upd en_65 (Int32.toNatClampNeg x1) x1))) := hD
    obtain rfl := Option.some.inj hf
    rw [← hQe]
    exact W.vret hx hb hr (fun t ht hW => ⟨rfl, by rw [ht]; exact hP, hS.F ht⟩) hS.2.2 dX1_hang_86
  unfold FX1_hang at hf
  refine lv_aload_n hx hb dX1_hang_0 rfl (lv_at hl 0 rfl) ?_
  refine va_get (a := (ad 0)) (ci := 1) (v := .ref (ad 1)) (C := RX1) (T := TX1) (N := 6) hx hb hts hin_X1 hown hK hP 0 rfl rfl 1 (by decide) hw_3 (fun _ h => h) rfl dX1_hang_1 ?_
  refine lv_iload_n hx hb dX1_hang_4 rfl (lv_at hl 1 rfl) ?_
  replace hf := gi_e hf
  obtain ⟨i_5, hf⟩ := hf
  refine va_iald (a := (ad 1)) hx hb hK hP 1 0 rfl rfl i_5 dX1_hang_5 ?_
  refine lv_topi (fun v_6 e_6 => ?_)
  replace hf := bd_at e_6 hf
  clear e_6
  refine lv_istore_n (lv' := [(2, .int v_6), (0, .ref (ad 0)), (1, .int x1)]) hx hb dX1_hang_6 rfl hl (by decide) rfl (fun ls hl => ?_)
  refine lv_aload_n hx hb dX1_hang_7 rfl (lv_at hl 1 rfl) ?_
  refine lv_iload_n hx hb dX1_hang_8 rfl (lv_at hl 0 rfl) ?_
  replace hf := ob_e hf
  obtain ⟨u_9, hu_9, hf⟩ := hf
  refine ivR (As := [.int v_6]) (rest := []) (st1 := [.int (bi u_9)]) ⟨hx, hb, hml, hown, hts⟩ hK hN (KX1_isInside l D cy ad osz v_6 H.size hu_9) (cwV 1 hts gX1_hang_X1_isInside rfl rfl rfl (by decide +kernel) ⟨Nat.le_of_ble_eq_true rfl, Nat.le_of_ble_eq_true rfl⟩) (va_recv hK hP (ci := 1) (q0 := 0) rfl rfl) (P_pl (wc := (wX1_0 cy ad osz)) (is := [0]) hP rfl) rfl hl.1 rfl (Nat.le_of_ble_eq_true rfl) rfl dX1_hang_9 ⟨Nat.zero_le _, Nat.zero_le _⟩ ?_
  refine lv_if_eq (tgt := 65) hx hb dX1_hang_12 (by decide) (fun c_12 => ?_) (fun c_12 => ?_)
  · replace hf := it_p c_12 hf
    exact J65 H locs ls tl pe en hf hP hD hS (lv_sub hl [1, 2] rfl)
  · replace hf := it_n c_12 hf
    refine lv_aload_n hx hb dX1_hang_15 rfl (lv_at hl 1 rfl) ?_
    refine va_get (a := (ad 0)) (ci := 1) (v := .ref (ad 3)) (C := RX1) (T := TX1) (N := 6) hx hb hts hin_X1 hown hK hP 0 rfl rfl 3 (by decide) hw_1 (fun _ h => h) rfl dX1_hang_16 ?_
    refine lv_iload_n hx hb dX1_hang_19 rfl (lv_at hl 0 rfl) ?_
    replace hf := gi_e hf
    obtain ⟨i_20, hf⟩ := hf
    refine va_iald (a := (ad 3)) hx hb hK hP 3 0 rfl rfl i_20 dX1_hang_20 ?_
    refine lv_if_eq (tgt := 65) hx hb dX1_hang_21 (by decide) (fun c_21 => ?_) (fun c_21 => ?_)
    · replace hf := it_p c_21 hf
      exact J65 H locs ls tl pe en hf hP hD hS (lv_sub hl [1, 2] rfl)
    · replace hf := it_n c_21 hf
      refine lv_aload_n hx hb dX1_hang_24 rfl (lv_at hl 1 rfl) ?_
      refine va_get (a := (ad 0)) (ci := 1) (v := .ref (ad 2)) (C := RX1) (T := TX1) (N := 6) hx hb hts hin_X1 hown hK hP 0 rfl rfl 2 (by decide) hw_0 (fun _ h => h) rfl dX1_hang_25 ?_
      refine lv_iload_n hx hb dX1_hang_28 rfl (lv_at hl 2 rfl) ?_
      refine lv_aload_n hx hb dX1_hang_29 rfl (lv_at hl 1 rfl) ?_
      refine va_get (a := (ad 0)) (ci := 1) (v := .ref (ad 2)) (C := RX1) (T := TX1) (N := 6) hx hb hts hin_X1 hown hK hP 0 rfl rfl 2 (by decide) hw_0 (fun _ h => h) rfl dX1_hang_30 ?_
      refine lv_iload_n hx hb dX1_hang_33 rfl (lv_at hl 0 rfl) ?_
      replace hf := gi_e hf
      obtain ⟨i_34, hf⟩ := hf
      refine va_iald (a := (ad 2)) hx hb hK hP 2 0 rfl rfl i_34 dX1_hang_34 ?_
      refine lv_iconst (v := 1) hx hb dX1_hang_35 (by decide) ?_
      refine lv_iadd hx hb dX1_hang_36 ?_
      replace hf := gi_e hf
      obtain ⟨i_37, hf⟩ := hf
      refine va_iast (a := (ad 2)) hx hb hK hP hD hS 2 0 rfl rfl i_37 dX1_hang_37 (fun H locs hP hD hS => ?_)
      have hP : va_P D vwCl ((wX1_0_1_2_3_4 cy ad n osz nx (upd tl (Int32.toNatClampNeg x1) ((tl (Int32.toNatClampNeg v_6)) + 1)) pe en)) H := hP
      have hD : va_D A ((wX1_0_1_2_3_4 cy ad n osz nx (upd tl (Int32.toNatClampNeg x1) ((tl (Int32.toNatClampNeg v_6)) + 1)) pe en)) := hD
      refine lv_aload_n hx hb dX1_hang_38 rfl (lv_at hl 1 rfl) ?_
      refine va_get (a := (ad 0)) (ci := 1) (v := .ref (ad 3)) (C := RX1) (T := TX1) (N := 6) hx hb hts hin_X1 hown hK hP 0 rfl rfl 3 (by decide) hw_1 (fun _ h => h) rfl dX1_hang_39 ?_
      refine lv_iload_n hx hb dX1_hang_42 rfl (lv_at hl 2 rfl) ?_
      refine lv_aload_n hx hb dX1_hang_43 rfl (lv_at hl 1 rfl) ?_
      refine va_get (a := (ad 0)) (ci := 1) (v := .ref (ad 3)) (C := RX1) (T := TX1) (N := 6) hx hb hts hin_X1 hown hK hP 0 rfl rfl 3 (by decide) hw_1 (fun _ h => h) rfl dX1_hang_44 ?_
      refine lv_iload_n hx hb dX1_hang_47 rfl (lv_at hl 0 rfl) ?_
      replace hf := gi_e hf
      obtain ⟨i_48, hf⟩ := hf
      refine va_iald (a := (ad 3)) hx hb hK hP 3 0 rfl rfl i_48 dX1_hang_48 ?_
      replace hf := gi_e hf
      obtain ⟨i_49, hf⟩ := hf
      refine va_iast (a := (ad 3)) hx hb hK hP hD hS 3 0 rfl rfl i_49 dX1_hang_49 (fun H locs hP hD hS => ?_)
      have hP : va_P D vwCl ((wX1_0_1_2_3_4 cy ad n osz nx (upd tl (Int32.toNatClampNeg x1) ((tl (Int32.toNatClampNeg v_6)) + 1)) (upd pe (Int32.toNatClampNeg x1) (pe (Int32.toNatClampNeg v_6))) en)) H := hP
      have hD : va_D A ((wX1_0_1_2_3_4 cy ad n osz nx (upd tl (Int32.toNatClampNeg x1) ((tl (Int32.toNatClampNeg v_6)) + 1)) (upd pe (Int32.toNatClampNeg x1) (pe (Int32.toNatClampNeg v_6))) en)) := hD
      refine lv_aload_n hx hb dX1_hang_50 rfl (lv_at hl 1 rfl) ?_
      refine va_get (a := (ad 0)) (ci := 1) (v := .ref (ad 4)) (C := RX1) (T := TX1) (N := 6) hx hb hts hin_X1 hown hK hP 0 rfl rfl 4 (by decide) hw_2 (fun _ h => h) rfl dX1_hang_51 ?_
      refine lv_iload_n hx hb dX1_hang_54 rfl (lv_at hl 2 rfl) ?_
      refine lv_aload_n hx hb dX1_hang_55 rfl (lv_at hl 1 rfl) ?_
      refine va_get (a := (ad 0)) (ci := 1) (v := .ref (ad 4)) (C := RX1) (T := TX1) (N := 6) hx hb hts hin_X1 hown hK hP 0 rfl rfl 4 (by decide) hw_2 (fun _ h => h) rfl dX1_hang_56 ?_
      refine lv_iload_n hx hb dX1_hang_59 rfl (lv_at hl 0 rfl) ?_
      replace hf := gi_e hf
      obtain ⟨i_60, hf⟩ := hf
      refine va_iald (a := (ad 4)) hx hb hK hP 4 0 rfl rfl i_60 dX1_hang_60 ?_
      replace hf := gi_e hf
      obtain ⟨i_61, hf⟩ := hf
      refine va_iast (a := (ad 4)) hx hb hK hP hD hS 4 0 rfl rfl i_61 dX1_hang_61 (fun H locs hP hD hS => ?_)
      have hP : va_P D vwCl ((wX1_0_1_2_3_4 cy ad n osz nx (upd tl (Int32.toNatClampNeg x1) ((tl (Int32.toNatClampNeg v_6)) + 1)) (upd pe (Int32.toNatClampNeg x1) (pe (Int32.toNatClampNeg v_6))) (upd en (Int32.toNatClampNeg x1) (en (Int32.toNatClampNeg v_6))))) H := hP
      have hD : va_D A ((wX1_0_1_2_3_4 cy ad n osz nx (upd tl (Int32.toNatClampNeg x1) ((tl (Int32.toNatClampNeg v_6)) + 1)) (upd pe (Int32.toNatClampNeg x1) (pe (Int32.toNatClampNeg v_6))) (upd en (Int32.toNatClampNeg x1) (en (Int32.toNatClampNeg v_6))))) := hD
      refine lv_goto (tgt := 86) hx hb dX1_hang_62 (by decide) ?_
      obtain rfl := Option.some.inj hf
      rw [← hQe]
      exact W.vret hx hb hr (fun t ht hW => ⟨rfl, by rw [ht]; exact hP, hS.F ht⟩) hS.2.2 dX1_hang_86
def FX1_walkFrom_L95   (n : Nat) (osz : Int32) (nx : Nat → Int32) (pa_95 : Nat → Int32) : Nat → Int32 → (Nat → Int32) → (Nat → Int32) → (Nat → Int32) → Option ((Nat → Int32) × (Nat → Int32) × (Nat → Int32) × (Nat → Int32))
  | 0, _, _, _, _ => none
  | fuel + 1, x5_95, tl_95, pe_95, en_95 => (if x5_95 < 0 then (some (tl_95, pe_95, en_95, pa_95)) else (gi x5_95 n (ob (FX1_hang n osz nx tl_95 pe_95 en_95 (pa_95 (Int32.toNatClampNeg x5_95))) (fun u_108 => bd (x5_95 + (-1)) (fun v_111 => (FX1_walkFrom_L95 n osz nx pa_95 fuel) v_111 u_108.1 u_108.2.1 u_108.2.2)))))
def FX1_walkFrom_J87   (s0_87 : Int32) (n : Nat) (osz : Int32) (nx : Nat → Int32) (tl_87 : Nat → Int32) (pe_87 : Nat → Int32) (en_87 : Nat → Int32) (pa_87 : Nat → Int32) : Option ((Nat → Int32) × (Nat → Int32) × (Nat → Int32) × (Nat → Int32)) := (bd (s0_87 - 1) (fun v_93 => FX1_walkFrom_L95 n osz nx pa_87 FU v_93 tl_87 pe_87 en_87))
def FX1_walkFrom_J86   (x2_86 : Int32) (n : Nat) (osz : Int32) (nx : Nat → Int32) (tl_86 : Nat → Int32) (pe_86 : Nat → Int32) (en_86 : Nat → Int32) (pa_86 : Nat → Int32) : Option ((Nat → Int32) × (Nat → Int32) × (Nat → Int32) × (Nat → Int32)) := (FX1_walkFrom_J87 x2_86 n osz nx tl_86 pe_86 en_86 pa_86)
def FX1_walkFrom_J58   (x2_58 : Int32) (x3_58 : Int32) (n : Nat) (osz : Int32) (nx : Nat → Int32) (tl_58 : Nat → Int32) (pe_58 : Nat → Int32) (en_58 : Nat → Int32) (pa_58 : Nat → Int32) : Option ((Nat → Int32) × (Nat → Int32) × (Nat → Int32) × (Nat → Int32)) := (ob (FX1_isInside osz x3_58) (fun u_60 => if (bi u_60) = 0 then FX1_walkFrom_J86 x2_58 n osz nx tl_58 pe_58 en_58 pa_58 else (gi x3_58 n (if (pe_58 (Int32.toNatClampNeg x3_58)) = (-2) then (ob (FX1_closeRing n tl_58 pe_58 en_58 pa_58 x3_58 x2_58) (fun u_80 => FX1_walkFrom_J87 u_80.1 n osz nx u_80.2.1 u_80.2.2.1 u_80.2.2.2 pa_58)) else FX1_walkFrom_J86 x2_58 n osz nx tl_58 pe_58 en_58 pa_58))))
def FX1_walkFrom_L4   (n : Nat) (osz : Int32) (nx : Nat → Int32) (tl_4 : Nat → Int32) (en_4 : Nat → Int32) : Nat → Int32 → Int32 → (Nat → Int32) → (Nat → Int32) → Option ((Nat → Int32) × (Nat → Int32) × (Nat → Int32) × (Nat → Int32))
  | 0, _, _, _, _ => none
  | fuel + 1, x2_4, x3_4, pe_4, pa_4 => (if osz ≤ x2_4 then FX1_walkFrom_J58 x2_4 x3_4 n osz nx tl_4 pe_4 en_4 pa_4 else (ob (FX1_isInside osz x3_4) (fun u_14 => if (bi u_14) = 0 then FX1_walkFrom_J58 x2_4 x3_4 n osz nx tl_4 pe_4 en_4 pa_4 else (gi x3_4 n (if (pe_4 (Int32.toNatClampNeg x3_4)) = (-1) then (gi x3_4 n (gi x2_4 n (bd (x2_4 + 1) (fun v_45 => gi x3_4 n (bd (nx (Int32.toNatClampNeg x3_4)) (fun v_54 => (FX1_walkFrom_L4 n osz nx tl_4 en_4 fuel) v_45 v_54 (upd pe_4 (Int32.toNatClampNeg x3_4) (-2)) (upd pa_4 (Int32.toNatClampNeg x2_4) x3_4))))))) else FX1_walkFrom_J58 x2_4 x3_4 n osz nx tl_4 pe_4 en_4 pa_4)))))
def FX1_walkFrom  (n : Nat) (osz : Int32) (nx : Nat → Int32) (tl : Nat → Int32) (pe : Nat → Int32) (en : Nat → Int32) (pa : Nat → Int32) (x1 : Int32) : Option ((Nat → Int32) × (Nat → Int32) × (Nat → Int32) × (Nat → Int32)) := (FX1_walkFrom_L4 n osz nx tl en FU 0 x1 pe pa)
abbrev RMX1_walkFrom : Room := { frames := 2, cells := 0, slots := 0, locals := 48 }
set_option maxHeartbeats 4000000 in
set_option maxRecDepth 100000 in
theorem KX1_walkFrom (l : Launch) (D : va_G) (cy : Nat → ClassId) (ad : Nat → Nat) (n : Nat) (osz : Int32) (nx : Nat → Int32) (tl : Nat → Int32) (pe : Nat → Int32) (en : Nat → Int32) (pa : Nat → Int32) (x1 : Int32) (sz : Nat) {out : (Nat → Int32) × (Nat → Int32) × (Nat → Int32) × (Nat → Int32)} (hf : FX1_walkFrom n osz nx tl pe en pa x1 = some out) : Met l yX1_walkFrom wsX1_walkFrom RMX1_walkFrom (PW D cy [.ref (ad 0), .int x1] sz ((wX1_0_1_2_3_4_5 cy ad n osz nx tl pe en pa)) []) (QW D none ((wX1_0_1_2_3_4_5 cy ad n osz nx out.1 out.2.1 out.2.2.1 out.2.2.2)) (va_A ((wX1_0_1_2_3_4_5 cy ad n osz nx tl pe en pa)) sz)) 0 0 (va_A ((wX1_0_1_2_3_4_5 cy ad n osz nx tl pe en pa)) sz) := by
  refine Met.ofW (cc := cX1_walkFrom) (maxL := 6) (ret := none) (by decide +kernel) rfl ?_
  intro p e s m args below meth c s₁ B hml hv
  obtain ⟨hav, hsz, hP, hR0, hK, hN, hD0, hsep⟩ := hv
  have hx := B.exec
  have hb := B.bytes
  have hr := B.returns
  have hts := atoms_spec (ws := wsX1_walkFrom) B.pre
  have hown : s.vm.findClass RX1 = some m.cls := findClass_of_methodNamed B.named
  have hlocks := B.notSynchronized
  subst hsz
  have hin_X1 : ∀ w ∈ u_ws RX1 TX1 6, w ∈ wsX1_walkFrom := by decide +kernel
  have hw_0 := hts (.fieldLink RX1 26 "ReturnPoints$Orbits" "path" "[I") (by decide +kernel)
  have hw_1 := hts (.fieldLink RX1 20 "ReturnPoints$Orbits" "period" "[I") (by decide +kernel)
  have hw_2 := hts (.fieldLink RX1 7 "ReturnPoints$Orbits" "size" "I") (by decide +kernel)
  have hw_3 := hts (.fieldLink RX1 13 "ReturnPoints$Orbits" "next" "[I") (by decide +kernel)
  have hD := hD0.self (sz := s.heap.size)
  have hnA := roA hsep hR0
  generalize hAe : va_A ((wX1_0_1_2_3_4_5 cy ad n osz nx tl pe en pa)) s.heap.size = A at hD hnA ⊢
  have hA : ∀ q : Nat, s.heap.size ≤ q → A q := fun q h => by rw [← hAe]; exact Or.inr h
  have hS : va_S A s.heap s.heap [] := va_S.rf
  obtain ⟨ls, hfr, hl⟩ := ent_ok (m := m) (n := 6) (l' := [(0, .ref (ad 0)), (1, .int x1)]) [.ref (ad 0), .int x1] hav (Nat.le_of_ble_eq_true rfl) rfl
  rw [hfr]
  generalize hQe : MQ below (QW D none ((wX1_0_1_2_3_4_5 cy ad n osz nx out.1 out.2.1 out.2.2.1 out.2.2.2)) A) args s 0 0 A = QQ
  change W p l e RMX1_walkFrom s m args below meth c s.heap [] 0 0 QQ (F0 m 0 ls [])
  have hP : va_P D vwCl ((wX1_0_1_2_3_4_5 cy ad n osz nx tl pe en pa)) s.heap := hP
  have hD : va_D A ((wX1_0_1_2_3_4_5 cy ad n osz nx tl pe en pa)) := hD
  suffices h00 : ∀ (H : Heap) (locs : List Loc), va_P D vwCl ((wX1_0_1_2_3_4_5 cy ad n osz nx tl pe en pa)) H → va_S A s.heap H locs → W p l e RMX1_walkFrom s m args below meth c H locs 0 0 QQ (F0 m 0 ls []) from h00 _ _ hP hS
  clear hP hS
  intro H locs hP hS
  have L95 : ∀ (pa_95 : Nat → Int32) (n95 : Nat) (H : Heap) (locs : List Loc) (ls : Array Slot) (x5_95 : Int32) (tl_95 : Nat → Int32) (pe_95 : Nat → Int32) (en_95 : Nat → Int32), FX1_walkFrom_L95 n osz nx pa_95 n95 x5_95 tl_95 pe_95 en_95 = some out → va_P D vwCl ((wX1_0_1_2_3_4_5 cy ad n osz nx tl_95 pe_95 en_95 pa_95)) H → va_D A ((wX1_0_1_2_3_4_5 cy ad n osz nx tl_95 pe_95 en_95 pa_95)) → va_S A s.heap H locs → lv_has ls 6 [(0, .ref (ad 0)), (5, .int x5_95)] → W p l e RMX1_walkFrom s m args below meth c H locs 0 0 QQ (F0 m 95 ls []) := by
    intro pa_95 n95
    induction n95 with
    | zero => intro H locs ls x5_95 tl_95 pe_95 en_95 hf; simp [FX1_walkFrom_L95] at hf
    | succ n95 ih95 =>
      intro H locs ls x5_95 tl_95 pe_95 en_95 hf hP hD hS hl
      rw [FX1_walkFrom_L95] at hf
      refine lv_iload hx hb dX1_walkFrom_95 (lv_at hl 1 rfl) ?_
      refine lv_if_lt (tgt := 117) hx hb dX1_walkFrom_97 (by decide) (fun c_97 => ?_) (fun c_97 => ?_)
      · replace hf := it_p c_97 hf
        obtain rfl := Option.some.inj hf
        rw [← hQe]
        exact W.vret hx hb hr (fun t ht hW => ⟨rfl, by rw [ht]; exact hP, hS.F ht⟩) hS.2.2 dX1_walkFrom_117
      · replace hf := it_n c_97 hf
        refine lv_aload_n hx hb dX1_walkFrom_100 rfl (lv_at hl 0 rfl) ?_
        refine lv_aload_n hx hb dX1_walkFrom_101 rfl (lv_at hl 0 rfl) ?_
        refine va_get (a := (ad 0)) (ci := 1) (v := .ref (ad 5)) (C := RX1) (T := TX1) (N := 6) hx hb hts hin_X1 hown hK hP 0 rfl rfl 5 (by decide) hw_0 (fun _ h => h) rfl dX1_walkFrom_102 ?_
        refine lv_iload hx hb dX1_walkFrom_105 (lv_at hl 1 rfl) ?_
        replace hf := gi_e hf
        obtain ⟨i_107, hf⟩ := hf
        refine va_iald (a := (ad 5)) hx hb hK hP 5 0 rfl rfl i_107 dX1_walkFrom_107 ?_
        replace hf := ob_e hf
        obtain ⟨u_108, hu_108, hf⟩ := hf
        refine ivW (As := [.int (pa_95 (Int32.toNatClampNeg x5_95))]) (rest := []) (st1 := []) (is := [0, 1, 2, 3, 4]) (w1 := (wX1_0_1_2_3_4 cy ad n osz nx u_108.1 u_108.2.1 u_108.2.2)) ⟨hx, hb, hml, hown, hts⟩ hK hN (KX1_hang l D cy ad n osz nx tl_95 pe_95 en_95 (pa_95 (Int32.toNatClampNeg x5_95)) H.size hu_108) (cwV 1 hts gX1_walkFrom_X1_hang rfl rfl rfl (by decide +kernel) ⟨Nat.le_of_ble_eq_true rfl, Nat.le_of_ble_eq_true rfl⟩) (va_recv hK hP (ci := 1) (q0 := 0) rfl rfl) hP hD hS hA P_nil (sepW_nil _) (by decide) rfl rfl rfl hl.1 rfl (Nat.le_of_ble_eq_true rfl) rfl dX1_walkFrom_108 ⟨Nat.zero_le _, Nat.zero_le _⟩ (fun H locs hP hD hS => ?_)
        have hP : va_P D vwCl ((wX1_0_1_2_3_4_5 cy ad n osz nx u_108.1 u_108.2.1 u_108.2.2 pa_95)) H := hP
        have hD : va_D A ((wX1_0_1_2_3_4_5 cy ad n osz nx u_108.1 u_108.2.1 u_108.2.2 pa_95)) := hD
        obtain ⟨v_111, e_111⟩ : ∃ y : Int32, y = x5_95 + (-1) := ⟨_, rfl⟩
        replace hf := bd_at e_111 hf
        refine lv_iinc (v := v_111) (lv' := [(5, .int v_111), (0, .ref (ad 0))]) hx hb dX1_walkFrom_111 hl (k := 1) rfl (by rw [e_111]; rfl) (by decide) rfl (fun ls hl => ?_)
        clear e_111
        refine lv_goto (tgt := 95) hx hb dX1_walkFrom_114 (by decide) ?_
        exact ih95 H locs ls v_111 u_108.1 u_108.2.1 u_108.2.2 hf hP hD hS (lv_sub hl [1, 0] rfl)
  have J87 : ∀ (H : Heap) (locs : List Loc) (ls : Array Slot) (s0_87 : Int32) (tl_87 : Nat → Int32) (pe_87 : Nat → Int32) (en_87 : Nat → Int32) (pa_87 : Nat → Int32), FX1_walkFrom_J87 s0_87 n osz nx tl_87 pe_87 en_87 pa_87 = some out → va_P D vwCl ((wX1_0_1_2_3_4_5 cy ad n osz nx tl_87 pe_87 en_87 pa_87)) H → va_D A ((wX1_0_1_2_3_4_5 cy ad n osz nx tl_87 pe_87 en_87 pa_87)) → va_S A s.heap H locs → lv_has ls 6 [(0, .ref (ad 0))] → W p l e RMX1_walkFrom s m args below meth c H locs 0 0 QQ (F0 m 87 ls [.int s0_87]) := by
    intro H locs ls s0_87 tl_87 pe_87 en_87 pa_87 hf hP hD hS hl
    unfold FX1_walkFrom_J87 at hf
    refine lv_istore (lv' := [(4, .int s0_87), (0, .ref (ad 0))]) hx hb dX1_walkFrom_87 hl (by decide) rfl (fun ls hl => ?_)
    refine lv_iload hx hb dX1_walkFrom_89 (lv_at hl 0 rfl) ?_
    refine lv_iconst (v := 1) hx hb dX1_walkFrom_91 (by decide) ?_
    refine lv_isub hx hb dX1_walkFrom_92 ?_
    refine lv_topi (fun v_93 e_93 => ?_)
    replace hf := bd_at e_93 hf
    clear e_93
    refine lv_istore (lv' := [(5, .int v_93), (4, .int s0_87), (0, .ref (ad 0))]) hx hb dX1_walkFrom_93 hl (by decide) rfl (fun ls hl => ?_)
    exact L95 pa_87 FU H locs ls v_93 tl_87 pe_87 en_87 hf hP hD hS (lv_sub hl [2, 0] rfl)
  have J86 : ∀ (H : Heap) (locs : List Loc) (ls : Array Slot) (x2_86 : Int32) (tl_86 : Nat → Int32) (pe_86 : Nat → Int32) (en_86 : Nat → Int32) (pa_86 : Nat → Int32), FX1_walkFrom_J86 x2_86 n osz nx tl_86 pe_86 en_86 pa_86 = some out → va_P D vwCl ((wX1_0_1_2_3_4_5 cy ad n osz nx tl_86 pe_86 en_86 pa_86)) H → va_D A ((wX1_0_1_2_3_4_5 cy ad n osz nx tl_86 pe_86 en_86 pa_86)) → va_S A s.heap H locs → lv_has ls 6 [(0, .ref (ad 0)), (2, .int x2_86)] → W p l e RMX1_walkFrom s m args below meth c H locs 0 0 QQ (F0 m 86 ls []) := by
    intro H locs ls x2_86 tl_86 pe_86 en_86 pa_86 hf hP hD hS hl
    unfold FX1_walkFrom_J86 at hf
    refine lv_iload_n hx hb dX1_walkFrom_86 rfl (lv_at hl 1 rfl) ?_
    exact J87 H locs ls x2_86 tl_86 pe_86 en_86 pa_86 hf hP hD hS (lv_sub hl [0] rfl)
  have J58 : ∀ (H : Heap) (locs : List Loc) (ls : Array Slot) (x2_58 : Int32) (x3_58 : Int32) (tl_58 : Nat → Int32) (pe_58 : Nat → Int32) (en_58 : Nat → Int32) (pa_58 : Nat → Int32), FX1_walkFrom_J58 x2_58 x3_58 n osz nx tl_58 pe_58 en_58 pa_58 = some out → va_P D vwCl ((wX1_0_1_2_3_4_5 cy ad n osz nx tl_58 pe_58 en_58 pa_58)) H → va_D A ((wX1_0_1_2_3_4_5 cy ad n osz nx tl_58 pe_58 en_58 pa_58)) → va_S A s.heap H locs → lv_has ls 6 [(0, .ref (ad 0)), (2, .int x2_58), (3, .int x3_58)] → W p l e RMX1_walkFrom s m args below meth c H locs 0 0 QQ (F0 m 58 ls []) := by
    intro H locs ls x2_58 x3_58 tl_58 pe_58 en_58 pa_58 hf hP hD hS hl
    unfold FX1_walkFrom_J58 at hf
    refine lv_aload_n hx hb dX1_walkFrom_58 rfl (lv_at hl 0 rfl) ?_
    refine lv_iload_n hx hb dX1_walkFrom_59 rfl (lv_at hl 2 rfl) ?_
    replace hf := ob_e hf
    obtain ⟨u_60, hu_60, hf⟩ := hf
    refine ivR (As := [.int x3_58]) (rest := []) (st1 := [.int (bi u_60)]) ⟨hx, hb, hml, hown, hts⟩ hK hN (KX1_isInside l D cy ad osz x3_58 H.size hu_60) (cwV 1 hts gX1_walkFrom_X1_isInside rfl rfl rfl (by decide +kernel) ⟨Nat.le_of_ble_eq_true rfl, Nat.le_of_ble_eq_true rfl⟩) (va_recv hK hP (ci := 1) (q0 := 0) rfl rfl) (P_pl (wc := (wX1_0 cy ad osz)) (is := [0]) hP rfl) rfl hl.1 rfl (Nat.le_of_ble_eq_true rfl) rfl dX1_walkFrom_60 ⟨Nat.zero_le _, Nat.zero_le _⟩ ?_
    refine lv_if_eq (tgt := 86) hx hb dX1_walkFrom_63 (by decide) (fun c_63 => ?_) (fun c_63 => ?_)
    · replace hf := it_p c_63 hf
      exact J86 H locs ls x2_58 tl_58 pe_58 en_58 pa_58 hf hP hD hS (lv_sub hl [0, 1] rfl)
    · replace hf := it_n c_63 hf
      refine lv_aload_n hx hb dX1_walkFrom_66 rfl (lv_at hl 0 rfl) ?_
      refine va_get (a := (ad 0)) (ci := 1) (v := .ref (ad 3)) (C := RX1) (T := TX1) (N := 6) hx hb hts hin_X1 hown hK hP 0 rfl rfl 3 (by decide) hw_1 (fun _ h => h) rfl dX1_walkFrom_67 ?_
      refine lv_iload_n hx hb dX1_walkFrom_70 rfl (lv_at hl 2 rfl) ?_
      replace hf := gi_e hf
      obtain ⟨i_71, hf⟩ := hf
      refine va_iald (a := (ad 3)) hx hb hK hP 3 0 rfl rfl i_71 dX1_walkFrom_71 ?_
      refine lv_bipush (v := (-2)) hx hb dX1_walkFrom_72 (by decide) ?_
      refine lv_icmp_ne (tgt := 86) hx hb dX1_walkFrom_74 (by decide) (fun c_74 => ?_) (fun c_74 => ?_)
      · replace hf := it_n c_74 hf
        exact J86 H locs ls x2_58 tl_58 pe_58 en_58 pa_58 hf hP hD hS (lv_sub hl [0, 1] rfl)
      · replace hf := it_p c_74 hf
        refine lv_aload_n hx hb dX1_walkFrom_77 rfl (lv_at hl 0 rfl) ?_
        refine lv_iload_n hx hb dX1_walkFrom_78 rfl (lv_at hl 2 rfl) ?_
        refine lv_iload_n hx hb dX1_walkFrom_79 rfl (lv_at hl 1 rfl) ?_
        replace hf := ob_e hf
        obtain ⟨u_80, hu_80, hf⟩ := hf
        refine ivW (As := [.int x3_58, .int x2_58]) (rest := []) (st1 := [.int u_80.1]) (is := [0, 2, 3, 4, 5]) (w1 := (wX1_0_2_3_4_5 cy ad n osz u_80.2.1 u_80.2.2.1 u_80.2.2.2 pa_58)) ⟨hx, hb, hml, hown, hts⟩ hK hN (KX1_closeRing l D cy ad n osz tl_58 pe_58 en_58 pa_58 x3_58 x2_58 H.size hu_80) (cwV 2 hts gX1_walkFrom_X1_closeRing rfl rfl rfl (by decide +kernel) ⟨Nat.le_of_ble_eq_true rfl, Nat.le_of_ble_eq_true rfl⟩) (va_recv hK hP (ci := 1) (q0 := 0) rfl rfl) hP hD hS hA P_nil (sepW_nil _) (by decide) rfl rfl rfl hl.1 rfl (Nat.le_of_ble_eq_true rfl) rfl dX1_walkFrom_80 ⟨Nat.zero_le _, Nat.zero_le _⟩ (fun H locs hP hD hS => ?_)
        have hP : va_P D vwCl ((wX1_0_1_2_3_4_5 cy ad n osz nx u_80.2.1 u_80.2.2.1 u_80.2.2.2 pa_58)) H := hP
        have hD : va_D A ((wX1_0_1_2_3_4_5 cy ad n osz nx u_80.2.1 u_80.2.2.1 u_80.2.2.2 pa_58)) := hD
        refine lv_goto (tgt := 87) hx hb dX1_walkFrom_83 (by decide) ?_
        exact J87 H locs ls u_80.1 u_80.2.1 u_80.2.2.1 u_80.2.2.2 pa_58 hf hP hD hS (lv_sub hl [0] rfl)
  have L4 : ∀ (tl_4 : Nat → Int32) (en_4 : Nat → Int32) (n4 : Nat) (H : Heap) (locs : List Loc) (ls : Array Slot) (x2_4 : Int32) (x3_4 : Int32) (pe_4 : Nat → Int32) (pa_4 : Nat → Int32), FX1_walkFrom_L4 n osz nx tl_4 en_4 n4 x2_4 x3_4 pe_4 pa_4 = some out → va_P D vwCl ((wX1_0_1_2_3_4_5 cy ad n osz nx tl_4 pe_4 en_4 pa_4)) H → va_D A ((wX1_0_1_2_3_4_5 cy ad n osz nx tl_4 pe_4 en_4 pa_4)) → va_S A s.heap H locs → lv_has ls 6 [(0, .ref (ad 0)), (2, .int x2_4), (3, .int x3_4)] → W p l e RMX1_walkFrom s m args below meth c H locs 0 0 QQ (F0 m 4 ls []) := by
    intro tl_4 en_4 n4
    induction n4 with
    | zero => intro H locs ls x2_4 x3_4 pe_4 pa_4 hf; simp [FX1_walkFrom_L4] at hf
    | succ n4 ih4 =>
      intro H locs ls x2_4 x3_4 pe_4 pa_4 hf hP hD hS hl
      rw [FX1_walkFrom_L4] at hf
      refine lv_iload_n hx hb dX1_walkFrom_4 rfl (lv_at hl 1 rfl) ?_
      refine lv_aload_n hx hb dX1_walkFrom_5 rfl (lv_at hl 0 rfl) ?_
      refine va_get (a := (ad 0)) (ci := 1) (v := .int osz) (C := RX1) (T := TX1) (N := 6) hx hb hts hin_X1 hown hK hP 0 rfl rfl 0 (by decide) hw_2 (fun _ h => h) rfl dX1_walkFrom_6 ?_
      refine lv_icmp_ge (tgt := 58) hx hb dX1_walkFrom_9 (by decide) (fun c_9 => ?_) (fun c_9 => ?_)
      · replace hf := it_p c_9 hf
        exact J58 H locs ls x2_4 x3_4 tl_4 pe_4 en_4 pa_4 hf hP hD hS (lv_sub hl [0, 1, 2] rfl)
      · replace hf := it_n c_9 hf
        refine lv_aload_n hx hb dX1_walkFrom_12 rfl (lv_at hl 0 rfl) ?_
        refine lv_iload_n hx hb dX1_walkFrom_13 rfl (lv_at hl 2 rfl) ?_
        replace hf := ob_e hf
        obtain ⟨u_14, hu_14, hf⟩ := hf
        refine ivR (As := [.int x3_4]) (rest := []) (st1 := [.int (bi u_14)]) ⟨hx, hb, hml, hown, hts⟩ hK hN (KX1_isInside l D cy ad osz x3_4 H.size hu_14) (cwV 1 hts gX1_walkFrom_X1_isInside rfl rfl rfl (by decide +kernel) ⟨Nat.le_of_ble_eq_true rfl, Nat.le_of_ble_eq_true rfl⟩) (va_recv hK hP (ci := 1) (q0 := 0) rfl rfl) (P_pl (wc := (wX1_0 cy ad osz)) (is := [0]) hP rfl) rfl hl.1 rfl (Nat.le_of_ble_eq_true rfl) rfl dX1_walkFrom_14 ⟨Nat.zero_le _, Nat.zero_le _⟩ ?_
        refine lv_if_eq (tgt := 58) hx hb dX1_walkFrom_17 (by decide) (fun c_17 => ?_) (fun c_17 => ?_)
        · replace hf := it_p c_17 hf
          exact J58 H locs ls x2_4 x3_4 tl_4 pe_4 en_4 pa_4 hf hP hD hS (lv_sub hl [0, 1, 2] rfl)
        · replace hf := it_n c_17 hf
          refine lv_aload_n hx hb dX1_walkFrom_20 rfl (lv_at hl 0 rfl) ?_
          refine va_get (a := (ad 0)) (ci := 1) (v := .ref (ad 3)) (C := RX1) (T := TX1) (N := 6) hx hb hts hin_X1 hown hK hP 0 rfl rfl 3 (by decide) hw_1 (fun _ h => h) rfl dX1_walkFrom_21 ?_
          refine lv_iload_n hx hb dX1_walkFrom_24 rfl (lv_at hl 2 rfl) ?_
          replace hf := gi_e hf
          obtain ⟨i_25, hf⟩ := hf
          refine va_iald (a := (ad 3)) hx hb hK hP 3 0 rfl rfl i_25 dX1_walkFrom_25 ?_
          refine lv_iconst (v := (-1)) hx hb dX1_walkFrom_26 (by decide) ?_
          refine lv_icmp_ne (tgt := 58) hx hb dX1_walkFrom_27 (by decide) (fun c_27 => ?_) (fun c_27 => ?_)
          · replace hf := it_n c_27 hf
            exact J58 H locs ls x2_4 x3_4 tl_4 pe_4 en_4 pa_4 hf hP hD hS (lv_sub hl [0, 1, 2] rfl)
          · replace hf := it_p c_27 hf
            refine lv_aload_n hx hb dX1_walkFrom_30 rfl (lv_at hl 0 rfl) ?_
            refine va_get (a := (ad 0)) (ci := 1) (v := .ref (ad 3)) (C := RX1) (T := TX1) (N := 6) hx hb hts hin_X1 hown hK hP 0 rfl rfl 3 (by decide) hw_1 (fun _ h => h) rfl dX1_walkFrom_31 ?_
            refine lv_iload_n hx hb dX1_walkFrom_34 rfl (lv_at hl 2 rfl) ?_
            refine lv_bipush (v := (-2)) hx hb dX1_walkFrom_35 (by decide) ?_
            replace hf := gi_e hf
            obtain ⟨i_37, hf⟩ := hf
            refine va_iast (a := (ad 3)) hx hb hK hP hD hS 3 0 rfl rfl i_37 dX1_walkFrom_37 (fun H locs hP hD hS => ?_)
            have hP : va_P D vwCl ((wX1_0_1_2_3_4_5 cy ad n osz nx tl_4 (upd pe_4 (Int32.toNatClampNeg x3_4) (-2)) en_4 pa_4)) H := hP
            have hD : va_D A ((wX1_0_1_2_3_4_5 cy ad n osz nx tl_4 (upd pe_4 (Int32.toNatClampNeg x3_4) (-2)) en_4 pa_4)) := hD
            refine lv_aload_n hx hb dX1_walkFrom_38 rfl (lv_at hl 0 rfl) ?_
            refine va_get (a := (ad 0)) (ci := 1) (v := .ref (ad 5)) (C := RX1) (T := TX1) (N := 6) hx hb hts hin_X1 hown hK hP 0 rfl rfl 5 (by decide) hw_0 (fun _ h => h) rfl dX1_walkFrom_39 ?_
            refine lv_iload_n hx hb dX1_walkFrom_42 rfl (lv_at hl 1 rfl) ?_
            refine lv_iload_n hx hb dX1_walkFrom_43 rfl (lv_at hl 2 rfl) ?_
            replace hf := gi_e hf
            obtain ⟨i_44, hf⟩ := hf
            refine va_iast (a := (ad 5)) hx hb hK hP hD hS 5 0 rfl rfl i_44 dX1_walkFrom_44 (fun H locs hP hD hS => ?_)
            have hP : va_P D vwCl ((wX1_0_1_2_3_4_5 cy ad n osz nx tl_4 (upd pe_4 (Int32.toNatClampNeg x3_4) (-2)) en_4 (upd pa_4 (Int32.toNatClampNeg x2_4) x3_4))) H := hP
            have hD : va_D A ((wX1_0_1_2_3_4_5 cy ad n osz nx tl_4 (upd pe_4 (Int32.toNatClampNeg x3_4) (-2)) en_4 (upd pa_4 (Int32.toNatClampNeg x2_4) x3_4))) := hD
            obtain ⟨v_45, e_45⟩ : ∃ y : Int32, y = x2_4 + 1 := ⟨_, rfl⟩
            replace hf := bd_at e_45 hf
            refine lv_iinc (v := v_45) (lv' := [(2, .int v_45), (0, .ref (ad 0)), (3, .int x3_4)]) hx hb dX1_walkFrom_45 hl (k := 1) rfl (by rw [e_45]; rfl) (by decide) rfl (fun ls hl => ?_)
            clear e_45
            refine lv_aload_n hx hb dX1_walkFrom_48 rfl (lv_at hl 1 rfl) ?_
            refine va_get (a := (ad 0)) (ci := 1) (v := .ref (ad 1)) (C := RX1) (T := TX1) (N := 6) hx hb hts hin_X1 hown hK hP 0 rfl rfl 1 (by decide) hw_3 (fun _ h => h) rfl dX1_walkFrom_49 ?_
            refine lv_iload_n hx hb dX1_walkFrom_52 rfl (lv_at hl 2 rfl) ?_
            replace hf := gi_e hf
            obtain ⟨i_53, hf⟩ := hf
            refine va_iald (a := (ad 1)) hx hb hK hP 1 0 rfl rfl i_53 dX1_walkFrom_53 ?_
            refine lv_topi (fun v_54 e_54 => ?_)
            replace hf := bd_at e_54 hf
            clear e_54
            refine lv_istore_n (lv' := [(3, .int v_54), (2, .int v_45), (0, .ref (ad 0))]) hx hb dX1_walkFrom_54 rfl hl (by decide) rfl (fun ls hl => ?_)
            refine lv_goto (tgt := 4) hx hb dX1_walkFrom_55 (by decide) ?_
            exact ih4 H locs ls v_45 v_54 (upd pe_4 (Int32.toNatClampNeg x3_4) (-2)) (upd pa_4 (Int32.toNatClampNeg x2_4) x3_4) hf hP hD hS (lv_sub hl [2, 1, 0] rfl)
  unfold FX1_walkFrom at hf
  refine lv_iconst (v := 0) hx hb dX1_walkFrom_0 (by decide) ?_
  refine lv_istore_n (lv' := [(2, .int 0), (0, .ref (ad 0)), (1, .int x1)]) hx hb dX1_walkFrom_1 rfl hl (by decide) rfl (fun ls hl => ?_)
  refine lv_iload_n hx hb dX1_walkFrom_2 rfl (lv_at hl 2 rfl) ?_
  refine lv_istore_n (lv' := [(3, .int x1), (2, .int 0), (0, .ref (ad 0)), (1, .int x1)]) hx hb dX1_walkFrom_3 rfl hl (by decide) rfl (fun ls hl => ?_)
  exact L4 tl en FU H locs ls 0 x1 pe pa hf hP hD hS (lv_sub hl [2, 1, 0] rfl)
def FX1_followAll_L10   (n : Nat) (osz : Int32) (nx : Nat → Int32) : Nat → Int32 → (Nat → Int32) → (Nat → Int32) → (Nat → Int32) → (Nat → Int32) → Option ((Nat → Int32) × (Nat → Int32) × (Nat → Int32) × (Nat → Int32))
  | 0, _, _, _, _, _ => none
  | fuel + 1, x1_10, tl_10, pe_10, en_10, pa_10 => (if osz ≤ x1_10 then (some (tl_10, pe_10, en_10, pa_10)) else (ob (FX1_walkFrom n osz nx tl_10 pe_10 en_10 pa_10 x1_10) (fun u_20 => bd (x1_10 + 1) (fun v_23 => (FX1_followAll_L10 n osz nx fuel) v_23 u_20.1 u_20.2.1 u_20.2.2.1 u_20.2.2.2))))
def FX1_followAll  (n : Nat) (osz : Int32) (nx : Nat → Int32) (tl : Nat → Int32) (pe : Nat → Int32) (en : Nat → Int32) (pa : Nat → Int32)  : Option ((Nat → Int32) × (Nat → Int32) × (Nat → Int32) × (Nat → Int32)) := (ob (FJ7_fill_53178 n pe (-1)) (fun u_5 => FX1_followAll_L10 n osz nx FU 0 tl u_5 en pa))
abbrev RMX1_followAll : Room := { frames := 3, cells := 0, slots := 0, locals := 73 }
set_option maxHeartbeats 4000000 in
set_option maxRecDepth 100000 in
theorem KX1_followAll (l : Launch) (D : va_G) (cy : Nat → ClassId) (ad : Nat → Nat) (n : Nat) (osz : Int32) (nx : Nat → Int32) (tl : Nat → Int32) (pe : Nat → Int32) (en : Nat → Int32) (pa : Nat → Int32)  (sz : Nat) {out : (Nat → Int32) × (Nat → Int32) × (Nat → Int32) × (Nat → Int32)} (hf : FX1_followAll n osz nx tl pe en pa = some out) : Met l yX1_followAll wsX1_followAll RMX1_followAll (PW D cy [.ref (ad 0)] sz ((wX1_0_1_2_3_4_5 cy ad n osz nx tl pe en pa)) []) (QW D none ((wX1_0_1_2_3_4_5 cy ad n osz nx out.1 out.2.1 out.2.2.1 out.2.2.2)) (va_A ((wX1_0_1_2_3_4_5 cy ad n osz nx tl pe en pa)) sz)) 0 0 (va_A ((wX1_0_1_2_3_4_5 cy ad n osz nx tl pe en pa)) sz) := by
  refine Met.ofW (cc := cX1_followAll) (maxL := 2) (ret := none) (by decide +kernel) rfl ?_
  intro p e s m args below meth c s₁ B hml hv
  obtain ⟨hav, hsz, hP, hR0, hK, hN, hD0, hsep⟩ := hv
  have hx := B.exec
  have hb := B.bytes
  have hr := B.returns
  have hts := atoms_spec (ws := wsX1_followAll) B.pre
  have hown : s.vm.findClass RX1 = some m.cls := findClass_of_methodNamed B.named
  have hlocks := B.notSynchronized
  subst hsz
  have hin_X1 : ∀ w ∈ u_ws RX1 TX1 6, w ∈ wsX1_followAll := by decide +kernel
  have hw_0 := hts (.fieldLink RX1 7 "ReturnPoints$Orbits" "size" "I") (by decide +kernel)
  have hw_1 := hts (.fieldLink RX1 20 "ReturnPoints$Orbits" "period" "[I") (by decide +kernel)
  have hD := hD0.self (sz := s.heap.size)
  have hnA := roA hsep hR0
  generalize hAe : va_A ((wX1_0_1_2_3_4_5 cy ad n osz nx tl pe en pa)) s.heap.size = A at hD hnA ⊢
  have hA : ∀ q : Nat, s.heap.size ≤ q → A q := fun q h => by rw [← hAe]; exact Or.inr h
  have hS : va_S A s.heap s.heap [] := va_S.rf
  obtain ⟨ls, hfr, hl⟩ := ent_ok (m := m) (n := 2) (l' := [(0, .ref (ad 0))]) [.ref (ad 0)] hav (Nat.le_of_ble_eq_true rfl) rfl
  rw [hfr]
  generalize hQe : MQ below (QW D none ((wX1_0_1_2_3_4_5 cy ad n osz nx out.1 out.2.1 out.2.2.1 out.2.2.2)) A) args s 0 0 A = QQ
  change W p l e RMX1_followAll s m args below meth c s.heap [] 0 0 QQ (F0 m 0 ls [])
  have hP : va_P D vwCl ((wX1_0_1_2_3_4_5 cy ad n osz nx tl pe en pa)) s.heap := hP
  have hD : va_D A ((wX1_0_1_2_3_4_5 cy ad n osz nx tl pe en pa)) := hD
  suffices h00 : ∀ (H : Heap) (locs : List Loc), va_P D vwCl ((wX1_0_1_2_3_4_5 cy ad n osz nx tl pe en pa)) H → va_S A s.heap H locs → W p l e RMX1_followAll s m args below meth c H locs 0 0 QQ (F0 m 0 ls []) from h00 _ _ hP hS
  clear hP hS
  intro H locs hP hS
  have L10 : ∀  (n10 : Nat) (H : Heap) (locs : List Loc) (ls : Array Slot) (x1_10 : Int32) (tl_10 : Nat → Int32) (pe_10 : Nat → Int32) (en_10 : Nat → Int32) (pa_10 : Nat → Int32), FX1_followAll_L10 n osz nx n10 x1_10 tl_10 pe_10 en_10 pa_10 = some out → va_P D vwCl ((wX1_0_1_2_3_4_5 cy ad n osz nx tl_10 pe_10 en_10 pa_10)) H → va_D A ((wX1_0_1_2_3_4_5 cy ad n osz nx tl_10 pe_10 en_10 pa_10)) → va_S A s.heap H locs → lv_has ls 2 [(0, .ref (ad 0)), (1, .int x1_10)] → W p l e RMX1_followAll s m args below meth c H locs 0 0 QQ (F0 m 10 ls []) := by
    intro  n10
    induction n10 with
    | zero => intro H locs ls x1_10 tl_10 pe_10 en_10 pa_10 hf; simp [FX1_followAll_L10] at hf
    | succ n10 ih10 =>
      intro H locs ls x1_10 tl_10 pe_10 en_10 pa_10 hf hP hD hS hl
      rw [FX1_followAll_L10] at hf
      refine lv_iload_n hx hb dX1_followAll_10 rfl (lv_at hl 1 rfl) ?_
      refine lv_aload_n hx hb dX1_followAll_11 rfl (lv_at hl 0 rfl) ?_
      refine va_get (a := (ad 0)) (ci := 1) (v := .int osz) (C := RX1) (T := TX1) (N := 6) hx hb hts hin_X1 hown hK hP 0 rfl rfl 0 (by decide) hw_0 (fun _ h => h) rfl dX1_followAll_12 ?_
      refine lv_icmp_ge (tgt := 29) hx hb dX1_followAll_15 (by decide) (fun c_15 => ?_) (fun c_15 => ?_)
      · replace hf := it_p c_15 hf
        obtain rfl := Option.some.inj hf
        rw [← hQe]
        exact W.vret hx hb hr (fun t ht hW => ⟨rfl, by rw [ht]; exact hP, hS.F ht⟩) hS.2.2 dX1_followAll_29
      · replace hf := it_n c_15 hf
        refine lv_aload_n hx hb dX1_followAll_18 rfl (lv_at hl 0 rfl) ?_
        refine lv_iload_n hx hb dX1_followAll_19 rfl (lv_at hl 1 rfl) ?_
        replace hf := ob_e hf
        obtain ⟨u_20, hu_20, hf⟩ := hf
        refine ivW (As := [.int x1_10]) (rest := []) (st1 := []) (is := [0, 1, 2, 3, 4, 5]) (w1 := (wX1_0_1_2_3_4_5 cy ad n osz nx u_20.1 u_20.2.1 u_20.2.2.1 u_20.2.2.2)) ⟨hx, hb, hml, hown, hts⟩ hK hN (KX1_walkFrom l D cy ad n osz nx tl_10 pe_10 en_10 pa_10 x1_10 H.size hu_20) (cwV 1 hts gX1_followAll_X1_walkFrom rfl rfl rfl (by decide +kernel) ⟨Nat.le_of_ble_eq_true rfl, Nat.le_of_ble_eq_true rfl⟩) (va_recv hK hP (ci := 1) (q0 := 0) rfl rfl) hP hD hS hA P_nil (sepW_nil _) (by decide) rfl rfl rfl hl.1 rfl (Nat.le_of_ble_eq_true rfl) rfl dX1_followAll_20 ⟨Nat.zero_le _, Nat.zero_le _⟩ (fun H locs hP hD hS => ?_)
        have hP : va_P D vwCl ((wX1_0_1_2_3_4_5 cy ad n osz nx u_20.1 u_20.2.1 u_20.2.2.1 u_20.2.2.2)) H := hP
        have hD : va_D A ((wX1_0_1_2_3_4_5 cy ad n osz nx u_20.1 u_20.2.1 u_20.2.2.1 u_20.2.2.2)) := hD
        obtain ⟨v_23, e_23⟩ : ∃ y : Int32, y = x1_10 + 1 := ⟨_, rfl⟩
        replace hf := bd_at e_23 hf
        refine lv_iinc (v := v_23) (lv' := [(1, .int v_23), (0, .ref (ad 0))]) hx hb dX1_followAll_23 hl (k := 1) rfl (by rw [e_23]; rfl) (by decide) rfl (fun ls hl => ?_)
        clear e_23
        refine lv_goto (tgt := 10) hx hb dX1_followAll_26 (by decide) ?_
        exact ih10 H locs ls v_23 u_20.1 u_20.2.1 u_20.2.2.1 u_20.2.2.2 hf hP hD hS (lv_sub hl [1, 0] rfl)
  unfold FX1_followAll at hf
  refine lv_aload_n hx hb dX1_followAll_0 rfl (lv_at hl 0 rfl) ?_
  refine va_get (a := (ad 0)) (ci := 1) (v := .ref (ad 3)) (C := RX1) (T := TX1) (N := 6) hx hb hts hin_X1 hown hK hP 0 rfl rfl 3 (by decide) hw_1 (fun _ h => h) rfl dX1_followAll_1 ?_
  refine lv_iconst (v := (-1)) hx hb dX1_followAll_4 (by decide) ?_
  replace hf := ob_e hf
  obtain ⟨u_5, hu_5, hf⟩ := hf
  refine isW (As := [.ref (ad 3), .int (-1)]) (rest := []) (st1 := []) (is := [3]) (w1 := (waI cy (ad 3) n u_5)) ⟨hx, hb, hml, hown, hts⟩ hK hN (KJ7_fill_53178 l D cy (ad 3) n pe (-1) H.size hu_5) (va_cwS 2 hts gX1_followAll_J7_fill_53178 rfl rfl rfl (by decide +kernel) ⟨Nat.le_of_ble_eq_true rfl, Nat.le_of_ble_eq_true rfl⟩) hP hD hS hA P_nil (sepW_nil _) (by decide) rfl rfl rfl hl.1 rfl (Nat.le_of_ble_eq_true rfl) rfl dX1_followAll_5 ⟨Nat.zero_le _, Nat.zero_le _⟩ (fun H locs hP hD hS => ?_)
  have hP : va_P D vwCl ((wX1_0_1_2_3_4_5 cy ad n osz nx tl u_5 en pa)) H := hP
  have hD : va_D A ((wX1_0_1_2_3_4_5 cy ad n osz nx tl u_5 en pa)) := hD
  refine lv_iconst (v := 0) hx hb dX1_followAll_8 (by decide) ?_
  refine lv_istore_n (lv' := [(1, .int 0), (0, .ref (ad 0))]) hx hb dX1_followAll_9 rfl hl (by decide) rfl (fun ls hl => ?_)
  exact L10 FU H locs ls 0 tl u_5 en pa hf hP hD hS (lv_sub hl [1, 0] rfl)
def FX1_after_L50   (x3_50 : Int32) (n : Nat) (osz : Int32) (nx : Nat → Int32) : Nat → Int32 → Int32 → Option (Int32)
  | 0, _, _ => none
  | fuel + 1, x4_50, x5_50 => (if x3_50 ≤ x5_50 then (some (x4_50)) else (ob (FX1_isInside osz x4_50) (fun u_59 => if (bi u_59) = 0 then (some (x4_50)) else (gi x4_50 n (bd (nx (Int32.toNatClampNeg x4_50)) (fun v_72 => bd (x5_50 + 1) (fun v_74 => (FX1_after_L50 x3_50 n osz nx fuel) v_72 v_74)))))))
def FX1_after_J44   (x1 : Int32) (x3_44 : Int32) (n : Nat) (osz : Int32) (nx : Nat → Int32) : Option (Int32) := (FX1_after_L50 x3_44 n osz nx FU x1 0)
def FX1_after  (n : Nat) (osz : Int32) (nx : Nat → Int32) (tl : Nat → Int32) (pe : Nat → Int32) (x1 : Int32) (x2 : Int32) : Option (Int32) := (gi x1 n (if x2 ≤ (tl (Int32.toNatClampNeg x1)) then FX1_after_J44 x1 x2 n osz nx else (gi x1 n (if (pe (Int32.toNatClampNeg x1)) ≤ 0 then FX1_after_J44 x1 x2 n osz nx else (gi x1 n (gi x1 n (gi x1 n (gd (¬ (pe (Int32.toNatClampNeg x1)) = 0) (bd ((tl (Int32.toNatClampNeg x1)) + (irm (x2 - (tl (Int32.toNatClampNeg x1))) (pe (Int32.toNatClampNeg x1)))) (fun v_43 => FX1_after_J44 x1 v_43 n osz nx))))))))))
abbrev RMX1_after : Room := { frames := 1, cells := 0, slots := 0, locals := 21 }
set_option maxHeartbeats 4000000 in
set_option maxRecDepth 100000 in
theorem KX1_after (l : Launch) (D : va_G) (cy : Nat → ClassId) (ad : Nat → Nat) (n : Nat) (osz : Int32) (nx : Nat → Int32) (tl : Nat → Int32) (pe : Nat → Int32) (x1 : Int32) (x2 : Int32) (sz : Nat) {out : Int32} (hf : FX1_after n osz nx tl pe x1 x2 = some out) : Met l yX1_after wsX1_after RMX1_after (PW D cy [.ref (ad 0), .int x1, .int x2] sz [] ((wX1_0_1_2_3 cy ad n osz nx tl pe))) (QR (some (.int out))) 0 0 no_A := by
  refine Met.ofW (cc := cX1_after) (maxL := 6) (ret := (some .int)) (by decide +kernel) rfl ?_
  intro p e s m args below meth c s₁ B hml hv
  obtain ⟨hav, hsz, hP, hR0, hK, hN, hD0, hsep⟩ := hv
  have hx := B.exec
  have hb := B.bytes
  have hr := B.returns
  have hts := atoms_spec (ws := wsX1_after) B.pre
  have hown : s.vm.findClass RX1 = some m.cls := findClass_of_methodNamed B.named
  have hlocks := B.notSynchronized
  subst hsz
  have hin_X1 : ∀ w ∈ u_ws RX1 TX1 6, w ∈ wsX1_after := by decide +kernel
  have hw_0 := hts (.fieldLink RX1 13 "ReturnPoints$Orbits" "next" "[I") (by decide +kernel)
  have hw_1 := hts (.fieldLink RX1 17 "ReturnPoints$Orbits" "tail" "[I") (by decide +kernel)
  have hw_2 := hts (.fieldLink RX1 20 "ReturnPoints$Orbits" "period" "[I") (by decide +kernel)
  obtain ⟨ls, hfr, hl⟩ := ent_ok (m := m) (n := 6) (l' := [(0, .ref (ad 0)), (1, .int x1), (2, .int x2)]) [.ref (ad 0), .int x1, .int x2] hav (Nat.le_of_ble_eq_true rfl) rfl
  rw [hfr]
  generalize hQe : MQ below (QR (some (.int out))) args s 0 0 no_A = QQ
  change W p l e RMX1_after s m args below meth c s.heap [] 0 0 QQ (F0 m 0 ls [])
  have L50 : ∀ (x3_50 : Int32) (n50 : Nat) (ls : Array Slot) (x4_50 : Int32) (x5_50 : Int32), FX1_after_L50 x3_50 n osz nx n50 x4_50 x5_50 = some out → lv_has ls 6 [(0, .ref (ad 0)), (3, .int x3_50), (4, .int x4_50), (5, .int x5_50)] → W p l e RMX1_after s m args below meth c s.heap [] 0 0 QQ (F0 m 50 ls []) := by
    intro x3_50 n50
    induction n50 with
    | zero => intro ls x4_50 x5_50 hf; simp [FX1_after_L50] at hf
    | succ n50 ih50 =>
      intro ls x4_50 x5_50 hf hl
      rw [FX1_after_L50] at hf
      refine lv_iload hx hb dX1_after_50 (lv_at hl 3 rfl) ?_
      refine lv_iload_n hx hb dX1_after_52 rfl (lv_at hl 1 rfl) ?_
      refine lv_icmp_ge (tgt := 80) hx hb dX1_after_53 (by decide) (fun c_53 => ?_) (fun c_53 => ?_)
      · replace hf := it_p c_53 hf
        refine lv_iload hx hb dX1_after_80 (lv_at hl 2 rfl) ?_
        obtain rfl := Option.some.inj hf
        rw [← hQe]
        exact W.iret (v := x4_50) hx hb hr (fun t ht hW => ⟨rfl, ht⟩) (fun q h => by cases h) dX1_after_82
      · replace hf := it_n c_53 hf
        refine lv_aload_n hx hb dX1_after_56 rfl (lv_at hl 0 rfl) ?_
        refine lv_iload hx hb dX1_after_57 (lv_at hl 2 rfl) ?_
        replace hf := ob_e hf
        obtain ⟨u_59, hu_59, hf⟩ := hf
        refine ivR (As := [.int x4_50]) (rest := []) (st1 := [.int (bi u_59)]) ⟨hx, hb, hml, hown, hts⟩ hK hN (KX1_isInside l D cy ad osz x4_50 s.heap.size hu_59) (cwV 1 hts gX1_after_X1_isInside rfl rfl rfl (by decide +kernel) ⟨Nat.le_of_ble_eq_true rfl, Nat.le_of_ble_eq_true rfl⟩) (va_recv hK hR0 (ci := 1) (q0 := 0) rfl rfl) (P_pl (wc := (wX1_0 cy ad osz)) (is := [0]) hR0 rfl) rfl hl.1 rfl (Nat.le_of_ble_eq_true rfl) rfl dX1_after_59 ⟨Nat.zero_le _, Nat.zero_le _⟩ ?_
        refine lv_if_eq (tgt := 80) hx hb dX1_after_62 (by decide) (fun c_62 => ?_) (fun c_62 => ?_)
        · replace hf := it_p c_62 hf
          refine lv_iload hx hb dX1_after_80 (lv_at hl 2 rfl) ?_
          obtain rfl := Option.some.inj hf
          rw [← hQe]
          exact W.iret (v := x4_50) hx hb hr (fun t ht hW => ⟨rfl, ht⟩) (fun q h => by cases h) dX1_after_82
        · replace hf := it_n c_62 hf
          refine lv_aload_n hx hb dX1_after_65 rfl (lv_at hl 0 rfl) ?_
          refine va_get (a := (ad 0)) (ci := 1) (v := .ref (ad 1)) (C := RX1) (T := TX1) (N := 6) hx hb hts hin_X1 hown hK hR0 0 rfl rfl 1 (by decide) hw_0 (fun _ h => h) rfl dX1_after_66 ?_
          refine lv_iload hx hb dX1_after_69 (lv_at hl 2 rfl) ?_
          replace hf := gi_e hf
          obtain ⟨i_71, hf⟩ := hf
          refine va_iald (a := (ad 1)) hx hb hK hR0 1 0 rfl rfl i_71 dX1_after_71 ?_
          refine lv_topi (fun v_72 e_72 => ?_)
          replace hf := bd_at e_72 hf
          clear e_72
          refine lv_istore (lv' := [(4, .int v_72), (0, .ref (ad 0)), (3, .int x3_50), (5, .int x5_50)]) hx hb dX1_after_72 hl (by decide) rfl (fun ls hl => ?_)
          obtain ⟨v_74, e_74⟩ : ∃ y : Int32, y = x5_50 + 1 := ⟨_, rfl⟩
          replace hf := bd_at e_74 hf
          refine lv_iinc (v := v_74) (lv' := [(5, .int v_74), (4, .int v_72), (0, .ref (ad 0)), (3, .int x3_50)]) hx hb dX1_after_74 hl (k := 3) rfl (by rw [e_74]; rfl) (by decide) rfl (fun ls hl => ?_)
          clear e_74
          refine lv_goto (tgt := 50) hx hb dX1_after_77 (by decide) ?_
          exact ih50 ls v_72 v_74 hf (lv_sub hl [2, 3, 1, 0] rfl)
  have J44 : ∀ (ls : Array Slot) (x3_44 : Int32), FX1_after_J44 x1 x3_44 n osz nx = some out → lv_has ls 6 [(0, .ref (ad 0)), (1, .int x1), (3, .int x3_44)] → W p l e RMX1_after s m args below meth c s.heap [] 0 0 QQ (F0 m 44 ls []) := by
    intro ls x3_44 hf hl
    unfold FX1_after_J44 at hf
    refine lv_iload_n hx hb dX1_after_44 rfl (lv_at hl 1 rfl) ?_
    refine lv_istore (lv' := [(4, .int x1), (0, .ref (ad 0)), (1, .int x1), (3, .int x3_44)]) hx hb dX1_after_45 hl (by decide) rfl (fun ls hl => ?_)
    refine lv_iconst (v := 0) hx hb dX1_after_47 (by decide) ?_
    refine lv_istore (lv' := [(5, .int 0), (4, .int x1), (0, .ref (ad 0)), (1, .int x1), (3, .int x3_44)]) hx hb dX1_after_48 hl (by decide) rfl (fun ls hl => ?_)
    exact L50 x3_44 FU ls x1 0 hf (lv_sub hl [2, 4, 1, 0] rfl)
  unfold FX1_after at hf
  refine lv_iload_n hx hb dX1_after_0 rfl (lv_at hl 2 rfl) ?_
  refine lv_istore_n (lv' := [(3, .int x2), (0, .ref (ad 0)), (1, .int x1), (2, .int x2)]) hx hb dX1_after_1 rfl hl (by decide) rfl (fun ls hl => ?_)
  refine lv_iload_n hx hb dX1_after_2 rfl (lv_at hl 3 rfl) ?_
  refine lv_aload_n hx hb dX1_after_3 rfl (lv_at hl 1 rfl) ?_
  refine va_get (a := (ad 0)) (ci := 1) (v := .ref (ad 2)) (C := RX1) (T := TX1) (N := 6) hx hb hts hin_X1 hown hK hR0 0 rfl rfl 2 (by decide) hw_1 (fun _ h => h) rfl dX1_after_4 ?_
  refine lv_iload_n hx hb dX1_after_7 rfl (lv_at hl 2 rfl) ?_
  replace hf := gi_e hf
  obtain ⟨i_8, hf⟩ := hf
  refine va_iald (a := (ad 2)) hx hb hK hR0 2 0 rfl rfl i_8 dX1_after_8 ?_
  refine lv_icmp_le (tgt := 44) hx hb dX1_after_9 (by decide) (fun c_9 => ?_) (fun c_9 => ?_)
  · replace hf := it_p c_9 hf
    exact J44 ls x2 hf (lv_sub hl [1, 2, 0] rfl)
  · replace hf := it_n c_9 hf
    refine lv_aload_n hx hb dX1_after_12 rfl (lv_at hl 1 rfl) ?_
    refine va_get (a := (ad 0)) (ci := 1) (v := .ref (ad 3)) (C := RX1) (T := TX1) (N := 6) hx hb hts hin_X1 hown hK hR0 0 rfl rfl 3 (by decide) hw_2 (fun _ h => h) rfl dX1_after_13 ?_
    refine lv_iload_n hx hb dX1_after_16 rfl (lv_at hl 2 rfl) ?_
    replace hf := gi_e hf
    obtain ⟨i_17, hf⟩ := hf
    refine va_iald (a := (ad 3)) hx hb hK hR0 3 0 rfl rfl i_17 dX1_after_17 ?_
    refine lv_if_le (tgt := 44) hx hb dX1_after_18 (by decide) (fun c_18 => ?_) (fun c_18 => ?_)
    · replace hf := it_p c_18 hf
      exact J44 ls x2 hf (lv_sub hl [1, 2, 0] rfl)
    · replace hf := it_n c_18 hf
      refine lv_aload_n hx hb dX1_after_21 rfl (lv_at hl 1 rfl) ?_
      refine va_get (a := (ad 0)) (ci := 1) (v := .ref (ad 2)) (C := RX1) (T := TX1) (N := 6) hx hb hts hin_X1 hown hK hR0 0 rfl rfl 2 (by decide) hw_1 (fun _ h => h) rfl dX1_after_22 ?_
      refine lv_iload_n hx hb dX1_after_25 rfl (lv_at hl 2 rfl) ?_
      replace hf := gi_e hf
      obtain ⟨i_26, hf⟩ := hf
      refine va_iald (a := (ad 2)) hx hb hK hR0 2 0 rfl rfl i_26 dX1_after_26 ?_
      refine lv_iload_n hx hb dX1_after_27 rfl (lv_at hl 3 rfl) ?_
      refine lv_aload_n hx hb dX1_after_28 rfl (lv_at hl 1 rfl) ?_
      refine va_get (a := (ad 0)) (ci := 1) (v := .ref (ad 2)) (C := RX1) (T := TX1) (N := 6) hx hb hts hin_X1 hown hK hR0 0 rfl rfl 2 (by decide) hw_1 (fun _ h => h) rfl dX1_after_29 ?_
      refine lv_iload_n hx hb dX1_after_32 rfl (lv_at hl 2 rfl) ?_
      replace hf := gi_e hf
      obtain ⟨i_33, hf⟩ := hf
      refine va_iald (a := (ad 2)) hx hb hK hR0 2 0 rfl rfl i_33 dX1_after_33 ?_
      refine lv_isub hx hb dX1_after_34 ?_
      refine lv_aload_n hx hb dX1_after_35 rfl (lv_at hl 1 rfl) ?_
      refine va_get (a := (ad 0)) (ci := 1) (v := .ref (ad 3)) (C := RX1) (T := TX1) (N := 6) hx hb hts hin_X1 hown hK hR0 0 rfl rfl 3 (by decide) hw_2 (fun _ h => h) rfl dX1_after_36 ?_
      refine lv_iload_n hx hb dX1_after_39 rfl (lv_at hl 2 rfl) ?_
      replace hf := gi_e hf
      obtain ⟨i_40, hf⟩ := hf
      refine va_iald (a := (ad 3)) hx hb hK hR0 3 0 rfl rfl i_40 dX1_after_40 ?_
      replace hf := gd_e hf
      obtain ⟨z_41, hf⟩ := hf
      refine rw_irem hx hb dX1_after_41 z_41 ?_
      refine lv_iadd hx hb dX1_after_42 ?_
      refine lv_topi (fun v_43 e_43 => ?_)
      replace hf := bd_at e_43 hf
      clear e_43
      refine lv_istore_n (lv' := [(3, .int v_43), (0, .ref (ad 0)), (1, .int x1), (2, .int x2)]) hx hb dX1_after_43 rfl hl (by decide) rfl (fun ls hl => ?_)
      exact J44 ls v_43 hf (lv_sub hl [1, 2, 0] rfl)
