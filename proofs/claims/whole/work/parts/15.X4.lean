def wX4_0_4 (cy : Nat → ClassId) (ad : Nat → Nat) (p4 : Int32) (mp : Option Nat) (kn : Int32) (rd : Nat → Int32) : va_W := [(ad 0, .inr (4, [.int p4, .ref (ad 1), .ref (ad 2), .ref (ad 3), .ref (ad 4), va_rf mp, .int kn])), (ad 4, .inl (cy 0, 7, .inl rd))]
def wX4_0_3_4_12_13_14_15_16_17_18 (cy : Nat → ClassId) (ad : Nat → Nat) (p4 : Int32) (mp : Option Nat) (kn : Int32) (rd : Nat → Int32) (rn : Nat → Nat → Int32) : va_W := [(ad 0, .inr (4, [.int p4, .ref (ad 1), .ref (ad 2), .ref (ad 3), .ref (ad 4), va_rf mp, .int kn])), (ad 3, .inl (cy 5, 7, .inr (.inr (.inr (.inr (rwo ad 12)))))), (ad 4, .inl (cy 0, 7, .inl rd)), (ad 12, .inl (cy 0, 65, .inl (rn 0))), (ad 13, .inl (cy 0, 65, .inl (rn 1))), (ad 14, .inl (cy 0, 65, .inl (rn 2))), (ad 15, .inl (cy 0, 65, .inl (rn 3))), (ad 16, .inl (cy 0, 65, .inl (rn 4))), (ad 17, .inl (cy 0, 65, .inl (rn 5))), (ad 18, .inl (cy 0, 65, .inl (rn 6)))]
def wo4_0 (cy : Nat → ClassId) (ad : Nat → Nat) (p4 : Int32) (mp : Option Nat) (kn : Int32) : va_W := [(ad 0, .inr (4, [.int p4, .ref (ad 1), .ref (ad 2), .ref (ad 3), .ref (ad 4), va_rf mp, .int kn]))]
def wX4_0_1_2_3_4_5_6_7_8_9_10_11_12_13_14_15_16_17_18 (cy : Nat → ClassId) (ad : Nat → Nat) (p4 : Int32) (mp : Option Nat) (kn : Int32) (dd : Nat → Int32) (rd : Nat → Int32) (dn : Nat → Nat → Int32) (rn : Nat → Nat → Int32) : va_W := [(ad 0, .inr (4, [.int p4, .ref (ad 1), .ref (ad 2), .ref (ad 3), .ref (ad 4), va_rf mp, .int kn])), (ad 1, .inl (cy 5, 7, .inr (.inr (.inr (.inr (rwo ad 5)))))), (ad 2, .inl (cy 0, 7, .inl dd)), (ad 3, .inl (cy 5, 7, .inr (.inr (.inr (.inr (rwo ad 12)))))), (ad 4, .inl (cy 0, 7, .inl rd)), (ad 5, .inl (cy 0, 65, .inl (dn 0))), (ad 6, .inl (cy 0, 65, .inl (dn 1))), (ad 7, .inl (cy 0, 65, .inl (dn 2))), (ad 8, .inl (cy 0, 65, .inl (dn 3))), (ad 9, .inl (cy 0, 65, .inl (dn 4))), (ad 10, .inl (cy 0, 65, .inl (dn 5))), (ad 11, .inl (cy 0, 65, .inl (dn 6))), (ad 12, .inl (cy 0, 65, .inl (rn 0))), (ad 13, .inl (cy 0, 65, .inl (rn 1))), (ad 14, .inl (cy 0, 65, .inl (rn 2))), (ad 15, .inl (cy 0, 65, .inl (rn 3))), (ad 16, .inl (cy 0, 65, .inl (rn 4))), (ad 17, .inl (cy 0, 65, .inl (rn 5))), (ad 18, .inl (cy 0, 65, .inl (rn 6)))]
def FX4_power_L4   (x1 : Int32) (x2 : Int32) : Nat → Int32 → Int32 → Option (Int32)
  | 0, _, _ => none
  | fuel + 1, x2_4, x3_4 => (if x2 ≤ x3_4 then (some (x2_4)) else (bd (x2_4 * x1) (fun v_12 => bd (x3_4 + 1) (fun v_13 => (FX4_power_L4 x1 x2 fuel) v_12 v_13))))
def FX4_power   (x1 : Int32) (x2 : Int32) : Option (Int32) := (FX4_power_L4 x1 x2 FU 1 0)
abbrev RMX4_power : Room := { frames := 0, cells := 0, slots := 0, locals := 0 }
set_option maxHeartbeats 4000000 in
set_option maxRecDepth 100000 in
theorem KX4_power (l : Launch) (D : va_G) (cy : Nat → ClassId)   (x1 : Int32) (x2 : Int32) (sz : Nat) {out : Int32} (hf : FX4_power x1 x2 = some out) : Met l yX4_power wsX4_power RMX4_power (PW D cy [.int x1, .int x2] sz [] []) (QR (some (.int out))) 0 0 no_A := by
  refine Met.ofW (cc := cX4_power) (maxL := 4) (ret := (some .int)) (by decide +kernel) rfl ?_
  intro p e s m args below meth c s₁ B hml hv
  obtain ⟨hav, hsz, hP, hR0, hK, hN, hD0, hsep⟩ := hv
  have hx := B.exec
  have hb := B.bytes
  have hr := B.returns
  have hts := atoms_spec (ws := wsX4_power) B.pre
  have hown : s.vm.findClass RX4 = some m.cls := findClass_of_methodNamed B.named
  have hlocks := B.notSynchronized
  subst hsz
  obtain ⟨ls, hfr, hl⟩ := ent_ok (m := m) (n := 4) (l' := [(0, .int x1), (1, .int x2)]) [.int x1, .int x2] hav (Nat.le_of_ble_eq_true rfl) rfl
  rw [hfr]
  generalize hQe : MQ below (QR (some (.int out))) args s 0 0 no_A = QQ
  change W p l e RMX4_power s m args below meth c s.heap [] 0 0 QQ (F0 m 0 ls [])
  have L4 : ∀  (n4 : Nat) (ls : Array Slot) (x2_4 : Int32) (x3_4 : Int32), FX4_power_L4 x1 x2 n4 x2_4 x3_4 = some out → lv_has ls 4 [(0, .int x1), (1, .int x2), (2, .int x2_4), (3, .int x3_4)] → W p l e RMX4_power s m args below meth c s.heap [] 0 0 QQ (F0 m 4 ls []) := by
    intro  n4
    induction n4 with
    | zero => intro ls x2_4 x3_4 hf; simp [FX4_power_L4] at hf
    | succ n4 ih4 =>
      intro ls x2_4 x3_4 hf hl
      rw [FX4_power_L4] at hf
      refine lv_iload_n hx hb dX4_power_4 rfl (lv_at hl 3 rfl) ?_
      refine lv_iload_n hx hb dX4_power_5 rfl (lv_at hl 1 rfl) ?_
      refine lv_icmp_ge (tgt := 19) hx hb dX4_power_6 (by decide) (fun c_6 => ?_) (fun c_6 => ?_)
      · replace hf := it_p c_6 hf
        refine lv_iload_n hx hb dX4_power_19 rfl (lv_at hl 2 rfl) ?_
        obtain rfl := Option.some.inj hf
        rw [← hQe]
        exact W.iret (v := x2_4) hx hb hr (fun t ht hW => ⟨rfl, ht⟩) (fun q h => by cases h) dX4_power_20
      · replace hf := it_n c_6 hf
        refine lv_iload_n hx hb dX4_power_9 rfl (lv_at hl 2 rfl) ?_
        refine lv_iload_n hx hb dX4_power_10 rfl (lv_at hl 0 rfl) ?_
        refine lv_imul hx hb dX4_power_11 ?_
        refine lv_topi (fun v_12 e_12 => ?_)
        replace hf := bd_at e_12 hf
        clear e_12
        refine lv_istore_n (lv' := [(2, .int v_12), (0, .int x1), (1, .int x2), (3, .int x3_4)]) hx hb dX4_power_12 rfl hl (by decide) rfl (fun ls hl => ?_)
        obtain ⟨v_13, e_13⟩ : ∃ y : Int32, y = x3_4 + 1 := ⟨_, rfl⟩
        replace hf := bd_at e_13 hf
        refine lv_iinc (v := v_13) (lv' := [(3, .int v_13), (2, .int v_12), (0, .int x1), (1, .int x2)]) hx hb dX4_power_13 hl (k := 3) rfl (by rw [e_13]; rfl) (by decide) rfl (fun ls hl => ?_)
        clear e_13
        refine lv_goto (tgt := 4) hx hb dX4_power_16 (by decide) ?_
        exact ih4 ls v_12 v_13 hf (lv_sub hl [2, 3, 1, 0] rfl)
  unfold FX4_power at hf
  refine lv_iconst (v := 1) hx hb dX4_power_0 (by decide) ?_
  refine lv_istore_n (lv' := [(2, .int 1), (0, .int x1), (1, .int x2)]) hx hb dX4_power_1 rfl hl (by decide) rfl (fun ls hl => ?_)
  refine lv_iconst (v := 0) hx hb dX4_power_2 (by decide) ?_
  refine lv_istore_n (lv' := [(3, .int 0), (2, .int 1), (0, .int x1), (1, .int x2)]) hx hb dX4_power_3 rfl hl (by decide) rfl (fun ls hl => ?_)
  exact L4 FU ls 1 0 hf (lv_sub hl [2, 3, 1, 0] rfl)
def FX4_degreeOf  (rd : Nat → Int32) (x1 : Int32) : Option (Int32) := (gi x1 7 (some ((rd (Int32.toNatClampNeg x1)))))
abbrev RMX4_degreeOf : Room := { frames := 0, cells := 0, slots := 0, locals := 0 }
set_option maxHeartbeats 4000000 in
set_option maxRecDepth 100000 in
theorem KX4_degreeOf (l : Launch) (D : va_G) (cy : Nat → ClassId) (ad : Nat → Nat) (p4 : Int32) (mp : Option Nat) (kn : Int32) (rd : Nat → Int32) (x1 : Int32) (sz : Nat) {out : Int32} (hf : FX4_degreeOf rd x1 = some out) : Met l yX4_degreeOf wsX4_degreeOf RMX4_degreeOf (PW D cy [.ref (ad 0), .int x1] sz [] ((wX4_0_4 cy ad p4 mp kn rd))) (QR (some (.int out))) 0 0 no_A := by
  refine Met.ofW (cc := cX4_degreeOf) (maxL := 2) (ret := (some .int)) (by decide +kernel) rfl ?_
  intro p e s m args below meth c s₁ B hml hv
  obtain ⟨hav, hsz, hP, hR0, hK, hN, hD0, hsep⟩ := hv
  have hx := B.exec
  have hb := B.bytes
  have hr := B.returns
  have hts := atoms_spec (ws := wsX4_degreeOf) B.pre
  have hown : s.vm.findClass RX4 = some m.cls := findClass_of_methodNamed B.named
  have hlocks := B.notSynchronized
  subst hsz
  have hin_X4 : ∀ w ∈ u_ws RX4 TX4 7, w ∈ wsX4_degreeOf := by decide +kernel
  have hw_0 := hts (.fieldLink RX4 27 "ReturnPoints$Rounds" "rowDegree" "[I") (by decide +kernel)
  obtain ⟨ls, hfr, hl⟩ := ent_ok (m := m) (n := 2) (l' := [(0, .ref (ad 0)), (1, .int x1)]) [.ref (ad 0), .int x1] hav (Nat.le_of_ble_eq_true rfl) rfl
  rw [hfr]
  generalize hQe : MQ below (QR (some (.int out))) args s 0 0 no_A = QQ
  change W p l e RMX4_degreeOf s m args below meth c s.heap [] 0 0 QQ (F0 m 0 ls [])
  unfold FX4_degreeOf at hf
  refine lv_aload_n hx hb dX4_degreeOf_0 rfl (lv_at hl 0 rfl) ?_
  refine va_get (a := (ad 0)) (ci := 4) (v := .ref (ad 4)) (C := RX4) (T := TX4) (N := 7) hx hb hts hin_X4 hown hK hR0 0 rfl rfl 4 (by decide) hw_0 (fun _ h => h) rfl dX4_degreeOf_1 ?_
  refine lv_iload_n hx hb dX4_degreeOf_4 rfl (lv_at hl 1 rfl) ?_
  replace hf := gi_e hf
  obtain ⟨i_5, hf⟩ := hf
  refine va_iald (a := (ad 4)) hx hb hK hR0 1 0 rfl rfl i_5 dX4_degreeOf_5 ?_
  obtain rfl := Option.some.inj hf
  rw [← hQe]
  exact W.iret (v := (rd (Int32.toNatClampNeg x1))) hx hb hr (fun t ht hW => ⟨rfl, ht⟩) (fun q h => by cases h) dX4_degreeOf_6
def FX4_numberOf  (rd : Nat → Int32) (rn : Nat → Nat → Int32) (x1 : Int32) (x2 : Int32) : Option (Int32) := (if x2 < 0 then ((some (0))) else (gi x1 7 (if (rd (Int32.toNatClampNeg x1)) < x2 then ((some (0))) else (gi x1 7 (gi x2 65 ((some (((rn (Int32.toNatClampNeg x1)) (Int32.toNatClampNeg x2))))))))))
abbrev RMX4_numberOf : Room := { frames := 0, cells := 0, slots := 0, locals := 0 }
set_option maxHeartbeats 4000000 in
set_option maxRecDepth 100000 in
theorem KX4_numberOf (l : Launch) (D : va_G) (cy : Nat → ClassId) (ad : Nat → Nat) (p4 : Int32) (mp : Option Nat) (kn : Int32) (rd : Nat → Int32) (rn : Nat → Nat → Int32) (x1 : Int32) (x2 : Int32) (sz : Nat) {out : Int32} (hf : FX4_numberOf rd rn x1 x2 = some out) : Met l yX4_numberOf wsX4_numberOf RMX4_numberOf (PW D cy [.ref (ad 0), .int x1, .int x2] sz [] ((wX4_0_3_4_12_13_14_15_16_17_18 cy ad p4 mp kn rd rn))) (QR (some (.int out))) 0 0 no_A := by
  refine Met.ofW (cc := cX4_numberOf) (maxL := 3) (ret := (some .int)) (by decide +kernel) rfl ?_
  intro p e s m args below meth c s₁ B hml hv
  obtain ⟨hav, hsz, hP, hR0, hK, hN, hD0, hsep⟩ := hv
  have hx := B.exec
  have hb := B.bytes
  have hr := B.returns
  have hts := atoms_spec (ws := wsX4_numberOf) B.pre
  have hown : s.vm.findClass RX4 = some m.cls := findClass_of_methodNamed B.named
  have hlocks := B.notSynchronized
  subst hsz
  have hin_X4 : ∀ w ∈ u_ws RX4 TX4 7, w ∈ wsX4_numberOf := by decide +kernel
  have hw_0 := hts (.fieldLink RX4 27 "ReturnPoints$Rounds" "rowDegree" "[I") (by decide +kernel)
  have hw_1 := hts (.fieldLink RX4 24 "ReturnPoints$Rounds" "rows" "[[I") (by decide +kernel)
  obtain ⟨ls, hfr, hl⟩ := ent_ok (m := m) (n := 3) (l' := [(0, .ref (ad 0)), (1, .int x1), (2, .int x2)]) [.ref (ad 0), .int x1, .int x2] hav (Nat.le_of_ble_eq_true rfl) rfl
  rw [hfr]
  generalize hQe : MQ below (QR (some (.int out))) args s 0 0 no_A = QQ
  change W p l e RMX4_numberOf s m args below meth c s.heap [] 0 0 QQ (F0 m 0 ls [])
  unfold FX4_numberOf at hf
  refine lv_iload_n hx hb dX4_numberOf_0 rfl (lv_at hl 2 rfl) ?_
  refine lv_if_lt (tgt := 25) hx hb dX4_numberOf_1 (by decide) (fun c_1 => ?_) (fun c_1 => ?_)
  · replace hf := it_p c_1 hf
    refine lv_iconst (v := 0) hx hb dX4_numberOf_25 (by decide) ?_
    obtain rfl := Option.some.inj hf
    rw [← hQe]
    exact W.iret (v := 0) hx hb hr (fun t ht hW => ⟨rfl, ht⟩) (fun q h => by cases h) dX4_numberOf_26
  · replace hf := it_n c_1 hf
    refine lv_iload_n hx hb dX4_numberOf_4 rfl (lv_at hl 2 rfl) ?_
    refine lv_aload_n hx hb dX4_numberOf_5 rfl (lv_at hl 0 rfl) ?_
    refine va_get (a := (ad 0)) (ci := 4) (v := .ref (ad 4)) (C := RX4) (T := TX4) (N := 7) hx hb hts hin_X4 hown hK hR0 0 rfl rfl 4 (by decide) hw_0 (fun _ h => h) rfl dX4_numberOf_6 ?_
    refine lv_iload_n hx hb dX4_numberOf_9 rfl (lv_at hl 1 rfl) ?_
    replace hf := gi_e hf
    obtain ⟨i_10, hf⟩ := hf
    refine va_iald (a := (ad 4)) hx hb hK hR0 2 0 rfl rfl i_10 dX4_numberOf_10 ?_
    refine lv_icmp_gt (tgt := 25) hx hb dX4_numberOf_11 (by decide) (fun c_11 => ?_) (fun c_11 => ?_)
    · replace hf := it_p c_11 hf
      refine lv_iconst (v := 0) hx hb dX4_numberOf_25 (by decide) ?_
      obtain rfl := Option.some.inj hf
      rw [← hQe]
      exact W.iret (v := 0) hx hb hr (fun t ht hW => ⟨rfl, ht⟩) (fun q h => by cases h) dX4_numberOf_26
    · replace hf := it_n c_11 hf
      refine lv_aload_n hx hb dX4_numberOf_14 rfl (lv_at hl 0 rfl) ?_
      refine va_get (a := (ad 0)) (ci := 4) (v := .ref (ad 3)) (C := RX4) (T := TX4) (N := 7) hx hb hts hin_X4 hown hK hR0 0 rfl rfl 3 (by decide) hw_1 (fun _ h => h) rfl dX4_numberOf_15 ?_
      refine lv_iload_n hx hb dX4_numberOf_18 rfl (lv_at hl 1 rfl) ?_
      replace hf := gi_e hf
      obtain ⟨i_19, hf⟩ := hf
      refine va_aldI (a := (ad 3)) (ad := ad) (k := 12) hx hb hK hR0 1 5 rfl rfl i_19 dX4_numberOf_19 ?_
      refine lv_iload_n hx hb dX4_numberOf_20 rfl (lv_at hl 2 rfl) ?_
      replace hf := gi_e hf
      obtain ⟨i_21, hf⟩ := hf
      refine va_iald (a := (ad (12 + (Int32.toNatClampNeg x1)))) hx hb hK hR0 (3 + (Int32.toNatClampNeg x1)) 0 (row7 (P := fun k => ((wX4_0_3_4_12_13_14_15_16_17_18 cy ad p4 mp kn rd rn))[3 + k]? = some (ad (12 + k), .inl (cy 0, 65, .inl (rn k)))) rfl rfl rfl rfl rfl rfl rfl (in_lt i_19)) rfl i_21 dX4_numberOf_21 ?_
      refine lv_goto (tgt := 26) hx hb dX4_numberOf_22 (by decide) ?_
      obtain rfl := Option.some.inj hf
      rw [← hQe]
      exact W.iret (v := ((rn (Int32.toNatClampNeg x1)) (Int32.toNatClampNeg x2))) hx hb hr (fun t ht hW => ⟨rfl, ht⟩) (fun q h => by cases h) dX4_numberOf_26
def FX4_divide_J131  (k101 : Int32 → (Nat → Int32) → Option ((Nat → Int32))) (x2 : Int32) (x4 : Int32) (x6_131 : Int32) (s1_131 : Int32) (s2_131 : Int32) (r_n : Nat) (r_f_131 : Nat → Int32) : Option ((Nat → Int32)) := (gi s1_131 r_n (bd (x6_131 + 1) (fun v_132 => k101 v_132 (upd r_f_131 (Int32.toNatClampNeg s1_131) s2_131))))
def FX4_divide_L101   (x2 : Int32) (x4 : Int32) (r_n : Nat) : Nat → Int32 → (Nat → Int32) → Option ((Nat → Int32))
  | 0, _, _ => none
  | fuel + 1, x6_101, r_f_101 => (if (Int32.ofNat r_n) ≤ x6_101 then (some (r_f_101)) else (if x2 < (x6_101 + x4) then (FX4_divide_J131 (FX4_divide_L101 x2 x4 r_n fuel) x2 x4 x6_101 x6_101 0 r_n r_f_101) else (gi (x6_101 + x4) r_n (FX4_divide_J131 (FX4_divide_L101 x2 x4 r_n fuel) x2 x4 x6_101 x6_101 (r_f_101 (Int32.toNatClampNeg (x6_101 + x4))) r_n r_f_101))))
def FX4_divide_L40  (k16 : Int32 → (Nat → Int32) → Option ((Nat → Int32))) (x2 : Int32) (x4 : Int32) (x5_16 : Int32) (x6_40 : Int32) (x7_40 : Int32) (p4 : Int32) (r_n : Nat) (b_n : Nat) (b_f : Nat → Int32) : Nat → Int32 → (Nat → Int32) → Option ((Nat → Int32))
  | 0, _, _ => none
  | fuel + 1, x8_40, r_f_40 => (if x4 ≤ x8_40 then (gi x6_40 r_n (bd (x6_40 + (-1)) (fun v_92 => k16 v_92 (upd r_f_40 (Int32.toNatClampNeg x6_40) x7_40)))) else (bd ((x6_40 - x4) + x8_40) (fun v_55 => gi v_55 r_n (gi x8_40 b_n (ob (FJ9_floorMod_7cf53 ((r_f_40 (Int32.toNatClampNeg v_55)) - (x7_40 * (b_f (Int32.toNatClampNeg x8_40)))) p4) (fun u_76 => gi v_55 r_n (bd (x8_40 + 1) (fun v_80 => (FX4_divide_L40 k16 x2 x4 x5_16 x6_40 x7_40 p4 r_n b_n b_f fuel) v_80 (upd r_f_40 (Int32.toNatClampNeg v_55) u_76)))))))))
def FX4_divide_L16   (x2 : Int32) (x4 : Int32) (x5_16 : Int32) (p4 : Int32) (r_n : Nat) (b_n : Nat) (b_f : Nat → Int32) : Nat → Int32 → (Nat → Int32) → Option ((Nat → Int32))
  | 0, _, _ => none
  | fuel + 1, x6_16, r_f_16 => (if x6_16 < x4 then (FX4_divide_L101 x2 x4 r_n FU 0 r_f_16) else (gi x6_16 r_n (gd (¬ p4 = 0) (bd (irm ((r_f_16 (Int32.toNatClampNeg x6_16)) * x5_16) p4) (fun v_35 => FX4_divide_L40 (FX4_divide_L16 x2 x4 x5_16 p4 r_n b_n b_f fuel) x2 x4 x5_16 x6_16 v_35 p4 r_n b_n b_f FU 0 r_f_16)))))
def FX4_divide  (p4 : Int32) (r_n : Nat) (r_f : Nat → Int32) (b_n : Nat) (b_f : Nat → Int32) (x2 : Int32) (x4 : Int32) : Option ((Nat → Int32)) := (gi x4 b_n (ob (FX6_inverse (b_f (Int32.toNatClampNeg x4)) p4) (fun u_8 => FX4_divide_L16 x2 x4 u_8 p4 r_n b_n b_f FU x2 r_f)))
abbrev RMX4_divide : Room := { frames := 1, cells := 0, slots := 0, locals := 22 }
set_option maxHeartbeats 4000000 in
set_option maxRecDepth 100000 in
theorem KX4_divide (l : Launch) (D : va_G) (cy : Nat → ClassId) (ad : Nat → Nat) (q1 : Nat) (q3 : Nat) (p4 : Int32) (mp : Option Nat) (kn : Int32) (r_n : Nat) (r_f : Nat → Int32) (b_n : Nat) (b_f : Nat → Int32) (x2 : Int32) (x4 : Int32) (sz : Nat) {out : (Nat → Int32)} (hf : FX4_divide p4 r_n r_f b_n b_f x2 x4 = some out) : Met l yX4_divide wsX4_divide RMX4_divide (PW D cy [.ref (ad 0), .ref q1, .int x2, .ref q3, .int x4] sz ((waI cy q1 r_n r_f)) ((wo4_0 cy ad p4 mp kn) ++ (waI cy q3 b_n b_f))) (QW D none ((waI cy q1 r_n out)) (va_A ((waI cy q1 r_n r_f)) sz)) 0 0 (va_A ((waI cy q1 r_n r_f)) sz) := by
  refine Met.ofW (cc := cX4_divide) (maxL := 10) (ret := none) (by decide +kernel) rfl ?_
  intro p e s m args below meth c s₁ B hml hv
  obtain ⟨hav, hsz, hP, hR0, hK, hN, hD0, hsep⟩ := hv
  have hx := B.exec
  have hb := B.bytes
  have hr := B.returns
  have hts := atoms_spec (ws := wsX4_divide) B.pre
  have hown : s.vm.findClass RX4 = some m.cls := findClass_of_methodNamed B.named
  have hlocks := B.notSynchronized
  subst hsz
  have hin_X4 : ∀ w ∈ u_ws RX4 TX4 7, w ∈ wsX4_divide := by decide +kernel
  have hw_0 := hts (.fieldLink RX4 9 "ReturnPoints$Rounds" "p" "I") (by decide +kernel)
  have hw_1 := hts (.initialized RX6) (by decide +kernel)
  have hw_2 := hts (.static yX6_inverse) (by decide +kernel)
  have hD := hD0.self (sz := s.heap.size)
  have hnA := roA hsep hR0
  generalize hAe : va_A ((waI cy q1 r_n r_f)) s.heap.size = A at hD hnA ⊢
  have hA : ∀ q : Nat, s.heap.size ≤ q → A q := fun q h => by rw [← hAe]; exact Or.inr h
  have hS : va_S A s.heap s.heap [] := va_S.rf
  obtain ⟨ls, hfr, hl⟩ := ent_ok (m := m) (n := 10) (l' := [(0, .ref (ad 0)), (1, .ref q1), (2, .int x2), (3, .ref q3), (4, .int x4)]) [.ref (ad 0), .ref q1, .int x2, .ref q3, .int x4] hav (Nat.le_of_ble_eq_true rfl) rfl
  rw [hfr]
  generalize hQe : MQ below (QW D none ((waI cy q1 r_n out)) A) args s 0 0 A = QQ
  change W p l e RMX4_divide s m args below meth c s.heap [] 0 0 QQ (F0 m 0 ls [])
  have hP : va_P D vwCl ((waI cy q1 r_n r_f)) s.heap := hP
  have hD : va_D A ((waI cy q1 r_n r_f)) := hD
  suffices h00 : ∀ (H : Heap) (locs : List Loc), va_P D vwCl ((waI cy q1 r_n r_f)) H → va_S A s.heap H locs → W p l e RMX4_divide s m args below meth c H locs 0 0 QQ (F0 m 0 ls []) from h00 _ _ hP hS
  clear hP hS
  intro H locs hP hS
  have L101 : ∀  (n101 : Nat) (H : Heap) (locs : List Loc) (ls : Array Slot) (x6_101 : Int32) (r_f_101 : Nat → Int32), FX4_divide_L101 x2 x4 r_n n101 x6_101 r_f_101 = some out → va_P D vwCl ((waI cy q1 r_n r_f_101)) H → va_D A ((waI cy q1 r_n r_f_101)) → va_S A s.heap H locs → lv_has ls 10 [(1, .ref q1), (2, .int x2), (4, .int x4), (6, .int x6_101)] → W p l e RMX4_divide s m args below meth c H locs 0 0 QQ (F0 m 101 ls []) := by
    intro  n101
    induction n101 with
    | zero => intro H locs ls x6_101 r_f_101 hf; simp [FX4_divide_L101] at hf
    | succ n101 ih101 =>
      intro H locs ls x6_101 r_f_101 hf hP hD hS hl
      rw [FX4_divide_L101] at hf
      have J131 : ∀ (H : Heap) (locs : List Loc) (ls : Array Slot) (x6_131 : Int32) (s1_131 : Int32) (s2_131 : Int32) (r_f_131 : Nat → Int32), FX4_divide_J131 (FX4_divide_L101 x2 x4 r_n n101) x2 x4 x6_131 s1_131 s2_131 r_n r_f_131 = some out → va_P D vwCl ((waI cy q1 r_n r_f_131)) H → va_D A ((waI cy q1 r_n r_f_131)) → va_S A s.heap H locs → lv_has ls 10 [(1, .ref q1), (2, .int x2), (4, .int x4), (6, .int x6_131)] → W p l e RMX4_divide s m args below meth c H locs 0 0 QQ (F0 m 131 ls [.int s2_131, .int s1_131, .ref q1]) := by
        intro H locs ls x6_131 s1_131 s2_131 r_f_131 hf hP hD hS hl
        unfold FX4_divide_J131 at hf
        replace hf := gi_e hf
        obtain ⟨i_131, hf⟩ := hf
        refine va_iast (a := q1) hx hb hK hP hD hS 0 0 rfl rfl i_131 dX4_divide_131 (fun H locs hP hD hS => ?_)
        have hP : va_P D vwCl ((waI cy q1 r_n (upd r_f_131 (Int32.toNatClampNeg s1_131) s2_131))) H := hP
        have hD : va_D A ((waI cy q1 r_n (upd r_f_131 (Int32.toNatClampNeg s1_131) s2_131))) := hD
        obtain ⟨v_132, e_132⟩ : ∃ y : Int32, y = x6_131 + 1 := ⟨_, rfl⟩
        replace hf := bd_at e_132 hf
        refine lv_iinc (v := v_132) (lv' := [(6, .int v_132), (1, .ref q1), (2, .int x2), (4, .int x4)]) hx hb dX4_divide_132 hl (k := 3) rfl (by rw [e_132]; rfl) (by decide) rfl (fun ls hl => ?_)
        clear e_132
        refine lv_goto (tgt := 101) hx hb dX4_divide_135 (by decide) ?_
        exact ih101 H locs ls v_132 (upd r_f_131 (Int32.toNatClampNeg s1_131) s2_131) hf hP hD hS (lv_sub hl [1, 2, 3, 0] rfl)
      refine lv_iload hx hb dX4_divide_101 (lv_at hl 3 rfl) ?_
      refine lv_aload_n hx hb dX4_divide_103 rfl (lv_at hl 0 rfl) ?_
      refine va_alen (a := q1) (v := (Int32.ofNat r_n)) hx hb hK hP 0 0 rfl rfl rfl dX4_divide_104 ?_
      refine lv_icmp_ge (tgt := 138) hx hb dX4_divide_105 (by decide) (fun c_105 => ?_) (fun c_105 => ?_)
      · replace hf := it_p c_105 hf
        obtain rfl := Option.some.inj hf
        rw [← hQe]
        exact W.vret hx hb hr (fun t ht hW => ⟨rfl, by rw [ht]; exact hP, hS.F ht⟩) hS.2.2 dX4_divide_138
      · replace hf := it_n c_105 hf
        refine lv_aload_n hx hb dX4_divide_108 rfl (lv_at hl 0 rfl) ?_
        refine lv_iload hx hb dX4_divide_109 (lv_at hl 3 rfl) ?_
        refine lv_iload hx hb dX4_divide_111 (lv_at hl 3 rfl) ?_
        refine lv_iload hx hb dX4_divide_113 (lv_at hl 2 rfl) ?_
        refine lv_iadd hx hb dX4_divide_115 ?_
        refine lv_iload_n hx hb dX4_divide_116 rfl (lv_at hl 1 rfl) ?_
        refine lv_icmp_gt (tgt := 130) hx hb dX4_divide_117 (by decide) (fun c_117 => ?_) (fun c_117 => ?_)
        · replace hf := it_p c_117 hf
          refine lv_iconst (v := 0) hx hb dX4_divide_130 (by decide) ?_
          exact J131 H locs ls x6_101 x6_101 0 r_f_101 hf hP hD hS (lv_sub hl [0, 1, 2, 3] rfl)
        · replace hf := it_n c_117 hf
          refine lv_aload_n hx hb dX4_divide_120 rfl (lv_at hl 0 rfl) ?_
          refine lv_iload hx hb dX4_divide_121 (lv_at hl 3 rfl) ?_
          refine lv_iload hx hb dX4_divide_123 (lv_at hl 2 rfl) ?_
          refine lv_iadd hx hb dX4_divide_125 ?_
          replace hf := gi_e hf
          obtain ⟨i_126, hf⟩ := hf
          refine va_iald (a := q1) hx hb hK hP 0 0 rfl rfl i_126 dX4_divide_126 ?_
          refine lv_goto (tgt := 131) hx hb dX4_divide_127 (by decide) ?_
          exact J131 H locs ls x6_101 x6_101 (r_f_101 (Int32.toNatClampNeg (x6_101 + x4))) r_f_101 hf hP hD hS (lv_sub hl [0, 1, 2, 3] rfl)
  have L16 : ∀ (x5_16 : Int32) (n16 : Nat) (H : Heap) (locs : List Loc) (ls : Array Slot) (x6_16 : Int32) (r_f_16 : Nat → Int32), FX4_divide_L16 x2 x4 x5_16 p4 r_n b_n b_f n16 x6_16 r_f_16 = some out → va_P D vwCl ((waI cy q1 r_n r_f_16)) H → va_D A ((waI cy q1 r_n r_f_16)) → va_S A s.heap H locs → lv_has ls 10 [(0, .ref (ad 0)), (1, .ref q1), (2, .int x2), (3, .ref q3), (4, .int x4), (5, .int x5_16), (6, .int x6_16)] → W p l e RMX4_divide s m args below meth c H locs 0 0 QQ (F0 m 16 ls []) := by
    intro x5_16 n16
    induction n16 with
    | zero => intro H locs ls x6_16 r_f_16 hf; simp [FX4_divide_L16] at hf
    | succ n16 ih16 =>
      intro H locs ls x6_16 r_f_16 hf hP hD hS hl
      rw [FX4_divide_L16] at hf
      have L40 : ∀ (x6_40 : Int32) (x7_40 : Int32) (n40 : Nat) (H : Heap) (locs : List Loc) (ls : Array Slot) (x8_40 : Int32) (r_f_40 : Nat → Int32), FX4_divide_L40 (FX4_divide_L16 x2 x4 x5_16 p4 r_n b_n b_f n16) x2 x4 x5_16 x6_40 x7_40 p4 r_n b_n b_f n40 x8_40 r_f_40 = some out → va_P D vwCl ((waI cy q1 r_n r_f_40)) H → va_D A ((waI cy q1 r_n r_f_40)) → va_S A s.heap H locs → lv_has ls 10 [(0, .ref (ad 0)), (1, .ref q1), (2, .int x2), (3, .ref q3), (4, .int x4), (5, .int x5_16), (6, .int x6_40), (7, .int x7_40), (8, .int x8_40)] → W p l e RMX4_divide s m args below meth c H locs 0 0 QQ (F0 m 40 ls []) := by
        intro x6_40 x7_40 n40
        induction n40 with
        | zero => intro H locs ls x8_40 r_f_40 hf; simp [FX4_divide_L40] at hf
        | succ n40 ih40 =>
          intro H locs ls x8_40 r_f_40 hf hP hD hS hl
          rw [FX4_divide_L40] at hf
          refine lv_iload hx hb dX4_divide_40 (lv_at hl 8 rfl) ?_
          refine lv_iload hx hb dX4_divide_42 (lv_at hl 4 rfl) ?_
          refine lv_icmp_ge (tgt := 86) hx hb dX4_divide_44 (by decide) (fun c_44 => ?_) (fun c_44 => ?_)
          · replace hf := it_p c_44 hf
            refine lv_aload_n hx hb dX4_divide_86 rfl (lv_at hl 1 rfl) ?_
            refine lv_iload hx hb dX4_divide_87 (lv_at hl 6 rfl) ?_
            refine lv_iload hx hb dX4_divide_89 (lv_at hl 7 rfl) ?_
            replace hf := gi_e hf
            obtain ⟨i_91, hf⟩ := hf
            refine va_iast (a := q1) hx hb hK hP hD hS 0 0 rfl rfl i_91 dX4_divide_91 (fun H locs hP hD hS => ?_)
            have hP : va_P D vwCl ((waI cy q1 r_n (upd r_f_40 (Int32.toNatClampNeg x6_40) x7_40))) H := hP
            have hD : va_D A ((waI cy q1 r_n (upd r_f_40 (Int32.toNatClampNeg x6_40) x7_40))) := hD
            obtain ⟨v_92, e_92⟩ : ∃ y : Int32, y = x6_40 + (-1) := ⟨_, rfl⟩
            replace hf := bd_at e_92 hf
            refine lv_iinc (v := v_92) (lv' := [(6, .int v_92), (0, .ref (ad 0)), (1, .ref q1), (2, .int x2), (3, .ref q3), (4, .int x4), (5, .int x5_16), (7, .int x7_40), (8, .int x8_40)]) hx hb dX4_divide_92 hl (k := 6) rfl (by rw [e_92]; rfl) (by decide) rfl (fun ls hl => ?_)
            clear e_92
            refine lv_goto (tgt := 16) hx hb dX4_divide_95 (by decide) ?_
            exact ih16 H locs ls v_92 (upd r_f_40 (Int32.toNatClampNeg x6_40) x7_40) hf hP hD hS (lv_sub hl [1, 2, 3, 4, 5, 6, 0] rfl)
          · replace hf := it_n c_44 hf
            refine lv_iload hx hb dX4_divide_47 (lv_at hl 6 rfl) ?_
            refine lv_iload hx hb dX4_divide_49 (lv_at hl 4 rfl) ?_
            refine lv_isub hx hb dX4_divide_51 ?_
            refine lv_iload hx hb dX4_divide_52 (lv_at hl 8 rfl) ?_
            refine lv_iadd hx hb dX4_divide_54 ?_
            refine lv_topi (fun v_55 e_55 => ?_)
            replace hf := bd_at e_55 hf
            clear e_55
            refine lv_istore (lv' := [(9, .int v_55), (0, .ref (ad 0)), (1, .ref q1), (2, .int x2), (3, .ref q3), (4, .int x4), (5, .int x5_16), (6, .int x6_40), (7, .int x7_40), (8, .int x8_40)]) hx hb dX4_divide_55 hl (by decide) rfl (fun ls hl => ?_)
            refine lv_aload_n hx hb dX4_divide_57 rfl (lv_at hl 2 rfl) ?_
            refine lv_iload hx hb dX4_divide_58 (lv_at hl 0 rfl) ?_
            refine lv_aload_n hx hb dX4_divide_60 rfl (lv_at hl 2 rfl) ?_
            refine lv_iload hx hb dX4_divide_61 (lv_at hl 0 rfl) ?_
            replace hf := gi_e hf
            obtain ⟨i_63, hf⟩ := hf
            refine va_iald (a := q1) hx hb hK hP 0 0 rfl rfl i_63 dX4_divide_63 ?_
            refine lv_iload hx hb dX4_divide_64 (lv_at hl 8 rfl) ?_
            refine lv_aload_n hx hb dX4_divide_66 rfl (lv_at hl 4 rfl) ?_
            refine lv_iload hx hb dX4_divide_67 (lv_at hl 9 rfl) ?_
            replace hf := gi_e hf
            obtain ⟨i_69, hf⟩ := hf
            have hR := roN hR0 hnA hS
            refine va_iald (a := q3) hx hb hK hR 1 0 rfl rfl i_69 dX4_divide_69 ?_
            refine lv_imul hx hb dX4_divide_70 ?_
            refine lv_isub hx hb dX4_divide_71 ?_
            refine lv_aload_n hx hb dX4_divide_72 rfl (lv_at hl 1 rfl) ?_
            have hR := roN hR0 hnA hS
            refine va_get (a := (ad 0)) (ci := 4) (v := .int p4) (C := RX4) (T := TX4) (N := 7) hx hb hts hin_X4 hown hK hR 0 rfl rfl 0 (by decide) hw_0 (fun _ h => h) rfl dX4_divide_73 ?_
            replace hf := ob_e hf
            obtain ⟨u_76, hu_76, hf⟩ := hf
            refine isR (As := [.int ((r_f_40 (Int32.toNatClampNeg v_55)) - (x7_40 * (b_f (Int32.toNatClampNeg x8_40)))), .int p4]) (rest := [.int v_55, .ref q1]) (st1 := [.int u_76, .int v_55, .ref q1]) ⟨hx, hb, hml, hown, hts⟩ hK hN (KJ9_floorMod_7cf53 l D cy ((r_f_40 (Int32.toNatClampNeg v_55)) - (x7_40 * (b_f (Int32.toNatClampNeg x8_40)))) p4 H.size hu_76) (va_cwS 2 hts gX4_divide_J9_floorMod_7cf53 rfl rfl rfl (by decide +kernel) ⟨Nat.le_of_ble_eq_true rfl, Nat.le_of_ble_eq_true rfl⟩) P_nil rfl hl.1 rfl (Nat.le_of_ble_eq_true rfl) rfl dX4_divide_76 ⟨Nat.zero_le _, Nat.zero_le _⟩ ?_
            replace hf := gi_e hf
            obtain ⟨i_79, hf⟩ := hf
            refine va_iast (a := q1) hx hb hK hP hD hS 0 0 rfl rfl i_79 dX4_divide_79 (fun H locs hP hD hS => ?_)
            have hP : va_P D vwCl ((waI cy q1 r_n (upd r_f_40 (Int32.toNatClampNeg v_55) u_76))) H := hP
            have hD : va_D A ((waI cy q1 r_n (upd r_f_40 (Int32.toNatClampNeg v_55) u_76))) := hD
            obtain ⟨v_80, e_80⟩ : ∃ y : Int32, y = x8_40 + 1 := ⟨_, rfl⟩
            replace hf := bd_at e_80 hf
            refine lv_iinc (v := v_80) (lv' := [(8, .int v_80), (9, .int v_55), (0, .ref (ad 0)), (1, .ref q1), (2, .int x2), (3, .ref q3), (4, .int x4), (5, .int x5_16), (6, .int x6_40), (7, .int x7_40)]) hx hb dX4_divide_80 hl (k := 9) rfl (by rw [e_80]; rfl) (by decide) rfl (fun ls hl => ?_)
            clear e_80
            refine lv_goto (tgt := 40) hx hb dX4_divide_83 (by decide) ?_
            exact ih40 H locs ls v_80 (upd r_f_40 (Int32.toNatClampNeg v_55) u_76) hf hP hD hS (lv_sub hl [2, 3, 4, 5, 6, 7, 8, 9, 0] rfl)
      refine lv_iload hx hb dX4_divide_16 (lv_at hl 6 rfl) ?_
      refine lv_iload hx hb dX4_divide_18 (lv_at hl 4 rfl) ?_
      refine lv_icmp_lt (tgt := 98) hx hb dX4_divide_20 (by decide) (fun c_20 => ?_) (fun c_20 => ?_)
      · replace hf := it_p c_20 hf
        refine lv_iconst (v := 0) hx hb dX4_divide_98 (by decide) ?_
        refine lv_istore (lv' := [(6, .int 0), (0, .ref (ad 0)), (1, .ref q1), (2, .int x2), (3, .ref q3), (4, .int x4), (5, .int x5_16)]) hx hb dX4_divide_99 hl (by decide) rfl (fun ls hl => ?_)
        exact L101 FU H locs ls 0 r_f_16 hf hP hD hS (lv_sub hl [2, 3, 5, 0] rfl)
      · replace hf := it_n c_20 hf
        refine lv_aload_n hx hb dX4_divide_23 rfl (lv_at hl 1 rfl) ?_
        refine lv_iload hx hb dX4_divide_24 (lv_at hl 6 rfl) ?_
        replace hf := gi_e hf
        obtain ⟨i_26, hf⟩ := hf
        refine va_iald (a := q1) hx hb hK hP 0 0 rfl rfl i_26 dX4_divide_26 ?_
        refine lv_iload hx hb dX4_divide_27 (lv_at hl 5 rfl) ?_
        refine lv_imul hx hb dX4_divide_29 ?_
        refine lv_aload_n hx hb dX4_divide_30 rfl (lv_at hl 0 rfl) ?_
        have hR := roN hR0 hnA hS
        refine va_get (a := (ad 0)) (ci := 4) (v := .int p4) (C := RX4) (T := TX4) (N := 7) hx hb hts hin_X4 hown hK hR 0 rfl rfl 0 (by decide) hw_0 (fun _ h => h) rfl dX4_divide_31 ?_
        replace hf := gd_e hf
        obtain ⟨z_34, hf⟩ := hf
        refine rw_irem hx hb dX4_divide_34 z_34 ?_
        refine lv_topi (fun v_35 e_35 => ?_)
        replace hf := bd_at e_35 hf
        clear e_35
        refine lv_istore (lv' := [(7, .int v_35), (0, .ref (ad 0)), (1, .ref q1), (2, .int x2), (3, .ref q3), (4, .int x4), (5, .int x5_16), (6, .int x6_16)]) hx hb dX4_divide_35 hl (by decide) rfl (fun ls hl => ?_)
        refine lv_iconst (v := 0) hx hb dX4_divide_37 (by decide) ?_
        refine lv_istore (lv' := [(8, .int 0), (7, .int v_35), (0, .ref (ad 0)), (1, .ref q1), (2, .int x2), (3, .ref q3), (4, .int x4), (5, .int x5_16), (6, .int x6_16)]) hx hb dX4_divide_38 hl (by decide) rfl (fun ls hl => ?_)
        exact L40 x6_16 v_35 FU H locs ls 0 r_f_16 hf hP hD hS (lv_sub hl [2, 3, 4, 5, 6, 7, 8, 1, 0] rfl)
  unfold FX4_divide at hf
  refine lv_aload_n hx hb dX4_divide_0 rfl (lv_at hl 3 rfl) ?_
  refine lv_iload hx hb dX4_divide_1 (lv_at hl 4 rfl) ?_
  replace hf := gi_e hf
  obtain ⟨i_3, hf⟩ := hf
  have hR := roN hR0 hnA hS
  refine va_iald (a := q3) hx hb hK hR 1 0 rfl rfl i_3 dX4_divide_3 ?_
  refine lv_aload_n hx hb dX4_divide_4 rfl (lv_at hl 0 rfl) ?_
  have hR := roN hR0 hnA hS
  refine va_get (a := (ad 0)) (ci := 4) (v := .int p4) (C := RX4) (T := TX4) (N := 7) hx hb hts hin_X4 hown hK hR 0 rfl rfl 0 (by decide) hw_0 (fun _ h => h) rfl dX4_divide_5 ?_
  replace hf := ob_e hf
  obtain ⟨u_8, hu_8, hf⟩ := hf
  refine inR (As := [.int (b_f (Int32.toNatClampNeg x4)), .int p4]) (rest := []) (st1 := [.int u_8]) ⟨hx, hb, hml, hown, hts⟩ hK hN (KX6_inverse l D cy (b_f (Int32.toNatClampNeg x4)) p4 H.size hu_8) ⟨va_cnB 2 hts gX4_divide_X6_inverse_n66 rfl rfl rfl hN.2.2 hw_1 (by decide +kernel) ⟨Nat.le_of_ble_eq_true rfl, Nat.le_of_ble_eq_true rfl⟩, hw_2, trivial⟩ P_nil rfl hl.1 rfl (Nat.le_of_ble_eq_true rfl) rfl dX4_divide_8 ⟨Nat.zero_le _, Nat.zero_le _⟩ ?_
  refine lv_istore (lv' := [(5, .int u_8), (0, .ref (ad 0)), (1, .ref q1), (2, .int x2), (3, .ref q3), (4, .int x4)]) hx hb dX4_divide_11 hl (by decide) rfl (fun ls hl => ?_)
  refine lv_iload_n hx hb dX4_divide_13 rfl (lv_at hl 3 rfl) ?_
  refine lv_istore (lv' := [(6, .int x2), (5, .int u_8), (0, .ref (ad 0)), (1, .ref q1), (2, .int x2), (3, .ref q3), (4, .int x4)]) hx hb dX4_divide_14 hl (by decide) rfl (fun ls hl => ?_)
  exact L16 u_8 FU H locs ls x2 r_f hf hP hD hS (lv_sub hl [2, 3, 4, 5, 6, 1, 0] rfl)
def FX4_divideOut_J99  (k50 : Int32 → (Nat → Int32) → (Nat → Nat → Int32) → Option ((Nat → Int32) × (Nat → Nat → Int32))) (x1 : Int32) (x3_99 : Int32) (p4 : Int32) (rd_99 : Nat → Int32) (rn_99 : Nat → Nat → Int32) : Option ((Nat → Int32) × (Nat → Nat → Int32)) := (bd (x3_99 + 1) (fun v_99 => k50 v_99 rd_99 rn_99))
def FX4_divideOut_L50   (x1 : Int32) (p4 : Int32) : Nat → Int32 → (Nat → Int32) → (Nat → Nat → Int32) → Option ((Nat → Int32) × (Nat → Nat → Int32))
  | 0, _, _, _ => none
  | fuel + 1, x3_50, rd_50, rn_50 => (if x1 ≤ x3_50 then (some (rd_50, rn_50)) else (gd (¬ x3_50 = 0) (if (irm x1 x3_50) = 0 then (gi x1 7 (gi x3_50 7 (gi x3_50 7 (gd (¬ (Int32.toNatClampNeg x3_50) = (Int32.toNatClampNeg x1)) (ob (FX4_divide p4 65 (rn_50 (Int32.toNatClampNeg x1)) 65 (rn_50 (Int32.toNatClampNeg x3_50)) (rd_50 (Int32.toNatClampNeg x1)) (rd_50 (Int32.toNatClampNeg x3_50))) (fun u_81 => gi x1 7 (gi x3_50 7 (gi x1 7 (FX4_divideOut_J99 (FX4_divideOut_L50 x1 p4 fuel) x1 x3_50 p4 (upd rd_50 (Int32.toNatClampNeg x1) ((rd_50 (Int32.toNatClampNeg x1)) - (rd_50 (Int32.toNatClampNeg x3_50)))) (va_up rn_50 (Int32.toNatClampNeg x1) u_81)))))))))) else FX4_divideOut_J99 (FX4_divideOut_L50 x1 p4 fuel) x1 x3_50 p4 rd_50 rn_50)))
def FX4_divideOut  (p4 : Int32) (dd : Nat → Int32) (rd : Nat → Int32) (dn : Nat → Nat → Int32) (rn : Nat → Nat → Int32) (x1 : Int32) : Option ((Nat → Int32) × (Nat → Nat → Int32)) := (gi x1 7 (gi x1 7 (gd (¬ (0 : Int32) < 0 ∧ ¬ (0 : Int32) < 0 ∧ ¬ ((Int32.ofNat 65) : Int32) < 0 ∧ (Int32.toNatClampNeg 0) + (Int32.toNatClampNeg (Int32.ofNat 65)) ≤ 65 ∧ (Int32.toNatClampNeg 0) + (Int32.toNatClampNeg (Int32.ofNat 65)) ≤ 65) (gi 1 65 (ob (FJ9_floorMod_7cf53 ((((va_up rn (Int32.toNatClampNeg x1) (va_cpy (dn (Int32.toNatClampNeg x1)) (rn (Int32.toNatClampNeg x1)) (Int32.toNatClampNeg 0) (Int32.toNatClampNeg 0) (Int32.toNatClampNeg (Int32.ofNat 65)))) (Int32.toNatClampNeg x1)) (Int32.toNatClampNeg 1)) - 1) p4) (fun u_32 => gi 1 65 (gi x1 7 (gi x1 7 (FX4_divideOut_L50 x1 p4 FU 1 (upd rd (Int32.toNatClampNeg x1) (dd (Int32.toNatClampNeg x1))) (va_up (va_up rn (Int32.toNatClampNeg x1) (va_cpy (dn (Int32.toNatClampNeg x1)) (rn (Int32.toNatClampNeg x1)) (Int32.toNatClampNeg 0) (Int32.toNatClampNeg 0) (Int32.toNatClampNeg (Int32.ofNat 65)))) (Int32.toNatClampNeg x1) (upd ((va_up rn (Int32.toNatClampNeg x1) (va_cpy (dn (Int32.toNatClampNeg x1)) (rn (Int32.toNatClampNeg x1)) (Int32.toNatClampNeg 0) (Int32.toNatClampNeg 0) (Int32.toNatClampNeg (Int32.ofNat 65)))) (Int32.toNatClampNeg x1)) (Int32.toNatClampNeg 1) u_32)))))))))))
abbrev RMX4_divideOut : Room := { frames := 2, cells := 0, slots := 0, locals := 51 }
set_option maxHeartbeats 4000000 in
set_option maxRecDepth 100000 in
theorem KX4_divideOut (l : Launch) (D : va_G) (cy : Nat → ClassId) (ad : Nat → Nat) (p4 : Int32) (mp : Option Nat) (kn : Int32) (dd : Nat → Int32) (rd : Nat → Int32) (dn : Nat → Nat → Int32) (rn : Nat → Nat → Int32) (x1 : Int32) (sz : Nat) {out : (Nat → Int32) × (Nat → Nat → Int32)} (hf : FX4_divideOut p4 dd rd dn rn x1 = some out) : Met l yX4_divideOut wsX4_divideOut RMX4_divideOut (PW D cy [.ref (ad 0), .int x1] sz ((wX4_0_1_2_3_4_5_6_7_8_9_10_11_12_13_14_15_16_17_18 cy ad p4 mp kn dd rd dn rn)) []) (QW D none ((wX4_0_1_2_3_4_5_6_7_8_9_10_11_12_13_14_15_16_17_18 cy ad p4 mp kn dd out.1 dn out.2)) (va_A ((wX4_0_1_2_3_4_5_6_7_8_9_10_11_12_13_14_15_16_17_18 cy ad p4 mp kn dd rd dn rn)) sz)) 0 0 (va_A ((wX4_0_1_2_3_4_5_6_7_8_9_10_11_12_13_14_15_16_17_18 cy ad p4 mp kn dd rd dn rn)) sz) := by
  refine Met.ofW (cc := cX4_divideOut) (maxL := 4) (ret := none) (by decide +kernel) rfl ?_
  intro p e s m args below meth c s₁ B hml hv
  obtain ⟨hav, hsz, hP, hR0, hK, hN, hD0, hsep⟩ := hv
  have hx := B.exec
  have hb := B.bytes
  have hr := B.returns
  have hts := atoms_spec (ws := wsX4_divideOut) B.pre
  have hown : s.vm.findClass RX4 = some m.cls := findClass_of_methodNamed B.named
  have hlocks := B.notSynchronized
  subst hsz
  have hin_X4 : ∀ w ∈ u_ws RX4 TX4 7, w ∈ wsX4_divideOut := by decide +kernel
  have hw_0 := hts (.fieldLink RX4 27 "ReturnPoints$Rounds" "rowDegree" "[I") (by decide +kernel)
  have hw_1 := hts (.fieldLink RX4 24 "ReturnPoints$Rounds" "rows" "[[I") (by decide +kernel)
  have hw_2 := hts (.fieldLink RX4 17 "ReturnPoints$Rounds" "done" "[[I") (by decide +kernel)
  have hw_3 := hts (.methodLink RX4 50 arraycopyName) (by decide +kernel)
  have hw_4 := hts (.native arraycopyName) (by decide +kernel)
  have hw_5 := hts (.static arraycopyName) (by decide +kernel)
  have hw_6 := hts (.initialized "java/lang/System") (by decide +kernel)
  have hw_7 := hts (.fieldLink RX4 9 "ReturnPoints$Rounds" "p" "I") (by decide +kernel)
  have hw_8 := hts (.fieldLink RX4 20 "ReturnPoints$Rounds" "doneDegree" "[I") (by decide +kernel)
  have hD := hD0.self (sz := s.heap.size)
  have hnA := roA hsep hR0
  generalize hAe : va_A ((wX4_0_1_2_3_4_5_6_7_8_9_10_11_12_13_14_15_16_17_18 cy ad p4 mp kn dd rd dn rn)) s.heap.size = A at hD hnA ⊢
  have hA : ∀ q : Nat, s.heap.size ≤ q → A q := fun q h => by rw [← hAe]; exact Or.inr h
  have hS : va_S A s.heap s.heap [] := va_S.rf
  obtain ⟨ls, hfr, hl⟩ := ent_ok (m := m) (n := 4) (l' := [(0, .ref (ad 0)), (1, .int x1)]) [.ref (ad 0), .int x1] hav (Nat.le_of_ble_eq_true rfl) rfl
  rw [hfr]
  generalize hQe : MQ below (QW D none ((wX4_0_1_2_3_4_5_6_7_8_9_10_11_12_13_14_15_16_17_18 cy ad p4 mp kn dd out.1 dn out.2)) A) args s 0 0 A = QQ
  change W p l e RMX4_divideOut s m args below meth c s.heap [] 0 0 QQ (F0 m 0 ls [])
  have hP : va_P D vwCl ((wX4_0_1_2_3_4_5_6_7_8_9_10_11_12_13_14_15_16_17_18 cy ad p4 mp kn dd rd dn rn)) s.heap := hP
  have hD : va_D A ((wX4_0_1_2_3_4_5_6_7_8_9_10_11_12_13_14_15_16_17_18 cy ad p4 mp kn dd rd dn rn)) := hD
  suffices h00 : ∀ (H : Heap) (locs : List Loc), va_P D vwCl ((wX4_0_1_2_3_4_5_6_7_8_9_10_11_12_13_14_15_16_17_18 cy ad p4 mp kn dd rd dn rn)) H → va_S A s.heap H locs → W p l e RMX4_divideOut s m args below meth c H locs 0 0 QQ (F0 m 0 ls []) from h00 _ _ hP hS
  clear hP hS
  intro H locs hP hS
  have L50 : ∀  (n50 : Nat) (H : Heap) (locs : List Loc) (ls : Array Slot) (x3_50 : Int32) (rd_50 : Nat → Int32) (rn_50 : Nat → Nat → Int32), (Int32.toNatClampNeg x1) < 7 → FX4_divideOut_L50 x1 p4 n50 x3_50 rd_50 rn_50 = some out → va_P D vwCl ((wX4_0_1_2_3_4_5_6_7_8_9_10_11_12_13_14_15_16_17_18 cy ad p4 mp kn dd rd_50 dn rn_50)) H → va_D A ((wX4_0_1_2_3_4_5_6_7_8_9_10_11_12_13_14_15_16_17_18 cy ad p4 mp kn dd rd_50 dn rn_50)) → va_S A s.heap H locs → lv_has ls 4 [(0, .ref (ad 0)), (1, .int x1), (2, .ref (ad (12 + (Int32.toNatClampNeg x1)))), (3, .int x3_50)] → W p l e RMX4_divideOut s m args below meth c H locs 0 0 QQ (F0 m 50 ls []) := by
    intro  n50
    induction n50 with
    | zero => intro H locs ls x3_50 rd_50 rn_50 hk0_50 hf; simp [FX4_divideOut_L50] at hf
    | succ n50 ih50 =>
      intro H locs ls x3_50 rd_50 rn_50 hk0_50 hf hP hD hS hl
      rw [FX4_divideOut_L50] at hf
      have J99 : ∀ (H : Heap) (locs : List Loc) (ls : Array Slot) (x3_99 : Int32) (rd_99 : Nat → Int32) (rn_99 : Nat → Nat → Int32), (Int32.toNatClampNeg x1) < 7 → FX4_divideOut_J99 (FX4_divideOut_L50 x1 p4 n50) x1 x3_99 p4 rd_99 rn_99 = some out → va_P D vwCl ((wX4_0_1_2_3_4_5_6_7_8_9_10_11_12_13_14_15_16_17_18 cy ad p4 mp kn dd rd_99 dn rn_99)) H → va_D A ((wX4_0_1_2_3_4_5_6_7_8_9_10_11_12_13_14_15_16_17_18 cy ad p4 mp kn dd rd_99 dn rn_99)) → va_S A s.heap H locs → lv_has ls 4 [(0, .ref (ad 0)), (1, .int x1), (2, .ref (ad (12 + (Int32.toNatClampNeg x1)))), (3, .int x3_99)] → W p l e RMX4_divideOut s m args below meth c H locs 0 0 QQ (F0 m 99 ls []) := by
        intro H locs ls x3_99 rd_99 rn_99 hk0_99 hf hP hD hS hl
        unfold FX4_divideOut_J99 at hf
        obtain ⟨v_99, e_99⟩ : ∃ y : Int32, y = x3_99 + 1 := ⟨_, rfl⟩
        replace hf := bd_at e_99 hf
        refine lv_iinc (v := v_99) (lv' := [(3, .int v_99), (0, .ref (ad 0)), (1, .int x1), (2, .ref (ad (12 + (Int32.toNatClampNeg x1))))]) hx hb dX4_divideOut_99 hl (k := 3) rfl (by rw [e_99]; rfl) (by decide) rfl (fun ls hl => ?_)
        clear e_99
        refine lv_goto (tgt := 50) hx hb dX4_divideOut_102 (by decide) ?_
        exact ih50 H locs ls v_99 rd_99 rn_99 hk0_99 hf hP hD hS (lv_sub hl [1, 2, 3, 0] rfl)
      refine lv_iload_n hx hb dX4_divideOut_50 rfl (lv_at hl 3 rfl) ?_
      refine lv_iload_n hx hb dX4_divideOut_51 rfl (lv_at hl 1 rfl) ?_
      refine lv_icmp_ge (tgt := 105) hx hb dX4_divideOut_52 (by decide) (fun c_52 => ?_) (fun c_52 => ?_)
      · replace hf := it_p c_52 hf
        obtain rfl := Option.some.inj hf
        rw [← hQe]
        exact W.vret hx hb hr (fun t ht hW => ⟨rfl, by rw [ht]; exact hP, hS.F ht⟩) hS.2.2 dX4_divideOut_105
      · replace hf := it_n c_52 hf
        refine lv_iload_n hx hb dX4_divideOut_55 rfl (lv_at hl 1 rfl) ?_
        refine lv_iload_n hx hb dX4_divideOut_56 rfl (lv_at hl 3 rfl) ?_
        replace hf := gd_e hf
        obtain ⟨z_57, hf⟩ := hf
        refine rw_irem hx hb dX4_divideOut_57 z_57 ?_
        refine lv_if_ne (tgt := 99) hx hb dX4_divideOut_58 (by decide) (fun c_58 => ?_) (fun c_58 => ?_)
        · replace hf := it_n c_58 hf
          exact J99 H locs ls x3_50 rd_50 rn_50 hk0_50 hf hP hD hS (lv_sub hl [0, 1, 2, 3] rfl)
        · replace hf := it_p c_58 hf
          refine lv_aload_n hx hb dX4_divideOut_61 rfl (lv_at hl 0 rfl) ?_
          refine lv_aload_n hx hb dX4_divideOut_62 rfl (lv_at hl 2 rfl) ?_
          refine lv_aload_n hx hb dX4_divideOut_63 rfl (lv_at hl 0 rfl) ?_
          refine va_get (a := (ad 0)) (ci := 4) (v := .ref (ad 4)) (C := RX4) (T := TX4) (N := 7) hx hb hts hin_X4 hown hK hP 0 rfl rfl 4 (by decide) hw_0 (fun _ h => h) rfl dX4_divideOut_64 ?_
          refine lv_iload_n hx hb dX4_divideOut_67 rfl (lv_at hl 1 rfl) ?_
          replace hf := gi_e hf
          obtain ⟨i_68, hf⟩ := hf
          refine va_iald (a := (ad 4)) hx hb hK hP 4 0 rfl rfl i_68 dX4_divideOut_68 ?_
          refine lv_aload_n hx hb dX4_divideOut_69 rfl (lv_at hl 0 rfl) ?_
          refine va_get (a := (ad 0)) (ci := 4) (v := .ref (ad 3)) (C := RX4) (T := TX4) (N := 7) hx hb hts hin_X4 hown hK hP 0 rfl rfl 3 (by decide) hw_1 (fun _ h => h) rfl dX4_divideOut_70 ?_
          refine lv_iload_n hx hb dX4_divideOut_73 rfl (lv_at hl 3 rfl) ?_
          replace hf := gi_e hf
          obtain ⟨i_74, hf⟩ := hf
          refine va_aldI (a := (ad 3)) (ad := ad) (k := 12) hx hb hK hP 3 5 rfl rfl i_74 dX4_divideOut_74 ?_
          refine lv_aload_n hx hb dX4_divideOut_75 rfl (lv_at hl 0 rfl) ?_
          refine va_get (a := (ad 0)) (ci := 4) (v := .ref (ad 4)) (C := RX4) (T := TX4) (N := 7) hx hb hts hin_X4 hown hK hP 0 rfl rfl 4 (by decide) hw_0 (fun _ h => h) rfl dX4_divideOut_76 ?_
          refine lv_iload_n hx hb dX4_divideOut_79 rfl (lv_at hl 3 rfl) ?_
          replace hf := gi_e hf
          obtain ⟨i_80, hf⟩ := hf
          refine va_iald (a := (ad 4)) hx hb hK hP 4 0 rfl rfl i_80 dX4_divideOut_80 ?_
          replace hf := gd_e hf
          obtain ⟨ne_81, hf⟩ := hf
          replace hf := ob_e hf
          obtain ⟨u_81, hu_81, hf⟩ := hf
          refine ivW (As := [.ref (ad (12 + (Int32.toNatClampNeg x1))), .int (rd_50 (Int32.toNatClampNeg x1)), .ref (ad (12 + (Int32.toNatClampNeg x3_50))), .int (rd_50 (Int32.toNatClampNeg x3_50))]) (rest := []) (st1 := []) (is := [(12 + (Int32.toNatClampNeg x1))]) (w1 := (waI cy (ad (12 + (Int32.toNatClampNeg x1))) 65 u_81)) ⟨hx, hb, hml, hown, hts⟩ hK hN (KX4_divide l D cy ad (ad (12 + (Int32.toNatClampNeg x1))) (ad (12 + (Int32.toNatClampNeg x3_50))) p4 mp kn 65 (rn_50 (Int32.toNatClampNeg x1)) 65 (rn_50 (Int32.toNatClampNeg x3_50)) (rd_50 (Int32.toNatClampNeg x1)) (rd_50 (Int32.toNatClampNeg x3_50)) H.size hu_81) (cwV 4 hts gX4_divideOut_X4_divide rfl rfl rfl (by decide +kernel) ⟨Nat.le_of_ble_eq_true rfl, Nat.le_of_ble_eq_true rfl⟩) (va_recv hK hP (ci := 4) (q0 := 0) rfl rfl) hP hD hS hA (va_P.app (P_pl (wc := (wo4_0 cy ad p4 mp kn)) (is := [0]) hP rfl) (P_pl (wc := (waI cy (ad (12 + (Int32.toNatClampNeg x3_50))) 65 (rn_50 (Int32.toNatClampNeg x3_50)))) (is := [(12 + (Int32.toNatClampNeg x3_50))]) hP (congrArg (fun x => [x]) (row7 (P := fun k => ((wX4_0_1_2_3_4_5_6_7_8_9_10_11_12_13_14_15_16_17_18 cy ad p4 mp kn dd rd_50 dn rn_50))[12 + k]? = some (ad (12 + k), .inl (cy 0, 65, .inl (rn_50 k)))) rfl rfl rfl rfl rfl rfl rfl (in_lt i_74))))) (sep_ap (sep_D (is := [(12 + (Int32.toNatClampNeg x1))]) (isR := [0]) hD rfl (congrArg (fun x => [x]) (row7 (P := fun k => ((wX4_0_1_2_3_4_5_6_7_8_9_10_11_12_13_14_15_16_17_18 cy ad p4 mp kn dd rd_50 dn rn_50))[12 + k]? = some (ad (12 + k), .inl (cy 0, 65, .inl (rn_50 k)))) rfl rfl rfl rfl rfl rfl rfl hk0_50)) (by intro i hi; simp only [List.mem_cons, List.not_mem_nil, or_false] at hi ⊢; omega)) (sep_D (is := [(12 + (Int32.toNatClampNeg x1))]) (isR := [(12 + (Int32.toNatClampNeg x3_50))]) hD (congrArg (fun x => [x]) (row7 (P := fun k => ((wX4_0_1_2_3_4_5_6_7_8_9_10_11_12_13_14_15_16_17_18 cy ad p4 mp kn dd rd_50 dn rn_50))[12 + k]? = some (ad (12 + k), .inl (cy 0, 65, .inl (rn_50 k)))) rfl rfl rfl rfl rfl rfl rfl (in_lt i_74))) (congrArg (fun x => [x]) (row7 (P := fun k => ((wX4_0_1_2_3_4_5_6_7_8_9_10_11_12_13_14_15_16_17_18 cy ad p4 mp kn dd rd_50 dn rn_50))[12 + k]? = some (ad (12 + k), .inl (cy 0, 65, .inl (rn_50 k)))) rfl rfl rfl rfl rfl rfl rfl hk0_50)) (by intro i hi; simp only [List.mem_cons, List.not_mem_nil, or_false] at hi ⊢; omega))) (by simp [va_nd]) (congrArg (fun x => [x]) (row7 (P := fun k => ((wX4_0_1_2_3_4_5_6_7_8_9_10_11_12_13_14_15_16_17_18 cy ad p4 mp kn dd rd_50 dn rn_50))[12 + k]? = some (ad (12 + k), .inl (cy 0, 65, .inl (rn_50 k)))) rfl rfl rfl rfl rfl rfl rfl hk0_50)) rfl rfl hl.1 rfl (Nat.le_of_ble_eq_true rfl) rfl dX4_divideOut_81 ⟨Nat.zero_le _, Nat.zero_le _⟩ (fun H locs hP hD hS => ?_)
          have hset : (((wX4_0_1_2_3_4_5_6_7_8_9_10_11_12_13_14_15_16_17_18 cy ad p4 mp kn dd rd_50 dn rn_50))).set (12 + (Int32.toNatClampNeg x1)) (ad (12 + (Int32.toNatClampNeg x1)), .inl (cy 0, 65, .inl u_81)) = ((wX4_0_1_2_3_4_5_6_7_8_9_10_11_12_13_14_15_16_17_18 cy ad p4 mp kn dd rd_50 dn (va_up rn_50 (Int32.toNatClampNeg x1) u_81))) := row7 (P := fun k => (((wX4_0_1_2_3_4_5_6_7_8_9_10_11_12_13_14_15_16_17_18 cy ad p4 mp kn dd rd_50 dn rn_50))).set (12 + k) (ad (12 + k), .inl (cy 0, 65, .inl u_81)) = ((wX4_0_1_2_3_4_5_6_7_8_9_10_11_12_13_14_15_16_17_18 cy ad p4 mp kn dd rd_50 dn (va_up rn_50 k u_81)))) rfl rfl rfl rfl rfl rfl rfl hk0_50
          have hP : va_P D vwCl ((wX4_0_1_2_3_4_5_6_7_8_9_10_11_12_13_14_15_16_17_18 cy ad p4 mp kn dd rd_50 dn (va_up rn_50 (Int32.toNatClampNeg x1) u_81))) H := P_cast hset hP
          have hD : va_D A ((wX4_0_1_2_3_4_5_6_7_8_9_10_11_12_13_14_15_16_17_18 cy ad p4 mp kn dd rd_50 dn (va_up rn_50 (Int32.toNatClampNeg x1) u_81))) := D_cast hset hD
          clear hset
          refine lv_aload_n hx hb dX4_divideOut_84 rfl (lv_at hl 0 rfl) ?_
          refine va_get (a := (ad 0)) (ci := 4) (v := .ref (ad 4)) (C := RX4) (T := TX4) (N := 7) hx hb hts hin_X4 hown hK hP 0 rfl rfl 4 (by decide) hw_0 (fun _ h => h) rfl dX4_divideOut_85 ?_
          refine lv_iload_n hx hb dX4_divideOut_88 rfl (lv_at hl 1 rfl) ?_
          refine lv_dup2_11 hx hb dX4_divideOut_89 rfl rfl ?_
          replace hf := gi_e hf
          obtain ⟨i_90, hf⟩ := hf
          refine va_iald (a := (ad 4)) hx hb hK hP 4 0 rfl rfl i_90 dX4_divideOut_90 ?_
          refine lv_aload_n hx hb dX4_divideOut_91 rfl (lv_at hl 0 rfl) ?_
          refine va_get (a := (ad 0)) (ci := 4) (v := .ref (ad 4)) (C := RX4) (T := TX4) (N := 7) hx hb hts hin_X4 hown hK hP 0 rfl rfl 4 (by decide) hw_0 (fun _ h => h) rfl dX4_divideOut_92 ?_
          refine lv_iload_n hx hb dX4_divideOut_95 rfl (lv_at hl 3 rfl) ?_
          replace hf := gi_e hf
          obtain ⟨i_96, hf⟩ := hf
          refine va_iald (a := (ad 4)) hx hb hK hP 4 0 rfl rfl i_96 dX4_divideOut_96 ?_
          refine lv_isub hx hb dX4_divideOut_97 ?_
          replace hf := gi_e hf
          obtain ⟨i_98, hf⟩ := hf
          refine va_iast (a := (ad 4)) hx hb hK hP hD hS 4 0 rfl rfl i_98 dX4_divideOut_98 (fun H locs hP hD hS => ?_)
          have hP : va_P D vwCl ((wX4_0_1_2_3_4_5_6_7_8_9_10_11_12_13_14_15_16_17_18 cy ad p4 mp kn dd (upd rd_50 (Int32.toNatClampNeg x1) ((rd_50 (Int32.toNatClampNeg x1)) - (rd_50 (Int32.toNatClampNeg x3_50)))) dn (va_up rn_50 (Int32.toNatClampNeg x1) u_81))) H := hP
          have hD : va_D A ((wX4_0_1_2_3_4_5_6_7_8_9_10_11_12_13_14_15_16_17_18 cy ad p4 mp kn dd (upd rd_50 (Int32.toNatClampNeg x1) ((rd_50 (Int32.toNatClampNeg x1)) - (rd_50 (Int32.toNatClampNeg x3_50)))) dn (va_up rn_50 (Int32.toNatClampNeg x1) u_81))) := hD
          exact J99 H locs ls x3_50 (upd rd_50 (Int32.toNatClampNeg x1) ((rd_50 (Int32.toNatClampNeg x1)) - (rd_50 (Int32.toNatClampNeg x3_50)))) (va_up rn_50 (Int32.toNatClampNeg x1) u_81) hk0_50 hf hP hD hS (lv_sub hl [0, 1, 2, 3] rfl)
  unfold FX4_divideOut at hf
  refine lv_aload_n hx hb dX4_divideOut_0 rfl (lv_at hl 0 rfl) ?_
  refine va_get (a := (ad 0)) (ci := 4) (v := .ref (ad 3)) (C := RX4) (T := TX4) (N := 7) hx hb hts hin_X4 hown hK hP 0 rfl rfl 3 (by decide) hw_1 (fun _ h => h) rfl dX4_divideOut_1 ?_
  refine lv_iload_n hx hb dX4_divideOut_4 rfl (lv_at hl 1 rfl) ?_
  replace hf := gi_e hf
  obtain ⟨i_5, hf⟩ := hf
  refine va_aldI (a := (ad 3)) (ad := ad) (k := 12) hx hb hK hP 3 5 rfl rfl i_5 dX4_divideOut_5 ?_
  refine lv_astore_n (lv' := [(2, .ref (ad (12 + (Int32.toNatClampNeg x1)))), (0, .ref (ad 0)), (1, .int x1)]) hx hb dX4_divideOut_6 rfl hl (by decide) rfl (fun ls hl => ?_)
  refine lv_aload_n hx hb dX4_divideOut_7 rfl (lv_at hl 1 rfl) ?_
  refine va_get (a := (ad 0)) (ci := 4) (v := .ref (ad 1)) (C := RX4) (T := TX4) (N := 7) hx hb hts hin_X4 hown hK hP 0 rfl rfl 1 (by decide) hw_2 (fun _ h => h) rfl dX4_divideOut_8 ?_
  refine lv_iload_n hx hb dX4_divideOut_11 rfl (lv_at hl 2 rfl) ?_
  replace hf := gi_e hf
  obtain ⟨i_12, hf⟩ := hf
  refine va_aldI (a := (ad 1)) (ad := ad) (k := 5) hx hb hK hP 1 5 rfl rfl i_12 dX4_divideOut_12 ?_
  refine lv_iconst (v := 0) hx hb dX4_divideOut_13 (by decide) ?_
  refine lv_aload_n hx hb dX4_divideOut_14 rfl (lv_at hl 0 rfl) ?_
  refine lv_iconst (v := 0) hx hb dX4_divideOut_15 (by decide) ?_
  refine lv_aload_n hx hb dX4_divideOut_16 rfl (lv_at hl 0 rfl) ?_
  refine va_alen (a := (ad (12 + (Int32.toNatClampNeg x1)))) (v := (Int32.ofNat 65)) hx hb hK hP (12 + (Int32.toNatClampNeg x1)) 0 (row7 (P := fun k => ((wX4_0_1_2_3_4_5_6_7_8_9_10_11_12_13_14_15_16_17_18 cy ad p4 mp kn dd rd dn rn))[12 + k]? = some (ad (12 + k), .inl (cy 0, 65, .inl (rn k)))) rfl rfl rfl rfl rfl rfl rfl (in_lt i_5)) rfl rfl dX4_divideOut_17 ?_
  replace hf := gd_e hf
  obtain ⟨cp_18, hf⟩ := hf
  refine va_copyi (a0 := (ad (5 + (Int32.toNatClampNeg x1)))) (a := (ad (12 + (Int32.toNatClampNeg x1)))) hx hb (hml.trans hl.1.symm) hown hw_3 hw_4 hw_5 hw_6 hK hP hD hS (5 + (Int32.toNatClampNeg x1)) (12 + (Int32.toNatClampNeg x1)) 0 0 (row7 (P := fun k => ((wX4_0_1_2_3_4_5_6_7_8_9_10_11_12_13_14_15_16_17_18 cy ad p4 mp kn dd rd dn rn))[5 + k]? = some (ad (5 + k), .inl (cy 0, 65, .inl (dn k)))) rfl rfl rfl rfl rfl rfl rfl (in_lt i_12)) (row7 (P := fun k => ((wX4_0_1_2_3_4_5_6_7_8_9_10_11_12_13_14_15_16_17_18 cy ad p4 mp kn dd rd dn rn))[12 + k]? = some (ad (12 + k), .inl (cy 0, 65, .inl (rn k)))) rfl rfl rfl rfl rfl rfl rfl (in_lt i_5)) rfl rfl rfl cp_18.1 cp_18.2.1 cp_18.2.2.1 cp_18.2.2.2.1 cp_18.2.2.2.2 (fun i _ => rfl) (Nat.le_of_ble_eq_true rfl) (Nat.le_of_ble_eq_true rfl) dX4_divideOut_18 (fun H locs hP hD hS => ?_)
  have hset : (((wX4_0_1_2_3_4_5_6_7_8_9_10_11_12_13_14_15_16_17_18 cy ad p4 mp kn dd rd dn rn))).set (12 + (Int32.toNatClampNeg x1)) (ad (12 + (Int32.toNatClampNeg x1)), .inl (cy 0, 65, .inl (va_cpy (dn (Int32.toNatClampNeg x1)) (rn (Int32.toNatClampNeg x1)) (Int32.toNatClampNeg 0) (Int32.toNatClampNeg 0) (Int32.toNatClampNeg (Int32.ofNat 65))))) = ((wX4_0_1_2_3_4_5_6_7_8_9_10_11_12_13_14_15_16_17_18 cy ad p4 mp kn dd rd dn (va_up rn (Int32.toNatClampNeg x1) (va_cpy (dn (Int32.toNatClampNeg x1)) (rn (Int32.toNatClampNeg x1)) (Int32.toNatClampNeg 0) (Int32.toNatClampNeg 0) (Int32.toNatClampNeg (Int32.ofNat 65)))))) := row7 (P := fun k => (((wX4_0_1_2_3_4_5_6_7_8_9_10_11_12_13_14_15_16_17_18 cy ad p4 mp kn dd rd dn rn))).set (12 + k) (ad (12 + k), .inl (cy 0, 65, .inl (va_cpy (dn (Int32.toNatClampNeg x1)) (rn (Int32.toNatClampNeg x1)) (Int32.toNatClampNeg 0) (Int32.toNatClampNeg 0) (Int32.toNatClampNeg (Int32.ofNat 65))))) = ((wX4_0_1_2_3_4_5_6_7_8_9_10_11_12_13_14_15_16_17_18 cy ad p4 mp kn dd rd dn (va_up rn k (va_cpy (dn (Int32.toNatClampNeg x1)) (rn (Int32.toNatClampNeg x1)) (Int32.toNatClampNeg 0) (Int32.toNatClampNeg 0) (Int32.toNatClampNeg (Int32.ofNat 65))))))) rfl rfl rfl rfl rfl rfl rfl (in_lt i_5)
  have hP : va_P D vwCl ((wX4_0_1_2_3_4_5_6_7_8_9_10_11_12_13_14_15_16_17_18 cy ad p4 mp kn dd rd dn (va_up rn (Int32.toNatClampNeg x1) (va_cpy (dn (Int32.toNatClampNeg x1)) (rn (Int32.toNatClampNeg x1)) (Int32.toNatClampNeg 0) (Int32.toNatClampNeg 0) (Int32.toNatClampNeg (Int32.ofNat 65)))))) H := P_cast hset hP
  have hD : va_D A ((wX4_0_1_2_3_4_5_6_7_8_9_10_11_12_13_14_15_16_17_18 cy ad p4 mp kn dd rd dn (va_up rn (Int32.toNatClampNeg x1) (va_cpy (dn (Int32.toNatClampNeg x1)) (rn (Int32.toNatClampNeg x1)) (Int32.toNatClampNeg 0) (Int32.toNatClampNeg 0) (Int32.toNatClampNeg (Int32.ofNat 65)))))) := D_cast hset hD
  clear hset
  refine lv_aload_n hx hb dX4_divideOut_21 rfl (lv_at hl 0 rfl) ?_
  refine lv_iconst (v := 1) hx hb dX4_divideOut_22 (by decide) ?_
  refine lv_aload_n hx hb dX4_divideOut_23 rfl (lv_at hl 0 rfl) ?_
  refine lv_iconst (v := 1) hx hb dX4_divideOut_24 (by decide) ?_
  replace hf := gi_e hf
  obtain ⟨i_25, hf⟩ := hf
  refine va_iald (a := (ad (12 + (Int32.toNatClampNeg x1)))) hx hb hK hP (12 + (Int32.toNatClampNeg x1)) 0 (row7 (P := fun k => ((wX4_0_1_2_3_4_5_6_7_8_9_10_11_12_13_14_15_16_17_18 cy ad p4 mp kn dd rd dn (va_up rn (Int32.toNatClampNeg x1) (va_cpy (dn (Int32.toNatClampNeg x1)) (rn (Int32.toNatClampNeg x1)) (Int32.toNatClampNeg 0) (Int32.toNatClampNeg 0) (Int32.toNatClampNeg (Int32.ofNat 65))))))[12 + k]? = some (ad (12 + k), .inl (cy 0, 65, .inl ((va_up rn (Int32.toNatClampNeg x1) (va_cpy (dn (Int32.toNatClampNeg x1)) (rn (Int32.toNatClampNeg x1)) (Int32.toNatClampNeg 0) (Int32.toNatClampNeg 0) (Int32.toNatClampNeg (Int32.ofNat 65)))) k)))) rfl rfl rfl rfl rfl rfl rfl (in_lt i_5)) rfl i_25 dX4_divideOut_25 ?_
  refine lv_iconst (v := 1) hx hb dX4_divideOut_26 (by decide) ?_
  refine lv_isub hx hb dX4_divideOut_27 ?_
  refine lv_aload_n hx hb dX4_divideOut_28 rfl (lv_at hl 1 rfl) ?_
  refine va_get (a := (ad 0)) (ci := 4) (v := .int p4) (C := RX4) (T := TX4) (N := 7) hx hb hts hin_X4 hown hK hP 0 rfl rfl 0 (by decide) hw_7 (fun _ h => h) rfl dX4_divideOut_29 ?_
  replace hf := ob_e hf
  obtain ⟨u_32, hu_32, hf⟩ := hf
  refine isR (As := [.int ((((va_up rn (Int32.toNatClampNeg x1) (va_cpy (dn (Int32.toNatClampNeg x1)) (rn (Int32.toNatClampNeg x1)) (Int32.toNatClampNeg 0) (Int32.toNatClampNeg 0) (Int32.toNatClampNeg (Int32.ofNat 65)))) (Int32.toNatClampNeg x1)) (Int32.toNatClampNeg 1)) - 1), .int p4]) (rest := [.int 1, .ref (ad (12 + (Int32.toNatClampNeg x1)))]) (st1 := [.int u_32, .int 1, .ref (ad (12 + (Int32.toNatClampNeg x1)))]) ⟨hx, hb, hml, hown, hts⟩ hK hN (KJ9_floorMod_7cf53 l D cy ((((va_up rn (Int32.toNatClampNeg x1) (va_cpy (dn (Int32.toNatClampNeg x1)) (rn (Int32.toNatClampNeg x1)) (Int32.toNatClampNeg 0) (Int32.toNatClampNeg 0) (Int32.toNatClampNeg (Int32.ofNat 65)))) (Int32.toNatClampNeg x1)) (Int32.toNatClampNeg 1)) - 1) p4 H.size hu_32) (va_cwS 2 hts gX4_divideOut_J9_floorMod_7cf53 rfl rfl rfl (by decide +kernel) ⟨Nat.le_of_ble_eq_true rfl, Nat.le_of_ble_eq_true rfl⟩) P_nil rfl hl.1 rfl (Nat.le_of_ble_eq_true rfl) rfl dX4_divideOut_32 ⟨Nat.zero_le _, Nat.zero_le _⟩ ?_
  replace hf := gi_e hf
  obtain ⟨i_35, hf⟩ := hf
  refine va_iast (a := (ad (12 + (Int32.toNatClampNeg x1)))) hx hb hK hP hD hS (12 + (Int32.toNatClampNeg x1)) 0 (row7 (P := fun k => ((wX4_0_1_2_3_4_5_6_7_8_9_10_11_12_13_14_15_16_17_18 cy ad p4 mp kn dd rd dn (va_up rn (Int32.toNatClampNeg x1) (va_cpy (dn (Int32.toNatClampNeg x1)) (rn (Int32.toNatClampNeg x1)) (Int32.toNatClampNeg 0) (Int32.toNatClampNeg 0) (Int32.toNatClampNeg (Int32.ofNat 65))))))[12 + k]? = some (ad (12 + k), .inl (cy 0, 65, .inl ((va_up rn (Int32.toNatClampNeg x1) (va_cpy (dn (Int32.toNatClampNeg x1)) (rn (Int32.toNatClampNeg x1)) (Int32.toNatClampNeg 0) (Int32.toNatClampNeg 0) (Int32.toNatClampNeg (Int32.ofNat 65)))) k)))) rfl rfl rfl rfl rfl rfl rfl (in_lt i_5)) rfl i_35 dX4_divideOut_35 (fun H locs hP hD hS => ?_)
  have hset : (((wX4_0_1_2_3_4_5_6_7_8_9_10_11_12_13_14_15_16_17_18 cy ad p4 mp kn dd rd dn (va_up rn (Int32.toNatClampNeg x1) (va_cpy (dn (Int32.toNatClampNeg x1)) (rn (Int32.toNatClampNeg x1)) (Int32.toNatClampNeg 0) (Int32.toNatClampNeg 0) (Int32.toNatClampNeg (Int32.ofNat 65))))))).set (12 + (Int32.toNatClampNeg x1)) (ad (12 + (Int32.toNatClampNeg x1)), .inl (cy 0, 65, .inl (upd ((va_up rn (Int32.toNatClampNeg x1) (va_cpy (dn (Int32.toNatClampNeg x1)) (rn (Int32.toNatClampNeg x1)) (Int32.toNatClampNeg 0) (Int32.toNatClampNeg 0) (Int32.toNatClampNeg (Int32.ofNat 65)))) (Int32.toNatClampNeg x1)) (Int32.toNatClampNeg 1) u_32))) = ((wX4_0_1_2_3_4_5_6_7_8_9_10_11_12_13_14_15_16_17_18 cy ad p4 mp kn dd rd dn (va_up (va_up rn (Int32.toNatClampNeg x1) (va_cpy (dn (Int32.toNatClampNeg x1)) (rn (Int32.toNatClampNeg x1)) (Int32.toNatClampNeg 0) (Int32.toNatClampNeg 0) (Int32.toNatClampNeg (Int32.ofNat 65)))) (Int32.toNatClampNeg x1) (upd ((va_up rn (Int32.toNatClampNeg x1) (va_cpy (dn (Int32.toNatClampNeg x1)) (rn (Int32.toNatClampNeg x1)) (Int32.toNatClampNeg 0) (Int32.toNatClampNeg 0) (Int32.toNatClampNeg (Int32.ofNat 65)))) (Int32.toNatClampNeg x1)) (Int32.toNatClampNeg 1) u_32)))) := row7 (P := fun k => (((wX4_0_1_2_3_4_5_6_7_8_9_10_11_12_13_14_15_16_17_18 cy ad p4 mp kn dd rd dn (va_up rn (Int32.toNatClampNeg x1) (va_cpy (dn (Int32.toNatClampNeg x1)) (rn (Int32.toNatClampNeg x1)) (Int32.toNatClampNeg 0) (Int32.toNatClampNeg 0) (Int32.toNatClampNeg (Int32.ofNat 65))))))).set (12 + k) (ad (12 + k), .inl (cy 0, 65, .inl (upd ((va_up rn (Int32.toNatClampNeg x1) (va_cpy (dn (Int32.toNatClampNeg x1)) (rn (Int32.toNatClampNeg x1)) (Int32.toNatClampNeg 0) (Int32.toNatClampNeg 0) (Int32.toNatClampNeg (Int32.ofNat 65)))) (Int32.toNatClampNeg x1)) (Int32.toNatClampNeg 1) u_32))) = ((wX4_0_1_2_3_4_5_6_7_8_9_10_11_12_13_14_15_16_17_18 cy ad p4 mp kn dd rd dn (va_up (va_up rn (Int32.toNatClampNeg x1) (va_cpy (dn (Int32.toNatClampNeg x1)) (rn (Int32.toNatClampNeg x1)) (Int32.toNatClampNeg 0) (Int32.toNatClampNeg 0) (Int32.toNatClampNeg (Int32.ofNat 65)))) k (upd ((va_up rn (Int32.toNatClampNeg x1) (va_cpy (dn (Int32.toNatClampNeg x1)) (rn (Int32.toNatClampNeg x1)) (Int32.toNatClampNeg 0) (Int32.toNatClampNeg 0) (Int32.toNatClampNeg (Int32.ofNat 65)))) (Int32.toNatClampNeg x1)) (Int32.toNatClampNeg 1) u_32))))) rfl rfl rfl rfl rfl rfl rfl (in_lt i_5)
  have hP : va_P D vwCl ((wX4_0_1_2_3_4_5_6_7_8_9_10_11_12_13_14_15_16_17_18 cy ad p4 mp kn dd rd dn (va_up (va_up rn (Int32.toNatClampNeg x1) (va_cpy (dn (Int32.toNatClampNeg x1)) (rn (Int32.toNatClampNeg x1)) (Int32.toNatClampNeg 0) (Int32.toNatClampNeg 0) (Int32.toNatClampNeg (Int32.ofNat 65)))) (Int32.toNatClampNeg x1) (upd ((va_up rn (Int32.toNatClampNeg x1) (va_cpy (dn (Int32.toNatClampNeg x1)) (rn (Int32.toNatClampNeg x1)) (Int32.toNatClampNeg 0) (Int32.toNatClampNeg 0) (Int32.toNatClampNeg (Int32.ofNat 65)))) (Int32.toNatClampNeg x1)) (Int32.toNatClampNeg 1) u_32)))) H := P_cast hset hP
  have hD : va_D A ((wX4_0_1_2_3_4_5_6_7_8_9_10_11_12_13_14_15_16_17_18 cy ad p4 mp kn dd rd dn (va_up (va_up rn (Int32.toNatClampNeg x1) (va_cpy (dn (Int32.toNatClampNeg x1)) (rn (Int32.toNatClampNeg x1)) (Int32.toNatClampNeg 0) (Int32.toNatClampNeg 0) (Int32.toNatClampNeg (Int32.ofNat 65)))) (Int32.toNatClampNeg x1) (upd ((va_up rn (Int32.toNatClampNeg x1) (va_cpy (dn (Int32.toNatClampNeg x1)) (rn (Int32.toNatClampNeg x1)) (Int32.toNatClampNeg 0) (Int32.toNatClampNeg 0) (Int32.toNatClampNeg (Int32.ofNat 65)))) (Int32.toNatClampNeg x1)) (Int32.toNatClampNeg 1) u_32)))) := D_cast hset hD
  clear hset
  refine lv_aload_n hx hb dX4_divideOut_36 rfl (lv_at hl 1 rfl) ?_
  refine va_get (a := (ad 0)) (ci := 4) (v := .ref (ad 4)) (C := RX4) (T := TX4) (N := 7) hx hb hts hin_X4 hown hK hP 0 rfl rfl 4 (by decide) hw_0 (fun _ h => h) rfl dX4_divideOut_37 ?_
  refine lv_iload_n hx hb dX4_divideOut_40 rfl (lv_at hl 2 rfl) ?_
  refine lv_aload_n hx hb dX4_divideOut_41 rfl (lv_at hl 1 rfl) ?_
  refine va_get (a := (ad 0)) (ci := 4) (v := .ref (ad 2)) (C := RX4) (T := TX4) (N := 7) hx hb hts hin_X4 hown hK hP 0 rfl rfl 2 (by decide) hw_8 (fun _ h => h) rfl dX4_divideOut_42 ?_
  refine lv_iload_n hx hb dX4_divideOut_45 rfl (lv_at hl 2 rfl) ?_
  replace hf := gi_e hf
  obtain ⟨i_46, hf⟩ := hf
  refine va_iald (a := (ad 2)) hx hb hK hP 2 0 rfl rfl i_46 dX4_divideOut_46 ?_
  replace hf := gi_e hf
  obtain ⟨i_47, hf⟩ := hf
  refine va_iast (a := (ad 4)) hx hb hK hP hD hS 4 0 rfl rfl i_47 dX4_divideOut_47 (fun H locs hP hD hS => ?_)
  have hP : va_P D vwCl ((wX4_0_1_2_3_4_5_6_7_8_9_10_11_12_13_14_15_16_17_18 cy ad p4 mp kn dd (upd rd (Int32.toNatClampNeg x1) (dd (Int32.toNatClampNeg x1))) dn (va_up (va_up rn (Int32.toNatClampNeg x1) (va_cpy (dn (Int32.toNatClampNeg x1)) (rn (Int32.toNatClampNeg x1)) (Int32.toNatClampNeg 0) (Int32.toNatClampNeg 0) (Int32.toNatClampNeg (Int32.ofNat 65)))) (Int32.toNatClampNeg x1) (upd ((va_up rn (Int32.toNatClampNeg x1) (va_cpy (dn (Int32.toNatClampNeg x1)) (rn (Int32.toNatClampNeg x1)) (Int32.toNatClampNeg 0) (Int32.toNatClampNeg 0) (Int32.toNatClampNeg (Int32.ofNat 65)))) (Int32.toNatClampNeg x1)) (Int32.toNatClampNeg 1) u_32)))) H := hP
  have hD : va_D A ((wX4_0_1_2_3_4_5_6_7_8_9_10_11_12_13_14_15_16_17_18 cy ad p4 mp kn dd (upd rd (Int32.toNatClampNeg x1) (dd (Int32.toNatClampNeg x1))) dn (va_up (va_up rn (Int32.toNatClampNeg x1) (va_cpy (dn (Int32.toNatClampNeg x1)) (rn (Int32.toNatClampNeg x1)) (Int32.toNatClampNeg 0) (Int32.toNatClampNeg 0) (Int32.toNatClampNeg (Int32.ofNat 65)))) (Int32.toNatClampNeg x1) (upd ((va_up rn (Int32.toNatClampNeg x1) (va_cpy (dn (Int32.toNatClampNeg x1)) (rn (Int32.toNatClampNeg x1)) (Int32.toNatClampNeg 0) (Int32.toNatClampNeg 0) (Int32.toNatClampNeg (Int32.ofNat 65)))) (Int32.toNatClampNeg x1)) (Int32.toNatClampNeg 1) u_32)))) := hD
  refine lv_iconst (v := 1) hx hb dX4_divideOut_48 (by decide) ?_
  refine lv_istore_n (lv' := [(3, .int 1), (2, .ref (ad (12 + (Int32.toNatClampNeg x1)))), (0, .ref (ad 0)), (1, .int x1)]) hx hb dX4_divideOut_49 rfl hl (by decide) rfl (fun ls hl => ?_)
  exact L50 FU H locs ls 1 (upd rd (Int32.toNatClampNeg x1) (dd (Int32.toNatClampNeg x1))) (va_up (va_up rn (Int32.toNatClampNeg x1) (va_cpy (dn (Int32.toNatClampNeg x1)) (rn (Int32.toNatClampNeg x1)) (Int32.toNatClampNeg 0) (Int32.toNatClampNeg 0) (Int32.toNatClampNeg (Int32.ofNat 65)))) (Int32.toNatClampNeg x1) (upd ((va_up rn (Int32.toNatClampNeg x1) (va_cpy (dn (Int32.toNatClampNeg x1)) (rn (Int32.toNatClampNeg x1)) (Int32.toNatClampNeg 0) (Int32.toNatClampNeg 0) (Int32.toNatClampNeg (Int32.ofNat 65)))) (Int32.toNatClampNeg x1)) (Int32.toNatClampNeg 1) u_32)) (in_lt i_5) hf hP hD hS (lv_sub hl [2, 3, 1, 0] rfl)
def FX4_prepare_L25 (am : Nat → Nat)  (x2 : Int32) (p4 : Int32) (mp_25 : Option Nat) (m_pn : Nat) (m_pp : Int32) (m_pd : Int32) (m_pc : Nat → Int32) : Nat → Int32 → Int32 → (Nat → Int32) → (Nat → Int32) → (Nat → Nat → Int32) → (Nat → Nat → Int32) → Option ((Option Nat) × (Int32) × (Nat → Int32) × (Nat → Int32) × (Nat → Nat → Int32) × (Nat → Nat → Int32))
  | 0, _, _, _, _, _, _ => none
  | fuel + 1, x3_25, kn_25, dd_25, rd_25, dn_25, rn_25 => (if x2 < x3_25 then (some (mp_25, kn_25, dd_25, rd_25, dn_25, rn_25)) else (if 6 < x3_25 then (some (mp_25, kn_25, dd_25, rd_25, dn_25, rn_25)) else (gd (mp_25 = some (am 0)) (gi (x3_25 - 1) 7 (gi (x3_25 - 1) 7 (gi x3_25 7 (gd (¬ (Int32.toNatClampNeg (x3_25 - 1)) = (Int32.toNatClampNeg x3_25)) (ob (FX2_putOver m_pn m_pp m_pd m_pc 65 (dn_25 (Int32.toNatClampNeg (x3_25 - 1))) 65 (dn_25 (Int32.toNatClampNeg x3_25)) (dd_25 (Int32.toNatClampNeg (x3_25 - 1)))) (fun u_62 => gi (x3_25 - 1) 7 (gd (mp_25 = some (am 0)) (gi x3_25 7 (ob (FX4_divideOut p4 (upd dd_25 (Int32.toNatClampNeg x3_25) ((dd_25 (Int32.toNatClampNeg (x3_25 - 1))) * m_pd)) rd_25 (va_up dn_25 (Int32.toNatClampNeg x3_25) u_62) rn_25 x3_25) (fun u_89 => bd (x3_25 + 1) (fun v_97 => (FX4_prepare_L25 am x2 p4 mp_25 m_pn m_pp m_pd m_pc fuel) v_97 x3_25 (upd dd_25 (Int32.toNatClampNeg x3_25) ((dd_25 (Int32.toNatClampNeg (x3_25 - 1))) * m_pd)) u_89.1 (va_up dn_25 (Int32.toNatClampNeg x3_25) u_62) u_89.2))))))))))))))
def FX4_prepare_J18 (am : Nat → Nat)  (x2 : Int32) (p4 : Int32) (mp_18 : Option Nat) (kn_18 : Int32) (dd_18 : Nat → Int32) (rd_18 : Nat → Int32) (dn_18 : Nat → Nat → Int32) (rn_18 : Nat → Nat → Int32) (m_pn : Nat) (m_pp : Int32) (m_pd : Int32) (m_pc : Nat → Int32) : Option ((Option Nat) × (Int32) × (Nat → Int32) × (Nat → Int32) × (Nat → Nat → Int32) × (Nat → Nat → Int32)) := (bd (kn_18 + 1) (fun v_24 => FX4_prepare_L25 am x2 p4 mp_18 m_pn m_pp m_pd m_pc FU v_24 kn_18 dd_18 rd_18 dn_18 rn_18))
def FX4_prepare (am : Nat → Nat) (p4 : Int32) (mp : Option Nat) (kn : Int32) (dd : Nat → Int32) (rd : Nat → Int32) (dn : Nat → Nat → Int32) (rn : Nat → Nat → Int32) (m_pn : Nat) (m_pp : Int32) (m_pd : Int32) (m_pc : Nat → Int32) (x2 : Int32) : Option ((Option Nat) × (Int32) × (Nat → Int32) × (Nat → Int32) × (Nat → Nat → Int32) × (Nat → Nat → Int32)) := (if mp = (some (am 0)) then FX4_prepare_J18 am x2 p4 mp kn dd rd dn rn m_pn m_pp m_pd m_pc else (FX4_prepare_J18 am x2 p4 (some (am 0)) 0 dd rd dn rn m_pn m_pp m_pd m_pc))
abbrev RMX4_prepare : Room := { frames := 3, cells := 0, slots := 0, locals := 76 }
set_option maxHeartbeats 4000000 in
set_option maxRecDepth 100000 in
theorem KX4_prepare (l : Launch) (D : va_G) (cy : Nat → ClassId) (ad : Nat → Nat) (am : Nat → Nat) (p4 : Int32) (mp : Option Nat) (kn : Int32) (dd : Nat → Int32) (rd : Nat → Int32) (dn : Nat → Nat → Int32) (rn : Nat → Nat → Int32) (m_pn : Nat) (m_pp : Int32) (m_pd : Int32) (m_pt : Int32) (m_pc : Nat → Int32) (x2 : Int32) (sz : Nat) {out : (Option Nat) × (Int32) × (Nat → Int32) × (Nat → Int32) × (Nat → Nat → Int32) × (Nat → Nat → Int32)} (hf : FX4_prepare am p4 mp kn dd rd dn rn m_pn m_pp m_pd m_pc x2 = some out) : Met l yX4_prepare wsX4_prepare RMX4_prepare (PW D cy [.ref (ad 0), .ref (am 0), .int x2] sz ((wX4_0_1_2_3_4_5_6_7_8_9_10_11_12_13_14_15_16_17_18 cy ad p4 mp kn dd rd dn rn)) ((wX2_0_1 cy am m_pn m_pp m_pd m_pt m_pc))) (QW D none ((wX4_0_1_2_3_4_5_6_7_8_9_10_11_12_13_14_15_16_17_18 cy ad p4 out.1 out.2.1 out.2.2.1 out.2.2.2.1 out.2.2.2.2.1 out.2.2.2.2.2)) (va_A ((wX4_0_1_2_3_4_5_6_7_8_9_10_11_12_13_14_15_16_17_18 cy ad p4 mp kn dd rd dn rn)) sz)) 0 0 (va_A ((wX4_0_1_2_3_4_5_6_7_8_9_10_11_12_13_14_15_16_17_18 cy ad p4 mp kn dd rd dn rn)) sz) := by
  refine Met.ofW (cc := cX4_prepare) (maxL := 4) (ret := none) (by decide +kernel) rfl ?_
  intro p e s m args below meth c s₁ B hml hv
  obtain ⟨hav, hsz, hP, hR0, hK, hN, hD0, hsep⟩ := hv
  have hx := B.exec
  have hb := B.bytes
  have hr := B.returns
  have hts := atoms_spec (ws := wsX4_prepare) B.pre
  have hown : s.vm.findClass RX4 = some m.cls := findClass_of_methodNamed B.named
  have hlocks := B.notSynchronized
  subst hsz
  have hin_X2 : ∀ w ∈ u_ws RX2 TX2 4, w ∈ wsX4_prepare := by decide +kernel
  have hin_X4 : ∀ w ∈ u_ws RX4 TX4 7, w ∈ wsX4_prepare := by decide +kernel
  have hw_0 := hts (.fieldLink RX4 30 "ReturnPoints$Rounds" "map" "LReturnPoints$Poly;") (by decide +kernel)
  have hw_1 := hts (.fieldLink RX4 17 "ReturnPoints$Rounds" "done" "[[I") (by decide +kernel)
  have hw_2 := hts (.fieldLink RX4 20 "ReturnPoints$Rounds" "doneDegree" "[I") (by decide +kernel)
  have hw_3 := hts (.fieldLink RX4 43 "ReturnPoints$Poly" "degree" "I") (by decide +kernel)
  have hw_4 := hts (.fieldLink RX4 34 "ReturnPoints$Rounds" "known" "I") (by decide +kernel)
  have hD := hD0.self (sz := s.heap.size)
  have hnA := roA hsep hR0
  generalize hAe : va_A ((wX4_0_1_2_3_4_5_6_7_8_9_10_11_12_13_14_15_16_17_18 cy ad p4 mp kn dd rd dn rn)) s.heap.size = A at hD hnA ⊢
  have hA : ∀ q : Nat, s.heap.size ≤ q → A q := fun q h => by rw [← hAe]; exact Or.inr h
  have hS : va_S A s.heap s.heap [] := va_S.rf
  obtain ⟨ls, hfr, hl⟩ := ent_ok (m := m) (n := 4) (l' := [(0, .ref (ad 0)), (1, .ref (am 0)), (2, .int x2)]) [.ref (ad 0), .ref (am 0), .int x2] hav (Nat.le_of_ble_eq_true rfl) rfl
  rw [hfr]
  generalize hQe : MQ below (QW D none ((wX4_0_1_2_3_4_5_6_7_8_9_10_11_12_13_14_15_16_17_18 cy ad p4 out.1 out.2.1 out.2.2.1 out.2.2.2.1 out.2.2.2.2.1 out.2.2.2.2.2)) A) args s 0 0 A = QQ
  change W p l e RMX4_prepare s m args below meth c s.heap [] 0 0 QQ (F0 m 0 ls [])
  have hP : va_P D vwCl ((wX4_0_1_2_3_4_5_6_7_8_9_10_11_12_13_14_15_16_17_18 cy ad p4 mp kn dd rd dn rn)) s.heap := hP
  have hD : va_D A ((wX4_0_1_2_3_4_5_6_7_8_9_10_11_12_13_14_15_16_17_18 cy ad p4 mp kn dd rd dn rn)) := hD
  suffices h00 : ∀ (H : Heap) (locs : List Loc), va_P D vwCl ((wX4_0_1_2_3_4_5_6_7_8_9_10_11_12_13_14_15_16_17_18 cy ad p4 mp kn dd rd dn rn)) H → va_S A s.heap H locs → W p l e RMX4_prepare s m args below meth c H locs 0 0 QQ (F0 m 0 ls []) from h00 _ _ hP hS
  clear hP hS
  intro H locs hP hS
  have L25 : ∀ (mp_25 : Option Nat) (n25 : Nat) (H : Heap) (locs : List Loc) (ls : Array Slot) (x3_25 : Int32) (kn_25 : Int32) (dd_25 : Nat → Int32) (rd_25 : Nat → Int32) (dn_25 : Nat → Nat → Int32) (rn_25 : Nat → Nat → Int32), FX4_prepare_L25 am x2 p4 mp_25 m_pn m_pp m_pd m_pc n25 x3_25 kn_25 dd_25 rd_25 dn_25 rn_25 = some out → va_P D vwCl ((wX4_0_1_2_3_4_5_6_7_8_9_10_11_12_13_14_15_16_17_18 cy ad p4 mp_25 kn_25 dd_25 rd_25 dn_25 rn_25)) H → va_D A ((wX4_0_1_2_3_4_5_6_7_8_9_10_11_12_13_14_15_16_17_18 cy ad p4 mp_25 kn_25 dd_25 rd_25 dn_25 rn_25)) → va_S A s.heap H locs → lv_has ls 4 [(0, .ref (ad 0)), (2, .int x2), (3, .int x3_25)] → W p l e RMX4_prepare s m args below meth c H locs 0 0 QQ (F0 m 25 ls []) := by
    intro mp_25 n25
    induction n25 with
    | zero => intro H locs ls x3_25 kn_25 dd_25 rd_25 dn_25 rn_25 hf; simp [FX4_prepare_L25] at hf
    | succ n25 ih25 =>
      intro H locs ls x3_25 kn_25 dd_25 rd_25 dn_25 rn_25 hf hP hD hS hl
      rw [FX4_prepare_L25] at hf
      refine lv_iload_n hx hb dX4_prepare_25 rfl (lv_at hl 2 rfl) ?_
      refine lv_iload_n hx hb dX4_prepare_26 rfl (lv_at hl 1 rfl) ?_
      refine lv_icmp_gt (tgt := 103) hx hb dX4_prepare_27 (by decide) (fun c_27 => ?_) (fun c_27 => ?_)
      · replace hf := it_p c_27 hf
        obtain rfl := Option.some.inj hf
        rw [← hQe]
        exact W.vret hx hb hr (fun t ht hW => ⟨rfl, by rw [ht]; exact hP, hS.F ht⟩) hS.2.2 dX4_prepare_103
      · replace hf := it_n c_27 hf
        refine lv_iload_n hx hb dX4_prepare_30 rfl (lv_at hl 2 rfl) ?_
        refine lv_bipush (v := 6) hx hb dX4_prepare_31 (by decide) ?_
        refine lv_icmp_gt (tgt := 103) hx hb dX4_prepare_33 (by decide) (fun c_33 => ?_) (fun c_33 => ?_)
        · replace hf := it_p c_33 hf
          obtain rfl := Option.some.inj hf
          rw [← hQe]
          exact W.vret hx hb hr (fun t ht hW => ⟨rfl, by rw [ht]; exact hP, hS.F ht⟩) hS.2.2 dX4_prepare_103
        · replace hf := it_n c_33 hf
          refine lv_aload_n hx hb dX4_prepare_36 rfl (lv_at hl 0 rfl) ?_
          replace hf := gd_e hf
          obtain ⟨rk_37, hf⟩ := hf
          refine va_get (a := (ad 0)) (ci := 4) (v := va_rf mp_25) (C := RX4) (T := TX4) (N := 7) hx hb hts hin_X4 hown hK hP 0 rfl rfl 5 (by decide) hw_0 (fun _ h => h) rfl dX4_prepare_37 ?_
          refine as_ref rk_37 ?_
          refine lv_aload_n hx hb dX4_prepare_40 rfl (lv_at hl 0 rfl) ?_
          refine va_get (a := (ad 0)) (ci := 4) (v := .ref (ad 1)) (C := RX4) (T := TX4) (N := 7) hx hb hts hin_X4 hown hK hP 0 rfl rfl 1 (by decide) hw_1 (fun _ h => h) rfl dX4_prepare_41 ?_
          refine lv_iload_n hx hb dX4_prepare_44 rfl (lv_at hl 2 rfl) ?_
          refine lv_iconst (v := 1) hx hb dX4_prepare_45 (by decide) ?_
          refine lv_isub hx hb dX4_prepare_46 ?_
          replace hf := gi_e hf
          obtain ⟨i_47, hf⟩ := hf
          refine va_aldI (a := (ad 1)) (ad := ad) (k := 5) hx hb hK hP 1 5 rfl rfl i_47 dX4_prepare_47 ?_
          refine lv_aload_n hx hb dX4_prepare_48 rfl (lv_at hl 0 rfl) ?_
          refine va_get (a := (ad 0)) (ci := 4) (v := .ref (ad 2)) (C := RX4) (T := TX4) (N := 7) hx hb hts hin_X4 hown hK hP 0 rfl rfl 2 (by decide) hw_2 (fun _ h => h) rfl dX4_prepare_49 ?_
          refine lv_iload_n hx hb dX4_prepare_52 rfl (lv_at hl 2 rfl) ?_
          refine lv_iconst (v := 1) hx hb dX4_prepare_53 (by decide) ?_
          refine lv_isub hx hb dX4_prepare_54 ?_
          replace hf := gi_e hf
          obtain ⟨i_55, hf⟩ := hf
          refine va_iald (a := (ad 2)) hx hb hK hP 2 0 rfl rfl i_55 dX4_prepare_55 ?_
          refine lv_aload_n hx hb dX4_prepare_56 rfl (lv_at hl 0 rfl) ?_
          refine va_get (a := (ad 0)) (ci := 4) (v := .ref (ad 1)) (C := RX4) (T := TX4) (N := 7) hx hb hts hin_X4 hown hK hP 0 rfl rfl 1 (by decide) hw_1 (fun _ h => h) rfl dX4_prepare_57 ?_
          refine lv_iload_n hx hb dX4_prepare_60 rfl (lv_at hl 2 rfl) ?_
          replace hf := gi_e hf
          obtain ⟨i_61, hf⟩ := hf
          refine va_aldI (a := (ad 1)) (ad := ad) (k := 5) hx hb hK hP 1 5 rfl rfl i_61 dX4_prepare_61 ?_
          replace hf := gd_e hf
          obtain ⟨ne_62, hf⟩ := hf
          replace hf := ob_e hf
          obtain ⟨u_62, hu_62, hf⟩ := hf
          have hR := roN hR0 hnA hS
          have hR := roN hR0 hnA hS
          refine ivW (As := [.ref (ad (5 + (Int32.toNatClampNeg (x3_25 - 1)))), .int (dd_25 (Int32.toNatClampNeg (x3_25 - 1))), .ref (ad (5 + (Int32.toNatClampNeg x3_25)))]) (rest := []) (st1 := []) (is := [(5 + (Int32.toNatClampNeg x3_25))]) (w1 := (waI cy (ad (5 + (Int32.toNatClampNeg x3_25))) 65 u_62)) ⟨hx, hb, hml, hown, hts⟩ hK hN (KX2_putOver l D cy am (ad (5 + (Int32.toNatClampNeg (x3_25 - 1)))) (ad (5 + (Int32.toNatClampNeg x3_25))) m_pn m_pp m_pd m_pt m_pc 65 (dn_25 (Int32.toNatClampNeg (x3_25 - 1))) 65 (dn_25 (Int32.toNatClampNeg x3_25)) (dd_25 (Int32.toNatClampNeg (x3_25 - 1))) H.size hu_62) (cwV 3 hts gX4_prepare_X2_putOver rfl rfl rfl (by decide +kernel) ⟨Nat.le_of_ble_eq_true rfl, Nat.le_of_ble_eq_true rfl⟩) (va_recv hK hR (ci := 2) (q0 := 0) rfl rfl) hP hD hS hA (va_P.app (P_pl (wc := (wX2_0_1 cy am m_pn m_pp m_pd m_pt m_pc)) (is := [0, 1]) hR rfl) (P_pl (wc := (waI cy (ad (5 + (Int32.toNatClampNeg (x3_25 - 1)))) 65 (dn_25 (Int32.toNatClampNeg (x3_25 - 1))))) (is := [(5 + (Int32.toNatClampNeg (x3_25 - 1)))]) hP (congrArg (fun x => [x]) (row7 (P := fun k => ((wX4_0_1_2_3_4_5_6_7_8_9_10_11_12_13_14_15_16_17_18 cy ad p4 mp_25 kn_25 dd_25 rd_25 dn_25 rn_25))[5 + k]? = some (ad (5 + k), .inl (cy 0, 65, .inl (dn_25 k)))) rfl rfl rfl rfl rfl rfl rfl (in_lt i_47))))) (sep_ap (sep_nA (is := [(5 + (Int32.toNatClampNeg x3_25))]) (isR := [0, 1]) hnA hD rfl (congrArg (fun x => [x]) (row7 (P := fun k => ((wX4_0_1_2_3_4_5_6_7_8_9_10_11_12_13_14_15_16_17_18 cy ad p4 mp_25 kn_25 dd_25 rd_25 dn_25 rn_25))[5 + k]? = some (ad (5 + k), .inl (cy 0, 65, .inl (dn_25 k)))) rfl rfl rfl rfl rfl rfl rfl (in_lt i_61)))) (sep_D (is := [(5 + (Int32.toNatClampNeg x3_25))]) (isR := [(5 + (Int32.toNatClampNeg (x3_25 - 1)))]) hD (congrArg (fun x => [x]) (row7 (P := fun k => ((wX4_0_1_2_3_4_5_6_7_8_9_10_11_12_13_14_15_16_17_18 cy ad p4 mp_25 kn_25 dd_25 rd_25 dn_25 rn_25))[5 + k]? = some (ad (5 + k), .inl (cy 0, 65, .inl (dn_25 k)))) rfl rfl rfl rfl rfl rfl rfl (in_lt i_47))) (congrArg (fun x => [x]) (row7 (P := fun k => ((wX4_0_1_2_3_4_5_6_7_8_9_10_11_12_13_14_15_16_17_18 cy ad p4 mp_25 kn_25 dd_25 rd_25 dn_25 rn_25))[5 + k]? = some (ad (5 + k), .inl (cy 0, 65, .inl (dn_25 k)))) rfl rfl rfl rfl rfl rfl rfl (in_lt i_61))) (by intro i hi; simp only [List.mem_cons, List.not_mem_nil, or_false] at hi ⊢; omega))) (by simp [va_nd]) (congrArg (fun x => [x]) (row7 (P := fun k => ((wX4_0_1_2_3_4_5_6_7_8_9_10_11_12_13_14_15_16_17_18 cy ad p4 mp_25 kn_25 dd_25 rd_25 dn_25 rn_25))[5 + k]? = some (ad (5 + k), .inl (cy 0, 65, .inl (dn_25 k)))) rfl rfl rfl rfl rfl rfl rfl (in_lt i_61))) rfl rfl hl.1 rfl (Nat.le_of_ble_eq_true rfl) rfl dX4_prepare_62 ⟨Nat.zero_le _, Nat.zero_le _⟩ (fun H locs hP hD hS => ?_)
          have hset : (((wX4_0_1_2_3_4_5_6_7_8_9_10_11_12_13_14_15_16_17_18 cy ad p4 mp_25 kn_25 dd_25 rd_25 dn_25 rn_25))).set (5 + (Int32.toNatClampNeg x3_25)) (ad (5 + (Int32.toNatClampNeg x3_25)), .inl (cy 0, 65, .inl u_62)) = ((wX4_0_1_2_3_4_5_6_7_8_9_10_11_12_13_14_15_16_17_18 cy ad p4 mp_25 kn_25 dd_25 rd_25 (va_up dn_25 (Int32.toNatClampNeg x3_25) u_62) rn_25)) := row7 (P := fun k => (((wX4_0_1_2_3_4_5_6_7_8_9_10_11_12_13_14_15_16_17_18 cy ad p4 mp_25 kn_25 dd_25 rd_25 dn_25 rn_25))).set (5 + k) (ad (5 + k), .inl (cy 0, 65, .inl u_62)) = ((wX4_0_1_2_3_4_5_6_7_8_9_10_11_12_13_14_15_16_17_18 cy ad p4 mp_25 kn_25 dd_25 rd_25 (va_up dn_25 k u_62) rn_25))) rfl rfl rfl rfl rfl rfl rfl (in_lt i_61)
          have hP : va_P D vwCl ((wX4_0_1_2_3_4_5_6_7_8_9_10_11_12_13_14_15_16_17_18 cy ad p4 mp_25 kn_25 dd_25 rd_25 (va_up dn_25 (Int32.toNatClampNeg x3_25) u_62) rn_25)) H := P_cast hset hP
          have hD : va_D A ((wX4_0_1_2_3_4_5_6_7_8_9_10_11_12_13_14_15_16_17_18 cy ad p4 mp_25 kn_25 dd_25 rd_25 (va_up dn_25 (Int32.toNatClampNeg x3_25) u_62) rn_25)) := D_cast hset hD
          clear hset
          refine lv_aload_n hx hb dX4_prepare_65 rfl (lv_at hl 0 rfl) ?_
          refine va_get (a := (ad 0)) (ci := 4) (v := .ref (ad 2)) (C := RX4) (T := TX4) (N := 7) hx hb hts hin_X4 hown hK hP 0 rfl rfl 2 (by decide) hw_2 (fun _ h => h) rfl dX4_prepare_66 ?_
          refine lv_iload_n hx hb dX4_prepare_69 rfl (lv_at hl 2 rfl) ?_
          refine lv_aload_n hx hb dX4_prepare_70 rfl (lv_at hl 0 rfl) ?_
          refine va_get (a := (ad 0)) (ci := 4) (v := .ref (ad 2)) (C := RX4) (T := TX4) (N := 7) hx hb hts hin_X4 hown hK hP 0 rfl rfl 2 (by decide) hw_2 (fun _ h => h) rfl dX4_prepare_71 ?_
          refine lv_iload_n hx hb dX4_prepare_74 rfl (lv_at hl 2 rfl) ?_
          refine lv_iconst (v := 1) hx hb dX4_prepare_75 (by decide) ?_
          refine lv_isub hx hb dX4_prepare_76 ?_
          replace hf := gi_e hf
          obtain ⟨i_77, hf⟩ := hf
          refine va_iald (a := (ad 2)) hx hb hK hP 2 0 rfl rfl i_77 dX4_prepare_77 ?_
          refine lv_aload_n hx hb dX4_prepare_78 rfl (lv_at hl 0 rfl) ?_
          replace hf := gd_e hf
          obtain ⟨rk_79, hf⟩ := hf
          refine va_get (a := (ad 0)) (ci := 4) (v := va_rf mp_25) (C := RX4) (T := TX4) (N := 7) hx hb hts hin_X4 hown hK hP 0 rfl rfl 5 (by decide) hw_0 (fun _ h => h) rfl dX4_prepare_79 ?_
          refine as_ref rk_79 ?_
          have hR := roN hR0 hnA hS
          refine va_get (a := (am 0)) (ci := 2) (v := .int m_pd) (C := RX2) (T := TX2) (N := 4) hx hb hts hin_X2 hown hK hR 0 rfl rfl 2 (by decide) hw_3 (fun _ h => h) rfl dX4_prepare_82 ?_
          refine lv_imul hx hb dX4_prepare_85 ?_
          replace hf := gi_e hf
          obtain ⟨i_86, hf⟩ := hf
          refine va_iast (a := (ad 2)) hx hb hK hP hD hS 2 0 rfl rfl i_86 dX4_prepare_86 (fun H locs hP hD hS => ?_)
          have hP : va_P D vwCl ((wX4_0_1_2_3_4_5_6_7_8_9_10_11_12_13_14_15_16_17_18 cy ad p4 mp_25 kn_25 (upd dd_25 (Int32.toNatClampNeg x3_25) ((dd_25 (Int32.toNatClampNeg (x3_25 - 1))) * m_pd)) rd_25 (va_up dn_25 (Int32.toNatClampNeg x3_25) u_62) rn_25)) H := hP
          have hD : va_D A ((wX4_0_1_2_3_4_5_6_7_8_9_10_11_12_13_14_15_16_17_18 cy ad p4 mp_25 kn_25 (upd dd_25 (Int32.toNatClampNeg x3_25) ((dd_25 (Int32.toNatClampNeg (x3_25 - 1))) * m_pd)) rd_25 (va_up dn_25 (Int32.toNatClampNeg x3_25) u_62) rn_25)) := hD
          refine lv_aload_n hx hb dX4_prepare_87 rfl (lv_at hl 0 rfl) ?_
          refine lv_iload_n hx hb dX4_prepare_88 rfl (lv_at hl 2 rfl) ?_
          replace hf := ob_e hf
          obtain ⟨u_89, hu_89, hf⟩ := hf
          refine ivW (As := [.int x3_25]) (rest := []) (st1 := []) (is := [0, 1, 2, 3, 4, 5, 6, 7, 8, 9, 10, 11, 12, 13, 14, 15, 16, 17, 18]) (w1 := (wX4_0_1_2_3_4_5_6_7_8_9_10_11_12_13_14_15_16_17_18 cy ad p4 mp_25 kn_25 (upd dd_25 (Int32.toNatClampNeg x3_25) ((dd_25 (Int32.toNatClampNeg (x3_25 - 1))) * m_pd)) u_89.1 (va_up dn_25 (Int32.toNatClampNeg x3_25) u_62) u_89.2)) ⟨hx, hb, hml, hown, hts⟩ hK hN (KX4_divideOut l D cy ad p4 mp_25 kn_25 (upd dd_25 (Int32.toNatClampNeg x3_25) ((dd_25 (Int32.toNatClampNeg (x3_25 - 1))) * m_pd)) rd_25 (va_up dn_25 (Int32.toNatClampNeg x3_25) u_62) rn_25 x3_25 H.size hu_89) (cwV 1 hts gX4_prepare_X4_divideOut rfl rfl rfl (by decide +kernel) ⟨Nat.le_of_ble_eq_true rfl, Nat.le_of_ble_eq_true rfl⟩) (va_recv hK hP (ci := 4) (q0 := 0) rfl rfl) hP hD hS hA P_nil (sepW_nil _) (by decide) rfl rfl rfl hl.1 rfl (Nat.le_of_ble_eq_true rfl) rfl dX4_prepare_89 ⟨Nat.zero_le _, Nat.zero_le _⟩ (fun H locs hP hD hS => ?_)
          have hP : va_P D vwCl ((wX4_0_1_2_3_4_5_6_7_8_9_10_11_12_13_14_15_16_17_18 cy ad p4 mp_25 kn_25 (upd dd_25 (Int32.toNatClampNeg x3_25) ((dd_25 (Int32.toNatClampNeg (x3_25 - 1))) * m_pd)) u_89.1 (va_up dn_25 (Int32.toNatClampNeg x3_25) u_62) u_89.2)) H := hP
          have hD : va_D A ((wX4_0_1_2_3_4_5_6_7_8_9_10_11_12_13_14_15_16_17_18 cy ad p4 mp_25 kn_25 (upd dd_25 (Int32.toNatClampNeg x3_25) ((dd_25 (Int32.toNatClampNeg (x3_25 - 1))) * m_pd)) u_89.1 (va_up dn_25 (Int32.toNatClampNeg x3_25) u_62) u_89.2)) := hD
          refine lv_aload_n hx hb dX4_prepare_92 rfl (lv_at hl 0 rfl) ?_
          refine lv_iload_n hx hb dX4_prepare_93 rfl (lv_at hl 2 rfl) ?_
          refine va_put (a := (ad 0)) (ci := 4) (v := .int x3_25) (ty := .int) (C := RX4) (T := TX4) (N := 7) hx hb hts hin_X4 tyX4 tyX4_ok nmX4 hown hK hP hD hS 0 rfl rfl 6 (by decide) hw_4 (fun _ h => h) rfl (by decide +kernel) rfl rfl (Nat.le_of_ble_eq_true rfl) dX4_prepare_94 (fun H locs hP hD hS => ?_)
          have hP : va_P D vwCl ((wX4_0_1_2_3_4_5_6_7_8_9_10_11_12_13_14_15_16_17_18 cy ad p4 mp_25 x3_25 (upd dd_25 (Int32.toNatClampNeg x3_25) ((dd_25 (Int32.toNatClampNeg (x3_25 - 1))) * m_pd)) u_89.1 (va_up dn_25 (Int32.toNatClampNeg x3_25) u_62) u_89.2)) H := hP
          have hD : va_D A ((wX4_0_1_2_3_4_5_6_7_8_9_10_11_12_13_14_15_16_17_18 cy ad p4 mp_25 x3_25 (upd dd_25 (Int32.toNatClampNeg x3_25) ((dd_25 (Int32.toNatClampNeg (x3_25 - 1))) * m_pd)) u_89.1 (va_up dn_25 (Int32.toNatClampNeg x3_25) u_62) u_89.2)) := hD
          obtain ⟨v_97, e_97⟩ : ∃ y : Int32, y = x3_25 + 1 := ⟨_, rfl⟩
          replace hf := bd_at e_97 hf
          refine lv_iinc (v := v_97) (lv' := [(3, .int v_97), (0, .ref (ad 0)), (2, .int x2)]) hx hb dX4_prepare_97 hl (k := 2) rfl (by rw [e_97]; rfl) (by decide) rfl (fun ls hl => ?_)
          clear e_97
          refine lv_goto (tgt := 25) hx hb dX4_prepare_100 (by decide) ?_
          exact ih25 H locs ls v_97 x3_25 (upd dd_25 (Int32.toNatClampNeg x3_25) ((dd_25 (Int32.toNatClampNeg (x3_25 - 1))) * m_pd)) u_89.1 (va_up dn_25 (Int32.toNatClampNeg x3_25) u_62) u_89.2 hf hP hD hS (lv_sub hl [1, 2, 0] rfl)
  have J18 : ∀ (H : Heap) (locs : List Loc) (ls : Array Slot) (mp_18 : Option Nat) (kn_18 : Int32) (dd_18 : Nat → Int32) (rd_18 : Nat → Int32) (dn_18 : Nat → Nat → Int32) (rn_18 : Nat → Nat → Int32), FX4_prepare_J18 am x2 p4 mp_18 kn_18 dd_18 rd_18 dn_18 rn_18 m_pn m_pp m_pd m_pc = some out → va_P D vwCl ((wX4_0_1_2_3_4_5_6_7_8_9_10_11_12_13_14_15_16_17_18 cy ad p4 mp_18 kn_18 dd_18 rd_18 dn_18 rn_18)) H → va_D A ((wX4_0_1_2_3_4_5_6_7_8_9_10_11_12_13_14_15_16_17_18 cy ad p4 mp_18 kn_18 dd_18 rd_18 dn_18 rn_18)) → va_S A s.heap H locs → lv_has ls 4 [(0, .ref (ad 0)), (2, .int x2)] → W p l e RMX4_prepare s m args below meth c H locs 0 0 QQ (F0 m 18 ls []) := by
    intro H locs ls mp_18 kn_18 dd_18 rd_18 dn_18 rn_18 hf hP hD hS hl
    unfold FX4_prepare_J18 at hf
    refine lv_aload_n hx hb dX4_prepare_18 rfl (lv_at hl 0 rfl) ?_
    refine va_get (a := (ad 0)) (ci := 4) (v := .int kn_18) (C := RX4) (T := TX4) (N := 7) hx hb hts hin_X4 hown hK hP 0 rfl rfl 6 (by decide) hw_4 (fun _ h => h) rfl dX4_prepare_19 ?_
    refine lv_iconst (v := 1) hx hb dX4_prepare_22 (by decide) ?_
    refine lv_iadd hx hb dX4_prepare_23 ?_
    refine lv_topi (fun v_24 e_24 => ?_)
    replace hf := bd_at e_24 hf
    clear e_24
    refine lv_istore_n (lv' := [(3, .int v_24), (0, .ref (ad 0)), (2, .int x2)]) hx hb dX4_prepare_24 rfl hl (by decide) rfl (fun ls hl => ?_)
    exact L25 mp_18 FU H locs ls v_24 kn_18 dd_18 rd_18 dn_18 rn_18 hf hP hD hS (lv_sub hl [1, 2, 0] rfl)
  unfold FX4_prepare at hf
  refine lv_aload_n hx hb dX4_prepare_0 rfl (lv_at hl 0 rfl) ?_
  refine va_get (a := (ad 0)) (ci := 4) (v := va_rf mp) (C := RX4) (T := TX4) (N := 7) hx hb hts hin_X4 hown hK hP 0 rfl rfl 5 (by decide) hw_0 (fun _ h => h) rfl dX4_prepare_1 ?_
  refine lv_aload_n hx hb dX4_prepare_4 rfl (lv_at hl 1 rfl) ?_
  refine lv_acmp_eq (rx := mp) (ry := (some (am 0))) (tgt := 18) hx hb dX4_prepare_5 (by decide) (fun c_5 => ?_) (fun c_5 => ?_)
  · replace hf := it_p c_5 hf
    exact J18 H locs ls mp kn dd rd dn rn hf hP hD hS (lv_sub hl [0, 2] rfl)
  · replace hf := it_n c_5 hf
    refine lv_aload_n hx hb dX4_prepare_8 rfl (lv_at hl 0 rfl) ?_
    refine lv_aload_n hx hb dX4_prepare_9 rfl (lv_at hl 1 rfl) ?_
    refine va_put (a := (ad 0)) (ci := 4) (v := .ref (am 0)) (ty := .object "ReturnPoints$Poly") (C := RX4) (T := TX4) (N := 7) hx hb hts hin_X4 tyX4 tyX4_ok nmX4 hown hK hP hD hS 0 rfl rfl 5 (by decide) hw_0 (fun _ h => h) rfl (by decide +kernel) rfl rfl (Nat.le_of_ble_eq_true rfl) dX4_prepare_10 (fun H locs hP hD hS => ?_)
    have hP : va_P D vwCl ((wX4_0_1_2_3_4_5_6_7_8_9_10_11_12_13_14_15_16_17_18 cy ad p4 (some (am 0)) kn dd rd dn rn)) H := hP
    have hD : va_D A ((wX4_0_1_2_3_4_5_6_7_8_9_10_11_12_13_14_15_16_17_18 cy ad p4 (some (am 0)) kn dd rd dn rn)) := hD
    refine lv_aload_n hx hb dX4_prepare_13 rfl (lv_at hl 0 rfl) ?_
    refine lv_iconst (v := 0) hx hb dX4_prepare_14 (by decide) ?_
    refine va_put (a := (ad 0)) (ci := 4) (v := .int 0) (ty := .int) (C := RX4) (T := TX4) (N := 7) hx hb hts hin_X4 tyX4 tyX4_ok nmX4 hown hK hP hD hS 0 rfl rfl 6 (by decide) hw_4 (fun _ h => h) rfl (by decide +kernel) rfl rfl (Nat.le_of_ble_eq_true rfl) dX4_prepare_15 (fun H locs hP hD hS => ?_)
    have hP : va_P D vwCl ((wX4_0_1_2_3_4_5_6_7_8_9_10_11_12_13_14_15_16_17_18 cy ad p4 (some (am 0)) 0 dd rd dn rn)) H := hP
    have hD : va_D A ((wX4_0_1_2_3_4_5_6_7_8_9_10_11_12_13_14_15_16_17_18 cy ad p4 (some (am 0)) 0 dd rd dn rn)) := hD
    exact J18 H locs ls (some (am 0)) 0 dd rd dn rn hf hP hD hS (lv_sub hl [0, 2] rfl)
