def wX0_0 (cy : Nat → ClassId) (ad : Nat → Nat) (fl : Int32) (fu : Int32) (fw : Int32) : va_W := [(ad 0, .inr (0, [.ref (ad 2), .ref (ad 1), .int fl, .int fu, .int fw]))]
def wX0_0_1_2_3_4_5_6_7 (cy : Nat → ClassId) (ad : Nat → Nat) (n : Nat) (fl : Int32) (fu : Int32) (fw : Int32) (li : Nat → Int32) (osz : Int32) (nx : Nat → Int32) (tl : Nat → Int32) (pe : Nat → Int32) (en : Nat → Int32) (pa : Nat → Int32) : va_W := [(ad 0, .inr (0, [.ref (ad 2), .ref (ad 1), .int fl, .int fu, .int fw])), (ad 1, .inl (cy 0, n, .inl li)), (ad 2, .inr (1, [.int osz, .ref (ad 3), .ref (ad 4), .ref (ad 5), .ref (ad 6), .ref (ad 7)])), (ad 3, .inl (cy 0, n, .inl nx)), (ad 4, .inl (cy 0, n, .inl tl)), (ad 5, .inl (cy 0, n, .inl pe)), (ad 6, .inl (cy 0, n, .inl en)), (ad 7, .inl (cy 0, n, .inl pa))]
def wX0_0_1_2_4_5 (cy : Nat → ClassId) (ad : Nat → Nat) (n : Nat) (fl : Int32) (fu : Int32) (fw : Int32) (li : Nat → Int32) (osz : Int32) (tl : Nat → Int32) (pe : Nat → Int32) : va_W := [(ad 0, .inr (0, [.ref (ad 2), .ref (ad 1), .int fl, .int fu, .int fw])), (ad 1, .inl (cy 0, n, .inl li)), (ad 2, .inr (1, [.int osz, .ref (ad 3), .ref (ad 4), .ref (ad 5), .ref (ad 6), .ref (ad 7)])), (ad 4, .inl (cy 0, n, .inl tl)), (ad 5, .inl (cy 0, n, .inl pe))]
def FX0_image   (x1 : Int32) (x2 : Int32) (x3 : Int32) : Option (Int32) := (bd ((x3 * x3) + x1) (fun v_5 => if x2 ≤ 0 then (some ((-1000000))) else (gd (¬ x2 = 0) (if (irm v_5 x2) = 0 then (gd (¬ x2 = 0) (bd (v_5 / x2) (fun v_22 => ob (FX6_commonDivisor v_22 x2) (fun u_27 => if u_27 = 1 then ((some (v_22))) else ((some ((-1000000)))))))) else (some ((-1000000)))))))
abbrev RMX0_image : Room := { frames := 2, cells := 0, slots := 0, locals := 49 }
set_option maxHeartbeats 4000000 in
set_option maxRecDepth 100000 in
theorem KX0_image (l : Launch) (D : va_G) (cy : Nat → ClassId)   (x1 : Int32) (x2 : Int32) (x3 : Int32) (sz : Nat) {out : Int32} (hf : FX0_image x1 x2 x3 = some out) : Met l yX0_image wsX0_image RMX0_image (PW D cy [.int x1, .int x2, .int x3] sz [] []) (QR (some (.int out))) 0 0 no_A := by
  refine Met.ofW (cc := cX0_image) (maxL := 5) (ret := (some .int)) (by decide +kernel) rfl ?_
  intro p e s m args below meth c s₁ B hml hv
  obtain ⟨hav, hsz, hP, hR0, hK, hN, hD0, hsep⟩ := hv
  have hx := B.exec
  have hb := B.bytes
  have hr := B.returns
  have hts := atoms_spec (ws := wsX0_image) B.pre
  have hown : s.vm.findClass RX0 = some m.cls := findClass_of_methodNamed B.named
  have hlocks := B.notSynchronized
  subst hsz
  have hw_0 := hts (.constant RX0 58 (-1000000)) (by decide +kernel)
  have hw_1 := hts (.initialized RX6) (by decide +kernel)
  have hw_2 := hts (.static yX6_commonDivisor) (by decide +kernel)
  obtain ⟨ls, hfr, hl⟩ := ent_ok (m := m) (n := 5) (l' := [(0, .int x1), (1, .int x2), (2, .int x3)]) [.int x1, .int x2, .int x3] hav (Nat.le_of_ble_eq_true rfl) rfl
  rw [hfr]
  generalize hQe : MQ below (QR (some (.int out))) args s 0 0 no_A = QQ
  change W p l e RMX0_image s m args below meth c s.heap [] 0 0 QQ (F0 m 0 ls [])
  unfold FX0_image at hf
  refine lv_iload_n hx hb dX0_image_0 rfl (lv_at hl 2 rfl) ?_
  refine lv_iload_n hx hb dX0_image_1 rfl (lv_at hl 2 rfl) ?_
  refine lv_imul hx hb dX0_image_2 ?_
  refine lv_iload_n hx hb dX0_image_3 rfl (lv_at hl 0 rfl) ?_
  refine lv_iadd hx hb dX0_image_4 ?_
  refine lv_topi (fun v_5 e_5 => ?_)
  replace hf := bd_at e_5 hf
  clear e_5
  refine lv_istore_n (lv' := [(3, .int v_5), (0, .int x1), (1, .int x2), (2, .int x3)]) hx hb dX0_image_5 rfl hl (by decide) rfl (fun ls hl => ?_)
  refine lv_iload_n hx hb dX0_image_6 rfl (lv_at hl 2 rfl) ?_
  refine lv_if_le (tgt := 16) hx hb dX0_image_7 (by decide) (fun c_7 => ?_) (fun c_7 => ?_)
  · replace hf := it_p c_7 hf
    refine lv_ldc (own := RX0) (v := (-1000000)) hx hb hown hw_0 dX0_image_16 ?_
    obtain rfl := Option.some.inj hf
    rw [← hQe]
    exact W.iret (v := (-1000000)) hx hb hr (fun t ht hW => ⟨rfl, ht⟩) (fun q h => by cases h) dX0_image_18
  · replace hf := it_n c_7 hf
    refine lv_iload_n hx hb dX0_image_10 rfl (lv_at hl 0 rfl) ?_
    refine lv_iload_n hx hb dX0_image_11 rfl (lv_at hl 2 rfl) ?_
    replace hf := gd_e hf
    obtain ⟨z_12, hf⟩ := hf
    refine rw_irem hx hb dX0_image_12 z_12 ?_
    refine lv_if_eq (tgt := 19) hx hb dX0_image_13 (by decide) (fun c_13 => ?_) (fun c_13 => ?_)
    · replace hf := it_p c_13 hf
      refine lv_iload_n hx hb dX0_image_19 rfl (lv_at hl 0 rfl) ?_
      refine lv_iload_n hx hb dX0_image_20 rfl (lv_at hl 2 rfl) ?_
      replace hf := gd_e hf
      obtain ⟨z_21, hf⟩ := hf
      refine lv_idiv hx hb dX0_image_21 z_21 ?_
      refine lv_topi (fun v_22 e_22 => ?_)
      replace hf := bd_at e_22 hf
      clear e_22
      refine lv_istore (lv' := [(4, .int v_22), (3, .int v_5), (0, .int x1), (1, .int x2), (2, .int x3)]) hx hb dX0_image_22 hl (by decide) rfl (fun ls hl => ?_)
      refine lv_iload hx hb dX0_image_24 (lv_at hl 0 rfl) ?_
      refine lv_iload_n hx hb dX0_image_26 rfl (lv_at hl 3 rfl) ?_
      replace hf := ob_e hf
      obtain ⟨u_27, hu_27, hf⟩ := hf
      refine inR (As := [.int v_22, .int x2]) (rest := []) (st1 := [.int u_27]) ⟨hx, hb, hml, hown, hts⟩ hK hN (KX6_commonDivisor l D cy v_22 x2 s.heap.size hu_27) ⟨va_cnB 2 hts gX0_image_X6_commonDivisor_n50 rfl rfl rfl hN.1 hw_1 (by decide +kernel) ⟨Nat.le_of_ble_eq_true rfl, Nat.le_of_ble_eq_true rfl⟩, hw_2, trivial⟩ P_nil rfl hl.1 rfl (Nat.le_of_ble_eq_true rfl) rfl dX0_image_27 ⟨Nat.zero_le _, Nat.zero_le _⟩ ?_
      refine lv_iconst (v := 1) hx hb dX0_image_30 (by decide) ?_
      refine lv_icmp_ne (tgt := 39) hx hb dX0_image_31 (by decide) (fun c_31 => ?_) (fun c_31 => ?_)
      · replace hf := it_n c_31 hf
        refine lv_ldc (own := RX0) (v := (-1000000)) hx hb hown hw_0 dX0_image_39 ?_
        obtain rfl := Option.some.inj hf
        rw [← hQe]
        exact W.iret (v := (-1000000)) hx hb hr (fun t ht hW => ⟨rfl, ht⟩) (fun q h => by cases h) dX0_image_41
      · replace hf := it_p c_31 hf
        refine lv_iload hx hb dX0_image_34 (lv_at hl 0 rfl) ?_
        refine lv_goto (tgt := 41) hx hb dX0_image_36 (by decide) ?_
        obtain rfl := Option.some.inj hf
        rw [← hQe]
        exact W.iret (v := v_22) hx hb hr (fun t ht hW => ⟨rfl, ht⟩) (fun q h => by cases h) dX0_image_41
    · replace hf := it_n c_13 hf
      refine lv_ldc (own := RX0) (v := (-1000000)) hx hb hown hw_0 dX0_image_16 ?_
      obtain rfl := Option.some.inj hf
      rw [← hQe]
      exact W.iret (v := (-1000000)) hx hb hr (fun t ht hW => ⟨rfl, ht⟩) (fun q h => by cases h) dX0_image_18
def FX0_follower  (fu : Int32) (fw : Int32) (x1 : Int32) : Option (Int32) := (ob (FX6_commonDivisor x1 fw) (fun u_5 => if u_5 = 1 then (ob (FX0_image fu fw x1) (fun u_23 => if u_23 < (-116) then ((some ((-1)))) else (if 116 < u_23 then ((some ((-1)))) else ((some ((u_23 + 116))))))) else (some ((-1)))))
abbrev RMX0_follower : Room := { frames := 3, cells := 0, slots := 0, locals := 73 }
set_option maxHeartbeats 4000000 in
set_option maxRecDepth 100000 in
theorem KX0_follower (l : Launch) (D : va_G) (cy : Nat → ClassId) (ad : Nat → Nat) (fl : Int32) (fu : Int32) (fw : Int32) (x1 : Int32) (sz : Nat) {out : Int32} (hf : FX0_follower fu fw x1 = some out) : Met l yX0_follower wsX0_follower RMX0_follower (PW D cy [.ref (ad 0), .int x1] sz [] ((wX0_0 cy ad fl fu fw))) (QR (some (.int out))) 0 0 no_A := by
  refine Met.ofW (cc := cX0_follower) (maxL := 3) (ret := (some .int)) (by decide +kernel) rfl ?_
  intro p e s m args below meth c s₁ B hml hv
  obtain ⟨hav, hsz, hP, hR0, hK, hN, hD0, hsep⟩ := hv
  have hx := B.exec
  have hb := B.bytes
  have hr := B.returns
  have hts := atoms_spec (ws := wsX0_follower) B.pre
  have hown : s.vm.findClass RX0 = some m.cls := findClass_of_methodNamed B.named
  have hlocks := B.notSynchronized
  subst hsz
  have hin_X0 : ∀ w ∈ u_ws RX0 TX0 5, w ∈ wsX0_follower := by decide +kernel
  have hw_0 := hts (.fieldLink RX0 31 "ReturnPoints$Fractions" "lower" "I") (by decide +kernel)
  have hw_1 := hts (.initialized RX6) (by decide +kernel)
  have hw_2 := hts (.static yX6_commonDivisor) (by decide +kernel)
  have hw_3 := hts (.fieldLink RX0 28 "ReturnPoints$Fractions" "upper" "I") (by decide +kernel)
  obtain ⟨ls, hfr, hl⟩ := ent_ok (m := m) (n := 3) (l' := [(0, .ref (ad 0)), (1, .int x1)]) [.ref (ad 0), .int x1] hav (Nat.le_of_ble_eq_true rfl) rfl
  rw [hfr]
  generalize hQe : MQ below (QR (some (.int out))) args s 0 0 no_A = QQ
  change W p l e RMX0_follower s m args below meth c s.heap [] 0 0 QQ (F0 m 0 ls [])
  unfold FX0_follower at hf
  refine lv_iload_n hx hb dX0_follower_0 rfl (lv_at hl 1 rfl) ?_
  refine lv_aload_n hx hb dX0_follower_1 rfl (lv_at hl 0 rfl) ?_
  refine va_get (a := (ad 0)) (ci := 0) (v := .int fw) (C := RX0) (T := TX0) (N := 5) hx hb hts hin_X0 hown hK hR0 0 rfl rfl 4 (by decide) hw_0 (fun _ h => h) rfl dX0_follower_2 ?_
  replace hf := ob_e hf
  obtain ⟨u_5, hu_5, hf⟩ := hf
  refine inR (As := [.int x1, .int fw]) (rest := []) (st1 := [.int u_5]) ⟨hx, hb, hml, hown, hts⟩ hK hN (KX6_commonDivisor l D cy x1 fw s.heap.size hu_5) ⟨va_cnB 2 hts gX0_follower_X6_commonDivisor_n50 rfl rfl rfl hN.1 hw_1 (by decide +kernel) ⟨Nat.le_of_ble_eq_true rfl, Nat.le_of_ble_eq_true rfl⟩, hw_2, trivial⟩ P_nil rfl hl.1 rfl (Nat.le_of_ble_eq_true rfl) rfl dX0_follower_5 ⟨Nat.zero_le _, Nat.zero_le _⟩ ?_
  refine lv_iconst (v := 1) hx hb dX0_follower_8 (by decide) ?_
  refine lv_icmp_eq (tgt := 14) hx hb dX0_follower_9 (by decide) (fun c_9 => ?_) (fun c_9 => ?_)
  · replace hf := it_p c_9 hf
    refine lv_aload_n hx hb dX0_follower_14 rfl (lv_at hl 0 rfl) ?_
    refine va_get (a := (ad 0)) (ci := 0) (v := .int fu) (C := RX0) (T := TX0) (N := 5) hx hb hts hin_X0 hown hK hR0 0 rfl rfl 3 (by decide) hw_3 (fun _ h => h) rfl dX0_follower_15 ?_
    refine lv_aload_n hx hb dX0_follower_18 rfl (lv_at hl 0 rfl) ?_
    refine va_get (a := (ad 0)) (ci := 0) (v := .int fw) (C := RX0) (T := TX0) (N := 5) hx hb hts hin_X0 hown hK hR0 0 rfl rfl 4 (by decide) hw_0 (fun _ h => h) rfl dX0_follower_19 ?_
    refine lv_iload_n hx hb dX0_follower_22 rfl (lv_at hl 1 rfl) ?_
    replace hf := ob_e hf
    obtain ⟨u_23, hu_23, hf⟩ := hf
    refine isR (As := [.int fu, .int fw, .int x1]) (rest := []) (st1 := [.int u_23]) ⟨hx, hb, hml, hown, hts⟩ hK hN (KX0_image l D cy fu fw x1 s.heap.size hu_23) (va_cwS 3 hts gX0_follower_X0_image rfl rfl rfl (by decide +kernel) ⟨Nat.le_of_ble_eq_true rfl, Nat.le_of_ble_eq_true rfl⟩) P_nil rfl hl.1 rfl (Nat.le_of_ble_eq_true rfl) rfl dX0_follower_23 ⟨Nat.zero_le _, Nat.zero_le _⟩ ?_
    refine lv_istore_n (lv' := [(2, .int u_23), (0, .ref (ad 0)), (1, .int x1)]) hx hb dX0_follower_26 rfl hl (by decide) rfl (fun ls hl => ?_)
    refine lv_iload_n hx hb dX0_follower_27 rfl (lv_at hl 0 rfl) ?_
    refine lv_bipush (v := (-116)) hx hb dX0_follower_28 (by decide) ?_
    refine lv_icmp_lt (tgt := 46) hx hb dX0_follower_30 (by decide) (fun c_30 => ?_) (fun c_30 => ?_)
    · replace hf := it_p c_30 hf
      refine lv_iconst (v := (-1)) hx hb dX0_follower_46 (by decide) ?_
      obtain rfl := Option.some.inj hf
      rw [← hQe]
      exact W.iret (v := (-1)) hx hb hr (fun t ht hW => ⟨rfl, ht⟩) (fun q h => by cases h) dX0_follower_47
    · replace hf := it_n c_30 hf
      refine lv_iload_n hx hb dX0_follower_33 rfl (lv_at hl 0 rfl) ?_
      refine lv_bipush (v := 116) hx hb dX0_follower_34 (by decide) ?_
      refine lv_icmp_gt (tgt := 46) hx hb dX0_follower_36 (by decide) (fun c_36 => ?_) (fun c_36 => ?_)
      · replace hf := it_p c_36 hf
        refine lv_iconst (v := (-1)) hx hb dX0_follower_46 (by decide) ?_
        obtain rfl := Option.some.inj hf
        rw [← hQe]
        exact W.iret (v := (-1)) hx hb hr (fun t ht hW => ⟨rfl, ht⟩) (fun q h => by cases h) dX0_follower_47
      · replace hf := it_n c_36 hf
        refine lv_iload_n hx hb dX0_follower_39 rfl (lv_at hl 0 rfl) ?_
        refine lv_bipush (v := 116) hx hb dX0_follower_40 (by decide) ?_
        refine lv_iadd hx hb dX0_follower_42 ?_
        refine lv_goto (tgt := 47) hx hb dX0_follower_43 (by decide) ?_
        obtain rfl := Option.some.inj hf
        rw [← hQe]
        exact W.iret (v := (u_23 + 116)) hx hb hr (fun t ht hW => ⟨rfl, ht⟩) (fun q h => by cases h) dX0_follower_47
  · replace hf := it_n c_9 hf
    refine lv_iconst (v := (-1)) hx hb dX0_follower_12 (by decide) ?_
    obtain rfl := Option.some.inj hf
    rw [← hQe]
    exact W.iret (v := (-1)) hx hb hr (fun t ht hW => ⟨rfl, ht⟩) (fun q h => by cases h) dX0_follower_13
def FX0_prepare_J132  (k77 : Int32 → Int32 → (Nat → Int32) → Option ((Int32) × (Int32) × (Int32) × (Nat → Int32) × (Nat → Int32) × (Nat → Int32) × (Nat → Int32) × (Nat → Int32) × (Nat → Int32))) (x3_132 : Int32) (n : Nat) (fl_132 : Int32) (fu_77 : Int32) (fw_77 : Int32) (li_132 : Nat → Int32) (osz : Int32) (nx_77 : Nat → Int32) (tl_77 : Nat → Int32) (pe_77 : Nat → Int32) (en_77 : Nat → Int32) (pa_77 : Nat → Int32) : Option ((Int32) × (Int32) × (Int32) × (Nat → Int32) × (Nat → Int32) × (Nat → Int32) × (Nat → Int32) × (Nat → Int32) × (Nat → Int32)) := (bd (x3_132 + 1) (fun v_132 => k77 v_132 fl_132 li_132))
def FX0_prepare_L77   (n : Nat) (fu_77 : Int32) (fw_77 : Int32) (osz : Int32) (nx_77 : Nat → Int32) (tl_77 : Nat → Int32) (pe_77 : Nat → Int32) (en_77 : Nat → Int32) (pa_77 : Nat → Int32) : Nat → Int32 → Int32 → (Nat → Int32) → Option ((Int32) × (Int32) × (Int32) × (Nat → Int32) × (Nat → Int32) × (Nat → Int32) × (Nat → Int32) × (Nat → Int32) × (Nat → Int32))
  | 0, _, _, _ => none
  | fuel + 1, x3_77, fl_77, li_77 => (if osz ≤ x3_77 then (some (fl_77, fu_77, fw_77, li_77, nx_77, tl_77, pe_77, en_77, pa_77)) else (if (Int32.ofNat n) ≤ fl_77 then (some (fl_77, fu_77, fw_77, li_77, nx_77, tl_77, pe_77, en_77, pa_77)) else (gi x3_77 n (if (pe_77 (Int32.toNatClampNeg x3_77)) = 0 then FX0_prepare_J132 (FX0_prepare_L77 n fu_77 fw_77 osz nx_77 tl_77 pe_77 en_77 pa_77 fuel) x3_77 n fl_77 fu_77 fw_77 li_77 osz nx_77 tl_77 pe_77 en_77 pa_77 else (gi fl_77 n (FX0_prepare_J132 (FX0_prepare_L77 n fu_77 fw_77 osz nx_77 tl_77 pe_77 en_77 pa_77 fuel) x3_77 n (fl_77 + 1) fu_77 fw_77 (upd li_77 (Int32.toNatClampNeg fl_77) x3_77) osz nx_77 tl_77 pe_77 en_77 pa_77))))))
def FX0_prepare_L29   (n : Nat) (fu_29 : Int32) (fw_29 : Int32) (li_29 : Nat → Int32) (osz : Int32) (tl_29 : Nat → Int32) (pe_29 : Nat → Int32) (en_29 : Nat → Int32) (pa_29 : Nat → Int32) : Nat → Int32 → (Nat → Int32) → Option ((Int32) × (Int32) × (Int32) × (Nat → Int32) × (Nat → Int32) × (Nat → Int32) × (Nat → Int32) × (Nat → Int32) × (Nat → Int32))
  | 0, _, _ => none
  | fuel + 1, x3_29, nx_29 => (if osz ≤ x3_29 then (ob (FX1_followAll n osz nx_29 tl_29 pe_29 en_29 pa_29) (fun u_67 => FX0_prepare_L77 n fu_29 fw_29 osz nx_29 u_67.1 u_67.2.1 u_67.2.2.1 u_67.2.2.2 FU 0 0 li_29)) else (ob (FX0_follower fu_29 fw_29 (x3_29 - 116)) (fun u_53 => gi x3_29 n (bd (x3_29 + 1) (fun v_57 => (FX0_prepare_L29 n fu_29 fw_29 li_29 osz tl_29 pe_29 en_29 pa_29 fuel) v_57 (upd nx_29 (Int32.toNatClampNeg x3_29) u_53))))))
def FX0_prepare_J17   (x1 : Int32) (x2 : Int32) (n : Nat) (li_17 : Nat → Int32) (osz : Int32) (nx_17 : Nat → Int32) (tl_17 : Nat → Int32) (pe_17 : Nat → Int32) (en_17 : Nat → Int32) (pa_17 : Nat → Int32) : Option ((Int32) × (Int32) × (Int32) × (Nat → Int32) × (Nat → Int32) × (Nat → Int32) × (Nat → Int32) × (Nat → Int32) × (Nat → Int32)) := (FX0_prepare_L29 n x1 x2 li_17 osz tl_17 pe_17 en_17 pa_17 FU 0 nx_17)
def FX0_prepare  (n : Nat) (fl : Int32) (fu : Int32) (fw : Int32) (li : Nat → Int32) (osz : Int32) (nx : Nat → Int32) (tl : Nat → Int32) (pe : Nat → Int32) (en : Nat → Int32) (pa : Nat → Int32) (x1 : Int32) (x2 : Int32) : Option ((Int32) × (Int32) × (Int32) × (Nat → Int32) × (Nat → Int32) × (Nat → Int32) × (Nat → Int32) × (Nat → Int32) × (Nat → Int32)) := (if fu = x1 then (if fw = x2 then (some (fl, fu, fw, li, nx, tl, pe, en, pa)) else FX0_prepare_J17 x1 x2 n li osz nx tl pe en pa) else FX0_prepare_J17 x1 x2 n li osz nx tl pe en pa)
abbrev RMX0_prepare : Room := { frames := 4, cells := 0, slots := 0, locals := 95 }
set_option maxHeartbeats 4000000 in
set_option maxRecDepth 100000 in
theorem KX0_prepare (l : Launch) (D : va_G) (cy : Nat → ClassId) (ad : Nat → Nat) (n : Nat) (fl : Int32) (fu : Int32) (fw : Int32) (li : Nat → Int32) (osz : Int32) (nx : Nat → Int32) (tl : Nat → Int32) (pe : Nat → Int32) (en : Nat → Int32) (pa : Nat → Int32) (x1 : Int32) (x2 : Int32) (sz : Nat) {out : (Int32) × (Int32) × (Int32) × (Nat → Int32) × (Nat → Int32) × (Nat → Int32) × (Nat → Int32) × (Nat → Int32) × (Nat → Int32)} (hf : FX0_prepare n fl fu fw li osz nx tl pe en pa x1 x2 = some out) : Met l yX0_prepare wsX0_prepare RMX0_prepare (PW D cy [.ref (ad 0), .int x1, .int x2] sz ((wX0_0_1_2_3_4_5_6_7 cy ad n fl fu fw li osz nx tl pe en pa)) []) (QW D none ((wX0_0_1_2_3_4_5_6_7 cy ad n out.1 out.2.1 out.2.2.1 out.2.2.2.1 osz out.2.2.2.2.1 out.2.2.2.2.2.1 out.2.2.2.2.2.2.1 out.2.2.2.2.2.2.2.1 out.2.2.2.2.2.2.2.2)) (va_A ((wX0_0_1_2_3_4_5_6_7 cy ad n fl fu fw li osz nx tl pe en pa)) sz)) 0 0 (va_A ((wX0_0_1_2_3_4_5_6_7 cy ad n fl fu fw li osz nx tl pe en pa)) sz) := by
  refine Met.ofW (cc := cX0_prepare) (maxL := 4) (ret := none) (by decide +kernel) rfl ?_
  intro p e s m args below meth c s₁ B hml hv
  obtain ⟨hav, hsz, hP, hR0, hK, hN, hD0, hsep⟩ := hv
  have hx := B.exec
  have hb := B.bytes
  have hr := B.returns
  have hts := atoms_spec (ws := wsX0_prepare) B.pre
  have hown : s.vm.findClass RX0 = some m.cls := findClass_of_methodNamed B.named
  have hlocks := B.notSynchronized
  subst hsz
  have hin_X0 : ∀ w ∈ u_ws RX0 TX0 5, w ∈ wsX0_prepare := by decide +kernel
  have hin_X1 : ∀ w ∈ u_ws RX1 TX1 6, w ∈ wsX0_prepare := by decide +kernel
  have hw_0 := hts (.fieldLink RX0 16 "ReturnPoints$Fractions" "orbits" "LReturnPoints$Orbits;") (by decide +kernel)
  have hw_1 := hts (.fieldLink RX0 34 "ReturnPoints$Orbits" "size" "I") (by decide +kernel)
  have hw_2 := hts (.fieldLink RX0 24 "ReturnPoints$Fractions" "listed" "I") (by decide +kernel)
  have hw_3 := hts (.fieldLink RX0 20 "ReturnPoints$Fractions" "list" "[I") (by decide +kernel)
  have hw_4 := hts (.fieldLink RX0 47 "ReturnPoints$Orbits" "period" "[I") (by decide +kernel)
  have hw_5 := hts (.fieldLink RX0 37 "ReturnPoints$Orbits" "next" "[I") (by decide +kernel)
  have hw_6 := hts (.fieldLink RX0 28 "ReturnPoints$Fractions" "upper" "I") (by decide +kernel)
  have hw_7 := hts (.fieldLink RX0 31 "ReturnPoints$Fractions" "lower" "I") (by decide +kernel)
  have hD := hD0.self (sz := s.heap.size)
  have hnA := roA hsep hR0
  generalize hAe : va_A ((wX0_0_1_2_3_4_5_6_7 cy ad n fl fu fw li osz nx tl pe en pa)) s.heap.size = A at hD hnA ⊢
  have hA : ∀ q : Nat, s.heap.size ≤ q → A q := fun q h => by rw [← hAe]; exact Or.inr h
  have hS : va_S A s.heap s.heap [] := va_S.rf
  obtain ⟨ls, hfr, hl⟩ := ent_ok (m := m) (n := 4) (l' := [(0, .ref (ad 0)), (1, .int x1), (2, .int x2)]) [.ref (ad 0), .int x1, .int x2] hav (Nat.le_of_ble_eq_true rfl) rfl
  rw [hfr]
  generalize hQe : MQ below (QW D none ((wX0_0_1_2_3_4_5_6_7 cy ad n out.1 out.2.1 out.2.2.1 out.2.2.2.1 osz out.2.2.2.2.1 out.2.2.2.2.2.1 out.2.2.2.2.2.2.1 out.2.2.2.2.2.2.2.1 out.2.2.2.2.2.2.2.2)) A) args s 0 0 A = QQ
  change W p l e RMX0_prepare s m args below meth c s.heap [] 0 0 QQ (F0 m 0 ls [])
  have hP : va_P D vwCl ((wX0_0_1_2_3_4_5_6_7 cy ad n fl fu fw li osz nx tl pe en pa)) s.heap := hP
  have hD : va_D A ((wX0_0_1_2_3_4_5_6_7 cy ad n fl fu fw li osz nx tl pe en pa)) := hD
  suffices h00 : ∀ (H : Heap) (locs : List Loc), va_P D vwCl ((wX0_0_1_2_3_4_5_6_7 cy ad n fl fu fw li osz nx tl pe en pa)) H → va_S A s.heap H locs → W p l e RMX0_prepare s m args below meth c H locs 0 0 QQ (F0 m 0 ls []) from h00 _ _ hP hS
  clear hP hS
  intro H locs hP hS
  have L77 : ∀ (fu_77 : Int32) (fw_77 : Int32) (nx_77 : Nat → Int32) (tl_77 : Nat → Int32) (pe_77 : Nat → Int32) (en_77 : Nat → Int32) (pa_77 : Nat → Int32) (n77 : Nat) (H : Heap) (locs : List Loc) (ls : Array Slot) (x3_77 : Int32) (fl_77 : Int32) (li_77 : Nat → Int32), FX0_prepare_L77 n fu_77 fw_77 osz nx_77 tl_77 pe_77 en_77 pa_77 n77 x3_77 fl_77 li_77 = some out → va_P D vwCl ((wX0_0_1_2_3_4_5_6_7 cy ad n fl_77 fu_77 fw_77 li_77 osz nx_77 tl_77 pe_77 en_77 pa_77)) H → va_D A ((wX0_0_1_2_3_4_5_6_7 cy ad n fl_77 fu_77 fw_77 li_77 osz nx_77 tl_77 pe_77 en_77 pa_77)) → va_S A s.heap H locs → lv_has ls 4 [(0, .ref (ad 0)), (3, .int x3_77)] → W p l e RMX0_prepare s m args below meth c H locs 0 0 QQ (F0 m 77 ls []) := by
    intro fu_77 fw_77 nx_77 tl_77 pe_77 en_77 pa_77 n77
    induction n77 with
    | zero => intro H locs ls x3_77 fl_77 li_77 hf; simp [FX0_prepare_L77] at hf
    | succ n77 ih77 =>
      intro H locs ls x3_77 fl_77 li_77 hf hP hD hS hl
      rw [FX0_prepare_L77] at hf
      have J132 : ∀ (H : Heap) (locs : List Loc) (ls : Array Slot) (x3_132 : Int32) (fl_132 : Int32) (li_132 : Nat → Int32), FX0_prepare_J132 (FX0_prepare_L77 n fu_77 fw_77 osz nx_77 tl_77 pe_77 en_77 pa_77 n77) x3_132 n fl_132 fu_77 fw_77 li_132 osz nx_77 tl_77 pe_77 en_77 pa_77 = some out → va_P D vwCl ((wX0_0_1_2_3_4_5_6_7 cy ad n fl_132 fu_77 fw_77 li_132 osz nx_77 tl_77 pe_77 en_77 pa_77)) H → va_D A ((wX0_0_1_2_3_4_5_6_7 cy ad n fl_132 fu_77 fw_77 li_132 osz nx_77 tl_77 pe_77 en_77 pa_77)) → va_S A s.heap H locs → lv_has ls 4 [(0, .ref (ad 0)), (3, .int x3_132)] → W p l e RMX0_prepare s m args below meth c H locs 0 0 QQ (F0 m 132 ls []) := by
        intro H locs ls x3_132 fl_132 li_132 hf hP hD hS hl
        unfold FX0_prepare_J132 at hf
        obtain ⟨v_132, e_132⟩ : ∃ y : Int32, y = x3_132 + 1 := ⟨_, rfl⟩
        replace hf := bd_at e_132 hf
        refine lv_iinc (v := v_132) (lv' := [(3, .int v_132), (0, .ref (ad 0))]) hx hb dX0_prepare_132 hl (k := 1) rfl (by rw [e_132]; rfl) (by decide) rfl (fun ls hl => ?_)
        clear e_132
        refine lv_goto (tgt := 77) hx hb dX0_prepare_135 (by decide) ?_
        exact ih77 H locs ls v_132 fl_132 li_132 hf hP hD hS (lv_sub hl [1, 0] rfl)
      refine lv_iload_n hx hb dX0_prepare_77 rfl (lv_at hl 1 rfl) ?_
      refine lv_aload_n hx hb dX0_prepare_78 rfl (lv_at hl 0 rfl) ?_
      refine va_get (a := (ad 0)) (ci := 0) (v := .ref (ad 2)) (C := RX0) (T := TX0) (N := 5) hx hb hts hin_X0 hown hK hP 0 rfl rfl 0 (by decide) hw_0 (fun _ h => h) rfl dX0_prepare_79 ?_
      refine va_get (a := (ad 2)) (ci := 1) (v := .int osz) (C := RX1) (T := TX1) (N := 6) hx hb hts hin_X1 hown hK hP 2 rfl rfl 0 (by decide) hw_1 (fun _ h => h) rfl dX0_prepare_82 ?_
      refine lv_icmp_ge (tgt := 138) hx hb dX0_prepare_85 (by decide) (fun c_85 => ?_) (fun c_85 => ?_)
      · replace hf := it_p c_85 hf
        obtain rfl := Option.some.inj hf
        rw [← hQe]
        exact W.vret hx hb hr (fun t ht hW => ⟨rfl, by rw [ht]; exact hP, hS.F ht⟩) hS.2.2 dX0_prepare_138
      · replace hf := it_n c_85 hf
        refine lv_aload_n hx hb dX0_prepare_88 rfl (lv_at hl 0 rfl) ?_
        refine va_get (a := (ad 0)) (ci := 0) (v := .int fl_77) (C := RX0) (T := TX0) (N := 5) hx hb hts hin_X0 hown hK hP 0 rfl rfl 2 (by decide) hw_2 (fun _ h => h) rfl dX0_prepare_89 ?_
        refine lv_aload_n hx hb dX0_prepare_92 rfl (lv_at hl 0 rfl) ?_
        refine va_get (a := (ad 0)) (ci := 0) (v := .ref (ad 1)) (C := RX0) (T := TX0) (N := 5) hx hb hts hin_X0 hown hK hP 0 rfl rfl 1 (by decide) hw_3 (fun _ h => h) rfl dX0_prepare_93 ?_
        refine va_alen (a := (ad 1)) (v := (Int32.ofNat n)) hx hb hK hP 1 0 rfl rfl rfl dX0_prepare_96 ?_
        refine lv_icmp_ge (tgt := 138) hx hb dX0_prepare_97 (by decide) (fun c_97 => ?_) (fun c_97 => ?_)
        · replace hf := it_p c_97 hf
          obtain rfl := Option.some.inj hf
          rw [← hQe]
          exact W.vret hx hb hr (fun t ht hW => ⟨rfl, by rw [ht]; exact hP, hS.F ht⟩) hS.2.2 dX0_prepare_138
        · replace hf := it_n c_97 hf
          refine lv_aload_n hx hb dX0_prepare_100 rfl (lv_at hl 0 rfl) ?_
          refine va_get (a := (ad 0)) (ci := 0) (v := .ref (ad 2)) (C := RX0) (T := TX0) (N := 5) hx hb hts hin_X0 hown hK hP 0 rfl rfl 0 (by decide) hw_0 (fun _ h => h) rfl dX0_prepare_101 ?_
          refine va_get (a := (ad 2)) (ci := 1) (v := .ref (ad 5)) (C := RX1) (T := TX1) (N := 6) hx hb hts hin_X1 hown hK hP 2 rfl rfl 3 (by decide) hw_4 (fun _ h => h) rfl dX0_prepare_104 ?_
          refine lv_iload_n hx hb dX0_prepare_107 rfl (lv_at hl 1 rfl) ?_
          replace hf := gi_e hf
          obtain ⟨i_108, hf⟩ := hf
          refine va_iald (a := (ad 5)) hx hb hK hP 5 0 rfl rfl i_108 dX0_prepare_108 ?_
          refine lv_if_eq (tgt := 132) hx hb dX0_prepare_109 (by decide) (fun c_109 => ?_) (fun c_109 => ?_)
          · replace hf := it_p c_109 hf
            exact J132 H locs ls x3_77 fl_77 li_77 hf hP hD hS (lv_sub hl [0, 1] rfl)
          · replace hf := it_n c_109 hf
            refine lv_aload_n hx hb dX0_prepare_112 rfl (lv_at hl 0 rfl) ?_
            refine va_get (a := (ad 0)) (ci := 0) (v := .ref (ad 1)) (C := RX0) (T := TX0) (N := 5) hx hb hts hin_X0 hown hK hP 0 rfl rfl 1 (by decide) hw_3 (fun _ h => h) rfl dX0_prepare_113 ?_
            refine lv_aload_n hx hb dX0_prepare_116 rfl (lv_at hl 0 rfl) ?_
            refine va_get (a := (ad 0)) (ci := 0) (v := .int fl_77) (C := RX0) (T := TX0) (N := 5) hx hb hts hin_X0 hown hK hP 0 rfl rfl 2 (by decide) hw_2 (fun _ h => h) rfl dX0_prepare_117 ?_
            refine lv_iload_n hx hb dX0_prepare_120 rfl (lv_at hl 1 rfl) ?_
            replace hf := gi_e hf
            obtain ⟨i_121, hf⟩ := hf
            refine va_iast (a := (ad 1)) hx hb hK hP hD hS 1 0 rfl rfl i_121 dX0_prepare_121 (fun H locs hP hD hS => ?_)
            have hP : va_P D vwCl ((wX0_0_1_2_3_4_5_6_7 cy ad n fl_77 fu_77 fw_77 (upd li_77 (Int32.toNatClampNeg fl_77) x3_77) osz nx_77 tl_77 pe_77 en_77 pa_77)) H := hP
            have hD : va_D A ((wX0_0_1_2_3_4_5_6_7 cy ad n fl_77 fu_77 fw_77 (upd li_77 (Int32.toNatClampNeg fl_77) x3_77) osz nx_77 tl_77 pe_77 en_77 pa_77)) := hD
            refine lv_aload_n hx hb dX0_prepare_122 rfl (lv_at hl 0 rfl) ?_
            refine lv_dup hx hb dX0_prepare_123 rfl ?_
            refine va_get (a := (ad 0)) (ci := 0) (v := .int fl_77) (C := RX0) (T := TX0) (N := 5) hx hb hts hin_X0 hown hK hP 0 rfl rfl 2 (by decide) hw_2 (fun _ h => h) rfl dX0_prepare_124 ?_
            refine lv_iconst (v := 1) hx hb dX0_prepare_127 (by decide) ?_
            refine lv_iadd hx hb dX0_prepare_128 ?_
            refine va_put (a := (ad 0)) (ci := 0) (v := .int (fl_77 + 1)) (ty := .int) (C := RX0) (T := TX0) (N := 5) hx hb hts hin_X0 tyX0 tyX0_ok nmX0 hown hK hP hD hS 0 rfl rfl 2 (by decide) hw_2 (fun _ h => h) rfl (by decide +kernel) rfl rfl (Nat.le_of_ble_eq_true rfl) dX0_prepare_129 (fun H locs hP hD hS => ?_)
            have hP : va_P D vwCl ((wX0_0_1_2_3_4_5_6_7 cy ad n (fl_77 + 1) fu_77 fw_77 (upd li_77 (Int32.toNatClampNeg fl_77) x3_77) osz nx_77 tl_77 pe_77 en_77 pa_77)) H := hP
            have hD : va_D A ((wX0_0_1_2_3_4_5_6_7 cy ad n (fl_77 + 1) fu_77 fw_77 (upd li_77 (Int32.toNatClampNeg fl_77) x3_77) osz nx_77 tl_77 pe_77 en_77 pa_77)) := hD
            exact J132 H locs ls x3_77 (fl_77 + 1) (upd li_77 (Int32.toNatClampNeg fl_77) x3_77) hf hP hD hS (lv_sub hl [0, 1] rfl)
  have L29 : ∀ (fl_29 : Int32) (fu_29 : Int32) (fw_29 : Int32) (li_29 : Nat → Int32) (tl_29 : Nat → Int32) (pe_29 : Nat → Int32) (en_29 : Nat → Int32) (pa_29 : Nat → Int32) (n29 : Nat) (H : Heap) (locs : List Loc) (ls : Array Slot) (x3_29 : Int32) (nx_29 : Nat → Int32), FX0_prepare_L29 n fu_29 fw_29 li_29 osz tl_29 pe_29 en_29 pa_29 n29 x3_29 nx_29 = some out → va_P D vwCl ((wX0_0_1_2_3_4_5_6_7 cy ad n fl_29 fu_29 fw_29 li_29 osz nx_29 tl_29 pe_29 en_29 pa_29)) H → va_D A ((wX0_0_1_2_3_4_5_6_7 cy ad n fl_29 fu_29 fw_29 li_29 osz nx_29 tl_29 pe_29 en_29 pa_29)) → va_S A s.heap H locs → lv_has ls 4 [(0, .ref (ad 0)), (3, .int x3_29)] → W p l e RMX0_prepare s m args below meth c H locs 0 0 QQ (F0 m 29 ls []) := by
    intro fl_29 fu_29 fw_29 li_29 tl_29 pe_29 en_29 pa_29 n29
    induction n29 with
    | zero => intro H locs ls x3_29 nx_29 hf; simp [FX0_prepare_L29] at hf
    | succ n29 ih29 =>
      intro H locs ls x3_29 nx_29 hf hP hD hS hl
      rw [FX0_prepare_L29] at hf
      refine lv_iload_n hx hb dX0_prepare_29 rfl (lv_at hl 1 rfl) ?_
      refine lv_aload_n hx hb dX0_prepare_30 rfl (lv_at hl 0 rfl) ?_
      refine va_get (a := (ad 0)) (ci := 0) (v := .ref (ad 2)) (C := RX0) (T := TX0) (N := 5) hx hb hts hin_X0 hown hK hP 0 rfl rfl 0 (by decide) hw_0 (fun _ h => h) rfl dX0_prepare_31 ?_
      refine va_get (a := (ad 2)) (ci := 1) (v := .int osz) (C := RX1) (T := TX1) (N := 6) hx hb hts hin_X1 hown hK hP 2 rfl rfl 0 (by decide) hw_1 (fun _ h => h) rfl dX0_prepare_34 ?_
      refine lv_icmp_ge (tgt := 63) hx hb dX0_prepare_37 (by decide) (fun c_37 => ?_) (fun c_37 => ?_)
      · replace hf := it_p c_37 hf
        refine lv_aload_n hx hb dX0_prepare_63 rfl (lv_at hl 0 rfl) ?_
        refine va_get (a := (ad 0)) (ci := 0) (v := .ref (ad 2)) (C := RX0) (T := TX0) (N := 5) hx hb hts hin_X0 hown hK hP 0 rfl rfl 0 (by decide) hw_0 (fun _ h => h) rfl dX0_prepare_64 ?_
        replace hf := ob_e hf
        obtain ⟨u_67, hu_67, hf⟩ := hf
        refine ivW (As := []) (rest := []) (st1 := []) (is := [2, 3, 4, 5, 6, 7]) (w1 := (wX1_0_1_2_3_4_5 cy (fun i => ad (2 + i)) n osz nx_29 u_67.1 u_67.2.1 u_67.2.2.1 u_67.2.2.2)) ⟨hx, hb, hml, hown, hts⟩ hK hN (KX1_followAll l D cy (fun i => ad (2 + i)) n osz nx_29 tl_29 pe_29 en_29 pa_29 H.size hu_67) (cwV 0 hts gX0_prepare_X1_followAll rfl rfl rfl (by decide +kernel) ⟨Nat.le_of_ble_eq_true rfl, Nat.le_of_ble_eq_true rfl⟩) (va_recv hK hP (ci := 1) (q0 := 2) rfl rfl) hP hD hS hA P_nil (sepW_nil _) (by decide) rfl rfl rfl hl.1 rfl (Nat.le_of_ble_eq_true rfl) rfl dX0_prepare_67 ⟨Nat.zero_le _, Nat.zero_le _⟩ (fun H locs hP hD hS => ?_)
        have hP : va_P D vwCl ((wX0_0_1_2_3_4_5_6_7 cy ad n fl_29 fu_29 fw_29 li_29 osz nx_29 u_67.1 u_67.2.1 u_67.2.2.1 u_67.2.2.2)) H := hP
        have hD : va_D A ((wX0_0_1_2_3_4_5_6_7 cy ad n fl_29 fu_29 fw_29 li_29 osz nx_29 u_67.1 u_67.2.1 u_67.2.2.1 u_67.2.2.2)) := hD
        refine lv_aload_n hx hb dX0_prepare_70 rfl (lv_at hl 0 rfl) ?_
        refine lv_iconst (v := 0) hx hb dX0_prepare_71 (by decide) ?_
        refine va_put (a := (ad 0)) (ci := 0) (v := .int 0) (ty := .int) (C := RX0) (T := TX0) (N := 5) hx hb hts hin_X0 tyX0 tyX0_ok nmX0 hown hK hP hD hS 0 rfl rfl 2 (by decide) hw_2 (fun _ h => h) rfl (by decide +kernel) rfl rfl (Nat.le_of_ble_eq_true rfl) dX0_prepare_72 (fun H locs hP hD hS => ?_)
        have hP : va_P D vwCl ((wX0_0_1_2_3_4_5_6_7 cy ad n 0 fu_29 fw_29 li_29 osz nx_29 u_67.1 u_67.2.1 u_67.2.2.1 u_67.2.2.2)) H := hP
        have hD : va_D A ((wX0_0_1_2_3_4_5_6_7 cy ad n 0 fu_29 fw_29 li_29 osz nx_29 u_67.1 u_67.2.1 u_67.2.2.1 u_67.2.2.2)) := hD
        refine lv_iconst (v := 0) hx hb dX0_prepare_75 (by decide) ?_
        refine lv_istore_n (lv' := [(3, .int 0), (0, .ref (ad 0))]) hx hb dX0_prepare_76 rfl hl (by decide) rfl (fun ls hl => ?_)
        exact L77 fu_29 fw_29 nx_29 u_67.1 u_67.2.1 u_67.2.2.1 u_67.2.2.2 FU H locs ls 0 0 li_29 hf hP hD hS (lv_sub hl [1, 0] rfl)
      · replace hf := it_n c_37 hf
        refine lv_aload_n hx hb dX0_prepare_40 rfl (lv_at hl 0 rfl) ?_
        refine va_get (a := (ad 0)) (ci := 0) (v := .ref (ad 2)) (C := RX0) (T := TX0) (N := 5) hx hb hts hin_X0 hown hK hP 0 rfl rfl 0 (by decide) hw_0 (fun _ h => h) rfl dX0_prepare_41 ?_
        refine va_get (a := (ad 2)) (ci := 1) (v := .ref (ad 3)) (C := RX1) (T := TX1) (N := 6) hx hb hts hin_X1 hown hK hP 2 rfl rfl 1 (by decide) hw_5 (fun _ h => h) rfl dX0_prepare_44 ?_
        refine lv_iload_n hx hb dX0_prepare_47 rfl (lv_at hl 1 rfl) ?_
        refine lv_aload_n hx hb dX0_prepare_48 rfl (lv_at hl 0 rfl) ?_
        refine lv_iload_n hx hb dX0_prepare_49 rfl (lv_at hl 1 rfl) ?_
        refine lv_bipush (v := 116) hx hb dX0_prepare_50 (by decide) ?_
        refine lv_isub hx hb dX0_prepare_52 ?_
        replace hf := ob_e hf
        obtain ⟨u_53, hu_53, hf⟩ := hf
        refine ivR (As := [.int (x3_29 - 116)]) (rest := [.int x3_29, .ref (ad 3)]) (st1 := [.int u_53, .int x3_29, .ref (ad 3)]) ⟨hx, hb, hml, hown, hts⟩ hK hN (KX0_follower l D cy ad fl_29 fu_29 fw_29 (x3_29 - 116) H.size hu_53) (cwV 1 hts gX0_prepare_X0_follower rfl rfl rfl (by decide +kernel) ⟨Nat.le_of_ble_eq_true rfl, Nat.le_of_ble_eq_true rfl⟩) (va_recv hK hP (ci := 0) (q0 := 0) rfl rfl) (P_pl (wc := (wX0_0 cy ad fl_29 fu_29 fw_29)) (is := [0]) hP rfl) rfl hl.1 rfl (Nat.le_of_ble_eq_true rfl) rfl dX0_prepare_53 ⟨Nat.zero_le _, Nat.zero_le _⟩ ?_
        replace hf := gi_e hf
        obtain ⟨i_56, hf⟩ := hf
        refine va_iast (a := (ad 3)) hx hb hK hP hD hS 3 0 rfl rfl i_56 dX0_prepare_56 (fun H locs hP hD hS => ?_)
        have hP : va_P D vwCl ((wX0_0_1_2_3_4_5_6_7 cy ad n fl_29 fu_29 fw_29 li_29 osz (upd nx_29 (Int32.toNatClampNeg x3_29) u_53) tl_29 pe_29 en_29 pa_29)) H := hP
        have hD : va_D A ((wX0_0_1_2_3_4_5_6_7 cy ad n fl_29 fu_29 fw_29 li_29 osz (upd nx_29 (Int32.toNatClampNeg x3_29) u_53) tl_29 pe_29 en_29 pa_29)) := hD
        obtain ⟨v_57, e_57⟩ : ∃ y : Int32, y = x3_29 + 1 := ⟨_, rfl⟩
        replace hf := bd_at e_57 hf
        refine lv_iinc (v := v_57) (lv' := [(3, .int v_57), (0, .ref (ad 0))]) hx hb dX0_prepare_57 hl (k := 1) rfl (by rw [e_57]; rfl) (by decide) rfl (fun ls hl => ?_)
        clear e_57
        refine lv_goto (tgt := 29) hx hb dX0_prepare_60 (by decide) ?_
        exact ih29 H locs ls v_57 (upd nx_29 (Int32.toNatClampNeg x3_29) u_53) hf hP hD hS (lv_sub hl [1, 0] rfl)
  have J17 : ∀ (H : Heap) (locs : List Loc) (ls : Array Slot) (fl_17 : Int32) (fu_17 : Int32) (fw_17 : Int32) (li_17 : Nat → Int32) (nx_17 : Nat → Int32) (tl_17 : Nat → Int32) (pe_17 : Nat → Int32) (en_17 : Nat → Int32) (pa_17 : Nat → Int32), FX0_prepare_J17 x1 x2 n li_17 osz nx_17 tl_17 pe_17 en_17 pa_17 = some out → va_P D vwCl ((wX0_0_1_2_3_4_5_6_7 cy ad n fl_17 fu_17 fw_17 li_17 osz nx_17 tl_17 pe_17 en_17 pa_17)) H → va_D A ((wX0_0_1_2_3_4_5_6_7 cy ad n fl_17 fu_17 fw_17 li_17 osz nx_17 tl_17 pe_17 en_17 pa_17)) → va_S A s.heap H locs → lv_has ls 4 [(0, .ref (ad 0)), (1, .int x1), (2, .int x2)] → W p l e RMX0_prepare s m args below meth c H locs 0 0 QQ (F0 m 17 ls []) := by
    intro H locs ls fl_17 fu_17 fw_17 li_17 nx_17 tl_17 pe_17 en_17 pa_17 hf hP hD hS hl
    unfold FX0_prepare_J17 at hf
    refine lv_aload_n hx hb dX0_prepare_17 rfl (lv_at hl 0 rfl) ?_
    refine lv_iload_n hx hb dX0_prepare_18 rfl (lv_at hl 1 rfl) ?_
    refine va_put (a := (ad 0)) (ci := 0) (v := .int x1) (ty := .int) (C := RX0) (T := TX0) (N := 5) hx hb hts hin_X0 tyX0 tyX0_ok nmX0 hown hK hP hD hS 0 rfl rfl 3 (by decide) hw_6 (fun _ h => h) rfl (by decide +kernel) rfl rfl (Nat.le_of_ble_eq_true rfl) dX0_prepare_19 (fun H locs hP hD hS => ?_)
    have hP : va_P D vwCl ((wX0_0_1_2_3_4_5_6_7 cy ad n fl_17 x1 fw_17 li_17 osz nx_17 tl_17 pe_17 en_17 pa_17)) H := hP
    have hD : va_D A ((wX0_0_1_2_3_4_5_6_7 cy ad n fl_17 x1 fw_17 li_17 osz nx_17 tl_17 pe_17 en_17 pa_17)) := hD
    refine lv_aload_n hx hb dX0_prepare_22 rfl (lv_at hl 0 rfl) ?_
    refine lv_iload_n hx hb dX0_prepare_23 rfl (lv_at hl 2 rfl) ?_
    refine va_put (a := (ad 0)) (ci := 0) (v := .int x2) (ty := .int) (C := RX0) (T := TX0) (N := 5) hx hb hts hin_X0 tyX0 tyX0_ok nmX0 hown hK hP hD hS 0 rfl rfl 4 (by decide) hw_7 (fun _ h => h) rfl (by decide +kernel) rfl rfl (Nat.le_of_ble_eq_true rfl) dX0_prepare_24 (fun H locs hP hD hS => ?_)
    have hP : va_P D vwCl ((wX0_0_1_2_3_4_5_6_7 cy ad n fl_17 x1 x2 li_17 osz nx_17 tl_17 pe_17 en_17 pa_17)) H := hP
    have hD : va_D A ((wX0_0_1_2_3_4_5_6_7 cy ad n fl_17 x1 x2 li_17 osz nx_17 tl_17 pe_17 en_17 pa_17)) := hD
    refine lv_iconst (v := 0) hx hb dX0_prepare_27 (by decide) ?_
    refine lv_istore_n (lv' := [(3, .int 0), (0, .ref (ad 0)), (1, .int x1), (2, .int x2)]) hx hb dX0_prepare_28 rfl hl (by decide) rfl (fun ls hl => ?_)
    exact L29 fl_17 x1 x2 li_17 tl_17 pe_17 en_17 pa_17 FU H locs ls 0 nx_17 hf hP hD hS (lv_sub hl [1, 0] rfl)
  unfold FX0_prepare at hf
  refine lv_aload_n hx hb dX0_prepare_0 rfl (lv_at hl 0 rfl) ?_
  refine va_get (a := (ad 0)) (ci := 0) (v := .int fu) (C := RX0) (T := TX0) (N := 5) hx hb hts hin_X0 hown hK hP 0 rfl rfl 3 (by decide) hw_6 (fun _ h => h) rfl dX0_prepare_1 ?_
  refine lv_iload_n hx hb dX0_prepare_4 rfl (lv_at hl 1 rfl) ?_
  refine lv_icmp_ne (tgt := 17) hx hb dX0_prepare_5 (by decide) (fun c_5 => ?_) (fun c_5 => ?_)
  · replace hf := it_n c_5 hf
    exact J17 H locs ls fl fu fw li nx tl pe en pa hf hP hD hS (lv_sub hl [0, 1, 2] rfl)
  · replace hf := it_p c_5 hf
    refine lv_aload_n hx hb dX0_prepare_8 rfl (lv_at hl 0 rfl) ?_
    refine va_get (a := (ad 0)) (ci := 0) (v := .int fw) (C := RX0) (T := TX0) (N := 5) hx hb hts hin_X0 hown hK hP 0 rfl rfl 4 (by decide) hw_7 (fun _ h => h) rfl dX0_prepare_9 ?_
    refine lv_iload_n hx hb dX0_prepare_12 rfl (lv_at hl 2 rfl) ?_
    refine lv_icmp_ne (tgt := 17) hx hb dX0_prepare_13 (by decide) (fun c_13 => ?_) (fun c_13 => ?_)
    · replace hf := it_n c_13 hf
      exact J17 H locs ls fl fu fw li nx tl pe en pa hf hP hD hS (lv_sub hl [0, 1, 2] rfl)
    · replace hf := it_p c_13 hf
      obtain rfl := Option.some.inj hf
      rw [← hQe]
      exact W.vret hx hb hr (fun t ht hW => ⟨rfl, by rw [ht]; exact hP, hS.F ht⟩) hS.2.2 dX0_prepare_16
def FX0_ofListed  (n : Nat) (fl : Int32) (li : Nat → Int32) (tl : Nat → Int32) (pe : Nat → Int32) (x1 : Int32) (x2 : Int32) : Option (Int32) := (if x1 < 0 then (some ((-1000000))) else (if x1 < fl then (gi x1 n (bd (li (Int32.toNatClampNeg x1)) (fun v_21 => if x2 = 0 then (some ((v_21 - 116))) else if x2 = 1 then (gi v_21 n (some ((tl (Int32.toNatClampNeg v_21))))) else (gi v_21 n (some ((pe (Int32.toNatClampNeg v_21)))))))) else (some ((-1000000)))))
abbrev RMX0_ofListed : Room := { frames := 0, cells := 0, slots := 0, locals := 0 }
set_option maxHeartbeats 4000000 in
set_option maxRecDepth 100000 in
theorem KX0_ofListed (l : Launch) (D : va_G) (cy : Nat → ClassId) (ad : Nat → Nat) (n : Nat) (fl : Int32) (fu : Int32) (fw : Int32) (li : Nat → Int32) (osz : Int32) (tl : Nat → Int32) (pe : Nat → Int32) (x1 : Int32) (x2 : Int32) (sz : Nat) {out : Int32} (hf : FX0_ofListed n fl li tl pe x1 x2 = some out) : Met l yX0_ofListed wsX0_ofListed RMX0_ofListed (PW D cy [.ref (ad 0), .int x1, .int x2] sz [] ((wX0_0_1_2_4_5 cy ad n fl fu fw li osz tl pe))) (QR (some (.int out))) 0 0 no_A := by
  refine Met.ofW (cc := cX0_ofListed) (maxL := 4) (ret := (some .int)) (by decide +kernel) rfl ?_
  intro p e s m args below meth c s₁ B hml hv
  obtain ⟨hav, hsz, hP, hR0, hK, hN, hD0, hsep⟩ := hv
  have hx := B.exec
  have hb := B.bytes
  have hr := B.returns
  have hts := atoms_spec (ws := wsX0_ofListed) B.pre
  have hown : s.vm.findClass RX0 = some m.cls := findClass_of_methodNamed B.named
  have hlocks := B.notSynchronized
  subst hsz
  have hin_X0 : ∀ w ∈ u_ws RX0 TX0 5, w ∈ wsX0_ofListed := by decide +kernel
  have hin_X1 : ∀ w ∈ u_ws RX1 TX1 6, w ∈ wsX0_ofListed := by decide +kernel
  have hw_0 := hts (.constant RX0 58 (-1000000)) (by decide +kernel)
  have hw_1 := hts (.fieldLink RX0 24 "ReturnPoints$Fractions" "listed" "I") (by decide +kernel)
  have hw_2 := hts (.fieldLink RX0 20 "ReturnPoints$Fractions" "list" "[I") (by decide +kernel)
  have hw_3 := hts (.fieldLink RX0 16 "ReturnPoints$Fractions" "orbits" "LReturnPoints$Orbits;") (by decide +kernel)
  have hw_4 := hts (.fieldLink RX0 59 "ReturnPoints$Orbits" "tail" "[I") (by decide +kernel)
  have hw_5 := hts (.fieldLink RX0 47 "ReturnPoints$Orbits" "period" "[I") (by decide +kernel)
  obtain ⟨ls, hfr, hl⟩ := ent_ok (m := m) (n := 4) (l' := [(0, .ref (ad 0)), (1, .int x1), (2, .int x2)]) [.ref (ad 0), .int x1, .int x2] hav (Nat.le_of_ble_eq_true rfl) rfl
  rw [hfr]
  generalize hQe : MQ below (QR (some (.int out))) args s 0 0 no_A = QQ
  change W p l e RMX0_ofListed s m args below meth c s.heap [] 0 0 QQ (F0 m 0 ls [])
  unfold FX0_ofListed at hf
  refine lv_iload_n hx hb dX0_ofListed_0 rfl (lv_at hl 1 rfl) ?_
  refine lv_if_lt (tgt := 12) hx hb dX0_ofListed_1 (by decide) (fun c_1 => ?_) (fun c_1 => ?_)
  · replace hf := it_p c_1 hf
    refine lv_ldc (own := RX0) (v := (-1000000)) hx hb hown hw_0 dX0_ofListed_12 ?_
    obtain rfl := Option.some.inj hf
    rw [← hQe]
    exact W.iret (v := (-1000000)) hx hb hr (fun t ht hW => ⟨rfl, ht⟩) (fun q h => by cases h) dX0_ofListed_14
  · replace hf := it_n c_1 hf
    refine lv_iload_n hx hb dX0_ofListed_4 rfl (lv_at hl 1 rfl) ?_
    refine lv_aload_n hx hb dX0_ofListed_5 rfl (lv_at hl 0 rfl) ?_
    refine va_get (a := (ad 0)) (ci := 0) (v := .int fl) (C := RX0) (T := TX0) (N := 5) hx hb hts hin_X0 hown hK hR0 0 rfl rfl 2 (by decide) hw_1 (fun _ h => h) rfl dX0_ofListed_6 ?_
    refine lv_icmp_lt (tgt := 15) hx hb dX0_ofListed_9 (by decide) (fun c_9 => ?_) (fun c_9 => ?_)
    · replace hf := it_p c_9 hf
      refine lv_aload_n hx hb dX0_ofListed_15 rfl (lv_at hl 0 rfl) ?_
      refine va_get (a := (ad 0)) (ci := 0) (v := .ref (ad 1)) (C := RX0) (T := TX0) (N := 5) hx hb hts hin_X0 hown hK hR0 0 rfl rfl 1 (by decide) hw_2 (fun _ h => h) rfl dX0_ofListed_16 ?_
      refine lv_iload_n hx hb dX0_ofListed_19 rfl (lv_at hl 1 rfl) ?_
      replace hf := gi_e hf
      obtain ⟨i_20, hf⟩ := hf
      refine va_iald (a := (ad 1)) hx hb hK hR0 1 0 rfl rfl i_20 dX0_ofListed_20 ?_
      refine lv_topi (fun v_21 e_21 => ?_)
      replace hf := bd_at e_21 hf
      clear e_21
      refine lv_istore_n (lv' := [(3, .int v_21), (0, .ref (ad 0)), (1, .int x1), (2, .int x2)]) hx hb dX0_ofListed_21 rfl hl (by decide) rfl (fun ls hl => ?_)
      refine lv_iload_n hx hb dX0_ofListed_22 rfl (lv_at hl 3 rfl) ?_
      by_cases c_23_0 : x2 = 0
      · replace hf := it_p c_23_0 hf
        refine lv_lookup (tgt := 48) (off := 25) hx hb dX0_ofListed_23 (by decide) (by rw [c_23_0]; rfl) (by decide) ?_
        refine lv_iload_n hx hb dX0_ofListed_48 rfl (lv_at hl 0 rfl) ?_
        refine lv_bipush (v := 116) hx hb dX0_ofListed_49 (by decide) ?_
        refine lv_isub hx hb dX0_ofListed_51 ?_
        obtain rfl := Option.some.inj hf
        rw [← hQe]
        exact W.iret (v := (v_21 - 116)) hx hb hr (fun t ht hW => ⟨rfl, ht⟩) (fun q h => by cases h) dX0_ofListed_52
      replace hf := it_n c_23_0 hf
      by_cases c_23_1 : x2 = 1
      · replace hf := it_p c_23_1 hf
        refine lv_lookup (tgt := 53) (off := 30) hx hb dX0_ofListed_23 (by decide) (by rw [c_23_1]; rfl) (by decide) ?_
        refine lv_aload_n hx hb dX0_ofListed_53 rfl (lv_at hl 1 rfl) ?_
        refine va_get (a := (ad 0)) (ci := 0) (v := .ref (ad 2)) (C := RX0) (T := TX0) (N := 5) hx hb hts hin_X0 hown hK hR0 0 rfl rfl 0 (by decide) hw_3 (fun _ h => h) rfl dX0_ofListed_54 ?_
        refine va_get (a := (ad 2)) (ci := 1) (v := .ref (ad 4)) (C := RX1) (T := TX1) (N := 6) hx hb hts hin_X1 hown hK hR0 2 rfl rfl 2 (by decide) hw_4 (fun _ h => h) rfl dX0_ofListed_57 ?_
        refine lv_iload_n hx hb dX0_ofListed_60 rfl (lv_at hl 0 rfl) ?_
        replace hf := gi_e hf
        obtain ⟨i_61, hf⟩ := hf
        refine va_iald (a := (ad 4)) hx hb hK hR0 3 0 rfl rfl i_61 dX0_ofListed_61 ?_
        obtain rfl := Option.some.inj hf
        rw [← hQe]
        exact W.iret (v := (tl (Int32.toNatClampNeg v_21))) hx hb hr (fun t ht hW => ⟨rfl, ht⟩) (fun q h => by cases h) dX0_ofListed_62
      replace hf := it_n c_23_1 hf
      refine lv_lookup (tgt := 63) (off := 40) hx hb dX0_ofListed_23 (by decide) (show Op.lookupswitch.offset [(0, 25), (1, 30)] 40 (x2 : Int32).toInt = 40 from by rw [lv_osw (a := 0) c_23_0 rfl, lv_osw (a := 1) c_23_1 rfl]; rfl) (by decide) ?_
      refine lv_aload_n hx hb dX0_ofListed_63 rfl (lv_at hl 1 rfl) ?_
      refine va_get (a := (ad 0)) (ci := 0) (v := .ref (ad 2)) (C := RX0) (T := TX0) (N := 5) hx hb hts hin_X0 hown hK hR0 0 rfl rfl 0 (by decide) hw_3 (fun _ h => h) rfl dX0_ofListed_64 ?_
      refine va_get (a := (ad 2)) (ci := 1) (v := .ref (ad 5)) (C := RX1) (T := TX1) (N := 6) hx hb hts hin_X1 hown hK hR0 2 rfl rfl 3 (by decide) hw_5 (fun _ h => h) rfl dX0_ofListed_67 ?_
      refine lv_iload_n hx hb dX0_ofListed_70 rfl (lv_at hl 0 rfl) ?_
      replace hf := gi_e hf
      obtain ⟨i_71, hf⟩ := hf
      refine va_iald (a := (ad 5)) hx hb hK hR0 4 0 rfl rfl i_71 dX0_ofListed_71 ?_
      obtain rfl := Option.some.inj hf
      rw [← hQe]
      exact W.iret (v := (pe (Int32.toNatClampNeg v_21))) hx hb hr (fun t ht hW => ⟨rfl, ht⟩) (fun q h => by cases h) dX0_ofListed_72
    · replace hf := it_n c_9 hf
      refine lv_ldc (own := RX0) (v := (-1000000)) hx hb hown hw_0 dX0_ofListed_12 ?_
      obtain rfl := Option.some.inj hf
      rw [← hQe]
      exact W.iret (v := (-1000000)) hx hb hr (fun t ht hW => ⟨rfl, ht⟩) (fun q h => by cases h) dX0_ofListed_14
