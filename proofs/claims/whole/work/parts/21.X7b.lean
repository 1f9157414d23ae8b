def wX7_0_4_5_9_10_11_12_13_14 (cy : Nat → ClassId) (ad : Nat → Nat) (thr : Int32) (sta : Int32) (pri : Int32) (tcd : Int32) (frt : Int32) (frp : Int32) (deg : Nat → Int32) (num : Nat → Int32) (goe : Nat → Int32) (tai : Nat → Int32) (per : Nat → Int32) (lea : Nat → Int32) (com : Nat → Int32) (see : Nat → Int32) : va_W := [(ad 0, .inr (7, [.int thr, .int sta, .int pri, .ref (ad 1), .ref (ad 2), .ref (ad 3), .ref (ad 4), .ref (ad 5), .ref (ad 6), .ref (ad 7), .ref (ad 8), .ref (ad 9), .ref (ad 10), .ref (ad 11), .ref (ad 12), .ref (ad 13), .ref (ad 14), .ref (ad 15), .int tcd, .ref (ad 16), .ref (ad 17), .ref (ad 18), .ref (ad 19), .ref (ad 20), .ref (ad 21), .ref (ad 22), .int frt, .int frp])), (ad 4, .inl (cy 0, 10, .inl deg)), (ad 5, .inl (cy 0, 50, .inl num)), (ad 9, .inl (cy 0, 200, .inl goe)), (ad 10, .inl (cy 0, 200, .inl tai)), (ad 11, .inl (cy 0, 200, .inl per)), (ad 12, .inl (cy 0, 200, .inl lea)), (ad 13, .inl (cy 0, 200, .inl com)), (ad 14, .inl (cy 0, 200, .inl see))]
def wX7_0_15 (cy : Nat → ClassId) (ad : Nat → Nat) (thr : Int32) (sta : Int32) (pri : Int32) (tcd : Int32) (frt : Int32) (frp : Int32) (trc : Nat → Int32) : va_W := [(ad 0, .inr (7, [.int thr, .int sta, .int pri, .ref (ad 1), .ref (ad 2), .ref (ad 3), .ref (ad 4), .ref (ad 5), .ref (ad 6), .ref (ad 7), .ref (ad 8), .ref (ad 9), .ref (ad 10), .ref (ad 11), .ref (ad 12), .ref (ad 13), .ref (ad 14), .ref (ad 15), .int tcd, .ref (ad 16), .ref (ad 17), .ref (ad 18), .ref (ad 19), .ref (ad 20), .ref (ad 21), .ref (ad 22), .int frt, .int frp])), (ad 15, .inl (cy 0, 16, .inl trc))]
def wX7_0_4_5_9_10_11_12_13_14_15 (cy : Nat → ClassId) (ad : Nat → Nat) (thr : Int32) (sta : Int32) (pri : Int32) (tcd : Int32) (frt : Int32) (frp : Int32) (deg : Nat → Int32) (num : Nat → Int32) (goe : Nat → Int32) (tai : Nat → Int32) (per : Nat → Int32) (lea : Nat → Int32) (com : Nat → Int32) (see : Nat → Int32) (trc : Nat → Int32) : va_W := [(ad 0, .inr (7, [.int thr, .int sta, .int pri, .ref (ad 1), .ref (ad 2), .ref (ad 3), .ref (ad 4), .ref (ad 5), .ref (ad 6), .ref (ad 7), .ref (ad 8), .ref (ad 9), .ref (ad 10), .ref (ad 11), .ref (ad 12), .ref (ad 13), .ref (ad 14), .ref (ad 15), .int tcd, .ref (ad 16), .ref (ad 17), .ref (ad 18), .ref (ad 19), .ref (ad 20), .ref (ad 21), .ref (ad 22), .int frt, .int frp])), (ad 4, .inl (cy 0, 10, .inl deg)), (ad 5, .inl (cy 0, 50, .inl num)), (ad 9, .inl (cy 0, 200, .inl goe)), (ad 10, .inl (cy 0, 200, .inl tai)), (ad 11, .inl (cy 0, 200, .inl per)), (ad 12, .inl (cy 0, 200, .inl lea)), (ad 13, .inl (cy 0, 200, .inl com)), (ad 14, .inl (cy 0, 200, .inl see)), (ad 15, .inl (cy 0, 16, .inl trc))]
def wX7_0_10_12 (cy : Nat → ClassId) (ad : Nat → Nat) (thr : Int32) (sta : Int32) (pri : Int32) (tcd : Int32) (frt : Int32) (frp : Int32) (tai : Nat → Int32) (lea : Nat → Int32) : va_W := [(ad 0, .inr (7, [.int thr, .int sta, .int pri, .ref (ad 1), .ref (ad 2), .ref (ad 3), .ref (ad 4), .ref (ad 5), .ref (ad 6), .ref (ad 7), .ref (ad 8), .ref (ad 9), .ref (ad 10), .ref (ad 11), .ref (ad 12), .ref (ad 13), .ref (ad 14), .ref (ad 15), .int tcd, .ref (ad 16), .ref (ad 17), .ref (ad 18), .ref (ad 19), .ref (ad 20), .ref (ad 21), .ref (ad 22), .int frt, .int frp])), (ad 10, .inl (cy 0, 200, .inl tai)), (ad 12, .inl (cy 0, 200, .inl lea))]
def wX7_0_4_5_9_11 (cy : Nat → ClassId) (ad : Nat → Nat) (thr : Int32) (sta : Int32) (pri : Int32) (tcd : Int32) (frt : Int32) (frp : Int32) (deg : Nat → Int32) (num : Nat → Int32) (goe : Nat → Int32) (per : Nat → Int32) : va_W := [(ad 0, .inr (7, [.int thr, .int sta, .int pri, .ref (ad 1), .ref (ad 2), .ref (ad 3), .ref (ad 4), .ref (ad 5), .ref (ad 6), .ref (ad 7), .ref (ad 8), .ref (ad 9), .ref (ad 10), .ref (ad 11), .ref (ad 12), .ref (ad 13), .ref (ad 14), .ref (ad 15), .int tcd, .ref (ad 16), .ref (ad 17), .ref (ad 18), .ref (ad 19), .ref (ad 20), .ref (ad 21), .ref (ad 22), .int frt, .int frp])), (ad 4, .inl (cy 0, 10, .inl deg)), (ad 5, .inl (cy 0, 50, .inl num)), (ad 9, .inl (cy 0, 200, .inl goe)), (ad 11, .inl (cy 0, 200, .inl per))]
def FX7_as  (sta : Int32) (deg : Nat → Int32) (num : Nat → Int32) (x1 : Int32) (x2 : Int32) : Option (Int32 × (Int32) × (Int32)) := (ob (FX7_isPlace x1) (fun u_6 => if (bi u_6) = 0 then (some ((-1000001), 0, sta)) else (ob (FX7_in (Int32.toInt64 x2) 0 5) (fun u_18 => if (bi u_18) = 0 then (some ((-1000001), 0, sta)) else (ob (FX7_look deg x1) (fun u_29 => bd u_29.1 (fun v_32 => if 0 ≤ v_32 then (ob (FX7_kindOf deg num x1) (fun u_43 => ob (FX7_isOf u_43 x2) (fun u_47 => if (bi u_47) = 0 then (ob (FX7_found 3) (fun u_64 => (some (u_64.1, 0, u_64.2)))) else (gi x1 10 ((some ((deg (Int32.toNatClampNeg x1)), 0, u_29.2))))))) else ((some (v_32, 0, u_29.2))))))))))
abbrev RMX7_as : Room := { frames := 2, cells := 0, slots := 0, locals := 45 }
set_option maxHeartbeats 4000000 in
set_option maxRecDepth 100000 in
theorem KX7_as (l : Launch) (D : va_G) (cy : Nat → ClassId) (ad : Nat → Nat) (thr : Int32) (sta : Int32) (pri : Int32) (tcd : Int32) (frt : Int32) (frp : Int32) (deg : Nat → Int32) (num : Nat → Int32) (x1 : Int32) (x2 : Int32) (sz : Nat) {out : Int32 × (Int32) × (Int32)} (hf : FX7_as sta deg num x1 x2 = some out) : Met l yX7_as wsX7_as RMX7_as (PW D cy [.ref (ad 0), .int x1, .int x2] sz ((wX7_0_4_5 cy ad thr sta pri tcd frt frp deg num)) []) (QW D (some (.int out.1)) ((wX7_0_4_5 cy ad out.2.1 out.2.2 pri tcd frt frp deg num)) (va_A ((wX7_0_4_5 cy ad thr sta pri tcd frt frp deg num)) sz)) 0 0 (va_A ((wX7_0_4_5 cy ad thr sta pri tcd frt frp deg num)) sz) := by
  refine Met.ofW (cc := cX7_as) (maxL := 4) (ret := (some .int)) (by decide +kernel) rfl ?_
  intro p e s m args below meth c s₁ B hml hv
  obtain ⟨hav, hsz, hP, hR0, hK, hN, hD0, hsep⟩ := hv
  have hx := B.exec
  have hb := B.bytes
  have hr := B.returns
  have hts := atoms_spec (ws := wsX7_as) B.pre
  have hown : s.vm.findClass RX7 = some m.cls := findClass_of_methodNamed B.named
  have hlocks := B.notSynchronized
  subst hsz
  have hin_X7 : ∀ w ∈ u_ws RX7 TX7 28, w ∈ wsX7_as := by decide +kernel
  have hw_0 := hts (.constant RX7 108 (-1000001)) (by decide +kernel)
  have hw_1 := hts (.constantLong RX7 123 (5)) (by decide +kernel)
  have hw_2 := hts (.fieldLink RX7 1 "ReturnPointsModel" "thrown" "I") (by decide +kernel)
  have hw_3 := hts (.fieldLink RX7 28 "ReturnPointsModel" "degree" "[I") (by decide +kernel)
  have hD := hD0.self (sz := s.heap.size)
  have hnA := roA hsep hR0
  generalize hAe : va_A ((wX7_0_4_5 cy ad thr sta pri tcd frt frp deg num)) s.heap.size = A at hD hnA ⊢
  have hA : ∀ q : Nat, s.heap.size ≤ q → A q := fun q h => by rw [← hAe]; exact Or.inr h
  have hS : va_S A s.heap s.heap [] := va_S.rf
  obtain ⟨ls, hfr, hl⟩ := ent_ok (m := m) (n := 4) (l' := [(0, .ref (ad 0)), (1, .int x1), (2, .int x2)]) [.ref (ad 0), .int x1, .int x2] hav (Nat.le_of_ble_eq_true rfl) rfl
  rw [hfr]
  generalize hQe : MQ below (QW D (some (.int out.1)) ((wX7_0_4_5 cy ad out.2.1 out.2.2 pri tcd frt frp deg num)) A) args s 0 0 A = QQ
  change W p l e RMX7_as s m args below meth c s.heap [] 0 0 QQ (F0 m 0 ls [])
  have hP : va_P D vwCl ((wX7_0_4_5 cy ad thr sta pri tcd frt frp deg num)) s.heap := hP
  have hD : va_D A ((wX7_0_4_5 cy ad thr sta pri tcd frt frp deg num)) := hD
  suffices h00 : ∀ (H : Heap) (locs : List Loc), va_P D vwCl ((wX7_0_4_5 cy ad thr sta pri tcd frt frp deg num)) H → va_S A s.heap H locs → W p l e RMX7_as s m args below meth c H locs 0 0 QQ (F0 m 0 ls []) from h00 _ _ hP hS
  clear hP hS
  intro H locs hP hS
  unfold FX7_as at hf
  refine lv_aload_n hx hb dX7_as_0 rfl (lv_at hl 0 rfl) ?_
  refine lv_iconst (v := 0) hx hb dX7_as_1 (by decide) ?_
  refine va_put (a := (ad 0)) (ci := 7) (v := .int 0) (ty := .int) (C := RX7) (T := TX7) (N := 28) hx hb hts hin_X7 tyX7 tyX7_ok nmX7 hown hK hP hD hS 0 rfl rfl 0 (by decide) hw_2 (fun _ h => h) rfl (by decide +kernel) rfl rfl (Nat.le_of_ble_eq_true rfl) dX7_as_2 (fun H locs hP hD hS => ?_)
  have hP : va_P D vwCl ((wX7_0_4_5 cy ad 0 sta pri tcd frt frp deg num)) H := hP
  have hD : va_D A ((wX7_0_4_5 cy ad 0 sta pri tcd frt frp deg num)) := hD
  refine lv_iload_n hx hb dX7_as_5 rfl (lv_at hl 1 rfl) ?_
  replace hf := ob_e hf
  obtain ⟨u_6, hu_6, hf⟩ := hf
  refine isR (As := [.int x1]) (rest := []) (st1 := [.int (bi u_6)]) ⟨hx, hb, hml, hown, hts⟩ hK hN (KX7_isPlace l D cy x1 H.size hu_6) (va_cwS 1 hts gX7_as_X7_isPlace rfl rfl rfl (by decide +kernel) ⟨Nat.le_of_ble_eq_true rfl, Nat.le_of_ble_eq_true rfl⟩) P_nil rfl hl.1 rfl (Nat.le_of_ble_eq_true rfl) rfl dX7_as_6 ⟨Nat.zero_le _, Nat.zero_le _⟩ ?_
  refine lv_if_eq (tgt := 24) hx hb dX7_as_9 (by decide) (fun c_9 => ?_) (fun c_9 => ?_)
  · replace hf := it_p c_9 hf
    refine lv_ldc (own := RX7) (v := (-1000001)) hx hb hown hw_0 dX7_as_24 ?_
    obtain rfl := Option.some.inj hf
    rw [← hQe]
    exact W.iret (v := (-1000001)) hx hb hr (fun t ht hW => ⟨rfl, by rw [ht]; exact hP, hS.F ht⟩) hS.2.2 dX7_as_26
  · replace hf := it_n c_9 hf
    refine lv_iload_n hx hb dX7_as_12 rfl (lv_at hl 2 rfl) ?_
    refine lv_i2l hx hb dX7_as_13 rfl ?_
    refine lv_lconst (v := 0) hx hb dX7_as_14 (by decide) ?_
    refine lv_ldc2 (own := RX7) (v := 5) hx hb hown hw_1 dX7_as_15 ?_
    replace hf := ob_e hf
    obtain ⟨u_18, hu_18, hf⟩ := hf
    refine isR (As := [.long (Int32.toInt64 x2), .long 0, .long 5]) (rest := []) (st1 := [.int (bi u_18)]) ⟨hx, hb, hml, hown, hts⟩ hK hN (KX7_in l D cy (Int32.toInt64 x2) 0 5 H.size hu_18) (va_cwS 3 hts gX7_as_X7_in rfl rfl rfl (by decide +kernel) ⟨Nat.le_of_ble_eq_true rfl, Nat.le_of_ble_eq_true rfl⟩) P_nil rfl hl.1 rfl (Nat.le_of_ble_eq_true rfl) rfl dX7_as_18 ⟨Nat.zero_le _, Nat.zero_le _⟩ ?_
    refine lv_if_ne (tgt := 27) hx hb dX7_as_21 (by decide) (fun c_21 => ?_) (fun c_21 => ?_)
    · replace hf := it_n c_21 hf
      refine lv_aload_n hx hb dX7_as_27 rfl (lv_at hl 0 rfl) ?_
      refine lv_iload_n hx hb dX7_as_28 rfl (lv_at hl 1 rfl) ?_
      replace hf := ob_e hf
      obtain ⟨u_29, hu_29, hf⟩ := hf
      refine ivW (As := [.int x1]) (rest := []) (st1 := [.int u_29.1]) (is := [0, 1]) (w1 := (wX7_0_4 cy ad 0 u_29.2 pri tcd frt frp deg)) ⟨hx, hb, hml, hown, hts⟩ hK hN (KX7_look l D cy ad 0 sta pri tcd frt frp deg x1 H.size hu_29) (cwV 1 hts gX7_as_X7_look rfl rfl rfl (by decide +kernel) ⟨Nat.le_of_ble_eq_true rfl, Nat.le_of_ble_eq_true rfl⟩) (va_recv hK hP (ci := 7) (q0 := 0) rfl rfl) hP hD hS hA P_nil (sepW_nil _) (by decide) rfl rfl rfl hl.1 rfl (Nat.le_of_ble_eq_true rfl) rfl dX7_as_29 ⟨Nat.zero_le _, Nat.zero_le _⟩ (fun H locs hP hD hS => ?_)
      have hP : va_P D vwCl ((wX7_0_4_5 cy ad 0 u_29.2 pri tcd frt frp deg num)) H := hP
      have hD : va_D A ((wX7_0_4_5 cy ad 0 u_29.2 pri tcd frt frp deg num)) := hD
      refine lv_topi (fun v_32 e_32 => ?_)
      replace hf := bd_at e_32 hf
      clear e_32
      refine lv_istore_n (lv' := [(3, .int v_32), (0, .ref (ad 0)), (1, .int x1), (2, .int x2)]) hx hb dX7_as_32 rfl hl (by decide) rfl (fun ls hl => ?_)
      refine lv_iload_n hx hb dX7_as_33 rfl (lv_at hl 0 rfl) ?_
      refine lv_if_ge (tgt := 41) hx hb dX7_as_34 (by decide) (fun c_34 => ?_) (fun c_34 => ?_)
      · replace hf := it_p c_34 hf
        refine lv_aload_n hx hb dX7_as_41 rfl (lv_at hl 1 rfl) ?_
        refine lv_iload_n hx hb dX7_as_42 rfl (lv_at hl 2 rfl) ?_
        replace hf := ob_e hf
        obtain ⟨u_43, hu_43, hf⟩ := hf
        refine ivR (As := [.int x1]) (rest := []) (st1 := [.int u_43]) ⟨hx, hb, hml, hown, hts⟩ hK hN (KX7_kindOf l D cy ad 0 u_29.2 pri tcd frt frp deg num x1 H.size hu_43) (cwV 1 hts gX7_as_X7_kindOf rfl rfl rfl (by decide +kernel) ⟨Nat.le_of_ble_eq_true rfl, Nat.le_of_ble_eq_true rfl⟩) (va_recv hK hP (ci := 7) (q0 := 0) rfl rfl) (P_pl (wc := (wX7_0_4_5 cy ad 0 u_29.2 pri tcd frt frp deg num)) (is := [0, 1, 2]) hP rfl) rfl hl.1 rfl (Nat.le_of_ble_eq_true rfl) rfl dX7_as_43 ⟨Nat.zero_le _, Nat.zero_le _⟩ ?_
        refine lv_iload_n hx hb dX7_as_46 rfl (lv_at hl 3 rfl) ?_
        replace hf := ob_e hf
        obtain ⟨u_47, hu_47, hf⟩ := hf
        refine isR (As := [.int u_43, .int x2]) (rest := []) (st1 := [.int (bi u_47)]) ⟨hx, hb, hml, hown, hts⟩ hK hN (KX7_isOf l D cy u_43 x2 H.size hu_47) (va_cwS 2 hts gX7_as_X7_isOf rfl rfl rfl (by decide +kernel) ⟨Nat.le_of_ble_eq_true rfl, Nat.le_of_ble_eq_true rfl⟩) P_nil rfl hl.1 rfl (Nat.le_of_ble_eq_true rfl) rfl dX7_as_47 ⟨Nat.zero_le _, Nat.zero_le _⟩ ?_
        refine lv_if_eq (tgt := 62) hx hb dX7_as_50 (by decide) (fun c_50 => ?_) (fun c_50 => ?_)
        · replace hf := it_p c_50 hf
          refine lv_aload_n hx hb dX7_as_62 rfl (lv_at hl 1 rfl) ?_
          refine lv_iconst (v := 3) hx hb dX7_as_63 (by decide) ?_
          replace hf := ob_e hf
          obtain ⟨u_64, hu_64, hf⟩ := hf
          refine ivW (As := [.int 3]) (rest := []) (st1 := [.int u_64.1]) (is := [0]) (w1 := (wX7_0 cy ad 0 u_64.2 pri tcd frt frp)) ⟨hx, hb, hml, hown, hts⟩ hK hN (KX7_found l D cy ad 0 u_29.2 pri tcd frt frp 3 H.size hu_64) (cwV 1 hts gX7_as_X7_found rfl rfl rfl (by decide +kernel) ⟨Nat.le_of_ble_eq_true rfl, Nat.le_of_ble_eq_true rfl⟩) (va_recv hK hP (ci := 7) (q0 := 0) rfl rfl) hP hD hS hA P_nil (sepW_nil _) (by decide) rfl rfl rfl hl.1 rfl (Nat.le_of_ble_eq_true rfl) rfl dX7_as_64 ⟨Nat.zero_le _, Nat.zero_le _⟩ (fun H locs hP hD hS => ?_)
          have hP : va_P D vwCl ((wX7_0_4_5 cy ad 0 u_64.2 pri tcd frt frp deg num)) H := hP
          have hD : va_D A ((wX7_0_4_5 cy ad 0 u_64.2 pri tcd frt frp deg num)) := hD
          obtain rfl := Option.some.inj hf
          rw [← hQe]
          exact W.iret (v := u_64.1) hx hb hr (fun t ht hW => ⟨rfl, by rw [ht]; exact hP, hS.F ht⟩) hS.2.2 dX7_as_67
        · replace hf := it_n c_50 hf
          refine lv_aload_n hx hb dX7_as_53 rfl (lv_at hl 1 rfl) ?_
          refine va_get (a := (ad 0)) (ci := 7) (v := .ref (ad 4)) (C := RX7) (T := TX7) (N := 28) hx hb hts hin_X7 hown hK hP 0 rfl rfl 6 (by decide) hw_3 (fun _ h => h) rfl dX7_as_54 ?_
          refine lv_iload_n hx hb dX7_as_57 rfl (lv_at hl 2 rfl) ?_
          replace hf := gi_e hf
          obtain ⟨i_58, hf⟩ := hf
          refine va_iald (a := (ad 4)) hx hb hK hP 1 0 rfl rfl i_58 dX7_as_58 ?_
          refine lv_goto (tgt := 67) hx hb dX7_as_59 (by decide) ?_
          obtain rfl := Option.some.inj hf
          rw [← hQe]
          exact W.iret (v := (deg (Int32.toNatClampNeg x1))) hx hb hr (fun t ht hW => ⟨rfl, by rw [ht]; exact hP, hS.F ht⟩) hS.2.2 dX7_as_67
      · replace hf := it_n c_34 hf
        refine lv_iload_n hx hb dX7_as_37 rfl (lv_at hl 0 rfl) ?_
        refine lv_goto (tgt := 67) hx hb dX7_as_38 (by decide) ?_
        obtain rfl := Option.some.inj hf
        rw [← hQe]
        exact W.iret (v := v_32) hx hb hr (fun t ht hW => ⟨rfl, by rw [ht]; exact hP, hS.F ht⟩) hS.2.2 dX7_as_67
    · replace hf := it_p c_21 hf
      refine lv_ldc (own := RX7) (v := (-1000001)) hx hb hown hw_0 dX7_as_24 ?_
      obtain rfl := Option.some.inj hf
      rw [← hQe]
      exact W.iret (v := (-1000001)) hx hb hr (fun t ht hW => ⟨rfl, by rw [ht]; exact hP, hS.F ht⟩) hS.2.2 dX7_as_26
def FX7_valueOf_L10   (x1 : Int32) (x2 : Int32) (pri : Int32) (num : Nat → Int32) : Nat → Int32 → Int32 → Option (Int32)
  | 0, _, _ => none
  | fuel + 1, x3_10, x4_10 => (if x4_10 < 0 then (some (x3_10)) else (gi ((5 * x1) + x4_10) 50 (gd (¬ pri = 0) (bd (irm ((x3_10 * x2) + (num (Int32.toNatClampNeg ((5 * x1) + x4_10)))) pri) (fun v_35 => bd (x4_10 + (-1)) (fun v_36 => (FX7_valueOf_L10 x1 x2 pri num fuel) v_35 v_36))))))
def FX7_valueOf  (pri : Int32) (deg : Nat → Int32) (num : Nat → Int32) (x1 : Int32) (x2 : Int32) : Option (Int32) := (gi x1 10 (bd (deg (Int32.toNatClampNeg x1)) (fun v_8 => FX7_valueOf_L10 x1 x2 pri num FU 0 v_8)))
abbrev RMX7_valueOf : Room := { frames := 0, cells := 0, slots := 0, locals := 0 }
set_option maxHeartbeats 4000000 in
set_option maxRecDepth 100000 in
theorem KX7_valueOf (l : Launch) (D : va_G) (cy : Nat → ClassId) (ad : Nat → Nat) (thr : Int32) (sta : Int32) (pri : Int32) (tcd : Int32) (frt : Int32) (frp : Int32) (deg : Nat → Int32) (num : Nat → Int32) (x1 : Int32) (x2 : Int32) (sz : Nat) {out : Int32} (hf : FX7_valueOf pri deg num x1 x2 = some out) : Met l yX7_valueOf wsX7_valueOf RMX7_valueOf (PW D cy [.ref (ad 0), .int x1, .int x2] sz [] ((wX7_0_4_5 cy ad thr sta pri tcd frt frp deg num))) (QR (some (.int out))) 0 0 no_A := by
  refine Met.ofW (cc := cX7_valueOf) (maxL := 5) (ret := (some .int)) (by decide +kernel) rfl ?_
  intro p e s m args below meth c s₁ B hml hv
  obtain ⟨hav, hsz, hP, hR0, hK, hN, hD0, hsep⟩ := hv
  have hx := B.exec
  have hb := B.bytes
  have hr := B.returns
  have hts := atoms_spec (ws := wsX7_valueOf) B.pre
  have hown : s.vm.findClass RX7 = some m.cls := findClass_of_methodNamed B.named
  have hlocks := B.notSynchronized
  subst hsz
  have hin_X7 : ∀ w ∈ u_ws RX7 TX7 28, w ∈ wsX7_valueOf := by decide +kernel
  have hw_0 := hts (.fieldLink RX7 31 "ReturnPointsModel" "number" "[I") (by decide +kernel)
  have hw_1 := hts (.fieldLink RX7 98 "ReturnPointsModel" "prime" "I") (by decide +kernel)
  have hw_2 := hts (.fieldLink RX7 28 "ReturnPointsModel" "degree" "[I") (by decide +kernel)
  obtain ⟨ls, hfr, hl⟩ := ent_ok (m := m) (n := 5) (l' := [(0, .ref (ad 0)), (1, .int x1), (2, .int x2)]) [.ref (ad 0), .int x1, .int x2] hav (Nat.le_of_ble_eq_true rfl) rfl
  rw [hfr]
  generalize hQe : MQ below (QR (some (.int out))) args s 0 0 no_A = QQ
  change W p l e RMX7_valueOf s m args below meth c s.heap [] 0 0 QQ (F0 m 0 ls [])
  have L10 : ∀  (n10 : Nat) (ls : Array Slot) (x3_10 : Int32) (x4_10 : Int32), FX7_valueOf_L10 x1 x2 pri num n10 x3_10 x4_10 = some out → lv_has ls 5 [(0, .ref (ad 0)), (1, .int x1), (2, .int x2), (3, .int x3_10), (4, .int x4_10)] → W p l e RMX7_valueOf s m args below meth c s.heap [] 0 0 QQ (F0 m 10 ls []) := by
    intro  n10
    induction n10 with
    | zero => intro ls x3_10 x4_10 hf; simp [FX7_valueOf_L10] at hf
    | succ n10 ih10 =>
      intro ls x3_10 x4_10 hf hl
      rw [FX7_valueOf_L10] at hf
      refine lv_iload hx hb dX7_valueOf_10 (lv_at hl 4 rfl) ?_
      refine lv_if_lt (tgt := 42) hx hb dX7_valueOf_12 (by decide) (fun c_12 => ?_) (fun c_12 => ?_)
      · replace hf := it_p c_12 hf
        refine lv_iload_n hx hb dX7_valueOf_42 rfl (lv_at hl 3 rfl) ?_
        obtain rfl := Option.some.inj hf
        rw [← hQe]
        exact W.iret (v := x3_10) hx hb hr (fun t ht hW => ⟨rfl, ht⟩) (fun q h => by cases h) dX7_valueOf_43
      · replace hf := it_n c_12 hf
        refine lv_iload_n hx hb dX7_valueOf_15 rfl (lv_at hl 3 rfl) ?_
        refine lv_iload_n hx hb dX7_valueOf_16 rfl (lv_at hl 2 rfl) ?_
        refine lv_imul hx hb dX7_valueOf_17 ?_
        refine lv_aload_n hx hb dX7_valueOf_18 rfl (lv_at hl 0 rfl) ?_
        refine va_get (a := (ad 0)) (ci := 7) (v := .ref (ad 5)) (C := RX7) (T := TX7) (N := 28) hx hb hts hin_X7 hown hK hR0 0 rfl rfl 7 (by decide) hw_0 (fun _ h => h) rfl dX7_valueOf_19 ?_
        refine lv_iconst (v := 5) hx hb dX7_valueOf_22 (by decide) ?_
        refine lv_iload_n hx hb dX7_valueOf_23 rfl (lv_at hl 1 rfl) ?_
        refine lv_imul hx hb dX7_valueOf_24 ?_
        refine lv_iload hx hb dX7_valueOf_25 (lv_at hl 4 rfl) ?_
        refine lv_iadd hx hb dX7_valueOf_27 ?_
        replace hf := gi_e hf
        obtain ⟨i_28, hf⟩ := hf
        refine va_iald (a := (ad 5)) hx hb hK hR0 2 0 rfl rfl i_28 dX7_valueOf_28 ?_
        refine lv_iadd hx hb dX7_valueOf_29 ?_
        refine lv_aload_n hx hb dX7_valueOf_30 rfl (lv_at hl 0 rfl) ?_
        refine va_get (a := (ad 0)) (ci := 7) (v := .int pri) (C := RX7) (T := TX7) (N := 28) hx hb hts hin_X7 hown hK hR0 0 rfl rfl 2 (by decide) hw_1 (fun _ h => h) rfl dX7_valueOf_31 ?_
        replace hf := gd_e hf
        obtain ⟨z_34, hf⟩ := hf
        refine rw_irem hx hb dX7_valueOf_34 z_34 ?_
        refine lv_topi (fun v_35 e_35 => ?_)
        replace hf := bd_at e_35 hf
        clear e_35
        refine lv_istore_n (lv' := [(3, .int v_35), (0, .ref (ad 0)), (1, .int x1), (2, .int x2), (4, .int x4_10)]) hx hb dX7_valueOf_35 rfl hl (by decide) rfl (fun ls hl => ?_)
        obtain ⟨v_36, e_36⟩ : ∃ y : Int32, y = x4_10 + (-1) := ⟨_, rfl⟩
        replace hf := bd_at e_36 hf
        refine lv_iinc (v := v_36) (lv' := [(4, .int v_36), (3, .int v_35), (0, .ref (ad 0)), (1, .int x1), (2, .int x2)]) hx hb dX7_valueOf_36 hl (k := 4) rfl (by rw [e_36]; rfl) (by decide) rfl (fun ls hl => ?_)
        clear e_36
        refine lv_goto (tgt := 10) hx hb dX7_valueOf_39 (by decide) ?_
        exact ih10 ls v_35 v_36 hf (lv_sub hl [2, 3, 4, 1, 0] rfl)
  unfold FX7_valueOf at hf
  refine lv_iconst (v := 0) hx hb dX7_valueOf_0 (by decide) ?_
  refine lv_istore_n (lv' := [(3, .int 0), (0, .ref (ad 0)), (1, .int x1), (2, .int x2)]) hx hb dX7_valueOf_1 rfl hl (by decide) rfl (fun ls hl => ?_)
  refine lv_aload_n hx hb dX7_valueOf_2 rfl (lv_at hl 1 rfl) ?_
  refine va_get (a := (ad 0)) (ci := 7) (v := .ref (ad 4)) (C := RX7) (T := TX7) (N := 28) hx hb hts hin_X7 hown hK hR0 0 rfl rfl 6 (by decide) hw_2 (fun _ h => h) rfl dX7_valueOf_3 ?_
  refine lv_iload_n hx hb dX7_valueOf_6 rfl (lv_at hl 2 rfl) ?_
  replace hf := gi_e hf
  obtain ⟨i_7, hf⟩ := hf
  refine va_iald (a := (ad 4)) hx hb hK hR0 1 0 rfl rfl i_7 dX7_valueOf_7 ?_
  refine lv_topi (fun v_8 e_8 => ?_)
  replace hf := bd_at e_8 hf
  clear e_8
  refine lv_istore (lv' := [(4, .int v_8), (3, .int 0), (0, .ref (ad 0)), (1, .int x1), (2, .int x2)]) hx hb dX7_valueOf_8 hl (by decide) rfl (fun ls hl => ?_)
  exact L10 FU ls 0 v_8 hf (lv_sub hl [2, 3, 4, 1, 0] rfl)
def FX7_slopeOf_L10   (x1 : Int32) (x2 : Int32) (pri : Int32) (num : Nat → Int32) : Nat → Int32 → Int32 → Option (Int32)
  | 0, _, _ => none
  | fuel + 1, x3_10, x4_10 => (if x4_10 ≤ 0 then (some (x3_10)) else (gi ((5 * x1) + x4_10) 50 (gd (¬ pri = 0) (bd (irm ((x3_10 * x2) + (x4_10 * (num (Int32.toNatClampNeg ((5 * x1) + x4_10))))) pri) (fun v_38 => bd (x4_10 + (-1)) (fun v_39 => (FX7_slopeOf_L10 x1 x2 pri num fuel) v_38 v_39))))))
def FX7_slopeOf  (pri : Int32) (deg : Nat → Int32) (num : Nat → Int32) (x1 : Int32) (x2 : Int32) : Option (Int32) := (gi x1 10 (bd (deg (Int32.toNatClampNeg x1)) (fun v_8 => FX7_slopeOf_L10 x1 x2 pri num FU 0 v_8)))
abbrev RMX7_slopeOf : Room := { frames := 0, cells := 0, slots := 0, locals := 0 }
set_option maxHeartbeats 4000000 in
set_option maxRecDepth 100000 in
theorem KX7_slopeOf (l : Launch) (D : va_G) (cy : Nat → ClassId) (ad : Nat → Nat) (thr : Int32) (sta : Int32) (pri : Int32) (tcd : Int32) (frt : Int32) (frp : Int32) (deg : Nat → Int32) (num : Nat → Int32) (x1 : Int32) (x2 : Int32) (sz : Nat) {out : Int32} (hf : FX7_slopeOf pri deg num x1 x2 = some out) : Met l yX7_slopeOf wsX7_slopeOf RMX7_slopeOf (PW D cy [.ref (ad 0), .int x1, .int x2] sz [] ((wX7_0_4_5 cy ad thr sta pri tcd frt frp deg num))) (QR (some (.int out))) 0 0 no_A := by
  refine Met.ofW (cc := cX7_slopeOf) (maxL := 5) (ret := (some .int)) (by decide +kernel) rfl ?_
  intro p e s m args below meth c s₁ B hml hv
  obtain ⟨hav, hsz, hP, hR0, hK, hN, hD0, hsep⟩ := hv
  have hx := B.exec
  have hb := B.bytes
  have hr := B.returns
  have hts := atoms_spec (ws := wsX7_slopeOf) B.pre
  have hown : s.vm.findClass RX7 = some m.cls := findClass_of_methodNamed B.named
  have hlocks := B.notSynchronized
  subst hsz
  have hin_X7 : ∀ w ∈ u_ws RX7 TX7 28, w ∈ wsX7_slopeOf := by decide +kernel
  have hw_0 := hts (.fieldLink RX7 31 "ReturnPointsModel" "number" "[I") (by decide +kernel)
  have hw_1 := hts (.fieldLink RX7 98 "ReturnPointsModel" "prime" "I") (by decide +kernel)
  have hw_2 := hts (.fieldLink RX7 28 "ReturnPointsModel" "degree" "[I") (by decide +kernel)
  obtain ⟨ls, hfr, hl⟩ := ent_ok (m := m) (n := 5) (l' := [(0, .ref (ad 0)), (1, .int x1), (2, .int x2)]) [.ref (ad 0), .int x1, .int x2] hav (Nat.le_of_ble_eq_true rfl) rfl
  rw [hfr]
  generalize hQe : MQ below (QR (some (.int out))) args s 0 0 no_A = QQ
  change W p l e RMX7_slopeOf s m args below meth c s.heap [] 0 0 QQ (F0 m 0 ls [])
  have L10 : ∀  (n10 : Nat) (ls : Array Slot) (x3_10 : Int32) (x4_10 : Int32), FX7_slopeOf_L10 x1 x2 pri num n10 x3_10 x4_10 = some out → lv_has ls 5 [(0, .ref (ad 0)), (1, .int x1), (2, .int x2), (3, .int x3_10), (4, .int x4_10)] → W p l e RMX7_slopeOf s m args below meth c s.heap [] 0 0 QQ (F0 m 10 ls []) := by
    intro  n10
    induction n10 with
    | zero => intro ls x3_10 x4_10 hf; simp [FX7_slopeOf_L10] at hf
    | succ n10 ih10 =>
      intro ls x3_10 x4_10 hf hl
      rw [FX7_slopeOf_L10] at hf
      refine lv_iload hx hb dX7_slopeOf_10 (lv_at hl 4 rfl) ?_
      refine lv_if_le (tgt := 45) hx hb dX7_slopeOf_12 (by decide) (fun c_12 => ?_) (fun c_12 => ?_)
      · replace hf := it_p c_12 hf
        refine lv_iload_n hx hb dX7_slopeOf_45 rfl (lv_at hl 3 rfl) ?_
        obtain rfl := Option.some.inj hf
        rw [← hQe]
        exact W.iret (v := x3_10) hx hb hr (fun t ht hW => ⟨rfl, ht⟩) (fun q h => by cases h) dX7_slopeOf_46
      · replace hf := it_n c_12 hf
        refine lv_iload_n hx hb dX7_slopeOf_15 rfl (lv_at hl 3 rfl) ?_
        refine lv_iload_n hx hb dX7_slopeOf_16 rfl (lv_at hl 2 rfl) ?_
        refine lv_imul hx hb dX7_slopeOf_17 ?_
        refine lv_iload hx hb dX7_slopeOf_18 (lv_at hl 4 rfl) ?_
        refine lv_aload_n hx hb dX7_slopeOf_20 rfl (lv_at hl 0 rfl) ?_
        refine va_get (a := (ad 0)) (ci := 7) (v := .ref (ad 5)) (C := RX7) (T := TX7) (N := 28) hx hb hts hin_X7 hown hK hR0 0 rfl rfl 7 (by decide) hw_0 (fun _ h => h) rfl dX7_slopeOf_21 ?_
        refine lv_iconst (v := 5) hx hb dX7_slopeOf_24 (by decide) ?_
        refine lv_iload_n hx hb dX7_slopeOf_25 rfl (lv_at hl 1 rfl) ?_
        refine lv_imul hx hb dX7_slopeOf_26 ?_
        refine lv_iload hx hb dX7_slopeOf_27 (lv_at hl 4 rfl) ?_
        refine lv_iadd hx hb dX7_slopeOf_29 ?_
        replace hf := gi_e hf
        obtain ⟨i_30, hf⟩ := hf
        refine va_iald (a := (ad 5)) hx hb hK hR0 2 0 rfl rfl i_30 dX7_slopeOf_30 ?_
        refine lv_imul hx hb dX7_slopeOf_31 ?_
        refine lv_iadd hx hb dX7_slopeOf_32 ?_
        refine lv_aload_n hx hb dX7_slopeOf_33 rfl (lv_at hl 0 rfl) ?_
        refine va_get (a := (ad 0)) (ci := 7) (v := .int pri) (C := RX7) (T := TX7) (N := 28) hx hb hts hin_X7 hown hK hR0 0 rfl rfl 2 (by decide) hw_1 (fun _ h => h) rfl dX7_slopeOf_34 ?_
        replace hf := gd_e hf
        obtain ⟨z_37, hf⟩ := hf
        refine rw_irem hx hb dX7_slopeOf_37 z_37 ?_
        refine lv_topi (fun v_38 e_38 => ?_)
        replace hf := bd_at e_38 hf
        clear e_38
        refine lv_istore_n (lv' := [(3, .int v_38), (0, .ref (ad 0)), (1, .int x1), (2, .int x2), (4, .int x4_10)]) hx hb dX7_slopeOf_38 rfl hl (by decide) rfl (fun ls hl => ?_)
        obtain ⟨v_39, e_39⟩ : ∃ y : Int32, y = x4_10 + (-1) := ⟨_, rfl⟩
        replace hf := bd_at e_39 hf
        refine lv_iinc (v := v_39) (lv' := [(4, .int v_39), (3, .int v_38), (0, .ref (ad 0)), (1, .int x1), (2, .int x2)]) hx hb dX7_slopeOf_39 hl (k := 4) rfl (by rw [e_39]; rfl) (by decide) rfl (fun ls hl => ?_)
        clear e_39
        refine lv_goto (tgt := 10) hx hb dX7_slopeOf_42 (by decide) ?_
        exact ih10 ls v_38 v_39 hf (lv_sub hl [2, 3, 4, 1, 0] rfl)
  unfold FX7_slopeOf at hf
  refine lv_iconst (v := 0) hx hb dX7_slopeOf_0 (by decide) ?_
  refine lv_istore_n (lv' := [(3, .int 0), (0, .ref (ad 0)), (1, .int x1), (2, .int x2)]) hx hb dX7_slopeOf_1 rfl hl (by decide) rfl (fun ls hl => ?_)
  refine lv_aload_n hx hb dX7_slopeOf_2 rfl (lv_at hl 1 rfl) ?_
  refine va_get (a := (ad 0)) (ci := 7) (v := .ref (ad 4)) (C := RX7) (T := TX7) (N := 28) hx hb hts hin_X7 hown hK hR0 0 rfl rfl 6 (by decide) hw_2 (fun _ h => h) rfl dX7_slopeOf_3 ?_
  refine lv_iload_n hx hb dX7_slopeOf_6 rfl (lv_at hl 2 rfl) ?_
  replace hf := gi_e hf
  obtain ⟨i_7, hf⟩ := hf
  refine va_iald (a := (ad 4)) hx hb hK hR0 1 0 rfl rfl i_7 dX7_slopeOf_7 ?_
  refine lv_topi (fun v_8 e_8 => ?_)
  replace hf := bd_at e_8 hf
  clear e_8
  refine lv_istore (lv' := [(4, .int v_8), (3, .int 0), (0, .ref (ad 0)), (1, .int x1), (2, .int x2)]) hx hb dX7_slopeOf_8 hl (by decide) rfl (fun ls hl => ?_)
  exact L10 FU ls 0 v_8 hf (lv_sub hl [2, 3, 4, 1, 0] rfl)
def FX7_findWays_J190  (k68 : Int32 → (Nat → Int32) → (Nat → Int32) → (Nat → Int32) → (Nat → Int32) → Option ((Nat → Int32) × (Nat → Int32) × (Nat → Int32) × (Nat → Int32) × (Nat → Int32) × (Nat → Int32))) (k167 : Int32 → Int32 → Int32 → Option ((Nat → Int32) × (Nat → Int32) × (Nat → Int32) × (Nat → Int32) × (Nat → Int32) × (Nat → Int32))) (x2_167 : Int32) (x3_190 : Int32) (x6_190 : Int32) (s0_190 : Int32) (pri : Int32) (goe_68 : Nat → Int32) (tai_167 : Nat → Int32) (per_167 : Nat → Int32) (lea_167 : Nat → Int32) (com_68 : Nat → Int32) (see_167 : Nat → Int32) : Option ((Nat → Int32) × (Nat → Int32) × (Nat → Int32) × (Nat → Int32) × (Nat → Int32) × (Nat → Int32)) := (gi x3_190 200 (bd (goe_68 (Int32.toNatClampNeg x3_190)) (fun v_198 => bd (x6_190 + 1) (fun v_199 => k167 v_198 s0_190 v_199))))
def FX7_findWays_L167  (k68 : Int32 → (Nat → Int32) → (Nat → Int32) → (Nat → Int32) → (Nat → Int32) → Option ((Nat → Int32) × (Nat → Int32) × (Nat → Int32) × (Nat → Int32) × (Nat → Int32) × (Nat → Int32))) (x2_167 : Int32) (pri : Int32) (goe_68 : Nat → Int32) (tai_167 : Nat → Int32) (per_167 : Nat → Int32) (lea_167 : Nat → Int32) (com_68 : Nat → Int32) (see_167 : Nat → Int32) : Nat → Int32 → Int32 → Int32 → Option ((Nat → Int32) × (Nat → Int32) × (Nat → Int32) × (Nat → Int32) × (Nat → Int32) × (Nat → Int32))
  | 0, _, _, _ => none
  | fuel + 1, x3_167, x5_167, x6_167 => (gi x2_167 200 (if (per_167 (Int32.toNatClampNeg x2_167)) ≤ x6_167 then (gi x2_167 200 (bd (x2_167 + 1) (fun v_213 => k68 v_213 tai_167 per_167 (upd lea_167 (Int32.toNatClampNeg x2_167) x5_167) see_167))) else (if x5_167 ≤ x3_167 then (FX7_findWays_J190 k68 (FX7_findWays_L167 k68 x2_167 pri goe_68 tai_167 per_167 lea_167 com_68 see_167 fuel) x2_167 x3_167 x6_167 x5_167 pri goe_68 tai_167 per_167 lea_167 com_68 see_167) else (FX7_findWays_J190 k68 (FX7_findWays_L167 k68 x2_167 pri goe_68 tai_167 per_167 lea_167 com_68 see_167 fuel) x2_167 x3_167 x6_167 x3_167 pri goe_68 tai_167 per_167 lea_167 com_68 see_167))))
def FX7_findWays_L104  (k68 : Int32 → (Nat → Int32) → (Nat → Int32) → (Nat → Int32) → (Nat → Int32) → Option ((Nat → Int32) × (Nat → Int32) × (Nat → Int32) × (Nat → Int32) × (Nat → Int32) × (Nat → Int32))) (x2_104 : Int32) (pri : Int32) (goe_68 : Nat → Int32) (tai_104 : Nat → Int32) (per_104 : Nat → Int32) (lea_104 : Nat → Int32) (com_68 : Nat → Int32) : Nat → Int32 → Int32 → (Nat → Int32) → Option ((Nat → Int32) × (Nat → Int32) × (Nat → Int32) × (Nat → Int32) × (Nat → Int32) × (Nat → Int32))
  | 0, _, _, _ => none
  | fuel + 1, x3_104, x4_104, see_104 => (gi x3_104 200 (if 0 ≤ (see_104 (Int32.toNatClampNeg x3_104)) then (gi x3_104 200 (gi x2_104 200 (gi x3_104 200 (gi x2_104 200 (FX7_findWays_L167 k68 x2_104 pri goe_68 (upd tai_104 (Int32.toNatClampNeg x2_104) (see_104 (Int32.toNatClampNeg x3_104))) (upd per_104 (Int32.toNatClampNeg x2_104) (x4_104 - (see_104 (Int32.toNatClampNeg x3_104)))) lea_104 com_68 see_104 FU x3_104 x3_104 0))))) else (gi x3_104 200 (bd (x4_104 + 1) (fun v_121 => gi x3_104 200 (bd (goe_68 (Int32.toNatClampNeg x3_104)) (fun v_130 => (FX7_findWays_L104 k68 x2_104 pri goe_68 tai_104 per_104 lea_104 com_68 fuel) v_130 v_121 (upd see_104 (Int32.toNatClampNeg x3_104) x4_104))))))))
def FX7_findWays_L78  (k68 : Int32 → (Nat → Int32) → (Nat → Int32) → (Nat → Int32) → (Nat → Int32) → Option ((Nat → Int32) × (Nat → Int32) × (Nat → Int32) × (Nat → Int32) × (Nat → Int32) × (Nat → Int32))) (x2_78 : Int32) (pri : Int32) (goe_68 : Nat → Int32) (tai_78 : Nat → Int32) (per_78 : Nat → Int32) (lea_78 : Nat → Int32) (com_68 : Nat → Int32) : Nat → Int32 → (Nat → Int32) → Option ((Nat → Int32) × (Nat → Int32) × (Nat → Int32) × (Nat → Int32) × (Nat → Int32) × (Nat → Int32))
  | 0, _, _ => none
  | fuel + 1, x3_78, see_78 => (if pri ≤ x3_78 then (FX7_findWays_L104 k68 x2_78 pri goe_68 tai_78 per_78 lea_78 com_68 FU x2_78 0 see_78) else (gi x3_78 200 (bd (x3_78 + 1) (fun v_93 => (FX7_findWays_L78 k68 x2_78 pri goe_68 tai_78 per_78 lea_78 com_68 fuel) v_93 (upd see_78 (Int32.toNatClampNeg x3_78) (-1))))))
def FX7_findWays_L68   (pri : Int32) (goe_68 : Nat → Int32) (com_68 : Nat → Int32) : Nat → Int32 → (Nat → Int32) → (Nat → Int32) → (Nat → Int32) → (Nat → Int32) → Option ((Nat → Int32) × (Nat → Int32) × (Nat → Int32) × (Nat → Int32) × (Nat → Int32) × (Nat → Int32))
  | 0, _, _, _, _, _ => none
  | fuel + 1, x2_68, tai_68, per_68, lea_68, see_68 => (if pri ≤ x2_68 then (some (goe_68, tai_68, per_68, lea_68, com_68, see_68)) else (FX7_findWays_L78 (FX7_findWays_L68 pri goe_68 com_68 fuel) x2_68 pri goe_68 tai_68 per_68 lea_68 com_68 FU 0 see_68))
def FX7_findWays_L37   (pri : Int32) (goe_37 : Nat → Int32) (tai_37 : Nat → Int32) (per_37 : Nat → Int32) (lea_37 : Nat → Int32) (see_37 : Nat → Int32) : Nat → Int32 → (Nat → Int32) → Option ((Nat → Int32) × (Nat → Int32) × (Nat → Int32) × (Nat → Int32) × (Nat → Int32) × (Nat → Int32))
  | 0, _, _ => none
  | fuel + 1, x2_37, com_37 => (if pri ≤ x2_37 then (FX7_findWays_L68 pri goe_37 com_37 FU 0 tai_37 per_37 lea_37 see_37) else (gi x2_37 200 (gi (goe_37 (Int32.toNatClampNeg x2_37)) 200 (gi (goe_37 (Int32.toNatClampNeg x2_37)) 200 (bd (x2_37 + 1) (fun v_60 => (FX7_findWays_L37 pri goe_37 tai_37 per_37 lea_37 see_37 fuel) v_60 (upd com_37 (Int32.toNatClampNeg (goe_37 (Int32.toNatClampNeg x2_37))) ((com_37 (Int32.toNatClampNeg (goe_37 (Int32.toNatClampNeg x2_37)))) + 1))))))))
def FX7_findWays_L2   (x1 : Int32) (pri : Int32) (deg : Nat → Int32) (num : Nat → Int32) (tai_2 : Nat → Int32) (per_2 : Nat → Int32) (lea_2 : Nat → Int32) (see_2 : Nat → Int32) : Nat → Int32 → (Nat → Int32) → (Nat → Int32) → Option ((Nat → Int32) × (Nat → Int32) × (Nat → Int32) × (Nat → Int32) × (Nat → Int32) × (Nat → Int32))
  | 0, _, _, _ => none
  | fuel + 1, x2_2, goe_2, com_2 => (if pri ≤ x2_2 then (FX7_findWays_L37 pri goe_2 tai_2 per_2 lea_2 see_2 FU 0 com_2) else (ob (FX7_valueOf pri deg num x1 x2_2) (fun u_18 => gi x2_2 200 (gi x2_2 200 (bd (x2_2 + 1) (fun v_29 => (FX7_findWays_L2 x1 pri deg num tai_2 per_2 lea_2 see_2 fuel) v_29 (upd goe_2 (Int32.toNatClampNeg x2_2) u_18) (upd com_2 (Int32.toNatClampNeg x2_2) 0)))))))
def FX7_findWays  (pri : Int32) (deg : Nat → Int32) (num : Nat → Int32) (goe : Nat → Int32) (tai : Nat → Int32) (per : Nat → Int32) (lea : Nat → Int32) (com : Nat → Int32) (see : Nat → Int32) (x1 : Int32) : Option ((Nat → Int32) × (Nat → Int32) × (Nat → Int32) × (Nat → Int32) × (Nat → Int32) × (Nat → Int32)) := (FX7_findWays_L2 x1 pri deg num tai per lea see FU 0 goe com)
abbrev RMX7_findWays : Room := { frames := 1, cells := 0, slots := 0, locals := 24 }
set_option maxHeartbeats 4000000 in
set_option maxRecDepth 100000 in
theorem KX7_findWays (l : Launch) (D : va_G) (cy : Nat → ClassId) (ad : Nat → Nat) (thr : Int32) (sta : Int32) (pri : Int32) (tcd : Int32) (frt : Int32) (frp : Int32) (deg : Nat → Int32) (num : Nat → Int32) (goe : Nat → Int32) (tai : Nat → Int32) (per : Nat → Int32) (lea : Nat → Int32) (com : Nat → Int32) (see : Nat → Int32) (x1 : Int32) (sz : Nat) {out : (Nat → Int32) × (Nat → Int32) × (Nat → Int32) × (Nat → Int32) × (Nat → Int32) × (Nat → Int32)} (hf : FX7_findWays pri deg num goe tai per lea com see x1 = some out) : Met l yX7_findWays wsX7_findWays RMX7_findWays (PW D cy [.ref (ad 0), .int x1] sz ((wX7_0_4_5_9_10_11_12_13_14 cy ad thr sta pri tcd frt frp deg num goe tai per lea com see)) []) (QW D none ((wX7_0_4_5_9_10_11_12_13_14 cy ad thr sta pri tcd frt frp deg num out.1 out.2.1 out.2.2.1 out.2.2.2.1 out.2.2.2.2.1 out.2.2.2.2.2)) (va_A ((wX7_0_4_5_9_10_11_12_13_14 cy ad thr sta pri tcd frt frp deg num goe tai per lea com see)) sz)) 0 0 (va_A ((wX7_0_4_5_9_10_11_12_13_14 cy ad thr sta pri tcd frt frp deg num goe tai per lea com see)) sz) := by
  refine Met.ofW (cc := cX7_findWays) (maxL := 7) (ret := none) (by decide +kernel) rfl ?_
  intro p e s m args below meth c s₁ B hml hv
  obtain ⟨hav, hsz, hP, hR0, hK, hN, hD0, hsep⟩ := hv
  have hx := B.exec
  have hb := B.bytes
  have hr := B.returns
  have hts := atoms_spec (ws := wsX7_findWays) B.pre
  have hown : s.vm.findClass RX7 = some m.cls := findClass_of_methodNamed B.named
  have hlocks := B.notSynchronized
  subst hsz
  have hin_X7 : ∀ w ∈ u_ws RX7 TX7 28, w ∈ wsX7_findWays := by decide +kernel
  have hw_0 := hts (.fieldLink RX7 43 "ReturnPointsModel" "goes" "[I") (by decide +kernel)
  have hw_1 := hts (.fieldLink RX7 49 "ReturnPointsModel" "period" "[I") (by decide +kernel)
  have hw_2 := hts (.fieldLink RX7 52 "ReturnPointsModel" "least" "[I") (by decide +kernel)
  have hw_3 := hts (.fieldLink RX7 58 "ReturnPointsModel" "seen" "[I") (by decide +kernel)
  have hw_4 := hts (.fieldLink RX7 46 "ReturnPointsModel" "tail" "[I") (by decide +kernel)
  have hw_5 := hts (.fieldLink RX7 98 "ReturnPointsModel" "prime" "I") (by decide +kernel)
  have hw_6 := hts (.fieldLink RX7 55 "ReturnPointsModel" "comes" "[I") (by decide +kernel)
  have hD := hD0.self (sz := s.heap.size)
  have hnA := roA hsep hR0
  generalize hAe : va_A ((wX7_0_4_5_9_10_11_12_13_14 cy ad thr sta pri tcd frt frp deg num goe tai per lea com see)) s.heap.size = A at hD hnA ⊢
  have hA : ∀ q : Nat, s.heap.size ≤ q → A q := fun q h => by rw [← hAe]; exact Or.inr h
  have hS : va_S A s.heap s.heap [] := va_S.rf
  obtain ⟨ls, hfr, hl⟩ := ent_ok (m := m) (n := 7) (l' := [(0, .ref (ad 0)), (1, .int x1)]) [.ref (ad 0), .int x1] hav (Nat.le_of_ble_eq_true rfl) rfl
  rw [hfr]
  generalize hQe : MQ below (QW D none ((wX7_0_4_5_9_10_11_12_13_14 cy ad thr sta pri tcd frt frp deg num out.1 out.2.1 out.2.2.1 out.2.2.2.1 out.2.2.2.2.1 out.2.2.2.2.2)) A) args s 0 0 A = QQ
  change W p l e RMX7_findWays s m args below meth c s.heap [] 0 0 QQ (F0 m 0 ls [])
  have hP : va_P D vwCl ((wX7_0_4_5_9_10_11_12_13_14 cy ad thr sta pri tcd frt frp deg num goe tai per lea com see)) s.heap := hP
  have hD : va_D A ((wX7_0_4_5_9_10_11_12_13_14 cy ad thr sta pri tcd frt frp deg num goe tai per lea com see)) := hD
  suffices h00 : ∀ (H : Heap) (locs : List Loc), va_P D vwCl ((wX7_0_4_5_9_10_11_12_13_14 cy ad thr sta pri tcd frt frp deg num goe tai per lea com see)) H → va_S A s.heap H locs → W p l e RMX7_findWays s m args below meth c H locs 0 0 QQ (F0 m 0 ls []) from h00 _ _ hP hS
  clear hP hS
  intro H locs hP hS
  have L68 : ∀ (goe_68 : Nat → Int32) (com_68 : Nat → Int32) (n68 : Nat) (H : Heap) (locs : List Loc) (ls : Array Slot) (x2_68 : Int32) (tai_68 : Nat → Int32) (per_68 : Nat → Int32) (lea_68 : Nat → Int32) (see_68 : Nat → Int32), FX7_findWays_L68 pri goe_68 com_68 n68 x2_68 tai_68 per_68 lea_68 see_68 = some out → va_P D vwCl ((wX7_0_4_5_9_10_11_12_13_14 cy ad thr sta pri tcd frt frp deg num goe_68 tai_68 per_68 lea_68 com_68 see_68)) H → va_D A ((wX7_0_4_5_9_10_11_12_13_14 cy ad thr sta pri tcd frt frp deg num goe_68 tai_68 per_68 lea_68 com_68 see_68)) → va_S A s.heap H locs → lv_has ls 7 [(0, .ref (ad 0)), (2, .int x2_68)] → W p l e RMX7_findWays s m args below meth c H locs 0 0 QQ (F0 m 68 ls []) := by
    intro goe_68 com_68 n68
    induction n68 with
    | zero => intro H locs ls x2_68 tai_68 per_68 lea_68 see_68 hf; simp [FX7_findWays_L68] at hf
    | succ n68 ih68 =>
      intro H locs ls x2_68 tai_68 per_68 lea_68 see_68 hf hP hD hS hl
      rw [FX7_findWays_L68] at hf
      have L167 : ∀ (x2_167 : Int32) (tai_167 : Nat → Int32) (per_167 : Nat → Int32) (lea_167 : Nat → Int32) (see_167 : Nat → Int32) (n167 : Nat) (H : Heap) (locs : List Loc) (ls : Array Slot) (x3_167 : Int32) (x5_167 : Int32) (x6_167 : Int32), FX7_findWays_L167 (FX7_findWays_L68 pri goe_68 com_68 n68) x2_167 pri goe_68 tai_167 per_167 lea_167 com_68 see_167 n167 x3_167 x5_167 x6_167 = some out → va_P D vwCl ((wX7_0_4_5_9_10_11_12_13_14 cy ad thr sta pri tcd frt frp deg num goe_68 tai_167 per_167 lea_167 com_68 see_167)) H → va_D A ((wX7_0_4_5_9_10_11_12_13_14 cy ad thr sta pri tcd frt frp deg num goe_68 tai_167 per_167 lea_167 com_68 see_167)) → va_S A s.heap H locs → lv_has ls 7 [(0, .ref (ad 0)), (2, .int x2_167), (3, .int x3_167), (5, .int x5_167), (6, .int x6_167)] → W p l e RMX7_findWays s m args below meth c H locs 0 0 QQ (F0 m 167 ls []) := by
        intro x2_167 tai_167 per_167 lea_167 see_167 n167
        induction n167 with
        | zero => intro H locs ls x3_167 x5_167 x6_167 hf; simp [FX7_findWays_L167] at hf
        | succ n167 ih167 =>
          intro H locs ls x3_167 x5_167 x6_167 hf hP hD hS hl
          rw [FX7_findWays_L167] at hf
          have J190 : ∀ (H : Heap) (locs : List Loc) (ls : Array Slot) (x3_190 : Int32) (x6_190 : Int32) (s0_190 : Int32), FX7_findWays_J190 (FX7_findWays_L68 pri goe_68 com_68 n68) (FX7_findWays_L167 (FX7_findWays_L68 pri goe_68 com_68 n68) x2_167 pri goe_68 tai_167 per_167 lea_167 com_68 see_167 n167) x2_167 x3_190 x6_190 s0_190 pri goe_68 tai_167 per_167 lea_167 com_68 see_167 = some out → va_P D vwCl ((wX7_0_4_5_9_10_11_12_13_14 cy ad thr sta pri tcd frt frp deg num goe_68 tai_167 per_167 lea_167 com_68 see_167)) H → va_D A ((wX7_0_4_5_9_10_11_12_13_14 cy ad thr sta pri tcd frt frp deg num goe_68 tai_167 per_167 lea_167 com_68 see_167)) → va_S A s.heap H locs → lv_has ls 7 [(0, .ref (ad 0)), (2, .int x2_167), (3, .int x3_190), (6, .int x6_190)] → W p l e RMX7_findWays s m args below meth c H locs 0 0 QQ (F0 m 190 ls [.int s0_190]) := by
            intro H locs ls x3_190 x6_190 s0_190 hf hP hD hS hl
            unfold FX7_findWays_J190 at hf
            refine lv_istore (lv' := [(5, .int s0_190), (0, .ref (ad 0)), (2, .int x2_167), (3, .int x3_190), (6, .int x6_190)]) hx hb dX7_findWays_190 hl (by decide) rfl (fun ls hl => ?_)
            refine lv_aload_n hx hb dX7_findWays_192 rfl (lv_at hl 1 rfl) ?_
            refine va_get (a := (ad 0)) (ci := 7) (v := .ref (ad 9)) (C := RX7) (T := TX7) (N := 28) hx hb hts hin_X7 hown hK hP 0 rfl rfl 11 (by decide) hw_0 (fun _ h => h) rfl dX7_findWays_193 ?_
            refine lv_iload_n hx hb dX7_findWays_196 rfl (lv_at hl 3 rfl) ?_
            replace hf := gi_e hf
            obtain ⟨i_197, hf⟩ := hf
            refine va_iald (a := (ad 9)) hx hb hK hP 3 0 rfl rfl i_197 dX7_findWays_197 ?_
            refine lv_topi (fun v_198 e_198 => ?_)
            replace hf := bd_at e_198 hf
            clear e_198
            refine lv_istore_n (lv' := [(3, .int v_198), (5, .int s0_190), (0, .ref (ad 0)), (2, .int x2_167), (6, .int x6_190)]) hx hb dX7_findWays_198 rfl hl (by decide) rfl (fun ls hl => ?_)
            obtain ⟨v_199, e_199⟩ : ∃ y : Int32, y = x6_190 + 1 := ⟨_, rfl⟩
            replace hf := bd_at e_199 hf
            refine lv_iinc (v := v_199) (lv' := [(6, .int v_199), (3, .int v_198), (5, .int s0_190), (0, .ref (ad 0)), (2, .int x2_167)]) hx hb dX7_findWays_199 hl (k := 4) rfl (by rw [e_199]; rfl) (by decide) rfl (fun ls hl => ?_)
            clear e_199
            refine lv_goto (tgt := 167) hx hb dX7_findWays_202 (by decide) ?_
            exact ih167 H locs ls v_198 s0_190 v_199 hf hP hD hS (lv_sub hl [3, 4, 1, 2, 0] rfl)
          refine lv_iload hx hb dX7_findWays_167 (lv_at hl 4 rfl) ?_
          refine lv_aload_n hx hb dX7_findWays_169 rfl (lv_at hl 0 rfl) ?_
          refine va_get (a := (ad 0)) (ci := 7) (v := .ref (ad 11)) (C := RX7) (T := TX7) (N := 28) hx hb hts hin_X7 hown hK hP 0 rfl rfl 13 (by decide) hw_1 (fun _ h => h) rfl dX7_findWays_170 ?_
          refine lv_iload_n hx hb dX7_findWays_173 rfl (lv_at hl 1 rfl) ?_
          replace hf := gi_e hf
          obtain ⟨i_174, hf⟩ := hf
          refine va_iald (a := (ad 11)) hx hb hK hP 5 0 rfl rfl i_174 dX7_findWays_174 ?_
          refine lv_icmp_ge (tgt := 205) hx hb dX7_findWays_175 (by decide) (fun c_175 => ?_) (fun c_175 => ?_)
          · replace hf := it_p c_175 hf
            refine lv_aload_n hx hb dX7_findWays_205 rfl (lv_at hl 0 rfl) ?_
            refine va_get (a := (ad 0)) (ci := 7) (v := .ref (ad 12)) (C := RX7) (T := TX7) (N := 28) hx hb hts hin_X7 hown hK hP 0 rfl rfl 14 (by decide) hw_2 (fun _ h => h) rfl dX7_findWays_206 ?_
            refine lv_iload_n hx hb dX7_findWays_209 rfl (lv_at hl 1 rfl) ?_
            refine lv_iload hx hb dX7_findWays_210 (lv_at hl 3 rfl) ?_
            replace hf := gi_e hf
            obtain ⟨i_212, hf⟩ := hf
            refine va_iast (a := (ad 12)) hx hb hK hP hD hS 6 0 rfl rfl i_212 dX7_findWays_212 (fun H locs hP hD hS => ?_)
            have hP : va_P D vwCl ((wX7_0_4_5_9_10_11_12_13_14 cy ad thr sta pri tcd frt frp deg num goe_68 tai_167 per_167 (upd lea_167 (Int32.toNatClampNeg x2_167) x5_167) com_68 see_167)) H := hP
            have hD : va_D A ((wX7_0_4_5_9_10_11_12_13_14 cy ad thr sta pri tcd frt frp deg num goe_68 tai_167 per_167 (upd lea_167 (Int32.toNatClampNeg x2_167) x5_167) com_68 see_167)) := hD
            obtain ⟨v_213, e_213⟩ : ∃ y : Int32, y = x2_167 + 1 := ⟨_, rfl⟩
            replace hf := bd_at e_213 hf
            refine lv_iinc (v := v_213) (lv' := [(2, .int v_213), (0, .ref (ad 0)), (3, .int x3_167), (5, .int x5_167), (6, .int x6_167)]) hx hb dX7_findWays_213 hl (k := 1) rfl (by rw [e_213]; rfl) (by decide) rfl (fun ls hl => ?_)
            clear e_213
            refine lv_goto (tgt := 68) hx hb dX7_findWays_216 (by decide) ?_
            exact ih68 H locs ls v_213 tai_167 per_167 (upd lea_167 (Int32.toNatClampNeg x2_167) x5_167) see_167 hf hP hD hS (lv_sub hl [1, 0] rfl)
          · replace hf := it_n c_175 hf
            refine lv_iload_n hx hb dX7_findWays_178 rfl (lv_at hl 2 rfl) ?_
            refine lv_iload hx hb dX7_findWays_179 (lv_at hl 3 rfl) ?_
            refine lv_icmp_ge (tgt := 188) hx hb dX7_findWays_181 (by decide) (fun c_181 => ?_) (fun c_181 => ?_)
            · replace hf := it_p c_181 hf
              refine lv_iload hx hb dX7_findWays_188 (lv_at hl 3 rfl) ?_
              exact J190 H locs ls x3_167 x6_167 x5_167 hf hP hD hS (lv_sub hl [0, 1, 2, 4] rfl)
            · replace hf := it_n c_181 hf
              refine lv_iload_n hx hb dX7_findWays_184 rfl (lv_at hl 2 rfl) ?_
              refine lv_goto (tgt := 190) hx hb dX7_findWays_185 (by decide) ?_
              exact J190 H locs ls x3_167 x6_167 x3_167 hf hP hD hS (lv_sub hl [0, 1, 2, 4] rfl)
      have L104 : ∀ (x2_104 : Int32) (tai_104 : Nat → Int32) (per_104 : Nat → Int32) (lea_104 : Nat → Int32) (n104 : Nat) (H : Heap) (locs : List Loc) (ls : Array Slot) (x3_104 : Int32) (x4_104 : Int32) (see_104 : Nat → Int32), FX7_findWays_L104 (FX7_findWays_L68 pri goe_68 com_68 n68) x2_104 pri goe_68 tai_104 per_104 lea_104 com_68 n104 x3_104 x4_104 see_104 = some out → va_P D vwCl ((wX7_0_4_5_9_10_11_12_13_14 cy ad thr sta pri tcd frt frp deg num goe_68 tai_104 per_104 lea_104 com_68 see_104)) H → va_D A ((wX7_0_4_5_9_10_11_12_13_14 cy ad thr sta pri tcd frt frp deg num goe_68 tai_104 per_104 lea_104 com_68 see_104)) → va_S A s.heap H locs → lv_has ls 7 [(0, .ref (ad 0)), (2, .int x2_104), (3, .int x3_104), (4, .int x4_104)] → W p l e RMX7_findWays s m args below meth c H locs 0 0 QQ (F0 m 104 ls []) := by
        intro x2_104 tai_104 per_104 lea_104 n104
        induction n104 with
        | zero => intro H locs ls x3_104 x4_104 see_104 hf; simp [FX7_findWays_L104] at hf
        | succ n104 ih104 =>
          intro H locs ls x3_104 x4_104 see_104 hf hP hD hS hl
          rw [FX7_findWays_L104] at hf
          refine lv_aload_n hx hb dX7_findWays_104 rfl (lv_at hl 0 rfl) ?_
          refine va_get (a := (ad 0)) (ci := 7) (v := .ref (ad 14)) (C := RX7) (T := TX7) (N := 28) hx hb hts hin_X7 hown hK hP 0 rfl rfl 16 (by decide) hw_3 (fun _ h => h) rfl dX7_findWays_105 ?_
          refine lv_iload_n hx hb dX7_findWays_108 rfl (lv_at hl 2 rfl) ?_
          replace hf := gi_e hf
          obtain ⟨i_109, hf⟩ := hf
          refine va_iald (a := (ad 14)) hx hb hK hP 8 0 rfl rfl i_109 dX7_findWays_109 ?_
          refine lv_if_ge (tgt := 134) hx hb dX7_findWays_110 (by decide) (fun c_110 => ?_) (fun c_110 => ?_)
          · replace hf := it_p c_110 hf
            refine lv_aload_n hx hb dX7_findWays_134 rfl (lv_at hl 0 rfl) ?_
            refine va_get (a := (ad 0)) (ci := 7) (v := .ref (ad 10)) (C := RX7) (T := TX7) (N := 28) hx hb hts hin_X7 hown hK hP 0 rfl rfl 12 (by decide) hw_4 (fun _ h => h) rfl dX7_findWays_135 ?_
            refine lv_iload_n hx hb dX7_findWays_138 rfl (lv_at hl 1 rfl) ?_
            refine lv_aload_n hx hb dX7_findWays_139 rfl (lv_at hl 0 rfl) ?_
            refine va_get (a := (ad 0)) (ci := 7) (v := .ref (ad 14)) (C := RX7) (T := TX7) (N := 28) hx hb hts hin_X7 hown hK hP 0 rfl rfl 16 (by decide) hw_3 (fun _ h => h) rfl dX7_findWays_140 ?_
            refine lv_iload_n hx hb dX7_findWays_143 rfl (lv_at hl 2 rfl) ?_
            replace hf := gi_e hf
            obtain ⟨i_144, hf⟩ := hf
            refine va_iald (a := (ad 14)) hx hb hK hP 8 0 rfl rfl i_144 dX7_findWays_144 ?_
            replace hf := gi_e hf
            obtain ⟨i_145, hf⟩ := hf
            refine va_iast (a := (ad 10)) hx hb hK hP hD hS 4 0 rfl rfl i_145 dX7_findWays_145 (fun H locs hP hD hS => ?_)
            have hP : va_P D vwCl ((wX7_0_4_5_9_10_11_12_13_14 cy ad thr sta pri tcd frt frp deg num goe_68 (upd tai_104 (Int32.toNatClampNeg x2_104) (see_104 (Int32.toNatClampNeg x3_104))) per_104 lea_104 com_68 see_104)) H := hP
            have hD : va_D A ((wX7_0_4_5_9_10_11_12_13_14 cy ad thr sta pri tcd frt frp deg num goe_68 (upd tai_104 (Int32.toNatClampNeg x2_104) (see_104 (Int32.toNatClampNeg x3_104))) per_104 lea_104 com_68 see_104)) := hD
            refine lv_aload_n hx hb dX7_findWays_146 rfl (lv_at hl 0 rfl) ?_
            refine va_get (a := (ad 0)) (ci := 7) (v := .ref (ad 11)) (C := RX7) (T := TX7) (N := 28) hx hb hts hin_X7 hown hK hP 0 rfl rfl 13 (by decide) hw_1 (fun _ h => h) rfl dX7_findWays_147 ?_
            refine lv_iload_n hx hb dX7_findWays_150 rfl (lv_at hl 1 rfl) ?_
            refine lv_iload hx hb dX7_findWays_151 (lv_at hl 3 rfl) ?_
            refine lv_aload_n hx hb dX7_findWays_153 rfl (lv_at hl 0 rfl) ?_
            refine va_get (a := (ad 0)) (ci := 7) (v := .ref (ad 14)) (C := RX7) (T := TX7) (N := 28) hx hb hts hin_X7 hown hK hP 0 rfl rfl 16 (by decide) hw_3 (fun _ h => h) rfl dX7_findWays_154 ?_
            refine lv_iload_n hx hb dX7_findWays_157 rfl (lv_at hl 2 rfl) ?_
            replace hf := gi_e hf
            obtain ⟨i_158, hf⟩ := hf
            refine va_iald (a := (ad 14)) hx hb hK hP 8 0 rfl rfl i_158 dX7_findWays_158 ?_
            refine lv_isub hx hb dX7_findWays_159 ?_
            replace hf := gi_e hf
            obtain ⟨i_160, hf⟩ := hf
            refine va_iast (a := (ad 11)) hx hb hK hP hD hS 5 0 rfl rfl i_160 dX7_findWays_160 (fun H locs hP hD hS => ?_)
            have hP : va_P D vwCl ((wX7_0_4_5_9_10_11_12_13_14 cy ad thr sta pri tcd frt frp deg num goe_68 (upd tai_104 (Int32.toNatClampNeg x2_104) (see_104 (Int32.toNatClampNeg x3_104))) (upd per_104 (Int32.toNatClampNeg x2_104) (x4_104 - (see_104 (Int32.toNatClampNeg x3_104)))) lea_104 com_68 see_104)) H := hP
            have hD : va_D A ((wX7_0_4_5_9_10_11_12_13_14 cy ad thr sta pri tcd frt frp deg num goe_68 (upd tai_104 (Int32.toNatClampNeg x2_104) (see_104 (Int32.toNatClampNeg x3_104))) (upd per_104 (Int32.toNatClampNeg x2_104) (x4_104 - (see_104 (Int32.toNatClampNeg x3_104)))) lea_104 com_68 see_104)) := hD
            refine lv_iload_n hx hb dX7_findWays_161 rfl (lv_at hl 2 rfl) ?_
            refine lv_istore (lv' := [(5, .int x3_104), (0, .ref (ad 0)), (2, .int x2_104), (3, .int x3_104), (4, .int x4_104)]) hx hb dX7_findWays_162 hl (by decide) rfl (fun ls hl => ?_)
            refine lv_iconst (v := 0) hx hb dX7_findWays_164 (by decide) ?_
            refine lv_istore (lv' := [(6, .int 0), (5, .int x3_104), (0, .ref (ad 0)), (2, .int x2_104), (3, .int x3_104), (4, .int x4_104)]) hx hb dX7_findWays_165 hl (by decide) rfl (fun ls hl => ?_)
            exact L167 x2_104 (upd tai_104 (Int32.toNatClampNeg x2_104) (see_104 (Int32.toNatClampNeg x3_104))) (upd per_104 (Int32.toNatClampNeg x2_104) (x4_104 - (see_104 (Int32.toNatClampNeg x3_104)))) lea_104 see_104 FU H locs ls x3_104 x3_104 0 hf hP hD hS (lv_sub hl [2, 3, 4, 1, 0] rfl)
          · replace hf := it_n c_110 hf
            refine lv_aload_n hx hb dX7_findWays_113 rfl (lv_at hl 0 rfl) ?_
            refine va_get (a := (ad 0)) (ci := 7) (v := .ref (ad 14)) (C := RX7) (T := TX7) (N := 28) hx hb hts hin_X7 hown hK hP 0 rfl rfl 16 (by decide) hw_3 (fun _ h => h) rfl dX7_findWays_114 ?_
            refine lv_iload_n hx hb dX7_findWays_117 rfl (lv_at hl 2 rfl) ?_
            refine lv_iload hx hb dX7_findWays_118 (lv_at hl 3 rfl) ?_
            replace hf := gi_e hf
            obtain ⟨i_120, hf⟩ := hf
            refine va_iast (a := (ad 14)) hx hb hK hP hD hS 8 0 rfl rfl i_120 dX7_findWays_120 (fun H locs hP hD hS => ?_)
            have hP : va_P D vwCl ((wX7_0_4_5_9_10_11_12_13_14 cy ad thr sta pri tcd frt frp deg num goe_68 tai_104 per_104 lea_104 com_68 (upd see_104 (Int32.toNatClampNeg x3_104) x4_104))) H := hP
            have hD : va_D A ((wX7_0_4_5_9_10_11_12_13_14 cy ad thr sta pri tcd frt frp deg num goe_68 tai_104 per_104 lea_104 com_68 (upd see_104 (Int32.toNatClampNeg x3_104) x4_104))) := hD
            obtain ⟨v_121, e_121⟩ : ∃ y : Int32, y = x4_104 + 1 := ⟨_, rfl⟩
            replace hf := bd_at e_121 hf
            refine lv_iinc (v := v_121) (lv' := [(4, .int v_121), (0, .ref (ad 0)), (2, .int x2_104), (3, .int x3_104)]) hx hb dX7_findWays_121 hl (k := 3) rfl (by rw [e_121]; rfl) (by decide) rfl (fun ls hl => ?_)
            clear e_121
            refine lv_aload_n hx hb dX7_findWays_124 rfl (lv_at hl 1 rfl) ?_
            refine va_get (a := (ad 0)) (ci := 7) (v := .ref (ad 9)) (C := RX7) (T := TX7) (N := 28) hx hb hts hin_X7 hown hK hP 0 rfl rfl 11 (by decide) hw_0 (fun _ h => h) rfl dX7_findWays_125 ?_
            refine lv_iload_n hx hb dX7_findWays_128 rfl (lv_at hl 3 rfl) ?_
            replace hf := gi_e hf
            obtain ⟨i_129, hf⟩ := hf
            refine va_iald (a := (ad 9)) hx hb hK hP 3 0 rfl rfl i_129 dX7_findWays_129 ?_
            refine lv_topi (fun v_130 e_130 => ?_)
            replace hf := bd_at e_130 hf
            clear e_130
            refine lv_istore_n (lv' := [(3, .int v_130), (4, .int v_121), (0, .ref (ad 0)), (2, .int x2_104)]) hx hb dX7_findWays_130 rfl hl (by decide) rfl (fun ls hl => ?_)
            refine lv_goto (tgt := 104) hx hb dX7_findWays_131 (by decide) ?_
            exact ih104 H locs ls v_130 v_121 (upd see_104 (Int32.toNatClampNeg x3_104) x4_104) hf hP hD hS (lv_sub hl [2, 3, 0, 1] rfl)
      have L78 : ∀ (x2_78 : Int32) (tai_78 : Nat → Int32) (per_78 : Nat → Int32) (lea_78 : Nat → Int32) (n78 : Nat) (H : Heap) (locs : List Loc) (ls : Array Slot) (x3_78 : Int32) (see_78 : Nat → Int32), FX7_findWays_L78 (FX7_findWays_L68 pri goe_68 com_68 n68) x2_78 pri goe_68 tai_78 per_78 lea_78 com_68 n78 x3_78 see_78 = some out → va_P D vwCl ((wX7_0_4_5_9_10_11_12_13_14 cy ad thr sta pri tcd frt frp deg num goe_68 tai_78 per_78 lea_78 com_68 see_78)) H → va_D A ((wX7_0_4_5_9_10_11_12_13_14 cy ad thr sta pri tcd frt frp deg num goe_68 tai_78 per_78 lea_78 com_68 see_78)) → va_S A s.heap H locs → lv_has ls 7 [(0, .ref (ad 0)), (2, .int x2_78), (3, .int x3_78)] → W p l e RMX7_findWays s m args below meth c H locs 0 0 QQ (F0 m 78 ls []) := by
        intro x2_78 tai_78 per_78 lea_78 n78
        induction n78 with
        | zero => intro H locs ls x3_78 see_78 hf; simp [FX7_findWays_L78] at hf
        | succ n78 ih78 =>
          intro H locs ls x3_78 see_78 hf hP hD hS hl
          rw [FX7_findWays_L78] at hf
          refine lv_iload_n hx hb dX7_findWays_78 rfl (lv_at hl 2 rfl) ?_
          refine lv_aload_n hx hb dX7_findWays_79 rfl (lv_at hl 0 rfl) ?_
          refine va_get (a := (ad 0)) (ci := 7) (v := .int pri) (C := RX7) (T := TX7) (N := 28) hx hb hts hin_X7 hown hK hP 0 rfl rfl 2 (by decide) hw_5 (fun _ h => h) rfl dX7_findWays_80 ?_
          refine lv_icmp_ge (tgt := 99) hx hb dX7_findWays_83 (by decide) (fun c_83 => ?_) (fun c_83 => ?_)
          · replace hf := it_p c_83 hf
            refine lv_iload_n hx hb dX7_findWays_99 rfl (lv_at hl 1 rfl) ?_
            refine lv_istore_n (lv' := [(3, .int x2_78), (0, .ref (ad 0)), (2, .int x2_78)]) hx hb dX7_findWays_100 rfl hl (by decide) rfl (fun ls hl => ?_)
            refine lv_iconst (v := 0) hx hb dX7_findWays_101 (by decide) ?_
            refine lv_istore (lv' := [(4, .int 0), (3, .int x2_78), (0, .ref (ad 0)), (2, .int x2_78)]) hx hb dX7_findWays_102 hl (by decide) rfl (fun ls hl => ?_)
            exact L104 x2_78 tai_78 per_78 lea_78 FU H locs ls x2_78 0 see_78 hf hP hD hS (lv_sub hl [2, 3, 1, 0] rfl)
          · replace hf := it_n c_83 hf
            refine lv_aload_n hx hb dX7_findWays_86 rfl (lv_at hl 0 rfl) ?_
            refine va_get (a := (ad 0)) (ci := 7) (v := .ref (ad 14)) (C := RX7) (T := TX7) (N := 28) hx hb hts hin_X7 hown hK hP 0 rfl rfl 16 (by decide) hw_3 (fun _ h => h) rfl dX7_findWays_87 ?_
            refine lv_iload_n hx hb dX7_findWays_90 rfl (lv_at hl 2 rfl) ?_
            refine lv_iconst (v := (-1)) hx hb dX7_findWays_91 (by decide) ?_
            replace hf := gi_e hf
            obtain ⟨i_92, hf⟩ := hf
            refine va_iast (a := (ad 14)) hx hb hK hP hD hS 8 0 rfl rfl i_92 dX7_findWays_92 (fun H locs hP hD hS => ?_)
            have hP : va_P D vwCl ((wX7_0_4_5_9_10_11_12_13_14 cy ad thr sta pri tcd frt frp deg num goe_68 tai_78 per_78 lea_78 com_68 (upd see_78 (Int32.toNatClampNeg x3_78) (-1)))) H := hP
            have hD : va_D A ((wX7_0_4_5_9_10_11_12_13_14 cy ad thr sta pri tcd frt frp deg num goe_68 tai_78 per_78 lea_78 com_68 (upd see_78 (Int32.toNatClampNeg x3_78) (-1)))) := hD
            obtain ⟨v_93, e_93⟩ : ∃ y : Int32, y = x3_78 + 1 := ⟨_, rfl⟩
            replace hf := bd_at e_93 hf
            refine lv_iinc (v := v_93) (lv' := [(3, .int v_93), (0, .ref (ad 0)), (2, .int x2_78)]) hx hb dX7_findWays_93 hl (k := 2) rfl (by rw [e_93]; rfl) (by decide) rfl (fun ls hl => ?_)
            clear e_93
            refine lv_goto (tgt := 78) hx hb dX7_findWays_96 (by decide) ?_
            exact ih78 H locs ls v_93 (upd see_78 (Int32.toNatClampNeg x3_78) (-1)) hf hP hD hS (lv_sub hl [1, 2, 0] rfl)
      refine lv_iload_n hx hb dX7_findWays_68 rfl (lv_at hl 1 rfl) ?_
      refine lv_aload_n hx hb dX7_findWays_69 rfl (lv_at hl 0 rfl) ?_
      refine va_get (a := (ad 0)) (ci := 7) (v := .int pri) (C := RX7) (T := TX7) (N := 28) hx hb hts hin_X7 hown hK hP 0 rfl rfl 2 (by decide) hw_5 (fun _ h => h) rfl dX7_findWays_70 ?_
      refine lv_icmp_ge (tgt := 219) hx hb dX7_findWays_73 (by decide) (fun c_73 => ?_) (fun c_73 => ?_)
      · replace hf := it_p c_73 hf
        obtain rfl := Option.some.inj hf
        rw [← hQe]
        exact W.vret hx hb hr (fun t ht hW => ⟨rfl, by rw [ht]; exact hP, hS.F ht⟩) hS.2.2 dX7_findWays_219
      · replace hf := it_n c_73 hf
        refine lv_iconst (v := 0) hx hb dX7_findWays_76 (by decide) ?_
        refine lv_istore_n (lv' := [(3, .int 0), (0, .ref (ad 0)), (2, .int x2_68)]) hx hb dX7_findWays_77 rfl hl (by decide) rfl (fun ls hl => ?_)
        exact L78 x2_68 tai_68 per_68 lea_68 FU H locs ls 0 see_68 hf hP hD hS (lv_sub hl [1, 2, 0] rfl)
  have L37 : ∀ (goe_37 : Nat → Int32) (tai_37 : Nat → Int32) (per_37 : Nat → Int32) (lea_37 : Nat → Int32) (see_37 : Nat → Int32) (n37 : Nat) (H : Heap) (locs : List Loc) (ls : Array Slot) (x2_37 : Int32) (com_37 : Nat → Int32), FX7_findWays_L37 pri goe_37 tai_37 per_37 lea_37 see_37 n37 x2_37 com_37 = some out → va_P D vwCl ((wX7_0_4_5_9_10_11_12_13_14 cy ad thr sta pri tcd frt frp deg num goe_37 tai_37 per_37 lea_37 com_37 see_37)) H → va_D A ((wX7_0_4_5_9_10_11_12_13_14 cy ad thr sta pri tcd frt frp deg num goe_37 tai_37 per_37 lea_37 com_37 see_37)) → va_S A s.heap H locs → lv_has ls 7 [(0, .ref (ad 0)), (2, .int x2_37)] → W p l e RMX7_findWays s m args below meth c H locs 0 0 QQ (F0 m 37 ls []) := by
    intro goe_37 tai_37 per_37 lea_37 see_37 n37
    induction n37 with
    | zero => intro H locs ls x2_37 com_37 hf; simp [FX7_findWays_L37] at hf
    | succ n37 ih37 =>
      intro H locs ls x2_37 com_37 hf hP hD hS hl
      rw [FX7_findWays_L37] at hf
      refine lv_iload_n hx hb dX7_findWays_37 rfl (lv_at hl 1 rfl) ?_
      refine lv_aload_n hx hb dX7_findWays_38 rfl (lv_at hl 0 rfl) ?_
      refine va_get (a := (ad 0)) (ci := 7) (v := .int pri) (C := RX7) (T := TX7) (N := 28) hx hb hts hin_X7 hown hK hP 0 rfl rfl 2 (by decide) hw_5 (fun _ h => h) rfl dX7_findWays_39 ?_
      refine lv_icmp_ge (tgt := 66) hx hb dX7_findWays_42 (by decide) (fun c_42 => ?_) (fun c_42 => ?_)
      · replace hf := it_p c_42 hf
        refine lv_iconst (v := 0) hx hb dX7_findWays_66 (by decide) ?_
        refine lv_istore_n (lv' := [(2, .int 0), (0, .ref (ad 0))]) hx hb dX7_findWays_67 rfl hl (by decide) rfl (fun ls hl => ?_)
        exact L68 goe_37 com_37 FU H locs ls 0 tai_37 per_37 lea_37 see_37 hf hP hD hS (lv_sub hl [1, 0] rfl)
      · replace hf := it_n c_42 hf
        refine lv_aload_n hx hb dX7_findWays_45 rfl (lv_at hl 0 rfl) ?_
        refine va_get (a := (ad 0)) (ci := 7) (v := .ref (ad 13)) (C := RX7) (T := TX7) (N := 28) hx hb hts hin_X7 hown hK hP 0 rfl rfl 15 (by decide) hw_6 (fun _ h => h) rfl dX7_findWays_46 ?_
        refine lv_aload_n hx hb dX7_findWays_49 rfl (lv_at hl 0 rfl) ?_
        refine va_get (a := (ad 0)) (ci := 7) (v := .ref (ad 9)) (C := RX7) (T := TX7) (N := 28) hx hb hts hin_X7 hown hK hP 0 rfl rfl 11 (by decide) hw_0 (fun _ h => h) rfl dX7_findWays_50 ?_
        refine lv_iload_n hx hb dX7_findWays_53 rfl (lv_at hl 1 rfl) ?_
        replace hf := gi_e hf
        obtain ⟨i_54, hf⟩ := hf
        refine va_iald (a := (ad 9)) hx hb hK hP 3 0 rfl rfl i_54 dX7_findWays_54 ?_
        refine lv_dup2_11 hx hb dX7_findWays_55 rfl rfl ?_
        replace hf := gi_e hf
        obtain ⟨i_56, hf⟩ := hf
        refine va_iald (a := (ad 13)) hx hb hK hP 7 0 rfl rfl i_56 dX7_findWays_56 ?_
        refine lv_iconst (v := 1) hx hb dX7_findWays_57 (by decide) ?_
        refine lv_iadd hx hb dX7_findWays_58 ?_
        replace hf := gi_e hf
        obtain ⟨i_59, hf⟩ := hf
        refine va_iast (a := (ad 13)) hx hb hK hP hD hS 7 0 rfl rfl i_59 dX7_findWays_59 (fun H locs hP hD hS => ?_)
        have hP : va_P D vwCl ((wX7_0_4_5_9_10_11_12_13_14 cy ad thr sta pri tcd frt frp deg num goe_37 tai_37 per_37 lea_37 (upd com_37 (Int32.toNatClampNeg (goe_37 (Int32.toNatClampNeg x2_37))) ((com_37 (Int32.toNatClampNeg (goe_37 (Int32.toNatClampNeg x2_37)))) + 1)) see_37)) H := hP
        have hD : va_D A ((wX7_0_4_5_9_10_11_12_13_14 cy ad thr sta pri tcd frt frp deg num goe_37 tai_37 per_37 lea_37 (upd com_37 (Int32.toNatClampNeg (goe_37 (Int32.toNatClampNeg x2_37))) ((com_37 (Int32.toNatClampNeg (goe_37 (Int32.toNatClampNeg x2_37)))) + 1)) see_37)) := hD
        obtain ⟨v_60, e_60⟩ : ∃ y : Int32, y = x2_37 + 1 := ⟨_, rfl⟩
        replace hf := bd_at e_60 hf
        refine lv_iinc (v := v_60) (lv' := [(2, .int v_60), (0, .ref (ad 0))]) hx hb dX7_findWays_60 hl (k := 1) rfl (by rw [e_60]; rfl) (by decide) rfl (fun ls hl => ?_)
        clear e_60
        refine lv_goto (tgt := 37) hx hb dX7_findWays_63 (by decide) ?_
        exact ih37 H locs ls v_60 (upd com_37 (Int32.toNatClampNeg (goe_37 (Int32.toNatClampNeg x2_37))) ((com_37 (Int32.toNatClampNeg (goe_37 (Int32.toNatClampNeg x2_37)))) + 1)) hf hP hD hS (lv_sub hl [1, 0] rfl)
  have L2 : ∀ (tai_2 : Nat → Int32) (per_2 : Nat → Int32) (lea_2 : Nat → Int32) (see_2 : Nat → Int32) (n2 : Nat) (H : Heap) (locs : List Loc) (ls : Array Slot) (x2_2 : Int32) (goe_2 : Nat → Int32) (com_2 : Nat → Int32), FX7_findWays_L2 x1 pri deg num tai_2 per_2 lea_2 see_2 n2 x2_2 goe_2 com_2 = some out → va_P D vwCl ((wX7_0_4_5_9_10_11_12_13_14 cy ad thr sta pri tcd frt frp deg num goe_2 tai_2 per_2 lea_2 com_2 see_2)) H → va_D A ((wX7_0_4_5_9_10_11_12_13_14 cy ad thr sta pri tcd frt frp deg num goe_2 tai_2 per_2 lea_2 com_2 see_2)) → va_S A s.heap H locs → lv_has ls 7 [(0, .ref (ad 0)), (1, .int x1), (2, .int x2_2)] → W p l e RMX7_findWays s m args below meth c H locs 0 0 QQ (F0 m 2 ls []) := by
    intro tai_2 per_2 lea_2 see_2 n2
    induction n2 with
    | zero => intro H locs ls x2_2 goe_2 com_2 hf; simp [FX7_findWays_L2] at hf
    | succ n2 ih2 =>
      intro H locs ls x2_2 goe_2 com_2 hf hP hD hS hl
      rw [FX7_findWays_L2] at hf
      refine lv_iload_n hx hb dX7_findWays_2 rfl (lv_at hl 2 rfl) ?_
      refine lv_aload_n hx hb dX7_findWays_3 rfl (lv_at hl 0 rfl) ?_
      refine va_get (a := (ad 0)) (ci := 7) (v := .int pri) (C := RX7) (T := TX7) (N := 28) hx hb hts hin_X7 hown hK hP 0 rfl rfl 2 (by decide) hw_5 (fun _ h => h) rfl dX7_findWays_4 ?_
      refine lv_icmp_ge (tgt := 35) hx hb dX7_findWays_7 (by decide) (fun c_7 => ?_) (fun c_7 => ?_)
      · replace hf := it_p c_7 hf
        refine lv_iconst (v := 0) hx hb dX7_findWays_35 (by decide) ?_
        refine lv_istore_n (lv' := [(2, .int 0), (0, .ref (ad 0)), (1, .int x1)]) hx hb dX7_findWays_36 rfl hl (by decide) rfl (fun ls hl => ?_)
        exact L37 goe_2 tai_2 per_2 lea_2 see_2 FU H locs ls 0 com_2 hf hP hD hS (lv_sub hl [1, 0] rfl)
      · replace hf := it_n c_7 hf
        refine lv_aload_n hx hb dX7_findWays_10 rfl (lv_at hl 0 rfl) ?_
        refine va_get (a := (ad 0)) (ci := 7) (v := .ref (ad 9)) (C := RX7) (T := TX7) (N := 28) hx hb hts hin_X7 hown hK hP 0 rfl rfl 11 (by decide) hw_0 (fun _ h => h) rfl dX7_findWays_11 ?_
        refine lv_iload_n hx hb dX7_findWays_14 rfl (lv_at hl 2 rfl) ?_
        refine lv_aload_n hx hb dX7_findWays_15 rfl (lv_at hl 0 rfl) ?_
        refine lv_iload_n hx hb dX7_findWays_16 rfl (lv_at hl 1 rfl) ?_
        refine lv_iload_n hx hb dX7_findWays_17 rfl (lv_at hl 2 rfl) ?_
        replace hf := ob_e hf
        obtain ⟨u_18, hu_18, hf⟩ := hf
        refine ivR (As := [.int x1, .int x2_2]) (rest := [.int x2_2, .ref (ad 9)]) (st1 := [.int u_18, .int x2_2, .ref (ad 9)]) ⟨hx, hb, hml, hown, hts⟩ hK hN (KX7_valueOf l D cy ad thr sta pri tcd frt frp deg num x1 x2_2 H.size hu_18) (cwV 2 hts gX7_findWays_X7_valueOf rfl rfl rfl (by decide +kernel) ⟨Nat.le_of_ble_eq_true rfl, Nat.le_of_ble_eq_true rfl⟩) (va_recv hK hP (ci := 7) (q0 := 0) rfl rfl) (P_pl (wc := (wX7_0_4_5 cy ad thr sta pri tcd frt frp deg num)) (is := [0, 1, 2]) hP rfl) rfl hl.1 rfl (Nat.le_of_ble_eq_true rfl) rfl dX7_findWays_18 ⟨Nat.zero_le _, Nat.zero_le _⟩ ?_
        replace hf := gi_e hf
        obtain ⟨i_21, hf⟩ := hf
        refine va_iast (a := (ad 9)) hx hb hK hP hD hS 3 0 rfl rfl i_21 dX7_findWays_21 (fun H locs hP hD hS => ?_)
        have hP : va_P D vwCl ((wX7_0_4_5_9_10_11_12_13_14 cy ad thr sta pri tcd frt frp deg num (upd goe_2 (Int32.toNatClampNeg x2_2) u_18) tai_2 per_2 lea_2 com_2 see_2)) H := hP
        have hD : va_D A ((wX7_0_4_5_9_10_11_12_13_14 cy ad thr sta pri tcd frt frp deg num (upd goe_2 (Int32.toNatClampNeg x2_2) u_18) tai_2 per_2 lea_2 com_2 see_2)) := hD
        refine lv_aload_n hx hb dX7_findWays_22 rfl (lv_at hl 0 rfl) ?_
        refine va_get (a := (ad 0)) (ci := 7) (v := .ref (ad 13)) (C := RX7) (T := TX7) (N := 28) hx hb hts hin_X7 hown hK hP 0 rfl rfl 15 (by decide) hw_6 (fun _ h => h) rfl dX7_findWays_23 ?_
        refine lv_iload_n hx hb dX7_findWays_26 rfl (lv_at hl 2 rfl) ?_
        refine lv_iconst (v := 0) hx hb dX7_findWays_27 (by decide) ?_
        replace hf := gi_e hf
        obtain ⟨i_28, hf⟩ := hf
        refine va_iast (a := (ad 13)) hx hb hK hP hD hS 7 0 rfl rfl i_28 dX7_findWays_28 (fun H locs hP hD hS => ?_)
        have hP : va_P D vwCl ((wX7_0_4_5_9_10_11_12_13_14 cy ad thr sta pri tcd frt frp deg num (upd goe_2 (Int32.toNatClampNeg x2_2) u_18) tai_2 per_2 lea_2 (upd com_2 (Int32.toNatClampNeg x2_2) 0) see_2)) H := hP
        have hD : va_D A ((wX7_0_4_5_9_10_11_12_13_14 cy ad thr sta pri tcd frt frp deg num (upd goe_2 (Int32.toNatClampNeg x2_2) u_18) tai_2 per_2 lea_2 (upd com_2 (Int32.toNatClampNeg x2_2) 0) see_2)) := hD
        obtain ⟨v_29, e_29⟩ : ∃ y : Int32, y = x2_2 + 1 := ⟨_, rfl⟩
        replace hf := bd_at e_29 hf
        refine lv_iinc (v := v_29) (lv' := [(2, .int v_29), (0, .ref (ad 0)), (1, .int x1)]) hx hb dX7_findWays_29 hl (k := 2) rfl (by rw [e_29]; rfl) (by decide) rfl (fun ls hl => ?_)
        clear e_29
        refine lv_goto (tgt := 2) hx hb dX7_findWays_32 (by decide) ?_
        exact ih2 H locs ls v_29 (upd goe_2 (Int32.toNatClampNeg x2_2) u_18) (upd com_2 (Int32.toNatClampNeg x2_2) 0) hf hP hD hS (lv_sub hl [1, 2, 0] rfl)
  unfold FX7_findWays at hf
  refine lv_iconst (v := 0) hx hb dX7_findWays_0 (by decide) ?_
  refine lv_istore_n (lv' := [(2, .int 0), (0, .ref (ad 0)), (1, .int x1)]) hx hb dX7_findWays_1 rfl hl (by decide) rfl (fun ls hl => ?_)
  exact L2 tai per lea see FU H locs ls 0 goe com hf hP hD hS (lv_sub hl [1, 2, 0] rfl)
def FX7_valuesOf_J32  (k9 : Int32 → Int32 → Option (Int32 × (Nat → Int32) × (Nat → Int32) × (Nat → Int32) × (Nat → Int32) × (Nat → Int32) × (Nat → Int32))) (x3_32 : Int32) (s0_32 : Int32) (s1_32 : Bool) (pri : Int32) (goe_9 : Nat → Int32) (tai_9 : Nat → Int32) (per_9 : Nat → Int32) (lea_9 : Nat → Int32) (com_9 : Nat → Int32) (see_9 : Nat → Int32) : Option (Int32 × (Nat → Int32) × (Nat → Int32) × (Nat → Int32) × (Nat → Int32) × (Nat → Int32) × (Nat → Int32)) := (bd (s0_32 + (bi s1_32)) (fun v_33 => bd (x3_32 + 1) (fun v_34 => k9 v_33 v_34)))
def FX7_valuesOf_L9   (pri : Int32) (goe_9 : Nat → Int32) (tai_9 : Nat → Int32) (per_9 : Nat → Int32) (lea_9 : Nat → Int32) (com_9 : Nat → Int32) (see_9 : Nat → Int32) : Nat → Int32 → Int32 → Option (Int32 × (Nat → Int32) × (Nat → Int32) × (Nat → Int32) × (Nat → Int32) × (Nat → Int32) × (Nat → Int32))
  | 0, _, _ => none
  | fuel + 1, x2_9, x3_9 => (if pri ≤ x3_9 then (some (x2_9, goe_9, tai_9, per_9, lea_9, com_9, see_9)) else (gi x3_9 200 (if (com_9 (Int32.toNatClampNeg x3_9)) ≤ 0 then (FX7_valuesOf_J32 (FX7_valuesOf_L9 pri goe_9 tai_9 per_9 lea_9 com_9 see_9 fuel) x3_9 x2_9 false pri goe_9 tai_9 per_9 lea_9 com_9 see_9) else (FX7_valuesOf_J32 (FX7_valuesOf_L9 pri goe_9 tai_9 per_9 lea_9 com_9 see_9 fuel) x3_9 x2_9 true pri goe_9 tai_9 per_9 lea_9 com_9 see_9))))
def FX7_valuesOf  (pri : Int32) (deg : Nat → Int32) (num : Nat → Int32) (goe : Nat → Int32) (tai : Nat → Int32) (per : Nat → Int32) (lea : Nat → Int32) (com : Nat → Int32) (see : Nat → Int32) (x1 : Int32) : Option (Int32 × (Nat → Int32) × (Nat → Int32) × (Nat → Int32) × (Nat → Int32) × (Nat → Int32) × (Nat → Int32)) := (ob (FX7_findWays pri deg num goe tai per lea com see x1) (fun u_2 => FX7_valuesOf_L9 pri u_2.1 u_2.2.1 u_2.2.2.1 u_2.2.2.2.1 u_2.2.2.2.2.1 u_2.2.2.2.2.2 FU 0 0))
abbrev RMX7_valuesOf : Room := { frames := 2, cells := 0, slots := 0, locals := 50 }
set_option maxHeartbeats 4000000 in
set_option maxRecDepth 100000 in
theorem KX7_valuesOf (l : Launch) (D : va_G) (cy : Nat → ClassId) (ad : Nat → Nat) (thr : Int32) (sta : Int32) (pri : Int32) (tcd : Int32) (frt : Int32) (frp : Int32) (deg : Nat → Int32) (num : Nat → Int32) (goe : Nat → Int32) (tai : Nat → Int32) (per : Nat → Int32) (lea : Nat → Int32) (com : Nat → Int32) (see : Nat → Int32) (x1 : Int32) (sz : Nat) {out : Int32 × (Nat → Int32) × (Nat → Int32) × (Nat → Int32) × (Nat → Int32) × (Nat → Int32) × (Nat → Int32)} (hf : FX7_valuesOf pri deg num goe tai per lea com see x1 = some out) : Met l yX7_valuesOf wsX7_valuesOf RMX7_valuesOf (PW D cy [.ref (ad 0), .int x1] sz ((wX7_0_4_5_9_10_11_12_13_14 cy ad thr sta pri tcd frt frp deg num goe tai per lea com see)) []) (QW D (some (.int out.1)) ((wX7_0_4_5_9_10_11_12_13_14 cy ad thr sta pri tcd frt frp deg num out.2.1 out.2.2.1 out.2.2.2.1 out.2.2.2.2.1 out.2.2.2.2.2.1 out.2.2.2.2.2.2)) (va_A ((wX7_0_4_5_9_10_11_12_13_14 cy ad thr sta pri tcd frt frp deg num goe tai per lea com see)) sz)) 0 0 (va_A ((wX7_0_4_5_9_10_11_12_13_14 cy ad thr sta pri tcd frt frp deg num goe tai per lea com see)) sz) := by
  refine Met.ofW (cc := cX7_valuesOf) (maxL := 4) (ret := (some .int)) (by decide +kernel) rfl ?_
  intro p e s m args below meth c s₁ B hml hv
  obtain ⟨hav, hsz, hP, hR0, hK, hN, hD0, hsep⟩ := hv
  have hx := B.exec
  have hb := B.bytes
  have hr := B.returns
  have hts := atoms_spec (ws := wsX7_valuesOf) B.pre
  have hown : s.vm.findClass RX7 = some m.cls := findClass_of_methodNamed B.named
  have hlocks := B.notSynchronized
  subst hsz
  have hin_X7 : ∀ w ∈ u_ws RX7 TX7 28, w ∈ wsX7_valuesOf := by decide +kernel
  have hw_0 := hts (.fieldLink RX7 98 "ReturnPointsModel" "prime" "I") (by decide +kernel)
  have hw_1 := hts (.fieldLink RX7 55 "ReturnPointsModel" "comes" "[I") (by decide +kernel)
  have hD := hD0.self (sz := s.heap.size)
  have hnA := roA hsep hR0
  generalize hAe : va_A ((wX7_0_4_5_9_10_11_12_13_14 cy ad thr sta pri tcd frt frp deg num goe tai per lea com see)) s.heap.size = A at hD hnA ⊢
  have hA : ∀ q : Nat, s.heap.size ≤ q → A q := fun q h => by rw [← hAe]; exact Or.inr h
  have hS : va_S A s.heap s.heap [] := va_S.rf
  obtain ⟨ls, hfr, hl⟩ := ent_ok (m := m) (n := 4) (l' := [(0, .ref (ad 0)), (1, .int x1)]) [.ref (ad 0), .int x1] hav (Nat.le_of_ble_eq_true rfl) rfl
  rw [hfr]
  generalize hQe : MQ below (QW D (some (.int out.1)) ((wX7_0_4_5_9_10_11_12_13_14 cy ad thr sta pri tcd frt frp deg num out.2.1 out.2.2.1 out.2.2.2.1 out.2.2.2.2.1 out.2.2.2.2.2.1 out.2.2.2.2.2.2)) A) args s 0 0 A = QQ
  change W p l e RMX7_valuesOf s m args below meth c s.heap [] 0 0 QQ (F0 m 0 ls [])
  have hP : va_P D vwCl ((wX7_0_4_5_9_10_11_12_13_14 cy ad thr sta pri tcd frt frp deg num goe tai per lea com see)) s.heap := hP
  have hD : va_D A ((wX7_0_4_5_9_10_11_12_13_14 cy ad thr sta pri tcd frt frp deg num goe tai per lea com see)) := hD
  suffices h00 : ∀ (H : Heap) (locs : List Loc), va_P D vwCl ((wX7_0_4_5_9_10_11_12_13_14 cy ad thr sta pri tcd frt frp deg num goe tai per lea com see)) H → va_S A s.heap H locs → W p l e RMX7_valuesOf s m args below meth c H locs 0 0 QQ (F0 m 0 ls []) from h00 _ _ hP hS
  clear hP hS
  intro H locs hP hS
  have L9 : ∀ (goe_9 : Nat → Int32) (tai_9 : Nat → Int32) (per_9 : Nat → Int32) (lea_9 : Nat → Int32) (com_9 : Nat → Int32) (see_9 : Nat → Int32) (n9 : Nat) (H : Heap) (locs : List Loc) (ls : Array Slot) (x2_9 : Int32) (x3_9 : Int32), FX7_valuesOf_L9 pri goe_9 tai_9 per_9 lea_9 com_9 see_9 n9 x2_9 x3_9 = some out → va_P D vwCl ((wX7_0_4_5_9_10_11_12_13_14 cy ad thr sta pri tcd frt frp deg num goe_9 tai_9 per_9 lea_9 com_9 see_9)) H → va_D A ((wX7_0_4_5_9_10_11_12_13_14 cy ad thr sta pri tcd frt frp deg num goe_9 tai_9 per_9 lea_9 com_9 see_9)) → va_S A s.heap H locs → lv_has ls 4 [(0, .ref (ad 0)), (2, .int x2_9), (3, .int x3_9)] → W p l e RMX7_valuesOf s m args below meth c H locs 0 0 QQ (F0 m 9 ls []) := by
    intro goe_9 tai_9 per_9 lea_9 com_9 see_9 n9
    induction n9 with
    | zero => intro H locs ls x2_9 x3_9 hf; simp [FX7_valuesOf_L9] at hf
    | succ n9 ih9 =>
      intro H locs ls x2_9 x3_9 hf hP hD hS hl
      rw [FX7_valuesOf_L9] at hf
      have J32 : ∀ (H : Heap) (locs : List Loc) (ls : Array Slot) (x3_32 : Int32) (s0_32 : Int32) (s1_32 : Bool), FX7_valuesOf_J32 (FX7_valuesOf_L9 pri goe_9 tai_9 per_9 lea_9 com_9 see_9 n9) x3_32 s0_32 s1_32 pri goe_9 tai_9 per_9 lea_9 com_9 see_9 = some out → va_P D vwCl ((wX7_0_4_5_9_10_11_12_13_14 cy ad thr sta pri tcd frt frp deg num goe_9 tai_9 per_9 lea_9 com_9 see_9)) H → va_D A ((wX7_0_4_5_9_10_11_12_13_14 cy ad thr sta pri tcd frt frp deg num goe_9 tai_9 per_9 lea_9 com_9 see_9)) → va_S A s.heap H locs → lv_has ls 4 [(0, .ref (ad 0)), (3, .int x3_32)] → W p l e RMX7_valuesOf s m args below meth c H locs 0 0 QQ (F0 m 32 ls [.int (bi s1_32), .int s0_32]) := by
        intro H locs ls x3_32 s0_32 s1_32 hf hP hD hS hl
        unfold FX7_valuesOf_J32 at hf
        refine lv_iadd hx hb dX7_valuesOf_32 ?_
        refine lv_topi (fun v_33 e_33 => ?_)
        replace hf := bd_at e_33 hf
        clear e_33
        refine lv_istore_n (lv' := [(2, .int v_33), (0, .ref (ad 0)), (3, .int x3_32)]) hx hb dX7_valuesOf_33 rfl hl (by decide) rfl (fun ls hl => ?_)
        obtain ⟨v_34, e_34⟩ : ∃ y : Int32, y = x3_32 + 1 := ⟨_, rfl⟩
        replace hf := bd_at e_34 hf
        refine lv_iinc (v := v_34) (lv' := [(3, .int v_34), (2, .int v_33), (0, .ref (ad 0))]) hx hb dX7_valuesOf_34 hl (k := 2) rfl (by rw [e_34]; rfl) (by decide) rfl (fun ls hl => ?_)
        clear e_34
        refine lv_goto (tgt := 9) hx hb dX7_valuesOf_37 (by decide) ?_
        exact ih9 H locs ls v_33 v_34 hf hP hD hS (lv_sub hl [2, 1, 0] rfl)
      refine lv_iload_n hx hb dX7_valuesOf_9 rfl (lv_at hl 2 rfl) ?_
      refine lv_aload_n hx hb dX7_valuesOf_10 rfl (lv_at hl 0 rfl) ?_
      refine va_get (a := (ad 0)) (ci := 7) (v := .int pri) (C := RX7) (T := TX7) (N := 28) hx hb hts hin_X7 hown hK hP 0 rfl rfl 2 (by decide) hw_0 (fun _ h => h) rfl dX7_valuesOf_11 ?_
      refine lv_icmp_ge (tgt := 40) hx hb dX7_valuesOf_14 (by decide) (fun c_14 => ?_) (fun c_14 => ?_)
      · replace hf := it_p c_14 hf
        refine lv_iload_n hx hb dX7_valuesOf_40 rfl (lv_at hl 1 rfl) ?_
        obtain rfl := Option.some.inj hf
        rw [← hQe]
        exact W.iret (v := x2_9) hx hb hr (fun t ht hW => ⟨rfl, by rw [ht]; exact hP, hS.F ht⟩) hS.2.2 dX7_valuesOf_41
      · replace hf := it_n c_14 hf
        refine lv_iload_n hx hb dX7_valuesOf_17 rfl (lv_at hl 1 rfl) ?_
        refine lv_aload_n hx hb dX7_valuesOf_18 rfl (lv_at hl 0 rfl) ?_
        refine va_get (a := (ad 0)) (ci := 7) (v := .ref (ad 13)) (C := RX7) (T := TX7) (N := 28) hx hb hts hin_X7 hown hK hP 0 rfl rfl 15 (by decide) hw_1 (fun _ h => h) rfl dX7_valuesOf_19 ?_
        refine lv_iload_n hx hb dX7_valuesOf_22 rfl (lv_at hl 2 rfl) ?_
        replace hf := gi_e hf
        obtain ⟨i_23, hf⟩ := hf
        refine va_iald (a := (ad 13)) hx hb hK hP 7 0 rfl rfl i_23 dX7_valuesOf_23 ?_
        refine lv_if_le (tgt := 31) hx hb dX7_valuesOf_24 (by decide) (fun c_24 => ?_) (fun c_24 => ?_)
        · replace hf := it_p c_24 hf
          refine lv_iconst (v := 0) hx hb dX7_valuesOf_31 (by decide) ?_
          exact J32 H locs ls x3_9 x2_9 false hf hP hD hS (lv_sub hl [0, 2] rfl)
        · replace hf := it_n c_24 hf
          refine lv_iconst (v := 1) hx hb dX7_valuesOf_27 (by decide) ?_
          refine lv_goto (tgt := 32) hx hb dX7_valuesOf_28 (by decide) ?_
          exact J32 H locs ls x3_9 x2_9 true hf hP hD hS (lv_sub hl [0, 2] rfl)
  unfold FX7_valuesOf at hf
  refine lv_aload_n hx hb dX7_valuesOf_0 rfl (lv_at hl 0 rfl) ?_
  refine lv_iload_n hx hb dX7_valuesOf_1 rfl (lv_at hl 1 rfl) ?_
  replace hf := ob_e hf
  obtain ⟨u_2, hu_2, hf⟩ := hf
  refine ivW (As := [.int x1]) (rest := []) (st1 := []) (is := [0, 1, 2, 3, 4, 5, 6, 7, 8]) (w1 := (wX7_0_4_5_9_10_11_12_13_14 cy ad thr sta pri tcd frt frp deg num u_2.1 u_2.2.1 u_2.2.2.1 u_2.2.2.2.1 u_2.2.2.2.2.1 u_2.2.2.2.2.2)) ⟨hx, hb, hml, hown, hts⟩ hK hN (KX7_findWays l D cy ad thr sta pri tcd frt frp deg num goe tai per lea com see x1 H.size hu_2) (cwV 1 hts gX7_valuesOf_X7_findWays rfl rfl rfl (by decide +kernel) ⟨Nat.le_of_ble_eq_true rfl, Nat.le_of_ble_eq_true rfl⟩) (va_recv hK hP (ci := 7) (q0 := 0) rfl rfl) hP hD hS hA P_nil (sepW_nil _) (by decide) rfl rfl rfl hl.1 rfl (Nat.le_of_ble_eq_true rfl) rfl dX7_valuesOf_2 ⟨Nat.zero_le _, Nat.zero_le _⟩ (fun H locs hP hD hS => ?_)
  have hP : va_P D vwCl ((wX7_0_4_5_9_10_11_12_13_14 cy ad thr sta pri tcd frt frp deg num u_2.1 u_2.2.1 u_2.2.2.1 u_2.2.2.2.1 u_2.2.2.2.2.1 u_2.2.2.2.2.2)) H := hP
  have hD : va_D A ((wX7_0_4_5_9_10_11_12_13_14 cy ad thr sta pri tcd frt frp deg num u_2.1 u_2.2.1 u_2.2.2.1 u_2.2.2.2.1 u_2.2.2.2.2.1 u_2.2.2.2.2.2)) := hD
  refine lv_iconst (v := 0) hx hb dX7_valuesOf_5 (by decide) ?_
  refine lv_istore_n (lv' := [(2, .int 0), (0, .ref (ad 0)), (1, .int x1)]) hx hb dX7_valuesOf_6 rfl hl (by decide) rfl (fun ls hl => ?_)
  refine lv_iconst (v := 0) hx hb dX7_valuesOf_7 (by decide) ?_
  refine lv_istore_n (lv' := [(3, .int 0), (2, .int 0), (0, .ref (ad 0)), (1, .int x1)]) hx hb dX7_valuesOf_8 rfl hl (by decide) rfl (fun ls hl => ?_)
  exact L9 u_2.1 u_2.2.1 u_2.2.2.1 u_2.2.2.2.1 u_2.2.2.2.2.1 u_2.2.2.2.2.2 FU H locs ls 0 0 hf hP hD hS (lv_sub hl [2, 1, 0] rfl)
def FX7_began  (tcd : Int32) (trc : Nat → Int32) (x1 : Int32) : Option ((Int32) × (Nat → Int32)) := (if 16 ≤ tcd then (some (tcd, trc)) else (gi tcd 16 ((some ((tcd + 1), (upd trc (Int32.toNatClampNeg tcd) x1))))))
abbrev RMX7_began : Room := { frames := 0, cells := 0, slots := 0, locals := 0 }
set_option maxHeartbeats 4000000 in
set_option maxRecDepth 100000 in
theorem KX7_began (l : Launch) (D : va_G) (cy : Nat → ClassId) (ad : Nat → Nat) (thr : Int32) (sta : Int32) (pri : Int32) (tcd : Int32) (frt : Int32) (frp : Int32) (trc : Nat → Int32) (x1 : Int32) (sz : Nat) {out : (Int32) × (Nat → Int32)} (hf : FX7_began tcd trc x1 = some out) : Met l yX7_began wsX7_began RMX7_began (PW D cy [.ref (ad 0), .int x1] sz ((wX7_0_15 cy ad thr sta pri tcd frt frp trc)) []) (QW D none ((wX7_0_15 cy ad thr sta pri out.1 frt frp out.2)) (va_A ((wX7_0_15 cy ad thr sta pri tcd frt frp trc)) sz)) 0 0 (va_A ((wX7_0_15 cy ad thr sta pri tcd frt frp trc)) sz) := by
  refine Met.ofW (cc := cX7_began) (maxL := 2) (ret := none) (by decide +kernel) rfl ?_
  intro p e s m args below meth c s₁ B hml hv
  obtain ⟨hav, hsz, hP, hR0, hK, hN, hD0, hsep⟩ := hv
  have hx := B.exec
  have hb := B.bytes
  have hr := B.returns
  have hts := atoms_spec (ws := wsX7_began) B.pre
  have hown : s.vm.findClass RX7 = some m.cls := findClass_of_methodNamed B.named
  have hlocks := B.notSynchronized
  subst hsz
  have hin_X7 : ∀ w ∈ u_ws RX7 TX7 28, w ∈ wsX7_began := by decide +kernel
  have hw_0 := hts (.fieldLink RX7 158 "ReturnPointsModel" "traced" "I") (by decide +kernel)
  have hw_1 := hts (.fieldLink RX7 61 "ReturnPointsModel" "trace" "[I") (by decide +kernel)
  have hD := hD0.self (sz := s.heap.size)
  have hnA := roA hsep hR0
  generalize hAe : va_A ((wX7_0_15 cy ad thr sta pri tcd frt frp trc)) s.heap.size = A at hD hnA ⊢
  have hA : ∀ q : Nat, s.heap.size ≤ q → A q := fun q h => by rw [← hAe]; exact Or.inr h
  have hS : va_S A s.heap s.heap [] := va_S.rf
  obtain ⟨ls, hfr, hl⟩ := ent_ok (m := m) (n := 2) (l' := [(0, .ref (ad 0)), (1, .int x1)]) [.ref (ad 0), .int x1] hav (Nat.le_of_ble_eq_true rfl) rfl
  rw [hfr]
  generalize hQe : MQ below (QW D none ((wX7_0_15 cy ad thr sta pri out.1 frt frp out.2)) A) args s 0 0 A = QQ
  change W p l e RMX7_began s m args below meth c s.heap [] 0 0 QQ (F0 m 0 ls [])
  have hP : va_P D vwCl ((wX7_0_15 cy ad thr sta pri tcd frt frp trc)) s.heap := hP
  have hD : va_D A ((wX7_0_15 cy ad thr sta pri tcd frt frp trc)) := hD
  suffices h00 : ∀ (H : Heap) (locs : List Loc), va_P D vwCl ((wX7_0_15 cy ad thr sta pri tcd frt frp trc)) H → va_S A s.heap H locs → W p l e RMX7_began s m args below meth c H locs 0 0 QQ (F0 m 0 ls []) from h00 _ _ hP hS
  clear hP hS
  intro H locs hP hS
  unfold FX7_began at hf
  refine lv_aload_n hx hb dX7_began_0 rfl (lv_at hl 0 rfl) ?_
  refine va_get (a := (ad 0)) (ci := 7) (v := .int tcd) (C := RX7) (T := TX7) (N := 28) hx hb hts hin_X7 hown hK hP 0 rfl rfl 18 (by decide) hw_0 (fun _ h => h) rfl dX7_began_1 ?_
  refine lv_bipush (v := 16) hx hb dX7_began_4 (by decide) ?_
  refine lv_icmp_ge (tgt := 29) hx hb dX7_began_6 (by decide) (fun c_6 => ?_) (fun c_6 => ?_)
  · replace hf := it_p c_6 hf
    obtain rfl := Option.some.inj hf
    rw [← hQe]
    exact W.vret hx hb hr (fun t ht hW => ⟨rfl, by rw [ht]; exact hP, hS.F ht⟩) hS.2.2 dX7_began_29
  · replace hf := it_n c_6 hf
    refine lv_aload_n hx hb dX7_began_9 rfl (lv_at hl 0 rfl) ?_
    refine va_get (a := (ad 0)) (ci := 7) (v := .ref (ad 15)) (C := RX7) (T := TX7) (N := 28) hx hb hts hin_X7 hown hK hP 0 rfl rfl 17 (by decide) hw_1 (fun _ h => h) rfl dX7_began_10 ?_
    refine lv_aload_n hx hb dX7_began_13 rfl (lv_at hl 0 rfl) ?_
    refine va_get (a := (ad 0)) (ci := 7) (v := .int tcd) (C := RX7) (T := TX7) (N := 28) hx hb hts hin_X7 hown hK hP 0 rfl rfl 18 (by decide) hw_0 (fun _ h => h) rfl dX7_began_14 ?_
    refine lv_iload_n hx hb dX7_began_17 rfl (lv_at hl 1 rfl) ?_
    replace hf := gi_e hf
    obtain ⟨i_18, hf⟩ := hf
    refine va_iast (a := (ad 15)) hx hb hK hP hD hS 1 0 rfl rfl i_18 dX7_began_18 (fun H locs hP hD hS => ?_)
    have hP : va_P D vwCl ((wX7_0_15 cy ad thr sta pri tcd frt frp (upd trc (Int32.toNatClampNeg tcd) x1))) H := hP
    have hD : va_D A ((wX7_0_15 cy ad thr sta pri tcd frt frp (upd trc (Int32.toNatClampNeg tcd) x1))) := hD
    refine lv_aload_n hx hb dX7_began_19 rfl (lv_at hl 0 rfl) ?_
    refine lv_dup hx hb dX7_began_20 rfl ?_
    refine va_get (a := (ad 0)) (ci := 7) (v := .int tcd) (C := RX7) (T := TX7) (N := 28) hx hb hts hin_X7 hown hK hP 0 rfl rfl 18 (by decide) hw_0 (fun _ h => h) rfl dX7_began_21 ?_
    refine lv_iconst (v := 1) hx hb dX7_began_24 (by decide) ?_
    refine lv_iadd hx hb dX7_began_25 ?_
    refine va_put (a := (ad 0)) (ci := 7) (v := .int (tcd + 1)) (ty := .int) (C := RX7) (T := TX7) (N := 28) hx hb hts hin_X7 tyX7 tyX7_ok nmX7 hown hK hP hD hS 0 rfl rfl 18 (by decide) hw_0 (fun _ h => h) rfl (by decide +kernel) rfl rfl (Nat.le_of_ble_eq_true rfl) dX7_began_26 (fun H locs hP hD hS => ?_)
    have hP : va_P D vwCl ((wX7_0_15 cy ad thr sta pri (tcd + 1) frt frp (upd trc (Int32.toNatClampNeg tcd) x1))) H := hP
    have hD : va_D A ((wX7_0_15 cy ad thr sta pri (tcd + 1) frt frp (upd trc (Int32.toNatClampNeg tcd) x1))) := hD
    obtain rfl := Option.some.inj hf
    rw [← hQe]
    exact W.vret hx hb hr (fun t ht hW => ⟨rfl, by rw [ht]; exact hP, hS.F ht⟩) hS.2.2 dX7_began_29
def FX7_plainSize  (pri : Int32) (tcd : Int32) (deg : Nat → Int32) (num : Nat → Int32) (goe : Nat → Int32) (tai : Nat → Int32) (per : Nat → Int32) (lea : Nat → Int32) (com : Nat → Int32) (see : Nat → Int32) (trc : Nat → Int32) (x1 : Int32) : Option (Int32 × (Int32) × (Nat → Int32) × (Nat → Int32) × (Nat → Int32) × (Nat → Int32) × (Nat → Int32) × (Nat → Int32) × (Nat → Int32)) := (ob (FX7_began tcd trc 10) (fun u_3 => ob (FX7_valuesOf pri deg num goe tai per lea com see x1) (fun u_8 => some (u_8.1, u_3.1, u_8.2.1, u_8.2.2.1, u_8.2.2.2.1, u_8.2.2.2.2.1, u_8.2.2.2.2.2.1, u_8.2.2.2.2.2.2, u_3.2))))
abbrev RMX7_plainSize : Room := { frames := 3, cells := 0, slots := 0, locals := 73 }
set_option maxHeartbeats 4000000 in
set_option maxRecDepth 100000 in
theorem KX7_plainSize (l : Launch) (D : va_G) (cy : Nat → ClassId) (ad : Nat → Nat) (thr : Int32) (sta : Int32) (pri : Int32) (tcd : Int32) (frt : Int32) (frp : Int32) (deg : Nat → Int32) (num : Nat → Int32) (goe : Nat → Int32) (tai : Nat → Int32) (per : Nat → Int32) (lea : Nat → Int32) (com : Nat → Int32) (see : Nat → Int32) (trc : Nat → Int32) (x1 : Int32) (sz : Nat) {out : Int32 × (Int32) × (Nat → Int32) × (Nat → Int32) × (Nat → Int32) × (Nat → Int32) × (Nat → Int32) × (Nat → Int32) × (Nat → Int32)} (hf : FX7_plainSize pri tcd deg num goe tai per lea com see trc x1 = some out) : Met l yX7_plainSize wsX7_plainSize RMX7_plainSize (PW D cy [.ref (ad 0), .int x1] sz ((wX7_0_4_5_9_10_11_12_13_14_15 cy ad thr sta pri tcd frt frp deg num goe tai per lea com see trc)) []) (QW D (some (.int out.1)) ((wX7_0_4_5_9_10_11_12_13_14_15 cy ad thr sta pri out.2.1 frt frp deg num out.2.2.1 out.2.2.2.1 out.2.2.2.2.1 out.2.2.2.2.2.1 out.2.2.2.2.2.2.1 out.2.2.2.2.2.2.2.1 out.2.2.2.2.2.2.2.2)) (va_A ((wX7_0_4_5_9_10_11_12_13_14_15 cy ad thr sta pri tcd frt frp deg num goe tai per lea com see trc)) sz)) 0 0 (va_A ((wX7_0_4_5_9_10_11_12_13_14_15 cy ad thr sta pri tcd frt frp deg num goe tai per lea com see trc)) sz) := by
  refine Met.ofW (cc := cX7_plainSize) (maxL := 2) (ret := (some .int)) (by decide +kernel) rfl ?_
  intro p e s m args below meth c s₁ B hml hv
  obtain ⟨hav, hsz, hP, hR0, hK, hN, hD0, hsep⟩ := hv
  have hx := B.exec
  have hb := B.bytes
  have hr := B.returns
  have hts := atoms_spec (ws := wsX7_plainSize) B.pre
  have hown : s.vm.findClass RX7 = some m.cls := findClass_of_methodNamed B.named
  have hlocks := B.notSynchronized
  subst hsz
  have hD := hD0.self (sz := s.heap.size)
  have hnA := roA hsep hR0
  generalize hAe : va_A ((wX7_0_4_5_9_10_11_12_13_14_15 cy ad thr sta pri tcd frt frp deg num goe tai per lea com see trc)) s.heap.size = A at hD hnA ⊢
  have hA : ∀ q : Nat, s.heap.size ≤ q → A q := fun q h => by rw [← hAe]; exact Or.inr h
  have hS : va_S A s.heap s.heap [] := va_S.rf
  obtain ⟨ls, hfr, hl⟩ := ent_ok (m := m) (n := 2) (l' := [(0, .ref (ad 0)), (1, .int x1)]) [.ref (ad 0), .int x1] hav (Nat.le_of_ble_eq_true rfl) rfl
  rw [hfr]
  generalize hQe : MQ below (QW D (some (.int out.1)) ((wX7_0_4_5_9_10_11_12_13_14_15 cy ad thr sta pri out.2.1 frt frp deg num out.2.2.1 out.2.2.2.1 out.2.2.2.2.1 out.2.2.2.2.2.1 out.2.2.2.2.2.2.1 out.2.2.2.2.2.2.2.1 out.2.2.2.2.2.2.2.2)) A) args s 0 0 A = QQ
  change W p l e RMX7_plainSize s m args below meth c s.heap [] 0 0 QQ (F0 m 0 ls [])
  have hP : va_P D vwCl ((wX7_0_4_5_9_10_11_12_13_14_15 cy ad thr sta pri tcd frt frp deg num goe tai per lea com see trc)) s.heap := hP
  have hD : va_D A ((wX7_0_4_5_9_10_11_12_13_14_15 cy ad thr sta pri tcd frt frp deg num goe tai per lea com see trc)) := hD
  suffices h00 : ∀ (H : Heap) (locs : List Loc), va_P D vwCl ((wX7_0_4_5_9_10_11_12_13_14_15 cy ad thr sta pri tcd frt frp deg num goe tai per lea com see trc)) H → va_S A s.heap H locs → W p l e RMX7_plainSize s m args below meth c H locs 0 0 QQ (F0 m 0 ls []) from h00 _ _ hP hS
  clear hP hS
  intro H locs hP hS
  unfold FX7_plainSize at hf
  refine lv_aload_n hx hb dX7_plainSize_0 rfl (lv_at hl 0 rfl) ?_
  refine lv_bipush (v := 10) hx hb dX7_plainSize_1 (by decide) ?_
  replace hf := ob_e hf
  obtain ⟨u_3, hu_3, hf⟩ := hf
  refine ivW (As := [.int 10]) (rest := []) (st1 := []) (is := [0, 9]) (w1 := (wX7_0_15 cy ad thr sta pri u_3.1 frt frp u_3.2)) ⟨hx, hb, hml, hown, hts⟩ hK hN (KX7_began l D cy ad thr sta pri tcd frt frp trc 10 H.size hu_3) (cwV 1 hts gX7_plainSize_X7_began rfl rfl rfl (by decide +kernel) ⟨Nat.le_of_ble_eq_true rfl, Nat.le_of_ble_eq_true rfl⟩) (va_recv hK hP (ci := 7) (q0 := 0) rfl rfl) hP hD hS hA P_nil (sepW_nil _) (by decide) rfl rfl rfl hl.1 rfl (Nat.le_of_ble_eq_true rfl) rfl dX7_plainSize_3 ⟨Nat.zero_le _, Nat.zero_le _⟩ (fun H locs hP hD hS => ?_)
  have hP : va_P D vwCl ((wX7_0_4_5_9_10_11_12_13_14_15 cy ad thr sta pri u_3.1 frt frp deg num goe tai per lea com see u_3.2)) H := hP
  have hD : va_D A ((wX7_0_4_5_9_10_11_12_13_14_15 cy ad thr sta pri u_3.1 frt frp deg num goe tai per lea com see u_3.2)) := hD
  refine lv_aload_n hx hb dX7_plainSize_6 rfl (lv_at hl 0 rfl) ?_
  refine lv_iload_n hx hb dX7_plainSize_7 rfl (lv_at hl 1 rfl) ?_
  replace hf := ob_e hf
  obtain ⟨u_8, hu_8, hf⟩ := hf
  refine ivW (As := [.int x1]) (rest := []) (st1 := [.int u_8.1]) (is := [0, 1, 2, 3, 4, 5, 6, 7, 8]) (w1 := (wX7_0_4_5_9_10_11_12_13_14 cy ad thr sta pri u_3.1 frt frp deg num u_8.2.1 u_8.2.2.1 u_8.2.2.2.1 u_8.2.2.2.2.1 u_8.2.2.2.2.2.1 u_8.2.2.2.2.2.2)) ⟨hx, hb, hml, hown, hts⟩ hK hN (KX7_valuesOf l D cy ad thr sta pri u_3.1 frt frp deg num goe tai per lea com see x1 H.size hu_8) (cwV 1 hts gX7_plainSize_X7_valuesOf rfl rfl rfl (by decide +kernel) ⟨Nat.le_of_ble_eq_true rfl, Nat.le_of_ble_eq_true rfl⟩) (va_recv hK hP (ci := 7) (q0 := 0) rfl rfl) hP hD hS hA P_nil (sepW_nil _) (by decide) rfl rfl rfl hl.1 rfl (Nat.le_of_ble_eq_true rfl) rfl dX7_plainSize_8 ⟨Nat.zero_le _, Nat.zero_le _⟩ (fun H locs hP hD hS => ?_)
  have hP : va_P D vwCl ((wX7_0_4_5_9_10_11_12_13_14_15 cy ad thr sta pri u_3.1 frt frp deg num u_8.2.1 u_8.2.2.1 u_8.2.2.2.1 u_8.2.2.2.2.1 u_8.2.2.2.2.2.1 u_8.2.2.2.2.2.2 u_3.2)) H := hP
  have hD : va_D A ((wX7_0_4_5_9_10_11_12_13_14_15 cy ad thr sta pri u_3.1 frt frp deg num u_8.2.1 u_8.2.2.1 u_8.2.2.2.1 u_8.2.2.2.2.1 u_8.2.2.2.2.2.1 u_8.2.2.2.2.2.2 u_3.2)) := hD
  obtain rfl := Option.some.inj hf
  rw [← hQe]
  exact W.iret (v := u_8.1) hx hb hr (fun t ht hW => ⟨rfl, by rw [ht]; exact hP, hS.F ht⟩) hS.2.2 dX7_plainSize_11
def FX7_marked_J93   (x1 : Int32) (x2_93 : Int32) (s0_93 : Int32) (s1_93 : Int32) (pri : Int32) (tcd_93 : Int32) (deg : Nat → Int32) (num : Nat → Int32) (goe_93 : Nat → Int32) (tai_93 : Nat → Int32) (per_93 : Nat → Int32) (lea_93 : Nat → Int32) (com_93 : Nat → Int32) (see_93 : Nat → Int32) (trc_93 : Nat → Int32) : Option (Int32 × (Int32) × (Nat → Int32) × (Nat → Int32) × (Nat → Int32) × (Nat → Int32) × (Nat → Int32) × (Nat → Int32) × (Nat → Int32)) := (bd (s0_93 + s1_93) (fun v_94 => if x2_93 = 4 then (ob (FX7_findWays pri deg num goe_93 tai_93 per_93 lea_93 com_93 see_93 x1) (fun u_102 => gi 0 200 (bd (v_94 + (u_102.2.2.1 (Int32.toNatClampNeg 0))) (fun v_113 => (some (v_113, tcd_93, u_102.1, u_102.2.1, u_102.2.2.1, u_102.2.2.2.1, u_102.2.2.2.2.1, u_102.2.2.2.2.2, trc_93)))))) else (some (v_94, tcd_93, goe_93, tai_93, per_93, lea_93, com_93, see_93, trc_93))))
def FX7_marked_J63   (x1 : Int32) (x2_63 : Int32) (pri : Int32) (tcd_63 : Int32) (deg : Nat → Int32) (num : Nat → Int32) (goe_63 : Nat → Int32) (tai_63 : Nat → Int32) (per_63 : Nat → Int32) (lea_63 : Nat → Int32) (com_63 : Nat → Int32) (see_63 : Nat → Int32) (trc_63 : Nat → Int32) : Option (Int32 × (Int32) × (Nat → Int32) × (Nat → Int32) × (Nat → Int32) × (Nat → Int32) × (Nat → Int32) × (Nat → Int32) × (Nat → Int32)) := (ob (FX7_began tcd_63 trc_63 20) (fun u_66 => gi (5 * x1) 50 (ob (FX7_isOf x2_63 3) (fun u_79 => if (bi u_79) = 0 then (FX7_marked_J93 x1 x2_63 (num (Int32.toNatClampNeg (5 * x1))) 0 pri u_66.1 deg num goe_63 tai_63 per_63 lea_63 com_63 see_63 u_66.2) else (FX7_marked_J93 x1 x2_63 (num (Int32.toNatClampNeg (5 * x1))) pri pri u_66.1 deg num goe_63 tai_63 per_63 lea_63 com_63 see_63 u_66.2)))))
def FX7_marked_J49   (x1 : Int32) (x2_49 : Int32) (pri : Int32) (tcd_49 : Int32) (deg : Nat → Int32) (num : Nat → Int32) (goe_49 : Nat → Int32) (tai_49 : Nat → Int32) (per_49 : Nat → Int32) (lea_49 : Nat → Int32) (com_49 : Nat → Int32) (see_49 : Nat → Int32) (trc_49 : Nat → Int32) : Option (Int32 × (Int32) × (Nat → Int32) × (Nat → Int32) × (Nat → Int32) × (Nat → Int32) × (Nat → Int32) × (Nat → Int32) × (Nat → Int32)) := (ob (FX7_isOf x2_49 3) (fun u_51 => if (bi u_51) = 0 then FX7_marked_J63 x1 x2_49 pri tcd_49 deg num goe_49 tai_49 per_49 lea_49 com_49 see_49 trc_49 else (ob (FX7_began tcd_49 trc_49 21) (fun u_60 => FX7_marked_J63 x1 x2_49 pri u_60.1 deg num goe_49 tai_49 per_49 lea_49 com_49 see_49 u_60.2))))
def FX7_marked  (pri : Int32) (tcd : Int32) (deg : Nat → Int32) (num : Nat → Int32) (goe : Nat → Int32) (tai : Nat → Int32) (per : Nat → Int32) (lea : Nat → Int32) (com : Nat → Int32) (see : Nat → Int32) (trc : Nat → Int32) (x1 : Int32) : Option (Int32 × (Int32) × (Nat → Int32) × (Nat → Int32) × (Nat → Int32) × (Nat → Int32) × (Nat → Int32) × (Nat → Int32) × (Nat → Int32)) := (ob (FX7_kindOf deg num x1) (fun u_2 => if u_2 = 5 then (ob (FX7_began tcd trc 23) (fun u_14 => ob (FX7_began u_14.1 u_14.2 20) (fun u_20 => gi (5 * x1) 50 (ob (FX7_plainSize pri u_20.1 deg num goe tai per lea com see u_20.2 x1) (fun u_33 => some (((num (Int32.toNatClampNeg (5 * x1))) + u_33.1), u_33.2.1, u_33.2.2.1, u_33.2.2.2.1, u_33.2.2.2.2.1, u_33.2.2.2.2.2.1, u_33.2.2.2.2.2.2.1, u_33.2.2.2.2.2.2.2.1, u_33.2.2.2.2.2.2.2.2)))))) else (if u_2 = 4 then (ob (FX7_began tcd trc 22) (fun u_46 => FX7_marked_J49 x1 u_2 pri u_46.1 deg num goe tai per lea com see u_46.2)) else FX7_marked_J49 x1 u_2 pri tcd deg num goe tai per lea com see trc)))
abbrev RMX7_marked : Room := { frames := 4, cells := 0, slots := 0, locals := 94 }
set_option maxHeartbeats 4000000 in
set_option maxRecDepth 100000 in
theorem KX7_marked (l : Launch) (D : va_G) (cy : Nat → ClassId) (ad : Nat → Nat) (thr : Int32) (sta : Int32) (pri : Int32) (tcd : Int32) (frt : Int32) (frp : Int32) (deg : Nat → Int32) (num : Nat → Int32) (goe : Nat → Int32) (tai : Nat → Int32) (per : Nat → Int32) (lea : Nat → Int32) (com : Nat → Int32) (see : Nat → Int32) (trc : Nat → Int32) (x1 : Int32) (sz : Nat) {out : Int32 × (Int32) × (Nat → Int32) × (Nat → Int32) × (Nat → Int32) × (Nat → Int32) × (Nat → Int32) × (Nat → Int32) × (Nat → Int32)} (hf : FX7_marked pri tcd deg num goe tai per lea com see trc x1 = some out) : Met l yX7_marked wsX7_marked RMX7_marked (PW D cy [.ref (ad 0), .int x1] sz ((wX7_0_4_5_9_10_11_12_13_14_15 cy ad thr sta pri tcd frt frp deg num goe tai per lea com see trc)) []) (QW D (some (.int out.1)) ((wX7_0_4_5_9_10_11_12_13_14_15 cy ad thr sta pri out.2.1 frt frp deg num out.2.2.1 out.2.2.2.1 out.2.2.2.2.1 out.2.2.2.2.2.1 out.2.2.2.2.2.2.1 out.2.2.2.2.2.2.2.1 out.2.2.2.2.2.2.2.2)) (va_A ((wX7_0_4_5_9_10_11_12_13_14_15 cy ad thr sta pri tcd frt frp deg num goe tai per lea com see trc)) sz)) 0 0 (va_A ((wX7_0_4_5_9_10_11_12_13_14_15 cy ad thr sta pri tcd frt frp deg num goe tai per lea com see trc)) sz) := by
  refine Met.ofW (cc := cX7_marked) (maxL := 4) (ret := (some .int)) (by decide +kernel) rfl ?_
  intro p e s m args below meth c s₁ B hml hv
  obtain ⟨hav, hsz, hP, hR0, hK, hN, hD0, hsep⟩ := hv
  have hx := B.exec
  have hb := B.bytes
  have hr := B.returns
  have hts := atoms_spec (ws := wsX7_marked) B.pre
  have hown : s.vm.findClass RX7 = some m.cls := findClass_of_methodNamed B.named
  have hlocks := B.notSynchronized
  subst hsz
  have hin_X7 : ∀ w ∈ u_ws RX7 TX7 28, w ∈ wsX7_marked := by decide +kernel
  have hw_0 := hts (.fieldLink RX7 49 "ReturnPointsModel" "period" "[I") (by decide +kernel)
  have hw_1 := hts (.fieldLink RX7 31 "ReturnPointsModel" "number" "[I") (by decide +kernel)
  have hw_2 := hts (.fieldLink RX7 98 "ReturnPointsModel" "prime" "I") (by decide +kernel)
  have hD := hD0.self (sz := s.heap.size)
  have hnA := roA hsep hR0
  generalize hAe : va_A ((wX7_0_4_5_9_10_11_12_13_14_15 cy ad thr sta pri tcd frt frp deg num goe tai per lea com see trc)) s.heap.size = A at hD hnA ⊢
  have hA : ∀ q : Nat, s.heap.size ≤ q → A q := fun q h => by rw [← hAe]; exact Or.inr h
  have hS : va_S A s.heap s.heap [] := va_S.rf
  obtain ⟨ls, hfr, hl⟩ := ent_ok (m := m) (n := 4) (l' := [(0, .ref (ad 0)), (1, .int x1)]) [.ref (ad 0), .int x1] hav (Nat.le_of_ble_eq_true rfl) rfl
  rw [hfr]
  generalize hQe : MQ below (QW D (some (.int out.1)) ((wX7_0_4_5_9_10_11_12_13_14_15 cy ad thr sta pri out.2.1 frt frp deg num out.2.2.1 out.2.2.2.1 out.2.2.2.2.1 out.2.2.2.2.2.1 out.2.2.2.2.2.2.1 out.2.2.2.2.2.2.2.1 out.2.2.2.2.2.2.2.2)) A) args s 0 0 A = QQ
  change W p l e RMX7_marked s m args below meth c s.heap [] 0 0 QQ (F0 m 0 ls [])
  have hP : va_P D vwCl ((wX7_0_4_5_9_10_11_12_13_14_15 cy ad thr sta pri tcd frt frp deg num goe tai per lea com see trc)) s.heap := hP
  have hD : va_D A ((wX7_0_4_5_9_10_11_12_13_14_15 cy ad thr sta pri tcd frt frp deg num goe tai per lea com see trc)) := hD
  suffices h00 : ∀ (H : Heap) (locs : List Loc), va_P D vwCl ((wX7_0_4_5_9_10_11_12_13_14_15 cy ad thr sta pri tcd frt frp deg num goe tai per lea com see trc)) H → va_S A s.heap H locs → W p l e RMX7_marked s m args below meth c H locs 0 0 QQ (F0 m 0 ls []) from h00 _ _ hP hS
  clear hP hS
  intro H locs hP hS
  have J93 : ∀ (H : Heap) (locs : List Loc) (ls : Array Slot) (x2_93 : Int32) (s0_93 : Int32) (s1_93 : Int32) (tcd_93 : Int32) (goe_93 : Nat → Int32) (tai_93 : Nat → Int32) (per_93 : Nat → Int32) (lea_93 : Nat → Int32) (com_93 : Nat → Int32) (see_93 : Nat → Int32) (trc_93 : Nat → Int32), FX7_marked_J93 x1 x2_93 s0_93 s1_93 pri tcd_93 deg num goe_93 tai_93 per_93 lea_93 com_93 see_93 trc_93 = some out → va_P D vwCl ((wX7_0_4_5_9_10_11_12_13_14_15 cy ad thr sta pri tcd_93 frt frp deg num goe_93 tai_93 per_93 lea_93 com_93 see_93 trc_93)) H → va_D A ((wX7_0_4_5_9_10_11_12_13_14_15 cy ad thr sta pri tcd_93 frt frp deg num goe_93 tai_93 per_93 lea_93 com_93 see_93 trc_93)) → va_S A s.heap H locs → lv_has ls 4 [(0, .ref (ad 0)), (1, .int x1), (2, .int x2_93)] → W p l e RMX7_marked s m args below meth c H locs 0 0 QQ (F0 m 93 ls [.int s1_93, .int s0_93]) := by
    intro H locs ls x2_93 s0_93 s1_93 tcd_93 goe_93 tai_93 per_93 lea_93 com_93 see_93 trc_93 hf hP hD hS hl
    unfold FX7_marked_J93 at hf
    refine lv_iadd hx hb dX7_marked_93 ?_
    refine lv_topi (fun v_94 e_94 => ?_)
    replace hf := bd_at e_94 hf
    clear e_94
    refine lv_istore_n (lv' := [(3, .int v_94), (0, .ref (ad 0)), (1, .int x1), (2, .int x2_93)]) hx hb dX7_marked_94 rfl hl (by decide) rfl (fun ls hl => ?_)
    refine lv_iload_n hx hb dX7_marked_95 rfl (lv_at hl 3 rfl) ?_
    refine lv_iconst (v := 4) hx hb dX7_marked_96 (by decide) ?_
    refine lv_icmp_ne (tgt := 114) hx hb dX7_marked_97 (by decide) (fun c_97 => ?_) (fun c_97 => ?_)
    · replace hf := it_n c_97 hf
      refine lv_iload_n hx hb dX7_marked_114 rfl (lv_at hl 0 rfl) ?_
      obtain rfl := Option.some.inj hf
      rw [← hQe]
      exact W.iret (v := v_94) hx hb hr (fun t ht hW => ⟨rfl, by rw [ht]; exact hP, hS.F ht⟩) hS.2.2 dX7_marked_115
    · replace hf := it_p c_97 hf
      refine lv_aload_n hx hb dX7_marked_100 rfl (lv_at hl 1 rfl) ?_
      refine lv_iload_n hx hb dX7_marked_101 rfl (lv_at hl 2 rfl) ?_
      replace hf := ob_e hf
      obtain ⟨u_102, hu_102, hf⟩ := hf
      refine ivW (As := [.int x1]) (rest := []) (st1 := []) (is := [0, 1, 2, 3, 4, 5, 6, 7, 8]) (w1 := (wX7_0_4_5_9_10_11_12_13_14 cy ad thr sta pri tcd_93 frt frp deg num u_102.1 u_102.2.1 u_102.2.2.1 u_102.2.2.2.1 u_102.2.2.2.2.1 u_102.2.2.2.2.2)) ⟨hx, hb, hml, hown, hts⟩ hK hN (KX7_findWays l D cy ad thr sta pri tcd_93 frt frp deg num goe_93 tai_93 per_93 lea_93 com_93 see_93 x1 H.size hu_102) (cwV 1 hts gX7_marked_X7_findWays rfl rfl rfl (by decide +kernel) ⟨Nat.le_of_ble_eq_true rfl, Nat.le_of_ble_eq_true rfl⟩) (va_recv hK hP (ci := 7) (q0 := 0) rfl rfl) hP hD hS hA P_nil (sepW_nil _) (by decide) rfl rfl rfl hl.1 rfl (Nat.le_of_ble_eq_true rfl) rfl dX7_marked_102 ⟨Nat.zero_le _, Nat.zero_le _⟩ (fun H locs hP hD hS => ?_)
      have hP : va_P D vwCl ((wX7_0_4_5_9_10_11_12_13_14_15 cy ad thr sta pri tcd_93 frt frp deg num u_102.1 u_102.2.1 u_102.2.2.1 u_102.2.2.2.1 u_102.2.2.2.2.1 u_102.2.2.2.2.2 trc_93)) H := hP
      have hD : va_D A ((wX7_0_4_5_9_10_11_12_13_14_15 cy ad thr sta pri tcd_93 frt frp deg num u_102.1 u_102.2.1 u_102.2.2.1 u_102.2.2.2.1 u_102.2.2.2.2.1 u_102.2.2.2.2.2 trc_93)) := hD
      refine lv_iload_n hx hb dX7_marked_105 rfl (lv_at hl 0 rfl) ?_
      refine lv_aload_n hx hb dX7_marked_106 rfl (lv_at hl 1 rfl) ?_
      refine va_get (a := (ad 0)) (ci := 7) (v := .ref (ad 11)) (C := RX7) (T := TX7) (N := 28) hx hb hts hin_X7 hown hK hP 0 rfl rfl 13 (by decide) hw_0 (fun _ h => h) rfl dX7_marked_107 ?_
      refine lv_iconst (v := 0) hx hb dX7_marked_110 (by decide) ?_
      replace hf := gi_e hf
      obtain ⟨i_111, hf⟩ := hf
      refine va_iald (a := (ad 11)) hx hb hK hP 5 0 rfl rfl i_111 dX7_marked_111 ?_
      refine lv_iadd hx hb dX7_marked_112 ?_
      refine lv_topi (fun v_113 e_113 => ?_)
      replace hf := bd_at e_113 hf
      clear e_113
      refine lv_istore_n (lv' := [(3, .int v_113), (0, .ref (ad 0)), (1, .int x1), (2, .int x2_93)]) hx hb dX7_marked_113 rfl hl (by decide) rfl (fun ls hl => ?_)
      refine lv_iload_n hx hb dX7_marked_114 rfl (lv_at hl 0 rfl) ?_
      obtain rfl := Option.some.inj hf
      rw [← hQe]
      exact W.iret (v := v_113) hx hb hr (fun t ht hW => ⟨rfl, by rw [ht]; exact hP, hS.F ht⟩) hS.2.2 dX7_marked_115
  have J63 : ∀ (H : Heap) (locs : List Loc) (ls : Array Slot) (x2_63 : Int32) (tcd_63 : Int32) (goe_63 : Nat → Int32) (tai_63 : Nat → Int32) (per_63 : Nat → Int32) (lea_63 : Nat → Int32) (com_63 : Nat → Int32) (see_63 : Nat → Int32) (trc_63 : Nat → Int32), FX7_marked_J63 x1 x2_63 pri tcd_63 deg num goe_63 tai_63 per_63 lea_63 com_63 see_63 trc_63 = some out → va_P D vwCl ((wX7_0_4_5_9_10_11_12_13_14_15 cy ad thr sta pri tcd_63 frt frp deg num goe_63 tai_63 per_63 lea_63 com_63 see_63 trc_63)) H → va_D A ((wX7_0_4_5_9_10_11_12_13_14_15 cy ad thr sta pri tcd_63 frt frp deg num goe_63 tai_63 per_63 lea_63 com_63 see_63 trc_63)) → va_S A s.heap H locs → lv_has ls 4 [(0, .ref (ad 0)), (1, .int x1), (2, .int x2_63)] → W p l e RMX7_marked s m args below meth c H locs 0 0 QQ (F0 m 63 ls []) := by
    intro H locs ls x2_63 tcd_63 goe_63 tai_63 per_63 lea_63 com_63 see_63 trc_63 hf hP hD hS hl
    unfold FX7_marked_J63 at hf
    refine lv_aload_n hx hb dX7_marked_63 rfl (lv_at hl 0 rfl) ?_
    refine lv_bipush (v := 20) hx hb dX7_marked_64 (by decide) ?_
    replace hf := ob_e hf
    obtain ⟨u_66, hu_66, hf⟩ := hf
    refine ivW (As := [.int 20]) (rest := []) (st1 := []) (is := [0, 9]) (w1 := (wX7_0_15 cy ad thr sta pri u_66.1 frt frp u_66.2)) ⟨hx, hb, hml, hown, hts⟩ hK hN (KX7_began l D cy ad thr sta pri tcd_63 frt frp trc_63 20 H.size hu_66) (cwV 1 hts gX7_marked_X7_began rfl rfl rfl (by decide +kernel) ⟨Nat.le_of_ble_eq_true rfl, Nat.le_of_ble_eq_true rfl⟩) (va_recv hK hP (ci := 7) (q0 := 0) rfl rfl) hP hD hS hA P_nil (sepW_nil _) (by decide) rfl rfl rfl hl.1 rfl (Nat.le_of_ble_eq_true rfl) rfl dX7_marked_66 ⟨Nat.zero_le _, Nat.zero_le _⟩ (fun H locs hP hD hS => ?_)
    have hP : va_P D vwCl ((wX7_0_4_5_9_10_11_12_13_14_15 cy ad thr sta pri u_66.1 frt frp deg num goe_63 tai_63 per_63 lea_63 com_63 see_63 u_66.2)) H := hP
    have hD : va_D A ((wX7_0_4_5_9_10_11_12_13_14_15 cy ad thr sta pri u_66.1 frt frp deg num goe_63 tai_63 per_63 lea_63 com_63 see_63 u_66.2)) := hD
    refine lv_aload_n hx hb dX7_marked_69 rfl (lv_at hl 0 rfl) ?_
    refine va_get (a := (ad 0)) (ci := 7) (v := .ref (ad 5)) (C := RX7) (T := TX7) (N := 28) hx hb hts hin_X7 hown hK hP 0 rfl rfl 7 (by decide) hw_1 (fun _ h => h) rfl dX7_marked_70 ?_
    refine lv_iconst (v := 5) hx hb dX7_marked_73 (by decide) ?_
    refine lv_iload_n hx hb dX7_marked_74 rfl (lv_at hl 1 rfl) ?_
    refine lv_imul hx hb dX7_marked_75 ?_
    replace hf := gi_e hf
    obtain ⟨i_76, hf⟩ := hf
    refine va_iald (a := (ad 5)) hx hb hK hP 2 0 rfl rfl i_76 dX7_marked_76 ?_
    refine lv_iload_n hx hb dX7_marked_77 rfl (lv_at hl 2 rfl) ?_
    refine lv_iconst (v := 3) hx hb dX7_marked_78 (by decide) ?_
    replace hf := ob_e hf
    obtain ⟨u_79, hu_79, hf⟩ := hf
    refine isR (As := [.int x2_63, .int 3]) (rest := [.int (num (Int32.toNatClampNeg (5 * x1)))]) (st1 := [.int (bi u_79), .int (num (Int32.toNatClampNeg (5 * x1)))]) ⟨hx, hb, hml, hown, hts⟩ hK hN (KX7_isOf l D cy x2_63 3 H.size hu_79) (va_cwS 2 hts gX7_marked_X7_isOf rfl rfl rfl (by decide +kernel) ⟨Nat.le_of_ble_eq_true rfl, Nat.le_of_ble_eq_true rfl⟩) P_nil rfl hl.1 rfl (Nat.le_of_ble_eq_true rfl) rfl dX7_marked_79 ⟨Nat.zero_le _, Nat.zero_le _⟩ ?_
    refine lv_if_eq (tgt := 92) hx hb dX7_marked_82 (by decide) (fun c_82 => ?_) (fun c_82 => ?_)
    · replace hf := it_p c_82 hf
      refine lv_iconst (v := 0) hx hb dX7_marked_92 (by decide) ?_
      exact J93 H locs ls x2_63 (num (Int32.toNatClampNeg (5 * x1))) 0 u_66.1 goe_63 tai_63 per_63 lea_63 com_63 see_63 u_66.2 hf hP hD hS (lv_sub hl [0, 1, 2] rfl)
    · replace hf := it_n c_82 hf
      refine lv_aload_n hx hb dX7_marked_85 rfl (lv_at hl 0 rfl) ?_
      refine va_get (a := (ad 0)) (ci := 7) (v := .int pri) (C := RX7) (T := TX7) (N := 28) hx hb hts hin_X7 hown hK hP 0 rfl rfl 2 (by decide) hw_2 (fun _ h => h) rfl dX7_marked_86 ?_
      refine lv_goto (tgt := 93) hx hb dX7_marked_89 (by decide) ?_
      exact J93 H locs ls x2_63 (num (Int32.toNatClampNeg (5 * x1))) pri u_66.1 goe_63 tai_63 per_63 lea_63 com_63 see_63 u_66.2 hf hP hD hS (lv_sub hl [0, 1, 2] rfl)
  have J49 : ∀ (H : Heap) (locs : List Loc) (ls : Array Slot) (x2_49 : Int32) (tcd_49 : Int32) (goe_49 : Nat → Int32) (tai_49 : Nat → Int32) (per_49 : Nat → Int32) (lea_49 : Nat → Int32) (com_49 : Nat → Int32) (see_49 : Nat → Int32) (trc_49 : Nat → Int32), FX7_marked_J49 x1 x2_49 pri tcd_49 deg num goe_49 tai_49 per_49 lea_49 com_49 see_49 trc_49 = some out → va_P D vwCl ((wX7_0_4_5_9_10_11_12_13_14_15 cy ad thr sta pri tcd_49 frt frp deg num goe_49 tai_49 per_49 lea_49 com_49 see_49 trc_49)) H → va_D A ((wX7_0_4_5_9_10_11_12_13_14_15 cy ad thr sta pri tcd_49 frt frp deg num goe_49 tai_49 per_49 lea_49 com_49 see_49 trc_49)) → va_S A s.heap H locs → lv_has ls 4 [(0, .ref (ad 0)), (1, .int x1), (2, .int x2_49)] → W p l e RMX7_marked s m args below meth c H locs 0 0 QQ (F0 m 49 ls []) := by
    intro H locs ls x2_49 tcd_49 goe_49 tai_49 per_49 lea_49 com_49 see_49 trc_49 hf hP hD hS hl
    unfold FX7_marked_J49 at hf
    refine lv_iload_n hx hb dX7_marked_49 rfl (lv_at hl 2 rfl) ?_
    refine lv_iconst (v := 3) hx hb dX7_marked_50 (by decide) ?_
    replace hf := ob_e hf
    obtain ⟨u_51, hu_51, hf⟩ := hf
    refine isR (As := [.int x2_49, .int 3]) (rest := []) (st1 := [.int (bi u_51)]) ⟨hx, hb, hml, hown, hts⟩ hK hN (KX7_isOf l D cy x2_49 3 H.size hu_51) (va_cwS 2 hts gX7_marked_X7_isOf rfl rfl rfl (by decide +kernel) ⟨Nat.le_of_ble_eq_true rfl, Nat.le_of_ble_eq_true rfl⟩) P_nil rfl hl.1 rfl (Nat.le_of_ble_eq_true rfl) rfl dX7_marked_51 ⟨Nat.zero_le _, Nat.zero_le _⟩ ?_
    refine lv_if_eq (tgt := 63) hx hb dX7_marked_54 (by decide) (fun c_54 => ?_) (fun c_54 => ?_)
    · replace hf := it_p c_54 hf
      exact J63 H locs ls x2_49 tcd_49 goe_49 tai_49 per_49 lea_49 com_49 see_49 trc_49 hf hP hD hS (lv_sub hl [0, 1, 2] rfl)
    · replace hf := it_n c_54 hf
      refine lv_aload_n hx hb dX7_marked_57 rfl (lv_at hl 0 rfl) ?_
      refine lv_bipush (v := 21) hx hb dX7_marked_58 (by decide) ?_
      replace hf := ob_e hf
      obtain ⟨u_60, hu_60, hf⟩ := hf
      refine ivW (As := [.int 21]) (rest := []) (st1 := []) (is := [0, 9]) (w1 := (wX7_0_15 cy ad thr sta pri u_60.1 frt frp u_60.2)) ⟨hx, hb, hml, hown, hts⟩ hK hN (KX7_began l D cy ad thr sta pri tcd_49 frt frp trc_49 21 H.size hu_60) (cwV 1 hts gX7_marked_X7_began rfl rfl rfl (by decide +kernel) ⟨Nat.le_of_ble_eq_true rfl, Nat.le_of_ble_eq_true rfl⟩) (va_recv hK hP (ci := 7) (q0 := 0) rfl rfl) hP hD hS hA P_nil (sepW_nil _) (by decide) rfl rfl rfl hl.1 rfl (Nat.le_of_ble_eq_true rfl) rfl dX7_marked_60 ⟨Nat.zero_le _, Nat.zero_le _⟩ (fun H locs hP hD hS => ?_)
      have hP : va_P D vwCl ((wX7_0_4_5_9_10_11_12_13_14_15 cy ad thr sta pri u_60.1 frt frp deg num goe_49 tai_49 per_49 lea_49 com_49 see_49 u_60.2)) H := hP
      have hD : va_D A ((wX7_0_4_5_9_10_11_12_13_14_15 cy ad thr sta pri u_60.1 frt frp deg num goe_49 tai_49 per_49 lea_49 com_49 see_49 u_60.2)) := hD
      exact J63 H locs ls x2_49 u_60.1 goe_49 tai_49 per_49 lea_49 com_49 see_49 u_60.2 hf hP hD hS (lv_sub hl [0, 1, 2] rfl)
  unfold FX7_marked at hf
  refine lv_aload_n hx hb dX7_marked_0 rfl (lv_at hl 0 rfl) ?_
  refine lv_iload_n hx hb dX7_marked_1 rfl (lv_at hl 1 rfl) ?_
  replace hf := ob_e hf
  obtain ⟨u_2, hu_2, hf⟩ := hf
  refine ivR (As := [.int x1]) (rest := []) (st1 := [.int u_2]) ⟨hx, hb, hml, hown, hts⟩ hK hN (KX7_kindOf l D cy ad thr sta pri tcd frt frp deg num x1 H.size hu_2) (cwV 1 hts gX7_marked_X7_kindOf rfl rfl rfl (by decide +kernel) ⟨Nat.le_of_ble_eq_true rfl, Nat.le_of_ble_eq_true rfl⟩) (va_recv hK hP (ci := 7) (q0 := 0) rfl rfl) (P_pl (wc := (wX7_0_4_5 cy ad thr sta pri tcd frt frp deg num)) (is := [0, 1, 2]) hP rfl) rfl hl.1 rfl (Nat.le_of_ble_eq_true rfl) rfl dX7_marked_2 ⟨Nat.zero_le _, Nat.zero_le _⟩ ?_
  refine lv_istore_n (lv' := [(2, .int u_2), (0, .ref (ad 0)), (1, .int x1)]) hx hb dX7_marked_5 rfl hl (by decide) rfl (fun ls hl => ?_)
  refine lv_iload_n hx hb dX7_marked_6 rfl (lv_at hl 0 rfl) ?_
  refine lv_iconst (v := 5) hx hb dX7_marked_7 (by decide) ?_
  refine lv_icmp_ne (tgt := 38) hx hb dX7_marked_8 (by decide) (fun c_8 => ?_) (fun c_8 => ?_)
  · replace hf := it_n c_8 hf
    refine lv_iload_n hx hb dX7_marked_38 rfl (lv_at hl 0 rfl) ?_
    refine lv_iconst (v := 4) hx hb dX7_marked_39 (by decide) ?_
    refine lv_icmp_ne (tgt := 49) hx hb dX7_marked_40 (by decide) (fun c_40 => ?_) (fun c_40 => ?_)
    · replace hf := it_n c_40 hf
      exact J49 H locs ls u_2 tcd goe tai per lea com see trc hf hP hD hS (lv_sub hl [1, 2, 0] rfl)
    · replace hf := it_p c_40 hf
      refine lv_aload_n hx hb dX7_marked_43 rfl (lv_at hl 1 rfl) ?_
      refine lv_bipush (v := 22) hx hb dX7_marked_44 (by decide) ?_
      replace hf := ob_e hf
      obtain ⟨u_46, hu_46, hf⟩ := hf
      refine ivW (As := [.int 22]) (rest := []) (st1 := []) (is := [0, 9]) (w1 := (wX7_0_15 cy ad thr sta pri u_46.1 frt frp u_46.2)) ⟨hx, hb, hml, hown, hts⟩ hK hN (KX7_began l D cy ad thr sta pri tcd frt frp trc 22 H.size hu_46) (cwV 1 hts gX7_marked_X7_began rfl rfl rfl (by decide +kernel) ⟨Nat.le_of_ble_eq_true rfl, Nat.le_of_ble_eq_true rfl⟩) (va_recv hK hP (ci := 7) (q0 := 0) rfl rfl) hP hD hS hA P_nil (sepW_nil _) (by decide) rfl rfl rfl hl.1 rfl (Nat.le_of_ble_eq_true rfl) rfl dX7_marked_46 ⟨Nat.zero_le _, Nat.zero_le _⟩ (fun H locs hP hD hS => ?_)
      have hP : va_P D vwCl ((wX7_0_4_5_9_10_11_12_13_14_15 cy ad thr sta pri u_46.1 frt frp deg num goe tai per lea com see u_46.2)) H := hP
      have hD : va_D A ((wX7_0_4_5_9_10_11_12_13_14_15 cy ad thr sta pri u_46.1 frt frp deg num goe tai per lea com see u_46.2)) := hD
      exact J49 H locs ls u_2 u_46.1 goe tai per lea com see u_46.2 hf hP hD hS (lv_sub hl [1, 2, 0] rfl)
  · replace hf := it_p c_8 hf
    refine lv_aload_n hx hb dX7_marked_11 rfl (lv_at hl 1 rfl) ?_
    refine lv_bipush (v := 23) hx hb dX7_marked_12 (by decide) ?_
    replace hf := ob_e hf
    obtain ⟨u_14, hu_14, hf⟩ := hf
    refine ivW (As := [.int 23]) (rest := []) (st1 := []) (is := [0, 9]) (w1 := (wX7_0_15 cy ad thr sta pri u_14.1 frt frp u_14.2)) ⟨hx, hb, hml, hown, hts⟩ hK hN (KX7_began l D cy ad thr sta pri tcd frt frp trc 23 H.size hu_14) (cwV 1 hts gX7_marked_X7_began rfl rfl rfl (by decide +kernel) ⟨Nat.le_of_ble_eq_true rfl, Nat.le_of_ble_eq_true rfl⟩) (va_recv hK hP (ci := 7) (q0 := 0) rfl rfl) hP hD hS hA P_nil (sepW_nil _) (by decide) rfl rfl rfl hl.1 rfl (Nat.le_of_ble_eq_true rfl) rfl dX7_marked_14 ⟨Nat.zero_le _, Nat.zero_le _⟩ (fun H locs hP hD hS => ?_)
    have hP : va_P D vwCl ((wX7_0_4_5_9_10_11_12_13_14_15 cy ad thr sta pri u_14.1 frt frp deg num goe tai per lea com see u_14.2)) H := hP
    have hD : va_D A ((wX7_0_4_5_9_10_11_12_13_14_15 cy ad thr sta pri u_14.1 frt frp deg num goe tai per lea com see u_14.2)) := hD
    refine lv_aload_n hx hb dX7_marked_17 rfl (lv_at hl 1 rfl) ?_
    refine lv_bipush (v := 20) hx hb dX7_marked_18 (by decide) ?_
    replace hf := ob_e hf
    obtain ⟨u_20, hu_20, hf⟩ := hf
    refine ivW (As := [.int 20]) (rest := []) (st1 := []) (is := [0, 9]) (w1 := (wX7_0_15 cy ad thr sta pri u_20.1 frt frp u_20.2)) ⟨hx, hb, hml, hown, hts⟩ hK hN (KX7_began l D cy ad thr sta pri u_14.1 frt frp u_14.2 20 H.size hu_20) (cwV 1 hts gX7_marked_X7_began rfl rfl rfl (by decide +kernel) ⟨Nat.le_of_ble_eq_true rfl, Nat.le_of_ble_eq_true rfl⟩) (va_recv hK hP (ci := 7) (q0 := 0) rfl rfl) hP hD hS hA P_nil (sepW_nil _) (by decide) rfl rfl rfl hl.1 rfl (Nat.le_of_ble_eq_true rfl) rfl dX7_marked_20 ⟨Nat.zero_le _, Nat.zero_le _⟩ (fun H locs hP hD hS => ?_)
    have hP : va_P D vwCl ((wX7_0_4_5_9_10_11_12_13_14_15 cy ad thr sta pri u_20.1 frt frp deg num goe tai per lea com see u_20.2)) H := hP
    have hD : va_D A ((wX7_0_4_5_9_10_11_12_13_14_15 cy ad thr sta pri u_20.1 frt frp deg num goe tai per lea com see u_20.2)) := hD
    refine lv_aload_n hx hb dX7_marked_23 rfl (lv_at hl 1 rfl) ?_
    refine va_get (a := (ad 0)) (ci := 7) (v := .ref (ad 5)) (C := RX7) (T := TX7) (N := 28) hx hb hts hin_X7 hown hK hP 0 rfl rfl 7 (by decide) hw_1 (fun _ h => h) rfl dX7_marked_24 ?_
    refine lv_iconst (v := 5) hx hb dX7_marked_27 (by decide) ?_
    refine lv_iload_n hx hb dX7_marked_28 rfl (lv_at hl 2 rfl) ?_
    refine lv_imul hx hb dX7_marked_29 ?_
    replace hf := gi_e hf
    obtain ⟨i_30, hf⟩ := hf
    refine va_iald (a := (ad 5)) hx hb hK hP 2 0 rfl rfl i_30 dX7_marked_30 ?_
    refine lv_aload_n hx hb dX7_marked_31 rfl (lv_at hl 1 rfl) ?_
    refine lv_iload_n hx hb dX7_marked_32 rfl (lv_at hl 2 rfl) ?_
    replace hf := ob_e hf
    obtain ⟨u_33, hu_33, hf⟩ := hf
    refine ivW (As := [.int x1]) (rest := [.int (num (Int32.toNatClampNeg (5 * x1)))]) (st1 := [.int u_33.1, .int (num (Int32.toNatClampNeg (5 * x1)))]) (is := [0, 1, 2, 3, 4, 5, 6, 7, 8, 9]) (w1 := (wX7_0_4_5_9_10_11_12_13_14_15 cy ad thr sta pri u_33.2.1 frt frp deg num u_33.2.2.1 u_33.2.2.2.1 u_33.2.2.2.2.1 u_33.2.2.2.2.2.1 u_33.2.2.2.2.2.2.1 u_33.2.2.2.2.2.2.2.1 u_33.2.2.2.2.2.2.2.2)) ⟨hx, hb, hml, hown, hts⟩ hK hN (KX7_plainSize l D cy ad thr sta pri u_20.1 frt frp deg num goe tai per lea com see u_20.2 x1 H.size hu_33) (cwV 1 hts gX7_marked_X7_plainSize rfl rfl rfl (by decide +kernel) ⟨Nat.le_of_ble_eq_true rfl, Nat.le_of_ble_eq_true rfl⟩) (va_recv hK hP (ci := 7) (q0 := 0) rfl rfl) hP hD hS hA P_nil (sepW_nil _) (by decide) rfl rfl rfl hl.1 rfl (Nat.le_of_ble_eq_true rfl) rfl dX7_marked_33 ⟨Nat.zero_le _, Nat.zero_le _⟩ (fun H locs hP hD hS => ?_)
    have hP : va_P D vwCl ((wX7_0_4_5_9_10_11_12_13_14_15 cy ad thr sta pri u_33.2.1 frt frp deg num u_33.2.2.1 u_33.2.2.2.1 u_33.2.2.2.2.1 u_33.2.2.2.2.2.1 u_33.2.2.2.2.2.2.1 u_33.2.2.2.2.2.2.2.1 u_33.2.2.2.2.2.2.2.2)) H := hP
    have hD : va_D A ((wX7_0_4_5_9_10_11_12_13_14_15 cy ad thr sta pri u_33.2.1 frt frp deg num u_33.2.2.1 u_33.2.2.2.1 u_33.2.2.2.2.1 u_33.2.2.2.2.2.1 u_33.2.2.2.2.2.2.1 u_33.2.2.2.2.2.2.2.1 u_33.2.2.2.2.2.2.2.2)) := hD
    refine lv_iadd hx hb dX7_marked_36 ?_
    obtain rfl := Option.some.inj hf
    rw [← hQe]
    exact W.iret (v := ((num (Int32.toNatClampNeg (5 * x1))) + u_33.1)) hx hb hr (fun t ht hW => ⟨rfl, by rw [ht]; exact hP, hS.F ht⟩) hS.2.2 dX7_marked_37
def FX7_sized_J47   (x1 : Int32) (x2_47 : Int32) (pri : Int32) (tcd_47 : Int32) (deg : Nat → Int32) (num : Nat → Int32) (goe_47 : Nat → Int32) (tai_47 : Nat → Int32) (per_47 : Nat → Int32) (lea_47 : Nat → Int32) (com_47 : Nat → Int32) (see_47 : Nat → Int32) (trc_47 : Nat → Int32) : Option (Int32 × (Int32) × (Nat → Int32) × (Nat → Int32) × (Nat → Int32) × (Nat → Int32) × (Nat → Int32) × (Nat → Int32) × (Nat → Int32)) := (ob (FX7_plainSize pri tcd_47 deg num goe_47 tai_47 per_47 lea_47 com_47 see_47 trc_47 x1) (fun u_49 => bd u_49.1 (fun v_52 => if x2_47 = 4 then (ob (FX7_marked pri u_49.2.1 deg num u_49.2.2.1 u_49.2.2.2.1 u_49.2.2.2.2.1 u_49.2.2.2.2.2.1 u_49.2.2.2.2.2.2.1 u_49.2.2.2.2.2.2.2.1 u_49.2.2.2.2.2.2.2.2 x1) (fun u_63 => (some (((2 * v_52) + u_63.1), u_63.2.1, u_63.2.2.1, u_63.2.2.2.1, u_63.2.2.2.2.1, u_63.2.2.2.2.2.1, u_63.2.2.2.2.2.2.1, u_63.2.2.2.2.2.2.2.1, u_63.2.2.2.2.2.2.2.2)))) else (if x2_47 = 3 then ((some ((2 * v_52), u_49.2.1, u_49.2.2.1, u_49.2.2.2.1, u_49.2.2.2.2.1, u_49.2.2.2.2.2.1, u_49.2.2.2.2.2.2.1, u_49.2.2.2.2.2.2.2.1, u_49.2.2.2.2.2.2.2.2))) else ((some (v_52, u_49.2.1, u_49.2.2.1, u_49.2.2.2.1, u_49.2.2.2.2.1, u_49.2.2.2.2.2.1, u_49.2.2.2.2.2.2.1, u_49.2.2.2.2.2.2.2.1, u_49.2.2.2.2.2.2.2.2)))))))
def FX7_sized_J33   (x1 : Int32) (x2_33 : Int32) (pri : Int32) (tcd_33 : Int32) (deg : Nat → Int32) (num : Nat → Int32) (goe_33 : Nat → Int32) (tai_33 : Nat → Int32) (per_33 : Nat → Int32) (lea_33 : Nat → Int32) (com_33 : Nat → Int32) (see_33 : Nat → Int32) (trc_33 : Nat → Int32) : Option (Int32 × (Int32) × (Nat → Int32) × (Nat → Int32) × (Nat → Int32) × (Nat → Int32) × (Nat → Int32) × (Nat → Int32) × (Nat → Int32)) := (ob (FX7_isOf x2_33 3) (fun u_35 => if (bi u_35) = 0 then FX7_sized_J47 x1 x2_33 pri tcd_33 deg num goe_33 tai_33 per_33 lea_33 com_33 see_33 trc_33 else (ob (FX7_began tcd_33 trc_33 12) (fun u_44 => FX7_sized_J47 x1 x2_33 pri u_44.1 deg num goe_33 tai_33 per_33 lea_33 com_33 see_33 u_44.2))))
def FX7_sized  (pri : Int32) (tcd : Int32) (deg : Nat → Int32) (num : Nat → Int32) (goe : Nat → Int32) (tai : Nat → Int32) (per : Nat → Int32) (lea : Nat → Int32) (com : Nat → Int32) (see : Nat → Int32) (trc : Nat → Int32) (x1 : Int32) : Option (Int32 × (Int32) × (Nat → Int32) × (Nat → Int32) × (Nat → Int32) × (Nat → Int32) × (Nat → Int32) × (Nat → Int32) × (Nat → Int32)) := (ob (FX7_kindOf deg num x1) (fun u_2 => if u_2 = 2 then (ob (FX7_began tcd trc 11) (fun u_14 => some (pri, u_14.1, goe, tai, per, lea, com, see, u_14.2))) else (if u_2 = 4 then (ob (FX7_began tcd trc 13) (fun u_30 => FX7_sized_J33 x1 u_2 pri u_30.1 deg num goe tai per lea com see u_30.2)) else FX7_sized_J33 x1 u_2 pri tcd deg num goe tai per lea com see trc)))
abbrev RMX7_sized : Room := { frames := 5, cells := 0, slots := 0, locals := 117 }
set_option maxHeartbeats 4000000 in
set_option maxRecDepth 100000 in
theorem KX7_sized (l : Launch) (D : va_G) (cy : Nat → ClassId) (ad : Nat → Nat) (thr : Int32) (sta : Int32) (pri : Int32) (tcd : Int32) (frt : Int32) (frp : Int32) (deg : Nat → Int32) (num : Nat → Int32) (goe : Nat → Int32) (tai : Nat → Int32) (per : Nat → Int32) (lea : Nat → Int32) (com : Nat → Int32) (see : Nat → Int32) (trc : Nat → Int32) (x1 : Int32) (sz : Nat) {out : Int32 × (Int32) × (Nat → Int32) × (Nat → Int32) × (Nat → Int32) × (Nat → Int32) × (Nat → Int32) × (Nat → Int32) × (Nat → Int32)} (hf : FX7_sized pri tcd deg num goe tai per lea com see trc x1 = some out) : Met l yX7_sized wsX7_sized RMX7_sized (PW D cy [.ref (ad 0), .int x1] sz ((wX7_0_4_5_9_10_11_12_13_14_15 cy ad thr sta pri tcd frt frp deg num goe tai per lea com see trc)) []) (QW D (some (.int out.1)) ((wX7_0_4_5_9_10_11_12_13_14_15 cy ad thr sta pri out.2.1 frt frp deg num out.2.2.1 out.2.2.2.1 out.2.2.2.2.1 out.2.2.2.2.2.1 out.2.2.2.2.2.2.1 out.2.2.2.2.2.2.2.1 out.2.2.2.2.2.2.2.2)) (va_A ((wX7_0_4_5_9_10_11_12_13_14_15 cy ad thr sta pri tcd frt frp deg num goe tai per lea com see trc)) sz)) 0 0 (va_A ((wX7_0_4_5_9_10_11_12_13_14_15 cy ad thr sta pri tcd frt frp deg num goe tai per lea com see trc)) sz) := by
  refine Met.ofW (cc := cX7_sized) (maxL := 4) (ret := (some .int)) (by decide +kernel) rfl ?_
  intro p e s m args below meth c s₁ B hml hv
  obtain ⟨hav, hsz, hP, hR0, hK, hN, hD0, hsep⟩ := hv
  have hx := B.exec
  have hb := B.bytes
  have hr := B.returns
  have hts := atoms_spec (ws := wsX7_sized) B.pre
  have hown : s.vm.findClass RX7 = some m.cls := findClass_of_methodNamed B.named
  have hlocks := B.notSynchronized
  subst hsz
  have hin_X7 : ∀ w ∈ u_ws RX7 TX7 28, w ∈ wsX7_sized := by decide +kernel
  have hw_0 := hts (.fieldLink RX7 98 "ReturnPointsModel" "prime" "I") (by decide +kernel)
  have hD := hD0.self (sz := s.heap.size)
  have hnA := roA hsep hR0
  generalize hAe : va_A ((wX7_0_4_5_9_10_11_12_13_14_15 cy ad thr sta pri tcd frt frp deg num goe tai per lea com see trc)) s.heap.size = A at hD hnA ⊢
  have hA : ∀ q : Nat, s.heap.size ≤ q → A q := fun q h => by rw [← hAe]; exact Or.inr h
  have hS : va_S A s.heap s.heap [] := va_S.rf
  obtain ⟨ls, hfr, hl⟩ := ent_ok (m := m) (n := 4) (l' := [(0, .ref (ad 0)), (1, .int x1)]) [.ref (ad 0), .int x1] hav (Nat.le_of_ble_eq_true rfl) rfl
  rw [hfr]
  generalize hQe : MQ below (QW D (some (.int out.1)) ((wX7_0_4_5_9_10_11_12_13_14_15 cy ad thr sta pri out.2.1 frt frp deg num out.2.2.1 out.2.2.2.1 out.2.2.2.2.1 out.2.2.2.2.2.1 out.2.2.2.2.2.2.1 out.2.2.2.2.2.2.2.1 out.2.2.2.2.2.2.2.2)) A) args s 0 0 A = QQ
  change W p l e RMX7_sized s m args below meth c s.heap [] 0 0 QQ (F0 m 0 ls [])
  have hP : va_P D vwCl ((wX7_0_4_5_9_10_11_12_13_14_15 cy ad thr sta pri tcd frt frp deg num goe tai per lea com see trc)) s.heap := hP
  have hD : va_D A ((wX7_0_4_5_9_10_11_12_13_14_15 cy ad thr sta pri tcd frt frp deg num goe tai per lea com see trc)) := hD
  suffices h00 : ∀ (H : Heap) (locs : List Loc), va_P D vwCl ((wX7_0_4_5_9_10_11_12_13_14_15 cy ad thr sta pri tcd frt frp deg num goe tai per lea com see trc)) H → va_S A s.heap H locs → W p l e RMX7_sized s m args below meth c H locs 0 0 QQ (F0 m 0 ls []) from h00 _ _ hP hS
  clear hP hS
  intro H locs hP hS
  have J47 : ∀ (H : Heap) (locs : List Loc) (ls : Array Slot) (x2_47 : Int32) (tcd_47 : Int32) (goe_47 : Nat → Int32) (tai_47 : Nat → Int32) (per_47 : Nat → Int32) (lea_47 : Nat → Int32) (com_47 : Nat → Int32) (see_47 : Nat → Int32) (trc_47 : Nat → Int32), FX7_sized_J47 x1 x2_47 pri tcd_47 deg num goe_47 tai_47 per_47 lea_47 com_47 see_47 trc_47 = some out → va_P D vwCl ((wX7_0_4_5_9_10_11_12_13_14_15 cy ad thr sta pri tcd_47 frt frp deg num goe_47 tai_47 per_47 lea_47 com_47 see_47 trc_47)) H → va_D A ((wX7_0_4_5_9_10_11_12_13_14_15 cy ad thr sta pri tcd_47 frt frp deg num goe_47 tai_47 per_47 lea_47 com_47 see_47 trc_47)) → va_S A s.heap H locs → lv_has ls 4 [(0, .ref (ad 0)), (1, .int x1), (2, .int x2_47)] → W p l e RMX7_sized s m args below meth c H locs 0 0 QQ (F0 m 47 ls []) := by
    intro H locs ls x2_47 tcd_47 goe_47 tai_47 per_47 lea_47 com_47 see_47 trc_47 hf hP hD hS hl
    unfold FX7_sized_J47 at hf
    refine lv_aload_n hx hb dX7_sized_47 rfl (lv_at hl 0 rfl) ?_
    refine lv_iload_n hx hb dX7_sized_48 rfl (lv_at hl 1 rfl) ?_
    replace hf := ob_e hf
    obtain ⟨u_49, hu_49, hf⟩ := hf
    refine ivW (As := [.int x1]) (rest := []) (st1 := [.int u_49.1]) (is := [0, 1, 2, 3, 4, 5, 6, 7, 8, 9]) (w1 := (wX7_0_4_5_9_10_11_12_13_14_15 cy ad thr sta pri u_49.2.1 frt frp deg num u_49.2.2.1 u_49.2.2.2.1 u_49.2.2.2.2.1 u_49.2.2.2.2.2.1 u_49.2.2.2.2.2.2.1 u_49.2.2.2.2.2.2.2.1 u_49.2.2.2.2.2.2.2.2)) ⟨hx, hb, hml, hown, hts⟩ hK hN (KX7_plainSize l D cy ad thr sta pri tcd_47 frt frp deg num goe_47 tai_47 per_47 lea_47 com_47 see_47 trc_47 x1 H.size hu_49) (cwV 1 hts gX7_sized_X7_plainSize rfl rfl rfl (by decide +kernel) ⟨Nat.le_of_ble_eq_true rfl, Nat.le_of_ble_eq_true rfl⟩) (va_recv hK hP (ci := 7) (q0 := 0) rfl rfl) hP hD hS hA P_nil (sepW_nil _) (by decide) rfl rfl rfl hl.1 rfl (Nat.le_of_ble_eq_true rfl) rfl dX7_sized_49 ⟨Nat.zero_le _, Nat.zero_le _⟩ (fun H locs hP hD hS => ?_)
    have hP : va_P D vwCl ((wX7_0_4_5_9_10_11_12_13_14_15 cy ad thr sta pri u_49.2.1 frt frp deg num u_49.2.2.1 u_49.2.2.2.1 u_49.2.2.2.2.1 u_49.2.2.2.2.2.1 u_49.2.2.2.2.2.2.1 u_49.2.2.2.2.2.2.2.1 u_49.2.2.2.2.2.2.2.2)) H := hP
    have hD : va_D A ((wX7_0_4_5_9_10_11_12_13_14_15 cy ad thr sta pri u_49.2.1 frt frp deg num u_49.2.2.1 u_49.2.2.2.1 u_49.2.2.2.2.1 u_49.2.2.2.2.2.1 u_49.2.2.2.2.2.2.1 u_49.2.2.2.2.2.2.2.1 u_49.2.2.2.2.2.2.2.2)) := hD
    refine lv_topi (fun v_52 e_52 => ?_)
    replace hf := bd_at e_52 hf
    clear e_52
    refine lv_istore_n (lv' := [(3, .int v_52), (0, .ref (ad 0)), (1, .int x1), (2, .int x2_47)]) hx hb dX7_sized_52 rfl hl (by decide) rfl (fun ls hl => ?_)
    refine lv_iload_n hx hb dX7_sized_53 rfl (lv_at hl 3 rfl) ?_
    refine lv_iconst (v := 4) hx hb dX7_sized_54 (by decide) ?_
    refine lv_icmp_ne (tgt := 70) hx hb dX7_sized_55 (by decide) (fun c_55 => ?_) (fun c_55 => ?_)
    · replace hf := it_n c_55 hf
      refine lv_iload_n hx hb dX7_sized_70 rfl (lv_at hl 3 rfl) ?_
      refine lv_iconst (v := 3) hx hb dX7_sized_71 (by decide) ?_
      refine lv_icmp_ne (tgt := 81) hx hb dX7_sized_72 (by decide) (fun c_72 => ?_) (fun c_72 => ?_)
      · replace hf := it_n c_72 hf
        refine lv_iload_n hx hb dX7_sized_81 rfl (lv_at hl 0 rfl) ?_
        obtain rfl := Option.some.inj hf
        rw [← hQe]
        exact W.iret (v := v_52) hx hb hr (fun t ht hW => ⟨rfl, by rw [ht]; exact hP, hS.F ht⟩) hS.2.2 dX7_sized_82
      · replace hf := it_p c_72 hf
        refine lv_iconst (v := 2) hx hb dX7_sized_75 (by decide) ?_
        refine lv_iload_n hx hb dX7_sized_76 rfl (lv_at hl 0 rfl) ?_
        refine lv_imul hx hb dX7_sized_77 ?_
        refine lv_goto (tgt := 82) hx hb dX7_sized_78 (by decide) ?_
        obtain rfl := Option.some.inj hf
        rw [← hQe]
        exact W.iret (v := (2 * v_52)) hx hb hr (fun t ht hW => ⟨rfl, by rw [ht]; exact hP, hS.F ht⟩) hS.2.2 dX7_sized_82
    · replace hf := it_p c_55 hf
      refine lv_iconst (v := 2) hx hb dX7_sized_58 (by decide) ?_
      refine lv_iload_n hx hb dX7_sized_59 rfl (lv_at hl 0 rfl) ?_
      refine lv_imul hx hb dX7_sized_60 ?_
      refine lv_aload_n hx hb dX7_sized_61 rfl (lv_at hl 1 rfl) ?_
      refine lv_iload_n hx hb dX7_sized_62 rfl (lv_at hl 2 rfl) ?_
      replace hf := ob_e hf
      obtain ⟨u_63, hu_63, hf⟩ := hf
      refine ivW (As := [.int x1]) (rest := [.int (2 * v_52)]) (st1 := [.int u_63.1, .int (2 * v_52)]) (is := [0, 1, 2, 3, 4, 5, 6, 7, 8, 9]) (w1 := (wX7_0_4_5_9_10_11_12_13_14_15 cy ad thr sta pri u_63.2.1 frt frp deg num u_63.2.2.1 u_63.2.2.2.1 u_63.2.2.2.2.1 u_63.2.2.2.2.2.1 u_63.2.2.2.2.2.2.1 u_63.2.2.2.2.2.2.2.1 u_63.2.2.2.2.2.2.2.2)) ⟨hx, hb, hml, hown, hts⟩ hK hN (KX7_marked l D cy ad thr sta pri u_49.2.1 frt frp deg num u_49.2.2.1 u_49.2.2.2.1 u_49.2.2.2.2.1 u_49.2.2.2.2.2.1 u_49.2.2.2.2.2.2.1 u_49.2.2.2.2.2.2.2.1 u_49.2.2.2.2.2.2.2.2 x1 H.size hu_63) (cwV 1 hts gX7_sized_X7_marked rfl rfl rfl (by decide +kernel) ⟨Nat.le_of_ble_eq_true rfl, Nat.le_of_ble_eq_true rfl⟩) (va_recv hK hP (ci := 7) (q0 := 0) rfl rfl) hP hD hS hA P_nil (sepW_nil _) (by decide) rfl rfl rfl hl.1 rfl (Nat.le_of_ble_eq_true rfl) rfl dX7_sized_63 ⟨Nat.zero_le _, Nat.zero_le _⟩ (fun H locs hP hD hS => ?_)
      have hP : va_P D vwCl ((wX7_0_4_5_9_10_11_12_13_14_15 cy ad thr sta pri u_63.2.1 frt frp deg num u_63.2.2.1 u_63.2.2.2.1 u_63.2.2.2.2.1 u_63.2.2.2.2.2.1 u_63.2.2.2.2.2.2.1 u_63.2.2.2.2.2.2.2.1 u_63.2.2.2.2.2.2.2.2)) H := hP
      have hD : va_D A ((wX7_0_4_5_9_10_11_12_13_14_15 cy ad thr sta pri u_63.2.1 frt frp deg num u_63.2.2.1 u_63.2.2.2.1 u_63.2.2.2.2.1 u_63.2.2.2.2.2.1 u_63.2.2.2.2.2.2.1 u_63.2.2.2.2.2.2.2.1 u_63.2.2.2.2.2.2.2.2)) := hD
      refine lv_iadd hx hb dX7_sized_66 ?_
      refine lv_goto (tgt := 82) hx hb dX7_sized_67 (by decide) ?_
      obtain rfl := Option.some.inj hf
      rw [← hQe]
      exact W.iret (v := ((2 * v_52) + u_63.1)) hx hb hr (fun t ht hW => ⟨rfl, by rw [ht]; exact hP, hS.F ht⟩) hS.2.2 dX7_sized_82
  have J33 : ∀ (H : Heap) (locs : List Loc) (ls : Array Slot) (x2_33 : Int32) (tcd_33 : Int32) (goe_33 : Nat → Int32) (tai_33 : Nat → Int32) (per_33 : Nat → Int32) (lea_33 : Nat → Int32) (com_33 : Nat → Int32) (see_33 : Nat → Int32) (trc_33 : Nat → Int32), FX7_sized_J33 x1 x2_33 pri tcd_33 deg num goe_33 tai_33 per_33 lea_33 com_33 see_33 trc_33 = some out → va_P D vwCl ((wX7_0_4_5_9_10_11_12_13_14_15 cy ad thr sta pri tcd_33 frt frp deg num goe_33 tai_33 per_33 lea_33 com_33 see_33 trc_33)) H → va_D A ((wX7_0_4_5_9_10_11_12_13_14_15 cy ad thr sta pri tcd_33 frt frp deg num goe_33 tai_33 per_33 lea_33 com_33 see_33 trc_33)) → va_S A s.heap H locs → lv_has ls 4 [(0, .ref (ad 0)), (1, .int x1), (2, .int x2_33)] → W p l e RMX7_sized s m args below meth c H locs 0 0 QQ (F0 m 33 ls []) := by
    intro H locs ls x2_33 tcd_33 goe_33 tai_33 per_33 lea_33 com_33 see_33 trc_33 hf hP hD hS hl
    unfold FX7_sized_J33 at hf
    refine lv_iload_n hx hb dX7_sized_33 rfl (lv_at hl 2 rfl) ?_
    refine lv_iconst (v := 3) hx hb dX7_sized_34 (by decide) ?_
    replace hf := ob_e hf
    obtain ⟨u_35, hu_35, hf⟩ := hf
    refine isR (As := [.int x2_33, .int 3]) (rest := []) (st1 := [.int (bi u_35)]) ⟨hx, hb, hml, hown, hts⟩ hK hN (KX7_isOf l D cy x2_33 3 H.size hu_35) (va_cwS 2 hts gX7_sized_X7_isOf rfl rfl rfl (by decide +kernel) ⟨Nat.le_of_ble_eq_true rfl, Nat.le_of_ble_eq_true rfl⟩) P_nil rfl hl.1 rfl (Nat.le_of_ble_eq_true rfl) rfl dX7_sized_35 ⟨Nat.zero_le _, Nat.zero_le _⟩ ?_
    refine lv_if_eq (tgt := 47) hx hb dX7_sized_38 (by decide) (fun c_38 => ?_) (fun c_38 => ?_)
    · replace hf := it_p c_38 hf
      exact J47 H locs ls x2_33 tcd_33 goe_33 tai_33 per_33 lea_33 com_33 see_33 trc_33 hf hP hD hS (lv_sub hl [0, 1, 2] rfl)
    · replace hf := it_n c_38 hf
      refine lv_aload_n hx hb dX7_sized_41 rfl (lv_at hl 0 rfl) ?_
      refine lv_bipush (v := 12) hx hb dX7_sized_42 (by decide) ?_
      replace hf := ob_e hf
      obtain ⟨u_44, hu_44, hf⟩ := hf
      refine ivW (As := [.int 12]) (rest := []) (st1 := []) (is := [0, 9]) (w1 := (wX7_0_15 cy ad thr sta pri u_44.1 frt frp u_44.2)) ⟨hx, hb, hml, hown, hts⟩ hK hN (KX7_began l D cy ad thr sta pri tcd_33 frt frp trc_33 12 H.size hu_44) (cwV 1 hts gX7_sized_X7_began rfl rfl rfl (by decide +kernel) ⟨Nat.le_of_ble_eq_true rfl, Nat.le_of_ble_eq_true rfl⟩) (va_recv hK hP (ci := 7) (q0 := 0) rfl rfl) hP hD hS hA P_nil (sepW_nil _) (by decide) rfl rfl rfl hl.1 rfl (Nat.le_of_ble_eq_true rfl) rfl dX7_sized_44 ⟨Nat.zero_le _, Nat.zero_le _⟩ (fun H locs hP hD hS => ?_)
      have hP : va_P D vwCl ((wX7_0_4_5_9_10_11_12_13_14_15 cy ad thr sta pri u_44.1 frt frp deg num goe_33 tai_33 per_33 lea_33 com_33 see_33 u_44.2)) H := hP
      have hD : va_D A ((wX7_0_4_5_9_10_11_12_13_14_15 cy ad thr sta pri u_44.1 frt frp deg num goe_33 tai_33 per_33 lea_33 com_33 see_33 u_44.2)) := hD
      exact J47 H locs ls x2_33 u_44.1 goe_33 tai_33 per_33 lea_33 com_33 see_33 u_44.2 hf hP hD hS (lv_sub hl [0, 1, 2] rfl)
  unfold FX7_sized at hf
  refine lv_aload_n hx hb dX7_sized_0 rfl (lv_at hl 0 rfl) ?_
  refine lv_iload_n hx hb dX7_sized_1 rfl (lv_at hl 1 rfl) ?_
  replace hf := ob_e hf
  obtain ⟨u_2, hu_2, hf⟩ := hf
  refine ivR (As := [.int x1]) (rest := []) (st1 := [.int u_2]) ⟨hx, hb, hml, hown, hts⟩ hK hN (KX7_kindOf l D cy ad thr sta pri tcd frt frp deg num x1 H.size hu_2) (cwV 1 hts gX7_sized_X7_kindOf rfl rfl rfl (by decide +kernel) ⟨Nat.le_of_ble_eq_true rfl, Nat.le_of_ble_eq_true rfl⟩) (va_recv hK hP (ci := 7) (q0 := 0) rfl rfl) (P_pl (wc := (wX7_0_4_5 cy ad thr sta pri tcd frt frp deg num)) (is := [0, 1, 2]) hP rfl) rfl hl.1 rfl (Nat.le_of_ble_eq_true rfl) rfl dX7_sized_2 ⟨Nat.zero_le _, Nat.zero_le _⟩ ?_
  refine lv_istore_n (lv' := [(2, .int u_2), (0, .ref (ad 0)), (1, .int x1)]) hx hb dX7_sized_5 rfl hl (by decide) rfl (fun ls hl => ?_)
  refine lv_iload_n hx hb dX7_sized_6 rfl (lv_at hl 0 rfl) ?_
  refine lv_iconst (v := 2) hx hb dX7_sized_7 (by decide) ?_
  refine lv_icmp_ne (tgt := 22) hx hb dX7_sized_8 (by decide) (fun c_8 => ?_) (fun c_8 => ?_)
  · replace hf := it_n c_8 hf
    refine lv_iload_n hx hb dX7_sized_22 rfl (lv_at hl 0 rfl) ?_
    refine lv_iconst (v := 4) hx hb dX7_sized_23 (by decide) ?_
    refine lv_icmp_ne (tgt := 33) hx hb dX7_sized_24 (by decide) (fun c_24 => ?_) (fun c_24 => ?_)
    · replace hf := it_n c_24 hf
      exact J33 H locs ls u_2 tcd goe tai per lea com see trc hf hP hD hS (lv_sub hl [1, 2, 0] rfl)
    · replace hf := it_p c_24 hf
      refine lv_aload_n hx hb dX7_sized_27 rfl (lv_at hl 1 rfl) ?_
      refine lv_bipush (v := 13) hx hb dX7_sized_28 (by decide) ?_
      replace hf := ob_e hf
      obtain ⟨u_30, hu_30, hf⟩ := hf
      refine ivW (As := [.int 13]) (rest := []) (st1 := []) (is := [0, 9]) (w1 := (wX7_0_15 cy ad thr sta pri u_30.1 frt frp u_30.2)) ⟨hx, hb, hml, hown, hts⟩ hK hN (KX7_began l D cy ad thr sta pri tcd frt frp trc 13 H.size hu_30) (cwV 1 hts gX7_sized_X7_began rfl rfl rfl (by decide +kernel) ⟨Nat.le_of_ble_eq_true rfl, Nat.le_of_ble_eq_true rfl⟩) (va_recv hK hP (ci := 7) (q0 := 0) rfl rfl) hP hD hS hA P_nil (sepW_nil _) (by decide) rfl rfl rfl hl.1 rfl (Nat.le_of_ble_eq_true rfl) rfl dX7_sized_30 ⟨Nat.zero_le _, Nat.zero_le _⟩ (fun H locs hP hD hS => ?_)
      have hP : va_P D vwCl ((wX7_0_4_5_9_10_11_12_13_14_15 cy ad thr sta pri u_30.1 frt frp deg num goe tai per lea com see u_30.2)) H := hP
      have hD : va_D A ((wX7_0_4_5_9_10_11_12_13_14_15 cy ad thr sta pri u_30.1 frt frp deg num goe tai per lea com see u_30.2)) := hD
      exact J33 H locs ls u_2 u_30.1 goe tai per lea com see u_30.2 hf hP hD hS (lv_sub hl [1, 2, 0] rfl)
  · replace hf := it_p c_8 hf
    refine lv_aload_n hx hb dX7_sized_11 rfl (lv_at hl 1 rfl) ?_
    refine lv_bipush (v := 11) hx hb dX7_sized_12 (by decide) ?_
    replace hf := ob_e hf
    obtain ⟨u_14, hu_14, hf⟩ := hf
    refine ivW (As := [.int 11]) (rest := []) (st1 := []) (is := [0, 9]) (w1 := (wX7_0_15 cy ad thr sta pri u_14.1 frt frp u_14.2)) ⟨hx, hb, hml, hown, hts⟩ hK hN (KX7_began l D cy ad thr sta pri tcd frt frp trc 11 H.size hu_14) (cwV 1 hts gX7_sized_X7_began rfl rfl rfl (by decide +kernel) ⟨Nat.le_of_ble_eq_true rfl, Nat.le_of_ble_eq_true rfl⟩) (va_recv hK hP (ci := 7) (q0 := 0) rfl rfl) hP hD hS hA P_nil (sepW_nil _) (by decide) rfl rfl rfl hl.1 rfl (Nat.le_of_ble_eq_true rfl) rfl dX7_sized_14 ⟨Nat.zero_le _, Nat.zero_le _⟩ (fun H locs hP hD hS => ?_)
    have hP : va_P D vwCl ((wX7_0_4_5_9_10_11_12_13_14_15 cy ad thr sta pri u_14.1 frt frp deg num goe tai per lea com see u_14.2)) H := hP
    have hD : va_D A ((wX7_0_4_5_9_10_11_12_13_14_15 cy ad thr sta pri u_14.1 frt frp deg num goe tai per lea com see u_14.2)) := hD
    refine lv_aload_n hx hb dX7_sized_17 rfl (lv_at hl 1 rfl) ?_
    refine va_get (a := (ad 0)) (ci := 7) (v := .int pri) (C := RX7) (T := TX7) (N := 28) hx hb hts hin_X7 hown hK hP 0 rfl rfl 2 (by decide) hw_0 (fun _ h => h) rfl dX7_sized_18 ?_
    obtain rfl := Option.some.inj hf
    rw [← hQe]
    exact W.iret (v := pri) hx hb hr (fun t ht hW => ⟨rfl, by rw [ht]; exact hP, hS.F ht⟩) hS.2.2 dX7_sized_21
def FX7_ask  (sta : Int32) (pri : Int32) (tcd : Int32) (deg : Nat → Int32) (num : Nat → Int32) (goe : Nat → Int32) (tai : Nat → Int32) (per : Nat → Int32) (lea : Nat → Int32) (com : Nat → Int32) (see : Nat → Int32) (trc : Nat → Int32) (x1 : Int32) (x2 : Int32) : Option (Int32 × (Int32) × (Int32) × (Int32) × (Nat → Int32) × (Nat → Int32) × (Nat → Int32) × (Nat → Int32) × (Nat → Int32) × (Nat → Int32) × (Nat → Int32)) := (ob (FX7_isPlace x1) (fun u_6 => if (bi u_6) = 0 then (some ((-1000001), 0, sta, tcd, goe, tai, per, lea, com, see, trc)) else (ob (FX7_in (Int32.toInt64 x2) 0 1) (fun u_16 => if (bi u_16) = 0 then (some ((-1000001), 0, sta, tcd, goe, tai, per, lea, com, see, trc)) else (ob (FX7_look deg x1) (fun u_32 => bd u_32.1 (fun v_35 => if 0 ≤ v_35 then (if x2 = 0 then (ob (FX7_sized pri 0 deg num goe tai per lea com see trc x1) (fun u_50 => (some (u_50.1, 0, u_32.2, u_50.2.1, u_50.2.2.1, u_50.2.2.2.1, u_50.2.2.2.2.1, u_50.2.2.2.2.2.1, u_50.2.2.2.2.2.2.1, u_50.2.2.2.2.2.2.2.1, u_50.2.2.2.2.2.2.2.2)))) else (ob (FX7_marked pri 0 deg num goe tai per lea com see trc x1) (fun u_58 => (some (u_58.1, 0, u_32.2, u_58.2.1, u_58.2.2.1, u_58.2.2.2.1, u_58.2.2.2.2.1, u_58.2.2.2.2.2.1, u_58.2.2.2.2.2.2.1, u_58.2.2.2.2.2.2.2.1, u_58.2.2.2.2.2.2.2.2))))) else ((some (v_35, 0, u_32.2, 0, goe, tai, per, lea, com, see, trc))))))))))
abbrev RMX7_ask : Room := { frames := 6, cells := 0, slots := 0, locals := 140 }
set_option maxHeartbeats 4000000 in
set_option maxRecDepth 100000 in
theorem KX7_ask (l : Launch) (D : va_G) (cy : Nat → ClassId) (ad : Nat → Nat) (thr : Int32) (sta : Int32) (pri : Int32) (tcd : Int32) (frt : Int32) (frp : Int32) (deg : Nat → Int32) (num : Nat → Int32) (goe : Nat → Int32) (tai : Nat → Int32) (per : Nat → Int32) (lea : Nat → Int32) (com : Nat → Int32) (see : Nat → Int32) (trc : Nat → Int32) (x1 : Int32) (x2 : Int32) (sz : Nat) {out : Int32 × (Int32) × (Int32) × (Int32) × (Nat → Int32) × (Nat → Int32) × (Nat → Int32) × (Nat → Int32) × (Nat → Int32) × (Nat → Int32) × (Nat → Int32)} (hf : FX7_ask sta pri tcd deg num goe tai per lea com see trc x1 x2 = some out) : Met l yX7_ask wsX7_ask RMX7_ask (PW D cy [.ref (ad 0), .int x1, .int x2] sz ((wX7_0_4_5_9_10_11_12_13_14_15 cy ad thr sta pri tcd frt frp deg num goe tai per lea com see trc)) []) (QW D (some (.int out.1)) ((wX7_0_4_5_9_10_11_12_13_14_15 cy ad out.2.1 out.2.2.1 pri out.2.2.2.1 frt frp deg num out.2.2.2.2.1 out.2.2.2.2.2.1 out.2.2.2.2.2.2.1 out.2.2.2.2.2.2.2.1 out.2.2.2.2.2.2.2.2.1 out.2.2.2.2.2.2.2.2.2.1 out.2.2.2.2.2.2.2.2.2.2)) (va_A ((wX7_0_4_5_9_10_11_12_13_14_15 cy ad thr sta pri tcd frt frp deg num goe tai per lea com see trc)) sz)) 0 0 (va_A ((wX7_0_4_5_9_10_11_12_13_14_15 cy ad thr sta pri tcd frt frp deg num goe tai per lea com see trc)) sz) := by
  refine Met.ofW (cc := cX7_ask) (maxL := 4) (ret := (some .int)) (by decide +kernel) rfl ?_
  intro p e s m args below meth c s₁ B hml hv
  obtain ⟨hav, hsz, hP, hR0, hK, hN, hD0, hsep⟩ := hv
  have hx := B.exec
  have hb := B.bytes
  have hr := B.returns
  have hts := atoms_spec (ws := wsX7_ask) B.pre
  have hown : s.vm.findClass RX7 = some m.cls := findClass_of_methodNamed B.named
  have hlocks := B.notSynchronized
  subst hsz
  have hin_X7 : ∀ w ∈ u_ws RX7 TX7 28, w ∈ wsX7_ask := by decide +kernel
  have hw_0 := hts (.constant RX7 108 (-1000001)) (by decide +kernel)
  have hw_1 := hts (.fieldLink RX7 1 "ReturnPointsModel" "thrown" "I") (by decide +kernel)
  have hw_2 := hts (.fieldLink RX7 158 "ReturnPointsModel" "traced" "I") (by decide +kernel)
  have hD := hD0.self (sz := s.heap.size)
  have hnA := roA hsep hR0
  generalize hAe : va_A ((wX7_0_4_5_9_10_11_12_13_14_15 cy ad thr sta pri tcd frt frp deg num goe tai per lea com see trc)) s.heap.size = A at hD hnA ⊢
  have hA : ∀ q : Nat, s.heap.size ≤ q → A q := fun q h => by rw [← hAe]; exact Or.inr h
  have hS : va_S A s.heap s.heap [] := va_S.rf
  obtain ⟨ls, hfr, hl⟩ := ent_ok (m := m) (n := 4) (l' := [(0, .ref (ad 0)), (1, .int x1), (2, .int x2)]) [.ref (ad 0), .int x1, .int x2] hav (Nat.le_of_ble_eq_true rfl) rfl
  rw [hfr]
  generalize hQe : MQ below (QW D (some (.int out.1)) ((wX7_0_4_5_9_10_11_12_13_14_15 cy ad out.2.1 out.2.2.1 pri out.2.2.2.1 frt frp deg num out.2.2.2.2.1 out.2.2.2.2.2.1 out.2.2.2.2.2.2.1 out.2.2.2.2.2.2.2.1 out.2.2.2.2.2.2.2.2.1 out.2.2.2.2.2.2.2.2.2.1 out.2.2.2.2.2.2.2.2.2.2)) A) args s 0 0 A = QQ
  change W p l e RMX7_ask s m args below meth c s.heap [] 0 0 QQ (F0 m 0 ls [])
  have hP : va_P D vwCl ((wX7_0_4_5_9_10_11_12_13_14_15 cy ad thr sta pri tcd frt frp deg num goe tai per lea com see trc)) s.heap := hP
  have hD : va_D A ((wX7_0_4_5_9_10_11_12_13_14_15 cy ad thr sta pri tcd frt frp deg num goe tai per lea com see trc)) := hD
  suffices h00 : ∀ (H : Heap) (locs : List Loc), va_P D vwCl ((wX7_0_4_5_9_10_11_12_13_14_15 cy ad thr sta pri tcd frt frp deg num goe tai per lea com see trc)) H → va_S A s.heap H locs → W p l e RMX7_ask s m args below meth c H locs 0 0 QQ (F0 m 0 ls []) from h00 _ _ hP hS
  clear hP hS
  intro H locs hP hS
  unfold FX7_ask at hf
  refine lv_aload_n hx hb dX7_ask_0 rfl (lv_at hl 0 rfl) ?_
  refine lv_iconst (v := 0) hx hb dX7_ask_1 (by decide) ?_
  refine va_put (a := (ad 0)) (ci := 7) (v := .int 0) (ty := .int) (C := RX7) (T := TX7) (N := 28) hx hb hts hin_X7 tyX7 tyX7_ok nmX7 hown hK hP hD hS 0 rfl rfl 0 (by decide) hw_1 (fun _ h => h) rfl (by decide +kernel) rfl rfl (Nat.le_of_ble_eq_true rfl) dX7_ask_2 (fun H locs hP hD hS => ?_)
  have hP : va_P D vwCl ((wX7_0_4_5_9_10_11_12_13_14_15 cy ad 0 sta pri tcd frt frp deg num goe tai per lea com see trc)) H := hP
  have hD : va_D A ((wX7_0_4_5_9_10_11_12_13_14_15 cy ad 0 sta pri tcd frt frp deg num goe tai per lea com see trc)) := hD
  refine lv_iload_n hx hb dX7_ask_5 rfl (lv_at hl 1 rfl) ?_
  replace hf := ob_e hf
  obtain ⟨u_6, hu_6, hf⟩ := hf
  refine isR (As := [.int x1]) (rest := []) (st1 := [.int (bi u_6)]) ⟨hx, hb, hml, hown, hts⟩ hK hN (KX7_isPlace l D cy x1 H.size hu_6) (va_cwS 1 hts gX7_ask_X7_isPlace rfl rfl rfl (by decide +kernel) ⟨Nat.le_of_ble_eq_true rfl, Nat.le_of_ble_eq_true rfl⟩) P_nil rfl hl.1 rfl (Nat.le_of_ble_eq_true rfl) rfl dX7_ask_6 ⟨Nat.zero_le _, Nat.zero_le _⟩ ?_
  refine lv_if_eq (tgt := 22) hx hb dX7_ask_9 (by decide) (fun c_9 => ?_) (fun c_9 => ?_)
  · replace hf := it_p c_9 hf
    refine lv_ldc (own := RX7) (v := (-1000001)) hx hb hown hw_0 dX7_ask_22 ?_
    obtain rfl := Option.some.inj hf
    rw [← hQe]
    exact W.iret (v := (-1000001)) hx hb hr (fun t ht hW => ⟨rfl, by rw [ht]; exact hP, hS.F ht⟩) hS.2.2 dX7_ask_24
  · replace hf := it_n c_9 hf
    refine lv_iload_n hx hb dX7_ask_12 rfl (lv_at hl 2 rfl) ?_
    refine lv_i2l hx hb dX7_ask_13 rfl ?_
    refine lv_lconst (v := 0) hx hb dX7_ask_14 (by decide) ?_
    refine lv_lconst (v := 1) hx hb dX7_ask_15 (by decide) ?_
    replace hf := ob_e hf
    obtain ⟨u_16, hu_16, hf⟩ := hf
    refine isR (As := [.long (Int32.toInt64 x2), .long 0, .long 1]) (rest := []) (st1 := [.int (bi u_16)]) ⟨hx, hb, hml, hown, hts⟩ hK hN (KX7_in l D cy (Int32.toInt64 x2) 0 1 H.size hu_16) (va_cwS 3 hts gX7_ask_X7_in rfl rfl rfl (by decide +kernel) ⟨Nat.le_of_ble_eq_true rfl, Nat.le_of_ble_eq_true rfl⟩) P_nil rfl hl.1 rfl (Nat.le_of_ble_eq_true rfl) rfl dX7_ask_16 ⟨Nat.zero_le _, Nat.zero_le _⟩ ?_
    refine lv_if_ne (tgt := 25) hx hb dX7_ask_19 (by decide) (fun c_19 => ?_) (fun c_19 => ?_)
    · replace hf := it_n c_19 hf
      refine lv_aload_n hx hb dX7_ask_25 rfl (lv_at hl 0 rfl) ?_
      refine lv_iconst (v := 0) hx hb dX7_ask_26 (by decide) ?_
      refine va_put (a := (ad 0)) (ci := 7) (v := .int 0) (ty := .int) (C := RX7) (T := TX7) (N := 28) hx hb hts hin_X7 tyX7 tyX7_ok nmX7 hown hK hP hD hS 0 rfl rfl 18 (by decide) hw_2 (fun _ h => h) rfl (by decide +kernel) rfl rfl (Nat.le_of_ble_eq_true rfl) dX7_ask_27 (fun H locs hP hD hS => ?_)
      have hP : va_P D vwCl ((wX7_0_4_5_9_10_11_12_13_14_15 cy ad 0 sta pri 0 frt frp deg num goe tai per lea com see trc)) H := hP
      have hD : va_D A ((wX7_0_4_5_9_10_11_12_13_14_15 cy ad 0 sta pri 0 frt frp deg num goe tai per lea com see trc)) := hD
      refine lv_aload_n hx hb dX7_ask_30 rfl (lv_at hl 0 rfl) ?_
      refine lv_iload_n hx hb dX7_ask_31 rfl (lv_at hl 1 rfl) ?_
      replace hf := ob_e hf
      obtain ⟨u_32, hu_32, hf⟩ := hf
      refine ivW (As := [.int x1]) (rest := []) (st1 := [.int u_32.1]) (is := [0, 1]) (w1 := (wX7_0_4 cy ad 0 u_32.2 pri 0 frt frp deg)) ⟨hx, hb, hml, hown, hts⟩ hK hN (KX7_look l D cy ad 0 sta pri 0 frt frp deg x1 H.size hu_32) (cwV 1 hts gX7_ask_X7_look rfl rfl rfl (by decide +kernel) ⟨Nat.le_of_ble_eq_true rfl, Nat.le_of_ble_eq_true rfl⟩) (va_recv hK hP (ci := 7) (q0 := 0) rfl rfl) hP hD hS hA P_nil (sepW_nil _) (by decide) rfl rfl rfl hl.1 rfl (Nat.le_of_ble_eq_true rfl) rfl dX7_ask_32 ⟨Nat.zero_le _, Nat.zero_le _⟩ (fun H locs hP hD hS => ?_)
      have hP : va_P D vwCl ((wX7_0_4_5_9_10_11_12_13_14_15 cy ad 0 u_32.2 pri 0 frt frp deg num goe tai per lea com see trc)) H := hP
      have hD : va_D A ((wX7_0_4_5_9_10_11_12_13_14_15 cy ad 0 u_32.2 pri 0 frt frp deg num goe tai per lea com see trc)) := hD
      refine lv_topi (fun v_35 e_35 => ?_)
      replace hf := bd_at e_35 hf
      clear e_35
      refine lv_istore_n (lv' := [(3, .int v_35), (0, .ref (ad 0)), (1, .int x1), (2, .int x2)]) hx hb dX7_ask_35 rfl hl (by decide) rfl (fun ls hl => ?_)
      refine lv_iload_n hx hb dX7_ask_36 rfl (lv_at hl 0 rfl) ?_
      refine lv_if_ge (tgt := 44) hx hb dX7_ask_37 (by decide) (fun c_37 => ?_) (fun c_37 => ?_)
      · replace hf := it_p c_37 hf
        refine lv_iload_n hx hb dX7_ask_44 rfl (lv_at hl 3 rfl) ?_
        refine lv_if_ne (tgt := 56) hx hb dX7_ask_45 (by decide) (fun c_45 => ?_) (fun c_45 => ?_)
        · replace hf := it_n c_45 hf
          refine lv_aload_n hx hb dX7_ask_56 rfl (lv_at hl 1 rfl) ?_
          refine lv_iload_n hx hb dX7_ask_57 rfl (lv_at hl 2 rfl) ?_
          replace hf := ob_e hf
          obtain ⟨u_58, hu_58, hf⟩ := hf
          refine ivW (As := [.int x1]) (rest := []) (st1 := [.int u_58.1]) (is := [0, 1, 2, 3, 4, 5, 6, 7, 8, 9]) (w1 := (wX7_0_4_5_9_10_11_12_13_14_15 cy ad 0 u_32.2 pri u_58.2.1 frt frp deg num u_58.2.2.1 u_58.2.2.2.1 u_58.2.2.2.2.1 u_58.2.2.2.2.2.1 u_58.2.2.2.2.2.2.1 u_58.2.2.2.2.2.2.2.1 u_58.2.2.2.2.2.2.2.2)) ⟨hx, hb, hml, hown, hts⟩ hK hN (KX7_marked l D cy ad 0 u_32.2 pri 0 frt frp deg num goe tai per lea com see trc x1 H.size hu_58) (cwV 1 hts gX7_ask_X7_marked rfl rfl rfl (by decide +kernel) ⟨Nat.le_of_ble_eq_true rfl, Nat.le_of_ble_eq_true rfl⟩) (va_recv hK hP (ci := 7) (q0 := 0) rfl rfl) hP hD hS hA P_nil (sepW_nil _) (by decide) rfl rfl rfl hl.1 rfl (Nat.le_of_ble_eq_true rfl) rfl dX7_ask_58 ⟨Nat.zero_le _, Nat.zero_le _⟩ (fun H locs hP hD hS => ?_)
          have hP : va_P D vwCl ((wX7_0_4_5_9_10_11_12_13_14_15 cy ad 0 u_32.2 pri u_58.2.1 frt frp deg num u_58.2.2.1 u_58.2.2.2.1 u_58.2.2.2.2.1 u_58.2.2.2.2.2.1 u_58.2.2.2.2.2.2.1 u_58.2.2.2.2.2.2.2.1 u_58.2.2.2.2.2.2.2.2)) H := hP
          have hD : va_D A ((wX7_0_4_5_9_10_11_12_13_14_15 cy ad 0 u_32.2 pri u_58.2.1 frt frp deg num u_58.2.2.1 u_58.2.2.2.1 u_58.2.2.2.2.1 u_58.2.2.2.2.2.1 u_58.2.2.2.2.2.2.1 u_58.2.2.2.2.2.2.2.1 u_58.2.2.2.2.2.2.2.2)) := hD
          obtain rfl := Option.some.inj hf
          rw [← hQe]
          exact W.iret (v := u_58.1) hx hb hr (fun t ht hW => ⟨rfl, by rw [ht]; exact hP, hS.F ht⟩) hS.2.2 dX7_ask_61
        · replace hf := it_p c_45 hf
          refine lv_aload_n hx hb dX7_ask_48 rfl (lv_at hl 1 rfl) ?_
          refine lv_iload_n hx hb dX7_ask_49 rfl (lv_at hl 2 rfl) ?_
          replace hf := ob_e hf
          obtain ⟨u_50, hu_50, hf⟩ := hf
          refine ivW (As := [.int x1]) (rest := []) (st1 := [.int u_50.1]) (is := [0, 1, 2, 3, 4, 5, 6, 7, 8, 9]) (w1 := (wX7_0_4_5_9_10_11_12_13_14_15 cy ad 0 u_32.2 pri u_50.2.1 frt frp deg num u_50.2.2.1 u_50.2.2.2.1 u_50.2.2.2.2.1 u_50.2.2.2.2.2.1 u_50.2.2.2.2.2.2.1 u_50.2.2.2.2.2.2.2.1 u_50.2.2.2.2.2.2.2.2)) ⟨hx, hb, hml, hown, hts⟩ hK hN (KX7_sized l D cy ad 0 u_32.2 pri 0 frt frp deg num goe tai per lea com see trc x1 H.size hu_50) (cwV 1 hts gX7_ask_X7_sized rfl rfl rfl (by decide +kernel) ⟨Nat.le_of_ble_eq_true rfl, Nat.le_of_ble_eq_true rfl⟩) (va_recv hK hP (ci := 7) (q0 := 0) rfl rfl) hP hD hS hA P_nil (sepW_nil _) (by decide) rfl rfl rfl hl.1 rfl (Nat.le_of_ble_eq_true rfl) rfl dX7_ask_50 ⟨Nat.zero_le _, Nat.zero_le _⟩ (fun H locs hP hD hS => ?_)
          have hP : va_P D vwCl ((wX7_0_4_5_9_10_11_12_13_14_15 cy ad 0 u_32.2 pri u_50.2.1 frt frp deg num u_50.2.2.1 u_50.2.2.2.1 u_50.2.2.2.2.1 u_50.2.2.2.2.2.1 u_50.2.2.2.2.2.2.1 u_50.2.2.2.2.2.2.2.1 u_50.2.2.2.2.2.2.2.2)) H := hP
          have hD : va_D A ((wX7_0_4_5_9_10_11_12_13_14_15 cy ad 0 u_32.2 pri u_50.2.1 frt frp deg num u_50.2.2.1 u_50.2.2.2.1 u_50.2.2.2.2.1 u_50.2.2.2.2.2.1 u_50.2.2.2.2.2.2.1 u_50.2.2.2.2.2.2.2.1 u_50.2.2.2.2.2.2.2.2)) := hD
          refine lv_goto (tgt := 61) hx hb dX7_ask_53 (by decide) ?_
          obtain rfl := Option.some.inj hf
          rw [← hQe]
          exact W.iret (v := u_50.1) hx hb hr (fun t ht hW => ⟨rfl, by rw [ht]; exact hP, hS.F ht⟩) hS.2.2 dX7_ask_61
      · replace hf := it_n c_37 hf
        refine lv_iload_n hx hb dX7_ask_40 rfl (lv_at hl 0 rfl) ?_
        refine lv_goto (tgt := 61) hx hb dX7_ask_41 (by decide) ?_
        obtain rfl := Option.some.inj hf
        rw [← hQe]
        exact W.iret (v := v_35) hx hb hr (fun t ht hW => ⟨rfl, by rw [ht]; exact hP, hS.F ht⟩) hS.2.2 dX7_ask_61
    · replace hf := it_p c_19 hf
      refine lv_ldc (own := RX7) (v := (-1000001)) hx hb hown hw_0 dX7_ask_22 ?_
      obtain rfl := Option.some.inj hf
      rw [← hQe]
      exact W.iret (v := (-1000001)) hx hb hr (fun t ht hW => ⟨rfl, by rw [ht]; exact hP, hS.F ht⟩) hS.2.2 dX7_ask_24
def FX7_trace  (tcd : Int32) (trc : Nat → Int32) (x1 : Int32) : Option (Int32 × (Int32)) := (ob (FX7_in (Int32.toInt64 x1) 0 (Int32.toInt64 (tcd - 1))) (fun u_15 => if (bi u_15) = 0 then ((some ((-1000000), 0))) else (gi x1 16 ((some ((trc (Int32.toNatClampNeg x1)), 0))))))
abbrev RMX7_trace : Room := { frames := 1, cells := 0, slots := 0, locals := 25 }
set_option maxHeartbeats 4000000 in
set_option maxRecDepth 100000 in
theorem KX7_trace (l : Launch) (D : va_G) (cy : Nat → ClassId) (ad : Nat → Nat) (thr : Int32) (sta : Int32) (pri : Int32) (tcd : Int32) (frt : Int32) (frp : Int32) (trc : Nat → Int32) (x1 : Int32) (sz : Nat) {out : Int32 × (Int32)} (hf : FX7_trace tcd trc x1 = some out) : Met l yX7_trace wsX7_trace RMX7_trace (PW D cy [.ref (ad 0), .int x1] sz ((wX7_0_15 cy ad thr sta pri tcd frt frp trc)) []) (QW D (some (.int out.1)) ((wX7_0_15 cy ad out.2 sta pri tcd frt frp trc)) (va_A ((wX7_0_15 cy ad thr sta pri tcd frt frp trc)) sz)) 0 0 (va_A ((wX7_0_15 cy ad thr sta pri tcd frt frp trc)) sz) := by
  refine Met.ofW (cc := cX7_trace) (maxL := 2) (ret := (some .int)) (by decide +kernel) rfl ?_
  intro p e s m args below meth c s₁ B hml hv
  obtain ⟨hav, hsz, hP, hR0, hK, hN, hD0, hsep⟩ := hv
  have hx := B.exec
  have hb := B.bytes
  have hr := B.returns
  have hts := atoms_spec (ws := wsX7_trace) B.pre
  have hown : s.vm.findClass RX7 = some m.cls := findClass_of_methodNamed B.named
  have hlocks := B.notSynchronized
  subst hsz
  have hin_X7 : ∀ w ∈ u_ws RX7 TX7 28, w ∈ wsX7_trace := by decide +kernel
  have hw_0 := hts (.constant RX7 176 (-1000000)) (by decide +kernel)
  have hw_1 := hts (.fieldLink RX7 1 "ReturnPointsModel" "thrown" "I") (by decide +kernel)
  have hw_2 := hts (.fieldLink RX7 158 "ReturnPointsModel" "traced" "I") (by decide +kernel)
  have hw_3 := hts (.fieldLink RX7 61 "ReturnPointsModel" "trace" "[I") (by decide +kernel)
  have hD := hD0.self (sz := s.heap.size)
  have hnA := roA hsep hR0
  generalize hAe : va_A ((wX7_0_15 cy ad thr sta pri tcd frt frp trc)) s.heap.size = A at hD hnA ⊢
  have hA : ∀ q : Nat, s.heap.size ≤ q → A q := fun q h => by rw [← hAe]; exact Or.inr h
  have hS : va_S A s.heap s.heap [] := va_S.rf
  obtain ⟨ls, hfr, hl⟩ := ent_ok (m := m) (n := 2) (l' := [(0, .ref (ad 0)), (1, .int x1)]) [.ref (ad 0), .int x1] hav (Nat.le_of_ble_eq_true rfl) rfl
  rw [hfr]
  generalize hQe : MQ below (QW D (some (.int out.1)) ((wX7_0_15 cy ad out.2 sta pri tcd frt frp trc)) A) args s 0 0 A = QQ
  change W p l e RMX7_trace s m args below meth c s.heap [] 0 0 QQ (F0 m 0 ls [])
  have hP : va_P D vwCl ((wX7_0_15 cy ad thr sta pri tcd frt frp trc)) s.heap := hP
  have hD : va_D A ((wX7_0_15 cy ad thr sta pri tcd frt frp trc)) := hD
  suffices h00 : ∀ (H : Heap) (locs : List Loc), va_P D vwCl ((wX7_0_15 cy ad thr sta pri tcd frt frp trc)) H → va_S A s.heap H locs → W p l e RMX7_trace s m args below meth c H locs 0 0 QQ (F0 m 0 ls []) from h00 _ _ hP hS
  clear hP hS
  intro H locs hP hS
  unfold FX7_trace at hf
  refine lv_aload_n hx hb dX7_trace_0 rfl (lv_at hl 0 rfl) ?_
  refine lv_iconst (v := 0) hx hb dX7_trace_1 (by decide) ?_
  refine va_put (a := (ad 0)) (ci := 7) (v := .int 0) (ty := .int) (C := RX7) (T := TX7) (N := 28) hx hb hts hin_X7 tyX7 tyX7_ok nmX7 hown hK hP hD hS 0 rfl rfl 0 (by decide) hw_1 (fun _ h => h) rfl (by decide +kernel) rfl rfl (Nat.le_of_ble_eq_true rfl) dX7_trace_2 (fun H locs hP hD hS => ?_)
  have hP : va_P D vwCl ((wX7_0_15 cy ad 0 sta pri tcd frt frp trc)) H := hP
  have hD : va_D A ((wX7_0_15 cy ad 0 sta pri tcd frt frp trc)) := hD
  refine lv_iload_n hx hb dX7_trace_5 rfl (lv_at hl 1 rfl) ?_
  refine lv_i2l hx hb dX7_trace_6 rfl ?_
  refine lv_lconst (v := 0) hx hb dX7_trace_7 (by decide) ?_
  refine lv_aload_n hx hb dX7_trace_8 rfl (lv_at hl 0 rfl) ?_
  refine va_get (a := (ad 0)) (ci := 7) (v := .int tcd) (C := RX7) (T := TX7) (N := 28) hx hb hts hin_X7 hown hK hP 0 rfl rfl 18 (by decide) hw_2 (fun _ h => h) rfl dX7_trace_9 ?_
  refine lv_iconst (v := 1) hx hb dX7_trace_12 (by decide) ?_
  refine lv_isub hx hb dX7_trace_13 ?_
  refine lv_i2l hx hb dX7_trace_14 rfl ?_
  replace hf := ob_e hf
  obtain ⟨u_15, hu_15, hf⟩ := hf
  refine isR (As := [.long (Int32.toInt64 x1), .long 0, .long (Int32.toInt64 (tcd - 1))]) (rest := []) (st1 := [.int (bi u_15)]) ⟨hx, hb, hml, hown, hts⟩ hK hN (KX7_in l D cy (Int32.toInt64 x1) 0 (Int32.toInt64 (tcd - 1)) H.size hu_15) (va_cwS 3 hts gX7_trace_X7_in rfl rfl rfl (by decide +kernel) ⟨Nat.le_of_ble_eq_true rfl, Nat.le_of_ble_eq_true rfl⟩) P_nil rfl hl.1 rfl (Nat.le_of_ble_eq_true rfl) rfl dX7_trace_15 ⟨Nat.zero_le _, Nat.zero_le _⟩ ?_
  refine lv_if_eq (tgt := 30) hx hb dX7_trace_18 (by decide) (fun c_18 => ?_) (fun c_18 => ?_)
  · replace hf := it_p c_18 hf
    refine lv_ldc (own := RX7) (v := (-1000000)) hx hb hown hw_0 dX7_trace_30 ?_
    obtain rfl := Option.some.inj hf
    rw [← hQe]
    exact W.iret (v := (-1000000)) hx hb hr (fun t ht hW => ⟨rfl, by rw [ht]; exact hP, hS.F ht⟩) hS.2.2 dX7_trace_32
  · replace hf := it_n c_18 hf
    refine lv_aload_n hx hb dX7_trace_21 rfl (lv_at hl 0 rfl) ?_
    refine va_get (a := (ad 0)) (ci := 7) (v := .ref (ad 15)) (C := RX7) (T := TX7) (N := 28) hx hb hts hin_X7 hown hK hP 0 rfl rfl 17 (by decide) hw_3 (fun _ h => h) rfl dX7_trace_22 ?_
    refine lv_iload_n hx hb dX7_trace_25 rfl (lv_at hl 1 rfl) ?_
    replace hf := gi_e hf
    obtain ⟨i_26, hf⟩ := hf
    refine va_iald (a := (ad 15)) hx hb hK hP 1 0 rfl rfl i_26 dX7_trace_26 ?_
    refine lv_goto (tgt := 32) hx hb dX7_trace_27 (by decide) ?_
    obtain rfl := Option.some.inj hf
    rw [← hQe]
    exact W.iret (v := (trc (Int32.toNatClampNeg x1))) hx hb hr (fun t ht hW => ⟨rfl, by rw [ht]; exact hP, hS.F ht⟩) hS.2.2 dX7_trace_32
def FX7_step_L107   (x5_107 : Int32) (thr_107 : Int32) (sta_107 : Int32) (goe_107 : Nat → Int32) (tai_107 : Nat → Int32) (per_107 : Nat → Int32) (lea_107 : Nat → Int32) (com_107 : Nat → Int32) (see_107 : Nat → Int32) : Nat → Int32 → Int32 → Option (Int32 × (Int32) × (Int32) × (Nat → Int32) × (Nat → Int32) × (Nat → Int32) × (Nat → Int32) × (Nat → Int32) × (Nat → Int32))
  | 0, _, _ => none
  | fuel + 1, x6_107, x7_107 => (if x5_107 ≤ x7_107 then (some (x6_107, thr_107, sta_107, goe_107, tai_107, per_107, lea_107, com_107, see_107)) else (gi x6_107 200 (bd (goe_107 (Int32.toNatClampNeg x6_107)) (fun v_121 => bd (x7_107 + 1) (fun v_123 => (FX7_step_L107 x5_107 thr_107 sta_107 goe_107 tai_107 per_107 lea_107 com_107 see_107 fuel) v_121 v_123)))))
def FX7_step_J99   (x2 : Int32) (s0_99 : Int32) (thr_99 : Int32) (sta_99 : Int32) (goe_99 : Nat → Int32) (tai_99 : Nat → Int32) (per_99 : Nat → Int32) (lea_99 : Nat → Int32) (com_99 : Nat → Int32) (see_99 : Nat → Int32) : Option (Int32 × (Int32) × (Int32) × (Nat → Int32) × (Nat → Int32) × (Nat → Int32) × (Nat → Int32) × (Nat → Int32) × (Nat → Int32)) := (FX7_step_L107 s0_99 thr_99 sta_99 goe_99 tai_99 per_99 lea_99 com_99 see_99 FU x2 0)
def FX7_step  (sta : Int32) (pri : Int32) (deg : Nat → Int32) (num : Nat → Int32) (goe : Nat → Int32) (tai : Nat → Int32) (per : Nat → Int32) (lea : Nat → Int32) (com : Nat → Int32) (see : Nat → Int32) (x1 : Int32) (x2 : Int32) (x3 : Int32) : Option (Int32 × (Int32) × (Int32) × (Nat → Int32) × (Nat → Int32) × (Nat → Int32) × (Nat → Int32) × (Nat → Int32) × (Nat → Int32)) := (ob (FX7_isPlace x1) (fun u_6 => if (bi u_6) = 0 then (some ((-1000001), 0, sta, goe, tai, per, lea, com, see)) else (ob (FX7_in (Int32.toInt64 x2) 0 (Int32.toInt64 (pri - 1))) (fun u_22 => if (bi u_22) = 0 then (some ((-1000001), 0, sta, goe, tai, per, lea, com, see)) else (ob (FX7_in (Int32.toInt64 x3) 0 1000000000) (fun u_34 => if (bi u_34) = 0 then (some ((-1000001), 0, sta, goe, tai, per, lea, com, see)) else (ob (FX7_look deg x1) (fun u_45 => bd u_45.1 (fun v_48 => if 0 ≤ v_48 then (ob (FX7_findWays pri deg num goe tai per lea com see x1) (fun u_60 => gi x2 200 (if (u_60.2.1 (Int32.toNatClampNeg x2)) < x3 then (gi x2 200 (gi x2 200 (gi x2 200 (gd (¬ (u_60.2.2.1 (Int32.toNatClampNeg x2)) = 0) (FX7_step_J99 x2 ((u_60.2.1 (Int32.toNatClampNeg x2)) + (irm (x3 - (u_60.2.1 (Int32.toNatClampNeg x2))) (u_60.2.2.1 (Int32.toNatClampNeg x2)))) 0 u_45.2 u_60.1 u_60.2.1 u_60.2.2.1 u_60.2.2.2.1 u_60.2.2.2.2.1 u_60.2.2.2.2.2))))) else (FX7_step_J99 x2 x3 0 u_45.2 u_60.1 u_60.2.1 u_60.2.2.1 u_60.2.2.2.1 u_60.2.2.2.2.1 u_60.2.2.2.2.2)))) else (some (v_48, 0, u_45.2, goe, tai, per, lea, com, see)))))))))))
abbrev RMX7_step : Room := { frames := 2, cells := 0, slots := 0, locals := 50 }
set_option maxHeartbeats 4000000 in
set_option maxRecDepth 100000 in
theorem KX7_step (l : Launch) (D : va_G) (cy : Nat → ClassId) (ad : Nat → Nat) (thr : Int32) (sta : Int32) (pri : Int32) (tcd : Int32) (frt : Int32) (frp : Int32) (deg : Nat → Int32) (num : Nat → Int32) (goe : Nat → Int32) (tai : Nat → Int32) (per : Nat → Int32) (lea : Nat → Int32) (com : Nat → Int32) (see : Nat → Int32) (x1 : Int32) (x2 : Int32) (x3 : Int32) (sz : Nat) {out : Int32 × (Int32) × (Int32) × (Nat → Int32) × (Nat → Int32) × (Nat → Int32) × (Nat → Int32) × (Nat → Int32) × (Nat → Int32)} (hf : FX7_step sta pri deg num goe tai per lea com see x1 x2 x3 = some out) : Met l yX7_step wsX7_step RMX7_step (PW D cy [.ref (ad 0), .int x1, .int x2, .int x3] sz ((wX7_0_4_5_9_10_11_12_13_14 cy ad thr sta pri tcd frt frp deg num goe tai per lea com see)) []) (QW D (some (.int out.1)) ((wX7_0_4_5_9_10_11_12_13_14 cy ad out.2.1 out.2.2.1 pri tcd frt frp deg num out.2.2.2.1 out.2.2.2.2.1 out.2.2.2.2.2.1 out.2.2.2.2.2.2.1 out.2.2.2.2.2.2.2.1 out.2.2.2.2.2.2.2.2)) (va_A ((wX7_0_4_5_9_10_11_12_13_14 cy ad thr sta pri tcd frt frp deg num goe tai per lea com see)) sz)) 0 0 (va_A ((wX7_0_4_5_9_10_11_12_13_14 cy ad thr sta pri tcd frt frp deg num goe tai per lea com see)) sz) := by
  refine Met.ofW (cc := cX7_step) (maxL := 8) (ret := (some .int)) (by decide +kernel) rfl ?_
  intro p e s m args below meth c s₁ B hml hv
  obtain ⟨hav, hsz, hP, hR0, hK, hN, hD0, hsep⟩ := hv
  have hx := B.exec
  have hb := B.bytes
  have hr := B.returns
  have hts := atoms_spec (ws := wsX7_step) B.pre
  have hown : s.vm.findClass RX7 = some m.cls := findClass_of_methodNamed B.named
  have hlocks := B.notSynchronized
  subst hsz
  have hin_X7 : ∀ w ∈ u_ws RX7 TX7 28, w ∈ wsX7_step := by decide +kernel
  have hw_0 := hts (.constant RX7 108 (-1000001)) (by decide +kernel)
  have hw_1 := hts (.constantLong RX7 177 (1000000000)) (by decide +kernel)
  have hw_2 := hts (.fieldLink RX7 43 "ReturnPointsModel" "goes" "[I") (by decide +kernel)
  have hw_3 := hts (.fieldLink RX7 1 "ReturnPointsModel" "thrown" "I") (by decide +kernel)
  have hw_4 := hts (.fieldLink RX7 98 "ReturnPointsModel" "prime" "I") (by decide +kernel)
  have hw_5 := hts (.fieldLink RX7 46 "ReturnPointsModel" "tail" "[I") (by decide +kernel)
  have hw_6 := hts (.fieldLink RX7 49 "ReturnPointsModel" "period" "[I") (by decide +kernel)
  have hD := hD0.self (sz := s.heap.size)
  have hnA := roA hsep hR0
  generalize hAe : va_A ((wX7_0_4_5_9_10_11_12_13_14 cy ad thr sta pri tcd frt frp deg num goe tai per lea com see)) s.heap.size = A at hD hnA ⊢
  have hA : ∀ q : Nat, s.heap.size ≤ q → A q := fun q h => by rw [← hAe]; exact Or.inr h
  have hS : va_S A s.heap s.heap [] := va_S.rf
  obtain ⟨ls, hfr, hl⟩ := ent_ok (m := m) (n := 8) (l' := [(0, .ref (ad 0)), (1, .int x1), (2, .int x2), (3, .int x3)]) [.ref (ad 0), .int x1, .int x2, .int x3] hav (Nat.le_of_ble_eq_true rfl) rfl
  rw [hfr]
  generalize hQe : MQ below (QW D (some (.int out.1)) ((wX7_0_4_5_9_10_11_12_13_14 cy ad out.2.1 out.2.2.1 pri tcd frt frp deg num out.2.2.2.1 out.2.2.2.2.1 out.2.2.2.2.2.1 out.2.2.2.2.2.2.1 out.2.2.2.2.2.2.2.1 out.2.2.2.2.2.2.2.2)) A) args s 0 0 A = QQ
  change W p l e RMX7_step s m args below meth c s.heap [] 0 0 QQ (F0 m 0 ls [])
  have hP : va_P D vwCl ((wX7_0_4_5_9_10_11_12_13_14 cy ad thr sta pri tcd frt frp deg num goe tai per lea com see)) s.heap := hP
  have hD : va_D A ((wX7_0_4_5_9_10_11_12_13_14 cy ad thr sta pri tcd frt frp deg num goe tai per lea com see)) := hD
  suffices h00 : ∀ (H : Heap) (locs : List Loc), va_P D vwCl ((wX7_0_4_5_9_10_11_12_13_14 cy ad thr sta pri tcd frt frp deg num goe tai per lea com see)) H → va_S A s.heap H locs → W p l e RMX7_step s m args below meth c H locs 0 0 QQ (F0 m 0 ls []) from h00 _ _ hP hS
  clear hP hS
  intro H locs hP hS
  have L107 : ∀ (x5_107 : Int32) (thr_107 : Int32) (sta_107 : Int32) (goe_107 : Nat → Int32) (tai_107 : Nat → Int32) (per_107 : Nat → Int32) (lea_107 : Nat → Int32) (com_107 : Nat → Int32) (see_107 : Nat → Int32) (n107 : Nat) (H : Heap) (locs : List Loc) (ls : Array Slot) (x6_107 : Int32) (x7_107 : Int32), FX7_step_L107 x5_107 thr_107 sta_107 goe_107 tai_107 per_107 lea_107 com_107 see_107 n107 x6_107 x7_107 = some out → va_P D vwCl ((wX7_0_4_5_9_10_11_12_13_14 cy ad thr_107 sta_107 pri tcd frt frp deg num goe_107 tai_107 per_107 lea_107 com_107 see_107)) H → va_D A ((wX7_0_4_5_9_10_11_12_13_14 cy ad thr_107 sta_107 pri tcd frt frp deg num goe_107 tai_107 per_107 lea_107 com_107 see_107)) → va_S A s.heap H locs → lv_has ls 8 [(0, .ref (ad 0)), (5, .int x5_107), (6, .int x6_107), (7, .int x7_107)] → W p l e RMX7_step s m args below meth c H locs 0 0 QQ (F0 m 107 ls []) := by
    intro x5_107 thr_107 sta_107 goe_107 tai_107 per_107 lea_107 com_107 see_107 n107
    induction n107 with
    | zero => intro H locs ls x6_107 x7_107 hf; simp [FX7_step_L107] at hf
    | succ n107 ih107 =>
      intro H locs ls x6_107 x7_107 hf hP hD hS hl
      rw [FX7_step_L107] at hf
      refine lv_iload hx hb dX7_step_107 (lv_at hl 3 rfl) ?_
      refine lv_iload hx hb dX7_step_109 (lv_at hl 1 rfl) ?_
      refine lv_icmp_ge (tgt := 129) hx hb dX7_step_111 (by decide) (fun c_111 => ?_) (fun c_111 => ?_)
      · replace hf := it_p c_111 hf
        refine lv_iload hx hb dX7_step_129 (lv_at hl 2 rfl) ?_
        obtain rfl := Option.some.inj hf
        rw [← hQe]
        exact W.iret (v := x6_107) hx hb hr (fun t ht hW => ⟨rfl, by rw [ht]; exact hP, hS.F ht⟩) hS.2.2 dX7_step_131
      · replace hf := it_n c_111 hf
        refine lv_aload_n hx hb dX7_step_114 rfl (lv_at hl 0 rfl) ?_
        refine va_get (a := (ad 0)) (ci := 7) (v := .ref (ad 9)) (C := RX7) (T := TX7) (N := 28) hx hb hts hin_X7 hown hK hP 0 rfl rfl 11 (by decide) hw_2 (fun _ h => h) rfl dX7_step_115 ?_
        refine lv_iload hx hb dX7_step_118 (lv_at hl 2 rfl) ?_
        replace hf := gi_e hf
        obtain ⟨i_120, hf⟩ := hf
        refine va_iald (a := (ad 9)) hx hb hK hP 3 0 rfl rfl i_120 dX7_step_120 ?_
        refine lv_topi (fun v_121 e_121 => ?_)
        replace hf := bd_at e_121 hf
        clear e_121
        refine lv_istore (lv' := [(6, .int v_121), (0, .ref (ad 0)), (5, .int x5_107), (7, .int x7_107)]) hx hb dX7_step_121 hl (by decide) rfl (fun ls hl => ?_)
        obtain ⟨v_123, e_123⟩ : ∃ y : Int32, y = x7_107 + 1 := ⟨_, rfl⟩
        replace hf := bd_at e_123 hf
        refine lv_iinc (v := v_123) (lv' := [(7, .int v_123), (6, .int v_121), (0, .ref (ad 0)), (5, .int x5_107)]) hx hb dX7_step_123 hl (k := 3) rfl (by rw [e_123]; rfl) (by decide) rfl (fun ls hl => ?_)
        clear e_123
        refine lv_goto (tgt := 107) hx hb dX7_step_126 (by decide) ?_
        exact ih107 H locs ls v_121 v_123 hf hP hD hS (lv_sub hl [2, 3, 1, 0] rfl)
  have J99 : ∀ (H : Heap) (locs : List Loc) (ls : Array Slot) (s0_99 : Int32) (thr_99 : Int32) (sta_99 : Int32) (goe_99 : Nat → Int32) (tai_99 : Nat → Int32) (per_99 : Nat → Int32) (lea_99 : Nat → Int32) (com_99 : Nat → Int32) (see_99 : Nat → Int32), FX7_step_J99 x2 s0_99 thr_99 sta_99 goe_99 tai_99 per_99 lea_99 com_99 see_99 = some out → va_P D vwCl ((wX7_0_4_5_9_10_11_12_13_14 cy ad thr_99 sta_99 pri tcd frt frp deg num goe_99 tai_99 per_99 lea_99 com_99 see_99)) H → va_D A ((wX7_0_4_5_9_10_11_12_13_14 cy ad thr_99 sta_99 pri tcd frt frp deg num goe_99 tai_99 per_99 lea_99 com_99 see_99)) → va_S A s.heap H locs → lv_has ls 8 [(0, .ref (ad 0)), (2, .int x2)] → W p l e RMX7_step s m args below meth c H locs 0 0 QQ (F0 m 99 ls [.int s0_99]) := by
    intro H locs ls s0_99 thr_99 sta_99 goe_99 tai_99 per_99 lea_99 com_99 see_99 hf hP hD hS hl
    unfold FX7_step_J99 at hf
    refine lv_istore (lv' := [(5, .int s0_99), (0, .ref (ad 0)), (2, .int x2)]) hx hb dX7_step_99 hl (by decide) rfl (fun ls hl => ?_)
    refine lv_iload_n hx hb dX7_step_101 rfl (lv_at hl 2 rfl) ?_
    refine lv_istore (lv' := [(6, .int x2), (5, .int s0_99), (0, .ref (ad 0)), (2, .int x2)]) hx hb dX7_step_102 hl (by decide) rfl (fun ls hl => ?_)
    refine lv_iconst (v := 0) hx hb dX7_step_104 (by decide) ?_
    refine lv_istore (lv' := [(7, .int 0), (6, .int x2), (5, .int s0_99), (0, .ref (ad 0)), (2, .int x2)]) hx hb dX7_step_105 hl (by decide) rfl (fun ls hl => ?_)
    exact L107 s0_99 thr_99 sta_99 goe_99 tai_99 per_99 lea_99 com_99 see_99 FU H locs ls x2 0 hf hP hD hS (lv_sub hl [3, 2, 1, 0] rfl)
  unfold FX7_step at hf
  refine lv_aload_n hx hb dX7_step_0 rfl (lv_at hl 0 rfl) ?_
  refine lv_iconst (v := 0) hx hb dX7_step_1 (by decide) ?_
  refine va_put (a := (ad 0)) (ci := 7) (v := .int 0) (ty := .int) (C := RX7) (T := TX7) (N := 28) hx hb hts hin_X7 tyX7 tyX7_ok nmX7 hown hK hP hD hS 0 rfl rfl 0 (by decide) hw_3 (fun _ h => h) rfl (by decide +kernel) rfl rfl (Nat.le_of_ble_eq_true rfl) dX7_step_2 (fun H locs hP hD hS => ?_)
  have hP : va_P D vwCl ((wX7_0_4_5_9_10_11_12_13_14 cy ad 0 sta pri tcd frt frp deg num goe tai per lea com see)) H := hP
  have hD : va_D A ((wX7_0_4_5_9_10_11_12_13_14 cy ad 0 sta pri tcd frt frp deg num goe tai per lea com see)) := hD
  refine lv_iload_n hx hb dX7_step_5 rfl (lv_at hl 1 rfl) ?_
  replace hf := ob_e hf
  obtain ⟨u_6, hu_6, hf⟩ := hf
  refine isR (As := [.int x1]) (rest := []) (st1 := [.int (bi u_6)]) ⟨hx, hb, hml, hown, hts⟩ hK hN (KX7_isPlace l D cy x1 H.size hu_6) (va_cwS 1 hts gX7_step_X7_isPlace rfl rfl rfl (by decide +kernel) ⟨Nat.le_of_ble_eq_true rfl, Nat.le_of_ble_eq_true rfl⟩) P_nil rfl hl.1 rfl (Nat.le_of_ble_eq_true rfl) rfl dX7_step_6 ⟨Nat.zero_le _, Nat.zero_le _⟩ ?_
  refine lv_if_eq (tgt := 40) hx hb dX7_step_9 (by decide) (fun c_9 => ?_) (fun c_9 => ?_)
  · replace hf := it_p c_9 hf
    refine lv_ldc (own := RX7) (v := (-1000001)) hx hb hown hw_0 dX7_step_40 ?_
    obtain rfl := Option.some.inj hf
    rw [← hQe]
    exact W.iret (v := (-1000001)) hx hb hr (fun t ht hW => ⟨rfl, by rw [ht]; exact hP, hS.F ht⟩) hS.2.2 dX7_step_42
  · replace hf := it_n c_9 hf
    refine lv_iload_n hx hb dX7_step_12 rfl (lv_at hl 2 rfl) ?_
    refine lv_i2l hx hb dX7_step_13 rfl ?_
    refine lv_lconst (v := 0) hx hb dX7_step_14 (by decide) ?_
    refine lv_aload_n hx hb dX7_step_15 rfl (lv_at hl 0 rfl) ?_
    refine va_get (a := (ad 0)) (ci := 7) (v := .int pri) (C := RX7) (T := TX7) (N := 28) hx hb hts hin_X7 hown hK hP 0 rfl rfl 2 (by decide) hw_4 (fun _ h => h) rfl dX7_step_16 ?_
    refine lv_iconst (v := 1) hx hb dX7_step_19 (by decide) ?_
    refine lv_isub hx hb dX7_step_20 ?_
    refine lv_i2l hx hb dX7_step_21 rfl ?_
    replace hf := ob_e hf
    obtain ⟨u_22, hu_22, hf⟩ := hf
    refine isR (As := [.long (Int32.toInt64 x2), .long 0, .long (Int32.toInt64 (pri - 1))]) (rest := []) (st1 := [.int (bi u_22)]) ⟨hx, hb, hml, hown, hts⟩ hK hN (KX7_in l D cy (Int32.toInt64 x2) 0 (Int32.toInt64 (pri - 1)) H.size hu_22) (va_cwS 3 hts gX7_step_X7_in rfl rfl rfl (by decide +kernel) ⟨Nat.le_of_ble_eq_true rfl, Nat.le_of_ble_eq_true rfl⟩) P_nil rfl hl.1 rfl (Nat.le_of_ble_eq_true rfl) rfl dX7_step_22 ⟨Nat.zero_le _, Nat.zero_le _⟩ ?_
    refine lv_if_eq (tgt := 40) hx hb dX7_step_25 (by decide) (fun c_25 => ?_) (fun c_25 => ?_)
    · replace hf := it_p c_25 hf
      refine lv_ldc (own := RX7) (v := (-1000001)) hx hb hown hw_0 dX7_step_40 ?_
      obtain rfl := Option.some.inj hf
      rw [← hQe]
      exact W.iret (v := (-1000001)) hx hb hr (fun t ht hW => ⟨rfl, by rw [ht]; exact hP, hS.F ht⟩) hS.2.2 dX7_step_42
    · replace hf := it_n c_25 hf
      refine lv_iload_n hx hb dX7_step_28 rfl (lv_at hl 3 rfl) ?_
      refine lv_i2l hx hb dX7_step_29 rfl ?_
      refine lv_lconst (v := 0) hx hb dX7_step_30 (by decide) ?_
      refine lv_ldc2 (own := RX7) (v := 1000000000) hx hb hown hw_1 dX7_step_31 ?_
      replace hf := ob_e hf
      obtain ⟨u_34, hu_34, hf⟩ := hf
      refine isR (As := [.long (Int32.toInt64 x3), .long 0, .long 1000000000]) (rest := []) (st1 := [.int (bi u_34)]) ⟨hx, hb, hml, hown, hts⟩ hK hN (KX7_in l D cy (Int32.toInt64 x3) 0 1000000000 H.size hu_34) (va_cwS 3 hts gX7_step_X7_in rfl rfl rfl (by decide +kernel) ⟨Nat.le_of_ble_eq_true rfl, Nat.le_of_ble_eq_true rfl⟩) P_nil rfl hl.1 rfl (Nat.le_of_ble_eq_true rfl) rfl dX7_step_34 ⟨Nat.zero_le _, Nat.zero_le _⟩ ?_
      refine lv_if_ne (tgt := 43) hx hb dX7_step_37 (by decide) (fun c_37 => ?_) (fun c_37 => ?_)
      · replace hf := it_n c_37 hf
        refine lv_aload_n hx hb dX7_step_43 rfl (lv_at hl 0 rfl) ?_
        refine lv_iload_n hx hb dX7_step_44 rfl (lv_at hl 1 rfl) ?_
        replace hf := ob_e hf
        obtain ⟨u_45, hu_45, hf⟩ := hf
        refine ivW (As := [.int x1]) (rest := []) (st1 := [.int u_45.1]) (is := [0, 1]) (w1 := (wX7_0_4 cy ad 0 u_45.2 pri tcd frt frp deg)) ⟨hx, hb, hml, hown, hts⟩ hK hN (KX7_look l D cy ad 0 sta pri tcd frt frp deg x1 H.size hu_45) (cwV 1 hts gX7_step_X7_look rfl rfl rfl (by decide +kernel) ⟨Nat.le_of_ble_eq_true rfl, Nat.le_of_ble_eq_true rfl⟩) (va_recv hK hP (ci := 7) (q0 := 0) rfl rfl) hP hD hS hA P_nil (sepW_nil _) (by decide) rfl rfl rfl hl.1 rfl (Nat.le_of_ble_eq_true rfl) rfl dX7_step_45 ⟨Nat.zero_le _, Nat.zero_le _⟩ (fun H locs hP hD hS => ?_)
        have hP : va_P D vwCl ((wX7_0_4_5_9_10_11_12_13_14 cy ad 0 u_45.2 pri tcd frt frp deg num goe tai per lea com see)) H := hP
        have hD : va_D A ((wX7_0_4_5_9_10_11_12_13_14 cy ad 0 u_45.2 pri tcd frt frp deg num goe tai per lea com see)) := hD
        refine lv_topi (fun v_48 e_48 => ?_)
        replace hf := bd_at e_48 hf
        clear e_48
        refine lv_istore (lv' := [(4, .int v_48), (0, .ref (ad 0)), (1, .int x1), (2, .int x2), (3, .int x3)]) hx hb dX7_step_48 hl (by decide) rfl (fun ls hl => ?_)
        refine lv_iload hx hb dX7_step_50 (lv_at hl 0 rfl) ?_
        refine lv_if_ge (tgt := 58) hx hb dX7_step_52 (by decide) (fun c_52 => ?_) (fun c_52 => ?_)
        · replace hf := it_p c_52 hf
          refine lv_aload_n hx hb dX7_step_58 rfl (lv_at hl 1 rfl) ?_
          refine lv_iload_n hx hb dX7_step_59 rfl (lv_at hl 2 rfl) ?_
          replace hf := ob_e hf
          obtain ⟨u_60, hu_60, hf⟩ := hf
          refine ivW (As := [.int x1]) (rest := []) (st1 := []) (is := [0, 1, 2, 3, 4, 5, 6, 7, 8]) (w1 := (wX7_0_4_5_9_10_11_12_13_14 cy ad 0 u_45.2 pri tcd frt frp deg num u_60.1 u_60.2.1 u_60.2.2.1 u_60.2.2.2.1 u_60.2.2.2.2.1 u_60.2.2.2.2.2)) ⟨hx, hb, hml, hown, hts⟩ hK hN (KX7_findWays l D cy ad 0 u_45.2 pri tcd frt frp deg num goe tai per lea com see x1 H.size hu_60) (cwV 1 hts gX7_step_X7_findWays rfl rfl rfl (by decide +kernel) ⟨Nat.le_of_ble_eq_true rfl, Nat.le_of_ble_eq_true rfl⟩) (va_recv hK hP (ci := 7) (q0 := 0) rfl rfl) hP hD hS hA P_nil (sepW_nil _) (by decide) rfl rfl rfl hl.1 rfl (Nat.le_of_ble_eq_true rfl) rfl dX7_step_60 ⟨Nat.zero_le _, Nat.zero_le _⟩ (fun H locs hP hD hS => ?_)
          have hP : va_P D vwCl ((wX7_0_4_5_9_10_11_12_13_14 cy ad 0 u_45.2 pri tcd frt frp deg num u_60.1 u_60.2.1 u_60.2.2.1 u_60.2.2.2.1 u_60.2.2.2.2.1 u_60.2.2.2.2.2)) H := hP
          have hD : va_D A ((wX7_0_4_5_9_10_11_12_13_14 cy ad 0 u_45.2 pri tcd frt frp deg num u_60.1 u_60.2.1 u_60.2.2.1 u_60.2.2.2.1 u_60.2.2.2.2.1 u_60.2.2.2.2.2)) := hD
          refine lv_iload_n hx hb dX7_step_63 rfl (lv_at hl 4 rfl) ?_
          refine lv_aload_n hx hb dX7_step_64 rfl (lv_at hl 1 rfl) ?_
          refine va_get (a := (ad 0)) (ci := 7) (v := .ref (ad 10)) (C := RX7) (T := TX7) (N := 28) hx hb hts hin_X7 hown hK hP 0 rfl rfl 12 (by decide) hw_5 (fun _ h => h) rfl dX7_step_65 ?_
          refine lv_iload_n hx hb dX7_step_68 rfl (lv_at hl 3 rfl) ?_
          replace hf := gi_e hf
          obtain ⟨i_69, hf⟩ := hf
          refine va_iald (a := (ad 10)) hx hb hK hP 4 0 rfl rfl i_69 dX7_step_69 ?_
          refine lv_icmp_gt (tgt := 77) hx hb dX7_step_70 (by decide) (fun c_70 => ?_) (fun c_70 => ?_)
          · replace hf := it_p c_70 hf
            refine lv_aload_n hx hb dX7_step_77 rfl (lv_at hl 1 rfl) ?_
            refine va_get (a := (ad 0)) (ci := 7) (v := .ref (ad 10)) (C := RX7) (T := TX7) (N := 28) hx hb hts hin_X7 hown hK hP 0 rfl rfl 12 (by decide) hw_5 (fun _ h => h) rfl dX7_step_78 ?_
            refine lv_iload_n hx hb dX7_step_81 rfl (lv_at hl 3 rfl) ?_
            replace hf := gi_e hf
            obtain ⟨i_82, hf⟩ := hf
            refine va_iald (a := (ad 10)) hx hb hK hP 4 0 rfl rfl i_82 dX7_step_82 ?_
            refine lv_iload_n hx hb dX7_step_83 rfl (lv_at hl 4 rfl) ?_
            refine lv_aload_n hx hb dX7_step_84 rfl (lv_at hl 1 rfl) ?_
            refine va_get (a := (ad 0)) (ci := 7) (v := .ref (ad 10)) (C := RX7) (T := TX7) (N := 28) hx hb hts hin_X7 hown hK hP 0 rfl rfl 12 (by decide) hw_5 (fun _ h => h) rfl dX7_step_85 ?_
            refine lv_iload_n hx hb dX7_step_88 rfl (lv_at hl 3 rfl) ?_
            replace hf := gi_e hf
            obtain ⟨i_89, hf⟩ := hf
            refine va_iald (a := (ad 10)) hx hb hK hP 4 0 rfl rfl i_89 dX7_step_89 ?_
            refine lv_isub hx hb dX7_step_90 ?_
            refine lv_aload_n hx hb dX7_step_91 rfl (lv_at hl 1 rfl) ?_
            refine va_get (a := (ad 0)) (ci := 7) (v := .ref (ad 11)) (C := RX7) (T := TX7) (N := 28) hx hb hts hin_X7 hown hK hP 0 rfl rfl 13 (by decide) hw_6 (fun _ h => h) rfl dX7_step_92 ?_
            refine lv_iload_n hx hb dX7_step_95 rfl (lv_at hl 3 rfl) ?_
            replace hf := gi_e hf
            obtain ⟨i_96, hf⟩ := hf
            refine va_iald (a := (ad 11)) hx hb hK hP 5 0 rfl rfl i_96 dX7_step_96 ?_
            replace hf := gd_e hf
            obtain ⟨z_97, hf⟩ := hf
            refine rw_irem hx hb dX7_step_97 z_97 ?_
            refine lv_iadd hx hb dX7_step_98 ?_
            exact J99 H locs ls ((u_60.2.1 (Int32.toNatClampNeg x2)) + (irm (x3 - (u_60.2.1 (Int32.toNatClampNeg x2))) (u_60.2.2.1 (Int32.toNatClampNeg x2)))) 0 u_45.2 u_60.1 u_60.2.1 u_60.2.2.1 u_60.2.2.2.1 u_60.2.2.2.2.1 u_60.2.2.2.2.2 hf hP hD hS (lv_sub hl [1, 3] rfl)
          · replace hf := it_n c_70 hf
            refine lv_iload_n hx hb dX7_step_73 rfl (lv_at hl 4 rfl) ?_
            refine lv_goto (tgt := 99) hx hb dX7_step_74 (by decide) ?_
            exact J99 H locs ls x3 0 u_45.2 u_60.1 u_60.2.1 u_60.2.2.1 u_60.2.2.2.1 u_60.2.2.2.2.1 u_60.2.2.2.2.2 hf hP hD hS (lv_sub hl [1, 3] rfl)
        · replace hf := it_n c_52 hf
          refine lv_iload hx hb dX7_step_55 (lv_at hl 0 rfl) ?_
          obtain rfl := Option.some.inj hf
          rw [← hQe]
          exact W.iret (v := v_48) hx hb hr (fun t ht hW => ⟨rfl, by rw [ht]; exact hP, hS.F ht⟩) hS.2.2 dX7_step_57
      · replace hf := it_p c_37 hf
        refine lv_ldc (own := RX7) (v := (-1000001)) hx hb hown hw_0 dX7_step_40 ?_
        obtain rfl := Option.some.inj hf
        rw [← hQe]
        exact W.iret (v := (-1000001)) hx hb hr (fun t ht hW => ⟨rfl, by rw [ht]; exact hP, hS.F ht⟩) hS.2.2 dX7_step_42
def FX7_ringOf_J34  (k4 : Int32 → Int32 → Option (Int32)) (x1 : Int32) (x3_34 : Int32) (s0_34 : Int32) (s1_34 : Bool) (tai : Nat → Int32) (lea : Nat → Int32) : Option (Int32) := (bd (s0_34 + (bi s1_34)) (fun v_35 => bd (x3_34 + 1) (fun v_36 => k4 v_35 v_36)))
def FX7_ringOf_J33  (k4 : Int32 → Int32 → Option (Int32)) (x1 : Int32) (x3_33 : Int32) (s0_33 : Int32) (tai : Nat → Int32) (lea : Nat → Int32) : Option (Int32) := (FX7_ringOf_J34 k4 x1 x3_33 s0_33 false tai lea)
def FX7_ringOf_L4   (x1 : Int32) (tai : Nat → Int32) (lea : Nat → Int32) : Nat → Int32 → Int32 → Option (Int32)
  | 0, _, _ => none
  | fuel + 1, x2_4, x3_4 => (if x1 ≤ x3_4 then (some (x2_4)) else (gi x3_4 200 (if (tai (Int32.toNatClampNeg x3_4)) = 0 then (gi x3_4 200 (if (lea (Int32.toNatClampNeg x3_4)) = x3_4 then (FX7_ringOf_J34 (FX7_ringOf_L4 x1 tai lea fuel) x1 x3_4 x2_4 true tai lea) else FX7_ringOf_J33 (FX7_ringOf_L4 x1 tai lea fuel) x1 x3_4 x2_4 tai lea)) else FX7_ringOf_J33 (FX7_ringOf_L4 x1 tai lea fuel) x1 x3_4 x2_4 tai lea)))
def FX7_ringOf  (tai : Nat → Int32) (lea : Nat → Int32) (x1 : Int32) : Option (Int32) := (FX7_ringOf_L4 x1 tai lea FU 0 0)
abbrev RMX7_ringOf : Room := { frames := 0, cells := 0, slots := 0, locals := 0 }
set_option maxHeartbeats 4000000 in
set_option maxRecDepth 100000 in
theorem KX7_ringOf (l : Launch) (D : va_G) (cy : Nat → ClassId) (ad : Nat → Nat) (thr : Int32) (sta : Int32) (pri : Int32) (tcd : Int32) (frt : Int32) (frp : Int32) (tai : Nat → Int32) (lea : Nat → Int32) (x1 : Int32) (sz : Nat) {out : Int32} (hf : FX7_ringOf tai lea x1 = some out) : Met l yX7_ringOf wsX7_ringOf RMX7_ringOf (PW D cy [.ref (ad 0), .int x1] sz [] ((wX7_0_10_12 cy ad thr sta pri tcd frt frp tai lea))) (QR (some (.int out))) 0 0 no_A := by
  refine Met.ofW (cc := cX7_ringOf) (maxL := 4) (ret := (some .int)) (by decide +kernel) rfl ?_
  intro p e s m args below meth c s₁ B hml hv
  obtain ⟨hav, hsz, hP, hR0, hK, hN, hD0, hsep⟩ := hv
  have hx := B.exec
  have hb := B.bytes
  have hr := B.returns
  have hts := atoms_spec (ws := wsX7_ringOf) B.pre
  have hown : s.vm.findClass RX7 = some m.cls := findClass_of_methodNamed B.named
  have hlocks := B.notSynchronized
  subst hsz
  have hin_X7 : ∀ w ∈ u_ws RX7 TX7 28, w ∈ wsX7_ringOf := by decide +kernel
  have hw_0 := hts (.fieldLink RX7 46 "ReturnPointsModel" "tail" "[I") (by decide +kernel)
  have hw_1 := hts (.fieldLink RX7 52 "ReturnPointsModel" "least" "[I") (by decide +kernel)
  obtain ⟨ls, hfr, hl⟩ := ent_ok (m := m) (n := 4) (l' := [(0, .ref (ad 0)), (1, .int x1)]) [.ref (ad 0), .int x1] hav (Nat.le_of_ble_eq_true rfl) rfl
  rw [hfr]
  generalize hQe : MQ below (QR (some (.int out))) args s 0 0 no_A = QQ
  change W p l e RMX7_ringOf s m args below meth c s.heap [] 0 0 QQ (F0 m 0 ls [])
  have L4 : ∀  (n4 : Nat) (ls : Array Slot) (x2_4 : Int32) (x3_4 : Int32), FX7_ringOf_L4 x1 tai lea n4 x2_4 x3_4 = some out → lv_has ls 4 [(0, .ref (ad 0)), (1, .int x1), (2, .int x2_4), (3, .int x3_4)] → W p l e RMX7_ringOf s m args below meth c s.heap [] 0 0 QQ (F0 m 4 ls []) := by
    intro  n4
    induction n4 with
    | zero => intro ls x2_4 x3_4 hf; simp [FX7_ringOf_L4] at hf
    | succ n4 ih4 =>
      intro ls x2_4 x3_4 hf hl
      rw [FX7_ringOf_L4] at hf
      have J34 : ∀ (ls : Array Slot) (x3_34 : Int32) (s0_34 : Int32) (s1_34 : Bool), FX7_ringOf_J34 (FX7_ringOf_L4 x1 tai lea n4) x1 x3_34 s0_34 s1_34 tai lea = some out → lv_has ls 4 [(0, .ref (ad 0)), (1, .int x1), (3, .int x3_34)] → W p l e RMX7_ringOf s m args below meth c s.heap [] 0 0 QQ (F0 m 34 ls [.int (bi s1_34), .int s0_34]) := by
        intro ls x3_34 s0_34 s1_34 hf hl
        unfold FX7_ringOf_J34 at hf
        refine lv_iadd hx hb dX7_ringOf_34 ?_
        refine lv_topi (fun v_35 e_35 => ?_)
        replace hf := bd_at e_35 hf
        clear e_35
        refine lv_istore_n (lv' := [(2, .int v_35), (0, .ref (ad 0)), (1, .int x1), (3, .int x3_34)]) hx hb dX7_ringOf_35 rfl hl (by decide) rfl (fun ls hl => ?_)
        obtain ⟨v_36, e_36⟩ : ∃ y : Int32, y = x3_34 + 1 := ⟨_, rfl⟩
        replace hf := bd_at e_36 hf
        refine lv_iinc (v := v_36) (lv' := [(3, .int v_36), (2, .int v_35), (0, .ref (ad 0)), (1, .int x1)]) hx hb dX7_ringOf_36 hl (k := 3) rfl (by rw [e_36]; rfl) (by decide) rfl (fun ls hl => ?_)
        clear e_36
        refine lv_goto (tgt := 4) hx hb dX7_ringOf_39 (by decide) ?_
        exact ih4 ls v_35 v_36 hf (lv_sub hl [2, 3, 1, 0] rfl)
      have J33 : ∀ (ls : Array Slot) (x3_33 : Int32) (s0_33 : Int32), FX7_ringOf_J33 (FX7_ringOf_L4 x1 tai lea n4) x1 x3_33 s0_33 tai lea = some out → lv_has ls 4 [(0, .ref (ad 0)), (1, .int x1), (3, .int x3_33)] → W p l e RMX7_ringOf s m args below meth c s.heap [] 0 0 QQ (F0 m 33 ls [.int s0_33]) := by
        intro ls x3_33 s0_33 hf hl
        unfold FX7_ringOf_J33 at hf
        refine lv_iconst (v := 0) hx hb dX7_ringOf_33 (by decide) ?_
        exact J34 ls x3_33 s0_33 false hf (lv_sub hl [0, 1, 2] rfl)
      refine lv_iload_n hx hb dX7_ringOf_4 rfl (lv_at hl 3 rfl) ?_
      refine lv_iload_n hx hb dX7_ringOf_5 rfl (lv_at hl 1 rfl) ?_
      refine lv_icmp_ge (tgt := 42) hx hb dX7_ringOf_6 (by decide) (fun c_6 => ?_) (fun c_6 => ?_)
      · replace hf := it_p c_6 hf
        refine lv_iload_n hx hb dX7_ringOf_42 rfl (lv_at hl 2 rfl) ?_
        obtain rfl := Option.some.inj hf
        rw [← hQe]
        exact W.iret (v := x2_4) hx hb hr (fun t ht hW => ⟨rfl, ht⟩) (fun q h => by cases h) dX7_ringOf_43
      · replace hf := it_n c_6 hf
        refine lv_iload_n hx hb dX7_ringOf_9 rfl (lv_at hl 2 rfl) ?_
        refine lv_aload_n hx hb dX7_ringOf_10 rfl (lv_at hl 0 rfl) ?_
        refine va_get (a := (ad 0)) (ci := 7) (v := .ref (ad 10)) (C := RX7) (T := TX7) (N := 28) hx hb hts hin_X7 hown hK hR0 0 rfl rfl 12 (by decide) hw_0 (fun _ h => h) rfl dX7_ringOf_11 ?_
        refine lv_iload_n hx hb dX7_ringOf_14 rfl (lv_at hl 3 rfl) ?_
        replace hf := gi_e hf
        obtain ⟨i_15, hf⟩ := hf
        refine va_iald (a := (ad 10)) hx hb hK hR0 1 0 rfl rfl i_15 dX7_ringOf_15 ?_
        refine lv_if_ne (tgt := 33) hx hb dX7_ringOf_16 (by decide) (fun c_16 => ?_) (fun c_16 => ?_)
        · replace hf := it_n c_16 hf
          exact J33 ls x3_4 x2_4 hf (lv_sub hl [0, 1, 3] rfl)
        · replace hf := it_p c_16 hf
          refine lv_aload_n hx hb dX7_ringOf_19 rfl (lv_at hl 0 rfl) ?_
          refine va_get (a := (ad 0)) (ci := 7) (v := .ref (ad 12)) (C := RX7) (T := TX7) (N := 28) hx hb hts hin_X7 hown hK hR0 0 rfl rfl 14 (by decide) hw_1 (fun _ h => h) rfl dX7_ringOf_20 ?_
          refine lv_iload_n hx hb dX7_ringOf_23 rfl (lv_at hl 3 rfl) ?_
          replace hf := gi_e hf
          obtain ⟨i_24, hf⟩ := hf
          refine va_iald (a := (ad 12)) hx hb hK hR0 2 0 rfl rfl i_24 dX7_ringOf_24 ?_
          refine lv_iload_n hx hb dX7_ringOf_25 rfl (lv_at hl 3 rfl) ?_
          refine lv_icmp_ne (tgt := 33) hx hb dX7_ringOf_26 (by decide) (fun c_26 => ?_) (fun c_26 => ?_)
          · replace hf := it_n c_26 hf
            exact J33 ls x3_4 x2_4 hf (lv_sub hl [0, 1, 3] rfl)
          · replace hf := it_p c_26 hf
            refine lv_iconst (v := 1) hx hb dX7_ringOf_29 (by decide) ?_
            refine lv_goto (tgt := 34) hx hb dX7_ringOf_30 (by decide) ?_
            exact J34 ls x3_4 x2_4 true hf (lv_sub hl [0, 1, 3] rfl)
  unfold FX7_ringOf at hf
  refine lv_iconst (v := 0) hx hb dX7_ringOf_0 (by decide) ?_
  refine lv_istore_n (lv' := [(2, .int 0), (0, .ref (ad 0)), (1, .int x1)]) hx hb dX7_ringOf_1 rfl hl (by decide) rfl (fun ls hl => ?_)
  refine lv_iconst (v := 0) hx hb dX7_ringOf_2 (by decide) ?_
  refine lv_istore_n (lv' := [(3, .int 0), (2, .int 0), (0, .ref (ad 0)), (1, .int x1)]) hx hb dX7_ringOf_3 rfl hl (by decide) rfl (fun ls hl => ?_)
  exact L4 FU ls 0 0 hf (lv_sub hl [2, 3, 1, 0] rfl)
def FX7_way  (sta : Int32) (pri : Int32) (deg : Nat → Int32) (num : Nat → Int32) (goe : Nat → Int32) (tai : Nat → Int32) (per : Nat → Int32) (lea : Nat → Int32) (com : Nat → Int32) (see : Nat → Int32) (x1 : Int32) (x2 : Int32) (x3 : Int32) : Option (Int32 × (Int32) × (Int32) × (Nat → Int32) × (Nat → Int32) × (Nat → Int32) × (Nat → Int32) × (Nat → Int32) × (Nat → Int32)) := (ob (FX7_isPlace x1) (fun u_6 => if (bi u_6) = 0 then (some ((-1000001), 0, sta, goe, tai, per, lea, com, see)) else (ob (FX7_in (Int32.toInt64 x2) 0 (Int32.toInt64 (pri - 1))) (fun u_22 => if (bi u_22) = 0 then (some ((-1000001), 0, sta, goe, tai, per, lea, com, see)) else (ob (FX7_in (Int32.toInt64 x3) 0 3) (fun u_34 => if (bi u_34) = 0 then (some ((-1000001), 0, sta, goe, tai, per, lea, com, see)) else (ob (FX7_look deg x1) (fun u_45 => bd u_45.1 (fun v_48 => if 0 ≤ v_48 then (ob (FX7_findWays pri deg num goe tai per lea com see x1) (fun u_60 => if x3 = 0 then (gi x2 200 ((some ((u_60.2.1 (Int32.toNatClampNeg x2)), 0, u_45.2, u_60.1, u_60.2.1, u_60.2.2.1, u_60.2.2.2.1, u_60.2.2.2.2.1, u_60.2.2.2.2.2)))) else (if x3 = 1 then (gi x2 200 ((some ((u_60.2.2.1 (Int32.toNatClampNeg x2)), 0, u_45.2, u_60.1, u_60.2.1, u_60.2.2.1, u_60.2.2.2.1, u_60.2.2.2.2.1, u_60.2.2.2.2.2)))) else (if x3 = 2 then (gi x2 200 (ob (FX7_ringOf u_60.2.1 u_60.2.2.2.1 (u_60.2.2.2.1 (Int32.toNatClampNeg x2))) (fun u_102 => (some (u_102, 0, u_45.2, u_60.1, u_60.2.1, u_60.2.2.1, u_60.2.2.2.1, u_60.2.2.2.2.1, u_60.2.2.2.2.2))))) else (gi x2 200 ((some ((u_60.2.2.2.2.1 (Int32.toNatClampNeg x2)), 0, u_45.2, u_60.1, u_60.2.1, u_60.2.2.1, u_60.2.2.2.1, u_60.2.2.2.2.1, u_60.2.2.2.2.2)))))))) else (some (v_48, 0, u_45.2, goe, tai, per, lea, com, see)))))))))))
abbrev RMX7_way : Room := { frames := 2, cells := 0, slots := 0, locals := 50 }
set_option maxHeartbeats 4000000 in
set_option maxRecDepth 100000 in
theorem KX7_way (l : Launch) (D : va_G) (cy : Nat → ClassId) (ad : Nat → Nat) (thr : Int32) (sta : Int32) (pri : Int32) (tcd : Int32) (frt : Int32) (frp : Int32) (deg : Nat → Int32) (num : Nat → Int32) (goe : Nat → Int32) (tai : Nat → Int32) (per : Nat → Int32) (lea : Nat → Int32) (com : Nat → Int32) (see : Nat → Int32) (x1 : Int32) (x2 : Int32) (x3 : Int32) (sz : Nat) {out : Int32 × (Int32) × (Int32) × (Nat → Int32) × (Nat → Int32) × (Nat → Int32) × (Nat → Int32) × (Nat → Int32) × (Nat → Int32)} (hf : FX7_way sta pri deg num goe tai per lea com see x1 x2 x3 = some out) : Met l yX7_way wsX7_way RMX7_way (PW D cy [.ref (ad 0), .int x1, .int x2, .int x3] sz ((wX7_0_4_5_9_10_11_12_13_14 cy ad thr sta pri tcd frt frp deg num goe tai per lea com see)) []) (QW D (some (.int out.1)) ((wX7_0_4_5_9_10_11_12_13_14 cy ad out.2.1 out.2.2.1 pri tcd frt frp deg num out.2.2.2.1 out.2.2.2.2.1 out.2.2.2.2.2.1 out.2.2.2.2.2.2.1 out.2.2.2.2.2.2.2.1 out.2.2.2.2.2.2.2.2)) (va_A ((wX7_0_4_5_9_10_11_12_13_14 cy ad thr sta pri tcd frt frp deg num goe tai per lea com see)) sz)) 0 0 (va_A ((wX7_0_4_5_9_10_11_12_13_14 cy ad thr sta pri tcd frt frp deg num goe tai per lea com see)) sz) := by
  refine Met.ofW (cc := cX7_way) (maxL := 5) (ret := (some .int)) (by decide +kernel) rfl ?_
  intro p e s m args below meth c s₁ B hml hv
  obtain ⟨hav, hsz, hP, hR0, hK, hN, hD0, hsep⟩ := hv
  have hx := B.exec
  have hb := B.bytes
  have hr := B.returns
  have hts := atoms_spec (ws := wsX7_way) B.pre
  have hown : s.vm.findClass RX7 = some m.cls := findClass_of_methodNamed B.named
  have hlocks := B.notSynchronized
  subst hsz
  have hin_X7 : ∀ w ∈ u_ws RX7 TX7 28, w ∈ wsX7_way := by decide +kernel
  have hw_0 := hts (.constant RX7 108 (-1000001)) (by decide +kernel)
  have hw_1 := hts (.constantLong RX7 86 (3)) (by decide +kernel)
  have hw_2 := hts (.fieldLink RX7 1 "ReturnPointsModel" "thrown" "I") (by decide +kernel)
  have hw_3 := hts (.fieldLink RX7 98 "ReturnPointsModel" "prime" "I") (by decide +kernel)
  have hw_4 := hts (.fieldLink RX7 55 "ReturnPointsModel" "comes" "[I") (by decide +kernel)
  have hw_5 := hts (.fieldLink RX7 52 "ReturnPointsModel" "least" "[I") (by decide +kernel)
  have hw_6 := hts (.fieldLink RX7 49 "ReturnPointsModel" "period" "[I") (by decide +kernel)
  have hw_7 := hts (.fieldLink RX7 46 "ReturnPointsModel" "tail" "[I") (by decide +kernel)
  have hD := hD0.self (sz := s.heap.size)
  have hnA := roA hsep hR0
  generalize hAe : va_A ((wX7_0_4_5_9_10_11_12_13_14 cy ad thr sta pri tcd frt frp deg num goe tai per lea com see)) s.heap.size = A at hD hnA ⊢
  have hA : ∀ q : Nat, s.heap.size ≤ q → A q := fun q h => by rw [← hAe]; exact Or.inr h
  have hS : va_S A s.heap s.heap [] := va_S.rf
  obtain ⟨ls, hfr, hl⟩ := ent_ok (m := m) (n := 5) (l' := [(0, .ref (ad 0)), (1, .int x1), (2, .int x2), (3, .int x3)]) [.ref (ad 0), .int x1, .int x2, .int x3] hav (Nat.le_of_ble_eq_true rfl) rfl
  rw [hfr]
  generalize hQe : MQ below (QW D (some (.int out.1)) ((wX7_0_4_5_9_10_11_12_13_14 cy ad out.2.1 out.2.2.1 pri tcd frt frp deg num out.2.2.2.1 out.2.2.2.2.1 out.2.2.2.2.2.1 out.2.2.2.2.2.2.1 out.2.2.2.2.2.2.2.1 out.2.2.2.2.2.2.2.2)) A) args s 0 0 A = QQ
  change W p l e RMX7_way s m args below meth c s.heap [] 0 0 QQ (F0 m 0 ls [])
  have hP : va_P D vwCl ((wX7_0_4_5_9_10_11_12_13_14 cy ad thr sta pri tcd frt frp deg num goe tai per lea com see)) s.heap := hP
  have hD : va_D A ((wX7_0_4_5_9_10_11_12_13_14 cy ad thr sta pri tcd frt frp deg num goe tai per lea com see)) := hD
  suffices h00 : ∀ (H : Heap) (locs : List Loc), va_P D vwCl ((wX7_0_4_5_9_10_11_12_13_14 cy ad thr sta pri tcd frt frp deg num goe tai per lea com see)) H → va_S A s.heap H locs → W p l e RMX7_way s m args below meth c H locs 0 0 QQ (F0 m 0 ls []) from h00 _ _ hP hS
  clear hP hS
  intro H locs hP hS
  unfold FX7_way at hf
  refine lv_aload_n hx hb dX7_way_0 rfl (lv_at hl 0 rfl) ?_
  refine lv_iconst (v := 0) hx hb dX7_way_1 (by decide) ?_
  refine va_put (a := (ad 0)) (ci := 7) (v := .int 0) (ty := .int) (C := RX7) (T := TX7) (N := 28) hx hb hts hin_X7 tyX7 tyX7_ok nmX7 hown hK hP hD hS 0 rfl rfl 0 (by decide) hw_2 (fun _ h => h) rfl (by decide +kernel) rfl rfl (Nat.le_of_ble_eq_true rfl) dX7_way_2 (fun H locs hP hD hS => ?_)
  have hP : va_P D vwCl ((wX7_0_4_5_9_10_11_12_13_14 cy ad 0 sta pri tcd frt frp deg num goe tai per lea com see)) H := hP
  have hD : va_D A ((wX7_0_4_5_9_10_11_12_13_14 cy ad 0 sta pri tcd frt frp deg num goe tai per lea com see)) := hD
  refine lv_iload_n hx hb dX7_way_5 rfl (lv_at hl 1 rfl) ?_
  replace hf := ob_e hf
  obtain ⟨u_6, hu_6, hf⟩ := hf
  refine isR (As := [.int x1]) (rest := []) (st1 := [.int (bi u_6)]) ⟨hx, hb, hml, hown, hts⟩ hK hN (KX7_isPlace l D cy x1 H.size hu_6) (va_cwS 1 hts gX7_way_X7_isPlace rfl rfl rfl (by decide +kernel) ⟨Nat.le_of_ble_eq_true rfl, Nat.le_of_ble_eq_true rfl⟩) P_nil rfl hl.1 rfl (Nat.le_of_ble_eq_true rfl) rfl dX7_way_6 ⟨Nat.zero_le _, Nat.zero_le _⟩ ?_
  refine lv_if_eq (tgt := 40) hx hb dX7_way_9 (by decide) (fun c_9 => ?_) (fun c_9 => ?_)
  · replace hf := it_p c_9 hf
    refine lv_ldc (own := RX7) (v := (-1000001)) hx hb hown hw_0 dX7_way_40 ?_
    obtain rfl := Option.some.inj hf
    rw [← hQe]
    exact W.iret (v := (-1000001)) hx hb hr (fun t ht hW => ⟨rfl, by rw [ht]; exact hP, hS.F ht⟩) hS.2.2 dX7_way_42
  · replace hf := it_n c_9 hf
    refine lv_iload_n hx hb dX7_way_12 rfl (lv_at hl 2 rfl) ?_
    refine lv_i2l hx hb dX7_way_13 rfl ?_
    refine lv_lconst (v := 0) hx hb dX7_way_14 (by decide) ?_
    refine lv_aload_n hx hb dX7_way_15 rfl (lv_at hl 0 rfl) ?_
    refine va_get (a := (ad 0)) (ci := 7) (v := .int pri) (C := RX7) (T := TX7) (N := 28) hx hb hts hin_X7 hown hK hP 0 rfl rfl 2 (by decide) hw_3 (fun _ h => h) rfl dX7_way_16 ?_
    refine lv_iconst (v := 1) hx hb dX7_way_19 (by decide) ?_
    refine lv_isub hx hb dX7_way_20 ?_
    refine lv_i2l hx hb dX7_way_21 rfl ?_
    replace hf := ob_e hf
    obtain ⟨u_22, hu_22, hf⟩ := hf
    refine isR (As := [.long (Int32.toInt64 x2), .long 0, .long (Int32.toInt64 (pri - 1))]) (rest := []) (st1 := [.int (bi u_22)]) ⟨hx, hb, hml, hown, hts⟩ hK hN (KX7_in l D cy (Int32.toInt64 x2) 0 (Int32.toInt64 (pri - 1)) H.size hu_22) (va_cwS 3 hts gX7_way_X7_in rfl rfl rfl (by decide +kernel) ⟨Nat.le_of_ble_eq_true rfl, Nat.le_of_ble_eq_true rfl⟩) P_nil rfl hl.1 rfl (Nat.le_of_ble_eq_true rfl) rfl dX7_way_22 ⟨Nat.zero_le _, Nat.zero_le _⟩ ?_
    refine lv_if_eq (tgt := 40) hx hb dX7_way_25 (by decide) (fun c_25 => ?_) (fun c_25 => ?_)
    · replace hf := it_p c_25 hf
      refine lv_ldc (own := RX7) (v := (-1000001)) hx hb hown hw_0 dX7_way_40 ?_
      obtain rfl := Option.some.inj hf
      rw [← hQe]
      exact W.iret (v := (-1000001)) hx hb hr (fun t ht hW => ⟨rfl, by rw [ht]; exact hP, hS.F ht⟩) hS.2.2 dX7_way_42
    · replace hf := it_n c_25 hf
      refine lv_iload_n hx hb dX7_way_28 rfl (lv_at hl 3 rfl) ?_
      refine lv_i2l hx hb dX7_way_29 rfl ?_
      refine lv_lconst (v := 0) hx hb dX7_way_30 (by decide) ?_
      refine lv_ldc2 (own := RX7) (v := 3) hx hb hown hw_1 dX7_way_31 ?_
      replace hf := ob_e hf
      obtain ⟨u_34, hu_34, hf⟩ := hf
      refine isR (As := [.long (Int32.toInt64 x3), .long 0, .long 3]) (rest := []) (st1 := [.int (bi u_34)]) ⟨hx, hb, hml, hown, hts⟩ hK hN (KX7_in l D cy (Int32.toInt64 x3) 0 3 H.size hu_34) (va_cwS 3 hts gX7_way_X7_in rfl rfl rfl (by decide +kernel) ⟨Nat.le_of_ble_eq_true rfl, Nat.le_of_ble_eq_true rfl⟩) P_nil rfl hl.1 rfl (Nat.le_of_ble_eq_true rfl) rfl dX7_way_34 ⟨Nat.zero_le _, Nat.zero_le _⟩ ?_
      refine lv_if_ne (tgt := 43) hx hb dX7_way_37 (by decide) (fun c_37 => ?_) (fun c_37 => ?_)
      · replace hf := it_n c_37 hf
        refine lv_aload_n hx hb dX7_way_43 rfl (lv_at hl 0 rfl) ?_
        refine lv_iload_n hx hb dX7_way_44 rfl (lv_at hl 1 rfl) ?_
        replace hf := ob_e hf
        obtain ⟨u_45, hu_45, hf⟩ := hf
        refine ivW (As := [.int x1]) (rest := []) (st1 := [.int u_45.1]) (is := [0, 1]) (w1 := (wX7_0_4 cy ad 0 u_45.2 pri tcd frt frp deg)) ⟨hx, hb, hml, hown, hts⟩ hK hN (KX7_look l D cy ad 0 sta pri tcd frt frp deg x1 H.size hu_45) (cwV 1 hts gX7_way_X7_look rfl rfl rfl (by decide +kernel) ⟨Nat.le_of_ble_eq_true rfl, Nat.le_of_ble_eq_true rfl⟩) (va_recv hK hP (ci := 7) (q0 := 0) rfl rfl) hP hD hS hA P_nil (sepW_nil _) (by decide) rfl rfl rfl hl.1 rfl (Nat.le_of_ble_eq_true rfl) rfl dX7_way_45 ⟨Nat.zero_le _, Nat.zero_le _⟩ (fun H locs hP hD hS => ?_)
        have hP : va_P D vwCl ((wX7_0_4_5_9_10_11_12_13_14 cy ad 0 u_45.2 pri tcd frt frp deg num goe tai per lea com see)) H := hP
        have hD : va_D A ((wX7_0_4_5_9_10_11_12_13_14 cy ad 0 u_45.2 pri tcd frt frp deg num goe tai per lea com see)) := hD
        refine lv_topi (fun v_48 e_48 => ?_)
        replace hf := bd_at e_48 hf
        clear e_48
        refine lv_istore (lv' := [(4, .int v_48), (0, .ref (ad 0)), (1, .int x1), (2, .int x2), (3, .int x3)]) hx hb dX7_way_48 hl (by decide) rfl (fun ls hl => ?_)
        refine lv_iload hx hb dX7_way_50 (lv_at hl 0 rfl) ?_
        refine lv_if_ge (tgt := 58) hx hb dX7_way_52 (by decide) (fun c_52 => ?_) (fun c_52 => ?_)
        · replace hf := it_p c_52 hf
          refine lv_aload_n hx hb dX7_way_58 rfl (lv_at hl 1 rfl) ?_
          refine lv_iload_n hx hb dX7_way_59 rfl (lv_at hl 2 rfl) ?_
          replace hf := ob_e hf
          obtain ⟨u_60, hu_60, hf⟩ := hf
          refine ivW (As := [.int x1]) (rest := []) (st1 := []) (is := [0, 1, 2, 3, 4, 5, 6, 7, 8]) (w1 := (wX7_0_4_5_9_10_11_12_13_14 cy ad 0 u_45.2 pri tcd frt frp deg num u_60.1 u_60.2.1 u_60.2.2.1 u_60.2.2.2.1 u_60.2.2.2.2.1 u_60.2.2.2.2.2)) ⟨hx, hb, hml, hown, hts⟩ hK hN (KX7_findWays l D cy ad 0 u_45.2 pri tcd frt frp deg num goe tai per lea com see x1 H.size hu_60) (cwV 1 hts gX7_way_X7_findWays rfl rfl rfl (by decide +kernel) ⟨Nat.le_of_ble_eq_true rfl, Nat.le_of_ble_eq_true rfl⟩) (va_recv hK hP (ci := 7) (q0 := 0) rfl rfl) hP hD hS hA P_nil (sepW_nil _) (by decide) rfl rfl rfl hl.1 rfl (Nat.le_of_ble_eq_true rfl) rfl dX7_way_60 ⟨Nat.zero_le _, Nat.zero_le _⟩ (fun H locs hP hD hS => ?_)
          have hP : va_P D vwCl ((wX7_0_4_5_9_10_11_12_13_14 cy ad 0 u_45.2 pri tcd frt frp deg num u_60.1 u_60.2.1 u_60.2.2.1 u_60.2.2.2.1 u_60.2.2.2.2.1 u_60.2.2.2.2.2)) H := hP
          have hD : va_D A ((wX7_0_4_5_9_10_11_12_13_14 cy ad 0 u_45.2 pri tcd frt frp deg num u_60.1 u_60.2.1 u_60.2.2.1 u_60.2.2.2.1 u_60.2.2.2.2.1 u_60.2.2.2.2.2)) := hD
          refine lv_iload_n hx hb dX7_way_63 rfl (lv_at hl 4 rfl) ?_
          refine lv_if_ne (tgt := 76) hx hb dX7_way_64 (by decide) (fun c_64 => ?_) (fun c_64 => ?_)
          · replace hf := it_n c_64 hf
            refine lv_iload_n hx hb dX7_way_76 rfl (lv_at hl 4 rfl) ?_
            refine lv_iconst (v := 1) hx hb dX7_way_77 (by decide) ?_
            refine lv_icmp_ne (tgt := 90) hx hb dX7_way_78 (by decide) (fun c_78 => ?_) (fun c_78 => ?_)
            · replace hf := it_n c_78 hf
              refine lv_iload_n hx hb dX7_way_90 rfl (lv_at hl 4 rfl) ?_
              refine lv_iconst (v := 2) hx hb dX7_way_91 (by decide) ?_
              refine lv_icmp_ne (tgt := 108) hx hb dX7_way_92 (by decide) (fun c_92 => ?_) (fun c_92 => ?_)
              · replace hf := it_n c_92 hf
                refine lv_aload_n hx hb dX7_way_108 rfl (lv_at hl 1 rfl) ?_
                refine va_get (a := (ad 0)) (ci := 7) (v := .ref (ad 13)) (C := RX7) (T := TX7) (N := 28) hx hb hts hin_X7 hown hK hP 0 rfl rfl 15 (by decide) hw_4 (fun _ h => h) rfl dX7_way_109 ?_
                refine lv_iload_n hx hb dX7_way_112 rfl (lv_at hl 3 rfl) ?_
                replace hf := gi_e hf
                obtain ⟨i_113, hf⟩ := hf
                refine va_iald (a := (ad 13)) hx hb hK hP 7 0 rfl rfl i_113 dX7_way_113 ?_
                obtain rfl := Option.some.inj hf
                rw [← hQe]
                exact W.iret (v := (u_60.2.2.2.2.1 (Int32.toNatClampNeg x2))) hx hb hr (fun t ht hW => ⟨rfl, by rw [ht]; exact hP, hS.F ht⟩) hS.2.2 dX7_way_114
              · replace hf := it_p c_92 hf
                refine lv_aload_n hx hb dX7_way_95 rfl (lv_at hl 1 rfl) ?_
                refine lv_aload_n hx hb dX7_way_96 rfl (lv_at hl 1 rfl) ?_
                refine va_get (a := (ad 0)) (ci := 7) (v := .ref (ad 12)) (C := RX7) (T := TX7) (N := 28) hx hb hts hin_X7 hown hK hP 0 rfl rfl 14 (by decide) hw_5 (fun _ h => h) rfl dX7_way_97 ?_
                refine lv_iload_n hx hb dX7_way_100 rfl (lv_at hl 3 rfl) ?_
                replace hf := gi_e hf
                obtain ⟨i_101, hf⟩ := hf
                refine va_iald (a := (ad 12)) hx hb hK hP 6 0 rfl rfl i_101 dX7_way_101 ?_
                replace hf := ob_e hf
                obtain ⟨u_102, hu_102, hf⟩ := hf
                refine ivR (As := [.int (u_60.2.2.2.1 (Int32.toNatClampNeg x2))]) (rest := []) (st1 := [.int u_102]) ⟨hx, hb, hml, hown, hts⟩ hK hN (KX7_ringOf l D cy ad 0 u_45.2 pri tcd frt frp u_60.2.1 u_60.2.2.2.1 (u_60.2.2.2.1 (Int32.toNatClampNeg x2)) H.size hu_102) (cwV 1 hts gX7_way_X7_ringOf rfl rfl rfl (by decide +kernel) ⟨Nat.le_of_ble_eq_true rfl, Nat.le_of_ble_eq_true rfl⟩) (va_recv hK hP (ci := 7) (q0 := 0) rfl rfl) (P_pl (wc := (wX7_0_10_12 cy ad 0 u_45.2 pri tcd frt frp u_60.2.1 u_60.2.2.2.1)) (is := [0, 4, 6]) hP rfl) rfl hl.1 rfl (Nat.le_of_ble_eq_true rfl) rfl dX7_way_102 ⟨Nat.zero_le _, Nat.zero_le _⟩ ?_
                refine lv_goto (tgt := 114) hx hb dX7_way_105 (by decide) ?_
                obtain rfl := Option.some.inj hf
                rw [← hQe]
                exact W.iret (v := u_102) hx hb hr (fun t ht hW => ⟨rfl, by rw [ht]; exact hP, hS.F ht⟩) hS.2.2 dX7_way_114
            · replace hf := it_p c_78 hf
              refine lv_aload_n hx hb dX7_way_81 rfl (lv_at hl 1 rfl) ?_
              refine va_get (a := (ad 0)) (ci := 7) (v := .ref (ad 11)) (C := RX7) (T := TX7) (N := 28) hx hb hts hin_X7 hown hK hP 0 rfl rfl 13 (by decide) hw_6 (fun _ h => h) rfl dX7_way_82 ?_
              refine lv_iload_n hx hb dX7_way_85 rfl (lv_at hl 3 rfl) ?_
              replace hf := gi_e hf
              obtain ⟨i_86, hf⟩ := hf
              refine va_iald (a := (ad 11)) hx hb hK hP 5 0 rfl rfl i_86 dX7_way_86 ?_
              refine lv_goto (tgt := 114) hx hb dX7_way_87 (by decide) ?_
              obtain rfl := Option.some.inj hf
              rw [← hQe]
              exact W.iret (v := (u_60.2.2.1 (Int32.toNatClampNeg x2))) hx hb hr (fun t ht hW => ⟨rfl, by rw [ht]; exact hP, hS.F ht⟩) hS.2.2 dX7_way_114
          · replace hf := it_p c_64 hf
            refine lv_aload_n hx hb dX7_way_67 rfl (lv_at hl 1 rfl) ?_
            refine va_get (a := (ad 0)) (ci := 7) (v := .ref (ad 10)) (C := RX7) (T := TX7) (N := 28) hx hb hts hin_X7 hown hK hP 0 rfl rfl 12 (by decide) hw_7 (fun _ h => h) rfl dX7_way_68 ?_
            refine lv_iload_n hx hb dX7_way_71 rfl (lv_at hl 3 rfl) ?_
            replace hf := gi_e hf
            obtain ⟨i_72, hf⟩ := hf
            refine va_iald (a := (ad 10)) hx hb hK hP 4 0 rfl rfl i_72 dX7_way_72 ?_
            refine lv_goto (tgt := 114) hx hb dX7_way_73 (by decide) ?_
            obtain rfl := Option.some.inj hf
            rw [← hQe]
            exact W.iret (v := (u_60.2.1 (Int32.toNatClampNeg x2))) hx hb hr (fun t ht hW => ⟨rfl, by rw [ht]; exact hP, hS.F ht⟩) hS.2.2 dX7_way_114
        · replace hf := it_n c_52 hf
          refine lv_iload hx hb dX7_way_55 (lv_at hl 0 rfl) ?_
          obtain rfl := Option.some.inj hf
          rw [← hQe]
          exact W.iret (v := v_48) hx hb hr (fun t ht hW => ⟨rfl, by rw [ht]; exact hP, hS.F ht⟩) hS.2.2 dX7_way_57
      · replace hf := it_p c_37 hf
        refine lv_ldc (own := RX7) (v := (-1000001)) hx hb hown hw_0 dX7_way_40 ?_
        obtain rfl := Option.some.inj hf
        rw [← hQe]
        exact W.iret (v := (-1000001)) hx hb hr (fun t ht hW => ⟨rfl, by rw [ht]; exact hP, hS.F ht⟩) hS.2.2 dX7_way_42
def FX7_times_L8   (x1 : Int32) (x2 : Int32) (pri : Int32) (deg : Nat → Int32) (num : Nat → Int32) (goe : Nat → Int32) (per : Nat → Int32) : Nat → Int32 → Int32 → Int32 → Option (Int32)
  | 0, _, _, _ => none
  | fuel + 1, x3_8, x4_8, x5_8 => (gi x2 200 (if (per (Int32.toNatClampNeg x2)) ≤ x5_8 then (some (x3_8)) else (ob (FX7_slopeOf pri deg num x1 x4_8) (fun u_24 => gd (¬ pri = 0) (bd (irm (x3_8 * u_24) pri) (fun v_33 => gi x4_8 200 (bd (goe (Int32.toNatClampNeg x4_8)) (fun v_41 => bd (x5_8 + 1) (fun v_43 => (FX7_times_L8 x1 x2 pri deg num goe per fuel) v_33 v_41 v_43)))))))))
def FX7_times  (pri : Int32) (deg : Nat → Int32) (num : Nat → Int32) (goe : Nat → Int32) (per : Nat → Int32) (x1 : Int32) (x2 : Int32) : Option (Int32) := (FX7_times_L8 x1 x2 pri deg num goe per FU 1 x2 0)
abbrev RMX7_times : Room := { frames := 1, cells := 0, slots := 0, locals := 24 }
set_option maxHeartbeats 4000000 in
set_option maxRecDepth 100000 in
theorem KX7_times (l : Launch) (D : va_G) (cy : Nat → ClassId) (ad : Nat → Nat) (thr : Int32) (sta : Int32) (pri : Int32) (tcd : Int32) (frt : Int32) (frp : Int32) (deg : Nat → Int32) (num : Nat → Int32) (goe : Nat → Int32) (per : Nat → Int32) (x1 : Int32) (x2 : Int32) (sz : Nat) {out : Int32} (hf : FX7_times pri deg num goe per x1 x2 = some out) : Met l yX7_times wsX7_times RMX7_times (PW D cy [.ref (ad 0), .int x1, .int x2] sz [] ((wX7_0_4_5_9_11 cy ad thr sta pri tcd frt frp deg num goe per))) (QR (some (.int out))) 0 0 no_A := by
  refine Met.ofW (cc := cX7_times) (maxL := 6) (ret := (some .int)) (by decide +kernel) rfl ?_
  intro p e s m args below meth c s₁ B hml hv
  obtain ⟨hav, hsz, hP, hR0, hK, hN, hD0, hsep⟩ := hv
  have hx := B.exec
  have hb := B.bytes
  have hr := B.returns
  have hts := atoms_spec (ws := wsX7_times) B.pre
  have hown : s.vm.findClass RX7 = some m.cls := findClass_of_methodNamed B.named
  have hlocks := B.notSynchronized
  subst hsz
  have hin_X7 : ∀ w ∈ u_ws RX7 TX7 28, w ∈ wsX7_times := by decide +kernel
  have hw_0 := hts (.fieldLink RX7 49 "ReturnPointsModel" "period" "[I") (by decide +kernel)
  have hw_1 := hts (.fieldLink RX7 98 "ReturnPointsModel" "prime" "I") (by decide +kernel)
  have hw_2 := hts (.fieldLink RX7 43 "ReturnPointsModel" "goes" "[I") (by decide +kernel)
  obtain ⟨ls, hfr, hl⟩ := ent_ok (m := m) (n := 6) (l' := [(0, .ref (ad 0)), (1, .int x1), (2, .int x2)]) [.ref (ad 0), .int x1, .int x2] hav (Nat.le_of_ble_eq_true rfl) rfl
  rw [hfr]
  generalize hQe : MQ below (QR (some (.int out))) args s 0 0 no_A = QQ
  change W p l e RMX7_times s m args below meth c s.heap [] 0 0 QQ (F0 m 0 ls [])
  have L8 : ∀  (n8 : Nat) (ls : Array Slot) (x3_8 : Int32) (x4_8 : Int32) (x5_8 : Int32), FX7_times_L8 x1 x2 pri deg num goe per n8 x3_8 x4_8 x5_8 = some out → lv_has ls 6 [(0, .ref (ad 0)), (1, .int x1), (2, .int x2), (3, .int x3_8), (4, .int x4_8), (5, .int x5_8)] → W p l e RMX7_times s m args below meth c s.heap [] 0 0 QQ (F0 m 8 ls []) := by
    intro  n8
    induction n8 with
    | zero => intro ls x3_8 x4_8 x5_8 hf; simp [FX7_times_L8] at hf
    | succ n8 ih8 =>
      intro ls x3_8 x4_8 x5_8 hf hl
      rw [FX7_times_L8] at hf
      refine lv_iload hx hb dX7_times_8 (lv_at hl 5 rfl) ?_
      refine lv_aload_n hx hb dX7_times_10 rfl (lv_at hl 0 rfl) ?_
      refine va_get (a := (ad 0)) (ci := 7) (v := .ref (ad 11)) (C := RX7) (T := TX7) (N := 28) hx hb hts hin_X7 hown hK hR0 0 rfl rfl 13 (by decide) hw_0 (fun _ h => h) rfl dX7_times_11 ?_
      refine lv_iload_n hx hb dX7_times_14 rfl (lv_at hl 2 rfl) ?_
      replace hf := gi_e hf
      obtain ⟨i_15, hf⟩ := hf
      refine va_iald (a := (ad 11)) hx hb hK hR0 4 0 rfl rfl i_15 dX7_times_15 ?_
      refine lv_icmp_ge (tgt := 49) hx hb dX7_times_16 (by decide) (fun c_16 => ?_) (fun c_16 => ?_)
      · replace hf := it_p c_16 hf
        refine lv_iload_n hx hb dX7_times_49 rfl (lv_at hl 3 rfl) ?_
        obtain rfl := Option.some.inj hf
        rw [← hQe]
        exact W.iret (v := x3_8) hx hb hr (fun t ht hW => ⟨rfl, ht⟩) (fun q h => by cases h) dX7_times_50
      · replace hf := it_n c_16 hf
        refine lv_iload_n hx hb dX7_times_19 rfl (lv_at hl 3 rfl) ?_
        refine lv_aload_n hx hb dX7_times_20 rfl (lv_at hl 0 rfl) ?_
        refine lv_iload_n hx hb dX7_times_21 rfl (lv_at hl 1 rfl) ?_
        refine lv_iload hx hb dX7_times_22 (lv_at hl 4 rfl) ?_
        replace hf := ob_e hf
        obtain ⟨u_24, hu_24, hf⟩ := hf
        refine ivR (As := [.int x1, .int x4_8]) (rest := [.int x3_8]) (st1 := [.int u_24, .int x3_8]) ⟨hx, hb, hml, hown, hts⟩ hK hN (KX7_slopeOf l D cy ad thr sta pri tcd frt frp deg num x1 x4_8 s.heap.size hu_24) (cwV 2 hts gX7_times_X7_slopeOf rfl rfl rfl (by decide +kernel) ⟨Nat.le_of_ble_eq_true rfl, Nat.le_of_ble_eq_true rfl⟩) (va_recv hK hR0 (ci := 7) (q0 := 0) rfl rfl) (P_pl (wc := (wX7_0_4_5 cy ad thr sta pri tcd frt frp deg num)) (is := [0, 1, 2]) hR0 rfl) rfl hl.1 rfl (Nat.le_of_ble_eq_true rfl) rfl dX7_times_24 ⟨Nat.zero_le _, Nat.zero_le _⟩ ?_
        refine lv_imul hx hb dX7_times_27 ?_
        refine lv_aload_n hx hb dX7_times_28 rfl (lv_at hl 0 rfl) ?_
        refine va_get (a := (ad 0)) (ci := 7) (v := .int pri) (C := RX7) (T := TX7) (N := 28) hx hb hts hin_X7 hown hK hR0 0 rfl rfl 2 (by decide) hw_1 (fun _ h => h) rfl dX7_times_29 ?_
        replace hf := gd_e hf
        obtain ⟨z_32, hf⟩ := hf
        refine rw_irem hx hb dX7_times_32 z_32 ?_
        refine lv_topi (fun v_33 e_33 => ?_)
        replace hf := bd_at e_33 hf
        clear e_33
        refine lv_istore_n (lv' := [(3, .int v_33), (0, .ref (ad 0)), (1, .int x1), (2, .int x2), (4, .int x4_8), (5, .int x5_8)]) hx hb dX7_times_33 rfl hl (by decide) rfl (fun ls hl => ?_)
        refine lv_aload_n hx hb dX7_times_34 rfl (lv_at hl 1 rfl) ?_
        refine va_get (a := (ad 0)) (ci := 7) (v := .ref (ad 9)) (C := RX7) (T := TX7) (N := 28) hx hb hts hin_X7 hown hK hR0 0 rfl rfl 11 (by decide) hw_2 (fun _ h => h) rfl dX7_times_35 ?_
        refine lv_iload hx hb dX7_times_38 (lv_at hl 4 rfl) ?_
        replace hf := gi_e hf
        obtain ⟨i_40, hf⟩ := hf
        refine va_iald (a := (ad 9)) hx hb hK hR0 3 0 rfl rfl i_40 dX7_times_40 ?_
        refine lv_topi (fun v_41 e_41 => ?_)
        replace hf := bd_at e_41 hf
        clear e_41
        refine lv_istore (lv' := [(4, .int v_41), (3, .int v_33), (0, .ref (ad 0)), (1, .int x1), (2, .int x2), (5, .int x5_8)]) hx hb dX7_times_41 hl (by decide) rfl (fun ls hl => ?_)
        obtain ⟨v_43, e_43⟩ : ∃ y : Int32, y = x5_8 + 1 := ⟨_, rfl⟩
        replace hf := bd_at e_43 hf
        refine lv_iinc (v := v_43) (lv' := [(5, .int v_43), (4, .int v_41), (3, .int v_33), (0, .ref (ad 0)), (1, .int x1), (2, .int x2)]) hx hb dX7_times_43 hl (k := 5) rfl (by rw [e_43]; rfl) (by decide) rfl (fun ls hl => ?_)
        clear e_43
        refine lv_goto (tgt := 8) hx hb dX7_times_46 (by decide) ?_
        exact ih8 ls v_33 v_41 v_43 hf (lv_sub hl [3, 4, 5, 2, 1, 0] rfl)
  unfold FX7_times at hf
  refine lv_iconst (v := 1) hx hb dX7_times_0 (by decide) ?_
  refine lv_istore_n (lv' := [(3, .int 1), (0, .ref (ad 0)), (1, .int x1), (2, .int x2)]) hx hb dX7_times_1 rfl hl (by decide) rfl (fun ls hl => ?_)
  refine lv_iload_n hx hb dX7_times_2 rfl (lv_at hl 3 rfl) ?_
  refine lv_istore (lv' := [(4, .int x2), (3, .int 1), (0, .ref (ad 0)), (1, .int x1), (2, .int x2)]) hx hb dX7_times_3 hl (by decide) rfl (fun ls hl => ?_)
  refine lv_iconst (v := 0) hx hb dX7_times_5 (by decide) ?_
  refine lv_istore (lv' := [(5, .int 0), (4, .int x2), (3, .int 1), (0, .ref (ad 0)), (1, .int x1), (2, .int x2)]) hx hb dX7_times_6 hl (by decide) rfl (fun ls hl => ?_)
  exact L8 FU ls 1 x2 0 hf (lv_sub hl [3, 4, 5, 2, 1, 0] rfl)
def FX7_ring_J156  (k128 : Int32 → Int32 → Option (Int32 × (Int32) × (Int32) × (Nat → Int32) × (Nat → Int32) × (Nat → Int32) × (Nat → Int32) × (Nat → Int32) × (Nat → Int32))) (x1 : Int32) (x3 : Int32) (x6_128 : Int32) (x8_156 : Int32) (s0_156 : Int32) (s1_156 : Bool) (thr_128 : Int32) (sta_128 : Int32) (pri : Int32) (deg : Nat → Int32) (num : Nat → Int32) (goe_128 : Nat → Int32) (tai_128 : Nat → Int32) (per_128 : Nat → Int32) (lea_128 : Nat → Int32) (com_128 : Nat → Int32) (see_128 : Nat → Int32) : Option (Int32 × (Int32) × (Int32) × (Nat → Int32) × (Nat → Int32) × (Nat → Int32) × (Nat → Int32) × (Nat → Int32) × (Nat → Int32)) := (bd (s0_156 + (bi s1_156)) (fun v_157 => bd (x8_156 + 1) (fun v_159 => k128 v_157 v_159)))
def FX7_ring_L128   (x1 : Int32) (x3 : Int32) (x6_128 : Int32) (thr_128 : Int32) (sta_128 : Int32) (pri : Int32) (deg : Nat → Int32) (num : Nat → Int32) (goe_128 : Nat → Int32) (tai_128 : Nat → Int32) (per_128 : Nat → Int32) (lea_128 : Nat → Int32) (com_128 : Nat → Int32) (see_128 : Nat → Int32) : Nat → Int32 → Int32 → Option (Int32 × (Int32) × (Int32) × (Nat → Int32) × (Nat → Int32) × (Nat → Int32) × (Nat → Int32) × (Nat → Int32) × (Nat → Int32))
  | 0, _, _ => none
  | fuel + 1, x7_128, x8_128 => (if pri ≤ x8_128 then (if x3 = 0 then (gi x6_128 200 ((some ((per_128 (Int32.toNatClampNeg x6_128)), thr_128, sta_128, goe_128, tai_128, per_128, lea_128, com_128, see_128)))) else (if x3 = 1 then ((some (x6_128, thr_128, sta_128, goe_128, tai_128, per_128, lea_128, com_128, see_128))) else (if x3 = 2 then (ob (FX7_times pri deg num goe_128 per_128 x1 x6_128) (fun u_198 => (some (u_198, thr_128, sta_128, goe_128, tai_128, per_128, lea_128, com_128, see_128)))) else ((some (x7_128, thr_128, sta_128, goe_128, tai_128, per_128, lea_128, com_128, see_128)))))) else (gi x8_128 200 (if (lea_128 (Int32.toNatClampNeg x8_128)) = x6_128 then (FX7_ring_J156 (FX7_ring_L128 x1 x3 x6_128 thr_128 sta_128 pri deg num goe_128 tai_128 per_128 lea_128 com_128 see_128 fuel) x1 x3 x6_128 x8_128 x7_128 true thr_128 sta_128 pri deg num goe_128 tai_128 per_128 lea_128 com_128 see_128) else (FX7_ring_J156 (FX7_ring_L128 x1 x3 x6_128 thr_128 sta_128 pri deg num goe_128 tai_128 per_128 lea_128 com_128 see_128 fuel) x1 x3 x6_128 x8_128 x7_128 false thr_128 sta_128 pri deg num goe_128 tai_128 per_128 lea_128 com_128 see_128))))
def FX7_ring_J106  (k57 : Int32 → Int32 → Int32 → Option (Int32 × (Int32) × (Int32) × (Nat → Int32) × (Nat → Int32) × (Nat → Int32) × (Nat → Int32) × (Nat → Int32) × (Nat → Int32))) (x1 : Int32) (x2 : Int32) (x3 : Int32) (x5_106 : Int32) (x6_106 : Int32) (x7_106 : Int32) (thr_57 : Int32) (sta_57 : Int32) (pri : Int32) (deg : Nat → Int32) (num : Nat → Int32) (goe_57 : Nat → Int32) (tai_57 : Nat → Int32) (per_57 : Nat → Int32) (lea_57 : Nat → Int32) (com_57 : Nat → Int32) (see_57 : Nat → Int32) : Option (Int32 × (Int32) × (Int32) × (Nat → Int32) × (Nat → Int32) × (Nat → Int32) × (Nat → Int32) × (Nat → Int32) × (Nat → Int32)) := (bd (x7_106 + 1) (fun v_106 => k57 x5_106 x6_106 v_106))
def FX7_ring_J101  (k57 : Int32 → Int32 → Int32 → Option (Int32 × (Int32) × (Int32) × (Nat → Int32) × (Nat → Int32) × (Nat → Int32) × (Nat → Int32) × (Nat → Int32) × (Nat → Int32))) (x1 : Int32) (x2 : Int32) (x3 : Int32) (x5_101 : Int32) (x7_101 : Int32) (s0_101 : Int32) (thr_57 : Int32) (sta_57 : Int32) (pri : Int32) (deg : Nat → Int32) (num : Nat → Int32) (goe_57 : Nat → Int32) (tai_57 : Nat → Int32) (per_57 : Nat → Int32) (lea_57 : Nat → Int32) (com_57 : Nat → Int32) (see_57 : Nat → Int32) : Option (Int32 × (Int32) × (Int32) × (Nat → Int32) × (Nat → Int32) × (Nat → Int32) × (Nat → Int32) × (Nat → Int32) × (Nat → Int32)) := (bd (x5_101 + 1) (fun v_103 => FX7_ring_J106 k57 x1 x2 x3 v_103 s0_101 x7_101 thr_57 sta_57 pri deg num goe_57 tai_57 per_57 lea_57 com_57 see_57))
def FX7_ring_L57   (x1 : Int32) (x2 : Int32) (x3 : Int32) (thr_57 : Int32) (sta_57 : Int32) (pri : Int32) (deg : Nat → Int32) (num : Nat → Int32) (goe_57 : Nat → Int32) (tai_57 : Nat → Int32) (per_57 : Nat → Int32) (lea_57 : Nat → Int32) (com_57 : Nat → Int32) (see_57 : Nat → Int32) : Nat → Int32 → Int32 → Int32 → Option (Int32 × (Int32) × (Int32) × (Nat → Int32) × (Nat → Int32) × (Nat → Int32) × (Nat → Int32) × (Nat → Int32) × (Nat → Int32))
  | 0, _, _, _ => none
  | fuel + 1, x5_57, x6_57, x7_57 => (if pri ≤ x7_57 then (if x6_57 = (-1000000) then (some ((-1000000), thr_57, sta_57, goe_57, tai_57, per_57, lea_57, com_57, see_57)) else (FX7_ring_L128 x1 x3 x6_57 thr_57 sta_57 pri deg num goe_57 tai_57 per_57 lea_57 com_57 see_57 FU 0 0)) else (gi x7_57 200 (if (tai_57 (Int32.toNatClampNeg x7_57)) = 0 then (gi x7_57 200 (if (lea_57 (Int32.toNatClampNeg x7_57)) = x7_57 then (if x5_57 = x2 then (FX7_ring_J101 (FX7_ring_L57 x1 x2 x3 thr_57 sta_57 pri deg num goe_57 tai_57 per_57 lea_57 com_57 see_57 fuel) x1 x2 x3 x5_57 x7_57 x7_57 thr_57 sta_57 pri deg num goe_57 tai_57 per_57 lea_57 com_57 see_57) else (FX7_ring_J101 (FX7_ring_L57 x1 x2 x3 thr_57 sta_57 pri deg num goe_57 tai_57 per_57 lea_57 com_57 see_57 fuel) x1 x2 x3 x5_57 x7_57 x6_57 thr_57 sta_57 pri deg num goe_57 tai_57 per_57 lea_57 com_57 see_57)) else FX7_ring_J106 (FX7_ring_L57 x1 x2 x3 thr_57 sta_57 pri deg num goe_57 tai_57 per_57 lea_57 com_57 see_57 fuel) x1 x2 x3 x5_57 x6_57 x7_57 thr_57 sta_57 pri deg num goe_57 tai_57 per_57 lea_57 com_57 see_57)) else FX7_ring_J106 (FX7_ring_L57 x1 x2 x3 thr_57 sta_57 pri deg num goe_57 tai_57 per_57 lea_57 com_57 see_57 fuel) x1 x2 x3 x5_57 x6_57 x7_57 thr_57 sta_57 pri deg num goe_57 tai_57 per_57 lea_57 com_57 see_57)))
def FX7_ring  (sta : Int32) (pri : Int32) (deg : Nat → Int32) (num : Nat → Int32) (goe : Nat → Int32) (tai : Nat → Int32) (per : Nat → Int32) (lea : Nat → Int32) (com : Nat → Int32) (see : Nat → Int32) (x1 : Int32) (x2 : Int32) (x3 : Int32) : Option (Int32 × (Int32) × (Int32) × (Nat → Int32) × (Nat → Int32) × (Nat → Int32) × (Nat → Int32) × (Nat → Int32) × (Nat → Int32)) := (ob (FX7_isPlace x1) (fun u_6 => if (bi u_6) = 0 then (some ((-1000001), 0, sta, goe, tai, per, lea, com, see)) else (ob (FX7_in (Int32.toInt64 x3) 0 3) (fun u_18 => if (bi u_18) = 0 then (some ((-1000001), 0, sta, goe, tai, per, lea, com, see)) else (ob (FX7_look deg x1) (fun u_29 => bd u_29.1 (fun v_32 => if 0 ≤ v_32 then (ob (FX7_findWays pri deg num goe tai per lea com see x1) (fun u_44 => FX7_ring_L57 x1 x2 x3 0 u_29.2 pri deg num u_44.1 u_44.2.1 u_44.2.2.1 u_44.2.2.2.1 u_44.2.2.2.2.1 u_44.2.2.2.2.2 FU 0 (-1000000) 0)) else (some (v_32, 0, u_29.2, goe, tai, per, lea, com, see)))))))))
abbrev RMX7_ring : Room := { frames := 2, cells := 0, slots := 0, locals := 50 }
set_option maxHeartbeats 4000000 in
set_option maxRecDepth 100000 in
theorem KX7_ring (l : Launch) (D : va_G) (cy : Nat → ClassId) (ad : Nat → Nat) (thr : Int32) (sta : Int32) (pri : Int32) (tcd : Int32) (frt : Int32) (frp : Int32) (deg : Nat → Int32) (num : Nat → Int32) (goe : Nat → Int32) (tai : Nat → Int32) (per : Nat → Int32) (lea : Nat → Int32) (com : Nat → Int32) (see : Nat → Int32) (x1 : Int32) (x2 : Int32) (x3 : Int32) (sz : Nat) {out : Int32 × (Int32) × (Int32) × (Nat → Int32) × (Nat → Int32) × (Nat → Int32) × (Nat → Int32) × (Nat → Int32) × (Nat → Int32)} (hf : FX7_ring sta pri deg num goe tai per lea com see x1 x2 x3 = some out) : Met l yX7_ring wsX7_ring RMX7_ring (PW D cy [.ref (ad 0), .int x1, .int x2, .int x3] sz ((wX7_0_4_5_9_10_11_12_13_14 cy ad thr sta pri tcd frt frp deg num goe tai per lea com see)) []) (QW D (some (.int out.1)) ((wX7_0_4_5_9_10_11_12_13_14 cy ad out.2.1 out.2.2.1 pri tcd frt frp deg num out.2.2.2.1 out.2.2.2.2.1 out.2.2.2.2.2.1 out.2.2.2.2.2.2.1 out.2.2.2.2.2.2.2.1 out.2.2.2.2.2.2.2.2)) (va_A ((wX7_0_4_5_9_10_11_12_13_14 cy ad thr sta pri tcd frt frp deg num goe tai per lea com see)) sz)) 0 0 (va_A ((wX7_0_4_5_9_10_11_12_13_14 cy ad thr sta pri tcd frt frp deg num goe tai per lea com see)) sz) := by
  refine Met.ofW (cc := cX7_ring) (maxL := 9) (ret := (some .int)) (by decide +kernel) rfl ?_
  intro p e s m args below meth c s₁ B hml hv
  obtain ⟨hav, hsz, hP, hR0, hK, hN, hD0, hsep⟩ := hv
  have hx := B.exec
  have hb := B.bytes
  have hr := B.returns
  have hts := atoms_spec (ws := wsX7_ring) B.pre
  have hown : s.vm.findClass RX7 = some m.cls := findClass_of_methodNamed B.named
  have hlocks := B.notSynchronized
  subst hsz
  have hin_X7 : ∀ w ∈ u_ws RX7 TX7 28, w ∈ wsX7_ring := by decide +kernel
  have hw_0 := hts (.constant RX7 108 (-1000001)) (by decide +kernel)
  have hw_1 := hts (.constantLong RX7 86 (3)) (by decide +kernel)
  have hw_2 := hts (.constant RX7 176 (-1000000)) (by decide +kernel)
  have hw_3 := hts (.fieldLink RX7 98 "ReturnPointsModel" "prime" "I") (by decide +kernel)
  have hw_4 := hts (.fieldLink RX7 49 "ReturnPointsModel" "period" "[I") (by decide +kernel)
  have hw_5 := hts (.fieldLink RX7 52 "ReturnPointsModel" "least" "[I") (by decide +kernel)
  have hw_6 := hts (.fieldLink RX7 46 "ReturnPointsModel" "tail" "[I") (by decide +kernel)
  have hw_7 := hts (.fieldLink RX7 1 "ReturnPointsModel" "thrown" "I") (by decide +kernel)
  have hD := hD0.self (sz := s.heap.size)
  have hnA := roA hsep hR0
  generalize hAe : va_A ((wX7_0_4_5_9_10_11_12_13_14 cy ad thr sta pri tcd frt frp deg num goe tai per lea com see)) s.heap.size = A at hD hnA ⊢
  have hA : ∀ q : Nat, s.heap.size ≤ q → A q := fun q h => by rw [← hAe]; exact Or.inr h
  have hS : va_S A s.heap s.heap [] := va_S.rf
  obtain ⟨ls, hfr, hl⟩ := ent_ok (m := m) (n := 9) (l' := [(0, .ref (ad 0)), (1, .int x1), (2, .int x2), (3, .int x3)]) [.ref (ad 0), .int x1, .int x2, .int x3] hav (Nat.le_of_ble_eq_true rfl) rfl
  rw [hfr]
  generalize hQe : MQ below (QW D (some (.int out.1)) ((wX7_0_4_5_9_10_11_12_13_14 cy ad out.2.1 out.2.2.1 pri tcd frt frp deg num out.2.2.2.1 out.2.2.2.2.1 out.2.2.2.2.2.1 out.2.2.2.2.2.2.1 out.2.2.2.2.2.2.2.1 out.2.2.2.2.2.2.2.2)) A) args s 0 0 A = QQ
  change W p l e RMX7_ring s m args below meth c s.heap [] 0 0 QQ (F0 m 0 ls [])
  have hP : va_P D vwCl ((wX7_0_4_5_9_10_11_12_13_14 cy ad thr sta pri tcd frt frp deg num goe tai per lea com see)) s.heap := hP
  have hD : va_D A ((wX7_0_4_5_9_10_11_12_13_14 cy ad thr sta pri tcd frt frp deg num goe tai per lea com see)) := hD
  suffices h00 : ∀ (H : Heap) (locs : List Loc), va_P D vwCl ((wX7_0_4_5_9_10_11_12_13_14 cy ad thr sta pri tcd frt frp deg num goe tai per lea com see)) H → va_S A s.heap H locs → W p l e RMX7_ring s m args below meth c H locs 0 0 QQ (F0 m 0 ls []) from h00 _ _ hP hS
  clear hP hS
  intro H locs hP hS
  have L128 : ∀ (x6_128 : Int32) (thr_128 : Int32) (sta_128 : Int32) (goe_128 : Nat → Int32) (tai_128 : Nat → Int32) (per_128 : Nat → Int32) (lea_128 : Nat → Int32) (com_128 : Nat → Int32) (see_128 : Nat → Int32) (n128 : Nat) (H : Heap) (locs : List Loc) (ls : Array Slot) (x7_128 : Int32) (x8_128 : Int32), FX7_ring_L128 x1 x3 x6_128 thr_128 sta_128 pri deg num goe_128 tai_128 per_128 lea_128 com_128 see_128 n128 x7_128 x8_128 = some out → va_P D vwCl ((wX7_0_4_5_9_10_11_12_13_14 cy ad thr_128 sta_128 pri tcd frt frp deg num goe_128 tai_128 per_128 lea_128 com_128 see_128)) H → va_D A ((wX7_0_4_5_9_10_11_12_13_14 cy ad thr_128 sta_128 pri tcd frt frp deg num goe_128 tai_128 per_128 lea_128 com_128 see_128)) → va_S A s.heap H locs → lv_has ls 9 [(0, .ref (ad 0)), (1, .int x1), (3, .int x3), (6, .int x6_128), (7, .int x7_128), (8, .int x8_128)] → W p l e RMX7_ring s m args below meth c H locs 0 0 QQ (F0 m 128 ls []) := by
    intro x6_128 thr_128 sta_128 goe_128 tai_128 per_128 lea_128 com_128 see_128 n128
    induction n128 with
    | zero => intro H locs ls x7_128 x8_128 hf; simp [FX7_ring_L128] at hf
    | succ n128 ih128 =>
      intro H locs ls x7_128 x8_128 hf hP hD hS hl
      rw [FX7_ring_L128] at hf
      have J156 : ∀ (H : Heap) (locs : List Loc) (ls : Array Slot) (x8_156 : Int32) (s0_156 : Int32) (s1_156 : Bool), FX7_ring_J156 (FX7_ring_L128 x1 x3 x6_128 thr_128 sta_128 pri deg num goe_128 tai_128 per_128 lea_128 com_128 see_128 n128) x1 x3 x6_128 x8_156 s0_156 s1_156 thr_128 sta_128 pri deg num goe_128 tai_128 per_128 lea_128 com_128 see_128 = some out → va_P D vwCl ((wX7_0_4_5_9_10_11_12_13_14 cy ad thr_128 sta_128 pri tcd frt frp deg num goe_128 tai_128 per_128 lea_128 com_128 see_128)) H → va_D A ((wX7_0_4_5_9_10_11_12_13_14 cy ad thr_128 sta_128 pri tcd frt frp deg num goe_128 tai_128 per_128 lea_128 com_128 see_128)) → va_S A s.heap H locs → lv_has ls 9 [(0, .ref (ad 0)), (1, .int x1), (3, .int x3), (6, .int x6_128), (8, .int x8_156)] → W p l e RMX7_ring s m args below meth c H locs 0 0 QQ (F0 m 156 ls [.int (bi s1_156), .int s0_156]) := by
        intro H locs ls x8_156 s0_156 s1_156 hf hP hD hS hl
        unfold FX7_ring_J156 at hf
        refine lv_iadd hx hb dX7_ring_156 ?_
        refine lv_topi (fun v_157 e_157 => ?_)
        replace hf := bd_at e_157 hf
        clear e_157
        refine lv_istore (lv' := [(7, .int v_157), (0, .ref (ad 0)), (1, .int x1), (3, .int x3), (6, .int x6_128), (8, .int x8_156)]) hx hb dX7_ring_157 hl (by decide) rfl (fun ls hl => ?_)
        obtain ⟨v_159, e_159⟩ : ∃ y : Int32, y = x8_156 + 1 := ⟨_, rfl⟩
        replace hf := bd_at e_159 hf
        refine lv_iinc (v := v_159) (lv' := [(8, .int v_159), (7, .int v_157), (0, .ref (ad 0)), (1, .int x1), (3, .int x3), (6, .int x6_128)]) hx hb dX7_ring_159 hl (k := 5) rfl (by rw [e_159]; rfl) (by decide) rfl (fun ls hl => ?_)
        clear e_159
        refine lv_goto (tgt := 128) hx hb dX7_ring_162 (by decide) ?_
        exact ih128 H locs ls v_157 v_159 hf hP hD hS (lv_sub hl [2, 3, 4, 5, 1, 0] rfl)
      refine lv_iload hx hb dX7_ring_128 (lv_at hl 5 rfl) ?_
      refine lv_aload_n hx hb dX7_ring_130 rfl (lv_at hl 0 rfl) ?_
      refine va_get (a := (ad 0)) (ci := 7) (v := .int pri) (C := RX7) (T := TX7) (N := 28) hx hb hts hin_X7 hown hK hP 0 rfl rfl 2 (by decide) hw_3 (fun _ h => h) rfl dX7_ring_131 ?_
      refine lv_icmp_ge (tgt := 165) hx hb dX7_ring_134 (by decide) (fun c_134 => ?_) (fun c_134 => ?_)
      · replace hf := it_p c_134 hf
        refine lv_iload_n hx hb dX7_ring_165 rfl (lv_at hl 2 rfl) ?_
        refine lv_if_ne (tgt := 179) hx hb dX7_ring_166 (by decide) (fun c_166 => ?_) (fun c_166 => ?_)
        · replace hf := it_n c_166 hf
          refine lv_iload_n hx hb dX7_ring_179 rfl (lv_at hl 2 rfl) ?_
          refine lv_iconst (v := 1) hx hb dX7_ring_180 (by decide) ?_
          refine lv_icmp_ne (tgt := 189) hx hb dX7_ring_181 (by decide) (fun c_181 => ?_) (fun c_181 => ?_)
          · replace hf := it_n c_181 hf
            refine lv_iload_n hx hb dX7_ring_189 rfl (lv_at hl 2 rfl) ?_
            refine lv_iconst (v := 2) hx hb dX7_ring_190 (by decide) ?_
            refine lv_icmp_ne (tgt := 204) hx hb dX7_ring_191 (by decide) (fun c_191 => ?_) (fun c_191 => ?_)
            · replace hf := it_n c_191 hf
              refine lv_iload hx hb dX7_ring_204 (lv_at hl 4 rfl) ?_
              obtain rfl := Option.some.inj hf
              rw [← hQe]
              exact W.iret (v := x7_128) hx hb hr (fun t ht hW => ⟨rfl, by rw [ht]; exact hP, hS.F ht⟩) hS.2.2 dX7_ring_206
            · replace hf := it_p c_191 hf
              refine lv_aload_n hx hb dX7_ring_194 rfl (lv_at hl 0 rfl) ?_
              refine lv_iload_n hx hb dX7_ring_195 rfl (lv_at hl 1 rfl) ?_
              refine lv_iload hx hb dX7_ring_196 (lv_at hl 3 rfl) ?_
              replace hf := ob_e hf
              obtain ⟨u_198, hu_198, hf⟩ := hf
              refine ivR (As := [.int x1, .int x6_128]) (rest := []) (st1 := [.int u_198]) ⟨hx, hb, hml, hown, hts⟩ hK hN (KX7_times l D cy ad thr_128 sta_128 pri tcd frt frp deg num goe_128 per_128 x1 x6_128 H.size hu_198) (cwV 2 hts gX7_ring_X7_times rfl rfl rfl (by decide +kernel) ⟨Nat.le_of_ble_eq_true rfl, Nat.le_of_ble_eq_true rfl⟩) (va_recv hK hP (ci := 7) (q0 := 0) rfl rfl) (P_pl (wc := (wX7_0_4_5_9_11 cy ad thr_128 sta_128 pri tcd frt frp deg num goe_128 per_128)) (is := [0, 1, 2, 3, 5]) hP rfl) rfl hl.1 rfl (Nat.le_of_ble_eq_true rfl) rfl dX7_ring_198 ⟨Nat.zero_le _, Nat.zero_le _⟩ ?_
              refine lv_goto (tgt := 206) hx hb dX7_ring_201 (by decide) ?_
              obtain rfl := Option.some.inj hf
              rw [← hQe]
              exact W.iret (v := u_198) hx hb hr (fun t ht hW => ⟨rfl, by rw [ht]; exact hP, hS.F ht⟩) hS.2.2 dX7_ring_206
          · replace hf := it_p c_181 hf
            refine lv_iload hx hb dX7_ring_184 (lv_at hl 3 rfl) ?_
            refine lv_goto (tgt := 206) hx hb dX7_ring_186 (by decide) ?_
            obtain rfl := Option.some.inj hf
            rw [← hQe]
            exact W.iret (v := x6_128) hx hb hr (fun t ht hW => ⟨rfl, by rw [ht]; exact hP, hS.F ht⟩) hS.2.2 dX7_ring_206
        · replace hf := it_p c_166 hf
          refine lv_aload_n hx hb dX7_ring_169 rfl (lv_at hl 0 rfl) ?_
          refine va_get (a := (ad 0)) (ci := 7) (v := .ref (ad 11)) (C := RX7) (T := TX7) (N := 28) hx hb hts hin_X7 hown hK hP 0 rfl rfl 13 (by decide) hw_4 (fun _ h => h) rfl dX7_ring_170 ?_
          refine lv_iload hx hb dX7_ring_173 (lv_at hl 3 rfl) ?_
          replace hf := gi_e hf
          obtain ⟨i_175, hf⟩ := hf
          refine va_iald (a := (ad 11)) hx hb hK hP 5 0 rfl rfl i_175 dX7_ring_175 ?_
          refine lv_goto (tgt := 206) hx hb dX7_ring_176 (by decide) ?_
          obtain rfl := Option.some.inj hf
          rw [← hQe]
          exact W.iret (v := (per_128 (Int32.toNatClampNeg x6_128))) hx hb hr (fun t ht hW => ⟨rfl, by rw [ht]; exact hP, hS.F ht⟩) hS.2.2 dX7_ring_206
      · replace hf := it_n c_134 hf
        refine lv_iload hx hb dX7_ring_137 (lv_at hl 4 rfl) ?_
        refine lv_aload_n hx hb dX7_ring_139 rfl (lv_at hl 0 rfl) ?_
        refine va_get (a := (ad 0)) (ci := 7) (v := .ref (ad 12)) (C := RX7) (T := TX7) (N := 28) hx hb hts hin_X7 hown hK hP 0 rfl rfl 14 (by decide) hw_5 (fun _ h => h) rfl dX7_ring_140 ?_
        refine lv_iload hx hb dX7_ring_143 (lv_at hl 5 rfl) ?_
        replace hf := gi_e hf
        obtain ⟨i_145, hf⟩ := hf
        refine va_iald (a := (ad 12)) hx hb hK hP 6 0 rfl rfl i_145 dX7_ring_145 ?_
        refine lv_iload hx hb dX7_ring_146 (lv_at hl 3 rfl) ?_
        refine lv_icmp_ne (tgt := 155) hx hb dX7_ring_148 (by decide) (fun c_148 => ?_) (fun c_148 => ?_)
        · replace hf := it_n c_148 hf
          refine lv_iconst (v := 0) hx hb dX7_ring_155 (by decide) ?_
          exact J156 H locs ls x8_128 x7_128 false hf hP hD hS (lv_sub hl [0, 1, 2, 3, 5] rfl)
        · replace hf := it_p c_148 hf
          refine lv_iconst (v := 1) hx hb dX7_ring_151 (by decide) ?_
          refine lv_goto (tgt := 156) hx hb dX7_ring_152 (by decide) ?_
          exact J156 H locs ls x8_128 x7_128 true hf hP hD hS (lv_sub hl [0, 1, 2, 3, 5] rfl)
  have L57 : ∀ (thr_57 : Int32) (sta_57 : Int32) (goe_57 : Nat → Int32) (tai_57 : Nat → Int32) (per_57 : Nat → Int32) (lea_57 : Nat → Int32) (com_57 : Nat → Int32) (see_57 : Nat → Int32) (n57 : Nat) (H : Heap) (locs : List Loc) (ls : Array Slot) (x5_57 : Int32) (x6_57 : Int32) (x7_57 : Int32), FX7_ring_L57 x1 x2 x3 thr_57 sta_57 pri deg num goe_57 tai_57 per_57 lea_57 com_57 see_57 n57 x5_57 x6_57 x7_57 = some out → va_P D vwCl ((wX7_0_4_5_9_10_11_12_13_14 cy ad thr_57 sta_57 pri tcd frt frp deg num goe_57 tai_57 per_57 lea_57 com_57 see_57)) H → va_D A ((wX7_0_4_5_9_10_11_12_13_14 cy ad thr_57 sta_57 pri tcd frt frp deg num goe_57 tai_57 per_57 lea_57 com_57 see_57)) → va_S A s.heap H locs → lv_has ls 9 [(0, .ref (ad 0)), (1, .int x1), (2, .int x2), (3, .int x3), (5, .int x5_57), (6, .int x6_57), (7, .int x7_57)] → W p l e RMX7_ring s m args below meth c H locs 0 0 QQ (F0 m 57 ls []) := by
    intro thr_57 sta_57 goe_57 tai_57 per_57 lea_57 com_57 see_57 n57
    induction n57 with
    | zero => intro H locs ls x5_57 x6_57 x7_57 hf; simp [FX7_ring_L57] at hf
    | succ n57 ih57 =>
      intro H locs ls x5_57 x6_57 x7_57 hf hP hD hS hl
      rw [FX7_ring_L57] at hf
      have J106 : ∀ (H : Heap) (locs : List Loc) (ls : Array Slot) (x5_106 : Int32) (x6_106 : Int32) (x7_106 : Int32), FX7_ring_J106 (FX7_ring_L57 x1 x2 x3 thr_57 sta_57 pri deg num goe_57 tai_57 per_57 lea_57 com_57 see_57 n57) x1 x2 x3 x5_106 x6_106 x7_106 thr_57 sta_57 pri deg num goe_57 tai_57 per_57 lea_57 com_57 see_57 = some out → va_P D vwCl ((wX7_0_4_5_9_10_11_12_13_14 cy ad thr_57 sta_57 pri tcd frt frp deg num goe_57 tai_57 per_57 lea_57 com_57 see_57)) H → va_D A ((wX7_0_4_5_9_10_11_12_13_14 cy ad thr_57 sta_57 pri tcd frt frp deg num goe_57 tai_57 per_57 lea_57 com_57 see_57)) → va_S A s.heap H locs → lv_has ls 9 [(0, .ref (ad 0)), (1, .int x1), (2, .int x2), (3, .int x3), (5, .int x5_106), (6, .int x6_106), (7, .int x7_106)] → W p l e RMX7_ring s m args below meth c H locs 0 0 QQ (F0 m 106 ls []) := by
        intro H locs ls x5_106 x6_106 x7_106 hf hP hD hS hl
        unfold FX7_ring_J106 at hf
        obtain ⟨v_106, e_106⟩ : ∃ y : Int32, y = x7_106 + 1 := ⟨_, rfl⟩
        replace hf := bd_at e_106 hf
        refine lv_iinc (v := v_106) (lv' := [(7, .int v_106), (0, .ref (ad 0)), (1, .int x1), (2, .int x2), (3, .int x3), (5, .int x5_106), (6, .int x6_106)]) hx hb dX7_ring_106 hl (k := 6) rfl (by rw [e_106]; rfl) (by decide) rfl (fun ls hl => ?_)
        clear e_106
        refine lv_goto (tgt := 57) hx hb dX7_ring_109 (by decide) ?_
        exact ih57 H locs ls x5_106 x6_106 v_106 hf hP hD hS (lv_sub hl [1, 2, 3, 4, 5, 6, 0] rfl)
      have J101 : ∀ (H : Heap) (locs : List Loc) (ls : Array Slot) (x5_101 : Int32) (x7_101 : Int32) (s0_101 : Int32), FX7_ring_J101 (FX7_ring_L57 x1 x2 x3 thr_57 sta_57 pri deg num goe_57 tai_57 per_57 lea_57 com_57 see_57 n57) x1 x2 x3 x5_101 x7_101 s0_101 thr_57 sta_57 pri deg num goe_57 tai_57 per_57 lea_57 com_57 see_57 = some out → va_P D vwCl ((wX7_0_4_5_9_10_11_12_13_14 cy ad thr_57 sta_57 pri tcd frt frp deg num goe_57 tai_57 per_57 lea_57 com_57 see_57)) H → va_D A ((wX7_0_4_5_9_10_11_12_13_14 cy ad thr_57 sta_57 pri tcd frt frp deg num goe_57 tai_57 per_57 lea_57 com_57 see_57)) → va_S A s.heap H locs → lv_has ls 9 [(0, .ref (ad 0)), (1, .int x1), (2, .int x2), (3, .int x3), (5, .int x5_101), (7, .int x7_101)] → W p l e RMX7_ring s m args below meth c H locs 0 0 QQ (F0 m 101 ls [.int s0_101]) := by
        intro H locs ls x5_101 x7_101 s0_101 hf hP hD hS hl
        unfold FX7_ring_J101 at hf
        refine lv_istore (lv' := [(6, .int s0_101), (0, .ref (ad 0)), (1, .int x1), (2, .int x2), (3, .int x3), (5, .int x5_101), (7, .int x7_101)]) hx hb dX7_ring_101 hl (by decide) rfl (fun ls hl => ?_)
        obtain ⟨v_103, e_103⟩ : ∃ y : Int32, y = x5_101 + 1 := ⟨_, rfl⟩
        replace hf := bd_at e_103 hf
        refine lv_iinc (v := v_103) (lv' := [(5, .int v_103), (6, .int s0_101), (0, .ref (ad 0)), (1, .int x1), (2, .int x2), (3, .int x3), (7, .int x7_101)]) hx hb dX7_ring_103 hl (k := 5) rfl (by rw [e_103]; rfl) (by decide) rfl (fun ls hl => ?_)
        clear e_103
        exact J106 H locs ls v_103 s0_101 x7_101 hf hP hD hS (lv_sub hl [2, 3, 4, 5, 0, 1, 6] rfl)
      refine lv_iload hx hb dX7_ring_57 (lv_at hl 6 rfl) ?_
      refine lv_aload_n hx hb dX7_ring_59 rfl (lv_at hl 0 rfl) ?_
      refine va_get (a := (ad 0)) (ci := 7) (v := .int pri) (C := RX7) (T := TX7) (N := 28) hx hb hts hin_X7 hown hK hP 0 rfl rfl 2 (by decide) hw_3 (fun _ h => h) rfl dX7_ring_60 ?_
      refine lv_icmp_ge (tgt := 112) hx hb dX7_ring_63 (by decide) (fun c_63 => ?_) (fun c_63 => ?_)
      · replace hf := it_p c_63 hf
        refine lv_iload hx hb dX7_ring_112 (lv_at hl 5 rfl) ?_
        refine lv_ldc (own := RX7) (v := (-1000000)) hx hb hown hw_2 dX7_ring_114 ?_
        refine lv_icmp_ne (tgt := 122) hx hb dX7_ring_116 (by decide) (fun c_116 => ?_) (fun c_116 => ?_)
        · replace hf := it_n c_116 hf
          refine lv_iconst (v := 0) hx hb dX7_ring_122 (by decide) ?_
          refine lv_istore (lv' := [(7, .int 0), (0, .ref (ad 0)), (1, .int x1), (2, .int x2), (3, .int x3), (5, .int x5_57), (6, .int x6_57)]) hx hb dX7_ring_123 hl (by decide) rfl (fun ls hl => ?_)
          refine lv_iconst (v := 0) hx hb dX7_ring_125 (by decide) ?_
          refine lv_istore (lv' := [(8, .int 0), (7, .int 0), (0, .ref (ad 0)), (1, .int x1), (2, .int x2), (3, .int x3), (5, .int x5_57), (6, .int x6_57)]) hx hb dX7_ring_126 hl (by decide) rfl (fun ls hl => ?_)
          exact L128 x6_57 thr_57 sta_57 goe_57 tai_57 per_57 lea_57 com_57 see_57 FU H locs ls 0 0 hf hP hD hS (lv_sub hl [2, 3, 5, 7, 1, 0] rfl)
        · replace hf := it_p c_116 hf
          refine lv_ldc (own := RX7) (v := (-1000000)) hx hb hown hw_2 dX7_ring_119 ?_
          obtain rfl := Option.some.inj hf
          rw [← hQe]
          exact W.iret (v := (-1000000)) hx hb hr (fun t ht hW => ⟨rfl, by rw [ht]; exact hP, hS.F ht⟩) hS.2.2 dX7_ring_121
      · replace hf := it_n c_63 hf
        refine lv_aload_n hx hb dX7_ring_66 rfl (lv_at hl 0 rfl) ?_
        refine va_get (a := (ad 0)) (ci := 7) (v := .ref (ad 10)) (C := RX7) (T := TX7) (N := 28) hx hb hts hin_X7 hown hK hP 0 rfl rfl 12 (by decide) hw_6 (fun _ h => h) rfl dX7_ring_67 ?_
        refine lv_iload hx hb dX7_ring_70 (lv_at hl 6 rfl) ?_
        replace hf := gi_e hf
        obtain ⟨i_72, hf⟩ := hf
        refine va_iald (a := (ad 10)) hx hb hK hP 4 0 rfl rfl i_72 dX7_ring_72 ?_
        refine lv_if_ne (tgt := 106) hx hb dX7_ring_73 (by decide) (fun c_73 => ?_) (fun c_73 => ?_)
        · replace hf := it_n c_73 hf
          exact J106 H locs ls x5_57 x6_57 x7_57 hf hP hD hS (lv_sub hl [0, 1, 2, 3, 4, 5, 6] rfl)
        · replace hf := it_p c_73 hf
          refine lv_aload_n hx hb dX7_ring_76 rfl (lv_at hl 0 rfl) ?_
          refine va_get (a := (ad 0)) (ci := 7) (v := .ref (ad 12)) (C := RX7) (T := TX7) (N := 28) hx hb hts hin_X7 hown hK hP 0 rfl rfl 14 (by decide) hw_5 (fun _ h => h) rfl dX7_ring_77 ?_
          refine lv_iload hx hb dX7_ring_80 (lv_at hl 6 rfl) ?_
          replace hf := gi_e hf
          obtain ⟨i_82, hf⟩ := hf
          refine va_iald (a := (ad 12)) hx hb hK hP 6 0 rfl rfl i_82 dX7_ring_82 ?_
          refine lv_iload hx hb dX7_ring_83 (lv_at hl 6 rfl) ?_
          refine lv_icmp_ne (tgt := 106) hx hb dX7_ring_85 (by decide) (fun c_85 => ?_) (fun c_85 => ?_)
          · replace hf := it_n c_85 hf
            exact J106 H locs ls x5_57 x6_57 x7_57 hf hP hD hS (lv_sub hl [0, 1, 2, 3, 4, 5, 6] rfl)
          · replace hf := it_p c_85 hf
            refine lv_iload hx hb dX7_ring_88 (lv_at hl 4 rfl) ?_
            refine lv_iload_n hx hb dX7_ring_90 rfl (lv_at hl 2 rfl) ?_
            refine lv_icmp_ne (tgt := 99) hx hb dX7_ring_91 (by decide) (fun c_91 => ?_) (fun c_91 => ?_)
            · replace hf := it_n c_91 hf
              refine lv_iload hx hb dX7_ring_99 (lv_at hl 5 rfl) ?_
              exact J101 H locs ls x5_57 x7_57 x6_57 hf hP hD hS (lv_sub hl [0, 1, 2, 3, 4, 6] rfl)
            · replace hf := it_p c_91 hf
              refine lv_iload hx hb dX7_ring_94 (lv_at hl 6 rfl) ?_
              refine lv_goto (tgt := 101) hx hb dX7_ring_96 (by decide) ?_
              exact J101 H locs ls x5_57 x7_57 x7_57 hf hP hD hS (lv_sub hl [0, 1, 2, 3, 4, 6] rfl)
  unfold FX7_ring at hf
  refine lv_aload_n hx hb dX7_ring_0 rfl (lv_at hl 0 rfl) ?_
  refine lv_iconst (v := 0) hx hb dX7_ring_1 (by decide) ?_
  refine va_put (a := (ad 0)) (ci := 7) (v := .int 0) (ty := .int) (C := RX7) (T := TX7) (N := 28) hx hb hts hin_X7 tyX7 tyX7_ok nmX7 hown hK hP hD hS 0 rfl rfl 0 (by decide) hw_7 (fun _ h => h) rfl (by decide +kernel) rfl rfl (Nat.le_of_ble_eq_true rfl) dX7_ring_2 (fun H locs hP hD hS => ?_)
  have hP : va_P D vwCl ((wX7_0_4_5_9_10_11_12_13_14 cy ad 0 sta pri tcd frt frp deg num goe tai per lea com see)) H := hP
  have hD : va_D A ((wX7_0_4_5_9_10_11_12_13_14 cy ad 0 sta pri tcd frt frp deg num goe tai per lea com see)) := hD
  refine lv_iload_n hx hb dX7_ring_5 rfl (lv_at hl 1 rfl) ?_
  replace hf := ob_e hf
  obtain ⟨u_6, hu_6, hf⟩ := hf
  refine isR (As := [.int x1]) (rest := []) (st1 := [.int (bi u_6)]) ⟨hx, hb, hml, hown, hts⟩ hK hN (KX7_isPlace l D cy x1 H.size hu_6) (va_cwS 1 hts gX7_ring_X7_isPlace rfl rfl rfl (by decide +kernel) ⟨Nat.le_of_ble_eq_true rfl, Nat.le_of_ble_eq_true rfl⟩) P_nil rfl hl.1 rfl (Nat.le_of_ble_eq_true rfl) rfl dX7_ring_6 ⟨Nat.zero_le _, Nat.zero_le _⟩ ?_
  refine lv_if_eq (tgt := 24) hx hb dX7_ring_9 (by decide) (fun c_9 => ?_) (fun c_9 => ?_)
  · replace hf := it_p c_9 hf
    refine lv_ldc (own := RX7) (v := (-1000001)) hx hb hown hw_0 dX7_ring_24 ?_
    obtain rfl := Option.some.inj hf
    rw [← hQe]
    exact W.iret (v := (-1000001)) hx hb hr (fun t ht hW => ⟨rfl, by rw [ht]; exact hP, hS.F ht⟩) hS.2.2 dX7_ring_26
  · replace hf := it_n c_9 hf
    refine lv_iload_n hx hb dX7_ring_12 rfl (lv_at hl 3 rfl) ?_
    refine lv_i2l hx hb dX7_ring_13 rfl ?_
    refine lv_lconst (v := 0) hx hb dX7_ring_14 (by decide) ?_
    refine lv_ldc2 (own := RX7) (v := 3) hx hb hown hw_1 dX7_ring_15 ?_
    replace hf := ob_e hf
    obtain ⟨u_18, hu_18, hf⟩ := hf
    refine isR (As := [.long (Int32.toInt64 x3), .long 0, .long 3]) (rest := []) (st1 := [.int (bi u_18)]) ⟨hx, hb, hml, hown, hts⟩ hK hN (KX7_in l D cy (Int32.toInt64 x3) 0 3 H.size hu_18) (va_cwS 3 hts gX7_ring_X7_in rfl rfl rfl (by decide +kernel) ⟨Nat.le_of_ble_eq_true rfl, Nat.le_of_ble_eq_true rfl⟩) P_nil rfl hl.1 rfl (Nat.le_of_ble_eq_true rfl) rfl dX7_ring_18 ⟨Nat.zero_le _, Nat.zero_le _⟩ ?_
    refine lv_if_ne (tgt := 27) hx hb dX7_ring_21 (by decide) (fun c_21 => ?_) (fun c_21 => ?_)
    · replace hf := it_n c_21 hf
      refine lv_aload_n hx hb dX7_ring_27 rfl (lv_at hl 0 rfl) ?_
      refine lv_iload_n hx hb dX7_ring_28 rfl (lv_at hl 1 rfl) ?_
      replace hf := ob_e hf
      obtain ⟨u_29, hu_29, hf⟩ := hf
      refine ivW (As := [.int x1]) (rest := []) (st1 := [.int u_29.1]) (is := [0, 1]) (w1 := (wX7_0_4 cy ad 0 u_29.2 pri tcd frt frp deg)) ⟨hx, hb, hml, hown, hts⟩ hK hN (KX7_look l D cy ad 0 sta pri tcd frt frp deg x1 H.size hu_29) (cwV 1 hts gX7_ring_X7_look rfl rfl rfl (by decide +kernel) ⟨Nat.le_of_ble_eq_true rfl, Nat.le_of_ble_eq_true rfl⟩) (va_recv hK hP (ci := 7) (q0 := 0) rfl rfl) hP hD hS hA P_nil (sepW_nil _) (by decide) rfl rfl rfl hl.1 rfl (Nat.le_of_ble_eq_true rfl) rfl dX7_ring_29 ⟨Nat.zero_le _, Nat.zero_le _⟩ (fun H locs hP hD hS => ?_)
      have hP : va_P D vwCl ((wX7_0_4_5_9_10_11_12_13_14 cy ad 0 u_29.2 pri tcd frt frp deg num goe tai per lea com see)) H := hP
      have hD : va_D A ((wX7_0_4_5_9_10_11_12_13_14 cy ad 0 u_29.2 pri tcd frt frp deg num goe tai per lea com see)) := hD
      refine lv_topi (fun v_32 e_32 => ?_)
      replace hf := bd_at e_32 hf
      clear e_32
      refine lv_istore (lv' := [(4, .int v_32), (0, .ref (ad 0)), (1, .int x1), (2, .int x2), (3, .int x3)]) hx hb dX7_ring_32 hl (by decide) rfl (fun ls hl => ?_)
      refine lv_iload hx hb dX7_ring_34 (lv_at hl 0 rfl) ?_
      refine lv_if_ge (tgt := 42) hx hb dX7_ring_36 (by decide) (fun c_36 => ?_) (fun c_36 => ?_)
      · replace hf := it_p c_36 hf
        refine lv_aload_n hx hb dX7_ring_42 rfl (lv_at hl 1 rfl) ?_
        refine lv_iload_n hx hb dX7_ring_43 rfl (lv_at hl 2 rfl) ?_
        replace hf := ob_e hf
        obtain ⟨u_44, hu_44, hf⟩ := hf
        refine ivW (As := [.int x1]) (rest := []) (st1 := []) (is := [0, 1, 2, 3, 4, 5, 6, 7, 8]) (w1 := (wX7_0_4_5_9_10_11_12_13_14 cy ad 0 u_29.2 pri tcd frt frp deg num u_44.1 u_44.2.1 u_44.2.2.1 u_44.2.2.2.1 u_44.2.2.2.2.1 u_44.2.2.2.2.2)) ⟨hx, hb, hml, hown, hts⟩ hK hN (KX7_findWays l D cy ad 0 u_29.2 pri tcd frt frp deg num goe tai per lea com see x1 H.size hu_44) (cwV 1 hts gX7_ring_X7_findWays rfl rfl rfl (by decide +kernel) ⟨Nat.le_of_ble_eq_true rfl, Nat.le_of_ble_eq_true rfl⟩) (va_recv hK hP (ci := 7) (q0 := 0) rfl rfl) hP hD hS hA P_nil (sepW_nil _) (by decide) rfl rfl rfl hl.1 rfl (Nat.le_of_ble_eq_true rfl) rfl dX7_ring_44 ⟨Nat.zero_le _, Nat.zero_le _⟩ (fun H locs hP hD hS => ?_)
        have hP : va_P D vwCl ((wX7_0_4_5_9_10_11_12_13_14 cy ad 0 u_29.2 pri tcd frt frp deg num u_44.1 u_44.2.1 u_44.2.2.1 u_44.2.2.2.1 u_44.2.2.2.2.1 u_44.2.2.2.2.2)) H := hP
        have hD : va_D A ((wX7_0_4_5_9_10_11_12_13_14 cy ad 0 u_29.2 pri tcd frt frp deg num u_44.1 u_44.2.1 u_44.2.2.1 u_44.2.2.2.1 u_44.2.2.2.2.1 u_44.2.2.2.2.2)) := hD
        refine lv_iconst (v := 0) hx hb dX7_ring_47 (by decide) ?_
        refine lv_istore (lv' := [(5, .int 0), (4, .int v_32), (0, .ref (ad 0)), (1, .int x1), (2, .int x2), (3, .int x3)]) hx hb dX7_ring_48 hl (by decide) rfl (fun ls hl => ?_)
        refine lv_ldc (own := RX7) (v := (-1000000)) hx hb hown hw_2 dX7_ring_50 ?_
        refine lv_istore (lv' := [(6, .int (-1000000)), (5, .int 0), (4, .int v_32), (0, .ref (ad 0)), (1, .int x1), (2, .int x2), (3, .int x3)]) hx hb dX7_ring_52 hl (by decide) rfl (fun ls hl => ?_)
        refine lv_iconst (v := 0) hx hb dX7_ring_54 (by decide) ?_
        refine lv_istore (lv' := [(7, .int 0), (6, .int (-1000000)), (5, .int 0), (4, .int v_32), (0, .ref (ad 0)), (1, .int x1), (2, .int x2), (3, .int x3)]) hx hb dX7_ring_55 hl (by decide) rfl (fun ls hl => ?_)
        exact L57 0 u_29.2 u_44.1 u_44.2.1 u_44.2.2.1 u_44.2.2.2.1 u_44.2.2.2.2.1 u_44.2.2.2.2.2 FU H locs ls 0 (-1000000) 0 hf hP hD hS (lv_sub hl [4, 5, 6, 7, 2, 1, 0] rfl)
      · replace hf := it_n c_36 hf
        refine lv_iload hx hb dX7_ring_39 (lv_at hl 0 rfl) ?_
        obtain rfl := Option.some.inj hf
        rw [← hQe]
        exact W.iret (v := v_32) hx hb hr (fun t ht hW => ⟨rfl, by rw [ht]; exact hP, hS.F ht⟩) hS.2.2 dX7_ring_41
    · replace hf := it_p c_21 hf
      refine lv_ldc (own := RX7) (v := (-1000001)) hx hb hown hw_0 dX7_ring_24 ?_
      obtain rfl := Option.some.inj hf
      rw [← hQe]
      exact W.iret (v := (-1000001)) hx hb hr (fun t ht hW => ⟨rfl, by rw [ht]; exact hP, hS.F ht⟩) hS.2.2 dX7_ring_26
