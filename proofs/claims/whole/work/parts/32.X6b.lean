
def FX6_copy_J43   (svv_43 : Nat → Nat → Int64) : Option (Int32 × (Int32) × (Nat → Nat → Int64)) := (ob (FX6_found 1) (fun u_45 => some (u_45.1, u_45.2, svv_43)))
def FX6_copy_J91   (svv_91 : Nat → Nat → Int64) : Option (Int32 × (Int32) × (Nat → Nat → Int64)) := (ob (FX6_found 2) (fun u_93 => some (u_93.1, u_93.2, svv_91)))
def FX6_copy  (xs : Int32) (sh : Nat → Option Nat) (SL : List Nat) (sln : Nat → Int32) (sia : Nat → Nat) (snn : Nat → Nat) (svv : Nat → Nat → Int64) (x1 : Int32) (x2 : Int32) (x3 : Int32) (x4 : Int32) (x5 : Int32) : Option (Int32 × (Int32) × (Nat → Nat → Int64)) := (ob (FX6_isSheet x1) (fun u_1 => if (bi u_1) = 0 then (some ((-1000001), xs, svv)) else (ob (FX6_isSheet x3) (fun u_8 => if (bi u_8) = 0 then (some ((-1000001), xs, svv)) else (gi x1 8 (bd (sh (Int32.toNatClampNeg x1)) (fun o_22 => gi x3 8 (bd (sh (Int32.toNatClampNeg x3)) (fun o_30 => oq o_22 (FX6_copy_J43 svv) (fun a_35 => gd (a_35 ∈ SL) ((oq o_30 (FX6_copy_J43 svv) (fun a_40 => gd (a_40 ∈ SL) ((if (sln a_35) = (sln a_40) then (ob (FX5_holds (snn a_35) x2 x5) (fun u_73 => if (bi u_73) = 0 then FX6_copy_J91 svv else (ob (FX5_holds (snn a_40) x4 x5) (fun u_85 => if (bi u_85) = 0 then FX6_copy_J91 svv else (gd (¬ (x2 : Int32) < 0 ∧ ¬ (x4 : Int32) < 0 ∧ ¬ (x5 : Int32) < 0 ∧ (Int32.toNatClampNeg x2) + (Int32.toNatClampNeg x5) ≤ (snn a_35) ∧ (Int32.toNatClampNeg x4) + (Int32.toNatClampNeg x5) ≤ (snn a_40)) (ob (FX6_fine x5) (fun u_118 => some (u_118.1, u_118.2, (va_up svv a_40 (va_cpy (svv a_35) (svv a_40) (Int32.toNatClampNeg x2) (Int32.toNatClampNeg x4) (Int32.toNatClampNeg x5))))))))))) else (ob (FX6_found 5) (fun u_64 => some (u_64.1, u_64.2, svv))))))))))))))))))
abbrev RMX6_copy : Room := { frames := 1, cells := 0, slots := 0, locals := 40 }
set_option maxHeartbeats 4000000 in
set_option maxRecDepth 100000 in
theorem KX6_copy (l : Launch) (D : va_G) (cy : Nat → ClassId) (ad : Nat → Nat) (xp : Int32) (xt : Int32) (xs : Int32) (sh : Nat → Option Nat) (SL : List Nat) (sln : Nat → Int32) (sia : Nat → Nat) (snn : Nat → Nat) (svv : Nat → Nat → Int64) (x1 : Int32) (x2 : Int32) (x3 : Int32) (x4 : Int32) (x5 : Int32) (sz : Nat) {out : Int32 × (Int32) × (Nat → Nat → Int64)} (hf : FX6_copy xs sh SL sln sia snn svv x1 x2 x3 x4 x5 = some out) : Met l yX6_copy wsX6_copy RMX6_copy (PW D cy [.ref (ad 0), .int x1, .int x2, .int x3, .int x4, .int x5] sz ((wX6_0_1 cy ad xp xt xs sh) ++ (sgS cy SL sln sia snn svv)) []) (QW D (some (.int out.1)) ((wX6_0_1 cy ad xp xt out.2.1 sh) ++ (sgS cy SL sln sia snn out.2.2)) (va_A ((wX6_0_1 cy ad xp xt xs sh) ++ (sgS cy SL sln sia snn svv)) sz)) 0 0 (va_A ((wX6_0_1 cy ad xp xt xs sh) ++ (sgS cy SL sln sia snn svv)) sz) := by
  refine Met.ofW (cc := cX6_copy) (maxL := 8) (ret := (some .int)) (by decide +kernel) rfl ?_
  intro p e s m args below meth c s₁ B hml hv
  obtain ⟨hav, hsz, hP, hR0, hK, hN, hD0, hsep⟩ := hv
  have hx := B.exec
  have hb := B.bytes
  have hr := B.returns
  have hts := atoms_spec (ws := wsX6_copy) B.pre
  have hown : s.vm.findClass RX6 = some m.cls := findClass_of_methodNamed B.named
  have hlocks := B.notSynchronized
  subst hsz
  have hin_X5 : ∀ w ∈ u_ws RX5 TX5 2, w ∈ wsX6_copy := by decide +kernel
  have hin_X6 : ∀ w ∈ u_ws RX6 TX6 10, w ∈ wsX6_copy := by decide +kernel
  have hw_0 := hts (.constant RX6 68 (-1000001)) (by decide +kernel)
  have hw_1 := hts (.fieldLink RX6 19 "ReturnPoints" "sheets" "[LReturnPoints$Sheet;") (by decide +kernel)
  have hw_2 := hts (.fieldLink RX6 93 "ReturnPoints$Sheet" "lane" "I") (by decide +kernel)
  have hw_3 := hts (.fieldLink RX6 85 "ReturnPoints$Sheet" "items" "[J") (by decide +kernel)
  have hw_4 := hts (.methodLink RX6 96 arraycopyName) (by decide +kernel)
  have hw_5 := hts (.native arraycopyName) (by decide +kernel)
  have hw_6 := hts (.static arraycopyName) (by decide +kernel)
  have hw_7 := hts (.initialized "java/lang/System") (by decide +kernel)
  have hD := hD0.self (sz := s.heap.size)
  have hnA := roA hsep hR0
  generalize hAe : va_A ((wX6_0_1 cy ad xp xt xs sh) ++ (sgS cy SL sln sia snn svv)) s.heap.size = A at hD hnA ⊢
  have hA : ∀ q : Nat, s.heap.size ≤ q → A q := fun q h => by rw [← hAe]; exact Or.inr h
  have hS : va_S A s.heap s.heap [] := va_S.rf
  obtain ⟨ls, hfr, hl⟩ := ent_ok (m := m) (n := 8) (l' := [(0, .ref (ad 0)), (1, .int x1), (2, .int x2), (3, .int x3), (4, .int x4), (5, .int x5)]) [.ref (ad 0), .int x1, .int x2, .int x3, .int x4, .int x5] hav (Nat.le_of_ble_eq_true rfl) rfl
  rw [hfr]
  generalize hQe : MQ below (QW D (some (.int out.1)) ((wX6_0_1 cy ad xp xt out.2.1 sh) ++ (sgS cy SL sln sia snn out.2.2)) A) args s 0 0 A = QQ
  change W p l e RMX6_copy s m args below meth c s.heap [] 0 0 QQ (F0 m 0 ls [])
  have hP : va_P D vwCl ((wX6_0_1 cy ad xp xt xs sh) ++ (sgS cy SL sln sia snn svv)) s.heap := hP
  have hD : va_D A ((wX6_0_1 cy ad xp xt xs sh) ++ (sgS cy SL sln sia snn svv)) := hD
  suffices h00 : ∀ (H : Heap) (locs : List Loc), va_P D vwCl ((wX6_0_1 cy ad xp xt xs sh) ++ (sgS cy SL sln sia snn svv)) H → va_S A s.heap H locs → W p l e RMX6_copy s m args below meth c H locs 0 0 QQ (F0 m 0 ls []) from h00 _ _ hP hS
  clear hP hS
  intro H locs hP hS
  have J43 : ∀ (H : Heap) (locs : List Loc) (ls : Array Slot) (xs_43 : Int32) (svv_43 : Nat → Nat → Int64), FX6_copy_J43 svv_43 = some out → va_P D vwCl ((wX6_0_1 cy ad xp xt xs_43 sh) ++ (sgS cy SL sln sia snn svv_43)) H → va_D A ((wX6_0_1 cy ad xp xt xs_43 sh) ++ (sgS cy SL sln sia snn svv_43)) → va_S A s.heap H locs → lv_has ls 8 [(0, .ref (ad 0))] → W p l e RMX6_copy s m args below meth c H locs 0 0 QQ (F0 m 43 ls []) := by
    intro H locs ls xs_43 svv_43 hf hP hD hS hl
    unfold FX6_copy_J43 at hf
    refine lv_aload_n hx hb dX6_copy_43 rfl (lv_at hl 0 rfl) ?_
    refine lv_iconst (v := 1) hx hb dX6_copy_44 (by decide) ?_
    replace hf := ob_e hf
    obtain ⟨u_45, hu_45, hf⟩ := hf
    refine ivW (As := [.int 1]) (rest := []) (st1 := [.int u_45.1]) (is := [0]) (w1 := (wX6_0 cy ad xp xt u_45.2)) ⟨hx, hb, hml, hown, hts⟩ hK hN (KX6_found l D cy ad xp xt xs_43 1 H.size hu_45) (cwV 1 hts gX6_copy_X6_found rfl rfl rfl (by decide +kernel) ⟨Nat.le_of_ble_eq_true rfl, Nat.le_of_ble_eq_true rfl⟩) (va_recv hK hP (ci := 6) (q0 := 0) rfl rfl) hP hD hS hA P_nil (sepW_nil _) (by decide) rfl rfl rfl hl.1 rfl (Nat.le_of_ble_eq_true rfl) rfl dX6_copy_45 ⟨Nat.zero_le _, Nat.zero_le _⟩ (fun H locs hP hD hS => ?_)
    have hP : va_P D vwCl ((wX6_0_1 cy ad xp xt u_45.2 sh) ++ (sgS cy SL sln sia snn svv_43)) H := hP
    have hD : va_D A ((wX6_0_1 cy ad xp xt u_45.2 sh) ++ (sgS cy SL sln sia snn svv_43)) := hD
    obtain rfl := Option.some.inj hf
    rw [← hQe]
    exact W.iret (v := u_45.1) hx hb hr (fun t ht hW => ⟨rfl, by rw [ht]; exact hP, hS.F ht⟩) hS.2.2 dX6_copy_48
  have J91 : ∀ (H : Heap) (locs : List Loc) (ls : Array Slot) (xs_91 : Int32) (svv_91 : Nat → Nat → Int64), FX6_copy_J91 svv_91 = some out → va_P D vwCl ((wX6_0_1 cy ad xp xt xs_91 sh) ++ (sgS cy SL sln sia snn svv_91)) H → va_D A ((wX6_0_1 cy ad xp xt xs_91 sh) ++ (sgS cy SL sln sia snn svv_91)) → va_S A s.heap H locs → lv_has ls 8 [(0, .ref (ad 0))] → W p l e RMX6_copy s m args below meth c H locs 0 0 QQ (F0 m 91 ls []) := by
    intro H locs ls xs_91 svv_91 hf hP hD hS hl
    unfold FX6_copy_J91 at hf
    refine lv_aload_n hx hb dX6_copy_91 rfl (lv_at hl 0 rfl) ?_
    refine lv_iconst (v := 2) hx hb dX6_copy_92 (by decide) ?_
    replace hf := ob_e hf
    obtain ⟨u_93, hu_93, hf⟩ := hf
    refine ivW (As := [.int 2]) (rest := []) (st1 := [.int u_93.1]) (is := [0]) (w1 := (wX6_0 cy ad xp xt u_93.2)) ⟨hx, hb, hml, hown, hts⟩ hK hN (KX6_found l D cy ad xp xt xs_91 2 H.size hu_93) (cwV 1 hts gX6_copy_X6_found rfl rfl rfl (by decide +kernel) ⟨Nat.le_of_ble_eq_true rfl, Nat.le_of_ble_eq_true rfl⟩) (va_recv hK hP (ci := 6) (q0 := 0) rfl rfl) hP hD hS hA P_nil (sepW_nil _) (by decide) rfl rfl rfl hl.1 rfl (Nat.le_of_ble_eq_true rfl) rfl dX6_copy_93 ⟨Nat.zero_le _, Nat.zero_le _⟩ (fun H locs hP hD hS => ?_)
    have hP : va_P D vwCl ((wX6_0_1 cy ad xp xt u_93.2 sh) ++ (sgS cy SL sln sia snn svv_91)) H := hP
    have hD : va_D A ((wX6_0_1 cy ad xp xt u_93.2 sh) ++ (sgS cy SL sln sia snn svv_91)) := hD
    obtain rfl := Option.some.inj hf
    rw [← hQe]
    exact W.iret (v := u_93.1) hx hb hr (fun t ht hW => ⟨rfl, by rw [ht]; exact hP, hS.F ht⟩) hS.2.2 dX6_copy_96
  unfold FX6_copy at hf
  refine lv_iload_n hx hb dX6_copy_0 rfl (lv_at hl 1 rfl) ?_
  replace hf := ob_e hf
  obtain ⟨u_1, hu_1, hf⟩ := hf
  refine isR (As := [.int x1]) (rest := []) (st1 := [.int (bi u_1)]) ⟨hx, hb, hml, hown, hts⟩ hK hN (KX6_isSheet l D cy x1 H.size hu_1) (va_cwS 1 hts gX6_copy_X6_isSheet rfl rfl rfl (by decide +kernel) ⟨Nat.le_of_ble_eq_true rfl, Nat.le_of_ble_eq_true rfl⟩) P_nil rfl hl.1 rfl (Nat.le_of_ble_eq_true rfl) rfl dX6_copy_1 ⟨Nat.zero_le _, Nat.zero_le _⟩ ?_
  refine lv_if_eq (tgt := 14) hx hb dX6_copy_4 (by decide) (fun c_4 => ?_) (fun c_4 => ?_)
  · replace hf := it_p c_4 hf
    refine lv_ldc (own := RX6) (v := (-1000001)) hx hb hown hw_0 dX6_copy_14 ?_
    obtain rfl := Option.some.inj hf
    rw [← hQe]
    exact W.iret (v := (-1000001)) hx hb hr (fun t ht hW => ⟨rfl, by rw [ht]; exact hP, hS.F ht⟩) hS.2.2 dX6_copy_16
  · replace hf := it_n c_4 hf
    refine lv_iload_n hx hb dX6_copy_7 rfl (lv_at hl 3 rfl) ?_
    replace hf := ob_e hf
    obtain ⟨u_8, hu_8, hf⟩ := hf
    refine isR (As := [.int x3]) (rest := []) (st1 := [.int (bi u_8)]) ⟨hx, hb, hml, hown, hts⟩ hK hN (KX6_isSheet l D cy x3 H.size hu_8) (va_cwS 1 hts gX6_copy_X6_isSheet rfl rfl rfl (by decide +kernel) ⟨Nat.le_of_ble_eq_true rfl, Nat.le_of_ble_eq_true rfl⟩) P_nil rfl hl.1 rfl (Nat.le_of_ble_eq_true rfl) rfl dX6_copy_8 ⟨Nat.zero_le _, Nat.zero_le _⟩ ?_
    refine lv_if_ne (tgt := 17) hx hb dX6_copy_11 (by decide) (fun c_11 => ?_) (fun c_11 => ?_)
    · replace hf := it_n c_11 hf
      refine lv_aload_n hx hb dX6_copy_17 rfl (lv_at hl 0 rfl) ?_
      refine va_get (a := (ad 0)) (ci := 6) (v := .ref (ad 1)) (C := RX6) (T := TX6) (N := 10) hx hb hts hin_X6 hown hK hP 0 rfl rfl 1 (by decide) hw_1 (fun _ h => h) rfl dX6_copy_18 ?_
      refine lv_iload_n hx hb dX6_copy_21 rfl (lv_at hl 1 rfl) ?_
      replace hf := gi_e hf
      obtain ⟨i_22, hf⟩ := hf
      refine va_aldq (a := (ad 1)) hx hb hK hP 1 3 rfl rfl i_22 dX6_copy_22 ?_
      refine top_q (fun o_22 e_22 => ?_)
      replace hf := bd_at e_22 hf
      clear e_22
      refine lv_Qastore (lv' := [(6, va_rf o_22), (0, .ref (ad 0)), (1, .int x1), (2, .int x2), (3, .int x3), (4, .int x4), (5, .int x5)]) hx hb dX6_copy_23 hl (by decide) rfl (fun ls hl => ?_)
      refine lv_aload_n hx hb dX6_copy_25 rfl (lv_at hl 1 rfl) ?_
      refine va_get (a := (ad 0)) (ci := 6) (v := .ref (ad 1)) (C := RX6) (T := TX6) (N := 10) hx hb hts hin_X6 hown hK hP 0 rfl rfl 1 (by decide) hw_1 (fun _ h => h) rfl dX6_copy_26 ?_
      refine lv_iload_n hx hb dX6_copy_29 rfl (lv_at hl 4 rfl) ?_
      replace hf := gi_e hf
      obtain ⟨i_30, hf⟩ := hf
      refine va_aldq (a := (ad 1)) hx hb hK hP 1 3 rfl rfl i_30 dX6_copy_30 ?_
      refine top_q (fun o_30 e_30 => ?_)
      replace hf := bd_at e_30 hf
      clear e_30
      refine lv_Qastore (lv' := [(7, va_rf o_30), (6, va_rf o_22), (0, .ref (ad 0)), (1, .int x1), (2, .int x2), (3, .int x3), (4, .int x4), (5, .int x5)]) hx hb dX6_copy_31 hl (by decide) (by cases o_22 <;> rfl) (fun ls hl => ?_)
      refine lv_Qaload hx hb dX6_copy_33 (lv_at hl 1 rfl) ?_
      replace hf := oq_e hf
      rcases hf with ⟨rfl, hf⟩ | ⟨a_35, rfl, hf⟩
      · have hl : lv_has ls 8 [(7, va_rf o_30), (6, .null), (0, .ref (ad 0)), (1, .int x1), (2, .int x2), (3, .int x3), (4, .int x4), (5, .int x5)] := hl
        refine lv_ifnullN (tgt := 43) hx hb dX6_copy_35 (by decide) ?_
        exact J43 H locs ls xs svv hf hP hD hS (lv_sub hl [2] rfl)
      · replace hf := gd_e hf
        obtain ⟨m_a_35, hf⟩ := hf
        have hl : lv_has ls 8 [(7, va_rf o_30), (6, .ref a_35), (0, .ref (ad 0)), (1, .int x1), (2, .int x2), (3, .int x3), (4, .int x4), (5, .int x5)] := hl
        refine lv_ifnull hx hb dX6_copy_35 ?_
        refine lv_Qaload hx hb dX6_copy_38 (lv_at hl 0 rfl) ?_
        replace hf := oq_e hf
        rcases hf with ⟨rfl, hf⟩ | ⟨a_40, rfl, hf⟩
        · have hl : lv_has ls 8 [(7, .null), (6, .ref a_35), (0, .ref (ad 0)), (1, .int x1), (2, .int x2), (3, .int x3), (4, .int x4), (5, .int x5)] := hl
          refine lv_ifnonnullN hx hb dX6_copy_40 ?_
          exact J43 H locs ls xs svv hf hP hD hS (lv_sub hl [2] rfl)
        · replace hf := gd_e hf
          obtain ⟨m_a_40, hf⟩ := hf
          have hl : lv_has ls 8 [(7, .ref a_40), (6, .ref a_35), (0, .ref (ad 0)), (1, .int x1), (2, .int x2), (3, .int x3), (4, .int x4), (5, .int x5)] := hl
          refine lv_ifnonnull (tgt := 49) hx hb dX6_copy_40 (by decide) ?_
          refine lv_aload hx hb dX6_copy_49 (lv_at hl 1 rfl) ?_
          have hQ_a_35 : va_P D vwCl (wX5_0_1 cy (adP sia a_35) (snn a_35) (sln a_35) (svv a_35)) H := P_two (P_right hP) (sgS_1 m_a_35) (sgS_2 m_a_35)
          refine va_get (a := a_35) (ci := 5) (v := .int (sln a_35)) (C := RX5) (T := TX5) (N := 2) hx hb hts hin_X5 hown hK hQ_a_35 0 rfl rfl 0 (by decide) hw_2 (fun _ h => h) rfl dX6_copy_51 ?_
          refine lv_aload hx hb dX6_copy_54 (lv_at hl 0 rfl) ?_
          have hQ_a_40 : va_P D vwCl (wX5_0_1 cy (adP sia a_40) (snn a_40) (sln a_40) (svv a_40)) H := P_two (P_right hP) (sgS_1 m_a_40) (sgS_2 m_a_40)
          refine va_get (a := a_40) (ci := 5) (v := .int (sln a_40)) (C := RX5) (T := TX5) (N := 2) hx hb hts hin_X5 hown hK hQ_a_40 0 rfl rfl 0 (by decide) hw_2 (fun _ h => h) rfl dX6_copy_56 ?_
          refine lv_icmp_eq (tgt := 68) hx hb dX6_copy_59 (by decide) (fun c_59 => ?_) (fun c_59 => ?_)
          · replace hf := it_p c_59 hf
            refine lv_aload hx hb dX6_copy_68 (lv_at hl 1 rfl) ?_
            refine lv_iload_n hx hb dX6_copy_70 rfl (lv_at hl 4 rfl) ?_
            refine lv_iload hx hb dX6_copy_71 (lv_at hl 7 rfl) ?_
            replace hf := ob_e hf
            obtain ⟨u_73, hu_73, hf⟩ := hf
            have hQ_a_35 : va_P D vwCl (wX5_0_1 cy (adP sia a_35) (snn a_35) (sln a_35) (svv a_35)) H := P_two (P_right hP) (sgS_1 m_a_35) (sgS_2 m_a_35)
            have hQ_a_35 : va_P D vwCl (wX5_0_1 cy (adP sia a_35) (snn a_35) (sln a_35) (svv a_35)) H := P_two (P_right hP) (sgS_1 m_a_35) (sgS_2 m_a_35)
            refine ivR (As := [.int x2, .int x5]) (rest := []) (st1 := [.int (bi u_73)]) ⟨hx, hb, hml, hown, hts⟩ hK hN (KX5_holds l D cy (adP sia a_35) (snn a_35) (sln a_35) (svv a_35) x2 x5 H.size hu_73) (cwV 2 hts gX6_copy_X5_holds rfl rfl rfl (by decide +kernel) ⟨Nat.le_of_ble_eq_true rfl, Nat.le_of_ble_eq_true rfl⟩) (va_recv hK hQ_a_35 (ci := 5) (q0 := 0) rfl rfl) (P_pl (wc := (wX5_0_1 cy (adP sia a_35) (snn a_35) (sln a_35) (svv a_35))) (is := [0, 1]) hQ_a_35 rfl) rfl hl.1 rfl (Nat.le_of_ble_eq_true rfl) rfl dX6_copy_73 ⟨Nat.zero_le _, Nat.zero_le _⟩ ?_
            refine lv_if_eq (tgt := 91) hx hb dX6_copy_76 (by decide) (fun c_76 => ?_) (fun c_76 => ?_)
            · replace hf := it_p c_76 hf
              exact J91 H locs ls xs svv hf hP hD hS (lv_sub hl [2] rfl)
            · replace hf := it_n c_76 hf
              refine lv_aload hx hb dX6_copy_79 (lv_at hl 0 rfl) ?_
              refine lv_iload hx hb dX6_copy_81 (lv_at hl 6 rfl) ?_
              refine lv_iload hx hb dX6_copy_83 (lv_at hl 7 rfl) ?_
              replace hf := ob_e hf
              obtain ⟨u_85, hu_85, hf⟩ := hf
              have hQ_a_40 : va_P D vwCl (wX5_0_1 cy (adP sia a_40) (snn a_40) (sln a_40) (svv a_40)) H := P_two (P_right hP) (sgS_1 m_a_40) (sgS_2 m_a_40)
              have hQ_a_40 : va_P D vwCl (wX5_0_1 cy (adP sia a_40) (snn a_40) (sln a_40) (svv a_40)) H := P_two (P_right hP) (sgS_1 m_a_40) (sgS_2 m_a_40)
              refine ivR (As := [.int x4, .int x5]) (rest := []) (st1 := [.int (bi u_85)]) ⟨hx, hb, hml, hown, hts⟩ hK hN (KX5_holds l D cy (adP sia a_40) (snn a_40) (sln a_40) (svv a_40) x4 x5 H.size hu_85) (cwV 2 hts gX6_copy_X5_holds rfl rfl rfl (by decide +kernel) ⟨Nat.le_of_ble_eq_true rfl, Nat.le_of_ble_eq_true rfl⟩) (va_recv hK hQ_a_40 (ci := 5) (q0 := 0) rfl rfl) (P_pl (wc := (wX5_0_1 cy (adP sia a_40) (snn a_40) (sln a_40) (svv a_40))) (is := [0, 1]) hQ_a_40 rfl) rfl hl.1 rfl (Nat.le_of_ble_eq_true rfl) rfl dX6_copy_85 ⟨Nat.zero_le _, Nat.zero_le _⟩ ?_
              refine lv_if_ne (tgt := 97) hx hb dX6_copy_88 (by decide) (fun c_88 => ?_) (fun c_88 => ?_)
              · replace hf := it_n c_88 hf
                refine lv_aload hx hb dX6_copy_97 (lv_at hl 1 rfl) ?_
                have hQ_a_35 : va_P D vwCl (wX5_0_1 cy (adP sia a_35) (snn a_35) (sln a_35) (svv a_35)) H := P_two (P_right hP) (sgS_1 m_a_35) (sgS_2 m_a_35)
                refine va_get (a := a_35) (ci := 5) (v := .ref (sia a_35)) (C := RX5) (T := TX5) (N := 2) hx hb hts hin_X5 hown hK hQ_a_35 0 rfl rfl 1 (by decide) hw_3 (fun _ h => h) rfl dX6_copy_99 ?_
                refine lv_iload_n hx hb dX6_copy_102 rfl (lv_at hl 4 rfl) ?_
                refine lv_aload hx hb dX6_copy_103 (lv_at hl 0 rfl) ?_
                have hQ_a_40 : va_P D vwCl (wX5_0_1 cy (adP sia a_40) (snn a_40) (sln a_40) (svv a_40)) H := P_two (P_right hP) (sgS_1 m_a_40) (sgS_2 m_a_40)
                refine va_get (a := a_40) (ci := 5) (v := .ref (sia a_40)) (C := RX5) (T := TX5) (N := 2) hx hb hts hin_X5 hown hK hQ_a_40 0 rfl rfl 1 (by decide) hw_3 (fun _ h => h) rfl dX6_copy_105 ?_
                refine lv_iload hx hb dX6_copy_108 (lv_at hl 6 rfl) ?_
                refine lv_iload hx hb dX6_copy_110 (lv_at hl 7 rfl) ?_
                replace hf := gd_e hf
                obtain ⟨cp_112, hf⟩ := hf
                obtain ⟨ka_112, hka_112⟩ := sgS_at (cy := cy) (X := (wX6_0_1 cy ad xp xt xs sh)) (sln := sln) (sia := sia) (snn := snn) (svv := svv) m_a_35
                obtain ⟨kb_112, hkb_112⟩ := sgS_at (cy := cy) (X := (wX6_0_1 cy ad xp xt xs sh)) (sln := sln) (sia := sia) (snn := snn) (svv := svv) m_a_40
                refine va_copyl (a0 := (sia a_35)) (a := (sia a_40)) hx hb (hml.trans hl.1.symm) hown hw_4 hw_5 hw_6 hw_7 hK hP hD hS ka_112 kb_112 1 1 hka_112 hkb_112 rfl rfl rfl cp_112.1 cp_112.2.1 cp_112.2.2.1 cp_112.2.2.2.1 cp_112.2.2.2.2 (fun i _ => rfl) (Nat.le_of_ble_eq_true rfl) (Nat.le_of_ble_eq_true rfl) dX6_copy_112 (fun H locs hP hD hS => ?_)
                have hset := sgS_set (X := (wX6_0_1 cy ad xp xt xs sh)) (f := (va_cpy (svv a_35) (svv a_40) (Int32.toNatClampNeg x2) (Int32.toNatClampNeg x4) (Int32.toNatClampNeg x5))) hD hkb_112 m_a_40
                have hP : va_P D vwCl ((wX6_0_1 cy ad xp xt xs sh) ++ (sgS cy SL sln sia snn (va_up svv a_40 (va_cpy (svv a_35) (svv a_40) (Int32.toNatClampNeg x2) (Int32.toNatClampNeg x4) (Int32.toNatClampNeg x5))))) H := P_cast hset hP
                have hD : va_D A ((wX6_0_1 cy ad xp xt xs sh) ++ (sgS cy SL sln sia snn (va_up svv a_40 (va_cpy (svv a_35) (svv a_40) (Int32.toNatClampNeg x2) (Int32.toNatClampNeg x4) (Int32.toNatClampNeg x5))))) := D_cast hset hD
                clear hset
                refine lv_aload_n hx hb dX6_copy_115 rfl (lv_at hl 2 rfl) ?_
                refine lv_iload hx hb dX6_copy_116 (lv_at hl 7 rfl) ?_
                replace hf := ob_e hf
                obtain ⟨u_118, hu_118, hf⟩ := hf
                refine ivW (As := [.int x5]) (rest := []) (st1 := [.int u_118.1]) (is := [0]) (w1 := (wX6_0 cy ad xp xt u_118.2)) ⟨hx, hb, hml, hown, hts⟩ hK hN (KX6_fine l D cy ad xp xt xs x5 H.size hu_118) (cwV 1 hts gX6_copy_X6_fine rfl rfl rfl (by decide +kernel) ⟨Nat.le_of_ble_eq_true rfl, Nat.le_of_ble_eq_true rfl⟩) (va_recv hK hP (ci := 6) (q0 := 0) rfl rfl) hP hD hS hA P_nil (sepW_nil _) (by decide) rfl rfl rfl hl.1 rfl (Nat.le_of_ble_eq_true rfl) rfl dX6_copy_118 ⟨Nat.zero_le _, Nat.zero_le _⟩ (fun H locs hP hD hS => ?_)
                have hP : va_P D vwCl ((wX6_0_1 cy ad xp xt u_118.2 sh) ++ (sgS cy SL sln sia snn (va_up svv a_40 (va_cpy (svv a_35) (svv a_40) (Int32.toNatClampNeg x2) (Int32.toNatClampNeg x4) (Int32.toNatClampNeg x5))))) H := hP
                have hD : va_D A ((wX6_0_1 cy ad xp xt u_118.2 sh) ++ (sgS cy SL sln sia snn (va_up svv a_40 (va_cpy (svv a_35) (svv a_40) (Int32.toNatClampNeg x2) (Int32.toNatClampNeg x4) (Int32.toNatClampNeg x5))))) := hD
                obtain rfl := Option.some.inj hf
                rw [← hQe]
                exact W.iret (v := u_118.1) hx hb hr (fun t ht hW => ⟨rfl, by rw [ht]; exact hP, hS.F ht⟩) hS.2.2 dX6_copy_121
              · replace hf := it_p c_88 hf
                exact J91 H locs ls xs svv hf hP hD hS (lv_sub hl [2] rfl)
          · replace hf := it_n c_59 hf
            refine lv_aload_n hx hb dX6_copy_62 rfl (lv_at hl 2 rfl) ?_
            refine lv_iconst (v := 5) hx hb dX6_copy_63 (by decide) ?_
            replace hf := ob_e hf
            obtain ⟨u_64, hu_64, hf⟩ := hf
            refine ivW (As := [.int 5]) (rest := []) (st1 := [.int u_64.1]) (is := [0]) (w1 := (wX6_0 cy ad xp xt u_64.2)) ⟨hx, hb, hml, hown, hts⟩ hK hN (KX6_found l D cy ad xp xt xs 5 H.size hu_64) (cwV 1 hts gX6_copy_X6_found rfl rfl rfl (by decide +kernel) ⟨Nat.le_of_ble_eq_true rfl, Nat.le_of_ble_eq_true rfl⟩) (va_recv hK hP (ci := 6) (q0 := 0) rfl rfl) hP hD hS hA P_nil (sepW_nil _) (by decide) rfl rfl rfl hl.1 rfl (Nat.le_of_ble_eq_true rfl) rfl dX6_copy_64 ⟨Nat.zero_le _, Nat.zero_le _⟩ (fun H locs hP hD hS => ?_)
            have hP : va_P D vwCl ((wX6_0_1 cy ad xp xt u_64.2 sh) ++ (sgS cy SL sln sia snn svv)) H := hP
            have hD : va_D A ((wX6_0_1 cy ad xp xt u_64.2 sh) ++ (sgS cy SL sln sia snn svv)) := hD
            obtain rfl := Option.some.inj hf
            rw [← hQe]
            exact W.iret (v := u_64.1) hx hb hr (fun t ht hW => ⟨rfl, by rw [ht]; exact hP, hS.F ht⟩) hS.2.2 dX6_copy_67
    · replace hf := it_p c_11 hf
      refine lv_ldc (own := RX6) (v := (-1000001)) hx hb hown hw_0 dX6_copy_14 ?_
      obtain rfl := Option.some.inj hf
      rw [← hQe]
      exact W.iret (v := (-1000001)) hx hb hr (fun t ht hW => ⟨rfl, by rw [ht]; exact hP, hS.F ht⟩) hS.2.2 dX6_copy_16
