def wX6_0_2_34_35_36_37_38_39_40_41_42_43_44_45_46_47_48_49_50_51_52 (cy : Nat → ClassId) (ad : Nat → Nat) (xp : Int32) (xt : Int32) (xs : Int32) (sf : Nat → Option Nat) (r_p4 : Int32) (r_mp : Option Nat) (r_kn : Int32) (r_dd : Nat → Int32) (r_rd : Nat → Int32) (r_dn : Nat → Nat → Int32) (r_rn : Nat → Nat → Int32) : va_W := [(ad 0, .inr (6, [.int xp, .ref (ad 1), .ref (ad 2), .ref (ad 3), .ref (ad 4), .ref (ad 19), .ref (ad 34), .ref (ad 53), .int xt, .int xs])), (ad 2, .inl (cy 4, 10, .inr (.inr (.inr (.inr sf))))), (ad 34, .inr (4, [.int r_p4, .ref (ad 35), .ref (ad 36), .ref (ad 37), .ref (ad 38), va_rf r_mp, .int r_kn])), (ad 35, .inl (cy 5, 7, .inr (.inr (.inr (.inr (rwo (fun i => ad (34 + i)) 5)))))), (ad 36, .inl (cy 0, 7, .inl r_dd)), (ad 37, .inl (cy 5, 7, .inr (.inr (.inr (.inr (rwo (fun i => ad (34 + i)) 12)))))), (ad 38, .inl (cy 0, 7, .inl r_rd)), (ad 39, .inl (cy 0, 65, .inl (r_dn 0))), (ad 40, .inl (cy 0, 65, .inl (r_dn 1))), (ad 41, .inl (cy 0, 65, .inl (r_dn 2))), (ad 42, .inl (cy 0, 65, .inl (r_dn 3))), (ad 43, .inl (cy 0, 65, .inl (r_dn 4))), (ad 44, .inl (cy 0, 65, .inl (r_dn 5))), (ad 45, .inl (cy 0, 65, .inl (r_dn 6))), (ad 46, .inl (cy 0, 65, .inl (r_rn 0))), (ad 47, .inl (cy 0, 65, .inl (r_rn 1))), (ad 48, .inl (cy 0, 65, .inl (r_rn 2))), (ad 49, .inl (cy 0, 65, .inl (r_rn 3))), (ad 50, .inl (cy 0, 65, .inl (r_rn 4))), (ad 51, .inl (cy 0, 65, .inl (r_rn 5))), (ad 52, .inl (cy 0, 65, .inl (r_rn 6)))]
def FX6_round_J112   (s1_112 : Int32) (r_mp_112 : Option Nat) (r_kn_112 : Int32) (r_dd_112 : Nat → Int32) (r_rd_112 : Nat → Int32) (r_dn_112 : Nat → Nat → Int32) (r_rn_112 : Nat → Nat → Int32) : Option (Int32 × (Int32) × (Option Nat) × (Int32) × (Nat → Int32) × (Nat → Int32) × (Nat → Nat → Int32) × (Nat → Nat → Int32)) := (ob (FX6_fine s1_112) (fun u_112 => some (u_112.1, u_112.2, r_mp_112, r_kn_112, r_dd_112, r_rd_112, r_dn_112, r_rn_112)))
def FX6_round  (xs : Int32) (sf : Nat → Option Nat) (r_p4 : Int32) (r_mp : Option Nat) (r_kn : Int32) (r_dd : Nat → Int32) (r_rd : Nat → Int32) (r_dn : Nat → Nat → Int32) (r_rn : Nat → Nat → Int32) (PL : List Nat) (ppp : Nat → Int32) (pca : Nat → Nat) (pdg : Nat → Int32) (ptd : Nat → Int32) (pcc : Nat → Nat → Int32) (x1 : Int32) (x2 : Int32) (x3 : Int32) : Option (Int32 × (Int32) × (Option Nat) × (Int32) × (Nat → Int32) × (Nat → Int32) × (Nat → Nat → Int32) × (Nat → Nat → Int32)) := (ob (FX6_isPlace x1) (fun u_1 => if (bi u_1) = 0 then (some ((-1000001), xs, r_mp, r_kn, r_dd, r_rd, r_dn, r_rn)) else (if x2 < 1 then (some ((-1000001), xs, r_mp, r_kn, r_dd, r_rd, r_dn, r_rn)) else (if 6 < x2 then (some ((-1000001), xs, r_mp, r_kn, r_dd, r_rd, r_dn, r_rn)) else (if (-1) ≤ x3 then (gi x1 10 (bd (sf (Int32.toNatClampNeg x1)) (fun o_31 => oq o_31 ((ob (FX6_found 1) (fun u_41 => some (u_41.1, u_41.2, r_mp, r_kn, r_dd, r_rd, r_dn, r_rn)))) (fun a_36 => gd (a_36 ∈ PL) ((if 2 ≤ (pdg a_36) then (ob (FX4_power (pdg a_36) x2) (fun u_66 => if u_66 ≤ 64 then (ob (FX4_prepare (adP pca a_36) r_p4 r_mp r_kn r_dd r_rd r_dn r_rn 5 (ppp a_36) (pdg a_36) (pcc a_36) x2) (fun u_84 => if 0 ≤ x3 then (ob (FX4_numberOf u_84.2.2.2.1 u_84.2.2.2.2.2 x2 x3) (fun u_109 => FX6_round_J112 u_109 u_84.1 u_84.2.1 u_84.2.2.1 u_84.2.2.2.1 u_84.2.2.2.2.1 u_84.2.2.2.2.2)) else (ob (FX4_degreeOf u_84.2.2.2.1 x2) (fun u_97 => FX6_round_J112 u_97 u_84.1 u_84.2.1 u_84.2.2.1 u_84.2.2.2.1 u_84.2.2.2.2.1 u_84.2.2.2.2.2)))) else (some ((-1000003), xs, r_mp, r_kn, r_dd, r_rd, r_dn, r_rn)))) else (ob (FX6_found 3) (fun u_56 => some (u_56.1, u_56.2, r_mp, r_kn, r_dd, r_rd, r_dn, r_rn))))))))) else (some ((-1000001), xs, r_mp, r_kn, r_dd, r_rd, r_dn, r_rn)))))))
abbrev RMX6_round : Room := { frames := 4, cells := 0, slots := 0, locals := 99 }
set_option maxHeartbeats 4000000 in
set_option maxRecDepth 100000 in
theorem KX6_round (l : Launch) (D : va_G) (cy : Nat → ClassId) (ad : Nat → Nat) (xp : Int32) (xt : Int32) (xs : Int32) (sf : Nat → Option Nat) (r_p4 : Int32) (r_mp : Option Nat) (r_kn : Int32) (r_dd : Nat → Int32) (r_rd : Nat → Int32) (r_dn : Nat → Nat → Int32) (r_rn : Nat → Nat → Int32) (PL : List Nat) (ppp : Nat → Int32) (pca : Nat → Nat) (pdg : Nat → Int32) (ptd : Nat → Int32) (pcc : Nat → Nat → Int32) (x1 : Int32) (x2 : Int32) (x3 : Int32) (sz : Nat) {out : Int32 × (Int32) × (Option Nat) × (Int32) × (Nat → Int32) × (Nat → Int32) × (Nat → Nat → Int32) × (Nat → Nat → Int32)} (hf : FX6_round xs sf r_p4 r_mp r_kn r_dd r_rd r_dn r_rn PL ppp pca pdg ptd pcc x1 x2 x3 = some out) : Met l yX6_round wsX6_round RMX6_round (PW D cy [.ref (ad 0), .int x1, .int x2, .int x3] sz ((wX6_0_2_34_35_36_37_38_39_40_41_42_43_44_45_46_47_48_49_50_51_52 cy ad xp xt xs sf r_p4 r_mp r_kn r_dd r_rd r_dn r_rn)) ((sgP cy PL ppp pca pdg ptd pcc))) (QW D (some (.int out.1)) ((wX6_0_2_34_35_36_37_38_39_40_41_42_43_44_45_46_47_48_49_50_51_52 cy ad xp xt out.2.1 sf r_p4 out.2.2.1 out.2.2.2.1 out.2.2.2.2.1 out.2.2.2.2.2.1 out.2.2.2.2.2.2.1 out.2.2.2.2.2.2.2)) (va_A ((wX6_0_2_34_35_36_37_38_39_40_41_42_43_44_45_46_47_48_49_50_51_52 cy ad xp xt xs sf r_p4 r_mp r_kn r_dd r_rd r_dn r_rn)) sz)) 0 0 (va_A ((wX6_0_2_34_35_36_37_38_39_40_41_42_43_44_45_46_47_48_49_50_51_52 cy ad xp xt xs sf r_p4 r_mp r_kn r_dd r_rd r_dn r_rn)) sz) := by
  refine Met.ofW (cc := cX6_round) (maxL := 5) (ret := (some .int)) (by decide +kernel) rfl ?_
  intro p e s m args below meth c s₁ B hml hv
  obtain ⟨hav, hsz, hP, hR0, hK, hN, hD0, hsep⟩ := hv
  have hx := B.exec
  have hb := B.bytes
  have hr := B.returns
  have hts := atoms_spec (ws := wsX6_round) B.pre
  have hown : s.vm.findClass RX6 = some m.cls := findClass_of_methodNamed B.named
  have hlocks := B.notSynchronized
  subst hsz
  have hin_X2 : ∀ w ∈ u_ws RX2 TX2 4, w ∈ wsX6_round := by decide +kernel
  have hin_X6 : ∀ w ∈ u_ws RX6 TX6 10, w ∈ wsX6_round := by decide +kernel
  have hw_0 := hts (.constant RX6 68 (-1000001)) (by decide +kernel)
  have hw_1 := hts (.constant RX6 125 (-1000003)) (by decide +kernel)
  have hw_2 := hts (.fieldLink RX6 25 "ReturnPoints" "shelf" "[LReturnPoints$Poly;") (by decide +kernel)
  have hw_3 := hts (.fieldLink RX6 122 "ReturnPoints$Poly" "degree" "I") (by decide +kernel)
  have hw_4 := hts (.fieldLink RX6 48 "ReturnPoints" "rounds" "LReturnPoints$Rounds;") (by decide +kernel)
  have hD := hD0.self (sz := s.heap.size)
  have hnA := roA hsep hR0
  generalize hAe : va_A ((wX6_0_2_34_35_36_37_38_39_40_41_42_43_44_45_46_47_48_49_50_51_52 cy ad xp xt xs sf r_p4 r_mp r_kn r_dd r_rd r_dn r_rn)) s.heap.size = A at hD hnA ⊢
  have hA : ∀ q : Nat, s.heap.size ≤ q → A q := fun q h => by rw [← hAe]; exact Or.inr h
  have hS : va_S A s.heap s.heap [] := va_S.rf
  obtain ⟨ls, hfr, hl⟩ := ent_ok (m := m) (n := 5) (l' := [(0, .ref (ad 0)), (1, .int x1), (2, .int x2), (3, .int x3)]) [.ref (ad 0), .int x1, .int x2, .int x3] hav (Nat.le_of_ble_eq_true rfl) rfl
  rw [hfr]
  generalize hQe : MQ below (QW D (some (.int out.1)) ((wX6_0_2_34_35_36_37_38_39_40_41_42_43_44_45_46_47_48_49_50_51_52 cy ad xp xt out.2.1 sf r_p4 out.2.2.1 out.2.2.2.1 out.2.2.2.2.1 out.2.2.2.2.2.1 out.2.2.2.2.2.2.1 out.2.2.2.2.2.2.2)) A) args s 0 0 A = QQ
  change W p l e RMX6_round s m args below meth c s.heap [] 0 0 QQ (F0 m 0 ls [])
  have hP : va_P D vwCl ((wX6_0_2_34_35_36_37_38_39_40_41_42_43_44_45_46_47_48_49_50_51_52 cy ad xp xt xs sf r_p4 r_mp r_kn r_dd r_rd r_dn r_rn)) s.heap := hP
  have hD : va_D A ((wX6_0_2_34_35_36_37_38_39_40_41_42_43_44_45_46_47_48_49_50_51_52 cy ad xp xt xs sf r_p4 r_mp r_kn r_dd r_rd r_dn r_rn)) := hD
  suffices h00 : ∀ (H : Heap) (locs : List Loc), va_P D vwCl ((wX6_0_2_34_35_36_37_38_39_40_41_42_43_44_45_46_47_48_49_50_51_52 cy ad xp xt xs sf r_p4 r_mp r_kn r_dd r_rd r_dn r_rn)) H → va_S A s.heap H locs → W p l e RMX6_round s m args below meth c H locs 0 0 QQ (F0 m 0 ls []) from h00 _ _ hP hS
  clear hP hS
  intro H locs hP hS
  have J112 : ∀ (H : Heap) (locs : List Loc) (ls : Array Slot) (s1_112 : Int32) (xs_112 : Int32) (r_mp_112 : Option Nat) (r_kn_112 : Int32) (r_dd_112 : Nat → Int32) (r_rd_112 : Nat → Int32) (r_dn_112 : Nat → Nat → Int32) (r_rn_112 : Nat → Nat → Int32), FX6_round_J112 s1_112 r_mp_112 r_kn_112 r_dd_112 r_rd_112 r_dn_112 r_rn_112 = some out → va_P D vwCl ((wX6_0_2_34_35_36_37_38_39_40_41_42_43_44_45_46_47_48_49_50_51_52 cy ad xp xt xs_112 sf r_p4 r_mp_112 r_kn_112 r_dd_112 r_rd_112 r_dn_112 r_rn_112)) H → va_D A ((wX6_0_2_34_35_36_37_38_39_40_41_42_43_44_45_46_47_48_49_50_51_52 cy ad xp xt xs_112 sf r_p4 r_mp_112 r_kn_112 r_dd_112 r_rd_112 r_dn_112 r_rn_112)) → va_S A s.heap H locs → lv_has ls 5 [] → W p l e RMX6_round s m args below meth c H locs 0 0 QQ (F0 m 112 ls [.int s1_112, .ref (ad 0)]) := by
    intro H locs ls s1_112 xs_112 r_mp_112 r_kn_112 r_dd_112 r_rd_112 r_dn_112 r_rn_112 hf hP hD hS hl
    unfold FX6_round_J112 at hf
    replace hf := ob_e hf
    obtain ⟨u_112, hu_112, hf⟩ := hf
    refine ivW (As := [.int s1_112]) (rest := []) (st1 := [.int u_112.1]) (is := [0]) (w1 := (wX6_0 cy ad xp xt u_112.2)) ⟨hx, hb, hml, hown, hts⟩ hK hN (KX6_fine l D cy ad xp xt xs_112 s1_112 H.size hu_112) (cwV 1 hts gX6_round_X6_fine rfl rfl rfl (by decide +kernel) ⟨Nat.le_of_ble_eq_true rfl, Nat.le_of_ble_eq_true rfl⟩) (va_recv hK hP (ci := 6) (q0 := 0) rfl rfl) hP hD hS hA P_nil (sepW_nil _) (by decide) rfl rfl rfl hl.1 rfl (Nat.le_of_ble_eq_true rfl) rfl dX6_round_112 ⟨Nat.zero_le _, Nat.zero_le _⟩ (fun H locs hP hD hS => ?_)
    have hP : va_P D vwCl ((wX6_0_2_34_35_36_37_38_39_40_41_42_43_44_45_46_47_48_49_50_51_52 cy ad xp xt u_112.2 sf r_p4 r_mp_112 r_kn_112 r_dd_112 r_rd_112 r_dn_112 r_rn_112)) H := hP
    have hD : va_D A ((wX6_0_2_34_35_36_37_38_39_40_41_42_43_44_45_46_47_48_49_50_51_52 cy ad xp xt u_112.2 sf r_p4 r_mp_112 r_kn_112 r_dd_112 r_rd_112 r_dn_112 r_rn_112)) := hD
    obtain rfl := Option.some.inj hf
    rw [← hQe]
    exact W.iret (v := u_112.1) hx hb hr (fun t ht hW => ⟨rfl, by rw [ht]; exact hP, hS.F ht⟩) hS.2.2 dX6_round_115
  unfold FX6_round at hf
  refine lv_iload_n hx hb dX6_round_0 rfl (lv_at hl 1 rfl) ?_
  replace hf := ob_e hf
  obtain ⟨u_1, hu_1, hf⟩ := hf
  refine isR (As := [.int x1]) (rest := []) (st1 := [.int (bi u_1)]) ⟨hx, hb, hml, hown, hts⟩ hK hN (KX6_isPlace l D cy x1 H.size hu_1) (va_cwS 1 hts gX6_round_X6_isPlace rfl rfl rfl (by decide +kernel) ⟨Nat.le_of_ble_eq_true rfl, Nat.le_of_ble_eq_true rfl⟩) P_nil rfl hl.1 rfl (Nat.le_of_ble_eq_true rfl) rfl dX6_round_1 ⟨Nat.zero_le _, Nat.zero_le _⟩ ?_
  refine lv_if_eq (tgt := 23) hx hb dX6_round_4 (by decide) (fun c_4 => ?_) (fun c_4 => ?_)
  · replace hf := it_p c_4 hf
    refine lv_ldc (own := RX6) (v := (-1000001)) hx hb hown hw_0 dX6_round_23 ?_
    obtain rfl := Option.some.inj hf
    rw [← hQe]
    exact W.iret (v := (-1000001)) hx hb hr (fun t ht hW => ⟨rfl, by rw [ht]; exact hP, hS.F ht⟩) hS.2.2 dX6_round_25
  · replace hf := it_n c_4 hf
    refine lv_iload_n hx hb dX6_round_7 rfl (lv_at hl 2 rfl) ?_
    refine lv_iconst (v := 1) hx hb dX6_round_8 (by decide) ?_
    refine lv_icmp_lt (tgt := 23) hx hb dX6_round_9 (by decide) (fun c_9 => ?_) (fun c_9 => ?_)
    · replace hf := it_p c_9 hf
      refine lv_ldc (own := RX6) (v := (-1000001)) hx hb hown hw_0 dX6_round_23 ?_
      obtain rfl := Option.some.inj hf
      rw [← hQe]
      exact W.iret (v := (-1000001)) hx hb hr (fun t ht hW => ⟨rfl, by rw [ht]; exact hP, hS.F ht⟩) hS.2.2 dX6_round_25
    · replace hf := it_n c_9 hf
      refine lv_iload_n hx hb dX6_round_12 rfl (lv_at hl 2 rfl) ?_
      refine lv_bipush (v := 6) hx hb dX6_round_13 (by decide) ?_
      refine lv_icmp_gt (tgt := 23) hx hb dX6_round_15 (by decide) (fun c_15 => ?_) (fun c_15 => ?_)
      · replace hf := it_p c_15 hf
        refine lv_ldc (own := RX6) (v := (-1000001)) hx hb hown hw_0 dX6_round_23 ?_
        obtain rfl := Option.some.inj hf
        rw [← hQe]
        exact W.iret (v := (-1000001)) hx hb hr (fun t ht hW => ⟨rfl, by rw [ht]; exact hP, hS.F ht⟩) hS.2.2 dX6_round_25
      · replace hf := it_n c_15 hf
        refine lv_iload_n hx hb dX6_round_18 rfl (lv_at hl 3 rfl) ?_
        refine lv_iconst (v := (-1)) hx hb dX6_round_19 (by decide) ?_
        refine lv_icmp_ge (tgt := 26) hx hb dX6_round_20 (by decide) (fun c_20 => ?_) (fun c_20 => ?_)
        · replace hf := it_p c_20 hf
          refine lv_aload_n hx hb dX6_round_26 rfl (lv_at hl 0 rfl) ?_
          refine va_get (a := (ad 0)) (ci := 6) (v := .ref (ad 2)) (C := RX6) (T := TX6) (N := 10) hx hb hts hin_X6 hown hK hP 0 rfl rfl 2 (by decide) hw_2 (fun _ h => h) rfl dX6_round_27 ?_
          refine lv_iload_n hx hb dX6_round_30 rfl (lv_at hl 1 rfl) ?_
          replace hf := gi_e hf
          obtain ⟨i_31, hf⟩ := hf
          refine va_aldq (a := (ad 2)) hx hb hK hP 1 4 rfl rfl i_31 dX6_round_31 ?_
          refine top_q (fun o_31 e_31 => ?_)
          replace hf := bd_at e_31 hf
          clear e_31
          refine lv_Qastore (lv' := [(4, va_rf o_31), (0, .ref (ad 0)), (1, .int x1), (2, .int x2), (3, .int x3)]) hx hb dX6_round_32 hl (by decide) rfl (fun ls hl => ?_)
          refine lv_Qaload hx hb dX6_round_34 (lv_at hl 0 rfl) ?_
          replace hf := oq_e hf
          rcases hf with ⟨rfl, hf⟩ | ⟨a_36, rfl, hf⟩
          · have hl : lv_has ls 5 [(4, .null), (0, .ref (ad 0)), (1, .int x1), (2, .int x2), (3, .int x3)] := hl
            refine lv_ifnonnullN hx hb dX6_round_36 ?_
            refine lv_aload_n hx hb dX6_round_39 rfl (lv_at hl 1 rfl) ?_
            refine lv_iconst (v := 1) hx hb dX6_round_40 (by decide) ?_
            replace hf := ob_e hf
            obtain ⟨u_41, hu_41, hf⟩ := hf
            refine ivW (As := [.int 1]) (rest := []) (st1 := [.int u_41.1]) (is := [0]) (w1 := (wX6_0 cy ad xp xt u_41.2)) ⟨hx, hb, hml, hown, hts⟩ hK hN (KX6_found l D cy ad xp xt xs 1 H.size hu_41) (cwV 1 hts gX6_round_X6_found rfl rfl rfl (by decide +kernel) ⟨Nat.le_of_ble_eq_true rfl, Nat.le_of_ble_eq_true rfl⟩) (va_recv hK hP (ci := 6) (q0 := 0) rfl rfl) hP hD hS hA P_nil (sepW_nil _) (by decide) rfl rfl rfl hl.1 rfl (Nat.le_of_ble_eq_true rfl) rfl dX6_round_41 ⟨Nat.zero_le _, Nat.zero_le _⟩ (fun H locs hP hD hS => ?_)
            have hP : va_P D vwCl ((wX6_0_2_34_35_36_37_38_39_40_41_42_43_44_45_46_47_48_49_50_51_52 cy ad xp xt u_41.2 sf r_p4 r_mp r_kn r_dd r_rd r_dn r_rn)) H := hP
            have hD : va_D A ((wX6_0_2_34_35_36_37_38_39_40_41_42_43_44_45_46_47_48_49_50_51_52 cy ad xp xt u_41.2 sf r_p4 r_mp r_kn r_dd r_rd r_dn r_rn)) := hD
            obtain rfl := Option.some.inj hf
            rw [← hQe]
            exact W.iret (v := u_41.1) hx hb hr (fun t ht hW => ⟨rfl, by rw [ht]; exact hP, hS.F ht⟩) hS.2.2 dX6_round_44
          · replace hf := gd_e hf
            obtain ⟨m_a_36, hf⟩ := hf
            have hl : lv_has ls 5 [(4, .ref a_36), (0, .ref (ad 0)), (1, .int x1), (2, .int x2), (3, .int x3)] := hl
            refine lv_ifnonnull (tgt := 45) hx hb dX6_round_36 (by decide) ?_
            refine lv_aload hx hb dX6_round_45 (lv_at hl 0 rfl) ?_
            have hR := roN hR0 hnA hS
            have hQ_a_36 : va_P D vwCl (wX2_0_1 cy (adP pca a_36) 5 (ppp a_36) (pdg a_36) (ptd a_36) (pcc a_36)) H := P_two hR (sgP_1 m_a_36) (sgP_2 m_a_36)
            have hnQ_a_36 : ∀ (k : Nat) (q : Nat × va_E), (wX2_0_1 cy (adP pca a_36) 5 (ppp a_36) (pdg a_36) (ptd a_36) (pcc a_36))[k]? = some q → ¬ A q.1 := nA_two hnA (sgP_1 m_a_36) (sgP_2 m_a_36)
            refine va_get (a := a_36) (ci := 2) (v := .int (pdg a_36)) (C := RX2) (T := TX2) (N := 4) hx hb hts hin_X2 hown hK hQ_a_36 0 rfl rfl 2 (by decide) hw_3 (fun _ h => h) rfl dX6_round_47 ?_
            refine lv_iconst (v := 2) hx hb dX6_round_50 (by decide) ?_
            refine lv_icmp_ge (tgt := 60) hx hb dX6_round_51 (by decide) (fun c_51 => ?_) (fun c_51 => ?_)
            · replace hf := it_p c_51 hf
              refine lv_aload hx hb dX6_round_60 (lv_at hl 0 rfl) ?_
              have hR := roN hR0 hnA hS
              have hQ_a_36 : va_P D vwCl (wX2_0_1 cy (adP pca a_36) 5 (ppp a_36) (pdg a_36) (ptd a_36) (pcc a_36)) H := P_two hR (sgP_1 m_a_36) (sgP_2 m_a_36)
              have hnQ_a_36 : ∀ (k : Nat) (q : Nat × va_E), (wX2_0_1 cy (adP pca a_36) 5 (ppp a_36) (pdg a_36) (ptd a_36) (pcc a_36))[k]? = some q → ¬ A q.1 := nA_two hnA (sgP_1 m_a_36) (sgP_2 m_a_36)
              refine va_get (a := a_36) (ci := 2) (v := .int (pdg a_36)) (C := RX2) (T := TX2) (N := 4) hx hb hts hin_X2 hown hK hQ_a_36 0 rfl rfl 2 (by decide) hw_3 (fun _ h => h) rfl dX6_round_62 ?_
              refine lv_iload_n hx hb dX6_round_65 rfl (lv_at hl 3 rfl) ?_
              replace hf := ob_e hf
              obtain ⟨u_66, hu_66, hf⟩ := hf
              refine isR (As := [.int (pdg a_36), .int x2]) (rest := []) (st1 := [.int u_66]) ⟨hx, hb, hml, hown, hts⟩ hK hN (KX4_power l D cy (pdg a_36) x2 H.size hu_66) (va_cwS 2 hts gX6_round_X4_power rfl rfl rfl (by decide +kernel) ⟨Nat.le_of_ble_eq_true rfl, Nat.le_of_ble_eq_true rfl⟩) P_nil rfl hl.1 rfl (Nat.le_of_ble_eq_true rfl) rfl dX6_round_66 ⟨Nat.zero_le _, Nat.zero_le _⟩ ?_
              refine lv_bipush (v := 64) hx hb dX6_round_69 (by decide) ?_
              refine lv_icmp_le (tgt := 77) hx hb dX6_round_71 (by decide) (fun c_71 => ?_) (fun c_71 => ?_)
              · replace hf := it_p c_71 hf
                refine lv_aload_n hx hb dX6_round_77 rfl (lv_at hl 1 rfl) ?_
                refine va_get (a := (ad 0)) (ci := 6) (v := .ref (ad 34)) (C := RX6) (T := TX6) (N := 10) hx hb hts hin_X6 hown hK hP 0 rfl rfl 6 (by decide) hw_4 (fun _ h => h) rfl dX6_round_78 ?_
                refine lv_aload hx hb dX6_round_81 (lv_at hl 0 rfl) ?_
                refine lv_iload_n hx hb dX6_round_83 rfl (lv_at hl 3 rfl) ?_
                replace hf := ob_e hf
                obtain ⟨u_84, hu_84, hf⟩ := hf
                have hR := roN hR0 hnA hS
                have hQ_a_36 : va_P D vwCl (wX2_0_1 cy (adP pca a_36) 5 (ppp a_36) (pdg a_36) (ptd a_36) (pcc a_36)) H := P_two hR (sgP_1 m_a_36) (sgP_2 m_a_36)
                have hnQ_a_36 : ∀ (k : Nat) (q : Nat × va_E), (wX2_0_1 cy (adP pca a_36) 5 (ppp a_36) (pdg a_36) (ptd a_36) (pcc a_36))[k]? = some q → ¬ A q.1 := nA_two hnA (sgP_1 m_a_36) (sgP_2 m_a_36)
                refine ivW (As := [.ref a_36, .int x2]) (rest := []) (st1 := []) (is := [2, 3, 4, 5, 6, 7, 8, 9, 10, 11, 12, 13, 14, 15, 16, 17, 18, 19, 20]) (w1 := (wX4_0_1_2_3_4_5_6_7_8_9_10_11_12_13_14_15_16_17_18 cy (fun i => ad (34 + i)) r_p4 u_84.1 u_84.2.1 u_84.2.2.1 u_84.2.2.2.1 u_84.2.2.2.2.1 u_84.2.2.2.2.2)) ⟨hx, hb, hml, hown, hts⟩ hK hN (KX4_prepare l D cy (fun i => ad (34 + i)) (adP pca a_36) r_p4 r_mp r_kn r_dd r_rd r_dn r_rn 5 (ppp a_36) (pdg a_36) (ptd a_36) (pcc a_36) x2 H.size hu_84) (cwV 2 hts gX6_round_X4_prepare rfl rfl rfl (by decide +kernel) ⟨Nat.le_of_ble_eq_true rfl, Nat.le_of_ble_eq_true rfl⟩) (va_recv hK hP (ci := 4) (q0 := 2) rfl rfl) hP hD hS hA (P_pl (wc := (wX2_0_1 cy (adP pca a_36) 5 (ppp a_36) (pdg a_36) (ptd a_36) (pcc a_36))) (is := [0, 1]) hQ_a_36 rfl) (sep_nA (is := [2, 3, 4, 5, 6, 7, 8, 9, 10, 11, 12, 13, 14, 15, 16, 17, 18, 19, 20]) (isR := [0, 1]) hnQ_a_36 hD rfl rfl) (by decide) rfl rfl rfl hl.1 rfl (Nat.le_of_ble_eq_true rfl) rfl dX6_round_84 ⟨Nat.zero_le _, Nat.zero_le _⟩ (fun H locs hP hD hS => ?_)
                have hrun := setM_run 19 2 ((wX6_0_2_34_35_36_37_38_39_40_41_42_43_44_45_46_47_48_49_50_51_52 cy ad xp xt xs sf r_p4 r_mp r_kn r_dd r_rd r_dn r_rn)) ((wX4_0_1_2_3_4_5_6_7_8_9_10_11_12_13_14_15_16_17_18 cy (fun i => ad (34 + i)) r_p4 u_84.1 u_84.2.1 u_84.2.2.1 u_84.2.2.2.1 u_84.2.2.2.2.1 u_84.2.2.2.2.2)) rfl (Nat.le_of_ble_eq_true rfl)
                have hP := P_cast hrun hP
                have hD := D_cast hrun hD
                clear hrun
                have hP : va_P D vwCl ((wX6_0_2_34_35_36_37_38_39_40_41_42_43_44_45_46_47_48_49_50_51_52 cy ad xp xt xs sf r_p4 u_84.1 u_84.2.1 u_84.2.2.1 u_84.2.2.2.1 u_84.2.2.2.2.1 u_84.2.2.2.2.2)) H := hP
                have hD : va_D A ((wX6_0_2_34_35_36_37_38_39_40_41_42_43_44_45_46_47_48_49_50_51_52 cy ad xp xt xs sf r_p4 u_84.1 u_84.2.1 u_84.2.2.1 u_84.2.2.2.1 u_84.2.2.2.2.1 u_84.2.2.2.2.2)) := hD
                refine lv_aload_n hx hb dX6_round_87 rfl (lv_at hl 1 rfl) ?_
                refine lv_iload_n hx hb dX6_round_88 rfl (lv_at hl 4 rfl) ?_
                refine lv_if_ge (tgt := 103) hx hb dX6_round_89 (by decide) (fun c_89 => ?_) (fun c_89 => ?_)
                · replace hf := it_p c_89 hf
                  refine lv_aload_n hx hb dX6_round_103 rfl (lv_at hl 1 rfl) ?_
                  refine va_get (a := (ad 0)) (ci := 6) (v := .ref (ad 34)) (C := RX6) (T := TX6) (N := 10) hx hb hts hin_X6 hown hK hP 0 rfl rfl 6 (by decide) hw_4 (fun _ h => h) rfl dX6_round_104 ?_
                  refine lv_iload_n hx hb dX6_round_107 rfl (lv_at hl 3 rfl) ?_
                  refine lv_iload_n hx hb dX6_round_108 rfl (lv_at hl 4 rfl) ?_
                  replace hf := ob_e hf
                  obtain ⟨u_109, hu_109, hf⟩ := hf
                  refine ivR (As := [.int x2, .int x3]) (rest := [.ref (ad 0)]) (st1 := [.int u_109, .ref (ad 0)]) ⟨hx, hb, hml, hown, hts⟩ hK hN (KX4_numberOf l D cy (fun i => ad (34 + i)) r_p4 u_84.1 u_84.2.1 u_84.2.2.2.1 u_84.2.2.2.2.2 x2 x3 H.size hu_109) (cwV 2 hts gX6_round_X4_numberOf rfl rfl rfl (by decide +kernel) ⟨Nat.le_of_ble_eq_true rfl, Nat.le_of_ble_eq_true rfl⟩) (va_recv hK hP (ci := 4) (q0 := 2) rfl rfl) (P_pl (wc := (wX4_0_3_4_12_13_14_15_16_17_18 cy (fun i => ad (34 + i)) r_p4 u_84.1 u_84.2.1 u_84.2.2.2.1 u_84.2.2.2.2.2)) (is := [2, 5, 6, 14, 15, 16, 17, 18, 19, 20]) hP rfl) rfl hl.1 rfl (Nat.le_of_ble_eq_true rfl) rfl dX6_round_109 ⟨Nat.zero_le _, Nat.zero_le _⟩ ?_
                  exact J112 H locs ls u_109 xs u_84.1 u_84.2.1 u_84.2.2.1 u_84.2.2.2.1 u_84.2.2.2.2.1 u_84.2.2.2.2.2 hf hP hD hS (lv_sub hl [] rfl)
                · replace hf := it_n c_89 hf
                  refine lv_aload_n hx hb dX6_round_92 rfl (lv_at hl 1 rfl) ?_
                  refine va_get (a := (ad 0)) (ci := 6) (v := .ref (ad 34)) (C := RX6) (T := TX6) (N := 10) hx hb hts hin_X6 hown hK hP 0 rfl rfl 6 (by decide) hw_4 (fun _ h => h) rfl dX6_round_93 ?_
                  refine lv_iload_n hx hb dX6_round_96 rfl (lv_at hl 3 rfl) ?_
                  replace hf := ob_e hf
                  obtain ⟨u_97, hu_97, hf⟩ := hf
                  refine ivR (As := [.int x2]) (rest := [.ref (ad 0)]) (st1 := [.int u_97, .ref (ad 0)]) ⟨hx, hb, hml, hown, hts⟩ hK hN (KX4_degreeOf l D cy (fun i => ad (34 + i)) r_p4 u_84.1 u_84.2.1 u_84.2.2.2.1 x2 H.size hu_97) (cwV 1 hts gX6_round_X4_degreeOf rfl rfl rfl (by decide +kernel) ⟨Nat.le_of_ble_eq_true rfl, Nat.le_of_ble_eq_true rfl⟩) (va_recv hK hP (ci := 4) (q0 := 2) rfl rfl) (P_pl (wc := (wX4_0_4 cy (fun i => ad (34 + i)) r_p4 u_84.1 u_84.2.1 u_84.2.2.2.1)) (is := [2, 6]) hP rfl) rfl hl.1 rfl (Nat.le_of_ble_eq_true rfl) rfl dX6_round_97 ⟨Nat.zero_le _, Nat.zero_le _⟩ ?_
                  refine lv_goto (tgt := 112) hx hb dX6_round_100 (by decide) ?_
                  exact J112 H locs ls u_97 xs u_84.1 u_84.2.1 u_84.2.2.1 u_84.2.2.2.1 u_84.2.2.2.2.1 u_84.2.2.2.2.2 hf hP hD hS (lv_sub hl [] rfl)
              · replace hf := it_n c_71 hf
                refine lv_ldc (own := RX6) (v := (-1000003)) hx hb hown hw_1 dX6_round_74 ?_
                obtain rfl := Option.some.inj hf
                rw [← hQe]
                exact W.iret (v := (-1000003)) hx hb hr (fun t ht hW => ⟨rfl, by rw [ht]; exact hP, hS.F ht⟩) hS.2.2 dX6_round_76
            · replace hf := it_n c_51 hf
              refine lv_aload_n hx hb dX6_round_54 rfl (lv_at hl 1 rfl) ?_
              refine lv_iconst (v := 3) hx hb dX6_round_55 (by decide) ?_
              replace hf := ob_e hf
              obtain ⟨u_56, hu_56, hf⟩ := hf
              refine ivW (As := [.int 3]) (rest := []) (st1 := [.int u_56.1]) (is := [0]) (w1 := (wX6_0 cy ad xp xt u_56.2)) ⟨hx, hb, hml, hown, hts⟩ hK hN (KX6_found l D cy ad xp xt xs 3 H.size hu_56) (cwV 1 hts gX6_round_X6_found rfl rfl rfl (by decide +kernel) ⟨Nat.le_of_ble_eq_true rfl, Nat.le_of_ble_eq_true rfl⟩) (va_recv hK hP (ci := 6) (q0 := 0) rfl rfl) hP hD hS hA P_nil (sepW_nil _) (by decide) rfl rfl rfl hl.1 rfl (Nat.le_of_ble_eq_true rfl) rfl dX6_round_56 ⟨Nat.zero_le _, Nat.zero_le _⟩ (fun H locs hP hD hS => ?_)
              have hP : va_P D vwCl ((wX6_0_2_34_35_36_37_38_39_40_41_42_43_44_45_46_47_48_49_50_51_52 cy ad xp xt u_56.2 sf r_p4 r_mp r_kn r_dd r_rd r_dn r_rn)) H := hP
              have hD : va_D A ((wX6_0_2_34_35_36_37_38_39_40_41_42_43_44_45_46_47_48_49_50_51_52 cy ad xp xt u_56.2 sf r_p4 r_mp r_kn r_dd r_rd r_dn r_rn)) := hD
              obtain rfl := Option.some.inj hf
              rw [← hQe]
              exact W.iret (v := u_56.1) hx hb hr (fun t ht hW => ⟨rfl, by rw [ht]; exact hP, hS.F ht⟩) hS.2.2 dX6_round_59
        · replace hf := it_n c_20 hf
          refine lv_ldc (own := RX6) (v := (-1000001)) hx hb hown hw_0 dX6_round_23 ?_
          obtain rfl := Option.some.inj hf
          rw [← hQe]
          exact W.iret (v := (-1000001)) hx hb hr (fun t ht hW => ⟨rfl, by rw [ht]; exact hP, hS.F ht⟩) hS.2.2 dX6_round_25
