set_option maxHeartbeats 4000000 in
set_option maxRecDepth 100000 in
theorem lc_sheet {p : Program} {l : Launch} {e : Env} {s : State} {m : MethodId} {below : List Frame} {meth : Method} {c : Code} {Q : State → Prop} {D : va_G} {cy : Nat → ClassId} {A : Nat → Prop} {b L i q6 q7 cells slots : Nat} {xs_ : Nat → Int32} {H : Heap} {locs : List Loc} {ls : Array Slot} (hx : p.tables.exec = Jvm.exec) (hb : c.code = cL_law) (hml : c.maxLocals = 4) (hown : s.vm.findClass RL = some m.cls) (hts : ∀ w ∈ wsL_law, w.before #[Value.ref b] s = true) (hX : va_X b L xs_ s s.heap) (hbl : b < s.heap.size) (hbA : ¬ A b) (hA : ∀ q, s.heap.size ≤ q → A q) (hK : va_K D vwCl (TYs cy) s) (hN : NK s) (hi : i + 6 ≤ L) (hL : L ≤ 3073) (hLW : LW D cy A q6 q7 H) (hS : va_S A s.heap H locs) (hl : lv_has ls 4 [(3, .int (nI i)), (2, .ref q7), (1, .ref q6), (0, .ref b)]) (hc : cells + 4 ≤ 600000) (hs : slots + 260 ≤ 7302250) (kk : ∀ (H1 : Heap) (locs1 : List Loc), LW D cy A q6 q7 H1 → va_S A s.heap H1 locs1 → W p l e room_1 s m #[Value.ref b] below meth c H1 locs1 (cells + 4) (slots + 260) Q (F0 m 1112 ls [])) : W p l e room_1 s m #[Value.ref b] below meth c H locs cells slots Q (F0 m 156 ls []) := by
  refine hLW _ ?_
  intro ad ad7 P xt xs sh sf tr a_rgs a_sv a_co a_ro a_le a_lst a_mu a_ba a_bt a_cp a_nx a_tl a_pe a_en a_pa b_rgs b_sv b_co b_ro b_le b_lst b_mu b_ba b_bt b_cp b_nx b_tl b_pe b_en b_pa r_mp r_kn r_dd r_rd r_dn r_rn f_fl f_fu f_fw f_li f_nx f_tl f_pe f_en f_pa thr sta tcd frt frp lan man itm deg num mad inn lon goe tai per lea com see trc cou don nex res quo rou met SL sln sia snn svv PL ppp pca pdg ptd pcc hq6 hq7 hPR hst hsh hg hsf htr hsv hsb hrd hfr hP hD
  subst hq6 hq7 hst
  have hP1 : 1 < P := Nat.lt_of_lt_of_le (by omega) hPR.1
  have hP2 : P < 200 := hPR.2.1
  have hi1 : vp_in (nI i + 1) L := by
    rw [show (1 : Int32) = nI 1 from rfl, nI_add]
    exact in_n (by omega) (by omega)
  have hi2 : vp_in (nI i + 2) L := by
    rw [show (2 : Int32) = nI 2 from rfl, nI_add]
    exact in_n (by omega) (by omega)
  have hi3 : vp_in (nI i + 3) L := by
    rw [show (3 : Int32) = nI 3 from rfl, nI_add]
    exact in_n (by omega) (by omega)
  have hi4 : vp_in (nI i + 4) L := by
    rw [show (4 : Int32) = nI 4 from rfl, nI_add]
    exact in_n (by omega) (by omega)
  have hi5 : vp_in (nI i + 5) L := by
    rw [show (5 : Int32) = nI 5 from rfl, nI_add]
    exact in_n (by omega) (by omega)
  obtain ⟨a, st, lan', man', itm', ln, mk, e7, e6, hm0, hm1⟩ := op_sheet (sta := xs) hsh (SHT_in hsh) (xs_ (Int32.toNatClampNeg (nI i + 1))) (xs_ (Int32.toNatClampNeg (nI i + 2))) (xs_ (Int32.toNatClampNeg (nI i + 3)))
  cases mk with
  | false =>
    refine lv_aload_n hx hb dL_law_156 rfl (lv_at hl 2 rfl) ?_
    refine lv_aload_n hx hb dL_law_157 rfl (lv_at hl 3 rfl) ?_
    refine lv_iload_n hx hb dL_law_158 rfl (lv_at hl 0 rfl) ?_
    refine lv_iconst (v := 1) hx hb dL_law_159 (by decide) ?_
    refine lv_iadd hx hb dL_law_160 ?_
    refine va_sld hx hb hX hbl hbA hS hi1 dL_law_161 ?_
    refine lv_aload_n hx hb dL_law_162 rfl (lv_at hl 3 rfl) ?_
    refine lv_iload_n hx hb dL_law_163 rfl (lv_at hl 0 rfl) ?_
    refine lv_iconst (v := 2) hx hb dL_law_164 (by decide) ?_
    refine lv_iadd hx hb dL_law_165 ?_
    refine va_sld hx hb hX hbl hbA hS hi2 dL_law_166 ?_
    refine lv_aload_n hx hb dL_law_167 rfl (lv_at hl 3 rfl) ?_
    refine lv_iload_n hx hb dL_law_168 rfl (lv_at hl 0 rfl) ?_
    refine lv_iconst (v := 3) hx hb dL_law_169 (by decide) ?_
    refine lv_iadd hx hb dL_law_170 ?_
    refine va_sld hx hb hX hbl hbA hS hi3 dL_law_171 ?_
    refine ivN0 (As := [.int (xs_ (Int32.toNatClampNeg (nI i + 1))), .int (xs_ (Int32.toNatClampNeg (nI i + 2))), .int (xs_ (Int32.toNatClampNeg (nI i + 3)))]) (rest := []) (st1 := [.int a]) (is := [0, 1]) (w1 := (wX6_0_1 cy ad (nI P) xt st sh)) ⟨hx, hb, hml, hown, hts⟩ hK hN (KX6_sheet l D cy ad (nI P) xt xs sh (xs_ (Int32.toNatClampNeg (nI i + 1))) (xs_ (Int32.toNatClampNeg (nI i + 2))) (xs_ (Int32.toNatClampNeg (nI i + 3))) H.size (out := (a, st, ln, (fun _ => 0), false)) e6) (cwV 3 hts gL_law_X6_sheet rfl rfl rfl (by decide +kernel) ⟨Nat.le_of_ble_eq_true rfl, Nat.le_of_ble_eq_true rfl⟩) (va_recv hK hP (ci := 6) (q0 := 0) rfl rfl) hP hD hS hA P_nil (sepW_nil _) (by decide) rfl rfl rfl hl.1 rfl (Nat.le_of_ble_eq_true rfl) rfl dL_law_172 ⟨by show cells + 2 ≤ 600000; omega, by show slots + 242 ≤ 7302250; omega⟩ (fun H locs hP hD hS => ?_)
    have hPD := PD_mrg (w2 := ((w6A cy ad (nI P) xt st sh sf tr P (P + 1) (nI P) a_rgs a_sv a_co a_ro a_le a_lst a_mu a_ba a_bt a_cp (nI P) a_nx a_tl a_pe a_en a_pa (nI P) b_rgs b_sv b_co b_ro b_le b_lst b_mu b_ba b_bt b_cp (nI P) b_nx b_tl b_pe b_en b_pa (nI P) r_mp r_kn r_dd r_rd r_dn r_rn f_fl f_fu f_fw f_li (nI 233) f_nx f_tl f_pe f_en f_pa) ++ ((w7A cy ad7 thr xs (nI P) tcd frt frp lan man itm deg num mad inn lon goe tai per lea com see trc cou don nex res quo rou met) ++ ((sgS cy SL sln sia snn svv) ++ (sgP cy PL ppp pca pdg ptd pcc))))) (by decide) rfl hP hD
    have hP := hPD.1
    have hD := hPD.2
    refine lv_aload_n hx hb dL_law_175 rfl (lv_at hl 1 rfl) ?_
    refine lv_aload_n hx hb dL_law_176 rfl (lv_at hl 3 rfl) ?_
    refine lv_iload_n hx hb dL_law_177 rfl (lv_at hl 0 rfl) ?_
    refine lv_iconst (v := 1) hx hb dL_law_178 (by decide) ?_
    refine lv_iadd hx hb dL_law_179 ?_
    refine va_sld hx hb hX hbl hbA hS hi1 dL_law_180 ?_
    refine lv_aload_n hx hb dL_law_181 rfl (lv_at hl 3 rfl) ?_
    refine lv_iload_n hx hb dL_law_182 rfl (lv_at hl 0 rfl) ?_
    refine lv_iconst (v := 2) hx hb dL_law_183 (by decide) ?_
    refine lv_iadd hx hb dL_law_184 ?_
    refine va_sld hx hb hX hbl hbA hS hi2 dL_law_185 ?_
    refine lv_aload_n hx hb dL_law_186 rfl (lv_at hl 3 rfl) ?_
    refine lv_iload_n hx hb dL_law_187 rfl (lv_at hl 0 rfl) ?_
    refine lv_iconst (v := 3) hx hb dL_law_188 (by decide) ?_
    refine lv_iadd hx hb dL_law_189 ?_
    refine va_sld hx hb hX hbl hbA hS hi3 dL_law_190 ?_
    refine ivW (As := [.int (xs_ (Int32.toNatClampNeg (nI i + 1))), .int (xs_ (Int32.toNatClampNeg (nI i + 2))), .int (xs_ (Int32.toNatClampNeg (nI i + 3)))]) (rest := [.int a]) (st1 := [.int a, .int a]) (is := [61, 62, 63, 64]) (w1 := (wX7_0_1_2_3 cy ad7 0 st (nI P) tcd frt frp lan' man' itm')) ⟨hx, hb, hml, hown, hts⟩ hK hN (KX7_sheet l D cy ad7 thr xs (nI P) tcd frt frp lan man itm (xs_ (Int32.toNatClampNeg (nI i + 1))) (xs_ (Int32.toNatClampNeg (nI i + 2))) (xs_ (Int32.toNatClampNeg (nI i + 3))) H.size (out := (a, 0, st, lan', man', itm')) e7) (cwV 3 hts gL_law_X7_sheet rfl rfl rfl (by decide +kernel) ⟨Nat.le_of_ble_eq_true rfl, Nat.le_of_ble_eq_true rfl⟩) (va_recv hK hP (ci := 7) (q0 := 61) rfl rfl) hP hD hS hA P_nil (sepW_nil _) (by decide) rfl rfl rfl hl.1 rfl (Nat.le_of_ble_eq_true rfl) rfl dL_law_191 ⟨by show cells + 2 ≤ 600000; omega, by show slots + 242 ≤ 7302250; omega⟩ (fun H locs hP hD hS => ?_)
    have hPD := PD_mrg (w2 := ((w6A cy ad (nI P) xt st sh sf tr P (P + 1) (nI P) a_rgs a_sv a_co a_ro a_le a_lst a_mu a_ba a_bt a_cp (nI P) a_nx a_tl a_pe a_en a_pa (nI P) b_rgs b_sv b_co b_ro b_le b_lst b_mu b_ba b_bt b_cp (nI P) b_nx b_tl b_pe b_en b_pa (nI P) r_mp r_kn r_dd r_rd r_dn r_rn f_fl f_fu f_fw f_li (nI 233) f_nx f_tl f_pe f_en f_pa) ++ ((w7A cy ad7 0 st (nI P) tcd frt frp lan' man' itm' deg num mad inn lon goe tai per lea com see trc cou don nex res quo rou met) ++ ((sgS cy SL sln sia snn svv) ++ (sgP cy PL ppp pca pdg ptd pcc))))) (by decide) rfl hP hD
    have hP := hPD.1
    have hD := hPD.2
    refine lv_icmp_eq (tgt := 1112) hx hb dL_law_194 (by decide) (fun hcmp => ?_) (fun hcmp => ?_)
    · refine W.widen (k := cells + 4) (n := slots + 260) (by omega) (by omega) ?_
      exact kk H locs (fun motive k => k ad ad7 P xt st sh sf tr a_rgs a_sv a_co a_ro a_le a_lst a_mu a_ba a_bt a_cp a_nx a_tl a_pe a_en a_pa b_rgs b_sv b_co b_ro b_le b_lst b_mu b_ba b_bt b_cp b_nx b_tl b_pe b_en b_pa r_mp r_kn r_dd r_rd r_dn r_rn f_fl f_fu f_fw f_li f_nx f_tl f_pe f_en f_pa 0 st tcd frt frp lan' man' itm' deg num mad inn lon goe tai per lea com see trc cou don nex res quo rou met SL sln sia snn svv PL ppp pca pdg ptd pcc rfl rfl hPR rfl (hm0 rfl) hg hsf htr hsv hsb hrd hfr hP hD) hS
    · exact absurd (rfl) hcmp
  | true =>
    refine lv_aload_n hx hb dL_law_156 rfl (lv_at hl 2 rfl) ?_
    refine lv_aload_n hx hb dL_law_157 rfl (lv_at hl 3 rfl) ?_
    refine lv_iload_n hx hb dL_law_158 rfl (lv_at hl 0 rfl) ?_
    refine lv_iconst (v := 1) hx hb dL_law_159 (by decide) ?_
    refine lv_iadd hx hb dL_law_160 ?_
    refine va_sld hx hb hX hbl hbA hS hi1 dL_law_161 ?_
    refine lv_aload_n hx hb dL_law_162 rfl (lv_at hl 3 rfl) ?_
    refine lv_iload_n hx hb dL_law_163 rfl (lv_at hl 0 rfl) ?_
    refine lv_iconst (v := 2) hx hb dL_law_164 (by decide) ?_
    refine lv_iadd hx hb dL_law_165 ?_
    refine va_sld hx hb hX hbl hbA hS hi2 dL_law_166 ?_
    refine lv_aload_n hx hb dL_law_167 rfl (lv_at hl 3 rfl) ?_
    refine lv_iload_n hx hb dL_law_168 rfl (lv_at hl 0 rfl) ?_
    refine lv_iconst (v := 3) hx hb dL_law_169 (by decide) ?_
    refine lv_iadd hx hb dL_law_170 ?_
    refine va_sld hx hb hX hbl hbA hS hi3 dL_law_171 ?_
    refine ivN (As := [.int (xs_ (Int32.toNatClampNeg (nI i + 1))), .int (xs_ (Int32.toNatClampNeg (nI i + 2))), .int (xs_ (Int32.toNatClampNeg (nI i + 3)))]) (rest := []) (st1 := fun nad => [.int a]) (is := [0, 1]) (w1 := fun nad => (wX6_0_1 cy ad (nI P) xt st (va_up sh (Int32.toNatClampNeg (xs_ (Int32.toNatClampNeg (nI i + 1)))) (some (nad 0))))) (wn := fun nad => [((nad 0), (.inr (5, [.int ln, .ref (nad 1)]) : va_E)), ((nad 1), (.inl (cy 1, (Int32.toNatClampNeg (imx (xs_ (Int32.toNatClampNeg (nI i + 3))) 0)), .inr (.inl (fun _ => 0))) : va_E))]) ⟨hx, hb, hml, hown, hts⟩ hK hN (KX6_sheet l D cy ad (nI P) xt xs sh (xs_ (Int32.toNatClampNeg (nI i + 1))) (xs_ (Int32.toNatClampNeg (nI i + 2))) (xs_ (Int32.toNatClampNeg (nI i + 3))) H.size (out := (a, st, ln, (fun _ => 0), true)) e6) (cwV 3 hts gL_law_X6_sheet rfl rfl rfl (by decide +kernel) ⟨Nat.le_of_ble_eq_true rfl, Nat.le_of_ble_eq_true rfl⟩) (va_recv hK hP (ci := 6) (q0 := 0) rfl rfl) hP hD hS hA P_nil (sepW_nil _) (by decide) rfl (fun nad => rfl) rfl hl.1 rfl (Nat.le_of_ble_eq_true rfl) (fun nad => rfl) dL_law_172 ⟨by show cells + 2 ≤ 600000; omega, by show slots + 242 ≤ 7302250; omega⟩ (fun nad H locs hP hD hS => ?_)
    have hPD := PD_mrgA (w2 := ((w6A cy ad (nI P) xt st (va_up sh (Int32.toNatClampNeg (xs_ (Int32.toNatClampNeg (nI i + 1)))) (some (nad 0))) sf tr P (P + 1) (nI P) a_rgs a_sv a_co a_ro a_le a_lst a_mu a_ba a_bt a_cp (nI P) a_nx a_tl a_pe a_en a_pa (nI P) b_rgs b_sv b_co b_ro b_le b_lst b_mu b_ba b_bt b_cp (nI P) b_nx b_tl b_pe b_en b_pa (nI P) r_mp r_kn r_dd r_rd r_dn r_rn f_fl f_fu f_fw f_li (nI 233) f_nx f_tl f_pe f_en f_pa) ++ ((w7A cy ad7 thr xs (nI P) tcd frt frp lan man itm deg num mad inn lon goe tai per lea com see trc cou don nex res quo rou met) ++ ((sgS cy SL sln sia snn svv) ++ (sgP cy PL ppp pca pdg ptd pcc))))) (wn := [((nad 0), (.inr (5, [.int ln, .ref (nad 1)]) : va_E)), ((nad 1), (.inl (cy 1, (Int32.toNatClampNeg (imx (xs_ (Int32.toNatClampNeg (nI i + 3))) 0)), .inr (.inl (fun _ => 0))) : va_E))]) (by decide) rfl hP hD
    have hP := hPD.1
    have hD := hPD.2
    have hpm1 : (((w6A cy ad (nI P) xt st (va_up sh (Int32.toNatClampNeg (xs_ (Int32.toNatClampNeg (nI i + 1)))) (some (nad 0))) sf tr P (P + 1) (nI P) a_rgs a_sv a_co a_ro a_le a_lst a_mu a_ba a_bt a_cp (nI P) a_nx a_tl a_pe a_en a_pa (nI P) b_rgs b_sv b_co b_ro b_le b_lst b_mu b_ba b_bt b_cp (nI P) b_nx b_tl b_pe b_en b_pa (nI P) r_mp r_kn r_dd r_rd r_dn r_rn f_fl f_fu f_fw f_li (nI 233) f_nx f_tl f_pe f_en f_pa) ++ ((w7A cy ad7 thr xs (nI P) tcd frt frp lan man itm deg num mad inn lon goe tai per lea com see trc cou don nex res quo rou met) ++ ((sgS cy SL sln sia snn svv) ++ (sgP cy PL ppp pca pdg ptd pcc)))) ++ [((nad 0), (.inr (5, [.int ln, .ref (nad 1)]) : va_E)), ((nad 1), (.inl (cy 1, (Int32.toNatClampNeg (imx (xs_ (Int32.toNatClampNeg (nI i + 3))) 0)), .inr (.inl (fun _ => 0))) : va_E))]).Perm (((w6A cy ad (nI P) xt st (va_up sh (Int32.toNatClampNeg (xs_ (Int32.toNatClampNeg (nI i + 1)))) (some (nad 0))) sf tr P (P + 1) (nI P) a_rgs a_sv a_co a_ro a_le a_lst a_mu a_ba a_bt a_cp (nI P) a_nx a_tl a_pe a_en a_pa (nI P) b_rgs b_sv b_co b_ro b_le b_lst b_mu b_ba b_bt b_cp (nI P) b_nx b_tl b_pe b_en b_pa (nI P) r_mp r_kn r_dd r_rd r_dn r_rn f_fl f_fu f_fw f_li (nI 233) f_nx f_tl f_pe f_en f_pa) ++ ((w7A cy ad7 thr xs (nI P) tcd frt frp lan man itm deg num mad inn lon goe tai per lea com see trc cou don nex res quo rou met) ++ ((sgS cy SL sln sia snn svv) ++ (sgP cy PL ppp pca pdg ptd pcc)))) ++ [((nad 1), (.inl (cy 1, (Int32.toNatClampNeg (imx (xs_ (Int32.toNatClampNeg (nI i + 3))) 0)), .inr (.inl (fun _ => 0))) : va_E)), ((nad 0), (.inr (5, [.int ln, .ref (nad 1)]) : va_E))]) := List.Perm.append_left _ (List.Perm.swap _ _ [])
    have hP := P_perm hpm1 hP
    have hD := D_perm hpm1 hD
    have hnin : (nad 0) ∉ SL := pool_S hD
    have hpm2 : (((w6A cy ad (nI P) xt st (va_up sh (Int32.toNatClampNeg (xs_ (Int32.toNatClampNeg (nI i + 1)))) (some (nad 0))) sf tr P (P + 1) (nI P) a_rgs a_sv a_co a_ro a_le a_lst a_mu a_ba a_bt a_cp (nI P) a_nx a_tl a_pe a_en a_pa (nI P) b_rgs b_sv b_co b_ro b_le b_lst b_mu b_ba b_bt b_cp (nI P) b_nx b_tl b_pe b_en b_pa (nI P) r_mp r_kn r_dd r_rd r_dn r_rn f_fl f_fu f_fw f_li (nI 233) f_nx f_tl f_pe f_en f_pa) ++ ((w7A cy ad7 thr xs (nI P) tcd frt frp lan man itm deg num mad inn lon goe tai per lea com see trc cou don nex res quo rou met) ++ ((sgS cy SL sln sia snn svv) ++ (sgP cy PL ppp pca pdg ptd pcc)))) ++ [((nad 1), (.inl (cy 1, (Int32.toNatClampNeg (imx (xs_ (Int32.toNatClampNeg (nI i + 3))) 0)), .inr (.inl (fun _ => 0))) : va_E)), ((nad 0), (.inr (5, [.int ln, .ref (nad 1)]) : va_E))]).Perm ((w6A cy ad (nI P) xt st (va_up sh (Int32.toNatClampNeg (xs_ (Int32.toNatClampNeg (nI i + 1)))) (some (nad 0))) sf tr P (P + 1) (nI P) a_rgs a_sv a_co a_ro a_le a_lst a_mu a_ba a_bt a_cp (nI P) a_nx a_tl a_pe a_en a_pa (nI P) b_rgs b_sv b_co b_ro b_le b_lst b_mu b_ba b_bt b_cp (nI P) b_nx b_tl b_pe b_en b_pa (nI P) r_mp r_kn r_dd r_rd r_dn r_rn f_fl f_fu f_fw f_li (nI 233) f_nx f_tl f_pe f_en f_pa) ++ ((w7A cy ad7 thr xs (nI P) tcd frt frp lan man itm deg num mad inn lon goe tai per lea com see trc cou don nex res quo rou met) ++ ((sgS cy ((nad 0) :: SL) (va_up sln (nad 0) ln) (va_up sia (nad 0) (nad 1)) (va_up snn (nad 0) (Int32.toNatClampNeg (imx (xs_ (Int32.toNatClampNeg (nI i + 3))) 0))) (va_up svv (nad 0) (fun _ => 0))) ++ (sgP cy PL ppp pca pdg ptd pcc)))) := pool_Sp (sgS_up hnin)
    have hP : va_P D vwCl ((w6A cy ad (nI P) xt st (va_up sh (Int32.toNatClampNeg (xs_ (Int32.toNatClampNeg (nI i + 1)))) (some (nad 0))) sf tr P (P + 1) (nI P) a_rgs a_sv a_co a_ro a_le a_lst a_mu a_ba a_bt a_cp (nI P) a_nx a_tl a_pe a_en a_pa (nI P) b_rgs b_sv b_co b_ro b_le b_lst b_mu b_ba b_bt b_cp (nI P) b_nx b_tl b_pe b_en b_pa (nI P) r_mp r_kn r_dd r_rd r_dn r_rn f_fl f_fu f_fw f_li (nI 233) f_nx f_tl f_pe f_en f_pa) ++ ((w7A cy ad7 thr xs (nI P) tcd frt frp lan man itm deg num mad inn lon goe tai per lea com see trc cou don nex res quo rou met) ++ ((sgS cy ((nad 0) :: SL) (va_up sln (nad 0) ln) (va_up sia (nad 0) (nad 1)) (va_up snn (nad 0) (Int32.toNatClampNeg (imx (xs_ (Int32.toNatClampNeg (nI i + 3))) 0))) (va_up svv (nad 0) (fun _ => 0))) ++ (sgP cy PL ppp pca pdg ptd pcc)))) H := P_perm hpm2 hP
    have hD : va_D A ((w6A cy ad (nI P) xt st (va_up sh (Int32.toNatClampNeg (xs_ (Int32.toNatClampNeg (nI i + 1)))) (some (nad 0))) sf tr P (P + 1) (nI P) a_rgs a_sv a_co a_ro a_le a_lst a_mu a_ba a_bt a_cp (nI P) a_nx a_tl a_pe a_en a_pa (nI P) b_rgs b_sv b_co b_ro b_le b_lst b_mu b_ba b_bt b_cp (nI P) b_nx b_tl b_pe b_en b_pa (nI P) r_mp r_kn r_dd r_rd r_dn r_rn f_fl f_fu f_fw f_li (nI 233) f_nx f_tl f_pe f_en f_pa) ++ ((w7A cy ad7 thr xs (nI P) tcd frt frp lan man itm deg num mad inn lon goe tai per lea com see trc cou don nex res quo rou met) ++ ((sgS cy ((nad 0) :: SL) (va_up sln (nad 0) ln) (va_up sia (nad 0) (nad 1)) (va_up snn (nad 0) (Int32.toNatClampNeg (imx (xs_ (Int32.toNatClampNeg (nI i + 3))) 0))) (va_up svv (nad 0) (fun _ => 0))) ++ (sgP cy PL ppp pca pdg ptd pcc)))) := D_perm hpm2 hD
    refine lv_aload_n hx hb dL_law_175 rfl (lv_at hl 1 rfl) ?_
    refine lv_aload_n hx hb dL_law_176 rfl (lv_at hl 3 rfl) ?_
    refine lv_iload_n hx hb dL_law_177 rfl (lv_at hl 0 rfl) ?_
    refine lv_iconst (v := 1) hx hb dL_law_178 (by decide) ?_
    refine lv_iadd hx hb dL_law_179 ?_
    refine va_sld hx hb hX hbl hbA hS hi1 dL_law_180 ?_
    refine lv_aload_n hx hb dL_law_181 rfl (lv_at hl 3 rfl) ?_
    refine lv_iload_n hx hb dL_law_182 rfl (lv_at hl 0 rfl) ?_
    refine lv_iconst (v := 2) hx hb dL_law_183 (by decide) ?_
    refine lv_iadd hx hb dL_law_184 ?_
    refine va_sld hx hb hX hbl hbA hS hi2 dL_law_185 ?_
    refine lv_aload_n hx hb dL_law_186 rfl (lv_at hl 3 rfl) ?_
    refine lv_iload_n hx hb dL_law_187 rfl (lv_at hl 0 rfl) ?_
    refine lv_iconst (v := 3) hx hb dL_law_188 (by decide) ?_
    refine lv_iadd hx hb dL_law_189 ?_
    refine va_sld hx hb hX hbl hbA hS hi3 dL_law_190 ?_
    refine ivW (As := [.int (xs_ (Int32.toNatClampNeg (nI i + 1))), .int (xs_ (Int32.toNatClampNeg (nI i + 2))), .int (xs_ (Int32.toNatClampNeg (nI i + 3)))]) (rest := [.int a]) (st1 := [.int a, .int a]) (is := [61, 62, 63, 64]) (w1 := (wX7_0_1_2_3 cy ad7 0 st (nI P) tcd frt frp lan' man' itm')) ⟨hx, hb, hml, hown, hts⟩ hK hN (KX7_sheet l D cy ad7 thr xs (nI P) tcd frt frp lan man itm (xs_ (Int32.toNatClampNeg (nI i + 1))) (xs_ (Int32.toNatClampNeg (nI i + 2))) (xs_ (Int32.toNatClampNeg (nI i + 3))) H.size (out := (a, 0, st, lan', man', itm')) e7) (cwV 3 hts gL_law_X7_sheet rfl rfl rfl (by decide +kernel) ⟨Nat.le_of_ble_eq_true rfl, Nat.le_of_ble_eq_true rfl⟩) (va_recv hK hP (ci := 7) (q0 := 61) rfl rfl) hP hD hS hA P_nil (sepW_nil _) (by decide) rfl rfl rfl hl.1 rfl (Nat.le_of_ble_eq_true rfl) rfl dL_law_191 ⟨by show cells + 2 ≤ 600000; omega, by show slots + 242 ≤ 7302250; omega⟩ (fun H locs hP hD hS => ?_)
    have hPD := PD_mrg (w2 := ((w6A cy ad (nI P) xt st (va_up sh (Int32.toNatClampNeg (xs_ (Int32.toNatClampNeg (nI i + 1)))) (some (nad 0))) sf tr P (P + 1) (nI P) a_rgs a_sv a_co a_ro a_le a_lst a_mu a_ba a_bt a_cp (nI P) a_nx a_tl a_pe a_en a_pa (nI P) b_rgs b_sv b_co b_ro b_le b_lst b_mu b_ba b_bt b_cp (nI P) b_nx b_tl b_pe b_en b_pa (nI P) r_mp r_kn r_dd r_rd r_dn r_rn f_fl f_fu f_fw f_li (nI 233) f_nx f_tl f_pe f_en f_pa) ++ ((w7A cy ad7 0 st (nI P) tcd frt frp lan' man' itm' deg num mad inn lon goe tai per lea com see trc cou don nex res quo rou met) ++ ((sgS cy ((nad 0) :: SL) (va_up sln (nad 0) ln) (va_up sia (nad 0) (nad 1)) (va_up snn (nad 0) (Int32.toNatClampNeg (imx (xs_ (Int32.toNatClampNeg (nI i + 3))) 0))) (va_up svv (nad 0) (fun _ => 0))) ++ (sgP cy PL ppp pca pdg ptd pcc))))) (by decide) rfl hP hD
    have hP := hPD.1
    have hD := hPD.2
    refine lv_icmp_eq (tgt := 1112) hx hb dL_law_194 (by decide) (fun hcmp => ?_) (fun hcmp => ?_)
    · refine W.widen (k := cells + 4) (n := slots + 260) (by omega) (by omega) ?_
      exact kk H locs (fun motive k => k ad ad7 P xt st (va_up sh (Int32.toNatClampNeg (xs_ (Int32.toNatClampNeg (nI i + 1)))) (some (nad 0))) sf tr a_rgs a_sv a_co a_ro a_le a_lst a_mu a_ba a_bt a_cp a_nx a_tl a_pe a_en a_pa b_rgs b_sv b_co b_ro b_le b_lst b_mu b_ba b_bt b_cp b_nx b_tl b_pe b_en b_pa r_mp r_kn r_dd r_rd r_dn r_rn f_fl f_fu f_fw f_li f_nx f_tl f_pe f_en f_pa 0 st tcd frt frp lan' man' itm' deg num mad inn lon goe tai per lea com see trc cou don nex res quo rou met ((nad 0) :: SL) (va_up sln (nad 0) ln) (va_up sia (nad 0) (nad 1)) (va_up snn (nad 0) (Int32.toNatClampNeg (imx (xs_ (Int32.toNatClampNeg (nI i + 3))) 0))) (va_up svv (nad 0) (fun _ => 0)) PL ppp pca pdg ptd pcc rfl rfl hPR rfl ((hm1 rfl).2 _ hnin) hg hsf htr hsv hsb hrd hfr hP hD) hS
    · exact absurd (rfl) hcmp
set_option maxHeartbeats 4000000 in
set_option maxRecDepth 100000 in
theorem lc_set {p : Program} {l : Launch} {e : Env} {s : State} {m : MethodId} {below : List Frame} {meth : Method} {c : Code} {Q : State → Prop} {D : va_G} {cy : Nat → ClassId} {A : Nat → Prop} {b L i q6 q7 cells slots : Nat} {xs_ : Nat → Int32} {H : Heap} {locs : List Loc} {ls : Array Slot} (hx : p.tables.exec = Jvm.exec) (hb : c.code = cL_law) (hml : c.maxLocals = 4) (hown : s.vm.findClass RL = some m.cls) (hts : ∀ w ∈ wsL_law, w.before #[Value.ref b] s = true) (hX : va_X b L xs_ s s.heap) (hbl : b < s.heap.size) (hbA : ¬ A b) (hA : ∀ q, s.heap.size ≤ q → A q) (hK : va_K D vwCl (TYs cy) s) (hN : NK s) (hi : i + 6 ≤ L) (hL : L ≤ 3073) (hLW : LW D cy A q6 q7 H) (hS : va_S A s.heap H locs) (hl : lv_has ls 4 [(3, .int (nI i)), (2, .ref q7), (1, .ref q6), (0, .ref b)]) (hc : cells + 4 ≤ 600000) (hs : slots + 260 ≤ 7302250) (kk : ∀ (H1 : Heap) (locs1 : List Loc), LW D cy A q6 q7 H1 → va_S A s.heap H1 locs1 → W p l e room_1 s m #[Value.ref b] below meth c H1 locs1 (cells + 4) (slots + 260) Q (F0 m 1112 ls [])) : W p l e room_1 s m #[Value.ref b] below meth c H locs cells slots Q (F0 m 199 ls []) := by
  refine hLW _ ?_
  intro ad ad7 P xt xs sh sf tr a_rgs a_sv a_co a_ro a_le a_lst a_mu a_ba a_bt a_cp a_nx a_tl a_pe a_en a_pa b_rgs b_sv b_co b_ro b_le b_lst b_mu b_ba b_bt b_cp b_nx b_tl b_pe b_en b_pa r_mp r_kn r_dd r_rd r_dn r_rn f_fl f_fu f_fw f_li f_nx f_tl f_pe f_en f_pa thr sta tcd frt frp lan man itm deg num mad inn lon goe tai per lea com see trc cou don nex res quo rou met SL sln sia snn svv PL ppp pca pdg ptd pcc hq6 hq7 hPR hst hsh hg hsf htr hsv hsb hrd hfr hP hD
  subst hq6 hq7 hst
  have hP1 : 1 < P := Nat.lt_of_lt_of_le (by omega) hPR.1
  have hP2 : P < 200 := hPR.2.1
  have hi1 : vp_in (nI i + 1) L := by
    rw [show (1 : Int32) = nI 1 from rfl, nI_add]
    exact in_n (by omega) (by omega)
  have hi2 : vp_in (nI i + 2) L := by
    rw [show (2 : Int32) = nI 2 from rfl, nI_add]
    exact in_n (by omega) (by omega)
  have hi3 : vp_in (nI i + 3) L := by
    rw [show (3 : Int32) = nI 3 from rfl, nI_add]
    exact in_n (by omega) (by omega)
  have hi4 : vp_in (nI i + 4) L := by
    rw [show (4 : Int32) = nI 4 from rfl, nI_add]
    exact in_n (by omega) (by omega)
  have hi5 : vp_in (nI i + 5) L := by
    rw [show (5 : Int32) = nI 5 from rfl, nI_add]
    exact in_n (by omega) (by omega)
  obtain ⟨a, st, itm', svv', e7, e6, hsh'⟩ := op_set (sia := sia) (sta := xs) hsh (xs_ (Int32.toNatClampNeg (nI i + 1))) (xs_ (Int32.toNatClampNeg (nI i + 2))) (((Int32.toInt64 (xs_ (Int32.toNatClampNeg (nI i + 3)))) <<< ((Int32.toInt64 32) &&& 63)) ||| ((Int32.toInt64 (xs_ (Int32.toNatClampNeg (nI i + 4)))) &&& 4294967295))
  refine lv_aload_n hx hb dL_law_199 rfl (lv_at hl 2 rfl) ?_
  refine lv_aload_n hx hb dL_law_200 rfl (lv_at hl 3 rfl) ?_
  refine lv_iload_n hx hb dL_law_201 rfl (lv_at hl 0 rfl) ?_
  refine lv_iconst (v := 1) hx hb dL_law_202 (by decide) ?_
  refine lv_iadd hx hb dL_law_203 ?_
  refine va_sld hx hb hX hbl hbA hS hi1 dL_law_204 ?_
  refine lv_aload_n hx hb dL_law_205 rfl (lv_at hl 3 rfl) ?_
  refine lv_iload_n hx hb dL_law_206 rfl (lv_at hl 0 rfl) ?_
  refine lv_iconst (v := 2) hx hb dL_law_207 (by decide) ?_
  refine lv_iadd hx hb dL_law_208 ?_
  refine va_sld hx hb hX hbl hbA hS hi2 dL_law_209 ?_
  refine lv_aload_n hx hb dL_law_210 rfl (lv_at hl 3 rfl) ?_
  refine lv_iload_n hx hb dL_law_211 rfl (lv_at hl 0 rfl) ?_
  refine lv_iconst (v := 3) hx hb dL_law_212 (by decide) ?_
  refine lv_iadd hx hb dL_law_213 ?_
  refine va_sld hx hb hX hbl hbA hS hi3 dL_law_214 ?_
  refine lv_i2l hx hb dL_law_215 rfl ?_
  refine lv_bipush (v := 32) hx hb dL_law_216 (by decide) ?_
  refine lv_lshl hx hb dL_law_218 rfl ?_
  refine lv_aload_n hx hb dL_law_219 rfl (lv_at hl 3 rfl) ?_
  refine lv_iload_n hx hb dL_law_220 rfl (lv_at hl 0 rfl) ?_
  refine lv_iconst (v := 4) hx hb dL_law_221 (by decide) ?_
  refine lv_iadd hx hb dL_law_222 ?_
  refine va_sld hx hb hX hbl hbA hS hi4 dL_law_223 ?_
  refine lv_i2l hx hb dL_law_224 rfl ?_
  refine lv_ldc2 (own := RL) (v := 4294967295) hx hb hown (hts (.constantLong RL 26 (4294967295)) (by decide +kernel)) dL_law_225 ?_
  refine lv_land hx hb dL_law_228 ?_
  refine lv_lor hx hb dL_law_229 ?_
  have hpm : ((w6A cy ad (nI P) xt xs sh sf tr P (P + 1) (nI P) a_rgs a_sv a_co a_ro a_le a_lst a_mu a_ba a_bt a_cp (nI P) a_nx a_tl a_pe a_en a_pa (nI P) b_rgs b_sv b_co b_ro b_le b_lst b_mu b_ba b_bt b_cp (nI P) b_nx b_tl b_pe b_en b_pa (nI P) r_mp r_kn r_dd r_rd r_dn r_rn f_fl f_fu f_fw f_li (nI 233) f_nx f_tl f_pe f_en f_pa) ++ ((w7A cy ad7 thr xs (nI P) tcd frt frp lan man itm deg num mad inn lon goe tai per lea com see trc cou don nex res quo rou met) ++ ((sgS cy SL sln sia snn svv) ++ (sgP cy PL ppp pca pdg ptd pcc)))).Perm (((wX6_0_1 cy ad (nI P) xt xs sh) ++ (sgS cy SL sln sia snn svv)) ++ (((w6A cy ad (nI P) xt xs sh sf tr P (P + 1) (nI P) a_rgs a_sv a_co a_ro a_le a_lst a_mu a_ba a_bt a_cp (nI P) a_nx a_tl a_pe a_en a_pa (nI P) b_rgs b_sv b_co b_ro b_le b_lst b_mu b_ba b_bt b_cp (nI P) b_nx b_tl b_pe b_en b_pa (nI P) r_mp r_kn r_dd r_rd r_dn r_rn f_fl f_fu f_fw f_li (nI 233) f_nx f_tl f_pe f_en f_pa).drop 2) ++ ((w7A cy ad7 thr xs (nI P) tcd frt frp lan man itm deg num mad inn lon goe tai per lea com see trc cou don nex res quo rou met) ++ (sgP cy PL ppp pca pdg ptd pcc)))) := by
    show ((wX6_0_1 cy ad (nI P) xt xs sh) ++ (((w6A cy ad (nI P) xt xs sh sf tr P (P + 1) (nI P) a_rgs a_sv a_co a_ro a_le a_lst a_mu a_ba a_bt a_cp (nI P) a_nx a_tl a_pe a_en a_pa (nI P) b_rgs b_sv b_co b_ro b_le b_lst b_mu b_ba b_bt b_cp (nI P) b_nx b_tl b_pe b_en b_pa (nI P) r_mp r_kn r_dd r_rd r_dn r_rn f_fl f_fu f_fw f_li (nI 233) f_nx f_tl f_pe f_en f_pa).drop 2) ++ ((w7A cy ad7 thr xs (nI P) tcd frt frp lan man itm deg num mad inn lon goe tai per lea com see trc cou don nex res quo rou met) ++ ((sgS cy SL sln sia snn svv) ++ (sgP cy PL ppp pca pdg ptd pcc))))).Perm (((wX6_0_1 cy ad (nI P) xt xs sh) ++ (sgS cy SL sln sia snn svv)) ++ (((w6A cy ad (nI P) xt xs sh sf tr P (P + 1) (nI P) a_rgs a_sv a_co a_ro a_le a_lst a_mu a_ba a_bt a_cp (nI P) a_nx a_tl a_pe a_en a_pa (nI P) b_rgs b_sv b_co b_ro b_le b_lst b_mu b_ba b_bt b_cp (nI P) b_nx b_tl b_pe b_en b_pa (nI P) r_mp r_kn r_dd r_rd r_dn r_rn f_fl f_fu f_fw f_li (nI 233) f_nx f_tl f_pe f_en f_pa).drop 2) ++ ((w7A cy ad7 thr xs (nI P) tcd frt frp lan man itm deg num mad inn lon goe tai per lea com see trc cou don nex res quo rou met) ++ (sgP cy PL ppp pca pdg ptd pcc))))
    rw [List.append_assoc (wX6_0_1 cy ad (nI P) xt xs sh)]
    exact List.Perm.append_left _ perm_s
  refine ivWf (As := [.int (xs_ (Int32.toNatClampNeg (nI i + 1))), .int (xs_ (Int32.toNatClampNeg (nI i + 2))), .long (((Int32.toInt64 (xs_ (Int32.toNatClampNeg (nI i + 3)))) <<< ((Int32.toInt64 32) &&& 63)) ||| ((Int32.toInt64 (xs_ (Int32.toNatClampNeg (nI i + 4)))) &&& 4294967295))]) (rest := []) (wc := ((wX6_0_1 cy ad (nI P) xt xs sh) ++ (sgS cy SL sln sia snn svv))) (rs := (((w6A cy ad (nI P) xt xs sh sf tr P (P + 1) (nI P) a_rgs a_sv a_co a_ro a_le a_lst a_mu a_ba a_bt a_cp (nI P) a_nx a_tl a_pe a_en a_pa (nI P) b_rgs b_sv b_co b_ro b_le b_lst b_mu b_ba b_bt b_cp (nI P) b_nx b_tl b_pe b_en b_pa (nI P) r_mp r_kn r_dd r_rd r_dn r_rn f_fl f_fu f_fw f_li (nI 233) f_nx f_tl f_pe f_en f_pa).drop 2) ++ ((w7A cy ad7 thr xs (nI P) tcd frt frp lan man itm deg num mad inn lon goe tai per lea com see trc cou don nex res quo rou met) ++ (sgP cy PL ppp pca pdg ptd pcc)))) (w1 := ((wX6_0_1 cy ad (nI P) xt st sh) ++ (sgS cy SL sln sia snn svv'))) (st1 := [.long a]) ⟨hx, hb, hml, hown, hts⟩ hK hN (KX6_set l D cy ad (nI P) xt xs sh SL sln sia snn svv (xs_ (Int32.toNatClampNeg (nI i + 1))) (xs_ (Int32.toNatClampNeg (nI i + 2))) (((Int32.toInt64 (xs_ (Int32.toNatClampNeg (nI i + 3)))) <<< ((Int32.toInt64 32) &&& 63)) ||| ((Int32.toInt64 (xs_ (Int32.toNatClampNeg (nI i + 4)))) &&& 4294967295)) H.size (out := (a, st, svv')) e6) (cwV 3 hts gL_law_X6_set rfl rfl rfl (by decide +kernel) ⟨Nat.le_of_ble_eq_true rfl, Nat.le_of_ble_eq_true rfl⟩) (va_recv hK hP (ci := 6) (q0 := 0) rfl rfl) (P_perm hpm hP) (D_perm hpm hD) hS hA P_nil (sepW_nil _) (fst_app rfl) rfl hl.1 rfl (Nat.le_of_ble_eq_true rfl) rfl dL_law_230 ⟨by show cells ≤ 600000; omega, by show slots ≤ 7302250; omega⟩ (fun H locs hP hD hS => ?_)
  have hpm2 : (((wX6_0_1 cy ad (nI P) xt st sh) ++ (sgS cy SL sln sia snn svv')) ++ (((w6A cy ad (nI P) xt xs sh sf tr P (P + 1) (nI P) a_rgs a_sv a_co a_ro a_le a_lst a_mu a_ba a_bt a_cp (nI P) a_nx a_tl a_pe a_en a_pa (nI P) b_rgs b_sv b_co b_ro b_le b_lst b_mu b_ba b_bt b_cp (nI P) b_nx b_tl b_pe b_en b_pa (nI P) r_mp r_kn r_dd r_rd r_dn r_rn f_fl f_fu f_fw f_li (nI 233) f_nx f_tl f_pe f_en f_pa).drop 2) ++ ((w7A cy ad7 thr xs (nI P) tcd frt frp lan man itm deg num mad inn lon goe tai per lea com see trc cou don nex res quo rou met) ++ (sgP cy PL ppp pca pdg ptd pcc)))).Perm ((w6A cy ad (nI P) xt st sh sf tr P (P + 1) (nI P) a_rgs a_sv a_co a_ro a_le a_lst a_mu a_ba a_bt a_cp (nI P) a_nx a_tl a_pe a_en a_pa (nI P) b_rgs b_sv b_co b_ro b_le b_lst b_mu b_ba b_bt b_cp (nI P) b_nx b_tl b_pe b_en b_pa (nI P) r_mp r_kn r_dd r_rd r_dn r_rn f_fl f_fu f_fw f_li (nI 233) f_nx f_tl f_pe f_en f_pa) ++ ((w7A cy ad7 thr xs (nI P) tcd frt frp lan man itm deg num mad inn lon goe tai per lea com see trc cou don nex res quo rou met) ++ ((sgS cy SL sln sia snn svv') ++ (sgP cy PL ppp pca pdg ptd pcc)))) := by
    show (((wX6_0_1 cy ad (nI P) xt st sh) ++ (sgS cy SL sln sia snn svv')) ++ (((w6A cy ad (nI P) xt st sh sf tr P (P + 1) (nI P) a_rgs a_sv a_co a_ro a_le a_lst a_mu a_ba a_bt a_cp (nI P) a_nx a_tl a_pe a_en a_pa (nI P) b_rgs b_sv b_co b_ro b_le b_lst b_mu b_ba b_bt b_cp (nI P) b_nx b_tl b_pe b_en b_pa (nI P) r_mp r_kn r_dd r_rd r_dn r_rn f_fl f_fu f_fw f_li (nI 233) f_nx f_tl f_pe f_en f_pa).drop 2) ++ ((w7A cy ad7 thr xs (nI P) tcd frt frp lan man itm deg num mad inn lon goe tai per lea com see trc cou don nex res quo rou met) ++ (sgP cy PL ppp pca pdg ptd pcc)))).Perm ((wX6_0_1 cy ad (nI P) xt st sh) ++ (((w6A cy ad (nI P) xt st sh sf tr P (P + 1) (nI P) a_rgs a_sv a_co a_ro a_le a_lst a_mu a_ba a_bt a_cp (nI P) a_nx a_tl a_pe a_en a_pa (nI P) b_rgs b_sv b_co b_ro b_le b_lst b_mu b_ba b_bt b_cp (nI P) b_nx b_tl b_pe b_en b_pa (nI P) r_mp r_kn r_dd r_rd r_dn r_rn f_fl f_fu f_fw f_li (nI 233) f_nx f_tl f_pe f_en f_pa).drop 2) ++ ((w7A cy ad7 thr xs (nI P) tcd frt frp lan man itm deg num mad inn lon goe tai per lea com see trc cou don nex res quo rou met) ++ ((sgS cy SL sln sia snn svv') ++ (sgP cy PL ppp pca pdg ptd pcc)))))
    rw [List.append_assoc (wX6_0_1 cy ad (nI P) xt st sh)]
    exact (List.Perm.append_left _ perm_s).symm
  have hP : va_P D vwCl ((w6A cy ad (nI P) xt st sh sf tr P (P + 1) (nI P) a_rgs a_sv a_co a_ro a_le a_lst a_mu a_ba a_bt a_cp (nI P) a_nx a_tl a_pe a_en a_pa (nI P) b_rgs b_sv b_co b_ro b_le b_lst b_mu b_ba b_bt b_cp (nI P) b_nx b_tl b_pe b_en b_pa (nI P) r_mp r_kn r_dd r_rd r_dn r_rn f_fl f_fu f_fw f_li (nI 233) f_nx f_tl f_pe f_en f_pa) ++ ((w7A cy ad7 thr xs (nI P) tcd frt frp lan man itm deg num mad inn lon goe tai per lea com see trc cou don nex res quo rou met) ++ ((sgS cy SL sln sia snn svv') ++ (sgP cy PL ppp pca pdg ptd pcc)))) H := P_perm hpm2 hP
  have hD : va_D A ((w6A cy ad (nI P) xt st sh sf tr P (P + 1) (nI P) a_rgs a_sv a_co a_ro a_le a_lst a_mu a_ba a_bt a_cp (nI P) a_nx a_tl a_pe a_en a_pa (nI P) b_rgs b_sv b_co b_ro b_le b_lst b_mu b_ba b_bt b_cp (nI P) b_nx b_tl b_pe b_en b_pa (nI P) r_mp r_kn r_dd r_rd r_dn r_rn f_fl f_fu f_fw f_li (nI 233) f_nx f_tl f_pe f_en f_pa) ++ ((w7A cy ad7 thr xs (nI P) tcd frt frp lan man itm deg num mad inn lon goe tai per lea com see trc cou don nex res quo rou met) ++ ((sgS cy SL sln sia snn svv') ++ (sgP cy PL ppp pca pdg ptd pcc)))) := D_perm hpm2 hD
  refine lv_aload_n hx hb dL_law_233 rfl (lv_at hl 1 rfl) ?_
  refine lv_aload_n hx hb dL_law_234 rfl (lv_at hl 3 rfl) ?_
  refine lv_iload_n hx hb dL_law_235 rfl (lv_at hl 0 rfl) ?_
  refine lv_iconst (v := 1) hx hb dL_law_236 (by decide) ?_
  refine lv_iadd hx hb dL_law_237 ?_
  refine va_sld hx hb hX hbl hbA hS hi1 dL_law_238 ?_
  refine lv_aload_n hx hb dL_law_239 rfl (lv_at hl 3 rfl) ?_
  refine lv_iload_n hx hb dL_law_240 rfl (lv_at hl 0 rfl) ?_
  refine lv_iconst (v := 2) hx hb dL_law_241 (by decide) ?_
  refine lv_iadd hx hb dL_law_242 ?_
  refine va_sld hx hb hX hbl hbA hS hi2 dL_law_243 ?_
  refine lv_aload_n hx hb dL_law_244 rfl (lv_at hl 3 rfl) ?_
  refine lv_iload_n hx hb dL_law_245 rfl (lv_at hl 0 rfl) ?_
  refine lv_iconst (v := 3) hx hb dL_law_246 (by decide) ?_
  refine lv_iadd hx hb dL_law_247 ?_
  refine va_sld hx hb hX hbl hbA hS hi3 dL_law_248 ?_
  refine lv_i2l hx hb dL_law_249 rfl ?_
  refine lv_bipush (v := 32) hx hb dL_law_250 (by decide) ?_
  refine lv_lshl hx hb dL_law_252 rfl ?_
  refine lv_aload_n hx hb dL_law_253 rfl (lv_at hl 3 rfl) ?_
  refine lv_iload_n hx hb dL_law_254 rfl (lv_at hl 0 rfl) ?_
  refine lv_iconst (v := 4) hx hb dL_law_255 (by decide) ?_
  refine lv_iadd hx hb dL_law_256 ?_
  refine va_sld hx hb hX hbl hbA hS hi4 dL_law_257 ?_
  refine lv_i2l hx hb dL_law_258 rfl ?_
  refine lv_ldc2 (own := RL) (v := 4294967295) hx hb hown (hts (.constantLong RL 26 (4294967295)) (by decide +kernel)) dL_law_259 ?_
  refine lv_land hx hb dL_law_262 ?_
  refine lv_lor hx hb dL_law_263 ?_
  refine ivW (As := [.int (xs_ (Int32.toNatClampNeg (nI i + 1))), .int (xs_ (Int32.toNatClampNeg (nI i + 2))), .long (((Int32.toInt64 (xs_ (Int32.toNatClampNeg (nI i + 3)))) <<< ((Int32.toInt64 32) &&& 63)) ||| ((Int32.toInt64 (xs_ (Int32.toNatClampNeg (nI i + 4)))) &&& 4294967295))]) (rest := [.long a]) (st1 := [.long a, .long a]) (is := [61, 62, 63, 64]) (w1 := (wX7_0_1_2_3 cy ad7 0 st (nI P) tcd frt frp lan man itm')) ⟨hx, hb, hml, hown, hts⟩ hK hN (KX7_set l D cy ad7 thr xs (nI P) tcd frt frp lan man itm (xs_ (Int32.toNatClampNeg (nI i + 1))) (xs_ (Int32.toNatClampNeg (nI i + 2))) (((Int32.toInt64 (xs_ (Int32.toNatClampNeg (nI i + 3)))) <<< ((Int32.toInt64 32) &&& 63)) ||| ((Int32.toInt64 (xs_ (Int32.toNatClampNeg (nI i + 4)))) &&& 4294967295)) H.size (out := (a, 0, st, itm')) e7) (cwV 3 hts gL_law_X7_set rfl rfl rfl (by decide +kernel) ⟨Nat.le_of_ble_eq_true rfl, Nat.le_of_ble_eq_true rfl⟩) (va_recv hK hP (ci := 7) (q0 := 61) rfl rfl) hP hD hS hA P_nil (sepW_nil _) (by decide) rfl rfl rfl hl.1 rfl (Nat.le_of_ble_eq_true rfl) rfl dL_law_264 ⟨by show cells + 0 ≤ 600000; omega, by show slots + 0 ≤ 7302250; omega⟩ (fun H locs hP hD hS => ?_)
  have hPD := PD_mrg (w2 := ((w6A cy ad (nI P) xt st sh sf tr P (P + 1) (nI P) a_rgs a_sv a_co a_ro a_le a_lst a_mu a_ba a_bt a_cp (nI P) a_nx a_tl a_pe a_en a_pa (nI P) b_rgs b_sv b_co b_ro b_le b_lst b_mu b_ba b_bt b_cp (nI P) b_nx b_tl b_pe b_en b_pa (nI P) r_mp r_kn r_dd r_rd r_dn r_rn f_fl f_fu f_fw f_li (nI 233) f_nx f_tl f_pe f_en f_pa) ++ ((w7A cy ad7 0 st (nI P) tcd frt frp lan man itm' deg num mad inn lon goe tai per lea com see trc cou don nex res quo rou met) ++ ((sgS cy SL sln sia snn svv') ++ (sgP cy PL ppp pca pdg ptd pcc))))) (by decide) rfl hP hD
  have hP := hPD.1
  have hD := hPD.2
  refine W.lcmp hx hb dL_law_267 ?_
  refine lv_if_eq (tgt := 1112) hx hb dL_law_268 (by decide) (fun hcmp => ?_) (fun hcmp => ?_)
  · refine W.widen (k := cells + 4) (n := slots + 260) (by omega) (by omega) ?_
    exact kk H locs (fun motive k => k ad ad7 P xt st sh sf tr a_rgs a_sv a_co a_ro a_le a_lst a_mu a_ba a_bt a_cp a_nx a_tl a_pe a_en a_pa b_rgs b_sv b_co b_ro b_le b_lst b_mu b_ba b_bt b_cp b_nx b_tl b_pe b_en b_pa r_mp r_kn r_dd r_rd r_dn r_rn f_fl f_fu f_fw f_li f_nx f_tl f_pe f_en f_pa 0 st tcd frt frp lan man itm' deg num mad inn lon goe tai per lea com see trc cou don nex res quo rou met SL sln sia snn svv' PL ppp pca pdg ptd pcc rfl rfl hPR rfl hsh' hg hsf htr hsv hsb hrd hfr hP hD) hS
  · exact absurd ((lg_cmp_eq _ _).mpr rfl) hcmp
set_option maxHeartbeats 4000000 in
set_option maxRecDepth 100000 in
theorem lc_copy {p : Program} {l : Launch} {e : Env} {s : State} {m : MethodId} {below : List Frame} {meth : Method} {c : Code} {Q : State → Prop} {D : va_G} {cy : Nat → ClassId} {A : Nat → Prop} {b L i q6 q7 cells slots : Nat} {xs_ : Nat → Int32} {H : Heap} {locs : List Loc} {ls : Array Slot} (hx : p.tables.exec = Jvm.exec) (hb : c.code = cL_law) (hml : c.maxLocals = 4) (hown : s.vm.findClass RL = some m.cls) (hts : ∀ w ∈ wsL_law, w.before #[Value.ref b] s = true) (hX : va_X b L xs_ s s.heap) (hbl : b < s.heap.size) (hbA : ¬ A b) (hA : ∀ q, s.heap.size ≤ q → A q) (hK : va_K D vwCl (TYs cy) s) (hN : NK s) (hi : i + 6 ≤ L) (hL : L ≤ 3073) (hLW : LW D cy A q6 q7 H) (hS : va_S A s.heap H locs) (hl : lv_has ls 4 [(3, .int (nI i)), (2, .ref q7), (1, .ref q6), (0, .ref b)]) (hc : cells + 4 ≤ 600000) (hs : slots + 260 ≤ 7302250) (kk : ∀ (H1 : Heap) (locs1 : List Loc), LW D cy A q6 q7 H1 → va_S A s.heap H1 locs1 → W p l e room_1 s m #[Value.ref b] below meth c H1 locs1 (cells + 4) (slots + 260) Q (F0 m 1112 ls [])) : W p l e room_1 s m #[Value.ref b] below meth c H locs cells slots Q (F0 m 273 ls []) := by
  refine hLW _ ?_
  intro ad ad7 P xt xs sh sf tr a_rgs a_sv a_co a_ro a_le a_lst a_mu a_ba a_bt a_cp a_nx a_tl a_pe a_en a_pa b_rgs b_sv b_co b_ro b_le b_lst b_mu b_ba b_bt b_cp b_nx b_tl b_pe b_en b_pa r_mp r_kn r_dd r_rd r_dn r_rn f_fl f_fu f_fw f_li f_nx f_tl f_pe f_en f_pa thr sta tcd frt frp lan man itm deg num mad inn lon goe tai per lea com see trc cou don nex res quo rou met SL sln sia snn svv PL ppp pca pdg ptd pcc hq6 hq7 hPR hst hsh hg hsf htr hsv hsb hrd hfr hP hD
  subst hq6 hq7 hst
  have hP1 : 1 < P := Nat.lt_of_lt_of_le (by omega) hPR.1
  have hP2 : P < 200 := hPR.2.1
  have hi1 : vp_in (nI i + 1) L := by
    rw [show (1 : Int32) = nI 1 from rfl, nI_add]
    exact in_n (by omega) (by omega)
  have hi2 : vp_in (nI i + 2) L := by
    rw [show (2 : Int32) = nI 2 from rfl, nI_add]
    exact in_n (by omega) (by omega)
  have hi3 : vp_in (nI i + 3) L := by
    rw [show (3 : Int32) = nI 3 from rfl, nI_add]
    exact in_n (by omega) (by omega)
  have hi4 : vp_in (nI i + 4) L := by
    rw [show (4 : Int32) = nI 4 from rfl, nI_add]
    exact in_n (by omega) (by omega)
  have hi5 : vp_in (nI i + 5) L := by
    rw [show (5 : Int32) = nI 5 from rfl, nI_add]
    exact in_n (by omega) (by omega)
  obtain ⟨a, st, itm', svv', e7, e6, hsh'⟩ := op_copy (sia := sia) (sta := xs) hsh (xs_ (Int32.toNatClampNeg (nI i + 1))) (xs_ (Int32.toNatClampNeg (nI i + 2))) (xs_ (Int32.toNatClampNeg (nI i + 3))) (xs_ (Int32.toNatClampNeg (nI i + 4))) (xs_ (Int32.toNatClampNeg (nI i + 5)))
  refine lv_aload_n hx hb dL_law_273 rfl (lv_at hl 2 rfl) ?_
  refine lv_aload_n hx hb dL_law_274 rfl (lv_at hl 3 rfl) ?_
  refine lv_iload_n hx hb dL_law_275 rfl (lv_at hl 0 rfl) ?_
  refine lv_iconst (v := 1) hx hb dL_law_276 (by decide) ?_
  refine lv_iadd hx hb dL_law_277 ?_
  refine va_sld hx hb hX hbl hbA hS hi1 dL_law_278 ?_
  refine lv_aload_n hx hb dL_law_279 rfl (lv_at hl 3 rfl) ?_
  refine lv_iload_n hx hb dL_law_280 rfl (lv_at hl 0 rfl) ?_
  refine lv_iconst (v := 2) hx hb dL_law_281 (by decide) ?_
  refine lv_iadd hx hb dL_law_282 ?_
  refine va_sld hx hb hX hbl hbA hS hi2 dL_law_283 ?_
  refine lv_aload_n hx hb dL_law_284 rfl (lv_at hl 3 rfl) ?_
  refine lv_iload_n hx hb dL_law_285 rfl (lv_at hl 0 rfl) ?_
  refine lv_iconst (v := 3) hx hb dL_law_286 (by decide) ?_
  refine lv_iadd hx hb dL_law_287 ?_
  refine va_sld hx hb hX hbl hbA hS hi3 dL_law_288 ?_
  refine lv_aload_n hx hb dL_law_289 rfl (lv_at hl 3 rfl) ?_
  refine lv_iload_n hx hb dL_law_290 rfl (lv_at hl 0 rfl) ?_
  refine lv_iconst (v := 4) hx hb dL_law_291 (by decide) ?_
  refine lv_iadd hx hb dL_law_292 ?_
  refine va_sld hx hb hX hbl hbA hS hi4 dL_law_293 ?_
  refine lv_aload_n hx hb dL_law_294 rfl (lv_at hl 3 rfl) ?_
  refine lv_iload_n hx hb dL_law_295 rfl (lv_at hl 0 rfl) ?_
  refine lv_iconst (v := 5) hx hb dL_law_296 (by decide) ?_
  refine lv_iadd hx hb dL_law_297 ?_
  refine va_sld hx hb hX hbl hbA hS hi5 dL_law_298 ?_
  have hpm : ((w6A cy ad (nI P) xt xs sh sf tr P (P + 1) (nI P) a_rgs a_sv a_co a_ro a_le a_lst a_mu a_ba a_bt a_cp (nI P) a_nx a_tl a_pe a_en a_pa (nI P) b_rgs b_sv b_co b_ro b_le b_lst b_mu b_ba b_bt b_cp (nI P) b_nx b_tl b_pe b_en b_pa (nI P) r_mp r_kn r_dd r_rd r_dn r_rn f_fl f_fu f_fw f_li (nI 233) f_nx f_tl f_pe f_en f_pa) ++ ((w7A cy ad7 thr xs (nI P) tcd frt frp lan man itm deg num mad inn lon goe tai per lea com see trc cou don nex res quo rou met) ++ ((sgS cy SL sln sia snn svv) ++ (sgP cy PL ppp pca pdg ptd pcc)))).Perm (((wX6_0_1 cy ad (nI P) xt xs sh) ++ (sgS cy SL sln sia snn svv)) ++ (((w6A cy ad (nI P) xt xs sh sf tr P (P + 1) (nI P) a_rgs a_sv a_co a_ro a_le a_lst a_mu a_ba a_bt a_cp (nI P) a_nx a_tl a_pe a_en a_pa (nI P) b_rgs b_sv b_co b_ro b_le b_lst b_mu b_ba b_bt b_cp (nI P) b_nx b_tl b_pe b_en b_pa (nI P) r_mp r_kn r_dd r_rd r_dn r_rn f_fl f_fu f_fw f_li (nI 233) f_nx f_tl f_pe f_en f_pa).drop 2) ++ ((w7A cy ad7 thr xs (nI P) tcd frt frp lan man itm deg num mad inn lon goe tai per lea com see trc cou don nex res quo rou met) ++ (sgP cy PL ppp pca pdg ptd pcc)))) := by
    show ((wX6_0_1 cy ad (nI P) xt xs sh) ++ (((w6A cy ad (nI P) xt xs sh sf tr P (P + 1) (nI P) a_rgs a_sv a_co a_ro a_le a_lst a_mu a_ba a_bt a_cp (nI P) a_nx a_tl a_pe a_en a_pa (nI P) b_rgs b_sv b_co b_ro b_le b_lst b_mu b_ba b_bt b_cp (nI P) b_nx b_tl b_pe b_en b_pa (nI P) r_mp r_kn r_dd r_rd r_dn r_rn f_fl f_fu f_fw f_li (nI 233) f_nx f_tl f_pe f_en f_pa).drop 2) ++ ((w7A cy ad7 thr xs (nI P) tcd frt frp lan man itm deg num mad inn lon goe tai per lea com see trc cou don nex res quo rou met) ++ ((sgS cy SL sln sia snn svv) ++ (sgP cy PL ppp pca pdg ptd pcc))))).Perm (((wX6_0_1 cy ad (nI P) xt xs sh) ++ (sgS cy SL sln sia snn svv)) ++ (((w6A cy ad (nI P) xt xs sh sf tr P (P + 1) (nI P) a_rgs a_sv a_co a_ro a_le a_lst a_mu a_ba a_bt a_cp (nI P) a_nx a_tl a_pe a_en a_pa (nI P) b_rgs b_sv b_co b_ro b_le b_lst b_mu b_ba b_bt b_cp (nI P) b_nx b_tl b_pe b_en b_pa (nI P) r_mp r_kn r_dd r_rd r_dn r_rn f_fl f_fu f_fw f_li (nI 233) f_nx f_tl f_pe f_en f_pa).drop 2) ++ ((w7A cy ad7 thr xs (nI P) tcd frt frp lan man itm deg num mad inn lon goe tai per lea com see trc cou don nex res quo rou met) ++ (sgP cy PL ppp pca pdg ptd pcc))))
    rw [List.append_assoc (wX6_0_1 cy ad (nI P) xt xs sh)]
    exact List.Perm.append_left _ perm_s
  refine ivWf (As := [.int (xs_ (Int32.toNatClampNeg (nI i + 1))), .int (xs_ (Int32.toNatClampNeg (nI i + 2))), .int (xs_ (Int32.toNatClampNeg (nI i + 3))), .int (xs_ (Int32.toNatClampNeg (nI i + 4))), .int (xs_ (Int32.toNatClampNeg (nI i + 5)))]) (rest := []) (wc := ((wX6_0_1 cy ad (nI P) xt xs sh) ++ (sgS cy SL sln sia snn svv))) (rs := (((w6A cy ad (nI P) xt xs sh sf tr P (P + 1) (nI P) a_rgs a_sv a_co a_ro a_le a_lst a_mu a_ba a_bt a_cp (nI P) a_nx a_tl a_pe a_en a_pa (nI P) b_rgs b_sv b_co b_ro b_le b_lst b_mu b_ba b_bt b_cp (nI P) b_nx b_tl b_pe b_en b_pa (nI P) r_mp r_kn r_dd r_rd r_dn r_rn f_fl f_fu f_fw f_li (nI 233) f_nx f_tl f_pe f_en f_pa).drop 2) ++ ((w7A cy ad7 thr xs (nI P) tcd frt frp lan man itm deg num mad inn lon goe tai per lea com see trc cou don nex res quo rou met) ++ (sgP cy PL ppp pca pdg ptd pcc)))) (w1 := ((wX6_0_1 cy ad (nI P) xt st sh) ++ (sgS cy SL sln sia snn svv'))) (st1 := [.int a]) ⟨hx, hb, hml, hown, hts⟩ hK hN (KX6_copy l D cy ad (nI P) xt xs sh SL sln sia snn svv (xs_ (Int32.toNatClampNeg (nI i + 1))) (xs_ (Int32.toNatClampNeg (nI i + 2))) (xs_ (Int32.toNatClampNeg (nI i + 3))) (xs_ (Int32.toNatClampNeg (nI i + 4))) (xs_ (Int32.toNatClampNeg (nI i + 5))) H.size (out := (a, st, svv')) e6) (cwV 5 hts gL_law_X6_copy rfl rfl rfl (by decide +kernel) ⟨Nat.le_of_ble_eq_true rfl, Nat.le_of_ble_eq_true rfl⟩) (va_recv hK hP (ci := 6) (q0 := 0) rfl rfl) (P_perm hpm hP) (D_perm hpm hD) hS hA P_nil (sepW_nil _) (fst_app rfl) rfl hl.1 rfl (Nat.le_of_ble_eq_true rfl) rfl dL_law_299 ⟨by show cells ≤ 600000; omega, by show slots ≤ 7302250; omega⟩ (fun H locs hP hD hS => ?_)
  have hpm2 : (((wX6_0_1 cy ad (nI P) xt st sh) ++ (sgS cy SL sln sia snn svv')) ++ (((w6A cy ad (nI P) xt xs sh sf tr P (P + 1) (nI P) a_rgs a_sv a_co a_ro a_le a_lst a_mu a_ba a_bt a_cp (nI P) a_nx a_tl a_pe a_en a_pa (nI P) b_rgs b_sv b_co b_ro b_le b_lst b_mu b_ba b_bt b_cp (nI P) b_nx b_tl b_pe b_en b_pa (nI P) r_mp r_kn r_dd r_rd r_dn r_rn f_fl f_fu f_fw f_li (nI 233) f_nx f_tl f_pe f_en f_pa).drop 2) ++ ((w7A cy ad7 thr xs (nI P) tcd frt frp lan man itm deg num mad inn lon goe tai per lea com see trc cou don nex res quo rou met) ++ (sgP cy PL ppp pca pdg ptd pcc)))).Perm ((w6A cy ad (nI P) xt st sh sf tr P (P + 1) (nI P) a_rgs a_sv a_co a_ro a_le a_lst a_mu a_ba a_bt a_cp (nI P) a_nx a_tl a_pe a_en a_pa (nI P) b_rgs b_sv b_co b_ro b_le b_lst b_mu b_ba b_bt b_cp (nI P) b_nx b_tl b_pe b_en b_pa (nI P) r_mp r_kn r_dd r_rd r_dn r_rn f_fl f_fu f_fw f_li (nI 233) f_nx f_tl f_pe f_en f_pa) ++ ((w7A cy ad7 thr xs (nI P) tcd frt frp lan man itm deg num mad inn lon goe tai per lea com see trc cou don nex res quo rou met) ++ ((sgS cy SL sln sia snn svv') ++ (sgP cy PL ppp pca pdg ptd pcc)))) := by
    show (((wX6_0_1 cy ad (nI P) xt st sh) ++ (sgS cy SL sln sia snn svv')) ++ (((w6A cy ad (nI P) xt st sh sf tr P (P + 1) (nI P) a_rgs a_sv a_co a_ro a_le a_lst a_mu a_ba a_bt a_cp (nI P) a_nx a_tl a_pe a_en a_pa (nI P) b_rgs b_sv b_co b_ro b_le b_lst b_mu b_ba b_bt b_cp (nI P) b_nx b_tl b_pe b_en b_pa (nI P) r_mp r_kn r_dd r_rd r_dn r_rn f_fl f_fu f_fw f_li (nI 233) f_nx f_tl f_pe f_en f_pa).drop 2) ++ ((w7A cy ad7 thr xs (nI P) tcd frt frp lan man itm deg num mad inn lon goe tai per lea com see trc cou don nex res quo rou met) ++ (sgP cy PL ppp pca pdg ptd pcc)))).Perm ((wX6_0_1 cy ad (nI P) xt st sh) ++ (((w6A cy ad (nI P) xt st sh sf tr P (P + 1) (nI P) a_rgs a_sv a_co a_ro a_le a_lst a_mu a_ba a_bt a_cp (nI P) a_nx a_tl a_pe a_en a_pa (nI P) b_rgs b_sv b_co b_ro b_le b_lst b_mu b_ba b_bt b_cp (nI P) b_nx b_tl b_pe b_en b_pa (nI P) r_mp r_kn r_dd r_rd r_dn r_rn f_fl f_fu f_fw f_li (nI 233) f_nx f_tl f_pe f_en f_pa).drop 2) ++ ((w7A cy ad7 thr xs (nI P) tcd frt frp lan man itm deg num mad inn lon goe tai per lea com see trc cou don nex res quo rou met) ++ ((sgS cy SL sln sia snn svv') ++ (sgP cy PL ppp pca pdg ptd pcc)))))
    rw [List.append_assoc (wX6_0_1 cy ad (nI P) xt st sh)]
    exact (List.Perm.append_left _ perm_s).symm
  have hP : va_P D vwCl ((w6A cy ad (nI P) xt st sh sf tr P (P + 1) (nI P) a_rgs a_sv a_co a_ro a_le a_lst a_mu a_ba a_bt a_cp (nI P) a_nx a_tl a_pe a_en a_pa (nI P) b_rgs b_sv b_co b_ro b_le b_lst b_mu b_ba b_bt b_cp (nI P) b_nx b_tl b_pe b_en b_pa (nI P) r_mp r_kn r_dd r_rd r_dn r_rn f_fl f_fu f_fw f_li (nI 233) f_nx f_tl f_pe f_en f_pa) ++ ((w7A cy ad7 thr xs (nI P) tcd frt frp lan man itm deg num mad inn lon goe tai per lea com see trc cou don nex res quo rou met) ++ ((sgS cy SL sln sia snn svv') ++ (sgP cy PL ppp pca pdg ptd pcc)))) H := P_perm hpm2 hP
  have hD : va_D A ((w6A cy ad (nI P) xt st sh sf tr P (P + 1) (nI P) a_rgs a_sv a_co a_ro a_le a_lst a_mu a_ba a_bt a_cp (nI P) a_nx a_tl a_pe a_en a_pa (nI P) b_rgs b_sv b_co b_ro b_le b_lst b_mu b_ba b_bt b_cp (nI P) b_nx b_tl b_pe b_en b_pa (nI P) r_mp r_kn r_dd r_rd r_dn r_rn f_fl f_fu f_fw f_li (nI 233) f_nx f_tl f_pe f_en f_pa) ++ ((w7A cy ad7 thr xs (nI P) tcd frt frp lan man itm deg num mad inn lon goe tai per lea com see trc cou don nex res quo rou met) ++ ((sgS cy SL sln sia snn svv') ++ (sgP cy PL ppp pca pdg ptd pcc)))) := D_perm hpm2 hD
  refine lv_aload_n hx hb dL_law_302 rfl (lv_at hl 1 rfl) ?_
  refine lv_aload_n hx hb dL_law_303 rfl (lv_at hl 3 rfl) ?_
  refine lv_iload_n hx hb dL_law_304 rfl (lv_at hl 0 rfl) ?_
  refine lv_iconst (v := 1) hx hb dL_law_305 (by decide) ?_
  refine lv_iadd hx hb dL_law_306 ?_
  refine va_sld hx hb hX hbl hbA hS hi1 dL_law_307 ?_
  refine lv_aload_n hx hb dL_law_308 rfl (lv_at hl 3 rfl) ?_
  refine lv_iload_n hx hb dL_law_309 rfl (lv_at hl 0 rfl) ?_
  refine lv_iconst (v := 2) hx hb dL_law_310 (by decide) ?_
  refine lv_iadd hx hb dL_law_311 ?_
  refine va_sld hx hb hX hbl hbA hS hi2 dL_law_312 ?_
  refine lv_aload_n hx hb dL_law_313 rfl (lv_at hl 3 rfl) ?_
  refine lv_iload_n hx hb dL_law_314 rfl (lv_at hl 0 rfl) ?_
  refine lv_iconst (v := 3) hx hb dL_law_315 (by decide) ?_
  refine lv_iadd hx hb dL_law_316 ?_
  refine va_sld hx hb hX hbl hbA hS hi3 dL_law_317 ?_
  refine lv_aload_n hx hb dL_law_318 rfl (lv_at hl 3 rfl) ?_
  refine lv_iload_n hx hb dL_law_319 rfl (lv_at hl 0 rfl) ?_
  refine lv_iconst (v := 4) hx hb dL_law_320 (by decide) ?_
  refine lv_iadd hx hb dL_law_321 ?_
  refine va_sld hx hb hX hbl hbA hS hi4 dL_law_322 ?_
  refine lv_aload_n hx hb dL_law_323 rfl (lv_at hl 3 rfl) ?_
  refine lv_iload_n hx hb dL_law_324 rfl (lv_at hl 0 rfl) ?_
  refine lv_iconst (v := 5) hx hb dL_law_325 (by decide) ?_
  refine lv_iadd hx hb dL_law_326 ?_
  refine va_sld hx hb hX hbl hbA hS hi5 dL_law_327 ?_
  refine ivW (As := [.int (xs_ (Int32.toNatClampNeg (nI i + 1))), .int (xs_ (Int32.toNatClampNeg (nI i + 2))), .int (xs_ (Int32.toNatClampNeg (nI i + 3))), .int (xs_ (Int32.toNatClampNeg (nI i + 4))), .int (xs_ (Int32.toNatClampNeg (nI i + 5)))]) (rest := [.int a]) (st1 := [.int a, .int a]) (is := [61, 62, 63, 64]) (w1 := (wX7_0_1_2_3 cy ad7 0 st (nI P) tcd frt frp lan man itm')) ⟨hx, hb, hml, hown, hts⟩ hK hN (KX7_copy l D cy ad7 thr xs (nI P) tcd frt frp lan man itm (xs_ (Int32.toNatClampNeg (nI i + 1))) (xs_ (Int32.toNatClampNeg (nI i + 2))) (xs_ (Int32.toNatClampNeg (nI i + 3))) (xs_ (Int32.toNatClampNeg (nI i + 4))) (xs_ (Int32.toNatClampNeg (nI i + 5))) H.size (out := (a, 0, st, itm')) e7) (cwV 5 hts gL_law_X7_copy rfl rfl rfl (by decide +kernel) ⟨Nat.le_of_ble_eq_true rfl, Nat.le_of_ble_eq_true rfl⟩) (va_recv hK hP (ci := 7) (q0 := 61) rfl rfl) hP hD hS hA P_nil (sepW_nil _) (by decide) rfl rfl rfl hl.1 rfl (Nat.le_of_ble_eq_true rfl) rfl dL_law_328 ⟨by show cells + 0 ≤ 600000; omega, by show slots + 0 ≤ 7302250; omega⟩ (fun H locs hP hD hS => ?_)
  have hPD := PD_mrg (w2 := ((w6A cy ad (nI P) xt st sh sf tr P (P + 1) (nI P) a_rgs a_sv a_co a_ro a_le a_lst a_mu a_ba a_bt a_cp (nI P) a_nx a_tl a_pe a_en a_pa (nI P) b_rgs b_sv b_co b_ro b_le b_lst b_mu b_ba b_bt b_cp (nI P) b_nx b_tl b_pe b_en b_pa (nI P) r_mp r_kn r_dd r_rd r_dn r_rn f_fl f_fu f_fw f_li (nI 233) f_nx f_tl f_pe f_en f_pa) ++ ((w7A cy ad7 0 st (nI P) tcd frt frp lan man itm' deg num mad inn lon goe tai per lea com see trc cou don nex res quo rou met) ++ ((sgS cy SL sln sia snn svv') ++ (sgP cy PL ppp pca pdg ptd pcc))))) (by decide) rfl hP hD
  have hP := hPD.1
  have hD := hPD.2
  refine lv_icmp_eq (tgt := 1112) hx hb dL_law_331 (by decide) (fun hcmp => ?_) (fun hcmp => ?_)
  · refine W.widen (k := cells + 4) (n := slots + 260) (by omega) (by omega) ?_
    exact kk H locs (fun motive k => k ad ad7 P xt st sh sf tr a_rgs a_sv a_co a_ro a_le a_lst a_mu a_ba a_bt a_cp a_nx a_tl a_pe a_en a_pa b_rgs b_sv b_co b_ro b_le b_lst b_mu b_ba b_bt b_cp b_nx b_tl b_pe b_en b_pa r_mp r_kn r_dd r_rd r_dn r_rn f_fl f_fu f_fw f_li f_nx f_tl f_pe f_en f_pa 0 st tcd frt frp lan man itm' deg num mad inn lon goe tai per lea com see trc cou don nex res quo rou met SL sln sia snn svv' PL ppp pca pdg ptd pcc rfl rfl hPR rfl hsh' hg hsf htr hsv hsb hrd hfr hP hD) hS
  · exact absurd (rfl) hcmp
set_option maxHeartbeats 4000000 in
set_option maxRecDepth 100000 in
theorem lc_drop {p : Program} {l : Launch} {e : Env} {s : State} {m : MethodId} {below : List Frame} {meth : Method} {c : Code} {Q : State → Prop} {D : va_G} {cy : Nat → ClassId} {A : Nat → Prop} {b L i q6 q7 cells slots : Nat} {xs_ : Nat → Int32} {H : Heap} {locs : List Loc} {ls : Array Slot} (hx : p.tables.exec = Jvm.exec) (hb : c.code = cL_law) (hml : c.maxLocals = 4) (hown : s.vm.findClass RL = some m.cls) (hts : ∀ w ∈ wsL_law, w.before #[Value.ref b] s = true) (hX : va_X b L xs_ s s.heap) (hbl : b < s.heap.size) (hbA : ¬ A b) (hA : ∀ q, s.heap.size ≤ q → A q) (hK : va_K D vwCl (TYs cy) s) (hN : NK s) (hi : i + 6 ≤ L) (hL : L ≤ 3073) (hLW : LW D cy A q6 q7 H) (hS : va_S A s.heap H locs) (hl : lv_has ls 4 [(3, .int (nI i)), (2, .ref q7), (1, .ref q6), (0, .ref b)]) (hc : cells + 4 ≤ 600000) (hs : slots + 260 ≤ 7302250) (kk : ∀ (H1 : Heap) (locs1 : List Loc), LW D cy A q6 q7 H1 → va_S A s.heap H1 locs1 → W p l e room_1 s m #[Value.ref b] below meth c H1 locs1 (cells + 4) (slots + 260) Q (F0 m 1112 ls [])) : W p l e room_1 s m #[Value.ref b] below meth c H locs cells slots Q (F0 m 336 ls []) := by
  refine hLW _ ?_
  intro ad ad7 P xt xs sh sf tr a_rgs a_sv a_co a_ro a_le a_lst a_mu a_ba a_bt a_cp a_nx a_tl a_pe a_en a_pa b_rgs b_sv b_co b_ro b_le b_lst b_mu b_ba b_bt b_cp b_nx b_tl b_pe b_en b_pa r_mp r_kn r_dd r_rd r_dn r_rn f_fl f_fu f_fw f_li f_nx f_tl f_pe f_en f_pa thr sta tcd frt frp lan man itm deg num mad inn lon goe tai per lea com see trc cou don nex res quo rou met SL sln sia snn svv PL ppp pca pdg ptd pcc hq6 hq7 hPR hst hsh hg hsf htr hsv hsb hrd hfr hP hD
  subst hq6 hq7 hst
  have hP1 : 1 < P := Nat.lt_of_lt_of_le (by omega) hPR.1
  have hP2 : P < 200 := hPR.2.1
  have hi1 : vp_in (nI i + 1) L := by
    rw [show (1 : Int32) = nI 1 from rfl, nI_add]
    exact in_n (by omega) (by omega)
  have hi2 : vp_in (nI i + 2) L := by
    rw [show (2 : Int32) = nI 2 from rfl, nI_add]
    exact in_n (by omega) (by omega)
  have hi3 : vp_in (nI i + 3) L := by
    rw [show (3 : Int32) = nI 3 from rfl, nI_add]
    exact in_n (by omega) (by omega)
  have hi4 : vp_in (nI i + 4) L := by
    rw [show (4 : Int32) = nI 4 from rfl, nI_add]
    exact in_n (by omega) (by omega)
  have hi5 : vp_in (nI i + 5) L := by
    rw [show (5 : Int32) = nI 5 from rfl, nI_add]
    exact in_n (by omega) (by omega)
  obtain ⟨a, st, lan', sh', e7, e6, hsh'⟩ := op_drop (sia := sia) (sta := xs) hsh (xs_ (Int32.toNatClampNeg (nI i + 1)))
  refine lv_aload_n hx hb dL_law_336 rfl (lv_at hl 2 rfl) ?_
  refine lv_aload_n hx hb dL_law_337 rfl (lv_at hl 3 rfl) ?_
  refine lv_iload_n hx hb dL_law_338 rfl (lv_at hl 0 rfl) ?_
  refine lv_iconst (v := 1) hx hb dL_law_339 (by decide) ?_
  refine lv_iadd hx hb dL_law_340 ?_
  refine va_sld hx hb hX hbl hbA hS hi1 dL_law_341 ?_
  refine ivW (As := [.int (xs_ (Int32.toNatClampNeg (nI i + 1)))]) (rest := []) (st1 := [.int a]) (is := [0, 1]) (w1 := (wX6_0_1 cy ad (nI P) xt st sh')) ⟨hx, hb, hml, hown, hts⟩ hK hN (KX6_drop l D cy ad (nI P) xt xs sh SL sln sia snn svv (xs_ (Int32.toNatClampNeg (nI i + 1))) H.size (out := (a, st, sh')) e6) (cwV 1 hts gL_law_X6_drop rfl rfl rfl (by decide +kernel) ⟨Nat.le_of_ble_eq_true rfl, Nat.le_of_ble_eq_true rfl⟩) (va_recv hK hP (ci := 6) (q0 := 0) rfl rfl) hP hD hS hA (P_left (P_right (P_right hP))) (sepE (N := 61) (is := [0, 1]) hD rfl rfl (by decide) (fun q h => List.mem_append_right _ (List.mem_append_left _ h))) (by decide) rfl rfl rfl hl.1 rfl (Nat.le_of_ble_eq_true rfl) rfl dL_law_342 ⟨by show cells + 0 ≤ 600000; omega, by show slots + 0 ≤ 7302250; omega⟩ (fun H locs hP hD hS => ?_)
  have hPD := PD_mrg (w2 := ((w6A cy ad (nI P) xt st sh' sf tr P (P + 1) (nI P) a_rgs a_sv a_co a_ro a_le a_lst a_mu a_ba a_bt a_cp (nI P) a_nx a_tl a_pe a_en a_pa (nI P) b_rgs b_sv b_co b_ro b_le b_lst b_mu b_ba b_bt b_cp (nI P) b_nx b_tl b_pe b_en b_pa (nI P) r_mp r_kn r_dd r_rd r_dn r_rn f_fl f_fu f_fw f_li (nI 233) f_nx f_tl f_pe f_en f_pa) ++ ((w7A cy ad7 thr xs (nI P) tcd frt frp lan man itm deg num mad inn lon goe tai per lea com see trc cou don nex res quo rou met) ++ ((sgS cy SL sln sia snn svv) ++ (sgP cy PL ppp pca pdg ptd pcc))))) (by decide) rfl hP hD
  have hP := hPD.1
  have hD := hPD.2
  refine lv_aload_n hx hb dL_law_345 rfl (lv_at hl 1 rfl) ?_
  refine lv_aload_n hx hb dL_law_346 rfl (lv_at hl 3 rfl) ?_
  refine lv_iload_n hx hb dL_law_347 rfl (lv_at hl 0 rfl) ?_
  refine lv_iconst (v := 1) hx hb dL_law_348 (by decide) ?_
  refine lv_iadd hx hb dL_law_349 ?_
  refine va_sld hx hb hX hbl hbA hS hi1 dL_law_350 ?_
  refine ivW (As := [.int (xs_ (Int32.toNatClampNeg (nI i + 1)))]) (rest := [.int a]) (st1 := [.int a, .int a]) (is := [61, 62, 63]) (w1 := (wX7_0_1_2 cy ad7 0 st (nI P) tcd frt frp lan' man)) ⟨hx, hb, hml, hown, hts⟩ hK hN (KX7_drop l D cy ad7 thr xs (nI P) tcd frt frp lan man (xs_ (Int32.toNatClampNeg (nI i + 1))) H.size (out := (a, 0, st, lan')) e7) (cwV 1 hts gL_law_X7_drop rfl rfl rfl (by decide +kernel) ⟨Nat.le_of_ble_eq_true rfl, Nat.le_of_ble_eq_true rfl⟩) (va_recv hK hP (ci := 7) (q0 := 61) rfl rfl) hP hD hS hA P_nil (sepW_nil _) (by decide) rfl rfl rfl hl.1 rfl (Nat.le_of_ble_eq_true rfl) rfl dL_law_351 ⟨by show cells + 0 ≤ 600000; omega, by show slots + 0 ≤ 7302250; omega⟩ (fun H locs hP hD hS => ?_)
  have hPD := PD_mrg (w2 := ((w6A cy ad (nI P) xt st sh' sf tr P (P + 1) (nI P) a_rgs a_sv a_co a_ro a_le a_lst a_mu a_ba a_bt a_cp (nI P) a_nx a_tl a_pe a_en a_pa (nI P) b_rgs b_sv b_co b_ro b_le b_lst b_mu b_ba b_bt b_cp (nI P) b_nx b_tl b_pe b_en b_pa (nI P) r_mp r_kn r_dd r_rd r_dn r_rn f_fl f_fu f_fw f_li (nI 233) f_nx f_tl f_pe f_en f_pa) ++ ((w7A cy ad7 0 st (nI P) tcd frt frp lan' man itm deg num mad inn lon goe tai per lea com see trc cou don nex res quo rou met) ++ ((sgS cy SL sln sia snn svv) ++ (sgP cy PL ppp pca pdg ptd pcc))))) (by decide) rfl hP hD
  have hP := hPD.1
  have hD := hPD.2
  refine lv_icmp_eq (tgt := 1112) hx hb dL_law_354 (by decide) (fun hcmp => ?_) (fun hcmp => ?_)
  · refine W.widen (k := cells + 4) (n := slots + 260) (by omega) (by omega) ?_
    exact kk H locs (fun motive k => k ad ad7 P xt st sh' sf tr a_rgs a_sv a_co a_ro a_le a_lst a_mu a_ba a_bt a_cp a_nx a_tl a_pe a_en a_pa b_rgs b_sv b_co b_ro b_le b_lst b_mu b_ba b_bt b_cp b_nx b_tl b_pe b_en b_pa r_mp r_kn r_dd r_rd r_dn r_rn f_fl f_fu f_fw f_li f_nx f_tl f_pe f_en f_pa 0 st tcd frt frp lan' man itm deg num mad inn lon goe tai per lea com see trc cou don nex res quo rou met SL sln sia snn svv PL ppp pca pdg ptd pcc rfl rfl hPR rfl hsh' hg hsf htr hsv hsb hrd hfr hP hD) hS
  · exact absurd (rfl) hcmp
set_option maxHeartbeats 4000000 in
set_option maxRecDepth 100000 in
theorem lc_map {p : Program} {l : Launch} {e : Env} {s : State} {m : MethodId} {below : List Frame} {meth : Method} {c : Code} {Q : State → Prop} {D : va_G} {cy : Nat → ClassId} {A : Nat → Prop} {b L i q6 q7 cells slots : Nat} {xs_ : Nat → Int32} {H : Heap} {locs : List Loc} {ls : Array Slot} (hx : p.tables.exec = Jvm.exec) (hb : c.code = cL_law) (hml : c.maxLocals = 4) (hown : s.vm.findClass RL = some m.cls) (hts : ∀ w ∈ wsL_law, w.before #[Value.ref b] s = true) (hX : va_X b L xs_ s s.heap) (hbl : b < s.heap.size) (hbA : ¬ A b) (hA : ∀ q, s.heap.size ≤ q → A q) (hK : va_K D vwCl (TYs cy) s) (hN : NK s) (hi : i + 6 ≤ L) (hL : L ≤ 3073) (hLW : LW D cy A q6 q7 H) (hS : va_S A s.heap H locs) (hl : lv_has ls 4 [(3, .int (nI i)), (2, .ref q7), (1, .ref q6), (0, .ref b)]) (hc : cells + 4 ≤ 600000) (hs : slots + 260 ≤ 7302250) (kk : ∀ (H1 : Heap) (locs1 : List Loc), LW D cy A q6 q7 H1 → va_S A s.heap H1 locs1 → W p l e room_1 s m #[Value.ref b] below meth c H1 locs1 (cells + 4) (slots + 260) Q (F0 m 1112 ls [])) : W p l e room_1 s m #[Value.ref b] below meth c H locs cells slots Q (F0 m 359 ls []) := by
  refine hLW _ ?_
  intro ad ad7 P xt xs sh sf tr a_rgs a_sv a_co a_ro a_le a_lst a_mu a_ba a_bt a_cp a_nx a_tl a_pe a_en a_pa b_rgs b_sv b_co b_ro b_le b_lst b_mu b_ba b_bt b_cp b_nx b_tl b_pe b_en b_pa r_mp r_kn r_dd r_rd r_dn r_rn f_fl f_fu f_fw f_li f_nx f_tl f_pe f_en f_pa thr sta tcd frt frp lan man itm deg num mad inn lon goe tai per lea com see trc cou don nex res quo rou met SL sln sia snn svv PL ppp pca pdg ptd pcc hq6 hq7 hPR hst hsh hg hsf htr hsv hsb hrd hfr hP hD
  subst hq6 hq7 hst
  have hP1 : 1 < P := Nat.lt_of_lt_of_le (by omega) hPR.1
  have hP2 : P < 200 := hPR.2.1
  have hi1 : vp_in (nI i + 1) L := by
    rw [show (1 : Int32) = nI 1 from rfl, nI_add]
    exact in_n (by omega) (by omega)
  have hi2 : vp_in (nI i + 2) L := by
    rw [show (2 : Int32) = nI 2 from rfl, nI_add]
    exact in_n (by omega) (by omega)
  have hi3 : vp_in (nI i + 3) L := by
    rw [show (3 : Int32) = nI 3 from rfl, nI_add]
    exact in_n (by omega) (by omega)
  have hi4 : vp_in (nI i + 4) L := by
    rw [show (4 : Int32) = nI 4 from rfl, nI_add]
    exact in_n (by omega) (by omega)
  have hi5 : vp_in (nI i + 5) L := by
    rw [show (5 : Int32) = nI 5 from rfl, nI_add]
    exact in_n (by omega) (by omega)
  obtain ⟨a, st, deg', num', mad', f, pp, d, t, mk, e7, e6, hm⟩ := op_map (sia := sia) (sta := xs) (deg := deg) (num := num) (mad := mad) hP1 hP2 hsh (xs_ (Int32.toNatClampNeg (nI i + 1))) (xs_ (Int32.toNatClampNeg (nI i + 2))) (xs_ (Int32.toNatClampNeg (nI i + 3))) (xs_ (Int32.toNatClampNeg (nI i + 4)))
  cases mk with
  | false =>
    refine lv_aload_n hx hb dL_law_359 rfl (lv_at hl 2 rfl) ?_
    refine lv_aload_n hx hb dL_law_360 rfl (lv_at hl 3 rfl) ?_
    refine lv_iload_n hx hb dL_law_361 rfl (lv_at hl 0 rfl) ?_
    refine lv_iconst (v := 1) hx hb dL_law_362 (by decide) ?_
    refine lv_iadd hx hb dL_law_363 ?_
    refine va_sld hx hb hX hbl hbA hS hi1 dL_law_364 ?_
    refine lv_aload_n hx hb dL_law_365 rfl (lv_at hl 3 rfl) ?_
    refine lv_iload_n hx hb dL_law_366 rfl (lv_at hl 0 rfl) ?_
    refine lv_iconst (v := 2) hx hb dL_law_367 (by decide) ?_
    refine lv_iadd hx hb dL_law_368 ?_
    refine va_sld hx hb hX hbl hbA hS hi2 dL_law_369 ?_
    refine lv_aload_n hx hb dL_law_370 rfl (lv_at hl 3 rfl) ?_
    refine lv_iload_n hx hb dL_law_371 rfl (lv_at hl 0 rfl) ?_
    refine lv_iconst (v := 3) hx hb dL_law_372 (by decide) ?_
    refine lv_iadd hx hb dL_law_373 ?_
    refine va_sld hx hb hX hbl hbA hS hi3 dL_law_374 ?_
    refine lv_aload_n hx hb dL_law_375 rfl (lv_at hl 3 rfl) ?_
    refine lv_iload_n hx hb dL_law_376 rfl (lv_at hl 0 rfl) ?_
    refine lv_iconst (v := 4) hx hb dL_law_377 (by decide) ?_
    refine lv_iadd hx hb dL_law_378 ?_
    refine va_sld hx hb hX hbl hbA hS hi4 dL_law_379 ?_
    refine ivN0 (As := [.int (xs_ (Int32.toNatClampNeg (nI i + 1))), .int (xs_ (Int32.toNatClampNeg (nI i + 2))), .int (xs_ (Int32.toNatClampNeg (nI i + 3))), .int (xs_ (Int32.toNatClampNeg (nI i + 4)))]) (rest := []) (st1 := [.int a]) (is := [0, 1, 2]) (w1 := (wX6_0_1_2 cy ad (nI P) xt st sh sf)) ⟨hx, hb, hml, hown, hts⟩ hK hN (KX6_map l D cy ad (nI P) xt xs sh sf SL sln sia snn svv (xs_ (Int32.toNatClampNeg (nI i + 1))) (xs_ (Int32.toNatClampNeg (nI i + 2))) (xs_ (Int32.toNatClampNeg (nI i + 3))) (xs_ (Int32.toNatClampNeg (nI i + 4))) H.size (out := (a, st, f, pp, d, t, false)) e6) (cwV 4 hts gL_law_X6_map rfl rfl rfl (by decide +kernel) ⟨Nat.le_of_ble_eq_true rfl, Nat.le_of_ble_eq_true rfl⟩) (va_recv hK hP (ci := 6) (q0 := 0) rfl rfl) hP hD hS hA (P_left (P_right (P_right hP))) (sepE (N := 61) (is := [0, 1, 2]) hD rfl rfl (by decide) (fun q h => List.mem_append_right _ (List.mem_append_left _ h))) (by decide) rfl rfl rfl hl.1 rfl (Nat.le_of_ble_eq_true rfl) rfl dL_law_380 ⟨by show cells + 2 ≤ 600000; omega, by show slots + 9 ≤ 7302250; omega⟩ (fun H locs hP hD hS => ?_)
    have hPD := PD_mrg (w2 := ((w6A cy ad (nI P) xt st sh sf tr P (P + 1) (nI P) a_rgs a_sv a_co a_ro a_le a_lst a_mu a_ba a_bt a_cp (nI P) a_nx a_tl a_pe a_en a_pa (nI P) b_rgs b_sv b_co b_ro b_le b_lst b_mu b_ba b_bt b_cp (nI P) b_nx b_tl b_pe b_en b_pa (nI P) r_mp r_kn r_dd r_rd r_dn r_rn f_fl f_fu f_fw f_li (nI 233) f_nx f_tl f_pe f_en f_pa) ++ ((w7A cy ad7 thr xs (nI P) tcd frt frp lan man itm deg num mad inn lon goe tai per lea com see trc cou don nex res quo rou met) ++ ((sgS cy SL sln sia snn svv) ++ (sgP cy PL ppp pca pdg ptd pcc))))) (by decide) rfl hP hD
    have hP := hPD.1
    have hD := hPD.2
    refine lv_aload_n hx hb dL_law_383 rfl (lv_at hl 1 rfl) ?_
    refine lv_aload_n hx hb dL_law_384 rfl (lv_at hl 3 rfl) ?_
    refine lv_iload_n hx hb dL_law_385 rfl (lv_at hl 0 rfl) ?_
    refine lv_iconst (v := 1) hx hb dL_law_386 (by decide) ?_
    refine lv_iadd hx hb dL_law_387 ?_
    refine va_sld hx hb hX hbl hbA hS hi1 dL_law_388 ?_
    refine lv_aload_n hx hb dL_law_389 rfl (lv_at hl 3 rfl) ?_
    refine lv_iload_n hx hb dL_law_390 rfl (lv_at hl 0 rfl) ?_
    refine lv_iconst (v := 2) hx hb dL_law_391 (by decide) ?_
    refine lv_iadd hx hb dL_law_392 ?_
    refine va_sld hx hb hX hbl hbA hS hi2 dL_law_393 ?_
    refine lv_aload_n hx hb dL_law_394 rfl (lv_at hl 3 rfl) ?_
    refine lv_iload_n hx hb dL_law_395 rfl (lv_at hl 0 rfl) ?_
    refine lv_iconst (v := 3) hx hb dL_law_396 (by decide) ?_
    refine lv_iadd hx hb dL_law_397 ?_
    refine va_sld hx hb hX hbl hbA hS hi3 dL_law_398 ?_
    refine lv_aload_n hx hb dL_law_399 rfl (lv_at hl 3 rfl) ?_
    refine lv_iload_n hx hb dL_law_400 rfl (lv_at hl 0 rfl) ?_
    refine lv_iconst (v := 4) hx hb dL_law_401 (by decide) ?_
    refine lv_iadd hx hb dL_law_402 ?_
    refine va_sld hx hb hX hbl hbA hS hi4 dL_law_403 ?_
    refine ivW (As := [.int (xs_ (Int32.toNatClampNeg (nI i + 1))), .int (xs_ (Int32.toNatClampNeg (nI i + 2))), .int (xs_ (Int32.toNatClampNeg (nI i + 3))), .int (xs_ (Int32.toNatClampNeg (nI i + 4)))]) (rest := [.int a]) (st1 := [.int a, .int a]) (is := [61, 62, 63, 64, 65, 66, 67]) (w1 := (wX7_0_1_2_3_4_5_6 cy ad7 0 st (nI P) tcd frt frp lan man itm deg' num' mad')) ⟨hx, hb, hml, hown, hts⟩ hK hN (KX7_map l D cy ad7 thr xs (nI P) tcd frt frp lan man itm deg num mad (xs_ (Int32.toNatClampNeg (nI i + 1))) (xs_ (Int32.toNatClampNeg (nI i + 2))) (xs_ (Int32.toNatClampNeg (nI i + 3))) (xs_ (Int32.toNatClampNeg (nI i + 4))) H.size (out := (a, 0, st, deg', num', mad')) e7) (cwV 4 hts gL_law_X7_map rfl rfl rfl (by decide +kernel) ⟨Nat.le_of_ble_eq_true rfl, Nat.le_of_ble_eq_true rfl⟩) (va_recv hK hP (ci := 7) (q0 := 61) rfl rfl) hP hD hS hA P_nil (sepW_nil _) (by decide) rfl rfl rfl hl.1 rfl (Nat.le_of_ble_eq_true rfl) rfl dL_law_404 ⟨by show cells + 2 ≤ 600000; omega, by show slots + 9 ≤ 7302250; omega⟩ (fun H locs hP hD hS => ?_)
    have hPD := PD_mrg (w2 := ((w6A cy ad (nI P) xt st sh sf tr P (P + 1) (nI P) a_rgs a_sv a_co a_ro a_le a_lst a_mu a_ba a_bt a_cp (nI P) a_nx a_tl a_pe a_en a_pa (nI P) b_rgs b_sv b_co b_ro b_le b_lst b_mu b_ba b_bt b_cp (nI P) b_nx b_tl b_pe b_en b_pa (nI P) r_mp r_kn r_dd r_rd r_dn r_rn f_fl f_fu f_fw f_li (nI 233) f_nx f_tl f_pe f_en f_pa) ++ ((w7A cy ad7 0 st (nI P) tcd frt frp lan man itm deg' num' mad' inn lon goe tai per lea com see trc cou don nex res quo rou met) ++ ((sgS cy SL sln sia snn svv) ++ (sgP cy PL ppp pca pdg ptd pcc))))) (by decide) rfl hP hD
    have hP := hPD.1
    have hD := hPD.2
    refine lv_icmp_eq (tgt := 1112) hx hb dL_law_407 (by decide) (fun hcmp => ?_) (fun hcmp => ?_)
    · obtain ⟨rfl, rfl⟩ := made_0 hm
      refine W.widen (k := cells + 4) (n := slots + 260) (by omega) (by omega) ?_
      exact kk H locs (fun motive k => k ad ad7 P xt st sh sf tr a_rgs a_sv a_co a_ro a_le a_lst a_mu a_ba a_bt a_cp a_nx a_tl a_pe a_en a_pa b_rgs b_sv b_co b_ro b_le b_lst b_mu b_ba b_bt b_cp b_nx b_tl b_pe b_en b_pa r_mp r_kn r_dd r_rd r_dn r_rn f_fl f_fu f_fw f_li f_nx f_tl f_pe f_en f_pa 0 st tcd frt frp lan man itm _ _ mad' inn lon goe tai per lea com see trc cou don nex res quo rou met SL sln sia snn svv PL ppp pca pdg ptd pcc rfl rfl hPR rfl hsh hg hsf htr hsv hsb hrd hfr hP hD) hS
    · exact absurd (rfl) hcmp
  | true =>
    refine lv_aload_n hx hb dL_law_359 rfl (lv_at hl 2 rfl) ?_
    refine lv_aload_n hx hb dL_law_360 rfl (lv_at hl 3 rfl) ?_
    refine lv_iload_n hx hb dL_law_361 rfl (lv_at hl 0 rfl) ?_
    refine lv_iconst (v := 1) hx hb dL_law_362 (by decide) ?_
    refine lv_iadd hx hb dL_law_363 ?_
    refine va_sld hx hb hX hbl hbA hS hi1 dL_law_364 ?_
    refine lv_aload_n hx hb dL_law_365 rfl (lv_at hl 3 rfl) ?_
    refine lv_iload_n hx hb dL_law_366 rfl (lv_at hl 0 rfl) ?_
    refine lv_iconst (v := 2) hx hb dL_law_367 (by decide) ?_
    refine lv_iadd hx hb dL_law_368 ?_
    refine va_sld hx hb hX hbl hbA hS hi2 dL_law_369 ?_
    refine lv_aload_n hx hb dL_law_370 rfl (lv_at hl 3 rfl) ?_
    refine lv_iload_n hx hb dL_law_371 rfl (lv_at hl 0 rfl) ?_
    refine lv_iconst (v := 3) hx hb dL_law_372 (by decide) ?_
    refine lv_iadd hx hb dL_law_373 ?_
    refine va_sld hx hb hX hbl hbA hS hi3 dL_law_374 ?_
    refine lv_aload_n hx hb dL_law_375 rfl (lv_at hl 3 rfl) ?_
    refine lv_iload_n hx hb dL_law_376 rfl (lv_at hl 0 rfl) ?_
    refine lv_iconst (v := 4) hx hb dL_law_377 (by decide) ?_
    refine lv_iadd hx hb dL_law_378 ?_
    refine va_sld hx hb hX hbl hbA hS hi4 dL_law_379 ?_
    refine ivN (As := [.int (xs_ (Int32.toNatClampNeg (nI i + 1))), .int (xs_ (Int32.toNatClampNeg (nI i + 2))), .int (xs_ (Int32.toNatClampNeg (nI i + 3))), .int (xs_ (Int32.toNatClampNeg (nI i + 4)))]) (rest := []) (st1 := fun nad => [.int a]) (is := [0, 1, 2]) (w1 := fun nad => (wX6_0_1_2 cy ad (nI P) xt st sh (va_up sf (Int32.toNatClampNeg (xs_ (Int32.toNatClampNeg (nI i + 1)))) (some (nad 1))))) (wn := fun nad => [((nad 0), (.inl (cy 0, 5, .inl f) : va_E)), ((nad 1), (.inr (2, [.int pp, .ref (nad 0), .int d, .int t]) : va_E))]) ⟨hx, hb, hml, hown, hts⟩ hK hN (KX6_map l D cy ad (nI P) xt xs sh sf SL sln sia snn svv (xs_ (Int32.toNatClampNeg (nI i + 1))) (xs_ (Int32.toNatClampNeg (nI i + 2))) (xs_ (Int32.toNatClampNeg (nI i + 3))) (xs_ (Int32.toNatClampNeg (nI i + 4))) H.size (out := (a, st, f, pp, d, t, true)) e6) (cwV 4 hts gL_law_X6_map rfl rfl rfl (by decide +kernel) ⟨Nat.le_of_ble_eq_true rfl, Nat.le_of_ble_eq_true rfl⟩) (va_recv hK hP (ci := 6) (q0 := 0) rfl rfl) hP hD hS hA (P_left (P_right (P_right hP))) (sepE (N := 61) (is := [0, 1, 2]) hD rfl rfl (by decide) (fun q h => List.mem_append_right _ (List.mem_append_left _ h))) (by decide) rfl (fun nad => rfl) rfl hl.1 rfl (Nat.le_of_ble_eq_true rfl) (fun nad => rfl) dL_law_380 ⟨by show cells + 2 ≤ 600000; omega, by show slots + 9 ≤ 7302250; omega⟩ (fun nad H locs hP hD hS => ?_)
    have hPD := PD_mrgA (w2 := ((w6A cy ad (nI P) xt st sh (va_up sf (Int32.toNatClampNeg (xs_ (Int32.toNatClampNeg (nI i + 1)))) (some (nad 1))) tr P (P + 1) (nI P) a_rgs a_sv a_co a_ro a_le a_lst a_mu a_ba a_bt a_cp (nI P) a_nx a_tl a_pe a_en a_pa (nI P) b_rgs b_sv b_co b_ro b_le b_lst b_mu b_ba b_bt b_cp (nI P) b_nx b_tl b_pe b_en b_pa (nI P) r_mp r_kn r_dd r_rd r_dn r_rn f_fl f_fu f_fw f_li (nI 233) f_nx f_tl f_pe f_en f_pa) ++ ((w7A cy ad7 thr xs (nI P) tcd frt frp lan man itm deg num mad inn lon goe tai per lea com see trc cou don nex res quo rou met) ++ ((sgS cy SL sln sia snn svv) ++ (sgP cy PL ppp pca pdg ptd pcc))))) (wn := [((nad 0), (.inl (cy 0, 5, .inl f) : va_E)), ((nad 1), (.inr (2, [.int pp, .ref (nad 0), .int d, .int t]) : va_E))]) (by decide) rfl hP hD
    have hP := hPD.1
    have hD := hPD.2
    have hnin : (nad 1) ∉ PL := pool_P hD
    have hpm2 : (((w6A cy ad (nI P) xt st sh (va_up sf (Int32.toNatClampNeg (xs_ (Int32.toNatClampNeg (nI i + 1)))) (some (nad 1))) tr P (P + 1) (nI P) a_rgs a_sv a_co a_ro a_le a_lst a_mu a_ba a_bt a_cp (nI P) a_nx a_tl a_pe a_en a_pa (nI P) b_rgs b_sv b_co b_ro b_le b_lst b_mu b_ba b_bt b_cp (nI P) b_nx b_tl b_pe b_en b_pa (nI P) r_mp r_kn r_dd r_rd r_dn r_rn f_fl f_fu f_fw f_li (nI 233) f_nx f_tl f_pe f_en f_pa) ++ ((w7A cy ad7 thr xs (nI P) tcd frt frp lan man itm deg num mad inn lon goe tai per lea com see trc cou don nex res quo rou met) ++ ((sgS cy SL sln sia snn svv) ++ (sgP cy PL ppp pca pdg ptd pcc)))) ++ [((nad 0), (.inl (cy 0, 5, .inl f) : va_E)), ((nad 1), (.inr (2, [.int pp, .ref (nad 0), .int d, .int t]) : va_E))]).Perm ((w6A cy ad (nI P) xt st sh (va_up sf (Int32.toNatClampNeg (xs_ (Int32.toNatClampNeg (nI i + 1)))) (some (nad 1))) tr P (P + 1) (nI P) a_rgs a_sv a_co a_ro a_le a_lst a_mu a_ba a_bt a_cp (nI P) a_nx a_tl a_pe a_en a_pa (nI P) b_rgs b_sv b_co b_ro b_le b_lst b_mu b_ba b_bt b_cp (nI P) b_nx b_tl b_pe b_en b_pa (nI P) r_mp r_kn r_dd r_rd r_dn r_rn f_fl f_fu f_fw f_li (nI 233) f_nx f_tl f_pe f_en f_pa) ++ ((w7A cy ad7 thr xs (nI P) tcd frt frp lan man itm deg num mad inn lon goe tai per lea com see trc cou don nex res quo rou met) ++ ((sgS cy SL sln sia snn svv) ++ (sgP cy ((nad 1) :: PL) (va_up ppp (nad 1) pp) (va_up pca (nad 1) (nad 0)) (va_up pdg (nad 1) d) (va_up ptd (nad 1) t) (va_up pcc (nad 1) f))))) := pool_Pp (sgP_up hnin)
    have hP : va_P D vwCl ((w6A cy ad (nI P) xt st sh (va_up sf (Int32.toNatClampNeg (xs_ (Int32.toNatClampNeg (nI i + 1)))) (some (nad 1))) tr P (P + 1) (nI P) a_rgs a_sv a_co a_ro a_le a_lst a_mu a_ba a_bt a_cp (nI P) a_nx a_tl a_pe a_en a_pa (nI P) b_rgs b_sv b_co b_ro b_le b_lst b_mu b_ba b_bt b_cp (nI P) b_nx b_tl b_pe b_en b_pa (nI P) r_mp r_kn r_dd r_rd r_dn r_rn f_fl f_fu f_fw f_li (nI 233) f_nx f_tl f_pe f_en f_pa) ++ ((w7A cy ad7 thr xs (nI P) tcd frt frp lan man itm deg num mad inn lon goe tai per lea com see trc cou don nex res quo rou met) ++ ((sgS cy SL sln sia snn svv) ++ (sgP cy ((nad 1) :: PL) (va_up ppp (nad 1) pp) (va_up pca (nad 1) (nad 0)) (va_up pdg (nad 1) d) (va_up ptd (nad 1) t) (va_up pcc (nad 1) f))))) H := P_perm hpm2 hP
    have hD : va_D A ((w6A cy ad (nI P) xt st sh (va_up sf (Int32.toNatClampNeg (xs_ (Int32.toNatClampNeg (nI i + 1)))) (some (nad 1))) tr P (P + 1) (nI P) a_rgs a_sv a_co a_ro a_le a_lst a_mu a_ba a_bt a_cp (nI P) a_nx a_tl a_pe a_en a_pa (nI P) b_rgs b_sv b_co b_ro b_le b_lst b_mu b_ba b_bt b_cp (nI P) b_nx b_tl b_pe b_en b_pa (nI P) r_mp r_kn r_dd r_rd r_dn r_rn f_fl f_fu f_fw f_li (nI 233) f_nx f_tl f_pe f_en f_pa) ++ ((w7A cy ad7 thr xs (nI P) tcd frt frp lan man itm deg num mad inn lon goe tai per lea com see trc cou don nex res quo rou met) ++ ((sgS cy SL sln sia snn svv) ++ (sgP cy ((nad 1) :: PL) (va_up ppp (nad 1) pp) (va_up pca (nad 1) (nad 0)) (va_up pdg (nad 1) d) (va_up ptd (nad 1) t) (va_up pcc (nad 1) f))))) := D_perm hpm2 hD
    refine lv_aload_n hx hb dL_law_383 rfl (lv_at hl 1 rfl) ?_
    refine lv_aload_n hx hb dL_law_384 rfl (lv_at hl 3 rfl) ?_
    refine lv_iload_n hx hb dL_law_385 rfl (lv_at hl 0 rfl) ?_
    refine lv_iconst (v := 1) hx hb dL_law_386 (by decide) ?_
    refine lv_iadd hx hb dL_law_387 ?_
    refine va_sld hx hb hX hbl hbA hS hi1 dL_law_388 ?_
    refine lv_aload_n hx hb dL_law_389 rfl (lv_at hl 3 rfl) ?_
    refine lv_iload_n hx hb dL_law_390 rfl (lv_at hl 0 rfl) ?_
    refine lv_iconst (v := 2) hx hb dL_law_391 (by decide) ?_
    refine lv_iadd hx hb dL_law_392 ?_
    refine va_sld hx hb hX hbl hbA hS hi2 dL_law_393 ?_
    refine lv_aload_n hx hb dL_law_394 rfl (lv_at hl 3 rfl) ?_
    refine lv_iload_n hx hb dL_law_395 rfl (lv_at hl 0 rfl) ?_
    refine lv_iconst (v := 3) hx hb dL_law_396 (by decide) ?_
    refine lv_iadd hx hb dL_law_397 ?_
    refine va_sld hx hb hX hbl hbA hS hi3 dL_law_398 ?_
    refine lv_aload_n hx hb dL_law_399 rfl (lv_at hl 3 rfl) ?_
    refine lv_iload_n hx hb dL_law_400 rfl (lv_at hl 0 rfl) ?_
    refine lv_iconst (v := 4) hx hb dL_law_401 (by decide) ?_
    refine lv_iadd hx hb dL_law_402 ?_
    refine va_sld hx hb hX hbl hbA hS hi4 dL_law_403 ?_
    refine ivW (As := [.int (xs_ (Int32.toNatClampNeg (nI i + 1))), .int (xs_ (Int32.toNatClampNeg (nI i + 2))), .int (xs_ (Int32.toNatClampNeg (nI i + 3))), .int (xs_ (Int32.toNatClampNeg (nI i + 4)))]) (rest := [.int a]) (st1 := [.int a, .int a]) (is := [61, 62, 63, 64, 65, 66, 67]) (w1 := (wX7_0_1_2_3_4_5_6 cy ad7 0 st (nI P) tcd frt frp lan man itm deg' num' mad')) ⟨hx, hb, hml, hown, hts⟩ hK hN (KX7_map l D cy ad7 thr xs (nI P) tcd frt frp lan man itm deg num mad (xs_ (Int32.toNatClampNeg (nI i + 1))) (xs_ (Int32.toNatClampNeg (nI i + 2))) (xs_ (Int32.toNatClampNeg (nI i + 3))) (xs_ (Int32.toNatClampNeg (nI i + 4))) H.size (out := (a, 0, st, deg', num', mad')) e7) (cwV 4 hts gL_law_X7_map rfl rfl rfl (by decide +kernel) ⟨Nat.le_of_ble_eq_true rfl, Nat.le_of_ble_eq_true rfl⟩) (va_recv hK hP (ci := 7) (q0 := 61) rfl rfl) hP hD hS hA P_nil (sepW_nil _) (by decide) rfl rfl rfl hl.1 rfl (Nat.le_of_ble_eq_true rfl) rfl dL_law_404 ⟨by show cells + 2 ≤ 600000; omega, by show slots + 9 ≤ 7302250; omega⟩ (fun H locs hP hD hS => ?_)
    have hPD := PD_mrg (w2 := ((w6A cy ad (nI P) xt st sh (va_up sf (Int32.toNatClampNeg (xs_ (Int32.toNatClampNeg (nI i + 1)))) (some (nad 1))) tr P (P + 1) (nI P) a_rgs a_sv a_co a_ro a_le a_lst a_mu a_ba a_bt a_cp (nI P) a_nx a_tl a_pe a_en a_pa (nI P) b_rgs b_sv b_co b_ro b_le b_lst b_mu b_ba b_bt b_cp (nI P) b_nx b_tl b_pe b_en b_pa (nI P) r_mp r_kn r_dd r_rd r_dn r_rn f_fl f_fu f_fw f_li (nI 233) f_nx f_tl f_pe f_en f_pa) ++ ((w7A cy ad7 0 st (nI P) tcd frt frp lan man itm deg' num' mad' inn lon goe tai per lea com see trc cou don nex res quo rou met) ++ ((sgS cy SL sln sia snn svv) ++ (sgP cy ((nad 1) :: PL) (va_up ppp (nad 1) pp) (va_up pca (nad 1) (nad 0)) (va_up pdg (nad 1) d) (va_up ptd (nad 1) t) (va_up pcc (nad 1) f)))))) (by decide) rfl hP hD
    have hP := hPD.1
    have hD := hPD.2
    refine lv_icmp_eq (tgt := 1112) hx hb dL_law_407 (by decide) (fun hcmp => ?_) (fun hcmp => ?_)
    · obtain ⟨hg', hsf'⟩ := made_up hP2 hm hnin hg hsf
      refine W.widen (k := cells + 4) (n := slots + 260) (by omega) (by omega) ?_
      exact kk H locs (fun motive k => k ad ad7 P xt st sh (va_up sf (Int32.toNatClampNeg (xs_ (Int32.toNatClampNeg (nI i + 1)))) (some (nad 1))) tr a_rgs a_sv a_co a_ro a_le a_lst a_mu a_ba a_bt a_cp a_nx a_tl a_pe a_en a_pa b_rgs b_sv b_co b_ro b_le b_lst b_mu b_ba b_bt b_cp b_nx b_tl b_pe b_en b_pa r_mp r_kn r_dd r_rd r_dn r_rn f_fl f_fu f_fw f_li f_nx f_tl f_pe f_en f_pa 0 st tcd frt frp lan man itm deg' num' mad' inn lon goe tai per lea com see trc cou don nex res quo rou met SL sln sia snn svv ((nad 1) :: PL) (va_up ppp (nad 1) pp) (va_up pca (nad 1) (nad 0)) (va_up pdg (nad 1) d) (va_up ptd (nad 1) t) (va_up pcc (nad 1) f) rfl rfl hPR rfl hsh hg' hsf' htr (SV_up hnin hsv) (SV_up hnin hsb) (RND_up hnin hrd) hfr hP hD) hS
    · exact absurd (rfl) hcmp
set_option maxHeartbeats 4000000 in
set_option maxRecDepth 100000 in
theorem lc_plain {p : Program} {l : Launch} {e : Env} {s : State} {m : MethodId} {below : List Frame} {meth : Method} {c : Code} {Q : State → Prop} {D : va_G} {cy : Nat → ClassId} {A : Nat → Prop} {b L i q6 q7 cells slots : Nat} {xs_ : Nat → Int32} {H : Heap} {locs : List Loc} {ls : Array Slot} (hx : p.tables.exec = Jvm.exec) (hb : c.code = cL_law) (hml : c.maxLocals = 4) (hown : s.vm.findClass RL = some m.cls) (hts : ∀ w ∈ wsL_law, w.before #[Value.ref b] s = true) (hX : va_X b L xs_ s s.heap) (hbl : b < s.heap.size) (hbA : ¬ A b) (hA : ∀ q, s.heap.size ≤ q → A q) (hK : va_K D vwCl (TYs cy) s) (hN : NK s) (hi : i + 6 ≤ L) (hL : L ≤ 3073) (hLW : LW D cy A q6 q7 H) (hS : va_S A s.heap H locs) (hl : lv_has ls 4 [(3, .int (nI i)), (2, .ref q7), (1, .ref q6), (0, .ref b)]) (hc : cells + 4 ≤ 600000) (hs : slots + 260 ≤ 7302250) (kk : ∀ (H1 : Heap) (locs1 : List Loc), LW D cy A q6 q7 H1 → va_S A s.heap H1 locs1 → W p l e room_1 s m #[Value.ref b] below meth c H1 locs1 (cells + 4) (slots + 260) Q (F0 m 1112 ls [])) : W p l e room_1 s m #[Value.ref b] below meth c H locs cells slots Q (F0 m 412 ls []) := by
  refine hLW _ ?_
  intro ad ad7 P xt xs sh sf tr a_rgs a_sv a_co a_ro a_le a_lst a_mu a_ba a_bt a_cp a_nx a_tl a_pe a_en a_pa b_rgs b_sv b_co b_ro b_le b_lst b_mu b_ba b_bt b_cp b_nx b_tl b_pe b_en b_pa r_mp r_kn r_dd r_rd r_dn r_rn f_fl f_fu f_fw f_li f_nx f_tl f_pe f_en f_pa thr sta tcd frt frp lan man itm deg num mad inn lon goe tai per lea com see trc cou don nex res quo rou met SL sln sia snn svv PL ppp pca pdg ptd pcc hq6 hq7 hPR hst hsh hg hsf htr hsv hsb hrd hfr hP hD
  subst hq6 hq7 hst
  have hP1 : 1 < P := Nat.lt_of_lt_of_le (by omega) hPR.1
  have hP2 : P < 200 := hPR.2.1
  have hi1 : vp_in (nI i + 1) L := by
    rw [show (1 : Int32) = nI 1 from rfl, nI_add]
    exact in_n (by omega) (by omega)
  have hi2 : vp_in (nI i + 2) L := by
    rw [show (2 : Int32) = nI 2 from rfl, nI_add]
    exact in_n (by omega) (by omega)
  have hi3 : vp_in (nI i + 3) L := by
    rw [show (3 : Int32) = nI 3 from rfl, nI_add]
    exact in_n (by omega) (by omega)
  have hi4 : vp_in (nI i + 4) L := by
    rw [show (4 : Int32) = nI 4 from rfl, nI_add]
    exact in_n (by omega) (by omega)
  have hi5 : vp_in (nI i + 5) L := by
    rw [show (5 : Int32) = nI 5 from rfl, nI_add]
    exact in_n (by omega) (by omega)
  obtain ⟨a, st, deg', num', mad', f, pp, d, t, mk, e7, e6, hm⟩ := op_plain (sta := xs) (deg := deg) (num := num) (mad := mad) hP1 hP2 (xs_ (Int32.toNatClampNeg (nI i + 1))) (xs_ (Int32.toNatClampNeg (nI i + 2)))
  cases mk with
  | false =>
    refine lv_aload_n hx hb dL_law_412 rfl (lv_at hl 2 rfl) ?_
    refine lv_aload_n hx hb dL_law_413 rfl (lv_at hl 3 rfl) ?_
    refine lv_iload_n hx hb dL_law_414 rfl (lv_at hl 0 rfl) ?_
    refine lv_iconst (v := 1) hx hb dL_law_415 (by decide) ?_
    refine lv_iadd hx hb dL_law_416 ?_
    refine va_sld hx hb hX hbl hbA hS hi1 dL_law_417 ?_
    refine lv_aload_n hx hb dL_law_418 rfl (lv_at hl 3 rfl) ?_
    refine lv_iload_n hx hb dL_law_419 rfl (lv_at hl 0 rfl) ?_
    refine lv_iconst (v := 2) hx hb dL_law_420 (by decide) ?_
    refine lv_iadd hx hb dL_law_421 ?_
    refine va_sld hx hb hX hbl hbA hS hi2 dL_law_422 ?_
    refine ivN0 (As := [.int (xs_ (Int32.toNatClampNeg (nI i + 1))), .int (xs_ (Int32.toNatClampNeg (nI i + 2)))]) (rest := []) (st1 := [.int a]) (is := [0, 2]) (w1 := (wX6_0_2 cy ad (nI P) xt st sf)) ⟨hx, hb, hml, hown, hts⟩ hK hN (KX6_plain l D cy ad (nI P) xt xs sf (xs_ (Int32.toNatClampNeg (nI i + 1))) (xs_ (Int32.toNatClampNeg (nI i + 2))) H.size (out := (a, st, f, pp, d, t, false)) e6) (cwV 2 hts gL_law_X6_plain rfl rfl rfl (by decide +kernel) ⟨Nat.le_of_ble_eq_true rfl, Nat.le_of_ble_eq_true rfl⟩) (va_recv hK hP (ci := 6) (q0 := 0) rfl rfl) hP hD hS hA P_nil (sepW_nil _) (by decide) rfl rfl rfl hl.1 rfl (Nat.le_of_ble_eq_true rfl) rfl dL_law_423 ⟨by show cells + 2 ≤ 600000; omega, by show slots + 9 ≤ 7302250; omega⟩ (fun H locs hP hD hS => ?_)
    have hPD := PD_mrg (w2 := ((w6A cy ad (nI P) xt st sh sf tr P (P + 1) (nI P) a_rgs a_sv a_co a_ro a_le a_lst a_mu a_ba a_bt a_cp (nI P) a_nx a_tl a_pe a_en a_pa (nI P) b_rgs b_sv b_co b_ro b_le b_lst b_mu b_ba b_bt b_cp (nI P) b_nx b_tl b_pe b_en b_pa (nI P) r_mp r_kn r_dd r_rd r_dn r_rn f_fl f_fu f_fw f_li (nI 233) f_nx f_tl f_pe f_en f_pa) ++ ((w7A cy ad7 thr xs (nI P) tcd frt frp lan man itm deg num mad inn lon goe tai per lea com see trc cou don nex res quo rou met) ++ ((sgS cy SL sln sia snn svv) ++ (sgP cy PL ppp pca pdg ptd pcc))))) (by decide) rfl hP hD
    have hP := hPD.1
    have hD := hPD.2
    refine lv_aload_n hx hb dL_law_426 rfl (lv_at hl 1 rfl) ?_
    refine lv_aload_n hx hb dL_law_427 rfl (lv_at hl 3 rfl) ?_
    refine lv_iload_n hx hb dL_law_428 rfl (lv_at hl 0 rfl) ?_
    refine lv_iconst (v := 1) hx hb dL_law_429 (by decide) ?_
    refine lv_iadd hx hb dL_law_430 ?_
    refine va_sld hx hb hX hbl hbA hS hi1 dL_law_431 ?_
    refine lv_aload_n hx hb dL_law_432 rfl (lv_at hl 3 rfl) ?_
    refine lv_iload_n hx hb dL_law_433 rfl (lv_at hl 0 rfl) ?_
    refine lv_iconst (v := 2) hx hb dL_law_434 (by decide) ?_
    refine lv_iadd hx hb dL_law_435 ?_
    refine va_sld hx hb hX hbl hbA hS hi2 dL_law_436 ?_
    refine ivW (As := [.int (xs_ (Int32.toNatClampNeg (nI i + 1))), .int (xs_ (Int32.toNatClampNeg (nI i + 2)))]) (rest := [.int a]) (st1 := [.int a, .int a]) (is := [61, 65, 66, 67]) (w1 := (wX7_0_4_5_6 cy ad7 0 st (nI P) tcd frt frp deg' num' mad')) ⟨hx, hb, hml, hown, hts⟩ hK hN (KX7_plain l D cy ad7 thr xs (nI P) tcd frt frp deg num mad (xs_ (Int32.toNatClampNeg (nI i + 1))) (xs_ (Int32.toNatClampNeg (nI i + 2))) H.size (out := (a, 0, st, deg', num', mad')) e7) (cwV 2 hts gL_law_X7_plain rfl rfl rfl (by decide +kernel) ⟨Nat.le_of_ble_eq_true rfl, Nat.le_of_ble_eq_true rfl⟩) (va_recv hK hP (ci := 7) (q0 := 61) rfl rfl) hP hD hS hA P_nil (sepW_nil _) (by decide) rfl rfl rfl hl.1 rfl (Nat.le_of_ble_eq_true rfl) rfl dL_law_437 ⟨by show cells + 2 ≤ 600000; omega, by show slots + 9 ≤ 7302250; omega⟩ (fun H locs hP hD hS => ?_)
    have hPD := PD_mrg (w2 := ((w6A cy ad (nI P) xt st sh sf tr P (P + 1) (nI P) a_rgs a_sv a_co a_ro a_le a_lst a_mu a_ba a_bt a_cp (nI P) a_nx a_tl a_pe a_en a_pa (nI P) b_rgs b_sv b_co b_ro b_le b_lst b_mu b_ba b_bt b_cp (nI P) b_nx b_tl b_pe b_en b_pa (nI P) r_mp r_kn r_dd r_rd r_dn r_rn f_fl f_fu f_fw f_li (nI 233) f_nx f_tl f_pe f_en f_pa) ++ ((w7A cy ad7 0 st (nI P) tcd frt frp lan man itm deg' num' mad' inn lon goe tai per lea com see trc cou don nex res quo rou met) ++ ((sgS cy SL sln sia snn svv) ++ (sgP cy PL ppp pca pdg ptd pcc))))) (by decide) rfl hP hD
    have hP := hPD.1
    have hD := hPD.2
    refine lv_icmp_eq (tgt := 1112) hx hb dL_law_440 (by decide) (fun hcmp => ?_) (fun hcmp => ?_)
    · obtain ⟨rfl, rfl⟩ := made_0 hm
      refine W.widen (k := cells + 4) (n := slots + 260) (by omega) (by omega) ?_
      exact kk H locs (fun motive k => k ad ad7 P xt st sh sf tr a_rgs a_sv a_co a_ro a_le a_lst a_mu a_ba a_bt a_cp a_nx a_tl a_pe a_en a_pa b_rgs b_sv b_co b_ro b_le b_lst b_mu b_ba b_bt b_cp b_nx b_tl b_pe b_en b_pa r_mp r_kn r_dd r_rd r_dn r_rn f_fl f_fu f_fw f_li f_nx f_tl f_pe f_en f_pa 0 st tcd frt frp lan man itm _ _ mad' inn lon goe tai per lea com see trc cou don nex res quo rou met SL sln sia snn svv PL ppp pca pdg ptd pcc rfl rfl hPR rfl hsh hg hsf htr hsv hsb hrd hfr hP hD) hS
    · exact absurd (rfl) hcmp
  | true =>
    refine lv_aload_n hx hb dL_law_412 rfl (lv_at hl 2 rfl) ?_
    refine lv_aload_n hx hb dL_law_413 rfl (lv_at hl 3 rfl) ?_
    refine lv_iload_n hx hb dL_law_414 rfl (lv_at hl 0 rfl) ?_
    refine lv_iconst (v := 1) hx hb dL_law_415 (by decide) ?_
    refine lv_iadd hx hb dL_law_416 ?_
    refine va_sld hx hb hX hbl hbA hS hi1 dL_law_417 ?_
    refine lv_aload_n hx hb dL_law_418 rfl (lv_at hl 3 rfl) ?_
    refine lv_iload_n hx hb dL_law_419 rfl (lv_at hl 0 rfl) ?_
    refine lv_iconst (v := 2) hx hb dL_law_420 (by decide) ?_
    refine lv_iadd hx hb dL_law_421 ?_
    refine va_sld hx hb hX hbl hbA hS hi2 dL_law_422 ?_
    refine ivN (As := [.int (xs_ (Int32.toNatClampNeg (nI i + 1))), .int (xs_ (Int32.toNatClampNeg (nI i + 2)))]) (rest := []) (st1 := fun nad => [.int a]) (is := [0, 2]) (w1 := fun nad => (wX6_0_2 cy ad (nI P) xt st (va_up sf (Int32.toNatClampNeg (xs_ (Int32.toNatClampNeg (nI i + 1)))) (some (nad 1))))) (wn := fun nad => [((nad 0), (.inl (cy 0, 5, .inl f) : va_E)), ((nad 1), (.inr (2, [.int pp, .ref (nad 0), .int d, .int t]) : va_E))]) ⟨hx, hb, hml, hown, hts⟩ hK hN (KX6_plain l D cy ad (nI P) xt xs sf (xs_ (Int32.toNatClampNeg (nI i + 1))) (xs_ (Int32.toNatClampNeg (nI i + 2))) H.size (out := (a, st, f, pp, d, t, true)) e6) (cwV 2 hts gL_law_X6_plain rfl rfl rfl (by decide +kernel) ⟨Nat.le_of_ble_eq_true rfl, Nat.le_of_ble_eq_true rfl⟩) (va_recv hK hP (ci := 6) (q0 := 0) rfl rfl) hP hD hS hA P_nil (sepW_nil _) (by decide) rfl (fun nad => rfl) rfl hl.1 rfl (Nat.le_of_ble_eq_true rfl) (fun nad => rfl) dL_law_423 ⟨by show cells + 2 ≤ 600000; omega, by show slots + 9 ≤ 7302250; omega⟩ (fun nad H locs hP hD hS => ?_)
    have hPD := PD_mrgA (w2 := ((w6A cy ad (nI P) xt st sh (va_up sf (Int32.toNatClampNeg (xs_ (Int32.toNatClampNeg (nI i + 1)))) (some (nad 1))) tr P (P + 1) (nI P) a_rgs a_sv a_co a_ro a_le a_lst a_mu a_ba a_bt a_cp (nI P) a_nx a_tl a_pe a_en a_pa (nI P) b_rgs b_sv b_co b_ro b_le b_lst b_mu b_ba b_bt b_cp (nI P) b_nx b_tl b_pe b_en b_pa (nI P) r_mp r_kn r_dd r_rd r_dn r_rn f_fl f_fu f_fw f_li (nI 233) f_nx f_tl f_pe f_en f_pa) ++ ((w7A cy ad7 thr xs (nI P) tcd frt frp lan man itm deg num mad inn lon goe tai per lea com see trc cou don nex res quo rou met) ++ ((sgS cy SL sln sia snn svv) ++ (sgP cy PL ppp pca pdg ptd pcc))))) (wn := [((nad 0), (.inl (cy 0, 5, .inl f) : va_E)), ((nad 1), (.inr (2, [.int pp, .ref (nad 0), .int d, .int t]) : va_E))]) (by decide) rfl hP hD
    have hP := hPD.1
    have hD := hPD.2
    have hnin : (nad 1) ∉ PL := pool_P hD
    have hpm2 : (((w6A cy ad (nI P) xt st sh (va_up sf (Int32.toNatClampNeg (xs_ (Int32.toNatClampNeg (nI i + 1)))) (some (nad 1))) tr P (P + 1) (nI P) a_rgs a_sv a_co a_ro a_le a_lst a_mu a_ba a_bt a_cp (nI P) a_nx a_tl a_pe a_en a_pa (nI P) b_rgs b_sv b_co b_ro b_le b_lst b_mu b_ba b_bt b_cp (nI P) b_nx b_tl b_pe b_en b_pa (nI P) r_mp r_kn r_dd r_rd r_dn r_rn f_fl f_fu f_fw f_li (nI 233) f_nx f_tl f_pe f_en f_pa) ++ ((w7A cy ad7 thr xs (nI P) tcd frt frp lan man itm deg num mad inn lon goe tai per lea com see trc cou don nex res quo rou met) ++ ((sgS cy SL sln sia snn svv) ++ (sgP cy PL ppp pca pdg ptd pcc)))) ++ [((nad 0), (.inl (cy 0, 5, .inl f) : va_E)), ((nad 1), (.inr (2, [.int pp, .ref (nad 0), .int d, .int t]) : va_E))]).Perm ((w6A cy ad (nI P) xt st sh (va_up sf (Int32.toNatClampNeg (xs_ (Int32.toNatClampNeg (nI i + 1)))) (some (nad 1))) tr P (P + 1) (nI P) a_rgs a_sv a_co a_ro a_le a_lst a_mu a_ba a_bt a_cp (nI P) a_nx a_tl a_pe a_en a_pa (nI P) b_rgs b_sv b_co b_ro b_le b_lst b_mu b_ba b_bt b_cp (nI P) b_nx b_tl b_pe b_en b_pa (nI P) r_mp r_kn r_dd r_rd r_dn r_rn f_fl f_fu f_fw f_li (nI 233) f_nx f_tl f_pe f_en f_pa) ++ ((w7A cy ad7 thr xs (nI P) tcd frt frp lan man itm deg num mad inn lon goe tai per lea com see trc cou don nex res quo rou met) ++ ((sgS cy SL sln sia snn svv) ++ (sgP cy ((nad 1) :: PL) (va_up ppp (nad 1) pp) (va_up pca (nad 1) (nad 0)) (va_up pdg (nad 1) d) (va_up ptd (nad 1) t) (va_up pcc (nad 1) f))))) := pool_Pp (sgP_up hnin)
    have hP : va_P D vwCl ((w6A cy ad (nI P) xt st sh (va_up sf (Int32.toNatClampNeg (xs_ (Int32.toNatClampNeg (nI i + 1)))) (some (nad 1))) tr P (P + 1) (nI P) a_rgs a_sv a_co a_ro a_le a_lst a_mu a_ba a_bt a_cp (nI P) a_nx a_tl a_pe a_en a_pa (nI P) b_rgs b_sv b_co b_ro b_le b_lst b_mu b_ba b_bt b_cp (nI P) b_nx b_tl b_pe b_en b_pa (nI P) r_mp r_kn r_dd r_rd r_dn r_rn f_fl f_fu f_fw f_li (nI 233) f_nx f_tl f_pe f_en f_pa) ++ ((w7A cy ad7 thr xs (nI P) tcd frt frp lan man itm deg num mad inn lon goe tai per lea com see trc cou don nex res quo rou met) ++ ((sgS cy SL sln sia snn svv) ++ (sgP cy ((nad 1) :: PL) (va_up ppp (nad 1) pp) (va_up pca (nad 1) (nad 0)) (va_up pdg (nad 1) d) (va_up ptd (nad 1) t) (va_up pcc (nad 1) f))))) H := P_perm hpm2 hP
    have hD : va_D A ((w6A cy ad (nI P) xt st sh (va_up sf (Int32.toNatClampNeg (xs_ (Int32.toNatClampNeg (nI i + 1)))) (some (nad 1))) tr P (P + 1) (nI P) a_rgs a_sv a_co a_ro a_le a_lst a_mu a_ba a_bt a_cp (nI P) a_nx a_tl a_pe a_en a_pa (nI P) b_rgs b_sv b_co b_ro b_le b_lst b_mu b_ba b_bt b_cp (nI P) b_nx b_tl b_pe b_en b_pa (nI P) r_mp r_kn r_dd r_rd r_dn r_rn f_fl f_fu f_fw f_li (nI 233) f_nx f_tl f_pe f_en f_pa) ++ ((w7A cy ad7 thr xs (nI P) tcd frt frp lan man itm deg num mad inn lon goe tai per lea com see trc cou don nex res quo rou met) ++ ((sgS cy SL sln sia snn svv) ++ (sgP cy ((nad 1) :: PL) (va_up ppp (nad 1) pp) (va_up pca (nad 1) (nad 0)) (va_up pdg (nad 1) d) (va_up ptd (nad 1) t) (va_up pcc (nad 1) f))))) := D_perm hpm2 hD
    refine lv_aload_n hx hb dL_law_426 rfl (lv_at hl 1 rfl) ?_
    refine lv_aload_n hx hb dL_law_427 rfl (lv_at hl 3 rfl) ?_
    refine lv_iload_n hx hb dL_law_428 rfl (lv_at hl 0 rfl) ?_
    refine lv_iconst (v := 1) hx hb dL_law_429 (by decide) ?_
    refine lv_iadd hx hb dL_law_430 ?_
    refine va_sld hx hb hX hbl hbA hS hi1 dL_law_431 ?_
    refine lv_aload_n hx hb dL_law_432 rfl (lv_at hl 3 rfl) ?_
    refine lv_iload_n hx hb dL_law_433 rfl (lv_at hl 0 rfl) ?_
    refine lv_iconst (v := 2) hx hb dL_law_434 (by decide) ?_
    refine lv_iadd hx hb dL_law_435 ?_
    refine va_sld hx hb hX hbl hbA hS hi2 dL_law_436 ?_
    refine ivW (As := [.int (xs_ (Int32.toNatClampNeg (nI i + 1))), .int (xs_ (Int32.toNatClampNeg (nI i + 2)))]) (rest := [.int a]) (st1 := [.int a, .int a]) (is := [61, 65, 66, 67]) (w1 := (wX7_0_4_5_6 cy ad7 0 st (nI P) tcd frt frp deg' num' mad')) ⟨hx, hb, hml, hown, hts⟩ hK hN (KX7_plain l D cy ad7 thr xs (nI P) tcd frt frp deg num mad (xs_ (Int32.toNatClampNeg (nI i + 1))) (xs_ (Int32.toNatClampNeg (nI i + 2))) H.size (out := (a, 0, st, deg', num', mad')) e7) (cwV 2 hts gL_law_X7_plain rfl rfl rfl (by decide +kernel) ⟨Nat.le_of_ble_eq_true rfl, Nat.le_of_ble_eq_true rfl⟩) (va_recv hK hP (ci := 7) (q0 := 61) rfl rfl) hP hD hS hA P_nil (sepW_nil _) (by decide) rfl rfl rfl hl.1 rfl (Nat.le_of_ble_eq_true rfl) rfl dL_law_437 ⟨by show cells + 2 ≤ 600000; omega, by show slots + 9 ≤ 7302250; omega⟩ (fun H locs hP hD hS => ?_)
    have hPD := PD_mrg (w2 := ((w6A cy ad (nI P) xt st sh (va_up sf (Int32.toNatClampNeg (xs_ (Int32.toNatClampNeg (nI i + 1)))) (some (nad 1))) tr P (P + 1) (nI P) a_rgs a_sv a_co a_ro a_le a_lst a_mu a_ba a_bt a_cp (nI P) a_nx a_tl a_pe a_en a_pa (nI P) b_rgs b_sv b_co b_ro b_le b_lst b_mu b_ba b_bt b_cp (nI P) b_nx b_tl b_pe b_en b_pa (nI P) r_mp r_kn r_dd r_rd r_dn r_rn f_fl f_fu f_fw f_li (nI 233) f_nx f_tl f_pe f_en f_pa) ++ ((w7A cy ad7 0 st (nI P) tcd frt frp lan man itm deg' num' mad' inn lon goe tai per lea com see trc cou don nex res quo rou met) ++ ((sgS cy SL sln sia snn svv) ++ (sgP cy ((nad 1) :: PL) (va_up ppp (nad 1) pp) (va_up pca (nad 1) (nad 0)) (va_up pdg (nad 1) d) (va_up ptd (nad 1) t) (va_up pcc (nad 1) f)))))) (by decide) rfl hP hD
    have hP := hPD.1
    have hD := hPD.2
    refine lv_icmp_eq (tgt := 1112) hx hb dL_law_440 (by decide) (fun hcmp => ?_) (fun hcmp => ?_)
    · obtain ⟨hg', hsf'⟩ := made_up hP2 hm hnin hg hsf
      refine W.widen (k := cells + 4) (n := slots + 260) (by omega) (by omega) ?_
      exact kk H locs (fun motive k => k ad ad7 P xt st sh (va_up sf (Int32.toNatClampNeg (xs_ (Int32.toNatClampNeg (nI i + 1)))) (some (nad 1))) tr a_rgs a_sv a_co a_ro a_le a_lst a_mu a_ba a_bt a_cp a_nx a_tl a_pe a_en a_pa b_rgs b_sv b_co b_ro b_le b_lst b_mu b_ba b_bt b_cp b_nx b_tl b_pe b_en b_pa r_mp r_kn r_dd r_rd r_dn r_rn f_fl f_fu f_fw f_li f_nx f_tl f_pe f_en f_pa 0 st tcd frt frp lan man itm deg' num' mad' inn lon goe tai per lea com see trc cou don nex res quo rou met SL sln sia snn svv ((nad 1) :: PL) (va_up ppp (nad 1) pp) (va_up pca (nad 1) (nad 0)) (va_up pdg (nad 1) d) (va_up ptd (nad 1) t) (va_up pcc (nad 1) f) rfl rfl hPR rfl hsh hg' hsf' htr (SV_up hnin hsv) (SV_up hnin hsb) (RND_up hnin hrd) hfr hP hD) hS
    · exact absurd (rfl) hcmp
set_option maxHeartbeats 4000000 in
set_option maxRecDepth 100000 in
theorem lc_turn {p : Program} {l : Launch} {e : Env} {s : State} {m : MethodId} {below : List Frame} {meth : Method} {c : Code} {Q : State → Prop} {D : va_G} {cy : Nat → ClassId} {A : Nat → Prop} {b L i q6 q7 cells slots : Nat} {xs_ : Nat → Int32} {H : Heap} {locs : List Loc} {ls : Array Slot} (hx : p.tables.exec = Jvm.exec) (hb : c.code = cL_law) (hml : c.maxLocals = 4) (hown : s.vm.findClass RL = some m.cls) (hts : ∀ w ∈ wsL_law, w.before #[Value.ref b] s = true) (hX : va_X b L xs_ s s.heap) (hbl : b < s.heap.size) (hbA : ¬ A b) (hA : ∀ q, s.heap.size ≤ q → A q) (hK : va_K D vwCl (TYs cy) s) (hN : NK s) (hi : i + 6 ≤ L) (hL : L ≤ 3073) (hLW : LW D cy A q6 q7 H) (hS : va_S A s.heap H locs) (hl : lv_has ls 4 [(3, .int (nI i)), (2, .ref q7), (1, .ref q6), (0, .ref b)]) (hc : cells + 4 ≤ 600000) (hs : slots + 260 ≤ 7302250) (kk : ∀ (H1 : Heap) (locs1 : List Loc), LW D cy A q6 q7 H1 → va_S A s.heap H1 locs1 → W p l e room_1 s m #[Value.ref b] below meth c H1 locs1 (cells + 4) (slots + 260) Q (F0 m 1112 ls [])) : W p l e room_1 s m #[Value.ref b] below meth c H locs cells slots Q (F0 m 445 ls []) := by
  refine hLW _ ?_
  intro ad ad7 P xt xs sh sf tr a_rgs a_sv a_co a_ro a_le a_lst a_mu a_ba a_bt a_cp a_nx a_tl a_pe a_en a_pa b_rgs b_sv b_co b_ro b_le b_lst b_mu b_ba b_bt b_cp b_nx b_tl b_pe b_en b_pa r_mp r_kn r_dd r_rd r_dn r_rn f_fl f_fu f_fw f_li f_nx f_tl f_pe f_en f_pa thr sta tcd frt frp lan man itm deg num mad inn lon goe tai per lea com see trc cou don nex res quo rou met SL sln sia snn svv PL ppp pca pdg ptd pcc hq6 hq7 hPR hst hsh hg hsf htr hsv hsb hrd hfr hP hD
  subst hq6 hq7 hst
  have hP1 : 1 < P := Nat.lt_of_lt_of_le (by omega) hPR.1
  have hP2 : P < 200 := hPR.2.1
  have hi1 : vp_in (nI i + 1) L := by
    rw [show (1 : Int32) = nI 1 from rfl, nI_add]
    exact in_n (by omega) (by omega)
  have hi2 : vp_in (nI i + 2) L := by
    rw [show (2 : Int32) = nI 2 from rfl, nI_add]
    exact in_n (by omega) (by omega)
  have hi3 : vp_in (nI i + 3) L := by
    rw [show (3 : Int32) = nI 3 from rfl, nI_add]
    exact in_n (by omega) (by omega)
  have hi4 : vp_in (nI i + 4) L := by
    rw [show (4 : Int32) = nI 4 from rfl, nI_add]
    exact in_n (by omega) (by omega)
  have hi5 : vp_in (nI i + 5) L := by
    rw [show (5 : Int32) = nI 5 from rfl, nI_add]
    exact in_n (by omega) (by omega)
  obtain ⟨a, st, deg', num', mad', inn', lon', g, f, pp, d, t, mk, e7, e6, hm⟩ := op_turn (pca := pca) (sta := xs) (mad := mad) (inn := inn) (lon := lon) hPR hsf hg (xs_ (Int32.toNatClampNeg (nI i + 1))) (xs_ (Int32.toNatClampNeg (nI i + 2))) (xs_ (Int32.toNatClampNeg (nI i + 3))) (xs_ (Int32.toNatClampNeg (nI i + 4)))
  cases mk with
  | false =>
    refine lv_aload_n hx hb dL_law_445 rfl (lv_at hl 2 rfl) ?_
    refine lv_aload_n hx hb dL_law_446 rfl (lv_at hl 3 rfl) ?_
    refine lv_iload_n hx hb dL_law_447 rfl (lv_at hl 0 rfl) ?_
    refine lv_iconst (v := 1) hx hb dL_law_448 (by decide) ?_
    refine lv_iadd hx hb dL_law_449 ?_
    refine va_sld hx hb hX hbl hbA hS hi1 dL_law_450 ?_
    refine lv_aload_n hx hb dL_law_451 rfl (lv_at hl 3 rfl) ?_
    refine lv_iload_n hx hb dL_law_452 rfl (lv_at hl 0 rfl) ?_
    refine lv_iconst (v := 2) hx hb dL_law_453 (by decide) ?_
    refine lv_iadd hx hb dL_law_454 ?_
    refine va_sld hx hb hX hbl hbA hS hi2 dL_law_455 ?_
    refine lv_aload_n hx hb dL_law_456 rfl (lv_at hl 3 rfl) ?_
    refine lv_iload_n hx hb dL_law_457 rfl (lv_at hl 0 rfl) ?_
    refine lv_iconst (v := 3) hx hb dL_law_458 (by decide) ?_
    refine lv_iadd hx hb dL_law_459 ?_
    refine va_sld hx hb hX hbl hbA hS hi3 dL_law_460 ?_
    refine lv_aload_n hx hb dL_law_461 rfl (lv_at hl 3 rfl) ?_
    refine lv_iload_n hx hb dL_law_462 rfl (lv_at hl 0 rfl) ?_
    refine lv_iconst (v := 4) hx hb dL_law_463 (by decide) ?_
    refine lv_iadd hx hb dL_law_464 ?_
    refine va_sld hx hb hX hbl hbA hS hi4 dL_law_465 ?_
    refine ivN0 (As := [.int (xs_ (Int32.toNatClampNeg (nI i + 1))), .int (xs_ (Int32.toNatClampNeg (nI i + 2))), .int (xs_ (Int32.toNatClampNeg (nI i + 3))), .int (xs_ (Int32.toNatClampNeg (nI i + 4)))]) (rest := []) (st1 := [.int a]) (is := [0, 2]) (w1 := (wX6_0_2 cy ad (nI P) xt st sf)) ⟨hx, hb, hml, hown, hts⟩ hK hN (KX6_turn l D cy ad (nI P) xt xs sf PL ppp pca pdg ptd pcc (xs_ (Int32.toNatClampNeg (nI i + 1))) (xs_ (Int32.toNatClampNeg (nI i + 2))) (xs_ (Int32.toNatClampNeg (nI i + 3))) (xs_ (Int32.toNatClampNeg (nI i + 4))) H.size (out := (a, st, g, f, pp, d, t, false)) e6) (cwV 4 hts gL_law_X6_turn rfl rfl rfl (by decide +kernel) ⟨Nat.le_of_ble_eq_true rfl, Nat.le_of_ble_eq_true rfl⟩) (va_recv hK hP (ci := 6) (q0 := 0) rfl rfl) hP hD hS hA (P_right (P_right (P_right hP))) (sepE (N := 61) (is := [0, 2]) hD rfl rfl (by decide) (fun q h => List.mem_append_right _ (List.mem_append_right _ h))) (by decide) rfl rfl rfl hl.1 rfl (Nat.le_of_ble_eq_true rfl) rfl dL_law_466 ⟨by show cells + 3 ≤ 600000; omega, by show slots + 11 ≤ 7302250; omega⟩ (fun H locs hP hD hS => ?_)
    have hPD := PD_mrg (w2 := ((w6A cy ad (nI P) xt st sh sf tr P (P + 1) (nI P) a_rgs a_sv a_co a_ro a_le a_lst a_mu a_ba a_bt a_cp (nI P) a_nx a_tl a_pe a_en a_pa (nI P) b_rgs b_sv b_co b_ro b_le b_lst b_mu b_ba b_bt b_cp (nI P) b_nx b_tl b_pe b_en b_pa (nI P) r_mp r_kn r_dd r_rd r_dn r_rn f_fl f_fu f_fw f_li (nI 233) f_nx f_tl f_pe f_en f_pa) ++ ((w7A cy ad7 thr xs (nI P) tcd frt frp lan man itm deg num mad inn lon goe tai per lea com see trc cou don nex res quo rou met) ++ ((sgS cy SL sln sia snn svv) ++ (sgP cy PL ppp pca pdg ptd pcc))))) (by decide) rfl hP hD
    have hP := hPD.1
    have hD := hPD.2
    refine lv_aload_n hx hb dL_law_469 rfl (lv_at hl 1 rfl) ?_
    refine lv_aload_n hx hb dL_law_470 rfl (lv_at hl 3 rfl) ?_
    refine lv_iload_n hx hb dL_law_471 rfl (lv_at hl 0 rfl) ?_
    refine lv_iconst (v := 1) hx hb dL_law_472 (by decide) ?_
    refine lv_iadd hx hb dL_law_473 ?_
    refine va_sld hx hb hX hbl hbA hS hi1 dL_law_474 ?_
    refine lv_aload_n hx hb dL_law_475 rfl (lv_at hl 3 rfl) ?_
    refine lv_iload_n hx hb dL_law_476 rfl (lv_at hl 0 rfl) ?_
    refine lv_iconst (v := 2) hx hb dL_law_477 (by decide) ?_
    refine lv_iadd hx hb dL_law_478 ?_
    refine va_sld hx hb hX hbl hbA hS hi2 dL_law_479 ?_
    refine lv_aload_n hx hb dL_law_480 rfl (lv_at hl 3 rfl) ?_
    refine lv_iload_n hx hb dL_law_481 rfl (lv_at hl 0 rfl) ?_
    refine lv_iconst (v := 3) hx hb dL_law_482 (by decide) ?_
    refine lv_iadd hx hb dL_law_483 ?_
    refine va_sld hx hb hX hbl hbA hS hi3 dL_law_484 ?_
    refine lv_aload_n hx hb dL_law_485 rfl (lv_at hl 3 rfl) ?_
    refine lv_iload_n hx hb dL_law_486 rfl (lv_at hl 0 rfl) ?_
    refine lv_iconst (v := 4) hx hb dL_law_487 (by decide) ?_
    refine lv_iadd hx hb dL_law_488 ?_
    refine va_sld hx hb hX hbl hbA hS hi4 dL_law_489 ?_
    refine ivW (As := [.int (xs_ (Int32.toNatClampNeg (nI i + 1))), .int (xs_ (Int32.toNatClampNeg (nI i + 2))), .int (xs_ (Int32.toNatClampNeg (nI i + 3))), .int (xs_ (Int32.toNatClampNeg (nI i + 4)))]) (rest := [.int a]) (st1 := [.int a, .int a]) (is := [61, 65, 66, 67, 68, 69]) (w1 := (wX7_0_4_5_6_7_8 cy ad7 0 st (nI P) tcd frt frp deg' num' mad' inn' lon')) ⟨hx, hb, hml, hown, hts⟩ hK hN (KX7_turn l D cy ad7 thr xs (nI P) tcd frt frp deg num mad inn lon (xs_ (Int32.toNatClampNeg (nI i + 1))) (xs_ (Int32.toNatClampNeg (nI i + 2))) (xs_ (Int32.toNatClampNeg (nI i + 3))) (xs_ (Int32.toNatClampNeg (nI i + 4))) H.size (out := (a, 0, st, deg', num', mad', inn', lon')) e7) (cwV 4 hts gL_law_X7_turn rfl rfl rfl (by decide +kernel) ⟨Nat.le_of_ble_eq_true rfl, Nat.le_of_ble_eq_true rfl⟩) (va_recv hK hP (ci := 7) (q0 := 61) rfl rfl) hP hD hS hA P_nil (sepW_nil _) (by decide) rfl rfl rfl hl.1 rfl (Nat.le_of_ble_eq_true rfl) rfl dL_law_490 ⟨by show cells + 3 ≤ 600000; omega, by show slots + 11 ≤ 7302250; omega⟩ (fun H locs hP hD hS => ?_)
    have hPD := PD_mrg (w2 := ((w6A cy ad (nI P) xt st sh sf tr P (P + 1) (nI P) a_rgs a_sv a_co a_ro a_le a_lst a_mu a_ba a_bt a_cp (nI P) a_nx a_tl a_pe a_en a_pa (nI P) b_rgs b_sv b_co b_ro b_le b_lst b_mu b_ba b_bt b_cp (nI P) b_nx b_tl b_pe b_en b_pa (nI P) r_mp r_kn r_dd r_rd r_dn r_rn f_fl f_fu f_fw f_li (nI 233) f_nx f_tl f_pe f_en f_pa) ++ ((w7A cy ad7 0 st (nI P) tcd frt frp lan man itm deg' num' mad' inn' lon' goe tai per lea com see trc cou don nex res quo rou met) ++ ((sgS cy SL sln sia snn svv) ++ (sgP cy PL ppp pca pdg ptd pcc))))) (by decide) rfl hP hD
    have hP := hPD.1
    have hD := hPD.2
    refine lv_icmp_eq (tgt := 1112) hx hb dL_law_493 (by decide) (fun hcmp => ?_) (fun hcmp => ?_)
    · obtain ⟨rfl, rfl⟩ := made_0 hm
      refine W.widen (k := cells + 4) (n := slots + 260) (by omega) (by omega) ?_
      exact kk H locs (fun motive k => k ad ad7 P xt st sh sf tr a_rgs a_sv a_co a_ro a_le a_lst a_mu a_ba a_bt a_cp a_nx a_tl a_pe a_en a_pa b_rgs b_sv b_co b_ro b_le b_lst b_mu b_ba b_bt b_cp b_nx b_tl b_pe b_en b_pa r_mp r_kn r_dd r_rd r_dn r_rn f_fl f_fu f_fw f_li f_nx f_tl f_pe f_en f_pa 0 st tcd frt frp lan man itm _ _ mad' inn' lon' goe tai per lea com see trc cou don nex res quo rou met SL sln sia snn svv PL ppp pca pdg ptd pcc rfl rfl hPR rfl hsh hg hsf htr hsv hsb hrd hfr hP hD) hS
    · exact absurd (rfl) hcmp
  | true =>
    refine lv_aload_n hx hb dL_law_445 rfl (lv_at hl 2 rfl) ?_
    refine lv_aload_n hx hb dL_law_446 rfl (lv_at hl 3 rfl) ?_
    refine lv_iload_n hx hb dL_law_447 rfl (lv_at hl 0 rfl) ?_
    refine lv_iconst (v := 1) hx hb dL_law_448 (by decide) ?_
    refine lv_iadd hx hb dL_law_449 ?_
    refine va_sld hx hb hX hbl hbA hS hi1 dL_law_450 ?_
    refine lv_aload_n hx hb dL_law_451 rfl (lv_at hl 3 rfl) ?_
    refine lv_iload_n hx hb dL_law_452 rfl (lv_at hl 0 rfl) ?_
    refine lv_iconst (v := 2) hx hb dL_law_453 (by decide) ?_
    refine lv_iadd hx hb dL_law_454 ?_
    refine va_sld hx hb hX hbl hbA hS hi2 dL_law_455 ?_
    refine lv_aload_n hx hb dL_law_456 rfl (lv_at hl 3 rfl) ?_
    refine lv_iload_n hx hb dL_law_457 rfl (lv_at hl 0 rfl) ?_
    refine lv_iconst (v := 3) hx hb dL_law_458 (by decide) ?_
    refine lv_iadd hx hb dL_law_459 ?_
    refine va_sld hx hb hX hbl hbA hS hi3 dL_law_460 ?_
    refine lv_aload_n hx hb dL_law_461 rfl (lv_at hl 3 rfl) ?_
    refine lv_iload_n hx hb dL_law_462 rfl (lv_at hl 0 rfl) ?_
    refine lv_iconst (v := 4) hx hb dL_law_463 (by decide) ?_
    refine lv_iadd hx hb dL_law_464 ?_
    refine va_sld hx hb hX hbl hbA hS hi4 dL_law_465 ?_
    refine ivN (As := [.int (xs_ (Int32.toNatClampNeg (nI i + 1))), .int (xs_ (Int32.toNatClampNeg (nI i + 2))), .int (xs_ (Int32.toNatClampNeg (nI i + 3))), .int (xs_ (Int32.toNatClampNeg (nI i + 4)))]) (rest := []) (st1 := fun nad => [.int a]) (is := [0, 2]) (w1 := fun nad => (wX6_0_2 cy ad (nI P) xt st (va_up sf (Int32.toNatClampNeg (xs_ (Int32.toNatClampNeg (nI i + 1)))) (some (nad 2))))) (wn := fun nad => [((nad 0), (.inl (cy 0, 2, .inl g) : va_E)), ((nad 1), (.inl (cy 0, 5, .inl f) : va_E)), ((nad 2), (.inr (2, [.int pp, .ref (nad 1), .int d, .int t]) : va_E))]) ⟨hx, hb, hml, hown, hts⟩ hK hN (KX6_turn l D cy ad (nI P) xt xs sf PL ppp pca pdg ptd pcc (xs_ (Int32.toNatClampNeg (nI i + 1))) (xs_ (Int32.toNatClampNeg (nI i + 2))) (xs_ (Int32.toNatClampNeg (nI i + 3))) (xs_ (Int32.toNatClampNeg (nI i + 4))) H.size (out := (a, st, g, f, pp, d, t, true)) e6) (cwV 4 hts gL_law_X6_turn rfl rfl rfl (by decide +kernel) ⟨Nat.le_of_ble_eq_true rfl, Nat.le_of_ble_eq_true rfl⟩) (va_recv hK hP (ci := 6) (q0 := 0) rfl rfl) hP hD hS hA (P_right (P_right (P_right hP))) (sepE (N := 61) (is := [0, 2]) hD rfl rfl (by decide) (fun q h => List.mem_append_right _ (List.mem_append_right _ h))) (by decide) rfl (fun nad => rfl) rfl hl.1 rfl (Nat.le_of_ble_eq_true rfl) (fun nad => rfl) dL_law_466 ⟨by show cells + 3 ≤ 600000; omega, by show slots + 11 ≤ 7302250; omega⟩ (fun nad H locs hP hD hS => ?_)
    have hPD := PD_mrgA (w2 := ((w6A cy ad (nI P) xt st sh (va_up sf (Int32.toNatClampNeg (xs_ (Int32.toNatClampNeg (nI i + 1)))) (some (nad 2))) tr P (P + 1) (nI P) a_rgs a_sv a_co a_ro a_le a_lst a_mu a_ba a_bt a_cp (nI P) a_nx a_tl a_pe a_en a_pa (nI P) b_rgs b_sv b_co b_ro b_le b_lst b_mu b_ba b_bt b_cp (nI P) b_nx b_tl b_pe b_en b_pa (nI P) r_mp r_kn r_dd r_rd r_dn r_rn f_fl f_fu f_fw f_li (nI 233) f_nx f_tl f_pe f_en f_pa) ++ ((w7A cy ad7 thr xs (nI P) tcd frt frp lan man itm deg num mad inn lon goe tai per lea com see trc cou don nex res quo rou met) ++ ((sgS cy SL sln sia snn svv) ++ (sgP cy PL ppp pca pdg ptd pcc))))) (wn := [((nad 0), (.inl (cy 0, 2, .inl g) : va_E)), ((nad 1), (.inl (cy 0, 5, .inl f) : va_E)), ((nad 2), (.inr (2, [.int pp, .ref (nad 1), .int d, .int t]) : va_E))]) (by decide) rfl hP hD
    have hP := hPD.1
    have hD := hPD.2
    have hpt : (((w6A cy ad (nI P) xt st sh (va_up sf (Int32.toNatClampNeg (xs_ (Int32.toNatClampNeg (nI i + 1)))) (some (nad 2))) tr P (P + 1) (nI P) a_rgs a_sv a_co a_ro a_le a_lst a_mu a_ba a_bt a_cp (nI P) a_nx a_tl a_pe a_en a_pa (nI P) b_rgs b_sv b_co b_ro b_le b_lst b_mu b_ba b_bt b_cp (nI P) b_nx b_tl b_pe b_en b_pa (nI P) r_mp r_kn r_dd r_rd r_dn r_rn f_fl f_fu f_fw f_li (nI 233) f_nx f_tl f_pe f_en f_pa) ++ ((w7A cy ad7 thr xs (nI P) tcd frt frp lan man itm deg num mad inn lon goe tai per lea com see trc cou don nex res quo rou met) ++ ((sgS cy SL sln sia snn svv) ++ (sgP cy PL ppp pca pdg ptd pcc)))) ++ [((nad 0), (.inl (cy 0, 2, .inl g) : va_E)), ((nad 1), (.inl (cy 0, 5, .inl f) : va_E)), ((nad 2), (.inr (2, [.int pp, .ref (nad 1), .int d, .int t]) : va_E))]).Perm (((nad 0), (.inl (cy 0, 2, .inl g) : va_E)) :: (((w6A cy ad (nI P) xt st sh (va_up sf (Int32.toNatClampNeg (xs_ (Int32.toNatClampNeg (nI i + 1)))) (some (nad 2))) tr P (P + 1) (nI P) a_rgs a_sv a_co a_ro a_le a_lst a_mu a_ba a_bt a_cp (nI P) a_nx a_tl a_pe a_en a_pa (nI P) b_rgs b_sv b_co b_ro b_le b_lst b_mu b_ba b_bt b_cp (nI P) b_nx b_tl b_pe b_en b_pa (nI P) r_mp r_kn r_dd r_rd r_dn r_rn f_fl f_fu f_fw f_li (nI 233) f_nx f_tl f_pe f_en f_pa) ++ ((w7A cy ad7 thr xs (nI P) tcd frt frp lan man itm deg num mad inn lon goe tai per lea com see trc cou don nex res quo rou met) ++ ((sgS cy SL sln sia snn svv) ++ (sgP cy PL ppp pca pdg ptd pcc)))) ++ [((nad 1), (.inl (cy 0, 5, .inl f) : va_E)), ((nad 2), (.inr (2, [.int pp, .ref (nad 1), .int d, .int t]) : va_E))])) := List.perm_middle
    have hP : va_P D vwCl (((w6A cy ad (nI P) xt st sh (va_up sf (Int32.toNatClampNeg (xs_ (Int32.toNatClampNeg (nI i + 1)))) (some (nad 2))) tr P (P + 1) (nI P) a_rgs a_sv a_co a_ro a_le a_lst a_mu a_ba a_bt a_cp (nI P) a_nx a_tl a_pe a_en a_pa (nI P) b_rgs b_sv b_co b_ro b_le b_lst b_mu b_ba b_bt b_cp (nI P) b_nx b_tl b_pe b_en b_pa (nI P) r_mp r_kn r_dd r_rd r_dn r_rn f_fl f_fu f_fw f_li (nI 233) f_nx f_tl f_pe f_en f_pa) ++ ((w7A cy ad7 thr xs (nI P) tcd frt frp lan man itm deg num mad inn lon goe tai per lea com see trc cou don nex res quo rou met) ++ ((sgS cy SL sln sia snn svv) ++ (sgP cy PL ppp pca pdg ptd pcc)))) ++ [((nad 1), (.inl (cy 0, 5, .inl f) : va_E)), ((nad 2), (.inr (2, [.int pp, .ref (nad 1), .int d, .int t]) : va_E))]) H := P_mem (P_perm hpt hP) (fun q h => List.mem_cons_of_mem _ h)
    have hD : va_D A (((w6A cy ad (nI P) xt st sh (va_up sf (Int32.toNatClampNeg (xs_ (Int32.toNatClampNeg (nI i + 1)))) (some (nad 2))) tr P (P + 1) (nI P) a_rgs a_sv a_co a_ro a_le a_lst a_mu a_ba a_bt a_cp (nI P) a_nx a_tl a_pe a_en a_pa (nI P) b_rgs b_sv b_co b_ro b_le b_lst b_mu b_ba b_bt b_cp (nI P) b_nx b_tl b_pe b_en b_pa (nI P) r_mp r_kn r_dd r_rd r_dn r_rn f_fl f_fu f_fw f_li (nI 233) f_nx f_tl f_pe f_en f_pa) ++ ((w7A cy ad7 thr xs (nI P) tcd frt frp lan man itm deg num mad inn lon goe tai per lea com see trc cou don nex res quo rou met) ++ ((sgS cy SL sln sia snn svv) ++ (sgP cy PL ppp pca pdg ptd pcc)))) ++ [((nad 1), (.inl (cy 0, 5, .inl f) : va_E)), ((nad 2), (.inr (2, [.int pp, .ref (nad 1), .int d, .int t]) : va_E))]) := D_tail (D_perm hpt hD)
    have hnin : (nad 2) ∉ PL := pool_P hD
    have hpm2 : (((w6A cy ad (nI P) xt st sh (va_up sf (Int32.toNatClampNeg (xs_ (Int32.toNatClampNeg (nI i + 1)))) (some (nad 2))) tr P (P + 1) (nI P) a_rgs a_sv a_co a_ro a_le a_lst a_mu a_ba a_bt a_cp (nI P) a_nx a_tl a_pe a_en a_pa (nI P) b_rgs b_sv b_co b_ro b_le b_lst b_mu b_ba b_bt b_cp (nI P) b_nx b_tl b_pe b_en b_pa (nI P) r_mp r_kn r_dd r_rd r_dn r_rn f_fl f_fu f_fw f_li (nI 233) f_nx f_tl f_pe f_en f_pa) ++ ((w7A cy ad7 thr xs (nI P) tcd frt frp lan man itm deg num mad inn lon goe tai per lea com see trc cou don nex res quo rou met) ++ ((sgS cy SL sln sia snn svv) ++ (sgP cy PL ppp pca pdg ptd pcc)))) ++ [((nad 1), (.inl (cy 0, 5, .inl f) : va_E)), ((nad 2), (.inr (2, [.int pp, .ref (nad 1), .int d, .int t]) : va_E))]).Perm ((w6A cy ad (nI P) xt st sh (va_up sf (Int32.toNatClampNeg (xs_ (Int32.toNatClampNeg (nI i + 1)))) (some (nad 2))) tr P (P + 1) (nI P) a_rgs a_sv a_co a_ro a_le a_lst a_mu a_ba a_bt a_cp (nI P) a_nx a_tl a_pe a_en a_pa (nI P) b_rgs b_sv b_co b_ro b_le b_lst b_mu b_ba b_bt b_cp (nI P) b_nx b_tl b_pe b_en b_pa (nI P) r_mp r_kn r_dd r_rd r_dn r_rn f_fl f_fu f_fw f_li (nI 233) f_nx f_tl f_pe f_en f_pa) ++ ((w7A cy ad7 thr xs (nI P) tcd frt frp lan man itm deg num mad inn lon goe tai per lea com see trc cou don nex res quo rou met) ++ ((sgS cy SL sln sia snn svv) ++ (sgP cy ((nad 2) :: PL) (va_up ppp (nad 2) pp) (va_up pca (nad 2) (nad 1)) (va_up pdg (nad 2) d) (va_up ptd (nad 2) t) (va_up pcc (nad 2) f))))) := pool_Pp (sgP_up hnin)
    have hP : va_P D vwCl ((w6A cy ad (nI P) xt st sh (va_up sf (Int32.toNatClampNeg (xs_ (Int32.toNatClampNeg (nI i + 1)))) (some (nad 2))) tr P (P + 1) (nI P) a_rgs a_sv a_co a_ro a_le a_lst a_mu a_ba a_bt a_cp (nI P) a_nx a_tl a_pe a_en a_pa (nI P) b_rgs b_sv b_co b_ro b_le b_lst b_mu b_ba b_bt b_cp (nI P) b_nx b_tl b_pe b_en b_pa (nI P) r_mp r_kn r_dd r_rd r_dn r_rn f_fl f_fu f_fw f_li (nI 233) f_nx f_tl f_pe f_en f_pa) ++ ((w7A cy ad7 thr xs (nI P) tcd frt frp lan man itm deg num mad inn lon goe tai per lea com see trc cou don nex res quo rou met) ++ ((sgS cy SL sln sia snn svv) ++ (sgP cy ((nad 2) :: PL) (va_up ppp (nad 2) pp) (va_up pca (nad 2) (nad 1)) (va_up pdg (nad 2) d) (va_up ptd (nad 2) t) (va_up pcc (nad 2) f))))) H := P_perm hpm2 hP
    have hD : va_D A ((w6A cy ad (nI P) xt st sh (va_up sf (Int32.toNatClampNeg (xs_ (Int32.toNatClampNeg (nI i + 1)))) (some (nad 2))) tr P (P + 1) (nI P) a_rgs a_sv a_co a_ro a_le a_lst a_mu a_ba a_bt a_cp (nI P) a_nx a_tl a_pe a_en a_pa (nI P) b_rgs b_sv b_co b_ro b_le b_lst b_mu b_ba b_bt b_cp (nI P) b_nx b_tl b_pe b_en b_pa (nI P) r_mp r_kn r_dd r_rd r_dn r_rn f_fl f_fu f_fw f_li (nI 233) f_nx f_tl f_pe f_en f_pa) ++ ((w7A cy ad7 thr xs (nI P) tcd frt frp lan man itm deg num mad inn lon goe tai per lea com see trc cou don nex res quo rou met) ++ ((sgS cy SL sln sia snn svv) ++ (sgP cy ((nad 2) :: PL) (va_up ppp (nad 2) pp) (va_up pca (nad 2) (nad 1)) (va_up pdg (nad 2) d) (va_up ptd (nad 2) t) (va_up pcc (nad 2) f))))) := D_perm hpm2 hD
    refine lv_aload_n hx hb dL_law_469 rfl (lv_at hl 1 rfl) ?_
    refine lv_aload_n hx hb dL_law_470 rfl (lv_at hl 3 rfl) ?_
    refine lv_iload_n hx hb dL_law_471 rfl (lv_at hl 0 rfl) ?_
    refine lv_iconst (v := 1) hx hb dL_law_472 (by decide) ?_
    refine lv_iadd hx hb dL_law_473 ?_
    refine va_sld hx hb hX hbl hbA hS hi1 dL_law_474 ?_
    refine lv_aload_n hx hb dL_law_475 rfl (lv_at hl 3 rfl) ?_
    refine lv_iload_n hx hb dL_law_476 rfl (lv_at hl 0 rfl) ?_
    refine lv_iconst (v := 2) hx hb dL_law_477 (by decide) ?_
    refine lv_iadd hx hb dL_law_478 ?_
    refine va_sld hx hb hX hbl hbA hS hi2 dL_law_479 ?_
    refine lv_aload_n hx hb dL_law_480 rfl (lv_at hl 3 rfl) ?_
    refine lv_iload_n hx hb dL_law_481 rfl (lv_at hl 0 rfl) ?_
    refine lv_iconst (v := 3) hx hb dL_law_482 (by decide) ?_
    refine lv_iadd hx hb dL_law_483 ?_
    refine va_sld hx hb hX hbl hbA hS hi3 dL_law_484 ?_
    refine lv_aload_n hx hb dL_law_485 rfl (lv_at hl 3 rfl) ?_
    refine lv_iload_n hx hb dL_law_486 rfl (lv_at hl 0 rfl) ?_
    refine lv_iconst (v := 4) hx hb dL_law_487 (by decide) ?_
    refine lv_iadd hx hb dL_law_488 ?_
    refine va_sld hx hb hX hbl hbA hS hi4 dL_law_489 ?_
    refine ivW (As := [.int (xs_ (Int32.toNatClampNeg (nI i + 1))), .int (xs_ (Int32.toNatClampNeg (nI i + 2))), .int (xs_ (Int32.toNatClampNeg (nI i + 3))), .int (xs_ (Int32.toNatClampNeg (nI i + 4)))]) (rest := [.int a]) (st1 := [.int a, .int a]) (is := [61, 65, 66, 67, 68, 69]) (w1 := (wX7_0_4_5_6_7_8 cy ad7 0 st (nI P) tcd frt frp deg' num' mad' inn' lon')) ⟨hx, hb, hml, hown, hts⟩ hK hN (KX7_turn l D cy ad7 thr xs (nI P) tcd frt frp deg num mad inn lon (xs_ (Int32.toNatClampNeg (nI i + 1))) (xs_ (Int32.toNatClampNeg (nI i + 2))) (xs_ (Int32.toNatClampNeg (nI i + 3))) (xs_ (Int32.toNatClampNeg (nI i + 4))) H.size (out := (a, 0, st, deg', num', mad', inn', lon')) e7) (cwV 4 hts gL_law_X7_turn rfl rfl rfl (by decide +kernel) ⟨Nat.le_of_ble_eq_true rfl, Nat.le_of_ble_eq_true rfl⟩) (va_recv hK hP (ci := 7) (q0 := 61) rfl rfl) hP hD hS hA P_nil (sepW_nil _) (by decide) rfl rfl rfl hl.1 rfl (Nat.le_of_ble_eq_true rfl) rfl dL_law_490 ⟨by show cells + 3 ≤ 600000; omega, by show slots + 11 ≤ 7302250; omega⟩ (fun H locs hP hD hS => ?_)
    have hPD := PD_mrg (w2 := ((w6A cy ad (nI P) xt st sh (va_up sf (Int32.toNatClampNeg (xs_ (Int32.toNatClampNeg (nI i + 1)))) (some (nad 2))) tr P (P + 1) (nI P) a_rgs a_sv a_co a_ro a_le a_lst a_mu a_ba a_bt a_cp (nI P) a_nx a_tl a_pe a_en a_pa (nI P) b_rgs b_sv b_co b_ro b_le b_lst b_mu b_ba b_bt b_cp (nI P) b_nx b_tl b_pe b_en b_pa (nI P) r_mp r_kn r_dd r_rd r_dn r_rn f_fl f_fu f_fw f_li (nI 233) f_nx f_tl f_pe f_en f_pa) ++ ((w7A cy ad7 0 st (nI P) tcd frt frp lan man itm deg' num' mad' inn' lon' goe tai per lea com see trc cou don nex res quo rou met) ++ ((sgS cy SL sln sia snn svv) ++ (sgP cy ((nad 2) :: PL) (va_up ppp (nad 2) pp) (va_up pca (nad 2) (nad 1)) (va_up pdg (nad 2) d) (va_up ptd (nad 2) t) (va_up pcc (nad 2) f)))))) (by decide) rfl hP hD
    have hP := hPD.1
    have hD := hPD.2
    refine lv_icmp_eq (tgt := 1112) hx hb dL_law_493 (by decide) (fun hcmp => ?_) (fun hcmp => ?_)
    · obtain ⟨hg', hsf'⟩ := made_up hP2 hm hnin hg hsf
      refine W.widen (k := cells + 4) (n := slots + 260) (by omega) (by omega) ?_
      exact kk H locs (fun motive k => k ad ad7 P xt st sh (va_up sf (Int32.toNatClampNeg (xs_ (Int32.toNatClampNeg (nI i + 1)))) (some (nad 2))) tr a_rgs a_sv a_co a_ro a_le a_lst a_mu a_ba a_bt a_cp a_nx a_tl a_pe a_en a_pa b_rgs b_sv b_co b_ro b_le b_lst b_mu b_ba b_bt b_cp b_nx b_tl b_pe b_en b_pa r_mp r_kn r_dd r_rd r_dn r_rn f_fl f_fu f_fw f_li f_nx f_tl f_pe f_en f_pa 0 st tcd frt frp lan man itm deg' num' mad' inn' lon' goe tai per lea com see trc cou don nex res quo rou met SL sln sia snn svv ((nad 2) :: PL) (va_up ppp (nad 2) pp) (va_up pca (nad 2) (nad 1)) (va_up pdg (nad 2) d) (va_up ptd (nad 2) t) (va_up pcc (nad 2) f) rfl rfl hPR rfl hsh hg' hsf' htr (SV_up hnin hsv) (SV_up hnin hsb) (RND_up hnin hrd) hfr hP hD) hS
    · exact absurd (rfl) hcmp
set_option maxHeartbeats 4000000 in
set_option maxRecDepth 100000 in
theorem lc_behind {p : Program} {l : Launch} {e : Env} {s : State} {m : MethodId} {below : List Frame} {meth : Method} {c : Code} {Q : State → Prop} {D : va_G} {cy : Nat → ClassId} {A : Nat → Prop} {b L i q6 q7 cells slots : Nat} {xs_ : Nat → Int32} {H : Heap} {locs : List Loc} {ls : Array Slot} (hx : p.tables.exec = Jvm.exec) (hb : c.code = cL_law) (hml : c.maxLocals = 4) (hown : s.vm.findClass RL = some m.cls) (hts : ∀ w ∈ wsL_law, w.before #[Value.ref b] s = true) (hX : va_X b L xs_ s s.heap) (hbl : b < s.heap.size) (hbA : ¬ A b) (hA : ∀ q, s.heap.size ≤ q → A q) (hK : va_K D vwCl (TYs cy) s) (hN : NK s) (hi : i + 6 ≤ L) (hL : L ≤ 3073) (hLW : LW D cy A q6 q7 H) (hS : va_S A s.heap H locs) (hl : lv_has ls 4 [(3, .int (nI i)), (2, .ref q7), (1, .ref q6), (0, .ref b)]) (hc : cells + 4 ≤ 600000) (hs : slots + 260 ≤ 7302250) (kk : ∀ (H1 : Heap) (locs1 : List Loc), LW D cy A q6 q7 H1 → va_S A s.heap H1 locs1 → W p l e room_1 s m #[Value.ref b] below meth c H1 locs1 (cells + 4) (slots + 260) Q (F0 m 1112 ls [])) : W p l e room_1 s m #[Value.ref b] below meth c H locs cells slots Q (F0 m 498 ls []) := by
  refine hLW _ ?_
  intro ad ad7 P xt xs sh sf tr a_rgs a_sv a_co a_ro a_le a_lst a_mu a_ba a_bt a_cp a_nx a_tl a_pe a_en a_pa b_rgs b_sv b_co b_ro b_le b_lst b_mu b_ba b_bt b_cp b_nx b_tl b_pe b_en b_pa r_mp r_kn r_dd r_rd r_dn r_rn f_fl f_fu f_fw f_li f_nx f_tl f_pe f_en f_pa thr sta tcd frt frp lan man itm deg num mad inn lon goe tai per lea com see trc cou don nex res quo rou met SL sln sia snn svv PL ppp pca pdg ptd pcc hq6 hq7 hPR hst hsh hg hsf htr hsv hsb hrd hfr hP hD
  subst hq6 hq7 hst
  have hP1 : 1 < P := Nat.lt_of_lt_of_le (by omega) hPR.1
  have hP2 : P < 200 := hPR.2.1
  have hi1 : vp_in (nI i + 1) L := by
    rw [show (1 : Int32) = nI 1 from rfl, nI_add]
    exact in_n (by omega) (by omega)
  have hi2 : vp_in (nI i + 2) L := by
    rw [show (2 : Int32) = nI 2 from rfl, nI_add]
    exact in_n (by omega) (by omega)
  have hi3 : vp_in (nI i + 3) L := by
    rw [show (3 : Int32) = nI 3 from rfl, nI_add]
    exact in_n (by omega) (by omega)
  have hi4 : vp_in (nI i + 4) L := by
    rw [show (4 : Int32) = nI 4 from rfl, nI_add]
    exact in_n (by omega) (by omega)
  have hi5 : vp_in (nI i + 5) L := by
    rw [show (5 : Int32) = nI 5 from rfl, nI_add]
    exact in_n (by omega) (by omega)
  obtain ⟨a, st, deg', num', mad', inn', lon', f, pp, d, t, mk, e7, e6, hm⟩ := op_behind (pca := pca) (sta := xs) (mad := mad) (inn := inn) (lon := lon) hPR hsf hg (xs_ (Int32.toNatClampNeg (nI i + 1))) (xs_ (Int32.toNatClampNeg (nI i + 2))) (xs_ (Int32.toNatClampNeg (nI i + 3)))
  cases mk with
  | false =>
    refine lv_aload_n hx hb dL_law_498 rfl (lv_at hl 2 rfl) ?_
    refine lv_aload_n hx hb dL_law_499 rfl (lv_at hl 3 rfl) ?_
    refine lv_iload_n hx hb dL_law_500 rfl (lv_at hl 0 rfl) ?_
    refine lv_iconst (v := 1) hx hb dL_law_501 (by decide) ?_
    refine lv_iadd hx hb dL_law_502 ?_
    refine va_sld hx hb hX hbl hbA hS hi1 dL_law_503 ?_
    refine lv_aload_n hx hb dL_law_504 rfl (lv_at hl 3 rfl) ?_
    refine lv_iload_n hx hb dL_law_505 rfl (lv_at hl 0 rfl) ?_
    refine lv_iconst (v := 2) hx hb dL_law_506 (by decide) ?_
    refine lv_iadd hx hb dL_law_507 ?_
    refine va_sld hx hb hX hbl hbA hS hi2 dL_law_508 ?_
    refine lv_aload_n hx hb dL_law_509 rfl (lv_at hl 3 rfl) ?_
    refine lv_iload_n hx hb dL_law_510 rfl (lv_at hl 0 rfl) ?_
    refine lv_iconst (v := 3) hx hb dL_law_511 (by decide) ?_
    refine lv_iadd hx hb dL_law_512 ?_
    refine va_sld hx hb hX hbl hbA hS hi3 dL_law_513 ?_
    refine ivN0 (As := [.int (xs_ (Int32.toNatClampNeg (nI i + 1))), .int (xs_ (Int32.toNatClampNeg (nI i + 2))), .int (xs_ (Int32.toNatClampNeg (nI i + 3)))]) (rest := []) (st1 := [.int a]) (is := [0, 2]) (w1 := (wX6_0_2 cy ad (nI P) xt st sf)) ⟨hx, hb, hml, hown, hts⟩ hK hN (KX6_behind l D cy ad (nI P) xt xs sf PL ppp pca pdg ptd pcc (xs_ (Int32.toNatClampNeg (nI i + 1))) (xs_ (Int32.toNatClampNeg (nI i + 2))) (xs_ (Int32.toNatClampNeg (nI i + 3))) H.size (out := (a, st, f, pp, d, t, false)) e6) (cwV 3 hts gL_law_X6_behind rfl rfl rfl (by decide +kernel) ⟨Nat.le_of_ble_eq_true rfl, Nat.le_of_ble_eq_true rfl⟩) (va_recv hK hP (ci := 6) (q0 := 0) rfl rfl) hP hD hS hA (P_right (P_right (P_right hP))) (sepE (N := 61) (is := [0, 2]) hD rfl rfl (by decide) (fun q h => List.mem_append_right _ (List.mem_append_right _ h))) (by decide) rfl rfl rfl hl.1 rfl (Nat.le_of_ble_eq_true rfl) rfl dL_law_514 ⟨by show cells + 2 ≤ 600000; omega, by show slots + 9 ≤ 7302250; omega⟩ (fun H locs hP hD hS => ?_)
    have hPD := PD_mrg (w2 := ((w6A cy ad (nI P) xt st sh sf tr P (P + 1) (nI P) a_rgs a_sv a_co a_ro a_le a_lst a_mu a_ba a_bt a_cp (nI P) a_nx a_tl a_pe a_en a_pa (nI P) b_rgs b_sv b_co b_ro b_le b_lst b_mu b_ba b_bt b_cp (nI P) b_nx b_tl b_pe b_en b_pa (nI P) r_mp r_kn r_dd r_rd r_dn r_rn f_fl f_fu f_fw f_li (nI 233) f_nx f_tl f_pe f_en f_pa) ++ ((w7A cy ad7 thr xs (nI P) tcd frt frp lan man itm deg num mad inn lon goe tai per lea com see trc cou don nex res quo rou met) ++ ((sgS cy SL sln sia snn svv) ++ (sgP cy PL ppp pca pdg ptd pcc))))) (by decide) rfl hP hD
    have hP := hPD.1
    have hD := hPD.2
    refine lv_aload_n hx hb dL_law_517 rfl (lv_at hl 1 rfl) ?_
    refine lv_aload_n hx hb dL_law_518 rfl (lv_at hl 3 rfl) ?_
    refine lv_iload_n hx hb dL_law_519 rfl (lv_at hl 0 rfl) ?_
    refine lv_iconst (v := 1) hx hb dL_law_520 (by decide) ?_
    refine lv_iadd hx hb dL_law_521 ?_
    refine va_sld hx hb hX hbl hbA hS hi1 dL_law_522 ?_
    refine lv_aload_n hx hb dL_law_523 rfl (lv_at hl 3 rfl) ?_
    refine lv_iload_n hx hb dL_law_524 rfl (lv_at hl 0 rfl) ?_
    refine lv_iconst (v := 2) hx hb dL_law_525 (by decide) ?_
    refine lv_iadd hx hb dL_law_526 ?_
    refine va_sld hx hb hX hbl hbA hS hi2 dL_law_527 ?_
    refine lv_aload_n hx hb dL_law_528 rfl (lv_at hl 3 rfl) ?_
    refine lv_iload_n hx hb dL_law_529 rfl (lv_at hl 0 rfl) ?_
    refine lv_iconst (v := 3) hx hb dL_law_530 (by decide) ?_
    refine lv_iadd hx hb dL_law_531 ?_
    refine va_sld hx hb hX hbl hbA hS hi3 dL_law_532 ?_
    refine ivW (As := [.int (xs_ (Int32.toNatClampNeg (nI i + 1))), .int (xs_ (Int32.toNatClampNeg (nI i + 2))), .int (xs_ (Int32.toNatClampNeg (nI i + 3)))]) (rest := [.int a]) (st1 := [.int a, .int a]) (is := [61, 65, 66, 67, 68, 69]) (w1 := (wX7_0_4_5_6_7_8 cy ad7 0 st (nI P) tcd frt frp deg' num' mad' inn' lon')) ⟨hx, hb, hml, hown, hts⟩ hK hN (KX7_behind l D cy ad7 thr xs (nI P) tcd frt frp deg num mad inn lon (xs_ (Int32.toNatClampNeg (nI i + 1))) (xs_ (Int32.toNatClampNeg (nI i + 2))) (xs_ (Int32.toNatClampNeg (nI i + 3))) H.size (out := (a, 0, st, deg', num', mad', inn', lon')) e7) (cwV 3 hts gL_law_X7_behind rfl rfl rfl (by decide +kernel) ⟨Nat.le_of_ble_eq_true rfl, Nat.le_of_ble_eq_true rfl⟩) (va_recv hK hP (ci := 7) (q0 := 61) rfl rfl) hP hD hS hA P_nil (sepW_nil _) (by decide) rfl rfl rfl hl.1 rfl (Nat.le_of_ble_eq_true rfl) rfl dL_law_533 ⟨by show cells + 2 ≤ 600000; omega, by show slots + 9 ≤ 7302250; omega⟩ (fun H locs hP hD hS => ?_)
    have hPD := PD_mrg (w2 := ((w6A cy ad (nI P) xt st sh sf tr P (P + 1) (nI P) a_rgs a_sv a_co a_ro a_le a_lst a_mu a_ba a_bt a_cp (nI P) a_nx a_tl a_pe a_en a_pa (nI P) b_rgs b_sv b_co b_ro b_le b_lst b_mu b_ba b_bt b_cp (nI P) b_nx b_tl b_pe b_en b_pa (nI P) r_mp r_kn r_dd r_rd r_dn r_rn f_fl f_fu f_fw f_li (nI 233) f_nx f_tl f_pe f_en f_pa) ++ ((w7A cy ad7 0 st (nI P) tcd frt frp lan man itm deg' num' mad' inn' lon' goe tai per lea com see trc cou don nex res quo rou met) ++ ((sgS cy SL sln sia snn svv) ++ (sgP cy PL ppp pca pdg ptd pcc))))) (by decide) rfl hP hD
    have hP := hPD.1
    have hD := hPD.2
    refine lv_icmp_eq (tgt := 1112) hx hb dL_law_536 (by decide) (fun hcmp => ?_) (fun hcmp => ?_)
    · obtain ⟨rfl, rfl⟩ := made_0 hm
      refine W.widen (k := cells + 4) (n := slots + 260) (by omega) (by omega) ?_
      exact kk H locs (fun motive k => k ad ad7 P xt st sh sf tr a_rgs a_sv a_co a_ro a_le a_lst a_mu a_ba a_bt a_cp a_nx a_tl a_pe a_en a_pa b_rgs b_sv b_co b_ro b_le b_lst b_mu b_ba b_bt b_cp b_nx b_tl b_pe b_en b_pa r_mp r_kn r_dd r_rd r_dn r_rn f_fl f_fu f_fw f_li f_nx f_tl f_pe f_en f_pa 0 st tcd frt frp lan man itm _ _ mad' inn' lon' goe tai per lea com see trc cou don nex res quo rou met SL sln sia snn svv PL ppp pca pdg ptd pcc rfl rfl hPR rfl hsh hg hsf htr hsv hsb hrd hfr hP hD) hS
    · exact absurd (rfl) hcmp
  | true =>
    refine lv_aload_n hx hb dL_law_498 rfl (lv_at hl 2 rfl) ?_
    refine lv_aload_n hx hb dL_law_499 rfl (lv_at hl 3 rfl) ?_
    refine lv_iload_n hx hb dL_law_500 rfl (lv_at hl 0 rfl) ?_
    refine lv_iconst (v := 1) hx hb dL_law_501 (by decide) ?_
    refine lv_iadd hx hb dL_law_502 ?_
    refine va_sld hx hb hX hbl hbA hS hi1 dL_law_503 ?_
    refine lv_aload_n hx hb dL_law_504 rfl (lv_at hl 3 rfl) ?_
    refine lv_iload_n hx hb dL_law_505 rfl (lv_at hl 0 rfl) ?_
    refine lv_iconst (v := 2) hx hb dL_law_506 (by decide) ?_
    refine lv_iadd hx hb dL_law_507 ?_
    refine va_sld hx hb hX hbl hbA hS hi2 dL_law_508 ?_
    refine lv_aload_n hx hb dL_law_509 rfl (lv_at hl 3 rfl) ?_
    refine lv_iload_n hx hb dL_law_510 rfl (lv_at hl 0 rfl) ?_
    refine lv_iconst (v := 3) hx hb dL_law_511 (by decide) ?_
    refine lv_iadd hx hb dL_law_512 ?_
    refine va_sld hx hb hX hbl hbA hS hi3 dL_law_513 ?_
    refine ivN (As := [.int (xs_ (Int32.toNatClampNeg (nI i + 1))), .int (xs_ (Int32.toNatClampNeg (nI i + 2))), .int (xs_ (Int32.toNatClampNeg (nI i + 3)))]) (rest := []) (st1 := fun nad => [.int a]) (is := [0, 2]) (w1 := fun nad => (wX6_0_2 cy ad (nI P) xt st (va_up sf (Int32.toNatClampNeg (xs_ (Int32.toNatClampNeg (nI i + 1)))) (some (nad 1))))) (wn := fun nad => [((nad 0), (.inl (cy 0, 5, .inl f) : va_E)), ((nad 1), (.inr (2, [.int pp, .ref (nad 0), .int d, .int t]) : va_E))]) ⟨hx, hb, hml, hown, hts⟩ hK hN (KX6_behind l D cy ad (nI P) xt xs sf PL ppp pca pdg ptd pcc (xs_ (Int32.toNatClampNeg (nI i + 1))) (xs_ (Int32.toNatClampNeg (nI i + 2))) (xs_ (Int32.toNatClampNeg (nI i + 3))) H.size (out := (a, st, f, pp, d, t, true)) e6) (cwV 3 hts gL_law_X6_behind rfl rfl rfl (by decide +kernel) ⟨Nat.le_of_ble_eq_true rfl, Nat.le_of_ble_eq_true rfl⟩) (va_recv hK hP (ci := 6) (q0 := 0) rfl rfl) hP hD hS hA (P_right (P_right (P_right hP))) (sepE (N := 61) (is := [0, 2]) hD rfl rfl (by decide) (fun q h => List.mem_append_right _ (List.mem_append_right _ h))) (by decide) rfl (fun nad => rfl) rfl hl.1 rfl (Nat.le_of_ble_eq_true rfl) (fun nad => rfl) dL_law_514 ⟨by show cells + 2 ≤ 600000; omega, by show slots + 9 ≤ 7302250; omega⟩ (fun nad H locs hP hD hS => ?_)
    have hPD := PD_mrgA (w2 := ((w6A cy ad (nI P) xt st sh (va_up sf (Int32.toNatClampNeg (xs_ (Int32.toNatClampNeg (nI i + 1)))) (some (nad 1))) tr P (P + 1) (nI P) a_rgs a_sv a_co a_ro a_le a_lst a_mu a_ba a_bt a_cp (nI P) a_nx a_tl a_pe a_en a_pa (nI P) b_rgs b_sv b_co b_ro b_le b_lst b_mu b_ba b_bt b_cp (nI P) b_nx b_tl b_pe b_en b_pa (nI P) r_mp r_kn r_dd r_rd r_dn r_rn f_fl f_fu f_fw f_li (nI 233) f_nx f_tl f_pe f_en f_pa) ++ ((w7A cy ad7 thr xs (nI P) tcd frt frp lan man itm deg num mad inn lon goe tai per lea com see trc cou don nex res quo rou met) ++ ((sgS cy SL sln sia snn svv) ++ (sgP cy PL ppp pca pdg ptd pcc))))) (wn := [((nad 0), (.inl (cy 0, 5, .inl f) : va_E)), ((nad 1), (.inr (2, [.int pp, .ref (nad 0), .int d, .int t]) : va_E))]) (by decide) rfl hP hD
    have hP := hPD.1
    have hD := hPD.2
    have hnin : (nad 1) ∉ PL := pool_P hD
    have hpm2 : (((w6A cy ad (nI P) xt st sh (va_up sf (Int32.toNatClampNeg (xs_ (Int32.toNatClampNeg (nI i + 1)))) (some (nad 1))) tr P (P + 1) (nI P) a_rgs a_sv a_co a_ro a_le a_lst a_mu a_ba a_bt a_cp (nI P) a_nx a_tl a_pe a_en a_pa (nI P) b_rgs b_sv b_co b_ro b_le b_lst b_mu b_ba b_bt b_cp (nI P) b_nx b_tl b_pe b_en b_pa (nI P) r_mp r_kn r_dd r_rd r_dn r_rn f_fl f_fu f_fw f_li (nI 233) f_nx f_tl f_pe f_en f_pa) ++ ((w7A cy ad7 thr xs (nI P) tcd frt frp lan man itm deg num mad inn lon goe tai per lea com see trc cou don nex res quo rou met) ++ ((sgS cy SL sln sia snn svv) ++ (sgP cy PL ppp pca pdg ptd pcc)))) ++ [((nad 0), (.inl (cy 0, 5, .inl f) : va_E)), ((nad 1), (.inr (2, [.int pp, .ref (nad 0), .int d, .int t]) : va_E))]).Perm ((w6A cy ad (nI P) xt st sh (va_up sf (Int32.toNatClampNeg (xs_ (Int32.toNatClampNeg (nI i + 1)))) (some (nad 1))) tr P (P + 1) (nI P) a_rgs a_sv a_co a_ro a_le a_lst a_mu a_ba a_bt a_cp (nI P) a_nx a_tl a_pe a_en a_pa (nI P) b_rgs b_sv b_co b_ro b_le b_lst b_mu b_ba b_bt b_cp (nI P) b_nx b_tl b_pe b_en b_pa (nI P) r_mp r_kn r_dd r_rd r_dn r_rn f_fl f_fu f_fw f_li (nI 233) f_nx f_tl f_pe f_en f_pa) ++ ((w7A cy ad7 thr xs (nI P) tcd frt frp lan man itm deg num mad inn lon goe tai per lea com see trc cou don nex res quo rou met) ++ ((sgS cy SL sln sia snn svv) ++ (sgP cy ((nad 1) :: PL) (va_up ppp (nad 1) pp) (va_up pca (nad 1) (nad 0)) (va_up pdg (nad 1) d) (va_up ptd (nad 1) t) (va_up pcc (nad 1) f))))) := pool_Pp (sgP_up hnin)
    have hP : va_P D vwCl ((w6A cy ad (nI P) xt st sh (va_up sf (Int32.toNatClampNeg (xs_ (Int32.toNatClampNeg (nI i + 1)))) (some (nad 1))) tr P (P + 1) (nI P) a_rgs a_sv a_co a_ro a_le a_lst a_mu a_ba a_bt a_cp (nI P) a_nx a_tl a_pe a_en a_pa (nI P) b_rgs b_sv b_co b_ro b_le b_lst b_mu b_ba b_bt b_cp (nI P) b_nx b_tl b_pe b_en b_pa (nI P) r_mp r_kn r_dd r_rd r_dn r_rn f_fl f_fu f_fw f_li (nI 233) f_nx f_tl f_pe f_en f_pa) ++ ((w7A cy ad7 thr xs (nI P) tcd frt frp lan man itm deg num mad inn lon goe tai per lea com see trc cou don nex res quo rou met) ++ ((sgS cy SL sln sia snn svv) ++ (sgP cy ((nad 1) :: PL) (va_up ppp (nad 1) pp) (va_up pca (nad 1) (nad 0)) (va_up pdg (nad 1) d) (va_up ptd (nad 1) t) (va_up pcc (nad 1) f))))) H := P_perm hpm2 hP
    have hD : va_D A ((w6A cy ad (nI P) xt st sh (va_up sf (Int32.toNatClampNeg (xs_ (Int32.toNatClampNeg (nI i + 1)))) (some (nad 1))) tr P (P + 1) (nI P) a_rgs a_sv a_co a_ro a_le a_lst a_mu a_ba a_bt a_cp (nI P) a_nx a_tl a_pe a_en a_pa (nI P) b_rgs b_sv b_co b_ro b_le b_lst b_mu b_ba b_bt b_cp (nI P) b_nx b_tl b_pe b_en b_pa (nI P) r_mp r_kn r_dd r_rd r_dn r_rn f_fl f_fu f_fw f_li (nI 233) f_nx f_tl f_pe f_en f_pa) ++ ((w7A cy ad7 thr xs (nI P) tcd frt frp lan man itm deg num mad inn lon goe tai per lea com see trc cou don nex res quo rou met) ++ ((sgS cy SL sln sia snn svv) ++ (sgP cy ((nad 1) :: PL) (va_up ppp (nad 1) pp) (va_up pca (nad 1) (nad 0)) (va_up pdg (nad 1) d) (va_up ptd (nad 1) t) (va_up pcc (nad 1) f))))) := D_perm hpm2 hD
    refine lv_aload_n hx hb dL_law_517 rfl (lv_at hl 1 rfl) ?_
    refine lv_aload_n hx hb dL_law_518 rfl (lv_at hl 3 rfl) ?_
    refine lv_iload_n hx hb dL_law_519 rfl (lv_at hl 0 rfl) ?_
    refine lv_iconst (v := 1) hx hb dL_law_520 (by decide) ?_
    refine lv_iadd hx hb dL_law_521 ?_
    refine va_sld hx hb hX hbl hbA hS hi1 dL_law_522 ?_
    refine lv_aload_n hx hb dL_law_523 rfl (lv_at hl 3 rfl) ?_
    refine lv_iload_n hx hb dL_law_524 rfl (lv_at hl 0 rfl) ?_
    refine lv_iconst (v := 2) hx hb dL_law_525 (by decide) ?_
    refine lv_iadd hx hb dL_law_526 ?_
    refine va_sld hx hb hX hbl hbA hS hi2 dL_law_527 ?_
    refine lv_aload_n hx hb dL_law_528 rfl (lv_at hl 3 rfl) ?_
    refine lv_iload_n hx hb dL_law_529 rfl (lv_at hl 0 rfl) ?_
    refine lv_iconst (v := 3) hx hb dL_law_530 (by decide) ?_
    refine lv_iadd hx hb dL_law_531 ?_
    refine va_sld hx hb hX hbl hbA hS hi3 dL_law_532 ?_
    refine ivW (As := [.int (xs_ (Int32.toNatClampNeg (nI i + 1))), .int (xs_ (Int32.toNatClampNeg (nI i + 2))), .int (xs_ (Int32.toNatClampNeg (nI i + 3)))]) (rest := [.int a]) (st1 := [.int a, .int a]) (is := [61, 65, 66, 67, 68, 69]) (w1 := (wX7_0_4_5_6_7_8 cy ad7 0 st (nI P) tcd frt frp deg' num' mad' inn' lon')) ⟨hx, hb, hml, hown, hts⟩ hK hN (KX7_behind l D cy ad7 thr xs (nI P) tcd frt frp deg num mad inn lon (xs_ (Int32.toNatClampNeg (nI i + 1))) (xs_ (Int32.toNatClampNeg (nI i + 2))) (xs_ (Int32.toNatClampNeg (nI i + 3))) H.size (out := (a, 0, st, deg', num', mad', inn', lon')) e7) (cwV 3 hts gL_law_X7_behind rfl rfl rfl (by decide +kernel) ⟨Nat.le_of_ble_eq_true rfl, Nat.le_of_ble_eq_true rfl⟩) (va_recv hK hP (ci := 7) (q0 := 61) rfl rfl) hP hD hS hA P_nil (sepW_nil _) (by decide) rfl rfl rfl hl.1 rfl (Nat.le_of_ble_eq_true rfl) rfl dL_law_533 ⟨by show cells + 2 ≤ 600000; omega, by show slots + 9 ≤ 7302250; omega⟩ (fun H locs hP hD hS => ?_)
    have hPD := PD_mrg (w2 := ((w6A cy ad (nI P) xt st sh (va_up sf (Int32.toNatClampNeg (xs_ (Int32.toNatClampNeg (nI i + 1)))) (some (nad 1))) tr P (P + 1) (nI P) a_rgs a_sv a_co a_ro a_le a_lst a_mu a_ba a_bt a_cp (nI P) a_nx a_tl a_pe a_en a_pa (nI P) b_rgs b_sv b_co b_ro b_le b_lst b_mu b_ba b_bt b_cp (nI P) b_nx b_tl b_pe b_en b_pa (nI P) r_mp r_kn r_dd r_rd r_dn r_rn f_fl f_fu f_fw f_li (nI 233) f_nx f_tl f_pe f_en f_pa) ++ ((w7A cy ad7 0 st (nI P) tcd frt frp lan man itm deg' num' mad' inn' lon' goe tai per lea com see trc cou don nex res quo rou met) ++ ((sgS cy SL sln sia snn svv) ++ (sgP cy ((nad 1) :: PL) (va_up ppp (nad 1) pp) (va_up pca (nad 1) (nad 0)) (va_up pdg (nad 1) d) (va_up ptd (nad 1) t) (va_up pcc (nad 1) f)))))) (by decide) rfl hP hD
    have hP := hPD.1
    have hD := hPD.2
    refine lv_icmp_eq (tgt := 1112) hx hb dL_law_536 (by decide) (fun hcmp => ?_) (fun hcmp => ?_)
    · obtain ⟨hg', hsf'⟩ := made_up hP2 hm hnin hg hsf
      refine W.widen (k := cells + 4) (n := slots + 260) (by omega) (by omega) ?_
      exact kk H locs (fun motive k => k ad ad7 P xt st sh (va_up sf (Int32.toNatClampNeg (xs_ (Int32.toNatClampNeg (nI i + 1)))) (some (nad 1))) tr a_rgs a_sv a_co a_ro a_le a_lst a_mu a_ba a_bt a_cp a_nx a_tl a_pe a_en a_pa b_rgs b_sv b_co b_ro b_le b_lst b_mu b_ba b_bt b_cp b_nx b_tl b_pe b_en b_pa r_mp r_kn r_dd r_rd r_dn r_rn f_fl f_fu f_fw f_li f_nx f_tl f_pe f_en f_pa 0 st tcd frt frp lan man itm deg' num' mad' inn' lon' goe tai per lea com see trc cou don nex res quo rou met SL sln sia snn svv ((nad 1) :: PL) (va_up ppp (nad 1) pp) (va_up pca (nad 1) (nad 0)) (va_up pdg (nad 1) d) (va_up ptd (nad 1) t) (va_up pcc (nad 1) f) rfl rfl hPR rfl hsh hg' hsf' htr (SV_up hnin hsv) (SV_up hnin hsb) (RND_up hnin hrd) hfr hP hD) hS
    · exact absurd (rfl) hcmp
set_option maxHeartbeats 4000000 in
set_option maxRecDepth 100000 in
theorem lc_clear {p : Program} {l : Launch} {e : Env} {s : State} {m : MethodId} {below : List Frame} {meth : Method} {c : Code} {Q : State → Prop} {D : va_G} {cy : Nat → ClassId} {A : Nat → Prop} {b L i q6 q7 cells slots : Nat} {xs_ : Nat → Int32} {H : Heap} {locs : List Loc} {ls : Array Slot} (hx : p.tables.exec = Jvm.exec) (hb : c.code = cL_law) (hml : c.maxLocals = 4) (hown : s.vm.findClass RL = some m.cls) (hts : ∀ w ∈ wsL_law, w.before #[Value.ref b] s = true) (hX : va_X b L xs_ s s.heap) (hbl : b < s.heap.size) (hbA : ¬ A b) (hA : ∀ q, s.heap.size ≤ q → A q) (hK : va_K D vwCl (TYs cy) s) (hN : NK s) (hi : i + 6 ≤ L) (hL : L ≤ 3073) (hLW : LW D cy A q6 q7 H) (hS : va_S A s.heap H locs) (hl : lv_has ls 4 [(3, .int (nI i)), (2, .ref q7), (1, .ref q6), (0, .ref b)]) (hc : cells + 4 ≤ 600000) (hs : slots + 260 ≤ 7302250) (kk : ∀ (H1 : Heap) (locs1 : List Loc), LW D cy A q6 q7 H1 → va_S A s.heap H1 locs1 → W p l e room_1 s m #[Value.ref b] below meth c H1 locs1 (cells + 4) (slots + 260) Q (F0 m 1112 ls [])) : W p l e room_1 s m #[Value.ref b] below meth c H locs cells slots Q (F0 m 541 ls []) := by
  refine hLW _ ?_
  intro ad ad7 P xt xs sh sf tr a_rgs a_sv a_co a_ro a_le a_lst a_mu a_ba a_bt a_cp a_nx a_tl a_pe a_en a_pa b_rgs b_sv b_co b_ro b_le b_lst b_mu b_ba b_bt b_cp b_nx b_tl b_pe b_en b_pa r_mp r_kn r_dd r_rd r_dn r_rn f_fl f_fu f_fw f_li f_nx f_tl f_pe f_en f_pa thr sta tcd frt frp lan man itm deg num mad inn lon goe tai per lea com see trc cou don nex res quo rou met SL sln sia snn svv PL ppp pca pdg ptd pcc hq6 hq7 hPR hst hsh hg hsf htr hsv hsb hrd hfr hP hD
  subst hq6 hq7 hst
  have hP1 : 1 < P := Nat.lt_of_lt_of_le (by omega) hPR.1
  have hP2 : P < 200 := hPR.2.1
  have hi1 : vp_in (nI i + 1) L := by
    rw [show (1 : Int32) = nI 1 from rfl, nI_add]
    exact in_n (by omega) (by omega)
  have hi2 : vp_in (nI i + 2) L := by
    rw [show (2 : Int32) = nI 2 from rfl, nI_add]
    exact in_n (by omega) (by omega)
  have hi3 : vp_in (nI i + 3) L := by
    rw [show (3 : Int32) = nI 3 from rfl, nI_add]
    exact in_n (by omega) (by omega)
  have hi4 : vp_in (nI i + 4) L := by
    rw [show (4 : Int32) = nI 4 from rfl, nI_add]
    exact in_n (by omega) (by omega)
  have hi5 : vp_in (nI i + 5) L := by
    rw [show (5 : Int32) = nI 5 from rfl, nI_add]
    exact in_n (by omega) (by omega)
  obtain ⟨a, deg', sf', e7, e6, hsf'⟩ := op_clear hg hsf (xs_ (Int32.toNatClampNeg (nI i + 1)))
  refine lv_aload_n hx hb dL_law_541 rfl (lv_at hl 2 rfl) ?_
  refine lv_aload_n hx hb dL_law_542 rfl (lv_at hl 3 rfl) ?_
  refine lv_iload_n hx hb dL_law_543 rfl (lv_at hl 0 rfl) ?_
  refine lv_iconst (v := 1) hx hb dL_law_544 (by decide) ?_
  refine lv_iadd hx hb dL_law_545 ?_
  refine va_sld hx hb hX hbl hbA hS hi1 dL_law_546 ?_
  refine ivW (As := [.int (xs_ (Int32.toNatClampNeg (nI i + 1)))]) (rest := []) (st1 := [.int a]) (is := [0, 2]) (w1 := (wX6_0_2 cy ad (nI P) xt xs sf')) ⟨hx, hb, hml, hown, hts⟩ hK hN (KX6_clear l D cy ad (nI P) xt xs sf (xs_ (Int32.toNatClampNeg (nI i + 1))) H.size (out := (a, sf')) e6) (cwV 1 hts gL_law_X6_clear rfl rfl rfl (by decide +kernel) ⟨Nat.le_of_ble_eq_true rfl, Nat.le_of_ble_eq_true rfl⟩) (va_recv hK hP (ci := 6) (q0 := 0) rfl rfl) hP hD hS hA P_nil (sepW_nil _) (by decide) rfl rfl rfl hl.1 rfl (Nat.le_of_ble_eq_true rfl) rfl dL_law_547 ⟨by show cells + 0 ≤ 600000; omega, by show slots + 0 ≤ 7302250; omega⟩ (fun H locs hP hD hS => ?_)
  have hPD := PD_mrg (w2 := ((w6A cy ad (nI P) xt xs sh sf' tr P (P + 1) (nI P) a_rgs a_sv a_co a_ro a_le a_lst a_mu a_ba a_bt a_cp (nI P) a_nx a_tl a_pe a_en a_pa (nI P) b_rgs b_sv b_co b_ro b_le b_lst b_mu b_ba b_bt b_cp (nI P) b_nx b_tl b_pe b_en b_pa (nI P) r_mp r_kn r_dd r_rd r_dn r_rn f_fl f_fu f_fw f_li (nI 233) f_nx f_tl f_pe f_en f_pa) ++ ((w7A cy ad7 thr xs (nI P) tcd frt frp lan man itm deg num mad inn lon goe tai per lea com see trc cou don nex res quo rou met) ++ ((sgS cy SL sln sia snn svv) ++ (sgP cy PL ppp pca pdg ptd pcc))))) (by decide) rfl hP hD
  have hP := hPD.1
  have hD := hPD.2
  refine lv_aload_n hx hb dL_law_550 rfl (lv_at hl 1 rfl) ?_
  refine lv_aload_n hx hb dL_law_551 rfl (lv_at hl 3 rfl) ?_
  refine lv_iload_n hx hb dL_law_552 rfl (lv_at hl 0 rfl) ?_
  refine lv_iconst (v := 1) hx hb dL_law_553 (by decide) ?_
  refine lv_iadd hx hb dL_law_554 ?_
  refine va_sld hx hb hX hbl hbA hS hi1 dL_law_555 ?_
  refine ivW (As := [.int (xs_ (Int32.toNatClampNeg (nI i + 1)))]) (rest := [.int a]) (st1 := [.int a, .int a]) (is := [61, 65]) (w1 := (wX7_0_4 cy ad7 0 xs (nI P) tcd frt frp deg')) ⟨hx, hb, hml, hown, hts⟩ hK hN (KX7_clear l D cy ad7 thr xs (nI P) tcd frt frp deg (xs_ (Int32.toNatClampNeg (nI i + 1))) H.size (out := (a, 0, deg')) e7) (cwV 1 hts gL_law_X7_clear rfl rfl rfl (by decide +kernel) ⟨Nat.le_of_ble_eq_true rfl, Nat.le_of_ble_eq_true rfl⟩) (va_recv hK hP (ci := 7) (q0 := 61) rfl rfl) hP hD hS hA P_nil (sepW_nil _) (by decide) rfl rfl rfl hl.1 rfl (Nat.le_of_ble_eq_true rfl) rfl dL_law_556 ⟨by show cells + 0 ≤ 600000; omega, by show slots + 0 ≤ 7302250; omega⟩ (fun H locs hP hD hS => ?_)
  have hPD := PD_mrg (w2 := ((w6A cy ad (nI P) xt xs sh sf' tr P (P + 1) (nI P) a_rgs a_sv a_co a_ro a_le a_lst a_mu a_ba a_bt a_cp (nI P) a_nx a_tl a_pe a_en a_pa (nI P) b_rgs b_sv b_co b_ro b_le b_lst b_mu b_ba b_bt b_cp (nI P) b_nx b_tl b_pe b_en b_pa (nI P) r_mp r_kn r_dd r_rd r_dn r_rn f_fl f_fu f_fw f_li (nI 233) f_nx f_tl f_pe f_en f_pa) ++ ((w7A cy ad7 0 xs (nI P) tcd frt frp lan man itm deg' num mad inn lon goe tai per lea com see trc cou don nex res quo rou met) ++ ((sgS cy SL sln sia snn svv) ++ (sgP cy PL ppp pca pdg ptd pcc))))) (by decide) rfl hP hD
  have hP := hPD.1
  have hD := hPD.2
  refine lv_icmp_eq (tgt := 1112) hx hb dL_law_559 (by decide) (fun hcmp => ?_) (fun hcmp => ?_)
  · refine W.widen (k := cells + 4) (n := slots + 260) (by omega) (by omega) ?_
    exact kk H locs (fun motive k => k ad ad7 P xt xs sh sf' tr a_rgs a_sv a_co a_ro a_le a_lst a_mu a_ba a_bt a_cp a_nx a_tl a_pe a_en a_pa b_rgs b_sv b_co b_ro b_le b_lst b_mu b_ba b_bt b_cp b_nx b_tl b_pe b_en b_pa r_mp r_kn r_dd r_rd r_dn r_rn f_fl f_fu f_fw f_li f_nx f_tl f_pe f_en f_pa 0 xs tcd frt frp lan man itm deg' num mad inn lon goe tai per lea com see trc cou don nex res quo rou met SL sln sia snn svv PL ppp pca pdg ptd pcc rfl rfl hPR rfl hsh hg hsf' htr hsv hsb hrd hfr hP hD) hS
  · exact absurd (rfl) hcmp
set_option maxHeartbeats 4000000 in
set_option maxRecDepth 100000 in
theorem lc_number {p : Program} {l : Launch} {e : Env} {s : State} {m : MethodId} {below : List Frame} {meth : Method} {c : Code} {Q : State → Prop} {D : va_G} {cy : Nat → ClassId} {A : Nat → Prop} {b L i q6 q7 cells slots : Nat} {xs_ : Nat → Int32} {H : Heap} {locs : List Loc} {ls : Array Slot} (hx : p.tables.exec = Jvm.exec) (hb : c.code = cL_law) (hml : c.maxLocals = 4) (hown : s.vm.findClass RL = some m.cls) (hts : ∀ w ∈ wsL_law, w.before #[Value.ref b] s = true) (hX : va_X b L xs_ s s.heap) (hbl : b < s.heap.size) (hbA : ¬ A b) (hA : ∀ q, s.heap.size ≤ q → A q) (hK : va_K D vwCl (TYs cy) s) (hN : NK s) (hi : i + 6 ≤ L) (hL : L ≤ 3073) (hLW : LW D cy A q6 q7 H) (hS : va_S A s.heap H locs) (hl : lv_has ls 4 [(3, .int (nI i)), (2, .ref q7), (1, .ref q6), (0, .ref b)]) (hc : cells + 4 ≤ 600000) (hs : slots + 260 ≤ 7302250) (kk : ∀ (H1 : Heap) (locs1 : List Loc), LW D cy A q6 q7 H1 → va_S A s.heap H1 locs1 → W p l e room_1 s m #[Value.ref b] below meth c H1 locs1 (cells + 4) (slots + 260) Q (F0 m 1112 ls [])) : W p l e room_1 s m #[Value.ref b] below meth c H locs cells slots Q (F0 m 564 ls []) := by
  refine hLW _ ?_
  intro ad ad7 P xt xs sh sf tr a_rgs a_sv a_co a_ro a_le a_lst a_mu a_ba a_bt a_cp a_nx a_tl a_pe a_en a_pa b_rgs b_sv b_co b_ro b_le b_lst b_mu b_ba b_bt b_cp b_nx b_tl b_pe b_en b_pa r_mp r_kn r_dd r_rd r_dn r_rn f_fl f_fu f_fw f_li f_nx f_tl f_pe f_en f_pa thr sta tcd frt frp lan man itm deg num mad inn lon goe tai per lea com see trc cou don nex res quo rou met SL sln sia snn svv PL ppp pca pdg ptd pcc hq6 hq7 hPR hst hsh hg hsf htr hsv hsb hrd hfr hP hD
  subst hq6 hq7 hst
  have hP1 : 1 < P := Nat.lt_of_lt_of_le (by omega) hPR.1
  have hP2 : P < 200 := hPR.2.1
  have hi1 : vp_in (nI i + 1) L := by
    rw [show (1 : Int32) = nI 1 from rfl, nI_add]
    exact in_n (by omega) (by omega)
  have hi2 : vp_in (nI i + 2) L := by
    rw [show (2 : Int32) = nI 2 from rfl, nI_add]
    exact in_n (by omega) (by omega)
  have hi3 : vp_in (nI i + 3) L := by
    rw [show (3 : Int32) = nI 3 from rfl, nI_add]
    exact in_n (by omega) (by omega)
  have hi4 : vp_in (nI i + 4) L := by
    rw [show (4 : Int32) = nI 4 from rfl, nI_add]
    exact in_n (by omega) (by omega)
  have hi5 : vp_in (nI i + 5) L := by
    rw [show (5 : Int32) = nI 5 from rfl, nI_add]
    exact in_n (by omega) (by omega)
  obtain ⟨a, st, e7, e6⟩ := op_number (pca := pca) (sta := xs) hg hsf (xs_ (Int32.toNatClampNeg (nI i + 1))) (xs_ (Int32.toNatClampNeg (nI i + 2)))
  refine lv_aload_n hx hb dL_law_564 rfl (lv_at hl 2 rfl) ?_
  refine lv_aload_n hx hb dL_law_565 rfl (lv_at hl 3 rfl) ?_
  refine lv_iload_n hx hb dL_law_566 rfl (lv_at hl 0 rfl) ?_
  refine lv_iconst (v := 1) hx hb dL_law_567 (by decide) ?_
  refine lv_iadd hx hb dL_law_568 ?_
  refine va_sld hx hb hX hbl hbA hS hi1 dL_law_569 ?_
  refine lv_aload_n hx hb dL_law_570 rfl (lv_at hl 3 rfl) ?_
  refine lv_iload_n hx hb dL_law_571 rfl (lv_at hl 0 rfl) ?_
  refine lv_iconst (v := 2) hx hb dL_law_572 (by decide) ?_
  refine lv_iadd hx hb dL_law_573 ?_
  refine va_sld hx hb hX hbl hbA hS hi2 dL_law_574 ?_
  refine ivW (As := [.int (xs_ (Int32.toNatClampNeg (nI i + 1))), .int (xs_ (Int32.toNatClampNeg (nI i + 2)))]) (rest := []) (st1 := [.int a]) (is := [0, 2]) (w1 := (wX6_0_2 cy ad (nI P) xt st sf)) ⟨hx, hb, hml, hown, hts⟩ hK hN (KX6_number l D cy ad (nI P) xt xs sf PL ppp pca pdg ptd pcc (xs_ (Int32.toNatClampNeg (nI i + 1))) (xs_ (Int32.toNatClampNeg (nI i + 2))) H.size (out := (a, st)) e6) (cwV 2 hts gL_law_X6_number rfl rfl rfl (by decide +kernel) ⟨Nat.le_of_ble_eq_true rfl, Nat.le_of_ble_eq_true rfl⟩) (va_recv hK hP (ci := 6) (q0 := 0) rfl rfl) hP hD hS hA (P_right (P_right (P_right hP))) (sepE (N := 61) (is := [0, 2]) hD rfl rfl (by decide) (fun q h => List.mem_append_right _ (List.mem_append_right _ h))) (by decide) rfl rfl rfl hl.1 rfl (Nat.le_of_ble_eq_true rfl) rfl dL_law_575 ⟨by show cells + 0 ≤ 600000; omega, by show slots + 0 ≤ 7302250; omega⟩ (fun H locs hP hD hS => ?_)
  have hPD := PD_mrg (w2 := ((w6A cy ad (nI P) xt st sh sf tr P (P + 1) (nI P) a_rgs a_sv a_co a_ro a_le a_lst a_mu a_ba a_bt a_cp (nI P) a_nx a_tl a_pe a_en a_pa (nI P) b_rgs b_sv b_co b_ro b_le b_lst b_mu b_ba b_bt b_cp (nI P) b_nx b_tl b_pe b_en b_pa (nI P) r_mp r_kn r_dd r_rd r_dn r_rn f_fl f_fu f_fw f_li (nI 233) f_nx f_tl f_pe f_en f_pa) ++ ((w7A cy ad7 thr xs (nI P) tcd frt frp lan man itm deg num mad inn lon goe tai per lea com see trc cou don nex res quo rou met) ++ ((sgS cy SL sln sia snn svv) ++ (sgP cy PL ppp pca pdg ptd pcc))))) (by decide) rfl hP hD
  have hP := hPD.1
  have hD := hPD.2
  refine lv_aload_n hx hb dL_law_578 rfl (lv_at hl 1 rfl) ?_
  refine lv_aload_n hx hb dL_law_579 rfl (lv_at hl 3 rfl) ?_
  refine lv_iload_n hx hb dL_law_580 rfl (lv_at hl 0 rfl) ?_
  refine lv_iconst (v := 1) hx hb dL_law_581 (by decide) ?_
  refine lv_iadd hx hb dL_law_582 ?_
  refine va_sld hx hb hX hbl hbA hS hi1 dL_law_583 ?_
  refine lv_aload_n hx hb dL_law_584 rfl (lv_at hl 3 rfl) ?_
  refine lv_iload_n hx hb dL_law_585 rfl (lv_at hl 0 rfl) ?_
  refine lv_iconst (v := 2) hx hb dL_law_586 (by decide) ?_
  refine lv_iadd hx hb dL_law_587 ?_
  refine va_sld hx hb hX hbl hbA hS hi2 dL_law_588 ?_
  refine ivW (As := [.int (xs_ (Int32.toNatClampNeg (nI i + 1))), .int (xs_ (Int32.toNatClampNeg (nI i + 2)))]) (rest := [.int a]) (st1 := [.int a, .int a]) (is := [61, 65, 66]) (w1 := (wX7_0_4_5 cy ad7 0 st (nI P) tcd frt frp deg num)) ⟨hx, hb, hml, hown, hts⟩ hK hN (KX7_number l D cy ad7 thr xs (nI P) tcd frt frp deg num (xs_ (Int32.toNatClampNeg (nI i + 1))) (xs_ (Int32.toNatClampNeg (nI i + 2))) H.size (out := (a, 0, st)) e7) (cwV 2 hts gL_law_X7_number rfl rfl rfl (by decide +kernel) ⟨Nat.le_of_ble_eq_true rfl, Nat.le_of_ble_eq_true rfl⟩) (va_recv hK hP (ci := 7) (q0 := 61) rfl rfl) hP hD hS hA P_nil (sepW_nil _) (by decide) rfl rfl rfl hl.1 rfl (Nat.le_of_ble_eq_true rfl) rfl dL_law_589 ⟨by show cells + 0 ≤ 600000; omega, by show slots + 0 ≤ 7302250; omega⟩ (fun H locs hP hD hS => ?_)
  have hPD := PD_mrg (w2 := ((w6A cy ad (nI P) xt st sh sf tr P (P + 1) (nI P) a_rgs a_sv a_co a_ro a_le a_lst a_mu a_ba a_bt a_cp (nI P) a_nx a_tl a_pe a_en a_pa (nI P) b_rgs b_sv b_co b_ro b_le b_lst b_mu b_ba b_bt b_cp (nI P) b_nx b_tl b_pe b_en b_pa (nI P) r_mp r_kn r_dd r_rd r_dn r_rn f_fl f_fu f_fw f_li (nI 233) f_nx f_tl f_pe f_en f_pa) ++ ((w7A cy ad7 0 st (nI P) tcd frt frp lan man itm deg num mad inn lon goe tai per lea com see trc cou don nex res quo rou met) ++ ((sgS cy SL sln sia snn svv) ++ (sgP cy PL ppp pca pdg ptd pcc))))) (by decide) rfl hP hD
  have hP := hPD.1
  have hD := hPD.2
  refine lv_icmp_eq (tgt := 1112) hx hb dL_law_592 (by decide) (fun hcmp => ?_) (fun hcmp => ?_)
  · refine W.widen (k := cells + 4) (n := slots + 260) (by omega) (by omega) ?_
    exact kk H locs (fun motive k => k ad ad7 P xt st sh sf tr a_rgs a_sv a_co a_ro a_le a_lst a_mu a_ba a_bt a_cp a_nx a_tl a_pe a_en a_pa b_rgs b_sv b_co b_ro b_le b_lst b_mu b_ba b_bt b_cp b_nx b_tl b_pe b_en b_pa r_mp r_kn r_dd r_rd r_dn r_rn f_fl f_fu f_fw f_li f_nx f_tl f_pe f_en f_pa 0 st tcd frt frp lan man itm deg num mad inn lon goe tai per lea com see trc cou don nex res quo rou met SL sln sia snn svv PL ppp pca pdg ptd pcc rfl rfl hPR rfl hsh hg hsf htr hsv hsb hrd hfr hP hD) hS
  · exact absurd (rfl) hcmp
set_option maxHeartbeats 4000000 in
set_option maxRecDepth 100000 in
theorem lc_kind {p : Program} {l : Launch} {e : Env} {s : State} {m : MethodId} {below : List Frame} {meth : Method} {c : Code} {Q : State → Prop} {D : va_G} {cy : Nat → ClassId} {A : Nat → Prop} {b L i q6 q7 cells slots : Nat} {xs_ : Nat → Int32} {H : Heap} {locs : List Loc} {ls : Array Slot} (hx : p.tables.exec = Jvm.exec) (hb : c.code = cL_law) (hml : c.maxLocals = 4) (hown : s.vm.findClass RL = some m.cls) (hts : ∀ w ∈ wsL_law, w.before #[Value.ref b] s = true) (hX : va_X b L xs_ s s.heap) (hbl : b < s.heap.size) (hbA : ¬ A b) (hA : ∀ q, s.heap.size ≤ q → A q) (hK : va_K D vwCl (TYs cy) s) (hN : NK s) (hi : i + 6 ≤ L) (hL : L ≤ 3073) (hLW : LW D cy A q6 q7 H) (hS : va_S A s.heap H locs) (hl : lv_has ls 4 [(3, .int (nI i)), (2, .ref q7), (1, .ref q6), (0, .ref b)]) (hc : cells + 4 ≤ 600000) (hs : slots + 260 ≤ 7302250) (kk : ∀ (H1 : Heap) (locs1 : List Loc), LW D cy A q6 q7 H1 → va_S A s.heap H1 locs1 → W p l e room_1 s m #[Value.ref b] below meth c H1 locs1 (cells + 4) (slots + 260) Q (F0 m 1112 ls [])) : W p l e room_1 s m #[Value.ref b] below meth c H locs cells slots Q (F0 m 597 ls []) := by
  refine hLW _ ?_
  intro ad ad7 P xt xs sh sf tr a_rgs a_sv a_co a_ro a_le a_lst a_mu a_ba a_bt a_cp a_nx a_tl a_pe a_en a_pa b_rgs b_sv b_co b_ro b_le b_lst b_mu b_ba b_bt b_cp b_nx b_tl b_pe b_en b_pa r_mp r_kn r_dd r_rd r_dn r_rn f_fl f_fu f_fw f_li f_nx f_tl f_pe f_en f_pa thr sta tcd frt frp lan man itm deg num mad inn lon goe tai per lea com see trc cou don nex res quo rou met SL sln sia snn svv PL ppp pca pdg ptd pcc hq6 hq7 hPR hst hsh hg hsf htr hsv hsb hrd hfr hP hD
  subst hq6 hq7 hst
  have hP1 : 1 < P := Nat.lt_of_lt_of_le (by omega) hPR.1
  have hP2 : P < 200 := hPR.2.1
  have hi1 : vp_in (nI i + 1) L := by
    rw [show (1 : Int32) = nI 1 from rfl, nI_add]
    exact in_n (by omega) (by omega)
  have hi2 : vp_in (nI i + 2) L := by
    rw [show (2 : Int32) = nI 2 from rfl, nI_add]
    exact in_n (by omega) (by omega)
  have hi3 : vp_in (nI i + 3) L := by
    rw [show (3 : Int32) = nI 3 from rfl, nI_add]
    exact in_n (by omega) (by omega)
  have hi4 : vp_in (nI i + 4) L := by
    rw [show (4 : Int32) = nI 4 from rfl, nI_add]
    exact in_n (by omega) (by omega)
  have hi5 : vp_in (nI i + 5) L := by
    rw [show (5 : Int32) = nI 5 from rfl, nI_add]
    exact in_n (by omega) (by omega)
  obtain ⟨a, st, e7, e6⟩ := op_kind (sta := xs) hP2 hg hsf (xs_ (Int32.toNatClampNeg (nI i + 1)))
  refine lv_aload_n hx hb dL_law_597 rfl (lv_at hl 2 rfl) ?_
  refine lv_aload_n hx hb dL_law_598 rfl (lv_at hl 3 rfl) ?_
  refine lv_iload_n hx hb dL_law_599 rfl (lv_at hl 0 rfl) ?_
  refine lv_iconst (v := 1) hx hb dL_law_600 (by decide) ?_
  refine lv_iadd hx hb dL_law_601 ?_
  refine va_sld hx hb hX hbl hbA hS hi1 dL_law_602 ?_
  refine ivW (As := [.int (xs_ (Int32.toNatClampNeg (nI i + 1)))]) (rest := []) (st1 := [.int a]) (is := [0, 2]) (w1 := (wX6_0_2 cy ad (nI P) xt st sf)) ⟨hx, hb, hml, hown, hts⟩ hK hN (KX6_kind l D cy ad (nI P) xt xs sf PL ppp pca pdg ptd pcc (xs_ (Int32.toNatClampNeg (nI i + 1))) H.size (out := (a, st)) e6) (cwV 1 hts gL_law_X6_kind rfl rfl rfl (by decide +kernel) ⟨Nat.le_of_ble_eq_true rfl, Nat.le_of_ble_eq_true rfl⟩) (va_recv hK hP (ci := 6) (q0 := 0) rfl rfl) hP hD hS hA (P_right (P_right (P_right hP))) (sepE (N := 61) (is := [0, 2]) hD rfl rfl (by decide) (fun q h => List.mem_append_right _ (List.mem_append_right _ h))) (by decide) rfl rfl rfl hl.1 rfl (Nat.le_of_ble_eq_true rfl) rfl dL_law_603 ⟨by show cells + 0 ≤ 600000; omega, by show slots + 0 ≤ 7302250; omega⟩ (fun H locs hP hD hS => ?_)
  have hPD := PD_mrg (w2 := ((w6A cy ad (nI P) xt st sh sf tr P (P + 1) (nI P) a_rgs a_sv a_co a_ro a_le a_lst a_mu a_ba a_bt a_cp (nI P) a_nx a_tl a_pe a_en a_pa (nI P) b_rgs b_sv b_co b_ro b_le b_lst b_mu b_ba b_bt b_cp (nI P) b_nx b_tl b_pe b_en b_pa (nI P) r_mp r_kn r_dd r_rd r_dn r_rn f_fl f_fu f_fw f_li (nI 233) f_nx f_tl f_pe f_en f_pa) ++ ((w7A cy ad7 thr xs (nI P) tcd frt frp lan man itm deg num mad inn lon goe tai per lea com see trc cou don nex res quo rou met) ++ ((sgS cy SL sln sia snn svv) ++ (sgP cy PL ppp pca pdg ptd pcc))))) (by decide) rfl hP hD
  have hP := hPD.1
  have hD := hPD.2
  refine lv_aload_n hx hb dL_law_606 rfl (lv_at hl 1 rfl) ?_
  refine lv_aload_n hx hb dL_law_607 rfl (lv_at hl 3 rfl) ?_
  refine lv_iload_n hx hb dL_law_608 rfl (lv_at hl 0 rfl) ?_
  refine lv_iconst (v := 1) hx hb dL_law_609 (by decide) ?_
  refine lv_iadd hx hb dL_law_610 ?_
  refine va_sld hx hb hX hbl hbA hS hi1 dL_law_611 ?_
  refine ivW (As := [.int (xs_ (Int32.toNatClampNeg (nI i + 1)))]) (rest := [.int a]) (st1 := [.int a, .int a]) (is := [61, 65, 66]) (w1 := (wX7_0_4_5 cy ad7 0 st (nI P) tcd frt frp deg num)) ⟨hx, hb, hml, hown, hts⟩ hK hN (KX7_kind l D cy ad7 thr xs (nI P) tcd frt frp deg num (xs_ (Int32.toNatClampNeg (nI i + 1))) H.size (out := (a, 0, st)) e7) (cwV 1 hts gL_law_X7_kind rfl rfl rfl (by decide +kernel) ⟨Nat.le_of_ble_eq_true rfl, Nat.le_of_ble_eq_true rfl⟩) (va_recv hK hP (ci := 7) (q0 := 61) rfl rfl) hP hD hS hA P_nil (sepW_nil _) (by decide) rfl rfl rfl hl.1 rfl (Nat.le_of_ble_eq_true rfl) rfl dL_law_612 ⟨by show cells + 0 ≤ 600000; omega, by show slots + 0 ≤ 7302250; omega⟩ (fun H locs hP hD hS => ?_)
  have hPD := PD_mrg (w2 := ((w6A cy ad (nI P) xt st sh sf tr P (P + 1) (nI P) a_rgs a_sv a_co a_ro a_le a_lst a_mu a_ba a_bt a_cp (nI P) a_nx a_tl a_pe a_en a_pa (nI P) b_rgs b_sv b_co b_ro b_le b_lst b_mu b_ba b_bt b_cp (nI P) b_nx b_tl b_pe b_en b_pa (nI P) r_mp r_kn r_dd r_rd r_dn r_rn f_fl f_fu f_fw f_li (nI 233) f_nx f_tl f_pe f_en f_pa) ++ ((w7A cy ad7 0 st (nI P) tcd frt frp lan man itm deg num mad inn lon goe tai per lea com see trc cou don nex res quo rou met) ++ ((sgS cy SL sln sia snn svv) ++ (sgP cy PL ppp pca pdg ptd pcc))))) (by decide) rfl hP hD
  have hP := hPD.1
  have hD := hPD.2
  refine lv_icmp_eq (tgt := 1112) hx hb dL_law_615 (by decide) (fun hcmp => ?_) (fun hcmp => ?_)
  · refine W.widen (k := cells + 4) (n := slots + 260) (by omega) (by omega) ?_
    exact kk H locs (fun motive k => k ad ad7 P xt st sh sf tr a_rgs a_sv a_co a_ro a_le a_lst a_mu a_ba a_bt a_cp a_nx a_tl a_pe a_en a_pa b_rgs b_sv b_co b_ro b_le b_lst b_mu b_ba b_bt b_cp b_nx b_tl b_pe b_en b_pa r_mp r_kn r_dd r_rd r_dn r_rn f_fl f_fu f_fw f_li f_nx f_tl f_pe f_en f_pa 0 st tcd frt frp lan man itm deg num mad inn lon goe tai per lea com see trc cou don nex res quo rou met SL sln sia snn svv PL ppp pca pdg ptd pcc rfl rfl hPR rfl hsh hg hsf htr hsv hsb hrd hfr hP hD) hS
  · exact absurd (rfl) hcmp
set_option maxHeartbeats 4000000 in
set_option maxRecDepth 100000 in
theorem lc_is {p : Program} {l : Launch} {e : Env} {s : State} {m : MethodId} {below : List Frame} {meth : Method} {c : Code} {Q : State → Prop} {D : va_G} {cy : Nat → ClassId} {A : Nat → Prop} {b L i q6 q7 cells slots : Nat} {xs_ : Nat → Int32} {H : Heap} {locs : List Loc} {ls : Array Slot} (hx : p.tables.exec = Jvm.exec) (hb : c.code = cL_law) (hml : c.maxLocals = 4) (hown : s.vm.findClass RL = some m.cls) (hts : ∀ w ∈ wsL_law, w.before #[Value.ref b] s = true) (hX : va_X b L xs_ s s.heap) (hbl : b < s.heap.size) (hbA : ¬ A b) (hA : ∀ q, s.heap.size ≤ q → A q) (hK : va_K D vwCl (TYs cy) s) (hN : NK s) (hi : i + 6 ≤ L) (hL : L ≤ 3073) (hLW : LW D cy A q6 q7 H) (hS : va_S A s.heap H locs) (hl : lv_has ls 4 [(3, .int (nI i)), (2, .ref q7), (1, .ref q6), (0, .ref b)]) (hc : cells + 4 ≤ 600000) (hs : slots + 260 ≤ 7302250) (kk : ∀ (H1 : Heap) (locs1 : List Loc), LW D cy A q6 q7 H1 → va_S A s.heap H1 locs1 → W p l e room_1 s m #[Value.ref b] below meth c H1 locs1 (cells + 4) (slots + 260) Q (F0 m 1112 ls [])) : W p l e room_1 s m #[Value.ref b] below meth c H locs cells slots Q (F0 m 620 ls []) := by
  refine hLW _ ?_
  intro ad ad7 P xt xs sh sf tr a_rgs a_sv a_co a_ro a_le a_lst a_mu a_ba a_bt a_cp a_nx a_tl a_pe a_en a_pa b_rgs b_sv b_co b_ro b_le b_lst b_mu b_ba b_bt b_cp b_nx b_tl b_pe b_en b_pa r_mp r_kn r_dd r_rd r_dn r_rn f_fl f_fu f_fw f_li f_nx f_tl f_pe f_en f_pa thr sta tcd frt frp lan man itm deg num mad inn lon goe tai per lea com see trc cou don nex res quo rou met SL sln sia snn svv PL ppp pca pdg ptd pcc hq6 hq7 hPR hst hsh hg hsf htr hsv hsb hrd hfr hP hD
  subst hq6 hq7 hst
  have hP1 : 1 < P := Nat.lt_of_lt_of_le (by omega) hPR.1
  have hP2 : P < 200 := hPR.2.1
  have hi1 : vp_in (nI i + 1) L := by
    rw [show (1 : Int32) = nI 1 from rfl, nI_add]
    exact in_n (by omega) (by omega)
  have hi2 : vp_in (nI i + 2) L := by
    rw [show (2 : Int32) = nI 2 from rfl, nI_add]
    exact in_n (by omega) (by omega)
  have hi3 : vp_in (nI i + 3) L := by
    rw [show (3 : Int32) = nI 3 from rfl, nI_add]
    exact in_n (by omega) (by omega)
  have hi4 : vp_in (nI i + 4) L := by
    rw [show (4 : Int32) = nI 4 from rfl, nI_add]
    exact in_n (by omega) (by omega)
  have hi5 : vp_in (nI i + 5) L := by
    rw [show (5 : Int32) = nI 5 from rfl, nI_add]
    exact in_n (by omega) (by omega)
  obtain ⟨a, e7, e6⟩ := op_is (pca := pca) hP2 hg hsf (xs_ (Int32.toNatClampNeg (nI i + 1))) (xs_ (Int32.toNatClampNeg (nI i + 2)))
  refine lv_aload_n hx hb dL_law_620 rfl (lv_at hl 2 rfl) ?_
  refine lv_aload_n hx hb dL_law_621 rfl (lv_at hl 3 rfl) ?_
  refine lv_iload_n hx hb dL_law_622 rfl (lv_at hl 0 rfl) ?_
  refine lv_iconst (v := 1) hx hb dL_law_623 (by decide) ?_
  refine lv_iadd hx hb dL_law_624 ?_
  refine va_sld hx hb hX hbl hbA hS hi1 dL_law_625 ?_
  refine lv_aload_n hx hb dL_law_626 rfl (lv_at hl 3 rfl) ?_
  refine lv_iload_n hx hb dL_law_627 rfl (lv_at hl 0 rfl) ?_
  refine lv_iconst (v := 2) hx hb dL_law_628 (by decide) ?_
  refine lv_iadd hx hb dL_law_629 ?_
  refine va_sld hx hb hX hbl hbA hS hi2 dL_law_630 ?_
  refine ivR (As := [.int (xs_ (Int32.toNatClampNeg (nI i + 1))), .int (xs_ (Int32.toNatClampNeg (nI i + 2)))]) (rest := []) (st1 := [.int a]) ⟨hx, hb, hml, hown, hts⟩ hK hN (KX6_is l D cy ad (nI P) xt xs sf PL ppp pca pdg ptd pcc (xs_ (Int32.toNatClampNeg (nI i + 1))) (xs_ (Int32.toNatClampNeg (nI i + 2))) H.size (out := (a)) e6) (cwV 2 hts gL_law_X6_is rfl rfl rfl (by decide +kernel) ⟨Nat.le_of_ble_eq_true rfl, Nat.le_of_ble_eq_true rfl⟩) (va_recv hK hP (ci := 6) (q0 := 0) rfl rfl) (va_P.app (P_pl (wc := (wX6_0_2 cy ad (nI P) xt xs sf)) (is := [0, 2]) hP rfl) (P_right (P_right (P_right hP)))) rfl hl.1 rfl (Nat.le_of_ble_eq_true rfl) rfl dL_law_631 ⟨by show cells + 0 ≤ 600000; omega, by show slots + 0 ≤ 7302250; omega⟩ ?_
  refine lv_aload_n hx hb dL_law_634 rfl (lv_at hl 1 rfl) ?_
  refine lv_aload_n hx hb dL_law_635 rfl (lv_at hl 3 rfl) ?_
  refine lv_iload_n hx hb dL_law_636 rfl (lv_at hl 0 rfl) ?_
  refine lv_iconst (v := 1) hx hb dL_law_637 (by decide) ?_
  refine lv_iadd hx hb dL_law_638 ?_
  refine va_sld hx hb hX hbl hbA hS hi1 dL_law_639 ?_
  refine lv_aload_n hx hb dL_law_640 rfl (lv_at hl 3 rfl) ?_
  refine lv_iload_n hx hb dL_law_641 rfl (lv_at hl 0 rfl) ?_
  refine lv_iconst (v := 2) hx hb dL_law_642 (by decide) ?_
  refine lv_iadd hx hb dL_law_643 ?_
  refine va_sld hx hb hX hbl hbA hS hi2 dL_law_644 ?_
  refine ivW (As := [.int (xs_ (Int32.toNatClampNeg (nI i + 1))), .int (xs_ (Int32.toNatClampNeg (nI i + 2)))]) (rest := [.int a]) (st1 := [.int a, .int a]) (is := [61, 65, 66]) (w1 := (wX7_0_4_5 cy ad7 0 xs (nI P) tcd frt frp deg num)) ⟨hx, hb, hml, hown, hts⟩ hK hN (KX7_is l D cy ad7 thr xs (nI P) tcd frt frp deg num (xs_ (Int32.toNatClampNeg (nI i + 1))) (xs_ (Int32.toNatClampNeg (nI i + 2))) H.size (out := (a, 0)) e7) (cwV 2 hts gL_law_X7_is rfl rfl rfl (by decide +kernel) ⟨Nat.le_of_ble_eq_true rfl, Nat.le_of_ble_eq_true rfl⟩) (va_recv hK hP (ci := 7) (q0 := 61) rfl rfl) hP hD hS hA P_nil (sepW_nil _) (by decide) rfl rfl rfl hl.1 rfl (Nat.le_of_ble_eq_true rfl) rfl dL_law_645 ⟨by show cells + 0 ≤ 600000; omega, by show slots + 0 ≤ 7302250; omega⟩ (fun H locs hP hD hS => ?_)
  have hPD := PD_mrg (w2 := ((w6A cy ad (nI P) xt xs sh sf tr P (P + 1) (nI P) a_rgs a_sv a_co a_ro a_le a_lst a_mu a_ba a_bt a_cp (nI P) a_nx a_tl a_pe a_en a_pa (nI P) b_rgs b_sv b_co b_ro b_le b_lst b_mu b_ba b_bt b_cp (nI P) b_nx b_tl b_pe b_en b_pa (nI P) r_mp r_kn r_dd r_rd r_dn r_rn f_fl f_fu f_fw f_li (nI 233) f_nx f_tl f_pe f_en f_pa) ++ ((w7A cy ad7 0 xs (nI P) tcd frt frp lan man itm deg num mad inn lon goe tai per lea com see trc cou don nex res quo rou met) ++ ((sgS cy SL sln sia snn svv) ++ (sgP cy PL ppp pca pdg ptd pcc))))) (by decide) rfl hP hD
  have hP := hPD.1
  have hD := hPD.2
  refine lv_icmp_eq (tgt := 1112) hx hb dL_law_648 (by decide) (fun hcmp => ?_) (fun hcmp => ?_)
  · refine W.widen (k := cells + 4) (n := slots + 260) (by omega) (by omega) ?_
    exact kk H locs (fun motive k => k ad ad7 P xt xs sh sf tr a_rgs a_sv a_co a_ro a_le a_lst a_mu a_ba a_bt a_cp a_nx a_tl a_pe a_en a_pa b_rgs b_sv b_co b_ro b_le b_lst b_mu b_ba b_bt b_cp b_nx b_tl b_pe b_en b_pa r_mp r_kn r_dd r_rd r_dn r_rn f_fl f_fu f_fw f_li f_nx f_tl f_pe f_en f_pa 0 xs tcd frt frp lan man itm deg num mad inn lon goe tai per lea com see trc cou don nex res quo rou met SL sln sia snn svv PL ppp pca pdg ptd pcc rfl rfl hPR rfl hsh hg hsf htr hsv hsb hrd hfr hP hD) hS
  · exact absurd (rfl) hcmp
set_option maxHeartbeats 4000000 in
set_option maxRecDepth 100000 in
theorem lc_as {p : Program} {l : Launch} {e : Env} {s : State} {m : MethodId} {below : List Frame} {meth : Method} {c : Code} {Q : State → Prop} {D : va_G} {cy : Nat → ClassId} {A : Nat → Prop} {b L i q6 q7 cells slots : Nat} {xs_ : Nat → Int32} {H : Heap} {locs : List Loc} {ls : Array Slot} (hx : p.tables.exec = Jvm.exec) (hb : c.code = cL_law) (hml : c.maxLocals = 4) (hown : s.vm.findClass RL = some m.cls) (hts : ∀ w ∈ wsL_law, w.before #[Value.ref b] s = true) (hX : va_X b L xs_ s s.heap) (hbl : b < s.heap.size) (hbA : ¬ A b) (hA : ∀ q, s.heap.size ≤ q → A q) (hK : va_K D vwCl (TYs cy) s) (hN : NK s) (hi : i + 6 ≤ L) (hL : L ≤ 3073) (hLW : LW D cy A q6 q7 H) (hS : va_S A s.heap H locs) (hl : lv_has ls 4 [(3, .int (nI i)), (2, .ref q7), (1, .ref q6), (0, .ref b)]) (hc : cells + 4 ≤ 600000) (hs : slots + 260 ≤ 7302250) (kk : ∀ (H1 : Heap) (locs1 : List Loc), LW D cy A q6 q7 H1 → va_S A s.heap H1 locs1 → W p l e room_1 s m #[Value.ref b] below meth c H1 locs1 (cells + 4) (slots + 260) Q (F0 m 1112 ls [])) : W p l e room_1 s m #[Value.ref b] below meth c H locs cells slots Q (F0 m 653 ls []) := by
  refine hLW _ ?_
  intro ad ad7 P xt xs sh sf tr a_rgs a_sv a_co a_ro a_le a_lst a_mu a_ba a_bt a_cp a_nx a_tl a_pe a_en a_pa b_rgs b_sv b_co b_ro b_le b_lst b_mu b_ba b_bt b_cp b_nx b_tl b_pe b_en b_pa r_mp r_kn r_dd r_rd r_dn r_rn f_fl f_fu f_fw f_li f_nx f_tl f_pe f_en f_pa thr sta tcd frt frp lan man itm deg num mad inn lon goe tai per lea com see trc cou don nex res quo rou met SL sln sia snn svv PL ppp pca pdg ptd pcc hq6 hq7 hPR hst hsh hg hsf htr hsv hsb hrd hfr hP hD
  subst hq6 hq7 hst
  have hP1 : 1 < P := Nat.lt_of_lt_of_le (by omega) hPR.1
  have hP2 : P < 200 := hPR.2.1
  have hi1 : vp_in (nI i + 1) L := by
    rw [show (1 : Int32) = nI 1 from rfl, nI_add]
    exact in_n (by omega) (by omega)
  have hi2 : vp_in (nI i + 2) L := by
    rw [show (2 : Int32) = nI 2 from rfl, nI_add]
    exact in_n (by omega) (by omega)
  have hi3 : vp_in (nI i + 3) L := by
    rw [show (3 : Int32) = nI 3 from rfl, nI_add]
    exact in_n (by omega) (by omega)
  have hi4 : vp_in (nI i + 4) L := by
    rw [show (4 : Int32) = nI 4 from rfl, nI_add]
    exact in_n (by omega) (by omega)
  have hi5 : vp_in (nI i + 5) L := by
    rw [show (5 : Int32) = nI 5 from rfl, nI_add]
    exact in_n (by omega) (by omega)
  obtain ⟨a, st, e7, e6⟩ := op_as (pca := pca) (sta := xs) hP2 hg hsf (xs_ (Int32.toNatClampNeg (nI i + 1))) (xs_ (Int32.toNatClampNeg (nI i + 2)))
  refine lv_aload_n hx hb dL_law_653 rfl (lv_at hl 2 rfl) ?_
  refine lv_aload_n hx hb dL_law_654 rfl (lv_at hl 3 rfl) ?_
  refine lv_iload_n hx hb dL_law_655 rfl (lv_at hl 0 rfl) ?_
  refine lv_iconst (v := 1) hx hb dL_law_656 (by decide) ?_
  refine lv_iadd hx hb dL_law_657 ?_
  refine va_sld hx hb hX hbl hbA hS hi1 dL_law_658 ?_
  refine lv_aload_n hx hb dL_law_659 rfl (lv_at hl 3 rfl) ?_
  refine lv_iload_n hx hb dL_law_660 rfl (lv_at hl 0 rfl) ?_
  refine lv_iconst (v := 2) hx hb dL_law_661 (by decide) ?_
  refine lv_iadd hx hb dL_law_662 ?_
  refine va_sld hx hb hX hbl hbA hS hi2 dL_law_663 ?_
  refine ivW (As := [.int (xs_ (Int32.toNatClampNeg (nI i + 1))), .int (xs_ (Int32.toNatClampNeg (nI i + 2)))]) (rest := []) (st1 := [.int a]) (is := [0, 2]) (w1 := (wX6_0_2 cy ad (nI P) xt st sf)) ⟨hx, hb, hml, hown, hts⟩ hK hN (KX6_as l D cy ad (nI P) xt xs sf PL ppp pca pdg ptd pcc (xs_ (Int32.toNatClampNeg (nI i + 1))) (xs_ (Int32.toNatClampNeg (nI i + 2))) H.size (out := (a, st)) e6) (cwV 2 hts gL_law_X6_as rfl rfl rfl (by decide +kernel) ⟨Nat.le_of_ble_eq_true rfl, Nat.le_of_ble_eq_true rfl⟩) (va_recv hK hP (ci := 6) (q0 := 0) rfl rfl) hP hD hS hA (P_right (P_right (P_right hP))) (sepE (N := 61) (is := [0, 2]) hD rfl rfl (by decide) (fun q h => List.mem_append_right _ (List.mem_append_right _ h))) (by decide) rfl rfl rfl hl.1 rfl (Nat.le_of_ble_eq_true rfl) rfl dL_law_664 ⟨by show cells + 0 ≤ 600000; omega, by show slots + 0 ≤ 7302250; omega⟩ (fun H locs hP hD hS => ?_)
  have hPD := PD_mrg (w2 := ((w6A cy ad (nI P) xt st sh sf tr P (P + 1) (nI P) a_rgs a_sv a_co a_ro a_le a_lst a_mu a_ba a_bt a_cp (nI P) a_nx a_tl a_pe a_en a_pa (nI P) b_rgs b_sv b_co b_ro b_le b_lst b_mu b_ba b_bt b_cp (nI P) b_nx b_tl b_pe b_en b_pa (nI P) r_mp r_kn r_dd r_rd r_dn r_rn f_fl f_fu f_fw f_li (nI 233) f_nx f_tl f_pe f_en f_pa) ++ ((w7A cy ad7 thr xs (nI P) tcd frt frp lan man itm deg num mad inn lon goe tai per lea com see trc cou don nex res quo rou met) ++ ((sgS cy SL sln sia snn svv) ++ (sgP cy PL ppp pca pdg ptd pcc))))) (by decide) rfl hP hD
  have hP := hPD.1
  have hD := hPD.2
  refine lv_aload_n hx hb dL_law_667 rfl (lv_at hl 1 rfl) ?_
  refine lv_aload_n hx hb dL_law_668 rfl (lv_at hl 3 rfl) ?_
  refine lv_iload_n hx hb dL_law_669 rfl (lv_at hl 0 rfl) ?_
  refine lv_iconst (v := 1) hx hb dL_law_670 (by decide) ?_
  refine lv_iadd hx hb dL_law_671 ?_
  refine va_sld hx hb hX hbl hbA hS hi1 dL_law_672 ?_
  refine lv_aload_n hx hb dL_law_673 rfl (lv_at hl 3 rfl) ?_
  refine lv_iload_n hx hb dL_law_674 rfl (lv_at hl 0 rfl) ?_
  refine lv_iconst (v := 2) hx hb dL_law_675 (by decide) ?_
  refine lv_iadd hx hb dL_law_676 ?_
  refine va_sld hx hb hX hbl hbA hS hi2 dL_law_677 ?_
  refine ivW (As := [.int (xs_ (Int32.toNatClampNeg (nI i + 1))), .int (xs_ (Int32.toNatClampNeg (nI i + 2)))]) (rest := [.int a]) (st1 := [.int a, .int a]) (is := [61, 65, 66]) (w1 := (wX7_0_4_5 cy ad7 0 st (nI P) tcd frt frp deg num)) ⟨hx, hb, hml, hown, hts⟩ hK hN (KX7_as l D cy ad7 thr xs (nI P) tcd frt frp deg num (xs_ (Int32.toNatClampNeg (nI i + 1))) (xs_ (Int32.toNatClampNeg (nI i + 2))) H.size (out := (a, 0, st)) e7) (cwV 2 hts gL_law_X7_as rfl rfl rfl (by decide +kernel) ⟨Nat.le_of_ble_eq_true rfl, Nat.le_of_ble_eq_true rfl⟩) (va_recv hK hP (ci := 7) (q0 := 61) rfl rfl) hP hD hS hA P_nil (sepW_nil _) (by decide) rfl rfl rfl hl.1 rfl (Nat.le_of_ble_eq_true rfl) rfl dL_law_678 ⟨by show cells + 0 ≤ 600000; omega, by show slots + 0 ≤ 7302250; omega⟩ (fun H locs hP hD hS => ?_)
  have hPD := PD_mrg (w2 := ((w6A cy ad (nI P) xt st sh sf tr P (P + 1) (nI P) a_rgs a_sv a_co a_ro a_le a_lst a_mu a_ba a_bt a_cp (nI P) a_nx a_tl a_pe a_en a_pa (nI P) b_rgs b_sv b_co b_ro b_le b_lst b_mu b_ba b_bt b_cp (nI P) b_nx b_tl b_pe b_en b_pa (nI P) r_mp r_kn r_dd r_rd r_dn r_rn f_fl f_fu f_fw f_li (nI 233) f_nx f_tl f_pe f_en f_pa) ++ ((w7A cy ad7 0 st (nI P) tcd frt frp lan man itm deg num mad inn lon goe tai per lea com see trc cou don nex res quo rou met) ++ ((sgS cy SL sln sia snn svv) ++ (sgP cy PL ppp pca pdg ptd pcc))))) (by decide) rfl hP hD
  have hP := hPD.1
  have hD := hPD.2
  refine lv_icmp_eq (tgt := 1112) hx hb dL_law_681 (by decide) (fun hcmp => ?_) (fun hcmp => ?_)
  · refine W.widen (k := cells + 4) (n := slots + 260) (by omega) (by omega) ?_
    exact kk H locs (fun motive k => k ad ad7 P xt st sh sf tr a_rgs a_sv a_co a_ro a_le a_lst a_mu a_ba a_bt a_cp a_nx a_tl a_pe a_en a_pa b_rgs b_sv b_co b_ro b_le b_lst b_mu b_ba b_bt b_cp b_nx b_tl b_pe b_en b_pa r_mp r_kn r_dd r_rd r_dn r_rn f_fl f_fu f_fw f_li f_nx f_tl f_pe f_en f_pa 0 st tcd frt frp lan man itm deg num mad inn lon goe tai per lea com see trc cou don nex res quo rou met SL sln sia snn svv PL ppp pca pdg ptd pcc rfl rfl hPR rfl hsh hg hsf htr hsv hsb hrd hfr hP hD) hS
  · exact absurd (rfl) hcmp
set_option maxHeartbeats 4000000 in
set_option maxRecDepth 100000 in
theorem lc_ask {p : Program} {l : Launch} {e : Env} {s : State} {m : MethodId} {below : List Frame} {meth : Method} {c : Code} {Q : State → Prop} {D : va_G} {cy : Nat → ClassId} {A : Nat → Prop} {b L i q6 q7 cells slots : Nat} {xs_ : Nat → Int32} {H : Heap} {locs : List Loc} {ls : Array Slot} (hx : p.tables.exec = Jvm.exec) (hb : c.code = cL_law) (hml : c.maxLocals = 4) (hown : s.vm.findClass RL = some m.cls) (hts : ∀ w ∈ wsL_law, w.before #[Value.ref b] s = true) (hX : va_X b L xs_ s s.heap) (hbl : b < s.heap.size) (hbA : ¬ A b) (hA : ∀ q, s.heap.size ≤ q → A q) (hK : va_K D vwCl (TYs cy) s) (hN : NK s) (hi : i + 6 ≤ L) (hL : L ≤ 3073) (hLW : LW D cy A q6 q7 H) (hS : va_S A s.heap H locs) (hl : lv_has ls 4 [(3, .int (nI i)), (2, .ref q7), (1, .ref q6), (0, .ref b)]) (hc : cells + 4 ≤ 600000) (hs : slots + 260 ≤ 7302250) (kk : ∀ (H1 : Heap) (locs1 : List Loc), LW D cy A q6 q7 H1 → va_S A s.heap H1 locs1 → W p l e room_1 s m #[Value.ref b] below meth c H1 locs1 (cells + 4) (slots + 260) Q (F0 m 1112 ls [])) : W p l e room_1 s m #[Value.ref b] below meth c H locs cells slots Q (F0 m 686 ls []) := by
  refine hLW _ ?_
  intro ad ad7 P xt xs sh sf tr a_rgs a_sv a_co a_ro a_le a_lst a_mu a_ba a_bt a_cp a_nx a_tl a_pe a_en a_pa b_rgs b_sv b_co b_ro b_le b_lst b_mu b_ba b_bt b_cp b_nx b_tl b_pe b_en b_pa r_mp r_kn r_dd r_rd r_dn r_rn f_fl f_fu f_fw f_li f_nx f_tl f_pe f_en f_pa thr sta tcd frt frp lan man itm deg num mad inn lon goe tai per lea com see trc cou don nex res quo rou met SL sln sia snn svv PL ppp pca pdg ptd pcc hq6 hq7 hPR hst hsh hg hsf htr hsv hsb hrd hfr hP hD
  subst hq6 hq7 hst
  have hP1 : 1 < P := Nat.lt_of_lt_of_le (by omega) hPR.1
  have hP2 : P < 200 := hPR.2.1
  have hi1 : vp_in (nI i + 1) L := by
    rw [show (1 : Int32) = nI 1 from rfl, nI_add]
    exact in_n (by omega) (by omega)
  have hi2 : vp_in (nI i + 2) L := by
    rw [show (2 : Int32) = nI 2 from rfl, nI_add]
    exact in_n (by omega) (by omega)
  have hi3 : vp_in (nI i + 3) L := by
    rw [show (3 : Int32) = nI 3 from rfl, nI_add]
    exact in_n (by omega) (by omega)
  have hi4 : vp_in (nI i + 4) L := by
    rw [show (4 : Int32) = nI 4 from rfl, nI_add]
    exact in_n (by omega) (by omega)
  have hi5 : vp_in (nI i + 5) L := by
    rw [show (5 : Int32) = nI 5 from rfl, nI_add]
    exact in_n (by omega) (by omega)
  obtain ⟨om, ox, e7, e6, h1, h2, h3, htr', hsv'⟩ := op_ask (pca := pca) (sta := xs) (goe := goe) (tai := tai) (per := per) (lea := lea) (com := com) (see := see) (en := a_en) (pa := a_pa) hP1 hP2 hg hsf hsv htr (xs_ (Int32.toNatClampNeg (nI i + 1))) (xs_ (Int32.toNatClampNeg (nI i + 2)))
  refine lv_aload_n hx hb dL_law_686 rfl (lv_at hl 2 rfl) ?_
  refine lv_aload_n hx hb dL_law_687 rfl (lv_at hl 3 rfl) ?_
  refine lv_iload_n hx hb dL_law_688 rfl (lv_at hl 0 rfl) ?_
  refine lv_iconst (v := 1) hx hb dL_law_689 (by decide) ?_
  refine lv_iadd hx hb dL_law_690 ?_
  refine va_sld hx hb hX hbl hbA hS hi1 dL_law_691 ?_
  refine lv_aload_n hx hb dL_law_692 rfl (lv_at hl 3 rfl) ?_
  refine lv_iload_n hx hb dL_law_693 rfl (lv_at hl 0 rfl) ?_
  refine lv_iconst (v := 2) hx hb dL_law_694 (by decide) ?_
  refine lv_iadd hx hb dL_law_695 ?_
  refine va_sld hx hb hX hbl hbA hS hi2 dL_law_696 ?_
  refine ivW (As := [.int (xs_ (Int32.toNatClampNeg (nI i + 1))), .int (xs_ (Int32.toNatClampNeg (nI i + 2)))]) (rest := []) (st1 := [.int ox.1]) (is := [0, 2, 3, 4, 5, 6, 7, 8, 9, 10, 13, 14, 15, 16, 17, 18]) (w1 := (wX6_0_2_3_4_5_6_7_8_9_10_13_14_15_16_17_18 cy ad (nI P) ox.2.1 ox.2.2.1 sf ox.2.2.2.1 P (nI P) ox.2.2.2.2.1 ox.2.2.2.2.2.1 ox.2.2.2.2.2.2.1 ox.2.2.2.2.2.2.2.1 ox.2.2.2.2.2.2.2.2.1 ox.2.2.2.2.2.2.2.2.2.1 ox.2.2.2.2.2.2.2.2.2.2.1 ox.2.2.2.2.2.2.2.2.2.2.2.1 (nI P) ox.2.2.2.2.2.2.2.2.2.2.2.2.1 ox.2.2.2.2.2.2.2.2.2.2.2.2.2.1 ox.2.2.2.2.2.2.2.2.2.2.2.2.2.2.1 ox.2.2.2.2.2.2.2.2.2.2.2.2.2.2.2.1 ox.2.2.2.2.2.2.2.2.2.2.2.2.2.2.2.2)) ⟨hx, hb, hml, hown, hts⟩ hK hN (KX6_ask l D cy ad (nI P) xt xs sf tr P (nI P) a_rgs a_sv a_co a_ro a_le a_lst a_mu a_ba (nI P) a_nx a_tl a_pe a_en a_pa PL ppp pca pdg ptd pcc (xs_ (Int32.toNatClampNeg (nI i + 1))) (xs_ (Int32.toNatClampNeg (nI i + 2))) H.size (out := ox) e6) (cwV 2 hts gL_law_X6_ask rfl rfl rfl (by decide +kernel) ⟨Nat.le_of_ble_eq_true rfl, Nat.le_of_ble_eq_true rfl⟩) (va_recv hK hP (ci := 6) (q0 := 0) rfl rfl) hP hD hS hA (P_right (P_right (P_right hP))) (sepE (N := 61) (is := [0, 2, 3, 4, 5, 6, 7, 8, 9, 10, 13, 14, 15, 16, 17, 18]) hD rfl rfl (by decide) (fun q h => List.mem_append_right _ (List.mem_append_right _ h))) (by decide) rfl rfl rfl hl.1 rfl (Nat.le_of_ble_eq_true rfl) rfl dL_law_697 ⟨by show cells + 0 ≤ 600000; omega, by show slots + 0 ≤ 7302250; omega⟩ (fun H locs hP hD hS => ?_)
  have hPD := PD_mrg (w2 := ((w6A cy ad (nI P) ox.2.1 ox.2.2.1 sh sf ox.2.2.2.1 P (P + 1) (nI P) ox.2.2.2.2.1 ox.2.2.2.2.2.1 ox.2.2.2.2.2.2.1 ox.2.2.2.2.2.2.2.1 ox.2.2.2.2.2.2.2.2.1 ox.2.2.2.2.2.2.2.2.2.1 ox.2.2.2.2.2.2.2.2.2.2.1 ox.2.2.2.2.2.2.2.2.2.2.2.1 a_bt a_cp (nI P) ox.2.2.2.2.2.2.2.2.2.2.2.2.1 ox.2.2.2.2.2.2.2.2.2.2.2.2.2.1 ox.2.2.2.2.2.2.2.2.2.2.2.2.2.2.1 ox.2.2.2.2.2.2.2.2.2.2.2.2.2.2.2.1 ox.2.2.2.2.2.2.2.2.2.2.2.2.2.2.2.2 (nI P) b_rgs b_sv b_co b_ro b_le b_lst b_mu b_ba b_bt b_cp (nI P) b_nx b_tl b_pe b_en b_pa (nI P) r_mp r_kn r_dd r_rd r_dn r_rn f_fl f_fu f_fw f_li (nI 233) f_nx f_tl f_pe f_en f_pa) ++ ((w7A cy ad7 thr xs (nI P) tcd frt frp lan man itm deg num mad inn lon goe tai per lea com see trc cou don nex res quo rou met) ++ ((sgS cy SL sln sia snn svv) ++ (sgP cy PL ppp pca pdg ptd pcc))))) (by decide) rfl hP hD
  have hP := hPD.1
  have hD := hPD.2
  refine lv_aload_n hx hb dL_law_700 rfl (lv_at hl 1 rfl) ?_
  refine lv_aload_n hx hb dL_law_701 rfl (lv_at hl 3 rfl) ?_
  refine lv_iload_n hx hb dL_law_702 rfl (lv_at hl 0 rfl) ?_
  refine lv_iconst (v := 1) hx hb dL_law_703 (by decide) ?_
  refine lv_iadd hx hb dL_law_704 ?_
  refine va_sld hx hb hX hbl hbA hS hi1 dL_law_705 ?_
  refine lv_aload_n hx hb dL_law_706 rfl (lv_at hl 3 rfl) ?_
  refine lv_iload_n hx hb dL_law_707 rfl (lv_at hl 0 rfl) ?_
  refine lv_iconst (v := 2) hx hb dL_law_708 (by decide) ?_
  refine lv_iadd hx hb dL_law_709 ?_
  refine va_sld hx hb hX hbl hbA hS hi2 dL_law_710 ?_
  refine ivW (As := [.int (xs_ (Int32.toNatClampNeg (nI i + 1))), .int (xs_ (Int32.toNatClampNeg (nI i + 2)))]) (rest := [.int ox.1]) (st1 := [.int om.1, .int ox.1]) (is := [61, 65, 66, 70, 71, 72, 73, 74, 75, 76]) (w1 := (wX7_0_4_5_9_10_11_12_13_14_15 cy ad7 om.2.1 om.2.2.1 (nI P) om.2.2.2.1 frt frp deg num om.2.2.2.2.1 om.2.2.2.2.2.1 om.2.2.2.2.2.2.1 om.2.2.2.2.2.2.2.1 om.2.2.2.2.2.2.2.2.1 om.2.2.2.2.2.2.2.2.2.1 om.2.2.2.2.2.2.2.2.2.2)) ⟨hx, hb, hml, hown, hts⟩ hK hN (KX7_ask l D cy ad7 thr xs (nI P) tcd frt frp deg num goe tai per lea com see trc (xs_ (Int32.toNatClampNeg (nI i + 1))) (xs_ (Int32.toNatClampNeg (nI i + 2))) H.size (out := om) e7) (cwV 2 hts gL_law_X7_ask rfl rfl rfl (by decide +kernel) ⟨Nat.le_of_ble_eq_true rfl, Nat.le_of_ble_eq_true rfl⟩) (va_recv hK hP (ci := 7) (q0 := 61) rfl rfl) hP hD hS hA P_nil (sepW_nil _) (by decide) rfl rfl rfl hl.1 rfl (Nat.le_of_ble_eq_true rfl) rfl dL_law_711 ⟨by show cells + 0 ≤ 600000; omega, by show slots + 0 ≤ 7302250; omega⟩ (fun H locs hP hD hS => ?_)
  have hPD := PD_mrg (w2 := ((w6A cy ad (nI P) ox.2.1 ox.2.2.1 sh sf ox.2.2.2.1 P (P + 1) (nI P) ox.2.2.2.2.1 ox.2.2.2.2.2.1 ox.2.2.2.2.2.2.1 ox.2.2.2.2.2.2.2.1 ox.2.2.2.2.2.2.2.2.1 ox.2.2.2.2.2.2.2.2.2.1 ox.2.2.2.2.2.2.2.2.2.2.1 ox.2.2.2.2.2.2.2.2.2.2.2.1 a_bt a_cp (nI P) ox.2.2.2.2.2.2.2.2.2.2.2.2.1 ox.2.2.2.2.2.2.2.2.2.2.2.2.2.1 ox.2.2.2.2.2.2.2.2.2.2.2.2.2.2.1 ox.2.2.2.2.2.2.2.2.2.2.2.2.2.2.2.1 ox.2.2.2.2.2.2.2.2.2.2.2.2.2.2.2.2 (nI P) b_rgs b_sv b_co b_ro b_le b_lst b_mu b_ba b_bt b_cp (nI P) b_nx b_tl b_pe b_en b_pa (nI P) r_mp r_kn r_dd r_rd r_dn r_rn f_fl f_fu f_fw f_li (nI 233) f_nx f_tl f_pe f_en f_pa) ++ ((w7A cy ad7 om.2.1 om.2.2.1 (nI P) om.2.2.2.1 frt frp lan man itm deg num mad inn lon om.2.2.2.2.1 om.2.2.2.2.2.1 om.2.2.2.2.2.2.1 om.2.2.2.2.2.2.2.1 om.2.2.2.2.2.2.2.2.1 om.2.2.2.2.2.2.2.2.2.1 om.2.2.2.2.2.2.2.2.2.2 cou don nex res quo rou met) ++ ((sgS cy SL sln sia snn svv) ++ (sgP cy PL ppp pca pdg ptd pcc))))) (by decide) rfl hP hD
  have hP := hPD.1
  have hD := hPD.2
  refine lv_icmp_eq (tgt := 1112) hx hb dL_law_714 (by decide) (fun hcmp => ?_) (fun hcmp => ?_)
  · refine W.widen (k := cells + 4) (n := slots + 260) (by omega) (by omega) ?_
    exact kk H locs (fun motive k => k ad ad7 P ox.2.1 ox.2.2.1 sh sf ox.2.2.2.1 ox.2.2.2.2.1 ox.2.2.2.2.2.1 ox.2.2.2.2.2.2.1 ox.2.2.2.2.2.2.2.1 ox.2.2.2.2.2.2.2.2.1 ox.2.2.2.2.2.2.2.2.2.1 ox.2.2.2.2.2.2.2.2.2.2.1 ox.2.2.2.2.2.2.2.2.2.2.2.1 a_bt a_cp ox.2.2.2.2.2.2.2.2.2.2.2.2.1 ox.2.2.2.2.2.2.2.2.2.2.2.2.2.1 ox.2.2.2.2.2.2.2.2.2.2.2.2.2.2.1 ox.2.2.2.2.2.2.2.2.2.2.2.2.2.2.2.1 ox.2.2.2.2.2.2.2.2.2.2.2.2.2.2.2.2 b_rgs b_sv b_co b_ro b_le b_lst b_mu b_ba b_bt b_cp b_nx b_tl b_pe b_en b_pa r_mp r_kn r_dd r_rd r_dn r_rn f_fl f_fu f_fw f_li f_nx f_tl f_pe f_en f_pa om.2.1 om.2.2.1 om.2.2.2.1 frt frp lan man itm deg num mad inn lon om.2.2.2.2.1 om.2.2.2.2.2.1 om.2.2.2.2.2.2.1 om.2.2.2.2.2.2.2.1 om.2.2.2.2.2.2.2.2.1 om.2.2.2.2.2.2.2.2.2.1 om.2.2.2.2.2.2.2.2.2.2 cou don nex res quo rou met SL sln sia snn svv PL ppp pca pdg ptd pcc rfl rfl hPR h2.symm hsh hg hsf htr' hsv' hsb hrd hfr hP hD) hS
  · exact absurd (h1.symm) hcmp
set_option maxHeartbeats 4000000 in
set_option maxRecDepth 100000 in
theorem lc_trace {p : Program} {l : Launch} {e : Env} {s : State} {m : MethodId} {below : List Frame} {meth : Method} {c : Code} {Q : State → Prop} {D : va_G} {cy : Nat → ClassId} {A : Nat → Prop} {b L i q6 q7 cells slots : Nat} {xs_ : Nat → Int32} {H : Heap} {locs : List Loc} {ls : Array Slot} (hx : p.tables.exec = Jvm.exec) (hb : c.code = cL_law) (hml : c.maxLocals = 4) (hown : s.vm.findClass RL = some m.cls) (hts : ∀ w ∈ wsL_law, w.before #[Value.ref b] s = true) (hX : va_X b L xs_ s s.heap) (hbl : b < s.heap.size) (hbA : ¬ A b) (hA : ∀ q, s.heap.size ≤ q → A q) (hK : va_K D vwCl (TYs cy) s) (hN : NK s) (hi : i + 6 ≤ L) (hL : L ≤ 3073) (hLW : LW D cy A q6 q7 H) (hS : va_S A s.heap H locs) (hl : lv_has ls 4 [(3, .int (nI i)), (2, .ref q7), (1, .ref q6), (0, .ref b)]) (hc : cells + 4 ≤ 600000) (hs : slots + 260 ≤ 7302250) (kk : ∀ (H1 : Heap) (locs1 : List Loc), LW D cy A q6 q7 H1 → va_S A s.heap H1 locs1 → W p l e room_1 s m #[Value.ref b] below meth c H1 locs1 (cells + 4) (slots + 260) Q (F0 m 1112 ls [])) : W p l e room_1 s m #[Value.ref b] below meth c H locs cells slots Q (F0 m 719 ls []) := by
  refine hLW _ ?_
  intro ad ad7 P xt xs sh sf tr a_rgs a_sv a_co a_ro a_le a_lst a_mu a_ba a_bt a_cp a_nx a_tl a_pe a_en a_pa b_rgs b_sv b_co b_ro b_le b_lst b_mu b_ba b_bt b_cp b_nx b_tl b_pe b_en b_pa r_mp r_kn r_dd r_rd r_dn r_rn f_fl f_fu f_fw f_li f_nx f_tl f_pe f_en f_pa thr sta tcd frt frp lan man itm deg num mad inn lon goe tai per lea com see trc cou don nex res quo rou met SL sln sia snn svv PL ppp pca pdg ptd pcc hq6 hq7 hPR hst hsh hg hsf htr hsv hsb hrd hfr hP hD
  subst hq6 hq7 hst
  have hP1 : 1 < P := Nat.lt_of_lt_of_le (by omega) hPR.1
  have hP2 : P < 200 := hPR.2.1
  have hi1 : vp_in (nI i + 1) L := by
    rw [show (1 : Int32) = nI 1 from rfl, nI_add]
    exact in_n (by omega) (by omega)
  have hi2 : vp_in (nI i + 2) L := by
    rw [show (2 : Int32) = nI 2 from rfl, nI_add]
    exact in_n (by omega) (by omega)
  have hi3 : vp_in (nI i + 3) L := by
    rw [show (3 : Int32) = nI 3 from rfl, nI_add]
    exact in_n (by omega) (by omega)
  have hi4 : vp_in (nI i + 4) L := by
    rw [show (4 : Int32) = nI 4 from rfl, nI_add]
    exact in_n (by omega) (by omega)
  have hi5 : vp_in (nI i + 5) L := by
    rw [show (5 : Int32) = nI 5 from rfl, nI_add]
    exact in_n (by omega) (by omega)
  obtain ⟨a, e7, e6⟩ := op_trace htr (xs_ (Int32.toNatClampNeg (nI i + 1)))
  refine lv_aload_n hx hb dL_law_719 rfl (lv_at hl 2 rfl) ?_
  refine lv_aload_n hx hb dL_law_720 rfl (lv_at hl 3 rfl) ?_
  refine lv_iload_n hx hb dL_law_721 rfl (lv_at hl 0 rfl) ?_
  refine lv_iconst (v := 1) hx hb dL_law_722 (by decide) ?_
  refine lv_iadd hx hb dL_law_723 ?_
  refine va_sld hx hb hX hbl hbA hS hi1 dL_law_724 ?_
  refine ivR (As := [.int (xs_ (Int32.toNatClampNeg (nI i + 1)))]) (rest := []) (st1 := [.int a]) ⟨hx, hb, hml, hown, hts⟩ hK hN (KX6_trace l D cy ad (nI P) xt xs tr (xs_ (Int32.toNatClampNeg (nI i + 1))) H.size (out := (a)) e6) (cwV 1 hts gL_law_X6_trace rfl rfl rfl (by decide +kernel) ⟨Nat.le_of_ble_eq_true rfl, Nat.le_of_ble_eq_true rfl⟩) (va_recv hK hP (ci := 6) (q0 := 0) rfl rfl) (P_pl (wc := (wX6_0_3 cy ad (nI P) xt xs tr)) (is := [0, 3]) hP rfl) rfl hl.1 rfl (Nat.le_of_ble_eq_true rfl) rfl dL_law_725 ⟨by show cells + 0 ≤ 600000; omega, by show slots + 0 ≤ 7302250; omega⟩ ?_
  refine lv_aload_n hx hb dL_law_728 rfl (lv_at hl 1 rfl) ?_
  refine lv_aload_n hx hb dL_law_729 rfl (lv_at hl 3 rfl) ?_
  refine lv_iload_n hx hb dL_law_730 rfl (lv_at hl 0 rfl) ?_
  refine lv_iconst (v := 1) hx hb dL_law_731 (by decide) ?_
  refine lv_iadd hx hb dL_law_732 ?_
  refine va_sld hx hb hX hbl hbA hS hi1 dL_law_733 ?_
  refine ivW (As := [.int (xs_ (Int32.toNatClampNeg (nI i + 1)))]) (rest := [.int a]) (st1 := [.int a, .int a]) (is := [61, 76]) (w1 := (wX7_0_15 cy ad7 0 xs (nI P) tcd frt frp trc)) ⟨hx, hb, hml, hown, hts⟩ hK hN (KX7_trace l D cy ad7 thr xs (nI P) tcd frt frp trc (xs_ (Int32.toNatClampNeg (nI i + 1))) H.size (out := (a, 0)) e7) (cwV 1 hts gL_law_X7_trace rfl rfl rfl (by decide +kernel) ⟨Nat.le_of_ble_eq_true rfl, Nat.le_of_ble_eq_true rfl⟩) (va_recv hK hP (ci := 7) (q0 := 61) rfl rfl) hP hD hS hA P_nil (sepW_nil _) (by decide) rfl rfl rfl hl.1 rfl (Nat.le_of_ble_eq_true rfl) rfl dL_law_734 ⟨by show cells + 0 ≤ 600000; omega, by show slots + 0 ≤ 7302250; omega⟩ (fun H locs hP hD hS => ?_)
  have hPD := PD_mrg (w2 := ((w6A cy ad (nI P) xt xs sh sf tr P (P + 1) (nI P) a_rgs a_sv a_co a_ro a_le a_lst a_mu a_ba a_bt a_cp (nI P) a_nx a_tl a_pe a_en a_pa (nI P) b_rgs b_sv b_co b_ro b_le b_lst b_mu b_ba b_bt b_cp (nI P) b_nx b_tl b_pe b_en b_pa (nI P) r_mp r_kn r_dd r_rd r_dn r_rn f_fl f_fu f_fw f_li (nI 233) f_nx f_tl f_pe f_en f_pa) ++ ((w7A cy ad7 0 xs (nI P) tcd frt frp lan man itm deg num mad inn lon goe tai per lea com see trc cou don nex res quo rou met) ++ ((sgS cy SL sln sia snn svv) ++ (sgP cy PL ppp pca pdg ptd pcc))))) (by decide) rfl hP hD
  have hP := hPD.1
  have hD := hPD.2
  refine lv_icmp_eq (tgt := 1112) hx hb dL_law_737 (by decide) (fun hcmp => ?_) (fun hcmp => ?_)
  · refine W.widen (k := cells + 4) (n := slots + 260) (by omega) (by omega) ?_
    exact kk H locs (fun motive k => k ad ad7 P xt xs sh sf tr a_rgs a_sv a_co a_ro a_le a_lst a_mu a_ba a_bt a_cp a_nx a_tl a_pe a_en a_pa b_rgs b_sv b_co b_ro b_le b_lst b_mu b_ba b_bt b_cp b_nx b_tl b_pe b_en b_pa r_mp r_kn r_dd r_rd r_dn r_rn f_fl f_fu f_fw f_li f_nx f_tl f_pe f_en f_pa 0 xs tcd frt frp lan man itm deg num mad inn lon goe tai per lea com see trc cou don nex res quo rou met SL sln sia snn svv PL ppp pca pdg ptd pcc rfl rfl hPR rfl hsh hg hsf htr hsv hsb hrd hfr hP hD) hS
  · exact absurd (rfl) hcmp
set_option maxHeartbeats 4000000 in
set_option maxRecDepth 100000 in
theorem lc_step {p : Program} {l : Launch} {e : Env} {s : State} {m : MethodId} {below : List Frame} {meth : Method} {c : Code} {Q : State → Prop} {D : va_G} {cy : Nat → ClassId} {A : Nat → Prop} {b L i q6 q7 cells slots : Nat} {xs_ : Nat → Int32} {H : Heap} {locs : List Loc} {ls : Array Slot} (hx : p.tables.exec = Jvm.exec) (hb : c.code = cL_law) (hml : c.maxLocals = 4) (hown : s.vm.findClass RL = some m.cls) (hts : ∀ w ∈ wsL_law, w.before #[Value.ref b] s = true) (hX : va_X b L xs_ s s.heap) (hbl : b < s.heap.size) (hbA : ¬ A b) (hA : ∀ q, s.heap.size ≤ q → A q) (hK : va_K D vwCl (TYs cy) s) (hN : NK s) (hi : i + 6 ≤ L) (hL : L ≤ 3073) (hLW : LW D cy A q6 q7 H) (hS : va_S A s.heap H locs) (hl : lv_has ls 4 [(3, .int (nI i)), (2, .ref q7), (1, .ref q6), (0, .ref b)]) (hc : cells + 4 ≤ 600000) (hs : slots + 260 ≤ 7302250) (kk : ∀ (H1 : Heap) (locs1 : List Loc), LW D cy A q6 q7 H1 → va_S A s.heap H1 locs1 → W p l e room_1 s m #[Value.ref b] below meth c H1 locs1 (cells + 4) (slots + 260) Q (F0 m 1112 ls [])) : W p l e room_1 s m #[Value.ref b] below meth c H locs cells slots Q (F0 m 742 ls []) := by
  refine hLW _ ?_
  intro ad ad7 P xt xs sh sf tr a_rgs a_sv a_co a_ro a_le a_lst a_mu a_ba a_bt a_cp a_nx a_tl a_pe a_en a_pa b_rgs b_sv b_co b_ro b_le b_lst b_mu b_ba b_bt b_cp b_nx b_tl b_pe b_en b_pa r_mp r_kn r_dd r_rd r_dn r_rn f_fl f_fu f_fw f_li f_nx f_tl f_pe f_en f_pa thr sta tcd frt frp lan man itm deg num mad inn lon goe tai per lea com see trc cou don nex res quo rou met SL sln sia snn svv PL ppp pca pdg ptd pcc hq6 hq7 hPR hst hsh hg hsf htr hsv hsb hrd hfr hP hD
  subst hq6 hq7 hst
  have hP1 : 1 < P := Nat.lt_of_lt_of_le (by omega) hPR.1
  have hP2 : P < 200 := hPR.2.1
  have hi1 : vp_in (nI i + 1) L := by
    rw [show (1 : Int32) = nI 1 from rfl, nI_add]
    exact in_n (by omega) (by omega)
  have hi2 : vp_in (nI i + 2) L := by
    rw [show (2 : Int32) = nI 2 from rfl, nI_add]
    exact in_n (by omega) (by omega)
  have hi3 : vp_in (nI i + 3) L := by
    rw [show (3 : Int32) = nI 3 from rfl, nI_add]
    exact in_n (by omega) (by omega)
  have hi4 : vp_in (nI i + 4) L := by
    rw [show (4 : Int32) = nI 4 from rfl, nI_add]
    exact in_n (by omega) (by omega)
  have hi5 : vp_in (nI i + 5) L := by
    rw [show (5 : Int32) = nI 5 from rfl, nI_add]
    exact in_n (by omega) (by omega)
  obtain ⟨om, ox, e7, e6, h1, h2, h3, hsv'⟩ := op_step (pca := pca) (sta := xs) (goe := goe) (tai := tai) (per := per) (lea := lea) (com := com) (see := see) (en := a_en) (pa := a_pa) hP1 hP2 hg hsf hsv (xs_ (Int32.toNatClampNeg (nI i + 1))) (xs_ (Int32.toNatClampNeg (nI i + 2))) (xs_ (Int32.toNatClampNeg (nI i + 3)))
  refine lv_aload_n hx hb dL_law_742 rfl (lv_at hl 2 rfl) ?_
  refine lv_aload_n hx hb dL_law_743 rfl (lv_at hl 3 rfl) ?_
  refine lv_iload_n hx hb dL_law_744 rfl (lv_at hl 0 rfl) ?_
  refine lv_iconst (v := 1) hx hb dL_law_745 (by decide) ?_
  refine lv_iadd hx hb dL_law_746 ?_
  refine va_sld hx hb hX hbl hbA hS hi1 dL_law_747 ?_
  refine lv_aload_n hx hb dL_law_748 rfl (lv_at hl 3 rfl) ?_
  refine lv_iload_n hx hb dL_law_749 rfl (lv_at hl 0 rfl) ?_
  refine lv_iconst (v := 2) hx hb dL_law_750 (by decide) ?_
  refine lv_iadd hx hb dL_law_751 ?_
  refine va_sld hx hb hX hbl hbA hS hi2 dL_law_752 ?_
  refine lv_aload_n hx hb dL_law_753 rfl (lv_at hl 3 rfl) ?_
  refine lv_iload_n hx hb dL_law_754 rfl (lv_at hl 0 rfl) ?_
  refine lv_iconst (v := 3) hx hb dL_law_755 (by decide) ?_
  refine lv_iadd hx hb dL_law_756 ?_
  refine va_sld hx hb hX hbl hbA hS hi3 dL_law_757 ?_
  refine ivW (As := [.int (xs_ (Int32.toNatClampNeg (nI i + 1))), .int (xs_ (Int32.toNatClampNeg (nI i + 2))), .int (xs_ (Int32.toNatClampNeg (nI i + 3)))]) (rest := []) (st1 := [.int ox.1]) (is := [0, 2, 4, 5, 6, 7, 8, 9, 10, 13, 14, 15, 16, 17, 18]) (w1 := (wX6_0_2_4_5_6_7_8_9_10_13_14_15_16_17_18 cy ad (nI P) xt ox.2.1 sf P (nI P) ox.2.2.1 ox.2.2.2.1 ox.2.2.2.2.1 ox.2.2.2.2.2.1 ox.2.2.2.2.2.2.1 ox.2.2.2.2.2.2.2.1 ox.2.2.2.2.2.2.2.2.1 ox.2.2.2.2.2.2.2.2.2.1 (nI P) ox.2.2.2.2.2.2.2.2.2.2.1 ox.2.2.2.2.2.2.2.2.2.2.2.1 ox.2.2.2.2.2.2.2.2.2.2.2.2.1 ox.2.2.2.2.2.2.2.2.2.2.2.2.2.1 ox.2.2.2.2.2.2.2.2.2.2.2.2.2.2)) ⟨hx, hb, hml, hown, hts⟩ hK hN (KX6_step l D cy ad (nI P) xt xs sf P (nI P) a_rgs a_sv a_co a_ro a_le a_lst a_mu a_ba (nI P) a_nx a_tl a_pe a_en a_pa PL ppp pca pdg ptd pcc (xs_ (Int32.toNatClampNeg (nI i + 1))) (xs_ (Int32.toNatClampNeg (nI i + 2))) (xs_ (Int32.toNatClampNeg (nI i + 3))) H.size (out := ox) e6) (cwV 3 hts gL_law_X6_step rfl rfl rfl (by decide +kernel) ⟨Nat.le_of_ble_eq_true rfl, Nat.le_of_ble_eq_true rfl⟩) (va_recv hK hP (ci := 6) (q0 := 0) rfl rfl) hP hD hS hA (P_right (P_right (P_right hP))) (sepE (N := 61) (is := [0, 2, 4, 5, 6, 7, 8, 9, 10, 13, 14, 15, 16, 17, 18]) hD rfl rfl (by decide) (fun q h => List.mem_append_right _ (List.mem_append_right _ h))) (by decide) rfl rfl rfl hl.1 rfl (Nat.le_of_ble_eq_true rfl) rfl dL_law_758 ⟨by show cells + 0 ≤ 600000; omega, by show slots + 0 ≤ 7302250; omega⟩ (fun H locs hP hD hS => ?_)
  have hPD := PD_mrg (w2 := ((w6A cy ad (nI P) xt ox.2.1 sh sf tr P (P + 1) (nI P) ox.2.2.1 ox.2.2.2.1 ox.2.2.2.2.1 ox.2.2.2.2.2.1 ox.2.2.2.2.2.2.1 ox.2.2.2.2.2.2.2.1 ox.2.2.2.2.2.2.2.2.1 ox.2.2.2.2.2.2.2.2.2.1 a_bt a_cp (nI P) ox.2.2.2.2.2.2.2.2.2.2.1 ox.2.2.2.2.2.2.2.2.2.2.2.1 ox.2.2.2.2.2.2.2.2.2.2.2.2.1 ox.2.2.2.2.2.2.2.2.2.2.2.2.2.1 ox.2.2.2.2.2.2.2.2.2.2.2.2.2.2 (nI P) b_rgs b_sv b_co b_ro b_le b_lst b_mu b_ba b_bt b_cp (nI P) b_nx b_tl b_pe b_en b_pa (nI P) r_mp r_kn r_dd r_rd r_dn r_rn f_fl f_fu f_fw f_li (nI 233) f_nx f_tl f_pe f_en f_pa) ++ ((w7A cy ad7 thr xs (nI P) tcd frt frp lan man itm deg num mad inn lon goe tai per lea com see trc cou don nex res quo rou met) ++ ((sgS cy SL sln sia snn svv) ++ (sgP cy PL ppp pca pdg ptd pcc))))) (by decide) rfl hP hD
  have hP := hPD.1
  have hD := hPD.2
  refine lv_aload_n hx hb dL_law_761 rfl (lv_at hl 1 rfl) ?_
  refine lv_aload_n hx hb dL_law_762 rfl (lv_at hl 3 rfl) ?_
  refine lv_iload_n hx hb dL_law_763 rfl (lv_at hl 0 rfl) ?_
  refine lv_iconst (v := 1) hx hb dL_law_764 (by decide) ?_
  refine lv_iadd hx hb dL_law_765 ?_
  refine va_sld hx hb hX hbl hbA hS hi1 dL_law_766 ?_
  refine lv_aload_n hx hb dL_law_767 rfl (lv_at hl 3 rfl) ?_
  refine lv_iload_n hx hb dL_law_768 rfl (lv_at hl 0 rfl) ?_
  refine lv_iconst (v := 2) hx hb dL_law_769 (by decide) ?_
  refine lv_iadd hx hb dL_law_770 ?_
  refine va_sld hx hb hX hbl hbA hS hi2 dL_law_771 ?_
  refine lv_aload_n hx hb dL_law_772 rfl (lv_at hl 3 rfl) ?_
  refine lv_iload_n hx hb dL_law_773 rfl (lv_at hl 0 rfl) ?_
  refine lv_iconst (v := 3) hx hb dL_law_774 (by decide) ?_
  refine lv_iadd hx hb dL_law_775 ?_
  refine va_sld hx hb hX hbl hbA hS hi3 dL_law_776 ?_
  refine ivW (As := [.int (xs_ (Int32.toNatClampNeg (nI i + 1))), .int (xs_ (Int32.toNatClampNeg (nI i + 2))), .int (xs_ (Int32.toNatClampNeg (nI i + 3)))]) (rest := [.int ox.1]) (st1 := [.int om.1, .int ox.1]) (is := [61, 65, 66, 70, 71, 72, 73, 74, 75]) (w1 := (wX7_0_4_5_9_10_11_12_13_14 cy ad7 om.2.1 om.2.2.1 (nI P) tcd frt frp deg num om.2.2.2.1 om.2.2.2.2.1 om.2.2.2.2.2.1 om.2.2.2.2.2.2.1 om.2.2.2.2.2.2.2.1 om.2.2.2.2.2.2.2.2)) ⟨hx, hb, hml, hown, hts⟩ hK hN (KX7_step l D cy ad7 thr xs (nI P) tcd frt frp deg num goe tai per lea com see (xs_ (Int32.toNatClampNeg (nI i + 1))) (xs_ (Int32.toNatClampNeg (nI i + 2))) (xs_ (Int32.toNatClampNeg (nI i + 3))) H.size (out := om) e7) (cwV 3 hts gL_law_X7_step rfl rfl rfl (by decide +kernel) ⟨Nat.le_of_ble_eq_true rfl, Nat.le_of_ble_eq_true rfl⟩) (va_recv hK hP (ci := 7) (q0 := 61) rfl rfl) hP hD hS hA P_nil (sepW_nil _) (by decide) rfl rfl rfl hl.1 rfl (Nat.le_of_ble_eq_true rfl) rfl dL_law_777 ⟨by show cells + 0 ≤ 600000; omega, by show slots + 0 ≤ 7302250; omega⟩ (fun H locs hP hD hS => ?_)
  have hPD := PD_mrg (w2 := ((w6A cy ad (nI P) xt ox.2.1 sh sf tr P (P + 1) (nI P) ox.2.2.1 ox.2.2.2.1 ox.2.2.2.2.1 ox.2.2.2.2.2.1 ox.2.2.2.2.2.2.1 ox.2.2.2.2.2.2.2.1 ox.2.2.2.2.2.2.2.2.1 ox.2.2.2.2.2.2.2.2.2.1 a_bt a_cp (nI P) ox.2.2.2.2.2.2.2.2.2.2.1 ox.2.2.2.2.2.2.2.2.2.2.2.1 ox.2.2.2.2.2.2.2.2.2.2.2.2.1 ox.2.2.2.2.2.2.2.2.2.2.2.2.2.1 ox.2.2.2.2.2.2.2.2.2.2.2.2.2.2 (nI P) b_rgs b_sv b_co b_ro b_le b_lst b_mu b_ba b_bt b_cp (nI P) b_nx b_tl b_pe b_en b_pa (nI P) r_mp r_kn r_dd r_rd r_dn r_rn f_fl f_fu f_fw f_li (nI 233) f_nx f_tl f_pe f_en f_pa) ++ ((w7A cy ad7 om.2.1 om.2.2.1 (nI P) tcd frt frp lan man itm deg num mad inn lon om.2.2.2.1 om.2.2.2.2.1 om.2.2.2.2.2.1 om.2.2.2.2.2.2.1 om.2.2.2.2.2.2.2.1 om.2.2.2.2.2.2.2.2 trc cou don nex res quo rou met) ++ ((sgS cy SL sln sia snn svv) ++ (sgP cy PL ppp pca pdg ptd pcc))))) (by decide) rfl hP hD
  have hP := hPD.1
  have hD := hPD.2
  refine lv_icmp_eq (tgt := 1112) hx hb dL_law_780 (by decide) (fun hcmp => ?_) (fun hcmp => ?_)
  · refine W.widen (k := cells + 4) (n := slots + 260) (by omega) (by omega) ?_
    exact kk H locs (fun motive k => k ad ad7 P xt ox.2.1 sh sf tr ox.2.2.1 ox.2.2.2.1 ox.2.2.2.2.1 ox.2.2.2.2.2.1 ox.2.2.2.2.2.2.1 ox.2.2.2.2.2.2.2.1 ox.2.2.2.2.2.2.2.2.1 ox.2.2.2.2.2.2.2.2.2.1 a_bt a_cp ox.2.2.2.2.2.2.2.2.2.2.1 ox.2.2.2.2.2.2.2.2.2.2.2.1 ox.2.2.2.2.2.2.2.2.2.2.2.2.1 ox.2.2.2.2.2.2.2.2.2.2.2.2.2.1 ox.2.2.2.2.2.2.2.2.2.2.2.2.2.2 b_rgs b_sv b_co b_ro b_le b_lst b_mu b_ba b_bt b_cp b_nx b_tl b_pe b_en b_pa r_mp r_kn r_dd r_rd r_dn r_rn f_fl f_fu f_fw f_li f_nx f_tl f_pe f_en f_pa om.2.1 om.2.2.1 tcd frt frp lan man itm deg num mad inn lon om.2.2.2.1 om.2.2.2.2.1 om.2.2.2.2.2.1 om.2.2.2.2.2.2.1 om.2.2.2.2.2.2.2.1 om.2.2.2.2.2.2.2.2 trc cou don nex res quo rou met SL sln sia snn svv PL ppp pca pdg ptd pcc rfl rfl hPR h2.symm hsh hg hsf htr hsv' hsb hrd hfr hP hD) hS
  · exact absurd (h1.symm) hcmp
set_option maxHeartbeats 4000000 in
set_option maxRecDepth 100000 in
theorem lc_way {p : Program} {l : Launch} {e : Env} {s : State} {m : MethodId} {below : List Frame} {meth : Method} {c : Code} {Q : State → Prop} {D : va_G} {cy : Nat → ClassId} {A : Nat → Prop} {b L i q6 q7 cells slots : Nat} {xs_ : Nat → Int32} {H : Heap} {locs : List Loc} {ls : Array Slot} (hx : p.tables.exec = Jvm.exec) (hb : c.code = cL_law) (hml : c.maxLocals = 4) (hown : s.vm.findClass RL = some m.cls) (hts : ∀ w ∈ wsL_law, w.before #[Value.ref b] s = true) (hX : va_X b L xs_ s s.heap) (hbl : b < s.heap.size) (hbA : ¬ A b) (hA : ∀ q, s.heap.size ≤ q → A q) (hK : va_K D vwCl (TYs cy) s) (hN : NK s) (hi : i + 6 ≤ L) (hL : L ≤ 3073) (hLW : LW D cy A q6 q7 H) (hS : va_S A s.heap H locs) (hl : lv_has ls 4 [(3, .int (nI i)), (2, .ref q7), (1, .ref q6), (0, .ref b)]) (hc : cells + 4 ≤ 600000) (hs : slots + 260 ≤ 7302250) (kk : ∀ (H1 : Heap) (locs1 : List Loc), LW D cy A q6 q7 H1 → va_S A s.heap H1 locs1 → W p l e room_1 s m #[Value.ref b] below meth c H1 locs1 (cells + 4) (slots + 260) Q (F0 m 1112 ls [])) : W p l e room_1 s m #[Value.ref b] below meth c H locs cells slots Q (F0 m 785 ls []) := by
  refine hLW _ ?_
  intro ad ad7 P xt xs sh sf tr a_rgs a_sv a_co a_ro a_le a_lst a_mu a_ba a_bt a_cp a_nx a_tl a_pe a_en a_pa b_rgs b_sv b_co b_ro b_le b_lst b_mu b_ba b_bt b_cp b_nx b_tl b_pe b_en b_pa r_mp r_kn r_dd r_rd r_dn r_rn f_fl f_fu f_fw f_li f_nx f_tl f_pe f_en f_pa thr sta tcd frt frp lan man itm deg num mad inn lon goe tai per lea com see trc cou don nex res quo rou met SL sln sia snn svv PL ppp pca pdg ptd pcc hq6 hq7 hPR hst hsh hg hsf htr hsv hsb hrd hfr hP hD
  subst hq6 hq7 hst
  have hP1 : 1 < P := Nat.lt_of_lt_of_le (by omega) hPR.1
  have hP2 : P < 200 := hPR.2.1
  have hi1 : vp_in (nI i + 1) L := by
    rw [show (1 : Int32) = nI 1 from rfl, nI_add]
    exact in_n (by omega) (by omega)
  have hi2 : vp_in (nI i + 2) L := by
    rw [show (2 : Int32) = nI 2 from rfl, nI_add]
    exact in_n (by omega) (by omega)
  have hi3 : vp_in (nI i + 3) L := by
    rw [show (3 : Int32) = nI 3 from rfl, nI_add]
    exact in_n (by omega) (by omega)
  have hi4 : vp_in (nI i + 4) L := by
    rw [show (4 : Int32) = nI 4 from rfl, nI_add]
    exact in_n (by omega) (by omega)
  have hi5 : vp_in (nI i + 5) L := by
    rw [show (5 : Int32) = nI 5 from rfl, nI_add]
    exact in_n (by omega) (by omega)
  obtain ⟨om, ox, e7, e6, h1, h2, h3, hsv'⟩ := op_way (pca := pca) (sta := xs) (goe := goe) (tai := tai) (per := per) (lea := lea) (com := com) (see := see) (en := a_en) (pa := a_pa) hP1 hP2 hg hsf hsv (xs_ (Int32.toNatClampNeg (nI i + 1))) (xs_ (Int32.toNatClampNeg (nI i + 2))) (xs_ (Int32.toNatClampNeg (nI i + 3)))
  refine lv_aload_n hx hb dL_law_785 rfl (lv_at hl 2 rfl) ?_
  refine lv_aload_n hx hb dL_law_786 rfl (lv_at hl 3 rfl) ?_
  refine lv_iload_n hx hb dL_law_787 rfl (lv_at hl 0 rfl) ?_
  refine lv_iconst (v := 1) hx hb dL_law_788 (by decide) ?_
  refine lv_iadd hx hb dL_law_789 ?_
  refine va_sld hx hb hX hbl hbA hS hi1 dL_law_790 ?_
  refine lv_aload_n hx hb dL_law_791 rfl (lv_at hl 3 rfl) ?_
  refine lv_iload_n hx hb dL_law_792 rfl (lv_at hl 0 rfl) ?_
  refine lv_iconst (v := 2) hx hb dL_law_793 (by decide) ?_
  refine lv_iadd hx hb dL_law_794 ?_
  refine va_sld hx hb hX hbl hbA hS hi2 dL_law_795 ?_
  refine lv_aload_n hx hb dL_law_796 rfl (lv_at hl 3 rfl) ?_
  refine lv_iload_n hx hb dL_law_797 rfl (lv_at hl 0 rfl) ?_
  refine lv_iconst (v := 3) hx hb dL_law_798 (by decide) ?_
  refine lv_iadd hx hb dL_law_799 ?_
  refine va_sld hx hb hX hbl hbA hS hi3 dL_law_800 ?_
  refine ivW (As := [.int (xs_ (Int32.toNatClampNeg (nI i + 1))), .int (xs_ (Int32.toNatClampNeg (nI i + 2))), .int (xs_ (Int32.toNatClampNeg (nI i + 3)))]) (rest := []) (st1 := [.int ox.1]) (is := [0, 2, 4, 5, 6, 7, 8, 9, 10, 13, 14, 15, 16, 17, 18]) (w1 := (wX6_0_2_4_5_6_7_8_9_10_13_14_15_16_17_18 cy ad (nI P) xt ox.2.1 sf P (nI P) ox.2.2.1 ox.2.2.2.1 ox.2.2.2.2.1 ox.2.2.2.2.2.1 ox.2.2.2.2.2.2.1 ox.2.2.2.2.2.2.2.1 ox.2.2.2.2.2.2.2.2.1 ox.2.2.2.2.2.2.2.2.2.1 (nI P) ox.2.2.2.2.2.2.2.2.2.2.1 ox.2.2.2.2.2.2.2.2.2.2.2.1 ox.2.2.2.2.2.2.2.2.2.2.2.2.1 ox.2.2.2.2.2.2.2.2.2.2.2.2.2.1 ox.2.2.2.2.2.2.2.2.2.2.2.2.2.2)) ⟨hx, hb, hml, hown, hts⟩ hK hN (KX6_way l D cy ad (nI P) xt xs sf P (nI P) a_rgs a_sv a_co a_ro a_le a_lst a_mu a_ba (nI P) a_nx a_tl a_pe a_en a_pa PL ppp pca pdg ptd pcc (xs_ (Int32.toNatClampNeg (nI i + 1))) (xs_ (Int32.toNatClampNeg (nI i + 2))) (xs_ (Int32.toNatClampNeg (nI i + 3))) H.size (out := ox) e6) (cwV 3 hts gL_law_X6_way rfl rfl rfl (by decide +kernel) ⟨Nat.le_of_ble_eq_true rfl, Nat.le_of_ble_eq_true rfl⟩) (va_recv hK hP (ci := 6) (q0 := 0) rfl rfl) hP hD hS hA (P_right (P_right (P_right hP))) (sepE (N := 61) (is := [0, 2, 4, 5, 6, 7, 8, 9, 10, 13, 14, 15, 16, 17, 18]) hD rfl rfl (by decide) (fun q h => List.mem_append_right _ (List.mem_append_right _ h))) (by decide) rfl rfl rfl hl.1 rfl (Nat.le_of_ble_eq_true rfl) rfl dL_law_801 ⟨by show cells + 0 ≤ 600000; omega, by show slots + 0 ≤ 7302250; omega⟩ (fun H locs hP hD hS => ?_)
  have hPD := PD_mrg (w2 := ((w6A cy ad (nI P) xt ox.2.1 sh sf tr P (P + 1) (nI P) ox.2.2.1 ox.2.2.2.1 ox.2.2.2.2.1 ox.2.2.2.2.2.1 ox.2.2.2.2.2.2.1 ox.2.2.2.2.2.2.2.1 ox.2.2.2.2.2.2.2.2.1 ox.2.2.2.2.2.2.2.2.2.1 a_bt a_cp (nI P) ox.2.2.2.2.2.2.2.2.2.2.1 ox.2.2.2.2.2.2.2.2.2.2.2.1 ox.2.2.2.2.2.2.2.2.2.2.2.2.1 ox.2.2.2.2.2.2.2.2.2.2.2.2.2.1 ox.2.2.2.2.2.2.2.2.2.2.2.2.2.2 (nI P) b_rgs b_sv b_co b_ro b_le b_lst b_mu b_ba b_bt b_cp (nI P) b_nx b_tl b_pe b_en b_pa (nI P) r_mp r_kn r_dd r_rd r_dn r_rn f_fl f_fu f_fw f_li (nI 233) f_nx f_tl f_pe f_en f_pa) ++ ((w7A cy ad7 thr xs (nI P) tcd frt frp lan man itm deg num mad inn lon goe tai per lea com see trc cou don nex res quo rou met) ++ ((sgS cy SL sln sia snn svv) ++ (sgP cy PL ppp pca pdg ptd pcc))))) (by decide) rfl hP hD
  have hP := hPD.1
  have hD := hPD.2
  refine lv_aload_n hx hb dL_law_804 rfl (lv_at hl 1 rfl) ?_
  refine lv_aload_n hx hb dL_law_805 rfl (lv_at hl 3 rfl) ?_
  refine lv_iload_n hx hb dL_law_806 rfl (lv_at hl 0 rfl) ?_
  refine lv_iconst (v := 1) hx hb dL_law_807 (by decide) ?_
  refine lv_iadd hx hb dL_law_808 ?_
  refine va_sld hx hb hX hbl hbA hS hi1 dL_law_809 ?_
  refine lv_aload_n hx hb dL_law_810 rfl (lv_at hl 3 rfl) ?_
  refine lv_iload_n hx hb dL_law_811 rfl (lv_at hl 0 rfl) ?_
  refine lv_iconst (v := 2) hx hb dL_law_812 (by decide) ?_
  refine lv_iadd hx hb dL_law_813 ?_
  refine va_sld hx hb hX hbl hbA hS hi2 dL_law_814 ?_
  refine lv_aload_n hx hb dL_law_815 rfl (lv_at hl 3 rfl) ?_
  refine lv_iload_n hx hb dL_law_816 rfl (lv_at hl 0 rfl) ?_
  refine lv_iconst (v := 3) hx hb dL_law_817 (by decide) ?_
  refine lv_iadd hx hb dL_law_818 ?_
  refine va_sld hx hb hX hbl hbA hS hi3 dL_law_819 ?_
  refine ivW (As := [.int (xs_ (Int32.toNatClampNeg (nI i + 1))), .int (xs_ (Int32.toNatClampNeg (nI i + 2))), .int (xs_ (Int32.toNatClampNeg (nI i + 3)))]) (rest := [.int ox.1]) (st1 := [.int om.1, .int ox.1]) (is := [61, 65, 66, 70, 71, 72, 73, 74, 75]) (w1 := (wX7_0_4_5_9_10_11_12_13_14 cy ad7 om.2.1 om.2.2.1 (nI P) tcd frt frp deg num om.2.2.2.1 om.2.2.2.2.1 om.2.2.2.2.2.1 om.2.2.2.2.2.2.1 om.2.2.2.2.2.2.2.1 om.2.2.2.2.2.2.2.2)) ⟨hx, hb, hml, hown, hts⟩ hK hN (KX7_way l D cy ad7 thr xs (nI P) tcd frt frp deg num goe tai per lea com see (xs_ (Int32.toNatClampNeg (nI i + 1))) (xs_ (Int32.toNatClampNeg (nI i + 2))) (xs_ (Int32.toNatClampNeg (nI i + 3))) H.size (out := om) e7) (cwV 3 hts gL_law_X7_way rfl rfl rfl (by decide +kernel) ⟨Nat.le_of_ble_eq_true rfl, Nat.le_of_ble_eq_true rfl⟩) (va_recv hK hP (ci := 7) (q0 := 61) rfl rfl) hP hD hS hA P_nil (sepW_nil _) (by decide) rfl rfl rfl hl.1 rfl (Nat.le_of_ble_eq_true rfl) rfl dL_law_820 ⟨by show cells + 0 ≤ 600000; omega, by show slots + 0 ≤ 7302250; omega⟩ (fun H locs hP hD hS => ?_)
  have hPD := PD_mrg (w2 := ((w6A cy ad (nI P) xt ox.2.1 sh sf tr P (P + 1) (nI P) ox.2.2.1 ox.2.2.2.1 ox.2.2.2.2.1 ox.2.2.2.2.2.1 ox.2.2.2.2.2.2.1 ox.2.2.2.2.2.2.2.1 ox.2.2.2.2.2.2.2.2.1 ox.2.2.2.2.2.2.2.2.2.1 a_bt a_cp (nI P) ox.2.2.2.2.2.2.2.2.2.2.1 ox.2.2.2.2.2.2.2.2.2.2.2.1 ox.2.2.2.2.2.2.2.2.2.2.2.2.1 ox.2.2.2.2.2.2.2.2.2.2.2.2.2.1 ox.2.2.2.2.2.2.2.2.2.2.2.2.2.2 (nI P) b_rgs b_sv b_co b_ro b_le b_lst b_mu b_ba b_bt b_cp (nI P) b_nx b_tl b_pe b_en b_pa (nI P) r_mp r_kn r_dd r_rd r_dn r_rn f_fl f_fu f_fw f_li (nI 233) f_nx f_tl f_pe f_en f_pa) ++ ((w7A cy ad7 om.2.1 om.2.2.1 (nI P) tcd frt frp lan man itm deg num mad inn lon om.2.2.2.1 om.2.2.2.2.1 om.2.2.2.2.2.1 om.2.2.2.2.2.2.1 om.2.2.2.2.2.2.2.1 om.2.2.2.2.2.2.2.2 trc cou don nex res quo rou met) ++ ((sgS cy SL sln sia snn svv) ++ (sgP cy PL ppp pca pdg ptd pcc))))) (by decide) rfl hP hD
  have hP := hPD.1
  have hD := hPD.2
  refine lv_icmp_eq (tgt := 1112) hx hb dL_law_823 (by decide) (fun hcmp => ?_) (fun hcmp => ?_)
  · refine W.widen (k := cells + 4) (n := slots + 260) (by omega) (by omega) ?_
    exact kk H locs (fun motive k => k ad ad7 P xt ox.2.1 sh sf tr ox.2.2.1 ox.2.2.2.1 ox.2.2.2.2.1 ox.2.2.2.2.2.1 ox.2.2.2.2.2.2.1 ox.2.2.2.2.2.2.2.1 ox.2.2.2.2.2.2.2.2.1 ox.2.2.2.2.2.2.2.2.2.1 a_bt a_cp ox.2.2.2.2.2.2.2.2.2.2.1 ox.2.2.2.2.2.2.2.2.2.2.2.1 ox.2.2.2.2.2.2.2.2.2.2.2.2.1 ox.2.2.2.2.2.2.2.2.2.2.2.2.2.1 ox.2.2.2.2.2.2.2.2.2.2.2.2.2.2 b_rgs b_sv b_co b_ro b_le b_lst b_mu b_ba b_bt b_cp b_nx b_tl b_pe b_en b_pa r_mp r_kn r_dd r_rd r_dn r_rn f_fl f_fu f_fw f_li f_nx f_tl f_pe f_en f_pa om.2.1 om.2.2.1 tcd frt frp lan man itm deg num mad inn lon om.2.2.2.1 om.2.2.2.2.1 om.2.2.2.2.2.1 om.2.2.2.2.2.2.1 om.2.2.2.2.2.2.2.1 om.2.2.2.2.2.2.2.2 trc cou don nex res quo rou met SL sln sia snn svv PL ppp pca pdg ptd pcc rfl rfl hPR h2.symm hsh hg hsf htr hsv' hsb hrd hfr hP hD) hS
  · exact absurd (h1.symm) hcmp
set_option maxHeartbeats 4000000 in
set_option maxRecDepth 100000 in
theorem lc_ring {p : Program} {l : Launch} {e : Env} {s : State} {m : MethodId} {below : List Frame} {meth : Method} {c : Code} {Q : State → Prop} {D : va_G} {cy : Nat → ClassId} {A : Nat → Prop} {b L i q6 q7 cells slots : Nat} {xs_ : Nat → Int32} {H : Heap} {locs : List Loc} {ls : Array Slot} (hx : p.tables.exec = Jvm.exec) (hb : c.code = cL_law) (hml : c.maxLocals = 4) (hown : s.vm.findClass RL = some m.cls) (hts : ∀ w ∈ wsL_law, w.before #[Value.ref b] s = true) (hX : va_X b L xs_ s s.heap) (hbl : b < s.heap.size) (hbA : ¬ A b) (hA : ∀ q, s.heap.size ≤ q → A q) (hK : va_K D vwCl (TYs cy) s) (hN : NK s) (hi : i + 6 ≤ L) (hL : L ≤ 3073) (hLW : LW D cy A q6 q7 H) (hS : va_S A s.heap H locs) (hl : lv_has ls 4 [(3, .int (nI i)), (2, .ref q7), (1, .ref q6), (0, .ref b)]) (hc : cells + 4 ≤ 600000) (hs : slots + 260 ≤ 7302250) (kk : ∀ (H1 : Heap) (locs1 : List Loc), LW D cy A q6 q7 H1 → va_S A s.heap H1 locs1 → W p l e room_1 s m #[Value.ref b] below meth c H1 locs1 (cells + 4) (slots + 260) Q (F0 m 1112 ls [])) : W p l e room_1 s m #[Value.ref b] below meth c H locs cells slots Q (F0 m 828 ls []) := by
  refine hLW _ ?_
  intro ad ad7 P xt xs sh sf tr a_rgs a_sv a_co a_ro a_le a_lst a_mu a_ba a_bt a_cp a_nx a_tl a_pe a_en a_pa b_rgs b_sv b_co b_ro b_le b_lst b_mu b_ba b_bt b_cp b_nx b_tl b_pe b_en b_pa r_mp r_kn r_dd r_rd r_dn r_rn f_fl f_fu f_fw f_li f_nx f_tl f_pe f_en f_pa thr sta tcd frt frp lan man itm deg num mad inn lon goe tai per lea com see trc cou don nex res quo rou met SL sln sia snn svv PL ppp pca pdg ptd pcc hq6 hq7 hPR hst hsh hg hsf htr hsv hsb hrd hfr hP hD
  subst hq6 hq7 hst
  have hP1 : 1 < P := Nat.lt_of_lt_of_le (by omega) hPR.1
  have hP2 : P < 200 := hPR.2.1
  have hi1 : vp_in (nI i + 1) L := by
    rw [show (1 : Int32) = nI 1 from rfl, nI_add]
    exact in_n (by omega) (by omega)
  have hi2 : vp_in (nI i + 2) L := by
    rw [show (2 : Int32) = nI 2 from rfl, nI_add]
    exact in_n (by omega) (by omega)
  have hi3 : vp_in (nI i + 3) L := by
    rw [show (3 : Int32) = nI 3 from rfl, nI_add]
    exact in_n (by omega) (by omega)
  have hi4 : vp_in (nI i + 4) L := by
    rw [show (4 : Int32) = nI 4 from rfl, nI_add]
    exact in_n (by omega) (by omega)
  have hi5 : vp_in (nI i + 5) L := by
    rw [show (5 : Int32) = nI 5 from rfl, nI_add]
    exact in_n (by omega) (by omega)
  obtain ⟨om, ox, e7, e6, h1, h2, h3, hsv'⟩ := op_ring (pca := pca) (sta := xs) (goe := goe) (tai := tai) (per := per) (lea := lea) (com := com) (see := see) (en := a_en) (pa := a_pa) hP1 hP2 hg hsf hsv (xs_ (Int32.toNatClampNeg (nI i + 1))) (xs_ (Int32.toNatClampNeg (nI i + 2))) (xs_ (Int32.toNatClampNeg (nI i + 3)))
  refine lv_aload_n hx hb dL_law_828 rfl (lv_at hl 2 rfl) ?_
  refine lv_aload_n hx hb dL_law_829 rfl (lv_at hl 3 rfl) ?_
  refine lv_iload_n hx hb dL_law_830 rfl (lv_at hl 0 rfl) ?_
  refine lv_iconst (v := 1) hx hb dL_law_831 (by decide) ?_
  refine lv_iadd hx hb dL_law_832 ?_
  refine va_sld hx hb hX hbl hbA hS hi1 dL_law_833 ?_
  refine lv_aload_n hx hb dL_law_834 rfl (lv_at hl 3 rfl) ?_
  refine lv_iload_n hx hb dL_law_835 rfl (lv_at hl 0 rfl) ?_
  refine lv_iconst (v := 2) hx hb dL_law_836 (by decide) ?_
  refine lv_iadd hx hb dL_law_837 ?_
  refine va_sld hx hb hX hbl hbA hS hi2 dL_law_838 ?_
  refine lv_aload_n hx hb dL_law_839 rfl (lv_at hl 3 rfl) ?_
  refine lv_iload_n hx hb dL_law_840 rfl (lv_at hl 0 rfl) ?_
  refine lv_iconst (v := 3) hx hb dL_law_841 (by decide) ?_
  refine lv_iadd hx hb dL_law_842 ?_
  refine va_sld hx hb hX hbl hbA hS hi3 dL_law_843 ?_
  refine ivW (As := [.int (xs_ (Int32.toNatClampNeg (nI i + 1))), .int (xs_ (Int32.toNatClampNeg (nI i + 2))), .int (xs_ (Int32.toNatClampNeg (nI i + 3)))]) (rest := []) (st1 := [.int ox.1]) (is := [0, 2, 4, 5, 6, 7, 8, 9, 10, 13, 14, 15, 16, 17, 18]) (w1 := (wX6_0_2_4_5_6_7_8_9_10_13_14_15_16_17_18 cy ad (nI P) xt ox.2.1 sf P (nI P) ox.2.2.1 ox.2.2.2.1 ox.2.2.2.2.1 ox.2.2.2.2.2.1 ox.2.2.2.2.2.2.1 ox.2.2.2.2.2.2.2.1 ox.2.2.2.2.2.2.2.2.1 ox.2.2.2.2.2.2.2.2.2.1 (nI P) ox.2.2.2.2.2.2.2.2.2.2.1 ox.2.2.2.2.2.2.2.2.2.2.2.1 ox.2.2.2.2.2.2.2.2.2.2.2.2.1 ox.2.2.2.2.2.2.2.2.2.2.2.2.2.1 ox.2.2.2.2.2.2.2.2.2.2.2.2.2.2)) ⟨hx, hb, hml, hown, hts⟩ hK hN (KX6_ring l D cy ad (nI P) xt xs sf P (nI P) a_rgs a_sv a_co a_ro a_le a_lst a_mu a_ba (nI P) a_nx a_tl a_pe a_en a_pa PL ppp pca pdg ptd pcc (xs_ (Int32.toNatClampNeg (nI i + 1))) (xs_ (Int32.toNatClampNeg (nI i + 2))) (xs_ (Int32.toNatClampNeg (nI i + 3))) H.size (out := ox) e6) (cwV 3 hts gL_law_X6_ring rfl rfl rfl (by decide +kernel) ⟨Nat.le_of_ble_eq_true rfl, Nat.le_of_ble_eq_true rfl⟩) (va_recv hK hP (ci := 6) (q0 := 0) rfl rfl) hP hD hS hA (P_right (P_right (P_right hP))) (sepE (N := 61) (is := [0, 2, 4, 5, 6, 7, 8, 9, 10, 13, 14, 15, 16, 17, 18]) hD rfl rfl (by decide) (fun q h => List.mem_append_right _ (List.mem_append_right _ h))) (by decide) rfl rfl rfl hl.1 rfl (Nat.le_of_ble_eq_true rfl) rfl dL_law_844 ⟨by show cells + 0 ≤ 600000; omega, by show slots + 0 ≤ 7302250; omega⟩ (fun H locs hP hD hS => ?_)
  have hPD := PD_mrg (w2 := ((w6A cy ad (nI P) xt ox.2.1 sh sf tr P (P + 1) (nI P) ox.2.2.1 ox.2.2.2.1 ox.2.2.2.2.1 ox.2.2.2.2.2.1 ox.2.2.2.2.2.2.1 ox.2.2.2.2.2.2.2.1 ox.2.2.2.2.2.2.2.2.1 ox.2.2.2.2.2.2.2.2.2.1 a_bt a_cp (nI P) ox.2.2.2.2.2.2.2.2.2.2.1 ox.2.2.2.2.2.2.2.2.2.2.2.1 ox.2.2.2.2.2.2.2.2.2.2.2.2.1 ox.2.2.2.2.2.2.2.2.2.2.2.2.2.1 ox.2.2.2.2.2.2.2.2.2.2.2.2.2.2 (nI P) b_rgs b_sv b_co b_ro b_le b_lst b_mu b_ba b_bt b_cp (nI P) b_nx b_tl b_pe b_en b_pa (nI P) r_mp r_kn r_dd r_rd r_dn r_rn f_fl f_fu f_fw f_li (nI 233) f_nx f_tl f_pe f_en f_pa) ++ ((w7A cy ad7 thr xs (nI P) tcd frt frp lan man itm deg num mad inn lon goe tai per lea com see trc cou don nex res quo rou met) ++ ((sgS cy SL sln sia snn svv) ++ (sgP cy PL ppp pca pdg ptd pcc))))) (by decide) rfl hP hD
  have hP := hPD.1
  have hD := hPD.2
  refine lv_aload_n hx hb dL_law_847 rfl (lv_at hl 1 rfl) ?_
  refine lv_aload_n hx hb dL_law_848 rfl (lv_at hl 3 rfl) ?_
  refine lv_iload_n hx hb dL_law_849 rfl (lv_at hl 0 rfl) ?_
  refine lv_iconst (v := 1) hx hb dL_law_850 (by decide) ?_
  refine lv_iadd hx hb dL_law_851 ?_
  refine va_sld hx hb hX hbl hbA hS hi1 dL_law_852 ?_
  refine lv_aload_n hx hb dL_law_853 rfl (lv_at hl 3 rfl) ?_
  refine lv_iload_n hx hb dL_law_854 rfl (lv_at hl 0 rfl) ?_
  refine lv_iconst (v := 2) hx hb dL_law_855 (by decide) ?_
  refine lv_iadd hx hb dL_law_856 ?_
  refine va_sld hx hb hX hbl hbA hS hi2 dL_law_857 ?_
  refine lv_aload_n hx hb dL_law_858 rfl (lv_at hl 3 rfl) ?_
  refine lv_iload_n hx hb dL_law_859 rfl (lv_at hl 0 rfl) ?_
  refine lv_iconst (v := 3) hx hb dL_law_860 (by decide) ?_
  refine lv_iadd hx hb dL_law_861 ?_
  refine va_sld hx hb hX hbl hbA hS hi3 dL_law_862 ?_
  refine ivW (As := [.int (xs_ (Int32.toNatClampNeg (nI i + 1))), .int (xs_ (Int32.toNatClampNeg (nI i + 2))), .int (xs_ (Int32.toNatClampNeg (nI i + 3)))]) (rest := [.int ox.1]) (st1 := [.int om.1, .int ox.1]) (is := [61, 65, 66, 70, 71, 72, 73, 74, 75]) (w1 := (wX7_0_4_5_9_10_11_12_13_14 cy ad7 om.2.1 om.2.2.1 (nI P) tcd frt frp deg num om.2.2.2.1 om.2.2.2.2.1 om.2.2.2.2.2.1 om.2.2.2.2.2.2.1 om.2.2.2.2.2.2.2.1 om.2.2.2.2.2.2.2.2)) ⟨hx, hb, hml, hown, hts⟩ hK hN (KX7_ring l D cy ad7 thr xs (nI P) tcd frt frp deg num goe tai per lea com see (xs_ (Int32.toNatClampNeg (nI i + 1))) (xs_ (Int32.toNatClampNeg (nI i + 2))) (xs_ (Int32.toNatClampNeg (nI i + 3))) H.size (out := om) e7) (cwV 3 hts gL_law_X7_ring rfl rfl rfl (by decide +kernel) ⟨Nat.le_of_ble_eq_true rfl, Nat.le_of_ble_eq_true rfl⟩) (va_recv hK hP (ci := 7) (q0 := 61) rfl rfl) hP hD hS hA P_nil (sepW_nil _) (by decide) rfl rfl rfl hl.1 rfl (Nat.le_of_ble_eq_true rfl) rfl dL_law_863 ⟨by show cells + 0 ≤ 600000; omega, by show slots + 0 ≤ 7302250; omega⟩ (fun H locs hP hD hS => ?_)
  have hPD := PD_mrg (w2 := ((w6A cy ad (nI P) xt ox.2.1 sh sf tr P (P + 1) (nI P) ox.2.2.1 ox.2.2.2.1 ox.2.2.2.2.1 ox.2.2.2.2.2.1 ox.2.2.2.2.2.2.1 ox.2.2.2.2.2.2.2.1 ox.2.2.2.2.2.2.2.2.1 ox.2.2.2.2.2.2.2.2.2.1 a_bt a_cp (nI P) ox.2.2.2.2.2.2.2.2.2.2.1 ox.2.2.2.2.2.2.2.2.2.2.2.1 ox.2.2.2.2.2.2.2.2.2.2.2.2.1 ox.2.2.2.2.2.2.2.2.2.2.2.2.2.1 ox.2.2.2.2.2.2.2.2.2.2.2.2.2.2 (nI P) b_rgs b_sv b_co b_ro b_le b_lst b_mu b_ba b_bt b_cp (nI P) b_nx b_tl b_pe b_en b_pa (nI P) r_mp r_kn r_dd r_rd r_dn r_rn f_fl f_fu f_fw f_li (nI 233) f_nx f_tl f_pe f_en f_pa) ++ ((w7A cy ad7 om.2.1 om.2.2.1 (nI P) tcd frt frp lan man itm deg num mad inn lon om.2.2.2.1 om.2.2.2.2.1 om.2.2.2.2.2.1 om.2.2.2.2.2.2.1 om.2.2.2.2.2.2.2.1 om.2.2.2.2.2.2.2.2 trc cou don nex res quo rou met) ++ ((sgS cy SL sln sia snn svv) ++ (sgP cy PL ppp pca pdg ptd pcc))))) (by decide) rfl hP hD
  have hP := hPD.1
  have hD := hPD.2
  refine lv_icmp_eq (tgt := 1112) hx hb dL_law_866 (by decide) (fun hcmp => ?_) (fun hcmp => ?_)
  · refine W.widen (k := cells + 4) (n := slots + 260) (by omega) (by omega) ?_
    exact kk H locs (fun motive k => k ad ad7 P xt ox.2.1 sh sf tr ox.2.2.1 ox.2.2.2.1 ox.2.2.2.2.1 ox.2.2.2.2.2.1 ox.2.2.2.2.2.2.1 ox.2.2.2.2.2.2.2.1 ox.2.2.2.2.2.2.2.2.1 ox.2.2.2.2.2.2.2.2.2.1 a_bt a_cp ox.2.2.2.2.2.2.2.2.2.2.1 ox.2.2.2.2.2.2.2.2.2.2.2.1 ox.2.2.2.2.2.2.2.2.2.2.2.2.1 ox.2.2.2.2.2.2.2.2.2.2.2.2.2.1 ox.2.2.2.2.2.2.2.2.2.2.2.2.2.2 b_rgs b_sv b_co b_ro b_le b_lst b_mu b_ba b_bt b_cp b_nx b_tl b_pe b_en b_pa r_mp r_kn r_dd r_rd r_dn r_rn f_fl f_fu f_fw f_li f_nx f_tl f_pe f_en f_pa om.2.1 om.2.2.1 tcd frt frp lan man itm deg num mad inn lon om.2.2.2.1 om.2.2.2.2.1 om.2.2.2.2.2.1 om.2.2.2.2.2.2.1 om.2.2.2.2.2.2.2.1 om.2.2.2.2.2.2.2.2 trc cou don nex res quo rou met SL sln sia snn svv PL ppp pca pdg ptd pcc rfl rfl hPR h2.symm hsh hg hsf htr hsv' hsb hrd hfr hP hD) hS
  · exact absurd (h1.symm) hcmp
set_option maxHeartbeats 4000000 in
set_option maxRecDepth 100000 in
theorem lc_all {p : Program} {l : Launch} {e : Env} {s : State} {m : MethodId} {below : List Frame} {meth : Method} {c : Code} {Q : State → Prop} {D : va_G} {cy : Nat → ClassId} {A : Nat → Prop} {b L i q6 q7 cells slots : Nat} {xs_ : Nat → Int32} {H : Heap} {locs : List Loc} {ls : Array Slot} (hx : p.tables.exec = Jvm.exec) (hb : c.code = cL_law) (hml : c.maxLocals = 4) (hown : s.vm.findClass RL = some m.cls) (hts : ∀ w ∈ wsL_law, w.before #[Value.ref b] s = true) (hX : va_X b L xs_ s s.heap) (hbl : b < s.heap.size) (hbA : ¬ A b) (hA : ∀ q, s.heap.size ≤ q → A q) (hK : va_K D vwCl (TYs cy) s) (hN : NK s) (hi : i + 6 ≤ L) (hL : L ≤ 3073) (hLW : LW D cy A q6 q7 H) (hS : va_S A s.heap H locs) (hl : lv_has ls 4 [(3, .int (nI i)), (2, .ref q7), (1, .ref q6), (0, .ref b)]) (hc : cells + 4 ≤ 600000) (hs : slots + 260 ≤ 7302250) (kk : ∀ (H1 : Heap) (locs1 : List Loc), LW D cy A q6 q7 H1 → va_S A s.heap H1 locs1 → W p l e room_1 s m #[Value.ref b] below meth c H1 locs1 (cells + 4) (slots + 260) Q (F0 m 1112 ls [])) : W p l e room_1 s m #[Value.ref b] below meth c H locs cells slots Q (F0 m 871 ls []) := by
  refine hLW _ ?_
  intro ad ad7 P xt xs sh sf tr a_rgs a_sv a_co a_ro a_le a_lst a_mu a_ba a_bt a_cp a_nx a_tl a_pe a_en a_pa b_rgs b_sv b_co b_ro b_le b_lst b_mu b_ba b_bt b_cp b_nx b_tl b_pe b_en b_pa r_mp r_kn r_dd r_rd r_dn r_rn f_fl f_fu f_fw f_li f_nx f_tl f_pe f_en f_pa thr sta tcd frt frp lan man itm deg num mad inn lon goe tai per lea com see trc cou don nex res quo rou met SL sln sia snn svv PL ppp pca pdg ptd pcc hq6 hq7 hPR hst hsh hg hsf htr hsv hsb hrd hfr hP hD
  subst hq6 hq7 hst
  have hP1 : 1 < P := Nat.lt_of_lt_of_le (by omega) hPR.1
  have hP2 : P < 200 := hPR.2.1
  have hi1 : vp_in (nI i + 1) L := by
    rw [show (1 : Int32) = nI 1 from rfl, nI_add]
    exact in_n (by omega) (by omega)
  have hi2 : vp_in (nI i + 2) L := by
    rw [show (2 : Int32) = nI 2 from rfl, nI_add]
    exact in_n (by omega) (by omega)
  have hi3 : vp_in (nI i + 3) L := by
    rw [show (3 : Int32) = nI 3 from rfl, nI_add]
    exact in_n (by omega) (by omega)
  have hi4 : vp_in (nI i + 4) L := by
    rw [show (4 : Int32) = nI 4 from rfl, nI_add]
    exact in_n (by omega) (by omega)
  have hi5 : vp_in (nI i + 5) L := by
    rw [show (5 : Int32) = nI 5 from rfl, nI_add]
    exact in_n (by omega) (by omega)
  obtain ⟨om, ox, e7, e6, h1, h2, h3, hsv'⟩ := op_all (pca := pca) (sta := xs) (goe := goe) (tai := tai) (per := per) (lea := lea) (com := com) (see := see) (en := a_en) (pa := a_pa) hP1 hP2 hg hsf hsv (xs_ (Int32.toNatClampNeg (nI i + 1))) (xs_ (Int32.toNatClampNeg (nI i + 2)))
  refine lv_aload_n hx hb dL_law_871 rfl (lv_at hl 2 rfl) ?_
  refine lv_aload_n hx hb dL_law_872 rfl (lv_at hl 3 rfl) ?_
  refine lv_iload_n hx hb dL_law_873 rfl (lv_at hl 0 rfl) ?_
  refine lv_iconst (v := 1) hx hb dL_law_874 (by decide) ?_
  refine lv_iadd hx hb dL_law_875 ?_
  refine va_sld hx hb hX hbl hbA hS hi1 dL_law_876 ?_
  refine lv_aload_n hx hb dL_law_877 rfl (lv_at hl 3 rfl) ?_
  refine lv_iload_n hx hb dL_law_878 rfl (lv_at hl 0 rfl) ?_
  refine lv_iconst (v := 2) hx hb dL_law_879 (by decide) ?_
  refine lv_iadd hx hb dL_law_880 ?_
  refine va_sld hx hb hX hbl hbA hS hi2 dL_law_881 ?_
  refine ivW (As := [.int (xs_ (Int32.toNatClampNeg (nI i + 1))), .int (xs_ (Int32.toNatClampNeg (nI i + 2)))]) (rest := []) (st1 := [.int ox.1]) (is := [0, 2, 4, 5, 6, 7, 8, 9, 10, 13, 14, 15, 16, 17, 18]) (w1 := (wX6_0_2_4_5_6_7_8_9_10_13_14_15_16_17_18 cy ad (nI P) xt ox.2.1 sf P (nI P) ox.2.2.1 ox.2.2.2.1 ox.2.2.2.2.1 ox.2.2.2.2.2.1 ox.2.2.2.2.2.2.1 ox.2.2.2.2.2.2.2.1 ox.2.2.2.2.2.2.2.2.1 ox.2.2.2.2.2.2.2.2.2.1 (nI P) ox.2.2.2.2.2.2.2.2.2.2.1 ox.2.2.2.2.2.2.2.2.2.2.2.1 ox.2.2.2.2.2.2.2.2.2.2.2.2.1 ox.2.2.2.2.2.2.2.2.2.2.2.2.2.1 ox.2.2.2.2.2.2.2.2.2.2.2.2.2.2)) ⟨hx, hb, hml, hown, hts⟩ hK hN (KX6_all l D cy ad (nI P) xt xs sf P (nI P) a_rgs a_sv a_co a_ro a_le a_lst a_mu a_ba (nI P) a_nx a_tl a_pe a_en a_pa PL ppp pca pdg ptd pcc (xs_ (Int32.toNatClampNeg (nI i + 1))) (xs_ (Int32.toNatClampNeg (nI i + 2))) H.size (out := ox) e6) (cwV 2 hts gL_law_X6_all rfl rfl rfl (by decide +kernel) ⟨Nat.le_of_ble_eq_true rfl, Nat.le_of_ble_eq_true rfl⟩) (va_recv hK hP (ci := 6) (q0 := 0) rfl rfl) hP hD hS hA (P_right (P_right (P_right hP))) (sepE (N := 61) (is := [0, 2, 4, 5, 6, 7, 8, 9, 10, 13, 14, 15, 16, 17, 18]) hD rfl rfl (by decide) (fun q h => List.mem_append_right _ (List.mem_append_right _ h))) (by decide) rfl rfl rfl hl.1 rfl (Nat.le_of_ble_eq_true rfl) rfl dL_law_882 ⟨by show cells + 0 ≤ 600000; omega, by show slots + 0 ≤ 7302250; omega⟩ (fun H locs hP hD hS => ?_)
  have hPD := PD_mrg (w2 := ((w6A cy ad (nI P) xt ox.2.1 sh sf tr P (P + 1) (nI P) ox.2.2.1 ox.2.2.2.1 ox.2.2.2.2.1 ox.2.2.2.2.2.1 ox.2.2.2.2.2.2.1 ox.2.2.2.2.2.2.2.1 ox.2.2.2.2.2.2.2.2.1 ox.2.2.2.2.2.2.2.2.2.1 a_bt a_cp (nI P) ox.2.2.2.2.2.2.2.2.2.2.1 ox.2.2.2.2.2.2.2.2.2.2.2.1 ox.2.2.2.2.2.2.2.2.2.2.2.2.1 ox.2.2.2.2.2.2.2.2.2.2.2.2.2.1 ox.2.2.2.2.2.2.2.2.2.2.2.2.2.2 (nI P) b_rgs b_sv b_co b_ro b_le b_lst b_mu b_ba b_bt b_cp (nI P) b_nx b_tl b_pe b_en b_pa (nI P) r_mp r_kn r_dd r_rd r_dn r_rn f_fl f_fu f_fw f_li (nI 233) f_nx f_tl f_pe f_en f_pa) ++ ((w7A cy ad7 thr xs (nI P) tcd frt frp lan man itm deg num mad inn lon goe tai per lea com see trc cou don nex res quo rou met) ++ ((sgS cy SL sln sia snn svv) ++ (sgP cy PL ppp pca pdg ptd pcc))))) (by decide) rfl hP hD
  have hP := hPD.1
  have hD := hPD.2
  refine lv_aload_n hx hb dL_law_885 rfl (lv_at hl 1 rfl) ?_
  refine lv_aload_n hx hb dL_law_886 rfl (lv_at hl 3 rfl) ?_
  refine lv_iload_n hx hb dL_law_887 rfl (lv_at hl 0 rfl) ?_
  refine lv_iconst (v := 1) hx hb dL_law_888 (by decide) ?_
  refine lv_iadd hx hb dL_law_889 ?_
  refine va_sld hx hb hX hbl hbA hS hi1 dL_law_890 ?_
  refine lv_aload_n hx hb dL_law_891 rfl (lv_at hl 3 rfl) ?_
  refine lv_iload_n hx hb dL_law_892 rfl (lv_at hl 0 rfl) ?_
  refine lv_iconst (v := 2) hx hb dL_law_893 (by decide) ?_
  refine lv_iadd hx hb dL_law_894 ?_
  refine va_sld hx hb hX hbl hbA hS hi2 dL_law_895 ?_
  refine ivW (As := [.int (xs_ (Int32.toNatClampNeg (nI i + 1))), .int (xs_ (Int32.toNatClampNeg (nI i + 2)))]) (rest := [.int ox.1]) (st1 := [.int om.1, .int ox.1]) (is := [61, 65, 66, 70, 71, 72, 73, 74, 75]) (w1 := (wX7_0_4_5_9_10_11_12_13_14 cy ad7 om.2.1 om.2.2.1 (nI P) tcd frt frp deg num om.2.2.2.1 om.2.2.2.2.1 om.2.2.2.2.2.1 om.2.2.2.2.2.2.1 om.2.2.2.2.2.2.2.1 om.2.2.2.2.2.2.2.2)) ⟨hx, hb, hml, hown, hts⟩ hK hN (KX7_all l D cy ad7 thr xs (nI P) tcd frt frp deg num goe tai per lea com see (xs_ (Int32.toNatClampNeg (nI i + 1))) (xs_ (Int32.toNatClampNeg (nI i + 2))) H.size (out := om) e7) (cwV 2 hts gL_law_X7_all rfl rfl rfl (by decide +kernel) ⟨Nat.le_of_ble_eq_true rfl, Nat.le_of_ble_eq_true rfl⟩) (va_recv hK hP (ci := 7) (q0 := 61) rfl rfl) hP hD hS hA P_nil (sepW_nil _) (by decide) rfl rfl rfl hl.1 rfl (Nat.le_of_ble_eq_true rfl) rfl dL_law_896 ⟨by show cells + 0 ≤ 600000; omega, by show slots + 0 ≤ 7302250; omega⟩ (fun H locs hP hD hS => ?_)
  have hPD := PD_mrg (w2 := ((w6A cy ad (nI P) xt ox.2.1 sh sf tr P (P + 1) (nI P) ox.2.2.1 ox.2.2.2.1 ox.2.2.2.2.1 ox.2.2.2.2.2.1 ox.2.2.2.2.2.2.1 ox.2.2.2.2.2.2.2.1 ox.2.2.2.2.2.2.2.2.1 ox.2.2.2.2.2.2.2.2.2.1 a_bt a_cp (nI P) ox.2.2.2.2.2.2.2.2.2.2.1 ox.2.2.2.2.2.2.2.2.2.2.2.1 ox.2.2.2.2.2.2.2.2.2.2.2.2.1 ox.2.2.2.2.2.2.2.2.2.2.2.2.2.1 ox.2.2.2.2.2.2.2.2.2.2.2.2.2.2 (nI P) b_rgs b_sv b_co b_ro b_le b_lst b_mu b_ba b_bt b_cp (nI P) b_nx b_tl b_pe b_en b_pa (nI P) r_mp r_kn r_dd r_rd r_dn r_rn f_fl f_fu f_fw f_li (nI 233) f_nx f_tl f_pe f_en f_pa) ++ ((w7A cy ad7 om.2.1 om.2.2.1 (nI P) tcd frt frp lan man itm deg num mad inn lon om.2.2.2.1 om.2.2.2.2.1 om.2.2.2.2.2.1 om.2.2.2.2.2.2.1 om.2.2.2.2.2.2.2.1 om.2.2.2.2.2.2.2.2 trc cou don nex res quo rou met) ++ ((sgS cy SL sln sia snn svv) ++ (sgP cy PL ppp pca pdg ptd pcc))))) (by decide) rfl hP hD
  have hP := hPD.1
  have hD := hPD.2
  refine lv_icmp_eq (tgt := 1112) hx hb dL_law_899 (by decide) (fun hcmp => ?_) (fun hcmp => ?_)
  · refine W.widen (k := cells + 4) (n := slots + 260) (by omega) (by omega) ?_
    exact kk H locs (fun motive k => k ad ad7 P xt ox.2.1 sh sf tr ox.2.2.1 ox.2.2.2.1 ox.2.2.2.2.1 ox.2.2.2.2.2.1 ox.2.2.2.2.2.2.1 ox.2.2.2.2.2.2.2.1 ox.2.2.2.2.2.2.2.2.1 ox.2.2.2.2.2.2.2.2.2.1 a_bt a_cp ox.2.2.2.2.2.2.2.2.2.2.1 ox.2.2.2.2.2.2.2.2.2.2.2.1 ox.2.2.2.2.2.2.2.2.2.2.2.2.1 ox.2.2.2.2.2.2.2.2.2.2.2.2.2.1 ox.2.2.2.2.2.2.2.2.2.2.2.2.2.2 b_rgs b_sv b_co b_ro b_le b_lst b_mu b_ba b_bt b_cp b_nx b_tl b_pe b_en b_pa r_mp r_kn r_dd r_rd r_dn r_rn f_fl f_fu f_fw f_li f_nx f_tl f_pe f_en f_pa om.2.1 om.2.2.1 tcd frt frp lan man itm deg num mad inn lon om.2.2.2.1 om.2.2.2.2.1 om.2.2.2.2.2.1 om.2.2.2.2.2.2.1 om.2.2.2.2.2.2.2.1 om.2.2.2.2.2.2.2.2 trc cou don nex res quo rou met SL sln sia snn svv PL ppp pca pdg ptd pcc rfl rfl hPR h2.symm hsh hg hsf htr hsv' hsb hrd hfr hP hD) hS
  · exact absurd (h1.symm) hcmp
set_option maxHeartbeats 4000000 in
set_option maxRecDepth 100000 in
theorem lc_alike {p : Program} {l : Launch} {e : Env} {s : State} {m : MethodId} {below : List Frame} {meth : Method} {c : Code} {Q : State → Prop} {D : va_G} {cy : Nat → ClassId} {A : Nat → Prop} {b L i q6 q7 cells slots : Nat} {xs_ : Nat → Int32} {H : Heap} {locs : List Loc} {ls : Array Slot} (hx : p.tables.exec = Jvm.exec) (hb : c.code = cL_law) (hml : c.maxLocals = 4) (hown : s.vm.findClass RL = some m.cls) (hts : ∀ w ∈ wsL_law, w.before #[Value.ref b] s = true) (hX : va_X b L xs_ s s.heap) (hbl : b < s.heap.size) (hbA : ¬ A b) (hA : ∀ q, s.heap.size ≤ q → A q) (hK : va_K D vwCl (TYs cy) s) (hN : NK s) (hi : i + 6 ≤ L) (hL : L ≤ 3073) (hLW : LW D cy A q6 q7 H) (hS : va_S A s.heap H locs) (hl : lv_has ls 4 [(3, .int (nI i)), (2, .ref q7), (1, .ref q6), (0, .ref b)]) (hc : cells + 4 ≤ 600000) (hs : slots + 260 ≤ 7302250) (kk : ∀ (H1 : Heap) (locs1 : List Loc), LW D cy A q6 q7 H1 → va_S A s.heap H1 locs1 → W p l e room_1 s m #[Value.ref b] below meth c H1 locs1 (cells + 4) (slots + 260) Q (F0 m 1112 ls [])) : W p l e room_1 s m #[Value.ref b] below meth c H locs cells slots Q (F0 m 904 ls []) := by
  refine hLW _ ?_
  intro ad ad7 P xt xs sh sf tr a_rgs a_sv a_co a_ro a_le a_lst a_mu a_ba a_bt a_cp a_nx a_tl a_pe a_en a_pa b_rgs b_sv b_co b_ro b_le b_lst b_mu b_ba b_bt b_cp b_nx b_tl b_pe b_en b_pa r_mp r_kn r_dd r_rd r_dn r_rn f_fl f_fu f_fw f_li f_nx f_tl f_pe f_en f_pa thr sta tcd frt frp lan man itm deg num mad inn lon goe tai per lea com see trc cou don nex res quo rou met SL sln sia snn svv PL ppp pca pdg ptd pcc hq6 hq7 hPR hst hsh hg hsf htr hsv hsb hrd hfr hP hD
  subst hq6 hq7 hst
  have hP1 : 1 < P := Nat.lt_of_lt_of_le (by omega) hPR.1
  have hP2 : P < 200 := hPR.2.1
  have hi1 : vp_in (nI i + 1) L := by
    rw [show (1 : Int32) = nI 1 from rfl, nI_add]
    exact in_n (by omega) (by omega)
  have hi2 : vp_in (nI i + 2) L := by
    rw [show (2 : Int32) = nI 2 from rfl, nI_add]
    exact in_n (by omega) (by omega)
  have hi3 : vp_in (nI i + 3) L := by
    rw [show (3 : Int32) = nI 3 from rfl, nI_add]
    exact in_n (by omega) (by omega)
  have hi4 : vp_in (nI i + 4) L := by
    rw [show (4 : Int32) = nI 4 from rfl, nI_add]
    exact in_n (by omega) (by omega)
  have hi5 : vp_in (nI i + 5) L := by
    rw [show (5 : Int32) = nI 5 from rfl, nI_add]
    exact in_n (by omega) (by omega)
  obtain ⟨a, st, goe', tai', per', lea', com', see', cou', rgs', sv', co', ro', le', lst', mu', ba', bt', cp', nx', tl', pe', en', pa', rgb', svb', co2', ro2', le2', lst2', mu2', ba2', nx2', tl2', pe2', en2', pa2', e7, e6, hsv', hsb'⟩ := op_alike (pca := pca) (sta := xs) (goe := goe) (tai := tai) (per := per) (lea := lea) (com := com) (see := see) (cou := cou) (bt := a_bt) (cp := a_cp) (en := a_en) (pa := a_pa) (en2 := b_en) (pa2 := b_pa) hP1 hP2 hg hsf hsv hsb (xs_ (Int32.toNatClampNeg (nI i + 1))) (xs_ (Int32.toNatClampNeg (nI i + 2)))
  refine lv_aload_n hx hb dL_law_904 rfl (lv_at hl 2 rfl) ?_
  refine lv_aload_n hx hb dL_law_905 rfl (lv_at hl 3 rfl) ?_
  refine lv_iload_n hx hb dL_law_906 rfl (lv_at hl 0 rfl) ?_
  refine lv_iconst (v := 1) hx hb dL_law_907 (by decide) ?_
  refine lv_iadd hx hb dL_law_908 ?_
  refine va_sld hx hb hX hbl hbA hS hi1 dL_law_909 ?_
  refine lv_aload_n hx hb dL_law_910 rfl (lv_at hl 3 rfl) ?_
  refine lv_iload_n hx hb dL_law_911 rfl (lv_at hl 0 rfl) ?_
  refine lv_iconst (v := 2) hx hb dL_law_912 (by decide) ?_
  refine lv_iadd hx hb dL_law_913 ?_
  refine va_sld hx hb hX hbl hbA hS hi2 dL_law_914 ?_
  refine ivW (As := [.int (xs_ (Int32.toNatClampNeg (nI i + 1))), .int (xs_ (Int32.toNatClampNeg (nI i + 2)))]) (rest := []) (st1 := [.int a]) (is := [0, 2, 4, 5, 6, 7, 8, 9, 10, 11, 12, 13, 14, 15, 16, 17, 18, 19, 20, 21, 22, 23, 24, 25, 28, 29, 30, 31, 32, 33]) (w1 := (wX6_0_2_4_5_6_7_8_9_10_11_12_13_14_15_16_17_18_19_20_21_22_23_24_25_28_29_30_31_32_33 cy ad (nI P) xt st sf P (P + 1) (nI P) rgs' sv' co' ro' le' lst' mu' ba' bt' cp' (nI P) nx' tl' pe' en' pa' (nI P) rgb' svb' co2' ro2' le2' lst2' mu2' ba2' (nI P) nx2' tl2' pe2' en2' pa2')) ⟨hx, hb, hml, hown, hts⟩ hK hN (KX6_alike l D cy ad (nI P) xt xs sf P (P + 1) (nI P) a_rgs a_sv a_co a_ro a_le a_lst a_mu a_ba a_bt a_cp (nI P) a_nx a_tl a_pe a_en a_pa (nI P) b_rgs b_sv b_co b_ro b_le b_lst b_mu b_ba (nI P) b_nx b_tl b_pe b_en b_pa PL ppp pca pdg ptd pcc (xs_ (Int32.toNatClampNeg (nI i + 1))) (xs_ (Int32.toNatClampNeg (nI i + 2))) H.size (out := (a, st, rgs', sv', co', ro', le', lst', mu', ba', bt', cp', nx', tl', pe', en', pa', rgb', svb', co2', ro2', le2', lst2', mu2', ba2', nx2', tl2', pe2', en2', pa2')) e6) (cwV 2 hts gL_law_X6_alike rfl rfl rfl (by decide +kernel) ⟨Nat.le_of_ble_eq_true rfl, Nat.le_of_ble_eq_true rfl⟩) (va_recv hK hP (ci := 6) (q0 := 0) rfl rfl) hP hD hS hA (P_right (P_right (P_right hP))) (sepE (N := 61) (is := [0, 2, 4, 5, 6, 7, 8, 9, 10, 11, 12, 13, 14, 15, 16, 17, 18, 19, 20, 21, 22, 23, 24, 25, 28, 29, 30, 31, 32, 33]) hD rfl rfl (by decide) (fun q h => List.mem_append_right _ (List.mem_append_right _ h))) (by decide) rfl rfl rfl hl.1 rfl (Nat.le_of_ble_eq_true rfl) rfl dL_law_915 ⟨by show cells + 0 ≤ 600000; omega, by show slots + 0 ≤ 7302250; omega⟩ (fun H locs hP hD hS => ?_)
  have hPD := PD_mrg (w2 := ((w6A cy ad (nI P) xt st sh sf tr P (P + 1) (nI P) rgs' sv' co' ro' le' lst' mu' ba' bt' cp' (nI P) nx' tl' pe' en' pa' (nI P) rgb' svb' co2' ro2' le2' lst2' mu2' ba2' b_bt b_cp (nI P) nx2' tl2' pe2' en2' pa2' (nI P) r_mp r_kn r_dd r_rd r_dn r_rn f_fl f_fu f_fw f_li (nI 233) f_nx f_tl f_pe f_en f_pa) ++ ((w7A cy ad7 thr xs (nI P) tcd frt frp lan man itm deg num mad inn lon goe tai per lea com see trc cou don nex res quo rou met) ++ ((sgS cy SL sln sia snn svv) ++ (sgP cy PL ppp pca pdg ptd pcc))))) (by decide) rfl hP hD
  have hP := hPD.1
  have hD := hPD.2
  refine lv_aload_n hx hb dL_law_918 rfl (lv_at hl 1 rfl) ?_
  refine lv_aload_n hx hb dL_law_919 rfl (lv_at hl 3 rfl) ?_
  refine lv_iload_n hx hb dL_law_920 rfl (lv_at hl 0 rfl) ?_
  refine lv_iconst (v := 1) hx hb dL_law_921 (by decide) ?_
  refine lv_iadd hx hb dL_law_922 ?_
  refine va_sld hx hb hX hbl hbA hS hi1 dL_law_923 ?_
  refine lv_aload_n hx hb dL_law_924 rfl (lv_at hl 3 rfl) ?_
  refine lv_iload_n hx hb dL_law_925 rfl (lv_at hl 0 rfl) ?_
  refine lv_iconst (v := 2) hx hb dL_law_926 (by decide) ?_
  refine lv_iadd hx hb dL_law_927 ?_
  refine va_sld hx hb hX hbl hbA hS hi2 dL_law_928 ?_
  refine ivW (As := [.int (xs_ (Int32.toNatClampNeg (nI i + 1))), .int (xs_ (Int32.toNatClampNeg (nI i + 2)))]) (rest := [.int a]) (st1 := [.int a, .int a]) (is := [61, 65, 66, 70, 71, 72, 73, 74, 75, 77]) (w1 := (wX7_0_4_5_9_10_11_12_13_14_16 cy ad7 0 st (nI P) tcd frt frp deg num goe' tai' per' lea' com' see' cou')) ⟨hx, hb, hml, hown, hts⟩ hK hN (KX7_alike l D cy ad7 thr xs (nI P) tcd frt frp deg num goe tai per lea com see cou (xs_ (Int32.toNatClampNeg (nI i + 1))) (xs_ (Int32.toNatClampNeg (nI i + 2))) H.size (out := (a, 0, st, goe', tai', per', lea', com', see', cou')) e7) (cwV 2 hts gL_law_X7_alike rfl rfl rfl (by decide +kernel) ⟨Nat.le_of_ble_eq_true rfl, Nat.le_of_ble_eq_true rfl⟩) (va_recv hK hP (ci := 7) (q0 := 61) rfl rfl) hP hD hS hA P_nil (sepW_nil _) (by decide) rfl rfl rfl hl.1 rfl (Nat.le_of_ble_eq_true rfl) rfl dL_law_929 ⟨by show cells + 0 ≤ 600000; omega, by show slots + 0 ≤ 7302250; omega⟩ (fun H locs hP hD hS => ?_)
  have hPD := PD_mrg (w2 := ((w6A cy ad (nI P) xt st sh sf tr P (P + 1) (nI P) rgs' sv' co' ro' le' lst' mu' ba' bt' cp' (nI P) nx' tl' pe' en' pa' (nI P) rgb' svb' co2' ro2' le2' lst2' mu2' ba2' b_bt b_cp (nI P) nx2' tl2' pe2' en2' pa2' (nI P) r_mp r_kn r_dd r_rd r_dn r_rn f_fl f_fu f_fw f_li (nI 233) f_nx f_tl f_pe f_en f_pa) ++ ((w7A cy ad7 0 st (nI P) tcd frt frp lan man itm deg num mad inn lon goe' tai' per' lea' com' see' trc cou' don nex res quo rou met) ++ ((sgS cy SL sln sia snn svv) ++ (sgP cy PL ppp pca pdg ptd pcc))))) (by decide) rfl hP hD
  have hP := hPD.1
  have hD := hPD.2
  refine lv_icmp_eq (tgt := 1112) hx hb dL_law_932 (by decide) (fun hcmp => ?_) (fun hcmp => ?_)
  · refine W.widen (k := cells + 4) (n := slots + 260) (by omega) (by omega) ?_
    exact kk H locs (fun motive k => k ad ad7 P xt st sh sf tr rgs' sv' co' ro' le' lst' mu' ba' bt' cp' nx' tl' pe' en' pa' rgb' svb' co2' ro2' le2' lst2' mu2' ba2' b_bt b_cp nx2' tl2' pe2' en2' pa2' r_mp r_kn r_dd r_rd r_dn r_rn f_fl f_fu f_fw f_li f_nx f_tl f_pe f_en f_pa 0 st tcd frt frp lan man itm deg num mad inn lon goe' tai' per' lea' com' see' trc cou' don nex res quo rou met SL sln sia snn svv PL ppp pca pdg ptd pcc rfl rfl hPR rfl hsh hg hsf htr hsv' hsb' hrd hfr hP hD) hS
  · exact absurd (rfl) hcmp
set_option maxHeartbeats 4000000 in
set_option maxRecDepth 100000 in
theorem lc_round {p : Program} {l : Launch} {e : Env} {s : State} {m : MethodId} {below : List Frame} {meth : Method} {c : Code} {Q : State → Prop} {D : va_G} {cy : Nat → ClassId} {A : Nat → Prop} {b L i q6 q7 cells slots : Nat} {xs_ : Nat → Int32} {H : Heap} {locs : List Loc} {ls : Array Slot} (hx : p.tables.exec = Jvm.exec) (hb : c.code = cL_law) (hml : c.maxLocals = 4) (hown : s.vm.findClass RL = some m.cls) (hts : ∀ w ∈ wsL_law, w.before #[Value.ref b] s = true) (hX : va_X b L xs_ s s.heap) (hbl : b < s.heap.size) (hbA : ¬ A b) (hA : ∀ q, s.heap.size ≤ q → A q) (hK : va_K D vwCl (TYs cy) s) (hN : NK s) (hi : i + 6 ≤ L) (hL : L ≤ 3073) (hLW : LW D cy A q6 q7 H) (hS : va_S A s.heap H locs) (hl : lv_has ls 4 [(3, .int (nI i)), (2, .ref q7), (1, .ref q6), (0, .ref b)]) (hc : cells + 4 ≤ 600000) (hs : slots + 260 ≤ 7302250) (kk : ∀ (H1 : Heap) (locs1 : List Loc), LW D cy A q6 q7 H1 → va_S A s.heap H1 locs1 → W p l e room_1 s m #[Value.ref b] below meth c H1 locs1 (cells + 4) (slots + 260) Q (F0 m 1112 ls [])) : W p l e room_1 s m #[Value.ref b] below meth c H locs cells slots Q (F0 m 937 ls []) := by
  refine hLW _ ?_
  intro ad ad7 P xt xs sh sf tr a_rgs a_sv a_co a_ro a_le a_lst a_mu a_ba a_bt a_cp a_nx a_tl a_pe a_en a_pa b_rgs b_sv b_co b_ro b_le b_lst b_mu b_ba b_bt b_cp b_nx b_tl b_pe b_en b_pa r_mp r_kn r_dd r_rd r_dn r_rn f_fl f_fu f_fw f_li f_nx f_tl f_pe f_en f_pa thr sta tcd frt frp lan man itm deg num mad inn lon goe tai per lea com see trc cou don nex res quo rou met SL sln sia snn svv PL ppp pca pdg ptd pcc hq6 hq7 hPR hst hsh hg hsf htr hsv hsb hrd hfr hP hD
  subst hq6 hq7 hst
  have hP1 : 1 < P := Nat.lt_of_lt_of_le (by omega) hPR.1
  have hP2 : P < 200 := hPR.2.1
  have hi1 : vp_in (nI i + 1) L := by
    rw [show (1 : Int32) = nI 1 from rfl, nI_add]
    exact in_n (by omega) (by omega)
  have hi2 : vp_in (nI i + 2) L := by
    rw [show (2 : Int32) = nI 2 from rfl, nI_add]
    exact in_n (by omega) (by omega)
  have hi3 : vp_in (nI i + 3) L := by
    rw [show (3 : Int32) = nI 3 from rfl, nI_add]
    exact in_n (by omega) (by omega)
  have hi4 : vp_in (nI i + 4) L := by
    rw [show (4 : Int32) = nI 4 from rfl, nI_add]
    exact in_n (by omega) (by omega)
  have hi5 : vp_in (nI i + 5) L := by
    rw [show (5 : Int32) = nI 5 from rfl, nI_add]
    exact in_n (by omega) (by omega)
  obtain ⟨a, st, don', nex', res', quo', rou', mp', kn', dd', rd', dn', rn', e7, e6, hrd'⟩ := op_round (pca := pca) (sta := xs) (don := don) (nex := nex) (res := res) (quo_ := quo) (rou := rou) hPR hsf hg hrd (xs_ (Int32.toNatClampNeg (nI i + 1))) (xs_ (Int32.toNatClampNeg (nI i + 2))) (xs_ (Int32.toNatClampNeg (nI i + 3)))
  refine lv_aload_n hx hb dL_law_937 rfl (lv_at hl 2 rfl) ?_
  refine lv_aload_n hx hb dL_law_938 rfl (lv_at hl 3 rfl) ?_
  refine lv_iload_n hx hb dL_law_939 rfl (lv_at hl 0 rfl) ?_
  refine lv_iconst (v := 1) hx hb dL_law_940 (by decide) ?_
  refine lv_iadd hx hb dL_law_941 ?_
  refine va_sld hx hb hX hbl hbA hS hi1 dL_law_942 ?_
  refine lv_aload_n hx hb dL_law_943 rfl (lv_at hl 3 rfl) ?_
  refine lv_iload_n hx hb dL_law_944 rfl (lv_at hl 0 rfl) ?_
  refine lv_iconst (v := 2) hx hb dL_law_945 (by decide) ?_
  refine lv_iadd hx hb dL_law_946 ?_
  refine va_sld hx hb hX hbl hbA hS hi2 dL_law_947 ?_
  refine lv_aload_n hx hb dL_law_948 rfl (lv_at hl 3 rfl) ?_
  refine lv_iload_n hx hb dL_law_949 rfl (lv_at hl 0 rfl) ?_
  refine lv_iconst (v := 3) hx hb dL_law_950 (by decide) ?_
  refine lv_iadd hx hb dL_law_951 ?_
  refine va_sld hx hb hX hbl hbA hS hi3 dL_law_952 ?_
  refine ivW (As := [.int (xs_ (Int32.toNatClampNeg (nI i + 1))), .int (xs_ (Int32.toNatClampNeg (nI i + 2))), .int (xs_ (Int32.toNatClampNeg (nI i + 3)))]) (rest := []) (st1 := [.int a]) (is := [0, 2, 34, 35, 36, 37, 38, 39, 40, 41, 42, 43, 44, 45, 46, 47, 48, 49, 50, 51, 52]) (w1 := (wX6_0_2_34_35_36_37_38_39_40_41_42_43_44_45_46_47_48_49_50_51_52 cy ad (nI P) xt st sf (nI P) mp' kn' dd' rd' dn' rn')) ⟨hx, hb, hml, hown, hts⟩ hK hN (KX6_round l D cy ad (nI P) xt xs sf (nI P) r_mp r_kn r_dd r_rd r_dn r_rn PL ppp pca pdg ptd pcc (xs_ (Int32.toNatClampNeg (nI i + 1))) (xs_ (Int32.toNatClampNeg (nI i + 2))) (xs_ (Int32.toNatClampNeg (nI i + 3))) H.size (out := (a, st, mp', kn', dd', rd', dn', rn')) e6) (cwV 3 hts gL_law_X6_round rfl rfl rfl (by decide +kernel) ⟨Nat.le_of_ble_eq_true rfl, Nat.le_of_ble_eq_true rfl⟩) (va_recv hK hP (ci := 6) (q0 := 0) rfl rfl) hP hD hS hA (P_right (P_right (P_right hP))) (sepE (N := 61) (is := [0, 2, 34, 35, 36, 37, 38, 39, 40, 41, 42, 43, 44, 45, 46, 47, 48, 49, 50, 51, 52]) hD rfl rfl (by decide) (fun q h => List.mem_append_right _ (List.mem_append_right _ h))) (by decide) rfl rfl rfl hl.1 rfl (Nat.le_of_ble_eq_true rfl) rfl dL_law_953 ⟨by show cells + 0 ≤ 600000; omega, by show slots + 0 ≤ 7302250; omega⟩ (fun H locs hP hD hS => ?_)
  have hPD := PD_mrg (w2 := ((w6A cy ad (nI P) xt st sh sf tr P (P + 1) (nI P) a_rgs a_sv a_co a_ro a_le a_lst a_mu a_ba a_bt a_cp (nI P) a_nx a_tl a_pe a_en a_pa (nI P) b_rgs b_sv b_co b_ro b_le b_lst b_mu b_ba b_bt b_cp (nI P) b_nx b_tl b_pe b_en b_pa (nI P) mp' kn' dd' rd' dn' rn' f_fl f_fu f_fw f_li (nI 233) f_nx f_tl f_pe f_en f_pa) ++ ((w7A cy ad7 thr xs (nI P) tcd frt frp lan man itm deg num mad inn lon goe tai per lea com see trc cou don nex res quo rou met) ++ ((sgS cy SL sln sia snn svv) ++ (sgP cy PL ppp pca pdg ptd pcc))))) (by decide) rfl hP hD
  have hP := hPD.1
  have hD := hPD.2
  refine lv_aload_n hx hb dL_law_956 rfl (lv_at hl 1 rfl) ?_
  refine lv_aload_n hx hb dL_law_957 rfl (lv_at hl 3 rfl) ?_
  refine lv_iload_n hx hb dL_law_958 rfl (lv_at hl 0 rfl) ?_
  refine lv_iconst (v := 1) hx hb dL_law_959 (by decide) ?_
  refine lv_iadd hx hb dL_law_960 ?_
  refine va_sld hx hb hX hbl hbA hS hi1 dL_law_961 ?_
  refine lv_aload_n hx hb dL_law_962 rfl (lv_at hl 3 rfl) ?_
  refine lv_iload_n hx hb dL_law_963 rfl (lv_at hl 0 rfl) ?_
  refine lv_iconst (v := 2) hx hb dL_law_964 (by decide) ?_
  refine lv_iadd hx hb dL_law_965 ?_
  refine va_sld hx hb hX hbl hbA hS hi2 dL_law_966 ?_
  refine lv_aload_n hx hb dL_law_967 rfl (lv_at hl 3 rfl) ?_
  refine lv_iload_n hx hb dL_law_968 rfl (lv_at hl 0 rfl) ?_
  refine lv_iconst (v := 3) hx hb dL_law_969 (by decide) ?_
  refine lv_iadd hx hb dL_law_970 ?_
  refine va_sld hx hb hX hbl hbA hS hi3 dL_law_971 ?_
  refine ivW (As := [.int (xs_ (Int32.toNatClampNeg (nI i + 1))), .int (xs_ (Int32.toNatClampNeg (nI i + 2))), .int (xs_ (Int32.toNatClampNeg (nI i + 3)))]) (rest := [.int a]) (st1 := [.int a, .int a]) (is := [61, 65, 66, 78, 79, 80, 81, 82]) (w1 := (wX7_0_4_5_17_18_19_20_21 cy ad7 0 st (nI P) tcd frt frp deg num don' nex' res' quo' rou')) ⟨hx, hb, hml, hown, hts⟩ hK hN (KX7_round l D cy ad7 thr xs (nI P) tcd frt frp deg num don nex res quo rou (xs_ (Int32.toNatClampNeg (nI i + 1))) (xs_ (Int32.toNatClampNeg (nI i + 2))) (xs_ (Int32.toNatClampNeg (nI i + 3))) H.size (out := (a, 0, st, don', nex', res', quo', rou')) e7) (cwV 3 hts gL_law_X7_round rfl rfl rfl (by decide +kernel) ⟨Nat.le_of_ble_eq_true rfl, Nat.le_of_ble_eq_true rfl⟩) (va_recv hK hP (ci := 7) (q0 := 61) rfl rfl) hP hD hS hA P_nil (sepW_nil _) (by decide) rfl rfl rfl hl.1 rfl (Nat.le_of_ble_eq_true rfl) rfl dL_law_972 ⟨by show cells + 0 ≤ 600000; omega, by show slots + 0 ≤ 7302250; omega⟩ (fun H locs hP hD hS => ?_)
  have hPD := PD_mrg (w2 := ((w6A cy ad (nI P) xt st sh sf tr P (P + 1) (nI P) a_rgs a_sv a_co a_ro a_le a_lst a_mu a_ba a_bt a_cp (nI P) a_nx a_tl a_pe a_en a_pa (nI P) b_rgs b_sv b_co b_ro b_le b_lst b_mu b_ba b_bt b_cp (nI P) b_nx b_tl b_pe b_en b_pa (nI P) mp' kn' dd' rd' dn' rn' f_fl f_fu f_fw f_li (nI 233) f_nx f_tl f_pe f_en f_pa) ++ ((w7A cy ad7 0 st (nI P) tcd frt frp lan man itm deg num mad inn lon goe tai per lea com see trc cou don' nex' res' quo' rou' met) ++ ((sgS cy SL sln sia snn svv) ++ (sgP cy PL ppp pca pdg ptd pcc))))) (by decide) rfl hP hD
  have hP := hPD.1
  have hD := hPD.2
  refine lv_icmp_eq (tgt := 1112) hx hb dL_law_975 (by decide) (fun hcmp => ?_) (fun hcmp => ?_)
  · refine W.widen (k := cells + 4) (n := slots + 260) (by omega) (by omega) ?_
    exact kk H locs (fun motive k => k ad ad7 P xt st sh sf tr a_rgs a_sv a_co a_ro a_le a_lst a_mu a_ba a_bt a_cp a_nx a_tl a_pe a_en a_pa b_rgs b_sv b_co b_ro b_le b_lst b_mu b_ba b_bt b_cp b_nx b_tl b_pe b_en b_pa mp' kn' dd' rd' dn' rn' f_fl f_fu f_fw f_li f_nx f_tl f_pe f_en f_pa 0 st tcd frt frp lan man itm deg num mad inn lon goe tai per lea com see trc cou don' nex' res' quo' rou' met SL sln sia snn svv PL ppp pca pdg ptd pcc rfl rfl hPR rfl hsh hg hsf htr hsv hsb hrd' hfr hP hD) hS
  · exact absurd (rfl) hcmp
set_option maxHeartbeats 4000000 in
set_option maxRecDepth 100000 in
theorem lc_fraction {p : Program} {l : Launch} {e : Env} {s : State} {m : MethodId} {below : List Frame} {meth : Method} {c : Code} {Q : State → Prop} {D : va_G} {cy : Nat → ClassId} {A : Nat → Prop} {b L i q6 q7 cells slots : Nat} {xs_ : Nat → Int32} {H : Heap} {locs : List Loc} {ls : Array Slot} (hx : p.tables.exec = Jvm.exec) (hb : c.code = cL_law) (hml : c.maxLocals = 4) (hown : s.vm.findClass RL = some m.cls) (hts : ∀ w ∈ wsL_law, w.before #[Value.ref b] s = true) (hX : va_X b L xs_ s s.heap) (hbl : b < s.heap.size) (hbA : ¬ A b) (hA : ∀ q, s.heap.size ≤ q → A q) (hK : va_K D vwCl (TYs cy) s) (hN : NK s) (hi : i + 6 ≤ L) (hL : L ≤ 3073) (hLW : LW D cy A q6 q7 H) (hS : va_S A s.heap H locs) (hl : lv_has ls 4 [(3, .int (nI i)), (2, .ref q7), (1, .ref q6), (0, .ref b)]) (hc : cells + 4 ≤ 600000) (hs : slots + 260 ≤ 7302250) (kk : ∀ (H1 : Heap) (locs1 : List Loc), LW D cy A q6 q7 H1 → va_S A s.heap H1 locs1 → W p l e room_1 s m #[Value.ref b] below meth c H1 locs1 (cells + 4) (slots + 260) Q (F0 m 1112 ls [])) : W p l e room_1 s m #[Value.ref b] below meth c H locs cells slots Q (F0 m 980 ls []) := by
  refine hLW _ ?_
  intro ad ad7 P xt xs sh sf tr a_rgs a_sv a_co a_ro a_le a_lst a_mu a_ba a_bt a_cp a_nx a_tl a_pe a_en a_pa b_rgs b_sv b_co b_ro b_le b_lst b_mu b_ba b_bt b_cp b_nx b_tl b_pe b_en b_pa r_mp r_kn r_dd r_rd r_dn r_rn f_fl f_fu f_fw f_li f_nx f_tl f_pe f_en f_pa thr sta tcd frt frp lan man itm deg num mad inn lon goe tai per lea com see trc cou don nex res quo rou met SL sln sia snn svv PL ppp pca pdg ptd pcc hq6 hq7 hPR hst hsh hg hsf htr hsv hsb hrd hfr hP hD
  subst hq6 hq7 hst
  have hP1 : 1 < P := Nat.lt_of_lt_of_le (by omega) hPR.1
  have hP2 : P < 200 := hPR.2.1
  have hi1 : vp_in (nI i + 1) L := by
    rw [show (1 : Int32) = nI 1 from rfl, nI_add]
    exact in_n (by omega) (by omega)
  have hi2 : vp_in (nI i + 2) L := by
    rw [show (2 : Int32) = nI 2 from rfl, nI_add]
    exact in_n (by omega) (by omega)
  have hi3 : vp_in (nI i + 3) L := by
    rw [show (3 : Int32) = nI 3 from rfl, nI_add]
    exact in_n (by omega) (by omega)
  have hi4 : vp_in (nI i + 4) L := by
    rw [show (4 : Int32) = nI 4 from rfl, nI_add]
    exact in_n (by omega) (by omega)
  have hi5 : vp_in (nI i + 5) L := by
    rw [show (5 : Int32) = nI 5 from rfl, nI_add]
    exact in_n (by omega) (by omega)
  obtain ⟨a, frt', frp', met', fl', fu', fw', li', nx', tl', pe', en', pa', e7, e6, hfr'⟩ := op_fraction (nx := f_nx) (en := f_en) (pa := f_pa) (frt := frt) (frp := frp) (met := met) hfr (xs_ (Int32.toNatClampNeg (nI i + 1))) (xs_ (Int32.toNatClampNeg (nI i + 2))) (xs_ (Int32.toNatClampNeg (nI i + 3))) (xs_ (Int32.toNatClampNeg (nI i + 4)))
  refine lv_aload_n hx hb dL_law_980 rfl (lv_at hl 2 rfl) ?_
  refine lv_aload_n hx hb dL_law_981 rfl (lv_at hl 3 rfl) ?_
  refine lv_iload_n hx hb dL_law_982 rfl (lv_at hl 0 rfl) ?_
  refine lv_iconst (v := 1) hx hb dL_law_983 (by decide) ?_
  refine lv_iadd hx hb dL_law_984 ?_
  refine va_sld hx hb hX hbl hbA hS hi1 dL_law_985 ?_
  refine lv_aload_n hx hb dL_law_986 rfl (lv_at hl 3 rfl) ?_
  refine lv_iload_n hx hb dL_law_987 rfl (lv_at hl 0 rfl) ?_
  refine lv_iconst (v := 2) hx hb dL_law_988 (by decide) ?_
  refine lv_iadd hx hb dL_law_989 ?_
  refine va_sld hx hb hX hbl hbA hS hi2 dL_law_990 ?_
  refine lv_aload_n hx hb dL_law_991 rfl (lv_at hl 3 rfl) ?_
  refine lv_iload_n hx hb dL_law_992 rfl (lv_at hl 0 rfl) ?_
  refine lv_iconst (v := 3) hx hb dL_law_993 (by decide) ?_
  refine lv_iadd hx hb dL_law_994 ?_
  refine va_sld hx hb hX hbl hbA hS hi3 dL_law_995 ?_
  refine lv_aload_n hx hb dL_law_996 rfl (lv_at hl 3 rfl) ?_
  refine lv_iload_n hx hb dL_law_997 rfl (lv_at hl 0 rfl) ?_
  refine lv_iconst (v := 4) hx hb dL_law_998 (by decide) ?_
  refine lv_iadd hx hb dL_law_999 ?_
  refine va_sld hx hb hX hbl hbA hS hi4 dL_law_1000 ?_
  refine ivW (As := [.int (xs_ (Int32.toNatClampNeg (nI i + 1))), .int (xs_ (Int32.toNatClampNeg (nI i + 2))), .int (xs_ (Int32.toNatClampNeg (nI i + 3))), .int (xs_ (Int32.toNatClampNeg (nI i + 4)))]) (rest := []) (st1 := [.int a]) (is := [0, 53, 54, 55, 56, 57, 58, 59, 60]) (w1 := (wX6_0_53_54_55_56_57_58_59_60 cy ad (nI P) xt xs fl' fu' fw' li' (nI 233) nx' tl' pe' en' pa')) ⟨hx, hb, hml, hown, hts⟩ hK hN (KX6_fraction l D cy ad (nI P) xt xs f_fl f_fu f_fw f_li (nI 233) f_nx f_tl f_pe f_en f_pa (xs_ (Int32.toNatClampNeg (nI i + 1))) (xs_ (Int32.toNatClampNeg (nI i + 2))) (xs_ (Int32.toNatClampNeg (nI i + 3))) (xs_ (Int32.toNatClampNeg (nI i + 4))) H.size (out := (a, fl', fu', fw', li', nx', tl', pe', en', pa')) e6) (cwV 4 hts gL_law_X6_fraction rfl rfl rfl (by decide +kernel) ⟨Nat.le_of_ble_eq_true rfl, Nat.le_of_ble_eq_true rfl⟩) (va_recv hK hP (ci := 6) (q0 := 0) rfl rfl) hP hD hS hA P_nil (sepW_nil _) (by decide) rfl rfl rfl hl.1 rfl (Nat.le_of_ble_eq_true rfl) rfl dL_law_1001 ⟨by show cells + 0 ≤ 600000; omega, by show slots + 0 ≤ 7302250; omega⟩ (fun H locs hP hD hS => ?_)
  have hPD := PD_mrg (w2 := ((w6A cy ad (nI P) xt xs sh sf tr P (P + 1) (nI P) a_rgs a_sv a_co a_ro a_le a_lst a_mu a_ba a_bt a_cp (nI P) a_nx a_tl a_pe a_en a_pa (nI P) b_rgs b_sv b_co b_ro b_le b_lst b_mu b_ba b_bt b_cp (nI P) b_nx b_tl b_pe b_en b_pa (nI P) r_mp r_kn r_dd r_rd r_dn r_rn fl' fu' fw' li' (nI 233) nx' tl' pe' en' pa') ++ ((w7A cy ad7 thr xs (nI P) tcd frt frp lan man itm deg num mad inn lon goe tai per lea com see trc cou don nex res quo rou met) ++ ((sgS cy SL sln sia snn svv) ++ (sgP cy PL ppp pca pdg ptd pcc))))) (by decide) rfl hP hD
  have hP := hPD.1
  have hD := hPD.2
  refine lv_aload_n hx hb dL_law_1004 rfl (lv_at hl 1 rfl) ?_
  refine lv_aload_n hx hb dL_law_1005 rfl (lv_at hl 3 rfl) ?_
  refine lv_iload_n hx hb dL_law_1006 rfl (lv_at hl 0 rfl) ?_
  refine lv_iconst (v := 1) hx hb dL_law_1007 (by decide) ?_
  refine lv_iadd hx hb dL_law_1008 ?_
  refine va_sld hx hb hX hbl hbA hS hi1 dL_law_1009 ?_
  refine lv_aload_n hx hb dL_law_1010 rfl (lv_at hl 3 rfl) ?_
  refine lv_iload_n hx hb dL_law_1011 rfl (lv_at hl 0 rfl) ?_
  refine lv_iconst (v := 2) hx hb dL_law_1012 (by decide) ?_
  refine lv_iadd hx hb dL_law_1013 ?_
  refine va_sld hx hb hX hbl hbA hS hi2 dL_law_1014 ?_
  refine lv_aload_n hx hb dL_law_1015 rfl (lv_at hl 3 rfl) ?_
  refine lv_iload_n hx hb dL_law_1016 rfl (lv_at hl 0 rfl) ?_
  refine lv_iconst (v := 3) hx hb dL_law_1017 (by decide) ?_
  refine lv_iadd hx hb dL_law_1018 ?_
  refine va_sld hx hb hX hbl hbA hS hi3 dL_law_1019 ?_
  refine lv_aload_n hx hb dL_law_1020 rfl (lv_at hl 3 rfl) ?_
  refine lv_iload_n hx hb dL_law_1021 rfl (lv_at hl 0 rfl) ?_
  refine lv_iconst (v := 4) hx hb dL_law_1022 (by decide) ?_
  refine lv_iadd hx hb dL_law_1023 ?_
  refine va_sld hx hb hX hbl hbA hS hi4 dL_law_1024 ?_
  refine ivW (As := [.int (xs_ (Int32.toNatClampNeg (nI i + 1))), .int (xs_ (Int32.toNatClampNeg (nI i + 2))), .int (xs_ (Int32.toNatClampNeg (nI i + 3))), .int (xs_ (Int32.toNatClampNeg (nI i + 4)))]) (rest := [.int a]) (st1 := [.int a, .int a]) (is := [61, 83]) (w1 := (wX7_0_22 cy ad7 0 xs (nI P) tcd frt' frp' met')) ⟨hx, hb, hml, hown, hts⟩ hK hN (KX7_fraction l D cy ad7 thr xs (nI P) tcd frt frp met (xs_ (Int32.toNatClampNeg (nI i + 1))) (xs_ (Int32.toNatClampNeg (nI i + 2))) (xs_ (Int32.toNatClampNeg (nI i + 3))) (xs_ (Int32.toNatClampNeg (nI i + 4))) H.size (out := (a, 0, frt', frp', met')) e7) (cwV 4 hts gL_law_X7_fraction rfl rfl rfl (by decide +kernel) ⟨Nat.le_of_ble_eq_true rfl, Nat.le_of_ble_eq_true rfl⟩) (va_recv hK hP (ci := 7) (q0 := 61) rfl rfl) hP hD hS hA P_nil (sepW_nil _) (by decide) rfl rfl rfl hl.1 rfl (Nat.le_of_ble_eq_true rfl) rfl dL_law_1025 ⟨by show cells + 0 ≤ 600000; omega, by show slots + 0 ≤ 7302250; omega⟩ (fun H locs hP hD hS => ?_)
  have hP : va_P D vwCl ((w6A cy ad (nI P) xt xs sh sf tr P (P + 1) (nI P) a_rgs a_sv a_co a_ro a_le a_lst a_mu a_ba a_bt a_cp (nI P) a_nx a_tl a_pe a_en a_pa (nI P) b_rgs b_sv b_co b_ro b_le b_lst b_mu b_ba b_bt b_cp (nI P) b_nx b_tl b_pe b_en b_pa (nI P) r_mp r_kn r_dd r_rd r_dn r_rn fl' fu' fw' li' (nI 233) nx' tl' pe' en' pa') ++ ((w7A cy ad7 0 xs (nI P) tcd frt' frp' lan man itm deg num mad inn lon goe tai per lea com see trc cou don nex res quo rou met') ++ ((sgS cy SL sln sia snn svv) ++ (sgP cy PL ppp pca pdg ptd pcc)))) H := hP
  have hD : va_D A ((w6A cy ad (nI P) xt xs sh sf tr P (P + 1) (nI P) a_rgs a_sv a_co a_ro a_le a_lst a_mu a_ba a_bt a_cp (nI P) a_nx a_tl a_pe a_en a_pa (nI P) b_rgs b_sv b_co b_ro b_le b_lst b_mu b_ba b_bt b_cp (nI P) b_nx b_tl b_pe b_en b_pa (nI P) r_mp r_kn r_dd r_rd r_dn r_rn fl' fu' fw' li' (nI 233) nx' tl' pe' en' pa') ++ ((w7A cy ad7 0 xs (nI P) tcd frt' frp' lan man itm deg num mad inn lon goe tai per lea com see trc cou don nex res quo rou met') ++ ((sgS cy SL sln sia snn svv) ++ (sgP cy PL ppp pca pdg ptd pcc)))) := hD
  refine lv_icmp_eq (tgt := 1112) hx hb dL_law_1028 (by decide) (fun hcmp => ?_) (fun hcmp => ?_)
  · refine W.widen (k := cells + 4) (n := slots + 260) (by omega) (by omega) ?_
    exact kk H locs (fun motive k => k ad ad7 P xt xs sh sf tr a_rgs a_sv a_co a_ro a_le a_lst a_mu a_ba a_bt a_cp a_nx a_tl a_pe a_en a_pa b_rgs b_sv b_co b_ro b_le b_lst b_mu b_ba b_bt b_cp b_nx b_tl b_pe b_en b_pa r_mp r_kn r_dd r_rd r_dn r_rn fl' fu' fw' li' nx' tl' pe' en' pa' 0 xs tcd frt' frp' lan man itm deg num mad inn lon goe tai per lea com see trc cou don nex res quo rou met' SL sln sia snn svv PL ppp pca pdg ptd pcc rfl rfl hPR rfl hsh hg hsf htr hsv hsb hrd hfr' hP hD) hS
  · exact absurd (rfl) hcmp
set_option maxHeartbeats 4000000 in
set_option maxRecDepth 100000 in
theorem lc_next {p : Program} {l : Launch} {e : Env} {s : State} {m : MethodId} {below : List Frame} {meth : Method} {c : Code} {Q : State → Prop} {D : va_G} {cy : Nat → ClassId} {A : Nat → Prop} {b L i q6 q7 cells slots : Nat} {xs_ : Nat → Int32} {H : Heap} {locs : List Loc} {ls : Array Slot} (hx : p.tables.exec = Jvm.exec) (hb : c.code = cL_law) (hml : c.maxLocals = 4) (hown : s.vm.findClass RL = some m.cls) (hts : ∀ w ∈ wsL_law, w.before #[Value.ref b] s = true) (hX : va_X b L xs_ s s.heap) (hbl : b < s.heap.size) (hbA : ¬ A b) (hA : ∀ q, s.heap.size ≤ q → A q) (hK : va_K D vwCl (TYs cy) s) (hN : NK s) (hi : i + 6 ≤ L) (hL : L ≤ 3073) (hLW : LW D cy A q6 q7 H) (hS : va_S A s.heap H locs) (hl : lv_has ls 4 [(3, .int (nI i)), (2, .ref q7), (1, .ref q6), (0, .ref b)]) (hc : cells + 4 ≤ 600000) (hs : slots + 260 ≤ 7302250) (kk : ∀ (H1 : Heap) (locs1 : List Loc), LW D cy A q6 q7 H1 → va_S A s.heap H1 locs1 → W p l e room_1 s m #[Value.ref b] below meth c H1 locs1 (cells + 4) (slots + 260) Q (F0 m 1112 ls [])) : W p l e room_1 s m #[Value.ref b] below meth c H locs cells slots Q (F0 m 1033 ls []) := by
  refine hLW _ ?_
  intro ad ad7 P xt xs sh sf tr a_rgs a_sv a_co a_ro a_le a_lst a_mu a_ba a_bt a_cp a_nx a_tl a_pe a_en a_pa b_rgs b_sv b_co b_ro b_le b_lst b_mu b_ba b_bt b_cp b_nx b_tl b_pe b_en b_pa r_mp r_kn r_dd r_rd r_dn r_rn f_fl f_fu f_fw f_li f_nx f_tl f_pe f_en f_pa thr sta tcd frt frp lan man itm deg num mad inn lon goe tai per lea com see trc cou don nex res quo rou met SL sln sia snn svv PL ppp pca pdg ptd pcc hq6 hq7 hPR hst hsh hg hsf htr hsv hsb hrd hfr hP hD
  subst hq6 hq7 hst
  have hP1 : 1 < P := Nat.lt_of_lt_of_le (by omega) hPR.1
  have hP2 : P < 200 := hPR.2.1
  have hi1 : vp_in (nI i + 1) L := by
    rw [show (1 : Int32) = nI 1 from rfl, nI_add]
    exact in_n (by omega) (by omega)
  have hi2 : vp_in (nI i + 2) L := by
    rw [show (2 : Int32) = nI 2 from rfl, nI_add]
    exact in_n (by omega) (by omega)
  have hi3 : vp_in (nI i + 3) L := by
    rw [show (3 : Int32) = nI 3 from rfl, nI_add]
    exact in_n (by omega) (by omega)
  have hi4 : vp_in (nI i + 4) L := by
    rw [show (4 : Int32) = nI 4 from rfl, nI_add]
    exact in_n (by omega) (by omega)
  have hi5 : vp_in (nI i + 5) L := by
    rw [show (5 : Int32) = nI 5 from rfl, nI_add]
    exact in_n (by omega) (by omega)
  obtain ⟨a, e7, e6⟩ := op_next (xs_ (Int32.toNatClampNeg (nI i + 1))) (xs_ (Int32.toNatClampNeg (nI i + 2))) (xs_ (Int32.toNatClampNeg (nI i + 3)))
  refine lv_aload_n hx hb dL_law_1033 rfl (lv_at hl 2 rfl) ?_
  refine lv_aload_n hx hb dL_law_1034 rfl (lv_at hl 3 rfl) ?_
  refine lv_iload_n hx hb dL_law_1035 rfl (lv_at hl 0 rfl) ?_
  refine lv_iconst (v := 1) hx hb dL_law_1036 (by decide) ?_
  refine lv_iadd hx hb dL_law_1037 ?_
  refine va_sld hx hb hX hbl hbA hS hi1 dL_law_1038 ?_
  refine lv_aload_n hx hb dL_law_1039 rfl (lv_at hl 3 rfl) ?_
  refine lv_iload_n hx hb dL_law_1040 rfl (lv_at hl 0 rfl) ?_
  refine lv_iconst (v := 2) hx hb dL_law_1041 (by decide) ?_
  refine lv_iadd hx hb dL_law_1042 ?_
  refine va_sld hx hb hX hbl hbA hS hi2 dL_law_1043 ?_
  refine lv_aload_n hx hb dL_law_1044 rfl (lv_at hl 3 rfl) ?_
  refine lv_iload_n hx hb dL_law_1045 rfl (lv_at hl 0 rfl) ?_
  refine lv_iconst (v := 3) hx hb dL_law_1046 (by decide) ?_
  refine lv_iadd hx hb dL_law_1047 ?_
  refine va_sld hx hb hX hbl hbA hS hi3 dL_law_1048 ?_
  refine ivR (As := [.int (xs_ (Int32.toNatClampNeg (nI i + 1))), .int (xs_ (Int32.toNatClampNeg (nI i + 2))), .int (xs_ (Int32.toNatClampNeg (nI i + 3)))]) (rest := []) (st1 := [.int a]) ⟨hx, hb, hml, hown, hts⟩ hK hN (KX6_next l D cy ad  (xs_ (Int32.toNatClampNeg (nI i + 1))) (xs_ (Int32.toNatClampNeg (nI i + 2))) (xs_ (Int32.toNatClampNeg (nI i + 3))) H.size (out := (a)) e6) (cwV 3 hts gL_law_X6_next rfl rfl rfl (by decide +kernel) ⟨Nat.le_of_ble_eq_true rfl, Nat.le_of_ble_eq_true rfl⟩) (va_recv hK hP (ci := 6) (q0 := 0) rfl rfl) P_nil rfl hl.1 rfl (Nat.le_of_ble_eq_true rfl) rfl dL_law_1049 ⟨by show cells + 0 ≤ 600000; omega, by show slots + 0 ≤ 7302250; omega⟩ ?_
  refine lv_aload_n hx hb dL_law_1052 rfl (lv_at hl 1 rfl) ?_
  refine lv_aload_n hx hb dL_law_1053 rfl (lv_at hl 3 rfl) ?_
  refine lv_iload_n hx hb dL_law_1054 rfl (lv_at hl 0 rfl) ?_
  refine lv_iconst (v := 1) hx hb dL_law_1055 (by decide) ?_
  refine lv_iadd hx hb dL_law_1056 ?_
  refine va_sld hx hb hX hbl hbA hS hi1 dL_law_1057 ?_
  refine lv_aload_n hx hb dL_law_1058 rfl (lv_at hl 3 rfl) ?_
  refine lv_iload_n hx hb dL_law_1059 rfl (lv_at hl 0 rfl) ?_
  refine lv_iconst (v := 2) hx hb dL_law_1060 (by decide) ?_
  refine lv_iadd hx hb dL_law_1061 ?_
  refine va_sld hx hb hX hbl hbA hS hi2 dL_law_1062 ?_
  refine lv_aload_n hx hb dL_law_1063 rfl (lv_at hl 3 rfl) ?_
  refine lv_iload_n hx hb dL_law_1064 rfl (lv_at hl 0 rfl) ?_
  refine lv_iconst (v := 3) hx hb dL_law_1065 (by decide) ?_
  refine lv_iadd hx hb dL_law_1066 ?_
  refine va_sld hx hb hX hbl hbA hS hi3 dL_law_1067 ?_
  refine ivW (As := [.int (xs_ (Int32.toNatClampNeg (nI i + 1))), .int (xs_ (Int32.toNatClampNeg (nI i + 2))), .int (xs_ (Int32.toNatClampNeg (nI i + 3)))]) (rest := [.int a]) (st1 := [.int a, .int a]) (is := [61]) (w1 := (wX7_0 cy ad7 0 xs (nI P) tcd frt frp)) ⟨hx, hb, hml, hown, hts⟩ hK hN (KX7_next l D cy ad7 thr xs (nI P) tcd frt frp (xs_ (Int32.toNatClampNeg (nI i + 1))) (xs_ (Int32.toNatClampNeg (nI i + 2))) (xs_ (Int32.toNatClampNeg (nI i + 3))) H.size (out := (a, 0)) e7) (cwV 3 hts gL_law_X7_next rfl rfl rfl (by decide +kernel) ⟨Nat.le_of_ble_eq_true rfl, Nat.le_of_ble_eq_true rfl⟩) (va_recv hK hP (ci := 7) (q0 := 61) rfl rfl) hP hD hS hA P_nil (sepW_nil _) (by decide) rfl rfl rfl hl.1 rfl (Nat.le_of_ble_eq_true rfl) rfl dL_law_1068 ⟨by show cells + 0 ≤ 600000; omega, by show slots + 0 ≤ 7302250; omega⟩ (fun H locs hP hD hS => ?_)
  have hPD := PD_mrg (w2 := ((w6A cy ad (nI P) xt xs sh sf tr P (P + 1) (nI P) a_rgs a_sv a_co a_ro a_le a_lst a_mu a_ba a_bt a_cp (nI P) a_nx a_tl a_pe a_en a_pa (nI P) b_rgs b_sv b_co b_ro b_le b_lst b_mu b_ba b_bt b_cp (nI P) b_nx b_tl b_pe b_en b_pa (nI P) r_mp r_kn r_dd r_rd r_dn r_rn f_fl f_fu f_fw f_li (nI 233) f_nx f_tl f_pe f_en f_pa) ++ ((w7A cy ad7 0 xs (nI P) tcd frt frp lan man itm deg num mad inn lon goe tai per lea com see trc cou don nex res quo rou met) ++ ((sgS cy SL sln sia snn svv) ++ (sgP cy PL ppp pca pdg ptd pcc))))) (by decide) rfl hP hD
  have hP := hPD.1
  have hD := hPD.2
  refine lv_icmp_eq (tgt := 1112) hx hb dL_law_1071 (by decide) (fun hcmp => ?_) (fun hcmp => ?_)
  · refine W.widen (k := cells + 4) (n := slots + 260) (by omega) (by omega) ?_
    exact kk H locs (fun motive k => k ad ad7 P xt xs sh sf tr a_rgs a_sv a_co a_ro a_le a_lst a_mu a_ba a_bt a_cp a_nx a_tl a_pe a_en a_pa b_rgs b_sv b_co b_ro b_le b_lst b_mu b_ba b_bt b_cp b_nx b_tl b_pe b_en b_pa r_mp r_kn r_dd r_rd r_dn r_rn f_fl f_fu f_fw f_li f_nx f_tl f_pe f_en f_pa 0 xs tcd frt frp lan man itm deg num mad inn lon goe tai per lea com see trc cou don nex res quo rou met SL sln sia snn svv PL ppp pca pdg ptd pcc rfl rfl hPR rfl hsh hg hsf htr hsv hsb hrd hfr hP hD) hS
  · exact absurd (rfl) hcmp
set_option maxHeartbeats 4000000 in
set_option maxRecDepth 100000 in
theorem lc_count {p : Program} {l : Launch} {e : Env} {s : State} {m : MethodId} {below : List Frame} {meth : Method} {c : Code} {Q : State → Prop} {D : va_G} {cy : Nat → ClassId} {A : Nat → Prop} {b L i q6 q7 cells slots : Nat} {xs_ : Nat → Int32} {H : Heap} {locs : List Loc} {ls : Array Slot} (hx : p.tables.exec = Jvm.exec) (hb : c.code = cL_law) (hml : c.maxLocals = 4) (hown : s.vm.findClass RL = some m.cls) (hts : ∀ w ∈ wsL_law, w.before #[Value.ref b] s = true) (hX : va_X b L xs_ s s.heap) (hbl : b < s.heap.size) (hbA : ¬ A b) (hA : ∀ q, s.heap.size ≤ q → A q) (hK : va_K D vwCl (TYs cy) s) (hN : NK s) (hi : i + 6 ≤ L) (hL : L ≤ 3073) (hLW : LW D cy A q6 q7 H) (hS : va_S A s.heap H locs) (hl : lv_has ls 4 [(3, .int (nI i)), (2, .ref q7), (1, .ref q6), (0, .ref b)]) (hc : cells + 4 ≤ 600000) (hs : slots + 260 ≤ 7302250) (kk : ∀ (H1 : Heap) (locs1 : List Loc), LW D cy A q6 q7 H1 → va_S A s.heap H1 locs1 → W p l e room_1 s m #[Value.ref b] below meth c H1 locs1 (cells + 4) (slots + 260) Q (F0 m 1112 ls [])) : W p l e room_1 s m #[Value.ref b] below meth c H locs cells slots Q (F0 m 1076 ls []) := by
  refine hLW _ ?_
  intro ad ad7 P xt xs sh sf tr a_rgs a_sv a_co a_ro a_le a_lst a_mu a_ba a_bt a_cp a_nx a_tl a_pe a_en a_pa b_rgs b_sv b_co b_ro b_le b_lst b_mu b_ba b_bt b_cp b_nx b_tl b_pe b_en b_pa r_mp r_kn r_dd r_rd r_dn r_rn f_fl f_fu f_fw f_li f_nx f_tl f_pe f_en f_pa thr sta tcd frt frp lan man itm deg num mad inn lon goe tai per lea com see trc cou don nex res quo rou met SL sln sia snn svv PL ppp pca pdg ptd pcc hq6 hq7 hPR hst hsh hg hsf htr hsv hsb hrd hfr hP hD
  subst hq6 hq7 hst
  have hP1 : 1 < P := Nat.lt_of_lt_of_le (by omega) hPR.1
  have hP2 : P < 200 := hPR.2.1
  have hi1 : vp_in (nI i + 1) L := by
    rw [show (1 : Int32) = nI 1 from rfl, nI_add]
    exact in_n (by omega) (by omega)
  have hi2 : vp_in (nI i + 2) L := by
    rw [show (2 : Int32) = nI 2 from rfl, nI_add]
    exact in_n (by omega) (by omega)
  have hi3 : vp_in (nI i + 3) L := by
    rw [show (3 : Int32) = nI 3 from rfl, nI_add]
    exact in_n (by omega) (by omega)
  have hi4 : vp_in (nI i + 4) L := by
    rw [show (4 : Int32) = nI 4 from rfl, nI_add]
    exact in_n (by omega) (by omega)
  have hi5 : vp_in (nI i + 5) L := by
    rw [show (5 : Int32) = nI 5 from rfl, nI_add]
    exact in_n (by omega) (by omega)
  obtain ⟨a, e7, e6⟩ := op_count (pca := pca) hP2 hg hsf hsh (xs_ (Int32.toNatClampNeg (nI i + 1)))
  refine lv_aload_n hx hb dL_law_1076 rfl (lv_at hl 2 rfl) ?_
  refine lv_aload_n hx hb dL_law_1077 rfl (lv_at hl 3 rfl) ?_
  refine lv_iload_n hx hb dL_law_1078 rfl (lv_at hl 0 rfl) ?_
  refine lv_iconst (v := 1) hx hb dL_law_1079 (by decide) ?_
  refine lv_iadd hx hb dL_law_1080 ?_
  refine va_sld hx hb hX hbl hbA hS hi1 dL_law_1081 ?_
  refine ivR (As := [.int (xs_ (Int32.toNatClampNeg (nI i + 1)))]) (rest := []) (st1 := [.int a]) ⟨hx, hb, hml, hown, hts⟩ hK hN (KX6_count l D cy ad (nI P) xt xs sh sf PL ppp pca pdg ptd pcc (xs_ (Int32.toNatClampNeg (nI i + 1))) H.size (out := (a)) e6) (cwV 1 hts gL_law_X6_count rfl rfl rfl (by decide +kernel) ⟨Nat.le_of_ble_eq_true rfl, Nat.le_of_ble_eq_true rfl⟩) (va_recv hK hP (ci := 6) (q0 := 0) rfl rfl) (va_P.app (P_pl (wc := (wX6_0_1_2 cy ad (nI P) xt xs sh sf)) (is := [0, 1, 2]) hP rfl) (P_right (P_right (P_right hP)))) rfl hl.1 rfl (Nat.le_of_ble_eq_true rfl) rfl dL_law_1082 ⟨by show cells + 0 ≤ 600000; omega, by show slots + 0 ≤ 7302250; omega⟩ ?_
  refine lv_aload_n hx hb dL_law_1085 rfl (lv_at hl 1 rfl) ?_
  refine lv_aload_n hx hb dL_law_1086 rfl (lv_at hl 3 rfl) ?_
  refine lv_iload_n hx hb dL_law_1087 rfl (lv_at hl 0 rfl) ?_
  refine lv_iconst (v := 1) hx hb dL_law_1088 (by decide) ?_
  refine lv_iadd hx hb dL_law_1089 ?_
  refine va_sld hx hb hX hbl hbA hS hi1 dL_law_1090 ?_
  refine ivW (As := [.int (xs_ (Int32.toNatClampNeg (nI i + 1)))]) (rest := [.int a]) (st1 := [.int a, .int a]) (is := [61, 62, 65, 66]) (w1 := (wX7_0_1_4_5 cy ad7 0 xs (nI P) tcd frt frp lan deg num)) ⟨hx, hb, hml, hown, hts⟩ hK hN (KX7_count l D cy ad7 thr xs (nI P) tcd frt frp lan deg num (xs_ (Int32.toNatClampNeg (nI i + 1))) H.size (out := (a, 0)) e7) (cwV 1 hts gL_law_X7_count rfl rfl rfl (by decide +kernel) ⟨Nat.le_of_ble_eq_true rfl, Nat.le_of_ble_eq_true rfl⟩) (va_recv hK hP (ci := 7) (q0 := 61) rfl rfl) hP hD hS hA P_nil (sepW_nil _) (by decide) rfl rfl rfl hl.1 rfl (Nat.le_of_ble_eq_true rfl) rfl dL_law_1091 ⟨by show cells + 0 ≤ 600000; omega, by show slots + 0 ≤ 7302250; omega⟩ (fun H locs hP hD hS => ?_)
  have hPD := PD_mrg (w2 := ((w6A cy ad (nI P) xt xs sh sf tr P (P + 1) (nI P) a_rgs a_sv a_co a_ro a_le a_lst a_mu a_ba a_bt a_cp (nI P) a_nx a_tl a_pe a_en a_pa (nI P) b_rgs b_sv b_co b_ro b_le b_lst b_mu b_ba b_bt b_cp (nI P) b_nx b_tl b_pe b_en b_pa (nI P) r_mp r_kn r_dd r_rd r_dn r_rn f_fl f_fu f_fw f_li (nI 233) f_nx f_tl f_pe f_en f_pa) ++ ((w7A cy ad7 0 xs (nI P) tcd frt frp lan man itm deg num mad inn lon goe tai per lea com see trc cou don nex res quo rou met) ++ ((sgS cy SL sln sia snn svv) ++ (sgP cy PL ppp pca pdg ptd pcc))))) (by decide) rfl hP hD
  have hP := hPD.1
  have hD := hPD.2
  refine lv_icmp_eq (tgt := 1112) hx hb dL_law_1094 (by decide) (fun hcmp => ?_) (fun hcmp => ?_)
  · refine W.widen (k := cells + 4) (n := slots + 260) (by omega) (by omega) ?_
    exact kk H locs (fun motive k => k ad ad7 P xt xs sh sf tr a_rgs a_sv a_co a_ro a_le a_lst a_mu a_ba a_bt a_cp a_nx a_tl a_pe a_en a_pa b_rgs b_sv b_co b_ro b_le b_lst b_mu b_ba b_bt b_cp b_nx b_tl b_pe b_en b_pa r_mp r_kn r_dd r_rd r_dn r_rn f_fl f_fu f_fw f_li f_nx f_tl f_pe f_en f_pa 0 xs tcd frt frp lan man itm deg num mad inn lon goe tai per lea com see trc cou don nex res quo rou met SL sln sia snn svv PL ppp pca pdg ptd pcc rfl rfl hPR rfl hsh hg hsf htr hsv hsb hrd hfr hP hD) hS
  · exact absurd (rfl) hcmp
set_option maxHeartbeats 4000000 in
set_option maxRecDepth 100000 in
theorem lc_status {p : Program} {l : Launch} {e : Env} {s : State} {m : MethodId} {below : List Frame} {meth : Method} {c : Code} {Q : State → Prop} {D : va_G} {cy : Nat → ClassId} {A : Nat → Prop} {b L i q6 q7 cells slots : Nat} {xs_ : Nat → Int32} {H : Heap} {locs : List Loc} {ls : Array Slot} (hx : p.tables.exec = Jvm.exec) (hb : c.code = cL_law) (hml : c.maxLocals = 4) (hown : s.vm.findClass RL = some m.cls) (hts : ∀ w ∈ wsL_law, w.before #[Value.ref b] s = true) (hX : va_X b L xs_ s s.heap) (hbl : b < s.heap.size) (hbA : ¬ A b) (hA : ∀ q, s.heap.size ≤ q → A q) (hK : va_K D vwCl (TYs cy) s) (hN : NK s) (hi : i + 6 ≤ L) (hL : L ≤ 3073) (hLW : LW D cy A q6 q7 H) (hS : va_S A s.heap H locs) (hl : lv_has ls 4 [(3, .int (nI i)), (2, .ref q7), (1, .ref q6), (0, .ref b)]) (hc : cells + 4 ≤ 600000) (hs : slots + 260 ≤ 7302250) (kk : ∀ (H1 : Heap) (locs1 : List Loc), LW D cy A q6 q7 H1 → va_S A s.heap H1 locs1 → W p l e room_1 s m #[Value.ref b] below meth c H1 locs1 (cells + 4) (slots + 260) Q (F0 m 1112 ls [])) : W p l e room_1 s m #[Value.ref b] below meth c H locs cells slots Q (F0 m 1099 ls []) := by
  refine hLW _ ?_
  intro ad ad7 P xt xs sh sf tr a_rgs a_sv a_co a_ro a_le a_lst a_mu a_ba a_bt a_cp a_nx a_tl a_pe a_en a_pa b_rgs b_sv b_co b_ro b_le b_lst b_mu b_ba b_bt b_cp b_nx b_tl b_pe b_en b_pa r_mp r_kn r_dd r_rd r_dn r_rn f_fl f_fu f_fw f_li f_nx f_tl f_pe f_en f_pa thr sta tcd frt frp lan man itm deg num mad inn lon goe tai per lea com see trc cou don nex res quo rou met SL sln sia snn svv PL ppp pca pdg ptd pcc hq6 hq7 hPR hst hsh hg hsf htr hsv hsb hrd hfr hP hD
  subst hq6 hq7 hst
  have hP1 : 1 < P := Nat.lt_of_lt_of_le (by omega) hPR.1
  have hP2 : P < 200 := hPR.2.1
  have hi1 : vp_in (nI i + 1) L := by
    rw [show (1 : Int32) = nI 1 from rfl, nI_add]
    exact in_n (by omega) (by omega)
  have hi2 : vp_in (nI i + 2) L := by
    rw [show (2 : Int32) = nI 2 from rfl, nI_add]
    exact in_n (by omega) (by omega)
  have hi3 : vp_in (nI i + 3) L := by
    rw [show (3 : Int32) = nI 3 from rfl, nI_add]
    exact in_n (by omega) (by omega)
  have hi4 : vp_in (nI i + 4) L := by
    rw [show (4 : Int32) = nI 4 from rfl, nI_add]
    exact in_n (by omega) (by omega)
  have hi5 : vp_in (nI i + 5) L := by
    rw [show (5 : Int32) = nI 5 from rfl, nI_add]
    exact in_n (by omega) (by omega)
  obtain ⟨a, e7, e6⟩ := (⟨xs, rfl, rfl⟩ : ∃ a, FX7_status xs = some (a, 0) ∧ FX6_status xs = some a)
  refine lv_aload_n hx hb dL_law_1099 rfl (lv_at hl 2 rfl) ?_
  refine ivR (As := []) (rest := []) (st1 := [.int a]) ⟨hx, hb, hml, hown, hts⟩ hK hN (KX6_status l D cy ad (nI P) xt xs  H.size (out := (a)) e6) (cwV 0 hts gL_law_X6_status rfl rfl rfl (by decide +kernel) ⟨Nat.le_of_ble_eq_true rfl, Nat.le_of_ble_eq_true rfl⟩) (va_recv hK hP (ci := 6) (q0 := 0) rfl rfl) (P_pl (wc := (wX6_0 cy ad (nI P) xt xs)) (is := [0]) hP rfl) rfl hl.1 rfl (Nat.le_of_ble_eq_true rfl) rfl dL_law_1100 ⟨by show cells + 0 ≤ 600000; omega, by show slots + 0 ≤ 7302250; omega⟩ ?_
  refine lv_aload_n hx hb dL_law_1103 rfl (lv_at hl 1 rfl) ?_
  refine ivW (As := []) (rest := [.int a]) (st1 := [.int a, .int a]) (is := [61]) (w1 := (wX7_0 cy ad7 0 xs (nI P) tcd frt frp)) ⟨hx, hb, hml, hown, hts⟩ hK hN (KX7_status l D cy ad7 thr xs (nI P) tcd frt frp  H.size (out := (a, 0)) e7) (cwV 0 hts gL_law_X7_status rfl rfl rfl (by decide +kernel) ⟨Nat.le_of_ble_eq_true rfl, Nat.le_of_ble_eq_true rfl⟩) (va_recv hK hP (ci := 7) (q0 := 61) rfl rfl) hP hD hS hA P_nil (sepW_nil _) (by decide) rfl rfl rfl hl.1 rfl (Nat.le_of_ble_eq_true rfl) rfl dL_law_1104 ⟨by show cells + 0 ≤ 600000; omega, by show slots + 0 ≤ 7302250; omega⟩ (fun H locs hP hD hS => ?_)
  have hPD := PD_mrg (w2 := ((w6A cy ad (nI P) xt xs sh sf tr P (P + 1) (nI P) a_rgs a_sv a_co a_ro a_le a_lst a_mu a_ba a_bt a_cp (nI P) a_nx a_tl a_pe a_en a_pa (nI P) b_rgs b_sv b_co b_ro b_le b_lst b_mu b_ba b_bt b_cp (nI P) b_nx b_tl b_pe b_en b_pa (nI P) r_mp r_kn r_dd r_rd r_dn r_rn f_fl f_fu f_fw f_li (nI 233) f_nx f_tl f_pe f_en f_pa) ++ ((w7A cy ad7 0 xs (nI P) tcd frt frp lan man itm deg num mad inn lon goe tai per lea com see trc cou don nex res quo rou met) ++ ((sgS cy SL sln sia snn svv) ++ (sgP cy PL ppp pca pdg ptd pcc))))) (by decide) rfl hP hD
  have hP := hPD.1
  have hD := hPD.2
  refine lv_icmp_eq (tgt := 1112) hx hb dL_law_1107 (by decide) (fun hcmp => ?_) (fun hcmp => ?_)
  · refine W.widen (k := cells + 4) (n := slots + 260) (by omega) (by omega) ?_
    exact kk H locs (fun motive k => k ad ad7 P xt xs sh sf tr a_rgs a_sv a_co a_ro a_le a_lst a_mu a_ba a_bt a_cp a_nx a_tl a_pe a_en a_pa b_rgs b_sv b_co b_ro b_le b_lst b_mu b_ba b_bt b_cp b_nx b_tl b_pe b_en b_pa r_mp r_kn r_dd r_rd r_dn r_rn f_fl f_fu f_fw f_li f_nx f_tl f_pe f_en f_pa 0 xs tcd frt frp lan man itm deg num mad inn lon goe tai per lea com see trc cou don nex res quo rou met SL sln sia snn svv PL ppp pca pdg ptd pcc rfl rfl hPR rfl hsh hg hsf htr hsv hsb hrd hfr hP hD) hS
  · exact absurd (rfl) hcmp
