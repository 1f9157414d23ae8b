def wX6_0 (cy : Nat → ClassId) (ad : Nat → Nat) (xp : Int32) (xt : Int32) (xs : Int32) : va_W := [(ad 0, .inr (6, [.int xp, .ref (ad 1), .ref (ad 2), .ref (ad 3), .ref (ad 4), .ref (ad 19), .ref (ad 34), .ref (ad 53), .int xt, .int xs]))]
def wX6_0_1 (cy : Nat → ClassId) (ad : Nat → Nat) (xp : Int32) (xt : Int32) (xs : Int32) (sh : Nat → Option Nat) : va_W := [(ad 0, .inr (6, [.int xp, .ref (ad 1), .ref (ad 2), .ref (ad 3), .ref (ad 4), .ref (ad 19), .ref (ad 34), .ref (ad 53), .int xt, .int xs])), (ad 1, .inl (cy 3, 8, .inr (.inr (.inr (.inr sh)))))]
def wX6_0_2 (cy : Nat → ClassId) (ad : Nat → Nat) (xp : Int32) (xt : Int32) (xs : Int32) (sf : Nat → Option Nat) : va_W := [(ad 0, .inr (6, [.int xp, .ref (ad 1), .ref (ad 2), .ref (ad 3), .ref (ad 4), .ref (ad 19), .ref (ad 34), .ref (ad 53), .int xt, .int xs])), (ad 2, .inl (cy 4, 10, .inr (.inr (.inr (.inr sf)))))]
def wX6_0_3 (cy : Nat → ClassId) (ad : Nat → Nat) (xp : Int32) (xt : Int32) (xs : Int32) (tr : Nat → Int32) : va_W := [(ad 0, .inr (6, [.int xp, .ref (ad 1), .ref (ad 2), .ref (ad 3), .ref (ad 4), .ref (ad 19), .ref (ad 34), .ref (ad 53), .int xt, .int xs])), (ad 3, .inl (cy 0, 16, .inl tr))]
def wX6_0_3_4_5 (cy : Nat → ClassId) (ad : Nat → Nat) (xp : Int32) (xt : Int32) (xs : Int32) (tr : Nat → Int32) (xn : Nat) (a_rp : Int32) (a_rgs : Int32) (a_sv : Option Nat) (a_co : Nat → Int32) : va_W := [(ad 0, .inr (6, [.int xp, .ref (ad 1), .ref (ad 2), .ref (ad 3), .ref (ad 4), .ref (ad 19), .ref (ad 34), .ref (ad 53), .int xt, .int xs])), (ad 3, .inl (cy 0, 16, .inl tr)), (ad 4, .inr (3, [.int a_rp, .ref (ad 13), .ref (ad 5), .ref (ad 6), .ref (ad 7), .ref (ad 8), .ref (ad 9), .ref (ad 10), .ref (ad 11), .ref (ad 12), .int a_rgs, va_rf a_sv])), (ad 5, .inl (cy 0, xn, .inl a_co))]
def wX6_0_3_4_13_16 (cy : Nat → ClassId) (ad : Nat → Nat) (xp : Int32) (xt : Int32) (xs : Int32) (tr : Nat → Int32) (xn : Nat) (a_rp : Int32) (a_rgs : Int32) (a_sv : Option Nat) (a_osz : Int32) (a_pe : Nat → Int32) : va_W := [(ad 0, .inr (6, [.int xp, .ref (ad 1), .ref (ad 2), .ref (ad 3), .ref (ad 4), .ref (ad 19), .ref (ad 34), .ref (ad 53), .int xt, .int xs])), (ad 3, .inl (cy 0, 16, .inl tr)), (ad 4, .inr (3, [.int a_rp, .ref (ad 13), .ref (ad 5), .ref (ad 6), .ref (ad 7), .ref (ad 8), .ref (ad 9), .ref (ad 10), .ref (ad 11), .ref (ad 12), .int a_rgs, va_rf a_sv])), (ad 13, .inr (1, [.int a_osz, .ref (ad 14), .ref (ad 15), .ref (ad 16), .ref (ad 17), .ref (ad 18)])), (ad 16, .inl (cy 0, xn, .inl a_pe))]
def wX6_0_3_4_5_13_16 (cy : Nat → ClassId) (ad : Nat → Nat) (xp : Int32) (xt : Int32) (xs : Int32) (tr : Nat → Int32) (xn : Nat) (a_rp : Int32) (a_rgs : Int32) (a_sv : Option Nat) (a_co : Nat → Int32) (a_osz : Int32) (a_pe : Nat → Int32) : va_W := [(ad 0, .inr (6, [.int xp, .ref (ad 1), .ref (ad 2), .ref (ad 3), .ref (ad 4), .ref (ad 19), .ref (ad 34), .ref (ad 53), .int xt, .int xs])), (ad 3, .inl (cy 0, 16, .inl tr)), (ad 4, .inr (3, [.int a_rp, .ref (ad 13), .ref (ad 5), .ref (ad 6), .ref (ad 7), .ref (ad 8), .ref (ad 9), .ref (ad 10), .ref (ad 11), .ref (ad 12), .int a_rgs, va_rf a_sv])), (ad 5, .inl (cy 0, xn, .inl a_co)), (ad 13, .inr (1, [.int a_osz, .ref (ad 14), .ref (ad 15), .ref (ad 16), .ref (ad 17), .ref (ad 18)])), (ad 16, .inl (cy 0, xn, .inl a_pe))]
def wX6_0_2_3_4_5_6_7_8_9_10_13_14_15_16_17_18 (cy : Nat → ClassId) (ad : Nat → Nat) (xp : Int32) (xt : Int32) (xs : Int32) (sf : Nat → Option Nat) (tr : Nat → Int32) (xn : Nat) (a_rp : Int32) (a_rgs : Int32) (a_sv : Option Nat) (a_co : Nat → Int32) (a_ro : Nat → Int32) (a_le : Nat → Int32) (a_lst : Nat → Int32) (a_mu : Nat → Int32) (a_ba : Nat → Int32) (a_osz : Int32) (a_nx : Nat → Int32) (a_tl : Nat → Int32) (a_pe : Nat → Int32) (a_en : Nat → Int32) (a_pa : Nat → Int32) : va_W := [(ad 0, .inr (6, [.int xp, .ref (ad 1), .ref (ad 2), .ref (ad 3), .ref (ad 4), .ref (ad 19), .ref (ad 34), .ref (ad 53), .int xt, .int xs])), (ad 2, .inl (cy 4, 10, .inr (.inr (.inr (.inr sf))))), (ad 3, .inl (cy 0, 16, .inl tr)), (ad 4, .inr (3, [.int a_rp, .ref (ad 13), .ref (ad 5), .ref (ad 6), .ref (ad 7), .ref (ad 8), .ref (ad 9), .ref (ad 10), .ref (ad 11), .ref (ad 12), .int a_rgs, va_rf a_sv])), (ad 5, .inl (cy 0, xn, .inl a_co)), (ad 6, .inl (cy 0, xn, .inl a_ro)), (ad 7, .inl (cy 0, xn, .inl a_le)), (ad 8, .inl (cy 0, xn, .inl a_lst)), (ad 9, .inl (cy 0, xn, .inl a_mu)), (ad 10, .inl (cy 0, xn, .inl a_ba)), (ad 13, .inr (1, [.int a_osz, .ref (ad 14), .ref (ad 15), .ref (ad 16), .ref (ad 17), .ref (ad 18)])), (ad 14, .inl (cy 0, xn, .inl a_nx)), (ad 15, .inl (cy 0, xn, .inl a_tl)), (ad 16, .inl (cy 0, xn, .inl a_pe)), (ad 17, .inl (cy 0, xn, .inl a_en)), (ad 18, .inl (cy 0, xn, .inl a_pa))]
def wX6_0_4_5_6_7_8_9_10_13_14_15_16_17_18 (cy : Nat → ClassId) (ad : Nat → Nat) (xp : Int32) (xt : Int32) (xs : Int32) (xn : Nat) (a_rp : Int32) (a_rgs : Int32) (a_sv : Option Nat) (a_co : Nat → Int32) (a_ro : Nat → Int32) (a_le : Nat → Int32) (a_lst : Nat → Int32) (a_mu : Nat → Int32) (a_ba : Nat → Int32) (a_osz : Int32) (a_nx : Nat → Int32) (a_tl : Nat → Int32) (a_pe : Nat → Int32) (a_en : Nat → Int32) (a_pa : Nat → Int32) : va_W := [(ad 0, .inr (6, [.int xp, .ref (ad 1), .ref (ad 2), .ref (ad 3), .ref (ad 4), .ref (ad 19), .ref (ad 34), .ref (ad 53), .int xt, .int xs])), (ad 4, .inr (3, [.int a_rp, .ref (ad 13), .ref (ad 5), .ref (ad 6), .ref (ad 7), .ref (ad 8), .ref (ad 9), .ref (ad 10), .ref (ad 11), .ref (ad 12), .int a_rgs, va_rf a_sv])), (ad 5, .inl (cy 0, xn, .inl a_co)), (ad 6, .inl (cy 0, xn, .inl a_ro)), (ad 7, .inl (cy 0, xn, .inl a_le)), (ad 8, .inl (cy 0, xn, .inl a_lst)), (ad 9, .inl (cy 0, xn, .inl a_mu)), (ad 10, .inl (cy 0, xn, .inl a_ba)), (ad 13, .inr (1, [.int a_osz, .ref (ad 14), .ref (ad 15), .ref (ad 16), .ref (ad 17), .ref (ad 18)])), (ad 14, .inl (cy 0, xn, .inl a_nx)), (ad 15, .inl (cy 0, xn, .inl a_tl)), (ad 16, .inl (cy 0, xn, .inl a_pe)), (ad 17, .inl (cy 0, xn, .inl a_en)), (ad 18, .inl (cy 0, xn, .inl a_pa))]
def wX6_0_2_4_5_6_7_8_9_10_13_14_15_16_17_18 (cy : Nat → ClassId) (ad : Nat → Nat) (xp : Int32) (xt : Int32) (xs : Int32) (sf : Nat → Option Nat) (xn : Nat) (a_rp : Int32) (a_rgs : Int32) (a_sv : Option Nat) (a_co : Nat → Int32) (a_ro : Nat → Int32) (a_le : Nat → Int32) (a_lst : Nat → Int32) (a_mu : Nat → Int32) (a_ba : Nat → Int32) (a_osz : Int32) (a_nx : Nat → Int32) (a_tl : Nat → Int32) (a_pe : Nat → Int32) (a_en : Nat → Int32) (a_pa : Nat → Int32) : va_W := [(ad 0, .inr (6, [.int xp, .ref (ad 1), .ref (ad 2), .ref (ad 3), .ref (ad 4), .ref (ad 19), .ref (ad 34), .ref (ad 53), .int xt, .int xs])), (ad 2, .inl (cy 4, 10, .inr (.inr (.inr (.inr sf))))), (ad 4, .inr (3, [.int a_rp, .ref (ad 13), .ref (ad 5), .ref (ad 6), .ref (ad 7), .ref (ad 8), .ref (ad 9), .ref (ad 10), .ref (ad 11), .ref (ad 12), .int a_rgs, va_rf a_sv])), (ad 5, .inl (cy 0, xn, .inl a_co)), (ad 6, .inl (cy 0, xn, .inl a_ro)), (ad 7, .inl (cy 0, xn, .inl a_le)), (ad 8, .inl (cy 0, xn, .inl a_lst)), (ad 9, .inl (cy 0, xn, .inl a_mu)), (ad 10, .inl (cy 0, xn, .inl a_ba)), (ad 13, .inr (1, [.int a_osz, .ref (ad 14), .ref (ad 15), .ref (ad 16), .ref (ad 17), .ref (ad 18)])), (ad 14, .inl (cy 0, xn, .inl a_nx)), (ad 15, .inl (cy 0, xn, .inl a_tl)), (ad 16, .inl (cy 0, xn, .inl a_pe)), (ad 17, .inl (cy 0, xn, .inl a_en)), (ad 18, .inl (cy 0, xn, .inl a_pa))]
def wX6_0_53_54_55_56_57_58_59_60 (cy : Nat → ClassId) (ad : Nat → Nat) (xp : Int32) (xt : Int32) (xs : Int32) (f_fl : Int32) (f_fu : Int32) (f_fw : Int32) (f_li : Nat → Int32) (f_osz : Int32) (f_nx : Nat → Int32) (f_tl : Nat → Int32) (f_pe : Nat → Int32) (f_en : Nat → Int32) (f_pa : Nat → Int32) : va_W := [(ad 0, .inr (6, [.int xp, .ref (ad 1), .ref (ad 2), .ref (ad 3), .ref (ad 4), .ref (ad 19), .ref (ad 34), .ref (ad 53), .int xt, .int xs])), (ad 53, .inr (0, [.ref (ad 55), .ref (ad 54), .int f_fl, .int f_fu, .int f_fw])), (ad 54, .inl (cy 0, 233, .inl f_li)), (ad 55, .inr (1, [.int f_osz, .ref (ad 56), .ref (ad 57), .ref (ad 58), .ref (ad 59), .ref (ad 60)])), (ad 56, .inl (cy 0, 233, .inl f_nx)), (ad 57, .inl (cy 0, 233, .inl f_tl)), (ad 58, .inl (cy 0, 233, .inl f_pe)), (ad 59, .inl (cy 0, 233, .inl f_en)), (ad 60, .inl (cy 0, 233, .inl f_pa))]
def wX6_0_1_2 (cy : Nat → ClassId) (ad : Nat → Nat) (xp : Int32) (xt : Int32) (xs : Int32) (sh : Nat → Option Nat) (sf : Nat → Option Nat) : va_W := [(ad 0, .inr (6, [.int xp, .ref (ad 1), .ref (ad 2), .ref (ad 3), .ref (ad 4), .ref (ad 19), .ref (ad 34), .ref (ad 53), .int xt, .int xs])), (ad 1, .inl (cy 3, 8, .inr (.inr (.inr (.inr sh))))), (ad 2, .inl (cy 4, 10, .inr (.inr (.inr (.inr sf)))))]
def FX6_found   (x1 : Int32) : Option (Int32 × (Int32)) := (some (((-1000010) - x1), x1))
abbrev RMX6_found : Room := { frames := 0, cells := 0, slots := 0, locals := 0 }
set_option maxHeartbeats 4000000 in
set_option maxRecDepth 100000 in
theorem KX6_found (l : Launch) (D : va_G) (cy : Nat → ClassId) (ad : Nat → Nat) (xp : Int32) (xt : Int32) (xs : Int32) (x1 : Int32) (sz : Nat) {out : Int32 × (Int32)} (hf : FX6_found x1 = some out) : Met l yX6_found wsX6_found RMX6_found (PW D cy [.ref (ad 0), .int x1] sz ((wX6_0 cy ad xp xt xs)) []) (QW D (some (.int out.1)) ((wX6_0 cy ad xp xt out.2)) (va_A ((wX6_0 cy ad xp xt xs)) sz)) 0 0 (va_A ((wX6_0 cy ad xp xt xs)) sz) := by
  refine Met.ofW (cc := cX6_found) (maxL := 2) (ret := (some .int)) (by decide +kernel) rfl ?_
  intro p e s m args below meth c s₁ B hml hv
  obtain ⟨hav, hsz, hP, hR0, hK, hN, hD0, hsep⟩ := hv
  have hx := B.exec
  have hb := B.bytes
  have hr := B.returns
  have hts := atoms_spec (ws := wsX6_found) B.pre
  have hown : s.vm.findClass RX6 = some m.cls := findClass_of_methodNamed B.named
  have hlocks := B.notSynchronized
  subst hsz
  have hin_X6 : ∀ w ∈ u_ws RX6 TX6 10, w ∈ wsX6_found := by decide +kernel
  have hw_0 := hts (.constant RX6 222 (-1000010)) (by decide +kernel)
  have hw_1 := hts (.fieldLink RX6 62 "ReturnPoints" "status" "I") (by decide +kernel)
  have hD := hD0.self (sz := s.heap.size)
  have hnA := roA hsep hR0
  generalize hAe : va_A ((wX6_0 cy ad xp xt xs)) s.heap.size = A at hD hnA ⊢
  have hA : ∀ q : Nat, s.heap.size ≤ q → A q := fun q h => by rw [← hAe]; exact Or.inr h
  have hS : va_S A s.heap s.heap [] := va_S.rf
  obtain ⟨ls, hfr, hl⟩ := ent_ok (m := m) (n := 2) (l' := [(0, .ref (ad 0)), (1, .int x1)]) [.ref (ad 0), .int x1] hav (Nat.le_of_ble_eq_true rfl) rfl
  rw [hfr]
  generalize hQe : MQ below (QW D (some (.int out.1)) ((wX6_0 cy ad xp xt out.2)) A) args s 0 0 A = QQ
  change W p l e RMX6_found s m args below meth c s.heap [] 0 0 QQ (F0 m 0 ls [])
  have hP : va_P D vwCl ((wX6_0 cy ad xp xt xs)) s.heap := hP
  have hD : va_D A ((wX6_0 cy ad xp xt xs)) := hD
  suffices h00 : ∀ (H : Heap) (locs : List Loc), va_P D vwCl ((wX6_0 cy ad xp xt xs)) H → va_S A s.heap H locs → W p l e RMX6_found s m args below meth c H locs 0 0 QQ (F0 m 0 ls []) from h00 _ _ hP hS
  clear hP hS
  intro H locs hP hS
  unfold FX6_found at hf
  refine lv_aload_n hx hb dX6_found_0 rfl (lv_at hl 0 rfl) ?_
  refine lv_iload_n hx hb dX6_found_1 rfl (lv_at hl 1 rfl) ?_
  refine va_put (a := (ad 0)) (ci := 6) (v := .int x1) (ty := .int) (C := RX6) (T := TX6) (N := 10) hx hb hts hin_X6 tyX6 tyX6_ok nmX6 hown hK hP hD hS 0 rfl rfl 9 (by decide) hw_1 (fun _ h => h) rfl (by decide +kernel) rfl rfl (Nat.le_of_ble_eq_true rfl) dX6_found_2 (fun H locs hP hD hS => ?_)
  have hP : va_P D vwCl ((wX6_0 cy ad xp xt x1)) H := hP
  have hD : va_D A ((wX6_0 cy ad xp xt x1)) := hD
  refine lv_ldc (own := RX6) (v := (-1000010)) hx hb hown hw_0 dX6_found_5 ?_
  refine lv_iload_n hx hb dX6_found_7 rfl (lv_at hl 1 rfl) ?_
  refine lv_isub hx hb dX6_found_8 ?_
  obtain rfl := Option.some.inj hf
  rw [← hQe]
  exact W.iret (v := ((-1000010) - x1)) hx hb hr (fun t ht hW => ⟨rfl, by rw [ht]; exact hP, hS.F ht⟩) hS.2.2 dX6_found_9
def FX6_fine   (x1 : Int32) : Option (Int32 × (Int32)) := (some (x1, 0))
abbrev RMX6_fine : Room := { frames := 0, cells := 0, slots := 0, locals := 0 }
set_option maxHeartbeats 4000000 in
set_option maxRecDepth 100000 in
theorem KX6_fine (l : Launch) (D : va_G) (cy : Nat → ClassId) (ad : Nat → Nat) (xp : Int32) (xt : Int32) (xs : Int32) (x1 : Int32) (sz : Nat) {out : Int32 × (Int32)} (hf : FX6_fine x1 = some out) : Met l yX6_fine wsX6_fine RMX6_fine (PW D cy [.ref (ad 0), .int x1] sz ((wX6_0 cy ad xp xt xs)) []) (QW D (some (.int out.1)) ((wX6_0 cy ad xp xt out.2)) (va_A ((wX6_0 cy ad xp xt xs)) sz)) 0 0 (va_A ((wX6_0 cy ad xp xt xs)) sz) := by
  refine Met.ofW (cc := cX6_fine) (maxL := 2) (ret := (some .int)) (by decide +kernel) rfl ?_
  intro p e s m args below meth c s₁ B hml hv
  obtain ⟨hav, hsz, hP, hR0, hK, hN, hD0, hsep⟩ := hv
  have hx := B.exec
  have hb := B.bytes
  have hr := B.returns
  have hts := atoms_spec (ws := wsX6_fine) B.pre
  have hown : s.vm.findClass RX6 = some m.cls := findClass_of_methodNamed B.named
  have hlocks := B.notSynchronized
  subst hsz
  have hin_X6 : ∀ w ∈ u_ws RX6 TX6 10, w ∈ wsX6_fine := by decide +kernel
  have hw_0 := hts (.fieldLink RX6 62 "ReturnPoints" "status" "I") (by decide +kernel)
  have hD := hD0.self (sz := s.heap.size)
  have hnA := roA hsep hR0
  generalize hAe : va_A ((wX6_0 cy ad xp xt xs)) s.heap.size = A at hD hnA ⊢
  have hA : ∀ q : Nat, s.heap.size ≤ q → A q := fun q h => by rw [← hAe]; exact Or.inr h
  have hS : va_S A s.heap s.heap [] := va_S.rf
  obtain ⟨ls, hfr, hl⟩ := ent_ok (m := m) (n := 2) (l' := [(0, .ref (ad 0)), (1, .int x1)]) [.ref (ad 0), .int x1] hav (Nat.le_of_ble_eq_true rfl) rfl
  rw [hfr]
  generalize hQe : MQ below (QW D (some (.int out.1)) ((wX6_0 cy ad xp xt out.2)) A) args s 0 0 A = QQ
  change W p l e RMX6_fine s m args below meth c s.heap [] 0 0 QQ (F0 m 0 ls [])
  have hP : va_P D vwCl ((wX6_0 cy ad xp xt xs)) s.heap := hP
  have hD : va_D A ((wX6_0 cy ad xp xt xs)) := hD
  suffices h00 : ∀ (H : Heap) (locs : List Loc), va_P D vwCl ((wX6_0 cy ad xp xt xs)) H → va_S A s.heap H locs → W p l e RMX6_fine s m args below meth c H locs 0 0 QQ (F0 m 0 ls []) from h00 _ _ hP hS
  clear hP hS
  intro H locs hP hS
  unfold FX6_fine at hf
  refine lv_aload_n hx hb dX6_fine_0 rfl (lv_at hl 0 rfl) ?_
  refine lv_iconst (v := 0) hx hb dX6_fine_1 (by decide) ?_
  refine va_put (a := (ad 0)) (ci := 6) (v := .int 0) (ty := .int) (C := RX6) (T := TX6) (N := 10) hx hb hts hin_X6 tyX6 tyX6_ok nmX6 hown hK hP hD hS 0 rfl rfl 9 (by decide) hw_0 (fun _ h => h) rfl (by decide +kernel) rfl rfl (Nat.le_of_ble_eq_true rfl) dX6_fine_2 (fun H locs hP hD hS => ?_)
  have hP : va_P D vwCl ((wX6_0 cy ad xp xt 0)) H := hP
  have hD : va_D A ((wX6_0 cy ad xp xt 0)) := hD
  refine lv_iload_n hx hb dX6_fine_5 rfl (lv_at hl 1 rfl) ?_
  obtain rfl := Option.some.inj hf
  rw [← hQe]
  exact W.iret (v := x1) hx hb hr (fun t ht hW => ⟨rfl, by rw [ht]; exact hP, hS.F ht⟩) hS.2.2 dX6_fine_6
def FX6_set  (xs : Int32) (sh : Nat → Option Nat) (SL : List Nat) (sln : Nat → Int32) (sia : Nat → Nat) (snn : Nat → Nat) (svv : Nat → Nat → Int64) (x1 : Int32) (x2 : Int32) (x3 : Int64) : Option (Int64 × (Int32) × (Nat → Nat → Int64)) := (ob (FX6_isSheet x1) (fun u_1 => if (bi u_1) = 0 then (some ((-1000001), xs, svv)) else (gi x1 8 (bd (sh (Int32.toNatClampNeg x1)) (fun o_16 => oq o_16 ((ob (FX6_found 1) (fun u_26 => some ((Int32.toInt64 u_26.1), u_26.2, svv)))) (fun a_21 => gd (a_21 ∈ SL) ((ob (FX5_holds (snn a_21) x2 1) (fun u_35 => if (bi u_35) = 0 then (ob (FX6_found 2) (fun u_43 => some ((Int32.toInt64 u_43.1), u_43.2, svv))) else (ob (FX5_cut (sln a_21) x3) (fun u_57 => gi x2 (snn a_21) (gi x2 (snn a_21) (some ((((va_up svv a_21 (vp_updL (svv a_21) (Int32.toNatClampNeg x2) u_57)) a_21) (Int32.toNatClampNeg x2)), 0, (va_up svv a_21 (vp_updL (svv a_21) (Int32.toNatClampNeg x2) u_57))))))))))))))))
abbrev RMX6_set : Room := { frames := 1, cells := 0, slots := 0, locals := 22 }
set_option maxHeartbeats 4000000 in
set_option maxRecDepth 100000 in
theorem KX6_set (l : Launch) (D : va_G) (cy : Nat → ClassId) (ad : Nat → Nat) (xp : Int32) (xt : Int32) (xs : Int32) (sh : Nat → Option Nat) (SL : List Nat) (sln : Nat → Int32) (sia : Nat → Nat) (snn : Nat → Nat) (svv : Nat → Nat → Int64) (x1 : Int32) (x2 : Int32) (x3 : Int64) (sz : Nat) {out : Int64 × (Int32) × (Nat → Nat → Int64)} (hf : FX6_set xs sh SL sln sia snn svv x1 x2 x3 = some out) : Met l yX6_set wsX6_set RMX6_set (PW D cy [.ref (ad 0), .int x1, .int x2, .long x3] sz ((wX6_0_1 cy ad xp xt xs sh) ++ (sgS cy SL sln sia snn svv)) []) (QW D (some (.long out.1)) ((wX6_0_1 cy ad xp xt out.2.1 sh) ++ (sgS cy SL sln sia snn out.2.2)) (va_A ((wX6_0_1 cy ad xp xt xs sh) ++ (sgS cy SL sln sia snn svv)) sz)) 0 0 (va_A ((wX6_0_1 cy ad xp xt xs sh) ++ (sgS cy SL sln sia snn svv)) sz) := by
  refine Met.ofW (cc := cX6_set) (maxL := 6) (ret := (some .long)) (by decide +kernel) rfl ?_
  intro p e s m args below meth c s₁ B hml hv
  obtain ⟨hav, hsz, hP, hR0, hK, hN, hD0, hsep⟩ := hv
  have hx := B.exec
  have hb := B.bytes
  have hr := B.returns
  have hts := atoms_spec (ws := wsX6_set) B.pre
  have hown : s.vm.findClass RX6 = some m.cls := findClass_of_methodNamed B.named
  have hlocks := B.notSynchronized
  subst hsz
  have hin_X5 : ∀ w ∈ u_ws RX5 TX5 2, w ∈ wsX6_set := by decide +kernel
  have hin_X6 : ∀ w ∈ u_ws RX6 TX6 10, w ∈ wsX6_set := by decide +kernel
  have hw_0 := hts (.constantLong RX6 79 (-1000001)) (by decide +kernel)
  have hw_1 := hts (.fieldLink RX6 19 "ReturnPoints" "sheets" "[LReturnPoints$Sheet;") (by decide +kernel)
  have hw_2 := hts (.fieldLink RX6 85 "ReturnPoints$Sheet" "items" "[J") (by decide +kernel)
  have hw_3 := hts (.fieldLink RX6 62 "ReturnPoints" "status" "I") (by decide +kernel)
  have hD := hD0.self (sz := s.heap.size)
  have hnA := roA hsep hR0
  generalize hAe : va_A ((wX6_0_1 cy ad xp xt xs sh) ++ (sgS cy SL sln sia snn svv)) s.heap.size = A at hD hnA ⊢
  have hA : ∀ q : Nat, s.heap.size ≤ q → A q := fun q h => by rw [← hAe]; exact Or.inr h
  have hS : va_S A s.heap s.heap [] := va_S.rf
  obtain ⟨ls, hfr, hl⟩ := ent_ok (m := m) (n := 6) (l' := [(0, .ref (ad 0)), (1, .int x1), (2, .int x2), (3, .long x3)]) [.ref (ad 0), .int x1, .int x2, .long x3] hav (Nat.le_of_ble_eq_true rfl) rfl
  rw [hfr]
  generalize hQe : MQ below (QW D (some (.long out.1)) ((wX6_0_1 cy ad xp xt out.2.1 sh) ++ (sgS cy SL sln sia snn out.2.2)) A) args s 0 0 A = QQ
  change W p l e RMX6_set s m args below meth c s.heap [] 0 0 QQ (F0 m 0 ls [])
  have hP : va_P D vwCl ((wX6_0_1 cy ad xp xt xs sh) ++ (sgS cy SL sln sia snn svv)) s.heap := hP
  have hD : va_D A ((wX6_0_1 cy ad xp xt xs sh) ++ (sgS cy SL sln sia snn svv)) := hD
  suffices h00 : ∀ (H : Heap) (locs : List Loc), va_P D vwCl ((wX6_0_1 cy ad xp xt xs sh) ++ (sgS cy SL sln sia snn svv)) H → va_S A s.heap H locs → W p l e RMX6_set s m args below meth c H locs 0 0 QQ (F0 m 0 ls []) from h00 _ _ hP hS
  clear hP hS
  intro H locs hP hS
  unfold FX6_set at hf
  refine lv_iload_n hx hb dX6_set_0 rfl (lv_at hl 1 rfl) ?_
  replace hf := ob_e hf
  obtain ⟨u_1, hu_1, hf⟩ := hf
  refine isR (As := [.int x1]) (rest := []) (st1 := [.int (bi u_1)]) ⟨hx, hb, hml, hown, hts⟩ hK hN (KX6_isSheet l D cy x1 H.size hu_1) (va_cwS 1 hts gX6_set_X6_isSheet rfl rfl rfl (by decide +kernel) ⟨Nat.le_of_ble_eq_true rfl, Nat.le_of_ble_eq_true rfl⟩) P_nil rfl hl.1 rfl (Nat.le_of_ble_eq_true rfl) rfl dX6_set_1 ⟨Nat.zero_le _, Nat.zero_le _⟩ ?_
  refine lv_if_ne (tgt := 11) hx hb dX6_set_4 (by decide) (fun c_4 => ?_) (fun c_4 => ?_)
  · replace hf := it_n c_4 hf
    refine lv_aload_n hx hb dX6_set_11 rfl (lv_at hl 0 rfl) ?_
    refine va_get (a := (ad 0)) (ci := 6) (v := .ref (ad 1)) (C := RX6) (T := TX6) (N := 10) hx hb hts hin_X6 hown hK hP 0 rfl rfl 1 (by decide) hw_1 (fun _ h => h) rfl dX6_set_12 ?_
    refine lv_iload_n hx hb dX6_set_15 rfl (lv_at hl 1 rfl) ?_
    replace hf := gi_e hf
    obtain ⟨i_16, hf⟩ := hf
    refine va_aldq (a := (ad 1)) hx hb hK hP 1 3 rfl rfl i_16 dX6_set_16 ?_
    refine top_q (fun o_16 e_16 => ?_)
    replace hf := bd_at e_16 hf
    clear e_16
    refine lv_Qastore (lv' := [(5, va_rf o_16), (0, .ref (ad 0)), (1, .int x1), (2, .int x2), (3, .long x3)]) hx hb dX6_set_17 hl (by decide) rfl (fun ls hl => ?_)
    refine lv_Qaload hx hb dX6_set_19 (lv_at hl 0 rfl) ?_
    replace hf := oq_e hf
    rcases hf with ⟨rfl, hf⟩ | ⟨a_21, rfl, hf⟩
    · have hl : lv_has ls 6 [(5, .null), (0, .ref (ad 0)), (1, .int x1), (2, .int x2), (3, .long x3)] := hl
      refine lv_ifnonnullN hx hb dX6_set_21 ?_
      refine lv_aload_n hx hb dX6_set_24 rfl (lv_at hl 1 rfl) ?_
      refine lv_iconst (v := 1) hx hb dX6_set_25 (by decide) ?_
      replace hf := ob_e hf
      obtain ⟨u_26, hu_26, hf⟩ := hf
      refine ivW (As := [.int 1]) (rest := []) (st1 := [.int u_26.1]) (is := [0]) (w1 := (wX6_0 cy ad xp xt u_26.2)) ⟨hx, hb, hml, hown, hts⟩ hK hN (KX6_found l D cy ad xp xt xs 1 H.size hu_26) (cwV 1 hts gX6_set_X6_found rfl rfl rfl (by decide +kernel) ⟨Nat.le_of_ble_eq_true rfl, Nat.le_of_ble_eq_true rfl⟩) (va_recv hK hP (ci := 6) (q0 := 0) rfl rfl) hP hD hS hA P_nil (sepW_nil _) (by decide) rfl rfl rfl hl.1 rfl (Nat.le_of_ble_eq_true rfl) rfl dX6_set_26 ⟨Nat.zero_le _, Nat.zero_le _⟩ (fun H locs hP hD hS => ?_)
      have hP : va_P D vwCl ((wX6_0_1 cy ad xp xt u_26.2 sh) ++ (sgS cy SL sln sia snn svv)) H := hP
      have hD : va_D A ((wX6_0_1 cy ad xp xt u_26.2 sh) ++ (sgS cy SL sln sia snn svv)) := hD
      refine lv_i2l hx hb dX6_set_29 rfl ?_
      obtain rfl := Option.some.inj hf
      rw [← hQe]
      exact W.lret (v := (Int32.toInt64 u_26.1)) hx hb hr (fun t ht hW => ⟨rfl, by rw [ht]; exact hP, hS.F ht⟩) hS.2.2 dX6_set_30
    · replace hf := gd_e hf
      obtain ⟨m_a_21, hf⟩ := hf
      have hl : lv_has ls 6 [(5, .ref a_21), (0, .ref (ad 0)), (1, .int x1), (2, .int x2), (3, .long x3)] := hl
      refine lv_ifnonnull (tgt := 31) hx hb dX6_set_21 (by decide) ?_
      refine lv_aload hx hb dX6_set_31 (lv_at hl 0 rfl) ?_
      refine lv_iload_n hx hb dX6_set_33 rfl (lv_at hl 3 rfl) ?_
      refine lv_iconst (v := 1) hx hb dX6_set_34 (by decide) ?_
      replace hf := ob_e hf
      obtain ⟨u_35, hu_35, hf⟩ := hf
      have hQ_a_21 : va_P D vwCl (wX5_0_1 cy (adP sia a_21) (snn a_21) (sln a_21) (svv a_21)) H := P_two (P_right hP) (sgS_1 m_a_21) (sgS_2 m_a_21)
      have hQ_a_21 : va_P D vwCl (wX5_0_1 cy (adP sia a_21) (snn a_21) (sln a_21) (svv a_21)) H := P_two (P_right hP) (sgS_1 m_a_21) (sgS_2 m_a_21)
      refine ivR (As := [.int x2, .int 1]) (rest := []) (st1 := [.int (bi u_35)]) ⟨hx, hb, hml, hown, hts⟩ hK hN (KX5_holds l D cy (adP sia a_21) (snn a_21) (sln a_21) (svv a_21) x2 1 H.size hu_35) (cwV 2 hts gX6_set_X5_holds rfl rfl rfl (by decide +kernel) ⟨Nat.le_of_ble_eq_true rfl, Nat.le_of_ble_eq_true rfl⟩) (va_recv hK hQ_a_21 (ci := 5) (q0 := 0) rfl rfl) (P_pl (wc := (wX5_0_1 cy (adP sia a_21) (snn a_21) (sln a_21) (svv a_21))) (is := [0, 1]) hQ_a_21 rfl) rfl hl.1 rfl (Nat.le_of_ble_eq_true rfl) rfl dX6_set_35 ⟨Nat.zero_le _, Nat.zero_le _⟩ ?_
      refine lv_if_ne (tgt := 48) hx hb dX6_set_38 (by decide) (fun c_38 => ?_) (fun c_38 => ?_)
      · replace hf := it_n c_38 hf
        refine lv_aload hx hb dX6_set_48 (lv_at hl 0 rfl) ?_
        have hQ_a_21 : va_P D vwCl (wX5_0_1 cy (adP sia a_21) (snn a_21) (sln a_21) (svv a_21)) H := P_two (P_right hP) (sgS_1 m_a_21) (sgS_2 m_a_21)
        refine va_get (a := a_21) (ci := 5) (v := .ref (sia a_21)) (C := RX5) (T := TX5) (N := 2) hx hb hts hin_X5 hown hK hQ_a_21 0 rfl rfl 1 (by decide) hw_2 (fun _ h => h) rfl dX6_set_50 ?_
        refine lv_iload_n hx hb dX6_set_53 rfl (lv_at hl 3 rfl) ?_
        refine lv_aload hx hb dX6_set_54 (lv_at hl 0 rfl) ?_
        refine lv_lload_n hx hb dX6_set_56 rfl (lv_at hl 4 rfl) ?_
        replace hf := ob_e hf
        obtain ⟨u_57, hu_57, hf⟩ := hf
        have hQ_a_21 : va_P D vwCl (wX5_0_1 cy (adP sia a_21) (snn a_21) (sln a_21) (svv a_21)) H := P_two (P_right hP) (sgS_1 m_a_21) (sgS_2 m_a_21)
        have hQ_a_21 : va_P D vwCl (wX5_0_1 cy (adP sia a_21) (snn a_21) (sln a_21) (svv a_21)) H := P_two (P_right hP) (sgS_1 m_a_21) (sgS_2 m_a_21)
        refine ivR (As := [.long x3]) (rest := [.int x2, .ref (sia a_21)]) (st1 := [.long u_57, .int x2, .ref (sia a_21)]) ⟨hx, hb, hml, hown, hts⟩ hK hN (KX5_cut l D cy (adP sia a_21) (sln a_21) x3 H.size hu_57) (cwV 1 hts gX6_set_X5_cut rfl rfl rfl (by decide +kernel) ⟨Nat.le_of_ble_eq_true rfl, Nat.le_of_ble_eq_true rfl⟩) (va_recv hK hQ_a_21 (ci := 5) (q0 := 0) rfl rfl) (P_pl (wc := (wX5_0 cy (adP sia a_21) (sln a_21))) (is := [0]) hQ_a_21 rfl) rfl hl.1 rfl (Nat.le_of_ble_eq_true rfl) rfl dX6_set_57 ⟨Nat.zero_le _, Nat.zero_le _⟩ ?_
        replace hf := gi_e hf
        obtain ⟨i_60, hf⟩ := hf
        obtain ⟨k_60, hk_60⟩ := sgS_at (cy := cy) (X := (wX6_0_1 cy ad xp xt xs sh)) (sln := sln) (sia := sia) (snn := snn) (svv := svv) m_a_21
        refine va_last (a := (sia a_21)) hx hb hK hP hD hS k_60 1 hk_60 rfl i_60 dX6_set_60 (fun H locs hP hD hS => ?_)
        have hset := sgS_set (X := (wX6_0_1 cy ad xp xt xs sh)) (f := (vp_updL (svv a_21) (Int32.toNatClampNeg x2) u_57)) hD hk_60 m_a_21
        have hP : va_P D vwCl ((wX6_0_1 cy ad xp xt xs sh) ++ (sgS cy SL sln sia snn (va_up svv a_21 (vp_updL (svv a_21) (Int32.toNatClampNeg x2) u_57)))) H := P_cast hset hP
        have hD : va_D A ((wX6_0_1 cy ad xp xt xs sh) ++ (sgS cy SL sln sia snn (va_up svv a_21 (vp_updL (svv a_21) (Int32.toNatClampNeg x2) u_57)))) := D_cast hset hD
        clear hset
        refine lv_aload_n hx hb dX6_set_61 rfl (lv_at hl 1 rfl) ?_
        refine lv_iconst (v := 0) hx hb dX6_set_62 (by decide) ?_
        refine va_put (a := (ad 0)) (ci := 6) (v := .int 0) (ty := .int) (C := RX6) (T := TX6) (N := 10) hx hb hts hin_X6 tyX6 tyX6_ok nmX6 hown hK hP hD hS 0 rfl rfl 9 (by decide) hw_3 (fun _ h => h) rfl (by decide +kernel) rfl rfl (Nat.le_of_ble_eq_true rfl) dX6_set_63 (fun H locs hP hD hS => ?_)
        have hP : va_P D vwCl ((wX6_0_1 cy ad xp xt 0 sh) ++ (sgS cy SL sln sia snn (va_up svv a_21 (vp_updL (svv a_21) (Int32.toNatClampNeg x2) u_57)))) H := hP
        have hD : va_D A ((wX6_0_1 cy ad xp xt 0 sh) ++ (sgS cy SL sln sia snn (va_up svv a_21 (vp_updL (svv a_21) (Int32.toNatClampNeg x2) u_57)))) := hD
        refine lv_aload hx hb dX6_set_66 (lv_at hl 0 rfl) ?_
        have hQ_a_21 : va_P D vwCl (wX5_0_1 cy (adP sia a_21) (snn a_21) (sln a_21) ((va_up svv a_21 (vp_updL (svv a_21) (Int32.toNatClampNeg x2) u_57)) a_21)) H := P_two (P_right hP) (sgS_1 m_a_21) (sgS_2 m_a_21)
        refine va_get (a := a_21) (ci := 5) (v := .ref (sia a_21)) (C := RX5) (T := TX5) (N := 2) hx hb hts hin_X5 hown hK hQ_a_21 0 rfl rfl 1 (by decide) hw_2 (fun _ h => h) rfl dX6_set_68 ?_
        refine lv_iload_n hx hb dX6_set_71 rfl (lv_at hl 3 rfl) ?_
        replace hf := gi_e hf
        obtain ⟨i_72, hf⟩ := hf
        have hQ_a_21 : va_P D vwCl (wX5_0_1 cy (adP sia a_21) (snn a_21) (sln a_21) ((va_up svv a_21 (vp_updL (svv a_21) (Int32.toNatClampNeg x2) u_57)) a_21)) H := P_two (P_right hP) (sgS_1 m_a_21) (sgS_2 m_a_21)
        refine va_lald (a := (sia a_21)) hx hb hK hQ_a_21 1 1 rfl rfl i_72 dX6_set_72 ?_
        obtain rfl := Option.some.inj hf
        rw [← hQe]
        exact W.lret (v := (((va_up svv a_21 (vp_updL (svv a_21) (Int32.toNatClampNeg x2) u_57)) a_21) (Int32.toNatClampNeg x2))) hx hb hr (fun t ht hW => ⟨rfl, by rw [ht]; exact hP, hS.F ht⟩) hS.2.2 dX6_set_73
      · replace hf := it_p c_38 hf
        refine lv_aload_n hx hb dX6_set_41 rfl (lv_at hl 1 rfl) ?_
        refine lv_iconst (v := 2) hx hb dX6_set_42 (by decide) ?_
        replace hf := ob_e hf
        obtain ⟨u_43, hu_43, hf⟩ := hf
        refine ivW (As := [.int 2]) (rest := []) (st1 := [.int u_43.1]) (is := [0]) (w1 := (wX6_0 cy ad xp xt u_43.2)) ⟨hx, hb, hml, hown, hts⟩ hK hN (KX6_found l D cy ad xp xt xs 2 H.size hu_43) (cwV 1 hts gX6_set_X6_found rfl rfl rfl (by decide +kernel) ⟨Nat.le_of_ble_eq_true rfl, Nat.le_of_ble_eq_true rfl⟩) (va_recv hK hP (ci := 6) (q0 := 0) rfl rfl) hP hD hS hA P_nil (sepW_nil _) (by decide) rfl rfl rfl hl.1 rfl (Nat.le_of_ble_eq_true rfl) rfl dX6_set_43 ⟨Nat.zero_le _, Nat.zero_le _⟩ (fun H locs hP hD hS => ?_)
        have hP : va_P D vwCl ((wX6_0_1 cy ad xp xt u_43.2 sh) ++ (sgS cy SL sln sia snn svv)) H := hP
        have hD : va_D A ((wX6_0_1 cy ad xp xt u_43.2 sh) ++ (sgS cy SL sln sia snn svv)) := hD
        refine lv_i2l hx hb dX6_set_46 rfl ?_
        obtain rfl := Option.some.inj hf
        rw [← hQe]
        exact W.lret (v := (Int32.toInt64 u_43.1)) hx hb hr (fun t ht hW => ⟨rfl, by rw [ht]; exact hP, hS.F ht⟩) hS.2.2 dX6_set_47
  · replace hf := it_p c_4 hf
    refine lv_ldc2 (own := RX6) (v := (-1000001)) hx hb hown hw_0 dX6_set_7 ?_
    obtain rfl := Option.some.inj hf
    rw [← hQe]
    exact W.lret (v := (-1000001)) hx hb hr (fun t ht hW => ⟨rfl, by rw [ht]; exact hP, hS.F ht⟩) hS.2.2 dX6_set_10
def FX6_drop  (xs : Int32) (sh : Nat → Option Nat) (SL : List Nat) (sia : Nat → Nat) (snn : Nat → Nat) (x1 : Int32) : Option (Int32 × (Int32) × (Nat → Option Nat)) := (ob (FX6_isSheet x1) (fun u_1 => if (bi u_1) = 0 then (some ((-1000001), xs, sh)) else (gi x1 8 (bd (sh (Int32.toNatClampNeg x1)) (fun o_15 => oq o_15 ((ob (FX6_found 1) (fun u_23 => some (u_23.1, u_23.2, sh)))) (fun a_18 => gd (a_18 ∈ SL) ((gi x1 8 (ob (FX6_fine (Int32.ofNat (snn a_18))) (fun u_40 => some (u_40.1, u_40.2, (va_up sh (Int32.toNatClampNeg x1) none))))))))))))
abbrev RMX6_drop : Room := { frames := 1, cells := 0, slots := 0, locals := 21 }
set_option maxHeartbeats 4000000 in
set_option maxRecDepth 100000 in
theorem KX6_drop (l : Launch) (D : va_G) (cy : Nat → ClassId) (ad : Nat → Nat) (xp : Int32) (xt : Int32) (xs : Int32) (sh : Nat → Option Nat) (SL : List Nat) (sln : Nat → Int32) (sia : Nat → Nat) (snn : Nat → Nat) (svv : Nat → Nat → Int64) (x1 : Int32) (sz : Nat) {out : Int32 × (Int32) × (Nat → Option Nat)} (hf : FX6_drop xs sh SL sia snn x1 = some out) : Met l yX6_drop wsX6_drop RMX6_drop (PW D cy [.ref (ad 0), .int x1] sz ((wX6_0_1 cy ad xp xt xs sh)) ((sgS cy SL sln sia snn svv))) (QW D (some (.int out.1)) ((wX6_0_1 cy ad xp xt out.2.1 out.2.2)) (va_A ((wX6_0_1 cy ad xp xt xs sh)) sz)) 0 0 (va_A ((wX6_0_1 cy ad xp xt xs sh)) sz) := by
  refine Met.ofW (cc := cX6_drop) (maxL := 3) (ret := (some .int)) (by decide +kernel) rfl ?_
  intro p e s m args below meth c s₁ B hml hv
  obtain ⟨hav, hsz, hP, hR0, hK, hN, hD0, hsep⟩ := hv
  have hx := B.exec
  have hb := B.bytes
  have hr := B.returns
  have hts := atoms_spec (ws := wsX6_drop) B.pre
  have hown : s.vm.findClass RX6 = some m.cls := findClass_of_methodNamed B.named
  have hlocks := B.notSynchronized
  subst hsz
  have hin_X5 : ∀ w ∈ u_ws RX5 TX5 2, w ∈ wsX6_drop := by decide +kernel
  have hin_X6 : ∀ w ∈ u_ws RX6 TX6 10, w ∈ wsX6_drop := by decide +kernel
  have hw_0 := hts (.constant RX6 68 (-1000001)) (by decide +kernel)
  have hw_1 := hts (.fieldLink RX6 19 "ReturnPoints" "sheets" "[LReturnPoints$Sheet;") (by decide +kernel)
  have hw_2 := hts (.fieldLink RX6 85 "ReturnPoints$Sheet" "items" "[J") (by decide +kernel)
  have hD := hD0.self (sz := s.heap.size)
  have hnA := roA hsep hR0
  generalize hAe : va_A ((wX6_0_1 cy ad xp xt xs sh)) s.heap.size = A at hD hnA ⊢
  have hA : ∀ q : Nat, s.heap.size ≤ q → A q := fun q h => by rw [← hAe]; exact Or.inr h
  have hS : va_S A s.heap s.heap [] := va_S.rf
  obtain ⟨ls, hfr, hl⟩ := ent_ok (m := m) (n := 3) (l' := [(0, .ref (ad 0)), (1, .int x1)]) [.ref (ad 0), .int x1] hav (Nat.le_of_ble_eq_true rfl) rfl
  rw [hfr]
  generalize hQe : MQ below (QW D (some (.int out.1)) ((wX6_0_1 cy ad xp xt out.2.1 out.2.2)) A) args s 0 0 A = QQ
  change W p l e RMX6_drop s m args below meth c s.heap [] 0 0 QQ (F0 m 0 ls [])
  have hP : va_P D vwCl ((wX6_0_1 cy ad xp xt xs sh)) s.heap := hP
  have hD : va_D A ((wX6_0_1 cy ad xp xt xs sh)) := hD
  suffices h00 : ∀ (H : Heap) (locs : List Loc), va_P D vwCl ((wX6_0_1 cy ad xp xt xs sh)) H → va_S A s.heap H locs → W p l e RMX6_drop s m args below meth c H locs 0 0 QQ (F0 m 0 ls []) from h00 _ _ hP hS
  clear hP hS
  intro H locs hP hS
  unfold FX6_drop at hf
  refine lv_iload_n hx hb dX6_drop_0 rfl (lv_at hl 1 rfl) ?_
  replace hf := ob_e hf
  obtain ⟨u_1, hu_1, hf⟩ := hf
  refine isR (As := [.int x1]) (rest := []) (st1 := [.int (bi u_1)]) ⟨hx, hb, hml, hown, hts⟩ hK hN (KX6_isSheet l D cy x1 H.size hu_1) (va_cwS 1 hts gX6_drop_X6_isSheet rfl rfl rfl (by decide +kernel) ⟨Nat.le_of_ble_eq_true rfl, Nat.le_of_ble_eq_true rfl⟩) P_nil rfl hl.1 rfl (Nat.le_of_ble_eq_true rfl) rfl dX6_drop_1 ⟨Nat.zero_le _, Nat.zero_le _⟩ ?_
  refine lv_if_ne (tgt := 10) hx hb dX6_drop_4 (by decide) (fun c_4 => ?_) (fun c_4 => ?_)
  · replace hf := it_n c_4 hf
    refine lv_aload_n hx hb dX6_drop_10 rfl (lv_at hl 0 rfl) ?_
    refine va_get (a := (ad 0)) (ci := 6) (v := .ref (ad 1)) (C := RX6) (T := TX6) (N := 10) hx hb hts hin_X6 hown hK hP 0 rfl rfl 1 (by decide) hw_1 (fun _ h => h) rfl dX6_drop_11 ?_
    refine lv_iload_n hx hb dX6_drop_14 rfl (lv_at hl 1 rfl) ?_
    replace hf := gi_e hf
    obtain ⟨i_15, hf⟩ := hf
    refine va_aldq (a := (ad 1)) hx hb hK hP 1 3 rfl rfl i_15 dX6_drop_15 ?_
    refine top_q (fun o_15 e_15 => ?_)
    replace hf := bd_at e_15 hf
    clear e_15
    refine lv_Qastore_n (lv' := [(2, va_rf o_15), (0, .ref (ad 0)), (1, .int x1)]) hx hb dX6_drop_16 rfl hl (by decide) rfl (fun ls hl => ?_)
    refine lv_Qaload_n hx hb dX6_drop_17 rfl (lv_at hl 0 rfl) ?_
    replace hf := oq_e hf
    rcases hf with ⟨rfl, hf⟩ | ⟨a_18, rfl, hf⟩
    · have hl : lv_has ls 3 [(2, .null), (0, .ref (ad 0)), (1, .int x1)] := hl
      refine lv_ifnonnullN hx hb dX6_drop_18 ?_
      refine lv_aload_n hx hb dX6_drop_21 rfl (lv_at hl 1 rfl) ?_
      refine lv_iconst (v := 1) hx hb dX6_drop_22 (by decide) ?_
      replace hf := ob_e hf
      obtain ⟨u_23, hu_23, hf⟩ := hf
      refine ivW (As := [.int 1]) (rest := []) (st1 := [.int u_23.1]) (is := [0]) (w1 := (wX6_0 cy ad xp xt u_23.2)) ⟨hx, hb, hml, hown, hts⟩ hK hN (KX6_found l D cy ad xp xt xs 1 H.size hu_23) (cwV 1 hts gX6_drop_X6_found rfl rfl rfl (by decide +kernel) ⟨Nat.le_of_ble_eq_true rfl, Nat.le_of_ble_eq_true rfl⟩) (va_recv hK hP (ci := 6) (q0 := 0) rfl rfl) hP hD hS hA P_nil (sepW_nil _) (by decide) rfl rfl rfl hl.1 rfl (Nat.le_of_ble_eq_true rfl) rfl dX6_drop_23 ⟨Nat.zero_le _, Nat.zero_le _⟩ (fun H locs hP hD hS => ?_)
      have hP : va_P D vwCl ((wX6_0_1 cy ad xp xt u_23.2 sh)) H := hP
      have hD : va_D A ((wX6_0_1 cy ad xp xt u_23.2 sh)) := hD
      obtain rfl := Option.some.inj hf
      rw [← hQe]
      exact W.iret (v := u_23.1) hx hb hr (fun t ht hW => ⟨rfl, by rw [ht]; exact hP, hS.F ht⟩) hS.2.2 dX6_drop_26
    · replace hf := gd_e hf
      obtain ⟨m_a_18, hf⟩ := hf
      have hl : lv_has ls 3 [(2, .ref a_18), (0, .ref (ad 0)), (1, .int x1)] := hl
      refine lv_ifnonnull (tgt := 27) hx hb dX6_drop_18 (by decide) ?_
      refine lv_aload_n hx hb dX6_drop_27 rfl (lv_at hl 1 rfl) ?_
      refine va_get (a := (ad 0)) (ci := 6) (v := .ref (ad 1)) (C := RX6) (T := TX6) (N := 10) hx hb hts hin_X6 hown hK hP 0 rfl rfl 1 (by decide) hw_1 (fun _ h => h) rfl dX6_drop_28 ?_
      refine lv_iload_n hx hb dX6_drop_31 rfl (lv_at hl 2 rfl) ?_
      refine lv_null hx hb dX6_drop_32 ?_
      replace hf := gi_e hf
      obtain ⟨i_33, hf⟩ := hf
      refine va_astqN (a := (ad 1)) hx hb hK hP hD hS 1 3 rfl rfl i_33 dX6_drop_33 (fun H locs hP hD hS => ?_)
      have hP : va_P D vwCl ((wX6_0_1 cy ad xp xt xs (va_up sh (Int32.toNatClampNeg x1) none))) H := hP
      have hD : va_D A ((wX6_0_1 cy ad xp xt xs (va_up sh (Int32.toNatClampNeg x1) none))) := hD
      refine lv_aload_n hx hb dX6_drop_34 rfl (lv_at hl 1 rfl) ?_
      refine lv_aload_n hx hb dX6_drop_35 rfl (lv_at hl 0 rfl) ?_
      have hR := roN hR0 hnA hS
      have hQ_a_18 : va_P D vwCl (wX5_0_1 cy (adP sia a_18) (snn a_18) (sln a_18) (svv a_18)) H := P_two hR (sgS_1 m_a_18) (sgS_2 m_a_18)
      have hnQ_a_18 : ∀ (k : Nat) (q : Nat × va_E), (wX5_0_1 cy (adP sia a_18) (snn a_18) (sln a_18) (svv a_18))[k]? = some q → ¬ A q.1 := nA_two hnA (sgS_1 m_a_18) (sgS_2 m_a_18)
      refine va_get (a := a_18) (ci := 5) (v := .ref (sia a_18)) (C := RX5) (T := TX5) (N := 2) hx hb hts hin_X5 hown hK hQ_a_18 0 rfl rfl 1 (by decide) hw_2 (fun _ h => h) rfl dX6_drop_36 ?_
      have hR := roN hR0 hnA hS
      have hQ_a_18 : va_P D vwCl (wX5_0_1 cy (adP sia a_18) (snn a_18) (sln a_18) (svv a_18)) H := P_two hR (sgS_1 m_a_18) (sgS_2 m_a_18)
      have hnQ_a_18 : ∀ (k : Nat) (q : Nat × va_E), (wX5_0_1 cy (adP sia a_18) (snn a_18) (sln a_18) (svv a_18))[k]? = some q → ¬ A q.1 := nA_two hnA (sgS_1 m_a_18) (sgS_2 m_a_18)
      refine va_alen (a := (sia a_18)) (v := (Int32.ofNat (snn a_18))) hx hb hK hQ_a_18 1 1 rfl rfl rfl dX6_drop_39 ?_
      replace hf := ob_e hf
      obtain ⟨u_40, hu_40, hf⟩ := hf
      refine ivW (As := [.int (Int32.ofNat (snn a_18))]) (rest := []) (st1 := [.int u_40.1]) (is := [0]) (w1 := (wX6_0 cy ad xp xt u_40.2)) ⟨hx, hb, hml, hown, hts⟩ hK hN (KX6_fine l D cy ad xp xt xs (Int32.ofNat (snn a_18)) H.size hu_40) (cwV 1 hts gX6_drop_X6_fine rfl rfl rfl (by decide +kernel) ⟨Nat.le_of_ble_eq_true rfl, Nat.le_of_ble_eq_true rfl⟩) (va_recv hK hP (ci := 6) (q0 := 0) rfl rfl) hP hD hS hA P_nil (sepW_nil _) (by decide) rfl rfl rfl hl.1 rfl (Nat.le_of_ble_eq_true rfl) rfl dX6_drop_40 ⟨Nat.zero_le _, Nat.zero_le _⟩ (fun H locs hP hD hS => ?_)
      have hP : va_P D vwCl ((wX6_0_1 cy ad xp xt u_40.2 (va_up sh (Int32.toNatClampNeg x1) none))) H := hP
      have hD : va_D A ((wX6_0_1 cy ad xp xt u_40.2 (va_up sh (Int32.toNatClampNeg x1) none))) := hD
      obtain rfl := Option.some.inj hf
      rw [← hQe]
      exact W.iret (v := u_40.1) hx hb hr (fun t ht hW => ⟨rfl, by rw [ht]; exact hP, hS.F ht⟩) hS.2.2 dX6_drop_43
  · replace hf := it_p c_4 hf
    refine lv_ldc (own := RX6) (v := (-1000001)) hx hb hown hw_0 dX6_drop_7 ?_
    obtain rfl := Option.some.inj hf
    rw [← hQe]
    exact W.iret (v := (-1000001)) hx hb hr (fun t ht hW => ⟨rfl, by rw [ht]; exact hP, hS.F ht⟩) hS.2.2 dX6_drop_9
def FX6_clear_J24   (x1 : Int32) (s0_24 : Bool) (sf_24 : Nat → Option Nat) : Option (Int32 × (Nat → Option Nat)) := (gi x1 10 (some ((bi s0_24), (va_up sf_24 (Int32.toNatClampNeg x1) none))))
def FX6_clear  (sf : Nat → Option Nat) (x1 : Int32) : Option (Int32 × (Nat → Option Nat)) := (ob (FX6_isPlace x1) (fun u_1 => if (bi u_1) = 0 then (some ((-1000001), sf)) else (gi x1 10 (bd (sf (Int32.toNatClampNeg x1)) (fun o_15 => oq o_15 ((FX6_clear_J24 x1 false sf)) (fun a_16 => (FX6_clear_J24 x1 true sf)))))))
abbrev RMX6_clear : Room := { frames := 1, cells := 0, slots := 0, locals := 20 }
set_option maxHeartbeats 4000000 in
set_option maxRecDepth 100000 in
theorem KX6_clear (l : Launch) (D : va_G) (cy : Nat → ClassId) (ad : Nat → Nat) (xp : Int32) (xt : Int32) (xs : Int32) (sf : Nat → Option Nat) (x1 : Int32) (sz : Nat) {out : Int32 × (Nat → Option Nat)} (hf : FX6_clear sf x1 = some out) : Met l yX6_clear wsX6_clear RMX6_clear (PW D cy [.ref (ad 0), .int x1] sz ((wX6_0_2 cy ad xp xt xs sf)) []) (QW D (some (.int out.1)) ((wX6_0_2 cy ad xp xt xs out.2)) (va_A ((wX6_0_2 cy ad xp xt xs sf)) sz)) 0 0 (va_A ((wX6_0_2 cy ad xp xt xs sf)) sz) := by
  refine Met.ofW (cc := cX6_clear) (maxL := 3) (ret := (some .int)) (by decide +kernel) rfl ?_
  intro p e s m args below meth c s₁ B hml hv
  obtain ⟨hav, hsz, hP, hR0, hK, hN, hD0, hsep⟩ := hv
  have hx := B.exec
  have hb := B.bytes
  have hr := B.returns
  have hts := atoms_spec (ws := wsX6_clear) B.pre
  have hown : s.vm.findClass RX6 = some m.cls := findClass_of_methodNamed B.named
  have hlocks := B.notSynchronized
  subst hsz
  have hin_X6 : ∀ w ∈ u_ws RX6 TX6 10, w ∈ wsX6_clear := by decide +kernel
  have hw_0 := hts (.constant RX6 68 (-1000001)) (by decide +kernel)
  have hw_1 := hts (.fieldLink RX6 25 "ReturnPoints" "shelf" "[LReturnPoints$Poly;") (by decide +kernel)
  have hD := hD0.self (sz := s.heap.size)
  have hnA := roA hsep hR0
  generalize hAe : va_A ((wX6_0_2 cy ad xp xt xs sf)) s.heap.size = A at hD hnA ⊢
  have hA : ∀ q : Nat, s.heap.size ≤ q → A q := fun q h => by rw [← hAe]; exact Or.inr h
  have hS : va_S A s.heap s.heap [] := va_S.rf
  obtain ⟨ls, hfr, hl⟩ := ent_ok (m := m) (n := 3) (l' := [(0, .ref (ad 0)), (1, .int x1)]) [.ref (ad 0), .int x1] hav (Nat.le_of_ble_eq_true rfl) rfl
  rw [hfr]
  generalize hQe : MQ below (QW D (some (.int out.1)) ((wX6_0_2 cy ad xp xt xs out.2)) A) args s 0 0 A = QQ
  change W p l e RMX6_clear s m args below meth c s.heap [] 0 0 QQ (F0 m 0 ls [])
  have hP : va_P D vwCl ((wX6_0_2 cy ad xp xt xs sf)) s.heap := hP
  have hD : va_D A ((wX6_0_2 cy ad xp xt xs sf)) := hD
  suffices h00 : ∀ (H : Heap) (locs : List Loc), va_P D vwCl ((wX6_0_2 cy ad xp xt xs sf)) H → va_S A s.heap H locs → W p l e RMX6_clear s m args below meth c H locs 0 0 QQ (F0 m 0 ls []) from h00 _ _ hP hS
  clear hP hS
  intro H locs hP hS
  have J24 : ∀ (H : Heap) (locs : List Loc) (ls : Array Slot) (s0_24 : Bool) (sf_24 : Nat → Option Nat), FX6_clear_J24 x1 s0_24 sf_24 = some out → va_P D vwCl ((wX6_0_2 cy ad xp xt xs sf_24)) H → va_D A ((wX6_0_2 cy ad xp xt xs sf_24)) → va_S A s.heap H locs → lv_has ls 3 [(0, .ref (ad 0)), (1, .int x1)] → W p l e RMX6_clear s m args below meth c H locs 0 0 QQ (F0 m 24 ls [.int (bi s0_24)]) := by
    intro H locs ls s0_24 sf_24 hf hP hD hS hl
    unfold FX6_clear_J24 at hf
    refine lv_istore_n (lv' := [(2, .int (bi s0_24)), (0, .ref (ad 0)), (1, .int x1)]) hx hb dX6_clear_24 rfl hl (by decide) rfl (fun ls hl => ?_)
    refine lv_aload_n hx hb dX6_clear_25 rfl (lv_at hl 1 rfl) ?_
    refine va_get (a := (ad 0)) (ci := 6) (v := .ref (ad 2)) (C := RX6) (T := TX6) (N := 10) hx hb hts hin_X6 hown hK hP 0 rfl rfl 2 (by decide) hw_1 (fun _ h => h) rfl dX6_clear_26 ?_
    refine lv_iload_n hx hb dX6_clear_29 rfl (lv_at hl 2 rfl) ?_
    refine lv_null hx hb dX6_clear_30 ?_
    replace hf := gi_e hf
    obtain ⟨i_31, hf⟩ := hf
    refine va_astqN (a := (ad 2)) hx hb hK hP hD hS 1 4 rfl rfl i_31 dX6_clear_31 (fun H locs hP hD hS => ?_)
    have hP : va_P D vwCl ((wX6_0_2 cy ad xp xt xs (va_up sf_24 (Int32.toNatClampNeg x1) none))) H := hP
    have hD : va_D A ((wX6_0_2 cy ad xp xt xs (va_up sf_24 (Int32.toNatClampNeg x1) none))) := hD
    refine lv_iload_n hx hb dX6_clear_32 rfl (lv_at hl 0 rfl) ?_
    obtain rfl := Option.some.inj hf
    rw [← hQe]
    exact W.iret (v := (bi s0_24)) hx hb hr (fun t ht hW => ⟨rfl, by rw [ht]; exact hP, hS.F ht⟩) hS.2.2 dX6_clear_33
  unfold FX6_clear at hf
  refine lv_iload_n hx hb dX6_clear_0 rfl (lv_at hl 1 rfl) ?_
  replace hf := ob_e hf
  obtain ⟨u_1, hu_1, hf⟩ := hf
  refine isR (As := [.int x1]) (rest := []) (st1 := [.int (bi u_1)]) ⟨hx, hb, hml, hown, hts⟩ hK hN (KX6_isPlace l D cy x1 H.size hu_1) (va_cwS 1 hts gX6_clear_X6_isPlace rfl rfl rfl (by decide +kernel) ⟨Nat.le_of_ble_eq_true rfl, Nat.le_of_ble_eq_true rfl⟩) P_nil rfl hl.1 rfl (Nat.le_of_ble_eq_true rfl) rfl dX6_clear_1 ⟨Nat.zero_le _, Nat.zero_le _⟩ ?_
  refine lv_if_ne (tgt := 10) hx hb dX6_clear_4 (by decide) (fun c_4 => ?_) (fun c_4 => ?_)
  · replace hf := it_n c_4 hf
    refine lv_aload_n hx hb dX6_clear_10 rfl (lv_at hl 0 rfl) ?_
    refine va_get (a := (ad 0)) (ci := 6) (v := .ref (ad 2)) (C := RX6) (T := TX6) (N := 10) hx hb hts hin_X6 hown hK hP 0 rfl rfl 2 (by decide) hw_1 (fun _ h => h) rfl dX6_clear_11 ?_
    refine lv_iload_n hx hb dX6_clear_14 rfl (lv_at hl 1 rfl) ?_
    replace hf := gi_e hf
    obtain ⟨i_15, hf⟩ := hf
    refine va_aldq (a := (ad 2)) hx hb hK hP 1 4 rfl rfl i_15 dX6_clear_15 ?_
    refine top_q (fun o_15 e_15 => ?_)
    replace hf := bd_at e_15 hf
    clear e_15
    replace hf := oq_e hf
    rcases hf with ⟨rfl, hf⟩ | ⟨a_16, rfl, hf⟩
    · have hl : lv_has ls 3 [(0, .ref (ad 0)), (1, .int x1)] := hl
      refine lv_ifnonnullN hx hb dX6_clear_16 ?_
      refine lv_iconst (v := 0) hx hb dX6_clear_19 (by decide) ?_
      refine lv_goto (tgt := 24) hx hb dX6_clear_20 (by decide) ?_
      exact J24 H locs ls false sf hf hP hD hS (lv_sub hl [0, 1] rfl)
    · have hl : lv_has ls 3 [(0, .ref (ad 0)), (1, .int x1)] := hl
      refine lv_ifnonnull (tgt := 23) hx hb dX6_clear_16 (by decide) ?_
      refine lv_iconst (v := 1) hx hb dX6_clear_23 (by decide) ?_
      exact J24 H locs ls true sf hf hP hD hS (lv_sub hl [0, 1] rfl)
  · replace hf := it_p c_4 hf
    refine lv_ldc (own := RX6) (v := (-1000001)) hx hb hown hw_0 dX6_clear_7 ?_
    obtain rfl := Option.some.inj hf
    rw [← hQe]
    exact W.iret (v := (-1000001)) hx hb hr (fun t ht hW => ⟨rfl, by rw [ht]; exact hP, hS.F ht⟩) hS.2.2 dX6_clear_9
def FX6_number_J55   (s1_55 : Int32) : Option (Int32 × (Int32)) := (ob (FX6_fine s1_55) (fun u_55 => some (u_55.1, u_55.2)))
def FX6_number  (xs : Int32) (sf : Nat → Option Nat) (PL : List Nat) (pca : Nat → Nat) (pdg : Nat → Int32) (pcc : Nat → Nat → Int32) (x1 : Int32) (x2 : Int32) : Option (Int32 × (Int32)) := (ob (FX6_isPlace x1) (fun u_1 => if (bi u_1) = 0 then (some ((-1000001), xs)) else (if x2 < (-1) then (some ((-1000001), xs)) else (if x2 ≤ 4 then (gi x1 10 (bd (sf (Int32.toNatClampNeg x1)) (fun o_25 => oq o_25 ((ob (FX6_found 1) (fun u_33 => some (u_33.1, u_33.2)))) (fun a_28 => gd (a_28 ∈ PL) ((if 0 ≤ x2 then (gi x2 5 (FX6_number_J55 ((pcc a_28) (Int32.toNatClampNeg x2)))) else (FX6_number_J55 (pdg a_28)))))))) else (some ((-1000001), xs))))))
abbrev RMX6_number : Room := { frames := 1, cells := 0, slots := 0, locals := 21 }
set_option maxHeartbeats 4000000 in
set_option maxRecDepth 100000 in
theorem KX6_number (l : Launch) (D : va_G) (cy : Nat → ClassId) (ad : Nat → Nat) (xp : Int32) (xt : Int32) (xs : Int32) (sf : Nat → Option Nat) (PL : List Nat) (ppp : Nat → Int32) (pca : Nat → Nat) (pdg : Nat → Int32) (ptd : Nat → Int32) (pcc : Nat → Nat → Int32) (x1 : Int32) (x2 : Int32) (sz : Nat) {out : Int32 × (Int32)} (hf : FX6_number xs sf PL pca pdg pcc x1 x2 = some out) : Met l yX6_number wsX6_number RMX6_number (PW D cy [.ref (ad 0), .int x1, .int x2] sz ((wX6_0_2 cy ad xp xt xs sf)) ((sgP cy PL ppp pca pdg ptd pcc))) (QW D (some (.int out.1)) ((wX6_0_2 cy ad xp xt out.2 sf)) (va_A ((wX6_0_2 cy ad xp xt xs sf)) sz)) 0 0 (va_A ((wX6_0_2 cy ad xp xt xs sf)) sz) := by
  refine Met.ofW (cc := cX6_number) (maxL := 4) (ret := (some .int)) (by decide +kernel) rfl ?_
  intro p e s m args below meth c s₁ B hml hv
  obtain ⟨hav, hsz, hP, hR0, hK, hN, hD0, hsep⟩ := hv
  have hx := B.exec
  have hb := B.bytes
  have hr := B.returns
  have hts := atoms_spec (ws := wsX6_number) B.pre
  have hown : s.vm.findClass RX6 = some m.cls := findClass_of_methodNamed B.named
  have hlocks := B.notSynchronized
  subst hsz
  have hin_X2 : ∀ w ∈ u_ws RX2 TX2 4, w ∈ wsX6_number := by decide +kernel
  have hin_X6 : ∀ w ∈ u_ws RX6 TX6 10, w ∈ wsX6_number := by decide +kernel
  have hw_0 := hts (.constant RX6 68 (-1000001)) (by decide +kernel)
  have hw_1 := hts (.fieldLink RX6 25 "ReturnPoints" "shelf" "[LReturnPoints$Poly;") (by decide +kernel)
  have hw_2 := hts (.fieldLink RX6 126 "ReturnPoints$Poly" "c" "[I") (by decide +kernel)
  have hw_3 := hts (.fieldLink RX6 122 "ReturnPoints$Poly" "degree" "I") (by decide +kernel)
  have hD := hD0.self (sz := s.heap.size)
  have hnA := roA hsep hR0
  generalize hAe : va_A ((wX6_0_2 cy ad xp xt xs sf)) s.heap.size = A at hD hnA ⊢
  have hA : ∀ q : Nat, s.heap.size ≤ q → A q := fun q h => by rw [← hAe]; exact Or.inr h
  have hS : va_S A s.heap s.heap [] := va_S.rf
  obtain ⟨ls, hfr, hl⟩ := ent_ok (m := m) (n := 4) (l' := [(0, .ref (ad 0)), (1, .int x1), (2, .int x2)]) [.ref (ad 0), .int x1, .int x2] hav (Nat.le_of_ble_eq_true rfl) rfl
  rw [hfr]
  generalize hQe : MQ below (QW D (some (.int out.1)) ((wX6_0_2 cy ad xp xt out.2 sf)) A) args s 0 0 A = QQ
  change W p l e RMX6_number s m args below meth c s.heap [] 0 0 QQ (F0 m 0 ls [])
  have hP : va_P D vwCl ((wX6_0_2 cy ad xp xt xs sf)) s.heap := hP
  have hD : va_D A ((wX6_0_2 cy ad xp xt xs sf)) := hD
  suffices h00 : ∀ (H : Heap) (locs : List Loc), va_P D vwCl ((wX6_0_2 cy ad xp xt xs sf)) H → va_S A s.heap H locs → W p l e RMX6_number s m args below meth c H locs 0 0 QQ (F0 m 0 ls []) from h00 _ _ hP hS
  clear hP hS
  intro H locs hP hS
  have J55 : ∀ (H : Heap) (locs : List Loc) (ls : Array Slot) (s1_55 : Int32) (xs_55 : Int32), FX6_number_J55 s1_55 = some out → va_P D vwCl ((wX6_0_2 cy ad xp xt xs_55 sf)) H → va_D A ((wX6_0_2 cy ad xp xt xs_55 sf)) → va_S A s.heap H locs → lv_has ls 4 [] → W p l e RMX6_number s m args below meth c H locs 0 0 QQ (F0 m 55 ls [.int s1_55, .ref (ad 0)]) := by
    intro H locs ls s1_55 xs_55 hf hP hD hS hl
    unfold FX6_number_J55 at hf
    replace hf := ob_e hf
    obtain ⟨u_55, hu_55, hf⟩ := hf
    refine ivW (As := [.int s1_55]) (rest := []) (st1 := [.int u_55.1]) (is := [0]) (w1 := (wX6_0 cy ad xp xt u_55.2)) ⟨hx, hb, hml, hown, hts⟩ hK hN (KX6_fine l D cy ad xp xt xs_55 s1_55 H.size hu_55) (cwV 1 hts gX6_number_X6_fine rfl rfl rfl (by decide +kernel) ⟨Nat.le_of_ble_eq_true rfl, Nat.le_of_ble_eq_true rfl⟩) (va_recv hK hP (ci := 6) (q0 := 0) rfl rfl) hP hD hS hA P_nil (sepW_nil _) (by decide) rfl rfl rfl hl.1 rfl (Nat.le_of_ble_eq_true rfl) rfl dX6_number_55 ⟨Nat.zero_le _, Nat.zero_le _⟩ (fun H locs hP hD hS => ?_)
    have hP : va_P D vwCl ((wX6_0_2 cy ad xp xt u_55.2 sf)) H := hP
    have hD : va_D A ((wX6_0_2 cy ad xp xt u_55.2 sf)) := hD
    obtain rfl := Option.some.inj hf
    rw [← hQe]
    exact W.iret (v := u_55.1) hx hb hr (fun t ht hW => ⟨rfl, by rw [ht]; exact hP, hS.F ht⟩) hS.2.2 dX6_number_58
  unfold FX6_number at hf
  refine lv_iload_n hx hb dX6_number_0 rfl (lv_at hl 1 rfl) ?_
  replace hf := ob_e hf
  obtain ⟨u_1, hu_1, hf⟩ := hf
  refine isR (As := [.int x1]) (rest := []) (st1 := [.int (bi u_1)]) ⟨hx, hb, hml, hown, hts⟩ hK hN (KX6_isPlace l D cy x1 H.size hu_1) (va_cwS 1 hts gX6_number_X6_isPlace rfl rfl rfl (by decide +kernel) ⟨Nat.le_of_ble_eq_true rfl, Nat.le_of_ble_eq_true rfl⟩) P_nil rfl hl.1 rfl (Nat.le_of_ble_eq_true rfl) rfl dX6_number_1 ⟨Nat.zero_le _, Nat.zero_le _⟩ ?_
  refine lv_if_eq (tgt := 17) hx hb dX6_number_4 (by decide) (fun c_4 => ?_) (fun c_4 => ?_)
  · replace hf := it_p c_4 hf
    refine lv_ldc (own := RX6) (v := (-1000001)) hx hb hown hw_0 dX6_number_17 ?_
    obtain rfl := Option.some.inj hf
    rw [← hQe]
    exact W.iret (v := (-1000001)) hx hb hr (fun t ht hW => ⟨rfl, by rw [ht]; exact hP, hS.F ht⟩) hS.2.2 dX6_number_19
  · replace hf := it_n c_4 hf
    refine lv_iload_n hx hb dX6_number_7 rfl (lv_at hl 2 rfl) ?_
    refine lv_iconst (v := (-1)) hx hb dX6_number_8 (by decide) ?_
    refine lv_icmp_lt (tgt := 17) hx hb dX6_number_9 (by decide) (fun c_9 => ?_) (fun c_9 => ?_)
    · replace hf := it_p c_9 hf
      refine lv_ldc (own := RX6) (v := (-1000001)) hx hb hown hw_0 dX6_number_17 ?_
      obtain rfl := Option.some.inj hf
      rw [← hQe]
      exact W.iret (v := (-1000001)) hx hb hr (fun t ht hW => ⟨rfl, by rw [ht]; exact hP, hS.F ht⟩) hS.2.2 dX6_number_19
    · replace hf := it_n c_9 hf
      refine lv_iload_n hx hb dX6_number_12 rfl (lv_at hl 2 rfl) ?_
      refine lv_iconst (v := 4) hx hb dX6_number_13 (by decide) ?_
      refine lv_icmp_le (tgt := 20) hx hb dX6_number_14 (by decide) (fun c_14 => ?_) (fun c_14 => ?_)
      · replace hf := it_p c_14 hf
        refine lv_aload_n hx hb dX6_number_20 rfl (lv_at hl 0 rfl) ?_
        refine va_get (a := (ad 0)) (ci := 6) (v := .ref (ad 2)) (C := RX6) (T := TX6) (N := 10) hx hb hts hin_X6 hown hK hP 0 rfl rfl 2 (by decide) hw_1 (fun _ h => h) rfl dX6_number_21 ?_
        refine lv_iload_n hx hb dX6_number_24 rfl (lv_at hl 1 rfl) ?_
        replace hf := gi_e hf
        obtain ⟨i_25, hf⟩ := hf
        refine va_aldq (a := (ad 2)) hx hb hK hP 1 4 rfl rfl i_25 dX6_number_25 ?_
        refine top_q (fun o_25 e_25 => ?_)
        replace hf := bd_at e_25 hf
        clear e_25
        refine lv_Qastore_n (lv' := [(3, va_rf o_25), (0, .ref (ad 0)), (1, .int x1), (2, .int x2)]) hx hb dX6_number_26 rfl hl (by decide) rfl (fun ls hl => ?_)
        refine lv_Qaload_n hx hb dX6_number_27 rfl (lv_at hl 0 rfl) ?_
        replace hf := oq_e hf
        rcases hf with ⟨rfl, hf⟩ | ⟨a_28, rfl, hf⟩
        · have hl : lv_has ls 4 [(3, .null), (0, .ref (ad 0)), (1, .int x1), (2, .int x2)] := hl
          refine lv_ifnonnullN hx hb dX6_number_28 ?_
          refine lv_aload_n hx hb dX6_number_31 rfl (lv_at hl 1 rfl) ?_
          refine lv_iconst (v := 1) hx hb dX6_number_32 (by decide) ?_
          replace hf := ob_e hf
          obtain ⟨u_33, hu_33, hf⟩ := hf
          refine ivW (As := [.int 1]) (rest := []) (st1 := [.int u_33.1]) (is := [0]) (w1 := (wX6_0 cy ad xp xt u_33.2)) ⟨hx, hb, hml, hown, hts⟩ hK hN (KX6_found l D cy ad xp xt xs 1 H.size hu_33) (cwV 1 hts gX6_number_X6_found rfl rfl rfl (by decide +kernel) ⟨Nat.le_of_ble_eq_true rfl, Nat.le_of_ble_eq_true rfl⟩) (va_recv hK hP (ci := 6) (q0 := 0) rfl rfl) hP hD hS hA P_nil (sepW_nil _) (by decide) rfl rfl rfl hl.1 rfl (Nat.le_of_ble_eq_true rfl) rfl dX6_number_33 ⟨Nat.zero_le _, Nat.zero_le _⟩ (fun H locs hP hD hS => ?_)
          have hP : va_P D vwCl ((wX6_0_2 cy ad xp xt u_33.2 sf)) H := hP
          have hD : va_D A ((wX6_0_2 cy ad xp xt u_33.2 sf)) := hD
          obtain rfl := Option.some.inj hf
          rw [← hQe]
          exact W.iret (v := u_33.1) hx hb hr (fun t ht hW => ⟨rfl, by rw [ht]; exact hP, hS.F ht⟩) hS.2.2 dX6_number_36
        · replace hf := gd_e hf
          obtain ⟨m_a_28, hf⟩ := hf
          have hl : lv_has ls 4 [(3, .ref a_28), (0, .ref (ad 0)), (1, .int x1), (2, .int x2)] := hl
          refine lv_ifnonnull (tgt := 37) hx hb dX6_number_28 (by decide) ?_
          refine lv_aload_n hx hb dX6_number_37 rfl (lv_at hl 1 rfl) ?_
          refine lv_iload_n hx hb dX6_number_38 rfl (lv_at hl 3 rfl) ?_
          refine lv_if_ge (tgt := 49) hx hb dX6_number_39 (by decide) (fun c_39 => ?_) (fun c_39 => ?_)
          · replace hf := it_p c_39 hf
            refine lv_aload_n hx hb dX6_number_49 rfl (lv_at hl 0 rfl) ?_
            have hR := roN hR0 hnA hS
            have hQ_a_28 : va_P D vwCl (wX2_0_1 cy (adP pca a_28) 5 (ppp a_28) (pdg a_28) (ptd a_28) (pcc a_28)) H := P_two hR (sgP_1 m_a_28) (sgP_2 m_a_28)
            have hnQ_a_28 : ∀ (k : Nat) (q : Nat × va_E), (wX2_0_1 cy (adP pca a_28) 5 (ppp a_28) (pdg a_28) (ptd a_28) (pcc a_28))[k]? = some q → ¬ A q.1 := nA_two hnA (sgP_1 m_a_28) (sgP_2 m_a_28)
            refine va_get (a := a_28) (ci := 2) (v := .ref (pca a_28)) (C := RX2) (T := TX2) (N := 4) hx hb hts hin_X2 hown hK hQ_a_28 0 rfl rfl 1 (by decide) hw_2 (fun _ h => h) rfl dX6_number_50 ?_
            refine lv_iload_n hx hb dX6_number_53 rfl (lv_at hl 3 rfl) ?_
            replace hf := gi_e hf
            obtain ⟨i_54, hf⟩ := hf
            have hR := roN hR0 hnA hS
            have hQ_a_28 : va_P D vwCl (wX2_0_1 cy (adP pca a_28) 5 (ppp a_28) (pdg a_28) (ptd a_28) (pcc a_28)) H := P_two hR (sgP_1 m_a_28) (sgP_2 m_a_28)
            have hnQ_a_28 : ∀ (k : Nat) (q : Nat × va_E), (wX2_0_1 cy (adP pca a_28) 5 (ppp a_28) (pdg a_28) (ptd a_28) (pcc a_28))[k]? = some q → ¬ A q.1 := nA_two hnA (sgP_1 m_a_28) (sgP_2 m_a_28)
            refine va_iald (a := (pca a_28)) hx hb hK hQ_a_28 1 0 rfl rfl i_54 dX6_number_54 ?_
            exact J55 H locs ls ((pcc a_28) (Int32.toNatClampNeg x2)) xs hf hP hD hS (lv_sub hl [] rfl)
          · replace hf := it_n c_39 hf
            refine lv_aload_n hx hb dX6_number_42 rfl (lv_at hl 0 rfl) ?_
            have hR := roN hR0 hnA hS
            have hQ_a_28 : va_P D vwCl (wX2_0_1 cy (adP pca a_28) 5 (ppp a_28) (pdg a_28) (ptd a_28) (pcc a_28)) H := P_two hR (sgP_1 m_a_28) (sgP_2 m_a_28)
            have hnQ_a_28 : ∀ (k : Nat) (q : Nat × va_E), (wX2_0_1 cy (adP pca a_28) 5 (ppp a_28) (pdg a_28) (ptd a_28) (pcc a_28))[k]? = some q → ¬ A q.1 := nA_two hnA (sgP_1 m_a_28) (sgP_2 m_a_28)
            refine va_get (a := a_28) (ci := 2) (v := .int (pdg a_28)) (C := RX2) (T := TX2) (N := 4) hx hb hts hin_X2 hown hK hQ_a_28 0 rfl rfl 2 (by decide) hw_3 (fun _ h => h) rfl dX6_number_43 ?_
            refine lv_goto (tgt := 55) hx hb dX6_number_46 (by decide) ?_
            exact J55 H locs ls (pdg a_28) xs hf hP hD hS (lv_sub hl [] rfl)
      · replace hf := it_n c_14 hf
        refine lv_ldc (own := RX6) (v := (-1000001)) hx hb hown hw_0 dX6_number_17 ?_
        obtain rfl := Option.some.inj hf
        rw [← hQe]
        exact W.iret (v := (-1000001)) hx hb hr (fun t ht hW => ⟨rfl, by rw [ht]; exact hP, hS.F ht⟩) hS.2.2 dX6_number_19
def FX6_kind  (xs : Int32) (sf : Nat → Option Nat) (PL : List Nat) (ptd : Nat → Int32) (x1 : Int32) : Option (Int32 × (Int32)) := (ob (FX6_isPlace x1) (fun u_1 => if (bi u_1) = 0 then (some ((-1000001), xs)) else (gi x1 10 (bd (sf (Int32.toNatClampNeg x1)) (fun o_15 => oq o_15 ((ob (FX6_found 1) (fun u_23 => (some (u_23.1, u_23.2))))) (fun a_18 => gd (a_18 ∈ PL) ((ob (FX6_fine (ptd a_18)) (fun u_34 => (some (u_34.1, u_34.2)))))))))))
abbrev RMX6_kind : Room := { frames := 1, cells := 0, slots := 0, locals := 21 }
set_option maxHeartbeats 4000000 in
set_option maxRecDepth 100000 in
theorem KX6_kind (l : Launch) (D : va_G) (cy : Nat → ClassId) (ad : Nat → Nat) (xp : Int32) (xt : Int32) (xs : Int32) (sf : Nat → Option Nat) (PL : List Nat) (ppp : Nat → Int32) (pca : Nat → Nat) (pdg : Nat → Int32) (ptd : Nat → Int32) (pcc : Nat → Nat → Int32) (x1 : Int32) (sz : Nat) {out : Int32 × (Int32)} (hf : FX6_kind xs sf PL ptd x1 = some out) : Met l yX6_kind wsX6_kind RMX6_kind (PW D cy [.ref (ad 0), .int x1] sz ((wX6_0_2 cy ad xp xt xs sf)) ((sgP cy PL ppp pca pdg ptd pcc))) (QW D (some (.int out.1)) ((wX6_0_2 cy ad xp xt out.2 sf)) (va_A ((wX6_0_2 cy ad xp xt xs sf)) sz)) 0 0 (va_A ((wX6_0_2 cy ad xp xt xs sf)) sz) := by
  refine Met.ofW (cc := cX6_kind) (maxL := 3) (ret := (some .int)) (by decide +kernel) rfl ?_
  intro p e s m args below meth c s₁ B hml hv
  obtain ⟨hav, hsz, hP, hR0, hK, hN, hD0, hsep⟩ := hv
  have hx := B.exec
  have hb := B.bytes
  have hr := B.returns
  have hts := atoms_spec (ws := wsX6_kind) B.pre
  have hown : s.vm.findClass RX6 = some m.cls := findClass_of_methodNamed B.named
  have hlocks := B.notSynchronized
  subst hsz
  have hin_X2 : ∀ w ∈ u_ws RX2 TX2 4, w ∈ wsX6_kind := by decide +kernel
  have hin_X6 : ∀ w ∈ u_ws RX6 TX6 10, w ∈ wsX6_kind := by decide +kernel
  have hw_0 := hts (.constant RX6 68 (-1000001)) (by decide +kernel)
  have hw_1 := hts (.fieldLink RX6 25 "ReturnPoints" "shelf" "[LReturnPoints$Poly;") (by decide +kernel)
  have hw_2 := hts (.fieldLink RX6 133 "ReturnPoints$Poly" "told" "I") (by decide +kernel)
  have hD := hD0.self (sz := s.heap.size)
  have hnA := roA hsep hR0
  generalize hAe : va_A ((wX6_0_2 cy ad xp xt xs sf)) s.heap.size = A at hD hnA ⊢
  have hA : ∀ q : Nat, s.heap.size ≤ q → A q := fun q h => by rw [← hAe]; exact Or.inr h
  have hS : va_S A s.heap s.heap [] := va_S.rf
  obtain ⟨ls, hfr, hl⟩ := ent_ok (m := m) (n := 3) (l' := [(0, .ref (ad 0)), (1, .int x1)]) [.ref (ad 0), .int x1] hav (Nat.le_of_ble_eq_true rfl) rfl
  rw [hfr]
  generalize hQe : MQ below (QW D (some (.int out.1)) ((wX6_0_2 cy ad xp xt out.2 sf)) A) args s 0 0 A = QQ
  change W p l e RMX6_kind s m args below meth c s.heap [] 0 0 QQ (F0 m 0 ls [])
  have hP : va_P D vwCl ((wX6_0_2 cy ad xp xt xs sf)) s.heap := hP
  have hD : va_D A ((wX6_0_2 cy ad xp xt xs sf)) := hD
  suffices h00 : ∀ (H : Heap) (locs : List Loc), va_P D vwCl ((wX6_0_2 cy ad xp xt xs sf)) H → va_S A s.heap H locs → W p l e RMX6_kind s m args below meth c H locs 0 0 QQ (F0 m 0 ls []) from h00 _ _ hP hS
  clear hP hS
  intro H locs hP hS
  unfold FX6_kind at hf
  refine lv_iload_n hx hb dX6_kind_0 rfl (lv_at hl 1 rfl) ?_
  replace hf := ob_e hf
  obtain ⟨u_1, hu_1, hf⟩ := hf
  refine isR (As := [.int x1]) (rest := []) (st1 := [.int (bi u_1)]) ⟨hx, hb, hml, hown, hts⟩ hK hN (KX6_isPlace l D cy x1 H.size hu_1) (va_cwS 1 hts gX6_kind_X6_isPlace rfl rfl rfl (by decide +kernel) ⟨Nat.le_of_ble_eq_true rfl, Nat.le_of_ble_eq_true rfl⟩) P_nil rfl hl.1 rfl (Nat.le_of_ble_eq_true rfl) rfl dX6_kind_1 ⟨Nat.zero_le _, Nat.zero_le _⟩ ?_
  refine lv_if_ne (tgt := 10) hx hb dX6_kind_4 (by decide) (fun c_4 => ?_) (fun c_4 => ?_)
  · replace hf := it_n c_4 hf
    refine lv_aload_n hx hb dX6_kind_10 rfl (lv_at hl 0 rfl) ?_
    refine va_get (a := (ad 0)) (ci := 6) (v := .ref (ad 2)) (C := RX6) (T := TX6) (N := 10) hx hb hts hin_X6 hown hK hP 0 rfl rfl 2 (by decide) hw_1 (fun _ h => h) rfl dX6_kind_11 ?_
    refine lv_iload_n hx hb dX6_kind_14 rfl (lv_at hl 1 rfl) ?_
    replace hf := gi_e hf
    obtain ⟨i_15, hf⟩ := hf
    refine va_aldq (a := (ad 2)) hx hb hK hP 1 4 rfl rfl i_15 dX6_kind_15 ?_
    refine top_q (fun o_15 e_15 => ?_)
    replace hf := bd_at e_15 hf
    clear e_15
    refine lv_Qastore_n (lv' := [(2, va_rf o_15), (0, .ref (ad 0)), (1, .int x1)]) hx hb dX6_kind_16 rfl hl (by decide) rfl (fun ls hl => ?_)
    refine lv_Qaload_n hx hb dX6_kind_17 rfl (lv_at hl 0 rfl) ?_
    replace hf := oq_e hf
    rcases hf with ⟨rfl, hf⟩ | ⟨a_18, rfl, hf⟩
    · have hl : lv_has ls 3 [(2, .null), (0, .ref (ad 0)), (1, .int x1)] := hl
      refine lv_ifnonnullN hx hb dX6_kind_18 ?_
      refine lv_aload_n hx hb dX6_kind_21 rfl (lv_at hl 1 rfl) ?_
      refine lv_iconst (v := 1) hx hb dX6_kind_22 (by decide) ?_
      replace hf := ob_e hf
      obtain ⟨u_23, hu_23, hf⟩ := hf
      refine ivW (As := [.int 1]) (rest := []) (st1 := [.int u_23.1]) (is := [0]) (w1 := (wX6_0 cy ad xp xt u_23.2)) ⟨hx, hb, hml, hown, hts⟩ hK hN (KX6_found l D cy ad xp xt xs 1 H.size hu_23) (cwV 1 hts gX6_kind_X6_found rfl rfl rfl (by decide +kernel) ⟨Nat.le_of_ble_eq_true rfl, Nat.le_of_ble_eq_true rfl⟩) (va_recv hK hP (ci := 6) (q0 := 0) rfl rfl) hP hD hS hA P_nil (sepW_nil _) (by decide) rfl rfl rfl hl.1 rfl (Nat.le_of_ble_eq_true rfl) rfl dX6_kind_23 ⟨Nat.zero_le _, Nat.zero_le _⟩ (fun H locs hP hD hS => ?_)
      have hP : va_P D vwCl ((wX6_0_2 cy ad xp xt u_23.2 sf)) H := hP
      have hD : va_D A ((wX6_0_2 cy ad xp xt u_23.2 sf)) := hD
      refine lv_goto (tgt := 37) hx hb dX6_kind_26 (by decide) ?_
      obtain rfl := Option.some.inj hf
      rw [← hQe]
      exact W.iret (v := u_23.1) hx hb hr (fun t ht hW => ⟨rfl, by rw [ht]; exact hP, hS.F ht⟩) hS.2.2 dX6_kind_37
    · replace hf := gd_e hf
      obtain ⟨m_a_18, hf⟩ := hf
      have hl : lv_has ls 3 [(2, .ref a_18), (0, .ref (ad 0)), (1, .int x1)] := hl
      refine lv_ifnonnull (tgt := 29) hx hb dX6_kind_18 (by decide) ?_
      refine lv_aload_n hx hb dX6_kind_29 rfl (lv_at hl 1 rfl) ?_
      refine lv_aload_n hx hb dX6_kind_30 rfl (lv_at hl 0 rfl) ?_
      have hR := roN hR0 hnA hS
      have hQ_a_18 : va_P D vwCl (wX2_0_1 cy (adP pca a_18) 5 (ppp a_18) (pdg a_18) (ptd a_18) (pcc a_18)) H := P_two hR (sgP_1 m_a_18) (sgP_2 m_a_18)
      have hnQ_a_18 : ∀ (k : Nat) (q : Nat × va_E), (wX2_0_1 cy (adP pca a_18) 5 (ppp a_18) (pdg a_18) (ptd a_18) (pcc a_18))[k]? = some q → ¬ A q.1 := nA_two hnA (sgP_1 m_a_18) (sgP_2 m_a_18)
      refine va_get (a := a_18) (ci := 2) (v := .int (ptd a_18)) (C := RX2) (T := TX2) (N := 4) hx hb hts hin_X2 hown hK hQ_a_18 0 rfl rfl 3 (by decide) hw_2 (fun _ h => h) rfl dX6_kind_31 ?_
      replace hf := ob_e hf
      obtain ⟨u_34, hu_34, hf⟩ := hf
      refine ivW (As := [.int (ptd a_18)]) (rest := []) (st1 := [.int u_34.1]) (is := [0]) (w1 := (wX6_0 cy ad xp xt u_34.2)) ⟨hx, hb, hml, hown, hts⟩ hK hN (KX6_fine l D cy ad xp xt xs (ptd a_18) H.size hu_34) (cwV 1 hts gX6_kind_X6_fine rfl rfl rfl (by decide +kernel) ⟨Nat.le_of_ble_eq_true rfl, Nat.le_of_ble_eq_true rfl⟩) (va_recv hK hP (ci := 6) (q0 := 0) rfl rfl) hP hD hS hA P_nil (sepW_nil _) (by decide) rfl rfl rfl hl.1 rfl (Nat.le_of_ble_eq_true rfl) rfl dX6_kind_34 ⟨Nat.zero_le _, Nat.zero_le _⟩ (fun H locs hP hD hS => ?_)
      have hP : va_P D vwCl ((wX6_0_2 cy ad xp xt u_34.2 sf)) H := hP
      have hD : va_D A ((wX6_0_2 cy ad xp xt u_34.2 sf)) := hD
      obtain rfl := Option.some.inj hf
      rw [← hQe]
      exact W.iret (v := u_34.1) hx hb hr (fun t ht hW => ⟨rfl, by rw [ht]; exact hP, hS.F ht⟩) hS.2.2 dX6_kind_37
  · replace hf := it_p c_4 hf
    refine lv_ldc (own := RX6) (v := (-1000001)) hx hb hown hw_0 dX6_kind_7 ?_
    obtain rfl := Option.some.inj hf
    rw [← hQe]
    exact W.iret (v := (-1000001)) hx hb hr (fun t ht hW => ⟨rfl, by rw [ht]; exact hP, hS.F ht⟩) hS.2.2 dX6_kind_9
def FX6_is  (sf : Nat → Option Nat) (PL : List Nat) (ppp : Nat → Int32) (pca : Nat → Nat) (pdg : Nat → Int32) (ptd : Nat → Int32) (pcc : Nat → Nat → Int32) (x1 : Int32) (x2 : Int32) : Option (Int32) := (ob (FX6_isPlace x1) (fun u_1 => if (bi u_1) = 0 then (some ((-1000001))) else (ob (FX6_isKind x2) (fun u_8 => if (bi u_8) = 0 then (some ((-1000001))) else (gi x1 10 (bd (sf (Int32.toNatClampNeg x1)) (fun o_22 => oq o_22 (((some (0)))) (fun a_25 => gd (a_25 ∈ PL) ((ob (FX2_fits (ptd a_25) x2) (fun u_30 => if (bi u_30) = 0 then ((some (0))) else ((some (1))))))))))))))
abbrev RMX6_is : Room := { frames := 1, cells := 0, slots := 0, locals := 21 }
set_option maxHeartbeats 4000000 in
set_option maxRecDepth 100000 in
theorem KX6_is (l : Launch) (D : va_G) (cy : Nat → ClassId) (ad : Nat → Nat) (xp : Int32) (xt : Int32) (xs : Int32) (sf : Nat → Option Nat) (PL : List Nat) (ppp : Nat → Int32) (pca : Nat → Nat) (pdg : Nat → Int32) (ptd : Nat → Int32) (pcc : Nat → Nat → Int32) (x1 : Int32) (x2 : Int32) (sz : Nat) {out : Int32} (hf : FX6_is sf PL ppp pca pdg ptd pcc x1 x2 = some out) : Met l yX6_is wsX6_is RMX6_is (PW D cy [.ref (ad 0), .int x1, .int x2] sz [] ((wX6_0_2 cy ad xp xt xs sf) ++ (sgP cy PL ppp pca pdg ptd pcc))) (QR (some (.int out))) 0 0 no_A := by
  refine Met.ofW (cc := cX6_is) (maxL := 4) (ret := (some .int)) (by decide +kernel) rfl ?_
  intro p e s m args below meth c s₁ B hml hv
  obtain ⟨hav, hsz, hP, hR0, hK, hN, hD0, hsep⟩ := hv
  have hx := B.exec
  have hb := B.bytes
  have hr := B.returns
  have hts := atoms_spec (ws := wsX6_is) B.pre
  have hown : s.vm.findClass RX6 = some m.cls := findClass_of_methodNamed B.named
  have hlocks := B.notSynchronized
  subst hsz
  have hin_X6 : ∀ w ∈ u_ws RX6 TX6 10, w ∈ wsX6_is := by decide +kernel
  have hw_0 := hts (.constant RX6 68 (-1000001)) (by decide +kernel)
  have hw_1 := hts (.fieldLink RX6 25 "ReturnPoints" "shelf" "[LReturnPoints$Poly;") (by decide +kernel)
  obtain ⟨ls, hfr, hl⟩ := ent_ok (m := m) (n := 4) (l' := [(0, .ref (ad 0)), (1, .int x1), (2, .int x2)]) [.ref (ad 0), .int x1, .int x2] hav (Nat.le_of_ble_eq_true rfl) rfl
  rw [hfr]
  generalize hQe : MQ below (QR (some (.int out))) args s 0 0 no_A = QQ
  change W p l e RMX6_is s m args below meth c s.heap [] 0 0 QQ (F0 m 0 ls [])
  unfold FX6_is at hf
  refine lv_iload_n hx hb dX6_is_0 rfl (lv_at hl 1 rfl) ?_
  replace hf := ob_e hf
  obtain ⟨u_1, hu_1, hf⟩ := hf
  refine isR (As := [.int x1]) (rest := []) (st1 := [.int (bi u_1)]) ⟨hx, hb, hml, hown, hts⟩ hK hN (KX6_isPlace l D cy x1 s.heap.size hu_1) (va_cwS 1 hts gX6_is_X6_isPlace rfl rfl rfl (by decide +kernel) ⟨Nat.le_of_ble_eq_true rfl, Nat.le_of_ble_eq_true rfl⟩) P_nil rfl hl.1 rfl (Nat.le_of_ble_eq_true rfl) rfl dX6_is_1 ⟨Nat.zero_le _, Nat.zero_le _⟩ ?_
  refine lv_if_eq (tgt := 14) hx hb dX6_is_4 (by decide) (fun c_4 => ?_) (fun c_4 => ?_)
  · replace hf := it_p c_4 hf
    refine lv_ldc (own := RX6) (v := (-1000001)) hx hb hown hw_0 dX6_is_14 ?_
    obtain rfl := Option.some.inj hf
    rw [← hQe]
    exact W.iret (v := (-1000001)) hx hb hr (fun t ht hW => ⟨rfl, ht⟩) (fun q h => by cases h) dX6_is_16
  · replace hf := it_n c_4 hf
    refine lv_iload_n hx hb dX6_is_7 rfl (lv_at hl 2 rfl) ?_
    replace hf := ob_e hf
    obtain ⟨u_8, hu_8, hf⟩ := hf
    refine isR (As := [.int x2]) (rest := []) (st1 := [.int (bi u_8)]) ⟨hx, hb, hml, hown, hts⟩ hK hN (KX6_isKind l D cy x2 s.heap.size hu_8) (va_cwS 1 hts gX6_is_X6_isKind rfl rfl rfl (by decide +kernel) ⟨Nat.le_of_ble_eq_true rfl, Nat.le_of_ble_eq_true rfl⟩) P_nil rfl hl.1 rfl (Nat.le_of_ble_eq_true rfl) rfl dX6_is_8 ⟨Nat.zero_le _, Nat.zero_le _⟩ ?_
    refine lv_if_ne (tgt := 17) hx hb dX6_is_11 (by decide) (fun c_11 => ?_) (fun c_11 => ?_)
    · replace hf := it_n c_11 hf
      refine lv_aload_n hx hb dX6_is_17 rfl (lv_at hl 0 rfl) ?_
      refine va_get (a := (ad 0)) (ci := 6) (v := .ref (ad 2)) (C := RX6) (T := TX6) (N := 10) hx hb hts hin_X6 hown hK hR0 0 rfl rfl 2 (by decide) hw_1 (fun _ h => h) rfl dX6_is_18 ?_
      refine lv_iload_n hx hb dX6_is_21 rfl (lv_at hl 1 rfl) ?_
      replace hf := gi_e hf
      obtain ⟨i_22, hf⟩ := hf
      refine va_aldq (a := (ad 2)) hx hb hK hR0 1 4 rfl rfl i_22 dX6_is_22 ?_
      refine top_q (fun o_22 e_22 => ?_)
      replace hf := bd_at e_22 hf
      clear e_22
      refine lv_Qastore_n (lv' := [(3, va_rf o_22), (0, .ref (ad 0)), (1, .int x1), (2, .int x2)]) hx hb dX6_is_23 rfl hl (by decide) rfl (fun ls hl => ?_)
      refine lv_Qaload_n hx hb dX6_is_24 rfl (lv_at hl 0 rfl) ?_
      replace hf := oq_e hf
      rcases hf with ⟨rfl, hf⟩ | ⟨a_25, rfl, hf⟩
      · have hl : lv_has ls 4 [(3, .null), (0, .ref (ad 0)), (1, .int x1), (2, .int x2)] := hl
        refine lv_ifnullN (tgt := 40) hx hb dX6_is_25 (by decide) ?_
        refine lv_iconst (v := 0) hx hb dX6_is_40 (by decide) ?_
        obtain rfl := Option.some.inj hf
        rw [← hQe]
        exact W.iret (v := 0) hx hb hr (fun t ht hW => ⟨rfl, ht⟩) (fun q h => by cases h) dX6_is_41
      · replace hf := gd_e hf
        obtain ⟨m_a_25, hf⟩ := hf
        have hl : lv_has ls 4 [(3, .ref a_25), (0, .ref (ad 0)), (1, .int x1), (2, .int x2)] := hl
        refine lv_ifnull hx hb dX6_is_25 ?_
        refine lv_aload_n hx hb dX6_is_28 rfl (lv_at hl 0 rfl) ?_
        refine lv_iload_n hx hb dX6_is_29 rfl (lv_at hl 3 rfl) ?_
        replace hf := ob_e hf
        obtain ⟨u_30, hu_30, hf⟩ := hf
        have hQ_a_25 : va_P D vwCl (wX2_0_1 cy (adP pca a_25) 5 (ppp a_25) (pdg a_25) (ptd a_25) (pcc a_25)) s.heap := P_two (P_right hR0) (sgP_1 m_a_25) (sgP_2 m_a_25)
        have hQ_a_25 : va_P D vwCl (wX2_0_1 cy (adP pca a_25) 5 (ppp a_25) (pdg a_25) (ptd a_25) (pcc a_25)) s.heap := P_two (P_right hR0) (sgP_1 m_a_25) (sgP_2 m_a_25)
        refine ivR (As := [.int x2]) (rest := []) (st1 := [.int (bi u_30)]) ⟨hx, hb, hml, hown, hts⟩ hK hN (KX2_fits l D cy (adP pca a_25) (ppp a_25) (pdg a_25) (ptd a_25) x2 s.heap.size hu_30) (cwV 1 hts gX6_is_X2_fits rfl rfl rfl (by decide +kernel) ⟨Nat.le_of_ble_eq_true rfl, Nat.le_of_ble_eq_true rfl⟩) (va_recv hK hQ_a_25 (ci := 2) (q0 := 0) rfl rfl) (P_pl (wc := (wX2_0 cy (adP pca a_25) (ppp a_25) (pdg a_25) (ptd a_25))) (is := [0]) hQ_a_25 rfl) rfl hl.1 rfl (Nat.le_of_ble_eq_true rfl) rfl dX6_is_30 ⟨Nat.zero_le _, Nat.zero_le _⟩ ?_
        refine lv_if_eq (tgt := 40) hx hb dX6_is_33 (by decide) (fun c_33 => ?_) (fun c_33 => ?_)
        · replace hf := it_p c_33 hf
          refine lv_iconst (v := 0) hx hb dX6_is_40 (by decide) ?_
          obtain rfl := Option.some.inj hf
          rw [← hQe]
          exact W.iret (v := 0) hx hb hr (fun t ht hW => ⟨rfl, ht⟩) (fun q h => by cases h) dX6_is_41
        · replace hf := it_n c_33 hf
          refine lv_iconst (v := 1) hx hb dX6_is_36 (by decide) ?_
          refine lv_goto (tgt := 41) hx hb dX6_is_37 (by decide) ?_
          obtain rfl := Option.some.inj hf
          rw [← hQe]
          exact W.iret (v := 1) hx hb hr (fun t ht hW => ⟨rfl, ht⟩) (fun q h => by cases h) dX6_is_41
    · replace hf := it_p c_11 hf
      refine lv_ldc (own := RX6) (v := (-1000001)) hx hb hown hw_0 dX6_is_14 ?_
      obtain rfl := Option.some.inj hf
      rw [← hQe]
      exact W.iret (v := (-1000001)) hx hb hr (fun t ht hW => ⟨rfl, ht⟩) (fun q h => by cases h) dX6_is_16
def FX6_as  (xs : Int32) (sf : Nat → Option Nat) (PL : List Nat) (ppp : Nat → Int32) (pca : Nat → Nat) (pdg : Nat → Int32) (ptd : Nat → Int32) (pcc : Nat → Nat → Int32) (x1 : Int32) (x2 : Int32) : Option (Int32 × (Int32)) := (ob (FX6_isPlace x1) (fun u_1 => if (bi u_1) = 0 then (some ((-1000001), xs)) else (ob (FX6_isKind x2) (fun u_8 => if (bi u_8) = 0 then (some ((-1000001), xs)) else (gi x1 10 (bd (sf (Int32.toNatClampNeg x1)) (fun o_22 => oq o_22 ((ob (FX6_found 1) (fun u_30 => some (u_30.1, u_30.2)))) (fun a_25 => gd (a_25 ∈ PL) ((ob (FX2_fits (ptd a_25) x2) (fun u_36 => if (bi u_36) = 0 then (ob (FX6_found 3) (fun u_55 => (some (u_55.1, u_55.2)))) else (ob (FX6_fine (pdg a_25)) (fun u_47 => (some (u_47.1, u_47.2)))))))))))))))
abbrev RMX6_as : Room := { frames := 1, cells := 0, slots := 0, locals := 21 }
set_option maxHeartbeats 4000000 in
set_option maxRecDepth 100000 in
theorem KX6_as (l : Launch) (D : va_G) (cy : Nat → ClassId) (ad : Nat → Nat) (xp : Int32) (xt : Int32) (xs : Int32) (sf : Nat → Option Nat) (PL : List Nat) (ppp : Nat → Int32) (pca : Nat → Nat) (pdg : Nat → Int32) (ptd : Nat → Int32) (pcc : Nat → Nat → Int32) (x1 : Int32) (x2 : Int32) (sz : Nat) {out : Int32 × (Int32)} (hf : FX6_as xs sf PL ppp pca pdg ptd pcc x1 x2 = some out) : Met l yX6_as wsX6_as RMX6_as (PW D cy [.ref (ad 0), .int x1, .int x2] sz ((wX6_0_2 cy ad xp xt xs sf)) ((sgP cy PL ppp pca pdg ptd pcc))) (QW D (some (.int out.1)) ((wX6_0_2 cy ad xp xt out.2 sf)) (va_A ((wX6_0_2 cy ad xp xt xs sf)) sz)) 0 0 (va_A ((wX6_0_2 cy ad xp xt xs sf)) sz) := by
  refine Met.ofW (cc := cX6_as) (maxL := 4) (ret := (some .int)) (by decide +kernel) rfl ?_
  intro p e s m args below meth c s₁ B hml hv
  obtain ⟨hav, hsz, hP, hR0, hK, hN, hD0, hsep⟩ := hv
  have hx := B.exec
  have hb := B.bytes
  have hr := B.returns
  have hts := atoms_spec (ws := wsX6_as) B.pre
  have hown : s.vm.findClass RX6 = some m.cls := findClass_of_methodNamed B.named
  have hlocks := B.notSynchronized
  subst hsz
  have hin_X2 : ∀ w ∈ u_ws RX2 TX2 4, w ∈ wsX6_as := by decide +kernel
  have hin_X6 : ∀ w ∈ u_ws RX6 TX6 10, w ∈ wsX6_as := by decide +kernel
  have hw_0 := hts (.constant RX6 68 (-1000001)) (by decide +kernel)
  have hw_1 := hts (.fieldLink RX6 25 "ReturnPoints" "shelf" "[LReturnPoints$Poly;") (by decide +kernel)
  have hw_2 := hts (.fieldLink RX6 122 "ReturnPoints$Poly" "degree" "I") (by decide +kernel)
  have hD := hD0.self (sz := s.heap.size)
  have hnA := roA hsep hR0
  generalize hAe : va_A ((wX6_0_2 cy ad xp xt xs sf)) s.heap.size = A at hD hnA ⊢
  have hA : ∀ q : Nat, s.heap.size ≤ q → A q := fun q h => by rw [← hAe]; exact Or.inr h
  have hS : va_S A s.heap s.heap [] := va_S.rf
  obtain ⟨ls, hfr, hl⟩ := ent_ok (m := m) (n := 4) (l' := [(0, .ref (ad 0)), (1, .int x1), (2, .int x2)]) [.ref (ad 0), .int x1, .int x2] hav (Nat.le_of_ble_eq_true rfl) rfl
  rw [hfr]
  generalize hQe : MQ below (QW D (some (.int out.1)) ((wX6_0_2 cy ad xp xt out.2 sf)) A) args s 0 0 A = QQ
  change W p l e RMX6_as s m args below meth c s.heap [] 0 0 QQ (F0 m 0 ls [])
  have hP : va_P D vwCl ((wX6_0_2 cy ad xp xt xs sf)) s.heap := hP
  have hD : va_D A ((wX6_0_2 cy ad xp xt xs sf)) := hD
  suffices h00 : ∀ (H : Heap) (locs : List Loc), va_P D vwCl ((wX6_0_2 cy ad xp xt xs sf)) H → va_S A s.heap H locs → W p l e RMX6_as s m args below meth c H locs 0 0 QQ (F0 m 0 ls []) from h00 _ _ hP hS
  clear hP hS
  intro H locs hP hS
  unfold FX6_as at hf
  refine lv_iload_n hx hb dX6_as_0 rfl (lv_at hl 1 rfl) ?_
  replace hf := ob_e hf
  obtain ⟨u_1, hu_1, hf⟩ := hf
  refine isR (As := [.int x1]) (rest := []) (st1 := [.int (bi u_1)]) ⟨hx, hb, hml, hown, hts⟩ hK hN (KX6_isPlace l D cy x1 H.size hu_1) (va_cwS 1 hts gX6_as_X6_isPlace rfl rfl rfl (by decide +kernel) ⟨Nat.le_of_ble_eq_true rfl, Nat.le_of_ble_eq_true rfl⟩) P_nil rfl hl.1 rfl (Nat.le_of_ble_eq_true rfl) rfl dX6_as_1 ⟨Nat.zero_le _, Nat.zero_le _⟩ ?_
  refine lv_if_eq (tgt := 14) hx hb dX6_as_4 (by decide) (fun c_4 => ?_) (fun c_4 => ?_)
  · replace hf := it_p c_4 hf
    refine lv_ldc (own := RX6) (v := (-1000001)) hx hb hown hw_0 dX6_as_14 ?_
    obtain rfl := Option.some.inj hf
    rw [← hQe]
    exact W.iret (v := (-1000001)) hx hb hr (fun t ht hW => ⟨rfl, by rw [ht]; exact hP, hS.F ht⟩) hS.2.2 dX6_as_16
  · replace hf := it_n c_4 hf
    refine lv_iload_n hx hb dX6_as_7 rfl (lv_at hl 2 rfl) ?_
    replace hf := ob_e hf
    obtain ⟨u_8, hu_8, hf⟩ := hf
    refine isR (As := [.int x2]) (rest := []) (st1 := [.int (bi u_8)]) ⟨hx, hb, hml, hown, hts⟩ hK hN (KX6_isKind l D cy x2 H.size hu_8) (va_cwS 1 hts gX6_as_X6_isKind rfl rfl rfl (by decide +kernel) ⟨Nat.le_of_ble_eq_true rfl, Nat.le_of_ble_eq_true rfl⟩) P_nil rfl hl.1 rfl (Nat.le_of_ble_eq_true rfl) rfl dX6_as_8 ⟨Nat.zero_le _, Nat.zero_le _⟩ ?_
    refine lv_if_ne (tgt := 17) hx hb dX6_as_11 (by decide) (fun c_11 => ?_) (fun c_11 => ?_)
    · replace hf := it_n c_11 hf
      refine lv_aload_n hx hb dX6_as_17 rfl (lv_at hl 0 rfl) ?_
      refine va_get (a := (ad 0)) (ci := 6) (v := .ref (ad 2)) (C := RX6) (T := TX6) (N := 10) hx hb hts hin_X6 hown hK hP 0 rfl rfl 2 (by decide) hw_1 (fun _ h => h) rfl dX6_as_18 ?_
      refine lv_iload_n hx hb dX6_as_21 rfl (lv_at hl 1 rfl) ?_
      replace hf := gi_e hf
      obtain ⟨i_22, hf⟩ := hf
      refine va_aldq (a := (ad 2)) hx hb hK hP 1 4 rfl rfl i_22 dX6_as_22 ?_
      refine top_q (fun o_22 e_22 => ?_)
      replace hf := bd_at e_22 hf
      clear e_22
      refine lv_Qastore_n (lv' := [(3, va_rf o_22), (0, .ref (ad 0)), (1, .int x1), (2, .int x2)]) hx hb dX6_as_23 rfl hl (by decide) rfl (fun ls hl => ?_)
      refine lv_Qaload_n hx hb dX6_as_24 rfl (lv_at hl 0 rfl) ?_
      replace hf := oq_e hf
      rcases hf with ⟨rfl, hf⟩ | ⟨a_25, rfl, hf⟩
      · have hl : lv_has ls 4 [(3, .null), (0, .ref (ad 0)), (1, .int x1), (2, .int x2)] := hl
        refine lv_ifnonnullN hx hb dX6_as_25 ?_
        refine lv_aload_n hx hb dX6_as_28 rfl (lv_at hl 1 rfl) ?_
        refine lv_iconst (v := 1) hx hb dX6_as_29 (by decide) ?_
        replace hf := ob_e hf
        obtain ⟨u_30, hu_30, hf⟩ := hf
        refine ivW (As := [.int 1]) (rest := []) (st1 := [.int u_30.1]) (is := [0]) (w1 := (wX6_0 cy ad xp xt u_30.2)) ⟨hx, hb, hml, hown, hts⟩ hK hN (KX6_found l D cy ad xp xt xs 1 H.size hu_30) (cwV 1 hts gX6_as_X6_found rfl rfl rfl (by decide +kernel) ⟨Nat.le_of_ble_eq_true rfl, Nat.le_of_ble_eq_true rfl⟩) (va_recv hK hP (ci := 6) (q0 := 0) rfl rfl) hP hD hS hA P_nil (sepW_nil _) (by decide) rfl rfl rfl hl.1 rfl (Nat.le_of_ble_eq_true rfl) rfl dX6_as_30 ⟨Nat.zero_le _, Nat.zero_le _⟩ (fun H locs hP hD hS => ?_)
        have hP : va_P D vwCl ((wX6_0_2 cy ad xp xt u_30.2 sf)) H := hP
        have hD : va_D A ((wX6_0_2 cy ad xp xt u_30.2 sf)) := hD
        obtain rfl := Option.some.inj hf
        rw [← hQe]
        exact W.iret (v := u_30.1) hx hb hr (fun t ht hW => ⟨rfl, by rw [ht]; exact hP, hS.F ht⟩) hS.2.2 dX6_as_33
      · replace hf := gd_e hf
        obtain ⟨m_a_25, hf⟩ := hf
        have hl : lv_has ls 4 [(3, .ref a_25), (0, .ref (ad 0)), (1, .int x1), (2, .int x2)] := hl
        refine lv_ifnonnull (tgt := 34) hx hb dX6_as_25 (by decide) ?_
        refine lv_aload_n hx hb dX6_as_34 rfl (lv_at hl 0 rfl) ?_
        refine lv_iload_n hx hb dX6_as_35 rfl (lv_at hl 3 rfl) ?_
        replace hf := ob_e hf
        obtain ⟨u_36, hu_36, hf⟩ := hf
        have hR := roN hR0 hnA hS
        have hQ_a_25 : va_P D vwCl (wX2_0_1 cy (adP pca a_25) 5 (ppp a_25) (pdg a_25) (ptd a_25) (pcc a_25)) H := P_two hR (sgP_1 m_a_25) (sgP_2 m_a_25)
        have hnQ_a_25 : ∀ (k : Nat) (q : Nat × va_E), (wX2_0_1 cy (adP pca a_25) 5 (ppp a_25) (pdg a_25) (ptd a_25) (pcc a_25))[k]? = some q → ¬ A q.1 := nA_two hnA (sgP_1 m_a_25) (sgP_2 m_a_25)
        have hR := roN hR0 hnA hS
        have hQ_a_25 : va_P D vwCl (wX2_0_1 cy (adP pca a_25) 5 (ppp a_25) (pdg a_25) (ptd a_25) (pcc a_25)) H := P_two hR (sgP_1 m_a_25) (sgP_2 m_a_25)
        have hnQ_a_25 : ∀ (k : Nat) (q : Nat × va_E), (wX2_0_1 cy (adP pca a_25) 5 (ppp a_25) (pdg a_25) (ptd a_25) (pcc a_25))[k]? = some q → ¬ A q.1 := nA_two hnA (sgP_1 m_a_25) (sgP_2 m_a_25)
        refine ivR (As := [.int x2]) (rest := []) (st1 := [.int (bi u_36)]) ⟨hx, hb, hml, hown, hts⟩ hK hN (KX2_fits l D cy (adP pca a_25) (ppp a_25) (pdg a_25) (ptd a_25) x2 H.size hu_36) (cwV 1 hts gX6_as_X2_fits rfl rfl rfl (by decide +kernel) ⟨Nat.le_of_ble_eq_true rfl, Nat.le_of_ble_eq_true rfl⟩) (va_recv hK hQ_a_25 (ci := 2) (q0 := 0) rfl rfl) (P_pl (wc := (wX2_0 cy (adP pca a_25) (ppp a_25) (pdg a_25) (ptd a_25))) (is := [0]) hQ_a_25 rfl) rfl hl.1 rfl (Nat.le_of_ble_eq_true rfl) rfl dX6_as_36 ⟨Nat.zero_le _, Nat.zero_le _⟩ ?_
        refine lv_if_eq (tgt := 53) hx hb dX6_as_39 (by decide) (fun c_39 => ?_) (fun c_39 => ?_)
        · replace hf := it_p c_39 hf
          refine lv_aload_n hx hb dX6_as_53 rfl (lv_at hl 1 rfl) ?_
          refine lv_iconst (v := 3) hx hb dX6_as_54 (by decide) ?_
          replace hf := ob_e hf
          obtain ⟨u_55, hu_55, hf⟩ := hf
          refine ivW (As := [.int 3]) (rest := []) (st1 := [.int u_55.1]) (is := [0]) (w1 := (wX6_0 cy ad xp xt u_55.2)) ⟨hx, hb, hml, hown, hts⟩ hK hN (KX6_found l D cy ad xp xt xs 3 H.size hu_55) (cwV 1 hts gX6_as_X6_found rfl rfl rfl (by decide +kernel) ⟨Nat.le_of_ble_eq_true rfl, Nat.le_of_ble_eq_true rfl⟩) (va_recv hK hP (ci := 6) (q0 := 0) rfl rfl) hP hD hS hA P_nil (sepW_nil _) (by decide) rfl rfl rfl hl.1 rfl (Nat.le_of_ble_eq_true rfl) rfl dX6_as_55 ⟨Nat.zero_le _, Nat.zero_le _⟩ (fun H locs hP hD hS => ?_)
          have hP : va_P D vwCl ((wX6_0_2 cy ad xp xt u_55.2 sf)) H := hP
          have hD : va_D A ((wX6_0_2 cy ad xp xt u_55.2 sf)) := hD
          obtain rfl := Option.some.inj hf
          rw [← hQe]
          exact W.iret (v := u_55.1) hx hb hr (fun t ht hW => ⟨rfl, by rw [ht]; exact hP, hS.F ht⟩) hS.2.2 dX6_as_58
        · replace hf := it_n c_39 hf
          refine lv_aload_n hx hb dX6_as_42 rfl (lv_at hl 1 rfl) ?_
          refine lv_aload_n hx hb dX6_as_43 rfl (lv_at hl 0 rfl) ?_
          have hR := roN hR0 hnA hS
          have hQ_a_25 : va_P D vwCl (wX2_0_1 cy (adP pca a_25) 5 (ppp a_25) (pdg a_25) (ptd a_25) (pcc a_25)) H := P_two hR (sgP_1 m_a_25) (sgP_2 m_a_25)
          have hnQ_a_25 : ∀ (k : Nat) (q : Nat × va_E), (wX2_0_1 cy (adP pca a_25) 5 (ppp a_25) (pdg a_25) (ptd a_25) (pcc a_25))[k]? = some q → ¬ A q.1 := nA_two hnA (sgP_1 m_a_25) (sgP_2 m_a_25)
          refine va_get (a := a_25) (ci := 2) (v := .int (pdg a_25)) (C := RX2) (T := TX2) (N := 4) hx hb hts hin_X2 hown hK hQ_a_25 0 rfl rfl 2 (by decide) hw_2 (fun _ h => h) rfl dX6_as_44 ?_
          replace hf := ob_e hf
          obtain ⟨u_47, hu_47, hf⟩ := hf
          refine ivW (As := [.int (pdg a_25)]) (rest := []) (st1 := [.int u_47.1]) (is := [0]) (w1 := (wX6_0 cy ad xp xt u_47.2)) ⟨hx, hb, hml, hown, hts⟩ hK hN (KX6_fine l D cy ad xp xt xs (pdg a_25) H.size hu_47) (cwV 1 hts gX6_as_X6_fine rfl rfl rfl (by decide +kernel) ⟨Nat.le_of_ble_eq_true rfl, Nat.le_of_ble_eq_true rfl⟩) (va_recv hK hP (ci := 6) (q0 := 0) rfl rfl) hP hD hS hA P_nil (sepW_nil _) (by decide) rfl rfl rfl hl.1 rfl (Nat.le_of_ble_eq_true rfl) rfl dX6_as_47 ⟨Nat.zero_le _, Nat.zero_le _⟩ (fun H locs hP hD hS => ?_)
          have hP : va_P D vwCl ((wX6_0_2 cy ad xp xt u_47.2 sf)) H := hP
          have hD : va_D A ((wX6_0_2 cy ad xp xt u_47.2 sf)) := hD
          refine lv_goto (tgt := 58) hx hb dX6_as_50 (by decide) ?_
          obtain rfl := Option.some.inj hf
          rw [← hQe]
          exact W.iret (v := u_47.1) hx hb hr (fun t ht hW => ⟨rfl, by rw [ht]; exact hP, hS.F ht⟩) hS.2.2 dX6_as_58
    · replace hf := it_p c_11 hf
      refine lv_ldc (own := RX6) (v := (-1000001)) hx hb hown hw_0 dX6_as_14 ?_
      obtain rfl := Option.some.inj hf
      rw [← hQe]
      exact W.iret (v := (-1000001)) hx hb hr (fun t ht hW => ⟨rfl, by rw [ht]; exact hP, hS.F ht⟩) hS.2.2 dX6_as_16
def FX6_begin  (xt : Int32) (tr : Nat → Int32) (x1 : Int32) : Option ((Int32) × (Nat → Int32)) := (if (Int32.ofNat 16) ≤ xt then (some (xt, tr)) else (gi xt 16 ((some ((xt + 1), (upd tr (Int32.toNatClampNeg xt) x1))))))
abbrev RMX6_begin : Room := { frames := 0, cells := 0, slots := 0, locals := 0 }
set_option maxHeartbeats 4000000 in
set_option maxRecDepth 100000 in
theorem KX6_begin (l : Launch) (D : va_G) (cy : Nat → ClassId) (ad : Nat → Nat) (xp : Int32) (xt : Int32) (xs : Int32) (tr : Nat → Int32) (x1 : Int32) (sz : Nat) {out : (Int32) × (Nat → Int32)} (hf : FX6_begin xt tr x1 = some out) : Met l yX6_begin wsX6_begin RMX6_begin (PW D cy [.ref (ad 0), .int x1] sz ((wX6_0_3 cy ad xp xt xs tr)) []) (QW D none ((wX6_0_3 cy ad xp out.1 xs out.2)) (va_A ((wX6_0_3 cy ad xp xt xs tr)) sz)) 0 0 (va_A ((wX6_0_3 cy ad xp xt xs tr)) sz) := by
  refine Met.ofW (cc := cX6_begin) (maxL := 2) (ret := none) (by decide +kernel) rfl ?_
  intro p e s m args below meth c s₁ B hml hv
  obtain ⟨hav, hsz, hP, hR0, hK, hN, hD0, hsep⟩ := hv
  have hx := B.exec
  have hb := B.bytes
  have hr := B.returns
  have hts := atoms_spec (ws := wsX6_begin) B.pre
  have hown : s.vm.findClass RX6 = some m.cls := findClass_of_methodNamed B.named
  have hlocks := B.notSynchronized
  subst hsz
  have hin_X6 : ∀ w ∈ u_ws RX6 TX6 10, w ∈ wsX6_begin := by decide +kernel
  have hw_0 := hts (.fieldLink RX6 59 "ReturnPoints" "traced" "I") (by decide +kernel)
  have hw_1 := hts (.fieldLink RX6 29 "ReturnPoints" "trace" "[I") (by decide +kernel)
  have hD := hD0.self (sz := s.heap.size)
  have hnA := roA hsep hR0
  generalize hAe : va_A ((wX6_0_3 cy ad xp xt xs tr)) s.heap.size = A at hD hnA ⊢
  have hA : ∀ q : Nat, s.heap.size ≤ q → A q := fun q h => by rw [← hAe]; exact Or.inr h
  have hS : va_S A s.heap s.heap [] := va_S.rf
  obtain ⟨ls, hfr, hl⟩ := ent_ok (m := m) (n := 2) (l' := [(0, .ref (ad 0)), (1, .int x1)]) [.ref (ad 0), .int x1] hav (Nat.le_of_ble_eq_true rfl) rfl
  rw [hfr]
  generalize hQe : MQ below (QW D none ((wX6_0_3 cy ad xp out.1 xs out.2)) A) args s 0 0 A = QQ
  change W p l e RMX6_begin s m args below meth c s.heap [] 0 0 QQ (F0 m 0 ls [])
  have hP : va_P D vwCl ((wX6_0_3 cy ad xp xt xs tr)) s.heap := hP
  have hD : va_D A ((wX6_0_3 cy ad xp xt xs tr)) := hD
  suffices h00 : ∀ (H : Heap) (locs : List Loc), va_P D vwCl ((wX6_0_3 cy ad xp xt xs tr)) H → va_S A s.heap H locs → W p l e RMX6_begin s m args below meth c H locs 0 0 QQ (F0 m 0 ls []) from h00 _ _ hP hS
  clear hP hS
  intro H locs hP hS
  unfold FX6_begin at hf
  refine lv_aload_n hx hb dX6_begin_0 rfl (lv_at hl 0 rfl) ?_
  refine va_get (a := (ad 0)) (ci := 6) (v := .int xt) (C := RX6) (T := TX6) (N := 10) hx hb hts hin_X6 hown hK hP 0 rfl rfl 8 (by decide) hw_0 (fun _ h => h) rfl dX6_begin_1 ?_
  refine lv_aload_n hx hb dX6_begin_4 rfl (lv_at hl 0 rfl) ?_
  refine va_get (a := (ad 0)) (ci := 6) (v := .ref (ad 3)) (C := RX6) (T := TX6) (N := 10) hx hb hts hin_X6 hown hK hP 0 rfl rfl 3 (by decide) hw_1 (fun _ h => h) rfl dX6_begin_5 ?_
  refine va_alen (a := (ad 3)) (v := (Int32.ofNat 16)) hx hb hK hP 1 0 rfl rfl rfl dX6_begin_8 ?_
  refine lv_icmp_ge (tgt := 32) hx hb dX6_begin_9 (by decide) (fun c_9 => ?_) (fun c_9 => ?_)
  · replace hf := it_p c_9 hf
    obtain rfl := Option.some.inj hf
    rw [← hQe]
    exact W.vret hx hb hr (fun t ht hW => ⟨rfl, by rw [ht]; exact hP, hS.F ht⟩) hS.2.2 dX6_begin_32
  · replace hf := it_n c_9 hf
    refine lv_aload_n hx hb dX6_begin_12 rfl (lv_at hl 0 rfl) ?_
    refine va_get (a := (ad 0)) (ci := 6) (v := .ref (ad 3)) (C := RX6) (T := TX6) (N := 10) hx hb hts hin_X6 hown hK hP 0 rfl rfl 3 (by decide) hw_1 (fun _ h => h) rfl dX6_begin_13 ?_
    refine lv_aload_n hx hb dX6_begin_16 rfl (lv_at hl 0 rfl) ?_
    refine va_get (a := (ad 0)) (ci := 6) (v := .int xt) (C := RX6) (T := TX6) (N := 10) hx hb hts hin_X6 hown hK hP 0 rfl rfl 8 (by decide) hw_0 (fun _ h => h) rfl dX6_begin_17 ?_
    refine lv_iload_n hx hb dX6_begin_20 rfl (lv_at hl 1 rfl) ?_
    replace hf := gi_e hf
    obtain ⟨i_21, hf⟩ := hf
    refine va_iast (a := (ad 3)) hx hb hK hP hD hS 1 0 rfl rfl i_21 dX6_begin_21 (fun H locs hP hD hS => ?_)
    have hP : va_P D vwCl ((wX6_0_3 cy ad xp xt xs (upd tr (Int32.toNatClampNeg xt) x1))) H := hP
    have hD : va_D A ((wX6_0_3 cy ad xp xt xs (upd tr (Int32.toNatClampNeg xt) x1))) := hD
    refine lv_aload_n hx hb dX6_begin_22 rfl (lv_at hl 0 rfl) ?_
    refine lv_dup hx hb dX6_begin_23 rfl ?_
    refine va_get (a := (ad 0)) (ci := 6) (v := .int xt) (C := RX6) (T := TX6) (N := 10) hx hb hts hin_X6 hown hK hP 0 rfl rfl 8 (by decide) hw_0 (fun _ h => h) rfl dX6_begin_24 ?_
    refine lv_iconst (v := 1) hx hb dX6_begin_27 (by decide) ?_
    refine lv_iadd hx hb dX6_begin_28 ?_
    refine va_put (a := (ad 0)) (ci := 6) (v := .int (xt + 1)) (ty := .int) (C := RX6) (T := TX6) (N := 10) hx hb hts hin_X6 tyX6 tyX6_ok nmX6 hown hK hP hD hS 0 rfl rfl 8 (by decide) hw_0 (fun _ h => h) rfl (by decide +kernel) rfl rfl (Nat.le_of_ble_eq_true rfl) dX6_begin_29 (fun H locs hP hD hS => ?_)
    have hP : va_P D vwCl ((wX6_0_3 cy ad xp (xt + 1) xs (upd tr (Int32.toNatClampNeg xt) x1))) H := hP
    have hD : va_D A ((wX6_0_3 cy ad xp (xt + 1) xs (upd tr (Int32.toNatClampNeg xt) x1))) := hD
    obtain rfl := Option.some.inj hf
    rw [← hQe]
    exact W.vret hx hb hr (fun t ht hW => ⟨rfl, by rw [ht]; exact hP, hS.F ht⟩) hS.2.2 dX6_begin_32
def FX6_body11  (xp : Int32) (xt : Int32) (tr : Nat → Int32)  : Option (Int32 × (Int32) × (Nat → Int32)) := (ob (FX6_begin xt tr 11) (fun u_3 => some (xp, u_3.1, u_3.2)))
abbrev RMX6_body11 : Room := { frames := 1, cells := 0, slots := 0, locals := 21 }
set_option maxHeartbeats 4000000 in
set_option maxRecDepth 100000 in
theorem KX6_body11 (l : Launch) (D : va_G) (cy : Nat → ClassId) (ad : Nat → Nat) (xp : Int32) (xt : Int32) (xs : Int32) (tr : Nat → Int32)  (sz : Nat) {out : Int32 × (Int32) × (Nat → Int32)} (hf : FX6_body11 xp xt tr = some out) : Met l yX6_body11 wsX6_body11 RMX6_body11 (PW D cy [.ref (ad 0)] sz ((wX6_0_3 cy ad xp xt xs tr)) []) (QW D (some (.int out.1)) ((wX6_0_3 cy ad xp out.2.1 xs out.2.2)) (va_A ((wX6_0_3 cy ad xp xt xs tr)) sz)) 0 0 (va_A ((wX6_0_3 cy ad xp xt xs tr)) sz) := by
  refine Met.ofW (cc := cX6_body11) (maxL := 1) (ret := (some .int)) (by decide +kernel) rfl ?_
  intro p e s m args below meth c s₁ B hml hv
  obtain ⟨hav, hsz, hP, hR0, hK, hN, hD0, hsep⟩ := hv
  have hx := B.exec
  have hb := B.bytes
  have hr := B.returns
  have hts := atoms_spec (ws := wsX6_body11) B.pre
  have hown : s.vm.findClass RX6 = some m.cls := findClass_of_methodNamed B.named
  have hlocks := B.notSynchronized
  subst hsz
  have hin_X6 : ∀ w ∈ u_ws RX6 TX6 10, w ∈ wsX6_body11 := by decide +kernel
  have hw_0 := hts (.fieldLink RX6 13 "ReturnPoints" "p" "I") (by decide +kernel)
  have hD := hD0.self (sz := s.heap.size)
  have hnA := roA hsep hR0
  generalize hAe : va_A ((wX6_0_3 cy ad xp xt xs tr)) s.heap.size = A at hD hnA ⊢
  have hA : ∀ q : Nat, s.heap.size ≤ q → A q := fun q h => by rw [← hAe]; exact Or.inr h
  have hS : va_S A s.heap s.heap [] := va_S.rf
  obtain ⟨ls, hfr, hl⟩ := ent_ok (m := m) (n := 1) (l' := [(0, .ref (ad 0))]) [.ref (ad 0)] hav (Nat.le_of_ble_eq_true rfl) rfl
  rw [hfr]
  generalize hQe : MQ below (QW D (some (.int out.1)) ((wX6_0_3 cy ad xp out.2.1 xs out.2.2)) A) args s 0 0 A = QQ
  change W p l e RMX6_body11 s m args below meth c s.heap [] 0 0 QQ (F0 m 0 ls [])
  have hP : va_P D vwCl ((wX6_0_3 cy ad xp xt xs tr)) s.heap := hP
  have hD : va_D A ((wX6_0_3 cy ad xp xt xs tr)) := hD
  suffices h00 : ∀ (H : Heap) (locs : List Loc), va_P D vwCl ((wX6_0_3 cy ad xp xt xs tr)) H → va_S A s.heap H locs → W p l e RMX6_body11 s m args below meth c H locs 0 0 QQ (F0 m 0 ls []) from h00 _ _ hP hS
  clear hP hS
  intro H locs hP hS
  unfold FX6_body11 at hf
  refine lv_aload_n hx hb dX6_body11_0 rfl (lv_at hl 0 rfl) ?_
  refine lv_bipush (v := 11) hx hb dX6_body11_1 (by decide) ?_
  replace hf := ob_e hf
  obtain ⟨u_3, hu_3, hf⟩ := hf
  refine ivW (As := [.int 11]) (rest := []) (st1 := []) (is := [0, 1]) (w1 := (wX6_0_3 cy ad xp u_3.1 xs u_3.2)) ⟨hx, hb, hml, hown, hts⟩ hK hN (KX6_begin l D cy ad xp xt xs tr 11 H.size hu_3) (cwV 1 hts gX6_body11_X6_begin rfl rfl rfl (by decide +kernel) ⟨Nat.le_of_ble_eq_true rfl, Nat.le_of_ble_eq_true rfl⟩) (va_recv hK hP (ci := 6) (q0 := 0) rfl rfl) hP hD hS hA P_nil (sepW_nil _) (by decide) rfl rfl rfl hl.1 rfl (Nat.le_of_ble_eq_true rfl) rfl dX6_body11_3 ⟨Nat.zero_le _, Nat.zero_le _⟩ (fun H locs hP hD hS => ?_)
  have hP : va_P D vwCl ((wX6_0_3 cy ad xp u_3.1 xs u_3.2)) H := hP
  have hD : va_D A ((wX6_0_3 cy ad xp u_3.1 xs u_3.2)) := hD
  refine lv_aload_n hx hb dX6_body11_6 rfl (lv_at hl 0 rfl) ?_
  refine va_get (a := (ad 0)) (ci := 6) (v := .int xp) (C := RX6) (T := TX6) (N := 10) hx hb hts hin_X6 hown hK hP 0 rfl rfl 0 (by decide) hw_0 (fun _ h => h) rfl dX6_body11_7 ?_
  obtain rfl := Option.some.inj hf
  rw [← hQe]
  exact W.iret (v := xp) hx hb hr (fun t ht hW => ⟨rfl, by rw [ht]; exact hP, hS.F ht⟩) hS.2.2 dX6_body11_10
def FX6_body10  (xp : Int32) (xt : Int32) (tr : Nat → Int32) (xn : Nat) (a_rp : Int32) (a_co : Nat → Int32)  : Option (Int32 × (Int32) × (Nat → Int32)) := (ob (FX6_begin xt tr 10) (fun u_3 => ob (FX3_pointsWithoutComers xn a_rp a_co) (fun u_14 => some ((xp - u_14), u_3.1, u_3.2))))
abbrev RMX6_body10 : Room := { frames := 1, cells := 0, slots := 0, locals := 22 }
set_option maxHeartbeats 4000000 in
set_option maxRecDepth 100000 in
theorem KX6_body10 (l : Launch) (D : va_G) (cy : Nat → ClassId) (ad : Nat → Nat) (xp : Int32) (xt : Int32) (xs : Int32) (tr : Nat → Int32) (xn : Nat) (a_rp : Int32) (a_rgs : Int32) (a_sv : Option Nat) (a_co : Nat → Int32)  (sz : Nat) {out : Int32 × (Int32) × (Nat → Int32)} (hf : FX6_body10 xp xt tr xn a_rp a_co = some out) : Met l yX6_body10 wsX6_body10 RMX6_body10 (PW D cy [.ref (ad 0)] sz ((wX6_0_3_4_5 cy ad xp xt xs tr xn a_rp a_rgs a_sv a_co)) []) (QW D (some (.int out.1)) ((wX6_0_3_4_5 cy ad xp out.2.1 xs out.2.2 xn a_rp a_rgs a_sv a_co)) (va_A ((wX6_0_3_4_5 cy ad xp xt xs tr xn a_rp a_rgs a_sv a_co)) sz)) 0 0 (va_A ((wX6_0_3_4_5 cy ad xp xt xs tr xn a_rp a_rgs a_sv a_co)) sz) := by
  refine Met.ofW (cc := cX6_body10) (maxL := 1) (ret := (some .int)) (by decide +kernel) rfl ?_
  intro p e s m args below meth c s₁ B hml hv
  obtain ⟨hav, hsz, hP, hR0, hK, hN, hD0, hsep⟩ := hv
  have hx := B.exec
  have hb := B.bytes
  have hr := B.returns
  have hts := atoms_spec (ws := wsX6_body10) B.pre
  have hown : s.vm.findClass RX6 = some m.cls := findClass_of_methodNamed B.named
  have hlocks := B.notSynchronized
  subst hsz
  have hin_X6 : ∀ w ∈ u_ws RX6 TX6 10, w ∈ wsX6_body10 := by decide +kernel
  have hw_0 := hts (.fieldLink RX6 13 "ReturnPoints" "p" "I") (by decide +kernel)
  have hw_1 := hts (.fieldLink RX6 38 "ReturnPoints" "roads" "LReturnPoints$Roads;") (by decide +kernel)
  have hD := hD0.self (sz := s.heap.size)
  have hnA := roA hsep hR0
  generalize hAe : va_A ((wX6_0_3_4_5 cy ad xp xt xs tr xn a_rp a_rgs a_sv a_co)) s.heap.size = A at hD hnA ⊢
  have hA : ∀ q : Nat, s.heap.size ≤ q → A q := fun q h => by rw [← hAe]; exact Or.inr h
  have hS : va_S A s.heap s.heap [] := va_S.rf
  obtain ⟨ls, hfr, hl⟩ := ent_ok (m := m) (n := 1) (l' := [(0, .ref (ad 0))]) [.ref (ad 0)] hav (Nat.le_of_ble_eq_true rfl) rfl
  rw [hfr]
  generalize hQe : MQ below (QW D (some (.int out.1)) ((wX6_0_3_4_5 cy ad xp out.2.1 xs out.2.2 xn a_rp a_rgs a_sv a_co)) A) args s 0 0 A = QQ
  change W p l e RMX6_body10 s m args below meth c s.heap [] 0 0 QQ (F0 m 0 ls [])
  have hP : va_P D vwCl ((wX6_0_3_4_5 cy ad xp xt xs tr xn a_rp a_rgs a_sv a_co)) s.heap := hP
  have hD : va_D A ((wX6_0_3_4_5 cy ad xp xt xs tr xn a_rp a_rgs a_sv a_co)) := hD
  suffices h00 : ∀ (H : Heap) (locs : List Loc), va_P D vwCl ((wX6_0_3_4_5 cy ad xp xt xs tr xn a_rp a_rgs a_sv a_co)) H → va_S A s.heap H locs → W p l e RMX6_body10 s m args below meth c H locs 0 0 QQ (F0 m 0 ls []) from h00 _ _ hP hS
  clear hP hS
  intro H locs hP hS
  unfold FX6_body10 at hf
  refine lv_aload_n hx hb dX6_body10_0 rfl (lv_at hl 0 rfl) ?_
  refine lv_bipush (v := 10) hx hb dX6_body10_1 (by decide) ?_
  replace hf := ob_e hf
  obtain ⟨u_3, hu_3, hf⟩ := hf
  refine ivW (As := [.int 10]) (rest := []) (st1 := []) (is := [0, 1]) (w1 := (wX6_0_3 cy ad xp u_3.1 xs u_3.2)) ⟨hx, hb, hml, hown, hts⟩ hK hN (KX6_begin l D cy ad xp xt xs tr 10 H.size hu_3) (cwV 1 hts gX6_body10_X6_begin rfl rfl rfl (by decide +kernel) ⟨Nat.le_of_ble_eq_true rfl, Nat.le_of_ble_eq_true rfl⟩) (va_recv hK hP (ci := 6) (q0 := 0) rfl rfl) hP hD hS hA P_nil (sepW_nil _) (by decide) rfl rfl rfl hl.1 rfl (Nat.le_of_ble_eq_true rfl) rfl dX6_body10_3 ⟨Nat.zero_le _, Nat.zero_le _⟩ (fun H locs hP hD hS => ?_)
  have hP : va_P D vwCl ((wX6_0_3_4_5 cy ad xp u_3.1 xs u_3.2 xn a_rp a_rgs a_sv a_co)) H := hP
  have hD : va_D A ((wX6_0_3_4_5 cy ad xp u_3.1 xs u_3.2 xn a_rp a_rgs a_sv a_co)) := hD
  refine lv_aload_n hx hb dX6_body10_6 rfl (lv_at hl 0 rfl) ?_
  refine va_get (a := (ad 0)) (ci := 6) (v := .int xp) (C := RX6) (T := TX6) (N := 10) hx hb hts hin_X6 hown hK hP 0 rfl rfl 0 (by decide) hw_0 (fun _ h => h) rfl dX6_body10_7 ?_
  refine lv_aload_n hx hb dX6_body10_10 rfl (lv_at hl 0 rfl) ?_
  refine va_get (a := (ad 0)) (ci := 6) (v := .ref (ad 4)) (C := RX6) (T := TX6) (N := 10) hx hb hts hin_X6 hown hK hP 0 rfl rfl 4 (by decide) hw_1 (fun _ h => h) rfl dX6_body10_11 ?_
  replace hf := ob_e hf
  obtain ⟨u_14, hu_14, hf⟩ := hf
  refine ivR (As := []) (rest := [.int xp]) (st1 := [.int u_14, .int xp]) ⟨hx, hb, hml, hown, hts⟩ hK hN (KX3_pointsWithoutComers l D cy (fun i => ad (4 + i)) xn a_rp a_rgs a_sv a_co H.size hu_14) (cwV 0 hts gX6_body10_X3_pointsWithoutComers rfl rfl rfl (by decide +kernel) ⟨Nat.le_of_ble_eq_true rfl, Nat.le_of_ble_eq_true rfl⟩) (va_recv hK hP (ci := 3) (q0 := 2) rfl rfl) (P_pl (wc := (wX3_0_1 cy (fun i => ad (4 + i)) xn a_rp a_rgs a_sv a_co)) (is := [2, 3]) hP rfl) rfl hl.1 rfl (Nat.le_of_ble_eq_true rfl) rfl dX6_body10_14 ⟨Nat.zero_le _, Nat.zero_le _⟩ ?_
  refine lv_isub hx hb dX6_body10_17 ?_
  obtain rfl := Option.some.inj hf
  rw [← hQe]
  exact W.iret (v := (xp - u_14)) hx hb hr (fun t ht hW => ⟨rfl, by rw [ht]; exact hP, hS.F ht⟩) hS.2.2 dX6_body10_18
def FX6_body12  (xp : Int32) (xt : Int32) (tr : Nat → Int32) (xn : Nat) (a_rp : Int32) (a_co : Nat → Int32)  : Option (Int32 × (Int32) × (Nat → Int32)) := (ob (FX6_begin xt tr 12) (fun u_3 => ob (FX6_body10 xp u_3.1 u_3.2 xn a_rp a_co) (fun u_8 => some ((2 * u_8.1), u_8.2.1, u_8.2.2))))
abbrev RMX6_body12 : Room := { frames := 2, cells := 0, slots := 0, locals := 42 }
set_option maxHeartbeats 4000000 in
set_option maxRecDepth 100000 in
theorem KX6_body12 (l : Launch) (D : va_G) (cy : Nat → ClassId) (ad : Nat → Nat) (xp : Int32) (xt : Int32) (xs : Int32) (tr : Nat → Int32) (xn : Nat) (a_rp : Int32) (a_rgs : Int32) (a_sv : Option Nat) (a_co : Nat → Int32)  (sz : Nat) {out : Int32 × (Int32) × (Nat → Int32)} (hf : FX6_body12 xp xt tr xn a_rp a_co = some out) : Met l yX6_body12 wsX6_body12 RMX6_body12 (PW D cy [.ref (ad 0)] sz ((wX6_0_3_4_5 cy ad xp xt xs tr xn a_rp a_rgs a_sv a_co)) []) (QW D (some (.int out.1)) ((wX6_0_3_4_5 cy ad xp out.2.1 xs out.2.2 xn a_rp a_rgs a_sv a_co)) (va_A ((wX6_0_3_4_5 cy ad xp xt xs tr xn a_rp a_rgs a_sv a_co)) sz)) 0 0 (va_A ((wX6_0_3_4_5 cy ad xp xt xs tr xn a_rp a_rgs a_sv a_co)) sz) := by
  refine Met.ofW (cc := cX6_body12) (maxL := 1) (ret := (some .int)) (by decide +kernel) rfl ?_
  intro p e s m args below meth c s₁ B hml hv
  obtain ⟨hav, hsz, hP, hR0, hK, hN, hD0, hsep⟩ := hv
  have hx := B.exec
  have hb := B.bytes
  have hr := B.returns
  have hts := atoms_spec (ws := wsX6_body12) B.pre
  have hown : s.vm.findClass RX6 = some m.cls := findClass_of_methodNamed B.named
  have hlocks := B.notSynchronized
  subst hsz
  have hD := hD0.self (sz := s.heap.size)
  have hnA := roA hsep hR0
  generalize hAe : va_A ((wX6_0_3_4_5 cy ad xp xt xs tr xn a_rp a_rgs a_sv a_co)) s.heap.size = A at hD hnA ⊢
  have hA : ∀ q : Nat, s.heap.size ≤ q → A q := fun q h => by rw [← hAe]; exact Or.inr h
  have hS : va_S A s.heap s.heap [] := va_S.rf
  obtain ⟨ls, hfr, hl⟩ := ent_ok (m := m) (n := 1) (l' := [(0, .ref (ad 0))]) [.ref (ad 0)] hav (Nat.le_of_ble_eq_true rfl) rfl
  rw [hfr]
  generalize hQe : MQ below (QW D (some (.int out.1)) ((wX6_0_3_4_5 cy ad xp out.2.1 xs out.2.2 xn a_rp a_rgs a_sv a_co)) A) args s 0 0 A = QQ
  change W p l e RMX6_body12 s m args below meth c s.heap [] 0 0 QQ (F0 m 0 ls [])
  have hP : va_P D vwCl ((wX6_0_3_4_5 cy ad xp xt xs tr xn a_rp a_rgs a_sv a_co)) s.heap := hP
  have hD : va_D A ((wX6_0_3_4_5 cy ad xp xt xs tr xn a_rp a_rgs a_sv a_co)) := hD
  suffices h00 : ∀ (H : Heap) (locs : List Loc), va_P D vwCl ((wX6_0_3_4_5 cy ad xp xt xs tr xn a_rp a_rgs a_sv a_co)) H → va_S A s.heap H locs → W p l e RMX6_body12 s m args below meth c H locs 0 0 QQ (F0 m 0 ls []) from h00 _ _ hP hS
  clear hP hS
  intro H locs hP hS
  unfold FX6_body12 at hf
  refine lv_aload_n hx hb dX6_body12_0 rfl (lv_at hl 0 rfl) ?_
  refine lv_bipush (v := 12) hx hb dX6_body12_1 (by decide) ?_
  replace hf := ob_e hf
  obtain ⟨u_3, hu_3, hf⟩ := hf
  refine ivW (As := [.int 12]) (rest := []) (st1 := []) (is := [0, 1]) (w1 := (wX6_0_3 cy ad xp u_3.1 xs u_3.2)) ⟨hx, hb, hml, hown, hts⟩ hK hN (KX6_begin l D cy ad xp xt xs tr 12 H.size hu_3) (cwV 1 hts gX6_body12_X6_begin rfl rfl rfl (by decide +kernel) ⟨Nat.le_of_ble_eq_true rfl, Nat.le_of_ble_eq_true rfl⟩) (va_recv hK hP (ci := 6) (q0 := 0) rfl rfl) hP hD hS hA P_nil (sepW_nil _) (by decide) rfl rfl rfl hl.1 rfl (Nat.le_of_ble_eq_true rfl) rfl dX6_body12_3 ⟨Nat.zero_le _, Nat.zero_le _⟩ (fun H locs hP hD hS => ?_)
  have hP : va_P D vwCl ((wX6_0_3_4_5 cy ad xp u_3.1 xs u_3.2 xn a_rp a_rgs a_sv a_co)) H := hP
  have hD : va_D A ((wX6_0_3_4_5 cy ad xp u_3.1 xs u_3.2 xn a_rp a_rgs a_sv a_co)) := hD
  refine lv_iconst (v := 2) hx hb dX6_body12_6 (by decide) ?_
  refine lv_aload_n hx hb dX6_body12_7 rfl (lv_at hl 0 rfl) ?_
  replace hf := ob_e hf
  obtain ⟨u_8, hu_8, hf⟩ := hf
  refine ivW (As := []) (rest := [.int 2]) (st1 := [.int u_8.1, .int 2]) (is := [0, 1, 2, 3]) (w1 := (wX6_0_3_4_5 cy ad xp u_8.2.1 xs u_8.2.2 xn a_rp a_rgs a_sv a_co)) ⟨hx, hb, hml, hown, hts⟩ hK hN (KX6_body10 l D cy ad xp u_3.1 xs u_3.2 xn a_rp a_rgs a_sv a_co H.size hu_8) (cwV 0 hts gX6_body12_X6_body10 rfl rfl rfl (by decide +kernel) ⟨Nat.le_of_ble_eq_true rfl, Nat.le_of_ble_eq_true rfl⟩) (va_recv hK hP (ci := 6) (q0 := 0) rfl rfl) hP hD hS hA P_nil (sepW_nil _) (by decide) rfl rfl rfl hl.1 rfl (Nat.le_of_ble_eq_true rfl) rfl dX6_body12_8 ⟨Nat.zero_le _, Nat.zero_le _⟩ (fun H locs hP hD hS => ?_)
  have hP : va_P D vwCl ((wX6_0_3_4_5 cy ad xp u_8.2.1 xs u_8.2.2 xn a_rp a_rgs a_sv a_co)) H := hP
  have hD : va_D A ((wX6_0_3_4_5 cy ad xp u_8.2.1 xs u_8.2.2 xn a_rp a_rgs a_sv a_co)) := hD
  refine lv_imul hx hb dX6_body12_11 ?_
  obtain rfl := Option.some.inj hf
  rw [← hQe]
  exact W.iret (v := (2 * u_8.1)) hx hb hr (fun t ht hW => ⟨rfl, by rw [ht]; exact hP, hS.F ht⟩) hS.2.2 dX6_body12_12
def FX6_body20  (xt : Int32) (tr : Nat → Int32) (m_pn : Nat) (m_pc : Nat → Int32)  : Option (Int32 × (Int32) × (Nat → Int32)) := (ob (FX6_begin xt tr 20) (fun u_3 => gi 0 m_pn (some ((m_pc (Int32.toNatClampNeg 0)), u_3.1, u_3.2))))
abbrev RMX6_body20 : Room := { frames := 1, cells := 0, slots := 0, locals := 21 }
set_option maxHeartbeats 4000000 in
set_option maxRecDepth 100000 in
theorem KX6_body20 (l : Launch) (D : va_G) (cy : Nat → ClassId) (ad : Nat → Nat) (am : Nat → Nat) (xp : Int32) (xt : Int32) (xs : Int32) (tr : Nat → Int32) (m_pn : Nat) (m_pp : Int32) (m_pd : Int32) (m_pt : Int32) (m_pc : Nat → Int32)  (sz : Nat) {out : Int32 × (Int32) × (Nat → Int32)} (hf : FX6_body20 xt tr m_pn m_pc = some out) : Met l yX6_body20 wsX6_body20 RMX6_body20 (PW D cy [.ref (ad 0), .ref (am 0)] sz ((wX6_0_3 cy ad xp xt xs tr)) ((wX2_0_1 cy am m_pn m_pp m_pd m_pt m_pc))) (QW D (some (.int out.1)) ((wX6_0_3 cy ad xp out.2.1 xs out.2.2)) (va_A ((wX6_0_3 cy ad xp xt xs tr)) sz)) 0 0 (va_A ((wX6_0_3 cy ad xp xt xs tr)) sz) := by
  refine Met.ofW (cc := cX6_body20) (maxL := 2) (ret := (some .int)) (by decide +kernel) rfl ?_
  intro p e s m args below meth c s₁ B hml hv
  obtain ⟨hav, hsz, hP, hR0, hK, hN, hD0, hsep⟩ := hv
  have hx := B.exec
  have hb := B.bytes
  have hr := B.returns
  have hts := atoms_spec (ws := wsX6_body20) B.pre
  have hown : s.vm.findClass RX6 = some m.cls := findClass_of_methodNamed B.named
  have hlocks := B.notSynchronized
  subst hsz
  have hin_X2 : ∀ w ∈ u_ws RX2 TX2 4, w ∈ wsX6_body20 := by decide +kernel
  have hw_0 := hts (.fieldLink RX6 126 "ReturnPoints$Poly" "c" "[I") (by decide +kernel)
  have hD := hD0.self (sz := s.heap.size)
  have hnA := roA hsep hR0
  generalize hAe : va_A ((wX6_0_3 cy ad xp xt xs tr)) s.heap.size = A at hD hnA ⊢
  have hA : ∀ q : Nat, s.heap.size ≤ q → A q := fun q h => by rw [← hAe]; exact Or.inr h
  have hS : va_S A s.heap s.heap [] := va_S.rf
  obtain ⟨ls, hfr, hl⟩ := ent_ok (m := m) (n := 2) (l' := [(0, .ref (ad 0)), (1, .ref (am 0))]) [.ref (ad 0), .ref (am 0)] hav (Nat.le_of_ble_eq_true rfl) rfl
  rw [hfr]
  generalize hQe : MQ below (QW D (some (.int out.1)) ((wX6_0_3 cy ad xp out.2.1 xs out.2.2)) A) args s 0 0 A = QQ
  change W p l e RMX6_body20 s m args below meth c s.heap [] 0 0 QQ (F0 m 0 ls [])
  have hP : va_P D vwCl ((wX6_0_3 cy ad xp xt xs tr)) s.heap := hP
  have hD : va_D A ((wX6_0_3 cy ad xp xt xs tr)) := hD
  suffices h00 : ∀ (H : Heap) (locs : List Loc), va_P D vwCl ((wX6_0_3 cy ad xp xt xs tr)) H → va_S A s.heap H locs → W p l e RMX6_body20 s m args below meth c H locs 0 0 QQ (F0 m 0 ls []) from h00 _ _ hP hS
  clear hP hS
  intro H locs hP hS
  unfold FX6_body20 at hf
  refine lv_aload_n hx hb dX6_body20_0 rfl (lv_at hl 0 rfl) ?_
  refine lv_bipush (v := 20) hx hb dX6_body20_1 (by decide) ?_
  replace hf := ob_e hf
  obtain ⟨u_3, hu_3, hf⟩ := hf
  refine ivW (As := [.int 20]) (rest := []) (st1 := []) (is := [0, 1]) (w1 := (wX6_0_3 cy ad xp u_3.1 xs u_3.2)) ⟨hx, hb, hml, hown, hts⟩ hK hN (KX6_begin l D cy ad xp xt xs tr 20 H.size hu_3) (cwV 1 hts gX6_body20_X6_begin rfl rfl rfl (by decide +kernel) ⟨Nat.le_of_ble_eq_true rfl, Nat.le_of_ble_eq_true rfl⟩) (va_recv hK hP (ci := 6) (q0 := 0) rfl rfl) hP hD hS hA P_nil (sepW_nil _) (by decide) rfl rfl rfl hl.1 rfl (Nat.le_of_ble_eq_true rfl) rfl dX6_body20_3 ⟨Nat.zero_le _, Nat.zero_le _⟩ (fun H locs hP hD hS => ?_)
  have hP : va_P D vwCl ((wX6_0_3 cy ad xp u_3.1 xs u_3.2)) H := hP
  have hD : va_D A ((wX6_0_3 cy ad xp u_3.1 xs u_3.2)) := hD
  refine lv_aload_n hx hb dX6_body20_6 rfl (lv_at hl 1 rfl) ?_
  have hR := roN hR0 hnA hS
  refine va_get (a := (am 0)) (ci := 2) (v := .ref (am 1)) (C := RX2) (T := TX2) (N := 4) hx hb hts hin_X2 hown hK hR 0 rfl rfl 1 (by decide) hw_0 (fun _ h => h) rfl dX6_body20_7 ?_
  refine lv_iconst (v := 0) hx hb dX6_body20_10 (by decide) ?_
  replace hf := gi_e hf
  obtain ⟨i_11, hf⟩ := hf
  have hR := roN hR0 hnA hS
  refine va_iald (a := (am 1)) hx hb hK hR 1 0 rfl rfl i_11 dX6_body20_11 ?_
  obtain rfl := Option.some.inj hf
  rw [← hQe]
  exact W.iret (v := (m_pc (Int32.toNatClampNeg 0))) hx hb hr (fun t ht hW => ⟨rfl, by rw [ht]; exact hP, hS.F ht⟩) hS.2.2 dX6_body20_12
def FX6_body21  (xp : Int32) (xt : Int32) (tr : Nat → Int32) (m_pn : Nat) (m_pc : Nat → Int32)  : Option (Int32 × (Int32) × (Nat → Int32)) := (ob (FX6_begin xt tr 21) (fun u_3 => ob (FX6_body20 u_3.1 u_3.2 m_pn m_pc) (fun u_8 => some ((u_8.1 + xp), u_8.2.1, u_8.2.2))))
abbrev RMX6_body21 : Room := { frames := 2, cells := 0, slots := 0, locals := 42 }
set_option maxHeartbeats 4000000 in
set_option maxRecDepth 100000 in
theorem KX6_body21 (l : Launch) (D : va_G) (cy : Nat → ClassId) (ad : Nat → Nat) (am : Nat → Nat) (xp : Int32) (xt : Int32) (xs : Int32) (tr : Nat → Int32) (m_pn : Nat) (m_pp : Int32) (m_pd : Int32) (m_pt : Int32) (m_pc : Nat → Int32)  (sz : Nat) {out : Int32 × (Int32) × (Nat → Int32)} (hf : FX6_body21 xp xt tr m_pn m_pc = some out) : Met l yX6_body21 wsX6_body21 RMX6_body21 (PW D cy [.ref (ad 0), .ref (am 0)] sz ((wX6_0_3 cy ad xp xt xs tr)) ((wX2_0_1 cy am m_pn m_pp m_pd m_pt m_pc))) (QW D (some (.int out.1)) ((wX6_0_3 cy ad xp out.2.1 xs out.2.2)) (va_A ((wX6_0_3 cy ad xp xt xs tr)) sz)) 0 0 (va_A ((wX6_0_3 cy ad xp xt xs tr)) sz) := by
  refine Met.ofW (cc := cX6_body21) (maxL := 2) (ret := (some .int)) (by decide +kernel) rfl ?_
  intro p e s m args below meth c s₁ B hml hv
  obtain ⟨hav, hsz, hP, hR0, hK, hN, hD0, hsep⟩ := hv
  have hx := B.exec
  have hb := B.bytes
  have hr := B.returns
  have hts := atoms_spec (ws := wsX6_body21) B.pre
  have hown : s.vm.findClass RX6 = some m.cls := findClass_of_methodNamed B.named
  have hlocks := B.notSynchronized
  subst hsz
  have hin_X6 : ∀ w ∈ u_ws RX6 TX6 10, w ∈ wsX6_body21 := by decide +kernel
  have hw_0 := hts (.fieldLink RX6 13 "ReturnPoints" "p" "I") (by decide +kernel)
  have hD := hD0.self (sz := s.heap.size)
  have hnA := roA hsep hR0
  generalize hAe : va_A ((wX6_0_3 cy ad xp xt xs tr)) s.heap.size = A at hD hnA ⊢
  have hA : ∀ q : Nat, s.heap.size ≤ q → A q := fun q h => by rw [← hAe]; exact Or.inr h
  have hS : va_S A s.heap s.heap [] := va_S.rf
  obtain ⟨ls, hfr, hl⟩ := ent_ok (m := m) (n := 2) (l' := [(0, .ref (ad 0)), (1, .ref (am 0))]) [.ref (ad 0), .ref (am 0)] hav (Nat.le_of_ble_eq_true rfl) rfl
  rw [hfr]
  generalize hQe : MQ below (QW D (some (.int out.1)) ((wX6_0_3 cy ad xp out.2.1 xs out.2.2)) A) args s 0 0 A = QQ
  change W p l e RMX6_body21 s m args below meth c s.heap [] 0 0 QQ (F0 m 0 ls [])
  have hP : va_P D vwCl ((wX6_0_3 cy ad xp xt xs tr)) s.heap := hP
  have hD : va_D A ((wX6_0_3 cy ad xp xt xs tr)) := hD
  suffices h00 : ∀ (H : Heap) (locs : List Loc), va_P D vwCl ((wX6_0_3 cy ad xp xt xs tr)) H → va_S A s.heap H locs → W p l e RMX6_body21 s m args below meth c H locs 0 0 QQ (F0 m 0 ls []) from h00 _ _ hP hS
  clear hP hS
  intro H locs hP hS
  unfold FX6_body21 at hf
  refine lv_aload_n hx hb dX6_body21_0 rfl (lv_at hl 0 rfl) ?_
  refine lv_bipush (v := 21) hx hb dX6_body21_1 (by decide) ?_
  replace hf := ob_e hf
  obtain ⟨u_3, hu_3, hf⟩ := hf
  refine ivW (As := [.int 21]) (rest := []) (st1 := []) (is := [0, 1]) (w1 := (wX6_0_3 cy ad xp u_3.1 xs u_3.2)) ⟨hx, hb, hml, hown, hts⟩ hK hN (KX6_begin l D cy ad xp xt xs tr 21 H.size hu_3) (cwV 1 hts gX6_body21_X6_begin rfl rfl rfl (by decide +kernel) ⟨Nat.le_of_ble_eq_true rfl, Nat.le_of_ble_eq_true rfl⟩) (va_recv hK hP (ci := 6) (q0 := 0) rfl rfl) hP hD hS hA P_nil (sepW_nil _) (by decide) rfl rfl rfl hl.1 rfl (Nat.le_of_ble_eq_true rfl) rfl dX6_body21_3 ⟨Nat.zero_le _, Nat.zero_le _⟩ (fun H locs hP hD hS => ?_)
  have hP : va_P D vwCl ((wX6_0_3 cy ad xp u_3.1 xs u_3.2)) H := hP
  have hD : va_D A ((wX6_0_3 cy ad xp u_3.1 xs u_3.2)) := hD
  refine lv_aload_n hx hb dX6_body21_6 rfl (lv_at hl 0 rfl) ?_
  refine lv_aload_n hx hb dX6_body21_7 rfl (lv_at hl 1 rfl) ?_
  replace hf := ob_e hf
  obtain ⟨u_8, hu_8, hf⟩ := hf
  have hR := roN hR0 hnA hS
  refine ivW (As := [.ref (am 0)]) (rest := []) (st1 := [.int u_8.1]) (is := [0, 1]) (w1 := (wX6_0_3 cy ad xp u_8.2.1 xs u_8.2.2)) ⟨hx, hb, hml, hown, hts⟩ hK hN (KX6_body20 l D cy ad am xp u_3.1 xs u_3.2 m_pn m_pp m_pd m_pt m_pc H.size hu_8) (cwV 1 hts gX6_body21_X6_body20 rfl rfl rfl (by decide +kernel) ⟨Nat.le_of_ble_eq_true rfl, Nat.le_of_ble_eq_true rfl⟩) (va_recv hK hP (ci := 6) (q0 := 0) rfl rfl) hP hD hS hA (P_pl (wc := (wX2_0_1 cy am m_pn m_pp m_pd m_pt m_pc)) (is := [0, 1]) hR rfl) (sep_nA (is := [0, 1]) (isR := [0, 1]) hnA hD rfl rfl) (by decide) rfl rfl rfl hl.1 rfl (Nat.le_of_ble_eq_true rfl) rfl dX6_body21_8 ⟨Nat.zero_le _, Nat.zero_le _⟩ (fun H locs hP hD hS => ?_)
  have hP : va_P D vwCl ((wX6_0_3 cy ad xp u_8.2.1 xs u_8.2.2)) H := hP
  have hD : va_D A ((wX6_0_3 cy ad xp u_8.2.1 xs u_8.2.2)) := hD
  refine lv_aload_n hx hb dX6_body21_11 rfl (lv_at hl 0 rfl) ?_
  refine va_get (a := (ad 0)) (ci := 6) (v := .int xp) (C := RX6) (T := TX6) (N := 10) hx hb hts hin_X6 hown hK hP 0 rfl rfl 0 (by decide) hw_0 (fun _ h => h) rfl dX6_body21_12 ?_
  refine lv_iadd hx hb dX6_body21_15 ?_
  obtain rfl := Option.some.inj hf
  rw [← hQe]
  exact W.iret (v := (u_8.1 + xp)) hx hb hr (fun t ht hW => ⟨rfl, by rw [ht]; exact hP, hS.F ht⟩) hS.2.2 dX6_body21_16
def FX6_body22  (xp : Int32) (xt : Int32) (tr : Nat → Int32) (xn : Nat) (a_pe : Nat → Int32) (m_pn : Nat) (m_pc : Nat → Int32)  : Option (Int32 × (Int32) × (Nat → Int32)) := (ob (FX6_begin xt tr 22) (fun u_3 => ob (FX6_body21 xp u_3.1 u_3.2 m_pn m_pc) (fun u_8 => bd u_8.1 (fun v_11 => gi 0 xn (some ((v_11 + (a_pe (Int32.toNatClampNeg 0))), u_8.2.1, u_8.2.2))))))
abbrev RMX6_body22 : Room := { frames := 3, cells := 0, slots := 0, locals := 63 }
set_option maxHeartbeats 4000000 in
set_option maxRecDepth 100000 in
theorem KX6_body22 (l : Launch) (D : va_G) (cy : Nat → ClassId) (ad : Nat → Nat) (am : Nat → Nat) (xp : Int32) (xt : Int32) (xs : Int32) (tr : Nat → Int32) (xn : Nat) (a_rp : Int32) (a_rgs : Int32) (a_sv : Option Nat) (a_osz : Int32) (a_pe : Nat → Int32) (m_pn : Nat) (m_pp : Int32) (m_pd : Int32) (m_pt : Int32) (m_pc : Nat → Int32)  (sz : Nat) {out : Int32 × (Int32) × (Nat → Int32)} (hf : FX6_body22 xp xt tr xn a_pe m_pn m_pc = some out) : Met l yX6_body22 wsX6_body22 RMX6_body22 (PW D cy [.ref (ad 0), .ref (am 0)] sz ((wX6_0_3_4_13_16 cy ad xp xt xs tr xn a_rp a_rgs a_sv a_osz a_pe)) ((wX2_0_1 cy am m_pn m_pp m_pd m_pt m_pc))) (QW D (some (.int out.1)) ((wX6_0_3_4_13_16 cy ad xp out.2.1 xs out.2.2 xn a_rp a_rgs a_sv a_osz a_pe)) (va_A ((wX6_0_3_4_13_16 cy ad xp xt xs tr xn a_rp a_rgs a_sv a_osz a_pe)) sz)) 0 0 (va_A ((wX6_0_3_4_13_16 cy ad xp xt xs tr xn a_rp a_rgs a_sv a_osz a_pe)) sz) := by
  refine Met.ofW (cc := cX6_body22) (maxL := 3) (ret := (some .int)) (by decide +kernel) rfl ?_
  intro p e s m args below meth c s₁ B hml hv
  obtain ⟨hav, hsz, hP, hR0, hK, hN, hD0, hsep⟩ := hv
  have hx := B.exec
  have hb := B.bytes
  have hr := B.returns
  have hts := atoms_spec (ws := wsX6_body22) B.pre
  have hown : s.vm.findClass RX6 = some m.cls := findClass_of_methodNamed B.named
  have hlocks := B.notSynchronized
  subst hsz
  have hin_X1 : ∀ w ∈ u_ws RX1 TX1 6, w ∈ wsX6_body22 := by decide +kernel
  have hin_X3 : ∀ w ∈ u_ws RX3 TX3 12, w ∈ wsX6_body22 := by decide +kernel
  have hin_X6 : ∀ w ∈ u_ws RX6 TX6 10, w ∈ wsX6_body22 := by decide +kernel
  have hw_0 := hts (.fieldLink RX6 38 "ReturnPoints" "roads" "LReturnPoints$Roads;") (by decide +kernel)
  have hw_1 := hts (.fieldLink RX6 162 "ReturnPoints$Roads" "orbits" "LReturnPoints$Orbits;") (by decide +kernel)
  have hw_2 := hts (.fieldLink RX6 259 "ReturnPoints$Orbits" "period" "[I") (by decide +kernel)
  have hD := hD0.self (sz := s.heap.size)
  have hnA := roA hsep hR0
  generalize hAe : va_A ((wX6_0_3_4_13_16 cy ad xp xt xs tr xn a_rp a_rgs a_sv a_osz a_pe)) s.heap.size = A at hD hnA ⊢
  have hA : ∀ q : Nat, s.heap.size ≤ q → A q := fun q h => by rw [← hAe]; exact Or.inr h
  have hS : va_S A s.heap s.heap [] := va_S.rf
  obtain ⟨ls, hfr, hl⟩ := ent_ok (m := m) (n := 3) (l' := [(0, .ref (ad 0)), (1, .ref (am 0))]) [.ref (ad 0), .ref (am 0)] hav (Nat.le_of_ble_eq_true rfl) rfl
  rw [hfr]
  generalize hQe : MQ below (QW D (some (.int out.1)) ((wX6_0_3_4_13_16 cy ad xp out.2.1 xs out.2.2 xn a_rp a_rgs a_sv a_osz a_pe)) A) args s 0 0 A = QQ
  change W p l e RMX6_body22 s m args below meth c s.heap [] 0 0 QQ (F0 m 0 ls [])
  have hP : va_P D vwCl ((wX6_0_3_4_13_16 cy ad xp xt xs tr xn a_rp a_rgs a_sv a_osz a_pe)) s.heap := hP
  have hD : va_D A ((wX6_0_3_4_13_16 cy ad xp xt xs tr xn a_rp a_rgs a_sv a_osz a_pe)) := hD
  suffices h00 : ∀ (H : Heap) (locs : List Loc), va_P D vwCl ((wX6_0_3_4_13_16 cy ad xp xt xs tr xn a_rp a_rgs a_sv a_osz a_pe)) H → va_S A s.heap H locs → W p l e RMX6_body22 s m args below meth c H locs 0 0 QQ (F0 m 0 ls []) from h00 _ _ hP hS
  clear hP hS
  intro H locs hP hS
  unfold FX6_body22 at hf
  refine lv_aload_n hx hb dX6_body22_0 rfl (lv_at hl 0 rfl) ?_
  refine lv_bipush (v := 22) hx hb dX6_body22_1 (by decide) ?_
  replace hf := ob_e hf
  obtain ⟨u_3, hu_3, hf⟩ := hf
  refine ivW (As := [.int 22]) (rest := []) (st1 := []) (is := [0, 1]) (w1 := (wX6_0_3 cy ad xp u_3.1 xs u_3.2)) ⟨hx, hb, hml, hown, hts⟩ hK hN (KX6_begin l D cy ad xp xt xs tr 22 H.size hu_3) (cwV 1 hts gX6_body22_X6_begin rfl rfl rfl (by decide +kernel) ⟨Nat.le_of_ble_eq_true rfl, Nat.le_of_ble_eq_true rfl⟩) (va_recv hK hP (ci := 6) (q0 := 0) rfl rfl) hP hD hS hA P_nil (sepW_nil _) (by decide) rfl rfl rfl hl.1 rfl (Nat.le_of_ble_eq_true rfl) rfl dX6_body22_3 ⟨Nat.zero_le _, Nat.zero_le _⟩ (fun H locs hP hD hS => ?_)
  have hP : va_P D vwCl ((wX6_0_3_4_13_16 cy ad xp u_3.1 xs u_3.2 xn a_rp a_rgs a_sv a_osz a_pe)) H := hP
  have hD : va_D A ((wX6_0_3_4_13_16 cy ad xp u_3.1 xs u_3.2 xn a_rp a_rgs a_sv a_osz a_pe)) := hD
  refine lv_aload_n hx hb dX6_body22_6 rfl (lv_at hl 0 rfl) ?_
  refine lv_aload_n hx hb dX6_body22_7 rfl (lv_at hl 1 rfl) ?_
  replace hf := ob_e hf
  obtain ⟨u_8, hu_8, hf⟩ := hf
  have hR := roN hR0 hnA hS
  refine ivW (As := [.ref (am 0)]) (rest := []) (st1 := [.int u_8.1]) (is := [0, 1]) (w1 := (wX6_0_3 cy ad xp u_8.2.1 xs u_8.2.2)) ⟨hx, hb, hml, hown, hts⟩ hK hN (KX6_body21 l D cy ad am xp u_3.1 xs u_3.2 m_pn m_pp m_pd m_pt m_pc H.size hu_8) (cwV 1 hts gX6_body22_X6_body21 rfl rfl rfl (by decide +kernel) ⟨Nat.le_of_ble_eq_true rfl, Nat.le_of_ble_eq_true rfl⟩) (va_recv hK hP (ci := 6) (q0 := 0) rfl rfl) hP hD hS hA (P_pl (wc := (wX2_0_1 cy am m_pn m_pp m_pd m_pt m_pc)) (is := [0, 1]) hR rfl) (sep_nA (is := [0, 1]) (isR := [0, 1]) hnA hD rfl rfl) (by decide) rfl rfl rfl hl.1 rfl (Nat.le_of_ble_eq_true rfl) rfl dX6_body22_8 ⟨Nat.zero_le _, Nat.zero_le _⟩ (fun H locs hP hD hS => ?_)
  have hP : va_P D vwCl ((wX6_0_3_4_13_16 cy ad xp u_8.2.1 xs u_8.2.2 xn a_rp a_rgs a_sv a_osz a_pe)) H := hP
  have hD : va_D A ((wX6_0_3_4_13_16 cy ad xp u_8.2.1 xs u_8.2.2 xn a_rp a_rgs a_sv a_osz a_pe)) := hD
  refine lv_topi (fun v_11 e_11 => ?_)
  replace hf := bd_at e_11 hf
  clear e_11
  refine lv_istore_n (lv' := [(2, .int v_11), (0, .ref (ad 0)), (1, .ref (am 0))]) hx hb dX6_body22_11 rfl hl (by decide) rfl (fun ls hl => ?_)
  refine lv_iload_n hx hb dX6_body22_12 rfl (lv_at hl 0 rfl) ?_
  refine lv_aload_n hx hb dX6_body22_13 rfl (lv_at hl 1 rfl) ?_
  refine va_get (a := (ad 0)) (ci := 6) (v := .ref (ad 4)) (C := RX6) (T := TX6) (N := 10) hx hb hts hin_X6 hown hK hP 0 rfl rfl 4 (by decide) hw_0 (fun _ h => h) rfl dX6_body22_14 ?_
  refine va_get (a := (ad 4)) (ci := 3) (v := .ref (ad 13)) (C := RX3) (T := TX3) (N := 12) hx hb hts hin_X3 hown hK hP 2 rfl rfl 1 (by decide) hw_1 (fun _ h => h) rfl dX6_body22_17 ?_
  refine va_get (a := (ad 13)) (ci := 1) (v := .ref (ad 16)) (C := RX1) (T := TX1) (N := 6) hx hb hts hin_X1 hown hK hP 3 rfl rfl 3 (by decide) hw_2 (fun _ h => h) rfl dX6_body22_20 ?_
  refine lv_iconst (v := 0) hx hb dX6_body22_23 (by decide) ?_
  replace hf := gi_e hf
  obtain ⟨i_24, hf⟩ := hf
  refine va_iald (a := (ad 16)) hx hb hK hP 4 0 rfl rfl i_24 dX6_body22_24 ?_
  refine lv_iadd hx hb dX6_body22_25 ?_
  obtain rfl := Option.some.inj hf
  rw [← hQe]
  exact W.iret (v := (v_11 + (a_pe (Int32.toNatClampNeg 0)))) hx hb hr (fun t ht hW => ⟨rfl, by rw [ht]; exact hP, hS.F ht⟩) hS.2.2 dX6_body22_26
def FX6_body13  (xp : Int32) (xt : Int32) (tr : Nat → Int32) (xn : Nat) (a_rp : Int32) (a_co : Nat → Int32) (a_pe : Nat → Int32) (m_pn : Nat) (m_pc : Nat → Int32)  : Option (Int32 × (Int32) × (Nat → Int32)) := (ob (FX6_begin xt tr 13) (fun u_3 => ob (FX6_body12 xp u_3.1 u_3.2 xn a_rp a_co) (fun u_7 => bd u_7.1 (fun v_10 => ob (FX6_body22 xp u_7.2.1 u_7.2.2 xn a_pe m_pn m_pc) (fun u_14 => some ((v_10 + u_14.1), u_14.2.1, u_14.2.2))))))
abbrev RMX6_body13 : Room := { frames := 4, cells := 0, slots := 0, locals := 85 }
set_option maxHeartbeats 4000000 in
set_option maxRecDepth 100000 in
theorem KX6_body13 (l : Launch) (D : va_G) (cy : Nat → ClassId) (ad : Nat → Nat) (am : Nat → Nat) (xp : Int32) (xt : Int32) (xs : Int32) (tr : Nat → Int32) (xn : Nat) (a_rp : Int32) (a_rgs : Int32) (a_sv : Option Nat) (a_co : Nat → Int32) (a_osz : Int32) (a_pe : Nat → Int32) (m_pn : Nat) (m_pp : Int32) (m_pd : Int32) (m_pt : Int32) (m_pc : Nat → Int32)  (sz : Nat) {out : Int32 × (Int32) × (Nat → Int32)} (hf : FX6_body13 xp xt tr xn a_rp a_co a_pe m_pn m_pc = some out) : Met l yX6_body13 wsX6_body13 RMX6_body13 (PW D cy [.ref (ad 0), .ref (am 0)] sz ((wX6_0_3_4_5_13_16 cy ad xp xt xs tr xn a_rp a_rgs a_sv a_co a_osz a_pe)) ((wX2_0_1 cy am m_pn m_pp m_pd m_pt m_pc))) (QW D (some (.int out.1)) ((wX6_0_3_4_5_13_16 cy ad xp out.2.1 xs out.2.2 xn a_rp a_rgs a_sv a_co a_osz a_pe)) (va_A ((wX6_0_3_4_5_13_16 cy ad xp xt xs tr xn a_rp a_rgs a_sv a_co a_osz a_pe)) sz)) 0 0 (va_A ((wX6_0_3_4_5_13_16 cy ad xp xt xs tr xn a_rp a_rgs a_sv a_co a_osz a_pe)) sz) := by
  refine Met.ofW (cc := cX6_body13) (maxL := 3) (ret := (some .int)) (by decide +kernel) rfl ?_
  intro p e s m args below meth c s₁ B hml hv
  obtain ⟨hav, hsz, hP, hR0, hK, hN, hD0, hsep⟩ := hv
  have hx := B.exec
  have hb := B.bytes
  have hr := B.returns
  have hts := atoms_spec (ws := wsX6_body13) B.pre
  have hown : s.vm.findClass RX6 = some m.cls := findClass_of_methodNamed B.named
  have hlocks := B.notSynchronized
  subst hsz
  have hD := hD0.self (sz := s.heap.size)
  have hnA := roA hsep hR0
  generalize hAe : va_A ((wX6_0_3_4_5_13_16 cy ad xp xt xs tr xn a_rp a_rgs a_sv a_co a_osz a_pe)) s.heap.size = A at hD hnA ⊢
  have hA : ∀ q : Nat, s.heap.size ≤ q → A q := fun q h => by rw [← hAe]; exact Or.inr h
  have hS : va_S A s.heap s.heap [] := va_S.rf
  obtain ⟨ls, hfr, hl⟩ := ent_ok (m := m) (n := 3) (l' := [(0, .ref (ad 0)), (1, .ref (am 0))]) [.ref (ad 0), .ref (am 0)] hav (Nat.le_of_ble_eq_true rfl) rfl
  rw [hfr]
  generalize hQe : MQ below (QW D (some (.int out.1)) ((wX6_0_3_4_5_13_16 cy ad xp out.2.1 xs out.2.2 xn a_rp a_rgs a_sv a_co a_osz a_pe)) A) args s 0 0 A = QQ
  change W p l e RMX6_body13 s m args below meth c s.heap [] 0 0 QQ (F0 m 0 ls [])
  have hP : va_P D vwCl ((wX6_0_3_4_5_13_16 cy ad xp xt xs tr xn a_rp a_rgs a_sv a_co a_osz a_pe)) s.heap := hP
  have hD : va_D A ((wX6_0_3_4_5_13_16 cy ad xp xt xs tr xn a_rp a_rgs a_sv a_co a_osz a_pe)) := hD
  suffices h00 : ∀ (H : Heap) (locs : List Loc), va_P D vwCl ((wX6_0_3_4_5_13_16 cy ad xp xt xs tr xn a_rp a_rgs a_sv a_co a_osz a_pe)) H → va_S A s.heap H locs → W p l e RMX6_body13 s m args below meth c H locs 0 0 QQ (F0 m 0 ls []) from h00 _ _ hP hS
  clear hP hS
  intro H locs hP hS
  unfold FX6_body13 at hf
  refine lv_aload_n hx hb dX6_body13_0 rfl (lv_at hl 0 rfl) ?_
  refine lv_bipush (v := 13) hx hb dX6_body13_1 (by decide) ?_
  replace hf := ob_e hf
  obtain ⟨u_3, hu_3, hf⟩ := hf
  refine ivW (As := [.int 13]) (rest := []) (st1 := []) (is := [0, 1]) (w1 := (wX6_0_3 cy ad xp u_3.1 xs u_3.2)) ⟨hx, hb, hml, hown, hts⟩ hK hN (KX6_begin l D cy ad xp xt xs tr 13 H.size hu_3) (cwV 1 hts gX6_body13_X6_begin rfl rfl rfl (by decide +kernel) ⟨Nat.le_of_ble_eq_true rfl, Nat.le_of_ble_eq_true rfl⟩) (va_recv hK hP (ci := 6) (q0 := 0) rfl rfl) hP hD hS hA P_nil (sepW_nil _) (by decide) rfl rfl rfl hl.1 rfl (Nat.le_of_ble_eq_true rfl) rfl dX6_body13_3 ⟨Nat.zero_le _, Nat.zero_le _⟩ (fun H locs hP hD hS => ?_)
  have hP : va_P D vwCl ((wX6_0_3_4_5_13_16 cy ad xp u_3.1 xs u_3.2 xn a_rp a_rgs a_sv a_co a_osz a_pe)) H := hP
  have hD : va_D A ((wX6_0_3_4_5_13_16 cy ad xp u_3.1 xs u_3.2 xn a_rp a_rgs a_sv a_co a_osz a_pe)) := hD
  refine lv_aload_n hx hb dX6_body13_6 rfl (lv_at hl 0 rfl) ?_
  replace hf := ob_e hf
  obtain ⟨u_7, hu_7, hf⟩ := hf
  refine ivW (As := []) (rest := []) (st1 := [.int u_7.1]) (is := [0, 1, 2, 3]) (w1 := (wX6_0_3_4_5 cy ad xp u_7.2.1 xs u_7.2.2 xn a_rp a_rgs a_sv a_co)) ⟨hx, hb, hml, hown, hts⟩ hK hN (KX6_body12 l D cy ad xp u_3.1 xs u_3.2 xn a_rp a_rgs a_sv a_co H.size hu_7) (cwV 0 hts gX6_body13_X6_body12 rfl rfl rfl (by decide +kernel) ⟨Nat.le_of_ble_eq_true rfl, Nat.le_of_ble_eq_true rfl⟩) (va_recv hK hP (ci := 6) (q0 := 0) rfl rfl) hP hD hS hA P_nil (sepW_nil _) (by decide) rfl rfl rfl hl.1 rfl (Nat.le_of_ble_eq_true rfl) rfl dX6_body13_7 ⟨Nat.zero_le _, Nat.zero_le _⟩ (fun H locs hP hD hS => ?_)
  have hP : va_P D vwCl ((wX6_0_3_4_5_13_16 cy ad xp u_7.2.1 xs u_7.2.2 xn a_rp a_rgs a_sv a_co a_osz a_pe)) H := hP
  have hD : va_D A ((wX6_0_3_4_5_13_16 cy ad xp u_7.2.1 xs u_7.2.2 xn a_rp a_rgs a_sv a_co a_osz a_pe)) := hD
  refine lv_topi (fun v_10 e_10 => ?_)
  replace hf := bd_at e_10 hf
  clear e_10
  refine lv_istore_n (lv' := [(2, .int v_10), (0, .ref (ad 0)), (1, .ref (am 0))]) hx hb dX6_body13_10 rfl hl (by decide) rfl (fun ls hl => ?_)
  refine lv_iload_n hx hb dX6_body13_11 rfl (lv_at hl 0 rfl) ?_
  refine lv_aload_n hx hb dX6_body13_12 rfl (lv_at hl 1 rfl) ?_
  refine lv_aload_n hx hb dX6_body13_13 rfl (lv_at hl 2 rfl) ?_
  replace hf := ob_e hf
  obtain ⟨u_14, hu_14, hf⟩ := hf
  have hR := roN hR0 hnA hS
  refine ivW (As := [.ref (am 0)]) (rest := [.int v_10]) (st1 := [.int u_14.1, .int v_10]) (is := [0, 1, 2, 4, 5]) (w1 := (wX6_0_3_4_13_16 cy ad xp u_14.2.1 xs u_14.2.2 xn a_rp a_rgs a_sv a_osz a_pe)) ⟨hx, hb, hml, hown, hts⟩ hK hN (KX6_body22 l D cy ad am xp u_7.2.1 xs u_7.2.2 xn a_rp a_rgs a_sv a_osz a_pe m_pn m_pp m_pd m_pt m_pc H.size hu_14) (cwV 1 hts gX6_body13_X6_body22 rfl rfl rfl (by decide +kernel) ⟨Nat.le_of_ble_eq_true rfl, Nat.le_of_ble_eq_true rfl⟩) (va_recv hK hP (ci := 6) (q0 := 0) rfl rfl) hP hD hS hA (P_pl (wc := (wX2_0_1 cy am m_pn m_pp m_pd m_pt m_pc)) (is := [0, 1]) hR rfl) (sep_nA (is := [0, 1, 2, 4, 5]) (isR := [0, 1]) hnA hD rfl rfl) (by decide) rfl rfl rfl hl.1 rfl (Nat.le_of_ble_eq_true rfl) rfl dX6_body13_14 ⟨Nat.zero_le _, Nat.zero_le _⟩ (fun H locs hP hD hS => ?_)
  have hP : va_P D vwCl ((wX6_0_3_4_5_13_16 cy ad xp u_14.2.1 xs u_14.2.2 xn a_rp a_rgs a_sv a_co a_osz a_pe)) H := hP
  have hD : va_D A ((wX6_0_3_4_5_13_16 cy ad xp u_14.2.1 xs u_14.2.2 xn a_rp a_rgs a_sv a_co a_osz a_pe)) := hD
  refine lv_iadd hx hb dX6_body13_17 ?_
  obtain rfl := Option.some.inj hf
  rw [← hQe]
  exact W.iret (v := (v_10 + u_14.1)) hx hb hr (fun t ht hW => ⟨rfl, by rw [ht]; exact hP, hS.F ht⟩) hS.2.2 dX6_body13_18
def FX6_sizeAsked  (xp : Int32) (xt : Int32) (tr : Nat → Int32) (xn : Nat) (a_rp : Int32) (a_co : Nat → Int32) (a_pe : Nat → Int32) (m_pn : Nat) (m_pt : Int32) (m_pc : Nat → Int32)  : Option (Int32 × (Int32) × (Nat → Int32)) := (if m_pt = 2 then (ob (FX6_body11 xp xt tr) (fun u_33 => some (u_33.1, u_33.2.1, u_33.2.2))) else if m_pt = 3 then (ob (FX6_body12 xp xt tr xn a_rp a_co) (fun u_38 => some (u_38.1, u_38.2.1, u_38.2.2))) else if m_pt = 4 then (ob (FX6_body13 xp xt tr xn a_rp a_co a_pe m_pn m_pc) (fun u_44 => some (u_44.1, u_44.2.1, u_44.2.2))) else (ob (FX6_body10 xp xt tr xn a_rp a_co) (fun u_49 => some (u_49.1, u_49.2.1, u_49.2.2))))
abbrev RMX6_sizeAsked : Room := { frames := 5, cells := 0, slots := 0, locals := 107 }
set_option maxHeartbeats 4000000 in
set_option maxRecDepth 100000 in
theorem KX6_sizeAsked (l : Launch) (D : va_G) (cy : Nat → ClassId) (ad : Nat → Nat) (am : Nat → Nat) (xp : Int32) (xt : Int32) (xs : Int32) (tr : Nat → Int32) (xn : Nat) (a_rp : Int32) (a_rgs : Int32) (a_sv : Option Nat) (a_co : Nat → Int32) (a_osz : Int32) (a_pe : Nat → Int32) (m_pn : Nat) (m_pp : Int32) (m_pd : Int32) (m_pt : Int32) (m_pc : Nat → Int32)  (sz : Nat) {out : Int32 × (Int32) × (Nat → Int32)} (hf : FX6_sizeAsked xp xt tr xn a_rp a_co a_pe m_pn m_pt m_pc = some out) : Met l yX6_sizeAsked wsX6_sizeAsked RMX6_sizeAsked (PW D cy [.ref (ad 0), .ref (am 0)] sz ((wX6_0_3_4_5_13_16 cy ad xp xt xs tr xn a_rp a_rgs a_sv a_co a_osz a_pe)) ((wX2_0_1 cy am m_pn m_pp m_pd m_pt m_pc))) (QW D (some (.int out.1)) ((wX6_0_3_4_5_13_16 cy ad xp out.2.1 xs out.2.2 xn a_rp a_rgs a_sv a_co a_osz a_pe)) (va_A ((wX6_0_3_4_5_13_16 cy ad xp xt xs tr xn a_rp a_rgs a_sv a_co a_osz a_pe)) sz)) 0 0 (va_A ((wX6_0_3_4_5_13_16 cy ad xp xt xs tr xn a_rp a_rgs a_sv a_co a_osz a_pe)) sz) := by
  refine Met.ofW (cc := cX6_sizeAsked) (maxL := 2) (ret := (some .int)) (by decide +kernel) rfl ?_
  intro p e s m args below meth c s₁ B hml hv
  obtain ⟨hav, hsz, hP, hR0, hK, hN, hD0, hsep⟩ := hv
  have hx := B.exec
  have hb := B.bytes
  have hr := B.returns
  have hts := atoms_spec (ws := wsX6_sizeAsked) B.pre
  have hown : s.vm.findClass RX6 = some m.cls := findClass_of_methodNamed B.named
  have hlocks := B.notSynchronized
  subst hsz
  have hin_X2 : ∀ w ∈ u_ws RX2 TX2 4, w ∈ wsX6_sizeAsked := by decide +kernel
  have hw_0 := hts (.fieldLink RX6 133 "ReturnPoints$Poly" "told" "I") (by decide +kernel)
  have hD := hD0.self (sz := s.heap.size)
  have hnA := roA hsep hR0
  generalize hAe : va_A ((wX6_0_3_4_5_13_16 cy ad xp xt xs tr xn a_rp a_rgs a_sv a_co a_osz a_pe)) s.heap.size = A at hD hnA ⊢
  have hA : ∀ q : Nat, s.heap.size ≤ q → A q := fun q h => by rw [← hAe]; exact Or.inr h
  have hS : va_S A s.heap s.heap [] := va_S.rf
  obtain ⟨ls, hfr, hl⟩ := ent_ok (m := m) (n := 2) (l' := [(0, .ref (ad 0)), (1, .ref (am 0))]) [.ref (ad 0), .ref (am 0)] hav (Nat.le_of_ble_eq_true rfl) rfl
  rw [hfr]
  generalize hQe : MQ below (QW D (some (.int out.1)) ((wX6_0_3_4_5_13_16 cy ad xp out.2.1 xs out.2.2 xn a_rp a_rgs a_sv a_co a_osz a_pe)) A) args s 0 0 A = QQ
  change W p l e RMX6_sizeAsked s m args below meth c s.heap [] 0 0 QQ (F0 m 0 ls [])
  have hP : va_P D vwCl ((wX6_0_3_4_5_13_16 cy ad xp xt xs tr xn a_rp a_rgs a_sv a_co a_osz a_pe)) s.heap := hP
  have hD : va_D A ((wX6_0_3_4_5_13_16 cy ad xp xt xs tr xn a_rp a_rgs a_sv a_co a_osz a_pe)) := hD
  suffices h00 : ∀ (H : Heap) (locs : List Loc), va_P D vwCl ((wX6_0_3_4_5_13_16 cy ad xp xt xs tr xn a_rp a_rgs a_sv a_co a_osz a_pe)) H → va_S A s.heap H locs → W p l e RMX6_sizeAsked s m args below meth c H locs 0 0 QQ (F0 m 0 ls []) from h00 _ _ hP hS
  clear hP hS
  intro H locs hP hS
  unfold FX6_sizeAsked at hf
  refine lv_aload_n hx hb dX6_sizeAsked_0 rfl (lv_at hl 1 rfl) ?_
  have hR := roN hR0 hnA hS
  refine va_get (a := (am 0)) (ci := 2) (v := .int m_pt) (C := RX2) (T := TX2) (N := 4) hx hb hts hin_X2 hown hK hR 0 rfl rfl 3 (by decide) hw_0 (fun _ h => h) rfl dX6_sizeAsked_1 ?_
  by_cases c_4_0 : m_pt = 2
  · replace hf := it_p c_4_0 hf
    refine lv_tableIn (tgt := 32) (off := 28) hx hb dX6_sizeAsked_4 (by rw [c_4_0]; decide) (by rw [c_4_0]; decide) (by rw [c_4_0]; rfl) (by decide) ?_
    refine lv_aload_n hx hb dX6_sizeAsked_32 rfl (lv_at hl 0 rfl) ?_
    replace hf := ob_e hf
    obtain ⟨u_33, hu_33, hf⟩ := hf
    refine ivW (As := []) (rest := []) (st1 := [.int u_33.1]) (is := [0, 1]) (w1 := (wX6_0_3 cy ad xp u_33.2.1 xs u_33.2.2)) ⟨hx, hb, hml, hown, hts⟩ hK hN (KX6_body11 l D cy ad xp xt xs tr H.size hu_33) (cwV 0 hts gX6_sizeAsked_X6_body11 rfl rfl rfl (by decide +kernel) ⟨Nat.le_of_ble_eq_true rfl, Nat.le_of_ble_eq_true rfl⟩) (va_recv hK hP (ci := 6) (q0 := 0) rfl rfl) hP hD hS hA P_nil (sepW_nil _) (by decide) rfl rfl rfl hl.1 rfl (Nat.le_of_ble_eq_true rfl) rfl dX6_sizeAsked_33 ⟨Nat.zero_le _, Nat.zero_le _⟩ (fun H locs hP hD hS => ?_)
    have hP : va_P D vwCl ((wX6_0_3_4_5_13_16 cy ad xp u_33.2.1 xs u_33.2.2 xn a_rp a_rgs a_sv a_co a_osz a_pe)) H := hP
    have hD : va_D A ((wX6_0_3_4_5_13_16 cy ad xp u_33.2.1 xs u_33.2.2 xn a_rp a_rgs a_sv a_co a_osz a_pe)) := hD
    obtain rfl := Option.some.inj hf
    rw [← hQe]
    exact W.iret (v := u_33.1) hx hb hr (fun t ht hW => ⟨rfl, by rw [ht]; exact hP, hS.F ht⟩) hS.2.2 dX6_sizeAsked_36
  replace hf := it_n c_4_0 hf
  by_cases c_4_1 : m_pt = 3
  · replace hf := it_p c_4_1 hf
    refine lv_tableIn (tgt := 37) (off := 33) hx hb dX6_sizeAsked_4 (by rw [c_4_1]; decide) (by rw [c_4_1]; decide) (by rw [c_4_1]; rfl) (by decide) ?_
    refine lv_aload_n hx hb dX6_sizeAsked_37 rfl (lv_at hl 0 rfl) ?_
    replace hf := ob_e hf
    obtain ⟨u_38, hu_38, hf⟩ := hf
    refine ivW (As := []) (rest := []) (st1 := [.int u_38.1]) (is := [0, 1, 2, 3]) (w1 := (wX6_0_3_4_5 cy ad xp u_38.2.1 xs u_38.2.2 xn a_rp a_rgs a_sv a_co)) ⟨hx, hb, hml, hown, hts⟩ hK hN (KX6_body12 l D cy ad xp xt xs tr xn a_rp a_rgs a_sv a_co H.size hu_38) (cwV 0 hts gX6_sizeAsked_X6_body12 rfl rfl rfl (by decide +kernel) ⟨Nat.le_of_ble_eq_true rfl, Nat.le_of_ble_eq_true rfl⟩) (va_recv hK hP (ci := 6) (q0 := 0) rfl rfl) hP hD hS hA P_nil (sepW_nil _) (by decide) rfl rfl rfl hl.1 rfl (Nat.le_of_ble_eq_true rfl) rfl dX6_sizeAsked_38 ⟨Nat.zero_le _, Nat.zero_le _⟩ (fun H locs hP hD hS => ?_)
    have hP : va_P D vwCl ((wX6_0_3_4_5_13_16 cy ad xp u_38.2.1 xs u_38.2.2 xn a_rp a_rgs a_sv a_co a_osz a_pe)) H := hP
    have hD : va_D A ((wX6_0_3_4_5_13_16 cy ad xp u_38.2.1 xs u_38.2.2 xn a_rp a_rgs a_sv a_co a_osz a_pe)) := hD
    obtain rfl := Option.some.inj hf
    rw [← hQe]
    exact W.iret (v := u_38.1) hx hb hr (fun t ht hW => ⟨rfl, by rw [ht]; exact hP, hS.F ht⟩) hS.2.2 dX6_sizeAsked_41
  replace hf := it_n c_4_1 hf
  by_cases c_4_2 : m_pt = 4
  · replace hf := it_p c_4_2 hf
    refine lv_tableIn (tgt := 42) (off := 38) hx hb dX6_sizeAsked_4 (by rw [c_4_2]; decide) (by rw [c_4_2]; decide) (by rw [c_4_2]; rfl) (by decide) ?_
    refine lv_aload_n hx hb dX6_sizeAsked_42 rfl (lv_at hl 0 rfl) ?_
    refine lv_aload_n hx hb dX6_sizeAsked_43 rfl (lv_at hl 1 rfl) ?_
    replace hf := ob_e hf
    obtain ⟨u_44, hu_44, hf⟩ := hf
    have hR := roN hR0 hnA hS
    refine ivW (As := [.ref (am 0)]) (rest := []) (st1 := [.int u_44.1]) (is := [0, 1, 2, 3, 4, 5]) (w1 := (wX6_0_3_4_5_13_16 cy ad xp u_44.2.1 xs u_44.2.2 xn a_rp a_rgs a_sv a_co a_osz a_pe)) ⟨hx, hb, hml, hown, hts⟩ hK hN (KX6_body13 l D cy ad am xp xt xs tr xn a_rp a_rgs a_sv a_co a_osz a_pe m_pn m_pp m_pd m_pt m_pc H.size hu_44) (cwV 1 hts gX6_sizeAsked_X6_body13 rfl rfl rfl (by decide +kernel) ⟨Nat.le_of_ble_eq_true rfl, Nat.le_of_ble_eq_true rfl⟩) (va_recv hK hP (ci := 6) (q0 := 0) rfl rfl) hP hD hS hA (P_pl (wc := (wX2_0_1 cy am m_pn m_pp m_pd m_pt m_pc)) (is := [0, 1]) hR rfl) (sep_nA (is := [0, 1, 2, 3, 4, 5]) (isR := [0, 1]) hnA hD rfl rfl) (by decide) rfl rfl rfl hl.1 rfl (Nat.le_of_ble_eq_true rfl) rfl dX6_sizeAsked_44 ⟨Nat.zero_le _, Nat.zero_le _⟩ (fun H locs hP hD hS => ?_)
    have hP : va_P D vwCl ((wX6_0_3_4_5_13_16 cy ad xp u_44.2.1 xs u_44.2.2 xn a_rp a_rgs a_sv a_co a_osz a_pe)) H := hP
    have hD : va_D A ((wX6_0_3_4_5_13_16 cy ad xp u_44.2.1 xs u_44.2.2 xn a_rp a_rgs a_sv a_co a_osz a_pe)) := hD
    obtain rfl := Option.some.inj hf
    rw [← hQe]
    exact W.iret (v := u_44.1) hx hb hr (fun t ht hW => ⟨rfl, by rw [ht]; exact hP, hS.F ht⟩) hS.2.2 dX6_sizeAsked_47
  replace hf := it_n c_4_2 hf
  have hsw : (m_pt : Int32).toInt < 2 ∨ 4 < (m_pt : Int32).toInt := by
    have h0 : (m_pt : Int32).toInt ≠ 2 := ne_toInt c_4_0
    have h1 : (m_pt : Int32).toInt ≠ 3 := ne_toInt c_4_1
    have h2 : (m_pt : Int32).toInt ≠ 4 := ne_toInt c_4_2
    omega
  refine lv_tableOut (tgt := 48) hx hb dX6_sizeAsked_4 hsw (by decide) ?_
  refine lv_aload_n hx hb dX6_sizeAsked_48 rfl (lv_at hl 0 rfl) ?_
  replace hf := ob_e hf
  obtain ⟨u_49, hu_49, hf⟩ := hf
  refine ivW (As := []) (rest := []) (st1 := [.int u_49.1]) (is := [0, 1, 2, 3]) (w1 := (wX6_0_3_4_5 cy ad xp u_49.2.1 xs u_49.2.2 xn a_rp a_rgs a_sv a_co)) ⟨hx, hb, hml, hown, hts⟩ hK hN (KX6_body10 l D cy ad xp xt xs tr xn a_rp a_rgs a_sv a_co H.size hu_49) (cwV 0 hts gX6_sizeAsked_X6_body10 rfl rfl rfl (by decide +kernel) ⟨Nat.le_of_ble_eq_true rfl, Nat.le_of_ble_eq_true rfl⟩) (va_recv hK hP (ci := 6) (q0 := 0) rfl rfl) hP hD hS hA P_nil (sepW_nil _) (by decide) rfl rfl rfl hl.1 rfl (Nat.le_of_ble_eq_true rfl) rfl dX6_sizeAsked_49 ⟨Nat.zero_le _, Nat.zero_le _⟩ (fun H locs hP hD hS => ?_)
  have hP : va_P D vwCl ((wX6_0_3_4_5_13_16 cy ad xp u_49.2.1 xs u_49.2.2 xn a_rp a_rgs a_sv a_co a_osz a_pe)) H := hP
  have hD : va_D A ((wX6_0_3_4_5_13_16 cy ad xp u_49.2.1 xs u_49.2.2 xn a_rp a_rgs a_sv a_co a_osz a_pe)) := hD
  obtain rfl := Option.some.inj hf
  rw [← hQe]
  exact W.iret (v := u_49.1) hx hb hr (fun t ht hW => ⟨rfl, by rw [ht]; exact hP, hS.F ht⟩) hS.2.2 dX6_sizeAsked_52
def FX6_body23  (xp : Int32) (xt : Int32) (tr : Nat → Int32) (xn : Nat) (a_rp : Int32) (a_co : Nat → Int32) (m_pn : Nat) (m_pc : Nat → Int32)  : Option (Int32 × (Int32) × (Nat → Int32)) := (ob (FX6_begin xt tr 23) (fun u_3 => ob (FX6_body20 u_3.1 u_3.2 m_pn m_pc) (fun u_8 => bd u_8.1 (fun v_11 => ob (FX6_body10 xp u_8.2.1 u_8.2.2 xn a_rp a_co) (fun u_14 => some ((v_11 + u_14.1), u_14.2.1, u_14.2.2))))))
abbrev RMX6_body23 : Room := { frames := 2, cells := 0, slots := 0, locals := 42 }
set_option maxHeartbeats 4000000 in
set_option maxRecDepth 100000 in
theorem KX6_body23 (l : Launch) (D : va_G) (cy : Nat → ClassId) (ad : Nat → Nat) (am : Nat → Nat) (xp : Int32) (xt : Int32) (xs : Int32) (tr : Nat → Int32) (xn : Nat) (a_rp : Int32) (a_rgs : Int32) (a_sv : Option Nat) (a_co : Nat → Int32) (m_pn : Nat) (m_pp : Int32) (m_pd : Int32) (m_pt : Int32) (m_pc : Nat → Int32)  (sz : Nat) {out : Int32 × (Int32) × (Nat → Int32)} (hf : FX6_body23 xp xt tr xn a_rp a_co m_pn m_pc = some out) : Met l yX6_body23 wsX6_body23 RMX6_body23 (PW D cy [.ref (ad 0), .ref (am 0)] sz ((wX6_0_3_4_5 cy ad xp xt xs tr xn a_rp a_rgs a_sv a_co)) ((wX2_0_1 cy am m_pn m_pp m_pd m_pt m_pc))) (QW D (some (.int out.1)) ((wX6_0_3_4_5 cy ad xp out.2.1 xs out.2.2 xn a_rp a_rgs a_sv a_co)) (va_A ((wX6_0_3_4_5 cy ad xp xt xs tr xn a_rp a_rgs a_sv a_co)) sz)) 0 0 (va_A ((wX6_0_3_4_5 cy ad xp xt xs tr xn a_rp a_rgs a_sv a_co)) sz) := by
  refine Met.ofW (cc := cX6_body23) (maxL := 3) (ret := (some .int)) (by decide +kernel) rfl ?_
  intro p e s m args below meth c s₁ B hml hv
  obtain ⟨hav, hsz, hP, hR0, hK, hN, hD0, hsep⟩ := hv
  have hx := B.exec
  have hb := B.bytes
  have hr := B.returns
  have hts := atoms_spec (ws := wsX6_body23) B.pre
  have hown : s.vm.findClass RX6 = some m.cls := findClass_of_methodNamed B.named
  have hlocks := B.notSynchronized
  subst hsz
  have hD := hD0.self (sz := s.heap.size)
  have hnA := roA hsep hR0
  generalize hAe : va_A ((wX6_0_3_4_5 cy ad xp xt xs tr xn a_rp a_rgs a_sv a_co)) s.heap.size = A at hD hnA ⊢
  have hA : ∀ q : Nat, s.heap.size ≤ q → A q := fun q h => by rw [← hAe]; exact Or.inr h
  have hS : va_S A s.heap s.heap [] := va_S.rf
  obtain ⟨ls, hfr, hl⟩ := ent_ok (m := m) (n := 3) (l' := [(0, .ref (ad 0)), (1, .ref (am 0))]) [.ref (ad 0), .ref (am 0)] hav (Nat.le_of_ble_eq_true rfl) rfl
  rw [hfr]
  generalize hQe : MQ below (QW D (some (.int out.1)) ((wX6_0_3_4_5 cy ad xp out.2.1 xs out.2.2 xn a_rp a_rgs a_sv a_co)) A) args s 0 0 A = QQ
  change W p l e RMX6_body23 s m args below meth c s.heap [] 0 0 QQ (F0 m 0 ls [])
  have hP : va_P D vwCl ((wX6_0_3_4_5 cy ad xp xt xs tr xn a_rp a_rgs a_sv a_co)) s.heap := hP
  have hD : va_D A ((wX6_0_3_4_5 cy ad xp xt xs tr xn a_rp a_rgs a_sv a_co)) := hD
  suffices h00 : ∀ (H : Heap) (locs : List Loc), va_P D vwCl ((wX6_0_3_4_5 cy ad xp xt xs tr xn a_rp a_rgs a_sv a_co)) H → va_S A s.heap H locs → W p l e RMX6_body23 s m args below meth c H locs 0 0 QQ (F0 m 0 ls []) from h00 _ _ hP hS
  clear hP hS
  intro H locs hP hS
  unfold FX6_body23 at hf
  refine lv_aload_n hx hb dX6_body23_0 rfl (lv_at hl 0 rfl) ?_
  refine lv_bipush (v := 23) hx hb dX6_body23_1 (by decide) ?_
  replace hf := ob_e hf
  obtain ⟨u_3, hu_3, hf⟩ := hf
  refine ivW (As := [.int 23]) (rest := []) (st1 := []) (is := [0, 1]) (w1 := (wX6_0_3 cy ad xp u_3.1 xs u_3.2)) ⟨hx, hb, hml, hown, hts⟩ hK hN (KX6_begin l D cy ad xp xt xs tr 23 H.size hu_3) (cwV 1 hts gX6_body23_X6_begin rfl rfl rfl (by decide +kernel) ⟨Nat.le_of_ble_eq_true rfl, Nat.le_of_ble_eq_true rfl⟩) (va_recv hK hP (ci := 6) (q0 := 0) rfl rfl) hP hD hS hA P_nil (sepW_nil _) (by decide) rfl rfl rfl hl.1 rfl (Nat.le_of_ble_eq_true rfl) rfl dX6_body23_3 ⟨Nat.zero_le _, Nat.zero_le _⟩ (fun H locs hP hD hS => ?_)
  have hP : va_P D vwCl ((wX6_0_3_4_5 cy ad xp u_3.1 xs u_3.2 xn a_rp a_rgs a_sv a_co)) H := hP
  have hD : va_D A ((wX6_0_3_4_5 cy ad xp u_3.1 xs u_3.2 xn a_rp a_rgs a_sv a_co)) := hD
  refine lv_aload_n hx hb dX6_body23_6 rfl (lv_at hl 0 rfl) ?_
  refine lv_aload_n hx hb dX6_body23_7 rfl (lv_at hl 1 rfl) ?_
  replace hf := ob_e hf
  obtain ⟨u_8, hu_8, hf⟩ := hf
  have hR := roN hR0 hnA hS
  refine ivW (As := [.ref (am 0)]) (rest := []) (st1 := [.int u_8.1]) (is := [0, 1]) (w1 := (wX6_0_3 cy ad xp u_8.2.1 xs u_8.2.2)) ⟨hx, hb, hml, hown, hts⟩ hK hN (KX6_body20 l D cy ad am xp u_3.1 xs u_3.2 m_pn m_pp m_pd m_pt m_pc H.size hu_8) (cwV 1 hts gX6_body23_X6_body20 rfl rfl rfl (by decide +kernel) ⟨Nat.le_of_ble_eq_true rfl, Nat.le_of_ble_eq_true rfl⟩) (va_recv hK hP (ci := 6) (q0 := 0) rfl rfl) hP hD hS hA (P_pl (wc := (wX2_0_1 cy am m_pn m_pp m_pd m_pt m_pc)) (is := [0, 1]) hR rfl) (sep_nA (is := [0, 1]) (isR := [0, 1]) hnA hD rfl rfl) (by decide) rfl rfl rfl hl.1 rfl (Nat.le_of_ble_eq_true rfl) rfl dX6_body23_8 ⟨Nat.zero_le _, Nat.zero_le _⟩ (fun H locs hP hD hS => ?_)
  have hP : va_P D vwCl ((wX6_0_3_4_5 cy ad xp u_8.2.1 xs u_8.2.2 xn a_rp a_rgs a_sv a_co)) H := hP
  have hD : va_D A ((wX6_0_3_4_5 cy ad xp u_8.2.1 xs u_8.2.2 xn a_rp a_rgs a_sv a_co)) := hD
  refine lv_topi (fun v_11 e_11 => ?_)
  replace hf := bd_at e_11 hf
  clear e_11
  refine lv_istore_n (lv' := [(2, .int v_11), (0, .ref (ad 0)), (1, .ref (am 0))]) hx hb dX6_body23_11 rfl hl (by decide) rfl (fun ls hl => ?_)
  refine lv_iload_n hx hb dX6_body23_12 rfl (lv_at hl 0 rfl) ?_
  refine lv_aload_n hx hb dX6_body23_13 rfl (lv_at hl 1 rfl) ?_
  replace hf := ob_e hf
  obtain ⟨u_14, hu_14, hf⟩ := hf
  refine ivW (As := []) (rest := [.int v_11]) (st1 := [.int u_14.1, .int v_11]) (is := [0, 1, 2, 3]) (w1 := (wX6_0_3_4_5 cy ad xp u_14.2.1 xs u_14.2.2 xn a_rp a_rgs a_sv a_co)) ⟨hx, hb, hml, hown, hts⟩ hK hN (KX6_body10 l D cy ad xp u_8.2.1 xs u_8.2.2 xn a_rp a_rgs a_sv a_co H.size hu_14) (cwV 0 hts gX6_body23_X6_body10 rfl rfl rfl (by decide +kernel) ⟨Nat.le_of_ble_eq_true rfl, Nat.le_of_ble_eq_true rfl⟩) (va_recv hK hP (ci := 6) (q0 := 0) rfl rfl) hP hD hS hA P_nil (sepW_nil _) (by decide) rfl rfl rfl hl.1 rfl (Nat.le_of_ble_eq_true rfl) rfl dX6_body23_14 ⟨Nat.zero_le _, Nat.zero_le _⟩ (fun H locs hP hD hS => ?_)
  have hP : va_P D vwCl ((wX6_0_3_4_5 cy ad xp u_14.2.1 xs u_14.2.2 xn a_rp a_rgs a_sv a_co)) H := hP
  have hD : va_D A ((wX6_0_3_4_5 cy ad xp u_14.2.1 xs u_14.2.2 xn a_rp a_rgs a_sv a_co)) := hD
  refine lv_iadd hx hb dX6_body23_17 ?_
  obtain rfl := Option.some.inj hf
  rw [← hQe]
  exact W.iret (v := (v_11 + u_14.1)) hx hb hr (fun t ht hW => ⟨rfl, by rw [ht]; exact hP, hS.F ht⟩) hS.2.2 dX6_body23_18
def FX6_markAsked  (xp : Int32) (xt : Int32) (tr : Nat → Int32) (xn : Nat) (a_rp : Int32) (a_co : Nat → Int32) (a_pe : Nat → Int32) (m_pn : Nat) (m_pt : Int32) (m_pc : Nat → Int32)  : Option (Int32 × (Int32) × (Nat → Int32)) := (if m_pt = 3 then (ob (FX6_body21 xp xt tr m_pn m_pc) (fun u_34 => some (u_34.1, u_34.2.1, u_34.2.2))) else if m_pt = 4 then (ob (FX6_body22 xp xt tr xn a_pe m_pn m_pc) (fun u_40 => some (u_40.1, u_40.2.1, u_40.2.2))) else if m_pt = 5 then (ob (FX6_body23 xp xt tr xn a_rp a_co m_pn m_pc) (fun u_46 => some (u_46.1, u_46.2.1, u_46.2.2))) else (ob (FX6_body20 xt tr m_pn m_pc) (fun u_52 => some (u_52.1, u_52.2.1, u_52.2.2))))
abbrev RMX6_markAsked : Room := { frames := 4, cells := 0, slots := 0, locals := 85 }
set_option maxHeartbeats 4000000 in
set_option maxRecDepth 100000 in
theorem KX6_markAsked (l : Launch) (D : va_G) (cy : Nat → ClassId) (ad : Nat → Nat) (am : Nat → Nat) (xp : Int32) (xt : Int32) (xs : Int32) (tr : Nat → Int32) (xn : Nat) (a_rp : Int32) (a_rgs : Int32) (a_sv : Option Nat) (a_co : Nat → Int32) (a_osz : Int32) (a_pe : Nat → Int32) (m_pn : Nat) (m_pp : Int32) (m_pd : Int32) (m_pt : Int32) (m_pc : Nat → Int32)  (sz : Nat) {out : Int32 × (Int32) × (Nat → Int32)} (hf : FX6_markAsked xp xt tr xn a_rp a_co a_pe m_pn m_pt m_pc = some out) : Met l yX6_markAsked wsX6_markAsked RMX6_markAsked (PW D cy [.ref (ad 0), .ref (am 0)] sz ((wX6_0_3_4_5_13_16 cy ad xp xt xs tr xn a_rp a_rgs a_sv a_co a_osz a_pe)) ((wX2_0_1 cy am m_pn m_pp m_pd m_pt m_pc))) (QW D (some (.int out.1)) ((wX6_0_3_4_5_13_16 cy ad xp out.2.1 xs out.2.2 xn a_rp a_rgs a_sv a_co a_osz a_pe)) (va_A ((wX6_0_3_4_5_13_16 cy ad xp xt xs tr xn a_rp a_rgs a_sv a_co a_osz a_pe)) sz)) 0 0 (va_A ((wX6_0_3_4_5_13_16 cy ad xp xt xs tr xn a_rp a_rgs a_sv a_co a_osz a_pe)) sz) := by
  refine Met.ofW (cc := cX6_markAsked) (maxL := 2) (ret := (some .int)) (by decide +kernel) rfl ?_
  intro p e s m args below meth c s₁ B hml hv
  obtain ⟨hav, hsz, hP, hR0, hK, hN, hD0, hsep⟩ := hv
  have hx := B.exec
  have hb := B.bytes
  have hr := B.returns
  have hts := atoms_spec (ws := wsX6_markAsked) B.pre
  have hown : s.vm.findClass RX6 = some m.cls := findClass_of_methodNamed B.named
  have hlocks := B.notSynchronized
  subst hsz
  have hin_X2 : ∀ w ∈ u_ws RX2 TX2 4, w ∈ wsX6_markAsked := by decide +kernel
  have hw_0 := hts (.fieldLink RX6 133 "ReturnPoints$Poly" "told" "I") (by decide +kernel)
  have hD := hD0.self (sz := s.heap.size)
  have hnA := roA hsep hR0
  generalize hAe : va_A ((wX6_0_3_4_5_13_16 cy ad xp xt xs tr xn a_rp a_rgs a_sv a_co a_osz a_pe)) s.heap.size = A at hD hnA ⊢
  have hA : ∀ q : Nat, s.heap.size ≤ q → A q := fun q h => by rw [← hAe]; exact Or.inr h
  have hS : va_S A s.heap s.heap [] := va_S.rf
  obtain ⟨ls, hfr, hl⟩ := ent_ok (m := m) (n := 2) (l' := [(0, .ref (ad 0)), (1, .ref (am 0))]) [.ref (ad 0), .ref (am 0)] hav (Nat.le_of_ble_eq_true rfl) rfl
  rw [hfr]
  generalize hQe : MQ below (QW D (some (.int out.1)) ((wX6_0_3_4_5_13_16 cy ad xp out.2.1 xs out.2.2 xn a_rp a_rgs a_sv a_co a_osz a_pe)) A) args s 0 0 A = QQ
  change W p l e RMX6_markAsked s m args below meth c s.heap [] 0 0 QQ (F0 m 0 ls [])
  have hP : va_P D vwCl ((wX6_0_3_4_5_13_16 cy ad xp xt xs tr xn a_rp a_rgs a_sv a_co a_osz a_pe)) s.heap := hP
  have hD : va_D A ((wX6_0_3_4_5_13_16 cy ad xp xt xs tr xn a_rp a_rgs a_sv a_co a_osz a_pe)) := hD
  suffices h00 : ∀ (H : Heap) (locs : List Loc), va_P D vwCl ((wX6_0_3_4_5_13_16 cy ad xp xt xs tr xn a_rp a_rgs a_sv a_co a_osz a_pe)) H → va_S A s.heap H locs → W p l e RMX6_markAsked s m args below meth c H locs 0 0 QQ (F0 m 0 ls []) from h00 _ _ hP hS
  clear hP hS
  intro H locs hP hS
  unfold FX6_markAsked at hf
  refine lv_aload_n hx hb dX6_markAsked_0 rfl (lv_at hl 1 rfl) ?_
  have hR := roN hR0 hnA hS
  refine va_get (a := (am 0)) (ci := 2) (v := .int m_pt) (C := RX2) (T := TX2) (N := 4) hx hb hts hin_X2 hown hK hR 0 rfl rfl 3 (by decide) hw_0 (fun _ h => h) rfl dX6_markAsked_1 ?_
  by_cases c_4_0 : m_pt = 3
  · replace hf := it_p c_4_0 hf
    refine lv_tableIn (tgt := 32) (off := 28) hx hb dX6_markAsked_4 (by rw [c_4_0]; decide) (by rw [c_4_0]; decide) (by rw [c_4_0]; rfl) (by decide) ?_
    refine lv_aload_n hx hb dX6_markAsked_32 rfl (lv_at hl 0 rfl) ?_
    refine lv_aload_n hx hb dX6_markAsked_33 rfl (lv_at hl 1 rfl) ?_
    replace hf := ob_e hf
    obtain ⟨u_34, hu_34, hf⟩ := hf
    have hR := roN hR0 hnA hS
    refine ivW (As := [.ref (am 0)]) (rest := []) (st1 := [.int u_34.1]) (is := [0, 1]) (w1 := (wX6_0_3 cy ad xp u_34.2.1 xs u_34.2.2)) ⟨hx, hb, hml, hown, hts⟩ hK hN (KX6_body21 l D cy ad am xp xt xs tr m_pn m_pp m_pd m_pt m_pc H.size hu_34) (cwV 1 hts gX6_markAsked_X6_body21 rfl rfl rfl (by decide +kernel) ⟨Nat.le_of_ble_eq_true rfl, Nat.le_of_ble_eq_true rfl⟩) (va_recv hK hP (ci := 6) (q0 := 0) rfl rfl) hP hD hS hA (P_pl (wc := (wX2_0_1 cy am m_pn m_pp m_pd m_pt m_pc)) (is := [0, 1]) hR rfl) (sep_nA (is := [0, 1]) (isR := [0, 1]) hnA hD rfl rfl) (by decide) rfl rfl rfl hl.1 rfl (Nat.le_of_ble_eq_true rfl) rfl dX6_markAsked_34 ⟨Nat.zero_le _, Nat.zero_le _⟩ (fun H locs hP hD hS => ?_)
    have hP : va_P D vwCl ((wX6_0_3_4_5_13_16 cy ad xp u_34.2.1 xs u_34.2.2 xn a_rp a_rgs a_sv a_co a_osz a_pe)) H := hP
    have hD : va_D A ((wX6_0_3_4_5_13_16 cy ad xp u_34.2.1 xs u_34.2.2 xn a_rp a_rgs a_sv a_co a_osz a_pe)) := hD
    obtain rfl := Option.some.inj hf
    rw [← hQe]
    exact W.iret (v := u_34.1) hx hb hr (fun t ht hW => ⟨rfl, by rw [ht]; exact hP, hS.F ht⟩) hS.2.2 dX6_markAsked_37
  replace hf := it_n c_4_0 hf
  by_cases c_4_1 : m_pt = 4
  · replace hf := it_p c_4_1 hf
    refine lv_tableIn (tgt := 38) (off := 34) hx hb dX6_markAsked_4 (by rw [c_4_1]; decide) (by rw [c_4_1]; decide) (by rw [c_4_1]; rfl) (by decide) ?_
    refine lv_aload_n hx hb dX6_markAsked_38 rfl (lv_at hl 0 rfl) ?_
    refine lv_aload_n hx hb dX6_markAsked_39 rfl (lv_at hl 1 rfl) ?_
    replace hf := ob_e hf
    obtain ⟨u_40, hu_40, hf⟩ := hf
    have hR := roN hR0 hnA hS
    refine ivW (As := [.ref (am 0)]) (rest := []) (st1 := [.int u_40.1]) (is := [0, 1, 2, 4, 5]) (w1 := (wX6_0_3_4_13_16 cy ad xp u_40.2.1 xs u_40.2.2 xn a_rp a_rgs a_sv a_osz a_pe)) ⟨hx, hb, hml, hown, hts⟩ hK hN (KX6_body22 l D cy ad am xp xt xs tr xn a_rp a_rgs a_sv a_osz a_pe m_pn m_pp m_pd m_pt m_pc H.size hu_40) (cwV 1 hts gX6_markAsked_X6_body22 rfl rfl rfl (by decide +kernel) ⟨Nat.le_of_ble_eq_true rfl, Nat.le_of_ble_eq_true rfl⟩) (va_recv hK hP (ci := 6) (q0 := 0) rfl rfl) hP hD hS hA (P_pl (wc := (wX2_0_1 cy am m_pn m_pp m_pd m_pt m_pc)) (is := [0, 1]) hR rfl) (sep_nA (is := [0, 1, 2, 4, 5]) (isR := [0, 1]) hnA hD rfl rfl) (by decide) rfl rfl rfl hl.1 rfl (Nat.le_of_ble_eq_true rfl) rfl dX6_markAsked_40 ⟨Nat.zero_le _, Nat.zero_le _⟩ (fun H locs hP hD hS => ?_)
    have hP : va_P D vwCl ((wX6_0_3_4_5_13_16 cy ad xp u_40.2.1 xs u_40.2.2 xn a_rp a_rgs a_sv a_co a_osz a_pe)) H := hP
    have hD : va_D A ((wX6_0_3_4_5_13_16 cy ad xp u_40.2.1 xs u_40.2.2 xn a_rp a_rgs a_sv a_co a_osz a_pe)) := hD
    obtain rfl := Option.some.inj hf
    rw [← hQe]
    exact W.iret (v := u_40.1) hx hb hr (fun t ht hW => ⟨rfl, by rw [ht]; exact hP, hS.F ht⟩) hS.2.2 dX6_markAsked_43
  replace hf := it_n c_4_1 hf
  by_cases c_4_2 : m_pt = 5
  · replace hf := it_p c_4_2 hf
    refine lv_tableIn (tgt := 44) (off := 40) hx hb dX6_markAsked_4 (by rw [c_4_2]; decide) (by rw [c_4_2]; decide) (by rw [c_4_2]; rfl) (by decide) ?_
    refine lv_aload_n hx hb dX6_markAsked_44 rfl (lv_at hl 0 rfl) ?_
    refine lv_aload_n hx hb dX6_markAsked_45 rfl (lv_at hl 1 rfl) ?_
    replace hf := ob_e hf
    obtain ⟨u_46, hu_46, hf⟩ := hf
    have hR := roN hR0 hnA hS
    refine ivW (As := [.ref (am 0)]) (rest := []) (st1 := [.int u_46.1]) (is := [0, 1, 2, 3]) (w1 := (wX6_0_3_4_5 cy ad xp u_46.2.1 xs u_46.2.2 xn a_rp a_rgs a_sv a_co)) ⟨hx, hb, hml, hown, hts⟩ hK hN (KX6_body23 l D cy ad am xp xt xs tr xn a_rp a_rgs a_sv a_co m_pn m_pp m_pd m_pt m_pc H.size hu_46) (cwV 1 hts gX6_markAsked_X6_body23 rfl rfl rfl (by decide +kernel) ⟨Nat.le_of_ble_eq_true rfl, Nat.le_of_ble_eq_true rfl⟩) (va_recv hK hP (ci := 6) (q0 := 0) rfl rfl) hP hD hS hA (P_pl (wc := (wX2_0_1 cy am m_pn m_pp m_pd m_pt m_pc)) (is := [0, 1]) hR rfl) (sep_nA (is := [0, 1, 2, 3]) (isR := [0, 1]) hnA hD rfl rfl) (by decide) rfl rfl rfl hl.1 rfl (Nat.le_of_ble_eq_true rfl) rfl dX6_markAsked_46 ⟨Nat.zero_le _, Nat.zero_le _⟩ (fun H locs hP hD hS => ?_)
    have hP : va_P D vwCl ((wX6_0_3_4_5_13_16 cy ad xp u_46.2.1 xs u_46.2.2 xn a_rp a_rgs a_sv a_co a_osz a_pe)) H := hP
    have hD : va_D A ((wX6_0_3_4_5_13_16 cy ad xp u_46.2.1 xs u_46.2.2 xn a_rp a_rgs a_sv a_co a_osz a_pe)) := hD
    obtain rfl := Option.some.inj hf
    rw [← hQe]
    exact W.iret (v := u_46.1) hx hb hr (fun t ht hW => ⟨rfl, by rw [ht]; exact hP, hS.F ht⟩) hS.2.2 dX6_markAsked_49
  replace hf := it_n c_4_2 hf
  have hsw : (m_pt : Int32).toInt < 3 ∨ 5 < (m_pt : Int32).toInt := by
    have h0 : (m_pt : Int32).toInt ≠ 3 := ne_toInt c_4_0
    have h1 : (m_pt : Int32).toInt ≠ 4 := ne_toInt c_4_1
    have h2 : (m_pt : Int32).toInt ≠ 5 := ne_toInt c_4_2
    omega
  refine lv_tableOut (tgt := 50) hx hb dX6_markAsked_4 hsw (by decide) ?_
  refine lv_aload_n hx hb dX6_markAsked_50 rfl (lv_at hl 0 rfl) ?_
  refine lv_aload_n hx hb dX6_markAsked_51 rfl (lv_at hl 1 rfl) ?_
  replace hf := ob_e hf
  obtain ⟨u_52, hu_52, hf⟩ := hf
  have hR := roN hR0 hnA hS
  refine ivW (As := [.ref (am 0)]) (rest := []) (st1 := [.int u_52.1]) (is := [0, 1]) (w1 := (wX6_0_3 cy ad xp u_52.2.1 xs u_52.2.2)) ⟨hx, hb, hml, hown, hts⟩ hK hN (KX6_body20 l D cy ad am xp xt xs tr m_pn m_pp m_pd m_pt m_pc H.size hu_52) (cwV 1 hts gX6_markAsked_X6_body20 rfl rfl rfl (by decide +kernel) ⟨Nat.le_of_ble_eq_true rfl, Nat.le_of_ble_eq_true rfl⟩) (va_recv hK hP (ci := 6) (q0 := 0) rfl rfl) hP hD hS hA (P_pl (wc := (wX2_0_1 cy am m_pn m_pp m_pd m_pt m_pc)) (is := [0, 1]) hR rfl) (sep_nA (is := [0, 1]) (isR := [0, 1]) hnA hD rfl rfl) (by decide) rfl rfl rfl hl.1 rfl (Nat.le_of_ble_eq_true rfl) rfl dX6_markAsked_52 ⟨Nat.zero_le _, Nat.zero_le _⟩ (fun H locs hP hD hS => ?_)
  have hP : va_P D vwCl ((wX6_0_3_4_5_13_16 cy ad xp u_52.2.1 xs u_52.2.2 xn a_rp a_rgs a_sv a_co a_osz a_pe)) H := hP
  have hD : va_D A ((wX6_0_3_4_5_13_16 cy ad xp u_52.2.1 xs u_52.2.2 xn a_rp a_rgs a_sv a_co a_osz a_pe)) := hD
  obtain rfl := Option.some.inj hf
  rw [← hQe]
  exact W.iret (v := u_52.1) hx hb hr (fun t ht hW => ⟨rfl, by rw [ht]; exact hP, hS.F ht⟩) hS.2.2 dX6_markAsked_55
def FX6_ask_J67   (s1_67 : Int32) (xt_67 : Int32) (tr_67 : Nat → Int32) (a_rgs_67 : Int32) (a_sv_67 : Option Nat) (a_co_67 : Nat → Int32) (a_ro_67 : Nat → Int32) (a_le_67 : Nat → Int32) (a_lst_67 : Nat → Int32) (a_mu_67 : Nat → Int32) (a_ba_67 : Nat → Int32) (a_nx_67 : Nat → Int32) (a_tl_67 : Nat → Int32) (a_pe_67 : Nat → Int32) (a_en_67 : Nat → Int32) (a_pa_67 : Nat → Int32) : Option (Int32 × (Int32) × (Int32) × (Nat → Int32) × (Int32) × (Option Nat) × (Nat → Int32) × (Nat → Int32) × (Nat → Int32) × (Nat → Int32) × (Nat → Int32) × (Nat → Int32) × (Nat → Int32) × (Nat → Int32) × (Nat → Int32) × (Nat → Int32) × (Nat → Int32)) := (ob (FX6_fine s1_67) (fun u_67 => some (u_67.1, xt_67, u_67.2, tr_67, a_rgs_67, a_sv_67, a_co_67, a_ro_67, a_le_67, a_lst_67, a_mu_67, a_ba_67, a_nx_67, a_tl_67, a_pe_67, a_en_67, a_pa_67)))
def FX6_ask  (xp : Int32) (xt : Int32) (xs : Int32) (sf : Nat → Option Nat) (tr : Nat → Int32) (xn : Nat) (a_rp : Int32) (a_rgs : Int32) (a_sv : Option Nat) (a_co : Nat → Int32) (a_ro : Nat → Int32) (a_le : Nat → Int32) (a_lst : Nat → Int32) (a_mu : Nat → Int32) (a_ba : Nat → Int32) (a_osz : Int32) (a_nx : Nat → Int32) (a_tl : Nat → Int32) (a_pe : Nat → Int32) (a_en : Nat → Int32) (a_pa : Nat → Int32) (PL : List Nat) (ppp : Nat → Int32) (pca : Nat → Nat) (pdg : Nat → Int32) (ptd : Nat → Int32) (pcc : Nat → Nat → Int32) (x1 : Int32) (x2 : Int32) : Option (Int32 × (Int32) × (Int32) × (Nat → Int32) × (Int32) × (Option Nat) × (Nat → Int32) × (Nat → Int32) × (Nat → Int32) × (Nat → Int32) × (Nat → Int32) × (Nat → Int32) × (Nat → Int32) × (Nat → Int32) × (Nat → Int32) × (Nat → Int32) × (Nat → Int32)) := (ob (FX6_isPlace x1) (fun u_1 => if (bi u_1) = 0 then (some ((-1000001), xt, xs, tr, a_rgs, a_sv, a_co, a_ro, a_le, a_lst, a_mu, a_ba, a_nx, a_tl, a_pe, a_en, a_pa)) else (if x2 < 0 then (some ((-1000001), xt, xs, tr, a_rgs, a_sv, a_co, a_ro, a_le, a_lst, a_mu, a_ba, a_nx, a_tl, a_pe, a_en, a_pa)) else (if x2 ≤ 1 then (gi x1 10 (bd (sf (Int32.toNatClampNeg x1)) (fun o_29 => oq o_29 ((ob (FX6_found 1) (fun u_37 => some (u_37.1, 0, u_37.2, tr, a_rgs, a_sv, a_co, a_ro, a_le, a_lst, a_mu, a_ba, a_nx, a_tl, a_pe, a_en, a_pa)))) (fun a_32 => gd (a_32 ∈ PL) ((ob (FX3_survey (adP pca a_32) xn a_rp a_rgs a_sv a_co a_ro a_le a_lst a_mu a_ba a_osz a_nx a_tl a_pe a_en a_pa 5 (ppp a_32) (pdg a_32) (pcc a_32)) (fun u_46 => if x2 = 0 then (ob (FX6_sizeAsked xp 0 tr xn a_rp u_46.2.2.1 u_46.2.2.2.2.2.2.2.2.2.2.1 5 (ptd a_32) (pcc a_32)) (fun u_56 => FX6_ask_J67 u_56.1 u_56.2.1 u_56.2.2 u_46.1 u_46.2.1 u_46.2.2.1 u_46.2.2.2.1 u_46.2.2.2.2.1 u_46.2.2.2.2.2.1 u_46.2.2.2.2.2.2.1 u_46.2.2.2.2.2.2.2.1 u_46.2.2.2.2.2.2.2.2.1 u_46.2.2.2.2.2.2.2.2.2.1 u_46.2.2.2.2.2.2.2.2.2.2.1 u_46.2.2.2.2.2.2.2.2.2.2.2.1 u_46.2.2.2.2.2.2.2.2.2.2.2.2)) else (ob (FX6_markAsked xp 0 tr xn a_rp u_46.2.2.1 u_46.2.2.2.2.2.2.2.2.2.2.1 5 (ptd a_32) (pcc a_32)) (fun u_64 => FX6_ask_J67 u_64.1 u_64.2.1 u_64.2.2 u_46.1 u_46.2.1 u_46.2.2.1 u_46.2.2.2.1 u_46.2.2.2.2.1 u_46.2.2.2.2.2.1 u_46.2.2.2.2.2.2.1 u_46.2.2.2.2.2.2.2.1 u_46.2.2.2.2.2.2.2.2.1 u_46.2.2.2.2.2.2.2.2.2.1 u_46.2.2.2.2.2.2.2.2.2.2.1 u_46.2.2.2.2.2.2.2.2.2.2.2.1 u_46.2.2.2.2.2.2.2.2.2.2.2.2))))))))) else (some ((-1000001), xt, xs, tr, a_rgs, a_sv, a_co, a_ro, a_le, a_lst, a_mu, a_ba, a_nx, a_tl, a_pe, a_en, a_pa))))))
abbrev RMX6_ask : Room := { frames := 6, cells := 0, slots := 0, locals := 128 }
set_option maxHeartbeats 4000000 in
set_option maxRecDepth 100000 in
theorem KX6_ask (l : Launch) (D : va_G) (cy : Nat → ClassId) (ad : Nat → Nat) (xp : Int32) (xt : Int32) (xs : Int32) (sf : Nat → Option Nat) (tr : Nat → Int32) (xn : Nat) (a_rp : Int32) (a_rgs : Int32) (a_sv : Option Nat) (a_co : Nat → Int32) (a_ro : Nat → Int32) (a_le : Nat → Int32) (a_lst : Nat → Int32) (a_mu : Nat → Int32) (a_ba : Nat → Int32) (a_osz : Int32) (a_nx : Nat → Int32) (a_tl : Nat → Int32) (a_pe : Nat → Int32) (a_en : Nat → Int32) (a_pa : Nat → Int32) (PL : List Nat) (ppp : Nat → Int32) (pca : Nat → Nat) (pdg : Nat → Int32) (ptd : Nat → Int32) (pcc : Nat → Nat → Int32) (x1 : Int32) (x2 : Int32) (sz : Nat) {out : Int32 × (Int32) × (Int32) × (Nat → Int32) × (Int32) × (Option Nat) × (Nat → Int32) × (Nat → Int32) × (Nat → Int32) × (Nat → Int32) × (Nat → Int32) × (Nat → Int32) × (Nat → Int32) × (Nat → Int32) × (Nat → Int32) × (Nat → Int32) × (Nat → Int32)} (hf : FX6_ask xp xt xs sf tr xn a_rp a_rgs a_sv a_co a_ro a_le a_lst a_mu a_ba a_osz a_nx a_tl a_pe a_en a_pa PL ppp pca pdg ptd pcc x1 x2 = some out) : Met l yX6_ask wsX6_ask RMX6_ask (PW D cy [.ref (ad 0), .int x1, .int x2] sz ((wX6_0_2_3_4_5_6_7_8_9_10_13_14_15_16_17_18 cy ad xp xt xs sf tr xn a_rp a_rgs a_sv a_co a_ro a_le a_lst a_mu a_ba a_osz a_nx a_tl a_pe a_en a_pa)) ((sgP cy PL ppp pca pdg ptd pcc))) (QW D (some (.int out.1)) ((wX6_0_2_3_4_5_6_7_8_9_10_13_14_15_16_17_18 cy ad xp out.2.1 out.2.2.1 sf out.2.2.2.1 xn a_rp out.2.2.2.2.1 out.2.2.2.2.2.1 out.2.2.2.2.2.2.1 out.2.2.2.2.2.2.2.1 out.2.2.2.2.2.2.2.2.1 out.2.2.2.2.2.2.2.2.2.1 out.2.2.2.2.2.2.2.2.2.2.1 out.2.2.2.2.2.2.2.2.2.2.2.1 a_osz out.2.2.2.2.2.2.2.2.2.2.2.2.1 out.2.2.2.2.2.2.2.2.2.2.2.2.2.1 out.2.2.2.2.2.2.2.2.2.2.2.2.2.2.1 out.2.2.2.2.2.2.2.2.2.2.2.2.2.2.2.1 out.2.2.2.2.2.2.2.2.2.2.2.2.2.2.2.2)) (va_A ((wX6_0_2_3_4_5_6_7_8_9_10_13_14_15_16_17_18 cy ad xp xt xs sf tr xn a_rp a_rgs a_sv a_co a_ro a_le a_lst a_mu a_ba a_osz a_nx a_tl a_pe a_en a_pa)) sz)) 0 0 (va_A ((wX6_0_2_3_4_5_6_7_8_9_10_13_14_15_16_17_18 cy ad xp xt xs sf tr xn a_rp a_rgs a_sv a_co a_ro a_le a_lst a_mu a_ba a_osz a_nx a_tl a_pe a_en a_pa)) sz) := by
  refine Met.ofW (cc := cX6_ask) (maxL := 4) (ret := (some .int)) (by decide +kernel) rfl ?_
  intro p e s m args below meth c s₁ B hml hv
  obtain ⟨hav, hsz, hP, hR0, hK, hN, hD0, hsep⟩ := hv
  have hx := B.exec
  have hb := B.bytes
  have hr := B.returns
  have hts := atoms_spec (ws := wsX6_ask) B.pre
  have hown : s.vm.findClass RX6 = some m.cls := findClass_of_methodNamed B.named
  have hlocks := B.notSynchronized
  subst hsz
  have hin_X6 : ∀ w ∈ u_ws RX6 TX6 10, w ∈ wsX6_ask := by decide +kernel
  have hw_0 := hts (.constant RX6 68 (-1000001)) (by decide +kernel)
  have hw_1 := hts (.fieldLink RX6 59 "ReturnPoints" "traced" "I") (by decide +kernel)
  have hw_2 := hts (.fieldLink RX6 25 "ReturnPoints" "shelf" "[LReturnPoints$Poly;") (by decide +kernel)
  have hw_3 := hts (.fieldLink RX6 38 "ReturnPoints" "roads" "LReturnPoints$Roads;") (by decide +kernel)
  have hD := hD0.self (sz := s.heap.size)
  have hnA := roA hsep hR0
  generalize hAe : va_A ((wX6_0_2_3_4_5_6_7_8_9_10_13_14_15_16_17_18 cy ad xp xt xs sf tr xn a_rp a_rgs a_sv a_co a_ro a_le a_lst a_mu a_ba a_osz a_nx a_tl a_pe a_en a_pa)) s.heap.size = A at hD hnA ⊢
  have hA : ∀ q : Nat, s.heap.size ≤ q → A q := fun q h => by rw [← hAe]; exact Or.inr h
  have hS : va_S A s.heap s.heap [] := va_S.rf
  obtain ⟨ls, hfr, hl⟩ := ent_ok (m := m) (n := 4) (l' := [(0, .ref (ad 0)), (1, .int x1), (2, .int x2)]) [.ref (ad 0), .int x1, .int x2] hav (Nat.le_of_ble_eq_true rfl) rfl
  rw [hfr]
  generalize hQe : MQ below (QW D (some (.int out.1)) ((wX6_0_2_3_4_5_6_7_8_9_10_13_14_15_16_17_18 cy ad xp out.2.1 out.2.2.1 sf out.2.2.2.1 xn a_rp out.2.2.2.2.1 out.2.2.2.2.2.1 out.2.2.2.2.2.2.1 out.2.2.2.2.2.2.2.1 out.2.2.2.2.2.2.2.2.1 out.2.2.2.2.2.2.2.2.2.1 out.2.2.2.2.2.2.2.2.2.2.1 out.2.2.2.2.2.2.2.2.2.2.2.1 a_osz out.2.2.2.2.2.2.2.2.2.2.2.2.1 out.2.2.2.2.2.2.2.2.2.2.2.2.2.1 out.2.2.2.2.2.2.2.2.2.2.2.2.2.2.1 out.2.2.2.2.2.2.2.2.2.2.2.2.2.2.2.1 out.2.2.2.2.2.2.2.2.2.2.2.2.2.2.2.2)) A) args s 0 0 A = QQ
  change W p l e RMX6_ask s m args below meth c s.heap [] 0 0 QQ (F0 m 0 ls [])
  have hP : va_P D vwCl ((wX6_0_2_3_4_5_6_7_8_9_10_13_14_15_16_17_18 cy ad xp xt xs sf tr xn a_rp a_rgs a_sv a_co a_ro a_le a_lst a_mu a_ba a_osz a_nx a_tl a_pe a_en a_pa)) s.heap := hP
  have hD : va_D A ((wX6_0_2_3_4_5_6_7_8_9_10_13_14_15_16_17_18 cy ad xp xt xs sf tr xn a_rp a_rgs a_sv a_co a_ro a_le a_lst a_mu a_ba a_osz a_nx a_tl a_pe a_en a_pa)) := hD
  suffices h00 : ∀ (H : Heap) (locs : List Loc), va_P D vwCl ((wX6_0_2_3_4_5_6_7_8_9_10_13_14_15_16_17_18 cy ad xp xt xs sf tr xn a_rp a_rgs a_sv a_co a_ro a_le a_lst a_mu a_ba a_osz a_nx a_tl a_pe a_en a_pa)) H → va_S A s.heap H locs → W p l e RMX6_ask s m args below meth c H locs 0 0 QQ (F0 m 0 ls []) from h00 _ _ hP hS
  clear hP hS
  intro H locs hP hS
  have J67 : ∀ (H : Heap) (locs : List Loc) (ls : Array Slot) (s1_67 : Int32) (xt_67 : Int32) (xs_67 : Int32) (tr_67 : Nat → Int32) (a_rgs_67 : Int32) (a_sv_67 : Option Nat) (a_co_67 : Nat → Int32) (a_ro_67 : Nat → Int32) (a_le_67 : Nat → Int32) (a_lst_67 : Nat → Int32) (a_mu_67 : Nat → Int32) (a_ba_67 : Nat → Int32) (a_nx_67 : Nat → Int32) (a_tl_67 : Nat → Int32) (a_pe_67 : Nat → Int32) (a_en_67 : Nat → Int32) (a_pa_67 : Nat → Int32), FX6_ask_J67 s1_67 xt_67 tr_67 a_rgs_67 a_sv_67 a_co_67 a_ro_67 a_le_67 a_lst_67 a_mu_67 a_ba_67 a_nx_67 a_tl_67 a_pe_67 a_en_67 a_pa_67 = some out → va_P D vwCl ((wX6_0_2_3_4_5_6_7_8_9_10_13_14_15_16_17_18 cy ad xp xt_67 xs_67 sf tr_67 xn a_rp a_rgs_67 a_sv_67 a_co_67 a_ro_67 a_le_67 a_lst_67 a_mu_67 a_ba_67 a_osz a_nx_67 a_tl_67 a_pe_67 a_en_67 a_pa_67)) H → va_D A ((wX6_0_2_3_4_5_6_7_8_9_10_13_14_15_16_17_18 cy ad xp xt_67 xs_67 sf tr_67 xn a_rp a_rgs_67 a_sv_67 a_co_67 a_ro_67 a_le_67 a_lst_67 a_mu_67 a_ba_67 a_osz a_nx_67 a_tl_67 a_pe_67 a_en_67 a_pa_67)) → va_S A s.heap H locs → lv_has ls 4 [] → W p l e RMX6_ask s m args below meth c H locs 0 0 QQ (F0 m 67 ls [.int s1_67, .ref (ad 0)]) := by
    intro H locs ls s1_67 xt_67 xs_67 tr_67 a_rgs_67 a_sv_67 a_co_67 a_ro_67 a_le_67 a_lst_67 a_mu_67 a_ba_67 a_nx_67 a_tl_67 a_pe_67 a_en_67 a_pa_67 hf hP hD hS hl
    unfold FX6_ask_J67 at hf
    replace hf := ob_e hf
    obtain ⟨u_67, hu_67, hf⟩ := hf
    refine ivW (As := [.int s1_67]) (rest := []) (st1 := [.int u_67.1]) (is := [0]) (w1 := (wX6_0 cy ad xp xt_67 u_67.2)) ⟨hx, hb, hml, hown, hts⟩ hK hN (KX6_fine l D cy ad xp xt_67 xs_67 s1_67 H.size hu_67) (cwV 1 hts gX6_ask_X6_fine rfl rfl rfl (by decide +kernel) ⟨Nat.le_of_ble_eq_true rfl, Nat.le_of_ble_eq_true rfl⟩) (va_recv hK hP (ci := 6) (q0 := 0) rfl rfl) hP hD hS hA P_nil (sepW_nil _) (by decide) rfl rfl rfl hl.1 rfl (Nat.le_of_ble_eq_true rfl) rfl dX6_ask_67 ⟨Nat.zero_le _, Nat.zero_le _⟩ (fun H locs hP hD hS => ?_)
    have hP : va_P D vwCl ((wX6_0_2_3_4_5_6_7_8_9_10_13_14_15_16_17_18 cy ad xp xt_67 u_67.2 sf tr_67 xn a_rp a_rgs_67 a_sv_67 a_co_67 a_ro_67 a_le_67 a_lst_67 a_mu_67 a_ba_67 a_osz a_nx_67 a_tl_67 a_pe_67 a_en_67 a_pa_67)) H := hP
    have hD : va_D A ((wX6_0_2_3_4_5_6_7_8_9_10_13_14_15_16_17_18 cy ad xp xt_67 u_67.2 sf tr_67 xn a_rp a_rgs_67 a_sv_67 a_co_67 a_ro_67 a_le_67 a_lst_67 a_mu_67 a_ba_67 a_osz a_nx_67 a_tl_67 a_pe_67 a_en_67 a_pa_67)) := hD
    obtain rfl := Option.some.inj hf
    rw [← hQe]
    exact W.iret (v := u_67.1) hx hb hr (fun t ht hW => ⟨rfl, by rw [ht]; exact hP, hS.F ht⟩) hS.2.2 dX6_ask_70
  unfold FX6_ask at hf
  refine lv_iload_n hx hb dX6_ask_0 rfl (lv_at hl 1 rfl) ?_
  replace hf := ob_e hf
  obtain ⟨u_1, hu_1, hf⟩ := hf
  refine isR (As := [.int x1]) (rest := []) (st1 := [.int (bi u_1)]) ⟨hx, hb, hml, hown, hts⟩ hK hN (KX6_isPlace l D cy x1 H.size hu_1) (va_cwS 1 hts gX6_ask_X6_isPlace rfl rfl rfl (by decide +kernel) ⟨Nat.le_of_ble_eq_true rfl, Nat.le_of_ble_eq_true rfl⟩) P_nil rfl hl.1 rfl (Nat.le_of_ble_eq_true rfl) rfl dX6_ask_1 ⟨Nat.zero_le _, Nat.zero_le _⟩ ?_
  refine lv_if_eq (tgt := 16) hx hb dX6_ask_4 (by decide) (fun c_4 => ?_) (fun c_4 => ?_)
  · replace hf := it_p c_4 hf
    refine lv_ldc (own := RX6) (v := (-1000001)) hx hb hown hw_0 dX6_ask_16 ?_
    obtain rfl := Option.some.inj hf
    rw [← hQe]
    exact W.iret (v := (-1000001)) hx hb hr (fun t ht hW => ⟨rfl, by rw [ht]; exact hP, hS.F ht⟩) hS.2.2 dX6_ask_18
  · replace hf := it_n c_4 hf
    refine lv_iload_n hx hb dX6_ask_7 rfl (lv_at hl 2 rfl) ?_
    refine lv_if_lt (tgt := 16) hx hb dX6_ask_8 (by decide) (fun c_8 => ?_) (fun c_8 => ?_)
    · replace hf := it_p c_8 hf
      refine lv_ldc (own := RX6) (v := (-1000001)) hx hb hown hw_0 dX6_ask_16 ?_
      obtain rfl := Option.some.inj hf
      rw [← hQe]
      exact W.iret (v := (-1000001)) hx hb hr (fun t ht hW => ⟨rfl, by rw [ht]; exact hP, hS.F ht⟩) hS.2.2 dX6_ask_18
    · replace hf := it_n c_8 hf
      refine lv_iload_n hx hb dX6_ask_11 rfl (lv_at hl 2 rfl) ?_
      refine lv_iconst (v := 1) hx hb dX6_ask_12 (by decide) ?_
      refine lv_icmp_le (tgt := 19) hx hb dX6_ask_13 (by decide) (fun c_13 => ?_) (fun c_13 => ?_)
      · replace hf := it_p c_13 hf
        refine lv_aload_n hx hb dX6_ask_19 rfl (lv_at hl 0 rfl) ?_
        refine lv_iconst (v := 0) hx hb dX6_ask_20 (by decide) ?_
        refine va_put (a := (ad 0)) (ci := 6) (v := .int 0) (ty := .int) (C := RX6) (T := TX6) (N := 10) hx hb hts hin_X6 tyX6 tyX6_ok nmX6 hown hK hP hD hS 0 rfl rfl 8 (by decide) hw_1 (fun _ h => h) rfl (by decide +kernel) rfl rfl (Nat.le_of_ble_eq_true rfl) dX6_ask_21 (fun H locs hP hD hS => ?_)
        have hP : va_P D vwCl ((wX6_0_2_3_4_5_6_7_8_9_10_13_14_15_16_17_18 cy ad xp 0 xs sf tr xn a_rp a_rgs a_sv a_co a_ro a_le a_lst a_mu a_ba a_osz a_nx a_tl a_pe a_en a_pa)) H := hP
        have hD : va_D A ((wX6_0_2_3_4_5_6_7_8_9_10_13_14_15_16_17_18 cy ad xp 0 xs sf tr xn a_rp a_rgs a_sv a_co a_ro a_le a_lst a_mu a_ba a_osz a_nx a_tl a_pe a_en a_pa)) := hD
        refine lv_aload_n hx hb dX6_ask_24 rfl (lv_at hl 0 rfl) ?_
        refine va_get (a := (ad 0)) (ci := 6) (v := .ref (ad 2)) (C := RX6) (T := TX6) (N := 10) hx hb hts hin_X6 hown hK hP 0 rfl rfl 2 (by decide) hw_2 (fun _ h => h) rfl dX6_ask_25 ?_
        refine lv_iload_n hx hb dX6_ask_28 rfl (lv_at hl 1 rfl) ?_
        replace hf := gi_e hf
        obtain ⟨i_29, hf⟩ := hf
        refine va_aldq (a := (ad 2)) hx hb hK hP 1 4 rfl rfl i_29 dX6_ask_29 ?_
        refine top_q (fun o_29 e_29 => ?_)
        replace hf := bd_at e_29 hf
        clear e_29
        refine lv_Qastore_n (lv' := [(3, va_rf o_29), (0, .ref (ad 0)), (1, .int x1), (2, .int x2)]) hx hb dX6_ask_30 rfl hl (by decide) rfl (fun ls hl => ?_)
        refine lv_Qaload_n hx hb dX6_ask_31 rfl (lv_at hl 0 rfl) ?_
        replace hf := oq_e hf
        rcases hf with ⟨rfl, hf⟩ | ⟨a_32, rfl, hf⟩
        · have hl : lv_has ls 4 [(3, .null), (0, .ref (ad 0)), (1, .int x1), (2, .int x2)] := hl
          refine lv_ifnonnullN hx hb dX6_ask_32 ?_
          refine lv_aload_n hx hb dX6_ask_35 rfl (lv_at hl 1 rfl) ?_
          refine lv_iconst (v := 1) hx hb dX6_ask_36 (by decide) ?_
          replace hf := ob_e hf
          obtain ⟨u_37, hu_37, hf⟩ := hf
          refine ivW (As := [.int 1]) (rest := []) (st1 := [.int u_37.1]) (is := [0]) (w1 := (wX6_0 cy ad xp 0 u_37.2)) ⟨hx, hb, hml, hown, hts⟩ hK hN (KX6_found l D cy ad xp 0 xs 1 H.size hu_37) (cwV 1 hts gX6_ask_X6_found rfl rfl rfl (by decide +kernel) ⟨Nat.le_of_ble_eq_true rfl, Nat.le_of_ble_eq_true rfl⟩) (va_recv hK hP (ci := 6) (q0 := 0) rfl rfl) hP hD hS hA P_nil (sepW_nil _) (by decide) rfl rfl rfl hl.1 rfl (Nat.le_of_ble_eq_true rfl) rfl dX6_ask_37 ⟨Nat.zero_le _, Nat.zero_le _⟩ (fun H locs hP hD hS => ?_)
          have hP : va_P D vwCl ((wX6_0_2_3_4_5_6_7_8_9_10_13_14_15_16_17_18 cy ad xp 0 u_37.2 sf tr xn a_rp a_rgs a_sv a_co a_ro a_le a_lst a_mu a_ba a_osz a_nx a_tl a_pe a_en a_pa)) H := hP
          have hD : va_D A ((wX6_0_2_3_4_5_6_7_8_9_10_13_14_15_16_17_18 cy ad xp 0 u_37.2 sf tr xn a_rp a_rgs a_sv a_co a_ro a_le a_lst a_mu a_ba a_osz a_nx a_tl a_pe a_en a_pa)) := hD
          obtain rfl := Option.some.inj hf
          rw [← hQe]
          exact W.iret (v := u_37.1) hx hb hr (fun t ht hW => ⟨rfl, by rw [ht]; exact hP, hS.F ht⟩) hS.2.2 dX6_ask_40
        · replace hf := gd_e hf
          obtain ⟨m_a_32, hf⟩ := hf
          have hl : lv_has ls 4 [(3, .ref a_32), (0, .ref (ad 0)), (1, .int x1), (2, .int x2)] := hl
          refine lv_ifnonnull (tgt := 41) hx hb dX6_ask_32 (by decide) ?_
          refine lv_aload_n hx hb dX6_ask_41 rfl (lv_at hl 1 rfl) ?_
          refine va_get (a := (ad 0)) (ci := 6) (v := .ref (ad 4)) (C := RX6) (T := TX6) (N := 10) hx hb hts hin_X6 hown hK hP 0 rfl rfl 4 (by decide) hw_3 (fun _ h => h) rfl dX6_ask_42 ?_
          refine lv_aload_n hx hb dX6_ask_45 rfl (lv_at hl 0 rfl) ?_
          replace hf := ob_e hf
          obtain ⟨u_46, hu_46, hf⟩ := hf
          have hR := roN hR0 hnA hS
          have hQ_a_32 : va_P D vwCl (wX2_0_1 cy (adP pca a_32) 5 (ppp a_32) (pdg a_32) (ptd a_32) (pcc a_32)) H := P_two hR (sgP_1 m_a_32) (sgP_2 m_a_32)
          have hnQ_a_32 : ∀ (k : Nat) (q : Nat × va_E), (wX2_0_1 cy (adP pca a_32) 5 (ppp a_32) (pdg a_32) (ptd a_32) (pcc a_32))[k]? = some q → ¬ A q.1 := nA_two hnA (sgP_1 m_a_32) (sgP_2 m_a_32)
          refine ivW (As := [.ref a_32]) (rest := []) (st1 := []) (is := [3, 4, 5, 6, 7, 8, 9, 10, 11, 12, 13, 14, 15]) (w1 := (wX3_0_1_2_3_4_5_6_9_10_11_12_13_14 cy (fun i => ad (4 + i)) xn a_rp u_46.1 u_46.2.1 u_46.2.2.1 u_46.2.2.2.1 u_46.2.2.2.2.1 u_46.2.2.2.2.2.1 u_46.2.2.2.2.2.2.1 u_46.2.2.2.2.2.2.2.1 a_osz u_46.2.2.2.2.2.2.2.2.1 u_46.2.2.2.2.2.2.2.2.2.1 u_46.2.2.2.2.2.2.2.2.2.2.1 u_46.2.2.2.2.2.2.2.2.2.2.2.1 u_46.2.2.2.2.2.2.2.2.2.2.2.2)) ⟨hx, hb, hml, hown, hts⟩ hK hN (KX3_survey l D cy (fun i => ad (4 + i)) (adP pca a_32) xn a_rp a_rgs a_sv a_co a_ro a_le a_lst a_mu a_ba a_osz a_nx a_tl a_pe a_en a_pa 5 (ppp a_32) (pdg a_32) (ptd a_32) (pcc a_32) H.size hu_46) (cwV 1 hts gX6_ask_X3_survey rfl rfl rfl (by decide +kernel) ⟨Nat.le_of_ble_eq_true rfl, Nat.le_of_ble_eq_true rfl⟩) (va_recv hK hP (ci := 3) (q0 := 3) rfl rfl) hP hD hS hA (P_pl (wc := (wX2_0_1 cy (adP pca a_32) 5 (ppp a_32) (pdg a_32) (ptd a_32) (pcc a_32))) (is := [0, 1]) hQ_a_32 rfl) (sep_nA (is := [3, 4, 5, 6, 7, 8, 9, 10, 11, 12, 13, 14, 15]) (isR := [0, 1]) hnQ_a_32 hD rfl rfl) (by decide) rfl rfl rfl hl.1 rfl (Nat.le_of_ble_eq_true rfl) rfl dX6_ask_46 ⟨Nat.zero_le _, Nat.zero_le _⟩ (fun H locs hP hD hS => ?_)
          have hrun := setM_run 13 3 ((wX6_0_2_3_4_5_6_7_8_9_10_13_14_15_16_17_18 cy ad xp 0 xs sf tr xn a_rp a_rgs a_sv a_co a_ro a_le a_lst a_mu a_ba a_osz a_nx a_tl a_pe a_en a_pa)) ((wX3_0_1_2_3_4_5_6_9_10_11_12_13_14 cy (fun i => ad (4 + i)) xn a_rp u_46.1 u_46.2.1 u_46.2.2.1 u_46.2.2.2.1 u_46.2.2.2.2.1 u_46.2.2.2.2.2.1 u_46.2.2.2.2.2.2.1 u_46.2.2.2.2.2.2.2.1 a_osz u_46.2.2.2.2.2.2.2.2.1 u_46.2.2.2.2.2.2.2.2.2.1 u_46.2.2.2.2.2.2.2.2.2.2.1 u_46.2.2.2.2.2.2.2.2.2.2.2.1 u_46.2.2.2.2.2.2.2.2.2.2.2.2)) rfl (Nat.le_of_ble_eq_true rfl)
          have hP := P_cast hrun hP
          have hD := D_cast hrun hD
          clear hrun
          have hP : va_P D vwCl ((wX6_0_2_3_4_5_6_7_8_9_10_13_14_15_16_17_18 cy ad xp 0 xs sf tr xn a_rp u_46.1 u_46.2.1 u_46.2.2.1 u_46.2.2.2.1 u_46.2.2.2.2.1 u_46.2.2.2.2.2.1 u_46.2.2.2.2.2.2.1 u_46.2.2.2.2.2.2.2.1 a_osz u_46.2.2.2.2.2.2.2.2.1 u_46.2.2.2.2.2.2.2.2.2.1 u_46.2.2.2.2.2.2.2.2.2.2.1 u_46.2.2.2.2.2.2.2.2.2.2.2.1 u_46.2.2.2.2.2.2.2.2.2.2.2.2)) H := hP
          have hD : va_D A ((wX6_0_2_3_4_5_6_7_8_9_10_13_14_15_16_17_18 cy ad xp 0 xs sf tr xn a_rp u_46.1 u_46.2.1 u_46.2.2.1 u_46.2.2.2.1 u_46.2.2.2.2.1 u_46.2.2.2.2.2.1 u_46.2.2.2.2.2.2.1 u_46.2.2.2.2.2.2.2.1 a_osz u_46.2.2.2.2.2.2.2.2.1 u_46.2.2.2.2.2.2.2.2.2.1 u_46.2.2.2.2.2.2.2.2.2.2.1 u_46.2.2.2.2.2.2.2.2.2.2.2.1 u_46.2.2.2.2.2.2.2.2.2.2.2.2)) := hD
          refine lv_aload_n hx hb dX6_ask_49 rfl (lv_at hl 1 rfl) ?_
          refine lv_iload_n hx hb dX6_ask_50 rfl (lv_at hl 3 rfl) ?_
          refine lv_if_ne (tgt := 62) hx hb dX6_ask_51 (by decide) (fun c_51 => ?_) (fun c_51 => ?_)
          · replace hf := it_n c_51 hf
            refine lv_aload_n hx hb dX6_ask_62 rfl (lv_at hl 1 rfl) ?_
            refine lv_aload_n hx hb dX6_ask_63 rfl (lv_at hl 0 rfl) ?_
            replace hf := ob_e hf
            obtain ⟨u_64, hu_64, hf⟩ := hf
            have hR := roN hR0 hnA hS
            have hQ_a_32 : va_P D vwCl (wX2_0_1 cy (adP pca a_32) 5 (ppp a_32) (pdg a_32) (ptd a_32) (pcc a_32)) H := P_two hR (sgP_1 m_a_32) (sgP_2 m_a_32)
            have hnQ_a_32 : ∀ (k : Nat) (q : Nat × va_E), (wX2_0_1 cy (adP pca a_32) 5 (ppp a_32) (pdg a_32) (ptd a_32) (pcc a_32))[k]? = some q → ¬ A q.1 := nA_two hnA (sgP_1 m_a_32) (sgP_2 m_a_32)
            refine ivW (As := [.ref a_32]) (rest := [.ref (ad 0)]) (st1 := [.int u_64.1, .ref (ad 0)]) (is := [0, 2, 3, 4, 10, 13]) (w1 := (wX6_0_3_4_5_13_16 cy ad xp u_64.2.1 xs u_64.2.2 xn a_rp u_46.1 u_46.2.1 u_46.2.2.1 a_osz u_46.2.2.2.2.2.2.2.2.2.2.1)) ⟨hx, hb, hml, hown, hts⟩ hK hN (KX6_markAsked l D cy ad (adP pca a_32) xp 0 xs tr xn a_rp u_46.1 u_46.2.1 u_46.2.2.1 a_osz u_46.2.2.2.2.2.2.2.2.2.2.1 5 (ppp a_32) (pdg a_32) (ptd a_32) (pcc a_32) H.size hu_64) (cwV 1 hts gX6_ask_X6_markAsked rfl rfl rfl (by decide +kernel) ⟨Nat.le_of_ble_eq_true rfl, Nat.le_of_ble_eq_true rfl⟩) (va_recv hK hP (ci := 6) (q0 := 0) rfl rfl) hP hD hS hA (P_pl (wc := (wX2_0_1 cy (adP pca a_32) 5 (ppp a_32) (pdg a_32) (ptd a_32) (pcc a_32))) (is := [0, 1]) hQ_a_32 rfl) (sep_nA (is := [0, 2, 3, 4, 10, 13]) (isR := [0, 1]) hnQ_a_32 hD rfl rfl) (by decide) rfl rfl rfl hl.1 rfl (Nat.le_of_ble_eq_true rfl) rfl dX6_ask_64 ⟨Nat.zero_le _, Nat.zero_le _⟩ (fun H locs hP hD hS => ?_)
            have hP : va_P D vwCl ((wX6_0_2_3_4_5_6_7_8_9_10_13_14_15_16_17_18 cy ad xp u_64.2.1 xs sf u_64.2.2 xn a_rp u_46.1 u_46.2.1 u_46.2.2.1 u_46.2.2.2.1 u_46.2.2.2.2.1 u_46.2.2.2.2.2.1 u_46.2.2.2.2.2.2.1 u_46.2.2.2.2.2.2.2.1 a_osz u_46.2.2.2.2.2.2.2.2.1 u_46.2.2.2.2.2.2.2.2.2.1 u_46.2.2.2.2.2.2.2.2.2.2.1 u_46.2.2.2.2.2.2.2.2.2.2.2.1 u_46.2.2.2.2.2.2.2.2.2.2.2.2)) H := hP
            have hD : va_D A ((wX6_0_2_3_4_5_6_7_8_9_10_13_14_15_16_17_18 cy ad xp u_64.2.1 xs sf u_64.2.2 xn a_rp u_46.1 u_46.2.1 u_46.2.2.1 u_46.2.2.2.1 u_46.2.2.2.2.1 u_46.2.2.2.2.2.1 u_46.2.2.2.2.2.2.1 u_46.2.2.2.2.2.2.2.1 a_osz u_46.2.2.2.2.2.2.2.2.1 u_46.2.2.2.2.2.2.2.2.2.1 u_46.2.2.2.2.2.2.2.2.2.2.1 u_46.2.2.2.2.2.2.2.2.2.2.2.1 u_46.2.2.2.2.2.2.2.2.2.2.2.2)) := hD
            exact J67 H locs ls u_64.1 u_64.2.1 xs u_64.2.2 u_46.1 u_46.2.1 u_46.2.2.1 u_46.2.2.2.1 u_46.2.2.2.2.1 u_46.2.2.2.2.2.1 u_46.2.2.2.2.2.2.1 u_46.2.2.2.2.2.2.2.1 u_46.2.2.2.2.2.2.2.2.1 u_46.2.2.2.2.2.2.2.2.2.1 u_46.2.2.2.2.2.2.2.2.2.2.1 u_46.2.2.2.2.2.2.2.2.2.2.2.1 u_46.2.2.2.2.2.2.2.2.2.2.2.2 hf hP hD hS (lv_sub hl [] rfl)
          · replace hf := it_p c_51 hf
            refine lv_aload_n hx hb dX6_ask_54 rfl (lv_at hl 1 rfl) ?_
            refine lv_aload_n hx hb dX6_ask_55 rfl (lv_at hl 0 rfl) ?_
            replace hf := ob_e hf
            obtain ⟨u_56, hu_56, hf⟩ := hf
            have hR := roN hR0 hnA hS
            have hQ_a_32 : va_P D vwCl (wX2_0_1 cy (adP pca a_32) 5 (ppp a_32) (pdg a_32) (ptd a_32) (pcc a_32)) H := P_two hR (sgP_1 m_a_32) (sgP_2 m_a_32)
            have hnQ_a_32 : ∀ (k : Nat) (q : Nat × va_E), (wX2_0_1 cy (adP pca a_32) 5 (ppp a_32) (pdg a_32) (ptd a_32) (pcc a_32))[k]? = some q → ¬ A q.1 := nA_two hnA (sgP_1 m_a_32) (sgP_2 m_a_32)
            refine ivW (As := [.ref a_32]) (rest := [.ref (ad 0)]) (st1 := [.int u_56.1, .ref (ad 0)]) (is := [0, 2, 3, 4, 10, 13]) (w1 := (wX6_0_3_4_5_13_16 cy ad xp u_56.2.1 xs u_56.2.2 xn a_rp u_46.1 u_46.2.1 u_46.2.2.1 a_osz u_46.2.2.2.2.2.2.2.2.2.2.1)) ⟨hx, hb, hml, hown, hts⟩ hK hN (KX6_sizeAsked l D cy ad (adP pca a_32) xp 0 xs tr xn a_rp u_46.1 u_46.2.1 u_46.2.2.1 a_osz u_46.2.2.2.2.2.2.2.2.2.2.1 5 (ppp a_32) (pdg a_32) (ptd a_32) (pcc a_32) H.size hu_56) (cwV 1 hts gX6_ask_X6_sizeAsked rfl rfl rfl (by decide +kernel) ⟨Nat.le_of_ble_eq_true rfl, Nat.le_of_ble_eq_true rfl⟩) (va_recv hK hP (ci := 6) (q0 := 0) rfl rfl) hP hD hS hA (P_pl (wc := (wX2_0_1 cy (adP pca a_32) 5 (ppp a_32) (pdg a_32) (ptd a_32) (pcc a_32))) (is := [0, 1]) hQ_a_32 rfl) (sep_nA (is := [0, 2, 3, 4, 10, 13]) (isR := [0, 1]) hnQ_a_32 hD rfl rfl) (by decide) rfl rfl rfl hl.1 rfl (Nat.le_of_ble_eq_true rfl) rfl dX6_ask_56 ⟨Nat.zero_le _, Nat.zero_le _⟩ (fun H locs hP hD hS => ?_)
            have hP : va_P D vwCl ((wX6_0_2_3_4_5_6_7_8_9_10_13_14_15_16_17_18 cy ad xp u_56.2.1 xs sf u_56.2.2 xn a_rp u_46.1 u_46.2.1 u_46.2.2.1 u_46.2.2.2.1 u_46.2.2.2.2.1 u_46.2.2.2.2.2.1 u_46.2.2.2.2.2.2.1 u_46.2.2.2.2.2.2.2.1 a_osz u_46.2.2.2.2.2.2.2.2.1 u_46.2.2.2.2.2.2.2.2.2.1 u_46.2.2.2.2.2.2.2.2.2.2.1 u_46.2.2.2.2.2.2.2.2.2.2.2.1 u_46.2.2.2.2.2.2.2.2.2.2.2.2)) H := hP
            have hD : va_D A ((wX6_0_2_3_4_5_6_7_8_9_10_13_14_15_16_17_18 cy ad xp u_56.2.1 xs sf u_56.2.2 xn a_rp u_46.1 u_46.2.1 u_46.2.2.1 u_46.2.2.2.1 u_46.2.2.2.2.1 u_46.2.2.2.2.2.1 u_46.2.2.2.2.2.2.1 u_46.2.2.2.2.2.2.2.1 a_osz u_46.2.2.2.2.2.2.2.2.1 u_46.2.2.2.2.2.2.2.2.2.1 u_46.2.2.2.2.2.2.2.2.2.2.1 u_46.2.2.2.2.2.2.2.2.2.2.2.1 u_46.2.2.2.2.2.2.2.2.2.2.2.2)) := hD
            refine lv_goto (tgt := 67) hx hb dX6_ask_59 (by decide) ?_
            exact J67 H locs ls u_56.1 u_56.2.1 xs u_56.2.2 u_46.1 u_46.2.1 u_46.2.2.1 u_46.2.2.2.1 u_46.2.2.2.2.1 u_46.2.2.2.2.2.1 u_46.2.2.2.2.2.2.1 u_46.2.2.2.2.2.2.2.1 u_46.2.2.2.2.2.2.2.2.1 u_46.2.2.2.2.2.2.2.2.2.1 u_46.2.2.2.2.2.2.2.2.2.2.1 u_46.2.2.2.2.2.2.2.2.2.2.2.1 u_46.2.2.2.2.2.2.2.2.2.2.2.2 hf hP hD hS (lv_sub hl [] rfl)
      · replace hf := it_n c_13 hf
        refine lv_ldc (own := RX6) (v := (-1000001)) hx hb hown hw_0 dX6_ask_16 ?_
        obtain rfl := Option.some.inj hf
        rw [← hQe]
        exact W.iret (v := (-1000001)) hx hb hr (fun t ht hW => ⟨rfl, by rw [ht]; exact hP, hS.F ht⟩) hS.2.2 dX6_ask_18
def FX6_trace  (xt : Int32) (tr : Nat → Int32) (x1 : Int32) : Option (Int32) := (if x1 < 0 then ((some ((-1000000)))) else (if xt ≤ x1 then ((some ((-1000000)))) else (gi x1 16 ((some ((tr (Int32.toNatClampNeg x1))))))))
abbrev RMX6_trace : Room := { frames := 0, cells := 0, slots := 0, locals := 0 }
set_option maxHeartbeats 4000000 in
set_option maxRecDepth 100000 in
theorem KX6_trace (l : Launch) (D : va_G) (cy : Nat → ClassId) (ad : Nat → Nat) (xp : Int32) (xt : Int32) (xs : Int32) (tr : Nat → Int32) (x1 : Int32) (sz : Nat) {out : Int32} (hf : FX6_trace xt tr x1 = some out) : Met l yX6_trace wsX6_trace RMX6_trace (PW D cy [.ref (ad 0), .int x1] sz [] ((wX6_0_3 cy ad xp xt xs tr))) (QR (some (.int out))) 0 0 no_A := by
  refine Met.ofW (cc := cX6_trace) (maxL := 2) (ret := (some .int)) (by decide +kernel) rfl ?_
  intro p e s m args below meth c s₁ B hml hv
  obtain ⟨hav, hsz, hP, hR0, hK, hN, hD0, hsep⟩ := hv
  have hx := B.exec
  have hb := B.bytes
  have hr := B.returns
  have hts := atoms_spec (ws := wsX6_trace) B.pre
  have hown : s.vm.findClass RX6 = some m.cls := findClass_of_methodNamed B.named
  have hlocks := B.notSynchronized
  subst hsz
  have hin_X6 : ∀ w ∈ u_ws RX6 TX6 10, w ∈ wsX6_trace := by decide +kernel
  have hw_0 := hts (.constant RX6 153 (-1000000)) (by decide +kernel)
  have hw_1 := hts (.fieldLink RX6 59 "ReturnPoints" "traced" "I") (by decide +kernel)
  have hw_2 := hts (.fieldLink RX6 29 "ReturnPoints" "trace" "[I") (by decide +kernel)
  obtain ⟨ls, hfr, hl⟩ := ent_ok (m := m) (n := 2) (l' := [(0, .ref (ad 0)), (1, .int x1)]) [.ref (ad 0), .int x1] hav (Nat.le_of_ble_eq_true rfl) rfl
  rw [hfr]
  generalize hQe : MQ below (QR (some (.int out))) args s 0 0 no_A = QQ
  change W p l e RMX6_trace s m args below meth c s.heap [] 0 0 QQ (F0 m 0 ls [])
  unfold FX6_trace at hf
  refine lv_iload_n hx hb dX6_trace_0 rfl (lv_at hl 1 rfl) ?_
  refine lv_if_lt (tgt := 21) hx hb dX6_trace_1 (by decide) (fun c_1 => ?_) (fun c_1 => ?_)
  · replace hf := it_p c_1 hf
    refine lv_ldc (own := RX6) (v := (-1000000)) hx hb hown hw_0 dX6_trace_21 ?_
    obtain rfl := Option.some.inj hf
    rw [← hQe]
    exact W.iret (v := (-1000000)) hx hb hr (fun t ht hW => ⟨rfl, ht⟩) (fun q h => by cases h) dX6_trace_23
  · replace hf := it_n c_1 hf
    refine lv_iload_n hx hb dX6_trace_4 rfl (lv_at hl 1 rfl) ?_
    refine lv_aload_n hx hb dX6_trace_5 rfl (lv_at hl 0 rfl) ?_
    refine va_get (a := (ad 0)) (ci := 6) (v := .int xt) (C := RX6) (T := TX6) (N := 10) hx hb hts hin_X6 hown hK hR0 0 rfl rfl 8 (by decide) hw_1 (fun _ h => h) rfl dX6_trace_6 ?_
    refine lv_icmp_ge (tgt := 21) hx hb dX6_trace_9 (by decide) (fun c_9 => ?_) (fun c_9 => ?_)
    · replace hf := it_p c_9 hf
      refine lv_ldc (own := RX6) (v := (-1000000)) hx hb hown hw_0 dX6_trace_21 ?_
      obtain rfl := Option.some.inj hf
      rw [← hQe]
      exact W.iret (v := (-1000000)) hx hb hr (fun t ht hW => ⟨rfl, ht⟩) (fun q h => by cases h) dX6_trace_23
    · replace hf := it_n c_9 hf
      refine lv_aload_n hx hb dX6_trace_12 rfl (lv_at hl 0 rfl) ?_
      refine va_get (a := (ad 0)) (ci := 6) (v := .ref (ad 3)) (C := RX6) (T := TX6) (N := 10) hx hb hts hin_X6 hown hK hR0 0 rfl rfl 3 (by decide) hw_2 (fun _ h => h) rfl dX6_trace_13 ?_
      refine lv_iload_n hx hb dX6_trace_16 rfl (lv_at hl 1 rfl) ?_
      replace hf := gi_e hf
      obtain ⟨i_17, hf⟩ := hf
      refine va_iald (a := (ad 3)) hx hb hK hR0 1 0 rfl rfl i_17 dX6_trace_17 ?_
      refine lv_goto (tgt := 23) hx hb dX6_trace_18 (by decide) ?_
      obtain rfl := Option.some.inj hf
      rw [← hQe]
      exact W.iret (v := (tr (Int32.toNatClampNeg x1))) hx hb hr (fun t ht hW => ⟨rfl, ht⟩) (fun q h => by cases h) dX6_trace_23
def FX6_isPoint  (xp : Int32) (x1 : Int32) : Option (Bool) := (if x1 < 0 then ((some (false))) else (if xp ≤ x1 then ((some (false))) else ((some (true)))))
abbrev RMX6_isPoint : Room := { frames := 0, cells := 0, slots := 0, locals := 0 }
set_option maxHeartbeats 4000000 in
set_option maxRecDepth 100000 in
theorem KX6_isPoint (l : Launch) (D : va_G) (cy : Nat → ClassId) (ad : Nat → Nat) (xp : Int32) (xt : Int32) (xs : Int32) (x1 : Int32) (sz : Nat) {out : Bool} (hf : FX6_isPoint xp x1 = some out) : Met l yX6_isPoint wsX6_isPoint RMX6_isPoint (PW D cy [.ref (ad 0), .int x1] sz [] ((wX6_0 cy ad xp xt xs))) (QR (some (.int (bi out)))) 0 0 no_A := by
  refine Met.ofW (cc := cX6_isPoint) (maxL := 2) (ret := (some .boolean)) (by decide +kernel) rfl ?_
  intro p e s m args below meth c s₁ B hml hv
  obtain ⟨hav, hsz, hP, hR0, hK, hN, hD0, hsep⟩ := hv
  have hx := B.exec
  have hb := B.bytes
  have hr := B.returns
  have hts := atoms_spec (ws := wsX6_isPoint) B.pre
  have hown : s.vm.findClass RX6 = some m.cls := findClass_of_methodNamed B.named
  have hlocks := B.notSynchronized
  subst hsz
  have hin_X6 : ∀ w ∈ u_ws RX6 TX6 10, w ∈ wsX6_isPoint := by decide +kernel
  have hw_0 := hts (.fieldLink RX6 13 "ReturnPoints" "p" "I") (by decide +kernel)
  obtain ⟨ls, hfr, hl⟩ := ent_ok (m := m) (n := 2) (l' := [(0, .ref (ad 0)), (1, .int x1)]) [.ref (ad 0), .int x1] hav (Nat.le_of_ble_eq_true rfl) rfl
  rw [hfr]
  generalize hQe : MQ below (QR (some (.int (bi out)))) args s 0 0 no_A = QQ
  change W p l e RMX6_isPoint s m args below meth c s.heap [] 0 0 QQ (F0 m 0 ls [])
  unfold FX6_isPoint at hf
  refine lv_iload_n hx hb dX6_isPoint_0 rfl (lv_at hl 1 rfl) ?_
  refine lv_if_lt (tgt := 16) hx hb dX6_isPoint_1 (by decide) (fun c_1 => ?_) (fun c_1 => ?_)
  · replace hf := it_p c_1 hf
    refine lv_iconst (v := 0) hx hb dX6_isPoint_16 (by decide) ?_
    obtain rfl := Option.some.inj hf
    rw [← hQe]
    exact W.zret (v := bi false) hx hb hr (nar_bi _) (fun t ht hW => ⟨rfl, ht⟩) (fun q h => by cases h) dX6_isPoint_17
  · replace hf := it_n c_1 hf
    refine lv_iload_n hx hb dX6_isPoint_4 rfl (lv_at hl 1 rfl) ?_
    refine lv_aload_n hx hb dX6_isPoint_5 rfl (lv_at hl 0 rfl) ?_
    refine va_get (a := (ad 0)) (ci := 6) (v := .int xp) (C := RX6) (T := TX6) (N := 10) hx hb hts hin_X6 hown hK hR0 0 rfl rfl 0 (by decide) hw_0 (fun _ h => h) rfl dX6_isPoint_6 ?_
    refine lv_icmp_ge (tgt := 16) hx hb dX6_isPoint_9 (by decide) (fun c_9 => ?_) (fun c_9 => ?_)
    · replace hf := it_p c_9 hf
      refine lv_iconst (v := 0) hx hb dX6_isPoint_16 (by decide) ?_
      obtain rfl := Option.some.inj hf
      rw [← hQe]
      exact W.zret (v := bi false) hx hb hr (nar_bi _) (fun t ht hW => ⟨rfl, ht⟩) (fun q h => by cases h) dX6_isPoint_17
    · replace hf := it_n c_9 hf
      refine lv_iconst (v := 1) hx hb dX6_isPoint_12 (by decide) ?_
      refine lv_goto (tgt := 17) hx hb dX6_isPoint_13 (by decide) ?_
      obtain rfl := Option.some.inj hf
      rw [← hQe]
      exact W.zret (v := bi true) hx hb hr (nar_bi _) (fun t ht hW => ⟨rfl, ht⟩) (fun q h => by cases h) dX6_isPoint_17
def FX6_roadsOf (am : Nat → Nat) (xn : Nat) (a_rp : Int32) (a_rgs : Int32) (a_sv : Option Nat) (a_co : Nat → Int32) (a_ro : Nat → Int32) (a_le : Nat → Int32) (a_lst : Nat → Int32) (a_mu : Nat → Int32) (a_ba : Nat → Int32) (a_osz : Int32) (a_nx : Nat → Int32) (a_tl : Nat → Int32) (a_pe : Nat → Int32) (a_en : Nat → Int32) (a_pa : Nat → Int32) (m_pn : Nat) (m_pp : Int32) (m_pd : Int32) (m_pc : Nat → Int32)  : Option ((Int32) × (Option Nat) × (Nat → Int32) × (Nat → Int32) × (Nat → Int32) × (Nat → Int32) × (Nat → Int32) × (Nat → Int32) × (Nat → Int32) × (Nat → Int32) × (Nat → Int32) × (Nat → Int32) × (Nat → Int32)) := (ob (FX3_survey am xn a_rp a_rgs a_sv a_co a_ro a_le a_lst a_mu a_ba a_osz a_nx a_tl a_pe a_en a_pa m_pn m_pp m_pd m_pc) (fun u_5 => some (u_5.1, u_5.2.1, u_5.2.2.1, u_5.2.2.2.1, u_5.2.2.2.2.1, u_5.2.2.2.2.2.1, u_5.2.2.2.2.2.2.1, u_5.2.2.2.2.2.2.2.1, u_5.2.2.2.2.2.2.2.2.1, u_5.2.2.2.2.2.2.2.2.2.1, u_5.2.2.2.2.2.2.2.2.2.2.1, u_5.2.2.2.2.2.2.2.2.2.2.2.1, u_5.2.2.2.2.2.2.2.2.2.2.2.2)))
abbrev RMX6_roadsOf : Room := { frames := 5, cells := 0, slots := 0, locals := 116 }
set_option maxHeartbeats 4000000 in
set_option maxRecDepth 100000 in
theorem KX6_roadsOf (l : Launch) (D : va_G) (cy : Nat → ClassId) (ad : Nat → Nat) (am : Nat → Nat) (xp : Int32) (xt : Int32) (xs : Int32) (xn : Nat) (a_rp : Int32) (a_rgs : Int32) (a_sv : Option Nat) (a_co : Nat → Int32) (a_ro : Nat → Int32) (a_le : Nat → Int32) (a_lst : Nat → Int32) (a_mu : Nat → Int32) (a_ba : Nat → Int32) (a_osz : Int32) (a_nx : Nat → Int32) (a_tl : Nat → Int32) (a_pe : Nat → Int32) (a_en : Nat → Int32) (a_pa : Nat → Int32) (m_pn : Nat) (m_pp : Int32) (m_pd : Int32) (m_pt : Int32) (m_pc : Nat → Int32)  (sz : Nat) {out : (Int32) × (Option Nat) × (Nat → Int32) × (Nat → Int32) × (Nat → Int32) × (Nat → Int32) × (Nat → Int32) × (Nat → Int32) × (Nat → Int32) × (Nat → Int32) × (Nat → Int32) × (Nat → Int32) × (Nat → Int32)} (hf : FX6_roadsOf am xn a_rp a_rgs a_sv a_co a_ro a_le a_lst a_mu a_ba a_osz a_nx a_tl a_pe a_en a_pa m_pn m_pp m_pd m_pc = some out) : Met l yX6_roadsOf wsX6_roadsOf RMX6_roadsOf (PW D cy [.ref (ad 0), .ref (am 0)] sz ((wX6_0_4_5_6_7_8_9_10_13_14_15_16_17_18 cy ad xp xt xs xn a_rp a_rgs a_sv a_co a_ro a_le a_lst a_mu a_ba a_osz a_nx a_tl a_pe a_en a_pa)) ((wX2_0_1 cy am m_pn m_pp m_pd m_pt m_pc))) (QW D (some (.ref (ad 4))) ((wX6_0_4_5_6_7_8_9_10_13_14_15_16_17_18 cy ad xp xt xs xn a_rp out.1 out.2.1 out.2.2.1 out.2.2.2.1 out.2.2.2.2.1 out.2.2.2.2.2.1 out.2.2.2.2.2.2.1 out.2.2.2.2.2.2.2.1 a_osz out.2.2.2.2.2.2.2.2.1 out.2.2.2.2.2.2.2.2.2.1 out.2.2.2.2.2.2.2.2.2.2.1 out.2.2.2.2.2.2.2.2.2.2.2.1 out.2.2.2.2.2.2.2.2.2.2.2.2)) (va_A ((wX6_0_4_5_6_7_8_9_10_13_14_15_16_17_18 cy ad xp xt xs xn a_rp a_rgs a_sv a_co a_ro a_le a_lst a_mu a_ba a_osz a_nx a_tl a_pe a_en a_pa)) sz)) 0 0 (va_A ((wX6_0_4_5_6_7_8_9_10_13_14_15_16_17_18 cy ad xp xt xs xn a_rp a_rgs a_sv a_co a_ro a_le a_lst a_mu a_ba a_osz a_nx a_tl a_pe a_en a_pa)) sz) := by
  refine Met.ofW (cc := cX6_roadsOf) (maxL := 2) (ret := (some (.object "ReturnPoints$Roads"))) (by decide +kernel) rfl ?_
  intro p e s m args below meth c s₁ B hml hv
  obtain ⟨hav, hsz, hP, hR0, hK, hN, hD0, hsep⟩ := hv
  have hx := B.exec
  have hb := B.bytes
  have hr := B.returns
  have hts := atoms_spec (ws := wsX6_roadsOf) B.pre
  have hown : s.vm.findClass RX6 = some m.cls := findClass_of_methodNamed B.named
  have hlocks := B.notSynchronized
  subst hsz
  have hin_X6 : ∀ w ∈ u_ws RX6 TX6 10, w ∈ wsX6_roadsOf := by decide +kernel
  have hw_0 := hts (.fieldLink RX6 38 "ReturnPoints" "roads" "LReturnPoints$Roads;") (by decide +kernel)
  have hD := hD0.self (sz := s.heap.size)
  have hnA := roA hsep hR0
  generalize hAe : va_A ((wX6_0_4_5_6_7_8_9_10_13_14_15_16_17_18 cy ad xp xt xs xn a_rp a_rgs a_sv a_co a_ro a_le a_lst a_mu a_ba a_osz a_nx a_tl a_pe a_en a_pa)) s.heap.size = A at hD hnA ⊢
  have hA : ∀ q : Nat, s.heap.size ≤ q → A q := fun q h => by rw [← hAe]; exact Or.inr h
  have hS : va_S A s.heap s.heap [] := va_S.rf
  obtain ⟨ls, hfr, hl⟩ := ent_ok (m := m) (n := 2) (l' := [(0, .ref (ad 0)), (1, .ref (am 0))]) [.ref (ad 0), .ref (am 0)] hav (Nat.le_of_ble_eq_true rfl) rfl
  rw [hfr]
  generalize hQe : MQ below (QW D (some (.ref (ad 4))) ((wX6_0_4_5_6_7_8_9_10_13_14_15_16_17_18 cy ad xp xt xs xn a_rp out.1 out.2.1 out.2.2.1 out.2.2.2.1 out.2.2.2.2.1 out.2.2.2.2.2.1 out.2.2.2.2.2.2.1 out.2.2.2.2.2.2.2.1 a_osz out.2.2.2.2.2.2.2.2.1 out.2.2.2.2.2.2.2.2.2.1 out.2.2.2.2.2.2.2.2.2.2.1 out.2.2.2.2.2.2.2.2.2.2.2.1 out.2.2.2.2.2.2.2.2.2.2.2.2)) A) args s 0 0 A = QQ
  change W p l e RMX6_roadsOf s m args below meth c s.heap [] 0 0 QQ (F0 m 0 ls [])
  have hP : va_P D vwCl ((wX6_0_4_5_6_7_8_9_10_13_14_15_16_17_18 cy ad xp xt xs xn a_rp a_rgs a_sv a_co a_ro a_le a_lst a_mu a_ba a_osz a_nx a_tl a_pe a_en a_pa)) s.heap := hP
  have hD : va_D A ((wX6_0_4_5_6_7_8_9_10_13_14_15_16_17_18 cy ad xp xt xs xn a_rp a_rgs a_sv a_co a_ro a_le a_lst a_mu a_ba a_osz a_nx a_tl a_pe a_en a_pa)) := hD
  suffices h00 : ∀ (H : Heap) (locs : List Loc), va_P D vwCl ((wX6_0_4_5_6_7_8_9_10_13_14_15_16_17_18 cy ad xp xt xs xn a_rp a_rgs a_sv a_co a_ro a_le a_lst a_mu a_ba a_osz a_nx a_tl a_pe a_en a_pa)) H → va_S A s.heap H locs → W p l e RMX6_roadsOf s m args below meth c H locs 0 0 QQ (F0 m 0 ls []) from h00 _ _ hP hS
  clear hP hS
  intro H locs hP hS
  unfold FX6_roadsOf at hf
  refine lv_aload_n hx hb dX6_roadsOf_0 rfl (lv_at hl 0 rfl) ?_
  refine va_get (a := (ad 0)) (ci := 6) (v := .ref (ad 4)) (C := RX6) (T := TX6) (N := 10) hx hb hts hin_X6 hown hK hP 0 rfl rfl 4 (by decide) hw_0 (fun _ h => h) rfl dX6_roadsOf_1 ?_
  refine lv_aload_n hx hb dX6_roadsOf_4 rfl (lv_at hl 1 rfl) ?_
  replace hf := ob_e hf
  obtain ⟨u_5, hu_5, hf⟩ := hf
  have hR := roN hR0 hnA hS
  refine ivW (As := [.ref (am 0)]) (rest := []) (st1 := []) (is := [1, 2, 3, 4, 5, 6, 7, 8, 9, 10, 11, 12, 13]) (w1 := (wX3_0_1_2_3_4_5_6_9_10_11_12_13_14 cy (fun i => ad (4 + i)) xn a_rp u_5.1 u_5.2.1 u_5.2.2.1 u_5.2.2.2.1 u_5.2.2.2.2.1 u_5.2.2.2.2.2.1 u_5.2.2.2.2.2.2.1 u_5.2.2.2.2.2.2.2.1 a_osz u_5.2.2.2.2.2.2.2.2.1 u_5.2.2.2.2.2.2.2.2.2.1 u_5.2.2.2.2.2.2.2.2.2.2.1 u_5.2.2.2.2.2.2.2.2.2.2.2.1 u_5.2.2.2.2.2.2.2.2.2.2.2.2)) ⟨hx, hb, hml, hown, hts⟩ hK hN (KX3_survey l D cy (fun i => ad (4 + i)) am xn a_rp a_rgs a_sv a_co a_ro a_le a_lst a_mu a_ba a_osz a_nx a_tl a_pe a_en a_pa m_pn m_pp m_pd m_pt m_pc H.size hu_5) (cwV 1 hts gX6_roadsOf_X3_survey rfl rfl rfl (by decide +kernel) ⟨Nat.le_of_ble_eq_true rfl, Nat.le_of_ble_eq_true rfl⟩) (va_recv hK hP (ci := 3) (q0 := 1) rfl rfl) hP hD hS hA (P_pl (wc := (wX2_0_1 cy am m_pn m_pp m_pd m_pt m_pc)) (is := [0, 1]) hR rfl) (sep_nA (is := [1, 2, 3, 4, 5, 6, 7, 8, 9, 10, 11, 12, 13]) (isR := [0, 1]) hnA hD rfl rfl) (by decide) rfl rfl rfl hl.1 rfl (Nat.le_of_ble_eq_true rfl) rfl dX6_roadsOf_5 ⟨Nat.zero_le _, Nat.zero_le _⟩ (fun H locs hP hD hS => ?_)
  have hrun := setM_run 13 1 ((wX6_0_4_5_6_7_8_9_10_13_14_15_16_17_18 cy ad xp xt xs xn a_rp a_rgs a_sv a_co a_ro a_le a_lst a_mu a_ba a_osz a_nx a_tl a_pe a_en a_pa)) ((wX3_0_1_2_3_4_5_6_9_10_11_12_13_14 cy (fun i => ad (4 + i)) xn a_rp u_5.1 u_5.2.1 u_5.2.2.1 u_5.2.2.2.1 u_5.2.2.2.2.1 u_5.2.2.2.2.2.1 u_5.2.2.2.2.2.2.1 u_5.2.2.2.2.2.2.2.1 a_osz u_5.2.2.2.2.2.2.2.2.1 u_5.2.2.2.2.2.2.2.2.2.1 u_5.2.2.2.2.2.2.2.2.2.2.1 u_5.2.2.2.2.2.2.2.2.2.2.2.1 u_5.2.2.2.2.2.2.2.2.2.2.2.2)) rfl (Nat.le_of_ble_eq_true rfl)
  have hP := P_cast hrun hP
  have hD := D_cast hrun hD
  clear hrun
  have hP : va_P D vwCl ((wX6_0_4_5_6_7_8_9_10_13_14_15_16_17_18 cy ad xp xt xs xn a_rp u_5.1 u_5.2.1 u_5.2.2.1 u_5.2.2.2.1 u_5.2.2.2.2.1 u_5.2.2.2.2.2.1 u_5.2.2.2.2.2.2.1 u_5.2.2.2.2.2.2.2.1 a_osz u_5.2.2.2.2.2.2.2.2.1 u_5.2.2.2.2.2.2.2.2.2.1 u_5.2.2.2.2.2.2.2.2.2.2.1 u_5.2.2.2.2.2.2.2.2.2.2.2.1 u_5.2.2.2.2.2.2.2.2.2.2.2.2)) H := hP
  have hD : va_D A ((wX6_0_4_5_6_7_8_9_10_13_14_15_16_17_18 cy ad xp xt xs xn a_rp u_5.1 u_5.2.1 u_5.2.2.1 u_5.2.2.2.1 u_5.2.2.2.2.1 u_5.2.2.2.2.2.1 u_5.2.2.2.2.2.2.1 u_5.2.2.2.2.2.2.2.1 a_osz u_5.2.2.2.2.2.2.2.2.1 u_5.2.2.2.2.2.2.2.2.2.1 u_5.2.2.2.2.2.2.2.2.2.2.1 u_5.2.2.2.2.2.2.2.2.2.2.2.1 u_5.2.2.2.2.2.2.2.2.2.2.2.2)) := hD
  refine lv_aload_n hx hb dX6_roadsOf_8 rfl (lv_at hl 0 rfl) ?_
  refine va_get (a := (ad 0)) (ci := 6) (v := .ref (ad 4)) (C := RX6) (T := TX6) (N := 10) hx hb hts hin_X6 hown hK hP 0 rfl rfl 4 (by decide) hw_0 (fun _ h => h) rfl dX6_roadsOf_9 ?_
  obtain rfl := Option.some.inj hf
  rw [← hQe]
  exact W.aret hx hb hr (Or.inl ⟨_, rfl⟩) (Or.inr ⟨_, rfl⟩) (fun t ht hW => ⟨rfl, by rw [ht]; exact hP, hS.F ht⟩) hS.2.2 dX6_roadsOf_12
def FX6_step  (xp : Int32) (xs : Int32) (sf : Nat → Option Nat) (xn : Nat) (a_rp : Int32) (a_rgs : Int32) (a_sv : Option Nat) (a_co : Nat → Int32) (a_ro : Nat → Int32) (a_le : Nat → Int32) (a_lst : Nat → Int32) (a_mu : Nat → Int32) (a_ba : Nat → Int32) (a_osz : Int32) (a_nx : Nat → Int32) (a_tl : Nat → Int32) (a_pe : Nat → Int32) (a_en : Nat → Int32) (a_pa : Nat → Int32) (PL : List Nat) (ppp : Nat → Int32) (pca : Nat → Nat) (pdg : Nat → Int32) (ptd : Nat → Int32) (pcc : Nat → Nat → Int32) (x1 : Int32) (x2 : Int32) (x3 : Int32) : Option (Int32 × (Int32) × (Int32) × (Option Nat) × (Nat → Int32) × (Nat → Int32) × (Nat → Int32) × (Nat → Int32) × (Nat → Int32) × (Nat → Int32) × (Nat → Int32) × (Nat → Int32) × (Nat → Int32) × (Nat → Int32) × (Nat → Int32)) := (ob (FX6_isPlace x1) (fun u_1 => if (bi u_1) = 0 then (some ((-1000001), xs, a_rgs, a_sv, a_co, a_ro, a_le, a_lst, a_mu, a_ba, a_nx, a_tl, a_pe, a_en, a_pa)) else (ob (FX6_isPoint xp x2) (fun u_9 => if (bi u_9) = 0 then (some ((-1000001), xs, a_rgs, a_sv, a_co, a_ro, a_le, a_lst, a_mu, a_ba, a_nx, a_tl, a_pe, a_en, a_pa)) else (if x3 < 0 then (some ((-1000001), xs, a_rgs, a_sv, a_co, a_ro, a_le, a_lst, a_mu, a_ba, a_nx, a_tl, a_pe, a_en, a_pa)) else (if x3 ≤ 1000000000 then (gi x1 10 (bd (sf (Int32.toNatClampNeg x1)) (fun o_33 => oq o_33 ((ob (FX6_found 1) (fun u_43 => (some (u_43.1, u_43.2, a_rgs, a_sv, a_co, a_ro, a_le, a_lst, a_mu, a_ba, a_nx, a_tl, a_pe, a_en, a_pa))))) (fun a_38 => gd (a_38 ∈ PL) ((ob (FX6_roadsOf (adP pca a_38) xn a_rp a_rgs a_sv a_co a_ro a_le a_lst a_mu a_ba a_osz a_nx a_tl a_pe a_en a_pa 5 (ppp a_38) (pdg a_38) (pcc a_38)) (fun u_53 => ob (FX1_after xn a_osz u_53.2.2.2.2.2.2.2.2.1 u_53.2.2.2.2.2.2.2.2.2.1 u_53.2.2.2.2.2.2.2.2.2.2.1 x2 x3) (fun u_61 => ob (FX6_fine u_61) (fun u_64 => (some (u_64.1, u_64.2, u_53.1, u_53.2.1, u_53.2.2.1, u_53.2.2.2.1, u_53.2.2.2.2.1, u_53.2.2.2.2.2.1, u_53.2.2.2.2.2.2.1, u_53.2.2.2.2.2.2.2.1, u_53.2.2.2.2.2.2.2.2.1, u_53.2.2.2.2.2.2.2.2.2.1, u_53.2.2.2.2.2.2.2.2.2.2.1, u_53.2.2.2.2.2.2.2.2.2.2.2.1, u_53.2.2.2.2.2.2.2.2.2.2.2.2))))))))))) else (some ((-1000001), xs, a_rgs, a_sv, a_co, a_ro, a_le, a_lst, a_mu, a_ba, a_nx, a_tl, a_pe, a_en, a_pa))))))))
abbrev RMX6_step : Room := { frames := 6, cells := 0, slots := 0, locals := 137 }
set_option maxHeartbeats 4000000 in
set_option maxRecDepth 100000 in
theorem KX6_step (l : Launch) (D : va_G) (cy : Nat → ClassId) (ad : Nat → Nat) (xp : Int32) (xt : Int32) (xs : Int32) (sf : Nat → Option Nat) (xn : Nat) (a_rp : Int32) (a_rgs : Int32) (a_sv : Option Nat) (a_co : Nat → Int32) (a_ro : Nat → Int32) (a_le : Nat → Int32) (a_lst : Nat → Int32) (a_mu : Nat → Int32) (a_ba : Nat → Int32) (a_osz : Int32) (a_nx : Nat → Int32) (a_tl : Nat → Int32) (a_pe : Nat → Int32) (a_en : Nat → Int32) (a_pa : Nat → Int32) (PL : List Nat) (ppp : Nat → Int32) (pca : Nat → Nat) (pdg : Nat → Int32) (ptd : Nat → Int32) (pcc : Nat → Nat → Int32) (x1 : Int32) (x2 : Int32) (x3 : Int32) (sz : Nat) {out : Int32 × (Int32) × (Int32) × (Option Nat) × (Nat → Int32) × (Nat → Int32) × (Nat → Int32) × (Nat → Int32) × (Nat → Int32) × (Nat → Int32) × (Nat → Int32) × (Nat → Int32) × (Nat → Int32) × (Nat → Int32) × (Nat → Int32)} (hf : FX6_step xp xs sf xn a_rp a_rgs a_sv a_co a_ro a_le a_lst a_mu a_ba a_osz a_nx a_tl a_pe a_en a_pa PL ppp pca pdg ptd pcc x1 x2 x3 = some out) : Met l yX6_step wsX6_step RMX6_step (PW D cy [.ref (ad 0), .int x1, .int x2, .int x3] sz ((wX6_0_2_4_5_6_7_8_9_10_13_14_15_16_17_18 cy ad xp xt xs sf xn a_rp a_rgs a_sv a_co a_ro a_le a_lst a_mu a_ba a_osz a_nx a_tl a_pe a_en a_pa)) ((sgP cy PL ppp pca pdg ptd pcc))) (QW D (some (.int out.1)) ((wX6_0_2_4_5_6_7_8_9_10_13_14_15_16_17_18 cy ad xp xt out.2.1 sf xn a_rp out.2.2.1 out.2.2.2.1 out.2.2.2.2.1 out.2.2.2.2.2.1 out.2.2.2.2.2.2.1 out.2.2.2.2.2.2.2.1 out.2.2.2.2.2.2.2.2.1 out.2.2.2.2.2.2.2.2.2.1 a_osz out.2.2.2.2.2.2.2.2.2.2.1 out.2.2.2.2.2.2.2.2.2.2.2.1 out.2.2.2.2.2.2.2.2.2.2.2.2.1 out.2.2.2.2.2.2.2.2.2.2.2.2.2.1 out.2.2.2.2.2.2.2.2.2.2.2.2.2.2)) (va_A ((wX6_0_2_4_5_6_7_8_9_10_13_14_15_16_17_18 cy ad xp xt xs sf xn a_rp a_rgs a_sv a_co a_ro a_le a_lst a_mu a_ba a_osz a_nx a_tl a_pe a_en a_pa)) sz)) 0 0 (va_A ((wX6_0_2_4_5_6_7_8_9_10_13_14_15_16_17_18 cy ad xp xt xs sf xn a_rp a_rgs a_sv a_co a_ro a_le a_lst a_mu a_ba a_osz a_nx a_tl a_pe a_en a_pa)) sz) := by
  refine Met.ofW (cc := cX6_step) (maxL := 5) (ret := (some .int)) (by decide +kernel) rfl ?_
  intro p e s m args below meth c s₁ B hml hv
  obtain ⟨hav, hsz, hP, hR0, hK, hN, hD0, hsep⟩ := hv
  have hx := B.exec
  have hb := B.bytes
  have hr := B.returns
  have hts := atoms_spec (ws := wsX6_step) B.pre
  have hown : s.vm.findClass RX6 = some m.cls := findClass_of_methodNamed B.named
  have hlocks := B.notSynchronized
  subst hsz
  have hin_X3 : ∀ w ∈ u_ws RX3 TX3 12, w ∈ wsX6_step := by decide +kernel
  have hin_X6 : ∀ w ∈ u_ws RX6 TX6 10, w ∈ wsX6_step := by decide +kernel
  have hw_0 := hts (.constant RX6 68 (-1000001)) (by decide +kernel)
  have hw_1 := hts (.constant RX6 157 (1000000000)) (by decide +kernel)
  have hw_2 := hts (.fieldLink RX6 25 "ReturnPoints" "shelf" "[LReturnPoints$Poly;") (by decide +kernel)
  have hw_3 := hts (.fieldLink RX6 162 "ReturnPoints$Roads" "orbits" "LReturnPoints$Orbits;") (by decide +kernel)
  have hD := hD0.self (sz := s.heap.size)
  have hnA := roA hsep hR0
  generalize hAe : va_A ((wX6_0_2_4_5_6_7_8_9_10_13_14_15_16_17_18 cy ad xp xt xs sf xn a_rp a_rgs a_sv a_co a_ro a_le a_lst a_mu a_ba a_osz a_nx a_tl a_pe a_en a_pa)) s.heap.size = A at hD hnA ⊢
  have hA : ∀ q : Nat, s.heap.size ≤ q → A q := fun q h => by rw [← hAe]; exact Or.inr h
  have hS : va_S A s.heap s.heap [] := va_S.rf
  obtain ⟨ls, hfr, hl⟩ := ent_ok (m := m) (n := 5) (l' := [(0, .ref (ad 0)), (1, .int x1), (2, .int x2), (3, .int x3)]) [.ref (ad 0), .int x1, .int x2, .int x3] hav (Nat.le_of_ble_eq_true rfl) rfl
  rw [hfr]
  generalize hQe : MQ below (QW D (some (.int out.1)) ((wX6_0_2_4_5_6_7_8_9_10_13_14_15_16_17_18 cy ad xp xt out.2.1 sf xn a_rp out.2.2.1 out.2.2.2.1 out.2.2.2.2.1 out.2.2.2.2.2.1 out.2.2.2.2.2.2.1 out.2.2.2.2.2.2.2.1 out.2.2.2.2.2.2.2.2.1 out.2.2.2.2.2.2.2.2.2.1 a_osz out.2.2.2.2.2.2.2.2.2.2.1 out.2.2.2.2.2.2.2.2.2.2.2.1 out.2.2.2.2.2.2.2.2.2.2.2.2.1 out.2.2.2.2.2.2.2.2.2.2.2.2.2.1 out.2.2.2.2.2.2.2.2.2.2.2.2.2.2)) A) args s 0 0 A = QQ
  change W p l e RMX6_step s m args below meth c s.heap [] 0 0 QQ (F0 m 0 ls [])
  have hP : va_P D vwCl ((wX6_0_2_4_5_6_7_8_9_10_13_14_15_16_17_18 cy ad xp xt xs sf xn a_rp a_rgs a_sv a_co a_ro a_le a_lst a_mu a_ba a_osz a_nx a_tl a_pe a_en a_pa)) s.heap := hP
  have hD : va_D A ((wX6_0_2_4_5_6_7_8_9_10_13_14_15_16_17_18 cy ad xp xt xs sf xn a_rp a_rgs a_sv a_co a_ro a_le a_lst a_mu a_ba a_osz a_nx a_tl a_pe a_en a_pa)) := hD
  suffices h00 : ∀ (H : Heap) (locs : List Loc), va_P D vwCl ((wX6_0_2_4_5_6_7_8_9_10_13_14_15_16_17_18 cy ad xp xt xs sf xn a_rp a_rgs a_sv a_co a_ro a_le a_lst a_mu a_ba a_osz a_nx a_tl a_pe a_en a_pa)) H → va_S A s.heap H locs → W p l e RMX6_step s m args below meth c H locs 0 0 QQ (F0 m 0 ls []) from h00 _ _ hP hS
  clear hP hS
  intro H locs hP hS
  unfold FX6_step at hf
  refine lv_iload_n hx hb dX6_step_0 rfl (lv_at hl 1 rfl) ?_
  replace hf := ob_e hf
  obtain ⟨u_1, hu_1, hf⟩ := hf
  refine isR (As := [.int x1]) (rest := []) (st1 := [.int (bi u_1)]) ⟨hx, hb, hml, hown, hts⟩ hK hN (KX6_isPlace l D cy x1 H.size hu_1) (va_cwS 1 hts gX6_step_X6_isPlace rfl rfl rfl (by decide +kernel) ⟨Nat.le_of_ble_eq_true rfl, Nat.le_of_ble_eq_true rfl⟩) P_nil rfl hl.1 rfl (Nat.le_of_ble_eq_true rfl) rfl dX6_step_1 ⟨Nat.zero_le _, Nat.zero_le _⟩ ?_
  refine lv_if_eq (tgt := 25) hx hb dX6_step_4 (by decide) (fun c_4 => ?_) (fun c_4 => ?_)
  · replace hf := it_p c_4 hf
    refine lv_ldc (own := RX6) (v := (-1000001)) hx hb hown hw_0 dX6_step_25 ?_
    obtain rfl := Option.some.inj hf
    rw [← hQe]
    exact W.iret (v := (-1000001)) hx hb hr (fun t ht hW => ⟨rfl, by rw [ht]; exact hP, hS.F ht⟩) hS.2.2 dX6_step_27
  · replace hf := it_n c_4 hf
    refine lv_aload_n hx hb dX6_step_7 rfl (lv_at hl 0 rfl) ?_
    refine lv_iload_n hx hb dX6_step_8 rfl (lv_at hl 2 rfl) ?_
    replace hf := ob_e hf
    obtain ⟨u_9, hu_9, hf⟩ := hf
    refine ivR (As := [.int x2]) (rest := []) (st1 := [.int (bi u_9)]) ⟨hx, hb, hml, hown, hts⟩ hK hN (KX6_isPoint l D cy ad xp xt xs x2 H.size hu_9) (cwV 1 hts gX6_step_X6_isPoint rfl rfl rfl (by decide +kernel) ⟨Nat.le_of_ble_eq_true rfl, Nat.le_of_ble_eq_true rfl⟩) (va_recv hK hP (ci := 6) (q0 := 0) rfl rfl) (P_pl (wc := (wX6_0 cy ad xp xt xs)) (is := [0]) hP rfl) rfl hl.1 rfl (Nat.le_of_ble_eq_true rfl) rfl dX6_step_9 ⟨Nat.zero_le _, Nat.zero_le _⟩ ?_
    refine lv_if_eq (tgt := 25) hx hb dX6_step_12 (by decide) (fun c_12 => ?_) (fun c_12 => ?_)
    · replace hf := it_p c_12 hf
      refine lv_ldc (own := RX6) (v := (-1000001)) hx hb hown hw_0 dX6_step_25 ?_
      obtain rfl := Option.some.inj hf
      rw [← hQe]
      exact W.iret (v := (-1000001)) hx hb hr (fun t ht hW => ⟨rfl, by rw [ht]; exact hP, hS.F ht⟩) hS.2.2 dX6_step_27
    · replace hf := it_n c_12 hf
      refine lv_iload_n hx hb dX6_step_15 rfl (lv_at hl 3 rfl) ?_
      refine lv_if_lt (tgt := 25) hx hb dX6_step_16 (by decide) (fun c_16 => ?_) (fun c_16 => ?_)
      · replace hf := it_p c_16 hf
        refine lv_ldc (own := RX6) (v := (-1000001)) hx hb hown hw_0 dX6_step_25 ?_
        obtain rfl := Option.some.inj hf
        rw [← hQe]
        exact W.iret (v := (-1000001)) hx hb hr (fun t ht hW => ⟨rfl, by rw [ht]; exact hP, hS.F ht⟩) hS.2.2 dX6_step_27
      · replace hf := it_n c_16 hf
        refine lv_iload_n hx hb dX6_step_19 rfl (lv_at hl 3 rfl) ?_
        refine lv_ldc (own := RX6) (v := 1000000000) hx hb hown hw_1 dX6_step_20 ?_
        refine lv_icmp_le (tgt := 28) hx hb dX6_step_22 (by decide) (fun c_22 => ?_) (fun c_22 => ?_)
        · replace hf := it_p c_22 hf
          refine lv_aload_n hx hb dX6_step_28 rfl (lv_at hl 0 rfl) ?_
          refine va_get (a := (ad 0)) (ci := 6) (v := .ref (ad 2)) (C := RX6) (T := TX6) (N := 10) hx hb hts hin_X6 hown hK hP 0 rfl rfl 2 (by decide) hw_2 (fun _ h => h) rfl dX6_step_29 ?_
          refine lv_iload_n hx hb dX6_step_32 rfl (lv_at hl 1 rfl) ?_
          replace hf := gi_e hf
          obtain ⟨i_33, hf⟩ := hf
          refine va_aldq (a := (ad 2)) hx hb hK hP 1 4 rfl rfl i_33 dX6_step_33 ?_
          refine top_q (fun o_33 e_33 => ?_)
          replace hf := bd_at e_33 hf
          clear e_33
          refine lv_Qastore (lv' := [(4, va_rf o_33), (0, .ref (ad 0)), (1, .int x1), (2, .int x2), (3, .int x3)]) hx hb dX6_step_34 hl (by decide) rfl (fun ls hl => ?_)
          refine lv_Qaload hx hb dX6_step_36 (lv_at hl 0 rfl) ?_
          replace hf := oq_e hf
          rcases hf with ⟨rfl, hf⟩ | ⟨a_38, rfl, hf⟩
          · have hl : lv_has ls 5 [(4, .null), (0, .ref (ad 0)), (1, .int x1), (2, .int x2), (3, .int x3)] := hl
            refine lv_ifnonnullN hx hb dX6_step_38 ?_
            refine lv_aload_n hx hb dX6_step_41 rfl (lv_at hl 1 rfl) ?_
            refine lv_iconst (v := 1) hx hb dX6_step_42 (by decide) ?_
            replace hf := ob_e hf
            obtain ⟨u_43, hu_43, hf⟩ := hf
            refine ivW (As := [.int 1]) (rest := []) (st1 := [.int u_43.1]) (is := [0]) (w1 := (wX6_0 cy ad xp xt u_43.2)) ⟨hx, hb, hml, hown, hts⟩ hK hN (KX6_found l D cy ad xp xt xs 1 H.size hu_43) (cwV 1 hts gX6_step_X6_found rfl rfl rfl (by decide +kernel) ⟨Nat.le_of_ble_eq_true rfl, Nat.le_of_ble_eq_true rfl⟩) (va_recv hK hP (ci := 6) (q0 := 0) rfl rfl) hP hD hS hA P_nil (sepW_nil _) (by decide) rfl rfl rfl hl.1 rfl (Nat.le_of_ble_eq_true rfl) rfl dX6_step_43 ⟨Nat.zero_le _, Nat.zero_le _⟩ (fun H locs hP hD hS => ?_)
            have hP : va_P D vwCl ((wX6_0_2_4_5_6_7_8_9_10_13_14_15_16_17_18 cy ad xp xt u_43.2 sf xn a_rp a_rgs a_sv a_co a_ro a_le a_lst a_mu a_ba a_osz a_nx a_tl a_pe a_en a_pa)) H := hP
            have hD : va_D A ((wX6_0_2_4_5_6_7_8_9_10_13_14_15_16_17_18 cy ad xp xt u_43.2 sf xn a_rp a_rgs a_sv a_co a_ro a_le a_lst a_mu a_ba a_osz a_nx a_tl a_pe a_en a_pa)) := hD
            refine lv_goto (tgt := 67) hx hb dX6_step_46 (by decide) ?_
            obtain rfl := Option.some.inj hf
            rw [← hQe]
            exact W.iret (v := u_43.1) hx hb hr (fun t ht hW => ⟨rfl, by rw [ht]; exact hP, hS.F ht⟩) hS.2.2 dX6_step_67
          · replace hf := gd_e hf
            obtain ⟨m_a_38, hf⟩ := hf
            have hl : lv_has ls 5 [(4, .ref a_38), (0, .ref (ad 0)), (1, .int x1), (2, .int x2), (3, .int x3)] := hl
            refine lv_ifnonnull (tgt := 49) hx hb dX6_step_38 (by decide) ?_
            refine lv_aload_n hx hb dX6_step_49 rfl (lv_at hl 1 rfl) ?_
            refine lv_aload_n hx hb dX6_step_50 rfl (lv_at hl 1 rfl) ?_
            refine lv_aload hx hb dX6_step_51 (lv_at hl 0 rfl) ?_
            replace hf := ob_e hf
            obtain ⟨u_53, hu_53, hf⟩ := hf
            have hR := roN hR0 hnA hS
            have hQ_a_38 : va_P D vwCl (wX2_0_1 cy (adP pca a_38) 5 (ppp a_38) (pdg a_38) (ptd a_38) (pcc a_38)) H := P_two hR (sgP_1 m_a_38) (sgP_2 m_a_38)
            have hnQ_a_38 : ∀ (k : Nat) (q : Nat × va_E), (wX2_0_1 cy (adP pca a_38) 5 (ppp a_38) (pdg a_38) (ptd a_38) (pcc a_38))[k]? = some q → ¬ A q.1 := nA_two hnA (sgP_1 m_a_38) (sgP_2 m_a_38)
            refine ivW (As := [.ref a_38]) (rest := [.ref (ad 0)]) (st1 := [.ref (ad 4), .ref (ad 0)]) (is := [0, 2, 3, 4, 5, 6, 7, 8, 9, 10, 11, 12, 13, 14]) (w1 := (wX6_0_4_5_6_7_8_9_10_13_14_15_16_17_18 cy ad xp xt xs xn a_rp u_53.1 u_53.2.1 u_53.2.2.1 u_53.2.2.2.1 u_53.2.2.2.2.1 u_53.2.2.2.2.2.1 u_53.2.2.2.2.2.2.1 u_53.2.2.2.2.2.2.2.1 a_osz u_53.2.2.2.2.2.2.2.2.1 u_53.2.2.2.2.2.2.2.2.2.1 u_53.2.2.2.2.2.2.2.2.2.2.1 u_53.2.2.2.2.2.2.2.2.2.2.2.1 u_53.2.2.2.2.2.2.2.2.2.2.2.2)) ⟨hx, hb, hml, hown, hts⟩ hK hN (KX6_roadsOf l D cy ad (adP pca a_38) xp xt xs xn a_rp a_rgs a_sv a_co a_ro a_le a_lst a_mu a_ba a_osz a_nx a_tl a_pe a_en a_pa 5 (ppp a_38) (pdg a_38) (ptd a_38) (pcc a_38) H.size hu_53) (cwV 1 hts gX6_step_X6_roadsOf rfl rfl rfl (by decide +kernel) ⟨Nat.le_of_ble_eq_true rfl, Nat.le_of_ble_eq_true rfl⟩) (va_recv hK hP (ci := 6) (q0 := 0) rfl rfl) hP hD hS hA (P_pl (wc := (wX2_0_1 cy (adP pca a_38) 5 (ppp a_38) (pdg a_38) (ptd a_38) (pcc a_38))) (is := [0, 1]) hQ_a_38 rfl) (sep_nA (is := [0, 2, 3, 4, 5, 6, 7, 8, 9, 10, 11, 12, 13, 14]) (isR := [0, 1]) hnQ_a_38 hD rfl rfl) (by decide) rfl rfl rfl hl.1 rfl (Nat.le_of_ble_eq_true rfl) rfl dX6_step_53 ⟨Nat.zero_le _, Nat.zero_le _⟩ (fun H locs hP hD hS => ?_)
            have hP : va_P D vwCl ((wX6_0_2_4_5_6_7_8_9_10_13_14_15_16_17_18 cy ad xp xt xs sf xn a_rp u_53.1 u_53.2.1 u_53.2.2.1 u_53.2.2.2.1 u_53.2.2.2.2.1 u_53.2.2.2.2.2.1 u_53.2.2.2.2.2.2.1 u_53.2.2.2.2.2.2.2.1 a_osz u_53.2.2.2.2.2.2.2.2.1 u_53.2.2.2.2.2.2.2.2.2.1 u_53.2.2.2.2.2.2.2.2.2.2.1 u_53.2.2.2.2.2.2.2.2.2.2.2.1 u_53.2.2.2.2.2.2.2.2.2.2.2.2)) H := hP
            have hD : va_D A ((wX6_0_2_4_5_6_7_8_9_10_13_14_15_16_17_18 cy ad xp xt xs sf xn a_rp u_53.1 u_53.2.1 u_53.2.2.1 u_53.2.2.2.1 u_53.2.2.2.2.1 u_53.2.2.2.2.2.1 u_53.2.2.2.2.2.2.1 u_53.2.2.2.2.2.2.2.1 a_osz u_53.2.2.2.2.2.2.2.2.1 u_53.2.2.2.2.2.2.2.2.2.1 u_53.2.2.2.2.2.2.2.2.2.2.1 u_53.2.2.2.2.2.2.2.2.2.2.2.1 u_53.2.2.2.2.2.2.2.2.2.2.2.2)) := hD
            refine va_get (a := (ad 4)) (ci := 3) (v := .ref (ad 13)) (C := RX3) (T := TX3) (N := 12) hx hb hts hin_X3 hown hK hP 2 rfl rfl 1 (by decide) hw_3 (fun _ h => h) rfl dX6_step_56 ?_
            refine lv_iload_n hx hb dX6_step_59 rfl (lv_at hl 3 rfl) ?_
            refine lv_iload_n hx hb dX6_step_60 rfl (lv_at hl 4 rfl) ?_
            replace hf := ob_e hf
            obtain ⟨u_61, hu_61, hf⟩ := hf
            refine ivR (As := [.int x2, .int x3]) (rest := [.ref (ad 0)]) (st1 := [.int u_61, .ref (ad 0)]) ⟨hx, hb, hml, hown, hts⟩ hK hN (KX1_after l D cy (fun i => ad (13 + i)) xn a_osz u_53.2.2.2.2.2.2.2.2.1 u_53.2.2.2.2.2.2.2.2.2.1 u_53.2.2.2.2.2.2.2.2.2.2.1 x2 x3 H.size hu_61) (cwV 2 hts gX6_step_X1_after rfl rfl rfl (by decide +kernel) ⟨Nat.le_of_ble_eq_true rfl, Nat.le_of_ble_eq_true rfl⟩) (va_recv hK hP (ci := 1) (q0 := 9) rfl rfl) (P_pl (wc := (wX1_0_1_2_3 cy (fun i => ad (13 + i)) xn a_osz u_53.2.2.2.2.2.2.2.2.1 u_53.2.2.2.2.2.2.2.2.2.1 u_53.2.2.2.2.2.2.2.2.2.2.1)) (is := [9, 10, 11, 12]) hP rfl) rfl hl.1 rfl (Nat.le_of_ble_eq_true rfl) rfl dX6_step_61 ⟨Nat.zero_le _, Nat.zero_le _⟩ ?_
            replace hf := ob_e hf
            obtain ⟨u_64, hu_64, hf⟩ := hf
            refine ivW (As := [.int u_61]) (rest := []) (st1 := [.int u_64.1]) (is := [0]) (w1 := (wX6_0 cy ad xp xt u_64.2)) ⟨hx, hb, hml, hown, hts⟩ hK hN (KX6_fine l D cy ad xp xt xs u_61 H.size hu_64) (cwV 1 hts gX6_step_X6_fine rfl rfl rfl (by decide +kernel) ⟨Nat.le_of_ble_eq_true rfl, Nat.le_of_ble_eq_true rfl⟩) (va_recv hK hP (ci := 6) (q0 := 0) rfl rfl) hP hD hS hA P_nil (sepW_nil _) (by decide) rfl rfl rfl hl.1 rfl (Nat.le_of_ble_eq_true rfl) rfl dX6_step_64 ⟨Nat.zero_le _, Nat.zero_le _⟩ (fun H locs hP hD hS => ?_)
            have hP : va_P D vwCl ((wX6_0_2_4_5_6_7_8_9_10_13_14_15_16_17_18 cy ad xp xt u_64.2 sf xn a_rp u_53.1 u_53.2.1 u_53.2.2.1 u_53.2.2.2.1 u_53.2.2.2.2.1 u_53.2.2.2.2.2.1 u_53.2.2.2.2.2.2.1 u_53.2.2.2.2.2.2.2.1 a_osz u_53.2.2.2.2.2.2.2.2.1 u_53.2.2.2.2.2.2.2.2.2.1 u_53.2.2.2.2.2.2.2.2.2.2.1 u_53.2.2.2.2.2.2.2.2.2.2.2.1 u_53.2.2.2.2.2.2.2.2.2.2.2.2)) H := hP
            have hD : va_D A ((wX6_0_2_4_5_6_7_8_9_10_13_14_15_16_17_18 cy ad xp xt u_64.2 sf xn a_rp u_53.1 u_53.2.1 u_53.2.2.1 u_53.2.2.2.1 u_53.2.2.2.2.1 u_53.2.2.2.2.2.1 u_53.2.2.2.2.2.2.1 u_53.2.2.2.2.2.2.2.1 a_osz u_53.2.2.2.2.2.2.2.2.1 u_53.2.2.2.2.2.2.2.2.2.1 u_53.2.2.2.2.2.2.2.2.2.2.1 u_53.2.2.2.2.2.2.2.2.2.2.2.1 u_53.2.2.2.2.2.2.2.2.2.2.2.2)) := hD
            obtain rfl := Option.some.inj hf
            rw [← hQe]
            exact W.iret (v := u_64.1) hx hb hr (fun t ht hW => ⟨rfl, by rw [ht]; exact hP, hS.F ht⟩) hS.2.2 dX6_step_67
        · replace hf := it_n c_22 hf
          refine lv_ldc (own := RX6) (v := (-1000001)) hx hb hown hw_0 dX6_step_25 ?_
          obtain rfl := Option.some.inj hf
          rw [← hQe]
          exact W.iret (v := (-1000001)) hx hb hr (fun t ht hW => ⟨rfl, by rw [ht]; exact hP, hS.F ht⟩) hS.2.2 dX6_step_27
def FX6_way  (xp : Int32) (xs : Int32) (sf : Nat → Option Nat) (xn : Nat) (a_rp : Int32) (a_rgs : Int32) (a_sv : Option Nat) (a_co : Nat → Int32) (a_ro : Nat → Int32) (a_le : Nat → Int32) (a_lst : Nat → Int32) (a_mu : Nat → Int32) (a_ba : Nat → Int32) (a_osz : Int32) (a_nx : Nat → Int32) (a_tl : Nat → Int32) (a_pe : Nat → Int32) (a_en : Nat → Int32) (a_pa : Nat → Int32) (PL : List Nat) (ppp : Nat → Int32) (pca : Nat → Nat) (pdg : Nat → Int32) (ptd : Nat → Int32) (pcc : Nat → Nat → Int32) (x1 : Int32) (x2 : Int32) (x3 : Int32) : Option (Int32 × (Int32) × (Int32) × (Option Nat) × (Nat → Int32) × (Nat → Int32) × (Nat → Int32) × (Nat → Int32) × (Nat → Int32) × (Nat → Int32) × (Nat → Int32) × (Nat → Int32) × (Nat → Int32) × (Nat → Int32) × (Nat → Int32)) := (ob (FX6_isPlace x1) (fun u_1 => if (bi u_1) = 0 then (some ((-1000001), xs, a_rgs, a_sv, a_co, a_ro, a_le, a_lst, a_mu, a_ba, a_nx, a_tl, a_pe, a_en, a_pa)) else (ob (FX6_isPoint xp x2) (fun u_9 => if (bi u_9) = 0 then (some ((-1000001), xs, a_rgs, a_sv, a_co, a_ro, a_le, a_lst, a_mu, a_ba, a_nx, a_tl, a_pe, a_en, a_pa)) else (if x3 < 0 then (some ((-1000001), xs, a_rgs, a_sv, a_co, a_ro, a_le, a_lst, a_mu, a_ba, a_nx, a_tl, a_pe, a_en, a_pa)) else (if x3 ≤ 3 then (gi x1 10 (bd (sf (Int32.toNatClampNeg x1)) (fun o_32 => oq o_32 ((ob (FX6_found 1) (fun u_42 => (some (u_42.1, u_42.2, a_rgs, a_sv, a_co, a_ro, a_le, a_lst, a_mu, a_ba, a_nx, a_tl, a_pe, a_en, a_pa))))) (fun a_37 => gd (a_37 ∈ PL) ((ob (FX6_roadsOf (adP pca a_37) xn a_rp a_rgs a_sv a_co a_ro a_le a_lst a_mu a_ba a_osz a_nx a_tl a_pe a_en a_pa 5 (ppp a_37) (pdg a_37) (pcc a_37)) (fun u_52 => ob (FX3_ofPoint xn u_52.2.2.1 u_52.2.2.2.1 u_52.2.2.2.2.2.2.2.2.2.1 u_52.2.2.2.2.2.2.2.2.2.2.1 x2 x3) (fun u_57 => ob (FX6_fine u_57) (fun u_60 => (some (u_60.1, u_60.2, u_52.1, u_52.2.1, u_52.2.2.1, u_52.2.2.2.1, u_52.2.2.2.2.1, u_52.2.2.2.2.2.1, u_52.2.2.2.2.2.2.1, u_52.2.2.2.2.2.2.2.1, u_52.2.2.2.2.2.2.2.2.1, u_52.2.2.2.2.2.2.2.2.2.1, u_52.2.2.2.2.2.2.2.2.2.2.1, u_52.2.2.2.2.2.2.2.2.2.2.2.1, u_52.2.2.2.2.2.2.2.2.2.2.2.2))))))))))) else (some ((-1000001), xs, a_rgs, a_sv, a_co, a_ro, a_le, a_lst, a_mu, a_ba, a_nx, a_tl, a_pe, a_en, a_pa))))))))
abbrev RMX6_way : Room := { frames := 6, cells := 0, slots := 0, locals := 137 }
set_option maxHeartbeats 4000000 in
set_option maxRecDepth 100000 in
theorem KX6_way (l : Launch) (D : va_G) (cy : Nat → ClassId) (ad : Nat → Nat) (xp : Int32) (xt : Int32) (xs : Int32) (sf : Nat → Option Nat) (xn : Nat) (a_rp : Int32) (a_rgs : Int32) (a_sv : Option Nat) (a_co : Nat → Int32) (a_ro : Nat → Int32) (a_le : Nat → Int32) (a_lst : Nat → Int32) (a_mu : Nat → Int32) (a_ba : Nat → Int32) (a_osz : Int32) (a_nx : Nat → Int32) (a_tl : Nat → Int32) (a_pe : Nat → Int32) (a_en : Nat → Int32) (a_pa : Nat → Int32) (PL : List Nat) (ppp : Nat → Int32) (pca : Nat → Nat) (pdg : Nat → Int32) (ptd : Nat → Int32) (pcc : Nat → Nat → Int32) (x1 : Int32) (x2 : Int32) (x3 : Int32) (sz : Nat) {out : Int32 × (Int32) × (Int32) × (Option Nat) × (Nat → Int32) × (Nat → Int32) × (Nat → Int32) × (Nat → Int32) × (Nat → Int32) × (Nat → Int32) × (Nat → Int32) × (Nat → Int32) × (Nat → Int32) × (Nat → Int32) × (Nat → Int32)} (hf : FX6_way xp xs sf xn a_rp a_rgs a_sv a_co a_ro a_le a_lst a_mu a_ba a_osz a_nx a_tl a_pe a_en a_pa PL ppp pca pdg ptd pcc x1 x2 x3 = some out) : Met l yX6_way wsX6_way RMX6_way (PW D cy [.ref (ad 0), .int x1, .int x2, .int x3] sz ((wX6_0_2_4_5_6_7_8_9_10_13_14_15_16_17_18 cy ad xp xt xs sf xn a_rp a_rgs a_sv a_co a_ro a_le a_lst a_mu a_ba a_osz a_nx a_tl a_pe a_en a_pa)) ((sgP cy PL ppp pca pdg ptd pcc))) (QW D (some (.int out.1)) ((wX6_0_2_4_5_6_7_8_9_10_13_14_15_16_17_18 cy ad xp xt out.2.1 sf xn a_rp out.2.2.1 out.2.2.2.1 out.2.2.2.2.1 out.2.2.2.2.2.1 out.2.2.2.2.2.2.1 out.2.2.2.2.2.2.2.1 out.2.2.2.2.2.2.2.2.1 out.2.2.2.2.2.2.2.2.2.1 a_osz out.2.2.2.2.2.2.2.2.2.2.1 out.2.2.2.2.2.2.2.2.2.2.2.1 out.2.2.2.2.2.2.2.2.2.2.2.2.1 out.2.2.2.2.2.2.2.2.2.2.2.2.2.1 out.2.2.2.2.2.2.2.2.2.2.2.2.2.2)) (va_A ((wX6_0_2_4_5_6_7_8_9_10_13_14_15_16_17_18 cy ad xp xt xs sf xn a_rp a_rgs a_sv a_co a_ro a_le a_lst a_mu a_ba a_osz a_nx a_tl a_pe a_en a_pa)) sz)) 0 0 (va_A ((wX6_0_2_4_5_6_7_8_9_10_13_14_15_16_17_18 cy ad xp xt xs sf xn a_rp a_rgs a_sv a_co a_ro a_le a_lst a_mu a_ba a_osz a_nx a_tl a_pe a_en a_pa)) sz) := by
  refine Met.ofW (cc := cX6_way) (maxL := 5) (ret := (some .int)) (by decide +kernel) rfl ?_
  intro p e s m args below meth c s₁ B hml hv
  obtain ⟨hav, hsz, hP, hR0, hK, hN, hD0, hsep⟩ := hv
  have hx := B.exec
  have hb := B.bytes
  have hr := B.returns
  have hts := atoms_spec (ws := wsX6_way) B.pre
  have hown : s.vm.findClass RX6 = some m.cls := findClass_of_methodNamed B.named
  have hlocks := B.notSynchronized
  subst hsz
  have hin_X6 : ∀ w ∈ u_ws RX6 TX6 10, w ∈ wsX6_way := by decide +kernel
  have hw_0 := hts (.constant RX6 68 (-1000001)) (by decide +kernel)
  have hw_1 := hts (.fieldLink RX6 25 "ReturnPoints" "shelf" "[LReturnPoints$Poly;") (by decide +kernel)
  have hD := hD0.self (sz := s.heap.size)
  have hnA := roA hsep hR0
  generalize hAe : va_A ((wX6_0_2_4_5_6_7_8_9_10_13_14_15_16_17_18 cy ad xp xt xs sf xn a_rp a_rgs a_sv a_co a_ro a_le a_lst a_mu a_ba a_osz a_nx a_tl a_pe a_en a_pa)) s.heap.size = A at hD hnA ⊢
  have hA : ∀ q : Nat, s.heap.size ≤ q → A q := fun q h => by rw [← hAe]; exact Or.inr h
  have hS : va_S A s.heap s.heap [] := va_S.rf
  obtain ⟨ls, hfr, hl⟩ := ent_ok (m := m) (n := 5) (l' := [(0, .ref (ad 0)), (1, .int x1), (2, .int x2), (3, .int x3)]) [.ref (ad 0), .int x1, .int x2, .int x3] hav (Nat.le_of_ble_eq_true rfl) rfl
  rw [hfr]
  generalize hQe : MQ below (QW D (some (.int out.1)) ((wX6_0_2_4_5_6_7_8_9_10_13_14_15_16_17_18 cy ad xp xt out.2.1 sf xn a_rp out.2.2.1 out.2.2.2.1 out.2.2.2.2.1 out.2.2.2.2.2.1 out.2.2.2.2.2.2.1 out.2.2.2.2.2.2.2.1 out.2.2.2.2.2.2.2.2.1 out.2.2.2.2.2.2.2.2.2.1 a_osz out.2.2.2.2.2.2.2.2.2.2.1 out.2.2.2.2.2.2.2.2.2.2.2.1 out.2.2.2.2.2.2.2.2.2.2.2.2.1 out.2.2.2.2.2.2.2.2.2.2.2.2.2.1 out.2.2.2.2.2.2.2.2.2.2.2.2.2.2)) A) args s 0 0 A = QQ
  change W p l e RMX6_way s m args below meth c s.heap [] 0 0 QQ (F0 m 0 ls [])
  have hP : va_P D vwCl ((wX6_0_2_4_5_6_7_8_9_10_13_14_15_16_17_18 cy ad xp xt xs sf xn a_rp a_rgs a_sv a_co a_ro a_le a_lst a_mu a_ba a_osz a_nx a_tl a_pe a_en a_pa)) s.heap := hP
  have hD : va_D A ((wX6_0_2_4_5_6_7_8_9_10_13_14_15_16_17_18 cy ad xp xt xs sf xn a_rp a_rgs a_sv a_co a_ro a_le a_lst a_mu a_ba a_osz a_nx a_tl a_pe a_en a_pa)) := hD
  suffices h00 : ∀ (H : Heap) (locs : List Loc), va_P D vwCl ((wX6_0_2_4_5_6_7_8_9_10_13_14_15_16_17_18 cy ad xp xt xs sf xn a_rp a_rgs a_sv a_co a_ro a_le a_lst a_mu a_ba a_osz a_nx a_tl a_pe a_en a_pa)) H → va_S A s.heap H locs → W p l e RMX6_way s m args below meth c H locs 0 0 QQ (F0 m 0 ls []) from h00 _ _ hP hS
  clear hP hS
  intro H locs hP hS
  unfold FX6_way at hf
  refine lv_iload_n hx hb dX6_way_0 rfl (lv_at hl 1 rfl) ?_
  replace hf := ob_e hf
  obtain ⟨u_1, hu_1, hf⟩ := hf
  refine isR (As := [.int x1]) (rest := []) (st1 := [.int (bi u_1)]) ⟨hx, hb, hml, hown, hts⟩ hK hN (KX6_isPlace l D cy x1 H.size hu_1) (va_cwS 1 hts gX6_way_X6_isPlace rfl rfl rfl (by decide +kernel) ⟨Nat.le_of_ble_eq_true rfl, Nat.le_of_ble_eq_true rfl⟩) P_nil rfl hl.1 rfl (Nat.le_of_ble_eq_true rfl) rfl dX6_way_1 ⟨Nat.zero_le _, Nat.zero_le _⟩ ?_
  refine lv_if_eq (tgt := 24) hx hb dX6_way_4 (by decide) (fun c_4 => ?_) (fun c_4 => ?_)
  · replace hf := it_p c_4 hf
    refine lv_ldc (own := RX6) (v := (-1000001)) hx hb hown hw_0 dX6_way_24 ?_
    obtain rfl := Option.some.inj hf
    rw [← hQe]
    exact W.iret (v := (-1000001)) hx hb hr (fun t ht hW => ⟨rfl, by rw [ht]; exact hP, hS.F ht⟩) hS.2.2 dX6_way_26
  · replace hf := it_n c_4 hf
    refine lv_aload_n hx hb dX6_way_7 rfl (lv_at hl 0 rfl) ?_
    refine lv_iload_n hx hb dX6_way_8 rfl (lv_at hl 2 rfl) ?_
    replace hf := ob_e hf
    obtain ⟨u_9, hu_9, hf⟩ := hf
    refine ivR (As := [.int x2]) (rest := []) (st1 := [.int (bi u_9)]) ⟨hx, hb, hml, hown, hts⟩ hK hN (KX6_isPoint l D cy ad xp xt xs x2 H.size hu_9) (cwV 1 hts gX6_way_X6_isPoint rfl rfl rfl (by decide +kernel) ⟨Nat.le_of_ble_eq_true rfl, Nat.le_of_ble_eq_true rfl⟩) (va_recv hK hP (ci := 6) (q0 := 0) rfl rfl) (P_pl (wc := (wX6_0 cy ad xp xt xs)) (is := [0]) hP rfl) rfl hl.1 rfl (Nat.le_of_ble_eq_true rfl) rfl dX6_way_9 ⟨Nat.zero_le _, Nat.zero_le _⟩ ?_
    refine lv_if_eq (tgt := 24) hx hb dX6_way_12 (by decide) (fun c_12 => ?_) (fun c_12 => ?_)
    · replace hf := it_p c_12 hf
      refine lv_ldc (own := RX6) (v := (-1000001)) hx hb hown hw_0 dX6_way_24 ?_
      obtain rfl := Option.some.inj hf
      rw [← hQe]
      exact W.iret (v := (-1000001)) hx hb hr (fun t ht hW => ⟨rfl, by rw [ht]; exact hP, hS.F ht⟩) hS.2.2 dX6_way_26
    · replace hf := it_n c_12 hf
      refine lv_iload_n hx hb dX6_way_15 rfl (lv_at hl 3 rfl) ?_
      refine lv_if_lt (tgt := 24) hx hb dX6_way_16 (by decide) (fun c_16 => ?_) (fun c_16 => ?_)
      · replace hf := it_p c_16 hf
        refine lv_ldc (own := RX6) (v := (-1000001)) hx hb hown hw_0 dX6_way_24 ?_
        obtain rfl := Option.some.inj hf
        rw [← hQe]
        exact W.iret (v := (-1000001)) hx hb hr (fun t ht hW => ⟨rfl, by rw [ht]; exact hP, hS.F ht⟩) hS.2.2 dX6_way_26
      · replace hf := it_n c_16 hf
        refine lv_iload_n hx hb dX6_way_19 rfl (lv_at hl 3 rfl) ?_
        refine lv_iconst (v := 3) hx hb dX6_way_20 (by decide) ?_
        refine lv_icmp_le (tgt := 27) hx hb dX6_way_21 (by decide) (fun c_21 => ?_) (fun c_21 => ?_)
        · replace hf := it_p c_21 hf
          refine lv_aload_n hx hb dX6_way_27 rfl (lv_at hl 0 rfl) ?_
          refine va_get (a := (ad 0)) (ci := 6) (v := .ref (ad 2)) (C := RX6) (T := TX6) (N := 10) hx hb hts hin_X6 hown hK hP 0 rfl rfl 2 (by decide) hw_1 (fun _ h => h) rfl dX6_way_28 ?_
          refine lv_iload_n hx hb dX6_way_31 rfl (lv_at hl 1 rfl) ?_
          replace hf := gi_e hf
          obtain ⟨i_32, hf⟩ := hf
          refine va_aldq (a := (ad 2)) hx hb hK hP 1 4 rfl rfl i_32 dX6_way_32 ?_
          refine top_q (fun o_32 e_32 => ?_)
          replace hf := bd_at e_32 hf
          clear e_32
          refine lv_Qastore (lv' := [(4, va_rf o_32), (0, .ref (ad 0)), (1, .int x1), (2, .int x2), (3, .int x3)]) hx hb dX6_way_33 hl (by decide) rfl (fun ls hl => ?_)
          refine lv_Qaload hx hb dX6_way_35 (lv_at hl 0 rfl) ?_
          replace hf := oq_e hf
          rcases hf with ⟨rfl, hf⟩ | ⟨a_37, rfl, hf⟩
          · have hl : lv_has ls 5 [(4, .null), (0, .ref (ad 0)), (1, .int x1), (2, .int x2), (3, .int x3)] := hl
            refine lv_ifnonnullN hx hb dX6_way_37 ?_
            refine lv_aload_n hx hb dX6_way_40 rfl (lv_at hl 1 rfl) ?_
            refine lv_iconst (v := 1) hx hb dX6_way_41 (by decide) ?_
            replace hf := ob_e hf
            obtain ⟨u_42, hu_42, hf⟩ := hf
            refine ivW (As := [.int 1]) (rest := []) (st1 := [.int u_42.1]) (is := [0]) (w1 := (wX6_0 cy ad xp xt u_42.2)) ⟨hx, hb, hml, hown, hts⟩ hK hN (KX6_found l D cy ad xp xt xs 1 H.size hu_42) (cwV 1 hts gX6_way_X6_found rfl rfl rfl (by decide +kernel) ⟨Nat.le_of_ble_eq_true rfl, Nat.le_of_ble_eq_true rfl⟩) (va_recv hK hP (ci := 6) (q0 := 0) rfl rfl) hP hD hS hA P_nil (sepW_nil _) (by decide) rfl rfl rfl hl.1 rfl (Nat.le_of_ble_eq_true rfl) rfl dX6_way_42 ⟨Nat.zero_le _, Nat.zero_le _⟩ (fun H locs hP hD hS => ?_)
            have hP : va_P D vwCl ((wX6_0_2_4_5_6_7_8_9_10_13_14_15_16_17_18 cy ad xp xt u_42.2 sf xn a_rp a_rgs a_sv a_co a_ro a_le a_lst a_mu a_ba a_osz a_nx a_tl a_pe a_en a_pa)) H := hP
            have hD : va_D A ((wX6_0_2_4_5_6_7_8_9_10_13_14_15_16_17_18 cy ad xp xt u_42.2 sf xn a_rp a_rgs a_sv a_co a_ro a_le a_lst a_mu a_ba a_osz a_nx a_tl a_pe a_en a_pa)) := hD
            refine lv_goto (tgt := 63) hx hb dX6_way_45 (by decide) ?_
            obtain rfl := Option.some.inj hf
            rw [← hQe]
            exact W.iret (v := u_42.1) hx hb hr (fun t ht hW => ⟨rfl, by rw [ht]; exact hP, hS.F ht⟩) hS.2.2 dX6_way_63
          · replace hf := gd_e hf
            obtain ⟨m_a_37, hf⟩ := hf
            have hl : lv_has ls 5 [(4, .ref a_37), (0, .ref (ad 0)), (1, .int x1), (2, .int x2), (3, .int x3)] := hl
            refine lv_ifnonnull (tgt := 48) hx hb dX6_way_37 (by decide) ?_
            refine lv_aload_n hx hb dX6_way_48 rfl (lv_at hl 1 rfl) ?_
            refine lv_aload_n hx hb dX6_way_49 rfl (lv_at hl 1 rfl) ?_
            refine lv_aload hx hb dX6_way_50 (lv_at hl 0 rfl) ?_
            replace hf := ob_e hf
            obtain ⟨u_52, hu_52, hf⟩ := hf
            have hR := roN hR0 hnA hS
            have hQ_a_37 : va_P D vwCl (wX2_0_1 cy (adP pca a_37) 5 (ppp a_37) (pdg a_37) (ptd a_37) (pcc a_37)) H := P_two hR (sgP_1 m_a_37) (sgP_2 m_a_37)
            have hnQ_a_37 : ∀ (k : Nat) (q : Nat × va_E), (wX2_0_1 cy (adP pca a_37) 5 (ppp a_37) (pdg a_37) (ptd a_37) (pcc a_37))[k]? = some q → ¬ A q.1 := nA_two hnA (sgP_1 m_a_37) (sgP_2 m_a_37)
            refine ivW (As := [.ref a_37]) (rest := [.ref (ad 0)]) (st1 := [.ref (ad 4), .ref (ad 0)]) (is := [0, 2, 3, 4, 5, 6, 7, 8, 9, 10, 11, 12, 13, 14]) (w1 := (wX6_0_4_5_6_7_8_9_10_13_14_15_16_17_18 cy ad xp xt xs xn a_rp u_52.1 u_52.2.1 u_52.2.2.1 u_52.2.2.2.1 u_52.2.2.2.2.1 u_52.2.2.2.2.2.1 u_52.2.2.2.2.2.2.1 u_52.2.2.2.2.2.2.2.1 a_osz u_52.2.2.2.2.2.2.2.2.1 u_52.2.2.2.2.2.2.2.2.2.1 u_52.2.2.2.2.2.2.2.2.2.2.1 u_52.2.2.2.2.2.2.2.2.2.2.2.1 u_52.2.2.2.2.2.2.2.2.2.2.2.2)) ⟨hx, hb, hml, hown, hts⟩ hK hN (KX6_roadsOf l D cy ad (adP pca a_37) xp xt xs xn a_rp a_rgs a_sv a_co a_ro a_le a_lst a_mu a_ba a_osz a_nx a_tl a_pe a_en a_pa 5 (ppp a_37) (pdg a_37) (ptd a_37) (pcc a_37) H.size hu_52) (cwV 1 hts gX6_way_X6_roadsOf rfl rfl rfl (by decide +kernel) ⟨Nat.le_of_ble_eq_true rfl, Nat.le_of_ble_eq_true rfl⟩) (va_recv hK hP (ci := 6) (q0 := 0) rfl rfl) hP hD hS hA (P_pl (wc := (wX2_0_1 cy (adP pca a_37) 5 (ppp a_37) (pdg a_37) (ptd a_37) (pcc a_37))) (is := [0, 1]) hQ_a_37 rfl) (sep_nA (is := [0, 2, 3, 4, 5, 6, 7, 8, 9, 10, 11, 12, 13, 14]) (isR := [0, 1]) hnQ_a_37 hD rfl rfl) (by decide) rfl rfl rfl hl.1 rfl (Nat.le_of_ble_eq_true rfl) rfl dX6_way_52 ⟨Nat.zero_le _, Nat.zero_le _⟩ (fun H locs hP hD hS => ?_)
            have hP : va_P D vwCl ((wX6_0_2_4_5_6_7_8_9_10_13_14_15_16_17_18 cy ad xp xt xs sf xn a_rp u_52.1 u_52.2.1 u_52.2.2.1 u_52.2.2.2.1 u_52.2.2.2.2.1 u_52.2.2.2.2.2.1 u_52.2.2.2.2.2.2.1 u_52.2.2.2.2.2.2.2.1 a_osz u_52.2.2.2.2.2.2.2.2.1 u_52.2.2.2.2.2.2.2.2.2.1 u_52.2.2.2.2.2.2.2.2.2.2.1 u_52.2.2.2.2.2.2.2.2.2.2.2.1 u_52.2.2.2.2.2.2.2.2.2.2.2.2)) H := hP
            have hD : va_D A ((wX6_0_2_4_5_6_7_8_9_10_13_14_15_16_17_18 cy ad xp xt xs sf xn a_rp u_52.1 u_52.2.1 u_52.2.2.1 u_52.2.2.2.1 u_52.2.2.2.2.1 u_52.2.2.2.2.2.1 u_52.2.2.2.2.2.2.1 u_52.2.2.2.2.2.2.2.1 a_osz u_52.2.2.2.2.2.2.2.2.1 u_52.2.2.2.2.2.2.2.2.2.1 u_52.2.2.2.2.2.2.2.2.2.2.1 u_52.2.2.2.2.2.2.2.2.2.2.2.1 u_52.2.2.2.2.2.2.2.2.2.2.2.2)) := hD
            refine lv_iload_n hx hb dX6_way_55 rfl (lv_at hl 3 rfl) ?_
            refine lv_iload_n hx hb dX6_way_56 rfl (lv_at hl 4 rfl) ?_
            replace hf := ob_e hf
            obtain ⟨u_57, hu_57, hf⟩ := hf
            refine ivR (As := [.int x2, .int x3]) (rest := [.ref (ad 0)]) (st1 := [.int u_57, .ref (ad 0)]) ⟨hx, hb, hml, hown, hts⟩ hK hN (KX3_ofPoint l D cy (fun i => ad (4 + i)) xn a_rp u_52.1 u_52.2.1 u_52.2.2.1 u_52.2.2.2.1 a_osz u_52.2.2.2.2.2.2.2.2.2.1 u_52.2.2.2.2.2.2.2.2.2.2.1 x2 x3 H.size hu_57) (cwV 2 hts gX6_way_X3_ofPoint rfl rfl rfl (by decide +kernel) ⟨Nat.le_of_ble_eq_true rfl, Nat.le_of_ble_eq_true rfl⟩) (va_recv hK hP (ci := 3) (q0 := 2) rfl rfl) (P_pl (wc := (wX3_0_1_2_9_11_12 cy (fun i => ad (4 + i)) xn a_rp u_52.1 u_52.2.1 u_52.2.2.1 u_52.2.2.2.1 a_osz u_52.2.2.2.2.2.2.2.2.2.1 u_52.2.2.2.2.2.2.2.2.2.2.1)) (is := [2, 3, 4, 9, 11, 12]) hP rfl) rfl hl.1 rfl (Nat.le_of_ble_eq_true rfl) rfl dX6_way_57 ⟨Nat.zero_le _, Nat.zero_le _⟩ ?_
            replace hf := ob_e hf
            obtain ⟨u_60, hu_60, hf⟩ := hf
            refine ivW (As := [.int u_57]) (rest := []) (st1 := [.int u_60.1]) (is := [0]) (w1 := (wX6_0 cy ad xp xt u_60.2)) ⟨hx, hb, hml, hown, hts⟩ hK hN (KX6_fine l D cy ad xp xt xs u_57 H.size hu_60) (cwV 1 hts gX6_way_X6_fine rfl rfl rfl (by decide +kernel) ⟨Nat.le_of_ble_eq_true rfl, Nat.le_of_ble_eq_true rfl⟩) (va_recv hK hP (ci := 6) (q0 := 0) rfl rfl) hP hD hS hA P_nil (sepW_nil _) (by decide) rfl rfl rfl hl.1 rfl (Nat.le_of_ble_eq_true rfl) rfl dX6_way_60 ⟨Nat.zero_le _, Nat.zero_le _⟩ (fun H locs hP hD hS => ?_)
            have hP : va_P D vwCl ((wX6_0_2_4_5_6_7_8_9_10_13_14_15_16_17_18 cy ad xp xt u_60.2 sf xn a_rp u_52.1 u_52.2.1 u_52.2.2.1 u_52.2.2.2.1 u_52.2.2.2.2.1 u_52.2.2.2.2.2.1 u_52.2.2.2.2.2.2.1 u_52.2.2.2.2.2.2.2.1 a_osz u_52.2.2.2.2.2.2.2.2.1 u_52.2.2.2.2.2.2.2.2.2.1 u_52.2.2.2.2.2.2.2.2.2.2.1 u_52.2.2.2.2.2.2.2.2.2.2.2.1 u_52.2.2.2.2.2.2.2.2.2.2.2.2)) H := hP
            have hD : va_D A ((wX6_0_2_4_5_6_7_8_9_10_13_14_15_16_17_18 cy ad xp xt u_60.2 sf xn a_rp u_52.1 u_52.2.1 u_52.2.2.1 u_52.2.2.2.1 u_52.2.2.2.2.1 u_52.2.2.2.2.2.1 u_52.2.2.2.2.2.2.1 u_52.2.2.2.2.2.2.2.1 a_osz u_52.2.2.2.2.2.2.2.2.1 u_52.2.2.2.2.2.2.2.2.2.1 u_52.2.2.2.2.2.2.2.2.2.2.1 u_52.2.2.2.2.2.2.2.2.2.2.2.1 u_52.2.2.2.2.2.2.2.2.2.2.2.2)) := hD
            obtain rfl := Option.some.inj hf
            rw [← hQe]
            exact W.iret (v := u_60.1) hx hb hr (fun t ht hW => ⟨rfl, by rw [ht]; exact hP, hS.F ht⟩) hS.2.2 dX6_way_63
        · replace hf := it_n c_21 hf
          refine lv_ldc (own := RX6) (v := (-1000001)) hx hb hown hw_0 dX6_way_24 ?_
          obtain rfl := Option.some.inj hf
          rw [← hQe]
          exact W.iret (v := (-1000001)) hx hb hr (fun t ht hW => ⟨rfl, by rw [ht]; exact hP, hS.F ht⟩) hS.2.2 dX6_way_26
def FX6_ring  (xs : Int32) (sf : Nat → Option Nat) (xn : Nat) (a_rp : Int32) (a_rgs : Int32) (a_sv : Option Nat) (a_co : Nat → Int32) (a_ro : Nat → Int32) (a_le : Nat → Int32) (a_lst : Nat → Int32) (a_mu : Nat → Int32) (a_ba : Nat → Int32) (a_osz : Int32) (a_nx : Nat → Int32) (a_tl : Nat → Int32) (a_pe : Nat → Int32) (a_en : Nat → Int32) (a_pa : Nat → Int32) (PL : List Nat) (ppp : Nat → Int32) (pca : Nat → Nat) (pdg : Nat → Int32) (ptd : Nat → Int32) (pcc : Nat → Nat → Int32) (x1 : Int32) (x2 : Int32) (x3 : Int32) : Option (Int32 × (Int32) × (Int32) × (Option Nat) × (Nat → Int32) × (Nat → Int32) × (Nat → Int32) × (Nat → Int32) × (Nat → Int32) × (Nat → Int32) × (Nat → Int32) × (Nat → Int32) × (Nat → Int32) × (Nat → Int32) × (Nat → Int32)) := (ob (FX6_isPlace x1) (fun u_1 => if (bi u_1) = 0 then (some ((-1000001), xs, a_rgs, a_sv, a_co, a_ro, a_le, a_lst, a_mu, a_ba, a_nx, a_tl, a_pe, a_en, a_pa)) else (if x3 < 0 then (some ((-1000001), xs, a_rgs, a_sv, a_co, a_ro, a_le, a_lst, a_mu, a_ba, a_nx, a_tl, a_pe, a_en, a_pa)) else (if x3 ≤ 3 then (gi x1 10 (bd (sf (Int32.toNatClampNeg x1)) (fun o_24 => oq o_24 ((ob (FX6_found 1) (fun u_34 => (some (u_34.1, u_34.2, a_rgs, a_sv, a_co, a_ro, a_le, a_lst, a_mu, a_ba, a_nx, a_tl, a_pe, a_en, a_pa))))) (fun a_29 => gd (a_29 ∈ PL) ((ob (FX6_roadsOf (adP pca a_29) xn a_rp a_rgs a_sv a_co a_ro a_le a_lst a_mu a_ba a_osz a_nx a_tl a_pe a_en a_pa 5 (ppp a_29) (pdg a_29) (pcc a_29)) (fun u_44 => ob (FX3_ofRing xn u_44.1 u_44.2.2.2.2.1 u_44.2.2.2.2.2.1 u_44.2.2.2.2.2.2.1 u_44.2.2.2.2.2.2.2.1 x2 x3) (fun u_49 => ob (FX6_fine u_49) (fun u_52 => (some (u_52.1, u_52.2, u_44.1, u_44.2.1, u_44.2.2.1, u_44.2.2.2.1, u_44.2.2.2.2.1, u_44.2.2.2.2.2.1, u_44.2.2.2.2.2.2.1, u_44.2.2.2.2.2.2.2.1, u_44.2.2.2.2.2.2.2.2.1, u_44.2.2.2.2.2.2.2.2.2.1, u_44.2.2.2.2.2.2.2.2.2.2.1, u_44.2.2.2.2.2.2.2.2.2.2.2.1, u_44.2.2.2.2.2.2.2.2.2.2.2.2))))))))))) else (some ((-1000001), xs, a_rgs, a_sv, a_co, a_ro, a_le, a_lst, a_mu, a_ba, a_nx, a_tl, a_pe, a_en, a_pa))))))
abbrev RMX6_ring : Room := { frames := 6, cells := 0, slots := 0, locals := 137 }
set_option maxHeartbeats 4000000 in
set_option maxRecDepth 100000 in
theorem KX6_ring (l : Launch) (D : va_G) (cy : Nat → ClassId) (ad : Nat → Nat) (xp : Int32) (xt : Int32) (xs : Int32) (sf : Nat → Option Nat) (xn : Nat) (a_rp : Int32) (a_rgs : Int32) (a_sv : Option Nat) (a_co : Nat → Int32) (a_ro : Nat → Int32) (a_le : Nat → Int32) (a_lst : Nat → Int32) (a_mu : Nat → Int32) (a_ba : Nat → Int32) (a_osz : Int32) (a_nx : Nat → Int32) (a_tl : Nat → Int32) (a_pe : Nat → Int32) (a_en : Nat → Int32) (a_pa : Nat → Int32) (PL : List Nat) (ppp : Nat → Int32) (pca : Nat → Nat) (pdg : Nat → Int32) (ptd : Nat → Int32) (pcc : Nat → Nat → Int32) (x1 : Int32) (x2 : Int32) (x3 : Int32) (sz : Nat) {out : Int32 × (Int32) × (Int32) × (Option Nat) × (Nat → Int32) × (Nat → Int32) × (Nat → Int32) × (Nat → Int32) × (Nat → Int32) × (Nat → Int32) × (Nat → Int32) × (Nat → Int32) × (Nat → Int32) × (Nat → Int32) × (Nat → Int32)} (hf : FX6_ring xs sf xn a_rp a_rgs a_sv a_co a_ro a_le a_lst a_mu a_ba a_osz a_nx a_tl a_pe a_en a_pa PL ppp pca pdg ptd pcc x1 x2 x3 = some out) : Met l yX6_ring wsX6_ring RMX6_ring (PW D cy [.ref (ad 0), .int x1, .int x2, .int x3] sz ((wX6_0_2_4_5_6_7_8_9_10_13_14_15_16_17_18 cy ad xp xt xs sf xn a_rp a_rgs a_sv a_co a_ro a_le a_lst a_mu a_ba a_osz a_nx a_tl a_pe a_en a_pa)) ((sgP cy PL ppp pca pdg ptd pcc))) (QW D (some (.int out.1)) ((wX6_0_2_4_5_6_7_8_9_10_13_14_15_16_17_18 cy ad xp xt out.2.1 sf xn a_rp out.2.2.1 out.2.2.2.1 out.2.2.2.2.1 out.2.2.2.2.2.1 out.2.2.2.2.2.2.1 out.2.2.2.2.2.2.2.1 out.2.2.2.2.2.2.2.2.1 out.2.2.2.2.2.2.2.2.2.1 a_osz out.2.2.2.2.2.2.2.2.2.2.1 out.2.2.2.2.2.2.2.2.2.2.2.1 out.2.2.2.2.2.2.2.2.2.2.2.2.1 out.2.2.2.2.2.2.2.2.2.2.2.2.2.1 out.2.2.2.2.2.2.2.2.2.2.2.2.2.2)) (va_A ((wX6_0_2_4_5_6_7_8_9_10_13_14_15_16_17_18 cy ad xp xt xs sf xn a_rp a_rgs a_sv a_co a_ro a_le a_lst a_mu a_ba a_osz a_nx a_tl a_pe a_en a_pa)) sz)) 0 0 (va_A ((wX6_0_2_4_5_6_7_8_9_10_13_14_15_16_17_18 cy ad xp xt xs sf xn a_rp a_rgs a_sv a_co a_ro a_le a_lst a_mu a_ba a_osz a_nx a_tl a_pe a_en a_pa)) sz) := by
  refine Met.ofW (cc := cX6_ring) (maxL := 5) (ret := (some .int)) (by decide +kernel) rfl ?_
  intro p e s m args below meth c s₁ B hml hv
  obtain ⟨hav, hsz, hP, hR0, hK, hN, hD0, hsep⟩ := hv
  have hx := B.exec
  have hb := B.bytes
  have hr := B.returns
  have hts := atoms_spec (ws := wsX6_ring) B.pre
  have hown : s.vm.findClass RX6 = some m.cls := findClass_of_methodNamed B.named
  have hlocks := B.notSynchronized
  subst hsz
  have hin_X6 : ∀ w ∈ u_ws RX6 TX6 10, w ∈ wsX6_ring := by decide +kernel
  have hw_0 := hts (.constant RX6 68 (-1000001)) (by decide +kernel)
  have hw_1 := hts (.fieldLink RX6 25 "ReturnPoints" "shelf" "[LReturnPoints$Poly;") (by decide +kernel)
  have hD := hD0.self (sz := s.heap.size)
  have hnA := roA hsep hR0
  generalize hAe : va_A ((wX6_0_2_4_5_6_7_8_9_10_13_14_15_16_17_18 cy ad xp xt xs sf xn a_rp a_rgs a_sv a_co a_ro a_le a_lst a_mu a_ba a_osz a_nx a_tl a_pe a_en a_pa)) s.heap.size = A at hD hnA ⊢
  have hA : ∀ q : Nat, s.heap.size ≤ q → A q := fun q h => by rw [← hAe]; exact Or.inr h
  have hS : va_S A s.heap s.heap [] := va_S.rf
  obtain ⟨ls, hfr, hl⟩ := ent_ok (m := m) (n := 5) (l' := [(0, .ref (ad 0)), (1, .int x1), (2, .int x2), (3, .int x3)]) [.ref (ad 0), .int x1, .int x2, .int x3] hav (Nat.le_of_ble_eq_true rfl) rfl
  rw [hfr]
  generalize hQe : MQ below (QW D (some (.int out.1)) ((wX6_0_2_4_5_6_7_8_9_10_13_14_15_16_17_18 cy ad xp xt out.2.1 sf xn a_rp out.2.2.1 out.2.2.2.1 out.2.2.2.2.1 out.2.2.2.2.2.1 out.2.2.2.2.2.2.1 out.2.2.2.2.2.2.2.1 out.2.2.2.2.2.2.2.2.1 out.2.2.2.2.2.2.2.2.2.1 a_osz out.2.2.2.2.2.2.2.2.2.2.1 out.2.2.2.2.2.2.2.2.2.2.2.1 out.2.2.2.2.2.2.2.2.2.2.2.2.1 out.2.2.2.2.2.2.2.2.2.2.2.2.2.1 out.2.2.2.2.2.2.2.2.2.2.2.2.2.2)) A) args s 0 0 A = QQ
  change W p l e RMX6_ring s m args below meth c s.heap [] 0 0 QQ (F0 m 0 ls [])
  have hP : va_P D vwCl ((wX6_0_2_4_5_6_7_8_9_10_13_14_15_16_17_18 cy ad xp xt xs sf xn a_rp a_rgs a_sv a_co a_ro a_le a_lst a_mu a_ba a_osz a_nx a_tl a_pe a_en a_pa)) s.heap := hP
  have hD : va_D A ((wX6_0_2_4_5_6_7_8_9_10_13_14_15_16_17_18 cy ad xp xt xs sf xn a_rp a_rgs a_sv a_co a_ro a_le a_lst a_mu a_ba a_osz a_nx a_tl a_pe a_en a_pa)) := hD
  suffices h00 : ∀ (H : Heap) (locs : List Loc), va_P D vwCl ((wX6_0_2_4_5_6_7_8_9_10_13_14_15_16_17_18 cy ad xp xt xs sf xn a_rp a_rgs a_sv a_co a_ro a_le a_lst a_mu a_ba a_osz a_nx a_tl a_pe a_en a_pa)) H → va_S A s.heap H locs → W p l e RMX6_ring s m args below meth c H locs 0 0 QQ (F0 m 0 ls []) from h00 _ _ hP hS
  clear hP hS
  intro H locs hP hS
  unfold FX6_ring at hf
  refine lv_iload_n hx hb dX6_ring_0 rfl (lv_at hl 1 rfl) ?_
  replace hf := ob_e hf
  obtain ⟨u_1, hu_1, hf⟩ := hf
  refine isR (As := [.int x1]) (rest := []) (st1 := [.int (bi u_1)]) ⟨hx, hb, hml, hown, hts⟩ hK hN (KX6_isPlace l D cy x1 H.size hu_1) (va_cwS 1 hts gX6_ring_X6_isPlace rfl rfl rfl (by decide +kernel) ⟨Nat.le_of_ble_eq_true rfl, Nat.le_of_ble_eq_true rfl⟩) P_nil rfl hl.1 rfl (Nat.le_of_ble_eq_true rfl) rfl dX6_ring_1 ⟨Nat.zero_le _, Nat.zero_le _⟩ ?_
  refine lv_if_eq (tgt := 16) hx hb dX6_ring_4 (by decide) (fun c_4 => ?_) (fun c_4 => ?_)
  · replace hf := it_p c_4 hf
    refine lv_ldc (own := RX6) (v := (-1000001)) hx hb hown hw_0 dX6_ring_16 ?_
    obtain rfl := Option.some.inj hf
    rw [← hQe]
    exact W.iret (v := (-1000001)) hx hb hr (fun t ht hW => ⟨rfl, by rw [ht]; exact hP, hS.F ht⟩) hS.2.2 dX6_ring_18
  · replace hf := it_n c_4 hf
    refine lv_iload_n hx hb dX6_ring_7 rfl (lv_at hl 3 rfl) ?_
    refine lv_if_lt (tgt := 16) hx hb dX6_ring_8 (by decide) (fun c_8 => ?_) (fun c_8 => ?_)
    · replace hf := it_p c_8 hf
      refine lv_ldc (own := RX6) (v := (-1000001)) hx hb hown hw_0 dX6_ring_16 ?_
      obtain rfl := Option.some.inj hf
      rw [← hQe]
      exact W.iret (v := (-1000001)) hx hb hr (fun t ht hW => ⟨rfl, by rw [ht]; exact hP, hS.F ht⟩) hS.2.2 dX6_ring_18
    · replace hf := it_n c_8 hf
      refine lv_iload_n hx hb dX6_ring_11 rfl (lv_at hl 3 rfl) ?_
      refine lv_iconst (v := 3) hx hb dX6_ring_12 (by decide) ?_
      refine lv_icmp_le (tgt := 19) hx hb dX6_ring_13 (by decide) (fun c_13 => ?_) (fun c_13 => ?_)
      · replace hf := it_p c_13 hf
        refine lv_aload_n hx hb dX6_ring_19 rfl (lv_at hl 0 rfl) ?_
        refine va_get (a := (ad 0)) (ci := 6) (v := .ref (ad 2)) (C := RX6) (T := TX6) (N := 10) hx hb hts hin_X6 hown hK hP 0 rfl rfl 2 (by decide) hw_1 (fun _ h => h) rfl dX6_ring_20 ?_
        refine lv_iload_n hx hb dX6_ring_23 rfl (lv_at hl 1 rfl) ?_
        replace hf := gi_e hf
        obtain ⟨i_24, hf⟩ := hf
        refine va_aldq (a := (ad 2)) hx hb hK hP 1 4 rfl rfl i_24 dX6_ring_24 ?_
        refine top_q (fun o_24 e_24 => ?_)
        replace hf := bd_at e_24 hf
        clear e_24
        refine lv_Qastore (lv' := [(4, va_rf o_24), (0, .ref (ad 0)), (1, .int x1), (2, .int x2), (3, .int x3)]) hx hb dX6_ring_25 hl (by decide) rfl (fun ls hl => ?_)
        refine lv_Qaload hx hb dX6_ring_27 (lv_at hl 0 rfl) ?_
        replace hf := oq_e hf
        rcases hf with ⟨rfl, hf⟩ | ⟨a_29, rfl, hf⟩
        · have hl : lv_has ls 5 [(4, .null), (0, .ref (ad 0)), (1, .int x1), (2, .int x2), (3, .int x3)] := hl
          refine lv_ifnonnullN hx hb dX6_ring_29 ?_
          refine lv_aload_n hx hb dX6_ring_32 rfl (lv_at hl 1 rfl) ?_
          refine lv_iconst (v := 1) hx hb dX6_ring_33 (by decide) ?_
          replace hf := ob_e hf
          obtain ⟨u_34, hu_34, hf⟩ := hf
          refine ivW (As := [.int 1]) (rest := []) (st1 := [.int u_34.1]) (is := [0]) (w1 := (wX6_0 cy ad xp xt u_34.2)) ⟨hx, hb, hml, hown, hts⟩ hK hN (KX6_found l D cy ad xp xt xs 1 H.size hu_34) (cwV 1 hts gX6_ring_X6_found rfl rfl rfl (by decide +kernel) ⟨Nat.le_of_ble_eq_true rfl, Nat.le_of_ble_eq_true rfl⟩) (va_recv hK hP (ci := 6) (q0 := 0) rfl rfl) hP hD hS hA P_nil (sepW_nil _) (by decide) rfl rfl rfl hl.1 rfl (Nat.le_of_ble_eq_true rfl) rfl dX6_ring_34 ⟨Nat.zero_le _, Nat.zero_le _⟩ (fun H locs hP hD hS => ?_)
          have hP : va_P D vwCl ((wX6_0_2_4_5_6_7_8_9_10_13_14_15_16_17_18 cy ad xp xt u_34.2 sf xn a_rp a_rgs a_sv a_co a_ro a_le a_lst a_mu a_ba a_osz a_nx a_tl a_pe a_en a_pa)) H := hP
          have hD : va_D A ((wX6_0_2_4_5_6_7_8_9_10_13_14_15_16_17_18 cy ad xp xt u_34.2 sf xn a_rp a_rgs a_sv a_co a_ro a_le a_lst a_mu a_ba a_osz a_nx a_tl a_pe a_en a_pa)) := hD
          refine lv_goto (tgt := 55) hx hb dX6_ring_37 (by decide) ?_
          obtain rfl := Option.some.inj hf
          rw [← hQe]
          exact W.iret (v := u_34.1) hx hb hr (fun t ht hW => ⟨rfl, by rw [ht]; exact hP, hS.F ht⟩) hS.2.2 dX6_ring_55
        · replace hf := gd_e hf
          obtain ⟨m_a_29, hf⟩ := hf
          have hl : lv_has ls 5 [(4, .ref a_29), (0, .ref (ad 0)), (1, .int x1), (2, .int x2), (3, .int x3)] := hl
          refine lv_ifnonnull (tgt := 40) hx hb dX6_ring_29 (by decide) ?_
          refine lv_aload_n hx hb dX6_ring_40 rfl (lv_at hl 1 rfl) ?_
          refine lv_aload_n hx hb dX6_ring_41 rfl (lv_at hl 1 rfl) ?_
          refine lv_aload hx hb dX6_ring_42 (lv_at hl 0 rfl) ?_
          replace hf := ob_e hf
          obtain ⟨u_44, hu_44, hf⟩ := hf
          have hR := roN hR0 hnA hS
          have hQ_a_29 : va_P D vwCl (wX2_0_1 cy (adP pca a_29) 5 (ppp a_29) (pdg a_29) (ptd a_29) (pcc a_29)) H := P_two hR (sgP_1 m_a_29) (sgP_2 m_a_29)
          have hnQ_a_29 : ∀ (k : Nat) (q : Nat × va_E), (wX2_0_1 cy (adP pca a_29) 5 (ppp a_29) (pdg a_29) (ptd a_29) (pcc a_29))[k]? = some q → ¬ A q.1 := nA_two hnA (sgP_1 m_a_29) (sgP_2 m_a_29)
          refine ivW (As := [.ref a_29]) (rest := [.ref (ad 0)]) (st1 := [.ref (ad 4), .ref (ad 0)]) (is := [0, 2, 3, 4, 5, 6, 7, 8, 9, 10, 11, 12, 13, 14]) (w1 := (wX6_0_4_5_6_7_8_9_10_13_14_15_16_17_18 cy ad xp xt xs xn a_rp u_44.1 u_44.2.1 u_44.2.2.1 u_44.2.2.2.1 u_44.2.2.2.2.1 u_44.2.2.2.2.2.1 u_44.2.2.2.2.2.2.1 u_44.2.2.2.2.2.2.2.1 a_osz u_44.2.2.2.2.2.2.2.2.1 u_44.2.2.2.2.2.2.2.2.2.1 u_44.2.2.2.2.2.2.2.2.2.2.1 u_44.2.2.2.2.2.2.2.2.2.2.2.1 u_44.2.2.2.2.2.2.2.2.2.2.2.2)) ⟨hx, hb, hml, hown, hts⟩ hK hN (KX6_roadsOf l D cy ad (adP pca a_29) xp xt xs xn a_rp a_rgs a_sv a_co a_ro a_le a_lst a_mu a_ba a_osz a_nx a_tl a_pe a_en a_pa 5 (ppp a_29) (pdg a_29) (ptd a_29) (pcc a_29) H.size hu_44) (cwV 1 hts gX6_ring_X6_roadsOf rfl rfl rfl (by decide +kernel) ⟨Nat.le_of_ble_eq_true rfl, Nat.le_of_ble_eq_true rfl⟩) (va_recv hK hP (ci := 6) (q0 := 0) rfl rfl) hP hD hS hA (P_pl (wc := (wX2_0_1 cy (adP pca a_29) 5 (ppp a_29) (pdg a_29) (ptd a_29) (pcc a_29))) (is := [0, 1]) hQ_a_29 rfl) (sep_nA (is := [0, 2, 3, 4, 5, 6, 7, 8, 9, 10, 11, 12, 13, 14]) (isR := [0, 1]) hnQ_a_29 hD rfl rfl) (by decide) rfl rfl rfl hl.1 rfl (Nat.le_of_ble_eq_true rfl) rfl dX6_ring_44 ⟨Nat.zero_le _, Nat.zero_le _⟩ (fun H locs hP hD hS => ?_)
          have hP : va_P D vwCl ((wX6_0_2_4_5_6_7_8_9_10_13_14_15_16_17_18 cy ad xp xt xs sf xn a_rp u_44.1 u_44.2.1 u_44.2.2.1 u_44.2.2.2.1 u_44.2.2.2.2.1 u_44.2.2.2.2.2.1 u_44.2.2.2.2.2.2.1 u_44.2.2.2.2.2.2.2.1 a_osz u_44.2.2.2.2.2.2.2.2.1 u_44.2.2.2.2.2.2.2.2.2.1 u_44.2.2.2.2.2.2.2.2.2.2.1 u_44.2.2.2.2.2.2.2.2.2.2.2.1 u_44.2.2.2.2.2.2.2.2.2.2.2.2)) H := hP
          have hD : va_D A ((wX6_0_2_4_5_6_7_8_9_10_13_14_15_16_17_18 cy ad xp xt xs sf xn a_rp u_44.1 u_44.2.1 u_44.2.2.1 u_44.2.2.2.1 u_44.2.2.2.2.1 u_44.2.2.2.2.2.1 u_44.2.2.2.2.2.2.1 u_44.2.2.2.2.2.2.2.1 a_osz u_44.2.2.2.2.2.2.2.2.1 u_44.2.2.2.2.2.2.2.2.2.1 u_44.2.2.2.2.2.2.2.2.2.2.1 u_44.2.2.2.2.2.2.2.2.2.2.2.1 u_44.2.2.2.2.2.2.2.2.2.2.2.2)) := hD
          refine lv_iload_n hx hb dX6_ring_47 rfl (lv_at hl 3 rfl) ?_
          refine lv_iload_n hx hb dX6_ring_48 rfl (lv_at hl 4 rfl) ?_
          replace hf := ob_e hf
          obtain ⟨u_49, hu_49, hf⟩ := hf
          refine ivR (As := [.int x2, .int x3]) (rest := [.ref (ad 0)]) (st1 := [.int u_49, .ref (ad 0)]) ⟨hx, hb, hml, hown, hts⟩ hK hN (KX3_ofRing l D cy (fun i => ad (4 + i)) xn a_rp u_44.1 u_44.2.1 u_44.2.2.2.2.1 u_44.2.2.2.2.2.1 u_44.2.2.2.2.2.2.1 u_44.2.2.2.2.2.2.2.1 x2 x3 H.size hu_49) (cwV 2 hts gX6_ring_X3_ofRing rfl rfl rfl (by decide +kernel) ⟨Nat.le_of_ble_eq_true rfl, Nat.le_of_ble_eq_true rfl⟩) (va_recv hK hP (ci := 3) (q0 := 2) rfl rfl) (P_pl (wc := (wX3_0_3_4_5_6 cy (fun i => ad (4 + i)) xn a_rp u_44.1 u_44.2.1 u_44.2.2.2.2.1 u_44.2.2.2.2.2.1 u_44.2.2.2.2.2.2.1 u_44.2.2.2.2.2.2.2.1)) (is := [2, 5, 6, 7, 8]) hP rfl) rfl hl.1 rfl (Nat.le_of_ble_eq_true rfl) rfl dX6_ring_49 ⟨Nat.zero_le _, Nat.zero_le _⟩ ?_
          replace hf := ob_e hf
          obtain ⟨u_52, hu_52, hf⟩ := hf
          refine ivW (As := [.int u_49]) (rest := []) (st1 := [.int u_52.1]) (is := [0]) (w1 := (wX6_0 cy ad xp xt u_52.2)) ⟨hx, hb, hml, hown, hts⟩ hK hN (KX6_fine l D cy ad xp xt xs u_49 H.size hu_52) (cwV 1 hts gX6_ring_X6_fine rfl rfl rfl (by decide +kernel) ⟨Nat.le_of_ble_eq_true rfl, Nat.le_of_ble_eq_true rfl⟩) (va_recv hK hP (ci := 6) (q0 := 0) rfl rfl) hP hD hS hA P_nil (sepW_nil _) (by decide) rfl rfl rfl hl.1 rfl (Nat.le_of_ble_eq_true rfl) rfl dX6_ring_52 ⟨Nat.zero_le _, Nat.zero_le _⟩ (fun H locs hP hD hS => ?_)
          have hP : va_P D vwCl ((wX6_0_2_4_5_6_7_8_9_10_13_14_15_16_17_18 cy ad xp xt u_52.2 sf xn a_rp u_44.1 u_44.2.1 u_44.2.2.1 u_44.2.2.2.1 u_44.2.2.2.2.1 u_44.2.2.2.2.2.1 u_44.2.2.2.2.2.2.1 u_44.2.2.2.2.2.2.2.1 a_osz u_44.2.2.2.2.2.2.2.2.1 u_44.2.2.2.2.2.2.2.2.2.1 u_44.2.2.2.2.2.2.2.2.2.2.1 u_44.2.2.2.2.2.2.2.2.2.2.2.1 u_44.2.2.2.2.2.2.2.2.2.2.2.2)) H := hP
          have hD : va_D A ((wX6_0_2_4_5_6_7_8_9_10_13_14_15_16_17_18 cy ad xp xt u_52.2 sf xn a_rp u_44.1 u_44.2.1 u_44.2.2.1 u_44.2.2.2.1 u_44.2.2.2.2.1 u_44.2.2.2.2.2.1 u_44.2.2.2.2.2.2.1 u_44.2.2.2.2.2.2.2.1 a_osz u_44.2.2.2.2.2.2.2.2.1 u_44.2.2.2.2.2.2.2.2.2.1 u_44.2.2.2.2.2.2.2.2.2.2.1 u_44.2.2.2.2.2.2.2.2.2.2.2.1 u_44.2.2.2.2.2.2.2.2.2.2.2.2)) := hD
          obtain rfl := Option.some.inj hf
          rw [← hQe]
          exact W.iret (v := u_52.1) hx hb hr (fun t ht hW => ⟨rfl, by rw [ht]; exact hP, hS.F ht⟩) hS.2.2 dX6_ring_55
      · replace hf := it_n c_13 hf
        refine lv_ldc (own := RX6) (v := (-1000001)) hx hb hown hw_0 dX6_ring_16 ?_
        obtain rfl := Option.some.inj hf
        rw [← hQe]
        exact W.iret (v := (-1000001)) hx hb hr (fun t ht hW => ⟨rfl, by rw [ht]; exact hP, hS.F ht⟩) hS.2.2 dX6_ring_18
def FX6_all  (xs : Int32) (sf : Nat → Option Nat) (xn : Nat) (a_rp : Int32) (a_rgs : Int32) (a_sv : Option Nat) (a_co : Nat → Int32) (a_ro : Nat → Int32) (a_le : Nat → Int32) (a_lst : Nat → Int32) (a_mu : Nat → Int32) (a_ba : Nat → Int32) (a_osz : Int32) (a_nx : Nat → Int32) (a_tl : Nat → Int32) (a_pe : Nat → Int32) (a_en : Nat → Int32) (a_pa : Nat → Int32) (PL : List Nat) (ppp : Nat → Int32) (pca : Nat → Nat) (pdg : Nat → Int32) (ptd : Nat → Int32) (pcc : Nat → Nat → Int32) (x1 : Int32) (x2 : Int32) : Option (Int32 × (Int32) × (Int32) × (Option Nat) × (Nat → Int32) × (Nat → Int32) × (Nat → Int32) × (Nat → Int32) × (Nat → Int32) × (Nat → Int32) × (Nat → Int32) × (Nat → Int32) × (Nat → Int32) × (Nat → Int32) × (Nat → Int32)) := (ob (FX6_isPlace x1) (fun u_1 => if (bi u_1) = 0 then (some ((-1000001), xs, a_rgs, a_sv, a_co, a_ro, a_le, a_lst, a_mu, a_ba, a_nx, a_tl, a_pe, a_en, a_pa)) else (if x2 < 0 then (some ((-1000001), xs, a_rgs, a_sv, a_co, a_ro, a_le, a_lst, a_mu, a_ba, a_nx, a_tl, a_pe, a_en, a_pa)) else (if x2 ≤ 5 then (gi x1 10 (bd (sf (Int32.toNatClampNeg x1)) (fun o_24 => oq o_24 ((ob (FX6_found 1) (fun u_32 => (some (u_32.1, u_32.2, a_rgs, a_sv, a_co, a_ro, a_le, a_lst, a_mu, a_ba, a_nx, a_tl, a_pe, a_en, a_pa))))) (fun a_27 => gd (a_27 ∈ PL) ((ob (FX6_roadsOf (adP pca a_27) xn a_rp a_rgs a_sv a_co a_ro a_le a_lst a_mu a_ba a_osz a_nx a_tl a_pe a_en a_pa 5 (ppp a_27) (pdg a_27) (pcc a_27)) (fun u_41 => ob (FX3_ofAll xn a_rp u_41.1 u_41.2.2.1 u_41.2.2.2.2.1 u_41.2.2.2.2.2.2.1 u_41.2.2.2.2.2.2.2.2.2.1 x2) (fun u_45 => ob (FX6_fine u_45) (fun u_48 => (some (u_48.1, u_48.2, u_41.1, u_41.2.1, u_41.2.2.1, u_41.2.2.2.1, u_41.2.2.2.2.1, u_41.2.2.2.2.2.1, u_41.2.2.2.2.2.2.1, u_41.2.2.2.2.2.2.2.1, u_41.2.2.2.2.2.2.2.2.1, u_41.2.2.2.2.2.2.2.2.2.1, u_41.2.2.2.2.2.2.2.2.2.2.1, u_41.2.2.2.2.2.2.2.2.2.2.2.1, u_41.2.2.2.2.2.2.2.2.2.2.2.2))))))))))) else (some ((-1000001), xs, a_rgs, a_sv, a_co, a_ro, a_le, a_lst, a_mu, a_ba, a_nx, a_tl, a_pe, a_en, a_pa))))))
abbrev RMX6_all : Room := { frames := 6, cells := 0, slots := 0, locals := 137 }
set_option maxHeartbeats 4000000 in
set_option maxRecDepth 100000 in
theorem KX6_all (l : Launch) (D : va_G) (cy : Nat → ClassId) (ad : Nat → Nat) (xp : Int32) (xt : Int32) (xs : Int32) (sf : Nat → Option Nat) (xn : Nat) (a_rp : Int32) (a_rgs : Int32) (a_sv : Option Nat) (a_co : Nat → Int32) (a_ro : Nat → Int32) (a_le : Nat → Int32) (a_lst : Nat → Int32) (a_mu : Nat → Int32) (a_ba : Nat → Int32) (a_osz : Int32) (a_nx : Nat → Int32) (a_tl : Nat → Int32) (a_pe : Nat → Int32) (a_en : Nat → Int32) (a_pa : Nat → Int32) (PL : List Nat) (ppp : Nat → Int32) (pca : Nat → Nat) (pdg : Nat → Int32) (ptd : Nat → Int32) (pcc : Nat → Nat → Int32) (x1 : Int32) (x2 : Int32) (sz : Nat) {out : Int32 × (Int32) × (Int32) × (Option Nat) × (Nat → Int32) × (Nat → Int32) × (Nat → Int32) × (Nat → Int32) × (Nat → Int32) × (Nat → Int32) × (Nat → Int32) × (Nat → Int32) × (Nat → Int32) × (Nat → Int32) × (Nat → Int32)} (hf : FX6_all xs sf xn a_rp a_rgs a_sv a_co a_ro a_le a_lst a_mu a_ba a_osz a_nx a_tl a_pe a_en a_pa PL ppp pca pdg ptd pcc x1 x2 = some out) : Met l yX6_all wsX6_all RMX6_all (PW D cy [.ref (ad 0), .int x1, .int x2] sz ((wX6_0_2_4_5_6_7_8_9_10_13_14_15_16_17_18 cy ad xp xt xs sf xn a_rp a_rgs a_sv a_co a_ro a_le a_lst a_mu a_ba a_osz a_nx a_tl a_pe a_en a_pa)) ((sgP cy PL ppp pca pdg ptd pcc))) (QW D (some (.int out.1)) ((wX6_0_2_4_5_6_7_8_9_10_13_14_15_16_17_18 cy ad xp xt out.2.1 sf xn a_rp out.2.2.1 out.2.2.2.1 out.2.2.2.2.1 out.2.2.2.2.2.1 out.2.2.2.2.2.2.1 out.2.2.2.2.2.2.2.1 out.2.2.2.2.2.2.2.2.1 out.2.2.2.2.2.2.2.2.2.1 a_osz out.2.2.2.2.2.2.2.2.2.2.1 out.2.2.2.2.2.2.2.2.2.2.2.1 out.2.2.2.2.2.2.2.2.2.2.2.2.1 out.2.2.2.2.2.2.2.2.2.2.2.2.2.1 out.2.2.2.2.2.2.2.2.2.2.2.2.2.2)) (va_A ((wX6_0_2_4_5_6_7_8_9_10_13_14_15_16_17_18 cy ad xp xt xs sf xn a_rp a_rgs a_sv a_co a_ro a_le a_lst a_mu a_ba a_osz a_nx a_tl a_pe a_en a_pa)) sz)) 0 0 (va_A ((wX6_0_2_4_5_6_7_8_9_10_13_14_15_16_17_18 cy ad xp xt xs sf xn a_rp a_rgs a_sv a_co a_ro a_le a_lst a_mu a_ba a_osz a_nx a_tl a_pe a_en a_pa)) sz) := by
  refine Met.ofW (cc := cX6_all) (maxL := 4) (ret := (some .int)) (by decide +kernel) rfl ?_
  intro p e s m args below meth c s₁ B hml hv
  obtain ⟨hav, hsz, hP, hR0, hK, hN, hD0, hsep⟩ := hv
  have hx := B.exec
  have hb := B.bytes
  have hr := B.returns
  have hts := atoms_spec (ws := wsX6_all) B.pre
  have hown : s.vm.findClass RX6 = some m.cls := findClass_of_methodNamed B.named
  have hlocks := B.notSynchronized
  subst hsz
  have hin_X6 : ∀ w ∈ u_ws RX6 TX6 10, w ∈ wsX6_all := by decide +kernel
  have hw_0 := hts (.constant RX6 68 (-1000001)) (by decide +kernel)
  have hw_1 := hts (.fieldLink RX6 25 "ReturnPoints" "shelf" "[LReturnPoints$Poly;") (by decide +kernel)
  have hD := hD0.self (sz := s.heap.size)
  have hnA := roA hsep hR0
  generalize hAe : va_A ((wX6_0_2_4_5_6_7_8_9_10_13_14_15_16_17_18 cy ad xp xt xs sf xn a_rp a_rgs a_sv a_co a_ro a_le a_lst a_mu a_ba a_osz a_nx a_tl a_pe a_en a_pa)) s.heap.size = A at hD hnA ⊢
  have hA : ∀ q : Nat, s.heap.size ≤ q → A q := fun q h => by rw [← hAe]; exact Or.inr h
  have hS : va_S A s.heap s.heap [] := va_S.rf
  obtain ⟨ls, hfr, hl⟩ := ent_ok (m := m) (n := 4) (l' := [(0, .ref (ad 0)), (1, .int x1), (2, .int x2)]) [.ref (ad 0), .int x1, .int x2] hav (Nat.le_of_ble_eq_true rfl) rfl
  rw [hfr]
  generalize hQe : MQ below (QW D (some (.int out.1)) ((wX6_0_2_4_5_6_7_8_9_10_13_14_15_16_17_18 cy ad xp xt out.2.1 sf xn a_rp out.2.2.1 out.2.2.2.1 out.2.2.2.2.1 out.2.2.2.2.2.1 out.2.2.2.2.2.2.1 out.2.2.2.2.2.2.2.1 out.2.2.2.2.2.2.2.2.1 out.2.2.2.2.2.2.2.2.2.1 a_osz out.2.2.2.2.2.2.2.2.2.2.1 out.2.2.2.2.2.2.2.2.2.2.2.1 out.2.2.2.2.2.2.2.2.2.2.2.2.1 out.2.2.2.2.2.2.2.2.2.2.2.2.2.1 out.2.2.2.2.2.2.2.2.2.2.2.2.2.2)) A) args s 0 0 A = QQ
  change W p l e RMX6_all s m args below meth c s.heap [] 0 0 QQ (F0 m 0 ls [])
  have hP : va_P D vwCl ((wX6_0_2_4_5_6_7_8_9_10_13_14_15_16_17_18 cy ad xp xt xs sf xn a_rp a_rgs a_sv a_co a_ro a_le a_lst a_mu a_ba a_osz a_nx a_tl a_pe a_en a_pa)) s.heap := hP
  have hD : va_D A ((wX6_0_2_4_5_6_7_8_9_10_13_14_15_16_17_18 cy ad xp xt xs sf xn a_rp a_rgs a_sv a_co a_ro a_le a_lst a_mu a_ba a_osz a_nx a_tl a_pe a_en a_pa)) := hD
  suffices h00 : ∀ (H : Heap) (locs : List Loc), va_P D vwCl ((wX6_0_2_4_5_6_7_8_9_10_13_14_15_16_17_18 cy ad xp xt xs sf xn a_rp a_rgs a_sv a_co a_ro a_le a_lst a_mu a_ba a_osz a_nx a_tl a_pe a_en a_pa)) H → va_S A s.heap H locs → W p l e RMX6_all s m args below meth c H locs 0 0 QQ (F0 m 0 ls []) from h00 _ _ hP hS
  clear hP hS
  intro H locs hP hS
  unfold FX6_all at hf
  refine lv_iload_n hx hb dX6_all_0 rfl (lv_at hl 1 rfl) ?_
  replace hf := ob_e hf
  obtain ⟨u_1, hu_1, hf⟩ := hf
  refine isR (As := [.int x1]) (rest := []) (st1 := [.int (bi u_1)]) ⟨hx, hb, hml, hown, hts⟩ hK hN (KX6_isPlace l D cy x1 H.size hu_1) (va_cwS 1 hts gX6_all_X6_isPlace rfl rfl rfl (by decide +kernel) ⟨Nat.le_of_ble_eq_true rfl, Nat.le_of_ble_eq_true rfl⟩) P_nil rfl hl.1 rfl (Nat.le_of_ble_eq_true rfl) rfl dX6_all_1 ⟨Nat.zero_le _, Nat.zero_le _⟩ ?_
  refine lv_if_eq (tgt := 16) hx hb dX6_all_4 (by decide) (fun c_4 => ?_) (fun c_4 => ?_)
  · replace hf := it_p c_4 hf
    refine lv_ldc (own := RX6) (v := (-1000001)) hx hb hown hw_0 dX6_all_16 ?_
    obtain rfl := Option.some.inj hf
    rw [← hQe]
    exact W.iret (v := (-1000001)) hx hb hr (fun t ht hW => ⟨rfl, by rw [ht]; exact hP, hS.F ht⟩) hS.2.2 dX6_all_18
  · replace hf := it_n c_4 hf
    refine lv_iload_n hx hb dX6_all_7 rfl (lv_at hl 2 rfl) ?_
    refine lv_if_lt (tgt := 16) hx hb dX6_all_8 (by decide) (fun c_8 => ?_) (fun c_8 => ?_)
    · replace hf := it_p c_8 hf
      refine lv_ldc (own := RX6) (v := (-1000001)) hx hb hown hw_0 dX6_all_16 ?_
      obtain rfl := Option.some.inj hf
      rw [← hQe]
      exact W.iret (v := (-1000001)) hx hb hr (fun t ht hW => ⟨rfl, by rw [ht]; exact hP, hS.F ht⟩) hS.2.2 dX6_all_18
    · replace hf := it_n c_8 hf
      refine lv_iload_n hx hb dX6_all_11 rfl (lv_at hl 2 rfl) ?_
      refine lv_iconst (v := 5) hx hb dX6_all_12 (by decide) ?_
      refine lv_icmp_le (tgt := 19) hx hb dX6_all_13 (by decide) (fun c_13 => ?_) (fun c_13 => ?_)
      · replace hf := it_p c_13 hf
        refine lv_aload_n hx hb dX6_all_19 rfl (lv_at hl 0 rfl) ?_
        refine va_get (a := (ad 0)) (ci := 6) (v := .ref (ad 2)) (C := RX6) (T := TX6) (N := 10) hx hb hts hin_X6 hown hK hP 0 rfl rfl 2 (by decide) hw_1 (fun _ h => h) rfl dX6_all_20 ?_
        refine lv_iload_n hx hb dX6_all_23 rfl (lv_at hl 1 rfl) ?_
        replace hf := gi_e hf
        obtain ⟨i_24, hf⟩ := hf
        refine va_aldq (a := (ad 2)) hx hb hK hP 1 4 rfl rfl i_24 dX6_all_24 ?_
        refine top_q (fun o_24 e_24 => ?_)
        replace hf := bd_at e_24 hf
        clear e_24
        refine lv_Qastore_n (lv' := [(3, va_rf o_24), (0, .ref (ad 0)), (1, .int x1), (2, .int x2)]) hx hb dX6_all_25 rfl hl (by decide) rfl (fun ls hl => ?_)
        refine lv_Qaload_n hx hb dX6_all_26 rfl (lv_at hl 0 rfl) ?_
        replace hf := oq_e hf
        rcases hf with ⟨rfl, hf⟩ | ⟨a_27, rfl, hf⟩
        · have hl : lv_has ls 4 [(3, .null), (0, .ref (ad 0)), (1, .int x1), (2, .int x2)] := hl
          refine lv_ifnonnullN hx hb dX6_all_27 ?_
          refine lv_aload_n hx hb dX6_all_30 rfl (lv_at hl 1 rfl) ?_
          refine lv_iconst (v := 1) hx hb dX6_all_31 (by decide) ?_
          replace hf := ob_e hf
          obtain ⟨u_32, hu_32, hf⟩ := hf
          refine ivW (As := [.int 1]) (rest := []) (st1 := [.int u_32.1]) (is := [0]) (w1 := (wX6_0 cy ad xp xt u_32.2)) ⟨hx, hb, hml, hown, hts⟩ hK hN (KX6_found l D cy ad xp xt xs 1 H.size hu_32) (cwV 1 hts gX6_all_X6_found rfl rfl rfl (by decide +kernel) ⟨Nat.le_of_ble_eq_true rfl, Nat.le_of_ble_eq_true rfl⟩) (va_recv hK hP (ci := 6) (q0 := 0) rfl rfl) hP hD hS hA P_nil (sepW_nil _) (by decide) rfl rfl rfl hl.1 rfl (Nat.le_of_ble_eq_true rfl) rfl dX6_all_32 ⟨Nat.zero_le _, Nat.zero_le _⟩ (fun H locs hP hD hS => ?_)
          have hP : va_P D vwCl ((wX6_0_2_4_5_6_7_8_9_10_13_14_15_16_17_18 cy ad xp xt u_32.2 sf xn a_rp a_rgs a_sv a_co a_ro a_le a_lst a_mu a_ba a_osz a_nx a_tl a_pe a_en a_pa)) H := hP
          have hD : va_D A ((wX6_0_2_4_5_6_7_8_9_10_13_14_15_16_17_18 cy ad xp xt u_32.2 sf xn a_rp a_rgs a_sv a_co a_ro a_le a_lst a_mu a_ba a_osz a_nx a_tl a_pe a_en a_pa)) := hD
          refine lv_goto (tgt := 51) hx hb dX6_all_35 (by decide) ?_
          obtain rfl := Option.some.inj hf
          rw [← hQe]
          exact W.iret (v := u_32.1) hx hb hr (fun t ht hW => ⟨rfl, by rw [ht]; exact hP, hS.F ht⟩) hS.2.2 dX6_all_51
        · replace hf := gd_e hf
          obtain ⟨m_a_27, hf⟩ := hf
          have hl : lv_has ls 4 [(3, .ref a_27), (0, .ref (ad 0)), (1, .int x1), (2, .int x2)] := hl
          refine lv_ifnonnull (tgt := 38) hx hb dX6_all_27 (by decide) ?_
          refine lv_aload_n hx hb dX6_all_38 rfl (lv_at hl 1 rfl) ?_
          refine lv_aload_n hx hb dX6_all_39 rfl (lv_at hl 1 rfl) ?_
          refine lv_aload_n hx hb dX6_all_40 rfl (lv_at hl 0 rfl) ?_
          replace hf := ob_e hf
          obtain ⟨u_41, hu_41, hf⟩ := hf
          have hR := roN hR0 hnA hS
          have hQ_a_27 : va_P D vwCl (wX2_0_1 cy (adP pca a_27) 5 (ppp a_27) (pdg a_27) (ptd a_27) (pcc a_27)) H := P_two hR (sgP_1 m_a_27) (sgP_2 m_a_27)
          have hnQ_a_27 : ∀ (k : Nat) (q : Nat × va_E), (wX2_0_1 cy (adP pca a_27) 5 (ppp a_27) (pdg a_27) (ptd a_27) (pcc a_27))[k]? = some q → ¬ A q.1 := nA_two hnA (sgP_1 m_a_27) (sgP_2 m_a_27)
          refine ivW (As := [.ref a_27]) (rest := [.ref (ad 0)]) (st1 := [.ref (ad 4), .ref (ad 0)]) (is := [0, 2, 3, 4, 5, 6, 7, 8, 9, 10, 11, 12, 13, 14]) (w1 := (wX6_0_4_5_6_7_8_9_10_13_14_15_16_17_18 cy ad xp xt xs xn a_rp u_41.1 u_41.2.1 u_41.2.2.1 u_41.2.2.2.1 u_41.2.2.2.2.1 u_41.2.2.2.2.2.1 u_41.2.2.2.2.2.2.1 u_41.2.2.2.2.2.2.2.1 a_osz u_41.2.2.2.2.2.2.2.2.1 u_41.2.2.2.2.2.2.2.2.2.1 u_41.2.2.2.2.2.2.2.2.2.2.1 u_41.2.2.2.2.2.2.2.2.2.2.2.1 u_41.2.2.2.2.2.2.2.2.2.2.2.2)) ⟨hx, hb, hml, hown, hts⟩ hK hN (KX6_roadsOf l D cy ad (adP pca a_27) xp xt xs xn a_rp a_rgs a_sv a_co a_ro a_le a_lst a_mu a_ba a_osz a_nx a_tl a_pe a_en a_pa 5 (ppp a_27) (pdg a_27) (ptd a_27) (pcc a_27) H.size hu_41) (cwV 1 hts gX6_all_X6_roadsOf rfl rfl rfl (by decide +kernel) ⟨Nat.le_of_ble_eq_true rfl, Nat.le_of_ble_eq_true rfl⟩) (va_recv hK hP (ci := 6) (q0 := 0) rfl rfl) hP hD hS hA (P_pl (wc := (wX2_0_1 cy (adP pca a_27) 5 (ppp a_27) (pdg a_27) (ptd a_27) (pcc a_27))) (is := [0, 1]) hQ_a_27 rfl) (sep_nA (is := [0, 2, 3, 4, 5, 6, 7, 8, 9, 10, 11, 12, 13, 14]) (isR := [0, 1]) hnQ_a_27 hD rfl rfl) (by decide) rfl rfl rfl hl.1 rfl (Nat.le_of_ble_eq_true rfl) rfl dX6_all_41 ⟨Nat.zero_le _, Nat.zero_le _⟩ (fun H locs hP hD hS => ?_)
          have hP : va_P D vwCl ((wX6_0_2_4_5_6_7_8_9_10_13_14_15_16_17_18 cy ad xp xt xs sf xn a_rp u_41.1 u_41.2.1 u_41.2.2.1 u_41.2.2.2.1 u_41.2.2.2.2.1 u_41.2.2.2.2.2.1 u_41.2.2.2.2.2.2.1 u_41.2.2.2.2.2.2.2.1 a_osz u_41.2.2.2.2.2.2.2.2.1 u_41.2.2.2.2.2.2.2.2.2.1 u_41.2.2.2.2.2.2.2.2.2.2.1 u_41.2.2.2.2.2.2.2.2.2.2.2.1 u_41.2.2.2.2.2.2.2.2.2.2.2.2)) H := hP
          have hD : va_D A ((wX6_0_2_4_5_6_7_8_9_10_13_14_15_16_17_18 cy ad xp xt xs sf xn a_rp u_41.1 u_41.2.1 u_41.2.2.1 u_41.2.2.2.1 u_41.2.2.2.2.1 u_41.2.2.2.2.2.1 u_41.2.2.2.2.2.2.1 u_41.2.2.2.2.2.2.2.1 a_osz u_41.2.2.2.2.2.2.2.2.1 u_41.2.2.2.2.2.2.2.2.2.1 u_41.2.2.2.2.2.2.2.2.2.2.1 u_41.2.2.2.2.2.2.2.2.2.2.2.1 u_41.2.2.2.2.2.2.2.2.2.2.2.2)) := hD
          refine lv_iload_n hx hb dX6_all_44 rfl (lv_at hl 3 rfl) ?_
          replace hf := ob_e hf
          obtain ⟨u_45, hu_45, hf⟩ := hf
          refine ivR (As := [.int x2]) (rest := [.ref (ad 0)]) (st1 := [.int u_45, .ref (ad 0)]) ⟨hx, hb, hml, hown, hts⟩ hK hN (KX3_ofAll l D cy (fun i => ad (4 + i)) xn a_rp u_41.1 u_41.2.1 u_41.2.2.1 u_41.2.2.2.2.1 u_41.2.2.2.2.2.2.1 a_osz u_41.2.2.2.2.2.2.2.2.2.1 x2 H.size hu_45) (cwV 1 hts gX6_all_X3_ofAll rfl rfl rfl (by decide +kernel) ⟨Nat.le_of_ble_eq_true rfl, Nat.le_of_ble_eq_true rfl⟩) (va_recv hK hP (ci := 3) (q0 := 2) rfl rfl) (P_pl (wc := (wX3_0_1_3_5_9_11 cy (fun i => ad (4 + i)) xn a_rp u_41.1 u_41.2.1 u_41.2.2.1 u_41.2.2.2.2.1 u_41.2.2.2.2.2.2.1 a_osz u_41.2.2.2.2.2.2.2.2.2.1)) (is := [2, 3, 5, 7, 9, 11]) hP rfl) rfl hl.1 rfl (Nat.le_of_ble_eq_true rfl) rfl dX6_all_45 ⟨Nat.zero_le _, Nat.zero_le _⟩ ?_
          replace hf := ob_e hf
          obtain ⟨u_48, hu_48, hf⟩ := hf
          refine ivW (As := [.int u_45]) (rest := []) (st1 := [.int u_48.1]) (is := [0]) (w1 := (wX6_0 cy ad xp xt u_48.2)) ⟨hx, hb, hml, hown, hts⟩ hK hN (KX6_fine l D cy ad xp xt xs u_45 H.size hu_48) (cwV 1 hts gX6_all_X6_fine rfl rfl rfl (by decide +kernel) ⟨Nat.le_of_ble_eq_true rfl, Nat.le_of_ble_eq_true rfl⟩) (va_recv hK hP (ci := 6) (q0 := 0) rfl rfl) hP hD hS hA P_nil (sepW_nil _) (by decide) rfl rfl rfl hl.1 rfl (Nat.le_of_ble_eq_true rfl) rfl dX6_all_48 ⟨Nat.zero_le _, Nat.zero_le _⟩ (fun H locs hP hD hS => ?_)
          have hP : va_P D vwCl ((wX6_0_2_4_5_6_7_8_9_10_13_14_15_16_17_18 cy ad xp xt u_48.2 sf xn a_rp u_41.1 u_41.2.1 u_41.2.2.1 u_41.2.2.2.1 u_41.2.2.2.2.1 u_41.2.2.2.2.2.1 u_41.2.2.2.2.2.2.1 u_41.2.2.2.2.2.2.2.1 a_osz u_41.2.2.2.2.2.2.2.2.1 u_41.2.2.2.2.2.2.2.2.2.1 u_41.2.2.2.2.2.2.2.2.2.2.1 u_41.2.2.2.2.2.2.2.2.2.2.2.1 u_41.2.2.2.2.2.2.2.2.2.2.2.2)) H := hP
          have hD : va_D A ((wX6_0_2_4_5_6_7_8_9_10_13_14_15_16_17_18 cy ad xp xt u_48.2 sf xn a_rp u_41.1 u_41.2.1 u_41.2.2.1 u_41.2.2.2.1 u_41.2.2.2.2.1 u_41.2.2.2.2.2.1 u_41.2.2.2.2.2.2.1 u_41.2.2.2.2.2.2.2.1 a_osz u_41.2.2.2.2.2.2.2.2.1 u_41.2.2.2.2.2.2.2.2.2.1 u_41.2.2.2.2.2.2.2.2.2.2.1 u_41.2.2.2.2.2.2.2.2.2.2.2.1 u_41.2.2.2.2.2.2.2.2.2.2.2.2)) := hD
          obtain rfl := Option.some.inj hf
          rw [← hQe]
          exact W.iret (v := u_48.1) hx hb hr (fun t ht hW => ⟨rfl, by rw [ht]; exact hP, hS.F ht⟩) hS.2.2 dX6_all_51
      · replace hf := it_n c_13 hf
        refine lv_ldc (own := RX6) (v := (-1000001)) hx hb hown hw_0 dX6_all_16 ?_
        obtain rfl := Option.some.inj hf
        rw [← hQe]
        exact W.iret (v := (-1000001)) hx hb hr (fun t ht hW => ⟨rfl, by rw [ht]; exact hP, hS.F ht⟩) hS.2.2 dX6_all_18
def FX6_fraction  (f_fl : Int32) (f_fu : Int32) (f_fw : Int32) (f_li : Nat → Int32) (f_osz : Int32) (f_nx : Nat → Int32) (f_tl : Nat → Int32) (f_pe : Nat → Int32) (f_en : Nat → Int32) (f_pa : Nat → Int32) (x1 : Int32) (x2 : Int32) (x3 : Int32) (x4 : Int32) : Option (Int32 × (Int32) × (Int32) × (Int32) × (Nat → Int32) × (Nat → Int32) × (Nat → Int32) × (Nat → Int32) × (Nat → Int32) × (Nat → Int32)) := (ob (FX6_isPair x1 x2) (fun u_2 => if (bi u_2) = 0 then (some ((-1000001), f_fl, f_fu, f_fw, f_li, f_nx, f_tl, f_pe, f_en, f_pa)) else (if x4 < 0 then (some ((-1000001), f_fl, f_fu, f_fw, f_li, f_nx, f_tl, f_pe, f_en, f_pa)) else (if x4 ≤ 2 then (ob (FX0_prepare 233 f_fl f_fu f_fw f_li f_osz f_nx f_tl f_pe f_en f_pa x1 x2) (fun u_28 => if x3 = (-1000000) then ((some (u_28.1, u_28.1, u_28.2.1, u_28.2.2.1, u_28.2.2.2.1, u_28.2.2.2.2.1, u_28.2.2.2.2.2.1, u_28.2.2.2.2.2.2.1, u_28.2.2.2.2.2.2.2.1, u_28.2.2.2.2.2.2.2.2))) else (ob (FX0_ofListed 233 u_28.1 u_28.2.2.2.1 u_28.2.2.2.2.2.1 u_28.2.2.2.2.2.2.1 x3 x4) (fun u_54 => (some (u_54, u_28.1, u_28.2.1, u_28.2.2.1, u_28.2.2.2.1, u_28.2.2.2.2.1, u_28.2.2.2.2.2.1, u_28.2.2.2.2.2.2.1, u_28.2.2.2.2.2.2.2.1, u_28.2.2.2.2.2.2.2.2)))))) else (some ((-1000001), f_fl, f_fu, f_fw, f_li, f_nx, f_tl, f_pe, f_en, f_pa))))))
abbrev RMX6_fraction : Room := { frames := 5, cells := 0, slots := 0, locals := 118 }
set_option maxHeartbeats 4000000 in
set_option maxRecDepth 100000 in
theorem KX6_fraction (l : Launch) (D : va_G) (cy : Nat → ClassId) (ad : Nat → Nat) (xp : Int32) (xt : Int32) (xs : Int32) (f_fl : Int32) (f_fu : Int32) (f_fw : Int32) (f_li : Nat → Int32) (f_osz : Int32) (f_nx : Nat → Int32) (f_tl : Nat → Int32) (f_pe : Nat → Int32) (f_en : Nat → Int32) (f_pa : Nat → Int32) (x1 : Int32) (x2 : Int32) (x3 : Int32) (x4 : Int32) (sz : Nat) {out : Int32 × (Int32) × (Int32) × (Int32) × (Nat → Int32) × (Nat → Int32) × (Nat → Int32) × (Nat → Int32) × (Nat → Int32) × (Nat → Int32)} (hf : FX6_fraction f_fl f_fu f_fw f_li f_osz f_nx f_tl f_pe f_en f_pa x1 x2 x3 x4 = some out) : Met l yX6_fraction wsX6_fraction RMX6_fraction (PW D cy [.ref (ad 0), .int x1, .int x2, .int x3, .int x4] sz ((wX6_0_53_54_55_56_57_58_59_60 cy ad xp xt xs f_fl f_fu f_fw f_li f_osz f_nx f_tl f_pe f_en f_pa)) []) (QW D (some (.int out.1)) ((wX6_0_53_54_55_56_57_58_59_60 cy ad xp xt xs out.2.1 out.2.2.1 out.2.2.2.1 out.2.2.2.2.1 f_osz out.2.2.2.2.2.1 out.2.2.2.2.2.2.1 out.2.2.2.2.2.2.2.1 out.2.2.2.2.2.2.2.2.1 out.2.2.2.2.2.2.2.2.2)) (va_A ((wX6_0_53_54_55_56_57_58_59_60 cy ad xp xt xs f_fl f_fu f_fw f_li f_osz f_nx f_tl f_pe f_en f_pa)) sz)) 0 0 (va_A ((wX6_0_53_54_55_56_57_58_59_60 cy ad xp xt xs f_fl f_fu f_fw f_li f_osz f_nx f_tl f_pe f_en f_pa)) sz) := by
  refine Met.ofW (cc := cX6_fraction) (maxL := 5) (ret := (some .int)) (by decide +kernel) rfl ?_
  intro p e s m args below meth c s₁ B hml hv
  obtain ⟨hav, hsz, hP, hR0, hK, hN, hD0, hsep⟩ := hv
  have hx := B.exec
  have hb := B.bytes
  have hr := B.returns
  have hts := atoms_spec (ws := wsX6_fraction) B.pre
  have hown : s.vm.findClass RX6 = some m.cls := findClass_of_methodNamed B.named
  have hlocks := B.notSynchronized
  subst hsz
  have hin_X0 : ∀ w ∈ u_ws RX0 TX0 5, w ∈ wsX6_fraction := by decide +kernel
  have hin_X6 : ∀ w ∈ u_ws RX6 TX6 10, w ∈ wsX6_fraction := by decide +kernel
  have hw_0 := hts (.constant RX6 68 (-1000001)) (by decide +kernel)
  have hw_1 := hts (.constant RX6 153 (-1000000)) (by decide +kernel)
  have hw_2 := hts (.fieldLink RX6 55 "ReturnPoints" "fractions" "LReturnPoints$Fractions;") (by decide +kernel)
  have hw_3 := hts (.fieldLink RX6 202 "ReturnPoints$Fractions" "listed" "I") (by decide +kernel)
  have hD := hD0.self (sz := s.heap.size)
  have hnA := roA hsep hR0
  generalize hAe : va_A ((wX6_0_53_54_55_56_57_58_59_60 cy ad xp xt xs f_fl f_fu f_fw f_li f_osz f_nx f_tl f_pe f_en f_pa)) s.heap.size = A at hD hnA ⊢
  have hA : ∀ q : Nat, s.heap.size ≤ q → A q := fun q h => by rw [← hAe]; exact Or.inr h
  have hS : va_S A s.heap s.heap [] := va_S.rf
  obtain ⟨ls, hfr, hl⟩ := ent_ok (m := m) (n := 5) (l' := [(0, .ref (ad 0)), (1, .int x1), (2, .int x2), (3, .int x3), (4, .int x4)]) [.ref (ad 0), .int x1, .int x2, .int x3, .int x4] hav (Nat.le_of_ble_eq_true rfl) rfl
  rw [hfr]
  generalize hQe : MQ below (QW D (some (.int out.1)) ((wX6_0_53_54_55_56_57_58_59_60 cy ad xp xt xs out.2.1 out.2.2.1 out.2.2.2.1 out.2.2.2.2.1 f_osz out.2.2.2.2.2.1 out.2.2.2.2.2.2.1 out.2.2.2.2.2.2.2.1 out.2.2.2.2.2.2.2.2.1 out.2.2.2.2.2.2.2.2.2)) A) args s 0 0 A = QQ
  change W p l e RMX6_fraction s m args below meth c s.heap [] 0 0 QQ (F0 m 0 ls [])
  have hP : va_P D vwCl ((wX6_0_53_54_55_56_57_58_59_60 cy ad xp xt xs f_fl f_fu f_fw f_li f_osz f_nx f_tl f_pe f_en f_pa)) s.heap := hP
  have hD : va_D A ((wX6_0_53_54_55_56_57_58_59_60 cy ad xp xt xs f_fl f_fu f_fw f_li f_osz f_nx f_tl f_pe f_en f_pa)) := hD
  suffices h00 : ∀ (H : Heap) (locs : List Loc), va_P D vwCl ((wX6_0_53_54_55_56_57_58_59_60 cy ad xp xt xs f_fl f_fu f_fw f_li f_osz f_nx f_tl f_pe f_en f_pa)) H → va_S A s.heap H locs → W p l e RMX6_fraction s m args below meth c H locs 0 0 QQ (F0 m 0 ls []) from h00 _ _ hP hS
  clear hP hS
  intro H locs hP hS
  unfold FX6_fraction at hf
  refine lv_iload_n hx hb dX6_fraction_0 rfl (lv_at hl 1 rfl) ?_
  refine lv_iload_n hx hb dX6_fraction_1 rfl (lv_at hl 2 rfl) ?_
  replace hf := ob_e hf
  obtain ⟨u_2, hu_2, hf⟩ := hf
  refine isR (As := [.int x1, .int x2]) (rest := []) (st1 := [.int (bi u_2)]) ⟨hx, hb, hml, hown, hts⟩ hK hN (KX6_isPair l D cy x1 x2 H.size hu_2) (va_cwS 2 hts gX6_fraction_X6_isPair rfl rfl rfl (by decide +kernel) ⟨Nat.le_of_ble_eq_true rfl, Nat.le_of_ble_eq_true rfl⟩) P_nil rfl hl.1 rfl (Nat.le_of_ble_eq_true rfl) rfl dX6_fraction_2 ⟨Nat.zero_le _, Nat.zero_le _⟩ ?_
  refine lv_if_eq (tgt := 19) hx hb dX6_fraction_5 (by decide) (fun c_5 => ?_) (fun c_5 => ?_)
  · replace hf := it_p c_5 hf
    refine lv_ldc (own := RX6) (v := (-1000001)) hx hb hown hw_0 dX6_fraction_19 ?_
    obtain rfl := Option.some.inj hf
    rw [← hQe]
    exact W.iret (v := (-1000001)) hx hb hr (fun t ht hW => ⟨rfl, by rw [ht]; exact hP, hS.F ht⟩) hS.2.2 dX6_fraction_21
  · replace hf := it_n c_5 hf
    refine lv_iload hx hb dX6_fraction_8 (lv_at hl 4 rfl) ?_
    refine lv_if_lt (tgt := 19) hx hb dX6_fraction_10 (by decide) (fun c_10 => ?_) (fun c_10 => ?_)
    · replace hf := it_p c_10 hf
      refine lv_ldc (own := RX6) (v := (-1000001)) hx hb hown hw_0 dX6_fraction_19 ?_
      obtain rfl := Option.some.inj hf
      rw [← hQe]
      exact W.iret (v := (-1000001)) hx hb hr (fun t ht hW => ⟨rfl, by rw [ht]; exact hP, hS.F ht⟩) hS.2.2 dX6_fraction_21
    · replace hf := it_n c_10 hf
      refine lv_iload hx hb dX6_fraction_13 (lv_at hl 4 rfl) ?_
      refine lv_iconst (v := 2) hx hb dX6_fraction_15 (by decide) ?_
      refine lv_icmp_le (tgt := 22) hx hb dX6_fraction_16 (by decide) (fun c_16 => ?_) (fun c_16 => ?_)
      · replace hf := it_p c_16 hf
        refine lv_aload_n hx hb dX6_fraction_22 rfl (lv_at hl 0 rfl) ?_
        refine va_get (a := (ad 0)) (ci := 6) (v := .ref (ad 53)) (C := RX6) (T := TX6) (N := 10) hx hb hts hin_X6 hown hK hP 0 rfl rfl 7 (by decide) hw_2 (fun _ h => h) rfl dX6_fraction_23 ?_
        refine lv_iload_n hx hb dX6_fraction_26 rfl (lv_at hl 1 rfl) ?_
        refine lv_iload_n hx hb dX6_fraction_27 rfl (lv_at hl 2 rfl) ?_
        replace hf := ob_e hf
        obtain ⟨u_28, hu_28, hf⟩ := hf
        refine ivW (As := [.int x1, .int x2]) (rest := []) (st1 := []) (is := [1, 2, 3, 4, 5, 6, 7, 8]) (w1 := (wX0_0_1_2_3_4_5_6_7 cy (fun i => ad (53 + i)) 233 u_28.1 u_28.2.1 u_28.2.2.1 u_28.2.2.2.1 f_osz u_28.2.2.2.2.1 u_28.2.2.2.2.2.1 u_28.2.2.2.2.2.2.1 u_28.2.2.2.2.2.2.2.1 u_28.2.2.2.2.2.2.2.2)) ⟨hx, hb, hml, hown, hts⟩ hK hN (KX0_prepare l D cy (fun i => ad (53 + i)) 233 f_fl f_fu f_fw f_li f_osz f_nx f_tl f_pe f_en f_pa x1 x2 H.size hu_28) (cwV 2 hts gX6_fraction_X0_prepare rfl rfl rfl (by decide +kernel) ⟨Nat.le_of_ble_eq_true rfl, Nat.le_of_ble_eq_true rfl⟩) (va_recv hK hP (ci := 0) (q0 := 1) rfl rfl) hP hD hS hA P_nil (sepW_nil _) (by decide) rfl rfl rfl hl.1 rfl (Nat.le_of_ble_eq_true rfl) rfl dX6_fraction_28 ⟨Nat.zero_le _, Nat.zero_le _⟩ (fun H locs hP hD hS => ?_)
        have hP : va_P D vwCl ((wX6_0_53_54_55_56_57_58_59_60 cy ad xp xt xs u_28.1 u_28.2.1 u_28.2.2.1 u_28.2.2.2.1 f_osz u_28.2.2.2.2.1 u_28.2.2.2.2.2.1 u_28.2.2.2.2.2.2.1 u_28.2.2.2.2.2.2.2.1 u_28.2.2.2.2.2.2.2.2)) H := hP
        have hD : va_D A ((wX6_0_53_54_55_56_57_58_59_60 cy ad xp xt xs u_28.1 u_28.2.1 u_28.2.2.1 u_28.2.2.2.1 f_osz u_28.2.2.2.2.1 u_28.2.2.2.2.2.1 u_28.2.2.2.2.2.2.1 u_28.2.2.2.2.2.2.2.1 u_28.2.2.2.2.2.2.2.2)) := hD
        refine lv_iload_n hx hb dX6_fraction_31 rfl (lv_at hl 3 rfl) ?_
        refine lv_ldc (own := RX6) (v := (-1000000)) hx hb hown hw_1 dX6_fraction_32 ?_
        refine lv_icmp_ne (tgt := 47) hx hb dX6_fraction_34 (by decide) (fun c_34 => ?_) (fun c_34 => ?_)
        · replace hf := it_n c_34 hf
          refine lv_aload_n hx hb dX6_fraction_47 rfl (lv_at hl 0 rfl) ?_
          refine va_get (a := (ad 0)) (ci := 6) (v := .ref (ad 53)) (C := RX6) (T := TX6) (N := 10) hx hb hts hin_X6 hown hK hP 0 rfl rfl 7 (by decide) hw_2 (fun _ h => h) rfl dX6_fraction_48 ?_
          refine lv_iload_n hx hb dX6_fraction_51 rfl (lv_at hl 3 rfl) ?_
          refine lv_iload hx hb dX6_fraction_52 (lv_at hl 4 rfl) ?_
          replace hf := ob_e hf
          obtain ⟨u_54, hu_54, hf⟩ := hf
          refine ivR (As := [.int x3, .int x4]) (rest := []) (st1 := [.int u_54]) ⟨hx, hb, hml, hown, hts⟩ hK hN (KX0_ofListed l D cy (fun i => ad (53 + i)) 233 u_28.1 u_28.2.1 u_28.2.2.1 u_28.2.2.2.1 f_osz u_28.2.2.2.2.2.1 u_28.2.2.2.2.2.2.1 x3 x4 H.size hu_54) (cwV 2 hts gX6_fraction_X0_ofListed rfl rfl rfl (by decide +kernel) ⟨Nat.le_of_ble_eq_true rfl, Nat.le_of_ble_eq_true rfl⟩) (va_recv hK hP (ci := 0) (q0 := 1) rfl rfl) (P_pl (wc := (wX0_0_1_2_4_5 cy (fun i => ad (53 + i)) 233 u_28.1 u_28.2.1 u_28.2.2.1 u_28.2.2.2.1 f_osz u_28.2.2.2.2.2.1 u_28.2.2.2.2.2.2.1)) (is := [1, 2, 3, 5, 6]) hP rfl) rfl hl.1 rfl (Nat.le_of_ble_eq_true rfl) rfl dX6_fraction_54 ⟨Nat.zero_le _, Nat.zero_le _⟩ ?_
          obtain rfl := Option.some.inj hf
          rw [← hQe]
          exact W.iret (v := u_54) hx hb hr (fun t ht hW => ⟨rfl, by rw [ht]; exact hP, hS.F ht⟩) hS.2.2 dX6_fraction_57
        · replace hf := it_p c_34 hf
          refine lv_aload_n hx hb dX6_fraction_37 rfl (lv_at hl 0 rfl) ?_
          refine va_get (a := (ad 0)) (ci := 6) (v := .ref (ad 53)) (C := RX6) (T := TX6) (N := 10) hx hb hts hin_X6 hown hK hP 0 rfl rfl 7 (by decide) hw_2 (fun _ h => h) rfl dX6_fraction_38 ?_
          refine va_get (a := (ad 53)) (ci := 0) (v := .int u_28.1) (C := RX0) (T := TX0) (N := 5) hx hb hts hin_X0 hown hK hP 1 rfl rfl 2 (by decide) hw_3 (fun _ h => h) rfl dX6_fraction_41 ?_
          refine lv_goto (tgt := 57) hx hb dX6_fraction_44 (by decide) ?_
          obtain rfl := Option.some.inj hf
          rw [← hQe]
          exact W.iret (v := u_28.1) hx hb hr (fun t ht hW => ⟨rfl, by rw [ht]; exact hP, hS.F ht⟩) hS.2.2 dX6_fraction_57
      · replace hf := it_n c_16 hf
        refine lv_ldc (own := RX6) (v := (-1000001)) hx hb hown hw_0 dX6_fraction_19 ?_
        obtain rfl := Option.some.inj hf
        rw [← hQe]
        exact W.iret (v := (-1000001)) hx hb hr (fun t ht hW => ⟨rfl, by rw [ht]; exact hP, hS.F ht⟩) hS.2.2 dX6_fraction_21
def FX6_next   (x1 : Int32) (x2 : Int32) (x3 : Int32) : Option (Int32) := (ob (FX6_isPair x1 x2) (fun u_2 => if (bi u_2) = 0 then (some ((-1000001))) else (if x3 < (-1000) then (some ((-1000001))) else (if 1000 < x3 then (some ((-1000001))) else (ob (FX6_commonDivisor x3 x2) (fun u_24 => if u_24 = 1 then (ob (FX0_image x1 x2 x3) (fun u_37 => some (u_37))) else (some ((-1000001)))))))))
abbrev RMX6_next : Room := { frames := 3, cells := 0, slots := 0, locals := 73 }
set_option maxHeartbeats 4000000 in
set_option maxRecDepth 100000 in
theorem KX6_next (l : Launch) (D : va_G) (cy : Nat → ClassId) (ad : Nat → Nat)  (x1 : Int32) (x2 : Int32) (x3 : Int32) (sz : Nat) {out : Int32} (hf : FX6_next x1 x2 x3 = some out) : Met l yX6_next wsX6_next RMX6_next (PW D cy [.ref (ad 0), .int x1, .int x2, .int x3] sz [] []) (QR (some (.int out))) 0 0 no_A := by
  refine Met.ofW (cc := cX6_next) (maxL := 4) (ret := (some .int)) (by decide +kernel) rfl ?_
  intro p e s m args below meth c s₁ B hml hv
  obtain ⟨hav, hsz, hP, hR0, hK, hN, hD0, hsep⟩ := hv
  have hx := B.exec
  have hb := B.bytes
  have hr := B.returns
  have hts := atoms_spec (ws := wsX6_next) B.pre
  have hown : s.vm.findClass RX6 = some m.cls := findClass_of_methodNamed B.named
  have hlocks := B.notSynchronized
  subst hsz
  have hw_0 := hts (.constant RX6 68 (-1000001)) (by decide +kernel)
  obtain ⟨ls, hfr, hl⟩ := ent_ok (m := m) (n := 4) (l' := [(0, .ref (ad 0)), (1, .int x1), (2, .int x2), (3, .int x3)]) [.ref (ad 0), .int x1, .int x2, .int x3] hav (Nat.le_of_ble_eq_true rfl) rfl
  rw [hfr]
  generalize hQe : MQ below (QR (some (.int out))) args s 0 0 no_A = QQ
  change W p l e RMX6_next s m args below meth c s.heap [] 0 0 QQ (F0 m 0 ls [])
  unfold FX6_next at hf
  refine lv_iload_n hx hb dX6_next_0 rfl (lv_at hl 1 rfl) ?_
  refine lv_iload_n hx hb dX6_next_1 rfl (lv_at hl 2 rfl) ?_
  replace hf := ob_e hf
  obtain ⟨u_2, hu_2, hf⟩ := hf
  refine isR (As := [.int x1, .int x2]) (rest := []) (st1 := [.int (bi u_2)]) ⟨hx, hb, hml, hown, hts⟩ hK hN (KX6_isPair l D cy x1 x2 s.heap.size hu_2) (va_cwS 2 hts gX6_next_X6_isPair rfl rfl rfl (by decide +kernel) ⟨Nat.le_of_ble_eq_true rfl, Nat.le_of_ble_eq_true rfl⟩) P_nil rfl hl.1 rfl (Nat.le_of_ble_eq_true rfl) rfl dX6_next_2 ⟨Nat.zero_le _, Nat.zero_le _⟩ ?_
  refine lv_if_eq (tgt := 31) hx hb dX6_next_5 (by decide) (fun c_5 => ?_) (fun c_5 => ?_)
  · replace hf := it_p c_5 hf
    refine lv_ldc (own := RX6) (v := (-1000001)) hx hb hown hw_0 dX6_next_31 ?_
    obtain rfl := Option.some.inj hf
    rw [← hQe]
    exact W.iret (v := (-1000001)) hx hb hr (fun t ht hW => ⟨rfl, ht⟩) (fun q h => by cases h) dX6_next_33
  · replace hf := it_n c_5 hf
    refine lv_iload_n hx hb dX6_next_8 rfl (lv_at hl 3 rfl) ?_
    refine lv_sipush (v := (-1000)) hx hb dX6_next_9 (by decide) ?_
    refine lv_icmp_lt (tgt := 31) hx hb dX6_next_12 (by decide) (fun c_12 => ?_) (fun c_12 => ?_)
    · replace hf := it_p c_12 hf
      refine lv_ldc (own := RX6) (v := (-1000001)) hx hb hown hw_0 dX6_next_31 ?_
      obtain rfl := Option.some.inj hf
      rw [← hQe]
      exact W.iret (v := (-1000001)) hx hb hr (fun t ht hW => ⟨rfl, ht⟩) (fun q h => by cases h) dX6_next_33
    · replace hf := it_n c_12 hf
      refine lv_iload_n hx hb dX6_next_15 rfl (lv_at hl 3 rfl) ?_
      refine lv_sipush (v := 1000) hx hb dX6_next_16 (by decide) ?_
      refine lv_icmp_gt (tgt := 31) hx hb dX6_next_19 (by decide) (fun c_19 => ?_) (fun c_19 => ?_)
      · replace hf := it_p c_19 hf
        refine lv_ldc (own := RX6) (v := (-1000001)) hx hb hown hw_0 dX6_next_31 ?_
        obtain rfl := Option.some.inj hf
        rw [← hQe]
        exact W.iret (v := (-1000001)) hx hb hr (fun t ht hW => ⟨rfl, ht⟩) (fun q h => by cases h) dX6_next_33
      · replace hf := it_n c_19 hf
        refine lv_iload_n hx hb dX6_next_22 rfl (lv_at hl 3 rfl) ?_
        refine lv_iload_n hx hb dX6_next_23 rfl (lv_at hl 2 rfl) ?_
        replace hf := ob_e hf
        obtain ⟨u_24, hu_24, hf⟩ := hf
        refine isR (As := [.int x3, .int x2]) (rest := []) (st1 := [.int u_24]) ⟨hx, hb, hml, hown, hts⟩ hK hN (KX6_commonDivisor l D cy x3 x2 s.heap.size hu_24) (va_cwS 2 hts gX6_next_X6_commonDivisor rfl rfl rfl (by decide +kernel) ⟨Nat.le_of_ble_eq_true rfl, Nat.le_of_ble_eq_true rfl⟩) P_nil rfl hl.1 rfl (Nat.le_of_ble_eq_true rfl) rfl dX6_next_24 ⟨Nat.zero_le _, Nat.zero_le _⟩ ?_
        refine lv_iconst (v := 1) hx hb dX6_next_27 (by decide) ?_
        refine lv_icmp_eq (tgt := 34) hx hb dX6_next_28 (by decide) (fun c_28 => ?_) (fun c_28 => ?_)
        · replace hf := it_p c_28 hf
          refine lv_iload_n hx hb dX6_next_34 rfl (lv_at hl 1 rfl) ?_
          refine lv_iload_n hx hb dX6_next_35 rfl (lv_at hl 2 rfl) ?_
          refine lv_iload_n hx hb dX6_next_36 rfl (lv_at hl 3 rfl) ?_
          replace hf := ob_e hf
          obtain ⟨u_37, hu_37, hf⟩ := hf
          refine isR (As := [.int x1, .int x2, .int x3]) (rest := []) (st1 := [.int u_37]) ⟨hx, hb, hml, hown, hts⟩ hK hN (KX0_image l D cy x1 x2 x3 s.heap.size hu_37) (va_cwS 3 hts gX6_next_X0_image rfl rfl rfl (by decide +kernel) ⟨Nat.le_of_ble_eq_true rfl, Nat.le_of_ble_eq_true rfl⟩) P_nil rfl hl.1 rfl (Nat.le_of_ble_eq_true rfl) rfl dX6_next_37 ⟨Nat.zero_le _, Nat.zero_le _⟩ ?_
          obtain rfl := Option.some.inj hf
          rw [← hQe]
          exact W.iret (v := u_37) hx hb hr (fun t ht hW => ⟨rfl, ht⟩) (fun q h => by cases h) dX6_next_40
        · replace hf := it_n c_28 hf
          refine lv_ldc (own := RX6) (v := (-1000001)) hx hb hown hw_0 dX6_next_31 ?_
          obtain rfl := Option.some.inj hf
          rw [← hQe]
          exact W.iret (v := (-1000001)) hx hb hr (fun t ht hW => ⟨rfl, ht⟩) (fun q h => by cases h) dX6_next_33
def FX6_sheetsThere_J33  (k13 : Int32 → Int32 → Option (Int32)) (x1_33 : Int32) (x3_13 : Int32) (x4_33 : Int32) (sh : Nat → Option Nat) : Option (Int32) := (bd (x4_33 + 1) (fun v_33 => k13 x1_33 v_33))
def FX6_sheetsThere_L13   (x3_13 : Int32) (sh : Nat → Option Nat) : Nat → Int32 → Int32 → Option (Int32)
  | 0, _, _ => none
  | fuel + 1, x1_13, x4_13 => (if x3_13 ≤ x4_13 then (some (x1_13)) else (gi x4_13 8 (bd (sh (Int32.toNatClampNeg x4_13)) (fun o_22 => oq o_22 (FX6_sheetsThere_J33 (FX6_sheetsThere_L13 x3_13 sh fuel) x1_13 x3_13 x4_13 sh) (fun a_27 => (bd (x1_13 + 1) (fun v_30 => FX6_sheetsThere_J33 (FX6_sheetsThere_L13 x3_13 sh fuel) v_30 x3_13 x4_13 sh)))))))
def FX6_sheetsThere  (sh : Nat → Option Nat)  : Option (Int32) := (bd (Int32.ofNat 8) (fun v_9 => FX6_sheetsThere_L13 v_9 sh FU 0 0))
abbrev RMX6_sheetsThere : Room := { frames := 0, cells := 0, slots := 0, locals := 0 }
set_option maxHeartbeats 4000000 in
set_option maxRecDepth 100000 in
theorem KX6_sheetsThere (l : Launch) (D : va_G) (cy : Nat → ClassId) (ad : Nat → Nat) (xp : Int32) (xt : Int32) (xs : Int32) (sh : Nat → Option Nat)  (sz : Nat) {out : Int32} (hf : FX6_sheetsThere sh = some out) : Met l yX6_sheetsThere wsX6_sheetsThere RMX6_sheetsThere (PW D cy [.ref (ad 0)] sz [] ((wX6_0_1 cy ad xp xt xs sh))) (QR (some (.int out))) 0 0 no_A := by
  refine Met.ofW (cc := cX6_sheetsThere) (maxL := 6) (ret := (some .int)) (by decide +kernel) rfl ?_
  intro p e s m args below meth c s₁ B hml hv
  obtain ⟨hav, hsz, hP, hR0, hK, hN, hD0, hsep⟩ := hv
  have hx := B.exec
  have hb := B.bytes
  have hr := B.returns
  have hts := atoms_spec (ws := wsX6_sheetsThere) B.pre
  have hown : s.vm.findClass RX6 = some m.cls := findClass_of_methodNamed B.named
  have hlocks := B.notSynchronized
  subst hsz
  have hin_X6 : ∀ w ∈ u_ws RX6 TX6 10, w ∈ wsX6_sheetsThere := by decide +kernel
  have hw_0 := hts (.fieldLink RX6 19 "ReturnPoints" "sheets" "[LReturnPoints$Sheet;") (by decide +kernel)
  obtain ⟨ls, hfr, hl⟩ := ent_ok (m := m) (n := 6) (l' := [(0, .ref (ad 0))]) [.ref (ad 0)] hav (Nat.le_of_ble_eq_true rfl) rfl
  rw [hfr]
  generalize hQe : MQ below (QR (some (.int out))) args s 0 0 no_A = QQ
  change W p l e RMX6_sheetsThere s m args below meth c s.heap [] 0 0 QQ (F0 m 0 ls [])
  have L13 : ∀ (x3_13 : Int32) (n13 : Nat) (ls : Array Slot) (x1_13 : Int32) (x4_13 : Int32), FX6_sheetsThere_L13 x3_13 sh n13 x1_13 x4_13 = some out → lv_has ls 6 [(1, .int x1_13), (2, .ref (ad 1)), (3, .int x3_13), (4, .int x4_13)] → W p l e RMX6_sheetsThere s m args below meth c s.heap [] 0 0 QQ (F0 m 13 ls []) := by
    intro x3_13 n13
    induction n13 with
    | zero => intro ls x1_13 x4_13 hf; simp [FX6_sheetsThere_L13] at hf
    | succ n13 ih13 =>
      intro ls x1_13 x4_13 hf hl
      rw [FX6_sheetsThere_L13] at hf
      have J33 : ∀ (ls : Array Slot) (x1_33 : Int32) (x4_33 : Int32), FX6_sheetsThere_J33 (FX6_sheetsThere_L13 x3_13 sh n13) x1_33 x3_13 x4_33 sh = some out → lv_has ls 6 [(1, .int x1_33), (2, .ref (ad 1)), (3, .int x3_13), (4, .int x4_33)] → W p l e RMX6_sheetsThere s m args below meth c s.heap [] 0 0 QQ (F0 m 33 ls []) := by
        intro ls x1_33 x4_33 hf hl
        unfold FX6_sheetsThere_J33 at hf
        obtain ⟨v_33, e_33⟩ : ∃ y : Int32, y = x4_33 + 1 := ⟨_, rfl⟩
        replace hf := bd_at e_33 hf
        refine lv_iinc (v := v_33) (lv' := [(4, .int v_33), (1, .int x1_33), (2, .ref (ad 1)), (3, .int x3_13)]) hx hb dX6_sheetsThere_33 hl (k := 3) rfl (by rw [e_33]; rfl) (by decide) rfl (fun ls hl => ?_)
        clear e_33
        refine lv_goto (tgt := 13) hx hb dX6_sheetsThere_36 (by decide) ?_
        exact ih13 ls x1_33 v_33 hf (lv_sub hl [1, 2, 3, 0] rfl)
      refine lv_iload hx hb dX6_sheetsThere_13 (lv_at hl 3 rfl) ?_
      refine lv_iload_n hx hb dX6_sheetsThere_15 rfl (lv_at hl 2 rfl) ?_
      refine lv_icmp_ge (tgt := 39) hx hb dX6_sheetsThere_16 (by decide) (fun c_16 => ?_) (fun c_16 => ?_)
      · replace hf := it_p c_16 hf
        refine lv_iload_n hx hb dX6_sheetsThere_39 rfl (lv_at hl 0 rfl) ?_
        obtain rfl := Option.some.inj hf
        rw [← hQe]
        exact W.iret (v := x1_13) hx hb hr (fun t ht hW => ⟨rfl, ht⟩) (fun q h => by cases h) dX6_sheetsThere_40
      · replace hf := it_n c_16 hf
        refine lv_aload_n hx hb dX6_sheetsThere_19 rfl (lv_at hl 1 rfl) ?_
        refine lv_iload hx hb dX6_sheetsThere_20 (lv_at hl 3 rfl) ?_
        replace hf := gi_e hf
        obtain ⟨i_22, hf⟩ := hf
        refine va_aldq (a := (ad 1)) hx hb hK hR0 1 3 rfl rfl i_22 dX6_sheetsThere_22 ?_
        refine top_q (fun o_22 e_22 => ?_)
        replace hf := bd_at e_22 hf
        clear e_22
        refine lv_Qastore (lv' := [(5, va_rf o_22), (1, .int x1_13), (2, .ref (ad 1)), (3, .int x3_13), (4, .int x4_13)]) hx hb dX6_sheetsThere_23 hl (by decide) rfl (fun ls hl => ?_)
        refine lv_Qaload hx hb dX6_sheetsThere_25 (lv_at hl 0 rfl) ?_
        replace hf := oq_e hf
        rcases hf with ⟨rfl, hf⟩ | ⟨a_27, rfl, hf⟩
        · have hl : lv_has ls 6 [(5, .null), (1, .int x1_13), (2, .ref (ad 1)), (3, .int x3_13), (4, .int x4_13)] := hl
          refine lv_ifnullN (tgt := 33) hx hb dX6_sheetsThere_27 (by decide) ?_
          exact J33 ls x1_13 x4_13 hf (lv_sub hl [1, 2, 3, 4] rfl)
        · have hl : lv_has ls 6 [(5, .ref a_27), (1, .int x1_13), (2, .ref (ad 1)), (3, .int x3_13), (4, .int x4_13)] := hl
          refine lv_ifnull hx hb dX6_sheetsThere_27 ?_
          obtain ⟨v_30, e_30⟩ : ∃ y : Int32, y = x1_13 + 1 := ⟨_, rfl⟩
          replace hf := bd_at e_30 hf
          refine lv_iinc (v := v_30) (lv' := [(1, .int v_30), (5, .ref a_27), (2, .ref (ad 1)), (3, .int x3_13), (4, .int x4_13)]) hx hb dX6_sheetsThere_30 hl (k := 1) rfl (by rw [e_30]; rfl) (by decide) rfl (fun ls hl => ?_)
          clear e_30
          exact J33 ls v_30 x4_13 hf (lv_sub hl [0, 2, 3, 4] rfl)
  unfold FX6_sheetsThere at hf
  refine lv_iconst (v := 0) hx hb dX6_sheetsThere_0 (by decide) ?_
  refine lv_istore_n (lv' := [(1, .int 0), (0, .ref (ad 0))]) hx hb dX6_sheetsThere_1 rfl hl (by decide) rfl (fun ls hl => ?_)
  refine lv_aload_n hx hb dX6_sheetsThere_2 rfl (lv_at hl 1 rfl) ?_
  refine va_get (a := (ad 0)) (ci := 6) (v := .ref (ad 1)) (C := RX6) (T := TX6) (N := 10) hx hb hts hin_X6 hown hK hR0 0 rfl rfl 1 (by decide) hw_0 (fun _ h => h) rfl dX6_sheetsThere_3 ?_
  refine lv_astore_n (lv' := [(2, .ref (ad 1)), (1, .int 0), (0, .ref (ad 0))]) hx hb dX6_sheetsThere_6 rfl hl (by decide) rfl (fun ls hl => ?_)
  refine lv_aload_n hx hb dX6_sheetsThere_7 rfl (lv_at hl 0 rfl) ?_
  refine va_alen (a := (ad 1)) (v := (Int32.ofNat 8)) hx hb hK hR0 1 3 rfl rfl rfl dX6_sheetsThere_8 ?_
  refine lv_topi (fun v_9 e_9 => ?_)
  replace hf := bd_at e_9 hf
  clear e_9
  refine lv_istore_n (lv' := [(3, .int v_9), (2, .ref (ad 1)), (1, .int 0), (0, .ref (ad 0))]) hx hb dX6_sheetsThere_9 rfl hl (by decide) rfl (fun ls hl => ?_)
  refine lv_iconst (v := 0) hx hb dX6_sheetsThere_10 (by decide) ?_
  refine lv_istore (lv' := [(4, .int 0), (3, .int v_9), (2, .ref (ad 1)), (1, .int 0), (0, .ref (ad 0))]) hx hb dX6_sheetsThere_11 hl (by decide) rfl (fun ls hl => ?_)
  exact L13 v_9 FU ls 0 0 hf (lv_sub hl [3, 2, 1, 0] rfl)
def FX6_mapsOf_J44  (k14 : Int32 → Int32 → Option (Int32)) (x1 : Int32) (x2_44 : Int32) (x4_14 : Int32) (x5_44 : Int32) (sf : Nat → Option Nat) (PL : List Nat) (ppp : Nat → Int32) (pca : Nat → Nat) (pdg : Nat → Int32) (ptd : Nat → Int32) (pcc : Nat → Nat → Int32) : Option (Int32) := (bd (x5_44 + 1) (fun v_44 => k14 x2_44 v_44))
def FX6_mapsOf_L14   (x1 : Int32) (x4_14 : Int32) (sf : Nat → Option Nat) (PL : List Nat) (ppp : Nat → Int32) (pca : Nat → Nat) (pdg : Nat → Int32) (ptd : Nat → Int32) (pcc : Nat → Nat → Int32) : Nat → Int32 → Int32 → Option (Int32)
  | 0, _, _ => none
  | fuel + 1, x2_14, x5_14 => (if x4_14 ≤ x5_14 then (some (x2_14)) else (gi x5_14 10 (bd (sf (Int32.toNatClampNeg x5_14)) (fun o_24 => oq o_24 (FX6_mapsOf_J44 (FX6_mapsOf_L14 x1 x4_14 sf PL ppp pca pdg ptd pcc fuel) x1 x2_14 x4_14 x5_14 sf PL ppp pca pdg ptd pcc) (fun a_29 => gd (a_29 ∈ PL) ((ob (FX2_fits (ptd a_29) x1) (fun u_35 => if (bi u_35) = 0 then FX6_mapsOf_J44 (FX6_mapsOf_L14 x1 x4_14 sf PL ppp pca pdg ptd pcc fuel) x1 x2_14 x4_14 x5_14 sf PL ppp pca pdg ptd pcc else (bd (x2_14 + 1) (fun v_41 => FX6_mapsOf_J44 (FX6_mapsOf_L14 x1 x4_14 sf PL ppp pca pdg ptd pcc fuel) x1 v_41 x4_14 x5_14 sf PL ppp pca pdg ptd pcc))))))))))
def FX6_mapsOf  (sf : Nat → Option Nat) (PL : List Nat) (ppp : Nat → Int32) (pca : Nat → Nat) (pdg : Nat → Int32) (ptd : Nat → Int32) (pcc : Nat → Nat → Int32) (x1 : Int32) : Option (Int32) := (bd (Int32.ofNat 10) (fun v_9 => FX6_mapsOf_L14 x1 v_9 sf PL ppp pca pdg ptd pcc FU 0 0))
abbrev RMX6_mapsOf : Room := { frames := 1, cells := 0, slots := 0, locals := 21 }
set_option maxHeartbeats 4000000 in
set_option maxRecDepth 100000 in
theorem KX6_mapsOf (l : Launch) (D : va_G) (cy : Nat → ClassId) (ad : Nat → Nat) (xp : Int32) (xt : Int32) (xs : Int32) (sf : Nat → Option Nat) (PL : List Nat) (ppp : Nat → Int32) (pca : Nat → Nat) (pdg : Nat → Int32) (ptd : Nat → Int32) (pcc : Nat → Nat → Int32) (x1 : Int32) (sz : Nat) {out : Int32} (hf : FX6_mapsOf sf PL ppp pca pdg ptd pcc x1 = some out) : Met l yX6_mapsOf wsX6_mapsOf RMX6_mapsOf (PW D cy [.ref (ad 0), .int x1] sz [] ((wX6_0_2 cy ad xp xt xs sf) ++ (sgP cy PL ppp pca pdg ptd pcc))) (QR (some (.int out))) 0 0 no_A := by
  refine Met.ofW (cc := cX6_mapsOf) (maxL := 7) (ret := (some .int)) (by decide +kernel) rfl ?_
  intro p e s m args below meth c s₁ B hml hv
  obtain ⟨hav, hsz, hP, hR0, hK, hN, hD0, hsep⟩ := hv
  have hx := B.exec
  have hb := B.bytes
  have hr := B.returns
  have hts := atoms_spec (ws := wsX6_mapsOf) B.pre
  have hown : s.vm.findClass RX6 = some m.cls := findClass_of_methodNamed B.named
  have hlocks := B.notSynchronized
  subst hsz
  have hin_X6 : ∀ w ∈ u_ws RX6 TX6 10, w ∈ wsX6_mapsOf := by decide +kernel
  have hw_0 := hts (.fieldLink RX6 25 "ReturnPoints" "shelf" "[LReturnPoints$Poly;") (by decide +kernel)
  obtain ⟨ls, hfr, hl⟩ := ent_ok (m := m) (n := 7) (l' := [(0, .ref (ad 0)), (1, .int x1)]) [.ref (ad 0), .int x1] hav (Nat.le_of_ble_eq_true rfl) rfl
  rw [hfr]
  generalize hQe : MQ below (QR (some (.int out))) args s 0 0 no_A = QQ
  change W p l e RMX6_mapsOf s m args below meth c s.heap [] 0 0 QQ (F0 m 0 ls [])
  have L14 : ∀ (x4_14 : Int32) (n14 : Nat) (ls : Array Slot) (x2_14 : Int32) (x5_14 : Int32), FX6_mapsOf_L14 x1 x4_14 sf PL ppp pca pdg ptd pcc n14 x2_14 x5_14 = some out → lv_has ls 7 [(1, .int x1), (2, .int x2_14), (3, .ref (ad 2)), (4, .int x4_14), (5, .int x5_14)] → W p l e RMX6_mapsOf s m args below meth c s.heap [] 0 0 QQ (F0 m 14 ls []) := by
    intro x4_14 n14
    induction n14 with
    | zero => intro ls x2_14 x5_14 hf; simp [FX6_mapsOf_L14] at hf
    | succ n14 ih14 =>
      intro ls x2_14 x5_14 hf hl
      rw [FX6_mapsOf_L14] at hf
      have J44 : ∀ (ls : Array Slot) (x2_44 : Int32) (x5_44 : Int32), FX6_mapsOf_J44 (FX6_mapsOf_L14 x1 x4_14 sf PL ppp pca pdg ptd pcc n14) x1 x2_44 x4_14 x5_44 sf PL ppp pca pdg ptd pcc = some out → lv_has ls 7 [(1, .int x1), (2, .int x2_44), (3, .ref (ad 2)), (4, .int x4_14), (5, .int x5_44)] → W p l e RMX6_mapsOf s m args below meth c s.heap [] 0 0 QQ (F0 m 44 ls []) := by
        intro ls x2_44 x5_44 hf hl
        unfold FX6_mapsOf_J44 at hf
        obtain ⟨v_44, e_44⟩ : ∃ y : Int32, y = x5_44 + 1 := ⟨_, rfl⟩
        replace hf := bd_at e_44 hf
        refine lv_iinc (v := v_44) (lv' := [(5, .int v_44), (1, .int x1), (2, .int x2_44), (3, .ref (ad 2)), (4, .int x4_14)]) hx hb dX6_mapsOf_44 hl (k := 4) rfl (by rw [e_44]; rfl) (by decide) rfl (fun ls hl => ?_)
        clear e_44
        refine lv_goto (tgt := 14) hx hb dX6_mapsOf_47 (by decide) ?_
        exact ih14 ls x2_44 v_44 hf (lv_sub hl [1, 2, 3, 4, 0] rfl)
      refine lv_iload hx hb dX6_mapsOf_14 (lv_at hl 4 rfl) ?_
      refine lv_iload hx hb dX6_mapsOf_16 (lv_at hl 3 rfl) ?_
      refine lv_icmp_ge (tgt := 50) hx hb dX6_mapsOf_18 (by decide) (fun c_18 => ?_) (fun c_18 => ?_)
      · replace hf := it_p c_18 hf
        refine lv_iload_n hx hb dX6_mapsOf_50 rfl (lv_at hl 1 rfl) ?_
        obtain rfl := Option.some.inj hf
        rw [← hQe]
        exact W.iret (v := x2_14) hx hb hr (fun t ht hW => ⟨rfl, ht⟩) (fun q h => by cases h) dX6_mapsOf_51
      · replace hf := it_n c_18 hf
        refine lv_aload_n hx hb dX6_mapsOf_21 rfl (lv_at hl 2 rfl) ?_
        refine lv_iload hx hb dX6_mapsOf_22 (lv_at hl 4 rfl) ?_
        replace hf := gi_e hf
        obtain ⟨i_24, hf⟩ := hf
        refine va_aldq (a := (ad 2)) hx hb hK hR0 1 4 rfl rfl i_24 dX6_mapsOf_24 ?_
        refine top_q (fun o_24 e_24 => ?_)
        replace hf := bd_at e_24 hf
        clear e_24
        refine lv_Qastore (lv' := [(6, va_rf o_24), (1, .int x1), (2, .int x2_14), (3, .ref (ad 2)), (4, .int x4_14), (5, .int x5_14)]) hx hb dX6_mapsOf_25 hl (by decide) rfl (fun ls hl => ?_)
        refine lv_Qaload hx hb dX6_mapsOf_27 (lv_at hl 0 rfl) ?_
        replace hf := oq_e hf
        rcases hf with ⟨rfl, hf⟩ | ⟨a_29, rfl, hf⟩
        · have hl : lv_has ls 7 [(6, .null), (1, .int x1), (2, .int x2_14), (3, .ref (ad 2)), (4, .int x4_14), (5, .int x5_14)] := hl
          refine lv_ifnullN (tgt := 44) hx hb dX6_mapsOf_29 (by decide) ?_
          exact J44 ls x2_14 x5_14 hf (lv_sub hl [1, 2, 3, 4, 5] rfl)
        · replace hf := gd_e hf
          obtain ⟨m_a_29, hf⟩ := hf
          have hl : lv_has ls 7 [(6, .ref a_29), (1, .int x1), (2, .int x2_14), (3, .ref (ad 2)), (4, .int x4_14), (5, .int x5_14)] := hl
          refine lv_ifnull hx hb dX6_mapsOf_29 ?_
          refine lv_aload hx hb dX6_mapsOf_32 (lv_at hl 0 rfl) ?_
          refine lv_iload_n hx hb dX6_mapsOf_34 rfl (lv_at hl 1 rfl) ?_
          replace hf := ob_e hf
          obtain ⟨u_35, hu_35, hf⟩ := hf
          have hQ_a_29 : va_P D vwCl (wX2_0_1 cy (adP pca a_29) 5 (ppp a_29) (pdg a_29) (ptd a_29) (pcc a_29)) s.heap := P_two (P_right hR0) (sgP_1 m_a_29) (sgP_2 m_a_29)
          have hQ_a_29 : va_P D vwCl (wX2_0_1 cy (adP pca a_29) 5 (ppp a_29) (pdg a_29) (ptd a_29) (pcc a_29)) s.heap := P_two (P_right hR0) (sgP_1 m_a_29) (sgP_2 m_a_29)
          refine ivR (As := [.int x1]) (rest := []) (st1 := [.int (bi u_35)]) ⟨hx, hb, hml, hown, hts⟩ hK hN (KX2_fits l D cy (adP pca a_29) (ppp a_29) (pdg a_29) (ptd a_29) x1 s.heap.size hu_35) (cwV 1 hts gX6_mapsOf_X2_fits rfl rfl rfl (by decide +kernel) ⟨Nat.le_of_ble_eq_true rfl, Nat.le_of_ble_eq_true rfl⟩) (va_recv hK hQ_a_29 (ci := 2) (q0 := 0) rfl rfl) (P_pl (wc := (wX2_0 cy (adP pca a_29) (ppp a_29) (pdg a_29) (ptd a_29))) (is := [0]) hQ_a_29 rfl) rfl hl.1 rfl (Nat.le_of_ble_eq_true rfl) rfl dX6_mapsOf_35 ⟨Nat.zero_le _, Nat.zero_le _⟩ ?_
          refine lv_if_eq (tgt := 44) hx hb dX6_mapsOf_38 (by decide) (fun c_38 => ?_) (fun c_38 => ?_)
          · replace hf := it_p c_38 hf
            exact J44 ls x2_14 x5_14 hf (lv_sub hl [1, 2, 3, 4, 5] rfl)
          · replace hf := it_n c_38 hf
            obtain ⟨v_41, e_41⟩ : ∃ y : Int32, y = x2_14 + 1 := ⟨_, rfl⟩
            replace hf := bd_at e_41 hf
            refine lv_iinc (v := v_41) (lv' := [(2, .int v_41), (6, .ref a_29), (1, .int x1), (3, .ref (ad 2)), (4, .int x4_14), (5, .int x5_14)]) hx hb dX6_mapsOf_41 hl (k := 2) rfl (by rw [e_41]; rfl) (by decide) rfl (fun ls hl => ?_)
            clear e_41
            exact J44 ls v_41 x5_14 hf (lv_sub hl [2, 0, 3, 4, 5] rfl)
  unfold FX6_mapsOf at hf
  refine lv_iconst (v := 0) hx hb dX6_mapsOf_0 (by decide) ?_
  refine lv_istore_n (lv' := [(2, .int 0), (0, .ref (ad 0)), (1, .int x1)]) hx hb dX6_mapsOf_1 rfl hl (by decide) rfl (fun ls hl => ?_)
  refine lv_aload_n hx hb dX6_mapsOf_2 rfl (lv_at hl 1 rfl) ?_
  refine va_get (a := (ad 0)) (ci := 6) (v := .ref (ad 2)) (C := RX6) (T := TX6) (N := 10) hx hb hts hin_X6 hown hK hR0 0 rfl rfl 2 (by decide) hw_0 (fun _ h => h) rfl dX6_mapsOf_3 ?_
  refine lv_astore_n (lv' := [(3, .ref (ad 2)), (2, .int 0), (0, .ref (ad 0)), (1, .int x1)]) hx hb dX6_mapsOf_6 rfl hl (by decide) rfl (fun ls hl => ?_)
  refine lv_aload_n hx hb dX6_mapsOf_7 rfl (lv_at hl 0 rfl) ?_
  refine va_alen (a := (ad 2)) (v := (Int32.ofNat 10)) hx hb hK hR0 1 4 rfl rfl rfl dX6_mapsOf_8 ?_
  refine lv_topi (fun v_9 e_9 => ?_)
  replace hf := bd_at e_9 hf
  clear e_9
  refine lv_istore (lv' := [(4, .int v_9), (3, .ref (ad 2)), (2, .int 0), (0, .ref (ad 0)), (1, .int x1)]) hx hb dX6_mapsOf_9 hl (by decide) rfl (fun ls hl => ?_)
  refine lv_iconst (v := 0) hx hb dX6_mapsOf_11 (by decide) ?_
  refine lv_istore (lv' := [(5, .int 0), (4, .int v_9), (3, .ref (ad 2)), (2, .int 0), (0, .ref (ad 0)), (1, .int x1)]) hx hb dX6_mapsOf_12 hl (by decide) rfl (fun ls hl => ?_)
  exact L14 v_9 FU ls 0 0 hf (lv_sub hl [5, 3, 2, 1, 0] rfl)
def FX6_count  (xp : Int32) (sh : Nat → Option Nat) (sf : Nat → Option Nat) (PL : List Nat) (ppp : Nat → Int32) (pca : Nat → Nat) (pdg : Nat → Int32) (ptd : Nat → Int32) (pcc : Nat → Nat → Int32) (x1 : Int32) : Option (Int32) := (if x1 = 0 then (ob (FX6_sheetsThere sh) (fun u_49 => some (u_49))) else if x1 = 1 then (ob (FX6_mapsOf sf PL ppp pca pdg ptd pcc 0) (fun u_55 => some (u_55))) else if x1 = 2 then (ob (FX6_mapsOf sf PL ppp pca pdg ptd pcc 1) (fun u_61 => some (u_61))) else if x1 = 3 then (ob (FX6_mapsOf sf PL ppp pca pdg ptd pcc 2) (fun u_67 => some (u_67))) else if x1 = 4 then (ob (FX6_mapsOf sf PL ppp pca pdg ptd pcc 3) (fun u_73 => some (u_73))) else if x1 = 5 then (ob (FX6_mapsOf sf PL ppp pca pdg ptd pcc 4) (fun u_79 => some (u_79))) else if x1 = 6 then (ob (FX6_mapsOf sf PL ppp pca pdg ptd pcc 5) (fun u_85 => some (u_85))) else if x1 = 7 then (some (xp)) else (some ((-1000001))))
abbrev RMX6_count : Room := { frames := 2, cells := 0, slots := 0, locals := 47 }
set_option maxHeartbeats 4000000 in
set_option maxRecDepth 100000 in
theorem KX6_count (l : Launch) (D : va_G) (cy : Nat → ClassId) (ad : Nat → Nat) (xp : Int32) (xt : Int32) (xs : Int32) (sh : Nat → Option Nat) (sf : Nat → Option Nat) (PL : List Nat) (ppp : Nat → Int32) (pca : Nat → Nat) (pdg : Nat → Int32) (ptd : Nat → Int32) (pcc : Nat → Nat → Int32) (x1 : Int32) (sz : Nat) {out : Int32} (hf : FX6_count xp sh sf PL ppp pca pdg ptd pcc x1 = some out) : Met l yX6_count wsX6_count RMX6_count (PW D cy [.ref (ad 0), .int x1] sz [] ((wX6_0_1_2 cy ad xp xt xs sh sf) ++ (sgP cy PL ppp pca pdg ptd pcc))) (QR (some (.int out))) 0 0 no_A := by
  refine Met.ofW (cc := cX6_count) (maxL := 2) (ret := (some .int)) (by decide +kernel) rfl ?_
  intro p e s m args below meth c s₁ B hml hv
  obtain ⟨hav, hsz, hP, hR0, hK, hN, hD0, hsep⟩ := hv
  have hx := B.exec
  have hb := B.bytes
  have hr := B.returns
  have hts := atoms_spec (ws := wsX6_count) B.pre
  have hown : s.vm.findClass RX6 = some m.cls := findClass_of_methodNamed B.named
  have hlocks := B.notSynchronized
  subst hsz
  have hin_X6 : ∀ w ∈ u_ws RX6 TX6 10, w ∈ wsX6_count := by decide +kernel
  have hw_0 := hts (.constant RX6 68 (-1000001)) (by decide +kernel)
  have hw_1 := hts (.fieldLink RX6 13 "ReturnPoints" "p" "I") (by decide +kernel)
  obtain ⟨ls, hfr, hl⟩ := ent_ok (m := m) (n := 2) (l' := [(0, .ref (ad 0)), (1, .int x1)]) [.ref (ad 0), .int x1] hav (Nat.le_of_ble_eq_true rfl) rfl
  rw [hfr]
  generalize hQe : MQ below (QR (some (.int out))) args s 0 0 no_A = QQ
  change W p l e RMX6_count s m args below meth c s.heap [] 0 0 QQ (F0 m 0 ls [])
  unfold FX6_count at hf
  refine lv_iload_n hx hb dX6_count_0 rfl (lv_at hl 1 rfl) ?_
  by_cases c_1_0 : x1 = 0
  · replace hf := it_p c_1_0 hf
    refine lv_tableIn (tgt := 48) (off := 47) hx hb dX6_count_1 (by rw [c_1_0]; decide) (by rw [c_1_0]; decide) (by rw [c_1_0]; rfl) (by decide) ?_
    refine lv_aload_n hx hb dX6_count_48 rfl (lv_at hl 0 rfl) ?_
    replace hf := ob_e hf
    obtain ⟨u_49, hu_49, hf⟩ := hf
    refine ivR (As := []) (rest := []) (st1 := [.int u_49]) ⟨hx, hb, hml, hown, hts⟩ hK hN (KX6_sheetsThere l D cy ad xp xt xs sh s.heap.size hu_49) (cwV 0 hts gX6_count_X6_sheetsThere rfl rfl rfl (by decide +kernel) ⟨Nat.le_of_ble_eq_true rfl, Nat.le_of_ble_eq_true rfl⟩) (va_recv hK hR0 (ci := 6) (q0 := 0) rfl rfl) (P_pl (wc := (wX6_0_1 cy ad xp xt xs sh)) (is := [0, 1]) hR0 rfl) rfl hl.1 rfl (Nat.le_of_ble_eq_true rfl) rfl dX6_count_49 ⟨Nat.zero_le _, Nat.zero_le _⟩ ?_
    obtain rfl := Option.some.inj hf
    rw [← hQe]
    exact W.iret (v := u_49) hx hb hr (fun t ht hW => ⟨rfl, ht⟩) (fun q h => by cases h) dX6_count_52
  replace hf := it_n c_1_0 hf
  by_cases c_1_1 : x1 = 1
  · replace hf := it_p c_1_1 hf
    refine lv_tableIn (tgt := 53) (off := 52) hx hb dX6_count_1 (by rw [c_1_1]; decide) (by rw [c_1_1]; decide) (by rw [c_1_1]; rfl) (by decide) ?_
    refine lv_aload_n hx hb dX6_count_53 rfl (lv_at hl 0 rfl) ?_
    refine lv_iconst (v := 0) hx hb dX6_count_54 (by decide) ?_
    replace hf := ob_e hf
    obtain ⟨u_55, hu_55, hf⟩ := hf
    refine ivR (As := [.int 0]) (rest := []) (st1 := [.int u_55]) ⟨hx, hb, hml, hown, hts⟩ hK hN (KX6_mapsOf l D cy ad xp xt xs sf PL ppp pca pdg ptd pcc 0 s.heap.size hu_55) (cwV 1 hts gX6_count_X6_mapsOf rfl rfl rfl (by decide +kernel) ⟨Nat.le_of_ble_eq_true rfl, Nat.le_of_ble_eq_true rfl⟩) (va_recv hK hR0 (ci := 6) (q0 := 0) rfl rfl) (va_P.app (P_pl (wc := (wX6_0_2 cy ad xp xt xs sf)) (is := [0, 2]) hR0 rfl) (P_right hR0)) rfl hl.1 rfl (Nat.le_of_ble_eq_true rfl) rfl dX6_count_55 ⟨Nat.zero_le _, Nat.zero_le _⟩ ?_
    obtain rfl := Option.some.inj hf
    rw [← hQe]
    exact W.iret (v := u_55) hx hb hr (fun t ht hW => ⟨rfl, ht⟩) (fun q h => by cases h) dX6_count_58
  replace hf := it_n c_1_1 hf
  by_cases c_1_2 : x1 = 2
  · replace hf := it_p c_1_2 hf
    refine lv_tableIn (tgt := 59) (off := 58) hx hb dX6_count_1 (by rw [c_1_2]; decide) (by rw [c_1_2]; decide) (by rw [c_1_2]; rfl) (by decide) ?_
    refine lv_aload_n hx hb dX6_count_59 rfl (lv_at hl 0 rfl) ?_
    refine lv_iconst (v := 1) hx hb dX6_count_60 (by decide) ?_
    replace hf := ob_e hf
    obtain ⟨u_61, hu_61, hf⟩ := hf
    refine ivR (As := [.int 1]) (rest := []) (st1 := [.int u_61]) ⟨hx, hb, hml, hown, hts⟩ hK hN (KX6_mapsOf l D cy ad xp xt xs sf PL ppp pca pdg ptd pcc 1 s.heap.size hu_61) (cwV 1 hts gX6_count_X6_mapsOf rfl rfl rfl (by decide +kernel) ⟨Nat.le_of_ble_eq_true rfl, Nat.le_of_ble_eq_true rfl⟩) (va_recv hK hR0 (ci := 6) (q0 := 0) rfl rfl) (va_P.app (P_pl (wc := (wX6_0_2 cy ad xp xt xs sf)) (is := [0, 2]) hR0 rfl) (P_right hR0)) rfl hl.1 rfl (Nat.le_of_ble_eq_true rfl) rfl dX6_count_61 ⟨Nat.zero_le _, Nat.zero_le _⟩ ?_
    obtain rfl := Option.some.inj hf
    rw [← hQe]
    exact W.iret (v := u_61) hx hb hr (fun t ht hW => ⟨rfl, ht⟩) (fun q h => by cases h) dX6_count_64
  replace hf := it_n c_1_2 hf
  by_cases c_1_3 : x1 = 3
  · replace hf := it_p c_1_3 hf
    refine lv_tableIn (tgt := 65) (off := 64) hx hb dX6_count_1 (by rw [c_1_3]; decide) (by rw [c_1_3]; decide) (by rw [c_1_3]; rfl) (by decide) ?_
    refine lv_aload_n hx hb dX6_count_65 rfl (lv_at hl 0 rfl) ?_
    refine lv_iconst (v := 2) hx hb dX6_count_66 (by decide) ?_
    replace hf := ob_e hf
    obtain ⟨u_67, hu_67, hf⟩ := hf
    refine ivR (As := [.int 2]) (rest := []) (st1 := [.int u_67]) ⟨hx, hb, hml, hown, hts⟩ hK hN (KX6_mapsOf l D cy ad xp xt xs sf PL ppp pca pdg ptd pcc 2 s.heap.size hu_67) (cwV 1 hts gX6_count_X6_mapsOf rfl rfl rfl (by decide +kernel) ⟨Nat.le_of_ble_eq_true rfl, Nat.le_of_ble_eq_true rfl⟩) (va_recv hK hR0 (ci := 6) (q0 := 0) rfl rfl) (va_P.app (P_pl (wc := (wX6_0_2 cy ad xp xt xs sf)) (is := [0, 2]) hR0 rfl) (P_right hR0)) rfl hl.1 rfl (Nat.le_of_ble_eq_true rfl) rfl dX6_count_67 ⟨Nat.zero_le _, Nat.zero_le _⟩ ?_
    obtain rfl := Option.some.inj hf
    rw [← hQe]
    exact W.iret (v := u_67) hx hb hr (fun t ht hW => ⟨rfl, ht⟩) (fun q h => by cases h) dX6_count_70
  replace hf := it_n c_1_3 hf
  by_cases c_1_4 : x1 = 4
  · replace hf := it_p c_1_4 hf
    refine lv_tableIn (tgt := 71) (off := 70) hx hb dX6_count_1 (by rw [c_1_4]; decide) (by rw [c_1_4]; decide) (by rw [c_1_4]; rfl) (by decide) ?_
    refine lv_aload_n hx hb dX6_count_71 rfl (lv_at hl 0 rfl) ?_
    refine lv_iconst (v := 3) hx hb dX6_count_72 (by decide) ?_
    replace hf := ob_e hf
    obtain ⟨u_73, hu_73, hf⟩ := hf
    refine ivR (As := [.int 3]) (rest := []) (st1 := [.int u_73]) ⟨hx, hb, hml, hown, hts⟩ hK hN (KX6_mapsOf l D cy ad xp xt xs sf PL ppp pca pdg ptd pcc 3 s.heap.size hu_73) (cwV 1 hts gX6_count_X6_mapsOf rfl rfl rfl (by decide +kernel) ⟨Nat.le_of_ble_eq_true rfl, Nat.le_of_ble_eq_true rfl⟩) (va_recv hK hR0 (ci := 6) (q0 := 0) rfl rfl) (va_P.app (P_pl (wc := (wX6_0_2 cy ad xp xt xs sf)) (is := [0, 2]) hR0 rfl) (P_right hR0)) rfl hl.1 rfl (Nat.le_of_ble_eq_true rfl) rfl dX6_count_73 ⟨Nat.zero_le _, Nat.zero_le _⟩ ?_
    obtain rfl := Option.some.inj hf
    rw [← hQe]
    exact W.iret (v := u_73) hx hb hr (fun t ht hW => ⟨rfl, ht⟩) (fun q h => by cases h) dX6_count_76
  replace hf := it_n c_1_4 hf
  by_cases c_1_5 : x1 = 5
  · replace hf := it_p c_1_5 hf
    refine lv_tableIn (tgt := 77) (off := 76) hx hb dX6_count_1 (by rw [c_1_5]; decide) (by rw [c_1_5]; decide) (by rw [c_1_5]; rfl) (by decide) ?_
    refine lv_aload_n hx hb dX6_count_77 rfl (lv_at hl 0 rfl) ?_
    refine lv_iconst (v := 4) hx hb dX6_count_78 (by decide) ?_
    replace hf := ob_e hf
    obtain ⟨u_79, hu_79, hf⟩ := hf
    refine ivR (As := [.int 4]) (rest := []) (st1 := [.int u_79]) ⟨hx, hb, hml, hown, hts⟩ hK hN (KX6_mapsOf l D cy ad xp xt xs sf PL ppp pca pdg ptd pcc 4 s.heap.size hu_79) (cwV 1 hts gX6_count_X6_mapsOf rfl rfl rfl (by decide +kernel) ⟨Nat.le_of_ble_eq_true rfl, Nat.le_of_ble_eq_true rfl⟩) (va_recv hK hR0 (ci := 6) (q0 := 0) rfl rfl) (va_P.app (P_pl (wc := (wX6_0_2 cy ad xp xt xs sf)) (is := [0, 2]) hR0 rfl) (P_right hR0)) rfl hl.1 rfl (Nat.le_of_ble_eq_true rfl) rfl dX6_count_79 ⟨Nat.zero_le _, Nat.zero_le _⟩ ?_
    obtain rfl := Option.some.inj hf
    rw [← hQe]
    exact W.iret (v := u_79) hx hb hr (fun t ht hW => ⟨rfl, ht⟩) (fun q h => by cases h) dX6_count_82
  replace hf := it_n c_1_5 hf
  by_cases c_1_6 : x1 = 6
  · replace hf := it_p c_1_6 hf
    refine lv_tableIn (tgt := 83) (off := 82) hx hb dX6_count_1 (by rw [c_1_6]; decide) (by rw [c_1_6]; decide) (by rw [c_1_6]; rfl) (by decide) ?_
    refine lv_aload_n hx hb dX6_count_83 rfl (lv_at hl 0 rfl) ?_
    refine lv_iconst (v := 5) hx hb dX6_count_84 (by decide) ?_
    replace hf := ob_e hf
    obtain ⟨u_85, hu_85, hf⟩ := hf
    refine ivR (As := [.int 5]) (rest := []) (st1 := [.int u_85]) ⟨hx, hb, hml, hown, hts⟩ hK hN (KX6_mapsOf l D cy ad xp xt xs sf PL ppp pca pdg ptd pcc 5 s.heap.size hu_85) (cwV 1 hts gX6_count_X6_mapsOf rfl rfl rfl (by decide +kernel) ⟨Nat.le_of_ble_eq_true rfl, Nat.le_of_ble_eq_true rfl⟩) (va_recv hK hR0 (ci := 6) (q0 := 0) rfl rfl) (va_P.app (P_pl (wc := (wX6_0_2 cy ad xp xt xs sf)) (is := [0, 2]) hR0 rfl) (P_right hR0)) rfl hl.1 rfl (Nat.le_of_ble_eq_true rfl) rfl dX6_count_85 ⟨Nat.zero_le _, Nat.zero_le _⟩ ?_
    obtain rfl := Option.some.inj hf
    rw [← hQe]
    exact W.iret (v := u_85) hx hb hr (fun t ht hW => ⟨rfl, ht⟩) (fun q h => by cases h) dX6_count_88
  replace hf := it_n c_1_6 hf
  by_cases c_1_7 : x1 = 7
  · replace hf := it_p c_1_7 hf
    refine lv_tableIn (tgt := 89) (off := 88) hx hb dX6_count_1 (by rw [c_1_7]; decide) (by rw [c_1_7]; decide) (by rw [c_1_7]; rfl) (by decide) ?_
    refine lv_aload_n hx hb dX6_count_89 rfl (lv_at hl 0 rfl) ?_
    refine va_get (a := (ad 0)) (ci := 6) (v := .int xp) (C := RX6) (T := TX6) (N := 10) hx hb hts hin_X6 hown hK hR0 0 rfl rfl 0 (by decide) hw_1 (fun _ h => h) rfl dX6_count_90 ?_
    obtain rfl := Option.some.inj hf
    rw [← hQe]
    exact W.iret (v := xp) hx hb hr (fun t ht hW => ⟨rfl, ht⟩) (fun q h => by cases h) dX6_count_93
  replace hf := it_n c_1_7 hf
  have hsw : (x1 : Int32).toInt < 0 ∨ 7 < (x1 : Int32).toInt := by
    have h0 : (x1 : Int32).toInt ≠ 0 := ne_toInt c_1_0
    have h1 : (x1 : Int32).toInt ≠ 1 := ne_toInt c_1_1
    have h2 : (x1 : Int32).toInt ≠ 2 := ne_toInt c_1_2
    have h3 : (x1 : Int32).toInt ≠ 3 := ne_toInt c_1_3
    have h4 : (x1 : Int32).toInt ≠ 4 := ne_toInt c_1_4
    have h5 : (x1 : Int32).toInt ≠ 5 := ne_toInt c_1_5
    have h6 : (x1 : Int32).toInt ≠ 6 := ne_toInt c_1_6
    have h7 : (x1 : Int32).toInt ≠ 7 := ne_toInt c_1_7
    omega
  refine lv_tableOut (tgt := 94) hx hb dX6_count_1 hsw (by decide) ?_
  refine lv_ldc (own := RX6) (v := (-1000001)) hx hb hown hw_0 dX6_count_94 ?_
  obtain rfl := Option.some.inj hf
  rw [← hQe]
  exact W.iret (v := (-1000001)) hx hb hr (fun t ht hW => ⟨rfl, ht⟩) (fun q h => by cases h) dX6_count_96
def FX6_status  (xs : Int32)  : Option (Int32) := (some (xs))
abbrev RMX6_status : Room := { frames := 0, cells := 0, slots := 0, locals := 0 }
set_option maxHeartbeats 4000000 in
set_option maxRecDepth 100000 in
theorem KX6_status (l : Launch) (D : va_G) (cy : Nat → ClassId) (ad : Nat → Nat) (xp : Int32) (xt : Int32) (xs : Int32)  (sz : Nat) {out : Int32} (hf : FX6_status xs = some out) : Met l yX6_status wsX6_status RMX6_status (PW D cy [.ref (ad 0)] sz [] ((wX6_0 cy ad xp xt xs))) (QR (some (.int out))) 0 0 no_A := by
  refine Met.ofW (cc := cX6_status) (maxL := 1) (ret := (some .int)) (by decide +kernel) rfl ?_
  intro p e s m args below meth c s₁ B hml hv
  obtain ⟨hav, hsz, hP, hR0, hK, hN, hD0, hsep⟩ := hv
  have hx := B.exec
  have hb := B.bytes
  have hr := B.returns
  have hts := atoms_spec (ws := wsX6_status) B.pre
  have hown : s.vm.findClass RX6 = some m.cls := findClass_of_methodNamed B.named
  have hlocks := B.notSynchronized
  subst hsz
  have hin_X6 : ∀ w ∈ u_ws RX6 TX6 10, w ∈ wsX6_status := by decide +kernel
  have hw_0 := hts (.fieldLink RX6 62 "ReturnPoints" "status" "I") (by decide +kernel)
  obtain ⟨ls, hfr, hl⟩ := ent_ok (m := m) (n := 1) (l' := [(0, .ref (ad 0))]) [.ref (ad 0)] hav (Nat.le_of_ble_eq_true rfl) rfl
  rw [hfr]
  generalize hQe : MQ below (QR (some (.int out))) args s 0 0 no_A = QQ
  change W p l e RMX6_status s m args below meth c s.heap [] 0 0 QQ (F0 m 0 ls [])
  unfold FX6_status at hf
  refine lv_aload_n hx hb dX6_status_0 rfl (lv_at hl 0 rfl) ?_
  refine va_get (a := (ad 0)) (ci := 6) (v := .int xs) (C := RX6) (T := TX6) (N := 10) hx hb hts hin_X6 hown hK hR0 0 rfl rfl 9 (by decide) hw_0 (fun _ h => h) rfl dX6_status_1 ?_
  obtain rfl := Option.some.inj hf
  rw [← hQe]
  exact W.iret (v := xs) hx hb hr (fun t ht hW => ⟨rfl, ht⟩) (fun q h => by cases h) dX6_status_4
