def wX5_0_1 (cy : Nat → ClassId) (ad : Nat → Nat) (sn : Nat) (sl : Int32) (sv : Nat → Int64) : va_W := [(ad 0, .inr (5, [.int sl, .ref (ad 1)])), (ad 1, .inl (cy 1, sn, .inr (.inl sv)))]
def wX5_0 (cy : Nat → ClassId) (ad : Nat → Nat) (sl : Int32) : va_W := [(ad 0, .inr (5, [.int sl, .ref (ad 1)]))]
def FX5_holds  (sn : Nat) (x1 : Int32) (x2 : Int32) : Option (Bool) := (if x1 < 0 then ((some (false))) else (if x2 < 0 then ((some (false))) else (if 0 < (lg_cmp ((Int32.toInt64 x1) + (Int32.toInt64 x2)) (Int32.toInt64 (Int32.ofNat sn))) then ((some (false))) else ((some (true))))))
abbrev RMX5_holds : Room := { frames := 0, cells := 0, slots := 0, locals := 0 }
set_option maxHeartbeats 4000000 in
set_option maxRecDepth 100000 in
theorem KX5_holds (l : Launch) (D : va_G) (cy : Nat → ClassId) (ad : Nat → Nat) (sn : Nat) (sl : Int32) (sv : Nat → Int64) (x1 : Int32) (x2 : Int32) (sz : Nat) {out : Bool} (hf : FX5_holds sn x1 x2 = some out) : Met l yX5_holds wsX5_holds RMX5_holds (PW D cy [.ref (ad 0), .int x1, .int x2] sz [] ((wX5_0_1 cy ad sn sl sv))) (QR (some (.int (bi out)))) 0 0 no_A := by
  refine Met.ofW (cc := cX5_holds) (maxL := 3) (ret := (some .boolean)) (by decide +kernel) rfl ?_
  intro p e s m args below meth c s₁ B hml hv
  obtain ⟨hav, hsz, hP, hR0, hK, hN, hD0, hsep⟩ := hv
  have hx := B.exec
  have hb := B.bytes
  have hr := B.returns
  have hts := atoms_spec (ws := wsX5_holds) B.pre
  have hown : s.vm.findClass RX5 = some m.cls := findClass_of_methodNamed B.named
  have hlocks := B.notSynchronized
  subst hsz
  have hin_X5 : ∀ w ∈ u_ws RX5 TX5 2, w ∈ wsX5_holds := by decide +kernel
  have hw_0 := hts (.fieldLink RX5 21 "ReturnPoints$Sheet" "items" "[J") (by decide +kernel)
  obtain ⟨ls, hfr, hl⟩ := ent_ok (m := m) (n := 3) (l' := [(0, .ref (ad 0)), (1, .int x1), (2, .int x2)]) [.ref (ad 0), .int x1, .int x2] hav (Nat.le_of_ble_eq_true rfl) rfl
  rw [hfr]
  generalize hQe : MQ below (QR (some (.int (bi out)))) args s 0 0 no_A = QQ
  change W p l e RMX5_holds s m args below meth c s.heap [] 0 0 QQ (F0 m 0 ls [])
  unfold FX5_holds at hf
  refine lv_iload_n hx hb dX5_holds_0 rfl (lv_at hl 1 rfl) ?_
  refine lv_if_lt (tgt := 27) hx hb dX5_holds_1 (by decide) (fun c_1 => ?_) (fun c_1 => ?_)
  · replace hf := it_p c_1 hf
    refine lv_iconst (v := 0) hx hb dX5_holds_27 (by decide) ?_
    obtain rfl := Option.some.inj hf
    rw [← hQe]
    exact W.zret (v := bi false) hx hb hr (nar_bi _) (fun t ht hW => ⟨rfl, ht⟩) (fun q h => by cases h) dX5_holds_28
  · replace hf := it_n c_1 hf
    refine lv_iload_n hx hb dX5_holds_4 rfl (lv_at hl 2 rfl) ?_
    refine lv_if_lt (tgt := 27) hx hb dX5_holds_5 (by decide) (fun c_5 => ?_) (fun c_5 => ?_)
    · replace hf := it_p c_5 hf
      refine lv_iconst (v := 0) hx hb dX5_holds_27 (by decide) ?_
      obtain rfl := Option.some.inj hf
      rw [← hQe]
      exact W.zret (v := bi false) hx hb hr (nar_bi _) (fun t ht hW => ⟨rfl, ht⟩) (fun q h => by cases h) dX5_holds_28
    · replace hf := it_n c_5 hf
      refine lv_iload_n hx hb dX5_holds_8 rfl (lv_at hl 1 rfl) ?_
      refine lv_i2l hx hb dX5_holds_9 rfl ?_
      refine lv_iload_n hx hb dX5_holds_10 rfl (lv_at hl 2 rfl) ?_
      refine lv_i2l hx hb dX5_holds_11 rfl ?_
      refine lv_ladd hx hb dX5_holds_12 ?_
      refine lv_aload_n hx hb dX5_holds_13 rfl (lv_at hl 0 rfl) ?_
      refine va_get (a := (ad 0)) (ci := 5) (v := .ref (ad 1)) (C := RX5) (T := TX5) (N := 2) hx hb hts hin_X5 hown hK hR0 0 rfl rfl 1 (by decide) hw_0 (fun _ h => h) rfl dX5_holds_14 ?_
      refine va_alen (a := (ad 1)) (v := (Int32.ofNat sn)) hx hb hK hR0 1 1 rfl rfl rfl dX5_holds_17 ?_
      refine lv_i2l hx hb dX5_holds_18 rfl ?_
      refine W.lcmp hx hb dX5_holds_19 ?_
      refine lv_if_gt (tgt := 27) hx hb dX5_holds_20 (by decide) (fun c_20 => ?_) (fun c_20 => ?_)
      · replace hf := it_p c_20 hf
        refine lv_iconst (v := 0) hx hb dX5_holds_27 (by decide) ?_
        obtain rfl := Option.some.inj hf
        rw [← hQe]
        exact W.zret (v := bi false) hx hb hr (nar_bi _) (fun t ht hW => ⟨rfl, ht⟩) (fun q h => by cases h) dX5_holds_28
      · replace hf := it_n c_20 hf
        refine lv_iconst (v := 1) hx hb dX5_holds_23 (by decide) ?_
        refine lv_goto (tgt := 28) hx hb dX5_holds_24 (by decide) ?_
        obtain rfl := Option.some.inj hf
        rw [← hQe]
        exact W.zret (v := bi true) hx hb hr (nar_bi _) (fun t ht hW => ⟨rfl, ht⟩) (fun q h => by cases h) dX5_holds_28
def FX5_cut  (sl : Int32) (x1 : Int64) : Option (Int64) := (if sl = 0 then (some ((Int32.toInt64 (Int8.toInt32 (Int32.toInt8 (Int64.toInt32 x1)))))) else (if sl = 1 then ((some ((Int32.toInt64 (Int64.toInt32 x1))))) else ((some (x1)))))
abbrev RMX5_cut : Room := { frames := 0, cells := 0, slots := 0, locals := 0 }
set_option maxHeartbeats 4000000 in
set_option maxRecDepth 100000 in
theorem KX5_cut (l : Launch) (D : va_G) (cy : Nat → ClassId) (ad : Nat → Nat) (sl : Int32) (x1 : Int64) (sz : Nat) {out : Int64} (hf : FX5_cut sl x1 = some out) : Met l yX5_cut wsX5_cut RMX5_cut (PW D cy [.ref (ad 0), .long x1] sz [] ((wX5_0 cy ad sl))) (QR (some (.long out))) 0 0 no_A := by
  refine Met.ofW (cc := cX5_cut) (maxL := 3) (ret := (some .long)) (by decide +kernel) rfl ?_
  intro p e s m args below meth c s₁ B hml hv
  obtain ⟨hav, hsz, hP, hR0, hK, hN, hD0, hsep⟩ := hv
  have hx := B.exec
  have hb := B.bytes
  have hr := B.returns
  have hts := atoms_spec (ws := wsX5_cut) B.pre
  have hown : s.vm.findClass RX5 = some m.cls := findClass_of_methodNamed B.named
  have hlocks := B.notSynchronized
  subst hsz
  have hin_X5 : ∀ w ∈ u_ws RX5 TX5 2, w ∈ wsX5_cut := by decide +kernel
  have hw_0 := hts (.fieldLink RX5 9 "ReturnPoints$Sheet" "lane" "I") (by decide +kernel)
  obtain ⟨ls, hfr, hl⟩ := ent_ok (m := m) (n := 3) (l' := [(0, .ref (ad 0)), (1, .long x1)]) [.ref (ad 0), .long x1] hav (Nat.le_of_ble_eq_true rfl) rfl
  rw [hfr]
  generalize hQe : MQ below (QR (some (.long out))) args s 0 0 no_A = QQ
  change W p l e RMX5_cut s m args below meth c s.heap [] 0 0 QQ (F0 m 0 ls [])
  unfold FX5_cut at hf
  refine lv_aload_n hx hb dX5_cut_0 rfl (lv_at hl 0 rfl) ?_
  refine va_get (a := (ad 0)) (ci := 5) (v := .int sl) (C := RX5) (T := TX5) (N := 2) hx hb hts hin_X5 hown hK hR0 0 rfl rfl 0 (by decide) hw_0 (fun _ h => h) rfl dX5_cut_1 ?_
  refine lv_if_ne (tgt := 12) hx hb dX5_cut_4 (by decide) (fun c_4 => ?_) (fun c_4 => ?_)
  · replace hf := it_n c_4 hf
    refine lv_aload_n hx hb dX5_cut_12 rfl (lv_at hl 0 rfl) ?_
    refine va_get (a := (ad 0)) (ci := 5) (v := .int sl) (C := RX5) (T := TX5) (N := 2) hx hb hts hin_X5 hown hK hR0 0 rfl rfl 0 (by decide) hw_0 (fun _ h => h) rfl dX5_cut_13 ?_
    refine lv_iconst (v := 1) hx hb dX5_cut_16 (by decide) ?_
    refine lv_icmp_ne (tgt := 26) hx hb dX5_cut_17 (by decide) (fun c_17 => ?_) (fun c_17 => ?_)
    · replace hf := it_n c_17 hf
      refine lv_lload_n hx hb dX5_cut_26 rfl (lv_at hl 1 rfl) ?_
      obtain rfl := Option.some.inj hf
      rw [← hQe]
      exact W.lret (v := x1) hx hb hr (fun t ht hW => ⟨rfl, ht⟩) (fun q h => by cases h) dX5_cut_27
    · replace hf := it_p c_17 hf
      refine lv_lload_n hx hb dX5_cut_20 rfl (lv_at hl 1 rfl) ?_
      refine lv_l2i hx hb dX5_cut_21 rfl ?_
      refine lv_i2l hx hb dX5_cut_22 rfl ?_
      refine lv_goto (tgt := 27) hx hb dX5_cut_23 (by decide) ?_
      obtain rfl := Option.some.inj hf
      rw [← hQe]
      exact W.lret (v := (Int32.toInt64 (Int64.toInt32 x1))) hx hb hr (fun t ht hW => ⟨rfl, ht⟩) (fun q h => by cases h) dX5_cut_27
  · replace hf := it_p c_4 hf
    refine lv_lload_n hx hb dX5_cut_7 rfl (lv_at hl 1 rfl) ?_
    refine lv_l2i hx hb dX5_cut_8 rfl ?_
    refine lv_i2b hx hb dX5_cut_9 rfl ?_
    refine lv_i2l hx hb dX5_cut_10 rfl ?_
    obtain rfl := Option.some.inj hf
    rw [← hQe]
    exact W.lret (v := (Int32.toInt64 (Int8.toInt32 (Int32.toInt8 (Int64.toInt32 x1))))) hx hb hr (fun t ht hW => ⟨rfl, ht⟩) (fun q h => by cases h) dX5_cut_11
