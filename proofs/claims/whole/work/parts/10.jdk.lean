def waI (cy : Nat → ClassId) (ad : Nat) (n : Nat) (f : Nat → Int32) : va_W := [(ad, .inl (cy 0, n, .inl f))]
def FJ9_floorMod_7cf53   (x1 : Int32) (x2 : Int32) : Option (Int32) := (gd (¬ x2 = 0) (bd (irm x1 x2) (fun v_3 => if 0 ≤ (x1 ^^^ x2) then (some (v_3)) else (if v_3 = 0 then (some (v_3)) else (some ((v_3 + x2)))))))
abbrev RMJ9_floorMod_7cf53 : Room := { frames := 0, cells := 0, slots := 0, locals := 0 }
set_option maxHeartbeats 4000000 in
set_option maxRecDepth 100000 in
theorem KJ9_floorMod_7cf53 (l : Launch) (D : va_G) (cy : Nat → ClassId)   (x1 : Int32) (x2 : Int32) (sz : Nat) {out : Int32} (hf : FJ9_floorMod_7cf53 x1 x2 = some out) : Met l yJ9_floorMod_7cf53 wsJ9_floorMod_7cf53 RMJ9_floorMod_7cf53 (PW D cy [.int x1, .int x2] sz [] []) (QR (some (.int out))) 0 0 no_A := by
  refine va_MetF (cc := cJ9_floorMod_7cf53) (maxL := 3) (ret := (some .int)) (by decide +kernel) rfl ?_
  intro p e s m args below meth c s₁ B hml hv
  obtain ⟨hav, hsz, hP, hR0, hK, hN, hD0, hsep⟩ := hv
  have hx := B.exec
  have hb := B.bytes
  have hr := B.returns
  have hts := atoms_spec (ws := wsJ9_floorMod_7cf53) B.pre
  have hown : s.vm.findClass RJ9 = some m.cls := findClass_of_methodNamed B.named
  have hlocks := B.notSynchronized
  subst hsz
  obtain ⟨ls, hfr, hl⟩ := ent_ok (m := m) (n := 3) (l' := [(0, .int x1), (1, .int x2)]) [.int x1, .int x2] hav (Nat.le_of_ble_eq_true rfl) rfl
  rw [hfr]
  generalize hQe : MQ below (QR (some (.int out))) args s 0 0 no_A = QQ
  change W p l e RMJ9_floorMod_7cf53 s m args below meth c s.heap [] 0 0 QQ (F0 m 0 ls [])
  unfold FJ9_floorMod_7cf53 at hf
  refine lv_iload_n hx hb dJ9_floorMod_7cf53_0 rfl (lv_at hl 0 rfl) ?_
  refine lv_iload_n hx hb dJ9_floorMod_7cf53_1 rfl (lv_at hl 1 rfl) ?_
  replace hf := gd_e hf
  obtain ⟨z_2, hf⟩ := hf
  refine rw_irem hx hb dJ9_floorMod_7cf53_2 z_2 ?_
  refine lv_topi (fun v_3 e_3 => ?_)
  replace hf := bd_at e_3 hf
  clear e_3
  refine lv_istore_n (lv' := [(2, .int v_3), (0, .int x1), (1, .int x2)]) hx hb dJ9_floorMod_7cf53_3 rfl hl (by decide) rfl (fun ls hl => ?_)
  refine lv_iload_n hx hb dJ9_floorMod_7cf53_4 rfl (lv_at hl 1 rfl) ?_
  refine lv_iload_n hx hb dJ9_floorMod_7cf53_5 rfl (lv_at hl 2 rfl) ?_
  refine lv_ixor hx hb dJ9_floorMod_7cf53_6 ?_
  refine lv_if_ge (tgt := 18) hx hb dJ9_floorMod_7cf53_7 (by decide) (fun c_7 => ?_) (fun c_7 => ?_)
  · replace hf := it_p c_7 hf
    refine lv_iload_n hx hb dJ9_floorMod_7cf53_18 rfl (lv_at hl 0 rfl) ?_
    obtain rfl := Option.some.inj hf
    rw [← hQe]
    exact W.iret (v := v_3) hx hb hr (fun t ht hW => ⟨rfl, ht⟩) (fun q h => by cases h) dJ9_floorMod_7cf53_19
  · replace hf := it_n c_7 hf
    refine lv_iload_n hx hb dJ9_floorMod_7cf53_10 rfl (lv_at hl 0 rfl) ?_
    refine lv_if_eq (tgt := 18) hx hb dJ9_floorMod_7cf53_11 (by decide) (fun c_11 => ?_) (fun c_11 => ?_)
    · replace hf := it_p c_11 hf
      refine lv_iload_n hx hb dJ9_floorMod_7cf53_18 rfl (lv_at hl 0 rfl) ?_
      obtain rfl := Option.some.inj hf
      rw [← hQe]
      exact W.iret (v := v_3) hx hb hr (fun t ht hW => ⟨rfl, ht⟩) (fun q h => by cases h) dJ9_floorMod_7cf53_19
    · replace hf := it_n c_11 hf
      refine lv_iload_n hx hb dJ9_floorMod_7cf53_14 rfl (lv_at hl 0 rfl) ?_
      refine lv_iload_n hx hb dJ9_floorMod_7cf53_15 rfl (lv_at hl 2 rfl) ?_
      refine lv_iadd hx hb dJ9_floorMod_7cf53_16 ?_
      obtain rfl := Option.some.inj hf
      rw [← hQe]
      exact W.iret (v := (v_3 + x2)) hx hb hr (fun t ht hW => ⟨rfl, ht⟩) (fun q h => by cases h) dJ9_floorMod_7cf53_17
def FJ9_floorMod_f86c9   (x1 : Int64) (x3 : Int64) : Option (Int64) := (gd (¬ x3 = 0) (bd (lrm x1 x3) (fun v_3 => if 0 ≤ (lg_cmp (x1 ^^^ x3) 0) then (some (v_3)) else (if (lg_cmp v_3 0) = 0 then (some (v_3)) else (some ((v_3 + x3)))))))
abbrev RMJ9_floorMod_f86c9 : Room := { frames := 0, cells := 0, slots := 0, locals := 0 }
set_option maxHeartbeats 4000000 in
set_option maxRecDepth 100000 in
theorem KJ9_floorMod_f86c9 (l : Launch) (D : va_G) (cy : Nat → ClassId)   (x1 : Int64) (x3 : Int64) (sz : Nat) {out : Int64} (hf : FJ9_floorMod_f86c9 x1 x3 = some out) : Met l yJ9_floorMod_f86c9 wsJ9_floorMod_f86c9 RMJ9_floorMod_f86c9 (PW D cy [.long x1, .long x3] sz [] []) (QR (some (.long out))) 0 0 no_A := by
  refine va_MetF (cc := cJ9_floorMod_f86c9) (maxL := 6) (ret := (some .long)) (by decide +kernel) rfl ?_
  intro p e s m args below meth c s₁ B hml hv
  obtain ⟨hav, hsz, hP, hR0, hK, hN, hD0, hsep⟩ := hv
  have hx := B.exec
  have hb := B.bytes
  have hr := B.returns
  have hts := atoms_spec (ws := wsJ9_floorMod_f86c9) B.pre
  have hown : s.vm.findClass RJ9 = some m.cls := findClass_of_methodNamed B.named
  have hlocks := B.notSynchronized
  subst hsz
  obtain ⟨ls, hfr, hl⟩ := ent_ok (m := m) (n := 6) (l' := [(0, .long x1), (2, .long x3)]) [.long x1, .long x3] hav (Nat.le_of_ble_eq_true rfl) rfl
  rw [hfr]
  generalize hQe : MQ below (QR (some (.long out))) args s 0 0 no_A = QQ
  change W p l e RMJ9_floorMod_f86c9 s m args below meth c s.heap [] 0 0 QQ (F0 m 0 ls [])
  unfold FJ9_floorMod_f86c9 at hf
  refine lv_lload_n hx hb dJ9_floorMod_f86c9_0 rfl (lv_at hl 0 rfl) ?_
  refine lv_lload_n hx hb dJ9_floorMod_f86c9_1 rfl (lv_at hl 1 rfl) ?_
  replace hf := gd_e hf
  obtain ⟨z_2, hf⟩ := hf
  refine rw_lrem hx hb dJ9_floorMod_f86c9_2 z_2 ?_
  refine lv_topl (fun v_3 e_3 => ?_)
  replace hf := bd_at e_3 hf
  clear e_3
  refine lv_lstore (lv' := [(4, .long v_3), (0, .long x1), (2, .long x3)]) hx hb dJ9_floorMod_f86c9_3 hl (by decide) rfl (fun ls hl => ?_)
  refine lv_lload_n hx hb dJ9_floorMod_f86c9_5 rfl (lv_at hl 1 rfl) ?_
  refine lv_lload_n hx hb dJ9_floorMod_f86c9_6 rfl (lv_at hl 2 rfl) ?_
  refine lv_lxor hx hb dJ9_floorMod_f86c9_7 ?_
  refine lv_lconst (v := 0) hx hb dJ9_floorMod_f86c9_8 (by decide) ?_
  refine W.lcmp hx hb dJ9_floorMod_f86c9_9 ?_
  refine lv_if_ge (tgt := 25) hx hb dJ9_floorMod_f86c9_10 (by decide) (fun c_10 => ?_) (fun c_10 => ?_)
  · replace hf := it_p c_10 hf
    refine lv_lload hx hb dJ9_floorMod_f86c9_25 (lv_at hl 0 rfl) ?_
    obtain rfl := Option.some.inj hf
    rw [← hQe]
    exact W.lret (v := v_3) hx hb hr (fun t ht hW => ⟨rfl, ht⟩) (fun q h => by cases h) dJ9_floorMod_f86c9_27
  · replace hf := it_n c_10 hf
    refine lv_lload hx hb dJ9_floorMod_f86c9_13 (lv_at hl 0 rfl) ?_
    refine lv_lconst (v := 0) hx hb dJ9_floorMod_f86c9_15 (by decide) ?_
    refine W.lcmp hx hb dJ9_floorMod_f86c9_16 ?_
    refine lv_if_eq (tgt := 25) hx hb dJ9_floorMod_f86c9_17 (by decide) (fun c_17 => ?_) (fun c_17 => ?_)
    · replace hf := it_p c_17 hf
      refine lv_lload hx hb dJ9_floorMod_f86c9_25 (lv_at hl 0 rfl) ?_
      obtain rfl := Option.some.inj hf
      rw [← hQe]
      exact W.lret (v := v_3) hx hb hr (fun t ht hW => ⟨rfl, ht⟩) (fun q h => by cases h) dJ9_floorMod_f86c9_27
    · replace hf := it_n c_17 hf
      refine lv_lload hx hb dJ9_floorMod_f86c9_20 (lv_at hl 0 rfl) ?_
      refine lv_lload_n hx hb dJ9_floorMod_f86c9_22 rfl (lv_at hl 2 rfl) ?_
      refine lv_ladd hx hb dJ9_floorMod_f86c9_23 ?_
      obtain rfl := Option.some.inj hf
      rw [← hQe]
      exact W.lret (v := (v_3 + x3)) hx hb hr (fun t ht hW => ⟨rfl, ht⟩) (fun q h => by cases h) dJ9_floorMod_f86c9_24
def FJ7_fill_53178_L5   (x2 : Int32) (x3_5 : Int32) (n : Nat) : Nat → Int32 → (Nat → Int32) → Option ((Nat → Int32))
  | 0, _, _ => none
  | fuel + 1, x2_5, f_5 => (if x3_5 ≤ x2_5 then (some (f_5)) else (gi x2_5 n (bd (x2_5 + 1) (fun v_14 => (FJ7_fill_53178_L5 x2 x3_5 n fuel) v_14 (upd f_5 (Int32.toNatClampNeg x2_5) x2)))))
def FJ7_fill_53178  (n : Nat) (f : Nat → Int32) (x2 : Int32) : Option ((Nat → Int32)) := (bd (Int32.ofNat n) (fun v_4 => FJ7_fill_53178_L5 x2 v_4 n FU 0 f))
abbrev RMJ7_fill_53178 : Room := { frames := 0, cells := 0, slots := 0, locals := 0 }
set_option maxHeartbeats 4000000 in
set_option maxRecDepth 100000 in
theorem KJ7_fill_53178 (l : Launch) (D : va_G) (cy : Nat → ClassId) (q0 : Nat) (n : Nat) (f : Nat → Int32) (x2 : Int32) (sz : Nat) {out : (Nat → Int32)} (hf : FJ7_fill_53178 n f x2 = some out) : Met l yJ7_fill_53178 wsJ7_fill_53178 RMJ7_fill_53178 (PW D cy [.ref q0, .int x2] sz ((waI cy q0 n f)) []) (QW D none ((waI cy q0 n out)) (va_A ((waI cy q0 n f)) sz)) 0 0 (va_A ((waI cy q0 n f)) sz) := by
  refine va_MetF (cc := cJ7_fill_53178) (maxL := 4) (ret := none) (by decide +kernel) rfl ?_
  intro p e s m args below meth c s₁ B hml hv
  obtain ⟨hav, hsz, hP, hR0, hK, hN, hD0, hsep⟩ := hv
  have hx := B.exec
  have hb := B.bytes
  have hr := B.returns
  have hts := atoms_spec (ws := wsJ7_fill_53178) B.pre
  have hown : s.vm.findClass RJ7 = some m.cls := findClass_of_methodNamed B.named
  have hlocks := B.notSynchronized
  subst hsz
  have hD := hD0.self (sz := s.heap.size)
  have hnA := roA hsep hR0
  generalize hAe : va_A ((waI cy q0 n f)) s.heap.size = A at hD hnA ⊢
  have hA : ∀ q : Nat, s.heap.size ≤ q → A q := fun q h => by rw [← hAe]; exact Or.inr h
  have hS : va_S A s.heap s.heap [] := va_S.rf
  obtain ⟨ls, hfr, hl⟩ := ent_ok (m := m) (n := 4) (l' := [(0, .ref q0), (1, .int x2)]) [.ref q0, .int x2] hav (Nat.le_of_ble_eq_true rfl) rfl
  rw [hfr]
  generalize hQe : MQ below (QW D none ((waI cy q0 n out)) A) args s 0 0 A = QQ
  change W p l e RMJ7_fill_53178 s m args below meth c s.heap [] 0 0 QQ (F0 m 0 ls [])
  have hP : va_P D vwCl ((waI cy q0 n f)) s.heap := hP
  have hD : va_D A ((waI cy q0 n f)) := hD
  suffices h00 : ∀ (H : Heap) (locs : List Loc), va_P D vwCl ((waI cy q0 n f)) H → va_S A s.heap H locs → W p l e RMJ7_fill_53178 s m args below meth c H locs 0 0 QQ (F0 m 0 ls []) from h00 _ _ hP hS
  clear hP hS
  intro H locs hP hS
  have L5 : ∀ (x3_5 : Int32) (n5 : Nat) (H : Heap) (locs : List Loc) (ls : Array Slot) (x2_5 : Int32) (f_5 : Nat → Int32), FJ7_fill_53178_L5 x2 x3_5 n n5 x2_5 f_5 = some out → va_P D vwCl ((waI cy q0 n f_5)) H → va_D A ((waI cy q0 n f_5)) → va_S A s.heap H locs → lv_has ls 4 [(0, .ref q0), (1, .int x2), (2, .int x2_5), (3, .int x3_5)] → W p l e RMJ7_fill_53178 s m args below meth c H locs 0 0 QQ (F0 m 5 ls []) := by
    intro x3_5 n5
    induction n5 with
    | zero => intro H locs ls x2_5 f_5 hf; simp [FJ7_fill_53178_L5] at hf
    | succ n5 ih5 =>
      intro H locs ls x2_5 f_5 hf hP hD hS hl
      rw [FJ7_fill_53178_L5] at hf
      refine lv_iload_n hx hb dJ7_fill_53178_5 rfl (lv_at hl 2 rfl) ?_
      refine lv_iload_n hx hb dJ7_fill_53178_6 rfl (lv_at hl 3 rfl) ?_
      refine lv_icmp_ge (tgt := 20) hx hb dJ7_fill_53178_7 (by decide) (fun c_7 => ?_) (fun c_7 => ?_)
      · replace hf := it_p c_7 hf
        obtain rfl := Option.some.inj hf
        rw [← hQe]
        exact W.vret hx hb hr (fun t ht hW => ⟨rfl, by rw [ht]; exact hP, hS.F ht⟩) hS.2.2 dJ7_fill_53178_20
      · replace hf := it_n c_7 hf
        refine lv_aload_n hx hb dJ7_fill_53178_10 rfl (lv_at hl 0 rfl) ?_
        refine lv_iload_n hx hb dJ7_fill_53178_11 rfl (lv_at hl 2 rfl) ?_
        refine lv_iload_n hx hb dJ7_fill_53178_12 rfl (lv_at hl 1 rfl) ?_
        replace hf := gi_e hf
        obtain ⟨i_13, hf⟩ := hf
        refine va_iast (a := q0) hx hb hK hP hD hS 0 0 rfl rfl i_13 dJ7_fill_53178_13 (fun H locs hP hD hS => ?_)
        have hP : va_P D vwCl ((waI cy q0 n (upd f_5 (Int32.toNatClampNeg x2_5) x2))) H := hP
        have hD : va_D A ((waI cy q0 n (upd f_5 (Int32.toNatClampNeg x2_5) x2))) := hD
        obtain ⟨v_14, e_14⟩ : ∃ y : Int32, y = x2_5 + 1 := ⟨_, rfl⟩
        replace hf := bd_at e_14 hf
        refine lv_iinc (v := v_14) (lv' := [(2, .int v_14), (0, .ref q0), (1, .int x2), (3, .int x3_5)]) hx hb dJ7_fill_53178_14 hl (k := 2) rfl (by rw [e_14]; rfl) (by decide) rfl (fun ls hl => ?_)
        clear e_14
        refine lv_goto (tgt := 5) hx hb dJ7_fill_53178_17 (by decide) ?_
        exact ih5 H locs ls v_14 (upd f_5 (Int32.toNatClampNeg x2_5) x2) hf hP hD hS (lv_sub hl [1, 2, 0, 3] rfl)
  unfold FJ7_fill_53178 at hf
  refine lv_iconst (v := 0) hx hb dJ7_fill_53178_0 (by decide) ?_
  refine lv_istore_n (lv' := [(2, .int 0), (0, .ref q0), (1, .int x2)]) hx hb dJ7_fill_53178_1 rfl hl (by decide) rfl (fun ls hl => ?_)
  refine lv_aload_n hx hb dJ7_fill_53178_2 rfl (lv_at hl 1 rfl) ?_
  refine va_alen (a := q0) (v := (Int32.ofNat n)) hx hb hK hP 0 0 rfl rfl rfl dJ7_fill_53178_3 ?_
  refine lv_topi (fun v_4 e_4 => ?_)
  replace hf := bd_at e_4 hf
  clear e_4
  refine lv_istore_n (lv' := [(3, .int v_4), (2, .int 0), (0, .ref q0), (1, .int x2)]) hx hb dJ7_fill_53178_4 rfl hl (by decide) rfl (fun ls hl => ?_)
  exact L5 v_4 FU H locs ls 0 f hf hP hD hS (lv_sub hl [2, 3, 1, 0] rfl)
def FX6_isSheet   (x1 : Int32) : Option (Bool) := (if x1 < 0 then ((some (false))) else (if 8 ≤ x1 then ((some (false))) else ((some (true)))))
abbrev RMX6_isSheet : Room := { frames := 0, cells := 0, slots := 0, locals := 0 }
set_option maxHeartbeats 4000000 in
set_option maxRecDepth 100000 in
theorem KX6_isSheet (l : Launch) (D : va_G) (cy : Nat → ClassId)   (x1 : Int32) (sz : Nat) {out : Bool} (hf : FX6_isSheet x1 = some out) : Met l yX6_isSheet wsX6_isSheet RMX6_isSheet (PW D cy [.int x1] sz [] []) (QR (some (.int (bi out)))) 0 0 no_A := by
  refine Met.ofW (cc := cX6_isSheet) (maxL := 1) (ret := (some .boolean)) (by decide +kernel) rfl ?_
  intro p e s m args below meth c s₁ B hml hv
  obtain ⟨hav, hsz, hP, hR0, hK, hN, hD0, hsep⟩ := hv
  have hx := B.exec
  have hb := B.bytes
  have hr := B.returns
  have hts := atoms_spec (ws := wsX6_isSheet) B.pre
  have hown : s.vm.findClass RX6 = some m.cls := findClass_of_methodNamed B.named
  have hlocks := B.notSynchronized
  subst hsz
  obtain ⟨ls, hfr, hl⟩ := ent_ok (m := m) (n := 1) (l' := [(0, .int x1)]) [.int x1] hav (Nat.le_of_ble_eq_true rfl) rfl
  rw [hfr]
  generalize hQe : MQ below (QR (some (.int (bi out)))) args s 0 0 no_A = QQ
  change W p l e RMX6_isSheet s m args below meth c s.heap [] 0 0 QQ (F0 m 0 ls [])
  unfold FX6_isSheet at hf
  refine lv_iload_n hx hb dX6_isSheet_0 rfl (lv_at hl 0 rfl) ?_
  refine lv_if_lt (tgt := 14) hx hb dX6_isSheet_1 (by decide) (fun c_1 => ?_) (fun c_1 => ?_)
  · replace hf := it_p c_1 hf
    refine lv_iconst (v := 0) hx hb dX6_isSheet_14 (by decide) ?_
    obtain rfl := Option.some.inj hf
    rw [← hQe]
    exact W.zret (v := bi false) hx hb hr (nar_bi _) (fun t ht hW => ⟨rfl, ht⟩) (fun q h => by cases h) dX6_isSheet_15
  · replace hf := it_n c_1 hf
    refine lv_iload_n hx hb dX6_isSheet_4 rfl (lv_at hl 0 rfl) ?_
    refine lv_bipush (v := 8) hx hb dX6_isSheet_5 (by decide) ?_
    refine lv_icmp_ge (tgt := 14) hx hb dX6_isSheet_7 (by decide) (fun c_7 => ?_) (fun c_7 => ?_)
    · replace hf := it_p c_7 hf
      refine lv_iconst (v := 0) hx hb dX6_isSheet_14 (by decide) ?_
      obtain rfl := Option.some.inj hf
      rw [← hQe]
      exact W.zret (v := bi false) hx hb hr (nar_bi _) (fun t ht hW => ⟨rfl, ht⟩) (fun q h => by cases h) dX6_isSheet_15
    · replace hf := it_n c_7 hf
      refine lv_iconst (v := 1) hx hb dX6_isSheet_10 (by decide) ?_
      refine lv_goto (tgt := 15) hx hb dX6_isSheet_11 (by decide) ?_
      obtain rfl := Option.some.inj hf
      rw [← hQe]
      exact W.zret (v := bi true) hx hb hr (nar_bi _) (fun t ht hW => ⟨rfl, ht⟩) (fun q h => by cases h) dX6_isSheet_15
def FX6_isPlace   (x1 : Int32) : Option (Bool) := (if x1 < 0 then ((some (false))) else (if 10 ≤ x1 then ((some (false))) else ((some (true)))))
abbrev RMX6_isPlace : Room := { frames := 0, cells := 0, slots := 0, locals := 0 }
set_option maxHeartbeats 4000000 in
set_option maxRecDepth 100000 in
theorem KX6_isPlace (l : Launch) (D : va_G) (cy : Nat → ClassId)   (x1 : Int32) (sz : Nat) {out : Bool} (hf : FX6_isPlace x1 = some out) : Met l yX6_isPlace wsX6_isPlace RMX6_isPlace (PW D cy [.int x1] sz [] []) (QR (some (.int (bi out)))) 0 0 no_A := by
  refine Met.ofW (cc := cX6_isPlace) (maxL := 1) (ret := (some .boolean)) (by decide +kernel) rfl ?_
  intro p e s m args below meth c s₁ B hml hv
  obtain ⟨hav, hsz, hP, hR0, hK, hN, hD0, hsep⟩ := hv
  have hx := B.exec
  have hb := B.bytes
  have hr := B.returns
  have hts := atoms_spec (ws := wsX6_isPlace) B.pre
  have hown : s.vm.findClass RX6 = some m.cls := findClass_of_methodNamed B.named
  have hlocks := B.notSynchronized
  subst hsz
  obtain ⟨ls, hfr, hl⟩ := ent_ok (m := m) (n := 1) (l' := [(0, .int x1)]) [.int x1] hav (Nat.le_of_ble_eq_true rfl) rfl
  rw [hfr]
  generalize hQe : MQ below (QR (some (.int (bi out)))) args s 0 0 no_A = QQ
  change W p l e RMX6_isPlace s m args below meth c s.heap [] 0 0 QQ (F0 m 0 ls [])
  unfold FX6_isPlace at hf
  refine lv_iload_n hx hb dX6_isPlace_0 rfl (lv_at hl 0 rfl) ?_
  refine lv_if_lt (tgt := 14) hx hb dX6_isPlace_1 (by decide) (fun c_1 => ?_) (fun c_1 => ?_)
  · replace hf := it_p c_1 hf
    refine lv_iconst (v := 0) hx hb dX6_isPlace_14 (by decide) ?_
    obtain rfl := Option.some.inj hf
    rw [← hQe]
    exact W.zret (v := bi false) hx hb hr (nar_bi _) (fun t ht hW => ⟨rfl, ht⟩) (fun q h => by cases h) dX6_isPlace_15
  · replace hf := it_n c_1 hf
    refine lv_iload_n hx hb dX6_isPlace_4 rfl (lv_at hl 0 rfl) ?_
    refine lv_bipush (v := 10) hx hb dX6_isPlace_5 (by decide) ?_
    refine lv_icmp_ge (tgt := 14) hx hb dX6_isPlace_7 (by decide) (fun c_7 => ?_) (fun c_7 => ?_)
    · replace hf := it_p c_7 hf
      refine lv_iconst (v := 0) hx hb dX6_isPlace_14 (by decide) ?_
      obtain rfl := Option.some.inj hf
      rw [← hQe]
      exact W.zret (v := bi false) hx hb hr (nar_bi _) (fun t ht hW => ⟨rfl, ht⟩) (fun q h => by cases h) dX6_isPlace_15
    · replace hf := it_n c_7 hf
      refine lv_iconst (v := 1) hx hb dX6_isPlace_10 (by decide) ?_
      refine lv_goto (tgt := 15) hx hb dX6_isPlace_11 (by decide) ?_
      obtain rfl := Option.some.inj hf
      rw [← hQe]
      exact W.zret (v := bi true) hx hb hr (nar_bi _) (fun t ht hW => ⟨rfl, ht⟩) (fun q h => by cases h) dX6_isPlace_15
def FX6_isKind   (x1 : Int32) : Option (Bool) := (if x1 < 0 then ((some (false))) else (if 5 < x1 then ((some (false))) else ((some (true)))))
abbrev RMX6_isKind : Room := { frames := 0, cells := 0, slots := 0, locals := 0 }
set_option maxHeartbeats 4000000 in
set_option maxRecDepth 100000 in
theorem KX6_isKind (l : Launch) (D : va_G) (cy : Nat → ClassId)   (x1 : Int32) (sz : Nat) {out : Bool} (hf : FX6_isKind x1 = some out) : Met l yX6_isKind wsX6_isKind RMX6_isKind (PW D cy [.int x1] sz [] []) (QR (some (.int (bi out)))) 0 0 no_A := by
  refine Met.ofW (cc := cX6_isKind) (maxL := 1) (ret := (some .boolean)) (by decide +kernel) rfl ?_
  intro p e s m args below meth c s₁ B hml hv
  obtain ⟨hav, hsz, hP, hR0, hK, hN, hD0, hsep⟩ := hv
  have hx := B.exec
  have hb := B.bytes
  have hr := B.returns
  have hts := atoms_spec (ws := wsX6_isKind) B.pre
  have hown : s.vm.findClass RX6 = some m.cls := findClass_of_methodNamed B.named
  have hlocks := B.notSynchronized
  subst hsz
  obtain ⟨ls, hfr, hl⟩ := ent_ok (m := m) (n := 1) (l' := [(0, .int x1)]) [.int x1] hav (Nat.le_of_ble_eq_true rfl) rfl
  rw [hfr]
  generalize hQe : MQ below (QR (some (.int (bi out)))) args s 0 0 no_A = QQ
  change W p l e RMX6_isKind s m args below meth c s.heap [] 0 0 QQ (F0 m 0 ls [])
  unfold FX6_isKind at hf
  refine lv_iload_n hx hb dX6_isKind_0 rfl (lv_at hl 0 rfl) ?_
  refine lv_if_lt (tgt := 13) hx hb dX6_isKind_1 (by decide) (fun c_1 => ?_) (fun c_1 => ?_)
  · replace hf := it_p c_1 hf
    refine lv_iconst (v := 0) hx hb dX6_isKind_13 (by decide) ?_
    obtain rfl := Option.some.inj hf
    rw [← hQe]
    exact W.zret (v := bi false) hx hb hr (nar_bi _) (fun t ht hW => ⟨rfl, ht⟩) (fun q h => by cases h) dX6_isKind_14
  · replace hf := it_n c_1 hf
    refine lv_iload_n hx hb dX6_isKind_4 rfl (lv_at hl 0 rfl) ?_
    refine lv_iconst (v := 5) hx hb dX6_isKind_5 (by decide) ?_
    refine lv_icmp_gt (tgt := 13) hx hb dX6_isKind_6 (by decide) (fun c_6 => ?_) (fun c_6 => ?_)
    · replace hf := it_p c_6 hf
      refine lv_iconst (v := 0) hx hb dX6_isKind_13 (by decide) ?_
      obtain rfl := Option.some.inj hf
      rw [← hQe]
      exact W.zret (v := bi false) hx hb hr (nar_bi _) (fun t ht hW => ⟨rfl, ht⟩) (fun q h => by cases h) dX6_isKind_14
    · replace hf := it_n c_6 hf
      refine lv_iconst (v := 1) hx hb dX6_isKind_9 (by decide) ?_
      refine lv_goto (tgt := 14) hx hb dX6_isKind_10 (by decide) ?_
      obtain rfl := Option.some.inj hf
      rw [← hQe]
      exact W.zret (v := bi true) hx hb hr (nar_bi _) (fun t ht hW => ⟨rfl, ht⟩) (fun q h => by cases h) dX6_isKind_14
def FX6_commonDivisor_L13    : Nat → Int32 → Int32 → Int32 → Option (Int32)
  | 0, _, _, _ => none
  | fuel + 1, x2_13, x3_13, x4_13 => (if 100 ≤ x4_13 then (some (x2_13)) else (if x3_13 = 0 then (some (x2_13)) else (gd (¬ x3_13 = 0) (bd (irm x2_13 x3_13) (fun v_27 => bd (x4_13 + 1) (fun v_34 => (FX6_commonDivisor_L13  fuel) x3_13 v_27 v_34))))))
def FX6_commonDivisor   (x1 : Int32) (x2 : Int32) : Option (Int32) := (bd (iab x1) (fun v_4 => bd (iab x2) (fun v_9 => FX6_commonDivisor_L13 FU v_4 v_9 0)))
abbrev RMX6_commonDivisor : Room := { frames := 1, cells := 0, slots := 0, locals := 24 }
set_option maxHeartbeats 4000000 in
set_option maxRecDepth 100000 in
theorem KX6_commonDivisor (l : Launch) (D : va_G) (cy : Nat → ClassId)   (x1 : Int32) (x2 : Int32) (sz : Nat) {out : Int32} (hf : FX6_commonDivisor x1 x2 = some out) : Met l yX6_commonDivisor wsX6_commonDivisor RMX6_commonDivisor (PW D cy [.int x1, .int x2] sz [] []) (QR (some (.int out))) 0 0 no_A := by
  refine Met.ofW (cc := cX6_commonDivisor) (maxL := 6) (ret := (some .int)) (by decide +kernel) rfl ?_
  intro p e s m args below meth c s₁ B hml hv
  obtain ⟨hav, hsz, hP, hR0, hK, hN, hD0, hsep⟩ := hv
  have hx := B.exec
  have hb := B.bytes
  have hr := B.returns
  have hts := atoms_spec (ws := wsX6_commonDivisor) B.pre
  have hown : s.vm.findClass RX6 = some m.cls := findClass_of_methodNamed B.named
  have hlocks := B.notSynchronized
  subst hsz
  have hw_0 := hts (.methodLink RX6 226 Lib.Math.abs.name) (by decide +kernel)
  have hw_1 := hts (.static Lib.Math.abs.name) (by decide +kernel)
  have hw_2 := hts (.initialized "java/lang/Math") (by decide +kernel)
  have hw_3 := hts (.code Lib.Math.abs.name Lib.Math.abs.code 1 (some .int)) (by decide +kernel)
  obtain ⟨ls, hfr, hl⟩ := ent_ok (m := m) (n := 6) (l' := [(0, .int x1), (1, .int x2)]) [.int x1, .int x2] hav (Nat.le_of_ble_eq_true rfl) rfl
  rw [hfr]
  generalize hQe : MQ below (QR (some (.int out))) args s 0 0 no_A = QQ
  change W p l e RMX6_commonDivisor s m args below meth c s.heap [] 0 0 QQ (F0 m 0 ls [])
  have L13 : ∀  (n13 : Nat) (ls : Array Slot) (x2_13 : Int32) (x3_13 : Int32) (x4_13 : Int32), FX6_commonDivisor_L13 n13 x2_13 x3_13 x4_13 = some out → lv_has ls 6 [(2, .int x2_13), (3, .int x3_13), (4, .int x4_13)] → W p l e RMX6_commonDivisor s m args below meth c s.heap [] 0 0 QQ (F0 m 13 ls []) := by
    intro  n13
    induction n13 with
    | zero => intro ls x2_13 x3_13 x4_13 hf; simp [FX6_commonDivisor_L13] at hf
    | succ n13 ih13 =>
      intro ls x2_13 x3_13 x4_13 hf hl
      rw [FX6_commonDivisor_L13] at hf
      refine lv_iload hx hb dX6_commonDivisor_13 (lv_at hl 2 rfl) ?_
      refine lv_bipush (v := 100) hx hb dX6_commonDivisor_15 (by decide) ?_
      refine lv_icmp_ge (tgt := 40) hx hb dX6_commonDivisor_17 (by decide) (fun c_17 => ?_) (fun c_17 => ?_)
      · replace hf := it_p c_17 hf
        refine lv_iload_n hx hb dX6_commonDivisor_40 rfl (lv_at hl 0 rfl) ?_
        obtain rfl := Option.some.inj hf
        rw [← hQe]
        exact W.iret (v := x2_13) hx hb hr (fun t ht hW => ⟨rfl, ht⟩) (fun q h => by cases h) dX6_commonDivisor_41
      · replace hf := it_n c_17 hf
        refine lv_iload_n hx hb dX6_commonDivisor_20 rfl (lv_at hl 1 rfl) ?_
        refine lv_if_eq (tgt := 40) hx hb dX6_commonDivisor_21 (by decide) (fun c_21 => ?_) (fun c_21 => ?_)
        · replace hf := it_p c_21 hf
          refine lv_iload_n hx hb dX6_commonDivisor_40 rfl (lv_at hl 0 rfl) ?_
          obtain rfl := Option.some.inj hf
          rw [← hQe]
          exact W.iret (v := x2_13) hx hb hr (fun t ht hW => ⟨rfl, ht⟩) (fun q h => by cases h) dX6_commonDivisor_41
        · replace hf := it_n c_21 hf
          refine lv_iload_n hx hb dX6_commonDivisor_24 rfl (lv_at hl 0 rfl) ?_
          refine lv_iload_n hx hb dX6_commonDivisor_25 rfl (lv_at hl 1 rfl) ?_
          replace hf := gd_e hf
          obtain ⟨z_26, hf⟩ := hf
          refine rw_irem hx hb dX6_commonDivisor_26 z_26 ?_
          refine lv_topi (fun v_27 e_27 => ?_)
          replace hf := bd_at e_27 hf
          clear e_27
          refine lv_istore (lv' := [(5, .int v_27), (2, .int x2_13), (3, .int x3_13), (4, .int x4_13)]) hx hb dX6_commonDivisor_27 hl (by decide) rfl (fun ls hl => ?_)
          refine lv_iload_n hx hb dX6_commonDivisor_29 rfl (lv_at hl 2 rfl) ?_
          refine lv_istore_n (lv' := [(2, .int x3_13), (5, .int v_27), (3, .int x3_13), (4, .int x4_13)]) hx hb dX6_commonDivisor_30 rfl hl (by decide) rfl (fun ls hl => ?_)
          refine lv_iload hx hb dX6_commonDivisor_31 (lv_at hl 1 rfl) ?_
          refine lv_istore_n (lv' := [(3, .int v_27), (2, .int x3_13), (5, .int v_27), (4, .int x4_13)]) hx hb dX6_commonDivisor_33 rfl hl (by decide) rfl (fun ls hl => ?_)
          obtain ⟨v_34, e_34⟩ : ∃ y : Int32, y = x4_13 + 1 := ⟨_, rfl⟩
          replace hf := bd_at e_34 hf
          refine lv_iinc (v := v_34) (lv' := [(4, .int v_34), (3, .int v_27), (2, .int x3_13), (5, .int v_27)]) hx hb dX6_commonDivisor_34 hl (k := 3) rfl (by rw [e_34]; rfl) (by decide) rfl (fun ls hl => ?_)
          clear e_34
          refine lv_goto (tgt := 13) hx hb dX6_commonDivisor_37 (by decide) ?_
          exact ih13 ls x3_13 v_27 v_34 hf (lv_sub hl [2, 1, 0] rfl)
  unfold FX6_commonDivisor at hf
  refine lv_iload_n hx hb dX6_commonDivisor_0 rfl (lv_at hl 0 rfl) ?_
  refine va_mabs hx hb (hml.trans hl.1.symm) hown hw_0 hw_1 hw_2 hw_3 (Nat.le_of_ble_eq_true rfl) (Nat.le_of_ble_eq_true rfl) (Nat.zero_le _) (Nat.zero_le _) dX6_commonDivisor_1 ?_
  show W p l e RMX6_commonDivisor s m args below meth c s.heap [] 0 0 QQ (F0 m 4 ls [.int (iab x1)])
  refine lv_topi (fun v_4 e_4 => ?_)
  replace hf := bd_at e_4 hf
  clear e_4
  refine lv_istore_n (lv' := [(2, .int v_4), (0, .int x1), (1, .int x2)]) hx hb dX6_commonDivisor_4 rfl hl (by decide) rfl (fun ls hl => ?_)
  refine lv_iload_n hx hb dX6_commonDivisor_5 rfl (lv_at hl 2 rfl) ?_
  refine va_mabs hx hb (hml.trans hl.1.symm) hown hw_0 hw_1 hw_2 hw_3 (Nat.le_of_ble_eq_true rfl) (Nat.le_of_ble_eq_true rfl) (Nat.zero_le _) (Nat.zero_le _) dX6_commonDivisor_6 ?_
  show W p l e RMX6_commonDivisor s m args below meth c s.heap [] 0 0 QQ (F0 m 9 ls [.int (iab x2)])
  refine lv_topi (fun v_9 e_9 => ?_)
  replace hf := bd_at e_9 hf
  clear e_9
  refine lv_istore_n (lv' := [(3, .int v_9), (2, .int v_4), (0, .int x1), (1, .int x2)]) hx hb dX6_commonDivisor_9 rfl hl (by decide) rfl (fun ls hl => ?_)
  refine lv_iconst (v := 0) hx hb dX6_commonDivisor_10 (by decide) ?_
  refine lv_istore (lv' := [(4, .int 0), (3, .int v_9), (2, .int v_4), (0, .int x1), (1, .int x2)]) hx hb dX6_commonDivisor_11 hl (by decide) rfl (fun ls hl => ?_)
  exact L13 FU ls v_4 v_9 0 hf (lv_sub hl [2, 1, 0] rfl)
def FX6_inverse_L2   (x1 : Int32) (x2 : Int32) : Nat → Int32 → Option (Int32)
  | 0, _ => none
  | fuel + 1, x2_2 => (if x2 ≤ x2_2 then (some (0)) else (gd (¬ x2 = 0) (if (irm (x1 * x2_2) x2) = 1 then (some (x2_2)) else (bd (x2_2 + 1) (fun v_18 => (FX6_inverse_L2 x1 x2 fuel) v_18)))))
def FX6_inverse   (x1 : Int32) (x2 : Int32) : Option (Int32) := (FX6_inverse_L2 x1 x2 FU 1)
abbrev RMX6_inverse : Room := { frames := 0, cells := 0, slots := 0, locals := 0 }
set_option maxHeartbeats 4000000 in
set_option maxRecDepth 100000 in
theorem KX6_inverse (l : Launch) (D : va_G) (cy : Nat → ClassId)   (x1 : Int32) (x2 : Int32) (sz : Nat) {out : Int32} (hf : FX6_inverse x1 x2 = some out) : Met l yX6_inverse wsX6_inverse RMX6_inverse (PW D cy [.int x1, .int x2] sz [] []) (QR (some (.int out))) 0 0 no_A := by
  refine Met.ofW (cc := cX6_inverse) (maxL := 3) (ret := (some .int)) (by decide +kernel) rfl ?_
  intro p e s m args below meth c s₁ B hml hv
  obtain ⟨hav, hsz, hP, hR0, hK, hN, hD0, hsep⟩ := hv
  have hx := B.exec
  have hb := B.bytes
  have hr := B.returns
  have hts := atoms_spec (ws := wsX6_inverse) B.pre
  have hown : s.vm.findClass RX6 = some m.cls := findClass_of_methodNamed B.named
  have hlocks := B.notSynchronized
  subst hsz
  obtain ⟨ls, hfr, hl⟩ := ent_ok (m := m) (n := 3) (l' := [(0, .int x1), (1, .int x2)]) [.int x1, .int x2] hav (Nat.le_of_ble_eq_true rfl) rfl
  rw [hfr]
  generalize hQe : MQ below (QR (some (.int out))) args s 0 0 no_A = QQ
  change W p l e RMX6_inverse s m args below meth c s.heap [] 0 0 QQ (F0 m 0 ls [])
  have L2 : ∀  (n2 : Nat) (ls : Array Slot) (x2_2 : Int32), FX6_inverse_L2 x1 x2 n2 x2_2 = some out → lv_has ls 3 [(0, .int x1), (1, .int x2), (2, .int x2_2)] → W p l e RMX6_inverse s m args below meth c s.heap [] 0 0 QQ (F0 m 2 ls []) := by
    intro  n2
    induction n2 with
    | zero => intro ls x2_2 hf; simp [FX6_inverse_L2] at hf
    | succ n2 ih2 =>
      intro ls x2_2 hf hl
      rw [FX6_inverse_L2] at hf
      refine lv_iload_n hx hb dX6_inverse_2 rfl (lv_at hl 2 rfl) ?_
      refine lv_iload_n hx hb dX6_inverse_3 rfl (lv_at hl 1 rfl) ?_
      refine lv_icmp_ge (tgt := 24) hx hb dX6_inverse_4 (by decide) (fun c_4 => ?_) (fun c_4 => ?_)
      · replace hf := it_p c_4 hf
        refine lv_iconst (v := 0) hx hb dX6_inverse_24 (by decide) ?_
        obtain rfl := Option.some.inj hf
        rw [← hQe]
        exact W.iret (v := 0) hx hb hr (fun t ht hW => ⟨rfl, ht⟩) (fun q h => by cases h) dX6_inverse_25
      · replace hf := it_n c_4 hf
        refine lv_iload_n hx hb dX6_inverse_7 rfl (lv_at hl 0 rfl) ?_
        refine lv_iload_n hx hb dX6_inverse_8 rfl (lv_at hl 2 rfl) ?_
        refine lv_imul hx hb dX6_inverse_9 ?_
        refine lv_iload_n hx hb dX6_inverse_10 rfl (lv_at hl 1 rfl) ?_
        replace hf := gd_e hf
        obtain ⟨z_11, hf⟩ := hf
        refine rw_irem hx hb dX6_inverse_11 z_11 ?_
        refine lv_iconst (v := 1) hx hb dX6_inverse_12 (by decide) ?_
        refine lv_icmp_ne (tgt := 18) hx hb dX6_inverse_13 (by decide) (fun c_13 => ?_) (fun c_13 => ?_)
        · replace hf := it_n c_13 hf
          obtain ⟨v_18, e_18⟩ : ∃ y : Int32, y = x2_2 + 1 := ⟨_, rfl⟩
          replace hf := bd_at e_18 hf
          refine lv_iinc (v := v_18) (lv' := [(2, .int v_18), (0, .int x1), (1, .int x2)]) hx hb dX6_inverse_18 hl (k := 2) rfl (by rw [e_18]; rfl) (by decide) rfl (fun ls hl => ?_)
          clear e_18
          refine lv_goto (tgt := 2) hx hb dX6_inverse_21 (by decide) ?_
          exact ih2 ls v_18 hf (lv_sub hl [1, 2, 0] rfl)
        · replace hf := it_p c_13 hf
          refine lv_iload_n hx hb dX6_inverse_16 rfl (lv_at hl 2 rfl) ?_
          obtain rfl := Option.some.inj hf
          rw [← hQe]
          exact W.iret (v := x2_2) hx hb hr (fun t ht hW => ⟨rfl, ht⟩) (fun q h => by cases h) dX6_inverse_17
  unfold FX6_inverse at hf
  refine lv_iconst (v := 1) hx hb dX6_inverse_0 (by decide) ?_
  refine lv_istore_n (lv' := [(2, .int 1), (0, .int x1), (1, .int x2)]) hx hb dX6_inverse_1 rfl hl (by decide) rfl (fun ls hl => ?_)
  exact L2 FU ls 1 hf (lv_sub hl [1, 2, 0] rfl)
def FX6_isPair   (x1 : Int32) (x2 : Int32) : Option (Bool) := (if x1 < (-10000) then ((some (false))) else (if 10000 < x1 then ((some (false))) else (if x2 < 1 then ((some (false))) else (if 30 < x2 then ((some (false))) else (ob (FX6_commonDivisor x1 x2) (fun u_27 => if u_27 = 1 then ((some (true))) else ((some (false)))))))))
abbrev RMX6_isPair : Room := { frames := 2, cells := 0, slots := 0, locals := 49 }
set_option maxHeartbeats 4000000 in
set_option maxRecDepth 100000 in
theorem KX6_isPair (l : Launch) (D : va_G) (cy : Nat → ClassId)   (x1 : Int32) (x2 : Int32) (sz : Nat) {out : Bool} (hf : FX6_isPair x1 x2 = some out) : Met l yX6_isPair wsX6_isPair RMX6_isPair (PW D cy [.int x1, .int x2] sz [] []) (QR (some (.int (bi out)))) 0 0 no_A := by
  refine Met.ofW (cc := cX6_isPair) (maxL := 2) (ret := (some .boolean)) (by decide +kernel) rfl ?_
  intro p e s m args below meth c s₁ B hml hv
  obtain ⟨hav, hsz, hP, hR0, hK, hN, hD0, hsep⟩ := hv
  have hx := B.exec
  have hb := B.bytes
  have hr := B.returns
  have hts := atoms_spec (ws := wsX6_isPair) B.pre
  have hown : s.vm.findClass RX6 = some m.cls := findClass_of_methodNamed B.named
  have hlocks := B.notSynchronized
  subst hsz
  obtain ⟨ls, hfr, hl⟩ := ent_ok (m := m) (n := 2) (l' := [(0, .int x1), (1, .int x2)]) [.int x1, .int x2] hav (Nat.le_of_ble_eq_true rfl) rfl
  rw [hfr]
  generalize hQe : MQ below (QR (some (.int (bi out)))) args s 0 0 no_A = QQ
  change W p l e RMX6_isPair s m args below meth c s.heap [] 0 0 QQ (F0 m 0 ls [])
  unfold FX6_isPair at hf
  refine lv_iload_n hx hb dX6_isPair_0 rfl (lv_at hl 0 rfl) ?_
  refine lv_sipush (v := (-10000)) hx hb dX6_isPair_1 (by decide) ?_
  refine lv_icmp_lt (tgt := 38) hx hb dX6_isPair_4 (by decide) (fun c_4 => ?_) (fun c_4 => ?_)
  · replace hf := it_p c_4 hf
    refine lv_iconst (v := 0) hx hb dX6_isPair_38 (by decide) ?_
    obtain rfl := Option.some.inj hf
    rw [← hQe]
    exact W.zret (v := bi false) hx hb hr (nar_bi _) (fun t ht hW => ⟨rfl, ht⟩) (fun q h => by cases h) dX6_isPair_39
  · replace hf := it_n c_4 hf
    refine lv_iload_n hx hb dX6_isPair_7 rfl (lv_at hl 0 rfl) ?_
    refine lv_sipush (v := 10000) hx hb dX6_isPair_8 (by decide) ?_
    refine lv_icmp_gt (tgt := 38) hx hb dX6_isPair_11 (by decide) (fun c_11 => ?_) (fun c_11 => ?_)
    · replace hf := it_p c_11 hf
      refine lv_iconst (v := 0) hx hb dX6_isPair_38 (by decide) ?_
      obtain rfl := Option.some.inj hf
      rw [← hQe]
      exact W.zret (v := bi false) hx hb hr (nar_bi _) (fun t ht hW => ⟨rfl, ht⟩) (fun q h => by cases h) dX6_isPair_39
    · replace hf := it_n c_11 hf
      refine lv_iload_n hx hb dX6_isPair_14 rfl (lv_at hl 1 rfl) ?_
      refine lv_iconst (v := 1) hx hb dX6_isPair_15 (by decide) ?_
      refine lv_icmp_lt (tgt := 38) hx hb dX6_isPair_16 (by decide) (fun c_16 => ?_) (fun c_16 => ?_)
      · replace hf := it_p c_16 hf
        refine lv_iconst (v := 0) hx hb dX6_isPair_38 (by decide) ?_
        obtain rfl := Option.some.inj hf
        rw [← hQe]
        exact W.zret (v := bi false) hx hb hr (nar_bi _) (fun t ht hW => ⟨rfl, ht⟩) (fun q h => by cases h) dX6_isPair_39
      · replace hf := it_n c_16 hf
        refine lv_iload_n hx hb dX6_isPair_19 rfl (lv_at hl 1 rfl) ?_
        refine lv_bipush (v := 30) hx hb dX6_isPair_20 (by decide) ?_
        refine lv_icmp_gt (tgt := 38) hx hb dX6_isPair_22 (by decide) (fun c_22 => ?_) (fun c_22 => ?_)
        · replace hf := it_p c_22 hf
          refine lv_iconst (v := 0) hx hb dX6_isPair_38 (by decide) ?_
          obtain rfl := Option.some.inj hf
          rw [← hQe]
          exact W.zret (v := bi false) hx hb hr (nar_bi _) (fun t ht hW => ⟨rfl, ht⟩) (fun q h => by cases h) dX6_isPair_39
        · replace hf := it_n c_22 hf
          refine lv_iload_n hx hb dX6_isPair_25 rfl (lv_at hl 0 rfl) ?_
          refine lv_iload_n hx hb dX6_isPair_26 rfl (lv_at hl 1 rfl) ?_
          replace hf := ob_e hf
          obtain ⟨u_27, hu_27, hf⟩ := hf
          refine isR (As := [.int x1, .int x2]) (rest := []) (st1 := [.int u_27]) ⟨hx, hb, hml, hown, hts⟩ hK hN (KX6_commonDivisor l D cy x1 x2 s.heap.size hu_27) (va_cwS 2 hts gX6_isPair_X6_commonDivisor rfl rfl rfl (by decide +kernel) ⟨Nat.le_of_ble_eq_true rfl, Nat.le_of_ble_eq_true rfl⟩) P_nil rfl hl.1 rfl (Nat.le_of_ble_eq_true rfl) rfl dX6_isPair_27 ⟨Nat.zero_le _, Nat.zero_le _⟩ ?_
          refine lv_iconst (v := 1) hx hb dX6_isPair_30 (by decide) ?_
          refine lv_icmp_ne (tgt := 38) hx hb dX6_isPair_31 (by decide) (fun c_31 => ?_) (fun c_31 => ?_)
          · replace hf := it_n c_31 hf
            refine lv_iconst (v := 0) hx hb dX6_isPair_38 (by decide) ?_
            obtain rfl := Option.some.inj hf
            rw [← hQe]
            exact W.zret (v := bi false) hx hb hr (nar_bi _) (fun t ht hW => ⟨rfl, ht⟩) (fun q h => by cases h) dX6_isPair_39
          · replace hf := it_p c_31 hf
            refine lv_iconst (v := 1) hx hb dX6_isPair_34 (by decide) ?_
            refine lv_goto (tgt := 39) hx hb dX6_isPair_35 (by decide) ?_
            obtain rfl := Option.some.inj hf
            rw [← hQe]
            exact W.zret (v := bi true) hx hb hr (nar_bi _) (fun t ht hW => ⟨rfl, ht⟩) (fun q h => by cases h) dX6_isPair_39
def FX6_isPrimeHere_L16   (x1 : Int32) : Nat → Int32 → Option (Bool)
  | 0, _ => none
  | fuel + 1, x1_16 => (if x1 < (x1_16 * x1_16) then (some (true)) else (gd (¬ x1_16 = 0) (if (irm x1 x1_16) = 0 then (some (false)) else (bd (x1_16 + 1) (fun v_31 => (FX6_isPrimeHere_L16 x1 fuel) v_31)))))
def FX6_isPrimeHere   (x1 : Int32) : Option (Bool) := (if x1 < 3 then (some (false)) else (if x1 ≤ 199 then (FX6_isPrimeHere_L16 x1 FU 2) else (some (false))))
abbrev RMX6_isPrimeHere : Room := { frames := 0, cells := 0, slots := 0, locals := 0 }
set_option maxHeartbeats 4000000 in
set_option maxRecDepth 100000 in
theorem KX6_isPrimeHere (l : Launch) (D : va_G) (cy : Nat → ClassId)   (x1 : Int32) (sz : Nat) {out : Bool} (hf : FX6_isPrimeHere x1 = some out) : Met l yX6_isPrimeHere wsX6_isPrimeHere RMX6_isPrimeHere (PW D cy [.int x1] sz [] []) (QR (some (.int (bi out)))) 0 0 no_A := by
  refine Met.ofW (cc := cX6_isPrimeHere) (maxL := 2) (ret := (some .boolean)) (by decide +kernel) rfl ?_
  intro p e s m args below meth c s₁ B hml hv
  obtain ⟨hav, hsz, hP, hR0, hK, hN, hD0, hsep⟩ := hv
  have hx := B.exec
  have hb := B.bytes
  have hr := B.returns
  have hts := atoms_spec (ws := wsX6_isPrimeHere) B.pre
  have hown : s.vm.findClass RX6 = some m.cls := findClass_of_methodNamed B.named
  have hlocks := B.notSynchronized
  subst hsz
  obtain ⟨ls, hfr, hl⟩ := ent_ok (m := m) (n := 2) (l' := [(0, .int x1)]) [.int x1] hav (Nat.le_of_ble_eq_true rfl) rfl
  rw [hfr]
  generalize hQe : MQ below (QR (some (.int (bi out)))) args s 0 0 no_A = QQ
  change W p l e RMX6_isPrimeHere s m args below meth c s.heap [] 0 0 QQ (F0 m 0 ls [])
  have L16 : ∀  (n16 : Nat) (ls : Array Slot) (x1_16 : Int32), FX6_isPrimeHere_L16 x1 n16 x1_16 = some out → lv_has ls 2 [(0, .int x1), (1, .int x1_16)] → W p l e RMX6_isPrimeHere s m args below meth c s.heap [] 0 0 QQ (F0 m 16 ls []) := by
    intro  n16
    induction n16 with
    | zero => intro ls x1_16 hf; simp [FX6_isPrimeHere_L16] at hf
    | succ n16 ih16 =>
      intro ls x1_16 hf hl
      rw [FX6_isPrimeHere_L16] at hf
      refine lv_iload_n hx hb dX6_isPrimeHere_16 rfl (lv_at hl 1 rfl) ?_
      refine lv_iload_n hx hb dX6_isPrimeHere_17 rfl (lv_at hl 1 rfl) ?_
      refine lv_imul hx hb dX6_isPrimeHere_18 ?_
      refine lv_iload_n hx hb dX6_isPrimeHere_19 rfl (lv_at hl 0 rfl) ?_
      refine lv_icmp_gt (tgt := 37) hx hb dX6_isPrimeHere_20 (by decide) (fun c_20 => ?_) (fun c_20 => ?_)
      · replace hf := it_p c_20 hf
        refine lv_iconst (v := 1) hx hb dX6_isPrimeHere_37 (by decide) ?_
        obtain rfl := Option.some.inj hf
        rw [← hQe]
        exact W.zret (v := bi true) hx hb hr (nar_bi _) (fun t ht hW => ⟨rfl, ht⟩) (fun q h => by cases h) dX6_isPrimeHere_38
      · replace hf := it_n c_20 hf
        refine lv_iload_n hx hb dX6_isPrimeHere_23 rfl (lv_at hl 0 rfl) ?_
        refine lv_iload_n hx hb dX6_isPrimeHere_24 rfl (lv_at hl 1 rfl) ?_
        replace hf := gd_e hf
        obtain ⟨z_25, hf⟩ := hf
        refine rw_irem hx hb dX6_isPrimeHere_25 z_25 ?_
        refine lv_if_ne (tgt := 31) hx hb dX6_isPrimeHere_26 (by decide) (fun c_26 => ?_) (fun c_26 => ?_)
        · replace hf := it_n c_26 hf
          obtain ⟨v_31, e_31⟩ : ∃ y : Int32, y = x1_16 + 1 := ⟨_, rfl⟩
          replace hf := bd_at e_31 hf
          refine lv_iinc (v := v_31) (lv' := [(1, .int v_31), (0, .int x1)]) hx hb dX6_isPrimeHere_31 hl (k := 1) rfl (by rw [e_31]; rfl) (by decide) rfl (fun ls hl => ?_)
          clear e_31
          refine lv_goto (tgt := 16) hx hb dX6_isPrimeHere_34 (by decide) ?_
          exact ih16 ls v_31 hf (lv_sub hl [1, 0] rfl)
        · replace hf := it_p c_26 hf
          refine lv_iconst (v := 0) hx hb dX6_isPrimeHere_29 (by decide) ?_
          obtain rfl := Option.some.inj hf
          rw [← hQe]
          exact W.zret (v := bi false) hx hb hr (nar_bi _) (fun t ht hW => ⟨rfl, ht⟩) (fun q h => by cases h) dX6_isPrimeHere_30
  unfold FX6_isPrimeHere at hf
  refine lv_iload_n hx hb dX6_isPrimeHere_0 rfl (lv_at hl 0 rfl) ?_
  refine lv_iconst (v := 3) hx hb dX6_isPrimeHere_1 (by decide) ?_
  refine lv_icmp_lt (tgt := 12) hx hb dX6_isPrimeHere_2 (by decide) (fun c_2 => ?_) (fun c_2 => ?_)
  · replace hf := it_p c_2 hf
    refine lv_iconst (v := 0) hx hb dX6_isPrimeHere_12 (by decide) ?_
    obtain rfl := Option.some.inj hf
    rw [← hQe]
    exact W.zret (v := bi false) hx hb hr (nar_bi _) (fun t ht hW => ⟨rfl, ht⟩) (fun q h => by cases h) dX6_isPrimeHere_13
  · replace hf := it_n c_2 hf
    refine lv_iload_n hx hb dX6_isPrimeHere_5 rfl (lv_at hl 0 rfl) ?_
    refine lv_sipush (v := 199) hx hb dX6_isPrimeHere_6 (by decide) ?_
    refine lv_icmp_le (tgt := 14) hx hb dX6_isPrimeHere_9 (by decide) (fun c_9 => ?_) (fun c_9 => ?_)
    · replace hf := it_p c_9 hf
      refine lv_iconst (v := 2) hx hb dX6_isPrimeHere_14 (by decide) ?_
      refine lv_istore_n (lv' := [(1, .int 2), (0, .int x1)]) hx hb dX6_isPrimeHere_15 rfl hl (by decide) rfl (fun ls hl => ?_)
      exact L16 FU ls 2 hf (lv_sub hl [1, 0] rfl)
    · replace hf := it_n c_9 hf
      refine lv_iconst (v := 0) hx hb dX6_isPrimeHere_12 (by decide) ?_
      obtain rfl := Option.some.inj hf
      rw [← hQe]
      exact W.zret (v := bi false) hx hb hr (nar_bi _) (fun t ht hW => ⟨rfl, ht⟩) (fun q h => by cases h) dX6_isPrimeHere_13
