def wX7_0 (cy : Nat → ClassId) (ad : Nat → Nat) (thr : Int32) (sta : Int32) (pri : Int32) (tcd : Int32) (frt : Int32) (frp : Int32) : va_W := [(ad 0, .inr (7, [.int thr, .int sta, .int pri, .ref (ad 1), .ref (ad 2), .ref (ad 3), .ref (ad 4), .ref (ad 5), .ref (ad 6), .ref (ad 7), .ref (ad 8), .ref (ad 9), .ref (ad 10), .ref (ad 11), .ref (ad 12), .ref (ad 13), .ref (ad 14), .ref (ad 15), .int tcd, .ref (ad 16), .ref (ad 17), .ref (ad 18), .ref (ad 19), .ref (ad 20), .ref (ad 21), .ref (ad 22), .int frt, .int frp]))]
def wX7_0_1_2_3 (cy : Nat → ClassId) (ad : Nat → Nat) (thr : Int32) (sta : Int32) (pri : Int32) (tcd : Int32) (frt : Int32) (frp : Int32) (lan : Nat → Int32) (man : Nat → Int32) (itm : Nat → Int64) : va_W := [(ad 0, .inr (7, [.int thr, .int sta, .int pri, .ref (ad 1), .ref (ad 2), .ref (ad 3), .ref (ad 4), .ref (ad 5), .ref (ad 6), .ref (ad 7), .ref (ad 8), .ref (ad 9), .ref (ad 10), .ref (ad 11), .ref (ad 12), .ref (ad 13), .ref (ad 14), .ref (ad 15), .int tcd, .ref (ad 16), .ref (ad 17), .ref (ad 18), .ref (ad 19), .ref (ad 20), .ref (ad 21), .ref (ad 22), .int frt, .int frp])), (ad 1, .inl (cy 0, 8, .inl lan)), (ad 2, .inl (cy 0, 8, .inl man)), (ad 3, .inl (cy 1, 320, .inr (.inl itm)))]
def wX7_0_1_2 (cy : Nat → ClassId) (ad : Nat → Nat) (thr : Int32) (sta : Int32) (pri : Int32) (tcd : Int32) (frt : Int32) (frp : Int32) (lan : Nat → Int32) (man : Nat → Int32) : va_W := [(ad 0, .inr (7, [.int thr, .int sta, .int pri, .ref (ad 1), .ref (ad 2), .ref (ad 3), .ref (ad 4), .ref (ad 5), .ref (ad 6), .ref (ad 7), .ref (ad 8), .ref (ad 9), .ref (ad 10), .ref (ad 11), .ref (ad 12), .ref (ad 13), .ref (ad 14), .ref (ad 15), .int tcd, .ref (ad 16), .ref (ad 17), .ref (ad 18), .ref (ad 19), .ref (ad 20), .ref (ad 21), .ref (ad 22), .int frt, .int frp])), (ad 1, .inl (cy 0, 8, .inl lan)), (ad 2, .inl (cy 0, 8, .inl man))]
def wX7_0_4_5 (cy : Nat → ClassId) (ad : Nat → Nat) (thr : Int32) (sta : Int32) (pri : Int32) (tcd : Int32) (frt : Int32) (frp : Int32) (deg : Nat → Int32) (num : Nat → Int32) : va_W := [(ad 0, .inr (7, [.int thr, .int sta, .int pri, .ref (ad 1), .ref (ad 2), .ref (ad 3), .ref (ad 4), .ref (ad 5), .ref (ad 6), .ref (ad 7), .ref (ad 8), .ref (ad 9), .ref (ad 10), .ref (ad 11), .ref (ad 12), .ref (ad 13), .ref (ad 14), .ref (ad 15), .int tcd, .ref (ad 16), .ref (ad 17), .ref (ad 18), .ref (ad 19), .ref (ad 20), .ref (ad 21), .ref (ad 22), .int frt, .int frp])), (ad 4, .inl (cy 0, 10, .inl deg)), (ad 5, .inl (cy 0, 50, .inl num))]
def wX7_0_4_5_6 (cy : Nat → ClassId) (ad : Nat → Nat) (thr : Int32) (sta : Int32) (pri : Int32) (tcd : Int32) (frt : Int32) (frp : Int32) (deg : Nat → Int32) (num : Nat → Int32) (mad : Nat → Int32) : va_W := [(ad 0, .inr (7, [.int thr, .int sta, .int pri, .ref (ad 1), .ref (ad 2), .ref (ad 3), .ref (ad 4), .ref (ad 5), .ref (ad 6), .ref (ad 7), .ref (ad 8), .ref (ad 9), .ref (ad 10), .ref (ad 11), .ref (ad 12), .ref (ad 13), .ref (ad 14), .ref (ad 15), .int tcd, .ref (ad 16), .ref (ad 17), .ref (ad 18), .ref (ad 19), .ref (ad 20), .ref (ad 21), .ref (ad 22), .int frt, .int frp])), (ad 4, .inl (cy 0, 10, .inl deg)), (ad 5, .inl (cy 0, 50, .inl num)), (ad 6, .inl (cy 0, 5, .inl mad))]
def wX7_0_1_2_3_4_5_6 (cy : Nat → ClassId) (ad : Nat → Nat) (thr : Int32) (sta : Int32) (pri : Int32) (tcd : Int32) (frt : Int32) (frp : Int32) (lan : Nat → Int32) (man : Nat → Int32) (itm : Nat → Int64) (deg : Nat → Int32) (num : Nat → Int32) (mad : Nat → Int32) : va_W := [(ad 0, .inr (7, [.int thr, .int sta, .int pri, .ref (ad 1), .ref (ad 2), .ref (ad 3), .ref (ad 4), .ref (ad 5), .ref (ad 6), .ref (ad 7), .ref (ad 8), .ref (ad 9), .ref (ad 10), .ref (ad 11), .ref (ad 12), .ref (ad 13), .ref (ad 14), .ref (ad 15), .int tcd, .ref (ad 16), .ref (ad 17), .ref (ad 18), .ref (ad 19), .ref (ad 20), .ref (ad 21), .ref (ad 22), .int frt, .int frp])), (ad 1, .inl (cy 0, 8, .inl lan)), (ad 2, .inl (cy 0, 8, .inl man)), (ad 3, .inl (cy 1, 320, .inr (.inl itm))), (ad 4, .inl (cy 0, 10, .inl deg)), (ad 5, .inl (cy 0, 50, .inl num)), (ad 6, .inl (cy 0, 5, .inl mad))]
def wX7_0_4_5_6_7_8 (cy : Nat → ClassId) (ad : Nat → Nat) (thr : Int32) (sta : Int32) (pri : Int32) (tcd : Int32) (frt : Int32) (frp : Int32) (deg : Nat → Int32) (num : Nat → Int32) (mad : Nat → Int32) (inn : Nat → Int32) (lon : Nat → Int32) : va_W := [(ad 0, .inr (7, [.int thr, .int sta, .int pri, .ref (ad 1), .ref (ad 2), .ref (ad 3), .ref (ad 4), .ref (ad 5), .ref (ad 6), .ref (ad 7), .ref (ad 8), .ref (ad 9), .ref (ad 10), .ref (ad 11), .ref (ad 12), .ref (ad 13), .ref (ad 14), .ref (ad 15), .int tcd, .ref (ad 16), .ref (ad 17), .ref (ad 18), .ref (ad 19), .ref (ad 20), .ref (ad 21), .ref (ad 22), .int frt, .int frp])), (ad 4, .inl (cy 0, 10, .inl deg)), (ad 5, .inl (cy 0, 50, .inl num)), (ad 6, .inl (cy 0, 5, .inl mad)), (ad 7, .inl (cy 0, 5, .inl inn)), (ad 8, .inl (cy 0, 5, .inl lon))]
def wX7_0_4 (cy : Nat → ClassId) (ad : Nat → Nat) (thr : Int32) (sta : Int32) (pri : Int32) (tcd : Int32) (frt : Int32) (frp : Int32) (deg : Nat → Int32) : va_W := [(ad 0, .inr (7, [.int thr, .int sta, .int pri, .ref (ad 1), .ref (ad 2), .ref (ad 3), .ref (ad 4), .ref (ad 5), .ref (ad 6), .ref (ad 7), .ref (ad 8), .ref (ad 9), .ref (ad 10), .ref (ad 11), .ref (ad 12), .ref (ad 13), .ref (ad 14), .ref (ad 15), .int tcd, .ref (ad 16), .ref (ad 17), .ref (ad 18), .ref (ad 19), .ref (ad 20), .ref (ad 21), .ref (ad 22), .int frt, .int frp])), (ad 4, .inl (cy 0, 10, .inl deg))]
def FX7_in   (x1 : Int64) (x3 : Int64) (x5 : Int64) : Option (Bool) := (if (lg_cmp x1 x3) < 0 then ((some (false))) else (if 0 < (lg_cmp x1 x5) then ((some (false))) else ((some (true)))))
abbrev RMX7_in : Room := { frames := 0, cells := 0, slots := 0, locals := 0 }
set_option maxHeartbeats 4000000 in
set_option maxRecDepth 100000 in
theorem KX7_in (l : Launch) (D : va_G) (cy : Nat → ClassId)   (x1 : Int64) (x3 : Int64) (x5 : Int64) (sz : Nat) {out : Bool} (hf : FX7_in x1 x3 x5 = some out) : Met l yX7_in wsX7_in RMX7_in (PW D cy [.long x1, .long x3, .long x5] sz [] []) (QR (some (.int (bi out)))) 0 0 no_A := by
  refine Met.ofW (cc := cX7_in) (maxL := 6) (ret := (some .boolean)) (by decide +kernel) rfl ?_
  intro p e s m args below meth c s₁ B hml hv
  obtain ⟨hav, hsz, hP, hR0, hK, hN, hD0, hsep⟩ := hv
  have hx := B.exec
  have hb := B.bytes
  have hr := B.returns
  have hts := atoms_spec (ws := wsX7_in) B.pre
  have hown : s.vm.findClass RX7 = some m.cls := findClass_of_methodNamed B.named
  have hlocks := B.notSynchronized
  subst hsz
  obtain ⟨ls, hfr, hl⟩ := ent_ok (m := m) (n := 6) (l' := [(0, .long x1), (2, .long x3), (4, .long x5)]) [.long x1, .long x3, .long x5] hav (Nat.le_of_ble_eq_true rfl) rfl
  rw [hfr]
  generalize hQe : MQ below (QR (some (.int (bi out)))) args s 0 0 no_A = QQ
  change W p l e RMX7_in s m args below meth c s.heap [] 0 0 QQ (F0 m 0 ls [])
  unfold FX7_in at hf
  refine lv_lload_n hx hb dX7_in_0 rfl (lv_at hl 0 rfl) ?_
  refine lv_lload_n hx hb dX7_in_1 rfl (lv_at hl 1 rfl) ?_
  refine W.lcmp hx hb dX7_in_2 ?_
  refine lv_if_lt (tgt := 17) hx hb dX7_in_3 (by decide) (fun c_3 => ?_) (fun c_3 => ?_)
  · replace hf := it_p c_3 hf
    refine lv_iconst (v := 0) hx hb dX7_in_17 (by decide) ?_
    obtain rfl := Option.some.inj hf
    rw [← hQe]
    exact W.zret (v := bi false) hx hb hr (nar_bi _) (fun t ht hW => ⟨rfl, ht⟩) (fun q h => by cases h) dX7_in_18
  · replace hf := it_n c_3 hf
    refine lv_lload_n hx hb dX7_in_6 rfl (lv_at hl 0 rfl) ?_
    refine lv_lload hx hb dX7_in_7 (lv_at hl 2 rfl) ?_
    refine W.lcmp hx hb dX7_in_9 ?_
    refine lv_if_gt (tgt := 17) hx hb dX7_in_10 (by decide) (fun c_10 => ?_) (fun c_10 => ?_)
    · replace hf := it_p c_10 hf
      refine lv_iconst (v := 0) hx hb dX7_in_17 (by decide) ?_
      obtain rfl := Option.some.inj hf
      rw [← hQe]
      exact W.zret (v := bi false) hx hb hr (nar_bi _) (fun t ht hW => ⟨rfl, ht⟩) (fun q h => by cases h) dX7_in_18
    · replace hf := it_n c_10 hf
      refine lv_iconst (v := 1) hx hb dX7_in_13 (by decide) ?_
      refine lv_goto (tgt := 18) hx hb dX7_in_14 (by decide) ?_
      obtain rfl := Option.some.inj hf
      rw [← hQe]
      exact W.zret (v := bi true) hx hb hr (nar_bi _) (fun t ht hW => ⟨rfl, ht⟩) (fun q h => by cases h) dX7_in_18
def FX7_found   (x1 : Int32) : Option (Int32 × (Int32)) := (some (((-1000010) - x1), x1))
abbrev RMX7_found : Room := { frames := 0, cells := 0, slots := 0, locals := 0 }
set_option maxHeartbeats 4000000 in
set_option maxRecDepth 100000 in
theorem KX7_found (l : Launch) (D : va_G) (cy : Nat → ClassId) (ad : Nat → Nat) (thr : Int32) (sta : Int32) (pri : Int32) (tcd : Int32) (frt : Int32) (frp : Int32) (x1 : Int32) (sz : Nat) {out : Int32 × (Int32)} (hf : FX7_found x1 = some out) : Met l yX7_found wsX7_found RMX7_found (PW D cy [.ref (ad 0), .int x1] sz ((wX7_0 cy ad thr sta pri tcd frt frp)) []) (QW D (some (.int out.1)) ((wX7_0 cy ad thr out.2 pri tcd frt frp)) (va_A ((wX7_0 cy ad thr sta pri tcd frt frp)) sz)) 0 0 (va_A ((wX7_0 cy ad thr sta pri tcd frt frp)) sz) := by
  refine Met.ofW (cc := cX7_found) (maxL := 2) (ret := (some .int)) (by decide +kernel) rfl ?_
  intro p e s m args below meth c s₁ B hml hv
  obtain ⟨hav, hsz, hP, hR0, hK, hN, hD0, hsep⟩ := hv
  have hx := B.exec
  have hb := B.bytes
  have hr := B.returns
  have hts := atoms_spec (ws := wsX7_found) B.pre
  have hown : s.vm.findClass RX7 = some m.cls := findClass_of_methodNamed B.named
  have hlocks := B.notSynchronized
  subst hsz
  have hin_X7 : ∀ w ∈ u_ws RX7 TX7 28, w ∈ wsX7_found := by decide +kernel
  have hw_0 := hts (.constant RX7 10 (-1000010)) (by decide +kernel)
  have hw_1 := hts (.fieldLink RX7 7 "ReturnPointsModel" "status" "I") (by decide +kernel)
  have hD := hD0.self (sz := s.heap.size)
  have hnA := roA hsep hR0
  generalize hAe : va_A ((wX7_0 cy ad thr sta pri tcd frt frp)) s.heap.size = A at hD hnA ⊢
  have hA : ∀ q : Nat, s.heap.size ≤ q → A q := fun q h => by rw [← hAe]; exact Or.inr h
  have hS : va_S A s.heap s.heap [] := va_S.rf
  obtain ⟨ls, hfr, hl⟩ := ent_ok (m := m) (n := 2) (l' := [(0, .ref (ad 0)), (1, .int x1)]) [.ref (ad 0), .int x1] hav (Nat.le_of_ble_eq_true rfl) rfl
  rw [hfr]
  generalize hQe : MQ below (QW D (some (.int out.1)) ((wX7_0 cy ad thr out.2 pri tcd frt frp)) A) args s 0 0 A = QQ
  change W p l e RMX7_found s m args below meth c s.heap [] 0 0 QQ (F0 m 0 ls [])
  have hP : va_P D vwCl ((wX7_0 cy ad thr sta pri tcd frt frp)) s.heap := hP
  have hD : va_D A ((wX7_0 cy ad thr sta pri tcd frt frp)) := hD
  suffices h00 : ∀ (H : Heap) (locs : List Loc), va_P D vwCl ((wX7_0 cy ad thr sta pri tcd frt frp)) H → va_S A s.heap H locs → W p l e RMX7_found s m args below meth c H locs 0 0 QQ (F0 m 0 ls []) from h00 _ _ hP hS
  clear hP hS
  intro H locs hP hS
  unfold FX7_found at hf
  refine lv_aload_n hx hb dX7_found_0 rfl (lv_at hl 0 rfl) ?_
  refine lv_iload_n hx hb dX7_found_1 rfl (lv_at hl 1 rfl) ?_
  refine va_put (a := (ad 0)) (ci := 7) (v := .int x1) (ty := .int) (C := RX7) (T := TX7) (N := 28) hx hb hts hin_X7 tyX7 tyX7_ok nmX7 hown hK hP hD hS 0 rfl rfl 1 (by decide) hw_1 (fun _ h => h) rfl (by decide +kernel) rfl rfl (Nat.le_of_ble_eq_true rfl) dX7_found_2 (fun H locs hP hD hS => ?_)
  have hP : va_P D vwCl ((wX7_0 cy ad thr x1 pri tcd frt frp)) H := hP
  have hD : va_D A ((wX7_0 cy ad thr x1 pri tcd frt frp)) := hD
  refine lv_ldc (own := RX7) (v := (-1000010)) hx hb hown hw_0 dX7_found_5 ?_
  refine lv_iload_n hx hb dX7_found_7 rfl (lv_at hl 1 rfl) ?_
  refine lv_isub hx hb dX7_found_8 ?_
  obtain rfl := Option.some.inj hf
  rw [← hQe]
  exact W.iret (v := ((-1000010) - x1)) hx hb hr (fun t ht hW => ⟨rfl, by rw [ht]; exact hP, hS.F ht⟩) hS.2.2 dX7_found_9
def FX7_isPrime_J33  (k13 : Bool → Int32 → Option (Bool)) (x1 : Int32) (x2_33 : Int32) (s0_33 : Bool) : Option (Bool) := (bd (x2_33 + 1) (fun v_34 => k13 s0_33 v_34))
def FX7_isPrime_L13   (x1 : Int32) : Nat → Bool → Int32 → Option (Bool)
  | 0, _, _ => none
  | fuel + 1, b1_13, x2_13 => (if x1 ≤ x2_13 then (some (b1_13)) else (if (bi b1_13) = 0 then (some (b1_13)) else (gd (¬ x2_13 = 0) (if (irm x1 x2_13) = 0 then (FX7_isPrime_J33 (FX7_isPrime_L13 x1 fuel) x1 x2_13 false) else (FX7_isPrime_J33 (FX7_isPrime_L13 x1 fuel) x1 x2_13 true)))))
def FX7_isPrime_J10   (x1 : Int32) (s0_10 : Bool) : Option (Bool) := (FX7_isPrime_L13 x1 FU s0_10 2)
def FX7_isPrime   (x1 : Int32) : Option (Bool) := (if x1 ≤ 1 then (FX7_isPrime_J10 x1 false) else (FX7_isPrime_J10 x1 true))
abbrev RMX7_isPrime : Room := { frames := 0, cells := 0, slots := 0, locals := 0 }
set_option maxHeartbeats 4000000 in
set_option maxRecDepth 100000 in
theorem KX7_isPrime (l : Launch) (D : va_G) (cy : Nat → ClassId)   (x1 : Int32) (sz : Nat) {out : Bool} (hf : FX7_isPrime x1 = some out) : Met l yX7_isPrime wsX7_isPrime RMX7_isPrime (PW D cy [.int x1] sz [] []) (QR (some (.int (bi out)))) 0 0 no_A := by
  refine Met.ofW (cc := cX7_isPrime) (maxL := 3) (ret := (some .boolean)) (by decide +kernel) rfl ?_
  intro p e s m args below meth c s₁ B hml hv
  obtain ⟨hav, hsz, hP, hR0, hK, hN, hD0, hsep⟩ := hv
  have hx := B.exec
  have hb := B.bytes
  have hr := B.returns
  have hts := atoms_spec (ws := wsX7_isPrime) B.pre
  have hown : s.vm.findClass RX7 = some m.cls := findClass_of_methodNamed B.named
  have hlocks := B.notSynchronized
  subst hsz
  obtain ⟨ls, hfr, hl⟩ := ent_ok (m := m) (n := 3) (l' := [(0, .int x1)]) [.int x1] hav (Nat.le_of_ble_eq_true rfl) rfl
  rw [hfr]
  generalize hQe : MQ below (QR (some (.int (bi out)))) args s 0 0 no_A = QQ
  change W p l e RMX7_isPrime s m args below meth c s.heap [] 0 0 QQ (F0 m 0 ls [])
  have L13 : ∀  (n13 : Nat) (ls : Array Slot) (b1_13 : Bool) (x2_13 : Int32), FX7_isPrime_L13 x1 n13 b1_13 x2_13 = some out → lv_has ls 3 [(0, .int x1), (1, .int (bi b1_13)), (2, .int x2_13)] → W p l e RMX7_isPrime s m args below meth c s.heap [] 0 0 QQ (F0 m 13 ls []) := by
    intro  n13
    induction n13 with
    | zero => intro ls b1_13 x2_13 hf; simp [FX7_isPrime_L13] at hf
    | succ n13 ih13 =>
      intro ls b1_13 x2_13 hf hl
      rw [FX7_isPrime_L13] at hf
      have J33 : ∀ (ls : Array Slot) (x2_33 : Int32) (s0_33 : Bool), FX7_isPrime_J33 (FX7_isPrime_L13 x1 n13) x1 x2_33 s0_33 = some out → lv_has ls 3 [(0, .int x1), (2, .int x2_33)] → W p l e RMX7_isPrime s m args below meth c s.heap [] 0 0 QQ (F0 m 33 ls [.int (bi s0_33)]) := by
        intro ls x2_33 s0_33 hf hl
        unfold FX7_isPrime_J33 at hf
        refine lv_istore_n (lv' := [(1, .int (bi s0_33)), (0, .int x1), (2, .int x2_33)]) hx hb dX7_isPrime_33 rfl hl (by decide) rfl (fun ls hl => ?_)
        obtain ⟨v_34, e_34⟩ : ∃ y : Int32, y = x2_33 + 1 := ⟨_, rfl⟩
        replace hf := bd_at e_34 hf
        refine lv_iinc (v := v_34) (lv' := [(2, .int v_34), (1, .int (bi s0_33)), (0, .int x1)]) hx hb dX7_isPrime_34 hl (k := 2) rfl (by rw [e_34]; rfl) (by decide) rfl (fun ls hl => ?_)
        clear e_34
        refine lv_goto (tgt := 13) hx hb dX7_isPrime_37 (by decide) ?_
        exact ih13 ls s0_33 v_34 hf (lv_sub hl [2, 1, 0] rfl)
      refine lv_iload_n hx hb dX7_isPrime_13 rfl (lv_at hl 2 rfl) ?_
      refine lv_iload_n hx hb dX7_isPrime_14 rfl (lv_at hl 0 rfl) ?_
      refine lv_icmp_ge (tgt := 40) hx hb dX7_isPrime_15 (by decide) (fun c_15 => ?_) (fun c_15 => ?_)
      · replace hf := it_p c_15 hf
        refine lv_iload_n hx hb dX7_isPrime_40 rfl (lv_at hl 1 rfl) ?_
        obtain rfl := Option.some.inj hf
        rw [← hQe]
        exact W.zret (v := bi b1_13) hx hb hr (nar_bi _) (fun t ht hW => ⟨rfl, ht⟩) (fun q h => by cases h) dX7_isPrime_41
      · replace hf := it_n c_15 hf
        refine lv_iload_n hx hb dX7_isPrime_18 rfl (lv_at hl 1 rfl) ?_
        refine lv_if_eq (tgt := 40) hx hb dX7_isPrime_19 (by decide) (fun c_19 => ?_) (fun c_19 => ?_)
        · replace hf := it_p c_19 hf
          refine lv_iload_n hx hb dX7_isPrime_40 rfl (lv_at hl 1 rfl) ?_
          obtain rfl := Option.some.inj hf
          rw [← hQe]
          exact W.zret (v := bi b1_13) hx hb hr (nar_bi _) (fun t ht hW => ⟨rfl, ht⟩) (fun q h => by cases h) dX7_isPrime_41
        · replace hf := it_n c_19 hf
          refine lv_iload_n hx hb dX7_isPrime_22 rfl (lv_at hl 0 rfl) ?_
          refine lv_iload_n hx hb dX7_isPrime_23 rfl (lv_at hl 2 rfl) ?_
          replace hf := gd_e hf
          obtain ⟨z_24, hf⟩ := hf
          refine rw_irem hx hb dX7_isPrime_24 z_24 ?_
          refine lv_if_eq (tgt := 32) hx hb dX7_isPrime_25 (by decide) (fun c_25 => ?_) (fun c_25 => ?_)
          · replace hf := it_p c_25 hf
            refine lv_iconst (v := 0) hx hb dX7_isPrime_32 (by decide) ?_
            exact J33 ls x2_13 false hf (lv_sub hl [0, 2] rfl)
          · replace hf := it_n c_25 hf
            refine lv_iconst (v := 1) hx hb dX7_isPrime_28 (by decide) ?_
            refine lv_goto (tgt := 33) hx hb dX7_isPrime_29 (by decide) ?_
            exact J33 ls x2_13 true hf (lv_sub hl [0, 2] rfl)
  have J10 : ∀ (ls : Array Slot) (s0_10 : Bool), FX7_isPrime_J10 x1 s0_10 = some out → lv_has ls 3 [(0, .int x1)] → W p l e RMX7_isPrime s m args below meth c s.heap [] 0 0 QQ (F0 m 10 ls [.int (bi s0_10)]) := by
    intro ls s0_10 hf hl
    unfold FX7_isPrime_J10 at hf
    refine lv_istore_n (lv' := [(1, .int (bi s0_10)), (0, .int x1)]) hx hb dX7_isPrime_10 rfl hl (by decide) rfl (fun ls hl => ?_)
    refine lv_iconst (v := 2) hx hb dX7_isPrime_11 (by decide) ?_
    refine lv_istore_n (lv' := [(2, .int 2), (1, .int (bi s0_10)), (0, .int x1)]) hx hb dX7_isPrime_12 rfl hl (by decide) rfl (fun ls hl => ?_)
    exact L13 FU ls s0_10 2 hf (lv_sub hl [2, 1, 0] rfl)
  unfold FX7_isPrime at hf
  refine lv_iload_n hx hb dX7_isPrime_0 rfl (lv_at hl 0 rfl) ?_
  refine lv_iconst (v := 1) hx hb dX7_isPrime_1 (by decide) ?_
  refine lv_icmp_le (tgt := 9) hx hb dX7_isPrime_2 (by decide) (fun c_2 => ?_) (fun c_2 => ?_)
  · replace hf := it_p c_2 hf
    refine lv_iconst (v := 0) hx hb dX7_isPrime_9 (by decide) ?_
    exact J10 ls false hf (lv_sub hl [0] rfl)
  · replace hf := it_n c_2 hf
    refine lv_iconst (v := 1) hx hb dX7_isPrime_5 (by decide) ?_
    refine lv_goto (tgt := 10) hx hb dX7_isPrime_6 (by decide) ?_
    exact J10 ls true hf (lv_sub hl [0] rfl)
def FX7_isSheet   (x1 : Int32) : Option (Bool) := (ob (FX7_in (Int32.toInt64 x1) 0 7) (fun u_6 => some (u_6)))
abbrev RMX7_isSheet : Room := { frames := 1, cells := 0, slots := 0, locals := 25 }
set_option maxHeartbeats 4000000 in
set_option maxRecDepth 100000 in
theorem KX7_isSheet (l : Launch) (D : va_G) (cy : Nat → ClassId)   (x1 : Int32) (sz : Nat) {out : Bool} (hf : FX7_isSheet x1 = some out) : Met l yX7_isSheet wsX7_isSheet RMX7_isSheet (PW D cy [.int x1] sz [] []) (QR (some (.int (bi out)))) 0 0 no_A := by
  refine Met.ofW (cc := cX7_isSheet) (maxL := 1) (ret := (some .boolean)) (by decide +kernel) rfl ?_
  intro p e s m args below meth c s₁ B hml hv
  obtain ⟨hav, hsz, hP, hR0, hK, hN, hD0, hsep⟩ := hv
  have hx := B.exec
  have hb := B.bytes
  have hr := B.returns
  have hts := atoms_spec (ws := wsX7_isSheet) B.pre
  have hown : s.vm.findClass RX7 = some m.cls := findClass_of_methodNamed B.named
  have hlocks := B.notSynchronized
  subst hsz
  have hw_0 := hts (.constantLong RX7 101 (7)) (by decide +kernel)
  obtain ⟨ls, hfr, hl⟩ := ent_ok (m := m) (n := 1) (l' := [(0, .int x1)]) [.int x1] hav (Nat.le_of_ble_eq_true rfl) rfl
  rw [hfr]
  generalize hQe : MQ below (QR (some (.int (bi out)))) args s 0 0 no_A = QQ
  change W p l e RMX7_isSheet s m args below meth c s.heap [] 0 0 QQ (F0 m 0 ls [])
  unfold FX7_isSheet at hf
  refine lv_iload_n hx hb dX7_isSheet_0 rfl (lv_at hl 0 rfl) ?_
  refine lv_i2l hx hb dX7_isSheet_1 rfl ?_
  refine lv_lconst (v := 0) hx hb dX7_isSheet_2 (by decide) ?_
  refine lv_ldc2 (own := RX7) (v := 7) hx hb hown hw_0 dX7_isSheet_3 ?_
  replace hf := ob_e hf
  obtain ⟨u_6, hu_6, hf⟩ := hf
  refine isR (As := [.long (Int32.toInt64 x1), .long 0, .long 7]) (rest := []) (st1 := [.int (bi u_6)]) ⟨hx, hb, hml, hown, hts⟩ hK hN (KX7_in l D cy (Int32.toInt64 x1) 0 7 s.heap.size hu_6) (va_cwS 3 hts gX7_isSheet_X7_in rfl rfl rfl (by decide +kernel) ⟨Nat.le_of_ble_eq_true rfl, Nat.le_of_ble_eq_true rfl⟩) P_nil rfl hl.1 rfl (Nat.le_of_ble_eq_true rfl) rfl dX7_isSheet_6 ⟨Nat.zero_le _, Nat.zero_le _⟩ ?_
  obtain rfl := Option.some.inj hf
  rw [← hQe]
  exact W.zret (v := bi u_6) hx hb hr (nar_bi _) (fun t ht hW => ⟨rfl, ht⟩) (fun q h => by cases h) dX7_isSheet_9
def FX7_sheet_L65   (x1 : Int32) (x3 : Int32) (thr_65 : Int32) (sta_65 : Int32) (lan_65 : Nat → Int32) (man_65 : Nat → Int32) : Nat → Int32 → (Nat → Int64) → Option (Int32 × (Int32) × (Int32) × (Nat → Int32) × (Nat → Int32) × (Nat → Int64))
  | 0, _, _ => none
  | fuel + 1, x4_65, itm_65 => (if 40 ≤ x4_65 then (some (x3, thr_65, sta_65, lan_65, man_65, itm_65)) else (gi ((40 * x1) + x4_65) 320 (bd (x4_65 + 1) (fun v_85 => (FX7_sheet_L65 x1 x3 thr_65 sta_65 lan_65 man_65 fuel) v_85 (vp_updL itm_65 (Int32.toNatClampNeg ((40 * x1) + x4_65)) 0)))))
def FX7_sheet  (sta : Int32) (lan : Nat → Int32) (man : Nat → Int32) (itm : Nat → Int64) (x1 : Int32) (x2 : Int32) (x3 : Int32) : Option (Int32 × (Int32) × (Int32) × (Nat → Int32) × (Nat → Int32) × (Nat → Int64)) := (ob (FX7_isSheet x1) (fun u_6 => if (bi u_6) = 0 then (some ((-1000001), 0, sta, lan, man, itm)) else (ob (FX7_in (Int32.toInt64 x2) 0 2) (fun u_18 => if (bi u_18) = 0 then (some ((-1000001), 0, sta, lan, man, itm)) else (if x3 ≤ 40 then (if 0 ≤ x3 then (gi x1 8 (gi x1 8 (FX7_sheet_L65 x1 x3 0 0 (upd lan (Int32.toNatClampNeg x1) x2) (upd man (Int32.toNatClampNeg x1) x3) FU 0 itm))) else (ob (FX7_found 4) (fun u_44 => some (u_44.1, 0, u_44.2, lan, man, itm)))) else (some ((-1000001), 0, sta, lan, man, itm)))))))
abbrev RMX7_sheet : Room := { frames := 2, cells := 0, slots := 0, locals := 45 }
set_option maxHeartbeats 4000000 in
set_option maxRecDepth 100000 in
theorem KX7_sheet (l : Launch) (D : va_G) (cy : Nat → ClassId) (ad : Nat → Nat) (thr : Int32) (sta : Int32) (pri : Int32) (tcd : Int32) (frt : Int32) (frp : Int32) (lan : Nat → Int32) (man : Nat → Int32) (itm : Nat → Int64) (x1 : Int32) (x2 : Int32) (x3 : Int32) (sz : Nat) {out : Int32 × (Int32) × (Int32) × (Nat → Int32) × (Nat → Int32) × (Nat → Int64)} (hf : FX7_sheet sta lan man itm x1 x2 x3 = some out) : Met l yX7_sheet wsX7_sheet RMX7_sheet (PW D cy [.ref (ad 0), .int x1, .int x2, .int x3] sz ((wX7_0_1_2_3 cy ad thr sta pri tcd frt frp lan man itm)) []) (QW D (some (.int out.1)) ((wX7_0_1_2_3 cy ad out.2.1 out.2.2.1 pri tcd frt frp out.2.2.2.1 out.2.2.2.2.1 out.2.2.2.2.2)) (va_A ((wX7_0_1_2_3 cy ad thr sta pri tcd frt frp lan man itm)) sz)) 0 0 (va_A ((wX7_0_1_2_3 cy ad thr sta pri tcd frt frp lan man itm)) sz) := by
  refine Met.ofW (cc := cX7_sheet) (maxL := 5) (ret := (some .int)) (by decide +kernel) rfl ?_
  intro p e s m args below meth c s₁ B hml hv
  obtain ⟨hav, hsz, hP, hR0, hK, hN, hD0, hsep⟩ := hv
  have hx := B.exec
  have hb := B.bytes
  have hr := B.returns
  have hts := atoms_spec (ws := wsX7_sheet) B.pre
  have hown : s.vm.findClass RX7 = some m.cls := findClass_of_methodNamed B.named
  have hlocks := B.notSynchronized
  subst hsz
  have hin_X7 : ∀ w ∈ u_ws RX7 TX7 28, w ∈ wsX7_sheet := by decide +kernel
  have hw_0 := hts (.constant RX7 108 (-1000001)) (by decide +kernel)
  have hw_1 := hts (.constantLong RX7 106 (2)) (by decide +kernel)
  have hw_2 := hts (.fieldLink RX7 24 "ReturnPointsModel" "item" "[J") (by decide +kernel)
  have hw_3 := hts (.fieldLink RX7 1 "ReturnPointsModel" "thrown" "I") (by decide +kernel)
  have hw_4 := hts (.fieldLink RX7 7 "ReturnPointsModel" "status" "I") (by decide +kernel)
  have hw_5 := hts (.fieldLink RX7 17 "ReturnPointsModel" "lane" "[I") (by decide +kernel)
  have hw_6 := hts (.fieldLink RX7 21 "ReturnPointsModel" "many" "[I") (by decide +kernel)
  have hD := hD0.self (sz := s.heap.size)
  have hnA := roA hsep hR0
  generalize hAe : va_A ((wX7_0_1_2_3 cy ad thr sta pri tcd frt frp lan man itm)) s.heap.size = A at hD hnA ⊢
  have hA : ∀ q : Nat, s.heap.size ≤ q → A q := fun q h => by rw [← hAe]; exact Or.inr h
  have hS : va_S A s.heap s.heap [] := va_S.rf
  obtain ⟨ls, hfr, hl⟩ := ent_ok (m := m) (n := 5) (l' := [(0, .ref (ad 0)), (1, .int x1), (2, .int x2), (3, .int x3)]) [.ref (ad 0), .int x1, .int x2, .int x3] hav (Nat.le_of_ble_eq_true rfl) rfl
  rw [hfr]
  generalize hQe : MQ below (QW D (some (.int out.1)) ((wX7_0_1_2_3 cy ad out.2.1 out.2.2.1 pri tcd frt frp out.2.2.2.1 out.2.2.2.2.1 out.2.2.2.2.2)) A) args s 0 0 A = QQ
  change W p l e RMX7_sheet s m args below meth c s.heap [] 0 0 QQ (F0 m 0 ls [])
  have hP : va_P D vwCl ((wX7_0_1_2_3 cy ad thr sta pri tcd frt frp lan man itm)) s.heap := hP
  have hD : va_D A ((wX7_0_1_2_3 cy ad thr sta pri tcd frt frp lan man itm)) := hD
  suffices h00 : ∀ (H : Heap) (locs : List Loc), va_P D vwCl ((wX7_0_1_2_3 cy ad thr sta pri tcd frt frp lan man itm)) H → va_S A s.heap H locs → W p l e RMX7_sheet s m args below meth c H locs 0 0 QQ (F0 m 0 ls []) from h00 _ _ hP hS
  clear hP hS
  intro H locs hP hS
  have L65 : ∀ (thr_65 : Int32) (sta_65 : Int32) (lan_65 : Nat → Int32) (man_65 : Nat → Int32) (n65 : Nat) (H : Heap) (locs : List Loc) (ls : Array Slot) (x4_65 : Int32) (itm_65 : Nat → Int64), FX7_sheet_L65 x1 x3 thr_65 sta_65 lan_65 man_65 n65 x4_65 itm_65 = some out → va_P D vwCl ((wX7_0_1_2_3 cy ad thr_65 sta_65 pri tcd frt frp lan_65 man_65 itm_65)) H → va_D A ((wX7_0_1_2_3 cy ad thr_65 sta_65 pri tcd frt frp lan_65 man_65 itm_65)) → va_S A s.heap H locs → lv_has ls 5 [(0, .ref (ad 0)), (1, .int x1), (3, .int x3), (4, .int x4_65)] → W p l e RMX7_sheet s m args below meth c H locs 0 0 QQ (F0 m 65 ls []) := by
    intro thr_65 sta_65 lan_65 man_65 n65
    induction n65 with
    | zero => intro H locs ls x4_65 itm_65 hf; simp [FX7_sheet_L65] at hf
    | succ n65 ih65 =>
      intro H locs ls x4_65 itm_65 hf hP hD hS hl
      rw [FX7_sheet_L65] at hf
      refine lv_iload hx hb dX7_sheet_65 (lv_at hl 3 rfl) ?_
      refine lv_bipush (v := 40) hx hb dX7_sheet_67 (by decide) ?_
      refine lv_icmp_ge (tgt := 91) hx hb dX7_sheet_69 (by decide) (fun c_69 => ?_) (fun c_69 => ?_)
      · replace hf := it_p c_69 hf
        refine lv_iload_n hx hb dX7_sheet_91 rfl (lv_at hl 2 rfl) ?_
        obtain rfl := Option.some.inj hf
        rw [← hQe]
        exact W.iret (v := x3) hx hb hr (fun t ht hW => ⟨rfl, by rw [ht]; exact hP, hS.F ht⟩) hS.2.2 dX7_sheet_92
      · replace hf := it_n c_69 hf
        refine lv_aload_n hx hb dX7_sheet_72 rfl (lv_at hl 0 rfl) ?_
        refine va_get (a := (ad 0)) (ci := 7) (v := .ref (ad 3)) (C := RX7) (T := TX7) (N := 28) hx hb hts hin_X7 hown hK hP 0 rfl rfl 5 (by decide) hw_2 (fun _ h => h) rfl dX7_sheet_73 ?_
        refine lv_bipush (v := 40) hx hb dX7_sheet_76 (by decide) ?_
        refine lv_iload_n hx hb dX7_sheet_78 rfl (lv_at hl 1 rfl) ?_
        refine lv_imul hx hb dX7_sheet_79 ?_
        refine lv_iload hx hb dX7_sheet_80 (lv_at hl 3 rfl) ?_
        refine lv_iadd hx hb dX7_sheet_82 ?_
        refine lv_lconst (v := 0) hx hb dX7_sheet_83 (by decide) ?_
        replace hf := gi_e hf
        obtain ⟨i_84, hf⟩ := hf
        refine va_last (a := (ad 3)) hx hb hK hP hD hS 3 1 rfl rfl i_84 dX7_sheet_84 (fun H locs hP hD hS => ?_)
        have hP : va_P D vwCl ((wX7_0_1_2_3 cy ad thr_65 sta_65 pri tcd frt frp lan_65 man_65 (vp_updL itm_65 (Int32.toNatClampNeg ((40 * x1) + x4_65)) 0))) H := hP
        have hD : va_D A ((wX7_0_1_2_3 cy ad thr_65 sta_65 pri tcd frt frp lan_65 man_65 (vp_updL itm_65 (Int32.toNatClampNeg ((40 * x1) + x4_65)) 0))) := hD
        obtain ⟨v_85, e_85⟩ : ∃ y : Int32, y = x4_65 + 1 := ⟨_, rfl⟩
        replace hf := bd_at e_85 hf
        refine lv_iinc (v := v_85) (lv' := [(4, .int v_85), (0, .ref (ad 0)), (1, .int x1), (3, .int x3)]) hx hb dX7_sheet_85 hl (k := 3) rfl (by rw [e_85]; rfl) (by decide) rfl (fun ls hl => ?_)
        clear e_85
        refine lv_goto (tgt := 65) hx hb dX7_sheet_88 (by decide) ?_
        exact ih65 H locs ls v_85 (vp_updL itm_65 (Int32.toNatClampNeg ((40 * x1) + x4_65)) 0) hf hP hD hS (lv_sub hl [1, 2, 3, 0] rfl)
  unfold FX7_sheet at hf
  refine lv_aload_n hx hb dX7_sheet_0 rfl (lv_at hl 0 rfl) ?_
  refine lv_iconst (v := 0) hx hb dX7_sheet_1 (by decide) ?_
  refine va_put (a := (ad 0)) (ci := 7) (v := .int 0) (ty := .int) (C := RX7) (T := TX7) (N := 28) hx hb hts hin_X7 tyX7 tyX7_ok nmX7 hown hK hP hD hS 0 rfl rfl 0 (by decide) hw_3 (fun _ h => h) rfl (by decide +kernel) rfl rfl (Nat.le_of_ble_eq_true rfl) dX7_sheet_2 (fun H locs hP hD hS => ?_)
  have hP : va_P D vwCl ((wX7_0_1_2_3 cy ad 0 sta pri tcd frt frp lan man itm)) H := hP
  have hD : va_D A ((wX7_0_1_2_3 cy ad 0 sta pri tcd frt frp lan man itm)) := hD
  refine lv_iload_n hx hb dX7_sheet_5 rfl (lv_at hl 1 rfl) ?_
  replace hf := ob_e hf
  obtain ⟨u_6, hu_6, hf⟩ := hf
  refine isR (As := [.int x1]) (rest := []) (st1 := [.int (bi u_6)]) ⟨hx, hb, hml, hown, hts⟩ hK hN (KX7_isSheet l D cy x1 H.size hu_6) (va_cwS 1 hts gX7_sheet_X7_isSheet rfl rfl rfl (by decide +kernel) ⟨Nat.le_of_ble_eq_true rfl, Nat.le_of_ble_eq_true rfl⟩) P_nil rfl hl.1 rfl (Nat.le_of_ble_eq_true rfl) rfl dX7_sheet_6 ⟨Nat.zero_le _, Nat.zero_le _⟩ ?_
  refine lv_if_eq (tgt := 30) hx hb dX7_sheet_9 (by decide) (fun c_9 => ?_) (fun c_9 => ?_)
  · replace hf := it_p c_9 hf
    refine lv_ldc (own := RX7) (v := (-1000001)) hx hb hown hw_0 dX7_sheet_30 ?_
    obtain rfl := Option.some.inj hf
    rw [← hQe]
    exact W.iret (v := (-1000001)) hx hb hr (fun t ht hW => ⟨rfl, by rw [ht]; exact hP, hS.F ht⟩) hS.2.2 dX7_sheet_32
  · replace hf := it_n c_9 hf
    refine lv_iload_n hx hb dX7_sheet_12 rfl (lv_at hl 2 rfl) ?_
    refine lv_i2l hx hb dX7_sheet_13 rfl ?_
    refine lv_lconst (v := 0) hx hb dX7_sheet_14 (by decide) ?_
    refine lv_ldc2 (own := RX7) (v := 2) hx hb hown hw_1 dX7_sheet_15 ?_
    replace hf := ob_e hf
    obtain ⟨u_18, hu_18, hf⟩ := hf
    refine isR (As := [.long (Int32.toInt64 x2), .long 0, .long 2]) (rest := []) (st1 := [.int (bi u_18)]) ⟨hx, hb, hml, hown, hts⟩ hK hN (KX7_in l D cy (Int32.toInt64 x2) 0 2 H.size hu_18) (va_cwS 3 hts gX7_sheet_X7_in rfl rfl rfl (by decide +kernel) ⟨Nat.le_of_ble_eq_true rfl, Nat.le_of_ble_eq_true rfl⟩) P_nil rfl hl.1 rfl (Nat.le_of_ble_eq_true rfl) rfl dX7_sheet_18 ⟨Nat.zero_le _, Nat.zero_le _⟩ ?_
    refine lv_if_eq (tgt := 30) hx hb dX7_sheet_21 (by decide) (fun c_21 => ?_) (fun c_21 => ?_)
    · replace hf := it_p c_21 hf
      refine lv_ldc (own := RX7) (v := (-1000001)) hx hb hown hw_0 dX7_sheet_30 ?_
      obtain rfl := Option.some.inj hf
      rw [← hQe]
      exact W.iret (v := (-1000001)) hx hb hr (fun t ht hW => ⟨rfl, by rw [ht]; exact hP, hS.F ht⟩) hS.2.2 dX7_sheet_32
    · replace hf := it_n c_21 hf
      refine lv_iload_n hx hb dX7_sheet_24 rfl (lv_at hl 3 rfl) ?_
      refine lv_bipush (v := 40) hx hb dX7_sheet_25 (by decide) ?_
      refine lv_icmp_le (tgt := 33) hx hb dX7_sheet_27 (by decide) (fun c_27 => ?_) (fun c_27 => ?_)
      · replace hf := it_p c_27 hf
        refine lv_aload_n hx hb dX7_sheet_33 rfl (lv_at hl 0 rfl) ?_
        refine lv_iconst (v := 0) hx hb dX7_sheet_34 (by decide) ?_
        refine va_put (a := (ad 0)) (ci := 7) (v := .int 0) (ty := .int) (C := RX7) (T := TX7) (N := 28) hx hb hts hin_X7 tyX7 tyX7_ok nmX7 hown hK hP hD hS 0 rfl rfl 1 (by decide) hw_4 (fun _ h => h) rfl (by decide +kernel) rfl rfl (Nat.le_of_ble_eq_true rfl) dX7_sheet_35 (fun H locs hP hD hS => ?_)
        have hP : va_P D vwCl ((wX7_0_1_2_3 cy ad 0 0 pri tcd frt frp lan man itm)) H := hP
        have hD : va_D A ((wX7_0_1_2_3 cy ad 0 0 pri tcd frt frp lan man itm)) := hD
        refine lv_iload_n hx hb dX7_sheet_38 rfl (lv_at hl 3 rfl) ?_
        refine lv_if_ge (tgt := 48) hx hb dX7_sheet_39 (by decide) (fun c_39 => ?_) (fun c_39 => ?_)
        · replace hf := it_p c_39 hf
          refine lv_aload_n hx hb dX7_sheet_48 rfl (lv_at hl 0 rfl) ?_
          refine va_get (a := (ad 0)) (ci := 7) (v := .ref (ad 1)) (C := RX7) (T := TX7) (N := 28) hx hb hts hin_X7 hown hK hP 0 rfl rfl 3 (by decide) hw_5 (fun _ h => h) rfl dX7_sheet_49 ?_
          refine lv_iload_n hx hb dX7_sheet_52 rfl (lv_at hl 1 rfl) ?_
          refine lv_iload_n hx hb dX7_sheet_53 rfl (lv_at hl 2 rfl) ?_
          replace hf := gi_e hf
          obtain ⟨i_54, hf⟩ := hf
          refine va_iast (a := (ad 1)) hx hb hK hP hD hS 1 0 rfl rfl i_54 dX7_sheet_54 (fun H locs hP hD hS => ?_)
          have hP : va_P D vwCl ((wX7_0_1_2_3 cy ad 0 0 pri tcd frt frp (upd lan (Int32.toNatClampNeg x1) x2) man itm)) H := hP
          have hD : va_D A ((wX7_0_1_2_3 cy ad 0 0 pri tcd frt frp (upd lan (Int32.toNatClampNeg x1) x2) man itm)) := hD
          refine lv_aload_n hx hb dX7_sheet_55 rfl (lv_at hl 0 rfl) ?_
          refine va_get (a := (ad 0)) (ci := 7) (v := .ref (ad 2)) (C := RX7) (T := TX7) (N := 28) hx hb hts hin_X7 hown hK hP 0 rfl rfl 4 (by decide) hw_6 (fun _ h => h) rfl dX7_sheet_56 ?_
          refine lv_iload_n hx hb dX7_sheet_59 rfl (lv_at hl 1 rfl) ?_
          refine lv_iload_n hx hb dX7_sheet_60 rfl (lv_at hl 3 rfl) ?_
          replace hf := gi_e hf
          obtain ⟨i_61, hf⟩ := hf
          refine va_iast (a := (ad 2)) hx hb hK hP hD hS 2 0 rfl rfl i_61 dX7_sheet_61 (fun H locs hP hD hS => ?_)
          have hP : va_P D vwCl ((wX7_0_1_2_3 cy ad 0 0 pri tcd frt frp (upd lan (Int32.toNatClampNeg x1) x2) (upd man (Int32.toNatClampNeg x1) x3) itm)) H := hP
          have hD : va_D A ((wX7_0_1_2_3 cy ad 0 0 pri tcd frt frp (upd lan (Int32.toNatClampNeg x1) x2) (upd man (Int32.toNatClampNeg x1) x3) itm)) := hD
          refine lv_iconst (v := 0) hx hb dX7_sheet_62 (by decide) ?_
          refine lv_istore (lv' := [(4, .int 0), (0, .ref (ad 0)), (1, .int x1), (2, .int x2), (3, .int x3)]) hx hb dX7_sheet_63 hl (by decide) rfl (fun ls hl => ?_)
          exact L65 0 0 (upd lan (Int32.toNatClampNeg x1) x2) (upd man (Int32.toNatClampNeg x1) x3) FU H locs ls 0 itm hf hP hD hS (lv_sub hl [1, 2, 4, 0] rfl)
        · replace hf := it_n c_39 hf
          refine lv_aload_n hx hb dX7_sheet_42 rfl (lv_at hl 0 rfl) ?_
          refine lv_iconst (v := 4) hx hb dX7_sheet_43 (by decide) ?_
          replace hf := ob_e hf
          obtain ⟨u_44, hu_44, hf⟩ := hf
          refine ivW (As := [.int 4]) (rest := []) (st1 := [.int u_44.1]) (is := [0]) (w1 := (wX7_0 cy ad 0 u_44.2 pri tcd frt frp)) ⟨hx, hb, hml, hown, hts⟩ hK hN (KX7_found l D cy ad 0 0 pri tcd frt frp 4 H.size hu_44) (cwV 1 hts gX7_sheet_X7_found rfl rfl rfl (by decide +kernel) ⟨Nat.le_of_ble_eq_true rfl, Nat.le_of_ble_eq_true rfl⟩) (va_recv hK hP (ci := 7) (q0 := 0) rfl rfl) hP hD hS hA P_nil (sepW_nil _) (by decide) rfl rfl rfl hl.1 rfl (Nat.le_of_ble_eq_true rfl) rfl dX7_sheet_44 ⟨Nat.zero_le _, Nat.zero_le _⟩ (fun H locs hP hD hS => ?_)
          have hP : va_P D vwCl ((wX7_0_1_2_3 cy ad 0 u_44.2 pri tcd frt frp lan man itm)) H := hP
          have hD : va_D A ((wX7_0_1_2_3 cy ad 0 u_44.2 pri tcd frt frp lan man itm)) := hD
          obtain rfl := Option.some.inj hf
          rw [← hQe]
          exact W.iret (v := u_44.1) hx hb hr (fun t ht hW => ⟨rfl, by rw [ht]; exact hP, hS.F ht⟩) hS.2.2 dX7_sheet_47
      · replace hf := it_n c_27 hf
        refine lv_ldc (own := RX7) (v := (-1000001)) hx hb hown hw_0 dX7_sheet_30 ?_
        obtain rfl := Option.some.inj hf
        rw [← hQe]
        exact W.iret (v := (-1000001)) hx hb hr (fun t ht hW => ⟨rfl, by rw [ht]; exact hP, hS.F ht⟩) hS.2.2 dX7_sheet_32
def FX7_set_J105   (x1 : Int32) (x2 : Int32) (s1_105 : Int32) (s2_105 : Int64) (thr_105 : Int32) (sta_105 : Int32) (itm_105 : Nat → Int64) : Option (Int64 × (Int32) × (Int32) × (Nat → Int64)) := (gi s1_105 320 (gi ((40 * x1) + x2) 320 (some (((vp_updL itm_105 (Int32.toNatClampNeg s1_105) s2_105) (Int32.toNatClampNeg ((40 * x1) + x2))), thr_105, sta_105, (vp_updL itm_105 (Int32.toNatClampNeg s1_105) s2_105)))))
def FX7_set  (sta : Int32) (lan : Nat → Int32) (man : Nat → Int32) (itm : Nat → Int64) (x1 : Int32) (x2 : Int32) (x3 : Int64) : Option (Int64 × (Int32) × (Int32) × (Nat → Int64)) := (ob (FX7_isSheet x1) (fun u_6 => if (bi u_6) = 0 then (some ((-1000001), 0, sta, itm)) else (gi x1 8 (if 0 ≤ (lan (Int32.toNatClampNeg x1)) then (gi x1 8 (ob (FX7_in (Int32.toInt64 x2) 0 (Int32.toInt64 ((man (Int32.toNatClampNeg x1)) - 1))) (fun u_49 => if (bi u_49) = 0 then (ob (FX7_found 2) (fun u_57 => some ((Int32.toInt64 u_57.1), 0, u_57.2, itm))) else (gi x1 8 (if (lan (Int32.toNatClampNeg x1)) = 0 then (FX7_set_J105 x1 x2 ((40 * x1) + x2) (Int32.toInt64 (Int8.toInt32 (Int32.toInt8 (Int64.toInt32 x3)))) 0 0 itm) else (gi x1 8 (if (lan (Int32.toNatClampNeg x1)) = 1 then (FX7_set_J105 x1 x2 ((40 * x1) + x2) (Int32.toInt64 (Int64.toInt32 x3)) 0 0 itm) else (FX7_set_J105 x1 x2 ((40 * x1) + x2) x3 0 0 itm)))))))) else (ob (FX7_found 1) (fun u_32 => some ((Int32.toInt64 u_32.1), 0, u_32.2, itm)))))))
abbrev RMX7_set : Room := { frames := 2, cells := 0, slots := 0, locals := 45 }
set_option maxHeartbeats 4000000 in
set_option maxRecDepth 100000 in
theorem KX7_set (l : Launch) (D : va_G) (cy : Nat → ClassId) (ad : Nat → Nat) (thr : Int32) (sta : Int32) (pri : Int32) (tcd : Int32) (frt : Int32) (frp : Int32) (lan : Nat → Int32) (man : Nat → Int32) (itm : Nat → Int64) (x1 : Int32) (x2 : Int32) (x3 : Int64) (sz : Nat) {out : Int64 × (Int32) × (Int32) × (Nat → Int64)} (hf : FX7_set sta lan man itm x1 x2 x3 = some out) : Met l yX7_set wsX7_set RMX7_set (PW D cy [.ref (ad 0), .int x1, .int x2, .long x3] sz ((wX7_0_1_2_3 cy ad thr sta pri tcd frt frp lan man itm)) []) (QW D (some (.long out.1)) ((wX7_0_1_2_3 cy ad out.2.1 out.2.2.1 pri tcd frt frp lan man out.2.2.2)) (va_A ((wX7_0_1_2_3 cy ad thr sta pri tcd frt frp lan man itm)) sz)) 0 0 (va_A ((wX7_0_1_2_3 cy ad thr sta pri tcd frt frp lan man itm)) sz) := by
  refine Met.ofW (cc := cX7_set) (maxL := 5) (ret := (some .long)) (by decide +kernel) rfl ?_
  intro p e s m args below meth c s₁ B hml hv
  obtain ⟨hav, hsz, hP, hR0, hK, hN, hD0, hsep⟩ := hv
  have hx := B.exec
  have hb := B.bytes
  have hr := B.returns
  have hts := atoms_spec (ws := wsX7_set) B.pre
  have hown : s.vm.findClass RX7 = some m.cls := findClass_of_methodNamed B.named
  have hlocks := B.notSynchronized
  subst hsz
  have hin_X7 : ∀ w ∈ u_ws RX7 TX7 28, w ∈ wsX7_set := by decide +kernel
  have hw_0 := hts (.constantLong RX7 113 (-1000001)) (by decide +kernel)
  have hw_1 := hts (.fieldLink RX7 24 "ReturnPointsModel" "item" "[J") (by decide +kernel)
  have hw_2 := hts (.fieldLink RX7 1 "ReturnPointsModel" "thrown" "I") (by decide +kernel)
  have hw_3 := hts (.fieldLink RX7 7 "ReturnPointsModel" "status" "I") (by decide +kernel)
  have hw_4 := hts (.fieldLink RX7 17 "ReturnPointsModel" "lane" "[I") (by decide +kernel)
  have hw_5 := hts (.fieldLink RX7 21 "ReturnPointsModel" "many" "[I") (by decide +kernel)
  have hD := hD0.self (sz := s.heap.size)
  have hnA := roA hsep hR0
  generalize hAe : va_A ((wX7_0_1_2_3 cy ad thr sta pri tcd frt frp lan man itm)) s.heap.size = A at hD hnA ⊢
  have hA : ∀ q : Nat, s.heap.size ≤ q → A q := fun q h => by rw [← hAe]; exact Or.inr h
  have hS : va_S A s.heap s.heap [] := va_S.rf
  obtain ⟨ls, hfr, hl⟩ := ent_ok (m := m) (n := 5) (l' := [(0, .ref (ad 0)), (1, .int x1), (2, .int x2), (3, .long x3)]) [.ref (ad 0), .int x1, .int x2, .long x3] hav (Nat.le_of_ble_eq_true rfl) rfl
  rw [hfr]
  generalize hQe : MQ below (QW D (some (.long out.1)) ((wX7_0_1_2_3 cy ad out.2.1 out.2.2.1 pri tcd frt frp lan man out.2.2.2)) A) args s 0 0 A = QQ
  change W p l e RMX7_set s m args below meth c s.heap [] 0 0 QQ (F0 m 0 ls [])
  have hP : va_P D vwCl ((wX7_0_1_2_3 cy ad thr sta pri tcd frt frp lan man itm)) s.heap := hP
  have hD : va_D A ((wX7_0_1_2_3 cy ad thr sta pri tcd frt frp lan man itm)) := hD
  suffices h00 : ∀ (H : Heap) (locs : List Loc), va_P D vwCl ((wX7_0_1_2_3 cy ad thr sta pri tcd frt frp lan man itm)) H → va_S A s.heap H locs → W p l e RMX7_set s m args below meth c H locs 0 0 QQ (F0 m 0 ls []) from h00 _ _ hP hS
  clear hP hS
  intro H locs hP hS
  have J105 : ∀ (H : Heap) (locs : List Loc) (ls : Array Slot) (s1_105 : Int32) (s2_105 : Int64) (thr_105 : Int32) (sta_105 : Int32) (itm_105 : Nat → Int64), FX7_set_J105 x1 x2 s1_105 s2_105 thr_105 sta_105 itm_105 = some out → va_P D vwCl ((wX7_0_1_2_3 cy ad thr_105 sta_105 pri tcd frt frp lan man itm_105)) H → va_D A ((wX7_0_1_2_3 cy ad thr_105 sta_105 pri tcd frt frp lan man itm_105)) → va_S A s.heap H locs → lv_has ls 5 [(0, .ref (ad 0)), (1, .int x1), (2, .int x2)] → W p l e RMX7_set s m args below meth c H locs 0 0 QQ (F0 m 105 ls [.long s2_105, .int s1_105, .ref (ad 3)]) := by
    intro H locs ls s1_105 s2_105 thr_105 sta_105 itm_105 hf hP hD hS hl
    unfold FX7_set_J105 at hf
    replace hf := gi_e hf
    obtain ⟨i_105, hf⟩ := hf
    refine va_last (a := (ad 3)) hx hb hK hP hD hS 3 1 rfl rfl i_105 dX7_set_105 (fun H locs hP hD hS => ?_)
    have hP : va_P D vwCl ((wX7_0_1_2_3 cy ad thr_105 sta_105 pri tcd frt frp lan man (vp_updL itm_105 (Int32.toNatClampNeg s1_105) s2_105))) H := hP
    have hD : va_D A ((wX7_0_1_2_3 cy ad thr_105 sta_105 pri tcd frt frp lan man (vp_updL itm_105 (Int32.toNatClampNeg s1_105) s2_105))) := hD
    refine lv_aload_n hx hb dX7_set_106 rfl (lv_at hl 0 rfl) ?_
    refine va_get (a := (ad 0)) (ci := 7) (v := .ref (ad 3)) (C := RX7) (T := TX7) (N := 28) hx hb hts hin_X7 hown hK hP 0 rfl rfl 5 (by decide) hw_1 (fun _ h => h) rfl dX7_set_107 ?_
    refine lv_bipush (v := 40) hx hb dX7_set_110 (by decide) ?_
    refine lv_iload_n hx hb dX7_set_112 rfl (lv_at hl 1 rfl) ?_
    refine lv_imul hx hb dX7_set_113 ?_
    refine lv_iload_n hx hb dX7_set_114 rfl (lv_at hl 2 rfl) ?_
    refine lv_iadd hx hb dX7_set_115 ?_
    replace hf := gi_e hf
    obtain ⟨i_116, hf⟩ := hf
    refine va_lald (a := (ad 3)) hx hb hK hP 3 1 rfl rfl i_116 dX7_set_116 ?_
    obtain rfl := Option.some.inj hf
    rw [← hQe]
    exact W.lret (v := ((vp_updL itm_105 (Int32.toNatClampNeg s1_105) s2_105) (Int32.toNatClampNeg ((40 * x1) + x2)))) hx hb hr (fun t ht hW => ⟨rfl, by rw [ht]; exact hP, hS.F ht⟩) hS.2.2 dX7_set_117
  unfold FX7_set at hf
  refine lv_aload_n hx hb dX7_set_0 rfl (lv_at hl 0 rfl) ?_
  refine lv_iconst (v := 0) hx hb dX7_set_1 (by decide) ?_
  refine va_put (a := (ad 0)) (ci := 7) (v := .int 0) (ty := .int) (C := RX7) (T := TX7) (N := 28) hx hb hts hin_X7 tyX7 tyX7_ok nmX7 hown hK hP hD hS 0 rfl rfl 0 (by decide) hw_2 (fun _ h => h) rfl (by decide +kernel) rfl rfl (Nat.le_of_ble_eq_true rfl) dX7_set_2 (fun H locs hP hD hS => ?_)
  have hP : va_P D vwCl ((wX7_0_1_2_3 cy ad 0 sta pri tcd frt frp lan man itm)) H := hP
  have hD : va_D A ((wX7_0_1_2_3 cy ad 0 sta pri tcd frt frp lan man itm)) := hD
  refine lv_iload_n hx hb dX7_set_5 rfl (lv_at hl 1 rfl) ?_
  replace hf := ob_e hf
  obtain ⟨u_6, hu_6, hf⟩ := hf
  refine isR (As := [.int x1]) (rest := []) (st1 := [.int (bi u_6)]) ⟨hx, hb, hml, hown, hts⟩ hK hN (KX7_isSheet l D cy x1 H.size hu_6) (va_cwS 1 hts gX7_set_X7_isSheet rfl rfl rfl (by decide +kernel) ⟨Nat.le_of_ble_eq_true rfl, Nat.le_of_ble_eq_true rfl⟩) P_nil rfl hl.1 rfl (Nat.le_of_ble_eq_true rfl) rfl dX7_set_6 ⟨Nat.zero_le _, Nat.zero_le _⟩ ?_
  refine lv_if_ne (tgt := 16) hx hb dX7_set_9 (by decide) (fun c_9 => ?_) (fun c_9 => ?_)
  · replace hf := it_n c_9 hf
    refine lv_aload_n hx hb dX7_set_16 rfl (lv_at hl 0 rfl) ?_
    refine lv_iconst (v := 0) hx hb dX7_set_17 (by decide) ?_
    refine va_put (a := (ad 0)) (ci := 7) (v := .int 0) (ty := .int) (C := RX7) (T := TX7) (N := 28) hx hb hts hin_X7 tyX7 tyX7_ok nmX7 hown hK hP hD hS 0 rfl rfl 1 (by decide) hw_3 (fun _ h => h) rfl (by decide +kernel) rfl rfl (Nat.le_of_ble_eq_true rfl) dX7_set_18 (fun H locs hP hD hS => ?_)
    have hP : va_P D vwCl ((wX7_0_1_2_3 cy ad 0 0 pri tcd frt frp lan man itm)) H := hP
    have hD : va_D A ((wX7_0_1_2_3 cy ad 0 0 pri tcd frt frp lan man itm)) := hD
    refine lv_aload_n hx hb dX7_set_21 rfl (lv_at hl 0 rfl) ?_
    refine va_get (a := (ad 0)) (ci := 7) (v := .ref (ad 1)) (C := RX7) (T := TX7) (N := 28) hx hb hts hin_X7 hown hK hP 0 rfl rfl 3 (by decide) hw_4 (fun _ h => h) rfl dX7_set_22 ?_
    refine lv_iload_n hx hb dX7_set_25 rfl (lv_at hl 1 rfl) ?_
    replace hf := gi_e hf
    obtain ⟨i_26, hf⟩ := hf
    refine va_iald (a := (ad 1)) hx hb hK hP 1 0 rfl rfl i_26 dX7_set_26 ?_
    refine lv_if_ge (tgt := 37) hx hb dX7_set_27 (by decide) (fun c_27 => ?_) (fun c_27 => ?_)
    · replace hf := it_p c_27 hf
      refine lv_iload_n hx hb dX7_set_37 rfl (lv_at hl 2 rfl) ?_
      refine lv_i2l hx hb dX7_set_38 rfl ?_
      refine lv_lconst (v := 0) hx hb dX7_set_39 (by decide) ?_
      refine lv_aload_n hx hb dX7_set_40 rfl (lv_at hl 0 rfl) ?_
      refine va_get (a := (ad 0)) (ci := 7) (v := .ref (ad 2)) (C := RX7) (T := TX7) (N := 28) hx hb hts hin_X7 hown hK hP 0 rfl rfl 4 (by decide) hw_5 (fun _ h => h) rfl dX7_set_41 ?_
      refine lv_iload_n hx hb dX7_set_44 rfl (lv_at hl 1 rfl) ?_
      replace hf := gi_e hf
      obtain ⟨i_45, hf⟩ := hf
      refine va_iald (a := (ad 2)) hx hb hK hP 2 0 rfl rfl i_45 dX7_set_45 ?_
      refine lv_iconst (v := 1) hx hb dX7_set_46 (by decide) ?_
      refine lv_isub hx hb dX7_set_47 ?_
      refine lv_i2l hx hb dX7_set_48 rfl ?_
      replace hf := ob_e hf
      obtain ⟨u_49, hu_49, hf⟩ := hf
      refine isR (As := [.long (Int32.toInt64 x2), .long 0, .long (Int32.toInt64 ((man (Int32.toNatClampNeg x1)) - 1))]) (rest := []) (st1 := [.int (bi u_49)]) ⟨hx, hb, hml, hown, hts⟩ hK hN (KX7_in l D cy (Int32.toInt64 x2) 0 (Int32.toInt64 ((man (Int32.toNatClampNeg x1)) - 1)) H.size hu_49) (va_cwS 3 hts gX7_set_X7_in rfl rfl rfl (by decide +kernel) ⟨Nat.le_of_ble_eq_true rfl, Nat.le_of_ble_eq_true rfl⟩) P_nil rfl hl.1 rfl (Nat.le_of_ble_eq_true rfl) rfl dX7_set_49 ⟨Nat.zero_le _, Nat.zero_le _⟩ ?_
      refine lv_if_ne (tgt := 62) hx hb dX7_set_52 (by decide) (fun c_52 => ?_) (fun c_52 => ?_)
      · replace hf := it_n c_52 hf
        refine lv_aload_n hx hb dX7_set_62 rfl (lv_at hl 0 rfl) ?_
        refine va_get (a := (ad 0)) (ci := 7) (v := .ref (ad 3)) (C := RX7) (T := TX7) (N := 28) hx hb hts hin_X7 hown hK hP 0 rfl rfl 5 (by decide) hw_1 (fun _ h => h) rfl dX7_set_63 ?_
        refine lv_bipush (v := 40) hx hb dX7_set_66 (by decide) ?_
        refine lv_iload_n hx hb dX7_set_68 rfl (lv_at hl 1 rfl) ?_
        refine lv_imul hx hb dX7_set_69 ?_
        refine lv_iload_n hx hb dX7_set_70 rfl (lv_at hl 2 rfl) ?_
        refine lv_iadd hx hb dX7_set_71 ?_
        refine lv_aload_n hx hb dX7_set_72 rfl (lv_at hl 0 rfl) ?_
        refine va_get (a := (ad 0)) (ci := 7) (v := .ref (ad 1)) (C := RX7) (T := TX7) (N := 28) hx hb hts hin_X7 hown hK hP 0 rfl rfl 3 (by decide) hw_4 (fun _ h => h) rfl dX7_set_73 ?_
        refine lv_iload_n hx hb dX7_set_76 rfl (lv_at hl 1 rfl) ?_
        replace hf := gi_e hf
        obtain ⟨i_77, hf⟩ := hf
        refine va_iald (a := (ad 1)) hx hb hK hP 1 0 rfl rfl i_77 dX7_set_77 ?_
        refine lv_if_ne (tgt := 88) hx hb dX7_set_78 (by decide) (fun c_78 => ?_) (fun c_78 => ?_)
        · replace hf := it_n c_78 hf
          refine lv_aload_n hx hb dX7_set_88 rfl (lv_at hl 0 rfl) ?_
          refine va_get (a := (ad 0)) (ci := 7) (v := .ref (ad 1)) (C := RX7) (T := TX7) (N := 28) hx hb hts hin_X7 hown hK hP 0 rfl rfl 3 (by decide) hw_4 (fun _ h => h) rfl dX7_set_89 ?_
          refine lv_iload_n hx hb dX7_set_92 rfl (lv_at hl 1 rfl) ?_
          replace hf := gi_e hf
          obtain ⟨i_93, hf⟩ := hf
          refine va_iald (a := (ad 1)) hx hb hK hP 1 0 rfl rfl i_93 dX7_set_93 ?_
          refine lv_iconst (v := 1) hx hb dX7_set_94 (by decide) ?_
          refine lv_icmp_ne (tgt := 104) hx hb dX7_set_95 (by decide) (fun c_95 => ?_) (fun c_95 => ?_)
          · replace hf := it_n c_95 hf
            refine lv_lload_n hx hb dX7_set_104 rfl (lv_at hl 3 rfl) ?_
            exact J105 H locs ls ((40 * x1) + x2) x3 0 0 itm hf hP hD hS (lv_sub hl [0, 1, 2] rfl)
          · replace hf := it_p c_95 hf
            refine lv_lload_n hx hb dX7_set_98 rfl (lv_at hl 3 rfl) ?_
            refine lv_l2i hx hb dX7_set_99 rfl ?_
            refine lv_i2l hx hb dX7_set_100 rfl ?_
            refine lv_goto (tgt := 105) hx hb dX7_set_101 (by decide) ?_
            exact J105 H locs ls ((40 * x1) + x2) (Int32.toInt64 (Int64.toInt32 x3)) 0 0 itm hf hP hD hS (lv_sub hl [0, 1, 2] rfl)
        · replace hf := it_p c_78 hf
          refine lv_lload_n hx hb dX7_set_81 rfl (lv_at hl 3 rfl) ?_
          refine lv_l2i hx hb dX7_set_82 rfl ?_
          refine lv_i2b hx hb dX7_set_83 rfl ?_
          refine lv_i2l hx hb dX7_set_84 rfl ?_
          refine lv_goto (tgt := 105) hx hb dX7_set_85 (by decide) ?_
          exact J105 H locs ls ((40 * x1) + x2) (Int32.toInt64 (Int8.toInt32 (Int32.toInt8 (Int64.toInt32 x3)))) 0 0 itm hf hP hD hS (lv_sub hl [0, 1, 2] rfl)
      · replace hf := it_p c_52 hf
        refine lv_aload_n hx hb dX7_set_55 rfl (lv_at hl 0 rfl) ?_
        refine lv_iconst (v := 2) hx hb dX7_set_56 (by decide) ?_
        replace hf := ob_e hf
        obtain ⟨u_57, hu_57, hf⟩ := hf
        refine ivW (As := [.int 2]) (rest := []) (st1 := [.int u_57.1]) (is := [0]) (w1 := (wX7_0 cy ad 0 u_57.2 pri tcd frt frp)) ⟨hx, hb, hml, hown, hts⟩ hK hN (KX7_found l D cy ad 0 0 pri tcd frt frp 2 H.size hu_57) (cwV 1 hts gX7_set_X7_found rfl rfl rfl (by decide +kernel) ⟨Nat.le_of_ble_eq_true rfl, Nat.le_of_ble_eq_true rfl⟩) (va_recv hK hP (ci := 7) (q0 := 0) rfl rfl) hP hD hS hA P_nil (sepW_nil _) (by decide) rfl rfl rfl hl.1 rfl (Nat.le_of_ble_eq_true rfl) rfl dX7_set_57 ⟨Nat.zero_le _, Nat.zero_le _⟩ (fun H locs hP hD hS => ?_)
        have hP : va_P D vwCl ((wX7_0_1_2_3 cy ad 0 u_57.2 pri tcd frt frp lan man itm)) H := hP
        have hD : va_D A ((wX7_0_1_2_3 cy ad 0 u_57.2 pri tcd frt frp lan man itm)) := hD
        refine lv_i2l hx hb dX7_set_60 rfl ?_
        obtain rfl := Option.some.inj hf
        rw [← hQe]
        exact W.lret (v := (Int32.toInt64 u_57.1)) hx hb hr (fun t ht hW => ⟨rfl, by rw [ht]; exact hP, hS.F ht⟩) hS.2.2 dX7_set_61
    · replace hf := it_n c_27 hf
      refine lv_aload_n hx hb dX7_set_30 rfl (lv_at hl 0 rfl) ?_
      refine lv_iconst (v := 1) hx hb dX7_set_31 (by decide) ?_
      replace hf := ob_e hf
      obtain ⟨u_32, hu_32, hf⟩ := hf
      refine ivW (As := [.int 1]) (rest := []) (st1 := [.int u_32.1]) (is := [0]) (w1 := (wX7_0 cy ad 0 u_32.2 pri tcd frt frp)) ⟨hx, hb, hml, hown, hts⟩ hK hN (KX7_found l D cy ad 0 0 pri tcd frt frp 1 H.size hu_32) (cwV 1 hts gX7_set_X7_found rfl rfl rfl (by decide +kernel) ⟨Nat.le_of_ble_eq_true rfl, Nat.le_of_ble_eq_true rfl⟩) (va_recv hK hP (ci := 7) (q0 := 0) rfl rfl) hP hD hS hA P_nil (sepW_nil _) (by decide) rfl rfl rfl hl.1 rfl (Nat.le_of_ble_eq_true rfl) rfl dX7_set_32 ⟨Nat.zero_le _, Nat.zero_le _⟩ (fun H locs hP hD hS => ?_)
      have hP : va_P D vwCl ((wX7_0_1_2_3 cy ad 0 u_32.2 pri tcd frt frp lan man itm)) H := hP
      have hD : va_D A ((wX7_0_1_2_3 cy ad 0 u_32.2 pri tcd frt frp lan man itm)) := hD
      refine lv_i2l hx hb dX7_set_35 rfl ?_
      obtain rfl := Option.some.inj hf
      rw [← hQe]
      exact W.lret (v := (Int32.toInt64 u_32.1)) hx hb hr (fun t ht hW => ⟨rfl, by rw [ht]; exact hP, hS.F ht⟩) hS.2.2 dX7_set_36
  · replace hf := it_p c_9 hf
    refine lv_ldc2 (own := RX7) (v := (-1000001)) hx hb hown hw_0 dX7_set_12 ?_
    obtain rfl := Option.some.inj hf
    rw [← hQe]
    exact W.lret (v := (-1000001)) hx hb hr (fun t ht hW => ⟨rfl, by rw [ht]; exact hP, hS.F ht⟩) hS.2.2 dX7_set_15
def FX7_copy_J45   (thr_45 : Int32) (itm_45 : Nat → Int64) : Option (Int32 × (Int32) × (Int32) × (Nat → Int64)) := (ob (FX7_found 1) (fun u_47 => some (u_47.1, thr_45, u_47.2, itm_45)))
def FX7_copy_J121   (thr_121 : Int32) (itm_121 : Nat → Int64) : Option (Int32 × (Int32) × (Int32) × (Nat → Int64)) := (ob (FX7_found 2) (fun u_123 => some (u_123.1, thr_121, u_123.2, itm_121)))
def FX7_copy_J167  (k143 : Int32 → (Nat → Int64) → Option (Int32 × (Int32) × (Int32) × (Nat → Int64))) (x1 : Int32) (x2 : Int32) (x3 : Int32) (x4 : Int32) (x5 : Int32) (b6_143 : Bool) (x7_167 : Int32) (s0_167 : Int32) (thr_143 : Int32) (sta_143 : Int32) (itm_167 : Nat → Int64) : Option (Int32 × (Int32) × (Int32) × (Nat → Int64)) := (gi (((40 * x1) + x2) + s0_167) 320 (gi (((40 * x3) + x4) + s0_167) 320 (bd (x7_167 + 1) (fun v_198 => k143 v_198 (vp_updL itm_167 (Int32.toNatClampNeg (((40 * x3) + x4) + s0_167)) (itm_167 (Int32.toNatClampNeg (((40 * x1) + x2) + s0_167))))))))
def FX7_copy_L143   (x1 : Int32) (x2 : Int32) (x3 : Int32) (x4 : Int32) (x5 : Int32) (b6_143 : Bool) (thr_143 : Int32) (sta_143 : Int32) : Nat → Int32 → (Nat → Int64) → Option (Int32 × (Int32) × (Int32) × (Nat → Int64))
  | 0, _, _ => none
  | fuel + 1, x7_143, itm_143 => (if x5 ≤ x7_143 then (some (x5, thr_143, sta_143, itm_143)) else (if (bi b6_143) = 0 then (FX7_copy_J167 (FX7_copy_L143 x1 x2 x3 x4 x5 b6_143 thr_143 sta_143 fuel) x1 x2 x3 x4 x5 b6_143 x7_143 ((x5 - 1) - x7_143) thr_143 sta_143 itm_143) else (FX7_copy_J167 (FX7_copy_L143 x1 x2 x3 x4 x5 b6_143 thr_143 sta_143 fuel) x1 x2 x3 x4 x5 b6_143 x7_143 x7_143 thr_143 sta_143 itm_143)))
def FX7_copy_J138   (x1 : Int32) (x2 : Int32) (x3 : Int32) (x4 : Int32) (x5 : Int32) (s0_138 : Bool) (thr_138 : Int32) (sta_138 : Int32) (itm_138 : Nat → Int64) : Option (Int32 × (Int32) × (Int32) × (Nat → Int64)) := (FX7_copy_L143 x1 x2 x3 x4 x5 s0_138 thr_138 sta_138 FU 0 itm_138)
def FX7_copy  (sta : Int32) (lan : Nat → Int32) (man : Nat → Int32) (itm : Nat → Int64) (x1 : Int32) (x2 : Int32) (x3 : Int32) (x4 : Int32) (x5 : Int32) : Option (Int32 × (Int32) × (Int32) × (Nat → Int64)) := (ob (FX7_isSheet x1) (fun u_6 => if (bi u_6) = 0 then (some ((-1000001), 0, sta, itm)) else (ob (FX7_isSheet x3) (fun u_13 => if (bi u_13) = 0 then (some ((-1000001), 0, sta, itm)) else (gi x1 8 (if (lan (Int32.toNatClampNeg x1)) < 0 then FX7_copy_J45 0 itm else (gi x3 8 (if 0 ≤ (lan (Int32.toNatClampNeg x3)) then (gi x1 8 (gi x3 8 (if (lan (Int32.toNatClampNeg x1)) = (lan (Int32.toNatClampNeg x3)) then (if x2 < 0 then FX7_copy_J121 0 itm else (if x4 < 0 then FX7_copy_J121 0 itm else (if x5 < 0 then FX7_copy_J121 0 itm else (gi x1 8 (if 0 < (lg_cmp ((Int32.toInt64 x2) + (Int32.toInt64 x5)) (Int32.toInt64 (man (Int32.toNatClampNeg x1)))) then FX7_copy_J121 0 itm else (gi x3 8 (if (lg_cmp ((Int32.toInt64 x4) + (Int32.toInt64 x5)) (Int32.toInt64 (man (Int32.toNatClampNeg x3)))) ≤ 0 then (if x2 < x4 then (FX7_copy_J138 x1 x2 x3 x4 x5 false 0 0 itm) else (FX7_copy_J138 x1 x2 x3 x4 x5 true 0 0 itm)) else FX7_copy_J121 0 itm))))))) else (ob (FX7_found 5) (fun u_68 => some (u_68.1, 0, u_68.2, itm)))))) else FX7_copy_J45 0 itm))))))))
abbrev RMX7_copy : Room := { frames := 2, cells := 0, slots := 0, locals := 45 }
set_option maxHeartbeats 4000000 in
set_option maxRecDepth 100000 in
theorem KX7_copy (l : Launch) (D : va_G) (cy : Nat → ClassId) (ad : Nat → Nat) (thr : Int32) (sta : Int32) (pri : Int32) (tcd : Int32) (frt : Int32) (frp : Int32) (lan : Nat → Int32) (man : Nat → Int32) (itm : Nat → Int64) (x1 : Int32) (x2 : Int32) (x3 : Int32) (x4 : Int32) (x5 : Int32) (sz : Nat) {out : Int32 × (Int32) × (Int32) × (Nat → Int64)} (hf : FX7_copy sta lan man itm x1 x2 x3 x4 x5 = some out) : Met l yX7_copy wsX7_copy RMX7_copy (PW D cy [.ref (ad 0), .int x1, .int x2, .int x3, .int x4, .int x5] sz ((wX7_0_1_2_3 cy ad thr sta pri tcd frt frp lan man itm)) []) (QW D (some (.int out.1)) ((wX7_0_1_2_3 cy ad out.2.1 out.2.2.1 pri tcd frt frp lan man out.2.2.2)) (va_A ((wX7_0_1_2_3 cy ad thr sta pri tcd frt frp lan man itm)) sz)) 0 0 (va_A ((wX7_0_1_2_3 cy ad thr sta pri tcd frt frp lan man itm)) sz) := by
  refine Met.ofW (cc := cX7_copy) (maxL := 9) (ret := (some .int)) (by decide +kernel) rfl ?_
  intro p e s m args below meth c s₁ B hml hv
  obtain ⟨hav, hsz, hP, hR0, hK, hN, hD0, hsep⟩ := hv
  have hx := B.exec
  have hb := B.bytes
  have hr := B.returns
  have hts := atoms_spec (ws := wsX7_copy) B.pre
  have hown : s.vm.findClass RX7 = some m.cls := findClass_of_methodNamed B.named
  have hlocks := B.notSynchronized
  subst hsz
  have hin_X7 : ∀ w ∈ u_ws RX7 TX7 28, w ∈ wsX7_copy := by decide +kernel
  have hw_0 := hts (.constant RX7 108 (-1000001)) (by decide +kernel)
  have hw_1 := hts (.fieldLink RX7 24 "ReturnPointsModel" "item" "[J") (by decide +kernel)
  have hw_2 := hts (.fieldLink RX7 1 "ReturnPointsModel" "thrown" "I") (by decide +kernel)
  have hw_3 := hts (.fieldLink RX7 7 "ReturnPointsModel" "status" "I") (by decide +kernel)
  have hw_4 := hts (.fieldLink RX7 17 "ReturnPointsModel" "lane" "[I") (by decide +kernel)
  have hw_5 := hts (.fieldLink RX7 21 "ReturnPointsModel" "many" "[I") (by decide +kernel)
  have hD := hD0.self (sz := s.heap.size)
  have hnA := roA hsep hR0
  generalize hAe : va_A ((wX7_0_1_2_3 cy ad thr sta pri tcd frt frp lan man itm)) s.heap.size = A at hD hnA ⊢
  have hA : ∀ q : Nat, s.heap.size ≤ q → A q := fun q h => by rw [← hAe]; exact Or.inr h
  have hS : va_S A s.heap s.heap [] := va_S.rf
  obtain ⟨ls, hfr, hl⟩ := ent_ok (m := m) (n := 9) (l' := [(0, .ref (ad 0)), (1, .int x1), (2, .int x2), (3, .int x3), (4, .int x4), (5, .int x5)]) [.ref (ad 0), .int x1, .int x2, .int x3, .int x4, .int x5] hav (Nat.le_of_ble_eq_true rfl) rfl
  rw [hfr]
  generalize hQe : MQ below (QW D (some (.int out.1)) ((wX7_0_1_2_3 cy ad out.2.1 out.2.2.1 pri tcd frt frp lan man out.2.2.2)) A) args s 0 0 A = QQ
  change W p l e RMX7_copy s m args below meth c s.heap [] 0 0 QQ (F0 m 0 ls [])
  have hP : va_P D vwCl ((wX7_0_1_2_3 cy ad thr sta pri tcd frt frp lan man itm)) s.heap := hP
  have hD : va_D A ((wX7_0_1_2_3 cy ad thr sta pri tcd frt frp lan man itm)) := hD
  suffices h00 : ∀ (H : Heap) (locs : List Loc), va_P D vwCl ((wX7_0_1_2_3 cy ad thr sta pri tcd frt frp lan man itm)) H → va_S A s.heap H locs → W p l e RMX7_copy s m args below meth c H locs 0 0 QQ (F0 m 0 ls []) from h00 _ _ hP hS
  clear hP hS
  intro H locs hP hS
  have J45 : ∀ (H : Heap) (locs : List Loc) (ls : Array Slot) (thr_45 : Int32) (sta_45 : Int32) (itm_45 : Nat → Int64), FX7_copy_J45 thr_45 itm_45 = some out → va_P D vwCl ((wX7_0_1_2_3 cy ad thr_45 sta_45 pri tcd frt frp lan man itm_45)) H → va_D A ((wX7_0_1_2_3 cy ad thr_45 sta_45 pri tcd frt frp lan man itm_45)) → va_S A s.heap H locs → lv_has ls 9 [(0, .ref (ad 0))] → W p l e RMX7_copy s m args below meth c H locs 0 0 QQ (F0 m 45 ls []) := by
    intro H locs ls thr_45 sta_45 itm_45 hf hP hD hS hl
    unfold FX7_copy_J45 at hf
    refine lv_aload_n hx hb dX7_copy_45 rfl (lv_at hl 0 rfl) ?_
    refine lv_iconst (v := 1) hx hb dX7_copy_46 (by decide) ?_
    replace hf := ob_e hf
    obtain ⟨u_47, hu_47, hf⟩ := hf
    refine ivW (As := [.int 1]) (rest := []) (st1 := [.int u_47.1]) (is := [0]) (w1 := (wX7_0 cy ad thr_45 u_47.2 pri tcd frt frp)) ⟨hx, hb, hml, hown, hts⟩ hK hN (KX7_found l D cy ad thr_45 sta_45 pri tcd frt frp 1 H.size hu_47) (cwV 1 hts gX7_copy_X7_found rfl rfl rfl (by decide +kernel) ⟨Nat.le_of_ble_eq_true rfl, Nat.le_of_ble_eq_true rfl⟩) (va_recv hK hP (ci := 7) (q0 := 0) rfl rfl) hP hD hS hA P_nil (sepW_nil _) (by decide) rfl rfl rfl hl.1 rfl (Nat.le_of_ble_eq_true rfl) rfl dX7_copy_47 ⟨Nat.zero_le _, Nat.zero_le _⟩ (fun H locs hP hD hS => ?_)
    have hP : va_P D vwCl ((wX7_0_1_2_3 cy ad thr_45 u_47.2 pri tcd frt frp lan man itm_45)) H := hP
    have hD : va_D A ((wX7_0_1_2_3 cy ad thr_45 u_47.2 pri tcd frt frp lan man itm_45)) := hD
    obtain rfl := Option.some.inj hf
    rw [← hQe]
    exact W.iret (v := u_47.1) hx hb hr (fun t ht hW => ⟨rfl, by rw [ht]; exact hP, hS.F ht⟩) hS.2.2 dX7_copy_50
  have J121 : ∀ (H : Heap) (locs : List Loc) (ls : Array Slot) (thr_121 : Int32) (sta_121 : Int32) (itm_121 : Nat → Int64), FX7_copy_J121 thr_121 itm_121 = some out → va_P D vwCl ((wX7_0_1_2_3 cy ad thr_121 sta_121 pri tcd frt frp lan man itm_121)) H → va_D A ((wX7_0_1_2_3 cy ad thr_121 sta_121 pri tcd frt frp lan man itm_121)) → va_S A s.heap H locs → lv_has ls 9 [(0, .ref (ad 0))] → W p l e RMX7_copy s m args below meth c H locs 0 0 QQ (F0 m 121 ls []) := by
    intro H locs ls thr_121 sta_121 itm_121 hf hP hD hS hl
    unfold FX7_copy_J121 at hf
    refine lv_aload_n hx hb dX7_copy_121 rfl (lv_at hl 0 rfl) ?_
    refine lv_iconst (v := 2) hx hb dX7_copy_122 (by decide) ?_
    replace hf := ob_e hf
    obtain ⟨u_123, hu_123, hf⟩ := hf
    refine ivW (As := [.int 2]) (rest := []) (st1 := [.int u_123.1]) (is := [0]) (w1 := (wX7_0 cy ad thr_121 u_123.2 pri tcd frt frp)) ⟨hx, hb, hml, hown, hts⟩ hK hN (KX7_found l D cy ad thr_121 sta_121 pri tcd frt frp 2 H.size hu_123) (cwV 1 hts gX7_copy_X7_found rfl rfl rfl (by decide +kernel) ⟨Nat.le_of_ble_eq_true rfl, Nat.le_of_ble_eq_true rfl⟩) (va_recv hK hP (ci := 7) (q0 := 0) rfl rfl) hP hD hS hA P_nil (sepW_nil _) (by decide) rfl rfl rfl hl.1 rfl (Nat.le_of_ble_eq_true rfl) rfl dX7_copy_123 ⟨Nat.zero_le _, Nat.zero_le _⟩ (fun H locs hP hD hS => ?_)
    have hP : va_P D vwCl ((wX7_0_1_2_3 cy ad thr_121 u_123.2 pri tcd frt frp lan man itm_121)) H := hP
    have hD : va_D A ((wX7_0_1_2_3 cy ad thr_121 u_123.2 pri tcd frt frp lan man itm_121)) := hD
    obtain rfl := Option.some.inj hf
    rw [← hQe]
    exact W.iret (v := u_123.1) hx hb hr (fun t ht hW => ⟨rfl, by rw [ht]; exact hP, hS.F ht⟩) hS.2.2 dX7_copy_126
  have L143 : ∀ (b6_143 : Bool) (thr_143 : Int32) (sta_143 : Int32) (n143 : Nat) (H : Heap) (locs : List Loc) (ls : Array Slot) (x7_143 : Int32) (itm_143 : Nat → Int64), FX7_copy_L143 x1 x2 x3 x4 x5 b6_143 thr_143 sta_143 n143 x7_143 itm_143 = some out → va_P D vwCl ((wX7_0_1_2_3 cy ad thr_143 sta_143 pri tcd frt frp lan man itm_143)) H → va_D A ((wX7_0_1_2_3 cy ad thr_143 sta_143 pri tcd frt frp lan man itm_143)) → va_S A s.heap H locs → lv_has ls 9 [(0, .ref (ad 0)), (1, .int x1), (2, .int x2), (3, .int x3), (4, .int x4), (5, .int x5), (6, .int (bi b6_143)), (7, .int x7_143)] → W p l e RMX7_copy s m args below meth c H locs 0 0 QQ (F0 m 143 ls []) := by
    intro b6_143 thr_143 sta_143 n143
    induction n143 with
    | zero => intro H locs ls x7_143 itm_143 hf; simp [FX7_copy_L143] at hf
    | succ n143 ih143 =>
      intro H locs ls x7_143 itm_143 hf hP hD hS hl
      rw [FX7_copy_L143] at hf
      have J167 : ∀ (H : Heap) (locs : List Loc) (ls : Array Slot) (x7_167 : Int32) (s0_167 : Int32) (itm_167 : Nat → Int64), FX7_copy_J167 (FX7_copy_L143 x1 x2 x3 x4 x5 b6_143 thr_143 sta_143 n143) x1 x2 x3 x4 x5 b6_143 x7_167 s0_167 thr_143 sta_143 itm_167 = some out → va_P D vwCl ((wX7_0_1_2_3 cy ad thr_143 sta_143 pri tcd frt frp lan man itm_167)) H → va_D A ((wX7_0_1_2_3 cy ad thr_143 sta_143 pri tcd frt frp lan man itm_167)) → va_S A s.heap H locs → lv_has ls 9 [(0, .ref (ad 0)), (1, .int x1), (2, .int x2), (3, .int x3), (4, .int x4), (5, .int x5), (6, .int (bi b6_143)), (7, .int x7_167)] → W p l e RMX7_copy s m args below meth c H locs 0 0 QQ (F0 m 167 ls [.int s0_167]) := by
        intro H locs ls x7_167 s0_167 itm_167 hf hP hD hS hl
        unfold FX7_copy_J167 at hf
        refine lv_istore (lv' := [(8, .int s0_167), (0, .ref (ad 0)), (1, .int x1), (2, .int x2), (3, .int x3), (4, .int x4), (5, .int x5), (6, .int (bi b6_143)), (7, .int x7_167)]) hx hb dX7_copy_167 hl (by decide) rfl (fun ls hl => ?_)
        refine lv_aload_n hx hb dX7_copy_169 rfl (lv_at hl 1 rfl) ?_
        refine va_get (a := (ad 0)) (ci := 7) (v := .ref (ad 3)) (C := RX7) (T := TX7) (N := 28) hx hb hts hin_X7 hown hK hP 0 rfl rfl 5 (by decide) hw_1 (fun _ h => h) rfl dX7_copy_170 ?_
        refine lv_bipush (v := 40) hx hb dX7_copy_173 (by decide) ?_
        refine lv_iload_n hx hb dX7_copy_175 rfl (lv_at hl 4 rfl) ?_
        refine lv_imul hx hb dX7_copy_176 ?_
        refine lv_iload hx hb dX7_copy_177 (lv_at hl 5 rfl) ?_
        refine lv_iadd hx hb dX7_copy_179 ?_
        refine lv_iload hx hb dX7_copy_180 (lv_at hl 0 rfl) ?_
        refine lv_iadd hx hb dX7_copy_182 ?_
        refine lv_aload_n hx hb dX7_copy_183 rfl (lv_at hl 1 rfl) ?_
        refine va_get (a := (ad 0)) (ci := 7) (v := .ref (ad 3)) (C := RX7) (T := TX7) (N := 28) hx hb hts hin_X7 hown hK hP 0 rfl rfl 5 (by decide) hw_1 (fun _ h => h) rfl dX7_copy_184 ?_
        refine lv_bipush (v := 40) hx hb dX7_copy_187 (by decide) ?_
        refine lv_iload_n hx hb dX7_copy_189 rfl (lv_at hl 2 rfl) ?_
        refine lv_imul hx hb dX7_copy_190 ?_
        refine lv_iload_n hx hb dX7_copy_191 rfl (lv_at hl 3 rfl) ?_
        refine lv_iadd hx hb dX7_copy_192 ?_
        refine lv_iload hx hb dX7_copy_193 (lv_at hl 0 rfl) ?_
        refine lv_iadd hx hb dX7_copy_195 ?_
        replace hf := gi_e hf
        obtain ⟨i_196, hf⟩ := hf
        refine va_lald (a := (ad 3)) hx hb hK hP 3 1 rfl rfl i_196 dX7_copy_196 ?_
        replace hf := gi_e hf
        obtain ⟨i_197, hf⟩ := hf
        refine va_last (a := (ad 3)) hx hb hK hP hD hS 3 1 rfl rfl i_197 dX7_copy_197 (fun H locs hP hD hS => ?_)
        have hP : va_P D vwCl ((wX7_0_1_2_3 cy ad thr_143 sta_143 pri tcd frt frp lan man (vp_updL itm_167 (Int32.toNatClampNeg (((40 * x3) + x4) + s0_167)) (itm_167 (Int32.toNatClampNeg (((40 * x1) + x2) + s0_167)))))) H := hP
        have hD : va_D A ((wX7_0_1_2_3 cy ad thr_143 sta_143 pri tcd frt frp lan man (vp_updL itm_167 (Int32.toNatClampNeg (((40 * x3) + x4) + s0_167)) (itm_167 (Int32.toNatClampNeg (((40 * x1) + x2) + s0_167)))))) := hD
        obtain ⟨v_198, e_198⟩ : ∃ y : Int32, y = x7_167 + 1 := ⟨_, rfl⟩
        replace hf := bd_at e_198 hf
        refine lv_iinc (v := v_198) (lv' := [(7, .int v_198), (8, .int s0_167), (0, .ref (ad 0)), (1, .int x1), (2, .int x2), (3, .int x3), (4, .int x4), (5, .int x5), (6, .int (bi b6_143))]) hx hb dX7_copy_198 hl (k := 8) rfl (by rw [e_198]; rfl) (by decide) rfl (fun ls hl => ?_)
        clear e_198
        refine lv_goto (tgt := 143) hx hb dX7_copy_201 (by decide) ?_
        exact ih143 H locs ls v_198 (vp_updL itm_167 (Int32.toNatClampNeg (((40 * x3) + x4) + s0_167)) (itm_167 (Int32.toNatClampNeg (((40 * x1) + x2) + s0_167)))) hf hP hD hS (lv_sub hl [2, 3, 4, 5, 6, 7, 8, 0] rfl)
      refine lv_iload hx hb dX7_copy_143 (lv_at hl 7 rfl) ?_
      refine lv_iload hx hb dX7_copy_145 (lv_at hl 5 rfl) ?_
      refine lv_icmp_ge (tgt := 204) hx hb dX7_copy_147 (by decide) (fun c_147 => ?_) (fun c_147 => ?_)
      · replace hf := it_p c_147 hf
        refine lv_iload hx hb dX7_copy_204 (lv_at hl 5 rfl) ?_
        obtain rfl := Option.some.inj hf
        rw [← hQe]
        exact W.iret (v := x5) hx hb hr (fun t ht hW => ⟨rfl, by rw [ht]; exact hP, hS.F ht⟩) hS.2.2 dX7_copy_206
      · replace hf := it_n c_147 hf
        refine lv_iload hx hb dX7_copy_150 (lv_at hl 6 rfl) ?_
        refine lv_if_eq (tgt := 160) hx hb dX7_copy_152 (by decide) (fun c_152 => ?_) (fun c_152 => ?_)
        · replace hf := it_p c_152 hf
          refine lv_iload hx hb dX7_copy_160 (lv_at hl 5 rfl) ?_
          refine lv_iconst (v := 1) hx hb dX7_copy_162 (by decide) ?_
          refine lv_isub hx hb dX7_copy_163 ?_
          refine lv_iload hx hb dX7_copy_164 (lv_at hl 7 rfl) ?_
          refine lv_isub hx hb dX7_copy_166 ?_
          exact J167 H locs ls x7_143 ((x5 - 1) - x7_143) itm_143 hf hP hD hS (lv_sub hl [0, 1, 2, 3, 4, 5, 6, 7] rfl)
        · replace hf := it_n c_152 hf
          refine lv_iload hx hb dX7_copy_155 (lv_at hl 7 rfl) ?_
          refine lv_goto (tgt := 167) hx hb dX7_copy_157 (by decide) ?_
          exact J167 H locs ls x7_143 x7_143 itm_143 hf hP hD hS (lv_sub hl [0, 1, 2, 3, 4, 5, 6, 7] rfl)
  have J138 : ∀ (H : Heap) (locs : List Loc) (ls : Array Slot) (s0_138 : Bool) (thr_138 : Int32) (sta_138 : Int32) (itm_138 : Nat → Int64), FX7_copy_J138 x1 x2 x3 x4 x5 s0_138 thr_138 sta_138 itm_138 = some out → va_P D vwCl ((wX7_0_1_2_3 cy ad thr_138 sta_138 pri tcd frt frp lan man itm_138)) H → va_D A ((wX7_0_1_2_3 cy ad thr_138 sta_138 pri tcd frt frp lan man itm_138)) → va_S A s.heap H locs → lv_has ls 9 [(0, .ref (ad 0)), (1, .int x1), (2, .int x2), (3, .int x3), (4, .int x4), (5, .int x5)] → W p l e RMX7_copy s m args below meth c H locs 0 0 QQ (F0 m 138 ls [.int (bi s0_138)]) := by
    intro H locs ls s0_138 thr_138 sta_138 itm_138 hf hP hD hS hl
    unfold FX7_copy_J138 at hf
    refine lv_istore (lv' := [(6, .int (bi s0_138)), (0, .ref (ad 0)), (1, .int x1), (2, .int x2), (3, .int x3), (4, .int x4), (5, .int x5)]) hx hb dX7_copy_138 hl (by decide) rfl (fun ls hl => ?_)
    refine lv_iconst (v := 0) hx hb dX7_copy_140 (by decide) ?_
    refine lv_istore (lv' := [(7, .int 0), (6, .int (bi s0_138)), (0, .ref (ad 0)), (1, .int x1), (2, .int x2), (3, .int x3), (4, .int x4), (5, .int x5)]) hx hb dX7_copy_141 hl (by decide) rfl (fun ls hl => ?_)
    exact L143 s0_138 thr_138 sta_138 FU H locs ls 0 itm_138 hf hP hD hS (lv_sub hl [2, 3, 4, 5, 6, 7, 1, 0] rfl)
  unfold FX7_copy at hf
  refine lv_aload_n hx hb dX7_copy_0 rfl (lv_at hl 0 rfl) ?_
  refine lv_iconst (v := 0) hx hb dX7_copy_1 (by decide) ?_
  refine va_put (a := (ad 0)) (ci := 7) (v := .int 0) (ty := .int) (C := RX7) (T := TX7) (N := 28) hx hb hts hin_X7 tyX7 tyX7_ok nmX7 hown hK hP hD hS 0 rfl rfl 0 (by decide) hw_2 (fun _ h => h) rfl (by decide +kernel) rfl rfl (Nat.le_of_ble_eq_true rfl) dX7_copy_2 (fun H locs hP hD hS => ?_)
  have hP : va_P D vwCl ((wX7_0_1_2_3 cy ad 0 sta pri tcd frt frp lan man itm)) H := hP
  have hD : va_D A ((wX7_0_1_2_3 cy ad 0 sta pri tcd frt frp lan man itm)) := hD
  refine lv_iload_n hx hb dX7_copy_5 rfl (lv_at hl 1 rfl) ?_
  replace hf := ob_e hf
  obtain ⟨u_6, hu_6, hf⟩ := hf
  refine isR (As := [.int x1]) (rest := []) (st1 := [.int (bi u_6)]) ⟨hx, hb, hml, hown, hts⟩ hK hN (KX7_isSheet l D cy x1 H.size hu_6) (va_cwS 1 hts gX7_copy_X7_isSheet rfl rfl rfl (by decide +kernel) ⟨Nat.le_of_ble_eq_true rfl, Nat.le_of_ble_eq_true rfl⟩) P_nil rfl hl.1 rfl (Nat.le_of_ble_eq_true rfl) rfl dX7_copy_6 ⟨Nat.zero_le _, Nat.zero_le _⟩ ?_
  refine lv_if_eq (tgt := 19) hx hb dX7_copy_9 (by decide) (fun c_9 => ?_) (fun c_9 => ?_)
  · replace hf := it_p c_9 hf
    refine lv_ldc (own := RX7) (v := (-1000001)) hx hb hown hw_0 dX7_copy_19 ?_
    obtain rfl := Option.some.inj hf
    rw [← hQe]
    exact W.iret (v := (-1000001)) hx hb hr (fun t ht hW => ⟨rfl, by rw [ht]; exact hP, hS.F ht⟩) hS.2.2 dX7_copy_21
  · replace hf := it_n c_9 hf
    refine lv_iload_n hx hb dX7_copy_12 rfl (lv_at hl 3 rfl) ?_
    replace hf := ob_e hf
    obtain ⟨u_13, hu_13, hf⟩ := hf
    refine isR (As := [.int x3]) (rest := []) (st1 := [.int (bi u_13)]) ⟨hx, hb, hml, hown, hts⟩ hK hN (KX7_isSheet l D cy x3 H.size hu_13) (va_cwS 1 hts gX7_copy_X7_isSheet rfl rfl rfl (by decide +kernel) ⟨Nat.le_of_ble_eq_true rfl, Nat.le_of_ble_eq_true rfl⟩) P_nil rfl hl.1 rfl (Nat.le_of_ble_eq_true rfl) rfl dX7_copy_13 ⟨Nat.zero_le _, Nat.zero_le _⟩ ?_
    refine lv_if_ne (tgt := 22) hx hb dX7_copy_16 (by decide) (fun c_16 => ?_) (fun c_16 => ?_)
    · replace hf := it_n c_16 hf
      refine lv_aload_n hx hb dX7_copy_22 rfl (lv_at hl 0 rfl) ?_
      refine lv_iconst (v := 0) hx hb dX7_copy_23 (by decide) ?_
      refine va_put (a := (ad 0)) (ci := 7) (v := .int 0) (ty := .int) (C := RX7) (T := TX7) (N := 28) hx hb hts hin_X7 tyX7 tyX7_ok nmX7 hown hK hP hD hS 0 rfl rfl 1 (by decide) hw_3 (fun _ h => h) rfl (by decide +kernel) rfl rfl (Nat.le_of_ble_eq_true rfl) dX7_copy_24 (fun H locs hP hD hS => ?_)
      have hP : va_P D vwCl ((wX7_0_1_2_3 cy ad 0 0 pri tcd frt frp lan man itm)) H := hP
      have hD : va_D A ((wX7_0_1_2_3 cy ad 0 0 pri tcd frt frp lan man itm)) := hD
      refine lv_aload_n hx hb dX7_copy_27 rfl (lv_at hl 0 rfl) ?_
      refine va_get (a := (ad 0)) (ci := 7) (v := .ref (ad 1)) (C := RX7) (T := TX7) (N := 28) hx hb hts hin_X7 hown hK hP 0 rfl rfl 3 (by decide) hw_4 (fun _ h => h) rfl dX7_copy_28 ?_
      refine lv_iload_n hx hb dX7_copy_31 rfl (lv_at hl 1 rfl) ?_
      replace hf := gi_e hf
      obtain ⟨i_32, hf⟩ := hf
      refine va_iald (a := (ad 1)) hx hb hK hP 1 0 rfl rfl i_32 dX7_copy_32 ?_
      refine lv_if_lt (tgt := 45) hx hb dX7_copy_33 (by decide) (fun c_33 => ?_) (fun c_33 => ?_)
      · replace hf := it_p c_33 hf
        exact J45 H locs ls 0 0 itm hf hP hD hS (lv_sub hl [0] rfl)
      · replace hf := it_n c_33 hf
        refine lv_aload_n hx hb dX7_copy_36 rfl (lv_at hl 0 rfl) ?_
        refine va_get (a := (ad 0)) (ci := 7) (v := .ref (ad 1)) (C := RX7) (T := TX7) (N := 28) hx hb hts hin_X7 hown hK hP 0 rfl rfl 3 (by decide) hw_4 (fun _ h => h) rfl dX7_copy_37 ?_
        refine lv_iload_n hx hb dX7_copy_40 rfl (lv_at hl 3 rfl) ?_
        replace hf := gi_e hf
        obtain ⟨i_41, hf⟩ := hf
        refine va_iald (a := (ad 1)) hx hb hK hP 1 0 rfl rfl i_41 dX7_copy_41 ?_
        refine lv_if_ge (tgt := 51) hx hb dX7_copy_42 (by decide) (fun c_42 => ?_) (fun c_42 => ?_)
        · replace hf := it_p c_42 hf
          refine lv_aload_n hx hb dX7_copy_51 rfl (lv_at hl 0 rfl) ?_
          refine va_get (a := (ad 0)) (ci := 7) (v := .ref (ad 1)) (C := RX7) (T := TX7) (N := 28) hx hb hts hin_X7 hown hK hP 0 rfl rfl 3 (by decide) hw_4 (fun _ h => h) rfl dX7_copy_52 ?_
          refine lv_iload_n hx hb dX7_copy_55 rfl (lv_at hl 1 rfl) ?_
          replace hf := gi_e hf
          obtain ⟨i_56, hf⟩ := hf
          refine va_iald (a := (ad 1)) hx hb hK hP 1 0 rfl rfl i_56 dX7_copy_56 ?_
          refine lv_aload_n hx hb dX7_copy_57 rfl (lv_at hl 0 rfl) ?_
          refine va_get (a := (ad 0)) (ci := 7) (v := .ref (ad 1)) (C := RX7) (T := TX7) (N := 28) hx hb hts hin_X7 hown hK hP 0 rfl rfl 3 (by decide) hw_4 (fun _ h => h) rfl dX7_copy_58 ?_
          refine lv_iload_n hx hb dX7_copy_61 rfl (lv_at hl 3 rfl) ?_
          replace hf := gi_e hf
          obtain ⟨i_62, hf⟩ := hf
          refine va_iald (a := (ad 1)) hx hb hK hP 1 0 rfl rfl i_62 dX7_copy_62 ?_
          refine lv_icmp_eq (tgt := 72) hx hb dX7_copy_63 (by decide) (fun c_63 => ?_) (fun c_63 => ?_)
          · replace hf := it_p c_63 hf
            refine lv_iload_n hx hb dX7_copy_72 rfl (lv_at hl 2 rfl) ?_
            refine lv_if_lt (tgt := 121) hx hb dX7_copy_73 (by decide) (fun c_73 => ?_) (fun c_73 => ?_)
            · replace hf := it_p c_73 hf
              exact J121 H locs ls 0 0 itm hf hP hD hS (lv_sub hl [0] rfl)
            · replace hf := it_n c_73 hf
              refine lv_iload hx hb dX7_copy_76 (lv_at hl 4 rfl) ?_
              refine lv_if_lt (tgt := 121) hx hb dX7_copy_78 (by decide) (fun c_78 => ?_) (fun c_78 => ?_)
              · replace hf := it_p c_78 hf
                exact J121 H locs ls 0 0 itm hf hP hD hS (lv_sub hl [0] rfl)
              · replace hf := it_n c_78 hf
                refine lv_iload hx hb dX7_copy_81 (lv_at hl 5 rfl) ?_
                refine lv_if_lt (tgt := 121) hx hb dX7_copy_83 (by decide) (fun c_83 => ?_) (fun c_83 => ?_)
                · replace hf := it_p c_83 hf
                  exact J121 H locs ls 0 0 itm hf hP hD hS (lv_sub hl [0] rfl)
                · replace hf := it_n c_83 hf
                  refine lv_iload_n hx hb dX7_copy_86 rfl (lv_at hl 2 rfl) ?_
                  refine lv_i2l hx hb dX7_copy_87 rfl ?_
                  refine lv_iload hx hb dX7_copy_88 (lv_at hl 5 rfl) ?_
                  refine lv_i2l hx hb dX7_copy_90 rfl ?_
                  refine lv_ladd hx hb dX7_copy_91 ?_
                  refine lv_aload_n hx hb dX7_copy_92 rfl (lv_at hl 0 rfl) ?_
                  refine va_get (a := (ad 0)) (ci := 7) (v := .ref (ad 2)) (C := RX7) (T := TX7) (N := 28) hx hb hts hin_X7 hown hK hP 0 rfl rfl 4 (by decide) hw_5 (fun _ h => h) rfl dX7_copy_93 ?_
                  refine lv_iload_n hx hb dX7_copy_96 rfl (lv_at hl 1 rfl) ?_
                  replace hf := gi_e hf
                  obtain ⟨i_97, hf⟩ := hf
                  refine va_iald (a := (ad 2)) hx hb hK hP 2 0 rfl rfl i_97 dX7_copy_97 ?_
                  refine lv_i2l hx hb dX7_copy_98 rfl ?_
                  refine W.lcmp hx hb dX7_copy_99 ?_
                  refine lv_if_gt (tgt := 121) hx hb dX7_copy_100 (by decide) (fun c_100 => ?_) (fun c_100 => ?_)
                  · replace hf := it_p c_100 hf
                    exact J121 H locs ls 0 0 itm hf hP hD hS (lv_sub hl [0] rfl)
                  · replace hf := it_n c_100 hf
                    refine lv_iload hx hb dX7_copy_103 (lv_at hl 4 rfl) ?_
                    refine lv_i2l hx hb dX7_copy_105 rfl ?_
                    refine lv_iload hx hb dX7_copy_106 (lv_at hl 5 rfl) ?_
                    refine lv_i2l hx hb dX7_copy_108 rfl ?_
                    refine lv_ladd hx hb dX7_copy_109 ?_
                    refine lv_aload_n hx hb dX7_copy_110 rfl (lv_at hl 0 rfl) ?_
                    refine va_get (a := (ad 0)) (ci := 7) (v := .ref (ad 2)) (C := RX7) (T := TX7) (N := 28) hx hb hts hin_X7 hown hK hP 0 rfl rfl 4 (by decide) hw_5 (fun _ h => h) rfl dX7_copy_111 ?_
                    refine lv_iload_n hx hb dX7_copy_114 rfl (lv_at hl 3 rfl) ?_
                    replace hf := gi_e hf
                    obtain ⟨i_115, hf⟩ := hf
                    refine va_iald (a := (ad 2)) hx hb hK hP 2 0 rfl rfl i_115 dX7_copy_115 ?_
                    refine lv_i2l hx hb dX7_copy_116 rfl ?_
                    refine W.lcmp hx hb dX7_copy_117 ?_
                    refine lv_if_le (tgt := 127) hx hb dX7_copy_118 (by decide) (fun c_118 => ?_) (fun c_118 => ?_)
                    · replace hf := it_p c_118 hf
                      refine lv_iload_n hx hb dX7_copy_127 rfl (lv_at hl 2 rfl) ?_
                      refine lv_iload hx hb dX7_copy_128 (lv_at hl 4 rfl) ?_
                      refine lv_icmp_lt (tgt := 137) hx hb dX7_copy_130 (by decide) (fun c_130 => ?_) (fun c_130 => ?_)
                      · replace hf := it_p c_130 hf
                        refine lv_iconst (v := 0) hx hb dX7_copy_137 (by decide) ?_
                        exact J138 H locs ls false 0 0 itm hf hP hD hS (lv_sub hl [0, 1, 2, 3, 4, 5] rfl)
                      · replace hf := it_n c_130 hf
                        refine lv_iconst (v := 1) hx hb dX7_copy_133 (by decide) ?_
                        refine lv_goto (tgt := 138) hx hb dX7_copy_134 (by decide) ?_
                        exact J138 H locs ls true 0 0 itm hf hP hD hS (lv_sub hl [0, 1, 2, 3, 4, 5] rfl)
                    · replace hf := it_n c_118 hf
                      exact J121 H locs ls 0 0 itm hf hP hD hS (lv_sub hl [0] rfl)
          · replace hf := it_n c_63 hf
            refine lv_aload_n hx hb dX7_copy_66 rfl (lv_at hl 0 rfl) ?_
            refine lv_iconst (v := 5) hx hb dX7_copy_67 (by decide) ?_
            replace hf := ob_e hf
            obtain ⟨u_68, hu_68, hf⟩ := hf
            refine ivW (As := [.int 5]) (rest := []) (st1 := [.int u_68.1]) (is := [0]) (w1 := (wX7_0 cy ad 0 u_68.2 pri tcd frt frp)) ⟨hx, hb, hml, hown, hts⟩ hK hN (KX7_found l D cy ad 0 0 pri tcd frt frp 5 H.size hu_68) (cwV 1 hts gX7_copy_X7_found rfl rfl rfl (by decide +kernel) ⟨Nat.le_of_ble_eq_true rfl, Nat.le_of_ble_eq_true rfl⟩) (va_recv hK hP (ci := 7) (q0 := 0) rfl rfl) hP hD hS hA P_nil (sepW_nil _) (by decide) rfl rfl rfl hl.1 rfl (Nat.le_of_ble_eq_true rfl) rfl dX7_copy_68 ⟨Nat.zero_le _, Nat.zero_le _⟩ (fun H locs hP hD hS => ?_)
            have hP : va_P D vwCl ((wX7_0_1_2_3 cy ad 0 u_68.2 pri tcd frt frp lan man itm)) H := hP
            have hD : va_D A ((wX7_0_1_2_3 cy ad 0 u_68.2 pri tcd frt frp lan man itm)) := hD
            obtain rfl := Option.some.inj hf
            rw [← hQe]
            exact W.iret (v := u_68.1) hx hb hr (fun t ht hW => ⟨rfl, by rw [ht]; exact hP, hS.F ht⟩) hS.2.2 dX7_copy_71
        · replace hf := it_n c_42 hf
          exact J45 H locs ls 0 0 itm hf hP hD hS (lv_sub hl [0] rfl)
    · replace hf := it_p c_16 hf
      refine lv_ldc (own := RX7) (v := (-1000001)) hx hb hown hw_0 dX7_copy_19 ?_
      obtain rfl := Option.some.inj hf
      rw [← hQe]
      exact W.iret (v := (-1000001)) hx hb hr (fun t ht hW => ⟨rfl, by rw [ht]; exact hP, hS.F ht⟩) hS.2.2 dX7_copy_21
def FX7_drop  (sta : Int32) (lan : Nat → Int32) (man : Nat → Int32) (x1 : Int32) : Option (Int32 × (Int32) × (Int32) × (Nat → Int32)) := (ob (FX7_isSheet x1) (fun u_6 => if (bi u_6) = 0 then (some ((-1000001), 0, sta, lan)) else (gi x1 8 (if 0 ≤ (lan (Int32.toNatClampNeg x1)) then (gi x1 8 (gi x1 8 (some ((man (Int32.toNatClampNeg x1)), 0, 0, (upd lan (Int32.toNatClampNeg x1) (-1)))))) else (ob (FX7_found 1) (fun u_31 => some (u_31.1, 0, u_31.2, lan)))))))
abbrev RMX7_drop : Room := { frames := 2, cells := 0, slots := 0, locals := 45 }
set_option maxHeartbeats 4000000 in
set_option maxRecDepth 100000 in
theorem KX7_drop (l : Launch) (D : va_G) (cy : Nat → ClassId) (ad : Nat → Nat) (thr : Int32) (sta : Int32) (pri : Int32) (tcd : Int32) (frt : Int32) (frp : Int32) (lan : Nat → Int32) (man : Nat → Int32) (x1 : Int32) (sz : Nat) {out : Int32 × (Int32) × (Int32) × (Nat → Int32)} (hf : FX7_drop sta lan man x1 = some out) : Met l yX7_drop wsX7_drop RMX7_drop (PW D cy [.ref (ad 0), .int x1] sz ((wX7_0_1_2 cy ad thr sta pri tcd frt frp lan man)) []) (QW D (some (.int out.1)) ((wX7_0_1_2 cy ad out.2.1 out.2.2.1 pri tcd frt frp out.2.2.2 man)) (va_A ((wX7_0_1_2 cy ad thr sta pri tcd frt frp lan man)) sz)) 0 0 (va_A ((wX7_0_1_2 cy ad thr sta pri tcd frt frp lan man)) sz) := by
  refine Met.ofW (cc := cX7_drop) (maxL := 2) (ret := (some .int)) (by decide +kernel) rfl ?_
  intro p e s m args below meth c s₁ B hml hv
  obtain ⟨hav, hsz, hP, hR0, hK, hN, hD0, hsep⟩ := hv
  have hx := B.exec
  have hb := B.bytes
  have hr := B.returns
  have hts := atoms_spec (ws := wsX7_drop) B.pre
  have hown : s.vm.findClass RX7 = some m.cls := findClass_of_methodNamed B.named
  have hlocks := B.notSynchronized
  subst hsz
  have hin_X7 : ∀ w ∈ u_ws RX7 TX7 28, w ∈ wsX7_drop := by decide +kernel
  have hw_0 := hts (.constant RX7 108 (-1000001)) (by decide +kernel)
  have hw_1 := hts (.fieldLink RX7 1 "ReturnPointsModel" "thrown" "I") (by decide +kernel)
  have hw_2 := hts (.fieldLink RX7 7 "ReturnPointsModel" "status" "I") (by decide +kernel)
  have hw_3 := hts (.fieldLink RX7 17 "ReturnPointsModel" "lane" "[I") (by decide +kernel)
  have hw_4 := hts (.fieldLink RX7 21 "ReturnPointsModel" "many" "[I") (by decide +kernel)
  have hD := hD0.self (sz := s.heap.size)
  have hnA := roA hsep hR0
  generalize hAe : va_A ((wX7_0_1_2 cy ad thr sta pri tcd frt frp lan man)) s.heap.size = A at hD hnA ⊢
  have hA : ∀ q : Nat, s.heap.size ≤ q → A q := fun q h => by rw [← hAe]; exact Or.inr h
  have hS : va_S A s.heap s.heap [] := va_S.rf
  obtain ⟨ls, hfr, hl⟩ := ent_ok (m := m) (n := 2) (l' := [(0, .ref (ad 0)), (1, .int x1)]) [.ref (ad 0), .int x1] hav (Nat.le_of_ble_eq_true rfl) rfl
  rw [hfr]
  generalize hQe : MQ below (QW D (some (.int out.1)) ((wX7_0_1_2 cy ad out.2.1 out.2.2.1 pri tcd frt frp out.2.2.2 man)) A) args s 0 0 A = QQ
  change W p l e RMX7_drop s m args below meth c s.heap [] 0 0 QQ (F0 m 0 ls [])
  have hP : va_P D vwCl ((wX7_0_1_2 cy ad thr sta pri tcd frt frp lan man)) s.heap := hP
  have hD : va_D A ((wX7_0_1_2 cy ad thr sta pri tcd frt frp lan man)) := hD
  suffices h00 : ∀ (H : Heap) (locs : List Loc), va_P D vwCl ((wX7_0_1_2 cy ad thr sta pri tcd frt frp lan man)) H → va_S A s.heap H locs → W p l e RMX7_drop s m args below meth c H locs 0 0 QQ (F0 m 0 ls []) from h00 _ _ hP hS
  clear hP hS
  intro H locs hP hS
  unfold FX7_drop at hf
  refine lv_aload_n hx hb dX7_drop_0 rfl (lv_at hl 0 rfl) ?_
  refine lv_iconst (v := 0) hx hb dX7_drop_1 (by decide) ?_
  refine va_put (a := (ad 0)) (ci := 7) (v := .int 0) (ty := .int) (C := RX7) (T := TX7) (N := 28) hx hb hts hin_X7 tyX7 tyX7_ok nmX7 hown hK hP hD hS 0 rfl rfl 0 (by decide) hw_1 (fun _ h => h) rfl (by decide +kernel) rfl rfl (Nat.le_of_ble_eq_true rfl) dX7_drop_2 (fun H locs hP hD hS => ?_)
  have hP : va_P D vwCl ((wX7_0_1_2 cy ad 0 sta pri tcd frt frp lan man)) H := hP
  have hD : va_D A ((wX7_0_1_2 cy ad 0 sta pri tcd frt frp lan man)) := hD
  refine lv_iload_n hx hb dX7_drop_5 rfl (lv_at hl 1 rfl) ?_
  replace hf := ob_e hf
  obtain ⟨u_6, hu_6, hf⟩ := hf
  refine isR (As := [.int x1]) (rest := []) (st1 := [.int (bi u_6)]) ⟨hx, hb, hml, hown, hts⟩ hK hN (KX7_isSheet l D cy x1 H.size hu_6) (va_cwS 1 hts gX7_drop_X7_isSheet rfl rfl rfl (by decide +kernel) ⟨Nat.le_of_ble_eq_true rfl, Nat.le_of_ble_eq_true rfl⟩) P_nil rfl hl.1 rfl (Nat.le_of_ble_eq_true rfl) rfl dX7_drop_6 ⟨Nat.zero_le _, Nat.zero_le _⟩ ?_
  refine lv_if_ne (tgt := 15) hx hb dX7_drop_9 (by decide) (fun c_9 => ?_) (fun c_9 => ?_)
  · replace hf := it_n c_9 hf
    refine lv_aload_n hx hb dX7_drop_15 rfl (lv_at hl 0 rfl) ?_
    refine lv_iconst (v := 0) hx hb dX7_drop_16 (by decide) ?_
    refine va_put (a := (ad 0)) (ci := 7) (v := .int 0) (ty := .int) (C := RX7) (T := TX7) (N := 28) hx hb hts hin_X7 tyX7 tyX7_ok nmX7 hown hK hP hD hS 0 rfl rfl 1 (by decide) hw_2 (fun _ h => h) rfl (by decide +kernel) rfl rfl (Nat.le_of_ble_eq_true rfl) dX7_drop_17 (fun H locs hP hD hS => ?_)
    have hP : va_P D vwCl ((wX7_0_1_2 cy ad 0 0 pri tcd frt frp lan man)) H := hP
    have hD : va_D A ((wX7_0_1_2 cy ad 0 0 pri tcd frt frp lan man)) := hD
    refine lv_aload_n hx hb dX7_drop_20 rfl (lv_at hl 0 rfl) ?_
    refine va_get (a := (ad 0)) (ci := 7) (v := .ref (ad 1)) (C := RX7) (T := TX7) (N := 28) hx hb hts hin_X7 hown hK hP 0 rfl rfl 3 (by decide) hw_3 (fun _ h => h) rfl dX7_drop_21 ?_
    refine lv_iload_n hx hb dX7_drop_24 rfl (lv_at hl 1 rfl) ?_
    replace hf := gi_e hf
    obtain ⟨i_25, hf⟩ := hf
    refine va_iald (a := (ad 1)) hx hb hK hP 1 0 rfl rfl i_25 dX7_drop_25 ?_
    refine lv_if_ge (tgt := 35) hx hb dX7_drop_26 (by decide) (fun c_26 => ?_) (fun c_26 => ?_)
    · replace hf := it_p c_26 hf
      refine lv_aload_n hx hb dX7_drop_35 rfl (lv_at hl 0 rfl) ?_
      refine va_get (a := (ad 0)) (ci := 7) (v := .ref (ad 1)) (C := RX7) (T := TX7) (N := 28) hx hb hts hin_X7 hown hK hP 0 rfl rfl 3 (by decide) hw_3 (fun _ h => h) rfl dX7_drop_36 ?_
      refine lv_iload_n hx hb dX7_drop_39 rfl (lv_at hl 1 rfl) ?_
      refine lv_iconst (v := (-1)) hx hb dX7_drop_40 (by decide) ?_
      replace hf := gi_e hf
      obtain ⟨i_41, hf⟩ := hf
      refine va_iast (a := (ad 1)) hx hb hK hP hD hS 1 0 rfl rfl i_41 dX7_drop_41 (fun H locs hP hD hS => ?_)
      have hP : va_P D vwCl ((wX7_0_1_2 cy ad 0 0 pri tcd frt frp (upd lan (Int32.toNatClampNeg x1) (-1)) man)) H := hP
      have hD : va_D A ((wX7_0_1_2 cy ad 0 0 pri tcd frt frp (upd lan (Int32.toNatClampNeg x1) (-1)) man)) := hD
      refine lv_aload_n hx hb dX7_drop_42 rfl (lv_at hl 0 rfl) ?_
      refine va_get (a := (ad 0)) (ci := 7) (v := .ref (ad 2)) (C := RX7) (T := TX7) (N := 28) hx hb hts hin_X7 hown hK hP 0 rfl rfl 4 (by decide) hw_4 (fun _ h => h) rfl dX7_drop_43 ?_
      refine lv_iload_n hx hb dX7_drop_46 rfl (lv_at hl 1 rfl) ?_
      replace hf := gi_e hf
      obtain ⟨i_47, hf⟩ := hf
      refine va_iald (a := (ad 2)) hx hb hK hP 2 0 rfl rfl i_47 dX7_drop_47 ?_
      obtain rfl := Option.some.inj hf
      rw [← hQe]
      exact W.iret (v := (man (Int32.toNatClampNeg x1))) hx hb hr (fun t ht hW => ⟨rfl, by rw [ht]; exact hP, hS.F ht⟩) hS.2.2 dX7_drop_48
    · replace hf := it_n c_26 hf
      refine lv_aload_n hx hb dX7_drop_29 rfl (lv_at hl 0 rfl) ?_
      refine lv_iconst (v := 1) hx hb dX7_drop_30 (by decide) ?_
      replace hf := ob_e hf
      obtain ⟨u_31, hu_31, hf⟩ := hf
      refine ivW (As := [.int 1]) (rest := []) (st1 := [.int u_31.1]) (is := [0]) (w1 := (wX7_0 cy ad 0 u_31.2 pri tcd frt frp)) ⟨hx, hb, hml, hown, hts⟩ hK hN (KX7_found l D cy ad 0 0 pri tcd frt frp 1 H.size hu_31) (cwV 1 hts gX7_drop_X7_found rfl rfl rfl (by decide +kernel) ⟨Nat.le_of_ble_eq_true rfl, Nat.le_of_ble_eq_true rfl⟩) (va_recv hK hP (ci := 7) (q0 := 0) rfl rfl) hP hD hS hA P_nil (sepW_nil _) (by decide) rfl rfl rfl hl.1 rfl (Nat.le_of_ble_eq_true rfl) rfl dX7_drop_31 ⟨Nat.zero_le _, Nat.zero_le _⟩ (fun H locs hP hD hS => ?_)
      have hP : va_P D vwCl ((wX7_0_1_2 cy ad 0 u_31.2 pri tcd frt frp lan man)) H := hP
      have hD : va_D A ((wX7_0_1_2 cy ad 0 u_31.2 pri tcd frt frp lan man)) := hD
      obtain rfl := Option.some.inj hf
      rw [← hQe]
      exact W.iret (v := u_31.1) hx hb hr (fun t ht hW => ⟨rfl, by rw [ht]; exact hP, hS.F ht⟩) hS.2.2 dX7_drop_34
  · replace hf := it_p c_9 hf
    refine lv_ldc (own := RX7) (v := (-1000001)) hx hb hown hw_0 dX7_drop_12 ?_
    obtain rfl := Option.some.inj hf
    rw [← hQe]
    exact W.iret (v := (-1000001)) hx hb hr (fun t ht hW => ⟨rfl, by rw [ht]; exact hP, hS.F ht⟩) hS.2.2 dX7_drop_14
def FX7_isPlace   (x1 : Int32) : Option (Bool) := (ob (FX7_in (Int32.toInt64 x1) 0 9) (fun u_6 => some (u_6)))
abbrev RMX7_isPlace : Room := { frames := 1, cells := 0, slots := 0, locals := 25 }
set_option maxHeartbeats 4000000 in
set_option maxRecDepth 100000 in
theorem KX7_isPlace (l : Launch) (D : va_G) (cy : Nat → ClassId)   (x1 : Int32) (sz : Nat) {out : Bool} (hf : FX7_isPlace x1 = some out) : Met l yX7_isPlace wsX7_isPlace RMX7_isPlace (PW D cy [.int x1] sz [] []) (QR (some (.int (bi out)))) 0 0 no_A := by
  refine Met.ofW (cc := cX7_isPlace) (maxL := 1) (ret := (some .boolean)) (by decide +kernel) rfl ?_
  intro p e s m args below meth c s₁ B hml hv
  obtain ⟨hav, hsz, hP, hR0, hK, hN, hD0, hsep⟩ := hv
  have hx := B.exec
  have hb := B.bytes
  have hr := B.returns
  have hts := atoms_spec (ws := wsX7_isPlace) B.pre
  have hown : s.vm.findClass RX7 = some m.cls := findClass_of_methodNamed B.named
  have hlocks := B.notSynchronized
  subst hsz
  have hw_0 := hts (.constantLong RX7 115 (9)) (by decide +kernel)
  obtain ⟨ls, hfr, hl⟩ := ent_ok (m := m) (n := 1) (l' := [(0, .int x1)]) [.int x1] hav (Nat.le_of_ble_eq_true rfl) rfl
  rw [hfr]
  generalize hQe : MQ below (QR (some (.int (bi out)))) args s 0 0 no_A = QQ
  change W p l e RMX7_isPlace s m args below meth c s.heap [] 0 0 QQ (F0 m 0 ls [])
  unfold FX7_isPlace at hf
  refine lv_iload_n hx hb dX7_isPlace_0 rfl (lv_at hl 0 rfl) ?_
  refine lv_i2l hx hb dX7_isPlace_1 rfl ?_
  refine lv_lconst (v := 0) hx hb dX7_isPlace_2 (by decide) ?_
  refine lv_ldc2 (own := RX7) (v := 9) hx hb hown hw_0 dX7_isPlace_3 ?_
  replace hf := ob_e hf
  obtain ⟨u_6, hu_6, hf⟩ := hf
  refine isR (As := [.long (Int32.toInt64 x1), .long 0, .long 9]) (rest := []) (st1 := [.int (bi u_6)]) ⟨hx, hb, hml, hown, hts⟩ hK hN (KX7_in l D cy (Int32.toInt64 x1) 0 9 s.heap.size hu_6) (va_cwS 3 hts gX7_isPlace_X7_in rfl rfl rfl (by decide +kernel) ⟨Nat.le_of_ble_eq_true rfl, Nat.le_of_ble_eq_true rfl⟩) P_nil rfl hl.1 rfl (Nat.le_of_ble_eq_true rfl) rfl dX7_isPlace_6 ⟨Nat.zero_le _, Nat.zero_le _⟩ ?_
  obtain rfl := Option.some.inj hf
  rw [← hQe]
  exact W.zret (v := bi u_6) hx hb hr (nar_bi _) (fun t ht hW => ⟨rfl, ht⟩) (fun q h => by cases h) dX7_isPlace_9
def FX7_modulo  (pri : Int32) (x1 : Int64) : Option (Int32) := (gd (¬ (Int32.toInt64 pri) = 0) (bd (lrm x1 (Int32.toInt64 pri)) (fun v_7 => if 0 ≤ (lg_cmp v_7 0) then ((some ((Int64.toInt32 v_7)))) else ((some ((Int64.toInt32 (v_7 + (Int32.toInt64 pri)))))))))
abbrev RMX7_modulo : Room := { frames := 0, cells := 0, slots := 0, locals := 0 }
set_option maxHeartbeats 4000000 in
set_option maxRecDepth 100000 in
theorem KX7_modulo (l : Launch) (D : va_G) (cy : Nat → ClassId) (ad : Nat → Nat) (thr : Int32) (sta : Int32) (pri : Int32) (tcd : Int32) (frt : Int32) (frp : Int32) (x1 : Int64) (sz : Nat) {out : Int32} (hf : FX7_modulo pri x1 = some out) : Met l yX7_modulo wsX7_modulo RMX7_modulo (PW D cy [.ref (ad 0), .long x1] sz [] ((wX7_0 cy ad thr sta pri tcd frt frp))) (QR (some (.int out))) 0 0 no_A := by
  refine Met.ofW (cc := cX7_modulo) (maxL := 5) (ret := (some .int)) (by decide +kernel) rfl ?_
  intro p e s m args below meth c s₁ B hml hv
  obtain ⟨hav, hsz, hP, hR0, hK, hN, hD0, hsep⟩ := hv
  have hx := B.exec
  have hb := B.bytes
  have hr := B.returns
  have hts := atoms_spec (ws := wsX7_modulo) B.pre
  have hown : s.vm.findClass RX7 = some m.cls := findClass_of_methodNamed B.named
  have hlocks := B.notSynchronized
  subst hsz
  have hin_X7 : ∀ w ∈ u_ws RX7 TX7 28, w ∈ wsX7_modulo := by decide +kernel
  have hw_0 := hts (.fieldLink RX7 98 "ReturnPointsModel" "prime" "I") (by decide +kernel)
  obtain ⟨ls, hfr, hl⟩ := ent_ok (m := m) (n := 5) (l' := [(0, .ref (ad 0)), (1, .long x1)]) [.ref (ad 0), .long x1] hav (Nat.le_of_ble_eq_true rfl) rfl
  rw [hfr]
  generalize hQe : MQ below (QR (some (.int out))) args s 0 0 no_A = QQ
  change W p l e RMX7_modulo s m args below meth c s.heap [] 0 0 QQ (F0 m 0 ls [])
  unfold FX7_modulo at hf
  refine lv_lload_n hx hb dX7_modulo_0 rfl (lv_at hl 1 rfl) ?_
  refine lv_aload_n hx hb dX7_modulo_1 rfl (lv_at hl 0 rfl) ?_
  refine va_get (a := (ad 0)) (ci := 7) (v := .int pri) (C := RX7) (T := TX7) (N := 28) hx hb hts hin_X7 hown hK hR0 0 rfl rfl 2 (by decide) hw_0 (fun _ h => h) rfl dX7_modulo_2 ?_
  refine lv_i2l hx hb dX7_modulo_5 rfl ?_
  replace hf := gd_e hf
  obtain ⟨z_6, hf⟩ := hf
  refine rw_lrem hx hb dX7_modulo_6 z_6 ?_
  refine lv_topl (fun v_7 e_7 => ?_)
  replace hf := bd_at e_7 hf
  clear e_7
  refine lv_lstore_n (lv' := [(3, .long v_7), (0, .ref (ad 0)), (1, .long x1)]) hx hb dX7_modulo_7 rfl hl (by decide) rfl (fun ls hl => ?_)
  refine lv_lload_n hx hb dX7_modulo_8 rfl (lv_at hl 0 rfl) ?_
  refine lv_lconst (v := 0) hx hb dX7_modulo_9 (by decide) ?_
  refine W.lcmp hx hb dX7_modulo_10 ?_
  refine lv_if_ge (tgt := 24) hx hb dX7_modulo_11 (by decide) (fun c_11 => ?_) (fun c_11 => ?_)
  · replace hf := it_p c_11 hf
    refine lv_lload_n hx hb dX7_modulo_24 rfl (lv_at hl 0 rfl) ?_
    refine lv_l2i hx hb dX7_modulo_25 rfl ?_
    obtain rfl := Option.some.inj hf
    rw [← hQe]
    exact W.iret (v := (Int64.toInt32 v_7)) hx hb hr (fun t ht hW => ⟨rfl, ht⟩) (fun q h => by cases h) dX7_modulo_26
  · replace hf := it_n c_11 hf
    refine lv_lload_n hx hb dX7_modulo_14 rfl (lv_at hl 0 rfl) ?_
    refine lv_aload_n hx hb dX7_modulo_15 rfl (lv_at hl 1 rfl) ?_
    refine va_get (a := (ad 0)) (ci := 7) (v := .int pri) (C := RX7) (T := TX7) (N := 28) hx hb hts hin_X7 hown hK hR0 0 rfl rfl 2 (by decide) hw_0 (fun _ h => h) rfl dX7_modulo_16 ?_
    refine lv_i2l hx hb dX7_modulo_19 rfl ?_
    refine lv_ladd hx hb dX7_modulo_20 ?_
    refine lv_goto (tgt := 25) hx hb dX7_modulo_21 (by decide) ?_
    refine lv_l2i hx hb dX7_modulo_25 rfl ?_
    obtain rfl := Option.some.inj hf
    rw [← hQe]
    exact W.iret (v := (Int64.toInt32 (v_7 + (Int32.toInt64 pri)))) hx hb hr (fun t ht hW => ⟨rfl, ht⟩) (fun q h => by cases h) dX7_modulo_26
def FX7_kindOf  (deg : Nat → Int32) (num : Nat → Int32) (x1 : Int32) : Option (Int32) := (gi x1 10 (bd (deg (Int32.toNatClampNeg x1)) (fun v_6 => if v_6 = 2 then (gi ((5 * x1) + 2) 50 (if (num (Int32.toNatClampNeg ((5 * x1) + 2))) = 1 then (gi ((5 * x1) + 1) 50 (if (num (Int32.toNatClampNeg ((5 * x1) + 1))) = 0 then ((some (4))) else ((some (3))))) else ((some (3))))) else (if v_6 = 1 then ((some (2))) else (if v_6 = 0 then ((some (1))) else ((some (5))))))))
abbrev RMX7_kindOf : Room := { frames := 0, cells := 0, slots := 0, locals := 0 }
set_option maxHeartbeats 4000000 in
set_option maxRecDepth 100000 in
theorem KX7_kindOf (l : Launch) (D : va_G) (cy : Nat → ClassId) (ad : Nat → Nat) (thr : Int32) (sta : Int32) (pri : Int32) (tcd : Int32) (frt : Int32) (frp : Int32) (deg : Nat → Int32) (num : Nat → Int32) (x1 : Int32) (sz : Nat) {out : Int32} (hf : FX7_kindOf deg num x1 = some out) : Met l yX7_kindOf wsX7_kindOf RMX7_kindOf (PW D cy [.ref (ad 0), .int x1] sz [] ((wX7_0_4_5 cy ad thr sta pri tcd frt frp deg num))) (QR (some (.int out))) 0 0 no_A := by
  refine Met.ofW (cc := cX7_kindOf) (maxL := 3) (ret := (some .int)) (by decide +kernel) rfl ?_
  intro p e s m args below meth c s₁ B hml hv
  obtain ⟨hav, hsz, hP, hR0, hK, hN, hD0, hsep⟩ := hv
  have hx := B.exec
  have hb := B.bytes
  have hr := B.returns
  have hts := atoms_spec (ws := wsX7_kindOf) B.pre
  have hown : s.vm.findClass RX7 = some m.cls := findClass_of_methodNamed B.named
  have hlocks := B.notSynchronized
  subst hsz
  have hin_X7 : ∀ w ∈ u_ws RX7 TX7 28, w ∈ wsX7_kindOf := by decide +kernel
  have hw_0 := hts (.fieldLink RX7 28 "ReturnPointsModel" "degree" "[I") (by decide +kernel)
  have hw_1 := hts (.fieldLink RX7 31 "ReturnPointsModel" "number" "[I") (by decide +kernel)
  obtain ⟨ls, hfr, hl⟩ := ent_ok (m := m) (n := 3) (l' := [(0, .ref (ad 0)), (1, .int x1)]) [.ref (ad 0), .int x1] hav (Nat.le_of_ble_eq_true rfl) rfl
  rw [hfr]
  generalize hQe : MQ below (QR (some (.int out))) args s 0 0 no_A = QQ
  change W p l e RMX7_kindOf s m args below meth c s.heap [] 0 0 QQ (F0 m 0 ls [])
  unfold FX7_kindOf at hf
  refine lv_aload_n hx hb dX7_kindOf_0 rfl (lv_at hl 0 rfl) ?_
  refine va_get (a := (ad 0)) (ci := 7) (v := .ref (ad 4)) (C := RX7) (T := TX7) (N := 28) hx hb hts hin_X7 hown hK hR0 0 rfl rfl 6 (by decide) hw_0 (fun _ h => h) rfl dX7_kindOf_1 ?_
  refine lv_iload_n hx hb dX7_kindOf_4 rfl (lv_at hl 1 rfl) ?_
  replace hf := gi_e hf
  obtain ⟨i_5, hf⟩ := hf
  refine va_iald (a := (ad 4)) hx hb hK hR0 1 0 rfl rfl i_5 dX7_kindOf_5 ?_
  refine lv_topi (fun v_6 e_6 => ?_)
  replace hf := bd_at e_6 hf
  clear e_6
  refine lv_istore_n (lv' := [(2, .int v_6), (0, .ref (ad 0)), (1, .int x1)]) hx hb dX7_kindOf_6 rfl hl (by decide) rfl (fun ls hl => ?_)
  refine lv_iload_n hx hb dX7_kindOf_7 rfl (lv_at hl 0 rfl) ?_
  refine lv_iconst (v := 2) hx hb dX7_kindOf_8 (by decide) ?_
  refine lv_icmp_ne (tgt := 47) hx hb dX7_kindOf_9 (by decide) (fun c_9 => ?_) (fun c_9 => ?_)
  · replace hf := it_n c_9 hf
    refine lv_iload_n hx hb dX7_kindOf_47 rfl (lv_at hl 0 rfl) ?_
    refine lv_iconst (v := 1) hx hb dX7_kindOf_48 (by decide) ?_
    refine lv_icmp_ne (tgt := 56) hx hb dX7_kindOf_49 (by decide) (fun c_49 => ?_) (fun c_49 => ?_)
    · replace hf := it_n c_49 hf
      refine lv_iload_n hx hb dX7_kindOf_56 rfl (lv_at hl 0 rfl) ?_
      refine lv_if_ne (tgt := 64) hx hb dX7_kindOf_57 (by decide) (fun c_57 => ?_) (fun c_57 => ?_)
      · replace hf := it_n c_57 hf
        refine lv_iconst (v := 5) hx hb dX7_kindOf_64 (by decide) ?_
        obtain rfl := Option.some.inj hf
        rw [← hQe]
        exact W.iret (v := 5) hx hb hr (fun t ht hW => ⟨rfl, ht⟩) (fun q h => by cases h) dX7_kindOf_65
      · replace hf := it_p c_57 hf
        refine lv_iconst (v := 1) hx hb dX7_kindOf_60 (by decide) ?_
        refine lv_goto (tgt := 65) hx hb dX7_kindOf_61 (by decide) ?_
        obtain rfl := Option.some.inj hf
        rw [← hQe]
        exact W.iret (v := 1) hx hb hr (fun t ht hW => ⟨rfl, ht⟩) (fun q h => by cases h) dX7_kindOf_65
    · replace hf := it_p c_49 hf
      refine lv_iconst (v := 2) hx hb dX7_kindOf_52 (by decide) ?_
      refine lv_goto (tgt := 65) hx hb dX7_kindOf_53 (by decide) ?_
      obtain rfl := Option.some.inj hf
      rw [← hQe]
      exact W.iret (v := 2) hx hb hr (fun t ht hW => ⟨rfl, ht⟩) (fun q h => by cases h) dX7_kindOf_65
  · replace hf := it_p c_9 hf
    refine lv_aload_n hx hb dX7_kindOf_12 rfl (lv_at hl 1 rfl) ?_
    refine va_get (a := (ad 0)) (ci := 7) (v := .ref (ad 5)) (C := RX7) (T := TX7) (N := 28) hx hb hts hin_X7 hown hK hR0 0 rfl rfl 7 (by decide) hw_1 (fun _ h => h) rfl dX7_kindOf_13 ?_
    refine lv_iconst (v := 5) hx hb dX7_kindOf_16 (by decide) ?_
    refine lv_iload_n hx hb dX7_kindOf_17 rfl (lv_at hl 2 rfl) ?_
    refine lv_imul hx hb dX7_kindOf_18 ?_
    refine lv_iconst (v := 2) hx hb dX7_kindOf_19 (by decide) ?_
    refine lv_iadd hx hb dX7_kindOf_20 ?_
    replace hf := gi_e hf
    obtain ⟨i_21, hf⟩ := hf
    refine va_iald (a := (ad 5)) hx hb hK hR0 2 0 rfl rfl i_21 dX7_kindOf_21 ?_
    refine lv_iconst (v := 1) hx hb dX7_kindOf_22 (by decide) ?_
    refine lv_icmp_ne (tgt := 43) hx hb dX7_kindOf_23 (by decide) (fun c_23 => ?_) (fun c_23 => ?_)
    · replace hf := it_n c_23 hf
      refine lv_iconst (v := 3) hx hb dX7_kindOf_43 (by decide) ?_
      refine lv_goto (tgt := 65) hx hb dX7_kindOf_44 (by decide) ?_
      obtain rfl := Option.some.inj hf
      rw [← hQe]
      exact W.iret (v := 3) hx hb hr (fun t ht hW => ⟨rfl, ht⟩) (fun q h => by cases h) dX7_kindOf_65
    · replace hf := it_p c_23 hf
      refine lv_aload_n hx hb dX7_kindOf_26 rfl (lv_at hl 1 rfl) ?_
      refine va_get (a := (ad 0)) (ci := 7) (v := .ref (ad 5)) (C := RX7) (T := TX7) (N := 28) hx hb hts hin_X7 hown hK hR0 0 rfl rfl 7 (by decide) hw_1 (fun _ h => h) rfl dX7_kindOf_27 ?_
      refine lv_iconst (v := 5) hx hb dX7_kindOf_30 (by decide) ?_
      refine lv_iload_n hx hb dX7_kindOf_31 rfl (lv_at hl 2 rfl) ?_
      refine lv_imul hx hb dX7_kindOf_32 ?_
      refine lv_iconst (v := 1) hx hb dX7_kindOf_33 (by decide) ?_
      refine lv_iadd hx hb dX7_kindOf_34 ?_
      replace hf := gi_e hf
      obtain ⟨i_35, hf⟩ := hf
      refine va_iald (a := (ad 5)) hx hb hK hR0 2 0 rfl rfl i_35 dX7_kindOf_35 ?_
      refine lv_if_ne (tgt := 43) hx hb dX7_kindOf_36 (by decide) (fun c_36 => ?_) (fun c_36 => ?_)
      · replace hf := it_n c_36 hf
        refine lv_iconst (v := 3) hx hb dX7_kindOf_43 (by decide) ?_
        refine lv_goto (tgt := 65) hx hb dX7_kindOf_44 (by decide) ?_
        obtain rfl := Option.some.inj hf
        rw [← hQe]
        exact W.iret (v := 3) hx hb hr (fun t ht hW => ⟨rfl, ht⟩) (fun q h => by cases h) dX7_kindOf_65
      · replace hf := it_p c_36 hf
        refine lv_iconst (v := 4) hx hb dX7_kindOf_39 (by decide) ?_
        refine lv_goto (tgt := 65) hx hb dX7_kindOf_40 (by decide) ?_
        obtain rfl := Option.some.inj hf
        rw [← hQe]
        exact W.iret (v := 4) hx hb hr (fun t ht hW => ⟨rfl, ht⟩) (fun q h => by cases h) dX7_kindOf_65
def FX7_lay_J59  (k14 : Int32 → (Nat → Int32) → (Nat → Int32) → Option (Int32 × (Int32) × (Nat → Int32) × (Nat → Int32))) (x1 : Int32) (x2_59 : Int32) (s1_59 : Int32) (s2_59 : Int32) (sta_14 : Int32) (deg_59 : Nat → Int32) (num_59 : Nat → Int32) (mad : Nat → Int32) : Option (Int32 × (Int32) × (Nat → Int32) × (Nat → Int32)) := (gi s1_59 10 (bd (x2_59 + 1) (fun v_60 => k14 v_60 (upd deg_59 (Int32.toNatClampNeg s1_59) s2_59) num_59)))
def FX7_lay_L14   (x1 : Int32) (sta_14 : Int32) (mad : Nat → Int32) : Nat → Int32 → (Nat → Int32) → (Nat → Int32) → Option (Int32 × (Int32) × (Nat → Int32) × (Nat → Int32))
  | 0, _, _, _ => none
  | fuel + 1, x2_14, deg_14, num_14 => (if 5 ≤ x2_14 then (ob (FX7_kindOf deg_14 num_14 x1) (fun u_68 => some (u_68, sta_14, deg_14, num_14))) else (gi x2_14 5 (gi ((5 * x1) + x2_14) 50 (gi x2_14 5 (if (mad (Int32.toNatClampNeg x2_14)) = 0 then (gi x1 10 (FX7_lay_J59 (FX7_lay_L14 x1 sta_14 mad fuel) x1 x2_14 x1 (deg_14 (Int32.toNatClampNeg x1)) sta_14 deg_14 (upd num_14 (Int32.toNatClampNeg ((5 * x1) + x2_14)) (mad (Int32.toNatClampNeg x2_14))) mad)) else (FX7_lay_J59 (FX7_lay_L14 x1 sta_14 mad fuel) x1 x2_14 x1 x2_14 sta_14 deg_14 (upd num_14 (Int32.toNatClampNeg ((5 * x1) + x2_14)) (mad (Int32.toNatClampNeg x2_14))) mad))))))
def FX7_lay  (deg : Nat → Int32) (num : Nat → Int32) (mad : Nat → Int32) (x1 : Int32) : Option (Int32 × (Int32) × (Nat → Int32) × (Nat → Int32)) := (gi x1 10 (FX7_lay_L14 x1 0 mad FU 0 (upd deg (Int32.toNatClampNeg x1) 0) num))
abbrev RMX7_lay : Room := { frames := 1, cells := 0, slots := 0, locals := 22 }
set_option maxHeartbeats 4000000 in
set_option maxRecDepth 100000 in
theorem KX7_lay (l : Launch) (D : va_G) (cy : Nat → ClassId) (ad : Nat → Nat) (thr : Int32) (sta : Int32) (pri : Int32) (tcd : Int32) (frt : Int32) (frp : Int32) (deg : Nat → Int32) (num : Nat → Int32) (mad : Nat → Int32) (x1 : Int32) (sz : Nat) {out : Int32 × (Int32) × (Nat → Int32) × (Nat → Int32)} (hf : FX7_lay deg num mad x1 = some out) : Met l yX7_lay wsX7_lay RMX7_lay (PW D cy [.ref (ad 0), .int x1] sz ((wX7_0_4_5_6 cy ad thr sta pri tcd frt frp deg num mad)) []) (QW D (some (.int out.1)) ((wX7_0_4_5_6 cy ad thr out.2.1 pri tcd frt frp out.2.2.1 out.2.2.2 mad)) (va_A ((wX7_0_4_5_6 cy ad thr sta pri tcd frt frp deg num mad)) sz)) 0 0 (va_A ((wX7_0_4_5_6 cy ad thr sta pri tcd frt frp deg num mad)) sz) := by
  refine Met.ofW (cc := cX7_lay) (maxL := 3) (ret := (some .int)) (by decide +kernel) rfl ?_
  intro p e s m args below meth c s₁ B hml hv
  obtain ⟨hav, hsz, hP, hR0, hK, hN, hD0, hsep⟩ := hv
  have hx := B.exec
  have hb := B.bytes
  have hr := B.returns
  have hts := atoms_spec (ws := wsX7_lay) B.pre
  have hown : s.vm.findClass RX7 = some m.cls := findClass_of_methodNamed B.named
  have hlocks := B.notSynchronized
  subst hsz
  have hin_X7 : ∀ w ∈ u_ws RX7 TX7 28, w ∈ wsX7_lay := by decide +kernel
  have hw_0 := hts (.fieldLink RX7 31 "ReturnPointsModel" "number" "[I") (by decide +kernel)
  have hw_1 := hts (.fieldLink RX7 34 "ReturnPointsModel" "made" "[I") (by decide +kernel)
  have hw_2 := hts (.fieldLink RX7 28 "ReturnPointsModel" "degree" "[I") (by decide +kernel)
  have hw_3 := hts (.fieldLink RX7 7 "ReturnPointsModel" "status" "I") (by decide +kernel)
  have hD := hD0.self (sz := s.heap.size)
  have hnA := roA hsep hR0
  generalize hAe : va_A ((wX7_0_4_5_6 cy ad thr sta pri tcd frt frp deg num mad)) s.heap.size = A at hD hnA ⊢
  have hA : ∀ q : Nat, s.heap.size ≤ q → A q := fun q h => by rw [← hAe]; exact Or.inr h
  have hS : va_S A s.heap s.heap [] := va_S.rf
  obtain ⟨ls, hfr, hl⟩ := ent_ok (m := m) (n := 3) (l' := [(0, .ref (ad 0)), (1, .int x1)]) [.ref (ad 0), .int x1] hav (Nat.le_of_ble_eq_true rfl) rfl
  rw [hfr]
  generalize hQe : MQ below (QW D (some (.int out.1)) ((wX7_0_4_5_6 cy ad thr out.2.1 pri tcd frt frp out.2.2.1 out.2.2.2 mad)) A) args s 0 0 A = QQ
  change W p l e RMX7_lay s m args below meth c s.heap [] 0 0 QQ (F0 m 0 ls [])
  have hP : va_P D vwCl ((wX7_0_4_5_6 cy ad thr sta pri tcd frt frp deg num mad)) s.heap := hP
  have hD : va_D A ((wX7_0_4_5_6 cy ad thr sta pri tcd frt frp deg num mad)) := hD
  suffices h00 : ∀ (H : Heap) (locs : List Loc), va_P D vwCl ((wX7_0_4_5_6 cy ad thr sta pri tcd frt frp deg num mad)) H → va_S A s.heap H locs → W p l e RMX7_lay s m args below meth c H locs 0 0 QQ (F0 m 0 ls []) from h00 _ _ hP hS
  clear hP hS
  intro H locs hP hS
  have L14 : ∀ (sta_14 : Int32) (n14 : Nat) (H : Heap) (locs : List Loc) (ls : Array Slot) (x2_14 : Int32) (deg_14 : Nat → Int32) (num_14 : Nat → Int32), FX7_lay_L14 x1 sta_14 mad n14 x2_14 deg_14 num_14 = some out → va_P D vwCl ((wX7_0_4_5_6 cy ad thr sta_14 pri tcd frt frp deg_14 num_14 mad)) H → va_D A ((wX7_0_4_5_6 cy ad thr sta_14 pri tcd frt frp deg_14 num_14 mad)) → va_S A s.heap H locs → lv_has ls 3 [(0, .ref (ad 0)), (1, .int x1), (2, .int x2_14)] → W p l e RMX7_lay s m args below meth c H locs 0 0 QQ (F0 m 14 ls []) := by
    intro sta_14 n14
    induction n14 with
    | zero => intro H locs ls x2_14 deg_14 num_14 hf; simp [FX7_lay_L14] at hf
    | succ n14 ih14 =>
      intro H locs ls x2_14 deg_14 num_14 hf hP hD hS hl
      rw [FX7_lay_L14] at hf
      have J59 : ∀ (H : Heap) (locs : List Loc) (ls : Array Slot) (x2_59 : Int32) (s1_59 : Int32) (s2_59 : Int32) (deg_59 : Nat → Int32) (num_59 : Nat → Int32), FX7_lay_J59 (FX7_lay_L14 x1 sta_14 mad n14) x1 x2_59 s1_59 s2_59 sta_14 deg_59 num_59 mad = some out → va_P D vwCl ((wX7_0_4_5_6 cy ad thr sta_14 pri tcd frt frp deg_59 num_59 mad)) H → va_D A ((wX7_0_4_5_6 cy ad thr sta_14 pri tcd frt frp deg_59 num_59 mad)) → va_S A s.heap H locs → lv_has ls 3 [(0, .ref (ad 0)), (1, .int x1), (2, .int x2_59)] → W p l e RMX7_lay s m args below meth c H locs 0 0 QQ (F0 m 59 ls [.int s2_59, .int s1_59, .ref (ad 4)]) := by
        intro H locs ls x2_59 s1_59 s2_59 deg_59 num_59 hf hP hD hS hl
        unfold FX7_lay_J59 at hf
        replace hf := gi_e hf
        obtain ⟨i_59, hf⟩ := hf
        refine va_iast (a := (ad 4)) hx hb hK hP hD hS 1 0 rfl rfl i_59 dX7_lay_59 (fun H locs hP hD hS => ?_)
        have hP : va_P D vwCl ((wX7_0_4_5_6 cy ad thr sta_14 pri tcd frt frp (upd deg_59 (Int32.toNatClampNeg s1_59) s2_59) num_59 mad)) H := hP
        have hD : va_D A ((wX7_0_4_5_6 cy ad thr sta_14 pri tcd frt frp (upd deg_59 (Int32.toNatClampNeg s1_59) s2_59) num_59 mad)) := hD
        obtain ⟨v_60, e_60⟩ : ∃ y : Int32, y = x2_59 + 1 := ⟨_, rfl⟩
        replace hf := bd_at e_60 hf
        refine lv_iinc (v := v_60) (lv' := [(2, .int v_60), (0, .ref (ad 0)), (1, .int x1)]) hx hb dX7_lay_60 hl (k := 2) rfl (by rw [e_60]; rfl) (by decide) rfl (fun ls hl => ?_)
        clear e_60
        refine lv_goto (tgt := 14) hx hb dX7_lay_63 (by decide) ?_
        exact ih14 H locs ls v_60 (upd deg_59 (Int32.toNatClampNeg s1_59) s2_59) num_59 hf hP hD hS (lv_sub hl [1, 2, 0] rfl)
      refine lv_iload_n hx hb dX7_lay_14 rfl (lv_at hl 2 rfl) ?_
      refine lv_iconst (v := 5) hx hb dX7_lay_15 (by decide) ?_
      refine lv_icmp_ge (tgt := 66) hx hb dX7_lay_16 (by decide) (fun c_16 => ?_) (fun c_16 => ?_)
      · replace hf := it_p c_16 hf
        refine lv_aload_n hx hb dX7_lay_66 rfl (lv_at hl 0 rfl) ?_
        refine lv_iload_n hx hb dX7_lay_67 rfl (lv_at hl 1 rfl) ?_
        replace hf := ob_e hf
        obtain ⟨u_68, hu_68, hf⟩ := hf
        refine ivR (As := [.int x1]) (rest := []) (st1 := [.int u_68]) ⟨hx, hb, hml, hown, hts⟩ hK hN (KX7_kindOf l D cy ad thr sta_14 pri tcd frt frp deg_14 num_14 x1 H.size hu_68) (cwV 1 hts gX7_lay_X7_kindOf rfl rfl rfl (by decide +kernel) ⟨Nat.le_of_ble_eq_true rfl, Nat.le_of_ble_eq_true rfl⟩) (va_recv hK hP (ci := 7) (q0 := 0) rfl rfl) (P_pl (wc := (wX7_0_4_5 cy ad thr sta_14 pri tcd frt frp deg_14 num_14)) (is := [0, 1, 2]) hP rfl) rfl hl.1 rfl (Nat.le_of_ble_eq_true rfl) rfl dX7_lay_68 ⟨Nat.zero_le _, Nat.zero_le _⟩ ?_
        obtain rfl := Option.some.inj hf
        rw [← hQe]
        exact W.iret (v := u_68) hx hb hr (fun t ht hW => ⟨rfl, by rw [ht]; exact hP, hS.F ht⟩) hS.2.2 dX7_lay_71
      · replace hf := it_n c_16 hf
        refine lv_aload_n hx hb dX7_lay_19 rfl (lv_at hl 0 rfl) ?_
        refine va_get (a := (ad 0)) (ci := 7) (v := .ref (ad 5)) (C := RX7) (T := TX7) (N := 28) hx hb hts hin_X7 hown hK hP 0 rfl rfl 7 (by decide) hw_0 (fun _ h => h) rfl dX7_lay_20 ?_
        refine lv_iconst (v := 5) hx hb dX7_lay_23 (by decide) ?_
        refine lv_iload_n hx hb dX7_lay_24 rfl (lv_at hl 1 rfl) ?_
        refine lv_imul hx hb dX7_lay_25 ?_
        refine lv_iload_n hx hb dX7_lay_26 rfl (lv_at hl 2 rfl) ?_
        refine lv_iadd hx hb dX7_lay_27 ?_
        refine lv_aload_n hx hb dX7_lay_28 rfl (lv_at hl 0 rfl) ?_
        refine va_get (a := (ad 0)) (ci := 7) (v := .ref (ad 6)) (C := RX7) (T := TX7) (N := 28) hx hb hts hin_X7 hown hK hP 0 rfl rfl 8 (by decide) hw_1 (fun _ h => h) rfl dX7_lay_29 ?_
        refine lv_iload_n hx hb dX7_lay_32 rfl (lv_at hl 2 rfl) ?_
        replace hf := gi_e hf
        obtain ⟨i_33, hf⟩ := hf
        refine va_iald (a := (ad 6)) hx hb hK hP 3 0 rfl rfl i_33 dX7_lay_33 ?_
        replace hf := gi_e hf
        obtain ⟨i_34, hf⟩ := hf
        refine va_iast (a := (ad 5)) hx hb hK hP hD hS 2 0 rfl rfl i_34 dX7_lay_34 (fun H locs hP hD hS => ?_)
        have hP : va_P D vwCl ((wX7_0_4_5_6 cy ad thr sta_14 pri tcd frt frp deg_14 (upd num_14 (Int32.toNatClampNeg ((5 * x1) + x2_14)) (mad (Int32.toNatClampNeg x2_14))) mad)) H := hP
        have hD : va_D A ((wX7_0_4_5_6 cy ad thr sta_14 pri tcd frt frp deg_14 (upd num_14 (Int32.toNatClampNeg ((5 * x1) + x2_14)) (mad (Int32.toNatClampNeg x2_14))) mad)) := hD
        refine lv_aload_n hx hb dX7_lay_35 rfl (lv_at hl 0 rfl) ?_
        refine va_get (a := (ad 0)) (ci := 7) (v := .ref (ad 4)) (C := RX7) (T := TX7) (N := 28) hx hb hts hin_X7 hown hK hP 0 rfl rfl 6 (by decide) hw_2 (fun _ h => h) rfl dX7_lay_36 ?_
        refine lv_iload_n hx hb dX7_lay_39 rfl (lv_at hl 1 rfl) ?_
        refine lv_aload_n hx hb dX7_lay_40 rfl (lv_at hl 0 rfl) ?_
        refine va_get (a := (ad 0)) (ci := 7) (v := .ref (ad 6)) (C := RX7) (T := TX7) (N := 28) hx hb hts hin_X7 hown hK hP 0 rfl rfl 8 (by decide) hw_1 (fun _ h => h) rfl dX7_lay_41 ?_
        refine lv_iload_n hx hb dX7_lay_44 rfl (lv_at hl 2 rfl) ?_
        replace hf := gi_e hf
        obtain ⟨i_45, hf⟩ := hf
        refine va_iald (a := (ad 6)) hx hb hK hP 3 0 rfl rfl i_45 dX7_lay_45 ?_
        refine lv_if_eq (tgt := 53) hx hb dX7_lay_46 (by decide) (fun c_46 => ?_) (fun c_46 => ?_)
        · replace hf := it_p c_46 hf
          refine lv_aload_n hx hb dX7_lay_53 rfl (lv_at hl 0 rfl) ?_
          refine va_get (a := (ad 0)) (ci := 7) (v := .ref (ad 4)) (C := RX7) (T := TX7) (N := 28) hx hb hts hin_X7 hown hK hP 0 rfl rfl 6 (by decide) hw_2 (fun _ h => h) rfl dX7_lay_54 ?_
          refine lv_iload_n hx hb dX7_lay_57 rfl (lv_at hl 1 rfl) ?_
          replace hf := gi_e hf
          obtain ⟨i_58, hf⟩ := hf
          refine va_iald (a := (ad 4)) hx hb hK hP 1 0 rfl rfl i_58 dX7_lay_58 ?_
          exact J59 H locs ls x2_14 x1 (deg_14 (Int32.toNatClampNeg x1)) deg_14 (upd num_14 (Int32.toNatClampNeg ((5 * x1) + x2_14)) (mad (Int32.toNatClampNeg x2_14))) hf hP hD hS (lv_sub hl [0, 1, 2] rfl)
        · replace hf := it_n c_46 hf
          refine lv_iload_n hx hb dX7_lay_49 rfl (lv_at hl 2 rfl) ?_
          refine lv_goto (tgt := 59) hx hb dX7_lay_50 (by decide) ?_
          exact J59 H locs ls x2_14 x1 x2_14 deg_14 (upd num_14 (Int32.toNatClampNeg ((5 * x1) + x2_14)) (mad (Int32.toNatClampNeg x2_14))) hf hP hD hS (lv_sub hl [0, 1, 2] rfl)
  unfold FX7_lay at hf
  refine lv_aload_n hx hb dX7_lay_0 rfl (lv_at hl 0 rfl) ?_
  refine lv_iconst (v := 0) hx hb dX7_lay_1 (by decide) ?_
  refine va_put (a := (ad 0)) (ci := 7) (v := .int 0) (ty := .int) (C := RX7) (T := TX7) (N := 28) hx hb hts hin_X7 tyX7 tyX7_ok nmX7 hown hK hP hD hS 0 rfl rfl 1 (by decide) hw_3 (fun _ h => h) rfl (by decide +kernel) rfl rfl (Nat.le_of_ble_eq_true rfl) dX7_lay_2 (fun H locs hP hD hS => ?_)
  have hP : va_P D vwCl ((wX7_0_4_5_6 cy ad thr 0 pri tcd frt frp deg num mad)) H := hP
  have hD : va_D A ((wX7_0_4_5_6 cy ad thr 0 pri tcd frt frp deg num mad)) := hD
  refine lv_aload_n hx hb dX7_lay_5 rfl (lv_at hl 0 rfl) ?_
  refine va_get (a := (ad 0)) (ci := 7) (v := .ref (ad 4)) (C := RX7) (T := TX7) (N := 28) hx hb hts hin_X7 hown hK hP 0 rfl rfl 6 (by decide) hw_2 (fun _ h => h) rfl dX7_lay_6 ?_
  refine lv_iload_n hx hb dX7_lay_9 rfl (lv_at hl 1 rfl) ?_
  refine lv_iconst (v := 0) hx hb dX7_lay_10 (by decide) ?_
  replace hf := gi_e hf
  obtain ⟨i_11, hf⟩ := hf
  refine va_iast (a := (ad 4)) hx hb hK hP hD hS 1 0 rfl rfl i_11 dX7_lay_11 (fun H locs hP hD hS => ?_)
  have hP : va_P D vwCl ((wX7_0_4_5_6 cy ad thr 0 pri tcd frt frp (upd deg (Int32.toNatClampNeg x1) 0) num mad)) H := hP
  have hD : va_D A ((wX7_0_4_5_6 cy ad thr 0 pri tcd frt frp (upd deg (Int32.toNatClampNeg x1) 0) num mad)) := hD
  refine lv_iconst (v := 0) hx hb dX7_lay_12 (by decide) ?_
  refine lv_istore_n (lv' := [(2, .int 0), (0, .ref (ad 0)), (1, .int x1)]) hx hb dX7_lay_13 rfl hl (by decide) rfl (fun ls hl => ?_)
  exact L14 0 FU H locs ls 0 (upd deg (Int32.toNatClampNeg x1) 0) num hf hP hD hS (lv_sub hl [1, 2, 0] rfl)
def FX7_map_J71   (thr_71 : Int32) (deg_71 : Nat → Int32) (num_71 : Nat → Int32) (mad_71 : Nat → Int32) : Option (Int32 × (Int32) × (Int32) × (Nat → Int32) × (Nat → Int32) × (Nat → Int32)) := (ob (FX7_found 2) (fun u_73 => some (u_73.1, thr_71, u_73.2, deg_71, num_71, mad_71)))
def FX7_map_J121  (k80 : Int32 → (Nat → Int32) → Option (Int32 × (Int32) × (Int32) × (Nat → Int32) × (Nat → Int32) × (Nat → Int32))) (x1 : Int32) (x2 : Int32) (x3 : Int32) (x4 : Int32) (x5_121 : Int32) (s1_121 : Int32) (s2_121 : Int32) (thr_80 : Int32) (pri : Int32) (itm : Nat → Int64) (deg_80 : Nat → Int32) (num_80 : Nat → Int32) (mad_121 : Nat → Int32) : Option (Int32 × (Int32) × (Int32) × (Nat → Int32) × (Nat → Int32) × (Nat → Int32)) := (gi s1_121 5 (bd (x5_121 + 1) (fun v_122 => k80 v_122 (upd mad_121 (Int32.toNatClampNeg s1_121) s2_121))))
def FX7_map_L80   (x1 : Int32) (x2 : Int32) (x3 : Int32) (x4 : Int32) (thr_80 : Int32) (pri : Int32) (itm : Nat → Int64) (deg_80 : Nat → Int32) (num_80 : Nat → Int32) : Nat → Int32 → (Nat → Int32) → Option (Int32 × (Int32) × (Int32) × (Nat → Int32) × (Nat → Int32) × (Nat → Int32))
  | 0, _, _ => none
  | fuel + 1, x5_80, mad_80 => (if 5 ≤ x5_80 then (ob (FX7_lay deg_80 num_80 mad_80 x1) (fun u_130 => some (u_130.1, thr_80, u_130.2.1, u_130.2.2.1, u_130.2.2.2, mad_80))) else (if x4 ≤ x5_80 then (FX7_map_J121 (FX7_map_L80 x1 x2 x3 x4 thr_80 pri itm deg_80 num_80 fuel) x1 x2 x3 x4 x5_80 x5_80 0 thr_80 pri itm deg_80 num_80 mad_80) else (gi (((40 * x2) + x3) + x5_80) 320 (ob (FX7_modulo pri (itm (Int32.toNatClampNeg (((40 * x2) + x3) + x5_80)))) (fun u_114 => FX7_map_J121 (FX7_map_L80 x1 x2 x3 x4 thr_80 pri itm deg_80 num_80 fuel) x1 x2 x3 x4 x5_80 x5_80 u_114 thr_80 pri itm deg_80 num_80 mad_80)))))
def FX7_map  (sta : Int32) (pri : Int32) (lan : Nat → Int32) (man : Nat → Int32) (itm : Nat → Int64) (deg : Nat → Int32) (num : Nat → Int32) (mad : Nat → Int32) (x1 : Int32) (x2 : Int32) (x3 : Int32) (x4 : Int32) : Option (Int32 × (Int32) × (Int32) × (Nat → Int32) × (Nat → Int32) × (Nat → Int32)) := (ob (FX7_isPlace x1) (fun u_6 => if (bi u_6) = 0 then (some ((-1000001), 0, sta, deg, num, mad)) else (ob (FX7_isSheet x2) (fun u_13 => if (bi u_13) = 0 then (some ((-1000001), 0, sta, deg, num, mad)) else (ob (FX7_in (Int32.toInt64 x4) 1 5) (fun u_26 => if (bi u_26) = 0 then (some ((-1000001), 0, sta, deg, num, mad)) else (gi x2 8 (if 0 ≤ (lan (Int32.toNatClampNeg x2)) then (if x3 < 0 then FX7_map_J71 0 deg num mad else (gi x2 8 (if (lg_cmp ((Int32.toInt64 x3) + (Int32.toInt64 x4)) (Int32.toInt64 (man (Int32.toNatClampNeg x2)))) ≤ 0 then (FX7_map_L80 x1 x2 x3 x4 0 pri itm deg num FU 0 mad) else FX7_map_J71 0 deg num mad))) else (ob (FX7_found 1) (fun u_46 => some (u_46.1, 0, u_46.2, deg, num, mad)))))))))))
abbrev RMX7_map : Room := { frames := 2, cells := 0, slots := 0, locals := 45 }
set_option maxHeartbeats 4000000 in
set_option maxRecDepth 100000 in
theorem KX7_map (l : Launch) (D : va_G) (cy : Nat → ClassId) (ad : Nat → Nat) (thr : Int32) (sta : Int32) (pri : Int32) (tcd : Int32) (frt : Int32) (frp : Int32) (lan : Nat → Int32) (man : Nat → Int32) (itm : Nat → Int64) (deg : Nat → Int32) (num : Nat → Int32) (mad : Nat → Int32) (x1 : Int32) (x2 : Int32) (x3 : Int32) (x4 : Int32) (sz : Nat) {out : Int32 × (Int32) × (Int32) × (Nat → Int32) × (Nat → Int32) × (Nat → Int32)} (hf : FX7_map sta pri lan man itm deg num mad x1 x2 x3 x4 = some out) : Met l yX7_map wsX7_map RMX7_map (PW D cy [.ref (ad 0), .int x1, .int x2, .int x3, .int x4] sz ((wX7_0_1_2_3_4_5_6 cy ad thr sta pri tcd frt frp lan man itm deg num mad)) []) (QW D (some (.int out.1)) ((wX7_0_1_2_3_4_5_6 cy ad out.2.1 out.2.2.1 pri tcd frt frp lan man itm out.2.2.2.1 out.2.2.2.2.1 out.2.2.2.2.2)) (va_A ((wX7_0_1_2_3_4_5_6 cy ad thr sta pri tcd frt frp lan man itm deg num mad)) sz)) 0 0 (va_A ((wX7_0_1_2_3_4_5_6 cy ad thr sta pri tcd frt frp lan man itm deg num mad)) sz) := by
  refine Met.ofW (cc := cX7_map) (maxL := 6) (ret := (some .int)) (by decide +kernel) rfl ?_
  intro p e s m args below meth c s₁ B hml hv
  obtain ⟨hav, hsz, hP, hR0, hK, hN, hD0, hsep⟩ := hv
  have hx := B.exec
  have hb := B.bytes
  have hr := B.returns
  have hts := atoms_spec (ws := wsX7_map) B.pre
  have hown : s.vm.findClass RX7 = some m.cls := findClass_of_methodNamed B.named
  have hlocks := B.notSynchronized
  subst hsz
  have hin_X7 : ∀ w ∈ u_ws RX7 TX7 28, w ∈ wsX7_map := by decide +kernel
  have hw_0 := hts (.constant RX7 108 (-1000001)) (by decide +kernel)
  have hw_1 := hts (.constantLong RX7 123 (5)) (by decide +kernel)
  have hw_2 := hts (.fieldLink RX7 34 "ReturnPointsModel" "made" "[I") (by decide +kernel)
  have hw_3 := hts (.fieldLink RX7 24 "ReturnPointsModel" "item" "[J") (by decide +kernel)
  have hw_4 := hts (.fieldLink RX7 1 "ReturnPointsModel" "thrown" "I") (by decide +kernel)
  have hw_5 := hts (.fieldLink RX7 17 "ReturnPointsModel" "lane" "[I") (by decide +kernel)
  have hw_6 := hts (.fieldLink RX7 21 "ReturnPointsModel" "many" "[I") (by decide +kernel)
  have hD := hD0.self (sz := s.heap.size)
  have hnA := roA hsep hR0
  generalize hAe : va_A ((wX7_0_1_2_3_4_5_6 cy ad thr sta pri tcd frt frp lan man itm deg num mad)) s.heap.size = A at hD hnA ⊢
  have hA : ∀ q : Nat, s.heap.size ≤ q → A q := fun q h => by rw [← hAe]; exact Or.inr h
  have hS : va_S A s.heap s.heap [] := va_S.rf
  obtain ⟨ls, hfr, hl⟩ := ent_ok (m := m) (n := 6) (l' := [(0, .ref (ad 0)), (1, .int x1), (2, .int x2), (3, .int x3), (4, .int x4)]) [.ref (ad 0), .int x1, .int x2, .int x3, .int x4] hav (Nat.le_of_ble_eq_true rfl) rfl
  rw [hfr]
  generalize hQe : MQ below (QW D (some (.int out.1)) ((wX7_0_1_2_3_4_5_6 cy ad out.2.1 out.2.2.1 pri tcd frt frp lan man itm out.2.2.2.1 out.2.2.2.2.1 out.2.2.2.2.2)) A) args s 0 0 A = QQ
  change W p l e RMX7_map s m args below meth c s.heap [] 0 0 QQ (F0 m 0 ls [])
  have hP : va_P D vwCl ((wX7_0_1_2_3_4_5_6 cy ad thr sta pri tcd frt frp lan man itm deg num mad)) s.heap := hP
  have hD : va_D A ((wX7_0_1_2_3_4_5_6 cy ad thr sta pri tcd frt frp lan man itm deg num mad)) := hD
  suffices h00 : ∀ (H : Heap) (locs : List Loc), va_P D vwCl ((wX7_0_1_2_3_4_5_6 cy ad thr sta pri tcd frt frp lan man itm deg num mad)) H → va_S A s.heap H locs → W p l e RMX7_map s m args below meth c H locs 0 0 QQ (F0 m 0 ls []) from h00 _ _ hP hS
  clear hP hS
  intro H locs hP hS
  have J71 : ∀ (H : Heap) (locs : List Loc) (ls : Array Slot) (thr_71 : Int32) (sta_71 : Int32) (deg_71 : Nat → Int32) (num_71 : Nat → Int32) (mad_71 : Nat → Int32), FX7_map_J71 thr_71 deg_71 num_71 mad_71 = some out → va_P D vwCl ((wX7_0_1_2_3_4_5_6 cy ad thr_71 sta_71 pri tcd frt frp lan man itm deg_71 num_71 mad_71)) H → va_D A ((wX7_0_1_2_3_4_5_6 cy ad thr_71 sta_71 pri tcd frt frp lan man itm deg_71 num_71 mad_71)) → va_S A s.heap H locs → lv_has ls 6 [(0, .ref (ad 0))] → W p l e RMX7_map s m args below meth c H locs 0 0 QQ (F0 m 71 ls []) := by
    intro H locs ls thr_71 sta_71 deg_71 num_71 mad_71 hf hP hD hS hl
    unfold FX7_map_J71 at hf
    refine lv_aload_n hx hb dX7_map_71 rfl (lv_at hl 0 rfl) ?_
    refine lv_iconst (v := 2) hx hb dX7_map_72 (by decide) ?_
    replace hf := ob_e hf
    obtain ⟨u_73, hu_73, hf⟩ := hf
    refine ivW (As := [.int 2]) (rest := []) (st1 := [.int u_73.1]) (is := [0]) (w1 := (wX7_0 cy ad thr_71 u_73.2 pri tcd frt frp)) ⟨hx, hb, hml, hown, hts⟩ hK hN (KX7_found l D cy ad thr_71 sta_71 pri tcd frt frp 2 H.size hu_73) (cwV 1 hts gX7_map_X7_found rfl rfl rfl (by decide +kernel) ⟨Nat.le_of_ble_eq_true rfl, Nat.le_of_ble_eq_true rfl⟩) (va_recv hK hP (ci := 7) (q0 := 0) rfl rfl) hP hD hS hA P_nil (sepW_nil _) (by decide) rfl rfl rfl hl.1 rfl (Nat.le_of_ble_eq_true rfl) rfl dX7_map_73 ⟨Nat.zero_le _, Nat.zero_le _⟩ (fun H locs hP hD hS => ?_)
    have hP : va_P D vwCl ((wX7_0_1_2_3_4_5_6 cy ad thr_71 u_73.2 pri tcd frt frp lan man itm deg_71 num_71 mad_71)) H := hP
    have hD : va_D A ((wX7_0_1_2_3_4_5_6 cy ad thr_71 u_73.2 pri tcd frt frp lan man itm deg_71 num_71 mad_71)) := hD
    obtain rfl := Option.some.inj hf
    rw [← hQe]
    exact W.iret (v := u_73.1) hx hb hr (fun t ht hW => ⟨rfl, by rw [ht]; exact hP, hS.F ht⟩) hS.2.2 dX7_map_76
  have L80 : ∀ (thr_80 : Int32) (sta_80 : Int32) (deg_80 : Nat → Int32) (num_80 : Nat → Int32) (n80 : Nat) (H : Heap) (locs : List Loc) (ls : Array Slot) (x5_80 : Int32) (mad_80 : Nat → Int32), FX7_map_L80 x1 x2 x3 x4 thr_80 pri itm deg_80 num_80 n80 x5_80 mad_80 = some out → va_P D vwCl ((wX7_0_1_2_3_4_5_6 cy ad thr_80 sta_80 pri tcd frt frp lan man itm deg_80 num_80 mad_80)) H → va_D A ((wX7_0_1_2_3_4_5_6 cy ad thr_80 sta_80 pri tcd frt frp lan man itm deg_80 num_80 mad_80)) → va_S A s.heap H locs → lv_has ls 6 [(0, .ref (ad 0)), (1, .int x1), (2, .int x2), (3, .int x3), (4, .int x4), (5, .int x5_80)] → W p l e RMX7_map s m args below meth c H locs 0 0 QQ (F0 m 80 ls []) := by
    intro thr_80 sta_80 deg_80 num_80 n80
    induction n80 with
    | zero => intro H locs ls x5_80 mad_80 hf; simp [FX7_map_L80] at hf
    | succ n80 ih80 =>
      intro H locs ls x5_80 mad_80 hf hP hD hS hl
      rw [FX7_map_L80] at hf
      have J121 : ∀ (H : Heap) (locs : List Loc) (ls : Array Slot) (x5_121 : Int32) (s1_121 : Int32) (s2_121 : Int32) (mad_121 : Nat → Int32), FX7_map_J121 (FX7_map_L80 x1 x2 x3 x4 thr_80 pri itm deg_80 num_80 n80) x1 x2 x3 x4 x5_121 s1_121 s2_121 thr_80 pri itm deg_80 num_80 mad_121 = some out → va_P D vwCl ((wX7_0_1_2_3_4_5_6 cy ad thr_80 sta_80 pri tcd frt frp lan man itm deg_80 num_80 mad_121)) H → va_D A ((wX7_0_1_2_3_4_5_6 cy ad thr_80 sta_80 pri tcd frt frp lan man itm deg_80 num_80 mad_121)) → va_S A s.heap H locs → lv_has ls 6 [(0, .ref (ad 0)), (1, .int x1), (2, .int x2), (3, .int x3), (4, .int x4), (5, .int x5_121)] → W p l e RMX7_map s m args below meth c H locs 0 0 QQ (F0 m 121 ls [.int s2_121, .int s1_121, .ref (ad 6)]) := by
        intro H locs ls x5_121 s1_121 s2_121 mad_121 hf hP hD hS hl
        unfold FX7_map_J121 at hf
        replace hf := gi_e hf
        obtain ⟨i_121, hf⟩ := hf
        refine va_iast (a := (ad 6)) hx hb hK hP hD hS 6 0 rfl rfl i_121 dX7_map_121 (fun H locs hP hD hS => ?_)
        have hP : va_P D vwCl ((wX7_0_1_2_3_4_5_6 cy ad thr_80 sta_80 pri tcd frt frp lan man itm deg_80 num_80 (upd mad_121 (Int32.toNatClampNeg s1_121) s2_121))) H := hP
        have hD : va_D A ((wX7_0_1_2_3_4_5_6 cy ad thr_80 sta_80 pri tcd frt frp lan man itm deg_80 num_80 (upd mad_121 (Int32.toNatClampNeg s1_121) s2_121))) := hD
        obtain ⟨v_122, e_122⟩ : ∃ y : Int32, y = x5_121 + 1 := ⟨_, rfl⟩
        replace hf := bd_at e_122 hf
        refine lv_iinc (v := v_122) (lv' := [(5, .int v_122), (0, .ref (ad 0)), (1, .int x1), (2, .int x2), (3, .int x3), (4, .int x4)]) hx hb dX7_map_122 hl (k := 5) rfl (by rw [e_122]; rfl) (by decide) rfl (fun ls hl => ?_)
        clear e_122
        refine lv_goto (tgt := 80) hx hb dX7_map_125 (by decide) ?_
        exact ih80 H locs ls v_122 (upd mad_121 (Int32.toNatClampNeg s1_121) s2_121) hf hP hD hS (lv_sub hl [1, 2, 3, 4, 5, 0] rfl)
      refine lv_iload hx hb dX7_map_80 (lv_at hl 5 rfl) ?_
      refine lv_iconst (v := 5) hx hb dX7_map_82 (by decide) ?_
      refine lv_icmp_ge (tgt := 128) hx hb dX7_map_83 (by decide) (fun c_83 => ?_) (fun c_83 => ?_)
      · replace hf := it_p c_83 hf
        refine lv_aload_n hx hb dX7_map_128 rfl (lv_at hl 0 rfl) ?_
        refine lv_iload_n hx hb dX7_map_129 rfl (lv_at hl 1 rfl) ?_
        replace hf := ob_e hf
        obtain ⟨u_130, hu_130, hf⟩ := hf
        refine ivW (As := [.int x1]) (rest := []) (st1 := [.int u_130.1]) (is := [0, 4, 5, 6]) (w1 := (wX7_0_4_5_6 cy ad thr_80 u_130.2.1 pri tcd frt frp u_130.2.2.1 u_130.2.2.2 mad_80)) ⟨hx, hb, hml, hown, hts⟩ hK hN (KX7_lay l D cy ad thr_80 sta_80 pri tcd frt frp deg_80 num_80 mad_80 x1 H.size hu_130) (cwV 1 hts gX7_map_X7_lay rfl rfl rfl (by decide +kernel) ⟨Nat.le_of_ble_eq_true rfl, Nat.le_of_ble_eq_true rfl⟩) (va_recv hK hP (ci := 7) (q0 := 0) rfl rfl) hP hD hS hA P_nil (sepW_nil _) (by decide) rfl rfl rfl hl.1 rfl (Nat.le_of_ble_eq_true rfl) rfl dX7_map_130 ⟨Nat.zero_le _, Nat.zero_le _⟩ (fun H locs hP hD hS => ?_)
        have hP : va_P D vwCl ((wX7_0_1_2_3_4_5_6 cy ad thr_80 u_130.2.1 pri tcd frt frp lan man itm u_130.2.2.1 u_130.2.2.2 mad_80)) H := hP
        have hD : va_D A ((wX7_0_1_2_3_4_5_6 cy ad thr_80 u_130.2.1 pri tcd frt frp lan man itm u_130.2.2.1 u_130.2.2.2 mad_80)) := hD
        obtain rfl := Option.some.inj hf
        rw [← hQe]
        exact W.iret (v := u_130.1) hx hb hr (fun t ht hW => ⟨rfl, by rw [ht]; exact hP, hS.F ht⟩) hS.2.2 dX7_map_133
      · replace hf := it_n c_83 hf
        refine lv_aload_n hx hb dX7_map_86 rfl (lv_at hl 0 rfl) ?_
        refine va_get (a := (ad 0)) (ci := 7) (v := .ref (ad 6)) (C := RX7) (T := TX7) (N := 28) hx hb hts hin_X7 hown hK hP 0 rfl rfl 8 (by decide) hw_2 (fun _ h => h) rfl dX7_map_87 ?_
        refine lv_iload hx hb dX7_map_90 (lv_at hl 5 rfl) ?_
        refine lv_iload hx hb dX7_map_92 (lv_at hl 5 rfl) ?_
        refine lv_iload hx hb dX7_map_94 (lv_at hl 4 rfl) ?_
        refine lv_icmp_ge (tgt := 120) hx hb dX7_map_96 (by decide) (fun c_96 => ?_) (fun c_96 => ?_)
        · replace hf := it_p c_96 hf
          refine lv_iconst (v := 0) hx hb dX7_map_120 (by decide) ?_
          exact J121 H locs ls x5_80 x5_80 0 mad_80 hf hP hD hS (lv_sub hl [0, 1, 2, 3, 4, 5] rfl)
        · replace hf := it_n c_96 hf
          refine lv_aload_n hx hb dX7_map_99 rfl (lv_at hl 0 rfl) ?_
          refine lv_aload_n hx hb dX7_map_100 rfl (lv_at hl 0 rfl) ?_
          refine va_get (a := (ad 0)) (ci := 7) (v := .ref (ad 3)) (C := RX7) (T := TX7) (N := 28) hx hb hts hin_X7 hown hK hP 0 rfl rfl 5 (by decide) hw_3 (fun _ h => h) rfl dX7_map_101 ?_
          refine lv_bipush (v := 40) hx hb dX7_map_104 (by decide) ?_
          refine lv_iload_n hx hb dX7_map_106 rfl (lv_at hl 2 rfl) ?_
          refine lv_imul hx hb dX7_map_107 ?_
          refine lv_iload_n hx hb dX7_map_108 rfl (lv_at hl 3 rfl) ?_
          refine lv_iadd hx hb dX7_map_109 ?_
          refine lv_iload hx hb dX7_map_110 (lv_at hl 5 rfl) ?_
          refine lv_iadd hx hb dX7_map_112 ?_
          replace hf := gi_e hf
          obtain ⟨i_113, hf⟩ := hf
          refine va_lald (a := (ad 3)) hx hb hK hP 3 1 rfl rfl i_113 dX7_map_113 ?_
          replace hf := ob_e hf
          obtain ⟨u_114, hu_114, hf⟩ := hf
          refine ivR (As := [.long (itm (Int32.toNatClampNeg (((40 * x2) + x3) + x5_80)))]) (rest := [.int x5_80, .ref (ad 6)]) (st1 := [.int u_114, .int x5_80, .ref (ad 6)]) ⟨hx, hb, hml, hown, hts⟩ hK hN (KX7_modulo l D cy ad thr_80 sta_80 pri tcd frt frp (itm (Int32.toNatClampNeg (((40 * x2) + x3) + x5_80))) H.size hu_114) (cwV 1 hts gX7_map_X7_modulo rfl rfl rfl (by decide +kernel) ⟨Nat.le_of_ble_eq_true rfl, Nat.le_of_ble_eq_true rfl⟩) (va_recv hK hP (ci := 7) (q0 := 0) rfl rfl) (P_pl (wc := (wX7_0 cy ad thr_80 sta_80 pri tcd frt frp)) (is := [0]) hP rfl) rfl hl.1 rfl (Nat.le_of_ble_eq_true rfl) rfl dX7_map_114 ⟨Nat.zero_le _, Nat.zero_le _⟩ ?_
          refine lv_goto (tgt := 121) hx hb dX7_map_117 (by decide) ?_
          exact J121 H locs ls x5_80 x5_80 u_114 mad_80 hf hP hD hS (lv_sub hl [0, 1, 2, 3, 4, 5] rfl)
  unfold FX7_map at hf
  refine lv_aload_n hx hb dX7_map_0 rfl (lv_at hl 0 rfl) ?_
  refine lv_iconst (v := 0) hx hb dX7_map_1 (by decide) ?_
  refine va_put (a := (ad 0)) (ci := 7) (v := .int 0) (ty := .int) (C := RX7) (T := TX7) (N := 28) hx hb hts hin_X7 tyX7 tyX7_ok nmX7 hown hK hP hD hS 0 rfl rfl 0 (by decide) hw_4 (fun _ h => h) rfl (by decide +kernel) rfl rfl (Nat.le_of_ble_eq_true rfl) dX7_map_2 (fun H locs hP hD hS => ?_)
  have hP : va_P D vwCl ((wX7_0_1_2_3_4_5_6 cy ad 0 sta pri tcd frt frp lan man itm deg num mad)) H := hP
  have hD : va_D A ((wX7_0_1_2_3_4_5_6 cy ad 0 sta pri tcd frt frp lan man itm deg num mad)) := hD
  refine lv_iload_n hx hb dX7_map_5 rfl (lv_at hl 1 rfl) ?_
  replace hf := ob_e hf
  obtain ⟨u_6, hu_6, hf⟩ := hf
  refine isR (As := [.int x1]) (rest := []) (st1 := [.int (bi u_6)]) ⟨hx, hb, hml, hown, hts⟩ hK hN (KX7_isPlace l D cy x1 H.size hu_6) (va_cwS 1 hts gX7_map_X7_isPlace rfl rfl rfl (by decide +kernel) ⟨Nat.le_of_ble_eq_true rfl, Nat.le_of_ble_eq_true rfl⟩) P_nil rfl hl.1 rfl (Nat.le_of_ble_eq_true rfl) rfl dX7_map_6 ⟨Nat.zero_le _, Nat.zero_le _⟩ ?_
  refine lv_if_eq (tgt := 32) hx hb dX7_map_9 (by decide) (fun c_9 => ?_) (fun c_9 => ?_)
  · replace hf := it_p c_9 hf
    refine lv_ldc (own := RX7) (v := (-1000001)) hx hb hown hw_0 dX7_map_32 ?_
    obtain rfl := Option.some.inj hf
    rw [← hQe]
    exact W.iret (v := (-1000001)) hx hb hr (fun t ht hW => ⟨rfl, by rw [ht]; exact hP, hS.F ht⟩) hS.2.2 dX7_map_34
  · replace hf := it_n c_9 hf
    refine lv_iload_n hx hb dX7_map_12 rfl (lv_at hl 2 rfl) ?_
    replace hf := ob_e hf
    obtain ⟨u_13, hu_13, hf⟩ := hf
    refine isR (As := [.int x2]) (rest := []) (st1 := [.int (bi u_13)]) ⟨hx, hb, hml, hown, hts⟩ hK hN (KX7_isSheet l D cy x2 H.size hu_13) (va_cwS 1 hts gX7_map_X7_isSheet rfl rfl rfl (by decide +kernel) ⟨Nat.le_of_ble_eq_true rfl, Nat.le_of_ble_eq_true rfl⟩) P_nil rfl hl.1 rfl (Nat.le_of_ble_eq_true rfl) rfl dX7_map_13 ⟨Nat.zero_le _, Nat.zero_le _⟩ ?_
    refine lv_if_eq (tgt := 32) hx hb dX7_map_16 (by decide) (fun c_16 => ?_) (fun c_16 => ?_)
    · replace hf := it_p c_16 hf
      refine lv_ldc (own := RX7) (v := (-1000001)) hx hb hown hw_0 dX7_map_32 ?_
      obtain rfl := Option.some.inj hf
      rw [← hQe]
      exact W.iret (v := (-1000001)) hx hb hr (fun t ht hW => ⟨rfl, by rw [ht]; exact hP, hS.F ht⟩) hS.2.2 dX7_map_34
    · replace hf := it_n c_16 hf
      refine lv_iload hx hb dX7_map_19 (lv_at hl 4 rfl) ?_
      refine lv_i2l hx hb dX7_map_21 rfl ?_
      refine lv_lconst (v := 1) hx hb dX7_map_22 (by decide) ?_
      refine lv_ldc2 (own := RX7) (v := 5) hx hb hown hw_1 dX7_map_23 ?_
      replace hf := ob_e hf
      obtain ⟨u_26, hu_26, hf⟩ := hf
      refine isR (As := [.long (Int32.toInt64 x4), .long 1, .long 5]) (rest := []) (st1 := [.int (bi u_26)]) ⟨hx, hb, hml, hown, hts⟩ hK hN (KX7_in l D cy (Int32.toInt64 x4) 1 5 H.size hu_26) (va_cwS 3 hts gX7_map_X7_in rfl rfl rfl (by decide +kernel) ⟨Nat.le_of_ble_eq_true rfl, Nat.le_of_ble_eq_true rfl⟩) P_nil rfl hl.1 rfl (Nat.le_of_ble_eq_true rfl) rfl dX7_map_26 ⟨Nat.zero_le _, Nat.zero_le _⟩ ?_
      refine lv_if_ne (tgt := 35) hx hb dX7_map_29 (by decide) (fun c_29 => ?_) (fun c_29 => ?_)
      · replace hf := it_n c_29 hf
        refine lv_aload_n hx hb dX7_map_35 rfl (lv_at hl 0 rfl) ?_
        refine va_get (a := (ad 0)) (ci := 7) (v := .ref (ad 1)) (C := RX7) (T := TX7) (N := 28) hx hb hts hin_X7 hown hK hP 0 rfl rfl 3 (by decide) hw_5 (fun _ h => h) rfl dX7_map_36 ?_
        refine lv_iload_n hx hb dX7_map_39 rfl (lv_at hl 2 rfl) ?_
        replace hf := gi_e hf
        obtain ⟨i_40, hf⟩ := hf
        refine va_iald (a := (ad 1)) hx hb hK hP 1 0 rfl rfl i_40 dX7_map_40 ?_
        refine lv_if_ge (tgt := 50) hx hb dX7_map_41 (by decide) (fun c_41 => ?_) (fun c_41 => ?_)
        · replace hf := it_p c_41 hf
          refine lv_iload_n hx hb dX7_map_50 rfl (lv_at hl 3 rfl) ?_
          refine lv_if_lt (tgt := 71) hx hb dX7_map_51 (by decide) (fun c_51 => ?_) (fun c_51 => ?_)
          · replace hf := it_p c_51 hf
            exact J71 H locs ls 0 sta deg num mad hf hP hD hS (lv_sub hl [0] rfl)
          · replace hf := it_n c_51 hf
            refine lv_iload_n hx hb dX7_map_54 rfl (lv_at hl 3 rfl) ?_
            refine lv_i2l hx hb dX7_map_55 rfl ?_
            refine lv_iload hx hb dX7_map_56 (lv_at hl 4 rfl) ?_
            refine lv_i2l hx hb dX7_map_58 rfl ?_
            refine lv_ladd hx hb dX7_map_59 ?_
            refine lv_aload_n hx hb dX7_map_60 rfl (lv_at hl 0 rfl) ?_
            refine va_get (a := (ad 0)) (ci := 7) (v := .ref (ad 2)) (C := RX7) (T := TX7) (N := 28) hx hb hts hin_X7 hown hK hP 0 rfl rfl 4 (by decide) hw_6 (fun _ h => h) rfl dX7_map_61 ?_
            refine lv_iload_n hx hb dX7_map_64 rfl (lv_at hl 2 rfl) ?_
            replace hf := gi_e hf
            obtain ⟨i_65, hf⟩ := hf
            refine va_iald (a := (ad 2)) hx hb hK hP 2 0 rfl rfl i_65 dX7_map_65 ?_
            refine lv_i2l hx hb dX7_map_66 rfl ?_
            refine W.lcmp hx hb dX7_map_67 ?_
            refine lv_if_le (tgt := 77) hx hb dX7_map_68 (by decide) (fun c_68 => ?_) (fun c_68 => ?_)
            · replace hf := it_p c_68 hf
              refine lv_iconst (v := 0) hx hb dX7_map_77 (by decide) ?_
              refine lv_istore (lv' := [(5, .int 0), (0, .ref (ad 0)), (1, .int x1), (2, .int x2), (3, .int x3), (4, .int x4)]) hx hb dX7_map_78 hl (by decide) rfl (fun ls hl => ?_)
              exact L80 0 sta deg num FU H locs ls 0 mad hf hP hD hS (lv_sub hl [1, 2, 3, 4, 5, 0] rfl)
            · replace hf := it_n c_68 hf
              exact J71 H locs ls 0 sta deg num mad hf hP hD hS (lv_sub hl [0] rfl)
        · replace hf := it_n c_41 hf
          refine lv_aload_n hx hb dX7_map_44 rfl (lv_at hl 0 rfl) ?_
          refine lv_iconst (v := 1) hx hb dX7_map_45 (by decide) ?_
          replace hf := ob_e hf
          obtain ⟨u_46, hu_46, hf⟩ := hf
          refine ivW (As := [.int 1]) (rest := []) (st1 := [.int u_46.1]) (is := [0]) (w1 := (wX7_0 cy ad 0 u_46.2 pri tcd frt frp)) ⟨hx, hb, hml, hown, hts⟩ hK hN (KX7_found l D cy ad 0 sta pri tcd frt frp 1 H.size hu_46) (cwV 1 hts gX7_map_X7_found rfl rfl rfl (by decide +kernel) ⟨Nat.le_of_ble_eq_true rfl, Nat.le_of_ble_eq_true rfl⟩) (va_recv hK hP (ci := 7) (q0 := 0) rfl rfl) hP hD hS hA P_nil (sepW_nil _) (by decide) rfl rfl rfl hl.1 rfl (Nat.le_of_ble_eq_true rfl) rfl dX7_map_46 ⟨Nat.zero_le _, Nat.zero_le _⟩ (fun H locs hP hD hS => ?_)
          have hP : va_P D vwCl ((wX7_0_1_2_3_4_5_6 cy ad 0 u_46.2 pri tcd frt frp lan man itm deg num mad)) H := hP
          have hD : va_D A ((wX7_0_1_2_3_4_5_6 cy ad 0 u_46.2 pri tcd frt frp lan man itm deg num mad)) := hD
          obtain rfl := Option.some.inj hf
          rw [← hQe]
          exact W.iret (v := u_46.1) hx hb hr (fun t ht hW => ⟨rfl, by rw [ht]; exact hP, hS.F ht⟩) hS.2.2 dX7_map_49
      · replace hf := it_p c_29 hf
        refine lv_ldc (own := RX7) (v := (-1000001)) hx hb hown hw_0 dX7_map_32 ?_
        obtain rfl := Option.some.inj hf
        rw [← hQe]
        exact W.iret (v := (-1000001)) hx hb hr (fun t ht hW => ⟨rfl, by rw [ht]; exact hP, hS.F ht⟩) hS.2.2 dX7_map_34
def FX7_plain_J50  (k17 : Int32 → (Nat → Int32) → Option (Int32 × (Int32) × (Int32) × (Nat → Int32) × (Nat → Int32) × (Nat → Int32))) (x1 : Int32) (x2 : Int32) (x3_50 : Int32) (s1_50 : Int32) (s2_50 : Int32) (thr_17 : Int32) (pri : Int32) (deg_17 : Nat → Int32) (num_17 : Nat → Int32) (mad_50 : Nat → Int32) : Option (Int32 × (Int32) × (Int32) × (Nat → Int32) × (Nat → Int32) × (Nat → Int32)) := (gi s1_50 5 (bd (x3_50 + 1) (fun v_51 => k17 v_51 (upd mad_50 (Int32.toNatClampNeg s1_50) s2_50))))
def FX7_plain_L17   (x1 : Int32) (x2 : Int32) (thr_17 : Int32) (pri : Int32) (deg_17 : Nat → Int32) (num_17 : Nat → Int32) : Nat → Int32 → (Nat → Int32) → Option (Int32 × (Int32) × (Int32) × (Nat → Int32) × (Nat → Int32) × (Nat → Int32))
  | 0, _, _ => none
  | fuel + 1, x3_17, mad_17 => (if 5 ≤ x3_17 then (ob (FX7_lay deg_17 num_17 mad_17 x1) (fun u_59 => some (u_59.1, thr_17, u_59.2.1, u_59.2.2.1, u_59.2.2.2, mad_17))) else (if x3_17 = 0 then (ob (FX7_modulo pri (Int32.toInt64 x2)) (fun u_34 => FX7_plain_J50 (FX7_plain_L17 x1 x2 thr_17 pri deg_17 num_17 fuel) x1 x2 x3_17 x3_17 u_34 thr_17 pri deg_17 num_17 mad_17)) else (if x3_17 = 2 then (FX7_plain_J50 (FX7_plain_L17 x1 x2 thr_17 pri deg_17 num_17 fuel) x1 x2 x3_17 x3_17 1 thr_17 pri deg_17 num_17 mad_17) else (FX7_plain_J50 (FX7_plain_L17 x1 x2 thr_17 pri deg_17 num_17 fuel) x1 x2 x3_17 x3_17 0 thr_17 pri deg_17 num_17 mad_17))))
def FX7_plain  (sta : Int32) (pri : Int32) (deg : Nat → Int32) (num : Nat → Int32) (mad : Nat → Int32) (x1 : Int32) (x2 : Int32) : Option (Int32 × (Int32) × (Int32) × (Nat → Int32) × (Nat → Int32) × (Nat → Int32)) := (ob (FX7_isPlace x1) (fun u_6 => if (bi u_6) = 0 then (some ((-1000001), 0, sta, deg, num, mad)) else (FX7_plain_L17 x1 x2 0 pri deg num FU 0 mad)))
abbrev RMX7_plain : Room := { frames := 2, cells := 0, slots := 0, locals := 45 }
set_option maxHeartbeats 4000000 in
set_option maxRecDepth 100000 in
theorem KX7_plain (l : Launch) (D : va_G) (cy : Nat → ClassId) (ad : Nat → Nat) (thr : Int32) (sta : Int32) (pri : Int32) (tcd : Int32) (frt : Int32) (frp : Int32) (deg : Nat → Int32) (num : Nat → Int32) (mad : Nat → Int32) (x1 : Int32) (x2 : Int32) (sz : Nat) {out : Int32 × (Int32) × (Int32) × (Nat → Int32) × (Nat → Int32) × (Nat → Int32)} (hf : FX7_plain sta pri deg num mad x1 x2 = some out) : Met l yX7_plain wsX7_plain RMX7_plain (PW D cy [.ref (ad 0), .int x1, .int x2] sz ((wX7_0_4_5_6 cy ad thr sta pri tcd frt frp deg num mad)) []) (QW D (some (.int out.1)) ((wX7_0_4_5_6 cy ad out.2.1 out.2.2.1 pri tcd frt frp out.2.2.2.1 out.2.2.2.2.1 out.2.2.2.2.2)) (va_A ((wX7_0_4_5_6 cy ad thr sta pri tcd frt frp deg num mad)) sz)) 0 0 (va_A ((wX7_0_4_5_6 cy ad thr sta pri tcd frt frp deg num mad)) sz) := by
  refine Met.ofW (cc := cX7_plain) (maxL := 4) (ret := (some .int)) (by decide +kernel) rfl ?_
  intro p e s m args below meth c s₁ B hml hv
  obtain ⟨hav, hsz, hP, hR0, hK, hN, hD0, hsep⟩ := hv
  have hx := B.exec
  have hb := B.bytes
  have hr := B.returns
  have hts := atoms_spec (ws := wsX7_plain) B.pre
  have hown : s.vm.findClass RX7 = some m.cls := findClass_of_methodNamed B.named
  have hlocks := B.notSynchronized
  subst hsz
  have hin_X7 : ∀ w ∈ u_ws RX7 TX7 28, w ∈ wsX7_plain := by decide +kernel
  have hw_0 := hts (.constant RX7 108 (-1000001)) (by decide +kernel)
  have hw_1 := hts (.fieldLink RX7 34 "ReturnPointsModel" "made" "[I") (by decide +kernel)
  have hw_2 := hts (.fieldLink RX7 1 "ReturnPointsModel" "thrown" "I") (by decide +kernel)
  have hD := hD0.self (sz := s.heap.size)
  have hnA := roA hsep hR0
  generalize hAe : va_A ((wX7_0_4_5_6 cy ad thr sta pri tcd frt frp deg num mad)) s.heap.size = A at hD hnA ⊢
  have hA : ∀ q : Nat, s.heap.size ≤ q → A q := fun q h => by rw [← hAe]; exact Or.inr h
  have hS : va_S A s.heap s.heap [] := va_S.rf
  obtain ⟨ls, hfr, hl⟩ := ent_ok (m := m) (n := 4) (l' := [(0, .ref (ad 0)), (1, .int x1), (2, .int x2)]) [.ref (ad 0), .int x1, .int x2] hav (Nat.le_of_ble_eq_true rfl) rfl
  rw [hfr]
  generalize hQe : MQ below (QW D (some (.int out.1)) ((wX7_0_4_5_6 cy ad out.2.1 out.2.2.1 pri tcd frt frp out.2.2.2.1 out.2.2.2.2.1 out.2.2.2.2.2)) A) args s 0 0 A = QQ
  change W p l e RMX7_plain s m args below meth c s.heap [] 0 0 QQ (F0 m 0 ls [])
  have hP : va_P D vwCl ((wX7_0_4_5_6 cy ad thr sta pri tcd frt frp deg num mad)) s.heap := hP
  have hD : va_D A ((wX7_0_4_5_6 cy ad thr sta pri tcd frt frp deg num mad)) := hD
  suffices h00 : ∀ (H : Heap) (locs : List Loc), va_P D vwCl ((wX7_0_4_5_6 cy ad thr sta pri tcd frt frp deg num mad)) H → va_S A s.heap H locs → W p l e RMX7_plain s m args below meth c H locs 0 0 QQ (F0 m 0 ls []) from h00 _ _ hP hS
  clear hP hS
  intro H locs hP hS
  have L17 : ∀ (thr_17 : Int32) (sta_17 : Int32) (deg_17 : Nat → Int32) (num_17 : Nat → Int32) (n17 : Nat) (H : Heap) (locs : List Loc) (ls : Array Slot) (x3_17 : Int32) (mad_17 : Nat → Int32), FX7_plain_L17 x1 x2 thr_17 pri deg_17 num_17 n17 x3_17 mad_17 = some out → va_P D vwCl ((wX7_0_4_5_6 cy ad thr_17 sta_17 pri tcd frt frp deg_17 num_17 mad_17)) H → va_D A ((wX7_0_4_5_6 cy ad thr_17 sta_17 pri tcd frt frp deg_17 num_17 mad_17)) → va_S A s.heap H locs → lv_has ls 4 [(0, .ref (ad 0)), (1, .int x1), (2, .int x2), (3, .int x3_17)] → W p l e RMX7_plain s m args below meth c H locs 0 0 QQ (F0 m 17 ls []) := by
    intro thr_17 sta_17 deg_17 num_17 n17
    induction n17 with
    | zero => intro H locs ls x3_17 mad_17 hf; simp [FX7_plain_L17] at hf
    | succ n17 ih17 =>
      intro H locs ls x3_17 mad_17 hf hP hD hS hl
      rw [FX7_plain_L17] at hf
      have J50 : ∀ (H : Heap) (locs : List Loc) (ls : Array Slot) (x3_50 : Int32) (s1_50 : Int32) (s2_50 : Int32) (mad_50 : Nat → Int32), FX7_plain_J50 (FX7_plain_L17 x1 x2 thr_17 pri deg_17 num_17 n17) x1 x2 x3_50 s1_50 s2_50 thr_17 pri deg_17 num_17 mad_50 = some out → va_P D vwCl ((wX7_0_4_5_6 cy ad thr_17 sta_17 pri tcd frt frp deg_17 num_17 mad_50)) H → va_D A ((wX7_0_4_5_6 cy ad thr_17 sta_17 pri tcd frt frp deg_17 num_17 mad_50)) → va_S A s.heap H locs → lv_has ls 4 [(0, .ref (ad 0)), (1, .int x1), (2, .int x2), (3, .int x3_50)] → W p l e RMX7_plain s m args below meth c H locs 0 0 QQ (F0 m 50 ls [.int s2_50, .int s1_50, .ref (ad 6)]) := by
        intro H locs ls x3_50 s1_50 s2_50 mad_50 hf hP hD hS hl
        unfold FX7_plain_J50 at hf
        replace hf := gi_e hf
        obtain ⟨i_50, hf⟩ := hf
        refine va_iast (a := (ad 6)) hx hb hK hP hD hS 3 0 rfl rfl i_50 dX7_plain_50 (fun H locs hP hD hS => ?_)
        have hP : va_P D vwCl ((wX7_0_4_5_6 cy ad thr_17 sta_17 pri tcd frt frp deg_17 num_17 (upd mad_50 (Int32.toNatClampNeg s1_50) s2_50))) H := hP
        have hD : va_D A ((wX7_0_4_5_6 cy ad thr_17 sta_17 pri tcd frt frp deg_17 num_17 (upd mad_50 (Int32.toNatClampNeg s1_50) s2_50))) := hD
        obtain ⟨v_51, e_51⟩ : ∃ y : Int32, y = x3_50 + 1 := ⟨_, rfl⟩
        replace hf := bd_at e_51 hf
        refine lv_iinc (v := v_51) (lv' := [(3, .int v_51), (0, .ref (ad 0)), (1, .int x1), (2, .int x2)]) hx hb dX7_plain_51 hl (k := 3) rfl (by rw [e_51]; rfl) (by decide) rfl (fun ls hl => ?_)
        clear e_51
        refine lv_goto (tgt := 17) hx hb dX7_plain_54 (by decide) ?_
        exact ih17 H locs ls v_51 (upd mad_50 (Int32.toNatClampNeg s1_50) s2_50) hf hP hD hS (lv_sub hl [1, 2, 3, 0] rfl)
      refine lv_iload_n hx hb dX7_plain_17 rfl (lv_at hl 3 rfl) ?_
      refine lv_iconst (v := 5) hx hb dX7_plain_18 (by decide) ?_
      refine lv_icmp_ge (tgt := 57) hx hb dX7_plain_19 (by decide) (fun c_19 => ?_) (fun c_19 => ?_)
      · replace hf := it_p c_19 hf
        refine lv_aload_n hx hb dX7_plain_57 rfl (lv_at hl 0 rfl) ?_
        refine lv_iload_n hx hb dX7_plain_58 rfl (lv_at hl 1 rfl) ?_
        replace hf := ob_e hf
        obtain ⟨u_59, hu_59, hf⟩ := hf
        refine ivW (As := [.int x1]) (rest := []) (st1 := [.int u_59.1]) (is := [0, 1, 2, 3]) (w1 := (wX7_0_4_5_6 cy ad thr_17 u_59.2.1 pri tcd frt frp u_59.2.2.1 u_59.2.2.2 mad_17)) ⟨hx, hb, hml, hown, hts⟩ hK hN (KX7_lay l D cy ad thr_17 sta_17 pri tcd frt frp deg_17 num_17 mad_17 x1 H.size hu_59) (cwV 1 hts gX7_plain_X7_lay rfl rfl rfl (by decide +kernel) ⟨Nat.le_of_ble_eq_true rfl, Nat.le_of_ble_eq_true rfl⟩) (va_recv hK hP (ci := 7) (q0 := 0) rfl rfl) hP hD hS hA P_nil (sepW_nil _) (by decide) rfl rfl rfl hl.1 rfl (Nat.le_of_ble_eq_true rfl) rfl dX7_plain_59 ⟨Nat.zero_le _, Nat.zero_le _⟩ (fun H locs hP hD hS => ?_)
        have hP : va_P D vwCl ((wX7_0_4_5_6 cy ad thr_17 u_59.2.1 pri tcd frt frp u_59.2.2.1 u_59.2.2.2 mad_17)) H := hP
        have hD : va_D A ((wX7_0_4_5_6 cy ad thr_17 u_59.2.1 pri tcd frt frp u_59.2.2.1 u_59.2.2.2 mad_17)) := hD
        obtain rfl := Option.some.inj hf
        rw [← hQe]
        exact W.iret (v := u_59.1) hx hb hr (fun t ht hW => ⟨rfl, by rw [ht]; exact hP, hS.F ht⟩) hS.2.2 dX7_plain_62
      · replace hf := it_n c_19 hf
        refine lv_aload_n hx hb dX7_plain_22 rfl (lv_at hl 0 rfl) ?_
        refine va_get (a := (ad 0)) (ci := 7) (v := .ref (ad 6)) (C := RX7) (T := TX7) (N := 28) hx hb hts hin_X7 hown hK hP 0 rfl rfl 8 (by decide) hw_1 (fun _ h => h) rfl dX7_plain_23 ?_
        refine lv_iload_n hx hb dX7_plain_26 rfl (lv_at hl 3 rfl) ?_
        refine lv_iload_n hx hb dX7_plain_27 rfl (lv_at hl 3 rfl) ?_
        refine lv_if_ne (tgt := 40) hx hb dX7_plain_28 (by decide) (fun c_28 => ?_) (fun c_28 => ?_)
        · replace hf := it_n c_28 hf
          refine lv_iload_n hx hb dX7_plain_40 rfl (lv_at hl 3 rfl) ?_
          refine lv_iconst (v := 2) hx hb dX7_plain_41 (by decide) ?_
          refine lv_icmp_ne (tgt := 49) hx hb dX7_plain_42 (by decide) (fun c_42 => ?_) (fun c_42 => ?_)
          · replace hf := it_n c_42 hf
            refine lv_iconst (v := 0) hx hb dX7_plain_49 (by decide) ?_
            exact J50 H locs ls x3_17 x3_17 0 mad_17 hf hP hD hS (lv_sub hl [0, 1, 2, 3] rfl)
          · replace hf := it_p c_42 hf
            refine lv_iconst (v := 1) hx hb dX7_plain_45 (by decide) ?_
            refine lv_goto (tgt := 50) hx hb dX7_plain_46 (by decide) ?_
            exact J50 H locs ls x3_17 x3_17 1 mad_17 hf hP hD hS (lv_sub hl [0, 1, 2, 3] rfl)
        · replace hf := it_p c_28 hf
          refine lv_aload_n hx hb dX7_plain_31 rfl (lv_at hl 0 rfl) ?_
          refine lv_iload_n hx hb dX7_plain_32 rfl (lv_at hl 2 rfl) ?_
          refine lv_i2l hx hb dX7_plain_33 rfl ?_
          replace hf := ob_e hf
          obtain ⟨u_34, hu_34, hf⟩ := hf
          refine ivR (As := [.long (Int32.toInt64 x2)]) (rest := [.int x3_17, .ref (ad 6)]) (st1 := [.int u_34, .int x3_17, .ref (ad 6)]) ⟨hx, hb, hml, hown, hts⟩ hK hN (KX7_modulo l D cy ad thr_17 sta_17 pri tcd frt frp (Int32.toInt64 x2) H.size hu_34) (cwV 1 hts gX7_plain_X7_modulo rfl rfl rfl (by decide +kernel) ⟨Nat.le_of_ble_eq_true rfl, Nat.le_of_ble_eq_true rfl⟩) (va_recv hK hP (ci := 7) (q0 := 0) rfl rfl) (P_pl (wc := (wX7_0 cy ad thr_17 sta_17 pri tcd frt frp)) (is := [0]) hP rfl) rfl hl.1 rfl (Nat.le_of_ble_eq_true rfl) rfl dX7_plain_34 ⟨Nat.zero_le _, Nat.zero_le _⟩ ?_
          refine lv_goto (tgt := 50) hx hb dX7_plain_37 (by decide) ?_
          exact J50 H locs ls x3_17 x3_17 u_34 mad_17 hf hP hD hS (lv_sub hl [0, 1, 2, 3] rfl)
  unfold FX7_plain at hf
  refine lv_aload_n hx hb dX7_plain_0 rfl (lv_at hl 0 rfl) ?_
  refine lv_iconst (v := 0) hx hb dX7_plain_1 (by decide) ?_
  refine va_put (a := (ad 0)) (ci := 7) (v := .int 0) (ty := .int) (C := RX7) (T := TX7) (N := 28) hx hb hts hin_X7 tyX7 tyX7_ok nmX7 hown hK hP hD hS 0 rfl rfl 0 (by decide) hw_2 (fun _ h => h) rfl (by decide +kernel) rfl rfl (Nat.le_of_ble_eq_true rfl) dX7_plain_2 (fun H locs hP hD hS => ?_)
  have hP : va_P D vwCl ((wX7_0_4_5_6 cy ad 0 sta pri tcd frt frp deg num mad)) H := hP
  have hD : va_D A ((wX7_0_4_5_6 cy ad 0 sta pri tcd frt frp deg num mad)) := hD
  refine lv_iload_n hx hb dX7_plain_5 rfl (lv_at hl 1 rfl) ?_
  replace hf := ob_e hf
  obtain ⟨u_6, hu_6, hf⟩ := hf
  refine isR (As := [.int x1]) (rest := []) (st1 := [.int (bi u_6)]) ⟨hx, hb, hml, hown, hts⟩ hK hN (KX7_isPlace l D cy x1 H.size hu_6) (va_cwS 1 hts gX7_plain_X7_isPlace rfl rfl rfl (by decide +kernel) ⟨Nat.le_of_ble_eq_true rfl, Nat.le_of_ble_eq_true rfl⟩) P_nil rfl hl.1 rfl (Nat.le_of_ble_eq_true rfl) rfl dX7_plain_6 ⟨Nat.zero_le _, Nat.zero_le _⟩ ?_
  refine lv_if_ne (tgt := 15) hx hb dX7_plain_9 (by decide) (fun c_9 => ?_) (fun c_9 => ?_)
  · replace hf := it_n c_9 hf
    refine lv_iconst (v := 0) hx hb dX7_plain_15 (by decide) ?_
    refine lv_istore_n (lv' := [(3, .int 0), (0, .ref (ad 0)), (1, .int x1), (2, .int x2)]) hx hb dX7_plain_16 rfl hl (by decide) rfl (fun ls hl => ?_)
    exact L17 0 sta deg num FU H locs ls 0 mad hf hP hD hS (lv_sub hl [1, 2, 3, 0] rfl)
  · replace hf := it_p c_9 hf
    refine lv_ldc (own := RX7) (v := (-1000001)) hx hb hown hw_0 dX7_plain_12 ?_
    obtain rfl := Option.some.inj hf
    rw [← hQe]
    exact W.iret (v := (-1000001)) hx hb hr (fun t ht hW => ⟨rfl, by rw [ht]; exact hP, hS.F ht⟩) hS.2.2 dX7_plain_14
def FX7_inverse_L4   (x1 : Int32) (pri : Int32) : Nat → Int32 → Int32 → Option (Int32)
  | 0, _, _ => none
  | fuel + 1, x2_4, x3_4 => (if (pri - 2) ≤ x3_4 then (some (x2_4)) else (gd (¬ pri = 0) (bd (irm (x2_4 * x1) pri) (fun v_22 => bd (x3_4 + 1) (fun v_23 => (FX7_inverse_L4 x1 pri fuel) v_22 v_23)))))
def FX7_inverse  (pri : Int32) (x1 : Int32) : Option (Int32) := (FX7_inverse_L4 x1 pri FU 1 0)
abbrev RMX7_inverse : Room := { frames := 0, cells := 0, slots := 0, locals := 0 }
set_option maxHeartbeats 4000000 in
set_option maxRecDepth 100000 in
theorem KX7_inverse (l : Launch) (D : va_G) (cy : Nat → ClassId) (ad : Nat → Nat) (thr : Int32) (sta : Int32) (pri : Int32) (tcd : Int32) (frt : Int32) (frp : Int32) (x1 : Int32) (sz : Nat) {out : Int32} (hf : FX7_inverse pri x1 = some out) : Met l yX7_inverse wsX7_inverse RMX7_inverse (PW D cy [.ref (ad 0), .int x1] sz [] ((wX7_0 cy ad thr sta pri tcd frt frp))) (QR (some (.int out))) 0 0 no_A := by
  refine Met.ofW (cc := cX7_inverse) (maxL := 4) (ret := (some .int)) (by decide +kernel) rfl ?_
  intro p e s m args below meth c s₁ B hml hv
  obtain ⟨hav, hsz, hP, hR0, hK, hN, hD0, hsep⟩ := hv
  have hx := B.exec
  have hb := B.bytes
  have hr := B.returns
  have hts := atoms_spec (ws := wsX7_inverse) B.pre
  have hown : s.vm.findClass RX7 = some m.cls := findClass_of_methodNamed B.named
  have hlocks := B.notSynchronized
  subst hsz
  have hin_X7 : ∀ w ∈ u_ws RX7 TX7 28, w ∈ wsX7_inverse := by decide +kernel
  have hw_0 := hts (.fieldLink RX7 98 "ReturnPointsModel" "prime" "I") (by decide +kernel)
  obtain ⟨ls, hfr, hl⟩ := ent_ok (m := m) (n := 4) (l' := [(0, .ref (ad 0)), (1, .int x1)]) [.ref (ad 0), .int x1] hav (Nat.le_of_ble_eq_true rfl) rfl
  rw [hfr]
  generalize hQe : MQ below (QR (some (.int out))) args s 0 0 no_A = QQ
  change W p l e RMX7_inverse s m args below meth c s.heap [] 0 0 QQ (F0 m 0 ls [])
  have L4 : ∀  (n4 : Nat) (ls : Array Slot) (x2_4 : Int32) (x3_4 : Int32), FX7_inverse_L4 x1 pri n4 x2_4 x3_4 = some out → lv_has ls 4 [(0, .ref (ad 0)), (1, .int x1), (2, .int x2_4), (3, .int x3_4)] → W p l e RMX7_inverse s m args below meth c s.heap [] 0 0 QQ (F0 m 4 ls []) := by
    intro  n4
    induction n4 with
    | zero => intro ls x2_4 x3_4 hf; simp [FX7_inverse_L4] at hf
    | succ n4 ih4 =>
      intro ls x2_4 x3_4 hf hl
      rw [FX7_inverse_L4] at hf
      refine lv_iload_n hx hb dX7_inverse_4 rfl (lv_at hl 3 rfl) ?_
      refine lv_aload_n hx hb dX7_inverse_5 rfl (lv_at hl 0 rfl) ?_
      refine va_get (a := (ad 0)) (ci := 7) (v := .int pri) (C := RX7) (T := TX7) (N := 28) hx hb hts hin_X7 hown hK hR0 0 rfl rfl 2 (by decide) hw_0 (fun _ h => h) rfl dX7_inverse_6 ?_
      refine lv_iconst (v := 2) hx hb dX7_inverse_9 (by decide) ?_
      refine lv_isub hx hb dX7_inverse_10 ?_
      refine lv_icmp_ge (tgt := 29) hx hb dX7_inverse_11 (by decide) (fun c_11 => ?_) (fun c_11 => ?_)
      · replace hf := it_p c_11 hf
        refine lv_iload_n hx hb dX7_inverse_29 rfl (lv_at hl 2 rfl) ?_
        obtain rfl := Option.some.inj hf
        rw [← hQe]
        exact W.iret (v := x2_4) hx hb hr (fun t ht hW => ⟨rfl, ht⟩) (fun q h => by cases h) dX7_inverse_30
      · replace hf := it_n c_11 hf
        refine lv_iload_n hx hb dX7_inverse_14 rfl (lv_at hl 2 rfl) ?_
        refine lv_iload_n hx hb dX7_inverse_15 rfl (lv_at hl 1 rfl) ?_
        refine lv_imul hx hb dX7_inverse_16 ?_
        refine lv_aload_n hx hb dX7_inverse_17 rfl (lv_at hl 0 rfl) ?_
        refine va_get (a := (ad 0)) (ci := 7) (v := .int pri) (C := RX7) (T := TX7) (N := 28) hx hb hts hin_X7 hown hK hR0 0 rfl rfl 2 (by decide) hw_0 (fun _ h => h) rfl dX7_inverse_18 ?_
        replace hf := gd_e hf
        obtain ⟨z_21, hf⟩ := hf
        refine rw_irem hx hb dX7_inverse_21 z_21 ?_
        refine lv_topi (fun v_22 e_22 => ?_)
        replace hf := bd_at e_22 hf
        clear e_22
        refine lv_istore_n (lv' := [(2, .int v_22), (0, .ref (ad 0)), (1, .int x1), (3, .int x3_4)]) hx hb dX7_inverse_22 rfl hl (by decide) rfl (fun ls hl => ?_)
        obtain ⟨v_23, e_23⟩ : ∃ y : Int32, y = x3_4 + 1 := ⟨_, rfl⟩
        replace hf := bd_at e_23 hf
        refine lv_iinc (v := v_23) (lv' := [(3, .int v_23), (2, .int v_22), (0, .ref (ad 0)), (1, .int x1)]) hx hb dX7_inverse_23 hl (k := 3) rfl (by rw [e_23]; rfl) (by decide) rfl (fun ls hl => ?_)
        clear e_23
        refine lv_goto (tgt := 4) hx hb dX7_inverse_26 (by decide) ?_
        exact ih4 ls v_22 v_23 hf (lv_sub hl [2, 3, 1, 0] rfl)
  unfold FX7_inverse at hf
  refine lv_iconst (v := 1) hx hb dX7_inverse_0 (by decide) ?_
  refine lv_istore_n (lv' := [(2, .int 1), (0, .ref (ad 0)), (1, .int x1)]) hx hb dX7_inverse_1 rfl hl (by decide) rfl (fun ls hl => ?_)
  refine lv_iconst (v := 0) hx hb dX7_inverse_2 (by decide) ?_
  refine lv_istore_n (lv' := [(3, .int 0), (2, .int 1), (0, .ref (ad 0)), (1, .int x1)]) hx hb dX7_inverse_3 rfl hl (by decide) rfl (fun ls hl => ?_)
  exact L4 FU ls 1 0 hf (lv_sub hl [2, 3, 1, 0] rfl)
def FX7_mix_J155  (k27 : Int32 → (Nat → Int32) → (Nat → Int32) → Option ((Nat → Int32) × (Nat → Int32))) (k121 : Int32 → (Nat → Int32) → Option ((Nat → Int32) × (Nat → Int32))) (x1 : Int32) (x2_121 : Int32) (x3_155 : Int32) (s1_155 : Int32) (s2_155 : Int32) (s3_155 : Int32) (pri : Int32) (num : Nat → Int32) (mad_155 : Nat → Int32) (inn : Nat → Int32) (lon_121 : Nat → Int32) : Option ((Nat → Int32) × (Nat → Int32)) := (gd (¬ pri = 0) (gi s1_155 5 (bd (x3_155 + 1) (fun v_162 => k121 v_162 (upd mad_155 (Int32.toNatClampNeg s1_155) (irm (s2_155 + s3_155) pri))))))
def FX7_mix_L121  (k27 : Int32 → (Nat → Int32) → (Nat → Int32) → Option ((Nat → Int32) × (Nat → Int32))) (x1 : Int32) (x2_121 : Int32) (pri : Int32) (num : Nat → Int32) (inn : Nat → Int32) (lon_121 : Nat → Int32) : Nat → Int32 → (Nat → Int32) → Option ((Nat → Int32) × (Nat → Int32))
  | 0, _, _ => none
  | fuel + 1, x3_121, mad_121 => (if 5 ≤ x3_121 then (bd (x2_121 + (-1)) (fun v_168 => k27 v_168 mad_121 lon_121)) else (gi x3_121 5 (if x3_121 = 0 then (gi ((5 * x1) + x2_121) 50 (FX7_mix_J155 k27 (FX7_mix_L121 k27 x1 x2_121 pri num inn lon_121 fuel) x1 x2_121 x3_121 x3_121 (lon_121 (Int32.toNatClampNeg x3_121)) (num (Int32.toNatClampNeg ((5 * x1) + x2_121))) pri num mad_121 inn lon_121)) else (FX7_mix_J155 k27 (FX7_mix_L121 k27 x1 x2_121 pri num inn lon_121 fuel) x1 x2_121 x3_121 x3_121 (lon_121 (Int32.toNatClampNeg x3_121)) 0 pri num mad_121 inn lon_121))))
def FX7_mix_L61  (k27 : Int32 → (Nat → Int32) → (Nat → Int32) → Option ((Nat → Int32) × (Nat → Int32))) (k53 : Int32 → (Nat → Int32) → Option ((Nat → Int32) × (Nat → Int32))) (x1 : Int32) (x2_53 : Int32) (x3_61 : Int32) (pri : Int32) (num : Nat → Int32) (mad_53 : Nat → Int32) (inn : Nat → Int32) : Nat → Int32 → (Nat → Int32) → Option ((Nat → Int32) × (Nat → Int32))
  | 0, _, _ => none
  | fuel + 1, x4_61, lon_61 => (if 5 ≤ (x3_61 + x4_61) then (bd (x3_61 + 1) (fun v_113 => k53 v_113 lon_61)) else (gi (x3_61 + x4_61) 5 (gi x3_61 5 (gi x4_61 5 (gd (¬ pri = 0) (gi (x3_61 + x4_61) 5 (bd (x4_61 + 1) (fun v_107 => (FX7_mix_L61 k27 k53 x1 x2_53 x3_61 pri num mad_53 inn fuel) v_107 (upd lon_61 (Int32.toNatClampNeg (x3_61 + x4_61)) (irm ((lon_61 (Int32.toNatClampNeg (x3_61 + x4_61))) + ((mad_53 (Int32.toNatClampNeg x3_61)) * (inn (Int32.toNatClampNeg x4_61)))) pri))))))))))
def FX7_mix_L53  (k27 : Int32 → (Nat → Int32) → (Nat → Int32) → Option ((Nat → Int32) × (Nat → Int32))) (x1 : Int32) (x2_53 : Int32) (pri : Int32) (num : Nat → Int32) (mad_53 : Nat → Int32) (inn : Nat → Int32) : Nat → Int32 → (Nat → Int32) → Option ((Nat → Int32) × (Nat → Int32))
  | 0, _, _ => none
  | fuel + 1, x3_53, lon_53 => (if 5 ≤ x3_53 then (FX7_mix_L121 k27 x1 x2_53 pri num inn lon_53 FU 0 mad_53) else (FX7_mix_L61 k27 (FX7_mix_L53 k27 x1 x2_53 pri num mad_53 inn fuel) x1 x2_53 x3_53 pri num mad_53 inn FU 0 lon_53))
def FX7_mix_L33  (k27 : Int32 → (Nat → Int32) → (Nat → Int32) → Option ((Nat → Int32) × (Nat → Int32))) (x1 : Int32) (x2_33 : Int32) (pri : Int32) (num : Nat → Int32) (mad_33 : Nat → Int32) (inn : Nat → Int32) : Nat → Int32 → (Nat → Int32) → Option ((Nat → Int32) × (Nat → Int32))
  | 0, _, _ => none
  | fuel + 1, x3_33, lon_33 => (if 5 ≤ x3_33 then (FX7_mix_L53 k27 x1 x2_33 pri num mad_33 inn FU 0 lon_33) else (gi x3_33 5 (bd (x3_33 + 1) (fun v_45 => (FX7_mix_L33 k27 x1 x2_33 pri num mad_33 inn fuel) v_45 (upd lon_33 (Int32.toNatClampNeg x3_33) 0)))))
def FX7_mix_L27   (x1 : Int32) (pri : Int32) (num : Nat → Int32) (inn : Nat → Int32) : Nat → Int32 → (Nat → Int32) → (Nat → Int32) → Option ((Nat → Int32) × (Nat → Int32))
  | 0, _, _, _ => none
  | fuel + 1, x2_27, mad_27, lon_27 => (if x2_27 < 0 then (some (mad_27, lon_27)) else (FX7_mix_L33 (FX7_mix_L27 x1 pri num inn fuel) x1 x2_27 pri num mad_27 inn FU 0 lon_27))
def FX7_mix_L2   (x1 : Int32) (pri : Int32) (deg : Nat → Int32) (num : Nat → Int32) (inn : Nat → Int32) (lon_2 : Nat → Int32) : Nat → Int32 → (Nat → Int32) → Option ((Nat → Int32) × (Nat → Int32))
  | 0, _, _ => none
  | fuel + 1, x2_2, mad_2 => (if 5 ≤ x2_2 then (gi x1 10 (bd (deg (Int32.toNatClampNeg x1)) (fun v_26 => FX7_mix_L27 x1 pri num inn FU v_26 mad_2 lon_2))) else (gi x2_2 5 (bd (x2_2 + 1) (fun v_14 => (FX7_mix_L2 x1 pri deg num inn lon_2 fuel) v_14 (upd mad_2 (Int32.toNatClampNeg x2_2) 0)))))
def FX7_mix  (pri : Int32) (deg : Nat → Int32) (num : Nat → Int32) (mad : Nat → Int32) (inn : Nat → Int32) (lon : Nat → Int32) (x1 : Int32) : Option ((Nat → Int32) × (Nat → Int32)) := (FX7_mix_L2 x1 pri deg num inn lon FU 0 mad)
abbrev RMX7_mix : Room := { frames := 0, cells := 0, slots := 0, locals := 0 }
set_option maxHeartbeats 4000000 in
set_option maxRecDepth 100000 in
theorem KX7_mix (l : Launch) (D : va_G) (cy : Nat → ClassId) (ad : Nat → Nat) (thr : Int32) (sta : Int32) (pri : Int32) (tcd : Int32) (frt : Int32) (frp : Int32) (deg : Nat → Int32) (num : Nat → Int32) (mad : Nat → Int32) (inn : Nat → Int32) (lon : Nat → Int32) (x1 : Int32) (sz : Nat) {out : (Nat → Int32) × (Nat → Int32)} (hf : FX7_mix pri deg num mad inn lon x1 = some out) : Met l yX7_mix wsX7_mix RMX7_mix (PW D cy [.ref (ad 0), .int x1] sz ((wX7_0_4_5_6_7_8 cy ad thr sta pri tcd frt frp deg num mad inn lon)) []) (QW D none ((wX7_0_4_5_6_7_8 cy ad thr sta pri tcd frt frp deg num out.1 inn out.2)) (va_A ((wX7_0_4_5_6_7_8 cy ad thr sta pri tcd frt frp deg num mad inn lon)) sz)) 0 0 (va_A ((wX7_0_4_5_6_7_8 cy ad thr sta pri tcd frt frp deg num mad inn lon)) sz) := by
  refine Met.ofW (cc := cX7_mix) (maxL := 5) (ret := none) (by decide +kernel) rfl ?_
  intro p e s m args below meth c s₁ B hml hv
  obtain ⟨hav, hsz, hP, hR0, hK, hN, hD0, hsep⟩ := hv
  have hx := B.exec
  have hb := B.bytes
  have hr := B.returns
  have hts := atoms_spec (ws := wsX7_mix) B.pre
  have hown : s.vm.findClass RX7 = some m.cls := findClass_of_methodNamed B.named
  have hlocks := B.notSynchronized
  subst hsz
  have hin_X7 : ∀ w ∈ u_ws RX7 TX7 28, w ∈ wsX7_mix := by decide +kernel
  have hw_0 := hts (.fieldLink RX7 98 "ReturnPointsModel" "prime" "I") (by decide +kernel)
  have hw_1 := hts (.fieldLink RX7 34 "ReturnPointsModel" "made" "[I") (by decide +kernel)
  have hw_2 := hts (.fieldLink RX7 40 "ReturnPointsModel" "longer" "[I") (by decide +kernel)
  have hw_3 := hts (.fieldLink RX7 31 "ReturnPointsModel" "number" "[I") (by decide +kernel)
  have hw_4 := hts (.fieldLink RX7 37 "ReturnPointsModel" "inner" "[I") (by decide +kernel)
  have hw_5 := hts (.fieldLink RX7 28 "ReturnPointsModel" "degree" "[I") (by decide +kernel)
  have hD := hD0.self (sz := s.heap.size)
  have hnA := roA hsep hR0
  generalize hAe : va_A ((wX7_0_4_5_6_7_8 cy ad thr sta pri tcd frt frp deg num mad inn lon)) s.heap.size = A at hD hnA ⊢
  have hA : ∀ q : Nat, s.heap.size ≤ q → A q := fun q h => by rw [← hAe]; exact Or.inr h
  have hS : va_S A s.heap s.heap [] := va_S.rf
  obtain ⟨ls, hfr, hl⟩ := ent_ok (m := m) (n := 5) (l' := [(0, .ref (ad 0)), (1, .int x1)]) [.ref (ad 0), .int x1] hav (Nat.le_of_ble_eq_true rfl) rfl
  rw [hfr]
  generalize hQe : MQ below (QW D none ((wX7_0_4_5_6_7_8 cy ad thr sta pri tcd frt frp deg num out.1 inn out.2)) A) args s 0 0 A = QQ
  change W p l e RMX7_mix s m args below meth c s.heap [] 0 0 QQ (F0 m 0 ls [])
  have hP : va_P D vwCl ((wX7_0_4_5_6_7_8 cy ad thr sta pri tcd frt frp deg num mad inn lon)) s.heap := hP
  have hD : va_D A ((wX7_0_4_5_6_7_8 cy ad thr sta pri tcd frt frp deg num mad inn lon)) := hD
  suffices h00 : ∀ (H : Heap) (locs : List Loc), va_P D vwCl ((wX7_0_4_5_6_7_8 cy ad thr sta pri tcd frt frp deg num mad inn lon)) H → va_S A s.heap H locs → W p l e RMX7_mix s m args below meth c H locs 0 0 QQ (F0 m 0 ls []) from h00 _ _ hP hS
  clear hP hS
  intro H locs hP hS
  have L27 : ∀  (n27 : Nat) (H : Heap) (locs : List Loc) (ls : Array Slot) (x2_27 : Int32) (mad_27 : Nat → Int32) (lon_27 : Nat → Int32), FX7_mix_L27 x1 pri num inn n27 x2_27 mad_27 lon_27 = some out → va_P D vwCl ((wX7_0_4_5_6_7_8 cy ad thr sta pri tcd frt frp deg num mad_27 inn lon_27)) H → va_D A ((wX7_0_4_5_6_7_8 cy ad thr sta pri tcd frt frp deg num mad_27 inn lon_27)) → va_S A s.heap H locs → lv_has ls 5 [(0, .ref (ad 0)), (1, .int x1), (2, .int x2_27)] → W p l e RMX7_mix s m args below meth c H locs 0 0 QQ (F0 m 27 ls []) := by
    intro  n27
    induction n27 with
    | zero => intro H locs ls x2_27 mad_27 lon_27 hf; simp [FX7_mix_L27] at hf
    | succ n27 ih27 =>
      intro H locs ls x2_27 mad_27 lon_27 hf hP hD hS hl
      rw [FX7_mix_L27] at hf
      have L121 : ∀ (x2_121 : Int32) (lon_121 : Nat → Int32) (n121 : Nat) (H : Heap) (locs : List Loc) (ls : Array Slot) (x3_121 : Int32) (mad_121 : Nat → Int32), FX7_mix_L121 (FX7_mix_L27 x1 pri num inn n27) x1 x2_121 pri num inn lon_121 n121 x3_121 mad_121 = some out → va_P D vwCl ((wX7_0_4_5_6_7_8 cy ad thr sta pri tcd frt frp deg num mad_121 inn lon_121)) H → va_D A ((wX7_0_4_5_6_7_8 cy ad thr sta pri tcd frt frp deg num mad_121 inn lon_121)) → va_S A s.heap H locs → lv_has ls 5 [(0, .ref (ad 0)), (1, .int x1), (2, .int x2_121), (3, .int x3_121)] → W p l e RMX7_mix s m args below meth c H locs 0 0 QQ (F0 m 121 ls []) := by
        intro x2_121 lon_121 n121
        induction n121 with
        | zero => intro H locs ls x3_121 mad_121 hf; simp [FX7_mix_L121] at hf
        | succ n121 ih121 =>
          intro H locs ls x3_121 mad_121 hf hP hD hS hl
          rw [FX7_mix_L121] at hf
          have J155 : ∀ (H : Heap) (locs : List Loc) (ls : Array Slot) (x3_155 : Int32) (s1_155 : Int32) (s2_155 : Int32) (s3_155 : Int32) (mad_155 : Nat → Int32), FX7_mix_J155 (FX7_mix_L27 x1 pri num inn n27) (FX7_mix_L121 (FX7_mix_L27 x1 pri num inn n27) x1 x2_121 pri num inn lon_121 n121) x1 x2_121 x3_155 s1_155 s2_155 s3_155 pri num mad_155 inn lon_121 = some out → va_P D vwCl ((wX7_0_4_5_6_7_8 cy ad thr sta pri tcd frt frp deg num mad_155 inn lon_121)) H → va_D A ((wX7_0_4_5_6_7_8 cy ad thr sta pri tcd frt frp deg num mad_155 inn lon_121)) → va_S A s.heap H locs → lv_has ls 5 [(0, .ref (ad 0)), (1, .int x1), (2, .int x2_121), (3, .int x3_155)] → W p l e RMX7_mix s m args below meth c H locs 0 0 QQ (F0 m 155 ls [.int s3_155, .int s2_155, .int s1_155, .ref (ad 6)]) := by
            intro H locs ls x3_155 s1_155 s2_155 s3_155 mad_155 hf hP hD hS hl
            unfold FX7_mix_J155 at hf
            refine lv_iadd hx hb dX7_mix_155 ?_
            refine lv_aload_n hx hb dX7_mix_156 rfl (lv_at hl 0 rfl) ?_
            refine va_get (a := (ad 0)) (ci := 7) (v := .int pri) (C := RX7) (T := TX7) (N := 28) hx hb hts hin_X7 hown hK hP 0 rfl rfl 2 (by decide) hw_0 (fun _ h => h) rfl dX7_mix_157 ?_
            replace hf := gd_e hf
            obtain ⟨z_160, hf⟩ := hf
            refine rw_irem hx hb dX7_mix_160 z_160 ?_
            replace hf := gi_e hf
            obtain ⟨i_161, hf⟩ := hf
            refine va_iast (a := (ad 6)) hx hb hK hP hD hS 3 0 rfl rfl i_161 dX7_mix_161 (fun H locs hP hD hS => ?_)
            have hP : va_P D vwCl ((wX7_0_4_5_6_7_8 cy ad thr sta pri tcd frt frp deg num (upd mad_155 (Int32.toNatClampNeg s1_155) (irm (s2_155 + s3_155) pri)) inn lon_121)) H := hP
            have hD : va_D A ((wX7_0_4_5_6_7_8 cy ad thr sta pri tcd frt frp deg num (upd mad_155 (Int32.toNatClampNeg s1_155) (irm (s2_155 + s3_155) pri)) inn lon_121)) := hD
            obtain ⟨v_162, e_162⟩ : ∃ y : Int32, y = x3_155 + 1 := ⟨_, rfl⟩
            replace hf := bd_at e_162 hf
            refine lv_iinc (v := v_162) (lv' := [(3, .int v_162), (0, .ref (ad 0)), (1, .int x1), (2, .int x2_121)]) hx hb dX7_mix_162 hl (k := 3) rfl (by rw [e_162]; rfl) (by decide) rfl (fun ls hl => ?_)
            clear e_162
            refine lv_goto (tgt := 121) hx hb dX7_mix_165 (by decide) ?_
            exact ih121 H locs ls v_162 (upd mad_155 (Int32.toNatClampNeg s1_155) (irm (s2_155 + s3_155) pri)) hf hP hD hS (lv_sub hl [1, 2, 3, 0] rfl)
          refine lv_iload_n hx hb dX7_mix_121 rfl (lv_at hl 3 rfl) ?_
          refine lv_iconst (v := 5) hx hb dX7_mix_122 (by decide) ?_
          refine lv_icmp_ge (tgt := 168) hx hb dX7_mix_123 (by decide) (fun c_123 => ?_) (fun c_123 => ?_)
          · replace hf := it_p c_123 hf
            obtain ⟨v_168, e_168⟩ : ∃ y : Int32, y = x2_121 + (-1) := ⟨_, rfl⟩
            replace hf := bd_at e_168 hf
            refine lv_iinc (v := v_168) (lv' := [(2, .int v_168), (0, .ref (ad 0)), (1, .int x1), (3, .int x3_121)]) hx hb dX7_mix_168 hl (k := 2) rfl (by rw [e_168]; rfl) (by decide) rfl (fun ls hl => ?_)
            clear e_168
            refine lv_goto (tgt := 27) hx hb dX7_mix_171 (by decide) ?_
            exact ih27 H locs ls v_168 mad_121 lon_121 hf hP hD hS (lv_sub hl [1, 2, 0] rfl)
          · replace hf := it_n c_123 hf
            refine lv_aload_n hx hb dX7_mix_126 rfl (lv_at hl 0 rfl) ?_
            refine va_get (a := (ad 0)) (ci := 7) (v := .ref (ad 6)) (C := RX7) (T := TX7) (N := 28) hx hb hts hin_X7 hown hK hP 0 rfl rfl 8 (by decide) hw_1 (fun _ h => h) rfl dX7_mix_127 ?_
            refine lv_iload_n hx hb dX7_mix_130 rfl (lv_at hl 3 rfl) ?_
            refine lv_aload_n hx hb dX7_mix_131 rfl (lv_at hl 0 rfl) ?_
            refine va_get (a := (ad 0)) (ci := 7) (v := .ref (ad 8)) (C := RX7) (T := TX7) (N := 28) hx hb hts hin_X7 hown hK hP 0 rfl rfl 10 (by decide) hw_2 (fun _ h => h) rfl dX7_mix_132 ?_
            refine lv_iload_n hx hb dX7_mix_135 rfl (lv_at hl 3 rfl) ?_
            replace hf := gi_e hf
            obtain ⟨i_136, hf⟩ := hf
            refine va_iald (a := (ad 8)) hx hb hK hP 5 0 rfl rfl i_136 dX7_mix_136 ?_
            refine lv_iload_n hx hb dX7_mix_137 rfl (lv_at hl 3 rfl) ?_
            refine lv_if_ne (tgt := 154) hx hb dX7_mix_138 (by decide) (fun c_138 => ?_) (fun c_138 => ?_)
            · replace hf := it_n c_138 hf
              refine lv_iconst (v := 0) hx hb dX7_mix_154 (by decide) ?_
              exact J155 H locs ls x3_121 x3_121 (lon_121 (Int32.toNatClampNeg x3_121)) 0 mad_121 hf hP hD hS (lv_sub hl [0, 1, 2, 3] rfl)
            · replace hf := it_p c_138 hf
              refine lv_aload_n hx hb dX7_mix_141 rfl (lv_at hl 0 rfl) ?_
              refine va_get (a := (ad 0)) (ci := 7) (v := .ref (ad 5)) (C := RX7) (T := TX7) (N := 28) hx hb hts hin_X7 hown hK hP 0 rfl rfl 7 (by decide) hw_3 (fun _ h => h) rfl dX7_mix_142 ?_
              refine lv_iconst (v := 5) hx hb dX7_mix_145 (by decide) ?_
              refine lv_iload_n hx hb dX7_mix_146 rfl (lv_at hl 1 rfl) ?_
              refine lv_imul hx hb dX7_mix_147 ?_
              refine lv_iload_n hx hb dX7_mix_148 rfl (lv_at hl 2 rfl) ?_
              refine lv_iadd hx hb dX7_mix_149 ?_
              replace hf := gi_e hf
              obtain ⟨i_150, hf⟩ := hf
              refine va_iald (a := (ad 5)) hx hb hK hP 2 0 rfl rfl i_150 dX7_mix_150 ?_
              refine lv_goto (tgt := 155) hx hb dX7_mix_151 (by decide) ?_
              exact J155 H locs ls x3_121 x3_121 (lon_121 (Int32.toNatClampNeg x3_121)) (num (Int32.toNatClampNeg ((5 * x1) + x2_121))) mad_121 hf hP hD hS (lv_sub hl [0, 1, 2, 3] rfl)
      have L53 : ∀ (x2_53 : Int32) (mad_53 : Nat → Int32) (n53 : Nat) (H : Heap) (locs : List Loc) (ls : Array Slot) (x3_53 : Int32) (lon_53 : Nat → Int32), FX7_mix_L53 (FX7_mix_L27 x1 pri num inn n27) x1 x2_53 pri num mad_53 inn n53 x3_53 lon_53 = some out → va_P D vwCl ((wX7_0_4_5_6_7_8 cy ad thr sta pri tcd frt frp deg num mad_53 inn lon_53)) H → va_D A ((wX7_0_4_5_6_7_8 cy ad thr sta pri tcd frt frp deg num mad_53 inn lon_53)) → va_S A s.heap H locs → lv_has ls 5 [(0, .ref (ad 0)), (1, .int x1), (2, .int x2_53), (3, .int x3_53)] → W p l e RMX7_mix s m args below meth c H locs 0 0 QQ (F0 m 53 ls []) := by
        intro x2_53 mad_53 n53
        induction n53 with
        | zero => intro H locs ls x3_53 lon_53 hf; simp [FX7_mix_L53] at hf
        | succ n53 ih53 =>
          intro H locs ls x3_53 lon_53 hf hP hD hS hl
          rw [FX7_mix_L53] at hf
          have L61 : ∀ (x3_61 : Int32) (n61 : Nat) (H : Heap) (locs : List Loc) (ls : Array Slot) (x4_61 : Int32) (lon_61 : Nat → Int32), FX7_mix_L61 (FX7_mix_L27 x1 pri num inn n27) (FX7_mix_L53 (FX7_mix_L27 x1 pri num inn n27) x1 x2_53 pri num mad_53 inn n53) x1 x2_53 x3_61 pri num mad_53 inn n61 x4_61 lon_61 = some out → va_P D vwCl ((wX7_0_4_5_6_7_8 cy ad thr sta pri tcd frt frp deg num mad_53 inn lon_61)) H → va_D A ((wX7_0_4_5_6_7_8 cy ad thr sta pri tcd frt frp deg num mad_53 inn lon_61)) → va_S A s.heap H locs → lv_has ls 5 [(0, .ref (ad 0)), (1, .int x1), (2, .int x2_53), (3, .int x3_61), (4, .int x4_61)] → W p l e RMX7_mix s m args below meth c H locs 0 0 QQ (F0 m 61 ls []) := by
            intro x3_61 n61
            induction n61 with
            | zero => intro H locs ls x4_61 lon_61 hf; simp [FX7_mix_L61] at hf
            | succ n61 ih61 =>
              intro H locs ls x4_61 lon_61 hf hP hD hS hl
              rw [FX7_mix_L61] at hf
              refine lv_iload_n hx hb dX7_mix_61 rfl (lv_at hl 3 rfl) ?_
              refine lv_iload hx hb dX7_mix_62 (lv_at hl 4 rfl) ?_
              refine lv_iadd hx hb dX7_mix_64 ?_
              refine lv_iconst (v := 5) hx hb dX7_mix_65 (by decide) ?_
              refine lv_icmp_ge (tgt := 113) hx hb dX7_mix_66 (by decide) (fun c_66 => ?_) (fun c_66 => ?_)
              · replace hf := it_p c_66 hf
                obtain ⟨v_113, e_113⟩ : ∃ y : Int32, y = x3_61 + 1 := ⟨_, rfl⟩
                replace hf := bd_at e_113 hf
                refine lv_iinc (v := v_113) (lv' := [(3, .int v_113), (0, .ref (ad 0)), (1, .int x1), (2, .int x2_53), (4, .int x4_61)]) hx hb dX7_mix_113 hl (k := 3) rfl (by rw [e_113]; rfl) (by decide) rfl (fun ls hl => ?_)
                clear e_113
                refine lv_goto (tgt := 53) hx hb dX7_mix_116 (by decide) ?_
                exact ih53 H locs ls v_113 lon_61 hf hP hD hS (lv_sub hl [1, 2, 3, 0] rfl)
              · replace hf := it_n c_66 hf
                refine lv_aload_n hx hb dX7_mix_69 rfl (lv_at hl 0 rfl) ?_
                refine va_get (a := (ad 0)) (ci := 7) (v := .ref (ad 8)) (C := RX7) (T := TX7) (N := 28) hx hb hts hin_X7 hown hK hP 0 rfl rfl 10 (by decide) hw_2 (fun _ h => h) rfl dX7_mix_70 ?_
                refine lv_iload_n hx hb dX7_mix_73 rfl (lv_at hl 3 rfl) ?_
                refine lv_iload hx hb dX7_mix_74 (lv_at hl 4 rfl) ?_
                refine lv_iadd hx hb dX7_mix_76 ?_
                refine lv_aload_n hx hb dX7_mix_77 rfl (lv_at hl 0 rfl) ?_
                refine va_get (a := (ad 0)) (ci := 7) (v := .ref (ad 8)) (C := RX7) (T := TX7) (N := 28) hx hb hts hin_X7 hown hK hP 0 rfl rfl 10 (by decide) hw_2 (fun _ h => h) rfl dX7_mix_78 ?_
                refine lv_iload_n hx hb dX7_mix_81 rfl (lv_at hl 3 rfl) ?_
                refine lv_iload hx hb dX7_mix_82 (lv_at hl 4 rfl) ?_
                refine lv_iadd hx hb dX7_mix_84 ?_
                replace hf := gi_e hf
                obtain ⟨i_85, hf⟩ := hf
                refine va_iald (a := (ad 8)) hx hb hK hP 5 0 rfl rfl i_85 dX7_mix_85 ?_
                refine lv_aload_n hx hb dX7_mix_86 rfl (lv_at hl 0 rfl) ?_
                refine va_get (a := (ad 0)) (ci := 7) (v := .ref (ad 6)) (C := RX7) (T := TX7) (N := 28) hx hb hts hin_X7 hown hK hP 0 rfl rfl 8 (by decide) hw_1 (fun _ h => h) rfl dX7_mix_87 ?_
                refine lv_iload_n hx hb dX7_mix_90 rfl (lv_at hl 3 rfl) ?_
                replace hf := gi_e hf
                obtain ⟨i_91, hf⟩ := hf
                refine va_iald (a := (ad 6)) hx hb hK hP 3 0 rfl rfl i_91 dX7_mix_91 ?_
                refine lv_aload_n hx hb dX7_mix_92 rfl (lv_at hl 0 rfl) ?_
                refine va_get (a := (ad 0)) (ci := 7) (v := .ref (ad 7)) (C := RX7) (T := TX7) (N := 28) hx hb hts hin_X7 hown hK hP 0 rfl rfl 9 (by decide) hw_4 (fun _ h => h) rfl dX7_mix_93 ?_
                refine lv_iload hx hb dX7_mix_96 (lv_at hl 4 rfl) ?_
                replace hf := gi_e hf
                obtain ⟨i_98, hf⟩ := hf
                refine va_iald (a := (ad 7)) hx hb hK hP 4 0 rfl rfl i_98 dX7_mix_98 ?_
                refine lv_imul hx hb dX7_mix_99 ?_
                refine lv_iadd hx hb dX7_mix_100 ?_
                refine lv_aload_n hx hb dX7_mix_101 rfl (lv_at hl 0 rfl) ?_
                refine va_get (a := (ad 0)) (ci := 7) (v := .int pri) (C := RX7) (T := TX7) (N := 28) hx hb hts hin_X7 hown hK hP 0 rfl rfl 2 (by decide) hw_0 (fun _ h => h) rfl dX7_mix_102 ?_
                replace hf := gd_e hf
                obtain ⟨z_105, hf⟩ := hf
                refine rw_irem hx hb dX7_mix_105 z_105 ?_
                replace hf := gi_e hf
                obtain ⟨i_106, hf⟩ := hf
                refine va_iast (a := (ad 8)) hx hb hK hP hD hS 5 0 rfl rfl i_106 dX7_mix_106 (fun H locs hP hD hS => ?_)
                have hP : va_P D vwCl ((wX7_0_4_5_6_7_8 cy ad thr sta pri tcd frt frp deg num mad_53 inn (upd lon_61 (Int32.toNatClampNeg (x3_61 + x4_61)) (irm ((lon_61 (Int32.toNatClampNeg (x3_61 + x4_61))) + ((mad_53 (Int32.toNatClampNeg x3_61)) * (inn (Int32.toNatClampNeg x4_61)))) pri)))) H := hP
                have hD : va_D A ((wX7_0_4_5_6_7_8 cy ad thr sta pri tcd frt frp deg num mad_53 inn (upd lon_61 (Int32.toNatClampNeg (x3_61 + x4_61)) (irm ((lon_61 (Int32.toNatClampNeg (x3_61 + x4_61))) + ((mad_53 (Int32.toNatClampNeg x3_61)) * (inn (Int32.toNatClampNeg x4_61)))) pri)))) := hD
                obtain ⟨v_107, e_107⟩ : ∃ y : Int32, y = x4_61 + 1 := ⟨_, rfl⟩
                replace hf := bd_at e_107 hf
                refine lv_iinc (v := v_107) (lv' := [(4, .int v_107), (0, .ref (ad 0)), (1, .int x1), (2, .int x2_53), (3, .int x3_61)]) hx hb dX7_mix_107 hl (k := 4) rfl (by rw [e_107]; rfl) (by decide) rfl (fun ls hl => ?_)
                clear e_107
                refine lv_goto (tgt := 61) hx hb dX7_mix_110 (by decide) ?_
                exact ih61 H locs ls v_107 (upd lon_61 (Int32.toNatClampNeg (x3_61 + x4_61)) (irm ((lon_61 (Int32.toNatClampNeg (x3_61 + x4_61))) + ((mad_53 (Int32.toNatClampNeg x3_61)) * (inn (Int32.toNatClampNeg x4_61)))) pri)) hf hP hD hS (lv_sub hl [1, 2, 3, 4, 0] rfl)
          refine lv_iload_n hx hb dX7_mix_53 rfl (lv_at hl 3 rfl) ?_
          refine lv_iconst (v := 5) hx hb dX7_mix_54 (by decide) ?_
          refine lv_icmp_ge (tgt := 119) hx hb dX7_mix_55 (by decide) (fun c_55 => ?_) (fun c_55 => ?_)
          · replace hf := it_p c_55 hf
            refine lv_iconst (v := 0) hx hb dX7_mix_119 (by decide) ?_
            refine lv_istore_n (lv' := [(3, .int 0), (0, .ref (ad 0)), (1, .int x1), (2, .int x2_53)]) hx hb dX7_mix_120 rfl hl (by decide) rfl (fun ls hl => ?_)
            exact L121 x2_53 lon_53 FU H locs ls 0 mad_53 hf hP hD hS (lv_sub hl [1, 2, 3, 0] rfl)
          · replace hf := it_n c_55 hf
            refine lv_iconst (v := 0) hx hb dX7_mix_58 (by decide) ?_
            refine lv_istore (lv' := [(4, .int 0), (0, .ref (ad 0)), (1, .int x1), (2, .int x2_53), (3, .int x3_53)]) hx hb dX7_mix_59 hl (by decide) rfl (fun ls hl => ?_)
            exact L61 x3_53 FU H locs ls 0 lon_53 hf hP hD hS (lv_sub hl [1, 2, 3, 4, 0] rfl)
      have L33 : ∀ (x2_33 : Int32) (mad_33 : Nat → Int32) (n33 : Nat) (H : Heap) (locs : List Loc) (ls : Array Slot) (x3_33 : Int32) (lon_33 : Nat → Int32), FX7_mix_L33 (FX7_mix_L27 x1 pri num inn n27) x1 x2_33 pri num mad_33 inn n33 x3_33 lon_33 = some out → va_P D vwCl ((wX7_0_4_5_6_7_8 cy ad thr sta pri tcd frt frp deg num mad_33 inn lon_33)) H → va_D A ((wX7_0_4_5_6_7_8 cy ad thr sta pri tcd frt frp deg num mad_33 inn lon_33)) → va_S A s.heap H locs → lv_has ls 5 [(0, .ref (ad 0)), (1, .int x1), (2, .int x2_33), (3, .int x3_33)] → W p l e RMX7_mix s m args below meth c H locs 0 0 QQ (F0 m 33 ls []) := by
        intro x2_33 mad_33 n33
        induction n33 with
        | zero => intro H locs ls x3_33 lon_33 hf; simp [FX7_mix_L33] at hf
        | succ n33 ih33 =>
          intro H locs ls x3_33 lon_33 hf hP hD hS hl
          rw [FX7_mix_L33] at hf
          refine lv_iload_n hx hb dX7_mix_33 rfl (lv_at hl 3 rfl) ?_
          refine lv_iconst (v := 5) hx hb dX7_mix_34 (by decide) ?_
          refine lv_icmp_ge (tgt := 51) hx hb dX7_mix_35 (by decide) (fun c_35 => ?_) (fun c_35 => ?_)
          · replace hf := it_p c_35 hf
            refine lv_iconst (v := 0) hx hb dX7_mix_51 (by decide) ?_
            refine lv_istore_n (lv' := [(3, .int 0), (0, .ref (ad 0)), (1, .int x1), (2, .int x2_33)]) hx hb dX7_mix_52 rfl hl (by decide) rfl (fun ls hl => ?_)
            exact L53 x2_33 mad_33 FU H locs ls 0 lon_33 hf hP hD hS (lv_sub hl [1, 2, 3, 0] rfl)
          · replace hf := it_n c_35 hf
            refine lv_aload_n hx hb dX7_mix_38 rfl (lv_at hl 0 rfl) ?_
            refine va_get (a := (ad 0)) (ci := 7) (v := .ref (ad 8)) (C := RX7) (T := TX7) (N := 28) hx hb hts hin_X7 hown hK hP 0 rfl rfl 10 (by decide) hw_2 (fun _ h => h) rfl dX7_mix_39 ?_
            refine lv_iload_n hx hb dX7_mix_42 rfl (lv_at hl 3 rfl) ?_
            refine lv_iconst (v := 0) hx hb dX7_mix_43 (by decide) ?_
            replace hf := gi_e hf
            obtain ⟨i_44, hf⟩ := hf
            refine va_iast (a := (ad 8)) hx hb hK hP hD hS 5 0 rfl rfl i_44 dX7_mix_44 (fun H locs hP hD hS => ?_)
            have hP : va_P D vwCl ((wX7_0_4_5_6_7_8 cy ad thr sta pri tcd frt frp deg num mad_33 inn (upd lon_33 (Int32.toNatClampNeg x3_33) 0))) H := hP
            have hD : va_D A ((wX7_0_4_5_6_7_8 cy ad thr sta pri tcd frt frp deg num mad_33 inn (upd lon_33 (Int32.toNatClampNeg x3_33) 0))) := hD
            obtain ⟨v_45, e_45⟩ : ∃ y : Int32, y = x3_33 + 1 := ⟨_, rfl⟩
            replace hf := bd_at e_45 hf
            refine lv_iinc (v := v_45) (lv' := [(3, .int v_45), (0, .ref (ad 0)), (1, .int x1), (2, .int x2_33)]) hx hb dX7_mix_45 hl (k := 3) rfl (by rw [e_45]; rfl) (by decide) rfl (fun ls hl => ?_)
            clear e_45
            refine lv_goto (tgt := 33) hx hb dX7_mix_48 (by decide) ?_
            exact ih33 H locs ls v_45 (upd lon_33 (Int32.toNatClampNeg x3_33) 0) hf hP hD hS (lv_sub hl [1, 2, 3, 0] rfl)
      refine lv_iload_n hx hb dX7_mix_27 rfl (lv_at hl 2 rfl) ?_
      refine lv_if_lt (tgt := 174) hx hb dX7_mix_28 (by decide) (fun c_28 => ?_) (fun c_28 => ?_)
      · replace hf := it_p c_28 hf
        obtain rfl := Option.some.inj hf
        rw [← hQe]
        exact W.vret hx hb hr (fun t ht hW => ⟨rfl, by rw [ht]; exact hP, hS.F ht⟩) hS.2.2 dX7_mix_174
      · replace hf := it_n c_28 hf
        refine lv_iconst (v := 0) hx hb dX7_mix_31 (by decide) ?_
        refine lv_istore_n (lv' := [(3, .int 0), (0, .ref (ad 0)), (1, .int x1), (2, .int x2_27)]) hx hb dX7_mix_32 rfl hl (by decide) rfl (fun ls hl => ?_)
        exact L33 x2_27 mad_27 FU H locs ls 0 lon_27 hf hP hD hS (lv_sub hl [1, 2, 3, 0] rfl)
  have L2 : ∀ (lon_2 : Nat → Int32) (n2 : Nat) (H : Heap) (locs : List Loc) (ls : Array Slot) (x2_2 : Int32) (mad_2 : Nat → Int32), FX7_mix_L2 x1 pri deg num inn lon_2 n2 x2_2 mad_2 = some out → va_P D vwCl ((wX7_0_4_5_6_7_8 cy ad thr sta pri tcd frt frp deg num mad_2 inn lon_2)) H → va_D A ((wX7_0_4_5_6_7_8 cy ad thr sta pri tcd frt frp deg num mad_2 inn lon_2)) → va_S A s.heap H locs → lv_has ls 5 [(0, .ref (ad 0)), (1, .int x1), (2, .int x2_2)] → W p l e RMX7_mix s m args below meth c H locs 0 0 QQ (F0 m 2 ls []) := by
    intro lon_2 n2
    induction n2 with
    | zero => intro H locs ls x2_2 mad_2 hf; simp [FX7_mix_L2] at hf
    | succ n2 ih2 =>
      intro H locs ls x2_2 mad_2 hf hP hD hS hl
      rw [FX7_mix_L2] at hf
      refine lv_iload_n hx hb dX7_mix_2 rfl (lv_at hl 2 rfl) ?_
      refine lv_iconst (v := 5) hx hb dX7_mix_3 (by decide) ?_
      refine lv_icmp_ge (tgt := 20) hx hb dX7_mix_4 (by decide) (fun c_4 => ?_) (fun c_4 => ?_)
      · replace hf := it_p c_4 hf
        refine lv_aload_n hx hb dX7_mix_20 rfl (lv_at hl 0 rfl) ?_
        refine va_get (a := (ad 0)) (ci := 7) (v := .ref (ad 4)) (C := RX7) (T := TX7) (N := 28) hx hb hts hin_X7 hown hK hP 0 rfl rfl 6 (by decide) hw_5 (fun _ h => h) rfl dX7_mix_21 ?_
        refine lv_iload_n hx hb dX7_mix_24 rfl (lv_at hl 1 rfl) ?_
        replace hf := gi_e hf
        obtain ⟨i_25, hf⟩ := hf
        refine va_iald (a := (ad 4)) hx hb hK hP 1 0 rfl rfl i_25 dX7_mix_25 ?_
        refine lv_topi (fun v_26 e_26 => ?_)
        replace hf := bd_at e_26 hf
        clear e_26
        refine lv_istore_n (lv' := [(2, .int v_26), (0, .ref (ad 0)), (1, .int x1)]) hx hb dX7_mix_26 rfl hl (by decide) rfl (fun ls hl => ?_)
        exact L27 FU H locs ls v_26 mad_2 lon_2 hf hP hD hS (lv_sub hl [1, 2, 0] rfl)
      · replace hf := it_n c_4 hf
        refine lv_aload_n hx hb dX7_mix_7 rfl (lv_at hl 0 rfl) ?_
        refine va_get (a := (ad 0)) (ci := 7) (v := .ref (ad 6)) (C := RX7) (T := TX7) (N := 28) hx hb hts hin_X7 hown hK hP 0 rfl rfl 8 (by decide) hw_1 (fun _ h => h) rfl dX7_mix_8 ?_
        refine lv_iload_n hx hb dX7_mix_11 rfl (lv_at hl 2 rfl) ?_
        refine lv_iconst (v := 0) hx hb dX7_mix_12 (by decide) ?_
        replace hf := gi_e hf
        obtain ⟨i_13, hf⟩ := hf
        refine va_iast (a := (ad 6)) hx hb hK hP hD hS 3 0 rfl rfl i_13 dX7_mix_13 (fun H locs hP hD hS => ?_)
        have hP : va_P D vwCl ((wX7_0_4_5_6_7_8 cy ad thr sta pri tcd frt frp deg num (upd mad_2 (Int32.toNatClampNeg x2_2) 0) inn lon_2)) H := hP
        have hD : va_D A ((wX7_0_4_5_6_7_8 cy ad thr sta pri tcd frt frp deg num (upd mad_2 (Int32.toNatClampNeg x2_2) 0) inn lon_2)) := hD
        obtain ⟨v_14, e_14⟩ : ∃ y : Int32, y = x2_2 + 1 := ⟨_, rfl⟩
        replace hf := bd_at e_14 hf
        refine lv_iinc (v := v_14) (lv' := [(2, .int v_14), (0, .ref (ad 0)), (1, .int x1)]) hx hb dX7_mix_14 hl (k := 2) rfl (by rw [e_14]; rfl) (by decide) rfl (fun ls hl => ?_)
        clear e_14
        refine lv_goto (tgt := 2) hx hb dX7_mix_17 (by decide) ?_
        exact ih2 H locs ls v_14 (upd mad_2 (Int32.toNatClampNeg x2_2) 0) hf hP hD hS (lv_sub hl [1, 2, 0] rfl)
  unfold FX7_mix at hf
  refine lv_iconst (v := 0) hx hb dX7_mix_0 (by decide) ?_
  refine lv_istore_n (lv' := [(2, .int 0), (0, .ref (ad 0)), (1, .int x1)]) hx hb dX7_mix_1 rfl hl (by decide) rfl (fun ls hl => ?_)
  exact L2 lon FU H locs ls 0 mad hf hP hD hS (lv_sub hl [1, 2, 0] rfl)
def FX7_turn_L144   (x1 : Int32) (x5_144 : Int32) (thr_144 : Int32) (pri : Int32) (deg_144 : Nat → Int32) (num_144 : Nat → Int32) (inn_144 : Nat → Int32) (lon_144 : Nat → Int32) : Nat → Int32 → (Nat → Int32) → Option (Int32 × (Int32) × (Int32) × (Nat → Int32) × (Nat → Int32) × (Nat → Int32) × (Nat → Int32) × (Nat → Int32))
  | 0, _, _ => none
  | fuel + 1, x6_144, mad_144 => (if 5 ≤ x6_144 then (ob (FX7_lay deg_144 num_144 mad_144 x1) (fun u_180 => some (u_180.1, thr_144, u_180.2.1, u_180.2.2.1, u_180.2.2.2, mad_144, inn_144, lon_144))) else (gi x6_144 5 (gd (¬ pri = 0) (gi x6_144 5 (bd (x6_144 + 1) (fun v_172 => (FX7_turn_L144 x1 x5_144 thr_144 pri deg_144 num_144 inn_144 lon_144 fuel) v_172 (upd mad_144 (Int32.toNatClampNeg x6_144) (irm ((mad_144 (Int32.toNatClampNeg x6_144)) * x5_144) pri))))))))
def FX7_turn_J92  (k49 : Int32 → (Nat → Int32) → Option (Int32 × (Int32) × (Int32) × (Nat → Int32) × (Nat → Int32) × (Nat → Int32) × (Nat → Int32) × (Nat → Int32))) (x1 : Int32) (x2 : Int32) (x3 : Int32) (x4 : Int32) (x5_92 : Int32) (s1_92 : Int32) (s2_92 : Int32) (thr_49 : Int32) (pri : Int32) (deg_49 : Nat → Int32) (num_49 : Nat → Int32) (mad_49 : Nat → Int32) (inn_92 : Nat → Int32) (lon_49 : Nat → Int32) : Option (Int32 × (Int32) × (Int32) × (Nat → Int32) × (Nat → Int32) × (Nat → Int32) × (Nat → Int32) × (Nat → Int32)) := (gi s1_92 5 (bd (x5_92 + 1) (fun v_93 => k49 v_93 (upd inn_92 (Int32.toNatClampNeg s1_92) s2_92))))
def FX7_turn_L49   (x1 : Int32) (x2 : Int32) (x3 : Int32) (x4 : Int32) (thr_49 : Int32) (pri : Int32) (deg_49 : Nat → Int32) (num_49 : Nat → Int32) (mad_49 : Nat → Int32) (lon_49 : Nat → Int32) : Nat → Int32 → (Nat → Int32) → Option (Int32 × (Int32) × (Int32) × (Nat → Int32) × (Nat → Int32) × (Nat → Int32) × (Nat → Int32) × (Nat → Int32))
  | 0, _, _ => none
  | fuel + 1, x5_49, inn_49 => (if 5 ≤ x5_49 then (ob (FX7_mix pri deg_49 num_49 mad_49 inn_49 lon_49 x2) (fun u_101 => gi 0 5 (ob (FX7_modulo pri (Int32.toInt64 x4)) (fun u_120 => ob (FX7_modulo pri (Int32.toInt64 ((u_101.1 (Int32.toNatClampNeg 0)) - u_120))) (fun u_125 => gi 0 5 (ob (FX7_modulo pri (Int32.toInt64 x3)) (fun u_133 => ob (FX7_inverse pri u_133) (fun u_136 => FX7_turn_L144 x1 u_136 thr_49 pri deg_49 num_49 inn_49 u_101.2 FU 0 (upd u_101.1 (Int32.toNatClampNeg 0) u_125))))))))) else (if x5_49 = 0 then (ob (FX7_modulo pri (Int32.toInt64 x4)) (fun u_70 => FX7_turn_J92 (FX7_turn_L49 x1 x2 x3 x4 thr_49 pri deg_49 num_49 mad_49 lon_49 fuel) x1 x2 x3 x4 x5_49 x5_49 u_70 thr_49 pri deg_49 num_49 mad_49 inn_49 lon_49)) else (if x5_49 = 1 then (ob (FX7_modulo pri (Int32.toInt64 x3)) (fun u_85 => FX7_turn_J92 (FX7_turn_L49 x1 x2 x3 x4 thr_49 pri deg_49 num_49 mad_49 lon_49 fuel) x1 x2 x3 x4 x5_49 x5_49 u_85 thr_49 pri deg_49 num_49 mad_49 inn_49 lon_49)) else (FX7_turn_J92 (FX7_turn_L49 x1 x2 x3 x4 thr_49 pri deg_49 num_49 mad_49 lon_49 fuel) x1 x2 x3 x4 x5_49 x5_49 0 thr_49 pri deg_49 num_49 mad_49 inn_49 lon_49))))
def FX7_turn  (sta : Int32) (pri : Int32) (deg : Nat → Int32) (num : Nat → Int32) (mad : Nat → Int32) (inn : Nat → Int32) (lon : Nat → Int32) (x1 : Int32) (x2 : Int32) (x3 : Int32) (x4 : Int32) : Option (Int32 × (Int32) × (Int32) × (Nat → Int32) × (Nat → Int32) × (Nat → Int32) × (Nat → Int32) × (Nat → Int32)) := (ob (FX7_isPlace x1) (fun u_6 => if (bi u_6) = 0 then (some ((-1000001), 0, sta, deg, num, mad, inn, lon)) else (ob (FX7_isPlace x2) (fun u_13 => if (bi u_13) = 0 then (some ((-1000001), 0, sta, deg, num, mad, inn, lon)) else (ob (FX7_modulo pri (Int32.toInt64 x3)) (fun u_22 => if u_22 = 0 then (some ((-1000001), 0, sta, deg, num, mad, inn, lon)) else (gi x2 10 (if 0 ≤ (deg (Int32.toNatClampNeg x2)) then (FX7_turn_L49 x1 x2 x3 x4 0 pri deg num mad lon FU 0 inn) else (ob (FX7_found 1) (fun u_42 => some (u_42.1, 0, u_42.2, deg, num, mad, inn, lon)))))))))))
abbrev RMX7_turn : Room := { frames := 2, cells := 0, slots := 0, locals := 45 }
set_option maxHeartbeats 4000000 in
set_option maxRecDepth 100000 in
theorem KX7_turn (l : Launch) (D : va_G) (cy : Nat → ClassId) (ad : Nat → Nat) (thr : Int32) (sta : Int32) (pri : Int32) (tcd : Int32) (frt : Int32) (frp : Int32) (deg : Nat → Int32) (num : Nat → Int32) (mad : Nat → Int32) (inn : Nat → Int32) (lon : Nat → Int32) (x1 : Int32) (x2 : Int32) (x3 : Int32) (x4 : Int32) (sz : Nat) {out : Int32 × (Int32) × (Int32) × (Nat → Int32) × (Nat → Int32) × (Nat → Int32) × (Nat → Int32) × (Nat → Int32)} (hf : FX7_turn sta pri deg num mad inn lon x1 x2 x3 x4 = some out) : Met l yX7_turn wsX7_turn RMX7_turn (PW D cy [.ref (ad 0), .int x1, .int x2, .int x3, .int x4] sz ((wX7_0_4_5_6_7_8 cy ad thr sta pri tcd frt frp deg num mad inn lon)) []) (QW D (some (.int out.1)) ((wX7_0_4_5_6_7_8 cy ad out.2.1 out.2.2.1 pri tcd frt frp out.2.2.2.1 out.2.2.2.2.1 out.2.2.2.2.2.1 out.2.2.2.2.2.2.1 out.2.2.2.2.2.2.2)) (va_A ((wX7_0_4_5_6_7_8 cy ad thr sta pri tcd frt frp deg num mad inn lon)) sz)) 0 0 (va_A ((wX7_0_4_5_6_7_8 cy ad thr sta pri tcd frt frp deg num mad inn lon)) sz) := by
  refine Met.ofW (cc := cX7_turn) (maxL := 7) (ret := (some .int)) (by decide +kernel) rfl ?_
  intro p e s m args below meth c s₁ B hml hv
  obtain ⟨hav, hsz, hP, hR0, hK, hN, hD0, hsep⟩ := hv
  have hx := B.exec
  have hb := B.bytes
  have hr := B.returns
  have hts := atoms_spec (ws := wsX7_turn) B.pre
  have hown : s.vm.findClass RX7 = some m.cls := findClass_of_methodNamed B.named
  have hlocks := B.notSynchronized
  subst hsz
  have hin_X7 : ∀ w ∈ u_ws RX7 TX7 28, w ∈ wsX7_turn := by decide +kernel
  have hw_0 := hts (.constant RX7 108 (-1000001)) (by decide +kernel)
  have hw_1 := hts (.fieldLink RX7 34 "ReturnPointsModel" "made" "[I") (by decide +kernel)
  have hw_2 := hts (.fieldLink RX7 98 "ReturnPointsModel" "prime" "I") (by decide +kernel)
  have hw_3 := hts (.fieldLink RX7 37 "ReturnPointsModel" "inner" "[I") (by decide +kernel)
  have hw_4 := hts (.fieldLink RX7 1 "ReturnPointsModel" "thrown" "I") (by decide +kernel)
  have hw_5 := hts (.fieldLink RX7 28 "ReturnPointsModel" "degree" "[I") (by decide +kernel)
  have hD := hD0.self (sz := s.heap.size)
  have hnA := roA hsep hR0
  generalize hAe : va_A ((wX7_0_4_5_6_7_8 cy ad thr sta pri tcd frt frp deg num mad inn lon)) s.heap.size = A at hD hnA ⊢
  have hA : ∀ q : Nat, s.heap.size ≤ q → A q := fun q h => by rw [← hAe]; exact Or.inr h
  have hS : va_S A s.heap s.heap [] := va_S.rf
  obtain ⟨ls, hfr, hl⟩ := ent_ok (m := m) (n := 7) (l' := [(0, .ref (ad 0)), (1, .int x1), (2, .int x2), (3, .int x3), (4, .int x4)]) [.ref (ad 0), .int x1, .int x2, .int x3, .int x4] hav (Nat.le_of_ble_eq_true rfl) rfl
  rw [hfr]
  generalize hQe : MQ below (QW D (some (.int out.1)) ((wX7_0_4_5_6_7_8 cy ad out.2.1 out.2.2.1 pri tcd frt frp out.2.2.2.1 out.2.2.2.2.1 out.2.2.2.2.2.1 out.2.2.2.2.2.2.1 out.2.2.2.2.2.2.2)) A) args s 0 0 A = QQ
  change W p l e RMX7_turn s m args below meth c s.heap [] 0 0 QQ (F0 m 0 ls [])
  have hP : va_P D vwCl ((wX7_0_4_5_6_7_8 cy ad thr sta pri tcd frt frp deg num mad inn lon)) s.heap := hP
  have hD : va_D A ((wX7_0_4_5_6_7_8 cy ad thr sta pri tcd frt frp deg num mad inn lon)) := hD
  suffices h00 : ∀ (H : Heap) (locs : List Loc), va_P D vwCl ((wX7_0_4_5_6_7_8 cy ad thr sta pri tcd frt frp deg num mad inn lon)) H → va_S A s.heap H locs → W p l e RMX7_turn s m args below meth c H locs 0 0 QQ (F0 m 0 ls []) from h00 _ _ hP hS
  clear hP hS
  intro H locs hP hS
  have L144 : ∀ (x5_144 : Int32) (thr_144 : Int32) (sta_144 : Int32) (deg_144 : Nat → Int32) (num_144 : Nat → Int32) (inn_144 : Nat → Int32) (lon_144 : Nat → Int32) (n144 : Nat) (H : Heap) (locs : List Loc) (ls : Array Slot) (x6_144 : Int32) (mad_144 : Nat → Int32), FX7_turn_L144 x1 x5_144 thr_144 pri deg_144 num_144 inn_144 lon_144 n144 x6_144 mad_144 = some out → va_P D vwCl ((wX7_0_4_5_6_7_8 cy ad thr_144 sta_144 pri tcd frt frp deg_144 num_144 mad_144 inn_144 lon_144)) H → va_D A ((wX7_0_4_5_6_7_8 cy ad thr_144 sta_144 pri tcd frt frp deg_144 num_144 mad_144 inn_144 lon_144)) → va_S A s.heap H locs → lv_has ls 7 [(0, .ref (ad 0)), (1, .int x1), (5, .int x5_144), (6, .int x6_144)] → W p l e RMX7_turn s m args below meth c H locs 0 0 QQ (F0 m 144 ls []) := by
    intro x5_144 thr_144 sta_144 deg_144 num_144 inn_144 lon_144 n144
    induction n144 with
    | zero => intro H locs ls x6_144 mad_144 hf; simp [FX7_turn_L144] at hf
    | succ n144 ih144 =>
      intro H locs ls x6_144 mad_144 hf hP hD hS hl
      rw [FX7_turn_L144] at hf
      refine lv_iload hx hb dX7_turn_144 (lv_at hl 3 rfl) ?_
      refine lv_iconst (v := 5) hx hb dX7_turn_146 (by decide) ?_
      refine lv_icmp_ge (tgt := 178) hx hb dX7_turn_147 (by decide) (fun c_147 => ?_) (fun c_147 => ?_)
      · replace hf := it_p c_147 hf
        refine lv_aload_n hx hb dX7_turn_178 rfl (lv_at hl 0 rfl) ?_
        refine lv_iload_n hx hb dX7_turn_179 rfl (lv_at hl 1 rfl) ?_
        replace hf := ob_e hf
        obtain ⟨u_180, hu_180, hf⟩ := hf
        refine ivW (As := [.int x1]) (rest := []) (st1 := [.int u_180.1]) (is := [0, 1, 2, 3]) (w1 := (wX7_0_4_5_6 cy ad thr_144 u_180.2.1 pri tcd frt frp u_180.2.2.1 u_180.2.2.2 mad_144)) ⟨hx, hb, hml, hown, hts⟩ hK hN (KX7_lay l D cy ad thr_144 sta_144 pri tcd frt frp deg_144 num_144 mad_144 x1 H.size hu_180) (cwV 1 hts gX7_turn_X7_lay rfl rfl rfl (by decide +kernel) ⟨Nat.le_of_ble_eq_true rfl, Nat.le_of_ble_eq_true rfl⟩) (va_recv hK hP (ci := 7) (q0 := 0) rfl rfl) hP hD hS hA P_nil (sepW_nil _) (by decide) rfl rfl rfl hl.1 rfl (Nat.le_of_ble_eq_true rfl) rfl dX7_turn_180 ⟨Nat.zero_le _, Nat.zero_le _⟩ (fun H locs hP hD hS => ?_)
        have hP : va_P D vwCl ((wX7_0_4_5_6_7_8 cy ad thr_144 u_180.2.1 pri tcd frt frp u_180.2.2.1 u_180.2.2.2 mad_144 inn_144 lon_144)) H := hP
        have hD : va_D A ((wX7_0_4_5_6_7_8 cy ad thr_144 u_180.2.1 pri tcd frt frp u_180.2.2.1 u_180.2.2.2 mad_144 inn_144 lon_144)) := hD
        obtain rfl := Option.some.inj hf
        rw [← hQe]
        exact W.iret (v := u_180.1) hx hb hr (fun t ht hW => ⟨rfl, by rw [ht]; exact hP, hS.F ht⟩) hS.2.2 dX7_turn_183
      · replace hf := it_n c_147 hf
        refine lv_aload_n hx hb dX7_turn_150 rfl (lv_at hl 0 rfl) ?_
        refine va_get (a := (ad 0)) (ci := 7) (v := .ref (ad 6)) (C := RX7) (T := TX7) (N := 28) hx hb hts hin_X7 hown hK hP 0 rfl rfl 8 (by decide) hw_1 (fun _ h => h) rfl dX7_turn_151 ?_
        refine lv_iload hx hb dX7_turn_154 (lv_at hl 3 rfl) ?_
        refine lv_aload_n hx hb dX7_turn_156 rfl (lv_at hl 0 rfl) ?_
        refine va_get (a := (ad 0)) (ci := 7) (v := .ref (ad 6)) (C := RX7) (T := TX7) (N := 28) hx hb hts hin_X7 hown hK hP 0 rfl rfl 8 (by decide) hw_1 (fun _ h => h) rfl dX7_turn_157 ?_
        refine lv_iload hx hb dX7_turn_160 (lv_at hl 3 rfl) ?_
        replace hf := gi_e hf
        obtain ⟨i_162, hf⟩ := hf
        refine va_iald (a := (ad 6)) hx hb hK hP 3 0 rfl rfl i_162 dX7_turn_162 ?_
        refine lv_iload hx hb dX7_turn_163 (lv_at hl 2 rfl) ?_
        refine lv_imul hx hb dX7_turn_165 ?_
        refine lv_aload_n hx hb dX7_turn_166 rfl (lv_at hl 0 rfl) ?_
        refine va_get (a := (ad 0)) (ci := 7) (v := .int pri) (C := RX7) (T := TX7) (N := 28) hx hb hts hin_X7 hown hK hP 0 rfl rfl 2 (by decide) hw_2 (fun _ h => h) rfl dX7_turn_167 ?_
        replace hf := gd_e hf
        obtain ⟨z_170, hf⟩ := hf
        refine rw_irem hx hb dX7_turn_170 z_170 ?_
        replace hf := gi_e hf
        obtain ⟨i_171, hf⟩ := hf
        refine va_iast (a := (ad 6)) hx hb hK hP hD hS 3 0 rfl rfl i_171 dX7_turn_171 (fun H locs hP hD hS => ?_)
        have hP : va_P D vwCl ((wX7_0_4_5_6_7_8 cy ad thr_144 sta_144 pri tcd frt frp deg_144 num_144 (upd mad_144 (Int32.toNatClampNeg x6_144) (irm ((mad_144 (Int32.toNatClampNeg x6_144)) * x5_144) pri)) inn_144 lon_144)) H := hP
        have hD : va_D A ((wX7_0_4_5_6_7_8 cy ad thr_144 sta_144 pri tcd frt frp deg_144 num_144 (upd mad_144 (Int32.toNatClampNeg x6_144) (irm ((mad_144 (Int32.toNatClampNeg x6_144)) * x5_144) pri)) inn_144 lon_144)) := hD
        obtain ⟨v_172, e_172⟩ : ∃ y : Int32, y = x6_144 + 1 := ⟨_, rfl⟩
        replace hf := bd_at e_172 hf
        refine lv_iinc (v := v_172) (lv' := [(6, .int v_172), (0, .ref (ad 0)), (1, .int x1), (5, .int x5_144)]) hx hb dX7_turn_172 hl (k := 3) rfl (by rw [e_172]; rfl) (by decide) rfl (fun ls hl => ?_)
        clear e_172
        refine lv_goto (tgt := 144) hx hb dX7_turn_175 (by decide) ?_
        exact ih144 H locs ls v_172 (upd mad_144 (Int32.toNatClampNeg x6_144) (irm ((mad_144 (Int32.toNatClampNeg x6_144)) * x5_144) pri)) hf hP hD hS (lv_sub hl [1, 2, 3, 0] rfl)
  have L49 : ∀ (thr_49 : Int32) (sta_49 : Int32) (deg_49 : Nat → Int32) (num_49 : Nat → Int32) (mad_49 : Nat → Int32) (lon_49 : Nat → Int32) (n49 : Nat) (H : Heap) (locs : List Loc) (ls : Array Slot) (x5_49 : Int32) (inn_49 : Nat → Int32), FX7_turn_L49 x1 x2 x3 x4 thr_49 pri deg_49 num_49 mad_49 lon_49 n49 x5_49 inn_49 = some out → va_P D vwCl ((wX7_0_4_5_6_7_8 cy ad thr_49 sta_49 pri tcd frt frp deg_49 num_49 mad_49 inn_49 lon_49)) H → va_D A ((wX7_0_4_5_6_7_8 cy ad thr_49 sta_49 pri tcd frt frp deg_49 num_49 mad_49 inn_49 lon_49)) → va_S A s.heap H locs → lv_has ls 7 [(0, .ref (ad 0)), (1, .int x1), (2, .int x2), (3, .int x3), (4, .int x4), (5, .int x5_49)] → W p l e RMX7_turn s m args below meth c H locs 0 0 QQ (F0 m 49 ls []) := by
    intro thr_49 sta_49 deg_49 num_49 mad_49 lon_49 n49
    induction n49 with
    | zero => intro H locs ls x5_49 inn_49 hf; simp [FX7_turn_L49] at hf
    | succ n49 ih49 =>
      intro H locs ls x5_49 inn_49 hf hP hD hS hl
      rw [FX7_turn_L49] at hf
      have J92 : ∀ (H : Heap) (locs : List Loc) (ls : Array Slot) (x5_92 : Int32) (s1_92 : Int32) (s2_92 : Int32) (inn_92 : Nat → Int32), FX7_turn_J92 (FX7_turn_L49 x1 x2 x3 x4 thr_49 pri deg_49 num_49 mad_49 lon_49 n49) x1 x2 x3 x4 x5_92 s1_92 s2_92 thr_49 pri deg_49 num_49 mad_49 inn_92 lon_49 = some out → va_P D vwCl ((wX7_0_4_5_6_7_8 cy ad thr_49 sta_49 pri tcd frt frp deg_49 num_49 mad_49 inn_92 lon_49)) H → va_D A ((wX7_0_4_5_6_7_8 cy ad thr_49 sta_49 pri tcd frt frp deg_49 num_49 mad_49 inn_92 lon_49)) → va_S A s.heap H locs → lv_has ls 7 [(0, .ref (ad 0)), (1, .int x1), (2, .int x2), (3, .int x3), (4, .int x4), (5, .int x5_92)] → W p l e RMX7_turn s m args below meth c H locs 0 0 QQ (F0 m 92 ls [.int s2_92, .int s1_92, .ref (ad 7)]) := by
        intro H locs ls x5_92 s1_92 s2_92 inn_92 hf hP hD hS hl
        unfold FX7_turn_J92 at hf
        replace hf := gi_e hf
        obtain ⟨i_92, hf⟩ := hf
        refine va_iast (a := (ad 7)) hx hb hK hP hD hS 4 0 rfl rfl i_92 dX7_turn_92 (fun H locs hP hD hS => ?_)
        have hP : va_P D vwCl ((wX7_0_4_5_6_7_8 cy ad thr_49 sta_49 pri tcd frt frp deg_49 num_49 mad_49 (upd inn_92 (Int32.toNatClampNeg s1_92) s2_92) lon_49)) H := hP
        have hD : va_D A ((wX7_0_4_5_6_7_8 cy ad thr_49 sta_49 pri tcd frt frp deg_49 num_49 mad_49 (upd inn_92 (Int32.toNatClampNeg s1_92) s2_92) lon_49)) := hD
        obtain ⟨v_93, e_93⟩ : ∃ y : Int32, y = x5_92 + 1 := ⟨_, rfl⟩
        replace hf := bd_at e_93 hf
        refine lv_iinc (v := v_93) (lv' := [(5, .int v_93), (0, .ref (ad 0)), (1, .int x1), (2, .int x2), (3, .int x3), (4, .int x4)]) hx hb dX7_turn_93 hl (k := 5) rfl (by rw [e_93]; rfl) (by decide) rfl (fun ls hl => ?_)
        clear e_93
        refine lv_goto (tgt := 49) hx hb dX7_turn_96 (by decide) ?_
        exact ih49 H locs ls v_93 (upd inn_92 (Int32.toNatClampNeg s1_92) s2_92) hf hP hD hS (lv_sub hl [1, 2, 3, 4, 5, 0] rfl)
      refine lv_iload hx hb dX7_turn_49 (lv_at hl 5 rfl) ?_
      refine lv_iconst (v := 5) hx hb dX7_turn_51 (by decide) ?_
      refine lv_icmp_ge (tgt := 99) hx hb dX7_turn_52 (by decide) (fun c_52 => ?_) (fun c_52 => ?_)
      · replace hf := it_p c_52 hf
        refine lv_aload_n hx hb dX7_turn_99 rfl (lv_at hl 0 rfl) ?_
        refine lv_iload_n hx hb dX7_turn_100 rfl (lv_at hl 2 rfl) ?_
        replace hf := ob_e hf
        obtain ⟨u_101, hu_101, hf⟩ := hf
        refine ivW (As := [.int x2]) (rest := []) (st1 := []) (is := [0, 1, 2, 3, 4, 5]) (w1 := (wX7_0_4_5_6_7_8 cy ad thr_49 sta_49 pri tcd frt frp deg_49 num_49 u_101.1 inn_49 u_101.2)) ⟨hx, hb, hml, hown, hts⟩ hK hN (KX7_mix l D cy ad thr_49 sta_49 pri tcd frt frp deg_49 num_49 mad_49 inn_49 lon_49 x2 H.size hu_101) (cwV 1 hts gX7_turn_X7_mix rfl rfl rfl (by decide +kernel) ⟨Nat.le_of_ble_eq_true rfl, Nat.le_of_ble_eq_true rfl⟩) (va_recv hK hP (ci := 7) (q0 := 0) rfl rfl) hP hD hS hA P_nil (sepW_nil _) (by decide) rfl rfl rfl hl.1 rfl (Nat.le_of_ble_eq_true rfl) rfl dX7_turn_101 ⟨Nat.zero_le _, Nat.zero_le _⟩ (fun H locs hP hD hS => ?_)
        have hP : va_P D vwCl ((wX7_0_4_5_6_7_8 cy ad thr_49 sta_49 pri tcd frt frp deg_49 num_49 u_101.1 inn_49 u_101.2)) H := hP
        have hD : va_D A ((wX7_0_4_5_6_7_8 cy ad thr_49 sta_49 pri tcd frt frp deg_49 num_49 u_101.1 inn_49 u_101.2)) := hD
        refine lv_aload_n hx hb dX7_turn_104 rfl (lv_at hl 0 rfl) ?_
        refine va_get (a := (ad 0)) (ci := 7) (v := .ref (ad 6)) (C := RX7) (T := TX7) (N := 28) hx hb hts hin_X7 hown hK hP 0 rfl rfl 8 (by decide) hw_1 (fun _ h => h) rfl dX7_turn_105 ?_
        refine lv_iconst (v := 0) hx hb dX7_turn_108 (by decide) ?_
        refine lv_aload_n hx hb dX7_turn_109 rfl (lv_at hl 0 rfl) ?_
        refine lv_aload_n hx hb dX7_turn_110 rfl (lv_at hl 0 rfl) ?_
        refine va_get (a := (ad 0)) (ci := 7) (v := .ref (ad 6)) (C := RX7) (T := TX7) (N := 28) hx hb hts hin_X7 hown hK hP 0 rfl rfl 8 (by decide) hw_1 (fun _ h => h) rfl dX7_turn_111 ?_
        refine lv_iconst (v := 0) hx hb dX7_turn_114 (by decide) ?_
        replace hf := gi_e hf
        obtain ⟨i_115, hf⟩ := hf
        refine va_iald (a := (ad 6)) hx hb hK hP 3 0 rfl rfl i_115 dX7_turn_115 ?_
        refine lv_aload_n hx hb dX7_turn_116 rfl (lv_at hl 0 rfl) ?_
        refine lv_iload hx hb dX7_turn_117 (lv_at hl 4 rfl) ?_
        refine lv_i2l hx hb dX7_turn_119 rfl ?_
        replace hf := ob_e hf
        obtain ⟨u_120, hu_120, hf⟩ := hf
        refine ivR (As := [.long (Int32.toInt64 x4)]) (rest := [.int (u_101.1 (Int32.toNatClampNeg 0)), .ref (ad 0), .int 0, .ref (ad 6)]) (st1 := [.int u_120, .int (u_101.1 (Int32.toNatClampNeg 0)), .ref (ad 0), .int 0, .ref (ad 6)]) ⟨hx, hb, hml, hown, hts⟩ hK hN (KX7_modulo l D cy ad thr_49 sta_49 pri tcd frt frp (Int32.toInt64 x4) H.size hu_120) (cwV 1 hts gX7_turn_X7_modulo rfl rfl rfl (by decide +kernel) ⟨Nat.le_of_ble_eq_true rfl, Nat.le_of_ble_eq_true rfl⟩) (va_recv hK hP (ci := 7) (q0 := 0) rfl rfl) (P_pl (wc := (wX7_0 cy ad thr_49 sta_49 pri tcd frt frp)) (is := [0]) hP rfl) rfl hl.1 rfl (Nat.le_of_ble_eq_true rfl) rfl dX7_turn_120 ⟨Nat.zero_le _, Nat.zero_le _⟩ ?_
        refine lv_isub hx hb dX7_turn_123 ?_
        refine lv_i2l hx hb dX7_turn_124 rfl ?_
        replace hf := ob_e hf
        obtain ⟨u_125, hu_125, hf⟩ := hf
        refine ivR (As := [.long (Int32.toInt64 ((u_101.1 (Int32.toNatClampNeg 0)) - u_120))]) (rest := [.int 0, .ref (ad 6)]) (st1 := [.int u_125, .int 0, .ref (ad 6)]) ⟨hx, hb, hml, hown, hts⟩ hK hN (KX7_modulo l D cy ad thr_49 sta_49 pri tcd frt frp (Int32.toInt64 ((u_101.1 (Int32.toNatClampNeg 0)) - u_120)) H.size hu_125) (cwV 1 hts gX7_turn_X7_modulo rfl rfl rfl (by decide +kernel) ⟨Nat.le_of_ble_eq_true rfl, Nat.le_of_ble_eq_true rfl⟩) (va_recv hK hP (ci := 7) (q0 := 0) rfl rfl) (P_pl (wc := (wX7_0 cy ad thr_49 sta_49 pri tcd frt frp)) (is := [0]) hP rfl) rfl hl.1 rfl (Nat.le_of_ble_eq_true rfl) rfl dX7_turn_125 ⟨Nat.zero_le _, Nat.zero_le _⟩ ?_
        replace hf := gi_e hf
        obtain ⟨i_128, hf⟩ := hf
        refine va_iast (a := (ad 6)) hx hb hK hP hD hS 3 0 rfl rfl i_128 dX7_turn_128 (fun H locs hP hD hS => ?_)
        have hP : va_P D vwCl ((wX7_0_4_5_6_7_8 cy ad thr_49 sta_49 pri tcd frt frp deg_49 num_49 (upd u_101.1 (Int32.toNatClampNeg 0) u_125) inn_49 u_101.2)) H := hP
        have hD : va_D A ((wX7_0_4_5_6_7_8 cy ad thr_49 sta_49 pri tcd frt frp deg_49 num_49 (upd u_101.1 (Int32.toNatClampNeg 0) u_125) inn_49 u_101.2)) := hD
        refine lv_aload_n hx hb dX7_turn_129 rfl (lv_at hl 0 rfl) ?_
        refine lv_aload_n hx hb dX7_turn_130 rfl (lv_at hl 0 rfl) ?_
        refine lv_iload_n hx hb dX7_turn_131 rfl (lv_at hl 3 rfl) ?_
        refine lv_i2l hx hb dX7_turn_132 rfl ?_
        replace hf := ob_e hf
        obtain ⟨u_133, hu_133, hf⟩ := hf
        refine ivR (As := [.long (Int32.toInt64 x3)]) (rest := [.ref (ad 0)]) (st1 := [.int u_133, .ref (ad 0)]) ⟨hx, hb, hml, hown, hts⟩ hK hN (KX7_modulo l D cy ad thr_49 sta_49 pri tcd frt frp (Int32.toInt64 x3) H.size hu_133) (cwV 1 hts gX7_turn_X7_modulo rfl rfl rfl (by decide +kernel) ⟨Nat.le_of_ble_eq_true rfl, Nat.le_of_ble_eq_true rfl⟩) (va_recv hK hP (ci := 7) (q0 := 0) rfl rfl) (P_pl (wc := (wX7_0 cy ad thr_49 sta_49 pri tcd frt frp)) (is := [0]) hP rfl) rfl hl.1 rfl (Nat.le_of_ble_eq_true rfl) rfl dX7_turn_133 ⟨Nat.zero_le _, Nat.zero_le _⟩ ?_
        replace hf := ob_e hf
        obtain ⟨u_136, hu_136, hf⟩ := hf
        refine ivR (As := [.int u_133]) (rest := []) (st1 := [.int u_136]) ⟨hx, hb, hml, hown, hts⟩ hK hN (KX7_inverse l D cy ad thr_49 sta_49 pri tcd frt frp u_133 H.size hu_136) (cwV 1 hts gX7_turn_X7_inverse rfl rfl rfl (by decide +kernel) ⟨Nat.le_of_ble_eq_true rfl, Nat.le_of_ble_eq_true rfl⟩) (va_recv hK hP (ci := 7) (q0 := 0) rfl rfl) (P_pl (wc := (wX7_0 cy ad thr_49 sta_49 pri tcd frt frp)) (is := [0]) hP rfl) rfl hl.1 rfl (Nat.le_of_ble_eq_true rfl) rfl dX7_turn_136 ⟨Nat.zero_le _, Nat.zero_le _⟩ ?_
        refine lv_istore (lv' := [(5, .int u_136), (0, .ref (ad 0)), (1, .int x1), (2, .int x2), (3, .int x3), (4, .int x4)]) hx hb dX7_turn_139 hl (by decide) rfl (fun ls hl => ?_)
        refine lv_iconst (v := 0) hx hb dX7_turn_141 (by decide) ?_
        refine lv_istore (lv' := [(6, .int 0), (5, .int u_136), (0, .ref (ad 0)), (1, .int x1), (2, .int x2), (3, .int x3), (4, .int x4)]) hx hb dX7_turn_142 hl (by decide) rfl (fun ls hl => ?_)
        exact L144 u_136 thr_49 sta_49 deg_49 num_49 inn_49 u_101.2 FU H locs ls 0 (upd u_101.1 (Int32.toNatClampNeg 0) u_125) hf hP hD hS (lv_sub hl [2, 3, 1, 0] rfl)
      · replace hf := it_n c_52 hf
        refine lv_aload_n hx hb dX7_turn_55 rfl (lv_at hl 0 rfl) ?_
        refine va_get (a := (ad 0)) (ci := 7) (v := .ref (ad 7)) (C := RX7) (T := TX7) (N := 28) hx hb hts hin_X7 hown hK hP 0 rfl rfl 9 (by decide) hw_3 (fun _ h => h) rfl dX7_turn_56 ?_
        refine lv_iload hx hb dX7_turn_59 (lv_at hl 5 rfl) ?_
        refine lv_iload hx hb dX7_turn_61 (lv_at hl 5 rfl) ?_
        refine lv_if_ne (tgt := 76) hx hb dX7_turn_63 (by decide) (fun c_63 => ?_) (fun c_63 => ?_)
        · replace hf := it_n c_63 hf
          refine lv_iload hx hb dX7_turn_76 (lv_at hl 5 rfl) ?_
          refine lv_iconst (v := 1) hx hb dX7_turn_78 (by decide) ?_
          refine lv_icmp_ne (tgt := 91) hx hb dX7_turn_79 (by decide) (fun c_79 => ?_) (fun c_79 => ?_)
          · replace hf := it_n c_79 hf
            refine lv_iconst (v := 0) hx hb dX7_turn_91 (by decide) ?_
            exact J92 H locs ls x5_49 x5_49 0 inn_49 hf hP hD hS (lv_sub hl [0, 1, 2, 3, 4, 5] rfl)
          · replace hf := it_p c_79 hf
            refine lv_aload_n hx hb dX7_turn_82 rfl (lv_at hl 0 rfl) ?_
            refine lv_iload_n hx hb dX7_turn_83 rfl (lv_at hl 3 rfl) ?_
            refine lv_i2l hx hb dX7_turn_84 rfl ?_
            replace hf := ob_e hf
            obtain ⟨u_85, hu_85, hf⟩ := hf
            refine ivR (As := [.long (Int32.toInt64 x3)]) (rest := [.int x5_49, .ref (ad 7)]) (st1 := [.int u_85, .int x5_49, .ref (ad 7)]) ⟨hx, hb, hml, hown, hts⟩ hK hN (KX7_modulo l D cy ad thr_49 sta_49 pri tcd frt frp (Int32.toInt64 x3) H.size hu_85) (cwV 1 hts gX7_turn_X7_modulo rfl rfl rfl (by decide +kernel) ⟨Nat.le_of_ble_eq_true rfl, Nat.le_of_ble_eq_true rfl⟩) (va_recv hK hP (ci := 7) (q0 := 0) rfl rfl) (P_pl (wc := (wX7_0 cy ad thr_49 sta_49 pri tcd frt frp)) (is := [0]) hP rfl) rfl hl.1 rfl (Nat.le_of_ble_eq_true rfl) rfl dX7_turn_85 ⟨Nat.zero_le _, Nat.zero_le _⟩ ?_
            refine lv_goto (tgt := 92) hx hb dX7_turn_88 (by decide) ?_
            exact J92 H locs ls x5_49 x5_49 u_85 inn_49 hf hP hD hS (lv_sub hl [0, 1, 2, 3, 4, 5] rfl)
        · replace hf := it_p c_63 hf
          refine lv_aload_n hx hb dX7_turn_66 rfl (lv_at hl 0 rfl) ?_
          refine lv_iload hx hb dX7_turn_67 (lv_at hl 4 rfl) ?_
          refine lv_i2l hx hb dX7_turn_69 rfl ?_
          replace hf := ob_e hf
          obtain ⟨u_70, hu_70, hf⟩ := hf
          refine ivR (As := [.long (Int32.toInt64 x4)]) (rest := [.int x5_49, .ref (ad 7)]) (st1 := [.int u_70, .int x5_49, .ref (ad 7)]) ⟨hx, hb, hml, hown, hts⟩ hK hN (KX7_modulo l D cy ad thr_49 sta_49 pri tcd frt frp (Int32.toInt64 x4) H.size hu_70) (cwV 1 hts gX7_turn_X7_modulo rfl rfl rfl (by decide +kernel) ⟨Nat.le_of_ble_eq_true rfl, Nat.le_of_ble_eq_true rfl⟩) (va_recv hK hP (ci := 7) (q0 := 0) rfl rfl) (P_pl (wc := (wX7_0 cy ad thr_49 sta_49 pri tcd frt frp)) (is := [0]) hP rfl) rfl hl.1 rfl (Nat.le_of_ble_eq_true rfl) rfl dX7_turn_70 ⟨Nat.zero_le _, Nat.zero_le _⟩ ?_
          refine lv_goto (tgt := 92) hx hb dX7_turn_73 (by decide) ?_
          exact J92 H locs ls x5_49 x5_49 u_70 inn_49 hf hP hD hS (lv_sub hl [0, 1, 2, 3, 4, 5] rfl)
  unfold FX7_turn at hf
  refine lv_aload_n hx hb dX7_turn_0 rfl (lv_at hl 0 rfl) ?_
  refine lv_iconst (v := 0) hx hb dX7_turn_1 (by decide) ?_
  refine va_put (a := (ad 0)) (ci := 7) (v := .int 0) (ty := .int) (C := RX7) (T := TX7) (N := 28) hx hb hts hin_X7 tyX7 tyX7_ok nmX7 hown hK hP hD hS 0 rfl rfl 0 (by decide) hw_4 (fun _ h => h) rfl (by decide +kernel) rfl rfl (Nat.le_of_ble_eq_true rfl) dX7_turn_2 (fun H locs hP hD hS => ?_)
  have hP : va_P D vwCl ((wX7_0_4_5_6_7_8 cy ad 0 sta pri tcd frt frp deg num mad inn lon)) H := hP
  have hD : va_D A ((wX7_0_4_5_6_7_8 cy ad 0 sta pri tcd frt frp deg num mad inn lon)) := hD
  refine lv_iload_n hx hb dX7_turn_5 rfl (lv_at hl 1 rfl) ?_
  replace hf := ob_e hf
  obtain ⟨u_6, hu_6, hf⟩ := hf
  refine isR (As := [.int x1]) (rest := []) (st1 := [.int (bi u_6)]) ⟨hx, hb, hml, hown, hts⟩ hK hN (KX7_isPlace l D cy x1 H.size hu_6) (va_cwS 1 hts gX7_turn_X7_isPlace rfl rfl rfl (by decide +kernel) ⟨Nat.le_of_ble_eq_true rfl, Nat.le_of_ble_eq_true rfl⟩) P_nil rfl hl.1 rfl (Nat.le_of_ble_eq_true rfl) rfl dX7_turn_6 ⟨Nat.zero_le _, Nat.zero_le _⟩ ?_
  refine lv_if_eq (tgt := 28) hx hb dX7_turn_9 (by decide) (fun c_9 => ?_) (fun c_9 => ?_)
  · replace hf := it_p c_9 hf
    refine lv_ldc (own := RX7) (v := (-1000001)) hx hb hown hw_0 dX7_turn_28 ?_
    obtain rfl := Option.some.inj hf
    rw [← hQe]
    exact W.iret (v := (-1000001)) hx hb hr (fun t ht hW => ⟨rfl, by rw [ht]; exact hP, hS.F ht⟩) hS.2.2 dX7_turn_30
  · replace hf := it_n c_9 hf
    refine lv_iload_n hx hb dX7_turn_12 rfl (lv_at hl 2 rfl) ?_
    replace hf := ob_e hf
    obtain ⟨u_13, hu_13, hf⟩ := hf
    refine isR (As := [.int x2]) (rest := []) (st1 := [.int (bi u_13)]) ⟨hx, hb, hml, hown, hts⟩ hK hN (KX7_isPlace l D cy x2 H.size hu_13) (va_cwS 1 hts gX7_turn_X7_isPlace rfl rfl rfl (by decide +kernel) ⟨Nat.le_of_ble_eq_true rfl, Nat.le_of_ble_eq_true rfl⟩) P_nil rfl hl.1 rfl (Nat.le_of_ble_eq_true rfl) rfl dX7_turn_13 ⟨Nat.zero_le _, Nat.zero_le _⟩ ?_
    refine lv_if_eq (tgt := 28) hx hb dX7_turn_16 (by decide) (fun c_16 => ?_) (fun c_16 => ?_)
    · replace hf := it_p c_16 hf
      refine lv_ldc (own := RX7) (v := (-1000001)) hx hb hown hw_0 dX7_turn_28 ?_
      obtain rfl := Option.some.inj hf
      rw [← hQe]
      exact W.iret (v := (-1000001)) hx hb hr (fun t ht hW => ⟨rfl, by rw [ht]; exact hP, hS.F ht⟩) hS.2.2 dX7_turn_30
    · replace hf := it_n c_16 hf
      refine lv_aload_n hx hb dX7_turn_19 rfl (lv_at hl 0 rfl) ?_
      refine lv_iload_n hx hb dX7_turn_20 rfl (lv_at hl 3 rfl) ?_
      refine lv_i2l hx hb dX7_turn_21 rfl ?_
      replace hf := ob_e hf
      obtain ⟨u_22, hu_22, hf⟩ := hf
      refine ivR (As := [.long (Int32.toInt64 x3)]) (rest := []) (st1 := [.int u_22]) ⟨hx, hb, hml, hown, hts⟩ hK hN (KX7_modulo l D cy ad 0 sta pri tcd frt frp (Int32.toInt64 x3) H.size hu_22) (cwV 1 hts gX7_turn_X7_modulo rfl rfl rfl (by decide +kernel) ⟨Nat.le_of_ble_eq_true rfl, Nat.le_of_ble_eq_true rfl⟩) (va_recv hK hP (ci := 7) (q0 := 0) rfl rfl) (P_pl (wc := (wX7_0 cy ad 0 sta pri tcd frt frp)) (is := [0]) hP rfl) rfl hl.1 rfl (Nat.le_of_ble_eq_true rfl) rfl dX7_turn_22 ⟨Nat.zero_le _, Nat.zero_le _⟩ ?_
      refine lv_if_ne (tgt := 31) hx hb dX7_turn_25 (by decide) (fun c_25 => ?_) (fun c_25 => ?_)
      · replace hf := it_n c_25 hf
        refine lv_aload_n hx hb dX7_turn_31 rfl (lv_at hl 0 rfl) ?_
        refine va_get (a := (ad 0)) (ci := 7) (v := .ref (ad 4)) (C := RX7) (T := TX7) (N := 28) hx hb hts hin_X7 hown hK hP 0 rfl rfl 6 (by decide) hw_5 (fun _ h => h) rfl dX7_turn_32 ?_
        refine lv_iload_n hx hb dX7_turn_35 rfl (lv_at hl 2 rfl) ?_
        replace hf := gi_e hf
        obtain ⟨i_36, hf⟩ := hf
        refine va_iald (a := (ad 4)) hx hb hK hP 1 0 rfl rfl i_36 dX7_turn_36 ?_
        refine lv_if_ge (tgt := 46) hx hb dX7_turn_37 (by decide) (fun c_37 => ?_) (fun c_37 => ?_)
        · replace hf := it_p c_37 hf
          refine lv_iconst (v := 0) hx hb dX7_turn_46 (by decide) ?_
          refine lv_istore (lv' := [(5, .int 0), (0, .ref (ad 0)), (1, .int x1), (2, .int x2), (3, .int x3), (4, .int x4)]) hx hb dX7_turn_47 hl (by decide) rfl (fun ls hl => ?_)
          exact L49 0 sta deg num mad lon FU H locs ls 0 inn hf hP hD hS (lv_sub hl [1, 2, 3, 4, 5, 0] rfl)
        · replace hf := it_n c_37 hf
          refine lv_aload_n hx hb dX7_turn_40 rfl (lv_at hl 0 rfl) ?_
          refine lv_iconst (v := 1) hx hb dX7_turn_41 (by decide) ?_
          replace hf := ob_e hf
          obtain ⟨u_42, hu_42, hf⟩ := hf
          refine ivW (As := [.int 1]) (rest := []) (st1 := [.int u_42.1]) (is := [0]) (w1 := (wX7_0 cy ad 0 u_42.2 pri tcd frt frp)) ⟨hx, hb, hml, hown, hts⟩ hK hN (KX7_found l D cy ad 0 sta pri tcd frt frp 1 H.size hu_42) (cwV 1 hts gX7_turn_X7_found rfl rfl rfl (by decide +kernel) ⟨Nat.le_of_ble_eq_true rfl, Nat.le_of_ble_eq_true rfl⟩) (va_recv hK hP (ci := 7) (q0 := 0) rfl rfl) hP hD hS hA P_nil (sepW_nil _) (by decide) rfl rfl rfl hl.1 rfl (Nat.le_of_ble_eq_true rfl) rfl dX7_turn_42 ⟨Nat.zero_le _, Nat.zero_le _⟩ (fun H locs hP hD hS => ?_)
          have hP : va_P D vwCl ((wX7_0_4_5_6_7_8 cy ad 0 u_42.2 pri tcd frt frp deg num mad inn lon)) H := hP
          have hD : va_D A ((wX7_0_4_5_6_7_8 cy ad 0 u_42.2 pri tcd frt frp deg num mad inn lon)) := hD
          obtain rfl := Option.some.inj hf
          rw [← hQe]
          exact W.iret (v := u_42.1) hx hb hr (fun t ht hW => ⟨rfl, by rw [ht]; exact hP, hS.F ht⟩) hS.2.2 dX7_turn_45
      · replace hf := it_p c_25 hf
        refine lv_ldc (own := RX7) (v := (-1000001)) hx hb hown hw_0 dX7_turn_28 ?_
        obtain rfl := Option.some.inj hf
        rw [← hQe]
        exact W.iret (v := (-1000001)) hx hb hr (fun t ht hW => ⟨rfl, by rw [ht]; exact hP, hS.F ht⟩) hS.2.2 dX7_turn_30
def FX7_behind_J47   (thr_47 : Int32) (deg_47 : Nat → Int32) (num_47 : Nat → Int32) (mad_47 : Nat → Int32) (inn_47 : Nat → Int32) (lon_47 : Nat → Int32) : Option (Int32 × (Int32) × (Int32) × (Nat → Int32) × (Nat → Int32) × (Nat → Int32) × (Nat → Int32) × (Nat → Int32)) := (ob (FX7_found 1) (fun u_49 => some (u_49.1, thr_47, u_49.2, deg_47, num_47, mad_47, inn_47, lon_47)))
def FX7_behind_L76   (x1 : Int32) (x2 : Int32) (x3 : Int32) (thr_76 : Int32) (pri : Int32) (deg_76 : Nat → Int32) (num_76 : Nat → Int32) (mad_76 : Nat → Int32) (lon_76 : Nat → Int32) : Nat → Int32 → (Nat → Int32) → Option (Int32 × (Int32) × (Int32) × (Nat → Int32) × (Nat → Int32) × (Nat → Int32) × (Nat → Int32) × (Nat → Int32))
  | 0, _, _ => none
  | fuel + 1, x4_76, inn_76 => (if 5 ≤ x4_76 then (ob (FX7_mix pri deg_76 num_76 mad_76 inn_76 lon_76 x2) (fun u_108 => ob (FX7_lay deg_76 num_76 u_108.1 x1) (fun u_113 => some (u_113.1, thr_76, u_113.2.1, u_113.2.2.1, u_113.2.2.2, u_108.1, inn_76, u_108.2)))) else (gi ((5 * x3) + x4_76) 50 (gi x4_76 5 (bd (x4_76 + 1) (fun v_100 => (FX7_behind_L76 x1 x2 x3 thr_76 pri deg_76 num_76 mad_76 lon_76 fuel) v_100 (upd inn_76 (Int32.toNatClampNeg x4_76) (num_76 (Int32.toNatClampNeg ((5 * x3) + x4_76)))))))))
def FX7_behind  (sta : Int32) (pri : Int32) (deg : Nat → Int32) (num : Nat → Int32) (mad : Nat → Int32) (inn : Nat → Int32) (lon : Nat → Int32) (x1 : Int32) (x2 : Int32) (x3 : Int32) : Option (Int32 × (Int32) × (Int32) × (Nat → Int32) × (Nat → Int32) × (Nat → Int32) × (Nat → Int32) × (Nat → Int32)) := (ob (FX7_isPlace x1) (fun u_6 => if (bi u_6) = 0 then (some ((-1000001), 0, sta, deg, num, mad, inn, lon)) else (ob (FX7_isPlace x2) (fun u_13 => if (bi u_13) = 0 then (some ((-1000001), 0, sta, deg, num, mad, inn, lon)) else (ob (FX7_isPlace x3) (fun u_20 => if (bi u_20) = 0 then (some ((-1000001), 0, sta, deg, num, mad, inn, lon)) else (gi x2 10 (if (deg (Int32.toNatClampNeg x2)) < 0 then FX7_behind_J47 0 deg num mad inn lon else (gi x3 10 (if 0 ≤ (deg (Int32.toNatClampNeg x3)) then (gi x2 10 (gi x3 10 (if ((deg (Int32.toNatClampNeg x2)) * (deg (Int32.toNatClampNeg x3))) ≤ 4 then (FX7_behind_L76 x1 x2 x3 0 pri deg num mad lon FU 0 inn) else (some ((-1000003), 0, sta, deg, num, mad, inn, lon))))) else FX7_behind_J47 0 deg num mad inn lon))))))))))
abbrev RMX7_behind : Room := { frames := 2, cells := 0, slots := 0, locals := 45 }
set_option maxHeartbeats 4000000 in
set_option maxRecDepth 100000 in
theorem KX7_behind (l : Launch) (D : va_G) (cy : Nat → ClassId) (ad : Nat → Nat) (thr : Int32) (sta : Int32) (pri : Int32) (tcd : Int32) (frt : Int32) (frp : Int32) (deg : Nat → Int32) (num : Nat → Int32) (mad : Nat → Int32) (inn : Nat → Int32) (lon : Nat → Int32) (x1 : Int32) (x2 : Int32) (x3 : Int32) (sz : Nat) {out : Int32 × (Int32) × (Int32) × (Nat → Int32) × (Nat → Int32) × (Nat → Int32) × (Nat → Int32) × (Nat → Int32)} (hf : FX7_behind sta pri deg num mad inn lon x1 x2 x3 = some out) : Met l yX7_behind wsX7_behind RMX7_behind (PW D cy [.ref (ad 0), .int x1, .int x2, .int x3] sz ((wX7_0_4_5_6_7_8 cy ad thr sta pri tcd frt frp deg num mad inn lon)) []) (QW D (some (.int out.1)) ((wX7_0_4_5_6_7_8 cy ad out.2.1 out.2.2.1 pri tcd frt frp out.2.2.2.1 out.2.2.2.2.1 out.2.2.2.2.2.1 out.2.2.2.2.2.2.1 out.2.2.2.2.2.2.2)) (va_A ((wX7_0_4_5_6_7_8 cy ad thr sta pri tcd frt frp deg num mad inn lon)) sz)) 0 0 (va_A ((wX7_0_4_5_6_7_8 cy ad thr sta pri tcd frt frp deg num mad inn lon)) sz) := by
  refine Met.ofW (cc := cX7_behind) (maxL := 5) (ret := (some .int)) (by decide +kernel) rfl ?_
  intro p e s m args below meth c s₁ B hml hv
  obtain ⟨hav, hsz, hP, hR0, hK, hN, hD0, hsep⟩ := hv
  have hx := B.exec
  have hb := B.bytes
  have hr := B.returns
  have hts := atoms_spec (ws := wsX7_behind) B.pre
  have hown : s.vm.findClass RX7 = some m.cls := findClass_of_methodNamed B.named
  have hlocks := B.notSynchronized
  subst hsz
  have hin_X7 : ∀ w ∈ u_ws RX7 TX7 28, w ∈ wsX7_behind := by decide +kernel
  have hw_0 := hts (.constant RX7 108 (-1000001)) (by decide +kernel)
  have hw_1 := hts (.constant RX7 139 (-1000003)) (by decide +kernel)
  have hw_2 := hts (.fieldLink RX7 37 "ReturnPointsModel" "inner" "[I") (by decide +kernel)
  have hw_3 := hts (.fieldLink RX7 31 "ReturnPointsModel" "number" "[I") (by decide +kernel)
  have hw_4 := hts (.fieldLink RX7 1 "ReturnPointsModel" "thrown" "I") (by decide +kernel)
  have hw_5 := hts (.fieldLink RX7 28 "ReturnPointsModel" "degree" "[I") (by decide +kernel)
  have hD := hD0.self (sz := s.heap.size)
  have hnA := roA hsep hR0
  generalize hAe : va_A ((wX7_0_4_5_6_7_8 cy ad thr sta pri tcd frt frp deg num mad inn lon)) s.heap.size = A at hD hnA ⊢
  have hA : ∀ q : Nat, s.heap.size ≤ q → A q := fun q h => by rw [← hAe]; exact Or.inr h
  have hS : va_S A s.heap s.heap [] := va_S.rf
  obtain ⟨ls, hfr, hl⟩ := ent_ok (m := m) (n := 5) (l' := [(0, .ref (ad 0)), (1, .int x1), (2, .int x2), (3, .int x3)]) [.ref (ad 0), .int x1, .int x2, .int x3] hav (Nat.le_of_ble_eq_true rfl) rfl
  rw [hfr]
  generalize hQe : MQ below (QW D (some (.int out.1)) ((wX7_0_4_5_6_7_8 cy ad out.2.1 out.2.2.1 pri tcd frt frp out.2.2.2.1 out.2.2.2.2.1 out.2.2.2.2.2.1 out.2.2.2.2.2.2.1 out.2.2.2.2.2.2.2)) A) args s 0 0 A = QQ
  change W p l e RMX7_behind s m args below meth c s.heap [] 0 0 QQ (F0 m 0 ls [])
  have hP : va_P D vwCl ((wX7_0_4_5_6_7_8 cy ad thr sta pri tcd frt frp deg num mad inn lon)) s.heap := hP
  have hD : va_D A ((wX7_0_4_5_6_7_8 cy ad thr sta pri tcd frt frp deg num mad inn lon)) := hD
  suffices h00 : ∀ (H : Heap) (locs : List Loc), va_P D vwCl ((wX7_0_4_5_6_7_8 cy ad thr sta pri tcd frt frp deg num mad inn lon)) H → va_S A s.heap H locs → W p l e RMX7_behind s m args below meth c H locs 0 0 QQ (F0 m 0 ls []) from h00 _ _ hP hS
  clear hP hS
  intro H locs hP hS
  have J47 : ∀ (H : Heap) (locs : List Loc) (ls : Array Slot) (thr_47 : Int32) (sta_47 : Int32) (deg_47 : Nat → Int32) (num_47 : Nat → Int32) (mad_47 : Nat → Int32) (inn_47 : Nat → Int32) (lon_47 : Nat → Int32), FX7_behind_J47 thr_47 deg_47 num_47 mad_47 inn_47 lon_47 = some out → va_P D vwCl ((wX7_0_4_5_6_7_8 cy ad thr_47 sta_47 pri tcd frt frp deg_47 num_47 mad_47 inn_47 lon_47)) H → va_D A ((wX7_0_4_5_6_7_8 cy ad thr_47 sta_47 pri tcd frt frp deg_47 num_47 mad_47 inn_47 lon_47)) → va_S A s.heap H locs → lv_has ls 5 [(0, .ref (ad 0))] → W p l e RMX7_behind s m args below meth c H locs 0 0 QQ (F0 m 47 ls []) := by
    intro H locs ls thr_47 sta_47 deg_47 num_47 mad_47 inn_47 lon_47 hf hP hD hS hl
    unfold FX7_behind_J47 at hf
    refine lv_aload_n hx hb dX7_behind_47 rfl (lv_at hl 0 rfl) ?_
    refine lv_iconst (v := 1) hx hb dX7_behind_48 (by decide) ?_
    replace hf := ob_e hf
    obtain ⟨u_49, hu_49, hf⟩ := hf
    refine ivW (As := [.int 1]) (rest := []) (st1 := [.int u_49.1]) (is := [0]) (w1 := (wX7_0 cy ad thr_47 u_49.2 pri tcd frt frp)) ⟨hx, hb, hml, hown, hts⟩ hK hN (KX7_found l D cy ad thr_47 sta_47 pri tcd frt frp 1 H.size hu_49) (cwV 1 hts gX7_behind_X7_found rfl rfl rfl (by decide +kernel) ⟨Nat.le_of_ble_eq_true rfl, Nat.le_of_ble_eq_true rfl⟩) (va_recv hK hP (ci := 7) (q0 := 0) rfl rfl) hP hD hS hA P_nil (sepW_nil _) (by decide) rfl rfl rfl hl.1 rfl (Nat.le_of_ble_eq_true rfl) rfl dX7_behind_49 ⟨Nat.zero_le _, Nat.zero_le _⟩ (fun H locs hP hD hS => ?_)
    have hP : va_P D vwCl ((wX7_0_4_5_6_7_8 cy ad thr_47 u_49.2 pri tcd frt frp deg_47 num_47 mad_47 inn_47 lon_47)) H := hP
    have hD : va_D A ((wX7_0_4_5_6_7_8 cy ad thr_47 u_49.2 pri tcd frt frp deg_47 num_47 mad_47 inn_47 lon_47)) := hD
    obtain rfl := Option.some.inj hf
    rw [← hQe]
    exact W.iret (v := u_49.1) hx hb hr (fun t ht hW => ⟨rfl, by rw [ht]; exact hP, hS.F ht⟩) hS.2.2 dX7_behind_52
  have L76 : ∀ (thr_76 : Int32) (sta_76 : Int32) (deg_76 : Nat → Int32) (num_76 : Nat → Int32) (mad_76 : Nat → Int32) (lon_76 : Nat → Int32) (n76 : Nat) (H : Heap) (locs : List Loc) (ls : Array Slot) (x4_76 : Int32) (inn_76 : Nat → Int32), FX7_behind_L76 x1 x2 x3 thr_76 pri deg_76 num_76 mad_76 lon_76 n76 x4_76 inn_76 = some out → va_P D vwCl ((wX7_0_4_5_6_7_8 cy ad thr_76 sta_76 pri tcd frt frp deg_76 num_76 mad_76 inn_76 lon_76)) H → va_D A ((wX7_0_4_5_6_7_8 cy ad thr_76 sta_76 pri tcd frt frp deg_76 num_76 mad_76 inn_76 lon_76)) → va_S A s.heap H locs → lv_has ls 5 [(0, .ref (ad 0)), (1, .int x1), (2, .int x2), (3, .int x3), (4, .int x4_76)] → W p l e RMX7_behind s m args below meth c H locs 0 0 QQ (F0 m 76 ls []) := by
    intro thr_76 sta_76 deg_76 num_76 mad_76 lon_76 n76
    induction n76 with
    | zero => intro H locs ls x4_76 inn_76 hf; simp [FX7_behind_L76] at hf
    | succ n76 ih76 =>
      intro H locs ls x4_76 inn_76 hf hP hD hS hl
      rw [FX7_behind_L76] at hf
      refine lv_iload hx hb dX7_behind_76 (lv_at hl 4 rfl) ?_
      refine lv_iconst (v := 5) hx hb dX7_behind_78 (by decide) ?_
      refine lv_icmp_ge (tgt := 106) hx hb dX7_behind_79 (by decide) (fun c_79 => ?_) (fun c_79 => ?_)
      · replace hf := it_p c_79 hf
        refine lv_aload_n hx hb dX7_behind_106 rfl (lv_at hl 0 rfl) ?_
        refine lv_iload_n hx hb dX7_behind_107 rfl (lv_at hl 2 rfl) ?_
        replace hf := ob_e hf
        obtain ⟨u_108, hu_108, hf⟩ := hf
        refine ivW (As := [.int x2]) (rest := []) (st1 := []) (is := [0, 1, 2, 3, 4, 5]) (w1 := (wX7_0_4_5_6_7_8 cy ad thr_76 sta_76 pri tcd frt frp deg_76 num_76 u_108.1 inn_76 u_108.2)) ⟨hx, hb, hml, hown, hts⟩ hK hN (KX7_mix l D cy ad thr_76 sta_76 pri tcd frt frp deg_76 num_76 mad_76 inn_76 lon_76 x2 H.size hu_108) (cwV 1 hts gX7_behind_X7_mix rfl rfl rfl (by decide +kernel) ⟨Nat.le_of_ble_eq_true rfl, Nat.le_of_ble_eq_true rfl⟩) (va_recv hK hP (ci := 7) (q0 := 0) rfl rfl) hP hD hS hA P_nil (sepW_nil _) (by decide) rfl rfl rfl hl.1 rfl (Nat.le_of_ble_eq_true rfl) rfl dX7_behind_108 ⟨Nat.zero_le _, Nat.zero_le _⟩ (fun H locs hP hD hS => ?_)
        have hP : va_P D vwCl ((wX7_0_4_5_6_7_8 cy ad thr_76 sta_76 pri tcd frt frp deg_76 num_76 u_108.1 inn_76 u_108.2)) H := hP
        have hD : va_D A ((wX7_0_4_5_6_7_8 cy ad thr_76 sta_76 pri tcd frt frp deg_76 num_76 u_108.1 inn_76 u_108.2)) := hD
        refine lv_aload_n hx hb dX7_behind_111 rfl (lv_at hl 0 rfl) ?_
        refine lv_iload_n hx hb dX7_behind_112 rfl (lv_at hl 1 rfl) ?_
        replace hf := ob_e hf
        obtain ⟨u_113, hu_113, hf⟩ := hf
        refine ivW (As := [.int x1]) (rest := []) (st1 := [.int u_113.1]) (is := [0, 1, 2, 3]) (w1 := (wX7_0_4_5_6 cy ad thr_76 u_113.2.1 pri tcd frt frp u_113.2.2.1 u_113.2.2.2 u_108.1)) ⟨hx, hb, hml, hown, hts⟩ hK hN (KX7_lay l D cy ad thr_76 sta_76 pri tcd frt frp deg_76 num_76 u_108.1 x1 H.size hu_113) (cwV 1 hts gX7_behind_X7_lay rfl rfl rfl (by decide +kernel) ⟨Nat.le_of_ble_eq_true rfl, Nat.le_of_ble_eq_true rfl⟩) (va_recv hK hP (ci := 7) (q0 := 0) rfl rfl) hP hD hS hA P_nil (sepW_nil _) (by decide) rfl rfl rfl hl.1 rfl (Nat.le_of_ble_eq_true rfl) rfl dX7_behind_113 ⟨Nat.zero_le _, Nat.zero_le _⟩ (fun H locs hP hD hS => ?_)
        have hP : va_P D vwCl ((wX7_0_4_5_6_7_8 cy ad thr_76 u_113.2.1 pri tcd frt frp u_113.2.2.1 u_113.2.2.2 u_108.1 inn_76 u_108.2)) H := hP
        have hD : va_D A ((wX7_0_4_5_6_7_8 cy ad thr_76 u_113.2.1 pri tcd frt frp u_113.2.2.1 u_113.2.2.2 u_108.1 inn_76 u_108.2)) := hD
        obtain rfl := Option.some.inj hf
        rw [← hQe]
        exact W.iret (v := u_113.1) hx hb hr (fun t ht hW => ⟨rfl, by rw [ht]; exact hP, hS.F ht⟩) hS.2.2 dX7_behind_116
      · replace hf := it_n c_79 hf
        refine lv_aload_n hx hb dX7_behind_82 rfl (lv_at hl 0 rfl) ?_
        refine va_get (a := (ad 0)) (ci := 7) (v := .ref (ad 7)) (C := RX7) (T := TX7) (N := 28) hx hb hts hin_X7 hown hK hP 0 rfl rfl 9 (by decide) hw_2 (fun _ h => h) rfl dX7_behind_83 ?_
        refine lv_iload hx hb dX7_behind_86 (lv_at hl 4 rfl) ?_
        refine lv_aload_n hx hb dX7_behind_88 rfl (lv_at hl 0 rfl) ?_
        refine va_get (a := (ad 0)) (ci := 7) (v := .ref (ad 5)) (C := RX7) (T := TX7) (N := 28) hx hb hts hin_X7 hown hK hP 0 rfl rfl 7 (by decide) hw_3 (fun _ h => h) rfl dX7_behind_89 ?_
        refine lv_iconst (v := 5) hx hb dX7_behind_92 (by decide) ?_
        refine lv_iload_n hx hb dX7_behind_93 rfl (lv_at hl 3 rfl) ?_
        refine lv_imul hx hb dX7_behind_94 ?_
        refine lv_iload hx hb dX7_behind_95 (lv_at hl 4 rfl) ?_
        refine lv_iadd hx hb dX7_behind_97 ?_
        replace hf := gi_e hf
        obtain ⟨i_98, hf⟩ := hf
        refine va_iald (a := (ad 5)) hx hb hK hP 2 0 rfl rfl i_98 dX7_behind_98 ?_
        replace hf := gi_e hf
        obtain ⟨i_99, hf⟩ := hf
        refine va_iast (a := (ad 7)) hx hb hK hP hD hS 4 0 rfl rfl i_99 dX7_behind_99 (fun H locs hP hD hS => ?_)
        have hP : va_P D vwCl ((wX7_0_4_5_6_7_8 cy ad thr_76 sta_76 pri tcd frt frp deg_76 num_76 mad_76 (upd inn_76 (Int32.toNatClampNeg x4_76) (num_76 (Int32.toNatClampNeg ((5 * x3) + x4_76)))) lon_76)) H := hP
        have hD : va_D A ((wX7_0_4_5_6_7_8 cy ad thr_76 sta_76 pri tcd frt frp deg_76 num_76 mad_76 (upd inn_76 (Int32.toNatClampNeg x4_76) (num_76 (Int32.toNatClampNeg ((5 * x3) + x4_76)))) lon_76)) := hD
        obtain ⟨v_100, e_100⟩ : ∃ y : Int32, y = x4_76 + 1 := ⟨_, rfl⟩
        replace hf := bd_at e_100 hf
        refine lv_iinc (v := v_100) (lv' := [(4, .int v_100), (0, .ref (ad 0)), (1, .int x1), (2, .int x2), (3, .int x3)]) hx hb dX7_behind_100 hl (k := 4) rfl (by rw [e_100]; rfl) (by decide) rfl (fun ls hl => ?_)
        clear e_100
        refine lv_goto (tgt := 76) hx hb dX7_behind_103 (by decide) ?_
        exact ih76 H locs ls v_100 (upd inn_76 (Int32.toNatClampNeg x4_76) (num_76 (Int32.toNatClampNeg ((5 * x3) + x4_76)))) hf hP hD hS (lv_sub hl [1, 2, 3, 4, 0] rfl)
  unfold FX7_behind at hf
  refine lv_aload_n hx hb dX7_behind_0 rfl (lv_at hl 0 rfl) ?_
  refine lv_iconst (v := 0) hx hb dX7_behind_1 (by decide) ?_
  refine va_put (a := (ad 0)) (ci := 7) (v := .int 0) (ty := .int) (C := RX7) (T := TX7) (N := 28) hx hb hts hin_X7 tyX7 tyX7_ok nmX7 hown hK hP hD hS 0 rfl rfl 0 (by decide) hw_4 (fun _ h => h) rfl (by decide +kernel) rfl rfl (Nat.le_of_ble_eq_true rfl) dX7_behind_2 (fun H locs hP hD hS => ?_)
  have hP : va_P D vwCl ((wX7_0_4_5_6_7_8 cy ad 0 sta pri tcd frt frp deg num mad inn lon)) H := hP
  have hD : va_D A ((wX7_0_4_5_6_7_8 cy ad 0 sta pri tcd frt frp deg num mad inn lon)) := hD
  refine lv_iload_n hx hb dX7_behind_5 rfl (lv_at hl 1 rfl) ?_
  replace hf := ob_e hf
  obtain ⟨u_6, hu_6, hf⟩ := hf
  refine isR (As := [.int x1]) (rest := []) (st1 := [.int (bi u_6)]) ⟨hx, hb, hml, hown, hts⟩ hK hN (KX7_isPlace l D cy x1 H.size hu_6) (va_cwS 1 hts gX7_behind_X7_isPlace rfl rfl rfl (by decide +kernel) ⟨Nat.le_of_ble_eq_true rfl, Nat.le_of_ble_eq_true rfl⟩) P_nil rfl hl.1 rfl (Nat.le_of_ble_eq_true rfl) rfl dX7_behind_6 ⟨Nat.zero_le _, Nat.zero_le _⟩ ?_
  refine lv_if_eq (tgt := 26) hx hb dX7_behind_9 (by decide) (fun c_9 => ?_) (fun c_9 => ?_)
  · replace hf := it_p c_9 hf
    refine lv_ldc (own := RX7) (v := (-1000001)) hx hb hown hw_0 dX7_behind_26 ?_
    obtain rfl := Option.some.inj hf
    rw [← hQe]
    exact W.iret (v := (-1000001)) hx hb hr (fun t ht hW => ⟨rfl, by rw [ht]; exact hP, hS.F ht⟩) hS.2.2 dX7_behind_28
  · replace hf := it_n c_9 hf
    refine lv_iload_n hx hb dX7_behind_12 rfl (lv_at hl 2 rfl) ?_
    replace hf := ob_e hf
    obtain ⟨u_13, hu_13, hf⟩ := hf
    refine isR (As := [.int x2]) (rest := []) (st1 := [.int (bi u_13)]) ⟨hx, hb, hml, hown, hts⟩ hK hN (KX7_isPlace l D cy x2 H.size hu_13) (va_cwS 1 hts gX7_behind_X7_isPlace rfl rfl rfl (by decide +kernel) ⟨Nat.le_of_ble_eq_true rfl, Nat.le_of_ble_eq_true rfl⟩) P_nil rfl hl.1 rfl (Nat.le_of_ble_eq_true rfl) rfl dX7_behind_13 ⟨Nat.zero_le _, Nat.zero_le _⟩ ?_
    refine lv_if_eq (tgt := 26) hx hb dX7_behind_16 (by decide) (fun c_16 => ?_) (fun c_16 => ?_)
    · replace hf := it_p c_16 hf
      refine lv_ldc (own := RX7) (v := (-1000001)) hx hb hown hw_0 dX7_behind_26 ?_
      obtain rfl := Option.some.inj hf
      rw [← hQe]
      exact W.iret (v := (-1000001)) hx hb hr (fun t ht hW => ⟨rfl, by rw [ht]; exact hP, hS.F ht⟩) hS.2.2 dX7_behind_28
    · replace hf := it_n c_16 hf
      refine lv_iload_n hx hb dX7_behind_19 rfl (lv_at hl 3 rfl) ?_
      replace hf := ob_e hf
      obtain ⟨u_20, hu_20, hf⟩ := hf
      refine isR (As := [.int x3]) (rest := []) (st1 := [.int (bi u_20)]) ⟨hx, hb, hml, hown, hts⟩ hK hN (KX7_isPlace l D cy x3 H.size hu_20) (va_cwS 1 hts gX7_behind_X7_isPlace rfl rfl rfl (by decide +kernel) ⟨Nat.le_of_ble_eq_true rfl, Nat.le_of_ble_eq_true rfl⟩) P_nil rfl hl.1 rfl (Nat.le_of_ble_eq_true rfl) rfl dX7_behind_20 ⟨Nat.zero_le _, Nat.zero_le _⟩ ?_
      refine lv_if_ne (tgt := 29) hx hb dX7_behind_23 (by decide) (fun c_23 => ?_) (fun c_23 => ?_)
      · replace hf := it_n c_23 hf
        refine lv_aload_n hx hb dX7_behind_29 rfl (lv_at hl 0 rfl) ?_
        refine va_get (a := (ad 0)) (ci := 7) (v := .ref (ad 4)) (C := RX7) (T := TX7) (N := 28) hx hb hts hin_X7 hown hK hP 0 rfl rfl 6 (by decide) hw_5 (fun _ h => h) rfl dX7_behind_30 ?_
        refine lv_iload_n hx hb dX7_behind_33 rfl (lv_at hl 2 rfl) ?_
        replace hf := gi_e hf
        obtain ⟨i_34, hf⟩ := hf
        refine va_iald (a := (ad 4)) hx hb hK hP 1 0 rfl rfl i_34 dX7_behind_34 ?_
        refine lv_if_lt (tgt := 47) hx hb dX7_behind_35 (by decide) (fun c_35 => ?_) (fun c_35 => ?_)
        · replace hf := it_p c_35 hf
          exact J47 H locs ls 0 sta deg num mad inn lon hf hP hD hS (lv_sub hl [0] rfl)
        · replace hf := it_n c_35 hf
          refine lv_aload_n hx hb dX7_behind_38 rfl (lv_at hl 0 rfl) ?_
          refine va_get (a := (ad 0)) (ci := 7) (v := .ref (ad 4)) (C := RX7) (T := TX7) (N := 28) hx hb hts hin_X7 hown hK hP 0 rfl rfl 6 (by decide) hw_5 (fun _ h => h) rfl dX7_behind_39 ?_
          refine lv_iload_n hx hb dX7_behind_42 rfl (lv_at hl 3 rfl) ?_
          replace hf := gi_e hf
          obtain ⟨i_43, hf⟩ := hf
          refine va_iald (a := (ad 4)) hx hb hK hP 1 0 rfl rfl i_43 dX7_behind_43 ?_
          refine lv_if_ge (tgt := 53) hx hb dX7_behind_44 (by decide) (fun c_44 => ?_) (fun c_44 => ?_)
          · replace hf := it_p c_44 hf
            refine lv_aload_n hx hb dX7_behind_53 rfl (lv_at hl 0 rfl) ?_
            refine va_get (a := (ad 0)) (ci := 7) (v := .ref (ad 4)) (C := RX7) (T := TX7) (N := 28) hx hb hts hin_X7 hown hK hP 0 rfl rfl 6 (by decide) hw_5 (fun _ h => h) rfl dX7_behind_54 ?_
            refine lv_iload_n hx hb dX7_behind_57 rfl (lv_at hl 2 rfl) ?_
            replace hf := gi_e hf
            obtain ⟨i_58, hf⟩ := hf
            refine va_iald (a := (ad 4)) hx hb hK hP 1 0 rfl rfl i_58 dX7_behind_58 ?_
            refine lv_aload_n hx hb dX7_behind_59 rfl (lv_at hl 0 rfl) ?_
            refine va_get (a := (ad 0)) (ci := 7) (v := .ref (ad 4)) (C := RX7) (T := TX7) (N := 28) hx hb hts hin_X7 hown hK hP 0 rfl rfl 6 (by decide) hw_5 (fun _ h => h) rfl dX7_behind_60 ?_
            refine lv_iload_n hx hb dX7_behind_63 rfl (lv_at hl 3 rfl) ?_
            replace hf := gi_e hf
            obtain ⟨i_64, hf⟩ := hf
            refine va_iald (a := (ad 4)) hx hb hK hP 1 0 rfl rfl i_64 dX7_behind_64 ?_
            refine lv_imul hx hb dX7_behind_65 ?_
            refine lv_iconst (v := 4) hx hb dX7_behind_66 (by decide) ?_
            refine lv_icmp_le (tgt := 73) hx hb dX7_behind_67 (by decide) (fun c_67 => ?_) (fun c_67 => ?_)
            · replace hf := it_p c_67 hf
              refine lv_iconst (v := 0) hx hb dX7_behind_73 (by decide) ?_
              refine lv_istore (lv' := [(4, .int 0), (0, .ref (ad 0)), (1, .int x1), (2, .int x2), (3, .int x3)]) hx hb dX7_behind_74 hl (by decide) rfl (fun ls hl => ?_)
              exact L76 0 sta deg num mad lon FU H locs ls 0 inn hf hP hD hS (lv_sub hl [1, 2, 3, 4, 0] rfl)
            · replace hf := it_n c_67 hf
              refine lv_ldc (own := RX7) (v := (-1000003)) hx hb hown hw_1 dX7_behind_70 ?_
              obtain rfl := Option.some.inj hf
              rw [← hQe]
              exact W.iret (v := (-1000003)) hx hb hr (fun t ht hW => ⟨rfl, by rw [ht]; exact hP, hS.F ht⟩) hS.2.2 dX7_behind_72
          · replace hf := it_n c_44 hf
            exact J47 H locs ls 0 sta deg num mad inn lon hf hP hD hS (lv_sub hl [0] rfl)
      · replace hf := it_p c_23 hf
        refine lv_ldc (own := RX7) (v := (-1000001)) hx hb hown hw_0 dX7_behind_26 ?_
        obtain rfl := Option.some.inj hf
        rw [← hQe]
        exact W.iret (v := (-1000001)) hx hb hr (fun t ht hW => ⟨rfl, by rw [ht]; exact hP, hS.F ht⟩) hS.2.2 dX7_behind_28
def FX7_clear_J29   (x1 : Int32) (s0_29 : Bool) (thr_29 : Int32) (deg_29 : Nat → Int32) : Option (Int32 × (Int32) × (Nat → Int32)) := (gi x1 10 (if (bi s0_29) = 0 then ((some (0, thr_29, (upd deg_29 (Int32.toNatClampNeg x1) (-1))))) else ((some (1, thr_29, (upd deg_29 (Int32.toNatClampNeg x1) (-1)))))))
def FX7_clear  (deg : Nat → Int32) (x1 : Int32) : Option (Int32 × (Int32) × (Nat → Int32)) := (ob (FX7_isPlace x1) (fun u_6 => if (bi u_6) = 0 then (some ((-1000001), 0, deg)) else (gi x1 10 (if (deg (Int32.toNatClampNeg x1)) < 0 then (FX7_clear_J29 x1 false 0 deg) else (FX7_clear_J29 x1 true 0 deg)))))
abbrev RMX7_clear : Room := { frames := 2, cells := 0, slots := 0, locals := 45 }
set_option maxHeartbeats 4000000 in
set_option maxRecDepth 100000 in
theorem KX7_clear (l : Launch) (D : va_G) (cy : Nat → ClassId) (ad : Nat → Nat) (thr : Int32) (sta : Int32) (pri : Int32) (tcd : Int32) (frt : Int32) (frp : Int32) (deg : Nat → Int32) (x1 : Int32) (sz : Nat) {out : Int32 × (Int32) × (Nat → Int32)} (hf : FX7_clear deg x1 = some out) : Met l yX7_clear wsX7_clear RMX7_clear (PW D cy [.ref (ad 0), .int x1] sz ((wX7_0_4 cy ad thr sta pri tcd frt frp deg)) []) (QW D (some (.int out.1)) ((wX7_0_4 cy ad out.2.1 sta pri tcd frt frp out.2.2)) (va_A ((wX7_0_4 cy ad thr sta pri tcd frt frp deg)) sz)) 0 0 (va_A ((wX7_0_4 cy ad thr sta pri tcd frt frp deg)) sz) := by
  refine Met.ofW (cc := cX7_clear) (maxL := 3) (ret := (some .int)) (by decide +kernel) rfl ?_
  intro p e s m args below meth c s₁ B hml hv
  obtain ⟨hav, hsz, hP, hR0, hK, hN, hD0, hsep⟩ := hv
  have hx := B.exec
  have hb := B.bytes
  have hr := B.returns
  have hts := atoms_spec (ws := wsX7_clear) B.pre
  have hown : s.vm.findClass RX7 = some m.cls := findClass_of_methodNamed B.named
  have hlocks := B.notSynchronized
  subst hsz
  have hin_X7 : ∀ w ∈ u_ws RX7 TX7 28, w ∈ wsX7_clear := by decide +kernel
  have hw_0 := hts (.constant RX7 108 (-1000001)) (by decide +kernel)
  have hw_1 := hts (.fieldLink RX7 28 "ReturnPointsModel" "degree" "[I") (by decide +kernel)
  have hw_2 := hts (.fieldLink RX7 1 "ReturnPointsModel" "thrown" "I") (by decide +kernel)
  have hD := hD0.self (sz := s.heap.size)
  have hnA := roA hsep hR0
  generalize hAe : va_A ((wX7_0_4 cy ad thr sta pri tcd frt frp deg)) s.heap.size = A at hD hnA ⊢
  have hA : ∀ q : Nat, s.heap.size ≤ q → A q := fun q h => by rw [← hAe]; exact Or.inr h
  have hS : va_S A s.heap s.heap [] := va_S.rf
  obtain ⟨ls, hfr, hl⟩ := ent_ok (m := m) (n := 3) (l' := [(0, .ref (ad 0)), (1, .int x1)]) [.ref (ad 0), .int x1] hav (Nat.le_of_ble_eq_true rfl) rfl
  rw [hfr]
  generalize hQe : MQ below (QW D (some (.int out.1)) ((wX7_0_4 cy ad out.2.1 sta pri tcd frt frp out.2.2)) A) args s 0 0 A = QQ
  change W p l e RMX7_clear s m args below meth c s.heap [] 0 0 QQ (F0 m 0 ls [])
  have hP : va_P D vwCl ((wX7_0_4 cy ad thr sta pri tcd frt frp deg)) s.heap := hP
  have hD : va_D A ((wX7_0_4 cy ad thr sta pri tcd frt frp deg)) := hD
  suffices h00 : ∀ (H : Heap) (locs : List Loc), va_P D vwCl ((wX7_0_4 cy ad thr sta pri tcd frt frp deg)) H → va_S A s.heap H locs → W p l e RMX7_clear s m args below meth c H locs 0 0 QQ (F0 m 0 ls []) from h00 _ _ hP hS
  clear hP hS
  intro H locs hP hS
  have J29 : ∀ (H : Heap) (locs : List Loc) (ls : Array Slot) (s0_29 : Bool) (thr_29 : Int32) (deg_29 : Nat → Int32), FX7_clear_J29 x1 s0_29 thr_29 deg_29 = some out → va_P D vwCl ((wX7_0_4 cy ad thr_29 sta pri tcd frt frp deg_29)) H → va_D A ((wX7_0_4 cy ad thr_29 sta pri tcd frt frp deg_29)) → va_S A s.heap H locs → lv_has ls 3 [(0, .ref (ad 0)), (1, .int x1)] → W p l e RMX7_clear s m args below meth c H locs 0 0 QQ (F0 m 29 ls [.int (bi s0_29)]) := by
    intro H locs ls s0_29 thr_29 deg_29 hf hP hD hS hl
    unfold FX7_clear_J29 at hf
    refine lv_istore_n (lv' := [(2, .int (bi s0_29)), (0, .ref (ad 0)), (1, .int x1)]) hx hb dX7_clear_29 rfl hl (by decide) rfl (fun ls hl => ?_)
    refine lv_aload_n hx hb dX7_clear_30 rfl (lv_at hl 1 rfl) ?_
    refine va_get (a := (ad 0)) (ci := 7) (v := .ref (ad 4)) (C := RX7) (T := TX7) (N := 28) hx hb hts hin_X7 hown hK hP 0 rfl rfl 6 (by decide) hw_1 (fun _ h => h) rfl dX7_clear_31 ?_
    refine lv_iload_n hx hb dX7_clear_34 rfl (lv_at hl 2 rfl) ?_
    refine lv_iconst (v := (-1)) hx hb dX7_clear_35 (by decide) ?_
    replace hf := gi_e hf
    obtain ⟨i_36, hf⟩ := hf
    refine va_iast (a := (ad 4)) hx hb hK hP hD hS 1 0 rfl rfl i_36 dX7_clear_36 (fun H locs hP hD hS => ?_)
    have hP : va_P D vwCl ((wX7_0_4 cy ad thr_29 sta pri tcd frt frp (upd deg_29 (Int32.toNatClampNeg x1) (-1)))) H := hP
    have hD : va_D A ((wX7_0_4 cy ad thr_29 sta pri tcd frt frp (upd deg_29 (Int32.toNatClampNeg x1) (-1)))) := hD
    refine lv_iload_n hx hb dX7_clear_37 rfl (lv_at hl 0 rfl) ?_
    refine lv_if_eq (tgt := 45) hx hb dX7_clear_38 (by decide) (fun c_38 => ?_) (fun c_38 => ?_)
    · replace hf := it_p c_38 hf
      refine lv_iconst (v := 0) hx hb dX7_clear_45 (by decide) ?_
      obtain rfl := Option.some.inj hf
      rw [← hQe]
      exact W.iret (v := 0) hx hb hr (fun t ht hW => ⟨rfl, by rw [ht]; exact hP, hS.F ht⟩) hS.2.2 dX7_clear_46
    · replace hf := it_n c_38 hf
      refine lv_iconst (v := 1) hx hb dX7_clear_41 (by decide) ?_
      refine lv_goto (tgt := 46) hx hb dX7_clear_42 (by decide) ?_
      obtain rfl := Option.some.inj hf
      rw [← hQe]
      exact W.iret (v := 1) hx hb hr (fun t ht hW => ⟨rfl, by rw [ht]; exact hP, hS.F ht⟩) hS.2.2 dX7_clear_46
  unfold FX7_clear at hf
  refine lv_aload_n hx hb dX7_clear_0 rfl (lv_at hl 0 rfl) ?_
  refine lv_iconst (v := 0) hx hb dX7_clear_1 (by decide) ?_
  refine va_put (a := (ad 0)) (ci := 7) (v := .int 0) (ty := .int) (C := RX7) (T := TX7) (N := 28) hx hb hts hin_X7 tyX7 tyX7_ok nmX7 hown hK hP hD hS 0 rfl rfl 0 (by decide) hw_2 (fun _ h => h) rfl (by decide +kernel) rfl rfl (Nat.le_of_ble_eq_true rfl) dX7_clear_2 (fun H locs hP hD hS => ?_)
  have hP : va_P D vwCl ((wX7_0_4 cy ad 0 sta pri tcd frt frp deg)) H := hP
  have hD : va_D A ((wX7_0_4 cy ad 0 sta pri tcd frt frp deg)) := hD
  refine lv_iload_n hx hb dX7_clear_5 rfl (lv_at hl 1 rfl) ?_
  replace hf := ob_e hf
  obtain ⟨u_6, hu_6, hf⟩ := hf
  refine isR (As := [.int x1]) (rest := []) (st1 := [.int (bi u_6)]) ⟨hx, hb, hml, hown, hts⟩ hK hN (KX7_isPlace l D cy x1 H.size hu_6) (va_cwS 1 hts gX7_clear_X7_isPlace rfl rfl rfl (by decide +kernel) ⟨Nat.le_of_ble_eq_true rfl, Nat.le_of_ble_eq_true rfl⟩) P_nil rfl hl.1 rfl (Nat.le_of_ble_eq_true rfl) rfl dX7_clear_6 ⟨Nat.zero_le _, Nat.zero_le _⟩ ?_
  refine lv_if_ne (tgt := 15) hx hb dX7_clear_9 (by decide) (fun c_9 => ?_) (fun c_9 => ?_)
  · replace hf := it_n c_9 hf
    refine lv_aload_n hx hb dX7_clear_15 rfl (lv_at hl 0 rfl) ?_
    refine va_get (a := (ad 0)) (ci := 7) (v := .ref (ad 4)) (C := RX7) (T := TX7) (N := 28) hx hb hts hin_X7 hown hK hP 0 rfl rfl 6 (by decide) hw_1 (fun _ h => h) rfl dX7_clear_16 ?_
    refine lv_iload_n hx hb dX7_clear_19 rfl (lv_at hl 1 rfl) ?_
    replace hf := gi_e hf
    obtain ⟨i_20, hf⟩ := hf
    refine va_iald (a := (ad 4)) hx hb hK hP 1 0 rfl rfl i_20 dX7_clear_20 ?_
    refine lv_if_lt (tgt := 28) hx hb dX7_clear_21 (by decide) (fun c_21 => ?_) (fun c_21 => ?_)
    · replace hf := it_p c_21 hf
      refine lv_iconst (v := 0) hx hb dX7_clear_28 (by decide) ?_
      exact J29 H locs ls false 0 deg hf hP hD hS (lv_sub hl [0, 1] rfl)
    · replace hf := it_n c_21 hf
      refine lv_iconst (v := 1) hx hb dX7_clear_24 (by decide) ?_
      refine lv_goto (tgt := 29) hx hb dX7_clear_25 (by decide) ?_
      exact J29 H locs ls true 0 deg hf hP hD hS (lv_sub hl [0, 1] rfl)
  · replace hf := it_p c_9 hf
    refine lv_ldc (own := RX7) (v := (-1000001)) hx hb hown hw_0 dX7_clear_12 ?_
    obtain rfl := Option.some.inj hf
    rw [← hQe]
    exact W.iret (v := (-1000001)) hx hb hr (fun t ht hW => ⟨rfl, by rw [ht]; exact hP, hS.F ht⟩) hS.2.2 dX7_clear_14
def FX7_look  (deg : Nat → Int32) (x1 : Int32) : Option (Int32 × (Int32)) := (gi x1 10 (if 0 ≤ (deg (Int32.toNatClampNeg x1)) then ((some (0, 0))) else (ob (FX7_found 1) (fun u_16 => (some (u_16.1, u_16.2))))))
abbrev RMX7_look : Room := { frames := 1, cells := 0, slots := 0, locals := 21 }
set_option maxHeartbeats 4000000 in
set_option maxRecDepth 100000 in
theorem KX7_look (l : Launch) (D : va_G) (cy : Nat → ClassId) (ad : Nat → Nat) (thr : Int32) (sta : Int32) (pri : Int32) (tcd : Int32) (frt : Int32) (frp : Int32) (deg : Nat → Int32) (x1 : Int32) (sz : Nat) {out : Int32 × (Int32)} (hf : FX7_look deg x1 = some out) : Met l yX7_look wsX7_look RMX7_look (PW D cy [.ref (ad 0), .int x1] sz ((wX7_0_4 cy ad thr sta pri tcd frt frp deg)) []) (QW D (some (.int out.1)) ((wX7_0_4 cy ad thr out.2 pri tcd frt frp deg)) (va_A ((wX7_0_4 cy ad thr sta pri tcd frt frp deg)) sz)) 0 0 (va_A ((wX7_0_4 cy ad thr sta pri tcd frt frp deg)) sz) := by
  refine Met.ofW (cc := cX7_look) (maxL := 2) (ret := (some .int)) (by decide +kernel) rfl ?_
  intro p e s m args below meth c s₁ B hml hv
  obtain ⟨hav, hsz, hP, hR0, hK, hN, hD0, hsep⟩ := hv
  have hx := B.exec
  have hb := B.bytes
  have hr := B.returns
  have hts := atoms_spec (ws := wsX7_look) B.pre
  have hown : s.vm.findClass RX7 = some m.cls := findClass_of_methodNamed B.named
  have hlocks := B.notSynchronized
  subst hsz
  have hin_X7 : ∀ w ∈ u_ws RX7 TX7 28, w ∈ wsX7_look := by decide +kernel
  have hw_0 := hts (.fieldLink RX7 7 "ReturnPointsModel" "status" "I") (by decide +kernel)
  have hw_1 := hts (.fieldLink RX7 28 "ReturnPointsModel" "degree" "[I") (by decide +kernel)
  have hD := hD0.self (sz := s.heap.size)
  have hnA := roA hsep hR0
  generalize hAe : va_A ((wX7_0_4 cy ad thr sta pri tcd frt frp deg)) s.heap.size = A at hD hnA ⊢
  have hA : ∀ q : Nat, s.heap.size ≤ q → A q := fun q h => by rw [← hAe]; exact Or.inr h
  have hS : va_S A s.heap s.heap [] := va_S.rf
  obtain ⟨ls, hfr, hl⟩ := ent_ok (m := m) (n := 2) (l' := [(0, .ref (ad 0)), (1, .int x1)]) [.ref (ad 0), .int x1] hav (Nat.le_of_ble_eq_true rfl) rfl
  rw [hfr]
  generalize hQe : MQ below (QW D (some (.int out.1)) ((wX7_0_4 cy ad thr out.2 pri tcd frt frp deg)) A) args s 0 0 A = QQ
  change W p l e RMX7_look s m args below meth c s.heap [] 0 0 QQ (F0 m 0 ls [])
  have hP : va_P D vwCl ((wX7_0_4 cy ad thr sta pri tcd frt frp deg)) s.heap := hP
  have hD : va_D A ((wX7_0_4 cy ad thr sta pri tcd frt frp deg)) := hD
  suffices h00 : ∀ (H : Heap) (locs : List Loc), va_P D vwCl ((wX7_0_4 cy ad thr sta pri tcd frt frp deg)) H → va_S A s.heap H locs → W p l e RMX7_look s m args below meth c H locs 0 0 QQ (F0 m 0 ls []) from h00 _ _ hP hS
  clear hP hS
  intro H locs hP hS
  unfold FX7_look at hf
  refine lv_aload_n hx hb dX7_look_0 rfl (lv_at hl 0 rfl) ?_
  refine lv_iconst (v := 0) hx hb dX7_look_1 (by decide) ?_
  refine va_put (a := (ad 0)) (ci := 7) (v := .int 0) (ty := .int) (C := RX7) (T := TX7) (N := 28) hx hb hts hin_X7 tyX7 tyX7_ok nmX7 hown hK hP hD hS 0 rfl rfl 1 (by decide) hw_0 (fun _ h => h) rfl (by decide +kernel) rfl rfl (Nat.le_of_ble_eq_true rfl) dX7_look_2 (fun H locs hP hD hS => ?_)
  have hP : va_P D vwCl ((wX7_0_4 cy ad thr 0 pri tcd frt frp deg)) H := hP
  have hD : va_D A ((wX7_0_4 cy ad thr 0 pri tcd frt frp deg)) := hD
  refine lv_aload_n hx hb dX7_look_5 rfl (lv_at hl 0 rfl) ?_
  refine va_get (a := (ad 0)) (ci := 7) (v := .ref (ad 4)) (C := RX7) (T := TX7) (N := 28) hx hb hts hin_X7 hown hK hP 0 rfl rfl 6 (by decide) hw_1 (fun _ h => h) rfl dX7_look_6 ?_
  refine lv_iload_n hx hb dX7_look_9 rfl (lv_at hl 1 rfl) ?_
  replace hf := gi_e hf
  obtain ⟨i_10, hf⟩ := hf
  refine va_iald (a := (ad 4)) hx hb hK hP 1 0 rfl rfl i_10 dX7_look_10 ?_
  refine lv_if_ge (tgt := 22) hx hb dX7_look_11 (by decide) (fun c_11 => ?_) (fun c_11 => ?_)
  · replace hf := it_p c_11 hf
    refine lv_iconst (v := 0) hx hb dX7_look_22 (by decide) ?_
    obtain rfl := Option.some.inj hf
    rw [← hQe]
    exact W.iret (v := 0) hx hb hr (fun t ht hW => ⟨rfl, by rw [ht]; exact hP, hS.F ht⟩) hS.2.2 dX7_look_23
  · replace hf := it_n c_11 hf
    refine lv_aload_n hx hb dX7_look_14 rfl (lv_at hl 0 rfl) ?_
    refine lv_iconst (v := 1) hx hb dX7_look_15 (by decide) ?_
    replace hf := ob_e hf
    obtain ⟨u_16, hu_16, hf⟩ := hf
    refine ivW (As := [.int 1]) (rest := []) (st1 := [.int u_16.1]) (is := [0]) (w1 := (wX7_0 cy ad thr u_16.2 pri tcd frt frp)) ⟨hx, hb, hml, hown, hts⟩ hK hN (KX7_found l D cy ad thr 0 pri tcd frt frp 1 H.size hu_16) (cwV 1 hts gX7_look_X7_found rfl rfl rfl (by decide +kernel) ⟨Nat.le_of_ble_eq_true rfl, Nat.le_of_ble_eq_true rfl⟩) (va_recv hK hP (ci := 7) (q0 := 0) rfl rfl) hP hD hS hA P_nil (sepW_nil _) (by decide) rfl rfl rfl hl.1 rfl (Nat.le_of_ble_eq_true rfl) rfl dX7_look_16 ⟨Nat.zero_le _, Nat.zero_le _⟩ (fun H locs hP hD hS => ?_)
    have hP : va_P D vwCl ((wX7_0_4 cy ad thr u_16.2 pri tcd frt frp deg)) H := hP
    have hD : va_D A ((wX7_0_4 cy ad thr u_16.2 pri tcd frt frp deg)) := hD
    refine lv_goto (tgt := 23) hx hb dX7_look_19 (by decide) ?_
    obtain rfl := Option.some.inj hf
    rw [← hQe]
    exact W.iret (v := u_16.1) hx hb hr (fun t ht hW => ⟨rfl, by rw [ht]; exact hP, hS.F ht⟩) hS.2.2 dX7_look_23
def FX7_number  (sta : Int32) (deg : Nat → Int32) (num : Nat → Int32) (x1 : Int32) (x2 : Int32) : Option (Int32 × (Int32) × (Int32)) := (ob (FX7_isPlace x1) (fun u_6 => if (bi u_6) = 0 then (some ((-1000001), 0, sta)) else (ob (FX7_in (Int32.toInt64 x2) (-1) 4) (fun u_20 => if (bi u_20) = 0 then (some ((-1000001), 0, sta)) else (ob (FX7_look deg x1) (fun u_31 => bd u_31.1 (fun v_34 => if 0 ≤ v_34 then (if 0 ≤ x2 then (gi ((5 * x1) + x2) 50 ((some ((num (Int32.toNatClampNeg ((5 * x1) + x2))), 0, u_31.2)))) else (gi x1 10 ((some ((deg (Int32.toNatClampNeg x1)), 0, u_31.2))))) else ((some (v_34, 0, u_31.2))))))))))
abbrev RMX7_number : Room := { frames := 2, cells := 0, slots := 0, locals := 45 }
set_option maxHeartbeats 4000000 in
set_option maxRecDepth 100000 in
theorem KX7_number (l : Launch) (D : va_G) (cy : Nat → ClassId) (ad : Nat → Nat) (thr : Int32) (sta : Int32) (pri : Int32) (tcd : Int32) (frt : Int32) (frp : Int32) (deg : Nat → Int32) (num : Nat → Int32) (x1 : Int32) (x2 : Int32) (sz : Nat) {out : Int32 × (Int32) × (Int32)} (hf : FX7_number sta deg num x1 x2 = some out) : Met l yX7_number wsX7_number RMX7_number (PW D cy [.ref (ad 0), .int x1, .int x2] sz ((wX7_0_4_5 cy ad thr sta pri tcd frt frp deg num)) []) (QW D (some (.int out.1)) ((wX7_0_4_5 cy ad out.2.1 out.2.2 pri tcd frt frp deg num)) (va_A ((wX7_0_4_5 cy ad thr sta pri tcd frt frp deg num)) sz)) 0 0 (va_A ((wX7_0_4_5 cy ad thr sta pri tcd frt frp deg num)) sz) := by
  refine Met.ofW (cc := cX7_number) (maxL := 4) (ret := (some .int)) (by decide +kernel) rfl ?_
  intro p e s m args below meth c s₁ B hml hv
  obtain ⟨hav, hsz, hP, hR0, hK, hN, hD0, hsep⟩ := hv
  have hx := B.exec
  have hb := B.bytes
  have hr := B.returns
  have hts := atoms_spec (ws := wsX7_number) B.pre
  have hown : s.vm.findClass RX7 = some m.cls := findClass_of_methodNamed B.named
  have hlocks := B.notSynchronized
  subst hsz
  have hin_X7 : ∀ w ∈ u_ws RX7 TX7 28, w ∈ wsX7_number := by decide +kernel
  have hw_0 := hts (.constant RX7 108 (-1000001)) (by decide +kernel)
  have hw_1 := hts (.constantLong RX7 140 (-1)) (by decide +kernel)
  have hw_2 := hts (.constantLong RX7 142 (4)) (by decide +kernel)
  have hw_3 := hts (.fieldLink RX7 1 "ReturnPointsModel" "thrown" "I") (by decide +kernel)
  have hw_4 := hts (.fieldLink RX7 31 "ReturnPointsModel" "number" "[I") (by decide +kernel)
  have hw_5 := hts (.fieldLink RX7 28 "ReturnPointsModel" "degree" "[I") (by decide +kernel)
  have hD := hD0.self (sz := s.heap.size)
  have hnA := roA hsep hR0
  generalize hAe : va_A ((wX7_0_4_5 cy ad thr sta pri tcd frt frp deg num)) s.heap.size = A at hD hnA ⊢
  have hA : ∀ q : Nat, s.heap.size ≤ q → A q := fun q h => by rw [← hAe]; exact Or.inr h
  have hS : va_S A s.heap s.heap [] := va_S.rf
  obtain ⟨ls, hfr, hl⟩ := ent_ok (m := m) (n := 4) (l' := [(0, .ref (ad 0)), (1, .int x1), (2, .int x2)]) [.ref (ad 0), .int x1, .int x2] hav (Nat.le_of_ble_eq_true rfl) rfl
  rw [hfr]
  generalize hQe : MQ below (QW D (some (.int out.1)) ((wX7_0_4_5 cy ad out.2.1 out.2.2 pri tcd frt frp deg num)) A) args s 0 0 A = QQ
  change W p l e RMX7_number s m args below meth c s.heap [] 0 0 QQ (F0 m 0 ls [])
  have hP : va_P D vwCl ((wX7_0_4_5 cy ad thr sta pri tcd frt frp deg num)) s.heap := hP
  have hD : va_D A ((wX7_0_4_5 cy ad thr sta pri tcd frt frp deg num)) := hD
  suffices h00 : ∀ (H : Heap) (locs : List Loc), va_P D vwCl ((wX7_0_4_5 cy ad thr sta pri tcd frt frp deg num)) H → va_S A s.heap H locs → W p l e RMX7_number s m args below meth c H locs 0 0 QQ (F0 m 0 ls []) from h00 _ _ hP hS
  clear hP hS
  intro H locs hP hS
  unfold FX7_number at hf
  refine lv_aload_n hx hb dX7_number_0 rfl (lv_at hl 0 rfl) ?_
  refine lv_iconst (v := 0) hx hb dX7_number_1 (by decide) ?_
  refine va_put (a := (ad 0)) (ci := 7) (v := .int 0) (ty := .int) (C := RX7) (T := TX7) (N := 28) hx hb hts hin_X7 tyX7 tyX7_ok nmX7 hown hK hP hD hS 0 rfl rfl 0 (by decide) hw_3 (fun _ h => h) rfl (by decide +kernel) rfl rfl (Nat.le_of_ble_eq_true rfl) dX7_number_2 (fun H locs hP hD hS => ?_)
  have hP : va_P D vwCl ((wX7_0_4_5 cy ad 0 sta pri tcd frt frp deg num)) H := hP
  have hD : va_D A ((wX7_0_4_5 cy ad 0 sta pri tcd frt frp deg num)) := hD
  refine lv_iload_n hx hb dX7_number_5 rfl (lv_at hl 1 rfl) ?_
  replace hf := ob_e hf
  obtain ⟨u_6, hu_6, hf⟩ := hf
  refine isR (As := [.int x1]) (rest := []) (st1 := [.int (bi u_6)]) ⟨hx, hb, hml, hown, hts⟩ hK hN (KX7_isPlace l D cy x1 H.size hu_6) (va_cwS 1 hts gX7_number_X7_isPlace rfl rfl rfl (by decide +kernel) ⟨Nat.le_of_ble_eq_true rfl, Nat.le_of_ble_eq_true rfl⟩) P_nil rfl hl.1 rfl (Nat.le_of_ble_eq_true rfl) rfl dX7_number_6 ⟨Nat.zero_le _, Nat.zero_le _⟩ ?_
  refine lv_if_eq (tgt := 26) hx hb dX7_number_9 (by decide) (fun c_9 => ?_) (fun c_9 => ?_)
  · replace hf := it_p c_9 hf
    refine lv_ldc (own := RX7) (v := (-1000001)) hx hb hown hw_0 dX7_number_26 ?_
    obtain rfl := Option.some.inj hf
    rw [← hQe]
    exact W.iret (v := (-1000001)) hx hb hr (fun t ht hW => ⟨rfl, by rw [ht]; exact hP, hS.F ht⟩) hS.2.2 dX7_number_28
  · replace hf := it_n c_9 hf
    refine lv_iload_n hx hb dX7_number_12 rfl (lv_at hl 2 rfl) ?_
    refine lv_i2l hx hb dX7_number_13 rfl ?_
    refine lv_ldc2 (own := RX7) (v := (-1)) hx hb hown hw_1 dX7_number_14 ?_
    refine lv_ldc2 (own := RX7) (v := 4) hx hb hown hw_2 dX7_number_17 ?_
    replace hf := ob_e hf
    obtain ⟨u_20, hu_20, hf⟩ := hf
    refine isR (As := [.long (Int32.toInt64 x2), .long (-1), .long 4]) (rest := []) (st1 := [.int (bi u_20)]) ⟨hx, hb, hml, hown, hts⟩ hK hN (KX7_in l D cy (Int32.toInt64 x2) (-1) 4 H.size hu_20) (va_cwS 3 hts gX7_number_X7_in rfl rfl rfl (by decide +kernel) ⟨Nat.le_of_ble_eq_true rfl, Nat.le_of_ble_eq_true rfl⟩) P_nil rfl hl.1 rfl (Nat.le_of_ble_eq_true rfl) rfl dX7_number_20 ⟨Nat.zero_le _, Nat.zero_le _⟩ ?_
    refine lv_if_ne (tgt := 29) hx hb dX7_number_23 (by decide) (fun c_23 => ?_) (fun c_23 => ?_)
    · replace hf := it_n c_23 hf
      refine lv_aload_n hx hb dX7_number_29 rfl (lv_at hl 0 rfl) ?_
      refine lv_iload_n hx hb dX7_number_30 rfl (lv_at hl 1 rfl) ?_
      replace hf := ob_e hf
      obtain ⟨u_31, hu_31, hf⟩ := hf
      refine ivW (As := [.int x1]) (rest := []) (st1 := [.int u_31.1]) (is := [0, 1]) (w1 := (wX7_0_4 cy ad 0 u_31.2 pri tcd frt frp deg)) ⟨hx, hb, hml, hown, hts⟩ hK hN (KX7_look l D cy ad 0 sta pri tcd frt frp deg x1 H.size hu_31) (cwV 1 hts gX7_number_X7_look rfl rfl rfl (by decide +kernel) ⟨Nat.le_of_ble_eq_true rfl, Nat.le_of_ble_eq_true rfl⟩) (va_recv hK hP (ci := 7) (q0 := 0) rfl rfl) hP hD hS hA P_nil (sepW_nil _) (by decide) rfl rfl rfl hl.1 rfl (Nat.le_of_ble_eq_true rfl) rfl dX7_number_31 ⟨Nat.zero_le _, Nat.zero_le _⟩ (fun H locs hP hD hS => ?_)
      have hP : va_P D vwCl ((wX7_0_4_5 cy ad 0 u_31.2 pri tcd frt frp deg num)) H := hP
      have hD : va_D A ((wX7_0_4_5 cy ad 0 u_31.2 pri tcd frt frp deg num)) := hD
      refine lv_topi (fun v_34 e_34 => ?_)
      replace hf := bd_at e_34 hf
      clear e_34
      refine lv_istore_n (lv' := [(3, .int v_34), (0, .ref (ad 0)), (1, .int x1), (2, .int x2)]) hx hb dX7_number_34 rfl hl (by decide) rfl (fun ls hl => ?_)
      refine lv_iload_n hx hb dX7_number_35 rfl (lv_at hl 0 rfl) ?_
      refine lv_if_ge (tgt := 43) hx hb dX7_number_36 (by decide) (fun c_36 => ?_) (fun c_36 => ?_)
      · replace hf := it_p c_36 hf
        refine lv_iload_n hx hb dX7_number_43 rfl (lv_at hl 3 rfl) ?_
        refine lv_if_ge (tgt := 56) hx hb dX7_number_44 (by decide) (fun c_44 => ?_) (fun c_44 => ?_)
        · replace hf := it_p c_44 hf
          refine lv_aload_n hx hb dX7_number_56 rfl (lv_at hl 1 rfl) ?_
          refine va_get (a := (ad 0)) (ci := 7) (v := .ref (ad 5)) (C := RX7) (T := TX7) (N := 28) hx hb hts hin_X7 hown hK hP 0 rfl rfl 7 (by decide) hw_4 (fun _ h => h) rfl dX7_number_57 ?_
          refine lv_iconst (v := 5) hx hb dX7_number_60 (by decide) ?_
          refine lv_iload_n hx hb dX7_number_61 rfl (lv_at hl 2 rfl) ?_
          refine lv_imul hx hb dX7_number_62 ?_
          refine lv_iload_n hx hb dX7_number_63 rfl (lv_at hl 3 rfl) ?_
          refine lv_iadd hx hb dX7_number_64 ?_
          replace hf := gi_e hf
          obtain ⟨i_65, hf⟩ := hf
          refine va_iald (a := (ad 5)) hx hb hK hP 2 0 rfl rfl i_65 dX7_number_65 ?_
          obtain rfl := Option.some.inj hf
          rw [← hQe]
          exact W.iret (v := (num (Int32.toNatClampNeg ((5 * x1) + x2)))) hx hb hr (fun t ht hW => ⟨rfl, by rw [ht]; exact hP, hS.F ht⟩) hS.2.2 dX7_number_66
        · replace hf := it_n c_44 hf
          refine lv_aload_n hx hb dX7_number_47 rfl (lv_at hl 1 rfl) ?_
          refine va_get (a := (ad 0)) (ci := 7) (v := .ref (ad 4)) (C := RX7) (T := TX7) (N := 28) hx hb hts hin_X7 hown hK hP 0 rfl rfl 6 (by decide) hw_5 (fun _ h => h) rfl dX7_number_48 ?_
          refine lv_iload_n hx hb dX7_number_51 rfl (lv_at hl 2 rfl) ?_
          replace hf := gi_e hf
          obtain ⟨i_52, hf⟩ := hf
          refine va_iald (a := (ad 4)) hx hb hK hP 1 0 rfl rfl i_52 dX7_number_52 ?_
          refine lv_goto (tgt := 66) hx hb dX7_number_53 (by decide) ?_
          obtain rfl := Option.some.inj hf
          rw [← hQe]
          exact W.iret (v := (deg (Int32.toNatClampNeg x1))) hx hb hr (fun t ht hW => ⟨rfl, by rw [ht]; exact hP, hS.F ht⟩) hS.2.2 dX7_number_66
      · replace hf := it_n c_36 hf
        refine lv_iload_n hx hb dX7_number_39 rfl (lv_at hl 0 rfl) ?_
        refine lv_goto (tgt := 66) hx hb dX7_number_40 (by decide) ?_
        obtain rfl := Option.some.inj hf
        rw [← hQe]
        exact W.iret (v := v_34) hx hb hr (fun t ht hW => ⟨rfl, by rw [ht]; exact hP, hS.F ht⟩) hS.2.2 dX7_number_66
    · replace hf := it_p c_23 hf
      refine lv_ldc (own := RX7) (v := (-1000001)) hx hb hown hw_0 dX7_number_26 ?_
      obtain rfl := Option.some.inj hf
      rw [← hQe]
      exact W.iret (v := (-1000001)) hx hb hr (fun t ht hW => ⟨rfl, by rw [ht]; exact hP, hS.F ht⟩) hS.2.2 dX7_number_28
def FX7_kind  (sta : Int32) (deg : Nat → Int32) (num : Nat → Int32) (x1 : Int32) : Option (Int32 × (Int32) × (Int32)) := (ob (FX7_isPlace x1) (fun u_6 => if (bi u_6) = 0 then (some ((-1000001), 0, sta)) else (ob (FX7_look deg x1) (fun u_17 => bd u_17.1 (fun v_20 => if 0 ≤ v_20 then (ob (FX7_kindOf deg num x1) (fun u_31 => (some (u_31, 0, u_17.2)))) else ((some (v_20, 0, u_17.2))))))))
abbrev RMX7_kind : Room := { frames := 2, cells := 0, slots := 0, locals := 45 }
set_option maxHeartbeats 4000000 in
set_option maxRecDepth 100000 in
theorem KX7_kind (l : Launch) (D : va_G) (cy : Nat → ClassId) (ad : Nat → Nat) (thr : Int32) (sta : Int32) (pri : Int32) (tcd : Int32) (frt : Int32) (frp : Int32) (deg : Nat → Int32) (num : Nat → Int32) (x1 : Int32) (sz : Nat) {out : Int32 × (Int32) × (Int32)} (hf : FX7_kind sta deg num x1 = some out) : Met l yX7_kind wsX7_kind RMX7_kind (PW D cy [.ref (ad 0), .int x1] sz ((wX7_0_4_5 cy ad thr sta pri tcd frt frp deg num)) []) (QW D (some (.int out.1)) ((wX7_0_4_5 cy ad out.2.1 out.2.2 pri tcd frt frp deg num)) (va_A ((wX7_0_4_5 cy ad thr sta pri tcd frt frp deg num)) sz)) 0 0 (va_A ((wX7_0_4_5 cy ad thr sta pri tcd frt frp deg num)) sz) := by
  refine Met.ofW (cc := cX7_kind) (maxL := 3) (ret := (some .int)) (by decide +kernel) rfl ?_
  intro p e s m args below meth c s₁ B hml hv
  obtain ⟨hav, hsz, hP, hR0, hK, hN, hD0, hsep⟩ := hv
  have hx := B.exec
  have hb := B.bytes
  have hr := B.returns
  have hts := atoms_spec (ws := wsX7_kind) B.pre
  have hown : s.vm.findClass RX7 = some m.cls := findClass_of_methodNamed B.named
  have hlocks := B.notSynchronized
  subst hsz
  have hin_X7 : ∀ w ∈ u_ws RX7 TX7 28, w ∈ wsX7_kind := by decide +kernel
  have hw_0 := hts (.constant RX7 108 (-1000001)) (by decide +kernel)
  have hw_1 := hts (.fieldLink RX7 1 "ReturnPointsModel" "thrown" "I") (by decide +kernel)
  have hD := hD0.self (sz := s.heap.size)
  have hnA := roA hsep hR0
  generalize hAe : va_A ((wX7_0_4_5 cy ad thr sta pri tcd frt frp deg num)) s.heap.size = A at hD hnA ⊢
  have hA : ∀ q : Nat, s.heap.size ≤ q → A q := fun q h => by rw [← hAe]; exact Or.inr h
  have hS : va_S A s.heap s.heap [] := va_S.rf
  obtain ⟨ls, hfr, hl⟩ := ent_ok (m := m) (n := 3) (l' := [(0, .ref (ad 0)), (1, .int x1)]) [.ref (ad 0), .int x1] hav (Nat.le_of_ble_eq_true rfl) rfl
  rw [hfr]
  generalize hQe : MQ below (QW D (some (.int out.1)) ((wX7_0_4_5 cy ad out.2.1 out.2.2 pri tcd frt frp deg num)) A) args s 0 0 A = QQ
  change W p l e RMX7_kind s m args below meth c s.heap [] 0 0 QQ (F0 m 0 ls [])
  have hP : va_P D vwCl ((wX7_0_4_5 cy ad thr sta pri tcd frt frp deg num)) s.heap := hP
  have hD : va_D A ((wX7_0_4_5 cy ad thr sta pri tcd frt frp deg num)) := hD
  suffices h00 : ∀ (H : Heap) (locs : List Loc), va_P D vwCl ((wX7_0_4_5 cy ad thr sta pri tcd frt frp deg num)) H → va_S A s.heap H locs → W p l e RMX7_kind s m args below meth c H locs 0 0 QQ (F0 m 0 ls []) from h00 _ _ hP hS
  clear hP hS
  intro H locs hP hS
  unfold FX7_kind at hf
  refine lv_aload_n hx hb dX7_kind_0 rfl (lv_at hl 0 rfl) ?_
  refine lv_iconst (v := 0) hx hb dX7_kind_1 (by decide) ?_
  refine va_put (a := (ad 0)) (ci := 7) (v := .int 0) (ty := .int) (C := RX7) (T := TX7) (N := 28) hx hb hts hin_X7 tyX7 tyX7_ok nmX7 hown hK hP hD hS 0 rfl rfl 0 (by decide) hw_1 (fun _ h => h) rfl (by decide +kernel) rfl rfl (Nat.le_of_ble_eq_true rfl) dX7_kind_2 (fun H locs hP hD hS => ?_)
  have hP : va_P D vwCl ((wX7_0_4_5 cy ad 0 sta pri tcd frt frp deg num)) H := hP
  have hD : va_D A ((wX7_0_4_5 cy ad 0 sta pri tcd frt frp deg num)) := hD
  refine lv_iload_n hx hb dX7_kind_5 rfl (lv_at hl 1 rfl) ?_
  replace hf := ob_e hf
  obtain ⟨u_6, hu_6, hf⟩ := hf
  refine isR (As := [.int x1]) (rest := []) (st1 := [.int (bi u_6)]) ⟨hx, hb, hml, hown, hts⟩ hK hN (KX7_isPlace l D cy x1 H.size hu_6) (va_cwS 1 hts gX7_kind_X7_isPlace rfl rfl rfl (by decide +kernel) ⟨Nat.le_of_ble_eq_true rfl, Nat.le_of_ble_eq_true rfl⟩) P_nil rfl hl.1 rfl (Nat.le_of_ble_eq_true rfl) rfl dX7_kind_6 ⟨Nat.zero_le _, Nat.zero_le _⟩ ?_
  refine lv_if_ne (tgt := 15) hx hb dX7_kind_9 (by decide) (fun c_9 => ?_) (fun c_9 => ?_)
  · replace hf := it_n c_9 hf
    refine lv_aload_n hx hb dX7_kind_15 rfl (lv_at hl 0 rfl) ?_
    refine lv_iload_n hx hb dX7_kind_16 rfl (lv_at hl 1 rfl) ?_
    replace hf := ob_e hf
    obtain ⟨u_17, hu_17, hf⟩ := hf
    refine ivW (As := [.int x1]) (rest := []) (st1 := [.int u_17.1]) (is := [0, 1]) (w1 := (wX7_0_4 cy ad 0 u_17.2 pri tcd frt frp deg)) ⟨hx, hb, hml, hown, hts⟩ hK hN (KX7_look l D cy ad 0 sta pri tcd frt frp deg x1 H.size hu_17) (cwV 1 hts gX7_kind_X7_look rfl rfl rfl (by decide +kernel) ⟨Nat.le_of_ble_eq_true rfl, Nat.le_of_ble_eq_true rfl⟩) (va_recv hK hP (ci := 7) (q0 := 0) rfl rfl) hP hD hS hA P_nil (sepW_nil _) (by decide) rfl rfl rfl hl.1 rfl (Nat.le_of_ble_eq_true rfl) rfl dX7_kind_17 ⟨Nat.zero_le _, Nat.zero_le _⟩ (fun H locs hP hD hS => ?_)
    have hP : va_P D vwCl ((wX7_0_4_5 cy ad 0 u_17.2 pri tcd frt frp deg num)) H := hP
    have hD : va_D A ((wX7_0_4_5 cy ad 0 u_17.2 pri tcd frt frp deg num)) := hD
    refine lv_topi (fun v_20 e_20 => ?_)
    replace hf := bd_at e_20 hf
    clear e_20
    refine lv_istore_n (lv' := [(2, .int v_20), (0, .ref (ad 0)), (1, .int x1)]) hx hb dX7_kind_20 rfl hl (by decide) rfl (fun ls hl => ?_)
    refine lv_iload_n hx hb dX7_kind_21 rfl (lv_at hl 0 rfl) ?_
    refine lv_if_ge (tgt := 29) hx hb dX7_kind_22 (by decide) (fun c_22 => ?_) (fun c_22 => ?_)
    · replace hf := it_p c_22 hf
      refine lv_aload_n hx hb dX7_kind_29 rfl (lv_at hl 1 rfl) ?_
      refine lv_iload_n hx hb dX7_kind_30 rfl (lv_at hl 2 rfl) ?_
      replace hf := ob_e hf
      obtain ⟨u_31, hu_31, hf⟩ := hf
      refine ivR (As := [.int x1]) (rest := []) (st1 := [.int u_31]) ⟨hx, hb, hml, hown, hts⟩ hK hN (KX7_kindOf l D cy ad 0 u_17.2 pri tcd frt frp deg num x1 H.size hu_31) (cwV 1 hts gX7_kind_X7_kindOf rfl rfl rfl (by decide +kernel) ⟨Nat.le_of_ble_eq_true rfl, Nat.le_of_ble_eq_true rfl⟩) (va_recv hK hP (ci := 7) (q0 := 0) rfl rfl) (P_pl (wc := (wX7_0_4_5 cy ad 0 u_17.2 pri tcd frt frp deg num)) (is := [0, 1, 2]) hP rfl) rfl hl.1 rfl (Nat.le_of_ble_eq_true rfl) rfl dX7_kind_31 ⟨Nat.zero_le _, Nat.zero_le _⟩ ?_
      obtain rfl := Option.some.inj hf
      rw [← hQe]
      exact W.iret (v := u_31) hx hb hr (fun t ht hW => ⟨rfl, by rw [ht]; exact hP, hS.F ht⟩) hS.2.2 dX7_kind_34
    · replace hf := it_n c_22 hf
      refine lv_iload_n hx hb dX7_kind_25 rfl (lv_at hl 0 rfl) ?_
      refine lv_goto (tgt := 34) hx hb dX7_kind_26 (by decide) ?_
      obtain rfl := Option.some.inj hf
      rw [← hQe]
      exact W.iret (v := v_20) hx hb hr (fun t ht hW => ⟨rfl, by rw [ht]; exact hP, hS.F ht⟩) hS.2.2 dX7_kind_34
  · replace hf := it_p c_9 hf
    refine lv_ldc (own := RX7) (v := (-1000001)) hx hb hown hw_0 dX7_kind_12 ?_
    obtain rfl := Option.some.inj hf
    rw [← hQe]
    exact W.iret (v := (-1000001)) hx hb hr (fun t ht hW => ⟨rfl, by rw [ht]; exact hP, hS.F ht⟩) hS.2.2 dX7_kind_14
def FX7_isOf   (x1 : Int32) (x2 : Int32) : Option (Bool) := (if x2 = 0 then ((some (true))) else (if x1 = x2 then ((some (true))) else (if x2 = 3 then (if x1 = 4 then ((some (true))) else ((some (false)))) else ((some (false))))))
abbrev RMX7_isOf : Room := { frames := 0, cells := 0, slots := 0, locals := 0 }
set_option maxHeartbeats 4000000 in
set_option maxRecDepth 100000 in
theorem KX7_isOf (l : Launch) (D : va_G) (cy : Nat → ClassId)   (x1 : Int32) (x2 : Int32) (sz : Nat) {out : Bool} (hf : FX7_isOf x1 x2 = some out) : Met l yX7_isOf wsX7_isOf RMX7_isOf (PW D cy [.int x1, .int x2] sz [] []) (QR (some (.int (bi out)))) 0 0 no_A := by
  refine Met.ofW (cc := cX7_isOf) (maxL := 2) (ret := (some .boolean)) (by decide +kernel) rfl ?_
  intro p e s m args below meth c s₁ B hml hv
  obtain ⟨hav, hsz, hP, hR0, hK, hN, hD0, hsep⟩ := hv
  have hx := B.exec
  have hb := B.bytes
  have hr := B.returns
  have hts := atoms_spec (ws := wsX7_isOf) B.pre
  have hown : s.vm.findClass RX7 = some m.cls := findClass_of_methodNamed B.named
  have hlocks := B.notSynchronized
  subst hsz
  obtain ⟨ls, hfr, hl⟩ := ent_ok (m := m) (n := 2) (l' := [(0, .int x1), (1, .int x2)]) [.int x1, .int x2] hav (Nat.le_of_ble_eq_true rfl) rfl
  rw [hfr]
  generalize hQe : MQ below (QR (some (.int (bi out)))) args s 0 0 no_A = QQ
  change W p l e RMX7_isOf s m args below meth c s.heap [] 0 0 QQ (F0 m 0 ls [])
  unfold FX7_isOf at hf
  refine lv_iload_n hx hb dX7_isOf_0 rfl (lv_at hl 1 rfl) ?_
  refine lv_if_eq (tgt := 19) hx hb dX7_isOf_1 (by decide) (fun c_1 => ?_) (fun c_1 => ?_)
  · replace hf := it_p c_1 hf
    refine lv_iconst (v := 1) hx hb dX7_isOf_19 (by decide) ?_
    refine lv_goto (tgt := 24) hx hb dX7_isOf_20 (by decide) ?_
    obtain rfl := Option.some.inj hf
    rw [← hQe]
    exact W.zret (v := bi true) hx hb hr (nar_bi _) (fun t ht hW => ⟨rfl, ht⟩) (fun q h => by cases h) dX7_isOf_24
  · replace hf := it_n c_1 hf
    refine lv_iload_n hx hb dX7_isOf_4 rfl (lv_at hl 0 rfl) ?_
    refine lv_iload_n hx hb dX7_isOf_5 rfl (lv_at hl 1 rfl) ?_
    refine lv_icmp_eq (tgt := 19) hx hb dX7_isOf_6 (by decide) (fun c_6 => ?_) (fun c_6 => ?_)
    · replace hf := it_p c_6 hf
      refine lv_iconst (v := 1) hx hb dX7_isOf_19 (by decide) ?_
      refine lv_goto (tgt := 24) hx hb dX7_isOf_20 (by decide) ?_
      obtain rfl := Option.some.inj hf
      rw [← hQe]
      exact W.zret (v := bi true) hx hb hr (nar_bi _) (fun t ht hW => ⟨rfl, ht⟩) (fun q h => by cases h) dX7_isOf_24
    · replace hf := it_n c_6 hf
      refine lv_iload_n hx hb dX7_isOf_9 rfl (lv_at hl 1 rfl) ?_
      refine lv_iconst (v := 3) hx hb dX7_isOf_10 (by decide) ?_
      refine lv_icmp_ne (tgt := 23) hx hb dX7_isOf_11 (by decide) (fun c_11 => ?_) (fun c_11 => ?_)
      · replace hf := it_n c_11 hf
        refine lv_iconst (v := 0) hx hb dX7_isOf_23 (by decide) ?_
        obtain rfl := Option.some.inj hf
        rw [← hQe]
        exact W.zret (v := bi false) hx hb hr (nar_bi _) (fun t ht hW => ⟨rfl, ht⟩) (fun q h => by cases h) dX7_isOf_24
      · replace hf := it_p c_11 hf
        refine lv_iload_n hx hb dX7_isOf_14 rfl (lv_at hl 0 rfl) ?_
        refine lv_iconst (v := 4) hx hb dX7_isOf_15 (by decide) ?_
        refine lv_icmp_ne (tgt := 23) hx hb dX7_isOf_16 (by decide) (fun c_16 => ?_) (fun c_16 => ?_)
        · replace hf := it_n c_16 hf
          refine lv_iconst (v := 0) hx hb dX7_isOf_23 (by decide) ?_
          obtain rfl := Option.some.inj hf
          rw [← hQe]
          exact W.zret (v := bi false) hx hb hr (nar_bi _) (fun t ht hW => ⟨rfl, ht⟩) (fun q h => by cases h) dX7_isOf_24
        · replace hf := it_p c_16 hf
          refine lv_iconst (v := 1) hx hb dX7_isOf_19 (by decide) ?_
          refine lv_goto (tgt := 24) hx hb dX7_isOf_20 (by decide) ?_
          obtain rfl := Option.some.inj hf
          rw [← hQe]
          exact W.zret (v := bi true) hx hb hr (nar_bi _) (fun t ht hW => ⟨rfl, ht⟩) (fun q h => by cases h) dX7_isOf_24
def FX7_is  (deg : Nat → Int32) (num : Nat → Int32) (x1 : Int32) (x2 : Int32) : Option (Int32 × (Int32)) := (ob (FX7_isPlace x1) (fun u_6 => if (bi u_6) = 0 then ((some ((-1000001), 0))) else (ob (FX7_in (Int32.toInt64 x2) 0 5) (fun u_18 => if (bi u_18) = 0 then ((some ((-1000001), 0))) else (gi x1 10 (if (deg (Int32.toNatClampNeg x1)) < 0 then ((some (0, 0))) else (ob (FX7_kindOf deg num x1) (fun u_40 => ob (FX7_isOf u_40 x2) (fun u_44 => if (bi u_44) = 0 then ((some (0, 0))) else ((some (1, 0))))))))))))
abbrev RMX7_is : Room := { frames := 2, cells := 0, slots := 0, locals := 45 }
set_option maxHeartbeats 4000000 in
set_option maxRecDepth 100000 in
theorem KX7_is (l : Launch) (D : va_G) (cy : Nat → ClassId) (ad : Nat → Nat) (thr : Int32) (sta : Int32) (pri : Int32) (tcd : Int32) (frt : Int32) (frp : Int32) (deg : Nat → Int32) (num : Nat → Int32) (x1 : Int32) (x2 : Int32) (sz : Nat) {out : Int32 × (Int32)} (hf : FX7_is deg num x1 x2 = some out) : Met l yX7_is wsX7_is RMX7_is (PW D cy [.ref (ad 0), .int x1, .int x2] sz ((wX7_0_4_5 cy ad thr sta pri tcd frt frp deg num)) []) (QW D (some (.int out.1)) ((wX7_0_4_5 cy ad out.2 sta pri tcd frt frp deg num)) (va_A ((wX7_0_4_5 cy ad thr sta pri tcd frt frp deg num)) sz)) 0 0 (va_A ((wX7_0_4_5 cy ad thr sta pri tcd frt frp deg num)) sz) := by
  refine Met.ofW (cc := cX7_is) (maxL := 3) (ret := (some .int)) (by decide +kernel) rfl ?_
  intro p e s m args below meth c s₁ B hml hv
  obtain ⟨hav, hsz, hP, hR0, hK, hN, hD0, hsep⟩ := hv
  have hx := B.exec
  have hb := B.bytes
  have hr := B.returns
  have hts := atoms_spec (ws := wsX7_is) B.pre
  have hown : s.vm.findClass RX7 = some m.cls := findClass_of_methodNamed B.named
  have hlocks := B.notSynchronized
  subst hsz
  have hin_X7 : ∀ w ∈ u_ws RX7 TX7 28, w ∈ wsX7_is := by decide +kernel
  have hw_0 := hts (.constant RX7 108 (-1000001)) (by decide +kernel)
  have hw_1 := hts (.constantLong RX7 123 (5)) (by decide +kernel)
  have hw_2 := hts (.fieldLink RX7 1 "ReturnPointsModel" "thrown" "I") (by decide +kernel)
  have hw_3 := hts (.fieldLink RX7 28 "ReturnPointsModel" "degree" "[I") (by decide +kernel)
  have hD := hD0.self (sz := s.heap.size)
  have hnA := roA hsep hR0
  generalize hAe : va_A ((wX7_0_4_5 cy ad thr sta pri tcd frt frp deg num)) s.heap.size = A at hD hnA ⊢
  have hA : ∀ q : Nat, s.heap.size ≤ q → A q := fun q h => by rw [← hAe]; exact Or.inr h
  have hS : va_S A s.heap s.heap [] := va_S.rf
  obtain ⟨ls, hfr, hl⟩ := ent_ok (m := m) (n := 3) (l' := [(0, .ref (ad 0)), (1, .int x1), (2, .int x2)]) [.ref (ad 0), .int x1, .int x2] hav (Nat.le_of_ble_eq_true rfl) rfl
  rw [hfr]
  generalize hQe : MQ below (QW D (some (.int out.1)) ((wX7_0_4_5 cy ad out.2 sta pri tcd frt frp deg num)) A) args s 0 0 A = QQ
  change W p l e RMX7_is s m args below meth c s.heap [] 0 0 QQ (F0 m 0 ls [])
  have hP : va_P D vwCl ((wX7_0_4_5 cy ad thr sta pri tcd frt frp deg num)) s.heap := hP
  have hD : va_D A ((wX7_0_4_5 cy ad thr sta pri tcd frt frp deg num)) := hD
  suffices h00 : ∀ (H : Heap) (locs : List Loc), va_P D vwCl ((wX7_0_4_5 cy ad thr sta pri tcd frt frp deg num)) H → va_S A s.heap H locs → W p l e RMX7_is s m args below meth c H locs 0 0 QQ (F0 m 0 ls []) from h00 _ _ hP hS
  clear hP hS
  intro H locs hP hS
  unfold FX7_is at hf
  refine lv_aload_n hx hb dX7_is_0 rfl (lv_at hl 0 rfl) ?_
  refine lv_iconst (v := 0) hx hb dX7_is_1 (by decide) ?_
  refine va_put (a := (ad 0)) (ci := 7) (v := .int 0) (ty := .int) (C := RX7) (T := TX7) (N := 28) hx hb hts hin_X7 tyX7 tyX7_ok nmX7 hown hK hP hD hS 0 rfl rfl 0 (by decide) hw_2 (fun _ h => h) rfl (by decide +kernel) rfl rfl (Nat.le_of_ble_eq_true rfl) dX7_is_2 (fun H locs hP hD hS => ?_)
  have hP : va_P D vwCl ((wX7_0_4_5 cy ad 0 sta pri tcd frt frp deg num)) H := hP
  have hD : va_D A ((wX7_0_4_5 cy ad 0 sta pri tcd frt frp deg num)) := hD
  refine lv_iload_n hx hb dX7_is_5 rfl (lv_at hl 1 rfl) ?_
  replace hf := ob_e hf
  obtain ⟨u_6, hu_6, hf⟩ := hf
  refine isR (As := [.int x1]) (rest := []) (st1 := [.int (bi u_6)]) ⟨hx, hb, hml, hown, hts⟩ hK hN (KX7_isPlace l D cy x1 H.size hu_6) (va_cwS 1 hts gX7_is_X7_isPlace rfl rfl rfl (by decide +kernel) ⟨Nat.le_of_ble_eq_true rfl, Nat.le_of_ble_eq_true rfl⟩) P_nil rfl hl.1 rfl (Nat.le_of_ble_eq_true rfl) rfl dX7_is_6 ⟨Nat.zero_le _, Nat.zero_le _⟩ ?_
  refine lv_if_eq (tgt := 24) hx hb dX7_is_9 (by decide) (fun c_9 => ?_) (fun c_9 => ?_)
  · replace hf := it_p c_9 hf
    refine lv_ldc (own := RX7) (v := (-1000001)) hx hb hown hw_0 dX7_is_24 ?_
    refine lv_goto (tgt := 55) hx hb dX7_is_26 (by decide) ?_
    obtain rfl := Option.some.inj hf
    rw [← hQe]
    exact W.iret (v := (-1000001)) hx hb hr (fun t ht hW => ⟨rfl, by rw [ht]; exact hP, hS.F ht⟩) hS.2.2 dX7_is_55
  · replace hf := it_n c_9 hf
    refine lv_iload_n hx hb dX7_is_12 rfl (lv_at hl 2 rfl) ?_
    refine lv_i2l hx hb dX7_is_13 rfl ?_
    refine lv_lconst (v := 0) hx hb dX7_is_14 (by decide) ?_
    refine lv_ldc2 (own := RX7) (v := 5) hx hb hown hw_1 dX7_is_15 ?_
    replace hf := ob_e hf
    obtain ⟨u_18, hu_18, hf⟩ := hf
    refine isR (As := [.long (Int32.toInt64 x2), .long 0, .long 5]) (rest := []) (st1 := [.int (bi u_18)]) ⟨hx, hb, hml, hown, hts⟩ hK hN (KX7_in l D cy (Int32.toInt64 x2) 0 5 H.size hu_18) (va_cwS 3 hts gX7_is_X7_in rfl rfl rfl (by decide +kernel) ⟨Nat.le_of_ble_eq_true rfl, Nat.le_of_ble_eq_true rfl⟩) P_nil rfl hl.1 rfl (Nat.le_of_ble_eq_true rfl) rfl dX7_is_18 ⟨Nat.zero_le _, Nat.zero_le _⟩ ?_
    refine lv_if_ne (tgt := 29) hx hb dX7_is_21 (by decide) (fun c_21 => ?_) (fun c_21 => ?_)
    · replace hf := it_n c_21 hf
      refine lv_aload_n hx hb dX7_is_29 rfl (lv_at hl 0 rfl) ?_
      refine va_get (a := (ad 0)) (ci := 7) (v := .ref (ad 4)) (C := RX7) (T := TX7) (N := 28) hx hb hts hin_X7 hown hK hP 0 rfl rfl 6 (by decide) hw_3 (fun _ h => h) rfl dX7_is_30 ?_
      refine lv_iload_n hx hb dX7_is_33 rfl (lv_at hl 1 rfl) ?_
      replace hf := gi_e hf
      obtain ⟨i_34, hf⟩ := hf
      refine va_iald (a := (ad 4)) hx hb hK hP 1 0 rfl rfl i_34 dX7_is_34 ?_
      refine lv_if_lt (tgt := 54) hx hb dX7_is_35 (by decide) (fun c_35 => ?_) (fun c_35 => ?_)
      · replace hf := it_p c_35 hf
        refine lv_iconst (v := 0) hx hb dX7_is_54 (by decide) ?_
        obtain rfl := Option.some.inj hf
        rw [← hQe]
        exact W.iret (v := 0) hx hb hr (fun t ht hW => ⟨rfl, by rw [ht]; exact hP, hS.F ht⟩) hS.2.2 dX7_is_55
      · replace hf := it_n c_35 hf
        refine lv_aload_n hx hb dX7_is_38 rfl (lv_at hl 0 rfl) ?_
        refine lv_iload_n hx hb dX7_is_39 rfl (lv_at hl 1 rfl) ?_
        replace hf := ob_e hf
        obtain ⟨u_40, hu_40, hf⟩ := hf
        refine ivR (As := [.int x1]) (rest := []) (st1 := [.int u_40]) ⟨hx, hb, hml, hown, hts⟩ hK hN (KX7_kindOf l D cy ad 0 sta pri tcd frt frp deg num x1 H.size hu_40) (cwV 1 hts gX7_is_X7_kindOf rfl rfl rfl (by decide +kernel) ⟨Nat.le_of_ble_eq_true rfl, Nat.le_of_ble_eq_true rfl⟩) (va_recv hK hP (ci := 7) (q0 := 0) rfl rfl) (P_pl (wc := (wX7_0_4_5 cy ad 0 sta pri tcd frt frp deg num)) (is := [0, 1, 2]) hP rfl) rfl hl.1 rfl (Nat.le_of_ble_eq_true rfl) rfl dX7_is_40 ⟨Nat.zero_le _, Nat.zero_le _⟩ ?_
        refine lv_iload_n hx hb dX7_is_43 rfl (lv_at hl 2 rfl) ?_
        replace hf := ob_e hf
        obtain ⟨u_44, hu_44, hf⟩ := hf
        refine isR (As := [.int u_40, .int x2]) (rest := []) (st1 := [.int (bi u_44)]) ⟨hx, hb, hml, hown, hts⟩ hK hN (KX7_isOf l D cy u_40 x2 H.size hu_44) (va_cwS 2 hts gX7_is_X7_isOf rfl rfl rfl (by decide +kernel) ⟨Nat.le_of_ble_eq_true rfl, Nat.le_of_ble_eq_true rfl⟩) P_nil rfl hl.1 rfl (Nat.le_of_ble_eq_true rfl) rfl dX7_is_44 ⟨Nat.zero_le _, Nat.zero_le _⟩ ?_
        refine lv_if_eq (tgt := 54) hx hb dX7_is_47 (by decide) (fun c_47 => ?_) (fun c_47 => ?_)
        · replace hf := it_p c_47 hf
          refine lv_iconst (v := 0) hx hb dX7_is_54 (by decide) ?_
          obtain rfl := Option.some.inj hf
          rw [← hQe]
          exact W.iret (v := 0) hx hb hr (fun t ht hW => ⟨rfl, by rw [ht]; exact hP, hS.F ht⟩) hS.2.2 dX7_is_55
        · replace hf := it_n c_47 hf
          refine lv_iconst (v := 1) hx hb dX7_is_50 (by decide) ?_
          refine lv_goto (tgt := 55) hx hb dX7_is_51 (by decide) ?_
          obtain rfl := Option.some.inj hf
          rw [← hQe]
          exact W.iret (v := 1) hx hb hr (fun t ht hW => ⟨rfl, by rw [ht]; exact hP, hS.F ht⟩) hS.2.2 dX7_is_55
    · replace hf := it_p c_21 hf
      refine lv_ldc (own := RX7) (v := (-1000001)) hx hb hown hw_0 dX7_is_24 ?_
      refine lv_goto (tgt := 55) hx hb dX7_is_26 (by decide) ?_
      obtain rfl := Option.some.inj hf
      rw [← hQe]
      exact W.iret (v := (-1000001)) hx hb hr (fun t ht hW => ⟨rfl, by rw [ht]; exact hP, hS.F ht⟩) hS.2.2 dX7_is_55
