def wX3_0_1_9_10 (cy : Nat → ClassId) (ad : Nat → Nat) (n : Nat) (rp : Int32) (rgs : Int32) (sv : Option Nat) (co : Nat → Int32) (osz : Int32) (nx : Nat → Int32) : va_W := [(ad 0, .inr (3, [.int rp, .ref (ad 9), .ref (ad 1), .ref (ad 2), .ref (ad 3), .ref (ad 4), .ref (ad 5), .ref (ad 6), .ref (ad 7), .ref (ad 8), .int rgs, va_rf sv])), (ad 1, .inl (cy 0, n, .inl co)), (ad 9, .inr (1, [.int osz, .ref (ad 10), .ref (ad 11), .ref (ad 12), .ref (ad 13), .ref (ad 14)])), (ad 10, .inl (cy 0, n, .inl nx))]
def wX3_0_2_3_4_5_6_9_10_12 (cy : Nat → ClassId) (ad : Nat → Nat) (n : Nat) (rp : Int32) (rgs : Int32) (sv : Option Nat) (ro : Nat → Int32) (le : Nat → Int32) (lst : Nat → Int32) (mu : Nat → Int32) (ba : Nat → Int32) (osz : Int32) (nx : Nat → Int32) (pe : Nat → Int32) : va_W := [(ad 0, .inr (3, [.int rp, .ref (ad 9), .ref (ad 1), .ref (ad 2), .ref (ad 3), .ref (ad 4), .ref (ad 5), .ref (ad 6), .ref (ad 7), .ref (ad 8), .int rgs, va_rf sv])), (ad 2, .inl (cy 0, n, .inl ro)), (ad 3, .inl (cy 0, n, .inl le)), (ad 4, .inl (cy 0, n, .inl lst)), (ad 5, .inl (cy 0, n, .inl mu)), (ad 6, .inl (cy 0, n, .inl ba)), (ad 9, .inr (1, [.int osz, .ref (ad 10), .ref (ad 11), .ref (ad 12), .ref (ad 13), .ref (ad 14)])), (ad 10, .inl (cy 0, n, .inl nx)), (ad 12, .inl (cy 0, n, .inl pe))]
def wX3_0_2_3_4_5_6_9_10_11_12 (cy : Nat → ClassId) (ad : Nat → Nat) (n : Nat) (rp : Int32) (rgs : Int32) (sv : Option Nat) (ro : Nat → Int32) (le : Nat → Int32) (lst : Nat → Int32) (mu : Nat → Int32) (ba : Nat → Int32) (osz : Int32) (nx : Nat → Int32) (tl : Nat → Int32) (pe : Nat → Int32) : va_W := [(ad 0, .inr (3, [.int rp, .ref (ad 9), .ref (ad 1), .ref (ad 2), .ref (ad 3), .ref (ad 4), .ref (ad 5), .ref (ad 6), .ref (ad 7), .ref (ad 8), .int rgs, va_rf sv])), (ad 2, .inl (cy 0, n, .inl ro)), (ad 3, .inl (cy 0, n, .inl le)), (ad 4, .inl (cy 0, n, .inl lst)), (ad 5, .inl (cy 0, n, .inl mu)), (ad 6, .inl (cy 0, n, .inl ba)), (ad 9, .inr (1, [.int osz, .ref (ad 10), .ref (ad 11), .ref (ad 12), .ref (ad 13), .ref (ad 14)])), (ad 10, .inl (cy 0, n, .inl nx)), (ad 11, .inl (cy 0, n, .inl tl)), (ad 12, .inl (cy 0, n, .inl pe))]
def wX3_0_2_6_9_13 (cy : Nat → ClassId) (ad : Nat → Nat) (n : Nat) (rp : Int32) (rgs : Int32) (sv : Option Nat) (ro : Nat → Int32) (ba : Nat → Int32) (osz : Int32) (en : Nat → Int32) : va_W := [(ad 0, .inr (3, [.int rp, .ref (ad 9), .ref (ad 1), .ref (ad 2), .ref (ad 3), .ref (ad 4), .ref (ad 5), .ref (ad 6), .ref (ad 7), .ref (ad 8), .int rgs, va_rf sv])), (ad 2, .inl (cy 0, n, .inl ro)), (ad 6, .inl (cy 0, n, .inl ba)), (ad 9, .inr (1, [.int osz, .ref (ad 10), .ref (ad 11), .ref (ad 12), .ref (ad 13), .ref (ad 14)])), (ad 13, .inl (cy 0, n, .inl en))]
def wX3_0_1_2_3_4_5_6_9_10_11_12_13_14 (cy : Nat → ClassId) (ad : Nat → Nat) (n : Nat) (rp : Int32) (rgs : Int32) (sv : Option Nat) (co : Nat → Int32) (ro : Nat → Int32) (le : Nat → Int32) (lst : Nat → Int32) (mu : Nat → Int32) (ba : Nat → Int32) (osz : Int32) (nx : Nat → Int32) (tl : Nat → Int32) (pe : Nat → Int32) (en : Nat → Int32) (pa : Nat → Int32) : va_W := [(ad 0, .inr (3, [.int rp, .ref (ad 9), .ref (ad 1), .ref (ad 2), .ref (ad 3), .ref (ad 4), .ref (ad 5), .ref (ad 6), .ref (ad 7), .ref (ad 8), .int rgs, va_rf sv])), (ad 1, .inl (cy 0, n, .inl co)), (ad 2, .inl (cy 0, n, .inl ro)), (ad 3, .inl (cy 0, n, .inl le)), (ad 4, .inl (cy 0, n, .inl lst)), (ad 5, .inl (cy 0, n, .inl mu)), (ad 6, .inl (cy 0, n, .inl ba)), (ad 9, .inr (1, [.int osz, .ref (ad 10), .ref (ad 11), .ref (ad 12), .ref (ad 13), .ref (ad 14)])), (ad 10, .inl (cy 0, n, .inl nx)), (ad 11, .inl (cy 0, n, .inl tl)), (ad 12, .inl (cy 0, n, .inl pe)), (ad 13, .inl (cy 0, n, .inl en)), (ad 14, .inl (cy 0, n, .inl pa))]
def wX3_0_1_2_9_11_12 (cy : Nat → ClassId) (ad : Nat → Nat) (n : Nat) (rp : Int32) (rgs : Int32) (sv : Option Nat) (co : Nat → Int32) (ro : Nat → Int32) (osz : Int32) (tl : Nat → Int32) (pe : Nat → Int32) : va_W := [(ad 0, .inr (3, [.int rp, .ref (ad 9), .ref (ad 1), .ref (ad 2), .ref (ad 3), .ref (ad 4), .ref (ad 5), .ref (ad 6), .ref (ad 7), .ref (ad 8), .int rgs, va_rf sv])), (ad 1, .inl (cy 0, n, .inl co)), (ad 2, .inl (cy 0, n, .inl ro)), (ad 9, .inr (1, [.int osz, .ref (ad 10), .ref (ad 11), .ref (ad 12), .ref (ad 13), .ref (ad 14)])), (ad 11, .inl (cy 0, n, .inl tl)), (ad 12, .inl (cy 0, n, .inl pe))]
def wX3_0_3_4_5_6 (cy : Nat → ClassId) (ad : Nat → Nat) (n : Nat) (rp : Int32) (rgs : Int32) (sv : Option Nat) (le : Nat → Int32) (lst : Nat → Int32) (mu : Nat → Int32) (ba : Nat → Int32) : va_W := [(ad 0, .inr (3, [.int rp, .ref (ad 9), .ref (ad 1), .ref (ad 2), .ref (ad 3), .ref (ad 4), .ref (ad 5), .ref (ad 6), .ref (ad 7), .ref (ad 8), .int rgs, va_rf sv])), (ad 3, .inl (cy 0, n, .inl le)), (ad 4, .inl (cy 0, n, .inl lst)), (ad 5, .inl (cy 0, n, .inl mu)), (ad 6, .inl (cy 0, n, .inl ba))]
def wX3_0_3 (cy : Nat → ClassId) (ad : Nat → Nat) (n : Nat) (rp : Int32) (rgs : Int32) (sv : Option Nat) (le : Nat → Int32) : va_W := [(ad 0, .inr (3, [.int rp, .ref (ad 9), .ref (ad 1), .ref (ad 2), .ref (ad 3), .ref (ad 4), .ref (ad 5), .ref (ad 6), .ref (ad 7), .ref (ad 8), .int rgs, va_rf sv])), (ad 3, .inl (cy 0, n, .inl le))]
def wX3_0_9_11 (cy : Nat → ClassId) (ad : Nat → Nat) (n : Nat) (rp : Int32) (rgs : Int32) (sv : Option Nat) (osz : Int32) (tl : Nat → Int32) : va_W := [(ad 0, .inr (3, [.int rp, .ref (ad 9), .ref (ad 1), .ref (ad 2), .ref (ad 3), .ref (ad 4), .ref (ad 5), .ref (ad 6), .ref (ad 7), .ref (ad 8), .int rgs, va_rf sv])), (ad 9, .inr (1, [.int osz, .ref (ad 10), .ref (ad 11), .ref (ad 12), .ref (ad 13), .ref (ad 14)])), (ad 11, .inl (cy 0, n, .inl tl))]
def wX3_0_1 (cy : Nat → ClassId) (ad : Nat → Nat) (n : Nat) (rp : Int32) (rgs : Int32) (sv : Option Nat) (co : Nat → Int32) : va_W := [(ad 0, .inr (3, [.int rp, .ref (ad 9), .ref (ad 1), .ref (ad 2), .ref (ad 3), .ref (ad 4), .ref (ad 5), .ref (ad 6), .ref (ad 7), .ref (ad 8), .int rgs, va_rf sv])), (ad 1, .inl (cy 0, n, .inl co))]
def wX3_0_5 (cy : Nat → ClassId) (ad : Nat → Nat) (n : Nat) (rp : Int32) (rgs : Int32) (sv : Option Nat) (mu : Nat → Int32) : va_W := [(ad 0, .inr (3, [.int rp, .ref (ad 9), .ref (ad 1), .ref (ad 2), .ref (ad 3), .ref (ad 4), .ref (ad 5), .ref (ad 6), .ref (ad 7), .ref (ad 8), .int rgs, va_rf sv])), (ad 5, .inl (cy 0, n, .inl mu))]
def wX3_0_1_3_5_9_11 (cy : Nat → ClassId) (ad : Nat → Nat) (n : Nat) (rp : Int32) (rgs : Int32) (sv : Option Nat) (co : Nat → Int32) (le : Nat → Int32) (mu : Nat → Int32) (osz : Int32) (tl : Nat → Int32) : va_W := [(ad 0, .inr (3, [.int rp, .ref (ad 9), .ref (ad 1), .ref (ad 2), .ref (ad 3), .ref (ad 4), .ref (ad 5), .ref (ad 6), .ref (ad 7), .ref (ad 8), .int rgs, va_rf sv])), (ad 1, .inl (cy 0, n, .inl co)), (ad 3, .inl (cy 0, n, .inl le)), (ad 5, .inl (cy 0, n, .inl mu)), (ad 9, .inr (1, [.int osz, .ref (ad 10), .ref (ad 11), .ref (ad 12), .ref (ad 13), .ref (ad 14)])), (ad 11, .inl (cy 0, n, .inl tl))]
def wX3_0_7 (cy : Nat → ClassId) (ad : Nat → Nat) (n : Nat) (rp : Int32) (rgs : Int32) (sv : Option Nat) (bt : Nat → Int32) : va_W := [(ad 0, .inr (3, [.int rp, .ref (ad 9), .ref (ad 1), .ref (ad 2), .ref (ad 3), .ref (ad 4), .ref (ad 5), .ref (ad 6), .ref (ad 7), .ref (ad 8), .int rgs, va_rf sv])), (ad 7, .inl (cy 0, n, .inl bt))]
def wX1_0_2_3 (cy : Nat → ClassId) (ad : Nat → Nat) (n : Nat) (osz : Int32) (tl : Nat → Int32) (pe : Nat → Int32) : va_W := [(ad 0, .inr (1, [.int osz, .ref (ad 1), .ref (ad 2), .ref (ad 3), .ref (ad 4), .ref (ad 5)])), (ad 2, .inl (cy 0, n, .inl tl)), (ad 3, .inl (cy 0, n, .inl pe))]
def wX3_0_7_9_11_12 (cy : Nat → ClassId) (ad : Nat → Nat) (n : Nat) (rp : Int32) (rgs : Int32) (sv : Option Nat) (bt : Nat → Int32) (osz : Int32) (tl : Nat → Int32) (pe : Nat → Int32) : va_W := [(ad 0, .inr (3, [.int rp, .ref (ad 9), .ref (ad 1), .ref (ad 2), .ref (ad 3), .ref (ad 4), .ref (ad 5), .ref (ad 6), .ref (ad 7), .ref (ad 8), .int rgs, va_rf sv])), (ad 7, .inl (cy 0, n, .inl bt)), (ad 9, .inr (1, [.int osz, .ref (ad 10), .ref (ad 11), .ref (ad 12), .ref (ad 13), .ref (ad 14)])), (ad 11, .inl (cy 0, n, .inl tl)), (ad 12, .inl (cy 0, n, .inl pe))]
def wX3_0_7_8_9_11_12 (cy : Nat → ClassId) (ad : Nat → Nat) (n : Nat) (n1 : Nat) (rp : Int32) (rgs : Int32) (sv : Option Nat) (bt : Nat → Int32) (cp : Nat → Int32) (osz : Int32) (tl : Nat → Int32) (pe : Nat → Int32) : va_W := [(ad 0, .inr (3, [.int rp, .ref (ad 9), .ref (ad 1), .ref (ad 2), .ref (ad 3), .ref (ad 4), .ref (ad 5), .ref (ad 6), .ref (ad 7), .ref (ad 8), .int rgs, va_rf sv])), (ad 7, .inl (cy 0, n, .inl bt)), (ad 8, .inl (cy 0, n1, .inl cp)), (ad 9, .inr (1, [.int osz, .ref (ad 10), .ref (ad 11), .ref (ad 12), .ref (ad 13), .ref (ad 14)])), (ad 11, .inl (cy 0, n, .inl tl)), (ad 12, .inl (cy 0, n, .inl pe))]
def FX3_countComers_J54  (k21 : Int32 → (Nat → Int32) → Option ((Nat → Int32))) (x2_21 : Int32) (x3_54 : Int32) (n : Nat) (co_54 : Nat → Int32) (osz : Int32) (nx : Nat → Int32) : Option ((Nat → Int32)) := (bd (x3_54 + 1) (fun v_54 => k21 v_54 co_54))
def FX3_countComers_L21   (x2_21 : Int32) (n : Nat) (osz : Int32) (nx : Nat → Int32) : Nat → Int32 → (Nat → Int32) → Option ((Nat → Int32))
  | 0, _, _ => none
  | fuel + 1, x3_21, co_21 => (if x2_21 ≤ x3_21 then (some (co_21)) else (gi x3_21 n (bd (nx (Int32.toNatClampNeg x3_21)) (fun v_29 => ob (FX1_isInside osz v_29) (fun u_37 => if (bi u_37) = 0 then FX3_countComers_J54 (FX3_countComers_L21 x2_21 n osz nx fuel) x2_21 x3_21 n co_21 osz nx else (gi v_29 n (gi v_29 n (FX3_countComers_J54 (FX3_countComers_L21 x2_21 n osz nx fuel) x2_21 x3_21 n (upd co_21 (Int32.toNatClampNeg v_29) ((co_21 (Int32.toNatClampNeg v_29)) + 1)) osz nx))))))))
def FX3_countComers  (n : Nat) (co : Nat → Int32) (osz : Int32) (nx : Nat → Int32)  : Option ((Nat → Int32)) := (ob (FJ7_fill_53178 n co 0) (fun u_5 => bd (Int32.ofNat n) (fun v_18 => FX3_countComers_L21 v_18 n osz nx FU 0 u_5)))
abbrev RMX3_countComers : Room := { frames := 1, cells := 0, slots := 0, locals := 23 }
set_option maxHeartbeats 4000000 in
set_option maxRecDepth 100000 in
theorem KX3_countComers (l : Launch) (D : va_G) (cy : Nat → ClassId) (ad : Nat → Nat) (n : Nat) (rp : Int32) (rgs : Int32) (sv : Option Nat) (co : Nat → Int32) (osz : Int32) (nx : Nat → Int32)  (sz : Nat) {out : (Nat → Int32)} (hf : FX3_countComers n co osz nx = some out) : Met l yX3_countComers wsX3_countComers RMX3_countComers (PW D cy [.ref (ad 0)] sz ((wX3_0_1_9_10 cy ad n rp rgs sv co osz nx)) []) (QW D none ((wX3_0_1_9_10 cy ad n rp rgs sv out osz nx)) (va_A ((wX3_0_1_9_10 cy ad n rp rgs sv co osz nx)) sz)) 0 0 (va_A ((wX3_0_1_9_10 cy ad n rp rgs sv co osz nx)) sz) := by
  refine Met.ofW (cc := cX3_countComers) (maxL := 5) (ret := none) (by decide +kernel) rfl ?_
  intro p e s m args below meth c s₁ B hml hv
  obtain ⟨hav, hsz, hP, hR0, hK, hN, hD0, hsep⟩ := hv
  have hx := B.exec
  have hb := B.bytes
  have hr := B.returns
  have hts := atoms_spec (ws := wsX3_countComers) B.pre
  have hown : s.vm.findClass RX3 = some m.cls := findClass_of_methodNamed B.named
  have hlocks := B.notSynchronized
  subst hsz
  have hin_X1 : ∀ w ∈ u_ws RX1 TX1 6, w ∈ wsX3_countComers := by decide +kernel
  have hin_X3 : ∀ w ∈ u_ws RX3 TX3 12, w ∈ wsX3_countComers := by decide +kernel
  have hw_0 := hts (.fieldLink RX3 20 "ReturnPoints$Roads" "orbits" "LReturnPoints$Orbits;") (by decide +kernel)
  have hw_1 := hts (.fieldLink RX3 24 "ReturnPoints$Roads" "comers" "[I") (by decide +kernel)
  have hw_2 := hts (.fieldLink RX3 56 "ReturnPoints$Orbits" "next" "[I") (by decide +kernel)
  have hD := hD0.self (sz := s.heap.size)
  have hnA := roA hsep hR0
  generalize hAe : va_A ((wX3_0_1_9_10 cy ad n rp rgs sv co osz nx)) s.heap.size = A at hD hnA ⊢
  have hA : ∀ q : Nat, s.heap.size ≤ q → A q := fun q h => by rw [← hAe]; exact Or.inr h
  have hS : va_S A s.heap s.heap [] := va_S.rf
  obtain ⟨ls, hfr, hl⟩ := ent_ok (m := m) (n := 5) (l' := [(0, .ref (ad 0))]) [.ref (ad 0)] hav (Nat.le_of_ble_eq_true rfl) rfl
  rw [hfr]
  generalize hQe : MQ below (QW D none ((wX3_0_1_9_10 cy ad n rp rgs sv out osz nx)) A) args s 0 0 A = QQ
  change W p l e RMX3_countComers s m args below meth c s.heap [] 0 0 QQ (F0 m 0 ls [])
  have hP : va_P D vwCl ((wX3_0_1_9_10 cy ad n rp rgs sv co osz nx)) s.heap := hP
  have hD : va_D A ((wX3_0_1_9_10 cy ad n rp rgs sv co osz nx)) := hD
  suffices h00 : ∀ (H : Heap) (locs : List Loc), va_P D vwCl ((wX3_0_1_9_10 cy ad n rp rgs sv co osz nx)) H → va_S A s.heap H locs → W p l e RMX3_countComers s m args below meth c H locs 0 0 QQ (F0 m 0 ls []) from h00 _ _ hP hS
  clear hP hS
  intro H locs hP hS
  have L21 : ∀ (x2_21 : Int32) (n21 : Nat) (H : Heap) (locs : List Loc) (ls : Array Slot) (x3_21 : Int32) (co_21 : Nat → Int32), FX3_countComers_L21 x2_21 n osz nx n21 x3_21 co_21 = some out → va_P D vwCl ((wX3_0_1_9_10 cy ad n rp rgs sv co_21 osz nx)) H → va_D A ((wX3_0_1_9_10 cy ad n rp rgs sv co_21 osz nx)) → va_S A s.heap H locs → lv_has ls 5 [(0, .ref (ad 0)), (1, .ref (ad 10)), (2, .int x2_21), (3, .int x3_21)] → W p l e RMX3_countComers s m args below meth c H locs 0 0 QQ (F0 m 21 ls []) := by
    intro x2_21 n21
    induction n21 with
    | zero => intro H locs ls x3_21 co_21 hf; simp [FX3_countComers_L21] at hf
    | succ n21 ih21 =>
      intro H locs ls x3_21 co_21 hf hP hD hS hl
      rw [FX3_countComers_L21] at hf
      have J54 : ∀ (H : Heap) (locs : List Loc) (ls : Array Slot) (x3_54 : Int32) (co_54 : Nat → Int32), FX3_countComers_J54 (FX3_countComers_L21 x2_21 n osz nx n21) x2_21 x3_54 n co_54 osz nx = some out → va_P D vwCl ((wX3_0_1_9_10 cy ad n rp rgs sv co_54 osz nx)) H → va_D A ((wX3_0_1_9_10 cy ad n rp rgs sv co_54 osz nx)) → va_S A s.heap H locs → lv_has ls 5 [(0, .ref (ad 0)), (1, .ref (ad 10)), (2, .int x2_21), (3, .int x3_54)] → W p l e RMX3_countComers s m args below meth c H locs 0 0 QQ (F0 m 54 ls []) := by
        intro H locs ls x3_54 co_54 hf hP hD hS hl
        unfold FX3_countComers_J54 at hf
        obtain ⟨v_54, e_54⟩ : ∃ y : Int32, y = x3_54 + 1 := ⟨_, rfl⟩
        replace hf := bd_at e_54 hf
        refine lv_iinc (v := v_54) (lv' := [(3, .int v_54), (0, .ref (ad 0)), (1, .ref (ad 10)), (2, .int x2_21)]) hx hb dX3_countComers_54 hl (k := 3) rfl (by rw [e_54]; rfl) (by decide) rfl (fun ls hl => ?_)
        clear e_54
        refine lv_goto (tgt := 21) hx hb dX3_countComers_57 (by decide) ?_
        exact ih21 H locs ls v_54 co_54 hf hP hD hS (lv_sub hl [1, 2, 3, 0] rfl)
      refine lv_iload_n hx hb dX3_countComers_21 rfl (lv_at hl 3 rfl) ?_
      refine lv_iload_n hx hb dX3_countComers_22 rfl (lv_at hl 2 rfl) ?_
      refine lv_icmp_ge (tgt := 60) hx hb dX3_countComers_23 (by decide) (fun c_23 => ?_) (fun c_23 => ?_)
      · replace hf := it_p c_23 hf
        obtain rfl := Option.some.inj hf
        rw [← hQe]
        exact W.vret hx hb hr (fun t ht hW => ⟨rfl, by rw [ht]; exact hP, hS.F ht⟩) hS.2.2 dX3_countComers_60
      · replace hf := it_n c_23 hf
        refine lv_aload_n hx hb dX3_countComers_26 rfl (lv_at hl 1 rfl) ?_
        refine lv_iload_n hx hb dX3_countComers_27 rfl (lv_at hl 3 rfl) ?_
        replace hf := gi_e hf
        obtain ⟨i_28, hf⟩ := hf
        refine va_iald (a := (ad 10)) hx hb hK hP 3 0 rfl rfl i_28 dX3_countComers_28 ?_
        refine lv_topi (fun v_29 e_29 => ?_)
        replace hf := bd_at e_29 hf
        clear e_29
        refine lv_istore (lv' := [(4, .int v_29), (0, .ref (ad 0)), (1, .ref (ad 10)), (2, .int x2_21), (3, .int x3_21)]) hx hb dX3_countComers_29 hl (by decide) rfl (fun ls hl => ?_)
        refine lv_aload_n hx hb dX3_countComers_31 rfl (lv_at hl 1 rfl) ?_
        refine va_get (a := (ad 0)) (ci := 3) (v := .ref (ad 9)) (C := RX3) (T := TX3) (N := 12) hx hb hts hin_X3 hown hK hP 0 rfl rfl 1 (by decide) hw_0 (fun _ h => h) rfl dX3_countComers_32 ?_
        refine lv_iload hx hb dX3_countComers_35 (lv_at hl 0 rfl) ?_
        replace hf := ob_e hf
        obtain ⟨u_37, hu_37, hf⟩ := hf
        refine ivR (As := [.int v_29]) (rest := []) (st1 := [.int (bi u_37)]) ⟨hx, hb, hml, hown, hts⟩ hK hN (KX1_isInside l D cy (fun i => ad (9 + i)) osz v_29 H.size hu_37) (cwV 1 hts gX3_countComers_X1_isInside rfl rfl rfl (by decide +kernel) ⟨Nat.le_of_ble_eq_true rfl, Nat.le_of_ble_eq_true rfl⟩) (va_recv hK hP (ci := 1) (q0 := 2) rfl rfl) (P_pl (wc := (wX1_0 cy (fun i => ad (9 + i)) osz)) (is := [2]) hP rfl) rfl hl.1 rfl (Nat.le_of_ble_eq_true rfl) rfl dX3_countComers_37 ⟨Nat.zero_le _, Nat.zero_le _⟩ ?_
        refine lv_if_eq (tgt := 54) hx hb dX3_countComers_40 (by decide) (fun c_40 => ?_) (fun c_40 => ?_)
        · replace hf := it_p c_40 hf
          exact J54 H locs ls x3_21 co_21 hf hP hD hS (lv_sub hl [1, 2, 3, 4] rfl)
        · replace hf := it_n c_40 hf
          refine lv_aload_n hx hb dX3_countComers_43 rfl (lv_at hl 1 rfl) ?_
          refine va_get (a := (ad 0)) (ci := 3) (v := .ref (ad 1)) (C := RX3) (T := TX3) (N := 12) hx hb hts hin_X3 hown hK hP 0 rfl rfl 2 (by decide) hw_1 (fun _ h => h) rfl dX3_countComers_44 ?_
          refine lv_iload hx hb dX3_countComers_47 (lv_at hl 0 rfl) ?_
          refine lv_dup2_11 hx hb dX3_countComers_49 rfl rfl ?_
          replace hf := gi_e hf
          obtain ⟨i_50, hf⟩ := hf
          refine va_iald (a := (ad 1)) hx hb hK hP 1 0 rfl rfl i_50 dX3_countComers_50 ?_
          refine lv_iconst (v := 1) hx hb dX3_countComers_51 (by decide) ?_
          refine lv_iadd hx hb dX3_countComers_52 ?_
          replace hf := gi_e hf
          obtain ⟨i_53, hf⟩ := hf
          refine va_iast (a := (ad 1)) hx hb hK hP hD hS 1 0 rfl rfl i_53 dX3_countComers_53 (fun H locs hP hD hS => ?_)
          have hP : va_P D vwCl ((wX3_0_1_9_10 cy ad n rp rgs sv (upd co_21 (Int32.toNatClampNeg v_29) ((co_21 (Int32.toNatClampNeg v_29)) + 1)) osz nx)) H := hP
          have hD : va_D A ((wX3_0_1_9_10 cy ad n rp rgs sv (upd co_21 (Int32.toNatClampNeg v_29) ((co_21 (Int32.toNatClampNeg v_29)) + 1)) osz nx)) := hD
          exact J54 H locs ls x3_21 (upd co_21 (Int32.toNatClampNeg v_29) ((co_21 (Int32.toNatClampNeg v_29)) + 1)) hf hP hD hS (lv_sub hl [1, 2, 3, 4] rfl)
  unfold FX3_countComers at hf
  refine lv_aload_n hx hb dX3_countComers_0 rfl (lv_at hl 0 rfl) ?_
  refine va_get (a := (ad 0)) (ci := 3) (v := .ref (ad 1)) (C := RX3) (T := TX3) (N := 12) hx hb hts hin_X3 hown hK hP 0 rfl rfl 2 (by decide) hw_1 (fun _ h => h) rfl dX3_countComers_1 ?_
  refine lv_iconst (v := 0) hx hb dX3_countComers_4 (by decide) ?_
  replace hf := ob_e hf
  obtain ⟨u_5, hu_5, hf⟩ := hf
  refine isW (As := [.ref (ad 1), .int 0]) (rest := []) (st1 := []) (is := [1]) (w1 := (waI cy (ad 1) n u_5)) ⟨hx, hb, hml, hown, hts⟩ hK hN (KJ7_fill_53178 l D cy (ad 1) n co 0 H.size hu_5) (va_cwS 2 hts gX3_countComers_J7_fill_53178 rfl rfl rfl (by decide +kernel) ⟨Nat.le_of_ble_eq_true rfl, Nat.le_of_ble_eq_true rfl⟩) hP hD hS hA P_nil (sepW_nil _) (by decide) rfl rfl rfl hl.1 rfl (Nat.le_of_ble_eq_true rfl) rfl dX3_countComers_5 ⟨Nat.zero_le _, Nat.zero_le _⟩ (fun H locs hP hD hS => ?_)
  have hP : va_P D vwCl ((wX3_0_1_9_10 cy ad n rp rgs sv u_5 osz nx)) H := hP
  have hD : va_D A ((wX3_0_1_9_10 cy ad n rp rgs sv u_5 osz nx)) := hD
  refine lv_aload_n hx hb dX3_countComers_8 rfl (lv_at hl 0 rfl) ?_
  refine va_get (a := (ad 0)) (ci := 3) (v := .ref (ad 9)) (C := RX3) (T := TX3) (N := 12) hx hb hts hin_X3 hown hK hP 0 rfl rfl 1 (by decide) hw_0 (fun _ h => h) rfl dX3_countComers_9 ?_
  refine va_get (a := (ad 9)) (ci := 1) (v := .ref (ad 10)) (C := RX1) (T := TX1) (N := 6) hx hb hts hin_X1 hown hK hP 2 rfl rfl 1 (by decide) hw_2 (fun _ h => h) rfl dX3_countComers_12 ?_
  refine lv_astore_n (lv' := [(1, .ref (ad 10)), (0, .ref (ad 0))]) hx hb dX3_countComers_15 rfl hl (by decide) rfl (fun ls hl => ?_)
  refine lv_aload_n hx hb dX3_countComers_16 rfl (lv_at hl 0 rfl) ?_
  refine va_alen (a := (ad 10)) (v := (Int32.ofNat n)) hx hb hK hP 3 0 rfl rfl rfl dX3_countComers_17 ?_
  refine lv_topi (fun v_18 e_18 => ?_)
  replace hf := bd_at e_18 hf
  clear e_18
  refine lv_istore_n (lv' := [(2, .int v_18), (1, .ref (ad 10)), (0, .ref (ad 0))]) hx hb dX3_countComers_18 rfl hl (by decide) rfl (fun ls hl => ?_)
  refine lv_iconst (v := 0) hx hb dX3_countComers_19 (by decide) ?_
  refine lv_istore_n (lv' := [(3, .int 0), (2, .int v_18), (1, .ref (ad 10)), (0, .ref (ad 0))]) hx hb dX3_countComers_20 rfl hl (by decide) rfl (fun ls hl => ?_)
  exact L21 v_18 FU H locs ls 0 u_5 hf hP hD hS (lv_sub hl [3, 2, 1, 0] rfl)
def FX3_goRound_J77   (x2 : Int32) (x3 : Int32) (x4_77 : Int32) (n : Nat) (ro_77 : Nat → Int32) (le_77 : Nat → Int32) (lst_77 : Nat → Int32) (mu_77 : Nat → Int32) (ba_77 : Nat → Int32) (pe : Nat → Int32) : Option ((Nat → Int32) × (Nat → Int32) × (Nat → Int32) × (Nat → Int32) × (Nat → Int32)) := (gi x2 n (gi x3 n (gi x3 n (gi x3 n (gi x3 n (some (ro_77, (upd le_77 (Int32.toNatClampNeg x3) (pe (Int32.toNatClampNeg x2))), (upd lst_77 (Int32.toNatClampNeg x3) x2), (upd mu_77 (Int32.toNatClampNeg x3) x4_77), (upd ba_77 (Int32.toNatClampNeg x3) 0))))))))
def FX3_goRound_L9   (x2 : Int32) (x3 : Int32) (n : Nat) (rp : Int32) (le_9 : Nat → Int32) (lst_9 : Nat → Int32) (mu_9 : Nat → Int32) (ba_9 : Nat → Int32) (osz : Int32) (nx : Nat → Int32) (pe : Nat → Int32) (m_pn : Nat) (m_pp : Int32) (m_pd : Int32) (m_pc : Nat → Int32) : Nat → Int32 → Int32 → Int32 → (Nat → Int32) → Option ((Nat → Int32) × (Nat → Int32) × (Nat → Int32) × (Nat → Int32) × (Nat → Int32))
  | 0, _, _, _, _ => none
  | fuel + 1, x4_9, x5_9, x6_9, ro_9 => (gi x2 n (if (pe (Int32.toNatClampNeg x2)) ≤ x6_9 then FX3_goRound_J77 x2 x3 x4_9 n ro_9 le_9 lst_9 mu_9 ba_9 pe else (ob (FX1_isInside osz x5_9) (fun u_29 => if (bi u_29) = 0 then FX3_goRound_J77 x2 x3 x4_9 n ro_9 le_9 lst_9 mu_9 ba_9 pe else (gi x5_9 n (ob (FX2_slopeAt m_pn m_pp m_pd m_pc x5_9) (fun u_48 => gd (¬ rp = 0) (bd (irm (x4_9 * u_48) rp) (fun v_57 => gi x5_9 n (bd (nx (Int32.toNatClampNeg x5_9)) (fun v_69 => bd (x6_9 + 1) (fun v_71 => (FX3_goRound_L9 x2 x3 n rp le_9 lst_9 mu_9 ba_9 osz nx pe m_pn m_pp m_pd m_pc fuel) v_57 v_69 v_71 (upd ro_9 (Int32.toNatClampNeg x5_9) x3)))))))))))))
def FX3_goRound  (n : Nat) (rp : Int32) (ro : Nat → Int32) (le : Nat → Int32) (lst : Nat → Int32) (mu : Nat → Int32) (ba : Nat → Int32) (osz : Int32) (nx : Nat → Int32) (pe : Nat → Int32) (m_pn : Nat) (m_pp : Int32) (m_pd : Int32) (m_pc : Nat → Int32) (x2 : Int32) (x3 : Int32) : Option ((Nat → Int32) × (Nat → Int32) × (Nat → Int32) × (Nat → Int32) × (Nat → Int32)) := (FX3_goRound_L9 x2 x3 n rp le lst mu ba osz nx pe m_pn m_pp m_pd m_pc FU 1 x2 0 ro)
abbrev RMX3_goRound : Room := { frames := 1, cells := 0, slots := 0, locals := 23 }
set_option maxHeartbeats 4000000 in
set_option maxRecDepth 100000 in
theorem KX3_goRound (l : Launch) (D : va_G) (cy : Nat → ClassId) (ad : Nat → Nat) (am : Nat → Nat) (n : Nat) (rp : Int32) (rgs : Int32) (sv : Option Nat) (ro : Nat → Int32) (le : Nat → Int32) (lst : Nat → Int32) (mu : Nat → Int32) (ba : Nat → Int32) (osz : Int32) (nx : Nat → Int32) (pe : Nat → Int32) (m_pn : Nat) (m_pp : Int32) (m_pd : Int32) (m_pt : Int32) (m_pc : Nat → Int32) (x2 : Int32) (x3 : Int32) (sz : Nat) {out : (Nat → Int32) × (Nat → Int32) × (Nat → Int32) × (Nat → Int32) × (Nat → Int32)} (hf : FX3_goRound n rp ro le lst mu ba osz nx pe m_pn m_pp m_pd m_pc x2 x3 = some out) : Met l yX3_goRound wsX3_goRound RMX3_goRound (PW D cy [.ref (ad 0), .ref (am 0), .int x2, .int x3] sz ((wX3_0_2_3_4_5_6_9_10_12 cy ad n rp rgs sv ro le lst mu ba osz nx pe)) ((wX2_0_1 cy am m_pn m_pp m_pd m_pt m_pc))) (QW D none ((wX3_0_2_3_4_5_6_9_10_12 cy ad n rp rgs sv out.1 out.2.1 out.2.2.1 out.2.2.2.1 out.2.2.2.2 osz nx pe)) (va_A ((wX3_0_2_3_4_5_6_9_10_12 cy ad n rp rgs sv ro le lst mu ba osz nx pe)) sz)) 0 0 (va_A ((wX3_0_2_3_4_5_6_9_10_12 cy ad n rp rgs sv ro le lst mu ba osz nx pe)) sz) := by
  refine Met.ofW (cc := cX3_goRound) (maxL := 7) (ret := none) (by decide +kernel) rfl ?_
  intro p e s m args below meth c s₁ B hml hv
  obtain ⟨hav, hsz, hP, hR0, hK, hN, hD0, hsep⟩ := hv
  have hx := B.exec
  have hb := B.bytes
  have hr := B.returns
  have hts := atoms_spec (ws := wsX3_goRound) B.pre
  have hown : s.vm.findClass RX3 = some m.cls := findClass_of_methodNamed B.named
  have hlocks := B.notSynchronized
  subst hsz
  have hin_X1 : ∀ w ∈ u_ws RX1 TX1 6, w ∈ wsX3_goRound := by decide +kernel
  have hin_X3 : ∀ w ∈ u_ws RX3 TX3 12, w ∈ wsX3_goRound := by decide +kernel
  have hw_0 := hts (.fieldLink RX3 31 "ReturnPoints$Roads" "length" "[I") (by decide +kernel)
  have hw_1 := hts (.fieldLink RX3 20 "ReturnPoints$Roads" "orbits" "LReturnPoints$Orbits;") (by decide +kernel)
  have hw_2 := hts (.fieldLink RX3 96 "ReturnPoints$Orbits" "period" "[I") (by decide +kernel)
  have hw_3 := hts (.fieldLink RX3 34 "ReturnPoints$Roads" "least" "[I") (by decide +kernel)
  have hw_4 := hts (.fieldLink RX3 37 "ReturnPoints$Roads" "multiplier" "[I") (by decide +kernel)
  have hw_5 := hts (.fieldLink RX3 40 "ReturnPoints$Roads" "basin" "[I") (by decide +kernel)
  have hw_6 := hts (.fieldLink RX3 28 "ReturnPoints$Roads" "ringOf" "[I") (by decide +kernel)
  have hw_7 := hts (.fieldLink RX3 9 "ReturnPoints$Roads" "p" "I") (by decide +kernel)
  have hw_8 := hts (.fieldLink RX3 56 "ReturnPoints$Orbits" "next" "[I") (by decide +kernel)
  have hD := hD0.self (sz := s.heap.size)
  have hnA := roA hsep hR0
  generalize hAe : va_A ((wX3_0_2_3_4_5_6_9_10_12 cy ad n rp rgs sv ro le lst mu ba osz nx pe)) s.heap.size = A at hD hnA ⊢
  have hA : ∀ q : Nat, s.heap.size ≤ q → A q := fun q h => by rw [← hAe]; exact Or.inr h
  have hS : va_S A s.heap s.heap [] := va_S.rf
  obtain ⟨ls, hfr, hl⟩ := ent_ok (m := m) (n := 7) (l' := [(0, .ref (ad 0)), (1, .ref (am 0)), (2, .int x2), (3, .int x3)]) [.ref (ad 0), .ref (am 0), .int x2, .int x3] hav (Nat.le_of_ble_eq_true rfl) rfl
  rw [hfr]
  generalize hQe : MQ below (QW D none ((wX3_0_2_3_4_5_6_9_10_12 cy ad n rp rgs sv out.1 out.2.1 out.2.2.1 out.2.2.2.1 out.2.2.2.2 osz nx pe)) A) args s 0 0 A = QQ
  change W p l e RMX3_goRound s m args below meth c s.heap [] 0 0 QQ (F0 m 0 ls [])
  have hP : va_P D vwCl ((wX3_0_2_3_4_5_6_9_10_12 cy ad n rp rgs sv ro le lst mu ba osz nx pe)) s.heap := hP
  have hD : va_D A ((wX3_0_2_3_4_5_6_9_10_12 cy ad n rp rgs sv ro le lst mu ba osz nx pe)) := hD
  suffices h00 : ∀ (H : Heap) (locs : List Loc), va_P D vwCl ((wX3_0_2_3_4_5_6_9_10_12 cy ad n rp rgs sv ro le lst mu ba osz nx pe)) H → va_S A s.heap H locs → W p l e RMX3_goRound s m args below meth c H locs 0 0 QQ (F0 m 0 ls []) from h00 _ _ hP hS
  clear hP hS
  intro H locs hP hS
  have J77 : ∀ (H : Heap) (locs : List Loc) (ls : Array Slot) (x4_77 : Int32) (ro_77 : Nat → Int32) (le_77 : Nat → Int32) (lst_77 : Nat → Int32) (mu_77 : Nat → Int32) (ba_77 : Nat → Int32), FX3_goRound_J77 x2 x3 x4_77 n ro_77 le_77 lst_77 mu_77 ba_77 pe = some out → va_P D vwCl ((wX3_0_2_3_4_5_6_9_10_12 cy ad n rp rgs sv ro_77 le_77 lst_77 mu_77 ba_77 osz nx pe)) H → va_D A ((wX3_0_2_3_4_5_6_9_10_12 cy ad n rp rgs sv ro_77 le_77 lst_77 mu_77 ba_77 osz nx pe)) → va_S A s.heap H locs → lv_has ls 7 [(0, .ref (ad 0)), (2, .int x2), (3, .int x3), (4, .int x4_77)] → W p l e RMX3_goRound s m args below meth c H locs 0 0 QQ (F0 m 77 ls []) := by
    intro H locs ls x4_77 ro_77 le_77 lst_77 mu_77 ba_77 hf hP hD hS hl
    unfold FX3_goRound_J77 at hf
    refine lv_aload_n hx hb dX3_goRound_77 rfl (lv_at hl 0 rfl) ?_
    refine va_get (a := (ad 0)) (ci := 3) (v := .ref (ad 3)) (C := RX3) (T := TX3) (N := 12) hx hb hts hin_X3 hown hK hP 0 rfl rfl 4 (by decide) hw_0 (fun _ h => h) rfl dX3_goRound_78 ?_
    refine lv_iload_n hx hb dX3_goRound_81 rfl (lv_at hl 2 rfl) ?_
    refine lv_aload_n hx hb dX3_goRound_82 rfl (lv_at hl 0 rfl) ?_
    refine va_get (a := (ad 0)) (ci := 3) (v := .ref (ad 9)) (C := RX3) (T := TX3) (N := 12) hx hb hts hin_X3 hown hK hP 0 rfl rfl 1 (by decide) hw_1 (fun _ h => h) rfl dX3_goRound_83 ?_
    refine va_get (a := (ad 9)) (ci := 1) (v := .ref (ad 12)) (C := RX1) (T := TX1) (N := 6) hx hb hts hin_X1 hown hK hP 6 rfl rfl 3 (by decide) hw_2 (fun _ h => h) rfl dX3_goRound_86 ?_
    refine lv_iload_n hx hb dX3_goRound_89 rfl (lv_at hl 1 rfl) ?_
    replace hf := gi_e hf
    obtain ⟨i_90, hf⟩ := hf
    refine va_iald (a := (ad 12)) hx hb hK hP 8 0 rfl rfl i_90 dX3_goRound_90 ?_
    replace hf := gi_e hf
    obtain ⟨i_91, hf⟩ := hf
    refine va_iast (a := (ad 3)) hx hb hK hP hD hS 2 0 rfl rfl i_91 dX3_goRound_91 (fun H locs hP hD hS => ?_)
    have hP : va_P D vwCl ((wX3_0_2_3_4_5_6_9_10_12 cy ad n rp rgs sv ro_77 (upd le_77 (Int32.toNatClampNeg x3) (pe (Int32.toNatClampNeg x2))) lst_77 mu_77 ba_77 osz nx pe)) H := hP
    have hD : va_D A ((wX3_0_2_3_4_5_6_9_10_12 cy ad n rp rgs sv ro_77 (upd le_77 (Int32.toNatClampNeg x3) (pe (Int32.toNatClampNeg x2))) lst_77 mu_77 ba_77 osz nx pe)) := hD
    refine lv_aload_n hx hb dX3_goRound_92 rfl (lv_at hl 0 rfl) ?_
    refine va_get (a := (ad 0)) (ci := 3) (v := .ref (ad 4)) (C := RX3) (T := TX3) (N := 12) hx hb hts hin_X3 hown hK hP 0 rfl rfl 5 (by decide) hw_3 (fun _ h => h) rfl dX3_goRound_93 ?_
    refine lv_iload_n hx hb dX3_goRound_96 rfl (lv_at hl 2 rfl) ?_
    refine lv_iload_n hx hb dX3_goRound_97 rfl (lv_at hl 1 rfl) ?_
    replace hf := gi_e hf
    obtain ⟨i_98, hf⟩ := hf
    refine va_iast (a := (ad 4)) hx hb hK hP hD hS 3 0 rfl rfl i_98 dX3_goRound_98 (fun H locs hP hD hS => ?_)
    have hP : va_P D vwCl ((wX3_0_2_3_4_5_6_9_10_12 cy ad n rp rgs sv ro_77 (upd le_77 (Int32.toNatClampNeg x3) (pe (Int32.toNatClampNeg x2))) (upd lst_77 (Int32.toNatClampNeg x3) x2) mu_77 ba_77 osz nx pe)) H := hP
    have hD : va_D A ((wX3_0_2_3_4_5_6_9_10_12 cy ad n rp rgs sv ro_77 (upd le_77 (Int32.toNatClampNeg x3) (pe (Int32.toNatClampNeg x2))) (upd lst_77 (Int32.toNatClampNeg x3) x2) mu_77 ba_77 osz nx pe)) := hD
    refine lv_aload_n hx hb dX3_goRound_99 rfl (lv_at hl 0 rfl) ?_
    refine va_get (a := (ad 0)) (ci := 3) (v := .ref (ad 5)) (C := RX3) (T := TX3) (N := 12) hx hb hts hin_X3 hown hK hP 0 rfl rfl 6 (by decide) hw_4 (fun _ h => h) rfl dX3_goRound_100 ?_
    refine lv_iload_n hx hb dX3_goRound_103 rfl (lv_at hl 2 rfl) ?_
    refine lv_iload hx hb dX3_goRound_104 (lv_at hl 3 rfl) ?_
    replace hf := gi_e hf
    obtain ⟨i_106, hf⟩ := hf
    refine va_iast (a := (ad 5)) hx hb hK hP hD hS 4 0 rfl rfl i_106 dX3_goRound_106 (fun H locs hP hD hS => ?_)
    have hP : va_P D vwCl ((wX3_0_2_3_4_5_6_9_10_12 cy ad n rp rgs sv ro_77 (upd le_77 (Int32.toNatClampNeg x3) (pe (Int32.toNatClampNeg x2))) (upd lst_77 (Int32.toNatClampNeg x3) x2) (upd mu_77 (Int32.toNatClampNeg x3) x4_77) ba_77 osz nx pe)) H := hP
    have hD : va_D A ((wX3_0_2_3_4_5_6_9_10_12 cy ad n rp rgs sv ro_77 (upd le_77 (Int32.toNatClampNeg x3) (pe (Int32.toNatClampNeg x2))) (upd lst_77 (Int32.toNatClampNeg x3) x2) (upd mu_77 (Int32.toNatClampNeg x3) x4_77) ba_77 osz nx pe)) := hD
    refine lv_aload_n hx hb dX3_goRound_107 rfl (lv_at hl 0 rfl) ?_
    refine va_get (a := (ad 0)) (ci := 3) (v := .ref (ad 6)) (C := RX3) (T := TX3) (N := 12) hx hb hts hin_X3 hown hK hP 0 rfl rfl 7 (by decide) hw_5 (fun _ h => h) rfl dX3_goRound_108 ?_
    refine lv_iload_n hx hb dX3_goRound_111 rfl (lv_at hl 2 rfl) ?_
    refine lv_iconst (v := 0) hx hb dX3_goRound_112 (by decide) ?_
    replace hf := gi_e hf
    obtain ⟨i_113, hf⟩ := hf
    refine va_iast (a := (ad 6)) hx hb hK hP hD hS 5 0 rfl rfl i_113 dX3_goRound_113 (fun H locs hP hD hS => ?_)
    have hP : va_P D vwCl ((wX3_0_2_3_4_5_6_9_10_12 cy ad n rp rgs sv ro_77 (upd le_77 (Int32.toNatClampNeg x3) (pe (Int32.toNatClampNeg x2))) (upd lst_77 (Int32.toNatClampNeg x3) x2) (upd mu_77 (Int32.toNatClampNeg x3) x4_77) (upd ba_77 (Int32.toNatClampNeg x3) 0) osz nx pe)) H := hP
    have hD : va_D A ((wX3_0_2_3_4_5_6_9_10_12 cy ad n rp rgs sv ro_77 (upd le_77 (Int32.toNatClampNeg x3) (pe (Int32.toNatClampNeg x2))) (upd lst_77 (Int32.toNatClampNeg x3) x2) (upd mu_77 (Int32.toNatClampNeg x3) x4_77) (upd ba_77 (Int32.toNatClampNeg x3) 0) osz nx pe)) := hD
    obtain rfl := Option.some.inj hf
    rw [← hQe]
    exact W.vret hx hb hr (fun t ht hW => ⟨rfl, by rw [ht]; exact hP, hS.F ht⟩) hS.2.2 dX3_goRound_114
  have L9 : ∀ (le_9 : Nat → Int32) (lst_9 : Nat → Int32) (mu_9 : Nat → Int32) (ba_9 : Nat → Int32) (n9 : Nat) (H : Heap) (locs : List Loc) (ls : Array Slot) (x4_9 : Int32) (x5_9 : Int32) (x6_9 : Int32) (ro_9 : Nat → Int32), FX3_goRound_L9 x2 x3 n rp le_9 lst_9 mu_9 ba_9 osz nx pe m_pn m_pp m_pd m_pc n9 x4_9 x5_9 x6_9 ro_9 = some out → va_P D vwCl ((wX3_0_2_3_4_5_6_9_10_12 cy ad n rp rgs sv ro_9 le_9 lst_9 mu_9 ba_9 osz nx pe)) H → va_D A ((wX3_0_2_3_4_5_6_9_10_12 cy ad n rp rgs sv ro_9 le_9 lst_9 mu_9 ba_9 osz nx pe)) → va_S A s.heap H locs → lv_has ls 7 [(0, .ref (ad 0)), (1, .ref (am 0)), (2, .int x2), (3, .int x3), (4, .int x4_9), (5, .int x5_9), (6, .int x6_9)] → W p l e RMX3_goRound s m args below meth c H locs 0 0 QQ (F0 m 9 ls []) := by
    intro le_9 lst_9 mu_9 ba_9 n9
    induction n9 with
    | zero => intro H locs ls x4_9 x5_9 x6_9 ro_9 hf; simp [FX3_goRound_L9] at hf
    | succ n9 ih9 =>
      intro H locs ls x4_9 x5_9 x6_9 ro_9 hf hP hD hS hl
      rw [FX3_goRound_L9] at hf
      refine lv_iload hx hb dX3_goRound_9 (lv_at hl 6 rfl) ?_
      refine lv_aload_n hx hb dX3_goRound_11 rfl (lv_at hl 0 rfl) ?_
      refine va_get (a := (ad 0)) (ci := 3) (v := .ref (ad 9)) (C := RX3) (T := TX3) (N := 12) hx hb hts hin_X3 hown hK hP 0 rfl rfl 1 (by decide) hw_1 (fun _ h => h) rfl dX3_goRound_12 ?_
      refine va_get (a := (ad 9)) (ci := 1) (v := .ref (ad 12)) (C := RX1) (T := TX1) (N := 6) hx hb hts hin_X1 hown hK hP 6 rfl rfl 3 (by decide) hw_2 (fun _ h => h) rfl dX3_goRound_15 ?_
      refine lv_iload_n hx hb dX3_goRound_18 rfl (lv_at hl 2 rfl) ?_
      replace hf := gi_e hf
      obtain ⟨i_19, hf⟩ := hf
      refine va_iald (a := (ad 12)) hx hb hK hP 8 0 rfl rfl i_19 dX3_goRound_19 ?_
      refine lv_icmp_ge (tgt := 77) hx hb dX3_goRound_20 (by decide) (fun c_20 => ?_) (fun c_20 => ?_)
      · replace hf := it_p c_20 hf
        exact J77 H locs ls x4_9 ro_9 le_9 lst_9 mu_9 ba_9 hf hP hD hS (lv_sub hl [0, 2, 3, 4] rfl)
      · replace hf := it_n c_20 hf
        refine lv_aload_n hx hb dX3_goRound_23 rfl (lv_at hl 0 rfl) ?_
        refine va_get (a := (ad 0)) (ci := 3) (v := .ref (ad 9)) (C := RX3) (T := TX3) (N := 12) hx hb hts hin_X3 hown hK hP 0 rfl rfl 1 (by decide) hw_1 (fun _ h => h) rfl dX3_goRound_24 ?_
        refine lv_iload hx hb dX3_goRound_27 (lv_at hl 5 rfl) ?_
        replace hf := ob_e hf
        obtain ⟨u_29, hu_29, hf⟩ := hf
        refine ivR (As := [.int x5_9]) (rest := []) (st1 := [.int (bi u_29)]) ⟨hx, hb, hml, hown, hts⟩ hK hN (KX1_isInside l D cy (fun i => ad (9 + i)) osz x5_9 H.size hu_29) (cwV 1 hts gX3_goRound_X1_isInside rfl rfl rfl (by decide +kernel) ⟨Nat.le_of_ble_eq_true rfl, Nat.le_of_ble_eq_true rfl⟩) (va_recv hK hP (ci := 1) (q0 := 6) rfl rfl) (P_pl (wc := (wX1_0 cy (fun i => ad (9 + i)) osz)) (is := [6]) hP rfl) rfl hl.1 rfl (Nat.le_of_ble_eq_true rfl) rfl dX3_goRound_29 ⟨Nat.zero_le _, Nat.zero_le _⟩ ?_
        refine lv_if_eq (tgt := 77) hx hb dX3_goRound_32 (by decide) (fun c_32 => ?_) (fun c_32 => ?_)
        · replace hf := it_p c_32 hf
          exact J77 H locs ls x4_9 ro_9 le_9 lst_9 mu_9 ba_9 hf hP hD hS (lv_sub hl [0, 2, 3, 4] rfl)
        · replace hf := it_n c_32 hf
          refine lv_aload_n hx hb dX3_goRound_35 rfl (lv_at hl 0 rfl) ?_
          refine va_get (a := (ad 0)) (ci := 3) (v := .ref (ad 2)) (C := RX3) (T := TX3) (N := 12) hx hb hts hin_X3 hown hK hP 0 rfl rfl 3 (by decide) hw_6 (fun _ h => h) rfl dX3_goRound_36 ?_
          refine lv_iload hx hb dX3_goRound_39 (lv_at hl 5 rfl) ?_
          refine lv_iload_n hx hb dX3_goRound_41 rfl (lv_at hl 3 rfl) ?_
          replace hf := gi_e hf
          obtain ⟨i_42, hf⟩ := hf
          refine va_iast (a := (ad 2)) hx hb hK hP hD hS 1 0 rfl rfl i_42 dX3_goRound_42 (fun H locs hP hD hS => ?_)
          have hP : va_P D vwCl ((wX3_0_2_3_4_5_6_9_10_12 cy ad n rp rgs sv (upd ro_9 (Int32.toNatClampNeg x5_9) x3) le_9 lst_9 mu_9 ba_9 osz nx pe)) H := hP
          have hD : va_D A ((wX3_0_2_3_4_5_6_9_10_12 cy ad n rp rgs sv (upd ro_9 (Int32.toNatClampNeg x5_9) x3) le_9 lst_9 mu_9 ba_9 osz nx pe)) := hD
          refine lv_iload hx hb dX3_goRound_43 (lv_at hl 4 rfl) ?_
          refine lv_aload_n hx hb dX3_goRound_45 rfl (lv_at hl 1 rfl) ?_
          refine lv_iload hx hb dX3_goRound_46 (lv_at hl 5 rfl) ?_
          replace hf := ob_e hf
          obtain ⟨u_48, hu_48, hf⟩ := hf
          have hR := roN hR0 hnA hS
          have hR := roN hR0 hnA hS
          refine ivR (As := [.int x5_9]) (rest := [.int x4_9]) (st1 := [.int u_48, .int x4_9]) ⟨hx, hb, hml, hown, hts⟩ hK hN (KX2_slopeAt l D cy am m_pn m_pp m_pd m_pt m_pc x5_9 H.size hu_48) (cwV 1 hts gX3_goRound_X2_slopeAt rfl rfl rfl (by decide +kernel) ⟨Nat.le_of_ble_eq_true rfl, Nat.le_of_ble_eq_true rfl⟩) (va_recv hK hR (ci := 2) (q0 := 0) rfl rfl) (P_pl (wc := (wX2_0_1 cy am m_pn m_pp m_pd m_pt m_pc)) (is := [0, 1]) hR rfl) rfl hl.1 rfl (Nat.le_of_ble_eq_true rfl) rfl dX3_goRound_48 ⟨Nat.zero_le _, Nat.zero_le _⟩ ?_
          refine lv_imul hx hb dX3_goRound_51 ?_
          refine lv_aload_n hx hb dX3_goRound_52 rfl (lv_at hl 0 rfl) ?_
          refine va_get (a := (ad 0)) (ci := 3) (v := .int rp) (C := RX3) (T := TX3) (N := 12) hx hb hts hin_X3 hown hK hP 0 rfl rfl 0 (by decide) hw_7 (fun _ h => h) rfl dX3_goRound_53 ?_
          replace hf := gd_e hf
          obtain ⟨z_56, hf⟩ := hf
          refine rw_irem hx hb dX3_goRound_56 z_56 ?_
          refine lv_topi (fun v_57 e_57 => ?_)
          replace hf := bd_at e_57 hf
          clear e_57
          refine lv_istore (lv' := [(4, .int v_57), (0, .ref (ad 0)), (1, .ref (am 0)), (2, .int x2), (3, .int x3), (5, .int x5_9), (6, .int x6_9)]) hx hb dX3_goRound_57 hl (by decide) rfl (fun ls hl => ?_)
          refine lv_aload_n hx hb dX3_goRound_59 rfl (lv_at hl 1 rfl) ?_
          refine va_get (a := (ad 0)) (ci := 3) (v := .ref (ad 9)) (C := RX3) (T := TX3) (N := 12) hx hb hts hin_X3 hown hK hP 0 rfl rfl 1 (by decide) hw_1 (fun _ h => h) rfl dX3_goRound_60 ?_
          refine va_get (a := (ad 9)) (ci := 1) (v := .ref (ad 10)) (C := RX1) (T := TX1) (N := 6) hx hb hts hin_X1 hown hK hP 6 rfl rfl 1 (by decide) hw_8 (fun _ h => h) rfl dX3_goRound_63 ?_
          refine lv_iload hx hb dX3_goRound_66 (lv_at hl 5 rfl) ?_
          replace hf := gi_e hf
          obtain ⟨i_68, hf⟩ := hf
          refine va_iald (a := (ad 10)) hx hb hK hP 7 0 rfl rfl i_68 dX3_goRound_68 ?_
          refine lv_topi (fun v_69 e_69 => ?_)
          replace hf := bd_at e_69 hf
          clear e_69
          refine lv_istore (lv' := [(5, .int v_69), (4, .int v_57), (0, .ref (ad 0)), (1, .ref (am 0)), (2, .int x2), (3, .int x3), (6, .int x6_9)]) hx hb dX3_goRound_69 hl (by decide) rfl (fun ls hl => ?_)
          obtain ⟨v_71, e_71⟩ : ∃ y : Int32, y = x6_9 + 1 := ⟨_, rfl⟩
          replace hf := bd_at e_71 hf
          refine lv_iinc (v := v_71) (lv' := [(6, .int v_71), (5, .int v_69), (4, .int v_57), (0, .ref (ad 0)), (1, .ref (am 0)), (2, .int x2), (3, .int x3)]) hx hb dX3_goRound_71 hl (k := 6) rfl (by rw [e_71]; rfl) (by decide) rfl (fun ls hl => ?_)
          clear e_71
          refine lv_goto (tgt := 9) hx hb dX3_goRound_74 (by decide) ?_
          exact ih9 H locs ls v_57 v_69 v_71 (upd ro_9 (Int32.toNatClampNeg x5_9) x3) hf hP hD hS (lv_sub hl [3, 4, 5, 6, 2, 1, 0] rfl)
  unfold FX3_goRound at hf
  refine lv_iconst (v := 1) hx hb dX3_goRound_0 (by decide) ?_
  refine lv_istore (lv' := [(4, .int 1), (0, .ref (ad 0)), (1, .ref (am 0)), (2, .int x2), (3, .int x3)]) hx hb dX3_goRound_1 hl (by decide) rfl (fun ls hl => ?_)
  refine lv_iload_n hx hb dX3_goRound_3 rfl (lv_at hl 3 rfl) ?_
  refine lv_istore (lv' := [(5, .int x2), (4, .int 1), (0, .ref (ad 0)), (1, .ref (am 0)), (2, .int x2), (3, .int x3)]) hx hb dX3_goRound_4 hl (by decide) rfl (fun ls hl => ?_)
  refine lv_iconst (v := 0) hx hb dX3_goRound_6 (by decide) ?_
  refine lv_istore (lv' := [(6, .int 0), (5, .int x2), (4, .int 1), (0, .ref (ad 0)), (1, .ref (am 0)), (2, .int x2), (3, .int x3)]) hx hb dX3_goRound_7 hl (by decide) rfl (fun ls hl => ?_)
  exact L9 le lst mu ba FU H locs ls 1 x2 0 ro hf hP hD hS (lv_sub hl [3, 4, 5, 6, 2, 1, 0] rfl)
def FX3_numberRings_J78  (k16 : Int32 → Int32 → (Nat → Int32) → (Nat → Int32) → (Nat → Int32) → (Nat → Int32) → (Nat → Int32) → Option ((Int32) × (Nat → Int32) × (Nat → Int32) × (Nat → Int32) × (Nat → Int32) × (Nat → Int32))) (x2_78 : Int32) (n : Nat) (rp : Int32) (rgs_78 : Int32) (ro_78 : Nat → Int32) (le_78 : Nat → Int32) (lst_78 : Nat → Int32) (mu_78 : Nat → Int32) (ba_78 : Nat → Int32) (osz : Int32) (nx : Nat → Int32) (tl : Nat → Int32) (pe : Nat → Int32) (m_pn : Nat) (m_pp : Int32) (m_pd : Int32) (m_pc : Nat → Int32) : Option ((Int32) × (Nat → Int32) × (Nat → Int32) × (Nat → Int32) × (Nat → Int32) × (Nat → Int32)) := (bd (x2_78 + 1) (fun v_78 => k16 v_78 rgs_78 ro_78 le_78 lst_78 mu_78 ba_78))
def FX3_numberRings_L16   (n : Nat) (rp : Int32) (osz : Int32) (nx : Nat → Int32) (tl : Nat → Int32) (pe : Nat → Int32) (m_pn : Nat) (m_pp : Int32) (m_pd : Int32) (m_pc : Nat → Int32) : Nat → Int32 → Int32 → (Nat → Int32) → (Nat → Int32) → (Nat → Int32) → (Nat → Int32) → (Nat → Int32) → Option ((Int32) × (Nat → Int32) × (Nat → Int32) × (Nat → Int32) × (Nat → Int32) × (Nat → Int32))
  | 0, _, _, _, _, _, _, _ => none
  | fuel + 1, x2_16, rgs_16, ro_16, le_16, lst_16, mu_16, ba_16 => (if rp ≤ x2_16 then (some (rgs_16, ro_16, le_16, lst_16, mu_16, ba_16)) else (gi x2_16 n (if (tl (Int32.toNatClampNeg x2_16)) = 0 then (gi x2_16 n (if (ro_16 (Int32.toNatClampNeg x2_16)) = (-1000000) then (if rp ≤ rgs_16 then FX3_numberRings_J78 (FX3_numberRings_L16 n rp osz nx tl pe m_pn m_pp m_pd m_pc fuel) x2_16 n rp rgs_16 ro_16 le_16 lst_16 mu_16 ba_16 osz nx tl pe m_pn m_pp m_pd m_pc else (ob (FX3_goRound n rp ro_16 le_16 lst_16 mu_16 ba_16 osz nx pe m_pn m_pp m_pd m_pc x2_16 rgs_16) (fun u_65 => FX3_numberRings_J78 (FX3_numberRings_L16 n rp osz nx tl pe m_pn m_pp m_pd m_pc fuel) x2_16 n rp (rgs_16 + 1) u_65.1 u_65.2.1 u_65.2.2.1 u_65.2.2.2.1 u_65.2.2.2.2 osz nx tl pe m_pn m_pp m_pd m_pc))) else FX3_numberRings_J78 (FX3_numberRings_L16 n rp osz nx tl pe m_pn m_pp m_pd m_pc fuel) x2_16 n rp rgs_16 ro_16 le_16 lst_16 mu_16 ba_16 osz nx tl pe m_pn m_pp m_pd m_pc)) else FX3_numberRings_J78 (FX3_numberRings_L16 n rp osz nx tl pe m_pn m_pp m_pd m_pc fuel) x2_16 n rp rgs_16 ro_16 le_16 lst_16 mu_16 ba_16 osz nx tl pe m_pn m_pp m_pd m_pc)))
def FX3_numberRings  (n : Nat) (rp : Int32) (ro : Nat → Int32) (le : Nat → Int32) (lst : Nat → Int32) (mu : Nat → Int32) (ba : Nat → Int32) (osz : Int32) (nx : Nat → Int32) (tl : Nat → Int32) (pe : Nat → Int32) (m_pn : Nat) (m_pp : Int32) (m_pd : Int32) (m_pc : Nat → Int32)  : Option ((Int32) × (Nat → Int32) × (Nat → Int32) × (Nat → Int32) × (Nat → Int32) × (Nat → Int32)) := (ob (FJ7_fill_53178 n ro (-1000000)) (fun u_11 => FX3_numberRings_L16 n rp osz nx tl pe m_pn m_pp m_pd m_pc FU 0 0 u_11 le lst mu ba))
abbrev RMX3_numberRings : Room := { frames := 2, cells := 0, slots := 0, locals := 49 }
set_option maxHeartbeats 4000000 in
set_option maxRecDepth 100000 in
theorem KX3_numberRings (l : Launch) (D : va_G) (cy : Nat → ClassId) (ad : Nat → Nat) (am : Nat → Nat) (n : Nat) (rp : Int32) (rgs : Int32) (sv : Option Nat) (ro : Nat → Int32) (le : Nat → Int32) (lst : Nat → Int32) (mu : Nat → Int32) (ba : Nat → Int32) (osz : Int32) (nx : Nat → Int32) (tl : Nat → Int32) (pe : Nat → Int32) (m_pn : Nat) (m_pp : Int32) (m_pd : Int32) (m_pt : Int32) (m_pc : Nat → Int32)  (sz : Nat) {out : (Int32) × (Nat → Int32) × (Nat → Int32) × (Nat → Int32) × (Nat → Int32) × (Nat → Int32)} (hf : FX3_numberRings n rp ro le lst mu ba osz nx tl pe m_pn m_pp m_pd m_pc = some out) : Met l yX3_numberRings wsX3_numberRings RMX3_numberRings (PW D cy [.ref (ad 0), .ref (am 0)] sz ((wX3_0_2_3_4_5_6_9_10_11_12 cy ad n rp rgs sv ro le lst mu ba osz nx tl pe)) ((wX2_0_1 cy am m_pn m_pp m_pd m_pt m_pc))) (QW D none ((wX3_0_2_3_4_5_6_9_10_11_12 cy ad n rp out.1 sv out.2.1 out.2.2.1 out.2.2.2.1 out.2.2.2.2.1 out.2.2.2.2.2 osz nx tl pe)) (va_A ((wX3_0_2_3_4_5_6_9_10_11_12 cy ad n rp rgs sv ro le lst mu ba osz nx tl pe)) sz)) 0 0 (va_A ((wX3_0_2_3_4_5_6_9_10_11_12 cy ad n rp rgs sv ro le lst mu ba osz nx tl pe)) sz) := by
  refine Met.ofW (cc := cX3_numberRings) (maxL := 3) (ret := none) (by decide +kernel) rfl ?_
  intro p e s m args below meth c s₁ B hml hv
  obtain ⟨hav, hsz, hP, hR0, hK, hN, hD0, hsep⟩ := hv
  have hx := B.exec
  have hb := B.bytes
  have hr := B.returns
  have hts := atoms_spec (ws := wsX3_numberRings) B.pre
  have hown : s.vm.findClass RX3 = some m.cls := findClass_of_methodNamed B.named
  have hlocks := B.notSynchronized
  subst hsz
  have hin_X1 : ∀ w ∈ u_ws RX1 TX1 6, w ∈ wsX3_numberRings := by decide +kernel
  have hin_X3 : ∀ w ∈ u_ws RX3 TX3 12, w ∈ wsX3_numberRings := by decide +kernel
  have hw_0 := hts (.constant RX3 88 (-1000000)) (by decide +kernel)
  have hw_1 := hts (.fieldLink RX3 9 "ReturnPoints$Roads" "p" "I") (by decide +kernel)
  have hw_2 := hts (.fieldLink RX3 20 "ReturnPoints$Roads" "orbits" "LReturnPoints$Orbits;") (by decide +kernel)
  have hw_3 := hts (.fieldLink RX3 89 "ReturnPoints$Orbits" "tail" "[I") (by decide +kernel)
  have hw_4 := hts (.fieldLink RX3 28 "ReturnPoints$Roads" "ringOf" "[I") (by decide +kernel)
  have hw_5 := hts (.fieldLink RX3 49 "ReturnPoints$Roads" "rings" "I") (by decide +kernel)
  have hD := hD0.self (sz := s.heap.size)
  have hnA := roA hsep hR0
  generalize hAe : va_A ((wX3_0_2_3_4_5_6_9_10_11_12 cy ad n rp rgs sv ro le lst mu ba osz nx tl pe)) s.heap.size = A at hD hnA ⊢
  have hA : ∀ q : Nat, s.heap.size ≤ q → A q := fun q h => by rw [← hAe]; exact Or.inr h
  have hS : va_S A s.heap s.heap [] := va_S.rf
  obtain ⟨ls, hfr, hl⟩ := ent_ok (m := m) (n := 3) (l' := [(0, .ref (ad 0)), (1, .ref (am 0))]) [.ref (ad 0), .ref (am 0)] hav (Nat.le_of_ble_eq_true rfl) rfl
  rw [hfr]
  generalize hQe : MQ below (QW D none ((wX3_0_2_3_4_5_6_9_10_11_12 cy ad n rp out.1 sv out.2.1 out.2.2.1 out.2.2.2.1 out.2.2.2.2.1 out.2.2.2.2.2 osz nx tl pe)) A) args s 0 0 A = QQ
  change W p l e RMX3_numberRings s m args below meth c s.heap [] 0 0 QQ (F0 m 0 ls [])
  have hP : va_P D vwCl ((wX3_0_2_3_4_5_6_9_10_11_12 cy ad n rp rgs sv ro le lst mu ba osz nx tl pe)) s.heap := hP
  have hD : va_D A ((wX3_0_2_3_4_5_6_9_10_11_12 cy ad n rp rgs sv ro le lst mu ba osz nx tl pe)) := hD
  suffices h00 : ∀ (H : Heap) (locs : List Loc), va_P D vwCl ((wX3_0_2_3_4_5_6_9_10_11_12 cy ad n rp rgs sv ro le lst mu ba osz nx tl pe)) H → va_S A s.heap H locs → W p l e RMX3_numberRings s m args below meth c H locs 0 0 QQ (F0 m 0 ls []) from h00 _ _ hP hS
  clear hP hS
  intro H locs hP hS
  have L16 : ∀  (n16 : Nat) (H : Heap) (locs : List Loc) (ls : Array Slot) (x2_16 : Int32) (rgs_16 : Int32) (ro_16 : Nat → Int32) (le_16 : Nat → Int32) (lst_16 : Nat → Int32) (mu_16 : Nat → Int32) (ba_16 : Nat → Int32), FX3_numberRings_L16 n rp osz nx tl pe m_pn m_pp m_pd m_pc n16 x2_16 rgs_16 ro_16 le_16 lst_16 mu_16 ba_16 = some out → va_P D vwCl ((wX3_0_2_3_4_5_6_9_10_11_12 cy ad n rp rgs_16 sv ro_16 le_16 lst_16 mu_16 ba_16 osz nx tl pe)) H → va_D A ((wX3_0_2_3_4_5_6_9_10_11_12 cy ad n rp rgs_16 sv ro_16 le_16 lst_16 mu_16 ba_16 osz nx tl pe)) → va_S A s.heap H locs → lv_has ls 3 [(0, .ref (ad 0)), (1, .ref (am 0)), (2, .int x2_16)] → W p l e RMX3_numberRings s m args below meth c H locs 0 0 QQ (F0 m 16 ls []) := by
    intro  n16
    induction n16 with
    | zero => intro H locs ls x2_16 rgs_16 ro_16 le_16 lst_16 mu_16 ba_16 hf; simp [FX3_numberRings_L16] at hf
    | succ n16 ih16 =>
      intro H locs ls x2_16 rgs_16 ro_16 le_16 lst_16 mu_16 ba_16 hf hP hD hS hl
      rw [FX3_numberRings_L16] at hf
      have J78 : ∀ (H : Heap) (locs : List Loc) (ls : Array Slot) (x2_78 : Int32) (rgs_78 : Int32) (ro_78 : Nat → Int32) (le_78 : Nat → Int32) (lst_78 : Nat → Int32) (mu_78 : Nat → Int32) (ba_78 : Nat → Int32), FX3_numberRings_J78 (FX3_numberRings_L16 n rp osz nx tl pe m_pn m_pp m_pd m_pc n16) x2_78 n rp rgs_78 ro_78 le_78 lst_78 mu_78 ba_78 osz nx tl pe m_pn m_pp m_pd m_pc = some out → va_P D vwCl ((wX3_0_2_3_4_5_6_9_10_11_12 cy ad n rp rgs_78 sv ro_78 le_78 lst_78 mu_78 ba_78 osz nx tl pe)) H → va_D A ((wX3_0_2_3_4_5_6_9_10_11_12 cy ad n rp rgs_78 sv ro_78 le_78 lst_78 mu_78 ba_78 osz nx tl pe)) → va_S A s.heap H locs → lv_has ls 3 [(0, .ref (ad 0)), (1, .ref (am 0)), (2, .int x2_78)] → W p l e RMX3_numberRings s m args below meth c H locs 0 0 QQ (F0 m 78 ls []) := by
        intro H locs ls x2_78 rgs_78 ro_78 le_78 lst_78 mu_78 ba_78 hf hP hD hS hl
        unfold FX3_numberRings_J78 at hf
        obtain ⟨v_78, e_78⟩ : ∃ y : Int32, y = x2_78 + 1 := ⟨_, rfl⟩
        replace hf := bd_at e_78 hf
        refine lv_iinc (v := v_78) (lv' := [(2, .int v_78), (0, .ref (ad 0)), (1, .ref (am 0))]) hx hb dX3_numberRings_78 hl (k := 2) rfl (by rw [e_78]; rfl) (by decide) rfl (fun ls hl => ?_)
        clear e_78
        refine lv_goto (tgt := 16) hx hb dX3_numberRings_81 (by decide) ?_
        exact ih16 H locs ls v_78 rgs_78 ro_78 le_78 lst_78 mu_78 ba_78 hf hP hD hS (lv_sub hl [1, 2, 0] rfl)
      refine lv_iload_n hx hb dX3_numberRings_16 rfl (lv_at hl 2 rfl) ?_
      refine lv_aload_n hx hb dX3_numberRings_17 rfl (lv_at hl 0 rfl) ?_
      refine va_get (a := (ad 0)) (ci := 3) (v := .int rp) (C := RX3) (T := TX3) (N := 12) hx hb hts hin_X3 hown hK hP 0 rfl rfl 0 (by decide) hw_1 (fun _ h => h) rfl dX3_numberRings_18 ?_
      refine lv_icmp_ge (tgt := 84) hx hb dX3_numberRings_21 (by decide) (fun c_21 => ?_) (fun c_21 => ?_)
      · replace hf := it_p c_21 hf
        obtain rfl := Option.some.inj hf
        rw [← hQe]
        exact W.vret hx hb hr (fun t ht hW => ⟨rfl, by rw [ht]; exact hP, hS.F ht⟩) hS.2.2 dX3_numberRings_84
      · replace hf := it_n c_21 hf
        refine lv_aload_n hx hb dX3_numberRings_24 rfl (lv_at hl 0 rfl) ?_
        refine va_get (a := (ad 0)) (ci := 3) (v := .ref (ad 9)) (C := RX3) (T := TX3) (N := 12) hx hb hts hin_X3 hown hK hP 0 rfl rfl 1 (by decide) hw_2 (fun _ h => h) rfl dX3_numberRings_25 ?_
        refine va_get (a := (ad 9)) (ci := 1) (v := .ref (ad 11)) (C := RX1) (T := TX1) (N := 6) hx hb hts hin_X1 hown hK hP 6 rfl rfl 2 (by decide) hw_3 (fun _ h => h) rfl dX3_numberRings_28 ?_
        refine lv_iload_n hx hb dX3_numberRings_31 rfl (lv_at hl 2 rfl) ?_
        replace hf := gi_e hf
        obtain ⟨i_32, hf⟩ := hf
        refine va_iald (a := (ad 11)) hx hb hK hP 8 0 rfl rfl i_32 dX3_numberRings_32 ?_
        refine lv_if_ne (tgt := 78) hx hb dX3_numberRings_33 (by decide) (fun c_33 => ?_) (fun c_33 => ?_)
        · replace hf := it_n c_33 hf
          exact J78 H locs ls x2_16 rgs_16 ro_16 le_16 lst_16 mu_16 ba_16 hf hP hD hS (lv_sub hl [0, 1, 2] rfl)
        · replace hf := it_p c_33 hf
          refine lv_aload_n hx hb dX3_numberRings_36 rfl (lv_at hl 0 rfl) ?_
          refine va_get (a := (ad 0)) (ci := 3) (v := .ref (ad 2)) (C := RX3) (T := TX3) (N := 12) hx hb hts hin_X3 hown hK hP 0 rfl rfl 3 (by decide) hw_4 (fun _ h => h) rfl dX3_numberRings_37 ?_
          refine lv_iload_n hx hb dX3_numberRings_40 rfl (lv_at hl 2 rfl) ?_
          replace hf := gi_e hf
          obtain ⟨i_41, hf⟩ := hf
          refine va_iald (a := (ad 2)) hx hb hK hP 1 0 rfl rfl i_41 dX3_numberRings_41 ?_
          refine lv_ldc (own := RX3) (v := (-1000000)) hx hb hown hw_0 dX3_numberRings_42 ?_
          refine lv_icmp_ne (tgt := 78) hx hb dX3_numberRings_44 (by decide) (fun c_44 => ?_) (fun c_44 => ?_)
          · replace hf := it_n c_44 hf
            exact J78 H locs ls x2_16 rgs_16 ro_16 le_16 lst_16 mu_16 ba_16 hf hP hD hS (lv_sub hl [0, 1, 2] rfl)
          · replace hf := it_p c_44 hf
            refine lv_aload_n hx hb dX3_numberRings_47 rfl (lv_at hl 0 rfl) ?_
            refine va_get (a := (ad 0)) (ci := 3) (v := .int rgs_16) (C := RX3) (T := TX3) (N := 12) hx hb hts hin_X3 hown hK hP 0 rfl rfl 10 (by decide) hw_5 (fun _ h => h) rfl dX3_numberRings_48 ?_
            refine lv_aload_n hx hb dX3_numberRings_51 rfl (lv_at hl 0 rfl) ?_
            refine va_get (a := (ad 0)) (ci := 3) (v := .int rp) (C := RX3) (T := TX3) (N := 12) hx hb hts hin_X3 hown hK hP 0 rfl rfl 0 (by decide) hw_1 (fun _ h => h) rfl dX3_numberRings_52 ?_
            refine lv_icmp_ge (tgt := 78) hx hb dX3_numberRings_55 (by decide) (fun c_55 => ?_) (fun c_55 => ?_)
            · replace hf := it_p c_55 hf
              exact J78 H locs ls x2_16 rgs_16 ro_16 le_16 lst_16 mu_16 ba_16 hf hP hD hS (lv_sub hl [0, 1, 2] rfl)
            · replace hf := it_n c_55 hf
              refine lv_aload_n hx hb dX3_numberRings_58 rfl (lv_at hl 0 rfl) ?_
              refine lv_aload_n hx hb dX3_numberRings_59 rfl (lv_at hl 1 rfl) ?_
              refine lv_iload_n hx hb dX3_numberRings_60 rfl (lv_at hl 2 rfl) ?_
              refine lv_aload_n hx hb dX3_numberRings_61 rfl (lv_at hl 0 rfl) ?_
              refine va_get (a := (ad 0)) (ci := 3) (v := .int rgs_16) (C := RX3) (T := TX3) (N := 12) hx hb hts hin_X3 hown hK hP 0 rfl rfl 10 (by decide) hw_5 (fun _ h => h) rfl dX3_numberRings_62 ?_
              replace hf := ob_e hf
              obtain ⟨u_65, hu_65, hf⟩ := hf
              have hR := roN hR0 hnA hS
              refine ivW (As := [.ref (am 0), .int x2_16, .int rgs_16]) (rest := []) (st1 := []) (is := [0, 1, 2, 3, 4, 5, 6, 7, 9]) (w1 := (wX3_0_2_3_4_5_6_9_10_12 cy ad n rp rgs_16 sv u_65.1 u_65.2.1 u_65.2.2.1 u_65.2.2.2.1 u_65.2.2.2.2 osz nx pe)) ⟨hx, hb, hml, hown, hts⟩ hK hN (KX3_goRound l D cy ad am n rp rgs_16 sv ro_16 le_16 lst_16 mu_16 ba_16 osz nx pe m_pn m_pp m_pd m_pt m_pc x2_16 rgs_16 H.size hu_65) (cwV 3 hts gX3_numberRings_X3_goRound rfl rfl rfl (by decide +kernel) ⟨Nat.le_of_ble_eq_true rfl, Nat.le_of_ble_eq_true rfl⟩) (va_recv hK hP (ci := 3) (q0 := 0) rfl rfl) hP hD hS hA (P_pl (wc := (wX2_0_1 cy am m_pn m_pp m_pd m_pt m_pc)) (is := [0, 1]) hR rfl) (sep_nA (is := [0, 1, 2, 3, 4, 5, 6, 7, 9]) (isR := [0, 1]) hnA hD rfl rfl) (by decide) rfl rfl rfl hl.1 rfl (Nat.le_of_ble_eq_true rfl) rfl dX3_numberRings_65 ⟨Nat.zero_le _, Nat.zero_le _⟩ (fun H locs hP hD hS => ?_)
              have hP : va_P D vwCl ((wX3_0_2_3_4_5_6_9_10_11_12 cy ad n rp rgs_16 sv u_65.1 u_65.2.1 u_65.2.2.1 u_65.2.2.2.1 u_65.2.2.2.2 osz nx tl pe)) H := hP
              have hD : va_D A ((wX3_0_2_3_4_5_6_9_10_11_12 cy ad n rp rgs_16 sv u_65.1 u_65.2.1 u_65.2.2.1 u_65.2.2.2.1 u_65.2.2.2.2 osz nx tl pe)) := hD
              refine lv_aload_n hx hb dX3_numberRings_68 rfl (lv_at hl 0 rfl) ?_
              refine lv_dup hx hb dX3_numberRings_69 rfl ?_
              refine va_get (a := (ad 0)) (ci := 3) (v := .int rgs_16) (C := RX3) (T := TX3) (N := 12) hx hb hts hin_X3 hown hK hP 0 rfl rfl 10 (by decide) hw_5 (fun _ h => h) rfl dX3_numberRings_70 ?_
              refine lv_iconst (v := 1) hx hb dX3_numberRings_73 (by decide) ?_
              refine lv_iadd hx hb dX3_numberRings_74 ?_
              refine va_put (a := (ad 0)) (ci := 3) (v := .int (rgs_16 + 1)) (ty := .int) (C := RX3) (T := TX3) (N := 12) hx hb hts hin_X3 tyX3 tyX3_ok nmX3 hown hK hP hD hS 0 rfl rfl 10 (by decide) hw_5 (fun _ h => h) rfl (by decide +kernel) rfl rfl (Nat.le_of_ble_eq_true rfl) dX3_numberRings_75 (fun H locs hP hD hS => ?_)
              have hP : va_P D vwCl ((wX3_0_2_3_4_5_6_9_10_11_12 cy ad n rp (rgs_16 + 1) sv u_65.1 u_65.2.1 u_65.2.2.1 u_65.2.2.2.1 u_65.2.2.2.2 osz nx tl pe)) H := hP
              have hD : va_D A ((wX3_0_2_3_4_5_6_9_10_11_12 cy ad n rp (rgs_16 + 1) sv u_65.1 u_65.2.1 u_65.2.2.1 u_65.2.2.2.1 u_65.2.2.2.2 osz nx tl pe)) := hD
              exact J78 H locs ls x2_16 (rgs_16 + 1) u_65.1 u_65.2.1 u_65.2.2.1 u_65.2.2.2.1 u_65.2.2.2.2 hf hP hD hS (lv_sub hl [0, 1, 2] rfl)
  unfold FX3_numberRings at hf
  refine lv_aload_n hx hb dX3_numberRings_0 rfl (lv_at hl 0 rfl) ?_
  refine lv_iconst (v := 0) hx hb dX3_numberRings_1 (by decide) ?_
  refine va_put (a := (ad 0)) (ci := 3) (v := .int 0) (ty := .int) (C := RX3) (T := TX3) (N := 12) hx hb hts hin_X3 tyX3 tyX3_ok nmX3 hown hK hP hD hS 0 rfl rfl 10 (by decide) hw_5 (fun _ h => h) rfl (by decide +kernel) rfl rfl (Nat.le_of_ble_eq_true rfl) dX3_numberRings_2 (fun H locs hP hD hS => ?_)
  have hP : va_P D vwCl ((wX3_0_2_3_4_5_6_9_10_11_12 cy ad n rp 0 sv ro le lst mu ba osz nx tl pe)) H := hP
  have hD : va_D A ((wX3_0_2_3_4_5_6_9_10_11_12 cy ad n rp 0 sv ro le lst mu ba osz nx tl pe)) := hD
  refine lv_aload_n hx hb dX3_numberRings_5 rfl (lv_at hl 0 rfl) ?_
  refine va_get (a := (ad 0)) (ci := 3) (v := .ref (ad 2)) (C := RX3) (T := TX3) (N := 12) hx hb hts hin_X3 hown hK hP 0 rfl rfl 3 (by decide) hw_4 (fun _ h => h) rfl dX3_numberRings_6 ?_
  refine lv_ldc (own := RX3) (v := (-1000000)) hx hb hown hw_0 dX3_numberRings_9 ?_
  replace hf := ob_e hf
  obtain ⟨u_11, hu_11, hf⟩ := hf
  refine isW (As := [.ref (ad 2), .int (-1000000)]) (rest := []) (st1 := []) (is := [1]) (w1 := (waI cy (ad 2) n u_11)) ⟨hx, hb, hml, hown, hts⟩ hK hN (KJ7_fill_53178 l D cy (ad 2) n ro (-1000000) H.size hu_11) (va_cwS 2 hts gX3_numberRings_J7_fill_53178 rfl rfl rfl (by decide +kernel) ⟨Nat.le_of_ble_eq_true rfl, Nat.le_of_ble_eq_true rfl⟩) hP hD hS hA P_nil (sepW_nil _) (by decide) rfl rfl rfl hl.1 rfl (Nat.le_of_ble_eq_true rfl) rfl dX3_numberRings_11 ⟨Nat.zero_le _, Nat.zero_le _⟩ (fun H locs hP hD hS => ?_)
  have hP : va_P D vwCl ((wX3_0_2_3_4_5_6_9_10_11_12 cy ad n rp 0 sv u_11 le lst mu ba osz nx tl pe)) H := hP
  have hD : va_D A ((wX3_0_2_3_4_5_6_9_10_11_12 cy ad n rp 0 sv u_11 le lst mu ba osz nx tl pe)) := hD
  refine lv_iconst (v := 0) hx hb dX3_numberRings_14 (by decide) ?_
  refine lv_istore_n (lv' := [(2, .int 0), (0, .ref (ad 0)), (1, .ref (am 0))]) hx hb dX3_numberRings_15 rfl hl (by decide) rfl (fun ls hl => ?_)
  exact L16 FU H locs ls 0 0 u_11 le lst mu ba hf hP hD hS (lv_sub hl [1, 2, 0] rfl)
def FX3_gatherBasins_J72  (k2 : Int32 → (Nat → Int32) → (Nat → Int32) → Option ((Nat → Int32) × (Nat → Int32))) (x1_72 : Int32) (n : Nat) (rp : Int32) (rgs : Int32) (ro_72 : Nat → Int32) (ba_72 : Nat → Int32) (osz : Int32) (en : Nat → Int32) : Option ((Nat → Int32) × (Nat → Int32)) := (bd (x1_72 + 1) (fun v_72 => k2 v_72 ro_72 ba_72))
def FX3_gatherBasins_J42  (k2 : Int32 → (Nat → Int32) → (Nat → Int32) → Option ((Nat → Int32) × (Nat → Int32))) (x1_42 : Int32) (s0_42 : Int32) (n : Nat) (rp : Int32) (rgs : Int32) (ro_42 : Nat → Int32) (ba_42 : Nat → Int32) (osz : Int32) (en : Nat → Int32) : Option ((Nat → Int32) × (Nat → Int32)) := (gi x1_42 n (if s0_42 < 0 then FX3_gatherBasins_J72 k2 x1_42 n rp rgs (upd ro_42 (Int32.toNatClampNeg x1_42) s0_42) ba_42 osz en else (if rgs ≤ s0_42 then FX3_gatherBasins_J72 k2 x1_42 n rp rgs (upd ro_42 (Int32.toNatClampNeg x1_42) s0_42) ba_42 osz en else (gi s0_42 n (gi s0_42 n (FX3_gatherBasins_J72 k2 x1_42 n rp rgs (upd ro_42 (Int32.toNatClampNeg x1_42) s0_42) (upd ba_42 (Int32.toNatClampNeg s0_42) ((ba_42 (Int32.toNatClampNeg s0_42)) + 1)) osz en))))))
def FX3_gatherBasins_L2   (n : Nat) (rp : Int32) (rgs : Int32) (osz : Int32) (en : Nat → Int32) : Nat → Int32 → (Nat → Int32) → (Nat → Int32) → Option ((Nat → Int32) × (Nat → Int32))
  | 0, _, _, _ => none
  | fuel + 1, x1_2, ro_2, ba_2 => (if rp ≤ x1_2 then (some (ro_2, ba_2)) else (gi x1_2 n (bd (en (Int32.toNatClampNeg x1_2)) (fun v_19 => ob (FX1_isInside osz v_19) (fun u_25 => if (bi u_25) = 0 then (FX3_gatherBasins_J42 (FX3_gatherBasins_L2 n rp rgs osz en fuel) x1_2 (-1000000) n rp rgs ro_2 ba_2 osz en) else (gi v_19 n (FX3_gatherBasins_J42 (FX3_gatherBasins_L2 n rp rgs osz en fuel) x1_2 (ro_2 (Int32.toNatClampNeg v_19)) n rp rgs ro_2 ba_2 osz en)))))))
def FX3_gatherBasins  (n : Nat) (rp : Int32) (rgs : Int32) (ro : Nat → Int32) (ba : Nat → Int32) (osz : Int32) (en : Nat → Int32)  : Option ((Nat → Int32) × (Nat → Int32)) := (FX3_gatherBasins_L2 n rp rgs osz en FU 0 ro ba)
abbrev RMX3_gatherBasins : Room := { frames := 1, cells := 0, slots := 0, locals := 21 }
set_option maxHeartbeats 4000000 in
set_option maxRecDepth 100000 in
theorem KX3_gatherBasins (l : Launch) (D : va_G) (cy : Nat → ClassId) (ad : Nat → Nat) (n : Nat) (rp : Int32) (rgs : Int32) (sv : Option Nat) (ro : Nat → Int32) (ba : Nat → Int32) (osz : Int32) (en : Nat → Int32)  (sz : Nat) {out : (Nat → Int32) × (Nat → Int32)} (hf : FX3_gatherBasins n rp rgs ro ba osz en = some out) : Met l yX3_gatherBasins wsX3_gatherBasins RMX3_gatherBasins (PW D cy [.ref (ad 0)] sz ((wX3_0_2_6_9_13 cy ad n rp rgs sv ro ba osz en)) []) (QW D none ((wX3_0_2_6_9_13 cy ad n rp rgs sv out.1 out.2 osz en)) (va_A ((wX3_0_2_6_9_13 cy ad n rp rgs sv ro ba osz en)) sz)) 0 0 (va_A ((wX3_0_2_6_9_13 cy ad n rp rgs sv ro ba osz en)) sz) := by
  refine Met.ofW (cc := cX3_gatherBasins) (maxL := 4) (ret := none) (by decide +kernel) rfl ?_
  intro p e s m args below meth c s₁ B hml hv
  obtain ⟨hav, hsz, hP, hR0, hK, hN, hD0, hsep⟩ := hv
  have hx := B.exec
  have hb := B.bytes
  have hr := B.returns
  have hts := atoms_spec (ws := wsX3_gatherBasins) B.pre
  have hown : s.vm.findClass RX3 = some m.cls := findClass_of_methodNamed B.named
  have hlocks := B.notSynchronized
  subst hsz
  have hin_X1 : ∀ w ∈ u_ws RX1 TX1 6, w ∈ wsX3_gatherBasins := by decide +kernel
  have hin_X3 : ∀ w ∈ u_ws RX3 TX3 12, w ∈ wsX3_gatherBasins := by decide +kernel
  have hw_0 := hts (.constant RX3 88 (-1000000)) (by decide +kernel)
  have hw_1 := hts (.fieldLink RX3 28 "ReturnPoints$Roads" "ringOf" "[I") (by decide +kernel)
  have hw_2 := hts (.fieldLink RX3 49 "ReturnPoints$Roads" "rings" "I") (by decide +kernel)
  have hw_3 := hts (.fieldLink RX3 40 "ReturnPoints$Roads" "basin" "[I") (by decide +kernel)
  have hw_4 := hts (.fieldLink RX3 9 "ReturnPoints$Roads" "p" "I") (by decide +kernel)
  have hw_5 := hts (.fieldLink RX3 20 "ReturnPoints$Roads" "orbits" "LReturnPoints$Orbits;") (by decide +kernel)
  have hw_6 := hts (.fieldLink RX3 102 "ReturnPoints$Orbits" "entry" "[I") (by decide +kernel)
  have hD := hD0.self (sz := s.heap.size)
  have hnA := roA hsep hR0
  generalize hAe : va_A ((wX3_0_2_6_9_13 cy ad n rp rgs sv ro ba osz en)) s.heap.size = A at hD hnA ⊢
  have hA : ∀ q : Nat, s.heap.size ≤ q → A q := fun q h => by rw [← hAe]; exact Or.inr h
  have hS : va_S A s.heap s.heap [] := va_S.rf
  obtain ⟨ls, hfr, hl⟩ := ent_ok (m := m) (n := 4) (l' := [(0, .ref (ad 0))]) [.ref (ad 0)] hav (Nat.le_of_ble_eq_true rfl) rfl
  rw [hfr]
  generalize hQe : MQ below (QW D none ((wX3_0_2_6_9_13 cy ad n rp rgs sv out.1 out.2 osz en)) A) args s 0 0 A = QQ
  change W p l e RMX3_gatherBasins s m args below meth c s.heap [] 0 0 QQ (F0 m 0 ls [])
  have hP : va_P D vwCl ((wX3_0_2_6_9_13 cy ad n rp rgs sv ro ba osz en)) s.heap := hP
  have hD : va_D A ((wX3_0_2_6_9_13 cy ad n rp rgs sv ro ba osz en)) := hD
  suffices h00 : ∀ (H : Heap) (locs : List Loc), va_P D vwCl ((wX3_0_2_6_9_13 cy ad n rp rgs sv ro ba osz en)) H → va_S A s.heap H locs → W p l e RMX3_gatherBasins s m args below meth c H locs 0 0 QQ (F0 m 0 ls []) from h00 _ _ hP hS
  clear hP hS
  intro H locs hP hS
  have L2 : ∀  (n2 : Nat) (H : Heap) (locs : List Loc) (ls : Array Slot) (x1_2 : Int32) (ro_2 : Nat → Int32) (ba_2 : Nat → Int32), FX3_gatherBasins_L2 n rp rgs osz en n2 x1_2 ro_2 ba_2 = some out → va_P D vwCl ((wX3_0_2_6_9_13 cy ad n rp rgs sv ro_2 ba_2 osz en)) H → va_D A ((wX3_0_2_6_9_13 cy ad n rp rgs sv ro_2 ba_2 osz en)) → va_S A s.heap H locs → lv_has ls 4 [(0, .ref (ad 0)), (1, .int x1_2)] → W p l e RMX3_gatherBasins s m args below meth c H locs 0 0 QQ (F0 m 2 ls []) := by
    intro  n2
    induction n2 with
    | zero => intro H locs ls x1_2 ro_2 ba_2 hf; simp [FX3_gatherBasins_L2] at hf
    | succ n2 ih2 =>
      intro H locs ls x1_2 ro_2 ba_2 hf hP hD hS hl
      rw [FX3_gatherBasins_L2] at hf
      have J72 : ∀ (H : Heap) (locs : List Loc) (ls : Array Slot) (x1_72 : Int32) (ro_72 : Nat → Int32) (ba_72 : Nat → Int32), FX3_gatherBasins_J72 (FX3_gatherBasins_L2 n rp rgs osz en n2) x1_72 n rp rgs ro_72 ba_72 osz en = some out → va_P D vwCl ((wX3_0_2_6_9_13 cy ad n rp rgs sv ro_72 ba_72 osz en)) H → va_D A ((wX3_0_2_6_9_13 cy ad n rp rgs sv ro_72 ba_72 osz en)) → va_S A s.heap H locs → lv_has ls 4 [(0, .ref (ad 0)), (1, .int x1_72)] → W p l e RMX3_gatherBasins s m args below meth c H locs 0 0 QQ (F0 m 72 ls []) := by
        intro H locs ls x1_72 ro_72 ba_72 hf hP hD hS hl
        unfold FX3_gatherBasins_J72 at hf
        obtain ⟨v_72, e_72⟩ : ∃ y : Int32, y = x1_72 + 1 := ⟨_, rfl⟩
        replace hf := bd_at e_72 hf
        refine lv_iinc (v := v_72) (lv' := [(1, .int v_72), (0, .ref (ad 0))]) hx hb dX3_gatherBasins_72 hl (k := 1) rfl (by rw [e_72]; rfl) (by decide) rfl (fun ls hl => ?_)
        clear e_72
        refine lv_goto (tgt := 2) hx hb dX3_gatherBasins_75 (by decide) ?_
        exact ih2 H locs ls v_72 ro_72 ba_72 hf hP hD hS (lv_sub hl [1, 0] rfl)
      have J42 : ∀ (H : Heap) (locs : List Loc) (ls : Array Slot) (x1_42 : Int32) (s0_42 : Int32) (ro_42 : Nat → Int32) (ba_42 : Nat → Int32), FX3_gatherBasins_J42 (FX3_gatherBasins_L2 n rp rgs osz en n2) x1_42 s0_42 n rp rgs ro_42 ba_42 osz en = some out → va_P D vwCl ((wX3_0_2_6_9_13 cy ad n rp rgs sv ro_42 ba_42 osz en)) H → va_D A ((wX3_0_2_6_9_13 cy ad n rp rgs sv ro_42 ba_42 osz en)) → va_S A s.heap H locs → lv_has ls 4 [(0, .ref (ad 0)), (1, .int x1_42)] → W p l e RMX3_gatherBasins s m args below meth c H locs 0 0 QQ (F0 m 42 ls [.int s0_42]) := by
        intro H locs ls x1_42 s0_42 ro_42 ba_42 hf hP hD hS hl
        unfold FX3_gatherBasins_J42 at hf
        refine lv_istore_n (lv' := [(3, .int s0_42), (0, .ref (ad 0)), (1, .int x1_42)]) hx hb dX3_gatherBasins_42 rfl hl (by decide) rfl (fun ls hl => ?_)
        refine lv_aload_n hx hb dX3_gatherBasins_43 rfl (lv_at hl 1 rfl) ?_
        refine va_get (a := (ad 0)) (ci := 3) (v := .ref (ad 2)) (C := RX3) (T := TX3) (N := 12) hx hb hts hin_X3 hown hK hP 0 rfl rfl 3 (by decide) hw_1 (fun _ h => h) rfl dX3_gatherBasins_44 ?_
        refine lv_iload_n hx hb dX3_gatherBasins_47 rfl (lv_at hl 2 rfl) ?_
        refine lv_iload_n hx hb dX3_gatherBasins_48 rfl (lv_at hl 0 rfl) ?_
        replace hf := gi_e hf
        obtain ⟨i_49, hf⟩ := hf
        refine va_iast (a := (ad 2)) hx hb hK hP hD hS 1 0 rfl rfl i_49 dX3_gatherBasins_49 (fun H locs hP hD hS => ?_)
        have hP : va_P D vwCl ((wX3_0_2_6_9_13 cy ad n rp rgs sv (upd ro_42 (Int32.toNatClampNeg x1_42) s0_42) ba_42 osz en)) H := hP
        have hD : va_D A ((wX3_0_2_6_9_13 cy ad n rp rgs sv (upd ro_42 (Int32.toNatClampNeg x1_42) s0_42) ba_42 osz en)) := hD
        refine lv_iload_n hx hb dX3_gatherBasins_50 rfl (lv_at hl 0 rfl) ?_
        refine lv_if_lt (tgt := 72) hx hb dX3_gatherBasins_51 (by decide) (fun c_51 => ?_) (fun c_51 => ?_)
        · replace hf := it_p c_51 hf
          exact J72 H locs ls x1_42 (upd ro_42 (Int32.toNatClampNeg x1_42) s0_42) ba_42 hf hP hD hS (lv_sub hl [1, 2] rfl)
        · replace hf := it_n c_51 hf
          refine lv_iload_n hx hb dX3_gatherBasins_54 rfl (lv_at hl 0 rfl) ?_
          refine lv_aload_n hx hb dX3_gatherBasins_55 rfl (lv_at hl 1 rfl) ?_
          refine va_get (a := (ad 0)) (ci := 3) (v := .int rgs) (C := RX3) (T := TX3) (N := 12) hx hb hts hin_X3 hown hK hP 0 rfl rfl 10 (by decide) hw_2 (fun _ h => h) rfl dX3_gatherBasins_56 ?_
          refine lv_icmp_ge (tgt := 72) hx hb dX3_gatherBasins_59 (by decide) (fun c_59 => ?_) (fun c_59 => ?_)
          · replace hf := it_p c_59 hf
            exact J72 H locs ls x1_42 (upd ro_42 (Int32.toNatClampNeg x1_42) s0_42) ba_42 hf hP hD hS (lv_sub hl [1, 2] rfl)
          · replace hf := it_n c_59 hf
            refine lv_aload_n hx hb dX3_gatherBasins_62 rfl (lv_at hl 1 rfl) ?_
            refine va_get (a := (ad 0)) (ci := 3) (v := .ref (ad 6)) (C := RX3) (T := TX3) (N := 12) hx hb hts hin_X3 hown hK hP 0 rfl rfl 7 (by decide) hw_3 (fun _ h => h) rfl dX3_gatherBasins_63 ?_
            refine lv_iload_n hx hb dX3_gatherBasins_66 rfl (lv_at hl 0 rfl) ?_
            refine lv_dup2_11 hx hb dX3_gatherBasins_67 rfl rfl ?_
            replace hf := gi_e hf
            obtain ⟨i_68, hf⟩ := hf
            refine va_iald (a := (ad 6)) hx hb hK hP 2 0 rfl rfl i_68 dX3_gatherBasins_68 ?_
            refine lv_iconst (v := 1) hx hb dX3_gatherBasins_69 (by decide) ?_
            refine lv_iadd hx hb dX3_gatherBasins_70 ?_
            replace hf := gi_e hf
            obtain ⟨i_71, hf⟩ := hf
            refine va_iast (a := (ad 6)) hx hb hK hP hD hS 2 0 rfl rfl i_71 dX3_gatherBasins_71 (fun H locs hP hD hS => ?_)
            have hP : va_P D vwCl ((wX3_0_2_6_9_13 cy ad n rp rgs sv (upd ro_42 (Int32.toNatClampNeg x1_42) s0_42) (upd ba_42 (Int32.toNatClampNeg s0_42) ((ba_42 (Int32.toNatClampNeg s0_42)) + 1)) osz en)) H := hP
            have hD : va_D A ((wX3_0_2_6_9_13 cy ad n rp rgs sv (upd ro_42 (Int32.toNatClampNeg x1_42) s0_42) (upd ba_42 (Int32.toNatClampNeg s0_42) ((ba_42 (Int32.toNatClampNeg s0_42)) + 1)) osz en)) := hD
            exact J72 H locs ls x1_42 (upd ro_42 (Int32.toNatClampNeg x1_42) s0_42) (upd ba_42 (Int32.toNatClampNeg s0_42) ((ba_42 (Int32.toNatClampNeg s0_42)) + 1)) hf hP hD hS (lv_sub hl [1, 2] rfl)
      refine lv_iload_n hx hb dX3_gatherBasins_2 rfl (lv_at hl 1 rfl) ?_
      refine lv_aload_n hx hb dX3_gatherBasins_3 rfl (lv_at hl 0 rfl) ?_
      refine va_get (a := (ad 0)) (ci := 3) (v := .int rp) (C := RX3) (T := TX3) (N := 12) hx hb hts hin_X3 hown hK hP 0 rfl rfl 0 (by decide) hw_4 (fun _ h => h) rfl dX3_gatherBasins_4 ?_
      refine lv_icmp_ge (tgt := 78) hx hb dX3_gatherBasins_7 (by decide) (fun c_7 => ?_) (fun c_7 => ?_)
      · replace hf := it_p c_7 hf
        obtain rfl := Option.some.inj hf
        rw [← hQe]
        exact W.vret hx hb hr (fun t ht hW => ⟨rfl, by rw [ht]; exact hP, hS.F ht⟩) hS.2.2 dX3_gatherBasins_78
      · replace hf := it_n c_7 hf
        refine lv_aload_n hx hb dX3_gatherBasins_10 rfl (lv_at hl 0 rfl) ?_
        refine va_get (a := (ad 0)) (ci := 3) (v := .ref (ad 9)) (C := RX3) (T := TX3) (N := 12) hx hb hts hin_X3 hown hK hP 0 rfl rfl 1 (by decide) hw_5 (fun _ h => h) rfl dX3_gatherBasins_11 ?_
        refine va_get (a := (ad 9)) (ci := 1) (v := .ref (ad 13)) (C := RX1) (T := TX1) (N := 6) hx hb hts hin_X1 hown hK hP 3 rfl rfl 4 (by decide) hw_6 (fun _ h => h) rfl dX3_gatherBasins_14 ?_
        refine lv_iload_n hx hb dX3_gatherBasins_17 rfl (lv_at hl 1 rfl) ?_
        replace hf := gi_e hf
        obtain ⟨i_18, hf⟩ := hf
        refine va_iald (a := (ad 13)) hx hb hK hP 4 0 rfl rfl i_18 dX3_gatherBasins_18 ?_
        refine lv_topi (fun v_19 e_19 => ?_)
        replace hf := bd_at e_19 hf
        clear e_19
        refine lv_istore_n (lv' := [(2, .int v_19), (0, .ref (ad 0)), (1, .int x1_2)]) hx hb dX3_gatherBasins_19 rfl hl (by decide) rfl (fun ls hl => ?_)
        refine lv_aload_n hx hb dX3_gatherBasins_20 rfl (lv_at hl 1 rfl) ?_
        refine va_get (a := (ad 0)) (ci := 3) (v := .ref (ad 9)) (C := RX3) (T := TX3) (N := 12) hx hb hts hin_X3 hown hK hP 0 rfl rfl 1 (by decide) hw_5 (fun _ h => h) rfl dX3_gatherBasins_21 ?_
        refine lv_iload_n hx hb dX3_gatherBasins_24 rfl (lv_at hl 0 rfl) ?_
        replace hf := ob_e hf
        obtain ⟨u_25, hu_25, hf⟩ := hf
        refine ivR (As := [.int v_19]) (rest := []) (st1 := [.int (bi u_25)]) ⟨hx, hb, hml, hown, hts⟩ hK hN (KX1_isInside l D cy (fun i => ad (9 + i)) osz v_19 H.size hu_25) (cwV 1 hts gX3_gatherBasins_X1_isInside rfl rfl rfl (by decide +kernel) ⟨Nat.le_of_ble_eq_true rfl, Nat.le_of_ble_eq_true rfl⟩) (va_recv hK hP (ci := 1) (q0 := 3) rfl rfl) (P_pl (wc := (wX1_0 cy (fun i => ad (9 + i)) osz)) (is := [3]) hP rfl) rfl hl.1 rfl (Nat.le_of_ble_eq_true rfl) rfl dX3_gatherBasins_25 ⟨Nat.zero_le _, Nat.zero_le _⟩ ?_
        refine lv_if_eq (tgt := 40) hx hb dX3_gatherBasins_28 (by decide) (fun c_28 => ?_) (fun c_28 => ?_)
        · replace hf := it_p c_28 hf
          refine lv_ldc (own := RX3) (v := (-1000000)) hx hb hown hw_0 dX3_gatherBasins_40 ?_
          exact J42 H locs ls x1_2 (-1000000) ro_2 ba_2 hf hP hD hS (lv_sub hl [1, 2] rfl)
        · replace hf := it_n c_28 hf
          refine lv_aload_n hx hb dX3_gatherBasins_31 rfl (lv_at hl 1 rfl) ?_
          refine va_get (a := (ad 0)) (ci := 3) (v := .ref (ad 2)) (C := RX3) (T := TX3) (N := 12) hx hb hts hin_X3 hown hK hP 0 rfl rfl 3 (by decide) hw_1 (fun _ h => h) rfl dX3_gatherBasins_32 ?_
          refine lv_iload_n hx hb dX3_gatherBasins_35 rfl (lv_at hl 0 rfl) ?_
          replace hf := gi_e hf
          obtain ⟨i_36, hf⟩ := hf
          refine va_iald (a := (ad 2)) hx hb hK hP 1 0 rfl rfl i_36 dX3_gatherBasins_36 ?_
          refine lv_goto (tgt := 42) hx hb dX3_gatherBasins_37 (by decide) ?_
          exact J42 H locs ls x1_2 (ro_2 (Int32.toNatClampNeg v_19)) ro_2 ba_2 hf hP hD hS (lv_sub hl [1, 2] rfl)
  unfold FX3_gatherBasins at hf
  refine lv_iconst (v := 0) hx hb dX3_gatherBasins_0 (by decide) ?_
  refine lv_istore_n (lv' := [(1, .int 0), (0, .ref (ad 0))]) hx hb dX3_gatherBasins_1 rfl hl (by decide) rfl (fun ls hl => ?_)
  exact L2 FU H locs ls 0 ro ba hf hP hD hS (lv_sub hl [1, 0] rfl)
def FX3_survey_L16 (am : Nat → Nat)  (n : Nat) (rp : Int32) (sv_16 : Option Nat) (co_16 : Nat → Int32) (ro_16 : Nat → Int32) (le_16 : Nat → Int32) (lst_16 : Nat → Int32) (mu_16 : Nat → Int32) (ba_16 : Nat → Int32) (osz : Int32) (tl_16 : Nat → Int32) (pe_16 : Nat → Int32) (en_16 : Nat → Int32) (pa_16 : Nat → Int32) (m_pn : Nat) (m_pp : Int32) (m_pd : Int32) (m_pc : Nat → Int32) : Nat → Int32 → (Nat → Int32) → Option ((Int32) × (Option Nat) × (Nat → Int32) × (Nat → Int32) × (Nat → Int32) × (Nat → Int32) × (Nat → Int32) × (Nat → Int32) × (Nat → Int32) × (Nat → Int32) × (Nat → Int32) × (Nat → Int32) × (Nat → Int32))
  | 0, _, _ => none
  | fuel + 1, x2_16, nx_16 => (if rp ≤ x2_16 then (ob (FX3_countComers n co_16 osz nx_16) (fun u_45 => ob (FX1_followAll n osz nx_16 tl_16 pe_16 en_16 pa_16) (fun u_52 => ob (FX3_numberRings n rp ro_16 le_16 lst_16 mu_16 ba_16 osz nx_16 u_52.1 u_52.2.1 m_pn m_pp m_pd m_pc) (fun u_57 => ob (FX3_gatherBasins n rp u_57.1 u_57.2.1 u_57.2.2.2.2.2 osz u_52.2.2.1) (fun u_61 => some (u_57.1, sv_16, u_45, u_61.1, u_57.2.2.1, u_57.2.2.2.1, u_57.2.2.2.2.1, u_61.2, nx_16, u_52.1, u_52.2.1, u_52.2.2.1, u_52.2.2.2)))))) else (ob (FX2_valueAt m_pn m_pp m_pd m_pc x2_16) (fun u_34 => gi x2_16 n (bd (x2_16 + 1) (fun v_38 => (FX3_survey_L16 am n rp sv_16 co_16 ro_16 le_16 lst_16 mu_16 ba_16 osz tl_16 pe_16 en_16 pa_16 m_pn m_pp m_pd m_pc fuel) v_38 (upd nx_16 (Int32.toNatClampNeg x2_16) u_34))))))
def FX3_survey (am : Nat → Nat) (n : Nat) (rp : Int32) (rgs : Int32) (sv : Option Nat) (co : Nat → Int32) (ro : Nat → Int32) (le : Nat → Int32) (lst : Nat → Int32) (mu : Nat → Int32) (ba : Nat → Int32) (osz : Int32) (nx : Nat → Int32) (tl : Nat → Int32) (pe : Nat → Int32) (en : Nat → Int32) (pa : Nat → Int32) (m_pn : Nat) (m_pp : Int32) (m_pd : Int32) (m_pc : Nat → Int32)  : Option ((Int32) × (Option Nat) × (Nat → Int32) × (Nat → Int32) × (Nat → Int32) × (Nat → Int32) × (Nat → Int32) × (Nat → Int32) × (Nat → Int32) × (Nat → Int32) × (Nat → Int32) × (Nat → Int32) × (Nat → Int32)) := (if (some (am 0)) = sv then (some (rgs, sv, co, ro, le, lst, mu, ba, nx, tl, pe, en, pa)) else (FX3_survey_L16 am n rp (some (am 0)) co ro le lst mu ba osz tl pe en pa m_pn m_pp m_pd m_pc FU 0 nx))
abbrev RMX3_survey : Room := { frames := 4, cells := 0, slots := 0, locals := 94 }
set_option maxHeartbeats 4000000 in
set_option maxRecDepth 100000 in
theorem KX3_survey (l : Launch) (D : va_G) (cy : Nat → ClassId) (ad : Nat → Nat) (am : Nat → Nat) (n : Nat) (rp : Int32) (rgs : Int32) (sv : Option Nat) (co : Nat → Int32) (ro : Nat → Int32) (le : Nat → Int32) (lst : Nat → Int32) (mu : Nat → Int32) (ba : Nat → Int32) (osz : Int32) (nx : Nat → Int32) (tl : Nat → Int32) (pe : Nat → Int32) (en : Nat → Int32) (pa : Nat → Int32) (m_pn : Nat) (m_pp : Int32) (m_pd : Int32) (m_pt : Int32) (m_pc : Nat → Int32)  (sz : Nat) {out : (Int32) × (Option Nat) × (Nat → Int32) × (Nat → Int32) × (Nat → Int32) × (Nat → Int32) × (Nat → Int32) × (Nat → Int32) × (Nat → Int32) × (Nat → Int32) × (Nat → Int32) × (Nat → Int32) × (Nat → Int32)} (hf : FX3_survey am n rp rgs sv co ro le lst mu ba osz nx tl pe en pa m_pn m_pp m_pd m_pc = some out) : Met l yX3_survey wsX3_survey RMX3_survey (PW D cy [.ref (ad 0), .ref (am 0)] sz ((wX3_0_1_2_3_4_5_6_9_10_11_12_13_14 cy ad n rp rgs sv co ro le lst mu ba osz nx tl pe en pa)) ((wX2_0_1 cy am m_pn m_pp m_pd m_pt m_pc))) (QW D none ((wX3_0_1_2_3_4_5_6_9_10_11_12_13_14 cy ad n rp out.1 out.2.1 out.2.2.1 out.2.2.2.1 out.2.2.2.2.1 out.2.2.2.2.2.1 out.2.2.2.2.2.2.1 out.2.2.2.2.2.2.2.1 osz out.2.2.2.2.2.2.2.2.1 out.2.2.2.2.2.2.2.2.2.1 out.2.2.2.2.2.2.2.2.2.2.1 out.2.2.2.2.2.2.2.2.2.2.2.1 out.2.2.2.2.2.2.2.2.2.2.2.2)) (va_A ((wX3_0_1_2_3_4_5_6_9_10_11_12_13_14 cy ad n rp rgs sv co ro le lst mu ba osz nx tl pe en pa)) sz)) 0 0 (va_A ((wX3_0_1_2_3_4_5_6_9_10_11_12_13_14 cy ad n rp rgs sv co ro le lst mu ba osz nx tl pe en pa)) sz) := by
  refine Met.ofW (cc := cX3_survey) (maxL := 3) (ret := none) (by decide +kernel) rfl ?_
  intro p e s m args below meth c s₁ B hml hv
  obtain ⟨hav, hsz, hP, hR0, hK, hN, hD0, hsep⟩ := hv
  have hx := B.exec
  have hb := B.bytes
  have hr := B.returns
  have hts := atoms_spec (ws := wsX3_survey) B.pre
  have hown : s.vm.findClass RX3 = some m.cls := findClass_of_methodNamed B.named
  have hlocks := B.notSynchronized
  subst hsz
  have hin_X1 : ∀ w ∈ u_ws RX1 TX1 6, w ∈ wsX3_survey := by decide +kernel
  have hin_X3 : ∀ w ∈ u_ws RX3 TX3 12, w ∈ wsX3_survey := by decide +kernel
  have hw_0 := hts (.fieldLink RX3 9 "ReturnPoints$Roads" "p" "I") (by decide +kernel)
  have hw_1 := hts (.fieldLink RX3 20 "ReturnPoints$Roads" "orbits" "LReturnPoints$Orbits;") (by decide +kernel)
  have hw_2 := hts (.fieldLink RX3 56 "ReturnPoints$Orbits" "next" "[I") (by decide +kernel)
  have hw_3 := hts (.fieldLink RX3 52 "ReturnPoints$Roads" "surveyed" "LReturnPoints$Poly;") (by decide +kernel)
  have hD := hD0.self (sz := s.heap.size)
  have hnA := roA hsep hR0
  generalize hAe : va_A ((wX3_0_1_2_3_4_5_6_9_10_11_12_13_14 cy ad n rp rgs sv co ro le lst mu ba osz nx tl pe en pa)) s.heap.size = A at hD hnA ⊢
  have hA : ∀ q : Nat, s.heap.size ≤ q → A q := fun q h => by rw [← hAe]; exact Or.inr h
  have hS : va_S A s.heap s.heap [] := va_S.rf
  obtain ⟨ls, hfr, hl⟩ := ent_ok (m := m) (n := 3) (l' := [(0, .ref (ad 0)), (1, .ref (am 0))]) [.ref (ad 0), .ref (am 0)] hav (Nat.le_of_ble_eq_true rfl) rfl
  rw [hfr]
  generalize hQe : MQ below (QW D none ((wX3_0_1_2_3_4_5_6_9_10_11_12_13_14 cy ad n rp out.1 out.2.1 out.2.2.1 out.2.2.2.1 out.2.2.2.2.1 out.2.2.2.2.2.1 out.2.2.2.2.2.2.1 out.2.2.2.2.2.2.2.1 osz out.2.2.2.2.2.2.2.2.1 out.2.2.2.2.2.2.2.2.2.1 out.2.2.2.2.2.2.2.2.2.2.1 out.2.2.2.2.2.2.2.2.2.2.2.1 out.2.2.2.2.2.2.2.2.2.2.2.2)) A) args s 0 0 A = QQ
  change W p l e RMX3_survey s m args below meth c s.heap [] 0 0 QQ (F0 m 0 ls [])
  have hP : va_P D vwCl ((wX3_0_1_2_3_4_5_6_9_10_11_12_13_14 cy ad n rp rgs sv co ro le lst mu ba osz nx tl pe en pa)) s.heap := hP
  have hD : va_D A ((wX3_0_1_2_3_4_5_6_9_10_11_12_13_14 cy ad n rp rgs sv co ro le lst mu ba osz nx tl pe en pa)) := hD
  suffices h00 : ∀ (H : Heap) (locs : List Loc), va_P D vwCl ((wX3_0_1_2_3_4_5_6_9_10_11_12_13_14 cy ad n rp rgs sv co ro le lst mu ba osz nx tl pe en pa)) H → va_S A s.heap H locs → W p l e RMX3_survey s m args below meth c H locs 0 0 QQ (F0 m 0 ls []) from h00 _ _ hP hS
  clear hP hS
  intro H locs hP hS
  have L16 : ∀ (rgs_16 : Int32) (sv_16 : Option Nat) (co_16 : Nat → Int32) (ro_16 : Nat → Int32) (le_16 : Nat → Int32) (lst_16 : Nat → Int32) (mu_16 : Nat → Int32) (ba_16 : Nat → Int32) (tl_16 : Nat → Int32) (pe_16 : Nat → Int32) (en_16 : Nat → Int32) (pa_16 : Nat → Int32) (n16 : Nat) (H : Heap) (locs : List Loc) (ls : Array Slot) (x2_16 : Int32) (nx_16 : Nat → Int32), FX3_survey_L16 am n rp sv_16 co_16 ro_16 le_16 lst_16 mu_16 ba_16 osz tl_16 pe_16 en_16 pa_16 m_pn m_pp m_pd m_pc n16 x2_16 nx_16 = some out → va_P D vwCl ((wX3_0_1_2_3_4_5_6_9_10_11_12_13_14 cy ad n rp rgs_16 sv_16 co_16 ro_16 le_16 lst_16 mu_16 ba_16 osz nx_16 tl_16 pe_16 en_16 pa_16)) H → va_D A ((wX3_0_1_2_3_4_5_6_9_10_11_12_13_14 cy ad n rp rgs_16 sv_16 co_16 ro_16 le_16 lst_16 mu_16 ba_16 osz nx_16 tl_16 pe_16 en_16 pa_16)) → va_S A s.heap H locs → lv_has ls 3 [(0, .ref (ad 0)), (1, .ref (am 0)), (2, .int x2_16)] → W p l e RMX3_survey s m args below meth c H locs 0 0 QQ (F0 m 16 ls []) := by
    intro rgs_16 sv_16 co_16 ro_16 le_16 lst_16 mu_16 ba_16 tl_16 pe_16 en_16 pa_16 n16
    induction n16 with
    | zero => intro H locs ls x2_16 nx_16 hf; simp [FX3_survey_L16] at hf
    | succ n16 ih16 =>
      intro H locs ls x2_16 nx_16 hf hP hD hS hl
      rw [FX3_survey_L16] at hf
      refine lv_iload_n hx hb dX3_survey_16 rfl (lv_at hl 2 rfl) ?_
      refine lv_aload_n hx hb dX3_survey_17 rfl (lv_at hl 0 rfl) ?_
      refine va_get (a := (ad 0)) (ci := 3) (v := .int rp) (C := RX3) (T := TX3) (N := 12) hx hb hts hin_X3 hown hK hP 0 rfl rfl 0 (by decide) hw_0 (fun _ h => h) rfl dX3_survey_18 ?_
      refine lv_icmp_ge (tgt := 44) hx hb dX3_survey_21 (by decide) (fun c_21 => ?_) (fun c_21 => ?_)
      · replace hf := it_p c_21 hf
        refine lv_aload_n hx hb dX3_survey_44 rfl (lv_at hl 0 rfl) ?_
        replace hf := ob_e hf
        obtain ⟨u_45, hu_45, hf⟩ := hf
        refine ivW (As := []) (rest := []) (st1 := []) (is := [0, 1, 7, 8]) (w1 := (wX3_0_1_9_10 cy ad n rp rgs_16 sv_16 u_45 osz nx_16)) ⟨hx, hb, hml, hown, hts⟩ hK hN (KX3_countComers l D cy ad n rp rgs_16 sv_16 co_16 osz nx_16 H.size hu_45) (cwV 0 hts gX3_survey_X3_countComers rfl rfl rfl (by decide +kernel) ⟨Nat.le_of_ble_eq_true rfl, Nat.le_of_ble_eq_true rfl⟩) (va_recv hK hP (ci := 3) (q0 := 0) rfl rfl) hP hD hS hA P_nil (sepW_nil _) (by decide) rfl rfl rfl hl.1 rfl (Nat.le_of_ble_eq_true rfl) rfl dX3_survey_45 ⟨Nat.zero_le _, Nat.zero_le _⟩ (fun H locs hP hD hS => ?_)
        have hP : va_P D vwCl ((wX3_0_1_2_3_4_5_6_9_10_11_12_13_14 cy ad n rp rgs_16 sv_16 u_45 ro_16 le_16 lst_16 mu_16 ba_16 osz nx_16 tl_16 pe_16 en_16 pa_16)) H := hP
        have hD : va_D A ((wX3_0_1_2_3_4_5_6_9_10_11_12_13_14 cy ad n rp rgs_16 sv_16 u_45 ro_16 le_16 lst_16 mu_16 ba_16 osz nx_16 tl_16 pe_16 en_16 pa_16)) := hD
        refine lv_aload_n hx hb dX3_survey_48 rfl (lv_at hl 0 rfl) ?_
        refine va_get (a := (ad 0)) (ci := 3) (v := .ref (ad 9)) (C := RX3) (T := TX3) (N := 12) hx hb hts hin_X3 hown hK hP 0 rfl rfl 1 (by decide) hw_1 (fun _ h => h) rfl dX3_survey_49 ?_
        replace hf := ob_e hf
        obtain ⟨u_52, hu_52, hf⟩ := hf
        refine ivW (As := []) (rest := []) (st1 := []) (is := [7, 8, 9, 10, 11, 12]) (w1 := (wX1_0_1_2_3_4_5 cy (fun i => ad (9 + i)) n osz nx_16 u_52.1 u_52.2.1 u_52.2.2.1 u_52.2.2.2)) ⟨hx, hb, hml, hown, hts⟩ hK hN (KX1_followAll l D cy (fun i => ad (9 + i)) n osz nx_16 tl_16 pe_16 en_16 pa_16 H.size hu_52) (cwV 0 hts gX3_survey_X1_followAll rfl rfl rfl (by decide +kernel) ⟨Nat.le_of_ble_eq_true rfl, Nat.le_of_ble_eq_true rfl⟩) (va_recv hK hP (ci := 1) (q0 := 7) rfl rfl) hP hD hS hA P_nil (sepW_nil _) (by decide) rfl rfl rfl hl.1 rfl (Nat.le_of_ble_eq_true rfl) rfl dX3_survey_52 ⟨Nat.zero_le _, Nat.zero_le _⟩ (fun H locs hP hD hS => ?_)
        have hP : va_P D vwCl ((wX3_0_1_2_3_4_5_6_9_10_11_12_13_14 cy ad n rp rgs_16 sv_16 u_45 ro_16 le_16 lst_16 mu_16 ba_16 osz nx_16 u_52.1 u_52.2.1 u_52.2.2.1 u_52.2.2.2)) H := hP
        have hD : va_D A ((wX3_0_1_2_3_4_5_6_9_10_11_12_13_14 cy ad n rp rgs_16 sv_16 u_45 ro_16 le_16 lst_16 mu_16 ba_16 osz nx_16 u_52.1 u_52.2.1 u_52.2.2.1 u_52.2.2.2)) := hD
        refine lv_aload_n hx hb dX3_survey_55 rfl (lv_at hl 0 rfl) ?_
        refine lv_aload_n hx hb dX3_survey_56 rfl (lv_at hl 1 rfl) ?_
        replace hf := ob_e hf
        obtain ⟨u_57, hu_57, hf⟩ := hf
        have hR := roN hR0 hnA hS
        refine ivW (As := [.ref (am 0)]) (rest := []) (st1 := []) (is := [0, 2, 3, 4, 5, 6, 7, 8, 9, 10]) (w1 := (wX3_0_2_3_4_5_6_9_10_11_12 cy ad n rp u_57.1 sv_16 u_57.2.1 u_57.2.2.1 u_57.2.2.2.1 u_57.2.2.2.2.1 u_57.2.2.2.2.2 osz nx_16 u_52.1 u_52.2.1)) ⟨hx, hb, hml, hown, hts⟩ hK hN (KX3_numberRings l D cy ad am n rp rgs_16 sv_16 ro_16 le_16 lst_16 mu_16 ba_16 osz nx_16 u_52.1 u_52.2.1 m_pn m_pp m_pd m_pt m_pc H.size hu_57) (cwV 1 hts gX3_survey_X3_numberRings rfl rfl rfl (by decide +kernel) ⟨Nat.le_of_ble_eq_true rfl, Nat.le_of_ble_eq_true rfl⟩) (va_recv hK hP (ci := 3) (q0 := 0) rfl rfl) hP hD hS hA (P_pl (wc := (wX2_0_1 cy am m_pn m_pp m_pd m_pt m_pc)) (is := [0, 1]) hR rfl) (sep_nA (is := [0, 2, 3, 4, 5, 6, 7, 8, 9, 10]) (isR := [0, 1]) hnA hD rfl rfl) (by decide) rfl rfl rfl hl.1 rfl (Nat.le_of_ble_eq_true rfl) rfl dX3_survey_57 ⟨Nat.zero_le _, Nat.zero_le _⟩ (fun H locs hP hD hS => ?_)
        have hP : va_P D vwCl ((wX3_0_1_2_3_4_5_6_9_10_11_12_13_14 cy ad n rp u_57.1 sv_16 u_45 u_57.2.1 u_57.2.2.1 u_57.2.2.2.1 u_57.2.2.2.2.1 u_57.2.2.2.2.2 osz nx_16 u_52.1 u_52.2.1 u_52.2.2.1 u_52.2.2.2)) H := hP
        have hD : va_D A ((wX3_0_1_2_3_4_5_6_9_10_11_12_13_14 cy ad n rp u_57.1 sv_16 u_45 u_57.2.1 u_57.2.2.1 u_57.2.2.2.1 u_57.2.2.2.2.1 u_57.2.2.2.2.2 osz nx_16 u_52.1 u_52.2.1 u_52.2.2.1 u_52.2.2.2)) := hD
        refine lv_aload_n hx hb dX3_survey_60 rfl (lv_at hl 0 rfl) ?_
        replace hf := ob_e hf
        obtain ⟨u_61, hu_61, hf⟩ := hf
        refine ivW (As := []) (rest := []) (st1 := []) (is := [0, 2, 6, 7, 11]) (w1 := (wX3_0_2_6_9_13 cy ad n rp u_57.1 sv_16 u_61.1 u_61.2 osz u_52.2.2.1)) ⟨hx, hb, hml, hown, hts⟩ hK hN (KX3_gatherBasins l D cy ad n rp u_57.1 sv_16 u_57.2.1 u_57.2.2.2.2.2 osz u_52.2.2.1 H.size hu_61) (cwV 0 hts gX3_survey_X3_gatherBasins rfl rfl rfl (by decide +kernel) ⟨Nat.le_of_ble_eq_true rfl, Nat.le_of_ble_eq_true rfl⟩) (va_recv hK hP (ci := 3) (q0 := 0) rfl rfl) hP hD hS hA P_nil (sepW_nil _) (by decide) rfl rfl rfl hl.1 rfl (Nat.le_of_ble_eq_true rfl) rfl dX3_survey_61 ⟨Nat.zero_le _, Nat.zero_le _⟩ (fun H locs hP hD hS => ?_)
        have hP : va_P D vwCl ((wX3_0_1_2_3_4_5_6_9_10_11_12_13_14 cy ad n rp u_57.1 sv_16 u_45 u_61.1 u_57.2.2.1 u_57.2.2.2.1 u_57.2.2.2.2.1 u_61.2 osz nx_16 u_52.1 u_52.2.1 u_52.2.2.1 u_52.2.2.2)) H := hP
        have hD : va_D A ((wX3_0_1_2_3_4_5_6_9_10_11_12_13_14 cy ad n rp u_57.1 sv_16 u_45 u_61.1 u_57.2.2.1 u_57.2.2.2.1 u_57.2.2.2.2.1 u_61.2 osz nx_16 u_52.1 u_52.2.1 u_52.2.2.1 u_52.2.2.2)) := hD
        obtain rfl := Option.some.inj hf
        rw [← hQe]
        exact W.vret hx hb hr (fun t ht hW => ⟨rfl, by rw [ht]; exact hP, hS.F ht⟩) hS.2.2 dX3_survey_64
      · replace hf := it_n c_21 hf
        refine lv_aload_n hx hb dX3_survey_24 rfl (lv_at hl 0 rfl) ?_
        refine va_get (a := (ad 0)) (ci := 3) (v := .ref (ad 9)) (C := RX3) (T := TX3) (N := 12) hx hb hts hin_X3 hown hK hP 0 rfl rfl 1 (by decide) hw_1 (fun _ h => h) rfl dX3_survey_25 ?_
        refine va_get (a := (ad 9)) (ci := 1) (v := .ref (ad 10)) (C := RX1) (T := TX1) (N := 6) hx hb hts hin_X1 hown hK hP 7 rfl rfl 1 (by decide) hw_2 (fun _ h => h) rfl dX3_survey_28 ?_
        refine lv_iload_n hx hb dX3_survey_31 rfl (lv_at hl 2 rfl) ?_
        refine lv_aload_n hx hb dX3_survey_32 rfl (lv_at hl 1 rfl) ?_
        refine lv_iload_n hx hb dX3_survey_33 rfl (lv_at hl 2 rfl) ?_
        replace hf := ob_e hf
        obtain ⟨u_34, hu_34, hf⟩ := hf
        have hR := roN hR0 hnA hS
        have hR := roN hR0 hnA hS
        refine ivR (As := [.int x2_16]) (rest := [.int x2_16, .ref (ad 10)]) (st1 := [.int u_34, .int x2_16, .ref (ad 10)]) ⟨hx, hb, hml, hown, hts⟩ hK hN (KX2_valueAt l D cy am m_pn m_pp m_pd m_pt m_pc x2_16 H.size hu_34) (cwV 1 hts gX3_survey_X2_valueAt rfl rfl rfl (by decide +kernel) ⟨Nat.le_of_ble_eq_true rfl, Nat.le_of_ble_eq_true rfl⟩) (va_recv hK hR (ci := 2) (q0 := 0) rfl rfl) (P_pl (wc := (wX2_0_1 cy am m_pn m_pp m_pd m_pt m_pc)) (is := [0, 1]) hR rfl) rfl hl.1 rfl (Nat.le_of_ble_eq_true rfl) rfl dX3_survey_34 ⟨Nat.zero_le _, Nat.zero_le _⟩ ?_
        replace hf := gi_e hf
        obtain ⟨i_37, hf⟩ := hf
        refine va_iast (a := (ad 10)) hx hb hK hP hD hS 8 0 rfl rfl i_37 dX3_survey_37 (fun H locs hP hD hS => ?_)
        have hP : va_P D vwCl ((wX3_0_1_2_3_4_5_6_9_10_11_12_13_14 cy ad n rp rgs_16 sv_16 co_16 ro_16 le_16 lst_16 mu_16 ba_16 osz (upd nx_16 (Int32.toNatClampNeg x2_16) u_34) tl_16 pe_16 en_16 pa_16)) H := hP
        have hD : va_D A ((wX3_0_1_2_3_4_5_6_9_10_11_12_13_14 cy ad n rp rgs_16 sv_16 co_16 ro_16 le_16 lst_16 mu_16 ba_16 osz (upd nx_16 (Int32.toNatClampNeg x2_16) u_34) tl_16 pe_16 en_16 pa_16)) := hD
        obtain ⟨v_38, e_38⟩ : ∃ y : Int32, y = x2_16 + 1 := ⟨_, rfl⟩
        replace hf := bd_at e_38 hf
        refine lv_iinc (v := v_38) (lv' := [(2, .int v_38), (0, .ref (ad 0)), (1, .ref (am 0))]) hx hb dX3_survey_38 hl (k := 2) rfl (by rw [e_38]; rfl) (by decide) rfl (fun ls hl => ?_)
        clear e_38
        refine lv_goto (tgt := 16) hx hb dX3_survey_41 (by decide) ?_
        exact ih16 H locs ls v_38 (upd nx_16 (Int32.toNatClampNeg x2_16) u_34) hf hP hD hS (lv_sub hl [1, 2, 0] rfl)
  unfold FX3_survey at hf
  refine lv_aload_n hx hb dX3_survey_0 rfl (lv_at hl 1 rfl) ?_
  refine lv_aload_n hx hb dX3_survey_1 rfl (lv_at hl 0 rfl) ?_
  refine va_get (a := (ad 0)) (ci := 3) (v := va_rf sv) (C := RX3) (T := TX3) (N := 12) hx hb hts hin_X3 hown hK hP 0 rfl rfl 11 (by decide) hw_3 (fun _ h => h) rfl dX3_survey_2 ?_
  refine lv_acmp_ne (rx := (some (am 0))) (ry := sv) (tgt := 9) hx hb dX3_survey_5 (by decide) (fun c_5 => ?_) (fun c_5 => ?_)
  · replace hf := it_n c_5 hf
    refine lv_aload_n hx hb dX3_survey_9 rfl (lv_at hl 0 rfl) ?_
    refine lv_aload_n hx hb dX3_survey_10 rfl (lv_at hl 1 rfl) ?_
    refine va_put (a := (ad 0)) (ci := 3) (v := .ref (am 0)) (ty := .object "ReturnPoints$Poly") (C := RX3) (T := TX3) (N := 12) hx hb hts hin_X3 tyX3 tyX3_ok nmX3 hown hK hP hD hS 0 rfl rfl 11 (by decide) hw_3 (fun _ h => h) rfl (by decide +kernel) rfl rfl (Nat.le_of_ble_eq_true rfl) dX3_survey_11 (fun H locs hP hD hS => ?_)
    have hP : va_P D vwCl ((wX3_0_1_2_3_4_5_6_9_10_11_12_13_14 cy ad n rp rgs (some (am 0)) co ro le lst mu ba osz nx tl pe en pa)) H := hP
    have hD : va_D A ((wX3_0_1_2_3_4_5_6_9_10_11_12_13_14 cy ad n rp rgs (some (am 0)) co ro le lst mu ba osz nx tl pe en pa)) := hD
    refine lv_iconst (v := 0) hx hb dX3_survey_14 (by decide) ?_
    refine lv_istore_n (lv' := [(2, .int 0), (0, .ref (ad 0)), (1, .ref (am 0))]) hx hb dX3_survey_15 rfl hl (by decide) rfl (fun ls hl => ?_)
    exact L16 rgs (some (am 0)) co ro le lst mu ba tl pe en pa FU H locs ls 0 nx hf hP hD hS (lv_sub hl [1, 2, 0] rfl)
  · replace hf := it_p c_5 hf
    obtain rfl := Option.some.inj hf
    rw [← hQe]
    exact W.vret hx hb hr (fun t ht hW => ⟨rfl, by rw [ht]; exact hP, hS.F ht⟩) hS.2.2 dX3_survey_8
def FX3_ofPoint  (n : Nat) (co : Nat → Int32) (ro : Nat → Int32) (tl : Nat → Int32) (pe : Nat → Int32) (x1 : Int32) (x2 : Int32) : Option (Int32) := (if x2 = 0 then (gi x1 n (some ((tl (Int32.toNatClampNeg x1))))) else if x2 = 1 then (gi x1 n (some ((pe (Int32.toNatClampNeg x1))))) else if x2 = 2 then (gi x1 n (some ((ro (Int32.toNatClampNeg x1))))) else (gi x1 n (some ((co (Int32.toNatClampNeg x1))))))
abbrev RMX3_ofPoint : Room := { frames := 0, cells := 0, slots := 0, locals := 0 }
set_option maxHeartbeats 4000000 in
set_option maxRecDepth 100000 in
theorem KX3_ofPoint (l : Launch) (D : va_G) (cy : Nat → ClassId) (ad : Nat → Nat) (n : Nat) (rp : Int32) (rgs : Int32) (sv : Option Nat) (co : Nat → Int32) (ro : Nat → Int32) (osz : Int32) (tl : Nat → Int32) (pe : Nat → Int32) (x1 : Int32) (x2 : Int32) (sz : Nat) {out : Int32} (hf : FX3_ofPoint n co ro tl pe x1 x2 = some out) : Met l yX3_ofPoint wsX3_ofPoint RMX3_ofPoint (PW D cy [.ref (ad 0), .int x1, .int x2] sz [] ((wX3_0_1_2_9_11_12 cy ad n rp rgs sv co ro osz tl pe))) (QR (some (.int out))) 0 0 no_A := by
  refine Met.ofW (cc := cX3_ofPoint) (maxL := 3) (ret := (some .int)) (by decide +kernel) rfl ?_
  intro p e s m args below meth c s₁ B hml hv
  obtain ⟨hav, hsz, hP, hR0, hK, hN, hD0, hsep⟩ := hv
  have hx := B.exec
  have hb := B.bytes
  have hr := B.returns
  have hts := atoms_spec (ws := wsX3_ofPoint) B.pre
  have hown : s.vm.findClass RX3 = some m.cls := findClass_of_methodNamed B.named
  have hlocks := B.notSynchronized
  subst hsz
  have hin_X1 : ∀ w ∈ u_ws RX1 TX1 6, w ∈ wsX3_ofPoint := by decide +kernel
  have hin_X3 : ∀ w ∈ u_ws RX3 TX3 12, w ∈ wsX3_ofPoint := by decide +kernel
  have hw_0 := hts (.fieldLink RX3 20 "ReturnPoints$Roads" "orbits" "LReturnPoints$Orbits;") (by decide +kernel)
  have hw_1 := hts (.fieldLink RX3 89 "ReturnPoints$Orbits" "tail" "[I") (by decide +kernel)
  have hw_2 := hts (.fieldLink RX3 96 "ReturnPoints$Orbits" "period" "[I") (by decide +kernel)
  have hw_3 := hts (.fieldLink RX3 28 "ReturnPoints$Roads" "ringOf" "[I") (by decide +kernel)
  have hw_4 := hts (.fieldLink RX3 24 "ReturnPoints$Roads" "comers" "[I") (by decide +kernel)
  obtain ⟨ls, hfr, hl⟩ := ent_ok (m := m) (n := 3) (l' := [(0, .ref (ad 0)), (1, .int x1), (2, .int x2)]) [.ref (ad 0), .int x1, .int x2] hav (Nat.le_of_ble_eq_true rfl) rfl
  rw [hfr]
  generalize hQe : MQ below (QR (some (.int out))) args s 0 0 no_A = QQ
  change W p l e RMX3_ofPoint s m args below meth c s.heap [] 0 0 QQ (F0 m 0 ls [])
  unfold FX3_ofPoint at hf
  refine lv_iload_n hx hb dX3_ofPoint_0 rfl (lv_at hl 2 rfl) ?_
  by_cases c_1_0 : x2 = 0
  · replace hf := it_p c_1_0 hf
    refine lv_tableIn (tgt := 28) (off := 27) hx hb dX3_ofPoint_1 (by rw [c_1_0]; decide) (by rw [c_1_0]; decide) (by rw [c_1_0]; rfl) (by decide) ?_
    refine lv_aload_n hx hb dX3_ofPoint_28 rfl (lv_at hl 0 rfl) ?_
    refine va_get (a := (ad 0)) (ci := 3) (v := .ref (ad 9)) (C := RX3) (T := TX3) (N := 12) hx hb hts hin_X3 hown hK hR0 0 rfl rfl 1 (by decide) hw_0 (fun _ h => h) rfl dX3_ofPoint_29 ?_
    refine va_get (a := (ad 9)) (ci := 1) (v := .ref (ad 11)) (C := RX1) (T := TX1) (N := 6) hx hb hts hin_X1 hown hK hR0 3 rfl rfl 2 (by decide) hw_1 (fun _ h => h) rfl dX3_ofPoint_32 ?_
    refine lv_iload_n hx hb dX3_ofPoint_35 rfl (lv_at hl 1 rfl) ?_
    replace hf := gi_e hf
    obtain ⟨i_36, hf⟩ := hf
    refine va_iald (a := (ad 11)) hx hb hK hR0 4 0 rfl rfl i_36 dX3_ofPoint_36 ?_
    obtain rfl := Option.some.inj hf
    rw [← hQe]
    exact W.iret (v := (tl (Int32.toNatClampNeg x1))) hx hb hr (fun t ht hW => ⟨rfl, ht⟩) (fun q h => by cases h) dX3_ofPoint_37
  replace hf := it_n c_1_0 hf
  by_cases c_1_1 : x2 = 1
  · replace hf := it_p c_1_1 hf
    refine lv_tableIn (tgt := 38) (off := 37) hx hb dX3_ofPoint_1 (by rw [c_1_1]; decide) (by rw [c_1_1]; decide) (by rw [c_1_1]; rfl) (by decide) ?_
    refine lv_aload_n hx hb dX3_ofPoint_38 rfl (lv_at hl 0 rfl) ?_
    refine va_get (a := (ad 0)) (ci := 3) (v := .ref (ad 9)) (C := RX3) (T := TX3) (N := 12) hx hb hts hin_X3 hown hK hR0 0 rfl rfl 1 (by decide) hw_0 (fun _ h => h) rfl dX3_ofPoint_39 ?_
    refine va_get (a := (ad 9)) (ci := 1) (v := .ref (ad 12)) (C := RX1) (T := TX1) (N := 6) hx hb hts hin_X1 hown hK hR0 3 rfl rfl 3 (by decide) hw_2 (fun _ h => h) rfl dX3_ofPoint_42 ?_
    refine lv_iload_n hx hb dX3_ofPoint_45 rfl (lv_at hl 1 rfl) ?_
    replace hf := gi_e hf
    obtain ⟨i_46, hf⟩ := hf
    refine va_iald (a := (ad 12)) hx hb hK hR0 5 0 rfl rfl i_46 dX3_ofPoint_46 ?_
    obtain rfl := Option.some.inj hf
    rw [← hQe]
    exact W.iret (v := (pe (Int32.toNatClampNeg x1))) hx hb hr (fun t ht hW => ⟨rfl, ht⟩) (fun q h => by cases h) dX3_ofPoint_47
  replace hf := it_n c_1_1 hf
  by_cases c_1_2 : x2 = 2
  · replace hf := it_p c_1_2 hf
    refine lv_tableIn (tgt := 48) (off := 47) hx hb dX3_ofPoint_1 (by rw [c_1_2]; decide) (by rw [c_1_2]; decide) (by rw [c_1_2]; rfl) (by decide) ?_
    refine lv_aload_n hx hb dX3_ofPoint_48 rfl (lv_at hl 0 rfl) ?_
    refine va_get (a := (ad 0)) (ci := 3) (v := .ref (ad 2)) (C := RX3) (T := TX3) (N := 12) hx hb hts hin_X3 hown hK hR0 0 rfl rfl 3 (by decide) hw_3 (fun _ h => h) rfl dX3_ofPoint_49 ?_
    refine lv_iload_n hx hb dX3_ofPoint_52 rfl (lv_at hl 1 rfl) ?_
    replace hf := gi_e hf
    obtain ⟨i_53, hf⟩ := hf
    refine va_iald (a := (ad 2)) hx hb hK hR0 2 0 rfl rfl i_53 dX3_ofPoint_53 ?_
    obtain rfl := Option.some.inj hf
    rw [← hQe]
    exact W.iret (v := (ro (Int32.toNatClampNeg x1))) hx hb hr (fun t ht hW => ⟨rfl, ht⟩) (fun q h => by cases h) dX3_ofPoint_54
  replace hf := it_n c_1_2 hf
  have hsw : (x2 : Int32).toInt < 0 ∨ 2 < (x2 : Int32).toInt := by
    have h0 : (x2 : Int32).toInt ≠ 0 := ne_toInt c_1_0
    have h1 : (x2 : Int32).toInt ≠ 1 := ne_toInt c_1_1
    have h2 : (x2 : Int32).toInt ≠ 2 := ne_toInt c_1_2
    omega
  refine lv_tableOut (tgt := 55) hx hb dX3_ofPoint_1 hsw (by decide) ?_
  refine lv_aload_n hx hb dX3_ofPoint_55 rfl (lv_at hl 0 rfl) ?_
  refine va_get (a := (ad 0)) (ci := 3) (v := .ref (ad 1)) (C := RX3) (T := TX3) (N := 12) hx hb hts hin_X3 hown hK hR0 0 rfl rfl 2 (by decide) hw_4 (fun _ h => h) rfl dX3_ofPoint_56 ?_
  refine lv_iload_n hx hb dX3_ofPoint_59 rfl (lv_at hl 1 rfl) ?_
  replace hf := gi_e hf
  obtain ⟨i_60, hf⟩ := hf
  refine va_iald (a := (ad 1)) hx hb hK hR0 1 0 rfl rfl i_60 dX3_ofPoint_60 ?_
  obtain rfl := Option.some.inj hf
  rw [← hQe]
  exact W.iret (v := (co (Int32.toNatClampNeg x1))) hx hb hr (fun t ht hW => ⟨rfl, ht⟩) (fun q h => by cases h) dX3_ofPoint_61
def FX3_ofRing  (n : Nat) (rgs : Int32) (le : Nat → Int32) (lst : Nat → Int32) (mu : Nat → Int32) (ba : Nat → Int32) (x1 : Int32) (x2 : Int32) : Option (Int32) := (if x1 < 0 then (some ((-1000000))) else (if x1 < rgs then (if x2 = 0 then (gi x1 n (some ((le (Int32.toNatClampNeg x1))))) else if x2 = 1 then (gi x1 n (some ((lst (Int32.toNatClampNeg x1))))) else if x2 = 2 then (gi x1 n (some ((mu (Int32.toNatClampNeg x1))))) else (gi x1 n (some ((ba (Int32.toNatClampNeg x1)))))) else (some ((-1000000)))))
abbrev RMX3_ofRing : Room := { frames := 0, cells := 0, slots := 0, locals := 0 }
set_option maxHeartbeats 4000000 in
set_option maxRecDepth 100000 in
theorem KX3_ofRing (l : Launch) (D : va_G) (cy : Nat → ClassId) (ad : Nat → Nat) (n : Nat) (rp : Int32) (rgs : Int32) (sv : Option Nat) (le : Nat → Int32) (lst : Nat → Int32) (mu : Nat → Int32) (ba : Nat → Int32) (x1 : Int32) (x2 : Int32) (sz : Nat) {out : Int32} (hf : FX3_ofRing n rgs le lst mu ba x1 x2 = some out) : Met l yX3_ofRing wsX3_ofRing RMX3_ofRing (PW D cy [.ref (ad 0), .int x1, .int x2] sz [] ((wX3_0_3_4_5_6 cy ad n rp rgs sv le lst mu ba))) (QR (some (.int out))) 0 0 no_A := by
  refine Met.ofW (cc := cX3_ofRing) (maxL := 3) (ret := (some .int)) (by decide +kernel) rfl ?_
  intro p e s m args below meth c s₁ B hml hv
  obtain ⟨hav, hsz, hP, hR0, hK, hN, hD0, hsep⟩ := hv
  have hx := B.exec
  have hb := B.bytes
  have hr := B.returns
  have hts := atoms_spec (ws := wsX3_ofRing) B.pre
  have hown : s.vm.findClass RX3 = some m.cls := findClass_of_methodNamed B.named
  have hlocks := B.notSynchronized
  subst hsz
  have hin_X3 : ∀ w ∈ u_ws RX3 TX3 12, w ∈ wsX3_ofRing := by decide +kernel
  have hw_0 := hts (.constant RX3 88 (-1000000)) (by decide +kernel)
  have hw_1 := hts (.fieldLink RX3 49 "ReturnPoints$Roads" "rings" "I") (by decide +kernel)
  have hw_2 := hts (.fieldLink RX3 31 "ReturnPoints$Roads" "length" "[I") (by decide +kernel)
  have hw_3 := hts (.fieldLink RX3 34 "ReturnPoints$Roads" "least" "[I") (by decide +kernel)
  have hw_4 := hts (.fieldLink RX3 37 "ReturnPoints$Roads" "multiplier" "[I") (by decide +kernel)
  have hw_5 := hts (.fieldLink RX3 40 "ReturnPoints$Roads" "basin" "[I") (by decide +kernel)
  obtain ⟨ls, hfr, hl⟩ := ent_ok (m := m) (n := 3) (l' := [(0, .ref (ad 0)), (1, .int x1), (2, .int x2)]) [.ref (ad 0), .int x1, .int x2] hav (Nat.le_of_ble_eq_true rfl) rfl
  rw [hfr]
  generalize hQe : MQ below (QR (some (.int out))) args s 0 0 no_A = QQ
  change W p l e RMX3_ofRing s m args below meth c s.heap [] 0 0 QQ (F0 m 0 ls [])
  unfold FX3_ofRing at hf
  refine lv_iload_n hx hb dX3_ofRing_0 rfl (lv_at hl 1 rfl) ?_
  refine lv_if_lt (tgt := 12) hx hb dX3_ofRing_1 (by decide) (fun c_1 => ?_) (fun c_1 => ?_)
  · replace hf := it_p c_1 hf
    refine lv_ldc (own := RX3) (v := (-1000000)) hx hb hown hw_0 dX3_ofRing_12 ?_
    obtain rfl := Option.some.inj hf
    rw [← hQe]
    exact W.iret (v := (-1000000)) hx hb hr (fun t ht hW => ⟨rfl, ht⟩) (fun q h => by cases h) dX3_ofRing_14
  · replace hf := it_n c_1 hf
    refine lv_iload_n hx hb dX3_ofRing_4 rfl (lv_at hl 1 rfl) ?_
    refine lv_aload_n hx hb dX3_ofRing_5 rfl (lv_at hl 0 rfl) ?_
    refine va_get (a := (ad 0)) (ci := 3) (v := .int rgs) (C := RX3) (T := TX3) (N := 12) hx hb hts hin_X3 hown hK hR0 0 rfl rfl 10 (by decide) hw_1 (fun _ h => h) rfl dX3_ofRing_6 ?_
    refine lv_icmp_lt (tgt := 15) hx hb dX3_ofRing_9 (by decide) (fun c_9 => ?_) (fun c_9 => ?_)
    · replace hf := it_p c_9 hf
      refine lv_iload_n hx hb dX3_ofRing_15 rfl (lv_at hl 2 rfl) ?_
      by_cases c_16_0 : x2 = 0
      · replace hf := it_p c_16_0 hf
        refine lv_tableIn (tgt := 44) (off := 28) hx hb dX3_ofRing_16 (by rw [c_16_0]; decide) (by rw [c_16_0]; decide) (by rw [c_16_0]; rfl) (by decide) ?_
        refine lv_aload_n hx hb dX3_ofRing_44 rfl (lv_at hl 0 rfl) ?_
        refine va_get (a := (ad 0)) (ci := 3) (v := .ref (ad 3)) (C := RX3) (T := TX3) (N := 12) hx hb hts hin_X3 hown hK hR0 0 rfl rfl 4 (by decide) hw_2 (fun _ h => h) rfl dX3_ofRing_45 ?_
        refine lv_iload_n hx hb dX3_ofRing_48 rfl (lv_at hl 1 rfl) ?_
        replace hf := gi_e hf
        obtain ⟨i_49, hf⟩ := hf
        refine va_iald (a := (ad 3)) hx hb hK hR0 1 0 rfl rfl i_49 dX3_ofRing_49 ?_
        obtain rfl := Option.some.inj hf
        rw [← hQe]
        exact W.iret (v := (le (Int32.toNatClampNeg x1))) hx hb hr (fun t ht hW => ⟨rfl, ht⟩) (fun q h => by cases h) dX3_ofRing_50
      replace hf := it_n c_16_0 hf
      by_cases c_16_1 : x2 = 1
      · replace hf := it_p c_16_1 hf
        refine lv_tableIn (tgt := 51) (off := 35) hx hb dX3_ofRing_16 (by rw [c_16_1]; decide) (by rw [c_16_1]; decide) (by rw [c_16_1]; rfl) (by decide) ?_
        refine lv_aload_n hx hb dX3_ofRing_51 rfl (lv_at hl 0 rfl) ?_
        refine va_get (a := (ad 0)) (ci := 3) (v := .ref (ad 4)) (C := RX3) (T := TX3) (N := 12) hx hb hts hin_X3 hown hK hR0 0 rfl rfl 5 (by decide) hw_3 (fun _ h => h) rfl dX3_ofRing_52 ?_
        refine lv_iload_n hx hb dX3_ofRing_55 rfl (lv_at hl 1 rfl) ?_
        replace hf := gi_e hf
        obtain ⟨i_56, hf⟩ := hf
        refine va_iald (a := (ad 4)) hx hb hK hR0 2 0 rfl rfl i_56 dX3_ofRing_56 ?_
        obtain rfl := Option.some.inj hf
        rw [← hQe]
        exact W.iret (v := (lst (Int32.toNatClampNeg x1))) hx hb hr (fun t ht hW => ⟨rfl, ht⟩) (fun q h => by cases h) dX3_ofRing_57
      replace hf := it_n c_16_1 hf
      by_cases c_16_2 : x2 = 2
      · replace hf := it_p c_16_2 hf
        refine lv_tableIn (tgt := 58) (off := 42) hx hb dX3_ofRing_16 (by rw [c_16_2]; decide) (by rw [c_16_2]; decide) (by rw [c_16_2]; rfl) (by decide) ?_
        refine lv_aload_n hx hb dX3_ofRing_58 rfl (lv_at hl 0 rfl) ?_
        refine va_get (a := (ad 0)) (ci := 3) (v := .ref (ad 5)) (C := RX3) (T := TX3) (N := 12) hx hb hts hin_X3 hown hK hR0 0 rfl rfl 6 (by decide) hw_4 (fun _ h => h) rfl dX3_ofRing_59 ?_
        refine lv_iload_n hx hb dX3_ofRing_62 rfl (lv_at hl 1 rfl) ?_
        replace hf := gi_e hf
        obtain ⟨i_63, hf⟩ := hf
        refine va_iald (a := (ad 5)) hx hb hK hR0 3 0 rfl rfl i_63 dX3_ofRing_63 ?_
        obtain rfl := Option.some.inj hf
        rw [← hQe]
        exact W.iret (v := (mu (Int32.toNatClampNeg x1))) hx hb hr (fun t ht hW => ⟨rfl, ht⟩) (fun q h => by cases h) dX3_ofRing_64
      replace hf := it_n c_16_2 hf
      have hsw : (x2 : Int32).toInt < 0 ∨ 2 < (x2 : Int32).toInt := by
        have h0 : (x2 : Int32).toInt ≠ 0 := ne_toInt c_16_0
        have h1 : (x2 : Int32).toInt ≠ 1 := ne_toInt c_16_1
        have h2 : (x2 : Int32).toInt ≠ 2 := ne_toInt c_16_2
        omega
      refine lv_tableOut (tgt := 65) hx hb dX3_ofRing_16 hsw (by decide) ?_
      refine lv_aload_n hx hb dX3_ofRing_65 rfl (lv_at hl 0 rfl) ?_
      refine va_get (a := (ad 0)) (ci := 3) (v := .ref (ad 6)) (C := RX3) (T := TX3) (N := 12) hx hb hts hin_X3 hown hK hR0 0 rfl rfl 7 (by decide) hw_5 (fun _ h => h) rfl dX3_ofRing_66 ?_
      refine lv_iload_n hx hb dX3_ofRing_69 rfl (lv_at hl 1 rfl) ?_
      replace hf := gi_e hf
      obtain ⟨i_70, hf⟩ := hf
      refine va_iald (a := (ad 6)) hx hb hK hR0 4 0 rfl rfl i_70 dX3_ofRing_70 ?_
      obtain rfl := Option.some.inj hf
      rw [← hQe]
      exact W.iret (v := (ba (Int32.toNatClampNeg x1))) hx hb hr (fun t ht hW => ⟨rfl, ht⟩) (fun q h => by cases h) dX3_ofRing_71
    · replace hf := it_n c_9 hf
      refine lv_ldc (own := RX3) (v := (-1000000)) hx hb hown hw_0 dX3_ofRing_12 ?_
      obtain rfl := Option.some.inj hf
      rw [← hQe]
      exact W.iret (v := (-1000000)) hx hb hr (fun t ht hW => ⟨rfl, ht⟩) (fun q h => by cases h) dX3_ofRing_14
def FX3_pointsOnRings_L4   (n : Nat) (rgs : Int32) (le : Nat → Int32) : Nat → Int32 → Int32 → Option (Int32)
  | 0, _, _ => none
  | fuel + 1, x1_4, x2_4 => (if rgs ≤ x2_4 then (some (x1_4)) else (gi x2_4 n (bd (x1_4 + (le (Int32.toNatClampNeg x2_4))) (fun v_20 => bd (x2_4 + 1) (fun v_21 => (FX3_pointsOnRings_L4 n rgs le fuel) v_20 v_21)))))
def FX3_pointsOnRings  (n : Nat) (rgs : Int32) (le : Nat → Int32)  : Option (Int32) := (FX3_pointsOnRings_L4 n rgs le FU 0 0)
abbrev RMX3_pointsOnRings : Room := { frames := 0, cells := 0, slots := 0, locals := 0 }
set_option maxHeartbeats 4000000 in
set_option maxRecDepth 100000 in
theorem KX3_pointsOnRings (l : Launch) (D : va_G) (cy : Nat → ClassId) (ad : Nat → Nat) (n : Nat) (rp : Int32) (rgs : Int32) (sv : Option Nat) (le : Nat → Int32)  (sz : Nat) {out : Int32} (hf : FX3_pointsOnRings n rgs le = some out) : Met l yX3_pointsOnRings wsX3_pointsOnRings RMX3_pointsOnRings (PW D cy [.ref (ad 0)] sz [] ((wX3_0_3 cy ad n rp rgs sv le))) (QR (some (.int out))) 0 0 no_A := by
  refine Met.ofW (cc := cX3_pointsOnRings) (maxL := 3) (ret := (some .int)) (by decide +kernel) rfl ?_
  intro p e s m args below meth c s₁ B hml hv
  obtain ⟨hav, hsz, hP, hR0, hK, hN, hD0, hsep⟩ := hv
  have hx := B.exec
  have hb := B.bytes
  have hr := B.returns
  have hts := atoms_spec (ws := wsX3_pointsOnRings) B.pre
  have hown : s.vm.findClass RX3 = some m.cls := findClass_of_methodNamed B.named
  have hlocks := B.notSynchronized
  subst hsz
  have hin_X3 : ∀ w ∈ u_ws RX3 TX3 12, w ∈ wsX3_pointsOnRings := by decide +kernel
  have hw_0 := hts (.fieldLink RX3 49 "ReturnPoints$Roads" "rings" "I") (by decide +kernel)
  have hw_1 := hts (.fieldLink RX3 31 "ReturnPoints$Roads" "length" "[I") (by decide +kernel)
  obtain ⟨ls, hfr, hl⟩ := ent_ok (m := m) (n := 3) (l' := [(0, .ref (ad 0))]) [.ref (ad 0)] hav (Nat.le_of_ble_eq_true rfl) rfl
  rw [hfr]
  generalize hQe : MQ below (QR (some (.int out))) args s 0 0 no_A = QQ
  change W p l e RMX3_pointsOnRings s m args below meth c s.heap [] 0 0 QQ (F0 m 0 ls [])
  have L4 : ∀  (n4 : Nat) (ls : Array Slot) (x1_4 : Int32) (x2_4 : Int32), FX3_pointsOnRings_L4 n rgs le n4 x1_4 x2_4 = some out → lv_has ls 3 [(0, .ref (ad 0)), (1, .int x1_4), (2, .int x2_4)] → W p l e RMX3_pointsOnRings s m args below meth c s.heap [] 0 0 QQ (F0 m 4 ls []) := by
    intro  n4
    induction n4 with
    | zero => intro ls x1_4 x2_4 hf; simp [FX3_pointsOnRings_L4] at hf
    | succ n4 ih4 =>
      intro ls x1_4 x2_4 hf hl
      rw [FX3_pointsOnRings_L4] at hf
      refine lv_iload_n hx hb dX3_pointsOnRings_4 rfl (lv_at hl 2 rfl) ?_
      refine lv_aload_n hx hb dX3_pointsOnRings_5 rfl (lv_at hl 0 rfl) ?_
      refine va_get (a := (ad 0)) (ci := 3) (v := .int rgs) (C := RX3) (T := TX3) (N := 12) hx hb hts hin_X3 hown hK hR0 0 rfl rfl 10 (by decide) hw_0 (fun _ h => h) rfl dX3_pointsOnRings_6 ?_
      refine lv_icmp_ge (tgt := 27) hx hb dX3_pointsOnRings_9 (by decide) (fun c_9 => ?_) (fun c_9 => ?_)
      · replace hf := it_p c_9 hf
        refine lv_iload_n hx hb dX3_pointsOnRings_27 rfl (lv_at hl 1 rfl) ?_
        obtain rfl := Option.some.inj hf
        rw [← hQe]
        exact W.iret (v := x1_4) hx hb hr (fun t ht hW => ⟨rfl, ht⟩) (fun q h => by cases h) dX3_pointsOnRings_28
      · replace hf := it_n c_9 hf
        refine lv_iload_n hx hb dX3_pointsOnRings_12 rfl (lv_at hl 1 rfl) ?_
        refine lv_aload_n hx hb dX3_pointsOnRings_13 rfl (lv_at hl 0 rfl) ?_
        refine va_get (a := (ad 0)) (ci := 3) (v := .ref (ad 3)) (C := RX3) (T := TX3) (N := 12) hx hb hts hin_X3 hown hK hR0 0 rfl rfl 4 (by decide) hw_1 (fun _ h => h) rfl dX3_pointsOnRings_14 ?_
        refine lv_iload_n hx hb dX3_pointsOnRings_17 rfl (lv_at hl 2 rfl) ?_
        replace hf := gi_e hf
        obtain ⟨i_18, hf⟩ := hf
        refine va_iald (a := (ad 3)) hx hb hK hR0 1 0 rfl rfl i_18 dX3_pointsOnRings_18 ?_
        refine lv_iadd hx hb dX3_pointsOnRings_19 ?_
        refine lv_topi (fun v_20 e_20 => ?_)
        replace hf := bd_at e_20 hf
        clear e_20
        refine lv_istore_n (lv' := [(1, .int v_20), (0, .ref (ad 0)), (2, .int x2_4)]) hx hb dX3_pointsOnRings_20 rfl hl (by decide) rfl (fun ls hl => ?_)
        obtain ⟨v_21, e_21⟩ : ∃ y : Int32, y = x2_4 + 1 := ⟨_, rfl⟩
        replace hf := bd_at e_21 hf
        refine lv_iinc (v := v_21) (lv' := [(2, .int v_21), (1, .int v_20), (0, .ref (ad 0))]) hx hb dX3_pointsOnRings_21 hl (k := 2) rfl (by rw [e_21]; rfl) (by decide) rfl (fun ls hl => ?_)
        clear e_21
        refine lv_goto (tgt := 4) hx hb dX3_pointsOnRings_24 (by decide) ?_
        exact ih4 ls v_20 v_21 hf (lv_sub hl [2, 1, 0] rfl)
  unfold FX3_pointsOnRings at hf
  refine lv_iconst (v := 0) hx hb dX3_pointsOnRings_0 (by decide) ?_
  refine lv_istore_n (lv' := [(1, .int 0), (0, .ref (ad 0))]) hx hb dX3_pointsOnRings_1 rfl hl (by decide) rfl (fun ls hl => ?_)
  refine lv_iconst (v := 0) hx hb dX3_pointsOnRings_2 (by decide) ?_
  refine lv_istore_n (lv' := [(2, .int 0), (1, .int 0), (0, .ref (ad 0))]) hx hb dX3_pointsOnRings_3 rfl hl (by decide) rfl (fun ls hl => ?_)
  exact L4 FU ls 0 0 hf (lv_sub hl [2, 1, 0] rfl)
def FX3_longestRing_L4   (n : Nat) (rgs : Int32) (le : Nat → Int32) : Nat → Int32 → Int32 → Option (Int32)
  | 0, _, _ => none
  | fuel + 1, x1_4, x2_4 => (if rgs ≤ x2_4 then (some (x1_4)) else (gi x2_4 n (bd (imx x1_4 (le (Int32.toNatClampNeg x2_4))) (fun v_22 => bd (x2_4 + 1) (fun v_23 => (FX3_longestRing_L4 n rgs le fuel) v_22 v_23)))))
def FX3_longestRing  (n : Nat) (rgs : Int32) (le : Nat → Int32)  : Option (Int32) := (FX3_longestRing_L4 n rgs le FU 0 0)
abbrev RMX3_longestRing : Room := { frames := 1, cells := 0, slots := 0, locals := 24 }
set_option maxHeartbeats 4000000 in
set_option maxRecDepth 100000 in
theorem KX3_longestRing (l : Launch) (D : va_G) (cy : Nat → ClassId) (ad : Nat → Nat) (n : Nat) (rp : Int32) (rgs : Int32) (sv : Option Nat) (le : Nat → Int32)  (sz : Nat) {out : Int32} (hf : FX3_longestRing n rgs le = some out) : Met l yX3_longestRing wsX3_longestRing RMX3_longestRing (PW D cy [.ref (ad 0)] sz [] ((wX3_0_3 cy ad n rp rgs sv le))) (QR (some (.int out))) 0 0 no_A := by
  refine Met.ofW (cc := cX3_longestRing) (maxL := 3) (ret := (some .int)) (by decide +kernel) rfl ?_
  intro p e s m args below meth c s₁ B hml hv
  obtain ⟨hav, hsz, hP, hR0, hK, hN, hD0, hsep⟩ := hv
  have hx := B.exec
  have hb := B.bytes
  have hr := B.returns
  have hts := atoms_spec (ws := wsX3_longestRing) B.pre
  have hown : s.vm.findClass RX3 = some m.cls := findClass_of_methodNamed B.named
  have hlocks := B.notSynchronized
  subst hsz
  have hin_X3 : ∀ w ∈ u_ws RX3 TX3 12, w ∈ wsX3_longestRing := by decide +kernel
  have hw_0 := hts (.methodLink RX3 121 Lib.Math.max.name) (by decide +kernel)
  have hw_1 := hts (.static Lib.Math.max.name) (by decide +kernel)
  have hw_2 := hts (.initialized "java/lang/Math") (by decide +kernel)
  have hw_3 := hts (.code Lib.Math.max.name Lib.Math.max.code 2 (some .int)) (by decide +kernel)
  have hw_4 := hts (.fieldLink RX3 49 "ReturnPoints$Roads" "rings" "I") (by decide +kernel)
  have hw_5 := hts (.fieldLink RX3 31 "ReturnPoints$Roads" "length" "[I") (by decide +kernel)
  obtain ⟨ls, hfr, hl⟩ := ent_ok (m := m) (n := 3) (l' := [(0, .ref (ad 0))]) [.ref (ad 0)] hav (Nat.le_of_ble_eq_true rfl) rfl
  rw [hfr]
  generalize hQe : MQ below (QR (some (.int out))) args s 0 0 no_A = QQ
  change W p l e RMX3_longestRing s m args below meth c s.heap [] 0 0 QQ (F0 m 0 ls [])
  have L4 : ∀  (n4 : Nat) (ls : Array Slot) (x1_4 : Int32) (x2_4 : Int32), FX3_longestRing_L4 n rgs le n4 x1_4 x2_4 = some out → lv_has ls 3 [(0, .ref (ad 0)), (1, .int x1_4), (2, .int x2_4)] → W p l e RMX3_longestRing s m args below meth c s.heap [] 0 0 QQ (F0 m 4 ls []) := by
    intro  n4
    induction n4 with
    | zero => intro ls x1_4 x2_4 hf; simp [FX3_longestRing_L4] at hf
    | succ n4 ih4 =>
      intro ls x1_4 x2_4 hf hl
      rw [FX3_longestRing_L4] at hf
      refine lv_iload_n hx hb dX3_longestRing_4 rfl (lv_at hl 2 rfl) ?_
      refine lv_aload_n hx hb dX3_longestRing_5 rfl (lv_at hl 0 rfl) ?_
      refine va_get (a := (ad 0)) (ci := 3) (v := .int rgs) (C := RX3) (T := TX3) (N := 12) hx hb hts hin_X3 hown hK hR0 0 rfl rfl 10 (by decide) hw_4 (fun _ h => h) rfl dX3_longestRing_6 ?_
      refine lv_icmp_ge (tgt := 29) hx hb dX3_longestRing_9 (by decide) (fun c_9 => ?_) (fun c_9 => ?_)
      · replace hf := it_p c_9 hf
        refine lv_iload_n hx hb dX3_longestRing_29 rfl (lv_at hl 1 rfl) ?_
        obtain rfl := Option.some.inj hf
        rw [← hQe]
        exact W.iret (v := x1_4) hx hb hr (fun t ht hW => ⟨rfl, ht⟩) (fun q h => by cases h) dX3_longestRing_30
      · replace hf := it_n c_9 hf
        refine lv_iload_n hx hb dX3_longestRing_12 rfl (lv_at hl 1 rfl) ?_
        refine lv_aload_n hx hb dX3_longestRing_13 rfl (lv_at hl 0 rfl) ?_
        refine va_get (a := (ad 0)) (ci := 3) (v := .ref (ad 3)) (C := RX3) (T := TX3) (N := 12) hx hb hts hin_X3 hown hK hR0 0 rfl rfl 4 (by decide) hw_5 (fun _ h => h) rfl dX3_longestRing_14 ?_
        refine lv_iload_n hx hb dX3_longestRing_17 rfl (lv_at hl 2 rfl) ?_
        replace hf := gi_e hf
        obtain ⟨i_18, hf⟩ := hf
        refine va_iald (a := (ad 3)) hx hb hK hR0 1 0 rfl rfl i_18 dX3_longestRing_18 ?_
        refine va_mmax hx hb (hml.trans hl.1.symm) hown hw_0 hw_1 hw_2 hw_3 (Nat.le_of_ble_eq_true rfl) (Nat.le_of_ble_eq_true rfl) (Nat.zero_le _) (Nat.zero_le _) dX3_longestRing_19 ?_
        show W p l e RMX3_longestRing s m args below meth c s.heap [] 0 0 QQ (F0 m 22 ls [.int (imx x1_4 (le (Int32.toNatClampNeg x2_4)))])
        refine lv_topi (fun v_22 e_22 => ?_)
        replace hf := bd_at e_22 hf
        clear e_22
        refine lv_istore_n (lv' := [(1, .int v_22), (0, .ref (ad 0)), (2, .int x2_4)]) hx hb dX3_longestRing_22 rfl hl (by decide) rfl (fun ls hl => ?_)
        obtain ⟨v_23, e_23⟩ : ∃ y : Int32, y = x2_4 + 1 := ⟨_, rfl⟩
        replace hf := bd_at e_23 hf
        refine lv_iinc (v := v_23) (lv' := [(2, .int v_23), (1, .int v_22), (0, .ref (ad 0))]) hx hb dX3_longestRing_23 hl (k := 2) rfl (by rw [e_23]; rfl) (by decide) rfl (fun ls hl => ?_)
        clear e_23
        refine lv_goto (tgt := 4) hx hb dX3_longestRing_26 (by decide) ?_
        exact ih4 ls v_22 v_23 hf (lv_sub hl [2, 1, 0] rfl)
  unfold FX3_longestRing at hf
  refine lv_iconst (v := 0) hx hb dX3_longestRing_0 (by decide) ?_
  refine lv_istore_n (lv' := [(1, .int 0), (0, .ref (ad 0))]) hx hb dX3_longestRing_1 rfl hl (by decide) rfl (fun ls hl => ?_)
  refine lv_iconst (v := 0) hx hb dX3_longestRing_2 (by decide) ?_
  refine lv_istore_n (lv' := [(2, .int 0), (1, .int 0), (0, .ref (ad 0))]) hx hb dX3_longestRing_3 rfl hl (by decide) rfl (fun ls hl => ?_)
  exact L4 FU ls 0 0 hf (lv_sub hl [2, 1, 0] rfl)
def FX3_longestTail_L4   (n : Nat) (rp : Int32) (tl : Nat → Int32) : Nat → Int32 → Int32 → Option (Int32)
  | 0, _, _ => none
  | fuel + 1, x1_4, x2_4 => (if rp ≤ x2_4 then (some (x1_4)) else (gi x2_4 n (bd (imx x1_4 (tl (Int32.toNatClampNeg x2_4))) (fun v_25 => bd (x2_4 + 1) (fun v_26 => (FX3_longestTail_L4 n rp tl fuel) v_25 v_26)))))
def FX3_longestTail  (n : Nat) (rp : Int32) (tl : Nat → Int32)  : Option (Int32) := (FX3_longestTail_L4 n rp tl FU 0 0)
abbrev RMX3_longestTail : Room := { frames := 1, cells := 0, slots := 0, locals := 24 }
set_option maxHeartbeats 4000000 in
set_option maxRecDepth 100000 in
theorem KX3_longestTail (l : Launch) (D : va_G) (cy : Nat → ClassId) (ad : Nat → Nat) (n : Nat) (rp : Int32) (rgs : Int32) (sv : Option Nat) (osz : Int32) (tl : Nat → Int32)  (sz : Nat) {out : Int32} (hf : FX3_longestTail n rp tl = some out) : Met l yX3_longestTail wsX3_longestTail RMX3_longestTail (PW D cy [.ref (ad 0)] sz [] ((wX3_0_9_11 cy ad n rp rgs sv osz tl))) (QR (some (.int out))) 0 0 no_A := by
  refine Met.ofW (cc := cX3_longestTail) (maxL := 3) (ret := (some .int)) (by decide +kernel) rfl ?_
  intro p e s m args below meth c s₁ B hml hv
  obtain ⟨hav, hsz, hP, hR0, hK, hN, hD0, hsep⟩ := hv
  have hx := B.exec
  have hb := B.bytes
  have hr := B.returns
  have hts := atoms_spec (ws := wsX3_longestTail) B.pre
  have hown : s.vm.findClass RX3 = some m.cls := findClass_of_methodNamed B.named
  have hlocks := B.notSynchronized
  subst hsz
  have hin_X1 : ∀ w ∈ u_ws RX1 TX1 6, w ∈ wsX3_longestTail := by decide +kernel
  have hin_X3 : ∀ w ∈ u_ws RX3 TX3 12, w ∈ wsX3_longestTail := by decide +kernel
  have hw_0 := hts (.methodLink RX3 121 Lib.Math.max.name) (by decide +kernel)
  have hw_1 := hts (.static Lib.Math.max.name) (by decide +kernel)
  have hw_2 := hts (.initialized "java/lang/Math") (by decide +kernel)
  have hw_3 := hts (.code Lib.Math.max.name Lib.Math.max.code 2 (some .int)) (by decide +kernel)
  have hw_4 := hts (.fieldLink RX3 9 "ReturnPoints$Roads" "p" "I") (by decide +kernel)
  have hw_5 := hts (.fieldLink RX3 20 "ReturnPoints$Roads" "orbits" "LReturnPoints$Orbits;") (by decide +kernel)
  have hw_6 := hts (.fieldLink RX3 89 "ReturnPoints$Orbits" "tail" "[I") (by decide +kernel)
  obtain ⟨ls, hfr, hl⟩ := ent_ok (m := m) (n := 3) (l' := [(0, .ref (ad 0))]) [.ref (ad 0)] hav (Nat.le_of_ble_eq_true rfl) rfl
  rw [hfr]
  generalize hQe : MQ below (QR (some (.int out))) args s 0 0 no_A = QQ
  change W p l e RMX3_longestTail s m args below meth c s.heap [] 0 0 QQ (F0 m 0 ls [])
  have L4 : ∀  (n4 : Nat) (ls : Array Slot) (x1_4 : Int32) (x2_4 : Int32), FX3_longestTail_L4 n rp tl n4 x1_4 x2_4 = some out → lv_has ls 3 [(0, .ref (ad 0)), (1, .int x1_4), (2, .int x2_4)] → W p l e RMX3_longestTail s m args below meth c s.heap [] 0 0 QQ (F0 m 4 ls []) := by
    intro  n4
    induction n4 with
    | zero => intro ls x1_4 x2_4 hf; simp [FX3_longestTail_L4] at hf
    | succ n4 ih4 =>
      intro ls x1_4 x2_4 hf hl
      rw [FX3_longestTail_L4] at hf
      refine lv_iload_n hx hb dX3_longestTail_4 rfl (lv_at hl 2 rfl) ?_
      refine lv_aload_n hx hb dX3_longestTail_5 rfl (lv_at hl 0 rfl) ?_
      refine va_get (a := (ad 0)) (ci := 3) (v := .int rp) (C := RX3) (T := TX3) (N := 12) hx hb hts hin_X3 hown hK hR0 0 rfl rfl 0 (by decide) hw_4 (fun _ h => h) rfl dX3_longestTail_6 ?_
      refine lv_icmp_ge (tgt := 32) hx hb dX3_longestTail_9 (by decide) (fun c_9 => ?_) (fun c_9 => ?_)
      · replace hf := it_p c_9 hf
        refine lv_iload_n hx hb dX3_longestTail_32 rfl (lv_at hl 1 rfl) ?_
        obtain rfl := Option.some.inj hf
        rw [← hQe]
        exact W.iret (v := x1_4) hx hb hr (fun t ht hW => ⟨rfl, ht⟩) (fun q h => by cases h) dX3_longestTail_33
      · replace hf := it_n c_9 hf
        refine lv_iload_n hx hb dX3_longestTail_12 rfl (lv_at hl 1 rfl) ?_
        refine lv_aload_n hx hb dX3_longestTail_13 rfl (lv_at hl 0 rfl) ?_
        refine va_get (a := (ad 0)) (ci := 3) (v := .ref (ad 9)) (C := RX3) (T := TX3) (N := 12) hx hb hts hin_X3 hown hK hR0 0 rfl rfl 1 (by decide) hw_5 (fun _ h => h) rfl dX3_longestTail_14 ?_
        refine va_get (a := (ad 9)) (ci := 1) (v := .ref (ad 11)) (C := RX1) (T := TX1) (N := 6) hx hb hts hin_X1 hown hK hR0 1 rfl rfl 2 (by decide) hw_6 (fun _ h => h) rfl dX3_longestTail_17 ?_
        refine lv_iload_n hx hb dX3_longestTail_20 rfl (lv_at hl 2 rfl) ?_
        replace hf := gi_e hf
        obtain ⟨i_21, hf⟩ := hf
        refine va_iald (a := (ad 11)) hx hb hK hR0 2 0 rfl rfl i_21 dX3_longestTail_21 ?_
        refine va_mmax hx hb (hml.trans hl.1.symm) hown hw_0 hw_1 hw_2 hw_3 (Nat.le_of_ble_eq_true rfl) (Nat.le_of_ble_eq_true rfl) (Nat.zero_le _) (Nat.zero_le _) dX3_longestTail_22 ?_
        show W p l e RMX3_longestTail s m args below meth c s.heap [] 0 0 QQ (F0 m 25 ls [.int (imx x1_4 (tl (Int32.toNatClampNeg x2_4)))])
        refine lv_topi (fun v_25 e_25 => ?_)
        replace hf := bd_at e_25 hf
        clear e_25
        refine lv_istore_n (lv' := [(1, .int v_25), (0, .ref (ad 0)), (2, .int x2_4)]) hx hb dX3_longestTail_25 rfl hl (by decide) rfl (fun ls hl => ?_)
        obtain ⟨v_26, e_26⟩ : ∃ y : Int32, y = x2_4 + 1 := ⟨_, rfl⟩
        replace hf := bd_at e_26 hf
        refine lv_iinc (v := v_26) (lv' := [(2, .int v_26), (1, .int v_25), (0, .ref (ad 0))]) hx hb dX3_longestTail_26 hl (k := 2) rfl (by rw [e_26]; rfl) (by decide) rfl (fun ls hl => ?_)
        clear e_26
        refine lv_goto (tgt := 4) hx hb dX3_longestTail_29 (by decide) ?_
        exact ih4 ls v_25 v_26 hf (lv_sub hl [2, 1, 0] rfl)
  unfold FX3_longestTail at hf
  refine lv_iconst (v := 0) hx hb dX3_longestTail_0 (by decide) ?_
  refine lv_istore_n (lv' := [(1, .int 0), (0, .ref (ad 0))]) hx hb dX3_longestTail_1 rfl hl (by decide) rfl (fun ls hl => ?_)
  refine lv_iconst (v := 0) hx hb dX3_longestTail_2 (by decide) ?_
  refine lv_istore_n (lv' := [(2, .int 0), (1, .int 0), (0, .ref (ad 0))]) hx hb dX3_longestTail_3 rfl hl (by decide) rfl (fun ls hl => ?_)
  exact L4 FU ls 0 0 hf (lv_sub hl [2, 1, 0] rfl)
def FX3_pointsWithoutComers_J27  (k4 : Int32 → Int32 → Option (Int32)) (x2_27 : Int32) (s0_27 : Int32) (s1_27 : Bool) (n : Nat) (rp : Int32) (co : Nat → Int32) : Option (Int32) := (bd (s0_27 + (bi s1_27)) (fun v_28 => bd (x2_27 + 1) (fun v_29 => k4 v_28 v_29)))
def FX3_pointsWithoutComers_L4   (n : Nat) (rp : Int32) (co : Nat → Int32) : Nat → Int32 → Int32 → Option (Int32)
  | 0, _, _ => none
  | fuel + 1, x1_4, x2_4 => (if rp ≤ x2_4 then (some (x1_4)) else (gi x2_4 n (if (co (Int32.toNatClampNeg x2_4)) = 0 then (FX3_pointsWithoutComers_J27 (FX3_pointsWithoutComers_L4 n rp co fuel) x2_4 x1_4 true n rp co) else (FX3_pointsWithoutComers_J27 (FX3_pointsWithoutComers_L4 n rp co fuel) x2_4 x1_4 false n rp co))))
def FX3_pointsWithoutComers  (n : Nat) (rp : Int32) (co : Nat → Int32)  : Option (Int32) := (FX3_pointsWithoutComers_L4 n rp co FU 0 0)
abbrev RMX3_pointsWithoutComers : Room := { frames := 0, cells := 0, slots := 0, locals := 0 }
set_option maxHeartbeats 4000000 in
set_option maxRecDepth 100000 in
theorem KX3_pointsWithoutComers (l : Launch) (D : va_G) (cy : Nat → ClassId) (ad : Nat → Nat) (n : Nat) (rp : Int32) (rgs : Int32) (sv : Option Nat) (co : Nat → Int32)  (sz : Nat) {out : Int32} (hf : FX3_pointsWithoutComers n rp co = some out) : Met l yX3_pointsWithoutComers wsX3_pointsWithoutComers RMX3_pointsWithoutComers (PW D cy [.ref (ad 0)] sz [] ((wX3_0_1 cy ad n rp rgs sv co))) (QR (some (.int out))) 0 0 no_A := by
  refine Met.ofW (cc := cX3_pointsWithoutComers) (maxL := 3) (ret := (some .int)) (by decide +kernel) rfl ?_
  intro p e s m args below meth c s₁ B hml hv
  obtain ⟨hav, hsz, hP, hR0, hK, hN, hD0, hsep⟩ := hv
  have hx := B.exec
  have hb := B.bytes
  have hr := B.returns
  have hts := atoms_spec (ws := wsX3_pointsWithoutComers) B.pre
  have hown : s.vm.findClass RX3 = some m.cls := findClass_of_methodNamed B.named
  have hlocks := B.notSynchronized
  subst hsz
  have hin_X3 : ∀ w ∈ u_ws RX3 TX3 12, w ∈ wsX3_pointsWithoutComers := by decide +kernel
  have hw_0 := hts (.fieldLink RX3 9 "ReturnPoints$Roads" "p" "I") (by decide +kernel)
  have hw_1 := hts (.fieldLink RX3 24 "ReturnPoints$Roads" "comers" "[I") (by decide +kernel)
  obtain ⟨ls, hfr, hl⟩ := ent_ok (m := m) (n := 3) (l' := [(0, .ref (ad 0))]) [.ref (ad 0)] hav (Nat.le_of_ble_eq_true rfl) rfl
  rw [hfr]
  generalize hQe : MQ below (QR (some (.int out))) args s 0 0 no_A = QQ
  change W p l e RMX3_pointsWithoutComers s m args below meth c s.heap [] 0 0 QQ (F0 m 0 ls [])
  have L4 : ∀  (n4 : Nat) (ls : Array Slot) (x1_4 : Int32) (x2_4 : Int32), FX3_pointsWithoutComers_L4 n rp co n4 x1_4 x2_4 = some out → lv_has ls 3 [(0, .ref (ad 0)), (1, .int x1_4), (2, .int x2_4)] → W p l e RMX3_pointsWithoutComers s m args below meth c s.heap [] 0 0 QQ (F0 m 4 ls []) := by
    intro  n4
    induction n4 with
    | zero => intro ls x1_4 x2_4 hf; simp [FX3_pointsWithoutComers_L4] at hf
    | succ n4 ih4 =>
      intro ls x1_4 x2_4 hf hl
      rw [FX3_pointsWithoutComers_L4] at hf
      have J27 : ∀ (ls : Array Slot) (x2_27 : Int32) (s0_27 : Int32) (s1_27 : Bool), FX3_pointsWithoutComers_J27 (FX3_pointsWithoutComers_L4 n rp co n4) x2_27 s0_27 s1_27 n rp co = some out → lv_has ls 3 [(0, .ref (ad 0)), (2, .int x2_27)] → W p l e RMX3_pointsWithoutComers s m args below meth c s.heap [] 0 0 QQ (F0 m 27 ls [.int (bi s1_27), .int s0_27]) := by
        intro ls x2_27 s0_27 s1_27 hf hl
        unfold FX3_pointsWithoutComers_J27 at hf
        refine lv_iadd hx hb dX3_pointsWithoutComers_27 ?_
        refine lv_topi (fun v_28 e_28 => ?_)
        replace hf := bd_at e_28 hf
        clear e_28
        refine lv_istore_n (lv' := [(1, .int v_28), (0, .ref (ad 0)), (2, .int x2_27)]) hx hb dX3_pointsWithoutComers_28 rfl hl (by decide) rfl (fun ls hl => ?_)
        obtain ⟨v_29, e_29⟩ : ∃ y : Int32, y = x2_27 + 1 := ⟨_, rfl⟩
        replace hf := bd_at e_29 hf
        refine lv_iinc (v := v_29) (lv' := [(2, .int v_29), (1, .int v_28), (0, .ref (ad 0))]) hx hb dX3_pointsWithoutComers_29 hl (k := 2) rfl (by rw [e_29]; rfl) (by decide) rfl (fun ls hl => ?_)
        clear e_29
        refine lv_goto (tgt := 4) hx hb dX3_pointsWithoutComers_32 (by decide) ?_
        exact ih4 ls v_28 v_29 hf (lv_sub hl [2, 1, 0] rfl)
      refine lv_iload_n hx hb dX3_pointsWithoutComers_4 rfl (lv_at hl 2 rfl) ?_
      refine lv_aload_n hx hb dX3_pointsWithoutComers_5 rfl (lv_at hl 0 rfl) ?_
      refine va_get (a := (ad 0)) (ci := 3) (v := .int rp) (C := RX3) (T := TX3) (N := 12) hx hb hts hin_X3 hown hK hR0 0 rfl rfl 0 (by decide) hw_0 (fun _ h => h) rfl dX3_pointsWithoutComers_6 ?_
      refine lv_icmp_ge (tgt := 35) hx hb dX3_pointsWithoutComers_9 (by decide) (fun c_9 => ?_) (fun c_9 => ?_)
      · replace hf := it_p c_9 hf
        refine lv_iload_n hx hb dX3_pointsWithoutComers_35 rfl (lv_at hl 1 rfl) ?_
        obtain rfl := Option.some.inj hf
        rw [← hQe]
        exact W.iret (v := x1_4) hx hb hr (fun t ht hW => ⟨rfl, ht⟩) (fun q h => by cases h) dX3_pointsWithoutComers_36
      · replace hf := it_n c_9 hf
        refine lv_iload_n hx hb dX3_pointsWithoutComers_12 rfl (lv_at hl 1 rfl) ?_
        refine lv_aload_n hx hb dX3_pointsWithoutComers_13 rfl (lv_at hl 0 rfl) ?_
        refine va_get (a := (ad 0)) (ci := 3) (v := .ref (ad 1)) (C := RX3) (T := TX3) (N := 12) hx hb hts hin_X3 hown hK hR0 0 rfl rfl 2 (by decide) hw_1 (fun _ h => h) rfl dX3_pointsWithoutComers_14 ?_
        refine lv_iload_n hx hb dX3_pointsWithoutComers_17 rfl (lv_at hl 2 rfl) ?_
        replace hf := gi_e hf
        obtain ⟨i_18, hf⟩ := hf
        refine va_iald (a := (ad 1)) hx hb hK hR0 1 0 rfl rfl i_18 dX3_pointsWithoutComers_18 ?_
        refine lv_if_ne (tgt := 26) hx hb dX3_pointsWithoutComers_19 (by decide) (fun c_19 => ?_) (fun c_19 => ?_)
        · replace hf := it_n c_19 hf
          refine lv_iconst (v := 0) hx hb dX3_pointsWithoutComers_26 (by decide) ?_
          exact J27 ls x2_4 x1_4 false hf (lv_sub hl [0, 2] rfl)
        · replace hf := it_p c_19 hf
          refine lv_iconst (v := 1) hx hb dX3_pointsWithoutComers_22 (by decide) ?_
          refine lv_goto (tgt := 27) hx hb dX3_pointsWithoutComers_23 (by decide) ?_
          exact J27 ls x2_4 x1_4 true hf (lv_sub hl [0, 2] rfl)
  unfold FX3_pointsWithoutComers at hf
  refine lv_iconst (v := 0) hx hb dX3_pointsWithoutComers_0 (by decide) ?_
  refine lv_istore_n (lv' := [(1, .int 0), (0, .ref (ad 0))]) hx hb dX3_pointsWithoutComers_1 rfl hl (by decide) rfl (fun ls hl => ?_)
  refine lv_iconst (v := 0) hx hb dX3_pointsWithoutComers_2 (by decide) ?_
  refine lv_istore_n (lv' := [(2, .int 0), (1, .int 0), (0, .ref (ad 0))]) hx hb dX3_pointsWithoutComers_3 rfl hl (by decide) rfl (fun ls hl => ?_)
  exact L4 FU ls 0 0 hf (lv_sub hl [2, 1, 0] rfl)
def FX3_stillRings_J27  (k4 : Int32 → Int32 → Option (Int32)) (x2_27 : Int32) (s0_27 : Int32) (s1_27 : Bool) (n : Nat) (rgs : Int32) (mu : Nat → Int32) : Option (Int32) := (bd (s0_27 + (bi s1_27)) (fun v_28 => bd (x2_27 + 1) (fun v_29 => k4 v_28 v_29)))
def FX3_stillRings_L4   (n : Nat) (rgs : Int32) (mu : Nat → Int32) : Nat → Int32 → Int32 → Option (Int32)
  | 0, _, _ => none
  | fuel + 1, x1_4, x2_4 => (if rgs ≤ x2_4 then (some (x1_4)) else (gi x2_4 n (if (mu (Int32.toNatClampNeg x2_4)) = 0 then (FX3_stillRings_J27 (FX3_stillRings_L4 n rgs mu fuel) x2_4 x1_4 true n rgs mu) else (FX3_stillRings_J27 (FX3_stillRings_L4 n rgs mu fuel) x2_4 x1_4 false n rgs mu))))
def FX3_stillRings  (n : Nat) (rgs : Int32) (mu : Nat → Int32)  : Option (Int32) := (FX3_stillRings_L4 n rgs mu FU 0 0)
abbrev RMX3_stillRings : Room := { frames := 0, cells := 0, slots := 0, locals := 0 }
set_option maxHeartbeats 4000000 in
set_option maxRecDepth 100000 in
theorem KX3_stillRings (l : Launch) (D : va_G) (cy : Nat → ClassId) (ad : Nat → Nat) (n : Nat) (rp : Int32) (rgs : Int32) (sv : Option Nat) (mu : Nat → Int32)  (sz : Nat) {out : Int32} (hf : FX3_stillRings n rgs mu = some out) : Met l yX3_stillRings wsX3_stillRings RMX3_stillRings (PW D cy [.ref (ad 0)] sz [] ((wX3_0_5 cy ad n rp rgs sv mu))) (QR (some (.int out))) 0 0 no_A := by
  refine Met.ofW (cc := cX3_stillRings) (maxL := 3) (ret := (some .int)) (by decide +kernel) rfl ?_
  intro p e s m args below meth c s₁ B hml hv
  obtain ⟨hav, hsz, hP, hR0, hK, hN, hD0, hsep⟩ := hv
  have hx := B.exec
  have hb := B.bytes
  have hr := B.returns
  have hts := atoms_spec (ws := wsX3_stillRings) B.pre
  have hown : s.vm.findClass RX3 = some m.cls := findClass_of_methodNamed B.named
  have hlocks := B.notSynchronized
  subst hsz
  have hin_X3 : ∀ w ∈ u_ws RX3 TX3 12, w ∈ wsX3_stillRings := by decide +kernel
  have hw_0 := hts (.fieldLink RX3 49 "ReturnPoints$Roads" "rings" "I") (by decide +kernel)
  have hw_1 := hts (.fieldLink RX3 37 "ReturnPoints$Roads" "multiplier" "[I") (by decide +kernel)
  obtain ⟨ls, hfr, hl⟩ := ent_ok (m := m) (n := 3) (l' := [(0, .ref (ad 0))]) [.ref (ad 0)] hav (Nat.le_of_ble_eq_true rfl) rfl
  rw [hfr]
  generalize hQe : MQ below (QR (some (.int out))) args s 0 0 no_A = QQ
  change W p l e RMX3_stillRings s m args below meth c s.heap [] 0 0 QQ (F0 m 0 ls [])
  have L4 : ∀  (n4 : Nat) (ls : Array Slot) (x1_4 : Int32) (x2_4 : Int32), FX3_stillRings_L4 n rgs mu n4 x1_4 x2_4 = some out → lv_has ls 3 [(0, .ref (ad 0)), (1, .int x1_4), (2, .int x2_4)] → W p l e RMX3_stillRings s m args below meth c s.heap [] 0 0 QQ (F0 m 4 ls []) := by
    intro  n4
    induction n4 with
    | zero => intro ls x1_4 x2_4 hf; simp [FX3_stillRings_L4] at hf
    | succ n4 ih4 =>
      intro ls x1_4 x2_4 hf hl
      rw [FX3_stillRings_L4] at hf
      have J27 : ∀ (ls : Array Slot) (x2_27 : Int32) (s0_27 : Int32) (s1_27 : Bool), FX3_stillRings_J27 (FX3_stillRings_L4 n rgs mu n4) x2_27 s0_27 s1_27 n rgs mu = some out → lv_has ls 3 [(0, .ref (ad 0)), (2, .int x2_27)] → W p l e RMX3_stillRings s m args below meth c s.heap [] 0 0 QQ (F0 m 27 ls [.int (bi s1_27), .int s0_27]) := by
        intro ls x2_27 s0_27 s1_27 hf hl
        unfold FX3_stillRings_J27 at hf
        refine lv_iadd hx hb dX3_stillRings_27 ?_
        refine lv_topi (fun v_28 e_28 => ?_)
        replace hf := bd_at e_28 hf
        clear e_28
        refine lv_istore_n (lv' := [(1, .int v_28), (0, .ref (ad 0)), (2, .int x2_27)]) hx hb dX3_stillRings_28 rfl hl (by decide) rfl (fun ls hl => ?_)
        obtain ⟨v_29, e_29⟩ : ∃ y : Int32, y = x2_27 + 1 := ⟨_, rfl⟩
        replace hf := bd_at e_29 hf
        refine lv_iinc (v := v_29) (lv' := [(2, .int v_29), (1, .int v_28), (0, .ref (ad 0))]) hx hb dX3_stillRings_29 hl (k := 2) rfl (by rw [e_29]; rfl) (by decide) rfl (fun ls hl => ?_)
        clear e_29
        refine lv_goto (tgt := 4) hx hb dX3_stillRings_32 (by decide) ?_
        exact ih4 ls v_28 v_29 hf (lv_sub hl [2, 1, 0] rfl)
      refine lv_iload_n hx hb dX3_stillRings_4 rfl (lv_at hl 2 rfl) ?_
      refine lv_aload_n hx hb dX3_stillRings_5 rfl (lv_at hl 0 rfl) ?_
      refine va_get (a := (ad 0)) (ci := 3) (v := .int rgs) (C := RX3) (T := TX3) (N := 12) hx hb hts hin_X3 hown hK hR0 0 rfl rfl 10 (by decide) hw_0 (fun _ h => h) rfl dX3_stillRings_6 ?_
      refine lv_icmp_ge (tgt := 35) hx hb dX3_stillRings_9 (by decide) (fun c_9 => ?_) (fun c_9 => ?_)
      · replace hf := it_p c_9 hf
        refine lv_iload_n hx hb dX3_stillRings_35 rfl (lv_at hl 1 rfl) ?_
        obtain rfl := Option.some.inj hf
        rw [← hQe]
        exact W.iret (v := x1_4) hx hb hr (fun t ht hW => ⟨rfl, ht⟩) (fun q h => by cases h) dX3_stillRings_36
      · replace hf := it_n c_9 hf
        refine lv_iload_n hx hb dX3_stillRings_12 rfl (lv_at hl 1 rfl) ?_
        refine lv_aload_n hx hb dX3_stillRings_13 rfl (lv_at hl 0 rfl) ?_
        refine va_get (a := (ad 0)) (ci := 3) (v := .ref (ad 5)) (C := RX3) (T := TX3) (N := 12) hx hb hts hin_X3 hown hK hR0 0 rfl rfl 6 (by decide) hw_1 (fun _ h => h) rfl dX3_stillRings_14 ?_
        refine lv_iload_n hx hb dX3_stillRings_17 rfl (lv_at hl 2 rfl) ?_
        replace hf := gi_e hf
        obtain ⟨i_18, hf⟩ := hf
        refine va_iald (a := (ad 5)) hx hb hK hR0 1 0 rfl rfl i_18 dX3_stillRings_18 ?_
        refine lv_if_ne (tgt := 26) hx hb dX3_stillRings_19 (by decide) (fun c_19 => ?_) (fun c_19 => ?_)
        · replace hf := it_n c_19 hf
          refine lv_iconst (v := 0) hx hb dX3_stillRings_26 (by decide) ?_
          exact J27 ls x2_4 x1_4 false hf (lv_sub hl [0, 2] rfl)
        · replace hf := it_p c_19 hf
          refine lv_iconst (v := 1) hx hb dX3_stillRings_22 (by decide) ?_
          refine lv_goto (tgt := 27) hx hb dX3_stillRings_23 (by decide) ?_
          exact J27 ls x2_4 x1_4 true hf (lv_sub hl [0, 2] rfl)
  unfold FX3_stillRings at hf
  refine lv_iconst (v := 0) hx hb dX3_stillRings_0 (by decide) ?_
  refine lv_istore_n (lv' := [(1, .int 0), (0, .ref (ad 0))]) hx hb dX3_stillRings_1 rfl hl (by decide) rfl (fun ls hl => ?_)
  refine lv_iconst (v := 0) hx hb dX3_stillRings_2 (by decide) ?_
  refine lv_istore_n (lv' := [(2, .int 0), (1, .int 0), (0, .ref (ad 0))]) hx hb dX3_stillRings_3 rfl hl (by decide) rfl (fun ls hl => ?_)
  exact L4 FU ls 0 0 hf (lv_sub hl [2, 1, 0] rfl)
def FX3_ofAll  (n : Nat) (rp : Int32) (rgs : Int32) (co : Nat → Int32) (le : Nat → Int32) (mu : Nat → Int32) (tl : Nat → Int32) (x1 : Int32) : Option (Int32) := (if x1 = 0 then (some (rgs)) else if x1 = 1 then (ob (FX3_pointsOnRings n rgs le) (fun u_42 => some (u_42))) else if x1 = 2 then (ob (FX3_longestRing n rgs le) (fun u_47 => some (u_47))) else if x1 = 3 then (ob (FX3_longestTail n rp tl) (fun u_52 => some (u_52))) else if x1 = 4 then (ob (FX3_pointsWithoutComers n rp co) (fun u_57 => some (u_57))) else (ob (FX3_stillRings n rgs mu) (fun u_62 => some (u_62))))
abbrev RMX3_ofAll : Room := { frames := 2, cells := 0, slots := 0, locals := 46 }
set_option maxHeartbeats 4000000 in
set_option maxRecDepth 100000 in
theorem KX3_ofAll (l : Launch) (D : va_G) (cy : Nat → ClassId) (ad : Nat → Nat) (n : Nat) (rp : Int32) (rgs : Int32) (sv : Option Nat) (co : Nat → Int32) (le : Nat → Int32) (mu : Nat → Int32) (osz : Int32) (tl : Nat → Int32) (x1 : Int32) (sz : Nat) {out : Int32} (hf : FX3_ofAll n rp rgs co le mu tl x1 = some out) : Met l yX3_ofAll wsX3_ofAll RMX3_ofAll (PW D cy [.ref (ad 0), .int x1] sz [] ((wX3_0_1_3_5_9_11 cy ad n rp rgs sv co le mu osz tl))) (QR (some (.int out))) 0 0 no_A := by
  refine Met.ofW (cc := cX3_ofAll) (maxL := 2) (ret := (some .int)) (by decide +kernel) rfl ?_
  intro p e s m args below meth c s₁ B hml hv
  obtain ⟨hav, hsz, hP, hR0, hK, hN, hD0, hsep⟩ := hv
  have hx := B.exec
  have hb := B.bytes
  have hr := B.returns
  have hts := atoms_spec (ws := wsX3_ofAll) B.pre
  have hown : s.vm.findClass RX3 = some m.cls := findClass_of_methodNamed B.named
  have hlocks := B.notSynchronized
  subst hsz
  have hin_X3 : ∀ w ∈ u_ws RX3 TX3 12, w ∈ wsX3_ofAll := by decide +kernel
  have hw_0 := hts (.fieldLink RX3 49 "ReturnPoints$Roads" "rings" "I") (by decide +kernel)
  obtain ⟨ls, hfr, hl⟩ := ent_ok (m := m) (n := 2) (l' := [(0, .ref (ad 0)), (1, .int x1)]) [.ref (ad 0), .int x1] hav (Nat.le_of_ble_eq_true rfl) rfl
  rw [hfr]
  generalize hQe : MQ below (QR (some (.int out))) args s 0 0 no_A = QQ
  change W p l e RMX3_ofAll s m args below meth c s.heap [] 0 0 QQ (F0 m 0 ls [])
  unfold FX3_ofAll at hf
  refine lv_iload_n hx hb dX3_ofAll_0 rfl (lv_at hl 1 rfl) ?_
  by_cases c_1_0 : x1 = 0
  · replace hf := it_p c_1_0 hf
    refine lv_tableIn (tgt := 36) (off := 35) hx hb dX3_ofAll_1 (by rw [c_1_0]; decide) (by rw [c_1_0]; decide) (by rw [c_1_0]; rfl) (by decide) ?_
    refine lv_aload_n hx hb dX3_ofAll_36 rfl (lv_at hl 0 rfl) ?_
    refine va_get (a := (ad 0)) (ci := 3) (v := .int rgs) (C := RX3) (T := TX3) (N := 12) hx hb hts hin_X3 hown hK hR0 0 rfl rfl 10 (by decide) hw_0 (fun _ h => h) rfl dX3_ofAll_37 ?_
    obtain rfl := Option.some.inj hf
    rw [← hQe]
    exact W.iret (v := rgs) hx hb hr (fun t ht hW => ⟨rfl, ht⟩) (fun q h => by cases h) dX3_ofAll_40
  replace hf := it_n c_1_0 hf
  by_cases c_1_1 : x1 = 1
  · replace hf := it_p c_1_1 hf
    refine lv_tableIn (tgt := 41) (off := 40) hx hb dX3_ofAll_1 (by rw [c_1_1]; decide) (by rw [c_1_1]; decide) (by rw [c_1_1]; rfl) (by decide) ?_
    refine lv_aload_n hx hb dX3_ofAll_41 rfl (lv_at hl 0 rfl) ?_
    replace hf := ob_e hf
    obtain ⟨u_42, hu_42, hf⟩ := hf
    refine ivR (As := []) (rest := []) (st1 := [.int u_42]) ⟨hx, hb, hml, hown, hts⟩ hK hN (KX3_pointsOnRings l D cy ad n rp rgs sv le s.heap.size hu_42) (cwV 0 hts gX3_ofAll_X3_pointsOnRings rfl rfl rfl (by decide +kernel) ⟨Nat.le_of_ble_eq_true rfl, Nat.le_of_ble_eq_true rfl⟩) (va_recv hK hR0 (ci := 3) (q0 := 0) rfl rfl) (P_pl (wc := (wX3_0_3 cy ad n rp rgs sv le)) (is := [0, 2]) hR0 rfl) rfl hl.1 rfl (Nat.le_of_ble_eq_true rfl) rfl dX3_ofAll_42 ⟨Nat.zero_le _, Nat.zero_le _⟩ ?_
    obtain rfl := Option.some.inj hf
    rw [← hQe]
    exact W.iret (v := u_42) hx hb hr (fun t ht hW => ⟨rfl, ht⟩) (fun q h => by cases h) dX3_ofAll_45
  replace hf := it_n c_1_1 hf
  by_cases c_1_2 : x1 = 2
  · replace hf := it_p c_1_2 hf
    refine lv_tableIn (tgt := 46) (off := 45) hx hb dX3_ofAll_1 (by rw [c_1_2]; decide) (by rw [c_1_2]; decide) (by rw [c_1_2]; rfl) (by decide) ?_
    refine lv_aload_n hx hb dX3_ofAll_46 rfl (lv_at hl 0 rfl) ?_
    replace hf := ob_e hf
    obtain ⟨u_47, hu_47, hf⟩ := hf
    refine ivR (As := []) (rest := []) (st1 := [.int u_47]) ⟨hx, hb, hml, hown, hts⟩ hK hN (KX3_longestRing l D cy ad n rp rgs sv le s.heap.size hu_47) (cwV 0 hts gX3_ofAll_X3_longestRing rfl rfl rfl (by decide +kernel) ⟨Nat.le_of_ble_eq_true rfl, Nat.le_of_ble_eq_true rfl⟩) (va_recv hK hR0 (ci := 3) (q0 := 0) rfl rfl) (P_pl (wc := (wX3_0_3 cy ad n rp rgs sv le)) (is := [0, 2]) hR0 rfl) rfl hl.1 rfl (Nat.le_of_ble_eq_true rfl) rfl dX3_ofAll_47 ⟨Nat.zero_le _, Nat.zero_le _⟩ ?_
    obtain rfl := Option.some.inj hf
    rw [← hQe]
    exact W.iret (v := u_47) hx hb hr (fun t ht hW => ⟨rfl, ht⟩) (fun q h => by cases h) dX3_ofAll_50
  replace hf := it_n c_1_2 hf
  by_cases c_1_3 : x1 = 3
  · replace hf := it_p c_1_3 hf
    refine lv_tableIn (tgt := 51) (off := 50) hx hb dX3_ofAll_1 (by rw [c_1_3]; decide) (by rw [c_1_3]; decide) (by rw [c_1_3]; rfl) (by decide) ?_
    refine lv_aload_n hx hb dX3_ofAll_51 rfl (lv_at hl 0 rfl) ?_
    replace hf := ob_e hf
    obtain ⟨u_52, hu_52, hf⟩ := hf
    refine ivR (As := []) (rest := []) (st1 := [.int u_52]) ⟨hx, hb, hml, hown, hts⟩ hK hN (KX3_longestTail l D cy ad n rp rgs sv osz tl s.heap.size hu_52) (cwV 0 hts gX3_ofAll_X3_longestTail rfl rfl rfl (by decide +kernel) ⟨Nat.le_of_ble_eq_true rfl, Nat.le_of_ble_eq_true rfl⟩) (va_recv hK hR0 (ci := 3) (q0 := 0) rfl rfl) (P_pl (wc := (wX3_0_9_11 cy ad n rp rgs sv osz tl)) (is := [0, 4, 5]) hR0 rfl) rfl hl.1 rfl (Nat.le_of_ble_eq_true rfl) rfl dX3_ofAll_52 ⟨Nat.zero_le _, Nat.zero_le _⟩ ?_
    obtain rfl := Option.some.inj hf
    rw [← hQe]
    exact W.iret (v := u_52) hx hb hr (fun t ht hW => ⟨rfl, ht⟩) (fun q h => by cases h) dX3_ofAll_55
  replace hf := it_n c_1_3 hf
  by_cases c_1_4 : x1 = 4
  · replace hf := it_p c_1_4 hf
    refine lv_tableIn (tgt := 56) (off := 55) hx hb dX3_ofAll_1 (by rw [c_1_4]; decide) (by rw [c_1_4]; decide) (by rw [c_1_4]; rfl) (by decide) ?_
    refine lv_aload_n hx hb dX3_ofAll_56 rfl (lv_at hl 0 rfl) ?_
    replace hf := ob_e hf
    obtain ⟨u_57, hu_57, hf⟩ := hf
    refine ivR (As := []) (rest := []) (st1 := [.int u_57]) ⟨hx, hb, hml, hown, hts⟩ hK hN (KX3_pointsWithoutComers l D cy ad n rp rgs sv co s.heap.size hu_57) (cwV 0 hts gX3_ofAll_X3_pointsWithoutComers rfl rfl rfl (by decide +kernel) ⟨Nat.le_of_ble_eq_true rfl, Nat.le_of_ble_eq_true rfl⟩) (va_recv hK hR0 (ci := 3) (q0 := 0) rfl rfl) (P_pl (wc := (wX3_0_1 cy ad n rp rgs sv co)) (is := [0, 1]) hR0 rfl) rfl hl.1 rfl (Nat.le_of_ble_eq_true rfl) rfl dX3_ofAll_57 ⟨Nat.zero_le _, Nat.zero_le _⟩ ?_
    obtain rfl := Option.some.inj hf
    rw [← hQe]
    exact W.iret (v := u_57) hx hb hr (fun t ht hW => ⟨rfl, ht⟩) (fun q h => by cases h) dX3_ofAll_60
  replace hf := it_n c_1_4 hf
  have hsw : (x1 : Int32).toInt < 0 ∨ 4 < (x1 : Int32).toInt := by
    have h0 : (x1 : Int32).toInt ≠ 0 := ne_toInt c_1_0
    have h1 : (x1 : Int32).toInt ≠ 1 := ne_toInt c_1_1
    have h2 : (x1 : Int32).toInt ≠ 2 := ne_toInt c_1_2
    have h3 : (x1 : Int32).toInt ≠ 3 := ne_toInt c_1_3
    have h4 : (x1 : Int32).toInt ≠ 4 := ne_toInt c_1_4
    omega
  refine lv_tableOut (tgt := 61) hx hb dX3_ofAll_1 hsw (by decide) ?_
  refine lv_aload_n hx hb dX3_ofAll_61 rfl (lv_at hl 0 rfl) ?_
  replace hf := ob_e hf
  obtain ⟨u_62, hu_62, hf⟩ := hf
  refine ivR (As := []) (rest := []) (st1 := [.int u_62]) ⟨hx, hb, hml, hown, hts⟩ hK hN (KX3_stillRings l D cy ad n rp rgs sv mu s.heap.size hu_62) (cwV 0 hts gX3_ofAll_X3_stillRings rfl rfl rfl (by decide +kernel) ⟨Nat.le_of_ble_eq_true rfl, Nat.le_of_ble_eq_true rfl⟩) (va_recv hK hR0 (ci := 3) (q0 := 0) rfl rfl) (P_pl (wc := (wX3_0_5 cy ad n rp rgs sv mu)) (is := [0, 3]) hR0 rfl) rfl hl.1 rfl (Nat.le_of_ble_eq_true rfl) rfl dX3_ofAll_62 ⟨Nat.zero_le _, Nat.zero_le _⟩ ?_
  obtain rfl := Option.some.inj hf
  rw [← hQe]
  exact W.iret (v := u_62) hx hb hr (fun t ht hW => ⟨rfl, ht⟩) (fun q h => by cases h) dX3_ofAll_65
def FX3_tally_J58  (k3 : Int32 → (Nat → Int32) → Option ((Nat → Int32))) (x2 : Int32) (x3 : Int32) (x4_58 : Int32) (n : Nat) (bt_58 : Nat → Int32) (q_n : Nat) (q_osz : Int32) (q_tl : Nat → Int32) (q_pe : Nat → Int32) : Option ((Nat → Int32)) := (bd (x4_58 + 1) (fun v_58 => k3 v_58 bt_58))
def FX3_tally_L3   (x2 : Int32) (x3 : Int32) (n : Nat) (q_n : Nat) (q_osz : Int32) (q_tl : Nat → Int32) (q_pe : Nat → Int32) : Nat → Int32 → (Nat → Int32) → Option ((Nat → Int32))
  | 0, _, _ => none
  | fuel + 1, x4_3, bt_3 => (if q_osz ≤ x4_3 then (some (bt_3)) else (gi x4_3 q_n (bd (q_tl (Int32.toNatClampNeg x4_3)) (fun v_19 => gi x4_3 q_n (if (q_pe (Int32.toNatClampNeg x4_3)) = x2 then (if v_19 < 0 then FX3_tally_J58 (FX3_tally_L3 x2 x3 n q_n q_osz q_tl q_pe fuel) x2 x3 x4_3 n bt_3 q_n q_osz q_tl q_pe else (if (Int32.ofNat n) ≤ v_19 then FX3_tally_J58 (FX3_tally_L3 x2 x3 n q_n q_osz q_tl q_pe fuel) x2 x3 x4_3 n bt_3 q_n q_osz q_tl q_pe else (gi v_19 n (gi v_19 n (FX3_tally_J58 (FX3_tally_L3 x2 x3 n q_n q_osz q_tl q_pe fuel) x2 x3 x4_3 n (upd bt_3 (Int32.toNatClampNeg v_19) ((bt_3 (Int32.toNatClampNeg v_19)) + x3)) q_n q_osz q_tl q_pe))))) else FX3_tally_J58 (FX3_tally_L3 x2 x3 n q_n q_osz q_tl q_pe fuel) x2 x3 x4_3 n bt_3 q_n q_osz q_tl q_pe)))))
def FX3_tally  (n : Nat) (bt : Nat → Int32) (q_n : Nat) (q_osz : Int32) (q_tl : Nat → Int32) (q_pe : Nat → Int32) (x2 : Int32) (x3 : Int32) : Option ((Nat → Int32)) := (FX3_tally_L3 x2 x3 n q_n q_osz q_tl q_pe FU 0 bt)
abbrev RMX3_tally : Room := { frames := 0, cells := 0, slots := 0, locals := 0 }
set_option maxHeartbeats 4000000 in
set_option maxRecDepth 100000 in
theorem KX3_tally (l : Launch) (D : va_G) (cy : Nat → ClassId) (ad : Nat → Nat) (ao : Nat → Nat) (n : Nat) (rp : Int32) (rgs : Int32) (sv : Option Nat) (bt : Nat → Int32) (q_n : Nat) (q_osz : Int32) (q_tl : Nat → Int32) (q_pe : Nat → Int32) (x2 : Int32) (x3 : Int32) (sz : Nat) {out : (Nat → Int32)} (hf : FX3_tally n bt q_n q_osz q_tl q_pe x2 x3 = some out) : Met l yX3_tally wsX3_tally RMX3_tally (PW D cy [.ref (ad 0), .ref (ao 0), .int x2, .int x3] sz ((wX3_0_7 cy ad n rp rgs sv bt)) ((wX1_0_2_3 cy ao q_n q_osz q_tl q_pe))) (QW D none ((wX3_0_7 cy ad n rp rgs sv out)) (va_A ((wX3_0_7 cy ad n rp rgs sv bt)) sz)) 0 0 (va_A ((wX3_0_7 cy ad n rp rgs sv bt)) sz) := by
  refine Met.ofW (cc := cX3_tally) (maxL := 6) (ret := none) (by decide +kernel) rfl ?_
  intro p e s m args below meth c s₁ B hml hv
  obtain ⟨hav, hsz, hP, hR0, hK, hN, hD0, hsep⟩ := hv
  have hx := B.exec
  have hb := B.bytes
  have hr := B.returns
  have hts := atoms_spec (ws := wsX3_tally) B.pre
  have hown : s.vm.findClass RX3 = some m.cls := findClass_of_methodNamed B.named
  have hlocks := B.notSynchronized
  subst hsz
  have hin_X1 : ∀ w ∈ u_ws RX1 TX1 6, w ∈ wsX3_tally := by decide +kernel
  have hin_X3 : ∀ w ∈ u_ws RX3 TX3 12, w ∈ wsX3_tally := by decide +kernel
  have hw_0 := hts (.fieldLink RX3 135 "ReturnPoints$Orbits" "size" "I") (by decide +kernel)
  have hw_1 := hts (.fieldLink RX3 89 "ReturnPoints$Orbits" "tail" "[I") (by decide +kernel)
  have hw_2 := hts (.fieldLink RX3 96 "ReturnPoints$Orbits" "period" "[I") (by decide +kernel)
  have hw_3 := hts (.fieldLink RX3 43 "ReturnPoints$Roads" "byTail" "[I") (by decide +kernel)
  have hD := hD0.self (sz := s.heap.size)
  have hnA := roA hsep hR0
  generalize hAe : va_A ((wX3_0_7 cy ad n rp rgs sv bt)) s.heap.size = A at hD hnA ⊢
  have hA : ∀ q : Nat, s.heap.size ≤ q → A q := fun q h => by rw [← hAe]; exact Or.inr h
  have hS : va_S A s.heap s.heap [] := va_S.rf
  obtain ⟨ls, hfr, hl⟩ := ent_ok (m := m) (n := 6) (l' := [(0, .ref (ad 0)), (1, .ref (ao 0)), (2, .int x2), (3, .int x3)]) [.ref (ad 0), .ref (ao 0), .int x2, .int x3] hav (Nat.le_of_ble_eq_true rfl) rfl
  rw [hfr]
  generalize hQe : MQ below (QW D none ((wX3_0_7 cy ad n rp rgs sv out)) A) args s 0 0 A = QQ
  change W p l e RMX3_tally s m args below meth c s.heap [] 0 0 QQ (F0 m 0 ls [])
  have hP : va_P D vwCl ((wX3_0_7 cy ad n rp rgs sv bt)) s.heap := hP
  have hD : va_D A ((wX3_0_7 cy ad n rp rgs sv bt)) := hD
  suffices h00 : ∀ (H : Heap) (locs : List Loc), va_P D vwCl ((wX3_0_7 cy ad n rp rgs sv bt)) H → va_S A s.heap H locs → W p l e RMX3_tally s m args below meth c H locs 0 0 QQ (F0 m 0 ls []) from h00 _ _ hP hS
  clear hP hS
  intro H locs hP hS
  have L3 : ∀  (n3 : Nat) (H : Heap) (locs : List Loc) (ls : Array Slot) (x4_3 : Int32) (bt_3 : Nat → Int32), FX3_tally_L3 x2 x3 n q_n q_osz q_tl q_pe n3 x4_3 bt_3 = some out → va_P D vwCl ((wX3_0_7 cy ad n rp rgs sv bt_3)) H → va_D A ((wX3_0_7 cy ad n rp rgs sv bt_3)) → va_S A s.heap H locs → lv_has ls 6 [(0, .ref (ad 0)), (1, .ref (ao 0)), (2, .int x2), (3, .int x3), (4, .int x4_3)] → W p l e RMX3_tally s m args below meth c H locs 0 0 QQ (F0 m 3 ls []) := by
    intro  n3
    induction n3 with
    | zero => intro H locs ls x4_3 bt_3 hf; simp [FX3_tally_L3] at hf
    | succ n3 ih3 =>
      intro H locs ls x4_3 bt_3 hf hP hD hS hl
      rw [FX3_tally_L3] at hf
      have J58 : ∀ (H : Heap) (locs : List Loc) (ls : Array Slot) (x4_58 : Int32) (bt_58 : Nat → Int32), FX3_tally_J58 (FX3_tally_L3 x2 x3 n q_n q_osz q_tl q_pe n3) x2 x3 x4_58 n bt_58 q_n q_osz q_tl q_pe = some out → va_P D vwCl ((wX3_0_7 cy ad n rp rgs sv bt_58)) H → va_D A ((wX3_0_7 cy ad n rp rgs sv bt_58)) → va_S A s.heap H locs → lv_has ls 6 [(0, .ref (ad 0)), (1, .ref (ao 0)), (2, .int x2), (3, .int x3), (4, .int x4_58)] → W p l e RMX3_tally s m args below meth c H locs 0 0 QQ (F0 m 58 ls []) := by
        intro H locs ls x4_58 bt_58 hf hP hD hS hl
        unfold FX3_tally_J58 at hf
        obtain ⟨v_58, e_58⟩ : ∃ y : Int32, y = x4_58 + 1 := ⟨_, rfl⟩
        replace hf := bd_at e_58 hf
        refine lv_iinc (v := v_58) (lv' := [(4, .int v_58), (0, .ref (ad 0)), (1, .ref (ao 0)), (2, .int x2), (3, .int x3)]) hx hb dX3_tally_58 hl (k := 4) rfl (by rw [e_58]; rfl) (by decide) rfl (fun ls hl => ?_)
        clear e_58
        refine lv_goto (tgt := 3) hx hb dX3_tally_61 (by decide) ?_
        exact ih3 H locs ls v_58 bt_58 hf hP hD hS (lv_sub hl [1, 2, 3, 4, 0] rfl)
      refine lv_iload hx hb dX3_tally_3 (lv_at hl 4 rfl) ?_
      refine lv_aload_n hx hb dX3_tally_5 rfl (lv_at hl 1 rfl) ?_
      have hR := roN hR0 hnA hS
      refine va_get (a := (ao 0)) (ci := 1) (v := .int q_osz) (C := RX1) (T := TX1) (N := 6) hx hb hts hin_X1 hown hK hR 0 rfl rfl 0 (by decide) hw_0 (fun _ h => h) rfl dX3_tally_6 ?_
      refine lv_icmp_ge (tgt := 64) hx hb dX3_tally_9 (by decide) (fun c_9 => ?_) (fun c_9 => ?_)
      · replace hf := it_p c_9 hf
        obtain rfl := Option.some.inj hf
        rw [← hQe]
        exact W.vret hx hb hr (fun t ht hW => ⟨rfl, by rw [ht]; exact hP, hS.F ht⟩) hS.2.2 dX3_tally_64
      · replace hf := it_n c_9 hf
        refine lv_aload_n hx hb dX3_tally_12 rfl (lv_at hl 1 rfl) ?_
        have hR := roN hR0 hnA hS
        refine va_get (a := (ao 0)) (ci := 1) (v := .ref (ao 2)) (C := RX1) (T := TX1) (N := 6) hx hb hts hin_X1 hown hK hR 0 rfl rfl 2 (by decide) hw_1 (fun _ h => h) rfl dX3_tally_13 ?_
        refine lv_iload hx hb dX3_tally_16 (lv_at hl 4 rfl) ?_
        replace hf := gi_e hf
        obtain ⟨i_18, hf⟩ := hf
        have hR := roN hR0 hnA hS
        refine va_iald (a := (ao 2)) hx hb hK hR 1 0 rfl rfl i_18 dX3_tally_18 ?_
        refine lv_topi (fun v_19 e_19 => ?_)
        replace hf := bd_at e_19 hf
        clear e_19
        refine lv_istore (lv' := [(5, .int v_19), (0, .ref (ad 0)), (1, .ref (ao 0)), (2, .int x2), (3, .int x3), (4, .int x4_3)]) hx hb dX3_tally_19 hl (by decide) rfl (fun ls hl => ?_)
        refine lv_aload_n hx hb dX3_tally_21 rfl (lv_at hl 2 rfl) ?_
        have hR := roN hR0 hnA hS
        refine va_get (a := (ao 0)) (ci := 1) (v := .ref (ao 3)) (C := RX1) (T := TX1) (N := 6) hx hb hts hin_X1 hown hK hR 0 rfl rfl 3 (by decide) hw_2 (fun _ h => h) rfl dX3_tally_22 ?_
        refine lv_iload hx hb dX3_tally_25 (lv_at hl 5 rfl) ?_
        replace hf := gi_e hf
        obtain ⟨i_27, hf⟩ := hf
        have hR := roN hR0 hnA hS
        refine va_iald (a := (ao 3)) hx hb hK hR 2 0 rfl rfl i_27 dX3_tally_27 ?_
        refine lv_iload_n hx hb dX3_tally_28 rfl (lv_at hl 3 rfl) ?_
        refine lv_icmp_ne (tgt := 58) hx hb dX3_tally_29 (by decide) (fun c_29 => ?_) (fun c_29 => ?_)
        · replace hf := it_n c_29 hf
          exact J58 H locs ls x4_3 bt_3 hf hP hD hS (lv_sub hl [1, 2, 3, 4, 5] rfl)
        · replace hf := it_p c_29 hf
          refine lv_iload hx hb dX3_tally_32 (lv_at hl 0 rfl) ?_
          refine lv_if_lt (tgt := 58) hx hb dX3_tally_34 (by decide) (fun c_34 => ?_) (fun c_34 => ?_)
          · replace hf := it_p c_34 hf
            exact J58 H locs ls x4_3 bt_3 hf hP hD hS (lv_sub hl [1, 2, 3, 4, 5] rfl)
          · replace hf := it_n c_34 hf
            refine lv_iload hx hb dX3_tally_37 (lv_at hl 0 rfl) ?_
            refine lv_aload_n hx hb dX3_tally_39 rfl (lv_at hl 1 rfl) ?_
            refine va_get (a := (ad 0)) (ci := 3) (v := .ref (ad 7)) (C := RX3) (T := TX3) (N := 12) hx hb hts hin_X3 hown hK hP 0 rfl rfl 8 (by decide) hw_3 (fun _ h => h) rfl dX3_tally_40 ?_
            refine va_alen (a := (ad 7)) (v := (Int32.ofNat n)) hx hb hK hP 1 0 rfl rfl rfl dX3_tally_43 ?_
            refine lv_icmp_ge (tgt := 58) hx hb dX3_tally_44 (by decide) (fun c_44 => ?_) (fun c_44 => ?_)
            · replace hf := it_p c_44 hf
              exact J58 H locs ls x4_3 bt_3 hf hP hD hS (lv_sub hl [1, 2, 3, 4, 5] rfl)
            · replace hf := it_n c_44 hf
              refine lv_aload_n hx hb dX3_tally_47 rfl (lv_at hl 1 rfl) ?_
              refine va_get (a := (ad 0)) (ci := 3) (v := .ref (ad 7)) (C := RX3) (T := TX3) (N := 12) hx hb hts hin_X3 hown hK hP 0 rfl rfl 8 (by decide) hw_3 (fun _ h => h) rfl dX3_tally_48 ?_
              refine lv_iload hx hb dX3_tally_51 (lv_at hl 0 rfl) ?_
              refine lv_dup2_11 hx hb dX3_tally_53 rfl rfl ?_
              replace hf := gi_e hf
              obtain ⟨i_54, hf⟩ := hf
              refine va_iald (a := (ad 7)) hx hb hK hP 1 0 rfl rfl i_54 dX3_tally_54 ?_
              refine lv_iload_n hx hb dX3_tally_55 rfl (lv_at hl 4 rfl) ?_
              refine lv_iadd hx hb dX3_tally_56 ?_
              replace hf := gi_e hf
              obtain ⟨i_57, hf⟩ := hf
              refine va_iast (a := (ad 7)) hx hb hK hP hD hS 1 0 rfl rfl i_57 dX3_tally_57 (fun H locs hP hD hS => ?_)
              have hP : va_P D vwCl ((wX3_0_7 cy ad n rp rgs sv (upd bt_3 (Int32.toNatClampNeg v_19) ((bt_3 (Int32.toNatClampNeg v_19)) + x3)))) H := hP
              have hD : va_D A ((wX3_0_7 cy ad n rp rgs sv (upd bt_3 (Int32.toNatClampNeg v_19) ((bt_3 (Int32.toNatClampNeg v_19)) + x3)))) := hD
              exact J58 H locs ls x4_3 (upd bt_3 (Int32.toNatClampNeg v_19) ((bt_3 (Int32.toNatClampNeg v_19)) + x3)) hf hP hD hS (lv_sub hl [1, 2, 3, 4, 5] rfl)
  unfold FX3_tally at hf
  refine lv_iconst (v := 0) hx hb dX3_tally_0 (by decide) ?_
  refine lv_istore (lv' := [(4, .int 0), (0, .ref (ad 0)), (1, .ref (ao 0)), (2, .int x2), (3, .int x3)]) hx hb dX3_tally_1 hl (by decide) rfl (fun ls hl => ?_)
  exact L3 FU H locs ls 0 bt hf hP hD hS (lv_sub hl [1, 2, 3, 4, 0] rfl)
def FX3_hasTailsOf_L37   (x4_37 : Int32) (n : Nat) (bt_37 : Nat → Int32) : Nat → Int32 → Option (Bool × (Nat → Int32))
  | 0, _ => none
  | fuel + 1, x5_37 => (if x4_37 ≤ x5_37 then (some (true, bt_37)) else (gi x5_37 n (bd (bt_37 (Int32.toNatClampNeg x5_37)) (fun v_48 => if v_48 = 0 then (bd (x5_37 + 1) (fun v_57 => (FX3_hasTailsOf_L37 x4_37 n bt_37 fuel) v_57)) else (some (false, bt_37))))))
def FX3_hasTailsOf  (n : Nat) (bt : Nat → Int32) (osz : Int32) (tl : Nat → Int32) (pe : Nat → Int32) (q_n : Nat) (q_osz : Int32) (q_tl : Nat → Int32) (q_pe : Nat → Int32) (x2 : Int32) : Option (Bool × (Nat → Int32)) := (ob (FJ7_fill_53178 n bt 0) (fun u_5 => ob (FX3_tally n u_5 n osz tl pe x2 1) (fun u_15 => ob (FX3_tally n u_15 q_n q_osz q_tl q_pe x2 (-1)) (fun u_22 => bd (Int32.ofNat n) (fun v_32 => FX3_hasTailsOf_L37 v_32 n u_22 FU 0)))))
abbrev RMX3_hasTailsOf : Room := { frames := 1, cells := 0, slots := 0, locals := 25 }
set_option maxHeartbeats 4000000 in
set_option maxRecDepth 100000 in
theorem KX3_hasTailsOf (l : Launch) (D : va_G) (cy : Nat → ClassId) (ad : Nat → Nat) (ao : Nat → Nat) (n : Nat) (rp : Int32) (rgs : Int32) (sv : Option Nat) (bt : Nat → Int32) (osz : Int32) (tl : Nat → Int32) (pe : Nat → Int32) (q_n : Nat) (q_osz : Int32) (q_tl : Nat → Int32) (q_pe : Nat → Int32) (x2 : Int32) (sz : Nat) {out : Bool × (Nat → Int32)} (hf : FX3_hasTailsOf n bt osz tl pe q_n q_osz q_tl q_pe x2 = some out) : Met l yX3_hasTailsOf wsX3_hasTailsOf RMX3_hasTailsOf (PW D cy [.ref (ad 0), .ref (ao 0), .int x2] sz ((wX3_0_7_9_11_12 cy ad n rp rgs sv bt osz tl pe)) ((wX1_0_2_3 cy ao q_n q_osz q_tl q_pe))) (QW D (some (.int (bi out.1))) ((wX3_0_7_9_11_12 cy ad n rp rgs sv out.2 osz tl pe)) (va_A ((wX3_0_7_9_11_12 cy ad n rp rgs sv bt osz tl pe)) sz)) 0 0 (va_A ((wX3_0_7_9_11_12 cy ad n rp rgs sv bt osz tl pe)) sz) := by
  refine Met.ofW (cc := cX3_hasTailsOf) (maxL := 7) (ret := (some .boolean)) (by decide +kernel) rfl ?_
  intro p e s m args below meth c s₁ B hml hv
  obtain ⟨hav, hsz, hP, hR0, hK, hN, hD0, hsep⟩ := hv
  have hx := B.exec
  have hb := B.bytes
  have hr := B.returns
  have hts := atoms_spec (ws := wsX3_hasTailsOf) B.pre
  have hown : s.vm.findClass RX3 = some m.cls := findClass_of_methodNamed B.named
  have hlocks := B.notSynchronized
  subst hsz
  have hin_X3 : ∀ w ∈ u_ws RX3 TX3 12, w ∈ wsX3_hasTailsOf := by decide +kernel
  have hw_0 := hts (.fieldLink RX3 43 "ReturnPoints$Roads" "byTail" "[I") (by decide +kernel)
  have hw_1 := hts (.fieldLink RX3 20 "ReturnPoints$Roads" "orbits" "LReturnPoints$Orbits;") (by decide +kernel)
  have hD := hD0.self (sz := s.heap.size)
  have hnA := roA hsep hR0
  generalize hAe : va_A ((wX3_0_7_9_11_12 cy ad n rp rgs sv bt osz tl pe)) s.heap.size = A at hD hnA ⊢
  have hA : ∀ q : Nat, s.heap.size ≤ q → A q := fun q h => by rw [← hAe]; exact Or.inr h
  have hS : va_S A s.heap s.heap [] := va_S.rf
  obtain ⟨ls, hfr, hl⟩ := ent_ok (m := m) (n := 7) (l' := [(0, .ref (ad 0)), (1, .ref (ao 0)), (2, .int x2)]) [.ref (ad 0), .ref (ao 0), .int x2] hav (Nat.le_of_ble_eq_true rfl) rfl
  rw [hfr]
  generalize hQe : MQ below (QW D (some (.int (bi out.1))) ((wX3_0_7_9_11_12 cy ad n rp rgs sv out.2 osz tl pe)) A) args s 0 0 A = QQ
  change W p l e RMX3_hasTailsOf s m args below meth c s.heap [] 0 0 QQ (F0 m 0 ls [])
  have hP : va_P D vwCl ((wX3_0_7_9_11_12 cy ad n rp rgs sv bt osz tl pe)) s.heap := hP
  have hD : va_D A ((wX3_0_7_9_11_12 cy ad n rp rgs sv bt osz tl pe)) := hD
  suffices h00 : ∀ (H : Heap) (locs : List Loc), va_P D vwCl ((wX3_0_7_9_11_12 cy ad n rp rgs sv bt osz tl pe)) H → va_S A s.heap H locs → W p l e RMX3_hasTailsOf s m args below meth c H locs 0 0 QQ (F0 m 0 ls []) from h00 _ _ hP hS
  clear hP hS
  intro H locs hP hS
  have L37 : ∀ (x4_37 : Int32) (bt_37 : Nat → Int32) (n37 : Nat) (H : Heap) (locs : List Loc) (ls : Array Slot) (x5_37 : Int32), FX3_hasTailsOf_L37 x4_37 n bt_37 n37 x5_37 = some out → va_P D vwCl ((wX3_0_7_9_11_12 cy ad n rp rgs sv bt_37 osz tl pe)) H → va_D A ((wX3_0_7_9_11_12 cy ad n rp rgs sv bt_37 osz tl pe)) → va_S A s.heap H locs → lv_has ls 7 [(3, .ref (ad 7)), (4, .int x4_37), (5, .int x5_37)] → W p l e RMX3_hasTailsOf s m args below meth c H locs 0 0 QQ (F0 m 37 ls []) := by
    intro x4_37 bt_37 n37
    induction n37 with
    | zero => intro H locs ls x5_37 hf; simp [FX3_hasTailsOf_L37] at hf
    | succ n37 ih37 =>
      intro H locs ls x5_37 hf hP hD hS hl
      rw [FX3_hasTailsOf_L37] at hf
      refine lv_iload hx hb dX3_hasTailsOf_37 (lv_at hl 2 rfl) ?_
      refine lv_iload hx hb dX3_hasTailsOf_39 (lv_at hl 1 rfl) ?_
      refine lv_icmp_ge (tgt := 63) hx hb dX3_hasTailsOf_41 (by decide) (fun c_41 => ?_) (fun c_41 => ?_)
      · replace hf := it_p c_41 hf
        refine lv_iconst (v := 1) hx hb dX3_hasTailsOf_63 (by decide) ?_
        obtain rfl := Option.some.inj hf
        rw [← hQe]
        exact W.zret (v := bi true) hx hb hr (nar_bi _) (fun t ht hW => ⟨rfl, by rw [ht]; exact hP, hS.F ht⟩) hS.2.2 dX3_hasTailsOf_64
      · replace hf := it_n c_41 hf
        refine lv_aload_n hx hb dX3_hasTailsOf_44 rfl (lv_at hl 0 rfl) ?_
        refine lv_iload hx hb dX3_hasTailsOf_45 (lv_at hl 2 rfl) ?_
        replace hf := gi_e hf
        obtain ⟨i_47, hf⟩ := hf
        refine va_iald (a := (ad 7)) hx hb hK hP 1 0 rfl rfl i_47 dX3_hasTailsOf_47 ?_
        refine lv_topi (fun v_48 e_48 => ?_)
        replace hf := bd_at e_48 hf
        clear e_48
        refine lv_istore (lv' := [(6, .int v_48), (3, .ref (ad 7)), (4, .int x4_37), (5, .int x5_37)]) hx hb dX3_hasTailsOf_48 hl (by decide) rfl (fun ls hl => ?_)
        refine lv_iload hx hb dX3_hasTailsOf_50 (lv_at hl 0 rfl) ?_
        refine lv_if_eq (tgt := 57) hx hb dX3_hasTailsOf_52 (by decide) (fun c_52 => ?_) (fun c_52 => ?_)
        · replace hf := it_p c_52 hf
          obtain ⟨v_57, e_57⟩ : ∃ y : Int32, y = x5_37 + 1 := ⟨_, rfl⟩
          replace hf := bd_at e_57 hf
          refine lv_iinc (v := v_57) (lv' := [(5, .int v_57), (6, .int v_48), (3, .ref (ad 7)), (4, .int x4_37)]) hx hb dX3_hasTailsOf_57 hl (k := 3) rfl (by rw [e_57]; rfl) (by decide) rfl (fun ls hl => ?_)
          clear e_57
          refine lv_goto (tgt := 37) hx hb dX3_hasTailsOf_60 (by decide) ?_
          exact ih37 H locs ls v_57 hf hP hD hS (lv_sub hl [2, 3, 0] rfl)
        · replace hf := it_n c_52 hf
          refine lv_iconst (v := 0) hx hb dX3_hasTailsOf_55 (by decide) ?_
          obtain rfl := Option.some.inj hf
          rw [← hQe]
          exact W.zret (v := bi false) hx hb hr (nar_bi _) (fun t ht hW => ⟨rfl, by rw [ht]; exact hP, hS.F ht⟩) hS.2.2 dX3_hasTailsOf_56
  unfold FX3_hasTailsOf at hf
  refine lv_aload_n hx hb dX3_hasTailsOf_0 rfl (lv_at hl 0 rfl) ?_
  refine va_get (a := (ad 0)) (ci := 3) (v := .ref (ad 7)) (C := RX3) (T := TX3) (N := 12) hx hb hts hin_X3 hown hK hP 0 rfl rfl 8 (by decide) hw_0 (fun _ h => h) rfl dX3_hasTailsOf_1 ?_
  refine lv_iconst (v := 0) hx hb dX3_hasTailsOf_4 (by decide) ?_
  replace hf := ob_e hf
  obtain ⟨u_5, hu_5, hf⟩ := hf
  refine isW (As := [.ref (ad 7), .int 0]) (rest := []) (st1 := []) (is := [1]) (w1 := (waI cy (ad 7) n u_5)) ⟨hx, hb, hml, hown, hts⟩ hK hN (KJ7_fill_53178 l D cy (ad 7) n bt 0 H.size hu_5) (va_cwS 2 hts gX3_hasTailsOf_J7_fill_53178 rfl rfl rfl (by decide +kernel) ⟨Nat.le_of_ble_eq_true rfl, Nat.le_of_ble_eq_true rfl⟩) hP hD hS hA P_nil (sepW_nil _) (by decide) rfl rfl rfl hl.1 rfl (Nat.le_of_ble_eq_true rfl) rfl dX3_hasTailsOf_5 ⟨Nat.zero_le _, Nat.zero_le _⟩ (fun H locs hP hD hS => ?_)
  have hP : va_P D vwCl ((wX3_0_7_9_11_12 cy ad n rp rgs sv u_5 osz tl pe)) H := hP
  have hD : va_D A ((wX3_0_7_9_11_12 cy ad n rp rgs sv u_5 osz tl pe)) := hD
  refine lv_aload_n hx hb dX3_hasTailsOf_8 rfl (lv_at hl 0 rfl) ?_
  refine lv_aload_n hx hb dX3_hasTailsOf_9 rfl (lv_at hl 0 rfl) ?_
  refine va_get (a := (ad 0)) (ci := 3) (v := .ref (ad 9)) (C := RX3) (T := TX3) (N := 12) hx hb hts hin_X3 hown hK hP 0 rfl rfl 1 (by decide) hw_1 (fun _ h => h) rfl dX3_hasTailsOf_10 ?_
  refine lv_iload_n hx hb dX3_hasTailsOf_13 rfl (lv_at hl 2 rfl) ?_
  refine lv_iconst (v := 1) hx hb dX3_hasTailsOf_14 (by decide) ?_
  replace hf := ob_e hf
  obtain ⟨u_15, hu_15, hf⟩ := hf
  refine ivW (As := [.ref (ad 9), .int x2, .int 1]) (rest := []) (st1 := []) (is := [0, 1]) (w1 := (wX3_0_7 cy ad n rp rgs sv u_15)) ⟨hx, hb, hml, hown, hts⟩ hK hN (KX3_tally l D cy ad (fun i => ad (9 + i)) n rp rgs sv u_5 n osz tl pe x2 1 H.size hu_15) (cwV 3 hts gX3_hasTailsOf_X3_tally rfl rfl rfl (by decide +kernel) ⟨Nat.le_of_ble_eq_true rfl, Nat.le_of_ble_eq_true rfl⟩) (va_recv hK hP (ci := 3) (q0 := 0) rfl rfl) hP hD hS hA (P_pl (wc := (wX1_0_2_3 cy (fun i => ad (9 + i)) n osz tl pe)) (is := [2, 3, 4]) hP rfl) (sep_D (is := [0, 1]) (isR := [2, 3, 4]) hD rfl rfl (by decide)) (by decide) rfl rfl rfl hl.1 rfl (Nat.le_of_ble_eq_true rfl) rfl dX3_hasTailsOf_15 ⟨Nat.zero_le _, Nat.zero_le _⟩ (fun H locs hP hD hS => ?_)
  have hP : va_P D vwCl ((wX3_0_7_9_11_12 cy ad n rp rgs sv u_15 osz tl pe)) H := hP
  have hD : va_D A ((wX3_0_7_9_11_12 cy ad n rp rgs sv u_15 osz tl pe)) := hD
  refine lv_aload_n hx hb dX3_hasTailsOf_18 rfl (lv_at hl 0 rfl) ?_
  refine lv_aload_n hx hb dX3_hasTailsOf_19 rfl (lv_at hl 1 rfl) ?_
  refine lv_iload_n hx hb dX3_hasTailsOf_20 rfl (lv_at hl 2 rfl) ?_
  refine lv_iconst (v := (-1)) hx hb dX3_hasTailsOf_21 (by decide) ?_
  replace hf := ob_e hf
  obtain ⟨u_22, hu_22, hf⟩ := hf
  have hR := roN hR0 hnA hS
  refine ivW (As := [.ref (ao 0), .int x2, .int (-1)]) (rest := []) (st1 := []) (is := [0, 1]) (w1 := (wX3_0_7 cy ad n rp rgs sv u_22)) ⟨hx, hb, hml, hown, hts⟩ hK hN (KX3_tally l D cy ad ao n rp rgs sv u_15 q_n q_osz q_tl q_pe x2 (-1) H.size hu_22) (cwV 3 hts gX3_hasTailsOf_X3_tally rfl rfl rfl (by decide +kernel) ⟨Nat.le_of_ble_eq_true rfl, Nat.le_of_ble_eq_true rfl⟩) (va_recv hK hP (ci := 3) (q0 := 0) rfl rfl) hP hD hS hA (P_pl (wc := (wX1_0_2_3 cy ao q_n q_osz q_tl q_pe)) (is := [0, 1, 2]) hR rfl) (sep_nA (is := [0, 1]) (isR := [0, 1, 2]) hnA hD rfl rfl) (by decide) rfl rfl rfl hl.1 rfl (Nat.le_of_ble_eq_true rfl) rfl dX3_hasTailsOf_22 ⟨Nat.zero_le _, Nat.zero_le _⟩ (fun H locs hP hD hS => ?_)
  have hP : va_P D vwCl ((wX3_0_7_9_11_12 cy ad n rp rgs sv u_22 osz tl pe)) H := hP
  have hD : va_D A ((wX3_0_7_9_11_12 cy ad n rp rgs sv u_22 osz tl pe)) := hD
  refine lv_aload_n hx hb dX3_hasTailsOf_25 rfl (lv_at hl 0 rfl) ?_
  refine va_get (a := (ad 0)) (ci := 3) (v := .ref (ad 7)) (C := RX3) (T := TX3) (N := 12) hx hb hts hin_X3 hown hK hP 0 rfl rfl 8 (by decide) hw_0 (fun _ h => h) rfl dX3_hasTailsOf_26 ?_
  refine lv_astore_n (lv' := [(3, .ref (ad 7)), (0, .ref (ad 0)), (1, .ref (ao 0)), (2, .int x2)]) hx hb dX3_hasTailsOf_29 rfl hl (by decide) rfl (fun ls hl => ?_)
  refine lv_aload_n hx hb dX3_hasTailsOf_30 rfl (lv_at hl 0 rfl) ?_
  refine va_alen (a := (ad 7)) (v := (Int32.ofNat n)) hx hb hK hP 1 0 rfl rfl rfl dX3_hasTailsOf_31 ?_
  refine lv_topi (fun v_32 e_32 => ?_)
  replace hf := bd_at e_32 hf
  clear e_32
  refine lv_istore (lv' := [(4, .int v_32), (3, .ref (ad 7)), (0, .ref (ad 0)), (1, .ref (ao 0)), (2, .int x2)]) hx hb dX3_hasTailsOf_32 hl (by decide) rfl (fun ls hl => ?_)
  refine lv_iconst (v := 0) hx hb dX3_hasTailsOf_34 (by decide) ?_
  refine lv_istore (lv' := [(5, .int 0), (4, .int v_32), (3, .ref (ad 7)), (0, .ref (ad 0)), (1, .ref (ao 0)), (2, .int x2)]) hx hb dX3_hasTailsOf_35 hl (by decide) rfl (fun ls hl => ?_)
  exact L37 v_32 u_22 FU H locs ls 0 hf hP hD hS (lv_sub hl [2, 1, 0] rfl)
def FX3_isLike_J79  (k22 : Int32 → (Nat → Int32) → (Nat → Int32) → Option (Bool × (Nat → Int32) × (Nat → Int32))) (x3_22 : Int32) (x4_79 : Int32) (n : Nat) (n1 : Nat) (bt_79 : Nat → Int32) (cp_79 : Nat → Int32) (osz : Int32) (tl : Nat → Int32) (pe : Nat → Int32) (q_n : Nat) (q_osz : Int32) (q_tl : Nat → Int32) (q_pe : Nat → Int32) : Option (Bool × (Nat → Int32) × (Nat → Int32)) := (bd (x4_79 + 1) (fun v_79 => k22 v_79 bt_79 cp_79))
def FX3_isLike_L22   (x3_22 : Int32) (n : Nat) (n1 : Nat) (osz : Int32) (tl : Nat → Int32) (pe : Nat → Int32) (q_n : Nat) (q_osz : Int32) (q_tl : Nat → Int32) (q_pe : Nat → Int32) : Nat → Int32 → (Nat → Int32) → (Nat → Int32) → Option (Bool × (Nat → Int32) × (Nat → Int32))
  | 0, _, _, _ => none
  | fuel + 1, x4_22, bt_22, cp_22 => (if x3_22 ≤ x4_22 then (some (true, bt_22, cp_22)) else (gi x4_22 n (bd (pe (Int32.toNatClampNeg x4_22)) (fun v_32 => if v_32 ≤ 0 then FX3_isLike_J79 (FX3_isLike_L22 x3_22 n n1 osz tl pe q_n q_osz q_tl q_pe fuel) x3_22 x4_22 n n1 bt_22 cp_22 osz tl pe q_n q_osz q_tl q_pe else (if (Int32.ofNat n1) ≤ v_32 then FX3_isLike_J79 (FX3_isLike_L22 x3_22 n n1 osz tl pe q_n q_osz q_tl q_pe fuel) x3_22 x4_22 n n1 bt_22 cp_22 osz tl pe q_n q_osz q_tl q_pe else (gi v_32 n1 (if (cp_22 (Int32.toNatClampNeg v_32)) = 0 then (gi v_32 n1 (ob (FX3_hasTailsOf n bt_22 osz tl pe q_n q_osz q_tl q_pe v_32) (fun u_71 => if (bi u_71.1) = 0 then (some (false, u_71.2, (upd cp_22 (Int32.toNatClampNeg v_32) 1))) else FX3_isLike_J79 (FX3_isLike_L22 x3_22 n n1 osz tl pe q_n q_osz q_tl q_pe fuel) x3_22 x4_22 n n1 u_71.2 (upd cp_22 (Int32.toNatClampNeg v_32) 1) osz tl pe q_n q_osz q_tl q_pe))) else FX3_isLike_J79 (FX3_isLike_L22 x3_22 n n1 osz tl pe q_n q_osz q_tl q_pe fuel) x3_22 x4_22 n n1 bt_22 cp_22 osz tl pe q_n q_osz q_tl q_pe)))))))
def FX3_isLike  (n : Nat) (n1 : Nat) (bt : Nat → Int32) (cp : Nat → Int32) (osz : Int32) (tl : Nat → Int32) (pe : Nat → Int32) (q_n : Nat) (q_osz : Int32) (q_tl : Nat → Int32) (q_pe : Nat → Int32)  : Option (Bool × (Nat → Int32) × (Nat → Int32)) := (ob (FJ7_fill_53178 n1 cp 0) (fun u_5 => bd (Int32.ofNat n) (fun v_18 => FX3_isLike_L22 v_18 n n1 osz tl pe q_n q_osz q_tl q_pe FU 0 bt u_5)))
abbrev RMX3_isLike : Room := { frames := 2, cells := 0, slots := 0, locals := 51 }
set_option maxHeartbeats 4000000 in
set_option maxRecDepth 100000 in
theorem KX3_isLike (l : Launch) (D : va_G) (cy : Nat → ClassId) (ad : Nat → Nat) (ao : Nat → Nat) (n : Nat) (n1 : Nat) (rp : Int32) (rgs : Int32) (sv : Option Nat) (bt : Nat → Int32) (cp : Nat → Int32) (osz : Int32) (tl : Nat → Int32) (pe : Nat → Int32) (q_n : Nat) (q_osz : Int32) (q_tl : Nat → Int32) (q_pe : Nat → Int32)  (sz : Nat) {out : Bool × (Nat → Int32) × (Nat → Int32)} (hf : FX3_isLike n n1 bt cp osz tl pe q_n q_osz q_tl q_pe = some out) : Met l yX3_isLike wsX3_isLike RMX3_isLike (PW D cy [.ref (ad 0), .ref (ao 0)] sz ((wX3_0_7_8_9_11_12 cy ad n n1 rp rgs sv bt cp osz tl pe)) ((wX1_0_2_3 cy ao q_n q_osz q_tl q_pe))) (QW D (some (.int (bi out.1))) ((wX3_0_7_8_9_11_12 cy ad n n1 rp rgs sv out.2.1 out.2.2 osz tl pe)) (va_A ((wX3_0_7_8_9_11_12 cy ad n n1 rp rgs sv bt cp osz tl pe)) sz)) 0 0 (va_A ((wX3_0_7_8_9_11_12 cy ad n n1 rp rgs sv bt cp osz tl pe)) sz) := by
  refine Met.ofW (cc := cX3_isLike) (maxL := 6) (ret := (some .boolean)) (by decide +kernel) rfl ?_
  intro p e s m args below meth c s₁ B hml hv
  obtain ⟨hav, hsz, hP, hR0, hK, hN, hD0, hsep⟩ := hv
  have hx := B.exec
  have hb := B.bytes
  have hr := B.returns
  have hts := atoms_spec (ws := wsX3_isLike) B.pre
  have hown : s.vm.findClass RX3 = some m.cls := findClass_of_methodNamed B.named
  have hlocks := B.notSynchronized
  subst hsz
  have hin_X1 : ∀ w ∈ u_ws RX1 TX1 6, w ∈ wsX3_isLike := by decide +kernel
  have hin_X3 : ∀ w ∈ u_ws RX3 TX3 12, w ∈ wsX3_isLike := by decide +kernel
  have hw_0 := hts (.fieldLink RX3 46 "ReturnPoints$Roads" "compared" "[I") (by decide +kernel)
  have hw_1 := hts (.fieldLink RX3 20 "ReturnPoints$Roads" "orbits" "LReturnPoints$Orbits;") (by decide +kernel)
  have hw_2 := hts (.fieldLink RX3 96 "ReturnPoints$Orbits" "period" "[I") (by decide +kernel)
  have hD := hD0.self (sz := s.heap.size)
  have hnA := roA hsep hR0
  generalize hAe : va_A ((wX3_0_7_8_9_11_12 cy ad n n1 rp rgs sv bt cp osz tl pe)) s.heap.size = A at hD hnA ⊢
  have hA : ∀ q : Nat, s.heap.size ≤ q → A q := fun q h => by rw [← hAe]; exact Or.inr h
  have hS : va_S A s.heap s.heap [] := va_S.rf
  obtain ⟨ls, hfr, hl⟩ := ent_ok (m := m) (n := 6) (l' := [(0, .ref (ad 0)), (1, .ref (ao 0))]) [.ref (ad 0), .ref (ao 0)] hav (Nat.le_of_ble_eq_true rfl) rfl
  rw [hfr]
  generalize hQe : MQ below (QW D (some (.int (bi out.1))) ((wX3_0_7_8_9_11_12 cy ad n n1 rp rgs sv out.2.1 out.2.2 osz tl pe)) A) args s 0 0 A = QQ
  change W p l e RMX3_isLike s m args below meth c s.heap [] 0 0 QQ (F0 m 0 ls [])
  have hP : va_P D vwCl ((wX3_0_7_8_9_11_12 cy ad n n1 rp rgs sv bt cp osz tl pe)) s.heap := hP
  have hD : va_D A ((wX3_0_7_8_9_11_12 cy ad n n1 rp rgs sv bt cp osz tl pe)) := hD
  suffices h00 : ∀ (H : Heap) (locs : List Loc), va_P D vwCl ((wX3_0_7_8_9_11_12 cy ad n n1 rp rgs sv bt cp osz tl pe)) H → va_S A s.heap H locs → W p l e RMX3_isLike s m args below meth c H locs 0 0 QQ (F0 m 0 ls []) from h00 _ _ hP hS
  clear hP hS
  intro H locs hP hS
  have L22 : ∀ (x3_22 : Int32) (n22 : Nat) (H : Heap) (locs : List Loc) (ls : Array Slot) (x4_22 : Int32) (bt_22 : Nat → Int32) (cp_22 : Nat → Int32), FX3_isLike_L22 x3_22 n n1 osz tl pe q_n q_osz q_tl q_pe n22 x4_22 bt_22 cp_22 = some out → va_P D vwCl ((wX3_0_7_8_9_11_12 cy ad n n1 rp rgs sv bt_22 cp_22 osz tl pe)) H → va_D A ((wX3_0_7_8_9_11_12 cy ad n n1 rp rgs sv bt_22 cp_22 osz tl pe)) → va_S A s.heap H locs → lv_has ls 6 [(0, .ref (ad 0)), (1, .ref (ao 0)), (2, .ref (ad 12)), (3, .int x3_22), (4, .int x4_22)] → W p l e RMX3_isLike s m args below meth c H locs 0 0 QQ (F0 m 22 ls []) := by
    intro x3_22 n22
    induction n22 with
    | zero => intro H locs ls x4_22 bt_22 cp_22 hf; simp [FX3_isLike_L22] at hf
    | succ n22 ih22 =>
      intro H locs ls x4_22 bt_22 cp_22 hf hP hD hS hl
      rw [FX3_isLike_L22] at hf
      have J79 : ∀ (H : Heap) (locs : List Loc) (ls : Array Slot) (x4_79 : Int32) (bt_79 : Nat → Int32) (cp_79 : Nat → Int32), FX3_isLike_J79 (FX3_isLike_L22 x3_22 n n1 osz tl pe q_n q_osz q_tl q_pe n22) x3_22 x4_79 n n1 bt_79 cp_79 osz tl pe q_n q_osz q_tl q_pe = some out → va_P D vwCl ((wX3_0_7_8_9_11_12 cy ad n n1 rp rgs sv bt_79 cp_79 osz tl pe)) H → va_D A ((wX3_0_7_8_9_11_12 cy ad n n1 rp rgs sv bt_79 cp_79 osz tl pe)) → va_S A s.heap H locs → lv_has ls 6 [(0, .ref (ad 0)), (1, .ref (ao 0)), (2, .ref (ad 12)), (3, .int x3_22), (4, .int x4_79)] → W p l e RMX3_isLike s m args below meth c H locs 0 0 QQ (F0 m 79 ls []) := by
        intro H locs ls x4_79 bt_79 cp_79 hf hP hD hS hl
        unfold FX3_isLike_J79 at hf
        obtain ⟨v_79, e_79⟩ : ∃ y : Int32, y = x4_79 + 1 := ⟨_, rfl⟩
        replace hf := bd_at e_79 hf
        refine lv_iinc (v := v_79) (lv' := [(4, .int v_79), (0, .ref (ad 0)), (1, .ref (ao 0)), (2, .ref (ad 12)), (3, .int x3_22)]) hx hb dX3_isLike_79 hl (k := 4) rfl (by rw [e_79]; rfl) (by decide) rfl (fun ls hl => ?_)
        clear e_79
        refine lv_goto (tgt := 22) hx hb dX3_isLike_82 (by decide) ?_
        exact ih22 H locs ls v_79 bt_79 cp_79 hf hP hD hS (lv_sub hl [1, 2, 3, 4, 0] rfl)
      refine lv_iload hx hb dX3_isLike_22 (lv_at hl 4 rfl) ?_
      refine lv_iload_n hx hb dX3_isLike_24 rfl (lv_at hl 3 rfl) ?_
      refine lv_icmp_ge (tgt := 85) hx hb dX3_isLike_25 (by decide) (fun c_25 => ?_) (fun c_25 => ?_)
      · replace hf := it_p c_25 hf
        refine lv_iconst (v := 1) hx hb dX3_isLike_85 (by decide) ?_
        obtain rfl := Option.some.inj hf
        rw [← hQe]
        exact W.zret (v := bi true) hx hb hr (nar_bi _) (fun t ht hW => ⟨rfl, by rw [ht]; exact hP, hS.F ht⟩) hS.2.2 dX3_isLike_86
      · replace hf := it_n c_25 hf
        refine lv_aload_n hx hb dX3_isLike_28 rfl (lv_at hl 2 rfl) ?_
        refine lv_iload hx hb dX3_isLike_29 (lv_at hl 4 rfl) ?_
        replace hf := gi_e hf
        obtain ⟨i_31, hf⟩ := hf
        refine va_iald (a := (ad 12)) hx hb hK hP 5 0 rfl rfl i_31 dX3_isLike_31 ?_
        refine lv_topi (fun v_32 e_32 => ?_)
        replace hf := bd_at e_32 hf
        clear e_32
        refine lv_istore (lv' := [(5, .int v_32), (0, .ref (ad 0)), (1, .ref (ao 0)), (2, .ref (ad 12)), (3, .int x3_22), (4, .int x4_22)]) hx hb dX3_isLike_32 hl (by decide) rfl (fun ls hl => ?_)
        refine lv_iload hx hb dX3_isLike_34 (lv_at hl 0 rfl) ?_
        refine lv_if_le (tgt := 79) hx hb dX3_isLike_36 (by decide) (fun c_36 => ?_) (fun c_36 => ?_)
        · replace hf := it_p c_36 hf
          exact J79 H locs ls x4_22 bt_22 cp_22 hf hP hD hS (lv_sub hl [1, 2, 3, 4, 5] rfl)
        · replace hf := it_n c_36 hf
          refine lv_iload hx hb dX3_isLike_39 (lv_at hl 0 rfl) ?_
          refine lv_aload_n hx hb dX3_isLike_41 rfl (lv_at hl 1 rfl) ?_
          refine va_get (a := (ad 0)) (ci := 3) (v := .ref (ad 8)) (C := RX3) (T := TX3) (N := 12) hx hb hts hin_X3 hown hK hP 0 rfl rfl 9 (by decide) hw_0 (fun _ h => h) rfl dX3_isLike_42 ?_
          refine va_alen (a := (ad 8)) (v := (Int32.ofNat n1)) hx hb hK hP 2 0 rfl rfl rfl dX3_isLike_45 ?_
          refine lv_icmp_ge (tgt := 79) hx hb dX3_isLike_46 (by decide) (fun c_46 => ?_) (fun c_46 => ?_)
          · replace hf := it_p c_46 hf
            exact J79 H locs ls x4_22 bt_22 cp_22 hf hP hD hS (lv_sub hl [1, 2, 3, 4, 5] rfl)
          · replace hf := it_n c_46 hf
            refine lv_aload_n hx hb dX3_isLike_49 rfl (lv_at hl 1 rfl) ?_
            refine va_get (a := (ad 0)) (ci := 3) (v := .ref (ad 8)) (C := RX3) (T := TX3) (N := 12) hx hb hts hin_X3 hown hK hP 0 rfl rfl 9 (by decide) hw_0 (fun _ h => h) rfl dX3_isLike_50 ?_
            refine lv_iload hx hb dX3_isLike_53 (lv_at hl 0 rfl) ?_
            replace hf := gi_e hf
            obtain ⟨i_55, hf⟩ := hf
            refine va_iald (a := (ad 8)) hx hb hK hP 2 0 rfl rfl i_55 dX3_isLike_55 ?_
            refine lv_if_ne (tgt := 79) hx hb dX3_isLike_56 (by decide) (fun c_56 => ?_) (fun c_56 => ?_)
            · replace hf := it_n c_56 hf
              exact J79 H locs ls x4_22 bt_22 cp_22 hf hP hD hS (lv_sub hl [1, 2, 3, 4, 5] rfl)
            · replace hf := it_p c_56 hf
              refine lv_aload_n hx hb dX3_isLike_59 rfl (lv_at hl 1 rfl) ?_
              refine va_get (a := (ad 0)) (ci := 3) (v := .ref (ad 8)) (C := RX3) (T := TX3) (N := 12) hx hb hts hin_X3 hown hK hP 0 rfl rfl 9 (by decide) hw_0 (fun _ h => h) rfl dX3_isLike_60 ?_
              refine lv_iload hx hb dX3_isLike_63 (lv_at hl 0 rfl) ?_
              refine lv_iconst (v := 1) hx hb dX3_isLike_65 (by decide) ?_
              replace hf := gi_e hf
              obtain ⟨i_66, hf⟩ := hf
              refine va_iast (a := (ad 8)) hx hb hK hP hD hS 2 0 rfl rfl i_66 dX3_isLike_66 (fun H locs hP hD hS => ?_)
              have hP : va_P D vwCl ((wX3_0_7_8_9_11_12 cy ad n n1 rp rgs sv bt_22 (upd cp_22 (Int32.toNatClampNeg v_32) 1) osz tl pe)) H := hP
              have hD : va_D A ((wX3_0_7_8_9_11_12 cy ad n n1 rp rgs sv bt_22 (upd cp_22 (Int32.toNatClampNeg v_32) 1) osz tl pe)) := hD
              refine lv_aload_n hx hb dX3_isLike_67 rfl (lv_at hl 1 rfl) ?_
              refine lv_aload_n hx hb dX3_isLike_68 rfl (lv_at hl 2 rfl) ?_
              refine lv_iload hx hb dX3_isLike_69 (lv_at hl 0 rfl) ?_
              replace hf := ob_e hf
              obtain ⟨u_71, hu_71, hf⟩ := hf
              have hR := roN hR0 hnA hS
              refine ivW (As := [.ref (ao 0), .int v_32]) (rest := []) (st1 := [.int (bi u_71.1)]) (is := [0, 1, 3, 4, 5]) (w1 := (wX3_0_7_9_11_12 cy ad n rp rgs sv u_71.2 osz tl pe)) ⟨hx, hb, hml, hown, hts⟩ hK hN (KX3_hasTailsOf l D cy ad ao n rp rgs sv bt_22 osz tl pe q_n q_osz q_tl q_pe v_32 H.size hu_71) (cwV 2 hts gX3_isLike_X3_hasTailsOf rfl rfl rfl (by decide +kernel) ⟨Nat.le_of_ble_eq_true rfl, Nat.le_of_ble_eq_true rfl⟩) (va_recv hK hP (ci := 3) (q0 := 0) rfl rfl) hP hD hS hA (P_pl (wc := (wX1_0_2_3 cy ao q_n q_osz q_tl q_pe)) (is := [0, 1, 2]) hR rfl) (sep_nA (is := [0, 1, 3, 4, 5]) (isR := [0, 1, 2]) hnA hD rfl rfl) (by decide) rfl rfl rfl hl.1 rfl (Nat.le_of_ble_eq_true rfl) rfl dX3_isLike_71 ⟨Nat.zero_le _, Nat.zero_le _⟩ (fun H locs hP hD hS => ?_)
              have hP : va_P D vwCl ((wX3_0_7_8_9_11_12 cy ad n n1 rp rgs sv u_71.2 (upd cp_22 (Int32.toNatClampNeg v_32) 1) osz tl pe)) H := hP
              have hD : va_D A ((wX3_0_7_8_9_11_12 cy ad n n1 rp rgs sv u_71.2 (upd cp_22 (Int32.toNatClampNeg v_32) 1) osz tl pe)) := hD
              refine lv_if_ne (tgt := 79) hx hb dX3_isLike_74 (by decide) (fun c_74 => ?_) (fun c_74 => ?_)
              · replace hf := it_n c_74 hf
                exact J79 H locs ls x4_22 u_71.2 (upd cp_22 (Int32.toNatClampNeg v_32) 1) hf hP hD hS (lv_sub hl [1, 2, 3, 4, 5] rfl)
              · replace hf := it_p c_74 hf
                refine lv_iconst (v := 0) hx hb dX3_isLike_77 (by decide) ?_
                obtain rfl := Option.some.inj hf
                rw [← hQe]
                exact W.zret (v := bi false) hx hb hr (nar_bi _) (fun t ht hW => ⟨rfl, by rw [ht]; exact hP, hS.F ht⟩) hS.2.2 dX3_isLike_78
  unfold FX3_isLike at hf
  refine lv_aload_n hx hb dX3_isLike_0 rfl (lv_at hl 0 rfl) ?_
  refine va_get (a := (ad 0)) (ci := 3) (v := .ref (ad 8)) (C := RX3) (T := TX3) (N := 12) hx hb hts hin_X3 hown hK hP 0 rfl rfl 9 (by decide) hw_0 (fun _ h => h) rfl dX3_isLike_1 ?_
  refine lv_iconst (v := 0) hx hb dX3_isLike_4 (by decide) ?_
  replace hf := ob_e hf
  obtain ⟨u_5, hu_5, hf⟩ := hf
  refine isW (As := [.ref (ad 8), .int 0]) (rest := []) (st1 := []) (is := [2]) (w1 := (waI cy (ad 8) n1 u_5)) ⟨hx, hb, hml, hown, hts⟩ hK hN (KJ7_fill_53178 l D cy (ad 8) n1 cp 0 H.size hu_5) (va_cwS 2 hts gX3_isLike_J7_fill_53178 rfl rfl rfl (by decide +kernel) ⟨Nat.le_of_ble_eq_true rfl, Nat.le_of_ble_eq_true rfl⟩) hP hD hS hA P_nil (sepW_nil _) (by decide) rfl rfl rfl hl.1 rfl (Nat.le_of_ble_eq_true rfl) rfl dX3_isLike_5 ⟨Nat.zero_le _, Nat.zero_le _⟩ (fun H locs hP hD hS => ?_)
  have hP : va_P D vwCl ((wX3_0_7_8_9_11_12 cy ad n n1 rp rgs sv bt u_5 osz tl pe)) H := hP
  have hD : va_D A ((wX3_0_7_8_9_11_12 cy ad n n1 rp rgs sv bt u_5 osz tl pe)) := hD
  refine lv_aload_n hx hb dX3_isLike_8 rfl (lv_at hl 0 rfl) ?_
  refine va_get (a := (ad 0)) (ci := 3) (v := .ref (ad 9)) (C := RX3) (T := TX3) (N := 12) hx hb hts hin_X3 hown hK hP 0 rfl rfl 1 (by decide) hw_1 (fun _ h => h) rfl dX3_isLike_9 ?_
  refine va_get (a := (ad 9)) (ci := 1) (v := .ref (ad 12)) (C := RX1) (T := TX1) (N := 6) hx hb hts hin_X1 hown hK hP 3 rfl rfl 3 (by decide) hw_2 (fun _ h => h) rfl dX3_isLike_12 ?_
  refine lv_astore_n (lv' := [(2, .ref (ad 12)), (0, .ref (ad 0)), (1, .ref (ao 0))]) hx hb dX3_isLike_15 rfl hl (by decide) rfl (fun ls hl => ?_)
  refine lv_aload_n hx hb dX3_isLike_16 rfl (lv_at hl 0 rfl) ?_
  refine va_alen (a := (ad 12)) (v := (Int32.ofNat n)) hx hb hK hP 5 0 rfl rfl rfl dX3_isLike_17 ?_
  refine lv_topi (fun v_18 e_18 => ?_)
  replace hf := bd_at e_18 hf
  clear e_18
  refine lv_istore_n (lv' := [(3, .int v_18), (2, .ref (ad 12)), (0, .ref (ad 0)), (1, .ref (ao 0))]) hx hb dX3_isLike_18 rfl hl (by decide) rfl (fun ls hl => ?_)
  refine lv_iconst (v := 0) hx hb dX3_isLike_19 (by decide) ?_
  refine lv_istore (lv' := [(4, .int 0), (3, .int v_18), (2, .ref (ad 12)), (0, .ref (ad 0)), (1, .ref (ao 0))]) hx hb dX3_isLike_20 hl (by decide) rfl (fun ls hl => ?_)
  exact L22 v_18 FU H locs ls 0 bt u_5 hf hP hD hS (lv_sub hl [3, 4, 2, 1, 0] rfl)
