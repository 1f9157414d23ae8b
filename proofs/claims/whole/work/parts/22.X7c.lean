def wX7_0_4_5_9_10_11_12_13_14_16 (cy : Nat → ClassId) (ad : Nat → Nat) (thr : Int32) (sta : Int32) (pri : Int32) (tcd : Int32) (frt : Int32) (frp : Int32) (deg : Nat → Int32) (num : Nat → Int32) (goe : Nat → Int32) (tai : Nat → Int32) (per : Nat → Int32) (lea : Nat → Int32) (com : Nat → Int32) (see : Nat → Int32) (cou : Nat → Int32) : va_W := [(ad 0, .inr (7, [.int thr, .int sta, .int pri, .ref (ad 1), .ref (ad 2), .ref (ad 3), .ref (ad 4), .ref (ad 5), .ref (ad 6), .ref (ad 7), .ref (ad 8), .ref (ad 9), .ref (ad 10), .ref (ad 11), .ref (ad 12), .ref (ad 13), .ref (ad 14), .ref (ad 15), .int tcd, .ref (ad 16), .ref (ad 17), .ref (ad 18), .ref (ad 19), .ref (ad 20), .ref (ad 21), .ref (ad 22), .int frt, .int frp])), (ad 4, .inl (cy 0, 10, .inl deg)), (ad 5, .inl (cy 0, 50, .inl num)), (ad 9, .inl (cy 0, 200, .inl goe)), (ad 10, .inl (cy 0, 200, .inl tai)), (ad 11, .inl (cy 0, 200, .inl per)), (ad 12, .inl (cy 0, 200, .inl lea)), (ad 13, .inl (cy 0, 200, .inl com)), (ad 14, .inl (cy 0, 200, .inl see)), (ad 16, .inl (cy 0, 40000, .inl cou))]
def wX7_0_4_5_17_18_19 (cy : Nat → ClassId) (ad : Nat → Nat) (thr : Int32) (sta : Int32) (pri : Int32) (tcd : Int32) (frt : Int32) (frp : Int32) (deg : Nat → Int32) (num : Nat → Int32) (don : Nat → Int32) (nex : Nat → Int32) (res : Nat → Int32) : va_W := [(ad 0, .inr (7, [.int thr, .int sta, .int pri, .ref (ad 1), .ref (ad 2), .ref (ad 3), .ref (ad 4), .ref (ad 5), .ref (ad 6), .ref (ad 7), .ref (ad 8), .ref (ad 9), .ref (ad 10), .ref (ad 11), .ref (ad 12), .ref (ad 13), .ref (ad 14), .ref (ad 15), .int tcd, .ref (ad 16), .ref (ad 17), .ref (ad 18), .ref (ad 19), .ref (ad 20), .ref (ad 21), .ref (ad 22), .int frt, .int frp])), (ad 4, .inl (cy 0, 10, .inl deg)), (ad 5, .inl (cy 0, 50, .inl num)), (ad 17, .inl (cy 0, 65, .inl don)), (ad 18, .inl (cy 0, 65, .inl nex)), (ad 19, .inl (cy 0, 65, .inl res))]
def wX7_0_21 (cy : Nat → ClassId) (ad : Nat → Nat) (thr : Int32) (sta : Int32) (pri : Int32) (tcd : Int32) (frt : Int32) (frp : Int32) (rou : Nat → Int32) : va_W := [(ad 0, .inr (7, [.int thr, .int sta, .int pri, .ref (ad 1), .ref (ad 2), .ref (ad 3), .ref (ad 4), .ref (ad 5), .ref (ad 6), .ref (ad 7), .ref (ad 8), .ref (ad 9), .ref (ad 10), .ref (ad 11), .ref (ad 12), .ref (ad 13), .ref (ad 14), .ref (ad 15), .int tcd, .ref (ad 16), .ref (ad 17), .ref (ad 18), .ref (ad 19), .ref (ad 20), .ref (ad 21), .ref (ad 22), .int frt, .int frp])), (ad 21, .inl (cy 0, 455, .inl rou))]
def wX7_0_19_20_21 (cy : Nat → ClassId) (ad : Nat → Nat) (thr : Int32) (sta : Int32) (pri : Int32) (tcd : Int32) (frt : Int32) (frp : Int32) (res : Nat → Int32) (quo : Nat → Int32) (rou : Nat → Int32) : va_W := [(ad 0, .inr (7, [.int thr, .int sta, .int pri, .ref (ad 1), .ref (ad 2), .ref (ad 3), .ref (ad 4), .ref (ad 5), .ref (ad 6), .ref (ad 7), .ref (ad 8), .ref (ad 9), .ref (ad 10), .ref (ad 11), .ref (ad 12), .ref (ad 13), .ref (ad 14), .ref (ad 15), .int tcd, .ref (ad 16), .ref (ad 17), .ref (ad 18), .ref (ad 19), .ref (ad 20), .ref (ad 21), .ref (ad 22), .int frt, .int frp])), (ad 19, .inl (cy 0, 65, .inl res)), (ad 20, .inl (cy 0, 65, .inl quo)), (ad 21, .inl (cy 0, 455, .inl rou))]
def wX7_0_4_5_17_18_19_20_21 (cy : Nat → ClassId) (ad : Nat → Nat) (thr : Int32) (sta : Int32) (pri : Int32) (tcd : Int32) (frt : Int32) (frp : Int32) (deg : Nat → Int32) (num : Nat → Int32) (don : Nat → Int32) (nex : Nat → Int32) (res : Nat → Int32) (quo : Nat → Int32) (rou : Nat → Int32) : va_W := [(ad 0, .inr (7, [.int thr, .int sta, .int pri, .ref (ad 1), .ref (ad 2), .ref (ad 3), .ref (ad 4), .ref (ad 5), .ref (ad 6), .ref (ad 7), .ref (ad 8), .ref (ad 9), .ref (ad 10), .ref (ad 11), .ref (ad 12), .ref (ad 13), .ref (ad 14), .ref (ad 15), .int tcd, .ref (ad 16), .ref (ad 17), .ref (ad 18), .ref (ad 19), .ref (ad 20), .ref (ad 21), .ref (ad 22), .int frt, .int frp])), (ad 4, .inl (cy 0, 10, .inl deg)), (ad 5, .inl (cy 0, 50, .inl num)), (ad 17, .inl (cy 0, 65, .inl don)), (ad 18, .inl (cy 0, 65, .inl nex)), (ad 19, .inl (cy 0, 65, .inl res)), (ad 20, .inl (cy 0, 65, .inl quo)), (ad 21, .inl (cy 0, 455, .inl rou))]
def wX7_0_22 (cy : Nat → ClassId) (ad : Nat → Nat) (thr : Int32) (sta : Int32) (pri : Int32) (tcd : Int32) (frt : Int32) (frp : Int32) (met : Nat → Int32) : va_W := [(ad 0, .inr (7, [.int thr, .int sta, .int pri, .ref (ad 1), .ref (ad 2), .ref (ad 3), .ref (ad 4), .ref (ad 5), .ref (ad 6), .ref (ad 7), .ref (ad 8), .ref (ad 9), .ref (ad 10), .ref (ad 11), .ref (ad 12), .ref (ad 13), .ref (ad 14), .ref (ad 15), .int tcd, .ref (ad 16), .ref (ad 17), .ref (ad 18), .ref (ad 19), .ref (ad 20), .ref (ad 21), .ref (ad 22), .int frt, .int frp])), (ad 22, .inl (cy 0, 241, .inl met))]
def wX7_0_1_4_5 (cy : Nat → ClassId) (ad : Nat → Nat) (thr : Int32) (sta : Int32) (pri : Int32) (tcd : Int32) (frt : Int32) (frp : Int32) (lan : Nat → Int32) (deg : Nat → Int32) (num : Nat → Int32) : va_W := [(ad 0, .inr (7, [.int thr, .int sta, .int pri, .ref (ad 1), .ref (ad 2), .ref (ad 3), .ref (ad 4), .ref (ad 5), .ref (ad 6), .ref (ad 7), .ref (ad 8), .ref (ad 9), .ref (ad 10), .ref (ad 11), .ref (ad 12), .ref (ad 13), .ref (ad 14), .ref (ad 15), .int tcd, .ref (ad 16), .ref (ad 17), .ref (ad 18), .ref (ad 19), .ref (ad 20), .ref (ad 21), .ref (ad 22), .int frt, .int frp])), (ad 1, .inl (cy 0, 8, .inl lan)), (ad 4, .inl (cy 0, 10, .inl deg)), (ad 5, .inl (cy 0, 50, .inl num))]
def FX7_all_J232  (k65 : Int32 → Int32 → Int32 → Int32 → Int32 → Int32 → Int32 → Option (Int32 × (Int32) × (Int32) × (Nat → Int32) × (Nat → Int32) × (Nat → Int32) × (Nat → Int32) × (Nat → Int32) × (Nat → Int32))) (x1 : Int32) (x2 : Int32) (x4_232 : Int32) (x5_232 : Int32) (x6_232 : Int32) (x7_232 : Int32) (x8_232 : Int32) (x10_232 : Int32) (s0_232 : Int32) (s1_232 : Bool) (thr_65 : Int32) (sta_65 : Int32) (pri : Int32) (deg : Nat → Int32) (num : Nat → Int32) (goe_65 : Nat → Int32) (tai_65 : Nat → Int32) (per_65 : Nat → Int32) (lea_65 : Nat → Int32) (com_65 : Nat → Int32) (see_65 : Nat → Int32) : Option (Int32 × (Int32) × (Int32) × (Nat → Int32) × (Nat → Int32) × (Nat → Int32) × (Nat → Int32) × (Nat → Int32) × (Nat → Int32)) := (bd (s0_232 + (bi s1_232)) (fun v_233 => bd (x10_232 + 1) (fun v_235 => k65 x4_232 x5_232 x6_232 x7_232 x8_232 v_233 v_235)))
def FX7_all_J231  (k65 : Int32 → Int32 → Int32 → Int32 → Int32 → Int32 → Int32 → Option (Int32 × (Int32) × (Int32) × (Nat → Int32) × (Nat → Int32) × (Nat → Int32) × (Nat → Int32) × (Nat → Int32) × (Nat → Int32))) (x1 : Int32) (x2 : Int32) (x4_231 : Int32) (x5_231 : Int32) (x6_231 : Int32) (x7_231 : Int32) (x8_231 : Int32) (x10_231 : Int32) (s0_231 : Int32) (thr_65 : Int32) (sta_65 : Int32) (pri : Int32) (deg : Nat → Int32) (num : Nat → Int32) (goe_65 : Nat → Int32) (tai_65 : Nat → Int32) (per_65 : Nat → Int32) (lea_65 : Nat → Int32) (com_65 : Nat → Int32) (see_65 : Nat → Int32) : Option (Int32 × (Int32) × (Int32) × (Nat → Int32) × (Nat → Int32) × (Nat → Int32) × (Nat → Int32) × (Nat → Int32) × (Nat → Int32)) := (FX7_all_J232 k65 x1 x2 x4_231 x5_231 x6_231 x7_231 x8_231 x10_231 s0_231 false thr_65 sta_65 pri deg num goe_65 tai_65 per_65 lea_65 com_65 see_65)
def FX7_all_J207  (k65 : Int32 → Int32 → Int32 → Int32 → Int32 → Int32 → Int32 → Option (Int32 × (Int32) × (Int32) × (Nat → Int32) × (Nat → Int32) × (Nat → Int32) × (Nat → Int32) × (Nat → Int32) × (Nat → Int32))) (x1 : Int32) (x2 : Int32) (x4_207 : Int32) (x5_207 : Int32) (x6_207 : Int32) (x7_207 : Int32) (x9_207 : Int32) (x10_207 : Int32) (b11_207 : Bool) (s0_207 : Int32) (s1_207 : Bool) (thr_65 : Int32) (sta_65 : Int32) (pri : Int32) (deg : Nat → Int32) (num : Nat → Int32) (goe_65 : Nat → Int32) (tai_65 : Nat → Int32) (per_65 : Nat → Int32) (lea_65 : Nat → Int32) (com_65 : Nat → Int32) (see_65 : Nat → Int32) : Option (Int32 × (Int32) × (Int32) × (Nat → Int32) × (Nat → Int32) × (Nat → Int32) × (Nat → Int32) × (Nat → Int32) × (Nat → Int32)) := (bd (s0_207 + (bi s1_207)) (fun v_208 => if (bi b11_207) = 0 then FX7_all_J231 k65 x1 x2 x4_207 x5_207 x6_207 x7_207 v_208 x10_207 x9_207 thr_65 sta_65 pri deg num goe_65 tai_65 per_65 lea_65 com_65 see_65 else (ob (FX7_times pri deg num goe_65 per_65 x1 x10_207) (fun u_221 => if u_221 = 0 then (FX7_all_J232 k65 x1 x2 x4_207 x5_207 x6_207 x7_207 v_208 x10_207 x9_207 true thr_65 sta_65 pri deg num goe_65 tai_65 per_65 lea_65 com_65 see_65) else FX7_all_J231 k65 x1 x2 x4_207 x5_207 x6_207 x7_207 v_208 x10_207 x9_207 thr_65 sta_65 pri deg num goe_65 tai_65 per_65 lea_65 com_65 see_65))))
def FX7_all_J188  (k65 : Int32 → Int32 → Int32 → Int32 → Int32 → Int32 → Int32 → Option (Int32 × (Int32) × (Int32) × (Nat → Int32) × (Nat → Int32) × (Nat → Int32) × (Nat → Int32) × (Nat → Int32) × (Nat → Int32))) (x1 : Int32) (x2 : Int32) (x4_188 : Int32) (x5_188 : Int32) (x6_188 : Int32) (x8_188 : Int32) (x9_188 : Int32) (x10_188 : Int32) (b11_188 : Bool) (s0_188 : Int32) (thr_65 : Int32) (sta_65 : Int32) (pri : Int32) (deg : Nat → Int32) (num : Nat → Int32) (goe_65 : Nat → Int32) (tai_65 : Nat → Int32) (per_65 : Nat → Int32) (lea_65 : Nat → Int32) (com_65 : Nat → Int32) (see_65 : Nat → Int32) : Option (Int32 × (Int32) × (Int32) × (Nat → Int32) × (Nat → Int32) × (Nat → Int32) × (Nat → Int32) × (Nat → Int32) × (Nat → Int32)) := (gi x10_188 200 (if (com_65 (Int32.toNatClampNeg x10_188)) = 0 then (FX7_all_J207 k65 x1 x2 x4_188 x5_188 x6_188 s0_188 x9_188 x10_188 b11_188 x8_188 true thr_65 sta_65 pri deg num goe_65 tai_65 per_65 lea_65 com_65 see_65) else (FX7_all_J207 k65 x1 x2 x4_188 x5_188 x6_188 s0_188 x9_188 x10_188 b11_188 x8_188 false thr_65 sta_65 pri deg num goe_65 tai_65 per_65 lea_65 com_65 see_65)))
def FX7_all_J162  (k65 : Int32 → Int32 → Int32 → Int32 → Int32 → Int32 → Int32 → Option (Int32 × (Int32) × (Int32) × (Nat → Int32) × (Nat → Int32) × (Nat → Int32) × (Nat → Int32) × (Nat → Int32) × (Nat → Int32))) (x1 : Int32) (x2 : Int32) (x4_162 : Int32) (x5_162 : Int32) (x7_162 : Int32) (x8_162 : Int32) (x9_162 : Int32) (x10_162 : Int32) (b11_162 : Bool) (s0_162 : Int32) (thr_65 : Int32) (sta_65 : Int32) (pri : Int32) (deg : Nat → Int32) (num : Nat → Int32) (goe_65 : Nat → Int32) (tai_65 : Nat → Int32) (per_65 : Nat → Int32) (lea_65 : Nat → Int32) (com_65 : Nat → Int32) (see_65 : Nat → Int32) : Option (Int32 × (Int32) × (Int32) × (Nat → Int32) × (Nat → Int32) × (Nat → Int32) × (Nat → Int32) × (Nat → Int32) × (Nat → Int32)) := (gi x10_162 200 (if (tai_65 (Int32.toNatClampNeg x10_162)) ≤ x7_162 then (FX7_all_J188 k65 x1 x2 x4_162 x5_162 s0_162 x8_162 x9_162 x10_162 b11_162 x7_162 thr_65 sta_65 pri deg num goe_65 tai_65 per_65 lea_65 com_65 see_65) else (gi x10_162 200 (FX7_all_J188 k65 x1 x2 x4_162 x5_162 s0_162 x8_162 x9_162 x10_162 b11_162 (tai_65 (Int32.toNatClampNeg x10_162)) thr_65 sta_65 pri deg num goe_65 tai_65 per_65 lea_65 com_65 see_65))))
def FX7_all_J135  (k65 : Int32 → Int32 → Int32 → Int32 → Int32 → Int32 → Int32 → Option (Int32 × (Int32) × (Int32) × (Nat → Int32) × (Nat → Int32) × (Nat → Int32) × (Nat → Int32) × (Nat → Int32) × (Nat → Int32))) (x1 : Int32) (x2 : Int32) (x4_135 : Int32) (x6_135 : Int32) (x7_135 : Int32) (x8_135 : Int32) (x9_135 : Int32) (x10_135 : Int32) (b11_135 : Bool) (s0_135 : Int32) (s1_135 : Bool) (thr_65 : Int32) (sta_65 : Int32) (pri : Int32) (deg : Nat → Int32) (num : Nat → Int32) (goe_65 : Nat → Int32) (tai_65 : Nat → Int32) (per_65 : Nat → Int32) (lea_65 : Nat → Int32) (com_65 : Nat → Int32) (see_65 : Nat → Int32) : Option (Int32 × (Int32) × (Int32) × (Nat → Int32) × (Nat → Int32) × (Nat → Int32) × (Nat → Int32) × (Nat → Int32) × (Nat → Int32)) := (bd (s0_135 + (bi s1_135)) (fun v_136 => gi x10_135 200 (if (per_65 (Int32.toNatClampNeg x10_135)) ≤ x6_135 then (FX7_all_J162 k65 x1 x2 x4_135 v_136 x7_135 x8_135 x9_135 x10_135 b11_135 x6_135 thr_65 sta_65 pri deg num goe_65 tai_65 per_65 lea_65 com_65 see_65) else (gi x10_135 200 (FX7_all_J162 k65 x1 x2 x4_135 v_136 x7_135 x8_135 x9_135 x10_135 b11_135 (per_65 (Int32.toNatClampNeg x10_135)) thr_65 sta_65 pri deg num goe_65 tai_65 per_65 lea_65 com_65 see_65)))))
def FX7_all_J115  (k65 : Int32 → Int32 → Int32 → Int32 → Int32 → Int32 → Int32 → Option (Int32 × (Int32) × (Int32) × (Nat → Int32) × (Nat → Int32) × (Nat → Int32) × (Nat → Int32) × (Nat → Int32) × (Nat → Int32))) (x1 : Int32) (x2 : Int32) (x5_115 : Int32) (x6_115 : Int32) (x7_115 : Int32) (x8_115 : Int32) (x9_115 : Int32) (x10_115 : Int32) (b11_115 : Bool) (s0_115 : Int32) (s1_115 : Bool) (thr_65 : Int32) (sta_65 : Int32) (pri : Int32) (deg : Nat → Int32) (num : Nat → Int32) (goe_65 : Nat → Int32) (tai_65 : Nat → Int32) (per_65 : Nat → Int32) (lea_65 : Nat → Int32) (com_65 : Nat → Int32) (see_65 : Nat → Int32) : Option (Int32 × (Int32) × (Int32) × (Nat → Int32) × (Nat → Int32) × (Nat → Int32) × (Nat → Int32) × (Nat → Int32) × (Nat → Int32)) := (bd (s0_115 + (bi s1_115)) (fun v_116 => gi x10_115 200 (if (tai_65 (Int32.toNatClampNeg x10_115)) = 0 then (FX7_all_J135 k65 x1 x2 v_116 x6_115 x7_115 x8_115 x9_115 x10_115 b11_115 x5_115 true thr_65 sta_65 pri deg num goe_65 tai_65 per_65 lea_65 com_65 see_65) else (FX7_all_J135 k65 x1 x2 v_116 x6_115 x7_115 x8_115 x9_115 x10_115 b11_115 x5_115 false thr_65 sta_65 pri deg num goe_65 tai_65 per_65 lea_65 com_65 see_65))))
def FX7_all_J101  (k65 : Int32 → Int32 → Int32 → Int32 → Int32 → Int32 → Int32 → Option (Int32 × (Int32) × (Int32) × (Nat → Int32) × (Nat → Int32) × (Nat → Int32) × (Nat → Int32) × (Nat → Int32) × (Nat → Int32))) (x1 : Int32) (x2 : Int32) (x4_101 : Int32) (x5_101 : Int32) (x6_101 : Int32) (x7_101 : Int32) (x8_101 : Int32) (x9_101 : Int32) (x10_101 : Int32) (s0_101 : Bool) (thr_65 : Int32) (sta_65 : Int32) (pri : Int32) (deg : Nat → Int32) (num : Nat → Int32) (goe_65 : Nat → Int32) (tai_65 : Nat → Int32) (per_65 : Nat → Int32) (lea_65 : Nat → Int32) (com_65 : Nat → Int32) (see_65 : Nat → Int32) : Option (Int32 × (Int32) × (Int32) × (Nat → Int32) × (Nat → Int32) × (Nat → Int32) × (Nat → Int32) × (Nat → Int32) × (Nat → Int32)) := (if (bi s0_101) = 0 then (FX7_all_J115 k65 x1 x2 x5_101 x6_101 x7_101 x8_101 x9_101 x10_101 s0_101 x4_101 false thr_65 sta_65 pri deg num goe_65 tai_65 per_65 lea_65 com_65 see_65) else (FX7_all_J115 k65 x1 x2 x5_101 x6_101 x7_101 x8_101 x9_101 x10_101 s0_101 x4_101 true thr_65 sta_65 pri deg num goe_65 tai_65 per_65 lea_65 com_65 see_65))
def FX7_all_J100  (k65 : Int32 → Int32 → Int32 → Int32 → Int32 → Int32 → Int32 → Option (Int32 × (Int32) × (Int32) × (Nat → Int32) × (Nat → Int32) × (Nat → Int32) × (Nat → Int32) × (Nat → Int32) × (Nat → Int32))) (x1 : Int32) (x2 : Int32) (x4_100 : Int32) (x5_100 : Int32) (x6_100 : Int32) (x7_100 : Int32) (x8_100 : Int32) (x9_100 : Int32) (x10_100 : Int32) (thr_65 : Int32) (sta_65 : Int32) (pri : Int32) (deg : Nat → Int32) (num : Nat → Int32) (goe_65 : Nat → Int32) (tai_65 : Nat → Int32) (per_65 : Nat → Int32) (lea_65 : Nat → Int32) (com_65 : Nat → Int32) (see_65 : Nat → Int32) : Option (Int32 × (Int32) × (Int32) × (Nat → Int32) × (Nat → Int32) × (Nat → Int32) × (Nat → Int32) × (Nat → Int32) × (Nat → Int32)) := (FX7_all_J101 k65 x1 x2 x4_100 x5_100 x6_100 x7_100 x8_100 x9_100 x10_100 false thr_65 sta_65 pri deg num goe_65 tai_65 per_65 lea_65 com_65 see_65)
def FX7_all_L65   (x1 : Int32) (x2 : Int32) (thr_65 : Int32) (sta_65 : Int32) (pri : Int32) (deg : Nat → Int32) (num : Nat → Int32) (goe_65 : Nat → Int32) (tai_65 : Nat → Int32) (per_65 : Nat → Int32) (lea_65 : Nat → Int32) (com_65 : Nat → Int32) (see_65 : Nat → Int32) : Nat → Int32 → Int32 → Int32 → Int32 → Int32 → Int32 → Int32 → Option (Int32 × (Int32) × (Int32) × (Nat → Int32) × (Nat → Int32) × (Nat → Int32) × (Nat → Int32) × (Nat → Int32) × (Nat → Int32))
  | 0, _, _, _, _, _, _, _ => none
  | fuel + 1, x4_65, x5_65, x6_65, x7_65, x8_65, x9_65, x10_65 => (if pri ≤ x10_65 then (if x2 = 0 then ((some (x4_65, thr_65, sta_65, goe_65, tai_65, per_65, lea_65, com_65, see_65))) else (if x2 = 1 then ((some (x5_65, thr_65, sta_65, goe_65, tai_65, per_65, lea_65, com_65, see_65))) else (if x2 = 2 then ((some (x6_65, thr_65, sta_65, goe_65, tai_65, per_65, lea_65, com_65, see_65))) else (if x2 = 3 then ((some (x7_65, thr_65, sta_65, goe_65, tai_65, per_65, lea_65, com_65, see_65))) else (if x2 = 4 then ((some (x8_65, thr_65, sta_65, goe_65, tai_65, per_65, lea_65, com_65, see_65))) else ((some (x9_65, thr_65, sta_65, goe_65, tai_65, per_65, lea_65, com_65, see_65)))))))) else (gi x10_65 200 (if (tai_65 (Int32.toNatClampNeg x10_65)) = 0 then (gi x10_65 200 (if (lea_65 (Int32.toNatClampNeg x10_65)) = x10_65 then (FX7_all_J101 (FX7_all_L65 x1 x2 thr_65 sta_65 pri deg num goe_65 tai_65 per_65 lea_65 com_65 see_65 fuel) x1 x2 x4_65 x5_65 x6_65 x7_65 x8_65 x9_65 x10_65 true thr_65 sta_65 pri deg num goe_65 tai_65 per_65 lea_65 com_65 see_65) else FX7_all_J100 (FX7_all_L65 x1 x2 thr_65 sta_65 pri deg num goe_65 tai_65 per_65 lea_65 com_65 see_65 fuel) x1 x2 x4_65 x5_65 x6_65 x7_65 x8_65 x9_65 x10_65 thr_65 sta_65 pri deg num goe_65 tai_65 per_65 lea_65 com_65 see_65)) else FX7_all_J100 (FX7_all_L65 x1 x2 thr_65 sta_65 pri deg num goe_65 tai_65 per_65 lea_65 com_65 see_65 fuel) x1 x2 x4_65 x5_65 x6_65 x7_65 x8_65 x9_65 x10_65 thr_65 sta_65 pri deg num goe_65 tai_65 per_65 lea_65 com_65 see_65)))
def FX7_all  (sta : Int32) (pri : Int32) (deg : Nat → Int32) (num : Nat → Int32) (goe : Nat → Int32) (tai : Nat → Int32) (per : Nat → Int32) (lea : Nat → Int32) (com : Nat → Int32) (see : Nat → Int32) (x1 : Int32) (x2 : Int32) : Option (Int32 × (Int32) × (Int32) × (Nat → Int32) × (Nat → Int32) × (Nat → Int32) × (Nat → Int32) × (Nat → Int32) × (Nat → Int32)) := (ob (FX7_isPlace x1) (fun u_6 => if (bi u_6) = 0 then (some ((-1000001), 0, sta, goe, tai, per, lea, com, see)) else (ob (FX7_in (Int32.toInt64 x2) 0 5) (fun u_18 => if (bi u_18) = 0 then (some ((-1000001), 0, sta, goe, tai, per, lea, com, see)) else (ob (FX7_look deg x1) (fun u_29 => bd u_29.1 (fun v_32 => if 0 ≤ v_32 then (ob (FX7_findWays pri deg num goe tai per lea com see x1) (fun u_41 => FX7_all_L65 x1 x2 0 u_29.2 pri deg num u_41.1 u_41.2.1 u_41.2.2.1 u_41.2.2.2.1 u_41.2.2.2.2.1 u_41.2.2.2.2.2 FU 0 0 0 0 0 0 0)) else (some (v_32, 0, u_29.2, goe, tai, per, lea, com, see)))))))))
abbrev RMX7_all : Room := { frames := 2, cells := 0, slots := 0, locals := 50 }
set_option maxHeartbeats 4000000 in
set_option maxRecDepth 100000 in
theorem KX7_all (l : Launch) (D : va_G) (cy : Nat → ClassId) (ad : Nat → Nat) (thr : Int32) (sta : Int32) (pri : Int32) (tcd : Int32) (frt : Int32) (frp : Int32) (deg : Nat → Int32) (num : Nat → Int32) (goe : Nat → Int32) (tai : Nat → Int32) (per : Nat → Int32) (lea : Nat → Int32) (com : Nat → Int32) (see : Nat → Int32) (x1 : Int32) (x2 : Int32) (sz : Nat) {out : Int32 × (Int32) × (Int32) × (Nat → Int32) × (Nat → Int32) × (Nat → Int32) × (Nat → Int32) × (Nat → Int32) × (Nat → Int32)} (hf : FX7_all sta pri deg num goe tai per lea com see x1 x2 = some out) : Met l yX7_all wsX7_all RMX7_all (PW D cy [.ref (ad 0), .int x1, .int x2] sz ((wX7_0_4_5_9_10_11_12_13_14 cy ad thr sta pri tcd frt frp deg num goe tai per lea com see)) []) (QW D (some (.int out.1)) ((wX7_0_4_5_9_10_11_12_13_14 cy ad out.2.1 out.2.2.1 pri tcd frt frp deg num out.2.2.2.1 out.2.2.2.2.1 out.2.2.2.2.2.1 out.2.2.2.2.2.2.1 out.2.2.2.2.2.2.2.1 out.2.2.2.2.2.2.2.2)) (va_A ((wX7_0_4_5_9_10_11_12_13_14 cy ad thr sta pri tcd frt frp deg num goe tai per lea com see)) sz)) 0 0 (va_A ((wX7_0_4_5_9_10_11_12_13_14 cy ad thr sta pri tcd frt frp deg num goe tai per lea com see)) sz) := by
  refine Met.ofW (cc := cX7_all) (maxL := 12) (ret := (some .int)) (by decide +kernel) rfl ?_
  intro p e s m args below meth c s₁ B hml hv
  obtain ⟨hav, hsz, hP, hR0, hK, hN, hD0, hsep⟩ := hv
  have hx := B.exec
  have hb := B.bytes
  have hr := B.returns
  have hts := atoms_spec (ws := wsX7_all) B.pre
  have hown : s.vm.findClass RX7 = some m.cls := findClass_of_methodNamed B.named
  have hlocks := B.notSynchronized
  subst hsz
  have hin_X7 : ∀ w ∈ u_ws RX7 TX7 28, w ∈ wsX7_all := by decide +kernel
  have hw_0 := hts (.constant RX7 108 (-1000001)) (by decide +kernel)
  have hw_1 := hts (.constantLong RX7 123 (5)) (by decide +kernel)
  have hw_2 := hts (.fieldLink RX7 55 "ReturnPointsModel" "comes" "[I") (by decide +kernel)
  have hw_3 := hts (.fieldLink RX7 46 "ReturnPointsModel" "tail" "[I") (by decide +kernel)
  have hw_4 := hts (.fieldLink RX7 49 "ReturnPointsModel" "period" "[I") (by decide +kernel)
  have hw_5 := hts (.fieldLink RX7 98 "ReturnPointsModel" "prime" "I") (by decide +kernel)
  have hw_6 := hts (.fieldLink RX7 52 "ReturnPointsModel" "least" "[I") (by decide +kernel)
  have hw_7 := hts (.fieldLink RX7 1 "ReturnPointsModel" "thrown" "I") (by decide +kernel)
  have hD := hD0.self (sz := s.heap.size)
  have hnA := roA hsep hR0
  generalize hAe : va_A ((wX7_0_4_5_9_10_11_12_13_14 cy ad thr sta pri tcd frt frp deg num goe tai per lea com see)) s.heap.size = A at hD hnA ⊢
  have hA : ∀ q : Nat, s.heap.size ≤ q → A q := fun q h => by rw [← hAe]; exact Or.inr h
  have hS : va_S A s.heap s.heap [] := va_S.rf
  obtain ⟨ls, hfr, hl⟩ := ent_ok (m := m) (n := 12) (l' := [(0, .ref (ad 0)), (1, .int x1), (2, .int x2)]) [.ref (ad 0), .int x1, .int x2] hav (Nat.le_of_ble_eq_true rfl) rfl
  rw [hfr]
  generalize hQe : MQ below (QW D (some (.int out.1)) ((wX7_0_4_5_9_10_11_12_13_14 cy ad out.2.1 out.2.2.1 pri tcd frt frp deg num out.2.2.2.1 out.2.2.2.2.1 out.2.2.2.2.2.1 out.2.2.2.2.2.2.1 out.2.2.2.2.2.2.2.1 out.2.2.2.2.2.2.2.2)) A) args s 0 0 A = QQ
  change W p l e RMX7_all s m args below meth c s.heap [] 0 0 QQ (F0 m 0 ls [])
  have hP : va_P D vwCl ((wX7_0_4_5_9_10_11_12_13_14 cy ad thr sta pri tcd frt frp deg num goe tai per lea com see)) s.heap := hP
  have hD : va_D A ((wX7_0_4_5_9_10_11_12_13_14 cy ad thr sta pri tcd frt frp deg num goe tai per lea com see)) := hD
  suffices h00 : ∀ (H : Heap) (locs : List Loc), va_P D vwCl ((wX7_0_4_5_9_10_11_12_13_14 cy ad thr sta pri tcd frt frp deg num goe tai per lea com see)) H → va_S A s.heap H locs → W p l e RMX7_all s m args below meth c H locs 0 0 QQ (F0 m 0 ls []) from h00 _ _ hP hS
  clear hP hS
  intro H locs hP hS
  have L65 : ∀ (thr_65 : Int32) (sta_65 : Int32) (goe_65 : Nat → Int32) (tai_65 : Nat → Int32) (per_65 : Nat → Int32) (lea_65 : Nat → Int32) (com_65 : Nat → Int32) (see_65 : Nat → Int32) (n65 : Nat) (H : Heap) (locs : List Loc) (ls : Array Slot) (x4_65 : Int32) (x5_65 : Int32) (x6_65 : Int32) (x7_65 : Int32) (x8_65 : Int32) (x9_65 : Int32) (x10_65 : Int32), FX7_all_L65 x1 x2 thr_65 sta_65 pri deg num goe_65 tai_65 per_65 lea_65 com_65 see_65 n65 x4_65 x5_65 x6_65 x7_65 x8_65 x9_65 x10_65 = some out → va_P D vwCl ((wX7_0_4_5_9_10_11_12_13_14 cy ad thr_65 sta_65 pri tcd frt frp deg num goe_65 tai_65 per_65 lea_65 com_65 see_65)) H → va_D A ((wX7_0_4_5_9_10_11_12_13_14 cy ad thr_65 sta_65 pri tcd frt frp deg num goe_65 tai_65 per_65 lea_65 com_65 see_65)) → va_S A s.heap H locs → lv_has ls 12 [(0, .ref (ad 0)), (1, .int x1), (2, .int x2), (4, .int x4_65), (5, .int x5_65), (6, .int x6_65), (7, .int x7_65), (8, .int x8_65), (9, .int x9_65), (10, .int x10_65)] → W p l e RMX7_all s m args below meth c H locs 0 0 QQ (F0 m 65 ls []) := by
    intro thr_65 sta_65 goe_65 tai_65 per_65 lea_65 com_65 see_65 n65
    induction n65 with
    | zero => intro H locs ls x4_65 x5_65 x6_65 x7_65 x8_65 x9_65 x10_65 hf; simp [FX7_all_L65] at hf
    | succ n65 ih65 =>
      intro H locs ls x4_65 x5_65 x6_65 x7_65 x8_65 x9_65 x10_65 hf hP hD hS hl
      rw [FX7_all_L65] at hf
      have J232 : ∀ (H : Heap) (locs : List Loc) (ls : Array Slot) (x4_232 : Int32) (x5_232 : Int32) (x6_232 : Int32) (x7_232 : Int32) (x8_232 : Int32) (x10_232 : Int32) (s0_232 : Int32) (s1_232 : Bool), FX7_all_J232 (FX7_all_L65 x1 x2 thr_65 sta_65 pri deg num goe_65 tai_65 per_65 lea_65 com_65 see_65 n65) x1 x2 x4_232 x5_232 x6_232 x7_232 x8_232 x10_232 s0_232 s1_232 thr_65 sta_65 pri deg num goe_65 tai_65 per_65 lea_65 com_65 see_65 = some out → va_P D vwCl ((wX7_0_4_5_9_10_11_12_13_14 cy ad thr_65 sta_65 pri tcd frt frp deg num goe_65 tai_65 per_65 lea_65 com_65 see_65)) H → va_D A ((wX7_0_4_5_9_10_11_12_13_14 cy ad thr_65 sta_65 pri tcd frt frp deg num goe_65 tai_65 per_65 lea_65 com_65 see_65)) → va_S A s.heap H locs → lv_has ls 12 [(0, .ref (ad 0)), (1, .int x1), (2, .int x2), (4, .int x4_232), (5, .int x5_232), (6, .int x6_232), (7, .int x7_232), (8, .int x8_232), (10, .int x10_232)] → W p l e RMX7_all s m args below meth c H locs 0 0 QQ (F0 m 232 ls [.int (bi s1_232), .int s0_232]) := by
        intro H locs ls x4_232 x5_232 x6_232 x7_232 x8_232 x10_232 s0_232 s1_232 hf hP hD hS hl
        unfold FX7_all_J232 at hf
        refine lv_iadd hx hb dX7_all_232 ?_
        refine lv_topi (fun v_233 e_233 => ?_)
        replace hf := bd_at e_233 hf
        clear e_233
        refine lv_istore (lv' := [(9, .int v_233), (0, .ref (ad 0)), (1, .int x1), (2, .int x2), (4, .int x4_232), (5, .int x5_232), (6, .int x6_232), (7, .int x7_232), (8, .int x8_232), (10, .int x10_232)]) hx hb dX7_all_233 hl (by decide) rfl (fun ls hl => ?_)
        obtain ⟨v_235, e_235⟩ : ∃ y : Int32, y = x10_232 + 1 := ⟨_, rfl⟩
        replace hf := bd_at e_235 hf
        refine lv_iinc (v := v_235) (lv' := [(10, .int v_235), (9, .int v_233), (0, .ref (ad 0)), (1, .int x1), (2, .int x2), (4, .int x4_232), (5, .int x5_232), (6, .int x6_232), (7, .int x7_232), (8, .int x8_232)]) hx hb dX7_all_235 hl (k := 9) rfl (by rw [e_235]; rfl) (by decide) rfl (fun ls hl => ?_)
        clear e_235
        refine lv_goto (tgt := 65) hx hb dX7_all_238 (by decide) ?_
        exact ih65 H locs ls x4_232 x5_232 x6_232 x7_232 x8_232 v_233 v_235 hf hP hD hS (lv_sub hl [2, 3, 4, 5, 6, 7, 8, 9, 1, 0] rfl)
      have J231 : ∀ (H : Heap) (locs : List Loc) (ls : Array Slot) (x4_231 : Int32) (x5_231 : Int32) (x6_231 : Int32) (x7_231 : Int32) (x8_231 : Int32) (x10_231 : Int32) (s0_231 : Int32), FX7_all_J231 (FX7_all_L65 x1 x2 thr_65 sta_65 pri deg num goe_65 tai_65 per_65 lea_65 com_65 see_65 n65) x1 x2 x4_231 x5_231 x6_231 x7_231 x8_231 x10_231 s0_231 thr_65 sta_65 pri deg num goe_65 tai_65 per_65 lea_65 com_65 see_65 = some out → va_P D vwCl ((wX7_0_4_5_9_10_11_12_13_14 cy ad thr_65 sta_65 pri tcd frt frp deg num goe_65 tai_65 per_65 lea_65 com_65 see_65)) H → va_D A ((wX7_0_4_5_9_10_11_12_13_14 cy ad thr_65 sta_65 pri tcd frt frp deg num goe_65 tai_65 per_65 lea_65 com_65 see_65)) → va_S A s.heap H locs → lv_has ls 12 [(0, .ref (ad 0)), (1, .int x1), (2, .int x2), (4, .int x4_231), (5, .int x5_231), (6, .int x6_231), (7, .int x7_231), (8, .int x8_231), (10, .int x10_231)] → W p l e RMX7_all s m args below meth c H locs 0 0 QQ (F0 m 231 ls [.int s0_231]) := by
        intro H locs ls x4_231 x5_231 x6_231 x7_231 x8_231 x10_231 s0_231 hf hP hD hS hl
        unfold FX7_all_J231 at hf
        refine lv_iconst (v := 0) hx hb dX7_all_231 (by decide) ?_
        exact J232 H locs ls x4_231 x5_231 x6_231 x7_231 x8_231 x10_231 s0_231 false hf hP hD hS (lv_sub hl [0, 1, 2, 3, 4, 5, 6, 7, 8] rfl)
      have J207 : ∀ (H : Heap) (locs : List Loc) (ls : Array Slot) (x4_207 : Int32) (x5_207 : Int32) (x6_207 : Int32) (x7_207 : Int32) (x9_207 : Int32) (x10_207 : Int32) (b11_207 : Bool) (s0_207 : Int32) (s1_207 : Bool), FX7_all_J207 (FX7_all_L65 x1 x2 thr_65 sta_65 pri deg num goe_65 tai_65 per_65 lea_65 com_65 see_65 n65) x1 x2 x4_207 x5_207 x6_207 x7_207 x9_207 x10_207 b11_207 s0_207 s1_207 thr_65 sta_65 pri deg num goe_65 tai_65 per_65 lea_65 com_65 see_65 = some out → va_P D vwCl ((wX7_0_4_5_9_10_11_12_13_14 cy ad thr_65 sta_65 pri tcd frt frp deg num goe_65 tai_65 per_65 lea_65 com_65 see_65)) H → va_D A ((wX7_0_4_5_9_10_11_12_13_14 cy ad thr_65 sta_65 pri tcd frt frp deg num goe_65 tai_65 per_65 lea_65 com_65 see_65)) → va_S A s.heap H locs → lv_has ls 12 [(0, .ref (ad 0)), (1, .int x1), (2, .int x2), (4, .int x4_207), (5, .int x5_207), (6, .int x6_207), (7, .int x7_207), (9, .int x9_207), (10, .int x10_207), (11, .int (bi b11_207))] → W p l e RMX7_all s m args below meth c H locs 0 0 QQ (F0 m 207 ls [.int (bi s1_207), .int s0_207]) := by
        intro H locs ls x4_207 x5_207 x6_207 x7_207 x9_207 x10_207 b11_207 s0_207 s1_207 hf hP hD hS hl
        unfold FX7_all_J207 at hf
        refine lv_iadd hx hb dX7_all_207 ?_
        refine lv_topi (fun v_208 e_208 => ?_)
        replace hf := bd_at e_208 hf
        clear e_208
        refine lv_istore (lv' := [(8, .int v_208), (0, .ref (ad 0)), (1, .int x1), (2, .int x2), (4, .int x4_207), (5, .int x5_207), (6, .int x6_207), (7, .int x7_207), (9, .int x9_207), (10, .int x10_207), (11, .int (bi b11_207))]) hx hb dX7_all_208 hl (by decide) rfl (fun ls hl => ?_)
        refine lv_iload hx hb dX7_all_210 (lv_at hl 8 rfl) ?_
        refine lv_iload hx hb dX7_all_212 (lv_at hl 10 rfl) ?_
        refine lv_if_eq (tgt := 231) hx hb dX7_all_214 (by decide) (fun c_214 => ?_) (fun c_214 => ?_)
        · replace hf := it_p c_214 hf
          exact J231 H locs ls x4_207 x5_207 x6_207 x7_207 v_208 x10_207 x9_207 hf hP hD hS (lv_sub hl [1, 2, 3, 4, 5, 6, 7, 0, 9] rfl)
        · replace hf := it_n c_214 hf
          refine lv_aload_n hx hb dX7_all_217 rfl (lv_at hl 1 rfl) ?_
          refine lv_iload_n hx hb dX7_all_218 rfl (lv_at hl 2 rfl) ?_
          refine lv_iload hx hb dX7_all_219 (lv_at hl 9 rfl) ?_
          replace hf := ob_e hf
          obtain ⟨u_221, hu_221, hf⟩ := hf
          refine ivR (As := [.int x1, .int x10_207]) (rest := [.int x9_207]) (st1 := [.int u_221, .int x9_207]) ⟨hx, hb, hml, hown, hts⟩ hK hN (KX7_times l D cy ad thr_65 sta_65 pri tcd frt frp deg num goe_65 per_65 x1 x10_207 H.size hu_221) (cwV 2 hts gX7_all_X7_times rfl rfl rfl (by decide +kernel) ⟨Nat.le_of_ble_eq_true rfl, Nat.le_of_ble_eq_true rfl⟩) (va_recv hK hP (ci := 7) (q0 := 0) rfl rfl) (P_pl (wc := (wX7_0_4_5_9_11 cy ad thr_65 sta_65 pri tcd frt frp deg num goe_65 per_65)) (is := [0, 1, 2, 3, 5]) hP rfl) rfl hl.1 rfl (Nat.le_of_ble_eq_true rfl) rfl dX7_all_221 ⟨Nat.zero_le _, Nat.zero_le _⟩ ?_
          refine lv_if_ne (tgt := 231) hx hb dX7_all_224 (by decide) (fun c_224 => ?_) (fun c_224 => ?_)
          · replace hf := it_n c_224 hf
            exact J231 H locs ls x4_207 x5_207 x6_207 x7_207 v_208 x10_207 x9_207 hf hP hD hS (lv_sub hl [1, 2, 3, 4, 5, 6, 7, 0, 9] rfl)
          · replace hf := it_p c_224 hf
            refine lv_iconst (v := 1) hx hb dX7_all_227 (by decide) ?_
            refine lv_goto (tgt := 232) hx hb dX7_all_228 (by decide) ?_
            exact J232 H locs ls x4_207 x5_207 x6_207 x7_207 v_208 x10_207 x9_207 true hf hP hD hS (lv_sub hl [1, 2, 3, 4, 5, 6, 7, 0, 9] rfl)
      have J188 : ∀ (H : Heap) (locs : List Loc) (ls : Array Slot) (x4_188 : Int32) (x5_188 : Int32) (x6_188 : Int32) (x8_188 : Int32) (x9_188 : Int32) (x10_188 : Int32) (b11_188 : Bool) (s0_188 : Int32), FX7_all_J188 (FX7_all_L65 x1 x2 thr_65 sta_65 pri deg num goe_65 tai_65 per_65 lea_65 com_65 see_65 n65) x1 x2 x4_188 x5_188 x6_188 x8_188 x9_188 x10_188 b11_188 s0_188 thr_65 sta_65 pri deg num goe_65 tai_65 per_65 lea_65 com_65 see_65 = some out → va_P D vwCl ((wX7_0_4_5_9_10_11_12_13_14 cy ad thr_65 sta_65 pri tcd frt frp deg num goe_65 tai_65 per_65 lea_65 com_65 see_65)) H → va_D A ((wX7_0_4_5_9_10_11_12_13_14 cy ad thr_65 sta_65 pri tcd frt frp deg num goe_65 tai_65 per_65 lea_65 com_65 see_65)) → va_S A s.heap H locs → lv_has ls 12 [(0, .ref (ad 0)), (1, .int x1), (2, .int x2), (4, .int x4_188), (5, .int x5_188), (6, .int x6_188), (8, .int x8_188), (9, .int x9_188), (10, .int x10_188), (11, .int (bi b11_188))] → W p l e RMX7_all s m args below meth c H locs 0 0 QQ (F0 m 188 ls [.int s0_188]) := by
        intro H locs ls x4_188 x5_188 x6_188 x8_188 x9_188 x10_188 b11_188 s0_188 hf hP hD hS hl
        unfold FX7_all_J188 at hf
        refine lv_istore (lv' := [(7, .int s0_188), (0, .ref (ad 0)), (1, .int x1), (2, .int x2), (4, .int x4_188), (5, .int x5_188), (6, .int x6_188), (8, .int x8_188), (9, .int x9_188), (10, .int x10_188), (11, .int (bi b11_188))]) hx hb dX7_all_188 hl (by decide) rfl (fun ls hl => ?_)
        refine lv_iload hx hb dX7_all_190 (lv_at hl 7 rfl) ?_
        refine lv_aload_n hx hb dX7_all_192 rfl (lv_at hl 1 rfl) ?_
        refine va_get (a := (ad 0)) (ci := 7) (v := .ref (ad 13)) (C := RX7) (T := TX7) (N := 28) hx hb hts hin_X7 hown hK hP 0 rfl rfl 15 (by decide) hw_2 (fun _ h => h) rfl dX7_all_193 ?_
        refine lv_iload hx hb dX7_all_196 (lv_at hl 9 rfl) ?_
        replace hf := gi_e hf
        obtain ⟨i_198, hf⟩ := hf
        refine va_iald (a := (ad 13)) hx hb hK hP 7 0 rfl rfl i_198 dX7_all_198 ?_
        refine lv_if_ne (tgt := 206) hx hb dX7_all_199 (by decide) (fun c_199 => ?_) (fun c_199 => ?_)
        · replace hf := it_n c_199 hf
          refine lv_iconst (v := 0) hx hb dX7_all_206 (by decide) ?_
          exact J207 H locs ls x4_188 x5_188 x6_188 s0_188 x9_188 x10_188 b11_188 x8_188 false hf hP hD hS (lv_sub hl [1, 2, 3, 4, 5, 6, 0, 8, 9, 10] rfl)
        · replace hf := it_p c_199 hf
          refine lv_iconst (v := 1) hx hb dX7_all_202 (by decide) ?_
          refine lv_goto (tgt := 207) hx hb dX7_all_203 (by decide) ?_
          exact J207 H locs ls x4_188 x5_188 x6_188 s0_188 x9_188 x10_188 b11_188 x8_188 true hf hP hD hS (lv_sub hl [1, 2, 3, 4, 5, 6, 0, 8, 9, 10] rfl)
      have J162 : ∀ (H : Heap) (locs : List Loc) (ls : Array Slot) (x4_162 : Int32) (x5_162 : Int32) (x7_162 : Int32) (x8_162 : Int32) (x9_162 : Int32) (x10_162 : Int32) (b11_162 : Bool) (s0_162 : Int32), FX7_all_J162 (FX7_all_L65 x1 x2 thr_65 sta_65 pri deg num goe_65 tai_65 per_65 lea_65 com_65 see_65 n65) x1 x2 x4_162 x5_162 x7_162 x8_162 x9_162 x10_162 b11_162 s0_162 thr_65 sta_65 pri deg num goe_65 tai_65 per_65 lea_65 com_65 see_65 = some out → va_P D vwCl ((wX7_0_4_5_9_10_11_12_13_14 cy ad thr_65 sta_65 pri tcd frt frp deg num goe_65 tai_65 per_65 lea_65 com_65 see_65)) H → va_D A ((wX7_0_4_5_9_10_11_12_13_14 cy ad thr_65 sta_65 pri tcd frt frp deg num goe_65 tai_65 per_65 lea_65 com_65 see_65)) → va_S A s.heap H locs → lv_has ls 12 [(0, .ref (ad 0)), (1, .int x1), (2, .int x2), (4, .int x4_162), (5, .int x5_162), (7, .int x7_162), (8, .int x8_162), (9, .int x9_162), (10, .int x10_162), (11, .int (bi b11_162))] → W p l e RMX7_all s m args below meth c H locs 0 0 QQ (F0 m 162 ls [.int s0_162]) := by
        intro H locs ls x4_162 x5_162 x7_162 x8_162 x9_162 x10_162 b11_162 s0_162 hf hP hD hS hl
        unfold FX7_all_J162 at hf
        refine lv_istore (lv' := [(6, .int s0_162), (0, .ref (ad 0)), (1, .int x1), (2, .int x2), (4, .int x4_162), (5, .int x5_162), (7, .int x7_162), (8, .int x8_162), (9, .int x9_162), (10, .int x10_162), (11, .int (bi b11_162))]) hx hb dX7_all_162 hl (by decide) rfl (fun ls hl => ?_)
        refine lv_aload_n hx hb dX7_all_164 rfl (lv_at hl 1 rfl) ?_
        refine va_get (a := (ad 0)) (ci := 7) (v := .ref (ad 10)) (C := RX7) (T := TX7) (N := 28) hx hb hts hin_X7 hown hK hP 0 rfl rfl 12 (by decide) hw_3 (fun _ h => h) rfl dX7_all_165 ?_
        refine lv_iload hx hb dX7_all_168 (lv_at hl 9 rfl) ?_
        replace hf := gi_e hf
        obtain ⟨i_170, hf⟩ := hf
        refine va_iald (a := (ad 10)) hx hb hK hP 4 0 rfl rfl i_170 dX7_all_170 ?_
        refine lv_iload hx hb dX7_all_171 (lv_at hl 6 rfl) ?_
        refine lv_icmp_le (tgt := 186) hx hb dX7_all_173 (by decide) (fun c_173 => ?_) (fun c_173 => ?_)
        · replace hf := it_p c_173 hf
          refine lv_iload hx hb dX7_all_186 (lv_at hl 6 rfl) ?_
          exact J188 H locs ls x4_162 x5_162 s0_162 x8_162 x9_162 x10_162 b11_162 x7_162 hf hP hD hS (lv_sub hl [1, 2, 3, 4, 5, 0, 7, 8, 9, 10] rfl)
        · replace hf := it_n c_173 hf
          refine lv_aload_n hx hb dX7_all_176 rfl (lv_at hl 1 rfl) ?_
          refine va_get (a := (ad 0)) (ci := 7) (v := .ref (ad 10)) (C := RX7) (T := TX7) (N := 28) hx hb hts hin_X7 hown hK hP 0 rfl rfl 12 (by decide) hw_3 (fun _ h => h) rfl dX7_all_177 ?_
          refine lv_iload hx hb dX7_all_180 (lv_at hl 9 rfl) ?_
          replace hf := gi_e hf
          obtain ⟨i_182, hf⟩ := hf
          refine va_iald (a := (ad 10)) hx hb hK hP 4 0 rfl rfl i_182 dX7_all_182 ?_
          refine lv_goto (tgt := 188) hx hb dX7_all_183 (by decide) ?_
          exact J188 H locs ls x4_162 x5_162 s0_162 x8_162 x9_162 x10_162 b11_162 (tai_65 (Int32.toNatClampNeg x10_162)) hf hP hD hS (lv_sub hl [1, 2, 3, 4, 5, 0, 7, 8, 9, 10] rfl)
      have J135 : ∀ (H : Heap) (locs : List Loc) (ls : Array Slot) (x4_135 : Int32) (x6_135 : Int32) (x7_135 : Int32) (x8_135 : Int32) (x9_135 : Int32) (x10_135 : Int32) (b11_135 : Bool) (s0_135 : Int32) (s1_135 : Bool), FX7_all_J135 (FX7_all_L65 x1 x2 thr_65 sta_65 pri deg num goe_65 tai_65 per_65 lea_65 com_65 see_65 n65) x1 x2 x4_135 x6_135 x7_135 x8_135 x9_135 x10_135 b11_135 s0_135 s1_135 thr_65 sta_65 pri deg num goe_65 tai_65 per_65 lea_65 com_65 see_65 = some out → va_P D vwCl ((wX7_0_4_5_9_10_11_12_13_14 cy ad thr_65 sta_65 pri tcd frt frp deg num goe_65 tai_65 per_65 lea_65 com_65 see_65)) H → va_D A ((wX7_0_4_5_9_10_11_12_13_14 cy ad thr_65 sta_65 pri tcd frt frp deg num goe_65 tai_65 per_65 lea_65 com_65 see_65)) → va_S A s.heap H locs → lv_has ls 12 [(0, .ref (ad 0)), (1, .int x1), (2, .int x2), (4, .int x4_135), (6, .int x6_135), (7, .int x7_135), (8, .int x8_135), (9, .int x9_135), (10, .int x10_135), (11, .int (bi b11_135))] → W p l e RMX7_all s m args below meth c H locs 0 0 QQ (F0 m 135 ls [.int (bi s1_135), .int s0_135]) := by
        intro H locs ls x4_135 x6_135 x7_135 x8_135 x9_135 x10_135 b11_135 s0_135 s1_135 hf hP hD hS hl
        unfold FX7_all_J135 at hf
        refine lv_iadd hx hb dX7_all_135 ?_
        refine lv_topi (fun v_136 e_136 => ?_)
        replace hf := bd_at e_136 hf
        clear e_136
        refine lv_istore (lv' := [(5, .int v_136), (0, .ref (ad 0)), (1, .int x1), (2, .int x2), (4, .int x4_135), (6, .int x6_135), (7, .int x7_135), (8, .int x8_135), (9, .int x9_135), (10, .int x10_135), (11, .int (bi b11_135))]) hx hb dX7_all_136 hl (by decide) rfl (fun ls hl => ?_)
        refine lv_aload_n hx hb dX7_all_138 rfl (lv_at hl 1 rfl) ?_
        refine va_get (a := (ad 0)) (ci := 7) (v := .ref (ad 11)) (C := RX7) (T := TX7) (N := 28) hx hb hts hin_X7 hown hK hP 0 rfl rfl 13 (by decide) hw_4 (fun _ h => h) rfl dX7_all_139 ?_
        refine lv_iload hx hb dX7_all_142 (lv_at hl 9 rfl) ?_
        replace hf := gi_e hf
        obtain ⟨i_144, hf⟩ := hf
        refine va_iald (a := (ad 11)) hx hb hK hP 5 0 rfl rfl i_144 dX7_all_144 ?_
        refine lv_iload hx hb dX7_all_145 (lv_at hl 5 rfl) ?_
        refine lv_icmp_le (tgt := 160) hx hb dX7_all_147 (by decide) (fun c_147 => ?_) (fun c_147 => ?_)
        · replace hf := it_p c_147 hf
          refine lv_iload hx hb dX7_all_160 (lv_at hl 5 rfl) ?_
          exact J162 H locs ls x4_135 v_136 x7_135 x8_135 x9_135 x10_135 b11_135 x6_135 hf hP hD hS (lv_sub hl [1, 2, 3, 4, 0, 6, 7, 8, 9, 10] rfl)
        · replace hf := it_n c_147 hf
          refine lv_aload_n hx hb dX7_all_150 rfl (lv_at hl 1 rfl) ?_
          refine va_get (a := (ad 0)) (ci := 7) (v := .ref (ad 11)) (C := RX7) (T := TX7) (N := 28) hx hb hts hin_X7 hown hK hP 0 rfl rfl 13 (by decide) hw_4 (fun _ h => h) rfl dX7_all_151 ?_
          refine lv_iload hx hb dX7_all_154 (lv_at hl 9 rfl) ?_
          replace hf := gi_e hf
          obtain ⟨i_156, hf⟩ := hf
          refine va_iald (a := (ad 11)) hx hb hK hP 5 0 rfl rfl i_156 dX7_all_156 ?_
          refine lv_goto (tgt := 162) hx hb dX7_all_157 (by decide) ?_
          exact J162 H locs ls x4_135 v_136 x7_135 x8_135 x9_135 x10_135 b11_135 (per_65 (Int32.toNatClampNeg x10_135)) hf hP hD hS (lv_sub hl [1, 2, 3, 4, 0, 6, 7, 8, 9, 10] rfl)
      have J115 : ∀ (H : Heap) (locs : List Loc) (ls : Array Slot) (x5_115 : Int32) (x6_115 : Int32) (x7_115 : Int32) (x8_115 : Int32) (x9_115 : Int32) (x10_115 : Int32) (b11_115 : Bool) (s0_115 : Int32) (s1_115 : Bool), FX7_all_J115 (FX7_all_L65 x1 x2 thr_65 sta_65 pri deg num goe_65 tai_65 per_65 lea_65 com_65 see_65 n65) x1 x2 x5_115 x6_115 x7_115 x8_115 x9_115 x10_115 b11_115 s0_115 s1_115 thr_65 sta_65 pri deg num goe_65 tai_65 per_65 lea_65 com_65 see_65 = some out → va_P D vwCl ((wX7_0_4_5_9_10_11_12_13_14 cy ad thr_65 sta_65 pri tcd frt frp deg num goe_65 tai_65 per_65 lea_65 com_65 see_65)) H → va_D A ((wX7_0_4_5_9_10_11_12_13_14 cy ad thr_65 sta_65 pri tcd frt frp deg num goe_65 tai_65 per_65 lea_65 com_65 see_65)) → va_S A s.heap H locs → lv_has ls 12 [(0, .ref (ad 0)), (1, .int x1), (2, .int x2), (5, .int x5_115), (6, .int x6_115), (7, .int x7_115), (8, .int x8_115), (9, .int x9_115), (10, .int x10_115), (11, .int (bi b11_115))] → W p l e RMX7_all s m args below meth c H locs 0 0 QQ (F0 m 115 ls [.int (bi s1_115), .int s0_115]) := by
        intro H locs ls x5_115 x6_115 x7_115 x8_115 x9_115 x10_115 b11_115 s0_115 s1_115 hf hP hD hS hl
        unfold FX7_all_J115 at hf
        refine lv_iadd hx hb dX7_all_115 ?_
        refine lv_topi (fun v_116 e_116 => ?_)
        replace hf := bd_at e_116 hf
        clear e_116
        refine lv_istore (lv' := [(4, .int v_116), (0, .ref (ad 0)), (1, .int x1), (2, .int x2), (5, .int x5_115), (6, .int x6_115), (7, .int x7_115), (8, .int x8_115), (9, .int x9_115), (10, .int x10_115), (11, .int (bi b11_115))]) hx hb dX7_all_116 hl (by decide) rfl (fun ls hl => ?_)
        refine lv_iload hx hb dX7_all_118 (lv_at hl 4 rfl) ?_
        refine lv_aload_n hx hb dX7_all_120 rfl (lv_at hl 1 rfl) ?_
        refine va_get (a := (ad 0)) (ci := 7) (v := .ref (ad 10)) (C := RX7) (T := TX7) (N := 28) hx hb hts hin_X7 hown hK hP 0 rfl rfl 12 (by decide) hw_3 (fun _ h => h) rfl dX7_all_121 ?_
        refine lv_iload hx hb dX7_all_124 (lv_at hl 9 rfl) ?_
        replace hf := gi_e hf
        obtain ⟨i_126, hf⟩ := hf
        refine va_iald (a := (ad 10)) hx hb hK hP 4 0 rfl rfl i_126 dX7_all_126 ?_
        refine lv_if_ne (tgt := 134) hx hb dX7_all_127 (by decide) (fun c_127 => ?_) (fun c_127 => ?_)
        · replace hf := it_n c_127 hf
          refine lv_iconst (v := 0) hx hb dX7_all_134 (by decide) ?_
          exact J135 H locs ls v_116 x6_115 x7_115 x8_115 x9_115 x10_115 b11_115 x5_115 false hf hP hD hS (lv_sub hl [1, 2, 3, 0, 5, 6, 7, 8, 9, 10] rfl)
        · replace hf := it_p c_127 hf
          refine lv_iconst (v := 1) hx hb dX7_all_130 (by decide) ?_
          refine lv_goto (tgt := 135) hx hb dX7_all_131 (by decide) ?_
          exact J135 H locs ls v_116 x6_115 x7_115 x8_115 x9_115 x10_115 b11_115 x5_115 true hf hP hD hS (lv_sub hl [1, 2, 3, 0, 5, 6, 7, 8, 9, 10] rfl)
      have J101 : ∀ (H : Heap) (locs : List Loc) (ls : Array Slot) (x4_101 : Int32) (x5_101 : Int32) (x6_101 : Int32) (x7_101 : Int32) (x8_101 : Int32) (x9_101 : Int32) (x10_101 : Int32) (s0_101 : Bool), FX7_all_J101 (FX7_all_L65 x1 x2 thr_65 sta_65 pri deg num goe_65 tai_65 per_65 lea_65 com_65 see_65 n65) x1 x2 x4_101 x5_101 x6_101 x7_101 x8_101 x9_101 x10_101 s0_101 thr_65 sta_65 pri deg num goe_65 tai_65 per_65 lea_65 com_65 see_65 = some out → va_P D vwCl ((wX7_0_4_5_9_10_11_12_13_14 cy ad thr_65 sta_65 pri tcd frt frp deg num goe_65 tai_65 per_65 lea_65 com_65 see_65)) H → va_D A ((wX7_0_4_5_9_10_11_12_13_14 cy ad thr_65 sta_65 pri tcd frt frp deg num goe_65 tai_65 per_65 lea_65 com_65 see_65)) → va_S A s.heap H locs → lv_has ls 12 [(0, .ref (ad 0)), (1, .int x1), (2, .int x2), (4, .int x4_101), (5, .int x5_101), (6, .int x6_101), (7, .int x7_101), (8, .int x8_101), (9, .int x9_101), (10, .int x10_101)] → W p l e RMX7_all s m args below meth c H locs 0 0 QQ (F0 m 101 ls [.int (bi s0_101)]) := by
        intro H locs ls x4_101 x5_101 x6_101 x7_101 x8_101 x9_101 x10_101 s0_101 hf hP hD hS hl
        unfold FX7_all_J101 at hf
        refine lv_istore (lv' := [(11, .int (bi s0_101)), (0, .ref (ad 0)), (1, .int x1), (2, .int x2), (4, .int x4_101), (5, .int x5_101), (6, .int x6_101), (7, .int x7_101), (8, .int x8_101), (9, .int x9_101), (10, .int x10_101)]) hx hb dX7_all_101 hl (by decide) rfl (fun ls hl => ?_)
        refine lv_iload hx hb dX7_all_103 (lv_at hl 4 rfl) ?_
        refine lv_iload hx hb dX7_all_105 (lv_at hl 0 rfl) ?_
        refine lv_if_eq (tgt := 114) hx hb dX7_all_107 (by decide) (fun c_107 => ?_) (fun c_107 => ?_)
        · replace hf := it_p c_107 hf
          refine lv_iconst (v := 0) hx hb dX7_all_114 (by decide) ?_
          exact J115 H locs ls x5_101 x6_101 x7_101 x8_101 x9_101 x10_101 s0_101 x4_101 false hf hP hD hS (lv_sub hl [1, 2, 3, 5, 6, 7, 8, 9, 10, 0] rfl)
        · replace hf := it_n c_107 hf
          refine lv_iconst (v := 1) hx hb dX7_all_110 (by decide) ?_
          refine lv_goto (tgt := 115) hx hb dX7_all_111 (by decide) ?_
          exact J115 H locs ls x5_101 x6_101 x7_101 x8_101 x9_101 x10_101 s0_101 x4_101 true hf hP hD hS (lv_sub hl [1, 2, 3, 5, 6, 7, 8, 9, 10, 0] rfl)
      have J100 : ∀ (H : Heap) (locs : List Loc) (ls : Array Slot) (x4_100 : Int32) (x5_100 : Int32) (x6_100 : Int32) (x7_100 : Int32) (x8_100 : Int32) (x9_100 : Int32) (x10_100 : Int32), FX7_all_J100 (FX7_all_L65 x1 x2 thr_65 sta_65 pri deg num goe_65 tai_65 per_65 lea_65 com_65 see_65 n65) x1 x2 x4_100 x5_100 x6_100 x7_100 x8_100 x9_100 x10_100 thr_65 sta_65 pri deg num goe_65 tai_65 per_65 lea_65 com_65 see_65 = some out → va_P D vwCl ((wX7_0_4_5_9_10_11_12_13_14 cy ad thr_65 sta_65 pri tcd frt frp deg num goe_65 tai_65 per_65 lea_65 com_65 see_65)) H → va_D A ((wX7_0_4_5_9_10_11_12_13_14 cy ad thr_65 sta_65 pri tcd frt frp deg num goe_65 tai_65 per_65 lea_65 com_65 see_65)) → va_S A s.heap H locs → lv_has ls 12 [(0, .ref (ad 0)), (1, .int x1), (2, .int x2), (4, .int x4_100), (5, .int x5_100), (6, .int x6_100), (7, .int x7_100), (8, .int x8_100), (9, .int x9_100), (10, .int x10_100)] → W p l e RMX7_all s m args below meth c H locs 0 0 QQ (F0 m 100 ls []) := by
        intro H locs ls x4_100 x5_100 x6_100 x7_100 x8_100 x9_100 x10_100 hf hP hD hS hl
        unfold FX7_all_J100 at hf
        refine lv_iconst (v := 0) hx hb dX7_all_100 (by decide) ?_
        exact J101 H locs ls x4_100 x5_100 x6_100 x7_100 x8_100 x9_100 x10_100 false hf hP hD hS (lv_sub hl [0, 1, 2, 3, 4, 5, 6, 7, 8, 9] rfl)
      refine lv_iload hx hb dX7_all_65 (lv_at hl 9 rfl) ?_
      refine lv_aload_n hx hb dX7_all_67 rfl (lv_at hl 0 rfl) ?_
      refine va_get (a := (ad 0)) (ci := 7) (v := .int pri) (C := RX7) (T := TX7) (N := 28) hx hb hts hin_X7 hown hK hP 0 rfl rfl 2 (by decide) hw_5 (fun _ h => h) rfl dX7_all_68 ?_
      refine lv_icmp_ge (tgt := 241) hx hb dX7_all_71 (by decide) (fun c_71 => ?_) (fun c_71 => ?_)
      · replace hf := it_p c_71 hf
        refine lv_iload_n hx hb dX7_all_241 rfl (lv_at hl 2 rfl) ?_
        refine lv_if_ne (tgt := 250) hx hb dX7_all_242 (by decide) (fun c_242 => ?_) (fun c_242 => ?_)
        · replace hf := it_n c_242 hf
          refine lv_iload_n hx hb dX7_all_250 rfl (lv_at hl 2 rfl) ?_
          refine lv_iconst (v := 1) hx hb dX7_all_251 (by decide) ?_
          refine lv_icmp_ne (tgt := 260) hx hb dX7_all_252 (by decide) (fun c_252 => ?_) (fun c_252 => ?_)
          · replace hf := it_n c_252 hf
            refine lv_iload_n hx hb dX7_all_260 rfl (lv_at hl 2 rfl) ?_
            refine lv_iconst (v := 2) hx hb dX7_all_261 (by decide) ?_
            refine lv_icmp_ne (tgt := 270) hx hb dX7_all_262 (by decide) (fun c_262 => ?_) (fun c_262 => ?_)
            · replace hf := it_n c_262 hf
              refine lv_iload_n hx hb dX7_all_270 rfl (lv_at hl 2 rfl) ?_
              refine lv_iconst (v := 3) hx hb dX7_all_271 (by decide) ?_
              refine lv_icmp_ne (tgt := 280) hx hb dX7_all_272 (by decide) (fun c_272 => ?_) (fun c_272 => ?_)
              · replace hf := it_n c_272 hf
                refine lv_iload_n hx hb dX7_all_280 rfl (lv_at hl 2 rfl) ?_
                refine lv_iconst (v := 4) hx hb dX7_all_281 (by decide) ?_
                refine lv_icmp_ne (tgt := 290) hx hb dX7_all_282 (by decide) (fun c_282 => ?_) (fun c_282 => ?_)
                · replace hf := it_n c_282 hf
                  refine lv_iload hx hb dX7_all_290 (lv_at hl 8 rfl) ?_
                  obtain rfl := Option.some.inj hf
                  rw [← hQe]
                  exact W.iret (v := x9_65) hx hb hr (fun t ht hW => ⟨rfl, by rw [ht]; exact hP, hS.F ht⟩) hS.2.2 dX7_all_292
                · replace hf := it_p c_282 hf
                  refine lv_iload hx hb dX7_all_285 (lv_at hl 7 rfl) ?_
                  refine lv_goto (tgt := 292) hx hb dX7_all_287 (by decide) ?_
                  obtain rfl := Option.some.inj hf
                  rw [← hQe]
                  exact W.iret (v := x8_65) hx hb hr (fun t ht hW => ⟨rfl, by rw [ht]; exact hP, hS.F ht⟩) hS.2.2 dX7_all_292
              · replace hf := it_p c_272 hf
                refine lv_iload hx hb dX7_all_275 (lv_at hl 6 rfl) ?_
                refine lv_goto (tgt := 292) hx hb dX7_all_277 (by decide) ?_
                obtain rfl := Option.some.inj hf
                rw [← hQe]
                exact W.iret (v := x7_65) hx hb hr (fun t ht hW => ⟨rfl, by rw [ht]; exact hP, hS.F ht⟩) hS.2.2 dX7_all_292
            · replace hf := it_p c_262 hf
              refine lv_iload hx hb dX7_all_265 (lv_at hl 5 rfl) ?_
              refine lv_goto (tgt := 292) hx hb dX7_all_267 (by decide) ?_
              obtain rfl := Option.some.inj hf
              rw [← hQe]
              exact W.iret (v := x6_65) hx hb hr (fun t ht hW => ⟨rfl, by rw [ht]; exact hP, hS.F ht⟩) hS.2.2 dX7_all_292
          · replace hf := it_p c_252 hf
            refine lv_iload hx hb dX7_all_255 (lv_at hl 4 rfl) ?_
            refine lv_goto (tgt := 292) hx hb dX7_all_257 (by decide) ?_
            obtain rfl := Option.some.inj hf
            rw [← hQe]
            exact W.iret (v := x5_65) hx hb hr (fun t ht hW => ⟨rfl, by rw [ht]; exact hP, hS.F ht⟩) hS.2.2 dX7_all_292
        · replace hf := it_p c_242 hf
          refine lv_iload hx hb dX7_all_245 (lv_at hl 3 rfl) ?_
          refine lv_goto (tgt := 292) hx hb dX7_all_247 (by decide) ?_
          obtain rfl := Option.some.inj hf
          rw [← hQe]
          exact W.iret (v := x4_65) hx hb hr (fun t ht hW => ⟨rfl, by rw [ht]; exact hP, hS.F ht⟩) hS.2.2 dX7_all_292
      · replace hf := it_n c_71 hf
        refine lv_aload_n hx hb dX7_all_74 rfl (lv_at hl 0 rfl) ?_
        refine va_get (a := (ad 0)) (ci := 7) (v := .ref (ad 10)) (C := RX7) (T := TX7) (N := 28) hx hb hts hin_X7 hown hK hP 0 rfl rfl 12 (by decide) hw_3 (fun _ h => h) rfl dX7_all_75 ?_
        refine lv_iload hx hb dX7_all_78 (lv_at hl 9 rfl) ?_
        replace hf := gi_e hf
        obtain ⟨i_80, hf⟩ := hf
        refine va_iald (a := (ad 10)) hx hb hK hP 4 0 rfl rfl i_80 dX7_all_80 ?_
        refine lv_if_ne (tgt := 100) hx hb dX7_all_81 (by decide) (fun c_81 => ?_) (fun c_81 => ?_)
        · replace hf := it_n c_81 hf
          exact J100 H locs ls x4_65 x5_65 x6_65 x7_65 x8_65 x9_65 x10_65 hf hP hD hS (lv_sub hl [0, 1, 2, 3, 4, 5, 6, 7, 8, 9] rfl)
        · replace hf := it_p c_81 hf
          refine lv_aload_n hx hb dX7_all_84 rfl (lv_at hl 0 rfl) ?_
          refine va_get (a := (ad 0)) (ci := 7) (v := .ref (ad 12)) (C := RX7) (T := TX7) (N := 28) hx hb hts hin_X7 hown hK hP 0 rfl rfl 14 (by decide) hw_6 (fun _ h => h) rfl dX7_all_85 ?_
          refine lv_iload hx hb dX7_all_88 (lv_at hl 9 rfl) ?_
          replace hf := gi_e hf
          obtain ⟨i_90, hf⟩ := hf
          refine va_iald (a := (ad 12)) hx hb hK hP 6 0 rfl rfl i_90 dX7_all_90 ?_
          refine lv_iload hx hb dX7_all_91 (lv_at hl 9 rfl) ?_
          refine lv_icmp_ne (tgt := 100) hx hb dX7_all_93 (by decide) (fun c_93 => ?_) (fun c_93 => ?_)
          · replace hf := it_n c_93 hf
            exact J100 H locs ls x4_65 x5_65 x6_65 x7_65 x8_65 x9_65 x10_65 hf hP hD hS (lv_sub hl [0, 1, 2, 3, 4, 5, 6, 7, 8, 9] rfl)
          · replace hf := it_p c_93 hf
            refine lv_iconst (v := 1) hx hb dX7_all_96 (by decide) ?_
            refine lv_goto (tgt := 101) hx hb dX7_all_97 (by decide) ?_
            exact J101 H locs ls x4_65 x5_65 x6_65 x7_65 x8_65 x9_65 x10_65 true hf hP hD hS (lv_sub hl [0, 1, 2, 3, 4, 5, 6, 7, 8, 9] rfl)
  unfold FX7_all at hf
  refine lv_aload_n hx hb dX7_all_0 rfl (lv_at hl 0 rfl) ?_
  refine lv_iconst (v := 0) hx hb dX7_all_1 (by decide) ?_
  refine va_put (a := (ad 0)) (ci := 7) (v := .int 0) (ty := .int) (C := RX7) (T := TX7) (N := 28) hx hb hts hin_X7 tyX7 tyX7_ok nmX7 hown hK hP hD hS 0 rfl rfl 0 (by decide) hw_7 (fun _ h => h) rfl (by decide +kernel) rfl rfl (Nat.le_of_ble_eq_true rfl) dX7_all_2 (fun H locs hP hD hS => ?_)
  have hP : va_P D vwCl ((wX7_0_4_5_9_10_11_12_13_14 cy ad 0 sta pri tcd frt frp deg num goe tai per lea com see)) H := hP
  have hD : va_D A ((wX7_0_4_5_9_10_11_12_13_14 cy ad 0 sta pri tcd frt frp deg num goe tai per lea com see)) := hD
  refine lv_iload_n hx hb dX7_all_5 rfl (lv_at hl 1 rfl) ?_
  replace hf := ob_e hf
  obtain ⟨u_6, hu_6, hf⟩ := hf
  refine isR (As := [.int x1]) (rest := []) (st1 := [.int (bi u_6)]) ⟨hx, hb, hml, hown, hts⟩ hK hN (KX7_isPlace l D cy x1 H.size hu_6) (va_cwS 1 hts gX7_all_X7_isPlace rfl rfl rfl (by decide +kernel) ⟨Nat.le_of_ble_eq_true rfl, Nat.le_of_ble_eq_true rfl⟩) P_nil rfl hl.1 rfl (Nat.le_of_ble_eq_true rfl) rfl dX7_all_6 ⟨Nat.zero_le _, Nat.zero_le _⟩ ?_
  refine lv_if_eq (tgt := 24) hx hb dX7_all_9 (by decide) (fun c_9 => ?_) (fun c_9 => ?_)
  · replace hf := it_p c_9 hf
    refine lv_ldc (own := RX7) (v := (-1000001)) hx hb hown hw_0 dX7_all_24 ?_
    obtain rfl := Option.some.inj hf
    rw [← hQe]
    exact W.iret (v := (-1000001)) hx hb hr (fun t ht hW => ⟨rfl, by rw [ht]; exact hP, hS.F ht⟩) hS.2.2 dX7_all_26
  · replace hf := it_n c_9 hf
    refine lv_iload_n hx hb dX7_all_12 rfl (lv_at hl 2 rfl) ?_
    refine lv_i2l hx hb dX7_all_13 rfl ?_
    refine lv_lconst (v := 0) hx hb dX7_all_14 (by decide) ?_
    refine lv_ldc2 (own := RX7) (v := 5) hx hb hown hw_1 dX7_all_15 ?_
    replace hf := ob_e hf
    obtain ⟨u_18, hu_18, hf⟩ := hf
    refine isR (As := [.long (Int32.toInt64 x2), .long 0, .long 5]) (rest := []) (st1 := [.int (bi u_18)]) ⟨hx, hb, hml, hown, hts⟩ hK hN (KX7_in l D cy (Int32.toInt64 x2) 0 5 H.size hu_18) (va_cwS 3 hts gX7_all_X7_in rfl rfl rfl (by decide +kernel) ⟨Nat.le_of_ble_eq_true rfl, Nat.le_of_ble_eq_true rfl⟩) P_nil rfl hl.1 rfl (Nat.le_of_ble_eq_true rfl) rfl dX7_all_18 ⟨Nat.zero_le _, Nat.zero_le _⟩ ?_
    refine lv_if_ne (tgt := 27) hx hb dX7_all_21 (by decide) (fun c_21 => ?_) (fun c_21 => ?_)
    · replace hf := it_n c_21 hf
      refine lv_aload_n hx hb dX7_all_27 rfl (lv_at hl 0 rfl) ?_
      refine lv_iload_n hx hb dX7_all_28 rfl (lv_at hl 1 rfl) ?_
      replace hf := ob_e hf
      obtain ⟨u_29, hu_29, hf⟩ := hf
      refine ivW (As := [.int x1]) (rest := []) (st1 := [.int u_29.1]) (is := [0, 1]) (w1 := (wX7_0_4 cy ad 0 u_29.2 pri tcd frt frp deg)) ⟨hx, hb, hml, hown, hts⟩ hK hN (KX7_look l D cy ad 0 sta pri tcd frt frp deg x1 H.size hu_29) (cwV 1 hts gX7_all_X7_look rfl rfl rfl (by decide +kernel) ⟨Nat.le_of_ble_eq_true rfl, Nat.le_of_ble_eq_true rfl⟩) (va_recv hK hP (ci := 7) (q0 := 0) rfl rfl) hP hD hS hA P_nil (sepW_nil _) (by decide) rfl rfl rfl hl.1 rfl (Nat.le_of_ble_eq_true rfl) rfl dX7_all_29 ⟨Nat.zero_le _, Nat.zero_le _⟩ (fun H locs hP hD hS => ?_)
      have hP : va_P D vwCl ((wX7_0_4_5_9_10_11_12_13_14 cy ad 0 u_29.2 pri tcd frt frp deg num goe tai per lea com see)) H := hP
      have hD : va_D A ((wX7_0_4_5_9_10_11_12_13_14 cy ad 0 u_29.2 pri tcd frt frp deg num goe tai per lea com see)) := hD
      refine lv_topi (fun v_32 e_32 => ?_)
      replace hf := bd_at e_32 hf
      clear e_32
      refine lv_istore_n (lv' := [(3, .int v_32), (0, .ref (ad 0)), (1, .int x1), (2, .int x2)]) hx hb dX7_all_32 rfl hl (by decide) rfl (fun ls hl => ?_)
      refine lv_iload_n hx hb dX7_all_33 rfl (lv_at hl 0 rfl) ?_
      refine lv_if_ge (tgt := 39) hx hb dX7_all_34 (by decide) (fun c_34 => ?_) (fun c_34 => ?_)
      · replace hf := it_p c_34 hf
        refine lv_aload_n hx hb dX7_all_39 rfl (lv_at hl 1 rfl) ?_
        refine lv_iload_n hx hb dX7_all_40 rfl (lv_at hl 2 rfl) ?_
        replace hf := ob_e hf
        obtain ⟨u_41, hu_41, hf⟩ := hf
        refine ivW (As := [.int x1]) (rest := []) (st1 := []) (is := [0, 1, 2, 3, 4, 5, 6, 7, 8]) (w1 := (wX7_0_4_5_9_10_11_12_13_14 cy ad 0 u_29.2 pri tcd frt frp deg num u_41.1 u_41.2.1 u_41.2.2.1 u_41.2.2.2.1 u_41.2.2.2.2.1 u_41.2.2.2.2.2)) ⟨hx, hb, hml, hown, hts⟩ hK hN (KX7_findWays l D cy ad 0 u_29.2 pri tcd frt frp deg num goe tai per lea com see x1 H.size hu_41) (cwV 1 hts gX7_all_X7_findWays rfl rfl rfl (by decide +kernel) ⟨Nat.le_of_ble_eq_true rfl, Nat.le_of_ble_eq_true rfl⟩) (va_recv hK hP (ci := 7) (q0 := 0) rfl rfl) hP hD hS hA P_nil (sepW_nil _) (by decide) rfl rfl rfl hl.1 rfl (Nat.le_of_ble_eq_true rfl) rfl dX7_all_41 ⟨Nat.zero_le _, Nat.zero_le _⟩ (fun H locs hP hD hS => ?_)
        have hP : va_P D vwCl ((wX7_0_4_5_9_10_11_12_13_14 cy ad 0 u_29.2 pri tcd frt frp deg num u_41.1 u_41.2.1 u_41.2.2.1 u_41.2.2.2.1 u_41.2.2.2.2.1 u_41.2.2.2.2.2)) H := hP
        have hD : va_D A ((wX7_0_4_5_9_10_11_12_13_14 cy ad 0 u_29.2 pri tcd frt frp deg num u_41.1 u_41.2.1 u_41.2.2.1 u_41.2.2.2.1 u_41.2.2.2.2.1 u_41.2.2.2.2.2)) := hD
        refine lv_iconst (v := 0) hx hb dX7_all_44 (by decide) ?_
        refine lv_istore (lv' := [(4, .int 0), (3, .int v_32), (0, .ref (ad 0)), (1, .int x1), (2, .int x2)]) hx hb dX7_all_45 hl (by decide) rfl (fun ls hl => ?_)
        refine lv_iconst (v := 0) hx hb dX7_all_47 (by decide) ?_
        refine lv_istore (lv' := [(5, .int 0), (4, .int 0), (3, .int v_32), (0, .ref (ad 0)), (1, .int x1), (2, .int x2)]) hx hb dX7_all_48 hl (by decide) rfl (fun ls hl => ?_)
        refine lv_iconst (v := 0) hx hb dX7_all_50 (by decide) ?_
        refine lv_istore (lv' := [(6, .int 0), (5, .int 0), (4, .int 0), (3, .int v_32), (0, .ref (ad 0)), (1, .int x1), (2, .int x2)]) hx hb dX7_all_51 hl (by decide) rfl (fun ls hl => ?_)
        refine lv_iconst (v := 0) hx hb dX7_all_53 (by decide) ?_
        refine lv_istore (lv' := [(7, .int 0), (6, .int 0), (5, .int 0), (4, .int 0), (3, .int v_32), (0, .ref (ad 0)), (1, .int x1), (2, .int x2)]) hx hb dX7_all_54 hl (by decide) rfl (fun ls hl => ?_)
        refine lv_iconst (v := 0) hx hb dX7_all_56 (by decide) ?_
        refine lv_istore (lv' := [(8, .int 0), (7, .int 0), (6, .int 0), (5, .int 0), (4, .int 0), (3, .int v_32), (0, .ref (ad 0)), (1, .int x1), (2, .int x2)]) hx hb dX7_all_57 hl (by decide) rfl (fun ls hl => ?_)
        refine lv_iconst (v := 0) hx hb dX7_all_59 (by decide) ?_
        refine lv_istore (lv' := [(9, .int 0), (8, .int 0), (7, .int 0), (6, .int 0), (5, .int 0), (4, .int 0), (3, .int v_32), (0, .ref (ad 0)), (1, .int x1), (2, .int x2)]) hx hb dX7_all_60 hl (by decide) rfl (fun ls hl => ?_)
        refine lv_iconst (v := 0) hx hb dX7_all_62 (by decide) ?_
        refine lv_istore (lv' := [(10, .int 0), (9, .int 0), (8, .int 0), (7, .int 0), (6, .int 0), (5, .int 0), (4, .int 0), (3, .int v_32), (0, .ref (ad 0)), (1, .int x1), (2, .int x2)]) hx hb dX7_all_63 hl (by decide) rfl (fun ls hl => ?_)
        exact L65 0 u_29.2 u_41.1 u_41.2.1 u_41.2.2.1 u_41.2.2.2.1 u_41.2.2.2.2.1 u_41.2.2.2.2.2 FU H locs ls 0 0 0 0 0 0 0 hf hP hD hS (lv_sub hl [8, 9, 10, 6, 5, 4, 3, 2, 1, 0] rfl)
      · replace hf := it_n c_34 hf
        refine lv_iload_n hx hb dX7_all_37 rfl (lv_at hl 0 rfl) ?_
        obtain rfl := Option.some.inj hf
        rw [← hQe]
        exact W.iret (v := v_32) hx hb hr (fun t ht hW => ⟨rfl, by rw [ht]; exact hP, hS.F ht⟩) hS.2.2 dX7_all_38
    · replace hf := it_p c_21 hf
      refine lv_ldc (own := RX7) (v := (-1000001)) hx hb hown hw_0 dX7_all_24 ?_
      obtain rfl := Option.some.inj hf
      rw [← hQe]
      exact W.iret (v := (-1000001)) hx hb hr (fun t ht hW => ⟨rfl, by rw [ht]; exact hP, hS.F ht⟩) hS.2.2 dX7_all_26
def FX7_alike_J45   (thr_45 : Int32) (goe_45 : Nat → Int32) (tai_45 : Nat → Int32) (per_45 : Nat → Int32) (lea_45 : Nat → Int32) (com_45 : Nat → Int32) (see_45 : Nat → Int32) (cou_45 : Nat → Int32) : Option (Int32 × (Int32) × (Int32) × (Nat → Int32) × (Nat → Int32) × (Nat → Int32) × (Nat → Int32) × (Nat → Int32) × (Nat → Int32) × (Nat → Int32)) := (ob (FX7_found 1) (fun u_47 => some (u_47.1, thr_45, u_47.2, goe_45, tai_45, per_45, lea_45, com_45, see_45, cou_45)))
def FX7_alike_J197  (k171 : Bool → Int32 → Option (Int32 × (Int32) × (Int32) × (Nat → Int32) × (Nat → Int32) × (Nat → Int32) × (Nat → Int32) × (Nat → Int32) × (Nat → Int32) × (Nat → Int32))) (x4_197 : Int32) (s0_197 : Bool) (thr_171 : Int32) (sta_171 : Int32) (goe_171 : Nat → Int32) (tai_171 : Nat → Int32) (per_171 : Nat → Int32) (lea_171 : Nat → Int32) (com_171 : Nat → Int32) (see_171 : Nat → Int32) (cou_171 : Nat → Int32) : Option (Int32 × (Int32) × (Int32) × (Nat → Int32) × (Nat → Int32) × (Nat → Int32) × (Nat → Int32) × (Nat → Int32) × (Nat → Int32) × (Nat → Int32)) := (bd (x4_197 + 1) (fun v_198 => k171 s0_197 v_198))
def FX7_alike_J196  (k171 : Bool → Int32 → Option (Int32 × (Int32) × (Int32) × (Nat → Int32) × (Nat → Int32) × (Nat → Int32) × (Nat → Int32) × (Nat → Int32) × (Nat → Int32) × (Nat → Int32))) (x4_196 : Int32) (thr_171 : Int32) (sta_171 : Int32) (goe_171 : Nat → Int32) (tai_171 : Nat → Int32) (per_171 : Nat → Int32) (lea_171 : Nat → Int32) (com_171 : Nat → Int32) (see_171 : Nat → Int32) (cou_171 : Nat → Int32) : Option (Int32 × (Int32) × (Int32) × (Nat → Int32) × (Nat → Int32) × (Nat → Int32) × (Nat → Int32) × (Nat → Int32) × (Nat → Int32) × (Nat → Int32)) := (FX7_alike_J197 k171 x4_196 false thr_171 sta_171 goe_171 tai_171 per_171 lea_171 com_171 see_171 cou_171)
def FX7_alike_L171   (thr_171 : Int32) (sta_171 : Int32) (goe_171 : Nat → Int32) (tai_171 : Nat → Int32) (per_171 : Nat → Int32) (lea_171 : Nat → Int32) (com_171 : Nat → Int32) (see_171 : Nat → Int32) (cou_171 : Nat → Int32) : Nat → Bool → Int32 → Option (Int32 × (Int32) × (Int32) × (Nat → Int32) × (Nat → Int32) × (Nat → Int32) × (Nat → Int32) × (Nat → Int32) × (Nat → Int32) × (Nat → Int32))
  | 0, _, _ => none
  | fuel + 1, b3_171, x4_171 => (if 40000 ≤ x4_171 then (if (bi b3_171) = 0 then ((some (0, thr_171, sta_171, goe_171, tai_171, per_171, lea_171, com_171, see_171, cou_171))) else ((some (1, thr_171, sta_171, goe_171, tai_171, per_171, lea_171, com_171, see_171, cou_171)))) else (if (bi b3_171) = 0 then FX7_alike_J196 (FX7_alike_L171 thr_171 sta_171 goe_171 tai_171 per_171 lea_171 com_171 see_171 cou_171 fuel) x4_171 thr_171 sta_171 goe_171 tai_171 per_171 lea_171 com_171 see_171 cou_171 else (gi x4_171 40000 (if (cou_171 (Int32.toNatClampNeg x4_171)) = 0 then (FX7_alike_J197 (FX7_alike_L171 thr_171 sta_171 goe_171 tai_171 per_171 lea_171 com_171 see_171 cou_171 fuel) x4_171 true thr_171 sta_171 goe_171 tai_171 per_171 lea_171 com_171 see_171 cou_171) else FX7_alike_J196 (FX7_alike_L171 thr_171 sta_171 goe_171 tai_171 per_171 lea_171 com_171 see_171 cou_171 fuel) x4_171 thr_171 sta_171 goe_171 tai_171 per_171 lea_171 com_171 see_171 cou_171))))
def FX7_alike_L126   (thr_126 : Int32) (sta_126 : Int32) (pri : Int32) (goe_126 : Nat → Int32) (tai_126 : Nat → Int32) (per_126 : Nat → Int32) (lea_126 : Nat → Int32) (com_126 : Nat → Int32) (see_126 : Nat → Int32) : Nat → Int32 → (Nat → Int32) → Option (Int32 × (Int32) × (Int32) × (Nat → Int32) × (Nat → Int32) × (Nat → Int32) × (Nat → Int32) × (Nat → Int32) × (Nat → Int32) × (Nat → Int32))
  | 0, _, _ => none
  | fuel + 1, x3_126, cou_126 => (if pri ≤ x3_126 then (FX7_alike_L171 thr_126 sta_126 goe_126 tai_126 per_126 lea_126 com_126 see_126 cou_126 FU true 0) else (gi x3_126 200 (gi x3_126 200 (gi ((200 * (tai_126 (Int32.toNatClampNeg x3_126))) + (per_126 (Int32.toNatClampNeg x3_126))) 40000 (gi ((200 * (tai_126 (Int32.toNatClampNeg x3_126))) + (per_126 (Int32.toNatClampNeg x3_126))) 40000 (bd (x3_126 + 1) (fun v_160 => (FX7_alike_L126 thr_126 sta_126 pri goe_126 tai_126 per_126 lea_126 com_126 see_126 fuel) v_160 (upd cou_126 (Int32.toNatClampNeg ((200 * (tai_126 (Int32.toNatClampNeg x3_126))) + (per_126 (Int32.toNatClampNeg x3_126)))) ((cou_126 (Int32.toNatClampNeg ((200 * (tai_126 (Int32.toNatClampNeg x3_126))) + (per_126 (Int32.toNatClampNeg x3_126))))) - 1)))))))))
def FX7_alike_L79   (x2 : Int32) (thr_79 : Int32) (sta_79 : Int32) (pri : Int32) (deg : Nat → Int32) (num : Nat → Int32) (goe_79 : Nat → Int32) (tai_79 : Nat → Int32) (per_79 : Nat → Int32) (lea_79 : Nat → Int32) (com_79 : Nat → Int32) (see_79 : Nat → Int32) : Nat → Int32 → (Nat → Int32) → Option (Int32 × (Int32) × (Int32) × (Nat → Int32) × (Nat → Int32) × (Nat → Int32) × (Nat → Int32) × (Nat → Int32) × (Nat → Int32) × (Nat → Int32))
  | 0, _, _ => none
  | fuel + 1, x3_79, cou_79 => (if pri ≤ x3_79 then (ob (FX7_findWays pri deg num goe_79 tai_79 per_79 lea_79 com_79 see_79 x2) (fun u_121 => FX7_alike_L126 thr_79 sta_79 pri u_121.1 u_121.2.1 u_121.2.2.1 u_121.2.2.2.1 u_121.2.2.2.2.1 u_121.2.2.2.2.2 FU 0 cou_79)) else (gi x3_79 200 (gi x3_79 200 (gi ((200 * (tai_79 (Int32.toNatClampNeg x3_79))) + (per_79 (Int32.toNatClampNeg x3_79))) 40000 (gi ((200 * (tai_79 (Int32.toNatClampNeg x3_79))) + (per_79 (Int32.toNatClampNeg x3_79))) 40000 (bd (x3_79 + 1) (fun v_113 => (FX7_alike_L79 x2 thr_79 sta_79 pri deg num goe_79 tai_79 per_79 lea_79 com_79 see_79 fuel) v_113 (upd cou_79 (Int32.toNatClampNeg ((200 * (tai_79 (Int32.toNatClampNeg x3_79))) + (per_79 (Int32.toNatClampNeg x3_79)))) ((cou_79 (Int32.toNatClampNeg ((200 * (tai_79 (Int32.toNatClampNeg x3_79))) + (per_79 (Int32.toNatClampNeg x3_79))))) + 1)))))))))
def FX7_alike_L53   (x1 : Int32) (x2 : Int32) (thr_53 : Int32) (sta_53 : Int32) (pri : Int32) (deg : Nat → Int32) (num : Nat → Int32) (goe_53 : Nat → Int32) (tai_53 : Nat → Int32) (per_53 : Nat → Int32) (lea_53 : Nat → Int32) (com_53 : Nat → Int32) (see_53 : Nat → Int32) : Nat → Int32 → (Nat → Int32) → Option (Int32 × (Int32) × (Int32) × (Nat → Int32) × (Nat → Int32) × (Nat → Int32) × (Nat → Int32) × (Nat → Int32) × (Nat → Int32) × (Nat → Int32))
  | 0, _, _ => none
  | fuel + 1, x3_53, cou_53 => (if 40000 ≤ x3_53 then (ob (FX7_findWays pri deg num goe_53 tai_53 per_53 lea_53 com_53 see_53 x1) (fun u_74 => FX7_alike_L79 x2 thr_53 sta_53 pri deg num u_74.1 u_74.2.1 u_74.2.2.1 u_74.2.2.2.1 u_74.2.2.2.2.1 u_74.2.2.2.2.2 FU 0 cou_53)) else (gi x3_53 40000 (bd (x3_53 + 1) (fun v_66 => (FX7_alike_L53 x1 x2 thr_53 sta_53 pri deg num goe_53 tai_53 per_53 lea_53 com_53 see_53 fuel) v_66 (upd cou_53 (Int32.toNatClampNeg x3_53) 0)))))
def FX7_alike  (sta : Int32) (pri : Int32) (deg : Nat → Int32) (num : Nat → Int32) (goe : Nat → Int32) (tai : Nat → Int32) (per : Nat → Int32) (lea : Nat → Int32) (com : Nat → Int32) (see : Nat → Int32) (cou : Nat → Int32) (x1 : Int32) (x2 : Int32) : Option (Int32 × (Int32) × (Int32) × (Nat → Int32) × (Nat → Int32) × (Nat → Int32) × (Nat → Int32) × (Nat → Int32) × (Nat → Int32) × (Nat → Int32)) := (ob (FX7_isPlace x1) (fun u_6 => if (bi u_6) = 0 then (some ((-1000001), 0, sta, goe, tai, per, lea, com, see, cou)) else (ob (FX7_isPlace x2) (fun u_13 => if (bi u_13) = 0 then (some ((-1000001), 0, sta, goe, tai, per, lea, com, see, cou)) else (gi x1 10 (if (deg (Int32.toNatClampNeg x1)) < 0 then FX7_alike_J45 0 goe tai per lea com see cou else (gi x2 10 (if 0 ≤ (deg (Int32.toNatClampNeg x2)) then (FX7_alike_L53 x1 x2 0 0 pri deg num goe tai per lea com see FU 0 cou) else FX7_alike_J45 0 goe tai per lea com see cou))))))))
abbrev RMX7_alike : Room := { frames := 2, cells := 0, slots := 0, locals := 50 }
set_option maxHeartbeats 4000000 in
set_option maxRecDepth 100000 in
theorem KX7_alike (l : Launch) (D : va_G) (cy : Nat → ClassId) (ad : Nat → Nat) (thr : Int32) (sta : Int32) (pri : Int32) (tcd : Int32) (frt : Int32) (frp : Int32) (deg : Nat → Int32) (num : Nat → Int32) (goe : Nat → Int32) (tai : Nat → Int32) (per : Nat → Int32) (lea : Nat → Int32) (com : Nat → Int32) (see : Nat → Int32) (cou : Nat → Int32) (x1 : Int32) (x2 : Int32) (sz : Nat) {out : Int32 × (Int32) × (Int32) × (Nat → Int32) × (Nat → Int32) × (Nat → Int32) × (Nat → Int32) × (Nat → Int32) × (Nat → Int32) × (Nat → Int32)} (hf : FX7_alike sta pri deg num goe tai per lea com see cou x1 x2 = some out) : Met l yX7_alike wsX7_alike RMX7_alike (PW D cy [.ref (ad 0), .int x1, .int x2] sz ((wX7_0_4_5_9_10_11_12_13_14_16 cy ad thr sta pri tcd frt frp deg num goe tai per lea com see cou)) []) (QW D (some (.int out.1)) ((wX7_0_4_5_9_10_11_12_13_14_16 cy ad out.2.1 out.2.2.1 pri tcd frt frp deg num out.2.2.2.1 out.2.2.2.2.1 out.2.2.2.2.2.1 out.2.2.2.2.2.2.1 out.2.2.2.2.2.2.2.1 out.2.2.2.2.2.2.2.2.1 out.2.2.2.2.2.2.2.2.2)) (va_A ((wX7_0_4_5_9_10_11_12_13_14_16 cy ad thr sta pri tcd frt frp deg num goe tai per lea com see cou)) sz)) 0 0 (va_A ((wX7_0_4_5_9_10_11_12_13_14_16 cy ad thr sta pri tcd frt frp deg num goe tai per lea com see cou)) sz) := by
  refine Met.ofW (cc := cX7_alike) (maxL := 5) (ret := (some .int)) (by decide +kernel) rfl ?_
  intro p e s m args below meth c s₁ B hml hv
  obtain ⟨hav, hsz, hP, hR0, hK, hN, hD0, hsep⟩ := hv
  have hx := B.exec
  have hb := B.bytes
  have hr := B.returns
  have hts := atoms_spec (ws := wsX7_alike) B.pre
  have hown : s.vm.findClass RX7 = some m.cls := findClass_of_methodNamed B.named
  have hlocks := B.notSynchronized
  subst hsz
  have hin_X7 : ∀ w ∈ u_ws RX7 TX7 28, w ∈ wsX7_alike := by decide +kernel
  have hw_0 := hts (.constant RX7 108 (-1000001)) (by decide +kernel)
  have hw_1 := hts (.constant RX7 64 (40000)) (by decide +kernel)
  have hw_2 := hts (.fieldLink RX7 65 "ReturnPointsModel" "counted" "[I") (by decide +kernel)
  have hw_3 := hts (.fieldLink RX7 98 "ReturnPointsModel" "prime" "I") (by decide +kernel)
  have hw_4 := hts (.fieldLink RX7 46 "ReturnPointsModel" "tail" "[I") (by decide +kernel)
  have hw_5 := hts (.fieldLink RX7 49 "ReturnPointsModel" "period" "[I") (by decide +kernel)
  have hw_6 := hts (.fieldLink RX7 1 "ReturnPointsModel" "thrown" "I") (by decide +kernel)
  have hw_7 := hts (.fieldLink RX7 7 "ReturnPointsModel" "status" "I") (by decide +kernel)
  have hw_8 := hts (.fieldLink RX7 28 "ReturnPointsModel" "degree" "[I") (by decide +kernel)
  have hD := hD0.self (sz := s.heap.size)
  have hnA := roA hsep hR0
  generalize hAe : va_A ((wX7_0_4_5_9_10_11_12_13_14_16 cy ad thr sta pri tcd frt frp deg num goe tai per lea com see cou)) s.heap.size = A at hD hnA ⊢
  have hA : ∀ q : Nat, s.heap.size ≤ q → A q := fun q h => by rw [← hAe]; exact Or.inr h
  have hS : va_S A s.heap s.heap [] := va_S.rf
  obtain ⟨ls, hfr, hl⟩ := ent_ok (m := m) (n := 5) (l' := [(0, .ref (ad 0)), (1, .int x1), (2, .int x2)]) [.ref (ad 0), .int x1, .int x2] hav (Nat.le_of_ble_eq_true rfl) rfl
  rw [hfr]
  generalize hQe : MQ below (QW D (some (.int out.1)) ((wX7_0_4_5_9_10_11_12_13_14_16 cy ad out.2.1 out.2.2.1 pri tcd frt frp deg num out.2.2.2.1 out.2.2.2.2.1 out.2.2.2.2.2.1 out.2.2.2.2.2.2.1 out.2.2.2.2.2.2.2.1 out.2.2.2.2.2.2.2.2.1 out.2.2.2.2.2.2.2.2.2)) A) args s 0 0 A = QQ
  change W p l e RMX7_alike s m args below meth c s.heap [] 0 0 QQ (F0 m 0 ls [])
  have hP : va_P D vwCl ((wX7_0_4_5_9_10_11_12_13_14_16 cy ad thr sta pri tcd frt frp deg num goe tai per lea com see cou)) s.heap := hP
  have hD : va_D A ((wX7_0_4_5_9_10_11_12_13_14_16 cy ad thr sta pri tcd frt frp deg num goe tai per lea com see cou)) := hD
  suffices h00 : ∀ (H : Heap) (locs : List Loc), va_P D vwCl ((wX7_0_4_5_9_10_11_12_13_14_16 cy ad thr sta pri tcd frt frp deg num goe tai per lea com see cou)) H → va_S A s.heap H locs → W p l e RMX7_alike s m args below meth c H locs 0 0 QQ (F0 m 0 ls []) from h00 _ _ hP hS
  clear hP hS
  intro H locs hP hS
  have J45 : ∀ (H : Heap) (locs : List Loc) (ls : Array Slot) (thr_45 : Int32) (sta_45 : Int32) (goe_45 : Nat → Int32) (tai_45 : Nat → Int32) (per_45 : Nat → Int32) (lea_45 : Nat → Int32) (com_45 : Nat → Int32) (see_45 : Nat → Int32) (cou_45 : Nat → Int32), FX7_alike_J45 thr_45 goe_45 tai_45 per_45 lea_45 com_45 see_45 cou_45 = some out → va_P D vwCl ((wX7_0_4_5_9_10_11_12_13_14_16 cy ad thr_45 sta_45 pri tcd frt frp deg num goe_45 tai_45 per_45 lea_45 com_45 see_45 cou_45)) H → va_D A ((wX7_0_4_5_9_10_11_12_13_14_16 cy ad thr_45 sta_45 pri tcd frt frp deg num goe_45 tai_45 per_45 lea_45 com_45 see_45 cou_45)) → va_S A s.heap H locs → lv_has ls 5 [(0, .ref (ad 0))] → W p l e RMX7_alike s m args below meth c H locs 0 0 QQ (F0 m 45 ls []) := by
    intro H locs ls thr_45 sta_45 goe_45 tai_45 per_45 lea_45 com_45 see_45 cou_45 hf hP hD hS hl
    unfold FX7_alike_J45 at hf
    refine lv_aload_n hx hb dX7_alike_45 rfl (lv_at hl 0 rfl) ?_
    refine lv_iconst (v := 1) hx hb dX7_alike_46 (by decide) ?_
    replace hf := ob_e hf
    obtain ⟨u_47, hu_47, hf⟩ := hf
    refine ivW (As := [.int 1]) (rest := []) (st1 := [.int u_47.1]) (is := [0]) (w1 := (wX7_0 cy ad thr_45 u_47.2 pri tcd frt frp)) ⟨hx, hb, hml, hown, hts⟩ hK hN (KX7_found l D cy ad thr_45 sta_45 pri tcd frt frp 1 H.size hu_47) (cwV 1 hts gX7_alike_X7_found rfl rfl rfl (by decide +kernel) ⟨Nat.le_of_ble_eq_true rfl, Nat.le_of_ble_eq_true rfl⟩) (va_recv hK hP (ci := 7) (q0 := 0) rfl rfl) hP hD hS hA P_nil (sepW_nil _) (by decide) rfl rfl rfl hl.1 rfl (Nat.le_of_ble_eq_true rfl) rfl dX7_alike_47 ⟨Nat.zero_le _, Nat.zero_le _⟩ (fun H locs hP hD hS => ?_)
    have hP : va_P D vwCl ((wX7_0_4_5_9_10_11_12_13_14_16 cy ad thr_45 u_47.2 pri tcd frt frp deg num goe_45 tai_45 per_45 lea_45 com_45 see_45 cou_45)) H := hP
    have hD : va_D A ((wX7_0_4_5_9_10_11_12_13_14_16 cy ad thr_45 u_47.2 pri tcd frt frp deg num goe_45 tai_45 per_45 lea_45 com_45 see_45 cou_45)) := hD
    obtain rfl := Option.some.inj hf
    rw [← hQe]
    exact W.iret (v := u_47.1) hx hb hr (fun t ht hW => ⟨rfl, by rw [ht]; exact hP, hS.F ht⟩) hS.2.2 dX7_alike_50
  have L171 : ∀ (thr_171 : Int32) (sta_171 : Int32) (goe_171 : Nat → Int32) (tai_171 : Nat → Int32) (per_171 : Nat → Int32) (lea_171 : Nat → Int32) (com_171 : Nat → Int32) (see_171 : Nat → Int32) (cou_171 : Nat → Int32) (n171 : Nat) (H : Heap) (locs : List Loc) (ls : Array Slot) (b3_171 : Bool) (x4_171 : Int32), FX7_alike_L171 thr_171 sta_171 goe_171 tai_171 per_171 lea_171 com_171 see_171 cou_171 n171 b3_171 x4_171 = some out → va_P D vwCl ((wX7_0_4_5_9_10_11_12_13_14_16 cy ad thr_171 sta_171 pri tcd frt frp deg num goe_171 tai_171 per_171 lea_171 com_171 see_171 cou_171)) H → va_D A ((wX7_0_4_5_9_10_11_12_13_14_16 cy ad thr_171 sta_171 pri tcd frt frp deg num goe_171 tai_171 per_171 lea_171 com_171 see_171 cou_171)) → va_S A s.heap H locs → lv_has ls 5 [(0, .ref (ad 0)), (3, .int (bi b3_171)), (4, .int x4_171)] → W p l e RMX7_alike s m args below meth c H locs 0 0 QQ (F0 m 171 ls []) := by
    intro thr_171 sta_171 goe_171 tai_171 per_171 lea_171 com_171 see_171 cou_171 n171
    induction n171 with
    | zero => intro H locs ls b3_171 x4_171 hf; simp [FX7_alike_L171] at hf
    | succ n171 ih171 =>
      intro H locs ls b3_171 x4_171 hf hP hD hS hl
      rw [FX7_alike_L171] at hf
      have J197 : ∀ (H : Heap) (locs : List Loc) (ls : Array Slot) (x4_197 : Int32) (s0_197 : Bool), FX7_alike_J197 (FX7_alike_L171 thr_171 sta_171 goe_171 tai_171 per_171 lea_171 com_171 see_171 cou_171 n171) x4_197 s0_197 thr_171 sta_171 goe_171 tai_171 per_171 lea_171 com_171 see_171 cou_171 = some out → va_P D vwCl ((wX7_0_4_5_9_10_11_12_13_14_16 cy ad thr_171 sta_171 pri tcd frt frp deg num goe_171 tai_171 per_171 lea_171 com_171 see_171 cou_171)) H → va_D A ((wX7_0_4_5_9_10_11_12_13_14_16 cy ad thr_171 sta_171 pri tcd frt frp deg num goe_171 tai_171 per_171 lea_171 com_171 see_171 cou_171)) → va_S A s.heap H locs → lv_has ls 5 [(0, .ref (ad 0)), (4, .int x4_197)] → W p l e RMX7_alike s m args below meth c H locs 0 0 QQ (F0 m 197 ls [.int (bi s0_197)]) := by
        intro H locs ls x4_197 s0_197 hf hP hD hS hl
        unfold FX7_alike_J197 at hf
        refine lv_istore_n (lv' := [(3, .int (bi s0_197)), (0, .ref (ad 0)), (4, .int x4_197)]) hx hb dX7_alike_197 rfl hl (by decide) rfl (fun ls hl => ?_)
        obtain ⟨v_198, e_198⟩ : ∃ y : Int32, y = x4_197 + 1 := ⟨_, rfl⟩
        replace hf := bd_at e_198 hf
        refine lv_iinc (v := v_198) (lv' := [(4, .int v_198), (3, .int (bi s0_197)), (0, .ref (ad 0))]) hx hb dX7_alike_198 hl (k := 2) rfl (by rw [e_198]; rfl) (by decide) rfl (fun ls hl => ?_)
        clear e_198
        refine lv_goto (tgt := 171) hx hb dX7_alike_201 (by decide) ?_
        exact ih171 H locs ls s0_197 v_198 hf hP hD hS (lv_sub hl [2, 1, 0] rfl)
      have J196 : ∀ (H : Heap) (locs : List Loc) (ls : Array Slot) (x4_196 : Int32), FX7_alike_J196 (FX7_alike_L171 thr_171 sta_171 goe_171 tai_171 per_171 lea_171 com_171 see_171 cou_171 n171) x4_196 thr_171 sta_171 goe_171 tai_171 per_171 lea_171 com_171 see_171 cou_171 = some out → va_P D vwCl ((wX7_0_4_5_9_10_11_12_13_14_16 cy ad thr_171 sta_171 pri tcd frt frp deg num goe_171 tai_171 per_171 lea_171 com_171 see_171 cou_171)) H → va_D A ((wX7_0_4_5_9_10_11_12_13_14_16 cy ad thr_171 sta_171 pri tcd frt frp deg num goe_171 tai_171 per_171 lea_171 com_171 see_171 cou_171)) → va_S A s.heap H locs → lv_has ls 5 [(0, .ref (ad 0)), (4, .int x4_196)] → W p l e RMX7_alike s m args below meth c H locs 0 0 QQ (F0 m 196 ls []) := by
        intro H locs ls x4_196 hf hP hD hS hl
        unfold FX7_alike_J196 at hf
        refine lv_iconst (v := 0) hx hb dX7_alike_196 (by decide) ?_
        exact J197 H locs ls x4_196 false hf hP hD hS (lv_sub hl [0, 1] rfl)
      refine lv_iload hx hb dX7_alike_171 (lv_at hl 2 rfl) ?_
      refine lv_ldc (own := RX7) (v := 40000) hx hb hown hw_1 dX7_alike_173 ?_
      refine lv_icmp_ge (tgt := 204) hx hb dX7_alike_175 (by decide) (fun c_175 => ?_) (fun c_175 => ?_)
      · replace hf := it_p c_175 hf
        refine lv_iload_n hx hb dX7_alike_204 rfl (lv_at hl 1 rfl) ?_
        refine lv_if_eq (tgt := 212) hx hb dX7_alike_205 (by decide) (fun c_205 => ?_) (fun c_205 => ?_)
        · replace hf := it_p c_205 hf
          refine lv_iconst (v := 0) hx hb dX7_alike_212 (by decide) ?_
          obtain rfl := Option.some.inj hf
          rw [← hQe]
          exact W.iret (v := 0) hx hb hr (fun t ht hW => ⟨rfl, by rw [ht]; exact hP, hS.F ht⟩) hS.2.2 dX7_alike_213
        · replace hf := it_n c_205 hf
          refine lv_iconst (v := 1) hx hb dX7_alike_208 (by decide) ?_
          refine lv_goto (tgt := 213) hx hb dX7_alike_209 (by decide) ?_
          obtain rfl := Option.some.inj hf
          rw [← hQe]
          exact W.iret (v := 1) hx hb hr (fun t ht hW => ⟨rfl, by rw [ht]; exact hP, hS.F ht⟩) hS.2.2 dX7_alike_213
      · replace hf := it_n c_175 hf
        refine lv_iload_n hx hb dX7_alike_178 rfl (lv_at hl 1 rfl) ?_
        refine lv_if_eq (tgt := 196) hx hb dX7_alike_179 (by decide) (fun c_179 => ?_) (fun c_179 => ?_)
        · replace hf := it_p c_179 hf
          exact J196 H locs ls x4_171 hf hP hD hS (lv_sub hl [0, 2] rfl)
        · replace hf := it_n c_179 hf
          refine lv_aload_n hx hb dX7_alike_182 rfl (lv_at hl 0 rfl) ?_
          refine va_get (a := (ad 0)) (ci := 7) (v := .ref (ad 16)) (C := RX7) (T := TX7) (N := 28) hx hb hts hin_X7 hown hK hP 0 rfl rfl 19 (by decide) hw_2 (fun _ h => h) rfl dX7_alike_183 ?_
          refine lv_iload hx hb dX7_alike_186 (lv_at hl 2 rfl) ?_
          replace hf := gi_e hf
          obtain ⟨i_188, hf⟩ := hf
          refine va_iald (a := (ad 16)) hx hb hK hP 9 0 rfl rfl i_188 dX7_alike_188 ?_
          refine lv_if_ne (tgt := 196) hx hb dX7_alike_189 (by decide) (fun c_189 => ?_) (fun c_189 => ?_)
          · replace hf := it_n c_189 hf
            exact J196 H locs ls x4_171 hf hP hD hS (lv_sub hl [0, 2] rfl)
          · replace hf := it_p c_189 hf
            refine lv_iconst (v := 1) hx hb dX7_alike_192 (by decide) ?_
            refine lv_goto (tgt := 197) hx hb dX7_alike_193 (by decide) ?_
            exact J197 H locs ls x4_171 true hf hP hD hS (lv_sub hl [0, 2] rfl)
  have L126 : ∀ (thr_126 : Int32) (sta_126 : Int32) (goe_126 : Nat → Int32) (tai_126 : Nat → Int32) (per_126 : Nat → Int32) (lea_126 : Nat → Int32) (com_126 : Nat → Int32) (see_126 : Nat → Int32) (n126 : Nat) (H : Heap) (locs : List Loc) (ls : Array Slot) (x3_126 : Int32) (cou_126 : Nat → Int32), FX7_alike_L126 thr_126 sta_126 pri goe_126 tai_126 per_126 lea_126 com_126 see_126 n126 x3_126 cou_126 = some out → va_P D vwCl ((wX7_0_4_5_9_10_11_12_13_14_16 cy ad thr_126 sta_126 pri tcd frt frp deg num goe_126 tai_126 per_126 lea_126 com_126 see_126 cou_126)) H → va_D A ((wX7_0_4_5_9_10_11_12_13_14_16 cy ad thr_126 sta_126 pri tcd frt frp deg num goe_126 tai_126 per_126 lea_126 com_126 see_126 cou_126)) → va_S A s.heap H locs → lv_has ls 5 [(0, .ref (ad 0)), (3, .int x3_126)] → W p l e RMX7_alike s m args below meth c H locs 0 0 QQ (F0 m 126 ls []) := by
    intro thr_126 sta_126 goe_126 tai_126 per_126 lea_126 com_126 see_126 n126
    induction n126 with
    | zero => intro H locs ls x3_126 cou_126 hf; simp [FX7_alike_L126] at hf
    | succ n126 ih126 =>
      intro H locs ls x3_126 cou_126 hf hP hD hS hl
      rw [FX7_alike_L126] at hf
      refine lv_iload_n hx hb dX7_alike_126 rfl (lv_at hl 1 rfl) ?_
      refine lv_aload_n hx hb dX7_alike_127 rfl (lv_at hl 0 rfl) ?_
      refine va_get (a := (ad 0)) (ci := 7) (v := .int pri) (C := RX7) (T := TX7) (N := 28) hx hb hts hin_X7 hown hK hP 0 rfl rfl 2 (by decide) hw_3 (fun _ h => h) rfl dX7_alike_128 ?_
      refine lv_icmp_ge (tgt := 166) hx hb dX7_alike_131 (by decide) (fun c_131 => ?_) (fun c_131 => ?_)
      · replace hf := it_p c_131 hf
        refine lv_iconst (v := 1) hx hb dX7_alike_166 (by decide) ?_
        refine lv_istore_n (lv' := [(3, .int 1), (0, .ref (ad 0))]) hx hb dX7_alike_167 rfl hl (by decide) rfl (fun ls hl => ?_)
        refine lv_iconst (v := 0) hx hb dX7_alike_168 (by decide) ?_
        refine lv_istore (lv' := [(4, .int 0), (3, .int 1), (0, .ref (ad 0))]) hx hb dX7_alike_169 hl (by decide) rfl (fun ls hl => ?_)
        exact L171 thr_126 sta_126 goe_126 tai_126 per_126 lea_126 com_126 see_126 cou_126 FU H locs ls true 0 hf hP hD hS (lv_sub hl [2, 1, 0] rfl)
      · replace hf := it_n c_131 hf
        refine lv_aload_n hx hb dX7_alike_134 rfl (lv_at hl 0 rfl) ?_
        refine va_get (a := (ad 0)) (ci := 7) (v := .ref (ad 16)) (C := RX7) (T := TX7) (N := 28) hx hb hts hin_X7 hown hK hP 0 rfl rfl 19 (by decide) hw_2 (fun _ h => h) rfl dX7_alike_135 ?_
        refine lv_sipush (v := 200) hx hb dX7_alike_138 (by decide) ?_
        refine lv_aload_n hx hb dX7_alike_141 rfl (lv_at hl 0 rfl) ?_
        refine va_get (a := (ad 0)) (ci := 7) (v := .ref (ad 10)) (C := RX7) (T := TX7) (N := 28) hx hb hts hin_X7 hown hK hP 0 rfl rfl 12 (by decide) hw_4 (fun _ h => h) rfl dX7_alike_142 ?_
        refine lv_iload_n hx hb dX7_alike_145 rfl (lv_at hl 1 rfl) ?_
        replace hf := gi_e hf
        obtain ⟨i_146, hf⟩ := hf
        refine va_iald (a := (ad 10)) hx hb hK hP 4 0 rfl rfl i_146 dX7_alike_146 ?_
        refine lv_imul hx hb dX7_alike_147 ?_
        refine lv_aload_n hx hb dX7_alike_148 rfl (lv_at hl 0 rfl) ?_
        refine va_get (a := (ad 0)) (ci := 7) (v := .ref (ad 11)) (C := RX7) (T := TX7) (N := 28) hx hb hts hin_X7 hown hK hP 0 rfl rfl 13 (by decide) hw_5 (fun _ h => h) rfl dX7_alike_149 ?_
        refine lv_iload_n hx hb dX7_alike_152 rfl (lv_at hl 1 rfl) ?_
        replace hf := gi_e hf
        obtain ⟨i_153, hf⟩ := hf
        refine va_iald (a := (ad 11)) hx hb hK hP 5 0 rfl rfl i_153 dX7_alike_153 ?_
        refine lv_iadd hx hb dX7_alike_154 ?_
        refine lv_dup2_11 hx hb dX7_alike_155 rfl rfl ?_
        replace hf := gi_e hf
        obtain ⟨i_156, hf⟩ := hf
        refine va_iald (a := (ad 16)) hx hb hK hP 9 0 rfl rfl i_156 dX7_alike_156 ?_
        refine lv_iconst (v := 1) hx hb dX7_alike_157 (by decide) ?_
        refine lv_isub hx hb dX7_alike_158 ?_
        replace hf := gi_e hf
        obtain ⟨i_159, hf⟩ := hf
        refine va_iast (a := (ad 16)) hx hb hK hP hD hS 9 0 rfl rfl i_159 dX7_alike_159 (fun H locs hP hD hS => ?_)
        have hP : va_P D vwCl ((wX7_0_4_5_9_10_11_12_13_14_16 cy ad thr_126 sta_126 pri tcd frt frp deg num goe_126 tai_126 per_126 lea_126 com_126 see_126 (upd cou_126 (Int32.toNatClampNeg ((200 * (tai_126 (Int32.toNatClampNeg x3_126))) + (per_126 (Int32.toNatClampNeg x3_126)))) ((cou_126 (Int32.toNatClampNeg ((200 * (tai_126 (Int32.toNatClampNeg x3_126))) + (per_126 (Int32.toNatClampNeg x3_126))))) - 1)))) H := hP
        have hD : va_D A ((wX7_0_4_5_9_10_11_12_13_14_16 cy ad thr_126 sta_126 pri tcd frt frp deg num goe_126 tai_126 per_126 lea_126 com_126 see_126 (upd cou_126 (Int32.toNatClampNeg ((200 * (tai_126 (Int32.toNatClampNeg x3_126))) + (per_126 (Int32.toNatClampNeg x3_126)))) ((cou_126 (Int32.toNatClampNeg ((200 * (tai_126 (Int32.toNatClampNeg x3_126))) + (per_126 (Int32.toNatClampNeg x3_126))))) - 1)))) := hD
        obtain ⟨v_160, e_160⟩ : ∃ y : Int32, y = x3_126 + 1 := ⟨_, rfl⟩
        replace hf := bd_at e_160 hf
        refine lv_iinc (v := v_160) (lv' := [(3, .int v_160), (0, .ref (ad 0))]) hx hb dX7_alike_160 hl (k := 1) rfl (by rw [e_160]; rfl) (by decide) rfl (fun ls hl => ?_)
        clear e_160
        refine lv_goto (tgt := 126) hx hb dX7_alike_163 (by decide) ?_
        exact ih126 H locs ls v_160 (upd cou_126 (Int32.toNatClampNeg ((200 * (tai_126 (Int32.toNatClampNeg x3_126))) + (per_126 (Int32.toNatClampNeg x3_126)))) ((cou_126 (Int32.toNatClampNeg ((200 * (tai_126 (Int32.toNatClampNeg x3_126))) + (per_126 (Int32.toNatClampNeg x3_126))))) - 1)) hf hP hD hS (lv_sub hl [1, 0] rfl)
  have L79 : ∀ (thr_79 : Int32) (sta_79 : Int32) (goe_79 : Nat → Int32) (tai_79 : Nat → Int32) (per_79 : Nat → Int32) (lea_79 : Nat → Int32) (com_79 : Nat → Int32) (see_79 : Nat → Int32) (n79 : Nat) (H : Heap) (locs : List Loc) (ls : Array Slot) (x3_79 : Int32) (cou_79 : Nat → Int32), FX7_alike_L79 x2 thr_79 sta_79 pri deg num goe_79 tai_79 per_79 lea_79 com_79 see_79 n79 x3_79 cou_79 = some out → va_P D vwCl ((wX7_0_4_5_9_10_11_12_13_14_16 cy ad thr_79 sta_79 pri tcd frt frp deg num goe_79 tai_79 per_79 lea_79 com_79 see_79 cou_79)) H → va_D A ((wX7_0_4_5_9_10_11_12_13_14_16 cy ad thr_79 sta_79 pri tcd frt frp deg num goe_79 tai_79 per_79 lea_79 com_79 see_79 cou_79)) → va_S A s.heap H locs → lv_has ls 5 [(0, .ref (ad 0)), (2, .int x2), (3, .int x3_79)] → W p l e RMX7_alike s m args below meth c H locs 0 0 QQ (F0 m 79 ls []) := by
    intro thr_79 sta_79 goe_79 tai_79 per_79 lea_79 com_79 see_79 n79
    induction n79 with
    | zero => intro H locs ls x3_79 cou_79 hf; simp [FX7_alike_L79] at hf
    | succ n79 ih79 =>
      intro H locs ls x3_79 cou_79 hf hP hD hS hl
      rw [FX7_alike_L79] at hf
      refine lv_iload_n hx hb dX7_alike_79 rfl (lv_at hl 2 rfl) ?_
      refine lv_aload_n hx hb dX7_alike_80 rfl (lv_at hl 0 rfl) ?_
      refine va_get (a := (ad 0)) (ci := 7) (v := .int pri) (C := RX7) (T := TX7) (N := 28) hx hb hts hin_X7 hown hK hP 0 rfl rfl 2 (by decide) hw_3 (fun _ h => h) rfl dX7_alike_81 ?_
      refine lv_icmp_ge (tgt := 119) hx hb dX7_alike_84 (by decide) (fun c_84 => ?_) (fun c_84 => ?_)
      · replace hf := it_p c_84 hf
        refine lv_aload_n hx hb dX7_alike_119 rfl (lv_at hl 0 rfl) ?_
        refine lv_iload_n hx hb dX7_alike_120 rfl (lv_at hl 1 rfl) ?_
        replace hf := ob_e hf
        obtain ⟨u_121, hu_121, hf⟩ := hf
        refine ivW (As := [.int x2]) (rest := []) (st1 := []) (is := [0, 1, 2, 3, 4, 5, 6, 7, 8]) (w1 := (wX7_0_4_5_9_10_11_12_13_14 cy ad thr_79 sta_79 pri tcd frt frp deg num u_121.1 u_121.2.1 u_121.2.2.1 u_121.2.2.2.1 u_121.2.2.2.2.1 u_121.2.2.2.2.2)) ⟨hx, hb, hml, hown, hts⟩ hK hN (KX7_findWays l D cy ad thr_79 sta_79 pri tcd frt frp deg num goe_79 tai_79 per_79 lea_79 com_79 see_79 x2 H.size hu_121) (cwV 1 hts gX7_alike_X7_findWays rfl rfl rfl (by decide +kernel) ⟨Nat.le_of_ble_eq_true rfl, Nat.le_of_ble_eq_true rfl⟩) (va_recv hK hP (ci := 7) (q0 := 0) rfl rfl) hP hD hS hA P_nil (sepW_nil _) (by decide) rfl rfl rfl hl.1 rfl (Nat.le_of_ble_eq_true rfl) rfl dX7_alike_121 ⟨Nat.zero_le _, Nat.zero_le _⟩ (fun H locs hP hD hS => ?_)
        have hP : va_P D vwCl ((wX7_0_4_5_9_10_11_12_13_14_16 cy ad thr_79 sta_79 pri tcd frt frp deg num u_121.1 u_121.2.1 u_121.2.2.1 u_121.2.2.2.1 u_121.2.2.2.2.1 u_121.2.2.2.2.2 cou_79)) H := hP
        have hD : va_D A ((wX7_0_4_5_9_10_11_12_13_14_16 cy ad thr_79 sta_79 pri tcd frt frp deg num u_121.1 u_121.2.1 u_121.2.2.1 u_121.2.2.2.1 u_121.2.2.2.2.1 u_121.2.2.2.2.2 cou_79)) := hD
        refine lv_iconst (v := 0) hx hb dX7_alike_124 (by decide) ?_
        refine lv_istore_n (lv' := [(3, .int 0), (0, .ref (ad 0)), (2, .int x2)]) hx hb dX7_alike_125 rfl hl (by decide) rfl (fun ls hl => ?_)
        exact L126 thr_79 sta_79 u_121.1 u_121.2.1 u_121.2.2.1 u_121.2.2.2.1 u_121.2.2.2.2.1 u_121.2.2.2.2.2 FU H locs ls 0 cou_79 hf hP hD hS (lv_sub hl [1, 0] rfl)
      · replace hf := it_n c_84 hf
        refine lv_aload_n hx hb dX7_alike_87 rfl (lv_at hl 0 rfl) ?_
        refine va_get (a := (ad 0)) (ci := 7) (v := .ref (ad 16)) (C := RX7) (T := TX7) (N := 28) hx hb hts hin_X7 hown hK hP 0 rfl rfl 19 (by decide) hw_2 (fun _ h => h) rfl dX7_alike_88 ?_
        refine lv_sipush (v := 200) hx hb dX7_alike_91 (by decide) ?_
        refine lv_aload_n hx hb dX7_alike_94 rfl (lv_at hl 0 rfl) ?_
        refine va_get (a := (ad 0)) (ci := 7) (v := .ref (ad 10)) (C := RX7) (T := TX7) (N := 28) hx hb hts hin_X7 hown hK hP 0 rfl rfl 12 (by decide) hw_4 (fun _ h => h) rfl dX7_alike_95 ?_
        refine lv_iload_n hx hb dX7_alike_98 rfl (lv_at hl 2 rfl) ?_
        replace hf := gi_e hf
        obtain ⟨i_99, hf⟩ := hf
        refine va_iald (a := (ad 10)) hx hb hK hP 4 0 rfl rfl i_99 dX7_alike_99 ?_
        refine lv_imul hx hb dX7_alike_100 ?_
        refine lv_aload_n hx hb dX7_alike_101 rfl (lv_at hl 0 rfl) ?_
        refine va_get (a := (ad 0)) (ci := 7) (v := .ref (ad 11)) (C := RX7) (T := TX7) (N := 28) hx hb hts hin_X7 hown hK hP 0 rfl rfl 13 (by decide) hw_5 (fun _ h => h) rfl dX7_alike_102 ?_
        refine lv_iload_n hx hb dX7_alike_105 rfl (lv_at hl 2 rfl) ?_
        replace hf := gi_e hf
        obtain ⟨i_106, hf⟩ := hf
        refine va_iald (a := (ad 11)) hx hb hK hP 5 0 rfl rfl i_106 dX7_alike_106 ?_
        refine lv_iadd hx hb dX7_alike_107 ?_
        refine lv_dup2_11 hx hb dX7_alike_108 rfl rfl ?_
        replace hf := gi_e hf
        obtain ⟨i_109, hf⟩ := hf
        refine va_iald (a := (ad 16)) hx hb hK hP 9 0 rfl rfl i_109 dX7_alike_109 ?_
        refine lv_iconst (v := 1) hx hb dX7_alike_110 (by decide) ?_
        refine lv_iadd hx hb dX7_alike_111 ?_
        replace hf := gi_e hf
        obtain ⟨i_112, hf⟩ := hf
        refine va_iast (a := (ad 16)) hx hb hK hP hD hS 9 0 rfl rfl i_112 dX7_alike_112 (fun H locs hP hD hS => ?_)
        have hP : va_P D vwCl ((wX7_0_4_5_9_10_11_12_13_14_16 cy ad thr_79 sta_79 pri tcd frt frp deg num goe_79 tai_79 per_79 lea_79 com_79 see_79 (upd cou_79 (Int32.toNatClampNeg ((200 * (tai_79 (Int32.toNatClampNeg x3_79))) + (per_79 (Int32.toNatClampNeg x3_79)))) ((cou_79 (Int32.toNatClampNeg ((200 * (tai_79 (Int32.toNatClampNeg x3_79))) + (per_79 (Int32.toNatClampNeg x3_79))))) + 1)))) H := hP
        have hD : va_D A ((wX7_0_4_5_9_10_11_12_13_14_16 cy ad thr_79 sta_79 pri tcd frt frp deg num goe_79 tai_79 per_79 lea_79 com_79 see_79 (upd cou_79 (Int32.toNatClampNeg ((200 * (tai_79 (Int32.toNatClampNeg x3_79))) + (per_79 (Int32.toNatClampNeg x3_79)))) ((cou_79 (Int32.toNatClampNeg ((200 * (tai_79 (Int32.toNatClampNeg x3_79))) + (per_79 (Int32.toNatClampNeg x3_79))))) + 1)))) := hD
        obtain ⟨v_113, e_113⟩ : ∃ y : Int32, y = x3_79 + 1 := ⟨_, rfl⟩
        replace hf := bd_at e_113 hf
        refine lv_iinc (v := v_113) (lv' := [(3, .int v_113), (0, .ref (ad 0)), (2, .int x2)]) hx hb dX7_alike_113 hl (k := 2) rfl (by rw [e_113]; rfl) (by decide) rfl (fun ls hl => ?_)
        clear e_113
        refine lv_goto (tgt := 79) hx hb dX7_alike_116 (by decide) ?_
        exact ih79 H locs ls v_113 (upd cou_79 (Int32.toNatClampNeg ((200 * (tai_79 (Int32.toNatClampNeg x3_79))) + (per_79 (Int32.toNatClampNeg x3_79)))) ((cou_79 (Int32.toNatClampNeg ((200 * (tai_79 (Int32.toNatClampNeg x3_79))) + (per_79 (Int32.toNatClampNeg x3_79))))) + 1)) hf hP hD hS (lv_sub hl [1, 2, 0] rfl)
  have L53 : ∀ (thr_53 : Int32) (sta_53 : Int32) (goe_53 : Nat → Int32) (tai_53 : Nat → Int32) (per_53 : Nat → Int32) (lea_53 : Nat → Int32) (com_53 : Nat → Int32) (see_53 : Nat → Int32) (n53 : Nat) (H : Heap) (locs : List Loc) (ls : Array Slot) (x3_53 : Int32) (cou_53 : Nat → Int32), FX7_alike_L53 x1 x2 thr_53 sta_53 pri deg num goe_53 tai_53 per_53 lea_53 com_53 see_53 n53 x3_53 cou_53 = some out → va_P D vwCl ((wX7_0_4_5_9_10_11_12_13_14_16 cy ad thr_53 sta_53 pri tcd frt frp deg num goe_53 tai_53 per_53 lea_53 com_53 see_53 cou_53)) H → va_D A ((wX7_0_4_5_9_10_11_12_13_14_16 cy ad thr_53 sta_53 pri tcd frt frp deg num goe_53 tai_53 per_53 lea_53 com_53 see_53 cou_53)) → va_S A s.heap H locs → lv_has ls 5 [(0, .ref (ad 0)), (1, .int x1), (2, .int x2), (3, .int x3_53)] → W p l e RMX7_alike s m args below meth c H locs 0 0 QQ (F0 m 53 ls []) := by
    intro thr_53 sta_53 goe_53 tai_53 per_53 lea_53 com_53 see_53 n53
    induction n53 with
    | zero => intro H locs ls x3_53 cou_53 hf; simp [FX7_alike_L53] at hf
    | succ n53 ih53 =>
      intro H locs ls x3_53 cou_53 hf hP hD hS hl
      rw [FX7_alike_L53] at hf
      refine lv_iload_n hx hb dX7_alike_53 rfl (lv_at hl 3 rfl) ?_
      refine lv_ldc (own := RX7) (v := 40000) hx hb hown hw_1 dX7_alike_54 ?_
      refine lv_icmp_ge (tgt := 72) hx hb dX7_alike_56 (by decide) (fun c_56 => ?_) (fun c_56 => ?_)
      · replace hf := it_p c_56 hf
        refine lv_aload_n hx hb dX7_alike_72 rfl (lv_at hl 0 rfl) ?_
        refine lv_iload_n hx hb dX7_alike_73 rfl (lv_at hl 1 rfl) ?_
        replace hf := ob_e hf
        obtain ⟨u_74, hu_74, hf⟩ := hf
        refine ivW (As := [.int x1]) (rest := []) (st1 := []) (is := [0, 1, 2, 3, 4, 5, 6, 7, 8]) (w1 := (wX7_0_4_5_9_10_11_12_13_14 cy ad thr_53 sta_53 pri tcd frt frp deg num u_74.1 u_74.2.1 u_74.2.2.1 u_74.2.2.2.1 u_74.2.2.2.2.1 u_74.2.2.2.2.2)) ⟨hx, hb, hml, hown, hts⟩ hK hN (KX7_findWays l D cy ad thr_53 sta_53 pri tcd frt frp deg num goe_53 tai_53 per_53 lea_53 com_53 see_53 x1 H.size hu_74) (cwV 1 hts gX7_alike_X7_findWays rfl rfl rfl (by decide +kernel) ⟨Nat.le_of_ble_eq_true rfl, Nat.le_of_ble_eq_true rfl⟩) (va_recv hK hP (ci := 7) (q0 := 0) rfl rfl) hP hD hS hA P_nil (sepW_nil _) (by decide) rfl rfl rfl hl.1 rfl (Nat.le_of_ble_eq_true rfl) rfl dX7_alike_74 ⟨Nat.zero_le _, Nat.zero_le _⟩ (fun H locs hP hD hS => ?_)
        have hP : va_P D vwCl ((wX7_0_4_5_9_10_11_12_13_14_16 cy ad thr_53 sta_53 pri tcd frt frp deg num u_74.1 u_74.2.1 u_74.2.2.1 u_74.2.2.2.1 u_74.2.2.2.2.1 u_74.2.2.2.2.2 cou_53)) H := hP
        have hD : va_D A ((wX7_0_4_5_9_10_11_12_13_14_16 cy ad thr_53 sta_53 pri tcd frt frp deg num u_74.1 u_74.2.1 u_74.2.2.1 u_74.2.2.2.1 u_74.2.2.2.2.1 u_74.2.2.2.2.2 cou_53)) := hD
        refine lv_iconst (v := 0) hx hb dX7_alike_77 (by decide) ?_
        refine lv_istore_n (lv' := [(3, .int 0), (0, .ref (ad 0)), (1, .int x1), (2, .int x2)]) hx hb dX7_alike_78 rfl hl (by decide) rfl (fun ls hl => ?_)
        exact L79 thr_53 sta_53 u_74.1 u_74.2.1 u_74.2.2.1 u_74.2.2.2.1 u_74.2.2.2.2.1 u_74.2.2.2.2.2 FU H locs ls 0 cou_53 hf hP hD hS (lv_sub hl [1, 3, 0] rfl)
      · replace hf := it_n c_56 hf
        refine lv_aload_n hx hb dX7_alike_59 rfl (lv_at hl 0 rfl) ?_
        refine va_get (a := (ad 0)) (ci := 7) (v := .ref (ad 16)) (C := RX7) (T := TX7) (N := 28) hx hb hts hin_X7 hown hK hP 0 rfl rfl 19 (by decide) hw_2 (fun _ h => h) rfl dX7_alike_60 ?_
        refine lv_iload_n hx hb dX7_alike_63 rfl (lv_at hl 3 rfl) ?_
        refine lv_iconst (v := 0) hx hb dX7_alike_64 (by decide) ?_
        replace hf := gi_e hf
        obtain ⟨i_65, hf⟩ := hf
        refine va_iast (a := (ad 16)) hx hb hK hP hD hS 9 0 rfl rfl i_65 dX7_alike_65 (fun H locs hP hD hS => ?_)
        have hP : va_P D vwCl ((wX7_0_4_5_9_10_11_12_13_14_16 cy ad thr_53 sta_53 pri tcd frt frp deg num goe_53 tai_53 per_53 lea_53 com_53 see_53 (upd cou_53 (Int32.toNatClampNeg x3_53) 0))) H := hP
        have hD : va_D A ((wX7_0_4_5_9_10_11_12_13_14_16 cy ad thr_53 sta_53 pri tcd frt frp deg num goe_53 tai_53 per_53 lea_53 com_53 see_53 (upd cou_53 (Int32.toNatClampNeg x3_53) 0))) := hD
        obtain ⟨v_66, e_66⟩ : ∃ y : Int32, y = x3_53 + 1 := ⟨_, rfl⟩
        replace hf := bd_at e_66 hf
        refine lv_iinc (v := v_66) (lv' := [(3, .int v_66), (0, .ref (ad 0)), (1, .int x1), (2, .int x2)]) hx hb dX7_alike_66 hl (k := 3) rfl (by rw [e_66]; rfl) (by decide) rfl (fun ls hl => ?_)
        clear e_66
        refine lv_goto (tgt := 53) hx hb dX7_alike_69 (by decide) ?_
        exact ih53 H locs ls v_66 (upd cou_53 (Int32.toNatClampNeg x3_53) 0) hf hP hD hS (lv_sub hl [1, 2, 3, 0] rfl)
  unfold FX7_alike at hf
  refine lv_aload_n hx hb dX7_alike_0 rfl (lv_at hl 0 rfl) ?_
  refine lv_iconst (v := 0) hx hb dX7_alike_1 (by decide) ?_
  refine va_put (a := (ad 0)) (ci := 7) (v := .int 0) (ty := .int) (C := RX7) (T := TX7) (N := 28) hx hb hts hin_X7 tyX7 tyX7_ok nmX7 hown hK hP hD hS 0 rfl rfl 0 (by decide) hw_6 (fun _ h => h) rfl (by decide +kernel) rfl rfl (Nat.le_of_ble_eq_true rfl) dX7_alike_2 (fun H locs hP hD hS => ?_)
  have hP : va_P D vwCl ((wX7_0_4_5_9_10_11_12_13_14_16 cy ad 0 sta pri tcd frt frp deg num goe tai per lea com see cou)) H := hP
  have hD : va_D A ((wX7_0_4_5_9_10_11_12_13_14_16 cy ad 0 sta pri tcd frt frp deg num goe tai per lea com see cou)) := hD
  refine lv_iload_n hx hb dX7_alike_5 rfl (lv_at hl 1 rfl) ?_
  replace hf := ob_e hf
  obtain ⟨u_6, hu_6, hf⟩ := hf
  refine isR (As := [.int x1]) (rest := []) (st1 := [.int (bi u_6)]) ⟨hx, hb, hml, hown, hts⟩ hK hN (KX7_isPlace l D cy x1 H.size hu_6) (va_cwS 1 hts gX7_alike_X7_isPlace rfl rfl rfl (by decide +kernel) ⟨Nat.le_of_ble_eq_true rfl, Nat.le_of_ble_eq_true rfl⟩) P_nil rfl hl.1 rfl (Nat.le_of_ble_eq_true rfl) rfl dX7_alike_6 ⟨Nat.zero_le _, Nat.zero_le _⟩ ?_
  refine lv_if_eq (tgt := 19) hx hb dX7_alike_9 (by decide) (fun c_9 => ?_) (fun c_9 => ?_)
  · replace hf := it_p c_9 hf
    refine lv_ldc (own := RX7) (v := (-1000001)) hx hb hown hw_0 dX7_alike_19 ?_
    obtain rfl := Option.some.inj hf
    rw [← hQe]
    exact W.iret (v := (-1000001)) hx hb hr (fun t ht hW => ⟨rfl, by rw [ht]; exact hP, hS.F ht⟩) hS.2.2 dX7_alike_21
  · replace hf := it_n c_9 hf
    refine lv_iload_n hx hb dX7_alike_12 rfl (lv_at hl 2 rfl) ?_
    replace hf := ob_e hf
    obtain ⟨u_13, hu_13, hf⟩ := hf
    refine isR (As := [.int x2]) (rest := []) (st1 := [.int (bi u_13)]) ⟨hx, hb, hml, hown, hts⟩ hK hN (KX7_isPlace l D cy x2 H.size hu_13) (va_cwS 1 hts gX7_alike_X7_isPlace rfl rfl rfl (by decide +kernel) ⟨Nat.le_of_ble_eq_true rfl, Nat.le_of_ble_eq_true rfl⟩) P_nil rfl hl.1 rfl (Nat.le_of_ble_eq_true rfl) rfl dX7_alike_13 ⟨Nat.zero_le _, Nat.zero_le _⟩ ?_
    refine lv_if_ne (tgt := 22) hx hb dX7_alike_16 (by decide) (fun c_16 => ?_) (fun c_16 => ?_)
    · replace hf := it_n c_16 hf
      refine lv_aload_n hx hb dX7_alike_22 rfl (lv_at hl 0 rfl) ?_
      refine lv_iconst (v := 0) hx hb dX7_alike_23 (by decide) ?_
      refine va_put (a := (ad 0)) (ci := 7) (v := .int 0) (ty := .int) (C := RX7) (T := TX7) (N := 28) hx hb hts hin_X7 tyX7 tyX7_ok nmX7 hown hK hP hD hS 0 rfl rfl 1 (by decide) hw_7 (fun _ h => h) rfl (by decide +kernel) rfl rfl (Nat.le_of_ble_eq_true rfl) dX7_alike_24 (fun H locs hP hD hS => ?_)
      have hP : va_P D vwCl ((wX7_0_4_5_9_10_11_12_13_14_16 cy ad 0 0 pri tcd frt frp deg num goe tai per lea com see cou)) H := hP
      have hD : va_D A ((wX7_0_4_5_9_10_11_12_13_14_16 cy ad 0 0 pri tcd frt frp deg num goe tai per lea com see cou)) := hD
      refine lv_aload_n hx hb dX7_alike_27 rfl (lv_at hl 0 rfl) ?_
      refine va_get (a := (ad 0)) (ci := 7) (v := .ref (ad 4)) (C := RX7) (T := TX7) (N := 28) hx hb hts hin_X7 hown hK hP 0 rfl rfl 6 (by decide) hw_8 (fun _ h => h) rfl dX7_alike_28 ?_
      refine lv_iload_n hx hb dX7_alike_31 rfl (lv_at hl 1 rfl) ?_
      replace hf := gi_e hf
      obtain ⟨i_32, hf⟩ := hf
      refine va_iald (a := (ad 4)) hx hb hK hP 1 0 rfl rfl i_32 dX7_alike_32 ?_
      refine lv_if_lt (tgt := 45) hx hb dX7_alike_33 (by decide) (fun c_33 => ?_) (fun c_33 => ?_)
      · replace hf := it_p c_33 hf
        exact J45 H locs ls 0 0 goe tai per lea com see cou hf hP hD hS (lv_sub hl [0] rfl)
      · replace hf := it_n c_33 hf
        refine lv_aload_n hx hb dX7_alike_36 rfl (lv_at hl 0 rfl) ?_
        refine va_get (a := (ad 0)) (ci := 7) (v := .ref (ad 4)) (C := RX7) (T := TX7) (N := 28) hx hb hts hin_X7 hown hK hP 0 rfl rfl 6 (by decide) hw_8 (fun _ h => h) rfl dX7_alike_37 ?_
        refine lv_iload_n hx hb dX7_alike_40 rfl (lv_at hl 2 rfl) ?_
        replace hf := gi_e hf
        obtain ⟨i_41, hf⟩ := hf
        refine va_iald (a := (ad 4)) hx hb hK hP 1 0 rfl rfl i_41 dX7_alike_41 ?_
        refine lv_if_ge (tgt := 51) hx hb dX7_alike_42 (by decide) (fun c_42 => ?_) (fun c_42 => ?_)
        · replace hf := it_p c_42 hf
          refine lv_iconst (v := 0) hx hb dX7_alike_51 (by decide) ?_
          refine lv_istore_n (lv' := [(3, .int 0), (0, .ref (ad 0)), (1, .int x1), (2, .int x2)]) hx hb dX7_alike_52 rfl hl (by decide) rfl (fun ls hl => ?_)
          exact L53 0 0 goe tai per lea com see FU H locs ls 0 cou hf hP hD hS (lv_sub hl [1, 2, 3, 0] rfl)
        · replace hf := it_n c_42 hf
          exact J45 H locs ls 0 0 goe tai per lea com see cou hf hP hD hS (lv_sub hl [0] rfl)
    · replace hf := it_p c_16 hf
      refine lv_ldc (own := RX7) (v := (-1000001)) hx hb hown hw_0 dX7_alike_19 ?_
      obtain rfl := Option.some.inj hf
      rw [← hQe]
      exact W.iret (v := (-1000001)) hx hb hr (fun t ht hW => ⟨rfl, by rw [ht]; exact hP, hS.F ht⟩) hS.2.2 dX7_alike_21
def FX7_goOn_L194   (nex_194 : Nat → Int32) (res_194 : Nat → Int32) : Nat → Int32 → (Nat → Int32) → Option ((Nat → Int32) × (Nat → Int32) × (Nat → Int32))
  | 0, _, _ => none
  | fuel + 1, x2_194, don_194 => (if 65 ≤ x2_194 then (some (don_194, nex_194, res_194)) else (gi x2_194 65 (gi x2_194 65 (bd (x2_194 + 1) (fun v_212 => (FX7_goOn_L194 nex_194 res_194 fuel) v_212 (upd don_194 (Int32.toNatClampNeg x2_194) (nex_194 (Int32.toNatClampNeg x2_194))))))))
def FX7_goOn_L134  (k28 : Int32 → (Nat → Int32) → (Nat → Int32) → Option ((Nat → Int32) × (Nat → Int32) × (Nat → Int32))) (x1 : Int32) (x2_134 : Int32) (pri : Int32) (num : Nat → Int32) (don_28 : Nat → Int32) (res_134 : Nat → Int32) : Nat → Int32 → (Nat → Int32) → Option ((Nat → Int32) × (Nat → Int32) × (Nat → Int32))
  | 0, _, _ => none
  | fuel + 1, x3_134, nex_134 => (if 65 ≤ x3_134 then (gi 0 65 (gi ((5 * x1) + x2_134) 50 (gd (¬ pri = 0) (gi 0 65 (bd (x2_134 + (-1)) (fun v_186 => k28 v_186 (upd nex_134 (Int32.toNatClampNeg 0) (irm ((nex_134 (Int32.toNatClampNeg 0)) + (num (Int32.toNatClampNeg ((5 * x1) + x2_134)))) pri)) res_134)))))) else (gi x3_134 65 (gi x3_134 65 (bd (x3_134 + 1) (fun v_152 => (FX7_goOn_L134 k28 x1 x2_134 pri num don_28 res_134 fuel) v_152 (upd nex_134 (Int32.toNatClampNeg x3_134) (res_134 (Int32.toNatClampNeg x3_134))))))))
def FX7_goOn_J126  (k28 : Int32 → (Nat → Int32) → (Nat → Int32) → Option ((Nat → Int32) × (Nat → Int32) × (Nat → Int32))) (k55 : Int32 → (Nat → Int32) → Option ((Nat → Int32) × (Nat → Int32) × (Nat → Int32))) (x1 : Int32) (x2_55 : Int32) (x3_126 : Int32) (pri : Int32) (num : Nat → Int32) (don_28 : Nat → Int32) (nex_55 : Nat → Int32) (res_126 : Nat → Int32) : Option ((Nat → Int32) × (Nat → Int32) × (Nat → Int32)) := (bd (x3_126 + 1) (fun v_126 => k55 v_126 res_126))
def FX7_goOn_L64  (k28 : Int32 → (Nat → Int32) → (Nat → Int32) → Option ((Nat → Int32) × (Nat → Int32) × (Nat → Int32))) (k55 : Int32 → (Nat → Int32) → Option ((Nat → Int32) × (Nat → Int32) × (Nat → Int32))) (x1 : Int32) (x2_55 : Int32) (x3_64 : Int32) (pri : Int32) (num : Nat → Int32) (don_28 : Nat → Int32) (nex_55 : Nat → Int32) : Nat → Int32 → (Nat → Int32) → Option ((Nat → Int32) × (Nat → Int32) × (Nat → Int32))
  | 0, _, _ => none
  | fuel + 1, x4_64, res_64 => (if 65 ≤ (x3_64 + x4_64) then FX7_goOn_J126 k28 k55 x1 x2_55 x3_64 pri num don_28 nex_55 res_64 else (gi x3_64 65 (if (nex_55 (Int32.toNatClampNeg x3_64)) = 0 then FX7_goOn_J126 k28 k55 x1 x2_55 x3_64 pri num don_28 nex_55 res_64 else (gi (x3_64 + x4_64) 65 (gi x3_64 65 (gi x4_64 65 (gd (¬ pri = 0) (gi (x3_64 + x4_64) 65 (bd (x4_64 + 1) (fun v_120 => (FX7_goOn_L64 k28 k55 x1 x2_55 x3_64 pri num don_28 nex_55 fuel) v_120 (upd res_64 (Int32.toNatClampNeg (x3_64 + x4_64)) (irm ((res_64 (Int32.toNatClampNeg (x3_64 + x4_64))) + ((nex_55 (Int32.toNatClampNeg x3_64)) * (don_28 (Int32.toNatClampNeg x4_64)))) pri))))))))))))
def FX7_goOn_L55  (k28 : Int32 → (Nat → Int32) → (Nat → Int32) → Option ((Nat → Int32) × (Nat → Int32) × (Nat → Int32))) (x1 : Int32) (x2_55 : Int32) (pri : Int32) (num : Nat → Int32) (don_28 : Nat → Int32) (nex_55 : Nat → Int32) : Nat → Int32 → (Nat → Int32) → Option ((Nat → Int32) × (Nat → Int32) × (Nat → Int32))
  | 0, _, _ => none
  | fuel + 1, x3_55, res_55 => (if 65 ≤ x3_55 then (FX7_goOn_L134 k28 x1 x2_55 pri num don_28 res_55 FU 0 nex_55) else (FX7_goOn_L64 k28 (FX7_goOn_L55 k28 x1 x2_55 pri num don_28 nex_55 fuel) x1 x2_55 x3_55 pri num don_28 nex_55 FU 0 res_55))
def FX7_goOn_L34  (k28 : Int32 → (Nat → Int32) → (Nat → Int32) → Option ((Nat → Int32) × (Nat → Int32) × (Nat → Int32))) (x1 : Int32) (x2_34 : Int32) (pri : Int32) (num : Nat → Int32) (don_28 : Nat → Int32) (nex_34 : Nat → Int32) : Nat → Int32 → (Nat → Int32) → Option ((Nat → Int32) × (Nat → Int32) × (Nat → Int32))
  | 0, _, _ => none
  | fuel + 1, x3_34, res_34 => (if 65 ≤ x3_34 then (FX7_goOn_L55 k28 x1 x2_34 pri num don_28 nex_34 FU 0 res_34) else (gi x3_34 65 (bd (x3_34 + 1) (fun v_47 => (FX7_goOn_L34 k28 x1 x2_34 pri num don_28 nex_34 fuel) v_47 (upd res_34 (Int32.toNatClampNeg x3_34) 0)))))
def FX7_goOn_L28   (x1 : Int32) (pri : Int32) (num : Nat → Int32) (don_28 : Nat → Int32) : Nat → Int32 → (Nat → Int32) → (Nat → Int32) → Option ((Nat → Int32) × (Nat → Int32) × (Nat → Int32))
  | 0, _, _, _ => none
  | fuel + 1, x2_28, nex_28, res_28 => (if x2_28 < 0 then (FX7_goOn_L194 nex_28 res_28 FU 0 don_28) else (FX7_goOn_L34 (FX7_goOn_L28 x1 pri num don_28 fuel) x1 x2_28 pri num don_28 nex_28 FU 0 res_28))
def FX7_goOn_L2   (x1 : Int32) (pri : Int32) (deg : Nat → Int32) (num : Nat → Int32) (don_2 : Nat → Int32) (res_2 : Nat → Int32) : Nat → Int32 → (Nat → Int32) → Option ((Nat → Int32) × (Nat → Int32) × (Nat → Int32))
  | 0, _, _ => none
  | fuel + 1, x2_2, nex_2 => (if 65 ≤ x2_2 then (gi x1 10 (bd (deg (Int32.toNatClampNeg x1)) (fun v_27 => FX7_goOn_L28 x1 pri num don_2 FU v_27 nex_2 res_2))) else (gi x2_2 65 (bd (x2_2 + 1) (fun v_15 => (FX7_goOn_L2 x1 pri deg num don_2 res_2 fuel) v_15 (upd nex_2 (Int32.toNatClampNeg x2_2) 0)))))
def FX7_goOn  (pri : Int32) (deg : Nat → Int32) (num : Nat → Int32) (don : Nat → Int32) (nex : Nat → Int32) (res : Nat → Int32) (x1 : Int32) : Option ((Nat → Int32) × (Nat → Int32) × (Nat → Int32)) := (FX7_goOn_L2 x1 pri deg num don res FU 0 nex)
abbrev RMX7_goOn : Room := { frames := 0, cells := 0, slots := 0, locals := 0 }
set_option maxHeartbeats 4000000 in
set_option maxRecDepth 100000 in
theorem KX7_goOn (l : Launch) (D : va_G) (cy : Nat → ClassId) (ad : Nat → Nat) (thr : Int32) (sta : Int32) (pri : Int32) (tcd : Int32) (frt : Int32) (frp : Int32) (deg : Nat → Int32) (num : Nat → Int32) (don : Nat → Int32) (nex : Nat → Int32) (res : Nat → Int32) (x1 : Int32) (sz : Nat) {out : (Nat → Int32) × (Nat → Int32) × (Nat → Int32)} (hf : FX7_goOn pri deg num don nex res x1 = some out) : Met l yX7_goOn wsX7_goOn RMX7_goOn (PW D cy [.ref (ad 0), .int x1] sz ((wX7_0_4_5_17_18_19 cy ad thr sta pri tcd frt frp deg num don nex res)) []) (QW D none ((wX7_0_4_5_17_18_19 cy ad thr sta pri tcd frt frp deg num out.1 out.2.1 out.2.2)) (va_A ((wX7_0_4_5_17_18_19 cy ad thr sta pri tcd frt frp deg num don nex res)) sz)) 0 0 (va_A ((wX7_0_4_5_17_18_19 cy ad thr sta pri tcd frt frp deg num don nex res)) sz) := by
  refine Met.ofW (cc := cX7_goOn) (maxL := 5) (ret := none) (by decide +kernel) rfl ?_
  intro p e s m args below meth c s₁ B hml hv
  obtain ⟨hav, hsz, hP, hR0, hK, hN, hD0, hsep⟩ := hv
  have hx := B.exec
  have hb := B.bytes
  have hr := B.returns
  have hts := atoms_spec (ws := wsX7_goOn) B.pre
  have hown : s.vm.findClass RX7 = some m.cls := findClass_of_methodNamed B.named
  have hlocks := B.notSynchronized
  subst hsz
  have hin_X7 : ∀ w ∈ u_ws RX7 TX7 28, w ∈ wsX7_goOn := by decide +kernel
  have hw_0 := hts (.fieldLink RX7 68 "ReturnPointsModel" "done" "[I") (by decide +kernel)
  have hw_1 := hts (.fieldLink RX7 71 "ReturnPointsModel" "next" "[I") (by decide +kernel)
  have hw_2 := hts (.fieldLink RX7 31 "ReturnPointsModel" "number" "[I") (by decide +kernel)
  have hw_3 := hts (.fieldLink RX7 98 "ReturnPointsModel" "prime" "I") (by decide +kernel)
  have hw_4 := hts (.fieldLink RX7 74 "ReturnPointsModel" "rest" "[I") (by decide +kernel)
  have hw_5 := hts (.fieldLink RX7 28 "ReturnPointsModel" "degree" "[I") (by decide +kernel)
  have hD := hD0.self (sz := s.heap.size)
  have hnA := roA hsep hR0
  generalize hAe : va_A ((wX7_0_4_5_17_18_19 cy ad thr sta pri tcd frt frp deg num don nex res)) s.heap.size = A at hD hnA ⊢
  have hA : ∀ q : Nat, s.heap.size ≤ q → A q := fun q h => by rw [← hAe]; exact Or.inr h
  have hS : va_S A s.heap s.heap [] := va_S.rf
  obtain ⟨ls, hfr, hl⟩ := ent_ok (m := m) (n := 5) (l' := [(0, .ref (ad 0)), (1, .int x1)]) [.ref (ad 0), .int x1] hav (Nat.le_of_ble_eq_true rfl) rfl
  rw [hfr]
  generalize hQe : MQ below (QW D none ((wX7_0_4_5_17_18_19 cy ad thr sta pri tcd frt frp deg num out.1 out.2.1 out.2.2)) A) args s 0 0 A = QQ
  change W p l e RMX7_goOn s m args below meth c s.heap [] 0 0 QQ (F0 m 0 ls [])
  have hP : va_P D vwCl ((wX7_0_4_5_17_18_19 cy ad thr sta pri tcd frt frp deg num don nex res)) s.heap := hP
  have hD : va_D A ((wX7_0_4_5_17_18_19 cy ad thr sta pri tcd frt frp deg num don nex res)) := hD
  suffices h00 : ∀ (H : Heap) (locs : List Loc), va_P D vwCl ((wX7_0_4_5_17_18_19 cy ad thr sta pri tcd frt frp deg num don nex res)) H → va_S A s.heap H locs → W p l e RMX7_goOn s m args below meth c H locs 0 0 QQ (F0 m 0 ls []) from h00 _ _ hP hS
  clear hP hS
  intro H locs hP hS
  have L194 : ∀ (nex_194 : Nat → Int32) (res_194 : Nat → Int32) (n194 : Nat) (H : Heap) (locs : List Loc) (ls : Array Slot) (x2_194 : Int32) (don_194 : Nat → Int32), FX7_goOn_L194 nex_194 res_194 n194 x2_194 don_194 = some out → va_P D vwCl ((wX7_0_4_5_17_18_19 cy ad thr sta pri tcd frt frp deg num don_194 nex_194 res_194)) H → va_D A ((wX7_0_4_5_17_18_19 cy ad thr sta pri tcd frt frp deg num don_194 nex_194 res_194)) → va_S A s.heap H locs → lv_has ls 5 [(0, .ref (ad 0)), (2, .int x2_194)] → W p l e RMX7_goOn s m args below meth c H locs 0 0 QQ (F0 m 194 ls []) := by
    intro nex_194 res_194 n194
    induction n194 with
    | zero => intro H locs ls x2_194 don_194 hf; simp [FX7_goOn_L194] at hf
    | succ n194 ih194 =>
      intro H locs ls x2_194 don_194 hf hP hD hS hl
      rw [FX7_goOn_L194] at hf
      refine lv_iload_n hx hb dX7_goOn_194 rfl (lv_at hl 1 rfl) ?_
      refine lv_bipush (v := 65) hx hb dX7_goOn_195 (by decide) ?_
      refine lv_icmp_ge (tgt := 218) hx hb dX7_goOn_197 (by decide) (fun c_197 => ?_) (fun c_197 => ?_)
      · replace hf := it_p c_197 hf
        obtain rfl := Option.some.inj hf
        rw [← hQe]
        exact W.vret hx hb hr (fun t ht hW => ⟨rfl, by rw [ht]; exact hP, hS.F ht⟩) hS.2.2 dX7_goOn_218
      · replace hf := it_n c_197 hf
        refine lv_aload_n hx hb dX7_goOn_200 rfl (lv_at hl 0 rfl) ?_
        refine va_get (a := (ad 0)) (ci := 7) (v := .ref (ad 17)) (C := RX7) (T := TX7) (N := 28) hx hb hts hin_X7 hown hK hP 0 rfl rfl 20 (by decide) hw_0 (fun _ h => h) rfl dX7_goOn_201 ?_
        refine lv_iload_n hx hb dX7_goOn_204 rfl (lv_at hl 1 rfl) ?_
        refine lv_aload_n hx hb dX7_goOn_205 rfl (lv_at hl 0 rfl) ?_
        refine va_get (a := (ad 0)) (ci := 7) (v := .ref (ad 18)) (C := RX7) (T := TX7) (N := 28) hx hb hts hin_X7 hown hK hP 0 rfl rfl 21 (by decide) hw_1 (fun _ h => h) rfl dX7_goOn_206 ?_
        refine lv_iload_n hx hb dX7_goOn_209 rfl (lv_at hl 1 rfl) ?_
        replace hf := gi_e hf
        obtain ⟨i_210, hf⟩ := hf
        refine va_iald (a := (ad 18)) hx hb hK hP 4 0 rfl rfl i_210 dX7_goOn_210 ?_
        replace hf := gi_e hf
        obtain ⟨i_211, hf⟩ := hf
        refine va_iast (a := (ad 17)) hx hb hK hP hD hS 3 0 rfl rfl i_211 dX7_goOn_211 (fun H locs hP hD hS => ?_)
        have hP : va_P D vwCl ((wX7_0_4_5_17_18_19 cy ad thr sta pri tcd frt frp deg num (upd don_194 (Int32.toNatClampNeg x2_194) (nex_194 (Int32.toNatClampNeg x2_194))) nex_194 res_194)) H := hP
        have hD : va_D A ((wX7_0_4_5_17_18_19 cy ad thr sta pri tcd frt frp deg num (upd don_194 (Int32.toNatClampNeg x2_194) (nex_194 (Int32.toNatClampNeg x2_194))) nex_194 res_194)) := hD
        obtain ⟨v_212, e_212⟩ : ∃ y : Int32, y = x2_194 + 1 := ⟨_, rfl⟩
        replace hf := bd_at e_212 hf
        refine lv_iinc (v := v_212) (lv' := [(2, .int v_212), (0, .ref (ad 0))]) hx hb dX7_goOn_212 hl (k := 1) rfl (by rw [e_212]; rfl) (by decide) rfl (fun ls hl => ?_)
        clear e_212
        refine lv_goto (tgt := 194) hx hb dX7_goOn_215 (by decide) ?_
        exact ih194 H locs ls v_212 (upd don_194 (Int32.toNatClampNeg x2_194) (nex_194 (Int32.toNatClampNeg x2_194))) hf hP hD hS (lv_sub hl [1, 0] rfl)
  have L28 : ∀ (don_28 : Nat → Int32) (n28 : Nat) (H : Heap) (locs : List Loc) (ls : Array Slot) (x2_28 : Int32) (nex_28 : Nat → Int32) (res_28 : Nat → Int32), FX7_goOn_L28 x1 pri num don_28 n28 x2_28 nex_28 res_28 = some out → va_P D vwCl ((wX7_0_4_5_17_18_19 cy ad thr sta pri tcd frt frp deg num don_28 nex_28 res_28)) H → va_D A ((wX7_0_4_5_17_18_19 cy ad thr sta pri tcd frt frp deg num don_28 nex_28 res_28)) → va_S A s.heap H locs → lv_has ls 5 [(0, .ref (ad 0)), (1, .int x1), (2, .int x2_28)] → W p l e RMX7_goOn s m args below meth c H locs 0 0 QQ (F0 m 28 ls []) := by
    intro don_28 n28
    induction n28 with
    | zero => intro H locs ls x2_28 nex_28 res_28 hf; simp [FX7_goOn_L28] at hf
    | succ n28 ih28 =>
      intro H locs ls x2_28 nex_28 res_28 hf hP hD hS hl
      rw [FX7_goOn_L28] at hf
      have L134 : ∀ (x2_134 : Int32) (res_134 : Nat → Int32) (n134 : Nat) (H : Heap) (locs : List Loc) (ls : Array Slot) (x3_134 : Int32) (nex_134 : Nat → Int32), FX7_goOn_L134 (FX7_goOn_L28 x1 pri num don_28 n28) x1 x2_134 pri num don_28 res_134 n134 x3_134 nex_134 = some out → va_P D vwCl ((wX7_0_4_5_17_18_19 cy ad thr sta pri tcd frt frp deg num don_28 nex_134 res_134)) H → va_D A ((wX7_0_4_5_17_18_19 cy ad thr sta pri tcd frt frp deg num don_28 nex_134 res_134)) → va_S A s.heap H locs → lv_has ls 5 [(0, .ref (ad 0)), (1, .int x1), (2, .int x2_134), (3, .int x3_134)] → W p l e RMX7_goOn s m args below meth c H locs 0 0 QQ (F0 m 134 ls []) := by
        intro x2_134 res_134 n134
        induction n134 with
        | zero => intro H locs ls x3_134 nex_134 hf; simp [FX7_goOn_L134] at hf
        | succ n134 ih134 =>
          intro H locs ls x3_134 nex_134 hf hP hD hS hl
          rw [FX7_goOn_L134] at hf
          refine lv_iload_n hx hb dX7_goOn_134 rfl (lv_at hl 3 rfl) ?_
          refine lv_bipush (v := 65) hx hb dX7_goOn_135 (by decide) ?_
          refine lv_icmp_ge (tgt := 158) hx hb dX7_goOn_137 (by decide) (fun c_137 => ?_) (fun c_137 => ?_)
          · replace hf := it_p c_137 hf
            refine lv_aload_n hx hb dX7_goOn_158 rfl (lv_at hl 0 rfl) ?_
            refine va_get (a := (ad 0)) (ci := 7) (v := .ref (ad 18)) (C := RX7) (T := TX7) (N := 28) hx hb hts hin_X7 hown hK hP 0 rfl rfl 21 (by decide) hw_1 (fun _ h => h) rfl dX7_goOn_159 ?_
            refine lv_iconst (v := 0) hx hb dX7_goOn_162 (by decide) ?_
            refine lv_aload_n hx hb dX7_goOn_163 rfl (lv_at hl 0 rfl) ?_
            refine va_get (a := (ad 0)) (ci := 7) (v := .ref (ad 18)) (C := RX7) (T := TX7) (N := 28) hx hb hts hin_X7 hown hK hP 0 rfl rfl 21 (by decide) hw_1 (fun _ h => h) rfl dX7_goOn_164 ?_
            refine lv_iconst (v := 0) hx hb dX7_goOn_167 (by decide) ?_
            replace hf := gi_e hf
            obtain ⟨i_168, hf⟩ := hf
            refine va_iald (a := (ad 18)) hx hb hK hP 4 0 rfl rfl i_168 dX7_goOn_168 ?_
            refine lv_aload_n hx hb dX7_goOn_169 rfl (lv_at hl 0 rfl) ?_
            refine va_get (a := (ad 0)) (ci := 7) (v := .ref (ad 5)) (C := RX7) (T := TX7) (N := 28) hx hb hts hin_X7 hown hK hP 0 rfl rfl 7 (by decide) hw_2 (fun _ h => h) rfl dX7_goOn_170 ?_
            refine lv_iconst (v := 5) hx hb dX7_goOn_173 (by decide) ?_
            refine lv_iload_n hx hb dX7_goOn_174 rfl (lv_at hl 1 rfl) ?_
            refine lv_imul hx hb dX7_goOn_175 ?_
            refine lv_iload_n hx hb dX7_goOn_176 rfl (lv_at hl 2 rfl) ?_
            refine lv_iadd hx hb dX7_goOn_177 ?_
            replace hf := gi_e hf
            obtain ⟨i_178, hf⟩ := hf
            refine va_iald (a := (ad 5)) hx hb hK hP 2 0 rfl rfl i_178 dX7_goOn_178 ?_
            refine lv_iadd hx hb dX7_goOn_179 ?_
            refine lv_aload_n hx hb dX7_goOn_180 rfl (lv_at hl 0 rfl) ?_
            refine va_get (a := (ad 0)) (ci := 7) (v := .int pri) (C := RX7) (T := TX7) (N := 28) hx hb hts hin_X7 hown hK hP 0 rfl rfl 2 (by decide) hw_3 (fun _ h => h) rfl dX7_goOn_181 ?_
            replace hf := gd_e hf
            obtain ⟨z_184, hf⟩ := hf
            refine rw_irem hx hb dX7_goOn_184 z_184 ?_
            replace hf := gi_e hf
            obtain ⟨i_185, hf⟩ := hf
            refine va_iast (a := (ad 18)) hx hb hK hP hD hS 4 0 rfl rfl i_185 dX7_goOn_185 (fun H locs hP hD hS => ?_)
            have hP : va_P D vwCl ((wX7_0_4_5_17_18_19 cy ad thr sta pri tcd frt frp deg num don_28 (upd nex_134 (Int32.toNatClampNeg 0) (irm ((nex_134 (Int32.toNatClampNeg 0)) + (num (Int32.toNatClampNeg ((5 * x1) + x2_134)))) pri)) res_134)) H := hP
            have hD : va_D A ((wX7_0_4_5_17_18_19 cy ad thr sta pri tcd frt frp deg num don_28 (upd nex_134 (Int32.toNatClampNeg 0) (irm ((nex_134 (Int32.toNatClampNeg 0)) + (num (Int32.toNatClampNeg ((5 * x1) + x2_134)))) pri)) res_134)) := hD
            obtain ⟨v_186, e_186⟩ : ∃ y : Int32, y = x2_134 + (-1) := ⟨_, rfl⟩
            replace hf := bd_at e_186 hf
            refine lv_iinc (v := v_186) (lv' := [(2, .int v_186), (0, .ref (ad 0)), (1, .int x1), (3, .int x3_134)]) hx hb dX7_goOn_186 hl (k := 2) rfl (by rw [e_186]; rfl) (by decide) rfl (fun ls hl => ?_)
            clear e_186
            refine lv_goto (tgt := 28) hx hb dX7_goOn_189 (by decide) ?_
            exact ih28 H locs ls v_186 (upd nex_134 (Int32.toNatClampNeg 0) (irm ((nex_134 (Int32.toNatClampNeg 0)) + (num (Int32.toNatClampNeg ((5 * x1) + x2_134)))) pri)) res_134 hf hP hD hS (lv_sub hl [1, 2, 0] rfl)
          · replace hf := it_n c_137 hf
            refine lv_aload_n hx hb dX7_goOn_140 rfl (lv_at hl 0 rfl) ?_
            refine va_get (a := (ad 0)) (ci := 7) (v := .ref (ad 18)) (C := RX7) (T := TX7) (N := 28) hx hb hts hin_X7 hown hK hP 0 rfl rfl 21 (by decide) hw_1 (fun _ h => h) rfl dX7_goOn_141 ?_
            refine lv_iload_n hx hb dX7_goOn_144 rfl (lv_at hl 3 rfl) ?_
            refine lv_aload_n hx hb dX7_goOn_145 rfl (lv_at hl 0 rfl) ?_
            refine va_get (a := (ad 0)) (ci := 7) (v := .ref (ad 19)) (C := RX7) (T := TX7) (N := 28) hx hb hts hin_X7 hown hK hP 0 rfl rfl 22 (by decide) hw_4 (fun _ h => h) rfl dX7_goOn_146 ?_
            refine lv_iload_n hx hb dX7_goOn_149 rfl (lv_at hl 3 rfl) ?_
            replace hf := gi_e hf
            obtain ⟨i_150, hf⟩ := hf
            refine va_iald (a := (ad 19)) hx hb hK hP 5 0 rfl rfl i_150 dX7_goOn_150 ?_
            replace hf := gi_e hf
            obtain ⟨i_151, hf⟩ := hf
            refine va_iast (a := (ad 18)) hx hb hK hP hD hS 4 0 rfl rfl i_151 dX7_goOn_151 (fun H locs hP hD hS => ?_)
            have hP : va_P D vwCl ((wX7_0_4_5_17_18_19 cy ad thr sta pri tcd frt frp deg num don_28 (upd nex_134 (Int32.toNatClampNeg x3_134) (res_134 (Int32.toNatClampNeg x3_134))) res_134)) H := hP
            have hD : va_D A ((wX7_0_4_5_17_18_19 cy ad thr sta pri tcd frt frp deg num don_28 (upd nex_134 (Int32.toNatClampNeg x3_134) (res_134 (Int32.toNatClampNeg x3_134))) res_134)) := hD
            obtain ⟨v_152, e_152⟩ : ∃ y : Int32, y = x3_134 + 1 := ⟨_, rfl⟩
            replace hf := bd_at e_152 hf
            refine lv_iinc (v := v_152) (lv' := [(3, .int v_152), (0, .ref (ad 0)), (1, .int x1), (2, .int x2_134)]) hx hb dX7_goOn_152 hl (k := 3) rfl (by rw [e_152]; rfl) (by decide) rfl (fun ls hl => ?_)
            clear e_152
            refine lv_goto (tgt := 134) hx hb dX7_goOn_155 (by decide) ?_
            exact ih134 H locs ls v_152 (upd nex_134 (Int32.toNatClampNeg x3_134) (res_134 (Int32.toNatClampNeg x3_134))) hf hP hD hS (lv_sub hl [1, 2, 3, 0] rfl)
      have L55 : ∀ (x2_55 : Int32) (nex_55 : Nat → Int32) (n55 : Nat) (H : Heap) (locs : List Loc) (ls : Array Slot) (x3_55 : Int32) (res_55 : Nat → Int32), FX7_goOn_L55 (FX7_goOn_L28 x1 pri num don_28 n28) x1 x2_55 pri num don_28 nex_55 n55 x3_55 res_55 = some out → va_P D vwCl ((wX7_0_4_5_17_18_19 cy ad thr sta pri tcd frt frp deg num don_28 nex_55 res_55)) H → va_D A ((wX7_0_4_5_17_18_19 cy ad thr sta pri tcd frt frp deg num don_28 nex_55 res_55)) → va_S A s.heap H locs → lv_has ls 5 [(0, .ref (ad 0)), (1, .int x1), (2, .int x2_55), (3, .int x3_55)] → W p l e RMX7_goOn s m args below meth c H locs 0 0 QQ (F0 m 55 ls []) := by
        intro x2_55 nex_55 n55
        induction n55 with
        | zero => intro H locs ls x3_55 res_55 hf; simp [FX7_goOn_L55] at hf
        | succ n55 ih55 =>
          intro H locs ls x3_55 res_55 hf hP hD hS hl
          rw [FX7_goOn_L55] at hf
          have J126 : ∀ (H : Heap) (locs : List Loc) (ls : Array Slot) (x3_126 : Int32) (res_126 : Nat → Int32), FX7_goOn_J126 (FX7_goOn_L28 x1 pri num don_28 n28) (FX7_goOn_L55 (FX7_goOn_L28 x1 pri num don_28 n28) x1 x2_55 pri num don_28 nex_55 n55) x1 x2_55 x3_126 pri num don_28 nex_55 res_126 = some out → va_P D vwCl ((wX7_0_4_5_17_18_19 cy ad thr sta pri tcd frt frp deg num don_28 nex_55 res_126)) H → va_D A ((wX7_0_4_5_17_18_19 cy ad thr sta pri tcd frt frp deg num don_28 nex_55 res_126)) → va_S A s.heap H locs → lv_has ls 5 [(0, .ref (ad 0)), (1, .int x1), (2, .int x2_55), (3, .int x3_126)] → W p l e RMX7_goOn s m args below meth c H locs 0 0 QQ (F0 m 126 ls []) := by
            intro H locs ls x3_126 res_126 hf hP hD hS hl
            unfold FX7_goOn_J126 at hf
            obtain ⟨v_126, e_126⟩ : ∃ y : Int32, y = x3_126 + 1 := ⟨_, rfl⟩
            replace hf := bd_at e_126 hf
            refine lv_iinc (v := v_126) (lv' := [(3, .int v_126), (0, .ref (ad 0)), (1, .int x1), (2, .int x2_55)]) hx hb dX7_goOn_126 hl (k := 3) rfl (by rw [e_126]; rfl) (by decide) rfl (fun ls hl => ?_)
            clear e_126
            refine lv_goto (tgt := 55) hx hb dX7_goOn_129 (by decide) ?_
            exact ih55 H locs ls v_126 res_126 hf hP hD hS (lv_sub hl [1, 2, 3, 0] rfl)
          have L64 : ∀ (x3_64 : Int32) (n64 : Nat) (H : Heap) (locs : List Loc) (ls : Array Slot) (x4_64 : Int32) (res_64 : Nat → Int32), FX7_goOn_L64 (FX7_goOn_L28 x1 pri num don_28 n28) (FX7_goOn_L55 (FX7_goOn_L28 x1 pri num don_28 n28) x1 x2_55 pri num don_28 nex_55 n55) x1 x2_55 x3_64 pri num don_28 nex_55 n64 x4_64 res_64 = some out → va_P D vwCl ((wX7_0_4_5_17_18_19 cy ad thr sta pri tcd frt frp deg num don_28 nex_55 res_64)) H → va_D A ((wX7_0_4_5_17_18_19 cy ad thr sta pri tcd frt frp deg num don_28 nex_55 res_64)) → va_S A s.heap H locs → lv_has ls 5 [(0, .ref (ad 0)), (1, .int x1), (2, .int x2_55), (3, .int x3_64), (4, .int x4_64)] → W p l e RMX7_goOn s m args below meth c H locs 0 0 QQ (F0 m 64 ls []) := by
            intro x3_64 n64
            induction n64 with
            | zero => intro H locs ls x4_64 res_64 hf; simp [FX7_goOn_L64] at hf
            | succ n64 ih64 =>
              intro H locs ls x4_64 res_64 hf hP hD hS hl
              rw [FX7_goOn_L64] at hf
              refine lv_iload_n hx hb dX7_goOn_64 rfl (lv_at hl 3 rfl) ?_
              refine lv_iload hx hb dX7_goOn_65 (lv_at hl 4 rfl) ?_
              refine lv_iadd hx hb dX7_goOn_67 ?_
              refine lv_bipush (v := 65) hx hb dX7_goOn_68 (by decide) ?_
              refine lv_icmp_ge (tgt := 126) hx hb dX7_goOn_70 (by decide) (fun c_70 => ?_) (fun c_70 => ?_)
              · replace hf := it_p c_70 hf
                exact J126 H locs ls x3_64 res_64 hf hP hD hS (lv_sub hl [0, 1, 2, 3] rfl)
              · replace hf := it_n c_70 hf
                refine lv_aload_n hx hb dX7_goOn_73 rfl (lv_at hl 0 rfl) ?_
                refine va_get (a := (ad 0)) (ci := 7) (v := .ref (ad 18)) (C := RX7) (T := TX7) (N := 28) hx hb hts hin_X7 hown hK hP 0 rfl rfl 21 (by decide) hw_1 (fun _ h => h) rfl dX7_goOn_74 ?_
                refine lv_iload_n hx hb dX7_goOn_77 rfl (lv_at hl 3 rfl) ?_
                replace hf := gi_e hf
                obtain ⟨i_78, hf⟩ := hf
                refine va_iald (a := (ad 18)) hx hb hK hP 4 0 rfl rfl i_78 dX7_goOn_78 ?_
                refine lv_if_eq (tgt := 126) hx hb dX7_goOn_79 (by decide) (fun c_79 => ?_) (fun c_79 => ?_)
                · replace hf := it_p c_79 hf
                  exact J126 H locs ls x3_64 res_64 hf hP hD hS (lv_sub hl [0, 1, 2, 3] rfl)
                · replace hf := it_n c_79 hf
                  refine lv_aload_n hx hb dX7_goOn_82 rfl (lv_at hl 0 rfl) ?_
                  refine va_get (a := (ad 0)) (ci := 7) (v := .ref (ad 19)) (C := RX7) (T := TX7) (N := 28) hx hb hts hin_X7 hown hK hP 0 rfl rfl 22 (by decide) hw_4 (fun _ h => h) rfl dX7_goOn_83 ?_
                  refine lv_iload_n hx hb dX7_goOn_86 rfl (lv_at hl 3 rfl) ?_
                  refine lv_iload hx hb dX7_goOn_87 (lv_at hl 4 rfl) ?_
                  refine lv_iadd hx hb dX7_goOn_89 ?_
                  refine lv_aload_n hx hb dX7_goOn_90 rfl (lv_at hl 0 rfl) ?_
                  refine va_get (a := (ad 0)) (ci := 7) (v := .ref (ad 19)) (C := RX7) (T := TX7) (N := 28) hx hb hts hin_X7 hown hK hP 0 rfl rfl 22 (by decide) hw_4 (fun _ h => h) rfl dX7_goOn_91 ?_
                  refine lv_iload_n hx hb dX7_goOn_94 rfl (lv_at hl 3 rfl) ?_
                  refine lv_iload hx hb dX7_goOn_95 (lv_at hl 4 rfl) ?_
                  refine lv_iadd hx hb dX7_goOn_97 ?_
                  replace hf := gi_e hf
                  obtain ⟨i_98, hf⟩ := hf
                  refine va_iald (a := (ad 19)) hx hb hK hP 5 0 rfl rfl i_98 dX7_goOn_98 ?_
                  refine lv_aload_n hx hb dX7_goOn_99 rfl (lv_at hl 0 rfl) ?_
                  refine va_get (a := (ad 0)) (ci := 7) (v := .ref (ad 18)) (C := RX7) (T := TX7) (N := 28) hx hb hts hin_X7 hown hK hP 0 rfl rfl 21 (by decide) hw_1 (fun _ h => h) rfl dX7_goOn_100 ?_
                  refine lv_iload_n hx hb dX7_goOn_103 rfl (lv_at hl 3 rfl) ?_
                  replace hf := gi_e hf
                  obtain ⟨i_104, hf⟩ := hf
                  refine va_iald (a := (ad 18)) hx hb hK hP 4 0 rfl rfl i_104 dX7_goOn_104 ?_
                  refine lv_aload_n hx hb dX7_goOn_105 rfl (lv_at hl 0 rfl) ?_
                  refine va_get (a := (ad 0)) (ci := 7) (v := .ref (ad 17)) (C := RX7) (T := TX7) (N := 28) hx hb hts hin_X7 hown hK hP 0 rfl rfl 20 (by decide) hw_0 (fun _ h => h) rfl dX7_goOn_106 ?_
                  refine lv_iload hx hb dX7_goOn_109 (lv_at hl 4 rfl) ?_
                  replace hf := gi_e hf
                  obtain ⟨i_111, hf⟩ := hf
                  refine va_iald (a := (ad 17)) hx hb hK hP 3 0 rfl rfl i_111 dX7_goOn_111 ?_
                  refine lv_imul hx hb dX7_goOn_112 ?_
                  refine lv_iadd hx hb dX7_goOn_113 ?_
                  refine lv_aload_n hx hb dX7_goOn_114 rfl (lv_at hl 0 rfl) ?_
                  refine va_get (a := (ad 0)) (ci := 7) (v := .int pri) (C := RX7) (T := TX7) (N := 28) hx hb hts hin_X7 hown hK hP 0 rfl rfl 2 (by decide) hw_3 (fun _ h => h) rfl dX7_goOn_115 ?_
                  replace hf := gd_e hf
                  obtain ⟨z_118, hf⟩ := hf
                  refine rw_irem hx hb dX7_goOn_118 z_118 ?_
                  replace hf := gi_e hf
                  obtain ⟨i_119, hf⟩ := hf
                  refine va_iast (a := (ad 19)) hx hb hK hP hD hS 5 0 rfl rfl i_119 dX7_goOn_119 (fun H locs hP hD hS => ?_)
                  have hP : va_P D vwCl ((wX7_0_4_5_17_18_19 cy ad thr sta pri tcd frt frp deg num don_28 nex_55 (upd res_64 (Int32.toNatClampNeg (x3_64 + x4_64)) (irm ((res_64 (Int32.toNatClampNeg (x3_64 + x4_64))) + ((nex_55 (Int32.toNatClampNeg x3_64)) * (don_28 (Int32.toNatClampNeg x4_64)))) pri)))) H := hP
                  have hD : va_D A ((wX7_0_4_5_17_18_19 cy ad thr sta pri tcd frt frp deg num don_28 nex_55 (upd res_64 (Int32.toNatClampNeg (x3_64 + x4_64)) (irm ((res_64 (Int32.toNatClampNeg (x3_64 + x4_64))) + ((nex_55 (Int32.toNatClampNeg x3_64)) * (don_28 (Int32.toNatClampNeg x4_64)))) pri)))) := hD
                  obtain ⟨v_120, e_120⟩ : ∃ y : Int32, y = x4_64 + 1 := ⟨_, rfl⟩
                  replace hf := bd_at e_120 hf
                  refine lv_iinc (v := v_120) (lv' := [(4, .int v_120), (0, .ref (ad 0)), (1, .int x1), (2, .int x2_55), (3, .int x3_64)]) hx hb dX7_goOn_120 hl (k := 4) rfl (by rw [e_120]; rfl) (by decide) rfl (fun ls hl => ?_)
                  clear e_120
                  refine lv_goto (tgt := 64) hx hb dX7_goOn_123 (by decide) ?_
                  exact ih64 H locs ls v_120 (upd res_64 (Int32.toNatClampNeg (x3_64 + x4_64)) (irm ((res_64 (Int32.toNatClampNeg (x3_64 + x4_64))) + ((nex_55 (Int32.toNatClampNeg x3_64)) * (don_28 (Int32.toNatClampNeg x4_64)))) pri)) hf hP hD hS (lv_sub hl [1, 2, 3, 4, 0] rfl)
          refine lv_iload_n hx hb dX7_goOn_55 rfl (lv_at hl 3 rfl) ?_
          refine lv_bipush (v := 65) hx hb dX7_goOn_56 (by decide) ?_
          refine lv_icmp_ge (tgt := 132) hx hb dX7_goOn_58 (by decide) (fun c_58 => ?_) (fun c_58 => ?_)
          · replace hf := it_p c_58 hf
            refine lv_iconst (v := 0) hx hb dX7_goOn_132 (by decide) ?_
            refine lv_istore_n (lv' := [(3, .int 0), (0, .ref (ad 0)), (1, .int x1), (2, .int x2_55)]) hx hb dX7_goOn_133 rfl hl (by decide) rfl (fun ls hl => ?_)
            exact L134 x2_55 res_55 FU H locs ls 0 nex_55 hf hP hD hS (lv_sub hl [1, 2, 3, 0] rfl)
          · replace hf := it_n c_58 hf
            refine lv_iconst (v := 0) hx hb dX7_goOn_61 (by decide) ?_
            refine lv_istore (lv' := [(4, .int 0), (0, .ref (ad 0)), (1, .int x1), (2, .int x2_55), (3, .int x3_55)]) hx hb dX7_goOn_62 hl (by decide) rfl (fun ls hl => ?_)
            exact L64 x3_55 FU H locs ls 0 res_55 hf hP hD hS (lv_sub hl [1, 2, 3, 4, 0] rfl)
      have L34 : ∀ (x2_34 : Int32) (nex_34 : Nat → Int32) (n34 : Nat) (H : Heap) (locs : List Loc) (ls : Array Slot) (x3_34 : Int32) (res_34 : Nat → Int32), FX7_goOn_L34 (FX7_goOn_L28 x1 pri num don_28 n28) x1 x2_34 pri num don_28 nex_34 n34 x3_34 res_34 = some out → va_P D vwCl ((wX7_0_4_5_17_18_19 cy ad thr sta pri tcd frt frp deg num don_28 nex_34 res_34)) H → va_D A ((wX7_0_4_5_17_18_19 cy ad thr sta pri tcd frt frp deg num don_28 nex_34 res_34)) → va_S A s.heap H locs → lv_has ls 5 [(0, .ref (ad 0)), (1, .int x1), (2, .int x2_34), (3, .int x3_34)] → W p l e RMX7_goOn s m args below meth c H locs 0 0 QQ (F0 m 34 ls []) := by
        intro x2_34 nex_34 n34
        induction n34 with
        | zero => intro H locs ls x3_34 res_34 hf; simp [FX7_goOn_L34] at hf
        | succ n34 ih34 =>
          intro H locs ls x3_34 res_34 hf hP hD hS hl
          rw [FX7_goOn_L34] at hf
          refine lv_iload_n hx hb dX7_goOn_34 rfl (lv_at hl 3 rfl) ?_
          refine lv_bipush (v := 65) hx hb dX7_goOn_35 (by decide) ?_
          refine lv_icmp_ge (tgt := 53) hx hb dX7_goOn_37 (by decide) (fun c_37 => ?_) (fun c_37 => ?_)
          · replace hf := it_p c_37 hf
            refine lv_iconst (v := 0) hx hb dX7_goOn_53 (by decide) ?_
            refine lv_istore_n (lv' := [(3, .int 0), (0, .ref (ad 0)), (1, .int x1), (2, .int x2_34)]) hx hb dX7_goOn_54 rfl hl (by decide) rfl (fun ls hl => ?_)
            exact L55 x2_34 nex_34 FU H locs ls 0 res_34 hf hP hD hS (lv_sub hl [1, 2, 3, 0] rfl)
          · replace hf := it_n c_37 hf
            refine lv_aload_n hx hb dX7_goOn_40 rfl (lv_at hl 0 rfl) ?_
            refine va_get (a := (ad 0)) (ci := 7) (v := .ref (ad 19)) (C := RX7) (T := TX7) (N := 28) hx hb hts hin_X7 hown hK hP 0 rfl rfl 22 (by decide) hw_4 (fun _ h => h) rfl dX7_goOn_41 ?_
            refine lv_iload_n hx hb dX7_goOn_44 rfl (lv_at hl 3 rfl) ?_
            refine lv_iconst (v := 0) hx hb dX7_goOn_45 (by decide) ?_
            replace hf := gi_e hf
            obtain ⟨i_46, hf⟩ := hf
            refine va_iast (a := (ad 19)) hx hb hK hP hD hS 5 0 rfl rfl i_46 dX7_goOn_46 (fun H locs hP hD hS => ?_)
            have hP : va_P D vwCl ((wX7_0_4_5_17_18_19 cy ad thr sta pri tcd frt frp deg num don_28 nex_34 (upd res_34 (Int32.toNatClampNeg x3_34) 0))) H := hP
            have hD : va_D A ((wX7_0_4_5_17_18_19 cy ad thr sta pri tcd frt frp deg num don_28 nex_34 (upd res_34 (Int32.toNatClampNeg x3_34) 0))) := hD
            obtain ⟨v_47, e_47⟩ : ∃ y : Int32, y = x3_34 + 1 := ⟨_, rfl⟩
            replace hf := bd_at e_47 hf
            refine lv_iinc (v := v_47) (lv' := [(3, .int v_47), (0, .ref (ad 0)), (1, .int x1), (2, .int x2_34)]) hx hb dX7_goOn_47 hl (k := 3) rfl (by rw [e_47]; rfl) (by decide) rfl (fun ls hl => ?_)
            clear e_47
            refine lv_goto (tgt := 34) hx hb dX7_goOn_50 (by decide) ?_
            exact ih34 H locs ls v_47 (upd res_34 (Int32.toNatClampNeg x3_34) 0) hf hP hD hS (lv_sub hl [1, 2, 3, 0] rfl)
      refine lv_iload_n hx hb dX7_goOn_28 rfl (lv_at hl 2 rfl) ?_
      refine lv_if_lt (tgt := 192) hx hb dX7_goOn_29 (by decide) (fun c_29 => ?_) (fun c_29 => ?_)
      · replace hf := it_p c_29 hf
        refine lv_iconst (v := 0) hx hb dX7_goOn_192 (by decide) ?_
        refine lv_istore_n (lv' := [(2, .int 0), (0, .ref (ad 0)), (1, .int x1)]) hx hb dX7_goOn_193 rfl hl (by decide) rfl (fun ls hl => ?_)
        exact L194 nex_28 res_28 FU H locs ls 0 don_28 hf hP hD hS (lv_sub hl [1, 0] rfl)
      · replace hf := it_n c_29 hf
        refine lv_iconst (v := 0) hx hb dX7_goOn_32 (by decide) ?_
        refine lv_istore_n (lv' := [(3, .int 0), (0, .ref (ad 0)), (1, .int x1), (2, .int x2_28)]) hx hb dX7_goOn_33 rfl hl (by decide) rfl (fun ls hl => ?_)
        exact L34 x2_28 nex_28 FU H locs ls 0 res_28 hf hP hD hS (lv_sub hl [1, 2, 3, 0] rfl)
  have L2 : ∀ (don_2 : Nat → Int32) (res_2 : Nat → Int32) (n2 : Nat) (H : Heap) (locs : List Loc) (ls : Array Slot) (x2_2 : Int32) (nex_2 : Nat → Int32), FX7_goOn_L2 x1 pri deg num don_2 res_2 n2 x2_2 nex_2 = some out → va_P D vwCl ((wX7_0_4_5_17_18_19 cy ad thr sta pri tcd frt frp deg num don_2 nex_2 res_2)) H → va_D A ((wX7_0_4_5_17_18_19 cy ad thr sta pri tcd frt frp deg num don_2 nex_2 res_2)) → va_S A s.heap H locs → lv_has ls 5 [(0, .ref (ad 0)), (1, .int x1), (2, .int x2_2)] → W p l e RMX7_goOn s m args below meth c H locs 0 0 QQ (F0 m 2 ls []) := by
    intro don_2 res_2 n2
    induction n2 with
    | zero => intro H locs ls x2_2 nex_2 hf; simp [FX7_goOn_L2] at hf
    | succ n2 ih2 =>
      intro H locs ls x2_2 nex_2 hf hP hD hS hl
      rw [FX7_goOn_L2] at hf
      refine lv_iload_n hx hb dX7_goOn_2 rfl (lv_at hl 2 rfl) ?_
      refine lv_bipush (v := 65) hx hb dX7_goOn_3 (by decide) ?_
      refine lv_icmp_ge (tgt := 21) hx hb dX7_goOn_5 (by decide) (fun c_5 => ?_) (fun c_5 => ?_)
      · replace hf := it_p c_5 hf
        refine lv_aload_n hx hb dX7_goOn_21 rfl (lv_at hl 0 rfl) ?_
        refine va_get (a := (ad 0)) (ci := 7) (v := .ref (ad 4)) (C := RX7) (T := TX7) (N := 28) hx hb hts hin_X7 hown hK hP 0 rfl rfl 6 (by decide) hw_5 (fun _ h => h) rfl dX7_goOn_22 ?_
        refine lv_iload_n hx hb dX7_goOn_25 rfl (lv_at hl 1 rfl) ?_
        replace hf := gi_e hf
        obtain ⟨i_26, hf⟩ := hf
        refine va_iald (a := (ad 4)) hx hb hK hP 1 0 rfl rfl i_26 dX7_goOn_26 ?_
        refine lv_topi (fun v_27 e_27 => ?_)
        replace hf := bd_at e_27 hf
        clear e_27
        refine lv_istore_n (lv' := [(2, .int v_27), (0, .ref (ad 0)), (1, .int x1)]) hx hb dX7_goOn_27 rfl hl (by decide) rfl (fun ls hl => ?_)
        exact L28 don_2 FU H locs ls v_27 nex_2 res_2 hf hP hD hS (lv_sub hl [1, 2, 0] rfl)
      · replace hf := it_n c_5 hf
        refine lv_aload_n hx hb dX7_goOn_8 rfl (lv_at hl 0 rfl) ?_
        refine va_get (a := (ad 0)) (ci := 7) (v := .ref (ad 18)) (C := RX7) (T := TX7) (N := 28) hx hb hts hin_X7 hown hK hP 0 rfl rfl 21 (by decide) hw_1 (fun _ h => h) rfl dX7_goOn_9 ?_
        refine lv_iload_n hx hb dX7_goOn_12 rfl (lv_at hl 2 rfl) ?_
        refine lv_iconst (v := 0) hx hb dX7_goOn_13 (by decide) ?_
        replace hf := gi_e hf
        obtain ⟨i_14, hf⟩ := hf
        refine va_iast (a := (ad 18)) hx hb hK hP hD hS 4 0 rfl rfl i_14 dX7_goOn_14 (fun H locs hP hD hS => ?_)
        have hP : va_P D vwCl ((wX7_0_4_5_17_18_19 cy ad thr sta pri tcd frt frp deg num don_2 (upd nex_2 (Int32.toNatClampNeg x2_2) 0) res_2)) H := hP
        have hD : va_D A ((wX7_0_4_5_17_18_19 cy ad thr sta pri tcd frt frp deg num don_2 (upd nex_2 (Int32.toNatClampNeg x2_2) 0) res_2)) := hD
        obtain ⟨v_15, e_15⟩ : ∃ y : Int32, y = x2_2 + 1 := ⟨_, rfl⟩
        replace hf := bd_at e_15 hf
        refine lv_iinc (v := v_15) (lv' := [(2, .int v_15), (0, .ref (ad 0)), (1, .int x1)]) hx hb dX7_goOn_15 hl (k := 2) rfl (by rw [e_15]; rfl) (by decide) rfl (fun ls hl => ?_)
        clear e_15
        refine lv_goto (tgt := 2) hx hb dX7_goOn_18 (by decide) ?_
        exact ih2 H locs ls v_15 (upd nex_2 (Int32.toNatClampNeg x2_2) 0) hf hP hD hS (lv_sub hl [1, 2, 0] rfl)
  unfold FX7_goOn at hf
  refine lv_iconst (v := 0) hx hb dX7_goOn_0 (by decide) ?_
  refine lv_istore_n (lv' := [(2, .int 0), (0, .ref (ad 0)), (1, .int x1)]) hx hb dX7_goOn_1 rfl hl (by decide) rfl (fun ls hl => ?_)
  exact L2 don res FU H locs ls 0 nex hf hP hD hS (lv_sub hl [1, 2, 0] rfl)
def FX7_degreeOf_J29  (k4 : Int32 → Int32 → Option (Int32)) (x1 : Int32) (x3_29 : Int32) (s0_29 : Int32) (rou : Nat → Int32) : Option (Int32) := (bd (x3_29 + 1) (fun v_30 => k4 s0_29 v_30))
def FX7_degreeOf_L4   (x1 : Int32) (rou : Nat → Int32) : Nat → Int32 → Int32 → Option (Int32)
  | 0, _, _ => none
  | fuel + 1, x2_4, x3_4 => (if 65 ≤ x3_4 then (some (x2_4)) else (gi ((65 * x1) + x3_4) 455 (if (rou (Int32.toNatClampNeg ((65 * x1) + x3_4))) = 0 then (FX7_degreeOf_J29 (FX7_degreeOf_L4 x1 rou fuel) x1 x3_4 x2_4 rou) else (FX7_degreeOf_J29 (FX7_degreeOf_L4 x1 rou fuel) x1 x3_4 x3_4 rou))))
def FX7_degreeOf  (rou : Nat → Int32) (x1 : Int32) : Option (Int32) := (FX7_degreeOf_L4 x1 rou FU 0 0)
abbrev RMX7_degreeOf : Room := { frames := 0, cells := 0, slots := 0, locals := 0 }
set_option maxHeartbeats 4000000 in
set_option maxRecDepth 100000 in
theorem KX7_degreeOf (l : Launch) (D : va_G) (cy : Nat → ClassId) (ad : Nat → Nat) (thr : Int32) (sta : Int32) (pri : Int32) (tcd : Int32) (frt : Int32) (frp : Int32) (rou : Nat → Int32) (x1 : Int32) (sz : Nat) {out : Int32} (hf : FX7_degreeOf rou x1 = some out) : Met l yX7_degreeOf wsX7_degreeOf RMX7_degreeOf (PW D cy [.ref (ad 0), .int x1] sz [] ((wX7_0_21 cy ad thr sta pri tcd frt frp rou))) (QR (some (.int out))) 0 0 no_A := by
  refine Met.ofW (cc := cX7_degreeOf) (maxL := 4) (ret := (some .int)) (by decide +kernel) rfl ?_
  intro p e s m args below meth c s₁ B hml hv
  obtain ⟨hav, hsz, hP, hR0, hK, hN, hD0, hsep⟩ := hv
  have hx := B.exec
  have hb := B.bytes
  have hr := B.returns
  have hts := atoms_spec (ws := wsX7_degreeOf) B.pre
  have hown : s.vm.findClass RX7 = some m.cls := findClass_of_methodNamed B.named
  have hlocks := B.notSynchronized
  subst hsz
  have hin_X7 : ∀ w ∈ u_ws RX7 TX7 28, w ∈ wsX7_degreeOf := by decide +kernel
  have hw_0 := hts (.fieldLink RX7 80 "ReturnPointsModel" "rounds" "[I") (by decide +kernel)
  obtain ⟨ls, hfr, hl⟩ := ent_ok (m := m) (n := 4) (l' := [(0, .ref (ad 0)), (1, .int x1)]) [.ref (ad 0), .int x1] hav (Nat.le_of_ble_eq_true rfl) rfl
  rw [hfr]
  generalize hQe : MQ below (QR (some (.int out))) args s 0 0 no_A = QQ
  change W p l e RMX7_degreeOf s m args below meth c s.heap [] 0 0 QQ (F0 m 0 ls [])
  have L4 : ∀  (n4 : Nat) (ls : Array Slot) (x2_4 : Int32) (x3_4 : Int32), FX7_degreeOf_L4 x1 rou n4 x2_4 x3_4 = some out → lv_has ls 4 [(0, .ref (ad 0)), (1, .int x1), (2, .int x2_4), (3, .int x3_4)] → W p l e RMX7_degreeOf s m args below meth c s.heap [] 0 0 QQ (F0 m 4 ls []) := by
    intro  n4
    induction n4 with
    | zero => intro ls x2_4 x3_4 hf; simp [FX7_degreeOf_L4] at hf
    | succ n4 ih4 =>
      intro ls x2_4 x3_4 hf hl
      rw [FX7_degreeOf_L4] at hf
      have J29 : ∀ (ls : Array Slot) (x3_29 : Int32) (s0_29 : Int32), FX7_degreeOf_J29 (FX7_degreeOf_L4 x1 rou n4) x1 x3_29 s0_29 rou = some out → lv_has ls 4 [(0, .ref (ad 0)), (1, .int x1), (3, .int x3_29)] → W p l e RMX7_degreeOf s m args below meth c s.heap [] 0 0 QQ (F0 m 29 ls [.int s0_29]) := by
        intro ls x3_29 s0_29 hf hl
        unfold FX7_degreeOf_J29 at hf
        refine lv_istore_n (lv' := [(2, .int s0_29), (0, .ref (ad 0)), (1, .int x1), (3, .int x3_29)]) hx hb dX7_degreeOf_29 rfl hl (by decide) rfl (fun ls hl => ?_)
        obtain ⟨v_30, e_30⟩ : ∃ y : Int32, y = x3_29 + 1 := ⟨_, rfl⟩
        replace hf := bd_at e_30 hf
        refine lv_iinc (v := v_30) (lv' := [(3, .int v_30), (2, .int s0_29), (0, .ref (ad 0)), (1, .int x1)]) hx hb dX7_degreeOf_30 hl (k := 3) rfl (by rw [e_30]; rfl) (by decide) rfl (fun ls hl => ?_)
        clear e_30
        refine lv_goto (tgt := 4) hx hb dX7_degreeOf_33 (by decide) ?_
        exact ih4 ls s0_29 v_30 hf (lv_sub hl [2, 3, 1, 0] rfl)
      refine lv_iload_n hx hb dX7_degreeOf_4 rfl (lv_at hl 3 rfl) ?_
      refine lv_bipush (v := 65) hx hb dX7_degreeOf_5 (by decide) ?_
      refine lv_icmp_ge (tgt := 36) hx hb dX7_degreeOf_7 (by decide) (fun c_7 => ?_) (fun c_7 => ?_)
      · replace hf := it_p c_7 hf
        refine lv_iload_n hx hb dX7_degreeOf_36 rfl (lv_at hl 2 rfl) ?_
        obtain rfl := Option.some.inj hf
        rw [← hQe]
        exact W.iret (v := x2_4) hx hb hr (fun t ht hW => ⟨rfl, ht⟩) (fun q h => by cases h) dX7_degreeOf_37
      · replace hf := it_n c_7 hf
        refine lv_aload_n hx hb dX7_degreeOf_10 rfl (lv_at hl 0 rfl) ?_
        refine va_get (a := (ad 0)) (ci := 7) (v := .ref (ad 21)) (C := RX7) (T := TX7) (N := 28) hx hb hts hin_X7 hown hK hR0 0 rfl rfl 24 (by decide) hw_0 (fun _ h => h) rfl dX7_degreeOf_11 ?_
        refine lv_bipush (v := 65) hx hb dX7_degreeOf_14 (by decide) ?_
        refine lv_iload_n hx hb dX7_degreeOf_16 rfl (lv_at hl 1 rfl) ?_
        refine lv_imul hx hb dX7_degreeOf_17 ?_
        refine lv_iload_n hx hb dX7_degreeOf_18 rfl (lv_at hl 3 rfl) ?_
        refine lv_iadd hx hb dX7_degreeOf_19 ?_
        replace hf := gi_e hf
        obtain ⟨i_20, hf⟩ := hf
        refine va_iald (a := (ad 21)) hx hb hK hR0 1 0 rfl rfl i_20 dX7_degreeOf_20 ?_
        refine lv_if_eq (tgt := 28) hx hb dX7_degreeOf_21 (by decide) (fun c_21 => ?_) (fun c_21 => ?_)
        · replace hf := it_p c_21 hf
          refine lv_iload_n hx hb dX7_degreeOf_28 rfl (lv_at hl 2 rfl) ?_
          exact J29 ls x3_4 x2_4 hf (lv_sub hl [0, 1, 3] rfl)
        · replace hf := it_n c_21 hf
          refine lv_iload_n hx hb dX7_degreeOf_24 rfl (lv_at hl 3 rfl) ?_
          refine lv_goto (tgt := 29) hx hb dX7_degreeOf_25 (by decide) ?_
          exact J29 ls x3_4 x3_4 hf (lv_sub hl [0, 1, 3] rfl)
  unfold FX7_degreeOf at hf
  refine lv_iconst (v := 0) hx hb dX7_degreeOf_0 (by decide) ?_
  refine lv_istore_n (lv' := [(2, .int 0), (0, .ref (ad 0)), (1, .int x1)]) hx hb dX7_degreeOf_1 rfl hl (by decide) rfl (fun ls hl => ?_)
  refine lv_iconst (v := 0) hx hb dX7_degreeOf_2 (by decide) ?_
  refine lv_istore_n (lv' := [(3, .int 0), (2, .int 0), (0, .ref (ad 0)), (1, .int x1)]) hx hb dX7_degreeOf_3 rfl hl (by decide) rfl (fun ls hl => ?_)
  exact L4 FU ls 0 0 hf (lv_sub hl [2, 3, 1, 0] rfl)
def FX7_divide_L154   (quo_154 : Nat → Int32) : Nat → Int32 → (Nat → Int32) → Option ((Nat → Int32) × (Nat → Int32))
  | 0, _, _ => none
  | fuel + 1, x4_154, res_154 => (if 65 ≤ x4_154 then (some (res_154, quo_154)) else (gi x4_154 65 (gi x4_154 65 (bd (x4_154 + 1) (fun v_175 => (FX7_divide_L154 quo_154 fuel) v_175 (upd res_154 (Int32.toNatClampNeg x4_154) (quo_154 (Int32.toNatClampNeg x4_154))))))))
def FX7_divide_L87  (k52 : Int32 → (Nat → Int32) → (Nat → Int32) → Option ((Nat → Int32) × (Nat → Int32))) (x1 : Int32) (x2_52 : Int32) (x3_52 : Int32) (x4_87 : Int32) (x5_87 : Int32) (pri : Int32) (quo_87 : Nat → Int32) (rou : Nat → Int32) : Nat → Int32 → (Nat → Int32) → Option ((Nat → Int32) × (Nat → Int32))
  | 0, _, _ => none
  | fuel + 1, x6_87, res_87 => (if x2_52 < x6_87 then (bd (x4_87 + (-1)) (fun v_145 => k52 v_145 res_87 quo_87)) else (gi (x4_87 + x6_87) 65 (gi ((65 * x1) + x6_87) 455 (gd (¬ pri = 0) (gi (x4_87 + x6_87) 65 (bd (x6_87 + 1) (fun v_139 => (FX7_divide_L87 k52 x1 x2_52 x3_52 x4_87 x5_87 pri quo_87 rou fuel) v_139 (upd res_87 (Int32.toNatClampNeg (x4_87 + x6_87)) (irm ((res_87 (Int32.toNatClampNeg (x4_87 + x6_87))) + ((pri - x5_87) * (rou (Int32.toNatClampNeg ((65 * x1) + x6_87))))) pri)))))))))
def FX7_divide_L52   (x1 : Int32) (x2_52 : Int32) (x3_52 : Int32) (pri : Int32) (rou : Nat → Int32) : Nat → Int32 → (Nat → Int32) → (Nat → Int32) → Option ((Nat → Int32) × (Nat → Int32))
  | 0, _, _, _ => none
  | fuel + 1, x4_52, res_52, quo_52 => (if x4_52 < 0 then (FX7_divide_L154 quo_52 FU 0 res_52) else (gi (x4_52 + x2_52) 65 (gd (¬ pri = 0) (bd (irm ((res_52 (Int32.toNatClampNeg (x4_52 + x2_52))) * x3_52) pri) (fun v_73 => gi x4_52 65 (FX7_divide_L87 (FX7_divide_L52 x1 x2_52 x3_52 pri rou fuel) x1 x2_52 x3_52 x4_52 v_73 pri (upd quo_52 (Int32.toNatClampNeg x4_52) v_73) rou FU 0 res_52))))))
def FX7_divide_L25   (x1 : Int32) (x2_25 : Int32) (x3_25 : Int32) (pri : Int32) (res_25 : Nat → Int32) (rou : Nat → Int32) : Nat → Int32 → (Nat → Int32) → Option ((Nat → Int32) × (Nat → Int32))
  | 0, _, _ => none
  | fuel + 1, x4_25, quo_25 => (if 65 ≤ x4_25 then (bd (64 - x2_25) (fun v_50 => FX7_divide_L52 x1 x2_25 x3_25 pri rou FU v_50 res_25 quo_25)) else (gi x4_25 65 (bd (x4_25 + 1) (fun v_40 => (FX7_divide_L25 x1 x2_25 x3_25 pri res_25 rou fuel) v_40 (upd quo_25 (Int32.toNatClampNeg x4_25) 0)))))
def FX7_divide  (pri : Int32) (res : Nat → Int32) (quo : Nat → Int32) (rou : Nat → Int32) (x1 : Int32) : Option ((Nat → Int32) × (Nat → Int32)) := (ob (FX7_degreeOf rou x1) (fun u_2 => gi ((65 * x1) + u_2) 455 (ob (FX7_inverse pri (rou (Int32.toNatClampNeg ((65 * x1) + u_2)))) (fun u_18 => FX7_divide_L25 x1 u_2 u_18 pri res rou FU 0 quo))))
abbrev RMX7_divide : Room := { frames := 1, cells := 0, slots := 0, locals := 23 }
set_option maxHeartbeats 4000000 in
set_option maxRecDepth 100000 in
theorem KX7_divide (l : Launch) (D : va_G) (cy : Nat → ClassId) (ad : Nat → Nat) (thr : Int32) (sta : Int32) (pri : Int32) (tcd : Int32) (frt : Int32) (frp : Int32) (res : Nat → Int32) (quo : Nat → Int32) (rou : Nat → Int32) (x1 : Int32) (sz : Nat) {out : (Nat → Int32) × (Nat → Int32)} (hf : FX7_divide pri res quo rou x1 = some out) : Met l yX7_divide wsX7_divide RMX7_divide (PW D cy [.ref (ad 0), .int x1] sz ((wX7_0_19_20_21 cy ad thr sta pri tcd frt frp res quo rou)) []) (QW D none ((wX7_0_19_20_21 cy ad thr sta pri tcd frt frp out.1 out.2 rou)) (va_A ((wX7_0_19_20_21 cy ad thr sta pri tcd frt frp res quo rou)) sz)) 0 0 (va_A ((wX7_0_19_20_21 cy ad thr sta pri tcd frt frp res quo rou)) sz) := by
  refine Met.ofW (cc := cX7_divide) (maxL := 7) (ret := none) (by decide +kernel) rfl ?_
  intro p e s m args below meth c s₁ B hml hv
  obtain ⟨hav, hsz, hP, hR0, hK, hN, hD0, hsep⟩ := hv
  have hx := B.exec
  have hb := B.bytes
  have hr := B.returns
  have hts := atoms_spec (ws := wsX7_divide) B.pre
  have hown : s.vm.findClass RX7 = some m.cls := findClass_of_methodNamed B.named
  have hlocks := B.notSynchronized
  subst hsz
  have hin_X7 : ∀ w ∈ u_ws RX7 TX7 28, w ∈ wsX7_divide := by decide +kernel
  have hw_0 := hts (.fieldLink RX7 74 "ReturnPointsModel" "rest" "[I") (by decide +kernel)
  have hw_1 := hts (.fieldLink RX7 77 "ReturnPointsModel" "quotient" "[I") (by decide +kernel)
  have hw_2 := hts (.fieldLink RX7 98 "ReturnPointsModel" "prime" "I") (by decide +kernel)
  have hw_3 := hts (.fieldLink RX7 80 "ReturnPointsModel" "rounds" "[I") (by decide +kernel)
  have hD := hD0.self (sz := s.heap.size)
  have hnA := roA hsep hR0
  generalize hAe : va_A ((wX7_0_19_20_21 cy ad thr sta pri tcd frt frp res quo rou)) s.heap.size = A at hD hnA ⊢
  have hA : ∀ q : Nat, s.heap.size ≤ q → A q := fun q h => by rw [← hAe]; exact Or.inr h
  have hS : va_S A s.heap s.heap [] := va_S.rf
  obtain ⟨ls, hfr, hl⟩ := ent_ok (m := m) (n := 7) (l' := [(0, .ref (ad 0)), (1, .int x1)]) [.ref (ad 0), .int x1] hav (Nat.le_of_ble_eq_true rfl) rfl
  rw [hfr]
  generalize hQe : MQ below (QW D none ((wX7_0_19_20_21 cy ad thr sta pri tcd frt frp out.1 out.2 rou)) A) args s 0 0 A = QQ
  change W p l e RMX7_divide s m args below meth c s.heap [] 0 0 QQ (F0 m 0 ls [])
  have hP : va_P D vwCl ((wX7_0_19_20_21 cy ad thr sta pri tcd frt frp res quo rou)) s.heap := hP
  have hD : va_D A ((wX7_0_19_20_21 cy ad thr sta pri tcd frt frp res quo rou)) := hD
  suffices h00 : ∀ (H : Heap) (locs : List Loc), va_P D vwCl ((wX7_0_19_20_21 cy ad thr sta pri tcd frt frp res quo rou)) H → va_S A s.heap H locs → W p l e RMX7_divide s m args below meth c H locs 0 0 QQ (F0 m 0 ls []) from h00 _ _ hP hS
  clear hP hS
  intro H locs hP hS
  have L154 : ∀ (quo_154 : Nat → Int32) (n154 : Nat) (H : Heap) (locs : List Loc) (ls : Array Slot) (x4_154 : Int32) (res_154 : Nat → Int32), FX7_divide_L154 quo_154 n154 x4_154 res_154 = some out → va_P D vwCl ((wX7_0_19_20_21 cy ad thr sta pri tcd frt frp res_154 quo_154 rou)) H → va_D A ((wX7_0_19_20_21 cy ad thr sta pri tcd frt frp res_154 quo_154 rou)) → va_S A s.heap H locs → lv_has ls 7 [(0, .ref (ad 0)), (4, .int x4_154)] → W p l e RMX7_divide s m args below meth c H locs 0 0 QQ (F0 m 154 ls []) := by
    intro quo_154 n154
    induction n154 with
    | zero => intro H locs ls x4_154 res_154 hf; simp [FX7_divide_L154] at hf
    | succ n154 ih154 =>
      intro H locs ls x4_154 res_154 hf hP hD hS hl
      rw [FX7_divide_L154] at hf
      refine lv_iload hx hb dX7_divide_154 (lv_at hl 1 rfl) ?_
      refine lv_bipush (v := 65) hx hb dX7_divide_156 (by decide) ?_
      refine lv_icmp_ge (tgt := 181) hx hb dX7_divide_158 (by decide) (fun c_158 => ?_) (fun c_158 => ?_)
      · replace hf := it_p c_158 hf
        obtain rfl := Option.some.inj hf
        rw [← hQe]
        exact W.vret hx hb hr (fun t ht hW => ⟨rfl, by rw [ht]; exact hP, hS.F ht⟩) hS.2.2 dX7_divide_181
      · replace hf := it_n c_158 hf
        refine lv_aload_n hx hb dX7_divide_161 rfl (lv_at hl 0 rfl) ?_
        refine va_get (a := (ad 0)) (ci := 7) (v := .ref (ad 19)) (C := RX7) (T := TX7) (N := 28) hx hb hts hin_X7 hown hK hP 0 rfl rfl 22 (by decide) hw_0 (fun _ h => h) rfl dX7_divide_162 ?_
        refine lv_iload hx hb dX7_divide_165 (lv_at hl 1 rfl) ?_
        refine lv_aload_n hx hb dX7_divide_167 rfl (lv_at hl 0 rfl) ?_
        refine va_get (a := (ad 0)) (ci := 7) (v := .ref (ad 20)) (C := RX7) (T := TX7) (N := 28) hx hb hts hin_X7 hown hK hP 0 rfl rfl 23 (by decide) hw_1 (fun _ h => h) rfl dX7_divide_168 ?_
        refine lv_iload hx hb dX7_divide_171 (lv_at hl 1 rfl) ?_
        replace hf := gi_e hf
        obtain ⟨i_173, hf⟩ := hf
        refine va_iald (a := (ad 20)) hx hb hK hP 2 0 rfl rfl i_173 dX7_divide_173 ?_
        replace hf := gi_e hf
        obtain ⟨i_174, hf⟩ := hf
        refine va_iast (a := (ad 19)) hx hb hK hP hD hS 1 0 rfl rfl i_174 dX7_divide_174 (fun H locs hP hD hS => ?_)
        have hP : va_P D vwCl ((wX7_0_19_20_21 cy ad thr sta pri tcd frt frp (upd res_154 (Int32.toNatClampNeg x4_154) (quo_154 (Int32.toNatClampNeg x4_154))) quo_154 rou)) H := hP
        have hD : va_D A ((wX7_0_19_20_21 cy ad thr sta pri tcd frt frp (upd res_154 (Int32.toNatClampNeg x4_154) (quo_154 (Int32.toNatClampNeg x4_154))) quo_154 rou)) := hD
        obtain ⟨v_175, e_175⟩ : ∃ y : Int32, y = x4_154 + 1 := ⟨_, rfl⟩
        replace hf := bd_at e_175 hf
        refine lv_iinc (v := v_175) (lv' := [(4, .int v_175), (0, .ref (ad 0))]) hx hb dX7_divide_175 hl (k := 1) rfl (by rw [e_175]; rfl) (by decide) rfl (fun ls hl => ?_)
        clear e_175
        refine lv_goto (tgt := 154) hx hb dX7_divide_178 (by decide) ?_
        exact ih154 H locs ls v_175 (upd res_154 (Int32.toNatClampNeg x4_154) (quo_154 (Int32.toNatClampNeg x4_154))) hf hP hD hS (lv_sub hl [1, 0] rfl)
  have L52 : ∀ (x2_52 : Int32) (x3_52 : Int32) (n52 : Nat) (H : Heap) (locs : List Loc) (ls : Array Slot) (x4_52 : Int32) (res_52 : Nat → Int32) (quo_52 : Nat → Int32), FX7_divide_L52 x1 x2_52 x3_52 pri rou n52 x4_52 res_52 quo_52 = some out → va_P D vwCl ((wX7_0_19_20_21 cy ad thr sta pri tcd frt frp res_52 quo_52 rou)) H → va_D A ((wX7_0_19_20_21 cy ad thr sta pri tcd frt frp res_52 quo_52 rou)) → va_S A s.heap H locs → lv_has ls 7 [(0, .ref (ad 0)), (1, .int x1), (2, .int x2_52), (3, .int x3_52), (4, .int x4_52)] → W p l e RMX7_divide s m args below meth c H locs 0 0 QQ (F0 m 52 ls []) := by
    intro x2_52 x3_52 n52
    induction n52 with
    | zero => intro H locs ls x4_52 res_52 quo_52 hf; simp [FX7_divide_L52] at hf
    | succ n52 ih52 =>
      intro H locs ls x4_52 res_52 quo_52 hf hP hD hS hl
      rw [FX7_divide_L52] at hf
      have L87 : ∀ (x4_87 : Int32) (x5_87 : Int32) (quo_87 : Nat → Int32) (n87 : Nat) (H : Heap) (locs : List Loc) (ls : Array Slot) (x6_87 : Int32) (res_87 : Nat → Int32), FX7_divide_L87 (FX7_divide_L52 x1 x2_52 x3_52 pri rou n52) x1 x2_52 x3_52 x4_87 x5_87 pri quo_87 rou n87 x6_87 res_87 = some out → va_P D vwCl ((wX7_0_19_20_21 cy ad thr sta pri tcd frt frp res_87 quo_87 rou)) H → va_D A ((wX7_0_19_20_21 cy ad thr sta pri tcd frt frp res_87 quo_87 rou)) → va_S A s.heap H locs → lv_has ls 7 [(0, .ref (ad 0)), (1, .int x1), (2, .int x2_52), (3, .int x3_52), (4, .int x4_87), (5, .int x5_87), (6, .int x6_87)] → W p l e RMX7_divide s m args below meth c H locs 0 0 QQ (F0 m 87 ls []) := by
        intro x4_87 x5_87 quo_87 n87
        induction n87 with
        | zero => intro H locs ls x6_87 res_87 hf; simp [FX7_divide_L87] at hf
        | succ n87 ih87 =>
          intro H locs ls x6_87 res_87 hf hP hD hS hl
          rw [FX7_divide_L87] at hf
          refine lv_iload hx hb dX7_divide_87 (lv_at hl 6 rfl) ?_
          refine lv_iload_n hx hb dX7_divide_89 rfl (lv_at hl 2 rfl) ?_
          refine lv_icmp_gt (tgt := 145) hx hb dX7_divide_90 (by decide) (fun c_90 => ?_) (fun c_90 => ?_)
          · replace hf := it_p c_90 hf
            obtain ⟨v_145, e_145⟩ : ∃ y : Int32, y = x4_87 + (-1) := ⟨_, rfl⟩
            replace hf := bd_at e_145 hf
            refine lv_iinc (v := v_145) (lv' := [(4, .int v_145), (0, .ref (ad 0)), (1, .int x1), (2, .int x2_52), (3, .int x3_52), (5, .int x5_87), (6, .int x6_87)]) hx hb dX7_divide_145 hl (k := 4) rfl (by rw [e_145]; rfl) (by decide) rfl (fun ls hl => ?_)
            clear e_145
            refine lv_goto (tgt := 52) hx hb dX7_divide_148 (by decide) ?_
            exact ih52 H locs ls v_145 res_87 quo_87 hf hP hD hS (lv_sub hl [1, 2, 3, 4, 0] rfl)
          · replace hf := it_n c_90 hf
            refine lv_aload_n hx hb dX7_divide_93 rfl (lv_at hl 0 rfl) ?_
            refine va_get (a := (ad 0)) (ci := 7) (v := .ref (ad 19)) (C := RX7) (T := TX7) (N := 28) hx hb hts hin_X7 hown hK hP 0 rfl rfl 22 (by decide) hw_0 (fun _ h => h) rfl dX7_divide_94 ?_
            refine lv_iload hx hb dX7_divide_97 (lv_at hl 4 rfl) ?_
            refine lv_iload hx hb dX7_divide_99 (lv_at hl 6 rfl) ?_
            refine lv_iadd hx hb dX7_divide_101 ?_
            refine lv_aload_n hx hb dX7_divide_102 rfl (lv_at hl 0 rfl) ?_
            refine va_get (a := (ad 0)) (ci := 7) (v := .ref (ad 19)) (C := RX7) (T := TX7) (N := 28) hx hb hts hin_X7 hown hK hP 0 rfl rfl 22 (by decide) hw_0 (fun _ h => h) rfl dX7_divide_103 ?_
            refine lv_iload hx hb dX7_divide_106 (lv_at hl 4 rfl) ?_
            refine lv_iload hx hb dX7_divide_108 (lv_at hl 6 rfl) ?_
            refine lv_iadd hx hb dX7_divide_110 ?_
            replace hf := gi_e hf
            obtain ⟨i_111, hf⟩ := hf
            refine va_iald (a := (ad 19)) hx hb hK hP 1 0 rfl rfl i_111 dX7_divide_111 ?_
            refine lv_aload_n hx hb dX7_divide_112 rfl (lv_at hl 0 rfl) ?_
            refine va_get (a := (ad 0)) (ci := 7) (v := .int pri) (C := RX7) (T := TX7) (N := 28) hx hb hts hin_X7 hown hK hP 0 rfl rfl 2 (by decide) hw_2 (fun _ h => h) rfl dX7_divide_113 ?_
            refine lv_iload hx hb dX7_divide_116 (lv_at hl 5 rfl) ?_
            refine lv_isub hx hb dX7_divide_118 ?_
            refine lv_aload_n hx hb dX7_divide_119 rfl (lv_at hl 0 rfl) ?_
            refine va_get (a := (ad 0)) (ci := 7) (v := .ref (ad 21)) (C := RX7) (T := TX7) (N := 28) hx hb hts hin_X7 hown hK hP 0 rfl rfl 24 (by decide) hw_3 (fun _ h => h) rfl dX7_divide_120 ?_
            refine lv_bipush (v := 65) hx hb dX7_divide_123 (by decide) ?_
            refine lv_iload_n hx hb dX7_divide_125 rfl (lv_at hl 1 rfl) ?_
            refine lv_imul hx hb dX7_divide_126 ?_
            refine lv_iload hx hb dX7_divide_127 (lv_at hl 6 rfl) ?_
            refine lv_iadd hx hb dX7_divide_129 ?_
            replace hf := gi_e hf
            obtain ⟨i_130, hf⟩ := hf
            refine va_iald (a := (ad 21)) hx hb hK hP 3 0 rfl rfl i_130 dX7_divide_130 ?_
            refine lv_imul hx hb dX7_divide_131 ?_
            refine lv_iadd hx hb dX7_divide_132 ?_
            refine lv_aload_n hx hb dX7_divide_133 rfl (lv_at hl 0 rfl) ?_
            refine va_get (a := (ad 0)) (ci := 7) (v := .int pri) (C := RX7) (T := TX7) (N := 28) hx hb hts hin_X7 hown hK hP 0 rfl rfl 2 (by decide) hw_2 (fun _ h => h) rfl dX7_divide_134 ?_
            replace hf := gd_e hf
            obtain ⟨z_137, hf⟩ := hf
            refine rw_irem hx hb dX7_divide_137 z_137 ?_
            replace hf := gi_e hf
            obtain ⟨i_138, hf⟩ := hf
            refine va_iast (a := (ad 19)) hx hb hK hP hD hS 1 0 rfl rfl i_138 dX7_divide_138 (fun H locs hP hD hS => ?_)
            have hP : va_P D vwCl ((wX7_0_19_20_21 cy ad thr sta pri tcd frt frp (upd res_87 (Int32.toNatClampNeg (x4_87 + x6_87)) (irm ((res_87 (Int32.toNatClampNeg (x4_87 + x6_87))) + ((pri - x5_87) * (rou (Int32.toNatClampNeg ((65 * x1) + x6_87))))) pri)) quo_87 rou)) H := hP
            have hD : va_D A ((wX7_0_19_20_21 cy ad thr sta pri tcd frt frp (upd res_87 (Int32.toNatClampNeg (x4_87 + x6_87)) (irm ((res_87 (Int32.toNatClampNeg (x4_87 + x6_87))) + ((pri - x5_87) * (rou (Int32.toNatClampNeg ((65 * x1) + x6_87))))) pri)) quo_87 rou)) := hD
            obtain ⟨v_139, e_139⟩ : ∃ y : Int32, y = x6_87 + 1 := ⟨_, rfl⟩
            replace hf := bd_at e_139 hf
            refine lv_iinc (v := v_139) (lv' := [(6, .int v_139), (0, .ref (ad 0)), (1, .int x1), (2, .int x2_52), (3, .int x3_52), (4, .int x4_87), (5, .int x5_87)]) hx hb dX7_divide_139 hl (k := 6) rfl (by rw [e_139]; rfl) (by decide) rfl (fun ls hl => ?_)
            clear e_139
            refine lv_goto (tgt := 87) hx hb dX7_divide_142 (by decide) ?_
            exact ih87 H locs ls v_139 (upd res_87 (Int32.toNatClampNeg (x4_87 + x6_87)) (irm ((res_87 (Int32.toNatClampNeg (x4_87 + x6_87))) + ((pri - x5_87) * (rou (Int32.toNatClampNeg ((65 * x1) + x6_87))))) pri)) hf hP hD hS (lv_sub hl [1, 2, 3, 4, 5, 6, 0] rfl)
      refine lv_iload hx hb dX7_divide_52 (lv_at hl 4 rfl) ?_
      refine lv_if_lt (tgt := 151) hx hb dX7_divide_54 (by decide) (fun c_54 => ?_) (fun c_54 => ?_)
      · replace hf := it_p c_54 hf
        refine lv_iconst (v := 0) hx hb dX7_divide_151 (by decide) ?_
        refine lv_istore (lv' := [(4, .int 0), (0, .ref (ad 0)), (1, .int x1), (2, .int x2_52), (3, .int x3_52)]) hx hb dX7_divide_152 hl (by decide) rfl (fun ls hl => ?_)
        exact L154 quo_52 FU H locs ls 0 res_52 hf hP hD hS (lv_sub hl [1, 0] rfl)
      · replace hf := it_n c_54 hf
        refine lv_aload_n hx hb dX7_divide_57 rfl (lv_at hl 0 rfl) ?_
        refine va_get (a := (ad 0)) (ci := 7) (v := .ref (ad 19)) (C := RX7) (T := TX7) (N := 28) hx hb hts hin_X7 hown hK hP 0 rfl rfl 22 (by decide) hw_0 (fun _ h => h) rfl dX7_divide_58 ?_
        refine lv_iload hx hb dX7_divide_61 (lv_at hl 4 rfl) ?_
        refine lv_iload_n hx hb dX7_divide_63 rfl (lv_at hl 2 rfl) ?_
        refine lv_iadd hx hb dX7_divide_64 ?_
        replace hf := gi_e hf
        obtain ⟨i_65, hf⟩ := hf
        refine va_iald (a := (ad 19)) hx hb hK hP 1 0 rfl rfl i_65 dX7_divide_65 ?_
        refine lv_iload_n hx hb dX7_divide_66 rfl (lv_at hl 3 rfl) ?_
        refine lv_imul hx hb dX7_divide_67 ?_
        refine lv_aload_n hx hb dX7_divide_68 rfl (lv_at hl 0 rfl) ?_
        refine va_get (a := (ad 0)) (ci := 7) (v := .int pri) (C := RX7) (T := TX7) (N := 28) hx hb hts hin_X7 hown hK hP 0 rfl rfl 2 (by decide) hw_2 (fun _ h => h) rfl dX7_divide_69 ?_
        replace hf := gd_e hf
        obtain ⟨z_72, hf⟩ := hf
        refine rw_irem hx hb dX7_divide_72 z_72 ?_
        refine lv_topi (fun v_73 e_73 => ?_)
        replace hf := bd_at e_73 hf
        clear e_73
        refine lv_istore (lv' := [(5, .int v_73), (0, .ref (ad 0)), (1, .int x1), (2, .int x2_52), (3, .int x3_52), (4, .int x4_52)]) hx hb dX7_divide_73 hl (by decide) rfl (fun ls hl => ?_)
        refine lv_aload_n hx hb dX7_divide_75 rfl (lv_at hl 1 rfl) ?_
        refine va_get (a := (ad 0)) (ci := 7) (v := .ref (ad 20)) (C := RX7) (T := TX7) (N := 28) hx hb hts hin_X7 hown hK hP 0 rfl rfl 23 (by decide) hw_1 (fun _ h => h) rfl dX7_divide_76 ?_
        refine lv_iload hx hb dX7_divide_79 (lv_at hl 5 rfl) ?_
        refine lv_iload hx hb dX7_divide_81 (lv_at hl 0 rfl) ?_
        replace hf := gi_e hf
        obtain ⟨i_83, hf⟩ := hf
        refine va_iast (a := (ad 20)) hx hb hK hP hD hS 2 0 rfl rfl i_83 dX7_divide_83 (fun H locs hP hD hS => ?_)
        have hP : va_P D vwCl ((wX7_0_19_20_21 cy ad thr sta pri tcd frt frp res_52 (upd quo_52 (Int32.toNatClampNeg x4_52) v_73) rou)) H := hP
        have hD : va_D A ((wX7_0_19_20_21 cy ad thr sta pri tcd frt frp res_52 (upd quo_52 (Int32.toNatClampNeg x4_52) v_73) rou)) := hD
        refine lv_iconst (v := 0) hx hb dX7_divide_84 (by decide) ?_
        refine lv_istore (lv' := [(6, .int 0), (5, .int v_73), (0, .ref (ad 0)), (1, .int x1), (2, .int x2_52), (3, .int x3_52), (4, .int x4_52)]) hx hb dX7_divide_85 hl (by decide) rfl (fun ls hl => ?_)
        exact L87 x4_52 v_73 (upd quo_52 (Int32.toNatClampNeg x4_52) v_73) FU H locs ls 0 res_52 hf hP hD hS (lv_sub hl [2, 3, 4, 5, 6, 1, 0] rfl)
  have L25 : ∀ (x2_25 : Int32) (x3_25 : Int32) (res_25 : Nat → Int32) (n25 : Nat) (H : Heap) (locs : List Loc) (ls : Array Slot) (x4_25 : Int32) (quo_25 : Nat → Int32), FX7_divide_L25 x1 x2_25 x3_25 pri res_25 rou n25 x4_25 quo_25 = some out → va_P D vwCl ((wX7_0_19_20_21 cy ad thr sta pri tcd frt frp res_25 quo_25 rou)) H → va_D A ((wX7_0_19_20_21 cy ad thr sta pri tcd frt frp res_25 quo_25 rou)) → va_S A s.heap H locs → lv_has ls 7 [(0, .ref (ad 0)), (1, .int x1), (2, .int x2_25), (3, .int x3_25), (4, .int x4_25)] → W p l e RMX7_divide s m args below meth c H locs 0 0 QQ (F0 m 25 ls []) := by
    intro x2_25 x3_25 res_25 n25
    induction n25 with
    | zero => intro H locs ls x4_25 quo_25 hf; simp [FX7_divide_L25] at hf
    | succ n25 ih25 =>
      intro H locs ls x4_25 quo_25 hf hP hD hS hl
      rw [FX7_divide_L25] at hf
      refine lv_iload hx hb dX7_divide_25 (lv_at hl 4 rfl) ?_
      refine lv_bipush (v := 65) hx hb dX7_divide_27 (by decide) ?_
      refine lv_icmp_ge (tgt := 46) hx hb dX7_divide_29 (by decide) (fun c_29 => ?_) (fun c_29 => ?_)
      · replace hf := it_p c_29 hf
        refine lv_bipush (v := 64) hx hb dX7_divide_46 (by decide) ?_
        refine lv_iload_n hx hb dX7_divide_48 rfl (lv_at hl 2 rfl) ?_
        refine lv_isub hx hb dX7_divide_49 ?_
        refine lv_topi (fun v_50 e_50 => ?_)
        replace hf := bd_at e_50 hf
        clear e_50
        refine lv_istore (lv' := [(4, .int v_50), (0, .ref (ad 0)), (1, .int x1), (2, .int x2_25), (3, .int x3_25)]) hx hb dX7_divide_50 hl (by decide) rfl (fun ls hl => ?_)
        exact L52 x2_25 x3_25 FU H locs ls v_50 res_25 quo_25 hf hP hD hS (lv_sub hl [1, 2, 3, 4, 0] rfl)
      · replace hf := it_n c_29 hf
        refine lv_aload_n hx hb dX7_divide_32 rfl (lv_at hl 0 rfl) ?_
        refine va_get (a := (ad 0)) (ci := 7) (v := .ref (ad 20)) (C := RX7) (T := TX7) (N := 28) hx hb hts hin_X7 hown hK hP 0 rfl rfl 23 (by decide) hw_1 (fun _ h => h) rfl dX7_divide_33 ?_
        refine lv_iload hx hb dX7_divide_36 (lv_at hl 4 rfl) ?_
        refine lv_iconst (v := 0) hx hb dX7_divide_38 (by decide) ?_
        replace hf := gi_e hf
        obtain ⟨i_39, hf⟩ := hf
        refine va_iast (a := (ad 20)) hx hb hK hP hD hS 2 0 rfl rfl i_39 dX7_divide_39 (fun H locs hP hD hS => ?_)
        have hP : va_P D vwCl ((wX7_0_19_20_21 cy ad thr sta pri tcd frt frp res_25 (upd quo_25 (Int32.toNatClampNeg x4_25) 0) rou)) H := hP
        have hD : va_D A ((wX7_0_19_20_21 cy ad thr sta pri tcd frt frp res_25 (upd quo_25 (Int32.toNatClampNeg x4_25) 0) rou)) := hD
        obtain ⟨v_40, e_40⟩ : ∃ y : Int32, y = x4_25 + 1 := ⟨_, rfl⟩
        replace hf := bd_at e_40 hf
        refine lv_iinc (v := v_40) (lv' := [(4, .int v_40), (0, .ref (ad 0)), (1, .int x1), (2, .int x2_25), (3, .int x3_25)]) hx hb dX7_divide_40 hl (k := 4) rfl (by rw [e_40]; rfl) (by decide) rfl (fun ls hl => ?_)
        clear e_40
        refine lv_goto (tgt := 25) hx hb dX7_divide_43 (by decide) ?_
        exact ih25 H locs ls v_40 (upd quo_25 (Int32.toNatClampNeg x4_25) 0) hf hP hD hS (lv_sub hl [1, 2, 3, 4, 0] rfl)
  unfold FX7_divide at hf
  refine lv_aload_n hx hb dX7_divide_0 rfl (lv_at hl 0 rfl) ?_
  refine lv_iload_n hx hb dX7_divide_1 rfl (lv_at hl 1 rfl) ?_
  replace hf := ob_e hf
  obtain ⟨u_2, hu_2, hf⟩ := hf
  refine ivR (As := [.int x1]) (rest := []) (st1 := [.int u_2]) ⟨hx, hb, hml, hown, hts⟩ hK hN (KX7_degreeOf l D cy ad thr sta pri tcd frt frp rou x1 H.size hu_2) (cwV 1 hts gX7_divide_X7_degreeOf rfl rfl rfl (by decide +kernel) ⟨Nat.le_of_ble_eq_true rfl, Nat.le_of_ble_eq_true rfl⟩) (va_recv hK hP (ci := 7) (q0 := 0) rfl rfl) (P_pl (wc := (wX7_0_21 cy ad thr sta pri tcd frt frp rou)) (is := [0, 3]) hP rfl) rfl hl.1 rfl (Nat.le_of_ble_eq_true rfl) rfl dX7_divide_2 ⟨Nat.zero_le _, Nat.zero_le _⟩ ?_
  refine lv_istore_n (lv' := [(2, .int u_2), (0, .ref (ad 0)), (1, .int x1)]) hx hb dX7_divide_5 rfl hl (by decide) rfl (fun ls hl => ?_)
  refine lv_aload_n hx hb dX7_divide_6 rfl (lv_at hl 1 rfl) ?_
  refine lv_aload_n hx hb dX7_divide_7 rfl (lv_at hl 1 rfl) ?_
  refine va_get (a := (ad 0)) (ci := 7) (v := .ref (ad 21)) (C := RX7) (T := TX7) (N := 28) hx hb hts hin_X7 hown hK hP 0 rfl rfl 24 (by decide) hw_3 (fun _ h => h) rfl dX7_divide_8 ?_
  refine lv_bipush (v := 65) hx hb dX7_divide_11 (by decide) ?_
  refine lv_iload_n hx hb dX7_divide_13 rfl (lv_at hl 2 rfl) ?_
  refine lv_imul hx hb dX7_divide_14 ?_
  refine lv_iload_n hx hb dX7_divide_15 rfl (lv_at hl 0 rfl) ?_
  refine lv_iadd hx hb dX7_divide_16 ?_
  replace hf := gi_e hf
  obtain ⟨i_17, hf⟩ := hf
  refine va_iald (a := (ad 21)) hx hb hK hP 3 0 rfl rfl i_17 dX7_divide_17 ?_
  replace hf := ob_e hf
  obtain ⟨u_18, hu_18, hf⟩ := hf
  refine ivR (As := [.int (rou (Int32.toNatClampNeg ((65 * x1) + u_2)))]) (rest := []) (st1 := [.int u_18]) ⟨hx, hb, hml, hown, hts⟩ hK hN (KX7_inverse l D cy ad thr sta pri tcd frt frp (rou (Int32.toNatClampNeg ((65 * x1) + u_2))) H.size hu_18) (cwV 1 hts gX7_divide_X7_inverse rfl rfl rfl (by decide +kernel) ⟨Nat.le_of_ble_eq_true rfl, Nat.le_of_ble_eq_true rfl⟩) (va_recv hK hP (ci := 7) (q0 := 0) rfl rfl) (P_pl (wc := (wX7_0 cy ad thr sta pri tcd frt frp)) (is := [0]) hP rfl) rfl hl.1 rfl (Nat.le_of_ble_eq_true rfl) rfl dX7_divide_18 ⟨Nat.zero_le _, Nat.zero_le _⟩ ?_
  refine lv_istore_n (lv' := [(3, .int u_18), (2, .int u_2), (0, .ref (ad 0)), (1, .int x1)]) hx hb dX7_divide_21 rfl hl (by decide) rfl (fun ls hl => ?_)
  refine lv_iconst (v := 0) hx hb dX7_divide_22 (by decide) ?_
  refine lv_istore (lv' := [(4, .int 0), (3, .int u_18), (2, .int u_2), (0, .ref (ad 0)), (1, .int x1)]) hx hb dX7_divide_23 hl (by decide) rfl (fun ls hl => ?_)
  exact L25 u_2 u_18 res FU H locs ls 0 quo hf hP hD hS (lv_sub hl [3, 4, 2, 1, 0] rfl)
def FX7_findRounds_L131  (k32 : Int32 → (Nat → Int32) → (Nat → Int32) → (Nat → Int32) → (Nat → Int32) → (Nat → Int32) → Option ((Nat → Int32) × (Nat → Int32) × (Nat → Int32) × (Nat → Int32) × (Nat → Int32))) (x1 : Int32) (x2 : Int32) (x3_131 : Int32) (pri : Int32) (deg : Nat → Int32) (num : Nat → Int32) (don_131 : Nat → Int32) (nex_131 : Nat → Int32) (res_131 : Nat → Int32) (quo_131 : Nat → Int32) : Nat → Int32 → (Nat → Int32) → Option ((Nat → Int32) × (Nat → Int32) × (Nat → Int32) × (Nat → Int32) × (Nat → Int32))
  | 0, _, _ => none
  | fuel + 1, x4_131, rou_131 => (if 65 ≤ x4_131 then (bd (x3_131 + 1) (fun v_163 => k32 v_163 don_131 nex_131 res_131 quo_131 rou_131)) else (gi x4_131 65 (gi ((65 * x3_131) + x4_131) 455 (bd (x4_131 + 1) (fun v_157 => (FX7_findRounds_L131 k32 x1 x2 x3_131 pri deg num don_131 nex_131 res_131 quo_131 fuel) v_157 (upd rou_131 (Int32.toNatClampNeg ((65 * x3_131) + x4_131)) (res_131 (Int32.toNatClampNeg x4_131))))))))
def FX7_findRounds_J122  (k32 : Int32 → (Nat → Int32) → (Nat → Int32) → (Nat → Int32) → (Nat → Int32) → (Nat → Int32) → Option ((Nat → Int32) × (Nat → Int32) × (Nat → Int32) × (Nat → Int32) × (Nat → Int32))) (k103 : Int32 → (Nat → Int32) → (Nat → Int32) → Option ((Nat → Int32) × (Nat → Int32) × (Nat → Int32) × (Nat → Int32) × (Nat → Int32))) (x1 : Int32) (x2 : Int32) (x3_103 : Int32) (x4_122 : Int32) (pri : Int32) (deg : Nat → Int32) (num : Nat → Int32) (don_103 : Nat → Int32) (nex_103 : Nat → Int32) (res_122 : Nat → Int32) (quo_122 : Nat → Int32) (rou_103 : Nat → Int32) : Option ((Nat → Int32) × (Nat → Int32) × (Nat → Int32) × (Nat → Int32) × (Nat → Int32)) := (bd (x4_122 + 1) (fun v_122 => k103 v_122 res_122 quo_122))
def FX7_findRounds_L103  (k32 : Int32 → (Nat → Int32) → (Nat → Int32) → (Nat → Int32) → (Nat → Int32) → (Nat → Int32) → Option ((Nat → Int32) × (Nat → Int32) × (Nat → Int32) × (Nat → Int32) × (Nat → Int32))) (x1 : Int32) (x2 : Int32) (x3_103 : Int32) (pri : Int32) (deg : Nat → Int32) (num : Nat → Int32) (don_103 : Nat → Int32) (nex_103 : Nat → Int32) (rou_103 : Nat → Int32) : Nat → Int32 → (Nat → Int32) → (Nat → Int32) → Option ((Nat → Int32) × (Nat → Int32) × (Nat → Int32) × (Nat → Int32) × (Nat → Int32))
  | 0, _, _, _ => none
  | fuel + 1, x4_103, res_103, quo_103 => (if x3_103 ≤ x4_103 then (FX7_findRounds_L131 k32 x1 x2 x3_103 pri deg num don_103 nex_103 res_103 quo_103 FU 0 rou_103) else (gd (¬ x4_103 = 0) (if (irm x3_103 x4_103) = 0 then (ob (FX7_divide pri res_103 quo_103 rou_103 x4_103) (fun u_119 => FX7_findRounds_J122 k32 (FX7_findRounds_L103 k32 x1 x2 x3_103 pri deg num don_103 nex_103 rou_103 fuel) x1 x2 x3_103 x4_103 pri deg num don_103 nex_103 u_119.1 u_119.2 rou_103)) else FX7_findRounds_J122 k32 (FX7_findRounds_L103 k32 x1 x2 x3_103 pri deg num don_103 nex_103 rou_103 fuel) x1 x2 x3_103 x4_103 pri deg num don_103 nex_103 res_103 quo_103 rou_103)))
def FX7_findRounds_J93  (k32 : Int32 → (Nat → Int32) → (Nat → Int32) → (Nat → Int32) → (Nat → Int32) → (Nat → Int32) → Option ((Nat → Int32) × (Nat → Int32) × (Nat → Int32) × (Nat → Int32) × (Nat → Int32))) (k45 : Int32 → (Nat → Int32) → Option ((Nat → Int32) × (Nat → Int32) × (Nat → Int32) × (Nat → Int32) × (Nat → Int32))) (x1 : Int32) (x2 : Int32) (x3_45 : Int32) (x4_93 : Int32) (s1_93 : Int32) (s2_93 : Int32) (pri : Int32) (deg : Nat → Int32) (num : Nat → Int32) (don_45 : Nat → Int32) (nex_45 : Nat → Int32) (res_93 : Nat → Int32) (quo_45 : Nat → Int32) (rou_45 : Nat → Int32) : Option ((Nat → Int32) × (Nat → Int32) × (Nat → Int32) × (Nat → Int32) × (Nat → Int32)) := (gi s1_93 65 (bd (x4_93 + 1) (fun v_94 => k45 v_94 (upd res_93 (Int32.toNatClampNeg s1_93) s2_93))))
def FX7_findRounds_L45  (k32 : Int32 → (Nat → Int32) → (Nat → Int32) → (Nat → Int32) → (Nat → Int32) → (Nat → Int32) → Option ((Nat → Int32) × (Nat → Int32) × (Nat → Int32) × (Nat → Int32) × (Nat → Int32))) (x1 : Int32) (x2 : Int32) (x3_45 : Int32) (pri : Int32) (deg : Nat → Int32) (num : Nat → Int32) (don_45 : Nat → Int32) (nex_45 : Nat → Int32) (quo_45 : Nat → Int32) (rou_45 : Nat → Int32) : Nat → Int32 → (Nat → Int32) → Option ((Nat → Int32) × (Nat → Int32) × (Nat → Int32) × (Nat → Int32) × (Nat → Int32))
  | 0, _, _ => none
  | fuel + 1, x4_45, res_45 => (if 65 ≤ x4_45 then (FX7_findRounds_L103 k32 x1 x2 x3_45 pri deg num don_45 nex_45 rou_45 FU 1 res_45 quo_45) else (if x4_45 = 1 then (gi x4_45 65 (gd (¬ pri = 0) (FX7_findRounds_J93 k32 (FX7_findRounds_L45 k32 x1 x2 x3_45 pri deg num don_45 nex_45 quo_45 rou_45 fuel) x1 x2 x3_45 x4_45 x4_45 (irm (((don_45 (Int32.toNatClampNeg x4_45)) + pri) - 1) pri) pri deg num don_45 nex_45 res_45 quo_45 rou_45))) else (gi x4_45 65 (FX7_findRounds_J93 k32 (FX7_findRounds_L45 k32 x1 x2 x3_45 pri deg num don_45 nex_45 quo_45 rou_45 fuel) x1 x2 x3_45 x4_45 x4_45 (don_45 (Int32.toNatClampNeg x4_45)) pri deg num don_45 nex_45 res_45 quo_45 rou_45))))
def FX7_findRounds_L32   (x1 : Int32) (x2 : Int32) (pri : Int32) (deg : Nat → Int32) (num : Nat → Int32) : Nat → Int32 → (Nat → Int32) → (Nat → Int32) → (Nat → Int32) → (Nat → Int32) → (Nat → Int32) → Option ((Nat → Int32) × (Nat → Int32) × (Nat → Int32) × (Nat → Int32) × (Nat → Int32))
  | 0, _, _, _, _, _, _ => none
  | fuel + 1, x3_32, don_32, nex_32, res_32, quo_32, rou_32 => (if x2 < x3_32 then (some (don_32, nex_32, res_32, quo_32, rou_32)) else (ob (FX7_goOn pri deg num don_32 nex_32 res_32 x1) (fun u_39 => FX7_findRounds_L45 (FX7_findRounds_L32 x1 x2 pri deg num fuel) x1 x2 x3_32 pri deg num u_39.1 u_39.2.1 quo_32 rou_32 FU 0 u_39.2.2)))
def FX7_findRounds_J23  (k2 : Int32 → (Nat → Int32) → Option ((Nat → Int32) × (Nat → Int32) × (Nat → Int32) × (Nat → Int32) × (Nat → Int32))) (x1 : Int32) (x2 : Int32) (x3_23 : Int32) (s1_23 : Int32) (s2_23 : Bool) (pri : Int32) (deg : Nat → Int32) (num : Nat → Int32) (don_23 : Nat → Int32) (nex_2 : Nat → Int32) (res_2 : Nat → Int32) (quo_2 : Nat → Int32) (rou_2 : Nat → Int32) : Option ((Nat → Int32) × (Nat → Int32) × (Nat → Int32) × (Nat → Int32) × (Nat → Int32)) := (gi s1_23 65 (bd (x3_23 + 1) (fun v_24 => k2 v_24 (upd don_23 (Int32.toNatClampNeg s1_23) (bi s2_23)))))
def FX7_findRounds_L2   (x1 : Int32) (x2 : Int32) (pri : Int32) (deg : Nat → Int32) (num : Nat → Int32) (nex_2 : Nat → Int32) (res_2 : Nat → Int32) (quo_2 : Nat → Int32) (rou_2 : Nat → Int32) : Nat → Int32 → (Nat → Int32) → Option ((Nat → Int32) × (Nat → Int32) × (Nat → Int32) × (Nat → Int32) × (Nat → Int32))
  | 0, _, _ => none
  | fuel + 1, x3_2, don_2 => (if 65 ≤ x3_2 then (FX7_findRounds_L32 x1 x2 pri deg num FU 1 don_2 nex_2 res_2 quo_2 rou_2) else (if x3_2 = 1 then (FX7_findRounds_J23 (FX7_findRounds_L2 x1 x2 pri deg num nex_2 res_2 quo_2 rou_2 fuel) x1 x2 x3_2 x3_2 true pri deg num don_2 nex_2 res_2 quo_2 rou_2) else (FX7_findRounds_J23 (FX7_findRounds_L2 x1 x2 pri deg num nex_2 res_2 quo_2 rou_2 fuel) x1 x2 x3_2 x3_2 false pri deg num don_2 nex_2 res_2 quo_2 rou_2)))
def FX7_findRounds  (pri : Int32) (deg : Nat → Int32) (num : Nat → Int32) (don : Nat → Int32) (nex : Nat → Int32) (res : Nat → Int32) (quo : Nat → Int32) (rou : Nat → Int32) (x1 : Int32) (x2 : Int32) : Option ((Nat → Int32) × (Nat → Int32) × (Nat → Int32) × (Nat → Int32) × (Nat → Int32)) := (FX7_findRounds_L2 x1 x2 pri deg num nex res quo rou FU 0 don)
abbrev RMX7_findRounds : Room := { frames := 2, cells := 0, slots := 0, locals := 49 }
set_option maxHeartbeats 4000000 in
set_option maxRecDepth 100000 in
theorem KX7_findRounds (l : Launch) (D : va_G) (cy : Nat → ClassId) (ad : Nat → Nat) (thr : Int32) (sta : Int32) (pri : Int32) (tcd : Int32) (frt : Int32) (frp : Int32) (deg : Nat → Int32) (num : Nat → Int32) (don : Nat → Int32) (nex : Nat → Int32) (res : Nat → Int32) (quo : Nat → Int32) (rou : Nat → Int32) (x1 : Int32) (x2 : Int32) (sz : Nat) {out : (Nat → Int32) × (Nat → Int32) × (Nat → Int32) × (Nat → Int32) × (Nat → Int32)} (hf : FX7_findRounds pri deg num don nex res quo rou x1 x2 = some out) : Met l yX7_findRounds wsX7_findRounds RMX7_findRounds (PW D cy [.ref (ad 0), .int x1, .int x2] sz ((wX7_0_4_5_17_18_19_20_21 cy ad thr sta pri tcd frt frp deg num don nex res quo rou)) []) (QW D none ((wX7_0_4_5_17_18_19_20_21 cy ad thr sta pri tcd frt frp deg num out.1 out.2.1 out.2.2.1 out.2.2.2.1 out.2.2.2.2)) (va_A ((wX7_0_4_5_17_18_19_20_21 cy ad thr sta pri tcd frt frp deg num don nex res quo rou)) sz)) 0 0 (va_A ((wX7_0_4_5_17_18_19_20_21 cy ad thr sta pri tcd frt frp deg num don nex res quo rou)) sz) := by
  refine Met.ofW (cc := cX7_findRounds) (maxL := 5) (ret := none) (by decide +kernel) rfl ?_
  intro p e s m args below meth c s₁ B hml hv
  obtain ⟨hav, hsz, hP, hR0, hK, hN, hD0, hsep⟩ := hv
  have hx := B.exec
  have hb := B.bytes
  have hr := B.returns
  have hts := atoms_spec (ws := wsX7_findRounds) B.pre
  have hown : s.vm.findClass RX7 = some m.cls := findClass_of_methodNamed B.named
  have hlocks := B.notSynchronized
  subst hsz
  have hin_X7 : ∀ w ∈ u_ws RX7 TX7 28, w ∈ wsX7_findRounds := by decide +kernel
  have hw_0 := hts (.fieldLink RX7 80 "ReturnPointsModel" "rounds" "[I") (by decide +kernel)
  have hw_1 := hts (.fieldLink RX7 74 "ReturnPointsModel" "rest" "[I") (by decide +kernel)
  have hw_2 := hts (.fieldLink RX7 68 "ReturnPointsModel" "done" "[I") (by decide +kernel)
  have hw_3 := hts (.fieldLink RX7 98 "ReturnPointsModel" "prime" "I") (by decide +kernel)
  have hD := hD0.self (sz := s.heap.size)
  have hnA := roA hsep hR0
  generalize hAe : va_A ((wX7_0_4_5_17_18_19_20_21 cy ad thr sta pri tcd frt frp deg num don nex res quo rou)) s.heap.size = A at hD hnA ⊢
  have hA : ∀ q : Nat, s.heap.size ≤ q → A q := fun q h => by rw [← hAe]; exact Or.inr h
  have hS : va_S A s.heap s.heap [] := va_S.rf
  obtain ⟨ls, hfr, hl⟩ := ent_ok (m := m) (n := 5) (l' := [(0, .ref (ad 0)), (1, .int x1), (2, .int x2)]) [.ref (ad 0), .int x1, .int x2] hav (Nat.le_of_ble_eq_true rfl) rfl
  rw [hfr]
  generalize hQe : MQ below (QW D none ((wX7_0_4_5_17_18_19_20_21 cy ad thr sta pri tcd frt frp deg num out.1 out.2.1 out.2.2.1 out.2.2.2.1 out.2.2.2.2)) A) args s 0 0 A = QQ
  change W p l e RMX7_findRounds s m args below meth c s.heap [] 0 0 QQ (F0 m 0 ls [])
  have hP : va_P D vwCl ((wX7_0_4_5_17_18_19_20_21 cy ad thr sta pri tcd frt frp deg num don nex res quo rou)) s.heap := hP
  have hD : va_D A ((wX7_0_4_5_17_18_19_20_21 cy ad thr sta pri tcd frt frp deg num don nex res quo rou)) := hD
  suffices h00 : ∀ (H : Heap) (locs : List Loc), va_P D vwCl ((wX7_0_4_5_17_18_19_20_21 cy ad thr sta pri tcd frt frp deg num don nex res quo rou)) H → va_S A s.heap H locs → W p l e RMX7_findRounds s m args below meth c H locs 0 0 QQ (F0 m 0 ls []) from h00 _ _ hP hS
  clear hP hS
  intro H locs hP hS
  have L32 : ∀  (n32 : Nat) (H : Heap) (locs : List Loc) (ls : Array Slot) (x3_32 : Int32) (don_32 : Nat → Int32) (nex_32 : Nat → Int32) (res_32 : Nat → Int32) (quo_32 : Nat → Int32) (rou_32 : Nat → Int32), FX7_findRounds_L32 x1 x2 pri deg num n32 x3_32 don_32 nex_32 res_32 quo_32 rou_32 = some out → va_P D vwCl ((wX7_0_4_5_17_18_19_20_21 cy ad thr sta pri tcd frt frp deg num don_32 nex_32 res_32 quo_32 rou_32)) H → va_D A ((wX7_0_4_5_17_18_19_20_21 cy ad thr sta pri tcd frt frp deg num don_32 nex_32 res_32 quo_32 rou_32)) → va_S A s.heap H locs → lv_has ls 5 [(0, .ref (ad 0)), (1, .int x1), (2, .int x2), (3, .int x3_32)] → W p l e RMX7_findRounds s m args below meth c H locs 0 0 QQ (F0 m 32 ls []) := by
    intro  n32
    induction n32 with
    | zero => intro H locs ls x3_32 don_32 nex_32 res_32 quo_32 rou_32 hf; simp [FX7_findRounds_L32] at hf
    | succ n32 ih32 =>
      intro H locs ls x3_32 don_32 nex_32 res_32 quo_32 rou_32 hf hP hD hS hl
      rw [FX7_findRounds_L32] at hf
      have L131 : ∀ (x3_131 : Int32) (don_131 : Nat → Int32) (nex_131 : Nat → Int32) (res_131 : Nat → Int32) (quo_131 : Nat → Int32) (n131 : Nat) (H : Heap) (locs : List Loc) (ls : Array Slot) (x4_131 : Int32) (rou_131 : Nat → Int32), FX7_findRounds_L131 (FX7_findRounds_L32 x1 x2 pri deg num n32) x1 x2 x3_131 pri deg num don_131 nex_131 res_131 quo_131 n131 x4_131 rou_131 = some out → va_P D vwCl ((wX7_0_4_5_17_18_19_20_21 cy ad thr sta pri tcd frt frp deg num don_131 nex_131 res_131 quo_131 rou_131)) H → va_D A ((wX7_0_4_5_17_18_19_20_21 cy ad thr sta pri tcd frt frp deg num don_131 nex_131 res_131 quo_131 rou_131)) → va_S A s.heap H locs → lv_has ls 5 [(0, .ref (ad 0)), (1, .int x1), (2, .int x2), (3, .int x3_131), (4, .int x4_131)] → W p l e RMX7_findRounds s m args below meth c H locs 0 0 QQ (F0 m 131 ls []) := by
        intro x3_131 don_131 nex_131 res_131 quo_131 n131
        induction n131 with
        | zero => intro H locs ls x4_131 rou_131 hf; simp [FX7_findRounds_L131] at hf
        | succ n131 ih131 =>
          intro H locs ls x4_131 rou_131 hf hP hD hS hl
          rw [FX7_findRounds_L131] at hf
          refine lv_iload hx hb dX7_findRounds_131 (lv_at hl 4 rfl) ?_
          refine lv_bipush (v := 65) hx hb dX7_findRounds_133 (by decide) ?_
          refine lv_icmp_ge (tgt := 163) hx hb dX7_findRounds_135 (by decide) (fun c_135 => ?_) (fun c_135 => ?_)
          · replace hf := it_p c_135 hf
            obtain ⟨v_163, e_163⟩ : ∃ y : Int32, y = x3_131 + 1 := ⟨_, rfl⟩
            replace hf := bd_at e_163 hf
            refine lv_iinc (v := v_163) (lv' := [(3, .int v_163), (0, .ref (ad 0)), (1, .int x1), (2, .int x2), (4, .int x4_131)]) hx hb dX7_findRounds_163 hl (k := 3) rfl (by rw [e_163]; rfl) (by decide) rfl (fun ls hl => ?_)
            clear e_163
            refine lv_goto (tgt := 32) hx hb dX7_findRounds_166 (by decide) ?_
            exact ih32 H locs ls v_163 don_131 nex_131 res_131 quo_131 rou_131 hf hP hD hS (lv_sub hl [1, 2, 3, 0] rfl)
          · replace hf := it_n c_135 hf
            refine lv_aload_n hx hb dX7_findRounds_138 rfl (lv_at hl 0 rfl) ?_
            refine va_get (a := (ad 0)) (ci := 7) (v := .ref (ad 21)) (C := RX7) (T := TX7) (N := 28) hx hb hts hin_X7 hown hK hP 0 rfl rfl 24 (by decide) hw_0 (fun _ h => h) rfl dX7_findRounds_139 ?_
            refine lv_bipush (v := 65) hx hb dX7_findRounds_142 (by decide) ?_
            refine lv_iload_n hx hb dX7_findRounds_144 rfl (lv_at hl 3 rfl) ?_
            refine lv_imul hx hb dX7_findRounds_145 ?_
            refine lv_iload hx hb dX7_findRounds_146 (lv_at hl 4 rfl) ?_
            refine lv_iadd hx hb dX7_findRounds_148 ?_
            refine lv_aload_n hx hb dX7_findRounds_149 rfl (lv_at hl 0 rfl) ?_
            refine va_get (a := (ad 0)) (ci := 7) (v := .ref (ad 19)) (C := RX7) (T := TX7) (N := 28) hx hb hts hin_X7 hown hK hP 0 rfl rfl 22 (by decide) hw_1 (fun _ h => h) rfl dX7_findRounds_150 ?_
            refine lv_iload hx hb dX7_findRounds_153 (lv_at hl 4 rfl) ?_
            replace hf := gi_e hf
            obtain ⟨i_155, hf⟩ := hf
            refine va_iald (a := (ad 19)) hx hb hK hP 5 0 rfl rfl i_155 dX7_findRounds_155 ?_
            replace hf := gi_e hf
            obtain ⟨i_156, hf⟩ := hf
            refine va_iast (a := (ad 21)) hx hb hK hP hD hS 7 0 rfl rfl i_156 dX7_findRounds_156 (fun H locs hP hD hS => ?_)
            have hP : va_P D vwCl ((wX7_0_4_5_17_18_19_20_21 cy ad thr sta pri tcd frt frp deg num don_131 nex_131 res_131 quo_131 (upd rou_131 (Int32.toNatClampNeg ((65 * x3_131) + x4_131)) (res_131 (Int32.toNatClampNeg x4_131))))) H := hP
            have hD : va_D A ((wX7_0_4_5_17_18_19_20_21 cy ad thr sta pri tcd frt frp deg num don_131 nex_131 res_131 quo_131 (upd rou_131 (Int32.toNatClampNeg ((65 * x3_131) + x4_131)) (res_131 (Int32.toNatClampNeg x4_131))))) := hD
            obtain ⟨v_157, e_157⟩ : ∃ y : Int32, y = x4_131 + 1 := ⟨_, rfl⟩
            replace hf := bd_at e_157 hf
            refine lv_iinc (v := v_157) (lv' := [(4, .int v_157), (0, .ref (ad 0)), (1, .int x1), (2, .int x2), (3, .int x3_131)]) hx hb dX7_findRounds_157 hl (k := 4) rfl (by rw [e_157]; rfl) (by decide) rfl (fun ls hl => ?_)
            clear e_157
            refine lv_goto (tgt := 131) hx hb dX7_findRounds_160 (by decide) ?_
            exact ih131 H locs ls v_157 (upd rou_131 (Int32.toNatClampNeg ((65 * x3_131) + x4_131)) (res_131 (Int32.toNatClampNeg x4_131))) hf hP hD hS (lv_sub hl [1, 2, 3, 4, 0] rfl)
      have L103 : ∀ (x3_103 : Int32) (don_103 : Nat → Int32) (nex_103 : Nat → Int32) (rou_103 : Nat → Int32) (n103 : Nat) (H : Heap) (locs : List Loc) (ls : Array Slot) (x4_103 : Int32) (res_103 : Nat → Int32) (quo_103 : Nat → Int32), FX7_findRounds_L103 (FX7_findRounds_L32 x1 x2 pri deg num n32) x1 x2 x3_103 pri deg num don_103 nex_103 rou_103 n103 x4_103 res_103 quo_103 = some out → va_P D vwCl ((wX7_0_4_5_17_18_19_20_21 cy ad thr sta pri tcd frt frp deg num don_103 nex_103 res_103 quo_103 rou_103)) H → va_D A ((wX7_0_4_5_17_18_19_20_21 cy ad thr sta pri tcd frt frp deg num don_103 nex_103 res_103 quo_103 rou_103)) → va_S A s.heap H locs → lv_has ls 5 [(0, .ref (ad 0)), (1, .int x1), (2, .int x2), (3, .int x3_103), (4, .int x4_103)] → W p l e RMX7_findRounds s m args below meth c H locs 0 0 QQ (F0 m 103 ls []) := by
        intro x3_103 don_103 nex_103 rou_103 n103
        induction n103 with
        | zero => intro H locs ls x4_103 res_103 quo_103 hf; simp [FX7_findRounds_L103] at hf
        | succ n103 ih103 =>
          intro H locs ls x4_103 res_103 quo_103 hf hP hD hS hl
          rw [FX7_findRounds_L103] at hf
          have J122 : ∀ (H : Heap) (locs : List Loc) (ls : Array Slot) (x4_122 : Int32) (res_122 : Nat → Int32) (quo_122 : Nat → Int32), FX7_findRounds_J122 (FX7_findRounds_L32 x1 x2 pri deg num n32) (FX7_findRounds_L103 (FX7_findRounds_L32 x1 x2 pri deg num n32) x1 x2 x3_103 pri deg num don_103 nex_103 rou_103 n103) x1 x2 x3_103 x4_122 pri deg num don_103 nex_103 res_122 quo_122 rou_103 = some out → va_P D vwCl ((wX7_0_4_5_17_18_19_20_21 cy ad thr sta pri tcd frt frp deg num don_103 nex_103 res_122 quo_122 rou_103)) H → va_D A ((wX7_0_4_5_17_18_19_20_21 cy ad thr sta pri tcd frt frp deg num don_103 nex_103 res_122 quo_122 rou_103)) → va_S A s.heap H locs → lv_has ls 5 [(0, .ref (ad 0)), (1, .int x1), (2, .int x2), (3, .int x3_103), (4, .int x4_122)] → W p l e RMX7_findRounds s m args below meth c H locs 0 0 QQ (F0 m 122 ls []) := by
            intro H locs ls x4_122 res_122 quo_122 hf hP hD hS hl
            unfold FX7_findRounds_J122 at hf
            obtain ⟨v_122, e_122⟩ : ∃ y : Int32, y = x4_122 + 1 := ⟨_, rfl⟩
            replace hf := bd_at e_122 hf
            refine lv_iinc (v := v_122) (lv' := [(4, .int v_122), (0, .ref (ad 0)), (1, .int x1), (2, .int x2), (3, .int x3_103)]) hx hb dX7_findRounds_122 hl (k := 4) rfl (by rw [e_122]; rfl) (by decide) rfl (fun ls hl => ?_)
            clear e_122
            refine lv_goto (tgt := 103) hx hb dX7_findRounds_125 (by decide) ?_
            exact ih103 H locs ls v_122 res_122 quo_122 hf hP hD hS (lv_sub hl [1, 2, 3, 4, 0] rfl)
          refine lv_iload hx hb dX7_findRounds_103 (lv_at hl 4 rfl) ?_
          refine lv_iload_n hx hb dX7_findRounds_105 rfl (lv_at hl 3 rfl) ?_
          refine lv_icmp_ge (tgt := 128) hx hb dX7_findRounds_106 (by decide) (fun c_106 => ?_) (fun c_106 => ?_)
          · replace hf := it_p c_106 hf
            refine lv_iconst (v := 0) hx hb dX7_findRounds_128 (by decide) ?_
            refine lv_istore (lv' := [(4, .int 0), (0, .ref (ad 0)), (1, .int x1), (2, .int x2), (3, .int x3_103)]) hx hb dX7_findRounds_129 hl (by decide) rfl (fun ls hl => ?_)
            exact L131 x3_103 don_103 nex_103 res_103 quo_103 FU H locs ls 0 rou_103 hf hP hD hS (lv_sub hl [1, 2, 3, 4, 0] rfl)
          · replace hf := it_n c_106 hf
            refine lv_iload_n hx hb dX7_findRounds_109 rfl (lv_at hl 3 rfl) ?_
            refine lv_iload hx hb dX7_findRounds_110 (lv_at hl 4 rfl) ?_
            replace hf := gd_e hf
            obtain ⟨z_112, hf⟩ := hf
            refine rw_irem hx hb dX7_findRounds_112 z_112 ?_
            refine lv_if_ne (tgt := 122) hx hb dX7_findRounds_113 (by decide) (fun c_113 => ?_) (fun c_113 => ?_)
            · replace hf := it_n c_113 hf
              exact J122 H locs ls x4_103 res_103 quo_103 hf hP hD hS (lv_sub hl [0, 1, 2, 3, 4] rfl)
            · replace hf := it_p c_113 hf
              refine lv_aload_n hx hb dX7_findRounds_116 rfl (lv_at hl 0 rfl) ?_
              refine lv_iload hx hb dX7_findRounds_117 (lv_at hl 4 rfl) ?_
              replace hf := ob_e hf
              obtain ⟨u_119, hu_119, hf⟩ := hf
              refine ivW (As := [.int x4_103]) (rest := []) (st1 := []) (is := [0, 5, 6, 7]) (w1 := (wX7_0_19_20_21 cy ad thr sta pri tcd frt frp u_119.1 u_119.2 rou_103)) ⟨hx, hb, hml, hown, hts⟩ hK hN (KX7_divide l D cy ad thr sta pri tcd frt frp res_103 quo_103 rou_103 x4_103 H.size hu_119) (cwV 1 hts gX7_findRounds_X7_divide rfl rfl rfl (by decide +kernel) ⟨Nat.le_of_ble_eq_true rfl, Nat.le_of_ble_eq_true rfl⟩) (va_recv hK hP (ci := 7) (q0 := 0) rfl rfl) hP hD hS hA P_nil (sepW_nil _) (by decide) rfl rfl rfl hl.1 rfl (Nat.le_of_ble_eq_true rfl) rfl dX7_findRounds_119 ⟨Nat.zero_le _, Nat.zero_le _⟩ (fun H locs hP hD hS => ?_)
              have hP : va_P D vwCl ((wX7_0_4_5_17_18_19_20_21 cy ad thr sta pri tcd frt frp deg num don_103 nex_103 u_119.1 u_119.2 rou_103)) H := hP
              have hD : va_D A ((wX7_0_4_5_17_18_19_20_21 cy ad thr sta pri tcd frt frp deg num don_103 nex_103 u_119.1 u_119.2 rou_103)) := hD
              exact J122 H locs ls x4_103 u_119.1 u_119.2 hf hP hD hS (lv_sub hl [0, 1, 2, 3, 4] rfl)
      have L45 : ∀ (x3_45 : Int32) (don_45 : Nat → Int32) (nex_45 : Nat → Int32) (quo_45 : Nat → Int32) (rou_45 : Nat → Int32) (n45 : Nat) (H : Heap) (locs : List Loc) (ls : Array Slot) (x4_45 : Int32) (res_45 : Nat → Int32), FX7_findRounds_L45 (FX7_findRounds_L32 x1 x2 pri deg num n32) x1 x2 x3_45 pri deg num don_45 nex_45 quo_45 rou_45 n45 x4_45 res_45 = some out → va_P D vwCl ((wX7_0_4_5_17_18_19_20_21 cy ad thr sta pri tcd frt frp deg num don_45 nex_45 res_45 quo_45 rou_45)) H → va_D A ((wX7_0_4_5_17_18_19_20_21 cy ad thr sta pri tcd frt frp deg num don_45 nex_45 res_45 quo_45 rou_45)) → va_S A s.heap H locs → lv_has ls 5 [(0, .ref (ad 0)), (1, .int x1), (2, .int x2), (3, .int x3_45), (4, .int x4_45)] → W p l e RMX7_findRounds s m args below meth c H locs 0 0 QQ (F0 m 45 ls []) := by
        intro x3_45 don_45 nex_45 quo_45 rou_45 n45
        induction n45 with
        | zero => intro H locs ls x4_45 res_45 hf; simp [FX7_findRounds_L45] at hf
        | succ n45 ih45 =>
          intro H locs ls x4_45 res_45 hf hP hD hS hl
          rw [FX7_findRounds_L45] at hf
          have J93 : ∀ (H : Heap) (locs : List Loc) (ls : Array Slot) (x4_93 : Int32) (s1_93 : Int32) (s2_93 : Int32) (res_93 : Nat → Int32), FX7_findRounds_J93 (FX7_findRounds_L32 x1 x2 pri deg num n32) (FX7_findRounds_L45 (FX7_findRounds_L32 x1 x2 pri deg num n32) x1 x2 x3_45 pri deg num don_45 nex_45 quo_45 rou_45 n45) x1 x2 x3_45 x4_93 s1_93 s2_93 pri deg num don_45 nex_45 res_93 quo_45 rou_45 = some out → va_P D vwCl ((wX7_0_4_5_17_18_19_20_21 cy ad thr sta pri tcd frt frp deg num don_45 nex_45 res_93 quo_45 rou_45)) H → va_D A ((wX7_0_4_5_17_18_19_20_21 cy ad thr sta pri tcd frt frp deg num don_45 nex_45 res_93 quo_45 rou_45)) → va_S A s.heap H locs → lv_has ls 5 [(0, .ref (ad 0)), (1, .int x1), (2, .int x2), (3, .int x3_45), (4, .int x4_93)] → W p l e RMX7_findRounds s m args below meth c H locs 0 0 QQ (F0 m 93 ls [.int s2_93, .int s1_93, .ref (ad 19)]) := by
            intro H locs ls x4_93 s1_93 s2_93 res_93 hf hP hD hS hl
            unfold FX7_findRounds_J93 at hf
            replace hf := gi_e hf
            obtain ⟨i_93, hf⟩ := hf
            refine va_iast (a := (ad 19)) hx hb hK hP hD hS 5 0 rfl rfl i_93 dX7_findRounds_93 (fun H locs hP hD hS => ?_)
            have hP : va_P D vwCl ((wX7_0_4_5_17_18_19_20_21 cy ad thr sta pri tcd frt frp deg num don_45 nex_45 (upd res_93 (Int32.toNatClampNeg s1_93) s2_93) quo_45 rou_45)) H := hP
            have hD : va_D A ((wX7_0_4_5_17_18_19_20_21 cy ad thr sta pri tcd frt frp deg num don_45 nex_45 (upd res_93 (Int32.toNatClampNeg s1_93) s2_93) quo_45 rou_45)) := hD
            obtain ⟨v_94, e_94⟩ : ∃ y : Int32, y = x4_93 + 1 := ⟨_, rfl⟩
            replace hf := bd_at e_94 hf
            refine lv_iinc (v := v_94) (lv' := [(4, .int v_94), (0, .ref (ad 0)), (1, .int x1), (2, .int x2), (3, .int x3_45)]) hx hb dX7_findRounds_94 hl (k := 4) rfl (by rw [e_94]; rfl) (by decide) rfl (fun ls hl => ?_)
            clear e_94
            refine lv_goto (tgt := 45) hx hb dX7_findRounds_97 (by decide) ?_
            exact ih45 H locs ls v_94 (upd res_93 (Int32.toNatClampNeg s1_93) s2_93) hf hP hD hS (lv_sub hl [1, 2, 3, 4, 0] rfl)
          refine lv_iload hx hb dX7_findRounds_45 (lv_at hl 4 rfl) ?_
          refine lv_bipush (v := 65) hx hb dX7_findRounds_47 (by decide) ?_
          refine lv_icmp_ge (tgt := 100) hx hb dX7_findRounds_49 (by decide) (fun c_49 => ?_) (fun c_49 => ?_)
          · replace hf := it_p c_49 hf
            refine lv_iconst (v := 1) hx hb dX7_findRounds_100 (by decide) ?_
            refine lv_istore (lv' := [(4, .int 1), (0, .ref (ad 0)), (1, .int x1), (2, .int x2), (3, .int x3_45)]) hx hb dX7_findRounds_101 hl (by decide) rfl (fun ls hl => ?_)
            exact L103 x3_45 don_45 nex_45 rou_45 FU H locs ls 1 res_45 quo_45 hf hP hD hS (lv_sub hl [1, 2, 3, 4, 0] rfl)
          · replace hf := it_n c_49 hf
            refine lv_aload_n hx hb dX7_findRounds_52 rfl (lv_at hl 0 rfl) ?_
            refine va_get (a := (ad 0)) (ci := 7) (v := .ref (ad 19)) (C := RX7) (T := TX7) (N := 28) hx hb hts hin_X7 hown hK hP 0 rfl rfl 22 (by decide) hw_1 (fun _ h => h) rfl dX7_findRounds_53 ?_
            refine lv_iload hx hb dX7_findRounds_56 (lv_at hl 4 rfl) ?_
            refine lv_iload hx hb dX7_findRounds_58 (lv_at hl 4 rfl) ?_
            refine lv_iconst (v := 1) hx hb dX7_findRounds_60 (by decide) ?_
            refine lv_icmp_ne (tgt := 86) hx hb dX7_findRounds_61 (by decide) (fun c_61 => ?_) (fun c_61 => ?_)
            · replace hf := it_n c_61 hf
              refine lv_aload_n hx hb dX7_findRounds_86 rfl (lv_at hl 0 rfl) ?_
              refine va_get (a := (ad 0)) (ci := 7) (v := .ref (ad 17)) (C := RX7) (T := TX7) (N := 28) hx hb hts hin_X7 hown hK hP 0 rfl rfl 20 (by decide) hw_2 (fun _ h => h) rfl dX7_findRounds_87 ?_
              refine lv_iload hx hb dX7_findRounds_90 (lv_at hl 4 rfl) ?_
              replace hf := gi_e hf
              obtain ⟨i_92, hf⟩ := hf
              refine va_iald (a := (ad 17)) hx hb hK hP 3 0 rfl rfl i_92 dX7_findRounds_92 ?_
              exact J93 H locs ls x4_45 x4_45 (don_45 (Int32.toNatClampNeg x4_45)) res_45 hf hP hD hS (lv_sub hl [0, 1, 2, 3, 4] rfl)
            · replace hf := it_p c_61 hf
              refine lv_aload_n hx hb dX7_findRounds_64 rfl (lv_at hl 0 rfl) ?_
              refine va_get (a := (ad 0)) (ci := 7) (v := .ref (ad 17)) (C := RX7) (T := TX7) (N := 28) hx hb hts hin_X7 hown hK hP 0 rfl rfl 20 (by decide) hw_2 (fun _ h => h) rfl dX7_findRounds_65 ?_
              refine lv_iload hx hb dX7_findRounds_68 (lv_at hl 4 rfl) ?_
              replace hf := gi_e hf
              obtain ⟨i_70, hf⟩ := hf
              refine va_iald (a := (ad 17)) hx hb hK hP 3 0 rfl rfl i_70 dX7_findRounds_70 ?_
              refine lv_aload_n hx hb dX7_findRounds_71 rfl (lv_at hl 0 rfl) ?_
              refine va_get (a := (ad 0)) (ci := 7) (v := .int pri) (C := RX7) (T := TX7) (N := 28) hx hb hts hin_X7 hown hK hP 0 rfl rfl 2 (by decide) hw_3 (fun _ h => h) rfl dX7_findRounds_72 ?_
              refine lv_iadd hx hb dX7_findRounds_75 ?_
              refine lv_iconst (v := 1) hx hb dX7_findRounds_76 (by decide) ?_
              refine lv_isub hx hb dX7_findRounds_77 ?_
              refine lv_aload_n hx hb dX7_findRounds_78 rfl (lv_at hl 0 rfl) ?_
              refine va_get (a := (ad 0)) (ci := 7) (v := .int pri) (C := RX7) (T := TX7) (N := 28) hx hb hts hin_X7 hown hK hP 0 rfl rfl 2 (by decide) hw_3 (fun _ h => h) rfl dX7_findRounds_79 ?_
              replace hf := gd_e hf
              obtain ⟨z_82, hf⟩ := hf
              refine rw_irem hx hb dX7_findRounds_82 z_82 ?_
              refine lv_goto (tgt := 93) hx hb dX7_findRounds_83 (by decide) ?_
              exact J93 H locs ls x4_45 x4_45 (irm (((don_45 (Int32.toNatClampNeg x4_45)) + pri) - 1) pri) res_45 hf hP hD hS (lv_sub hl [0, 1, 2, 3, 4] rfl)
      refine lv_iload_n hx hb dX7_findRounds_32 rfl (lv_at hl 3 rfl) ?_
      refine lv_iload_n hx hb dX7_findRounds_33 rfl (lv_at hl 2 rfl) ?_
      refine lv_icmp_gt (tgt := 169) hx hb dX7_findRounds_34 (by decide) (fun c_34 => ?_) (fun c_34 => ?_)
      · replace hf := it_p c_34 hf
        obtain rfl := Option.some.inj hf
        rw [← hQe]
        exact W.vret hx hb hr (fun t ht hW => ⟨rfl, by rw [ht]; exact hP, hS.F ht⟩) hS.2.2 dX7_findRounds_169
      · replace hf := it_n c_34 hf
        refine lv_aload_n hx hb dX7_findRounds_37 rfl (lv_at hl 0 rfl) ?_
        refine lv_iload_n hx hb dX7_findRounds_38 rfl (lv_at hl 1 rfl) ?_
        replace hf := ob_e hf
        obtain ⟨u_39, hu_39, hf⟩ := hf
        refine ivW (As := [.int x1]) (rest := []) (st1 := []) (is := [0, 1, 2, 3, 4, 5]) (w1 := (wX7_0_4_5_17_18_19 cy ad thr sta pri tcd frt frp deg num u_39.1 u_39.2.1 u_39.2.2)) ⟨hx, hb, hml, hown, hts⟩ hK hN (KX7_goOn l D cy ad thr sta pri tcd frt frp deg num don_32 nex_32 res_32 x1 H.size hu_39) (cwV 1 hts gX7_findRounds_X7_goOn rfl rfl rfl (by decide +kernel) ⟨Nat.le_of_ble_eq_true rfl, Nat.le_of_ble_eq_true rfl⟩) (va_recv hK hP (ci := 7) (q0 := 0) rfl rfl) hP hD hS hA P_nil (sepW_nil _) (by decide) rfl rfl rfl hl.1 rfl (Nat.le_of_ble_eq_true rfl) rfl dX7_findRounds_39 ⟨Nat.zero_le _, Nat.zero_le _⟩ (fun H locs hP hD hS => ?_)
        have hP : va_P D vwCl ((wX7_0_4_5_17_18_19_20_21 cy ad thr sta pri tcd frt frp deg num u_39.1 u_39.2.1 u_39.2.2 quo_32 rou_32)) H := hP
        have hD : va_D A ((wX7_0_4_5_17_18_19_20_21 cy ad thr sta pri tcd frt frp deg num u_39.1 u_39.2.1 u_39.2.2 quo_32 rou_32)) := hD
        refine lv_iconst (v := 0) hx hb dX7_findRounds_42 (by decide) ?_
        refine lv_istore (lv' := [(4, .int 0), (0, .ref (ad 0)), (1, .int x1), (2, .int x2), (3, .int x3_32)]) hx hb dX7_findRounds_43 hl (by decide) rfl (fun ls hl => ?_)
        exact L45 x3_32 u_39.1 u_39.2.1 quo_32 rou_32 FU H locs ls 0 u_39.2.2 hf hP hD hS (lv_sub hl [1, 2, 3, 4, 0] rfl)
  have L2 : ∀ (nex_2 : Nat → Int32) (res_2 : Nat → Int32) (quo_2 : Nat → Int32) (rou_2 : Nat → Int32) (n2 : Nat) (H : Heap) (locs : List Loc) (ls : Array Slot) (x3_2 : Int32) (don_2 : Nat → Int32), FX7_findRounds_L2 x1 x2 pri deg num nex_2 res_2 quo_2 rou_2 n2 x3_2 don_2 = some out → va_P D vwCl ((wX7_0_4_5_17_18_19_20_21 cy ad thr sta pri tcd frt frp deg num don_2 nex_2 res_2 quo_2 rou_2)) H → va_D A ((wX7_0_4_5_17_18_19_20_21 cy ad thr sta pri tcd frt frp deg num don_2 nex_2 res_2 quo_2 rou_2)) → va_S A s.heap H locs → lv_has ls 5 [(0, .ref (ad 0)), (1, .int x1), (2, .int x2), (3, .int x3_2)] → W p l e RMX7_findRounds s m args below meth c H locs 0 0 QQ (F0 m 2 ls []) := by
    intro nex_2 res_2 quo_2 rou_2 n2
    induction n2 with
    | zero => intro H locs ls x3_2 don_2 hf; simp [FX7_findRounds_L2] at hf
    | succ n2 ih2 =>
      intro H locs ls x3_2 don_2 hf hP hD hS hl
      rw [FX7_findRounds_L2] at hf
      have J23 : ∀ (H : Heap) (locs : List Loc) (ls : Array Slot) (x3_23 : Int32) (s1_23 : Int32) (s2_23 : Bool) (don_23 : Nat → Int32), FX7_findRounds_J23 (FX7_findRounds_L2 x1 x2 pri deg num nex_2 res_2 quo_2 rou_2 n2) x1 x2 x3_23 s1_23 s2_23 pri deg num don_23 nex_2 res_2 quo_2 rou_2 = some out → va_P D vwCl ((wX7_0_4_5_17_18_19_20_21 cy ad thr sta pri tcd frt frp deg num don_23 nex_2 res_2 quo_2 rou_2)) H → va_D A ((wX7_0_4_5_17_18_19_20_21 cy ad thr sta pri tcd frt frp deg num don_23 nex_2 res_2 quo_2 rou_2)) → va_S A s.heap H locs → lv_has ls 5 [(0, .ref (ad 0)), (1, .int x1), (2, .int x2), (3, .int x3_23)] → W p l e RMX7_findRounds s m args below meth c H locs 0 0 QQ (F0 m 23 ls [.int (bi s2_23), .int s1_23, .ref (ad 17)]) := by
        intro H locs ls x3_23 s1_23 s2_23 don_23 hf hP hD hS hl
        unfold FX7_findRounds_J23 at hf
        replace hf := gi_e hf
        obtain ⟨i_23, hf⟩ := hf
        refine va_iast (a := (ad 17)) hx hb hK hP hD hS 3 0 rfl rfl i_23 dX7_findRounds_23 (fun H locs hP hD hS => ?_)
        have hP : va_P D vwCl ((wX7_0_4_5_17_18_19_20_21 cy ad thr sta pri tcd frt frp deg num (upd don_23 (Int32.toNatClampNeg s1_23) (bi s2_23)) nex_2 res_2 quo_2 rou_2)) H := hP
        have hD : va_D A ((wX7_0_4_5_17_18_19_20_21 cy ad thr sta pri tcd frt frp deg num (upd don_23 (Int32.toNatClampNeg s1_23) (bi s2_23)) nex_2 res_2 quo_2 rou_2)) := hD
        obtain ⟨v_24, e_24⟩ : ∃ y : Int32, y = x3_23 + 1 := ⟨_, rfl⟩
        replace hf := bd_at e_24 hf
        refine lv_iinc (v := v_24) (lv' := [(3, .int v_24), (0, .ref (ad 0)), (1, .int x1), (2, .int x2)]) hx hb dX7_findRounds_24 hl (k := 3) rfl (by rw [e_24]; rfl) (by decide) rfl (fun ls hl => ?_)
        clear e_24
        refine lv_goto (tgt := 2) hx hb dX7_findRounds_27 (by decide) ?_
        exact ih2 H locs ls v_24 (upd don_23 (Int32.toNatClampNeg s1_23) (bi s2_23)) hf hP hD hS (lv_sub hl [1, 2, 3, 0] rfl)
      refine lv_iload_n hx hb dX7_findRounds_2 rfl (lv_at hl 3 rfl) ?_
      refine lv_bipush (v := 65) hx hb dX7_findRounds_3 (by decide) ?_
      refine lv_icmp_ge (tgt := 30) hx hb dX7_findRounds_5 (by decide) (fun c_5 => ?_) (fun c_5 => ?_)
      · replace hf := it_p c_5 hf
        refine lv_iconst (v := 1) hx hb dX7_findRounds_30 (by decide) ?_
        refine lv_istore_n (lv' := [(3, .int 1), (0, .ref (ad 0)), (1, .int x1), (2, .int x2)]) hx hb dX7_findRounds_31 rfl hl (by decide) rfl (fun ls hl => ?_)
        exact L32 FU H locs ls 1 don_2 nex_2 res_2 quo_2 rou_2 hf hP hD hS (lv_sub hl [1, 2, 3, 0] rfl)
      · replace hf := it_n c_5 hf
        refine lv_aload_n hx hb dX7_findRounds_8 rfl (lv_at hl 0 rfl) ?_
        refine va_get (a := (ad 0)) (ci := 7) (v := .ref (ad 17)) (C := RX7) (T := TX7) (N := 28) hx hb hts hin_X7 hown hK hP 0 rfl rfl 20 (by decide) hw_2 (fun _ h => h) rfl dX7_findRounds_9 ?_
        refine lv_iload_n hx hb dX7_findRounds_12 rfl (lv_at hl 3 rfl) ?_
        refine lv_iload_n hx hb dX7_findRounds_13 rfl (lv_at hl 3 rfl) ?_
        refine lv_iconst (v := 1) hx hb dX7_findRounds_14 (by decide) ?_
        refine lv_icmp_ne (tgt := 22) hx hb dX7_findRounds_15 (by decide) (fun c_15 => ?_) (fun c_15 => ?_)
        · replace hf := it_n c_15 hf
          refine lv_iconst (v := 0) hx hb dX7_findRounds_22 (by decide) ?_
          exact J23 H locs ls x3_2 x3_2 false don_2 hf hP hD hS (lv_sub hl [0, 1, 2, 3] rfl)
        · replace hf := it_p c_15 hf
          refine lv_iconst (v := 1) hx hb dX7_findRounds_18 (by decide) ?_
          refine lv_goto (tgt := 23) hx hb dX7_findRounds_19 (by decide) ?_
          exact J23 H locs ls x3_2 x3_2 true don_2 hf hP hD hS (lv_sub hl [0, 1, 2, 3] rfl)
  unfold FX7_findRounds at hf
  refine lv_iconst (v := 0) hx hb dX7_findRounds_0 (by decide) ?_
  refine lv_istore_n (lv' := [(3, .int 0), (0, .ref (ad 0)), (1, .int x1), (2, .int x2)]) hx hb dX7_findRounds_1 rfl hl (by decide) rfl (fun ls hl => ?_)
  exact L2 nex res quo rou FU H locs ls 0 don hf hP hD hS (lv_sub hl [1, 2, 3, 0] rfl)
def FX7_round_J102  (k75 : Int32 → Int32 → Option (Int32 × (Int32) × (Int32) × (Nat → Int32) × (Nat → Int32) × (Nat → Int32) × (Nat → Int32) × (Nat → Int32))) (x1 : Int32) (x2 : Int32) (x3 : Int32) (x4_75 : Int32) (x7_102 : Int32) (s0_102 : Int32) (thr_75 : Int32) (sta_75 : Int32) (pri : Int32) (deg : Nat → Int32) (num : Nat → Int32) (don_75 : Nat → Int32) (nex_75 : Nat → Int32) (res_75 : Nat → Int32) (quo_75 : Nat → Int32) (rou_75 : Nat → Int32) : Option (Int32 × (Int32) × (Int32) × (Nat → Int32) × (Nat → Int32) × (Nat → Int32) × (Nat → Int32) × (Nat → Int32)) := (bd (x7_102 + 1) (fun v_104 => k75 s0_102 v_104))
def FX7_round_L75   (x1 : Int32) (x2 : Int32) (x3 : Int32) (x4_75 : Int32) (thr_75 : Int32) (sta_75 : Int32) (pri : Int32) (deg : Nat → Int32) (num : Nat → Int32) (don_75 : Nat → Int32) (nex_75 : Nat → Int32) (res_75 : Nat → Int32) (quo_75 : Nat → Int32) (rou_75 : Nat → Int32) : Nat → Int32 → Int32 → Option (Int32 × (Int32) × (Int32) × (Nat → Int32) × (Nat → Int32) × (Nat → Int32) × (Nat → Int32) × (Nat → Int32))
  | 0, _, _ => none
  | fuel + 1, x6_75, x7_75 => (if x2 ≤ x7_75 then (if x6_75 ≤ 64 then (ob (FX7_findRounds pri deg num don_75 nex_75 res_75 quo_75 rou_75 x1 x2) (fun u_129 => if 0 ≤ x3 then (if x3 ≤ 64 then (gi ((65 * x2) + x3) 455 ((some ((u_129.2.2.2.2 (Int32.toNatClampNeg ((65 * x2) + x3))), thr_75, sta_75, u_129.1, u_129.2.1, u_129.2.2.1, u_129.2.2.2.1, u_129.2.2.2.2)))) else ((some (0, thr_75, sta_75, u_129.1, u_129.2.1, u_129.2.2.1, u_129.2.2.2.1, u_129.2.2.2.2)))) else (ob (FX7_degreeOf u_129.2.2.2.2 x2) (fun u_138 => (some (u_138, thr_75, sta_75, u_129.1, u_129.2.1, u_129.2.2.1, u_129.2.2.2.1, u_129.2.2.2.2)))))) else (some ((-1000003), thr_75, x4_75, don_75, nex_75, res_75, quo_75, rou_75))) else (if x6_75 ≤ 64 then (gi x1 10 (FX7_round_J102 (FX7_round_L75 x1 x2 x3 x4_75 thr_75 sta_75 pri deg num don_75 nex_75 res_75 quo_75 rou_75 fuel) x1 x2 x3 x4_75 x7_75 (x6_75 * (deg (Int32.toNatClampNeg x1))) thr_75 sta_75 pri deg num don_75 nex_75 res_75 quo_75 rou_75)) else (FX7_round_J102 (FX7_round_L75 x1 x2 x3 x4_75 thr_75 sta_75 pri deg num don_75 nex_75 res_75 quo_75 rou_75 fuel) x1 x2 x3 x4_75 x7_75 x6_75 thr_75 sta_75 pri deg num don_75 nex_75 res_75 quo_75 rou_75)))
def FX7_round  (sta : Int32) (pri : Int32) (deg : Nat → Int32) (num : Nat → Int32) (don : Nat → Int32) (nex : Nat → Int32) (res : Nat → Int32) (quo : Nat → Int32) (rou : Nat → Int32) (x1 : Int32) (x2 : Int32) (x3 : Int32) : Option (Int32 × (Int32) × (Int32) × (Nat → Int32) × (Nat → Int32) × (Nat → Int32) × (Nat → Int32) × (Nat → Int32)) := (ob (FX7_isPlace x1) (fun u_6 => if (bi u_6) = 0 then (some ((-1000001), 0, sta, don, nex, res, quo, rou)) else (ob (FX7_in (Int32.toInt64 x2) 1 6) (fun u_18 => if (bi u_18) = 0 then (some ((-1000001), 0, sta, don, nex, res, quo, rou)) else (if (-1) ≤ x3 then (ob (FX7_look deg x1) (fun u_40 => bd u_40.1 (fun v_43 => if 0 ≤ v_43 then (gi x1 10 (if 2 ≤ (deg (Int32.toNatClampNeg x1)) then (FX7_round_L75 x1 x2 x3 sta 0 u_40.2 pri deg num don nex res quo rou FU 1 0) else (ob (FX7_found 3) (fun u_65 => some (u_65.1, 0, u_65.2, don, nex, res, quo, rou))))) else (some (v_43, 0, u_40.2, don, nex, res, quo, rou))))) else (some ((-1000001), 0, sta, don, nex, res, quo, rou)))))))
abbrev RMX7_round : Room := { frames := 3, cells := 0, slots := 0, locals := 73 }
set_option maxHeartbeats 4000000 in
set_option maxRecDepth 100000 in
theorem KX7_round (l : Launch) (D : va_G) (cy : Nat → ClassId) (ad : Nat → Nat) (thr : Int32) (sta : Int32) (pri : Int32) (tcd : Int32) (frt : Int32) (frp : Int32) (deg : Nat → Int32) (num : Nat → Int32) (don : Nat → Int32) (nex : Nat → Int32) (res : Nat → Int32) (quo : Nat → Int32) (rou : Nat → Int32) (x1 : Int32) (x2 : Int32) (x3 : Int32) (sz : Nat) {out : Int32 × (Int32) × (Int32) × (Nat → Int32) × (Nat → Int32) × (Nat → Int32) × (Nat → Int32) × (Nat → Int32)} (hf : FX7_round sta pri deg num don nex res quo rou x1 x2 x3 = some out) : Met l yX7_round wsX7_round RMX7_round (PW D cy [.ref (ad 0), .int x1, .int x2, .int x3] sz ((wX7_0_4_5_17_18_19_20_21 cy ad thr sta pri tcd frt frp deg num don nex res quo rou)) []) (QW D (some (.int out.1)) ((wX7_0_4_5_17_18_19_20_21 cy ad out.2.1 out.2.2.1 pri tcd frt frp deg num out.2.2.2.1 out.2.2.2.2.1 out.2.2.2.2.2.1 out.2.2.2.2.2.2.1 out.2.2.2.2.2.2.2)) (va_A ((wX7_0_4_5_17_18_19_20_21 cy ad thr sta pri tcd frt frp deg num don nex res quo rou)) sz)) 0 0 (va_A ((wX7_0_4_5_17_18_19_20_21 cy ad thr sta pri tcd frt frp deg num don nex res quo rou)) sz) := by
  refine Met.ofW (cc := cX7_round) (maxL := 8) (ret := (some .int)) (by decide +kernel) rfl ?_
  intro p e s m args below meth c s₁ B hml hv
  obtain ⟨hav, hsz, hP, hR0, hK, hN, hD0, hsep⟩ := hv
  have hx := B.exec
  have hb := B.bytes
  have hr := B.returns
  have hts := atoms_spec (ws := wsX7_round) B.pre
  have hown : s.vm.findClass RX7 = some m.cls := findClass_of_methodNamed B.named
  have hlocks := B.notSynchronized
  subst hsz
  have hin_X7 : ∀ w ∈ u_ws RX7 TX7 28, w ∈ wsX7_round := by decide +kernel
  have hw_0 := hts (.constant RX7 108 (-1000001)) (by decide +kernel)
  have hw_1 := hts (.constantLong RX7 197 (6)) (by decide +kernel)
  have hw_2 := hts (.constant RX7 139 (-1000003)) (by decide +kernel)
  have hw_3 := hts (.fieldLink RX7 80 "ReturnPointsModel" "rounds" "[I") (by decide +kernel)
  have hw_4 := hts (.fieldLink RX7 7 "ReturnPointsModel" "status" "I") (by decide +kernel)
  have hw_5 := hts (.fieldLink RX7 28 "ReturnPointsModel" "degree" "[I") (by decide +kernel)
  have hw_6 := hts (.fieldLink RX7 1 "ReturnPointsModel" "thrown" "I") (by decide +kernel)
  have hD := hD0.self (sz := s.heap.size)
  have hnA := roA hsep hR0
  generalize hAe : va_A ((wX7_0_4_5_17_18_19_20_21 cy ad thr sta pri tcd frt frp deg num don nex res quo rou)) s.heap.size = A at hD hnA ⊢
  have hA : ∀ q : Nat, s.heap.size ≤ q → A q := fun q h => by rw [← hAe]; exact Or.inr h
  have hS : va_S A s.heap s.heap [] := va_S.rf
  obtain ⟨ls, hfr, hl⟩ := ent_ok (m := m) (n := 8) (l' := [(0, .ref (ad 0)), (1, .int x1), (2, .int x2), (3, .int x3)]) [.ref (ad 0), .int x1, .int x2, .int x3] hav (Nat.le_of_ble_eq_true rfl) rfl
  rw [hfr]
  generalize hQe : MQ below (QW D (some (.int out.1)) ((wX7_0_4_5_17_18_19_20_21 cy ad out.2.1 out.2.2.1 pri tcd frt frp deg num out.2.2.2.1 out.2.2.2.2.1 out.2.2.2.2.2.1 out.2.2.2.2.2.2.1 out.2.2.2.2.2.2.2)) A) args s 0 0 A = QQ
  change W p l e RMX7_round s m args below meth c s.heap [] 0 0 QQ (F0 m 0 ls [])
  have hP : va_P D vwCl ((wX7_0_4_5_17_18_19_20_21 cy ad thr sta pri tcd frt frp deg num don nex res quo rou)) s.heap := hP
  have hD : va_D A ((wX7_0_4_5_17_18_19_20_21 cy ad thr sta pri tcd frt frp deg num don nex res quo rou)) := hD
  suffices h00 : ∀ (H : Heap) (locs : List Loc), va_P D vwCl ((wX7_0_4_5_17_18_19_20_21 cy ad thr sta pri tcd frt frp deg num don nex res quo rou)) H → va_S A s.heap H locs → W p l e RMX7_round s m args below meth c H locs 0 0 QQ (F0 m 0 ls []) from h00 _ _ hP hS
  clear hP hS
  intro H locs hP hS
  have L75 : ∀ (x4_75 : Int32) (thr_75 : Int32) (sta_75 : Int32) (don_75 : Nat → Int32) (nex_75 : Nat → Int32) (res_75 : Nat → Int32) (quo_75 : Nat → Int32) (rou_75 : Nat → Int32) (n75 : Nat) (H : Heap) (locs : List Loc) (ls : Array Slot) (x6_75 : Int32) (x7_75 : Int32), FX7_round_L75 x1 x2 x3 x4_75 thr_75 sta_75 pri deg num don_75 nex_75 res_75 quo_75 rou_75 n75 x6_75 x7_75 = some out → va_P D vwCl ((wX7_0_4_5_17_18_19_20_21 cy ad thr_75 sta_75 pri tcd frt frp deg num don_75 nex_75 res_75 quo_75 rou_75)) H → va_D A ((wX7_0_4_5_17_18_19_20_21 cy ad thr_75 sta_75 pri tcd frt frp deg num don_75 nex_75 res_75 quo_75 rou_75)) → va_S A s.heap H locs → lv_has ls 8 [(0, .ref (ad 0)), (1, .int x1), (2, .int x2), (3, .int x3), (4, .int x4_75), (6, .int x6_75), (7, .int x7_75)] → W p l e RMX7_round s m args below meth c H locs 0 0 QQ (F0 m 75 ls []) := by
    intro x4_75 thr_75 sta_75 don_75 nex_75 res_75 quo_75 rou_75 n75
    induction n75 with
    | zero => intro H locs ls x6_75 x7_75 hf; simp [FX7_round_L75] at hf
    | succ n75 ih75 =>
      intro H locs ls x6_75 x7_75 hf hP hD hS hl
      rw [FX7_round_L75] at hf
      have J102 : ∀ (H : Heap) (locs : List Loc) (ls : Array Slot) (x7_102 : Int32) (s0_102 : Int32), FX7_round_J102 (FX7_round_L75 x1 x2 x3 x4_75 thr_75 sta_75 pri deg num don_75 nex_75 res_75 quo_75 rou_75 n75) x1 x2 x3 x4_75 x7_102 s0_102 thr_75 sta_75 pri deg num don_75 nex_75 res_75 quo_75 rou_75 = some out → va_P D vwCl ((wX7_0_4_5_17_18_19_20_21 cy ad thr_75 sta_75 pri tcd frt frp deg num don_75 nex_75 res_75 quo_75 rou_75)) H → va_D A ((wX7_0_4_5_17_18_19_20_21 cy ad thr_75 sta_75 pri tcd frt frp deg num don_75 nex_75 res_75 quo_75 rou_75)) → va_S A s.heap H locs → lv_has ls 8 [(0, .ref (ad 0)), (1, .int x1), (2, .int x2), (3, .int x3), (4, .int x4_75), (7, .int x7_102)] → W p l e RMX7_round s m args below meth c H locs 0 0 QQ (F0 m 102 ls [.int s0_102]) := by
        intro H locs ls x7_102 s0_102 hf hP hD hS hl
        unfold FX7_round_J102 at hf
        refine lv_istore (lv' := [(6, .int s0_102), (0, .ref (ad 0)), (1, .int x1), (2, .int x2), (3, .int x3), (4, .int x4_75), (7, .int x7_102)]) hx hb dX7_round_102 hl (by decide) rfl (fun ls hl => ?_)
        obtain ⟨v_104, e_104⟩ : ∃ y : Int32, y = x7_102 + 1 := ⟨_, rfl⟩
        replace hf := bd_at e_104 hf
        refine lv_iinc (v := v_104) (lv' := [(7, .int v_104), (6, .int s0_102), (0, .ref (ad 0)), (1, .int x1), (2, .int x2), (3, .int x3), (4, .int x4_75)]) hx hb dX7_round_104 hl (k := 6) rfl (by rw [e_104]; rfl) (by decide) rfl (fun ls hl => ?_)
        clear e_104
        refine lv_goto (tgt := 75) hx hb dX7_round_107 (by decide) ?_
        exact ih75 H locs ls s0_102 v_104 hf hP hD hS (lv_sub hl [2, 3, 4, 5, 6, 1, 0] rfl)
      refine lv_iload hx hb dX7_round_75 (lv_at hl 6 rfl) ?_
      refine lv_iload_n hx hb dX7_round_77 rfl (lv_at hl 2 rfl) ?_
      refine lv_icmp_ge (tgt := 110) hx hb dX7_round_78 (by decide) (fun c_78 => ?_) (fun c_78 => ?_)
      · replace hf := it_p c_78 hf
        refine lv_iload hx hb dX7_round_110 (lv_at hl 5 rfl) ?_
        refine lv_bipush (v := 64) hx hb dX7_round_112 (by decide) ?_
        refine lv_icmp_le (tgt := 126) hx hb dX7_round_114 (by decide) (fun c_114 => ?_) (fun c_114 => ?_)
        · replace hf := it_p c_114 hf
          refine lv_aload_n hx hb dX7_round_126 rfl (lv_at hl 0 rfl) ?_
          refine lv_iload_n hx hb dX7_round_127 rfl (lv_at hl 1 rfl) ?_
          refine lv_iload_n hx hb dX7_round_128 rfl (lv_at hl 2 rfl) ?_
          replace hf := ob_e hf
          obtain ⟨u_129, hu_129, hf⟩ := hf
          refine ivW (As := [.int x1, .int x2]) (rest := []) (st1 := []) (is := [0, 1, 2, 3, 4, 5, 6, 7]) (w1 := (wX7_0_4_5_17_18_19_20_21 cy ad thr_75 sta_75 pri tcd frt frp deg num u_129.1 u_129.2.1 u_129.2.2.1 u_129.2.2.2.1 u_129.2.2.2.2)) ⟨hx, hb, hml, hown, hts⟩ hK hN (KX7_findRounds l D cy ad thr_75 sta_75 pri tcd frt frp deg num don_75 nex_75 res_75 quo_75 rou_75 x1 x2 H.size hu_129) (cwV 2 hts gX7_round_X7_findRounds rfl rfl rfl (by decide +kernel) ⟨Nat.le_of_ble_eq_true rfl, Nat.le_of_ble_eq_true rfl⟩) (va_recv hK hP (ci := 7) (q0 := 0) rfl rfl) hP hD hS hA P_nil (sepW_nil _) (by decide) rfl rfl rfl hl.1 rfl (Nat.le_of_ble_eq_true rfl) rfl dX7_round_129 ⟨Nat.zero_le _, Nat.zero_le _⟩ (fun H locs hP hD hS => ?_)
          have hP : va_P D vwCl ((wX7_0_4_5_17_18_19_20_21 cy ad thr_75 sta_75 pri tcd frt frp deg num u_129.1 u_129.2.1 u_129.2.2.1 u_129.2.2.2.1 u_129.2.2.2.2)) H := hP
          have hD : va_D A ((wX7_0_4_5_17_18_19_20_21 cy ad thr_75 sta_75 pri tcd frt frp deg num u_129.1 u_129.2.1 u_129.2.2.1 u_129.2.2.2.1 u_129.2.2.2.2)) := hD
          refine lv_iload_n hx hb dX7_round_132 rfl (lv_at hl 3 rfl) ?_
          refine lv_if_ge (tgt := 144) hx hb dX7_round_133 (by decide) (fun c_133 => ?_) (fun c_133 => ?_)
          · replace hf := it_p c_133 hf
            refine lv_iload_n hx hb dX7_round_144 rfl (lv_at hl 3 rfl) ?_
            refine lv_bipush (v := 64) hx hb dX7_round_145 (by decide) ?_
            refine lv_icmp_le (tgt := 154) hx hb dX7_round_147 (by decide) (fun c_147 => ?_) (fun c_147 => ?_)
            · replace hf := it_p c_147 hf
              refine lv_aload_n hx hb dX7_round_154 rfl (lv_at hl 0 rfl) ?_
              refine va_get (a := (ad 0)) (ci := 7) (v := .ref (ad 21)) (C := RX7) (T := TX7) (N := 28) hx hb hts hin_X7 hown hK hP 0 rfl rfl 24 (by decide) hw_3 (fun _ h => h) rfl dX7_round_155 ?_
              refine lv_bipush (v := 65) hx hb dX7_round_158 (by decide) ?_
              refine lv_iload_n hx hb dX7_round_160 rfl (lv_at hl 2 rfl) ?_
              refine lv_imul hx hb dX7_round_161 ?_
              refine lv_iload_n hx hb dX7_round_162 rfl (lv_at hl 3 rfl) ?_
              refine lv_iadd hx hb dX7_round_163 ?_
              replace hf := gi_e hf
              obtain ⟨i_164, hf⟩ := hf
              refine va_iald (a := (ad 21)) hx hb hK hP 7 0 rfl rfl i_164 dX7_round_164 ?_
              obtain rfl := Option.some.inj hf
              rw [← hQe]
              exact W.iret (v := (u_129.2.2.2.2 (Int32.toNatClampNeg ((65 * x2) + x3)))) hx hb hr (fun t ht hW => ⟨rfl, by rw [ht]; exact hP, hS.F ht⟩) hS.2.2 dX7_round_165
            · replace hf := it_n c_147 hf
              refine lv_iconst (v := 0) hx hb dX7_round_150 (by decide) ?_
              refine lv_goto (tgt := 165) hx hb dX7_round_151 (by decide) ?_
              obtain rfl := Option.some.inj hf
              rw [← hQe]
              exact W.iret (v := 0) hx hb hr (fun t ht hW => ⟨rfl, by rw [ht]; exact hP, hS.F ht⟩) hS.2.2 dX7_round_165
          · replace hf := it_n c_133 hf
            refine lv_aload_n hx hb dX7_round_136 rfl (lv_at hl 0 rfl) ?_
            refine lv_iload_n hx hb dX7_round_137 rfl (lv_at hl 2 rfl) ?_
            replace hf := ob_e hf
            obtain ⟨u_138, hu_138, hf⟩ := hf
            refine ivR (As := [.int x2]) (rest := []) (st1 := [.int u_138]) ⟨hx, hb, hml, hown, hts⟩ hK hN (KX7_degreeOf l D cy ad thr_75 sta_75 pri tcd frt frp u_129.2.2.2.2 x2 H.size hu_138) (cwV 1 hts gX7_round_X7_degreeOf rfl rfl rfl (by decide +kernel) ⟨Nat.le_of_ble_eq_true rfl, Nat.le_of_ble_eq_true rfl⟩) (va_recv hK hP (ci := 7) (q0 := 0) rfl rfl) (P_pl (wc := (wX7_0_21 cy ad thr_75 sta_75 pri tcd frt frp u_129.2.2.2.2)) (is := [0, 7]) hP rfl) rfl hl.1 rfl (Nat.le_of_ble_eq_true rfl) rfl dX7_round_138 ⟨Nat.zero_le _, Nat.zero_le _⟩ ?_
            refine lv_goto (tgt := 165) hx hb dX7_round_141 (by decide) ?_
            obtain rfl := Option.some.inj hf
            rw [← hQe]
            exact W.iret (v := u_138) hx hb hr (fun t ht hW => ⟨rfl, by rw [ht]; exact hP, hS.F ht⟩) hS.2.2 dX7_round_165
        · replace hf := it_n c_114 hf
          refine lv_aload_n hx hb dX7_round_117 rfl (lv_at hl 0 rfl) ?_
          refine lv_iload hx hb dX7_round_118 (lv_at hl 4 rfl) ?_
          refine va_put (a := (ad 0)) (ci := 7) (v := .int x4_75) (ty := .int) (C := RX7) (T := TX7) (N := 28) hx hb hts hin_X7 tyX7 tyX7_ok nmX7 hown hK hP hD hS 0 rfl rfl 1 (by decide) hw_4 (fun _ h => h) rfl (by decide +kernel) rfl rfl (Nat.le_of_ble_eq_true rfl) dX7_round_120 (fun H locs hP hD hS => ?_)
          have hP : va_P D vwCl ((wX7_0_4_5_17_18_19_20_21 cy ad thr_75 x4_75 pri tcd frt frp deg num don_75 nex_75 res_75 quo_75 rou_75)) H := hP
          have hD : va_D A ((wX7_0_4_5_17_18_19_20_21 cy ad thr_75 x4_75 pri tcd frt frp deg num don_75 nex_75 res_75 quo_75 rou_75)) := hD
          refine lv_ldc (own := RX7) (v := (-1000003)) hx hb hown hw_2 dX7_round_123 ?_
          obtain rfl := Option.some.inj hf
          rw [← hQe]
          exact W.iret (v := (-1000003)) hx hb hr (fun t ht hW => ⟨rfl, by rw [ht]; exact hP, hS.F ht⟩) hS.2.2 dX7_round_125
      · replace hf := it_n c_78 hf
        refine lv_iload hx hb dX7_round_81 (lv_at hl 5 rfl) ?_
        refine lv_bipush (v := 64) hx hb dX7_round_83 (by decide) ?_
        refine lv_icmp_le (tgt := 93) hx hb dX7_round_85 (by decide) (fun c_85 => ?_) (fun c_85 => ?_)
        · replace hf := it_p c_85 hf
          refine lv_iload hx hb dX7_round_93 (lv_at hl 5 rfl) ?_
          refine lv_aload_n hx hb dX7_round_95 rfl (lv_at hl 0 rfl) ?_
          refine va_get (a := (ad 0)) (ci := 7) (v := .ref (ad 4)) (C := RX7) (T := TX7) (N := 28) hx hb hts hin_X7 hown hK hP 0 rfl rfl 6 (by decide) hw_5 (fun _ h => h) rfl dX7_round_96 ?_
          refine lv_iload_n hx hb dX7_round_99 rfl (lv_at hl 1 rfl) ?_
          replace hf := gi_e hf
          obtain ⟨i_100, hf⟩ := hf
          refine va_iald (a := (ad 4)) hx hb hK hP 1 0 rfl rfl i_100 dX7_round_100 ?_
          refine lv_imul hx hb dX7_round_101 ?_
          exact J102 H locs ls x7_75 (x6_75 * (deg (Int32.toNatClampNeg x1))) hf hP hD hS (lv_sub hl [0, 1, 2, 3, 4, 6] rfl)
        · replace hf := it_n c_85 hf
          refine lv_iload hx hb dX7_round_88 (lv_at hl 5 rfl) ?_
          refine lv_goto (tgt := 102) hx hb dX7_round_90 (by decide) ?_
          exact J102 H locs ls x7_75 x6_75 hf hP hD hS (lv_sub hl [0, 1, 2, 3, 4, 6] rfl)
  unfold FX7_round at hf
  refine lv_aload_n hx hb dX7_round_0 rfl (lv_at hl 0 rfl) ?_
  refine lv_iconst (v := 0) hx hb dX7_round_1 (by decide) ?_
  refine va_put (a := (ad 0)) (ci := 7) (v := .int 0) (ty := .int) (C := RX7) (T := TX7) (N := 28) hx hb hts hin_X7 tyX7 tyX7_ok nmX7 hown hK hP hD hS 0 rfl rfl 0 (by decide) hw_6 (fun _ h => h) rfl (by decide +kernel) rfl rfl (Nat.le_of_ble_eq_true rfl) dX7_round_2 (fun H locs hP hD hS => ?_)
  have hP : va_P D vwCl ((wX7_0_4_5_17_18_19_20_21 cy ad 0 sta pri tcd frt frp deg num don nex res quo rou)) H := hP
  have hD : va_D A ((wX7_0_4_5_17_18_19_20_21 cy ad 0 sta pri tcd frt frp deg num don nex res quo rou)) := hD
  refine lv_iload_n hx hb dX7_round_5 rfl (lv_at hl 1 rfl) ?_
  replace hf := ob_e hf
  obtain ⟨u_6, hu_6, hf⟩ := hf
  refine isR (As := [.int x1]) (rest := []) (st1 := [.int (bi u_6)]) ⟨hx, hb, hml, hown, hts⟩ hK hN (KX7_isPlace l D cy x1 H.size hu_6) (va_cwS 1 hts gX7_round_X7_isPlace rfl rfl rfl (by decide +kernel) ⟨Nat.le_of_ble_eq_true rfl, Nat.le_of_ble_eq_true rfl⟩) P_nil rfl hl.1 rfl (Nat.le_of_ble_eq_true rfl) rfl dX7_round_6 ⟨Nat.zero_le _, Nat.zero_le _⟩ ?_
  refine lv_if_eq (tgt := 29) hx hb dX7_round_9 (by decide) (fun c_9 => ?_) (fun c_9 => ?_)
  · replace hf := it_p c_9 hf
    refine lv_ldc (own := RX7) (v := (-1000001)) hx hb hown hw_0 dX7_round_29 ?_
    obtain rfl := Option.some.inj hf
    rw [← hQe]
    exact W.iret (v := (-1000001)) hx hb hr (fun t ht hW => ⟨rfl, by rw [ht]; exact hP, hS.F ht⟩) hS.2.2 dX7_round_31
  · replace hf := it_n c_9 hf
    refine lv_iload_n hx hb dX7_round_12 rfl (lv_at hl 2 rfl) ?_
    refine lv_i2l hx hb dX7_round_13 rfl ?_
    refine lv_lconst (v := 1) hx hb dX7_round_14 (by decide) ?_
    refine lv_ldc2 (own := RX7) (v := 6) hx hb hown hw_1 dX7_round_15 ?_
    replace hf := ob_e hf
    obtain ⟨u_18, hu_18, hf⟩ := hf
    refine isR (As := [.long (Int32.toInt64 x2), .long 1, .long 6]) (rest := []) (st1 := [.int (bi u_18)]) ⟨hx, hb, hml, hown, hts⟩ hK hN (KX7_in l D cy (Int32.toInt64 x2) 1 6 H.size hu_18) (va_cwS 3 hts gX7_round_X7_in rfl rfl rfl (by decide +kernel) ⟨Nat.le_of_ble_eq_true rfl, Nat.le_of_ble_eq_true rfl⟩) P_nil rfl hl.1 rfl (Nat.le_of_ble_eq_true rfl) rfl dX7_round_18 ⟨Nat.zero_le _, Nat.zero_le _⟩ ?_
    refine lv_if_eq (tgt := 29) hx hb dX7_round_21 (by decide) (fun c_21 => ?_) (fun c_21 => ?_)
    · replace hf := it_p c_21 hf
      refine lv_ldc (own := RX7) (v := (-1000001)) hx hb hown hw_0 dX7_round_29 ?_
      obtain rfl := Option.some.inj hf
      rw [← hQe]
      exact W.iret (v := (-1000001)) hx hb hr (fun t ht hW => ⟨rfl, by rw [ht]; exact hP, hS.F ht⟩) hS.2.2 dX7_round_31
    · replace hf := it_n c_21 hf
      refine lv_iload_n hx hb dX7_round_24 rfl (lv_at hl 3 rfl) ?_
      refine lv_iconst (v := (-1)) hx hb dX7_round_25 (by decide) ?_
      refine lv_icmp_ge (tgt := 32) hx hb dX7_round_26 (by decide) (fun c_26 => ?_) (fun c_26 => ?_)
      · replace hf := it_p c_26 hf
        refine lv_aload_n hx hb dX7_round_32 rfl (lv_at hl 0 rfl) ?_
        refine va_get (a := (ad 0)) (ci := 7) (v := .int sta) (C := RX7) (T := TX7) (N := 28) hx hb hts hin_X7 hown hK hP 0 rfl rfl 1 (by decide) hw_4 (fun _ h => h) rfl dX7_round_33 ?_
        refine lv_istore (lv' := [(4, .int sta), (0, .ref (ad 0)), (1, .int x1), (2, .int x2), (3, .int x3)]) hx hb dX7_round_36 hl (by decide) rfl (fun ls hl => ?_)
        refine lv_aload_n hx hb dX7_round_38 rfl (lv_at hl 1 rfl) ?_
        refine lv_iload_n hx hb dX7_round_39 rfl (lv_at hl 2 rfl) ?_
        replace hf := ob_e hf
        obtain ⟨u_40, hu_40, hf⟩ := hf
        refine ivW (As := [.int x1]) (rest := []) (st1 := [.int u_40.1]) (is := [0, 1]) (w1 := (wX7_0_4 cy ad 0 u_40.2 pri tcd frt frp deg)) ⟨hx, hb, hml, hown, hts⟩ hK hN (KX7_look l D cy ad 0 sta pri tcd frt frp deg x1 H.size hu_40) (cwV 1 hts gX7_round_X7_look rfl rfl rfl (by decide +kernel) ⟨Nat.le_of_ble_eq_true rfl, Nat.le_of_ble_eq_true rfl⟩) (va_recv hK hP (ci := 7) (q0 := 0) rfl rfl) hP hD hS hA P_nil (sepW_nil _) (by decide) rfl rfl rfl hl.1 rfl (Nat.le_of_ble_eq_true rfl) rfl dX7_round_40 ⟨Nat.zero_le _, Nat.zero_le _⟩ (fun H locs hP hD hS => ?_)
        have hP : va_P D vwCl ((wX7_0_4_5_17_18_19_20_21 cy ad 0 u_40.2 pri tcd frt frp deg num don nex res quo rou)) H := hP
        have hD : va_D A ((wX7_0_4_5_17_18_19_20_21 cy ad 0 u_40.2 pri tcd frt frp deg num don nex res quo rou)) := hD
        refine lv_topi (fun v_43 e_43 => ?_)
        replace hf := bd_at e_43 hf
        clear e_43
        refine lv_istore (lv' := [(5, .int v_43), (4, .int sta), (0, .ref (ad 0)), (1, .int x1), (2, .int x2), (3, .int x3)]) hx hb dX7_round_43 hl (by decide) rfl (fun ls hl => ?_)
        refine lv_iload hx hb dX7_round_45 (lv_at hl 0 rfl) ?_
        refine lv_if_ge (tgt := 53) hx hb dX7_round_47 (by decide) (fun c_47 => ?_) (fun c_47 => ?_)
        · replace hf := it_p c_47 hf
          refine lv_aload_n hx hb dX7_round_53 rfl (lv_at hl 2 rfl) ?_
          refine va_get (a := (ad 0)) (ci := 7) (v := .ref (ad 4)) (C := RX7) (T := TX7) (N := 28) hx hb hts hin_X7 hown hK hP 0 rfl rfl 6 (by decide) hw_5 (fun _ h => h) rfl dX7_round_54 ?_
          refine lv_iload_n hx hb dX7_round_57 rfl (lv_at hl 3 rfl) ?_
          replace hf := gi_e hf
          obtain ⟨i_58, hf⟩ := hf
          refine va_iald (a := (ad 4)) hx hb hK hP 1 0 rfl rfl i_58 dX7_round_58 ?_
          refine lv_iconst (v := 2) hx hb dX7_round_59 (by decide) ?_
          refine lv_icmp_ge (tgt := 69) hx hb dX7_round_60 (by decide) (fun c_60 => ?_) (fun c_60 => ?_)
          · replace hf := it_p c_60 hf
            refine lv_iconst (v := 1) hx hb dX7_round_69 (by decide) ?_
            refine lv_istore (lv' := [(6, .int 1), (5, .int v_43), (4, .int sta), (0, .ref (ad 0)), (1, .int x1), (2, .int x2), (3, .int x3)]) hx hb dX7_round_70 hl (by decide) rfl (fun ls hl => ?_)
            refine lv_iconst (v := 0) hx hb dX7_round_72 (by decide) ?_
            refine lv_istore (lv' := [(7, .int 0), (6, .int 1), (5, .int v_43), (4, .int sta), (0, .ref (ad 0)), (1, .int x1), (2, .int x2), (3, .int x3)]) hx hb dX7_round_73 hl (by decide) rfl (fun ls hl => ?_)
            exact L75 sta 0 u_40.2 don nex res quo rou FU H locs ls 1 0 hf hP hD hS (lv_sub hl [4, 5, 6, 7, 3, 1, 0] rfl)
          · replace hf := it_n c_60 hf
            refine lv_aload_n hx hb dX7_round_63 rfl (lv_at hl 2 rfl) ?_
            refine lv_iconst (v := 3) hx hb dX7_round_64 (by decide) ?_
            replace hf := ob_e hf
            obtain ⟨u_65, hu_65, hf⟩ := hf
            refine ivW (As := [.int 3]) (rest := []) (st1 := [.int u_65.1]) (is := [0]) (w1 := (wX7_0 cy ad 0 u_65.2 pri tcd frt frp)) ⟨hx, hb, hml, hown, hts⟩ hK hN (KX7_found l D cy ad 0 u_40.2 pri tcd frt frp 3 H.size hu_65) (cwV 1 hts gX7_round_X7_found rfl rfl rfl (by decide +kernel) ⟨Nat.le_of_ble_eq_true rfl, Nat.le_of_ble_eq_true rfl⟩) (va_recv hK hP (ci := 7) (q0 := 0) rfl rfl) hP hD hS hA P_nil (sepW_nil _) (by decide) rfl rfl rfl hl.1 rfl (Nat.le_of_ble_eq_true rfl) rfl dX7_round_65 ⟨Nat.zero_le _, Nat.zero_le _⟩ (fun H locs hP hD hS => ?_)
            have hP : va_P D vwCl ((wX7_0_4_5_17_18_19_20_21 cy ad 0 u_65.2 pri tcd frt frp deg num don nex res quo rou)) H := hP
            have hD : va_D A ((wX7_0_4_5_17_18_19_20_21 cy ad 0 u_65.2 pri tcd frt frp deg num don nex res quo rou)) := hD
            obtain rfl := Option.some.inj hf
            rw [← hQe]
            exact W.iret (v := u_65.1) hx hb hr (fun t ht hW => ⟨rfl, by rw [ht]; exact hP, hS.F ht⟩) hS.2.2 dX7_round_68
        · replace hf := it_n c_47 hf
          refine lv_iload hx hb dX7_round_50 (lv_at hl 0 rfl) ?_
          obtain rfl := Option.some.inj hf
          rw [← hQe]
          exact W.iret (v := v_43) hx hb hr (fun t ht hW => ⟨rfl, by rw [ht]; exact hP, hS.F ht⟩) hS.2.2 dX7_round_52
      · replace hf := it_n c_26 hf
        refine lv_ldc (own := RX7) (v := (-1000001)) hx hb hown hw_0 dX7_round_29 ?_
        obtain rfl := Option.some.inj hf
        rw [← hQe]
        exact W.iret (v := (-1000001)) hx hb hr (fun t ht hW => ⟨rfl, by rw [ht]; exact hP, hS.F ht⟩) hS.2.2 dX7_round_31
def FX7_divisor_L13    : Nat → Int32 → Int32 → Option (Int32)
  | 0, _, _ => none
  | fuel + 1, x2_13, x3_13 => (if x3_13 = 0 then (some (x2_13)) else (gd (¬ x3_13 = 0) (bd (irm x2_13 x3_13) (fun v_20 => (FX7_divisor_L13  fuel) x3_13 v_20))))
def FX7_divisor_J10   (x2 : Int32) (s0_10 : Int32) : Option (Int32) := (FX7_divisor_L13 FU s0_10 x2)
def FX7_divisor   (x1 : Int32) (x2 : Int32) : Option (Int32) := (if 0 ≤ x1 then (FX7_divisor_J10 x2 x1) else (FX7_divisor_J10 x2 (-x1)))
abbrev RMX7_divisor : Room := { frames := 0, cells := 0, slots := 0, locals := 0 }
set_option maxHeartbeats 4000000 in
set_option maxRecDepth 100000 in
theorem KX7_divisor (l : Launch) (D : va_G) (cy : Nat → ClassId)   (x1 : Int32) (x2 : Int32) (sz : Nat) {out : Int32} (hf : FX7_divisor x1 x2 = some out) : Met l yX7_divisor wsX7_divisor RMX7_divisor (PW D cy [.int x1, .int x2] sz [] []) (QR (some (.int out))) 0 0 no_A := by
  refine Met.ofW (cc := cX7_divisor) (maxL := 5) (ret := (some .int)) (by decide +kernel) rfl ?_
  intro p e s m args below meth c s₁ B hml hv
  obtain ⟨hav, hsz, hP, hR0, hK, hN, hD0, hsep⟩ := hv
  have hx := B.exec
  have hb := B.bytes
  have hr := B.returns
  have hts := atoms_spec (ws := wsX7_divisor) B.pre
  have hown : s.vm.findClass RX7 = some m.cls := findClass_of_methodNamed B.named
  have hlocks := B.notSynchronized
  subst hsz
  obtain ⟨ls, hfr, hl⟩ := ent_ok (m := m) (n := 5) (l' := [(0, .int x1), (1, .int x2)]) [.int x1, .int x2] hav (Nat.le_of_ble_eq_true rfl) rfl
  rw [hfr]
  generalize hQe : MQ below (QR (some (.int out))) args s 0 0 no_A = QQ
  change W p l e RMX7_divisor s m args below meth c s.heap [] 0 0 QQ (F0 m 0 ls [])
  have L13 : ∀  (n13 : Nat) (ls : Array Slot) (x2_13 : Int32) (x3_13 : Int32), FX7_divisor_L13 n13 x2_13 x3_13 = some out → lv_has ls 5 [(2, .int x2_13), (3, .int x3_13)] → W p l e RMX7_divisor s m args below meth c s.heap [] 0 0 QQ (F0 m 13 ls []) := by
    intro  n13
    induction n13 with
    | zero => intro ls x2_13 x3_13 hf; simp [FX7_divisor_L13] at hf
    | succ n13 ih13 =>
      intro ls x2_13 x3_13 hf hl
      rw [FX7_divisor_L13] at hf
      refine lv_iload_n hx hb dX7_divisor_13 rfl (lv_at hl 1 rfl) ?_
      refine lv_if_eq (tgt := 30) hx hb dX7_divisor_14 (by decide) (fun c_14 => ?_) (fun c_14 => ?_)
      · replace hf := it_p c_14 hf
        refine lv_iload_n hx hb dX7_divisor_30 rfl (lv_at hl 0 rfl) ?_
        obtain rfl := Option.some.inj hf
        rw [← hQe]
        exact W.iret (v := x2_13) hx hb hr (fun t ht hW => ⟨rfl, ht⟩) (fun q h => by cases h) dX7_divisor_31
      · replace hf := it_n c_14 hf
        refine lv_iload_n hx hb dX7_divisor_17 rfl (lv_at hl 0 rfl) ?_
        refine lv_iload_n hx hb dX7_divisor_18 rfl (lv_at hl 1 rfl) ?_
        replace hf := gd_e hf
        obtain ⟨z_19, hf⟩ := hf
        refine rw_irem hx hb dX7_divisor_19 z_19 ?_
        refine lv_topi (fun v_20 e_20 => ?_)
        replace hf := bd_at e_20 hf
        clear e_20
        refine lv_istore (lv' := [(4, .int v_20), (2, .int x2_13), (3, .int x3_13)]) hx hb dX7_divisor_20 hl (by decide) rfl (fun ls hl => ?_)
        refine lv_iload_n hx hb dX7_divisor_22 rfl (lv_at hl 2 rfl) ?_
        refine lv_istore_n (lv' := [(2, .int x3_13), (4, .int v_20), (3, .int x3_13)]) hx hb dX7_divisor_23 rfl hl (by decide) rfl (fun ls hl => ?_)
        refine lv_iload hx hb dX7_divisor_24 (lv_at hl 1 rfl) ?_
        refine lv_istore_n (lv' := [(3, .int v_20), (2, .int x3_13), (4, .int v_20)]) hx hb dX7_divisor_26 rfl hl (by decide) rfl (fun ls hl => ?_)
        refine lv_goto (tgt := 13) hx hb dX7_divisor_27 (by decide) ?_
        exact ih13 ls x3_13 v_20 hf (lv_sub hl [1, 0] rfl)
  have J10 : ∀ (ls : Array Slot) (s0_10 : Int32), FX7_divisor_J10 x2 s0_10 = some out → lv_has ls 5 [(1, .int x2)] → W p l e RMX7_divisor s m args below meth c s.heap [] 0 0 QQ (F0 m 10 ls [.int s0_10]) := by
    intro ls s0_10 hf hl
    unfold FX7_divisor_J10 at hf
    refine lv_istore_n (lv' := [(2, .int s0_10), (1, .int x2)]) hx hb dX7_divisor_10 rfl hl (by decide) rfl (fun ls hl => ?_)
    refine lv_iload_n hx hb dX7_divisor_11 rfl (lv_at hl 1 rfl) ?_
    refine lv_istore_n (lv' := [(3, .int x2), (2, .int s0_10), (1, .int x2)]) hx hb dX7_divisor_12 rfl hl (by decide) rfl (fun ls hl => ?_)
    exact L13 FU ls s0_10 x2 hf (lv_sub hl [1, 0] rfl)
  unfold FX7_divisor at hf
  refine lv_iload_n hx hb dX7_divisor_0 rfl (lv_at hl 0 rfl) ?_
  refine lv_if_ge (tgt := 9) hx hb dX7_divisor_1 (by decide) (fun c_1 => ?_) (fun c_1 => ?_)
  · replace hf := it_p c_1 hf
    refine lv_iload_n hx hb dX7_divisor_9 rfl (lv_at hl 0 rfl) ?_
    exact J10 ls x1 hf (lv_sub hl [1] rfl)
  · replace hf := it_n c_1 hf
    refine lv_iload_n hx hb dX7_divisor_4 rfl (lv_at hl 0 rfl) ?_
    refine lv_ineg hx hb dX7_divisor_5 ?_
    refine lv_goto (tgt := 10) hx hb dX7_divisor_6 (by decide) ?_
    exact J10 ls (-x1) hf (lv_sub hl [1] rfl)
def FX7_isFraction   (x1 : Int32) (x2 : Int32) : Option (Bool) := (ob (FX7_in (Int32.toInt64 x1) (-10000) 10000) (fun u_8 => if (bi u_8) = 0 then ((some (false))) else (ob (FX7_in (Int32.toInt64 x2) 1 30) (fun u_20 => if (bi u_20) = 0 then ((some (false))) else (ob (FX7_divisor x1 x2) (fun u_28 => if u_28 = 1 then ((some (true))) else ((some (false)))))))))
abbrev RMX7_isFraction : Room := { frames := 1, cells := 0, slots := 0, locals := 25 }
set_option maxHeartbeats 4000000 in
set_option maxRecDepth 100000 in
theorem KX7_isFraction (l : Launch) (D : va_G) (cy : Nat → ClassId)   (x1 : Int32) (x2 : Int32) (sz : Nat) {out : Bool} (hf : FX7_isFraction x1 x2 = some out) : Met l yX7_isFraction wsX7_isFraction RMX7_isFraction (PW D cy [.int x1, .int x2] sz [] []) (QR (some (.int (bi out)))) 0 0 no_A := by
  refine Met.ofW (cc := cX7_isFraction) (maxL := 2) (ret := (some .boolean)) (by decide +kernel) rfl ?_
  intro p e s m args below meth c s₁ B hml hv
  obtain ⟨hav, hsz, hP, hR0, hK, hN, hD0, hsep⟩ := hv
  have hx := B.exec
  have hb := B.bytes
  have hr := B.returns
  have hts := atoms_spec (ws := wsX7_isFraction) B.pre
  have hown : s.vm.findClass RX7 = some m.cls := findClass_of_methodNamed B.named
  have hlocks := B.notSynchronized
  subst hsz
  have hw_0 := hts (.constantLong RX7 203 (-10000)) (by decide +kernel)
  have hw_1 := hts (.constantLong RX7 205 (10000)) (by decide +kernel)
  have hw_2 := hts (.constantLong RX7 207 (30)) (by decide +kernel)
  obtain ⟨ls, hfr, hl⟩ := ent_ok (m := m) (n := 2) (l' := [(0, .int x1), (1, .int x2)]) [.int x1, .int x2] hav (Nat.le_of_ble_eq_true rfl) rfl
  rw [hfr]
  generalize hQe : MQ below (QR (some (.int (bi out)))) args s 0 0 no_A = QQ
  change W p l e RMX7_isFraction s m args below meth c s.heap [] 0 0 QQ (F0 m 0 ls [])
  unfold FX7_isFraction at hf
  refine lv_iload_n hx hb dX7_isFraction_0 rfl (lv_at hl 0 rfl) ?_
  refine lv_i2l hx hb dX7_isFraction_1 rfl ?_
  refine lv_ldc2 (own := RX7) (v := (-10000)) hx hb hown hw_0 dX7_isFraction_2 ?_
  refine lv_ldc2 (own := RX7) (v := 10000) hx hb hown hw_1 dX7_isFraction_5 ?_
  replace hf := ob_e hf
  obtain ⟨u_8, hu_8, hf⟩ := hf
  refine isR (As := [.long (Int32.toInt64 x1), .long (-10000), .long 10000]) (rest := []) (st1 := [.int (bi u_8)]) ⟨hx, hb, hml, hown, hts⟩ hK hN (KX7_in l D cy (Int32.toInt64 x1) (-10000) 10000 s.heap.size hu_8) (va_cwS 3 hts gX7_isFraction_X7_in rfl rfl rfl (by decide +kernel) ⟨Nat.le_of_ble_eq_true rfl, Nat.le_of_ble_eq_true rfl⟩) P_nil rfl hl.1 rfl (Nat.le_of_ble_eq_true rfl) rfl dX7_isFraction_8 ⟨Nat.zero_le _, Nat.zero_le _⟩ ?_
  refine lv_if_eq (tgt := 39) hx hb dX7_isFraction_11 (by decide) (fun c_11 => ?_) (fun c_11 => ?_)
  · replace hf := it_p c_11 hf
    refine lv_iconst (v := 0) hx hb dX7_isFraction_39 (by decide) ?_
    obtain rfl := Option.some.inj hf
    rw [← hQe]
    exact W.zret (v := bi false) hx hb hr (nar_bi _) (fun t ht hW => ⟨rfl, ht⟩) (fun q h => by cases h) dX7_isFraction_40
  · replace hf := it_n c_11 hf
    refine lv_iload_n hx hb dX7_isFraction_14 rfl (lv_at hl 1 rfl) ?_
    refine lv_i2l hx hb dX7_isFraction_15 rfl ?_
    refine lv_lconst (v := 1) hx hb dX7_isFraction_16 (by decide) ?_
    refine lv_ldc2 (own := RX7) (v := 30) hx hb hown hw_2 dX7_isFraction_17 ?_
    replace hf := ob_e hf
    obtain ⟨u_20, hu_20, hf⟩ := hf
    refine isR (As := [.long (Int32.toInt64 x2), .long 1, .long 30]) (rest := []) (st1 := [.int (bi u_20)]) ⟨hx, hb, hml, hown, hts⟩ hK hN (KX7_in l D cy (Int32.toInt64 x2) 1 30 s.heap.size hu_20) (va_cwS 3 hts gX7_isFraction_X7_in rfl rfl rfl (by decide +kernel) ⟨Nat.le_of_ble_eq_true rfl, Nat.le_of_ble_eq_true rfl⟩) P_nil rfl hl.1 rfl (Nat.le_of_ble_eq_true rfl) rfl dX7_isFraction_20 ⟨Nat.zero_le _, Nat.zero_le _⟩ ?_
    refine lv_if_eq (tgt := 39) hx hb dX7_isFraction_23 (by decide) (fun c_23 => ?_) (fun c_23 => ?_)
    · replace hf := it_p c_23 hf
      refine lv_iconst (v := 0) hx hb dX7_isFraction_39 (by decide) ?_
      obtain rfl := Option.some.inj hf
      rw [← hQe]
      exact W.zret (v := bi false) hx hb hr (nar_bi _) (fun t ht hW => ⟨rfl, ht⟩) (fun q h => by cases h) dX7_isFraction_40
    · replace hf := it_n c_23 hf
      refine lv_iload_n hx hb dX7_isFraction_26 rfl (lv_at hl 0 rfl) ?_
      refine lv_iload_n hx hb dX7_isFraction_27 rfl (lv_at hl 1 rfl) ?_
      replace hf := ob_e hf
      obtain ⟨u_28, hu_28, hf⟩ := hf
      refine isR (As := [.int x1, .int x2]) (rest := []) (st1 := [.int u_28]) ⟨hx, hb, hml, hown, hts⟩ hK hN (KX7_divisor l D cy x1 x2 s.heap.size hu_28) (va_cwS 2 hts gX7_isFraction_X7_divisor rfl rfl rfl (by decide +kernel) ⟨Nat.le_of_ble_eq_true rfl, Nat.le_of_ble_eq_true rfl⟩) P_nil rfl hl.1 rfl (Nat.le_of_ble_eq_true rfl) rfl dX7_isFraction_28 ⟨Nat.zero_le _, Nat.zero_le _⟩ ?_
      refine lv_iconst (v := 1) hx hb dX7_isFraction_31 (by decide) ?_
      refine lv_icmp_ne (tgt := 39) hx hb dX7_isFraction_32 (by decide) (fun c_32 => ?_) (fun c_32 => ?_)
      · replace hf := it_n c_32 hf
        refine lv_iconst (v := 0) hx hb dX7_isFraction_39 (by decide) ?_
        obtain rfl := Option.some.inj hf
        rw [← hQe]
        exact W.zret (v := bi false) hx hb hr (nar_bi _) (fun t ht hW => ⟨rfl, ht⟩) (fun q h => by cases h) dX7_isFraction_40
      · replace hf := it_p c_32 hf
        refine lv_iconst (v := 1) hx hb dX7_isFraction_35 (by decide) ?_
        refine lv_goto (tgt := 40) hx hb dX7_isFraction_36 (by decide) ?_
        obtain rfl := Option.some.inj hf
        rw [← hQe]
        exact W.zret (v := bi true) hx hb hr (nar_bi _) (fun t ht hW => ⟨rfl, ht⟩) (fun q h => by cases h) dX7_isFraction_40
def FX7_nextOf   (x1 : Int32) (x2 : Int32) (x3 : Int32) : Option (Int32) := (bd ((x3 * x3) + x1) (fun v_5 => gd (¬ x2 = 0) (if (irm v_5 x2) = 0 then (gd (¬ x2 = 0) (ob (FX7_divisor (v_5 / x2) x2) (fun u_16 => if u_16 = 1 then (gd (¬ x2 = 0) ((some ((v_5 / x2))))) else ((some ((-1000000))))))) else ((some ((-1000000)))))))
abbrev RMX7_nextOf : Room := { frames := 1, cells := 0, slots := 0, locals := 24 }
set_option maxHeartbeats 4000000 in
set_option maxRecDepth 100000 in
theorem KX7_nextOf (l : Launch) (D : va_G) (cy : Nat → ClassId)   (x1 : Int32) (x2 : Int32) (x3 : Int32) (sz : Nat) {out : Int32} (hf : FX7_nextOf x1 x2 x3 = some out) : Met l yX7_nextOf wsX7_nextOf RMX7_nextOf (PW D cy [.int x1, .int x2, .int x3] sz [] []) (QR (some (.int out))) 0 0 no_A := by
  refine Met.ofW (cc := cX7_nextOf) (maxL := 4) (ret := (some .int)) (by decide +kernel) rfl ?_
  intro p e s m args below meth c s₁ B hml hv
  obtain ⟨hav, hsz, hP, hR0, hK, hN, hD0, hsep⟩ := hv
  have hx := B.exec
  have hb := B.bytes
  have hr := B.returns
  have hts := atoms_spec (ws := wsX7_nextOf) B.pre
  have hown : s.vm.findClass RX7 = some m.cls := findClass_of_methodNamed B.named
  have hlocks := B.notSynchronized
  subst hsz
  have hw_0 := hts (.constant RX7 176 (-1000000)) (by decide +kernel)
  obtain ⟨ls, hfr, hl⟩ := ent_ok (m := m) (n := 4) (l' := [(0, .int x1), (1, .int x2), (2, .int x3)]) [.int x1, .int x2, .int x3] hav (Nat.le_of_ble_eq_true rfl) rfl
  rw [hfr]
  generalize hQe : MQ below (QR (some (.int out))) args s 0 0 no_A = QQ
  change W p l e RMX7_nextOf s m args below meth c s.heap [] 0 0 QQ (F0 m 0 ls [])
  unfold FX7_nextOf at hf
  refine lv_iload_n hx hb dX7_nextOf_0 rfl (lv_at hl 2 rfl) ?_
  refine lv_iload_n hx hb dX7_nextOf_1 rfl (lv_at hl 2 rfl) ?_
  refine lv_imul hx hb dX7_nextOf_2 ?_
  refine lv_iload_n hx hb dX7_nextOf_3 rfl (lv_at hl 0 rfl) ?_
  refine lv_iadd hx hb dX7_nextOf_4 ?_
  refine lv_topi (fun v_5 e_5 => ?_)
  replace hf := bd_at e_5 hf
  clear e_5
  refine lv_istore_n (lv' := [(3, .int v_5), (0, .int x1), (1, .int x2), (2, .int x3)]) hx hb dX7_nextOf_5 rfl hl (by decide) rfl (fun ls hl => ?_)
  refine lv_iload_n hx hb dX7_nextOf_6 rfl (lv_at hl 0 rfl) ?_
  refine lv_iload_n hx hb dX7_nextOf_7 rfl (lv_at hl 2 rfl) ?_
  replace hf := gd_e hf
  obtain ⟨z_8, hf⟩ := hf
  refine rw_irem hx hb dX7_nextOf_8 z_8 ?_
  refine lv_if_ne (tgt := 29) hx hb dX7_nextOf_9 (by decide) (fun c_9 => ?_) (fun c_9 => ?_)
  · replace hf := it_n c_9 hf
    refine lv_ldc (own := RX7) (v := (-1000000)) hx hb hown hw_0 dX7_nextOf_29 ?_
    obtain rfl := Option.some.inj hf
    rw [← hQe]
    exact W.iret (v := (-1000000)) hx hb hr (fun t ht hW => ⟨rfl, ht⟩) (fun q h => by cases h) dX7_nextOf_31
  · replace hf := it_p c_9 hf
    refine lv_iload_n hx hb dX7_nextOf_12 rfl (lv_at hl 0 rfl) ?_
    refine lv_iload_n hx hb dX7_nextOf_13 rfl (lv_at hl 2 rfl) ?_
    replace hf := gd_e hf
    obtain ⟨z_14, hf⟩ := hf
    refine lv_idiv hx hb dX7_nextOf_14 z_14 ?_
    refine lv_iload_n hx hb dX7_nextOf_15 rfl (lv_at hl 2 rfl) ?_
    replace hf := ob_e hf
    obtain ⟨u_16, hu_16, hf⟩ := hf
    refine isR (As := [.int (v_5 / x2), .int x2]) (rest := []) (st1 := [.int u_16]) ⟨hx, hb, hml, hown, hts⟩ hK hN (KX7_divisor l D cy (v_5 / x2) x2 s.heap.size hu_16) (va_cwS 2 hts gX7_nextOf_X7_divisor rfl rfl rfl (by decide +kernel) ⟨Nat.le_of_ble_eq_true rfl, Nat.le_of_ble_eq_true rfl⟩) P_nil rfl hl.1 rfl (Nat.le_of_ble_eq_true rfl) rfl dX7_nextOf_16 ⟨Nat.zero_le _, Nat.zero_le _⟩ ?_
    refine lv_iconst (v := 1) hx hb dX7_nextOf_19 (by decide) ?_
    refine lv_icmp_ne (tgt := 29) hx hb dX7_nextOf_20 (by decide) (fun c_20 => ?_) (fun c_20 => ?_)
    · replace hf := it_n c_20 hf
      refine lv_ldc (own := RX7) (v := (-1000000)) hx hb hown hw_0 dX7_nextOf_29 ?_
      obtain rfl := Option.some.inj hf
      rw [← hQe]
      exact W.iret (v := (-1000000)) hx hb hr (fun t ht hW => ⟨rfl, ht⟩) (fun q h => by cases h) dX7_nextOf_31
    · replace hf := it_p c_20 hf
      refine lv_iload_n hx hb dX7_nextOf_23 rfl (lv_at hl 0 rfl) ?_
      refine lv_iload_n hx hb dX7_nextOf_24 rfl (lv_at hl 2 rfl) ?_
      replace hf := gd_e hf
      obtain ⟨z_25, hf⟩ := hf
      refine lv_idiv hx hb dX7_nextOf_25 z_25 ?_
      refine lv_goto (tgt := 31) hx hb dX7_nextOf_26 (by decide) ?_
      obtain rfl := Option.some.inj hf
      rw [← hQe]
      exact W.iret (v := (v_5 / x2)) hx hb hr (fun t ht hW => ⟨rfl, ht⟩) (fun q h => by cases h) dX7_nextOf_31
def FX7_returns_J97   (x4_97 : Int32) (x5_97 : Int32) (frt_97 : Int32) (frp_97 : Int32) (met_97 : Nat → Int32) : Option (Bool × (Int32) × (Int32) × (Nat → Int32)) := (ob (FX7_in (Int32.toInt64 x4_97) (-120) 120) (fun u_106 => if (bi u_106) = 0 then (some (false, frt_97, frp_97, met_97)) else (gi (x4_97 + 120) 241 (some (true, (met_97 (Int32.toNatClampNeg (x4_97 + 120))), (x5_97 - (met_97 (Int32.toNatClampNeg (x4_97 + 120)))), met_97)))))
def FX7_returns_L42   (x1 : Int32) (x2 : Int32) (frt_42 : Int32) (frp_42 : Int32) : Nat → Int32 → Int32 → (Nat → Int32) → Option (Bool × (Int32) × (Int32) × (Nat → Int32))
  | 0, _, _, _ => none
  | fuel + 1, x4_42, x5_42, met_42 => (ob (FX7_in (Int32.toInt64 x4_42) (-120) 120) (fun u_51 => if (bi u_51) = 0 then FX7_returns_J97 x4_42 x5_42 frt_42 frp_42 met_42 else (gi (x4_42 + 120) 241 (if 0 ≤ (met_42 (Int32.toNatClampNeg (x4_42 + 120))) then FX7_returns_J97 x4_42 x5_42 frt_42 frp_42 met_42 else (gi (x4_42 + 120) 241 (bd (x5_42 + 1) (fun v_82 => ob (FX7_nextOf x1 x2 x4_42) (fun u_89 => (FX7_returns_L42 x1 x2 frt_42 frp_42 fuel) u_89 v_82 (upd met_42 (Int32.toNatClampNeg (x4_42 + 120)) x5_42)))))))))
def FX7_returns_L14   (x1 : Int32) (x2 : Int32) (x3 : Int32) (frt_14 : Int32) (frp_14 : Int32) : Nat → Int32 → (Nat → Int32) → Option (Bool × (Int32) × (Int32) × (Nat → Int32))
  | 0, _, _ => none
  | fuel + 1, x4_14, met_14 => (if 241 ≤ x4_14 then (FX7_returns_L42 x1 x2 frt_14 frp_14 FU x3 0 met_14) else (gi x4_14 241 (bd (x4_14 + 1) (fun v_30 => (FX7_returns_L14 x1 x2 x3 frt_14 frp_14 fuel) v_30 (upd met_14 (Int32.toNatClampNeg x4_14) (-1))))))
def FX7_returns  (frt : Int32) (frp : Int32) (met : Nat → Int32) (x1 : Int32) (x2 : Int32) (x3 : Int32) : Option (Bool × (Int32) × (Int32) × (Nat → Int32)) := (ob (FX7_divisor x3 x2) (fun u_2 => if u_2 = 1 then (FX7_returns_L14 x1 x2 x3 frt frp FU 0 met) else (some (false, frt, frp, met))))
abbrev RMX7_returns : Room := { frames := 2, cells := 0, slots := 0, locals := 47 }
set_option maxHeartbeats 4000000 in
set_option maxRecDepth 100000 in
theorem KX7_returns (l : Launch) (D : va_G) (cy : Nat → ClassId) (ad : Nat → Nat) (thr : Int32) (sta : Int32) (pri : Int32) (tcd : Int32) (frt : Int32) (frp : Int32) (met : Nat → Int32) (x1 : Int32) (x2 : Int32) (x3 : Int32) (sz : Nat) {out : Bool × (Int32) × (Int32) × (Nat → Int32)} (hf : FX7_returns frt frp met x1 x2 x3 = some out) : Met l yX7_returns wsX7_returns RMX7_returns (PW D cy [.ref (ad 0), .int x1, .int x2, .int x3] sz ((wX7_0_22 cy ad thr sta pri tcd frt frp met)) []) (QW D (some (.int (bi out.1))) ((wX7_0_22 cy ad thr sta pri tcd out.2.1 out.2.2.1 out.2.2.2)) (va_A ((wX7_0_22 cy ad thr sta pri tcd frt frp met)) sz)) 0 0 (va_A ((wX7_0_22 cy ad thr sta pri tcd frt frp met)) sz) := by
  refine Met.ofW (cc := cX7_returns) (maxL := 6) (ret := (some .boolean)) (by decide +kernel) rfl ?_
  intro p e s m args below meth c s₁ B hml hv
  obtain ⟨hav, hsz, hP, hR0, hK, hN, hD0, hsep⟩ := hv
  have hx := B.exec
  have hb := B.bytes
  have hr := B.returns
  have hts := atoms_spec (ws := wsX7_returns) B.pre
  have hown : s.vm.findClass RX7 = some m.cls := findClass_of_methodNamed B.named
  have hlocks := B.notSynchronized
  subst hsz
  have hin_X7 : ∀ w ∈ u_ws RX7 TX7 28, w ∈ wsX7_returns := by decide +kernel
  have hw_0 := hts (.constantLong RX7 212 (-120)) (by decide +kernel)
  have hw_1 := hts (.constantLong RX7 214 (120)) (by decide +kernel)
  have hw_2 := hts (.fieldLink RX7 83 "ReturnPointsModel" "met" "[I") (by decide +kernel)
  have hw_3 := hts (.fieldLink RX7 220 "ReturnPointsModel" "fractionTail" "I") (by decide +kernel)
  have hw_4 := hts (.fieldLink RX7 223 "ReturnPointsModel" "fractionPeriod" "I") (by decide +kernel)
  have hD := hD0.self (sz := s.heap.size)
  have hnA := roA hsep hR0
  generalize hAe : va_A ((wX7_0_22 cy ad thr sta pri tcd frt frp met)) s.heap.size = A at hD hnA ⊢
  have hA : ∀ q : Nat, s.heap.size ≤ q → A q := fun q h => by rw [← hAe]; exact Or.inr h
  have hS : va_S A s.heap s.heap [] := va_S.rf
  obtain ⟨ls, hfr, hl⟩ := ent_ok (m := m) (n := 6) (l' := [(0, .ref (ad 0)), (1, .int x1), (2, .int x2), (3, .int x3)]) [.ref (ad 0), .int x1, .int x2, .int x3] hav (Nat.le_of_ble_eq_true rfl) rfl
  rw [hfr]
  generalize hQe : MQ below (QW D (some (.int (bi out.1))) ((wX7_0_22 cy ad thr sta pri tcd out.2.1 out.2.2.1 out.2.2.2)) A) args s 0 0 A = QQ
  change W p l e RMX7_returns s m args below meth c s.heap [] 0 0 QQ (F0 m 0 ls [])
  have hP : va_P D vwCl ((wX7_0_22 cy ad thr sta pri tcd frt frp met)) s.heap := hP
  have hD : va_D A ((wX7_0_22 cy ad thr sta pri tcd frt frp met)) := hD
  suffices h00 : ∀ (H : Heap) (locs : List Loc), va_P D vwCl ((wX7_0_22 cy ad thr sta pri tcd frt frp met)) H → va_S A s.heap H locs → W p l e RMX7_returns s m args below meth c H locs 0 0 QQ (F0 m 0 ls []) from h00 _ _ hP hS
  clear hP hS
  intro H locs hP hS
  have J97 : ∀ (H : Heap) (locs : List Loc) (ls : Array Slot) (x4_97 : Int32) (x5_97 : Int32) (frt_97 : Int32) (frp_97 : Int32) (met_97 : Nat → Int32), FX7_returns_J97 x4_97 x5_97 frt_97 frp_97 met_97 = some out → va_P D vwCl ((wX7_0_22 cy ad thr sta pri tcd frt_97 frp_97 met_97)) H → va_D A ((wX7_0_22 cy ad thr sta pri tcd frt_97 frp_97 met_97)) → va_S A s.heap H locs → lv_has ls 6 [(0, .ref (ad 0)), (4, .int x4_97), (5, .int x5_97)] → W p l e RMX7_returns s m args below meth c H locs 0 0 QQ (F0 m 97 ls []) := by
    intro H locs ls x4_97 x5_97 frt_97 frp_97 met_97 hf hP hD hS hl
    unfold FX7_returns_J97 at hf
    refine lv_iload hx hb dX7_returns_97 (lv_at hl 1 rfl) ?_
    refine lv_i2l hx hb dX7_returns_99 rfl ?_
    refine lv_ldc2 (own := RX7) (v := (-120)) hx hb hown hw_0 dX7_returns_100 ?_
    refine lv_ldc2 (own := RX7) (v := 120) hx hb hown hw_1 dX7_returns_103 ?_
    replace hf := ob_e hf
    obtain ⟨u_106, hu_106, hf⟩ := hf
    refine isR (As := [.long (Int32.toInt64 x4_97), .long (-120), .long 120]) (rest := []) (st1 := [.int (bi u_106)]) ⟨hx, hb, hml, hown, hts⟩ hK hN (KX7_in l D cy (Int32.toInt64 x4_97) (-120) 120 H.size hu_106) (va_cwS 3 hts gX7_returns_X7_in rfl rfl rfl (by decide +kernel) ⟨Nat.le_of_ble_eq_true rfl, Nat.le_of_ble_eq_true rfl⟩) P_nil rfl hl.1 rfl (Nat.le_of_ble_eq_true rfl) rfl dX7_returns_106 ⟨Nat.zero_le _, Nat.zero_le _⟩ ?_
    refine lv_if_ne (tgt := 114) hx hb dX7_returns_109 (by decide) (fun c_109 => ?_) (fun c_109 => ?_)
    · replace hf := it_n c_109 hf
      refine lv_aload_n hx hb dX7_returns_114 rfl (lv_at hl 0 rfl) ?_
      refine lv_aload_n hx hb dX7_returns_115 rfl (lv_at hl 0 rfl) ?_
      refine va_get (a := (ad 0)) (ci := 7) (v := .ref (ad 22)) (C := RX7) (T := TX7) (N := 28) hx hb hts hin_X7 hown hK hP 0 rfl rfl 25 (by decide) hw_2 (fun _ h => h) rfl dX7_returns_116 ?_
      refine lv_iload hx hb dX7_returns_119 (lv_at hl 1 rfl) ?_
      refine lv_bipush (v := 120) hx hb dX7_returns_121 (by decide) ?_
      refine lv_iadd hx hb dX7_returns_123 ?_
      replace hf := gi_e hf
      obtain ⟨i_124, hf⟩ := hf
      refine va_iald (a := (ad 22)) hx hb hK hP 1 0 rfl rfl i_124 dX7_returns_124 ?_
      refine va_put (a := (ad 0)) (ci := 7) (v := .int (met_97 (Int32.toNatClampNeg (x4_97 + 120)))) (ty := .int) (C := RX7) (T := TX7) (N := 28) hx hb hts hin_X7 tyX7 tyX7_ok nmX7 hown hK hP hD hS 0 rfl rfl 26 (by decide) hw_3 (fun _ h => h) rfl (by decide +kernel) rfl rfl (Nat.le_of_ble_eq_true rfl) dX7_returns_125 (fun H locs hP hD hS => ?_)
      have hP : va_P D vwCl ((wX7_0_22 cy ad thr sta pri tcd (met_97 (Int32.toNatClampNeg (x4_97 + 120))) frp_97 met_97)) H := hP
      have hD : va_D A ((wX7_0_22 cy ad thr sta pri tcd (met_97 (Int32.toNatClampNeg (x4_97 + 120))) frp_97 met_97)) := hD
      refine lv_aload_n hx hb dX7_returns_128 rfl (lv_at hl 0 rfl) ?_
      refine lv_iload hx hb dX7_returns_129 (lv_at hl 2 rfl) ?_
      refine lv_aload_n hx hb dX7_returns_131 rfl (lv_at hl 0 rfl) ?_
      refine va_get (a := (ad 0)) (ci := 7) (v := .int (met_97 (Int32.toNatClampNeg (x4_97 + 120)))) (C := RX7) (T := TX7) (N := 28) hx hb hts hin_X7 hown hK hP 0 rfl rfl 26 (by decide) hw_3 (fun _ h => h) rfl dX7_returns_132 ?_
      refine lv_isub hx hb dX7_returns_135 ?_
      refine va_put (a := (ad 0)) (ci := 7) (v := .int (x5_97 - (met_97 (Int32.toNatClampNeg (x4_97 + 120))))) (ty := .int) (C := RX7) (T := TX7) (N := 28) hx hb hts hin_X7 tyX7 tyX7_ok nmX7 hown hK hP hD hS 0 rfl rfl 27 (by decide) hw_4 (fun _ h => h) rfl (by decide +kernel) rfl rfl (Nat.le_of_ble_eq_true rfl) dX7_returns_136 (fun H locs hP hD hS => ?_)
      have hP : va_P D vwCl ((wX7_0_22 cy ad thr sta pri tcd (met_97 (Int32.toNatClampNeg (x4_97 + 120))) (x5_97 - (met_97 (Int32.toNatClampNeg (x4_97 + 120)))) met_97)) H := hP
      have hD : va_D A ((wX7_0_22 cy ad thr sta pri tcd (met_97 (Int32.toNatClampNeg (x4_97 + 120))) (x5_97 - (met_97 (Int32.toNatClampNeg (x4_97 + 120)))) met_97)) := hD
      refine lv_iconst (v := 1) hx hb dX7_returns_139 (by decide) ?_
      obtain rfl := Option.some.inj hf
      rw [← hQe]
      exact W.zret (v := bi true) hx hb hr (nar_bi _) (fun t ht hW => ⟨rfl, by rw [ht]; exact hP, hS.F ht⟩) hS.2.2 dX7_returns_140
    · replace hf := it_p c_109 hf
      refine lv_iconst (v := 0) hx hb dX7_returns_112 (by decide) ?_
      obtain rfl := Option.some.inj hf
      rw [← hQe]
      exact W.zret (v := bi false) hx hb hr (nar_bi _) (fun t ht hW => ⟨rfl, by rw [ht]; exact hP, hS.F ht⟩) hS.2.2 dX7_returns_113
  have L42 : ∀ (frt_42 : Int32) (frp_42 : Int32) (n42 : Nat) (H : Heap) (locs : List Loc) (ls : Array Slot) (x4_42 : Int32) (x5_42 : Int32) (met_42 : Nat → Int32), FX7_returns_L42 x1 x2 frt_42 frp_42 n42 x4_42 x5_42 met_42 = some out → va_P D vwCl ((wX7_0_22 cy ad thr sta pri tcd frt_42 frp_42 met_42)) H → va_D A ((wX7_0_22 cy ad thr sta pri tcd frt_42 frp_42 met_42)) → va_S A s.heap H locs → lv_has ls 6 [(0, .ref (ad 0)), (1, .int x1), (2, .int x2), (4, .int x4_42), (5, .int x5_42)] → W p l e RMX7_returns s m args below meth c H locs 0 0 QQ (F0 m 42 ls []) := by
    intro frt_42 frp_42 n42
    induction n42 with
    | zero => intro H locs ls x4_42 x5_42 met_42 hf; simp [FX7_returns_L42] at hf
    | succ n42 ih42 =>
      intro H locs ls x4_42 x5_42 met_42 hf hP hD hS hl
      rw [FX7_returns_L42] at hf
      refine lv_iload hx hb dX7_returns_42 (lv_at hl 3 rfl) ?_
      refine lv_i2l hx hb dX7_returns_44 rfl ?_
      refine lv_ldc2 (own := RX7) (v := (-120)) hx hb hown hw_0 dX7_returns_45 ?_
      refine lv_ldc2 (own := RX7) (v := 120) hx hb hown hw_1 dX7_returns_48 ?_
      replace hf := ob_e hf
      obtain ⟨u_51, hu_51, hf⟩ := hf
      refine isR (As := [.long (Int32.toInt64 x4_42), .long (-120), .long 120]) (rest := []) (st1 := [.int (bi u_51)]) ⟨hx, hb, hml, hown, hts⟩ hK hN (KX7_in l D cy (Int32.toInt64 x4_42) (-120) 120 H.size hu_51) (va_cwS 3 hts gX7_returns_X7_in rfl rfl rfl (by decide +kernel) ⟨Nat.le_of_ble_eq_true rfl, Nat.le_of_ble_eq_true rfl⟩) P_nil rfl hl.1 rfl (Nat.le_of_ble_eq_true rfl) rfl dX7_returns_51 ⟨Nat.zero_le _, Nat.zero_le _⟩ ?_
      refine lv_if_eq (tgt := 97) hx hb dX7_returns_54 (by decide) (fun c_54 => ?_) (fun c_54 => ?_)
      · replace hf := it_p c_54 hf
        exact J97 H locs ls x4_42 x5_42 frt_42 frp_42 met_42 hf hP hD hS (lv_sub hl [0, 3, 4] rfl)
      · replace hf := it_n c_54 hf
        refine lv_aload_n hx hb dX7_returns_57 rfl (lv_at hl 0 rfl) ?_
        refine va_get (a := (ad 0)) (ci := 7) (v := .ref (ad 22)) (C := RX7) (T := TX7) (N := 28) hx hb hts hin_X7 hown hK hP 0 rfl rfl 25 (by decide) hw_2 (fun _ h => h) rfl dX7_returns_58 ?_
        refine lv_iload hx hb dX7_returns_61 (lv_at hl 3 rfl) ?_
        refine lv_bipush (v := 120) hx hb dX7_returns_63 (by decide) ?_
        refine lv_iadd hx hb dX7_returns_65 ?_
        replace hf := gi_e hf
        obtain ⟨i_66, hf⟩ := hf
        refine va_iald (a := (ad 22)) hx hb hK hP 1 0 rfl rfl i_66 dX7_returns_66 ?_
        refine lv_if_ge (tgt := 97) hx hb dX7_returns_67 (by decide) (fun c_67 => ?_) (fun c_67 => ?_)
        · replace hf := it_p c_67 hf
          exact J97 H locs ls x4_42 x5_42 frt_42 frp_42 met_42 hf hP hD hS (lv_sub hl [0, 3, 4] rfl)
        · replace hf := it_n c_67 hf
          refine lv_aload_n hx hb dX7_returns_70 rfl (lv_at hl 0 rfl) ?_
          refine va_get (a := (ad 0)) (ci := 7) (v := .ref (ad 22)) (C := RX7) (T := TX7) (N := 28) hx hb hts hin_X7 hown hK hP 0 rfl rfl 25 (by decide) hw_2 (fun _ h => h) rfl dX7_returns_71 ?_
          refine lv_iload hx hb dX7_returns_74 (lv_at hl 3 rfl) ?_
          refine lv_bipush (v := 120) hx hb dX7_returns_76 (by decide) ?_
          refine lv_iadd hx hb dX7_returns_78 ?_
          refine lv_iload hx hb dX7_returns_79 (lv_at hl 4 rfl) ?_
          replace hf := gi_e hf
          obtain ⟨i_81, hf⟩ := hf
          refine va_iast (a := (ad 22)) hx hb hK hP hD hS 1 0 rfl rfl i_81 dX7_returns_81 (fun H locs hP hD hS => ?_)
          have hP : va_P D vwCl ((wX7_0_22 cy ad thr sta pri tcd frt_42 frp_42 (upd met_42 (Int32.toNatClampNeg (x4_42 + 120)) x5_42))) H := hP
          have hD : va_D A ((wX7_0_22 cy ad thr sta pri tcd frt_42 frp_42 (upd met_42 (Int32.toNatClampNeg (x4_42 + 120)) x5_42))) := hD
          obtain ⟨v_82, e_82⟩ : ∃ y : Int32, y = x5_42 + 1 := ⟨_, rfl⟩
          replace hf := bd_at e_82 hf
          refine lv_iinc (v := v_82) (lv' := [(5, .int v_82), (0, .ref (ad 0)), (1, .int x1), (2, .int x2), (4, .int x4_42)]) hx hb dX7_returns_82 hl (k := 4) rfl (by rw [e_82]; rfl) (by decide) rfl (fun ls hl => ?_)
          clear e_82
          refine lv_iload_n hx hb dX7_returns_85 rfl (lv_at hl 2 rfl) ?_
          refine lv_iload_n hx hb dX7_returns_86 rfl (lv_at hl 3 rfl) ?_
          refine lv_iload hx hb dX7_returns_87 (lv_at hl 4 rfl) ?_
          replace hf := ob_e hf
          obtain ⟨u_89, hu_89, hf⟩ := hf
          refine isR (As := [.int x1, .int x2, .int x4_42]) (rest := []) (st1 := [.int u_89]) ⟨hx, hb, hml, hown, hts⟩ hK hN (KX7_nextOf l D cy x1 x2 x4_42 H.size hu_89) (va_cwS 3 hts gX7_returns_X7_nextOf rfl rfl rfl (by decide +kernel) ⟨Nat.le_of_ble_eq_true rfl, Nat.le_of_ble_eq_true rfl⟩) P_nil rfl hl.1 rfl (Nat.le_of_ble_eq_true rfl) rfl dX7_returns_89 ⟨Nat.zero_le _, Nat.zero_le _⟩ ?_
          refine lv_istore (lv' := [(4, .int u_89), (5, .int v_82), (0, .ref (ad 0)), (1, .int x1), (2, .int x2)]) hx hb dX7_returns_92 hl (by decide) rfl (fun ls hl => ?_)
          refine lv_goto (tgt := 42) hx hb dX7_returns_94 (by decide) ?_
          exact ih42 H locs ls u_89 v_82 (upd met_42 (Int32.toNatClampNeg (x4_42 + 120)) x5_42) hf hP hD hS (lv_sub hl [2, 3, 4, 0, 1] rfl)
  have L14 : ∀ (frt_14 : Int32) (frp_14 : Int32) (n14 : Nat) (H : Heap) (locs : List Loc) (ls : Array Slot) (x4_14 : Int32) (met_14 : Nat → Int32), FX7_returns_L14 x1 x2 x3 frt_14 frp_14 n14 x4_14 met_14 = some out → va_P D vwCl ((wX7_0_22 cy ad thr sta pri tcd frt_14 frp_14 met_14)) H → va_D A ((wX7_0_22 cy ad thr sta pri tcd frt_14 frp_14 met_14)) → va_S A s.heap H locs → lv_has ls 6 [(0, .ref (ad 0)), (1, .int x1), (2, .int x2), (3, .int x3), (4, .int x4_14)] → W p l e RMX7_returns s m args below meth c H locs 0 0 QQ (F0 m 14 ls []) := by
    intro frt_14 frp_14 n14
    induction n14 with
    | zero => intro H locs ls x4_14 met_14 hf; simp [FX7_returns_L14] at hf
    | succ n14 ih14 =>
      intro H locs ls x4_14 met_14 hf hP hD hS hl
      rw [FX7_returns_L14] at hf
      refine lv_iload hx hb dX7_returns_14 (lv_at hl 4 rfl) ?_
      refine lv_sipush (v := 241) hx hb dX7_returns_16 (by decide) ?_
      refine lv_icmp_ge (tgt := 36) hx hb dX7_returns_19 (by decide) (fun c_19 => ?_) (fun c_19 => ?_)
      · replace hf := it_p c_19 hf
        refine lv_iload_n hx hb dX7_returns_36 rfl (lv_at hl 3 rfl) ?_
        refine lv_istore (lv' := [(4, .int x3), (0, .ref (ad 0)), (1, .int x1), (2, .int x2), (3, .int x3)]) hx hb dX7_returns_37 hl (by decide) rfl (fun ls hl => ?_)
        refine lv_iconst (v := 0) hx hb dX7_returns_39 (by decide) ?_
        refine lv_istore (lv' := [(5, .int 0), (4, .int x3), (0, .ref (ad 0)), (1, .int x1), (2, .int x2), (3, .int x3)]) hx hb dX7_returns_40 hl (by decide) rfl (fun ls hl => ?_)
        exact L42 frt_14 frp_14 FU H locs ls x3 0 met_14 hf hP hD hS (lv_sub hl [2, 3, 4, 1, 0] rfl)
      · replace hf := it_n c_19 hf
        refine lv_aload_n hx hb dX7_returns_22 rfl (lv_at hl 0 rfl) ?_
        refine va_get (a := (ad 0)) (ci := 7) (v := .ref (ad 22)) (C := RX7) (T := TX7) (N := 28) hx hb hts hin_X7 hown hK hP 0 rfl rfl 25 (by decide) hw_2 (fun _ h => h) rfl dX7_returns_23 ?_
        refine lv_iload hx hb dX7_returns_26 (lv_at hl 4 rfl) ?_
        refine lv_iconst (v := (-1)) hx hb dX7_returns_28 (by decide) ?_
        replace hf := gi_e hf
        obtain ⟨i_29, hf⟩ := hf
        refine va_iast (a := (ad 22)) hx hb hK hP hD hS 1 0 rfl rfl i_29 dX7_returns_29 (fun H locs hP hD hS => ?_)
        have hP : va_P D vwCl ((wX7_0_22 cy ad thr sta pri tcd frt_14 frp_14 (upd met_14 (Int32.toNatClampNeg x4_14) (-1)))) H := hP
        have hD : va_D A ((wX7_0_22 cy ad thr sta pri tcd frt_14 frp_14 (upd met_14 (Int32.toNatClampNeg x4_14) (-1)))) := hD
        obtain ⟨v_30, e_30⟩ : ∃ y : Int32, y = x4_14 + 1 := ⟨_, rfl⟩
        replace hf := bd_at e_30 hf
        refine lv_iinc (v := v_30) (lv' := [(4, .int v_30), (0, .ref (ad 0)), (1, .int x1), (2, .int x2), (3, .int x3)]) hx hb dX7_returns_30 hl (k := 4) rfl (by rw [e_30]; rfl) (by decide) rfl (fun ls hl => ?_)
        clear e_30
        refine lv_goto (tgt := 14) hx hb dX7_returns_33 (by decide) ?_
        exact ih14 H locs ls v_30 (upd met_14 (Int32.toNatClampNeg x4_14) (-1)) hf hP hD hS (lv_sub hl [1, 2, 3, 4, 0] rfl)
  unfold FX7_returns at hf
  refine lv_iload_n hx hb dX7_returns_0 rfl (lv_at hl 3 rfl) ?_
  refine lv_iload_n hx hb dX7_returns_1 rfl (lv_at hl 2 rfl) ?_
  replace hf := ob_e hf
  obtain ⟨u_2, hu_2, hf⟩ := hf
  refine isR (As := [.int x3, .int x2]) (rest := []) (st1 := [.int u_2]) ⟨hx, hb, hml, hown, hts⟩ hK hN (KX7_divisor l D cy x3 x2 H.size hu_2) (va_cwS 2 hts gX7_returns_X7_divisor rfl rfl rfl (by decide +kernel) ⟨Nat.le_of_ble_eq_true rfl, Nat.le_of_ble_eq_true rfl⟩) P_nil rfl hl.1 rfl (Nat.le_of_ble_eq_true rfl) rfl dX7_returns_2 ⟨Nat.zero_le _, Nat.zero_le _⟩ ?_
  refine lv_iconst (v := 1) hx hb dX7_returns_5 (by decide) ?_
  refine lv_icmp_eq (tgt := 11) hx hb dX7_returns_6 (by decide) (fun c_6 => ?_) (fun c_6 => ?_)
  · replace hf := it_p c_6 hf
    refine lv_iconst (v := 0) hx hb dX7_returns_11 (by decide) ?_
    refine lv_istore (lv' := [(4, .int 0), (0, .ref (ad 0)), (1, .int x1), (2, .int x2), (3, .int x3)]) hx hb dX7_returns_12 hl (by decide) rfl (fun ls hl => ?_)
    exact L14 frt frp FU H locs ls 0 met hf hP hD hS (lv_sub hl [1, 2, 3, 4, 0] rfl)
  · replace hf := it_n c_6 hf
    refine lv_iconst (v := 0) hx hb dX7_returns_9 (by decide) ?_
    obtain rfl := Option.some.inj hf
    rw [← hQe]
    exact W.zret (v := bi false) hx hb hr (nar_bi _) (fun t ht hW => ⟨rfl, by rw [ht]; exact hP, hS.F ht⟩) hS.2.2 dX7_returns_10
def FX7_fraction_J91  (k36 : Int32 → Int32 → Int32 → Int32 → (Nat → Int32) → Option (Int32 × (Int32) × (Int32) × (Int32) × (Nat → Int32))) (x1 : Int32) (x2 : Int32) (x3 : Int32) (x4 : Int32) (x5_91 : Int32) (x6_91 : Int32) (thr_36 : Int32) (frt_91 : Int32) (frp_91 : Int32) (met_91 : Nat → Int32) : Option (Int32 × (Int32) × (Int32) × (Int32) × (Nat → Int32)) := (bd (x6_91 + 1) (fun v_91 => k36 x5_91 v_91 frt_91 frp_91 met_91))
def FX7_fraction_L36   (x1 : Int32) (x2 : Int32) (x3 : Int32) (x4 : Int32) (thr_36 : Int32) : Nat → Int32 → Int32 → Int32 → Int32 → (Nat → Int32) → Option (Int32 × (Int32) × (Int32) × (Int32) × (Nat → Int32))
  | 0, _, _, _, _, _ => none
  | fuel + 1, x5_36, x6_36, frt_36, frp_36, met_36 => (if 120 < x6_36 then (if x3 = (-1000000) then ((some (x5_36, thr_36, frt_36, frp_36, met_36))) else ((some ((-1000000), thr_36, frt_36, frp_36, met_36)))) else (ob (FX7_returns frt_36 frp_36 met_36 x1 x2 x6_36) (fun u_48 => if (bi u_48.1) = 0 then FX7_fraction_J91 (FX7_fraction_L36 x1 x2 x3 x4 thr_36 fuel) x1 x2 x3 x4 x5_36 x6_36 thr_36 u_48.2.1 u_48.2.2.1 u_48.2.2.2 else (if x5_36 = x3 then (if x4 = 0 then ((some (x6_36, thr_36, u_48.2.1, u_48.2.2.1, u_48.2.2.2))) else (if x4 = 1 then ((some (u_48.2.1, thr_36, u_48.2.1, u_48.2.2.1, u_48.2.2.2))) else ((some (u_48.2.2.1, thr_36, u_48.2.1, u_48.2.2.1, u_48.2.2.2))))) else (bd (x5_36 + 1) (fun v_88 => FX7_fraction_J91 (FX7_fraction_L36 x1 x2 x3 x4 thr_36 fuel) x1 x2 x3 x4 v_88 x6_36 thr_36 u_48.2.1 u_48.2.2.1 u_48.2.2.2))))))
def FX7_fraction  (frt : Int32) (frp : Int32) (met : Nat → Int32) (x1 : Int32) (x2 : Int32) (x3 : Int32) (x4 : Int32) : Option (Int32 × (Int32) × (Int32) × (Int32) × (Nat → Int32)) := (ob (FX7_isFraction x1 x2) (fun u_7 => if (bi u_7) = 0 then (some ((-1000001), 0, frt, frp, met)) else (ob (FX7_in (Int32.toInt64 x4) 0 2) (fun u_20 => if (bi u_20) = 0 then (some ((-1000001), 0, frt, frp, met)) else (FX7_fraction_L36 x1 x2 x3 x4 0 FU 0 (-120) frt frp met)))))
abbrev RMX7_fraction : Room := { frames := 3, cells := 0, slots := 0, locals := 72 }
set_option maxHeartbeats 4000000 in
set_option maxRecDepth 100000 in
theorem KX7_fraction (l : Launch) (D : va_G) (cy : Nat → ClassId) (ad : Nat → Nat) (thr : Int32) (sta : Int32) (pri : Int32) (tcd : Int32) (frt : Int32) (frp : Int32) (met : Nat → Int32) (x1 : Int32) (x2 : Int32) (x3 : Int32) (x4 : Int32) (sz : Nat) {out : Int32 × (Int32) × (Int32) × (Int32) × (Nat → Int32)} (hf : FX7_fraction frt frp met x1 x2 x3 x4 = some out) : Met l yX7_fraction wsX7_fraction RMX7_fraction (PW D cy [.ref (ad 0), .int x1, .int x2, .int x3, .int x4] sz ((wX7_0_22 cy ad thr sta pri tcd frt frp met)) []) (QW D (some (.int out.1)) ((wX7_0_22 cy ad out.2.1 sta pri tcd out.2.2.1 out.2.2.2.1 out.2.2.2.2)) (va_A ((wX7_0_22 cy ad thr sta pri tcd frt frp met)) sz)) 0 0 (va_A ((wX7_0_22 cy ad thr sta pri tcd frt frp met)) sz) := by
  refine Met.ofW (cc := cX7_fraction) (maxL := 7) (ret := (some .int)) (by decide +kernel) rfl ?_
  intro p e s m args below meth c s₁ B hml hv
  obtain ⟨hav, hsz, hP, hR0, hK, hN, hD0, hsep⟩ := hv
  have hx := B.exec
  have hb := B.bytes
  have hr := B.returns
  have hts := atoms_spec (ws := wsX7_fraction) B.pre
  have hown : s.vm.findClass RX7 = some m.cls := findClass_of_methodNamed B.named
  have hlocks := B.notSynchronized
  subst hsz
  have hin_X7 : ∀ w ∈ u_ws RX7 TX7 28, w ∈ wsX7_fraction := by decide +kernel
  have hw_0 := hts (.constant RX7 108 (-1000001)) (by decide +kernel)
  have hw_1 := hts (.constantLong RX7 106 (2)) (by decide +kernel)
  have hw_2 := hts (.constant RX7 176 (-1000000)) (by decide +kernel)
  have hw_3 := hts (.fieldLink RX7 223 "ReturnPointsModel" "fractionPeriod" "I") (by decide +kernel)
  have hw_4 := hts (.fieldLink RX7 220 "ReturnPointsModel" "fractionTail" "I") (by decide +kernel)
  have hw_5 := hts (.fieldLink RX7 1 "ReturnPointsModel" "thrown" "I") (by decide +kernel)
  have hD := hD0.self (sz := s.heap.size)
  have hnA := roA hsep hR0
  generalize hAe : va_A ((wX7_0_22 cy ad thr sta pri tcd frt frp met)) s.heap.size = A at hD hnA ⊢
  have hA : ∀ q : Nat, s.heap.size ≤ q → A q := fun q h => by rw [← hAe]; exact Or.inr h
  have hS : va_S A s.heap s.heap [] := va_S.rf
  obtain ⟨ls, hfr, hl⟩ := ent_ok (m := m) (n := 7) (l' := [(0, .ref (ad 0)), (1, .int x1), (2, .int x2), (3, .int x3), (4, .int x4)]) [.ref (ad 0), .int x1, .int x2, .int x3, .int x4] hav (Nat.le_of_ble_eq_true rfl) rfl
  rw [hfr]
  generalize hQe : MQ below (QW D (some (.int out.1)) ((wX7_0_22 cy ad out.2.1 sta pri tcd out.2.2.1 out.2.2.2.1 out.2.2.2.2)) A) args s 0 0 A = QQ
  change W p l e RMX7_fraction s m args below meth c s.heap [] 0 0 QQ (F0 m 0 ls [])
  have hP : va_P D vwCl ((wX7_0_22 cy ad thr sta pri tcd frt frp met)) s.heap := hP
  have hD : va_D A ((wX7_0_22 cy ad thr sta pri tcd frt frp met)) := hD
  suffices h00 : ∀ (H : Heap) (locs : List Loc), va_P D vwCl ((wX7_0_22 cy ad thr sta pri tcd frt frp met)) H → va_S A s.heap H locs → W p l e RMX7_fraction s m args below meth c H locs 0 0 QQ (F0 m 0 ls []) from h00 _ _ hP hS
  clear hP hS
  intro H locs hP hS
  have L36 : ∀ (thr_36 : Int32) (n36 : Nat) (H : Heap) (locs : List Loc) (ls : Array Slot) (x5_36 : Int32) (x6_36 : Int32) (frt_36 : Int32) (frp_36 : Int32) (met_36 : Nat → Int32), FX7_fraction_L36 x1 x2 x3 x4 thr_36 n36 x5_36 x6_36 frt_36 frp_36 met_36 = some out → va_P D vwCl ((wX7_0_22 cy ad thr_36 sta pri tcd frt_36 frp_36 met_36)) H → va_D A ((wX7_0_22 cy ad thr_36 sta pri tcd frt_36 frp_36 met_36)) → va_S A s.heap H locs → lv_has ls 7 [(0, .ref (ad 0)), (1, .int x1), (2, .int x2), (3, .int x3), (4, .int x4), (5, .int x5_36), (6, .int x6_36)] → W p l e RMX7_fraction s m args below meth c H locs 0 0 QQ (F0 m 36 ls []) := by
    intro thr_36 n36
    induction n36 with
    | zero => intro H locs ls x5_36 x6_36 frt_36 frp_36 met_36 hf; simp [FX7_fraction_L36] at hf
    | succ n36 ih36 =>
      intro H locs ls x5_36 x6_36 frt_36 frp_36 met_36 hf hP hD hS hl
      rw [FX7_fraction_L36] at hf
      have J91 : ∀ (H : Heap) (locs : List Loc) (ls : Array Slot) (x5_91 : Int32) (x6_91 : Int32) (frt_91 : Int32) (frp_91 : Int32) (met_91 : Nat → Int32), FX7_fraction_J91 (FX7_fraction_L36 x1 x2 x3 x4 thr_36 n36) x1 x2 x3 x4 x5_91 x6_91 thr_36 frt_91 frp_91 met_91 = some out → va_P D vwCl ((wX7_0_22 cy ad thr_36 sta pri tcd frt_91 frp_91 met_91)) H → va_D A ((wX7_0_22 cy ad thr_36 sta pri tcd frt_91 frp_91 met_91)) → va_S A s.heap H locs → lv_has ls 7 [(0, .ref (ad 0)), (1, .int x1), (2, .int x2), (3, .int x3), (4, .int x4), (5, .int x5_91), (6, .int x6_91)] → W p l e RMX7_fraction s m args below meth c H locs 0 0 QQ (F0 m 91 ls []) := by
        intro H locs ls x5_91 x6_91 frt_91 frp_91 met_91 hf hP hD hS hl
        unfold FX7_fraction_J91 at hf
        obtain ⟨v_91, e_91⟩ : ∃ y : Int32, y = x6_91 + 1 := ⟨_, rfl⟩
        replace hf := bd_at e_91 hf
        refine lv_iinc (v := v_91) (lv' := [(6, .int v_91), (0, .ref (ad 0)), (1, .int x1), (2, .int x2), (3, .int x3), (4, .int x4), (5, .int x5_91)]) hx hb dX7_fraction_91 hl (k := 6) rfl (by rw [e_91]; rfl) (by decide) rfl (fun ls hl => ?_)
        clear e_91
        refine lv_goto (tgt := 36) hx hb dX7_fraction_94 (by decide) ?_
        exact ih36 H locs ls x5_91 v_91 frt_91 frp_91 met_91 hf hP hD hS (lv_sub hl [1, 2, 3, 4, 5, 6, 0] rfl)
      refine lv_iload hx hb dX7_fraction_36 (lv_at hl 6 rfl) ?_
      refine lv_bipush (v := 120) hx hb dX7_fraction_38 (by decide) ?_
      refine lv_icmp_gt (tgt := 97) hx hb dX7_fraction_40 (by decide) (fun c_40 => ?_) (fun c_40 => ?_)
      · replace hf := it_p c_40 hf
        refine lv_iload_n hx hb dX7_fraction_97 rfl (lv_at hl 3 rfl) ?_
        refine lv_ldc (own := RX7) (v := (-1000000)) hx hb hown hw_2 dX7_fraction_98 ?_
        refine lv_icmp_ne (tgt := 108) hx hb dX7_fraction_100 (by decide) (fun c_100 => ?_) (fun c_100 => ?_)
        · replace hf := it_n c_100 hf
          refine lv_ldc (own := RX7) (v := (-1000000)) hx hb hown hw_2 dX7_fraction_108 ?_
          obtain rfl := Option.some.inj hf
          rw [← hQe]
          exact W.iret (v := (-1000000)) hx hb hr (fun t ht hW => ⟨rfl, by rw [ht]; exact hP, hS.F ht⟩) hS.2.2 dX7_fraction_110
        · replace hf := it_p c_100 hf
          refine lv_iload hx hb dX7_fraction_103 (lv_at hl 5 rfl) ?_
          refine lv_goto (tgt := 110) hx hb dX7_fraction_105 (by decide) ?_
          obtain rfl := Option.some.inj hf
          rw [← hQe]
          exact W.iret (v := x5_36) hx hb hr (fun t ht hW => ⟨rfl, by rw [ht]; exact hP, hS.F ht⟩) hS.2.2 dX7_fraction_110
      · replace hf := it_n c_40 hf
        refine lv_aload_n hx hb dX7_fraction_43 rfl (lv_at hl 0 rfl) ?_
        refine lv_iload_n hx hb dX7_fraction_44 rfl (lv_at hl 1 rfl) ?_
        refine lv_iload_n hx hb dX7_fraction_45 rfl (lv_at hl 2 rfl) ?_
        refine lv_iload hx hb dX7_fraction_46 (lv_at hl 6 rfl) ?_
        replace hf := ob_e hf
        obtain ⟨u_48, hu_48, hf⟩ := hf
        refine ivW (As := [.int x1, .int x2, .int x6_36]) (rest := []) (st1 := [.int (bi u_48.1)]) (is := [0, 1]) (w1 := (wX7_0_22 cy ad thr_36 sta pri tcd u_48.2.1 u_48.2.2.1 u_48.2.2.2)) ⟨hx, hb, hml, hown, hts⟩ hK hN (KX7_returns l D cy ad thr_36 sta pri tcd frt_36 frp_36 met_36 x1 x2 x6_36 H.size hu_48) (cwV 3 hts gX7_fraction_X7_returns rfl rfl rfl (by decide +kernel) ⟨Nat.le_of_ble_eq_true rfl, Nat.le_of_ble_eq_true rfl⟩) (va_recv hK hP (ci := 7) (q0 := 0) rfl rfl) hP hD hS hA P_nil (sepW_nil _) (by decide) rfl rfl rfl hl.1 rfl (Nat.le_of_ble_eq_true rfl) rfl dX7_fraction_48 ⟨Nat.zero_le _, Nat.zero_le _⟩ (fun H locs hP hD hS => ?_)
        have hP : va_P D vwCl ((wX7_0_22 cy ad thr_36 sta pri tcd u_48.2.1 u_48.2.2.1 u_48.2.2.2)) H := hP
        have hD : va_D A ((wX7_0_22 cy ad thr_36 sta pri tcd u_48.2.1 u_48.2.2.1 u_48.2.2.2)) := hD
        refine lv_if_eq (tgt := 91) hx hb dX7_fraction_51 (by decide) (fun c_51 => ?_) (fun c_51 => ?_)
        · replace hf := it_p c_51 hf
          exact J91 H locs ls x5_36 x6_36 u_48.2.1 u_48.2.2.1 u_48.2.2.2 hf hP hD hS (lv_sub hl [0, 1, 2, 3, 4, 5, 6] rfl)
        · replace hf := it_n c_51 hf
          refine lv_iload hx hb dX7_fraction_54 (lv_at hl 5 rfl) ?_
          refine lv_iload_n hx hb dX7_fraction_56 rfl (lv_at hl 3 rfl) ?_
          refine lv_icmp_ne (tgt := 88) hx hb dX7_fraction_57 (by decide) (fun c_57 => ?_) (fun c_57 => ?_)
          · replace hf := it_n c_57 hf
            obtain ⟨v_88, e_88⟩ : ∃ y : Int32, y = x5_36 + 1 := ⟨_, rfl⟩
            replace hf := bd_at e_88 hf
            refine lv_iinc (v := v_88) (lv' := [(5, .int v_88), (0, .ref (ad 0)), (1, .int x1), (2, .int x2), (3, .int x3), (4, .int x4), (6, .int x6_36)]) hx hb dX7_fraction_88 hl (k := 5) rfl (by rw [e_88]; rfl) (by decide) rfl (fun ls hl => ?_)
            clear e_88
            exact J91 H locs ls v_88 x6_36 u_48.2.1 u_48.2.2.1 u_48.2.2.2 hf hP hD hS (lv_sub hl [1, 2, 3, 4, 5, 0, 6] rfl)
          · replace hf := it_p c_57 hf
            refine lv_iload hx hb dX7_fraction_60 (lv_at hl 4 rfl) ?_
            refine lv_if_ne (tgt := 70) hx hb dX7_fraction_62 (by decide) (fun c_62 => ?_) (fun c_62 => ?_)
            · replace hf := it_n c_62 hf
              refine lv_iload hx hb dX7_fraction_70 (lv_at hl 4 rfl) ?_
              refine lv_iconst (v := 1) hx hb dX7_fraction_72 (by decide) ?_
              refine lv_icmp_ne (tgt := 83) hx hb dX7_fraction_73 (by decide) (fun c_73 => ?_) (fun c_73 => ?_)
              · replace hf := it_n c_73 hf
                refine lv_aload_n hx hb dX7_fraction_83 rfl (lv_at hl 0 rfl) ?_
                refine va_get (a := (ad 0)) (ci := 7) (v := .int u_48.2.2.1) (C := RX7) (T := TX7) (N := 28) hx hb hts hin_X7 hown hK hP 0 rfl rfl 27 (by decide) hw_3 (fun _ h => h) rfl dX7_fraction_84 ?_
                obtain rfl := Option.some.inj hf
                rw [← hQe]
                exact W.iret (v := u_48.2.2.1) hx hb hr (fun t ht hW => ⟨rfl, by rw [ht]; exact hP, hS.F ht⟩) hS.2.2 dX7_fraction_87
              · replace hf := it_p c_73 hf
                refine lv_aload_n hx hb dX7_fraction_76 rfl (lv_at hl 0 rfl) ?_
                refine va_get (a := (ad 0)) (ci := 7) (v := .int u_48.2.1) (C := RX7) (T := TX7) (N := 28) hx hb hts hin_X7 hown hK hP 0 rfl rfl 26 (by decide) hw_4 (fun _ h => h) rfl dX7_fraction_77 ?_
                refine lv_goto (tgt := 87) hx hb dX7_fraction_80 (by decide) ?_
                obtain rfl := Option.some.inj hf
                rw [← hQe]
                exact W.iret (v := u_48.2.1) hx hb hr (fun t ht hW => ⟨rfl, by rw [ht]; exact hP, hS.F ht⟩) hS.2.2 dX7_fraction_87
            · replace hf := it_p c_62 hf
              refine lv_iload hx hb dX7_fraction_65 (lv_at hl 6 rfl) ?_
              refine lv_goto (tgt := 87) hx hb dX7_fraction_67 (by decide) ?_
              obtain rfl := Option.some.inj hf
              rw [← hQe]
              exact W.iret (v := x6_36) hx hb hr (fun t ht hW => ⟨rfl, by rw [ht]; exact hP, hS.F ht⟩) hS.2.2 dX7_fraction_87
  unfold FX7_fraction at hf
  refine lv_aload_n hx hb dX7_fraction_0 rfl (lv_at hl 0 rfl) ?_
  refine lv_iconst (v := 0) hx hb dX7_fraction_1 (by decide) ?_
  refine va_put (a := (ad 0)) (ci := 7) (v := .int 0) (ty := .int) (C := RX7) (T := TX7) (N := 28) hx hb hts hin_X7 tyX7 tyX7_ok nmX7 hown hK hP hD hS 0 rfl rfl 0 (by decide) hw_5 (fun _ h => h) rfl (by decide +kernel) rfl rfl (Nat.le_of_ble_eq_true rfl) dX7_fraction_2 (fun H locs hP hD hS => ?_)
  have hP : va_P D vwCl ((wX7_0_22 cy ad 0 sta pri tcd frt frp met)) H := hP
  have hD : va_D A ((wX7_0_22 cy ad 0 sta pri tcd frt frp met)) := hD
  refine lv_iload_n hx hb dX7_fraction_5 rfl (lv_at hl 1 rfl) ?_
  refine lv_iload_n hx hb dX7_fraction_6 rfl (lv_at hl 2 rfl) ?_
  replace hf := ob_e hf
  obtain ⟨u_7, hu_7, hf⟩ := hf
  refine isR (As := [.int x1, .int x2]) (rest := []) (st1 := [.int (bi u_7)]) ⟨hx, hb, hml, hown, hts⟩ hK hN (KX7_isFraction l D cy x1 x2 H.size hu_7) (va_cwS 2 hts gX7_fraction_X7_isFraction rfl rfl rfl (by decide +kernel) ⟨Nat.le_of_ble_eq_true rfl, Nat.le_of_ble_eq_true rfl⟩) P_nil rfl hl.1 rfl (Nat.le_of_ble_eq_true rfl) rfl dX7_fraction_7 ⟨Nat.zero_le _, Nat.zero_le _⟩ ?_
  refine lv_if_eq (tgt := 26) hx hb dX7_fraction_10 (by decide) (fun c_10 => ?_) (fun c_10 => ?_)
  · replace hf := it_p c_10 hf
    refine lv_ldc (own := RX7) (v := (-1000001)) hx hb hown hw_0 dX7_fraction_26 ?_
    obtain rfl := Option.some.inj hf
    rw [← hQe]
    exact W.iret (v := (-1000001)) hx hb hr (fun t ht hW => ⟨rfl, by rw [ht]; exact hP, hS.F ht⟩) hS.2.2 dX7_fraction_28
  · replace hf := it_n c_10 hf
    refine lv_iload hx hb dX7_fraction_13 (lv_at hl 4 rfl) ?_
    refine lv_i2l hx hb dX7_fraction_15 rfl ?_
    refine lv_lconst (v := 0) hx hb dX7_fraction_16 (by decide) ?_
    refine lv_ldc2 (own := RX7) (v := 2) hx hb hown hw_1 dX7_fraction_17 ?_
    replace hf := ob_e hf
    obtain ⟨u_20, hu_20, hf⟩ := hf
    refine isR (As := [.long (Int32.toInt64 x4), .long 0, .long 2]) (rest := []) (st1 := [.int (bi u_20)]) ⟨hx, hb, hml, hown, hts⟩ hK hN (KX7_in l D cy (Int32.toInt64 x4) 0 2 H.size hu_20) (va_cwS 3 hts gX7_fraction_X7_in rfl rfl rfl (by decide +kernel) ⟨Nat.le_of_ble_eq_true rfl, Nat.le_of_ble_eq_true rfl⟩) P_nil rfl hl.1 rfl (Nat.le_of_ble_eq_true rfl) rfl dX7_fraction_20 ⟨Nat.zero_le _, Nat.zero_le _⟩ ?_
    refine lv_if_ne (tgt := 29) hx hb dX7_fraction_23 (by decide) (fun c_23 => ?_) (fun c_23 => ?_)
    · replace hf := it_n c_23 hf
      refine lv_iconst (v := 0) hx hb dX7_fraction_29 (by decide) ?_
      refine lv_istore (lv' := [(5, .int 0), (0, .ref (ad 0)), (1, .int x1), (2, .int x2), (3, .int x3), (4, .int x4)]) hx hb dX7_fraction_30 hl (by decide) rfl (fun ls hl => ?_)
      refine lv_bipush (v := (-120)) hx hb dX7_fraction_32 (by decide) ?_
      refine lv_istore (lv' := [(6, .int (-120)), (5, .int 0), (0, .ref (ad 0)), (1, .int x1), (2, .int x2), (3, .int x3), (4, .int x4)]) hx hb dX7_fraction_34 hl (by decide) rfl (fun ls hl => ?_)
      exact L36 0 FU H locs ls 0 (-120) frt frp met hf hP hD hS (lv_sub hl [2, 3, 4, 5, 6, 1, 0] rfl)
    · replace hf := it_p c_23 hf
      refine lv_ldc (own := RX7) (v := (-1000001)) hx hb hown hw_0 dX7_fraction_26 ?_
      obtain rfl := Option.some.inj hf
      rw [← hQe]
      exact W.iret (v := (-1000001)) hx hb hr (fun t ht hW => ⟨rfl, by rw [ht]; exact hP, hS.F ht⟩) hS.2.2 dX7_fraction_28
def FX7_next   (x1 : Int32) (x2 : Int32) (x3 : Int32) : Option (Int32 × (Int32)) := (ob (FX7_isFraction x1 x2) (fun u_7 => if (bi u_7) = 0 then ((some ((-1000001), 0))) else (ob (FX7_in (Int32.toInt64 x3) (-1000) 1000) (fun u_21 => if (bi u_21) = 0 then ((some ((-1000001), 0))) else (ob (FX7_divisor x3 x2) (fun u_29 => if u_29 = 1 then (ob (FX7_nextOf x1 x2 x3) (fun u_44 => (some (u_44, 0)))) else ((some ((-1000001), 0)))))))))
abbrev RMX7_next : Room := { frames := 2, cells := 0, slots := 0, locals := 47 }
set_option maxHeartbeats 4000000 in
set_option maxRecDepth 100000 in
theorem KX7_next (l : Launch) (D : va_G) (cy : Nat → ClassId) (ad : Nat → Nat) (thr : Int32) (sta : Int32) (pri : Int32) (tcd : Int32) (frt : Int32) (frp : Int32) (x1 : Int32) (x2 : Int32) (x3 : Int32) (sz : Nat) {out : Int32 × (Int32)} (hf : FX7_next x1 x2 x3 = some out) : Met l yX7_next wsX7_next RMX7_next (PW D cy [.ref (ad 0), .int x1, .int x2, .int x3] sz ((wX7_0 cy ad thr sta pri tcd frt frp)) []) (QW D (some (.int out.1)) ((wX7_0 cy ad out.2 sta pri tcd frt frp)) (va_A ((wX7_0 cy ad thr sta pri tcd frt frp)) sz)) 0 0 (va_A ((wX7_0 cy ad thr sta pri tcd frt frp)) sz) := by
  refine Met.ofW (cc := cX7_next) (maxL := 4) (ret := (some .int)) (by decide +kernel) rfl ?_
  intro p e s m args below meth c s₁ B hml hv
  obtain ⟨hav, hsz, hP, hR0, hK, hN, hD0, hsep⟩ := hv
  have hx := B.exec
  have hb := B.bytes
  have hr := B.returns
  have hts := atoms_spec (ws := wsX7_next) B.pre
  have hown : s.vm.findClass RX7 = some m.cls := findClass_of_methodNamed B.named
  have hlocks := B.notSynchronized
  subst hsz
  have hin_X7 : ∀ w ∈ u_ws RX7 TX7 28, w ∈ wsX7_next := by decide +kernel
  have hw_0 := hts (.constant RX7 108 (-1000001)) (by decide +kernel)
  have hw_1 := hts (.constantLong RX7 233 (-1000)) (by decide +kernel)
  have hw_2 := hts (.constantLong RX7 235 (1000)) (by decide +kernel)
  have hw_3 := hts (.fieldLink RX7 1 "ReturnPointsModel" "thrown" "I") (by decide +kernel)
  have hD := hD0.self (sz := s.heap.size)
  have hnA := roA hsep hR0
  generalize hAe : va_A ((wX7_0 cy ad thr sta pri tcd frt frp)) s.heap.size = A at hD hnA ⊢
  have hA : ∀ q : Nat, s.heap.size ≤ q → A q := fun q h => by rw [← hAe]; exact Or.inr h
  have hS : va_S A s.heap s.heap [] := va_S.rf
  obtain ⟨ls, hfr, hl⟩ := ent_ok (m := m) (n := 4) (l' := [(0, .ref (ad 0)), (1, .int x1), (2, .int x2), (3, .int x3)]) [.ref (ad 0), .int x1, .int x2, .int x3] hav (Nat.le_of_ble_eq_true rfl) rfl
  rw [hfr]
  generalize hQe : MQ below (QW D (some (.int out.1)) ((wX7_0 cy ad out.2 sta pri tcd frt frp)) A) args s 0 0 A = QQ
  change W p l e RMX7_next s m args below meth c s.heap [] 0 0 QQ (F0 m 0 ls [])
  have hP : va_P D vwCl ((wX7_0 cy ad thr sta pri tcd frt frp)) s.heap := hP
  have hD : va_D A ((wX7_0 cy ad thr sta pri tcd frt frp)) := hD
  suffices h00 : ∀ (H : Heap) (locs : List Loc), va_P D vwCl ((wX7_0 cy ad thr sta pri tcd frt frp)) H → va_S A s.heap H locs → W p l e RMX7_next s m args below meth c H locs 0 0 QQ (F0 m 0 ls []) from h00 _ _ hP hS
  clear hP hS
  intro H locs hP hS
  unfold FX7_next at hf
  refine lv_aload_n hx hb dX7_next_0 rfl (lv_at hl 0 rfl) ?_
  refine lv_iconst (v := 0) hx hb dX7_next_1 (by decide) ?_
  refine va_put (a := (ad 0)) (ci := 7) (v := .int 0) (ty := .int) (C := RX7) (T := TX7) (N := 28) hx hb hts hin_X7 tyX7 tyX7_ok nmX7 hown hK hP hD hS 0 rfl rfl 0 (by decide) hw_3 (fun _ h => h) rfl (by decide +kernel) rfl rfl (Nat.le_of_ble_eq_true rfl) dX7_next_2 (fun H locs hP hD hS => ?_)
  have hP : va_P D vwCl ((wX7_0 cy ad 0 sta pri tcd frt frp)) H := hP
  have hD : va_D A ((wX7_0 cy ad 0 sta pri tcd frt frp)) := hD
  refine lv_iload_n hx hb dX7_next_5 rfl (lv_at hl 1 rfl) ?_
  refine lv_iload_n hx hb dX7_next_6 rfl (lv_at hl 2 rfl) ?_
  replace hf := ob_e hf
  obtain ⟨u_7, hu_7, hf⟩ := hf
  refine isR (As := [.int x1, .int x2]) (rest := []) (st1 := [.int (bi u_7)]) ⟨hx, hb, hml, hown, hts⟩ hK hN (KX7_isFraction l D cy x1 x2 H.size hu_7) (va_cwS 2 hts gX7_next_X7_isFraction rfl rfl rfl (by decide +kernel) ⟨Nat.le_of_ble_eq_true rfl, Nat.le_of_ble_eq_true rfl⟩) P_nil rfl hl.1 rfl (Nat.le_of_ble_eq_true rfl) rfl dX7_next_7 ⟨Nat.zero_le _, Nat.zero_le _⟩ ?_
  refine lv_if_eq (tgt := 36) hx hb dX7_next_10 (by decide) (fun c_10 => ?_) (fun c_10 => ?_)
  · replace hf := it_p c_10 hf
    refine lv_ldc (own := RX7) (v := (-1000001)) hx hb hown hw_0 dX7_next_36 ?_
    refine lv_goto (tgt := 47) hx hb dX7_next_38 (by decide) ?_
    obtain rfl := Option.some.inj hf
    rw [← hQe]
    exact W.iret (v := (-1000001)) hx hb hr (fun t ht hW => ⟨rfl, by rw [ht]; exact hP, hS.F ht⟩) hS.2.2 dX7_next_47
  · replace hf := it_n c_10 hf
    refine lv_iload_n hx hb dX7_next_13 rfl (lv_at hl 3 rfl) ?_
    refine lv_i2l hx hb dX7_next_14 rfl ?_
    refine lv_ldc2 (own := RX7) (v := (-1000)) hx hb hown hw_1 dX7_next_15 ?_
    refine lv_ldc2 (own := RX7) (v := 1000) hx hb hown hw_2 dX7_next_18 ?_
    replace hf := ob_e hf
    obtain ⟨u_21, hu_21, hf⟩ := hf
    refine isR (As := [.long (Int32.toInt64 x3), .long (-1000), .long 1000]) (rest := []) (st1 := [.int (bi u_21)]) ⟨hx, hb, hml, hown, hts⟩ hK hN (KX7_in l D cy (Int32.toInt64 x3) (-1000) 1000 H.size hu_21) (va_cwS 3 hts gX7_next_X7_in rfl rfl rfl (by decide +kernel) ⟨Nat.le_of_ble_eq_true rfl, Nat.le_of_ble_eq_true rfl⟩) P_nil rfl hl.1 rfl (Nat.le_of_ble_eq_true rfl) rfl dX7_next_21 ⟨Nat.zero_le _, Nat.zero_le _⟩ ?_
    refine lv_if_eq (tgt := 36) hx hb dX7_next_24 (by decide) (fun c_24 => ?_) (fun c_24 => ?_)
    · replace hf := it_p c_24 hf
      refine lv_ldc (own := RX7) (v := (-1000001)) hx hb hown hw_0 dX7_next_36 ?_
      refine lv_goto (tgt := 47) hx hb dX7_next_38 (by decide) ?_
      obtain rfl := Option.some.inj hf
      rw [← hQe]
      exact W.iret (v := (-1000001)) hx hb hr (fun t ht hW => ⟨rfl, by rw [ht]; exact hP, hS.F ht⟩) hS.2.2 dX7_next_47
    · replace hf := it_n c_24 hf
      refine lv_iload_n hx hb dX7_next_27 rfl (lv_at hl 3 rfl) ?_
      refine lv_iload_n hx hb dX7_next_28 rfl (lv_at hl 2 rfl) ?_
      replace hf := ob_e hf
      obtain ⟨u_29, hu_29, hf⟩ := hf
      refine isR (As := [.int x3, .int x2]) (rest := []) (st1 := [.int u_29]) ⟨hx, hb, hml, hown, hts⟩ hK hN (KX7_divisor l D cy x3 x2 H.size hu_29) (va_cwS 2 hts gX7_next_X7_divisor rfl rfl rfl (by decide +kernel) ⟨Nat.le_of_ble_eq_true rfl, Nat.le_of_ble_eq_true rfl⟩) P_nil rfl hl.1 rfl (Nat.le_of_ble_eq_true rfl) rfl dX7_next_29 ⟨Nat.zero_le _, Nat.zero_le _⟩ ?_
      refine lv_iconst (v := 1) hx hb dX7_next_32 (by decide) ?_
      refine lv_icmp_eq (tgt := 41) hx hb dX7_next_33 (by decide) (fun c_33 => ?_) (fun c_33 => ?_)
      · replace hf := it_p c_33 hf
        refine lv_iload_n hx hb dX7_next_41 rfl (lv_at hl 1 rfl) ?_
        refine lv_iload_n hx hb dX7_next_42 rfl (lv_at hl 2 rfl) ?_
        refine lv_iload_n hx hb dX7_next_43 rfl (lv_at hl 3 rfl) ?_
        replace hf := ob_e hf
        obtain ⟨u_44, hu_44, hf⟩ := hf
        refine isR (As := [.int x1, .int x2, .int x3]) (rest := []) (st1 := [.int u_44]) ⟨hx, hb, hml, hown, hts⟩ hK hN (KX7_nextOf l D cy x1 x2 x3 H.size hu_44) (va_cwS 3 hts gX7_next_X7_nextOf rfl rfl rfl (by decide +kernel) ⟨Nat.le_of_ble_eq_true rfl, Nat.le_of_ble_eq_true rfl⟩) P_nil rfl hl.1 rfl (Nat.le_of_ble_eq_true rfl) rfl dX7_next_44 ⟨Nat.zero_le _, Nat.zero_le _⟩ ?_
        obtain rfl := Option.some.inj hf
        rw [← hQe]
        exact W.iret (v := u_44) hx hb hr (fun t ht hW => ⟨rfl, by rw [ht]; exact hP, hS.F ht⟩) hS.2.2 dX7_next_47
      · replace hf := it_n c_33 hf
        refine lv_ldc (own := RX7) (v := (-1000001)) hx hb hown hw_0 dX7_next_36 ?_
        refine lv_goto (tgt := 47) hx hb dX7_next_38 (by decide) ?_
        obtain rfl := Option.some.inj hf
        rw [← hQe]
        exact W.iret (v := (-1000001)) hx hb hr (fun t ht hW => ⟨rfl, by rw [ht]; exact hP, hS.F ht⟩) hS.2.2 dX7_next_47
def FX7_count_J79  (k58 : Int32 → Int32 → Option (Int32 × (Int32))) (x3_79 : Int32) (s0_79 : Int32) (s1_79 : Bool) (thr_58 : Int32) (lan : Nat → Int32) : Option (Int32 × (Int32)) := (bd (s0_79 + (bi s1_79)) (fun v_80 => bd (x3_79 + 1) (fun v_81 => k58 v_80 v_81)))
def FX7_count_L58   (thr_58 : Int32) (lan : Nat → Int32) : Nat → Int32 → Int32 → Option (Int32 × (Int32))
  | 0, _, _ => none
  | fuel + 1, x2_58, x3_58 => (if 8 ≤ x3_58 then (some (x2_58, thr_58)) else (gi x3_58 8 (if (lan (Int32.toNatClampNeg x3_58)) < 0 then (FX7_count_J79 (FX7_count_L58 thr_58 lan fuel) x3_58 x2_58 false thr_58 lan) else (FX7_count_J79 (FX7_count_L58 thr_58 lan fuel) x3_58 x2_58 true thr_58 lan))))
def FX7_count_J126  (k91 : Int32 → Int32 → Option (Int32 × (Int32))) (x1 : Int32) (x3_126 : Int32) (s0_126 : Int32) (s1_126 : Bool) (thr_91 : Int32) (deg : Nat → Int32) (num : Nat → Int32) : Option (Int32 × (Int32)) := (bd (s0_126 + (bi s1_126)) (fun v_127 => bd (x3_126 + 1) (fun v_128 => k91 v_127 v_128)))
def FX7_count_J125  (k91 : Int32 → Int32 → Option (Int32 × (Int32))) (x1 : Int32) (x3_125 : Int32) (s0_125 : Int32) (thr_91 : Int32) (deg : Nat → Int32) (num : Nat → Int32) : Option (Int32 × (Int32)) := (FX7_count_J126 k91 x1 x3_125 s0_125 false thr_91 deg num)
def FX7_count_L91   (x1 : Int32) (thr_91 : Int32) (deg : Nat → Int32) (num : Nat → Int32) : Nat → Int32 → Int32 → Option (Int32 × (Int32))
  | 0, _, _ => none
  | fuel + 1, x2_91, x3_91 => (if 10 ≤ x3_91 then (some (x2_91, thr_91)) else (gi x3_91 10 (if (deg (Int32.toNatClampNeg x3_91)) < 0 then FX7_count_J125 (FX7_count_L91 x1 thr_91 deg num fuel) x1 x3_91 x2_91 thr_91 deg num else (ob (FX7_kindOf deg num x3_91) (fun u_109 => ob (FX7_isOf u_109 (x1 - 1)) (fun u_115 => if (bi u_115) = 0 then FX7_count_J125 (FX7_count_L91 x1 thr_91 deg num fuel) x1 x3_91 x2_91 thr_91 deg num else (FX7_count_J126 (FX7_count_L91 x1 thr_91 deg num fuel) x1 x3_91 x2_91 true thr_91 deg num)))))))
def FX7_count_J89   (x1 : Int32) (thr_89 : Int32) (deg : Nat → Int32) (num : Nat → Int32) : Option (Int32 × (Int32)) := (FX7_count_L91 x1 thr_89 deg num FU 0 0)
def FX7_count  (pri : Int32) (lan : Nat → Int32) (deg : Nat → Int32) (num : Nat → Int32) (x1 : Int32) : Option (Int32 × (Int32)) := (if x1 = 0 then (FX7_count_L58 0 lan FU 0 0) else if x1 = 1 then FX7_count_J89 x1 0 deg num else if x1 = 2 then FX7_count_J89 x1 0 deg num else if x1 = 3 then FX7_count_J89 x1 0 deg num else if x1 = 4 then FX7_count_J89 x1 0 deg num else if x1 = 5 then FX7_count_J89 x1 0 deg num else if x1 = 6 then FX7_count_J89 x1 0 deg num else if x1 = 7 then (some (pri, 0)) else (some ((-1000001), 0)))
abbrev RMX7_count : Room := { frames := 1, cells := 0, slots := 0, locals := 22 }
set_option maxHeartbeats 4000000 in
set_option maxRecDepth 100000 in
theorem KX7_count (l : Launch) (D : va_G) (cy : Nat → ClassId) (ad : Nat → Nat) (thr : Int32) (sta : Int32) (pri : Int32) (tcd : Int32) (frt : Int32) (frp : Int32) (lan : Nat → Int32) (deg : Nat → Int32) (num : Nat → Int32) (x1 : Int32) (sz : Nat) {out : Int32 × (Int32)} (hf : FX7_count pri lan deg num x1 = some out) : Met l yX7_count wsX7_count RMX7_count (PW D cy [.ref (ad 0), .int x1] sz ((wX7_0_1_4_5 cy ad thr sta pri tcd frt frp lan deg num)) []) (QW D (some (.int out.1)) ((wX7_0_1_4_5 cy ad out.2 sta pri tcd frt frp lan deg num)) (va_A ((wX7_0_1_4_5 cy ad thr sta pri tcd frt frp lan deg num)) sz)) 0 0 (va_A ((wX7_0_1_4_5 cy ad thr sta pri tcd frt frp lan deg num)) sz) := by
  refine Met.ofW (cc := cX7_count) (maxL := 4) (ret := (some .int)) (by decide +kernel) rfl ?_
  intro p e s m args below meth c s₁ B hml hv
  obtain ⟨hav, hsz, hP, hR0, hK, hN, hD0, hsep⟩ := hv
  have hx := B.exec
  have hb := B.bytes
  have hr := B.returns
  have hts := atoms_spec (ws := wsX7_count) B.pre
  have hown : s.vm.findClass RX7 = some m.cls := findClass_of_methodNamed B.named
  have hlocks := B.notSynchronized
  subst hsz
  have hin_X7 : ∀ w ∈ u_ws RX7 TX7 28, w ∈ wsX7_count := by decide +kernel
  have hw_0 := hts (.constant RX7 108 (-1000001)) (by decide +kernel)
  have hw_1 := hts (.fieldLink RX7 17 "ReturnPointsModel" "lane" "[I") (by decide +kernel)
  have hw_2 := hts (.fieldLink RX7 28 "ReturnPointsModel" "degree" "[I") (by decide +kernel)
  have hw_3 := hts (.fieldLink RX7 1 "ReturnPointsModel" "thrown" "I") (by decide +kernel)
  have hw_4 := hts (.fieldLink RX7 98 "ReturnPointsModel" "prime" "I") (by decide +kernel)
  have hD := hD0.self (sz := s.heap.size)
  have hnA := roA hsep hR0
  generalize hAe : va_A ((wX7_0_1_4_5 cy ad thr sta pri tcd frt frp lan deg num)) s.heap.size = A at hD hnA ⊢
  have hA : ∀ q : Nat, s.heap.size ≤ q → A q := fun q h => by rw [← hAe]; exact Or.inr h
  have hS : va_S A s.heap s.heap [] := va_S.rf
  obtain ⟨ls, hfr, hl⟩ := ent_ok (m := m) (n := 4) (l' := [(0, .ref (ad 0)), (1, .int x1)]) [.ref (ad 0), .int x1] hav (Nat.le_of_ble_eq_true rfl) rfl
  rw [hfr]
  generalize hQe : MQ below (QW D (some (.int out.1)) ((wX7_0_1_4_5 cy ad out.2 sta pri tcd frt frp lan deg num)) A) args s 0 0 A = QQ
  change W p l e RMX7_count s m args below meth c s.heap [] 0 0 QQ (F0 m 0 ls [])
  have hP : va_P D vwCl ((wX7_0_1_4_5 cy ad thr sta pri tcd frt frp lan deg num)) s.heap := hP
  have hD : va_D A ((wX7_0_1_4_5 cy ad thr sta pri tcd frt frp lan deg num)) := hD
  suffices h00 : ∀ (H : Heap) (locs : List Loc), va_P D vwCl ((wX7_0_1_4_5 cy ad thr sta pri tcd frt frp lan deg num)) H → va_S A s.heap H locs → W p l e RMX7_count s m args below meth c H locs 0 0 QQ (F0 m 0 ls []) from h00 _ _ hP hS
  clear hP hS
  intro H locs hP hS
  have L58 : ∀ (thr_58 : Int32) (n58 : Nat) (H : Heap) (locs : List Loc) (ls : Array Slot) (x2_58 : Int32) (x3_58 : Int32), FX7_count_L58 thr_58 lan n58 x2_58 x3_58 = some out → va_P D vwCl ((wX7_0_1_4_5 cy ad thr_58 sta pri tcd frt frp lan deg num)) H → va_D A ((wX7_0_1_4_5 cy ad thr_58 sta pri tcd frt frp lan deg num)) → va_S A s.heap H locs → lv_has ls 4 [(0, .ref (ad 0)), (2, .int x2_58), (3, .int x3_58)] → W p l e RMX7_count s m args below meth c H locs 0 0 QQ (F0 m 58 ls []) := by
    intro thr_58 n58
    induction n58 with
    | zero => intro H locs ls x2_58 x3_58 hf; simp [FX7_count_L58] at hf
    | succ n58 ih58 =>
      intro H locs ls x2_58 x3_58 hf hP hD hS hl
      rw [FX7_count_L58] at hf
      have J79 : ∀ (H : Heap) (locs : List Loc) (ls : Array Slot) (x3_79 : Int32) (s0_79 : Int32) (s1_79 : Bool), FX7_count_J79 (FX7_count_L58 thr_58 lan n58) x3_79 s0_79 s1_79 thr_58 lan = some out → va_P D vwCl ((wX7_0_1_4_5 cy ad thr_58 sta pri tcd frt frp lan deg num)) H → va_D A ((wX7_0_1_4_5 cy ad thr_58 sta pri tcd frt frp lan deg num)) → va_S A s.heap H locs → lv_has ls 4 [(0, .ref (ad 0)), (3, .int x3_79)] → W p l e RMX7_count s m args below meth c H locs 0 0 QQ (F0 m 79 ls [.int (bi s1_79), .int s0_79]) := by
        intro H locs ls x3_79 s0_79 s1_79 hf hP hD hS hl
        unfold FX7_count_J79 at hf
        refine lv_iadd hx hb dX7_count_79 ?_
        refine lv_topi (fun v_80 e_80 => ?_)
        replace hf := bd_at e_80 hf
        clear e_80
        refine lv_istore_n (lv' := [(2, .int v_80), (0, .ref (ad 0)), (3, .int x3_79)]) hx hb dX7_count_80 rfl hl (by decide) rfl (fun ls hl => ?_)
        obtain ⟨v_81, e_81⟩ : ∃ y : Int32, y = x3_79 + 1 := ⟨_, rfl⟩
        replace hf := bd_at e_81 hf
        refine lv_iinc (v := v_81) (lv' := [(3, .int v_81), (2, .int v_80), (0, .ref (ad 0))]) hx hb dX7_count_81 hl (k := 2) rfl (by rw [e_81]; rfl) (by decide) rfl (fun ls hl => ?_)
        clear e_81
        refine lv_goto (tgt := 58) hx hb dX7_count_84 (by decide) ?_
        exact ih58 H locs ls v_80 v_81 hf hP hD hS (lv_sub hl [2, 1, 0] rfl)
      refine lv_iload_n hx hb dX7_count_58 rfl (lv_at hl 2 rfl) ?_
      refine lv_bipush (v := 8) hx hb dX7_count_59 (by decide) ?_
      refine lv_icmp_ge (tgt := 87) hx hb dX7_count_61 (by decide) (fun c_61 => ?_) (fun c_61 => ?_)
      · replace hf := it_p c_61 hf
        refine lv_iload_n hx hb dX7_count_87 rfl (lv_at hl 1 rfl) ?_
        obtain rfl := Option.some.inj hf
        rw [← hQe]
        exact W.iret (v := x2_58) hx hb hr (fun t ht hW => ⟨rfl, by rw [ht]; exact hP, hS.F ht⟩) hS.2.2 dX7_count_88
      · replace hf := it_n c_61 hf
        refine lv_iload_n hx hb dX7_count_64 rfl (lv_at hl 1 rfl) ?_
        refine lv_aload_n hx hb dX7_count_65 rfl (lv_at hl 0 rfl) ?_
        refine va_get (a := (ad 0)) (ci := 7) (v := .ref (ad 1)) (C := RX7) (T := TX7) (N := 28) hx hb hts hin_X7 hown hK hP 0 rfl rfl 3 (by decide) hw_1 (fun _ h => h) rfl dX7_count_66 ?_
        refine lv_iload_n hx hb dX7_count_69 rfl (lv_at hl 2 rfl) ?_
        replace hf := gi_e hf
        obtain ⟨i_70, hf⟩ := hf
        refine va_iald (a := (ad 1)) hx hb hK hP 1 0 rfl rfl i_70 dX7_count_70 ?_
        refine lv_if_lt (tgt := 78) hx hb dX7_count_71 (by decide) (fun c_71 => ?_) (fun c_71 => ?_)
        · replace hf := it_p c_71 hf
          refine lv_iconst (v := 0) hx hb dX7_count_78 (by decide) ?_
          exact J79 H locs ls x3_58 x2_58 false hf hP hD hS (lv_sub hl [0, 2] rfl)
        · replace hf := it_n c_71 hf
          refine lv_iconst (v := 1) hx hb dX7_count_74 (by decide) ?_
          refine lv_goto (tgt := 79) hx hb dX7_count_75 (by decide) ?_
          exact J79 H locs ls x3_58 x2_58 true hf hP hD hS (lv_sub hl [0, 2] rfl)
  have L91 : ∀ (thr_91 : Int32) (n91 : Nat) (H : Heap) (locs : List Loc) (ls : Array Slot) (x2_91 : Int32) (x3_91 : Int32), FX7_count_L91 x1 thr_91 deg num n91 x2_91 x3_91 = some out → va_P D vwCl ((wX7_0_1_4_5 cy ad thr_91 sta pri tcd frt frp lan deg num)) H → va_D A ((wX7_0_1_4_5 cy ad thr_91 sta pri tcd frt frp lan deg num)) → va_S A s.heap H locs → lv_has ls 4 [(0, .ref (ad 0)), (1, .int x1), (2, .int x2_91), (3, .int x3_91)] → W p l e RMX7_count s m args below meth c H locs 0 0 QQ (F0 m 91 ls []) := by
    intro thr_91 n91
    induction n91 with
    | zero => intro H locs ls x2_91 x3_91 hf; simp [FX7_count_L91] at hf
    | succ n91 ih91 =>
      intro H locs ls x2_91 x3_91 hf hP hD hS hl
      rw [FX7_count_L91] at hf
      have J126 : ∀ (H : Heap) (locs : List Loc) (ls : Array Slot) (x3_126 : Int32) (s0_126 : Int32) (s1_126 : Bool), FX7_count_J126 (FX7_count_L91 x1 thr_91 deg num n91) x1 x3_126 s0_126 s1_126 thr_91 deg num = some out → va_P D vwCl ((wX7_0_1_4_5 cy ad thr_91 sta pri tcd frt frp lan deg num)) H → va_D A ((wX7_0_1_4_5 cy ad thr_91 sta pri tcd frt frp lan deg num)) → va_S A s.heap H locs → lv_has ls 4 [(0, .ref (ad 0)), (1, .int x1), (3, .int x3_126)] → W p l e RMX7_count s m args below meth c H locs 0 0 QQ (F0 m 126 ls [.int (bi s1_126), .int s0_126]) := by
        intro H locs ls x3_126 s0_126 s1_126 hf hP hD hS hl
        unfold FX7_count_J126 at hf
        refine lv_iadd hx hb dX7_count_126 ?_
        refine lv_topi (fun v_127 e_127 => ?_)
        replace hf := bd_at e_127 hf
        clear e_127
        refine lv_istore_n (lv' := [(2, .int v_127), (0, .ref (ad 0)), (1, .int x1), (3, .int x3_126)]) hx hb dX7_count_127 rfl hl (by decide) rfl (fun ls hl => ?_)
        obtain ⟨v_128, e_128⟩ : ∃ y : Int32, y = x3_126 + 1 := ⟨_, rfl⟩
        replace hf := bd_at e_128 hf
        refine lv_iinc (v := v_128) (lv' := [(3, .int v_128), (2, .int v_127), (0, .ref (ad 0)), (1, .int x1)]) hx hb dX7_count_128 hl (k := 3) rfl (by rw [e_128]; rfl) (by decide) rfl (fun ls hl => ?_)
        clear e_128
        refine lv_goto (tgt := 91) hx hb dX7_count_131 (by decide) ?_
        exact ih91 H locs ls v_127 v_128 hf hP hD hS (lv_sub hl [2, 3, 1, 0] rfl)
      have J125 : ∀ (H : Heap) (locs : List Loc) (ls : Array Slot) (x3_125 : Int32) (s0_125 : Int32), FX7_count_J125 (FX7_count_L91 x1 thr_91 deg num n91) x1 x3_125 s0_125 thr_91 deg num = some out → va_P D vwCl ((wX7_0_1_4_5 cy ad thr_91 sta pri tcd frt frp lan deg num)) H → va_D A ((wX7_0_1_4_5 cy ad thr_91 sta pri tcd frt frp lan deg num)) → va_S A s.heap H locs → lv_has ls 4 [(0, .ref (ad 0)), (1, .int x1), (3, .int x3_125)] → W p l e RMX7_count s m args below meth c H locs 0 0 QQ (F0 m 125 ls [.int s0_125]) := by
        intro H locs ls x3_125 s0_125 hf hP hD hS hl
        unfold FX7_count_J125 at hf
        refine lv_iconst (v := 0) hx hb dX7_count_125 (by decide) ?_
        exact J126 H locs ls x3_125 s0_125 false hf hP hD hS (lv_sub hl [0, 1, 2] rfl)
      refine lv_iload_n hx hb dX7_count_91 rfl (lv_at hl 3 rfl) ?_
      refine lv_bipush (v := 10) hx hb dX7_count_92 (by decide) ?_
      refine lv_icmp_ge (tgt := 134) hx hb dX7_count_94 (by decide) (fun c_94 => ?_) (fun c_94 => ?_)
      · replace hf := it_p c_94 hf
        refine lv_iload_n hx hb dX7_count_134 rfl (lv_at hl 2 rfl) ?_
        obtain rfl := Option.some.inj hf
        rw [← hQe]
        exact W.iret (v := x2_91) hx hb hr (fun t ht hW => ⟨rfl, by rw [ht]; exact hP, hS.F ht⟩) hS.2.2 dX7_count_135
      · replace hf := it_n c_94 hf
        refine lv_iload_n hx hb dX7_count_97 rfl (lv_at hl 2 rfl) ?_
        refine lv_aload_n hx hb dX7_count_98 rfl (lv_at hl 0 rfl) ?_
        refine va_get (a := (ad 0)) (ci := 7) (v := .ref (ad 4)) (C := RX7) (T := TX7) (N := 28) hx hb hts hin_X7 hown hK hP 0 rfl rfl 6 (by decide) hw_2 (fun _ h => h) rfl dX7_count_99 ?_
        refine lv_iload_n hx hb dX7_count_102 rfl (lv_at hl 3 rfl) ?_
        replace hf := gi_e hf
        obtain ⟨i_103, hf⟩ := hf
        refine va_iald (a := (ad 4)) hx hb hK hP 2 0 rfl rfl i_103 dX7_count_103 ?_
        refine lv_if_lt (tgt := 125) hx hb dX7_count_104 (by decide) (fun c_104 => ?_) (fun c_104 => ?_)
        · replace hf := it_p c_104 hf
          exact J125 H locs ls x3_91 x2_91 hf hP hD hS (lv_sub hl [0, 1, 3] rfl)
        · replace hf := it_n c_104 hf
          refine lv_aload_n hx hb dX7_count_107 rfl (lv_at hl 0 rfl) ?_
          refine lv_iload_n hx hb dX7_count_108 rfl (lv_at hl 3 rfl) ?_
          replace hf := ob_e hf
          obtain ⟨u_109, hu_109, hf⟩ := hf
          refine ivR (As := [.int x3_91]) (rest := [.int x2_91]) (st1 := [.int u_109, .int x2_91]) ⟨hx, hb, hml, hown, hts⟩ hK hN (KX7_kindOf l D cy ad thr_91 sta pri tcd frt frp deg num x3_91 H.size hu_109) (cwV 1 hts gX7_count_X7_kindOf rfl rfl rfl (by decide +kernel) ⟨Nat.le_of_ble_eq_true rfl, Nat.le_of_ble_eq_true rfl⟩) (va_recv hK hP (ci := 7) (q0 := 0) rfl rfl) (P_pl (wc := (wX7_0_4_5 cy ad thr_91 sta pri tcd frt frp deg num)) (is := [0, 2, 3]) hP rfl) rfl hl.1 rfl (Nat.le_of_ble_eq_true rfl) rfl dX7_count_109 ⟨Nat.zero_le _, Nat.zero_le _⟩ ?_
          refine lv_iload_n hx hb dX7_count_112 rfl (lv_at hl 1 rfl) ?_
          refine lv_iconst (v := 1) hx hb dX7_count_113 (by decide) ?_
          refine lv_isub hx hb dX7_count_114 ?_
          replace hf := ob_e hf
          obtain ⟨u_115, hu_115, hf⟩ := hf
          refine isR (As := [.int u_109, .int (x1 - 1)]) (rest := [.int x2_91]) (st1 := [.int (bi u_115), .int x2_91]) ⟨hx, hb, hml, hown, hts⟩ hK hN (KX7_isOf l D cy u_109 (x1 - 1) H.size hu_115) (va_cwS 2 hts gX7_count_X7_isOf rfl rfl rfl (by decide +kernel) ⟨Nat.le_of_ble_eq_true rfl, Nat.le_of_ble_eq_true rfl⟩) P_nil rfl hl.1 rfl (Nat.le_of_ble_eq_true rfl) rfl dX7_count_115 ⟨Nat.zero_le _, Nat.zero_le _⟩ ?_
          refine lv_if_eq (tgt := 125) hx hb dX7_count_118 (by decide) (fun c_118 => ?_) (fun c_118 => ?_)
          · replace hf := it_p c_118 hf
            exact J125 H locs ls x3_91 x2_91 hf hP hD hS (lv_sub hl [0, 1, 3] rfl)
          · replace hf := it_n c_118 hf
            refine lv_iconst (v := 1) hx hb dX7_count_121 (by decide) ?_
            refine lv_goto (tgt := 126) hx hb dX7_count_122 (by decide) ?_
            exact J126 H locs ls x3_91 x2_91 true hf hP hD hS (lv_sub hl [0, 1, 3] rfl)
  have J89 : ∀ (H : Heap) (locs : List Loc) (ls : Array Slot) (thr_89 : Int32), FX7_count_J89 x1 thr_89 deg num = some out → va_P D vwCl ((wX7_0_1_4_5 cy ad thr_89 sta pri tcd frt frp lan deg num)) H → va_D A ((wX7_0_1_4_5 cy ad thr_89 sta pri tcd frt frp lan deg num)) → va_S A s.heap H locs → lv_has ls 4 [(0, .ref (ad 0)), (1, .int x1), (2, .int 0)] → W p l e RMX7_count s m args below meth c H locs 0 0 QQ (F0 m 89 ls []) := by
    intro H locs ls thr_89 hf hP hD hS hl
    unfold FX7_count_J89 at hf
    refine lv_iconst (v := 0) hx hb dX7_count_89 (by decide) ?_
    refine lv_istore_n (lv' := [(3, .int 0), (0, .ref (ad 0)), (1, .int x1), (2, .int 0)]) hx hb dX7_count_90 rfl hl (by decide) rfl (fun ls hl => ?_)
    exact L91 thr_89 FU H locs ls 0 0 hf hP hD hS (lv_sub hl [1, 2, 3, 0] rfl)
  unfold FX7_count at hf
  refine lv_aload_n hx hb dX7_count_0 rfl (lv_at hl 0 rfl) ?_
  refine lv_iconst (v := 0) hx hb dX7_count_1 (by decide) ?_
  refine va_put (a := (ad 0)) (ci := 7) (v := .int 0) (ty := .int) (C := RX7) (T := TX7) (N := 28) hx hb hts hin_X7 tyX7 tyX7_ok nmX7 hown hK hP hD hS 0 rfl rfl 0 (by decide) hw_3 (fun _ h => h) rfl (by decide +kernel) rfl rfl (Nat.le_of_ble_eq_true rfl) dX7_count_2 (fun H locs hP hD hS => ?_)
  have hP : va_P D vwCl ((wX7_0_1_4_5 cy ad 0 sta pri tcd frt frp lan deg num)) H := hP
  have hD : va_D A ((wX7_0_1_4_5 cy ad 0 sta pri tcd frt frp lan deg num)) := hD
  refine lv_iconst (v := 0) hx hb dX7_count_5 (by decide) ?_
  refine lv_istore_n (lv' := [(2, .int 0), (0, .ref (ad 0)), (1, .int x1)]) hx hb dX7_count_6 rfl hl (by decide) rfl (fun ls hl => ?_)
  refine lv_iload_n hx hb dX7_count_7 rfl (lv_at hl 2 rfl) ?_
  by_cases c_8_0 : x1 = 0
  · replace hf := it_p c_8_0 hf
    refine lv_tableIn (tgt := 56) (off := 48) hx hb dX7_count_8 (by rw [c_8_0]; decide) (by rw [c_8_0]; decide) (by rw [c_8_0]; rfl) (by decide) ?_
    refine lv_iconst (v := 0) hx hb dX7_count_56 (by decide) ?_
    refine lv_istore_n (lv' := [(3, .int 0), (2, .int 0), (0, .ref (ad 0)), (1, .int x1)]) hx hb dX7_count_57 rfl hl (by decide) rfl (fun ls hl => ?_)
    exact L58 0 FU H locs ls 0 0 hf hP hD hS (lv_sub hl [2, 1, 0] rfl)
  replace hf := it_n c_8_0 hf
  by_cases c_8_1 : x1 = 1
  · replace hf := it_p c_8_1 hf
    refine lv_tableIn (tgt := 89) (off := 81) hx hb dX7_count_8 (by rw [c_8_1]; decide) (by rw [c_8_1]; decide) (by rw [c_8_1]; rfl) (by decide) ?_
    exact J89 H locs ls 0 hf hP hD hS (lv_sub hl [1, 2, 0] rfl)
  replace hf := it_n c_8_1 hf
  by_cases c_8_2 : x1 = 2
  · replace hf := it_p c_8_2 hf
    refine lv_tableIn (tgt := 89) (off := 81) hx hb dX7_count_8 (by rw [c_8_2]; decide) (by rw [c_8_2]; decide) (by rw [c_8_2]; rfl) (by decide) ?_
    exact J89 H locs ls 0 hf hP hD hS (lv_sub hl [1, 2, 0] rfl)
  replace hf := it_n c_8_2 hf
  by_cases c_8_3 : x1 = 3
  · replace hf := it_p c_8_3 hf
    refine lv_tableIn (tgt := 89) (off := 81) hx hb dX7_count_8 (by rw [c_8_3]; decide) (by rw [c_8_3]; decide) (by rw [c_8_3]; rfl) (by decide) ?_
    exact J89 H locs ls 0 hf hP hD hS (lv_sub hl [1, 2, 0] rfl)
  replace hf := it_n c_8_3 hf
  by_cases c_8_4 : x1 = 4
  · replace hf := it_p c_8_4 hf
    refine lv_tableIn (tgt := 89) (off := 81) hx hb dX7_count_8 (by rw [c_8_4]; decide) (by rw [c_8_4]; decide) (by rw [c_8_4]; rfl) (by decide) ?_
    exact J89 H locs ls 0 hf hP hD hS (lv_sub hl [1, 2, 0] rfl)
  replace hf := it_n c_8_4 hf
  by_cases c_8_5 : x1 = 5
  · replace hf := it_p c_8_5 hf
    refine lv_tableIn (tgt := 89) (off := 81) hx hb dX7_count_8 (by rw [c_8_5]; decide) (by rw [c_8_5]; decide) (by rw [c_8_5]; rfl) (by decide) ?_
    exact J89 H locs ls 0 hf hP hD hS (lv_sub hl [1, 2, 0] rfl)
  replace hf := it_n c_8_5 hf
  by_cases c_8_6 : x1 = 6
  · replace hf := it_p c_8_6 hf
    refine lv_tableIn (tgt := 89) (off := 81) hx hb dX7_count_8 (by rw [c_8_6]; decide) (by rw [c_8_6]; decide) (by rw [c_8_6]; rfl) (by decide) ?_
    exact J89 H locs ls 0 hf hP hD hS (lv_sub hl [1, 2, 0] rfl)
  replace hf := it_n c_8_6 hf
  by_cases c_8_7 : x1 = 7
  · replace hf := it_p c_8_7 hf
    refine lv_tableIn (tgt := 136) (off := 128) hx hb dX7_count_8 (by rw [c_8_7]; decide) (by rw [c_8_7]; decide) (by rw [c_8_7]; rfl) (by decide) ?_
    refine lv_aload_n hx hb dX7_count_136 rfl (lv_at hl 1 rfl) ?_
    refine va_get (a := (ad 0)) (ci := 7) (v := .int pri) (C := RX7) (T := TX7) (N := 28) hx hb hts hin_X7 hown hK hP 0 rfl rfl 2 (by decide) hw_4 (fun _ h => h) rfl dX7_count_137 ?_
    obtain rfl := Option.some.inj hf
    rw [← hQe]
    exact W.iret (v := pri) hx hb hr (fun t ht hW => ⟨rfl, by rw [ht]; exact hP, hS.F ht⟩) hS.2.2 dX7_count_140
  replace hf := it_n c_8_7 hf
  have hsw : (x1 : Int32).toInt < 0 ∨ 7 < (x1 : Int32).toInt := by
    have h0 : (x1 : Int32).toInt ≠ 0 := ne_toInt c_8_0
    have h1 : (x1 : Int32).toInt ≠ 1 := ne_toInt c_8_1
    have h2 : (x1 : Int32).toInt ≠ 2 := ne_toInt c_8_2
    have h3 : (x1 : Int32).toInt ≠ 3 := ne_toInt c_8_3
    have h4 : (x1 : Int32).toInt ≠ 4 := ne_toInt c_8_4
    have h5 : (x1 : Int32).toInt ≠ 5 := ne_toInt c_8_5
    have h6 : (x1 : Int32).toInt ≠ 6 := ne_toInt c_8_6
    have h7 : (x1 : Int32).toInt ≠ 7 := ne_toInt c_8_7
    omega
  refine lv_tableOut (tgt := 141) hx hb dX7_count_8 hsw (by decide) ?_
  refine lv_ldc (own := RX7) (v := (-1000001)) hx hb hown hw_0 dX7_count_141 ?_
  obtain rfl := Option.some.inj hf
  rw [← hQe]
  exact W.iret (v := (-1000001)) hx hb hr (fun t ht hW => ⟨rfl, by rw [ht]; exact hP, hS.F ht⟩) hS.2.2 dX7_count_143
def FX7_status  (sta : Int32)  : Option (Int32 × (Int32)) := (some (sta, 0))
abbrev RMX7_status : Room := { frames := 0, cells := 0, slots := 0, locals := 0 }
set_option maxHeartbeats 4000000 in
set_option maxRecDepth 100000 in
theorem KX7_status (l : Launch) (D : va_G) (cy : Nat → ClassId) (ad : Nat → Nat) (thr : Int32) (sta : Int32) (pri : Int32) (tcd : Int32) (frt : Int32) (frp : Int32)  (sz : Nat) {out : Int32 × (Int32)} (hf : FX7_status sta = some out) : Met l yX7_status wsX7_status RMX7_status (PW D cy [.ref (ad 0)] sz ((wX7_0 cy ad thr sta pri tcd frt frp)) []) (QW D (some (.int out.1)) ((wX7_0 cy ad out.2 sta pri tcd frt frp)) (va_A ((wX7_0 cy ad thr sta pri tcd frt frp)) sz)) 0 0 (va_A ((wX7_0 cy ad thr sta pri tcd frt frp)) sz) := by
  refine Met.ofW (cc := cX7_status) (maxL := 1) (ret := (some .int)) (by decide +kernel) rfl ?_
  intro p e s m args below meth c s₁ B hml hv
  obtain ⟨hav, hsz, hP, hR0, hK, hN, hD0, hsep⟩ := hv
  have hx := B.exec
  have hb := B.bytes
  have hr := B.returns
  have hts := atoms_spec (ws := wsX7_status) B.pre
  have hown : s.vm.findClass RX7 = some m.cls := findClass_of_methodNamed B.named
  have hlocks := B.notSynchronized
  subst hsz
  have hin_X7 : ∀ w ∈ u_ws RX7 TX7 28, w ∈ wsX7_status := by decide +kernel
  have hw_0 := hts (.fieldLink RX7 1 "ReturnPointsModel" "thrown" "I") (by decide +kernel)
  have hw_1 := hts (.fieldLink RX7 7 "ReturnPointsModel" "status" "I") (by decide +kernel)
  have hD := hD0.self (sz := s.heap.size)
  have hnA := roA hsep hR0
  generalize hAe : va_A ((wX7_0 cy ad thr sta pri tcd frt frp)) s.heap.size = A at hD hnA ⊢
  have hA : ∀ q : Nat, s.heap.size ≤ q → A q := fun q h => by rw [← hAe]; exact Or.inr h
  have hS : va_S A s.heap s.heap [] := va_S.rf
  obtain ⟨ls, hfr, hl⟩ := ent_ok (m := m) (n := 1) (l' := [(0, .ref (ad 0))]) [.ref (ad 0)] hav (Nat.le_of_ble_eq_true rfl) rfl
  rw [hfr]
  generalize hQe : MQ below (QW D (some (.int out.1)) ((wX7_0 cy ad out.2 sta pri tcd frt frp)) A) args s 0 0 A = QQ
  change W p l e RMX7_status s m args below meth c s.heap [] 0 0 QQ (F0 m 0 ls [])
  have hP : va_P D vwCl ((wX7_0 cy ad thr sta pri tcd frt frp)) s.heap := hP
  have hD : va_D A ((wX7_0 cy ad thr sta pri tcd frt frp)) := hD
  suffices h00 : ∀ (H : Heap) (locs : List Loc), va_P D vwCl ((wX7_0 cy ad thr sta pri tcd frt frp)) H → va_S A s.heap H locs → W p l e RMX7_status s m args below meth c H locs 0 0 QQ (F0 m 0 ls []) from h00 _ _ hP hS
  clear hP hS
  intro H locs hP hS
  unfold FX7_status at hf
  refine lv_aload_n hx hb dX7_status_0 rfl (lv_at hl 0 rfl) ?_
  refine lv_iconst (v := 0) hx hb dX7_status_1 (by decide) ?_
  refine va_put (a := (ad 0)) (ci := 7) (v := .int 0) (ty := .int) (C := RX7) (T := TX7) (N := 28) hx hb hts hin_X7 tyX7 tyX7_ok nmX7 hown hK hP hD hS 0 rfl rfl 0 (by decide) hw_0 (fun _ h => h) rfl (by decide +kernel) rfl rfl (Nat.le_of_ble_eq_true rfl) dX7_status_2 (fun H locs hP hD hS => ?_)
  have hP : va_P D vwCl ((wX7_0 cy ad 0 sta pri tcd frt frp)) H := hP
  have hD : va_D A ((wX7_0 cy ad 0 sta pri tcd frt frp)) := hD
  refine lv_aload_n hx hb dX7_status_5 rfl (lv_at hl 0 rfl) ?_
  refine va_get (a := (ad 0)) (ci := 7) (v := .int sta) (C := RX7) (T := TX7) (N := 28) hx hb hts hin_X7 hown hK hP 0 rfl rfl 1 (by decide) hw_1 (fun _ h => h) rfl dX7_status_6 ?_
  obtain rfl := Option.some.inj hf
  rw [← hQe]
  exact W.iret (v := sta) hx hb hr (fun t ht hW => ⟨rfl, by rw [ht]; exact hP, hS.F ht⟩) hS.2.2 dX7_status_9
