/-! numbers: 32 bits as naturals -/
theorem cl_n {n : Nat} (h : n < 2147483648) : (nI n).toNatClampNeg = n := nI_clamp (by omega)
theorem le_n {a b : Nat} (ha : a < 2147483648) (hb : b < 2147483648) : (nI a ≤ nI b) = (a ≤ b) := propext (nI_leI (by omega) (by omega))
theorem lt_n {a b : Nat} (ha : a < 2147483648) (hb : b < 2147483648) : (nI a < nI b) = (a < b) := propext (nI_ltI (by omega) (by omega))
theorem eq_n {a b : Nat} (ha : a < 2147483648) (hb : b < 2147483648) : (nI a = nI b) = (a = b) := propext (nI_eq (by omega) (by omega))
theorem in_n {i n : Nat} (h : i < n) (hn : n < 2147483648) : vp_in (nI i) n := vp_in_nI h (by omega)
theorem irm_n {a d : Nat} (ha : a < 2147483648) (h0 : 0 < d) (hd : d < 2147483648) : irm (nI a) (nI d) = nI (a % d) := pk_rem (by omega) h0 (by omega)
theorem ne0_n {d : Nat} (h0 : 0 < d) (hd : d < 2147483648) : ¬ nI d = 0 := nI_ne0 h0 (by omega)
theorem sub_n {a b : Nat} (h : b ≤ a) : nI a - nI b = nI (a - b) := pk_sub h
theorem lit_n (n : Nat) : (OfNat.ofNat n : Int32) = nI n := rfl
theorem FU_big {n : Nat} (h : n < 100000) : n < FU := h
/-- a loop that counts i up to N: a state that holds I, a step that keeps it -/
theorem cloop {σ R : Type} (N : Nat) (F : Nat → Int32 → σ → Option R) (E : σ → Option R) (I : Nat → σ → Prop) (hx : ∀ fuel st, I N st → F (fuel + 1) (nI N) st = E st) (hs : ∀ fuel i st, i < N → I i st → ∃ st', I (i + 1) st' ∧ F (fuel + 1) (nI i) st = F fuel (nI (i + 1)) st') : ∀ k fuel i st, i + k = N → k < fuel → I i st → ∃ st', I N st' ∧ F fuel (nI i) st = E st'
  | 0, fuel, i, st, h1, h2, h3 => by
    obtain ⟨f, rfl⟩ : ∃ f, fuel = f + 1 := ⟨fuel - 1, by omega⟩
    have : i = N := by omega
    subst this
    exact ⟨st, h3, hx f st h3⟩
  | k + 1, fuel, i, st, h1, h2, h3 => by
    obtain ⟨f, rfl⟩ : ∃ f, fuel = f + 1 := ⟨fuel - 1, by omega⟩
    obtain ⟨st', h4, h5⟩ := hs f i st (by omega) h3
    obtain ⟨st2, h6, h7⟩ := cloop N F E I hx hs k f (i + 1) st' (by omega) (by omega) h4
    exact ⟨st2, h6, h5.trans h7⟩
theorem cloop0 {σ R : Type} (N : Nat) (hN : N < 100000) (F : Nat → Int32 → σ → Option R) (E : σ → Option R) (I : Nat → σ → Prop) (st : σ) (h0 : I 0 st) (hx : ∀ fuel st, I N st → F (fuel + 1) (nI N) st = E st) (hs : ∀ fuel i st, i < N → I i st → ∃ st', I (i + 1) st' ∧ F (fuel + 1) (nI i) st = F fuel (nI (i + 1)) st') : ∃ st', I N st' ∧ F FU 0 st = E st' := cloop N F E I hx hs N FU 0 st (by omega) (FU_big hN) h0
theorem cloop1 {σ R : Type} (i0 N : Nat) (hi : i0 ≤ N) (hN : N < 100000) (F : Nat → Int32 → σ → Option R) (E : σ → Option R) (I : Nat → σ → Prop) (st : σ) (h0 : I i0 st) (hx : ∀ fuel st, I N st → F (fuel + 1) (nI N) st = E st) (hs : ∀ fuel i st, i < N → I i st → ∃ st', I (i + 1) st' ∧ F (fuel + 1) (nI i) st = F fuel (nI (i + 1)) st') : ∃ st', I N st' ∧ F FU (nI i0) st = E st' := cloop N F E I hx hs (N - i0) FU i0 st (by omega) (FU_big (by omega)) h0
theorem upd_s {f : Nat → Int32} {k : Nat} {x : Int32} : upd f k x k = x := pk_us
theorem upd_n {f : Nat → Int32} {k j : Nat} {x : Int32} (h : j ≠ k) : upd f k x j = f j := pk_un h
/-- Horner: the numbers c(k-1), .., c(0) behind v -/
def hor (P : Nat) (c : Nat → Nat) (x : Nat) : Nat → Nat → Nat
  | 0, v => v
  | k + 1, v => hor P c x k ((v * x + c k) % P)
def slo (P : Nat) (c : Nat → Nat) (x : Nat) : Nat → Nat → Nat
  | 0, v => v
  | k + 1, v => slo P c x k ((v * x + (k + 1) * c (k + 1)) % P)
def valP (P : Nat) (c : Nat → Nat) (d x : Nat) : Nat := hor P c x (d + 1) 0
def sloP (P : Nat) (c : Nat → Nat) (d x : Nat) : Nat := slo P c x d 0
theorem hor_lt {P : Nat} {c : Nat → Nat} {x : Nat} (hP : 0 < P) : ∀ k v, v < P → hor P c x k v < P
  | 0, v, h => h
  | k + 1, v, h => hor_lt hP k _ (Nat.mod_lt _ hP)
theorem valP_lt {P : Nat} {c : Nat → Nat} {d x : Nat} (hP : 0 < P) : valP P c d x < P := hor_lt hP _ _ hP
theorem slo_lt {P : Nat} {c : Nat → Nat} {x : Nat} (hP : 0 < P) : ∀ k v, v < P → slo P c x k v < P
  | 0, v, h => h
  | k + 1, v, h => slo_lt hP k _ (Nat.mod_lt _ hP)
theorem sloP_lt {P : Nat} {c : Nat → Nat} {d x : Nat} (hP : 0 < P) : sloP P c d x < P := slo_lt hP _ _ hP
