/-! a run of cells set anew, at once -/
theorem setM_run : ∀ (n k : Nat) (ws w1 : va_W), w1.length = n → k + n ≤ ws.length → setM ws (List.range' k n) w1 = ws.take k ++ (w1 ++ ws.drop (k + n))
  | 0, k, ws, w1, h, _ => by
    cases w1 with
    | nil => show ws = _; rw [List.nil_append, Nat.add_zero, List.take_append_drop]
    | cons a b => simp at h
  | n + 1, k, ws, w1, h, hl => by
    cases w1 with
    | nil => simp at h
    | cons a w1 =>
      show setM (ws.set k a) (List.range' (k + 1) n) w1 = _
      rw [setM_run n (k + 1) (ws.set k a) w1 (by simpa using h) (by simp; omega)]
      have hk : k < ws.length := by omega
      have e1 : (ws.set k a).take (k + 1) = ws.take k ++ [a] := by
        rw [List.take_succ, List.take_set_of_le (Nat.le_refl _), List.getElem?_set_self hk]; rfl
      have e2 : (ws.set k a).drop (k + 1 + n) = ws.drop (k + (n + 1)) := by
        rw [List.drop_set_of_lt (by omega)]; congr 1; omega
      rw [e1, e2]
      simp
