/-! out: rows -/
theorem cntEq_in {f : Nat → Int32} {x : Int32} (k : Nat) : ∀ n, cntEq (upd f k x) x n ≤ cntEq f x n + (if k < n then 1 else 0)
  | 0 => by rw [if_neg (by omega)]; exact Nat.le_refl 0
  | n + 1 => by
    have ih := cntEq_in (f := f) (x := x) k n
    rw [cntEq, cntEq]
    by_cases e : n = k
    · subst e
      rw [if_neg (by omega)] at ih
      rw [pk_us, if_pos rfl, if_pos (show n < n + 1 by omega)]; omega
    · rw [pk_un e]
      by_cases q : k < n
      · rw [if_pos q] at ih
        rw [if_pos (show k < n + 1 by omega)]; omega
      · rw [if_neg q] at ih
        rw [if_neg (show ¬ k < n + 1 by omega)]; omega
theorem sq7 {q : Nat} (h : q ≤ 48) : nI q / 7 = nI (q / 7) := pk_div (d := 7) (by omega) (by omega) (by omega)
theorem sr7 {q : Nat} (h : q ≤ 48) : nI q - nI q / 7 * 7 = nI (q % 7) := pk_rem (d := 7) (by omega) (by omega) (by omega)
theorem distance7 {q r : Nat} (hq : q ≤ 48) (hr : r ≤ 48) : p_X7_distance (nI q) (nI r) = some (nI (dst (q % 7) (r % 7) + dst (q / 7) (r / 7))) := by
  unfold p_X7_distance
  rw [sr7 hq, sr7 hr, sq7 hq, sq7 hr, apart7 (by omega) (by omega) (by omega) (by omega), bi1S]
