/-! single changes of a state -/
def uN (f : Nat → Nat) (p v : Nat) : Nat → Nat := fun q => if q = p then v else f q
theorem uN_s (f : Nat → Nat) (p v : Nat) : uN f p v p = v := if_pos rfl
theorem uN_n {f : Nat → Nat} {p v q : Nat} (h : q ≠ p) : uN f p v q = f q := if_neg h
theorem rM_ow {f : Nat → Int32} {n : Nat} {ow co ar ch : Nat → Nat} (hM : rM f n ow co ar ch) (hn : n ≤ 14) {p v : Nat} (hp : p < n) : rM (upd f (4 * p) (nI v)) n (uN ow p v) co ar ch := by
  refine ⟨by rw [upd_n (by omega)]; exact hM.1, fun q hq => ?_⟩
  obtain ⟨a, b, c, d⟩ := hM.2 q hq
  by_cases e : q = p
  · subst e
    rw [upd_s, upd_n (by omega), upd_n (by omega), upd_n (by omega), uN_s]
    exact ⟨rfl, b, c, d⟩
  · rw [upd_n (by omega), upd_n (by omega), upd_n (by omega), upd_n (by omega), uN_n e]
    exact ⟨a, b, c, d⟩
theorem rM_co {f : Nat → Int32} {n : Nat} {ow co ar ch : Nat → Nat} (hM : rM f n ow co ar ch) (hn : n ≤ 14) {p v : Nat} (hp : p < n) : rM (upd f (4 * p + 1) (nI v)) n ow (uN co p v) ar ch := by
  refine ⟨by rw [upd_n (by omega)]; exact hM.1, fun q hq => ?_⟩
  obtain ⟨a, b, c, d⟩ := hM.2 q hq
  by_cases e : q = p
  · subst e
    rw [upd_s, upd_n (by omega), upd_n (by omega), upd_n (by omega), uN_s]
    exact ⟨a, rfl, c, d⟩
  · rw [upd_n (by omega), upd_n (by omega), upd_n (by omega), upd_n (by omega), uN_n e]
    exact ⟨a, b, c, d⟩
theorem rM_ar {f : Nat → Int32} {n : Nat} {ow co ar ch : Nat → Nat} (hM : rM f n ow co ar ch) (hn : n ≤ 14) {p v : Nat} (hp : p < n) : rM (upd f (4 * p + 2) (nI v)) n ow co (uN ar p v) ch := by
  refine ⟨by rw [upd_n (by omega)]; exact hM.1, fun q hq => ?_⟩
  obtain ⟨a, b, c, d⟩ := hM.2 q hq
  by_cases e : q = p
  · subst e
    rw [upd_s, upd_n (by omega), upd_n (by omega), upd_n (by omega), uN_s]
    exact ⟨a, b, rfl, d⟩
  · rw [upd_n (by omega), upd_n (by omega), upd_n (by omega), upd_n (by omega), uN_n e]
    exact ⟨a, b, c, d⟩
theorem rM_ch {f : Nat → Int32} {n : Nat} {ow co ar ch : Nat → Nat} (hM : rM f n ow co ar ch) (hn : n ≤ 14) {p v : Nat} (hp : p < n) : rM (upd f (4 * p + 3) (nI v)) n ow co ar (uN ch p v) := by
  refine ⟨by rw [upd_n (by omega)]; exact hM.1, fun q hq => ?_⟩
  obtain ⟨a, b, c, d⟩ := hM.2 q hq
  by_cases e : q = p
  · subst e
    rw [upd_s, upd_n (by omega), upd_n (by omega), upd_n (by omega), uN_s]
    exact ⟨a, b, c, rfl⟩
  · rw [upd_n (by omega), upd_n (by omega), upd_n (by omega), upd_n (by omega), uN_n e]
    exact ⟨a, b, c, d⟩
theorem uI {f : Nat → Int32} {g : Nat → Nat} {n p v : Nat} (h : ∀ q, q < n → f q = nI (g q)) : ∀ q, q < n → upd f p (nI v) q = nI (uN g p v q) := by
  intro q hq
  by_cases e : q = p
  · subst e; rw [upd_s, uN_s]
  · rw [upd_n e, uN_n e]; exact h q hq
theorem dm_bit (a k : Nat) : a / 2 ^ k % 2 = if a.testBit k = true then 1 else 0 := by
  rw [Nat.testBit_eq_decide_div_mod_eq]
  by_cases h : a / 2 ^ k % 2 = 1
  · rw [if_pos (by simp [h])]; exact h
  · rw [if_neg (by simp [h])]; omega
theorem pc_sum (a : Nat) : ∀ j, fo (fun k c => c + a / 2 ^ k % 2) j 0 = fo (fun k c => c + (if a.testBit k = true then 1 else 0)) j 0 := by
  intro j
  induction j with
  | zero => rfl
  | succ j ih => rw [fo_s, fo_s, ih, dm_bit]
theorem pc_mono {a b : Nat} (h : sub a b) : pc a ≤ pc b := by
  unfold pc
  rw [pc_sum, pc_sum]
  generalize 14 = j
  induction j with
  | zero => exact Nat.le_refl _
  | succ j ih =>
    rw [fo_s, fo_s]
    by_cases e : a.testBit j = true
    · rw [if_pos e, if_pos (h j e)]; omega
    · rw [if_neg e]; omega
theorem pc_or {a q : Nat} (h : ¬ a.testBit q = true) (hq : q < 14) : pc (a ||| 2 ^ q) = pc a + 1 := by
  unfold pc
  rw [pc_sum, pc_sum]
  have key : ∀ j, fo (fun k c => c + (if (a ||| 2 ^ q).testBit k = true then 1 else 0)) j 0 = fo (fun k c => c + (if a.testBit k = true then 1 else 0)) j 0 + (if q < j then 1 else 0) := by
    intro j
    induction j with
    | zero => rfl
    | succ j ih =>
      rw [fo_s, fo_s, ih, Nat.testBit_or, Nat.testBit_two_pow]
      by_cases e : q = j
      · subst e
        rw [if_neg (show ¬ q < q by omega), if_pos (show (a.testBit q || decide (q = q)) = true by simp), if_neg h, if_pos (show q < q + 1 by omega)]
      · by_cases e2 : q < j
        · rw [if_pos e2, if_pos (show q < j + 1 by omega)]
          by_cases e3 : a.testBit j = true
          · rw [if_pos (show (a.testBit j || decide (q = j)) = true by simp [e3]), if_pos e3] <;> omega
          · rw [if_neg (show ¬ (a.testBit j || decide (q = j)) = true by simp [e3, e]), if_neg e3] <;> omega
        · rw [if_neg e2, if_neg (show ¬ q < j + 1 by omega)]
          by_cases e3 : a.testBit j = true
          · rw [if_pos (by simp [e3]), if_pos e3]
          · rw [if_neg (by simp [e3, e]), if_neg e3]
  rw [key 14, if_pos hq]
theorem cnt_upd {ar : Nat → Nat} {p v : Nat} : ∀ n, cntN n (uN ar p v) + (if p < n then pc (ar p) else 0) = cntN n ar + (if p < n then pc v else 0) := by
  intro n
  unfold cntN
  induction n with
  | zero => rfl
  | succ n ih =>
    rw [fo_s, fo_s]
    by_cases e : n = p
    · subst e
      rw [if_neg (by omega), if_neg (by omega)] at ih
      rw [if_pos (by omega), if_pos (by omega), uN_s]
      omega
    · rw [uN_n e]
      by_cases e2 : p < n
      · rw [if_pos e2, if_pos e2] at ih
        rw [if_pos (by omega), if_pos (by omega)]
        omega
      · rw [if_neg e2, if_neg e2] at ih
        rw [if_neg (by omega), if_neg (by omega)]
        omega
theorem cnt_up {ar : Nat → Nat} {p v n : Nat} (hp : p < n) : cntN n (uN ar p v) + pc (ar p) = cntN n ar + pc v := by
  have := cnt_upd (ar := ar) (p := p) (v := v) n
  rw [if_pos hp, if_pos hp] at this
  exact this
theorem xor_out {a q : Nat} (ha : a < 2 ^ 31) (h : a.testBit q = true) : a &&& (2 ^ q ^^^ (2 ^ 31 - 1)) = a ^^^ 2 ^ q := by
  apply Nat.eq_of_testBit_eq
  intro k
  rw [Nat.testBit_and, Nat.testBit_xor, Nat.testBit_xor, Nat.testBit_two_pow, Nat.testBit_two_pow_sub_one]
  by_cases e : q = k
  · subst e
    have : q < 31 := Nat.lt_of_not_le fun hle => by rw [bits_lt ha hle] at h; cases h
    simp [h, this]
  · by_cases h2 : a.testBit k = true
    · have : k < 31 := Nat.lt_of_not_le fun hle => by rw [bits_lt ha hle] at h2; cases h2
      simp [h2, this, e]
    · simp [h2, e]
theorem or_lt {a q n : Nat} (ha : a < 2 ^ n) (hq : q < n) : a ||| 2 ^ q < 2 ^ n := Nat.or_lt_two_pow ha (Nat.pow_lt_pow_right (by omega) hq)
theorem xor_lt {a q n : Nat} (ha : a < 2 ^ n) (hq : q < n) : a ^^^ 2 ^ q < 2 ^ n := Nat.xor_lt_two_pow ha (Nat.pow_lt_pow_right (by omega) hq)
section ED
variable {u : SS} {f : Nat → Int32} {n : Nat} {ow co ar ch : Nat → Nat} {tk : Nat} {c : Int32}
theorem ok_ow (ok : okS n ow co ar ch tk) {p v : Nat} (hv : v < 2) : okS n (uN ow p v) co ar ch tk := by
  obtain ⟨⟨h1, h2⟩, h3⟩ := ok
  refine ⟨⟨h1, fun q hq => ?_⟩, h3⟩
  obtain ⟨a, b, d⟩ := h2 q hq
  refine ⟨?_, b, d⟩
  by_cases e : q = p
  · subst e; rw [uN_s]; exact hv
  · rw [uN_n e]; exact a
theorem ok_co (ok : okS n ow co ar ch tk) {p v : Nat} (hv : v ≤ 7) : okS n ow (uN co p v) ar ch tk := by
  obtain ⟨⟨h1, h2⟩, h3, h4⟩ := ok
  refine ⟨⟨h1, fun q hq => ?_⟩, fun q hq => ?_, h4⟩
  · obtain ⟨a, b, d⟩ := h2 q hq
    refine ⟨a, ?_, d⟩
    by_cases e : q = p
    · subst e; rw [uN_s]; omega
    · rw [uN_n e]; exact b
  · obtain ⟨a, b⟩ := h3 q hq
    refine ⟨?_, b⟩
    by_cases e : q = p
    · subst e; rw [uN_s]; omega
    · rw [uN_n e]; exact a
theorem ok_ch (ok : okS n ow co ar ch tk) {p v : Nat} (hv : v = 14 ∨ (v < n ∧ (ar p).testBit v = true)) : okS n ow co ar (uN ch p v) tk := by
  obtain ⟨h1, h3, h4⟩ := ok
  refine ⟨h1, fun q hq => ?_, h4⟩
  obtain ⟨a, b⟩ := h3 q hq
  refine ⟨a, ?_⟩
  by_cases e : q = p
  · subst e; rw [uN_s]; exact hv
  · rw [uN_n e]; exact b
theorem ok_ar (ok : okS n ow co ar ch tk) {p v : Nat} (hv : v < 2 ^ n) (hc : cntN n (uN ar p v) ≤ 60) (h : ch p = 14 ∨ v.testBit (ch p) = true) : okS n ow co (uN ar p v) ch tk := by
  obtain ⟨⟨h1, h2⟩, h3, h4, h5⟩ := ok
  refine ⟨⟨h1, fun q hq => ?_⟩, fun q hq => ?_, hc, h5⟩
  · obtain ⟨a, b, d⟩ := h2 q hq
    refine ⟨a, b, ?_⟩
    by_cases e : q = p
    · subst e; rw [uN_s]; exact hv
    · rw [uN_n e]; exact d
  · obtain ⟨a, b⟩ := h3 q hq
    refine ⟨a, ?_⟩
    by_cases e : q = p
    · subst e
      rw [uN_s]
      rcases b with b | b
      · exact Or.inl b
      · rcases h with h | h
        · exact Or.inl h
        · exact Or.inr ⟨b.1, h⟩
    · rw [uN_n e]; exact b
end ED
