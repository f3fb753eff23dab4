/-! one round of the model's search -/
section RA
variable {n m : Nat} {ow co ar ch : Nat → Nat} {f mj : Nat → Int32} {tk : Nat} {c0 : Int32}
theorem stF_fo (A t : Nat) (aj : Nat → Nat) : ∀ n, fo (fun i a => if t.testBit i = true then a ||| (aj i &&& A) else a) n 0 = stF n aj A t := by
  intro n
  unfold stF tgN
  induction n with
  | zero => rw [fo_0, fo_0, Nat.zero_and]
  | succ n ih =>
    rw [fo_s, fo_s, ih]
    by_cases h : t.testBit n = true
    · rw [if_pos h, if_pos h, Nat.and_or_distrib_right]
    · rw [if_neg h, if_neg h]
theorem front_eq {aj : Nat → Nat} (hM : rN f n ow co ar ch tk c0) (hn : n ≤ 14) (hj : ∀ p, p < n → mj p = nI (aj p)) {A t : Nat} (ht : t < 2 ^ n) (hm : 20 < m) : f_X7_ringAt_L67 f mj (nI A) (nI t) m 0 0 = some (nI (stF n aj A t)) := by
  have := loop_fo (fun k (a : Int32) i => f_X7_ringAt_L67 f mj (nI A) (nI t) k a i) nI nI (fun i a => if t.testBit i = true then a ||| (aj i &&& A) else a) n 0
    (fun k => by
      show f_X7_ringAt_L67 f mj (nI A) (nI t) (k + 1) _ _ = _
      rw [f_X7_ringAt_L67, hM.1.1, if_pos (nI_le (Nat.le_refl n) (by omega))])
    (fun k i hi => by
      show f_X7_ringAt_L67 f mj (nI A) (nI t) (k + 1) _ _ = f_X7_ringAt_L67 f mj (nI A) (nI t) k _ _
      rw [f_X7_ringAt_L67, hM.1.1, if_neg (nI_ge hi (by omega)), vg_nI (by omega) (by omega), tn (by omega), hj i hi, nI_and, nI_or, nI_1, Int32.or_zero]
      by_cases h : t.testBit i = true
      · rw [if_pos ((bit_iff (p31 hn ht) (by omega)).mpr h), if_pos h]
      · rw [if_neg (fun z => h ((bit_iff (p31 hn ht) (by omega)).mp z)), if_neg h]) m (by omega)
  rw [stF_fo] at this
  exact this
end RA
