/-! the search ends -/
section RE
variable {n m : Nat} {ow co ar ch : Nat → Nat} {A x : Nat}
theorem bf_met_lt (hA : A < 2 ^ n) : ∀ k, (bf n ar A x k).1 < 2 ^ n := by
  intro k
  induction k with
  | zero => exact Nat.pow_pos (by omega)
  | succ k ih => exact Nat.or_lt_two_pow ih (Nat.lt_of_le_of_lt Nat.and_le_right hA)
theorem bf_front_lt (hA : A < 2 ^ n) (hx : A.testBit x = true) : ∀ k, (bf n ar A x k).2 < 2 ^ n := by
  intro k
  cases k with
  | zero => exact Nat.pow_lt_pow_right (by omega) (Nat.lt_of_not_le fun hle => by rw [bits_lt hA hle] at hx; cases hx)
  | succ k => exact Nat.lt_of_le_of_lt Nat.and_le_left (Nat.lt_of_le_of_lt Nat.and_le_right hA)
theorem ne_bit {a : Nat} (h : a ≠ 0) : ∃ v, a.testBit v = true := Classical.byContradiction fun e => h (Nat.eq_of_testBit_eq fun k => by
  rw [Nat.zero_testBit]
  cases hb : a.testBit k with
  | false => rfl
  | true => exact absurd ⟨k, hb⟩ e)
theorem bf_grow (hn : n ≤ 14) (hA : A < 2 ^ n) (hx : A.testBit x = true) : ∀ k, (∀ i, i < k → (bf n ar A x (i + 1)).2 ≠ 0) → k ≤ cd n (bf n ar A x k).1 := by
  intro k
  induction k with
  | zero => intro _; exact Nat.zero_le _
  | succ k ih =>
    intro h
    have h1 := ih (fun i hi => h i (by omega))
    obtain ⟨v, hv⟩ := ne_bit (h k (by omega))
    rcases ((bf_spec hn hA hx (k + 1)).2 v).mp hv with ⟨e, -⟩ | ⟨k', e, a, b⟩
    · omega
    · have e2 : k' = k := by omega
      subst e2
      have h2 : (bf n ar A x (k' + 1)).1.testBit v = true := ((bf_spec hn hA hx (k' + 1)).1 v).mpr ⟨k', by omega, a⟩
      have h3 : ¬ (bf n ar A x k').1.testBit v = true := fun z => by
        obtain ⟨i, c, d⟩ := ((bf_spec hn hA hx k').1 v).mp z
        exact b i c d
      have h4 : sub (bf n ar A x k').1 (bf n ar A x (k' + 1)).1 := fun w hw => by
        obtain ⟨i, c, d⟩ := ((bf_spec hn hA hx k').1 w).mp hw
        exact ((bf_spec hn hA hx (k' + 1)).1 w).mpr ⟨i, by omega, d⟩
      have h5 := grow_ne (bf_met_lt hA (k' + 1)) h4 (fun e => h3 (by rw [e]; exact h2))
      omega
/-- an empty front: all that is reached is met -/
theorem bf_closed (hn : n ≤ 14) (hA : A < 2 ^ n) (hx : A.testBit x = true) {k : Nat} (h0 : (bf n ar A x (k + 1)).2 = 0) {v : Nat} (h : TC A ar x v) : ∃ i, i < k + 1 ∧ TCk A ar x i v := by
  have nofr : ∀ v, TCk A ar x k v → ∃ i, i < k ∧ TCk A ar x i v := fun v hv => Classical.byContradiction fun e => by
    have := ((bf_spec hn hA hx (k + 1)).2 v).mpr (Or.inr ⟨k, rfl, hv, fun i hi z => e ⟨i, hi, z⟩⟩)
    rw [h0, Nat.zero_testBit] at this
    cases this
  refine TC_ind (P := fun v => ∃ i, i < k + 1 ∧ TCk A ar x i v) (fun q a b c => ⟨0, by omega, a, b, c⟩) (fun q r _ ih hr hb => ?_) h
  obtain ⟨i, i1, i2⟩ := ih
  by_cases e : i = k
  · subst e
    obtain ⟨i', c, d⟩ := nofr q i2
    exact ⟨i' + 1, by omega, q, d, hr, hb⟩
  · exact ⟨i + 1, by omega, q, i2, hr, hb⟩
end RE
