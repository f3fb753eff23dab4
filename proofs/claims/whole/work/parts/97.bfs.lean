/-! the model's search for the shortest ring: what is met, what is the front -/
section BF
variable {n : Nat} {ow co ar : Nat → Nat} {A x : Nat}
def bf (n : Nat) (ar : Nat → Nat) (A x : Nat) : Nat → Nat × Nat
  | 0 => (0, 2 ^ x)
  | k + 1 => ((bf n ar A x k).1 ||| stF n ar A (bf n ar A x k).2, stF n ar A (bf n ar A x k).2 &&& ng (bf n ar A x k).1)
theorem stF_bit {t v : Nat} : (stF n ar A t).testBit v = true ↔ (∃ p, p < n ∧ t.testBit p = true ∧ (ar p).testBit v = true) ∧ A.testBit v = true := by
  unfold stF
  rw [Nat.testBit_and, Bool.and_eq_true, tgN_bit]
theorem ng_bit {a s v : Nat} (ha : a < 2 ^ 31) : (a &&& ng s).testBit v = true ↔ a.testBit v = true ∧ ¬ s.testBit v = true := by
  unfold ng
  rw [Nat.testBit_and, Nat.testBit_xor, Nat.testBit_two_pow_sub_one]
  by_cases h : v < 31
  · cases a.testBit v <;> cases s.testBit v <;> simp [h]
  · rw [bits_lt ha (by omega)]; simp
theorem bf_spec (hn : n ≤ 14) (hA : A < 2 ^ n) (hx : A.testBit x = true) : ∀ k, (∀ v, (bf n ar A x k).1.testBit v = true ↔ ∃ i, i < k ∧ TCk A ar x i v) ∧ ∀ v, (bf n ar A x k).2.testBit v = true ↔ (k = 0 ∧ v = x) ∨ ∃ k', k = k' + 1 ∧ TCk A ar x k' v ∧ ∀ i, i < k' → ¬ TCk A ar x i v := by
  have lt : ∀ {p}, A.testBit p = true → p < n := fun {p} hp => Nat.lt_of_not_le fun hle => by rw [bits_lt hA hle] at hp; cases hp
  intro k
  induction k with
  | zero =>
    refine ⟨fun v => ?_, fun v => ?_⟩
    · show (0 : Nat).testBit v = true ↔ _
      rw [Nat.zero_testBit]
      exact ⟨fun z => (by cases z), fun ⟨i, h, _⟩ => absurd h (by omega)⟩
    · show (2 ^ x).testBit v = true ↔ _
      rw [Nat.testBit_two_pow, decide_eq_true_iff]
      exact ⟨fun z => Or.inl ⟨rfl, z.symm⟩, fun z => z.elim (fun y => y.2.symm) (fun ⟨k', h, _⟩ => absurd h (by omega))⟩
  | succ k ih =>
    obtain ⟨ih1, ih2⟩ := ih
    have q1 : ∀ v, (stF n ar A (bf n ar A x k).2).testBit v = true → TCk A ar x k v := fun v h => by
      obtain ⟨⟨p, h1, h2, h3⟩, h4⟩ := stF_bit.mp h
      rcases (ih2 p).mp h2 with ⟨rfl, rfl⟩ | ⟨k', rfl, a, -⟩
      · exact ⟨hx, h4, h3⟩
      · exact ⟨p, a, h4, h3⟩
    have q2 : ∀ v, TCk A ar x k v → (∃ i, i < k ∧ TCk A ar x i v) ∨ (stF n ar A (bf n ar A x k).2).testBit v = true := fun v h => by
      cases k with
      | zero => exact Or.inr (stF_bit.mpr ⟨⟨x, lt hx, (ih2 x).mpr (Or.inl ⟨rfl, rfl⟩), h.2.2⟩, h.2.1⟩)
      | succ k' =>
        obtain ⟨p, a, b, d⟩ := h
        by_cases e : ∃ i, i < k' ∧ TCk A ar x i p
        · obtain ⟨i, e1, e2⟩ := e
          exact Or.inl ⟨i + 1, by omega, p, e2, b, d⟩
        · exact Or.inr (stF_bit.mpr ⟨⟨p, lt (TC_r ⟨k', a⟩), (ih2 p).mpr (Or.inr ⟨k', rfl, a, fun i hi z => e ⟨i, hi, z⟩⟩), d⟩, b⟩)
    have m1 : ∀ v, (bf n ar A x (k + 1)).1.testBit v = true ↔ ∃ i, i < k + 1 ∧ TCk A ar x i v := fun v => by
      show ((bf n ar A x k).1 ||| stF n ar A (bf n ar A x k).2).testBit v = true ↔ _
      rw [Nat.testBit_or, Bool.or_eq_true, ih1 v]
      constructor
      · rintro (⟨i, a, b⟩ | h)
        · exact ⟨i, by omega, b⟩
        · exact ⟨k, by omega, q1 v h⟩
      · rintro ⟨i, a, b⟩
        by_cases e : i = k
        · subst e; exact q2 v b
        · exact Or.inl ⟨i, by omega, b⟩
    refine ⟨m1, fun v => ?_⟩
    show (stF n ar A (bf n ar A x k).2 &&& ng (bf n ar A x k).1).testBit v = true ↔ _
    have sl : stF n ar A (bf n ar A x k).2 < 2 ^ n := Nat.lt_of_le_of_lt Nat.and_le_right hA
    rw [ng_bit (p31 hn sl), ih1 v]
    constructor
    · rintro ⟨h1, h2⟩
      exact Or.inr ⟨k, rfl, q1 v h1, fun i hi z => h2 ⟨i, hi, z⟩⟩
    · rintro (⟨h, -⟩ | ⟨k', h, a, b⟩)
      · omega
      · have e : k' = k := by omega
        subst e
        have no : ¬ ∃ i, i < k' ∧ TCk A ar x i v := fun ⟨i, hi, z⟩ => b i hi z
        exact ⟨(q2 v a).resolve_left no, no⟩
end BF
