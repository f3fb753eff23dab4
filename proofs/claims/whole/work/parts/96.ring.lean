/-! the shortest ring at a place, in the class -/
section SR
variable {n m : Nat} {ow co ar : Nat → Nat} {A x : Nat}
def stF (n : Nat) (ar : Nat → Nat) (A t : Nat) : Nat := tgN n ar t &&& A
theorem st_bit (hA : A < 2 ^ n) (hx : A.testBit x = true) : ∀ k q, (itF (stF n ar A) (k + 1) (2 ^ x)).testBit q = true ↔ TCk A ar x k q := by
  have hxn : x < n := Nat.lt_of_not_le fun hle => by rw [bits_lt hA hle] at hx; cases hx
  intro k
  induction k with
  | zero =>
    intro q
    show (tgN n ar (2 ^ x) &&& A).testBit q = true ↔ _
    rw [Nat.testBit_and, Bool.and_eq_true, tgN_bit]
    constructor
    · rintro ⟨⟨p, h1, h2, h3⟩, h4⟩
      rw [Nat.testBit_two_pow, decide_eq_true_iff] at h2
      subst h2
      exact ⟨hx, h4, h3⟩
    · rintro ⟨h1, h2, h3⟩
      exact ⟨⟨x, hxn, by rw [Nat.testBit_two_pow]; simp, h3⟩, h2⟩
  | succ k ih =>
    intro q
    show (tgN n ar (itF (stF n ar A) (k + 1) (2 ^ x)) &&& A).testBit q = true ↔ _
    rw [Nat.testBit_and, Bool.and_eq_true, tgN_bit]
    constructor
    · rintro ⟨⟨p, h1, h2, h3⟩, h4⟩
      exact ⟨p, (ih p).mp h2, h4, h3⟩
    · rintro ⟨p, h2, h4, h3⟩
      have hpA := TC_r ⟨k, h2⟩
      have hpn : p < n := Nat.lt_of_not_le fun hle => by rw [bits_lt hA hle] at hpA; cases hpA
      exact ⟨⟨p, hpn, (ih p).mpr h2, h3⟩, h4⟩
theorem st_lt (ok : okG n ow co ar) (hx : x < n) : ∀ k, itF (stF n ar A) k (2 ^ x) < 2 ^ n := by
  intro k
  cases k with
  | zero => exact Nat.pow_lt_pow_right (by omega) hx
  | succ k => exact Nat.lt_of_le_of_lt Nat.and_le_left (tgN_lt ok _)
theorem shortest_eq {g : GG} (hR : rG g n ow co ar) (ok : okG n ow co ar) (hx : x < n) (hm : 100 < m) : (∃ j, j < n ∧ TCk (wiN n co (co x)) ar x j x ∧ (∀ i, i < j → ¬ TCk (wiN n co (co x)) ar x i x) ∧ f_X1_shortestRing m g (nI x) = some (nI (j + 1))) ∨ ((∀ j, j < n → ¬ TCk (wiN n co (co x)) ar x j x) ∧ f_X1_shortestRing m g (nI x) = some (-5)) := by
  have hn := ok.1
  have hA := wi_lt (n := n) (co := co) (c := co x)
  have hxA := wi_self (co := co) hx
  unfold f_X1_shortestRing
  rw [notLess_eq hR ok (by omega) hx, bit_eq (by omega)]
  simp only [Option.bind_some]
  generalize wiN n co (co x) = A at hA hxA
  have hl := st_lt (A := A) ok hx
  have scan : ∀ i, i ≤ n → (∀ j, j < i → ¬ TCk A ar x j x) → ∀ K, f_X1_shortestRing_L14 m g (nI x) (nI A) (K + i) (nI (2 ^ x)) 1 = f_X1_shortestRing_L14 m g (nI x) (nI A) K (nI (itF (stF n ar A) i (2 ^ x))) (nI (i + 1)) := by
    intro i
    induction i with
    | zero => intro _ _ K; rfl
    | succ i ih =>
      intro hi h K
      have hb := fun z => h i (by omega) ((st_bit hA hxA i x).mp z)
      rw [show K + (i + 1) = (K + 1) + i by omega, ih (by omega) (fun j hj => h j (by omega)) (K + 1), f_X1_shortestRing_L14, hR.1, if_neg (fun z => by have := (nI_lt_iff (by omega) (by omega)).mp z; omega), targets_eq hR ok (p31 hn (hl i)) (by omega)]
      simp only [Option.bind_some]
      rw [nI_and, show tgN n ar (itF (stF n ar A) i (2 ^ x)) &&& A = itF (stF n ar A) (i + 1) (2 ^ x) from rfl, contains_eq (p31 hn (hl (i + 1))) (by omega), if_neg hb, nI_1]
      rfl
  rcases first_or (fun j => j < n ∧ TCk A ar x j x) n with ⟨j, hj, ⟨h1, h1'⟩, h2⟩ | h
  · have h3 : ∀ i, i < j → ¬ TCk A ar x i x := fun i hi z => h2 i hi ⟨by omega, z⟩
    refine Or.inl ⟨j, h1, h1', h3, ?_⟩
    have e1 := scan j hj h3 ((m - j - 1) + 1)
    rw [show (m - j - 1) + 1 + j = m by omega] at e1
    rw [e1, f_X1_shortestRing_L14, hR.1, if_neg (fun z => by have := (nI_lt_iff (by omega) (by omega)).mp z; omega), targets_eq hR ok (p31 hn (hl j)) (by omega)]
    simp only [Option.bind_some]
    rw [nI_and, show tgN n ar (itF (stF n ar A) j (2 ^ x)) &&& A = itF (stF n ar A) (j + 1) (2 ^ x) from rfl, contains_eq (p31 hn (hl (j + 1))) (by omega), if_pos ((st_bit hA hxA j x).mpr h1')]
    rfl
  · have h3 : ∀ i, i < n → ¬ TCk A ar x i x := fun i hi z => h i (by omega) ⟨hi, z⟩
    refine Or.inr ⟨h3, ?_⟩
    have e1 := scan n (Nat.le_refl n) h3 ((m - n - 1) + 1)
    rw [show (m - n - 1) + 1 + n = m by omega] at e1
    rw [e1, f_X1_shortestRing_L14, hR.1, if_pos ((nI_lt_iff (by omega) (by omega)).mpr (by omega))]
end SR
