/-! sets that grow come to rest; forcing -/
def sub (s t : Nat) : Prop := ∀ k, s.testBit k = true → t.testBit k = true
def itF (F : Nat → Nat) : Nat → Nat → Nat
  | 0, s => s
  | j + 1, s => F (itF F j s)
def cd (n s : Nat) : Nat := fo (fun p c => if s.testBit p = true then c + 1 else c) n 0
theorem cd_le (n s : Nat) : cd n s ≤ n := by
  unfold cd
  induction n with
  | zero => exact Nat.le_refl _
  | succ n ih => rw [fo_s]; split <;> omega
theorem cd_mono {n s t : Nat} (h : sub s t) : cd n s ≤ cd n t := by
  unfold cd
  induction n with
  | zero => exact Nat.le_refl _
  | succ n ih =>
    rw [fo_s, fo_s]
    by_cases h1 : s.testBit n = true
    · rw [if_pos h1, if_pos (h n h1)]; omega
    · rw [if_neg h1]
      split <;> omega
theorem cd_lt {n s t k : Nat} (h : sub s t) (hk : k < n) (h1 : s.testBit k = false) (h2 : t.testBit k = true) : cd n s < cd n t := by
  induction n with
  | zero => omega
  | succ n ih =>
    unfold cd
    rw [fo_s, fo_s]
    by_cases e : k = n
    · subst e
      have := cd_mono (n := k) h
      unfold cd at this
      rw [if_neg (by rw [h1]; decide), if_pos h2]
      omega
    · have := ih (by omega)
      unfold cd at this
      by_cases h3 : s.testBit n = true
      · rw [if_pos h3, if_pos (h n h3)]; omega
      · rw [if_neg h3]
        split <;> omega
theorem grow_ne {n s t : Nat} (ht : t < 2 ^ n) (h : sub s t) (hne : s ≠ t) : cd n s < cd n t := by
  have : ∃ k, k < n ∧ s.testBit k = false ∧ t.testBit k = true := by
    refine Classical.byContradiction fun hc => hne ?_
    apply Nat.eq_of_testBit_eq
    intro k
    cases h1 : s.testBit k with
    | true => exact (h k h1).symm
    | false =>
      cases h2 : t.testBit k with
      | false => rfl
      | true =>
        refine absurd ⟨k, ?_, h1, h2⟩ hc
        refine Nat.lt_of_not_le fun hle => ?_
        rw [bits_lt ht hle] at h2
        cases h2
  obtain ⟨k, h1, h2, h3⟩ := this
  exact cd_lt h h1 h2 h3
section IT
variable {n : Nat} {F : Nat → Nat}
theorem it_lt (hF : ∀ s, s < 2 ^ n → F s < 2 ^ n ∧ sub s (F s)) {s : Nat} (hs : s < 2 ^ n) : ∀ j, itF F j s < 2 ^ n := by
  intro j
  induction j with
  | zero => exact hs
  | succ j ih => exact (hF _ ih).1
theorem it_rest {s t : Nat} (h : F (itF F t s) = itF F t s) : ∀ j, t ≤ j → itF F j s = itF F t s := by
  intro j
  induction j with
  | zero => intro hj; rw [show t = 0 by omega]
  | succ j ih =>
    intro hj
    by_cases e : t = j + 1
    · rw [e]
    · show F (itF F j s) = _
      rw [ih (by omega), h]
/-- the first step at which nothing comes -/
theorem it_exists (hF : ∀ s, s < 2 ^ n → F s < 2 ^ n ∧ sub s (F s)) {s : Nat} (hs : s < 2 ^ n) : ∃ t, t ≤ n ∧ F (itF F t s) = itF F t s ∧ ∀ j, j < t → F (itF F j s) ≠ itF F j s := by
  have key : ∀ d t, n ≤ t + d → (∀ j, j < t → F (itF F j s) ≠ itF F j s) → t ≤ cd n (itF F t s) → ∃ t, t ≤ n ∧ F (itF F t s) = itF F t s ∧ ∀ j, j < t → F (itF F j s) ≠ itF F j s := by
    intro d
    induction d with
    | zero =>
      intro t h1 h2 h3
      have h4 := cd_le n (itF F t s)
      by_cases e : F (itF F t s) = itF F t s
      · exact ⟨t, by omega, e, h2⟩
      · have h5 := hF _ (it_lt hF hs t)
        have h6 := grow_ne h5.1 h5.2 (Ne.symm e)
        have h7 := cd_le n (F (itF F t s))
        omega
    | succ d ih =>
      intro t h1 h2 h3
      have h4 := cd_le n (itF F t s)
      by_cases e : F (itF F t s) = itF F t s
      · exact ⟨t, by omega, e, h2⟩
      · have h5 := hF _ (it_lt hF hs t)
        have h6 := grow_ne h5.1 h5.2 (Ne.symm e)
        refine ih (t + 1) (by omega) (fun j hj => ?_) (by show t + 1 ≤ cd n (F (itF F t s)); omega)
        by_cases ej : j = t
        · rw [ej]; exact e
        · exact h2 j (by omega)
  exact key n 0 (by omega) (fun j hj => absurd hj (by omega)) (Nat.zero_le _)
theorem it_n (hF : ∀ s, s < 2 ^ n → F s < 2 ^ n ∧ sub s (F s)) {s : Nat} (hs : s < 2 ^ n) : F (itF F n s) = itF F n s := by
  obtain ⟨t, h1, h2, -⟩ := it_exists hF hs
  rw [it_rest h2 n h1, h2]
end IT
theorem so_init (P : Nat → Bool) (s : Nat) : ∀ n, fo (fun p t => if P p = true then t ||| 2 ^ p else t) n s = s ||| so P n := by
  intro n
  unfold so
  induction n with
  | zero => rw [fo_0, fo_0, Nat.or_zero]
  | succ n ih =>
    rw [fo_s, fo_s, ih]
    by_cases h : P n = true
    · rw [if_pos h, if_pos h, Nat.or_assoc]
    · rw [if_neg h, if_neg h]
/-- what is not in a set -/
def ng (s : Nat) : Nat := s ^^^ (2 ^ 31 - 1)
theorem and_0 {a b : Nat} : a &&& b = 0 ↔ ∀ k, a.testBit k = true → b.testBit k = false := by
  constructor
  · intro h k hk
    have := congrArg (fun z => z.testBit k) h
    simp only [Nat.testBit_and, hk, Nat.zero_testBit, Bool.true_and] at this
    exact this
  · intro h
    apply Nat.eq_of_testBit_eq
    intro k
    rw [Nat.testBit_and, Nat.zero_testBit]
    cases hk : a.testBit k with
    | false => rfl
    | true => rw [h k hk]; rfl
theorem ng_0 {a s : Nat} (ha : a < 2 ^ 31) : a &&& ng s = 0 ↔ sub a s := by
  rw [and_0]
  unfold ng
  constructor
  · intro h k hk
    have h1 := h k hk
    rw [Nat.testBit_xor, Nat.testBit_two_pow_sub_one] at h1
    have : k < 31 := Nat.lt_of_not_le fun hle => by rw [bits_lt ha hle] at hk; cases hk
    simp only [this, decide_true] at h1
    cases h2 : s.testBit k with
    | true => rfl
    | false => rw [h2] at h1; cases h1
  · intro h k hk
    have : k < 31 := Nat.lt_of_not_le fun hle => by rw [bits_lt ha hle] at hk; cases hk
    rw [Nat.testBit_xor, Nat.testBit_two_pow_sub_one, h k hk]
    simp [this]
/-- a place that comes in one round -/
def fcP (ow ar : Nat → Nat) (pl s : Nat) : Nat → Bool := fun k => !(ar k &&& s == 0) && (ow k == pl || ar k &&& ng s == 0)
def fN (n : Nat) (ow ar : Nat → Nat) (pl s : Nat) : Nat := s ||| so (fcP ow ar pl s) n
theorem fN_ok (n : Nat) (ow ar : Nat → Nat) (pl : Nat) : ∀ s, s < 2 ^ n → fN n ow ar pl s < 2 ^ n ∧ sub s (fN n ow ar pl s) := by
  intro s hs
  refine ⟨Nat.or_lt_two_pow hs (so_lt _ _), fun k hk => ?_⟩
  unfold fN
  rw [Nat.testBit_or, hk]
  rfl
def cmP (ow ar : Nat → Nat) (pl s : Nat) : Nat → Bool := fun k => !s.testBit k && (if ow k == pl then !(ar k &&& s == 0) else (!(ar k == 0) && ar k &&& ng s == 0))
theorem cm_fc {ow ar : Nat → Nat} {pl s k : Nat} (ha : ar k < 2 ^ 31) : cmP ow ar pl s k = (!s.testBit k && fcP ow ar pl s k) := by
  unfold cmP fcP
  cases s.testBit k with
  | true => rfl
  | false =>
    by_cases h : ow k = pl
    · simp [h]
    · have e1 : (ow k == pl) = false := by simp [h]
      simp only [e1, Bool.false_or, Bool.not_false, Bool.true_and]
      by_cases h2 : ar k &&& ng s = 0
      · have h3 := (ng_0 ha).mp h2
        simp only [h2, beq_self_eq_true, Bool.and_true]
        have : (ar k = 0) ↔ (ar k &&& s = 0) := by
          constructor
          · intro e; rw [e, Nat.zero_and]
          · intro e
            rw [and_0] at e
            apply Nat.eq_of_testBit_eq
            intro j
            rw [Nat.zero_testBit]
            cases hj : ar k |>.testBit j with
            | false => rfl
            | true => exact absurd (h3 j hj) (by rw [e j hj]; decide)
        by_cases h4 : ar k = 0
        · simp [h4]
        · rw [beq_eq_false_iff_ne.mpr h4, beq_eq_false_iff_ne.mpr (fun e => h4 (this.mpr e))]; rfl
      · rw [beq_eq_false_iff_ne.mpr h2, Bool.and_false, Bool.and_false]; rfl
theorem cm_or {n : Nat} {ow ar : Nat → Nat} {pl s : Nat} (ha : ∀ k, k < n → ar k < 2 ^ 31) : s ||| so (cmP ow ar pl s) n = fN n ow ar pl s := by
  unfold fN
  apply Nat.eq_of_testBit_eq
  intro k
  rw [Nat.testBit_or, Nat.testBit_or, so_bit, so_bit]
  by_cases hk : k < n
  · rw [cm_fc (ha k hk)]
    cases s.testBit k <;> simp
  · simp [hk]
theorem cm_zero {n : Nat} {ow ar : Nat → Nat} {pl s : Nat} (ha : ∀ k, k < n → ar k < 2 ^ 31) : so (cmP ow ar pl s) n = 0 ↔ fN n ow ar pl s = s := by
  rw [← cm_or ha]
  constructor
  · intro h; rw [h, Nat.or_zero]
  · intro h
    apply Nat.eq_of_testBit_eq
    intro k
    have h1 := congrArg (fun z => z.testBit k) h
    simp only [Nat.testBit_or] at h1
    rw [Nat.zero_testBit, so_bit]
    rw [so_bit] at h1
    by_cases hk : k < n
    · rw [cm_fc (ha k hk)] at h1 ⊢
      cases hs : s.testBit k with
      | true => simp
      | false => rw [hs] at h1; simpa [hk] using h1
    · simp [hk]
