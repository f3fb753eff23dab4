/-! cases of an argument; the class's and the model's checks -/
theorem n10 : ¬ (1 : Int32) = 0 := by decide
theorem I_lt (x y : Int32) : x < y ↔ ¬ y ≤ x := ⟨fun h h' => absurd (Int32.lt_iff_toInt_lt.mp h) (by have := Int32.le_iff_toInt_le.mp h'; omega), fun h => by rw [Int32.lt_iff_toInt_lt]; rw [Int32.le_iff_toInt_le] at h; omega⟩
theorem in_cases (x : Int32) (n : Nat) (hn : n < 100000) : (∃ p, p < n + 1 ∧ x = nI p ∧ f_X7_in x 0 (nI n) = some 1) ∨ ((∀ p, p < n + 1 → x ≠ nI p) ∧ f_X7_in x 0 (nI n) = some 0 ∧ (x < 0 ∨ nI n < x)) := by
  rw [in_eq]
  rcases pk_ix x (n := n + 1) (by omega) with h | h | ⟨j, hj, rfl⟩
  · refine Or.inr ⟨fun p hp e => ?_, by rw [if_pos h], Or.inl h⟩
    rw [e, Int32.lt_iff_toInt_lt, nI_toInt (by omega), Int32.toInt_zero] at h
    omega
  · have h3 : nI n < x := by
      rw [Int32.lt_iff_toInt_lt, nI_toInt (by omega)]
      rw [Int32.le_iff_toInt_le, nI_toInt (by omega)] at h
      omega
    have h4 : ¬ x < 0 := by
      rw [Int32.lt_iff_toInt_lt, Int32.toInt_zero]
      rw [Int32.lt_iff_toInt_lt, nI_toInt (by omega)] at h3
      omega
    refine Or.inr ⟨fun p hp e => ?_, by rw [if_neg h4, if_pos h3], Or.inr h3⟩
    rw [e, Int32.lt_iff_toInt_lt, nI_toInt (by omega), nI_toInt (by omega)] at h3
    omega
  · refine Or.inl ⟨j, hj, rfl, ?_⟩
    rw [if_neg, if_neg]
    · rw [Int32.lt_iff_toInt_lt, nI_toInt (by omega), nI_toInt (by omega)]; omega
    · rw [Int32.lt_iff_toInt_lt, nI_toInt (by omega), Int32.toInt_zero]; omega
theorem nI_not_neg {p : Nat} (h : p < 100000) : ¬ nI p < 0 := by
  rw [Int32.lt_iff_toInt_lt, nI_toInt (by omega), Int32.toInt_zero]; omega
theorem nI_lt_iff {a b : Nat} (ha : a < 100000) (hb : b < 100000) : nI a < nI b ↔ a < b := by
  rw [Int32.lt_iff_toInt_lt, nI_toInt (by omega), nI_toInt (by omega)]; omega
theorem pl_cases (x : Int32) : (∃ p, p < 2 ∧ x = nI p ∧ f_X6_isPlayer x = some 1 ∧ f_X7_in x 0 1 = some 1 ∧ f_X7_noPlayer x = some 0) ∨ (f_X6_isPlayer x = some 0 ∧ f_X7_in x 0 1 = some 0 ∧ f_X7_noPlayer x = some 1) := by
  rw [isPlayer_eq, noPlayer_eq]
  rcases in_cases x 1 (by omega) with ⟨p, hp, rfl, h⟩ | ⟨h1, h2, -⟩
  · have := isPl (pl := p) (by omega)
    exact Or.inl ⟨p, hp, rfl, by rw [if_pos this], h, by rw [if_pos this]⟩
  · have : ¬ (x = 0 ∨ x = 1) := by
      rintro (e | e)
      · exact h1 0 (by omega) e
      · exact h1 1 (by omega) e
    exact Or.inr ⟨by rw [if_neg this], h2, by rw [if_neg this]⟩
theorem col_cases (x : Int32) : (∃ c, c ≤ 7 ∧ x = nI c ∧ f_X6_isColour x = some 1 ∧ f_X7_in x 0 7 = some 1) ∨ (f_X6_isColour x = some 0 ∧ f_X7_in x 0 7 = some 0) := by
  have e : f_X6_isColour x = f_X7_in x 0 7 := by unfold f_X6_isColour f_X7_in; rfl
  rw [e]
  rcases in_cases x 7 (by omega) with ⟨p, hp, rfl, h⟩ | ⟨h1, h2, -⟩
  · exact Or.inl ⟨p, by omega, rfl, h, h⟩
  · exact Or.inr ⟨h2, h2⟩
theorem pc_cases {g : GG} {f : Nat → Int32} {n : Nat} {ow co ar ch : Nat → Nat} (hR : rG g n ow co ar) (hM : rM f n ow co ar ch) (hn : n ≤ 14) (x : Int32) : (∃ p, p < n ∧ x = nI p ∧ f_X1_has g x = some 1 ∧ f_X7_no f x = some 0) ∨ ((∀ p, p < n → x ≠ nI p) ∧ f_X1_has g x = some 0 ∧ f_X7_no f x = some 1) := by
  unfold f_X7_no
  rw [hM.1]
  by_cases h0 : n = 0
  · subst h0
    refine Or.inr ⟨fun p hp => absurd hp (by omega), has_out hR hn (fun p hp => absurd hp (by omega)), ?_⟩
    rw [in_eq]
    by_cases h : x < 0
    · rw [if_pos h]; rfl
    · rw [if_neg h, if_pos]
      · rfl
      · rw [Int32.lt_iff_toInt_lt] at h ⊢
        rw [Int32.toInt_zero] at h
        rw [show ((nI 0 - 1 : Int32)).toInt = -1 from by decide]
        omega
  · have e1 : (nI n - 1 : Int32) = nI (n - 1) := pk_sub (b := 1) (by omega)
    rw [e1]
    rcases in_cases x (n - 1) (by omega) with ⟨p, hp, rfl, h⟩ | ⟨h1, h2, -⟩
    · exact Or.inl ⟨p, by omega, rfl, has_in hR hn (by omega), by rw [h]; rfl⟩
    · exact Or.inr ⟨fun p hp => h1 p (by omega), has_out hR hn (fun p hp => h1 p (by omega)), by rw [h2]; rfl⟩
/-- the kept state and the text -/
def RP (s : SS) (h : Int32) (f : Nat → Int32) (i : Int32) : Prop := (h = 0 ∧ i = 0) ∨ (h = 1 ∧ i = 1 ∧ RS s f)
def RT (t : TT) (k : Int32) (f : Nat → Int32) : Prop := ∃ len, len ≤ 60 ∧ t.2 = nI len ∧ k = nI len ∧ ∀ i, i < len → t.1 i = f i
def REL (X : XS) (M : MS) : Prop := RS X.1 M.1 ∧ RH X.2.1 M.2.1 M.2.2.1 ∧ RP X.2.2.1 X.2.2.2.1 M.2.2.2.1 M.2.2.2.2.1 ∧ RT X.2.2.2.2.1 M.2.2.2.2.2.2.2.2.2.2.1 M.2.2.2.2.2.2.2.2.2.2.2.1
