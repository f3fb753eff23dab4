/-! measures: four digits to the base 16 (the class), to the base 15 (the model); 65536 and 50625 are LOST -/
def up16 (mo : Nat → Nat) : Nat → Nat → Nat
  | 0, _ => 65536
  | k + 1, t => if t / 16 ^ (3 - k) % 16 < mo k then t + 16 ^ (3 - k) else up16 mo k (t - t / 16 ^ (3 - k) % 16 * 16 ^ (3 - k))
def wN (mo : Nat → Nat) (c m : Nat) : Nat := if m = 65536 then 65536 else if c % 2 = 0 then m / 16 ^ (4 - (c + 1) / 2) * 16 ^ (4 - (c + 1) / 2) else up16 mo ((c + 1) / 2) (m / 16 ^ (4 - (c + 1) / 2) * 16 ^ (4 - (c + 1) / 2))
def vM (m : Nat) : Prop := m = 65536 ∨ (m / 4096 ≤ 14 ∧ m / 256 % 16 ≤ 14 ∧ m / 16 % 16 ≤ 14 ∧ m % 16 ≤ 14)
def cv (m : Nat) : Nat := if m = 65536 then 50625 else 15 * (15 * (15 * (m / 4096) + m / 256 % 16) + m / 16 % 16) + m % 16
theorem vM_le {m : Nat} (h : vM m) : m ≤ 65536 := by
  rcases h with rfl | h
  · exact Nat.le_refl _
  · omega
/-- digits -/
def mk16 (a b c d : Nat) : Nat := 4096 * a + 256 * b + 16 * c + d
def mk15 (a b c d : Nat) : Nat := 15 * (15 * (15 * a + b) + c) + d
theorem vM_mk {m : Nat} (h : vM m) : m = 65536 ∨ ∃ a b c d, a ≤ 14 ∧ b ≤ 14 ∧ c ≤ 14 ∧ d ≤ 14 ∧ m = mk16 a b c d := by
  rcases h with rfl | ⟨h1, h2, h3, h4⟩
  · exact Or.inl rfl
  · exact Or.inr ⟨m / 4096, m / 256 % 16, m / 16 % 16, m % 16, h1, h2, h3, h4, by unfold mk16; omega⟩
theorem mk_vM {a b c d : Nat} (ha : a ≤ 14) (hb : b ≤ 14) (hc : c ≤ 14) (hd : d ≤ 14) : vM (mk16 a b c d) := by
  right
  unfold mk16
  refine ⟨by omega, by omega, by omega, by omega⟩
theorem mk_ne {a b c d : Nat} (ha : a ≤ 14) (hb : b ≤ 14) (hc : c ≤ 14) (hd : d ≤ 14) : mk16 a b c d < 65536 := by
  unfold mk16
  omega
theorem cv_mk {a b c d : Nat} (ha : a ≤ 14) (hb : b ≤ 14) (hc : c ≤ 14) (hd : d ≤ 14) : cv (mk16 a b c d) = mk15 a b c d := by
  unfold cv
  rw [if_neg (by have := mk_ne ha hb hc hd; omega)]
  unfold mk16 mk15
  rw [show (4096 * a + 256 * b + 16 * c + d) / 4096 = a by omega, show (4096 * a + 256 * b + 16 * c + d) / 256 % 16 = b by omega, show (4096 * a + 256 * b + 16 * c + d) / 16 % 16 = c by omega, show (4096 * a + 256 * b + 16 * c + d) % 16 = d by omega]
theorem cv_lost : cv 65536 = 50625 := rfl
theorem cv_lt {m m' : Nat} (h : vM m) (h' : vM m') : cv m < cv m' ↔ m < m' := by
  rcases vM_mk h with rfl | ⟨a, b, c, d, ha, hb, hc, hd, rfl⟩
  · rcases vM_mk h' with rfl | ⟨a', b', c', d', ha', hb', hc', hd', rfl⟩
    · simp
    · rw [cv_mk ha' hb' hc' hd', cv_lost]
      have := mk_ne ha' hb' hc' hd'
      unfold mk15
      constructor <;> intro _ <;> omega
  · rcases vM_mk h' with rfl | ⟨a', b', c', d', ha', hb', hc', hd', rfl⟩
    · rw [cv_mk ha hb hc hd, cv_lost]
      have := mk_ne ha hb hc hd
      unfold mk15
      constructor <;> intro _ <;> omega
    · rw [cv_mk ha hb hc hd, cv_mk ha' hb' hc' hd']
      unfold mk15 mk16
      rcases Nat.lt_trichotomy a a' with h1 | h1 | h1
      · constructor <;> intro _ <;> omega
      · subst h1
        rcases Nat.lt_trichotomy b b' with h2 | h2 | h2
        · constructor <;> intro _ <;> omega
        · subst h2
          rcases Nat.lt_trichotomy c c' with h3 | h3 | h3
          · constructor <;> intro _ <;> omega
          · subst h3
            constructor <;> intro _ <;> omega
          · constructor <;> intro _ <;> omega
        · constructor <;> intro _ <;> omega
      · constructor <;> intro _ <;> omega
theorem cv_le {m m' : Nat} (h : vM m) (h' : vM m') : cv m ≤ cv m' ↔ m ≤ m' := by
  have := cv_lt h' h
  omega
theorem cv_eq {m m' : Nat} (h : vM m) (h' : vM m') : cv m = cv m' ↔ m = m' := by
  have := cv_lt h' h
  have := cv_lt h h'
  omega
theorem cv_small {m : Nat} (h : vM m) : cv m ≤ 50625 := by
  rcases vM_mk h with rfl | ⟨a, b, c, d, ha, hb, hc, hd, rfl⟩
  · decide
  · rw [cv_mk ha hb hc hd]
    unfold mk15
    omega
/-- the wanted measure, by digits: none is LOST -/
def wD (mo : Nat → Nat) (k a b c d : Nat) : Option (Nat × Nat × Nat × Nat) :=
  match k with
  | 0 => some (0, 0, 0, 0)
  | 1 => if a < mo 0 then some (a + 1, 0, 0, 0) else none
  | 2 => some (a, 0, 0, 0)
  | 3 => if b < mo 1 then some (a, b + 1, 0, 0) else if a < mo 0 then some (a + 1, 0, 0, 0) else none
  | 4 => some (a, b, 0, 0)
  | 5 => if c < mo 2 then some (a, b, c + 1, 0) else if b < mo 1 then some (a, b + 1, 0, 0) else if a < mo 0 then some (a + 1, 0, 0, 0) else none
  | 6 => some (a, b, c, 0)
  | 7 => if d < mo 3 then some (a, b, c, d + 1) else if c < mo 2 then some (a, b, c + 1, 0) else if b < mo 1 then some (a, b + 1, 0, 0) else if a < mo 0 then some (a + 1, 0, 0, 0) else none
  | _ => some (a, b, c, d)
def oD (f : Nat → Nat → Nat → Nat → Nat) (lost : Nat) (x : Option (Nat × Nat × Nat × Nat)) : Nat := match x with
  | none => lost
  | some q => f q.1 q.2.1 q.2.2.1 q.2.2.2
set_option maxRecDepth 100000 in
set_option maxHeartbeats 4000000 in
theorem wN_D (mo : Nat → Nat) {k a b c d : Nat} (hk : k ≤ 8) (ha : a ≤ 14) (hb : b ≤ 14) (hc : c ≤ 14) (hd : d ≤ 14) : wN mo k (mk16 a b c d) = oD mk16 65536 (wD mo k a b c d) := by
  have hne := mk_ne ha hb hc hd
  unfold wN
  rw [if_neg (by omega)]
  rcases (show k = 0 ∨ k = 1 ∨ k = 2 ∨ k = 3 ∨ k = 4 ∨ k = 5 ∨ k = 6 ∨ k = 7 ∨ k = 8 by omega) with rfl | rfl | rfl | rfl | rfl | rfl | rfl | rfl | rfl
  · simp only [wD, oD, mk16, Nat.reduceMod, Nat.zero_mod, Nat.zero_add, Nat.reduceAdd, Nat.reduceDiv, Nat.reduceSub, Nat.reducePow, if_true]; omega
  · simp only [wD, mk16, up16, Nat.reduceMod, Nat.reduceAdd, Nat.reduceDiv, Nat.reduceSub, Nat.reducePow, Nat.one_ne_zero, if_false]
    rw [show (4096 * a + 256 * b + 16 * c + d) / 4096 * 4096 / 4096 % 16 = a by omega]
    by_cases h : a < mo 0 <;> simp only [h, if_true, if_false, oD, mk16] <;> omega
  · simp only [wD, oD, mk16, Nat.reduceMod, Nat.reduceAdd, Nat.reduceDiv, Nat.reduceSub, Nat.reducePow, if_true]; omega
  · simp only [wD, mk16, up16, Nat.reduceMod, Nat.reduceAdd, Nat.reduceDiv, Nat.reduceSub, Nat.reducePow, Nat.one_ne_zero, if_false]
    rw [show (4096 * a + 256 * b + 16 * c + d) / 256 * 256 / 256 % 16 = b by omega, show ((4096 * a + 256 * b + 16 * c + d) / 256 * 256 - b * 256) / 4096 % 16 = a by omega]
    by_cases h1 : b < mo 1 <;> by_cases h : a < mo 0 <;> simp only [h, h1, if_true, if_false, oD, mk16] <;> omega
  · simp only [wD, oD, mk16, Nat.reduceMod, Nat.reduceAdd, Nat.reduceDiv, Nat.reduceSub, Nat.reducePow, if_true]; omega
  · simp only [wD, mk16, up16, Nat.reduceMod, Nat.reduceAdd, Nat.reduceDiv, Nat.reduceSub, Nat.reducePow, Nat.one_ne_zero, if_false]
    rw [show (4096 * a + 256 * b + 16 * c + d) / 16 * 16 / 16 % 16 = c by omega, show ((4096 * a + 256 * b + 16 * c + d) / 16 * 16 - c * 16) / 256 % 16 = b by omega, show ((4096 * a + 256 * b + 16 * c + d) / 16 * 16 - c * 16 - b * 256) / 4096 % 16 = a by omega]
    by_cases h2 : c < mo 2 <;> by_cases h1 : b < mo 1 <;> by_cases h : a < mo 0 <;> simp only [h, h1, h2, if_true, if_false, oD, mk16] <;> omega
  · simp only [wD, oD, mk16, Nat.reduceMod, Nat.reduceAdd, Nat.reduceDiv, Nat.reduceSub, Nat.reducePow, if_true]; omega
  · simp only [wD, mk16, up16, Nat.reduceMod, Nat.reduceAdd, Nat.reduceDiv, Nat.reduceSub, Nat.reducePow, Nat.one_ne_zero, if_false, Nat.div_one, Nat.mul_one]
    rw [show (4096 * a + 256 * b + 16 * c + d) % 16 = d by omega, show (4096 * a + 256 * b + 16 * c + d - d) / 16 % 16 = c by omega, show (4096 * a + 256 * b + 16 * c + d - d - c * 16) / 256 % 16 = b by omega, show (4096 * a + 256 * b + 16 * c + d - d - c * 16 - b * 256) / 4096 % 16 = a by omega]
    by_cases h3 : d < mo 3 <;> by_cases h2 : c < mo 2 <;> by_cases h1 : b < mo 1 <;> by_cases h : a < mo 0 <;> simp only [h, h1, h2, h3, if_true, if_false, oD, mk16] <;> omega
  · simp only [wD, oD, mk16, Nat.reduceMod, Nat.reduceAdd, Nat.reduceDiv, Nat.reduceSub, Nat.reducePow, if_true, Nat.div_one, Nat.mul_one]
theorem wD_ok {mo : Nat → Nat} (hmo : ∀ k, k < 4 → mo k ≤ 14) {k a b c d : Nat} (hk : k ≤ 8) (ha : a ≤ 14) (hb : b ≤ 14) (hc : c ≤ 14) (hd : d ≤ 14) : wD mo k a b c d = none ∨ ∃ q : Nat × Nat × Nat × Nat, wD mo k a b c d = some q ∧ q.1 ≤ 14 ∧ q.2.1 ≤ 14 ∧ q.2.2.1 ≤ 14 ∧ q.2.2.2 ≤ 14 := by
  have m0 := hmo 0 (by omega)
  have m1 := hmo 1 (by omega)
  have m2 := hmo 2 (by omega)
  have m3 := hmo 3 (by omega)
  rcases (show k = 0 ∨ k = 1 ∨ k = 2 ∨ k = 3 ∨ k = 4 ∨ k = 5 ∨ k = 6 ∨ k = 7 ∨ k = 8 by omega) with rfl | rfl | rfl | rfl | rfl | rfl | rfl | rfl | rfl
  · exact Or.inr ⟨_, rfl, by simp⟩
  · by_cases h : a < mo 0
    · exact Or.inr ⟨_, if_pos h, by simp; omega⟩
    · exact Or.inl (if_neg h)
  · exact Or.inr ⟨_, rfl, by simp; omega⟩
  · by_cases h1 : b < mo 1
    · exact Or.inr ⟨_, if_pos h1, by simp; omega⟩
    · by_cases h : a < mo 0
      · exact Or.inr ⟨(a + 1, 0, 0, 0), by simp [wD, h, h1], by simp; omega⟩
      · exact Or.inl (by simp [wD, h, h1])
  · exact Or.inr ⟨_, rfl, by simp; omega⟩
  · by_cases h2 : c < mo 2
    · exact Or.inr ⟨_, if_pos h2, by simp; omega⟩
    · by_cases h1 : b < mo 1
      · exact Or.inr ⟨(a, b + 1, 0, 0), by simp [wD, h1, h2], by simp; omega⟩
      · by_cases h : a < mo 0
        · exact Or.inr ⟨(a + 1, 0, 0, 0), by simp [wD, h, h1, h2], by simp; omega⟩
        · exact Or.inl (by simp [wD, h, h1, h2])
  · exact Or.inr ⟨_, rfl, by simp; omega⟩
  · by_cases h3 : d < mo 3
    · exact Or.inr ⟨_, if_pos h3, by simp; omega⟩
    · by_cases h2 : c < mo 2
      · exact Or.inr ⟨(a, b, c + 1, 0), by simp [wD, h2, h3], by simp; omega⟩
      · by_cases h1 : b < mo 1
        · exact Or.inr ⟨(a, b + 1, 0, 0), by simp [wD, h1, h2, h3], by simp; omega⟩
        · by_cases h : a < mo 0
          · exact Or.inr ⟨(a + 1, 0, 0, 0), by simp [wD, h, h1, h2, h3], by simp; omega⟩
          · exact Or.inl (by simp [wD, h, h1, h2, h3])
  · exact Or.inr ⟨_, rfl, by simp; omega⟩
theorem wN_vM {mo : Nat → Nat} (hmo : ∀ k, k < 4 → mo k ≤ 14) {k m : Nat} (hk : k ≤ 8) (hm : vM m) : vM (wN mo k m) := by
  rcases vM_mk hm with rfl | ⟨a, b, c, d, ha, hb, hc, hd, rfl⟩
  · exact Or.inl rfl
  · rw [wN_D mo hk ha hb hc hd]
    rcases wD_ok hmo hk ha hb hc hd with h | ⟨q, h, h0, h1, h2, h3⟩
    · rw [h]; exact Or.inl rfl
    · rw [h]; exact mk_vM h0 h1 h2 h3
