/-! the model's table of what reaches what -/
def phF (k : Nat) (M : Nat → Nat) (p : Nat) : Nat := if (M p).testBit k = true then M p ||| M k else M p
def m0N (A : Nat) (ar : Nat → Nat) (p : Nat) : Nat := if A.testBit p = true then ar p &&& A else 0
def waN (n A : Nat) (ar : Nat → Nat) : Nat → Nat := fo phF n (m0N A ar)
section WA
variable {n m : Nat} {ow co ar : Nat → Nat} {A : Nat}
theorem ph_kk (k : Nat) (M : Nat → Nat) : phF k M k = M k := by
  unfold phF
  split
  · exact Nat.or_self _
  · rfl
theorem m0_bit {p q : Nat} : (m0N A ar p).testBit q = true ↔ A.testBit p = true ∧ A.testBit q = true ∧ (ar p).testBit q = true := by
  unfold m0N
  by_cases h : A.testBit p = true
  · rw [if_pos h, Nat.testBit_and, Bool.and_eq_true]
    exact ⟨fun ⟨a, b⟩ => ⟨h, b, a⟩, fun ⟨_, b, a⟩ => ⟨a, b⟩⟩
  · rw [if_neg h, Nat.zero_testBit]
    exact ⟨fun z => (by cases z), fun ⟨a, _⟩ => absurd a h⟩
theorem m0_lt (hA : A < 2 ^ n) (p : Nat) : m0N A ar p < 2 ^ n := by
  unfold m0N
  split
  · exact Nat.lt_of_le_of_lt Nat.and_le_right hA
  · exact Nat.pow_pos (by omega)
theorem ph_bit {k p q : Nat} {M : Nat → Nat} : (phF k M p).testBit q = true ↔ (M p).testBit q = true ∨ ((M p).testBit k = true ∧ (M k).testBit q = true) := by
  unfold phF
  by_cases h : (M p).testBit k = true
  · rw [if_pos h, Nat.testBit_or, Bool.or_eq_true]
    exact ⟨fun z => z.imp id (fun y => ⟨h, y⟩), fun z => z.imp id And.right⟩
  · rw [if_neg h]
    exact ⟨Or.inl, fun z => z.elim id (fun y => absurd y.1 h)⟩
theorem wa_lt (hA : A < 2 ^ n) : ∀ i p, fo phF i (m0N A ar) p < 2 ^ n := by
  intro i
  induction i with
  | zero => exact m0_lt hA
  | succ i ih =>
    intro p
    rw [fo_s]
    unfold phF
    split
    · exact Nat.or_lt_two_pow (ih p) (ih i)
    · exact ih p
theorem wa_sound : ∀ i p q, (fo phF i (m0N A ar) p).testBit q = true → TC A ar p q := by
  intro i
  induction i with
  | zero =>
    intro p q h
    obtain ⟨a, b, c⟩ := m0_bit.mp h
    exact TC_one a b c
  | succ i ih =>
    intro p q h
    rw [fo_s] at h
    rcases ph_bit.mp h with h | ⟨h1, h2⟩
    · exact ih p q h
    · exact TC_tr (ih p i h1) (ih i q h2)
theorem wa_mono : ∀ i p q, (m0N A ar p).testBit q = true → (fo phF i (m0N A ar) p).testBit q = true := by
  intro i
  induction i with
  | zero => intro p q h; exact h
  | succ i ih =>
    intro p q h
    rw [fo_s]
    exact ph_bit.mpr (Or.inl (ih p q h))
theorem wa_trans : ∀ i p j q, j < i → (fo phF i (m0N A ar) p).testBit j = true → (fo phF i (m0N A ar) j).testBit q = true → (fo phF i (m0N A ar) p).testBit q = true := by
  intro i
  induction i with
  | zero => intro p j q h; exact absurd h (by omega)
  | succ i ih =>
    intro p j q hj
    rw [fo_s]
    generalize fo phF i (m0N A ar) = M at ih
    intro h1 h2
    have h1 := ph_bit.mp h1
    have h2 := ph_bit.mp h2
    apply ph_bit.mpr
    by_cases e : j = i
    · subst e
      have a1 : (M p).testBit j = true := h1.elim id And.left
      have a2 : (M j).testBit q = true := h2.elim id And.right
      exact Or.inr ⟨a1, a2⟩
    · have hji : j < i := by omega
      rcases h1 with h1 | ⟨h1, h1'⟩
      · rcases h2 with h2 | ⟨h2, h2'⟩
        · exact Or.inl (ih p j q hji h1 h2)
        · exact Or.inr ⟨ih p j i hji h1 h2, h2'⟩
      · rcases h2 with h2 | ⟨h2, h2'⟩
        · exact Or.inr ⟨h1, ih i j q hji h1' h2⟩
        · exact Or.inr ⟨h1, h2'⟩
theorem wa_all (hA : A < 2 ^ n) {p q : Nat} : (waN n A ar p).testBit q = true ↔ TC A ar p q := by
  refine ⟨wa_sound n p q, fun h => ?_⟩
  refine TC_ind (P := fun q => (waN n A ar p).testBit q = true) (fun q hp hq h => ?_) (fun q r h1 ih hr h => ?_) h
  · exact wa_mono n p q (m0_bit.mpr ⟨hp, hq, h⟩)
  · have hq := TC_r h1
    have hqn : q < n := Nat.lt_of_not_le fun hle => by rw [bits_lt hA hle] at hq; cases hq
    exact wa_trans n p q r hqn ih (wa_mono n q r (m0_bit.mpr ⟨hq, hr, h⟩))
theorem phase_eq {M : Nat → Nat} {r : Nat → Int32} (hn : n ≤ 14) (hM : ∀ p, p < n → M p < 2 ^ n) (hr : ∀ p, p < n → r p = nI (M p)) {k : Nat} (hk : k < n) (hm : 20 < m) : ∃ g, f_X7_reaches_L104 (nI n) (nI k) m 0 r = some g ∧ ∀ p, p < n → g p = nI (phF k M p) := by
  obtain ⟨s, h1, h4⟩ := loop_rel (fun q (s : Nat → Int32) i => f_X7_reaches_L104 (nI n) (nI k) q i s) (fun i (_ : Unit) s => ∀ p, p < n → s p = nI (if p < i then phF k M p else M p)) (fun _ a => a) n () r (fun p hp => by rw [if_neg (by omega)]; exact hr p hp)
    (fun q i s hi h1 => by
      have a1 := h1 i hi
      rw [if_neg (by omega)] at a1
      have a2 : s k = nI (M k) := by
        rw [h1 k hk]
        by_cases e : k < i
        · rw [if_pos e, ph_kk]
        · rw [if_neg e]
      refine ⟨upd s i (nI (phF k M i)), ?_, fun p hp => ?_⟩
      · show f_X7_reaches_L104 (nI n) (nI k) (q + 1) (nI i) s = f_X7_reaches_L104 (nI n) (nI k) q (nI (i + 1)) _
        rw [f_X7_reaches_L104, if_neg (nI_ge hi (by omega)), vg_nI (by omega) (by omega), vg_nI (by omega) (by omega), tn (by omega), tn (by omega), a1, a2, nI_1]
        unfold phF
        by_cases e : (M i).testBit k = true
        · rw [if_pos ((bit_iff (p31 hn (hM i hi)) (by omega)).mpr e), if_pos e, nI_or]
        · rw [if_neg (fun z => e ((bit_iff (p31 hn (hM i hi)) (by omega)).mp z)), if_neg e, Int32.or_zero]
      · by_cases e : p = i
        · subst e; rw [upd_s, if_pos (by omega)]
        · rw [upd_n e, h1 p hp]
          by_cases e2 : p < i
          · rw [if_pos e2, if_pos (by omega)]
          · rw [if_neg e2, if_neg (by omega)]) m (by omega)
  have h4 : f_X7_reaches_L104 (nI n) (nI k) m 0 r = f_X7_reaches_L104 (nI n) (nI k) (m - n) (nI n) s := h4
  rw [h4, show m - n = (m - n - 1) + 1 by omega, f_X7_reaches_L104, if_pos (nI_le (Nat.le_refl n) (by omega))]
  refine ⟨s, rfl, fun p hp => ?_⟩
  have := h1 p hp
  rw [if_pos hp] at this
  exact this
theorem reaches_eq {f mj mr : Nat → Int32} {ch aj : Nat → Nat} {tk : Nat} {c : Int32} (hM : rN f n ow co ar ch tk c) (ok : okG n ow co ar) (haj : ∀ p, p < n → aj p < 2 ^ n) (hj : ∀ p, p < n → mj p = nI (aj p)) {x : Nat} (hx : x ≤ 20) (hm : 100 < m) : ∃ g, f_X7_reaches m f mj mr (nI x) = some g ∧ ∀ p, p < n → g p = nI (waN n (wiN n co x) aj p) := by
  have hn := ok.1
  have hA := wi_lt (n := n) (co := co) (c := x)
  unfold f_X7_reaches
  rw [hM.1.1, within_eq hM ok hx (by omega)]
  simp only [Option.bind_some]
  generalize wiN n co x = A at hA
  obtain ⟨s, h1, h4⟩ := loop_rel (fun q (s : Nat → Int32) i => f_X7_reaches_L50 mj (nI n) (nI A) q i s) (fun i (_ : Unit) s => ∀ p, p < i → s p = nI (m0N A aj p)) (fun _ a => a) n () mr (fun p hp => absurd hp (by omega))
    (fun q i s hi h1 => by
      refine ⟨upd s i (nI (m0N A aj i)), ?_, fun p hp => ?_⟩
      · show f_X7_reaches_L50 mj (nI n) (nI A) (q + 1) (nI i) s = f_X7_reaches_L50 mj (nI n) (nI A) q (nI (i + 1)) _
        rw [f_X7_reaches_L50, if_neg (nI_ge hi (by omega)), vg_nI (by omega) (by omega), vg_nI (by omega) (by omega), tn (by omega), hj i hi, nI_and, nI_1]
        unfold m0N
        by_cases e : A.testBit i = true
        · rw [if_pos ((bit_iff (p31 hn hA) (by omega)).mpr e), if_pos e]
        · rw [if_neg (fun z => e ((bit_iff (p31 hn hA) (by omega)).mp z)), if_neg e]
          rfl
      · by_cases e : p = i
        · subst e; rw [upd_s]
        · rw [upd_n e]; exact h1 p (by omega)) m (by omega)
  have h4 : f_X7_reaches_L50 mj (nI n) (nI A) m 0 mr = f_X7_reaches_L50 mj (nI n) (nI A) (m - n) (nI n) s := h4
  have h5 : f_X7_reaches_L50 mj (nI n) (nI A) (m - n) (nI n) s = some s := by
    rw [show m - n = (m - n - 1) + 1 by omega, f_X7_reaches_L50, if_pos (nI_le (Nat.le_refl n) (by omega))]
  rw [h4, h5]
  simp only [Option.bind_some]
  obtain ⟨t, g1, g4⟩ := loop_rel (fun q (s : Nat → Int32) i => f_X7_reaches_L95 m (nI n) q i s) (fun i (M : Nat → Nat) s => ∀ p, p < n → s p = nI (M p)) phF n (m0N A aj) s h1
    (fun q i s hi h1 => by
      obtain ⟨g, g1, g2⟩ := phase_eq (m := m) hn (fun p _ => wa_lt hA i p) h1 hi (by omega)
      refine ⟨g, ?_, g2⟩
      show f_X7_reaches_L95 m (nI n) (q + 1) (nI i) s = f_X7_reaches_L95 m (nI n) q (nI (i + 1)) g
      rw [f_X7_reaches_L95, if_neg (nI_ge hi (by omega)), g1, nI_1]
      rfl) m (by omega)
  have g4 : f_X7_reaches_L95 m (nI n) m 0 s = f_X7_reaches_L95 m (nI n) (m - n) (nI n) t := g4
  rw [g4, show m - n = (m - n - 1) + 1 by omega, f_X7_reaches_L95, if_pos (nI_le (Nat.le_refl n) (by omega))]
  exact ⟨t, rfl, g1⟩
end WA
