/-! the places on rings that are bad for a player -/
section BD
variable {n m : Nat} {ow co ar : Nat → Nat}
def cyc (n : Nat) (co ar : Nat → Nat) (x k : Nat) : Prop := TC (wiN n co (co x)) ar x k ∧ TC (wiN n co (co x)) ar k x
theorem wi_self {x : Nat} (hx : x < n) : (wiN n co (co x)).testBit x = true := wi_bit.mpr ⟨hx, Nat.le_refl _⟩
theorem ringPlaces_eq {g : GG} (hR : rG g n ow co ar) (ok : okG n ow co ar) {x : Nat} (hx : x < n) (hm : 20 < m) : ∃ v, f_X1_ringPlaces m g (nI x) = some (nI v) ∧ v < 2 ^ n ∧ ∀ k, v.testBit k = true ↔ cyc n co ar x k := by
  have hn := ok.1
  have hA := wi_lt (n := n) (co := co) (c := co x)
  have h0 : 0 < 2 ^ n := Nat.pow_pos (by omega)
  have hx2 : 2 ^ x < 2 ^ n := Nat.pow_lt_pow_right (by omega) hx
  have b1 := it_lt (rc_ok (n := n) (ar := ar) (wiN n co (co x)) (2 ^ x) ok) h0 n
  have hb : ∀ k, (itF (rdF n ar (wiN n co (co x)) (2 ^ x)) n 0 &&& itF (rgF n ar (wiN n co (co x)) (2 ^ x)) n 0).testBit k = true ↔ cyc n co ar x k := fun k => by
    rw [Nat.testBit_and, Bool.and_eq_true, rc_all ok hA (wi_self hx), rs_all hA (wi_self hx)]
    exact Iff.rfl
  have hlt := Nat.lt_of_le_of_lt (Nat.and_le_left (m := itF (rgF n ar (wiN n co (co x)) (2 ^ x)) n 0)) b1
  unfold f_X1_ringPlaces
  rw [notLess_eq hR ok hm hx, bit_eq (by omega)]
  simp only [Option.bind_some]
  rw [reached_eq hR ok hx2 hA hm, reaching_eq hR ok hA hm]
  simp only [Option.bind_some]
  rw [nI_and]
  generalize itF (rdF n ar (wiN n co (co x)) (2 ^ x)) n 0 &&& itF (rgF n ar (wiN n co (co x)) (2 ^ x)) n 0 = v at hb hlt
  rw [contains_eq (p31 hn hlt) (by omega)]
  simp only [Option.bind_some]
  by_cases e : v.testBit x = true
  · rw [if_pos e, if_neg n10]
    exact ⟨v, rfl, hlt, hb⟩
  · rw [if_neg e, if_pos rfl]
    refine ⟨0, rfl, h0, fun k => ?_⟩
    rw [Nat.zero_testBit]
    refine ⟨fun z => (by cases z), fun z => ?_⟩
    exact absurd ((hb x).mpr ⟨TC_tr z.1 z.2, TC_tr z.1 z.2⟩) e
theorem badColour_eq {pl c : Nat} (hpl : pl < 2) (hc : c ≤ 8) : f_X1_isBadColour (nI pl) (nI c) = some (if c % 2 = pl then 0 else 1) := by
  rcases (show pl = 0 ∨ pl = 1 by omega) with rfl | rfl <;>
  rcases (show c = 0 ∨ c = 1 ∨ c = 2 ∨ c = 3 ∨ c = 4 ∨ c = 5 ∨ c = 6 ∨ c = 7 ∨ c = 8 by omega) with rfl | rfl | rfl | rfl | rfl | rfl | rfl | rfl | rfl <;> decide
theorem badPlaces_eq {g : GG} (hR : rG g n ow co ar) (ok : okG n ow co ar) {pl : Nat} (hpl : pl < 2) (hm : 20 < m) : ∃ v, f_X1_badRingPlaces m g (nI pl) = some (nI v) ∧ v < 2 ^ n ∧ ∀ k, v.testBit k = true ↔ ∃ x, x < n ∧ co x % 2 ≠ pl ∧ cyc n co ar x k := by
  have hn := ok.1
  have h0 : 0 < 2 ^ n := Nat.pow_pos (by omega)
  unfold f_X1_badRingPlaces
  obtain ⟨s, ⟨v, h1, h2, h3⟩, h4⟩ := loop_rel (fun q (s : Int32) i => f_X1_badRingPlaces_L4 m g (nI pl) q s i) (fun i (_ : Unit) s => ∃ v, s = nI v ∧ v < 2 ^ n ∧ ∀ k, v.testBit k = true ↔ ∃ x, x < i ∧ co x % 2 ≠ pl ∧ cyc n co ar x k) (fun _ a => a) n () 0 ⟨0, rfl, h0, fun k => by rw [Nat.zero_testBit]; exact ⟨fun z => (by cases z), fun ⟨x, h, _⟩ => absurd h (by omega)⟩⟩
    (fun q i s hi ⟨v, h1, h2, h3⟩ => by
      have hc := (ok.2 i hi).2.1
      by_cases e : co i % 2 = pl
      · refine ⟨s, ?_, v, h1, h2, fun k => ?_⟩
        · show f_X1_badRingPlaces_L4 m g (nI pl) (q + 1) s (nI i) = f_X1_badRingPlaces_L4 m g (nI pl) q s (nI (i + 1))
          rw [f_X1_badRingPlaces_L4, hR.1, if_neg (nI_ge hi (by omega)), vg_nI (by omega) (by omega), tn (by omega), (hR.2 i hi).2.1, badColour_eq hpl hc, if_pos e, nI_1]
          rfl
        · rw [h3 k]
          constructor
          · rintro ⟨x, a, b, d⟩
            exact ⟨x, by omega, b, d⟩
          · rintro ⟨x, a, b, d⟩
            by_cases e2 : x = i
            · subst e2; exact absurd e b
            · exact ⟨x, by omega, b, d⟩
      · obtain ⟨w, w1, w2, w3⟩ := ringPlaces_eq hR ok hi hm
        refine ⟨nI (v ||| w), ?_, v ||| w, rfl, Nat.or_lt_two_pow h2 w2, fun k => ?_⟩
        · show f_X1_badRingPlaces_L4 m g (nI pl) (q + 1) s (nI i) = f_X1_badRingPlaces_L4 m g (nI pl) q _ (nI (i + 1))
          rw [f_X1_badRingPlaces_L4, hR.1, if_neg (nI_ge hi (by omega)), vg_nI (by omega) (by omega), tn (by omega), (hR.2 i hi).2.1, badColour_eq hpl hc, if_neg e, w1]
          simp only [Option.bind_some, if_neg n10]
          rw [h1, nI_or, nI_1]
        · rw [Nat.testBit_or, Bool.or_eq_true, h3 k, w3 k]
          constructor
          · rintro (⟨x, a, b, d⟩ | d)
            · exact ⟨x, by omega, b, d⟩
            · exact ⟨i, by omega, e, d⟩
          · rintro ⟨x, a, b, d⟩
            by_cases e2 : x = i
            · subst e2; exact Or.inr d
            · exact Or.inl ⟨x, by omega, b, d⟩) m (by omega)
  have h4 : f_X1_badRingPlaces_L4 m g (nI pl) m 0 0 = f_X1_badRingPlaces_L4 m g (nI pl) (m - n) s (nI n) := h4
  rw [h4, show m - n = (m - n - 1) + 1 by omega, f_X1_badRingPlaces_L4, hR.1, if_pos (nI_le (Nat.le_refl n) (by omega)), h1]
  exact ⟨v, rfl, h2, h3⟩
end BD
