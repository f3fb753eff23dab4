/-! the least over the bad rings, class and model side by side -/
section BR
variable {n m : Nat} {ow co ar ch : Nat → Nat} {f mj : Nat → Int32} {tk : Nat} {c0 : Int32}
/-- one step of a least value -/
def lsF (acc v : Int32) : Int32 := if acc = -5 then v else if acc ≤ v then acc else v
theorem ring_cases {aj : Nat → Nat} {g : GG} (hM : rN f n ow co ar ch tk c0) (ok : okG n ow co ar) (hR : rG g n ow co aj) (okj : okG n ow co aj) (hj : ∀ p, p < n → mj p = nI (aj p)) {x : Nat} (hx : x < n) (hm : 100 < m) : (∃ j v, j < n ∧ f_X7_ringAt m f mj (nI x) = some (nI (j + 1)) ∧ f_X1_shortestRing m g (nI x) = some (nI (j + 1)) ∧ f_X1_ringPlaces m g (nI x) = some (nI v) ∧ v ≠ 0 ∧ v < 2 ^ n) ∨ (f_X7_ringAt m f mj (nI x) = some (-5) ∧ f_X1_shortestRing m g (nI x) = some (-5) ∧ f_X1_ringPlaces m g (nI x) = some 0) := by
  obtain ⟨v, v1, v2, v3⟩ := ringPlaces_eq (m := m) hR okj hx (by omega)
  rcases ringAt_eq (m := m) hM ok hj hx hm with ⟨j, j1, j2, j3, j4⟩ | ⟨j1, j2⟩
  · refine Or.inl ⟨j, v, j1, j4, ?_, v1, fun e => ?_, v2⟩
    · rcases shortest_eq (m := m) hR okj hx hm with ⟨k, k1, k2, k3, k4⟩ | ⟨k1, k2⟩
      · have : j = k := by
          rcases Nat.lt_trichotomy j k with h | h | h
          · exact absurd j2 (k3 j h)
          · exact h
          · exact absurd k2 (j3 k h)
        rw [k4, this]
      · exact absurd j2 (k1 j j1)
    · have := (v3 x).mpr ⟨⟨j, j2⟩, ⟨j, j2⟩⟩
      rw [e, Nat.zero_testBit] at this
      cases this
  · refine Or.inr ⟨j2, ?_, ?_⟩
    · rcases shortest_eq (m := m) hR okj hx hm with ⟨k, k1, k2, k3, k4⟩ | ⟨k1, k2⟩
      · exact absurd ⟨k, k2⟩ j1
      · exact k2
    · have : v = 0 := Nat.eq_of_testBit_eq fun k => by
        rw [Nat.zero_testBit]
        cases e : v.testBit k with
        | false => rfl
        | true =>
          have h := (v3 k).mp e
          exact absurd (TC_tr h.1 h.2) j1
      rw [v1, this]
      rfl
end BR
