/-! badRings -/
theorem badRings_core {u : SS} {f : Nat → Int32} {m : Nat} {trial : GG} {mj mr : Nat → Int32} (hs : RS u f) (hm : 1000000 ≤ m) (p1 p2 : Int32) : ∃ q qm, f_X6_badRings m u trial p1 p2 = some q ∧ f_X7_badRings m f mj mr p1 p2 = some qm ∧ q.1 = qm.1 := by
  obtain ⟨n, ow, co, ar, ch, tk, c, ok, hR, hM⟩ := hs
  have hn := ok.1.1
  unfold f_X6_badRings f_X7_badRings
  rcases pl_cases p1 with ⟨a, ha, rfl, a1, -, a3⟩ | ⟨a1, -, a3⟩
  · rw [a1, a3]
    simp only [Option.bind_some, if_neg n10, if_true]
    have okj := ja_ok (pl := a) ok
    obtain ⟨g, g1, g2⟩ := judgeFor_eq (trial := trial) (m := m) hR ok ha (by omega)
    obtain ⟨mj', y1, y2⟩ := judges_eq (mj := mj) (m := m) hM ok ha (by omega)
    rw [g1]
    simp only [Option.bind_some]
    by_cases c0 : p2 = 0
    · obtain ⟨v, v1, v2, v3⟩ := badPlaces_eq (m := m) g2 okj ha (by omega)
      obtain ⟨v', mj'', g', z1, z2, z3, z4⟩ := allBad_eq (mj := mj) (mr := mr) (m := m) hM ok ha (by omega)
      have hvv : v = v' := by
        apply Nat.eq_of_testBit_eq
        intro k
        have h1 := (v3 k).trans (z4 k).symm
        cases e1 : v.testBit k <;> cases e2 : v'.testBit k
        · rfl
        · exact absurd (h1.mpr e2) (by rw [e1]; decide)
        · exact absurd (h1.mp e1) (by rw [e2]; decide)
        · rfl
      rw [if_pos c0, if_pos c0, v1, z1, hvv]
      exact ⟨_, _, rfl, rfl, rfl⟩
    rw [if_neg c0, if_neg c0, y1]
    by_cases c1 : p2 = 1
    · subst c1
      obtain ⟨v, v1, v2⟩ := leastc_eq (m := m) ha hM ok.1 g2 okj y2 (by omega)
      have v2 : f_X7_badRings_L42 m f mj' (nI a) 1 m (-5) 0 = some v := v2
      rw [if_pos rfl, v1, show f_X7_in 1 1 2 = some 1 from rfl]
      simp only [Option.bind_some, if_neg n10]
      rw [v2]
      exact ⟨_, _, rfl, rfl, rfl⟩
    rw [if_neg c1]
    by_cases c2 : p2 = 2
    · subst c2
      obtain ⟨v, v1, v2⟩ := short_eq (m := m) ha hM ok.1 g2 okj y2 (by omega)
      have v2 : f_X7_badRings_L42 m f mj' (nI a) 2 m (-5) 0 = some v := v2
      rw [if_pos rfl, v1, show f_X7_in 2 1 2 = some 1 from rfl]
      simp only [Option.bind_some, if_neg n10]
      rw [v2]
      exact ⟨_, _, rfl, rfl, rfl⟩
    rw [if_neg c2]
    have h0 : f_X7_in p2 1 2 = some 0 := by
      rw [in_eq]
      by_cases e1 : p2 < 1
      · rw [if_pos e1]
      · rw [if_neg e1]
        by_cases e2 : (2 : Int32) < p2
        · rw [if_pos e2]
        · exfalso
          rcases in_cases p2 2 (by omega) with ⟨k, hk, rfl, -⟩ | ⟨-, -, e⟩
          · rcases (show k = 0 ∨ k = 1 ∨ k = 2 by omega) with rfl | rfl | rfl
            · exact c0 rfl
            · exact c1 rfl
            · exact c2 rfl
          · rcases e with e | e
            · rw [Int32.lt_iff_toInt_lt] at e e1
              rw [Int32.toInt_zero] at e
              rw [show (1 : Int32).toInt = 1 from rfl] at e1
              omega
            · exact e2 e
    rw [h0]
    exact ⟨_, _, rfl, rfl, rfl⟩
  · rw [a1, a3]
    exact ⟨_, _, rfl, rfl, rfl⟩
