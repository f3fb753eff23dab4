/-! the least colour of a bad ring -/
section BM
variable {n m : Nat} {ow co ar ch : Nat → Nat} {f mj : Nat → Int32} {tk : Nat} {c0 : Int32}
theorem leastc_eq {pl : Nat} {aj : Nat → Nat} {g : GG} (hpl : pl < 2) (hM : rN f n ow co ar ch tk c0) (ok : okG n ow co ar) (hR : rG g n ow co aj) (okj : okG n ow co aj) (hj : ∀ p, p < n → mj p = nI (aj p)) (hm : 100 < m) : ∃ v, f_X1_leastBadColour m g (nI pl) = some v ∧ f_X7_badRings_L42 m f mj (nI pl) (nI 1) m (-5) 0 = some v := by
  have hn := ok.1
  unfold f_X1_leastBadColour
  obtain ⟨s, s', h1, h4, h5⟩ := loop2 (fun q (s : Int32) i => f_X1_leastBadColour_L5 m g (nI pl) q s i) (fun q (s : Int32) i => f_X7_badRings_L42 m f mj (nI pl) (nI 1) q s i) (fun _ s s' => s = s') n (-5) (-5) rfl
    (fun q i s s' hi h1 => by
      subst h1
      have hc := (ok.2 i hi).2.1
      by_cases e : co i % 2 = pl
      · refine ⟨s, s, ?_, ?_, rfl⟩
        · show f_X1_leastBadColour_L5 m g (nI pl) (q + 1) s (nI i) = f_X1_leastBadColour_L5 m g (nI pl) q s (nI (i + 1))
          rw [f_X1_leastBadColour_L5, hR.1, if_neg (nI_ge hi (by omega)), vg_nI (by omega) (by omega), vg_nI (by omega) (by omega), tn (by omega), (hR.2 i hi).2.1, badColour_eq hpl hc, if_pos e, nI_1]
          by_cases f1 : s = -5
          · simp only [if_pos f1, Option.bind_some, if_neg n10]
            rfl
          · simp only [if_neg f1]
            by_cases f2 : s ≤ nI (co i)
            · simp only [if_pos f2, Option.bind_some, if_true]
            · simp only [if_neg f2, Option.bind_some, if_neg n10]
              rfl
        · show f_X7_badRings_L42 m f mj (nI pl) (nI 1) (q + 1) s (nI i) = f_X7_badRings_L42 m f mj (nI pl) (nI 1) q s (nI (i + 1))
          rw [f_X7_badRings_L42, hM.1.1, if_neg (nI_ge hi (by omega)), of1 (by omega), (hM.1.2 i hi).2.1]
          simp only [Option.bind_some]
          rw [if_pos ((jr2 hpl hc).mpr e), nI_1]
          rfl
      · rcases ring_cases hM ok hR okj hj hi hm with ⟨j, v, j1, j2, -, j3, v0, v2⟩ | ⟨j2, -, j3⟩
        · have hv0 : ¬ nI v = 0 := fun z => v0 ((nI_z (by have := p31 hn v2; omega)).mp z)
          refine ⟨lsF s (nI (co i)), lsF s (nI (co i)), ?_, ?_, rfl⟩
          · show f_X1_leastBadColour_L5 m g (nI pl) (q + 1) s (nI i) = f_X1_leastBadColour_L5 m g (nI pl) q _ (nI (i + 1))
            rw [f_X1_leastBadColour_L5, hR.1, if_neg (nI_ge hi (by omega)), vg_nI (by omega) (by omega), vg_nI (by omega) (by omega), tn (by omega), (hR.2 i hi).2.1, badColour_eq hpl hc, if_neg e, j3, nI_1]
            unfold lsF
            by_cases f1 : s = -5
            · simp only [if_pos f1, Option.bind_some, if_neg n10, if_neg hv0]
            · simp only [if_neg f1]
              by_cases f2 : s ≤ nI (co i)
              · simp only [if_pos f2, Option.bind_some, if_true]
              · simp only [if_neg f2, Option.bind_some, if_neg n10, if_neg hv0]
          · show f_X7_badRings_L42 m f mj (nI pl) (nI 1) (q + 1) s (nI i) = f_X7_badRings_L42 m f mj (nI pl) (nI 1) q _ (nI (i + 1))
            rw [f_X7_badRings_L42, hM.1.1, if_neg (nI_ge hi (by omega)), of1 (by omega), (hM.1.2 i hi).2.1]
            simp only [Option.bind_some]
            rw [if_neg (fun z => e ((jr2 hpl hc).mp z)), j2, nI_1]
            simp only [Option.bind_some]
            rw [if_pos (show nI 1 = 1 from rfl)]
            simp only [Option.bind_some]
            rw [if_neg (nI_n5 (by omega))]
            unfold lsF
            by_cases e1 : s = -5
            · rw [if_pos e1, if_pos e1]
            · rw [if_neg e1, if_neg e1]
              by_cases e2 : s ≤ nI (co i)
              · rw [if_pos e2, if_pos e2]
              · rw [if_neg e2, if_neg e2]
        · refine ⟨s, s, ?_, ?_, rfl⟩
          · show f_X1_leastBadColour_L5 m g (nI pl) (q + 1) s (nI i) = f_X1_leastBadColour_L5 m g (nI pl) q s (nI (i + 1))
            rw [f_X1_leastBadColour_L5, hR.1, if_neg (nI_ge hi (by omega)), vg_nI (by omega) (by omega), vg_nI (by omega) (by omega), tn (by omega), (hR.2 i hi).2.1, badColour_eq hpl hc, if_neg e, j3, nI_1]
            by_cases f1 : s = -5
            · simp only [if_pos f1, Option.bind_some, if_neg n10]
              rfl
            · simp only [if_neg f1]
              by_cases f2 : s ≤ nI (co i)
              · simp only [if_pos f2, Option.bind_some, if_true]
              · simp only [if_neg f2, Option.bind_some, if_neg n10]
                rfl
          · show f_X7_badRings_L42 m f mj (nI pl) (nI 1) (q + 1) s (nI i) = f_X7_badRings_L42 m f mj (nI pl) (nI 1) q s (nI (i + 1))
            rw [f_X7_badRings_L42, hM.1.1, if_neg (nI_ge hi (by omega)), of1 (by omega), (hM.1.2 i hi).2.1]
            simp only [Option.bind_some]
            rw [if_neg (fun z => e ((jr2 hpl hc).mp z)), j2, nI_1]
            rfl) m (by omega)
  have h4 : f_X1_leastBadColour_L5 m g (nI pl) m (-5) 0 = f_X1_leastBadColour_L5 m g (nI pl) (m - n) s (nI n) := h4
  have h5 : f_X7_badRings_L42 m f mj (nI pl) (nI 1) m (-5) 0 = f_X7_badRings_L42 m f mj (nI pl) (nI 1) (m - n) s' (nI n) := h5
  rw [h4, h5, show m - n = (m - n - 1) + 1 by omega, f_X1_leastBadColour_L5, f_X7_badRings_L42, hR.1, hM.1.1, if_pos (nI_le (Nat.le_refl n) (by omega)), if_pos (nI_le (Nat.le_refl n) (by omega)), h1]
  exact ⟨_, rfl, rfl⟩
end BM
