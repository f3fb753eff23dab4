/-! the model's places on bad rings -/
section AB
variable {n m : Nat} {ow co ar ch : Nat → Nat} {f mj : Nat → Int32} {tk : Nat} {c0 : Int32}
theorem onRings_eq {aj : Nat → Nat} {mr : Nat → Int32} (hM : rN f n ow co ar ch tk c0) (ok : okG n ow co ar) (haj : ∀ p, p < n → aj p < 2 ^ n) (hj : ∀ p, p < n → mj p = nI (aj p)) {c : Nat} (hc : c ≤ 20) (hm : 100 < m) : ∃ v g, f_X7_onRings m f mj mr (nI c) = some (nI v, g) ∧ v < 2 ^ n ∧ ∀ k, v.testBit k = true ↔ k < n ∧ ∃ b, b < n ∧ co b = c ∧ TC (wiN n co c) aj k b ∧ TC (wiN n co c) aj b k := by
  have hn := ok.1
  have h0 : 0 < 2 ^ n := Nat.pow_pos (by omega)
  have hA := wi_lt (n := n) (co := co) (c := c)
  obtain ⟨g, g1, g2⟩ := reaches_eq (mr := mr) hM ok haj hj hc hm
  unfold f_X7_onRings
  rw [g1]
  simp only [Option.bind_some]
  have hwl : ∀ p, waN n (wiN n co c) aj p < 2 ^ n := fun p => wa_lt hA n p
  have inner : ∀ a, a < n → ∀ v, v < 2 ^ n → ∃ w, f_X7_onRings_L23 f g (nI c) (nI a) m (nI v) 0 = some (nI w) ∧ w < 2 ^ n ∧ ∀ k, w.testBit k = true ↔ v.testBit k = true ∨ (k = a ∧ ∃ b, b < n ∧ co b = c ∧ TC (wiN n co c) aj k b ∧ TC (wiN n co c) aj b k) := by
    intro a ha v hv
    obtain ⟨s, ⟨w, h1, h2, h3⟩, h4⟩ := loop_rel (fun q (s : Int32) i => f_X7_onRings_L23 f g (nI c) (nI a) q s i) (fun i (_ : Unit) s => ∃ w, s = nI w ∧ w < 2 ^ n ∧ ∀ k, w.testBit k = true ↔ v.testBit k = true ∨ (k = a ∧ ∃ b, b < i ∧ co b = c ∧ TC (wiN n co c) aj k b ∧ TC (wiN n co c) aj b k)) (fun _ a => a) n () (nI v) ⟨v, rfl, hv, fun k => ⟨Or.inl, fun z => z.elim id (fun ⟨_, b, h, _⟩ => absurd h (by omega))⟩⟩
      (fun q i s hi ⟨w, h1, h2, h3⟩ => by
        have ic := (ok.2 i hi).2.1
        have same : ¬ (co i = c ∧ TC (wiN n co c) aj a i ∧ TC (wiN n co c) aj i a) → ∀ k, w.testBit k = true ↔ v.testBit k = true ∨ (k = a ∧ ∃ b, b < i + 1 ∧ co b = c ∧ TC (wiN n co c) aj k b ∧ TC (wiN n co c) aj b k) := fun no k => by
          rw [h3 k]
          constructor
          · rintro (z | ⟨e, b, x, y⟩)
            · exact Or.inl z
            · exact Or.inr ⟨e, b, by omega, y⟩
          · rintro (z | ⟨e, b, x, y⟩)
            · exact Or.inl z
            · by_cases e2 : b = i
              · subst e2; subst e; exact absurd y no
              · exact Or.inr ⟨e, b, by omega, y⟩
        have j1 := bit_iff (p31 hn (hwl a)) (show i < 32 by omega)
        have j2 := bit_iff (p31 hn (hwl i)) (show a < 32 by omega)
        have stepc : ∀ (z : Int32), (co i = c ∧ TC (wiN n co c) aj a i ∧ TC (wiN n co c) aj i a → z = s ||| nI (2 ^ a)) → (¬ (co i = c ∧ TC (wiN n co c) aj a i ∧ TC (wiN n co c) aj i a) → z = s) → f_X7_onRings_L23 f g (nI c) (nI a) (q + 1) s (nI i) = f_X7_onRings_L23 f g (nI c) (nI a) q z (nI (i + 1)) := by
          intro z hz hz'
          rw [f_X7_onRings_L23, hM.1.1, if_neg (nI_ge hi (by omega)), vg_nI (by omega) (by omega), tn (by omega), tn (by omega), g2 a ha, g2 i hi, vg_nI (by omega) (by omega), of1 (by omega), (hM.1.2 i hi).2.1, jshl_1 (by omega), nI_1, Int32.or_zero]
          by_cases e1 : TC (wiN n co c) aj a i
          · rw [if_pos (j1.mpr ((wa_all hA).mpr e1))]
            by_cases e2 : TC (wiN n co c) aj i a
            · rw [if_pos (j2.mpr ((wa_all hA).mpr e2))]
              simp only [Option.bind_some, if_neg n10]
              by_cases e3 : co i = c
              · rw [if_pos (by rw [e3]), hz ⟨e3, e1, e2⟩]
              · rw [if_neg (by rw [nI_eq (by omega) (by omega)]; exact e3), hz' (fun y => e3 y.1)]
            · rw [if_neg (fun y => e2 ((wa_all hA).mp (j2.mp y))), hz' (fun y => e2 y.2.2)]
              rfl
          · rw [if_neg (fun y => e1 ((wa_all hA).mp (j1.mp y))), hz' (fun y => e1 y.2.1)]
            rfl
        by_cases yes : co i = c ∧ TC (wiN n co c) aj a i ∧ TC (wiN n co c) aj i a
        · refine ⟨nI (w ||| 2 ^ a), stepc _ (fun _ => by rw [h1, nI_or]) (fun no => absurd yes no), w ||| 2 ^ a, rfl, or_lt h2 ha, fun k => ?_⟩
          rw [Nat.testBit_or, Bool.or_eq_true, h3 k, Nat.testBit_two_pow, decide_eq_true_iff]
          constructor
          · rintro ((z | ⟨e, b, x, y⟩) | e)
            · exact Or.inl z
            · exact Or.inr ⟨e, b, by omega, y⟩
            · subst e; exact Or.inr ⟨rfl, i, by omega, yes⟩
          · rintro (z | ⟨e, b, x, y⟩)
            · exact Or.inl (Or.inl z)
            · exact Or.inr e.symm
        · exact ⟨s, stepc _ (fun y => absurd y yes) (fun _ => rfl), w, h1, h2, same yes⟩) m (by omega)
    have h4 : f_X7_onRings_L23 f g (nI c) (nI a) m (nI v) 0 = f_X7_onRings_L23 f g (nI c) (nI a) (m - n) s (nI n) := h4
    rw [h4, show m - n = (m - n - 1) + 1 by omega, f_X7_onRings_L23, hM.1.1, if_pos (nI_le (Nat.le_refl n) (by omega)), h1]
    exact ⟨w, rfl, h2, h3⟩
  obtain ⟨s, ⟨w, h1, h2, h3⟩, h4⟩ := loop_rel (fun q (s : Int32) i => f_X7_onRings_L9 m f g (nI c) q s i) (fun i (_ : Unit) s => ∃ w, s = nI w ∧ w < 2 ^ n ∧ ∀ k, w.testBit k = true ↔ k < i ∧ ∃ b, b < n ∧ co b = c ∧ TC (wiN n co c) aj k b ∧ TC (wiN n co c) aj b k) (fun _ a => a) n () 0 ⟨0, rfl, h0, fun k => by rw [Nat.zero_testBit]; exact ⟨fun z => (by cases z), fun ⟨h, _⟩ => absurd h (by omega)⟩⟩
    (fun q i s hi ⟨w, h1, h2, h3⟩ => by
      obtain ⟨x, x1, x2, x3⟩ := inner i hi w h2
      refine ⟨nI x, ?_, x, rfl, x2, fun k => ?_⟩
      · show f_X7_onRings_L9 m f g (nI c) (q + 1) s (nI i) = f_X7_onRings_L9 m f g (nI c) q _ (nI (i + 1))
        rw [f_X7_onRings_L9, hM.1.1, if_neg (nI_ge hi (by omega)), h1, x1, nI_1]
        rfl
      · rw [x3 k, h3 k]
        constructor
        · rintro (⟨z, y⟩ | ⟨e, y⟩)
          · exact ⟨by omega, y⟩
          · exact ⟨by omega, y⟩
        · rintro ⟨z, y⟩
          by_cases e : k = i
          · exact Or.inr ⟨e, y⟩
          · exact Or.inl ⟨by omega, y⟩) m (by omega)
  have h4 : f_X7_onRings_L9 m f g (nI c) m 0 0 = f_X7_onRings_L9 m f g (nI c) (m - n) s (nI n) := h4
  rw [h4, show m - n = (m - n - 1) + 1 by omega, f_X7_onRings_L9, hM.1.1, if_pos (nI_le (Nat.le_refl n) (by omega)), h1]
  exact ⟨w, g, rfl, h2, h3⟩
theorem allBad_eq {pl : Nat} {mr : Nat → Int32} (hM : rN f n ow co ar ch tk c0) (ok : okS n ow co ar ch tk) (hpl : pl < 2) (hm : 100 < m) : ∃ v mj' g, f_X7_allBad m f mj mr (nI pl) = some (nI v, mj', g) ∧ (∀ p, p < n → mj' p = nI (jaN ow ar ch pl p)) ∧ v < 2 ^ n ∧ ∀ k, v.testBit k = true ↔ ∃ x, x < n ∧ co x % 2 ≠ pl ∧ cyc n co (jaN ow ar ch pl) x k := by
  have hn := ok.1.1
  have h0 : 0 < 2 ^ n := Nat.pow_pos (by omega)
  have okj := ja_ok (pl := pl) ok
  obtain ⟨mj', j1, j2⟩ := judges_eq (mj := mj) (m := m) hM ok hpl (by omega)
  unfold f_X7_allBad
  rw [j1]
  simp only [Option.bind_some]
  obtain ⟨s, ⟨w, h1, h2, h3⟩, h4⟩ := loop_rel (fun q (s : Int32 × (Nat → Int32)) i => f_X7_allBad_L11 m f mj' q s.1 (1 - nI pl + 2 * i) s.2) (fun i (_ : Unit) s => ∃ w, s.1 = nI w ∧ w < 2 ^ n ∧ ∀ k, w.testBit k = true ↔ ∃ x, x < n ∧ co x % 2 ≠ pl ∧ co x < 1 - pl + 2 * i ∧ cyc n co (jaN ow ar ch pl) x k) (fun _ a => a) 4 () (0, mr) ⟨0, rfl, h0, fun k => by rw [Nat.zero_testBit]; exact ⟨fun z => (by cases z), fun ⟨x, _, h, h', _⟩ => absurd h' (by omega)⟩⟩
    (fun q i s hi ⟨w, h1, h2, h3⟩ => by
      have e1 : (1 - nI pl + 2 * nI i : Int32) = nI (1 - pl + 2 * i) := by
        rw [show (1 - nI pl : Int32) = nI (1 - pl) from pk_sub (a := 1) (by omega), show (2 : Int32) = nI 2 from rfl, pk_mul, nI_add]
      have e2 : (1 - nI pl + 2 * nI (i + 1) : Int32) = nI (1 - pl + 2 * i) + 2 := by
        rw [show (1 - nI pl : Int32) = nI (1 - pl) from pk_sub (a := 1) (by omega), show (2 : Int32) = nI 2 from rfl, pk_mul, nI_add, nI_add]
        congr 1
      obtain ⟨v, g, v1, v2, v3⟩ := onRings_eq (mr := s.2) (m := m) hM ok.1 (fun p hp => (okj.2 p hp).2.2) j2 (c := 1 - pl + 2 * i) (by omega) hm
      refine ⟨(nI (w ||| v), g), ?_, w ||| v, rfl, Nat.or_lt_two_pow h2 v2, fun k => ?_⟩
      · show f_X7_allBad_L11 m f mj' (q + 1) s.1 (1 - nI pl + 2 * nI i) s.2 = f_X7_allBad_L11 m f mj' q (nI (w ||| v)) (1 - nI pl + 2 * nI (i + 1)) g
        rw [e1, e2, f_X7_allBad_L11, if_neg (show ¬ (8 : Int32) ≤ nI (1 - pl + 2 * i) from by rw [show (8 : Int32) = nI 8 from rfl, nI_leI (by omega) (by omega)]; omega), v1]
        simp only [Option.bind_some]
        rw [h1, nI_or]
      · rw [Nat.testBit_or, Bool.or_eq_true, h3 k, v3 k]
        constructor
        · rintro (⟨x, a, b, d, e⟩ | ⟨a, x, b, d, e⟩)
          · exact ⟨x, a, b, by omega, e⟩
          · refine ⟨x, b, by omega, by omega, ?_⟩
            rw [← d] at e
            exact ⟨e.2, e.1⟩
        · rintro ⟨x, a, b, d, e⟩
          by_cases e3 : co x = 1 - pl + 2 * i
          · have hk := (wi_bit.mp (TC_r e.1)).1
            refine Or.inr ⟨hk, x, a, e3, ?_⟩
            rw [← e3]
            exact ⟨e.2, e.1⟩
          · exact Or.inl ⟨x, a, b, by omega, e⟩) m (by omega)
  have h4 : f_X7_allBad_L11 m f mj' m 0 (1 - nI pl + 2 * nI 0) mr = f_X7_allBad_L11 m f mj' (m - 4) s.1 (1 - nI pl + 2 * nI 4) s.2 := h4
  have z0 : (1 - nI pl + 2 * nI 0 : Int32) = 1 - nI pl := by rcases (show pl = 0 ∨ pl = 1 by omega) with rfl | rfl <;> decide
  rw [z0] at h4
  have z4 : (8 : Int32) ≤ 1 - nI pl + 2 * nI 4 := by rcases (show pl = 0 ∨ pl = 1 by omega) with rfl | rfl <;> decide
  rw [h4, show m - 4 = (m - 5) + 1 by omega, f_X7_allBad_L11, if_pos z4, h1]
  refine ⟨w, mj', s.2, rfl, j2, h2, fun k => ?_⟩
  rw [h3 k]
  constructor
  · rintro ⟨x, a, b, d, e⟩
    exact ⟨x, a, b, e⟩
  · rintro ⟨x, a, b, e⟩
    have := c7 ok x a
    exact ⟨x, a, b, by omega, e⟩
end AB
