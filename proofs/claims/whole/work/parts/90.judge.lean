/-! the judged game: what its player chose stands alone -/
section JG
variable {u : SS} {f : Nat → Int32} {m n : Nat} {ow co ar ch : Nat → Nat} {pl : Nat}
def jaN (ow ar ch : Nat → Nat) (pl p : Nat) : Nat := if ow p = pl ∧ ch p ≠ 14 then 2 ^ ch p else ar p
theorem ja_yes {p : Nat} (h : ow p = pl) (h2 : ch p ≠ 14) : jaN ow ar ch pl p = 2 ^ ch p := if_pos ⟨h, h2⟩
theorem ja_no {p : Nat} (h : ¬ (ow p = pl ∧ ch p ≠ 14)) : jaN ow ar ch pl p = ar p := if_neg h
theorem ja_ok {tk : Nat} (ok : okS n ow co ar ch tk) : okG n ow co (jaN ow ar ch pl) := by
  refine ⟨ok.1.1, fun p hp => ⟨(ok.1.2 p hp).1, (ok.1.2 p hp).2.1, ?_⟩⟩
  by_cases h : ow p = pl ∧ ch p ≠ 14
  · rw [ja_yes h.1 h.2]
    rcases (ok.2.1 p hp).2 with e | e
    · exact absurd e h.2
    · exact Nat.pow_lt_pow_right (by omega) e.1
  · rw [ja_no h]
    exact (ok.1.2 p hp).2.2
theorem ja_0 {tk : Nat} (ok : okS n ow co ar ch tk) {p : Nat} (hp : p < n) : jaN ow ar ch pl p = 0 ↔ ar p = 0 := by
  by_cases h : ow p = pl ∧ ch p ≠ 14
  · rw [ja_yes h.1 h.2]
    have h1 : 0 < 2 ^ ch p := Nat.pow_pos (by omega)
    rcases (ok.2.1 p hp).2 with e | e
    · exact absurd e h.2
    · refine ⟨fun z => by omega, fun z => ?_⟩
      rw [z, Nat.zero_testBit] at e
      exact absurd e.2 (by decide)
  · rw [ja_no h]
theorem judgeFor_eq {tk : Nat} {c : Int32} {trial : GG} (hR : rS u n ow co ar ch tk c) (ok : okS n ow co ar ch tk) (hpl : pl < 2) (hm : 20 < m) : ∃ g, f_X6_judgeFor m u trial (nI pl) = some g ∧ rG g n ow co (jaN ow ar ch pl) := by
  have hn := ok.1.1
  obtain ⟨b, b1, b2⟩ := rG_become (o := trial) hR.1 hn
  unfold f_X6_judgeFor
  rw [b1]
  simp only [Option.bind_some]
  obtain ⟨s, ⟨h1, h2⟩, h4⟩ := loop_rel (fun k (s : GG) i => f_X6_judgeFor_L16 u (nI pl) k i s) (fun i (_ : Unit) s => rG s n ow co (fun p => if p < i then jaN ow ar ch pl p else ar p) ∧ True) (fun _ a => a) n () b ⟨⟨b2.1, fun p hp => by
      refine ⟨(b2.2 p hp).1, (b2.2 p hp).2.1, ?_⟩
      show _ = nI (if p < 0 then _ else _)
      rw [if_neg (by omega)]
      exact (b2.2 p hp).2.2⟩, trivial⟩
    (fun k i s hi ⟨h1, _⟩ => by
      have ho := (ok.1.2 i hi).1
      have hch : ch i ≤ 14 := by rcases (ok.2.1 i hi).2 with e | e <;> omega
      by_cases e : ow i = pl ∧ ch i ≠ 14
      · refine ⟨(s.1, s.2.1, s.2.2.1, upd s.2.2.2 i (nI (2 ^ ch i))), ?_, ⟨h1.1, fun p hp => ⟨(h1.2 p hp).1, (h1.2 p hp).2.1, ?_⟩⟩, trivial⟩
        · show f_X6_judgeFor_L16 u (nI pl) (k + 1) (nI i) s = f_X6_judgeFor_L16 u (nI pl) k (nI (i + 1)) _
          rw [f_X6_judgeFor_L16, hR.1.1, if_neg (nI_ge hi (by omega)), vg_nI (by omega) (by omega), tn (by omega), (hR.1.2 i hi).1, hR.2.1 i hi, if_pos (by rw [e.1]), if_neg (show ¬ nI (ch i) = 14 from by rw [show (14 : Int32) = nI 14 from rfl, nI_eq (by omega) (by omega)]; exact e.2), bit_eq (by omega), nI_1]
          rfl
        · show upd s.2.2.2 i (nI (2 ^ ch i)) p = nI (if p < i + 1 then jaN ow ar ch pl p else ar p)
          by_cases e2 : p = i
          · subst e2
            rw [upd_s, if_pos (by omega), ja_yes e.1 e.2]
          · rw [upd_n e2, (h1.2 p hp).2.2]
            dsimp only
            by_cases e3 : p < i
            · rw [if_pos e3, if_pos (by omega)]
            · rw [if_neg e3, if_neg (by omega)]
      · refine ⟨s, ?_, ⟨h1.1, fun p hp => ⟨(h1.2 p hp).1, (h1.2 p hp).2.1, ?_⟩⟩, trivial⟩
        · show f_X6_judgeFor_L16 u (nI pl) (k + 1) (nI i) s = f_X6_judgeFor_L16 u (nI pl) k (nI (i + 1)) _
          rw [f_X6_judgeFor_L16, hR.1.1, if_neg (nI_ge hi (by omega)), vg_nI (by omega) (by omega), tn (by omega), (hR.1.2 i hi).1, hR.2.1 i hi, nI_1]
          by_cases e1 : ow i = pl
          · have e2 : ch i = 14 := Decidable.byContradiction fun z => e ⟨e1, z⟩
            rw [if_pos (by rw [e1]), if_pos (show nI (ch i) = 14 from by rw [e2]; rfl)]
          · rw [if_neg (by rw [nI_eq (by omega) (by omega)]; exact e1)]
        · show s.2.2.2 p = nI (if p < i + 1 then jaN ow ar ch pl p else ar p)
          rw [(h1.2 p hp).2.2]
          dsimp only
          by_cases e2 : p = i
          · subst e2
            rw [if_neg (by omega), if_pos (by omega), ja_no e]
          · by_cases e3 : p < i
            · rw [if_pos e3, if_pos (by omega)]
            · rw [if_neg e3, if_neg (by omega)]) m (by omega)
  have h4 : f_X6_judgeFor_L16 u (nI pl) m 0 b = f_X6_judgeFor_L16 u (nI pl) (m - n) (nI n) s := h4
  rw [h4, show m - n = (m - n - 1) + 1 by omega, f_X6_judgeFor_L16, hR.1.1, if_pos (nI_le (Nat.le_refl n) (by omega))]
  refine ⟨s, rfl, h1.1, fun p hp => ⟨(h1.2 p hp).1, (h1.2 p hp).2.1, ?_⟩⟩
  have := (h1.2 p hp).2.2
  dsimp only at this
  rw [if_pos hp] at this
  exact this
end JG
section JM
variable {u : SS} {f : Nat → Int32} {m n : Nat} {ow co ar ch : Nat → Nat} {pl : Nat}
theorem judges_eq {tk : Nat} {c : Int32} {mj : Nat → Int32} (hM : rN f n ow co ar ch tk c) (ok : okS n ow co ar ch tk) (hpl : pl < 2) (hm : 20 < m) : ∃ g, f_X7_judges m f mj (nI pl) = some g ∧ ∀ p, p < n → g p = nI (jaN ow ar ch pl p) := by
  have hn := ok.1.1
  unfold f_X7_judges
  obtain ⟨s, h1, h4⟩ := loop_rel (fun k (s : Nat → Int32) i => f_X7_judges_L2 f (nI pl) k i s) (fun i (_ : Unit) s => ∀ p, p < i → s p = nI (jaN ow ar ch pl p)) (fun _ a => a) n () mj (fun p hp => absurd hp (by omega))
    (fun k i s hi h1 => by
      have ho := (ok.1.2 i hi).1
      have hch : ch i ≤ 14 := by rcases (ok.2.1 i hi).2 with e | e <;> omega
      refine ⟨upd s i (nI (jaN ow ar ch pl i)), ?_, fun p hp => ?_⟩
      · show f_X7_judges_L2 f (nI pl) (k + 1) (nI i) s = f_X7_judges_L2 f (nI pl) k (nI (i + 1)) _
        rw [f_X7_judges_L2, hM.1.1, if_neg (nI_ge hi (by omega)), of0 (by omega), of3 (by omega), of2 (by omega), (hM.1.2 i hi).1, (hM.1.2 i hi).2.2.1, (hM.1.2 i hi).2.2.2]
        simp only [Option.bind_some]
        rw [vg_nI (by omega) (by omega), vg_nI (by omega) (by omega), tn (by omega), nI_1]
        by_cases e1 : ow i = pl
        · rw [if_pos (by rw [e1])]
          by_cases e2 : ch i = 14
          · rw [if_pos (show (14 : Int32) ≤ nI (ch i) from by rw [e2]; decide), ja_no (fun z => z.2 e2)]
          · rw [if_neg (show ¬ (14 : Int32) ≤ nI (ch i) from by rw [show (14 : Int32) = nI 14 from rfl, nI_leI (by omega) (by omega)]; omega), jshl_1 (by omega), ja_yes e1 e2]
        · rw [if_neg (by rw [nI_eq (by omega) (by omega)]; exact e1), ja_no (fun z => e1 z.1)]
      · by_cases e : p = i
        · subst e; rw [upd_s]
        · rw [upd_n e]; exact h1 p (by omega)) m (by omega)
  have h4 : f_X7_judges_L2 f (nI pl) m 0 mj = f_X7_judges_L2 f (nI pl) (m - n) (nI n) s := h4
  rw [h4, show m - n = (m - n - 1) + 1 by omega, f_X7_judges_L2, hM.1.1, if_pos (nI_le (Nat.le_refl n) (by omega))]
  exact ⟨s, rfl, h1⟩
/-- the places whose colour is not less -/
def wiN (n : Nat) (co : Nat → Nat) (c : Nat) : Nat := so (fun q => !decide (co q < c)) n
theorem wi_lt {c : Nat} : wiN n co c < 2 ^ n := so_lt _ _
theorem wi_bit {c q : Nat} : (wiN n co c).testBit q = true ↔ q < n ∧ c ≤ co q := by
  unfold wiN
  rw [so_bit]
  by_cases h : q < n
  · by_cases h2 : co q < c
    · simp [h, h2]
    · simp [h, h2]; omega
  · simp [h]
theorem notLess_eq {g : GG} {ar : Nat → Nat} (hR : rG g n ow co ar) (ok : okG n ow co ar) (hm : 20 < m) {x : Nat} (hx : x < n) : f_X1_notLess m g (nI x) = some (nI (wiN n co (co x))) := by
  have hn := ok.1
  unfold f_X1_notLess
  have := loop_fo (fun k (a : Int32) i => f_X1_notLess_L4 g (nI x) k a i) nI nI (fun q s => if (!decide (co q < co x)) = true then s ||| 2 ^ q else s) n 0
    (fun k => by
      show f_X1_notLess_L4 g (nI x) (k + 1) _ _ = _
      rw [f_X1_notLess_L4, hR.1, if_pos (nI_le (Nat.le_refl n) (by omega))])
    (fun k i hi => by
      show f_X1_notLess_L4 g (nI x) (k + 1) _ _ = f_X1_notLess_L4 g (nI x) k _ _
      have c1 := (ok.2 i hi).2.1
      have c2 := (ok.2 x hx).2.1
      rw [f_X1_notLess_L4, hR.1, if_neg (nI_ge hi (by omega)), vg_nI (by omega) (by omega), vg_nI (by omega) (by omega), tn (by omega), tn (by omega), (hR.2 i hi).2.1, (hR.2 x hx).2.1, nI_1]
      by_cases h : co i < co x
      · rw [if_pos ((nI_lt_iff (by omega) (by omega)).mpr h), if_neg (by simp [h])]
      · rw [if_neg (fun z => h ((nI_lt_iff (by omega) (by omega)).mp z)), if_pos (by simp [h]), bit_eq (by omega)]
        simp only [Option.bind_some, nI_or]) m (by omega)
  have h0 : f_X1_notLess_L4 g (nI x) m 0 0 = some (nI (wiN n co (co x))) := this
  rw [h0]
  rfl
theorem within_eq {tk : Nat} {c : Int32} (hM : rN f n ow co ar ch tk c) (ok : okG n ow co ar) {x : Nat} (hx : x ≤ 20) (hm : 20 < m) : f_X7_reaches_L13 f (nI x) (nI n) m 0 0 = some (nI (wiN n co x)) := by
  have hn := ok.1
  have := loop_fo (fun k (a : Int32) i => f_X7_reaches_L13 f (nI x) (nI n) k a i) nI nI (fun q s => if (!decide (co q < x)) = true then s ||| 2 ^ q else s) n 0
    (fun k => by
      show f_X7_reaches_L13 f (nI x) (nI n) (k + 1) _ _ = _
      rw [f_X7_reaches_L13, if_pos (nI_le (Nat.le_refl n) (by omega))])
    (fun k i hi => by
      show f_X7_reaches_L13 f (nI x) (nI n) (k + 1) _ _ = f_X7_reaches_L13 f (nI x) (nI n) k _ _
      have c1 := (ok.2 i hi).2.1
      rw [f_X7_reaches_L13, if_neg (nI_ge hi (by omega)), of1 (by omega), (hM.1.2 i hi).2.1]
      simp only [Option.bind_some]
      rw [show (0 : Int32) = nI 0 from rfl, nI_or, Nat.or_zero, jshl_1 (by omega), nI_or, nI_1]
      by_cases h : co i < x
      · rw [if_pos ((nI_lt_iff (by omega) (by omega)).mpr h), if_neg (by simp [h])]
      · rw [if_neg (fun z => h ((nI_lt_iff (by omega) (by omega)).mp z)), if_pos (by simp [h])]) m (by omega)
  exact this
theorem within2_eq {tk : Nat} {c : Int32} (hM : rN f n ow co ar ch tk c) (ok : okG n ow co ar) {x : Nat} (hx : x < n) (hm : 20 < m) : f_X7_ringAt_L4 f (nI x) m 0 0 = some (nI (wiN n co (co x))) := by
  have hn := ok.1
  have := loop_fo (fun k (a : Int32) i => f_X7_ringAt_L4 f (nI x) k a i) nI nI (fun q s => if (!decide (co q < co x)) = true then s ||| 2 ^ q else s) n 0
    (fun k => by
      show f_X7_ringAt_L4 f (nI x) (k + 1) _ _ = _
      rw [f_X7_ringAt_L4, hM.1.1, if_pos (nI_le (Nat.le_refl n) (by omega))])
    (fun k i hi => by
      show f_X7_ringAt_L4 f (nI x) (k + 1) _ _ = f_X7_ringAt_L4 f (nI x) k _ _
      have c1 := (ok.2 i hi).2.1
      have c2 := (ok.2 x hx).2.1
      rw [f_X7_ringAt_L4, hM.1.1, if_neg (nI_ge hi (by omega)), of1 (by omega), of1 (by omega), (hM.1.2 i hi).2.1, (hM.1.2 x hx).2.1]
      simp only [Option.bind_some]
      rw [show (0 : Int32) = nI 0 from rfl, nI_or, Nat.or_zero, jshl_1 (by omega), nI_or, nI_1]
      by_cases h : co i < co x
      · rw [if_pos ((nI_lt_iff (by omega) (by omega)).mpr h), if_neg (by simp [h])]
      · rw [if_neg (fun z => h ((nI_lt_iff (by omega) (by omega)).mp z)), if_pos (by simp [h])]) m (by omega)
  exact this
end JM
