/-! the ways of the walk; step -/
section WY
variable {u : SS} {f : Nat → Int32} {m n : Nat} {ow co ar ch : Nat → Nat}
theorem lowest_eq {g : GG} (hR : rG g n ow co ar) (ok : okG n ow co ar) {p : Nat} (hp : p < n) (hm : 100 < m) : ∃ l, f_X1_lowestArrow m g (nI p) = some (nI l) ∧ ((l = 14 ∧ ar p = 0) ∨ (l < n ∧ (ar p).testBit l = true ∧ f_X7_lowest m (nI (ar p)) = some (nI l))) := by
  have hn := ok.1
  have ha := (ok.2 p hp).2.2
  have c1 : ∀ K i, i ≤ n → (∀ j, j < i → ¬ (ar p).testBit j = true) → f_X1_lowestArrow_L2 g (nI p) (K + i) 0 = f_X1_lowestArrow_L2 g (nI p) K (nI i) := by
    intro K i
    induction i generalizing K with
    | zero => intro _ _; rfl
    | succ i ih =>
      intro hi h
      rw [show K + (i + 1) = (K + 1) + i by omega, ih (K + 1) (by omega) (fun j hj => h j (by omega)), f_X1_lowestArrow_L2, hR.1, if_neg (nI_ge (by omega) (by omega)), leads_eq hR ok hp (by omega), if_neg (h i (by omega)), nI_1]
      rfl
  have c2 : ∀ K i, i ≤ n → (∀ j, j < i → ¬ (ar p).testBit j = true) → f_X7_lowest_L2 (nI (ar p)) (K + i) 0 = f_X7_lowest_L2 (nI (ar p)) K (nI i) := by
    intro K i
    induction i generalizing K with
    | zero => intro _ _; rfl
    | succ i ih =>
      intro hi h
      rw [show K + (i + 1) = (K + 1) + i by omega, ih (K + 1) (by omega) (fun j hj => h j (by omega)), f_X7_lowest_L2, if_pos ((bit_0 (p31 hn ha) (by omega)).mpr (h i (by omega))), nI_1]
  unfold f_X1_lowestArrow f_X7_lowest
  rcases first_or (fun j => (ar p).testBit j = true) n with ⟨j, hj, h1, h2⟩ | h
  · have hjn : j < n := Nat.lt_of_not_le fun hle => by rw [bits_lt ha hle] at h1; cases h1
    have e1 := c1 ((m - j - 1) + 1) j hj h2
    have e2 := c2 ((m - j - 1) + 1) j hj h2
    rw [show (m - j - 1) + 1 + j = m by omega] at e1 e2
    refine ⟨j, ?_, Or.inr ⟨hjn, h1, ?_⟩⟩
    · rw [e1, f_X1_lowestArrow_L2, hR.1, if_neg (nI_ge hjn (by omega)), leads_eq hR ok hp hjn, if_pos h1]
      rfl
    · rw [e2, f_X7_lowest_L2, if_neg (fun e => ((bit_0 (p31 hn ha) (by omega)).mp e) h1)]
      rfl
  · have e1 := c1 ((m - n - 1) + 1) n (Nat.le_refl n) (fun j hj => h j (by omega))
    rw [show (m - n - 1) + 1 + n = m by omega] at e1
    refine ⟨14, ?_, Or.inl ⟨rfl, ?_⟩⟩
    · rw [e1, f_X1_lowestArrow_L2, hR.1, if_pos (nI_le (Nat.le_refl n) (by omega))]
      rfl
    · apply Nat.eq_of_testBit_eq
      intro k
      rw [Nat.zero_testBit]
      by_cases hk : k < n
      · cases hb : (ar p).testBit k with
        | false => rfl
        | true => exact absurd hb (h k (by omega))
      · exact bits_lt ha (by omega)
/-- the way on from a place: in the class (out of the solved game of its owner) and in the model -/
theorem way_p {tk : Nat} {c : Int32} (hR : rS u n ow co ar ch tk c) (ok : okS n ow co ar ch tk) (hm : 1000000 ≤ m) {Ms : Nat → Nat → Nat} (hMs : ∀ w, w < 2 → ∃ r, SolP n (owW w ow) (coW w co) ar (Ms w) r) {p : Nat} (hp : p < n) :
    ∃ w, ((w = 14 ∧ ar p = 0) ∨ (w < n ∧ (ar p).testBit w = true)) ∧ (∀ (g : GG) (e : EE), rG g n (owW (ow p) ow) (coW (ow p) co) ar → rE e n (moN n (coW (ow p) co)) (Ms (ow p)) → f_X6_wayOn m u g e (nI p) = some (nI w)) ∧ ∀ (f ms most nums : Nat → Int32) (mg rd : Int32), rM f n ow co ar ch → ∃ t, f_X7_goesTo m f mg ms most nums rd (nI p) = some (i14 w, t) := by
  have hn := ok.1.1
  have hw := (ok.1.2 p hp).1
  have ok' := okW (w := ow p) ok.1 (c7 ok) hw
  have ha := (ok.1.2 p hp).2.2
  have ho : owW (ow p) ow p = 0 := owW_pl hw hw rfl
  obtain ⟨r, hS⟩ := hMs (ow p) hw
  have hv := sol_vM ok' hS
  have hle : ∀ k, k < 4 → moN n (coW (ow p) co) k ≤ 14 := fun k _ => Nat.le_trans (moN_le n _ k) hn
  by_cases hc : ch p = 14
  · have hB := bs_lost ok' hS hp ho
    have hbest : ∀ (g : GG) (e : EE), rG g n (owW (ow p) ow) (coW (ow p) co) ar → rE e n (moN n (coW (ow p) co)) (Ms (ow p)) → f_X3_bestArrow m e g (nI p) = some (nI (bsN n (coW (ow p) co) ar (moN n (coW (ow p) co)) (Ms (ow p)) p)) := fun g e w2 w3 => X3_best_eq w2 ok' w3 hle hv (by omega) hp ho
    have hmod : ∀ (f ms most nums : Nat → Int32), rM f n ow co ar ch → ∃ t, f_X7_bestChoice m f ms most nums (nI p) = some (i14 (bsN n (coW (ow p) co) ar (moN n (coW (ow p) co)) (Ms (ow p)) p), t) := fun f ms most nums hM => by
      obtain ⟨ms', most', nums', v1, v2, v3⟩ := X7_finds_eq (ms := ms) (most := most) (nums := nums) hM ok.1 (c7 ok) hw hS hm
      obtain ⟨nums2, v4⟩ := X7_choice_eq (m := m) (nums := nums') hM ok.1 (c7 ok) hw hS v2 v3 (by omega) hp ho
      refine ⟨(nI (ow p), ms', most', nums2, nI r), ?_⟩
      unfold f_X7_bestChoice
      rw [of0 (by omega), (hM.2 p hp).1]
      simp only [Option.bind_some]
      rw [v1]
      simp only [Option.bind_some]
      rw [v4]
      rfl
    generalize bsN n (coW (ow p) co) ar (moN n (coW (ow p) co)) (Ms (ow p)) p = B at hB hbest hmod
    by_cases hb : B = 14
    · obtain ⟨l, l1, l2⟩ := lowest_eq (m := m) hR.1 ok.1 hp (by omega)
      refine ⟨l, ?_, fun g e w2 w3 => ?_, fun f ms most nums mg rd hM => ?_⟩
      · rcases l2 with h | h
        · exact Or.inl h
        · exact Or.inr ⟨h.1, h.2.1⟩
      · unfold f_X6_wayOn
        rw [vg_nI (by omega) (by omega), tn (by omega), hR.2.1 p hp, hc, if_pos (show nI 14 = 14 from rfl), hbest g e w2 w3, hb, l1]
        rfl
      · obtain ⟨t, t1⟩ := hmod f ms most nums hM
        unfold f_X7_goesTo
        rw [of3 (by omega), of2 (by omega), (hM.2 p hp).2.2.2, (hM.2 p hp).2.2.1, hc, t1, hb]
        simp only [Option.bind_some]
        rw [if_pos (show (14 : Int32) ≤ nI 14 from by decide), if_pos (show i14 14 = -5 from rfl)]
        rcases l2 with ⟨rfl, h⟩ | ⟨h1, h2, h3⟩
        · rw [h, if_pos (show nI 0 = 0 from rfl)]
          exact ⟨_, rfl⟩
        · have h0 : ¬ nI (ar p) = 0 := fun z => by
            rw [(nI_z (by have := p31 hn ha; omega)).mp z, Nat.zero_testBit] at h2
            cases h2
          rw [if_neg h0, h3]
          simp only [Option.bind_some]
          refine ⟨t, ?_⟩
          unfold i14
          rw [if_neg (by omega)]
    · have hB2 : B < n ∧ (ar p).testBit B = true := by
        rcases hB with h | h
        · exact absurd h.2 hb
        · exact h.2
      refine ⟨B, Or.inr hB2, fun g e w2 w3 => ?_, fun f ms most nums mg rd hM => ?_⟩
      · unfold f_X6_wayOn
        rw [vg_nI (by omega) (by omega), tn (by omega), hR.2.1 p hp, hc, if_pos (show nI 14 = 14 from rfl), hbest g e w2 w3]
        simp only [Option.bind_some]
        rw [if_neg (show ¬ nI B = 14 from by rw [show (14 : Int32) = nI 14 from rfl, nI_eq (by omega) (by omega)]; exact hb)]
      · obtain ⟨t, t1⟩ := hmod f ms most nums hM
        have n5 : ¬ i14 B = -5 := by
          unfold i14
          rw [if_neg hb]
          intro e5
          have h9 := congrArg Int32.toInt e5
          rw [nI_toInt (by omega), show (-5 : Int32).toInt = -5 from by decide] at h9
          omega
        unfold f_X7_goesTo
        rw [of3 (by omega), (hM.2 p hp).2.2.2, hc, t1]
        simp only [Option.bind_some]
        rw [if_pos (show (14 : Int32) ≤ nI 14 from by decide), if_neg n5]
        exact ⟨_, rfl⟩
  · have hC : ch p < n ∧ (ar p).testBit (ch p) = true := by
      rcases (ok.2.1 p hp).2 with h | h
      · exact absurd h hc
      · exact h
    refine ⟨ch p, Or.inr hC, fun g e w2 w3 => ?_, fun f ms most nums mg rd hM => ?_⟩
    · unfold f_X6_wayOn
      rw [vg_nI (by omega) (by omega), tn (by omega), hR.2.1 p hp, if_neg (show ¬ nI (ch p) = 14 from by rw [show (14 : Int32) = nI 14 from rfl, nI_eq (by omega) (by omega)]; exact hc)]
    · unfold f_X7_goesTo
      rw [of3 (by omega), (hM.2 p hp).2.2.2]
      simp only [Option.bind_some]
      rw [if_neg (show ¬ (14 : Int32) ≤ nI (ch p) from by rw [show (14 : Int32) = nI 14 from rfl, nI_leI (by omega) (by omega)]; omega)]
      refine ⟨(mg, ms, most, nums, rd), ?_⟩
      unfold i14
      rw [if_neg hc]
theorem wayFrom_eq {k : KK} {p : Nat} (hp : p < 14) : f_X5_wayFrom k (nI p) = some (k.1 p) := by
  unfold f_X5_wayFrom
  rw [if_neg (nI_not_neg (by omega)), if_neg (show ¬ (14 : Int32) ≤ nI p from by rw [show (14 : Int32) = nI 14 from rfl, nI_leI (by omega) (by omega)]; omega), vg_nI (by omega) (by omega), tn (by omega)]
theorem ways {tk : Nat} {c : Int32} (hR : rS u n ow co ar ch tk c) (ok : okS n ow co ar ch tk) (hm : 1000000 ≤ m) :
    ∃ W : Nat → Nat, (∀ p, p < n → (W p = 14 ∧ ar p = 0) ∨ (W p < n ∧ (ar p).testBit (W p) = true)) ∧ (∀ (trial : GG) (meas : EE) (walk : KK), ∃ g e k, f_X6_findWays m u trial meas walk = some (g, e, k) ∧ ∀ p, p < n → k.1 p = nI (W p)) ∧ ∀ (f ms most nums : Nat → Int32) (mg rd : Int32) (p : Nat), rM f n ow co ar ch → p < n → ∃ t, f_X7_goesTo m f mg ms most nums rd (nI p) = some (i14 (W p), t) := by
  have hn := ok.1.1
  obtain ⟨Ms, hMs⟩ := Classical.axiomOfChoice (fun w : Nat => show ∃ M : Nat → Nat, w < 2 → ∃ r, SolP n (owW w ow) (coW w co) ar M r from by
    by_cases hw : w < 2
    · obtain ⟨M, r, h⟩ := sol_exists (okW (w := w) ok.1 (c7 ok) hw)
      exact ⟨M, fun _ => ⟨r, h⟩⟩
    · exact ⟨fun _ => 0, fun h => absurd h hw⟩)
  obtain ⟨W, hW⟩ := Classical.axiomOfChoice (fun p : Nat => show ∃ w : Nat, p < n → ((w = 14 ∧ ar p = 0) ∨ (w < n ∧ (ar p).testBit w = true)) ∧ (∀ (g : GG) (e : EE), rG g n (owW (ow p) ow) (coW (ow p) co) ar → rE e n (moN n (coW (ow p) co)) (Ms (ow p)) → f_X6_wayOn m u g e (nI p) = some (nI w)) ∧ ∀ (f ms most nums : Nat → Int32) (mg rd : Int32), rM f n ow co ar ch → ∃ t, f_X7_goesTo m f mg ms most nums rd (nI p) = some (i14 w, t) from by
    by_cases hp : p < n
    · obtain ⟨w, h⟩ := way_p hR ok hm hMs hp
      exact ⟨w, fun _ => h⟩
    · exact ⟨0, fun h => absurd h hp⟩)
  refine ⟨W, fun p hp => (hW p hp).1, fun trial meas walk => ?_, fun f ms most nums mg rd p hM hp => (hW p hp).2.2 f ms most nums mg rd hM⟩
  have inner : ∀ w, w < 2 → ∀ (g : GG) (e : EE) (k0 : KK), rG g n (owW w ow) (coW w co) ar → rE e n (moN n (coW w co)) (Ms w) → ∃ k, f_X6_findWays_L14 m u g e (nI w) m 0 k0 = some k ∧ ∀ p, p < n → k.1 p = if ow p = w then nI (W p) else k0.1 p := by
    intro w hw g e k0 hg he
    obtain ⟨s, h1, h2⟩ := loop_rel (fun q (s : KK) i => f_X6_findWays_L14 m u g e (nI w) q i s) (fun i (_ : Unit) s => (∀ p, p < i → s.1 p = if ow p = w then nI (W p) else k0.1 p) ∧ ∀ p, i ≤ p → s.1 p = k0.1 p) (fun _ a => a) n () k0 ⟨fun p hp => absurd hp (by omega), fun _ _ => rfl⟩
      (fun q i s hi ⟨h1, h2⟩ => by
        have hoi := (ok.1.2 i hi).1
        by_cases e1 : ow i = w
        · refine ⟨(upd s.1 i (nI (W i)), s.2.1, s.2.2.1, s.2.2.2), ?_, fun p hp => ?_, fun p hp => ?_⟩
          · show f_X6_findWays_L14 m u g e (nI w) (q + 1) (nI i) s = f_X6_findWays_L14 m u g e (nI w) q (nI (i + 1)) _
            rw [f_X6_findWays_L14, hR.1.1, if_neg (nI_ge hi (by omega)), vg_nI (by omega) (by omega), tn (by omega), (hR.1.2 i hi).1, if_pos (by rw [e1]), (hW i hi).2.1 g e (by rw [e1]; exact hg) (by rw [e1]; exact he), nI_1]
            rfl
          · show upd s.1 i (nI (W i)) p = _
            by_cases e2 : p = i
            · subst e2; rw [upd_s, if_pos e1]
            · rw [upd_n e2]; exact h1 p (by omega)
          · show upd s.1 i (nI (W i)) p = _
            rw [upd_n (by omega)]; exact h2 p (by omega)
        · refine ⟨s, ?_, fun p hp => ?_, fun p hp => h2 p (by omega)⟩
          · show f_X6_findWays_L14 m u g e (nI w) (q + 1) (nI i) s = f_X6_findWays_L14 m u g e (nI w) q (nI (i + 1)) _
            rw [f_X6_findWays_L14, hR.1.1, if_neg (nI_ge hi (by omega)), vg_nI (by omega) (by omega), tn (by omega), (hR.1.2 i hi).1, if_neg (by rw [nI_eq (by omega) (by omega)]; exact e1), nI_1]
          · by_cases e2 : p = i
            · subst e2; rw [if_neg e1]; exact h2 p (Nat.le_refl p)
            · exact h1 p (by omega)) m (by omega)
    have h2 : f_X6_findWays_L14 m u g e (nI w) m 0 k0 = f_X6_findWays_L14 m u g e (nI w) (m - n) (nI n) s := h2
    rw [h2, show m - n = (m - n - 1) + 1 by omega, f_X6_findWays_L14, hR.1.1, if_pos (nI_le (Nat.le_refl n) (by omega))]
    exact ⟨s, rfl, h1.1⟩
  obtain ⟨r0, hS0⟩ := hMs 0 (by omega)
  obtain ⟨r1, hS1⟩ := hMs 1 (by omega)
  obtain ⟨g1, e1, w1, w2, w3, -⟩ := solveFor_eq (u := u) (trial := trial) (meas := meas) (w := 0) hR.1 ok.1 (c7 ok) (by omega) hS0 hm
  obtain ⟨k1, x1, x2⟩ := inner 0 (by omega) g1 e1 walk w2 w3
  obtain ⟨g2, e2, y1, y2, y3, -⟩ := solveFor_eq (u := u) (trial := g1) (meas := e1) (w := 1) hR.1 ok.1 (c7 ok) (by omega) hS1 hm
  obtain ⟨k2, z1, z2⟩ := inner 1 (by omega) g2 e2 k1 y2 y3
  have w1 : f_X6_solveFor m u trial meas 0 = some (g1, e1) := w1
  have x1 : f_X6_findWays_L14 m u g1 e1 0 m 0 walk = some k1 := x1
  have y1 : f_X6_solveFor m u g1 e1 1 = some (g2, e2) := y1
  have z1 : f_X6_findWays_L14 m u g2 e2 1 m 0 k1 = some k2 := z1
  refine ⟨g2, e2, k2, ?_, fun p hp => ?_⟩
  · unfold f_X6_findWays
    rw [show f_X6_findWays_L2 m u m 0 trial meas walk = some (g2, e2, k2) from by
      rw [show f_X6_findWays_L2 m u m = f_X6_findWays_L2 m u ((m - 3) + 1 + 1 + 1) from by rw [show (m - 3) + 1 + 1 + 1 = m by omega]]
      rw [f_X6_findWays_L2, if_neg (by decide), w1]
      simp only [Option.bind_some]
      rw [x1]
      simp only [Option.bind_some]
      rw [show (0 + 1 : Int32) = 1 from rfl, f_X6_findWays_L2, if_neg (by decide), y1]
      simp only [Option.bind_some]
      rw [z1]
      simp only [Option.bind_some]
      rw [f_X6_findWays_L2, if_pos (by decide)]]
    rfl
  · rw [z2 p hp]
    have := (ok.1.2 p hp).1
    by_cases e : ow p = 1
    · rw [if_pos e]
    · rw [if_neg e, x2 p hp, if_pos (by omega)]
end WY
