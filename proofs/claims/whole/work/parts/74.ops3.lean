/-! rank, trap, start, wins, winningChoice, rounds, place -/
section O4
variable {u : SS} {f : Nat → Int32} {m : Nat}
theorem rank_core (hs : RS u f) (hm : 1000000 ≤ m) (p1 p2 p3 : Int32) : ∃ v, f_X6_rank m u p1 p2 p3 = some v ∧ f_X7_rank m f p1 p2 p3 = some v := by
  obtain ⟨n, ow, co, ar, ch, tk, c, ok, hR, hM⟩ := hs
  have hn := ok.1.1
  rcases pl_cases p1 with ⟨a, ha, rfl, a1, -, a3⟩ | ⟨a1, -, a3⟩
  · rcases pc_cases hR.1 hM.1 hn p3 with ⟨p, hp, rfl, b1, b2⟩ | ⟨-, b1, b2⟩
    · rcases set_cases p2 n with ⟨s, hs, rfl⟩ | hx
      · obtain ⟨v, h1, h2⟩ := X67_rank_eq (m := m) hR.1 hM.1 ok.1 ha hs hp (by omega)
        exact ⟨v, h1, h2⟩
      · unfold f_X6_rank f_X7_rank
        rw [a1, a3, b1, b2, hasAll_out hR.1 hn hx, isBad_out hM.1 hn hx]
        exact ⟨_, rfl, rfl⟩
    · unfold f_X6_rank f_X7_rank
      rw [a1, a3, b1, b2]
      exact ⟨_, rfl, rfl⟩
  · unfold f_X6_rank f_X7_rank
    rw [a1, a3]
    exact ⟨_, rfl, rfl⟩
theorem trap_core (hs : RS u f) (hm : 1000000 ≤ m) (p1 p2 : Int32) : ∃ v, f_X6_trap m u p1 p2 = some v ∧ f_X7_trap m f p1 p2 = some v := by
  obtain ⟨n, ow, co, ar, ch, tk, c, ok, hR, hM⟩ := hs
  have hn := ok.1.1
  rcases pl_cases p1 with ⟨a, ha, rfl, a1, -, a3⟩ | ⟨a1, -, a3⟩
  · rcases set_cases p2 n with ⟨s, hs, rfl⟩ | hx
    · refine ⟨_, ?_, X7_trap_eq hM.1 ok.1 ha hs (by omega)⟩
      unfold f_X6_trap
      rw [a1, hasAll_in hR.1 hn hs, X1_isTrap_eq hR.1 ok.1 ha hs (by omega)]
      simp only [Option.bind_some, if_neg n10]
      by_cases e : fo (fun p (b : Bool) => b && (!s.testBit p || trP ow ar a s p)) n true = true
      · rw [if_pos e, if_neg n10]
      · rw [if_neg e]; rfl
    · unfold f_X6_trap f_X7_trap
      rw [a1, a3, hasAll_out hR.1 hn hx, isBad_out hM.1 hn hx]
      exact ⟨_, rfl, rfl⟩
  · unfold f_X6_trap f_X7_trap
    rw [a1, a3]
    exact ⟨_, rfl, rfl⟩
theorem c7 {n : Nat} {ow co ar ch : Nat → Nat} {tk : Nat} (ok : okS n ow co ar ch tk) : ∀ p, p < n → co p ≤ 7 := fun p hp => (ok.2.1 p hp).1
theorem rM_tk {f : Nat → Int32} {n : Nat} {ow co ar ch : Nat → Nat} (hM : rM f n ow co ar ch) (hn : n ≤ 14) {v w : Int32} : rM (upd (upd f 57 v) 58 w) n ow co ar ch := by
  have h : ∀ i, i < 57 → upd (upd f 57 v) 58 w i = f i := fun i hi => by rw [upd_n (by omega), upd_n (by omega)]
  refine ⟨by rw [h _ (by omega)]; exact hM.1, fun p hp => ?_⟩
  rw [h _ (by omega), h _ (by omega), h _ (by omega), h _ (by omega)]
  exact hM.2 p hp
theorem start_core {h : HH} {mh : Nat → Int32} {mk : Int32} {trial : GG} {meas : EE} {mg rd : Int32} {ms most nums : Nat → Int32} (hs : RS u f) (hh : RH h mh mk) (hm : 1000000 ≤ m) (p1 : Int32) : ∃ q qm, f_X6_start m u h trial meas p1 = some q ∧ f_X7_start m f mh mk mg ms most nums rd p1 = some qm ∧ q.1 = qm.1 ∧ RS q.2.1 qm.2.1 ∧ RH q.2.2.1 qm.2.2.1 qm.2.2.2.1 := by
  obtain ⟨h', mh', mk', r1, r2, r3⟩ := rem_eq hh hs (m := m) (by omega)
  obtain ⟨n, ow, co, ar, ch, tk, c, ok, hR, hM⟩ := id hs
  have hn := ok.1.1
  unfold f_X6_start f_X7_start
  rcases pc_cases hR.1 hM.1 hn p1 with ⟨p, hp, rfl, a1, a2⟩ | ⟨-, a1, a2⟩
  · obtain ⟨M, r, hS⟩ := sol_exists (okW (w := 0) ok.1 (c7 ok) (by omega))
    obtain ⟨g1, e1, w1⟩ := winnerOf_eq (u := (u.1, u.2.1, nI p, 0)) (trial := trial) (meas := meas) hR.1 ok.1 (c7 ok) hS hm hp
    have hM2 := rM_tk (v := nI p) (w := 0) hM.1 hn
    obtain ⟨t, w2⟩ := winner_eq (ms := ms) (most := most) (nums := nums) hM2 ok.1 (c7 ok) hS hm hp
    rw [a1, a2, r1, r2]
    simp only [Option.bind_some, if_neg n10, if_true]
    rw [w1, w2]
    simp only [Option.bind_some]
    refine ⟨_, _, rfl, rfl, rfl, ⟨n, ow, co, ar, ch, p, 0, ⟨ok.1, ok.2.1, ok.2.2.1, Or.inr hp⟩, ⟨hR.1, hR.2.1, rfl, rfl⟩, hM2, ?_, ?_⟩, r3⟩
    · show upd (upd f 57 (nI p)) 58 0 57 = iT p
      rw [upd_n (by omega), upd_s]
      unfold iT
      rw [if_neg (by omega)]
    · show upd (upd f 57 (nI p)) 58 0 58 = 0
      rw [upd_s]
  · rw [a1, a2]
    exact ⟨_, _, rfl, rfl, rfl, hs, hh⟩
theorem wins_core {trial : GG} {meas : EE} {mg rd : Int32} {ms most nums : Nat → Int32} (hs : RS u f) (hm : 1000000 ≤ m) (p1 : Int32) : ∃ q qm, f_X6_wins m u trial meas p1 = some q ∧ f_X7_wins m f mg ms most nums rd p1 = some qm ∧ q.1 = qm.1 := by
  obtain ⟨n, ow, co, ar, ch, tk, c, ok, hR, hM⟩ := hs
  unfold f_X6_wins f_X7_wins
  rcases pl_cases p1 with ⟨a, ha, rfl, a1, -, a3⟩ | ⟨a1, -, a3⟩
  · obtain ⟨M, r, hS⟩ := sol_exists (okW (w := a) ok.1 (c7 ok) ha)
    obtain ⟨g1, e1, w1⟩ := wonBy_eq (u := u) (trial := trial) (meas := meas) hR.1 ok.1 (c7 ok) ha hS hm
    obtain ⟨ms', most', nums', w2⟩ := winsOf_eq (ms := ms) (most := most) (nums := nums) hM.1 ok.1 (c7 ok) ha hS hm
    rw [a1, a3]
    simp only [Option.bind_some, if_neg n10, if_true]
    rw [w1, w2]
    exact ⟨_, _, rfl, rfl, rfl⟩
  · rw [a1, a3]
    exact ⟨_, _, rfl, rfl, rfl⟩
theorem rounds_core {trial : GG} {meas : EE} {mg rd : Int32} {ms most nums : Nat → Int32} (hs : RS u f) (hm : 1000000 ≤ m) (p1 : Int32) : ∃ q qm, f_X6_rounds m u trial meas p1 = some q ∧ f_X7_rounds m f mg ms most nums rd p1 = some qm ∧ q.1 = qm.1 := by
  obtain ⟨n, ow, co, ar, ch, tk, c, ok, hR, hM⟩ := hs
  unfold f_X6_rounds f_X7_rounds
  rcases pl_cases p1 with ⟨a, ha, rfl, a1, -, a3⟩ | ⟨a1, -, a3⟩
  · obtain ⟨M, r, hS⟩ := sol_exists (okW (w := a) ok.1 (c7 ok) ha)
    obtain ⟨g1, e1, w1, -, -, w4⟩ := solveFor_eq (u := u) (trial := trial) (meas := meas) hR.1 ok.1 (c7 ok) ha hS hm
    obtain ⟨ms', most', nums', w2, -⟩ := X7_finds_eq (ms := ms) (most := most) (nums := nums) hM.1 ok.1 (c7 ok) ha hS hm
    rw [a1, a3]
    simp only [Option.bind_some, if_neg n10, if_true]
    rw [w1, w2]
    exact ⟨_, _, rfl, rfl, w4⟩
  · rw [a1, a3]
    exact ⟨_, _, rfl, rfl, rfl⟩
theorem placeOrNone_eq {b : Nat} (hb : b ≤ 14) : f_X6_placeOrNone (nI b) = some (i14 b) := by
  unfold f_X6_placeOrNone i14
  by_cases e : b = 14
  · subst e; rfl
  · rw [if_neg (show ¬ nI b = 14 from by rw [show (14 : Int32) = nI 14 from rfl, nI_eq (by omega) (by omega)]; exact e), if_neg e]
/-- the best arrow of a place that its owner keeps: class and model -/
theorem best_core {trial : GG} {meas : EE} {ms most nums : Nat → Int32} {n : Nat} {ow co ar ch : Nat → Nat} (hR : rG u.1 n ow co ar) (hM : rM f n ow co ar ch) (ok : okG n ow co ar) (hc : ∀ p, p < n → co p ≤ 7) (hm : 1000000 ≤ m) {p : Nat} (hp : p < n) : ∃ b g e t, (b = 14 ∨ (b < n ∧ (ar p).testBit b = true)) ∧ f_X6_solveFor m u trial meas (nI (ow p)) = some (g, e) ∧ f_X3_bestArrow m e g (nI p) = some (nI b) ∧ f_X7_bestChoice m f ms most nums (nI p) = some (i14 b, t) := by
  have hn := ok.1
  have hw := (ok.2 p hp).1
  have ok' := okW (w := ow p) ok hc hw
  have ho : owW (ow p) ow p = 0 := by
    unfold owW
    rcases (show ow p = 0 ∨ ow p = 1 by omega) with e | e
    · rw [if_pos e]; exact e
    · rw [if_neg (by omega)]; omega
  obtain ⟨M, r, hS⟩ := sol_exists ok'
  have hv := sol_vM ok' hS
  have hle : ∀ k, k < 4 → moN n (coW (ow p) co) k ≤ 14 := fun k _ => Nat.le_trans (moN_le n _ k) hn
  obtain ⟨g1, e1, w1, w2, w3, w4⟩ := solveFor_eq (u := u) (trial := trial) (meas := meas) hR ok hc hw hS hm
  obtain ⟨ms', most', nums', v1, v2, v3⟩ := X7_finds_eq (ms := ms) (most := most) (nums := nums) hM ok hc hw hS hm
  obtain ⟨nums2, v4⟩ := X7_choice_eq (m := m) (nums := nums') hM ok hc hw hS v2 v3 (by omega) hp ho
  refine ⟨_, g1, e1, (nI (ow p), ms', most', nums2, nI r), ?_, w1, X3_best_eq w2 ok' w3 hle hv (by omega) hp ho, ?_⟩
  · rcases bs_lost ok' hS hp ho with h | h
    · exact Or.inl h.2
    · exact Or.inr h.2
  · unfold f_X7_bestChoice
    rw [of0 (by omega), (hM.2 p hp).1]
    simp only [Option.bind_some]
    rw [v1]
    simp only [Option.bind_some]
    rw [v4]
    rfl
theorem winningChoice_core {trial : GG} {meas : EE} {mg rd : Int32} {ms most nums : Nat → Int32} (hs : RS u f) (hm : 1000000 ≤ m) (p1 : Int32) : ∃ q qm, f_X6_winningChoice m u trial meas p1 = some q ∧ f_X7_winningChoice m f mg ms most nums rd p1 = some qm ∧ q.1 = qm.1 := by
  obtain ⟨n, ow, co, ar, ch, tk, c, ok, hR, hM⟩ := hs
  have hn := ok.1.1
  unfold f_X6_winningChoice f_X7_winningChoice
  rcases pc_cases hR.1 hM.1 hn p1 with ⟨p, hp, rfl, a1, a2⟩ | ⟨-, a1, a2⟩
  · obtain ⟨b, g, e, t, hb, w1, w2, w3⟩ := best_core (u := u) (trial := trial) (meas := meas) (ms := ms) (most := most) (nums := nums) hR.1 hM.1 ok.1 (c7 ok) hm hp
    rw [a1, a2]
    simp only [Option.bind_some, if_neg n10, if_true]
    rw [vg_nI (by omega) (by omega), tn (by omega), (hR.1.2 p hp).1, w1, w3]
    simp only [Option.bind_some]
    rw [w2]
    simp only [Option.bind_some]
    rw [placeOrNone_eq (by omega)]
    exact ⟨_, _, rfl, rfl, rfl⟩
  · rw [a1, a2]
    exact ⟨_, _, rfl, rfl, rfl⟩
theorem and_pow {a p : Nat} : (!(a &&& 2 ^ p == 0)) = a.testBit p := by
  cases h : a.testBit p with
  | false =>
    have : a &&& 2 ^ p = 0 := and_0.mpr (fun k hk => by
      rw [Nat.testBit_two_pow]
      by_cases e : p = k
      · subst e; rw [h] at hk; cases hk
      · simp [e])
    rw [this]; rfl
  | true =>
    have : a &&& 2 ^ p ≠ 0 := fun e => by
      have := and_0.mp e p h
      rw [Nat.testBit_two_pow] at this
      simp at this
    rw [beq_eq_false_iff_ne.mpr this]; rfl
theorem X7_sources_eq {n : Nat} {ow co ar ch : Nat → Nat} (hM : rM f n ow co ar ch) (ok : okG n ow co ar) (hm : 20 < m) {p : Nat} (hp : p < n) : f_X7_sources m f (nI p) = some (nI (so (fun q => (ar q).testBit p) n)) := by
  have hn := ok.1
  unfold f_X7_sources
  have := loop_fo (fun k (a : Int32) i => f_X7_sources_L4 f (nI p) k a i) nI nI (fun q s => if (ar q).testBit p = true then s ||| 2 ^ q else s) n 0
    (fun k => by
      show f_X7_sources_L4 f (nI p) (k + 1) _ _ = _
      rw [f_X7_sources_L4, hM.1, if_pos (nI_le (Nat.le_refl n) (by omega))])
    (fun k i hi => by
      show f_X7_sources_L4 f (nI p) (k + 1) _ _ = f_X7_sources_L4 f (nI p) k _ _
      rw [f_X7_sources_L4, hM.1, if_neg (nI_ge hi (by omega)), hasArrow_eq hM ok hi hp]
      simp only [Option.bind_some]
      rw [show (0 : Int32) = nI 0 from rfl, nI_or, Nat.or_zero, jshl_1 (by omega), nI_or, nI_1]
      by_cases h : (ar i).testBit p = true
      · rw [if_pos h, if_pos h, if_neg (by decide)]
      · rw [if_neg h, if_neg h, if_pos rfl]) m (by omega)
  have h0 : f_X7_sources_L4 f (nI p) m 0 0 = some (nI (so (fun q => (ar q).testBit p) n)) := this
  rw [h0]
  rfl
theorem place_core {trial : GG} {meas : EE} {mg rd : Int32} {ms most nums : Nat → Int32} (hs : RS u f) (hm : 1000000 ≤ m) (p1 p2 : Int32) : ∃ q qm, f_X6_place m u trial meas p1 p2 = some q ∧ f_X7_place m f mg ms most nums rd p1 p2 = some qm ∧ q.1 = qm.1 := by
  obtain ⟨n, ow, co, ar, ch, tk, c, ok, hR, hM⟩ := hs
  have hn := ok.1.1
  unfold f_X6_place f_X7_place
  rcases pc_cases hR.1 hM.1 hn p1 with ⟨p, hp, rfl, a1, a2⟩ | ⟨-, a1, a2⟩
  · rw [a1, a2]
    simp only [Option.bind_some, if_neg n10, if_true]
    by_cases c0 : p2 = 0
    · subst c0
      rw [if_pos rfl, if_pos rfl, of0 (by omega), vg_nI (by omega) (by omega), tn (by omega), (hR.1.2 p hp).1, (hM.1.2 p hp).1]
      exact ⟨_, _, rfl, rfl, rfl⟩
    rw [if_neg c0, if_neg c0]
    by_cases c1 : p2 = 1
    · subst c1
      rw [if_pos rfl, if_pos rfl, of1 (by omega), vg_nI (by omega) (by omega), tn (by omega), (hR.1.2 p hp).2.1, (hM.1.2 p hp).2.1]
      exact ⟨_, _, rfl, rfl, rfl⟩
    rw [if_neg c1, if_neg c1]
    by_cases c2 : p2 = 2
    · subst c2
      rw [if_pos rfl, if_pos rfl, of2 (by omega), vg_nI (by omega) (by omega), tn (by omega), (hR.1.2 p hp).2.2, (hM.1.2 p hp).2.2.1]
      exact ⟨_, _, rfl, rfl, rfl⟩
    rw [if_neg c2, if_neg c2]
    by_cases c3 : p2 = 3
    · rw [if_pos c3, if_pos c3, bit_eq (by omega), X7_sources_eq hM.1 ok.1 (by omega) hp]
      simp only [Option.bind_some]
      rw [sources_eq hR.1 ok.1 (by omega)]
      refine ⟨_, _, rfl, rfl, ?_⟩
      show nI _ = nI _
      rw [so_congr (fun k _ => and_pow)]
    rw [if_neg c3, if_neg c3]
    by_cases c4 : p2 = 4
    · obtain ⟨M, r, hS⟩ := sol_exists (okW (w := 0) ok.1 (c7 ok) (by omega))
      obtain ⟨g1, e1, w1⟩ := winnerOf_eq (u := u) (trial := trial) (meas := meas) hR.1 ok.1 (c7 ok) hS hm hp
      obtain ⟨t, w2⟩ := winner_eq (ms := ms) (most := most) (nums := nums) hM.1 ok.1 (c7 ok) hS hm hp
      rw [if_pos c4, if_pos c4, w1, w2]
      exact ⟨_, _, rfl, rfl, rfl⟩
    rw [if_neg c4, if_neg c4]
    by_cases c5 : p2 = 5
    · have hch : ch p ≤ 14 := by rcases (ok.2.1 p hp).2 with e | e <;> omega
      rw [if_pos c5, if_pos c5, of3 (by omega), vg_nI (by omega) (by omega), tn (by omega), hR.2.1 p hp, (hM.1.2 p hp).2.2.2, placeOrNone_eq hch]
      simp only [Option.bind_some]
      unfold i14
      by_cases e : ch p = 14
      · rw [if_pos e, if_pos (by rw [e]; rfl)]
        exact ⟨_, _, rfl, rfl, rfl⟩
      · rw [if_neg e, if_neg (show ¬ nI (ch p) = 14 from by rw [show (14 : Int32) = nI 14 from rfl, nI_eq (by omega) (by omega)]; exact e)]
        exact ⟨_, _, rfl, rfl, rfl⟩
    rw [if_neg c5, if_neg c5]
    exact ⟨_, _, rfl, rfl, rfl⟩
  · rw [a1, a2]
    exact ⟨_, _, rfl, rfl, rfl⟩
end O4
