/-! the edits of class and model -/
theorem app_f (f : Nat → Int32) (n a b : Nat) (v : Int32) (i : Nat) : upd (upd (upd (upd (upd f (4 * n) (nI a)) (4 * n + 1) (nI b)) (4 * n + 2) 0) (4 * n + 3) 14) 56 v i = if i = 56 then v else if i = 4 * n + 3 then nI 14 else if i = 4 * n + 2 then nI 0 else if i = 4 * n + 1 then nI b else if i = 4 * n then nI a else f i := rfl
section OP
variable {u : SS} {h : HH} {f mh : Nat → Int32} {mk : Int32} {m : Nat}
theorem addPlace_core (hs : RS u f) (hh : RH h mh mk) (hm : 300 < m) (p1 p2 : Int32) : ∃ q qm, f_X6_addPlace u h p1 p2 = some q ∧ f_X7_addPlace m f mh mk p1 p2 = some qm ∧ q.1 = qm.1 ∧ RS q.2.1 qm.2.1 ∧ RH q.2.2 qm.2.2.1 qm.2.2.2 := by
  obtain ⟨h', mh', mk', r1, r2, r3⟩ := rem_eq hh hs hm
  obtain ⟨n, ow, co, ar, ch, tk, c, ok, hR, hM⟩ := id hs
  have hn := ok.1.1
  unfold f_X6_addPlace f_X7_addPlace
  rcases pl_cases p1 with ⟨a, ha, rfl, a1, a2, -⟩ | ⟨a1, a2, -⟩
  · rw [a1, a2]
    simp only [Option.bind_some, if_neg n10, if_true]
    rcases col_cases p2 with ⟨b, hb, rfl, b1, b2⟩ | ⟨b1, b2⟩
    · rw [b1, b2]
      simp only [Option.bind_some, if_neg n10, if_true]
      rw [hR.1.1, hM.1.1, r1, r2]
      simp only [Option.bind_some, if_neg n10, if_true]
      by_cases e : n = 14
      · subst e
        rw [if_neg (by decide), if_pos (by decide)]
        exact ⟨_, _, rfl, rfl, rfl, hs, hh⟩
      · rw [if_pos (show nI n < 14 from (nI_lt_iff (b := 14) (by omega) (by omega)).mpr (by omega)), if_neg (show ¬ nI n = 14 from by rw [show (14 : Int32) = nI 14 from rfl, nI_eq (by omega) (by omega)]; exact e)]
        rw [puts0 (by omega)]
        simp only [Option.bind_some, if_neg n10, if_true]
        rw [puts1 (by omega)]
        simp only [Option.bind_some, if_neg n10, if_true]
        rw [puts2 (by omega)]
        simp only [Option.bind_some, if_neg n10, if_true]
        rw [puts3 (by omega)]
        simp only [Option.bind_some, if_neg n10, if_true]
        unfold f_X4_append
        rw [hR.1.1, vg_nI (by omega) (by omega), tn (by omega)]
        simp only [Option.bind_some, if_neg n10, if_true]
        refine ⟨_, _, rfl, rfl, rfl, ⟨n + 1, uN ow n a, uN co n b, uN ar n 0, uN ch n 14, tk, c, ?_, ?_, ?_, ?_, ?_⟩, r3⟩
        · obtain ⟨⟨k1, k2⟩, k3, k4, k5⟩ := ok
          refine ⟨⟨by omega, fun q hq => ?_⟩, fun q hq => ?_, ?_, by omega⟩
          · by_cases e2 : q = n
            · subst e2
              rw [uN_s, uN_s, uN_s]
              exact ⟨ha, by omega, Nat.pow_pos (by omega)⟩
            · obtain ⟨x1, x2, x3⟩ := k2 q (by omega)
              rw [uN_n e2, uN_n e2, uN_n e2]
              exact ⟨x1, x2, Nat.lt_trans x3 (Nat.pow_lt_pow_right (by omega) (by omega))⟩
          · by_cases e2 : q = n
            · subst e2
              rw [uN_s, uN_s, uN_s]
              exact ⟨hb, Or.inl rfl⟩
            · obtain ⟨x1, x2⟩ := k3 q (by omega)
              rw [uN_n e2, uN_n e2, uN_n e2]
              exact ⟨x1, x2.imp id (fun z => ⟨by omega, z.2⟩)⟩
          · have h1 := cnt_upd (ar := ar) (p := n) (v := 0) n
            rw [if_neg (by omega), if_neg (by omega)] at h1
            show cntN n (uN ar n 0) + pc (uN ar n 0 n) ≤ 60
            rw [uN_s, show pc 0 = 0 from by decide]
            omega
        · obtain ⟨⟨h1, h2⟩, h3, h4, h5⟩ := hR
          refine ⟨⟨nI_1 n, fun q hq => ?_⟩, fun q hq => ?_, h4, h5⟩
          · show upd u.1.2.1 n (nI a) q = _ ∧ upd u.1.2.2.1 n (nI b) q = _ ∧ upd u.1.2.2.2 n 0 q = _
            by_cases e2 : q = n
            · subst e2
              rw [upd_s, upd_s, upd_s, uN_s, uN_s, uN_s]
              exact ⟨rfl, rfl, rfl⟩
            · rw [upd_n e2, upd_n e2, upd_n e2, uN_n e2, uN_n e2, uN_n e2]
              exact h2 q (by omega)
          · show upd u.2.1 n 14 q = _
            by_cases e2 : q = n
            · subst e2
              rw [upd_s, uN_s]
              rfl
            · rw [upd_n e2, uN_n e2]
              exact h3 q (by omega)
        · obtain ⟨⟨h1, h2⟩, h3, h4⟩ := hM
          refine ⟨?_, fun q hq => ?_⟩
          · have h9 : upd (upd (upd (upd f (4 * n) (nI a)) (4 * n + 1) (nI b)) (4 * n + 2) 0) (4 * n + 3) 14 56 = nI n := by rw [upd_n (by omega), upd_n (by omega), upd_n (by omega), upd_n (by omega), h1]
            refine (app_f f n a b (upd (upd (upd (upd f (4 * n) (nI a)) (4 * n + 1) (nI b)) (4 * n + 2) 0) (4 * n + 3) 14 56 + 1) 56).trans ?_
            rw [if_pos rfl, h9, nI_1]
          · by_cases e2 : q = n
            · subst e2
              rw [uN_s, uN_s, uN_s, uN_s]
              refine ⟨?_, ?_, ?_, ?_⟩
              · refine (app_f f q a b _ _).trans ?_
                rw [if_neg (by omega), if_neg (by omega), if_neg (by omega), if_neg (by omega), if_pos rfl]
              · refine (app_f f q a b _ _).trans ?_
                rw [if_neg (by omega), if_neg (by omega), if_neg (by omega), if_pos rfl]
              · refine (app_f f q a b _ _).trans ?_
                rw [if_neg (by omega), if_neg (by omega), if_pos rfl]
              · refine (app_f f q a b _ _).trans ?_
                rw [if_neg (by omega), if_pos rfl]
            · obtain ⟨x1, x2, x3, x4⟩ := h2 q (by omega)
              rw [uN_n e2, uN_n e2, uN_n e2, uN_n e2]
              refine ⟨?_, ?_, ?_, ?_⟩
              · refine (app_f f n a b _ _).trans ?_
                rw [if_neg (by omega), if_neg (by omega), if_neg (by omega), if_neg (by omega), if_neg (by omega)]; exact x1
              · refine (app_f f n a b _ _).trans ?_
                rw [if_neg (by omega), if_neg (by omega), if_neg (by omega), if_neg (by omega), if_neg (by omega)]; exact x2
              · refine (app_f f n a b _ _).trans ?_
                rw [if_neg (by omega), if_neg (by omega), if_neg (by omega), if_neg (by omega), if_neg (by omega)]; exact x3
              · refine (app_f f n a b _ _).trans ?_
                rw [if_neg (by omega), if_neg (by omega), if_neg (by omega), if_neg (by omega), if_neg (by omega)]; exact x4
        · refine (app_f f n a b (upd (upd (upd (upd f (4 * n) (nI a)) (4 * n + 1) (nI b)) (4 * n + 2) 0) (4 * n + 3) 14 56 + 1) 57).trans ?_
          rw [if_neg (by omega), if_neg (by omega), if_neg (by omega), if_neg (by omega), if_neg (by omega)]
          exact hM.2.1
        · refine (app_f f n a b (upd (upd (upd (upd f (4 * n) (nI a)) (4 * n + 1) (nI b)) (4 * n + 2) 0) (4 * n + 3) 14 56 + 1) 58).trans ?_
          rw [if_neg (by omega), if_neg (by omega), if_neg (by omega), if_neg (by omega), if_neg (by omega)]
          exact hM.2.2
    · rw [b1, b2]
      exact ⟨_, _, rfl, rfl, rfl, hs, hh⟩
  · rw [a1, a2]
    exact ⟨_, _, rfl, rfl, rfl, hs, hh⟩
theorem setColour_core (hs : RS u f) (hh : RH h mh mk) (hm : 300 < m) (p1 p2 : Int32) : ∃ q qm, f_X6_setColour u h p1 p2 = some q ∧ f_X7_setColour m f mh mk p1 p2 = some qm ∧ q.1 = qm.1 ∧ RS q.2.1 qm.2.1 ∧ RH q.2.2 qm.2.2.1 qm.2.2.2 := by
  obtain ⟨h', mh', mk', r1, r2, r3⟩ := rem_eq hh hs hm
  obtain ⟨n, ow, co, ar, ch, tk, c, ok, hR, hM⟩ := id hs
  have hn := ok.1.1
  unfold f_X6_setColour f_X7_setColour
  rcases pc_cases hR.1 hM.1 hn p1 with ⟨p, hp, rfl, a1, a2⟩ | ⟨-, a1, a2⟩
  · rw [a1, a2]
    simp only [Option.bind_some, if_neg n10, if_true]
    rcases col_cases p2 with ⟨b, hb, rfl, b1, b2⟩ | ⟨b1, b2⟩
    · rw [b1, b2]
      simp only [Option.bind_some, if_neg n10, if_true]
      rw [of1 (by omega), vg_nI (by omega) (by omega), tn (by omega), (hR.1.2 p hp).2.1, (hM.1.2 p hp).2.1, r1, r2, puts1 (by omega)]
      simp only [Option.bind_some, if_neg n10, if_true]
      by_cases e : nI (co p) = nI b
      · rw [if_pos e, if_pos e]
        exact ⟨_, _, rfl, rfl, rfl, hs, hh⟩
      · rw [if_neg e, if_neg e]
        refine ⟨_, _, rfl, rfl, rfl, ⟨n, ow, uN co p b, ar, ch, tk, c, ok_co ok hb, ⟨⟨hR.1.1, fun q hq => ?_⟩, hR.2⟩, rM_co hM.1 hn hp, ?_, ?_⟩, r3⟩
        · exact ⟨(hR.1.2 q hq).1, uI (fun q hq => (hR.1.2 q hq).2.1) q hq, (hR.1.2 q hq).2.2⟩
        · show upd f _ _ 57 = _
          rw [upd_n (by omega)]; exact hM.2.1
        · show upd f _ _ 58 = _
          rw [upd_n (by omega)]; exact hM.2.2
    · rw [b1, b2]
      exact ⟨_, _, rfl, rfl, rfl, hs, hh⟩
  · rw [a1, a2]
    exact ⟨_, _, rfl, rfl, rfl, hs, hh⟩
theorem setOwner_core {trial : GG} {meas : EE} {mg rd : Int32} {ms most nums : Nat → Int32} (hs : RS u f) (hh : RH h mh mk) (hm : 1000000 ≤ m) (p1 p2 : Int32) : ∃ q qm, f_X6_setOwner m u h trial meas p1 p2 = some q ∧ f_X7_setOwner m f mh mk mg ms most nums rd p1 p2 = some qm ∧ q.1 = qm.1 ∧ RS q.2.1 qm.2.1 ∧ RH q.2.2.1 qm.2.2.1 qm.2.2.2.1 := by
  obtain ⟨h', mh', mk', r1, r2, r3⟩ := rem_eq hh hs (m := m) (by omega)
  obtain ⟨n, ow, co, ar, ch, tk, c, ok, hR, hM⟩ := id hs
  have hn := ok.1.1
  unfold f_X6_setOwner f_X7_setOwner
  rcases pc_cases hR.1 hM.1 hn p1 with ⟨p, hp, rfl, a1, a2⟩ | ⟨-, a1, a2⟩
  · rw [a1, a2]
    simp only [Option.bind_some, if_neg n10, if_true]
    rcases pl_cases p2 with ⟨b, hb, rfl, b1, b2, -⟩ | ⟨b1, b2, -⟩
    · rw [b1, b2]
      simp only [Option.bind_some, if_neg n10, if_true]
      rw [of0 (by omega), vg_nI (by omega) (by omega), tn (by omega), (hR.1.2 p hp).1, (hM.1.2 p hp).1, r1, r2, puts0 (by omega)]
      simp only [Option.bind_some, if_neg n10, if_true]
      by_cases e : nI (ow p) = nI b
      · rw [if_pos e, if_pos e]
        exact ⟨_, _, rfl, rfl, rfl, hs, hh⟩
      · rw [if_neg e, if_neg e]
        have ok2 := ok_ow (p := p) ok hb
        have hR2 : rG (u.1.1, upd u.1.2.1 p (nI b), u.1.2.2.1, u.1.2.2.2) n (uN ow p b) co ar := ⟨hR.1.1, fun q hq => ⟨uI (fun q hq => (hR.1.2 q hq).1) q hq, (hR.1.2 q hq).2⟩⟩
        have hM2 := rM_ow (v := b) hM.1 hn hp
        have hc7 : ∀ p, p < n → co p ≤ 7 := fun p hp => (ok.2.1 p hp).1
        obtain ⟨M, r, hS⟩ := sol_exists (okW (w := 0) ok2.1 hc7 (by omega))
        obtain ⟨g1, e1, w1⟩ := wonBy_eq (u := ((u.1.1, upd u.1.2.1 p (nI b), u.1.2.2.1, u.1.2.2.2), u.2.1, u.2.2.1, u.2.2.2)) (trial := trial) (meas := meas) (w := 0) hR2 ok2.1 hc7 (by omega) hS hm
        have w1 : f_X6_wonBy m ((u.1.1, upd u.1.2.1 p (nI b), u.1.2.2.1, u.1.2.2.2), u.2.1, u.2.2.1, u.2.2.2) trial meas 0 = _ := w1
        obtain ⟨ms', most', nums', w2⟩ := winsOf_eq (w := 0) (ms := ms) (most := most) (nums := nums) hM2 ok2.1 hc7 (by omega) hS hm
        have w2 : f_X7_winsOf m (upd f (4 * p) (nI b)) ms most nums 0 = _ := w2
        rw [w1, w2]
        simp only [Option.bind_some, if_neg n10, if_true]
        refine ⟨_, _, rfl, rfl, rfl, ⟨n, uN ow p b, co, ar, ch, tk, c, ok2, ⟨hR2, hR.2⟩, hM2, ?_, ?_⟩, r3⟩
        · show upd f _ _ 57 = _
          rw [upd_n (by omega)]; exact hM.2.1
        · show upd f _ _ 58 = _
          rw [upd_n (by omega)]; exact hM.2.2
    · rw [b1, b2]
      exact ⟨_, _, rfl, rfl, rfl, hs, hh⟩
  · rw [a1, a2]
    exact ⟨_, _, rfl, rfl, rfl, hs, hh⟩
theorem addArrow_core (hs : RS u f) (hh : RH h mh mk) (hm : 300 < m) (p1 p2 : Int32) : ∃ q qm, f_X6_addArrow m u h p1 p2 = some q ∧ f_X7_addArrow m f mh mk p1 p2 = some qm ∧ q.1 = qm.1 ∧ RS q.2.1 qm.2.1 ∧ RH q.2.2 qm.2.2.1 qm.2.2.2 := by
  obtain ⟨h', mh', mk', r1, r2, r3⟩ := rem_eq hh hs hm
  obtain ⟨n, ow, co, ar, ch, tk, c, ok, hR, hM⟩ := id hs
  have hn := ok.1.1
  unfold f_X6_addArrow f_X7_addArrow
  rcases pc_cases hR.1 hM.1 hn p1 with ⟨p, hp, rfl, a1, a2⟩ | ⟨-, a1, a2⟩
  · rw [a1, a2]
    simp only [Option.bind_some, if_neg n10, if_true]
    rcases pc_cases hR.1 hM.1 hn p2 with ⟨b, hb, rfl, b1, b2⟩ | ⟨-, b1, b2⟩
    · rw [b1, b2]
      simp only [Option.bind_some, if_neg n10, if_true]
      have hc60 := ok.2.2.1
      rw [X1_arrowCount_eq hR.1 ok.1 (by omega), X7_arrows_eq hM.1 ok.1 (by omega), leads_eq hR.1 ok.1 hp hb, hasArrow_eq hM.1 ok.1 hp hb, r1, r2]
      simp only [Option.bind_some, if_neg n10, if_true]
      by_cases c60 : cntN n ar = 60
      · rw [c60, if_neg (by decide)]
        simp only [if_pos (show nI 60 = 60 from rfl), ite_self]
        exact ⟨_, _, rfl, rfl, rfl, hs, hh⟩
      · have n60 : ¬ nI (cntN n ar) = 60 := by rw [show (60 : Int32) = nI 60 from rfl, nI_eq (by omega) (by omega)]; exact c60
        rw [if_pos (show nI (cntN n ar) < 60 from (nI_lt_iff (b := 60) (by omega) (by omega)).mpr (by omega))]
        simp only [if_neg n60]
        by_cases hb2 : (ar p).testBit b = true
        · simp only [if_pos hb2, if_neg n10, if_true]
          exact ⟨_, _, rfl, rfl, rfl, hs, hh⟩
        · simp only [if_neg hb2, if_neg n10, if_true]
          rw [vg_nI (by omega) (by omega), bit_eq (by omega), of2 (by omega), tn (by omega), (hR.1.2 p hp).2.2, (hM.1.2 p hp).2.2.1, jshl_1 (by omega)]
          simp only [Option.bind_some, if_neg n10, if_true]
          have ha := (ok.1.2 p hp).2.2
          have hv := or_lt ha hb
          rw [nI_or, puts2 (by omega)]
          simp only [Option.bind_some, if_neg n10, if_true]
          rw [of2 (by omega)]
          simp only [Option.bind_some, if_neg n10, if_true]
          rw [upd_s, upd_s, X7_bits_eq (p31 hn hv) (by omega), bc_some, bcI_eq (lt14 hn hv)]
          simp only [Option.bind_some, if_neg n10, if_true]
          refine ⟨_, _, rfl, rfl, rfl, ⟨n, ow, co, uN ar p (ar p ||| 2 ^ b), ch, tk, c, ok_ar ok hv ?_ ?_, ⟨⟨hR.1.1, fun q hq => ?_⟩, hR.2⟩, rM_ar hM.1 hn hp, ?_, ?_⟩, r3⟩
          · have h1 := cnt_up (ar := ar) (v := ar p ||| 2 ^ b) hp
            rw [pc_or hb2 (by omega)] at h1
            omega
          · rcases (ok.2.1 p hp).2 with e | e
            · exact Or.inl e
            · right
              rw [Nat.testBit_or, e.2]
              rfl
          · exact ⟨(hR.1.2 q hq).1, (hR.1.2 q hq).2.1, uI (fun q hq => (hR.1.2 q hq).2.2) q hq⟩
          · show upd f _ _ 57 = _
            rw [upd_n (by omega)]; exact hM.2.1
          · show upd f _ _ 58 = _
            rw [upd_n (by omega)]; exact hM.2.2
    · rw [b1, b2]
      exact ⟨_, _, rfl, rfl, rfl, hs, hh⟩
  · rw [a1, a2]
    exact ⟨_, _, rfl, rfl, rfl, hs, hh⟩
theorem removeArrow_core (hs : RS u f) (hh : RH h mh mk) (hm : 300 < m) (p1 p2 : Int32) : ∃ q qm, f_X6_removeArrow u h p1 p2 = some q ∧ f_X7_removeArrow m f mh mk p1 p2 = some qm ∧ q.1 = qm.1 ∧ RS q.2.1 qm.2.1 ∧ RH q.2.2 qm.2.2.1 qm.2.2.2 := by
  obtain ⟨h', mh', mk', r1, r2, r3⟩ := rem_eq hh hs hm
  obtain ⟨n, ow, co, ar, ch, tk, c, ok, hR, hM⟩ := id hs
  have hn := ok.1.1
  unfold f_X6_removeArrow f_X7_removeArrow
  rcases pc_cases hR.1 hM.1 hn p1 with ⟨p, hp, rfl, a1, a2⟩ | ⟨-, a1, a2⟩
  · rw [a1, a2]
    simp only [Option.bind_some, if_neg n10, if_true]
    rcases pc_cases hR.1 hM.1 hn p2 with ⟨b, hb, rfl, b1, b2⟩ | ⟨-, b1, b2⟩
    · rw [b1, b2]
      simp only [Option.bind_some, if_neg n10, if_true]
      rw [leads_eq hR.1 ok.1 hp hb, hasArrow_eq hM.1 ok.1 hp hb, r1, r2]
      simp only [Option.bind_some, if_neg n10, if_true]
      by_cases hb2 : (ar p).testBit b = true
      · simp only [if_pos hb2, if_neg n10, if_true]
        have ha := (ok.1.2 p hp).2.2
        have hv := xor_lt ha hb
        rw [vg_nI (by omega) (by omega), bit_eq (by omega), of2 (by omega), tn (by omega), (hR.1.2 p hp).2.2, (hM.1.2 p hp).2.2.1, jshl_1 (by omega), (hR.2.1 p hp)]
        simp only [Option.bind_some, if_neg n10, if_true]
        rw [nI_xor, puts2 (by omega)]
        simp only [Option.bind_some, if_neg n10, if_true]
        rw [of3 (by omega), upd_n (by omega), (hM.1.2 p hp).2.2.2, nI_not (p31 hn ha) (Nat.pow_lt_pow_right (by omega) (by omega)), xor_out (p31 hn ha) hb2]
        simp only [Option.bind_some, if_neg n10, if_true]
        have hsub : sub (ar p ^^^ 2 ^ b) (ar p) := by
          intro k hk
          rw [Nat.testBit_xor, Nat.testBit_two_pow] at hk
          by_cases e : b = k
          · rw [← e]; exact hb2
          · simpa [e] using hk
        have hcnt : cntN n (uN ar p (ar p ^^^ 2 ^ b)) ≤ 60 := by
          have h1 := cnt_up (ar := ar) (v := ar p ^^^ 2 ^ b) hp
          have h2 := pc_mono hsub
          have h3 := ok.2.2.1
          omega
        by_cases e : ch p = b
        · have e' : nI (ch p) = nI b := by rw [e]
          rw [if_pos e', if_pos e', puts3 (by omega)]
          simp only [Option.bind_some, if_neg n10, if_true]
          rw [of2 (by omega)]
          simp only [Option.bind_some]
          rw [upd_n (show 4 * p + 2 ≠ 4 * p + 3 by omega), upd_s, upd_s, X7_bits_eq (p31 hn hv) (by omega), bc_some, bcI_eq (lt14 hn hv)]
          simp only [Option.bind_some, if_neg n10, if_true]
          refine ⟨_, _, rfl, rfl, rfl, ⟨n, ow, co, uN ar p (ar p ^^^ 2 ^ b), uN ch p 14, tk, c, ok_ar (ok_ch ok (Or.inl rfl)) hv hcnt (Or.inl (uN_s _ _ _)), ⟨⟨hR.1.1, fun q hq => ?_⟩, fun q hq => ?_, hR.2.2⟩, rM_ch (rM_ar hM.1 hn hp) hn hp, ?_, ?_⟩, r3⟩
          · exact ⟨(hR.1.2 q hq).1, (hR.1.2 q hq).2.1, uI (fun q hq => (hR.1.2 q hq).2.2) q hq⟩
          · exact uI (v := 14) (fun q hq => hR.2.1 q hq) q hq
          · show upd (upd f _ _) _ _ 57 = _
            rw [upd_n (by omega), upd_n (by omega)]; exact hM.2.1
          · show upd (upd f _ _) _ _ 58 = _
            rw [upd_n (by omega), upd_n (by omega)]; exact hM.2.2
        · have hch : ch p ≤ 14 := by rcases (ok.2.1 p hp).2 with e | e <;> omega
          have e' : ¬ nI (ch p) = nI b := by rw [nI_eq (by omega) (by omega)]; exact e
          rw [if_neg e', if_neg e']
          simp only [Option.bind_some, if_neg n10, if_true]
          rw [of2 (by omega)]
          simp only [Option.bind_some]
          rw [upd_s, upd_s, X7_bits_eq (p31 hn hv) (by omega), bc_some, bcI_eq (lt14 hn hv)]
          simp only [Option.bind_some, if_neg n10, if_true]
          refine ⟨_, _, rfl, rfl, rfl, ⟨n, ow, co, uN ar p (ar p ^^^ 2 ^ b), ch, tk, c, ok_ar ok hv hcnt ?_, ⟨⟨hR.1.1, fun q hq => ?_⟩, hR.2⟩, rM_ar hM.1 hn hp, ?_, ?_⟩, r3⟩
          · rcases (ok.2.1 p hp).2 with e2 | e2
            · exact Or.inl e2
            · right
              rw [Nat.testBit_xor, Nat.testBit_two_pow, e2.2]
              simp [Ne.symm e]
          · exact ⟨(hR.1.2 q hq).1, (hR.1.2 q hq).2.1, uI (fun q hq => (hR.1.2 q hq).2.2) q hq⟩
          · show upd f _ _ 57 = _
            rw [upd_n (by omega)]; exact hM.2.1
          · show upd f _ _ 58 = _
            rw [upd_n (by omega)]; exact hM.2.2
      · simp only [if_neg hb2, if_neg n10, if_true]
        exact ⟨_, _, rfl, rfl, rfl, hs, hh⟩
    · rw [b1, b2]
      exact ⟨_, _, rfl, rfl, rfl, hs, hh⟩
  · rw [a1, a2]
    exact ⟨_, _, rfl, rfl, rfl, hs, hh⟩
theorem hasArrow_out {n : Nat} {ow co ar ch : Nat → Nat} (hM : rM f n ow co ar ch) (ok : okG n ow co ar) {p q : Nat} (hp : p < n) (hq : n ≤ q) (hq2 : q < 31) : f_X7_hasArrow f (nI p) (nI q) = some 0 := by
  have hn := ok.1
  have ha := (ok.2 p hp).2.2
  unfold f_X7_hasArrow
  rw [of2 (by omega), (hM.2 p hp).2.2.1]
  simp only [Option.bind_some, if_neg n10, if_true]
  rw [if_neg (fun e => by rw [bit_iff (p31 hn ha) (by omega), bits_lt ha hq] at e; cases e)]
theorem choose_core (hs : RS u f) (hh : RH h mh mk) (hm : 300 < m) (p1 p2 : Int32) : ∃ q qm, f_X6_choose u h p1 p2 = some q ∧ f_X7_choose m f mh mk p1 p2 = some qm ∧ q.1 = qm.1 ∧ RS q.2.1 qm.2.1 ∧ RH q.2.2 qm.2.2.1 qm.2.2.2 := by
  obtain ⟨h', mh', mk', r1, r2, r3⟩ := rem_eq hh hs hm
  obtain ⟨n, ow, co, ar, ch, tk, c, ok, hR, hM⟩ := id hs
  have hn := ok.1.1
  unfold f_X6_choose f_X7_choose
  rcases pc_cases hR.1 hM.1 hn p1 with ⟨p, hp, rfl, a1, a2⟩ | ⟨-, a1, a2⟩
  · rw [a1, a2]
    simp only [Option.bind_some, if_neg n10, if_true]
    have fin : ∀ b, (b = 14 ∨ (b < n ∧ (ar p).testBit b = true)) → ∃ (q : Int32 × SS × HH) (qm : Int32 × (Nat → Int32) × (Nat → Int32) × Int32), (if nI (ch p) = nI b then some (-5, u, h) else some (nI (ch p), (u.1, upd u.2.1 p (nI b), u.2.2.1, u.2.2.2), h')) = some q ∧ (if nI (ch p) = nI b then some (-5, f, mh, mk) else some (nI (ch p), upd f (4 * p + 3) (nI b), mh', mk')) = some qm ∧ q.1 = qm.1 ∧ RS q.2.1 qm.2.1 ∧ RH q.2.2 qm.2.2.1 qm.2.2.2 := by
      intro b hb
      by_cases e : nI (ch p) = nI b
      · rw [if_pos e, if_pos e]
        exact ⟨_, _, rfl, rfl, rfl, hs, hh⟩
      · rw [if_neg e, if_neg e]
        refine ⟨_, _, rfl, rfl, rfl, ⟨n, ow, co, ar, uN ch p b, tk, c, ok_ch ok hb, ⟨hR.1, fun q hq => ?_, hR.2.2⟩, rM_ch hM.1 hn hp, ?_, ?_⟩, r3⟩
        · exact uI (fun q hq => hR.2.1 q hq) q hq
        · show upd f _ _ 57 = _
          rw [upd_n (by omega)]; exact hM.2.1
        · show upd f _ _ 58 = _
          rw [upd_n (by omega)]; exact hM.2.2
    rcases in_cases p2 14 (by omega) with ⟨b, hb, rfl, b1⟩ | ⟨-, b1, b2⟩
    · have b1 : f_X7_in (nI b) 0 14 = some 1 := b1
      rw [b1]
      simp only [Option.bind_some, if_neg n10, if_true]
      rw [if_neg (nI_not_neg (by omega)), if_pos (show nI b ≤ 14 from nI_le (b := 14) (by omega) (by omega))]
      rw [of3 (by omega), vg_nI (by omega) (by omega), tn (by omega), hR.2.1 p hp, (hM.1.2 p hp).2.2.2, r1, r2, puts3 (by omega)]
      simp only [Option.bind_some, if_neg n10, if_true]
      by_cases e : b = 14
      · subst e
        rw [if_pos (show nI 14 = 14 from rfl), if_pos (show (14 : Int32) ≤ nI 14 from by decide)]
        exact fin 14 (Or.inl rfl)
      · rw [if_neg (show ¬ nI b = 14 from by rw [show (14 : Int32) = nI 14 from rfl, nI_eq (by omega) (by omega)]; exact e), if_neg (show ¬ (14 : Int32) ≤ nI b from by rw [show (14 : Int32) = nI 14 from rfl, nI_leI (by omega) (by omega)]; omega)]
        by_cases hbn : b < n
        · rw [leads_eq hR.1 ok.1 hp hbn, hasArrow_eq hM.1 ok.1 hp hbn]
          simp only [Option.bind_some, if_neg n10, if_true]
          by_cases hb2 : (ar p).testBit b = true
          · simp only [if_pos hb2, if_neg n10, if_true]
            exact fin b (Or.inr ⟨hbn, hb2⟩)
          · simp only [if_neg hb2, if_neg n10, if_true]
            exact ⟨_, _, rfl, rfl, rfl, hs, hh⟩
        · rw [leads_out hR.1 ok.1 hp (fun q hq => by rw [Ne, nI_eq (by omega) (by omega)]; omega), hasArrow_out hM.1 ok.1 hp (by omega) (by omega)]
          simp only [Option.bind_some, if_neg n10, if_true]
          exact ⟨_, _, rfl, rfl, rfl, hs, hh⟩
    · have b1 : f_X7_in p2 0 14 = some 0 := b1
      rw [b1]
      simp only [Option.bind_some, if_neg n10, if_true]
      by_cases e : p2 < 0
      · rw [if_pos e]
        exact ⟨_, _, rfl, rfl, rfl, hs, hh⟩
      · rw [if_neg e, if_neg (fun e2 : p2 ≤ 14 => by
          rcases b2 with b2 | b2
          · exact e b2
          · exact (I_lt _ _).mp b2 e2)]
        exact ⟨_, _, rfl, rfl, rfl, hs, hh⟩
  · rw [a1, a2]
    exact ⟨_, _, rfl, rfl, rfl, hs, hh⟩
end OP
