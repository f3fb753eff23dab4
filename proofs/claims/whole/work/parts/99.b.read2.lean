/-! reading the arrows: what the new ones count, and the operation -/
theorem pc_new (a b : Nat) : pc (a ||| b) = pc a + pc (b &&& (a ^^^ (2 ^ 31 - 1))) := by
  unfold pc
  rw [pc_sum, pc_sum, pc_sum]
  have key : ∀ j, j ≤ 14 → fo (fun k c => c + (if (a ||| b).testBit k = true then 1 else 0)) j 0 = fo (fun k c => c + (if a.testBit k = true then 1 else 0)) j 0 + fo (fun k c => c + (if (b &&& (a ^^^ (2 ^ 31 - 1))).testBit k = true then 1 else 0)) j 0 := by
    intro j
    induction j with
    | zero => intro _; rfl
    | succ j ih =>
      intro hj
      have hj2 : j < 31 := by omega
      have e1 : (a ||| b).testBit j = (a.testBit j || b.testBit j) := Nat.testBit_or a b j
      have e2 : (b &&& (a ^^^ (2 ^ 31 - 1))).testBit j = (b.testBit j && !a.testBit j) := by
        rw [Nat.testBit_and, Nat.testBit_xor, Nat.testBit_two_pow_sub_one]
        simp [hj2]
      rw [fo_s, fo_s, fo_s, ih (by omega), e1, e2]
      generalize fo (fun k c => c + (if a.testBit k = true then 1 else 0)) j 0 = P
      generalize fo (fun k c => c + (if (b &&& (a ^^^ (2 ^ 31 - 1))).testBit k = true then 1 else 0)) j 0 = Q
      cases a.testBit j <;> cases b.testBit j <;> simp <;> omega
  exact key 14 (Nat.le_refl 14)
def newN (n : Nat) (ar N : Nat → Nat) : Nat := fo (fun p c => c + pc (N p &&& (ar p ^^^ (2 ^ 31 - 1)))) n 0
theorem cnt_new (ar N : Nat → Nat) (n : Nat) : cntN n (fun p => ar p ||| N p) = cntN n ar + newN n ar N := by
  unfold cntN newN
  induction n with
  | zero => rfl
  | succ n ih =>
    rw [fo_s, fo_s, fo_s, ih]
    have h : pc ((fun p => ar p ||| N p) n) = pc (ar n) + pc (N n &&& (ar n ^^^ (2 ^ 31 - 1))) := pc_new (ar n) (N n)
    omega
section RA
variable {f reads : Nat → Int32} {n m : Nat} {ow co ar ch N : Nat → Nat}
theorem ra_cnt (hM : rM f n ow co ar ch) (ok : okG n ow co ar) (hm : 14 < m) (hN : bN n N) (hr : ∀ p, p < n → reads p = nI (N p)) : f_X7_readArrows_L28 m f reads m 0 0 = some (nI (newN n ar N)) := by
  have hn := ok.1
  have := loop_fo (fun k (s : Int32) i => f_X7_readArrows_L28 m f reads k s i) nI nI (fun p c => c + pc (N p &&& (ar p ^^^ (2 ^ 31 - 1)))) n 0
    (fun k => by
      show f_X7_readArrows_L28 m f reads (k + 1) _ _ = _
      rw [f_X7_readArrows_L28, hM.1, if_pos (nI_le (Nat.le_refl n) (by omega))])
    (fun k i hi => by
      show f_X7_readArrows_L28 m f reads (k + 1) _ _ = f_X7_readArrows_L28 m f reads k _ _
      have h1 := p31 hn (hN i hi)
      have h2 := p31 hn (ok.2 i hi).2.2
      have h3 : N i &&& (ar i ^^^ (2 ^ 31 - 1)) < 2 ^ 31 := Nat.lt_of_le_of_lt Nat.and_le_left h1
      rw [f_X7_readArrows_L28, hM.1, if_neg (nI_ge hi (by omega)), vg_nI (by omega) (by omega), of2 (by omega), (hM.2 i hi).2.2.1]
      simp only [Option.bind_some]
      rw [tn (by omega), hr i hi, nI_not h1 h2, X7_bits_eq h3 hm]
      simp only [Option.bind_some, nI_add, nI_1]) m (by omega)
  exact this
theorem ra_put (hM : rM f n ow co ar ch) (ok : okG n ow co ar) (hm : 14 < m) (hr : ∀ p, p < n → reads p = nI (N p)) : ∃ s, f_X7_readArrows_L86 reads m 0 f = some s ∧ rM s n ow co (fun p => ar p ||| N p) ch ∧ s 57 = f 57 ∧ s 58 = f 58 := by
  have hn := ok.1
  obtain ⟨s, ⟨h1, h2, h3, h4⟩, h5⟩ := loop_rel (fun k (s : Nat → Int32) i => f_X7_readArrows_L86 reads k i s) (fun i (_ : Unit) s => s 56 = nI n ∧ (∀ p, p < n → s (4 * p) = nI (ow p) ∧ s (4 * p + 1) = nI (co p) ∧ s (4 * p + 2) = nI (if p < i then ar p ||| N p else ar p) ∧ s (4 * p + 3) = nI (ch p)) ∧ s 57 = f 57 ∧ s 58 = f 58) (fun _ a => a) n () f ⟨hM.1, fun p hp => by rw [if_neg (by omega)]; exact hM.2 p hp, rfl, rfl⟩
    (fun k i s hi h => by
      obtain ⟨a1, a2, a3, a4⟩ := h
      refine ⟨upd s (4 * i + 2) (nI (ar i ||| N i)), ?_, ?_, ?_, ?_, ?_⟩
      · show f_X7_readArrows_L86 reads (k + 1) (nI i) s = f_X7_readArrows_L86 reads k (nI (i + 1)) _
        obtain ⟨-, -, b, -⟩ := a2 i hi
        rw [if_neg (Nat.lt_irrefl i)] at b
        rw [f_X7_readArrows_L86, a1, if_neg (nI_ge hi (by omega)), of2 (by omega), b]
        simp only [Option.bind_some]
        rw [vg_nI (by omega) (by omega), tn (by omega), hr i hi, nI_or, puts2 (by omega)]
        simp only [Option.bind_some, nI_1]
      · rw [upd_n (by omega)]
        exact a1
      · intro p hp
        obtain ⟨b1, b2, b3, b4⟩ := a2 p hp
        by_cases e : p = i
        · subst e
          rw [upd_n (show 4 * p ≠ 4 * p + 2 by omega), upd_n (show 4 * p + 1 ≠ 4 * p + 2 by omega), upd_s, upd_n (show 4 * p + 3 ≠ 4 * p + 2 by omega), if_pos (Nat.lt_succ_self p)]
          exact ⟨b1, b2, rfl, b4⟩
        · rw [upd_n (show 4 * p ≠ 4 * i + 2 by omega), upd_n (show 4 * p + 1 ≠ 4 * i + 2 by omega), upd_n (show 4 * p + 2 ≠ 4 * i + 2 by omega), upd_n (show 4 * p + 3 ≠ 4 * i + 2 by omega)]
          refine ⟨b1, b2, ?_, b4⟩
          by_cases h : p < i
          · rw [if_pos h] at b3
            rw [if_pos (by omega)]
            exact b3
          · rw [if_neg h] at b3
            rw [if_neg (by omega)]
            exact b3
      · rw [upd_n (by omega)]
        exact a3
      · rw [upd_n (by omega)]
        exact a4) m (by omega)
  have h5 : f_X7_readArrows_L86 reads m 0 f = f_X7_readArrows_L86 reads (m - n) (nI n) s := h5
  refine ⟨s, ?_, ⟨h1, fun p hp => ?_⟩, h3, h4⟩
  · rw [h5, show m - n = (m - n - 1) + 1 by omega, f_X7_readArrows_L86, h1, if_pos (nI_le (Nat.le_refl n) (by omega))]
  · obtain ⟨b1, b2, b3, b4⟩ := h2 p hp
    rw [if_pos hp] at b3
    exact ⟨b1, b2, b3, b4⟩
theorem ra_clear (hm : 14 < m) (r : Nat → Int32) : ∃ r0, f_X7_isRead_L12 m 0 r = some r0 ∧ ∀ p, p < 14 → r0 p = nI 0 := by
  obtain ⟨s, h1, h2⟩ := loop_rel (fun k (s : Nat → Int32) i => f_X7_isRead_L12 k i s) (fun i (_ : Unit) s => ∀ p, p < i → s p = nI 0) (fun _ a => a) 14 () r (fun p hp => absurd hp (by omega))
    (fun k i s hi h => by
      refine ⟨upd s i 0, ?_, fun p hp => ?_⟩
      · show f_X7_isRead_L12 (k + 1) (nI i) s = f_X7_isRead_L12 k (nI (i + 1)) _
        rw [f_X7_isRead_L12, if_neg (show ¬ 14 ≤ nI i from nI_ge (b := 14) hi (by omega)), vg_nI (by omega) (by omega), tn (by omega), nI_1]
      · by_cases e : p = i
        · subst e
          exact upd_s
        · rw [upd_n e]
          exact h p (by omega)) m (by omega)
  have h2 : f_X7_isRead_L12 m 0 r = f_X7_isRead_L12 (m - 14) (nI 14) s := h2
  refine ⟨s, ?_, h1⟩
  rw [h2, show m - 14 = (m - 14 - 1) + 1 by omega, f_X7_isRead_L12, if_pos (by decide)]
end RA
theorem readArrows_core {u : SS} {h : HH} {f mh : Nat → Int32} {mk : Int32} {m : Nat} {t : TT} {k num : Int32} {tf reads : Nat → Int32} {trial : GG} (hs : RS u f) (hh : RH h mh mk) (ht : RT t k tf) (hm : 300 < m) : ∃ q qm, f_X6_readArrows m u h t trial = some q ∧ f_X7_readArrows m f mh mk k tf num reads = some qm ∧ q.1 = qm.1 ∧ RS q.2.1 qm.2.1 ∧ RH q.2.2.1 qm.2.2.1 qm.2.2.2.1 := by
  obtain ⟨h', mh', mk', r1, r2, r3⟩ := rem_eq hh hs hm
  obtain ⟨n, ow, co, ar, ch, tk, c, ok, hR, hM⟩ := id hs
  obtain ⟨L, hL, ht1, rfl, ht2⟩ := ht
  have hn := ok.1.1
  have T : TX t tf L m := ⟨hL, ht1, ht2, hm⟩
  have hno : ∀ v, v ≤ 100 → f_X7_no f (nI v) = some (if v < n then 0 else 1) := fun v hv => no_v hR.1 hM.1 hn hv
  obtain ⟨r0, e1, e2⟩ := ra_clear (m := m) (by omega) reads
  have eF : f_X0_fault m t = FA t m 0 0 0 := rfl
  have eD : ∀ g, f_X0_drawInto m t g = DA t m 0 0 0 g := fun _ => rfl
  have eR : f_X7_isRead m f (nI L) tf num reads = f_X7_isRead_L33 m f (nI L) tf m 1 (nI 0) num r0 (nI 0) := by
    unfold f_X7_isRead
    rw [e1]
    rfl
  unfold f_X6_readArrows f_X7_readArrows
  rw [eF, eR]
  rcases ra_outer T hn hno 60 0 (Nat.zero_le L) (by omega) m (by omega) num r0 0 with ⟨a', num', reads', B', g1, g2, g3⟩ | ⟨a', num', reads', B', g1, g2, g3, g4, g5⟩
  · rw [g1, g2]
    simp only [Option.bind_some, if_true]
    rw [if_neg (nI_not_neg (by omega))]
    exact ⟨_, _, rfl, rfl, rfl, hs, hh⟩
  · obtain ⟨b, b1, b2⟩ := rG_become (o := trial) hR.1 hn
    rw [g1, g2]
    simp only [Option.bind_some, if_neg n10]
    rw [if_pos (show (-1 : Int32) < 0 by decide), b1]
    simp only [Option.bind_some]
    rw [eD]
    rcases g5 with ⟨rfl, N, q2, q3, q4⟩ | ⟨q1, q2⟩
    · obtain ⟨g', w1, w2⟩ := q4 0 b b2.1
      rw [w2, if_pos (show nI 0 ≤ 0 by decide)]
      simp only [Option.bind_some, if_neg n10]
      have hr : ∀ p, p < n → reads' p = nI (N p) := fun p hp => by
        rw [q3 p hp 0 (e2 p (by omega)), Nat.zero_or]
      have okG2 : okG n ow co (fun p => ar p ||| N p) := ⟨hn, fun p hp => ⟨(ok.1.2 p hp).1, (ok.1.2 p hp).2.1, Nat.or_lt_two_pow (ok.1.2 p hp).2.2 (q2 p hp)⟩⟩
      have hR2 : rG g' n ow co (fun p => ar p ||| N p) := ⟨w1.1.trans b2.1, fun p hp => ⟨by rw [w1.2.1]; exact (b2.2 p hp).1, by rw [w1.2.2.1]; exact (b2.2 p hp).2.1, w1.2.2.2 p hp _ (b2.2 p hp).2.2⟩⟩
      have hcn := cnt_new ar N n
      have hl1 := cntN_le n (fun p => ar p ||| N p)
      rw [X1_arrowCount_eq hR2 okG2 (by omega), X1_arrowCount_eq hR.1 ok.1 (by omega), X7_arrows_eq hM.1 ok.1 (by omega), ra_cnt hM.1 ok.1 (by omega) q2 hr, r1, r2]
      simp only [Option.bind_some]
      rw [nI_add, ← hcn]
      by_cases h60 : cntN n (fun p => ar p ||| N p) ≤ 60
      · obtain ⟨b', b3, b4⟩ := rG_become (o := u.1) hR2 hn
        obtain ⟨s, s1, s2, s3, s4⟩ := ra_put (m := m) hM.1 ok.1 (by omega) hr
        have i60 : nI (cntN n (fun p => ar p ||| N p)) ≤ 60 := nI_le (b := 60) h60 (by omega)
        rw [if_pos i60, if_pos i60, b3, s1]
        simp only [Option.bind_some]
        refine ⟨_, _, rfl, rfl, ?_, ⟨n, ow, co, fun p => ar p ||| N p, ch, tk, c, ⟨okG2, fun p hp => ⟨(ok.2.1 p hp).1, ?_⟩, h60, ok.2.2.2⟩, ⟨b4, hR.2⟩, s2, s3.trans hM.2.1, s4.trans hM.2.2⟩, r3⟩
        · show nI (cntN n (fun p => ar p ||| N p)) - nI (cntN n ar) = nI (newN n ar N)
          rw [hcn, pk_sub (by omega), Nat.add_sub_cancel_left]
        · rcases (ok.2.1 p hp).2 with e | e
          · exact Or.inl e
          · refine Or.inr ⟨e.1, ?_⟩
            show (ar p ||| N p).testBit (ch p) = true
            rw [Nat.testBit_or, e.2]
            rfl
      · have i60 : ¬ nI (cntN n (fun p => ar p ||| N p)) ≤ 60 := by
          rw [show (60 : Int32) = nI 60 from rfl, nI_leI (by omega) (by omega)]
          exact h60
        rw [if_neg i60, if_neg i60]
        exact ⟨_, _, rfl, rfl, rfl, hs, hh⟩
    · obtain ⟨g', w2⟩ := q2 0 b b2.1
      have hB : ¬ nI B' ≤ 0 := by
        rw [show (0 : Int32) = nI 0 from rfl, nI_leI (by omega) (by omega)]
        omega
      rw [w2, if_neg hB]
      simp only [Option.bind_some, if_true]
      exact ⟨_, _, rfl, rfl, rfl, hs, hh⟩
