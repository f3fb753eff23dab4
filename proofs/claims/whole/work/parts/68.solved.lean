/-! solveFor, wonBy, winnerOf; winsOf, winner -/
section SV
variable {n w : Nat} {ow co ar ch M : Nat → Nat} {r m : Nat} {f : Nat → Int32}
theorem exchange_eq {g : GG} (hR : rG g n ow co ar) (ok : okG n ow co ar) (hm : 20 < m) : ∃ g', f_X1_exchange m g = some g' ∧ rG g' n (owW 1 ow) (coW 1 co) ar := by
  have hn := ok.1
  unfold f_X1_exchange
  obtain ⟨s, ⟨h1, h2, h3⟩, h4⟩ := loop_rel (fun k (s : GG) i => f_X1_exchange_L2 k i s) (fun i (_ : Unit) s => s.1 = nI n ∧ (∀ p, p < i → s.2.1 p = nI (owW 1 ow p) ∧ s.2.2.1 p = nI (coW 1 co p) ∧ s.2.2.2 p = nI (ar p)) ∧ ∀ p, i ≤ p → p < n → s.2.1 p = nI (ow p) ∧ s.2.2.1 p = nI (co p) ∧ s.2.2.2 p = nI (ar p)) (fun _ a => a) n () g ⟨hR.1, fun p hp => absurd hp (by omega), fun p _ hp => hR.2 p hp⟩
    (fun k i s hi ⟨h1, h2, h3⟩ => by
      obtain ⟨a1, a2, a3⟩ := h3 i (Nat.le_refl i) hi
      have ho := (ok.2 i hi).1
      refine ⟨(s.1, upd s.2.1 i (nI (1 - ow i)), upd s.2.2.1 i (nI (co i + 1)), s.2.2.2), ?_, h1, fun p hp => ?_, fun p hp hpn => ?_⟩
      · show f_X1_exchange_L2 (k + 1) (nI i) s = f_X1_exchange_L2 k (nI (i + 1)) _
        rw [f_X1_exchange_L2, h1, if_neg (nI_ge hi (by omega)), vg_nI (by omega) (by omega), tn (by omega), a1, a2, nI_1, nI_1, show (1 - nI (ow i) : Int32) = nI (1 - ow i) from pk_sub (a := 1) (by omega)]
      · show upd s.2.1 i _ p = _ ∧ upd s.2.2.1 i _ p = _ ∧ s.2.2.2 p = _
        by_cases e : p = i
        · subst e
          rw [upd_s, upd_s]
          exact ⟨rfl, rfl, a3⟩
        · rw [upd_n e, upd_n e]
          exact h2 p (by omega)
      · show upd s.2.1 i _ p = _ ∧ upd s.2.2.1 i _ p = _ ∧ s.2.2.2 p = _
        rw [upd_n (by omega), upd_n (by omega)]
        exact h3 p (by omega) hpn) m (by omega)
  have h4 : f_X1_exchange_L2 m 0 g = f_X1_exchange_L2 (m - n) (nI n) s := h4
  rw [h4, show m - n = (m - n - 1) + 1 by omega, f_X1_exchange_L2, h1, if_pos (nI_le (Nat.le_refl n) (by omega))]
  exact ⟨s, rfl, h1, h2⟩
theorem solveFor_eq {u : SS} {trial : GG} {meas : EE} (hR : rG u.1 n ow co ar) (ok : okG n ow co ar) (hc : ∀ p, p < n → co p ≤ 7) (hw : w < 2) (hs : SolP n (owW w ow) (coW w co) ar M r) (hm : 1000000 ≤ m) : ∃ g e, f_X6_solveFor m u trial meas (nI w) = some (g, e) ∧ rG g n (owW w ow) (coW w co) ar ∧ rE e n (moN n (coW w co)) M ∧ e.2.2 = nI r := by
  have hn := ok.1
  have ok' := okW (w := w) ok hc hw
  unfold f_X6_solveFor
  obtain ⟨b, b1, b2⟩ := rG_become (o := trial) hR hn
  rw [b1]
  simp only [Option.bind_some]
  have e : ∃ g, ((if nI w = 1 then (f_X1_exchange m b).bind fun q6 => some q6 else some b) : Option GG) = some g ∧ rG g n (owW w ow) (coW w co) ar := by
    rcases (show w = 0 ∨ w = 1 by omega) with rfl | rfl
    · rw [if_neg (by decide)]
      exact ⟨b, rfl, b2⟩
    · rw [if_pos (by decide)]
      obtain ⟨g', g1, g2⟩ := exchange_eq (m := m) b2 ok (by omega)
      rw [g1]
      exact ⟨g', rfl, g2⟩
  obtain ⟨g, e1, e2⟩ := e
  rw [e1]
  simp only [Option.bind_some]
  obtain ⟨e', g1, g2, g3⟩ := X3_find_eq (e := meas) (m := m) e2 ok' hs hm
  rw [g1]
  exact ⟨g, e', rfl, e2, g2, g3⟩
/-- the places that are won -/
def wnN (n : Nat) (M : Nat → Nat) : Nat := so (fun p => !(M p == 65536)) n
theorem isLost_eq {e : EE} {mo : Nat → Nat} (hE : rE e n mo M) (hn : n ≤ 14) {p : Nat} (hp : p < n) (hv : vM (M p)) : f_X3_isLost e (nI p) = some (if M p = 65536 then 1 else 0) := by
  have := vM_le hv
  unfold f_X3_isLost
  rw [vg_nI (by omega) (by omega), tn (by omega), hE.2 p hp, show (65536 : Int32) = nI 65536 from rfl]
  by_cases h : M p = 65536
  · rw [if_pos (by rw [h]), if_pos h]
  · rw [if_neg (by rw [nI_eq (by omega) (by omega)]; exact h), if_neg h]
theorem wonBy_eq {u : SS} {trial : GG} {meas : EE} (hR : rG u.1 n ow co ar) (ok : okG n ow co ar) (hc : ∀ p, p < n → co p ≤ 7) (hw : w < 2) (hs : SolP n (owW w ow) (coW w co) ar M r) (hm : 1000000 ≤ m) : ∃ g e, f_X6_wonBy m u trial meas (nI w) = some (nI (wnN n M), g, e) := by
  have hn := ok.1
  have ok' := okW (w := w) ok hc hw
  have hv := sol_vM ok' hs
  unfold f_X6_wonBy
  obtain ⟨g, e, h1, h2, h3, h4⟩ := solveFor_eq (trial := trial) (meas := meas) hR ok hc hw hs hm
  rw [h1]
  simp only [Option.bind_some]
  have := loop_fo (fun k (a : Int32) i => f_X6_wonBy_L9 u e k a i) nI nI (fun p s => if (!(M p == 65536)) = true then s ||| 2 ^ p else s) n 0
    (fun k => by
      show f_X6_wonBy_L9 u e (k + 1) _ _ = _
      rw [f_X6_wonBy_L9, hR.1, if_pos (nI_le (Nat.le_refl n) (by omega))])
    (fun k i hi => by
      show f_X6_wonBy_L9 u e (k + 1) _ _ = f_X6_wonBy_L9 u e k _ _
      rw [f_X6_wonBy_L9, hR.1, if_neg (nI_ge hi (by omega)), isLost_eq h3 hn hi (hv i hi)]
      simp only [Option.bind_some]
      by_cases h : M i = 65536
      · rw [if_pos h, if_neg (by decide), if_neg (by simp [h]), nI_1]
      · rw [if_neg h, if_pos rfl, if_pos (by simp [h]), bit_eq (by omega)]
        simp only [Option.bind_some, nI_or, nI_1]) m (by omega)
  have h0 : f_X6_wonBy_L9 u e m 0 0 = some (nI (wnN n M)) := this
  rw [h0]
  exact ⟨g, e, rfl⟩
theorem winsOf_eq {ms most nums : Nat → Int32} (hM : rM f n ow co ar ch) (ok : okG n ow co ar) (hc : ∀ p, p < n → co p ≤ 7) (hw : w < 2) (hs : SolP n (owW w ow) (coW w co) ar M r) (hm : 1000000 ≤ m) : ∃ ms' most' nums', f_X7_winsOf m f ms most nums (nI w) = some (nI (wnN n M), nI w, ms', most', nums', nI r) := by
  have hn := ok.1
  have ok' := okW (w := w) ok hc hw
  have hv := sol_vM ok' hs
  unfold f_X7_winsOf
  obtain ⟨ms', most', nums', h1, h2, h3⟩ := X7_finds_eq (ms := ms) (most := most) (nums := nums) hM ok hc hw hs hm
  rw [h1]
  simp only [Option.bind_some]
  unfold f_X7_won
  have := loop_fo (fun k (a : Int32) i => f_X7_won_L4 f ms' k a i) nI nI (fun p s => if (!(M p == 65536)) = true then s ||| 2 ^ p else s) n 0
    (fun k => by
      show f_X7_won_L4 f ms' (k + 1) _ _ = _
      rw [f_X7_won_L4, hM.1, if_pos (nI_le (Nat.le_refl n) (by omega))])
    (fun k i hi => by
      show f_X7_won_L4 f ms' (k + 1) _ _ = f_X7_won_L4 f ms' k _ _
      have c1 := cv_small (hv i hi)
      rw [f_X7_won_L4, hM.1, if_neg (nI_ge hi (by omega)), vg_nI (by omega) (by omega), tn (by omega), h2 i hi, show (50625 : Int32) = nI (cv 65536) from rfl, show (0 : Int32) = nI 0 from rfl, nI_or, Nat.or_zero, jshl_1 (by omega), nI_or, nI_1]
      by_cases h : M i = 65536
      · rw [if_pos (by rw [h]), if_neg (by simp [h])]
      · rw [if_neg (by rw [nI_eq (by omega) (by decide), cv_eq (hv i hi) (Or.inl rfl)]; exact h), if_pos (by simp [h])]) m (by omega)
  have h0 : f_X7_won_L4 f ms' m 0 0 = some (nI (wnN n M)) := this
  rw [h0]
  exact ⟨ms', most', nums', rfl⟩
theorem wn_lt : wnN n M < 2 ^ n := so_lt _ _
theorem wn_bit {p : Nat} (hp : p < n) : (wnN n M).testBit p = true ↔ M p ≠ 65536 := by
  unfold wnN
  rw [so_bit]
  simp [hp]
theorem winnerOf_eq {u : SS} {trial : GG} {meas : EE} (hR : rG u.1 n ow co ar) (ok : okG n ow co ar) (hc : ∀ p, p < n → co p ≤ 7) (hs : SolP n (owW 0 ow) (coW 0 co) ar M r) (hm : 1000000 ≤ m) {p : Nat} (hp : p < n) : ∃ g e, f_X6_winnerOf m u trial meas (nI p) = some (if M p = 65536 then 1 else 0, g, e) := by
  have hn := ok.1
  have ok' := okW (w := 0) ok hc (by omega)
  have hv := sol_vM ok' hs
  unfold f_X6_winnerOf
  obtain ⟨g, e, h1, h2, h3, h4⟩ := solveFor_eq (w := 0) (trial := trial) (meas := meas) hR ok hc (by omega) hs hm
  have h1 : f_X6_solveFor m u trial meas 0 = some (g, e) := h1
  rw [h1]
  simp only [Option.bind_some]
  unfold f_X3_winner
  rw [isLost_eq h3 hn hp (hv p hp)]
  simp only [Option.bind_some]
  refine ⟨g, e, ?_⟩
  by_cases h : M p = 65536
  · rw [if_pos h, if_neg (by decide)]; rfl
  · rw [if_neg h, if_pos rfl]; rfl
theorem winner_eq {ms most nums : Nat → Int32} (hM : rM f n ow co ar ch) (ok : okG n ow co ar) (hc : ∀ p, p < n → co p ≤ 7) (hs : SolP n (owW 0 ow) (coW 0 co) ar M r) (hm : 1000000 ≤ m) {p : Nat} (hp : p < n) : ∃ t, f_X7_winner m f ms most nums (nI p) = some (if M p = 65536 then 1 else 0, t) := by
  have hn := ok.1
  unfold f_X7_winner
  obtain ⟨ms', most', nums', h1⟩ := winsOf_eq (w := 0) (ms := ms) (most := most) (nums := nums) hM ok hc (by omega) hs hm
  have h1 : f_X7_winsOf m f ms most nums 0 = some (nI (wnN n M), 0, ms', most', nums', nI r) := h1
  rw [h1]
  simp only [Option.bind_some]
  have hb := bit_iff (p31 hn (wn_lt (n := n) (M := M))) (show p < 32 by omega)
  by_cases h : M p = 65536
  · rw [if_neg (fun e => (wn_bit hp).mp (hb.mp e) h), if_pos h]
    exact ⟨_, rfl⟩
  · rw [if_pos (hb.mpr ((wn_bit hp).mpr h)), if_neg h]
    exact ⟨_, rfl⟩
end SV
