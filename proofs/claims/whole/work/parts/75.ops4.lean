/-! measure, turnOver, chooseWell, count -/
section O5
variable {u : SS} {f : Nat → Int32} {m : Nat}
theorem ml_1 (k : Nat) (v : Int32) : f_X7_measure_L63 (nI 1) (k + 4) v 7 = some (v / 15 / 15 / 15) := by
  rw [f_X7_measure_L63, if_neg (by decide), f_X7_measure_L63, if_neg (by decide), f_X7_measure_L63, if_neg (by decide), f_X7_measure_L63, if_pos (by decide)]
theorem ml_3 (k : Nat) (v : Int32) : f_X7_measure_L63 (nI 3) (k + 4) v 7 = some (v / 15 / 15) := by
  rw [f_X7_measure_L63, if_neg (by decide), f_X7_measure_L63, if_neg (by decide), f_X7_measure_L63, if_pos (by decide)]
theorem ml_5 (k : Nat) (v : Int32) : f_X7_measure_L63 (nI 5) (k + 4) v 7 = some (v / 15) := by
  rw [f_X7_measure_L63, if_neg (by decide), f_X7_measure_L63, if_pos (by decide)]
theorem ml_7 (k : Nat) (v : Int32) : f_X7_measure_L63 (nI 7) (k + 4) v 7 = some v := by
  rw [f_X7_measure_L63, if_pos (by decide)]
theorem num_eq {e : EE} {n : Nat} {mo M : Nat → Nat} (hE : rE e n mo M) (hn : n ≤ 14) {p : Nat} (hp : p < n) (hv : vM (M p)) (hl : M p ≠ 65536) {c : Nat} (hc : c = 1 ∨ c = 3 ∨ c = 5 ∨ c = 7) (hm : 20 < m) : ∃ v q, f_X3_number e (nI p) (nI c) = some v ∧ f_X7_measure_L63 (nI c) m (nI (cv (M p))) 7 = some q ∧ v = jrem q 15 := by
  have h65 := vM_le hv
  unfold f_X3_number
  rw [vg_nI (by omega) (by omega), tn (by omega), hE.2 p hp, show m = (m - 4) + 4 by omega]
  rcases vM_mk hv with h | ⟨a, b, x, y, ha, hb, hx, hy, h⟩
  · exact absurd h hl
  · rw [h, cv_mk ha hb hx hy]
    have hM : mk16 a b x y < 65536 := by unfold mk16; omega
    have hK : mk15 a b x y < 50625 := by unfold mk15; omega
    have a15 : ∀ z, z ≤ 14 → nI z &&& 15 = nI z := fun z hz => by
      rw [show (15 : Int32) = nI 15 from rfl, nI_and, show z &&& 15 = z % 2 ^ 4 from Nat.and_two_pow_sub_one_eq_mod z 4, Nat.mod_eq_of_lt (by omega)]
    have s15 : ∀ z, z < 65536 → nI z &&& 15 = nI (z % 16) := fun z hz => by
      rw [show (15 : Int32) = nI 15 from rfl, nI_and, show z &&& 15 = z % 2 ^ 4 from Nat.and_two_pow_sub_one_eq_mod z 4]
    have d15 : ∀ z, z < 65536 → (nI z / 15 : Int32) = nI (z / 15) := fun z hz => pk_div (d := 15) (by omega) (by omega) (by omega)
    have r15 : ∀ z, z < 65536 → jrem (nI z) 15 = nI (z % 15) := fun z hz => jrem_nI (d := 15) (by omega) (by omega) (by omega)
    rcases hc with rfl | rfl | rfl | rfl
    · refine ⟨_, _, rfl, ml_1 _ _, ?_⟩
      rw [show (4 * (3 - nI 1 / 2) : Int32) = nI 12 from by decide, jshr_nI (by omega) (by omega), s15 _ (by omega), d15 _ (by omega), d15 _ (by omega), d15 _ (by omega), r15 _ (by omega)]
      congr 1
      unfold mk16 mk15
      omega
    · refine ⟨_, _, rfl, ml_3 _ _, ?_⟩
      rw [show (4 * (3 - nI 3 / 2) : Int32) = nI 8 from by decide, jshr_nI (by omega) (by omega), s15 _ (by omega), d15 _ (by omega), d15 _ (by omega), r15 _ (by omega)]
      congr 1
      rw [show (2 : Nat) ^ 8 = 256 from rfl]
      unfold mk16 mk15
      rw [show (15 * (15 * (15 * a + b) + x) + y) / 15 = 15 * (15 * a + b) + x by omega, show (15 * (15 * a + b) + x) / 15 = 15 * a + b by omega, show (4096 * a + 256 * b + 16 * x + y) / 256 = 16 * a + b by omega]
      omega
    · refine ⟨_, _, rfl, ml_5 _ _, ?_⟩
      rw [show (4 * (3 - nI 5 / 2) : Int32) = nI 4 from by decide, jshr_nI (by omega) (by omega), s15 _ (by omega), d15 _ (by omega), r15 _ (by omega)]
      congr 1
      rw [show (2 : Nat) ^ 4 = 16 from rfl]
      unfold mk16 mk15
      rw [show (15 * (15 * (15 * a + b) + x) + y) / 15 = 15 * (15 * a + b) + x by omega, show (4096 * a + 256 * b + 16 * x + y) / 16 = 16 * (16 * a + b) + x by omega]
      omega
    · refine ⟨_, _, rfl, ml_7 _ _, ?_⟩
      rw [show (4 * (3 - nI 7 / 2) : Int32) = nI 0 from by decide, jshr_nI (by omega) (by omega), s15 _ (by omega), r15 _ (by omega)]
      congr 1
      unfold mk16 mk15
      omega
theorem measure_core {trial : GG} {meas : EE} {mg rd : Int32} {ms most nums : Nat → Int32} (hs : RS u f) (hm : 1000000 ≤ m) (p1 p2 p3 : Int32) : ∃ q qm, f_X6_measure m u trial meas p1 p2 p3 = some q ∧ f_X7_measure m f mg ms most nums rd p1 p2 p3 = some qm ∧ q.1 = qm.1 := by
  obtain ⟨n, ow, co, ar, ch, tk, c, ok, hR, hM⟩ := hs
  have hn := ok.1.1
  unfold f_X6_measure f_X7_measure
  rcases pl_cases p1 with ⟨a, ha, rfl, a1, -, a3⟩ | ⟨a1, -, a3⟩
  · rw [a1, a3]
    simp only [Option.bind_some, if_neg n10, if_true]
    rcases pc_cases hR.1 hM.1 hn p2 with ⟨p, hp, rfl, b1, b2⟩ | ⟨-, b1, b2⟩
    · rw [b1, b2]
      simp only [Option.bind_some, if_neg n10, if_true]
      rcases col_cases p3 with ⟨d, hd, rfl, d1, d2⟩ | ⟨d1, d2⟩
      · rw [d1]
        simp only [Option.bind_some, if_neg n10]
        by_cases ev : d = 0 ∨ d = 2 ∨ d = 4 ∨ d = 6
        · rcases ev with rfl | rfl | rfl | rfl <;> exact ⟨_, _, rfl, rfl, rfl⟩
        · have od : d = 1 ∨ d = 3 ∨ d = 5 ∨ d = 7 := by omega
          have e1 : f_X7_in (nI d) 1 7 = some 1 := by rcases od with rfl | rfl | rfl | rfl <;> rfl
          have e2 : ¬ jrem (nI d) 2 = 0 := by rcases od with rfl | rfl | rfl | rfl <;> decide
          rw [e1]
          simp only [Option.bind_some, if_neg n10]
          rw [if_neg e2, if_neg e2]
          have ok' := okW (w := a) ok.1 (c7 ok) ha
          obtain ⟨M, r, hS⟩ := sol_exists ok'
          have hv := sol_vM ok' hS
          obtain ⟨g1, e1, w1, -, w3, -⟩ := solveFor_eq (u := u) (trial := trial) (meas := meas) hR.1 ok.1 (c7 ok) ha hS hm
          obtain ⟨ms', most', nums', v1, v2, -⟩ := X7_finds_eq (ms := ms) (most := most) (nums := nums) hM.1 ok.1 (c7 ok) ha hS hm
          rw [w1, v1]
          simp only [Option.bind_some]
          rw [isLost_eq w3 hn hp (hv p hp), vg_nI (by omega) (by omega), tn (by omega), v2 p hp]
          simp only [Option.bind_some]
          have c1 := cv_small (hv p hp)
          by_cases hl : M p = 65536
          · rw [if_pos hl, if_neg n10, if_pos (show nI (cv (M p)) = 50625 from by rw [hl]; rfl)]
            exact ⟨_, _, rfl, rfl, rfl⟩
          · obtain ⟨v, q, h1, h2, h3⟩ := num_eq (m := m) w3 hn hp (hv p hp) hl od (by omega)
            have hl' : ¬ nI (cv (M p)) = 50625 := by
              rw [show (50625 : Int32) = nI (cv 65536) from rfl, nI_eq (by omega) (by decide), cv_eq (hv p hp) (Or.inl rfl)]; exact hl
            rw [if_neg hl, if_pos rfl, if_neg hl', h1, h2]
            exact ⟨_, _, rfl, rfl, h3⟩
      · have d3 : f_X7_in p3 1 7 = some 0 := by
          rw [in_eq] at d2 ⊢
          by_cases h1 : p3 < 0
          · rw [if_pos]
            rw [Int32.lt_iff_toInt_lt] at h1 ⊢
            rw [Int32.toInt_zero] at h1
            rw [show (1 : Int32).toInt = 1 from rfl]
            omega
          · rw [if_neg h1] at d2
            by_cases h2 : (7 : Int32) < p3
            · rw [if_pos h2]
              split <;> rfl
            · rw [if_neg h2] at d2
              cases d2
        rw [d1, d3]
        exact ⟨_, _, rfl, rfl, rfl⟩
    · rw [b1, b2]
      exact ⟨_, _, rfl, rfl, rfl⟩
  · rw [a1, a3]
    exact ⟨_, _, rfl, rfl, rfl⟩
theorem hasColour_eq {n : Nat} {ow co ar : Nat → Nat} {g : GG} (hR : rG g n ow co ar) (ok : okG n ow co ar) (hm : 20 < m) : (f_X1_hasColour m g 7 = some 0 ∧ ∀ p, p < n → co p ≠ 7) ∨ (f_X1_hasColour m g 7 = some 1 ∧ ∃ p, p < n ∧ co p = 7 ∧ ∀ q, q < p → co q ≠ 7) := by
  have hn := ok.1
  unfold f_X1_hasColour
  have key : ∀ d k, d ≤ n → d < k → (∀ q, q < n - d → co q ≠ 7) → (f_X1_hasColour_L2 g 7 k (nI (n - d)) = some 0 ∧ ∀ p, p < n → co p ≠ 7) ∨ (f_X1_hasColour_L2 g 7 k (nI (n - d)) = some 1 ∧ ∃ p, p < n ∧ co p = 7 ∧ ∀ q, q < p → co q ≠ 7) := by
    intro d
    induction d with
    | zero =>
      intro k _ hk h
      obtain ⟨k, rfl⟩ : ∃ k', k = k' + 1 := ⟨k - 1, by omega⟩
      rw [Nat.sub_zero] at h
      rw [f_X1_hasColour_L2, hR.1, Nat.sub_zero, if_pos (nI_le (Nat.le_refl n) (by omega))]
      exact Or.inl ⟨rfl, h⟩
    | succ d ih =>
      intro k hd hk h
      obtain ⟨k, rfl⟩ : ∃ k', k = k' + 1 := ⟨k - 1, by omega⟩
      have e : n - d = n - (d + 1) + 1 := by omega
      have hi : n - (d + 1) < n := by omega
      have ih' := ih k (by omega) (by omega)
      rw [e] at ih'
      generalize hii : n - (d + 1) = i at hi ih' h
      have hc := (ok.2 i hi).2.1
      rw [f_X1_hasColour_L2, hR.1, if_neg (nI_ge hi (by omega)), vg_nI (by omega) (by omega), tn (by omega), (hR.2 i hi).2.1]
      by_cases h7 : co i = 7
      · rw [if_pos (show nI (co i) = 7 from by rw [h7]; rfl)]
        exact Or.inr ⟨rfl, i, hi, h7, h⟩
      · rw [if_neg (show ¬ nI (co i) = 7 from by rw [show (7 : Int32) = nI 7 from rfl, nI_eq (by omega) (by omega)]; exact h7), nI_1]
        refine ih' (fun q hq => ?_)
        by_cases eq : q = i
        · rw [eq]; exact h7
        · exact h q (by omega)
  have h4 := key n m (Nat.le_refl n) (by omega) (fun q hq => absurd hq (by omega))
  rw [Nat.sub_self] at h4
  exact h4
theorem turn_scan {n : Nat} {ow co ar ch : Nat → Nat} {mh ms most nums : Nat → Int32} {mk mg rd : Int32} (hM : rM f n ow co ar ch) (ok : okG n ow co ar) {K : Nat} : ∀ i, i ≤ n → (∀ p, p < i → co p ≠ 7) → f_X7_turnOver_L2 m f mh mk mg ms most nums rd (K + i) 0 = f_X7_turnOver_L2 m f mh mk mg ms most nums rd K (nI i) := by
  intro i
  induction i generalizing K with
  | zero => intro _ _; rfl
  | succ i ih =>
    intro hi h
    have hn := ok.1
    have hc := (ok.2 i (by omega)).2.1
    rw [show K + (i + 1) = (K + 1) + i by omega, ih (by omega) (fun p hp => h p (by omega)), f_X7_turnOver_L2, hM.1, if_neg (nI_ge (by omega) (by omega)), of1 (by omega), (hM.2 i (by omega)).2.1]
    simp only [Option.bind_some]
    rw [if_neg (show ¬ nI (co i) = 7 from by rw [show (7 : Int32) = nI 7 from rfl, nI_eq (by omega) (by omega)]; exact h i (by omega)), nI_1]
theorem turn_all {n : Nat} {ow co ar ch : Nat → Nat} (hM : rM f n ow co ar ch) (ok : okG n ow co ar) (hm : 20 < m) : ∃ g, f_X7_turnOver_L39 m 0 f = some g ∧ rM g n (owW 1 ow) (coW 1 co) ar ch ∧ g 57 = f 57 ∧ g 58 = f 58 := by
  have hn := ok.1
  obtain ⟨s, ⟨h1, h2, h3, h5⟩, h4⟩ := loop_rel (fun k (s : Nat → Int32) i => f_X7_turnOver_L39 k i s) (fun i (_ : Unit) s => s 56 = nI n ∧ (∀ p, p < i → s (4 * p) = nI (owW 1 ow p) ∧ s (4 * p + 1) = nI (coW 1 co p)) ∧ (∀ p, i ≤ p → p < n → s (4 * p) = nI (ow p) ∧ s (4 * p + 1) = nI (co p)) ∧ ∀ y, (y % 4 = 2 ∨ y % 4 = 3 ∨ 56 ≤ y) → s y = f y) (fun _ a => a) n () f ⟨hM.1, fun p hp => absurd hp (by omega), fun p _ hp => ⟨(hM.2 p hp).1, (hM.2 p hp).2.1⟩, fun _ _ => rfl⟩
    (fun k i s hi ⟨h1, h2, h3, h5⟩ => by
      obtain ⟨a1, a2⟩ := h3 i (Nat.le_refl i) hi
      have ho := (ok.2 i hi).1
      refine ⟨upd (upd s (4 * i) (nI (1 - ow i))) (4 * i + 1) (nI (co i + 1)), ?_, ?_, fun p hp => ?_, fun p hp hpn => ?_, fun y hy => ?_⟩
      · show f_X7_turnOver_L39 (k + 1) (nI i) s = f_X7_turnOver_L39 k (nI (i + 1)) _
        rw [f_X7_turnOver_L39, h1, if_neg (nI_ge hi (by omega)), of0 (by omega), a1]
        simp only [Option.bind_some]
        rw [puts0 (by omega)]
        simp only [Option.bind_some]
        rw [of1 (by omega), upd_n (show 4 * i + 1 ≠ 4 * i by omega), a2]
        simp only [Option.bind_some]
        rw [puts1 (by omega), nI_1, nI_1, show (1 - nI (ow i) : Int32) = nI (1 - ow i) from pk_sub (a := 1) (by omega)]
        rfl
      · rw [upd_n (by omega), upd_n (by omega)]; exact h1
      · by_cases e : p = i
        · subst e
          rw [upd_n (show 4 * p ≠ 4 * p + 1 by omega), upd_s, upd_s]
          exact ⟨rfl, rfl⟩
        · have := h2 p (by omega)
          rw [upd_n (show 4 * p ≠ 4 * i + 1 by omega), upd_n (show 4 * p ≠ 4 * i by omega), upd_n (show 4 * p + 1 ≠ 4 * i + 1 by omega), upd_n (show 4 * p + 1 ≠ 4 * i by omega)]
          exact this
      · have := h3 p (by omega) hpn
        rw [upd_n (show 4 * p ≠ 4 * i + 1 by omega), upd_n (show 4 * p ≠ 4 * i by omega), upd_n (show 4 * p + 1 ≠ 4 * i + 1 by omega), upd_n (show 4 * p + 1 ≠ 4 * i by omega)]
        exact this
      · rw [upd_n (by omega), upd_n (by omega)]; exact h5 y hy) m (by omega)
  have h4 : f_X7_turnOver_L39 m 0 f = f_X7_turnOver_L39 (m - n) (nI n) s := h4
  rw [h4, show m - n = (m - n - 1) + 1 by omega, f_X7_turnOver_L39, h1, if_pos (nI_le (Nat.le_refl n) (by omega))]
  refine ⟨s, rfl, ⟨h1, fun p hp => ?_⟩, h5 57 (by omega), h5 58 (by omega)⟩
  obtain ⟨b1, b2⟩ := h2 p hp
  refine ⟨b1, b2, ?_, ?_⟩
  · rw [h5 _ (by omega)]; exact (hM.2 p hp).2.2.1
  · rw [h5 _ (by omega)]; exact (hM.2 p hp).2.2.2
theorem turnOver_core {h : HH} {mh : Nat → Int32} {mk : Int32} {trial : GG} {meas : EE} {mg rd : Int32} {ms most nums : Nat → Int32} (hs : RS u f) (hh : RH h mh mk) (hm : 1000000 ≤ m) : ∃ q qm, f_X6_turnOver m u h trial meas = some q ∧ f_X7_turnOver m f mh mk mg ms most nums rd = some qm ∧ q.1 = qm.1 ∧ RS q.2.1 qm.2.1 ∧ RH q.2.2.1 qm.2.2.1 qm.2.2.2.1 := by
  obtain ⟨h', mh', mk', r1, r2, r3⟩ := rem_eq hh hs (m := m) (by omega)
  obtain ⟨n, ow, co, ar, ch, tk, c, ok, hR, hM⟩ := id hs
  have hn := ok.1.1
  unfold f_X6_turnOver f_X7_turnOver
  rcases hasColour_eq (m := m) hR.1 ok.1 (by omega) with ⟨c1, c2⟩ | ⟨c1, p, hp, c2, c3⟩
  · have hsc : f_X7_turnOver_L2 m f mh mk mg ms most nums rd m 0 = f_X7_turnOver_L2 m f mh mk mg ms most nums rd ((m - n - 1) + 1) (nI n) := by
      have := turn_scan (m := m) (K := (m - n - 1) + 1) (mh := mh) (ms := ms) (most := most) (nums := nums) (mk := mk) (mg := mg) (rd := rd) hM.1 ok.1 n (Nat.le_refl n) c2
      rw [← this, show (m - n - 1) + 1 + n = m by omega]
    obtain ⟨g, g1, g2, g3, g4⟩ := turn_all (m := m) hM.1 ok.1 (by omega)
    obtain ⟨x, x1, x2⟩ := exchange_eq (m := m) hR.1 ok.1 (by omega)
    have ok2 : okS n (owW 1 ow) (coW 1 co) ar ch tk := by
      refine ⟨okW ok.1 (c7 ok) (by omega), fun p hp => ⟨?_, (ok.2.1 p hp).2⟩, ok.2.2⟩
      have := (ok.2.1 p hp).1
      have := c2 p hp
      show co p + 1 ≤ 7
      omega
    obtain ⟨M, r, hS⟩ := sol_exists (okW (w := 1) ok2.1 (c7 ok2) (by omega))
    obtain ⟨g9, e9, w1⟩ := wonBy_eq (u := (x, u.2.1, u.2.2.1, u.2.2.2)) (trial := trial) (meas := meas) (w := 1) x2 ok2.1 (c7 ok2) (by omega) hS hm
    have w1 : f_X6_wonBy m (x, u.2.1, u.2.2.1, u.2.2.2) trial meas 1 = _ := w1
    obtain ⟨ms', most', nums', w2⟩ := winsOf_eq (w := 1) (ms := ms) (most := most) (nums := nums) g2 ok2.1 (c7 ok2) (by omega) hS hm
    have w2 : f_X7_winsOf m g ms most nums 1 = _ := w2
    rw [hsc, f_X7_turnOver_L2, hM.1.1, if_pos (nI_le (Nat.le_refl n) (by omega)), c1, r1, r2, x1, g1]
    simp only [Option.bind_some, if_true]
    rw [w1, w2]
    exact ⟨_, _, rfl, rfl, rfl, ⟨n, _, _, ar, ch, tk, c, ok2, ⟨x2, hR.2⟩, g2, g3.trans hM.2.1, g4.trans hM.2.2⟩, r3⟩
  · have hsc : f_X7_turnOver_L2 m f mh mk mg ms most nums rd m 0 = f_X7_turnOver_L2 m f mh mk mg ms most nums rd ((m - p - 1) + 1) (nI p) := by
      have := turn_scan (m := m) (K := (m - p - 1) + 1) (mh := mh) (ms := ms) (most := most) (nums := nums) (mk := mk) (mg := mg) (rd := rd) hM.1 ok.1 p (by omega) c3
      rw [← this, show (m - p - 1) + 1 + p = m by omega]
    rw [hsc, f_X7_turnOver_L2, hM.1.1, if_neg (nI_ge hp (by omega)), of1 (by omega), (hM.1.2 p hp).2.1, c1, c2]
    exact ⟨_, _, rfl, rfl, rfl, hs, hh⟩
end O5
