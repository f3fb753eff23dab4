/-! the least colour of the ring that the token comes to; token -/
section TL
variable {u : SS} {f : Nat → Int32} {m n : Nat} {ow co ar ch : Nat → Nat}
def mnc (co P : Nat → Nat) (i0 : Nat) (t : Nat) : Nat := fo (fun s a => if co (P (i0 + 1 + s)) < a then co (P (i0 + 1 + s)) else a) t (co (P i0))
theorem mnc_s (co P : Nat → Nat) (i0 t : Nat) : mnc co P i0 (t + 1) = if co (P (i0 + 1 + t)) < mnc co P i0 t then co (P (i0 + 1 + t)) else mnc co P i0 t := by
  unfold mnc
  rw [fo_s]
theorem mnc_le {P : Nat → Nat} {i0 J : Nat} (h : ∀ i, i ≤ J → co (P i) ≤ 8) (hi : i0 ≤ J) : ∀ t, i0 + t ≤ J → mnc co P i0 t ≤ 8 := by
  intro t
  induction t with
  | zero => intro _; exact h i0 hi
  | succ t ih =>
    intro ht
    rw [mnc_s]
    split
    · exact h _ (by omega)
    · exact ih (by omega)
theorem least_class {W P : Nat → Nat} {ws : Nat → Int32} {g : GG} {J i0 : Nat} (hR : rG g n ow co ar) (ok : okG n ow co ar) (hws : ∀ p, p < n → ws p = nI (W p)) (hP : ∀ j, P (j + 1) = W (P j)) (hJ : J < 14) (hi : i0 ≤ J) (h4 : ∀ i, i ≤ J → P i < n) (h5 : ∀ i, i ≤ J → ∀ i', i' < i → P i' ≠ P i) (hw : W (P J) = P i0) (hm : 100 < m) : f_X5_leastColourAgain m (ws, nI (J + 1), 1, nI (P i0)) g = some (nI (mnc co P i0 (J - i0))) := by
  have hn := ok.1
  have hp0 := h4 i0 hi
  have hc : ∀ i, i ≤ J → co (P i) ≤ 8 := fun i hi => (ok.2 _ (h4 i hi)).2.1
  have scan : ∀ t, i0 + t ≤ J → ∀ K, f_X5_leastColourAgain_L22 (ws, nI (J + 1), 1, nI (P i0)) g (K + t) (nI (co (P i0))) (nI (P (i0 + 1))) 0 = f_X5_leastColourAgain_L22 (ws, nI (J + 1), 1, nI (P i0)) g K (nI (mnc co P i0 t)) (nI (P (i0 + 1 + t))) (nI t) := by
    intro t
    induction t with
    | zero => intro _ K; rfl
    | succ t ih =>
      intro ht K
      have hq := h4 (i0 + 1 + t) (by omega)
      have hl := mnc_le hc hi t (by omega)
      have hd := h5 (i0 + 1 + t) (by omega) i0 (by omega)
      rw [show K + (t + 1) = (K + 1) + t by omega, ih (by omega) (K + 1), f_X5_leastColourAgain_L22]
      rw [if_neg (show ¬ (14 : Int32) ≤ nI t from by rw [show (14 : Int32) = nI 14 from rfl, nI_leI (by omega) (by omega)]; omega), has_in hR hn hq]
      simp only [Option.bind_some, if_neg n10]
      rw [if_neg (show ¬ nI (P (i0 + 1 + t)) = nI (P i0) from by rw [nI_eq (by omega) (by omega)]; exact Ne.symm hd), vg_nI (by omega) (by omega), tn (by omega), (hR.2 _ hq).2.1]
      rw [show f_X5_wayFrom (ws, nI (J + 1), 1, nI (P i0)) (nI (P (i0 + 1 + t))) = some (nI (W (P (i0 + 1 + t)))) from by rw [wayFrom_eq (by omega)]; exact congrArg some (hws _ hq)]
      simp only [Option.bind_some]
      rw [nI_1, ← hP, mnc_s]
      have hcc := hc (i0 + 1 + t) (by omega)
      by_cases e : co (P (i0 + 1 + t)) < mnc co P i0 t
      · rw [if_pos e, if_pos ((nI_lt_iff (by omega) (by omega)).mpr e)]
        rfl
      · rw [if_neg e, if_neg (fun z => e ((nI_lt_iff (by omega) (by omega)).mp z))]
        rfl
  unfold f_X5_leastColourAgain
  show vg (nI (P i0)) 14 _ = _
  rw [vg_nI (by omega) (by omega)]
  rw [show f_X5_wayFrom (ws, nI (J + 1), 1, nI (P i0)) (nI (P i0)) = some (nI (W (P i0))) from by rw [wayFrom_eq (by omega)]; exact congrArg some (hws _ hp0)]
  simp only [Option.bind_some]
  rw [tn (by omega), (hR.2 _ hp0).2.1, ← hP]
  have e1 := scan (J - i0) (by omega) ((m - (J - i0) - 1) + 1)
  rw [show (m - (J - i0) - 1) + 1 + (J - i0) = m by omega] at e1
  have hq : P (i0 + 1 + (J - i0)) = P i0 := by rw [show i0 + 1 + (J - i0) = J + 1 by omega, hP, hw]
  rw [e1, hq, f_X5_leastColourAgain_L22]
  rw [if_neg (show ¬ (14 : Int32) ≤ nI (J - i0) from by rw [show (14 : Int32) = nI 14 from rfl, nI_leI (by omega) (by omega)]; omega), has_in hR hn hp0]
  simp only [Option.bind_some, if_neg n10]
  rw [if_pos trivial]
  rfl
theorem least_model {P : Nat → Nat} {gf : Nat → Int32} {J i0 : Nat} (hM : rM f n ow co ar ch) (ok : okG n ow co ar) (hc7 : ∀ p, p < n → co p ≤ 7) (hJ : J < 14) (hi : i0 ≤ J) (hg : ∀ i, i ≤ J → gf i = nI (P i)) (h4 : ∀ i, i ≤ J → P i < n) (h5 : ∀ i, i ≤ J → ∀ i', i' < i → P i' ≠ P i) (hm : 100 < m) : f_X7_token_L149 f gf (nI (J + 1)) (nI (P i0)) m 8 0 0 = some (nI (mnc co P i0 (J - i0))) := by
  have hn := ok.1
  have hc : ∀ i, i ≤ J → co (P i) ≤ 8 := fun i hi => (ok.2 _ (h4 i hi)).2.1
  have h00 := h4 i0 hi
  have pre : ∀ i, i ≤ i0 → ∀ K, f_X7_token_L149 f gf (nI (J + 1)) (nI (P i0)) (K + i) 8 0 0 = f_X7_token_L149 f gf (nI (J + 1)) (nI (P i0)) K 8 0 (nI i) := by
    intro i
    induction i with
    | zero => intro _ K; rfl
    | succ i ih =>
      intro h K
      have hq := h4 i (by omega)
      rw [show K + (i + 1) = (K + 1) + i by omega, ih (by omega) (K + 1), f_X7_token_L149]
      rw [if_neg (nI_ge (by omega) (by omega)), vg_nI (by omega) (by omega), tn (by omega), hg i (by omega), if_neg (show ¬ nI (P i) = nI (P i0) from by rw [nI_eq (by omega) (by omega)]; exact h5 i0 hi i (by omega))]
      simp only [Option.bind_some]
      rw [if_pos (by decide), nI_1]
      rfl
  have first : ∀ K, f_X7_token_L149 f gf (nI (J + 1)) (nI (P i0)) (K + 1) 8 0 (nI i0) = f_X7_token_L149 f gf (nI (J + 1)) (nI (P i0)) K (nI (mnc co P i0 0)) 1 (nI (i0 + 1)) := by
    intro K
    have hcc := hc7 _ h00
    rw [f_X7_token_L149]
    rw [if_neg (nI_ge (by omega) (by omega)), vg_nI (by omega) (by omega), tn (by omega), hg i0 hi, if_pos rfl]
    simp only [Option.bind_some]
    rw [if_neg (by decide), of1 (by omega), (hM.2 _ h00).2.1]
    simp only [Option.bind_some]
    rw [if_neg (show ¬ (8 : Int32) ≤ nI (co (P i0)) from by rw [show (8 : Int32) = nI 8 from rfl, nI_leI (by omega) (by omega)]; omega), nI_1]
    rfl
  have scan : ∀ t, i0 + t ≤ J → ∀ K, f_X7_token_L149 f gf (nI (J + 1)) (nI (P i0)) (K + t) (nI (mnc co P i0 0)) 1 (nI (i0 + 1)) = f_X7_token_L149 f gf (nI (J + 1)) (nI (P i0)) K (nI (mnc co P i0 t)) 1 (nI (i0 + 1 + t)) := by
    intro t
    induction t with
    | zero => intro _ K; rfl
    | succ t ih =>
      intro ht K
      have hq := h4 (i0 + 1 + t) (by omega)
      have hl := mnc_le hc hi t (by omega)
      have hcc := hc (i0 + 1 + t) (by omega)
      have hd := h5 (i0 + 1 + t) (by omega) i0 (by omega)
      rw [show K + (t + 1) = (K + 1) + t by omega, ih (by omega) (K + 1), f_X7_token_L149]
      rw [if_neg (nI_ge (by omega) (by omega)), vg_nI (by omega) (by omega), tn (by omega), hg _ (by omega), if_neg (show ¬ nI (P (i0 + 1 + t)) = nI (P i0) from by rw [nI_eq (by omega) (by omega)]; exact Ne.symm hd)]
      simp only [Option.bind_some]
      rw [if_neg (by decide), of1 (by omega), (hM.2 _ hq).2.1]
      simp only [Option.bind_some]
      rw [nI_1, mnc_s]
      by_cases e : co (P (i0 + 1 + t)) < mnc co P i0 t
      · rw [if_pos e, if_neg (show ¬ nI (mnc co P i0 t) ≤ nI (co (P (i0 + 1 + t))) from by rw [nI_leI (by omega) (by omega)]; omega)]
        rfl
      · rw [if_neg e, if_pos (show nI (mnc co P i0 t) ≤ nI (co (P (i0 + 1 + t))) from by rw [nI_leI (by omega) (by omega)]; omega)]
        rfl
  have e1 := pre i0 (Nat.le_refl i0) ((m - J - 2) + 1 + (J - i0) + 1)
  rw [show (m - J - 2) + 1 + (J - i0) + 1 + i0 = m by omega, first, scan (J - i0) (by omega) ((m - J - 2) + 1), show i0 + 1 + (J - i0) = J + 1 by omega, f_X7_token_L149, if_pos (nI_le (Nat.le_refl _) (by omega))] at e1
  exact e1
theorem token_core {trial : GG} {meas : EE} {walk : KK} {mg rd : Int32} {ms most nums goes : Nat → Int32} (hs : RS u f) (hm : 1000000 ≤ m) (p1 : Int32) : ∃ q qm, f_X6_token m u trial meas walk p1 = some q ∧ f_X7_token m f mg ms most nums rd goes p1 = some qm ∧ q.1 = qm.1 := by
  obtain ⟨n, ow, co, ar, ch, tk, c, ok, hR, hM⟩ := hs
  have hn := ok.1.1
  unfold f_X6_token f_X7_token
  rcases in_cases p1 4 (by omega) with ⟨x, hx, rfl, x1⟩ | ⟨-, x1, x2⟩
  · have x1 : f_X7_in (nI x) 0 4 = some 1 := x1
    rw [x1, if_neg (nI_not_neg (by omega)), if_pos (show nI x ≤ 4 from nI_le (b := 4) (by omega) (by omega)), hR.2.2.1, hM.2.1]
    simp only [Option.bind_some, if_neg n10]
    rcases ok.2.2.2 with ht | ht
    · rw [ht, has_out hR.1 hn (fun p hp => by rw [Ne, nI_eq (by omega) (by omega)]; omega), if_neg (show ¬ 0 ≤ iT 14 from by decide)]
      exact ⟨_, _, rfl, rfl, rfl⟩
    · obtain ⟨W, W1, W2, W3⟩ := ways (m := m) hR ok hm
      obtain ⟨g, e, kk, k1, k2⟩ := W2 trial meas walk
      have hP : ∀ j, wk W tk (j + 1) = W (wk W tk j) := fun j => rfl
      obtain ⟨kf, l3, l4, t1, t2, t3, t4, t5, gf, y1, y2, J, hJ, j1, j2, j3, j4, j5⟩ := follow2 (P := wk W tk) (ws := kk.1) (m := m) (f := f) hn k2 (fun p hp => (W1 p hp).imp And.left And.left) hP hM.1 W3 n 0 m m goes mg rd ms most nums (by omega) (by omega) (by omega) (fun i hi => by rw [show i = 0 by omega]; exact ht) (fun i hi i' hi' => absurd hi' (by omega)) (fun i hi => absurd hi (by omega))
      have hf : f_X5_follow m kk (nI tk) = some kf := by
        unfold f_X5_follow
        rw [bit_eq (by omega)]
        simp only [Option.bind_some]
        rw [show nI (2 ^ tk) = nI (pth (wk W tk) 1) from by unfold pth; rw [fo_s, fo_0, Nat.zero_or]; rfl]
        rw [show f_X5_follow_L20 m (nI (pth (wk W tk) 1)) (kk.1, 0, 0, nI tk) = some kf from y1]
        rfl
      have y2 : f_X7_token_L50 m f m 0 0 (nI tk) mg ms most nums rd goes = some (l3, l4, t1, t2, t3, t4, t5, gf) := y2
      rw [has_in hR.1 hn ht, iT_lt (by omega), if_pos (nI_pos' (by omega)), k1]
      simp only [Option.bind_some, if_neg n10]
      rw [hf, y2]
      simp only [Option.bind_some]
      have lt16 : ∀ i, i < 15 → (nI (i + 1) - 1 : Int32) = nI i := fun i hi => pk_sub (b := 1) (by omega)
      have hpJ := j3 J (Nat.le_refl J)
      by_cases x0 : x = 0
      · subst x0
        rw [if_pos (show nI 0 = 0 from rfl), if_pos (show nI 0 = 0 from rfl)]
        exact ⟨_, _, rfl, rfl, rfl⟩
      rw [if_neg (show ¬ nI x = 0 from by rw [show (0 : Int32) = nI 0 from rfl, nI_eq (by omega) (by omega)]; exact x0), if_neg (show ¬ nI x = 0 from by rw [show (0 : Int32) = nI 0 from rfl, nI_eq (by omega) (by omega)]; exact x0)]
      rcases j5 with ⟨w1, rfl, rfl⟩ | ⟨i0, w0, w1, rfl, rfl⟩
      · rw [if_pos rfl, j1, lt16 J (by omega)]
        rcases (show x = 1 ∨ x = 2 ∨ x = 3 ∨ x = 4 by omega) with rfl | rfl | rfl | rfl
        · exact ⟨_, _, rfl, rfl, rfl⟩
        · exact ⟨_, _, rfl, rfl, rfl⟩
        · exact ⟨_, _, rfl, rfl, rfl⟩
        · rw [if_neg (show ¬ nI 4 = 1 from by decide), if_neg (show ¬ nI 4 = 2 from by decide), if_neg (show ¬ nI 4 = 3 from by decide), if_pos (show (-5 : Int32) = -5 from rfl), if_neg (show ¬ nI 4 = 1 from by decide), if_pos (show nI 4 = 4 from rfl), vg_nI (by omega) (by omega), tn (by omega), j2 J (Nat.le_refl J), of0 (by omega), (hM.1.2 _ hpJ).1]
          unfold f_X5_winner
          rw [if_pos (show (0 : Int32) = 0 from rfl)]
          show ∃ q qm, ((vg (nI (wk W tk J)) 14 (some (1 - u.1.2.1 (nI (wk W tk J)).toNatClampNeg))).bind fun q12 => some (q12, g, e, (kk.1, nI J, 0, nI (wk W tk J)))) = some q ∧ _
          rw [vg_nI (by omega) (by omega), tn (by omega), (hR.1.2 _ hpJ).1]
          exact ⟨_, _, rfl, rfl, rfl⟩
      · have hp0 := j3 i0 w0
        have lc := least_class (m := m) (ws := kk.1) hR.1 ok.1 k2 hP hJ w0 j3 j4 w1 (by omega)
        have lm := least_model (m := m) hM.1 ok.1 (c7 ok) hJ w0 j2 j3 j4 (by omega)
        rw [if_neg (nI_n5 (by omega)), j1, lm]
        simp only [Option.bind_some]
        rcases (show x = 1 ∨ x = 2 ∨ x = 3 ∨ x = 4 by omega) with rfl | rfl | rfl | rfl
        · exact ⟨_, _, rfl, rfl, rfl⟩
        · rw [lc]
          exact ⟨_, _, rfl, rfl, rfl⟩
        · exact ⟨_, _, rfl, rfl, rfl⟩
        · unfold f_X5_winner
          rw [lc]
          exact ⟨_, _, rfl, rfl, rfl⟩
  · have x1 : f_X7_in p1 0 4 = some 0 := x1
    rw [x1]
    simp only [Option.bind_some]
    by_cases e : p1 < 0
    · rw [if_pos e]
      exact ⟨_, _, rfl, rfl, rfl⟩
    · rw [if_neg e, if_neg (fun e2 : p1 ≤ 4 => by
        rcases x2 with b2 | b2
        · exact e b2
        · exact (I_lt _ _).mp b2 e2)]
      exact ⟨_, _, rfl, rfl, rfl⟩
end TL
