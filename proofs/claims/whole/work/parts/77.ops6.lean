/-! two loops side by side; pivots, weak arrows -/
theorem loop2 {β σ β' σ' : Type} (L : Nat → σ → Int32 → Option β) (L' : Nat → σ' → Int32 → Option β') (R : Nat → σ → σ' → Prop) (n : Nat) (s0 : σ) (s0' : σ') (h0 : R 0 s0 s0')
    (hstep : ∀ k i s s', i < n → R i s s' → ∃ t t', L (k + 1) s (nI i) = L k t (nI (i + 1)) ∧ L' (k + 1) s' (nI i) = L' k t' (nI (i + 1)) ∧ R (i + 1) t t') (m : Nat) (hm : n < m) :
    ∃ s s', R n s s' ∧ L m s0 (nI 0) = L (m - n) s (nI n) ∧ L' m s0' (nI 0) = L' (m - n) s' (nI n) := by
  have key : ∀ i, i ≤ n → ∃ s s', R i s s' ∧ L m s0 (nI 0) = L (m - i) s (nI i) ∧ L' m s0' (nI 0) = L' (m - i) s' (nI i) := by
    intro i
    induction i with
    | zero => intro _; exact ⟨s0, s0', h0, rfl, rfl⟩
    | succ i ih =>
      intro hi
      obtain ⟨s, s', h1, h2, h3⟩ := ih (by omega)
      obtain ⟨t, t', g1, g2, g3⟩ := hstep (m - (i + 1)) i s s' (by omega) h1
      refine ⟨t, t', g3, ?_, ?_⟩
      · rw [h2, ← g1, show m - (i + 1) + 1 = m - i by omega]
      · rw [h3, ← g2, show m - (i + 1) + 1 = m - i by omega]
  exact key n (Nat.le_refl n)
theorem owW_0 (ow : Nat → Nat) : owW 0 ow = ow := funext fun _ => if_pos rfl
theorem coW_0 (co : Nat → Nat) : coW 0 co = co := rfl
theorem uN_uN (g : Nat → Nat) (p v w : Nat) : uN (uN g p v) p w = uN g p w := funext fun q => by
  by_cases e : q = p
  · subst e; rw [uN_s, uN_s]
  · rw [uN_n e, uN_n e, uN_n e]
theorem uN_self (g : Nat → Nat) (p : Nat) : uN g p (g p) = g := funext fun q => by
  by_cases e : q = p
  · subst e; rw [uN_s]
  · rw [uN_n e]
section O7
variable {u : SS} {f : Nat → Int32} {m : Nat}
theorem X3_winner_eq {e : EE} {n : Nat} {mo M : Nat → Nat} (hE : rE e n mo M) (hn : n ≤ 14) {p : Nat} (hp : p < n) (hv : vM (M p)) : f_X3_winner e (nI p) = some (if M p = 65536 then 1 else 0) := by
  unfold f_X3_winner
  rw [isLost_eq hE hn hp hv]
  simp only [Option.bind_some]
  by_cases h : M p = 65536
  · rw [if_pos h, if_neg n10]
  · rw [if_neg h, if_pos rfl]
theorem pivots_core {trial : GG} {meas : EE} {mg rd : Int32} {ms most nums : Nat → Int32} (hs : RS u f) (hm : 1000000 ≤ m) (p1 : Int32) : ∃ q qm, f_X6_pivots m u trial meas p1 = some q ∧ f_X7_pivots m f mg ms most nums rd p1 = some qm ∧ q.1 = qm.1 ∧ RS u qm.2.1 := by
  obtain ⟨n, ow, co, ar, ch, tk, c, ok, hR, hM⟩ := id hs
  have hn := ok.1.1
  unfold f_X6_pivots f_X7_pivots
  rcases pc_cases hR.1 hM.1 hn p1 with ⟨p, hp, rfl, a1, a2⟩ | ⟨-, a1, a2⟩
  · obtain ⟨M, r, hS⟩ := sol_exists (okW (w := 0) ok.1 (c7 ok) (by omega))
    obtain ⟨g1, e1, w1⟩ := winnerOf_eq (u := u) (trial := trial) (meas := meas) hR.1 ok.1 (c7 ok) hS hm hp
    obtain ⟨t, w2⟩ := winner_eq (ms := ms) (most := most) (nums := nums) hM.1 ok.1 (c7 ok) hS hm hp
    obtain ⟨b, b1, b2⟩ := rG_become (o := g1) hR.1 hn
    rw [a1, a2, w1, w2]
    simp only [Option.bind_some, if_neg n10, if_true]
    rw [b1]
    simp only [Option.bind_some]
    generalize hV : (if M p = 65536 then (1 : Int32) else 0) = V
    obtain ⟨s, s', ⟨h1, h2, h3⟩, h4, h5⟩ := loop2 (fun k (s : Int32 × GG × EE) i => f_X6_pivots_L41 m u (nI p) V k s.1 i s.2.1 s.2.2) (fun k (s : Int32 × (Nat → Int32) × Int32 × (Nat → Int32) × (Nat → Int32) × (Nat → Int32) × Int32) i => f_X7_pivots_L21 m (nI p) V k s.1 i s.2.1 s.2.2.1 s.2.2.2.1 s.2.2.2.2.1 s.2.2.2.2.2.1 s.2.2.2.2.2.2) (fun _ s s' => s.1 = s'.1 ∧ rG s.2.1 n ow co ar ∧ rN s'.2.1 n ow co ar ch tk c) n (0, b, e1) (0, f, t.1, t.2.1, t.2.2.1, t.2.2.2.1, t.2.2.2.2) ⟨rfl, b2, hM⟩
      (fun k i s s' hi ⟨h1, h2, h3⟩ => by
        have ho := (ok.1.2 i hi).1
        have ok2 := ok_ow (p := i) (v := 1 - ow i) ok (by omega)
        have hR2 : rG (s.2.1.1, upd s.2.1.2.1 i (nI (1 - ow i)), s.2.1.2.2.1, s.2.1.2.2.2) n (uN ow i (1 - ow i)) co ar := ⟨h2.1, fun q hq => ⟨uI (fun q hq => (h2.2 q hq).1) q hq, (h2.2 q hq).2⟩⟩
        have hM2 := rM_ow (v := 1 - ow i) h3.1 hn hi
        obtain ⟨M2, r2, hS2⟩ := sol_exists ok2.1
        have hS3 : SolP n (owW 0 (uN ow i (1 - ow i))) (coW 0 co) ar M2 r2 := by rw [owW_0, coW_0]; exact hS2
        have hv2 := sol_vM ok2.1 hS2
        obtain ⟨e2, x1, x2, x3⟩ := X3_find_eq (e := s.2.2) hR2 ok2.1 hS2 hm
        obtain ⟨t2, y1⟩ := winner_eq (ms := s'.2.2.2.1) (most := s'.2.2.2.2.1) (nums := s'.2.2.2.2.2.1) hM2 ok2.1 (c7 ok2) hS3 hm hp
        have z1 : (1 - nI (ow i) : Int32) = nI (1 - ow i) := pk_sub (a := 1) (by omega)
        have z2 : (1 - nI (1 - ow i) : Int32) = nI (ow i) := by
          rw [show (1 - nI (1 - ow i) : Int32) = nI (1 - (1 - ow i)) from pk_sub (a := 1) (by omega)]
          congr 1
          omega
        refine ⟨((if (if M2 p = 65536 then (1 : Int32) else 0) = V then s.1 else s.1 ||| nI (2 ^ i)), (s.2.1.1, upd (upd s.2.1.2.1 i (nI (1 - ow i))) i (nI (ow i)), s.2.1.2.2.1, s.2.1.2.2.2), e2), ((if (if M2 p = 65536 then (1 : Int32) else 0) = V then s'.1 else s'.1 ||| nI (2 ^ i)), upd (upd s'.2.1 (4 * i) (nI (1 - ow i))) (4 * i) (nI (ow i)), t2.1, t2.2.1, t2.2.2.1, t2.2.2.2.1, t2.2.2.2.2), ?_, ?_, ?_, ?_, ?_⟩
        · show f_X6_pivots_L41 m u (nI p) V (k + 1) s.1 (nI i) s.2.1 s.2.2 = f_X6_pivots_L41 m u (nI p) V k _ (nI (i + 1)) _ _
          rw [f_X6_pivots_L41, hR.1.1, if_neg (nI_ge hi (by omega)), vg_nI (by omega) (by omega), tn (by omega), (hR.1.2 i hi).1, z1, x1]
          simp only [Option.bind_some]
          rw [X3_winner_eq x2 hn hp (hv2 p hp), nI_1, bit_eq (by omega)]
          simp only [Option.bind_some]
          by_cases hw : (if M2 p = 65536 then (1 : Int32) else 0) = V
          · rw [if_pos hw, if_pos hw]
          · rw [if_neg hw, if_neg hw]
        · show f_X7_pivots_L21 m (nI p) V (k + 1) s'.1 (nI i) s'.2.1 s'.2.2.1 s'.2.2.2.1 s'.2.2.2.2.1 s'.2.2.2.2.2.1 s'.2.2.2.2.2.2 = f_X7_pivots_L21 m (nI p) V k _ (nI (i + 1)) _ _ _ _ _ _
          rw [f_X7_pivots_L21, h3.1.1, if_neg (nI_ge hi (by omega)), of0 (by omega), (h3.1.2 i hi).1]
          simp only [Option.bind_some]
          rw [z1, puts0 (by omega)]
          simp only [Option.bind_some]
          rw [y1]
          simp only [Option.bind_some]
          rw [of0 (by omega), upd_s, jshl_1 (by omega)]
          simp only [Option.bind_some]
          by_cases hw : (if M2 p = 65536 then (1 : Int32) else 0) = V
          · simp only [if_pos hw, Option.bind_some]
            rw [z2, puts0 (by omega), nI_1]
            simp only [Option.bind_some]
            rw [Int32.or_zero]
          · simp only [if_neg hw, Option.bind_some]
            rw [z2, puts0 (by omega), nI_1]
            simp only [Option.bind_some]
        · show (if _ then s.1 else s.1 ||| nI (2 ^ i)) = (if _ then s'.1 else s'.1 ||| nI (2 ^ i))
          rw [h1]
        · refine ⟨h2.1, fun q hq => ⟨?_, (h2.2 q hq).2⟩⟩
          show upd (upd s.2.1.2.1 i (nI (1 - ow i))) i (nI (ow i)) q = _
          by_cases e : q = i
          · subst e; rw [upd_s]
          · rw [upd_n e, upd_n e]; exact (h2.2 q hq).1
        · have h9 := rM_ow (v := ow i) hM2 hn hi
          rw [uN_uN, uN_self] at h9
          refine ⟨h9, ?_, ?_⟩
          · show upd (upd s'.2.1 _ _) _ _ 57 = _
            rw [upd_n (by omega), upd_n (by omega)]; exact h3.2.1
          · show upd (upd s'.2.1 _ _) _ _ 58 = _
            rw [upd_n (by omega), upd_n (by omega)]; exact h3.2.2) m (by omega)
    have h4 : f_X6_pivots_L41 m u (nI p) V m 0 0 b e1 = f_X6_pivots_L41 m u (nI p) V (m - n) s.1 (nI n) s.2.1 s.2.2 := h4
    have h5 : f_X7_pivots_L21 m (nI p) V m 0 0 f t.1 t.2.1 t.2.2.1 t.2.2.2.1 t.2.2.2.2 = f_X7_pivots_L21 m (nI p) V (m - n) s'.1 (nI n) s'.2.1 s'.2.2.1 s'.2.2.2.1 s'.2.2.2.2.1 s'.2.2.2.2.2.1 s'.2.2.2.2.2.2 := h5
    rw [h4, h5, show m - n = (m - n - 1) + 1 by omega, f_X6_pivots_L41, f_X7_pivots_L21, hR.1.1, h3.1.1, if_pos (nI_le (Nat.le_refl n) (by omega)), if_pos (nI_le (Nat.le_refl n) (by omega))]
    exact ⟨_, _, rfl, rfl, h1, ⟨n, ow, co, ar, ch, tk, c, ok, hR, h3⟩⟩
  · rw [a1, a2]
    exact ⟨_, _, rfl, rfl, rfl, hs⟩
theorem okG_ar {n : Nat} {ow co ar : Nat → Nat} (ok : okG n ow co ar) {p v : Nat} (hv : v < 2 ^ n) : okG n ow co (uN ar p v) := by
  refine ⟨ok.1, fun q hq => ?_⟩
  obtain ⟨a, b, d⟩ := ok.2 q hq
  refine ⟨a, b, ?_⟩
  by_cases e : q = p
  · subst e; rw [uN_s]; exact hv
  · rw [uN_n e]; exact d
theorem weak_core {trial : GG} {meas : EE} {mg rd : Int32} {ms most nums : Nat → Int32} (hs : RS u f) (hm : 1000000 ≤ m) (p1 : Int32) : ∃ q qm, f_X6_weakArrows m u trial meas p1 = some q ∧ f_X7_weakArrows m f mg ms most nums rd p1 = some qm ∧ q.1 = qm.1 ∧ RS u qm.2.1 := by
  obtain ⟨n, ow, co, ar, ch, tk, c, ok, hR, hM⟩ := id hs
  have hn := ok.1.1
  unfold f_X6_weakArrows f_X7_weakArrows
  rcases pc_cases hR.1 hM.1 hn p1 with ⟨p, hp, rfl, a1, a2⟩ | ⟨-, a1, a2⟩
  · obtain ⟨M, r, hS⟩ := sol_exists (okW (w := 0) ok.1 (c7 ok) (by omega))
    obtain ⟨g1, e1, w1⟩ := winnerOf_eq (u := u) (trial := trial) (meas := meas) hR.1 ok.1 (c7 ok) hS hm hp
    obtain ⟨t, w2⟩ := winner_eq (ms := ms) (most := most) (nums := nums) hM.1 ok.1 (c7 ok) hS hm hp
    obtain ⟨b, b1, b2⟩ := rG_become (o := g1) hR.1 hn
    have hap := (ok.1.2 p hp).2.2
    rw [a1, a2, w1, w2]
    simp only [Option.bind_some, if_neg n10, if_true]
    rw [b1, of2 (by omega), (hM.1.2 p hp).2.2.1]
    simp only [Option.bind_some]
    generalize hV : (if M p = 65536 then (1 : Int32) else 0) = V
    obtain ⟨s, s', ⟨h1, ⟨v, h2⟩, v', h3⟩, h4, h5⟩ := loop2 (fun k (s : Int32 × GG × EE) i => f_X6_weakArrows_L41 m u (nI p) V k s.1 i s.2.1 s.2.2) (fun k (s : Int32 × (Nat → Int32) × Int32 × (Nat → Int32) × (Nat → Int32) × (Nat → Int32) × Int32) i => f_X7_weakArrows_L29 m (nI p) V (nI (ar p)) k s.1 i s.2.1 s.2.2.1 s.2.2.2.1 s.2.2.2.2.1 s.2.2.2.2.2.1 s.2.2.2.2.2.2) (fun _ s s' => s.1 = s'.1 ∧ (∃ v, rG s.2.1 n ow co (uN ar p v)) ∧ ∃ v, rN s'.2.1 n ow co (uN ar p v) ch tk c) n (0, b, e1) (0, f, t.1, t.2.1, t.2.2.1, t.2.2.2.1, t.2.2.2.2) ⟨rfl, ⟨ar p, by rw [uN_self]; exact b2⟩, ar p, by rw [uN_self]; exact hM⟩
      (fun k i s s' hi ⟨h1, ⟨v, h2⟩, v', h3⟩ => by
        by_cases hb : (ar p).testBit i = true
        · have hx := xor_lt hap hi
          have ok2 := okG_ar (p := p) ok.1 hx
          have hR2 : rG (s.2.1.1, s.2.1.2.1, s.2.1.2.2.1, upd s.2.1.2.2.2 p (nI (ar p ^^^ 2 ^ i))) n ow co (uN ar p (ar p ^^^ 2 ^ i)) := by
            refine ⟨h2.1, fun q hq => ⟨(h2.2 q hq).1, (h2.2 q hq).2.1, ?_⟩⟩
            have := uI (p := p) (v := ar p ^^^ 2 ^ i) (fun q hq => (h2.2 q hq).2.2) q hq
            rw [uN_uN] at this
            exact this
          have hM2 := rM_ar (v := ar p ^^^ 2 ^ i) h3.1 hn hp
          rw [uN_uN] at hM2
          obtain ⟨M2, r2, hS2⟩ := sol_exists ok2
          have hS3 : SolP n (owW 0 ow) (coW 0 co) (uN ar p (ar p ^^^ 2 ^ i)) M2 r2 := by rw [owW_0, coW_0]; exact hS2
          have hv2 := sol_vM ok2 hS2
          obtain ⟨e2, x1, x2, x3⟩ := X3_find_eq (e := s.2.2) hR2 ok2 hS2 hm
          obtain ⟨t2, y1⟩ := winner_eq (ms := s'.2.2.2.1) (most := s'.2.2.2.2.1) (nums := s'.2.2.2.2.2.1) hM2 ok2 (c7 ok) hS3 hm hp
          refine ⟨((if (if M2 p = 65536 then (1 : Int32) else 0) = V then s.1 else s.1 ||| nI (2 ^ i)), (s.2.1.1, s.2.1.2.1, s.2.1.2.2.1, upd s.2.1.2.2.2 p (nI (ar p ^^^ 2 ^ i))), e2), ((if (if M2 p = 65536 then (1 : Int32) else 0) = V then s'.1 else s'.1 ||| nI (2 ^ i)), upd s'.2.1 (4 * p + 2) (nI (ar p ^^^ 2 ^ i)), t2.1, t2.2.1, t2.2.2.1, t2.2.2.2.1, t2.2.2.2.2), ?_, ?_, ?_, ⟨_, hR2⟩, _, hM2, ?_, ?_⟩
          · show f_X6_weakArrows_L41 m u (nI p) V (k + 1) s.1 (nI i) s.2.1 s.2.2 = f_X6_weakArrows_L41 m u (nI p) V k _ (nI (i + 1)) _ _
            rw [f_X6_weakArrows_L41, hR.1.1, if_neg (nI_ge hi (by omega)), leads_eq hR.1 ok.1 hp hi, if_pos hb]
            simp only [Option.bind_some, if_neg n10]
            rw [vg_nI (by omega) (by omega), tn (by omega), bit_eq (by omega), (hR.1.2 p hp).2.2]
            simp only [Option.bind_some]
            rw [nI_not (p31 hn hap) (Nat.pow_lt_pow_right (by omega) (by omega)), xor_out (p31 hn hap) hb, x1]
            simp only [Option.bind_some]
            rw [X3_winner_eq x2 hn hp (hv2 p hp), nI_1]
            simp only [Option.bind_some]
            by_cases hw : (if M2 p = 65536 then (1 : Int32) else 0) = V
            · rw [if_pos hw, if_pos hw]
            · rw [if_neg hw, if_neg hw]
          · show f_X7_weakArrows_L29 m (nI p) V (nI (ar p)) (k + 1) s'.1 (nI i) s'.2.1 s'.2.2.1 s'.2.2.2.1 s'.2.2.2.2.1 s'.2.2.2.2.2.1 s'.2.2.2.2.2.2 = f_X7_weakArrows_L29 m (nI p) V (nI (ar p)) k _ (nI (i + 1)) _ _ _ _ _ _
            rw [f_X7_weakArrows_L29, h3.1.1, if_neg (nI_ge hi (by omega)), if_pos ((bit_iff (p31 hn hap) (by omega)).mpr hb), jshl_1 (by omega), nI_xor, puts2 (by omega)]
            simp only [Option.bind_some]
            rw [y1, nI_1]
            simp only [Option.bind_some]
            by_cases hw : (if M2 p = 65536 then (1 : Int32) else 0) = V
            · rw [if_pos hw, if_pos hw, Int32.or_zero]
            · rw [if_neg hw, if_neg hw]
          · show (if _ then s.1 else s.1 ||| nI (2 ^ i)) = (if _ then s'.1 else s'.1 ||| nI (2 ^ i))
            rw [h1]
          · show upd s'.2.1 _ _ 57 = _
            rw [upd_n (by omega)]; exact h3.2.1
          · show upd s'.2.1 _ _ 58 = _
            rw [upd_n (by omega)]; exact h3.2.2
        · refine ⟨s, s', ?_, ?_, h1, ⟨v, h2⟩, v', h3⟩
          · show f_X6_weakArrows_L41 m u (nI p) V (k + 1) s.1 (nI i) s.2.1 s.2.2 = f_X6_weakArrows_L41 m u (nI p) V k s.1 (nI (i + 1)) s.2.1 s.2.2
            rw [f_X6_weakArrows_L41, hR.1.1, if_neg (nI_ge hi (by omega)), leads_eq hR.1 ok.1 hp hi, if_neg hb, nI_1]
            rfl
          · show f_X7_weakArrows_L29 m (nI p) V (nI (ar p)) (k + 1) s'.1 (nI i) s'.2.1 s'.2.2.1 s'.2.2.2.1 s'.2.2.2.2.1 s'.2.2.2.2.2.1 s'.2.2.2.2.2.2 = f_X7_weakArrows_L29 m (nI p) V (nI (ar p)) k s'.1 (nI (i + 1)) s'.2.1 s'.2.2.1 s'.2.2.2.1 s'.2.2.2.2.1 s'.2.2.2.2.2.1 s'.2.2.2.2.2.2
            rw [f_X7_weakArrows_L29, h3.1.1, if_neg (nI_ge hi (by omega)), if_neg (fun e => hb ((bit_iff (p31 hn hap) (by omega)).mp e)), nI_1]) m (by omega)
    have h4 : f_X6_weakArrows_L41 m u (nI p) V m 0 0 b e1 = f_X6_weakArrows_L41 m u (nI p) V (m - n) s.1 (nI n) s.2.1 s.2.2 := h4
    have h5 : f_X7_weakArrows_L29 m (nI p) V (nI (ar p)) m 0 0 f t.1 t.2.1 t.2.2.1 t.2.2.2.1 t.2.2.2.2 = f_X7_weakArrows_L29 m (nI p) V (nI (ar p)) (m - n) s'.1 (nI n) s'.2.1 s'.2.2.1 s'.2.2.2.1 s'.2.2.2.2.1 s'.2.2.2.2.2.1 s'.2.2.2.2.2.2 := h5
    rw [h4, h5, show m - n = (m - n - 1) + 1 by omega, f_X6_weakArrows_L41, f_X7_weakArrows_L29, hR.1.1, h3.1.1, if_pos (nI_le (Nat.le_refl n) (by omega)), if_pos (nI_le (Nat.le_refl n) (by omega))]
    simp only [Option.bind_some]
    rw [puts2 (by omega)]
    have h9 := rM_ar (v := ar p) h3.1 hn hp
    rw [uN_uN, uN_self] at h9
    refine ⟨_, _, rfl, rfl, h1, ⟨n, ow, co, ar, ch, tk, c, ok, hR, h9, ?_, ?_⟩⟩
    · show upd s'.2.1 _ _ 57 = _
      rw [upd_n (by omega)]; exact h3.2.1
    · show upd s'.2.1 _ _ 58 = _
      rw [upd_n (by omega)]; exact h3.2.2
  · rw [a1, a2]
    exact ⟨_, _, rfl, rfl, rfl, hs⟩
end O7
