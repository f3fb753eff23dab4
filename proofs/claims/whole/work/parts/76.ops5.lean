/-! chooseWell, count -/
section O6
variable {u : SS} {f : Nat → Int32} {m : Nat}
def cwF (ow : Nat → Nat) (pl : Nat) (B : Nat → Nat) (p : Nat) (a : Nat × (Nat → Nat)) : Nat × (Nat → Nat) := if ow p = pl then (if B p = 14 then a.1 else a.1 + 1, uN a.2 p (B p)) else a
theorem owW_pl {ow : Nat → Nat} {pl p : Nat} (ho : ow p < 2) (hp : pl < 2) (h : ow p = pl) : owW pl ow p = 0 := by
  unfold owW
  rcases (show pl = 0 ∨ pl = 1 by omega) with e | e
  · rw [if_pos e]; omega
  · rw [if_neg (by omega)]; omega
theorem cw_ok {n : Nat} {ow co ar ch : Nat → Nat} {tk pl : Nat} {B : Nat → Nat} (ok : okS n ow co ar ch tk) (hB : ∀ p, p < n → ow p = pl → B p = 14 ∨ (B p < n ∧ (ar p).testBit (B p) = true)) : ∀ i, i ≤ n → okS n ow co ar (fo (cwF ow pl B) i (0, ch)).2 tk := by
  intro i
  induction i with
  | zero => intro _; exact ok
  | succ i ih =>
    intro hi
    rw [fo_s]
    unfold cwF
    by_cases e : ow i = pl
    · rw [if_pos e]
      exact ok_ch (ih (by omega)) (hB i (by omega) e)
    · rw [if_neg e]
      exact ih (by omega)
theorem chooseWell_core {h : HH} {mh : Nat → Int32} {mk : Int32} {trial : GG} {meas : EE} {mg rd : Int32} {ms most nums : Nat → Int32} (hs : RS u f) (hh : RH h mh mk) (hm : 1000000 ≤ m) (p1 : Int32) : ∃ q qm, f_X6_chooseWell m u h trial meas p1 = some q ∧ f_X7_chooseWell m f mh mk mg ms most nums rd p1 = some qm ∧ q.1 = qm.1 ∧ RS q.2.1 qm.2.1 ∧ RH q.2.2.1 qm.2.2.1 qm.2.2.2.1 := by
  obtain ⟨h', mh', mk', r1, r2, r3⟩ := rem_eq hh hs (m := m) (by omega)
  obtain ⟨n, ow, co, ar, ch, tk, c, ok, hR, hM⟩ := id hs
  have hn := ok.1.1
  unfold f_X6_chooseWell f_X7_chooseWell
  rcases pl_cases p1 with ⟨a, ha, rfl, a1, -, a3⟩ | ⟨a1, -, a3⟩
  · have ok' := okW (w := a) ok.1 (c7 ok) ha
    obtain ⟨M, r, hS⟩ := sol_exists ok'
    have hv := sol_vM ok' hS
    have hle : ∀ k, k < 4 → moN n (coW a co) k ≤ 14 := fun k _ => Nat.le_trans (moN_le n _ k) hn
    obtain ⟨g1, e1, w1, w2, w3, w4⟩ := solveFor_eq (u := u) (trial := trial) (meas := meas) hR.1 ok.1 (c7 ok) ha hS hm
    obtain ⟨ms', most', nums', v1, v2, v3⟩ := X7_finds_eq (ms := ms) (most := most) (nums := nums) hM.1 ok.1 (c7 ok) ha hS hm
    have hB : ∀ p, p < n → ow p = a → bsN n (coW a co) ar (moN n (coW a co)) M p = 14 ∨ (bsN n (coW a co) ar (moN n (coW a co)) M p < n ∧ (ar p).testBit (bsN n (coW a co) ar (moN n (coW a co)) M p) = true) := fun p hp e => (bs_lost ok' hS hp (owW_pl (ok.1.2 p hp).1 ha e)).imp And.right And.right
    have hBest : ∀ p, p < n → ow p = a → f_X3_bestArrow m e1 g1 (nI p) = some (nI (bsN n (coW a co) ar (moN n (coW a co)) M p)) := fun p hp e => X3_best_eq w2 ok' w3 hle hv (by omega) hp (owW_pl (ok.1.2 p hp).1 ha e)
    have hCh : ∀ (f' nums : Nat → Int32) (ch' : Nat → Nat) (p : Nat), rM f' n ow co ar ch' → p < n → ow p = a → ∃ nums2, f_X7_choiceAt m f' (nI a) ms' most' nums (nI p) = some (i14 (bsN n (coW a co) ar (moN n (coW a co)) M p), nums2) := fun f' nums ch' p hM' hp e => X7_choice_eq (m := m) (nums := nums) hM' ok.1 (c7 ok) ha hS v2 v3 (by omega) hp (owW_pl (ok.1.2 p hp).1 ha e)
    generalize bsN n (coW a co) ar (moN n (coW a co)) M = B at hB hBest hCh
    obtain ⟨s, ⟨s1, s2⟩, s3⟩ := loop_rel (fun k (s : Int32 × SS) i => f_X6_chooseWell_L29 m g1 e1 (nI a) k s.1 i s.2) (fun i (x : Nat × (Nat → Nat)) s => s.1 = nI x.1 ∧ rS s.2 n ow co ar x.2 tk c) (cwF ow a B) n (0, ch) (0, u) ⟨rfl, hR⟩
      (fun k i s hi ⟨h1, h2⟩ => by
        have ho := (ok.1.2 i hi).1
        by_cases e : ow i = a
        · have hb := hB i hi e
          have key : f_X6_chooseWell_L29 m g1 e1 (nI a) (k + 1) s.1 (nI i) s.2 = f_X6_chooseWell_L29 m g1 e1 (nI a) k (nI (if B i = 14 then (fo (cwF ow a B) i (0, ch)).1 else (fo (cwF ow a B) i (0, ch)).1 + 1)) (nI (i + 1)) (s.2.1, upd s.2.2.1 i (nI (B i)), s.2.2.2.1, s.2.2.2.2) := by
            rw [f_X6_chooseWell_L29, h2.1.1, if_neg (nI_ge hi (by omega)), vg_nI (by omega) (by omega), tn (by omega), (h2.1.2 i hi).1, if_pos (by rw [e]), hBest i hi e]
            simp only [Option.bind_some]
            rw [upd_s, h1, nI_1, nI_1]
            by_cases e2 : B i = 14
            · rw [if_pos (show nI (B i) = 14 from by rw [e2]; rfl), if_pos e2, show (0 : Int32) = nI 0 from rfl, nI_add]
              rfl
            · rw [if_neg (show ¬ nI (B i) = 14 from by rw [show (14 : Int32) = nI 14 from rfl, nI_eq (by omega) (by omega)]; exact e2), if_neg e2]
          refine ⟨(_, _), key, ?_, ?_⟩
          · show nI _ = nI (cwF ow a B i _).1
            unfold cwF
            rw [if_pos e]
          · show rS _ n ow co ar (cwF ow a B i _).2 tk c
            rw [show (cwF ow a B i (fo (cwF ow a B) i (0, ch))).2 = uN (fo (cwF ow a B) i (0, ch)).2 i (B i) from by unfold cwF; rw [if_pos e]]
            exact ⟨h2.1, fun q hq => uI (fun q hq => h2.2.1 q hq) q hq, h2.2.2⟩
        · refine ⟨s, ?_, ?_⟩
          · show f_X6_chooseWell_L29 m g1 e1 (nI a) (k + 1) s.1 (nI i) s.2 = f_X6_chooseWell_L29 m g1 e1 (nI a) k s.1 (nI (i + 1)) s.2
            rw [f_X6_chooseWell_L29, h2.1.1, if_neg (nI_ge hi (by omega)), vg_nI (by omega) (by omega), tn (by omega), (h2.1.2 i hi).1, if_neg (by rw [nI_eq (by omega) (by omega)]; exact e), nI_1]
          · rw [show cwF ow a B i (fo (cwF ow a B) i (0, ch)) = fo (cwF ow a B) i (0, ch) from by unfold cwF; rw [if_neg e]]
            exact ⟨h1, h2⟩) m (by omega)
    obtain ⟨t, ⟨t1, t2⟩, t3⟩ := loop_rel (fun k (s : Int32 × (Nat → Int32) × (Nat → Int32)) i => f_X7_chooseWell_L22 m (nI a) ms' most' (nI a) k s.1 i s.2.1 s.2.2) (fun i (x : Nat × (Nat → Nat)) s => s.1 = nI x.1 ∧ rN s.2.1 n ow co ar x.2 tk c) (cwF ow a B) n (0, ch) (0, f, nums') ⟨rfl, hM⟩
      (fun k i s hi ⟨h1, h2⟩ => by
        have ho := (ok.1.2 i hi).1
        by_cases e : ow i = a
        · have hb := hB i hi e
          obtain ⟨nums2, hc2⟩ := hCh s.2.1 s.2.2 _ i h2.1 hi e
          have key : f_X7_chooseWell_L22 m (nI a) ms' most' (nI a) (k + 1) s.1 (nI i) s.2.1 s.2.2 = f_X7_chooseWell_L22 m (nI a) ms' most' (nI a) k (nI (if B i = 14 then (fo (cwF ow a B) i (0, ch)).1 else (fo (cwF ow a B) i (0, ch)).1 + 1)) (nI (i + 1)) (upd s.2.1 (4 * i + 3) (nI (B i))) nums2 := by
            rw [f_X7_chooseWell_L22, h2.1.1, if_neg (nI_ge hi (by omega)), of0 (by omega), (h2.1.2 i hi).1]
            simp only [Option.bind_some]
            rw [if_pos (by rw [e]), hc2]
            simp only [Option.bind_some]
            unfold i14
            by_cases e2 : B i = 14
            · simp only [if_pos e2, if_true]
              simp only [Option.bind_some]
              rw [puts3 (by omega)]
              simp only [Option.bind_some]
              rw [h1, nI_1, show (0 : Int32) = nI 0 from rfl, nI_add, e2]
              rfl
            · have n5 : ¬ nI (B i) = -5 := by
                intro e5
                have h9 := congrArg Int32.toInt e5
                rw [nI_toInt (by omega), show (-5 : Int32).toInt = -5 from by decide] at h9
                omega
              simp only [if_neg e2, if_neg n5]
              simp only [Option.bind_some]
              rw [puts3 (by omega)]
              simp only [Option.bind_some]
              rw [h1, nI_1, nI_1]
          refine ⟨(_, _, _), key, ?_, ?_⟩
          · show nI _ = nI (cwF ow a B i _).1
            unfold cwF
            rw [if_pos e]
          · show rN (upd s.2.1 (4 * i + 3) (nI (B i))) n ow co ar (cwF ow a B i _).2 tk c
            rw [show (cwF ow a B i (fo (cwF ow a B) i (0, ch))).2 = uN (fo (cwF ow a B) i (0, ch)).2 i (B i) from by unfold cwF; rw [if_pos e]]
            refine ⟨rM_ch h2.1 hn hi, ?_, ?_⟩
            · rw [upd_n (by omega)]; exact h2.2.1
            · rw [upd_n (by omega)]; exact h2.2.2
        · refine ⟨s, ?_, ?_⟩
          · show f_X7_chooseWell_L22 m (nI a) ms' most' (nI a) (k + 1) s.1 (nI i) s.2.1 s.2.2 = f_X7_chooseWell_L22 m (nI a) ms' most' (nI a) k s.1 (nI (i + 1)) s.2.1 s.2.2
            rw [f_X7_chooseWell_L22, h2.1.1, if_neg (nI_ge hi (by omega)), of0 (by omega), (h2.1.2 i hi).1]
            simp only [Option.bind_some]
            rw [if_neg (by rw [nI_eq (by omega) (by omega)]; exact e), nI_1]
          · rw [show cwF ow a B i (fo (cwF ow a B) i (0, ch)) = fo (cwF ow a B) i (0, ch) from by unfold cwF; rw [if_neg e]]
            exact ⟨h1, h2⟩) m (by omega)
    have s3 : f_X6_chooseWell_L29 m g1 e1 (nI a) m 0 0 u = f_X6_chooseWell_L29 m g1 e1 (nI a) (m - n) s.1 (nI n) s.2 := s3
    have t3 : f_X7_chooseWell_L22 m (nI a) ms' most' (nI a) m 0 0 f nums' = f_X7_chooseWell_L22 m (nI a) ms' most' (nI a) (m - n) t.1 (nI n) t.2.1 t.2.2 := t3
    have s4 : f_X6_chooseWell_L29 m g1 e1 (nI a) (m - n) s.1 (nI n) s.2 = some (s.1, s.2) := by
      rw [show m - n = (m - n - 1) + 1 by omega, f_X6_chooseWell_L29, s2.1.1, if_pos (nI_le (Nat.le_refl n) (by omega))]
    have t4 : f_X7_chooseWell_L22 m (nI a) ms' most' (nI a) (m - n) t.1 (nI n) t.2.1 t.2.2 = some (t.1, t.2.1, t.2.2) := by
      rw [show m - n = (m - n - 1) + 1 by omega, f_X7_chooseWell_L22, t2.1.1, if_pos (nI_le (Nat.le_refl n) (by omega))]
    rw [a1, a3, r1, r2]
    simp only [Option.bind_some, if_neg n10, if_true]
    rw [w1, v1]
    simp only [Option.bind_some]
    rw [s3, s4, t3, t4]
    exact ⟨_, _, rfl, rfl, s1.trans t1.symm, ⟨n, ow, co, ar, _, tk, c, cw_ok ok hB n (Nat.le_refl n), s2, t2⟩, r3⟩
  · rw [a1, a3]
    exact ⟨_, _, rfl, rfl, rfl, hs, hh⟩
theorem pc_so (P : Nat → Bool) : ∀ n, n ≤ 14 → pc (so P n) = fo (fun p c => if P p = true then c + 1 else c) n 0 := by
  intro n
  induction n with
  | zero => intro _; show pc 0 = 0; decide
  | succ n ih =>
    intro hn
    rw [fo_s, show so P (n + 1) = if P n = true then so P n ||| 2 ^ n else so P n from by unfold so; rw [fo_s], ← ih (by omega)]
    by_cases e : P n = true
    · rw [if_pos e, if_pos e, pc_or (by rw [so_bit]; simp) (by omega)]
    · rw [if_neg e, if_neg e]
def lcF (co : Nat → Nat) (p : Nat) (a : Int32) : Int32 := if a = -5 then nI (co p) else if a ≤ nI (co p) then a else nI (co p)
theorem X1_least_eq {n : Nat} {ow co ar : Nat → Nat} {g : GG} (hR : rG g n ow co ar) (ok : okG n ow co ar) (hm : 20 < m) : f_X1_leastColour m g = some (fo (lcF co) n (-5)) := by
  have hn := ok.1
  unfold f_X1_leastColour
  have := loop_fo (fun k (a : Int32) i => f_X1_leastColour_L5 g k a i) id id (lcF co) n (-5)
    (fun k => by
      show f_X1_leastColour_L5 g (k + 1) _ _ = _
      rw [f_X1_leastColour_L5, hR.1, if_pos (nI_le (Nat.le_refl n) (by omega))])
    (fun k i hi => by
      show f_X1_leastColour_L5 g (k + 1) (fo (lcF co) i (-5)) _ = f_X1_leastColour_L5 g k (lcF co i (fo (lcF co) i (-5))) _
      generalize fo (lcF co) i (-5) = a
      rw [f_X1_leastColour_L5, hR.1, if_neg (nI_ge hi (by omega)), vg_nI (by omega) (by omega), vg_nI (by omega) (by omega), tn (by omega), (hR.2 i hi).2.1, nI_1]
      unfold lcF
      by_cases e : a = -5
      · rw [if_pos e, if_pos e]
      · rw [if_neg e, if_neg e]
        by_cases e2 : a ≤ nI (co i)
        · rw [if_pos e2, if_pos e2]
        · rw [if_neg e2, if_neg e2]) m (by omega)
  have h0 : f_X1_leastColour_L5 g m (-5) 0 = some (fo (lcF co) n (-5)) := this
  rw [h0]
  rfl
theorem X7_least_eq {n : Nat} {ow co ar ch : Nat → Nat} (hM : rM f n ow co ar ch) (ok : okG n ow co ar) (hm : 20 < m) : f_X7_leastColour m f = some (fo (lcF co) n (-5)) := by
  have hn := ok.1
  unfold f_X7_leastColour
  have := loop_fo (fun k (a : Int32) i => f_X7_leastColour_L5 f k a i) id id (lcF co) n (-5)
    (fun k => by
      show f_X7_leastColour_L5 f (k + 1) _ _ = _
      rw [f_X7_leastColour_L5, hM.1, if_pos (nI_le (Nat.le_refl n) (by omega))])
    (fun k i hi => by
      show f_X7_leastColour_L5 f (k + 1) (fo (lcF co) i (-5)) _ = f_X7_leastColour_L5 f k (lcF co i (fo (lcF co) i (-5))) _
      generalize fo (lcF co) i (-5) = a
      rw [f_X7_leastColour_L5, hM.1, if_neg (nI_ge hi (by omega)), of1 (by omega), (hM.2 i hi).2.1, nI_1]
      simp only [Option.bind_some]
      unfold lcF
      by_cases e : a = -5
      · rw [if_pos e, if_pos e]
      · rw [if_neg e, if_neg e]
        by_cases e2 : a ≤ nI (co i)
        · rw [if_pos e2, if_pos e2]
        · rw [if_neg e2, if_neg e2]) m (by omega)
  have h0 : f_X7_leastColour_L5 f m (-5) 0 = some (fo (lcF co) n (-5)) := this
  rw [h0]
  rfl
theorem that_eq {n : Nat} {ow co ar ch : Nat → Nat} {x : Int32} {P : Nat → Bool} (hM : rM f n ow co ar ch) (hn : n ≤ 14) (hP : ∀ i, i < n → ((if x = 2 then (f_X7_of f (nI i) 0).bind fun q11 => (if q11 = 0 then some (1) else some (0)) else (if x = 3 then (f_X7_of f (nI i) 2).bind fun q9 => (if q9 = 0 then some (1) else some (0)) else (f_X7_of f (nI i) 3).bind fun q7 => (if 14 ≤ q7 then some (0) else some (1)))) : Option Int32) = some (if P i = true then 1 else 0)) (hm : 20 < m) : f_X7_placesThat m f x = some (nI (so P n)) := by
  unfold f_X7_placesThat
  have := loop_fo (fun k (a : Int32) i => f_X7_placesThat_L4 f x k a i) nI nI (fun p s => if P p = true then s ||| 2 ^ p else s) n 0
    (fun k => by
      show f_X7_placesThat_L4 f x (k + 1) _ _ = _
      rw [f_X7_placesThat_L4, hM.1, if_pos (nI_le (Nat.le_refl n) (by omega))])
    (fun k i hi => by
      show f_X7_placesThat_L4 f x (k + 1) _ _ = f_X7_placesThat_L4 f x k _ _
      rw [f_X7_placesThat_L4, hM.1, if_neg (nI_ge hi (by omega)), hP i hi]
      simp only [Option.bind_some]
      rw [jshl_1 (by omega), nI_or, nI_1]
      by_cases h : P i = true
      · rw [if_pos h, if_pos h, if_neg n10]
      · rw [if_neg h, if_neg h, if_pos rfl, show (0 : Int32) = nI 0 from rfl, nI_or, Nat.or_zero]) m (by omega)
  have h0 : f_X7_placesThat_L4 f x m 0 0 = some (nI (so P n)) := this
  rw [h0]
  rfl
theorem choiceCount_eq {n : Nat} {ow co ar ch : Nat → Nat} {tk : Nat} {c : Int32} (hR : rS u n ow co ar ch tk c) (ok : okS n ow co ar ch tk) (hm : 20 < m) : f_X4_choiceCount m u = some (nI (fo (fun p c => if (!(ch p == 14)) = true then c + 1 else c) n 0)) := by
  have hn := ok.1.1
  unfold f_X4_choiceCount
  have := loop_fo (fun k (a : Int32) i => f_X4_choiceCount_L4 u k a i) nI nI (fun p c => if (!(ch p == 14)) = true then c + 1 else c) n 0
    (fun k => by
      show f_X4_choiceCount_L4 u (k + 1) _ _ = _
      rw [f_X4_choiceCount_L4, hR.1.1, if_pos (nI_le (Nat.le_refl n) (by omega))])
    (fun k i hi => by
      show f_X4_choiceCount_L4 u (k + 1) _ _ = f_X4_choiceCount_L4 u k _ _
      have hch : ch i ≤ 14 := by rcases (ok.2.1 i hi).2 with e | e <;> omega
      rw [f_X4_choiceCount_L4, hR.1.1, if_neg (nI_ge hi (by omega)), vg_nI (by omega) (by omega), tn (by omega), hR.2.1 i hi, nI_1, nI_1]
      by_cases h : ch i = 14
      · rw [if_pos (show nI (ch i) = 14 from by rw [h]; rfl), if_neg (by simp [h]), show (0 : Int32) = nI 0 from rfl, nI_add]
        rfl
      · rw [if_neg (show ¬ nI (ch i) = 14 from by rw [show (14 : Int32) = nI 14 from rfl, nI_eq (by omega) (by omega)]; exact h), if_pos (by simp [h])]) m (by omega)
  have h0 : f_X4_choiceCount_L4 u m 0 0 = _ := this
  rw [h0]
  rfl
theorem count_core {h : HH} {mh : Nat → Int32} {mk : Int32} {t : TT} {k : Int32} {g : Nat → Int32} (hs : RS u f) (hh : RH h mh mk) (ht : RT t k g) (hm : 1000000 ≤ m) (p1 : Int32) : ∃ v, f_X6_count m u h t p1 = some v ∧ f_X7_count m f mk k p1 = some v := by
  obtain ⟨n, ow, co, ar, ch, tk, c, ok, hR, hM⟩ := hs
  have hn := ok.1.1
  unfold f_X6_count f_X7_count
  by_cases c0 : p1 = 0
  · rw [if_pos c0, if_pos c0, hR.1.1, hM.1.1]
    exact ⟨_, rfl, rfl⟩
  rw [if_neg c0, if_neg c0]
  by_cases c1 : p1 = 1
  · rw [if_pos c1, if_pos c1, X1_arrowCount_eq hR.1 ok.1 (by omega), X7_arrows_eq hM.1 ok.1 (by omega)]
    exact ⟨_, rfl, rfl⟩
  rw [if_neg c1, if_neg c1]
  by_cases c2 : p1 = 2
  · have h1 := owned_eq (m := m) (pl := 0) hR.1 ok.1 (by omega) (by omega)
    have h1 : f_X1_owned m u.1 0 = _ := h1
    have h2 := that_eq (m := m) (x := 2) (P := fun p => ow p == 0) hM.1 hn (fun i hi => by
      rw [if_pos rfl, of0 (by omega), (hM.1.2 i hi).1]
      simp only [Option.bind_some]
      have ho := (ok.1.2 i hi).1
      by_cases e : ow i = 0
      · rw [if_pos (show nI (ow i) = 0 from by rw [e]; rfl), if_pos (by simp [e])]
      · rw [if_neg (show ¬ nI (ow i) = 0 from by rw [show (0 : Int32) = nI 0 from rfl, nI_eq (by omega) (by omega)]; exact e), if_neg (by simp [e])]) (by omega)
    have hl := so_lt (fun p => ow p == 0) n
    rw [if_pos c2, if_pos c2, h1, h2]
    simp only [Option.bind_some]
    rw [X7_bits_eq (p31 hn hl) (by omega), bc_some, bcI_eq (lt14 hn hl)]
    exact ⟨_, rfl, rfl⟩
  rw [if_neg c2, if_neg c2]
  by_cases c3 : p1 = 3
  · have h1 := withoutArrows_eq (m := m) hR.1 ok.1 (by omega)
    have h2 := that_eq (m := m) (x := 3) (P := fun p => ar p == 0) hM.1 hn (fun i hi => by
      rw [if_neg (by decide), if_pos rfl, of2 (by omega), (hM.1.2 i hi).2.2.1]
      simp only [Option.bind_some]
      have ho := p31 hn (ok.1.2 i hi).2.2
      by_cases e : ar i = 0
      · rw [if_pos (show nI (ar i) = 0 from by rw [e]; rfl), if_pos (by simp [e])]
      · rw [if_neg (show ¬ nI (ar i) = 0 from fun z => e ((nI_z (by omega)).mp z)), if_neg (by simp [e])]) (by omega)
    rw [if_pos c3, if_pos c3, h1, h2]
    exact ⟨_, rfl, rfl⟩
  rw [if_neg c3, if_neg c3]
  by_cases c4 : p1 = 4
  · rw [if_pos c4, if_pos c4, X1_least_eq hR.1 ok.1 (by omega), X7_least_eq hM.1 ok.1 (by omega)]
    exact ⟨_, rfl, rfl⟩
  rw [if_neg c4, if_neg c4]
  by_cases c5 : p1 = 5
  · have h2 := that_eq (m := m) (x := 5) (P := fun p => !(ch p == 14)) hM.1 hn (fun i hi => by
      rw [if_neg (by decide), if_neg (by decide), of3 (by omega), (hM.1.2 i hi).2.2.2]
      simp only [Option.bind_some]
      have hch : ch i ≤ 14 := by rcases (ok.2.1 i hi).2 with e | e <;> omega
      by_cases e : ch i = 14
      · rw [if_pos (show (14 : Int32) ≤ nI (ch i) from by rw [e]; decide), if_neg (by simp [e])]
      · rw [if_neg (show ¬ (14 : Int32) ≤ nI (ch i) from by rw [show (14 : Int32) = nI 14 from rfl, nI_leI (by omega) (by omega)]; omega), if_pos (by simp [e])]) (by omega)
    have hl := so_lt (fun p => !(ch p == 14)) n
    rw [if_pos c5, if_pos c5, h2, choiceCount_eq hR ok (by omega)]
    simp only [Option.bind_some]
    rw [X7_bits_eq (p31 hn hl) (by omega), pc_so _ n hn]
    exact ⟨_, rfl, rfl⟩
  rw [if_neg c5, if_neg c5]
  by_cases c6 : p1 = 6
  · rw [if_pos c6, if_pos c6, hR.2.2.2, hM.2.2]
    exact ⟨_, rfl, rfl⟩
  rw [if_neg c6, if_neg c6]
  by_cases c8 : p1 = 7
  · obtain ⟨j, -, j1, j2, -⟩ := hh
    rw [if_pos c8, if_pos c8, j1, j2]
    exact ⟨_, rfl, rfl⟩
  rw [if_neg c8, if_neg c8]
  by_cases c9 : p1 = 8
  · obtain ⟨j, -, j1, j2, -⟩ := ht
    rw [if_pos c9, if_pos c9, j1, j2]
    exact ⟨_, rfl, rfl⟩
  rw [if_neg c9, if_neg c9]
  exact ⟨_, rfl, rfl⟩
end O6
