/-! states, the history, the snapshot -/
def iT (tk : Nat) : Int32 := if tk = 14 then -1 else nI tk
def okS (n : Nat) (ow co ar ch : Nat → Nat) (tk : Nat) : Prop := okG n ow co ar ∧ (∀ p, p < n → co p ≤ 7 ∧ (ch p = 14 ∨ (ch p < n ∧ (ar p).testBit (ch p) = true))) ∧ cntN n ar ≤ 60 ∧ (tk = 14 ∨ tk < n)
def rS (u : SS) (n : Nat) (ow co ar ch : Nat → Nat) (tk : Nat) (c : Int32) : Prop := rG u.1 n ow co ar ∧ (∀ p, p < n → u.2.1 p = nI (ch p)) ∧ u.2.2.1 = nI tk ∧ u.2.2.2 = c
def rN (f : Nat → Int32) (n : Nat) (ow co ar ch : Nat → Nat) (tk : Nat) (c : Int32) : Prop := rM f n ow co ar ch ∧ f 57 = iT tk ∧ f 58 = c
def RS (u : SS) (f : Nat → Int32) : Prop := ∃ n ow co ar ch tk c, okS n ow co ar ch tk ∧ rS u n ow co ar ch tk c ∧ rN f n ow co ar ch tk c
/-- states that agree where it counts -/
def eqS (u v : SS) : Prop := v.1.1 = u.1.1 ∧ (∀ p, p < 14 → v.1.2.1 p = u.1.2.1 p ∧ v.1.2.2.1 p = u.1.2.2.1 p ∧ v.1.2.2.2 p = u.1.2.2.2 p ∧ v.2.1 p = u.2.1 p) ∧ v.2.2.1 = u.2.2.1 ∧ v.2.2.2 = u.2.2.2
theorem cp14_eq {f g : Nat → Int32} {p : Nat} (h : p < 14) : cp14 f g p = f p := by
  unfold cp14 va_cpy
  rw [if_pos ⟨Nat.zero_le _, by omega⟩]
  congr 1
  omega
theorem become_eq (o u : SS) : ∃ b, f_X4_become o u = some b ∧ eqS u b := by
  refine ⟨_, rfl, rfl, fun p hp => ⟨cp14_eq hp, cp14_eq hp, cp14_eq hp, cp14_eq hp⟩, rfl, rfl⟩
theorem rG_become {o g : GG} {n : Nat} {ow co ar : Nat → Nat} (hR : rG g n ow co ar) (hn : n ≤ 14) : ∃ b, f_X1_become o g = some b ∧ rG b n ow co ar := by
  refine ⟨_, rfl, hR.1, fun p hp => ?_⟩
  show cp14 _ _ p = _ ∧ cp14 _ _ p = _ ∧ cp14 _ _ p = _
  rw [cp14_eq (by omega), cp14_eq (by omega), cp14_eq (by omega)]
  exact hR.2 p hp
theorem rS_eqS {u v : SS} {n : Nat} {ow co ar ch : Nat → Nat} {tk : Nat} {c : Int32} (h : rS u n ow co ar ch tk c) (e : eqS u v) (hn : n ≤ 14) : rS v n ow co ar ch tk c := by
  obtain ⟨⟨h1, h2⟩, h3, h4, h5⟩ := h
  obtain ⟨e1, e2, e3, e4⟩ := e
  refine ⟨⟨by rw [e1]; exact h1, fun p hp => ?_⟩, fun p hp => ?_, by rw [e3]; exact h4, by rw [e4]; exact h5⟩
  · obtain ⟨a, b, d, -⟩ := e2 p (by omega)
    rw [a, b, d]
    exact h2 p hp
  · obtain ⟨-, -, -, d⟩ := e2 p (by omega)
    rw [d]
    exact h3 p hp
theorem rM_eq {f g : Nat → Int32} {n : Nat} {ow co ar ch : Nat → Nat} (h : rM f n ow co ar ch) (hn : n ≤ 14) (e : ∀ i, i < 59 → g i = f i) : rM g n ow co ar ch := by
  refine ⟨by rw [e 56 (by omega)]; exact h.1, fun p hp => ?_⟩
  rw [e (4 * p) (by omega), e (4 * p + 1) (by omega), e (4 * p + 2) (by omega), e (4 * p + 3) (by omega)]
  exact h.2 p hp
theorem RS_eq {u v : SS} {f g : Nat → Int32} (h : RS u f) (e : eqS u v) (e2 : ∀ i, i < 59 → g i = f i) : RS v g := by
  obtain ⟨n, ow, co, ar, ch, tk, c, ok, h1, h2, h3, h4⟩ := h
  exact ⟨n, ow, co, ar, ch, tk, c, ok, rS_eqS h1 e ok.1.1, rM_eq h2 ok.1.1 e2, by rw [e2 57 (by omega)]; exact h3, by rw [e2 58 (by omega)]; exact h4⟩
theorem eqS_rf (u : SS) : eqS u u := ⟨rfl, fun _ _ => ⟨rfl, rfl, rfl, rfl⟩, rfl, rfl⟩
def RH (h : HH) (mh : Nat → Int32) (mk : Int32) : Prop := ∃ k, k ≤ 4 ∧ h.2 = nI k ∧ mk = nI k ∧ ∀ j, j < k → RS (h.1 j).1 (fun i => mh (59 * j + i))
theorem ix59 {k i : Nat} : (59 * nI k + nI i : Int32) = nI (59 * k + i) := by rw [show (59 : Int32) = nI 59 from rfl, pk_mul, nI_add]
/-- the model's record, in the large: rows move on if it is full, and one comes -/
theorem X7_record_eq {m : Nat} {f mh : Nat → Int32} {k : Nat} (hk : k ≤ 4) (hm : 300 < m) : ∃ mh', f_X7_record m f mh (nI k) = some (mh', nI ((if k = 4 then 3 else k) + 1)) ∧ (∀ j i, j < (if k = 4 then 3 else k) → i < 59 → mh' (59 * j + i) = mh (59 * (if k = 4 then j + 1 else j) + i)) ∧ ∀ i, i < 59 → mh' (59 * (if k = 4 then 3 else k) + i) = f i := by
  unfold f_X7_record
  have e1 : ∃ g, ((if nI k = 4 then (f_X7_record_L10 m 0 mh).bind fun q10 => some (q10, (nI k - 1)) else some (mh, nI k)) : Option ((Nat → Int32) × Int32)) = some (g, nI (if k = 4 then 3 else k)) ∧ ∀ j i, j < (if k = 4 then 3 else k) → i < 59 → g (59 * j + i) = mh (59 * (if k = 4 then j + 1 else j) + i) := by
    by_cases h4 : k = 4
    · subst h4
      obtain ⟨s, ⟨h1, -⟩, h2⟩ := loop_rel (fun k (s : Nat → Int32) i => f_X7_record_L10 k i s) (fun i (_ : Unit) s => (∀ y, y < i → s y = mh (y + 59)) ∧ ∀ y, i ≤ y → s y = mh y) (fun _ a => a) 177 () mh ⟨fun y hy => absurd hy (by omega), fun _ _ => rfl⟩
        (fun k i s hi ⟨h1, h2⟩ => by
          refine ⟨upd s i (mh (i + 59)), ?_, fun y hy => ?_, fun y hy => ?_⟩
          · show f_X7_record_L10 (k + 1) (nI i) s = f_X7_record_L10 k (nI (i + 1)) _
            rw [f_X7_record_L10, if_neg (by rw [show (177 : Int32) = nI 177 from rfl, nI_leI (by omega) (by omega)]; omega), show (nI i + 59 : Int32) = nI (i + 59) from by rw [show (59 : Int32) = nI 59 from rfl, nI_add], vg_nI (by omega) (by omega), vg_nI (by omega) (by omega), tn (by omega), tn (by omega), nI_1, h2 (i + 59) (by omega)]
          · by_cases e : y = i
            · subst e; rw [upd_s]
            · rw [upd_n e]; exact h1 y (by omega)
          · rw [upd_n (by omega)]; exact h2 y (by omega)) m (by omega)
      have h2 : f_X7_record_L10 m 0 mh = f_X7_record_L10 (m - 177) (nI 177) s := h2
      rw [if_pos (by decide), h2, show m - 177 = (m - 178) + 1 by omega, f_X7_record_L10, if_pos (by decide)]
      refine ⟨s, rfl, fun j i hj hi => ?_⟩
      have hj : j < 3 := hj
      show s (59 * j + i) = mh (59 * (j + 1) + i)
      rw [h1 _ (by omega)]
      congr 1
      omega
    · rw [if_neg (by rw [show (4 : Int32) = nI 4 from rfl, nI_eq (by omega) (by omega)]; exact h4)]
      refine ⟨mh, by rw [if_neg h4], fun j i _ _ => by rw [if_neg h4]⟩
  obtain ⟨g, e1, e2⟩ := e1
  rw [e1]
  simp only [Option.bind_some]
  generalize hkk : (if k = 4 then 3 else k) = kk at e2 ⊢
  have hkk3 : kk ≤ 3 := by
    subst hkk
    split <;> omega
  obtain ⟨s, ⟨h1, h2⟩, h3⟩ := loop_rel (fun q (s : Nat → Int32) i => f_X7_record_L50 f (nI kk) q i s) (fun i (_ : Unit) s => (∀ y, y < i → s (59 * kk + y) = f y) ∧ ∀ y, y < 59 * kk → s y = g y) (fun _ a => a) 59 () g ⟨fun y hy => absurd hy (by omega), fun _ _ => rfl⟩
    (fun q i s hi ⟨h1, h2⟩ => by
      refine ⟨upd s (59 * kk + i) (f i), ?_, fun y hy => ?_, fun y hy => ?_⟩
      · show f_X7_record_L50 f (nI kk) (q + 1) (nI i) s = f_X7_record_L50 f (nI kk) q (nI (i + 1)) _
        rw [f_X7_record_L50, if_neg (by rw [show (59 : Int32) = nI 59 from rfl, nI_leI (by omega) (by omega)]; omega), ix59, vg_nI (by omega) (by omega), vg_nI (by omega) (by omega), tn (by omega), tn (by omega), nI_1]
      · by_cases e : y = i
        · subst e; rw [upd_s]
        · rw [upd_n (by omega)]; exact h1 y (by omega)
      · rw [upd_n (by omega)]; exact h2 y hy) m (by omega)
  have h3 : f_X7_record_L50 f (nI kk) m 0 g = f_X7_record_L50 f (nI kk) (m - 59) (nI 59) s := h3
  rw [h3, show m - 59 = (m - 60) + 1 by omega, f_X7_record_L50, if_pos (by decide)]
  simp only [Option.bind_some, nI_1]
  refine ⟨s, rfl, fun j i hj hi => ?_, h1⟩
  rw [h2 _ (by omega)]
  exact e2 j i hj hi
theorem rem_eq {h : HH} {u : SS} {f mh : Nat → Int32} {mk : Int32} {m : Nat} (hh : RH h mh mk) (hs : RS u f) (hm : 300 < m) : ∃ h' mh' mk', f_X2_remember h u = some h' ∧ f_X7_record m f mh mk = some (mh', mk') ∧ RH h' mh' mk' := by
  obtain ⟨k, hk, h1, rfl, h2⟩ := hh
  obtain ⟨mh', g1, g2, g3⟩ := X7_record_eq (f := f) (mh := mh) hk hm
  unfold f_X2_remember
  have e : ∃ q : HH, (((if h.2 = 4 then (f_X2_dropOldest h).bind fun q => some q else some h) : Option HH)) = some q ∧ q.2 = nI (if k = 4 then 3 else k) ∧ ∀ j, j < (if k = 4 then 3 else k) → q.1 j = h.1 (if k = 4 then j + 1 else j) := by
    by_cases h4 : k = 4
    · subst h4
      rw [h1, if_pos (by decide)]
      refine ⟨(rotH h.1, h.2 - 1), rfl, by show h.2 - 1 = _; rw [h1]; decide, fun j hj => ?_⟩
      have hj : j < 3 := hj
      show rotH h.1 j = h.1 (j + 1)
      rcases (show j = 0 ∨ j = 1 ∨ j = 2 by omega) with rfl | rfl | rfl <;> rfl
    · rw [h1, if_neg (by rw [show (4 : Int32) = nI 4 from rfl, nI_eq (by omega) (by omega)]; exact h4)]
      exact ⟨h, rfl, by rw [if_neg h4]; exact h1, fun j _ => by rw [if_neg h4]⟩
  obtain ⟨q, e1, e2, e3⟩ := e
  rw [e1]
  simp only [Option.bind_some]
  have hkk3 : (if k = 4 then 3 else k) ≤ 3 := by split <;> omega
  rw [e2, vg_nI (by omega) (by omega), tn (by omega)]
  obtain ⟨b, b1, b2⟩ := become_eq (q.1 (if k = 4 then 3 else k)).1 u
  rw [b1]
  simp only [Option.bind_some]
  refine ⟨_, mh', _, rfl, g1, (if k = 4 then 3 else k) + 1, by omega, nI_1 _, rfl, fun j hj => ?_⟩
  by_cases ej : j = (if k = 4 then 3 else k)
  · show RS (va_up q.1 (if k = 4 then 3 else k) (b, _) j).1 _
    unfold va_up
    rw [if_pos ej, ej]
    exact RS_eq hs b2 (fun i hi => g3 i hi)
  · show RS (va_up q.1 (if k = 4 then 3 else k) (b, _) j).1 _
    unfold va_up
    rw [if_neg ej, e3 j (by omega)]
    refine RS_eq (h2 (if k = 4 then j + 1 else j) ?_) (eqS_rf _) (fun i hi => g2 j i (by omega) hi)
    by_cases h4 : k = 4
    · rw [if_pos h4] at ej ⊢; rw [if_pos h4] at hj; omega
    · rw [if_neg h4] at ej ⊢; rw [if_neg h4] at hj; omega
