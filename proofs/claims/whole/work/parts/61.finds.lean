/-! the model's row of numbers, and its finds() -/
def rM (f : Nat → Int32) (n : Nat) (ow co ar ch : Nat → Nat) : Prop := f 56 = nI n ∧ ∀ p, p < n → f (4 * p) = nI (ow p) ∧ f (4 * p + 1) = nI (co p) ∧ f (4 * p + 2) = nI (ar p) ∧ f (4 * p + 3) = nI (ch p)
theorem ix4 {p k : Nat} : (4 * nI p + nI k : Int32) = nI (4 * p + k) := by rw [show (4 : Int32) = nI 4 from rfl, pk_mul, nI_add]
theorem of_eq {f : Nat → Int32} {p k : Nat} (hp : p < 14) (hk : k < 4) : f_X7_of f (nI p) (nI k) = some (f (4 * p + k)) := by
  unfold f_X7_of
  rw [ix4, vg_nI (by omega) (by omega), tn (by omega)]
theorem of0 {f : Nat → Int32} {p : Nat} (hp : p < 14) : f_X7_of f (nI p) 0 = some (f (4 * p)) := of_eq (k := 0) hp (by omega)
theorem of1 {f : Nat → Int32} {p : Nat} (hp : p < 14) : f_X7_of f (nI p) 1 = some (f (4 * p + 1)) := of_eq (k := 1) hp (by omega)
theorem of2 {f : Nat → Int32} {p : Nat} (hp : p < 14) : f_X7_of f (nI p) 2 = some (f (4 * p + 2)) := of_eq (k := 2) hp (by omega)
theorem of3 {f : Nat → Int32} {p : Nat} (hp : p < 14) : f_X7_of f (nI p) 3 = some (f (4 * p + 3)) := of_eq (k := 3) hp (by omega)
theorem puts_eq {f : Nat → Int32} {p k : Nat} {v : Int32} (hp : p < 14) (hk : k < 4) : f_X7_puts f (nI p) (nI k) v = some (upd f (4 * p + k) v) := by
  unfold f_X7_puts
  rw [ix4, vg_nI (by omega) (by omega), tn (by omega)]
theorem puts0 {f : Nat → Int32} {p : Nat} {v : Int32} (hp : p < 14) : f_X7_puts f (nI p) 0 v = some (upd f (4 * p) v) := puts_eq (k := 0) hp (by omega)
theorem puts1 {f : Nat → Int32} {p : Nat} {v : Int32} (hp : p < 14) : f_X7_puts f (nI p) 1 v = some (upd f (4 * p + 1) v) := puts_eq (k := 1) hp (by omega)
theorem puts2 {f : Nat → Int32} {p : Nat} {v : Int32} (hp : p < 14) : f_X7_puts f (nI p) 2 v = some (upd f (4 * p + 2) v) := puts_eq (k := 2) hp (by omega)
theorem puts3 {f : Nat → Int32} {p : Nat} {v : Int32} (hp : p < 14) : f_X7_puts f (nI p) 3 v = some (upd f (4 * p + 3) v) := puts_eq (k := 3) hp (by omega)
theorem in_eq {x a b : Int32} : f_X7_in x a b = some (if x < a then 0 else if b < x then 0 else 1) := by
  unfold f_X7_in
  split
  · rfl
  · split <;> rfl
/-- the game that is looked at: of the player 0 or of the player 1 -/
def owW (w : Nat) (ow : Nat → Nat) : Nat → Nat := fun p => if w = 0 then ow p else 1 - ow p
def coW (w : Nat) (co : Nat → Nat) : Nat → Nat := fun p => co p + w
section M1
variable {f : Nat → Int32} {n w : Nat} {ow co ar ch : Nat → Nat} {m : Nat}
theorem no_in (hM : rM f n ow co ar ch) (hn : n ≤ 14) {p : Nat} (hp : p < n) : f_X7_no f (nI p) = some 0 := by
  unfold f_X7_no
  rw [in_eq, hM.1, if_neg (nI_pos (by omega)), show (nI n - 1 : Int32) = nI (n - 1) from pk_sub (b := 1) (by omega), if_neg (by rw [nI_ltI (by omega) (by omega)]; omega)]
  rfl
theorem no_out (hM : rM f n ow co ar ch) (hn : n ≤ 14) {x : Int32} (hx : ∀ p, p < n → x ≠ nI p) : f_X7_no f x = some 1 := by
  unfold f_X7_no
  rw [in_eq, hM.1]
  rcases pk_ix x (n := n) (by omega) with h | h | ⟨j, hj, rfl⟩
  · rw [if_pos h]; rfl
  · by_cases h0 : x < 0
    · rw [if_pos h0]; rfl
    · rw [if_neg h0, if_pos]
      · rfl
      · rw [Int32.lt_iff_toInt_lt]
        have h1 := Int32.le_iff_toInt_le.mp h
        rw [nI_toInt (by omega)] at h1
        rw [show (nI n - 1 : Int32) = nI n - nI 1 from rfl, pk_sub_toInt (by omega) (by omega)]
        omega
  · exact absurd rfl (hx j hj)
theorem hasArrow_eq (hM : rM f n ow co ar ch) (ok : okG n ow co ar) {p q : Nat} (hp : p < n) (hq : q < n) : f_X7_hasArrow f (nI p) (nI q) = some (if (ar p).testBit q then 1 else 0) := by
  have hn := ok.1
  unfold f_X7_hasArrow
  rw [of2 (by omega), (hM.2 p hp).2.2.1]
  simp only [Option.bind_some]
  by_cases h : (ar p).testBit q = true
  · rw [if_pos ((bit_iff (p31 hn (ok.2 p hp).2.2) (by omega)).mpr h), if_pos h]
  · rw [if_neg (fun e => h ((bit_iff (p31 hn (ok.2 p hp).2.2) (by omega)).mp e)), if_neg h]
theorem colourIn_eq (hM : rM f n ow co ar ch) (hn : n ≤ 14) {p : Nat} (hp : p < n) : f_X7_colourIn f (nI w) (nI p) = some (nI (coW w co p)) := by
  unfold f_X7_colourIn
  rw [of1 (by omega), (hM.2 p hp).2.1]
  simp only [Option.bind_some, nI_add]
  rfl
theorem ownerIn_eq (hM : rM f n ow co ar ch) (hn : n ≤ 14) (hw : w < 2) {p : Nat} (hp : p < n) (ho : ow p < 2) : f_X7_ownerIn f (nI w) (nI p) = some (nI (owW w ow p)) := by
  unfold f_X7_ownerIn owW
  rw [of0 (by omega), (hM.2 p hp).1]
  simp only [Option.bind_some]
  by_cases h : w = 0
  · rw [if_pos (by rw [h]; rfl), if_pos h]
  · rw [if_neg (by rw [show (0 : Int32) = nI 0 from rfl, nI_eq (by omega) (by omega)]; exact h), if_neg h]
    rw [show (1 - nI (ow p) : Int32) = nI (1 - ow p) from pk_sub (a := 1) (by omega)]
theorem okW (ok : okG n ow co ar) (hc : ∀ p, p < n → co p ≤ 7) (hw : w < 2) : okG n (owW w ow) (coW w co) ar := by
  refine ⟨ok.1, fun p hp => ⟨?_, ?_, (ok.2 p hp).2.2⟩⟩
  · have := (ok.2 p hp).1
    unfold owW
    split <;> omega
  · have := hc p hp
    unfold coW
    omega
variable {mo M : Nat → Nat} {ms most : Nat → Int32}
/-- the model's measures hold M, to the base 15 -/
def rV (ms : Nat → Int32) (n : Nat) (M : Nat → Nat) : Prop := ∀ p, p < n → ms p = nI (cv (M p))
theorem X7_asks_eq {nums : Nat → Int32} (hM : rM f n ow co ar ch) (ok : okG n ow co ar) (hc : ∀ p, p < n → co p ≤ 7) (hw : w < 2) (hV : rV ms n M) (hmo : ∀ k, k < 4 → most k = nI (mo k)) (hle : ∀ k, k < 4 → mo k ≤ 14) (hv : ∀ p, p < n → vM (M p)) (hm : 20 ≤ m) {p : Nat} (hp : p < n) : ∃ nums', f_X7_asks m f (nI w) ms most nums (nI p) = some (nI (cv (askN n (owW w ow) (coW w co) ar mo M p)), nums') := by
  have hn := ok.1
  have ok' := okW (w := w) ok hc hw
  have ho := (ok'.2 p hp).1
  unfold f_X7_asks
  rw [ownerIn_eq hM hn hw hp (ok.2 p hp).1]
  simp only [Option.bind_some]
  have e0 : (if nI (owW w ow p) = 0 then some (1 : Int32) else some 0) = some (if owW w ow p = 0 then 1 else 0) := by
    by_cases h : owW w ow p = 0
    · rw [if_pos (by rw [h]; rfl), if_pos h]
    · rw [if_neg (by rw [show (0 : Int32) = nI 0 from rfl, nI_eq (by omega) (by omega)]; exact h), if_neg h]
  have e1 : (if (if owW w ow p = 0 then (1 : Int32) else 0) = 0 then some (0 : Int32) else some 50625) = some (nI (cv (ask0 (owW w ow) p))) := by
    unfold ask0
    by_cases h : owW w ow p = 0
    · rw [if_pos h, if_pos h, if_neg (by decide)]; rfl
    · rw [if_neg h, if_neg h, if_pos rfl]; rfl
  rw [e0]
  simp only [Option.bind_some]
  rw [e1]
  simp only [Option.bind_some]
  obtain ⟨s, h1, h2⟩ := loop_rel (fun k (s : Int32 × (Nat → Int32)) i => f_X7_asks_L28 m f (nI w) ms most (nI p) (if owW w ow p = 0 then 1 else 0) k s.1 i s.2) (fun _ (a : Nat) s => s.1 = nI (cv a)) (askF (owW w ow) (coW w co) ar mo M p) n (ask0 (owW w ow) p) (nI (cv (ask0 (owW w ow) p)), nums) rfl
    (fun k i s hi h => by
      have b1 := ask_vM (mo := mo) ok' hle hv hp i (by omega)
      have b2 := wN_vM hle (ok'.2 p hp).2.1 (hv i hi)
      have c1 := cv_small b1
      have c2 := cv_small b2
      show ∃ s' : Int32 × (Nat → Int32), f_X7_asks_L28 m f (nI w) ms most (nI p) _ (k + 1) s.1 (nI i) s.2 = f_X7_asks_L28 m f (nI w) ms most (nI p) _ k s'.1 (nI (i + 1)) s'.2 ∧ _
      rw [f_X7_asks_L28, hM.1, if_neg (nI_ge hi (by omega)), hasArrow_eq hM ok hp hi]
      simp only [Option.bind_some]
      generalize hF : fo (askF (owW w ow) (coW w co) ar mo M p) i (ask0 (owW w ow) p) = A at b1 c1 h ⊢
      unfold askF
      by_cases hb : (ar p).testBit i = true
      · obtain ⟨N', hN⟩ := X7_wanted_eq (f := m) (numbers := s.2) hmo hle (ok'.2 p hp).2.1 (hv i hi) (by omega)
        rw [if_pos hb, if_neg (by decide), colourIn_eq hM hn hp, if_pos hb]
        simp only [Option.bind_some]
        rw [vg_nI (by omega) (by omega), tn (by omega), hV i hi, hN]
        simp only [Option.bind_some]
        rw [h, nI_1]
        by_cases hz : owW w ow p = 0
        · rw [if_pos hz, if_neg (by decide), if_pos hz]
          by_cases hl : A ≤ wN mo (coW w co p) (M i)
          · rw [if_pos (nI_le ((cv_le b1 b2).mpr hl) (by omega)), Nat.min_eq_left hl]
            exact ⟨(nI (cv A), N'), rfl, rfl⟩
          · rw [if_neg (by rw [nI_leI (by omega) (by omega), cv_le b1 b2]; exact hl), Nat.min_eq_right (by omega)]
            exact ⟨(_, N'), rfl, rfl⟩
        · rw [if_neg hz, if_pos rfl, if_neg hz]
          by_cases hl : wN mo (coW w co p) (M i) ≤ A
          · rw [if_pos (nI_le ((cv_le b2 b1).mpr hl) (by omega)), Nat.max_eq_left hl]
            exact ⟨(nI (cv A), N'), rfl, rfl⟩
          · rw [if_neg (by rw [nI_leI (by omega) (by omega), cv_le b2 b1]; exact hl), Nat.max_eq_right (by omega)]
            exact ⟨(_, N'), rfl, rfl⟩
      · rw [if_neg hb, if_pos rfl, nI_1, if_neg hb]
        exact ⟨s, rfl, h⟩) m (by omega)
  have h2 : f_X7_asks_L28 m f (nI w) ms most (nI p) (if owW w ow p = 0 then 1 else 0) m (nI (cv (ask0 (owW w ow) p))) 0 nums = f_X7_asks_L28 m f (nI w) ms most (nI p) (if owW w ow p = 0 then 1 else 0) (m - n) s.1 (nI n) s.2 := h2
  rw [h2, show m - n = (m - n - 1) + 1 by omega, f_X7_asks_L28, hM.1, if_pos (nI_le (Nat.le_refl n) (by omega))]
  exact ⟨s.2, by rw [h1]; rfl⟩
theorem X7_round_eq {nums : Nat → Int32} (hM : rM f n ow co ar ch) (ok : okG n ow co ar) (hc : ∀ p, p < n → co p ≤ 7) (hw : w < 2) (hV : rV ms n M) (hmo : ∀ k, k < 4 → most k = nI (mo k)) (hle : ∀ k, k < 4 → mo k ≤ 14) (hv : ∀ p, p < n → vM (M p)) (hm : 20 ≤ m) : ∃ ms' nums', f_X7_finds_L109 m f (nI w) most (nI n) m 0 0 ms nums = some (if (rsN n (owW w ow) (coW w co) ar mo M).2 then 1 else 0, ms', nums') ∧ rV ms' n (rsN n (owW w ow) (coW w co) ar mo M).1 := by
  have hn := ok.1
  have ok' := okW (w := w) ok hc hw
  obtain ⟨s, ⟨h1, h2⟩, h4⟩ := loop_rel (fun k (s : Int32 × (Nat → Int32) × (Nat → Int32)) i => f_X7_finds_L109 m f (nI w) most (nI n) k s.1 i s.2.1 s.2.2) (fun _ (a : (Nat → Nat) × Bool) s => s.1 = (if a.2 then 1 else 0) ∧ rV s.2.1 n a.1) (rsF n (owW w ow) (coW w co) ar mo) n (M, false) (0, ms, nums) ⟨rfl, hV⟩
    (fun k i s hi ⟨h1, h2⟩ => by
      have hvi := rs_vM (b := false) ok' hle hv i (by omega)
      generalize fo (rsF n (owW w ow) (coW w co) ar mo) i (M, false) = a at h1 h2 hvi ⊢
      have b1 := hvi i hi
      have b2 : vM (askN n (owW w ow) (coW w co) ar mo a.1 i) := ask_vM ok' hle hvi hi n (Nat.le_refl n)
      have c1 := cv_small b1
      have c2 := cv_small b2
      obtain ⟨N', hN⟩ := X7_asks_eq (nums := s.2.2) hM ok hc hw h2 hmo hle hvi hm hi
      show ∃ s' : Int32 × (Nat → Int32) × (Nat → Int32), f_X7_finds_L109 m f (nI w) most (nI n) (k + 1) s.1 (nI i) s.2.1 s.2.2 = f_X7_finds_L109 m f (nI w) most (nI n) k s'.1 (nI (i + 1)) s'.2.1 s'.2.2 ∧ _
      rw [f_X7_finds_L109, if_neg (nI_ge hi (by omega)), hN]
      simp only [Option.bind_some]
      rw [vg_nI (by omega) (by omega), tn (by omega), h2 i hi, nI_1]
      unfold rsF
      by_cases h : a.1 i < askN n (owW w ow) (coW w co) ar mo a.1 i
      · rw [if_neg (by rw [nI_leI (by omega) (by omega), cv_le b2 b1]; omega), if_pos h]
        refine ⟨(1, upd s.2.1 i (nI (cv (askN n (owW w ow) (coW w co) ar mo a.1 i))), N'), rfl, rfl, fun p hp => ?_⟩
        show upd s.2.1 i _ p = nI (cv (if p = i then _ else _))
        by_cases hpi : p = i
        · subst hpi
          rw [upd_s, if_pos rfl]
        · rw [upd_n hpi, if_neg hpi]
          exact h2 p hp
      · rw [if_pos (by rw [nI_leI (by omega) (by omega), cv_le b2 b1]; omega), if_neg h]
        exact ⟨(s.1, s.2.1, N'), rfl, h1, h2⟩) m (by omega)
  have h4 : f_X7_finds_L109 m f (nI w) most (nI n) m 0 0 ms nums = f_X7_finds_L109 m f (nI w) most (nI n) (m - n) s.1 (nI n) s.2.1 s.2.2 := h4
  rw [h4, show m - n = (m - n - 1) + 1 by omega, f_X7_finds_L109, if_pos (nI_le (Nat.le_refl n) (by omega))]
  exact ⟨s.2.1, s.2.2, by rw [h1]; rfl, h2⟩
theorem X7_finds_eq {ms most nums : Nat → Int32} {r : Nat} (hM : rM f n ow co ar ch) (ok : okG n ow co ar) (hc : ∀ p, p < n → co p ≤ 7) (hw : w < 2) (hs : SolP n (owW w ow) (coW w co) ar M r) (hm : 1000000 ≤ m) : ∃ ms' most' nums', f_X7_finds m f ms most nums (nI w) = some (nI w, ms', most', nums', nI r) ∧ rV ms' n M ∧ ∀ k, k < 4 → most' k = nI (moN n (coW w co) k) := by
  have hn := ok.1
  have ok' := okW (w := w) ok hc hw
  have hle : ∀ k, k < 4 → moN n (coW w co) k ≤ 14 := fun k _ => Nat.le_trans (moN_le n _ k) ok.1
  unfold f_X7_finds
  obtain ⟨e1, h1, h2⟩ := loop_rel (fun k (s : Nat → Int32) i => f_X7_finds_L15 k i s) (fun i (_ : Unit) s => ∀ k, k < i → s k = 0) (fun _ a => a) 4 () most (fun k hk => absurd hk (by omega))
    (fun k i s hi h => by
      refine ⟨upd s i 0, ?_, fun j hj => ?_⟩
      · show f_X7_finds_L15 (k + 1) (nI i) s = _
        rw [f_X7_finds_L15, if_neg (by rw [show (4 : Int32) = nI 4 from rfl, nI_leI (by omega) (by omega)]; omega), vg_nI (by omega) (by omega), tn (by omega), nI_1]
      · by_cases hj2 : j = i
        · subst hj2; rw [upd_s]
        · rw [upd_n hj2]; exact h j (by omega)) m (by omega)
  have h2 : f_X7_finds_L15 m 0 most = f_X7_finds_L15 (m - 4) (nI 4) e1 := h2
  rw [h2, show m - 4 = (m - 5) + 1 by omega, f_X7_finds_L15, if_pos (by decide)]
  simp only [Option.bind_some]
  obtain ⟨e2, ⟨h3, h3b⟩, h4⟩ := loop_rel (fun k (s : (Nat → Int32) × (Nat → Int32)) i => f_X7_finds_L35 f (nI w) (f 56) k i s.1 s.2) (fun i (_ : Unit) s => (∀ k, k < 4 → s.2 k = nI (moN i (coW w co) k)) ∧ ∀ p, p < i → s.1 p = 0) (fun _ a => a) n () (ms, e1) ⟨fun k hk => h1 k hk, fun p hp => absurd hp (by omega)⟩
    (fun k i s hi ⟨h, hz⟩ => by
      have hci := (ok'.2 i hi).2.1
      have hz2 : ∀ p, p < i + 1 → upd s.1 i 0 p = 0 := fun p hp => by
        by_cases hpi : p = i
        · subst hpi; rw [upd_s]
        · rw [upd_n hpi]; exact hz p (by omega)
      show ∃ s' : (Nat → Int32) × (Nat → Int32), f_X7_finds_L35 f (nI w) (f 56) (k + 1) (nI i) s.1 s.2 = f_X7_finds_L35 f (nI w) (f 56) k (nI (i + 1)) s'.1 s'.2 ∧ _
      rw [f_X7_finds_L35, hM.1, if_neg (nI_ge hi (by omega)), vg_nI (by omega) (by omega), tn (by omega), colourIn_eq hM hn hi]
      simp only [Option.bind_some]
      rw [rem2 (by omega), nI_1]
      by_cases ho : coW w co i % 2 = 1
      · rw [if_pos (by rw [ho]; rfl), show ((nI (coW w co i) - 1) / 2 : Int32) = nI (coW w co i / 2) from by
          rw [show (nI (coW w co i) - 1 : Int32) = nI (coW w co i - 1) from pk_sub (b := 1) (by omega), show (2 : Int32) = nI 2 from rfl, pk_div (by omega) (by omega) (by omega)]
          congr 1
          omega, vg_nI (by omega) (by omega), tn (by omega), h _ (by omega), nI_1]
        refine ⟨(upd s.1 i 0, _), rfl, fun q hq => ?_, hz2⟩
        show upd s.2 (coW w co i / 2) _ q = nI (moN (i + 1) (coW w co) q)
        unfold moN
        rw [fo_s]
        by_cases hq2 : q = coW w co i / 2
        · subst hq2
          rw [upd_s, if_pos (by omega)]
        · rw [upd_n hq2, if_neg (by omega)]; exact h q hq
      · rw [if_neg (by rw [show (1 : Int32) = nI 1 from rfl, nI_eq (by omega) (by omega)]; exact ho)]
        refine ⟨(upd s.1 i 0, s.2), rfl, fun q hq => ?_, hz2⟩
        show s.2 q = nI (moN (i + 1) (coW w co) q)
        unfold moN
        rw [fo_s, if_neg (by omega)]
        exact h q hq) m (by omega)
  have h4 : f_X7_finds_L35 f (nI w) (f 56) m 0 ms e1 = f_X7_finds_L35 f (nI w) (f 56) (m - n) (nI n) e2.1 e2.2 := h4
  rw [h4, show m - n = (m - n - 1) + 1 by omega, f_X7_finds_L35, hM.1, if_pos (nI_le (Nat.le_refl n) (by omega))]
  simp only [Option.bind_some]
  obtain ⟨t, rfl, ht, rfl, hj, hl⟩ := hs
  have key : ∀ d k (s nums : Nat → Int32), d ≤ t → d + 1 < k → rV s n (nit n (owW w ow) (coW w co) ar (moN n (coW w co)) (t - d)) → ∃ s' nums', f_X7_finds_L90 m f (nI w) e2.2 (nI n) k 1 s nums (nI (t - d)) = some (s', nums', nI (t + 1)) ∧ rV s' n (nit n (owW w ow) (coW w co) ar (moN n (coW w co)) t) := by
    intro d
    induction d with
    | zero =>
      intro k s nums _ hk hE
      obtain ⟨k, rfl⟩ : ∃ k', k = k' + 2 := ⟨k - 2, by omega⟩
      obtain ⟨s', nums', g1, g2⟩ := X7_round_eq (m := m) (nums := nums) hM ok hc hw hE h3 hle (nit_vM ok' hle (t - 0)) (by omega)
      have g1 : f_X7_finds_L109 m f (nI w) e2.2 (nI n) m 0 0 s nums = some (0, s', nums') := by rw [g1]; simp only [Nat.sub_zero, hl]; rfl
      rw [f_X7_finds_L90, if_neg (by decide), g1]
      simp only [Option.bind_some, Nat.sub_zero] at *
      rw [f_X7_finds_L90, if_pos rfl, nI_1]
      refine ⟨s', nums', rfl, ?_⟩
      obtain ⟨-, -, g4⟩ := rs_grow (n := n) (ow := owW w ow) (co := coW w co) (ar := ar) (mo := moN n (coW w co)) (M := nit n (owW w ow) (coW w co) ar (moN n (coW w co)) t) n (Nat.le_refl n)
      have g5 := (g4 hl).1
      unfold rsN at g2
      rw [g5] at g2
      exact g2
    | succ d ih =>
      intro k s nums hd hk hE
      obtain ⟨k, rfl⟩ : ∃ k', k = k' + 1 := ⟨k - 1, by omega⟩
      obtain ⟨s', nums', g1, g2⟩ := X7_round_eq (m := m) (nums := nums) hM ok hc hw hE h3 hle (nit_vM ok' hle (t - (d + 1))) (by omega)
      have g1 : f_X7_finds_L109 m f (nI w) e2.2 (nI n) m 0 0 s nums = some (1, s', nums') := by rw [g1]; simp only [hj (t - (d + 1)) (by omega)]; rfl
      rw [f_X7_finds_L90, if_neg (by decide), g1]
      simp only [Option.bind_some]
      have e5 : t - d = t - (d + 1) + 1 := by omega
      rw [nI_1, ← e5]
      exact ih k _ _ (by omega) (by omega) (by rw [e5]; exact g2)
  obtain ⟨s', nums', g1, g2⟩ := key t m e2.1 nums (Nat.le_refl t) (by omega) (by
    rw [Nat.sub_self]
    intro p hp
    rw [h3b p hp]
    show (0 : Int32) = nI (cv 0)
    decide)
  have g1 : f_X7_finds_L90 m f (nI w) e2.2 (nI n) m 1 e2.1 nums 0 = some (s', nums', nI (t + 1)) := by rw [← g1, Nat.sub_self]; rfl
  rw [g1]
  exact ⟨s', e2.2, nums', rfl, g2, h3⟩
end M1
