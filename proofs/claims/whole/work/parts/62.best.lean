/-! the measures at the end are what is asked for; the best arrow -/
/-- no number is more than it can be -/
def vQ (mo : Nat → Nat) (m : Nat) : Prop := m = 65536 ∨ (m / 4096 ≤ mo 0 ∧ m / 256 % 16 ≤ mo 1 ∧ m / 16 % 16 ≤ mo 2 ∧ m % 16 ≤ mo 3)
theorem vQ_lost {mo : Nat → Nat} : vQ mo 65536 := Or.inl rfl
theorem vQ_vM {mo : Nat → Nat} (hle : ∀ k, k < 4 → mo k ≤ 14) {m : Nat} (h : vQ mo m) : vM m := by
  have m0 := hle 0 (by omega)
  have m1 := hle 1 (by omega)
  have m2 := hle 2 (by omega)
  have m3 := hle 3 (by omega)
  rcases h with rfl | h
  · exact Or.inl rfl
  · exact Or.inr ⟨by omega, by omega, by omega, by omega⟩
theorem vQ_mk {mo : Nat → Nat} {m : Nat} (h : vQ mo m) : m = 65536 ∨ ∃ a b c d, a ≤ mo 0 ∧ b ≤ mo 1 ∧ c ≤ mo 2 ∧ d ≤ mo 3 ∧ m = mk16 a b c d := by
  rcases h with rfl | ⟨h1, h2, h3, h4⟩
  · exact Or.inl rfl
  · exact Or.inr ⟨m / 4096, m / 256 % 16, m / 16 % 16, m % 16, h1, h2, h3, h4, by unfold mk16; omega⟩
theorem mk_vQ {mo : Nat → Nat} (hle : ∀ k, k < 4 → mo k ≤ 14) {a b c d : Nat} (ha : a ≤ mo 0) (hb : b ≤ mo 1) (hc : c ≤ mo 2) (hd : d ≤ mo 3) : vQ mo (mk16 a b c d) := by
  have m0 := hle 0 (by omega)
  have m1 := hle 1 (by omega)
  have m2 := hle 2 (by omega)
  have m3 := hle 3 (by omega)
  right
  unfold mk16
  refine ⟨by omega, by omega, by omega, by omega⟩
theorem wN_vQ {mo : Nat → Nat} (hle : ∀ k, k < 4 → mo k ≤ 14) {k m : Nat} (hk : k ≤ 8) (hm : vQ mo m) : vQ mo (wN mo k m) := by
  have m0 := hle 0 (by omega)
  have m1 := hle 1 (by omega)
  have m2 := hle 2 (by omega)
  have m3 := hle 3 (by omega)
  rcases vQ_mk hm with rfl | ⟨a, b, c, d, ha, hb, hc, hd, rfl⟩
  · exact Or.inl rfl
  · rw [wN_D mo hk (by omega) (by omega) (by omega) (by omega)]
    rcases (show k = 0 ∨ k = 1 ∨ k = 2 ∨ k = 3 ∨ k = 4 ∨ k = 5 ∨ k = 6 ∨ k = 7 ∨ k = 8 by omega) with rfl | rfl | rfl | rfl | rfl | rfl | rfl | rfl | rfl
    all_goals (simp only [wD]; (repeat' split) <;> simp only [oD] <;> first | with_reducible exact vQ_lost | exact mk_vQ hle (by omega) (by omega) (by omega) (by omega))
theorem wN_mono {mo : Nat → Nat} (hle : ∀ k, k < 4 → mo k ≤ 14) {k m m' : Nat} (hk : k ≤ 8) (hm : vQ mo m) (hm' : vQ mo m') (h : m ≤ m') : wN mo k m ≤ wN mo k m' := by
  have hv := vM_le (wN_vM hle hk (vQ_vM hle hm))
  have m0 := hle 0 (by omega)
  have m1 := hle 1 (by omega)
  have m2 := hle 2 (by omega)
  have m3 := hle 3 (by omega)
  rcases vQ_mk hm' with rfl | ⟨a', b', c', d', ha', hb', hc', hd', rfl⟩
  · rw [show wN mo k 65536 = 65536 from if_pos rfl]
    exact hv
  · rcases vQ_mk hm with rfl | ⟨a, b, c, d, ha, hb, hc, hd, rfl⟩
    · have := mk_ne (a := a') (b := b') (c := c') (d := d') (by omega) (by omega) (by omega) (by omega)
      omega
    · rw [wN_D mo hk (by omega) (by omega) (by omega) (by omega), wN_D mo hk (by omega) (by omega) (by omega) (by omega)]
      clear hv hm hm' hle
      unfold mk16 at h
      rcases (show k = 0 ∨ k = 1 ∨ k = 2 ∨ k = 3 ∨ k = 4 ∨ k = 5 ∨ k = 6 ∨ k = 7 ∨ k = 8 by omega) with rfl | rfl | rfl | rfl | rfl | rfl | rfl | rfl | rfl
      · exact Nat.le_refl _
      all_goals
        rcases Nat.lt_trichotomy a a' with q1 | q1 | q1
        · simp only [wD]; (repeat' split) <;> (simp only [oD, mk16]; omega)
        · subst q1
          rcases Nat.lt_trichotomy b b' with q2 | q2 | q2
          · simp only [wD]; (repeat' split) <;> (simp only [oD, mk16]; omega)
          · subst q2
            rcases Nat.lt_trichotomy c c' with q3 | q3 | q3
            · simp only [wD]; (repeat' split) <;> (simp only [oD, mk16]; omega)
            · subst q3
              simp only [wD]; (repeat' split) <;> (simp only [oD, mk16]; omega)
            · omega
          · omega
        · omega
section BQ
variable {n : Nat} {ow co ar mo M : Nat → Nat}
theorem vQ_0 : vQ mo 0 := by
  right
  refine ⟨Nat.zero_le _, Nat.zero_le _, Nat.zero_le _, Nat.zero_le _⟩
theorem ask_vQ (ok : okG n ow co ar) (hle : ∀ k, k < 4 → mo k ≤ 14) (hv : ∀ p, p < n → vQ mo (M p)) {p : Nat} (hp : p < n) : ∀ i, i ≤ n → vQ mo (fo (askF ow co ar mo M p) i (ask0 ow p)) := by
  refine fo_inv (vQ mo) _ n _ ?_ ?_
  · unfold ask0
    split
    · exact Or.inl rfl
    · exact vQ_0
  · intro i hi h
    have h2 := wN_vQ hle (ok.2 p hp).2.1 (hv i hi)
    generalize fo (askF ow co ar mo M p) i (ask0 ow p) = A at h ⊢
    unfold askF
    split
    · split
      · rcases Nat.le_total A (wN mo (co p) (M i)) with q | q
        · rw [Nat.min_eq_left q]; exact h
        · rw [Nat.min_eq_right q]; exact h2
      · rcases Nat.le_total A (wN mo (co p) (M i)) with q | q
        · rw [Nat.max_eq_right q]; exact h2
        · rw [Nat.max_eq_left q]; exact h
    · exact h
theorem rs_vQ (ok : okG n ow co ar) (hle : ∀ k, k < 4 → mo k ≤ 14) {b : Bool} (hv : ∀ p, p < n → vQ mo (M p)) : ∀ i, i ≤ n → ∀ p, p < n → vQ mo ((fo (rsF n ow co ar mo) i (M, b)).1 p) :=
  fo_inv (fun (s : (Nat → Nat) × Bool) => ∀ p, p < n → vQ mo (s.1 p)) _ n _ hv (fun i hi hv p hp => by
    unfold rsF
    split
    · by_cases h : p = i
      · subst h
        show vQ mo (if p = p then _ else _)
        rw [if_pos rfl]
        exact ask_vQ ok hle hv hp n (Nat.le_refl n)
      · show vQ mo (if p = i then _ else _)
        rw [if_neg h]
        exact hv p hp
    · exact hv p hp)
theorem nit_vQ (ok : okG n ow co ar) (hle : ∀ k, k < 4 → mo k ≤ 14) : ∀ t p, p < n → vQ mo (nit n ow co ar mo t p) := by
  intro t
  induction t with
  | zero => intro p _; exact vQ_0
  | succ t ih => intro p hp; exact rs_vQ ok hle ih n (Nat.le_refl n) p hp
end BQ
section BE
variable {n : Nat} {ow co ar mo M M' : Nat → Nat}
theorem ask_mono (ok : okG n ow co ar) (hle : ∀ k, k < 4 → mo k ≤ 14) (hv : ∀ p, p < n → vQ mo (M p)) (hv' : ∀ p, p < n → vQ mo (M' p)) (h : ∀ p, p < n → M p ≤ M' p) {p : Nat} (hp : p < n) : askN n ow co ar mo M p ≤ askN n ow co ar mo M' p := by
  unfold askN
  have : ∀ i, i ≤ n → fo (askF ow co ar mo M p) i (ask0 ow p) ≤ fo (askF ow co ar mo M' p) i (ask0 ow p) := by
    intro i
    induction i with
    | zero => intro _; exact Nat.le_refl _
    | succ i ih =>
      intro hi
      have h1 := ih (by omega)
      have h2 := wN_mono hle (ok.2 p hp).2.1 (hv i (by omega)) (hv' i (by omega)) (h i (by omega))
      rw [fo_s, fo_s]
      generalize fo (askF ow co ar mo M p) i (ask0 ow p) = A at h1 ⊢
      generalize fo (askF ow co ar mo M' p) i (ask0 ow p) = B at h1 ⊢
      unfold askF
      split
      · split <;> omega
      · exact h1
  exact this n (Nat.le_refl n)
theorem post_fix (ok : okG n ow co ar) (hle : ∀ k, k < 4 → mo k ≤ 14) : ∀ t p, p < n → nit n ow co ar mo t p ≤ askN n ow co ar mo (nit n ow co ar mo t) p := by
  intro t
  induction t with
  | zero => intro p _; exact Nat.zero_le _
  | succ t ih =>
    have hv0 := nit_vQ ok hle t
    have : ∀ i, i ≤ n → (∀ p, p < n → (fo (rsF n ow co ar mo) i (nit n ow co ar mo t, false)).1 p ≤ askN n ow co ar mo (fo (rsF n ow co ar mo) i (nit n ow co ar mo t, false)).1 p) := by
      intro i
      induction i with
      | zero => intro _; exact ih
      | succ i ihi =>
        intro hi p hp
        have h1 := ihi (by omega)
        have hv1 := rs_vQ (b := false) ok hle hv0 i (by omega)
        have hv2 := rs_vQ (b := false) ok hle hv0 (i + 1) hi
        rw [fo_s] at hv2 ⊢
        generalize fo (rsF n ow co ar mo) i (nit n ow co ar mo t, false) = s at h1 hv1 hv2 ⊢
        have hg : ∀ q, q < n → s.1 q ≤ (rsF n ow co ar mo i s).1 q := by
          intro q hq
          unfold rsF
          split
          · show s.1 q ≤ if q = i then _ else _
            by_cases e : q = i
            · subst e; rw [if_pos rfl]; omega
            · rw [if_neg e]; exact Nat.le_refl _
          · exact Nat.le_refl _
        have hm := ask_mono (mo := mo) ok hle hv1 hv2 hg hp
        refine Nat.le_trans ?_ hm
        unfold rsF
        split
        · show (if p = i then _ else _) ≤ _
          by_cases e : p = i
          · subst e; rw [if_pos rfl]; exact Nat.le_refl _
          · rw [if_neg e]; exact h1 p hp
        · exact h1 p hp
    exact this n (Nat.le_refl n)
theorem sol_vM {r : Nat} (ok : okG n ow co ar) (hs : SolP n ow co ar M r) : ∀ p, p < n → vM (M p) := by
  obtain ⟨t, -, -, rfl, -, -⟩ := hs
  exact nit_vM ok (fun k _ => Nat.le_trans (moN_le n co k) ok.1) t
theorem sol_fix {r : Nat} (ok : okG n ow co ar) (hs : SolP n ow co ar M r) {p : Nat} (hp : p < n) : M p = askN n ow co ar (moN n co) M p := by
  obtain ⟨t, -, -, rfl, -, hl⟩ := hs
  have h1 := post_fix ok (fun k _ => Nat.le_trans (moN_le n co k) ok.1) t p hp
  obtain ⟨-, -, h2⟩ := rs_grow (n := n) (ow := ow) (co := co) (ar := ar) (mo := moN n co) (M := nit n ow co ar (moN n co) t) n (Nat.le_refl n)
  have := (h2 hl).2 p hp
  omega
/-- the best arrow and its wanted measure; 14 for none -/
def bsF (co ar mo M : Nat → Nat) (p : Nat) : Nat → Nat × Nat → Nat × Nat := fun q s => if (if (ar p).testBit q = true then wN mo (co p) (M q) else 65536) < s.2 then (q, if (ar p).testBit q = true then wN mo (co p) (M q) else 65536) else s
def bsN (n : Nat) (co ar mo M : Nat → Nat) (p : Nat) : Nat := (fo (bsF co ar mo M p) n (14, 65536)).1
theorem bs_inv (ok : okG n ow co ar) (hle : ∀ k, k < 4 → mo k ≤ 14) (hv : ∀ p, p < n → vM (M p)) {p : Nat} (hp : p < n) : ∀ i, i ≤ n → vM (fo (bsF co ar mo M p) i (14, 65536)).2 ∧ (((fo (bsF co ar mo M p) i (14, 65536)).1 = 14 ∧ (fo (bsF co ar mo M p) i (14, 65536)).2 = 65536) ∨ ((fo (bsF co ar mo M p) i (14, 65536)).1 < i ∧ (fo (bsF co ar mo M p) i (14, 65536)).2 < 65536 ∧ (ar p).testBit (fo (bsF co ar mo M p) i (14, 65536)).1 = true)) ∧ (ow p = 0 → (fo (bsF co ar mo M p) i (14, 65536)).2 = fo (askF ow co ar mo M p) i (ask0 ow p)) := by
  intro i
  induction i with
  | zero => intro _; exact ⟨Or.inl rfl, Or.inl ⟨rfl, rfl⟩, fun h => by show 65536 = ask0 ow p; unfold ask0; rw [if_pos h]⟩
  | succ i ih =>
    intro hi
    obtain ⟨h0, h1, h2⟩ := ih (by omega)
    have b2 := wN_vM hle (ok.2 p hp).2.1 (hv i (by omega))
    have b3 := vM_le b2
    rw [fo_s, fo_s]
    generalize fo (bsF co ar mo M p) i (14, 65536) = s at h0 h1 h2 ⊢
    generalize fo (askF ow co ar mo M p) i (ask0 ow p) = A at h2 ⊢
    have b4 := vM_le h0
    unfold bsF askF
    by_cases hb : (ar p).testBit i = true
    · simp only [hb, if_true]
      by_cases hl : wN mo (co p) (M i) < s.2
      · rw [if_pos hl]
        refine ⟨b2, Or.inr ⟨by show i < i + 1; omega, by show wN mo (co p) (M i) < 65536; omega, hb⟩, fun h => ?_⟩
        rw [if_pos h, ← h2 h]
        show wN mo (co p) (M i) = _
        omega
      · rw [if_neg hl]
        refine ⟨h0, ?_, fun h => ?_⟩
        · rcases h1 with h1 | ⟨h1, h3, h4⟩
          · exact Or.inl h1
          · exact Or.inr ⟨by omega, h3, h4⟩
        · rw [if_pos h, ← h2 h]
          omega
    · rw [if_neg hb, if_neg (by omega), if_neg hb]
      refine ⟨h0, ?_, h2⟩
      rcases h1 with h1 | ⟨h1, h3, h4⟩
      · exact Or.inl h1
      · exact Or.inr ⟨by omega, h3, h4⟩
theorem bs_lost {r : Nat} (ok : okG n ow co ar) (hs : SolP n ow co ar M r) {p : Nat} (hp : p < n) (ho : ow p = 0) : (M p = 65536 ∧ bsN n co ar (moN n co) M p = 14) ∨ (M p ≠ 65536 ∧ bsN n co ar (moN n co) M p < n ∧ (ar p).testBit (bsN n co ar (moN n co) M p) = true) := by
  obtain ⟨h0, h1, h2⟩ := bs_inv (mo := moN n co) ok (fun k _ => Nat.le_trans (moN_le n co k) ok.1) (sol_vM ok hs) hp n (Nat.le_refl n)
  have h3 := sol_fix ok hs hp
  have h4 := h2 ho
  unfold askN at h3
  rw [← h4] at h3
  rcases h1 with ⟨g1, g2⟩ | ⟨g1, g2, g3⟩
  · exact Or.inl ⟨by rw [h3, g2], g1⟩
  · exact Or.inr ⟨by omega, g1, g3⟩
theorem X3_best_eq {e : EE} {g : GG} {m : Nat} (hR : rG g n ow co ar) (ok : okG n ow co ar) (hE : rE e n mo M) (hle : ∀ k, k < 4 → mo k ≤ 14) (hv : ∀ p, p < n → vM (M p)) (hm : 20 ≤ m) {p : Nat} (hp : p < n) (ho : ow p = 0) : f_X3_bestArrow m e g (nI p) = some (nI (bsN n co ar mo M p)) := by
  have hn := ok.1
  unfold f_X3_bestArrow
  obtain ⟨s, h1, h2⟩ := loop_rel (fun k (s : Int32 × Int32) i => f_X3_bestArrow_L10 m e g (nI p) k s.1 s.2 i) (fun _ (a : Nat × Nat) s => s.1 = nI a.1 ∧ s.2 = nI a.2) (bsF co ar mo M p) n (14, 65536) (14, 65536) ⟨rfl, rfl⟩
    (fun k i s hi ⟨h, h'⟩ => by
      have b1 := vM_le (bs_inv (mo := mo) ok hle hv hp i (by omega)).1
      have b2 := vM_le (wN_vM hle (ok.2 p hp).2.1 (hv i hi))
      show ∃ s' : Int32 × Int32, f_X3_bestArrow_L10 m e g (nI p) (k + 1) s.1 s.2 (nI i) = f_X3_bestArrow_L10 m e g (nI p) k s'.1 s'.2 (nI (i + 1)) ∧ _
      rw [f_X3_bestArrow_L10, hR.1, if_neg (nI_ge hi (by omega)), leads_eq hR ok hp hi]
      simp only [Option.bind_some]
      generalize fo (bsF co ar mo M p) i (14, 65536) = A at b1 h h' ⊢
      rw [h', nI_1]
      unfold bsF
      by_cases hb : (ar p).testBit i = true
      · rw [if_pos hb, if_neg (by decide), X3_wanted_eq hR ok hE.1 hle hE.2 hv (by omega) hp hi]
        simp only [Option.bind_some, hb, if_true]
        by_cases hl : wN mo (co p) (M i) < A.2
        · rw [if_neg (by rw [nI_leI (by omega) (by omega)]; omega), if_pos hl]
          exact ⟨(_, _), rfl, rfl, rfl⟩
        · rw [if_pos (nI_le (by omega) (by omega)), if_neg hl]
          exact ⟨s, by rw [h'], h, h'⟩
      · rw [if_neg hb, if_pos rfl, if_neg hb]
        simp only [Option.bind_some]
        rw [show (65536 : Int32) = nI 65536 from rfl, if_pos (nI_le b1 (by omega)), if_neg (by omega)]
        exact ⟨s, by rw [h'], h, h'⟩) m (by omega)
  have h2 : f_X3_bestArrow_L10 m e g (nI p) m 14 65536 0 = f_X3_bestArrow_L10 m e g (nI p) (m - n) s.1 s.2 (nI n) := h2
  rw [h2, show m - n = (m - n - 1) + 1 by omega, f_X3_bestArrow_L10, hR.1, if_pos (nI_le (Nat.le_refl n) (by omega))]
  simp only [Option.bind_some]
  rw [vg_nI (by omega) (by omega), tn (by omega), (hR.2 p hp).1, ho, if_pos (show nI 0 = 0 from rfl), h1.1]
  rfl
end BE
section BM
variable {f : Nat → Int32} {n w : Nat} {ow co ar ch M mo : Nat → Nat} {m : Nat} {ms most nums : Nat → Int32}
/-- the model's choice: NONE for none -/
def i14 (b : Nat) : Int32 := if b = 14 then -5 else nI b
theorem X7_choice_eq {r : Nat} (hM : rM f n ow co ar ch) (ok : okG n ow co ar) (hc : ∀ p, p < n → co p ≤ 7) (hw : w < 2) (hs : SolP n (owW w ow) (coW w co) ar M r) (hV : rV ms n M) (hmo : ∀ k, k < 4 → most k = nI (moN n (coW w co) k)) (hm : 20 ≤ m) {p : Nat} (hp : p < n) (ho : owW w ow p = 0) : ∃ nums', f_X7_choiceAt m f (nI w) ms most nums (nI p) = some (i14 (bsN n (coW w co) ar (moN n (coW w co)) M p), nums') := by
  have hn := ok.1
  have ok' := okW (w := w) ok hc hw
  have hle : ∀ k, k < 4 → moN n (coW w co) k ≤ 14 := fun k _ => Nat.le_trans (moN_le n _ k) ok.1
  have hv := sol_vM ok' hs
  unfold f_X7_choiceAt
  obtain ⟨s, h1, h2⟩ := loop_rel (fun k (s : Int32 × Int32 × (Nat → Int32)) i => f_X7_choiceAt_L9 m f (nI w) ms most (nI p) k s.1 s.2.1 i s.2.2) (fun i (a : Nat × Nat) s => s.1 = i14 a.1 ∧ s.2.1 = nI (cv a.2)) (bsF (coW w co) ar (moN n (coW w co)) M p) n (14, 65536) (-5, 50625, nums) ⟨rfl, rfl⟩
    (fun k i s hi ⟨h, h'⟩ => by
      have b1 := (bs_inv (mo := moN n (coW w co)) ok' hle hv hp i (by omega)).1
      have b2 := wN_vM hle (ok'.2 p hp).2.1 (hv i hi)
      have c1 := cv_small b1
      have c2 := cv_small b2
      show ∃ s' : Int32 × Int32 × (Nat → Int32), f_X7_choiceAt_L9 m f (nI w) ms most (nI p) (k + 1) s.1 s.2.1 (nI i) s.2.2 = f_X7_choiceAt_L9 m f (nI w) ms most (nI p) k s'.1 s'.2.1 (nI (i + 1)) s'.2.2 ∧ _
      rw [f_X7_choiceAt_L9, hM.1, if_neg (nI_ge hi (by omega)), hasArrow_eq hM ok hp hi]
      simp only [Option.bind_some]
      generalize fo (bsF (coW w co) ar (moN n (coW w co)) M p) i (14, 65536) = A at b1 c1 h h' ⊢
      rw [h', nI_1]
      unfold bsF
      by_cases hb : (ar p).testBit i = true
      · obtain ⟨N', hN⟩ := X7_wanted_eq (f := m) (numbers := s.2.2) hmo hle (ok'.2 p hp).2.1 (hv i hi) (by omega)
        rw [if_pos hb, if_neg (by decide), colourIn_eq hM hn hp]
        simp only [Option.bind_some, hb, if_true]
        rw [vg_nI (by omega) (by omega), tn (by omega), hV i hi, hN]
        simp only [Option.bind_some]
        by_cases hl : wN (moN n (coW w co)) (coW w co p) (M i) < A.2
        · rw [if_neg (by rw [nI_leI (by omega) (by omega), cv_le b1 b2]; omega), if_pos hl]
          refine ⟨(nI i, _, N'), rfl, ?_, rfl⟩
          show nI i = i14 i
          unfold i14
          rw [if_neg (by omega)]
        · rw [if_pos (nI_le ((cv_le b1 b2).mpr (by omega)) (by omega)), if_neg hl]
          exact ⟨(s.1, s.2.1, N'), by rw [h'], h, h'⟩
      · rw [if_neg hb, if_pos rfl, if_neg hb]
        simp only [Option.bind_some]
        have := vM_le b1
        rw [show (50625 : Int32) = nI 50625 from rfl, if_pos (nI_le c1 (by omega)), if_neg (by omega)]
        exact ⟨s, by rw [h'], h, h'⟩) m (by omega)
  have h2 : f_X7_choiceAt_L9 m f (nI w) ms most (nI p) m (-5) 50625 0 nums = f_X7_choiceAt_L9 m f (nI w) ms most (nI p) (m - n) s.1 s.2.1 (nI n) s.2.2 := h2
  rw [h2, show m - n = (m - n - 1) + 1 by omega, f_X7_choiceAt_L9, hM.1, if_pos (nI_le (Nat.le_refl n) (by omega))]
  simp only [Option.bind_some]
  have c3 := cv_small (hv p hp)
  rw [vg_nI (by omega) (by omega), tn (by omega), hV p hp, show (50625 : Int32) = nI (cv 65536) from rfl]
  refine ⟨s.2.2, ?_⟩
  rcases bs_lost ok' hs hp ho with ⟨g1, g2⟩ | ⟨g1, g2, -⟩
  · rw [if_pos (by rw [g1]), g2]; rfl
  · rw [if_neg (by rw [nI_eq (by omega) (by decide), cv_eq (hv p hp) (Or.inl rfl)]; exact g1), h1.1]
    rfl
end BM
