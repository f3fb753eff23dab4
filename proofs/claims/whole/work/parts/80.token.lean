/-! the walk of the token -/
def wk (W : Nat → Nat) (tk : Nat) : Nat → Nat
  | 0 => tk
  | j + 1 => W (wk W tk j)
def pth (P : Nat → Nat) (j : Nat) : Nat := fo (fun i s => s ||| 2 ^ P i) j 0
theorem pth_bit (P : Nat → Nat) (k : Nat) : ∀ j, (pth P j).testBit k = true ↔ ∃ i, i < j ∧ P i = k := by
  intro j
  unfold pth
  induction j with
  | zero => rw [fo_0, Nat.zero_testBit]; exact ⟨fun h => (by cases h), fun ⟨i, h, _⟩ => absurd h (by omega)⟩
  | succ j ih =>
    rw [fo_s, Nat.testBit_or, Nat.testBit_two_pow, Bool.or_eq_true, ih, decide_eq_true_iff]
    constructor
    · rintro (⟨i, h1, h2⟩ | h)
      · exact ⟨i, by omega, h2⟩
      · exact ⟨j, by omega, h⟩
    · rintro ⟨i, h1, h2⟩
      by_cases e : i = j
      · subst e; exact Or.inr h2
      · exact Or.inl ⟨i, by omega, h2⟩
theorem pth_lt {P : Nat → Nat} {n : Nat} : ∀ j, (∀ i, i < j → P i < n) → pth P j < 2 ^ n := by
  intro j h
  apply lt_of_bits
  intro k hk
  cases e : (pth P j).testBit k with
  | false => rfl
  | true =>
    obtain ⟨i, h1, h2⟩ := (pth_bit P k j).mp e
    have := h i h1
    omega
theorem pigeon {P : Nat → Nat} {n : Nat} : ∀ j, (∀ i, i < j → P i < n) → (∀ i, i < j → ∀ i', i' < i → P i' ≠ P i) → j ≤ cd n (pth P j) := by
  intro j
  induction j with
  | zero => intro _ _; exact Nat.zero_le _
  | succ j ih =>
    intro h1 h2
    have h3 := ih (fun i hi => h1 i (by omega)) (fun i hi => h2 i (by omega))
    have h4 := pth_lt (j + 1) h1
    have h5 : sub (pth P j) (pth P (j + 1)) := fun k hk => by
      obtain ⟨i, a, b⟩ := (pth_bit P k j).mp hk
      exact (pth_bit P k (j + 1)).mpr ⟨i, by omega, b⟩
    have h6 : pth P j ≠ pth P (j + 1) := fun e => by
      have h7 : (pth P (j + 1)).testBit (P j) = true := (pth_bit P (P j) (j + 1)).mpr ⟨j, by omega, rfl⟩
      rw [← e] at h7
      obtain ⟨i, a, b⟩ := (pth_bit P (P j) j).mp h7
      exact h2 j (by omega) i a b
    have h7 := grow_ne h4 h5 h6
    omega
section TK
variable {u : SS} {f : Nat → Int32} {m n : Nat} {ow co ar ch : Nat → Nat}
def RES (W P : Nat → Nat) (n : Nat) (ws : Nat → Int32) (kf : KK) (l3 l4 : Int32) (gf : Nat → Int32) : Prop := ∃ J, J < 14 ∧ l3 = nI (J + 1) ∧ (∀ i, i ≤ J → gf i = nI (P i)) ∧ (∀ i, i ≤ J → P i < n) ∧ (∀ i, i ≤ J → ∀ i', i' < i → P i' ≠ P i) ∧ ((W (P J) = 14 ∧ l4 = -5 ∧ kf = (ws, nI J, 0, nI (P J))) ∨ ∃ i0, i0 ≤ J ∧ W (P J) = P i0 ∧ l4 = nI (P i0) ∧ kf = (ws, nI (J + 1), 1, nI (P i0)))
theorem nI_n5 {k : Nat} (h : k < 100000) : ¬ nI k = -5 := by
  intro e5
  have h9 := congrArg Int32.toInt e5
  rw [nI_toInt (by omega), show (-5 : Int32).toInt = -5 from by decide] at h9
  omega
theorem follow2 {W P : Nat → Nat} {ws : Nat → Int32} (hn : n ≤ 14) (hws : ∀ p, p < n → ws p = nI (W p)) (hW : ∀ p, p < n → W p = 14 ∨ W p < n) (hP : ∀ j, P (j + 1) = W (P j)) (hM : rM f n ow co ar ch) (G : ∀ (f ms most nums : Nat → Int32) (mg rd : Int32) (p : Nat), rM f n ow co ar ch → p < n → ∃ t, f_X7_goesTo m f mg ms most nums rd (nI p) = some (i14 (W p), t)) :
    ∀ d j K K' (goes : Nat → Int32) (mg rd : Int32) (ms most nums : Nat → Int32), n ≤ j + d → d + 2 < K → d + 2 < K' → (∀ i, i ≤ j → P i < n) → (∀ i, i ≤ j → ∀ i', i' < i → P i' ≠ P i) → (∀ i, i < j → goes i = nI (P i)) →
    ∃ kf l3 l4 t1 t2 t3 t4 t5 gf, f_X5_follow_L20 K (nI (pth P (j + 1))) (ws, nI j, 0, nI (P j)) = some kf ∧ f_X7_token_L50 m f K' (nI (pth P j)) (nI j) (nI (P j)) mg ms most nums rd goes = some (l3, l4, t1, t2, t3, t4, t5, gf) ∧ RES W P n ws kf l3 l4 gf := by
  intro d
  induction d with
  | zero =>
    intro j K K' goes mg rd ms most nums h1 _ _ h4 h5
    have h6 := pigeon (n := n) (j + 1) (fun i hi => h4 i (by omega)) (fun i hi => h5 i (by omega))
    have h7 := cd_le n (pth P (j + 1))
    omega
  | succ d ih =>
    intro j K K' goes mg rd ms most nums h1 h2 h3 h4 h5 h6
    obtain ⟨K, rfl⟩ : ∃ K1, K = K1 + 1 + 1 := ⟨K - 2, by omega⟩
    obtain ⟨K', rfl⟩ : ∃ K1, K' = K1 + 1 + 1 := ⟨K' - 2, by omega⟩
    have hj : j + 1 ≤ n := by
      have h6 := pigeon (n := n) (j + 1) (fun i hi => h4 i (by omega)) (fun i hi => h5 i (by omega))
      have h7 := cd_le n (pth P (j + 1))
      omega
    have hpj := h4 j (Nat.le_refl j)
    have hl1 := p31 hn (pth_lt (P := P) (n := n) (j + 1) (fun i hi => h4 i (by omega)))
    have hl0 := p31 hn (pth_lt (P := P) (n := n) j (fun i hi => h4 i (by omega)))
    obtain ⟨t, t1⟩ := G f ms most nums mg rd (P j) hM hpj
    have hgo : ∀ i, i ≤ j → upd goes j (nI (P j)) i = nI (P i) := fun i hi => by
      by_cases e : i = j
      · subst e; rw [upd_s]
      · rw [upd_n e]; exact h6 i (by omega)
    have n0 : ¬ (pth P j).testBit (P j) = true := fun e => by
      obtain ⟨i, a, b⟩ := (pth_bit P (P j) j).mp e
      exact h5 j (Nat.le_refl j) i a b
    have mstep : f_X7_token_L50 m f (K' + 1 + 1) (nI (pth P j)) (nI j) (nI (P j)) mg ms most nums rd goes = f_X7_token_L50 m f (K' + 1) (nI (pth P (j + 1))) (nI (j + 1)) (i14 (W (P j))) t.1 t.2.1 t.2.2.1 t.2.2.2.1 t.2.2.2.2 (upd goes j (nI (P j))) := by
      rw [f_X7_token_L50, if_neg (nI_n5 (by omega)), if_pos ((bit_0 hl0 (by omega)).mpr n0), vg_nI (by omega) (by omega), tn (by omega), t1]
      simp only [Option.bind_some]
      rw [jshl_1 (by omega), nI_or, nI_1]
      rfl
    have cstep : ∀ (hw : W (P j) < n), f_X5_follow_L20 (K + 1 + 1) (nI (pth P (j + 1))) (ws, nI j, 0, nI (P j)) = f_X5_follow_L20 (K + 1) (nI (pth P (j + 2))) (ws, nI (j + 1), (if (pth P (j + 1)).testBit (W (P j)) = true then 1 else 0), nI (W (P j))) := fun hw => by
      rw [f_X5_follow_L20]
      rw [if_neg (show ¬ (14 : Int32) ≤ nI j from by rw [show (14 : Int32) = nI 14 from rfl, nI_leI (by omega) (by omega)]; omega), if_pos (show (0 : Int32) = 0 from rfl)]
      rw [show f_X5_wayFrom (ws, nI j, 0, nI (P j)) (nI (P j)) = some (nI (W (P j))) from by rw [wayFrom_eq (by omega)]; exact congrArg some (hws _ hpj)]
      simp only [Option.bind_some]
      rw [if_neg (show ¬ nI (W (P j)) = 14 from by rw [show (14 : Int32) = nI 14 from rfl, nI_eq (by omega) (by omega)]; omega), contains_eq hl1 (by omega), bit_eq (by omega)]
      simp only [Option.bind_some]
      have hz : (if (pth P (j + 1)).testBit (W (P j)) = true then (1 : Int32) else 0) = 0 ∨ (if (pth P (j + 1)).testBit (W (P j)) = true then (1 : Int32) else 0) = 1 := by
        split
        · exact Or.inr rfl
        · exact Or.inl rfl
      rw [zg_01 hz, nI_or, nI_1]
      rw [show pth P (j + 2) = pth P (j + 1) ||| 2 ^ W (P j) from by rw [← hP]; rfl]
    rcases hW _ hpj with hw | hw
    · have hc : f_X5_follow_L20 (K + 1 + 1) (nI (pth P (j + 1))) (ws, nI j, 0, nI (P j)) = some (ws, nI j, 0, nI (P j)) := by
        rw [f_X5_follow_L20]
        rw [if_neg (show ¬ (14 : Int32) ≤ nI j from by rw [show (14 : Int32) = nI 14 from rfl, nI_leI (by omega) (by omega)]; omega), if_pos (show (0 : Int32) = 0 from rfl)]
        rw [show f_X5_wayFrom (ws, nI j, 0, nI (P j)) (nI (P j)) = some (nI (W (P j))) from by rw [wayFrom_eq (by omega)]; exact congrArg some (hws _ hpj)]
        simp only [Option.bind_some]
        rw [hw, if_pos (show nI 14 = 14 from rfl)]
      rw [hc, mstep, hw, f_X7_token_L50, if_pos (show i14 14 = -5 from rfl)]
      exact ⟨_, _, _, _, _, _, _, _, _, rfl, rfl, j, by omega, rfl, hgo, h4, h5, Or.inl ⟨hw, rfl, rfl⟩⟩
    · have hi14 : i14 (W (P j)) = nI (W (P j)) := by unfold i14; rw [if_neg (by omega)]
      rw [cstep hw, mstep, hi14]
      by_cases hb : (pth P (j + 1)).testBit (W (P j)) = true
      · obtain ⟨i0, a, b⟩ := (pth_bit P _ (j + 1)).mp hb
        rw [if_pos hb, f_X7_token_L50, if_neg (nI_n5 (by omega)), if_neg (fun e => ((bit_0 hl1 (by omega)).mp e) hb)]
        have hc : f_X5_follow_L20 (K + 1) (nI (pth P (j + 2))) (ws, nI (j + 1), 1, nI (W (P j))) = some (ws, nI (j + 1), 1, nI (W (P j))) := by
          rw [f_X5_follow_L20]
          by_cases e : (14 : Int32) ≤ nI (j + 1)
          · rw [if_pos e]
          · rw [if_neg e, if_neg n10]
        rw [hc]
        exact ⟨_, _, _, _, _, _, _, _, _, rfl, rfl, j, by omega, rfl, hgo, h4, h5, Or.inr ⟨i0, by omega, b.symm, by rw [b], by rw [b]⟩⟩
      · rw [if_neg hb, ← hP]
        refine ih (j + 1) (K + 1) (K' + 1) _ _ _ _ _ _ (by omega) (by omega) (by omega) (fun i hi => ?_) (fun i hi i' hi' => ?_) (fun i hi => hgo i (by omega))
        · by_cases e : i = j + 1
          · rw [e, hP]; exact hw
          · exact h4 i (by omega)
        · by_cases e : i = j + 1
          · intro e2
            rw [e, hP] at e2
            exact hb ((pth_bit P _ (j + 1)).mpr ⟨i', by omega, e2⟩)
          · exact h5 i (by omega) i' hi'
end TK
