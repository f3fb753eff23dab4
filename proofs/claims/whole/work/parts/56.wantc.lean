/-! the class's wanted measure is wN -/
theorem jshl_nI {a k : Nat} (h : k < 32) (ha : a * 2 ^ k < 2 ^ 32) : jshl (nI a) (nI k) = nI (a * 2 ^ k) := by
  show nI a <<< (nI k &&& 31) = nI (a * 2 ^ k)
  rw [pk_shlN (nI k &&& 31) k (sh_k k h) ha]
theorem p16 (j : Nat) : 2 ^ (4 * j) = 16 ^ j := by rw [Nat.pow_mul]
theorem i_m1 (x : Int32) : x + (-1) = x - 1 := by rw [Int32.sub_eq_add_neg]
theorem nI_15 {t : Nat} (h : t < 2 ^ 31) : nI t &&& 15 = nI (t % 16) := by
  rw [show (15 : Int32) = nI 15 from rfl, nI_and, show (15 : Nat) = 2 ^ 4 - 1 from rfl, Nat.and_two_pow_sub_one_eq_mod]
theorem L68_eq {meas : EE} {mo : Nat → Nat} (hmo : ∀ k, k < 4 → meas.1 k = nI (mo k)) (hle : ∀ k, k < 4 → mo k ≤ 14) : ∀ (k t f : Nat), k ≤ 4 → t < 65536 → k < f → f_X3_wanted_L68 meas f (nI (4 * (4 - k))) (nI t) (nI k - 1) = some (nI (up16 mo k t)) := by
  intro k
  induction k with
  | zero =>
    intro t f _ _ hf
    obtain ⟨f, rfl⟩ : ∃ f', f = f' + 1 := ⟨f - 1, by omega⟩
    rw [f_X3_wanted_L68, if_pos (by decide)]
    rfl
  | succ k ih =>
    intro t f hk ht hf
    obtain ⟨f, rfl⟩ : ∃ f', f = f' + 1 := ⟨f - 1, by omega⟩
    have hp : 16 ^ (3 - k) ≤ 4096 := by
      rcases (show k = 0 ∨ k = 1 ∨ k = 2 ∨ k = 3 by omega) with rfl | rfl | rfl | rfl <;> decide
    have hp0 : 0 < 16 ^ (3 - k) := Nat.pow_pos (by omega)
    have e4 : 4 * (4 - (k + 1)) = 4 * (3 - k) := by omega
    have hd : t / 16 ^ (3 - k) < 65536 := Nat.lt_of_le_of_lt (Nat.div_le_self _ _) ht
    have hn : t / 16 ^ (3 - k) % 16 < 16 := Nat.mod_lt _ (by omega)
    have hmk := hle k (by omega)
    have hsub : t / 16 ^ (3 - k) % 16 * 16 ^ (3 - k) ≤ t := by
      have h1 := Nat.div_mul_le_self t (16 ^ (3 - k))
      have h2 : t / 16 ^ (3 - k) % 16 ≤ t / 16 ^ (3 - k) := Nat.mod_le _ _
      exact Nat.le_trans (Nat.mul_le_mul_right _ h2) h1
    have h16 : t / 16 ^ (3 - k) % 16 * 16 ^ (3 - k) ≤ 15 * 4096 := Nat.mul_le_mul (by omega) hp
    rw [f_X3_wanted_L68, nI_pred, if_neg (nI_pos (by omega)), vg_nI (by omega) (by omega), tn (by omega), hmo k (by omega), e4, jshr_nI (by omega) (by omega), p16, nI_15 (by omega)]
    rw [up16]
    by_cases h : t / 16 ^ (3 - k) % 16 < mo k
    · rw [if_neg (by rw [nI_leI (by omega) (by omega)]; omega), if_pos h, jshl_1 (by omega), p16, nI_add]
    · rw [if_pos (by rw [nI_leI (by omega) (by omega)]; omega), if_neg h, jshl_nI (by omega) (by rw [p16]; omega), p16, pk_sub hsub, show (4 : Int32) = nI 4 from rfl, nI_add, show 4 * (3 - k) + 4 = 4 * (4 - k) by omega, i_m1]
      exact ih _ f (by omega) (by omega) (by omega)
theorem X3_wanted_eq {meas : EE} {g : GG} {n m : Nat} {ow co ar mo M : Nat → Nat} (hR : rG g n ow co ar) (ok : okG n ow co ar) (hmo : ∀ k, k < 4 → meas.1 k = nI (mo k)) (hle : ∀ k, k < 4 → mo k ≤ 14) (hM : ∀ p, p < n → meas.2.1 p = nI (M p)) (hv : ∀ p, p < n → vM (M p)) (hm : 5 ≤ m) {p q : Nat} (hp : p < n) (hq : q < n) : f_X3_wanted m meas g (nI p) (nI q) = some (nI (wN mo (co p) (M q))) := by
  have hn := ok.1
  have hvq := vM_le (hv q hq)
  unfold f_X3_wanted
  rw [vg_nI (by omega) (by omega), tn (by omega), hM q hq, show (65536 : Int32) = nI 65536 from rfl]
  by_cases hl : M q = 65536
  · rw [if_pos (by rw [hl])]
    unfold wN
    rw [if_pos hl]
  · rw [if_neg (by rw [nI_eq (by omega) (by omega)]; exact hl), vg_nI (by omega) (by omega), tn (by omega), (hR.2 p hp).2.1]
    have hc := (ok.2 p hp).2.1
    generalize co p = c at hc
    unfold lt wN
    rw [if_neg hl]
    have ex : ∀ j : Nat, j ≤ 4 → ∀ x : Int32, x = nI (4 * (4 - j)) → jshl (jshr (nI (M q)) x) x = nI (M q / 16 ^ (4 - j) * 16 ^ (4 - j)) := by
      intro j hj x hx
      have h1 := Nat.div_mul_le_self (M q) (16 ^ (4 - j))
      rw [hx, jshr_nI (by omega) (by omega), jshl_nI (by omega) (by rw [p16]; omega), p16]
    have hlt : ∀ j : Nat, M q / 16 ^ j * 16 ^ j < 65536 := fun j => Nat.lt_of_le_of_lt (Nat.div_mul_le_self _ _) (by omega)
    rcases (show c = 0 ∨ c = 1 ∨ c = 2 ∨ c = 3 ∨ c = 4 ∨ c = 5 ∨ c = 6 ∨ c = 7 ∨ c = 8 by omega) with rfl | rfl | rfl | rfl | rfl | rfl | rfl | rfl | rfl
    · rw [ex 0 (by omega) _ (by decide)]
      dsimp only
      rw [if_pos (by decide), if_pos (by decide)]
    · rw [ex 1 (by omega) _ (by decide)]
      dsimp only
      rw [if_neg (by decide), if_neg (by decide), show (4 * (3 - ((nI 1 + 1) / 2 - 1)) : Int32) = nI (4 * (4 - 1)) from by decide, show ((nI 1 + 1) / 2 - 1 : Int32) = nI 1 - 1 from by decide]
      exact L68_eq hmo hle 1 _ m (by omega) (hlt 3) (by omega)
    · rw [ex 1 (by omega) _ (by decide)]
      dsimp only
      rw [if_pos (by decide), if_pos (by decide)]
    · rw [ex 2 (by omega) _ (by decide)]
      dsimp only
      rw [if_neg (by decide), if_neg (by decide), show (4 * (3 - ((nI 3 + 1) / 2 - 1)) : Int32) = nI (4 * (4 - 2)) from by decide, show ((nI 3 + 1) / 2 - 1 : Int32) = nI 2 - 1 from by decide]
      exact L68_eq hmo hle 2 _ m (by omega) (hlt 2) (by omega)
    · rw [ex 2 (by omega) _ (by decide)]
      dsimp only
      rw [if_pos (by decide), if_pos (by decide)]
    · rw [ex 3 (by omega) _ (by decide)]
      dsimp only
      rw [if_neg (by decide), if_neg (by decide), show (4 * (3 - ((nI 5 + 1) / 2 - 1)) : Int32) = nI (4 * (4 - 3)) from by decide, show ((nI 5 + 1) / 2 - 1 : Int32) = nI 3 - 1 from by decide]
      exact L68_eq hmo hle 3 _ m (by omega) (hlt 1) (by omega)
    · rw [ex 3 (by omega) _ (by decide)]
      dsimp only
      rw [if_pos (by decide), if_pos (by decide)]
    · rw [ex 4 (by omega) _ (by decide)]
      dsimp only
      rw [if_neg (by decide), if_neg (by decide), show (4 * (3 - ((nI 7 + 1) / 2 - 1)) : Int32) = nI (4 * (4 - 4)) from by decide, show ((nI 7 + 1) / 2 - 1 : Int32) = nI 4 - 1 from by decide]
      exact L68_eq hmo hle 4 _ m (by omega) (hlt 0) (by omega)
    · rw [ex 4 (by omega) _ (by decide)]
      dsimp only
      rw [if_pos (by decide), if_pos (by decide)]
