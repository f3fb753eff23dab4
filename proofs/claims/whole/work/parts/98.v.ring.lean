/-! ringAt, in the model -/
section RT2
variable {n m : Nat} {ow co ar ch : Nat → Nat} {f mj : Nat → Int32} {tk : Nat} {c0 : Int32}
theorem ringAt_eq {aj : Nat → Nat} (hM : rN f n ow co ar ch tk c0) (ok : okG n ow co ar) (hj : ∀ p, p < n → mj p = nI (aj p)) {x : Nat} (hx : x < n) (hm : 100 < m) : (∃ j, j < n ∧ TCk (wiN n co (co x)) aj x j x ∧ (∀ i, i < j → ¬ TCk (wiN n co (co x)) aj x i x) ∧ f_X7_ringAt m f mj (nI x) = some (nI (j + 1))) ∨ (¬ TC (wiN n co (co x)) aj x x ∧ f_X7_ringAt m f mj (nI x) = some (-5)) := by
  have hn := ok.1
  have hA := wi_lt (n := n) (co := co) (c := co x)
  have hxA := wi_self (co := co) hx
  unfold f_X7_ringAt
  rw [within2_eq hM ok hx (by omega), jshl_1 (by omega)]
  simp only [Option.bind_some]
  generalize wiN n co (co x) = A at hA hxA
  have hml : ∀ k, (bf n aj A x k).1 < 2 ^ n := bf_met_lt hA
  have hfl : ∀ k, (bf n aj A x k).2 < 2 ^ n := bf_front_lt hA hxA
  have hq : ∀ k, (stF n aj A (bf n aj A x k).2).testBit x = true → TCk A aj x k x := fun k h => by
    obtain ⟨⟨p, h1, h2, h3⟩, h4⟩ := stF_bit.mp h
    rcases ((bf_spec hn hA hxA k).2 p).mp h2 with ⟨rfl, rfl⟩ | ⟨k', rfl, a, -⟩
    · exact ⟨hxA, h4, h3⟩
    · exact ⟨p, a, h4, h3⟩
  have hsl : ∀ k, stF n aj A (bf n aj A x k).2 < 2 ^ n := fun k => Nat.lt_of_le_of_lt Nat.and_le_right hA
  have scan : ∀ i, (∀ j, j < i → (bf n aj A x j).2 ≠ 0 ∧ ¬ TCk A aj x j x) → i ≤ 20 → ∀ K, f_X7_ringAt_L56 m f mj (nI x) (nI A) (K + i) 0 (nI (2 ^ x)) 1 = f_X7_ringAt_L56 m f mj (nI x) (nI A) K (nI (bf n aj A x i).1) (nI (bf n aj A x i).2) (nI (i + 1)) := by
    intro i
    induction i with
    | zero => intro _ _ K; rfl
    | succ i ih =>
      intro h hi K
      obtain ⟨b1, b2⟩ := h i (by omega)
      have l1 := p31 hn (hfl i)
      have l2 := p31 hn (hsl i)
      rw [show K + (i + 1) = (K + 1) + i by omega, ih (fun j hj => h j (by omega)) (by omega) (K + 1), f_X7_ringAt_L56, if_neg (fun z => b1 ((nI_z (by omega)).mp z)), front_eq hM hn hj (hfl i) (by omega)]
      simp only [Option.bind_some]
      rw [if_neg (fun z => b2 (hq i ((bit_iff l2 (by omega)).mp z))), nI_or, nI_not l2 (p31 hn (hml i)), nI_1]
      rfl
  have ex : ∃ k, k ≤ n + 1 ∧ ((bf n aj A x k).2 = 0 ∨ TCk A aj x k x) ∧ ∀ i, i < k → ¬ ((bf n aj A x i).2 = 0 ∨ TCk A aj x i x) := by
    rcases first_or (fun k => (bf n aj A x k).2 = 0 ∨ TCk A aj x k x) (n + 1) with h | h
    · exact h
    · have h1 := bf_grow hn hA hxA (n + 1) (fun i hi z => h (i + 1) (by omega) (Or.inl z))
      have h2 := cd_le n (bf n aj A x (n + 1)).1
      omega
  obtain ⟨k, k1, k2, k3⟩ := ex
  have e1 := scan k (fun j hj => ⟨fun z => k3 j hj (Or.inl z), fun z => k3 j hj (Or.inr z)⟩) (by omega) ((m - k - 1) + 1)
  rw [show (m - k - 1) + 1 + k = m by omega] at e1
  by_cases h0 : (bf n aj A x k).2 = 0
  · refine Or.inr ⟨fun z => ?_, ?_⟩
    · cases k with
      | zero => exact absurd h0 (Nat.pos_iff_ne_zero.mp (Nat.pow_pos (by omega)))
      | succ k =>
        obtain ⟨i, i1, i2⟩ := bf_closed hn hA hxA h0 z
        exact k3 i i1 (Or.inr i2)
    · rw [e1, f_X7_ringAt_L56, h0, if_pos (show nI 0 = 0 from rfl)]
  · have hk := k2.resolve_left h0
    have l1 := p31 hn (hfl k)
    have l2 := p31 hn (hsl k)
    have hxq : (stF n aj A (bf n aj A x k).2).testBit x = true := by
      have h1 : (bf n aj A x (k + 1)).1.testBit x = true := ((bf_spec hn hA hxA (k + 1)).1 x).mpr ⟨k, by omega, hk⟩
      have h2 : ((bf n aj A x k).1 ||| stF n aj A (bf n aj A x k).2).testBit x = true := h1
      rw [Nat.testBit_or, Bool.or_eq_true] at h2
      rcases h2 with h2 | h2
      · obtain ⟨i, i1, i2⟩ := ((bf_spec hn hA hxA k).1 x).mp h2
        exact absurd (Or.inr i2) (k3 i i1)
      · exact h2
    have hkn : k < n := by
      have h1 := bf_grow hn hA hxA k (fun i hi z => by
        by_cases e : i + 1 = k
        · rw [e] at z; exact h0 z
        · exact k3 (i + 1) (by omega) (Or.inl z))
      have h2 : sub (bf n aj A x k).1 (bf n aj A x (k + 1)).1 := fun w hw => by
        obtain ⟨i, c, d⟩ := ((bf_spec hn hA hxA k).1 w).mp hw
        exact ((bf_spec hn hA hxA (k + 1)).1 w).mpr ⟨i, by omega, d⟩
      have h3 : (bf n aj A x k).1 ≠ (bf n aj A x (k + 1)).1 := fun e => by
        have h4 := ((bf_spec hn hA hxA (k + 1)).1 x).mpr ⟨k, by omega, hk⟩
        rw [← e] at h4
        obtain ⟨i, i1, i2⟩ := ((bf_spec hn hA hxA k).1 x).mp h4
        exact k3 i i1 (Or.inr i2)
      have h5 := grow_ne (hml (k + 1)) h2 h3
      have h6 := cd_le n (bf n aj A x (k + 1)).1
      omega
    refine Or.inl ⟨k, hkn, hk, fun i hi z => k3 i hi (Or.inr z), ?_⟩
    rw [e1, f_X7_ringAt_L56, if_neg (fun z => h0 ((nI_z (by omega)).mp z)), front_eq hM hn hj (hfl k) (by omega)]
    simp only [Option.bind_some]
    rw [if_pos ((bit_iff l2 (by omega)).mpr hxq)]
end RT2
