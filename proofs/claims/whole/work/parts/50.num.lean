/-! PURE PART. Numbers as int, sets as bits, loops as folds. -/
theorem vg_nI {α : Type} {i n : Nat} {x : Option α} (h : i < n) (hn : n ≤ 100000) : vg (nI i) n x = x := by
  unfold vg
  rw [if_neg (nI_in h (by omega))]
theorem vg_in {α : Type} {i : Int32} {n : Nat} {x : Option α} (h : vp_in i n) : vg i n x = x := by
  unfold vg
  rw [if_neg h]
theorem zg_01 {α : Type} {i : Int32} {x : Option α} (h : i = 0 ∨ i = 1) : zg i x = x := by
  unfold zg
  rw [if_pos h]
theorem nI_and (a b : Nat) : nI a &&& nI b = nI (a &&& b) := by
  apply Int32.toBitVec_inj.mp
  show BitVec.ofNat 32 a &&& BitVec.ofNat 32 b = BitVec.ofNat 32 (a &&& b)
  rw [BitVec.ofNat_and]
theorem nI_or (a b : Nat) : nI a ||| nI b = nI (a ||| b) := by
  apply Int32.toBitVec_inj.mp
  show BitVec.ofNat 32 a ||| BitVec.ofNat 32 b = BitVec.ofNat 32 (a ||| b)
  rw [BitVec.ofNat_or]
theorem nI_xor (a b : Nat) : nI a ^^^ nI b = nI (a ^^^ b) := by
  apply Int32.toBitVec_inj.mp
  show BitVec.ofNat 32 a ^^^ BitVec.ofNat 32 b = BitVec.ofNat 32 (a ^^^ b)
  rw [BitVec.ofNat_xor]
theorem sh_k : ∀ k, k < 32 → ((nI k &&& 31).toBitVec.smod 32).toNat = k := by decide +kernel
theorem jshl_1 {k : Nat} (h : k < 31) : jshl 1 (nI k) = nI (2 ^ k) := by
  show nI 1 <<< (nI k &&& 31) = nI (2 ^ k)
  rw [pk_shlN (nI k &&& 31) k (sh_k k (by omega)) (by
    have := Nat.pow_lt_pow_right (a := 2) (by omega) (show k < 32 by omega)
    omega), Nat.one_mul]
theorem jshr_nI {a k : Nat} (ha : a < 2 ^ 31) (h : k < 32) : jshr (nI a) (nI k) = nI (a / 2 ^ k) := by
  show nI a >>> (nI k &&& 31) = nI (a / 2 ^ k)
  rw [pk_shrN ha (nI k &&& 31) k (sh_k k h)]
theorem bit_iff {a k : Nat} (ha : a < 2 ^ 31) (h : k < 32) : ((jshr (nI a) (nI k)) &&& 1) = 1 ↔ a.testBit k = true := by
  rw [jshr_nI ha h, show (1 : Int32) = nI 1 from rfl, nI_and, nI_eq (by
    have := Nat.and_le_right (n := a / 2 ^ k) (m := 1)
    omega) (by omega), Nat.and_one_is_mod, Nat.testBit_eq_decide_div_mod_eq, decide_eq_true_eq]
theorem bit_0 {a k : Nat} (ha : a < 2 ^ 31) (h : k < 32) : ((jshr (nI a) (nI k)) &&& 1) = 0 ↔ ¬ a.testBit k = true := by
  rw [← bit_iff ha h, jshr_nI ha h, show (1 : Int32) = nI 1 from rfl, show (0 : Int32) = nI 0 from rfl, nI_and, Nat.and_one_is_mod, nI_eq (by omega) (by omega), nI_eq (by omega) (by omega)]
  omega
theorem nI_not {a b : Nat} (ha : a < 2 ^ 31) (hb : b < 2 ^ 31) : nI a &&& (nI b ^^^ (-1)) = nI (a &&& (b ^^^ (2 ^ 31 - 1))) := by
  have e : nI a &&& (nI b ^^^ (-1)) = (nI a &&& nI (2 ^ 31 - 1)) &&& (nI b ^^^ (-1)) := by
    rw [nI_and, Nat.and_two_pow_sub_one_eq_mod, Nat.mod_eq_of_lt ha]
  rw [e, show (-1 : Int32) = nI (2 ^ 32 - 1) from by decide, nI_xor, nI_and, nI_and]
  congr 1
  apply Nat.eq_of_testBit_eq
  intro i
  simp only [Nat.testBit_and, Nat.testBit_xor, Nat.testBit_two_pow_sub_one]
  by_cases h : i < 31
  · simp [h, show i < 32 by omega]
  · have : a.testBit i = false := Nat.testBit_lt_two_pow (Nat.lt_of_lt_of_le ha (Nat.pow_le_pow_right (by omega) (by omega)))
    simp [this]
/-- a loop over 0, 1 .. n - 1 -/
def fo {α : Type} (f : Nat → α → α) : Nat → α → α
  | 0, a => a
  | n + 1, a => f n (fo f n a)
theorem fo_0 {α : Type} (f : Nat → α → α) (a : α) : fo f 0 a = a := rfl
theorem fo_s {α : Type} (f : Nat → α → α) (n : Nat) (a : α) : fo f (n + 1) a = f n (fo f n a) := rfl
theorem loop_fo {α β σ : Type} (L : Nat → σ → Int32 → Option β) (enc : α → σ) (out : α → β) (f : Nat → α → α) (n : Nat) (a0 : α)
    (hexit : ∀ k, L (k + 1) (enc (fo f n a0)) (nI n) = some (out (fo f n a0)))
    (hstep : ∀ k i, i < n → L (k + 1) (enc (fo f i a0)) (nI i) = L k (enc (f i (fo f i a0))) (nI (i + 1))) (m : Nat) (hm : n < m) : L m (enc a0) (nI 0) = some (out (fo f n a0)) := by
  have key : ∀ i, i ≤ n → L m (enc a0) (nI 0) = L (m - i) (enc (fo f i a0)) (nI i) := by
    intro i
    induction i with
    | zero => intro _; rfl
    | succ i ih =>
      intro hi
      rw [ih (by omega), show m - i = (m - (i + 1)) + 1 by omega, hstep _ i (by omega)]
      rfl
  rw [key n (Nat.le_refl n), show m - n = (m - n - 1) + 1 by omega, hexit]
/-- the places below n with a property, as bits -/
def so (P : Nat → Bool) (n : Nat) : Nat := fo (fun p s => if P p then s ||| 2 ^ p else s) n 0
theorem so_bit (P : Nat → Bool) (n k : Nat) : (so P n).testBit k = (decide (k < n) && P k) := by
  unfold so
  induction n with
  | zero => simp [fo]
  | succ n ih =>
    rw [fo_s]
    by_cases h : P n = true
    · rw [if_pos h, Nat.testBit_or, ih, Nat.testBit_two_pow]
      by_cases hk : n = k
      · subst hk; simp [h]
      · simp only [hk, decide_false, Bool.or_false]
        by_cases h2 : k < n
        · simp [h2, show k < n + 1 by omega]
        · simp [h2, show ¬ k < n + 1 by omega]
    · rw [if_neg h, ih]
      by_cases hk : n = k
      · subst hk; simp [h]
      · by_cases h2 : k < n
        · simp [h2, show k < n + 1 by omega]
        · simp [h2, show ¬ k < n + 1 by omega]
theorem lt_of_bits {s n : Nat} (h : ∀ k, n ≤ k → s.testBit k = false) : s < 2 ^ n := Nat.lt_pow_two_of_testBit s h
theorem so_lt (P : Nat → Bool) (n : Nat) : so P n < 2 ^ n := lt_of_bits fun k hk => by
  rw [so_bit]; simp [Nat.not_lt.mpr hk]
theorem bits_lt {s n : Nat} (h : s < 2 ^ n) {k : Nat} (hk : n ≤ k) : s.testBit k = false := Nat.testBit_lt_two_pow (Nat.lt_of_lt_of_le h (Nat.pow_le_pow_right (by omega) hk))
theorem so_congr {P P' : Nat → Bool} {n : Nat} (h : ∀ k, k < n → P k = P' k) : so P n = so P' n := by
  apply Nat.eq_of_testBit_eq
  intro k
  rw [so_bit, so_bit]
  by_cases hk : k < n
  · simp [hk, h k hk]
  · simp [hk]
theorem so_self {s n : Nat} (h : s < 2 ^ n) : so (fun k => s.testBit k) n = s := by
  apply Nat.eq_of_testBit_eq
  intro k
  rw [so_bit]
  by_cases hk : k < n
  · simp [hk]
  · simp [hk, bits_lt h (Nat.not_lt.mp hk)]
/-- how many places of 14 -/
def pc (a : Nat) : Nat := fo (fun k c => c + a / 2 ^ k % 2) 14 0
theorem lt14 {n s : Nat} (hn : n ≤ 14) (h : s < 2 ^ n) : s < 2 ^ 14 := Nat.lt_of_lt_of_le h (Nat.pow_le_pow_right (by omega) hn)
