/-! how many bits -/
theorem X7_bits_eq {a m : Nat} (ha : a < 2 ^ 31) (hm : 14 < m) : f_X7_bits m (nI a) = some (nI (pc a)) := by
  unfold f_X7_bits
  have := loop_fo (fun k (s : Int32) i => f_X7_bits_L4 (nI a) k s i) nI nI (fun k c => c + a / 2 ^ k % 2) 14 0
    (fun k => by
      show f_X7_bits_L4 (nI a) (k + 1) _ _ = _
      rw [f_X7_bits_L4, if_pos (by decide)])
    (fun k i hi => by
      show f_X7_bits_L4 (nI a) (k + 1) _ _ = f_X7_bits_L4 (nI a) k _ _
      rw [f_X7_bits_L4, if_neg (by rw [show (14 : Int32) = nI 14 from rfl, nI_leI (by omega) (by omega)]; omega), jshr_nI ha (by omega), show (1 : Int32) = nI 1 from rfl, nI_and, Nat.and_one_is_mod, nI_add, nI_add]) m hm
  have h0 : f_X7_bits_L4 (nI a) m 0 0 = some (nI (pc a)) := this
  rw [h0]
  rfl
theorem bc_all : (List.range 16384).all (fun a => bcI (nI a) == nI (pc a)) = true := by decide +kernel
theorem bcI_eq {a : Nat} (h : a < 2 ^ 14) : bcI (nI a) = nI (pc a) := by
  have := List.all_eq_true.mp bc_all a (List.mem_range.mpr (by omega))
  exact eq_of_beq this
theorem pc_le (a : Nat) : pc a ≤ 14 := by
  unfold pc
  have : ∀ i, fo (fun k c => c + a / 2 ^ k % 2) i 0 ≤ i := by
    intro i
    induction i with
    | zero => exact Nat.le_refl _
    | succ i ih =>
      rw [fo_s]
      have := Nat.mod_lt (a / 2 ^ i) (show 0 < 2 by omega)
      omega
  exact this 14
def cntN (n : Nat) (ar : Nat → Nat) : Nat := fo (fun p c => c + pc (ar p)) n 0
theorem cntN_le (n : Nat) (ar : Nat → Nat) : cntN n ar ≤ 14 * n := by
  unfold cntN
  induction n with
  | zero => exact Nat.le_refl _
  | succ n ih =>
    rw [fo_s]
    have := pc_le (ar n)
    omega
section BC
variable {n : Nat} {ow co ar ch : Nat → Nat} {m : Nat}
theorem X1_arrowCount_eq {g : GG} (hR : rG g n ow co ar) (ok : okG n ow co ar) (hm : 14 < m) : f_X1_arrowCount m g = some (nI (cntN n ar)) := by
  have hn := ok.1
  rw [arrowCount_eq hR hn (by omega)]
  congr 1
  unfold cntN
  have : ∀ i, i ≤ n → fo (fun p (c : Int32) => c + bcI (nI (ar p))) i 0 = nI (fo (fun p c => c + pc (ar p)) i 0) := by
    intro i
    induction i with
    | zero => intro _; rfl
    | succ i ih =>
      intro hi
      rw [fo_s, fo_s, ih (by omega), bcI_eq (lt14 hn (ok.2 i (by omega)).2.2), nI_add]
  exact this n (Nat.le_refl n)
theorem X7_arrows_eq {f : Nat → Int32} (hM : rM f n ow co ar ch) (ok : okG n ow co ar) (hm : 14 < m) : f_X7_arrows m f = some (nI (cntN n ar)) := by
  have hn := ok.1
  unfold f_X7_arrows
  have := loop_fo (fun k (s : Int32) i => f_X7_arrows_L4 m f k s i) nI nI (fun p c => c + pc (ar p)) n 0
    (fun k => by
      show f_X7_arrows_L4 m f (k + 1) _ _ = _
      rw [f_X7_arrows_L4, hM.1, if_pos (nI_le (Nat.le_refl n) (by omega))])
    (fun k i hi => by
      show f_X7_arrows_L4 m f (k + 1) _ _ = f_X7_arrows_L4 m f k _ _
      rw [f_X7_arrows_L4, hM.1, if_neg (nI_ge hi (by omega)), of2 (by omega), (hM.2 i hi).2.2.1]
      simp only [Option.bind_some]
      rw [X7_bits_eq (p31 hn (ok.2 i hi).2.2) hm]
      simp only [Option.bind_some, nI_add, nI_1]) m (by omega)
  have h0 : f_X7_arrows_L4 m f m 0 0 = some (nI (cntN n ar)) := this
  rw [h0]
  rfl
end BC
