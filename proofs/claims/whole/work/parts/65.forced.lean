/-! forced, rank, trap: class and model -/
theorem nI_self (x : Int32) : nI x.toBitVec.toNat = x := by
  apply Int32.toBitVec_inj.mp
  show BitVec.ofNat 32 x.toBitVec.toNat = x.toBitVec
  rw [BitVec.ofNat_toNat, BitVec.setWidth_eq]
theorem nI_z {a : Nat} (h : a < 2 ^ 32) : nI a = 0 ↔ a = 0 := by
  constructor
  · intro e
    have h1 := congrArg (fun z : Int32 => z.toBitVec.toNat) e
    simp only [pk_tn h] at h1
    exact h1
  · intro e; rw [e]; rfl
theorem noPlayer_eq (x : Int32) : f_X7_noPlayer x = some (if x = 0 ∨ x = 1 then 0 else 1) := by
  unfold f_X7_noPlayer
  rw [in_eq]
  rcases pk_ix x (n := 2) (by omega) with h | h | ⟨j, hj, rfl⟩
  · have h0 : ¬ (x = 0 ∨ x = 1) := by
      rintro (rfl | rfl)
      · exact absurd h (by decide)
      · exact absurd h (by decide)
    rw [if_pos h, if_neg h0]; rfl
  · have h0 : ¬ (x = 0 ∨ x = 1) := by
      rintro (rfl | rfl)
      · exact absurd h (by decide)
      · exact absurd h (by decide)
    have h1 : ¬ x < 0 := by
      intro e
      rw [Int32.lt_iff_toInt_lt] at e
      rw [Int32.le_iff_toInt_le, nI_toInt (by omega)] at h
      rw [Int32.toInt_zero] at e
      omega
    have h2 : (1 : Int32) < x := by
      rw [Int32.le_iff_toInt_le, nI_toInt (by omega)] at h
      rw [Int32.lt_iff_toInt_lt, show (1 : Int32).toInt = 1 from by decide]
      omega
    rw [if_neg h1, if_pos h2, if_neg h0]; rfl
  · rcases (show j = 0 ∨ j = 1 by omega) with rfl | rfl <;> decide
/-- a player or not -/
theorem player_cases (x : Int32) : (∃ pl, pl < 2 ∧ x = nI pl) ∨ ¬ (x = 0 ∨ x = 1) := by
  by_cases h : x = 0 ∨ x = 1
  · rcases h with rfl | rfl
    · exact Or.inl ⟨0, by omega, rfl⟩
    · exact Or.inl ⟨1, by omega, rfl⟩
  · exact Or.inr h
theorem isPl {pl : Nat} (h : pl < 2) : (nI pl = 0 ∨ nI pl = 1) := by
  rcases (show pl = 0 ∨ pl = 1 by omega) with rfl | rfl
  · exact Or.inl rfl
  · exact Or.inr rfl
theorem place_cases (x : Int32) (n : Nat) : (∃ p, p < n ∧ x = nI p) ∨ ∀ p, p < n → x ≠ nI p := by
  by_cases h : ∃ p, p < n ∧ x = nI p
  · exact Or.inl h
  · exact Or.inr fun p hp e => h ⟨p, hp, e⟩
theorem set_cases (x : Int32) (n : Nat) : (∃ s, s < 2 ^ n ∧ x = nI s) ∨ ∀ s, s < 2 ^ n → x ≠ nI s := by
  by_cases h : ∃ s, s < 2 ^ n ∧ x = nI s
  · exact Or.inl h
  · exact Or.inr fun p hp e => h ⟨p, hp, e⟩
section FO
variable {n : Nat} {ow co ar ch : Nat → Nat} {m : Nat} {g : GG} {f : Nat → Int32}
theorem pow_n (hn : n ≤ 14) : 2 ^ n ≤ 16384 := by
  have : 2 ^ n ≤ 2 ^ 14 := Nat.pow_le_pow_right (by omega) hn
  omega
theorem all_eq (hR : rG g n ow co ar) (hn : n ≤ 14) : f_X1_all g = some (nI (2 ^ n - 1)) := by
  unfold f_X1_all
  have h1 : 0 < 2 ^ n := Nat.pow_pos (by omega)
  rw [hR.1, bit_eq (by omega)]
  simp only [Option.bind_some]
  rw [show (nI (2 ^ n) - 1 : Int32) = nI (2 ^ n - 1) from pk_sub (b := 1) (by omega)]
theorem hasAll_eq (hR : rG g n ow co ar) (hn : n ≤ 14) (x : Int32) : f_X1_hasAll g x = some (if x.toBitVec.toNat < 2 ^ n then 1 else 0) := by
  unfold f_X1_hasAll
  rw [all_eq hR hn]
  simp only [Option.bind_some]
  have hs : x.toBitVec.toNat < 2 ^ 32 := x.toBitVec.isLt
  have h2 := pow_n hn
  generalize hx : x.toBitVec.toNat = s at hs
  have e : x = nI s := by rw [← hx, nI_self]
  rw [e, show (-1 : Int32) = nI (2 ^ 32 - 1) from by decide, nI_xor, nI_and]
  have hl : s &&& ((2 ^ n - 1) ^^^ (2 ^ 32 - 1)) < 2 ^ 32 := Nat.lt_of_le_of_lt Nat.and_le_left hs
  have key : s &&& ((2 ^ n - 1) ^^^ (2 ^ 32 - 1)) = 0 ↔ s < 2 ^ n := by
    rw [and_0]
    constructor
    · intro h
      refine lt_of_bits fun k hk => ?_
      cases hb : s.testBit k with
      | false => rfl
      | true =>
        have h1 := h k hb
        have h3 : k < 32 := Nat.lt_of_not_le fun hle => by rw [bits_lt hs hle] at hb; cases hb
        rw [Nat.testBit_xor, Nat.testBit_two_pow_sub_one, Nat.testBit_two_pow_sub_one] at h1
        simp [h3, Nat.not_lt.mpr hk] at h1
    · intro h k hb
      have h3 : k < n := Nat.lt_of_not_le fun hle => by rw [bits_lt h hle] at hb; cases hb
      rw [Nat.testBit_xor, Nat.testBit_two_pow_sub_one, Nat.testBit_two_pow_sub_one]
      simp [h3, show k < 32 by omega]
  by_cases h : s < 2 ^ n
  · rw [if_pos ((nI_z hl).mpr (key.mpr h)), if_pos h]
  · rw [if_neg (fun e => h (key.mp ((nI_z hl).mp e))), if_neg h]
theorem hasAll_in (hR : rG g n ow co ar) (hn : n ≤ 14) {s : Nat} (hs : s < 2 ^ n) : f_X1_hasAll g (nI s) = some 1 := by
  have h2 := pow_n hn
  rw [hasAll_eq hR hn, pk_tn (by omega), if_pos hs]
theorem hasAll_out (hR : rG g n ow co ar) (hn : n ≤ 14) {x : Int32} (hx : ∀ s, s < 2 ^ n → x ≠ nI s) : f_X1_hasAll g x = some 0 := by
  rw [hasAll_eq hR hn, if_neg (fun h => hx _ h (nI_self x).symm)]
theorem isBad_in (hM : rM f n ow co ar ch) (hn : n ≤ 14) {s : Nat} (hs : s < 2 ^ n) : f_X7_isBad f (nI s) = some 0 := by
  have h2 := pow_n hn
  unfold f_X7_isBad
  rw [if_neg (nI_pos (by omega)), hM.1, jshl_1 (by omega), if_pos ((nI_ltI (by omega) (by omega)).mpr hs)]
theorem isBad_out (hM : rM f n ow co ar ch) (hn : n ≤ 14) {x : Int32} (hx : ∀ s, s < 2 ^ n → x ≠ nI s) : f_X7_isBad f x = some 1 := by
  have h2 := pow_n hn
  unfold f_X7_isBad
  rw [hM.1, jshl_1 (by omega)]
  rcases pk_ix x (n := 2 ^ n) (by omega) with h | h | ⟨j, hj, rfl⟩
  · rw [if_pos h]
  · by_cases h0 : x < 0
    · rw [if_pos h0]
    · rw [if_neg h0, if_neg (Int32.not_lt.mpr h)]
  · exact absurd rfl (hx j hj)
theorem forcedNext_eq (hR : rG g n ow co ar) (ok : okG n ow co ar) {pl s : Nat} (hpl : pl < 2) (hs : s < 2 ^ n) (hm : n < m) : f_X1_forcedNext m g (nI pl) (nI s) = some (nI (fN n ow ar pl s)) := by
  unfold f_X1_forcedNext
  have hn := ok.1
  have hs31 := p31 hn hs
  have := loop_fo (fun k (a : Int32) i => f_X1_forcedNext_L5 g (nI pl) (nI s) k a i) nI nI (fun p t => if fcP ow ar pl s p = true then t ||| 2 ^ p else t) n s
    (fun k => by
      show f_X1_forcedNext_L5 g (nI pl) (nI s) (k + 1) _ _ = _
      rw [f_X1_forcedNext_L5, hR.1, if_pos (nI_le (Nat.le_refl n) (by omega))])
    (fun k i hi => by
      show f_X1_forcedNext_L5 g (nI pl) (nI s) (k + 1) _ _ = f_X1_forcedNext_L5 g (nI pl) (nI s) k _ _
      have h2 := p31 hn (ok.2 i hi).2.2
      have ho := (ok.2 i hi).1
      have b1 : ar i &&& s < 2 ^ 31 := Nat.lt_of_le_of_lt Nat.and_le_left h2
      have b2 : ar i &&& ng s < 2 ^ 31 := Nat.lt_of_le_of_lt Nat.and_le_left h2
      generalize hT : fo (fun p t => if fcP ow ar pl s p = true then t ||| 2 ^ p else t) i s = T
      rw [f_X1_forcedNext_L5, hR.1, if_neg (nI_ge hi (by omega)), vg_nI (by omega) (by omega), tn (by omega), (hR.2 i hi).2.2, (hR.2 i hi).1, nI_and, nI_not h2 hs31]
      have e1 : (if nI (ar i &&& s) = 0 then some (0 : Int32) else some 1) = some (if ar i &&& s = 0 then 0 else 1) := by
        by_cases h : ar i &&& s = 0
        · rw [if_pos (by rw [h]; rfl), if_pos h]
        · rw [if_neg (fun e => h ((nI_z (by omega)).mp e)), if_neg h]
      have e2 : (if nI (ar i &&& (s ^^^ (2 ^ 31 - 1))) = 0 then some (1 : Int32) else some 0) = some (if ar i &&& ng s = 0 then 1 else 0) := by
        by_cases h : ar i &&& ng s = 0
        · rw [if_pos (by show nI (ar i &&& ng s) = 0; rw [h]; rfl), if_pos h]
        · rw [if_neg (show ¬ nI (ar i &&& (s ^^^ (2 ^ 31 - 1))) = 0 from fun e => h ((nI_z (show ar i &&& ng s < 2 ^ 32 by omega)).mp e)), if_neg h]
      rw [e1]
      simp only [Option.bind_some]
      rw [e2]
      simp only [Option.bind_some]
      unfold fcP
      by_cases c1 : ar i &&& s = 0
      · rw [if_pos c1, if_pos rfl, nI_1, if_neg (by simp [c1])]
      · rw [if_neg c1, if_neg (by decide)]
        by_cases c2 : ow i = pl
        · rw [if_pos (by rw [c2]), bit_eq (by omega), if_pos (by simp [c1, c2])]
          simp only [Option.bind_some, nI_or, nI_1]
        · rw [if_neg (by rw [nI_eq (by omega) (by omega)]; exact c2)]
          by_cases c3 : ar i &&& ng s = 0
          · rw [if_pos c3, if_neg (by decide), bit_eq (by omega), if_pos (by simp [c1, c3])]
            simp only [Option.bind_some, nI_or, nI_1]
          · rw [if_neg c3, if_pos rfl, nI_1, if_neg (by simp [c2, c3])]) m hm
  rw [so_init] at this
  have h0 : f_X1_forcedNext_L5 g (nI pl) (nI s) m (nI s) 0 = some (nI (fN n ow ar pl s)) := this
  rw [h0]
  rfl
theorem coming_eq (hM : rM f n ow co ar ch) (ok : okG n ow co ar) {pl s : Nat} (hpl : pl < 2) (hs : s < 2 ^ n) (hm : n < m) : f_X7_coming m f (nI pl) (nI s) = some (nI (so (cmP ow ar pl s) n)) := by
  unfold f_X7_coming
  have hn := ok.1
  have hs31 := p31 hn hs
  have := loop_fo (fun k (a : Int32) i => f_X7_coming_L5 f (nI pl) (nI s) k a i) nI nI (fun p t => if cmP ow ar pl s p = true then t ||| 2 ^ p else t) n 0
    (fun k => by
      show f_X7_coming_L5 f (nI pl) (nI s) (k + 1) _ _ = _
      rw [f_X7_coming_L5, hM.1, if_pos (nI_le (Nat.le_refl n) (by omega))])
    (fun k i hi => by
      show f_X7_coming_L5 f (nI pl) (nI s) (k + 1) _ _ = f_X7_coming_L5 f (nI pl) (nI s) k _ _
      have h2 := p31 hn (ok.2 i hi).2.2
      have ho := (ok.2 i hi).1
      have b1 : ar i &&& s < 2 ^ 31 := Nat.lt_of_le_of_lt Nat.and_le_left h2
      have b2 : ar i &&& ng s < 2 ^ 31 := Nat.lt_of_le_of_lt Nat.and_le_left h2
      generalize hT : fo (fun p t => if cmP ow ar pl s p = true then t ||| 2 ^ p else t) i 0 = T
      have hc : f_X7_comes f (nI pl) (nI s) (nI i) = some (if (if ow i == pl then !(ar i &&& s == 0) else (!(ar i == 0) && ar i &&& ng s == 0)) = true then 1 else 0) := by
        unfold f_X7_comes
        rw [of2 (by omega), of0 (by omega), (hM.2 i hi).1, (hM.2 i hi).2.2.1]
        simp only [Option.bind_some]
        rw [nI_and, nI_not h2 hs31]
        by_cases c2 : ow i = pl
        · rw [if_pos (by rw [c2])]
          by_cases c1 : ar i &&& s = 0
          · rw [if_pos (by rw [c1]; rfl), if_neg (by simp [c1, c2])]
          · rw [if_neg (fun e => c1 ((nI_z (by omega)).mp e)), if_pos (by simp [c1, c2])]
        · rw [if_neg (by rw [nI_eq (by omega) (by omega)]; exact c2)]
          by_cases c4 : ar i = 0
          · rw [if_pos (by rw [c4]; rfl), if_neg (by simp [c2, c4])]
          · rw [if_neg (fun e => c4 ((nI_z (by omega)).mp e))]
            by_cases c3 : ar i &&& ng s = 0
            · rw [if_pos (by show nI (ar i &&& ng s) = 0; rw [c3]; rfl), if_pos (by simp [c2, c3, c4])]
            · rw [if_neg (show ¬ nI (ar i &&& (s ^^^ (2 ^ 31 - 1))) = 0 from fun e => c3 ((nI_z (show ar i &&& ng s < 2 ^ 32 by omega)).mp e)), if_neg (by simp [c2, c3])]
      rw [f_X7_coming_L5, hM.1, if_neg (nI_ge hi (by omega)), hc]
      unfold cmP
      simp only [Option.bind_some]
      rw [show (0 : Int32) = nI 0 from rfl, nI_or, Nat.or_zero, jshl_1 (by omega), nI_or, nI_1, show nI 0 = (0 : Int32) from rfl]
      by_cases cb : s.testBit i = true
      · rw [if_neg (fun e => ((bit_0 hs31 (by omega)).mp e) cb), if_neg (by simp [cb])]
      · rw [if_pos ((bit_0 hs31 (by omega)).mpr cb)]
        by_cases cc : (if ow i == pl then !(ar i &&& s == 0) else (!(ar i == 0) && ar i &&& ng s == 0)) = true
        · rw [if_pos cc, if_neg (by decide), if_pos (by simp [cb] at cc ⊢; exact cc)]
        · rw [if_neg cc, if_pos rfl, if_neg (by intro e; apply cc; simp [cb] at e ⊢; exact e)]) m hm
  have h0 : f_X7_coming_L5 f (nI pl) (nI s) m 0 0 = some (nI (so (cmP ow ar pl s) n)) := this
  rw [h0]
  rfl
end FO
