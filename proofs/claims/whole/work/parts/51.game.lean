/-! games: n places, owners, colours, arrows as bits -/
def okG (n : Nat) (ow co ar : Nat → Nat) : Prop := n ≤ 14 ∧ ∀ p, p < n → ow p < 2 ∧ co p ≤ 8 ∧ ar p < 2 ^ n
def rG (g : GG) (n : Nat) (ow co ar : Nat → Nat) : Prop := g.1 = nI n ∧ ∀ p, p < n → g.2.1 p = nI (ow p) ∧ g.2.2.1 p = nI (co p) ∧ g.2.2.2 p = nI (ar p)
theorem tn {n : Nat} (h : n < 2 ^ 31) : (nI n).toNatClampNeg = n := nI_clamp h
theorem p31 {n s : Nat} (hn : n ≤ 14) (h : s < 2 ^ n) : s < 2 ^ 31 := by
  have := lt14 hn h
  omega
/-- the bitwise count of the JDK's, and the one by a loop -/
def bcI (x : Int32) : Int32 := (f_J6_bitCount_0f7a4 x).getD 0
theorem bc_some (x : Int32) : f_J6_bitCount_0f7a4 x = some (bcI x) := rfl
theorem isPlayer_eq (x : Int32) : f_X6_isPlayer x = some (if x = 0 ∨ x = 1 then 1 else 0) := by
  unfold f_X6_isPlayer
  by_cases h0 : x = 0
  · simp [h0]
  · by_cases h1 : x = 1
    · simp [h1]
    · simp [h0, h1]
theorem contains_eq {a k : Nat} (ha : a < 2 ^ 31) (h : k < 32) : f_X6_contains (nI a) (nI k) = some (if a.testBit k then 1 else 0) := by
  unfold f_X6_contains
  by_cases hb : a.testBit k = true
  · rw [if_pos ((bit_iff ha h).mpr hb), if_pos hb]
  · rw [if_neg (fun e => hb ((bit_iff ha h).mp e)), if_neg hb]
theorem bit_eq {k : Nat} (h : k < 31) : f_X6_bit (nI k) = some (nI (2 ^ k)) := by
  unfold f_X6_bit
  rw [jshl_1 h]
section G1
variable {g : GG} {n : Nat} {ow co ar : Nat → Nat} {m : Nat}
theorem has_in (hR : rG g n ow co ar) (hn : n ≤ 14) {p : Nat} (hp : p < n) : f_X1_has g (nI p) = some 1 := by
  unfold f_X1_has
  rw [if_neg (nI_pos (by omega)), hR.1, if_neg (nI_ge hp (by omega))]
theorem has_out (hR : rG g n ow co ar) (hn : n ≤ 14) {x : Int32} (hx : ∀ p, p < n → x ≠ nI p) : f_X1_has g x = some 0 := by
  unfold f_X1_has
  rw [hR.1]
  rcases pk_ix x (n := n) (by omega) with h | h | ⟨j, hj, rfl⟩
  · rw [if_pos h]
  · rw [if_pos h]
    split <;> rfl
  · exact absurd rfl (hx j hj)
theorem leads_eq (hR : rG g n ow co ar) (ok : okG n ow co ar) {p q : Nat} (hp : p < n) (hq : q < n) : f_X1_leads g (nI p) (nI q) = some (if (ar p).testBit q then 1 else 0) := by
  unfold f_X1_leads
  have hn := ok.1
  rw [has_in hR hn hp, has_in hR hn hq]
  simp only [Option.bind_some]
  rw [if_neg (by decide), if_neg (by decide), vg_nI (by omega) (by omega), tn (by omega), (hR.2 p hp).2.2, contains_eq (p31 hn (ok.2 p hp).2.2) (by omega)]
  simp only [Option.bind_some]
  by_cases hb : (ar p).testBit q = true
  · rw [if_pos hb, if_neg (by decide)]
  · rw [if_neg hb, if_pos rfl]
theorem leads_out (hR : rG g n ow co ar) (ok : okG n ow co ar) {p : Nat} (hp : p < n) {x : Int32} (hx : ∀ p, p < n → x ≠ nI p) : f_X1_leads g (nI p) x = some 0 := by
  unfold f_X1_leads
  have hn := ok.1
  rw [has_in hR hn hp, has_out hR hn hx]
  rfl
theorem arrowCount_eq (hR : rG g n ow co ar) (hn : n ≤ 14) (hm : n < m) : f_X1_arrowCount m g = some (fo (fun p (c : Int32) => c + bcI (nI (ar p))) n 0) := by
  unfold f_X1_arrowCount
  have := loop_fo (fun k (a : Int32) i => f_X1_arrowCount_L4 g k a i) id id (fun p (c : Int32) => c + bcI (nI (ar p))) n 0
    (fun k => by
      show f_X1_arrowCount_L4 g (k + 1) _ _ = _
      rw [f_X1_arrowCount_L4, hR.1, if_pos (nI_le (Nat.le_refl n) (by omega))])
    (fun k i hi => by
      show f_X1_arrowCount_L4 g (k + 1) _ _ = _
      rw [f_X1_arrowCount_L4, hR.1, if_neg (nI_ge hi (by omega)), vg_nI (by omega) (by omega), tn (by omega), (hR.2 i hi).2.2, bc_some]
      simp only [Option.bind_some, nI_1]
      rfl) m hm
  have h0 : f_X1_arrowCount_L4 g m 0 0 = some (fo (fun p (c : Int32) => c + bcI (nI (ar p))) n 0) := this
  rw [h0]
  rfl
theorem owned_eq (hR : rG g n ow co ar) (ok : okG n ow co ar) {pl : Nat} (hpl : pl < 2) (hm : n < m) : f_X1_owned m g (nI pl) = some (nI (so (fun p => ow p == pl) n)) := by
  unfold f_X1_owned
  have hn := ok.1
  have := loop_fo (fun k (a : Int32) i => f_X1_owned_L4 g (nI pl) k a i) nI nI (fun p s => if (ow p == pl) = true then s ||| 2 ^ p else s) n 0
    (fun k => by
      show f_X1_owned_L4 g (nI pl) (k + 1) _ _ = _
      rw [f_X1_owned_L4, hR.1, if_pos (nI_le (Nat.le_refl n) (by omega))])
    (fun k i hi => by
      show f_X1_owned_L4 g (nI pl) (k + 1) _ _ = _
      have h2 := (ok.2 i hi).1
      rw [f_X1_owned_L4, hR.1, if_neg (nI_ge hi (by omega)), vg_nI (by omega) (by omega), tn (by omega), (hR.2 i hi).1]
      by_cases hb : ow i = pl
      · rw [if_pos (by rw [hb]), bit_eq (by omega), if_pos (by simp [hb])]
        simp only [Option.bind_some, nI_1, nI_or]
      · rw [if_neg (by rw [nI_eq (by omega) (by omega)]; exact hb), if_neg (by simp [hb])]
        simp only [nI_1]) m hm
  have h0 : f_X1_owned_L4 g (nI pl) m 0 0 = some (nI (so (fun p => ow p == pl) n)) := this
  rw [h0]
  rfl
theorem withoutArrows_eq (hR : rG g n ow co ar) (ok : okG n ow co ar) (hm : n < m) : f_X1_withoutArrows m g = some (nI (so (fun p => ar p == 0) n)) := by
  unfold f_X1_withoutArrows
  have hn := ok.1
  have := loop_fo (fun k (a : Int32) i => f_X1_withoutArrows_L4 g k a i) nI nI (fun p s => if (ar p == 0) = true then s ||| 2 ^ p else s) n 0
    (fun k => by
      show f_X1_withoutArrows_L4 g (k + 1) _ _ = _
      rw [f_X1_withoutArrows_L4, hR.1, if_pos (nI_le (Nat.le_refl n) (by omega))])
    (fun k i hi => by
      show f_X1_withoutArrows_L4 g (k + 1) _ _ = _
      have h2 := p31 hn (ok.2 i hi).2.2
      rw [f_X1_withoutArrows_L4, hR.1, if_neg (nI_ge hi (by omega)), vg_nI (by omega) (by omega), tn (by omega), (hR.2 i hi).2.2]
      by_cases hb : ar i = 0
      · rw [if_pos (by rw [hb]; rfl), bit_eq (by omega), if_pos (by simp [hb])]
        simp only [Option.bind_some, nI_1, nI_or]
      · rw [if_neg (by rw [show (0 : Int32) = nI 0 from rfl, nI_eq (by omega) (by omega)]; exact hb), if_neg (by simp [hb])]
        simp only [nI_1]) m hm
  have h0 : f_X1_withoutArrows_L4 g m 0 0 = some (nI (so (fun p => ar p == 0) n)) := this
  rw [h0]
  rfl
theorem sources_eq (hR : rG g n ow co ar) (ok : okG n ow co ar) {s : Nat} (hm : n < m) : f_X1_sources m g (nI s) = some (nI (so (fun p => !(ar p &&& s == 0)) n)) := by
  unfold f_X1_sources
  have hn := ok.1
  have := loop_fo (fun k (a : Int32) i => f_X1_sources_L4 g (nI s) k a i) nI nI (fun p t => if (!(ar p &&& s == 0)) = true then t ||| 2 ^ p else t) n 0
    (fun k => by
      show f_X1_sources_L4 g (nI s) (k + 1) _ _ = _
      rw [f_X1_sources_L4, hR.1, if_pos (nI_le (Nat.le_refl n) (by omega))])
    (fun k i hi => by
      show f_X1_sources_L4 g (nI s) (k + 1) _ _ = _
      have h2 := p31 hn (ok.2 i hi).2.2
      have h3 : ar i &&& s < 2 ^ 31 := Nat.lt_of_le_of_lt Nat.and_le_left h2
      rw [f_X1_sources_L4, hR.1, if_neg (nI_ge hi (by omega)), vg_nI (by omega) (by omega), tn (by omega), (hR.2 i hi).2.2, nI_and]
      by_cases hb : ar i &&& s = 0
      · rw [if_pos (by rw [hb]; rfl), if_neg (by simp [hb])]
        simp only [nI_1]
      · rw [if_neg (by rw [show (0 : Int32) = nI 0 from rfl, nI_eq (by omega) (by omega)]; exact hb), bit_eq (by omega), if_pos (by simp [hb])]
        simp only [Option.bind_some, nI_1, nI_or]) m hm
  have h0 : f_X1_sources_L4 g (nI s) m 0 0 = some (nI (so (fun p => !(ar p &&& s == 0)) n)) := this
  rw [h0]
  rfl
/-- where the places of a set lead -/
def tgN (n : Nat) (ar : Nat → Nat) (s : Nat) : Nat := fo (fun p a => if s.testBit p = true then a ||| ar p else a) n 0
theorem tgN_bit (ar : Nat → Nat) (s n k : Nat) : (tgN n ar s).testBit k = true ↔ ∃ p, p < n ∧ s.testBit p = true ∧ (ar p).testBit k = true := by
  unfold tgN
  induction n with
  | zero => simp [fo]
  | succ n ih =>
    rw [fo_s]
    by_cases h : s.testBit n = true
    · rw [if_pos h, Nat.testBit_or, Bool.or_eq_true, ih]
      constructor
      · rintro (⟨p, h1, h2⟩ | h2)
        · exact ⟨p, by omega, h2⟩
        · exact ⟨n, by omega, h, h2⟩
      · rintro ⟨p, h1, h2, h3⟩
        by_cases hp : p = n
        · subst hp; exact Or.inr h3
        · exact Or.inl ⟨p, by omega, h2, h3⟩
    · rw [if_neg h, ih]
      constructor
      · rintro ⟨p, h1, h2⟩
        exact ⟨p, by omega, h2⟩
      · rintro ⟨p, h1, h2, h3⟩
        by_cases hp : p = n
        · subst hp; exact absurd h2 h
        · exact ⟨p, by omega, h2, h3⟩
theorem tgN_lt (ok : okG n ow co ar) (s : Nat) : tgN n ar s < 2 ^ n := lt_of_bits fun k hk => by
  apply Bool.eq_false_iff.mpr
  intro h
  obtain ⟨p, hp, -, h3⟩ := (tgN_bit ar s n k).mp h
  rw [bits_lt (ok.2 p hp).2.2 hk] at h3
  cases h3
theorem targets_eq (hR : rG g n ow co ar) (ok : okG n ow co ar) {s : Nat} (hs : s < 2 ^ 31) (hm : n < m) : f_X1_targets m g (nI s) = some (nI (tgN n ar s)) := by
  unfold f_X1_targets
  have hn := ok.1
  have := loop_fo (fun k (a : Int32) i => f_X1_targets_L4 g (nI s) k a i) nI nI (fun p a => if s.testBit p = true then a ||| ar p else a) n 0
    (fun k => by
      show f_X1_targets_L4 g (nI s) (k + 1) _ _ = _
      rw [f_X1_targets_L4, hR.1, if_pos (nI_le (Nat.le_refl n) (by omega))])
    (fun k i hi => by
      show f_X1_targets_L4 g (nI s) (k + 1) _ _ = _
      rw [f_X1_targets_L4, hR.1, if_neg (nI_ge hi (by omega)), contains_eq hs (by omega)]
      simp only [Option.bind_some]
      by_cases hb : s.testBit i = true
      · rw [if_pos hb, if_neg (by decide), vg_nI (by omega) (by omega), tn (by omega), (hR.2 i hi).2.2, nI_or, nI_1, if_pos hb]
      · rw [if_neg hb, if_pos rfl, nI_1, if_neg hb]) m hm
  have h0 : f_X1_targets_L4 g (nI s) m 0 0 = some (nI (tgN n ar s)) := this
  rw [h0]
  rfl
end G1
