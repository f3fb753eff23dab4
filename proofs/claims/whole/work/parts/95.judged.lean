/-! judged -/
section JD
variable {u : SS} {f : Nat → Int32} {m : Nat}
theorem wi_all {n : Nat} {co : Nat → Nat} : wiN n co 0 = 2 ^ n - 1 := by
  apply Nat.eq_of_testBit_eq
  intro k
  rw [Nat.testBit_two_pow_sub_one]
  by_cases h : k < n
  · rw [wi_bit.mpr ⟨h, Nat.zero_le _⟩]; simp [h]
  · cases e : (wiN n co 0).testBit k with
    | false => simp [h]
    | true => exact absurd (wi_bit.mp e).1 h
theorem judged_core {trial : GG} {mj mr : Nat → Int32} (hs : RS u f) (hm : 1000000 ≤ m) (p1 p2 : Int32) : ∃ q qm, f_X6_judged m u trial p1 p2 = some q ∧ f_X7_judged m f mj mr p1 p2 = some qm ∧ q.1 = qm.1 := by
  obtain ⟨n, ow, co, ar, ch, tk, c, ok, hR, hM⟩ := hs
  have hn := ok.1.1
  unfold f_X6_judged f_X7_judged
  rcases pl_cases p1 with ⟨a, ha, rfl, a1, -, a3⟩ | ⟨a1, -, a3⟩
  · rw [a1, a3]
    simp only [Option.bind_some, if_neg n10, if_true]
    rcases pc_cases hR.1 hM.1 hn p2 with ⟨x, hx, rfl, b1, b2⟩ | ⟨-, b1, b2⟩
    · rw [b1, b2]
      simp only [Option.bind_some, if_neg n10, if_true]
      have okj := ja_ok (pl := a) ok
      obtain ⟨g, g1, g2⟩ := judgeFor_eq (trial := trial) (m := m) hR ok ha (by omega)
      obtain ⟨v, v1, v2, v3⟩ := badPlaces_eq (m := m) g2 okj ha (by omega)
      obtain ⟨v', mj', g', y1, y2, y3, y4⟩ := allBad_eq (mj := mj) (mr := mr) (m := m) hM ok ha (by omega)
      have hvv : v' = v := by
        apply Nat.eq_of_testBit_eq
        intro k
        have h1 := (y4 k).trans (v3 k).symm
        cases e1 : v'.testBit k <;> cases e2 : v.testBit k
        · rfl
        · exact absurd (h1.mpr e2) (by rw [e1]; decide)
        · exact absurd (h1.mp e1) (by rw [e2]; decide)
        · rfl
      subst hvv
      obtain ⟨h', z1, z2⟩ := reaches_eq (mr := g') (m := m) hM ok.1 (fun p hp => (okj.2 p hp).2.2) y2 (x := 0) (by omega) (by omega)
      have z1 : f_X7_reaches m f mj' g' 0 = some h' := z1
      have hA := wi_lt (n := n) (co := co) (c := 0)
      have hx2 : 2 ^ x < 2 ^ n := Nat.pow_lt_pow_right (by omega) hx
      have hxA : (wiN n co 0).testBit x = true := wi_bit.mpr ⟨hx, Nat.zero_le _⟩
      have hsets : waN n (wiN n co 0) (jaN ow ar ch a) x ||| 2 ^ x = 2 ^ x ||| itF (rdF n (jaN ow ar ch a) (wiN n co 0) (2 ^ x)) n 0 := by
        rw [Nat.or_comm]
        congr 1
        apply Nat.eq_of_testBit_eq
        intro k
        have h1 := (wa_all hA (ar := jaN ow ar ch a) (p := x) (q := k)).trans (rc_all okj hA hxA (q := k)).symm
        cases e1 : (waN n (wiN n co 0) (jaN ow ar ch a) x).testBit k <;> cases e2 : (itF (rdF n (jaN ow ar ch a) (wiN n co 0) (2 ^ x)) n 0).testBit k
        · rfl
        · exact absurd (h1.mpr e2) (by rw [e1]; decide)
        · exact absurd (h1.mp e1) (by rw [e2]; decide)
        · rfl
      have hSl : 2 ^ x ||| itF (rdF n (jaN ow ar ch a) (wiN n co 0) (2 ^ x)) n 0 < 2 ^ n := Nat.or_lt_two_pow hx2 (it_lt (rc_ok (n := n) (wiN n co 0) (2 ^ x) okj) (Nat.pow_pos (by omega)) n)
      rw [g1, y1]
      simp only [Option.bind_some]
      rw [v1, owned_eq g2 okj ha (by omega), withoutArrows_eq g2 okj (by omega), bit_eq (by omega), all_eq g2 hn, z1, ← wi_all (co := co)]
      simp only [Option.bind_some]
      rw [reached_eq g2 okj hx2 hA (by omega), vg_nI (by omega) (by omega), tn (by omega), z2 x hx, jshl_1 (by omega), nI_or, hsets]
      simp only [Option.bind_some]
      rw [nI_or, nI_and, nI_or, nI_and]
      generalize 2 ^ x ||| itF (rdF n (jaN ow ar ch a) (wiN n co 0) (2 ^ x)) n 0 = S at hSl
      have scan : ∀ i, i ≤ n → (∀ j, j < i → ¬ (S.testBit j = true ∧ (v'.testBit j = true ∨ (ow j = a ∧ ar j = 0)))) → ∀ K, f_X7_judged_L43 f mj' h' (nI a) (nI v') (nI S) (K + i) 0 = f_X7_judged_L43 f mj' h' (nI a) (nI v') (nI S) K (nI i) := by
        intro i
        induction i with
        | zero => intro _ _ K; rfl
        | succ i ih =>
          intro hi h K
          have hb := h i (by omega)
          have ho := (ok.1.2 i (by omega)).1
          have hai := p31 hn (ok.1.2 i (by omega)).2.2
          rw [show K + (i + 1) = (K + 1) + i by omega, ih (by omega) (fun j hj => h j (by omega)) (K + 1), f_X7_judged_L43, hM.1.1, if_neg (nI_ge (by omega) (by omega)), nI_1]
          by_cases e1 : S.testBit i = true
          · rw [if_pos ((bit_iff (p31 hn hSl) (by omega)).mpr e1), if_neg (fun z => hb ⟨e1, Or.inl ((bit_iff (p31 hn y3) (by omega)).mp z)⟩), of0 (by omega), (hM.1.2 i (by omega)).1]
            simp only [Option.bind_some]
            by_cases e2 : ow i = a
            · rw [if_pos (by rw [e2]), of2 (by omega), (hM.1.2 i (by omega)).2.2.1]
              simp only [Option.bind_some]
              rw [if_neg (fun z => hb ⟨e1, Or.inr ⟨e2, (nI_z (by omega)).mp z⟩⟩)]
            · rw [if_neg (by rw [nI_eq (by omega) (by omega)]; exact e2)]
          · rw [if_neg (fun z => e1 ((bit_iff (p31 hn hSl) (by omega)).mp z))]
      have hT : ∀ k, (S &&& (v' ||| so (fun p => ow p == a) n &&& so (fun p => jaN ow ar ch a p == 0) n)).testBit k = true ↔ (S.testBit k = true ∧ (v'.testBit k = true ∨ (ow k = a ∧ ar k = 0))) := fun k => by
        rw [Nat.testBit_and, Nat.testBit_or, Nat.testBit_and, so_bit, so_bit]
        by_cases hk : k < n
        · have h1 := ja_0 (pl := a) ok hk
          simp [hk, h1]
        · have h1 : S.testBit k = false := bits_lt hSl (by omega)
          simp [h1]
      have hl : (S &&& (v' ||| so (fun p => ow p == a) n &&& so (fun p => jaN ow ar ch a p == 0) n)) < 2 ^ n := Nat.lt_of_le_of_lt Nat.and_le_left hSl
      generalize S &&& (v' ||| so (fun p => ow p == a) n &&& so (fun p => jaN ow ar ch a p == 0) n) = T at hT hl
      have hl31 := p31 hn hl
      rcases first_or (fun j => S.testBit j = true ∧ (v'.testBit j = true ∨ (ow j = a ∧ ar j = 0))) n with ⟨j, hj, h1, h2⟩ | h
      · have hjn : j < n := Nat.lt_of_not_le fun hle => by have := h1.1; rw [bits_lt hSl hle] at this; cases this
        have e1 := scan j hj h2 ((m - j - 1) + 1)
        rw [show (m - j - 1) + 1 + j = m by omega] at e1
        have hT0 : ¬ nI T = 0 := fun z => by
          have := (hT j).mpr h1
          rw [(nI_z (by omega)).mp z, Nat.zero_testBit] at this
          cases this
        have ho := (ok.1.2 j hjn).1
        have res : f_X7_judged_L43 f mj' h' (nI a) (nI v') (nI S) m 0 = some (0, mj', h') := by
          rw [e1, f_X7_judged_L43, hM.1.1, if_neg (nI_ge hjn (by omega)), if_pos ((bit_iff (p31 hn hSl) (by omega)).mpr h1.1)]
          by_cases e2 : v'.testBit j = true
          · rw [if_pos ((bit_iff (p31 hn y3) (by omega)).mpr e2)]
          · obtain ⟨e3, e4⟩ := h1.2.resolve_left e2
            rw [if_neg (fun z => e2 ((bit_iff (p31 hn y3) (by omega)).mp z)), of0 (by omega), (hM.1.2 j hjn).1]
            simp only [Option.bind_some]
            rw [if_pos (by rw [e3]), of2 (by omega), (hM.1.2 j hjn).2.2.1, e4]
            rfl
        rw [res, if_neg hT0]
        exact ⟨_, _, rfl, rfl, rfl⟩
      · have e1 := scan n (Nat.le_refl n) (fun j hj => h j (by omega)) ((m - n - 1) + 1)
        rw [show (m - n - 1) + 1 + n = m by omega] at e1
        have hT0 : T = 0 := by
          apply Nat.eq_of_testBit_eq
          intro k
          rw [Nat.zero_testBit]
          cases e : T.testBit k with
          | false => rfl
          | true =>
            have hk : k < n := Nat.lt_of_not_le fun hle => by rw [bits_lt hl hle] at e; cases e
            exact absurd ((hT k).mp e) (h k (by omega))
        rw [e1, f_X7_judged_L43, hM.1.1, if_pos (nI_le (Nat.le_refl n) (by omega)), hT0, if_pos (show nI 0 = 0 from rfl)]
        exact ⟨_, _, rfl, rfl, rfl⟩
    · rw [b1, b2]
      exact ⟨_, _, rfl, rfl, rfl⟩
  · rw [a1, a3]
    exact ⟨_, _, rfl, rfl, rfl⟩
end JD
