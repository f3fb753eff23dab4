/-! what a place reaches, within a set, in one step or more -/
def TCk (A : Nat) (ar : Nat → Nat) (p : Nat) : Nat → Nat → Prop
  | 0, q => A.testBit p = true ∧ A.testBit q = true ∧ (ar p).testBit q = true
  | k + 1, r => ∃ q, TCk A ar p k q ∧ A.testBit r = true ∧ (ar q).testBit r = true
def TC (A : Nat) (ar : Nat → Nat) (p q : Nat) : Prop := ∃ k, TCk A ar p k q
theorem TC_one {A : Nat} {ar : Nat → Nat} {p q : Nat} (hp : A.testBit p = true) (hq : A.testBit q = true) (h : (ar p).testBit q = true) : TC A ar p q := ⟨0, hp, hq, h⟩
theorem TC_more {A : Nat} {ar : Nat → Nat} {p q r : Nat} (h0 : TC A ar p q) (hr : A.testBit r = true) (h : (ar q).testBit r = true) : TC A ar p r := h0.elim fun k hk => ⟨k + 1, q, hk, hr, h⟩
theorem TC_ind {A : Nat} {ar : Nat → Nat} {p : Nat} {P : Nat → Prop} (h1 : ∀ q, A.testBit p = true → A.testBit q = true → (ar p).testBit q = true → P q) (h2 : ∀ q r, TC A ar p q → P q → A.testBit r = true → (ar q).testBit r = true → P r) {q : Nat} (h : TC A ar p q) : P q := by
  obtain ⟨k, hk⟩ := h
  induction k generalizing q with
  | zero => exact h1 q hk.1 hk.2.1 hk.2.2
  | succ k ih =>
    obtain ⟨r, a, b, d⟩ := hk
    exact h2 r q ⟨k, a⟩ (ih a) b d
theorem TC_l {A : Nat} {ar : Nat → Nat} {p q : Nat} (h : TC A ar p q) : A.testBit p = true := TC_ind (P := fun _ => A.testBit p = true) (fun _ hp _ _ => hp) (fun _ _ _ ih _ _ => ih) h
theorem TC_r {A : Nat} {ar : Nat → Nat} {p q : Nat} (h : TC A ar p q) : A.testBit q = true := TC_ind (P := fun q => A.testBit q = true) (fun _ _ hq _ => hq) (fun _ _ _ _ hr _ => hr) h
theorem TC_tr {A : Nat} {ar : Nat → Nat} {p q r : Nat} (h : TC A ar p q) (h2 : TC A ar q r) : TC A ar p r := TC_ind (P := fun r => TC A ar p r) (fun _ _ hq h3 => TC_more h hq h3) (fun _ _ _ ih hr h3 => TC_more ih hr h3) h2
theorem TC_hd {A : Nat} {ar : Nat → Nat} {p q r : Nat} (hp : A.testBit p = true) (h : (ar p).testBit q = true) (h2 : TC A ar q r) : TC A ar p r := TC_tr (TC_one hp (TC_l h2) h) h2
def rdF (n : Nat) (ar : Nat → Nat) (A s found : Nat) : Nat := found ||| (tgN n ar (s ||| found) &&& A)
def rgF (n : Nat) (ar : Nat → Nat) (A s found : Nat) : Nat := found ||| (so (fun p => !(ar p &&& (s ||| found) == 0)) n &&& A)
section RC
variable {n m : Nat} {ow co ar : Nat → Nat} {A x : Nat}
theorem rc_ok (A s : Nat) (ok : okG n ow co ar) : ∀ t, t < 2 ^ n → rdF n ar A s t < 2 ^ n ∧ sub t (rdF n ar A s t) := by
  intro t ht
  refine ⟨Nat.or_lt_two_pow ht (Nat.lt_of_le_of_lt Nat.and_le_left (tgN_lt ok _)), fun k hk => ?_⟩
  unfold rdF
  rw [Nat.testBit_or, hk]
  rfl
theorem rs_ok (A s : Nat) : ∀ t, t < 2 ^ n → rgF n ar A s t < 2 ^ n ∧ sub t (rgF n ar A s t) := by
  intro t ht
  refine ⟨Nat.or_lt_two_pow ht (Nat.lt_of_le_of_lt Nat.and_le_left (so_lt _ _)), fun k hk => ?_⟩
  unfold rgF
  rw [Nat.testBit_or, hk]
  rfl
theorem rc_bit {s t k : Nat} : (rdF n ar A s t).testBit k = true ↔ t.testBit k = true ∨ (A.testBit k = true ∧ ∃ p, p < n ∧ (s.testBit p = true ∨ t.testBit p = true) ∧ (ar p).testBit k = true) := by
  unfold rdF
  rw [Nat.testBit_or, Bool.or_eq_true, Nat.testBit_and, Bool.and_eq_true, tgN_bit]
  constructor
  · rintro (h | ⟨⟨p, h1, h2, h3⟩, h4⟩)
    · exact Or.inl h
    · rw [Nat.testBit_or, Bool.or_eq_true] at h2
      exact Or.inr ⟨h4, p, h1, h2, h3⟩
  · rintro (h | ⟨h4, p, h1, h2, h3⟩)
    · exact Or.inl h
    · exact Or.inr ⟨⟨p, h1, by rw [Nat.testBit_or, Bool.or_eq_true]; exact h2, h3⟩, h4⟩
theorem and_ne {a b : Nat} : (!(a &&& b == 0)) = true ↔ ∃ k, a.testBit k = true ∧ b.testBit k = true := by
  constructor
  · intro h
    by_cases e : ∃ k, a.testBit k = true ∧ b.testBit k = true
    · exact e
    · have h0 : a &&& b = 0 := and_0.mpr (fun k hk => by
        cases hb : b.testBit k with
        | false => rfl
        | true => exact absurd ⟨k, hk, hb⟩ e)
      rw [h0] at h
      exact absurd h (by decide)
  · rintro ⟨k, h1, h2⟩
    have : a &&& b ≠ 0 := fun e => by
      have := and_0.mp e k h1
      rw [h2] at this
      cases this
    rw [beq_eq_false_iff_ne.mpr this]
    rfl
theorem rs_bit {s t k : Nat} : (rgF n ar A s t).testBit k = true ↔ t.testBit k = true ∨ (A.testBit k = true ∧ k < n ∧ ∃ q, (ar k).testBit q = true ∧ (s.testBit q = true ∨ t.testBit q = true)) := by
  unfold rgF
  rw [Nat.testBit_or, Bool.or_eq_true, Nat.testBit_and, Bool.and_eq_true, so_bit, Bool.and_eq_true, decide_eq_true_iff, and_ne]
  constructor
  · rintro (h | ⟨⟨h1, q, h2, h3⟩, h4⟩)
    · exact Or.inl h
    · rw [Nat.testBit_or, Bool.or_eq_true] at h3
      exact Or.inr ⟨h4, h1, q, h2, h3⟩
  · rintro (h | ⟨h4, h1, q, h2, h3⟩)
    · exact Or.inl h
    · exact Or.inr ⟨⟨h1, q, h2, by rw [Nat.testBit_or, Bool.or_eq_true]; exact h3⟩, h4⟩
/-- n rounds give just what is reached -/
theorem rc_all (ok : okG n ow co ar) (hA : A < 2 ^ n) (hx : A.testBit x = true) {q : Nat} : (itF (rdF n ar A (2 ^ x)) n 0).testBit q = true ↔ TC A ar x q := by
  have hF := rc_ok A (2 ^ x) ok
  have h0 : 0 < 2 ^ n := Nat.pow_pos (by omega)
  constructor
  · have key : ∀ j q, (itF (rdF n ar A (2 ^ x)) j 0).testBit q = true → TC A ar x q := by
      intro j
      induction j with
      | zero => intro q h; rw [show itF (rdF n ar A (2 ^ x)) 0 0 = 0 from rfl, Nat.zero_testBit] at h; cases h
      | succ j ih =>
        intro q h
        rcases rc_bit.mp h with h | ⟨h1, p, h2, h3, h4⟩
        · exact ih q h
        · rcases h3 with h3 | h3
          · rw [Nat.testBit_two_pow, decide_eq_true_iff] at h3
            subst h3
            exact TC_one hx h1 h4
          · exact TC_more (ih p h3) h1 h4
    exact key n q
  · intro h
    have hfix := it_n hF h0
    refine TC_ind (P := fun q => (itF (rdF n ar A (2 ^ x)) n 0).testBit q = true) (fun q hp hq h => ?_) (fun q r h1 ih hr h => ?_) h
    · have hpn : x < n := Nat.lt_of_not_le fun hle => by rw [bits_lt hA hle] at hp; cases hp
      show (itF (rdF n ar A (2 ^ x)) n 0).testBit q = true
      rw [← hfix]
      exact rc_bit.mpr (Or.inr ⟨hq, x, hpn, Or.inl (by rw [Nat.testBit_two_pow]; simp), h⟩)
    · have hq := TC_r h1
      have hqn : q < n := Nat.lt_of_not_le fun hle => by rw [bits_lt hA hle] at hq; cases hq
      show (itF (rdF n ar A (2 ^ x)) n 0).testBit r = true
      rw [← hfix]
      exact rc_bit.mpr (Or.inr ⟨hr, q, hqn, Or.inr ih, h⟩)
theorem rs_all (hA : A < 2 ^ n) (hx : A.testBit x = true) {q : Nat} : (itF (rgF n ar A (2 ^ x)) n 0).testBit q = true ↔ TC A ar q x := by
  have hF := rs_ok (n := n) (ar := ar) A (2 ^ x)
  have h0 : 0 < 2 ^ n := Nat.pow_pos (by omega)
  constructor
  · have key : ∀ j q, (itF (rgF n ar A (2 ^ x)) j 0).testBit q = true → TC A ar q x := by
      intro j
      induction j with
      | zero => intro q h; rw [show itF (rgF n ar A (2 ^ x)) 0 0 = 0 from rfl, Nat.zero_testBit] at h; cases h
      | succ j ih =>
        intro q h
        rcases rs_bit.mp h with h | ⟨h1, h2, r, h3, h4⟩
        · exact ih q h
        · rcases h4 with h4 | h4
          · rw [Nat.testBit_two_pow, decide_eq_true_iff] at h4
            subst h4
            exact TC_one h1 hx h3
          · exact TC_hd h1 h3 (ih r h4)
    exact key n q
  · intro h
    have hfix := it_n hF h0
    have key : ∀ p q, TC A ar p q → (q = x ∨ (itF (rgF n ar A (2 ^ x)) n 0).testBit q = true) → (itF (rgF n ar A (2 ^ x)) n 0).testBit p = true := by
      intro p q h
      refine TC_ind (P := fun q => (q = x ∨ (itF (rgF n ar A (2 ^ x)) n 0).testBit q = true) → (itF (rgF n ar A (2 ^ x)) n 0).testBit p = true) (fun q hp hq h => ?_) (fun q r h1 ih hr h => ?_) h
      · intro e
        have hpn : p < n := Nat.lt_of_not_le fun hle => by rw [bits_lt hA hle] at hp; cases hp
        rw [← hfix]
        refine rs_bit.mpr (Or.inr ⟨hp, hpn, q, h, ?_⟩)
        rcases e with e | e
        · left; rw [e, Nat.testBit_two_pow]; simp
        · exact Or.inr e
      · intro e
        have hq := TC_r h1
        have hqn : q < n := Nat.lt_of_not_le fun hle => by rw [bits_lt hA hle] at hq; cases hq
        refine ih (Or.inr ?_)
        rw [← hfix]
        refine rs_bit.mpr (Or.inr ⟨hq, hqn, r, h, ?_⟩)
        rcases e with e | e
        · left; rw [e, Nat.testBit_two_pow]; simp
        · exact Or.inr e
    exact key q x h (Or.inl rfl)
theorem reached_eq {g : GG} (hR : rG g n ow co ar) (ok : okG n ow co ar) {s : Nat} (hs : s < 2 ^ n) (hA : A < 2 ^ n) (hm : 20 < m) : f_X1_reached m g (nI s) (nI A) = some (nI (itF (rdF n ar A s) n 0)) := by
  have hn := ok.1
  have h0 : 0 < 2 ^ n := Nat.pow_pos (by omega)
  unfold f_X1_reached
  have := loop_fo (fun k (a : Int32) i => f_X1_reached_L5 m g (nI s) (nI A) k a (i + 1)) nI nI (fun _ t => rdF n ar A s t) n 0
    (fun k => by
      show f_X1_reached_L5 m g (nI s) (nI A) (k + 1) _ (nI n + 1) = _
      rw [f_X1_reached_L5, hR.1, nI_1, if_pos ((nI_lt_iff (by omega) (by omega)).mpr (by omega))])
    (fun k i hi => by
      show f_X1_reached_L5 m g (nI s) (nI A) (k + 1) _ (nI i + 1) = f_X1_reached_L5 m g (nI s) (nI A) k _ (nI (i + 1) + 1)
      rw [fo_it]
      have h1 := it_lt (rc_ok (n := n) A s ok) h0 i
      generalize itF (rdF n ar A s) i 0 = t at h1 ⊢
      rw [f_X1_reached_L5, hR.1, nI_1, if_neg (fun z => by have := (nI_lt_iff (by omega) (by omega)).mp z; omega), nI_or, targets_eq hR ok (p31 hn (Nat.or_lt_two_pow hs h1)) (by omega)]
      simp only [Option.bind_some]
      rw [nI_and, nI_or]
      rfl) m (by omega)
  rw [fo_it] at this
  have h1 : f_X1_reached_L5 m g (nI s) (nI A) m 0 1 = some (nI (itF (rdF n ar A s) n 0)) := this
  rw [h1]
  rfl
theorem reaching_eq {g : GG} (hR : rG g n ow co ar) (ok : okG n ow co ar) {s : Nat} (hA : A < 2 ^ n) (hm : 20 < m) : f_X1_reaching m g (nI s) (nI A) = some (nI (itF (rgF n ar A s) n 0)) := by
  have hn := ok.1
  unfold f_X1_reaching
  have := loop_fo (fun k (a : Int32) i => f_X1_reaching_L5 m g (nI s) (nI A) k a (i + 1)) nI nI (fun _ t => rgF n ar A s t) n 0
    (fun k => by
      show f_X1_reaching_L5 m g (nI s) (nI A) (k + 1) _ (nI n + 1) = _
      rw [f_X1_reaching_L5, hR.1, nI_1, if_pos ((nI_lt_iff (by omega) (by omega)).mpr (by omega))])
    (fun k i hi => by
      show f_X1_reaching_L5 m g (nI s) (nI A) (k + 1) _ (nI i + 1) = f_X1_reaching_L5 m g (nI s) (nI A) k _ (nI (i + 1) + 1)
      rw [fo_it]
      generalize itF (rgF n ar A s) i 0 = t
      rw [f_X1_reaching_L5, hR.1, nI_1, if_neg (fun z => by have := (nI_lt_iff (by omega) (by omega)).mp z; omega), nI_or, sources_eq hR ok (by omega)]
      simp only [Option.bind_some]
      rw [nI_and, nI_or]
      rfl) m (by omega)
  rw [fo_it] at this
  have h1 : f_X1_reaching_L5 m g (nI s) (nI A) m 0 1 = some (nI (itF (rgF n ar A s) n 0)) := this
  rw [h1]
  rfl
end RC
