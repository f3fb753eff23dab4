/-! the class's find() and the model's finds() come to the same measures -/
section FI
variable {n : Nat} {ow co ar M : Nat → Nat} {r : Nat}
theorem rem2 {c : Nat} (h : c < 2 ^ 31) : jrem (nI c) 2 = nI (c % 2) := by
  rw [show (2 : Int32) = nI 2 from rfl, jrem_nI h (by omega) (by omega)]
theorem X3_find_eq {e : EE} {g : GG} {m : Nat} (hR : rG g n ow co ar) (ok : okG n ow co ar) (hs : SolP n ow co ar M r) (hm : 1000000 ≤ m) : ∃ e', f_X3_find m e g = some e' ∧ rE e' n (moN n co) M ∧ e'.2.2 = nI r := by
  have hn := ok.1
  have hle : ∀ k, k < 4 → moN n co k ≤ 14 := fun k _ => Nat.le_trans (moN_le n co k) ok.1
  unfold f_X3_find
  -- the numbers of places become 0
  obtain ⟨e1, h1, h2⟩ := loop_rel (fun k (s : EE) i => f_X3_find_L2 k i s) (fun i (_ : Unit) s => ∀ k, k < i → s.1 k = 0) (fun _ a => a) 4 () e (fun k hk => absurd hk (by omega))
    (fun k i s hi h => by
      refine ⟨(upd s.1 i 0, s.2.1, s.2.2), ?_, fun j hj => ?_⟩
      · show f_X3_find_L2 (k + 1) (nI i) s = _
        rw [f_X3_find_L2, if_neg (by rw [show (4 : Int32) = nI 4 from rfl, nI_leI (by omega) (by omega)]; omega), vg_nI (by omega) (by omega), tn (by omega), nI_1]
      · show upd s.1 i 0 j = 0
        by_cases hj2 : j = i
        · subst hj2; rw [upd_s]
        · rw [upd_n hj2]; exact h j (by omega)) m (by omega)
  have h2 : f_X3_find_L2 m 0 e = f_X3_find_L2 (m - 4) (nI 4) e1 := h2
  rw [h2, show m - 4 = (m - 5) + 1 by omega, f_X3_find_L2, if_pos (by decide)]
  simp only [Option.bind_some]
  -- they are counted
  obtain ⟨e2, ⟨h3, h3b⟩, h4⟩ := loop_rel (fun k (s : EE) i => f_X3_find_L22 g k i s) (fun i (_ : Unit) s => (∀ k, k < 4 → s.1 k = nI (moN i co k)) ∧ ∀ p, p < i → s.2.1 p = 0) (fun _ a => a) n () e1 ⟨fun k hk => h1 k hk, fun p hp => absurd hp (by omega)⟩
    (fun k i s hi ⟨h, hz⟩ => by
      have hc := (ok.2 i hi).2.1
      have hz2 : ∀ p, p < i + 1 → upd s.2.1 i 0 p = 0 := fun p hp => by
        by_cases hpi : p = i
        · subst hpi; rw [upd_s]
        · rw [upd_n hpi]; exact hz p (by omega)
      show ∃ s' : EE, f_X3_find_L22 g (k + 1) (nI i) s = f_X3_find_L22 g k (nI (i + 1)) s' ∧ _
      rw [f_X3_find_L22, hR.1, if_neg (nI_ge hi (by omega)), vg_nI (by omega) (by omega), tn (by omega), (hR.2 i hi).2.1, rem2 (by omega), show (1 : Int32) = nI 1 from rfl, show (2 : Int32) = nI 2 from rfl, pk_div (by omega) (by omega) (by omega)]
      by_cases ho : co i % 2 = 1
      · rw [if_pos (by rw [ho]), vg_nI (by omega) (by omega), tn (by omega), h _ (by omega), nI_add, nI_add]
        refine ⟨_, rfl, fun q hq => ?_, hz2⟩
        show upd s.1 (co i / 2) _ q = nI (moN (i + 1) co q)
        unfold moN
        rw [fo_s]
        by_cases hq2 : q = co i / 2
        · subst hq2
          rw [upd_s, if_pos (by omega)]
        · rw [upd_n hq2, if_neg (by omega)]; exact h q hq
      · rw [if_neg (by rw [nI_eq (by omega) (by omega)]; exact ho), nI_add]
        refine ⟨_, rfl, fun q hq => ?_, hz2⟩
        show s.1 q = nI (moN (i + 1) co q)
        unfold moN
        rw [fo_s, if_neg (by omega)]
        exact h q hq) m (by omega)
  have h4 : f_X3_find_L22 g m 0 e1 = f_X3_find_L22 g (m - n) (nI n) e2 := h4
  rw [h4, show m - n = (m - n - 1) + 1 by omega, f_X3_find_L22, hR.1, if_pos (nI_le (Nat.le_refl n) (by omega))]
  simp only [Option.bind_some]
  -- the rounds
  obtain ⟨t, rfl, ht, rfl, hj, hl⟩ := hs
  have key : ∀ d k (s : EE), d ≤ t → d < k → rE s n (moN n co) (nit n ow co ar (moN n co) (t - d)) → s.2.2 = nI (t - d + 1) → ∃ e', f_X3_find_L77 m g k s = some e' ∧ rE e' n (moN n co) (nit n ow co ar (moN n co) t) ∧ e'.2.2 = nI (t + 1) := by
    intro d
    induction d with
    | zero =>
      intro k s _ hk hE hr
      obtain ⟨k, rfl⟩ : ∃ k', k = k' + 1 := ⟨k - 1, by omega⟩
      obtain ⟨e', g1, g2, g3⟩ := X3_raise_eq (m := m) hR ok hE hle (nit_vM ok hle (t - 0)) (by omega)
      rw [f_X3_find_L77, hr, if_neg (by rw [show (1000000 : Int32) = nI 1000000 from rfl, nI_leI (by omega) (by omega)]; omega), show f_X3_raise m s g = some (0, e') by rw [g1]; simp only [Nat.sub_zero, hl]; rfl]
      simp only [Option.bind_some, Nat.sub_zero] at *
      rw [if_pos trivial]
      refine ⟨e', rfl, ?_, by rw [g3, hr]⟩
      obtain ⟨-, -, g4⟩ := rs_grow (n := n) (ow := ow) (co := co) (ar := ar) (mo := moN n co) (M := nit n ow co ar (moN n co) t) n (Nat.le_refl n)
      have g5 := (g4 hl).1
      unfold rsN at g2
      rw [g5] at g2
      exact g2
    | succ d ih =>
      intro k s hd hk hE hr
      obtain ⟨k, rfl⟩ : ∃ k', k = k' + 1 := ⟨k - 1, by omega⟩
      obtain ⟨e', g1, g2, g3⟩ := X3_raise_eq (m := m) hR ok hE hle (nit_vM ok hle (t - (d + 1))) (by omega)
      rw [f_X3_find_L77, hr, if_neg (by rw [show (1000000 : Int32) = nI 1000000 from rfl, nI_leI (by omega) (by omega)]; omega), show f_X3_raise m s g = some (1, e') by rw [g1]; simp only [hj (t - (d + 1)) (by omega)]; rfl]
      simp only [Option.bind_some]
      rw [if_neg (by decide)]
      have e5 : t - d = t - (d + 1) + 1 := by omega
      refine ih k _ (by omega) (by omega) ?_ ?_
      · rw [e5]; exact g2
      · show e'.2.2 + 1 = _
        rw [g3, hr, nI_1, e5]
  obtain ⟨e', g1, g2, g3⟩ := key t m (e2.1, e2.2.1, 1) (Nat.le_refl t) (by omega) (by
    rw [Nat.sub_self]
    exact ⟨h3, h3b⟩) (by rw [Nat.sub_self]; rfl)
  rw [g1]
  exact ⟨e', rfl, g2, g3⟩
end FI
