/-! the model's wanted measure is cv of wN -/
theorem upd_s {f : Nat → Int32} {k : Nat} {x : Int32} : upd f k x k = x := pk_us
theorem upd_n {f : Nat → Int32} {k j : Nat} {x : Int32} (h : j ≠ k) : upd f k x j = f j := pk_un h
theorem jrem_nI {a d : Nat} (ha : a < 2 ^ 31) (h0 : 0 < d) (hd : d < 2 ^ 31) : jrem (nI a) (nI d) = nI (a % d) := pk_rem ha h0 hd
theorem L14_s {c k x f : Nat} {N : Nat → Int32} (hc : c ≤ 8) (hk : k < 4) (hx : x < 2 ^ 31) : f_X7_wanted_L14 (nI c) (f + 1) (nI x) (nI k) N = f_X7_wanted_L14 (nI c) f (nI (x / 15)) (nI k + (-1)) (upd N k (nI (if 2 * k + 1 ≤ c then x % 15 else 0))) := by
  rw [f_X7_wanted_L14, if_neg (nI_pos (by omega)), vg_nI (by omega) (by omega), vg_nI (by omega) (by omega), tn (by omega), show (15 : Int32) = nI 15 from rfl, pk_div hx (by omega) (by omega), jrem_nI hx (by omega) (by omega), show ((2 * nI k) + 1 : Int32) = nI (2 * k + 1) from by rw [show (2 : Int32) = nI 2 from rfl, pk_mul, nI_1]]
  by_cases h : 2 * k + 1 ≤ c
  · rw [if_pos (nI_le h (by omega)), if_pos h]
  · rw [if_neg (by rw [nI_leI (by omega) (by omega)]; exact h), if_neg h]
    rfl
theorem L14_eq {c x f : Nat} {N : Nat → Int32} (hc : c ≤ 8) (hx : x < 2 ^ 31) (hf : 5 ≤ f) : ∃ N', f_X7_wanted_L14 (nI c) f (nI x) 3 N = some N' ∧ N' 3 = nI (if 7 ≤ c then x % 15 else 0) ∧ N' 2 = nI (if 5 ≤ c then x / 15 % 15 else 0) ∧ N' 1 = nI (if 3 ≤ c then x / 15 / 15 % 15 else 0) ∧ N' 0 = nI (if 1 ≤ c then x / 15 / 15 / 15 % 15 else 0) := by
  obtain ⟨f, rfl⟩ : ∃ f', f = f' + 5 := ⟨f - 5, by omega⟩
  refine ⟨upd (upd (upd (upd N 3 (nI (if 7 ≤ c then x % 15 else 0))) 2 (nI (if 5 ≤ c then x / 15 % 15 else 0))) 1 (nI (if 3 ≤ c then x / 15 / 15 % 15 else 0))) 0 (nI (if 1 ≤ c then x / 15 / 15 / 15 % 15 else 0)), ?_, ?_⟩
  · rw [show (3 : Int32) = nI 3 from rfl, L14_s hc (by omega) hx, show nI 3 + (-1) = nI 2 from by decide, L14_s hc (by omega) (by omega), show nI 2 + (-1) = nI 1 from by decide, L14_s hc (by omega) (by omega), show nI 1 + (-1) = nI 0 from by decide, L14_s hc (by omega) (by omega), f_X7_wanted_L14, if_pos (by decide)]
  · refine ⟨?_, ?_, ?_, ?_⟩
    · rw [upd_n (by decide), upd_n (by decide), upd_n (by decide), upd_s]
    · rw [upd_n (by decide), upd_n (by decide), upd_s]
    · rw [upd_n (by decide), upd_s]
    · rw [upd_s]
def cD (mo : Nat → Nat) : Nat → (Nat → Nat) → Option (Nat → Nat)
  | 0, D => if D 0 ≤ mo 0 then some D else none
  | k + 1, D => if D (k + 1) ≤ mo (k + 1) then some D else cD mo k (fun j => if j = k then D k + 1 else if j = k + 1 then 0 else D j)
theorem L80_eq {mmost : Nat → Int32} {mo : Nat → Nat} (hmo : ∀ k, k < 4 → mmost k = nI (mo k)) (hle : ∀ k, k < 4 → mo k ≤ 14) : ∀ (k f : Nat) (N : Nat → Int32) (D : Nat → Nat), k < 4 → k + 1 < f → (∀ j, j < 4 → N j = nI (D j)) → D k ≤ 15 → (∀ j, j < k → D j ≤ 14) →
    (cD mo k D = none ∧ ∃ N', f_X7_wanted_L80 mmost f (nI k) N = some (-1, N')) ∨ ∃ D' N' k', k' < 4 ∧ cD mo k D = some D' ∧ f_X7_wanted_L80 mmost f (nI k) N = some (nI k', N') ∧ ∀ j, j < 4 → N' j = nI (D' j) := by
  intro k
  induction k with
  | zero =>
    intro f N D hk hf hN h0 h1
    obtain ⟨f, rfl⟩ : ∃ f', f = f' + 2 := ⟨f - 2, by omega⟩
    have m0 := hle 0 (by omega)
    rw [f_X7_wanted_L80, if_neg (by decide), vg_nI (by omega) (by omega), tn (by omega), hN 0 (by omega), hmo 0 (by omega), cD]
    by_cases h : D 0 ≤ mo 0
    · right
      rw [if_pos (nI_le h (by omega)), if_pos h]
      exact ⟨D, N, 0, by omega, rfl, rfl, hN⟩
    · left
      rw [if_neg h, if_neg (by rw [nI_leI (by omega) (by omega)]; exact h), if_pos (by decide), f_X7_wanted_L80, if_pos (by decide)]
      exact ⟨rfl, _, rfl⟩
  | succ k ih =>
    intro f N D hk hf hN h0 h1
    obtain ⟨f, rfl⟩ : ∃ f', f = f' + 1 := ⟨f - 1, by omega⟩
    have m0 := hle (k + 1) (by omega)
    have d0 := h1 k (by omega)
    have ek : nI (k + 1) + (-1) = nI k := pk_m1 k
    rw [f_X7_wanted_L80, if_neg (nI_pos (by omega)), vg_nI (by omega) (by omega), tn (by omega), hN (k + 1) (by omega), hmo (k + 1) (by omega), cD, ek]
    by_cases h : D (k + 1) ≤ mo (k + 1)
    · right
      rw [if_pos (nI_le h (by omega)), if_pos h]
      exact ⟨D, N, k + 1, by omega, rfl, rfl, hN⟩
    · rw [if_neg h, if_neg (by rw [nI_leI (by omega) (by omega)]; exact h), if_neg (nI_pos (by omega)), vg_nI (by omega) (by omega), tn (by omega)]
      unfold lt
      refine ih f _ _ (by omega) (by omega) ?_ ?_ ?_
      · intro j hj
        by_cases e1 : j = k
        · subst e1
          rw [upd_s, if_pos rfl, upd_n (by omega), hN j hj, nI_1]
        · rw [upd_n e1, if_neg e1]
          by_cases e2 : j = k + 1
          · subst e2
            rw [upd_s, if_pos rfl]; rfl
          · rw [upd_n e2, if_neg e2, hN j hj]
      · rw [if_pos rfl]; omega
      · intro j hj
        rw [if_neg (by omega), if_neg (by omega)]
        exact h1 j (by omega)
theorem sum15 {a b c d : Nat} {N : Nat → Int32} (h0 : N 0 = nI a) (h1 : N 1 = nI b) (h2 : N 2 = nI c) (h3 : N 3 = nI d) : (15 * ((15 * ((15 * (N 0)) + (N 1))) + (N 2))) + (N 3) = nI (mk15 a b c d) := by
  rw [h0, h1, h2, h3, show (15 : Int32) = nI 15 from rfl]
  simp only [pk_mul, nI_add]
  rfl
/-- what stands behind the carry, by the digits of the result -/
theorem X7_w_odd {mmost N : Nat → Int32} {mo : Nat → Nat} (hmo : ∀ k, k < 4 → mmost k = nI (mo k)) (hle : ∀ k, k < 4 → mo k ≤ 14) {k f : Nat} {D : Nat → Nat} (hk : k < 4) (hf : 5 ≤ f) (hN : ∀ j, j < 4 → N j = nI (D j)) (hD : ∀ j, j < 4 → D j ≤ 14) :
    ∃ N', ((f_X7_wanted_L80 mmost f (nI k) (upd N k (N k + 1))).bind fun q11 => (if 0 ≤ q11.1 then some (((15 * ((15 * ((15 * (q11.2 0)) + (q11.2 1))) + (q11.2 2))) + (q11.2 3)), q11.2) else some (50625, q11.2))) =
      some (nI (match cD mo k (fun j => if j = k then D k + 1 else D j) with | none => 50625 | some E => mk15 (E 0) (E 1) (E 2) (E 3)), N') := by
  have hN2 : ∀ j, j < 4 → upd N k (N k + 1) j = nI ((fun j => if j = k then D k + 1 else D j) j) := by
    intro j hj
    by_cases e : j = k
    · subst e
      show _ = nI (if j = j then D j + 1 else D j)
      rw [upd_s, if_pos rfl, hN j hj, nI_1]
    · show _ = nI (if j = k then D k + 1 else D j)
      rw [upd_n e, if_neg e, hN j hj]
  rcases L80_eq hmo hle k f _ _ hk (by omega) hN2 (by simp; have := hD k hk; omega) (by intro j hj; simp only [if_neg (show ¬ j = k by omega)]; exact hD j (by omega)) with ⟨h1, N', h2⟩ | ⟨E, N', k', hk', h1, h2, h3⟩
  · refine ⟨N', ?_⟩
    rw [h1, h2]
    simp only [Option.bind_some]
    rw [if_neg (by decide)]
    rfl
  · refine ⟨N', ?_⟩
    rw [h1, h2]
    simp only [Option.bind_some]
    rw [if_pos (nI_pos' (by omega)), sum15 (h3 0 (by omega)) (h3 1 (by omega)) (h3 2 (by omega)) (h3 3 (by omega))]
theorem dig15 {a b c d : Nat} (ha : a ≤ 14) (hb : b ≤ 14) (hc : c ≤ 14) (hd : d ≤ 14) : mk15 a b c d % 15 = d ∧ mk15 a b c d / 15 % 15 = c ∧ mk15 a b c d / 15 / 15 % 15 = b ∧ mk15 a b c d / 15 / 15 / 15 % 15 = a := by
  unfold mk15
  refine ⟨by omega, by omega, by omega, by omega⟩
theorem X7_wanted_eq {mmost numbers : Nat → Int32} {mo : Nat → Nat} (hmo : ∀ k, k < 4 → mmost k = nI (mo k)) (hle : ∀ k, k < 4 → mo k ≤ 14) {c x f : Nat} (hc : c ≤ 8) (hx : vM x) (hf : 5 ≤ f) : ∃ N', f_X7_wanted f mmost numbers (nI c) (nI (cv x)) = some (nI (cv (wN mo c x)), N') := by
  have hcs := cv_small hx
  unfold f_X7_wanted
  rcases vM_mk hx with rfl | ⟨a, b, p, d, ha, hb, hp, hd, rfl⟩
  · rw [cv_lost, if_pos (by decide)]
    exact ⟨numbers, by unfold wN; rw [if_pos rfl]; rfl⟩
  · rw [cv_mk ha hb hp hd]
    have hs : mk15 a b p d < 50625 := by unfold mk15; omega
    rw [if_neg (by rw [show (50625 : Int32) = nI 50625 from rfl, nI_eq (by omega) (by omega)]; omega)]
    obtain ⟨N, e, n3, n2, n1, n0⟩ := L14_eq (x := mk15 a b p d) (f := f) (N := numbers) hc (by omega) hf
    obtain ⟨e3, e2, e1, e0⟩ := dig15 ha hb hp hd
    rw [e3] at n3; rw [e2] at n2; rw [e1] at n1; rw [e0] at n0
    rw [e]
    simp only [Option.bind_some]
    rw [wN_D mo hc ha hb hp hd]
    have ev : ∀ q : Nat × Nat × Nat × Nat, N 0 = nI q.1 → N 1 = nI q.2.1 → N 2 = nI q.2.2.1 → N 3 = nI q.2.2.2 → q.1 ≤ 14 → q.2.1 ≤ 14 → q.2.2.1 ≤ 14 → q.2.2.2 ≤ 14 → (15 * ((15 * ((15 * (N 0)) + (N 1))) + (N 2))) + (N 3) = nI (cv (oD mk16 65536 (some q))) := fun q h0 h1 h2 h3 g0 g1 g2 g3 => by
      rw [sum15 h0 h1 h2 h3]
      show _ = nI (cv (mk16 q.1 q.2.1 q.2.2.1 q.2.2.2))
      rw [cv_mk g0 g1 g2 g3]
    have m0 := hle 0 (by omega)
    have m1 := hle 1 (by omega)
    have m2 := hle 2 (by omega)
    have m3 := hle 3 (by omega)
    rcases (show c = 0 ∨ c = 1 ∨ c = 2 ∨ c = 3 ∨ c = 4 ∨ c = 5 ∨ c = 6 ∨ c = 7 ∨ c = 8 by omega) with rfl | rfl | rfl | rfl | rfl | rfl | rfl | rfl | rfl
    · refine ⟨N, ?_⟩
      rw [if_neg (by decide), ev (0, 0, 0, 0) n0 n1 n2 n3 (by simp) (by simp) (by simp) (by simp)]; rfl
    · rw [if_pos (by decide), show ((nI 1 - 1) / 2 : Int32) = nI 0 from by decide, vg_nI (by omega) (by omega), tn (by omega)]
      obtain ⟨N', h⟩ := X7_w_odd (N := N) hmo hle (k := 0) (f := f) (D := fun j => if j = 0 then a else 0) (by omega) hf (by intro j hj; rcases (show j = 0 ∨ j = 1 ∨ j = 2 ∨ j = 3 by omega) with rfl | rfl | rfl | rfl; exact n0; exact n1; exact n2; exact n3) (by intro j hj; rcases (show j = 0 ∨ j = 1 ∨ j = 2 ∨ j = 3 by omega) with rfl | rfl | rfl | rfl <;> first | exact ha | exact hb | exact hp | exact hd | exact Nat.zero_le _)
      refine ⟨N', h.trans ?_⟩
      by_cases h0 : a < mo 0
      · have w : wD mo 1 a b p d = some (a + 1, 0, 0, 0) := by simp only [wD, h0, if_true, if_false]
        rw [w, show cD mo 0 (fun j => if j = 0 then (fun j => if j = 0 then a else 0) 0 + 1 else (fun j => if j = 0 then a else 0) j) = some (fun j => if j = 0 then (fun j => if j = 0 then a else 0) 0 + 1 else (fun j => if j = 0 then a else 0) j) from (if_pos h0)]
        show some (nI (mk15 (a + 1) (0) (0) (0)), N') = some (nI (cv (mk16 (a + 1) (0) (0) (0))), N')
        rw [cv_mk (by omega) (by omega) (by omega) (by omega)]
      · have w : wD mo 1 a b p d = none := by simp only [wD, h0, if_false]
        rw [w, show cD mo 0 (fun j => if j = 0 then (fun j => if j = 0 then a else 0) 0 + 1 else (fun j => if j = 0 then a else 0) j) = none from (if_neg h0)]
        rfl
    · refine ⟨N, ?_⟩
      rw [if_neg (by decide), ev (a, 0, 0, 0) n0 n1 n2 n3 ha (by simp) (by simp) (by simp)]; rfl
    · rw [if_pos (by decide), show ((nI 3 - 1) / 2 : Int32) = nI 1 from by decide, vg_nI (by omega) (by omega), tn (by omega)]
      obtain ⟨N', h⟩ := X7_w_odd (N := N) hmo hle (k := 1) (f := f) (D := fun j => if j = 0 then a else if j = 1 then b else 0) (by omega) hf (by intro j hj; rcases (show j = 0 ∨ j = 1 ∨ j = 2 ∨ j = 3 by omega) with rfl | rfl | rfl | rfl; exact n0; exact n1; exact n2; exact n3) (by intro j hj; rcases (show j = 0 ∨ j = 1 ∨ j = 2 ∨ j = 3 by omega) with rfl | rfl | rfl | rfl <;> first | exact ha | exact hb | exact hp | exact hd | exact Nat.zero_le _)
      refine ⟨N', h.trans ?_⟩
      by_cases h1 : b < mo 1
      · have w : wD mo 3 a b p d = some (a, b + 1, 0, 0) := by simp only [wD, h1, if_true, if_false]
        rw [w, show cD mo 1 (fun j => if j = 1 then (fun j => if j = 0 then a else if j = 1 then b else 0) 1 + 1 else (fun j => if j = 0 then a else if j = 1 then b else 0) j) = some (fun j => if j = 1 then (fun j => if j = 0 then a else if j = 1 then b else 0) 1 + 1 else (fun j => if j = 0 then a else if j = 1 then b else 0) j) from (if_pos h1)]
        show some (nI (mk15 (a) (b + 1) (0) (0)), N') = some (nI (cv (mk16 (a) (b + 1) (0) (0))), N')
        rw [cv_mk (by omega) (by omega) (by omega) (by omega)]
      · by_cases h0 : a < mo 0
        · have w : wD mo 3 a b p d = some (a + 1, 0, 0, 0) := by simp only [wD, h0, h1, if_true, if_false]
          rw [w, show cD mo 1 (fun j => if j = 1 then (fun j => if j = 0 then a else if j = 1 then b else 0) 1 + 1 else (fun j => if j = 0 then a else if j = 1 then b else 0) j) = some (fun j => if j = 0 then (fun j => if j = 1 then (fun j => if j = 0 then a else if j = 1 then b else 0) 1 + 1 else (fun j => if j = 0 then a else if j = 1 then b else 0) j) 0 + 1 else if j = 1 then 0 else (fun j => if j = 1 then (fun j => if j = 0 then a else if j = 1 then b else 0) 1 + 1 else (fun j => if j = 0 then a else if j = 1 then b else 0) j) j) from ((if_neg h1).trans (if_pos h0))]
          show some (nI (mk15 (a + 1) (0) (0) (0)), N') = some (nI (cv (mk16 (a + 1) (0) (0) (0))), N')
          rw [cv_mk (by omega) (by omega) (by omega) (by omega)]
        · have w : wD mo 3 a b p d = none := by simp only [wD, h0, h1, if_false]
          rw [w, show cD mo 1 (fun j => if j = 1 then (fun j => if j = 0 then a else if j = 1 then b else 0) 1 + 1 else (fun j => if j = 0 then a else if j = 1 then b else 0) j) = none from ((if_neg h1).trans (if_neg h0))]
          rfl
    · refine ⟨N, ?_⟩
      rw [if_neg (by decide), ev (a, b, 0, 0) n0 n1 n2 n3 ha hb (by simp) (by simp)]; rfl
    · rw [if_pos (by decide), show ((nI 5 - 1) / 2 : Int32) = nI 2 from by decide, vg_nI (by omega) (by omega), tn (by omega)]
      obtain ⟨N', h⟩ := X7_w_odd (N := N) hmo hle (k := 2) (f := f) (D := fun j => if j = 0 then a else if j = 1 then b else if j = 2 then p else 0) (by omega) hf (by intro j hj; rcases (show j = 0 ∨ j = 1 ∨ j = 2 ∨ j = 3 by omega) with rfl | rfl | rfl | rfl; exact n0; exact n1; exact n2; exact n3) (by intro j hj; rcases (show j = 0 ∨ j = 1 ∨ j = 2 ∨ j = 3 by omega) with rfl | rfl | rfl | rfl <;> first | exact ha | exact hb | exact hp | exact hd | exact Nat.zero_le _)
      refine ⟨N', h.trans ?_⟩
      by_cases h2 : p < mo 2
      · have w : wD mo 5 a b p d = some (a, b, p + 1, 0) := by simp only [wD, h2, if_true, if_false]
        rw [w, show cD mo 2 (fun j => if j = 2 then (fun j => if j = 0 then a else if j = 1 then b else if j = 2 then p else 0) 2 + 1 else (fun j => if j = 0 then a else if j = 1 then b else if j = 2 then p else 0) j) = some (fun j => if j = 2 then (fun j => if j = 0 then a else if j = 1 then b else if j = 2 then p else 0) 2 + 1 else (fun j => if j = 0 then a else if j = 1 then b else if j = 2 then p else 0) j) from (if_pos h2)]
        show some (nI (mk15 (a) (b) (p + 1) (0)), N') = some (nI (cv (mk16 (a) (b) (p + 1) (0))), N')
        rw [cv_mk (by omega) (by omega) (by omega) (by omega)]
      · by_cases h1 : b < mo 1
        · have w : wD mo 5 a b p d = some (a, b + 1, 0, 0) := by simp only [wD, h1, h2, if_true, if_false]
          rw [w, show cD mo 2 (fun j => if j = 2 then (fun j => if j = 0 then a else if j = 1 then b else if j = 2 then p else 0) 2 + 1 else (fun j => if j = 0 then a else if j = 1 then b else if j = 2 then p else 0) j) = some (fun j => if j = 1 then (fun j => if j = 2 then (fun j => if j = 0 then a else if j = 1 then b else if j = 2 then p else 0) 2 + 1 else (fun j => if j = 0 then a else if j = 1 then b else if j = 2 then p else 0) j) 1 + 1 else if j = 2 then 0 else (fun j => if j = 2 then (fun j => if j = 0 then a else if j = 1 then b else if j = 2 then p else 0) 2 + 1 else (fun j => if j = 0 then a else if j = 1 then b else if j = 2 then p else 0) j) j) from ((if_neg h2).trans (if_pos h1))]
          show some (nI (mk15 (a) (b + 1) (0) (0)), N') = some (nI (cv (mk16 (a) (b + 1) (0) (0))), N')
          rw [cv_mk (by omega) (by omega) (by omega) (by omega)]
        · by_cases h0 : a < mo 0
          · have w : wD mo 5 a b p d = some (a + 1, 0, 0, 0) := by simp only [wD, h0, h2, h1, if_true, if_false]
            rw [w, show cD mo 2 (fun j => if j = 2 then (fun j => if j = 0 then a else if j = 1 then b else if j = 2 then p else 0) 2 + 1 else (fun j => if j = 0 then a else if j = 1 then b else if j = 2 then p else 0) j) = some (fun j => if j = 0 then (fun j => if j = 1 then (fun j => if j = 2 then (fun j => if j = 0 then a else if j = 1 then b else if j = 2 then p else 0) 2 + 1 else (fun j => if j = 0 then a else if j = 1 then b else if j = 2 then p else 0) j) 1 + 1 else if j = 2 then 0 else (fun j => if j = 2 then (fun j => if j = 0 then a else if j = 1 then b else if j = 2 then p else 0) 2 + 1 else (fun j => if j = 0 then a else if j = 1 then b else if j = 2 then p else 0) j) j) 0 + 1 else if j = 1 then 0 else (fun j => if j = 1 then (fun j => if j = 2 then (fun j => if j = 0 then a else if j = 1 then b else if j = 2 then p else 0) 2 + 1 else (fun j => if j = 0 then a else if j = 1 then b else if j = 2 then p else 0) j) 1 + 1 else if j = 2 then 0 else (fun j => if j = 2 then (fun j => if j = 0 then a else if j = 1 then b else if j = 2 then p else 0) 2 + 1 else (fun j => if j = 0 then a else if j = 1 then b else if j = 2 then p else 0) j) j) j) from ((if_neg h2).trans ((if_neg h1).trans (if_pos h0)))]
            show some (nI (mk15 (a + 1) (0) (0) (0)), N') = some (nI (cv (mk16 (a + 1) (0) (0) (0))), N')
            rw [cv_mk (by omega) (by omega) (by omega) (by omega)]
          · have w : wD mo 5 a b p d = none := by simp only [wD, h0, h2, h1, if_false]
            rw [w, show cD mo 2 (fun j => if j = 2 then (fun j => if j = 0 then a else if j = 1 then b else if j = 2 then p else 0) 2 + 1 else (fun j => if j = 0 then a else if j = 1 then b else if j = 2 then p else 0) j) = none from ((if_neg h2).trans ((if_neg h1).trans (if_neg h0)))]
            rfl
    · refine ⟨N, ?_⟩
      rw [if_neg (by decide), ev (a, b, p, 0) n0 n1 n2 n3 ha hb hp (by simp)]; rfl
    · rw [if_pos (by decide), show ((nI 7 - 1) / 2 : Int32) = nI 3 from by decide, vg_nI (by omega) (by omega), tn (by omega)]
      obtain ⟨N', h⟩ := X7_w_odd (N := N) hmo hle (k := 3) (f := f) (D := fun j => if j = 0 then a else if j = 1 then b else if j = 2 then p else if j = 3 then d else 0) (by omega) hf (by intro j hj; rcases (show j = 0 ∨ j = 1 ∨ j = 2 ∨ j = 3 by omega) with rfl | rfl | rfl | rfl; exact n0; exact n1; exact n2; exact n3) (by intro j hj; rcases (show j = 0 ∨ j = 1 ∨ j = 2 ∨ j = 3 by omega) with rfl | rfl | rfl | rfl <;> first | exact ha | exact hb | exact hp | exact hd | exact Nat.zero_le _)
      refine ⟨N', h.trans ?_⟩
      by_cases h3 : d < mo 3
      · have w : wD mo 7 a b p d = some (a, b, p, d + 1) := by simp only [wD, h3, if_true, if_false]
        rw [w, show cD mo 3 (fun j => if j = 3 then (fun j => if j = 0 then a else if j = 1 then b else if j = 2 then p else if j = 3 then d else 0) 3 + 1 else (fun j => if j = 0 then a else if j = 1 then b else if j = 2 then p else if j = 3 then d else 0) j) = some (fun j => if j = 3 then (fun j => if j = 0 then a else if j = 1 then b else if j = 2 then p else if j = 3 then d else 0) 3 + 1 else (fun j => if j = 0 then a else if j = 1 then b else if j = 2 then p else if j = 3 then d else 0) j) from (if_pos h3)]
        show some (nI (mk15 (a) (b) (p) (d + 1)), N') = some (nI (cv (mk16 (a) (b) (p) (d + 1))), N')
        rw [cv_mk (by omega) (by omega) (by omega) (by omega)]
      · by_cases h2 : p < mo 2
        · have w : wD mo 7 a b p d = some (a, b, p + 1, 0) := by simp only [wD, h2, h3, if_true, if_false]
          rw [w, show cD mo 3 (fun j => if j = 3 then (fun j => if j = 0 then a else if j = 1 then b else if j = 2 then p else if j = 3 then d else 0) 3 + 1 else (fun j => if j = 0 then a else if j = 1 then b else if j = 2 then p else if j = 3 then d else 0) j) = some (fun j => if j = 2 then (fun j => if j = 3 then (fun j => if j = 0 then a else if j = 1 then b else if j = 2 then p else if j = 3 then d else 0) 3 + 1 else (fun j => if j = 0 then a else if j = 1 then b else if j = 2 then p else if j = 3 then d else 0) j) 2 + 1 else if j = 3 then 0 else (fun j => if j = 3 then (fun j => if j = 0 then a else if j = 1 then b else if j = 2 then p else if j = 3 then d else 0) 3 + 1 else (fun j => if j = 0 then a else if j = 1 then b else if j = 2 then p else if j = 3 then d else 0) j) j) from ((if_neg h3).trans (if_pos h2))]
          show some (nI (mk15 (a) (b) (p + 1) (0)), N') = some (nI (cv (mk16 (a) (b) (p + 1) (0))), N')
          rw [cv_mk (by omega) (by omega) (by omega) (by omega)]
        · by_cases h1 : b < mo 1
          · have w : wD mo 7 a b p d = some (a, b + 1, 0, 0) := by simp only [wD, h1, h3, h2, if_true, if_false]
            rw [w, show cD mo 3 (fun j => if j = 3 then (fun j => if j = 0 then a else if j = 1 then b else if j = 2 then p else if j = 3 then d else 0) 3 + 1 else (fun j => if j = 0 then a else if j = 1 then b else if j = 2 then p else if j = 3 then d else 0) j) = some (fun j => if j = 1 then (fun j => if j = 2 then (fun j => if j = 3 then (fun j => if j = 0 then a else if j = 1 then b else if j = 2 then p else if j = 3 then d else 0) 3 + 1 else (fun j => if j = 0 then a else if j = 1 then b else if j = 2 then p else if j = 3 then d else 0) j) 2 + 1 else if j = 3 then 0 else (fun j => if j = 3 then (fun j => if j = 0 then a else if j = 1 then b else if j = 2 then p else if j = 3 then d else 0) 3 + 1 else (fun j => if j = 0 then a else if j = 1 then b else if j = 2 then p else if j = 3 then d else 0) j) j) 1 + 1 else if j = 2 then 0 else (fun j => if j = 2 then (fun j => if j = 3 then (fun j => if j = 0 then a else if j = 1 then b else if j = 2 then p else if j = 3 then d else 0) 3 + 1 else (fun j => if j = 0 then a else if j = 1 then b else if j = 2 then p else if j = 3 then d else 0) j) 2 + 1 else if j = 3 then 0 else (fun j => if j = 3 then (fun j => if j = 0 then a else if j = 1 then b else if j = 2 then p else if j = 3 then d else 0) 3 + 1 else (fun j => if j = 0 then a else if j = 1 then b else if j = 2 then p else if j = 3 then d else 0) j) j) j) from ((if_neg h3).trans ((if_neg h2).trans (if_pos h1)))]
            show some (nI (mk15 (a) (b + 1) (0) (0)), N') = some (nI (cv (mk16 (a) (b + 1) (0) (0))), N')
            rw [cv_mk (by omega) (by omega) (by omega) (by omega)]
          · by_cases h0 : a < mo 0
            · have w : wD mo 7 a b p d = some (a + 1, 0, 0, 0) := by simp only [wD, h0, h3, h2, h1, if_true, if_false]
              rw [w, show cD mo 3 (fun j => if j = 3 then (fun j => if j = 0 then a else if j = 1 then b else if j = 2 then p else if j = 3 then d else 0) 3 + 1 else (fun j => if j = 0 then a else if j = 1 then b else if j = 2 then p else if j = 3 then d else 0) j) = some (fun j => if j = 0 then (fun j => if j = 1 then (fun j => if j = 2 then (fun j => if j = 3 then (fun j => if j = 0 then a else if j = 1 then b else if j = 2 then p else if j = 3 then d else 0) 3 + 1 else (fun j => if j = 0 then a else if j = 1 then b else if j = 2 then p else if j = 3 then d else 0) j) 2 + 1 else if j = 3 then 0 else (fun j => if j = 3 then (fun j => if j = 0 then a else if j = 1 then b else if j = 2 then p else if j = 3 then d else 0) 3 + 1 else (fun j => if j = 0 then a else if j = 1 then b else if j = 2 then p else if j = 3 then d else 0) j) j) 1 + 1 else if j = 2 then 0 else (fun j => if j = 2 then (fun j => if j = 3 then (fun j => if j = 0 then a else if j = 1 then b else if j = 2 then p else if j = 3 then d else 0) 3 + 1 else (fun j => if j = 0 then a else if j = 1 then b else if j = 2 then p else if j = 3 then d else 0) j) 2 + 1 else if j = 3 then 0 else (fun j => if j = 3 then (fun j => if j = 0 then a else if j = 1 then b else if j = 2 then p else if j = 3 then d else 0) 3 + 1 else (fun j => if j = 0 then a else if j = 1 then b else if j = 2 then p else if j = 3 then d else 0) j) j) j) 0 + 1 else if j = 1 then 0 else (fun j => if j = 1 then (fun j => if j = 2 then (fun j => if j = 3 then (fun j => if j = 0 then a else if j = 1 then b else if j = 2 then p else if j = 3 then d else 0) 3 + 1 else (fun j => if j = 0 then a else if j = 1 then b else if j = 2 then p else if j = 3 then d else 0) j) 2 + 1 else if j = 3 then 0 else (fun j => if j = 3 then (fun j => if j = 0 then a else if j = 1 then b else if j = 2 then p else if j = 3 then d else 0) 3 + 1 else (fun j => if j = 0 then a else if j = 1 then b else if j = 2 then p else if j = 3 then d else 0) j) j) 1 + 1 else if j = 2 then 0 else (fun j => if j = 2 then (fun j => if j = 3 then (fun j => if j = 0 then a else if j = 1 then b else if j = 2 then p else if j = 3 then d else 0) 3 + 1 else (fun j => if j = 0 then a else if j = 1 then b else if j = 2 then p else if j = 3 then d else 0) j) 2 + 1 else if j = 3 then 0 else (fun j => if j = 3 then (fun j => if j = 0 then a else if j = 1 then b else if j = 2 then p else if j = 3 then d else 0) 3 + 1 else (fun j => if j = 0 then a else if j = 1 then b else if j = 2 then p else if j = 3 then d else 0) j) j) j) j) from ((if_neg h3).trans ((if_neg h2).trans ((if_neg h1).trans (if_pos h0))))]
              show some (nI (mk15 (a + 1) (0) (0) (0)), N') = some (nI (cv (mk16 (a + 1) (0) (0) (0))), N')
              rw [cv_mk (by omega) (by omega) (by omega) (by omega)]
            · have w : wD mo 7 a b p d = none := by simp only [wD, h0, h3, h2, h1, if_false]
              rw [w, show cD mo 3 (fun j => if j = 3 then (fun j => if j = 0 then a else if j = 1 then b else if j = 2 then p else if j = 3 then d else 0) 3 + 1 else (fun j => if j = 0 then a else if j = 1 then b else if j = 2 then p else if j = 3 then d else 0) j) = none from ((if_neg h3).trans ((if_neg h2).trans ((if_neg h1).trans (if_neg h0))))]
              rfl
    · refine ⟨N, ?_⟩
      rw [if_neg (by decide), ev (a, b, p, d) n0 n1 n2 n3 ha hb hp hd]; rfl
