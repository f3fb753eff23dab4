/-! all rounds: they end -/
/-- how many odd places of a kind -/
def moN (n : Nat) (co : Nat → Nat) (k : Nat) : Nat := fo (fun p c => if co p = 2 * k + 1 then c + 1 else c) n 0
theorem moN_le (n : Nat) (co : Nat → Nat) (k : Nat) : moN n co k ≤ n := by
  unfold moN
  have : ∀ i, fo (fun p c => if co p = 2 * k + 1 then c + 1 else c) i 0 ≤ i := by
    intro i
    induction i with
    | zero => exact Nat.le_refl _
    | succ i ih =>
      rw [fo_s]
      split <;> omega
  exact this n
def nit (n : Nat) (ow co ar mo : Nat → Nat) : Nat → Nat → Nat
  | 0 => fun _ => 0
  | t + 1 => (rsN n ow co ar mo (nit n ow co ar mo t)).1
/-- the measures and the number of the last round -/
def SolP (n : Nat) (ow co ar M : Nat → Nat) (r : Nat) : Prop := ∃ t, r = t + 1 ∧ t ≤ 917504 ∧ M = nit n ow co ar (moN n co) t ∧ (∀ j, j < t → (rsN n ow co ar (moN n co) (nit n ow co ar (moN n co) j)).2 = true) ∧ (rsN n ow co ar (moN n co) (nit n ow co ar (moN n co) t)).2 = false
def sM (M : Nat → Nat) (n : Nat) : Nat := fo (fun p c => c + M p) n 0
theorem sM_le {M : Nat → Nat} {n : Nat} (h : ∀ p, p < n → M p ≤ 65536) : sM M n ≤ 65536 * n := by
  unfold sM
  have : ∀ i, i ≤ n → fo (fun p c => c + M p) i 0 ≤ 65536 * i := by
    intro i
    induction i with
    | zero => intro _; exact Nat.le_refl _
    | succ i ih =>
      intro hi
      rw [fo_s]
      have := ih (by omega)
      have := h i (by omega)
      omega
  exact this n (Nat.le_refl n)
theorem sM_mono {M M' : Nat → Nat} {n : Nat} (h : ∀ p, p < n → M p ≤ M' p) : sM M n ≤ sM M' n := by
  unfold sM
  have : ∀ i, i ≤ n → fo (fun p c => c + M p) i 0 ≤ fo (fun p c => c + M' p) i 0 := by
    intro i
    induction i with
    | zero => intro _; exact Nat.le_refl _
    | succ i ih =>
      intro hi
      rw [fo_s, fo_s]
      have := ih (by omega)
      have := h i (by omega)
      omega
  exact this n (Nat.le_refl n)
theorem sM_lt {M M' : Nat → Nat} {n q : Nat} (h : ∀ p, p < n → M p ≤ M' p) (hq : q < n) (hlt : M q < M' q) : sM M n < sM M' n := by
  induction n with
  | zero => omega
  | succ n ih =>
    unfold sM
    rw [fo_s, fo_s]
    have h0 := h n (by omega)
    by_cases e : q = n
    · subst e
      have := sM_mono (n := q) (fun p hp => h p (by omega))
      unfold sM at this
      omega
    · have := ih (fun p hp => h p (by omega)) (by omega)
      unfold sM at this
      omega
section RS
variable {n : Nat} {ow co ar mo M : Nat → Nat}
/-- a round makes nothing less; if it says so, something greater; if not, it changes nothing -/
theorem rs_grow : ∀ i, i ≤ n → (∀ p, M p ≤ (fo (rsF n ow co ar mo) i (M, false)).1 p) ∧ ((fo (rsF n ow co ar mo) i (M, false)).2 = true → ∃ q, q < n ∧ M q < (fo (rsF n ow co ar mo) i (M, false)).1 q) ∧ ((fo (rsF n ow co ar mo) i (M, false)).2 = false → (fo (rsF n ow co ar mo) i (M, false)).1 = M ∧ ∀ p, p < i → askN n ow co ar mo M p ≤ M p) := by
  intro i
  induction i with
  | zero => intro _; exact ⟨fun _ => Nat.le_refl _, (fun h => by cases h), fun _ => ⟨rfl, fun p hp => absurd hp (by omega)⟩⟩
  | succ i ih =>
    intro hi
    obtain ⟨h1, h2, h3⟩ := ih (by omega)
    rw [fo_s]
    generalize hs : fo (rsF n ow co ar mo) i (M, false) = s at h1 h2 h3 ⊢
    unfold rsF
    by_cases h : s.1 i < askN n ow co ar mo s.1 i
    · rw [if_pos h]
      refine ⟨fun p => ?_, fun _ => ⟨i, by omega, ?_⟩, fun e => by cases e⟩
      · show M p ≤ if p = i then _ else _
        by_cases hp : p = i
        · subst hp; rw [if_pos rfl]; have := h1 p; omega
        · rw [if_neg hp]; exact h1 p
      · show M i < if i = i then _ else _
        rw [if_pos rfl]; have := h1 i; omega
    · rw [if_neg h]
      refine ⟨h1, h2, fun e => ?_⟩
      obtain ⟨g1, g2⟩ := h3 e
      refine ⟨g1, fun p hp => ?_⟩
      by_cases hpi : p = i
      · subst hpi
        rw [g1] at h
        omega
      · exact g2 p (by omega)
theorem nit_vM (ok : okG n ow co ar) (hle : ∀ k, k < 4 → mo k ≤ 14) : ∀ t p, p < n → vM (nit n ow co ar mo t p) := by
  intro t
  induction t with
  | zero => intro p _; exact vM_0
  | succ t ih => intro p hp; exact rs_vM ok hle ih n (Nat.le_refl n) p hp
theorem sol_exists (ok : okG n ow co ar) : ∃ M r, SolP n ow co ar M r := by
  have hle : ∀ k, k < 4 → moN n co k ≤ 14 := fun k _ => Nat.le_trans (moN_le n co k) ok.1
  have hn := ok.1
  have hb : ∀ t, sM (nit n ow co ar (moN n co) t) n ≤ 917504 := fun t => by
    have := sM_le (n := n) (fun p hp => vM_le (nit_vM ok hle t p hp))
    omega
  have key : ∀ d t, 917504 ≤ sM (nit n ow co ar (moN n co) t) n + d → (∀ j, j < t → (rsN n ow co ar (moN n co) (nit n ow co ar (moN n co) j)).2 = true) → t ≤ sM (nit n ow co ar (moN n co) t) n → ∃ t', t' ≤ 917504 ∧ (∀ j, j < t' → (rsN n ow co ar (moN n co) (nit n ow co ar (moN n co) j)).2 = true) ∧ (rsN n ow co ar (moN n co) (nit n ow co ar (moN n co) t')).2 = false := by
    intro d
    induction d with
    | zero =>
      intro t h1 h2 h3
      cases hc : (rsN n ow co ar (moN n co) (nit n ow co ar (moN n co) t)).2 with
      | false => exact ⟨t, by have := hb t; omega, h2, hc⟩
      | true =>
        obtain ⟨g1, g2, -⟩ := rs_grow (n := n) (ow := ow) (co := co) (ar := ar) (mo := moN n co) (M := nit n ow co ar (moN n co) t) n (Nat.le_refl n)
        obtain ⟨q, hq, hlt⟩ := g2 hc
        have h5 := sM_lt (M' := nit n ow co ar (moN n co) (t + 1)) (fun p _ => g1 p) hq hlt
        have := hb (t + 1)
        omega
    | succ d ih =>
      intro t h1 h2 h3
      cases hc : (rsN n ow co ar (moN n co) (nit n ow co ar (moN n co) t)).2 with
      | false => exact ⟨t, by have := hb t; omega, h2, hc⟩
      | true =>
        obtain ⟨g1, g2, -⟩ := rs_grow (n := n) (ow := ow) (co := co) (ar := ar) (mo := moN n co) (M := nit n ow co ar (moN n co) t) n (Nat.le_refl n)
        obtain ⟨q, hq, hlt⟩ := g2 hc
        have h5 := sM_lt (M' := nit n ow co ar (moN n co) (t + 1)) (fun p _ => g1 p) hq hlt
        refine ih (t + 1) (by omega) (fun j hj => ?_) (by omega)
        by_cases e : j = t
        · subst e; exact hc
        · exact h2 j (by omega)
  obtain ⟨t, h1, h2, h3⟩ := key 917504 0 (by omega) (fun j hj => absurd hj (by omega)) (by omega)
  exact ⟨_, _, t, rfl, h1, rfl, h2, h3⟩
theorem sol_unique {M' : Nat → Nat} {r r' : Nat} (h : SolP n ow co ar M r) (h' : SolP n ow co ar M' r') : M = M' ∧ r = r' := by
  obtain ⟨t, rfl, -, rfl, h1, h2⟩ := h
  obtain ⟨t', rfl, -, rfl, h3, h4⟩ := h'
  have : t = t' := by
    rcases Nat.lt_trichotomy t t' with h | h | h
    · rw [h3 t h] at h2; cases h2
    · exact h
    · rw [h1 t' h] at h4; cases h4
  subst this
  exact ⟨rfl, rfl⟩
end RS
