/-! what a place asks for, a round, all rounds -/
theorem fo_inv {α : Type} (P : α → Prop) (f : Nat → α → α) (n : Nat) (a : α) (h0 : P a) (hs : ∀ i, i < n → P (fo f i a) → P (f i (fo f i a))) : ∀ i, i ≤ n → P (fo f i a) := by
  intro i
  induction i with
  | zero => intro _; exact h0
  | succ i ih => intro hi; exact hs i (by omega) (ih (by omega))
theorem fo_congr {α : Type} {f g : Nat → α → α} {n : Nat} {a : α} (h : ∀ i, i < n → f i (fo f i a) = g i (fo f i a)) : ∀ i, i ≤ n → fo f i a = fo g i a := by
  intro i
  induction i with
  | zero => intro _; rfl
  | succ i ih =>
    intro hi
    rw [fo_s, fo_s, h i (by omega), ih (by omega)]
theorem loop_rel {α β σ : Type} (L : Nat → σ → Int32 → Option β) (Rl : Nat → α → σ → Prop) (f : Nat → α → α) (n : Nat) (a0 : α) (s0 : σ) (h0 : Rl 0 a0 s0)
    (hstep : ∀ k i s, i < n → Rl i (fo f i a0) s → ∃ s', L (k + 1) s (nI i) = L k s' (nI (i + 1)) ∧ Rl (i + 1) (f i (fo f i a0)) s') (m : Nat) (hm : n < m) : ∃ s, Rl n (fo f n a0) s ∧ L m s0 (nI 0) = L (m - n) s (nI n) := by
  have key : ∀ i, i ≤ n → ∃ s, Rl i (fo f i a0) s ∧ L m s0 (nI 0) = L (m - i) s (nI i) := by
    intro i
    induction i with
    | zero => intro _; exact ⟨s0, h0, rfl⟩
    | succ i ih =>
      intro hi
      obtain ⟨s, h1, h2⟩ := ih (by omega)
      obtain ⟨s', h3, h4⟩ := hstep (m - (i + 1)) i s (by omega) h1
      exact ⟨s', h4, by rw [h2, show m - i = (m - (i + 1)) + 1 by omega, h3]⟩
  exact key n (Nat.le_refl n)
def askF (ow co ar mo M : Nat → Nat) (p : Nat) : Nat → Nat → Nat := fun q a => if (ar p).testBit q = true then (if ow p = 0 then min a (wN mo (co p) (M q)) else max a (wN mo (co p) (M q))) else a
def ask0 (ow : Nat → Nat) (p : Nat) : Nat := if ow p = 0 then 65536 else 0
def askN (n : Nat) (ow co ar mo M : Nat → Nat) (p : Nat) : Nat := fo (askF ow co ar mo M p) n (ask0 ow p)
theorem vM_0 : vM 0 := by right; decide
theorem vM_min {a b : Nat} (ha : vM a) (hb : vM b) : vM (min a b) := by
  rcases Nat.le_total a b with h | h
  · rw [Nat.min_eq_left h]; exact ha
  · rw [Nat.min_eq_right h]; exact hb
theorem vM_max {a b : Nat} (ha : vM a) (hb : vM b) : vM (max a b) := by
  rcases Nat.le_total a b with h | h
  · rw [Nat.max_eq_right h]; exact hb
  · rw [Nat.max_eq_left h]; exact ha
section AS
variable {n : Nat} {ow co ar mo M : Nat → Nat}
theorem ask_vM (ok : okG n ow co ar) (hle : ∀ k, k < 4 → mo k ≤ 14) (hv : ∀ p, p < n → vM (M p)) {p : Nat} (hp : p < n) : ∀ i, i ≤ n → vM (fo (askF ow co ar mo M p) i (ask0 ow p)) := by
  refine fo_inv vM _ n _ ?_ ?_
  · unfold ask0
    split
    · exact Or.inl rfl
    · exact vM_0
  · intro i hi h
    have h2 := wN_vM hle (ok.2 p hp).2.1 (hv i hi)
    generalize fo (askF ow co ar mo M p) i (ask0 ow p) = A at h ⊢
    unfold askF
    split
    · split
      · exact vM_min h h2
      · exact vM_max h h2
    · exact h
theorem imax {a b : Nat} (ha : a < 2 ^ 31) (hb : b < 2 ^ 31) : (if nI a < nI b then nI b else nI a) = nI (max a b) := by
  by_cases h : a < b
  · rw [if_pos ((nI_ltI ha hb).mpr h), Nat.max_eq_right (by omega)]
  · rw [if_neg (fun e => h ((nI_ltI ha hb).mp e)), Nat.max_eq_left (by omega)]
theorem imin {a b : Nat} (ha : a < 2 ^ 31) (hb : b < 2 ^ 31) : (if nI b < nI a then nI b else nI a) = nI (min a b) := by
  by_cases h : b < a
  · rw [if_pos ((nI_ltI hb ha).mpr h), Nat.min_eq_right (by omega)]
  · rw [if_neg (fun e => h ((nI_ltI hb ha).mp e)), Nat.min_eq_left (by omega)]
/-- the class's measures object holds M -/
def rE (e : EE) (n : Nat) (mo M : Nat → Nat) : Prop := (∀ k, k < 4 → e.1 k = nI (mo k)) ∧ ∀ p, p < n → e.2.1 p = nI (M p)
theorem X3_asked_eq {e : EE} {g : GG} {m : Nat} (hR : rG g n ow co ar) (ok : okG n ow co ar) (hE : rE e n mo M) (hle : ∀ k, k < 4 → mo k ≤ 14) (hv : ∀ p, p < n → vM (M p)) (hm : 20 ≤ m) {p : Nat} (hp : p < n) : f_X3_asked m e g (nI p) = some (nI (askN n ow co ar mo M p)) := by
  have hn := ok.1
  have ho := (ok.2 p hp).1
  unfold f_X3_asked
  rw [vg_nI (by omega) (by omega), tn (by omega), (hR.2 p hp).1]
  have e0 : (if nI (ow p) = 0 then some (1 : Int32) else some 0) = some (if ow p = 0 then 1 else 0) := by
    by_cases h : ow p = 0
    · rw [if_pos (by rw [h]; rfl), if_pos h]
    · rw [if_neg (by rw [show (0 : Int32) = nI 0 from rfl, nI_eq (by omega) (by omega)]; exact h), if_neg h]
  have e1 : (if (if ow p = 0 then (1 : Int32) else 0) = 0 then some (0 : Int32) else some 65536) = some (nI (ask0 ow p)) := by
    unfold ask0
    by_cases h : ow p = 0
    · rw [if_pos h, if_pos h, if_neg (by decide)]; rfl
    · rw [if_neg h, if_neg h, if_pos rfl]; rfl
  rw [e0]
  simp only [Option.bind_some]
  rw [e1]
  simp only [Option.bind_some]
  have := loop_fo (fun k (a : Int32) i => f_X3_asked_L30 m e g (nI p) (if ow p = 0 then 1 else 0) k a i) nI nI (askF ow co ar mo M p) n (ask0 ow p)
    (fun k => by
      show f_X3_asked_L30 m e g (nI p) _ (k + 1) _ _ = _
      rw [f_X3_asked_L30, hR.1, if_pos (nI_le (Nat.le_refl n) (by omega))])
    (fun k i hi => by
      show f_X3_asked_L30 m e g (nI p) _ (k + 1) _ _ = f_X3_asked_L30 m e g (nI p) _ k _ _
      have b1 := vM_le (ask_vM ok hle hv hp i (by omega))
      have b2 := vM_le (wN_vM hle (ok.2 p hp).2.1 (hv i hi))
      rw [f_X3_asked_L30, hR.1, if_neg (nI_ge hi (by omega)), vg_nI (by omega) (by omega), tn (by omega), (hR.2 p hp).2.2, contains_eq (p31 hn (ok.2 p hp).2.2) (by omega)]
      simp only [Option.bind_some]
      generalize hF : fo (askF ow co ar mo M p) i (ask0 ow p) = A at b1 ⊢
      unfold askF
      by_cases hb : (ar p).testBit i = true
      · rw [if_pos hb, if_neg (by decide), X3_wanted_eq hR ok hE.1 hle hE.2 hv (by omega) hp hi, if_pos hb]
        simp only [Option.bind_some]
        by_cases h : ow p = 0
        · rw [if_pos h, if_neg (by decide), if_pos h, imin (by omega) (by omega), nI_1]
        · rw [if_neg h, if_pos rfl, if_neg h, imax (by omega) (by omega), nI_1]
      · rw [if_neg hb, if_pos rfl, nI_1, if_neg hb]) m (by omega)
  have h0 : f_X3_asked_L30 m e g (nI p) (if ow p = 0 then 1 else 0) m (nI (ask0 ow p)) 0 = some (nI (askN n ow co ar mo M p)) := this
  rw [h0]
  rfl
/-- a round -/
def rsF (n : Nat) (ow co ar mo : Nat → Nat) : Nat → (Nat → Nat) × Bool → (Nat → Nat) × Bool := fun p s => if s.1 p < askN n ow co ar mo s.1 p then ((fun j => if j = p then askN n ow co ar mo s.1 p else s.1 j), true) else s
def rsN (n : Nat) (ow co ar mo M : Nat → Nat) : (Nat → Nat) × Bool := fo (rsF n ow co ar mo) n (M, false)
theorem rsF_vM (ok : okG n ow co ar) (hle : ∀ k, k < 4 → mo k ≤ 14) {s : (Nat → Nat) × Bool} (hv : ∀ p, p < n → vM (s.1 p)) {i : Nat} (hi : i < n) : ∀ p, p < n → vM ((rsF n ow co ar mo i s).1 p) := by
  intro p hp
  unfold rsF
  split
  · by_cases h : p = i
    · subst h
      show vM (if p = p then _ else _)
      rw [if_pos rfl]
      exact ask_vM ok hle hv hp n (Nat.le_refl n)
    · show vM (if p = i then _ else _)
      rw [if_neg h]
      exact hv p hp
  · exact hv p hp
theorem rs_vM (ok : okG n ow co ar) (hle : ∀ k, k < 4 → mo k ≤ 14) {b : Bool} (hv : ∀ p, p < n → vM (M p)) : ∀ i, i ≤ n → ∀ p, p < n → vM ((fo (rsF n ow co ar mo) i (M, b)).1 p) :=
  fo_inv (fun (s : (Nat → Nat) × Bool) => ∀ p, p < n → vM (s.1 p)) _ n _ hv (fun i hi h => rsF_vM ok hle h hi)
theorem X3_raise_eq {e : EE} {g : GG} {m : Nat} (hR : rG g n ow co ar) (ok : okG n ow co ar) (hE : rE e n mo M) (hle : ∀ k, k < 4 → mo k ≤ 14) (hv : ∀ p, p < n → vM (M p)) (hm : 20 ≤ m) : ∃ e', f_X3_raise m e g = some (if (rsN n ow co ar mo M).2 then 1 else 0, e') ∧ rE e' n mo (rsN n ow co ar mo M).1 ∧ e'.2.2 = e.2.2 := by
  have hn := ok.1
  unfold f_X3_raise
  obtain ⟨s, ⟨h1, h2, h3⟩, h4⟩ := loop_rel (fun k (s : Int32 × EE) i => f_X3_raise_L4 m g k s.1 i s.2) (fun _ (a : (Nat → Nat) × Bool) s => s.1 = (if a.2 then 1 else 0) ∧ rE s.2 n mo a.1 ∧ s.2.2.2 = e.2.2) (rsF n ow co ar mo) n (M, false) (0, e) ⟨rfl, hE, rfl⟩
    (fun k i s hi ⟨h1, h2, h3⟩ => by
      have hvi := rs_vM (b := false) ok hle hv i (by omega)
      generalize fo (rsF n ow co ar mo) i (M, false) = a at h1 h2 h3 hvi ⊢
      have b1 := vM_le (hvi i hi)
      have b2 := vM_le (ask_vM ok hle hvi hi n (Nat.le_refl n))
      have b2 : askN n ow co ar mo a.1 i ≤ 65536 := b2
      show ∃ s' : Int32 × EE, f_X3_raise_L4 m g (k + 1) s.1 (nI i) s.2 = f_X3_raise_L4 m g k s'.1 (nI (i + 1)) s'.2 ∧ _
      rw [f_X3_raise_L4, hR.1, if_neg (nI_ge hi (by omega)), X3_asked_eq hR ok h2 hle hvi hm hi]
      simp only [Option.bind_some]
      rw [vg_nI (by omega) (by omega), tn (by omega), h2.2 i hi, nI_1]
      unfold rsF
      by_cases h : a.1 i < askN n ow co ar mo a.1 i
      · rw [if_neg (by rw [nI_leI (by omega) (by omega)]; omega), if_pos h]
        refine ⟨(1, (s.2.1, upd s.2.2.1 i (nI (askN n ow co ar mo a.1 i)), s.2.2.2)), rfl, rfl, ⟨h2.1, fun p hp => ?_⟩, h3⟩
        show upd s.2.2.1 i _ p = nI (if p = i then _ else _)
        by_cases hpi : p = i
        · subst hpi
          rw [upd_s, if_pos rfl]
        · rw [upd_n hpi, if_neg hpi]
          exact h2.2 p hp
      · rw [if_pos (by rw [nI_leI (by omega) (by omega)]; omega), if_neg h]
        exact ⟨s, rfl, h1, h2, h3⟩) m (by omega)
  have h4 : f_X3_raise_L4 m g m 0 0 e = f_X3_raise_L4 m g (m - n) s.1 (nI n) s.2 := h4
  rw [h4, show m - n = (m - n - 1) + 1 by omega, f_X3_raise_L4, hR.1, if_pos (nI_le (Nat.le_refl n) (by omega))]
  simp only [Option.bind_some]
  refine ⟨s.2, ?_, h2, h3⟩
  rw [zg_01 (by rw [h1]; cases (fo (rsF n ow co ar mo) n (M, false)).2 <;> simp), h1]
  rfl
end AS
