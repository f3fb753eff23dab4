/-! the calls forced, rank, trap on sets and places that there are -/
section F2
variable {n : Nat} {ow co ar ch : Nat → Nat} {m : Nat} {u : SS} {f : Nat → Int32}
theorem fo_it (F : Nat → Nat) (s : Nat) : ∀ j, fo (fun _ a => F a) j s = itF F j s := by
  intro j
  induction j with
  | zero => rfl
  | succ j ih => rw [fo_s, ih]; rfl
theorem X6_forced_eq (hR : rG u.1 n ow co ar) (ok : okG n ow co ar) {pl s : Nat} (hpl : pl < 2) (hs : s < 2 ^ n) (hm : 20 < m) : f_X6_forced m u (nI pl) (nI s) = some (nI (itF (fN n ow ar pl) n s)) := by
  have hn := ok.1
  unfold f_X6_forced
  rw [isPlayer_eq, if_pos (isPl hpl), hasAll_in hR hn hs]
  simp only [Option.bind_some]
  rw [if_neg (by decide), if_neg (by decide)]
  have := loop_fo (fun k (a : Int32) i => f_X6_forced_L31 m u (nI pl) k a (i + 1)) nI nI (fun _ a => fN n ow ar pl a) n s
    (fun k => by
      show f_X6_forced_L31 m u (nI pl) (k + 1) _ _ = _
      rw [f_X6_forced_L31, hR.1, nI_1, if_pos (nI_lt (by omega) (by omega))])
    (fun k i hi => by
      show f_X6_forced_L31 m u (nI pl) (k + 1) _ _ = f_X6_forced_L31 m u (nI pl) k _ _
      have hb : fo (fun _ a => fN n ow ar pl a) i s < 2 ^ n := by
        rw [fo_it]; exact it_lt (fN_ok n ow ar pl) hs i
      rw [f_X6_forced_L31, hR.1, nI_1, if_neg (nI_nlt (by omega) (by omega)), forcedNext_eq hR ok hpl hb (by omega)]
      rfl) m (by omega)
  rw [fo_it] at this
  have h0 : f_X6_forced_L31 m u (nI pl) m (nI s) 1 = some (nI (itF (fN n ow ar pl) n s)) := this
  rw [h0]
  rfl
theorem arl (ok : okG n ow co ar) : ∀ k, k < n → ar k < 2 ^ 31 := fun k hk => p31 ok.1 (ok.2 k hk).2.2
theorem cm_lt (pl s : Nat) : so (cmP ow ar pl s) n < 2 ^ n := so_lt _ _
theorem X7_forced_eq (hM : rM f n ow co ar ch) (ok : okG n ow co ar) {pl s : Nat} (hpl : pl < 2) (hs : s < 2 ^ n) (hm : 20 < m) : f_X7_forced m f (nI pl) (nI s) = some (nI (itF (fN n ow ar pl) n s)) := by
  have hn := ok.1
  have hp := pow_n hn
  unfold f_X7_forced
  rw [noPlayer_eq, if_pos (isPl hpl), isBad_in hM hn hs]
  simp only [Option.bind_some]
  rw [if_pos trivial, if_pos trivial, coming_eq hM ok hpl hs (by omega)]
  simp only [Option.bind_some]
  obtain ⟨t, h1, h2, h3⟩ := it_exists (fN_ok n ow ar pl) hs
  have key : ∀ d k, d ≤ t → d < k → f_X7_forced_L30 m f (nI pl) k (nI (itF (fN n ow ar pl) (t - d) s)) (nI (so (cmP ow ar pl (itF (fN n ow ar pl) (t - d) s)) n)) = some (nI (itF (fN n ow ar pl) t s)) := by
    intro d
    induction d with
    | zero =>
      intro k _ hk
      obtain ⟨k, rfl⟩ : ∃ k', k = k' + 1 := ⟨k - 1, by omega⟩
      rw [f_X7_forced_L30, Nat.sub_zero, (cm_zero (arl ok)).mpr h2, if_pos nI_0]
    | succ d ih =>
      intro k hd hk
      obtain ⟨k, rfl⟩ : ∃ k', k = k' + 1 := ⟨k - 1, by omega⟩
      have e : t - d = t - (d + 1) + 1 := by omega
      have hl := it_lt (fN_ok n ow ar pl) hs (t - (d + 1))
      rw [f_X7_forced_L30, if_neg (fun e => h3 _ (by omega) ((cm_zero (arl ok)).mp ((nI_z (by have := cm_lt (n := n) (ow := ow) (ar := ar) pl (itF (fN n ow ar pl) (t - (d + 1)) s); omega)).mp e))), nI_or, cm_or (arl ok)]
      have hl2 := (fN_ok n ow ar pl _ hl).1
      rw [coming_eq hM ok hpl hl2 (by omega)]
      simp only [Option.bind_some]
      have := ih k (by omega) (by omega)
      rw [e] at this
      exact this
  have h4 := key t m (Nat.le_refl t) (by omega)
  rw [Nat.sub_self] at h4
  have h4 : f_X7_forced_L30 m f (nI pl) m (nI s) (nI (so (cmP ow ar pl s) n)) = some (nI (itF (fN n ow ar pl) t s)) := h4
  rw [h4, it_rest h2 n h1]
  rfl
/-- the first step at which a place is there, or none at all -/
theorem first_or (P : Nat → Prop) (n : Nat) : (∃ j, j ≤ n ∧ P j ∧ ∀ i, i < j → ¬ P i) ∨ ∀ j, j ≤ n → ¬ P j := by
  by_cases h : ∃ j, j ≤ n ∧ P j
  · left
    obtain ⟨j, hj, hp⟩ := h
    obtain ⟨k, hk, hl⟩ := pk_least P ⟨j, hp⟩
    exact ⟨k, Nat.le_trans (Nat.le_of_not_lt fun hlt => hl j hlt hp) hj, hk, hl⟩
  · exact Or.inr fun j hj hp => h ⟨j, hj, hp⟩
theorem X67_rank_eq (hR : rG u.1 n ow co ar) (hM : rM f n ow co ar ch) (ok : okG n ow co ar) {pl s p : Nat} (hpl : pl < 2) (hs : s < 2 ^ n) (hp : p < n) (hm : 20 < m) : ∃ v, f_X6_rank m u (nI pl) (nI s) (nI p) = some v ∧ f_X7_rank m f (nI pl) (nI s) (nI p) = some v := by
  have hn := ok.1
  have hpn := pow_n hn
  unfold f_X6_rank f_X7_rank
  rw [isPlayer_eq, if_pos (isPl hpl), hasAll_in hR hn hs, has_in hR hn hp, noPlayer_eq, if_pos (isPl hpl), isBad_in hM hn hs, no_in hM hn hp]
  simp only [Option.bind_some]
  rw [if_neg (by decide), if_neg (by decide), if_neg (by decide), if_pos trivial, if_pos trivial, if_pos trivial, coming_eq hM ok hpl hs (by omega)]
  simp only [Option.bind_some]
  have hlt := it_lt (fN_ok n ow ar pl) hs
  obtain ⟨t, h1, h2, h3⟩ := it_exists (fN_ok n ow ar pl) hs
  have hcl : ∀ j, so (cmP ow ar pl (itF (fN n ow ar pl) j s)) n < 2 ^ n := fun j => so_lt _ _
  rcases first_or (fun j => (itF (fN n ow ar pl) j s).testBit p = true) n with ⟨j, hj, hpj, hf⟩ | hno
  · -- it comes at j
    have hjt : j ≤ t := Nat.le_of_not_lt fun hlt2 => by
      have e := it_rest h2 j (by omega)
      rw [e] at hpj
      exact hf t hlt2 hpj
    have k6 : ∀ d k, d ≤ j → d < k → f_X6_rank_L46 m u (nI pl) (nI p) k (nI (itF (fN n ow ar pl) (j - d) s)) (nI (j - d)) = some (nI j) := by
      intro d
      induction d with
      | zero =>
        intro k _ hk
        obtain ⟨k, rfl⟩ : ∃ k', k = k' + 1 := ⟨k - 1, by omega⟩
        rw [f_X6_rank_L46, hR.1, Nat.sub_zero, if_neg (nI_nlt hj (by omega)), contains_eq (p31 hn (hlt j)) (by omega), if_pos hpj]
        rfl
      | succ d ih =>
        intro k hd hk
        obtain ⟨k, rfl⟩ : ∃ k', k = k' + 1 := ⟨k - 1, by omega⟩
        have e : j - d = j - (d + 1) + 1 := by omega
        rw [f_X6_rank_L46, hR.1, if_neg (nI_nlt (by omega) (by omega)), contains_eq (p31 hn (hlt _)) (by omega), if_neg (hf _ (by omega))]
        simp only [Option.bind_some]
        rw [if_pos trivial, forcedNext_eq hR ok hpl (hlt _) (by omega), nI_1]
        simp only [Option.bind_some]
        have := ih k (by omega) (by omega)
        rw [e] at this
        exact this
    have k7 : ∀ d k, d ≤ j → d < k → f_X7_rank_L43 m f (nI pl) (nI p) k (nI (itF (fN n ow ar pl) (j - d) s)) (nI (j - d)) (nI (so (cmP ow ar pl (itF (fN n ow ar pl) (j - d) s)) n)) = some (nI (itF (fN n ow ar pl) j s), nI j) := by
      intro d
      induction d with
      | zero =>
        intro k _ hk
        obtain ⟨k, rfl⟩ : ∃ k', k = k' + 1 := ⟨k - 1, by omega⟩
        rw [f_X7_rank_L43, Nat.sub_zero]
        split
        · rfl
        · rw [if_neg (fun e => ((bit_0 (p31 hn (hlt j)) (by omega)).mp e) hpj)]
      | succ d ih =>
        intro k hd hk
        obtain ⟨k, rfl⟩ : ∃ k', k = k' + 1 := ⟨k - 1, by omega⟩
        have e : j - d = j - (d + 1) + 1 := by omega
        have hc := hcl (j - (d + 1))
        rw [f_X7_rank_L43, if_neg (fun e => h3 (j - (d + 1)) (by omega) ((cm_zero (arl ok)).mp ((nI_z (by omega)).mp e))), if_pos ((bit_0 (p31 hn (hlt _)) (by omega)).mpr (hf _ (by omega))), nI_or, cm_or (arl ok), coming_eq hM ok hpl (fN_ok n ow ar pl _ (hlt _)).1 (by omega), nI_1]
        simp only [Option.bind_some]
        have := ih k (by omega) (by omega)
        rw [e] at this
        exact this
    have h6 := k6 j m (Nat.le_refl j) (by omega)
    have h7 := k7 j m (Nat.le_refl j) (by omega)
    rw [Nat.sub_self] at h6 h7
    have h6 : f_X6_rank_L46 m u (nI pl) (nI p) m (nI s) 0 = some (nI j) := h6
    have h7 : f_X7_rank_L43 m f (nI pl) (nI p) m (nI s) 0 (nI (so (cmP ow ar pl s) n)) = some (nI (itF (fN n ow ar pl) j s), nI j) := h7
    rw [h6, h7]
    simp only [Option.bind_some]
    rw [if_pos ((bit_iff (p31 hn (hlt j)) (by omega)).mpr hpj)]
    exact ⟨_, rfl, rfl⟩
  · -- it never comes
    have k6 : ∀ d k, d ≤ n + 1 → d < k → f_X6_rank_L46 m u (nI pl) (nI p) k (nI (itF (fN n ow ar pl) (n + 1 - d) s)) (nI (n + 1 - d)) = some (-5) := by
      intro d
      induction d with
      | zero =>
        intro k _ hk
        obtain ⟨k, rfl⟩ : ∃ k', k = k' + 1 := ⟨k - 1, by omega⟩
        rw [f_X6_rank_L46, hR.1, Nat.sub_zero, if_pos (nI_lt (by omega) (by omega))]
      | succ d ih =>
        intro k hd hk
        obtain ⟨k, rfl⟩ : ∃ k', k = k' + 1 := ⟨k - 1, by omega⟩
        have e : n + 1 - d = n + 1 - (d + 1) + 1 := by omega
        rw [f_X6_rank_L46, hR.1, if_neg (nI_nlt (by omega) (by omega)), contains_eq (p31 hn (hlt _)) (by omega), if_neg (hno _ (by omega))]
        simp only [Option.bind_some]
        rw [if_pos trivial, forcedNext_eq hR ok hpl (hlt _) (by omega), nI_1]
        simp only [Option.bind_some]
        have := ih k (by omega) (by omega)
        rw [e] at this
        exact this
    have k7 : ∀ d k, d ≤ t → d < k → f_X7_rank_L43 m f (nI pl) (nI p) k (nI (itF (fN n ow ar pl) (t - d) s)) (nI (t - d)) (nI (so (cmP ow ar pl (itF (fN n ow ar pl) (t - d) s)) n)) = some (nI (itF (fN n ow ar pl) t s), nI t) := by
      intro d
      induction d with
      | zero =>
        intro k _ hk
        obtain ⟨k, rfl⟩ : ∃ k', k = k' + 1 := ⟨k - 1, by omega⟩
        rw [f_X7_rank_L43, Nat.sub_zero, (cm_zero (arl ok)).mpr h2, if_pos nI_0]
      | succ d ih =>
        intro k hd hk
        obtain ⟨k, rfl⟩ : ∃ k', k = k' + 1 := ⟨k - 1, by omega⟩
        have e : t - d = t - (d + 1) + 1 := by omega
        have hc := hcl (t - (d + 1))
        rw [f_X7_rank_L43, if_neg (fun e => h3 (t - (d + 1)) (by omega) ((cm_zero (arl ok)).mp ((nI_z (by omega)).mp e))), if_pos ((bit_0 (p31 hn (hlt _)) (by omega)).mpr (hno _ (by omega))), nI_or, cm_or (arl ok), coming_eq hM ok hpl (fN_ok n ow ar pl _ (hlt _)).1 (by omega), nI_1]
        simp only [Option.bind_some]
        have := ih k (by omega) (by omega)
        rw [e] at this
        exact this
    have h6 := k6 (n + 1) m (Nat.le_refl _) (by omega)
    have h7 := k7 t m (Nat.le_refl t) (by omega)
    rw [Nat.sub_self] at h6 h7
    have h6 : f_X6_rank_L46 m u (nI pl) (nI p) m (nI s) 0 = some (-5) := h6
    have h7 : f_X7_rank_L43 m f (nI pl) (nI p) m (nI s) 0 (nI (so (cmP ow ar pl s) n)) = some (nI (itF (fN n ow ar pl) t s), nI t) := h7
    rw [h6, h7]
    simp only [Option.bind_some]
    rw [if_neg (fun e => hno t h1 ((bit_iff (p31 hn (hlt t)) (by omega)).mp e))]
    exact ⟨_, rfl, rfl⟩
/-- a place keeps a trap -/
def trP (ow ar : Nat → Nat) (pl s : Nat) : Nat → Bool := fun p => if ow p == pl then ar p &&& ng s == 0 else !(ar p &&& s == 0)
theorem all_false {f : Nat → Bool} {i n : Nat} (hi : i < n) (h : f i = false) : fo (fun p (b : Bool) => b && f p) n true = false := by
  induction n with
  | zero => omega
  | succ n ih =>
    rw [fo_s]
    by_cases e : i = n
    · subst e; simp [h]
    · rw [ih (by omega)]; rfl
theorem X1_isTrap_eq (hR : rG u.1 n ow co ar) (ok : okG n ow co ar) {pl s : Nat} (hpl : pl < 2) (hs : s < 2 ^ n) (hm : 20 < m) : f_X1_isTrap m u.1 (nI pl) (nI s) = some (if fo (fun p (b : Bool) => b && (!s.testBit p || trP ow ar pl s p)) n true = true then 1 else 0) := by
  have hn := ok.1
  have hs31 := p31 hn hs
  unfold f_X1_isTrap
  have key : ∀ d k, d ≤ n → d < k → fo (fun p (b : Bool) => b && (!s.testBit p || trP ow ar pl s p)) (n - d) true = true → f_X1_isTrap_L2 u.1 (nI pl) (nI s) k (nI (n - d)) = some (if fo (fun p (b : Bool) => b && (!s.testBit p || trP ow ar pl s p)) n true = true then 1 else 0) := by
    intro d
    induction d with
    | zero =>
      intro k _ hk h
      obtain ⟨k, rfl⟩ : ∃ k', k = k' + 1 := ⟨k - 1, by omega⟩
      rw [Nat.sub_zero] at h
      rw [f_X1_isTrap_L2, hR.1, Nat.sub_zero, if_pos (nI_le (Nat.le_refl n) (by omega)), h]
      rfl
    | succ d ih =>
      intro k hd hk h
      obtain ⟨k, rfl⟩ : ∃ k', k = k' + 1 := ⟨k - 1, by omega⟩
      have e : n - d = n - (d + 1) + 1 := by omega
      have hi : n - (d + 1) < n := by omega
      have ih' := ih k (by omega) (by omega)
      rw [e, fo_s, h] at ih'
      generalize hii : n - (d + 1) = i at hi ih'
      have h2 := p31 hn (ok.2 i hi).2.2
      have ho := (ok.2 i hi).1
      have b1 : ar i &&& s < 2 ^ 31 := Nat.lt_of_le_of_lt Nat.and_le_left h2
      have b2 : ar i &&& ng s < 2 ^ 31 := Nat.lt_of_le_of_lt Nat.and_le_left h2
      have ea : ((if nI (ar i &&& (s ^^^ (2 ^ 31 - 1))) = 0 then some (0 : Int32) else some 1) : Option Int32) = some (if ar i &&& ng s = 0 then 0 else 1) := by
        by_cases c3 : ar i &&& ng s = 0
        · rw [if_pos (by show nI (ar i &&& ng s) = 0; rw [c3]; rfl), if_pos c3]
        · rw [if_neg (show ¬ nI (ar i &&& (s ^^^ (2 ^ 31 - 1))) = 0 from fun e => c3 ((nI_z (show ar i &&& ng s < 2 ^ 32 by omega)).mp e)), if_neg c3]
      have eb : ((if nI (ar i &&& s) = 0 then some (0 : Int32) else some 1) : Option Int32) = some (if ar i &&& s = 0 then 0 else 1) := by
        by_cases c1 : ar i &&& s = 0
        · rw [if_pos (by rw [c1]; rfl), if_pos c1]
        · rw [if_neg (fun e => c1 ((nI_z (by omega)).mp e)), if_neg c1]
      have ec : ((if nI (ow i) = nI pl then some (if ar i &&& ng s = 0 then (0 : Int32) else 1) else (if (if ar i &&& s = 0 then (0 : Int32) else 1) = 0 then some 1 else some 0)) : Option Int32) = some (if trP ow ar pl s i = true then 0 else 1) := by
        unfold trP
        by_cases c2 : ow i = pl
        · rw [if_pos (by rw [c2])]
          by_cases c3 : ar i &&& ng s = 0
          · simp [c2, c3]
          · simp [c2, c3]
        · rw [if_neg (by rw [nI_eq (by omega) (by omega)]; exact c2)]
          by_cases c1 : ar i &&& s = 0
          · simp [c2, c1]
          · simp [c2, c1]
      rw [f_X1_isTrap_L2, hR.1, if_neg (nI_ge hi (by omega)), vg_nI (by omega) (by omega), tn (by omega), (hR.2 i hi).1, (hR.2 i hi).2.2, nI_and, nI_not h2 hs31, ea, eb, contains_eq hs31 (by omega)]
      simp only [Option.bind_some]
      rw [ec]
      simp only [Option.bind_some]
      by_cases cb : s.testBit i = true
      · rw [if_pos cb, if_neg (by decide)]
        by_cases ct : trP ow ar pl s i = true
        · rw [if_pos ct, if_pos rfl, nI_1]
          exact ih' (by simp [ct])
        · rw [if_neg ct, if_neg (by decide), all_false (i := i) hi (by simp [cb, ct])]
          rfl
      · rw [if_neg cb, if_pos rfl, nI_1]
        exact ih' (by simp [cb])
  have h4 := key n m (Nat.le_refl n) (by omega) (by rw [Nat.sub_self]; rfl)
  rw [Nat.sub_self] at h4
  exact h4
theorem X7_trap_eq (hM : rM f n ow co ar ch) (ok : okG n ow co ar) {pl s : Nat} (hpl : pl < 2) (hs : s < 2 ^ n) (hm : 20 < m) : f_X7_trap m f (nI pl) (nI s) = some (if fo (fun p (b : Bool) => b && (!s.testBit p || trP ow ar pl s p)) n true = true then 1 else 0) := by
  have hn := ok.1
  have hs31 := p31 hn hs
  unfold f_X7_trap
  rw [noPlayer_eq, if_pos (isPl hpl), isBad_in hM hn hs]
  simp only [Option.bind_some]
  rw [if_pos trivial, if_pos trivial]
  have key : ∀ d k, d ≤ n → d < k → fo (fun p (b : Bool) => b && (!s.testBit p || trP ow ar pl s p)) (n - d) true = true → f_X7_trap_L22 f (nI pl) (nI s) k (nI (n - d)) = some (if fo (fun p (b : Bool) => b && (!s.testBit p || trP ow ar pl s p)) n true = true then 1 else 0) := by
    intro d
    induction d with
    | zero =>
      intro k _ hk h
      obtain ⟨k, rfl⟩ : ∃ k', k = k' + 1 := ⟨k - 1, by omega⟩
      rw [Nat.sub_zero] at h
      rw [f_X7_trap_L22, hM.1, Nat.sub_zero, if_pos (nI_le (Nat.le_refl n) (by omega)), h]
      rfl
    | succ d ih =>
      intro k hd hk h
      obtain ⟨k, rfl⟩ : ∃ k', k = k' + 1 := ⟨k - 1, by omega⟩
      have e : n - d = n - (d + 1) + 1 := by omega
      have hi : n - (d + 1) < n := by omega
      have ih' := ih k (by omega) (by omega)
      rw [e, fo_s, h] at ih'
      generalize hii : n - (d + 1) = i at hi ih'
      have h2 := p31 hn (ok.2 i hi).2.2
      have ho := (ok.2 i hi).1
      have b1 : ar i &&& s < 2 ^ 31 := Nat.lt_of_le_of_lt Nat.and_le_left h2
      have b2 : ar i &&& ng s < 2 ^ 31 := Nat.lt_of_le_of_lt Nat.and_le_left h2
      rw [f_X7_trap_L22, hM.1, if_neg (nI_ge hi (by omega)), of2 (by omega), of0 (by omega), (hM.2 i hi).1, (hM.2 i hi).2.2.1]
      simp only [Option.bind_some]
      rw [nI_and, nI_not h2 hs31]
      have ec : (if nI (ow i) = nI pl then (if nI (ar i &&& (s ^^^ (2 ^ 31 - 1))) = 0 then some (1 : Int32) else some 0) else (if nI (ar i &&& s) = 0 then some 0 else some 1)) = some (if trP ow ar pl s i = true then 1 else 0) := by
        unfold trP
        by_cases c2 : ow i = pl
        · rw [if_pos (by rw [c2])]
          by_cases c3 : ar i &&& ng s = 0
          · rw [if_pos (by show nI (ar i &&& ng s) = 0; rw [c3]; rfl)]; simp [c2, c3]
          · rw [if_neg (show ¬ nI (ar i &&& (s ^^^ (2 ^ 31 - 1))) = 0 from fun e => c3 ((nI_z (show ar i &&& ng s < 2 ^ 32 by omega)).mp e))]; simp [c2, c3]
        · rw [if_neg (by rw [nI_eq (by omega) (by omega)]; exact c2)]
          by_cases c1 : ar i &&& s = 0
          · rw [if_pos (by rw [c1]; rfl)]; simp [c2, c1]
          · rw [if_neg (fun e => c1 ((nI_z (by omega)).mp e))]; simp [c2, c1]
      rw [ec]
      simp only [Option.bind_some]
      by_cases cb : s.testBit i = true
      · rw [if_pos ((bit_iff hs31 (by omega)).mpr cb)]
        by_cases ct : trP ow ar pl s i = true
        · rw [if_pos ct, if_neg (by decide), nI_1]
          exact ih' (by simp [ct])
        · rw [if_neg ct, if_pos rfl, all_false (i := i) hi (by simp [cb, ct])]
          rfl
      · rw [if_neg (fun e => cb ((bit_iff hs31 (by omega)).mp e)), nI_1]
        exact ih' (by simp [cb])
  have h4 := key n m (Nat.le_refl n) (by omega) (by rw [Nat.sub_self]; rfl)
  rw [Nat.sub_self] at h4
  exact h4
end F2
