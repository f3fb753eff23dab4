/-! the text that is read: class and model walk it side by side -/
def dg (x : Int32) : Prop := ¬ x < 48 ∧ ¬ 57 < x
theorem dg_nI {x : Int32} (h : dg x) : ∃ d, d ≤ 9 ∧ x = nI (48 + d) := by
  obtain ⟨h1, h2⟩ := h
  rw [Int32.lt_iff_toInt_lt, show (48 : Int32).toInt = 48 from by decide] at h1
  rw [Int32.lt_iff_toInt_lt, show (57 : Int32).toInt = 57 from by decide] at h2
  refine ⟨(x.toInt - 48).toNat, by omega, ?_⟩
  apply Int32.toInt_inj.mp
  rw [nI_toInt (by omega)]
  omega
theorem dg_no {x : Int32} {n : Nat} (h : x = nI n) (h2 : n < 48 ∨ (57 < n ∧ n < 1000)) : ¬ dg x := by
  rintro ⟨h3, h4⟩
  rw [h] at h3 h4
  rcases h2 with h2 | h2
  · exact h3 (nI_lt (b := 48) h2 (by omega))
  · exact h4 (nI_lt (a := 57) h2.1 (by omega))
theorem isDigit_dg {x : Int32} (h : dg x) : f_X0_isDigit x = some 1 := by
  unfold f_X0_isDigit
  rw [if_neg h.1, if_neg h.2]
theorem isDigit_nd {x : Int32} (h : ¬ dg x) : f_X0_isDigit x = some 0 := by
  unfold f_X0_isDigit
  by_cases h1 : x < 48
  · rw [if_pos h1]
  · rw [if_neg h1, if_pos (Classical.not_not.mp fun h2 => h ⟨h1, h2⟩)]
theorem sb_0 (x : Int32) : f_X0_isSignBehind x 0 = some (if x = 62 then 1 else 0) := by
  unfold f_X0_isSignBehind
  rw [if_pos rfl]
  by_cases h : x = 62
  · rw [if_pos h, if_pos h]
  · rw [if_neg h, if_neg h]
theorem sb_1 (x : Int32) : f_X0_isSignBehind x 1 = some (if x = 44 ∨ x = 59 then 1 else 0) := by
  unfold f_X0_isSignBehind
  rw [if_neg n10]
  by_cases h : x = 44
  · rw [if_pos h, if_pos (Or.inl h)]
  · rw [if_neg h]
    by_cases h2 : x = 59
    · rw [if_pos h2, if_pos (Or.inr h2)]
    · rw [if_neg h2, if_neg (fun h3 => h3.elim h h2)]
theorem n2359 : ¬ (62 : Int32) = 59 := by decide
theorem n4459 : ¬ (44 : Int32) = 59 := by decide
theorem n4462 : ¬ (44 : Int32) = 62 := by decide
theorem n5962 : ¬ (59 : Int32) = 62 := by decide
theorem n20 : ¬ (2 : Int32) = 0 := by decide
theorem n12 : ¬ (1 : Int32) = 2 := by decide
theorem n02 : ¬ (0 : Int32) = 2 := by decide
/-- the class at a position: the search for a fault, and the drawing -/
def FA (t : TT) (m a : Nat) (s b : Int32) : Option Int32 := f_X0_fault_L6 t (m - a) s b (nI a)
def DA (t : TT) (m a : Nat) (c v : Int32) (g : GG) : Option (Int32 × GG) := f_X0_drawInto_L7 t (m - a) c v (nI a) g
def TX (t : TT) (f : Nat → Int32) (L m : Nat) : Prop := L ≤ 60 ∧ t.2 = nI L ∧ (∀ i, i < L → t.1 i = f i) ∧ 300 < m
section TXT
variable {t : TT} {f : Nat → Int32} {L m : Nat}
theorem FA_end (T : TX t f L m) {s b : Int32} : FA t m L s b = (if b = 0 then some (nI L) else if s = 0 then some (nI L) else some (-1)) := by
  obtain ⟨hL, ht, hf, hm⟩ := T
  unfold FA
  rw [show m - L = (m - L - 1) + 1 by omega, f_X0_fault_L6, ht, if_pos (nI_le (Nat.le_refl L) (by omega))]
theorem FA_dig (T : TX t f L m) {a : Nat} (ha : a < L) (h : dg (f a)) {s b : Int32} (hs : ¬ s = 2) : FA t m a s b = (if s = 0 then (if f a = 48 then FA t m (a + 1) 2 b else FA t m (a + 1) 1 b) else FA t m (a + 1) 2 b) := by
  obtain ⟨hL, ht, hf, hm⟩ := T
  unfold FA
  rw [show m - a = (m - (a + 1)) + 1 by omega, f_X0_fault_L6, ht, if_neg (nI_ge ha (by omega)), vg_nI (by omega) (by omega), tn (by omega), hf a ha, isDigit_dg h]
  simp only [Option.bind_some, if_neg n10, if_neg hs, nI_1]
  by_cases h0 : s = 0
  · simp only [if_pos h0]
    by_cases h1 : f a = 48
    · simp only [if_pos h1, Option.bind_some, if_true]
    · simp only [if_neg h1, Option.bind_some, if_neg n10]
  · simp only [if_neg h0, Option.bind_some, if_true]
theorem FA_s0 (T : TX t f L m) {a : Nat} (ha : a < L) (h : ¬ dg (f a)) {b : Int32} : FA t m a 0 b = some (nI a) := by
  obtain ⟨hL, ht, hf, hm⟩ := T
  unfold FA
  rw [show m - a = (m - (a + 1)) + 1 by omega, f_X0_fault_L6, ht, if_neg (nI_ge ha (by omega)), vg_nI (by omega) (by omega), tn (by omega), hf a ha, isDigit_nd h]
  simp only [Option.bind_some, if_true]
theorem FA_sig (T : TX t f L m) {a : Nat} (ha : a < L) {s b : Int32} (hs : ¬ s = 0) (h : s = 2 ∨ ¬ dg (f a)) : FA t m a s b = (f_X0_isSignBehind (f a) b).bind fun q => (if q = 0 then some (nI a) else (if f a = 59 then FA t m (a + 1) 0 0 else FA t m (a + 1) 0 1)) := by
  obtain ⟨hL, ht, hf, hm⟩ := T
  unfold FA
  rw [show m - a = (m - (a + 1)) + 1 by omega, f_X0_fault_L6, ht, if_neg (nI_ge ha (by omega)), vg_nI (by omega) (by omega), tn (by omega), hf a ha]
  by_cases h1 : dg (f a)
  · have h2 : s = 2 := h.resolve_right (fun h => h h1)
    rw [isDigit_dg h1]
    simp only [Option.bind_some, if_neg n10, if_pos h2, if_neg hs, nI_1]
  · rw [isDigit_nd h1]
    simp only [Option.bind_some, if_true, if_neg hs, nI_1]
theorem DA_dig (T : TX t f L m) {a : Nat} (ha : a < L) (h : dg (f a)) {c v : Int32} {g : GG} : DA t m a c v g = DA t m (a + 1) c (v * 10 + (f a - 48)) g := by
  obtain ⟨hL, ht, hf, hm⟩ := T
  unfold DA
  rw [show m - a = (m - (a + 1)) + 1 by omega, f_X0_drawInto_L7, ht, if_neg (show ¬ nI L < nI a from fun h => by have := (nI_lt_iff (by omega) (by omega)).mp h; omega), if_neg (nI_ge ha (by omega)), vg_nI (by omega) (by omega), tn (by omega), hf a ha]
  simp only [Option.bind_some]
  rw [isDigit_dg h]
  simp only [Option.bind_some, if_neg n10, nI_1]
theorem DA_end (T : TX t f L m) {c v : Int32} {g : GG} : DA t m (L + 1) c v g = some (1, g) := by
  obtain ⟨hL, ht, hf, hm⟩ := T
  unfold DA
  rw [show m - (L + 1) = (m - (L + 1) - 1) + 1 by omega, f_X0_drawInto_L7, ht, if_pos (nI_lt (Nat.lt_succ_self L) (by omega))]
theorem DA_sig (T : TX t f L m) {a : Nat} {j : Int32} (hj : (a < L ∧ j = f a) ∨ (a = L ∧ j = 59)) (hd : ¬ dg j) {c v : Int32} {g : GG} : DA t m a c v g = (f_X1_has g v).bind fun q7 => (if q7 = 0 then some (0, g) else (if j = 62 then DA t m (a + 1) v 0 g else vg c 14 ((f_X6_bit v).bind fun q11 => DA t m (a + 1) c 0 (g.1, g.2.1, g.2.2.1, (upd g.2.2.2 c.toNatClampNeg (g.2.2.2 c.toNatClampNeg ||| q11)))))) := by
  obtain ⟨hL, ht, hf, hm⟩ := T
  have hal : a ≤ L := by rcases hj with h | h <;> omega
  unfold DA
  rw [show m - a = (m - (a + 1)) + 1 by omega, f_X0_drawInto_L7, ht, if_neg (show ¬ nI L < nI a from fun h => by have := (nI_lt_iff (by omega) (by omega)).mp h; omega)]
  have e : ((if nI L ≤ nI a then some (59) else vg (nI a) 60 (some (t.1 (nI a).toNatClampNeg))) : Option Int32) = some j := by
    rcases hj with ⟨h1, h2⟩ | ⟨h1, h2⟩
    · rw [if_neg (nI_ge h1 (by omega)), vg_nI (by omega) (by omega), tn (by omega), hf a h1, h2]
    · rw [if_pos (nI_le (by omega) (by omega)), h2]
  rw [e]
  simp only [Option.bind_some]
  rw [isDigit_nd hd]
  simp only [Option.bind_some, if_true, nI_1]
theorem has_v {g : GG} {n v : Nat} (h : g.1 = nI n) (hn : n ≤ 14) (hv : v ≤ 100) : f_X1_has g (nI v) = some (if v < n then 1 else 0) := by
  unfold f_X1_has
  rw [if_neg (nI_pos (by omega)), h]
  by_cases e : v < n
  · rw [if_neg (nI_ge e (by omega)), if_pos e]
  · rw [if_pos (nI_le (by omega) (by omega)), if_neg e]
theorem no_v {g : GG} {f : Nat → Int32} {n v : Nat} {ow co ar ch : Nat → Nat} (hR : rG g n ow co ar) (hM : rM f n ow co ar ch) (hn : n ≤ 14) (hv : v ≤ 100) : f_X7_no f (nI v) = some (if v < n then 0 else 1) := by
  rcases pc_cases hR hM hn (nI v) with ⟨p, hp, e, -, h⟩ | ⟨h1, -, h⟩
  · have : v = p := (nI_eq (by omega) (by omega)).mp e
    rw [h, if_pos (by omega)]
  · rw [h, if_neg (fun hv => h1 v hv rfl)]
/-- the last sign of a group, the comma or the end behind a place -/
theorem DA_to (T : TX t f L m) {a : Nat} (ha : a ≤ L) (hj : a < L → f a = 44 ∨ f a = 59) {n c v : Nat} (hc : c < 14) (hv : v < n) (hn : n ≤ 14) {g : GG} (hg : g.1 = nI n) : DA t m a (nI c) (nI v) g = DA t m (a + 1) (nI c) 0 (g.1, g.2.1, g.2.2.1, upd g.2.2.2 c (g.2.2.2 c ||| nI (2 ^ v))) := by
  have key : ∀ j : Int32, ((a < L ∧ j = f a) ∨ (a = L ∧ j = 59)) → (j = 44 ∨ j = 59) → DA t m a (nI c) (nI v) g = DA t m (a + 1) (nI c) 0 (g.1, g.2.1, g.2.2.1, upd g.2.2.2 c (g.2.2.2 c ||| nI (2 ^ v))) := by
    intro j h1 h2
    have h3 : ¬ dg j := by
      rcases h2 with e | e
      · exact dg_no (n := 44) e (by omega)
      · exact dg_no (n := 59) e (by omega)
    have h4 : ¬ j = 62 := by
      rcases h2 with e | e
      · rw [e]; exact n4462
      · rw [e]; exact n5962
    rw [DA_sig T h1 h3, has_v hg hn (by omega), if_pos hv]
    simp only [Option.bind_some, if_neg n10, if_neg h4]
    rw [vg_nI (by omega) (by omega), bit_eq (by omega), tn (by omega)]
    simp only [Option.bind_some]
  by_cases h : a < L
  · exact key (f a) (Or.inl ⟨h, rfl⟩) (hj h)
  · exact key 59 (Or.inr ⟨by omega, rfl⟩) (Or.inr rfl)
theorem DA_no (T : TX t f L m) {a : Nat} (ha : a ≤ L) (hj : a < L → ¬ dg (f a)) {n v : Nat} {c : Int32} (hv : ¬ v < n) (hv2 : v ≤ 100) (hn : n ≤ 14) {g : GG} (hg : g.1 = nI n) : DA t m a c (nI v) g = some (0, g) := by
  have key : ∀ j : Int32, ((a < L ∧ j = f a) ∨ (a = L ∧ j = 59)) → ¬ dg j → DA t m a c (nI v) g = some (0, g) := by
    intro j h1 h3
    rw [DA_sig T h1 h3, has_v hg hn hv2, if_neg hv]
    simp only [Option.bind_some, if_true]
  by_cases h : a < L
  · exact key (f a) (Or.inl ⟨h, rfl⟩) (hj h)
  · exact key 59 (Or.inr ⟨by omega, rfl⟩) (dg_no (n := 59) rfl (by omega))
theorem DA_gt (T : TX t f L m) {a : Nat} (ha : a < L) (hj : f a = 62) {n v : Nat} {c : Int32} (hv : v < n) (hn : n ≤ 14) {g : GG} (hg : g.1 = nI n) : DA t m a c (nI v) g = DA t m (a + 1) (nI v) 0 g := by
  rw [DA_sig T (j := 62) (Or.inl ⟨ha, hj.symm⟩) (dg_no (n := 62) rfl (by omega)), has_v hg hn (by omega), if_pos hv]
  simp only [Option.bind_some, if_neg n10, if_true]
/-! the model's steps -/
theorem X7_isDigit_y (hL : L ≤ 60) {a : Nat} (ha : a < L) (h : dg (f a)) : f_X7_isDigit (nI L) f (nI a) = some 1 := by
  unfold f_X7_isDigit
  rw [if_neg (nI_ge ha (by omega)), vg_nI (by omega) (by omega), tn (by omega), in_eq, if_neg h.1, if_neg h.2]
  simp only [Option.bind_some, if_neg n10]
theorem X7_isDigit_n (hL : L ≤ 60) {a : Nat} (ha : a ≤ L) (h : ¬ (a < L ∧ dg (f a))) : f_X7_isDigit (nI L) f (nI a) = some 0 := by
  unfold f_X7_isDigit
  by_cases e : a < L
  · rw [if_neg (nI_ge e (by omega)), vg_nI (by omega) (by omega), tn (by omega), in_eq]
    by_cases h1 : f a < 48
    · rw [if_pos h1]
      simp only [Option.bind_some, if_true]
    · rw [if_neg h1, if_pos (Classical.not_not.mp fun h2 => h ⟨e, h1, h2⟩)]
      simp only [Option.bind_some, if_true]
  · rw [if_pos (nI_le (by omega) (by omega))]
theorem takes_y (hL : L ≤ 60) {a : Nat} (ha : a < L) {p : Int32} (h : f a = p) : f_X7_takes (nI L) f (nI a) p = some (1, nI (a + 1)) := by
  unfold f_X7_takes
  rw [if_neg (nI_ge ha (by omega)), vg_nI (by omega) (by omega), tn (by omega), if_pos h]
  simp only [Option.bind_some, if_neg n10]
  rw [zg_01 (Or.inr rfl), nI_1]
theorem takes_n (hL : L ≤ 60) {a : Nat} (ha : a ≤ L) {p : Int32} (h : ¬ (a < L ∧ f a = p)) : f_X7_takes (nI L) f (nI a) p = some (0, nI a) := by
  unfold f_X7_takes
  by_cases e : a < L
  · rw [if_neg (nI_ge e (by omega)), vg_nI (by omega) (by omega), tn (by omega), if_neg (fun h2 => h ⟨e, h2⟩)]
    simp only [Option.bind_some, if_true]
    rw [zg_01 (Or.inl rfl), Int32.add_zero]
  · rw [if_pos (nI_le (by omega) (by omega))]
    simp only [Option.bind_some, if_true]
    rw [zg_01 (Or.inl rfl), Int32.add_zero]
theorem sub48 (d : Nat) : (nI (48 + d) - 48 : Int32) = nI d := by
  rw [show (48 : Int32) = nI 48 from rfl, pk_sub (by omega), show 48 + d - 48 = d by omega]
/-- one number: class and model take the same signs -/
theorem num_step (T : TX t f L m) {a : Nat} (ha : a ≤ L) (num b : Int32) : (f_X7_takesNumber (nI L) f (nI a) num = some (0, nI a, num) ∧ FA t m a 0 b = some (nI a)) ∨ (∃ a' s v, a < a' ∧ a' ≤ L ∧ v ≤ 99 ∧ f_X7_takesNumber (nI L) f (nI a) num = some (1, nI a', nI v) ∧ FA t m a 0 b = FA t m a' s b ∧ ¬ s = 0 ∧ (a' < L → s = 2 ∨ ¬ dg (f a')) ∧ ∀ c g, DA t m a c 0 g = DA t m a' c (nI v) g) := by
  have hL := T.1
  by_cases e : a < L ∧ dg (f a)
  · obtain ⟨ha2, hd⟩ := e
    obtain ⟨d, hd9, hx⟩ := dg_nI hd
    have hda : ∀ c g, DA t m a c 0 g = DA t m (a + 1) c (nI d) g := by
      intro c g
      rw [DA_dig T ha2 hd, hx, sub48, Int32.zero_mul, Int32.zero_add]
    right
    by_cases d0 : d = 0
    · refine ⟨a + 1, 2, 0, by omega, ha2, by omega, ?_, ?_, n20, fun _ => Or.inl rfl, ?_⟩
      · unfold f_X7_takesNumber
        rw [X7_isDigit_y hL ha2 hd]
        simp only [Option.bind_some, if_neg n10]
        rw [vg_nI (by omega) (by omega), tn (by omega), hx, sub48, d0, if_pos (by decide), nI_1]
      · rw [FA_dig T ha2 hd n02, if_pos rfl, if_pos (by rw [hx, d0]; rfl)]
      · intro c g
        rw [hda, d0]
    · have h48 : ¬ f a = 48 := by
        rw [hx, show (48 : Int32) = nI 48 from rfl, nI_eq (by omega) (by omega)]
        omega
      have h0 : ¬ nI d ≤ 0 := by
        rw [show (0 : Int32) = nI 0 from rfl, nI_leI (by omega) (by omega)]
        omega
      by_cases e2 : a + 1 < L ∧ dg (f (a + 1))
      · obtain ⟨hb2, hd2⟩ := e2
        obtain ⟨w, hw9, hy⟩ := dg_nI hd2
        refine ⟨a + 2, 2, 10 * d + w, by omega, hb2, by omega, ?_, ?_, n20, fun _ => Or.inl rfl, ?_⟩
        · unfold f_X7_takesNumber
          rw [X7_isDigit_y hL ha2 hd]
          simp only [Option.bind_some, if_neg n10]
          rw [vg_nI (by omega) (by omega), tn (by omega), hx, sub48, if_neg h0, nI_1, X7_isDigit_y hL hb2 hd2]
          simp only [Option.bind_some, if_neg n10]
          rw [vg_nI (by omega) (by omega), tn (by omega), hy, nI_1, show (10 : Int32) = nI 10 from rfl, pk_mul, nI_add, show 10 * d + (48 + w) = 48 + (10 * d + w) by omega, sub48]
        · rw [FA_dig T ha2 hd n02, if_pos rfl, if_neg h48, FA_dig T hb2 hd2 n12, if_neg n10]
        · intro c g
          rw [hda, DA_dig T hb2 hd2, hy, sub48, show (10 : Int32) = nI 10 from rfl, pk_mul, nI_add, show d * 10 + w = 10 * d + w by omega]
      · refine ⟨a + 1, 1, d, by omega, ha2, by omega, ?_, ?_, n10, fun h => Or.inr fun h2 => e2 ⟨h, h2⟩, hda⟩
        · unfold f_X7_takesNumber
          rw [X7_isDigit_y hL ha2 hd]
          simp only [Option.bind_some, if_neg n10]
          rw [vg_nI (by omega) (by omega), tn (by omega), hx, sub48, if_neg h0, nI_1, X7_isDigit_n hL ha2 e2]
          simp only [Option.bind_some, if_true]
        · rw [FA_dig T ha2 hd n02, if_pos rfl, if_neg h48]
  · left
    refine ⟨?_, ?_⟩
    · unfold f_X7_takesNumber
      rw [X7_isDigit_n hL ha e]
      simp only [Option.bind_some, if_true]
    · by_cases h : a < L
      · exact FA_s0 T h (fun h2 => e ⟨h, h2⟩)
      · rw [show a = L by omega, FA_end T]
        by_cases h2 : b = 0
        · rw [if_pos h2]
        · rw [if_neg h2, if_pos rfl]
end TXT
/-! rows of bits that grow -/
def rOR (n : Nat) (r r' : Nat → Int32) (N : Nat → Nat) : Prop := ∀ p, p < n → ∀ x, r p = nI x → r' p = nI (x ||| N p)
def gOR (n : Nat) (g g' : GG) (N : Nat → Nat) : Prop := g'.1 = g.1 ∧ g'.2.1 = g.2.1 ∧ g'.2.2.1 = g.2.2.1 ∧ rOR n g.2.2.2 g'.2.2.2 N
def bN (n : Nat) (N : Nat → Nat) : Prop := ∀ p, p < n → N p < 2 ^ n
theorem rOR_t {n : Nat} {r r' r'' : Nat → Int32} {N N' : Nat → Nat} (h : rOR n r r' N) (h' : rOR n r' r'' N') : rOR n r r'' (fun p => N p ||| N' p) := fun p hp x hx => by
  rw [h' p hp _ (h p hp x hx), Nat.or_assoc]
theorem rOR_1 {n c v : Nat} {r : Nat → Int32} : rOR n r (upd r c (r c ||| nI (2 ^ v))) (fun p => if p = c then 2 ^ v else 0) := fun p hp x hx => by
  show upd r c (r c ||| nI (2 ^ v)) p = nI (x ||| if p = c then 2 ^ v else 0)
  by_cases e : p = c
  · subst e
    rw [upd_s, hx, nI_or, if_pos rfl]
  · rw [upd_n e, if_neg e, Nat.or_zero]
    exact hx
theorem gOR_1 {n c v : Nat} {g : GG} : gOR n g (g.1, g.2.1, g.2.2.1, upd g.2.2.2 c (g.2.2.2 c ||| nI (2 ^ v))) (fun p => if p = c then 2 ^ v else 0) := ⟨rfl, rfl, rfl, rOR_1⟩
theorem gOR_t {n : Nat} {g g' g'' : GG} {N N' : Nat → Nat} (h : gOR n g g' N) (h' : gOR n g' g'' N') : gOR n g g'' (fun p => N p ||| N' p) := ⟨h'.1.trans h.1, h'.2.1.trans h.2.1, h'.2.2.1.trans h.2.2.1, rOR_t h.2.2.2 h'.2.2.2⟩
theorem bN_t {n : Nat} {N N' : Nat → Nat} (h : bN n N) (h' : bN n N') : bN n (fun p => N p ||| N' p) := fun p hp => Nat.or_lt_two_pow (h p hp) (h' p hp)
theorem bN_1 {n c v : Nat} (hv : v < n) : bN n (fun p => if p = c then 2 ^ v else 0) := fun p hp => by
  show (if p = c then 2 ^ v else 0) < 2 ^ n
  by_cases e : p = c
  · rw [if_pos e]
    exact Nat.pow_lt_pow_right (by omega) hv
  · rw [if_neg e]
    exact Nat.pow_pos (by omega)
section TXU
variable {t : TT} {f mnow : Nat → Int32} {L m n : Nat}
/-- the places behind one '>' -/
theorem ra_inner (T : TX t f L m) (hn : n ≤ 14) (hno : ∀ v, v ≤ 100 → f_X7_no mnow (nI v) = some (if v < n then 0 else 1)) {c : Nat} (hc : c ≤ 99) : ∀ d a, a ≤ L → L - a ≤ d → ∀ k, d < k → ∀ (num : Int32) (reads : Nat → Int32) (B : Nat),
    (∃ a' num' reads' B', f_X7_isRead_L86 mnow (nI L) f (nI c) k 1 (nI a) num reads (nI B) = some (Sum.inl (0, nI a', num', reads', B')) ∧ FA t m a 0 1 = some (nI a') ∧ a' ≤ L) ∨
    (∃ a' s num' reads' B', a < a' ∧ a' ≤ L ∧ f_X7_isRead_L86 mnow (nI L) f (nI c) k 1 (nI a) num reads (nI B) = some (Sum.inr (nI a', num', reads', nI B')) ∧ FA t m a 0 1 = FA t m a' s 1 ∧ ¬ s = 0 ∧ (a' < L → (s = 2 ∨ ¬ dg (f a')) ∧ ¬ f a' = 44) ∧ B ≤ B' ∧ B' ≤ B + (a' - a) ∧
      ((B' = B ∧ ∃ N, bN n N ∧ rOR n reads reads' N ∧ (c < n → (a' < L → f a' = 59) → ∀ g : GG, g.1 = nI n → ∃ g', gOR n g g' N ∧ DA t m a (nI c) 0 g = DA t m (a' + 1) (nI c) 0 g')) ∨
       (B < B' ∧ (c < n → (a' < L → f a' = 59) → ∀ g : GG, g.1 = nI n → ∃ g', DA t m a (nI c) 0 g = some (0, g'))))) := by
  have hL := T.1
  intro d
  induction d using Nat.strongRecOn with
  | ind d ih =>
    intro a ha hd k hk num reads B
    obtain ⟨k, rfl⟩ : ∃ j, k = j + 1 := ⟨k - 1, by omega⟩
    rcases num_step T ha num 1 with ⟨h1, h2⟩ | ⟨a', s, v, h1, h2, h3, h4, h5, h6, h7, h8⟩
    · left
      refine ⟨a, num, reads, nI B, ?_, h2, ha⟩
      rw [f_X7_isRead_L86, if_neg n10, h1]
      simp only [Option.bind_some, if_true]
    · obtain ⟨r1, B1, hm, hB1, hB2, hv⟩ : ∃ r1 B1, f_X7_isRead_L86 mnow (nI L) f (nI c) (k + 1) 1 (nI a) num reads (nI B) = ((f_X7_takes (nI L) f (nI a') 44).bind fun q26 => f_X7_isRead_L86 mnow (nI L) f (nI c) k q26.1 q26.2 (nI v) r1 (nI B1)) ∧ B ≤ B1 ∧ B1 ≤ B + 1 ∧ ((v < n ∧ B1 = B ∧ r1 = upd reads c (reads c ||| nI (2 ^ v))) ∨ (¬ v < n ∧ B1 = B + 1)) := by
        by_cases e : v < n
        · refine ⟨upd reads c (reads c ||| nI (2 ^ v)), B, ?_, by omega, by omega, Or.inl ⟨e, rfl, rfl⟩⟩
          rw [f_X7_isRead_L86, if_neg n10, h4]
          simp only [Option.bind_some, if_neg n10]
          rw [hno v (by omega), if_pos e]
          simp only [Option.bind_some, if_true]
          rw [vg_nI (by omega) (by omega), tn (by omega), jshl_1 (by omega), Int32.add_zero]
        · refine ⟨upd reads c (reads c ||| 0), B + 1, ?_, by omega, by omega, Or.inr ⟨e, rfl⟩⟩
          rw [f_X7_isRead_L86, if_neg n10, h4]
          simp only [Option.bind_some, if_neg n10]
          rw [hno v (by omega), if_neg e]
          simp only [Option.bind_some, if_neg n10]
          rw [vg_nI (by omega) (by omega), tn (by omega), nI_1]
      by_cases h44 : a' < L ∧ f a' = 44
      · rw [takes_y hL h44.1 h44.2] at hm
        simp only [Option.bind_some] at hm
        have F2 : FA t m a' s 1 = FA t m (a' + 1) 0 1 := by
          rw [FA_sig T h44.1 h6 (h7 h44.1), sb_1, if_pos (Or.inl h44.2)]
          simp only [Option.bind_some, if_neg n10]
          rw [if_neg (by rw [h44.2]; exact n4459)]
        have d44 : ¬ dg (f a') := dg_no (n := 44) h44.2 (by omega)
        rcases ih (d - 1) (by omega) (a' + 1) (by omega) (by omega) k (by omega) (nI v) r1 B1 with ⟨a2, num2, r2, B2, g1, g2, g3⟩ | ⟨a2, s2, num2, r2, B2, g0, g1, g2, g3, g4, g5, g6, g7, g8⟩
        · left
          exact ⟨a2, num2, r2, B2, hm.trans g1, by rw [h5, F2, g2], g3⟩
        · right
          refine ⟨a2, s2, num2, r2, B2, by omega, g1, hm.trans g2, by rw [h5, F2, g3], g4, g5, by omega, by omega, ?_⟩
          rcases hv with ⟨e, rfl, rfl⟩ | ⟨e, rfl⟩
          · rcases g8 with ⟨q1, N, q2, q3, q4⟩ | ⟨q1, q2⟩
            · left
              refine ⟨q1, _, bN_t (bN_1 (c := c) e) q2, rOR_t rOR_1 q3, fun hc2 h59 g hg => ?_⟩
              obtain ⟨g', w1, w2⟩ := q4 hc2 h59 (g.1, g.2.1, g.2.2.1, upd g.2.2.2 c (g.2.2.2 c ||| nI (2 ^ v))) hg
              refine ⟨g', gOR_t gOR_1 w1, ?_⟩
              rw [h8, DA_to T h2 (fun _ => Or.inl h44.2) (by omega) e hn hg, w2]
            · right
              refine ⟨q1, fun hc2 h59 g hg => ?_⟩
              obtain ⟨g', w2⟩ := q2 hc2 h59 (g.1, g.2.1, g.2.2.1, upd g.2.2.2 c (g.2.2.2 c ||| nI (2 ^ v))) hg
              refine ⟨g', ?_⟩
              rw [h8, DA_to T h2 (fun _ => Or.inl h44.2) (by omega) e hn hg, w2]
          · right
            refine ⟨by omega, fun hc2 h59 g hg => ⟨g, ?_⟩⟩
            rw [h8, DA_no T h2 (fun _ => d44) e (by omega) hn hg]
      · rw [takes_n hL h2 h44] at hm
        simp only [Option.bind_some] at hm
        obtain ⟨j, rfl⟩ : ∃ j, k = j + 1 := ⟨k - 1, by omega⟩
        right
        refine ⟨a', s, nI v, r1, B1, h1, h2, ?_, h5, h6, fun hl => ⟨h7 hl, fun e => h44 ⟨hl, e⟩⟩, by omega, by omega, ?_⟩
        · rw [hm, f_X7_isRead_L86, if_pos rfl]
        · rcases hv with ⟨e, rfl, rfl⟩ | ⟨e, rfl⟩
          · left
            refine ⟨rfl, _, bN_1 (c := c) e, rOR_1, fun hc2 h59 g hg => ⟨_, gOR_1, ?_⟩⟩
            rw [h8, DA_to T h2 (fun hl => Or.inr (h59 hl)) (by omega) e hn hg]
          · right
            refine ⟨by omega, fun hc2 h59 g hg => ⟨g, ?_⟩⟩
            rw [h8, DA_no T h2 (fun hl => dg_no (n := 59) (h59 hl) (by omega)) e (by omega) hn hg]
/-- the whole text -/
theorem ra_outer (T : TX t f L m) (hn : n ≤ 14) (hno : ∀ v, v ≤ 100 → f_X7_no mnow (nI v) = some (if v < n then 0 else 1)) : ∀ d a, a ≤ L → L - a ≤ d → ∀ k, d < k → ∀ (num : Int32) (reads : Nat → Int32) (B : Nat),
    (∃ a' num' reads' B', f_X7_isRead_L33 m mnow (nI L) f k 1 (nI a) num reads (nI B) = some (0, nI a', num', reads', B') ∧ FA t m a 0 0 = some (nI a') ∧ a' ≤ L) ∨
    (∃ a' num' reads' B', f_X7_isRead_L33 m mnow (nI L) f k 1 (nI a) num reads (nI B) = some (1, a', num', reads', nI B') ∧ FA t m a 0 0 = some (-1) ∧ B ≤ B' ∧ B' ≤ B + (L - a) ∧
      ((B' = B ∧ ∃ N, bN n N ∧ rOR n reads reads' N ∧ ∀ (c : Int32) (g : GG), g.1 = nI n → ∃ g', gOR n g g' N ∧ DA t m a c 0 g = some (1, g')) ∨
       (B < B' ∧ ∀ (c : Int32) (g : GG), g.1 = nI n → ∃ g', DA t m a c 0 g = some (0, g')))) := by
  have hL := T.1
  have hm300 := T.2.2.2
  intro d
  induction d using Nat.strongRecOn with
  | ind d ih =>
    intro a ha hd k hk num reads B
    obtain ⟨k, rfl⟩ : ∃ j, k = j + 1 := ⟨k - 1, by omega⟩
    rcases num_step T ha num 0 with ⟨h1, h2⟩ | ⟨a', s, v, h1, h2, h3, h4, h5, h6, h7, h8⟩
    · left
      refine ⟨a, num, reads, nI B, ?_, h2, ha⟩
      rw [f_X7_isRead_L33, if_neg n10, h1]
      simp only [Option.bind_some, if_true]
    · obtain ⟨B1, hm, hB1, hB2, hv⟩ : ∃ B1, f_X7_isRead_L33 m mnow (nI L) f (k + 1) 1 (nI a) num reads (nI B) = ((f_X7_takes (nI L) f (nI a') 62).bind fun q12 => (if q12.1 = 0 then some (0, q12.2, nI v, reads, nI B1) else (f_X7_isRead_L86 mnow (nI L) f (nI v) m 1 q12.2 (nI v) reads (nI B1)).bind fun q15 => Sum.elim (fun rr => some rr) (fun q29 => ((if nI L ≤ q29.1 then some (0) else some (1)) : Option Int32).bind fun j31 => (if j31 = 0 then f_X7_isRead_L33 m mnow (nI L) f k j31 q29.1 q29.2.1 q29.2.2.1 q29.2.2.2 else (f_X7_takes (nI L) f q29.1 59).bind fun q34 => (if q34.1 = 0 then some (0, q34.2, q29.2.1, q29.2.2.1, q29.2.2.2) else f_X7_isRead_L33 m mnow (nI L) f k j31 q34.2 q29.2.1 q29.2.2.1 q29.2.2.2))) q15)) ∧ B ≤ B1 ∧ B1 ≤ B + 1 ∧ ((v < n ∧ B1 = B) ∨ (¬ v < n ∧ B1 = B + 1)) := by
        by_cases e : v < n
        · refine ⟨B, ?_, by omega, by omega, Or.inl ⟨e, rfl⟩⟩
          rw [f_X7_isRead_L33, if_neg n10, h4]
          simp only [Option.bind_some, if_neg n10]
          rw [hno v (by omega), if_pos e]
          simp only [Option.bind_some, if_true, Int32.add_zero]
        · refine ⟨B + 1, ?_, by omega, by omega, Or.inr ⟨e, rfl⟩⟩
          rw [f_X7_isRead_L33, if_neg n10, h4]
          simp only [Option.bind_some, if_neg n10]
          rw [hno v (by omega), if_neg e]
          simp only [Option.bind_some, if_neg n10, nI_1]
      by_cases h62 : a' < L ∧ f a' = 62
      · rw [takes_y hL h62.1 h62.2] at hm
        simp only [Option.bind_some, if_neg n10] at hm
        have F2 : FA t m a' s 0 = FA t m (a' + 1) 0 1 := by
          rw [FA_sig T h62.1 h6 (h7 h62.1), sb_0, if_pos h62.2]
          simp only [Option.bind_some, if_neg n10]
          rw [if_neg (by rw [h62.2]; exact n2359)]
        have d62 : ¬ dg (f a') := dg_no (n := 62) h62.2 (by omega)
        rcases ra_inner T hn hno h3 60 (a' + 1) (by omega) (by omega) m (by omega) (nI v) reads B1 with ⟨a2, num2, r2, B2, g1, g2, g3⟩ | ⟨a2, s2, num2, r2, B2, g0, g1, g2, g3, g4, g5, g6, g7, g8⟩
        · left
          refine ⟨a2, num2, r2, B2, ?_, by rw [h5, F2, g2], g3⟩
          rw [hm, g1]
          rfl
        · rw [g2] at hm
          simp only [Option.bind_some, Sum.elim_inr] at hm
          have F3 : FA t m a 0 0 = FA t m a2 s2 1 := by rw [h5, F2, g3]
          have G : (B2 = B ∧ ∃ N, bN n N ∧ rOR n reads r2 N ∧ ((a2 < L → f a2 = 59) → ∀ (c : Int32) (g : GG), g.1 = nI n → ∃ g' c', gOR n g g' N ∧ DA t m a c 0 g = DA t m (a2 + 1) c' 0 g')) ∨ (B < B2 ∧ ((a2 < L → f a2 = 59) → ∀ (c : Int32) (g : GG), g.1 = nI n → ∃ g', DA t m a c 0 g = some (0, g'))) := by
            rcases hv with ⟨e, rfl⟩ | ⟨e, rfl⟩
            · rcases g8 with ⟨q1, N, q2, q3, q4⟩ | ⟨q1, q2⟩
              · left
                refine ⟨q1, N, q2, q3, fun h59 c g hg => ?_⟩
                obtain ⟨g', w1, w2⟩ := q4 e h59 g hg
                exact ⟨g', nI v, w1, by rw [h8, DA_gt T h62.1 h62.2 e hn hg, w2]⟩
              · right
                refine ⟨q1, fun h59 c g hg => ?_⟩
                obtain ⟨g', w2⟩ := q2 e h59 g hg
                exact ⟨g', by rw [h8, DA_gt T h62.1 h62.2 e hn hg, w2]⟩
            · right
              refine ⟨by omega, fun h59 c g hg => ⟨g, ?_⟩⟩
              rw [h8, DA_no T h2 (fun _ => d62) e (by omega) hn hg]
          by_cases hend : a2 = L
          · rw [if_pos (nI_le (show L ≤ a2 by omega) (by omega))] at hm
            simp only [Option.bind_some, if_true] at hm
            obtain ⟨j, rfl⟩ : ∃ j, k = j + 1 := ⟨k - 1, by omega⟩
            right
            refine ⟨nI a2, num2, r2, B2, ?_, ?_, by omega, by omega, ?_⟩
            · rw [hm, f_X7_isRead_L33, if_pos rfl]
            · rw [F3, hend, FA_end T, if_neg n10, if_neg g4]
            · rcases G with ⟨q1, N, q2, q3, q4⟩ | ⟨q1, q2⟩
              · left
                refine ⟨q1, N, q2, q3, fun c g hg => ?_⟩
                obtain ⟨g', c', w1, w2⟩ := q4 (fun h => absurd h (by omega)) c g hg
                exact ⟨g', w1, by rw [w2, hend, DA_end T]⟩
              · right
                exact ⟨q1, q2 (fun h => absurd h (by omega))⟩
          · have hlt : a2 < L := by omega
            rw [if_neg (nI_ge hlt (by omega))] at hm
            simp only [Option.bind_some, if_neg n10] at hm
            by_cases h59 : f a2 = 59
            · rw [takes_y hL hlt h59] at hm
              simp only [Option.bind_some, if_neg n10] at hm
              have F4 : FA t m a2 s2 1 = FA t m (a2 + 1) 0 0 := by
                rw [FA_sig T hlt g4 (g5 hlt).1, sb_1, if_pos (Or.inr h59)]
                simp only [Option.bind_some, if_neg n10]
                rw [if_pos h59]
              rcases ih (d - 1) (by omega) (a2 + 1) (by omega) (by omega) k (by omega) num2 r2 B2 with ⟨a3, num3, r3, B3, i1, i2, i3⟩ | ⟨a3, num3, r3, B3, i1, i2, i3, i4, i5⟩
              · left
                exact ⟨a3, num3, r3, B3, hm.trans i1, by rw [F3, F4, i2], i3⟩
              · right
                refine ⟨a3, num3, r3, B3, hm.trans i1, by rw [F3, F4, i2], by omega, by omega, ?_⟩
                rcases G with ⟨q1, N, q2, q3, q4⟩ | ⟨q1, q2⟩
                · rcases i5 with ⟨p1, N', p2, p3, p4⟩ | ⟨p1, p2⟩
                  · left
                    refine ⟨by omega, _, bN_t q2 p2, rOR_t q3 p3, fun c g hg => ?_⟩
                    obtain ⟨g', c', w1, w2⟩ := q4 (fun _ => h59) c g hg
                    obtain ⟨g'', w3, w4⟩ := p4 c' g' (w1.1.trans hg)
                    exact ⟨g'', gOR_t w1 w3, by rw [w2, w4]⟩
                  · right
                    refine ⟨by omega, fun c g hg => ?_⟩
                    obtain ⟨g', c', w1, w2⟩ := q4 (fun _ => h59) c g hg
                    obtain ⟨g'', w4⟩ := p2 c' g' (w1.1.trans hg)
                    exact ⟨g'', by rw [w2, w4]⟩
                · right
                  exact ⟨by omega, q2 (fun _ => h59)⟩
            · rw [takes_n hL (by omega) (fun h => h59 h.2)] at hm
              simp only [Option.bind_some, if_true] at hm
              left
              refine ⟨a2, num2, r2, nI B2, hm, ?_, g1⟩
              rw [F3, FA_sig T hlt g4 (g5 hlt).1, sb_1, if_neg (fun h => h.elim (g5 hlt).2 h59)]
              simp only [Option.bind_some, if_true]
      · rw [takes_n hL h2 h62] at hm
        simp only [Option.bind_some, if_true] at hm
        left
        refine ⟨a', nI v, reads, nI B1, hm, ?_, h2⟩
        rw [h5]
        by_cases hl : a' < L
        · rw [FA_sig T hl h6 (h7 hl), sb_0, if_neg (fun h => h62 ⟨hl, h⟩)]
          simp only [Option.bind_some, if_true]
        · rw [show a' = L by omega, FA_end T, if_pos rfl]
end TXU
