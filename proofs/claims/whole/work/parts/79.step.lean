/-! step -/
section ST
variable {u : SS} {f : Nat → Int32} {m n : Nat} {ow co ar ch : Nat → Nat}
theorem iT_lt {tk : Nat} (h : tk < 14) : iT tk = nI tk := by
  unfold iT
  rw [if_neg (by omega)]
theorem step_idle {W : Nat → Nat} {tk : Nat} {c p1 : Int32} {k : Nat} (hk : k ≤ 100) (hp : p1 = nI k) (hM : rN f n ow co ar ch tk c) (ht : tk < n) (hn : n ≤ 14) (hW : W tk = 14) (G : ∀ (f ms most nums : Nat → Int32) (mg rd : Int32) (p : Nat), rM f n ow co ar ch → p < n → ∃ t, f_X7_goesTo m f mg ms most nums rd (nI p) = some (i14 (W p), t)) : ∀ d i K (mg rd : Int32) (ms most nums : Nat → Int32), i + d = k → d < K → ∃ t, f_X7_step_L47 m p1 K (nI i) f mg ms most nums rd = some (f, t) := by
  intro d
  induction d with
  | zero =>
    intro i K mg rd ms most nums h1 h2
    obtain ⟨K, rfl⟩ : ∃ K', K = K' + 1 := ⟨K - 1, by omega⟩
    rw [f_X7_step_L47, hp, if_pos (nI_le (by omega) (by omega))]
    exact ⟨_, rfl⟩
  | succ d ih =>
    intro i K mg rd ms most nums h1 h2
    obtain ⟨K, rfl⟩ : ∃ K', K = K' + 1 := ⟨K - 1, by omega⟩
    obtain ⟨t, t1⟩ := G f ms most nums mg rd tk hM.1 ht
    rw [f_X7_step_L47, hp, if_neg (nI_ge (by omega) (by omega)), hM.2.1, iT_lt (by omega), t1, hW]
    simp only [Option.bind_some]
    rw [if_pos (show i14 14 = -5 from rfl), nI_1, ← hp]
    exact ih (i + 1) K _ _ _ _ _ (by omega) (by omega)
theorem step_L {W : Nat → Nat} {p1 : Int32} {k : Nat} {kk : KK} (hk : k ≤ 100) (hp : p1 = nI k) (hn : n ≤ 14) (hkk : ∀ p, p < n → kk.1 p = nI (W p)) (hW : ∀ p, p < n → W p = 14 ∨ W p < n) (G : ∀ (f ms most nums : Nat → Int32) (mg rd : Int32) (p : Nat), rM f n ow co ar ch → p < n → ∃ t, f_X7_goesTo m f mg ms most nums rd (nI p) = some (i14 (W p), t)) : ∀ d i K K' (u : SS) (f : Nat → Int32) (tk : Nat) (c : Int32) (mg rd : Int32) (ms most nums : Nat → Int32), i + d = k → d < K → d < K' → tk < n → okS n ow co ar ch tk → rS u n ow co ar ch tk c → rN f n ow co ar ch tk c → ∃ u' f' t, f_X6_step_L76 kk p1 K (nI i) u = some u' ∧ f_X7_step_L47 m p1 K' (nI i) f mg ms most nums rd = some (f', t) ∧ RS u' f' ∧ u'.2.2.1 = f' 57 := by
  intro d
  induction d with
  | zero =>
    intro i K K' u f tk c mg rd ms most nums h1 h2 h3 ht ok hR hM
    obtain ⟨K, rfl⟩ : ∃ K1, K = K1 + 1 := ⟨K - 1, by omega⟩
    obtain ⟨K', rfl⟩ : ∃ K1, K' = K1 + 1 := ⟨K' - 1, by omega⟩
    rw [f_X6_step_L76, f_X7_step_L47, hp, if_pos (nI_le (by omega) (by omega)), if_pos (nI_le (by omega) (by omega))]
    exact ⟨_, _, _, rfl, rfl, ⟨n, ow, co, ar, ch, tk, c, ok, hR, hM⟩, by rw [hR.2.2.1, hM.2.1, iT_lt (by omega)]⟩
  | succ d ih =>
    intro i K K' u f tk c mg rd ms most nums h1 h2 h3 ht ok hR hM
    by_cases hw : W tk = 14
    · obtain ⟨t, t1⟩ := step_idle hk hp hM ht hn hw G (d + 1) i K' mg rd ms most nums h1 h3
      obtain ⟨K, rfl⟩ : ∃ K1, K = K1 + 1 := ⟨K - 1, by omega⟩
      rw [t1, f_X6_step_L76, hp, if_neg (nI_ge (by omega) (by omega)), hR.2.2.1, wayFrom_eq (by omega), hkk tk ht, hw]
      exact ⟨_, _, _, rfl, rfl, ⟨n, ow, co, ar, ch, tk, c, ok, hR, hM⟩, by rw [hR.2.2.1, hM.2.1, iT_lt (by omega)]⟩
    · have hw2 : W tk < n := (hW tk ht).resolve_left hw
      obtain ⟨K, rfl⟩ : ∃ K1, K = K1 + 1 := ⟨K - 1, by omega⟩
      obtain ⟨K', rfl⟩ : ∃ K1, K' = K1 + 1 := ⟨K' - 1, by omega⟩
      obtain ⟨t, t1⟩ := G f ms most nums mg rd tk hM.1 ht
      have n5 : ¬ i14 (W tk) = -5 := by
        unfold i14
        rw [if_neg hw]
        intro e5
        have h9 := congrArg Int32.toInt e5
        rw [nI_toInt (by omega), show (-5 : Int32).toInt = -5 from by decide] at h9
        omega
      have n14 : ¬ nI (W tk) = 14 := by rw [show (14 : Int32) = nI 14 from rfl, nI_eq (by omega) (by omega)]; exact hw
      have hR2 : rS (u.1, u.2.1, nI (W tk), u.2.2.2 + 1) n ow co ar ch (W tk) (c + 1) := ⟨hR.1, hR.2.1, rfl, by rw [← hR.2.2.2]⟩
      have hM2 : rN (upd (upd f 57 (i14 (W tk))) 58 (upd f 57 (i14 (W tk)) 58 + 1)) n ow co ar ch (W tk) (c + 1) := by
        refine ⟨rM_tk hM.1 hn, ?_, ?_⟩
        · rw [upd_n (by omega), upd_s, iT_lt (by omega)]
          unfold i14
          rw [if_neg hw]
        · rw [upd_s, upd_n (by omega), hM.2.2]
      have ok2 : okS n ow co ar ch (W tk) := ⟨ok.1, ok.2.1, ok.2.2.1, Or.inr hw2⟩
      obtain ⟨u', f', t', z1, z2, z3, z4⟩ := ih (i + 1) K K' _ _ (W tk) (c + 1) t.1 t.2.2.2.2 t.2.1 t.2.2.1 t.2.2.2.1 (by omega) (by omega) (by omega) hw2 ok2 hR2 hM2
      refine ⟨u', f', t', ?_, ?_, z3, z4⟩
      · rw [f_X6_step_L76, hp, if_neg (nI_ge (by omega) (by omega)), hR.2.2.1, wayFrom_eq (by omega), hkk tk ht]
        simp only [Option.bind_some]
        rw [if_neg n14, nI_1, ← hp]
        exact z1
      · rw [f_X7_step_L47, hp, if_neg (nI_ge (by omega) (by omega)), hM.2.1, iT_lt (by omega), t1]
        simp only [Option.bind_some]
        rw [if_neg n5, nI_1, ← hp]
        exact z2
theorem step_core {h : HH} {mh : Nat → Int32} {mk : Int32} {trial : GG} {meas : EE} {walk : KK} {mg rd : Int32} {ms most nums : Nat → Int32} (hs : RS u f) (hh : RH h mh mk) (hm : 1000000 ≤ m) (p1 : Int32) : ∃ q qm, f_X6_step m u h trial meas walk p1 = some q ∧ f_X7_step m f mh mk mg ms most nums rd p1 = some qm ∧ q.1 = qm.1 ∧ RS q.2.1 qm.2.1 ∧ RH q.2.2.1 qm.2.2.1 qm.2.2.2.1 := by
  obtain ⟨h', mh', mk', r1, r2, r3⟩ := rem_eq hh hs (m := m) (by omega)
  obtain ⟨n, ow, co, ar, ch, tk, c, ok, hR, hM⟩ := id hs
  have hn := ok.1.1
  unfold f_X6_step f_X7_step
  rw [in_eq]
  by_cases c1 : p1 < 1
  · rw [if_pos c1, if_pos c1]
    exact ⟨_, _, rfl, rfl, rfl, hs, hh⟩
  rw [if_neg c1, if_neg c1]
  by_cases c2 : (50 : Int32) < p1
  · rw [if_neg ((I_lt _ _).mp c2), if_pos c2]
    exact ⟨_, _, rfl, rfl, rfl, hs, hh⟩
  have c3 : p1 ≤ 50 := by
    by_cases c3 : p1 ≤ 50
    · exact c3
    · exact absurd ((I_lt _ _).mpr c3) c2
  have hx : ∃ k, k ≤ 50 ∧ p1 = nI k := by
    rcases in_cases p1 50 (by omega) with ⟨k, hk, e, -⟩ | ⟨-, -, e⟩
    · exact ⟨k, by omega, e⟩
    · rcases e with e | e
      · exfalso
        rw [Int32.lt_iff_toInt_lt] at e c1
        rw [Int32.toInt_zero] at e
        rw [show (1 : Int32).toInt = 1 from rfl] at c1
        omega
      · exact absurd e c2
  obtain ⟨k, hk, hpk⟩ := hx
  rw [if_pos c3, if_neg c2, hR.2.2.1, hM.2.1]
  simp only [Option.bind_some, if_neg n10]
  rcases ok.2.2.2 with ht | ht
  · rw [ht, has_out hR.1 hn (fun p hp => by rw [Ne, nI_eq (by omega) (by omega)]; omega), if_pos (show iT 14 < 0 from by decide)]
    exact ⟨_, _, rfl, rfl, rfl, hs, hh⟩
  · obtain ⟨W, W1, W2, W3⟩ := ways (m := m) hR ok hm
    obtain ⟨g, e, kk, k1, k2⟩ := W2 trial meas walk
    rw [has_in hR.1 hn ht, iT_lt (by omega), if_neg (nI_not_neg (by omega)), k1, of2 (by omega), (hM.1.2 tk ht).2.2.1]
    simp only [Option.bind_some, if_neg n10]
    rw [wayFrom_eq (by omega), k2 tk ht, r1, r2]
    simp only [Option.bind_some]
    have ha := p31 hn (ok.1.2 tk ht).2.2
    rcases W1 tk ht with ⟨w1, w2⟩ | ⟨w1, w2⟩
    · rw [w1, w2, if_pos (show nI 14 = 14 from rfl), if_pos (show nI 0 = 0 from rfl)]
      exact ⟨_, _, rfl, rfl, rfl, hs, hh⟩
    · have h0 : ¬ nI (ar tk) = 0 := fun z => by
        rw [(nI_z (by omega)).mp z, Nat.zero_testBit] at w2
        cases w2
      rw [if_neg (show ¬ nI (W tk) = 14 from by rw [show (14 : Int32) = nI 14 from rfl, nI_eq (by omega) (by omega)]; omega), if_neg h0]
      obtain ⟨u', f', t, z1, z2, z3, z4⟩ := step_L (kk := kk) (by omega) hpk hn k2 (fun p hp => (W1 p hp).imp And.left And.left) W3 k 0 m m u f tk c mg rd ms most nums (by omega) (by omega) (by omega) ht ok hR hM
      have z1 : f_X6_step_L76 kk p1 m 0 u = some u' := z1
      have z2 : f_X7_step_L47 m p1 m 0 f mg ms most nums rd = some (f', t) := z2
      rw [z1, z2]
      exact ⟨_, _, rfl, rfl, z4, z3, r3⟩
end ST
