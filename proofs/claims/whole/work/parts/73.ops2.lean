/-! undo, keep, restore, text -/
section O2
variable {u : SS} {h : HH} {f mh : Nat → Int32} {mk : Int32} {m : Nat}
theorem undo_L {k : Nat} (hk : k < 4) (hm : 100 < m) : ∃ g, f_X7_undo_L22 mh (nI k) m 0 f = some g ∧ ∀ i, i < 59 → g i = mh (59 * k + i) := by
  obtain ⟨s, h1, h2⟩ := loop_rel (fun q (s : Nat → Int32) i => f_X7_undo_L22 mh (nI k) q i s) (fun i (_ : Unit) s => ∀ y, y < i → s y = mh (59 * k + y)) (fun _ a => a) 59 () f (fun y hy => absurd hy (by omega))
    (fun q i s hi h1 => by
      refine ⟨upd s i (mh (59 * k + i)), ?_, fun y hy => ?_⟩
      · show f_X7_undo_L22 mh (nI k) (q + 1) (nI i) s = f_X7_undo_L22 mh (nI k) q (nI (i + 1)) _
        rw [f_X7_undo_L22, if_neg (by rw [show (59 : Int32) = nI 59 from rfl, nI_leI (by omega) (by omega)]; omega), ix59, vg_nI (by omega) (by omega), vg_nI (by omega) (by omega), tn (by omega), tn (by omega), nI_1]
      · by_cases e : y = i
        · subst e; rw [upd_s]
        · rw [upd_n e]; exact h1 y (by omega)) m (by omega)
  have h2 : f_X7_undo_L22 mh (nI k) m 0 f = f_X7_undo_L22 mh (nI k) (m - 59) (nI 59) s := h2
  rw [h2, show m - 59 = (m - 60) + 1 by omega, f_X7_undo_L22, if_pos (by decide)]
  exact ⟨s, rfl, h1⟩
theorem keep_L {g : Nat → Int32} (hm : 100 < m) : ∃ s, f_X7_keep_L2 f m 0 g = some s ∧ ∀ i, i < 59 → s i = f i := by
  obtain ⟨s, h1, h2⟩ := loop_rel (fun q (s : Nat → Int32) i => f_X7_keep_L2 f q i s) (fun i (_ : Unit) s => ∀ y, y < i → s y = f y) (fun _ a => a) 59 () g (fun y hy => absurd hy (by omega))
    (fun q i s hi h1 => by
      refine ⟨upd s i (f i), ?_, fun y hy => ?_⟩
      · show f_X7_keep_L2 f (q + 1) (nI i) s = f_X7_keep_L2 f q (nI (i + 1)) _
        rw [f_X7_keep_L2, if_neg (by rw [show (59 : Int32) = nI 59 from rfl, nI_leI (by omega) (by omega)]; omega), vg_nI (by omega) (by omega), tn (by omega), nI_1]
      · by_cases e : y = i
        · subst e; rw [upd_s]
        · rw [upd_n e]; exact h1 y (by omega)) m (by omega)
  have h2 : f_X7_keep_L2 f m 0 g = f_X7_keep_L2 f (m - 59) (nI 59) s := h2
  rw [h2, show m - 59 = (m - 60) + 1 by omega, f_X7_keep_L2, if_pos (by decide)]
  exact ⟨s, rfl, h1⟩
theorem restore_L {g : Nat → Int32} (hm : 100 < m) : ∃ s, f_X7_restore_L16 g m 0 f = some s ∧ ∀ i, i < 59 → s i = g i := by
  obtain ⟨s, h1, h2⟩ := loop_rel (fun q (s : Nat → Int32) i => f_X7_restore_L16 g q i s) (fun i (_ : Unit) s => ∀ y, y < i → s y = g y) (fun _ a => a) 59 () f (fun y hy => absurd hy (by omega))
    (fun q i s hi h1 => by
      refine ⟨upd s i (g i), ?_, fun y hy => ?_⟩
      · show f_X7_restore_L16 g (q + 1) (nI i) s = f_X7_restore_L16 g q (nI (i + 1)) _
        rw [f_X7_restore_L16, if_neg (by rw [show (59 : Int32) = nI 59 from rfl, nI_leI (by omega) (by omega)]; omega), vg_nI (by omega) (by omega), tn (by omega), nI_1]
      · by_cases e : y = i
        · subst e; rw [upd_s]
        · rw [upd_n e]; exact h1 y (by omega)) m (by omega)
  have h2 : f_X7_restore_L16 g m 0 f = f_X7_restore_L16 g (m - 59) (nI 59) s := h2
  rw [h2, show m - 59 = (m - 60) + 1 by omega, f_X7_restore_L16, if_pos (by decide)]
  exact ⟨s, rfl, h1⟩
theorem RS_n (hs : RS u f) : u.1.1 = f 56 := by
  obtain ⟨n, ow, co, ar, ch, tk, c, ok, hR, hM⟩ := hs
  rw [hR.1.1, hM.1.1]
theorem undo_core (hs : RS u f) (hh : RH h mh mk) (hm : 300 < m) : ∃ q qm, f_X6_undo u h = some q ∧ f_X7_undo m f mh mk = some qm ∧ q.1 = qm.1 ∧ RS q.2.1 qm.2.1 ∧ RH q.2.2 mh qm.2.2 := by
  obtain ⟨k, hk, h1, rfl, h2⟩ := id hh
  unfold f_X6_undo f_X7_undo f_X2_takeInto
  rw [h1]
  by_cases e : k = 0
  · subst e
    exact ⟨_, _, rfl, rfl, rfl, hs, hh⟩
  · have e0 : ¬ nI k = 0 := by rw [show (0 : Int32) = nI 0 from rfl, nI_eq (by omega) (by omega)]; exact e
    have e1 : (nI k - 1 : Int32) = nI (k - 1) := pk_sub (b := 1) (by omega)
    obtain ⟨g, g1, g2⟩ := undo_L (f := f) (mh := mh) (k := k - 1) (m := m) (by omega) (by omega)
    obtain ⟨b, b1, b2⟩ := become_eq u (h.1 (k - 1)).1
    rw [if_neg e0, if_neg e0, e1, vg_nI (by omega) (by omega), tn (by omega), b1, g1]
    simp only [Option.bind_some, if_neg n10]
    exact ⟨_, _, rfl, rfl, rfl, RS_eq (h2 (k - 1) (by omega)) b2 g2, ⟨k - 1, by omega, rfl, rfl, fun j hj => h2 j (by omega)⟩⟩
theorem keep_core {s : SS} {hs0 i : Int32} {g : Nat → Int32} (hs : RS u f) (hm : 300 < m) : ∃ q qm, f_X6_keep u s = some q ∧ f_X7_keep m f g = some qm ∧ q.1 = qm.1 ∧ RP q.2.1 q.2.2 qm.2.1 qm.2.2 := by
  unfold f_X6_keep f_X7_keep
  obtain ⟨b, b1, b2⟩ := become_eq s u
  obtain ⟨g', g1, g2⟩ := keep_L (f := f) (g := g) (m := m) (by omega)
  rw [b1, g1]
  exact ⟨_, _, rfl, rfl, RS_n hs, Or.inr ⟨rfl, rfl, RS_eq hs b2 g2⟩⟩
theorem restore_core {s : SS} {has i : Int32} {g : Nat → Int32} (hs : RS u f) (hh : RH h mh mk) (hp : RP s has g i) (hm : 300 < m) : ∃ q qm, f_X6_restore u h s has = some q ∧ f_X7_restore m f mh mk g i = some qm ∧ q.1 = qm.1 ∧ RS q.2.1 qm.2.1 ∧ RH q.2.2 qm.2.2.1 qm.2.2.2 := by
  obtain ⟨h', mh', mk', r1, r2, r3⟩ := rem_eq hh hs hm
  unfold f_X6_restore f_X7_restore
  rcases hp with ⟨rfl, rfl⟩ | ⟨rfl, rfl, hp⟩
  · exact ⟨_, _, rfl, rfl, rfl, hs, hh⟩
  · obtain ⟨b, b1, b2⟩ := become_eq u s
    obtain ⟨g', g1, g2⟩ := restore_L (f := f) (g := g) (m := m) (by omega)
    rw [if_neg n10, if_neg n10, r1, r2, b1, g1]
    have hr := RS_eq hp b2 g2
    exact ⟨_, _, rfl, rfl, RS_n hr, hr, r3⟩
theorem type_core {t : TT} {k : Int32} {g : Nat → Int32} (ht : RT t k g) (p1 : Int32) : ∃ q qm, f_X6_type t p1 = some q ∧ f_X7_type k g p1 = some qm ∧ q.1 = qm.1 ∧ RT q.2 qm.2.1 qm.2.2 := by
  obtain ⟨len, h1, h2, rfl, h4⟩ := id ht
  unfold f_X6_type f_X7_type f_X0_append
  rw [h2]
  by_cases e : len = 60
  · subst e
    exact ⟨_, _, rfl, rfl, rfl, ht⟩
  · rw [if_pos (show nI len < 60 from (nI_lt_iff (b := 60) (by omega) (by omega)).mpr (by omega)), if_neg (show ¬ nI len = 60 from by rw [show (60 : Int32) = nI 60 from rfl, nI_eq (by omega) (by omega)]; exact e), vg_nI (by omega) (by omega), vg_nI (by omega) (by omega), tn (by omega)]
    simp only [Option.bind_some, if_neg n10]
    refine ⟨_, _, rfl, rfl, rfl, len + 1, by omega, nI_1 _, nI_1 _, fun i hi => ?_⟩
    show upd _ _ _ i = upd _ _ _ i
    by_cases e2 : i = len
    · subst e2; rw [upd_s, upd_s]
    · rw [upd_n e2, upd_n e2]; exact h4 i (by omega)
theorem clear_core {t : TT} {k : Int32} {g : Nat → Int32} (ht : RT t k g) : ∃ q qm, f_X6_clearText t = some q ∧ f_X7_clearText k = some qm ∧ q.1 = qm.1 ∧ RT q.2 qm.2 g := by
  obtain ⟨len, h1, h2, h3, h4⟩ := ht
  exact ⟨_, _, rfl, rfl, h2.trans h3.symm, 0, by omega, rfl, rfl, fun i hi => absurd hi (by omega)⟩
end O2
/-! whose answer alone comes: forced, rank, trap -/
section O3
variable {u : SS} {f : Nat → Int32} {m : Nat}
theorem forced_core (hs : RS u f) (hm : 1000000 ≤ m) (p1 p2 : Int32) : ∃ v, f_X6_forced m u p1 p2 = some v ∧ f_X7_forced m f p1 p2 = some v := by
  obtain ⟨n, ow, co, ar, ch, tk, c, ok, hR, hM⟩ := hs
  have hn := ok.1.1
  rcases pl_cases p1 with ⟨a, ha, rfl, -⟩ | ⟨a1, -, a3⟩
  · rcases set_cases p2 n with ⟨s, hs, rfl⟩ | hx
    · exact ⟨_, X6_forced_eq hR.1 ok.1 ha hs (by omega), X7_forced_eq hM.1 ok.1 ha hs (by omega)⟩
    · have a1 : f_X6_isPlayer (nI a) = some 1 := by rw [isPlayer_eq, if_pos (isPl ha)]
      have a3 : f_X7_noPlayer (nI a) = some 0 := by rw [noPlayer_eq, if_pos (isPl ha)]
      unfold f_X6_forced f_X7_forced
      rw [a1, a3, hasAll_out hR.1 hn hx, isBad_out hM.1 hn hx]
      exact ⟨_, rfl, rfl⟩
  · unfold f_X6_forced f_X7_forced
    rw [a1, a3]
    exact ⟨_, rfl, rfl⟩
end O3
