theorem nI_ld {x : Int32} {i L : Nat} (e : x = nI i) (h : i < L) (hL : L ≤ 2048) : vp_in x L := by rw [e]; exact vp_in_nI h (by omega)
set_option maxHeartbeats 40000000 in
set_option maxRecDepth 100000 in
theorem law_loop {p : Program} {l : Launch} {e : Env} {s : State} {m : MethodId} {below : List Frame} {meth : Method} {c : Code} {D : va_G} {cI cC cS : ClassId} {b L : Nat} {xs : Nat → Int32} {n : Nat} {REL : XS → MS → Prop} (hL : L ≤ 2048) (C0 : lw_At p s m meth c b L xs) (hK : va_K D vwCl (xTy cI cC cS) s) (hN : xN s) (hsim : SIM n REL) :
    ∀ (k i : Nat) (x3 : Int32), i ≤ L → L + 1 ≤ i + k → x3 = nI i → ∀ (X : XS) (M : MS), REL X M → ∀ (ad : Nat → Nat → Nat) (am : Nat → Nat) (H : Heap) (locs : List Loc), va_P D vwCl (wXS ad cI cC cS X ++ wMS am cI cC M) H → va_D (fun q : Nat => s.heap.size ≤ q) (wXS ad cI cC cS X ++ wMS am cI cC M) → va_S (fun q : Nat => s.heap.size ≤ q) s.heap H locs → ∀ (ls : Array Slot), lv_has ls 4 [(0, .ref b), (1, .ref (ad 0 0)), (2, .ref (am 0)), (3, .int x3)] → W p l e room_1 s m #[Value.ref b] below meth c H locs 62 1144 (lw_Z below #[Value.ref b] s) (F0 m 18 ls []) := by
  obtain ⟨hx, hb, hr, hml, hown, hts0, hX, hbl, hlocks, hgv⟩ := C0
  have hA : ∀ q : Nat, s.heap.size ≤ q → (fun q : Nat => s.heap.size ≤ q) q := fun _ h => h
  have hbA : ¬ (fun q : Nat => s.heap.size ≤ q) b := Nat.not_le.mpr hbl
  have hts : ∀ w ∈ wsL_law, w.before #[Value.ref b] s = true := fun w h => hts0 w (wsL_law_in w h)
  have S : CallFix p m c cL_law 4 s #[Value.ref b] wsL_law RL := ⟨hx, hb, hml, hown, hts⟩
  obtain ⟨h_addPlace, h_setOwner, h_setColour, h_addArrow, h_removeArrow, h_readArrows, h_turnOver, h_choose, h_chooseWell, h_start, h_step, h_type, h_clearText, h_undo, h_keep, h_restore, h_place, h_wins, h_winningChoice, h_measure, h_rounds, h_forced, h_rank, h_trap, h_judged, h_badRings, h_pivots, h_weakArrows, h_token, h_count⟩ := hsim
  intro k
  induction k with
  | zero =>
    intro i x3 h1 h2
    exact absurd h2 (by omega)
  | succ k ih =>
    intro i x3 hi hik e3 X M hrel ad am H locs hP hD hS ls hl
    refine lv_iload_n hx hb dL_law_18 rfl (lv_at hl 3 rfl) ?_
    refine lv_aload_n hx hb dL_law_19 rfl (lv_at hl 0 rfl) ?_
    refine va_slen hx hb hX hbl hbA hS dL_law_20 ?_
    refine lv_iconst (v := 4) hx hb dL_law_21 (by decide) ?_
    refine lv_isub hx hb dL_law_22 ?_
    refine lv_icmp_gt (tgt := 956) hx hb dL_law_23 (by decide) (fun c1 => ?_) (fun c1 => ?_)
    · refine lv_iconst (v := 1) hx hb dL_law_956 (by decide) ?_
      refine va_forget (fun q hq => hS.2.2 q hq) ?_
      refine W.widen (k := 600000) (n := 7302250) (Nat.le_of_ble_eq_true rfl) (Nat.le_of_ble_eq_true rfl) ?_
      exact lw_ret hx hb hr hlocks dL_law_957
    · have hlt : i + 4 ≤ L := by
        have h1 := Int32.not_lt.mp c1
        rw [e3, Int32.le_iff_toInt_le, nI_toInt (by omega), show Int32.ofNat L - 4 = nI L - nI 4 from rfl, pk_sub_toInt (by omega) (by omega)] at h1
        omega
      have f1 : x3 + 1 = nI (i + 1) := by rw [e3]; exact nI_1 i
      have f2 : x3 + 2 = nI (i + 2) := by rw [e3]; exact nI_add i 2
      have f3 : x3 + 3 = nI (i + 3) := by rw [e3]; exact nI_add i 3
      have i0 : vp_in x3 L := nI_ld e3 (by omega) hL
      have i1 : vp_in (x3 + 1) L := nI_ld f1 (by omega) hL
      have i2 : vp_in (x3 + 2) L := nI_ld f2 (by omega) hL
      have i3 : vp_in (x3 + 3) L := nI_ld f3 (by omega) hL
      have J : ∀ (X : XS) (M : MS), REL X M → ∀ (H : Heap) (locs : List Loc), va_P D vwCl (wXS ad cI cC cS X ++ wMS am cI cC M) H → va_D (fun q : Nat => s.heap.size ≤ q) (wXS ad cI cC cS X ++ wMS am cI cC M) → va_S (fun q : Nat => s.heap.size ≤ q) s.heap H locs → W p l e room_1 s m #[Value.ref b] below meth c H locs 62 1144 (lw_Z below #[Value.ref b] s) (F0 m 950 ls []) := by
        intro X M hrel H locs hP hD hS
        refine lv_iinc (v := x3 + 4) (lv' := [(3, .int (x3 + 4)), (0, .ref b), (1, .ref (ad 0 0)), (2, .ref (am 0))]) hx hb dL_law_950 hl (k := 3) rfl (congrArg (fun z => x3 + z) (by decide)) (by decide) rfl (fun ls hl => ?_)
        refine lv_goto (tgt := 18) hx hb dL_law_953 (by decide) ?_
        exact ih (i + 4) (x3 + 4) hlt (by omega) (by rw [e3]; exact nI_add i 4) X M hrel ad am H locs hP hD hS ls (lv_sub hl [1, 2, 3, 0] rfl)
      refine lv_aload_n hx hb dL_law_26 rfl (lv_at hl 0 rfl) ?_
      refine lv_iload_n hx hb dL_law_27 rfl (lv_at hl 3 rfl) ?_
      refine va_sld hx hb hX hbl hbA hS i0 dL_law_28 ?_
      refine lv_bipush (v := 31) hx hb dL_law_29 (by decide) ?_
      refine lv_iand hx hb dL_law_31 ?_
      refine lv_topi (fun sw _ => ?_)
      by_cases cs : sw = 0
      · subst cs
        refine lv_tableIn (tgt := 168) hx hb dL_law_32 (by decide) (by decide) rfl (by decide) ?_
        refine lv_aload_n hx hb dL_law_168 rfl (lv_at hl 1 rfl) ?_
        refine lv_aload_n hx hb dL_law_169 rfl (lv_at hl 0 rfl) ?_
        refine lv_iload_n hx hb dL_law_170 rfl (lv_at hl 3 rfl) ?_
        refine lv_iconst (v := 1) hx hb dL_law_171 (by decide) ?_
        refine lv_iadd hx hb dL_law_172 ?_
        refine va_sld hx hb hX hbl hbA hS i1 dL_law_173 ?_
        refine lv_aload_n hx hb dL_law_174 rfl (lv_at hl 0 rfl) ?_
        refine lv_iload_n hx hb dL_law_175 rfl (lv_at hl 3 rfl) ?_
        refine lv_iconst (v := 2) hx hb dL_law_176 (by decide) ?_
        refine lv_iadd hx hb dL_law_177 ?_
        refine va_sld hx hb hX hbl hbA hS i2 dL_law_178 ?_
        obtain ⟨q, qm, hq, hqm, hqr, hrel1⟩ := h_addPlace X M (xs (x3 + 1).toNatClampNeg) (xs (x3 + 2).toNatClampNeg) hrel
        refine xcVi (w' := (w_X ad cI cC cS q.2.1 q.2.2 X.2.2.1 X.2.2.2.1 X.2.2.2.2.1 X.2.2.2.2.2.1 X.2.2.2.2.2.2.1 X.2.2.2.2.2.2.2 ++ wMS am cI cC M)) S hK hN hA hP hD hS (c_X6_addPlace l D cI cC cS (wMS am cI cC M) ad X.1 X.2.1 X.2.2.1 X.2.2.2.1 X.2.2.2.2.1 X.2.2.2.2.2.1 X.2.2.2.2.2.2.1 X.2.2.2.2.2.2.2 (xs (x3 + 1).toNatClampNeg) (xs (x3 + 2).toNatClampNeg) _ hq) gL_law_X6_addPlace rfl hd_X6_addPlace ⟨by decide, by decide⟩ (List.Perm.refl _) (List.Perm.refl _) (ci := 6) (q := (RX6, TX6, 8)) rfl rfl rfl rfl hl.1 rfl (Nat.le_of_ble_eq_true rfl) dL_law_179 ⟨Nat.le_of_ble_eq_true rfl, Nat.le_of_ble_eq_true rfl⟩ (fun H locs hP hD hS => ?_)
        refine lv_aload_n hx hb dL_law_182 rfl (lv_at hl 2 rfl) ?_
        refine lv_aload_n hx hb dL_law_183 rfl (lv_at hl 0 rfl) ?_
        refine lv_iload_n hx hb dL_law_184 rfl (lv_at hl 3 rfl) ?_
        refine lv_iconst (v := 1) hx hb dL_law_185 (by decide) ?_
        refine lv_iadd hx hb dL_law_186 ?_
        refine va_sld hx hb hX hbl hbA hS i1 dL_law_187 ?_
        refine lv_aload_n hx hb dL_law_188 rfl (lv_at hl 0 rfl) ?_
        refine lv_iload_n hx hb dL_law_189 rfl (lv_at hl 3 rfl) ?_
        refine lv_iconst (v := 2) hx hb dL_law_190 (by decide) ?_
        refine lv_iadd hx hb dL_law_191 ?_
        refine va_sld hx hb hX hbl hbA hS i2 dL_law_192 ?_
        refine xcVi (w' := (w_X ad cI cC cS q.2.1 q.2.2 X.2.2.1 X.2.2.2.1 X.2.2.2.2.1 X.2.2.2.2.2.1 X.2.2.2.2.2.2.1 X.2.2.2.2.2.2.2 ++ w_M am cI cC qm.2.1 qm.2.2.1 qm.2.2.2 M.2.2.2.1 M.2.2.2.2.1 M.2.2.2.2.2.1 M.2.2.2.2.2.2.1 M.2.2.2.2.2.2.2.1 M.2.2.2.2.2.2.2.2.1 M.2.2.2.2.2.2.2.2.2.1 M.2.2.2.2.2.2.2.2.2.2.1 M.2.2.2.2.2.2.2.2.2.2.2.1 M.2.2.2.2.2.2.2.2.2.2.2.2.1 M.2.2.2.2.2.2.2.2.2.2.2.2.2.1 M.2.2.2.2.2.2.2.2.2.2.2.2.2.2.1 M.2.2.2.2.2.2.2.2.2.2.2.2.2.2.2.1 M.2.2.2.2.2.2.2.2.2.2.2.2.2.2.2.2.1 M.2.2.2.2.2.2.2.2.2.2.2.2.2.2.2.2.2.1 M.2.2.2.2.2.2.2.2.2.2.2.2.2.2.2.2.2.2)) S hK hN hA hP hD hS (c_X7_addPlace l D cI cC cS (w_X ad cI cC cS q.2.1 q.2.2 X.2.2.1 X.2.2.2.1 X.2.2.2.2.1 X.2.2.2.2.2.1 X.2.2.2.2.2.2.1 X.2.2.2.2.2.2.2) am M.1 M.2.1 M.2.2.1 M.2.2.2.1 M.2.2.2.2.1 M.2.2.2.2.2.1 M.2.2.2.2.2.2.1 M.2.2.2.2.2.2.2.1 M.2.2.2.2.2.2.2.2.1 M.2.2.2.2.2.2.2.2.2.1 M.2.2.2.2.2.2.2.2.2.2.1 M.2.2.2.2.2.2.2.2.2.2.2.1 M.2.2.2.2.2.2.2.2.2.2.2.2.1 M.2.2.2.2.2.2.2.2.2.2.2.2.2.1 M.2.2.2.2.2.2.2.2.2.2.2.2.2.2.1 M.2.2.2.2.2.2.2.2.2.2.2.2.2.2.2.1 M.2.2.2.2.2.2.2.2.2.2.2.2.2.2.2.2.1 M.2.2.2.2.2.2.2.2.2.2.2.2.2.2.2.2.2.1 M.2.2.2.2.2.2.2.2.2.2.2.2.2.2.2.2.2.2 (xs (x3 + 1).toNatClampNeg) (xs (x3 + 2).toNatClampNeg) n _ hqm) gL_law_X7_addPlace rfl hd_X7_addPlace ⟨by decide, by decide⟩ List.perm_append_comm List.perm_append_comm (ci := 7) (q := (RX7, TX7, 19)) rfl rfl rfl rfl hl.1 rfl (Nat.le_of_ble_eq_true rfl) dL_law_193 ⟨Nat.le_of_ble_eq_true rfl, Nat.le_of_ble_eq_true rfl⟩ (fun H locs hP hD hS => ?_)
        refine lv_icmp_eq (tgt := 950) hx hb dL_law_196 (by decide) (fun _ => ?_) (fun c2 => absurd hqr c2)
        exact J _ _ hrel1 H locs hP hD hS
      have e_0 : sw.toInt ≠ 0 := x_ne (k := 0) cs
      clear cs
      by_cases cs : sw = 1
      · subst cs
        refine lv_tableIn (tgt := 201) hx hb dL_law_32 (by decide) (by decide) rfl (by decide) ?_
        refine lv_aload_n hx hb dL_law_201 rfl (lv_at hl 1 rfl) ?_
        refine lv_aload_n hx hb dL_law_202 rfl (lv_at hl 0 rfl) ?_
        refine lv_iload_n hx hb dL_law_203 rfl (lv_at hl 3 rfl) ?_
        refine lv_iconst (v := 1) hx hb dL_law_204 (by decide) ?_
        refine lv_iadd hx hb dL_law_205 ?_
        refine va_sld hx hb hX hbl hbA hS i1 dL_law_206 ?_
        refine lv_aload_n hx hb dL_law_207 rfl (lv_at hl 0 rfl) ?_
        refine lv_iload_n hx hb dL_law_208 rfl (lv_at hl 3 rfl) ?_
        refine lv_iconst (v := 2) hx hb dL_law_209 (by decide) ?_
        refine lv_iadd hx hb dL_law_210 ?_
        refine va_sld hx hb hX hbl hbA hS i2 dL_law_211 ?_
        obtain ⟨q, qm, hq, hqm, hqr, hrel1⟩ := h_setOwner X M (xs (x3 + 1).toNatClampNeg) (xs (x3 + 2).toNatClampNeg) hrel
        refine xcVi (w' := (w_X ad cI cC cS q.2.1 q.2.2.1 X.2.2.1 X.2.2.2.1 X.2.2.2.2.1 q.2.2.2.1 q.2.2.2.2 X.2.2.2.2.2.2.2 ++ wMS am cI cC M)) S hK hN hA hP hD hS (c_X6_setOwner l D cI cC cS (wMS am cI cC M) ad X.1 X.2.1 X.2.2.1 X.2.2.2.1 X.2.2.2.2.1 X.2.2.2.2.2.1 X.2.2.2.2.2.2.1 X.2.2.2.2.2.2.2 (xs (x3 + 1).toNatClampNeg) (xs (x3 + 2).toNatClampNeg) n _ hq) gL_law_X6_setOwner rfl hd_X6_setOwner ⟨by decide, by decide⟩ (List.Perm.refl _) (List.Perm.refl _) (ci := 6) (q := (RX6, TX6, 8)) rfl rfl rfl rfl hl.1 rfl (Nat.le_of_ble_eq_true rfl) dL_law_212 ⟨Nat.le_of_ble_eq_true rfl, Nat.le_of_ble_eq_true rfl⟩ (fun H locs hP hD hS => ?_)
        refine lv_aload_n hx hb dL_law_215 rfl (lv_at hl 2 rfl) ?_
        refine lv_aload_n hx hb dL_law_216 rfl (lv_at hl 0 rfl) ?_
        refine lv_iload_n hx hb dL_law_217 rfl (lv_at hl 3 rfl) ?_
        refine lv_iconst (v := 1) hx hb dL_law_218 (by decide) ?_
        refine lv_iadd hx hb dL_law_219 ?_
        refine va_sld hx hb hX hbl hbA hS i1 dL_law_220 ?_
        refine lv_aload_n hx hb dL_law_221 rfl (lv_at hl 0 rfl) ?_
        refine lv_iload_n hx hb dL_law_222 rfl (lv_at hl 3 rfl) ?_
        refine lv_iconst (v := 2) hx hb dL_law_223 (by decide) ?_
        refine lv_iadd hx hb dL_law_224 ?_
        refine va_sld hx hb hX hbl hbA hS i2 dL_law_225 ?_
        refine xcVi (w' := (w_X ad cI cC cS q.2.1 q.2.2.1 X.2.2.1 X.2.2.2.1 X.2.2.2.2.1 q.2.2.2.1 q.2.2.2.2 X.2.2.2.2.2.2.2 ++ w_M am cI cC qm.2.1 qm.2.2.1 qm.2.2.2.1 M.2.2.2.1 M.2.2.2.2.1 qm.2.2.2.2.1 qm.2.2.2.2.2.1 qm.2.2.2.2.2.2.1 qm.2.2.2.2.2.2.2.1 qm.2.2.2.2.2.2.2.2 M.2.2.2.2.2.2.2.2.2.2.1 M.2.2.2.2.2.2.2.2.2.2.2.1 M.2.2.2.2.2.2.2.2.2.2.2.2.1 M.2.2.2.2.2.2.2.2.2.2.2.2.2.1 M.2.2.2.2.2.2.2.2.2.2.2.2.2.2.1 M.2.2.2.2.2.2.2.2.2.2.2.2.2.2.2.1 M.2.2.2.2.2.2.2.2.2.2.2.2.2.2.2.2.1 M.2.2.2.2.2.2.2.2.2.2.2.2.2.2.2.2.2.1 M.2.2.2.2.2.2.2.2.2.2.2.2.2.2.2.2.2.2)) S hK hN hA hP hD hS (c_X7_setOwner l D cI cC cS (w_X ad cI cC cS q.2.1 q.2.2.1 X.2.2.1 X.2.2.2.1 X.2.2.2.2.1 q.2.2.2.1 q.2.2.2.2 X.2.2.2.2.2.2.2) am M.1 M.2.1 M.2.2.1 M.2.2.2.1 M.2.2.2.2.1 M.2.2.2.2.2.1 M.2.2.2.2.2.2.1 M.2.2.2.2.2.2.2.1 M.2.2.2.2.2.2.2.2.1 M.2.2.2.2.2.2.2.2.2.1 M.2.2.2.2.2.2.2.2.2.2.1 M.2.2.2.2.2.2.2.2.2.2.2.1 M.2.2.2.2.2.2.2.2.2.2.2.2.1 M.2.2.2.2.2.2.2.2.2.2.2.2.2.1 M.2.2.2.2.2.2.2.2.2.2.2.2.2.2.1 M.2.2.2.2.2.2.2.2.2.2.2.2.2.2.2.1 M.2.2.2.2.2.2.2.2.2.2.2.2.2.2.2.2.1 M.2.2.2.2.2.2.2.2.2.2.2.2.2.2.2.2.2.1 M.2.2.2.2.2.2.2.2.2.2.2.2.2.2.2.2.2.2 (xs (x3 + 1).toNatClampNeg) (xs (x3 + 2).toNatClampNeg) n _ hqm) gL_law_X7_setOwner rfl hd_X7_setOwner ⟨by decide, by decide⟩ List.perm_append_comm List.perm_append_comm (ci := 7) (q := (RX7, TX7, 19)) rfl rfl rfl rfl hl.1 rfl (Nat.le_of_ble_eq_true rfl) dL_law_226 ⟨Nat.le_of_ble_eq_true rfl, Nat.le_of_ble_eq_true rfl⟩ (fun H locs hP hD hS => ?_)
        refine lv_icmp_eq (tgt := 950) hx hb dL_law_229 (by decide) (fun _ => ?_) (fun c2 => absurd hqr c2)
        exact J _ _ hrel1 H locs hP hD hS
      have e_1 : sw.toInt ≠ 1 := x_ne (k := 1) cs
      clear cs
      by_cases cs : sw = 2
      · subst cs
        refine lv_tableIn (tgt := 234) hx hb dL_law_32 (by decide) (by decide) rfl (by decide) ?_
        refine lv_aload_n hx hb dL_law_234 rfl (lv_at hl 1 rfl) ?_
        refine lv_aload_n hx hb dL_law_235 rfl (lv_at hl 0 rfl) ?_
        refine lv_iload_n hx hb dL_law_236 rfl (lv_at hl 3 rfl) ?_
        refine lv_iconst (v := 1) hx hb dL_law_237 (by decide) ?_
        refine lv_iadd hx hb dL_law_238 ?_
        refine va_sld hx hb hX hbl hbA hS i1 dL_law_239 ?_
        refine lv_aload_n hx hb dL_law_240 rfl (lv_at hl 0 rfl) ?_
        refine lv_iload_n hx hb dL_law_241 rfl (lv_at hl 3 rfl) ?_
        refine lv_iconst (v := 2) hx hb dL_law_242 (by decide) ?_
        refine lv_iadd hx hb dL_law_243 ?_
        refine va_sld hx hb hX hbl hbA hS i2 dL_law_244 ?_
        obtain ⟨q, qm, hq, hqm, hqr, hrel1⟩ := h_setColour X M (xs (x3 + 1).toNatClampNeg) (xs (x3 + 2).toNatClampNeg) hrel
        refine xcVi (w' := (w_X ad cI cC cS q.2.1 q.2.2 X.2.2.1 X.2.2.2.1 X.2.2.2.2.1 X.2.2.2.2.2.1 X.2.2.2.2.2.2.1 X.2.2.2.2.2.2.2 ++ wMS am cI cC M)) S hK hN hA hP hD hS (c_X6_setColour l D cI cC cS (wMS am cI cC M) ad X.1 X.2.1 X.2.2.1 X.2.2.2.1 X.2.2.2.2.1 X.2.2.2.2.2.1 X.2.2.2.2.2.2.1 X.2.2.2.2.2.2.2 (xs (x3 + 1).toNatClampNeg) (xs (x3 + 2).toNatClampNeg) _ hq) gL_law_X6_setColour rfl hd_X6_setColour ⟨by decide, by decide⟩ (List.Perm.refl _) (List.Perm.refl _) (ci := 6) (q := (RX6, TX6, 8)) rfl rfl rfl rfl hl.1 rfl (Nat.le_of_ble_eq_true rfl) dL_law_245 ⟨Nat.le_of_ble_eq_true rfl, Nat.le_of_ble_eq_true rfl⟩ (fun H locs hP hD hS => ?_)
        refine lv_aload_n hx hb dL_law_248 rfl (lv_at hl 2 rfl) ?_
        refine lv_aload_n hx hb dL_law_249 rfl (lv_at hl 0 rfl) ?_
        refine lv_iload_n hx hb dL_law_250 rfl (lv_at hl 3 rfl) ?_
        refine lv_iconst (v := 1) hx hb dL_law_251 (by decide) ?_
        refine lv_iadd hx hb dL_law_252 ?_
        refine va_sld hx hb hX hbl hbA hS i1 dL_law_253 ?_
        refine lv_aload_n hx hb dL_law_254 rfl (lv_at hl 0 rfl) ?_
        refine lv_iload_n hx hb dL_law_255 rfl (lv_at hl 3 rfl) ?_
        refine lv_iconst (v := 2) hx hb dL_law_256 (by decide) ?_
        refine lv_iadd hx hb dL_law_257 ?_
        refine va_sld hx hb hX hbl hbA hS i2 dL_law_258 ?_
        refine xcVi (w' := (w_X ad cI cC cS q.2.1 q.2.2 X.2.2.1 X.2.2.2.1 X.2.2.2.2.1 X.2.2.2.2.2.1 X.2.2.2.2.2.2.1 X.2.2.2.2.2.2.2 ++ w_M am cI cC qm.2.1 qm.2.2.1 qm.2.2.2 M.2.2.2.1 M.2.2.2.2.1 M.2.2.2.2.2.1 M.2.2.2.2.2.2.1 M.2.2.2.2.2.2.2.1 M.2.2.2.2.2.2.2.2.1 M.2.2.2.2.2.2.2.2.2.1 M.2.2.2.2.2.2.2.2.2.2.1 M.2.2.2.2.2.2.2.2.2.2.2.1 M.2.2.2.2.2.2.2.2.2.2.2.2.1 M.2.2.2.2.2.2.2.2.2.2.2.2.2.1 M.2.2.2.2.2.2.2.2.2.2.2.2.2.2.1 M.2.2.2.2.2.2.2.2.2.2.2.2.2.2.2.1 M.2.2.2.2.2.2.2.2.2.2.2.2.2.2.2.2.1 M.2.2.2.2.2.2.2.2.2.2.2.2.2.2.2.2.2.1 M.2.2.2.2.2.2.2.2.2.2.2.2.2.2.2.2.2.2)) S hK hN hA hP hD hS (c_X7_setColour l D cI cC cS (w_X ad cI cC cS q.2.1 q.2.2 X.2.2.1 X.2.2.2.1 X.2.2.2.2.1 X.2.2.2.2.2.1 X.2.2.2.2.2.2.1 X.2.2.2.2.2.2.2) am M.1 M.2.1 M.2.2.1 M.2.2.2.1 M.2.2.2.2.1 M.2.2.2.2.2.1 M.2.2.2.2.2.2.1 M.2.2.2.2.2.2.2.1 M.2.2.2.2.2.2.2.2.1 M.2.2.2.2.2.2.2.2.2.1 M.2.2.2.2.2.2.2.2.2.2.1 M.2.2.2.2.2.2.2.2.2.2.2.1 M.2.2.2.2.2.2.2.2.2.2.2.2.1 M.2.2.2.2.2.2.2.2.2.2.2.2.2.1 M.2.2.2.2.2.2.2.2.2.2.2.2.2.2.1 M.2.2.2.2.2.2.2.2.2.2.2.2.2.2.2.1 M.2.2.2.2.2.2.2.2.2.2.2.2.2.2.2.2.1 M.2.2.2.2.2.2.2.2.2.2.2.2.2.2.2.2.2.1 M.2.2.2.2.2.2.2.2.2.2.2.2.2.2.2.2.2.2 (xs (x3 + 1).toNatClampNeg) (xs (x3 + 2).toNatClampNeg) n _ hqm) gL_law_X7_setColour rfl hd_X7_setColour ⟨by decide, by decide⟩ List.perm_append_comm List.perm_append_comm (ci := 7) (q := (RX7, TX7, 19)) rfl rfl rfl rfl hl.1 rfl (Nat.le_of_ble_eq_true rfl) dL_law_259 ⟨Nat.le_of_ble_eq_true rfl, Nat.le_of_ble_eq_true rfl⟩ (fun H locs hP hD hS => ?_)
        refine lv_icmp_eq (tgt := 950) hx hb dL_law_262 (by decide) (fun _ => ?_) (fun c2 => absurd hqr c2)
        exact J _ _ hrel1 H locs hP hD hS
      have e_2 : sw.toInt ≠ 2 := x_ne (k := 2) cs
      clear cs
      by_cases cs : sw = 3
      · subst cs
        refine lv_tableIn (tgt := 267) hx hb dL_law_32 (by decide) (by decide) rfl (by decide) ?_
        refine lv_aload_n hx hb dL_law_267 rfl (lv_at hl 1 rfl) ?_
        refine lv_aload_n hx hb dL_law_268 rfl (lv_at hl 0 rfl) ?_
        refine lv_iload_n hx hb dL_law_269 rfl (lv_at hl 3 rfl) ?_
        refine lv_iconst (v := 1) hx hb dL_law_270 (by decide) ?_
        refine lv_iadd hx hb dL_law_271 ?_
        refine va_sld hx hb hX hbl hbA hS i1 dL_law_272 ?_
        refine lv_aload_n hx hb dL_law_273 rfl (lv_at hl 0 rfl) ?_
        refine lv_iload_n hx hb dL_law_274 rfl (lv_at hl 3 rfl) ?_
        refine lv_iconst (v := 2) hx hb dL_law_275 (by decide) ?_
        refine lv_iadd hx hb dL_law_276 ?_
        refine va_sld hx hb hX hbl hbA hS i2 dL_law_277 ?_
        obtain ⟨q, qm, hq, hqm, hqr, hrel1⟩ := h_addArrow X M (xs (x3 + 1).toNatClampNeg) (xs (x3 + 2).toNatClampNeg) hrel
        refine xcVi (w' := (w_X ad cI cC cS q.2.1 q.2.2 X.2.2.1 X.2.2.2.1 X.2.2.2.2.1 X.2.2.2.2.2.1 X.2.2.2.2.2.2.1 X.2.2.2.2.2.2.2 ++ wMS am cI cC M)) S hK hN hA hP hD hS (c_X6_addArrow l D cI cC cS (wMS am cI cC M) ad X.1 X.2.1 X.2.2.1 X.2.2.2.1 X.2.2.2.2.1 X.2.2.2.2.2.1 X.2.2.2.2.2.2.1 X.2.2.2.2.2.2.2 (xs (x3 + 1).toNatClampNeg) (xs (x3 + 2).toNatClampNeg) n _ hq) gL_law_X6_addArrow rfl hd_X6_addArrow ⟨by decide, by decide⟩ (List.Perm.refl _) (List.Perm.refl _) (ci := 6) (q := (RX6, TX6, 8)) rfl rfl rfl rfl hl.1 rfl (Nat.le_of_ble_eq_true rfl) dL_law_278 ⟨Nat.le_of_ble_eq_true rfl, Nat.le_of_ble_eq_true rfl⟩ (fun H locs hP hD hS => ?_)
        refine lv_aload_n hx hb dL_law_281 rfl (lv_at hl 2 rfl) ?_
        refine lv_aload_n hx hb dL_law_282 rfl (lv_at hl 0 rfl) ?_
        refine lv_iload_n hx hb dL_law_283 rfl (lv_at hl 3 rfl) ?_
        refine lv_iconst (v := 1) hx hb dL_law_284 (by decide) ?_
        refine lv_iadd hx hb dL_law_285 ?_
        refine va_sld hx hb hX hbl hbA hS i1 dL_law_286 ?_
        refine lv_aload_n hx hb dL_law_287 rfl (lv_at hl 0 rfl) ?_
        refine lv_iload_n hx hb dL_law_288 rfl (lv_at hl 3 rfl) ?_
        refine lv_iconst (v := 2) hx hb dL_law_289 (by decide) ?_
        refine lv_iadd hx hb dL_law_290 ?_
        refine va_sld hx hb hX hbl hbA hS i2 dL_law_291 ?_
        refine xcVi (w' := (w_X ad cI cC cS q.2.1 q.2.2 X.2.2.1 X.2.2.2.1 X.2.2.2.2.1 X.2.2.2.2.2.1 X.2.2.2.2.2.2.1 X.2.2.2.2.2.2.2 ++ w_M am cI cC qm.2.1 qm.2.2.1 qm.2.2.2 M.2.2.2.1 M.2.2.2.2.1 M.2.2.2.2.2.1 M.2.2.2.2.2.2.1 M.2.2.2.2.2.2.2.1 M.2.2.2.2.2.2.2.2.1 M.2.2.2.2.2.2.2.2.2.1 M.2.2.2.2.2.2.2.2.2.2.1 M.2.2.2.2.2.2.2.2.2.2.2.1 M.2.2.2.2.2.2.2.2.2.2.2.2.1 M.2.2.2.2.2.2.2.2.2.2.2.2.2.1 M.2.2.2.2.2.2.2.2.2.2.2.2.2.2.1 M.2.2.2.2.2.2.2.2.2.2.2.2.2.2.2.1 M.2.2.2.2.2.2.2.2.2.2.2.2.2.2.2.2.1 M.2.2.2.2.2.2.2.2.2.2.2.2.2.2.2.2.2.1 M.2.2.2.2.2.2.2.2.2.2.2.2.2.2.2.2.2.2)) S hK hN hA hP hD hS (c_X7_addArrow l D cI cC cS (w_X ad cI cC cS q.2.1 q.2.2 X.2.2.1 X.2.2.2.1 X.2.2.2.2.1 X.2.2.2.2.2.1 X.2.2.2.2.2.2.1 X.2.2.2.2.2.2.2) am M.1 M.2.1 M.2.2.1 M.2.2.2.1 M.2.2.2.2.1 M.2.2.2.2.2.1 M.2.2.2.2.2.2.1 M.2.2.2.2.2.2.2.1 M.2.2.2.2.2.2.2.2.1 M.2.2.2.2.2.2.2.2.2.1 M.2.2.2.2.2.2.2.2.2.2.1 M.2.2.2.2.2.2.2.2.2.2.2.1 M.2.2.2.2.2.2.2.2.2.2.2.2.1 M.2.2.2.2.2.2.2.2.2.2.2.2.2.1 M.2.2.2.2.2.2.2.2.2.2.2.2.2.2.1 M.2.2.2.2.2.2.2.2.2.2.2.2.2.2.2.1 M.2.2.2.2.2.2.2.2.2.2.2.2.2.2.2.2.1 M.2.2.2.2.2.2.2.2.2.2.2.2.2.2.2.2.2.1 M.2.2.2.2.2.2.2.2.2.2.2.2.2.2.2.2.2.2 (xs (x3 + 1).toNatClampNeg) (xs (x3 + 2).toNatClampNeg) n _ hqm) gL_law_X7_addArrow rfl hd_X7_addArrow ⟨by decide, by decide⟩ List.perm_append_comm List.perm_append_comm (ci := 7) (q := (RX7, TX7, 19)) rfl rfl rfl rfl hl.1 rfl (Nat.le_of_ble_eq_true rfl) dL_law_292 ⟨Nat.le_of_ble_eq_true rfl, Nat.le_of_ble_eq_true rfl⟩ (fun H locs hP hD hS => ?_)
        refine lv_icmp_eq (tgt := 950) hx hb dL_law_295 (by decide) (fun _ => ?_) (fun c2 => absurd hqr c2)
        exact J _ _ hrel1 H locs hP hD hS
      have e_3 : sw.toInt ≠ 3 := x_ne (k := 3) cs
      clear cs
      by_cases cs : sw = 4
      · subst cs
        refine lv_tableIn (tgt := 300) hx hb dL_law_32 (by decide) (by decide) rfl (by decide) ?_
        refine lv_aload_n hx hb dL_law_300 rfl (lv_at hl 1 rfl) ?_
        refine lv_aload_n hx hb dL_law_301 rfl (lv_at hl 0 rfl) ?_
        refine lv_iload_n hx hb dL_law_302 rfl (lv_at hl 3 rfl) ?_
        refine lv_iconst (v := 1) hx hb dL_law_303 (by decide) ?_
        refine lv_iadd hx hb dL_law_304 ?_
        refine va_sld hx hb hX hbl hbA hS i1 dL_law_305 ?_
        refine lv_aload_n hx hb dL_law_306 rfl (lv_at hl 0 rfl) ?_
        refine lv_iload_n hx hb dL_law_307 rfl (lv_at hl 3 rfl) ?_
        refine lv_iconst (v := 2) hx hb dL_law_308 (by decide) ?_
        refine lv_iadd hx hb dL_law_309 ?_
        refine va_sld hx hb hX hbl hbA hS i2 dL_law_310 ?_
        obtain ⟨q, qm, hq, hqm, hqr, hrel1⟩ := h_removeArrow X M (xs (x3 + 1).toNatClampNeg) (xs (x3 + 2).toNatClampNeg) hrel
        refine xcVi (w' := (w_X ad cI cC cS q.2.1 q.2.2 X.2.2.1 X.2.2.2.1 X.2.2.2.2.1 X.2.2.2.2.2.1 X.2.2.2.2.2.2.1 X.2.2.2.2.2.2.2 ++ wMS am cI cC M)) S hK hN hA hP hD hS (c_X6_removeArrow l D cI cC cS (wMS am cI cC M) ad X.1 X.2.1 X.2.2.1 X.2.2.2.1 X.2.2.2.2.1 X.2.2.2.2.2.1 X.2.2.2.2.2.2.1 X.2.2.2.2.2.2.2 (xs (x3 + 1).toNatClampNeg) (xs (x3 + 2).toNatClampNeg) _ hq) gL_law_X6_removeArrow rfl hd_X6_removeArrow ⟨by decide, by decide⟩ (List.Perm.refl _) (List.Perm.refl _) (ci := 6) (q := (RX6, TX6, 8)) rfl rfl rfl rfl hl.1 rfl (Nat.le_of_ble_eq_true rfl) dL_law_311 ⟨Nat.le_of_ble_eq_true rfl, Nat.le_of_ble_eq_true rfl⟩ (fun H locs hP hD hS => ?_)
        refine lv_aload_n hx hb dL_law_314 rfl (lv_at hl 2 rfl) ?_
        refine lv_aload_n hx hb dL_law_315 rfl (lv_at hl 0 rfl) ?_
        refine lv_iload_n hx hb dL_law_316 rfl (lv_at hl 3 rfl) ?_
        refine lv_iconst (v := 1) hx hb dL_law_317 (by decide) ?_
        refine lv_iadd hx hb dL_law_318 ?_
        refine va_sld hx hb hX hbl hbA hS i1 dL_law_319 ?_
        refine lv_aload_n hx hb dL_law_320 rfl (lv_at hl 0 rfl) ?_
        refine lv_iload_n hx hb dL_law_321 rfl (lv_at hl 3 rfl) ?_
        refine lv_iconst (v := 2) hx hb dL_law_322 (by decide) ?_
        refine lv_iadd hx hb dL_law_323 ?_
        refine va_sld hx hb hX hbl hbA hS i2 dL_law_324 ?_
        refine xcVi (w' := (w_X ad cI cC cS q.2.1 q.2.2 X.2.2.1 X.2.2.2.1 X.2.2.2.2.1 X.2.2.2.2.2.1 X.2.2.2.2.2.2.1 X.2.2.2.2.2.2.2 ++ w_M am cI cC qm.2.1 qm.2.2.1 qm.2.2.2 M.2.2.2.1 M.2.2.2.2.1 M.2.2.2.2.2.1 M.2.2.2.2.2.2.1 M.2.2.2.2.2.2.2.1 M.2.2.2.2.2.2.2.2.1 M.2.2.2.2.2.2.2.2.2.1 M.2.2.2.2.2.2.2.2.2.2.1 M.2.2.2.2.2.2.2.2.2.2.2.1 M.2.2.2.2.2.2.2.2.2.2.2.2.1 M.2.2.2.2.2.2.2.2.2.2.2.2.2.1 M.2.2.2.2.2.2.2.2.2.2.2.2.2.2.1 M.2.2.2.2.2.2.2.2.2.2.2.2.2.2.2.1 M.2.2.2.2.2.2.2.2.2.2.2.2.2.2.2.2.1 M.2.2.2.2.2.2.2.2.2.2.2.2.2.2.2.2.2.1 M.2.2.2.2.2.2.2.2.2.2.2.2.2.2.2.2.2.2)) S hK hN hA hP hD hS (c_X7_removeArrow l D cI cC cS (w_X ad cI cC cS q.2.1 q.2.2 X.2.2.1 X.2.2.2.1 X.2.2.2.2.1 X.2.2.2.2.2.1 X.2.2.2.2.2.2.1 X.2.2.2.2.2.2.2) am M.1 M.2.1 M.2.2.1 M.2.2.2.1 M.2.2.2.2.1 M.2.2.2.2.2.1 M.2.2.2.2.2.2.1 M.2.2.2.2.2.2.2.1 M.2.2.2.2.2.2.2.2.1 M.2.2.2.2.2.2.2.2.2.1 M.2.2.2.2.2.2.2.2.2.2.1 M.2.2.2.2.2.2.2.2.2.2.2.1 M.2.2.2.2.2.2.2.2.2.2.2.2.1 M.2.2.2.2.2.2.2.2.2.2.2.2.2.1 M.2.2.2.2.2.2.2.2.2.2.2.2.2.2.1 M.2.2.2.2.2.2.2.2.2.2.2.2.2.2.2.1 M.2.2.2.2.2.2.2.2.2.2.2.2.2.2.2.2.1 M.2.2.2.2.2.2.2.2.2.2.2.2.2.2.2.2.2.1 M.2.2.2.2.2.2.2.2.2.2.2.2.2.2.2.2.2.2 (xs (x3 + 1).toNatClampNeg) (xs (x3 + 2).toNatClampNeg) n _ hqm) gL_law_X7_removeArrow rfl hd_X7_removeArrow ⟨by decide, by decide⟩ List.perm_append_comm List.perm_append_comm (ci := 7) (q := (RX7, TX7, 19)) rfl rfl rfl rfl hl.1 rfl (Nat.le_of_ble_eq_true rfl) dL_law_325 ⟨Nat.le_of_ble_eq_true rfl, Nat.le_of_ble_eq_true rfl⟩ (fun H locs hP hD hS => ?_)
        refine lv_icmp_eq (tgt := 950) hx hb dL_law_328 (by decide) (fun _ => ?_) (fun c2 => absurd hqr c2)
        exact J _ _ hrel1 H locs hP hD hS
      have e_4 : sw.toInt ≠ 4 := x_ne (k := 4) cs
      clear cs
      by_cases cs : sw = 5
      · subst cs
        refine lv_tableIn (tgt := 333) hx hb dL_law_32 (by decide) (by decide) rfl (by decide) ?_
        refine lv_aload_n hx hb dL_law_333 rfl (lv_at hl 1 rfl) ?_
        obtain ⟨q, qm, hq, hqm, hqr, hrel1⟩ := h_readArrows X M hrel
        refine xcVi (w' := (w_X ad cI cC cS q.2.1 q.2.2.1 X.2.2.1 X.2.2.2.1 X.2.2.2.2.1 q.2.2.2 X.2.2.2.2.2.2.1 X.2.2.2.2.2.2.2 ++ wMS am cI cC M)) S hK hN hA hP hD hS (c_X6_readArrows l D cI cC cS (wMS am cI cC M) ad X.1 X.2.1 X.2.2.1 X.2.2.2.1 X.2.2.2.2.1 X.2.2.2.2.2.1 X.2.2.2.2.2.2.1 X.2.2.2.2.2.2.2 n _ hq) gL_law_X6_readArrows rfl hd_X6_readArrows ⟨by decide, by decide⟩ (List.Perm.refl _) (List.Perm.refl _) (ci := 6) (q := (RX6, TX6, 8)) rfl rfl rfl rfl hl.1 rfl (Nat.le_of_ble_eq_true rfl) dL_law_334 ⟨Nat.le_of_ble_eq_true rfl, Nat.le_of_ble_eq_true rfl⟩ (fun H locs hP hD hS => ?_)
        refine lv_aload_n hx hb dL_law_337 rfl (lv_at hl 2 rfl) ?_
        refine xcVi (w' := (w_X ad cI cC cS q.2.1 q.2.2.1 X.2.2.1 X.2.2.2.1 X.2.2.2.2.1 q.2.2.2 X.2.2.2.2.2.2.1 X.2.2.2.2.2.2.2 ++ w_M am cI cC qm.2.1 qm.2.2.1 qm.2.2.2.1 M.2.2.2.1 M.2.2.2.2.1 M.2.2.2.2.2.1 M.2.2.2.2.2.2.1 M.2.2.2.2.2.2.2.1 M.2.2.2.2.2.2.2.2.1 M.2.2.2.2.2.2.2.2.2.1 M.2.2.2.2.2.2.2.2.2.2.1 M.2.2.2.2.2.2.2.2.2.2.2.1 qm.2.2.2.2.1 qm.2.2.2.2.2.1 qm.2.2.2.2.2.2.1 qm.2.2.2.2.2.2.2 M.2.2.2.2.2.2.2.2.2.2.2.2.2.2.2.2.1 M.2.2.2.2.2.2.2.2.2.2.2.2.2.2.2.2.2.1 M.2.2.2.2.2.2.2.2.2.2.2.2.2.2.2.2.2.2)) S hK hN hA hP hD hS (c_X7_readArrows l D cI cC cS (w_X ad cI cC cS q.2.1 q.2.2.1 X.2.2.1 X.2.2.2.1 X.2.2.2.2.1 q.2.2.2 X.2.2.2.2.2.2.1 X.2.2.2.2.2.2.2) am M.1 M.2.1 M.2.2.1 M.2.2.2.1 M.2.2.2.2.1 M.2.2.2.2.2.1 M.2.2.2.2.2.2.1 M.2.2.2.2.2.2.2.1 M.2.2.2.2.2.2.2.2.1 M.2.2.2.2.2.2.2.2.2.1 M.2.2.2.2.2.2.2.2.2.2.1 M.2.2.2.2.2.2.2.2.2.2.2.1 M.2.2.2.2.2.2.2.2.2.2.2.2.1 M.2.2.2.2.2.2.2.2.2.2.2.2.2.1 M.2.2.2.2.2.2.2.2.2.2.2.2.2.2.1 M.2.2.2.2.2.2.2.2.2.2.2.2.2.2.2.1 M.2.2.2.2.2.2.2.2.2.2.2.2.2.2.2.2.1 M.2.2.2.2.2.2.2.2.2.2.2.2.2.2.2.2.2.1 M.2.2.2.2.2.2.2.2.2.2.2.2.2.2.2.2.2.2 n _ hqm) gL_law_X7_readArrows rfl hd_X7_readArrows ⟨by decide, by decide⟩ List.perm_append_comm List.perm_append_comm (ci := 7) (q := (RX7, TX7, 19)) rfl rfl rfl rfl hl.1 rfl (Nat.le_of_ble_eq_true rfl) dL_law_338 ⟨Nat.le_of_ble_eq_true rfl, Nat.le_of_ble_eq_true rfl⟩ (fun H locs hP hD hS => ?_)
        refine lv_icmp_eq (tgt := 950) hx hb dL_law_341 (by decide) (fun _ => ?_) (fun c2 => absurd hqr c2)
        exact J _ _ hrel1 H locs hP hD hS
      have e_5 : sw.toInt ≠ 5 := x_ne (k := 5) cs
      clear cs
      by_cases cs : sw = 6
      · subst cs
        refine lv_tableIn (tgt := 346) hx hb dL_law_32 (by decide) (by decide) rfl (by decide) ?_
        refine lv_aload_n hx hb dL_law_346 rfl (lv_at hl 1 rfl) ?_
        obtain ⟨q, qm, hq, hqm, hqr, hrel1⟩ := h_turnOver X M hrel
        refine xcVi (w' := (w_X ad cI cC cS q.2.1 q.2.2.1 X.2.2.1 X.2.2.2.1 X.2.2.2.2.1 q.2.2.2.1 q.2.2.2.2 X.2.2.2.2.2.2.2 ++ wMS am cI cC M)) S hK hN hA hP hD hS (c_X6_turnOver l D cI cC cS (wMS am cI cC M) ad X.1 X.2.1 X.2.2.1 X.2.2.2.1 X.2.2.2.2.1 X.2.2.2.2.2.1 X.2.2.2.2.2.2.1 X.2.2.2.2.2.2.2 n _ hq) gL_law_X6_turnOver rfl hd_X6_turnOver ⟨by decide, by decide⟩ (List.Perm.refl _) (List.Perm.refl _) (ci := 6) (q := (RX6, TX6, 8)) rfl rfl rfl rfl hl.1 rfl (Nat.le_of_ble_eq_true rfl) dL_law_347 ⟨Nat.le_of_ble_eq_true rfl, Nat.le_of_ble_eq_true rfl⟩ (fun H locs hP hD hS => ?_)
        refine lv_aload_n hx hb dL_law_350 rfl (lv_at hl 2 rfl) ?_
        refine xcVi (w' := (w_X ad cI cC cS q.2.1 q.2.2.1 X.2.2.1 X.2.2.2.1 X.2.2.2.2.1 q.2.2.2.1 q.2.2.2.2 X.2.2.2.2.2.2.2 ++ w_M am cI cC qm.2.1 qm.2.2.1 qm.2.2.2.1 M.2.2.2.1 M.2.2.2.2.1 qm.2.2.2.2.1 qm.2.2.2.2.2.1 qm.2.2.2.2.2.2.1 qm.2.2.2.2.2.2.2.1 qm.2.2.2.2.2.2.2.2 M.2.2.2.2.2.2.2.2.2.2.1 M.2.2.2.2.2.2.2.2.2.2.2.1 M.2.2.2.2.2.2.2.2.2.2.2.2.1 M.2.2.2.2.2.2.2.2.2.2.2.2.2.1 M.2.2.2.2.2.2.2.2.2.2.2.2.2.2.1 M.2.2.2.2.2.2.2.2.2.2.2.2.2.2.2.1 M.2.2.2.2.2.2.2.2.2.2.2.2.2.2.2.2.1 M.2.2.2.2.2.2.2.2.2.2.2.2.2.2.2.2.2.1 M.2.2.2.2.2.2.2.2.2.2.2.2.2.2.2.2.2.2)) S hK hN hA hP hD hS (c_X7_turnOver l D cI cC cS (w_X ad cI cC cS q.2.1 q.2.2.1 X.2.2.1 X.2.2.2.1 X.2.2.2.2.1 q.2.2.2.1 q.2.2.2.2 X.2.2.2.2.2.2.2) am M.1 M.2.1 M.2.2.1 M.2.2.2.1 M.2.2.2.2.1 M.2.2.2.2.2.1 M.2.2.2.2.2.2.1 M.2.2.2.2.2.2.2.1 M.2.2.2.2.2.2.2.2.1 M.2.2.2.2.2.2.2.2.2.1 M.2.2.2.2.2.2.2.2.2.2.1 M.2.2.2.2.2.2.2.2.2.2.2.1 M.2.2.2.2.2.2.2.2.2.2.2.2.1 M.2.2.2.2.2.2.2.2.2.2.2.2.2.1 M.2.2.2.2.2.2.2.2.2.2.2.2.2.2.1 M.2.2.2.2.2.2.2.2.2.2.2.2.2.2.2.1 M.2.2.2.2.2.2.2.2.2.2.2.2.2.2.2.2.1 M.2.2.2.2.2.2.2.2.2.2.2.2.2.2.2.2.2.1 M.2.2.2.2.2.2.2.2.2.2.2.2.2.2.2.2.2.2 n _ hqm) gL_law_X7_turnOver rfl hd_X7_turnOver ⟨by decide, by decide⟩ List.perm_append_comm List.perm_append_comm (ci := 7) (q := (RX7, TX7, 19)) rfl rfl rfl rfl hl.1 rfl (Nat.le_of_ble_eq_true rfl) dL_law_351 ⟨Nat.le_of_ble_eq_true rfl, Nat.le_of_ble_eq_true rfl⟩ (fun H locs hP hD hS => ?_)
        refine lv_icmp_eq (tgt := 950) hx hb dL_law_354 (by decide) (fun _ => ?_) (fun c2 => absurd hqr c2)
        exact J _ _ hrel1 H locs hP hD hS
      have e_6 : sw.toInt ≠ 6 := x_ne (k := 6) cs
      clear cs
      by_cases cs : sw = 7
      · subst cs
        refine lv_tableIn (tgt := 359) hx hb dL_law_32 (by decide) (by decide) rfl (by decide) ?_
        refine lv_aload_n hx hb dL_law_359 rfl (lv_at hl 1 rfl) ?_
        refine lv_aload_n hx hb dL_law_360 rfl (lv_at hl 0 rfl) ?_
        refine lv_iload_n hx hb dL_law_361 rfl (lv_at hl 3 rfl) ?_
        refine lv_iconst (v := 1) hx hb dL_law_362 (by decide) ?_
        refine lv_iadd hx hb dL_law_363 ?_
        refine va_sld hx hb hX hbl hbA hS i1 dL_law_364 ?_
        refine lv_aload_n hx hb dL_law_365 rfl (lv_at hl 0 rfl) ?_
        refine lv_iload_n hx hb dL_law_366 rfl (lv_at hl 3 rfl) ?_
        refine lv_iconst (v := 2) hx hb dL_law_367 (by decide) ?_
        refine lv_iadd hx hb dL_law_368 ?_
        refine va_sld hx hb hX hbl hbA hS i2 dL_law_369 ?_
        obtain ⟨q, qm, hq, hqm, hqr, hrel1⟩ := h_choose X M (xs (x3 + 1).toNatClampNeg) (xs (x3 + 2).toNatClampNeg) hrel
        refine xcVi (w' := (w_X ad cI cC cS q.2.1 q.2.2 X.2.2.1 X.2.2.2.1 X.2.2.2.2.1 X.2.2.2.2.2.1 X.2.2.2.2.2.2.1 X.2.2.2.2.2.2.2 ++ wMS am cI cC M)) S hK hN hA hP hD hS (c_X6_choose l D cI cC cS (wMS am cI cC M) ad X.1 X.2.1 X.2.2.1 X.2.2.2.1 X.2.2.2.2.1 X.2.2.2.2.2.1 X.2.2.2.2.2.2.1 X.2.2.2.2.2.2.2 (xs (x3 + 1).toNatClampNeg) (xs (x3 + 2).toNatClampNeg) _ hq) gL_law_X6_choose rfl hd_X6_choose ⟨by decide, by decide⟩ (List.Perm.refl _) (List.Perm.refl _) (ci := 6) (q := (RX6, TX6, 8)) rfl rfl rfl rfl hl.1 rfl (Nat.le_of_ble_eq_true rfl) dL_law_370 ⟨Nat.le_of_ble_eq_true rfl, Nat.le_of_ble_eq_true rfl⟩ (fun H locs hP hD hS => ?_)
        refine lv_aload_n hx hb dL_law_373 rfl (lv_at hl 2 rfl) ?_
        refine lv_aload_n hx hb dL_law_374 rfl (lv_at hl 0 rfl) ?_
        refine lv_iload_n hx hb dL_law_375 rfl (lv_at hl 3 rfl) ?_
        refine lv_iconst (v := 1) hx hb dL_law_376 (by decide) ?_
        refine lv_iadd hx hb dL_law_377 ?_
        refine va_sld hx hb hX hbl hbA hS i1 dL_law_378 ?_
        refine lv_aload_n hx hb dL_law_379 rfl (lv_at hl 0 rfl) ?_
        refine lv_iload_n hx hb dL_law_380 rfl (lv_at hl 3 rfl) ?_
        refine lv_iconst (v := 2) hx hb dL_law_381 (by decide) ?_
        refine lv_iadd hx hb dL_law_382 ?_
        refine va_sld hx hb hX hbl hbA hS i2 dL_law_383 ?_
        refine xcVi (w' := (w_X ad cI cC cS q.2.1 q.2.2 X.2.2.1 X.2.2.2.1 X.2.2.2.2.1 X.2.2.2.2.2.1 X.2.2.2.2.2.2.1 X.2.2.2.2.2.2.2 ++ w_M am cI cC qm.2.1 qm.2.2.1 qm.2.2.2 M.2.2.2.1 M.2.2.2.2.1 M.2.2.2.2.2.1 M.2.2.2.2.2.2.1 M.2.2.2.2.2.2.2.1 M.2.2.2.2.2.2.2.2.1 M.2.2.2.2.2.2.2.2.2.1 M.2.2.2.2.2.2.2.2.2.2.1 M.2.2.2.2.2.2.2.2.2.2.2.1 M.2.2.2.2.2.2.2.2.2.2.2.2.1 M.2.2.2.2.2.2.2.2.2.2.2.2.2.1 M.2.2.2.2.2.2.2.2.2.2.2.2.2.2.1 M.2.2.2.2.2.2.2.2.2.2.2.2.2.2.2.1 M.2.2.2.2.2.2.2.2.2.2.2.2.2.2.2.2.1 M.2.2.2.2.2.2.2.2.2.2.2.2.2.2.2.2.2.1 M.2.2.2.2.2.2.2.2.2.2.2.2.2.2.2.2.2.2)) S hK hN hA hP hD hS (c_X7_choose l D cI cC cS (w_X ad cI cC cS q.2.1 q.2.2 X.2.2.1 X.2.2.2.1 X.2.2.2.2.1 X.2.2.2.2.2.1 X.2.2.2.2.2.2.1 X.2.2.2.2.2.2.2) am M.1 M.2.1 M.2.2.1 M.2.2.2.1 M.2.2.2.2.1 M.2.2.2.2.2.1 M.2.2.2.2.2.2.1 M.2.2.2.2.2.2.2.1 M.2.2.2.2.2.2.2.2.1 M.2.2.2.2.2.2.2.2.2.1 M.2.2.2.2.2.2.2.2.2.2.1 M.2.2.2.2.2.2.2.2.2.2.2.1 M.2.2.2.2.2.2.2.2.2.2.2.2.1 M.2.2.2.2.2.2.2.2.2.2.2.2.2.1 M.2.2.2.2.2.2.2.2.2.2.2.2.2.2.1 M.2.2.2.2.2.2.2.2.2.2.2.2.2.2.2.1 M.2.2.2.2.2.2.2.2.2.2.2.2.2.2.2.2.1 M.2.2.2.2.2.2.2.2.2.2.2.2.2.2.2.2.2.1 M.2.2.2.2.2.2.2.2.2.2.2.2.2.2.2.2.2.2 (xs (x3 + 1).toNatClampNeg) (xs (x3 + 2).toNatClampNeg) n _ hqm) gL_law_X7_choose rfl hd_X7_choose ⟨by decide, by decide⟩ List.perm_append_comm List.perm_append_comm (ci := 7) (q := (RX7, TX7, 19)) rfl rfl rfl rfl hl.1 rfl (Nat.le_of_ble_eq_true rfl) dL_law_384 ⟨Nat.le_of_ble_eq_true rfl, Nat.le_of_ble_eq_true rfl⟩ (fun H locs hP hD hS => ?_)
        refine lv_icmp_eq (tgt := 950) hx hb dL_law_387 (by decide) (fun _ => ?_) (fun c2 => absurd hqr c2)
        exact J _ _ hrel1 H locs hP hD hS
      have e_7 : sw.toInt ≠ 7 := x_ne (k := 7) cs
      clear cs
      by_cases cs : sw = 8
      · subst cs
        refine lv_tableIn (tgt := 392) hx hb dL_law_32 (by decide) (by decide) rfl (by decide) ?_
        refine lv_aload_n hx hb dL_law_392 rfl (lv_at hl 1 rfl) ?_
        refine lv_aload_n hx hb dL_law_393 rfl (lv_at hl 0 rfl) ?_
        refine lv_iload_n hx hb dL_law_394 rfl (lv_at hl 3 rfl) ?_
        refine lv_iconst (v := 1) hx hb dL_law_395 (by decide) ?_
        refine lv_iadd hx hb dL_law_396 ?_
        refine va_sld hx hb hX hbl hbA hS i1 dL_law_397 ?_
        obtain ⟨q, qm, hq, hqm, hqr, hrel1⟩ := h_chooseWell X M (xs (x3 + 1).toNatClampNeg) hrel
        refine xcVi (w' := (w_X ad cI cC cS q.2.1 q.2.2.1 X.2.2.1 X.2.2.2.1 X.2.2.2.2.1 q.2.2.2.1 q.2.2.2.2 X.2.2.2.2.2.2.2 ++ wMS am cI cC M)) S hK hN hA hP hD hS (c_X6_chooseWell l D cI cC cS (wMS am cI cC M) ad X.1 X.2.1 X.2.2.1 X.2.2.2.1 X.2.2.2.2.1 X.2.2.2.2.2.1 X.2.2.2.2.2.2.1 X.2.2.2.2.2.2.2 (xs (x3 + 1).toNatClampNeg) n _ hq) gL_law_X6_chooseWell rfl hd_X6_chooseWell ⟨by decide, by decide⟩ (List.Perm.refl _) (List.Perm.refl _) (ci := 6) (q := (RX6, TX6, 8)) rfl rfl rfl rfl hl.1 rfl (Nat.le_of_ble_eq_true rfl) dL_law_398 ⟨Nat.le_of_ble_eq_true rfl, Nat.le_of_ble_eq_true rfl⟩ (fun H locs hP hD hS => ?_)
        refine lv_aload_n hx hb dL_law_401 rfl (lv_at hl 2 rfl) ?_
        refine lv_aload_n hx hb dL_law_402 rfl (lv_at hl 0 rfl) ?_
        refine lv_iload_n hx hb dL_law_403 rfl (lv_at hl 3 rfl) ?_
        refine lv_iconst (v := 1) hx hb dL_law_404 (by decide) ?_
        refine lv_iadd hx hb dL_law_405 ?_
        refine va_sld hx hb hX hbl hbA hS i1 dL_law_406 ?_
        refine xcVi (w' := (w_X ad cI cC cS q.2.1 q.2.2.1 X.2.2.1 X.2.2.2.1 X.2.2.2.2.1 q.2.2.2.1 q.2.2.2.2 X.2.2.2.2.2.2.2 ++ w_M am cI cC qm.2.1 qm.2.2.1 qm.2.2.2.1 M.2.2.2.1 M.2.2.2.2.1 qm.2.2.2.2.1 qm.2.2.2.2.2.1 qm.2.2.2.2.2.2.1 qm.2.2.2.2.2.2.2.1 qm.2.2.2.2.2.2.2.2 M.2.2.2.2.2.2.2.2.2.2.1 M.2.2.2.2.2.2.2.2.2.2.2.1 M.2.2.2.2.2.2.2.2.2.2.2.2.1 M.2.2.2.2.2.2.2.2.2.2.2.2.2.1 M.2.2.2.2.2.2.2.2.2.2.2.2.2.2.1 M.2.2.2.2.2.2.2.2.2.2.2.2.2.2.2.1 M.2.2.2.2.2.2.2.2.2.2.2.2.2.2.2.2.1 M.2.2.2.2.2.2.2.2.2.2.2.2.2.2.2.2.2.1 M.2.2.2.2.2.2.2.2.2.2.2.2.2.2.2.2.2.2)) S hK hN hA hP hD hS (c_X7_chooseWell l D cI cC cS (w_X ad cI cC cS q.2.1 q.2.2.1 X.2.2.1 X.2.2.2.1 X.2.2.2.2.1 q.2.2.2.1 q.2.2.2.2 X.2.2.2.2.2.2.2) am M.1 M.2.1 M.2.2.1 M.2.2.2.1 M.2.2.2.2.1 M.2.2.2.2.2.1 M.2.2.2.2.2.2.1 M.2.2.2.2.2.2.2.1 M.2.2.2.2.2.2.2.2.1 M.2.2.2.2.2.2.2.2.2.1 M.2.2.2.2.2.2.2.2.2.2.1 M.2.2.2.2.2.2.2.2.2.2.2.1 M.2.2.2.2.2.2.2.2.2.2.2.2.1 M.2.2.2.2.2.2.2.2.2.2.2.2.2.1 M.2.2.2.2.2.2.2.2.2.2.2.2.2.2.1 M.2.2.2.2.2.2.2.2.2.2.2.2.2.2.2.1 M.2.2.2.2.2.2.2.2.2.2.2.2.2.2.2.2.1 M.2.2.2.2.2.2.2.2.2.2.2.2.2.2.2.2.2.1 M.2.2.2.2.2.2.2.2.2.2.2.2.2.2.2.2.2.2 (xs (x3 + 1).toNatClampNeg) n _ hqm) gL_law_X7_chooseWell rfl hd_X7_chooseWell ⟨by decide, by decide⟩ List.perm_append_comm List.perm_append_comm (ci := 7) (q := (RX7, TX7, 19)) rfl rfl rfl rfl hl.1 rfl (Nat.le_of_ble_eq_true rfl) dL_law_407 ⟨Nat.le_of_ble_eq_true rfl, Nat.le_of_ble_eq_true rfl⟩ (fun H locs hP hD hS => ?_)
        refine lv_icmp_eq (tgt := 950) hx hb dL_law_410 (by decide) (fun _ => ?_) (fun c2 => absurd hqr c2)
        exact J _ _ hrel1 H locs hP hD hS
      have e_8 : sw.toInt ≠ 8 := x_ne (k := 8) cs
      clear cs
      by_cases cs : sw = 9
      · subst cs
        refine lv_tableIn (tgt := 415) hx hb dL_law_32 (by decide) (by decide) rfl (by decide) ?_
        refine lv_aload_n hx hb dL_law_415 rfl (lv_at hl 1 rfl) ?_
        refine lv_aload_n hx hb dL_law_416 rfl (lv_at hl 0 rfl) ?_
        refine lv_iload_n hx hb dL_law_417 rfl (lv_at hl 3 rfl) ?_
        refine lv_iconst (v := 1) hx hb dL_law_418 (by decide) ?_
        refine lv_iadd hx hb dL_law_419 ?_
        refine va_sld hx hb hX hbl hbA hS i1 dL_law_420 ?_
        obtain ⟨q, qm, hq, hqm, hqr, hrel1⟩ := h_start X M (xs (x3 + 1).toNatClampNeg) hrel
        refine xcVi (w' := (w_X ad cI cC cS q.2.1 q.2.2.1 X.2.2.1 X.2.2.2.1 X.2.2.2.2.1 q.2.2.2.1 q.2.2.2.2 X.2.2.2.2.2.2.2 ++ wMS am cI cC M)) S hK hN hA hP hD hS (c_X6_start l D cI cC cS (wMS am cI cC M) ad X.1 X.2.1 X.2.2.1 X.2.2.2.1 X.2.2.2.2.1 X.2.2.2.2.2.1 X.2.2.2.2.2.2.1 X.2.2.2.2.2.2.2 (xs (x3 + 1).toNatClampNeg) n _ hq) gL_law_X6_start rfl hd_X6_start ⟨by decide, by decide⟩ (List.Perm.refl _) (List.Perm.refl _) (ci := 6) (q := (RX6, TX6, 8)) rfl rfl rfl rfl hl.1 rfl (Nat.le_of_ble_eq_true rfl) dL_law_421 ⟨Nat.le_of_ble_eq_true rfl, Nat.le_of_ble_eq_true rfl⟩ (fun H locs hP hD hS => ?_)
        refine lv_aload_n hx hb dL_law_424 rfl (lv_at hl 2 rfl) ?_
        refine lv_aload_n hx hb dL_law_425 rfl (lv_at hl 0 rfl) ?_
        refine lv_iload_n hx hb dL_law_426 rfl (lv_at hl 3 rfl) ?_
        refine lv_iconst (v := 1) hx hb dL_law_427 (by decide) ?_
        refine lv_iadd hx hb dL_law_428 ?_
        refine va_sld hx hb hX hbl hbA hS i1 dL_law_429 ?_
        refine xcVi (w' := (w_X ad cI cC cS q.2.1 q.2.2.1 X.2.2.1 X.2.2.2.1 X.2.2.2.2.1 q.2.2.2.1 q.2.2.2.2 X.2.2.2.2.2.2.2 ++ w_M am cI cC qm.2.1 qm.2.2.1 qm.2.2.2.1 M.2.2.2.1 M.2.2.2.2.1 qm.2.2.2.2.1 qm.2.2.2.2.2.1 qm.2.2.2.2.2.2.1 qm.2.2.2.2.2.2.2.1 qm.2.2.2.2.2.2.2.2 M.2.2.2.2.2.2.2.2.2.2.1 M.2.2.2.2.2.2.2.2.2.2.2.1 M.2.2.2.2.2.2.2.2.2.2.2.2.1 M.2.2.2.2.2.2.2.2.2.2.2.2.2.1 M.2.2.2.2.2.2.2.2.2.2.2.2.2.2.1 M.2.2.2.2.2.2.2.2.2.2.2.2.2.2.2.1 M.2.2.2.2.2.2.2.2.2.2.2.2.2.2.2.2.1 M.2.2.2.2.2.2.2.2.2.2.2.2.2.2.2.2.2.1 M.2.2.2.2.2.2.2.2.2.2.2.2.2.2.2.2.2.2)) S hK hN hA hP hD hS (c_X7_start l D cI cC cS (w_X ad cI cC cS q.2.1 q.2.2.1 X.2.2.1 X.2.2.2.1 X.2.2.2.2.1 q.2.2.2.1 q.2.2.2.2 X.2.2.2.2.2.2.2) am M.1 M.2.1 M.2.2.1 M.2.2.2.1 M.2.2.2.2.1 M.2.2.2.2.2.1 M.2.2.2.2.2.2.1 M.2.2.2.2.2.2.2.1 M.2.2.2.2.2.2.2.2.1 M.2.2.2.2.2.2.2.2.2.1 M.2.2.2.2.2.2.2.2.2.2.1 M.2.2.2.2.2.2.2.2.2.2.2.1 M.2.2.2.2.2.2.2.2.2.2.2.2.1 M.2.2.2.2.2.2.2.2.2.2.2.2.2.1 M.2.2.2.2.2.2.2.2.2.2.2.2.2.2.1 M.2.2.2.2.2.2.2.2.2.2.2.2.2.2.2.1 M.2.2.2.2.2.2.2.2.2.2.2.2.2.2.2.2.1 M.2.2.2.2.2.2.2.2.2.2.2.2.2.2.2.2.2.1 M.2.2.2.2.2.2.2.2.2.2.2.2.2.2.2.2.2.2 (xs (x3 + 1).toNatClampNeg) n _ hqm) gL_law_X7_start rfl hd_X7_start ⟨by decide, by decide⟩ List.perm_append_comm List.perm_append_comm (ci := 7) (q := (RX7, TX7, 19)) rfl rfl rfl rfl hl.1 rfl (Nat.le_of_ble_eq_true rfl) dL_law_430 ⟨Nat.le_of_ble_eq_true rfl, Nat.le_of_ble_eq_true rfl⟩ (fun H locs hP hD hS => ?_)
        refine lv_icmp_eq (tgt := 950) hx hb dL_law_433 (by decide) (fun _ => ?_) (fun c2 => absurd hqr c2)
        exact J _ _ hrel1 H locs hP hD hS
      have e_9 : sw.toInt ≠ 9 := x_ne (k := 9) cs
      clear cs
      by_cases cs : sw = 10
      · subst cs
        refine lv_tableIn (tgt := 438) hx hb dL_law_32 (by decide) (by decide) rfl (by decide) ?_
        refine lv_aload_n hx hb dL_law_438 rfl (lv_at hl 1 rfl) ?_
        refine lv_aload_n hx hb dL_law_439 rfl (lv_at hl 0 rfl) ?_
        refine lv_iload_n hx hb dL_law_440 rfl (lv_at hl 3 rfl) ?_
        refine lv_iconst (v := 1) hx hb dL_law_441 (by decide) ?_
        refine lv_iadd hx hb dL_law_442 ?_
        refine va_sld hx hb hX hbl hbA hS i1 dL_law_443 ?_
        obtain ⟨q, qm, hq, hqm, hqr, hrel1⟩ := h_step X M (xs (x3 + 1).toNatClampNeg) hrel
        refine xcVi (w' := (w_X ad cI cC cS q.2.1 q.2.2.1 X.2.2.1 X.2.2.2.1 X.2.2.2.2.1 q.2.2.2.1 q.2.2.2.2.1 q.2.2.2.2.2 ++ wMS am cI cC M)) S hK hN hA hP hD hS (c_X6_step l D cI cC cS (wMS am cI cC M) ad X.1 X.2.1 X.2.2.1 X.2.2.2.1 X.2.2.2.2.1 X.2.2.2.2.2.1 X.2.2.2.2.2.2.1 X.2.2.2.2.2.2.2 (xs (x3 + 1).toNatClampNeg) n _ hq) gL_law_X6_step rfl hd_X6_step ⟨by decide, by decide⟩ (List.Perm.refl _) (List.Perm.refl _) (ci := 6) (q := (RX6, TX6, 8)) rfl rfl rfl rfl hl.1 rfl (Nat.le_of_ble_eq_true rfl) dL_law_444 ⟨Nat.le_of_ble_eq_true rfl, Nat.le_of_ble_eq_true rfl⟩ (fun H locs hP hD hS => ?_)
        refine lv_aload_n hx hb dL_law_447 rfl (lv_at hl 2 rfl) ?_
        refine lv_aload_n hx hb dL_law_448 rfl (lv_at hl 0 rfl) ?_
        refine lv_iload_n hx hb dL_law_449 rfl (lv_at hl 3 rfl) ?_
        refine lv_iconst (v := 1) hx hb dL_law_450 (by decide) ?_
        refine lv_iadd hx hb dL_law_451 ?_
        refine va_sld hx hb hX hbl hbA hS i1 dL_law_452 ?_
        refine xcVi (w' := (w_X ad cI cC cS q.2.1 q.2.2.1 X.2.2.1 X.2.2.2.1 X.2.2.2.2.1 q.2.2.2.1 q.2.2.2.2.1 q.2.2.2.2.2 ++ w_M am cI cC qm.2.1 qm.2.2.1 qm.2.2.2.1 M.2.2.2.1 M.2.2.2.2.1 qm.2.2.2.2.1 qm.2.2.2.2.2.1 qm.2.2.2.2.2.2.1 qm.2.2.2.2.2.2.2.1 qm.2.2.2.2.2.2.2.2 M.2.2.2.2.2.2.2.2.2.2.1 M.2.2.2.2.2.2.2.2.2.2.2.1 M.2.2.2.2.2.2.2.2.2.2.2.2.1 M.2.2.2.2.2.2.2.2.2.2.2.2.2.1 M.2.2.2.2.2.2.2.2.2.2.2.2.2.2.1 M.2.2.2.2.2.2.2.2.2.2.2.2.2.2.2.1 M.2.2.2.2.2.2.2.2.2.2.2.2.2.2.2.2.1 M.2.2.2.2.2.2.2.2.2.2.2.2.2.2.2.2.2.1 M.2.2.2.2.2.2.2.2.2.2.2.2.2.2.2.2.2.2)) S hK hN hA hP hD hS (c_X7_step l D cI cC cS (w_X ad cI cC cS q.2.1 q.2.2.1 X.2.2.1 X.2.2.2.1 X.2.2.2.2.1 q.2.2.2.1 q.2.2.2.2.1 q.2.2.2.2.2) am M.1 M.2.1 M.2.2.1 M.2.2.2.1 M.2.2.2.2.1 M.2.2.2.2.2.1 M.2.2.2.2.2.2.1 M.2.2.2.2.2.2.2.1 M.2.2.2.2.2.2.2.2.1 M.2.2.2.2.2.2.2.2.2.1 M.2.2.2.2.2.2.2.2.2.2.1 M.2.2.2.2.2.2.2.2.2.2.2.1 M.2.2.2.2.2.2.2.2.2.2.2.2.1 M.2.2.2.2.2.2.2.2.2.2.2.2.2.1 M.2.2.2.2.2.2.2.2.2.2.2.2.2.2.1 M.2.2.2.2.2.2.2.2.2.2.2.2.2.2.2.1 M.2.2.2.2.2.2.2.2.2.2.2.2.2.2.2.2.1 M.2.2.2.2.2.2.2.2.2.2.2.2.2.2.2.2.2.1 M.2.2.2.2.2.2.2.2.2.2.2.2.2.2.2.2.2.2 (xs (x3 + 1).toNatClampNeg) n _ hqm) gL_law_X7_step rfl hd_X7_step ⟨by decide, by decide⟩ List.perm_append_comm List.perm_append_comm (ci := 7) (q := (RX7, TX7, 19)) rfl rfl rfl rfl hl.1 rfl (Nat.le_of_ble_eq_true rfl) dL_law_453 ⟨Nat.le_of_ble_eq_true rfl, Nat.le_of_ble_eq_true rfl⟩ (fun H locs hP hD hS => ?_)
        refine lv_icmp_eq (tgt := 950) hx hb dL_law_456 (by decide) (fun _ => ?_) (fun c2 => absurd hqr c2)
        exact J _ _ hrel1 H locs hP hD hS
      have e_10 : sw.toInt ≠ 10 := x_ne (k := 10) cs
      clear cs
      by_cases cs : sw = 11
      · subst cs
        refine lv_tableIn (tgt := 461) hx hb dL_law_32 (by decide) (by decide) rfl (by decide) ?_
        refine lv_aload_n hx hb dL_law_461 rfl (lv_at hl 1 rfl) ?_
        refine lv_aload_n hx hb dL_law_462 rfl (lv_at hl 0 rfl) ?_
        refine lv_iload_n hx hb dL_law_463 rfl (lv_at hl 3 rfl) ?_
        refine lv_iconst (v := 1) hx hb dL_law_464 (by decide) ?_
        refine lv_iadd hx hb dL_law_465 ?_
        refine va_sld hx hb hX hbl hbA hS i1 dL_law_466 ?_
        refine lv_i2c hx hb dL_law_467 rfl ?_
        obtain ⟨q, qm, hq, hqm, hqr, hrel1⟩ := h_type X M (j2c (xs (x3 + 1).toNatClampNeg)) hrel
        refine xcVi (w' := (w_X ad cI cC cS X.1 X.2.1 X.2.2.1 X.2.2.2.1 q.2 X.2.2.2.2.2.1 X.2.2.2.2.2.2.1 X.2.2.2.2.2.2.2 ++ wMS am cI cC M)) S hK hN hA hP hD hS (c_X6_type l D cI cC cS (wMS am cI cC M) ad X.1 X.2.1 X.2.2.1 X.2.2.2.1 X.2.2.2.2.1 X.2.2.2.2.2.1 X.2.2.2.2.2.2.1 X.2.2.2.2.2.2.2 (j2c (xs (x3 + 1).toNatClampNeg)) _ hq) gL_law_X6_type rfl hd_X6_type ⟨by decide, by decide⟩ (List.Perm.refl _) (List.Perm.refl _) (ci := 6) (q := (RX6, TX6, 8)) rfl rfl rfl rfl hl.1 rfl (Nat.le_of_ble_eq_true rfl) dL_law_468 ⟨Nat.le_of_ble_eq_true rfl, Nat.le_of_ble_eq_true rfl⟩ (fun H locs hP hD hS => ?_)
        refine lv_aload_n hx hb dL_law_471 rfl (lv_at hl 2 rfl) ?_
        refine lv_aload_n hx hb dL_law_472 rfl (lv_at hl 0 rfl) ?_
        refine lv_iload_n hx hb dL_law_473 rfl (lv_at hl 3 rfl) ?_
        refine lv_iconst (v := 1) hx hb dL_law_474 (by decide) ?_
        refine lv_iadd hx hb dL_law_475 ?_
        refine va_sld hx hb hX hbl hbA hS i1 dL_law_476 ?_
        refine lv_i2c hx hb dL_law_477 rfl ?_
        refine xcVi (w' := (w_X ad cI cC cS X.1 X.2.1 X.2.2.1 X.2.2.2.1 q.2 X.2.2.2.2.2.1 X.2.2.2.2.2.2.1 X.2.2.2.2.2.2.2 ++ w_M am cI cC M.1 M.2.1 M.2.2.1 M.2.2.2.1 M.2.2.2.2.1 M.2.2.2.2.2.1 M.2.2.2.2.2.2.1 M.2.2.2.2.2.2.2.1 M.2.2.2.2.2.2.2.2.1 M.2.2.2.2.2.2.2.2.2.1 qm.2.1 qm.2.2 M.2.2.2.2.2.2.2.2.2.2.2.2.1 M.2.2.2.2.2.2.2.2.2.2.2.2.2.1 M.2.2.2.2.2.2.2.2.2.2.2.2.2.2.1 M.2.2.2.2.2.2.2.2.2.2.2.2.2.2.2.1 M.2.2.2.2.2.2.2.2.2.2.2.2.2.2.2.2.1 M.2.2.2.2.2.2.2.2.2.2.2.2.2.2.2.2.2.1 M.2.2.2.2.2.2.2.2.2.2.2.2.2.2.2.2.2.2)) S hK hN hA hP hD hS (c_X7_type l D cI cC cS (w_X ad cI cC cS X.1 X.2.1 X.2.2.1 X.2.2.2.1 q.2 X.2.2.2.2.2.1 X.2.2.2.2.2.2.1 X.2.2.2.2.2.2.2) am M.1 M.2.1 M.2.2.1 M.2.2.2.1 M.2.2.2.2.1 M.2.2.2.2.2.1 M.2.2.2.2.2.2.1 M.2.2.2.2.2.2.2.1 M.2.2.2.2.2.2.2.2.1 M.2.2.2.2.2.2.2.2.2.1 M.2.2.2.2.2.2.2.2.2.2.1 M.2.2.2.2.2.2.2.2.2.2.2.1 M.2.2.2.2.2.2.2.2.2.2.2.2.1 M.2.2.2.2.2.2.2.2.2.2.2.2.2.1 M.2.2.2.2.2.2.2.2.2.2.2.2.2.2.1 M.2.2.2.2.2.2.2.2.2.2.2.2.2.2.2.1 M.2.2.2.2.2.2.2.2.2.2.2.2.2.2.2.2.1 M.2.2.2.2.2.2.2.2.2.2.2.2.2.2.2.2.2.1 M.2.2.2.2.2.2.2.2.2.2.2.2.2.2.2.2.2.2 (j2c (xs (x3 + 1).toNatClampNeg)) _ hqm) gL_law_X7_type rfl hd_X7_type ⟨by decide, by decide⟩ List.perm_append_comm List.perm_append_comm (ci := 7) (q := (RX7, TX7, 19)) rfl rfl rfl rfl hl.1 rfl (Nat.le_of_ble_eq_true rfl) dL_law_478 ⟨Nat.le_of_ble_eq_true rfl, Nat.le_of_ble_eq_true rfl⟩ (fun H locs hP hD hS => ?_)
        refine lv_icmp_eq (tgt := 950) hx hb dL_law_481 (by decide) (fun _ => ?_) (fun c2 => absurd hqr c2)
        exact J _ _ hrel1 H locs hP hD hS
      have e_11 : sw.toInt ≠ 11 := x_ne (k := 11) cs
      clear cs
      by_cases cs : sw = 12
      · subst cs
        refine lv_tableIn (tgt := 486) hx hb dL_law_32 (by decide) (by decide) rfl (by decide) ?_
        refine lv_aload_n hx hb dL_law_486 rfl (lv_at hl 1 rfl) ?_
        obtain ⟨q, qm, hq, hqm, hqr, hrel1⟩ := h_clearText X M hrel
        refine xcVi (w' := (w_X ad cI cC cS X.1 X.2.1 X.2.2.1 X.2.2.2.1 q.2 X.2.2.2.2.2.1 X.2.2.2.2.2.2.1 X.2.2.2.2.2.2.2 ++ wMS am cI cC M)) S hK hN hA hP hD hS (c_X6_clearText l D cI cC cS (wMS am cI cC M) ad X.1 X.2.1 X.2.2.1 X.2.2.2.1 X.2.2.2.2.1 X.2.2.2.2.2.1 X.2.2.2.2.2.2.1 X.2.2.2.2.2.2.2 _ hq) gL_law_X6_clearText rfl hd_X6_clearText ⟨by decide, by decide⟩ (List.Perm.refl _) (List.Perm.refl _) (ci := 6) (q := (RX6, TX6, 8)) rfl rfl rfl rfl hl.1 rfl (Nat.le_of_ble_eq_true rfl) dL_law_487 ⟨Nat.le_of_ble_eq_true rfl, Nat.le_of_ble_eq_true rfl⟩ (fun H locs hP hD hS => ?_)
        refine lv_aload_n hx hb dL_law_490 rfl (lv_at hl 2 rfl) ?_
        refine xcVi (w' := (w_X ad cI cC cS X.1 X.2.1 X.2.2.1 X.2.2.2.1 q.2 X.2.2.2.2.2.1 X.2.2.2.2.2.2.1 X.2.2.2.2.2.2.2 ++ w_M am cI cC M.1 M.2.1 M.2.2.1 M.2.2.2.1 M.2.2.2.2.1 M.2.2.2.2.2.1 M.2.2.2.2.2.2.1 M.2.2.2.2.2.2.2.1 M.2.2.2.2.2.2.2.2.1 M.2.2.2.2.2.2.2.2.2.1 qm.2 M.2.2.2.2.2.2.2.2.2.2.2.1 M.2.2.2.2.2.2.2.2.2.2.2.2.1 M.2.2.2.2.2.2.2.2.2.2.2.2.2.1 M.2.2.2.2.2.2.2.2.2.2.2.2.2.2.1 M.2.2.2.2.2.2.2.2.2.2.2.2.2.2.2.1 M.2.2.2.2.2.2.2.2.2.2.2.2.2.2.2.2.1 M.2.2.2.2.2.2.2.2.2.2.2.2.2.2.2.2.2.1 M.2.2.2.2.2.2.2.2.2.2.2.2.2.2.2.2.2.2)) S hK hN hA hP hD hS (c_X7_clearText l D cI cC cS (w_X ad cI cC cS X.1 X.2.1 X.2.2.1 X.2.2.2.1 q.2 X.2.2.2.2.2.1 X.2.2.2.2.2.2.1 X.2.2.2.2.2.2.2) am M.1 M.2.1 M.2.2.1 M.2.2.2.1 M.2.2.2.2.1 M.2.2.2.2.2.1 M.2.2.2.2.2.2.1 M.2.2.2.2.2.2.2.1 M.2.2.2.2.2.2.2.2.1 M.2.2.2.2.2.2.2.2.2.1 M.2.2.2.2.2.2.2.2.2.2.1 M.2.2.2.2.2.2.2.2.2.2.2.1 M.2.2.2.2.2.2.2.2.2.2.2.2.1 M.2.2.2.2.2.2.2.2.2.2.2.2.2.1 M.2.2.2.2.2.2.2.2.2.2.2.2.2.2.1 M.2.2.2.2.2.2.2.2.2.2.2.2.2.2.2.1 M.2.2.2.2.2.2.2.2.2.2.2.2.2.2.2.2.1 M.2.2.2.2.2.2.2.2.2.2.2.2.2.2.2.2.2.1 M.2.2.2.2.2.2.2.2.2.2.2.2.2.2.2.2.2.2 _ hqm) gL_law_X7_clearText rfl hd_X7_clearText ⟨by decide, by decide⟩ List.perm_append_comm List.perm_append_comm (ci := 7) (q := (RX7, TX7, 19)) rfl rfl rfl rfl hl.1 rfl (Nat.le_of_ble_eq_true rfl) dL_law_491 ⟨Nat.le_of_ble_eq_true rfl, Nat.le_of_ble_eq_true rfl⟩ (fun H locs hP hD hS => ?_)
        refine lv_icmp_eq (tgt := 950) hx hb dL_law_494 (by decide) (fun _ => ?_) (fun c2 => absurd hqr c2)
        exact J _ _ hrel1 H locs hP hD hS
      have e_12 : sw.toInt ≠ 12 := x_ne (k := 12) cs
      clear cs
      by_cases cs : sw = 13
      · subst cs
        refine lv_tableIn (tgt := 499) hx hb dL_law_32 (by decide) (by decide) rfl (by decide) ?_
        refine lv_aload_n hx hb dL_law_499 rfl (lv_at hl 1 rfl) ?_
        obtain ⟨q, qm, hq, hqm, hqr, hrel1⟩ := h_undo X M hrel
        refine xcVi (w' := (w_X ad cI cC cS q.2.1 q.2.2 X.2.2.1 X.2.2.2.1 X.2.2.2.2.1 X.2.2.2.2.2.1 X.2.2.2.2.2.2.1 X.2.2.2.2.2.2.2 ++ wMS am cI cC M)) S hK hN hA hP hD hS (c_X6_undo l D cI cC cS (wMS am cI cC M) ad X.1 X.2.1 X.2.2.1 X.2.2.2.1 X.2.2.2.2.1 X.2.2.2.2.2.1 X.2.2.2.2.2.2.1 X.2.2.2.2.2.2.2 _ hq) gL_law_X6_undo rfl hd_X6_undo ⟨by decide, by decide⟩ (List.Perm.refl _) (List.Perm.refl _) (ci := 6) (q := (RX6, TX6, 8)) rfl rfl rfl rfl hl.1 rfl (Nat.le_of_ble_eq_true rfl) dL_law_500 ⟨Nat.le_of_ble_eq_true rfl, Nat.le_of_ble_eq_true rfl⟩ (fun H locs hP hD hS => ?_)
        refine lv_aload_n hx hb dL_law_503 rfl (lv_at hl 2 rfl) ?_
        refine xcVi (w' := (w_X ad cI cC cS q.2.1 q.2.2 X.2.2.1 X.2.2.2.1 X.2.2.2.2.1 X.2.2.2.2.2.1 X.2.2.2.2.2.2.1 X.2.2.2.2.2.2.2 ++ w_M am cI cC qm.2.1 M.2.1 qm.2.2 M.2.2.2.1 M.2.2.2.2.1 M.2.2.2.2.2.1 M.2.2.2.2.2.2.1 M.2.2.2.2.2.2.2.1 M.2.2.2.2.2.2.2.2.1 M.2.2.2.2.2.2.2.2.2.1 M.2.2.2.2.2.2.2.2.2.2.1 M.2.2.2.2.2.2.2.2.2.2.2.1 M.2.2.2.2.2.2.2.2.2.2.2.2.1 M.2.2.2.2.2.2.2.2.2.2.2.2.2.1 M.2.2.2.2.2.2.2.2.2.2.2.2.2.2.1 M.2.2.2.2.2.2.2.2.2.2.2.2.2.2.2.1 M.2.2.2.2.2.2.2.2.2.2.2.2.2.2.2.2.1 M.2.2.2.2.2.2.2.2.2.2.2.2.2.2.2.2.2.1 M.2.2.2.2.2.2.2.2.2.2.2.2.2.2.2.2.2.2)) S hK hN hA hP hD hS (c_X7_undo l D cI cC cS (w_X ad cI cC cS q.2.1 q.2.2 X.2.2.1 X.2.2.2.1 X.2.2.2.2.1 X.2.2.2.2.2.1 X.2.2.2.2.2.2.1 X.2.2.2.2.2.2.2) am M.1 M.2.1 M.2.2.1 M.2.2.2.1 M.2.2.2.2.1 M.2.2.2.2.2.1 M.2.2.2.2.2.2.1 M.2.2.2.2.2.2.2.1 M.2.2.2.2.2.2.2.2.1 M.2.2.2.2.2.2.2.2.2.1 M.2.2.2.2.2.2.2.2.2.2.1 M.2.2.2.2.2.2.2.2.2.2.2.1 M.2.2.2.2.2.2.2.2.2.2.2.2.1 M.2.2.2.2.2.2.2.2.2.2.2.2.2.1 M.2.2.2.2.2.2.2.2.2.2.2.2.2.2.1 M.2.2.2.2.2.2.2.2.2.2.2.2.2.2.2.1 M.2.2.2.2.2.2.2.2.2.2.2.2.2.2.2.2.1 M.2.2.2.2.2.2.2.2.2.2.2.2.2.2.2.2.2.1 M.2.2.2.2.2.2.2.2.2.2.2.2.2.2.2.2.2.2 n _ hqm) gL_law_X7_undo rfl hd_X7_undo ⟨by decide, by decide⟩ List.perm_append_comm List.perm_append_comm (ci := 7) (q := (RX7, TX7, 19)) rfl rfl rfl rfl hl.1 rfl (Nat.le_of_ble_eq_true rfl) dL_law_504 ⟨Nat.le_of_ble_eq_true rfl, Nat.le_of_ble_eq_true rfl⟩ (fun H locs hP hD hS => ?_)
        refine lv_icmp_eq (tgt := 950) hx hb dL_law_507 (by decide) (fun _ => ?_) (fun c2 => absurd hqr c2)
        exact J _ _ hrel1 H locs hP hD hS
      have e_13 : sw.toInt ≠ 13 := x_ne (k := 13) cs
      clear cs
      by_cases cs : sw = 14
      · subst cs
        refine lv_tableIn (tgt := 512) hx hb dL_law_32 (by decide) (by decide) rfl (by decide) ?_
        refine lv_aload_n hx hb dL_law_512 rfl (lv_at hl 1 rfl) ?_
        obtain ⟨q, qm, hq, hqm, hqr, hrel1⟩ := h_keep X M hrel
        refine xcVi (w' := (w_X ad cI cC cS X.1 X.2.1 q.2.1 q.2.2 X.2.2.2.2.1 X.2.2.2.2.2.1 X.2.2.2.2.2.2.1 X.2.2.2.2.2.2.2 ++ wMS am cI cC M)) S hK hN hA hP hD hS (c_X6_keep l D cI cC cS (wMS am cI cC M) ad X.1 X.2.1 X.2.2.1 X.2.2.2.1 X.2.2.2.2.1 X.2.2.2.2.2.1 X.2.2.2.2.2.2.1 X.2.2.2.2.2.2.2 _ hq) gL_law_X6_keep rfl hd_X6_keep ⟨by decide, by decide⟩ (List.Perm.refl _) (List.Perm.refl _) (ci := 6) (q := (RX6, TX6, 8)) rfl rfl rfl rfl hl.1 rfl (Nat.le_of_ble_eq_true rfl) dL_law_513 ⟨Nat.le_of_ble_eq_true rfl, Nat.le_of_ble_eq_true rfl⟩ (fun H locs hP hD hS => ?_)
        refine lv_aload_n hx hb dL_law_516 rfl (lv_at hl 2 rfl) ?_
        refine xcVi (w' := (w_X ad cI cC cS X.1 X.2.1 q.2.1 q.2.2 X.2.2.2.2.1 X.2.2.2.2.2.1 X.2.2.2.2.2.2.1 X.2.2.2.2.2.2.2 ++ w_M am cI cC M.1 M.2.1 M.2.2.1 qm.2.1 qm.2.2 M.2.2.2.2.2.1 M.2.2.2.2.2.2.1 M.2.2.2.2.2.2.2.1 M.2.2.2.2.2.2.2.2.1 M.2.2.2.2.2.2.2.2.2.1 M.2.2.2.2.2.2.2.2.2.2.1 M.2.2.2.2.2.2.2.2.2.2.2.1 M.2.2.2.2.2.2.2.2.2.2.2.2.1 M.2.2.2.2.2.2.2.2.2.2.2.2.2.1 M.2.2.2.2.2.2.2.2.2.2.2.2.2.2.1 M.2.2.2.2.2.2.2.2.2.2.2.2.2.2.2.1 M.2.2.2.2.2.2.2.2.2.2.2.2.2.2.2.2.1 M.2.2.2.2.2.2.2.2.2.2.2.2.2.2.2.2.2.1 M.2.2.2.2.2.2.2.2.2.2.2.2.2.2.2.2.2.2)) S hK hN hA hP hD hS (c_X7_keep l D cI cC cS (w_X ad cI cC cS X.1 X.2.1 q.2.1 q.2.2 X.2.2.2.2.1 X.2.2.2.2.2.1 X.2.2.2.2.2.2.1 X.2.2.2.2.2.2.2) am M.1 M.2.1 M.2.2.1 M.2.2.2.1 M.2.2.2.2.1 M.2.2.2.2.2.1 M.2.2.2.2.2.2.1 M.2.2.2.2.2.2.2.1 M.2.2.2.2.2.2.2.2.1 M.2.2.2.2.2.2.2.2.2.1 M.2.2.2.2.2.2.2.2.2.2.1 M.2.2.2.2.2.2.2.2.2.2.2.1 M.2.2.2.2.2.2.2.2.2.2.2.2.1 M.2.2.2.2.2.2.2.2.2.2.2.2.2.1 M.2.2.2.2.2.2.2.2.2.2.2.2.2.2.1 M.2.2.2.2.2.2.2.2.2.2.2.2.2.2.2.1 M.2.2.2.2.2.2.2.2.2.2.2.2.2.2.2.2.1 M.2.2.2.2.2.2.2.2.2.2.2.2.2.2.2.2.2.1 M.2.2.2.2.2.2.2.2.2.2.2.2.2.2.2.2.2.2 n _ hqm) gL_law_X7_keep rfl hd_X7_keep ⟨by decide, by decide⟩ List.perm_append_comm List.perm_append_comm (ci := 7) (q := (RX7, TX7, 19)) rfl rfl rfl rfl hl.1 rfl (Nat.le_of_ble_eq_true rfl) dL_law_517 ⟨Nat.le_of_ble_eq_true rfl, Nat.le_of_ble_eq_true rfl⟩ (fun H locs hP hD hS => ?_)
        refine lv_icmp_eq (tgt := 950) hx hb dL_law_520 (by decide) (fun _ => ?_) (fun c2 => absurd hqr c2)
        exact J _ _ hrel1 H locs hP hD hS
      have e_14 : sw.toInt ≠ 14 := x_ne (k := 14) cs
      clear cs
      by_cases cs : sw = 15
      · subst cs
        refine lv_tableIn (tgt := 525) hx hb dL_law_32 (by decide) (by decide) rfl (by decide) ?_
        refine lv_aload_n hx hb dL_law_525 rfl (lv_at hl 1 rfl) ?_
        obtain ⟨q, qm, hq, hqm, hqr, hrel1⟩ := h_restore X M hrel
        refine xcVi (w' := (w_X ad cI cC cS q.2.1 q.2.2 X.2.2.1 X.2.2.2.1 X.2.2.2.2.1 X.2.2.2.2.2.1 X.2.2.2.2.2.2.1 X.2.2.2.2.2.2.2 ++ wMS am cI cC M)) S hK hN hA hP hD hS (c_X6_restore l D cI cC cS (wMS am cI cC M) ad X.1 X.2.1 X.2.2.1 X.2.2.2.1 X.2.2.2.2.1 X.2.2.2.2.2.1 X.2.2.2.2.2.2.1 X.2.2.2.2.2.2.2 _ hq) gL_law_X6_restore rfl hd_X6_restore ⟨by decide, by decide⟩ (List.Perm.refl _) (List.Perm.refl _) (ci := 6) (q := (RX6, TX6, 8)) rfl rfl rfl rfl hl.1 rfl (Nat.le_of_ble_eq_true rfl) dL_law_526 ⟨Nat.le_of_ble_eq_true rfl, Nat.le_of_ble_eq_true rfl⟩ (fun H locs hP hD hS => ?_)
        refine lv_aload_n hx hb dL_law_529 rfl (lv_at hl 2 rfl) ?_
        refine xcVi (w' := (w_X ad cI cC cS q.2.1 q.2.2 X.2.2.1 X.2.2.2.1 X.2.2.2.2.1 X.2.2.2.2.2.1 X.2.2.2.2.2.2.1 X.2.2.2.2.2.2.2 ++ w_M am cI cC qm.2.1 qm.2.2.1 qm.2.2.2 M.2.2.2.1 M.2.2.2.2.1 M.2.2.2.2.2.1 M.2.2.2.2.2.2.1 M.2.2.2.2.2.2.2.1 M.2.2.2.2.2.2.2.2.1 M.2.2.2.2.2.2.2.2.2.1 M.2.2.2.2.2.2.2.2.2.2.1 M.2.2.2.2.2.2.2.2.2.2.2.1 M.2.2.2.2.2.2.2.2.2.2.2.2.1 M.2.2.2.2.2.2.2.2.2.2.2.2.2.1 M.2.2.2.2.2.2.2.2.2.2.2.2.2.2.1 M.2.2.2.2.2.2.2.2.2.2.2.2.2.2.2.1 M.2.2.2.2.2.2.2.2.2.2.2.2.2.2.2.2.1 M.2.2.2.2.2.2.2.2.2.2.2.2.2.2.2.2.2.1 M.2.2.2.2.2.2.2.2.2.2.2.2.2.2.2.2.2.2)) S hK hN hA hP hD hS (c_X7_restore l D cI cC cS (w_X ad cI cC cS q.2.1 q.2.2 X.2.2.1 X.2.2.2.1 X.2.2.2.2.1 X.2.2.2.2.2.1 X.2.2.2.2.2.2.1 X.2.2.2.2.2.2.2) am M.1 M.2.1 M.2.2.1 M.2.2.2.1 M.2.2.2.2.1 M.2.2.2.2.2.1 M.2.2.2.2.2.2.1 M.2.2.2.2.2.2.2.1 M.2.2.2.2.2.2.2.2.1 M.2.2.2.2.2.2.2.2.2.1 M.2.2.2.2.2.2.2.2.2.2.1 M.2.2.2.2.2.2.2.2.2.2.2.1 M.2.2.2.2.2.2.2.2.2.2.2.2.1 M.2.2.2.2.2.2.2.2.2.2.2.2.2.1 M.2.2.2.2.2.2.2.2.2.2.2.2.2.2.1 M.2.2.2.2.2.2.2.2.2.2.2.2.2.2.2.1 M.2.2.2.2.2.2.2.2.2.2.2.2.2.2.2.2.1 M.2.2.2.2.2.2.2.2.2.2.2.2.2.2.2.2.2.1 M.2.2.2.2.2.2.2.2.2.2.2.2.2.2.2.2.2.2 n _ hqm) gL_law_X7_restore rfl hd_X7_restore ⟨by decide, by decide⟩ List.perm_append_comm List.perm_append_comm (ci := 7) (q := (RX7, TX7, 19)) rfl rfl rfl rfl hl.1 rfl (Nat.le_of_ble_eq_true rfl) dL_law_530 ⟨Nat.le_of_ble_eq_true rfl, Nat.le_of_ble_eq_true rfl⟩ (fun H locs hP hD hS => ?_)
        refine lv_icmp_eq (tgt := 950) hx hb dL_law_533 (by decide) (fun _ => ?_) (fun c2 => absurd hqr c2)
        exact J _ _ hrel1 H locs hP hD hS
      have e_15 : sw.toInt ≠ 15 := x_ne (k := 15) cs
      clear cs
      by_cases cs : sw = 16
      · subst cs
        refine lv_tableIn (tgt := 538) hx hb dL_law_32 (by decide) (by decide) rfl (by decide) ?_
        refine lv_aload_n hx hb dL_law_538 rfl (lv_at hl 1 rfl) ?_
        refine lv_aload_n hx hb dL_law_539 rfl (lv_at hl 0 rfl) ?_
        refine lv_iload_n hx hb dL_law_540 rfl (lv_at hl 3 rfl) ?_
        refine lv_iconst (v := 1) hx hb dL_law_541 (by decide) ?_
        refine lv_iadd hx hb dL_law_542 ?_
        refine va_sld hx hb hX hbl hbA hS i1 dL_law_543 ?_
        refine lv_aload_n hx hb dL_law_544 rfl (lv_at hl 0 rfl) ?_
        refine lv_iload_n hx hb dL_law_545 rfl (lv_at hl 3 rfl) ?_
        refine lv_iconst (v := 2) hx hb dL_law_546 (by decide) ?_
        refine lv_iadd hx hb dL_law_547 ?_
        refine va_sld hx hb hX hbl hbA hS i2 dL_law_548 ?_
        obtain ⟨q, qm, hq, hqm, hqr, hrel1⟩ := h_place X M (xs (x3 + 1).toNatClampNeg) (xs (x3 + 2).toNatClampNeg) hrel
        refine xcVi (w' := (w_X ad cI cC cS X.1 X.2.1 X.2.2.1 X.2.2.2.1 X.2.2.2.2.1 q.2.1 q.2.2 X.2.2.2.2.2.2.2 ++ wMS am cI cC M)) S hK hN hA hP hD hS (c_X6_place l D cI cC cS (wMS am cI cC M) ad X.1 X.2.1 X.2.2.1 X.2.2.2.1 X.2.2.2.2.1 X.2.2.2.2.2.1 X.2.2.2.2.2.2.1 X.2.2.2.2.2.2.2 (xs (x3 + 1).toNatClampNeg) (xs (x3 + 2).toNatClampNeg) n _ hq) gL_law_X6_place rfl hd_X6_place ⟨by decide, by decide⟩ (List.Perm.refl _) (List.Perm.refl _) (ci := 6) (q := (RX6, TX6, 8)) rfl rfl rfl rfl hl.1 rfl (Nat.le_of_ble_eq_true rfl) dL_law_549 ⟨Nat.le_of_ble_eq_true rfl, Nat.le_of_ble_eq_true rfl⟩ (fun H locs hP hD hS => ?_)
        refine lv_aload_n hx hb dL_law_552 rfl (lv_at hl 2 rfl) ?_
        refine lv_aload_n hx hb dL_law_553 rfl (lv_at hl 0 rfl) ?_
        refine lv_iload_n hx hb dL_law_554 rfl (lv_at hl 3 rfl) ?_
        refine lv_iconst (v := 1) hx hb dL_law_555 (by decide) ?_
        refine lv_iadd hx hb dL_law_556 ?_
        refine va_sld hx hb hX hbl hbA hS i1 dL_law_557 ?_
        refine lv_aload_n hx hb dL_law_558 rfl (lv_at hl 0 rfl) ?_
        refine lv_iload_n hx hb dL_law_559 rfl (lv_at hl 3 rfl) ?_
        refine lv_iconst (v := 2) hx hb dL_law_560 (by decide) ?_
        refine lv_iadd hx hb dL_law_561 ?_
        refine va_sld hx hb hX hbl hbA hS i2 dL_law_562 ?_
        refine xcVi (w' := (w_X ad cI cC cS X.1 X.2.1 X.2.2.1 X.2.2.2.1 X.2.2.2.2.1 q.2.1 q.2.2 X.2.2.2.2.2.2.2 ++ w_M am cI cC M.1 M.2.1 M.2.2.1 M.2.2.2.1 M.2.2.2.2.1 qm.2.1 qm.2.2.1 qm.2.2.2.1 qm.2.2.2.2.1 qm.2.2.2.2.2 M.2.2.2.2.2.2.2.2.2.2.1 M.2.2.2.2.2.2.2.2.2.2.2.1 M.2.2.2.2.2.2.2.2.2.2.2.2.1 M.2.2.2.2.2.2.2.2.2.2.2.2.2.1 M.2.2.2.2.2.2.2.2.2.2.2.2.2.2.1 M.2.2.2.2.2.2.2.2.2.2.2.2.2.2.2.1 M.2.2.2.2.2.2.2.2.2.2.2.2.2.2.2.2.1 M.2.2.2.2.2.2.2.2.2.2.2.2.2.2.2.2.2.1 M.2.2.2.2.2.2.2.2.2.2.2.2.2.2.2.2.2.2)) S hK hN hA hP hD hS (c_X7_place l D cI cC cS (w_X ad cI cC cS X.1 X.2.1 X.2.2.1 X.2.2.2.1 X.2.2.2.2.1 q.2.1 q.2.2 X.2.2.2.2.2.2.2) am M.1 M.2.1 M.2.2.1 M.2.2.2.1 M.2.2.2.2.1 M.2.2.2.2.2.1 M.2.2.2.2.2.2.1 M.2.2.2.2.2.2.2.1 M.2.2.2.2.2.2.2.2.1 M.2.2.2.2.2.2.2.2.2.1 M.2.2.2.2.2.2.2.2.2.2.1 M.2.2.2.2.2.2.2.2.2.2.2.1 M.2.2.2.2.2.2.2.2.2.2.2.2.1 M.2.2.2.2.2.2.2.2.2.2.2.2.2.1 M.2.2.2.2.2.2.2.2.2.2.2.2.2.2.1 M.2.2.2.2.2.2.2.2.2.2.2.2.2.2.2.1 M.2.2.2.2.2.2.2.2.2.2.2.2.2.2.2.2.1 M.2.2.2.2.2.2.2.2.2.2.2.2.2.2.2.2.2.1 M.2.2.2.2.2.2.2.2.2.2.2.2.2.2.2.2.2.2 (xs (x3 + 1).toNatClampNeg) (xs (x3 + 2).toNatClampNeg) n _ hqm) gL_law_X7_place rfl hd_X7_place ⟨by decide, by decide⟩ List.perm_append_comm List.perm_append_comm (ci := 7) (q := (RX7, TX7, 19)) rfl rfl rfl rfl hl.1 rfl (Nat.le_of_ble_eq_true rfl) dL_law_563 ⟨Nat.le_of_ble_eq_true rfl, Nat.le_of_ble_eq_true rfl⟩ (fun H locs hP hD hS => ?_)
        refine lv_icmp_eq (tgt := 950) hx hb dL_law_566 (by decide) (fun _ => ?_) (fun c2 => absurd hqr c2)
        exact J _ _ hrel1 H locs hP hD hS
      have e_16 : sw.toInt ≠ 16 := x_ne (k := 16) cs
      clear cs
      by_cases cs : sw = 17
      · subst cs
        refine lv_tableIn (tgt := 571) hx hb dL_law_32 (by decide) (by decide) rfl (by decide) ?_
        refine lv_aload_n hx hb dL_law_571 rfl (lv_at hl 1 rfl) ?_
        refine lv_aload_n hx hb dL_law_572 rfl (lv_at hl 0 rfl) ?_
        refine lv_iload_n hx hb dL_law_573 rfl (lv_at hl 3 rfl) ?_
        refine lv_iconst (v := 1) hx hb dL_law_574 (by decide) ?_
        refine lv_iadd hx hb dL_law_575 ?_
        refine va_sld hx hb hX hbl hbA hS i1 dL_law_576 ?_
        obtain ⟨q, qm, hq, hqm, hqr, hrel1⟩ := h_wins X M (xs (x3 + 1).toNatClampNeg) hrel
        refine xcVi (w' := (w_X ad cI cC cS X.1 X.2.1 X.2.2.1 X.2.2.2.1 X.2.2.2.2.1 q.2.1 q.2.2 X.2.2.2.2.2.2.2 ++ wMS am cI cC M)) S hK hN hA hP hD hS (c_X6_wins l D cI cC cS (wMS am cI cC M) ad X.1 X.2.1 X.2.2.1 X.2.2.2.1 X.2.2.2.2.1 X.2.2.2.2.2.1 X.2.2.2.2.2.2.1 X.2.2.2.2.2.2.2 (xs (x3 + 1).toNatClampNeg) n _ hq) gL_law_X6_wins rfl hd_X6_wins ⟨by decide, by decide⟩ (List.Perm.refl _) (List.Perm.refl _) (ci := 6) (q := (RX6, TX6, 8)) rfl rfl rfl rfl hl.1 rfl (Nat.le_of_ble_eq_true rfl) dL_law_577 ⟨Nat.le_of_ble_eq_true rfl, Nat.le_of_ble_eq_true rfl⟩ (fun H locs hP hD hS => ?_)
        refine lv_aload_n hx hb dL_law_580 rfl (lv_at hl 2 rfl) ?_
        refine lv_aload_n hx hb dL_law_581 rfl (lv_at hl 0 rfl) ?_
        refine lv_iload_n hx hb dL_law_582 rfl (lv_at hl 3 rfl) ?_
        refine lv_iconst (v := 1) hx hb dL_law_583 (by decide) ?_
        refine lv_iadd hx hb dL_law_584 ?_
        refine va_sld hx hb hX hbl hbA hS i1 dL_law_585 ?_
        refine xcVi (w' := (w_X ad cI cC cS X.1 X.2.1 X.2.2.1 X.2.2.2.1 X.2.2.2.2.1 q.2.1 q.2.2 X.2.2.2.2.2.2.2 ++ w_M am cI cC M.1 M.2.1 M.2.2.1 M.2.2.2.1 M.2.2.2.2.1 qm.2.1 qm.2.2.1 qm.2.2.2.1 qm.2.2.2.2.1 qm.2.2.2.2.2 M.2.2.2.2.2.2.2.2.2.2.1 M.2.2.2.2.2.2.2.2.2.2.2.1 M.2.2.2.2.2.2.2.2.2.2.2.2.1 M.2.2.2.2.2.2.2.2.2.2.2.2.2.1 M.2.2.2.2.2.2.2.2.2.2.2.2.2.2.1 M.2.2.2.2.2.2.2.2.2.2.2.2.2.2.2.1 M.2.2.2.2.2.2.2.2.2.2.2.2.2.2.2.2.1 M.2.2.2.2.2.2.2.2.2.2.2.2.2.2.2.2.2.1 M.2.2.2.2.2.2.2.2.2.2.2.2.2.2.2.2.2.2)) S hK hN hA hP hD hS (c_X7_wins l D cI cC cS (w_X ad cI cC cS X.1 X.2.1 X.2.2.1 X.2.2.2.1 X.2.2.2.2.1 q.2.1 q.2.2 X.2.2.2.2.2.2.2) am M.1 M.2.1 M.2.2.1 M.2.2.2.1 M.2.2.2.2.1 M.2.2.2.2.2.1 M.2.2.2.2.2.2.1 M.2.2.2.2.2.2.2.1 M.2.2.2.2.2.2.2.2.1 M.2.2.2.2.2.2.2.2.2.1 M.2.2.2.2.2.2.2.2.2.2.1 M.2.2.2.2.2.2.2.2.2.2.2.1 M.2.2.2.2.2.2.2.2.2.2.2.2.1 M.2.2.2.2.2.2.2.2.2.2.2.2.2.1 M.2.2.2.2.2.2.2.2.2.2.2.2.2.2.1 M.2.2.2.2.2.2.2.2.2.2.2.2.2.2.2.1 M.2.2.2.2.2.2.2.2.2.2.2.2.2.2.2.2.1 M.2.2.2.2.2.2.2.2.2.2.2.2.2.2.2.2.2.1 M.2.2.2.2.2.2.2.2.2.2.2.2.2.2.2.2.2.2 (xs (x3 + 1).toNatClampNeg) n _ hqm) gL_law_X7_wins rfl hd_X7_wins ⟨by decide, by decide⟩ List.perm_append_comm List.perm_append_comm (ci := 7) (q := (RX7, TX7, 19)) rfl rfl rfl rfl hl.1 rfl (Nat.le_of_ble_eq_true rfl) dL_law_586 ⟨Nat.le_of_ble_eq_true rfl, Nat.le_of_ble_eq_true rfl⟩ (fun H locs hP hD hS => ?_)
        refine lv_icmp_eq (tgt := 950) hx hb dL_law_589 (by decide) (fun _ => ?_) (fun c2 => absurd hqr c2)
        exact J _ _ hrel1 H locs hP hD hS
      have e_17 : sw.toInt ≠ 17 := x_ne (k := 17) cs
      clear cs
      by_cases cs : sw = 18
      · subst cs
        refine lv_tableIn (tgt := 594) hx hb dL_law_32 (by decide) (by decide) rfl (by decide) ?_
        refine lv_aload_n hx hb dL_law_594 rfl (lv_at hl 1 rfl) ?_
        refine lv_aload_n hx hb dL_law_595 rfl (lv_at hl 0 rfl) ?_
        refine lv_iload_n hx hb dL_law_596 rfl (lv_at hl 3 rfl) ?_
        refine lv_iconst (v := 1) hx hb dL_law_597 (by decide) ?_
        refine lv_iadd hx hb dL_law_598 ?_
        refine va_sld hx hb hX hbl hbA hS i1 dL_law_599 ?_
        obtain ⟨q, qm, hq, hqm, hqr, hrel1⟩ := h_winningChoice X M (xs (x3 + 1).toNatClampNeg) hrel
        refine xcVi (w' := (w_X ad cI cC cS X.1 X.2.1 X.2.2.1 X.2.2.2.1 X.2.2.2.2.1 q.2.1 q.2.2 X.2.2.2.2.2.2.2 ++ wMS am cI cC M)) S hK hN hA hP hD hS (c_X6_winningChoice l D cI cC cS (wMS am cI cC M) ad X.1 X.2.1 X.2.2.1 X.2.2.2.1 X.2.2.2.2.1 X.2.2.2.2.2.1 X.2.2.2.2.2.2.1 X.2.2.2.2.2.2.2 (xs (x3 + 1).toNatClampNeg) n _ hq) gL_law_X6_winningChoice rfl hd_X6_winningChoice ⟨by decide, by decide⟩ (List.Perm.refl _) (List.Perm.refl _) (ci := 6) (q := (RX6, TX6, 8)) rfl rfl rfl rfl hl.1 rfl (Nat.le_of_ble_eq_true rfl) dL_law_600 ⟨Nat.le_of_ble_eq_true rfl, Nat.le_of_ble_eq_true rfl⟩ (fun H locs hP hD hS => ?_)
        refine lv_aload_n hx hb dL_law_603 rfl (lv_at hl 2 rfl) ?_
        refine lv_aload_n hx hb dL_law_604 rfl (lv_at hl 0 rfl) ?_
        refine lv_iload_n hx hb dL_law_605 rfl (lv_at hl 3 rfl) ?_
        refine lv_iconst (v := 1) hx hb dL_law_606 (by decide) ?_
        refine lv_iadd hx hb dL_law_607 ?_
        refine va_sld hx hb hX hbl hbA hS i1 dL_law_608 ?_
        refine xcVi (w' := (w_X ad cI cC cS X.1 X.2.1 X.2.2.1 X.2.2.2.1 X.2.2.2.2.1 q.2.1 q.2.2 X.2.2.2.2.2.2.2 ++ w_M am cI cC M.1 M.2.1 M.2.2.1 M.2.2.2.1 M.2.2.2.2.1 qm.2.1 qm.2.2.1 qm.2.2.2.1 qm.2.2.2.2.1 qm.2.2.2.2.2 M.2.2.2.2.2.2.2.2.2.2.1 M.2.2.2.2.2.2.2.2.2.2.2.1 M.2.2.2.2.2.2.2.2.2.2.2.2.1 M.2.2.2.2.2.2.2.2.2.2.2.2.2.1 M.2.2.2.2.2.2.2.2.2.2.2.2.2.2.1 M.2.2.2.2.2.2.2.2.2.2.2.2.2.2.2.1 M.2.2.2.2.2.2.2.2.2.2.2.2.2.2.2.2.1 M.2.2.2.2.2.2.2.2.2.2.2.2.2.2.2.2.2.1 M.2.2.2.2.2.2.2.2.2.2.2.2.2.2.2.2.2.2)) S hK hN hA hP hD hS (c_X7_winningChoice l D cI cC cS (w_X ad cI cC cS X.1 X.2.1 X.2.2.1 X.2.2.2.1 X.2.2.2.2.1 q.2.1 q.2.2 X.2.2.2.2.2.2.2) am M.1 M.2.1 M.2.2.1 M.2.2.2.1 M.2.2.2.2.1 M.2.2.2.2.2.1 M.2.2.2.2.2.2.1 M.2.2.2.2.2.2.2.1 M.2.2.2.2.2.2.2.2.1 M.2.2.2.2.2.2.2.2.2.1 M.2.2.2.2.2.2.2.2.2.2.1 M.2.2.2.2.2.2.2.2.2.2.2.1 M.2.2.2.2.2.2.2.2.2.2.2.2.1 M.2.2.2.2.2.2.2.2.2.2.2.2.2.1 M.2.2.2.2.2.2.2.2.2.2.2.2.2.2.1 M.2.2.2.2.2.2.2.2.2.2.2.2.2.2.2.1 M.2.2.2.2.2.2.2.2.2.2.2.2.2.2.2.2.1 M.2.2.2.2.2.2.2.2.2.2.2.2.2.2.2.2.2.1 M.2.2.2.2.2.2.2.2.2.2.2.2.2.2.2.2.2.2 (xs (x3 + 1).toNatClampNeg) n _ hqm) gL_law_X7_winningChoice rfl hd_X7_winningChoice ⟨by decide, by decide⟩ List.perm_append_comm List.perm_append_comm (ci := 7) (q := (RX7, TX7, 19)) rfl rfl rfl rfl hl.1 rfl (Nat.le_of_ble_eq_true rfl) dL_law_609 ⟨Nat.le_of_ble_eq_true rfl, Nat.le_of_ble_eq_true rfl⟩ (fun H locs hP hD hS => ?_)
        refine lv_icmp_eq (tgt := 950) hx hb dL_law_612 (by decide) (fun _ => ?_) (fun c2 => absurd hqr c2)
        exact J _ _ hrel1 H locs hP hD hS
      have e_18 : sw.toInt ≠ 18 := x_ne (k := 18) cs
      clear cs
      by_cases cs : sw = 19
      · subst cs
        refine lv_tableIn (tgt := 617) hx hb dL_law_32 (by decide) (by decide) rfl (by decide) ?_
        refine lv_aload_n hx hb dL_law_617 rfl (lv_at hl 1 rfl) ?_
        refine lv_aload_n hx hb dL_law_618 rfl (lv_at hl 0 rfl) ?_
        refine lv_iload_n hx hb dL_law_619 rfl (lv_at hl 3 rfl) ?_
        refine lv_iconst (v := 1) hx hb dL_law_620 (by decide) ?_
        refine lv_iadd hx hb dL_law_621 ?_
        refine va_sld hx hb hX hbl hbA hS i1 dL_law_622 ?_
        refine lv_aload_n hx hb dL_law_623 rfl (lv_at hl 0 rfl) ?_
        refine lv_iload_n hx hb dL_law_624 rfl (lv_at hl 3 rfl) ?_
        refine lv_iconst (v := 2) hx hb dL_law_625 (by decide) ?_
        refine lv_iadd hx hb dL_law_626 ?_
        refine va_sld hx hb hX hbl hbA hS i2 dL_law_627 ?_
        refine lv_aload_n hx hb dL_law_628 rfl (lv_at hl 0 rfl) ?_
        refine lv_iload_n hx hb dL_law_629 rfl (lv_at hl 3 rfl) ?_
        refine lv_iconst (v := 3) hx hb dL_law_630 (by decide) ?_
        refine lv_iadd hx hb dL_law_631 ?_
        refine va_sld hx hb hX hbl hbA hS i3 dL_law_632 ?_
        obtain ⟨q, qm, hq, hqm, hqr, hrel1⟩ := h_measure X M (xs (x3 + 1).toNatClampNeg) (xs (x3 + 2).toNatClampNeg) (xs (x3 + 3).toNatClampNeg) hrel
        refine xcVi (w' := (w_X ad cI cC cS X.1 X.2.1 X.2.2.1 X.2.2.2.1 X.2.2.2.2.1 q.2.1 q.2.2 X.2.2.2.2.2.2.2 ++ wMS am cI cC M)) S hK hN hA hP hD hS (c_X6_measure l D cI cC cS (wMS am cI cC M) ad X.1 X.2.1 X.2.2.1 X.2.2.2.1 X.2.2.2.2.1 X.2.2.2.2.2.1 X.2.2.2.2.2.2.1 X.2.2.2.2.2.2.2 (xs (x3 + 1).toNatClampNeg) (xs (x3 + 2).toNatClampNeg) (xs (x3 + 3).toNatClampNeg) n _ hq) gL_law_X6_measure rfl hd_X6_measure ⟨by decide, by decide⟩ (List.Perm.refl _) (List.Perm.refl _) (ci := 6) (q := (RX6, TX6, 8)) rfl rfl rfl rfl hl.1 rfl (Nat.le_of_ble_eq_true rfl) dL_law_633 ⟨Nat.le_of_ble_eq_true rfl, Nat.le_of_ble_eq_true rfl⟩ (fun H locs hP hD hS => ?_)
        refine lv_aload_n hx hb dL_law_636 rfl (lv_at hl 2 rfl) ?_
        refine lv_aload_n hx hb dL_law_637 rfl (lv_at hl 0 rfl) ?_
        refine lv_iload_n hx hb dL_law_638 rfl (lv_at hl 3 rfl) ?_
        refine lv_iconst (v := 1) hx hb dL_law_639 (by decide) ?_
        refine lv_iadd hx hb dL_law_640 ?_
        refine va_sld hx hb hX hbl hbA hS i1 dL_law_641 ?_
        refine lv_aload_n hx hb dL_law_642 rfl (lv_at hl 0 rfl) ?_
        refine lv_iload_n hx hb dL_law_643 rfl (lv_at hl 3 rfl) ?_
        refine lv_iconst (v := 2) hx hb dL_law_644 (by decide) ?_
        refine lv_iadd hx hb dL_law_645 ?_
        refine va_sld hx hb hX hbl hbA hS i2 dL_law_646 ?_
        refine lv_aload_n hx hb dL_law_647 rfl (lv_at hl 0 rfl) ?_
        refine lv_iload_n hx hb dL_law_648 rfl (lv_at hl 3 rfl) ?_
        refine lv_iconst (v := 3) hx hb dL_law_649 (by decide) ?_
        refine lv_iadd hx hb dL_law_650 ?_
        refine va_sld hx hb hX hbl hbA hS i3 dL_law_651 ?_
        refine xcVi (w' := (w_X ad cI cC cS X.1 X.2.1 X.2.2.1 X.2.2.2.1 X.2.2.2.2.1 q.2.1 q.2.2 X.2.2.2.2.2.2.2 ++ w_M am cI cC M.1 M.2.1 M.2.2.1 M.2.2.2.1 M.2.2.2.2.1 qm.2.1 qm.2.2.1 qm.2.2.2.1 qm.2.2.2.2.1 qm.2.2.2.2.2 M.2.2.2.2.2.2.2.2.2.2.1 M.2.2.2.2.2.2.2.2.2.2.2.1 M.2.2.2.2.2.2.2.2.2.2.2.2.1 M.2.2.2.2.2.2.2.2.2.2.2.2.2.1 M.2.2.2.2.2.2.2.2.2.2.2.2.2.2.1 M.2.2.2.2.2.2.2.2.2.2.2.2.2.2.2.1 M.2.2.2.2.2.2.2.2.2.2.2.2.2.2.2.2.1 M.2.2.2.2.2.2.2.2.2.2.2.2.2.2.2.2.2.1 M.2.2.2.2.2.2.2.2.2.2.2.2.2.2.2.2.2.2)) S hK hN hA hP hD hS (c_X7_measure l D cI cC cS (w_X ad cI cC cS X.1 X.2.1 X.2.2.1 X.2.2.2.1 X.2.2.2.2.1 q.2.1 q.2.2 X.2.2.2.2.2.2.2) am M.1 M.2.1 M.2.2.1 M.2.2.2.1 M.2.2.2.2.1 M.2.2.2.2.2.1 M.2.2.2.2.2.2.1 M.2.2.2.2.2.2.2.1 M.2.2.2.2.2.2.2.2.1 M.2.2.2.2.2.2.2.2.2.1 M.2.2.2.2.2.2.2.2.2.2.1 M.2.2.2.2.2.2.2.2.2.2.2.1 M.2.2.2.2.2.2.2.2.2.2.2.2.1 M.2.2.2.2.2.2.2.2.2.2.2.2.2.1 M.2.2.2.2.2.2.2.2.2.2.2.2.2.2.1 M.2.2.2.2.2.2.2.2.2.2.2.2.2.2.2.1 M.2.2.2.2.2.2.2.2.2.2.2.2.2.2.2.2.1 M.2.2.2.2.2.2.2.2.2.2.2.2.2.2.2.2.2.1 M.2.2.2.2.2.2.2.2.2.2.2.2.2.2.2.2.2.2 (xs (x3 + 1).toNatClampNeg) (xs (x3 + 2).toNatClampNeg) (xs (x3 + 3).toNatClampNeg) n _ hqm) gL_law_X7_measure rfl hd_X7_measure ⟨by decide, by decide⟩ List.perm_append_comm List.perm_append_comm (ci := 7) (q := (RX7, TX7, 19)) rfl rfl rfl rfl hl.1 rfl (Nat.le_of_ble_eq_true rfl) dL_law_652 ⟨Nat.le_of_ble_eq_true rfl, Nat.le_of_ble_eq_true rfl⟩ (fun H locs hP hD hS => ?_)
        refine lv_icmp_eq (tgt := 950) hx hb dL_law_655 (by decide) (fun _ => ?_) (fun c2 => absurd hqr c2)
        exact J _ _ hrel1 H locs hP hD hS
      have e_19 : sw.toInt ≠ 19 := x_ne (k := 19) cs
      clear cs
      by_cases cs : sw = 20
      · subst cs
        refine lv_tableIn (tgt := 660) hx hb dL_law_32 (by decide) (by decide) rfl (by decide) ?_
        refine lv_aload_n hx hb dL_law_660 rfl (lv_at hl 1 rfl) ?_
        refine lv_aload_n hx hb dL_law_661 rfl (lv_at hl 0 rfl) ?_
        refine lv_iload_n hx hb dL_law_662 rfl (lv_at hl 3 rfl) ?_
        refine lv_iconst (v := 1) hx hb dL_law_663 (by decide) ?_
        refine lv_iadd hx hb dL_law_664 ?_
        refine va_sld hx hb hX hbl hbA hS i1 dL_law_665 ?_
        obtain ⟨q, qm, hq, hqm, hqr, hrel1⟩ := h_rounds X M (xs (x3 + 1).toNatClampNeg) hrel
        refine xcVi (w' := (w_X ad cI cC cS X.1 X.2.1 X.2.2.1 X.2.2.2.1 X.2.2.2.2.1 q.2.1 q.2.2 X.2.2.2.2.2.2.2 ++ wMS am cI cC M)) S hK hN hA hP hD hS (c_X6_rounds l D cI cC cS (wMS am cI cC M) ad X.1 X.2.1 X.2.2.1 X.2.2.2.1 X.2.2.2.2.1 X.2.2.2.2.2.1 X.2.2.2.2.2.2.1 X.2.2.2.2.2.2.2 (xs (x3 + 1).toNatClampNeg) n _ hq) gL_law_X6_rounds rfl hd_X6_rounds ⟨by decide, by decide⟩ (List.Perm.refl _) (List.Perm.refl _) (ci := 6) (q := (RX6, TX6, 8)) rfl rfl rfl rfl hl.1 rfl (Nat.le_of_ble_eq_true rfl) dL_law_666 ⟨Nat.le_of_ble_eq_true rfl, Nat.le_of_ble_eq_true rfl⟩ (fun H locs hP hD hS => ?_)
        refine lv_aload_n hx hb dL_law_669 rfl (lv_at hl 2 rfl) ?_
        refine lv_aload_n hx hb dL_law_670 rfl (lv_at hl 0 rfl) ?_
        refine lv_iload_n hx hb dL_law_671 rfl (lv_at hl 3 rfl) ?_
        refine lv_iconst (v := 1) hx hb dL_law_672 (by decide) ?_
        refine lv_iadd hx hb dL_law_673 ?_
        refine va_sld hx hb hX hbl hbA hS i1 dL_law_674 ?_
        refine xcVi (w' := (w_X ad cI cC cS X.1 X.2.1 X.2.2.1 X.2.2.2.1 X.2.2.2.2.1 q.2.1 q.2.2 X.2.2.2.2.2.2.2 ++ w_M am cI cC M.1 M.2.1 M.2.2.1 M.2.2.2.1 M.2.2.2.2.1 qm.2.1 qm.2.2.1 qm.2.2.2.1 qm.2.2.2.2.1 qm.2.2.2.2.2 M.2.2.2.2.2.2.2.2.2.2.1 M.2.2.2.2.2.2.2.2.2.2.2.1 M.2.2.2.2.2.2.2.2.2.2.2.2.1 M.2.2.2.2.2.2.2.2.2.2.2.2.2.1 M.2.2.2.2.2.2.2.2.2.2.2.2.2.2.1 M.2.2.2.2.2.2.2.2.2.2.2.2.2.2.2.1 M.2.2.2.2.2.2.2.2.2.2.2.2.2.2.2.2.1 M.2.2.2.2.2.2.2.2.2.2.2.2.2.2.2.2.2.1 M.2.2.2.2.2.2.2.2.2.2.2.2.2.2.2.2.2.2)) S hK hN hA hP hD hS (c_X7_rounds l D cI cC cS (w_X ad cI cC cS X.1 X.2.1 X.2.2.1 X.2.2.2.1 X.2.2.2.2.1 q.2.1 q.2.2 X.2.2.2.2.2.2.2) am M.1 M.2.1 M.2.2.1 M.2.2.2.1 M.2.2.2.2.1 M.2.2.2.2.2.1 M.2.2.2.2.2.2.1 M.2.2.2.2.2.2.2.1 M.2.2.2.2.2.2.2.2.1 M.2.2.2.2.2.2.2.2.2.1 M.2.2.2.2.2.2.2.2.2.2.1 M.2.2.2.2.2.2.2.2.2.2.2.1 M.2.2.2.2.2.2.2.2.2.2.2.2.1 M.2.2.2.2.2.2.2.2.2.2.2.2.2.1 M.2.2.2.2.2.2.2.2.2.2.2.2.2.2.1 M.2.2.2.2.2.2.2.2.2.2.2.2.2.2.2.1 M.2.2.2.2.2.2.2.2.2.2.2.2.2.2.2.2.1 M.2.2.2.2.2.2.2.2.2.2.2.2.2.2.2.2.2.1 M.2.2.2.2.2.2.2.2.2.2.2.2.2.2.2.2.2.2 (xs (x3 + 1).toNatClampNeg) n _ hqm) gL_law_X7_rounds rfl hd_X7_rounds ⟨by decide, by decide⟩ List.perm_append_comm List.perm_append_comm (ci := 7) (q := (RX7, TX7, 19)) rfl rfl rfl rfl hl.1 rfl (Nat.le_of_ble_eq_true rfl) dL_law_675 ⟨Nat.le_of_ble_eq_true rfl, Nat.le_of_ble_eq_true rfl⟩ (fun H locs hP hD hS => ?_)
        refine lv_icmp_eq (tgt := 950) hx hb dL_law_678 (by decide) (fun _ => ?_) (fun c2 => absurd hqr c2)
        exact J _ _ hrel1 H locs hP hD hS
      have e_20 : sw.toInt ≠ 20 := x_ne (k := 20) cs
      clear cs
      by_cases cs : sw = 21
      · subst cs
        refine lv_tableIn (tgt := 683) hx hb dL_law_32 (by decide) (by decide) rfl (by decide) ?_
        refine lv_aload_n hx hb dL_law_683 rfl (lv_at hl 1 rfl) ?_
        refine lv_aload_n hx hb dL_law_684 rfl (lv_at hl 0 rfl) ?_
        refine lv_iload_n hx hb dL_law_685 rfl (lv_at hl 3 rfl) ?_
        refine lv_iconst (v := 1) hx hb dL_law_686 (by decide) ?_
        refine lv_iadd hx hb dL_law_687 ?_
        refine va_sld hx hb hX hbl hbA hS i1 dL_law_688 ?_
        refine lv_aload_n hx hb dL_law_689 rfl (lv_at hl 0 rfl) ?_
        refine lv_iload_n hx hb dL_law_690 rfl (lv_at hl 3 rfl) ?_
        refine lv_iconst (v := 2) hx hb dL_law_691 (by decide) ?_
        refine lv_iadd hx hb dL_law_692 ?_
        refine va_sld hx hb hX hbl hbA hS i2 dL_law_693 ?_
        obtain ⟨q, qm, hq, hqm, hqr, hrel1⟩ := h_forced X M (xs (x3 + 1).toNatClampNeg) (xs (x3 + 2).toNatClampNeg) hrel
        refine xcVi (w' := (w_X ad cI cC cS X.1 X.2.1 X.2.2.1 X.2.2.2.1 X.2.2.2.2.1 X.2.2.2.2.2.1 X.2.2.2.2.2.2.1 X.2.2.2.2.2.2.2 ++ wMS am cI cC M)) S hK hN hA hP hD hS (c_X6_forced l D cI cC cS (wMS am cI cC M) ad X.1 X.2.1 X.2.2.1 X.2.2.2.1 X.2.2.2.2.1 X.2.2.2.2.2.1 X.2.2.2.2.2.2.1 X.2.2.2.2.2.2.2 (xs (x3 + 1).toNatClampNeg) (xs (x3 + 2).toNatClampNeg) n _ hq) gL_law_X6_forced rfl hd_X6_forced ⟨by decide, by decide⟩ (List.Perm.refl _) (List.Perm.refl _) (ci := 6) (q := (RX6, TX6, 8)) rfl rfl rfl rfl hl.1 rfl (Nat.le_of_ble_eq_true rfl) dL_law_694 ⟨Nat.le_of_ble_eq_true rfl, Nat.le_of_ble_eq_true rfl⟩ (fun H locs hP hD hS => ?_)
        refine lv_aload_n hx hb dL_law_697 rfl (lv_at hl 2 rfl) ?_
        refine lv_aload_n hx hb dL_law_698 rfl (lv_at hl 0 rfl) ?_
        refine lv_iload_n hx hb dL_law_699 rfl (lv_at hl 3 rfl) ?_
        refine lv_iconst (v := 1) hx hb dL_law_700 (by decide) ?_
        refine lv_iadd hx hb dL_law_701 ?_
        refine va_sld hx hb hX hbl hbA hS i1 dL_law_702 ?_
        refine lv_aload_n hx hb dL_law_703 rfl (lv_at hl 0 rfl) ?_
        refine lv_iload_n hx hb dL_law_704 rfl (lv_at hl 3 rfl) ?_
        refine lv_iconst (v := 2) hx hb dL_law_705 (by decide) ?_
        refine lv_iadd hx hb dL_law_706 ?_
        refine va_sld hx hb hX hbl hbA hS i2 dL_law_707 ?_
        refine xcVi (w' := (w_X ad cI cC cS X.1 X.2.1 X.2.2.1 X.2.2.2.1 X.2.2.2.2.1 X.2.2.2.2.2.1 X.2.2.2.2.2.2.1 X.2.2.2.2.2.2.2 ++ w_M am cI cC M.1 M.2.1 M.2.2.1 M.2.2.2.1 M.2.2.2.2.1 M.2.2.2.2.2.1 M.2.2.2.2.2.2.1 M.2.2.2.2.2.2.2.1 M.2.2.2.2.2.2.2.2.1 M.2.2.2.2.2.2.2.2.2.1 M.2.2.2.2.2.2.2.2.2.2.1 M.2.2.2.2.2.2.2.2.2.2.2.1 M.2.2.2.2.2.2.2.2.2.2.2.2.1 M.2.2.2.2.2.2.2.2.2.2.2.2.2.1 M.2.2.2.2.2.2.2.2.2.2.2.2.2.2.1 M.2.2.2.2.2.2.2.2.2.2.2.2.2.2.2.1 M.2.2.2.2.2.2.2.2.2.2.2.2.2.2.2.2.1 M.2.2.2.2.2.2.2.2.2.2.2.2.2.2.2.2.2.1 M.2.2.2.2.2.2.2.2.2.2.2.2.2.2.2.2.2.2)) S hK hN hA hP hD hS (c_X7_forced l D cI cC cS (w_X ad cI cC cS X.1 X.2.1 X.2.2.1 X.2.2.2.1 X.2.2.2.2.1 X.2.2.2.2.2.1 X.2.2.2.2.2.2.1 X.2.2.2.2.2.2.2) am M.1 M.2.1 M.2.2.1 M.2.2.2.1 M.2.2.2.2.1 M.2.2.2.2.2.1 M.2.2.2.2.2.2.1 M.2.2.2.2.2.2.2.1 M.2.2.2.2.2.2.2.2.1 M.2.2.2.2.2.2.2.2.2.1 M.2.2.2.2.2.2.2.2.2.2.1 M.2.2.2.2.2.2.2.2.2.2.2.1 M.2.2.2.2.2.2.2.2.2.2.2.2.1 M.2.2.2.2.2.2.2.2.2.2.2.2.2.1 M.2.2.2.2.2.2.2.2.2.2.2.2.2.2.1 M.2.2.2.2.2.2.2.2.2.2.2.2.2.2.2.1 M.2.2.2.2.2.2.2.2.2.2.2.2.2.2.2.2.1 M.2.2.2.2.2.2.2.2.2.2.2.2.2.2.2.2.2.1 M.2.2.2.2.2.2.2.2.2.2.2.2.2.2.2.2.2.2 (xs (x3 + 1).toNatClampNeg) (xs (x3 + 2).toNatClampNeg) n _ hqm) gL_law_X7_forced rfl hd_X7_forced ⟨by decide, by decide⟩ List.perm_append_comm List.perm_append_comm (ci := 7) (q := (RX7, TX7, 19)) rfl rfl rfl rfl hl.1 rfl (Nat.le_of_ble_eq_true rfl) dL_law_708 ⟨Nat.le_of_ble_eq_true rfl, Nat.le_of_ble_eq_true rfl⟩ (fun H locs hP hD hS => ?_)
        refine lv_icmp_eq (tgt := 950) hx hb dL_law_711 (by decide) (fun _ => ?_) (fun c2 => absurd hqr c2)
        exact J _ _ hrel1 H locs hP hD hS
      have e_21 : sw.toInt ≠ 21 := x_ne (k := 21) cs
      clear cs
      by_cases cs : sw = 22
      · subst cs
        refine lv_tableIn (tgt := 716) hx hb dL_law_32 (by decide) (by decide) rfl (by decide) ?_
        refine lv_aload_n hx hb dL_law_716 rfl (lv_at hl 1 rfl) ?_
        refine lv_aload_n hx hb dL_law_717 rfl (lv_at hl 0 rfl) ?_
        refine lv_iload_n hx hb dL_law_718 rfl (lv_at hl 3 rfl) ?_
        refine lv_iconst (v := 1) hx hb dL_law_719 (by decide) ?_
        refine lv_iadd hx hb dL_law_720 ?_
        refine va_sld hx hb hX hbl hbA hS i1 dL_law_721 ?_
        refine lv_aload_n hx hb dL_law_722 rfl (lv_at hl 0 rfl) ?_
        refine lv_iload_n hx hb dL_law_723 rfl (lv_at hl 3 rfl) ?_
        refine lv_iconst (v := 2) hx hb dL_law_724 (by decide) ?_
        refine lv_iadd hx hb dL_law_725 ?_
        refine va_sld hx hb hX hbl hbA hS i2 dL_law_726 ?_
        refine lv_aload_n hx hb dL_law_727 rfl (lv_at hl 0 rfl) ?_
        refine lv_iload_n hx hb dL_law_728 rfl (lv_at hl 3 rfl) ?_
        refine lv_iconst (v := 3) hx hb dL_law_729 (by decide) ?_
        refine lv_iadd hx hb dL_law_730 ?_
        refine va_sld hx hb hX hbl hbA hS i3 dL_law_731 ?_
        obtain ⟨q, qm, hq, hqm, hqr, hrel1⟩ := h_rank X M (xs (x3 + 1).toNatClampNeg) (xs (x3 + 2).toNatClampNeg) (xs (x3 + 3).toNatClampNeg) hrel
        refine xcVi (w' := (w_X ad cI cC cS X.1 X.2.1 X.2.2.1 X.2.2.2.1 X.2.2.2.2.1 X.2.2.2.2.2.1 X.2.2.2.2.2.2.1 X.2.2.2.2.2.2.2 ++ wMS am cI cC M)) S hK hN hA hP hD hS (c_X6_rank l D cI cC cS (wMS am cI cC M) ad X.1 X.2.1 X.2.2.1 X.2.2.2.1 X.2.2.2.2.1 X.2.2.2.2.2.1 X.2.2.2.2.2.2.1 X.2.2.2.2.2.2.2 (xs (x3 + 1).toNatClampNeg) (xs (x3 + 2).toNatClampNeg) (xs (x3 + 3).toNatClampNeg) n _ hq) gL_law_X6_rank rfl hd_X6_rank ⟨by decide, by decide⟩ (List.Perm.refl _) (List.Perm.refl _) (ci := 6) (q := (RX6, TX6, 8)) rfl rfl rfl rfl hl.1 rfl (Nat.le_of_ble_eq_true rfl) dL_law_732 ⟨Nat.le_of_ble_eq_true rfl, Nat.le_of_ble_eq_true rfl⟩ (fun H locs hP hD hS => ?_)
        refine lv_aload_n hx hb dL_law_735 rfl (lv_at hl 2 rfl) ?_
        refine lv_aload_n hx hb dL_law_736 rfl (lv_at hl 0 rfl) ?_
        refine lv_iload_n hx hb dL_law_737 rfl (lv_at hl 3 rfl) ?_
        refine lv_iconst (v := 1) hx hb dL_law_738 (by decide) ?_
        refine lv_iadd hx hb dL_law_739 ?_
        refine va_sld hx hb hX hbl hbA hS i1 dL_law_740 ?_
        refine lv_aload_n hx hb dL_law_741 rfl (lv_at hl 0 rfl) ?_
        refine lv_iload_n hx hb dL_law_742 rfl (lv_at hl 3 rfl) ?_
        refine lv_iconst (v := 2) hx hb dL_law_743 (by decide) ?_
        refine lv_iadd hx hb dL_law_744 ?_
        refine va_sld hx hb hX hbl hbA hS i2 dL_law_745 ?_
        refine lv_aload_n hx hb dL_law_746 rfl (lv_at hl 0 rfl) ?_
        refine lv_iload_n hx hb dL_law_747 rfl (lv_at hl 3 rfl) ?_
        refine lv_iconst (v := 3) hx hb dL_law_748 (by decide) ?_
        refine lv_iadd hx hb dL_law_749 ?_
        refine va_sld hx hb hX hbl hbA hS i3 dL_law_750 ?_
        refine xcVi (w' := (w_X ad cI cC cS X.1 X.2.1 X.2.2.1 X.2.2.2.1 X.2.2.2.2.1 X.2.2.2.2.2.1 X.2.2.2.2.2.2.1 X.2.2.2.2.2.2.2 ++ w_M am cI cC M.1 M.2.1 M.2.2.1 M.2.2.2.1 M.2.2.2.2.1 M.2.2.2.2.2.1 M.2.2.2.2.2.2.1 M.2.2.2.2.2.2.2.1 M.2.2.2.2.2.2.2.2.1 M.2.2.2.2.2.2.2.2.2.1 M.2.2.2.2.2.2.2.2.2.2.1 M.2.2.2.2.2.2.2.2.2.2.2.1 M.2.2.2.2.2.2.2.2.2.2.2.2.1 M.2.2.2.2.2.2.2.2.2.2.2.2.2.1 M.2.2.2.2.2.2.2.2.2.2.2.2.2.2.1 M.2.2.2.2.2.2.2.2.2.2.2.2.2.2.2.1 M.2.2.2.2.2.2.2.2.2.2.2.2.2.2.2.2.1 M.2.2.2.2.2.2.2.2.2.2.2.2.2.2.2.2.2.1 M.2.2.2.2.2.2.2.2.2.2.2.2.2.2.2.2.2.2)) S hK hN hA hP hD hS (c_X7_rank l D cI cC cS (w_X ad cI cC cS X.1 X.2.1 X.2.2.1 X.2.2.2.1 X.2.2.2.2.1 X.2.2.2.2.2.1 X.2.2.2.2.2.2.1 X.2.2.2.2.2.2.2) am M.1 M.2.1 M.2.2.1 M.2.2.2.1 M.2.2.2.2.1 M.2.2.2.2.2.1 M.2.2.2.2.2.2.1 M.2.2.2.2.2.2.2.1 M.2.2.2.2.2.2.2.2.1 M.2.2.2.2.2.2.2.2.2.1 M.2.2.2.2.2.2.2.2.2.2.1 M.2.2.2.2.2.2.2.2.2.2.2.1 M.2.2.2.2.2.2.2.2.2.2.2.2.1 M.2.2.2.2.2.2.2.2.2.2.2.2.2.1 M.2.2.2.2.2.2.2.2.2.2.2.2.2.2.1 M.2.2.2.2.2.2.2.2.2.2.2.2.2.2.2.1 M.2.2.2.2.2.2.2.2.2.2.2.2.2.2.2.2.1 M.2.2.2.2.2.2.2.2.2.2.2.2.2.2.2.2.2.1 M.2.2.2.2.2.2.2.2.2.2.2.2.2.2.2.2.2.2 (xs (x3 + 1).toNatClampNeg) (xs (x3 + 2).toNatClampNeg) (xs (x3 + 3).toNatClampNeg) n _ hqm) gL_law_X7_rank rfl hd_X7_rank ⟨by decide, by decide⟩ List.perm_append_comm List.perm_append_comm (ci := 7) (q := (RX7, TX7, 19)) rfl rfl rfl rfl hl.1 rfl (Nat.le_of_ble_eq_true rfl) dL_law_751 ⟨Nat.le_of_ble_eq_true rfl, Nat.le_of_ble_eq_true rfl⟩ (fun H locs hP hD hS => ?_)
        refine lv_icmp_eq (tgt := 950) hx hb dL_law_754 (by decide) (fun _ => ?_) (fun c2 => absurd hqr c2)
        exact J _ _ hrel1 H locs hP hD hS
      have e_22 : sw.toInt ≠ 22 := x_ne (k := 22) cs
      clear cs
      by_cases cs : sw = 23
      · subst cs
        refine lv_tableIn (tgt := 759) hx hb dL_law_32 (by decide) (by decide) rfl (by decide) ?_
        refine lv_aload_n hx hb dL_law_759 rfl (lv_at hl 1 rfl) ?_
        refine lv_aload_n hx hb dL_law_760 rfl (lv_at hl 0 rfl) ?_
        refine lv_iload_n hx hb dL_law_761 rfl (lv_at hl 3 rfl) ?_
        refine lv_iconst (v := 1) hx hb dL_law_762 (by decide) ?_
        refine lv_iadd hx hb dL_law_763 ?_
        refine va_sld hx hb hX hbl hbA hS i1 dL_law_764 ?_
        refine lv_aload_n hx hb dL_law_765 rfl (lv_at hl 0 rfl) ?_
        refine lv_iload_n hx hb dL_law_766 rfl (lv_at hl 3 rfl) ?_
        refine lv_iconst (v := 2) hx hb dL_law_767 (by decide) ?_
        refine lv_iadd hx hb dL_law_768 ?_
        refine va_sld hx hb hX hbl hbA hS i2 dL_law_769 ?_
        obtain ⟨q, qm, hq, hqm, hqr, hrel1⟩ := h_trap X M (xs (x3 + 1).toNatClampNeg) (xs (x3 + 2).toNatClampNeg) hrel
        refine xcVi (w' := (w_X ad cI cC cS X.1 X.2.1 X.2.2.1 X.2.2.2.1 X.2.2.2.2.1 X.2.2.2.2.2.1 X.2.2.2.2.2.2.1 X.2.2.2.2.2.2.2 ++ wMS am cI cC M)) S hK hN hA hP hD hS (c_X6_trap l D cI cC cS (wMS am cI cC M) ad X.1 X.2.1 X.2.2.1 X.2.2.2.1 X.2.2.2.2.1 X.2.2.2.2.2.1 X.2.2.2.2.2.2.1 X.2.2.2.2.2.2.2 (xs (x3 + 1).toNatClampNeg) (xs (x3 + 2).toNatClampNeg) n _ hq) gL_law_X6_trap rfl hd_X6_trap ⟨by decide, by decide⟩ (List.Perm.refl _) (List.Perm.refl _) (ci := 6) (q := (RX6, TX6, 8)) rfl rfl rfl rfl hl.1 rfl (Nat.le_of_ble_eq_true rfl) dL_law_770 ⟨Nat.le_of_ble_eq_true rfl, Nat.le_of_ble_eq_true rfl⟩ (fun H locs hP hD hS => ?_)
        refine lv_aload_n hx hb dL_law_773 rfl (lv_at hl 2 rfl) ?_
        refine lv_aload_n hx hb dL_law_774 rfl (lv_at hl 0 rfl) ?_
        refine lv_iload_n hx hb dL_law_775 rfl (lv_at hl 3 rfl) ?_
        refine lv_iconst (v := 1) hx hb dL_law_776 (by decide) ?_
        refine lv_iadd hx hb dL_law_777 ?_
        refine va_sld hx hb hX hbl hbA hS i1 dL_law_778 ?_
        refine lv_aload_n hx hb dL_law_779 rfl (lv_at hl 0 rfl) ?_
        refine lv_iload_n hx hb dL_law_780 rfl (lv_at hl 3 rfl) ?_
        refine lv_iconst (v := 2) hx hb dL_law_781 (by decide) ?_
        refine lv_iadd hx hb dL_law_782 ?_
        refine va_sld hx hb hX hbl hbA hS i2 dL_law_783 ?_
        refine xcVi (w' := (w_X ad cI cC cS X.1 X.2.1 X.2.2.1 X.2.2.2.1 X.2.2.2.2.1 X.2.2.2.2.2.1 X.2.2.2.2.2.2.1 X.2.2.2.2.2.2.2 ++ w_M am cI cC M.1 M.2.1 M.2.2.1 M.2.2.2.1 M.2.2.2.2.1 M.2.2.2.2.2.1 M.2.2.2.2.2.2.1 M.2.2.2.2.2.2.2.1 M.2.2.2.2.2.2.2.2.1 M.2.2.2.2.2.2.2.2.2.1 M.2.2.2.2.2.2.2.2.2.2.1 M.2.2.2.2.2.2.2.2.2.2.2.1 M.2.2.2.2.2.2.2.2.2.2.2.2.1 M.2.2.2.2.2.2.2.2.2.2.2.2.2.1 M.2.2.2.2.2.2.2.2.2.2.2.2.2.2.1 M.2.2.2.2.2.2.2.2.2.2.2.2.2.2.2.1 M.2.2.2.2.2.2.2.2.2.2.2.2.2.2.2.2.1 M.2.2.2.2.2.2.2.2.2.2.2.2.2.2.2.2.2.1 M.2.2.2.2.2.2.2.2.2.2.2.2.2.2.2.2.2.2)) S hK hN hA hP hD hS (c_X7_trap l D cI cC cS (w_X ad cI cC cS X.1 X.2.1 X.2.2.1 X.2.2.2.1 X.2.2.2.2.1 X.2.2.2.2.2.1 X.2.2.2.2.2.2.1 X.2.2.2.2.2.2.2) am M.1 M.2.1 M.2.2.1 M.2.2.2.1 M.2.2.2.2.1 M.2.2.2.2.2.1 M.2.2.2.2.2.2.1 M.2.2.2.2.2.2.2.1 M.2.2.2.2.2.2.2.2.1 M.2.2.2.2.2.2.2.2.2.1 M.2.2.2.2.2.2.2.2.2.2.1 M.2.2.2.2.2.2.2.2.2.2.2.1 M.2.2.2.2.2.2.2.2.2.2.2.2.1 M.2.2.2.2.2.2.2.2.2.2.2.2.2.1 M.2.2.2.2.2.2.2.2.2.2.2.2.2.2.1 M.2.2.2.2.2.2.2.2.2.2.2.2.2.2.2.1 M.2.2.2.2.2.2.2.2.2.2.2.2.2.2.2.2.1 M.2.2.2.2.2.2.2.2.2.2.2.2.2.2.2.2.2.1 M.2.2.2.2.2.2.2.2.2.2.2.2.2.2.2.2.2.2 (xs (x3 + 1).toNatClampNeg) (xs (x3 + 2).toNatClampNeg) n _ hqm) gL_law_X7_trap rfl hd_X7_trap ⟨by decide, by decide⟩ List.perm_append_comm List.perm_append_comm (ci := 7) (q := (RX7, TX7, 19)) rfl rfl rfl rfl hl.1 rfl (Nat.le_of_ble_eq_true rfl) dL_law_784 ⟨Nat.le_of_ble_eq_true rfl, Nat.le_of_ble_eq_true rfl⟩ (fun H locs hP hD hS => ?_)
        refine lv_icmp_eq (tgt := 950) hx hb dL_law_787 (by decide) (fun _ => ?_) (fun c2 => absurd hqr c2)
        exact J _ _ hrel1 H locs hP hD hS
      have e_23 : sw.toInt ≠ 23 := x_ne (k := 23) cs
      clear cs
      by_cases cs : sw = 24
      · subst cs
        refine lv_tableIn (tgt := 792) hx hb dL_law_32 (by decide) (by decide) rfl (by decide) ?_
        refine lv_aload_n hx hb dL_law_792 rfl (lv_at hl 1 rfl) ?_
        refine lv_aload_n hx hb dL_law_793 rfl (lv_at hl 0 rfl) ?_
        refine lv_iload_n hx hb dL_law_794 rfl (lv_at hl 3 rfl) ?_
        refine lv_iconst (v := 1) hx hb dL_law_795 (by decide) ?_
        refine lv_iadd hx hb dL_law_796 ?_
        refine va_sld hx hb hX hbl hbA hS i1 dL_law_797 ?_
        refine lv_aload_n hx hb dL_law_798 rfl (lv_at hl 0 rfl) ?_
        refine lv_iload_n hx hb dL_law_799 rfl (lv_at hl 3 rfl) ?_
        refine lv_iconst (v := 2) hx hb dL_law_800 (by decide) ?_
        refine lv_iadd hx hb dL_law_801 ?_
        refine va_sld hx hb hX hbl hbA hS i2 dL_law_802 ?_
        obtain ⟨q, qm, hq, hqm, hqr, hrel1⟩ := h_judged X M (xs (x3 + 1).toNatClampNeg) (xs (x3 + 2).toNatClampNeg) hrel
        refine xcVi (w' := (w_X ad cI cC cS X.1 X.2.1 X.2.2.1 X.2.2.2.1 X.2.2.2.2.1 q.2 X.2.2.2.2.2.2.1 X.2.2.2.2.2.2.2 ++ wMS am cI cC M)) S hK hN hA hP hD hS (c_X6_judged l D cI cC cS (wMS am cI cC M) ad X.1 X.2.1 X.2.2.1 X.2.2.2.1 X.2.2.2.2.1 X.2.2.2.2.2.1 X.2.2.2.2.2.2.1 X.2.2.2.2.2.2.2 (xs (x3 + 1).toNatClampNeg) (xs (x3 + 2).toNatClampNeg) n _ hq) gL_law_X6_judged rfl hd_X6_judged ⟨by decide, by decide⟩ (List.Perm.refl _) (List.Perm.refl _) (ci := 6) (q := (RX6, TX6, 8)) rfl rfl rfl rfl hl.1 rfl (Nat.le_of_ble_eq_true rfl) dL_law_803 ⟨Nat.le_of_ble_eq_true rfl, Nat.le_of_ble_eq_true rfl⟩ (fun H locs hP hD hS => ?_)
        refine lv_aload_n hx hb dL_law_806 rfl (lv_at hl 2 rfl) ?_
        refine lv_aload_n hx hb dL_law_807 rfl (lv_at hl 0 rfl) ?_
        refine lv_iload_n hx hb dL_law_808 rfl (lv_at hl 3 rfl) ?_
        refine lv_iconst (v := 1) hx hb dL_law_809 (by decide) ?_
        refine lv_iadd hx hb dL_law_810 ?_
        refine va_sld hx hb hX hbl hbA hS i1 dL_law_811 ?_
        refine lv_aload_n hx hb dL_law_812 rfl (lv_at hl 0 rfl) ?_
        refine lv_iload_n hx hb dL_law_813 rfl (lv_at hl 3 rfl) ?_
        refine lv_iconst (v := 2) hx hb dL_law_814 (by decide) ?_
        refine lv_iadd hx hb dL_law_815 ?_
        refine va_sld hx hb hX hbl hbA hS i2 dL_law_816 ?_
        refine xcVi (w' := (w_X ad cI cC cS X.1 X.2.1 X.2.2.1 X.2.2.2.1 X.2.2.2.2.1 q.2 X.2.2.2.2.2.2.1 X.2.2.2.2.2.2.2 ++ w_M am cI cC M.1 M.2.1 M.2.2.1 M.2.2.2.1 M.2.2.2.2.1 M.2.2.2.2.2.1 M.2.2.2.2.2.2.1 M.2.2.2.2.2.2.2.1 M.2.2.2.2.2.2.2.2.1 M.2.2.2.2.2.2.2.2.2.1 M.2.2.2.2.2.2.2.2.2.2.1 M.2.2.2.2.2.2.2.2.2.2.2.1 M.2.2.2.2.2.2.2.2.2.2.2.2.1 M.2.2.2.2.2.2.2.2.2.2.2.2.2.1 M.2.2.2.2.2.2.2.2.2.2.2.2.2.2.1 M.2.2.2.2.2.2.2.2.2.2.2.2.2.2.2.1 qm.2.1 qm.2.2 M.2.2.2.2.2.2.2.2.2.2.2.2.2.2.2.2.2.2)) S hK hN hA hP hD hS (c_X7_judged l D cI cC cS (w_X ad cI cC cS X.1 X.2.1 X.2.2.1 X.2.2.2.1 X.2.2.2.2.1 q.2 X.2.2.2.2.2.2.1 X.2.2.2.2.2.2.2) am M.1 M.2.1 M.2.2.1 M.2.2.2.1 M.2.2.2.2.1 M.2.2.2.2.2.1 M.2.2.2.2.2.2.1 M.2.2.2.2.2.2.2.1 M.2.2.2.2.2.2.2.2.1 M.2.2.2.2.2.2.2.2.2.1 M.2.2.2.2.2.2.2.2.2.2.1 M.2.2.2.2.2.2.2.2.2.2.2.1 M.2.2.2.2.2.2.2.2.2.2.2.2.1 M.2.2.2.2.2.2.2.2.2.2.2.2.2.1 M.2.2.2.2.2.2.2.2.2.2.2.2.2.2.1 M.2.2.2.2.2.2.2.2.2.2.2.2.2.2.2.1 M.2.2.2.2.2.2.2.2.2.2.2.2.2.2.2.2.1 M.2.2.2.2.2.2.2.2.2.2.2.2.2.2.2.2.2.1 M.2.2.2.2.2.2.2.2.2.2.2.2.2.2.2.2.2.2 (xs (x3 + 1).toNatClampNeg) (xs (x3 + 2).toNatClampNeg) n _ hqm) gL_law_X7_judged rfl hd_X7_judged ⟨by decide, by decide⟩ List.perm_append_comm List.perm_append_comm (ci := 7) (q := (RX7, TX7, 19)) rfl rfl rfl rfl hl.1 rfl (Nat.le_of_ble_eq_true rfl) dL_law_817 ⟨Nat.le_of_ble_eq_true rfl, Nat.le_of_ble_eq_true rfl⟩ (fun H locs hP hD hS => ?_)
        refine lv_icmp_eq (tgt := 950) hx hb dL_law_820 (by decide) (fun _ => ?_) (fun c2 => absurd hqr c2)
        exact J _ _ hrel1 H locs hP hD hS
      have e_24 : sw.toInt ≠ 24 := x_ne (k := 24) cs
      clear cs
      by_cases cs : sw = 25
      · subst cs
        refine lv_tableIn (tgt := 825) hx hb dL_law_32 (by decide) (by decide) rfl (by decide) ?_
        refine lv_aload_n hx hb dL_law_825 rfl (lv_at hl 1 rfl) ?_
        refine lv_aload_n hx hb dL_law_826 rfl (lv_at hl 0 rfl) ?_
        refine lv_iload_n hx hb dL_law_827 rfl (lv_at hl 3 rfl) ?_
        refine lv_iconst (v := 1) hx hb dL_law_828 (by decide) ?_
        refine lv_iadd hx hb dL_law_829 ?_
        refine va_sld hx hb hX hbl hbA hS i1 dL_law_830 ?_
        refine lv_aload_n hx hb dL_law_831 rfl (lv_at hl 0 rfl) ?_
        refine lv_iload_n hx hb dL_law_832 rfl (lv_at hl 3 rfl) ?_
        refine lv_iconst (v := 2) hx hb dL_law_833 (by decide) ?_
        refine lv_iadd hx hb dL_law_834 ?_
        refine va_sld hx hb hX hbl hbA hS i2 dL_law_835 ?_
        obtain ⟨q, qm, hq, hqm, hqr, hrel1⟩ := h_badRings X M (xs (x3 + 1).toNatClampNeg) (xs (x3 + 2).toNatClampNeg) hrel
        refine xcVi (w' := (w_X ad cI cC cS X.1 X.2.1 X.2.2.1 X.2.2.2.1 X.2.2.2.2.1 q.2 X.2.2.2.2.2.2.1 X.2.2.2.2.2.2.2 ++ wMS am cI cC M)) S hK hN hA hP hD hS (c_X6_badRings l D cI cC cS (wMS am cI cC M) ad X.1 X.2.1 X.2.2.1 X.2.2.2.1 X.2.2.2.2.1 X.2.2.2.2.2.1 X.2.2.2.2.2.2.1 X.2.2.2.2.2.2.2 (xs (x3 + 1).toNatClampNeg) (xs (x3 + 2).toNatClampNeg) n _ hq) gL_law_X6_badRings rfl hd_X6_badRings ⟨by decide, by decide⟩ (List.Perm.refl _) (List.Perm.refl _) (ci := 6) (q := (RX6, TX6, 8)) rfl rfl rfl rfl hl.1 rfl (Nat.le_of_ble_eq_true rfl) dL_law_836 ⟨Nat.le_of_ble_eq_true rfl, Nat.le_of_ble_eq_true rfl⟩ (fun H locs hP hD hS => ?_)
        refine lv_aload_n hx hb dL_law_839 rfl (lv_at hl 2 rfl) ?_
        refine lv_aload_n hx hb dL_law_840 rfl (lv_at hl 0 rfl) ?_
        refine lv_iload_n hx hb dL_law_841 rfl (lv_at hl 3 rfl) ?_
        refine lv_iconst (v := 1) hx hb dL_law_842 (by decide) ?_
        refine lv_iadd hx hb dL_law_843 ?_
        refine va_sld hx hb hX hbl hbA hS i1 dL_law_844 ?_
        refine lv_aload_n hx hb dL_law_845 rfl (lv_at hl 0 rfl) ?_
        refine lv_iload_n hx hb dL_law_846 rfl (lv_at hl 3 rfl) ?_
        refine lv_iconst (v := 2) hx hb dL_law_847 (by decide) ?_
        refine lv_iadd hx hb dL_law_848 ?_
        refine va_sld hx hb hX hbl hbA hS i2 dL_law_849 ?_
        refine xcVi (w' := (w_X ad cI cC cS X.1 X.2.1 X.2.2.1 X.2.2.2.1 X.2.2.2.2.1 q.2 X.2.2.2.2.2.2.1 X.2.2.2.2.2.2.2 ++ w_M am cI cC M.1 M.2.1 M.2.2.1 M.2.2.2.1 M.2.2.2.2.1 M.2.2.2.2.2.1 M.2.2.2.2.2.2.1 M.2.2.2.2.2.2.2.1 M.2.2.2.2.2.2.2.2.1 M.2.2.2.2.2.2.2.2.2.1 M.2.2.2.2.2.2.2.2.2.2.1 M.2.2.2.2.2.2.2.2.2.2.2.1 M.2.2.2.2.2.2.2.2.2.2.2.2.1 M.2.2.2.2.2.2.2.2.2.2.2.2.2.1 M.2.2.2.2.2.2.2.2.2.2.2.2.2.2.1 M.2.2.2.2.2.2.2.2.2.2.2.2.2.2.2.1 qm.2.1 qm.2.2 M.2.2.2.2.2.2.2.2.2.2.2.2.2.2.2.2.2.2)) S hK hN hA hP hD hS (c_X7_badRings l D cI cC cS (w_X ad cI cC cS X.1 X.2.1 X.2.2.1 X.2.2.2.1 X.2.2.2.2.1 q.2 X.2.2.2.2.2.2.1 X.2.2.2.2.2.2.2) am M.1 M.2.1 M.2.2.1 M.2.2.2.1 M.2.2.2.2.1 M.2.2.2.2.2.1 M.2.2.2.2.2.2.1 M.2.2.2.2.2.2.2.1 M.2.2.2.2.2.2.2.2.1 M.2.2.2.2.2.2.2.2.2.1 M.2.2.2.2.2.2.2.2.2.2.1 M.2.2.2.2.2.2.2.2.2.2.2.1 M.2.2.2.2.2.2.2.2.2.2.2.2.1 M.2.2.2.2.2.2.2.2.2.2.2.2.2.1 M.2.2.2.2.2.2.2.2.2.2.2.2.2.2.1 M.2.2.2.2.2.2.2.2.2.2.2.2.2.2.2.1 M.2.2.2.2.2.2.2.2.2.2.2.2.2.2.2.2.1 M.2.2.2.2.2.2.2.2.2.2.2.2.2.2.2.2.2.1 M.2.2.2.2.2.2.2.2.2.2.2.2.2.2.2.2.2.2 (xs (x3 + 1).toNatClampNeg) (xs (x3 + 2).toNatClampNeg) n _ hqm) gL_law_X7_badRings rfl hd_X7_badRings ⟨by decide, by decide⟩ List.perm_append_comm List.perm_append_comm (ci := 7) (q := (RX7, TX7, 19)) rfl rfl rfl rfl hl.1 rfl (Nat.le_of_ble_eq_true rfl) dL_law_850 ⟨Nat.le_of_ble_eq_true rfl, Nat.le_of_ble_eq_true rfl⟩ (fun H locs hP hD hS => ?_)
        refine lv_icmp_eq (tgt := 950) hx hb dL_law_853 (by decide) (fun _ => ?_) (fun c2 => absurd hqr c2)
        exact J _ _ hrel1 H locs hP hD hS
      have e_25 : sw.toInt ≠ 25 := x_ne (k := 25) cs
      clear cs
      by_cases cs : sw = 26
      · subst cs
        refine lv_tableIn (tgt := 858) hx hb dL_law_32 (by decide) (by decide) rfl (by decide) ?_
        refine lv_aload_n hx hb dL_law_858 rfl (lv_at hl 1 rfl) ?_
        refine lv_aload_n hx hb dL_law_859 rfl (lv_at hl 0 rfl) ?_
        refine lv_iload_n hx hb dL_law_860 rfl (lv_at hl 3 rfl) ?_
        refine lv_iconst (v := 1) hx hb dL_law_861 (by decide) ?_
        refine lv_iadd hx hb dL_law_862 ?_
        refine va_sld hx hb hX hbl hbA hS i1 dL_law_863 ?_
        obtain ⟨q, qm, hq, hqm, hqr, hrel1⟩ := h_pivots X M (xs (x3 + 1).toNatClampNeg) hrel
        refine xcVi (w' := (w_X ad cI cC cS X.1 X.2.1 X.2.2.1 X.2.2.2.1 X.2.2.2.2.1 q.2.1 q.2.2 X.2.2.2.2.2.2.2 ++ wMS am cI cC M)) S hK hN hA hP hD hS (c_X6_pivots l D cI cC cS (wMS am cI cC M) ad X.1 X.2.1 X.2.2.1 X.2.2.2.1 X.2.2.2.2.1 X.2.2.2.2.2.1 X.2.2.2.2.2.2.1 X.2.2.2.2.2.2.2 (xs (x3 + 1).toNatClampNeg) n _ hq) gL_law_X6_pivots rfl hd_X6_pivots ⟨by decide, by decide⟩ (List.Perm.refl _) (List.Perm.refl _) (ci := 6) (q := (RX6, TX6, 8)) rfl rfl rfl rfl hl.1 rfl (Nat.le_of_ble_eq_true rfl) dL_law_864 ⟨Nat.le_of_ble_eq_true rfl, Nat.le_of_ble_eq_true rfl⟩ (fun H locs hP hD hS => ?_)
        refine lv_aload_n hx hb dL_law_867 rfl (lv_at hl 2 rfl) ?_
        refine lv_aload_n hx hb dL_law_868 rfl (lv_at hl 0 rfl) ?_
        refine lv_iload_n hx hb dL_law_869 rfl (lv_at hl 3 rfl) ?_
        refine lv_iconst (v := 1) hx hb dL_law_870 (by decide) ?_
        refine lv_iadd hx hb dL_law_871 ?_
        refine va_sld hx hb hX hbl hbA hS i1 dL_law_872 ?_
        refine xcVi (w' := (w_X ad cI cC cS X.1 X.2.1 X.2.2.1 X.2.2.2.1 X.2.2.2.2.1 q.2.1 q.2.2 X.2.2.2.2.2.2.2 ++ w_M am cI cC qm.2.1 M.2.1 M.2.2.1 M.2.2.2.1 M.2.2.2.2.1 qm.2.2.1 qm.2.2.2.1 qm.2.2.2.2.1 qm.2.2.2.2.2.1 qm.2.2.2.2.2.2 M.2.2.2.2.2.2.2.2.2.2.1 M.2.2.2.2.2.2.2.2.2.2.2.1 M.2.2.2.2.2.2.2.2.2.2.2.2.1 M.2.2.2.2.2.2.2.2.2.2.2.2.2.1 M.2.2.2.2.2.2.2.2.2.2.2.2.2.2.1 M.2.2.2.2.2.2.2.2.2.2.2.2.2.2.2.1 M.2.2.2.2.2.2.2.2.2.2.2.2.2.2.2.2.1 M.2.2.2.2.2.2.2.2.2.2.2.2.2.2.2.2.2.1 M.2.2.2.2.2.2.2.2.2.2.2.2.2.2.2.2.2.2)) S hK hN hA hP hD hS (c_X7_pivots l D cI cC cS (w_X ad cI cC cS X.1 X.2.1 X.2.2.1 X.2.2.2.1 X.2.2.2.2.1 q.2.1 q.2.2 X.2.2.2.2.2.2.2) am M.1 M.2.1 M.2.2.1 M.2.2.2.1 M.2.2.2.2.1 M.2.2.2.2.2.1 M.2.2.2.2.2.2.1 M.2.2.2.2.2.2.2.1 M.2.2.2.2.2.2.2.2.1 M.2.2.2.2.2.2.2.2.2.1 M.2.2.2.2.2.2.2.2.2.2.1 M.2.2.2.2.2.2.2.2.2.2.2.1 M.2.2.2.2.2.2.2.2.2.2.2.2.1 M.2.2.2.2.2.2.2.2.2.2.2.2.2.1 M.2.2.2.2.2.2.2.2.2.2.2.2.2.2.1 M.2.2.2.2.2.2.2.2.2.2.2.2.2.2.2.1 M.2.2.2.2.2.2.2.2.2.2.2.2.2.2.2.2.1 M.2.2.2.2.2.2.2.2.2.2.2.2.2.2.2.2.2.1 M.2.2.2.2.2.2.2.2.2.2.2.2.2.2.2.2.2.2 (xs (x3 + 1).toNatClampNeg) n _ hqm) gL_law_X7_pivots rfl hd_X7_pivots ⟨by decide, by decide⟩ List.perm_append_comm List.perm_append_comm (ci := 7) (q := (RX7, TX7, 19)) rfl rfl rfl rfl hl.1 rfl (Nat.le_of_ble_eq_true rfl) dL_law_873 ⟨Nat.le_of_ble_eq_true rfl, Nat.le_of_ble_eq_true rfl⟩ (fun H locs hP hD hS => ?_)
        refine lv_icmp_eq (tgt := 950) hx hb dL_law_876 (by decide) (fun _ => ?_) (fun c2 => absurd hqr c2)
        exact J _ _ hrel1 H locs hP hD hS
      have e_26 : sw.toInt ≠ 26 := x_ne (k := 26) cs
      clear cs
      by_cases cs : sw = 27
      · subst cs
        refine lv_tableIn (tgt := 881) hx hb dL_law_32 (by decide) (by decide) rfl (by decide) ?_
        refine lv_aload_n hx hb dL_law_881 rfl (lv_at hl 1 rfl) ?_
        refine lv_aload_n hx hb dL_law_882 rfl (lv_at hl 0 rfl) ?_
        refine lv_iload_n hx hb dL_law_883 rfl (lv_at hl 3 rfl) ?_
        refine lv_iconst (v := 1) hx hb dL_law_884 (by decide) ?_
        refine lv_iadd hx hb dL_law_885 ?_
        refine va_sld hx hb hX hbl hbA hS i1 dL_law_886 ?_
        obtain ⟨q, qm, hq, hqm, hqr, hrel1⟩ := h_weakArrows X M (xs (x3 + 1).toNatClampNeg) hrel
        refine xcVi (w' := (w_X ad cI cC cS X.1 X.2.1 X.2.2.1 X.2.2.2.1 X.2.2.2.2.1 q.2.1 q.2.2 X.2.2.2.2.2.2.2 ++ wMS am cI cC M)) S hK hN hA hP hD hS (c_X6_weakArrows l D cI cC cS (wMS am cI cC M) ad X.1 X.2.1 X.2.2.1 X.2.2.2.1 X.2.2.2.2.1 X.2.2.2.2.2.1 X.2.2.2.2.2.2.1 X.2.2.2.2.2.2.2 (xs (x3 + 1).toNatClampNeg) n _ hq) gL_law_X6_weakArrows rfl hd_X6_weakArrows ⟨by decide, by decide⟩ (List.Perm.refl _) (List.Perm.refl _) (ci := 6) (q := (RX6, TX6, 8)) rfl rfl rfl rfl hl.1 rfl (Nat.le_of_ble_eq_true rfl) dL_law_887 ⟨Nat.le_of_ble_eq_true rfl, Nat.le_of_ble_eq_true rfl⟩ (fun H locs hP hD hS => ?_)
        refine lv_aload_n hx hb dL_law_890 rfl (lv_at hl 2 rfl) ?_
        refine lv_aload_n hx hb dL_law_891 rfl (lv_at hl 0 rfl) ?_
        refine lv_iload_n hx hb dL_law_892 rfl (lv_at hl 3 rfl) ?_
        refine lv_iconst (v := 1) hx hb dL_law_893 (by decide) ?_
        refine lv_iadd hx hb dL_law_894 ?_
        refine va_sld hx hb hX hbl hbA hS i1 dL_law_895 ?_
        refine xcVi (w' := (w_X ad cI cC cS X.1 X.2.1 X.2.2.1 X.2.2.2.1 X.2.2.2.2.1 q.2.1 q.2.2 X.2.2.2.2.2.2.2 ++ w_M am cI cC qm.2.1 M.2.1 M.2.2.1 M.2.2.2.1 M.2.2.2.2.1 qm.2.2.1 qm.2.2.2.1 qm.2.2.2.2.1 qm.2.2.2.2.2.1 qm.2.2.2.2.2.2 M.2.2.2.2.2.2.2.2.2.2.1 M.2.2.2.2.2.2.2.2.2.2.2.1 M.2.2.2.2.2.2.2.2.2.2.2.2.1 M.2.2.2.2.2.2.2.2.2.2.2.2.2.1 M.2.2.2.2.2.2.2.2.2.2.2.2.2.2.1 M.2.2.2.2.2.2.2.2.2.2.2.2.2.2.2.1 M.2.2.2.2.2.2.2.2.2.2.2.2.2.2.2.2.1 M.2.2.2.2.2.2.2.2.2.2.2.2.2.2.2.2.2.1 M.2.2.2.2.2.2.2.2.2.2.2.2.2.2.2.2.2.2)) S hK hN hA hP hD hS (c_X7_weakArrows l D cI cC cS (w_X ad cI cC cS X.1 X.2.1 X.2.2.1 X.2.2.2.1 X.2.2.2.2.1 q.2.1 q.2.2 X.2.2.2.2.2.2.2) am M.1 M.2.1 M.2.2.1 M.2.2.2.1 M.2.2.2.2.1 M.2.2.2.2.2.1 M.2.2.2.2.2.2.1 M.2.2.2.2.2.2.2.1 M.2.2.2.2.2.2.2.2.1 M.2.2.2.2.2.2.2.2.2.1 M.2.2.2.2.2.2.2.2.2.2.1 M.2.2.2.2.2.2.2.2.2.2.2.1 M.2.2.2.2.2.2.2.2.2.2.2.2.1 M.2.2.2.2.2.2.2.2.2.2.2.2.2.1 M.2.2.2.2.2.2.2.2.2.2.2.2.2.2.1 M.2.2.2.2.2.2.2.2.2.2.2.2.2.2.2.1 M.2.2.2.2.2.2.2.2.2.2.2.2.2.2.2.2.1 M.2.2.2.2.2.2.2.2.2.2.2.2.2.2.2.2.2.1 M.2.2.2.2.2.2.2.2.2.2.2.2.2.2.2.2.2.2 (xs (x3 + 1).toNatClampNeg) n _ hqm) gL_law_X7_weakArrows rfl hd_X7_weakArrows ⟨by decide, by decide⟩ List.perm_append_comm List.perm_append_comm (ci := 7) (q := (RX7, TX7, 19)) rfl rfl rfl rfl hl.1 rfl (Nat.le_of_ble_eq_true rfl) dL_law_896 ⟨Nat.le_of_ble_eq_true rfl, Nat.le_of_ble_eq_true rfl⟩ (fun H locs hP hD hS => ?_)
        refine lv_icmp_eq (tgt := 950) hx hb dL_law_899 (by decide) (fun _ => ?_) (fun c2 => absurd hqr c2)
        exact J _ _ hrel1 H locs hP hD hS
      have e_27 : sw.toInt ≠ 27 := x_ne (k := 27) cs
      clear cs
      by_cases cs : sw = 28
      · subst cs
        refine lv_tableIn (tgt := 904) hx hb dL_law_32 (by decide) (by decide) rfl (by decide) ?_
        refine lv_aload_n hx hb dL_law_904 rfl (lv_at hl 1 rfl) ?_
        refine lv_aload_n hx hb dL_law_905 rfl (lv_at hl 0 rfl) ?_
        refine lv_iload_n hx hb dL_law_906 rfl (lv_at hl 3 rfl) ?_
        refine lv_iconst (v := 1) hx hb dL_law_907 (by decide) ?_
        refine lv_iadd hx hb dL_law_908 ?_
        refine va_sld hx hb hX hbl hbA hS i1 dL_law_909 ?_
        obtain ⟨q, qm, hq, hqm, hqr, hrel1⟩ := h_token X M (xs (x3 + 1).toNatClampNeg) hrel
        refine xcVi (w' := (w_X ad cI cC cS X.1 X.2.1 X.2.2.1 X.2.2.2.1 X.2.2.2.2.1 q.2.1 q.2.2.1 q.2.2.2 ++ wMS am cI cC M)) S hK hN hA hP hD hS (c_X6_token l D cI cC cS (wMS am cI cC M) ad X.1 X.2.1 X.2.2.1 X.2.2.2.1 X.2.2.2.2.1 X.2.2.2.2.2.1 X.2.2.2.2.2.2.1 X.2.2.2.2.2.2.2 (xs (x3 + 1).toNatClampNeg) n _ hq) gL_law_X6_token rfl hd_X6_token ⟨by decide, by decide⟩ (List.Perm.refl _) (List.Perm.refl _) (ci := 6) (q := (RX6, TX6, 8)) rfl rfl rfl rfl hl.1 rfl (Nat.le_of_ble_eq_true rfl) dL_law_910 ⟨Nat.le_of_ble_eq_true rfl, Nat.le_of_ble_eq_true rfl⟩ (fun H locs hP hD hS => ?_)
        refine lv_aload_n hx hb dL_law_913 rfl (lv_at hl 2 rfl) ?_
        refine lv_aload_n hx hb dL_law_914 rfl (lv_at hl 0 rfl) ?_
        refine lv_iload_n hx hb dL_law_915 rfl (lv_at hl 3 rfl) ?_
        refine lv_iconst (v := 1) hx hb dL_law_916 (by decide) ?_
        refine lv_iadd hx hb dL_law_917 ?_
        refine va_sld hx hb hX hbl hbA hS i1 dL_law_918 ?_
        refine xcVi (w' := (w_X ad cI cC cS X.1 X.2.1 X.2.2.1 X.2.2.2.1 X.2.2.2.2.1 q.2.1 q.2.2.1 q.2.2.2 ++ w_M am cI cC M.1 M.2.1 M.2.2.1 M.2.2.2.1 M.2.2.2.2.1 qm.2.1 qm.2.2.1 qm.2.2.2.1 qm.2.2.2.2.1 qm.2.2.2.2.2.1 M.2.2.2.2.2.2.2.2.2.2.1 M.2.2.2.2.2.2.2.2.2.2.2.1 M.2.2.2.2.2.2.2.2.2.2.2.2.1 M.2.2.2.2.2.2.2.2.2.2.2.2.2.1 M.2.2.2.2.2.2.2.2.2.2.2.2.2.2.1 M.2.2.2.2.2.2.2.2.2.2.2.2.2.2.2.1 M.2.2.2.2.2.2.2.2.2.2.2.2.2.2.2.2.1 M.2.2.2.2.2.2.2.2.2.2.2.2.2.2.2.2.2.1 qm.2.2.2.2.2.2)) S hK hN hA hP hD hS (c_X7_token l D cI cC cS (w_X ad cI cC cS X.1 X.2.1 X.2.2.1 X.2.2.2.1 X.2.2.2.2.1 q.2.1 q.2.2.1 q.2.2.2) am M.1 M.2.1 M.2.2.1 M.2.2.2.1 M.2.2.2.2.1 M.2.2.2.2.2.1 M.2.2.2.2.2.2.1 M.2.2.2.2.2.2.2.1 M.2.2.2.2.2.2.2.2.1 M.2.2.2.2.2.2.2.2.2.1 M.2.2.2.2.2.2.2.2.2.2.1 M.2.2.2.2.2.2.2.2.2.2.2.1 M.2.2.2.2.2.2.2.2.2.2.2.2.1 M.2.2.2.2.2.2.2.2.2.2.2.2.2.1 M.2.2.2.2.2.2.2.2.2.2.2.2.2.2.1 M.2.2.2.2.2.2.2.2.2.2.2.2.2.2.2.1 M.2.2.2.2.2.2.2.2.2.2.2.2.2.2.2.2.1 M.2.2.2.2.2.2.2.2.2.2.2.2.2.2.2.2.2.1 M.2.2.2.2.2.2.2.2.2.2.2.2.2.2.2.2.2.2 (xs (x3 + 1).toNatClampNeg) n _ hqm) gL_law_X7_token rfl hd_X7_token ⟨by decide, by decide⟩ List.perm_append_comm List.perm_append_comm (ci := 7) (q := (RX7, TX7, 19)) rfl rfl rfl rfl hl.1 rfl (Nat.le_of_ble_eq_true rfl) dL_law_919 ⟨Nat.le_of_ble_eq_true rfl, Nat.le_of_ble_eq_true rfl⟩ (fun H locs hP hD hS => ?_)
        refine lv_icmp_eq (tgt := 950) hx hb dL_law_922 (by decide) (fun _ => ?_) (fun c2 => absurd hqr c2)
        exact J _ _ hrel1 H locs hP hD hS
      have e_28 : sw.toInt ≠ 28 := x_ne (k := 28) cs
      clear cs
      by_cases cs : sw = 29
      · subst cs
        refine lv_tableIn (tgt := 927) hx hb dL_law_32 (by decide) (by decide) rfl (by decide) ?_
        refine lv_aload_n hx hb dL_law_927 rfl (lv_at hl 1 rfl) ?_
        refine lv_aload_n hx hb dL_law_928 rfl (lv_at hl 0 rfl) ?_
        refine lv_iload_n hx hb dL_law_929 rfl (lv_at hl 3 rfl) ?_
        refine lv_iconst (v := 1) hx hb dL_law_930 (by decide) ?_
        refine lv_iadd hx hb dL_law_931 ?_
        refine va_sld hx hb hX hbl hbA hS i1 dL_law_932 ?_
        obtain ⟨q, qm, hq, hqm, hqr, hrel1⟩ := h_count X M (xs (x3 + 1).toNatClampNeg) hrel
        refine xcVi (w' := (w_X ad cI cC cS X.1 X.2.1 X.2.2.1 X.2.2.2.1 X.2.2.2.2.1 X.2.2.2.2.2.1 X.2.2.2.2.2.2.1 X.2.2.2.2.2.2.2 ++ wMS am cI cC M)) S hK hN hA hP hD hS (c_X6_count l D cI cC cS (wMS am cI cC M) ad X.1 X.2.1 X.2.2.1 X.2.2.2.1 X.2.2.2.2.1 X.2.2.2.2.2.1 X.2.2.2.2.2.2.1 X.2.2.2.2.2.2.2 (xs (x3 + 1).toNatClampNeg) n _ hq) gL_law_X6_count rfl hd_X6_count ⟨by decide, by decide⟩ (List.Perm.refl _) (List.Perm.refl _) (ci := 6) (q := (RX6, TX6, 8)) rfl rfl rfl rfl hl.1 rfl (Nat.le_of_ble_eq_true rfl) dL_law_933 ⟨Nat.le_of_ble_eq_true rfl, Nat.le_of_ble_eq_true rfl⟩ (fun H locs hP hD hS => ?_)
        refine lv_aload_n hx hb dL_law_936 rfl (lv_at hl 2 rfl) ?_
        refine lv_aload_n hx hb dL_law_937 rfl (lv_at hl 0 rfl) ?_
        refine lv_iload_n hx hb dL_law_938 rfl (lv_at hl 3 rfl) ?_
        refine lv_iconst (v := 1) hx hb dL_law_939 (by decide) ?_
        refine lv_iadd hx hb dL_law_940 ?_
        refine va_sld hx hb hX hbl hbA hS i1 dL_law_941 ?_
        refine xcVi (w' := (w_X ad cI cC cS X.1 X.2.1 X.2.2.1 X.2.2.2.1 X.2.2.2.2.1 X.2.2.2.2.2.1 X.2.2.2.2.2.2.1 X.2.2.2.2.2.2.2 ++ w_M am cI cC M.1 M.2.1 M.2.2.1 M.2.2.2.1 M.2.2.2.2.1 M.2.2.2.2.2.1 M.2.2.2.2.2.2.1 M.2.2.2.2.2.2.2.1 M.2.2.2.2.2.2.2.2.1 M.2.2.2.2.2.2.2.2.2.1 M.2.2.2.2.2.2.2.2.2.2.1 M.2.2.2.2.2.2.2.2.2.2.2.1 M.2.2.2.2.2.2.2.2.2.2.2.2.1 M.2.2.2.2.2.2.2.2.2.2.2.2.2.1 M.2.2.2.2.2.2.2.2.2.2.2.2.2.2.1 M.2.2.2.2.2.2.2.2.2.2.2.2.2.2.2.1 M.2.2.2.2.2.2.2.2.2.2.2.2.2.2.2.2.1 M.2.2.2.2.2.2.2.2.2.2.2.2.2.2.2.2.2.1 M.2.2.2.2.2.2.2.2.2.2.2.2.2.2.2.2.2.2)) S hK hN hA hP hD hS (c_X7_count l D cI cC cS (w_X ad cI cC cS X.1 X.2.1 X.2.2.1 X.2.2.2.1 X.2.2.2.2.1 X.2.2.2.2.2.1 X.2.2.2.2.2.2.1 X.2.2.2.2.2.2.2) am M.1 M.2.1 M.2.2.1 M.2.2.2.1 M.2.2.2.2.1 M.2.2.2.2.2.1 M.2.2.2.2.2.2.1 M.2.2.2.2.2.2.2.1 M.2.2.2.2.2.2.2.2.1 M.2.2.2.2.2.2.2.2.2.1 M.2.2.2.2.2.2.2.2.2.2.1 M.2.2.2.2.2.2.2.2.2.2.2.1 M.2.2.2.2.2.2.2.2.2.2.2.2.1 M.2.2.2.2.2.2.2.2.2.2.2.2.2.1 M.2.2.2.2.2.2.2.2.2.2.2.2.2.2.1 M.2.2.2.2.2.2.2.2.2.2.2.2.2.2.2.1 M.2.2.2.2.2.2.2.2.2.2.2.2.2.2.2.2.1 M.2.2.2.2.2.2.2.2.2.2.2.2.2.2.2.2.2.1 M.2.2.2.2.2.2.2.2.2.2.2.2.2.2.2.2.2.2 (xs (x3 + 1).toNatClampNeg) n _ hqm) gL_law_X7_count rfl hd_X7_count ⟨by decide, by decide⟩ List.perm_append_comm List.perm_append_comm (ci := 7) (q := (RX7, TX7, 19)) rfl rfl rfl rfl hl.1 rfl (Nat.le_of_ble_eq_true rfl) dL_law_942 ⟨Nat.le_of_ble_eq_true rfl, Nat.le_of_ble_eq_true rfl⟩ (fun H locs hP hD hS => ?_)
        refine lv_icmp_eq (tgt := 950) hx hb dL_law_945 (by decide) (fun _ => ?_) (fun c2 => absurd hqr c2)
        exact J _ _ hrel1 H locs hP hD hS
      have e_29 : sw.toInt ≠ 29 := x_ne (k := 29) cs
      clear cs
      refine lv_tableOut (tgt := 950) hx hb dL_law_32 (by omega) (by decide) ?_
      exact J X M hrel H locs hP hD hS
