def f_X1_become (o0 : GG) (o1 : GG) : Option GG := some ((o1.1, (cp14 o1.2.1 o0.2.1), (cp14 o1.2.2.1 o0.2.2.1), (cp14 o1.2.2.2 o0.2.2.2)))
theorem inw_X1_become_1 : ∀ w ∈ wsX10, w ∈ wsX1_become := fun _ h => List.mem_cons_of_mem _ (List.mem_append_right _ h)
theorem hd_X1_become : yX1_become.cls = RX1 ∧ yX1_become.cls ≠ "java/lang/invoke/MethodHandle" ∧ yX1_become.cls ≠ "java/lang/invoke/VarHandle" ∧ (parseMethodDescriptor yX1_become.desc).map (fun d => d.parameters.length) = some 1 := by decide +kernel
set_option maxHeartbeats 4000000 in
set_option maxRecDepth 100000 in
theorem c_X1_become (l : Launch) (D : va_G) (cI cC cS : ClassId) (R : va_W) (a0 : Nat → Nat) (a1 : Nat → Nat) (o0 : GG) (o1 : GG) (r : GG) (hf : f_X1_become o0 o1 = some r) : CV l yX1_become wsX1_become 1 60 D cI cC cS [.ref (a0 0), .ref (a1 0)] ((w_G a0 cI o0 ++ w_G a1 cI o1) ++ R) ((w_G a0 cI r ++ w_G a1 cI o1) ++ R) := by
  refine XV.of (cc := cX1_become) (maxL := 2) (own := RX1) (by decide) rfl rfl (Nat.le_of_ble_eq_true rfl) ?_
  intro p e s m args below meth c A Q S hK hN hA hP hD hS ls hl hret
  obtain ⟨hx, hb, hml, hown, hts⟩ := id S
  have hl : lv_has ls 2 [(0, .ref (a0 0)), (1, .ref (a1 0))] := hl
  unfold f_X1_become at hf
  refine lv_aload_n hx hb dX1_become_0 rfl (lv_at hl 0 rfl) ?_
  refine lv_aload_n hx hb dX1_become_1 rfl (lv_at hl 1 rfl) ?_
  refine va_get (D := D) (ci := 1) (v := .int o1.1) (C := RX1) (T := TX1) (N := 4) hx hb hts inw_X1_become_1 hown hK hP 4 rfl rfl 0 (by decide) (hts (.fieldLink RX1 21 "RingGames$Game" "size" "I") (List.mem_of_getElem? (i := 1) rfl)) (fun _ h9 => h9) rfl dX1_become_2 ?_
  refine va_put (D := D) (ci := 1) (v := .int o1.1) (ty := .int) (C := RX1) (T := TX1) (N := 4) hx hb hts inw_X1_become_1 tyX1 tyX1_ok nmX1 hown hK hP hD hS 0 rfl rfl 0 (by decide) (hts (.fieldLink RX1 21 "RingGames$Game" "size" "I") (List.mem_of_getElem? (i := 1) rfl)) (fun _ h9 => h9) rfl (tyX1_ok 0 (by decide)) rfl rfl (Nat.le_of_ble_eq_true rfl) dX1_become_5 (fun H locs hP hD hS => ?_)
  have hP : va_P D vwCl ((w_G a0 cI (o1.1, o0.2.1, o0.2.2.1, o0.2.2.2) ++ w_G a1 cI o1) ++ R) H := hP
  have hD : va_D A ((w_G a0 cI (o1.1, o0.2.1, o0.2.2.1, o0.2.2.2) ++ w_G a1 cI o1) ++ R) := hD
  refine lv_aload_n hx hb dX1_become_8 rfl (lv_at hl 1 rfl) ?_
  refine va_get (D := D) (ci := 1) (v := .ref (a1 1)) (C := RX1) (T := TX1) (N := 4) hx hb hts inw_X1_become_1 hown hK hP 4 rfl rfl 1 (by decide) (hts (.fieldLink RX1 9 "RingGames$Game" "owners" "[I") (List.mem_of_getElem? (i := 2) rfl)) (fun _ h9 => h9) rfl dX1_become_9 ?_
  refine lv_iconst (v := 0) hx hb dX1_become_12 (by decide) ?_
  refine lv_aload_n hx hb dX1_become_13 rfl (lv_at hl 0 rfl) ?_
  refine va_get (D := D) (ci := 1) (v := .ref (a0 1)) (C := RX1) (T := TX1) (N := 4) hx hb hts inw_X1_become_1 hown hK hP 0 rfl rfl 1 (by decide) (hts (.fieldLink RX1 9 "RingGames$Game" "owners" "[I") (List.mem_of_getElem? (i := 2) rfl)) (fun _ h9 => h9) rfl dX1_become_14 ?_
  refine lv_iconst (v := 0) hx hb dX1_become_17 (by decide) ?_
  refine lv_bipush (v := 14) hx hb dX1_become_18 (by decide) ?_
  refine va_copyi hx hb (hml.trans hl.1.symm) hown (hts (.methodLink RX1 25 arraycopyName) (List.mem_of_getElem? (i := 3) rfl)) (hts (.native arraycopyName) (List.mem_of_getElem? (i := 4) rfl)) (hts (.static arraycopyName) (List.mem_of_getElem? (i := 5) rfl)) (hts (.initialized "java/lang/System") (List.mem_of_getElem? (i := 6) rfl)) hK hP hD hS 5 1 0 0 rfl rfl rfl rfl rfl (by decide) (by decide) (by decide) (by decide) (by decide) (fun _ _ => rfl) (by decide) (by decide +kernel) dX1_become_20 (fun H locs hP hD hS => ?_)
  have hP : va_P D vwCl ((w_G a0 cI (o1.1, (cp14 o1.2.1 o0.2.1), o0.2.2.1, o0.2.2.2) ++ w_G a1 cI o1) ++ R) H := hP
  have hD : va_D A ((w_G a0 cI (o1.1, (cp14 o1.2.1 o0.2.1), o0.2.2.1, o0.2.2.2) ++ w_G a1 cI o1) ++ R) := hD
  refine lv_aload_n hx hb dX1_become_23 rfl (lv_at hl 1 rfl) ?_
  refine va_get (D := D) (ci := 1) (v := .ref (a1 2)) (C := RX1) (T := TX1) (N := 4) hx hb hts inw_X1_become_1 hown hK hP 4 rfl rfl 2 (by decide) (hts (.fieldLink RX1 15 "RingGames$Game" "colours" "[I") (List.mem_of_getElem? (i := 7) rfl)) (fun _ h9 => h9) rfl dX1_become_24 ?_
  refine lv_iconst (v := 0) hx hb dX1_become_27 (by decide) ?_
  refine lv_aload_n hx hb dX1_become_28 rfl (lv_at hl 0 rfl) ?_
  refine va_get (D := D) (ci := 1) (v := .ref (a0 2)) (C := RX1) (T := TX1) (N := 4) hx hb hts inw_X1_become_1 hown hK hP 0 rfl rfl 2 (by decide) (hts (.fieldLink RX1 15 "RingGames$Game" "colours" "[I") (List.mem_of_getElem? (i := 7) rfl)) (fun _ h9 => h9) rfl dX1_become_29 ?_
  refine lv_iconst (v := 0) hx hb dX1_become_32 (by decide) ?_
  refine lv_bipush (v := 14) hx hb dX1_become_33 (by decide) ?_
  refine va_copyi hx hb (hml.trans hl.1.symm) hown (hts (.methodLink RX1 25 arraycopyName) (List.mem_of_getElem? (i := 3) rfl)) (hts (.native arraycopyName) (List.mem_of_getElem? (i := 4) rfl)) (hts (.static arraycopyName) (List.mem_of_getElem? (i := 5) rfl)) (hts (.initialized "java/lang/System") (List.mem_of_getElem? (i := 6) rfl)) hK hP hD hS 6 2 0 0 rfl rfl rfl rfl rfl (by decide) (by decide) (by decide) (by decide) (by decide) (fun _ _ => rfl) (by decide) (by decide +kernel) dX1_become_35 (fun H locs hP hD hS => ?_)
  have hP : va_P D vwCl ((w_G a0 cI (o1.1, (cp14 o1.2.1 o0.2.1), (cp14 o1.2.2.1 o0.2.2.1), o0.2.2.2) ++ w_G a1 cI o1) ++ R) H := hP
  have hD : va_D A ((w_G a0 cI (o1.1, (cp14 o1.2.1 o0.2.1), (cp14 o1.2.2.1 o0.2.2.1), o0.2.2.2) ++ w_G a1 cI o1) ++ R) := hD
  refine lv_aload_n hx hb dX1_become_38 rfl (lv_at hl 1 rfl) ?_
  refine va_get (D := D) (ci := 1) (v := .ref (a1 3)) (C := RX1) (T := TX1) (N := 4) hx hb hts inw_X1_become_1 hown hK hP 4 rfl rfl 3 (by decide) (hts (.fieldLink RX1 18 "RingGames$Game" "arrows" "[I") (List.mem_of_getElem? (i := 8) rfl)) (fun _ h9 => h9) rfl dX1_become_39 ?_
  refine lv_iconst (v := 0) hx hb dX1_become_42 (by decide) ?_
  refine lv_aload_n hx hb dX1_become_43 rfl (lv_at hl 0 rfl) ?_
  refine va_get (D := D) (ci := 1) (v := .ref (a0 3)) (C := RX1) (T := TX1) (N := 4) hx hb hts inw_X1_become_1 hown hK hP 0 rfl rfl 3 (by decide) (hts (.fieldLink RX1 18 "RingGames$Game" "arrows" "[I") (List.mem_of_getElem? (i := 8) rfl)) (fun _ h9 => h9) rfl dX1_become_44 ?_
  refine lv_iconst (v := 0) hx hb dX1_become_47 (by decide) ?_
  refine lv_bipush (v := 14) hx hb dX1_become_48 (by decide) ?_
  refine va_copyi hx hb (hml.trans hl.1.symm) hown (hts (.methodLink RX1 25 arraycopyName) (List.mem_of_getElem? (i := 3) rfl)) (hts (.native arraycopyName) (List.mem_of_getElem? (i := 4) rfl)) (hts (.static arraycopyName) (List.mem_of_getElem? (i := 5) rfl)) (hts (.initialized "java/lang/System") (List.mem_of_getElem? (i := 6) rfl)) hK hP hD hS 7 3 0 0 rfl rfl rfl rfl rfl (by decide) (by decide) (by decide) (by decide) (by decide) (fun _ _ => rfl) (by decide) (by decide +kernel) dX1_become_50 (fun H locs hP hD hS => ?_)
  have hP : va_P D vwCl ((w_G a0 cI (o1.1, (cp14 o1.2.1 o0.2.1), (cp14 o1.2.2.1 o0.2.2.1), (cp14 o1.2.2.2 o0.2.2.2)) ++ w_G a1 cI o1) ++ R) H := hP
  have hD : va_D A ((w_G a0 cI (o1.1, (cp14 o1.2.1 o0.2.1), (cp14 o1.2.2.1 o0.2.2.1), (cp14 o1.2.2.2 o0.2.2.2)) ++ w_G a1 cI o1) ++ R) := hD
  have hf := Option.some.inj hf
  subst hf
  exact hret _ _ _ _ dX1_become_53 hP hD hS
def f_X1_has (o0 : GG) (p1 : Int32) : Option Int32 := (if p1 < 0 then some (0) else (if o0.1 ≤ p1 then some (0) else some (1)))
theorem inw_X1_has_1 : ∀ w ∈ wsX10, w ∈ wsX1_has := fun _ h => List.mem_cons_of_mem _ (List.mem_append_right _ h)
theorem hd_X1_has : yX1_has.cls = RX1 ∧ yX1_has.cls ≠ "java/lang/invoke/MethodHandle" ∧ yX1_has.cls ≠ "java/lang/invoke/VarHandle" ∧ (parseMethodDescriptor yX1_has.desc).map (fun d => d.parameters.length) = some 1 := by decide +kernel
set_option maxHeartbeats 4000000 in
set_option maxRecDepth 100000 in
theorem c_X1_has (l : Launch) (D : va_G) (cI cC cS : ClassId) (R : va_W) (a0 : Nat → Nat) (o0 : GG) (p1 : Int32) (r : Int32) (hf : f_X1_has o0 p1 = some r) : CI l yX1_has wsX1_has 0 0 D cI cC cS [.ref (a0 0), .int p1] ((w_G a0 cI o0) ++ R) r ((w_G a0 cI o0) ++ R) := by
  refine XI.of (cc := cX1_has) (maxL := 2) (ty := .boolean) (own := RX1) (by decide) rfl rfl (Nat.le_of_ble_eq_true rfl) ?_
  intro p e s m args below meth c A Q S hK hN hA hP hD hS ls hl hret
  obtain ⟨hx, hb, hml, hown, hts⟩ := id S
  have hl : lv_has ls 2 [(0, .ref (a0 0)), (1, .int p1)] := hl
  unfold f_X1_has at hf
  refine lv_iload_n hx hb dX1_has_0 rfl (lv_at hl 1 rfl) ?_
  refine lv_if_lt (tgt := 16) hx hb dX1_has_1 (by decide) (fun c1 => ?_) (fun c1 => ?_)
  · have hf := if_t hf c1
    refine lv_iconst (v := 0) hx hb dX1_has_16 (by decide) ?_
    have hf := Option.some.inj hf
    subst hf
    exact hret _ _ _ _ _ dX1_has_17 rfl hP hD hS rfl
  · have hf := if_f hf c1
    refine lv_iload_n hx hb dX1_has_4 rfl (lv_at hl 1 rfl) ?_
    refine lv_aload_n hx hb dX1_has_5 rfl (lv_at hl 0 rfl) ?_
    refine va_get (D := D) (ci := 1) (v := .int o0.1) (C := RX1) (T := TX1) (N := 4) hx hb hts inw_X1_has_1 hown hK hP 0 rfl rfl 0 (by decide) (hts (.fieldLink RX1 21 "RingGames$Game" "size" "I") (List.mem_of_getElem? (i := 1) rfl)) (fun _ h9 => h9) rfl dX1_has_6 ?_
    refine lv_icmp_ge (tgt := 16) hx hb dX1_has_9 (by decide) (fun c2 => ?_) (fun c2 => ?_)
    · have hf := if_t hf c2
      refine lv_iconst (v := 0) hx hb dX1_has_16 (by decide) ?_
      have hf := Option.some.inj hf
      subst hf
      exact hret _ _ _ _ _ dX1_has_17 rfl hP hD hS rfl
    · have hf := if_f hf c2
      refine lv_iconst (v := 1) hx hb dX1_has_12 (by decide) ?_
      refine lv_goto (tgt := 17) hx hb dX1_has_13 (by decide) ?_
      have hf := Option.some.inj hf
      subst hf
      exact hret _ _ _ _ _ dX1_has_17 rfl hP hD hS rfl
def f_X1_all (o0 : GG) : Option Int32 := (f_X6_bit o0.1).bind fun q1 => some ((q1 - 1))
theorem inw_X1_all_1 : ∀ w ∈ wsX10, w ∈ wsX1_all := fun _ h => List.mem_cons_of_mem _ (List.mem_append_right _ h)
theorem hd_X1_all : yX1_all.cls = RX1 ∧ yX1_all.cls ≠ "java/lang/invoke/MethodHandle" ∧ yX1_all.cls ≠ "java/lang/invoke/VarHandle" ∧ (parseMethodDescriptor yX1_all.desc).map (fun d => d.parameters.length) = some 0 := by decide +kernel
set_option maxHeartbeats 4000000 in
set_option maxRecDepth 100000 in
theorem c_X1_all (l : Launch) (D : va_G) (cI cC cS : ClassId) (R : va_W) (a0 : Nat → Nat) (o0 : GG) (r : Int32) (hf : f_X1_all o0 = some r) : CI l yX1_all wsX1_all 1 20 D cI cC cS [.ref (a0 0)] ((w_G a0 cI o0) ++ R) r ((w_G a0 cI o0) ++ R) := by
  refine XI.of (cc := cX1_all) (maxL := 1) (ty := .int) (own := RX1) (by decide) rfl rfl (Nat.le_of_ble_eq_true rfl) ?_
  intro p e s m args below meth c A Q S hK hN hA hP hD hS ls hl hret
  obtain ⟨hx, hb, hml, hown, hts⟩ := id S
  have hl : lv_has ls 1 [(0, .ref (a0 0))] := hl
  unfold f_X1_all at hf
  refine lv_aload_n hx hb dX1_all_0 rfl (lv_at hl 0 rfl) ?_
  refine va_get (D := D) (ci := 1) (v := .int o0.1) (C := RX1) (T := TX1) (N := 4) hx hb hts inw_X1_all_1 hown hK hP 0 rfl rfl 0 (by decide) (hts (.fieldLink RX1 21 "RingGames$Game" "size" "I") (List.mem_of_getElem? (i := 1) rfl)) (fun _ h9 => h9) rfl dX1_all_1 ?_
  obtain ⟨q1, hq1, hf⟩ := ob_some hf
  refine xcNi S hK hN hA hP hD hS (c_X6_bit l D cI cC cS ((w_G a0 cI o0) ++ R) o0.1 _ hq1) 6 rfl gX1_all_X6_bit_n31 (List.mem_of_getElem? (i := 2) rfl) (List.mem_of_getElem? (i := 3) rfl) rfl hd_X6_bit ⟨by decide, by decide⟩ rfl hl.1 rfl (Nat.le_of_ble_eq_true rfl) dX1_all_4 ⟨Nat.zero_le _, Nat.zero_le _⟩ (fun H locs hP hD hS => ?_)
  refine lv_iconst (v := 1) hx hb dX1_all_7 (by decide) ?_
  refine lv_isub hx hb dX1_all_8 ?_
  have hf := Option.some.inj hf
  subst hf
  exact hret _ _ _ _ _ dX1_all_9 rfl hP hD hS rfl
def f_X1_hasAll (o0 : GG) (p1 : Int32) : Option Int32 := (f_X1_all o0).bind fun q1 => (if (p1 &&& (q1 ^^^ (-1))) = 0 then some (1) else some (0))
theorem hd_X1_hasAll : yX1_hasAll.cls = RX1 ∧ yX1_hasAll.cls ≠ "java/lang/invoke/MethodHandle" ∧ yX1_hasAll.cls ≠ "java/lang/invoke/VarHandle" ∧ (parseMethodDescriptor yX1_hasAll.desc).map (fun d => d.parameters.length) = some 1 := by decide +kernel
set_option maxHeartbeats 4000000 in
set_option maxRecDepth 100000 in
theorem c_X1_hasAll (l : Launch) (D : va_G) (cI cC cS : ClassId) (R : va_W) (a0 : Nat → Nat) (o0 : GG) (p1 : Int32) (r : Int32) (hf : f_X1_hasAll o0 p1 = some r) : CI l yX1_hasAll wsX1_hasAll 2 40 D cI cC cS [.ref (a0 0), .int p1] ((w_G a0 cI o0) ++ R) r ((w_G a0 cI o0) ++ R) := by
  refine XI.of (cc := cX1_hasAll) (maxL := 2) (ty := .boolean) (own := RX1) (by decide) rfl rfl (Nat.le_of_ble_eq_true rfl) ?_
  intro p e s m args below meth c A Q S hK hN hA hP hD hS ls hl hret
  obtain ⟨hx, hb, hml, hown, hts⟩ := id S
  have hl : lv_has ls 2 [(0, .ref (a0 0)), (1, .int p1)] := hl
  unfold f_X1_hasAll at hf
  refine lv_iload_n hx hb dX1_hasAll_0 rfl (lv_at hl 1 rfl) ?_
  refine lv_aload_n hx hb dX1_hasAll_1 rfl (lv_at hl 0 rfl) ?_
  obtain ⟨q1, hq1, hf⟩ := ob_some hf
  refine xcVi (w' := ((w_G a0 cI o0) ++ R)) S hK hN hA hP hD hS (c_X1_all l D cI cC cS R a0 o0 _ hq1) gX1_hasAll_X1_all rfl hd_X1_all ⟨by decide, by decide⟩ (List.Perm.refl _) (List.Perm.refl _) (ci := 1) (q := (RX1, TX1, 4)) rfl rfl rfl rfl hl.1 rfl (Nat.le_of_ble_eq_true rfl) dX1_hasAll_2 ⟨Nat.zero_le _, Nat.zero_le _⟩ (fun H locs hP hD hS => ?_)
  refine lv_iconst (v := (-1)) hx hb dX1_hasAll_5 (by decide) ?_
  refine lv_ixor hx hb dX1_hasAll_6 ?_
  refine lv_iand hx hb dX1_hasAll_7 ?_
  refine lv_if_ne (tgt := 15) hx hb dX1_hasAll_8 (by decide) (fun c2 => ?_) (fun c2 => ?_)
  · have hf := if_f hf c2
    refine lv_iconst (v := 0) hx hb dX1_hasAll_15 (by decide) ?_
    have hf := Option.some.inj hf
    subst hf
    exact hret _ _ _ _ _ dX1_hasAll_16 rfl hP hD hS rfl
  · have hf := if_t hf c2
    refine lv_iconst (v := 1) hx hb dX1_hasAll_11 (by decide) ?_
    refine lv_goto (tgt := 16) hx hb dX1_hasAll_12 (by decide) ?_
    have hf := Option.some.inj hf
    subst hf
    exact hret _ _ _ _ _ dX1_hasAll_16 rfl hP hD hS rfl
def f_X1_leads (o0 : GG) (p1 : Int32) (p2 : Int32) : Option Int32 := (f_X1_has o0 p1).bind fun q1 => (if q1 = 0 then some (0) else (f_X1_has o0 p2).bind fun q3 => (if q3 = 0 then some (0) else vg p1 14 ((f_X6_contains (o0.2.2.2 (p1).toNatClampNeg) p2).bind fun q6 => (if q6 = 0 then some (0) else some (1)))))
theorem inw_X1_leads_1 : ∀ w ∈ wsX10, w ∈ wsX1_leads := fun _ h => List.mem_cons_of_mem _ (List.mem_append_right _ h)
theorem hd_X1_leads : yX1_leads.cls = RX1 ∧ yX1_leads.cls ≠ "java/lang/invoke/MethodHandle" ∧ yX1_leads.cls ≠ "java/lang/invoke/VarHandle" ∧ (parseMethodDescriptor yX1_leads.desc).map (fun d => d.parameters.length) = some 2 := by decide +kernel
set_option maxHeartbeats 4000000 in
set_option maxRecDepth 100000 in
theorem c_X1_leads (l : Launch) (D : va_G) (cI cC cS : ClassId) (R : va_W) (a0 : Nat → Nat) (o0 : GG) (p1 : Int32) (p2 : Int32) (r : Int32) (hf : f_X1_leads o0 p1 p2 = some r) : CI l yX1_leads wsX1_leads 1 21 D cI cC cS [.ref (a0 0), .int p1, .int p2] ((w_G a0 cI o0) ++ R) r ((w_G a0 cI o0) ++ R) := by
  refine XI.of (cc := cX1_leads) (maxL := 3) (ty := .boolean) (own := RX1) (by decide) rfl rfl (Nat.le_of_ble_eq_true rfl) ?_
  intro p e s m args below meth c A Q S hK hN hA hP hD hS ls hl hret
  obtain ⟨hx, hb, hml, hown, hts⟩ := id S
  have hl : lv_has ls 3 [(0, .ref (a0 0)), (1, .int p1), (2, .int p2)] := hl
  unfold f_X1_leads at hf
  refine lv_aload_n hx hb dX1_leads_0 rfl (lv_at hl 0 rfl) ?_
  refine lv_iload_n hx hb dX1_leads_1 rfl (lv_at hl 1 rfl) ?_
  obtain ⟨q1, hq1, hf⟩ := ob_some hf
  refine xcVi (w' := ((w_G a0 cI o0) ++ R)) S hK hN hA hP hD hS (c_X1_has l D cI cC cS R a0 o0 p1 _ hq1) gX1_leads_X1_has rfl hd_X1_has ⟨by decide, by decide⟩ (List.Perm.refl _) (List.Perm.refl _) (ci := 1) (q := (RX1, TX1, 4)) rfl rfl rfl rfl hl.1 rfl (Nat.le_of_ble_eq_true rfl) dX1_leads_2 ⟨Nat.zero_le _, Nat.zero_le _⟩ (fun H locs hP hD hS => ?_)
  refine lv_if_eq (tgt := 33) hx hb dX1_leads_5 (by decide) (fun c2 => ?_) (fun c2 => ?_)
  · have hf := if_t hf c2
    refine lv_iconst (v := 0) hx hb dX1_leads_33 (by decide) ?_
    have hf := Option.some.inj hf
    subst hf
    exact hret _ _ _ _ _ dX1_leads_34 rfl hP hD hS rfl
  · have hf := if_f hf c2
    refine lv_aload_n hx hb dX1_leads_8 rfl (lv_at hl 0 rfl) ?_
    refine lv_iload_n hx hb dX1_leads_9 rfl (lv_at hl 2 rfl) ?_
    obtain ⟨q3, hq3, hf⟩ := ob_some hf
    refine xcVi (w' := ((w_G a0 cI o0) ++ R)) S hK hN hA hP hD hS (c_X1_has l D cI cC cS R a0 o0 p2 _ hq3) gX1_leads_X1_has rfl hd_X1_has ⟨by decide, by decide⟩ (List.Perm.refl _) (List.Perm.refl _) (ci := 1) (q := (RX1, TX1, 4)) rfl rfl rfl rfl hl.1 rfl (Nat.le_of_ble_eq_true rfl) dX1_leads_10 ⟨Nat.zero_le _, Nat.zero_le _⟩ (fun H locs hP hD hS => ?_)
    refine lv_if_eq (tgt := 33) hx hb dX1_leads_13 (by decide) (fun c4 => ?_) (fun c4 => ?_)
    · have hf := if_t hf c4
      refine lv_iconst (v := 0) hx hb dX1_leads_33 (by decide) ?_
      have hf := Option.some.inj hf
      subst hf
      exact hret _ _ _ _ _ dX1_leads_34 rfl hP hD hS rfl
    · have hf := if_f hf c4
      refine lv_aload_n hx hb dX1_leads_16 rfl (lv_at hl 0 rfl) ?_
      refine va_get (D := D) (ci := 1) (v := .ref (a0 3)) (C := RX1) (T := TX1) (N := 4) hx hb hts inw_X1_leads_1 hown hK hP 0 rfl rfl 3 (by decide) (hts (.fieldLink RX1 18 "RingGames$Game" "arrows" "[I") (List.mem_of_getElem? (i := 1) rfl)) (fun _ h9 => h9) rfl dX1_leads_17 ?_
      refine lv_iload_n hx hb dX1_leads_20 rfl (lv_at hl 1 rfl) ?_
      obtain ⟨g5, hf⟩ := vg_some hf
      refine va_iald hx hb hK hP 3 0 rfl rfl g5 dX1_leads_21 ?_
      refine lv_iload_n hx hb dX1_leads_22 rfl (lv_at hl 2 rfl) ?_
      obtain ⟨q6, hq6, hf⟩ := ob_some hf
      refine xcNi S hK hN hA hP hD hS (c_X6_contains l D cI cC cS ((w_G a0 cI o0) ++ R) (o0.2.2.2 (p1).toNatClampNeg) p2 _ hq6) 7 rfl gX1_leads_X6_contains_n43 (List.mem_of_getElem? (i := 8) rfl) (List.mem_of_getElem? (i := 9) rfl) rfl hd_X6_contains ⟨by decide, by decide⟩ rfl hl.1 rfl (Nat.le_of_ble_eq_true rfl) dX1_leads_23 ⟨Nat.zero_le _, Nat.zero_le _⟩ (fun H locs hP hD hS => ?_)
      refine lv_if_eq (tgt := 33) hx hb dX1_leads_26 (by decide) (fun c7 => ?_) (fun c7 => ?_)
      · have hf := if_t hf c7
        refine lv_iconst (v := 0) hx hb dX1_leads_33 (by decide) ?_
        have hf := Option.some.inj hf
        subst hf
        exact hret _ _ _ _ _ dX1_leads_34 rfl hP hD hS rfl
      · have hf := if_f hf c7
        refine lv_iconst (v := 1) hx hb dX1_leads_29 (by decide) ?_
        refine lv_goto (tgt := 34) hx hb dX1_leads_30 (by decide) ?_
        have hf := Option.some.inj hf
        subst hf
        exact hret _ _ _ _ _ dX1_leads_34 rfl hP hD hS rfl
def f_X1_arrowCount_L4 (d_o0 : GG) : Nat → Int32 → Int32 → Option Int32
  | 0, _, _ => none
  | k + 1, d_l1, d_l2 => (if d_o0.1 ≤ d_l2 then some (d_l1) else vg d_l2 14 ((f_J6_bitCount_0f7a4 (d_o0.2.2.2 (d_l2).toNatClampNeg)).bind fun q3 => f_X1_arrowCount_L4 d_o0 k (d_l1 + q3) (d_l2 + 1)))
def f_X1_arrowCount (n : Nat) (o0 : GG) : Option Int32 := (f_X1_arrowCount_L4 o0 n 0 0).bind fun q2 => some (q2)
theorem inw_X1_arrowCount_1 : ∀ w ∈ wsX10, w ∈ wsX1_arrowCount := fun _ h => List.mem_cons_of_mem _ (List.mem_append_right _ h)
theorem hd_X1_arrowCount : yX1_arrowCount.cls = RX1 ∧ yX1_arrowCount.cls ≠ "java/lang/invoke/MethodHandle" ∧ yX1_arrowCount.cls ≠ "java/lang/invoke/VarHandle" ∧ (parseMethodDescriptor yX1_arrowCount.desc).map (fun d => d.parameters.length) = some 0 := by decide +kernel
set_option maxHeartbeats 4000000 in
set_option maxRecDepth 100000 in
theorem c_X1_arrowCount (l : Launch) (D : va_G) (cI cC cS : ClassId) (R : va_W) (a0 : Nat → Nat) (o0 : GG) (n : Nat) (r : Int32) (hf : f_X1_arrowCount n o0 = some r) : CI l yX1_arrowCount wsX1_arrowCount 1 20 D cI cC cS [.ref (a0 0)] ((w_G a0 cI o0) ++ R) r ((w_G a0 cI o0) ++ R) := by
  refine XI.of (cc := cX1_arrowCount) (maxL := 3) (ty := .int) (own := RX1) (by decide) rfl rfl (Nat.le_of_ble_eq_true rfl) ?_
  intro p e s m args below meth c A Q S hK hN hA hP hD hS ls hl hret
  obtain ⟨hx, hb, hml, hown, hts⟩ := id S
  have hl : lv_has ls 3 [(0, .ref (a0 0))] := hl
  unfold f_X1_arrowCount at hf
  refine lv_iconst (v := 0) hx hb dX1_arrowCount_0 (by decide) ?_
  refine lv_istore_n (lv' := [(1, .int 0), (0, .ref (a0 0))]) hx hb dX1_arrowCount_1 rfl hl (by decide) rfl (fun ls hl => ?_)
  refine lv_iconst (v := 0) hx hb dX1_arrowCount_2 (by decide) ?_
  refine lv_istore_n (lv' := [(2, .int 0), (1, .int 0), (0, .ref (a0 0))]) hx hb dX1_arrowCount_3 rfl hl (by decide) rfl (fun ls hl => ?_)
  obtain ⟨q2, hq2, hf⟩ := ob_some hf
  have L1 : ∀ (k : Nat) (v_l1_L1 : Int32) (v_l2_L1 : Int32) (q_L1 : Int32), f_X1_arrowCount_L4 o0 k v_l1_L1 v_l2_L1 = some q_L1 → ∀ (H : Heap) (locs : List Loc), va_P D vwCl ((w_G a0 cI o0) ++ R) H → va_D A ((w_G a0 cI o0) ++ R) → va_S A s.heap H locs → ∀ ls : Array Slot, lv_has ls 3 [(0, .ref (a0 0)), (1, .int v_l1_L1), (2, .int v_l2_L1)] → (∀ (H : Heap) (locs : List Loc), va_P D vwCl ((w_G a0 cI o0) ++ R) H → va_D A ((w_G a0 cI o0) ++ R) → va_S A s.heap H locs → ∀ ls : Array Slot, lv_has ls 3 [(1, .int q_L1)] → W p l e (xR 1 20) s m args below meth c H locs 0 0 Q (F0 m 30 ls [])) → W p l e (xR 1 20) s m args below meth c H locs 0 0 Q (F0 m 4 ls []) := by
    intro k
    induction k with
    | zero => intro v_l1_L1 v_l2_L1 q_L1 hf; simp [f_X1_arrowCount_L4] at hf
    | succ k ih =>
      intro v_l1_L1 v_l2_L1 q_L1 hf H locs hP hD hS ls hl kx
      rw [f_X1_arrowCount_L4] at hf
      refine lv_iload_n hx hb dX1_arrowCount_4 rfl (lv_at hl 2 rfl) ?_
      refine lv_aload_n hx hb dX1_arrowCount_5 rfl (lv_at hl 0 rfl) ?_
      refine va_get (D := D) (ci := 1) (v := .int o0.1) (C := RX1) (T := TX1) (N := 4) hx hb hts inw_X1_arrowCount_1 hown hK hP 0 rfl rfl 0 (by decide) (hts (.fieldLink RX1 21 "RingGames$Game" "size" "I") (List.mem_of_getElem? (i := 1) rfl)) (fun _ h9 => h9) rfl dX1_arrowCount_6 ?_
      refine lv_icmp_ge (tgt := 30) hx hb dX1_arrowCount_9 (by decide) (fun c3 => ?_) (fun c3 => ?_)
      · have hf := if_t hf c3
        have hf := Option.some.inj hf
        subst hf
        exact kx _ _ hP hD hS _ (lv_sub hl [1] rfl)
      · have hf := if_f hf c3
        refine lv_iload_n hx hb dX1_arrowCount_12 rfl (lv_at hl 1 rfl) ?_
        refine lv_aload_n hx hb dX1_arrowCount_13 rfl (lv_at hl 0 rfl) ?_
        refine va_get (D := D) (ci := 1) (v := .ref (a0 3)) (C := RX1) (T := TX1) (N := 4) hx hb hts inw_X1_arrowCount_1 hown hK hP 0 rfl rfl 3 (by decide) (hts (.fieldLink RX1 18 "RingGames$Game" "arrows" "[I") (List.mem_of_getElem? (i := 2) rfl)) (fun _ h9 => h9) rfl dX1_arrowCount_14 ?_
        refine lv_iload_n hx hb dX1_arrowCount_17 rfl (lv_at hl 2 rfl) ?_
        obtain ⟨g4, hf⟩ := vg_some hf
        refine va_iald hx hb hK hP 3 0 rfl rfl g4 dX1_arrowCount_18 ?_
        obtain ⟨q5, hq5, hf⟩ := ob_some hf
        refine xcSi S hK hN hA hP hD hS (c_J6_bitCount_0f7a4 l D cI cC cS ((w_G a0 cI o0) ++ R) (o0.2.2.2 (v_l2_L1).toNatClampNeg) _ hq5) gX1_arrowCount_J6_bitCount_0f7a4 rfl hd_J6_bitCount_0f7a4 ⟨by decide, by decide⟩ rfl hl.1 rfl (Nat.le_of_ble_eq_true rfl) dX1_arrowCount_19 ⟨Nat.zero_le _, Nat.zero_le _⟩ (fun H locs hP hD hS => ?_)
        refine lv_iadd hx hb dX1_arrowCount_22 ?_
        refine lv_istore_n (lv' := [(1, .int (v_l1_L1 + q5)), (0, .ref (a0 0)), (2, .int v_l2_L1)]) hx hb dX1_arrowCount_23 rfl hl (by decide) rfl (fun ls hl => ?_)
        refine lv_iinc (v := (v_l2_L1 + 1)) (lv' := [(2, .int (v_l2_L1 + 1)), (1, .int (v_l1_L1 + q5)), (0, .ref (a0 0))]) hx hb dX1_arrowCount_24 hl (k := 2) rfl (congrArg (fun z => v_l2_L1 + z) (by decide)) (by decide) rfl (fun ls hl => ?_)
        refine lv_goto (tgt := 4) hx hb dX1_arrowCount_27 (by decide) ?_
        exact ih (v_l1_L1 + q5) (v_l2_L1 + 1) _ hf _ _ hP hD hS _ (lv_sub hl [2, 1, 0] rfl) kx
  refine L1 n 0 0 q2 hq2 _ _ hP hD hS _ (lv_sub hl [2, 1, 0] rfl) ?_
  clear hP hD hS hl
  intro H locs hP hD hS ls hl
  refine lv_iload_n hx hb dX1_arrowCount_30 rfl (lv_at hl 0 rfl) ?_
  have hf := Option.some.inj hf
  subst hf
  exact hret _ _ _ _ _ dX1_arrowCount_31 rfl hP hD hS rfl
def f_X1_lowestArrow_L2 (d_o0 : GG) (d_l1 : Int32) : Nat → Int32 → Option Int32
  | 0, _ => none
  | k + 1, d_l2 => (if d_o0.1 ≤ d_l2 then some (14) else (f_X1_leads d_o0 d_l1 d_l2).bind fun q2 => (if q2 = 0 then f_X1_lowestArrow_L2 d_o0 d_l1 k (d_l2 + 1) else some (d_l2)))
def f_X1_lowestArrow (n : Nat) (o0 : GG) (p1 : Int32) : Option Int32 := f_X1_lowestArrow_L2 o0 p1 n 0
theorem inw_X1_lowestArrow_1 : ∀ w ∈ wsX10, w ∈ wsX1_lowestArrow := fun _ h => List.mem_cons_of_mem _ (List.mem_append_right _ h)
theorem hd_X1_lowestArrow : yX1_lowestArrow.cls = RX1 ∧ yX1_lowestArrow.cls ≠ "java/lang/invoke/MethodHandle" ∧ yX1_lowestArrow.cls ≠ "java/lang/invoke/VarHandle" ∧ (parseMethodDescriptor yX1_lowestArrow.desc).map (fun d => d.parameters.length) = some 1 := by decide +kernel
set_option maxHeartbeats 4000000 in
set_option maxRecDepth 100000 in
theorem c_X1_lowestArrow (l : Launch) (D : va_G) (cI cC cS : ClassId) (R : va_W) (a0 : Nat → Nat) (o0 : GG) (p1 : Int32) (n : Nat) (r : Int32) (hf : f_X1_lowestArrow n o0 p1 = some r) : CI l yX1_lowestArrow wsX1_lowestArrow 2 43 D cI cC cS [.ref (a0 0), .int p1] ((w_G a0 cI o0) ++ R) r ((w_G a0 cI o0) ++ R) := by
  refine XI.of (cc := cX1_lowestArrow) (maxL := 3) (ty := .int) (own := RX1) (by decide) rfl rfl (Nat.le_of_ble_eq_true rfl) ?_
  intro p e s m args below meth c A Q S hK hN hA hP hD hS ls hl hret
  obtain ⟨hx, hb, hml, hown, hts⟩ := id S
  have hl : lv_has ls 3 [(0, .ref (a0 0)), (1, .int p1)] := hl
  unfold f_X1_lowestArrow at hf
  refine lv_iconst (v := 0) hx hb dX1_lowestArrow_0 (by decide) ?_
  refine lv_istore_n (lv' := [(2, .int 0), (0, .ref (a0 0)), (1, .int p1)]) hx hb dX1_lowestArrow_1 rfl hl (by decide) rfl (fun ls hl => ?_)
  have L1 : ∀ (k : Nat) (v_l2_L1 : Int32), f_X1_lowestArrow_L2 o0 p1 k v_l2_L1 = some r → ∀ (H : Heap) (locs : List Loc), va_P D vwCl ((w_G a0 cI o0) ++ R) H → va_D A ((w_G a0 cI o0) ++ R) → va_S A s.heap H locs → ∀ ls : Array Slot, lv_has ls 3 [(0, .ref (a0 0)), (1, .int p1), (2, .int v_l2_L1)] → W p l e (xR 2 43) s m args below meth c H locs 0 0 Q (F0 m 2 ls []) := by
    intro k
    induction k with
    | zero => intro v_l2_L1 hf; simp [f_X1_lowestArrow_L2] at hf
    | succ k ih =>
      intro v_l2_L1 hf H locs hP hD hS ls hl
      rw [f_X1_lowestArrow_L2] at hf
      refine lv_iload_n hx hb dX1_lowestArrow_2 rfl (lv_at hl 2 rfl) ?_
      refine lv_aload_n hx hb dX1_lowestArrow_3 rfl (lv_at hl 0 rfl) ?_
      refine va_get (D := D) (ci := 1) (v := .int o0.1) (C := RX1) (T := TX1) (N := 4) hx hb hts inw_X1_lowestArrow_1 hown hK hP 0 rfl rfl 0 (by decide) (hts (.fieldLink RX1 21 "RingGames$Game" "size" "I") (List.mem_of_getElem? (i := 1) rfl)) (fun _ h9 => h9) rfl dX1_lowestArrow_4 ?_
      refine lv_icmp_ge (tgt := 27) hx hb dX1_lowestArrow_7 (by decide) (fun c3 => ?_) (fun c3 => ?_)
      · have hf := if_t hf c3
        refine lv_bipush (v := 14) hx hb dX1_lowestArrow_27 (by decide) ?_
        have hf := Option.some.inj hf
        subst hf
        exact hret _ _ _ _ _ dX1_lowestArrow_29 rfl hP hD hS rfl
      · have hf := if_f hf c3
        refine lv_aload_n hx hb dX1_lowestArrow_10 rfl (lv_at hl 0 rfl) ?_
        refine lv_iload_n hx hb dX1_lowestArrow_11 rfl (lv_at hl 1 rfl) ?_
        refine lv_iload_n hx hb dX1_lowestArrow_12 rfl (lv_at hl 2 rfl) ?_
        obtain ⟨q4, hq4, hf⟩ := ob_some hf
        refine xcVi (w' := ((w_G a0 cI o0) ++ R)) S hK hN hA hP hD hS (c_X1_leads l D cI cC cS R a0 o0 p1 v_l2_L1 _ hq4) gX1_lowestArrow_X1_leads rfl hd_X1_leads ⟨by decide, by decide⟩ (List.Perm.refl _) (List.Perm.refl _) (ci := 1) (q := (RX1, TX1, 4)) rfl rfl rfl rfl hl.1 rfl (Nat.le_of_ble_eq_true rfl) dX1_lowestArrow_13 ⟨Nat.zero_le _, Nat.zero_le _⟩ (fun H locs hP hD hS => ?_)
        refine lv_if_eq (tgt := 21) hx hb dX1_lowestArrow_16 (by decide) (fun c5 => ?_) (fun c5 => ?_)
        · have hf := if_t hf c5
          refine lv_iinc (v := (v_l2_L1 + 1)) (lv' := [(2, .int (v_l2_L1 + 1)), (0, .ref (a0 0)), (1, .int p1)]) hx hb dX1_lowestArrow_21 hl (k := 2) rfl (congrArg (fun z => v_l2_L1 + z) (by decide)) (by decide) rfl (fun ls hl => ?_)
          refine lv_goto (tgt := 2) hx hb dX1_lowestArrow_24 (by decide) ?_
          exact ih (v_l2_L1 + 1) hf _ _ hP hD hS _ (lv_sub hl [1, 2, 0] rfl)
        · have hf := if_f hf c5
          refine lv_iload_n hx hb dX1_lowestArrow_19 rfl (lv_at hl 2 rfl) ?_
          have hf := Option.some.inj hf
          subst hf
          exact hret _ _ _ _ _ dX1_lowestArrow_20 rfl hP hD hS rfl
  exact L1 n 0 hf _ _ hP hD hS _ (lv_sub hl [1, 2, 0] rfl)
def f_X1_owned_L4 (d_o0 : GG) (d_l1 : Int32) : Nat → Int32 → Int32 → Option Int32
  | 0, _, _ => none
  | k + 1, d_l2, d_l3 => (if d_o0.1 ≤ d_l3 then some (d_l2) else vg d_l3 14 ((if (d_o0.2.1 (d_l3).toNatClampNeg) = d_l1 then (f_X6_bit d_l3).bind fun q4 => f_X1_owned_L4 d_o0 d_l1 k (d_l2 ||| q4) (d_l3 + 1) else f_X1_owned_L4 d_o0 d_l1 k d_l2 (d_l3 + 1))))
def f_X1_owned (n : Nat) (o0 : GG) (p1 : Int32) : Option Int32 := (f_X1_owned_L4 o0 p1 n 0 0).bind fun q2 => some (q2)
theorem inw_X1_owned_1 : ∀ w ∈ wsX10, w ∈ wsX1_owned := fun _ h => List.mem_cons_of_mem _ (List.mem_append_right _ h)
theorem hd_X1_owned : yX1_owned.cls = RX1 ∧ yX1_owned.cls ≠ "java/lang/invoke/MethodHandle" ∧ yX1_owned.cls ≠ "java/lang/invoke/VarHandle" ∧ (parseMethodDescriptor yX1_owned.desc).map (fun d => d.parameters.length) = some 1 := by decide +kernel
set_option maxHeartbeats 4000000 in
set_option maxRecDepth 100000 in
theorem c_X1_owned (l : Launch) (D : va_G) (cI cC cS : ClassId) (R : va_W) (a0 : Nat → Nat) (o0 : GG) (p1 : Int32) (n : Nat) (r : Int32) (hf : f_X1_owned n o0 p1 = some r) : CI l yX1_owned wsX1_owned 1 20 D cI cC cS [.ref (a0 0), .int p1] ((w_G a0 cI o0) ++ R) r ((w_G a0 cI o0) ++ R) := by
  refine XI.of (cc := cX1_owned) (maxL := 4) (ty := .int) (own := RX1) (by decide) rfl rfl (Nat.le_of_ble_eq_true rfl) ?_
  intro p e s m args below meth c A Q S hK hN hA hP hD hS ls hl hret
  obtain ⟨hx, hb, hml, hown, hts⟩ := id S
  have hl : lv_has ls 4 [(0, .ref (a0 0)), (1, .int p1)] := hl
  unfold f_X1_owned at hf
  refine lv_iconst (v := 0) hx hb dX1_owned_0 (by decide) ?_
  refine lv_istore_n (lv' := [(2, .int 0), (0, .ref (a0 0)), (1, .int p1)]) hx hb dX1_owned_1 rfl hl (by decide) rfl (fun ls hl => ?_)
  refine lv_iconst (v := 0) hx hb dX1_owned_2 (by decide) ?_
  refine lv_istore_n (lv' := [(3, .int 0), (2, .int 0), (0, .ref (a0 0)), (1, .int p1)]) hx hb dX1_owned_3 rfl hl (by decide) rfl (fun ls hl => ?_)
  obtain ⟨q2, hq2, hf⟩ := ob_some hf
  have L1 : ∀ (k : Nat) (v_l2_L1 : Int32) (v_l3_L1 : Int32) (q_L1 : Int32), f_X1_owned_L4 o0 p1 k v_l2_L1 v_l3_L1 = some q_L1 → ∀ (H : Heap) (locs : List Loc), va_P D vwCl ((w_G a0 cI o0) ++ R) H → va_D A ((w_G a0 cI o0) ++ R) → va_S A s.heap H locs → ∀ ls : Array Slot, lv_has ls 4 [(0, .ref (a0 0)), (1, .int p1), (2, .int v_l2_L1), (3, .int v_l3_L1)] → (∀ (H : Heap) (locs : List Loc), va_P D vwCl ((w_G a0 cI o0) ++ R) H → va_D A ((w_G a0 cI o0) ++ R) → va_S A s.heap H locs → ∀ ls : Array Slot, lv_has ls 4 [(2, .int q_L1)] → W p l e (xR 1 20) s m args below meth c H locs 0 0 Q (F0 m 35 ls [])) → W p l e (xR 1 20) s m args below meth c H locs 0 0 Q (F0 m 4 ls []) := by
    intro k
    induction k with
    | zero => intro v_l2_L1 v_l3_L1 q_L1 hf; simp [f_X1_owned_L4] at hf
    | succ k ih =>
      intro v_l2_L1 v_l3_L1 q_L1 hf H locs hP hD hS ls hl kx
      rw [f_X1_owned_L4] at hf
      refine lv_iload_n hx hb dX1_owned_4 rfl (lv_at hl 3 rfl) ?_
      refine lv_aload_n hx hb dX1_owned_5 rfl (lv_at hl 0 rfl) ?_
      refine va_get (D := D) (ci := 1) (v := .int o0.1) (C := RX1) (T := TX1) (N := 4) hx hb hts inw_X1_owned_1 hown hK hP 0 rfl rfl 0 (by decide) (hts (.fieldLink RX1 21 "RingGames$Game" "size" "I") (List.mem_of_getElem? (i := 1) rfl)) (fun _ h9 => h9) rfl dX1_owned_6 ?_
      refine lv_icmp_ge (tgt := 35) hx hb dX1_owned_9 (by decide) (fun c3 => ?_) (fun c3 => ?_)
      · have hf := if_t hf c3
        have hf := Option.some.inj hf
        subst hf
        exact kx _ _ hP hD hS _ (lv_sub hl [2] rfl)
      · have hf := if_f hf c3
        refine lv_aload_n hx hb dX1_owned_12 rfl (lv_at hl 0 rfl) ?_
        refine va_get (D := D) (ci := 1) (v := .ref (a0 1)) (C := RX1) (T := TX1) (N := 4) hx hb hts inw_X1_owned_1 hown hK hP 0 rfl rfl 1 (by decide) (hts (.fieldLink RX1 9 "RingGames$Game" "owners" "[I") (List.mem_of_getElem? (i := 2) rfl)) (fun _ h9 => h9) rfl dX1_owned_13 ?_
        refine lv_iload_n hx hb dX1_owned_16 rfl (lv_at hl 3 rfl) ?_
        obtain ⟨g4, hf⟩ := vg_some hf
        refine va_iald hx hb hK hP 1 0 rfl rfl g4 dX1_owned_17 ?_
        refine lv_iload_n hx hb dX1_owned_18 rfl (lv_at hl 1 rfl) ?_
        refine lv_icmp_ne (tgt := 29) hx hb dX1_owned_19 (by decide) (fun c5 => ?_) (fun c5 => ?_)
        · have hf := if_f hf c5
          refine lv_iinc (v := (v_l3_L1 + 1)) (lv' := [(3, .int (v_l3_L1 + 1)), (0, .ref (a0 0)), (1, .int p1), (2, .int v_l2_L1)]) hx hb dX1_owned_29 hl (k := 3) rfl (congrArg (fun z => v_l3_L1 + z) (by decide)) (by decide) rfl (fun ls hl => ?_)
          refine lv_goto (tgt := 4) hx hb dX1_owned_32 (by decide) ?_
          exact ih v_l2_L1 (v_l3_L1 + 1) _ hf _ _ hP hD hS _ (lv_sub hl [1, 2, 3, 0] rfl) kx
        · have hf := if_t hf c5
          refine lv_iload_n hx hb dX1_owned_22 rfl (lv_at hl 2 rfl) ?_
          refine lv_iload_n hx hb dX1_owned_23 rfl (lv_at hl 3 rfl) ?_
          obtain ⟨q6, hq6, hf⟩ := ob_some hf
          refine xcNi S hK hN hA hP hD hS (c_X6_bit l D cI cC cS ((w_G a0 cI o0) ++ R) v_l3_L1 _ hq6) 6 rfl gX1_owned_X6_bit_n31 (List.mem_of_getElem? (i := 3) rfl) (List.mem_of_getElem? (i := 4) rfl) rfl hd_X6_bit ⟨by decide, by decide⟩ rfl hl.1 rfl (Nat.le_of_ble_eq_true rfl) dX1_owned_24 ⟨Nat.zero_le _, Nat.zero_le _⟩ (fun H locs hP hD hS => ?_)
          refine lv_ior hx hb dX1_owned_27 ?_
          refine lv_istore_n (lv' := [(2, .int (v_l2_L1 ||| q6)), (0, .ref (a0 0)), (1, .int p1), (3, .int v_l3_L1)]) hx hb dX1_owned_28 rfl hl (by decide) rfl (fun ls hl => ?_)
          refine lv_iinc (v := (v_l3_L1 + 1)) (lv' := [(3, .int (v_l3_L1 + 1)), (2, .int (v_l2_L1 ||| q6)), (0, .ref (a0 0)), (1, .int p1)]) hx hb dX1_owned_29 hl (k := 3) rfl (congrArg (fun z => v_l3_L1 + z) (by decide)) (by decide) rfl (fun ls hl => ?_)
          refine lv_goto (tgt := 4) hx hb dX1_owned_32 (by decide) ?_
          exact ih (v_l2_L1 ||| q6) (v_l3_L1 + 1) _ hf _ _ hP hD hS _ (lv_sub hl [2, 3, 1, 0] rfl) kx
  refine L1 n 0 0 q2 hq2 _ _ hP hD hS _ (lv_sub hl [2, 3, 1, 0] rfl) ?_
  clear hP hD hS hl
  intro H locs hP hD hS ls hl
  refine lv_iload_n hx hb dX1_owned_35 rfl (lv_at hl 0 rfl) ?_
  have hf := Option.some.inj hf
  subst hf
  exact hret _ _ _ _ _ dX1_owned_36 rfl hP hD hS rfl
def f_X1_withoutArrows_L4 (d_o0 : GG) : Nat → Int32 → Int32 → Option Int32
  | 0, _, _ => none
  | k + 1, d_l1, d_l2 => (if d_o0.1 ≤ d_l2 then some (d_l1) else vg d_l2 14 ((if (d_o0.2.2.2 (d_l2).toNatClampNeg) = 0 then (f_X6_bit d_l2).bind fun q4 => f_X1_withoutArrows_L4 d_o0 k (d_l1 ||| q4) (d_l2 + 1) else f_X1_withoutArrows_L4 d_o0 k d_l1 (d_l2 + 1))))
def f_X1_withoutArrows (n : Nat) (o0 : GG) : Option Int32 := (f_X1_withoutArrows_L4 o0 n 0 0).bind fun q2 => some (q2)
theorem inw_X1_withoutArrows_1 : ∀ w ∈ wsX10, w ∈ wsX1_withoutArrows := fun _ h => List.mem_cons_of_mem _ (List.mem_append_right _ h)
theorem hd_X1_withoutArrows : yX1_withoutArrows.cls = RX1 ∧ yX1_withoutArrows.cls ≠ "java/lang/invoke/MethodHandle" ∧ yX1_withoutArrows.cls ≠ "java/lang/invoke/VarHandle" ∧ (parseMethodDescriptor yX1_withoutArrows.desc).map (fun d => d.parameters.length) = some 0 := by decide +kernel
set_option maxHeartbeats 4000000 in
set_option maxRecDepth 100000 in
theorem c_X1_withoutArrows (l : Launch) (D : va_G) (cI cC cS : ClassId) (R : va_W) (a0 : Nat → Nat) (o0 : GG) (n : Nat) (r : Int32) (hf : f_X1_withoutArrows n o0 = some r) : CI l yX1_withoutArrows wsX1_withoutArrows 1 20 D cI cC cS [.ref (a0 0)] ((w_G a0 cI o0) ++ R) r ((w_G a0 cI o0) ++ R) := by
  refine XI.of (cc := cX1_withoutArrows) (maxL := 3) (ty := .int) (own := RX1) (by decide) rfl rfl (Nat.le_of_ble_eq_true rfl) ?_
  intro p e s m args below meth c A Q S hK hN hA hP hD hS ls hl hret
  obtain ⟨hx, hb, hml, hown, hts⟩ := id S
  have hl : lv_has ls 3 [(0, .ref (a0 0))] := hl
  unfold f_X1_withoutArrows at hf
  refine lv_iconst (v := 0) hx hb dX1_withoutArrows_0 (by decide) ?_
  refine lv_istore_n (lv' := [(1, .int 0), (0, .ref (a0 0))]) hx hb dX1_withoutArrows_1 rfl hl (by decide) rfl (fun ls hl => ?_)
  refine lv_iconst (v := 0) hx hb dX1_withoutArrows_2 (by decide) ?_
  refine lv_istore_n (lv' := [(2, .int 0), (1, .int 0), (0, .ref (a0 0))]) hx hb dX1_withoutArrows_3 rfl hl (by decide) rfl (fun ls hl => ?_)
  obtain ⟨q2, hq2, hf⟩ := ob_some hf
  have L1 : ∀ (k : Nat) (v_l1_L1 : Int32) (v_l2_L1 : Int32) (q_L1 : Int32), f_X1_withoutArrows_L4 o0 k v_l1_L1 v_l2_L1 = some q_L1 → ∀ (H : Heap) (locs : List Loc), va_P D vwCl ((w_G a0 cI o0) ++ R) H → va_D A ((w_G a0 cI o0) ++ R) → va_S A s.heap H locs → ∀ ls : Array Slot, lv_has ls 3 [(0, .ref (a0 0)), (1, .int v_l1_L1), (2, .int v_l2_L1)] → (∀ (H : Heap) (locs : List Loc), va_P D vwCl ((w_G a0 cI o0) ++ R) H → va_D A ((w_G a0 cI o0) ++ R) → va_S A s.heap H locs → ∀ ls : Array Slot, lv_has ls 3 [(1, .int q_L1)] → W p l e (xR 1 20) s m args below meth c H locs 0 0 Q (F0 m 34 ls [])) → W p l e (xR 1 20) s m args below meth c H locs 0 0 Q (F0 m 4 ls []) := by
    intro k
    induction k with
    | zero => intro v_l1_L1 v_l2_L1 q_L1 hf; simp [f_X1_withoutArrows_L4] at hf
    | succ k ih =>
      intro v_l1_L1 v_l2_L1 q_L1 hf H locs hP hD hS ls hl kx
      rw [f_X1_withoutArrows_L4] at hf
      refine lv_iload_n hx hb dX1_withoutArrows_4 rfl (lv_at hl 2 rfl) ?_
      refine lv_aload_n hx hb dX1_withoutArrows_5 rfl (lv_at hl 0 rfl) ?_
      refine va_get (D := D) (ci := 1) (v := .int o0.1) (C := RX1) (T := TX1) (N := 4) hx hb hts inw_X1_withoutArrows_1 hown hK hP 0 rfl rfl 0 (by decide) (hts (.fieldLink RX1 21 "RingGames$Game" "size" "I") (List.mem_of_getElem? (i := 1) rfl)) (fun _ h9 => h9) rfl dX1_withoutArrows_6 ?_
      refine lv_icmp_ge (tgt := 34) hx hb dX1_withoutArrows_9 (by decide) (fun c3 => ?_) (fun c3 => ?_)
      · have hf := if_t hf c3
        have hf := Option.some.inj hf
        subst hf
        exact kx _ _ hP hD hS _ (lv_sub hl [1] rfl)
      · have hf := if_f hf c3
        refine lv_aload_n hx hb dX1_withoutArrows_12 rfl (lv_at hl 0 rfl) ?_
        refine va_get (D := D) (ci := 1) (v := .ref (a0 3)) (C := RX1) (T := TX1) (N := 4) hx hb hts inw_X1_withoutArrows_1 hown hK hP 0 rfl rfl 3 (by decide) (hts (.fieldLink RX1 18 "RingGames$Game" "arrows" "[I") (List.mem_of_getElem? (i := 2) rfl)) (fun _ h9 => h9) rfl dX1_withoutArrows_13 ?_
        refine lv_iload_n hx hb dX1_withoutArrows_16 rfl (lv_at hl 2 rfl) ?_
        obtain ⟨g4, hf⟩ := vg_some hf
        refine va_iald hx hb hK hP 3 0 rfl rfl g4 dX1_withoutArrows_17 ?_
        refine lv_if_ne (tgt := 28) hx hb dX1_withoutArrows_18 (by decide) (fun c5 => ?_) (fun c5 => ?_)
        · have hf := if_f hf c5
          refine lv_iinc (v := (v_l2_L1 + 1)) (lv' := [(2, .int (v_l2_L1 + 1)), (0, .ref (a0 0)), (1, .int v_l1_L1)]) hx hb dX1_withoutArrows_28 hl (k := 2) rfl (congrArg (fun z => v_l2_L1 + z) (by decide)) (by decide) rfl (fun ls hl => ?_)
          refine lv_goto (tgt := 4) hx hb dX1_withoutArrows_31 (by decide) ?_
          exact ih v_l1_L1 (v_l2_L1 + 1) _ hf _ _ hP hD hS _ (lv_sub hl [1, 2, 0] rfl) kx
        · have hf := if_t hf c5
          refine lv_iload_n hx hb dX1_withoutArrows_21 rfl (lv_at hl 1 rfl) ?_
          refine lv_iload_n hx hb dX1_withoutArrows_22 rfl (lv_at hl 2 rfl) ?_
          obtain ⟨q6, hq6, hf⟩ := ob_some hf
          refine xcNi S hK hN hA hP hD hS (c_X6_bit l D cI cC cS ((w_G a0 cI o0) ++ R) v_l2_L1 _ hq6) 6 rfl gX1_withoutArrows_X6_bit_n31 (List.mem_of_getElem? (i := 3) rfl) (List.mem_of_getElem? (i := 4) rfl) rfl hd_X6_bit ⟨by decide, by decide⟩ rfl hl.1 rfl (Nat.le_of_ble_eq_true rfl) dX1_withoutArrows_23 ⟨Nat.zero_le _, Nat.zero_le _⟩ (fun H locs hP hD hS => ?_)
          refine lv_ior hx hb dX1_withoutArrows_26 ?_
          refine lv_istore_n (lv' := [(1, .int (v_l1_L1 ||| q6)), (0, .ref (a0 0)), (2, .int v_l2_L1)]) hx hb dX1_withoutArrows_27 rfl hl (by decide) rfl (fun ls hl => ?_)
          refine lv_iinc (v := (v_l2_L1 + 1)) (lv' := [(2, .int (v_l2_L1 + 1)), (1, .int (v_l1_L1 ||| q6)), (0, .ref (a0 0))]) hx hb dX1_withoutArrows_28 hl (k := 2) rfl (congrArg (fun z => v_l2_L1 + z) (by decide)) (by decide) rfl (fun ls hl => ?_)
          refine lv_goto (tgt := 4) hx hb dX1_withoutArrows_31 (by decide) ?_
          exact ih (v_l1_L1 ||| q6) (v_l2_L1 + 1) _ hf _ _ hP hD hS _ (lv_sub hl [2, 1, 0] rfl) kx
  refine L1 n 0 0 q2 hq2 _ _ hP hD hS _ (lv_sub hl [2, 1, 0] rfl) ?_
  clear hP hD hS hl
  intro H locs hP hD hS ls hl
  refine lv_iload_n hx hb dX1_withoutArrows_34 rfl (lv_at hl 0 rfl) ?_
  have hf := Option.some.inj hf
  subst hf
  exact hret _ _ _ _ _ dX1_withoutArrows_35 rfl hP hD hS rfl
def f_X1_hasColour_L2 (d_o0 : GG) (d_l1 : Int32) : Nat → Int32 → Option Int32
  | 0, _ => none
  | k + 1, d_l2 => (if d_o0.1 ≤ d_l2 then some (0) else vg d_l2 14 ((if (d_o0.2.2.1 (d_l2).toNatClampNeg) = d_l1 then some (1) else f_X1_hasColour_L2 d_o0 d_l1 k (d_l2 + 1))))
def f_X1_hasColour (n : Nat) (o0 : GG) (p1 : Int32) : Option Int32 := f_X1_hasColour_L2 o0 p1 n 0
theorem inw_X1_hasColour_1 : ∀ w ∈ wsX10, w ∈ wsX1_hasColour := fun _ h => List.mem_cons_of_mem _ (List.mem_append_right _ h)
theorem hd_X1_hasColour : yX1_hasColour.cls = RX1 ∧ yX1_hasColour.cls ≠ "java/lang/invoke/MethodHandle" ∧ yX1_hasColour.cls ≠ "java/lang/invoke/VarHandle" ∧ (parseMethodDescriptor yX1_hasColour.desc).map (fun d => d.parameters.length) = some 1 := by decide +kernel
set_option maxHeartbeats 4000000 in
set_option maxRecDepth 100000 in
theorem c_X1_hasColour (l : Launch) (D : va_G) (cI cC cS : ClassId) (R : va_W) (a0 : Nat → Nat) (o0 : GG) (p1 : Int32) (n : Nat) (r : Int32) (hf : f_X1_hasColour n o0 p1 = some r) : CI l yX1_hasColour wsX1_hasColour 0 0 D cI cC cS [.ref (a0 0), .int p1] ((w_G a0 cI o0) ++ R) r ((w_G a0 cI o0) ++ R) := by
  refine XI.of (cc := cX1_hasColour) (maxL := 3) (ty := .boolean) (own := RX1) (by decide) rfl rfl (Nat.le_of_ble_eq_true rfl) ?_
  intro p e s m args below meth c A Q S hK hN hA hP hD hS ls hl hret
  obtain ⟨hx, hb, hml, hown, hts⟩ := id S
  have hl : lv_has ls 3 [(0, .ref (a0 0)), (1, .int p1)] := hl
  unfold f_X1_hasColour at hf
  refine lv_iconst (v := 0) hx hb dX1_hasColour_0 (by decide) ?_
  refine lv_istore_n (lv' := [(2, .int 0), (0, .ref (a0 0)), (1, .int p1)]) hx hb dX1_hasColour_1 rfl hl (by decide) rfl (fun ls hl => ?_)
  have L1 : ∀ (k : Nat) (v_l2_L1 : Int32), f_X1_hasColour_L2 o0 p1 k v_l2_L1 = some r → ∀ (H : Heap) (locs : List Loc), va_P D vwCl ((w_G a0 cI o0) ++ R) H → va_D A ((w_G a0 cI o0) ++ R) → va_S A s.heap H locs → ∀ ls : Array Slot, lv_has ls 3 [(0, .ref (a0 0)), (1, .int p1), (2, .int v_l2_L1)] → W p l e (xR 0 0) s m args below meth c H locs 0 0 Q (F0 m 2 ls []) := by
    intro k
    induction k with
    | zero => intro v_l2_L1 hf; simp [f_X1_hasColour_L2] at hf
    | succ k ih =>
      intro v_l2_L1 hf H locs hP hD hS ls hl
      rw [f_X1_hasColour_L2] at hf
      refine lv_iload_n hx hb dX1_hasColour_2 rfl (lv_at hl 2 rfl) ?_
      refine lv_aload_n hx hb dX1_hasColour_3 rfl (lv_at hl 0 rfl) ?_
      refine va_get (D := D) (ci := 1) (v := .int o0.1) (C := RX1) (T := TX1) (N := 4) hx hb hts inw_X1_hasColour_1 hown hK hP 0 rfl rfl 0 (by decide) (hts (.fieldLink RX1 21 "RingGames$Game" "size" "I") (List.mem_of_getElem? (i := 1) rfl)) (fun _ h9 => h9) rfl dX1_hasColour_4 ?_
      refine lv_icmp_ge (tgt := 28) hx hb dX1_hasColour_7 (by decide) (fun c3 => ?_) (fun c3 => ?_)
      · have hf := if_t hf c3
        refine lv_iconst (v := 0) hx hb dX1_hasColour_28 (by decide) ?_
        have hf := Option.some.inj hf
        subst hf
        exact hret _ _ _ _ _ dX1_hasColour_29 rfl hP hD hS rfl
      · have hf := if_f hf c3
        refine lv_aload_n hx hb dX1_hasColour_10 rfl (lv_at hl 0 rfl) ?_
        refine va_get (D := D) (ci := 1) (v := .ref (a0 2)) (C := RX1) (T := TX1) (N := 4) hx hb hts inw_X1_hasColour_1 hown hK hP 0 rfl rfl 2 (by decide) (hts (.fieldLink RX1 15 "RingGames$Game" "colours" "[I") (List.mem_of_getElem? (i := 2) rfl)) (fun _ h9 => h9) rfl dX1_hasColour_11 ?_
        refine lv_iload_n hx hb dX1_hasColour_14 rfl (lv_at hl 2 rfl) ?_
        obtain ⟨g4, hf⟩ := vg_some hf
        refine va_iald hx hb hK hP 2 0 rfl rfl g4 dX1_hasColour_15 ?_
        refine lv_iload_n hx hb dX1_hasColour_16 rfl (lv_at hl 1 rfl) ?_
        refine lv_icmp_ne (tgt := 22) hx hb dX1_hasColour_17 (by decide) (fun c5 => ?_) (fun c5 => ?_)
        · have hf := if_f hf c5
          refine lv_iinc (v := (v_l2_L1 + 1)) (lv' := [(2, .int (v_l2_L1 + 1)), (0, .ref (a0 0)), (1, .int p1)]) hx hb dX1_hasColour_22 hl (k := 2) rfl (congrArg (fun z => v_l2_L1 + z) (by decide)) (by decide) rfl (fun ls hl => ?_)
          refine lv_goto (tgt := 2) hx hb dX1_hasColour_25 (by decide) ?_
          exact ih (v_l2_L1 + 1) hf _ _ hP hD hS _ (lv_sub hl [1, 2, 0] rfl)
        · have hf := if_t hf c5
          refine lv_iconst (v := 1) hx hb dX1_hasColour_20 (by decide) ?_
          have hf := Option.some.inj hf
          subst hf
          exact hret _ _ _ _ _ dX1_hasColour_21 rfl hP hD hS rfl
  exact L1 n 0 hf _ _ hP hD hS _ (lv_sub hl [1, 2, 0] rfl)
def f_X1_leastColour_L5 (d_o0 : GG) : Nat → Int32 → Int32 → Option Int32
  | 0, _, _ => none
  | k + 1, d_l1, d_l2 => (if d_o0.1 ≤ d_l2 then some (d_l1) else (if d_l1 = (-5) then vg d_l2 14 (f_X1_leastColour_L5 d_o0 k (d_o0.2.2.1 (d_l2).toNatClampNeg) (d_l2 + 1)) else vg d_l2 14 ((if d_l1 ≤ (d_o0.2.2.1 (d_l2).toNatClampNeg) then f_X1_leastColour_L5 d_o0 k d_l1 (d_l2 + 1) else f_X1_leastColour_L5 d_o0 k (d_o0.2.2.1 (d_l2).toNatClampNeg) (d_l2 + 1)))))
def f_X1_leastColour (n : Nat) (o0 : GG) : Option Int32 := (f_X1_leastColour_L5 o0 n (-5) 0).bind fun q2 => some (q2)
theorem inw_X1_leastColour_1 : ∀ w ∈ wsX10, w ∈ wsX1_leastColour := fun _ h => List.mem_cons_of_mem _ (List.mem_append_right _ h)
theorem hd_X1_leastColour : yX1_leastColour.cls = RX1 ∧ yX1_leastColour.cls ≠ "java/lang/invoke/MethodHandle" ∧ yX1_leastColour.cls ≠ "java/lang/invoke/VarHandle" ∧ (parseMethodDescriptor yX1_leastColour.desc).map (fun d => d.parameters.length) = some 0 := by decide +kernel
set_option maxHeartbeats 4000000 in
set_option maxRecDepth 100000 in
theorem c_X1_leastColour (l : Launch) (D : va_G) (cI cC cS : ClassId) (R : va_W) (a0 : Nat → Nat) (o0 : GG) (n : Nat) (r : Int32) (hf : f_X1_leastColour n o0 = some r) : CI l yX1_leastColour wsX1_leastColour 0 0 D cI cC cS [.ref (a0 0)] ((w_G a0 cI o0) ++ R) r ((w_G a0 cI o0) ++ R) := by
  refine XI.of (cc := cX1_leastColour) (maxL := 3) (ty := .int) (own := RX1) (by decide) rfl rfl (Nat.le_of_ble_eq_true rfl) ?_
  intro p e s m args below meth c A Q S hK hN hA hP hD hS ls hl hret
  obtain ⟨hx, hb, hml, hown, hts⟩ := id S
  have hl : lv_has ls 3 [(0, .ref (a0 0))] := hl
  unfold f_X1_leastColour at hf
  refine lv_bipush (v := (-5)) hx hb dX1_leastColour_0 (by decide) ?_
  refine lv_istore_n (lv' := [(1, .int (-5)), (0, .ref (a0 0))]) hx hb dX1_leastColour_2 rfl hl (by decide) rfl (fun ls hl => ?_)
  refine lv_iconst (v := 0) hx hb dX1_leastColour_3 (by decide) ?_
  refine lv_istore_n (lv' := [(2, .int 0), (1, .int (-5)), (0, .ref (a0 0))]) hx hb dX1_leastColour_4 rfl hl (by decide) rfl (fun ls hl => ?_)
  obtain ⟨q2, hq2, hf⟩ := ob_some hf
  have L1 : ∀ (k : Nat) (v_l1_L1 : Int32) (v_l2_L1 : Int32) (q_L1 : Int32), f_X1_leastColour_L5 o0 k v_l1_L1 v_l2_L1 = some q_L1 → ∀ (H : Heap) (locs : List Loc), va_P D vwCl ((w_G a0 cI o0) ++ R) H → va_D A ((w_G a0 cI o0) ++ R) → va_S A s.heap H locs → ∀ ls : Array Slot, lv_has ls 3 [(0, .ref (a0 0)), (1, .int v_l1_L1), (2, .int v_l2_L1)] → (∀ (H : Heap) (locs : List Loc), va_P D vwCl ((w_G a0 cI o0) ++ R) H → va_D A ((w_G a0 cI o0) ++ R) → va_S A s.heap H locs → ∀ ls : Array Slot, lv_has ls 3 [(1, .int q_L1)] → W p l e (xR 0 0) s m args below meth c H locs 0 0 Q (F0 m 42 ls [])) → W p l e (xR 0 0) s m args below meth c H locs 0 0 Q (F0 m 5 ls []) := by
    intro k
    induction k with
    | zero => intro v_l1_L1 v_l2_L1 q_L1 hf; simp [f_X1_leastColour_L5] at hf
    | succ k ih =>
      intro v_l1_L1 v_l2_L1 q_L1 hf H locs hP hD hS ls hl kx
      rw [f_X1_leastColour_L5] at hf
      refine lv_iload_n hx hb dX1_leastColour_5 rfl (lv_at hl 2 rfl) ?_
      refine lv_aload_n hx hb dX1_leastColour_6 rfl (lv_at hl 0 rfl) ?_
      refine va_get (D := D) (ci := 1) (v := .int o0.1) (C := RX1) (T := TX1) (N := 4) hx hb hts inw_X1_leastColour_1 hown hK hP 0 rfl rfl 0 (by decide) (hts (.fieldLink RX1 21 "RingGames$Game" "size" "I") (List.mem_of_getElem? (i := 1) rfl)) (fun _ h9 => h9) rfl dX1_leastColour_7 ?_
      refine lv_icmp_ge (tgt := 42) hx hb dX1_leastColour_10 (by decide) (fun c3 => ?_) (fun c3 => ?_)
      · have hf := if_t hf c3
        have hf := Option.some.inj hf
        subst hf
        exact kx _ _ hP hD hS _ (lv_sub hl [1] rfl)
      · have hf := if_f hf c3
        refine lv_iload_n hx hb dX1_leastColour_13 rfl (lv_at hl 1 rfl) ?_
        refine lv_bipush (v := (-5)) hx hb dX1_leastColour_14 (by decide) ?_
        refine lv_icmp_eq (tgt := 29) hx hb dX1_leastColour_16 (by decide) (fun c4 => ?_) (fun c4 => ?_)
        · have hf := if_t hf c4
          refine lv_aload_n hx hb dX1_leastColour_29 rfl (lv_at hl 0 rfl) ?_
          refine va_get (D := D) (ci := 1) (v := .ref (a0 2)) (C := RX1) (T := TX1) (N := 4) hx hb hts inw_X1_leastColour_1 hown hK hP 0 rfl rfl 2 (by decide) (hts (.fieldLink RX1 15 "RingGames$Game" "colours" "[I") (List.mem_of_getElem? (i := 2) rfl)) (fun _ h9 => h9) rfl dX1_leastColour_30 ?_
          refine lv_iload_n hx hb dX1_leastColour_33 rfl (lv_at hl 2 rfl) ?_
          obtain ⟨g5, hf⟩ := vg_some hf
          refine va_iald hx hb hK hP 2 0 rfl rfl g5 dX1_leastColour_34 ?_
          refine lv_istore_n (lv' := [(1, .int (o0.2.2.1 (v_l2_L1).toNatClampNeg)), (0, .ref (a0 0)), (2, .int v_l2_L1)]) hx hb dX1_leastColour_35 rfl hl (by decide) rfl (fun ls hl => ?_)
          refine lv_iinc (v := (v_l2_L1 + 1)) (lv' := [(2, .int (v_l2_L1 + 1)), (1, .int (o0.2.2.1 (v_l2_L1).toNatClampNeg)), (0, .ref (a0 0))]) hx hb dX1_leastColour_36 hl (k := 2) rfl (congrArg (fun z => v_l2_L1 + z) (by decide)) (by decide) rfl (fun ls hl => ?_)
          refine lv_goto (tgt := 5) hx hb dX1_leastColour_39 (by decide) ?_
          exact ih (o0.2.2.1 (v_l2_L1).toNatClampNeg) (v_l2_L1 + 1) _ hf _ _ hP hD hS _ (lv_sub hl [2, 1, 0] rfl) kx
        · have hf := if_f hf c4
          refine lv_aload_n hx hb dX1_leastColour_19 rfl (lv_at hl 0 rfl) ?_
          refine va_get (D := D) (ci := 1) (v := .ref (a0 2)) (C := RX1) (T := TX1) (N := 4) hx hb hts inw_X1_leastColour_1 hown hK hP 0 rfl rfl 2 (by decide) (hts (.fieldLink RX1 15 "RingGames$Game" "colours" "[I") (List.mem_of_getElem? (i := 2) rfl)) (fun _ h9 => h9) rfl dX1_leastColour_20 ?_
          refine lv_iload_n hx hb dX1_leastColour_23 rfl (lv_at hl 2 rfl) ?_
          obtain ⟨g6, hf⟩ := vg_some hf
          refine va_iald hx hb hK hP 2 0 rfl rfl g6 dX1_leastColour_24 ?_
          refine lv_iload_n hx hb dX1_leastColour_25 rfl (lv_at hl 1 rfl) ?_
          refine lv_icmp_ge (tgt := 36) hx hb dX1_leastColour_26 (by decide) (fun c7 => ?_) (fun c7 => ?_)
          · have hf := if_t hf c7
            refine lv_iinc (v := (v_l2_L1 + 1)) (lv' := [(2, .int (v_l2_L1 + 1)), (0, .ref (a0 0)), (1, .int v_l1_L1)]) hx hb dX1_leastColour_36 hl (k := 2) rfl (congrArg (fun z => v_l2_L1 + z) (by decide)) (by decide) rfl (fun ls hl => ?_)
            refine lv_goto (tgt := 5) hx hb dX1_leastColour_39 (by decide) ?_
            exact ih v_l1_L1 (v_l2_L1 + 1) _ hf _ _ hP hD hS _ (lv_sub hl [1, 2, 0] rfl) kx
          · have hf := if_f hf c7
            refine lv_aload_n hx hb dX1_leastColour_29 rfl (lv_at hl 0 rfl) ?_
            refine va_get (D := D) (ci := 1) (v := .ref (a0 2)) (C := RX1) (T := TX1) (N := 4) hx hb hts inw_X1_leastColour_1 hown hK hP 0 rfl rfl 2 (by decide) (hts (.fieldLink RX1 15 "RingGames$Game" "colours" "[I") (List.mem_of_getElem? (i := 2) rfl)) (fun _ h9 => h9) rfl dX1_leastColour_30 ?_
            refine lv_iload_n hx hb dX1_leastColour_33 rfl (lv_at hl 2 rfl) ?_
            refine va_iald hx hb hK hP 2 0 rfl rfl g6 dX1_leastColour_34 ?_
            refine lv_istore_n (lv' := [(1, .int (o0.2.2.1 (v_l2_L1).toNatClampNeg)), (0, .ref (a0 0)), (2, .int v_l2_L1)]) hx hb dX1_leastColour_35 rfl hl (by decide) rfl (fun ls hl => ?_)
            refine lv_iinc (v := (v_l2_L1 + 1)) (lv' := [(2, .int (v_l2_L1 + 1)), (1, .int (o0.2.2.1 (v_l2_L1).toNatClampNeg)), (0, .ref (a0 0))]) hx hb dX1_leastColour_36 hl (k := 2) rfl (congrArg (fun z => v_l2_L1 + z) (by decide)) (by decide) rfl (fun ls hl => ?_)
            refine lv_goto (tgt := 5) hx hb dX1_leastColour_39 (by decide) ?_
            exact ih (o0.2.2.1 (v_l2_L1).toNatClampNeg) (v_l2_L1 + 1) _ hf _ _ hP hD hS _ (lv_sub hl [2, 1, 0] rfl) kx
  refine L1 n (-5) 0 q2 hq2 _ _ hP hD hS _ (lv_sub hl [2, 1, 0] rfl) ?_
  clear hP hD hS hl
  intro H locs hP hD hS ls hl
  refine lv_iload_n hx hb dX1_leastColour_42 rfl (lv_at hl 0 rfl) ?_
  have hf := Option.some.inj hf
  subst hf
  exact hret _ _ _ _ _ dX1_leastColour_43 rfl hP hD hS rfl
def f_X1_exchange_L2 : Nat → Int32 → GG → Option GG
  | 0, _, _ => none
  | k + 1, d_l1, d_o0 => (if d_o0.1 ≤ d_l1 then some (d_o0) else vg d_l1 14 (f_X1_exchange_L2 k (d_l1 + 1) (d_o0.1, (upd d_o0.2.1 (d_l1).toNatClampNeg (1 - (d_o0.2.1 (d_l1).toNatClampNeg))), (upd d_o0.2.2.1 (d_l1).toNatClampNeg ((d_o0.2.2.1 (d_l1).toNatClampNeg) + 1)), d_o0.2.2.2)))
def f_X1_exchange (n : Nat) (o0 : GG) : Option GG := (f_X1_exchange_L2 n 0 o0).bind fun q2 => some (q2)
theorem inw_X1_exchange_1 : ∀ w ∈ wsX10, w ∈ wsX1_exchange := fun _ h => List.mem_cons_of_mem _ (List.mem_append_right _ h)
theorem hd_X1_exchange : yX1_exchange.cls = RX1 ∧ yX1_exchange.cls ≠ "java/lang/invoke/MethodHandle" ∧ yX1_exchange.cls ≠ "java/lang/invoke/VarHandle" ∧ (parseMethodDescriptor yX1_exchange.desc).map (fun d => d.parameters.length) = some 0 := by decide +kernel
set_option maxHeartbeats 4000000 in
set_option maxRecDepth 100000 in
theorem c_X1_exchange (l : Launch) (D : va_G) (cI cC cS : ClassId) (R : va_W) (a0 : Nat → Nat) (o0 : GG) (n : Nat) (r : GG) (hf : f_X1_exchange n o0 = some r) : CV l yX1_exchange wsX1_exchange 0 0 D cI cC cS [.ref (a0 0)] ((w_G a0 cI o0) ++ R) ((w_G a0 cI r) ++ R) := by
  refine XV.of (cc := cX1_exchange) (maxL := 2) (own := RX1) (by decide) rfl rfl (Nat.le_of_ble_eq_true rfl) ?_
  intro p e s m args below meth c A Q S hK hN hA hP hD hS ls hl hret
  obtain ⟨hx, hb, hml, hown, hts⟩ := id S
  have hl : lv_has ls 2 [(0, .ref (a0 0))] := hl
  unfold f_X1_exchange at hf
  refine lv_iconst (v := 0) hx hb dX1_exchange_0 (by decide) ?_
  refine lv_istore_n (lv' := [(1, .int 0), (0, .ref (a0 0))]) hx hb dX1_exchange_1 rfl hl (by decide) rfl (fun ls hl => ?_)
  obtain ⟨q2, hq2, hf⟩ := ob_some hf
  have L1 : ∀ (k : Nat) (v_l1_L1 : Int32) (v_o0_L1 : GG) (q_L1 : GG), f_X1_exchange_L2 k v_l1_L1 v_o0_L1 = some q_L1 → ∀ (H : Heap) (locs : List Loc), va_P D vwCl ((w_G a0 cI v_o0_L1) ++ R) H → va_D A ((w_G a0 cI v_o0_L1) ++ R) → va_S A s.heap H locs → ∀ ls : Array Slot, lv_has ls 2 [(0, .ref (a0 0)), (1, .int v_l1_L1)] → (∀ (H : Heap) (locs : List Loc), va_P D vwCl ((w_G a0 cI q_L1) ++ R) H → va_D A ((w_G a0 cI q_L1) ++ R) → va_S A s.heap H locs → ∀ ls : Array Slot, lv_has ls 2 [] → W p l e (xR 0 0) s m args below meth c H locs 0 0 Q (F0 m 40 ls [])) → W p l e (xR 0 0) s m args below meth c H locs 0 0 Q (F0 m 2 ls []) := by
    intro k
    induction k with
    | zero => intro v_l1_L1 v_o0_L1 q_L1 hf; simp [f_X1_exchange_L2] at hf
    | succ k ih =>
      intro v_l1_L1 v_o0_L1 q_L1 hf H locs hP hD hS ls hl kx
      rw [f_X1_exchange_L2] at hf
      refine lv_iload_n hx hb dX1_exchange_2 rfl (lv_at hl 1 rfl) ?_
      refine lv_aload_n hx hb dX1_exchange_3 rfl (lv_at hl 0 rfl) ?_
      refine va_get (D := D) (ci := 1) (v := .int v_o0_L1.1) (C := RX1) (T := TX1) (N := 4) hx hb hts inw_X1_exchange_1 hown hK hP 0 rfl rfl 0 (by decide) (hts (.fieldLink RX1 21 "RingGames$Game" "size" "I") (List.mem_of_getElem? (i := 1) rfl)) (fun _ h9 => h9) rfl dX1_exchange_4 ?_
      refine lv_icmp_ge (tgt := 40) hx hb dX1_exchange_7 (by decide) (fun c3 => ?_) (fun c3 => ?_)
      · have hf := if_t hf c3
        have hf := Option.some.inj hf
        subst hf
        exact kx _ _ hP hD hS _ (lv_sub hl [] rfl)
      · have hf := if_f hf c3
        refine lv_aload_n hx hb dX1_exchange_10 rfl (lv_at hl 0 rfl) ?_
        refine va_get (D := D) (ci := 1) (v := .ref (a0 1)) (C := RX1) (T := TX1) (N := 4) hx hb hts inw_X1_exchange_1 hown hK hP 0 rfl rfl 1 (by decide) (hts (.fieldLink RX1 9 "RingGames$Game" "owners" "[I") (List.mem_of_getElem? (i := 2) rfl)) (fun _ h9 => h9) rfl dX1_exchange_11 ?_
        refine lv_iload_n hx hb dX1_exchange_14 rfl (lv_at hl 1 rfl) ?_
        refine lv_iconst (v := 1) hx hb dX1_exchange_15 (by decide) ?_
        refine lv_aload_n hx hb dX1_exchange_16 rfl (lv_at hl 0 rfl) ?_
        refine va_get (D := D) (ci := 1) (v := .ref (a0 1)) (C := RX1) (T := TX1) (N := 4) hx hb hts inw_X1_exchange_1 hown hK hP 0 rfl rfl 1 (by decide) (hts (.fieldLink RX1 9 "RingGames$Game" "owners" "[I") (List.mem_of_getElem? (i := 2) rfl)) (fun _ h9 => h9) rfl dX1_exchange_17 ?_
        refine lv_iload_n hx hb dX1_exchange_20 rfl (lv_at hl 1 rfl) ?_
        obtain ⟨g4, hf⟩ := vg_some hf
        refine va_iald hx hb hK hP 1 0 rfl rfl g4 dX1_exchange_21 ?_
        refine lv_isub hx hb dX1_exchange_22 ?_
        refine va_iast hx hb hK hP hD hS 1 0 rfl rfl g4 dX1_exchange_23 (fun H locs hP hD hS => ?_)
        have hP : va_P D vwCl ((w_G a0 cI (v_o0_L1.1, (upd v_o0_L1.2.1 (v_l1_L1).toNatClampNeg (1 - (v_o0_L1.2.1 (v_l1_L1).toNatClampNeg))), v_o0_L1.2.2.1, v_o0_L1.2.2.2)) ++ R) H := hP
        have hD : va_D A ((w_G a0 cI (v_o0_L1.1, (upd v_o0_L1.2.1 (v_l1_L1).toNatClampNeg (1 - (v_o0_L1.2.1 (v_l1_L1).toNatClampNeg))), v_o0_L1.2.2.1, v_o0_L1.2.2.2)) ++ R) := hD
        refine lv_aload_n hx hb dX1_exchange_24 rfl (lv_at hl 0 rfl) ?_
        refine va_get (D := D) (ci := 1) (v := .ref (a0 2)) (C := RX1) (T := TX1) (N := 4) hx hb hts inw_X1_exchange_1 hown hK hP 0 rfl rfl 2 (by decide) (hts (.fieldLink RX1 15 "RingGames$Game" "colours" "[I") (List.mem_of_getElem? (i := 3) rfl)) (fun _ h9 => h9) rfl dX1_exchange_25 ?_
        refine lv_iload_n hx hb dX1_exchange_28 rfl (lv_at hl 1 rfl) ?_
        refine lv_dup2_11 hx hb dX1_exchange_29 rfl rfl ?_
        refine va_iald hx hb hK hP 2 0 rfl rfl g4 dX1_exchange_30 ?_
        refine lv_iconst (v := 1) hx hb dX1_exchange_31 (by decide) ?_
        refine lv_iadd hx hb dX1_exchange_32 ?_
        refine va_iast hx hb hK hP hD hS 2 0 rfl rfl g4 dX1_exchange_33 (fun H locs hP hD hS => ?_)
        have hP : va_P D vwCl ((w_G a0 cI (v_o0_L1.1, (upd v_o0_L1.2.1 (v_l1_L1).toNatClampNeg (1 - (v_o0_L1.2.1 (v_l1_L1).toNatClampNeg))), (upd v_o0_L1.2.2.1 (v_l1_L1).toNatClampNeg ((v_o0_L1.2.2.1 (v_l1_L1).toNatClampNeg) + 1)), v_o0_L1.2.2.2)) ++ R) H := hP
        have hD : va_D A ((w_G a0 cI (v_o0_L1.1, (upd v_o0_L1.2.1 (v_l1_L1).toNatClampNeg (1 - (v_o0_L1.2.1 (v_l1_L1).toNatClampNeg))), (upd v_o0_L1.2.2.1 (v_l1_L1).toNatClampNeg ((v_o0_L1.2.2.1 (v_l1_L1).toNatClampNeg) + 1)), v_o0_L1.2.2.2)) ++ R) := hD
        refine lv_iinc (v := (v_l1_L1 + 1)) (lv' := [(1, .int (v_l1_L1 + 1)), (0, .ref (a0 0))]) hx hb dX1_exchange_34 hl (k := 1) rfl (congrArg (fun z => v_l1_L1 + z) (by decide)) (by decide) rfl (fun ls hl => ?_)
        refine lv_goto (tgt := 2) hx hb dX1_exchange_37 (by decide) ?_
        exact ih (v_l1_L1 + 1) (v_o0_L1.1, (upd v_o0_L1.2.1 (v_l1_L1).toNatClampNeg (1 - (v_o0_L1.2.1 (v_l1_L1).toNatClampNeg))), (upd v_o0_L1.2.2.1 (v_l1_L1).toNatClampNeg ((v_o0_L1.2.2.1 (v_l1_L1).toNatClampNeg) + 1)), v_o0_L1.2.2.2) _ hf _ _ hP hD hS _ (lv_sub hl [1, 0] rfl) kx
  refine L1 n 0 o0 q2 hq2 _ _ hP hD hS _ (lv_sub hl [1, 0] rfl) ?_
  clear hP hD hS hl
  intro H locs hP hD hS ls hl
  have hf := Option.some.inj hf
  subst hf
  exact hret _ _ _ _ dX1_exchange_40 hP hD hS
def f_X1_sources_L4 (d_o0 : GG) (d_l1 : Int32) : Nat → Int32 → Int32 → Option Int32
  | 0, _, _ => none
  | k + 1, d_l2, d_l3 => (if d_o0.1 ≤ d_l3 then some (d_l2) else vg d_l3 14 ((if ((d_o0.2.2.2 (d_l3).toNatClampNeg) &&& d_l1) = 0 then f_X1_sources_L4 d_o0 d_l1 k d_l2 (d_l3 + 1) else (f_X6_bit d_l3).bind fun q4 => f_X1_sources_L4 d_o0 d_l1 k (d_l2 ||| q4) (d_l3 + 1))))
def f_X1_sources (n : Nat) (o0 : GG) (p1 : Int32) : Option Int32 := (f_X1_sources_L4 o0 p1 n 0 0).bind fun q2 => some (q2)
theorem inw_X1_sources_1 : ∀ w ∈ wsX10, w ∈ wsX1_sources := fun _ h => List.mem_cons_of_mem _ (List.mem_append_right _ h)
theorem hd_X1_sources : yX1_sources.cls = RX1 ∧ yX1_sources.cls ≠ "java/lang/invoke/MethodHandle" ∧ yX1_sources.cls ≠ "java/lang/invoke/VarHandle" ∧ (parseMethodDescriptor yX1_sources.desc).map (fun d => d.parameters.length) = some 1 := by decide +kernel
set_option maxHeartbeats 4000000 in
set_option maxRecDepth 100000 in
theorem c_X1_sources (l : Launch) (D : va_G) (cI cC cS : ClassId) (R : va_W) (a0 : Nat → Nat) (o0 : GG) (p1 : Int32) (n : Nat) (r : Int32) (hf : f_X1_sources n o0 p1 = some r) : CI l yX1_sources wsX1_sources 1 20 D cI cC cS [.ref (a0 0), .int p1] ((w_G a0 cI o0) ++ R) r ((w_G a0 cI o0) ++ R) := by
  refine XI.of (cc := cX1_sources) (maxL := 4) (ty := .int) (own := RX1) (by decide) rfl rfl (Nat.le_of_ble_eq_true rfl) ?_
  intro p e s m args below meth c A Q S hK hN hA hP hD hS ls hl hret
  obtain ⟨hx, hb, hml, hown, hts⟩ := id S
  have hl : lv_has ls 4 [(0, .ref (a0 0)), (1, .int p1)] := hl
  unfold f_X1_sources at hf
  refine lv_iconst (v := 0) hx hb dX1_sources_0 (by decide) ?_
  refine lv_istore_n (lv' := [(2, .int 0), (0, .ref (a0 0)), (1, .int p1)]) hx hb dX1_sources_1 rfl hl (by decide) rfl (fun ls hl => ?_)
  refine lv_iconst (v := 0) hx hb dX1_sources_2 (by decide) ?_
  refine lv_istore_n (lv' := [(3, .int 0), (2, .int 0), (0, .ref (a0 0)), (1, .int p1)]) hx hb dX1_sources_3 rfl hl (by decide) rfl (fun ls hl => ?_)
  obtain ⟨q2, hq2, hf⟩ := ob_some hf
  have L1 : ∀ (k : Nat) (v_l2_L1 : Int32) (v_l3_L1 : Int32) (q_L1 : Int32), f_X1_sources_L4 o0 p1 k v_l2_L1 v_l3_L1 = some q_L1 → ∀ (H : Heap) (locs : List Loc), va_P D vwCl ((w_G a0 cI o0) ++ R) H → va_D A ((w_G a0 cI o0) ++ R) → va_S A s.heap H locs → ∀ ls : Array Slot, lv_has ls 4 [(0, .ref (a0 0)), (1, .int p1), (2, .int v_l2_L1), (3, .int v_l3_L1)] → (∀ (H : Heap) (locs : List Loc), va_P D vwCl ((w_G a0 cI o0) ++ R) H → va_D A ((w_G a0 cI o0) ++ R) → va_S A s.heap H locs → ∀ ls : Array Slot, lv_has ls 4 [(2, .int q_L1)] → W p l e (xR 1 20) s m args below meth c H locs 0 0 Q (F0 m 36 ls [])) → W p l e (xR 1 20) s m args below meth c H locs 0 0 Q (F0 m 4 ls []) := by
    intro k
    induction k with
    | zero => intro v_l2_L1 v_l3_L1 q_L1 hf; simp [f_X1_sources_L4] at hf
    | succ k ih =>
      intro v_l2_L1 v_l3_L1 q_L1 hf H locs hP hD hS ls hl kx
      rw [f_X1_sources_L4] at hf
      refine lv_iload_n hx hb dX1_sources_4 rfl (lv_at hl 3 rfl) ?_
      refine lv_aload_n hx hb dX1_sources_5 rfl (lv_at hl 0 rfl) ?_
      refine va_get (D := D) (ci := 1) (v := .int o0.1) (C := RX1) (T := TX1) (N := 4) hx hb hts inw_X1_sources_1 hown hK hP 0 rfl rfl 0 (by decide) (hts (.fieldLink RX1 21 "RingGames$Game" "size" "I") (List.mem_of_getElem? (i := 1) rfl)) (fun _ h9 => h9) rfl dX1_sources_6 ?_
      refine lv_icmp_ge (tgt := 36) hx hb dX1_sources_9 (by decide) (fun c3 => ?_) (fun c3 => ?_)
      · have hf := if_t hf c3
        have hf := Option.some.inj hf
        subst hf
        exact kx _ _ hP hD hS _ (lv_sub hl [2] rfl)
      · have hf := if_f hf c3
        refine lv_aload_n hx hb dX1_sources_12 rfl (lv_at hl 0 rfl) ?_
        refine va_get (D := D) (ci := 1) (v := .ref (a0 3)) (C := RX1) (T := TX1) (N := 4) hx hb hts inw_X1_sources_1 hown hK hP 0 rfl rfl 3 (by decide) (hts (.fieldLink RX1 18 "RingGames$Game" "arrows" "[I") (List.mem_of_getElem? (i := 2) rfl)) (fun _ h9 => h9) rfl dX1_sources_13 ?_
        refine lv_iload_n hx hb dX1_sources_16 rfl (lv_at hl 3 rfl) ?_
        obtain ⟨g4, hf⟩ := vg_some hf
        refine va_iald hx hb hK hP 3 0 rfl rfl g4 dX1_sources_17 ?_
        refine lv_iload_n hx hb dX1_sources_18 rfl (lv_at hl 1 rfl) ?_
        refine lv_iand hx hb dX1_sources_19 ?_
        refine lv_if_eq (tgt := 30) hx hb dX1_sources_20 (by decide) (fun c5 => ?_) (fun c5 => ?_)
        · have hf := if_t hf c5
          refine lv_iinc (v := (v_l3_L1 + 1)) (lv' := [(3, .int (v_l3_L1 + 1)), (0, .ref (a0 0)), (1, .int p1), (2, .int v_l2_L1)]) hx hb dX1_sources_30 hl (k := 3) rfl (congrArg (fun z => v_l3_L1 + z) (by decide)) (by decide) rfl (fun ls hl => ?_)
          refine lv_goto (tgt := 4) hx hb dX1_sources_33 (by decide) ?_
          exact ih v_l2_L1 (v_l3_L1 + 1) _ hf _ _ hP hD hS _ (lv_sub hl [1, 2, 3, 0] rfl) kx
        · have hf := if_f hf c5
          refine lv_iload_n hx hb dX1_sources_23 rfl (lv_at hl 2 rfl) ?_
          refine lv_iload_n hx hb dX1_sources_24 rfl (lv_at hl 3 rfl) ?_
          obtain ⟨q6, hq6, hf⟩ := ob_some hf
          refine xcNi S hK hN hA hP hD hS (c_X6_bit l D cI cC cS ((w_G a0 cI o0) ++ R) v_l3_L1 _ hq6) 6 rfl gX1_sources_X6_bit_n31 (List.mem_of_getElem? (i := 3) rfl) (List.mem_of_getElem? (i := 4) rfl) rfl hd_X6_bit ⟨by decide, by decide⟩ rfl hl.1 rfl (Nat.le_of_ble_eq_true rfl) dX1_sources_25 ⟨Nat.zero_le _, Nat.zero_le _⟩ (fun H locs hP hD hS => ?_)
          refine lv_ior hx hb dX1_sources_28 ?_
          refine lv_istore_n (lv' := [(2, .int (v_l2_L1 ||| q6)), (0, .ref (a0 0)), (1, .int p1), (3, .int v_l3_L1)]) hx hb dX1_sources_29 rfl hl (by decide) rfl (fun ls hl => ?_)
          refine lv_iinc (v := (v_l3_L1 + 1)) (lv' := [(3, .int (v_l3_L1 + 1)), (2, .int (v_l2_L1 ||| q6)), (0, .ref (a0 0)), (1, .int p1)]) hx hb dX1_sources_30 hl (k := 3) rfl (congrArg (fun z => v_l3_L1 + z) (by decide)) (by decide) rfl (fun ls hl => ?_)
          refine lv_goto (tgt := 4) hx hb dX1_sources_33 (by decide) ?_
          exact ih (v_l2_L1 ||| q6) (v_l3_L1 + 1) _ hf _ _ hP hD hS _ (lv_sub hl [2, 3, 1, 0] rfl) kx
  refine L1 n 0 0 q2 hq2 _ _ hP hD hS _ (lv_sub hl [2, 3, 1, 0] rfl) ?_
  clear hP hD hS hl
  intro H locs hP hD hS ls hl
  refine lv_iload_n hx hb dX1_sources_36 rfl (lv_at hl 0 rfl) ?_
  have hf := Option.some.inj hf
  subst hf
  exact hret _ _ _ _ _ dX1_sources_37 rfl hP hD hS rfl
def f_X1_targets_L4 (d_o0 : GG) (d_l1 : Int32) : Nat → Int32 → Int32 → Option Int32
  | 0, _, _ => none
  | k + 1, d_l2, d_l3 => (if d_o0.1 ≤ d_l3 then some (d_l2) else (f_X6_contains d_l1 d_l3).bind fun q2 => (if q2 = 0 then f_X1_targets_L4 d_o0 d_l1 k d_l2 (d_l3 + 1) else vg d_l3 14 (f_X1_targets_L4 d_o0 d_l1 k (d_l2 ||| (d_o0.2.2.2 (d_l3).toNatClampNeg)) (d_l3 + 1))))
def f_X1_targets (n : Nat) (o0 : GG) (p1 : Int32) : Option Int32 := (f_X1_targets_L4 o0 p1 n 0 0).bind fun q2 => some (q2)
theorem inw_X1_targets_1 : ∀ w ∈ wsX10, w ∈ wsX1_targets := fun _ h => List.mem_cons_of_mem _ (List.mem_append_right _ h)
theorem hd_X1_targets : yX1_targets.cls = RX1 ∧ yX1_targets.cls ≠ "java/lang/invoke/MethodHandle" ∧ yX1_targets.cls ≠ "java/lang/invoke/VarHandle" ∧ (parseMethodDescriptor yX1_targets.desc).map (fun d => d.parameters.length) = some 1 := by decide +kernel
set_option maxHeartbeats 4000000 in
set_option maxRecDepth 100000 in
theorem c_X1_targets (l : Launch) (D : va_G) (cI cC cS : ClassId) (R : va_W) (a0 : Nat → Nat) (o0 : GG) (p1 : Int32) (n : Nat) (r : Int32) (hf : f_X1_targets n o0 p1 = some r) : CI l yX1_targets wsX1_targets 1 21 D cI cC cS [.ref (a0 0), .int p1] ((w_G a0 cI o0) ++ R) r ((w_G a0 cI o0) ++ R) := by
  refine XI.of (cc := cX1_targets) (maxL := 4) (ty := .int) (own := RX1) (by decide) rfl rfl (Nat.le_of_ble_eq_true rfl) ?_
  intro p e s m args below meth c A Q S hK hN hA hP hD hS ls hl hret
  obtain ⟨hx, hb, hml, hown, hts⟩ := id S
  have hl : lv_has ls 4 [(0, .ref (a0 0)), (1, .int p1)] := hl
  unfold f_X1_targets at hf
  refine lv_iconst (v := 0) hx hb dX1_targets_0 (by decide) ?_
  refine lv_istore_n (lv' := [(2, .int 0), (0, .ref (a0 0)), (1, .int p1)]) hx hb dX1_targets_1 rfl hl (by decide) rfl (fun ls hl => ?_)
  refine lv_iconst (v := 0) hx hb dX1_targets_2 (by decide) ?_
  refine lv_istore_n (lv' := [(3, .int 0), (2, .int 0), (0, .ref (a0 0)), (1, .int p1)]) hx hb dX1_targets_3 rfl hl (by decide) rfl (fun ls hl => ?_)
  obtain ⟨q2, hq2, hf⟩ := ob_some hf
  have L1 : ∀ (k : Nat) (v_l2_L1 : Int32) (v_l3_L1 : Int32) (q_L1 : Int32), f_X1_targets_L4 o0 p1 k v_l2_L1 v_l3_L1 = some q_L1 → ∀ (H : Heap) (locs : List Loc), va_P D vwCl ((w_G a0 cI o0) ++ R) H → va_D A ((w_G a0 cI o0) ++ R) → va_S A s.heap H locs → ∀ ls : Array Slot, lv_has ls 4 [(0, .ref (a0 0)), (1, .int p1), (2, .int v_l2_L1), (3, .int v_l3_L1)] → (∀ (H : Heap) (locs : List Loc), va_P D vwCl ((w_G a0 cI o0) ++ R) H → va_D A ((w_G a0 cI o0) ++ R) → va_S A s.heap H locs → ∀ ls : Array Slot, lv_has ls 4 [(2, .int q_L1)] → W p l e (xR 1 21) s m args below meth c H locs 0 0 Q (F0 m 35 ls [])) → W p l e (xR 1 21) s m args below meth c H locs 0 0 Q (F0 m 4 ls []) := by
    intro k
    induction k with
    | zero => intro v_l2_L1 v_l3_L1 q_L1 hf; simp [f_X1_targets_L4] at hf
    | succ k ih =>
      intro v_l2_L1 v_l3_L1 q_L1 hf H locs hP hD hS ls hl kx
      rw [f_X1_targets_L4] at hf
      refine lv_iload_n hx hb dX1_targets_4 rfl (lv_at hl 3 rfl) ?_
      refine lv_aload_n hx hb dX1_targets_5 rfl (lv_at hl 0 rfl) ?_
      refine va_get (D := D) (ci := 1) (v := .int o0.1) (C := RX1) (T := TX1) (N := 4) hx hb hts inw_X1_targets_1 hown hK hP 0 rfl rfl 0 (by decide) (hts (.fieldLink RX1 21 "RingGames$Game" "size" "I") (List.mem_of_getElem? (i := 1) rfl)) (fun _ h9 => h9) rfl dX1_targets_6 ?_
      refine lv_icmp_ge (tgt := 35) hx hb dX1_targets_9 (by decide) (fun c3 => ?_) (fun c3 => ?_)
      · have hf := if_t hf c3
        have hf := Option.some.inj hf
        subst hf
        exact kx _ _ hP hD hS _ (lv_sub hl [2] rfl)
      · have hf := if_f hf c3
        refine lv_iload_n hx hb dX1_targets_12 rfl (lv_at hl 1 rfl) ?_
        refine lv_iload_n hx hb dX1_targets_13 rfl (lv_at hl 3 rfl) ?_
        obtain ⟨q4, hq4, hf⟩ := ob_some hf
        refine xcNi S hK hN hA hP hD hS (c_X6_contains l D cI cC cS ((w_G a0 cI o0) ++ R) p1 v_l3_L1 _ hq4) 7 rfl gX1_targets_X6_contains_n43 (List.mem_of_getElem? (i := 3) rfl) (List.mem_of_getElem? (i := 4) rfl) rfl hd_X6_contains ⟨by decide, by decide⟩ rfl hl.1 rfl (Nat.le_of_ble_eq_true rfl) dX1_targets_14 ⟨Nat.zero_le _, Nat.zero_le _⟩ (fun H locs hP hD hS => ?_)
        refine lv_if_eq (tgt := 29) hx hb dX1_targets_17 (by decide) (fun c5 => ?_) (fun c5 => ?_)
        · have hf := if_t hf c5
          refine lv_iinc (v := (v_l3_L1 + 1)) (lv' := [(3, .int (v_l3_L1 + 1)), (0, .ref (a0 0)), (1, .int p1), (2, .int v_l2_L1)]) hx hb dX1_targets_29 hl (k := 3) rfl (congrArg (fun z => v_l3_L1 + z) (by decide)) (by decide) rfl (fun ls hl => ?_)
          refine lv_goto (tgt := 4) hx hb dX1_targets_32 (by decide) ?_
          exact ih v_l2_L1 (v_l3_L1 + 1) _ hf _ _ hP hD hS _ (lv_sub hl [1, 2, 3, 0] rfl) kx
        · have hf := if_f hf c5
          refine lv_iload_n hx hb dX1_targets_20 rfl (lv_at hl 2 rfl) ?_
          refine lv_aload_n hx hb dX1_targets_21 rfl (lv_at hl 0 rfl) ?_
          refine va_get (D := D) (ci := 1) (v := .ref (a0 3)) (C := RX1) (T := TX1) (N := 4) hx hb hts inw_X1_targets_1 hown hK hP 0 rfl rfl 3 (by decide) (hts (.fieldLink RX1 18 "RingGames$Game" "arrows" "[I") (List.mem_of_getElem? (i := 2) rfl)) (fun _ h9 => h9) rfl dX1_targets_22 ?_
          refine lv_iload_n hx hb dX1_targets_25 rfl (lv_at hl 3 rfl) ?_
          obtain ⟨g6, hf⟩ := vg_some hf
          refine va_iald hx hb hK hP 3 0 rfl rfl g6 dX1_targets_26 ?_
          refine lv_ior hx hb dX1_targets_27 ?_
          refine lv_istore_n (lv' := [(2, .int (v_l2_L1 ||| (o0.2.2.2 (v_l3_L1).toNatClampNeg))), (0, .ref (a0 0)), (1, .int p1), (3, .int v_l3_L1)]) hx hb dX1_targets_28 rfl hl (by decide) rfl (fun ls hl => ?_)
          refine lv_iinc (v := (v_l3_L1 + 1)) (lv' := [(3, .int (v_l3_L1 + 1)), (2, .int (v_l2_L1 ||| (o0.2.2.2 (v_l3_L1).toNatClampNeg))), (0, .ref (a0 0)), (1, .int p1)]) hx hb dX1_targets_29 hl (k := 3) rfl (congrArg (fun z => v_l3_L1 + z) (by decide)) (by decide) rfl (fun ls hl => ?_)
          refine lv_goto (tgt := 4) hx hb dX1_targets_32 (by decide) ?_
          exact ih (v_l2_L1 ||| (o0.2.2.2 (v_l3_L1).toNatClampNeg)) (v_l3_L1 + 1) _ hf _ _ hP hD hS _ (lv_sub hl [2, 3, 1, 0] rfl) kx
  refine L1 n 0 0 q2 hq2 _ _ hP hD hS _ (lv_sub hl [2, 3, 1, 0] rfl) ?_
  clear hP hD hS hl
  intro H locs hP hD hS ls hl
  refine lv_iload_n hx hb dX1_targets_35 rfl (lv_at hl 0 rfl) ?_
  have hf := Option.some.inj hf
  subst hf
  exact hret _ _ _ _ _ dX1_targets_36 rfl hP hD hS rfl
def f_X1_forcedNext_L5 (d_o0 : GG) (d_l1 : Int32) (d_l2 : Int32) : Nat → Int32 → Int32 → Option Int32
  | 0, _, _ => none
  | k + 1, d_l3, d_l4 => (if d_o0.1 ≤ d_l4 then some (d_l3) else vg d_l4 14 (((if ((d_o0.2.2.2 (d_l4).toNatClampNeg) &&& d_l2) = 0 then some (0) else some (1)) : Option Int32).bind fun j4 => ((if ((d_o0.2.2.2 (d_l4).toNatClampNeg) &&& (d_l2 ^^^ (-1))) = 0 then some (1) else some (0)) : Option Int32).bind fun j7 => (if j4 = 0 then f_X1_forcedNext_L5 d_o0 d_l1 d_l2 k d_l3 (d_l4 + 1) else (if (d_o0.2.1 (d_l4).toNatClampNeg) = d_l1 then (f_X6_bit d_l4).bind fun q11 => f_X1_forcedNext_L5 d_o0 d_l1 d_l2 k (d_l3 ||| q11) (d_l4 + 1) else (if j7 = 0 then f_X1_forcedNext_L5 d_o0 d_l1 d_l2 k d_l3 (d_l4 + 1) else (f_X6_bit d_l4).bind fun q13 => f_X1_forcedNext_L5 d_o0 d_l1 d_l2 k (d_l3 ||| q13) (d_l4 + 1))))))
def f_X1_forcedNext (n : Nat) (o0 : GG) (p1 : Int32) (p2 : Int32) : Option Int32 := (f_X1_forcedNext_L5 o0 p1 p2 n p2 0).bind fun q2 => some (q2)
theorem inw_X1_forcedNext_1 : ∀ w ∈ wsX10, w ∈ wsX1_forcedNext := fun _ h => List.mem_cons_of_mem _ (List.mem_append_right _ h)
theorem hd_X1_forcedNext : yX1_forcedNext.cls = RX1 ∧ yX1_forcedNext.cls ≠ "java/lang/invoke/MethodHandle" ∧ yX1_forcedNext.cls ≠ "java/lang/invoke/VarHandle" ∧ (parseMethodDescriptor yX1_forcedNext.desc).map (fun d => d.parameters.length) = some 2 := by decide +kernel
set_option maxHeartbeats 4000000 in
set_option maxRecDepth 100000 in
theorem c_X1_forcedNext (l : Launch) (D : va_G) (cI cC cS : ClassId) (R : va_W) (a0 : Nat → Nat) (o0 : GG) (p1 : Int32) (p2 : Int32) (n : Nat) (r : Int32) (hf : f_X1_forcedNext n o0 p1 p2 = some r) : CI l yX1_forcedNext wsX1_forcedNext 1 20 D cI cC cS [.ref (a0 0), .int p1, .int p2] ((w_G a0 cI o0) ++ R) r ((w_G a0 cI o0) ++ R) := by
  refine XI.of (cc := cX1_forcedNext) (maxL := 7) (ty := .int) (own := RX1) (by decide) rfl rfl (Nat.le_of_ble_eq_true rfl) ?_
  intro p e s m args below meth c A Q S hK hN hA hP hD hS ls hl hret
  obtain ⟨hx, hb, hml, hown, hts⟩ := id S
  have hl : lv_has ls 7 [(0, .ref (a0 0)), (1, .int p1), (2, .int p2)] := hl
  unfold f_X1_forcedNext at hf
  refine lv_iload_n hx hb dX1_forcedNext_0 rfl (lv_at hl 2 rfl) ?_
  refine lv_istore_n (lv' := [(3, .int p2), (0, .ref (a0 0)), (1, .int p1), (2, .int p2)]) hx hb dX1_forcedNext_1 rfl hl (by decide) rfl (fun ls hl => ?_)
  refine lv_iconst (v := 0) hx hb dX1_forcedNext_2 (by decide) ?_
  refine lv_istore (lv' := [(4, .int 0), (3, .int p2), (0, .ref (a0 0)), (1, .int p1), (2, .int p2)]) hx hb dX1_forcedNext_3 hl (by decide) rfl (fun ls hl => ?_)
  obtain ⟨q2, hq2, hf⟩ := ob_some hf
  have L1 : ∀ (k : Nat) (v_l3_L1 : Int32) (v_l4_L1 : Int32) (q_L1 : Int32), f_X1_forcedNext_L5 o0 p1 p2 k v_l3_L1 v_l4_L1 = some q_L1 → ∀ (H : Heap) (locs : List Loc), va_P D vwCl ((w_G a0 cI o0) ++ R) H → va_D A ((w_G a0 cI o0) ++ R) → va_S A s.heap H locs → ∀ ls : Array Slot, lv_has ls 7 [(0, .ref (a0 0)), (1, .int p1), (2, .int p2), (3, .int v_l3_L1), (4, .int v_l4_L1)] → (∀ (H : Heap) (locs : List Loc), va_P D vwCl ((w_G a0 cI o0) ++ R) H → va_D A ((w_G a0 cI o0) ++ R) → va_S A s.heap H locs → ∀ ls : Array Slot, lv_has ls 7 [(3, .int q_L1)] → W p l e (xR 1 20) s m args below meth c H locs 0 0 Q (F0 m 89 ls [])) → W p l e (xR 1 20) s m args below meth c H locs 0 0 Q (F0 m 5 ls []) := by
    intro k
    induction k with
    | zero => intro v_l3_L1 v_l4_L1 q_L1 hf; simp [f_X1_forcedNext_L5] at hf
    | succ k ih =>
      intro v_l3_L1 v_l4_L1 q_L1 hf H locs hP hD hS ls hl kx
      rw [f_X1_forcedNext_L5] at hf
      refine lv_iload hx hb dX1_forcedNext_5 (lv_at hl 4 rfl) ?_
      refine lv_aload_n hx hb dX1_forcedNext_7 rfl (lv_at hl 0 rfl) ?_
      refine va_get (D := D) (ci := 1) (v := .int o0.1) (C := RX1) (T := TX1) (N := 4) hx hb hts inw_X1_forcedNext_1 hown hK hP 0 rfl rfl 0 (by decide) (hts (.fieldLink RX1 21 "RingGames$Game" "size" "I") (List.mem_of_getElem? (i := 1) rfl)) (fun _ h9 => h9) rfl dX1_forcedNext_8 ?_
      refine lv_icmp_ge (tgt := 89) hx hb dX1_forcedNext_11 (by decide) (fun c3 => ?_) (fun c3 => ?_)
      · have hf := if_t hf c3
        have hf := Option.some.inj hf
        subst hf
        exact kx _ _ hP hD hS _ (lv_sub hl [3] rfl)
      · have hf := if_f hf c3
        refine lv_aload_n hx hb dX1_forcedNext_14 rfl (lv_at hl 0 rfl) ?_
        refine va_get (D := D) (ci := 1) (v := .ref (a0 3)) (C := RX1) (T := TX1) (N := 4) hx hb hts inw_X1_forcedNext_1 hown hK hP 0 rfl rfl 3 (by decide) (hts (.fieldLink RX1 18 "RingGames$Game" "arrows" "[I") (List.mem_of_getElem? (i := 2) rfl)) (fun _ h9 => h9) rfl dX1_forcedNext_15 ?_
        refine lv_iload hx hb dX1_forcedNext_18 (lv_at hl 4 rfl) ?_
        obtain ⟨g4, hf⟩ := vg_some hf
        refine va_iald hx hb hK hP 3 0 rfl rfl g4 dX1_forcedNext_20 ?_
        refine lv_iload_n hx hb dX1_forcedNext_21 rfl (lv_at hl 2 rfl) ?_
        refine lv_iand hx hb dX1_forcedNext_22 ?_
        obtain ⟨j6, hj6, hf⟩ := ob_some hf
        have J7 : ∀ (H : Heap) (locs : List Loc), va_P D vwCl ((w_G a0 cI o0) ++ R) H → va_D A ((w_G a0 cI o0) ++ R) → va_S A s.heap H locs → ∀ ls : Array Slot, lv_has ls 7 [(0, .ref (a0 0)), (1, .int p1), (2, .int p2), (3, .int v_l3_L1), (4, .int v_l4_L1)] → W p l e (xR 1 20) s m args below meth c H locs 0 0 Q (F0 m 31 ls [.int j6]) := by
          intro H locs hP hD hS ls hl
          refine lv_istore (lv' := [(5, .int j6), (0, .ref (a0 0)), (1, .int p1), (2, .int p2), (3, .int v_l3_L1), (4, .int v_l4_L1)]) hx hb dX1_forcedNext_31 hl (by decide) rfl (fun ls hl => ?_)
          refine lv_aload_n hx hb dX1_forcedNext_33 rfl (lv_at hl 1 rfl) ?_
          refine va_get (D := D) (ci := 1) (v := .ref (a0 3)) (C := RX1) (T := TX1) (N := 4) hx hb hts inw_X1_forcedNext_1 hown hK hP 0 rfl rfl 3 (by decide) (hts (.fieldLink RX1 18 "RingGames$Game" "arrows" "[I") (List.mem_of_getElem? (i := 2) rfl)) (fun _ h9 => h9) rfl dX1_forcedNext_34 ?_
          refine lv_iload hx hb dX1_forcedNext_37 (lv_at hl 5 rfl) ?_
          refine va_iald hx hb hK hP 3 0 rfl rfl g4 dX1_forcedNext_39 ?_
          refine lv_iload_n hx hb dX1_forcedNext_40 rfl (lv_at hl 3 rfl) ?_
          refine lv_iconst (v := (-1)) hx hb dX1_forcedNext_41 (by decide) ?_
          refine lv_ixor hx hb dX1_forcedNext_42 ?_
          refine lv_iand hx hb dX1_forcedNext_43 ?_
          obtain ⟨j9, hj9, hf⟩ := ob_some hf
          have J10 : ∀ (H : Heap) (locs : List Loc), va_P D vwCl ((w_G a0 cI o0) ++ R) H → va_D A ((w_G a0 cI o0) ++ R) → va_S A s.heap H locs → ∀ ls : Array Slot, lv_has ls 7 [(0, .ref (a0 0)), (1, .int p1), (2, .int p2), (3, .int v_l3_L1), (4, .int v_l4_L1), (5, .int j6)] → W p l e (xR 1 20) s m args below meth c H locs 0 0 Q (F0 m 52 ls [.int j9]) := by
            intro H locs hP hD hS ls hl
            refine lv_istore (lv' := [(6, .int j9), (0, .ref (a0 0)), (1, .int p1), (2, .int p2), (3, .int v_l3_L1), (4, .int v_l4_L1), (5, .int j6)]) hx hb dX1_forcedNext_52 hl (by decide) rfl (fun ls hl => ?_)
            refine lv_iload hx hb dX1_forcedNext_54 (lv_at hl 6 rfl) ?_
            refine lv_if_eq (tgt := 83) hx hb dX1_forcedNext_56 (by decide) (fun c11 => ?_) (fun c11 => ?_)
            · have hf := if_t hf c11
              refine lv_iinc (v := (v_l4_L1 + 1)) (lv' := [(4, .int (v_l4_L1 + 1)), (6, .int j9), (0, .ref (a0 0)), (1, .int p1), (2, .int p2), (3, .int v_l3_L1), (5, .int j6)]) hx hb dX1_forcedNext_83 hl (k := 5) rfl (congrArg (fun z => v_l4_L1 + z) (by decide)) (by decide) rfl (fun ls hl => ?_)
              refine lv_goto (tgt := 5) hx hb dX1_forcedNext_86 (by decide) ?_
              exact ih v_l3_L1 (v_l4_L1 + 1) _ hf _ _ hP hD hS _ (lv_sub hl [2, 3, 4, 5, 0] rfl) kx
            · have hf := if_f hf c11
              refine lv_aload_n hx hb dX1_forcedNext_59 rfl (lv_at hl 1 rfl) ?_
              refine va_get (D := D) (ci := 1) (v := .ref (a0 1)) (C := RX1) (T := TX1) (N := 4) hx hb hts inw_X1_forcedNext_1 hown hK hP 0 rfl rfl 1 (by decide) (hts (.fieldLink RX1 9 "RingGames$Game" "owners" "[I") (List.mem_of_getElem? (i := 3) rfl)) (fun _ h9 => h9) rfl dX1_forcedNext_60 ?_
              refine lv_iload hx hb dX1_forcedNext_63 (lv_at hl 5 rfl) ?_
              refine va_iald hx hb hK hP 1 0 rfl rfl g4 dX1_forcedNext_65 ?_
              refine lv_iload_n hx hb dX1_forcedNext_66 rfl (lv_at hl 2 rfl) ?_
              refine lv_icmp_eq (tgt := 75) hx hb dX1_forcedNext_67 (by decide) (fun c12 => ?_) (fun c12 => ?_)
              · have hf := if_t hf c12
                refine lv_iload_n hx hb dX1_forcedNext_75 rfl (lv_at hl 4 rfl) ?_
                refine lv_iload hx hb dX1_forcedNext_76 (lv_at hl 5 rfl) ?_
                obtain ⟨q13, hq13, hf⟩ := ob_some hf
                refine xcNi S hK hN hA hP hD hS (c_X6_bit l D cI cC cS ((w_G a0 cI o0) ++ R) v_l4_L1 _ hq13) 6 rfl gX1_forcedNext_X6_bit_n31 (List.mem_of_getElem? (i := 4) rfl) (List.mem_of_getElem? (i := 5) rfl) rfl hd_X6_bit ⟨by decide, by decide⟩ rfl hl.1 rfl (Nat.le_of_ble_eq_true rfl) dX1_forcedNext_78 ⟨Nat.zero_le _, Nat.zero_le _⟩ (fun H locs hP hD hS => ?_)
                refine lv_ior hx hb dX1_forcedNext_81 ?_
                refine lv_istore_n (lv' := [(3, .int (v_l3_L1 ||| q13)), (6, .int j9), (0, .ref (a0 0)), (1, .int p1), (2, .int p2), (4, .int v_l4_L1), (5, .int j6)]) hx hb dX1_forcedNext_82 rfl hl (by decide) rfl (fun ls hl => ?_)
                refine lv_iinc (v := (v_l4_L1 + 1)) (lv' := [(4, .int (v_l4_L1 + 1)), (3, .int (v_l3_L1 ||| q13)), (6, .int j9), (0, .ref (a0 0)), (1, .int p1), (2, .int p2), (5, .int j6)]) hx hb dX1_forcedNext_83 hl (k := 5) rfl (congrArg (fun z => v_l4_L1 + z) (by decide)) (by decide) rfl (fun ls hl => ?_)
                refine lv_goto (tgt := 5) hx hb dX1_forcedNext_86 (by decide) ?_
                exact ih (v_l3_L1 ||| q13) (v_l4_L1 + 1) _ hf _ _ hP hD hS _ (lv_sub hl [3, 4, 5, 1, 0] rfl) kx
              · have hf := if_f hf c12
                refine lv_iload hx hb dX1_forcedNext_70 (lv_at hl 0 rfl) ?_
                refine lv_if_eq (tgt := 83) hx hb dX1_forcedNext_72 (by decide) (fun c14 => ?_) (fun c14 => ?_)
                · have hf := if_t hf c14
                  refine lv_iinc (v := (v_l4_L1 + 1)) (lv' := [(4, .int (v_l4_L1 + 1)), (6, .int j9), (0, .ref (a0 0)), (1, .int p1), (2, .int p2), (3, .int v_l3_L1), (5, .int j6)]) hx hb dX1_forcedNext_83 hl (k := 5) rfl (congrArg (fun z => v_l4_L1 + z) (by decide)) (by decide) rfl (fun ls hl => ?_)
                  refine lv_goto (tgt := 5) hx hb dX1_forcedNext_86 (by decide) ?_
                  exact ih v_l3_L1 (v_l4_L1 + 1) _ hf _ _ hP hD hS _ (lv_sub hl [2, 3, 4, 5, 0] rfl) kx
                · have hf := if_f hf c14
                  refine lv_iload_n hx hb dX1_forcedNext_75 rfl (lv_at hl 4 rfl) ?_
                  refine lv_iload hx hb dX1_forcedNext_76 (lv_at hl 5 rfl) ?_
                  obtain ⟨q15, hq15, hf⟩ := ob_some hf
                  refine xcNi S hK hN hA hP hD hS (c_X6_bit l D cI cC cS ((w_G a0 cI o0) ++ R) v_l4_L1 _ hq15) 6 rfl gX1_forcedNext_X6_bit_n31 (List.mem_of_getElem? (i := 4) rfl) (List.mem_of_getElem? (i := 5) rfl) rfl hd_X6_bit ⟨by decide, by decide⟩ rfl hl.1 rfl (Nat.le_of_ble_eq_true rfl) dX1_forcedNext_78 ⟨Nat.zero_le _, Nat.zero_le _⟩ (fun H locs hP hD hS => ?_)
                  refine lv_ior hx hb dX1_forcedNext_81 ?_
                  refine lv_istore_n (lv' := [(3, .int (v_l3_L1 ||| q15)), (6, .int j9), (0, .ref (a0 0)), (1, .int p1), (2, .int p2), (4, .int v_l4_L1), (5, .int j6)]) hx hb dX1_forcedNext_82 rfl hl (by decide) rfl (fun ls hl => ?_)
                  refine lv_iinc (v := (v_l4_L1 + 1)) (lv' := [(4, .int (v_l4_L1 + 1)), (3, .int (v_l3_L1 ||| q15)), (6, .int j9), (0, .ref (a0 0)), (1, .int p1), (2, .int p2), (5, .int j6)]) hx hb dX1_forcedNext_83 hl (k := 5) rfl (congrArg (fun z => v_l4_L1 + z) (by decide)) (by decide) rfl (fun ls hl => ?_)
                  refine lv_goto (tgt := 5) hx hb dX1_forcedNext_86 (by decide) ?_
                  exact ih (v_l3_L1 ||| q15) (v_l4_L1 + 1) _ hf _ _ hP hD hS _ (lv_sub hl [3, 4, 5, 1, 0] rfl) kx
          clear hf
          have hf := hj9
          refine lv_if_ne (tgt := 51) hx hb dX1_forcedNext_44 (by decide) (fun c8 => ?_) (fun c8 => ?_)
          · have hf := if_f hf c8
            refine lv_iconst (v := 0) hx hb dX1_forcedNext_51 (by decide) ?_
            have hf := Option.some.inj hf
            subst hf
            exact J10 _ _ hP hD hS _ (lv_sub hl [1, 2, 3, 4, 5, 0] rfl)
          · have hf := if_t hf c8
            refine lv_iconst (v := 1) hx hb dX1_forcedNext_47 (by decide) ?_
            refine lv_goto (tgt := 52) hx hb dX1_forcedNext_48 (by decide) ?_
            have hf := Option.some.inj hf
            subst hf
            exact J10 _ _ hP hD hS _ (lv_sub hl [1, 2, 3, 4, 5, 0] rfl)
        clear hf
        have hf := hj6
        refine lv_if_eq (tgt := 30) hx hb dX1_forcedNext_23 (by decide) (fun c5 => ?_) (fun c5 => ?_)
        · have hf := if_t hf c5
          refine lv_iconst (v := 0) hx hb dX1_forcedNext_30 (by decide) ?_
          have hf := Option.some.inj hf
          subst hf
          exact J7 _ _ hP hD hS _ (lv_sub hl [0, 1, 2, 3, 4] rfl)
        · have hf := if_f hf c5
          refine lv_iconst (v := 1) hx hb dX1_forcedNext_26 (by decide) ?_
          refine lv_goto (tgt := 31) hx hb dX1_forcedNext_27 (by decide) ?_
          have hf := Option.some.inj hf
          subst hf
          exact J7 _ _ hP hD hS _ (lv_sub hl [0, 1, 2, 3, 4] rfl)
  refine L1 n p2 0 q2 hq2 _ _ hP hD hS _ (lv_sub hl [2, 3, 4, 1, 0] rfl) ?_
  clear hP hD hS hl
  intro H locs hP hD hS ls hl
  refine lv_iload_n hx hb dX1_forcedNext_89 rfl (lv_at hl 0 rfl) ?_
  have hf := Option.some.inj hf
  subst hf
  exact hret _ _ _ _ _ dX1_forcedNext_90 rfl hP hD hS rfl
def f_X1_isTrap_L2 (d_o0 : GG) (d_l1 : Int32) (d_l2 : Int32) : Nat → Int32 → Option Int32
  | 0, _ => none
  | k + 1, d_l3 => (if d_o0.1 ≤ d_l3 then some (1) else vg d_l3 14 (((if ((d_o0.2.2.2 (d_l3).toNatClampNeg) &&& (d_l2 ^^^ (-1))) = 0 then some (0) else some (1)) : Option Int32).bind fun j4 => ((if ((d_o0.2.2.2 (d_l3).toNatClampNeg) &&& d_l2) = 0 then some (0) else some (1)) : Option Int32).bind fun j7 => ((if (d_o0.2.1 (d_l3).toNatClampNeg) = d_l1 then some (j4) else (if j7 = 0 then some (1) else some (0))) : Option Int32).bind fun j10 => (f_X6_contains d_l2 d_l3).bind fun q12 => (if q12 = 0 then f_X1_isTrap_L2 d_o0 d_l1 d_l2 k (d_l3 + 1) else (if j10 = 0 then f_X1_isTrap_L2 d_o0 d_l1 d_l2 k (d_l3 + 1) else some (0)))))
def f_X1_isTrap (n : Nat) (o0 : GG) (p1 : Int32) (p2 : Int32) : Option Int32 := f_X1_isTrap_L2 o0 p1 p2 n 0
theorem inw_X1_isTrap_1 : ∀ w ∈ wsX10, w ∈ wsX1_isTrap := fun _ h => List.mem_cons_of_mem _ (List.mem_append_right _ h)
theorem hd_X1_isTrap : yX1_isTrap.cls = RX1 ∧ yX1_isTrap.cls ≠ "java/lang/invoke/MethodHandle" ∧ yX1_isTrap.cls ≠ "java/lang/invoke/VarHandle" ∧ (parseMethodDescriptor yX1_isTrap.desc).map (fun d => d.parameters.length) = some 2 := by decide +kernel
set_option maxHeartbeats 4000000 in
set_option maxRecDepth 100000 in
theorem c_X1_isTrap (l : Launch) (D : va_G) (cI cC cS : ClassId) (R : va_W) (a0 : Nat → Nat) (o0 : GG) (p1 : Int32) (p2 : Int32) (n : Nat) (r : Int32) (hf : f_X1_isTrap n o0 p1 p2 = some r) : CI l yX1_isTrap wsX1_isTrap 1 21 D cI cC cS [.ref (a0 0), .int p1, .int p2] ((w_G a0 cI o0) ++ R) r ((w_G a0 cI o0) ++ R) := by
  refine XI.of (cc := cX1_isTrap) (maxL := 7) (ty := .boolean) (own := RX1) (by decide) rfl rfl (Nat.le_of_ble_eq_true rfl) ?_
  intro p e s m args below meth c A Q S hK hN hA hP hD hS ls hl hret
  obtain ⟨hx, hb, hml, hown, hts⟩ := id S
  have hl : lv_has ls 7 [(0, .ref (a0 0)), (1, .int p1), (2, .int p2)] := hl
  unfold f_X1_isTrap at hf
  refine lv_iconst (v := 0) hx hb dX1_isTrap_0 (by decide) ?_
  refine lv_istore_n (lv' := [(3, .int 0), (0, .ref (a0 0)), (1, .int p1), (2, .int p2)]) hx hb dX1_isTrap_1 rfl hl (by decide) rfl (fun ls hl => ?_)
  have L1 : ∀ (k : Nat) (v_l3_L1 : Int32), f_X1_isTrap_L2 o0 p1 p2 k v_l3_L1 = some r → ∀ (H : Heap) (locs : List Loc), va_P D vwCl ((w_G a0 cI o0) ++ R) H → va_D A ((w_G a0 cI o0) ++ R) → va_S A s.heap H locs → ∀ ls : Array Slot, lv_has ls 7 [(0, .ref (a0 0)), (1, .int p1), (2, .int p2), (3, .int v_l3_L1)] → W p l e (xR 1 21) s m args below meth c H locs 0 0 Q (F0 m 2 ls []) := by
    intro k
    induction k with
    | zero => intro v_l3_L1 hf; simp [f_X1_isTrap_L2] at hf
    | succ k ih =>
      intro v_l3_L1 hf H locs hP hD hS ls hl
      rw [f_X1_isTrap_L2] at hf
      refine lv_iload_n hx hb dX1_isTrap_2 rfl (lv_at hl 3 rfl) ?_
      refine lv_aload_n hx hb dX1_isTrap_3 rfl (lv_at hl 0 rfl) ?_
      refine va_get (D := D) (ci := 1) (v := .int o0.1) (C := RX1) (T := TX1) (N := 4) hx hb hts inw_X1_isTrap_1 hown hK hP 0 rfl rfl 0 (by decide) (hts (.fieldLink RX1 21 "RingGames$Game" "size" "I") (List.mem_of_getElem? (i := 1) rfl)) (fun _ h9 => h9) rfl dX1_isTrap_4 ?_
      refine lv_icmp_ge (tgt := 96) hx hb dX1_isTrap_7 (by decide) (fun c3 => ?_) (fun c3 => ?_)
      · have hf := if_t hf c3
        refine lv_iconst (v := 1) hx hb dX1_isTrap_96 (by decide) ?_
        have hf := Option.some.inj hf
        subst hf
        exact hret _ _ _ _ _ dX1_isTrap_97 rfl hP hD hS rfl
      · have hf := if_f hf c3
        refine lv_aload_n hx hb dX1_isTrap_10 rfl (lv_at hl 0 rfl) ?_
        refine va_get (D := D) (ci := 1) (v := .ref (a0 3)) (C := RX1) (T := TX1) (N := 4) hx hb hts inw_X1_isTrap_1 hown hK hP 0 rfl rfl 3 (by decide) (hts (.fieldLink RX1 18 "RingGames$Game" "arrows" "[I") (List.mem_of_getElem? (i := 2) rfl)) (fun _ h9 => h9) rfl dX1_isTrap_11 ?_
        refine lv_iload_n hx hb dX1_isTrap_14 rfl (lv_at hl 3 rfl) ?_
        obtain ⟨g4, hf⟩ := vg_some hf
        refine va_iald hx hb hK hP 3 0 rfl rfl g4 dX1_isTrap_15 ?_
        refine lv_iload_n hx hb dX1_isTrap_16 rfl (lv_at hl 2 rfl) ?_
        refine lv_iconst (v := (-1)) hx hb dX1_isTrap_17 (by decide) ?_
        refine lv_ixor hx hb dX1_isTrap_18 ?_
        refine lv_iand hx hb dX1_isTrap_19 ?_
        obtain ⟨j6, hj6, hf⟩ := ob_some hf
        have J7 : ∀ (H : Heap) (locs : List Loc), va_P D vwCl ((w_G a0 cI o0) ++ R) H → va_D A ((w_G a0 cI o0) ++ R) → va_S A s.heap H locs → ∀ ls : Array Slot, lv_has ls 7 [(0, .ref (a0 0)), (1, .int p1), (2, .int p2), (3, .int v_l3_L1)] → W p l e (xR 1 21) s m args below meth c H locs 0 0 Q (F0 m 28 ls [.int j6]) := by
          intro H locs hP hD hS ls hl
          refine lv_istore (lv' := [(4, .int j6), (0, .ref (a0 0)), (1, .int p1), (2, .int p2), (3, .int v_l3_L1)]) hx hb dX1_isTrap_28 hl (by decide) rfl (fun ls hl => ?_)
          refine lv_aload_n hx hb dX1_isTrap_30 rfl (lv_at hl 1 rfl) ?_
          refine va_get (D := D) (ci := 1) (v := .ref (a0 3)) (C := RX1) (T := TX1) (N := 4) hx hb hts inw_X1_isTrap_1 hown hK hP 0 rfl rfl 3 (by decide) (hts (.fieldLink RX1 18 "RingGames$Game" "arrows" "[I") (List.mem_of_getElem? (i := 2) rfl)) (fun _ h9 => h9) rfl dX1_isTrap_31 ?_
          refine lv_iload_n hx hb dX1_isTrap_34 rfl (lv_at hl 4 rfl) ?_
          refine va_iald hx hb hK hP 3 0 rfl rfl g4 dX1_isTrap_35 ?_
          refine lv_iload_n hx hb dX1_isTrap_36 rfl (lv_at hl 3 rfl) ?_
          refine lv_iand hx hb dX1_isTrap_37 ?_
          obtain ⟨j9, hj9, hf⟩ := ob_some hf
          have J10 : ∀ (H : Heap) (locs : List Loc), va_P D vwCl ((w_G a0 cI o0) ++ R) H → va_D A ((w_G a0 cI o0) ++ R) → va_S A s.heap H locs → ∀ ls : Array Slot, lv_has ls 7 [(0, .ref (a0 0)), (1, .int p1), (2, .int p2), (3, .int v_l3_L1), (4, .int j6)] → W p l e (xR 1 21) s m args below meth c H locs 0 0 Q (F0 m 46 ls [.int j9]) := by
            intro H locs hP hD hS ls hl
            refine lv_istore (lv' := [(5, .int j9), (0, .ref (a0 0)), (1, .int p1), (2, .int p2), (3, .int v_l3_L1), (4, .int j6)]) hx hb dX1_isTrap_46 hl (by decide) rfl (fun ls hl => ?_)
            refine lv_aload_n hx hb dX1_isTrap_48 rfl (lv_at hl 1 rfl) ?_
            refine va_get (D := D) (ci := 1) (v := .ref (a0 1)) (C := RX1) (T := TX1) (N := 4) hx hb hts inw_X1_isTrap_1 hown hK hP 0 rfl rfl 1 (by decide) (hts (.fieldLink RX1 9 "RingGames$Game" "owners" "[I") (List.mem_of_getElem? (i := 3) rfl)) (fun _ h9 => h9) rfl dX1_isTrap_49 ?_
            refine lv_iload_n hx hb dX1_isTrap_52 rfl (lv_at hl 4 rfl) ?_
            refine va_iald hx hb hK hP 1 0 rfl rfl g4 dX1_isTrap_53 ?_
            refine lv_iload_n hx hb dX1_isTrap_54 rfl (lv_at hl 2 rfl) ?_
            obtain ⟨j12, hj12, hf⟩ := ob_some hf
            have J13 : ∀ (H : Heap) (locs : List Loc), va_P D vwCl ((w_G a0 cI o0) ++ R) H → va_D A ((w_G a0 cI o0) ++ R) → va_S A s.heap H locs → ∀ ls : Array Slot, lv_has ls 7 [(0, .ref (a0 0)), (1, .int p1), (2, .int p2), (3, .int v_l3_L1)] → W p l e (xR 1 21) s m args below meth c H locs 0 0 Q (F0 m 73 ls [.int j12]) := by
              intro H locs hP hD hS ls hl
              refine lv_istore (lv' := [(6, .int j12), (0, .ref (a0 0)), (1, .int p1), (2, .int p2), (3, .int v_l3_L1)]) hx hb dX1_isTrap_73 hl (by decide) rfl (fun ls hl => ?_)
              refine lv_iload_n hx hb dX1_isTrap_75 rfl (lv_at hl 3 rfl) ?_
              refine lv_iload_n hx hb dX1_isTrap_76 rfl (lv_at hl 4 rfl) ?_
              obtain ⟨q14, hq14, hf⟩ := ob_some hf
              refine xcNi S hK hN hA hP hD hS (c_X6_contains l D cI cC cS ((w_G a0 cI o0) ++ R) p2 v_l3_L1 _ hq14) 7 rfl gX1_isTrap_X6_contains_n43 (List.mem_of_getElem? (i := 4) rfl) (List.mem_of_getElem? (i := 5) rfl) rfl hd_X6_contains ⟨by decide, by decide⟩ rfl hl.1 rfl (Nat.le_of_ble_eq_true rfl) dX1_isTrap_77 ⟨Nat.zero_le _, Nat.zero_le _⟩ (fun H locs hP hD hS => ?_)
              refine lv_if_eq (tgt := 90) hx hb dX1_isTrap_80 (by decide) (fun c15 => ?_) (fun c15 => ?_)
              · have hf := if_t hf c15
                refine lv_iinc (v := (v_l3_L1 + 1)) (lv' := [(3, .int (v_l3_L1 + 1)), (6, .int j12), (0, .ref (a0 0)), (1, .int p1), (2, .int p2)]) hx hb dX1_isTrap_90 hl (k := 4) rfl (congrArg (fun z => v_l3_L1 + z) (by decide)) (by decide) rfl (fun ls hl => ?_)
                refine lv_goto (tgt := 2) hx hb dX1_isTrap_93 (by decide) ?_
                exact ih (v_l3_L1 + 1) hf _ _ hP hD hS _ (lv_sub hl [2, 3, 4, 0] rfl)
              · have hf := if_f hf c15
                refine lv_iload hx hb dX1_isTrap_83 (lv_at hl 0 rfl) ?_
                refine lv_if_eq (tgt := 90) hx hb dX1_isTrap_85 (by decide) (fun c16 => ?_) (fun c16 => ?_)
                · have hf := if_t hf c16
                  refine lv_iinc (v := (v_l3_L1 + 1)) (lv' := [(3, .int (v_l3_L1 + 1)), (6, .int j12), (0, .ref (a0 0)), (1, .int p1), (2, .int p2)]) hx hb dX1_isTrap_90 hl (k := 4) rfl (congrArg (fun z => v_l3_L1 + z) (by decide)) (by decide) rfl (fun ls hl => ?_)
                  refine lv_goto (tgt := 2) hx hb dX1_isTrap_93 (by decide) ?_
                  exact ih (v_l3_L1 + 1) hf _ _ hP hD hS _ (lv_sub hl [2, 3, 4, 0] rfl)
                · have hf := if_f hf c16
                  refine lv_iconst (v := 0) hx hb dX1_isTrap_88 (by decide) ?_
                  have hf := Option.some.inj hf
                  subst hf
                  exact hret _ _ _ _ _ dX1_isTrap_89 rfl hP hD hS rfl
            clear hf
            have hf := hj12
            refine lv_icmp_ne (tgt := 63) hx hb dX1_isTrap_55 (by decide) (fun c11 => ?_) (fun c11 => ?_)
            · have hf := if_f hf c11
              refine lv_iload hx hb dX1_isTrap_63 (lv_at hl 0 rfl) ?_
              refine lv_if_ne (tgt := 72) hx hb dX1_isTrap_65 (by decide) (fun c17 => ?_) (fun c17 => ?_)
              · have hf := if_f hf c17
                refine lv_iconst (v := 0) hx hb dX1_isTrap_72 (by decide) ?_
                have hf := Option.some.inj hf
                subst hf
                exact J13 _ _ hP hD hS _ (lv_sub hl [1, 2, 3, 4] rfl)
              · have hf := if_t hf c17
                refine lv_iconst (v := 1) hx hb dX1_isTrap_68 (by decide) ?_
                refine lv_goto (tgt := 73) hx hb dX1_isTrap_69 (by decide) ?_
                have hf := Option.some.inj hf
                subst hf
                exact J13 _ _ hP hD hS _ (lv_sub hl [1, 2, 3, 4] rfl)
            · have hf := if_t hf c11
              refine lv_iload hx hb dX1_isTrap_58 (lv_at hl 5 rfl) ?_
              refine lv_goto (tgt := 73) hx hb dX1_isTrap_60 (by decide) ?_
              have hf := Option.some.inj hf
              subst hf
              exact J13 _ _ hP hD hS _ (lv_sub hl [1, 2, 3, 4] rfl)
          clear hf
          have hf := hj9
          refine lv_if_eq (tgt := 45) hx hb dX1_isTrap_38 (by decide) (fun c8 => ?_) (fun c8 => ?_)
          · have hf := if_t hf c8
            refine lv_iconst (v := 0) hx hb dX1_isTrap_45 (by decide) ?_
            have hf := Option.some.inj hf
            subst hf
            exact J10 _ _ hP hD hS _ (lv_sub hl [1, 2, 3, 4, 0] rfl)
          · have hf := if_f hf c8
            refine lv_iconst (v := 1) hx hb dX1_isTrap_41 (by decide) ?_
            refine lv_goto (tgt := 46) hx hb dX1_isTrap_42 (by decide) ?_
            have hf := Option.some.inj hf
            subst hf
            exact J10 _ _ hP hD hS _ (lv_sub hl [1, 2, 3, 4, 0] rfl)
        clear hf
        have hf := hj6
        refine lv_if_eq (tgt := 27) hx hb dX1_isTrap_20 (by decide) (fun c5 => ?_) (fun c5 => ?_)
        · have hf := if_t hf c5
          refine lv_iconst (v := 0) hx hb dX1_isTrap_27 (by decide) ?_
          have hf := Option.some.inj hf
          subst hf
          exact J7 _ _ hP hD hS _ (lv_sub hl [0, 1, 2, 3] rfl)
        · have hf := if_f hf c5
          refine lv_iconst (v := 1) hx hb dX1_isTrap_23 (by decide) ?_
          refine lv_goto (tgt := 28) hx hb dX1_isTrap_24 (by decide) ?_
          have hf := Option.some.inj hf
          subst hf
          exact J7 _ _ hP hD hS _ (lv_sub hl [0, 1, 2, 3] rfl)
  exact L1 n 0 hf _ _ hP hD hS _ (lv_sub hl [1, 2, 3, 0] rfl)
def f_X1_reached_L5 (n : Nat) (d_o0 : GG) (d_l1 : Int32) (d_l2 : Int32) : Nat → Int32 → Int32 → Option Int32
  | 0, _, _ => none
  | k + 1, d_l3, d_l4 => (if d_o0.1 < d_l4 then some (d_l3) else (f_X1_targets n d_o0 (d_l1 ||| d_l3)).bind fun q2 => f_X1_reached_L5 n d_o0 d_l1 d_l2 k (d_l3 ||| (q2 &&& d_l2)) (d_l4 + 1))
def f_X1_reached (n : Nat) (o0 : GG) (p1 : Int32) (p2 : Int32) : Option Int32 := (f_X1_reached_L5 n o0 p1 p2 n 0 1).bind fun q2 => some (q2)
theorem inw_X1_reached_1 : ∀ w ∈ wsX10, w ∈ wsX1_reached := fun _ h => List.mem_cons_of_mem _ (List.mem_append_right _ h)
theorem hd_X1_reached : yX1_reached.cls = RX1 ∧ yX1_reached.cls ≠ "java/lang/invoke/MethodHandle" ∧ yX1_reached.cls ≠ "java/lang/invoke/VarHandle" ∧ (parseMethodDescriptor yX1_reached.desc).map (fun d => d.parameters.length) = some 2 := by decide +kernel
set_option maxHeartbeats 4000000 in
set_option maxRecDepth 100000 in
theorem c_X1_reached (l : Launch) (D : va_G) (cI cC cS : ClassId) (R : va_W) (a0 : Nat → Nat) (o0 : GG) (p1 : Int32) (p2 : Int32) (n : Nat) (r : Int32) (hf : f_X1_reached n o0 p1 p2 = some r) : CI l yX1_reached wsX1_reached 2 44 D cI cC cS [.ref (a0 0), .int p1, .int p2] ((w_G a0 cI o0) ++ R) r ((w_G a0 cI o0) ++ R) := by
  refine XI.of (cc := cX1_reached) (maxL := 5) (ty := .int) (own := RX1) (by decide) rfl rfl (Nat.le_of_ble_eq_true rfl) ?_
  intro p e s m args below meth c A Q S hK hN hA hP hD hS ls hl hret
  obtain ⟨hx, hb, hml, hown, hts⟩ := id S
  have hl : lv_has ls 5 [(0, .ref (a0 0)), (1, .int p1), (2, .int p2)] := hl
  unfold f_X1_reached at hf
  refine lv_iconst (v := 0) hx hb dX1_reached_0 (by decide) ?_
  refine lv_istore_n (lv' := [(3, .int 0), (0, .ref (a0 0)), (1, .int p1), (2, .int p2)]) hx hb dX1_reached_1 rfl hl (by decide) rfl (fun ls hl => ?_)
  refine lv_iconst (v := 1) hx hb dX1_reached_2 (by decide) ?_
  refine lv_istore (lv' := [(4, .int 1), (3, .int 0), (0, .ref (a0 0)), (1, .int p1), (2, .int p2)]) hx hb dX1_reached_3 hl (by decide) rfl (fun ls hl => ?_)
  obtain ⟨q2, hq2, hf⟩ := ob_some hf
  have L1 : ∀ (k : Nat) (v_l3_L1 : Int32) (v_l4_L1 : Int32) (q_L1 : Int32), f_X1_reached_L5 n o0 p1 p2 k v_l3_L1 v_l4_L1 = some q_L1 → ∀ (H : Heap) (locs : List Loc), va_P D vwCl ((w_G a0 cI o0) ++ R) H → va_D A ((w_G a0 cI o0) ++ R) → va_S A s.heap H locs → ∀ ls : Array Slot, lv_has ls 5 [(0, .ref (a0 0)), (1, .int p1), (2, .int p2), (3, .int v_l3_L1), (4, .int v_l4_L1)] → (∀ (H : Heap) (locs : List Loc), va_P D vwCl ((w_G a0 cI o0) ++ R) H → va_D A ((w_G a0 cI o0) ++ R) → va_S A s.heap H locs → ∀ ls : Array Slot, lv_has ls 5 [(3, .int q_L1)] → W p l e (xR 2 44) s m args below meth c H locs 0 0 Q (F0 m 32 ls [])) → W p l e (xR 2 44) s m args below meth c H locs 0 0 Q (F0 m 5 ls []) := by
    intro k
    induction k with
    | zero => intro v_l3_L1 v_l4_L1 q_L1 hf; simp [f_X1_reached_L5] at hf
    | succ k ih =>
      intro v_l3_L1 v_l4_L1 q_L1 hf H locs hP hD hS ls hl kx
      rw [f_X1_reached_L5] at hf
      refine lv_iload hx hb dX1_reached_5 (lv_at hl 4 rfl) ?_
      refine lv_aload_n hx hb dX1_reached_7 rfl (lv_at hl 0 rfl) ?_
      refine va_get (D := D) (ci := 1) (v := .int o0.1) (C := RX1) (T := TX1) (N := 4) hx hb hts inw_X1_reached_1 hown hK hP 0 rfl rfl 0 (by decide) (hts (.fieldLink RX1 21 "RingGames$Game" "size" "I") (List.mem_of_getElem? (i := 1) rfl)) (fun _ h9 => h9) rfl dX1_reached_8 ?_
      refine lv_icmp_gt (tgt := 32) hx hb dX1_reached_11 (by decide) (fun c3 => ?_) (fun c3 => ?_)
      · have hf := if_t hf c3
        have hf := Option.some.inj hf
        subst hf
        exact kx _ _ hP hD hS _ (lv_sub hl [3] rfl)
      · have hf := if_f hf c3
        refine lv_iload_n hx hb dX1_reached_14 rfl (lv_at hl 3 rfl) ?_
        refine lv_aload_n hx hb dX1_reached_15 rfl (lv_at hl 0 rfl) ?_
        refine lv_iload_n hx hb dX1_reached_16 rfl (lv_at hl 1 rfl) ?_
        refine lv_iload_n hx hb dX1_reached_17 rfl (lv_at hl 3 rfl) ?_
        refine lv_ior hx hb dX1_reached_18 ?_
        obtain ⟨q4, hq4, hf⟩ := ob_some hf
        refine xcVi (w' := ((w_G a0 cI o0) ++ R)) S hK hN hA hP hD hS (c_X1_targets l D cI cC cS R a0 o0 (p1 ||| v_l3_L1) n _ hq4) gX1_reached_X1_targets rfl hd_X1_targets ⟨by decide, by decide⟩ (List.Perm.refl _) (List.Perm.refl _) (ci := 1) (q := (RX1, TX1, 4)) rfl rfl rfl rfl hl.1 rfl (Nat.le_of_ble_eq_true rfl) dX1_reached_19 ⟨Nat.zero_le _, Nat.zero_le _⟩ (fun H locs hP hD hS => ?_)
        refine lv_iload_n hx hb dX1_reached_22 rfl (lv_at hl 2 rfl) ?_
        refine lv_iand hx hb dX1_reached_23 ?_
        refine lv_ior hx hb dX1_reached_24 ?_
        refine lv_istore_n (lv' := [(3, .int (v_l3_L1 ||| (q4 &&& p2))), (0, .ref (a0 0)), (1, .int p1), (2, .int p2), (4, .int v_l4_L1)]) hx hb dX1_reached_25 rfl hl (by decide) rfl (fun ls hl => ?_)
        refine lv_iinc (v := (v_l4_L1 + 1)) (lv' := [(4, .int (v_l4_L1 + 1)), (3, .int (v_l3_L1 ||| (q4 &&& p2))), (0, .ref (a0 0)), (1, .int p1), (2, .int p2)]) hx hb dX1_reached_26 hl (k := 4) rfl (congrArg (fun z => v_l4_L1 + z) (by decide)) (by decide) rfl (fun ls hl => ?_)
        refine lv_goto (tgt := 5) hx hb dX1_reached_29 (by decide) ?_
        exact ih (v_l3_L1 ||| (q4 &&& p2)) (v_l4_L1 + 1) _ hf _ _ hP hD hS _ (lv_sub hl [2, 3, 4, 1, 0] rfl) kx
  refine L1 n 0 1 q2 hq2 _ _ hP hD hS _ (lv_sub hl [2, 3, 4, 1, 0] rfl) ?_
  clear hP hD hS hl
  intro H locs hP hD hS ls hl
  refine lv_iload_n hx hb dX1_reached_32 rfl (lv_at hl 0 rfl) ?_
  have hf := Option.some.inj hf
  subst hf
  exact hret _ _ _ _ _ dX1_reached_33 rfl hP hD hS rfl
def f_X1_reaching_L5 (n : Nat) (d_o0 : GG) (d_l1 : Int32) (d_l2 : Int32) : Nat → Int32 → Int32 → Option Int32
  | 0, _, _ => none
  | k + 1, d_l3, d_l4 => (if d_o0.1 < d_l4 then some (d_l3) else (f_X1_sources n d_o0 (d_l1 ||| d_l3)).bind fun q2 => f_X1_reaching_L5 n d_o0 d_l1 d_l2 k (d_l3 ||| (q2 &&& d_l2)) (d_l4 + 1))
def f_X1_reaching (n : Nat) (o0 : GG) (p1 : Int32) (p2 : Int32) : Option Int32 := (f_X1_reaching_L5 n o0 p1 p2 n 0 1).bind fun q2 => some (q2)
theorem inw_X1_reaching_1 : ∀ w ∈ wsX10, w ∈ wsX1_reaching := fun _ h => List.mem_cons_of_mem _ (List.mem_append_right _ h)
theorem hd_X1_reaching : yX1_reaching.cls = RX1 ∧ yX1_reaching.cls ≠ "java/lang/invoke/MethodHandle" ∧ yX1_reaching.cls ≠ "java/lang/invoke/VarHandle" ∧ (parseMethodDescriptor yX1_reaching.desc).map (fun d => d.parameters.length) = some 2 := by decide +kernel
set_option maxHeartbeats 4000000 in
set_option maxRecDepth 100000 in
theorem c_X1_reaching (l : Launch) (D : va_G) (cI cC cS : ClassId) (R : va_W) (a0 : Nat → Nat) (o0 : GG) (p1 : Int32) (p2 : Int32) (n : Nat) (r : Int32) (hf : f_X1_reaching n o0 p1 p2 = some r) : CI l yX1_reaching wsX1_reaching 2 43 D cI cC cS [.ref (a0 0), .int p1, .int p2] ((w_G a0 cI o0) ++ R) r ((w_G a0 cI o0) ++ R) := by
  refine XI.of (cc := cX1_reaching) (maxL := 5) (ty := .int) (own := RX1) (by decide) rfl rfl (Nat.le_of_ble_eq_true rfl) ?_
  intro p e s m args below meth c A Q S hK hN hA hP hD hS ls hl hret
  obtain ⟨hx, hb, hml, hown, hts⟩ := id S
  have hl : lv_has ls 5 [(0, .ref (a0 0)), (1, .int p1), (2, .int p2)] := hl
  unfold f_X1_reaching at hf
  refine lv_iconst (v := 0) hx hb dX1_reaching_0 (by decide) ?_
  refine lv_istore_n (lv' := [(3, .int 0), (0, .ref (a0 0)), (1, .int p1), (2, .int p2)]) hx hb dX1_reaching_1 rfl hl (by decide) rfl (fun ls hl => ?_)
  refine lv_iconst (v := 1) hx hb dX1_reaching_2 (by decide) ?_
  refine lv_istore (lv' := [(4, .int 1), (3, .int 0), (0, .ref (a0 0)), (1, .int p1), (2, .int p2)]) hx hb dX1_reaching_3 hl (by decide) rfl (fun ls hl => ?_)
  obtain ⟨q2, hq2, hf⟩ := ob_some hf
  have L1 : ∀ (k : Nat) (v_l3_L1 : Int32) (v_l4_L1 : Int32) (q_L1 : Int32), f_X1_reaching_L5 n o0 p1 p2 k v_l3_L1 v_l4_L1 = some q_L1 → ∀ (H : Heap) (locs : List Loc), va_P D vwCl ((w_G a0 cI o0) ++ R) H → va_D A ((w_G a0 cI o0) ++ R) → va_S A s.heap H locs → ∀ ls : Array Slot, lv_has ls 5 [(0, .ref (a0 0)), (1, .int p1), (2, .int p2), (3, .int v_l3_L1), (4, .int v_l4_L1)] → (∀ (H : Heap) (locs : List Loc), va_P D vwCl ((w_G a0 cI o0) ++ R) H → va_D A ((w_G a0 cI o0) ++ R) → va_S A s.heap H locs → ∀ ls : Array Slot, lv_has ls 5 [(3, .int q_L1)] → W p l e (xR 2 43) s m args below meth c H locs 0 0 Q (F0 m 32 ls [])) → W p l e (xR 2 43) s m args below meth c H locs 0 0 Q (F0 m 5 ls []) := by
    intro k
    induction k with
    | zero => intro v_l3_L1 v_l4_L1 q_L1 hf; simp [f_X1_reaching_L5] at hf
    | succ k ih =>
      intro v_l3_L1 v_l4_L1 q_L1 hf H locs hP hD hS ls hl kx
      rw [f_X1_reaching_L5] at hf
      refine lv_iload hx hb dX1_reaching_5 (lv_at hl 4 rfl) ?_
      refine lv_aload_n hx hb dX1_reaching_7 rfl (lv_at hl 0 rfl) ?_
      refine va_get (D := D) (ci := 1) (v := .int o0.1) (C := RX1) (T := TX1) (N := 4) hx hb hts inw_X1_reaching_1 hown hK hP 0 rfl rfl 0 (by decide) (hts (.fieldLink RX1 21 "RingGames$Game" "size" "I") (List.mem_of_getElem? (i := 1) rfl)) (fun _ h9 => h9) rfl dX1_reaching_8 ?_
      refine lv_icmp_gt (tgt := 32) hx hb dX1_reaching_11 (by decide) (fun c3 => ?_) (fun c3 => ?_)
      · have hf := if_t hf c3
        have hf := Option.some.inj hf
        subst hf
        exact kx _ _ hP hD hS _ (lv_sub hl [3] rfl)
      · have hf := if_f hf c3
        refine lv_iload_n hx hb dX1_reaching_14 rfl (lv_at hl 3 rfl) ?_
        refine lv_aload_n hx hb dX1_reaching_15 rfl (lv_at hl 0 rfl) ?_
        refine lv_iload_n hx hb dX1_reaching_16 rfl (lv_at hl 1 rfl) ?_
        refine lv_iload_n hx hb dX1_reaching_17 rfl (lv_at hl 3 rfl) ?_
        refine lv_ior hx hb dX1_reaching_18 ?_
        obtain ⟨q4, hq4, hf⟩ := ob_some hf
        refine xcVi (w' := ((w_G a0 cI o0) ++ R)) S hK hN hA hP hD hS (c_X1_sources l D cI cC cS R a0 o0 (p1 ||| v_l3_L1) n _ hq4) gX1_reaching_X1_sources rfl hd_X1_sources ⟨by decide, by decide⟩ (List.Perm.refl _) (List.Perm.refl _) (ci := 1) (q := (RX1, TX1, 4)) rfl rfl rfl rfl hl.1 rfl (Nat.le_of_ble_eq_true rfl) dX1_reaching_19 ⟨Nat.zero_le _, Nat.zero_le _⟩ (fun H locs hP hD hS => ?_)
        refine lv_iload_n hx hb dX1_reaching_22 rfl (lv_at hl 2 rfl) ?_
        refine lv_iand hx hb dX1_reaching_23 ?_
        refine lv_ior hx hb dX1_reaching_24 ?_
        refine lv_istore_n (lv' := [(3, .int (v_l3_L1 ||| (q4 &&& p2))), (0, .ref (a0 0)), (1, .int p1), (2, .int p2), (4, .int v_l4_L1)]) hx hb dX1_reaching_25 rfl hl (by decide) rfl (fun ls hl => ?_)
        refine lv_iinc (v := (v_l4_L1 + 1)) (lv' := [(4, .int (v_l4_L1 + 1)), (3, .int (v_l3_L1 ||| (q4 &&& p2))), (0, .ref (a0 0)), (1, .int p1), (2, .int p2)]) hx hb dX1_reaching_26 hl (k := 4) rfl (congrArg (fun z => v_l4_L1 + z) (by decide)) (by decide) rfl (fun ls hl => ?_)
        refine lv_goto (tgt := 5) hx hb dX1_reaching_29 (by decide) ?_
        exact ih (v_l3_L1 ||| (q4 &&& p2)) (v_l4_L1 + 1) _ hf _ _ hP hD hS _ (lv_sub hl [2, 3, 4, 1, 0] rfl) kx
  refine L1 n 0 1 q2 hq2 _ _ hP hD hS _ (lv_sub hl [2, 3, 4, 1, 0] rfl) ?_
  clear hP hD hS hl
  intro H locs hP hD hS ls hl
  refine lv_iload_n hx hb dX1_reaching_32 rfl (lv_at hl 0 rfl) ?_
  have hf := Option.some.inj hf
  subst hf
  exact hret _ _ _ _ _ dX1_reaching_33 rfl hP hD hS rfl
def f_X1_notLess_L4 (d_o0 : GG) (d_l1 : Int32) : Nat → Int32 → Int32 → Option Int32
  | 0, _, _ => none
  | k + 1, d_l2, d_l3 => (if d_o0.1 ≤ d_l3 then some (d_l2) else vg d_l3 14 (vg d_l1 14 ((if (d_o0.2.2.1 (d_l3).toNatClampNeg) < (d_o0.2.2.1 (d_l1).toNatClampNeg) then f_X1_notLess_L4 d_o0 d_l1 k d_l2 (d_l3 + 1) else (f_X6_bit d_l3).bind fun q5 => f_X1_notLess_L4 d_o0 d_l1 k (d_l2 ||| q5) (d_l3 + 1)))))
def f_X1_notLess (n : Nat) (o0 : GG) (p1 : Int32) : Option Int32 := (f_X1_notLess_L4 o0 p1 n 0 0).bind fun q2 => some (q2)
theorem inw_X1_notLess_1 : ∀ w ∈ wsX10, w ∈ wsX1_notLess := fun _ h => List.mem_cons_of_mem _ (List.mem_append_right _ h)
theorem hd_X1_notLess : yX1_notLess.cls = RX1 ∧ yX1_notLess.cls ≠ "java/lang/invoke/MethodHandle" ∧ yX1_notLess.cls ≠ "java/lang/invoke/VarHandle" ∧ (parseMethodDescriptor yX1_notLess.desc).map (fun d => d.parameters.length) = some 1 := by decide +kernel
set_option maxHeartbeats 4000000 in
set_option maxRecDepth 100000 in
theorem c_X1_notLess (l : Launch) (D : va_G) (cI cC cS : ClassId) (R : va_W) (a0 : Nat → Nat) (o0 : GG) (p1 : Int32) (n : Nat) (r : Int32) (hf : f_X1_notLess n o0 p1 = some r) : CI l yX1_notLess wsX1_notLess 1 20 D cI cC cS [.ref (a0 0), .int p1] ((w_G a0 cI o0) ++ R) r ((w_G a0 cI o0) ++ R) := by
  refine XI.of (cc := cX1_notLess) (maxL := 4) (ty := .int) (own := RX1) (by decide) rfl rfl (Nat.le_of_ble_eq_true rfl) ?_
  intro p e s m args below meth c A Q S hK hN hA hP hD hS ls hl hret
  obtain ⟨hx, hb, hml, hown, hts⟩ := id S
  have hl : lv_has ls 4 [(0, .ref (a0 0)), (1, .int p1)] := hl
  unfold f_X1_notLess at hf
  refine lv_iconst (v := 0) hx hb dX1_notLess_0 (by decide) ?_
  refine lv_istore_n (lv' := [(2, .int 0), (0, .ref (a0 0)), (1, .int p1)]) hx hb dX1_notLess_1 rfl hl (by decide) rfl (fun ls hl => ?_)
  refine lv_iconst (v := 0) hx hb dX1_notLess_2 (by decide) ?_
  refine lv_istore_n (lv' := [(3, .int 0), (2, .int 0), (0, .ref (a0 0)), (1, .int p1)]) hx hb dX1_notLess_3 rfl hl (by decide) rfl (fun ls hl => ?_)
  obtain ⟨q2, hq2, hf⟩ := ob_some hf
  have L1 : ∀ (k : Nat) (v_l2_L1 : Int32) (v_l3_L1 : Int32) (q_L1 : Int32), f_X1_notLess_L4 o0 p1 k v_l2_L1 v_l3_L1 = some q_L1 → ∀ (H : Heap) (locs : List Loc), va_P D vwCl ((w_G a0 cI o0) ++ R) H → va_D A ((w_G a0 cI o0) ++ R) → va_S A s.heap H locs → ∀ ls : Array Slot, lv_has ls 4 [(0, .ref (a0 0)), (1, .int p1), (2, .int v_l2_L1), (3, .int v_l3_L1)] → (∀ (H : Heap) (locs : List Loc), va_P D vwCl ((w_G a0 cI o0) ++ R) H → va_D A ((w_G a0 cI o0) ++ R) → va_S A s.heap H locs → ∀ ls : Array Slot, lv_has ls 4 [(2, .int q_L1)] → W p l e (xR 1 20) s m args below meth c H locs 0 0 Q (F0 m 40 ls [])) → W p l e (xR 1 20) s m args below meth c H locs 0 0 Q (F0 m 4 ls []) := by
    intro k
    induction k with
    | zero => intro v_l2_L1 v_l3_L1 q_L1 hf; simp [f_X1_notLess_L4] at hf
    | succ k ih =>
      intro v_l2_L1 v_l3_L1 q_L1 hf H locs hP hD hS ls hl kx
      rw [f_X1_notLess_L4] at hf
      refine lv_iload_n hx hb dX1_notLess_4 rfl (lv_at hl 3 rfl) ?_
      refine lv_aload_n hx hb dX1_notLess_5 rfl (lv_at hl 0 rfl) ?_
      refine va_get (D := D) (ci := 1) (v := .int o0.1) (C := RX1) (T := TX1) (N := 4) hx hb hts inw_X1_notLess_1 hown hK hP 0 rfl rfl 0 (by decide) (hts (.fieldLink RX1 21 "RingGames$Game" "size" "I") (List.mem_of_getElem? (i := 1) rfl)) (fun _ h9 => h9) rfl dX1_notLess_6 ?_
      refine lv_icmp_ge (tgt := 40) hx hb dX1_notLess_9 (by decide) (fun c3 => ?_) (fun c3 => ?_)
      · have hf := if_t hf c3
        have hf := Option.some.inj hf
        subst hf
        exact kx _ _ hP hD hS _ (lv_sub hl [2] rfl)
      · have hf := if_f hf c3
        refine lv_aload_n hx hb dX1_notLess_12 rfl (lv_at hl 0 rfl) ?_
        refine va_get (D := D) (ci := 1) (v := .ref (a0 2)) (C := RX1) (T := TX1) (N := 4) hx hb hts inw_X1_notLess_1 hown hK hP 0 rfl rfl 2 (by decide) (hts (.fieldLink RX1 15 "RingGames$Game" "colours" "[I") (List.mem_of_getElem? (i := 2) rfl)) (fun _ h9 => h9) rfl dX1_notLess_13 ?_
        refine lv_iload_n hx hb dX1_notLess_16 rfl (lv_at hl 3 rfl) ?_
        obtain ⟨g4, hf⟩ := vg_some hf
        refine va_iald hx hb hK hP 2 0 rfl rfl g4 dX1_notLess_17 ?_
        refine lv_aload_n hx hb dX1_notLess_18 rfl (lv_at hl 0 rfl) ?_
        refine va_get (D := D) (ci := 1) (v := .ref (a0 2)) (C := RX1) (T := TX1) (N := 4) hx hb hts inw_X1_notLess_1 hown hK hP 0 rfl rfl 2 (by decide) (hts (.fieldLink RX1 15 "RingGames$Game" "colours" "[I") (List.mem_of_getElem? (i := 2) rfl)) (fun _ h9 => h9) rfl dX1_notLess_19 ?_
        refine lv_iload_n hx hb dX1_notLess_22 rfl (lv_at hl 1 rfl) ?_
        obtain ⟨g5, hf⟩ := vg_some hf
        refine va_iald hx hb hK hP 2 0 rfl rfl g5 dX1_notLess_23 ?_
        refine lv_icmp_lt (tgt := 34) hx hb dX1_notLess_24 (by decide) (fun c6 => ?_) (fun c6 => ?_)
        · have hf := if_t hf c6
          refine lv_iinc (v := (v_l3_L1 + 1)) (lv' := [(3, .int (v_l3_L1 + 1)), (0, .ref (a0 0)), (1, .int p1), (2, .int v_l2_L1)]) hx hb dX1_notLess_34 hl (k := 3) rfl (congrArg (fun z => v_l3_L1 + z) (by decide)) (by decide) rfl (fun ls hl => ?_)
          refine lv_goto (tgt := 4) hx hb dX1_notLess_37 (by decide) ?_
          exact ih v_l2_L1 (v_l3_L1 + 1) _ hf _ _ hP hD hS _ (lv_sub hl [1, 2, 3, 0] rfl) kx
        · have hf := if_f hf c6
          refine lv_iload_n hx hb dX1_notLess_27 rfl (lv_at hl 2 rfl) ?_
          refine lv_iload_n hx hb dX1_notLess_28 rfl (lv_at hl 3 rfl) ?_
          obtain ⟨q7, hq7, hf⟩ := ob_some hf
          refine xcNi S hK hN hA hP hD hS (c_X6_bit l D cI cC cS ((w_G a0 cI o0) ++ R) v_l3_L1 _ hq7) 6 rfl gX1_notLess_X6_bit_n31 (List.mem_of_getElem? (i := 3) rfl) (List.mem_of_getElem? (i := 4) rfl) rfl hd_X6_bit ⟨by decide, by decide⟩ rfl hl.1 rfl (Nat.le_of_ble_eq_true rfl) dX1_notLess_29 ⟨Nat.zero_le _, Nat.zero_le _⟩ (fun H locs hP hD hS => ?_)
          refine lv_ior hx hb dX1_notLess_32 ?_
          refine lv_istore_n (lv' := [(2, .int (v_l2_L1 ||| q7)), (0, .ref (a0 0)), (1, .int p1), (3, .int v_l3_L1)]) hx hb dX1_notLess_33 rfl hl (by decide) rfl (fun ls hl => ?_)
          refine lv_iinc (v := (v_l3_L1 + 1)) (lv' := [(3, .int (v_l3_L1 + 1)), (2, .int (v_l2_L1 ||| q7)), (0, .ref (a0 0)), (1, .int p1)]) hx hb dX1_notLess_34 hl (k := 3) rfl (congrArg (fun z => v_l3_L1 + z) (by decide)) (by decide) rfl (fun ls hl => ?_)
          refine lv_goto (tgt := 4) hx hb dX1_notLess_37 (by decide) ?_
          exact ih (v_l2_L1 ||| q7) (v_l3_L1 + 1) _ hf _ _ hP hD hS _ (lv_sub hl [2, 3, 1, 0] rfl) kx
  refine L1 n 0 0 q2 hq2 _ _ hP hD hS _ (lv_sub hl [2, 3, 1, 0] rfl) ?_
  clear hP hD hS hl
  intro H locs hP hD hS ls hl
  refine lv_iload_n hx hb dX1_notLess_40 rfl (lv_at hl 0 rfl) ?_
  have hf := Option.some.inj hf
  subst hf
  exact hret _ _ _ _ _ dX1_notLess_41 rfl hP hD hS rfl
def f_X1_ringPlaces (n : Nat) (o0 : GG) (p1 : Int32) : Option Int32 := (f_X1_notLess n o0 p1).bind fun q1 => (f_X6_bit p1).bind fun q2 => (f_X1_reached n o0 q2 q1).bind fun q3 => (f_X6_bit p1).bind fun q4 => (f_X1_reaching n o0 q4 q1).bind fun q5 => (f_X6_contains (q3 &&& q5) p1).bind fun q6 => (if q6 = 0 then some (0) else some ((q3 &&& q5)))
theorem hd_X1_ringPlaces : yX1_ringPlaces.cls = RX1 ∧ yX1_ringPlaces.cls ≠ "java/lang/invoke/MethodHandle" ∧ yX1_ringPlaces.cls ≠ "java/lang/invoke/VarHandle" ∧ (parseMethodDescriptor yX1_ringPlaces.desc).map (fun d => d.parameters.length) = some 1 := by decide +kernel
set_option maxHeartbeats 4000000 in
set_option maxRecDepth 100000 in
theorem c_X1_ringPlaces (l : Launch) (D : va_G) (cI cC cS : ClassId) (R : va_W) (a0 : Nat → Nat) (o0 : GG) (p1 : Int32) (n : Nat) (r : Int32) (hf : f_X1_ringPlaces n o0 p1 = some r) : CI l yX1_ringPlaces wsX1_ringPlaces 3 68 D cI cC cS [.ref (a0 0), .int p1] ((w_G a0 cI o0) ++ R) r ((w_G a0 cI o0) ++ R) := by
  refine XI.of (cc := cX1_ringPlaces) (maxL := 4) (ty := .int) (own := RX1) (by decide) rfl rfl (Nat.le_of_ble_eq_true rfl) ?_
  intro p e s m args below meth c A Q S hK hN hA hP hD hS ls hl hret
  obtain ⟨hx, hb, hml, hown, hts⟩ := id S
  have hl : lv_has ls 4 [(0, .ref (a0 0)), (1, .int p1)] := hl
  unfold f_X1_ringPlaces at hf
  refine lv_aload_n hx hb dX1_ringPlaces_0 rfl (lv_at hl 0 rfl) ?_
  refine lv_iload_n hx hb dX1_ringPlaces_1 rfl (lv_at hl 1 rfl) ?_
  obtain ⟨q1, hq1, hf⟩ := ob_some hf
  refine xcVi (w' := ((w_G a0 cI o0) ++ R)) S hK hN hA hP hD hS (c_X1_notLess l D cI cC cS R a0 o0 p1 n _ hq1) gX1_ringPlaces_X1_notLess rfl hd_X1_notLess ⟨by decide, by decide⟩ (List.Perm.refl _) (List.Perm.refl _) (ci := 1) (q := (RX1, TX1, 4)) rfl rfl rfl rfl hl.1 rfl (Nat.le_of_ble_eq_true rfl) dX1_ringPlaces_2 ⟨Nat.zero_le _, Nat.zero_le _⟩ (fun H locs hP hD hS => ?_)
  refine lv_istore_n (lv' := [(2, .int q1), (0, .ref (a0 0)), (1, .int p1)]) hx hb dX1_ringPlaces_5 rfl hl (by decide) rfl (fun ls hl => ?_)
  refine lv_aload_n hx hb dX1_ringPlaces_6 rfl (lv_at hl 1 rfl) ?_
  refine lv_iload_n hx hb dX1_ringPlaces_7 rfl (lv_at hl 2 rfl) ?_
  obtain ⟨q2, hq2, hf⟩ := ob_some hf
  refine xcNi S hK hN hA hP hD hS (c_X6_bit l D cI cC cS ((w_G a0 cI o0) ++ R) p1 _ hq2) 6 rfl gX1_ringPlaces_X6_bit_n31 (List.mem_of_getElem? (i := 8) rfl) (List.mem_of_getElem? (i := 9) rfl) rfl hd_X6_bit ⟨by decide, by decide⟩ rfl hl.1 rfl (Nat.le_of_ble_eq_true rfl) dX1_ringPlaces_8 ⟨Nat.zero_le _, Nat.zero_le _⟩ (fun H locs hP hD hS => ?_)
  refine lv_iload_n hx hb dX1_ringPlaces_11 rfl (lv_at hl 0 rfl) ?_
  obtain ⟨q3, hq3, hf⟩ := ob_some hf
  refine xcVi (w' := ((w_G a0 cI o0) ++ R)) S hK hN hA hP hD hS (c_X1_reached l D cI cC cS R a0 o0 q2 q1 n _ hq3) gX1_ringPlaces_X1_reached rfl hd_X1_reached ⟨by decide, by decide⟩ (List.Perm.refl _) (List.Perm.refl _) (ci := 1) (q := (RX1, TX1, 4)) rfl rfl rfl rfl hl.1 rfl (Nat.le_of_ble_eq_true rfl) dX1_ringPlaces_12 ⟨Nat.zero_le _, Nat.zero_le _⟩ (fun H locs hP hD hS => ?_)
  refine lv_aload_n hx hb dX1_ringPlaces_15 rfl (lv_at hl 1 rfl) ?_
  refine lv_iload_n hx hb dX1_ringPlaces_16 rfl (lv_at hl 2 rfl) ?_
  obtain ⟨q4, hq4, hf⟩ := ob_some hf
  refine xcNi S hK hN hA hP hD hS (c_X6_bit l D cI cC cS ((w_G a0 cI o0) ++ R) p1 _ hq4) 6 rfl gX1_ringPlaces_X6_bit_n31 (List.mem_of_getElem? (i := 8) rfl) (List.mem_of_getElem? (i := 9) rfl) rfl hd_X6_bit ⟨by decide, by decide⟩ rfl hl.1 rfl (Nat.le_of_ble_eq_true rfl) dX1_ringPlaces_17 ⟨Nat.zero_le _, Nat.zero_le _⟩ (fun H locs hP hD hS => ?_)
  refine lv_iload_n hx hb dX1_ringPlaces_20 rfl (lv_at hl 0 rfl) ?_
  obtain ⟨q5, hq5, hf⟩ := ob_some hf
  refine xcVi (w' := ((w_G a0 cI o0) ++ R)) S hK hN hA hP hD hS (c_X1_reaching l D cI cC cS R a0 o0 q4 q1 n _ hq5) gX1_ringPlaces_X1_reaching rfl hd_X1_reaching ⟨by decide, by decide⟩ (List.Perm.refl _) (List.Perm.refl _) (ci := 1) (q := (RX1, TX1, 4)) rfl rfl rfl rfl hl.1 rfl (Nat.le_of_ble_eq_true rfl) dX1_ringPlaces_21 ⟨Nat.zero_le _, Nat.zero_le _⟩ (fun H locs hP hD hS => ?_)
  refine lv_iand hx hb dX1_ringPlaces_24 ?_
  refine lv_istore_n (lv' := [(3, .int (q3 &&& q5)), (2, .int q1), (0, .ref (a0 0)), (1, .int p1)]) hx hb dX1_ringPlaces_25 rfl hl (by decide) rfl (fun ls hl => ?_)
  refine lv_iload_n hx hb dX1_ringPlaces_26 rfl (lv_at hl 0 rfl) ?_
  refine lv_iload_n hx hb dX1_ringPlaces_27 rfl (lv_at hl 3 rfl) ?_
  obtain ⟨q6, hq6, hf⟩ := ob_some hf
  refine xcNi S hK hN hA hP hD hS (c_X6_contains l D cI cC cS ((w_G a0 cI o0) ++ R) (q3 &&& q5) p1 _ hq6) 7 rfl gX1_ringPlaces_X6_contains_n43 (List.mem_of_getElem? (i := 20) rfl) (List.mem_of_getElem? (i := 9) rfl) rfl hd_X6_contains ⟨by decide, by decide⟩ rfl hl.1 rfl (Nat.le_of_ble_eq_true rfl) dX1_ringPlaces_28 ⟨Nat.zero_le _, Nat.zero_le _⟩ (fun H locs hP hD hS => ?_)
  refine lv_if_eq (tgt := 38) hx hb dX1_ringPlaces_31 (by decide) (fun c7 => ?_) (fun c7 => ?_)
  · have hf := if_t hf c7
    refine lv_iconst (v := 0) hx hb dX1_ringPlaces_38 (by decide) ?_
    have hf := Option.some.inj hf
    subst hf
    exact hret _ _ _ _ _ dX1_ringPlaces_39 rfl hP hD hS rfl
  · have hf := if_f hf c7
    refine lv_iload_n hx hb dX1_ringPlaces_34 rfl (lv_at hl 0 rfl) ?_
    refine lv_goto (tgt := 39) hx hb dX1_ringPlaces_35 (by decide) ?_
    have hf := Option.some.inj hf
    subst hf
    exact hret _ _ _ _ _ dX1_ringPlaces_39 rfl hP hD hS rfl
def f_X1_isBadColour (p1 : Int32) (p2 : Int32) : Option Int32 := (if (jrem p2 2) = p1 then some (0) else some (1))
theorem hd_X1_isBadColour : yX1_isBadColour.cls = RX1 ∧ yX1_isBadColour.cls ≠ "java/lang/invoke/MethodHandle" ∧ yX1_isBadColour.cls ≠ "java/lang/invoke/VarHandle" ∧ (parseMethodDescriptor yX1_isBadColour.desc).map (fun d => d.parameters.length) = some 2 := by decide +kernel
set_option maxHeartbeats 4000000 in
set_option maxRecDepth 100000 in
theorem c_X1_isBadColour (l : Launch) (D : va_G) (cI cC cS : ClassId) (R : va_W) (a0 : Nat → Nat) (o0 : GG) (p1 : Int32) (p2 : Int32) (r : Int32) (hf : f_X1_isBadColour p1 p2 = some r) : CI l yX1_isBadColour wsX1_isBadColour 0 0 D cI cC cS [.ref (a0 0), .int p1, .int p2] ((w_G a0 cI o0) ++ R) r ((w_G a0 cI o0) ++ R) := by
  refine XI.of (cc := cX1_isBadColour) (maxL := 3) (ty := .boolean) (own := RX1) (by decide) rfl rfl (Nat.le_of_ble_eq_true rfl) ?_
  intro p e s m args below meth c A Q S hK hN hA hP hD hS ls hl hret
  obtain ⟨hx, hb, hml, hown, hts⟩ := id S
  have hl : lv_has ls 3 [(0, .ref (a0 0)), (1, .int p1), (2, .int p2)] := hl
  unfold f_X1_isBadColour at hf
  refine lv_iload_n hx hb dX1_isBadColour_0 rfl (lv_at hl 2 rfl) ?_
  refine lv_iconst (v := 2) hx hb dX1_isBadColour_1 (by decide) ?_
  refine lv_irem hx hb dX1_isBadColour_2 (by decide) ?_
  refine lv_iload_n hx hb dX1_isBadColour_3 rfl (lv_at hl 1 rfl) ?_
  refine lv_icmp_eq (tgt := 11) hx hb dX1_isBadColour_4 (by decide) (fun c1 => ?_) (fun c1 => ?_)
  · have hf := if_t hf c1
    refine lv_iconst (v := 0) hx hb dX1_isBadColour_11 (by decide) ?_
    have hf := Option.some.inj hf
    subst hf
    exact hret _ _ _ _ _ dX1_isBadColour_12 rfl hP hD hS rfl
  · have hf := if_f hf c1
    refine lv_iconst (v := 1) hx hb dX1_isBadColour_7 (by decide) ?_
    refine lv_goto (tgt := 12) hx hb dX1_isBadColour_8 (by decide) ?_
    have hf := Option.some.inj hf
    subst hf
    exact hret _ _ _ _ _ dX1_isBadColour_12 rfl hP hD hS rfl
def f_X1_badRingPlaces_L4 (n : Nat) (d_o0 : GG) (d_l1 : Int32) : Nat → Int32 → Int32 → Option Int32
  | 0, _, _ => none
  | k + 1, d_l2, d_l3 => (if d_o0.1 ≤ d_l3 then some (d_l2) else vg d_l3 14 ((f_X1_isBadColour d_l1 (d_o0.2.2.1 (d_l3).toNatClampNeg)).bind fun q3 => (if q3 = 0 then f_X1_badRingPlaces_L4 n d_o0 d_l1 k d_l2 (d_l3 + 1) else (f_X1_ringPlaces n d_o0 d_l3).bind fun q5 => f_X1_badRingPlaces_L4 n d_o0 d_l1 k (d_l2 ||| q5) (d_l3 + 1))))
def f_X1_badRingPlaces (n : Nat) (o0 : GG) (p1 : Int32) : Option Int32 := (f_X1_badRingPlaces_L4 n o0 p1 n 0 0).bind fun q2 => some (q2)
theorem inw_X1_badRingPlaces_1 : ∀ w ∈ wsX10, w ∈ wsX1_badRingPlaces := fun _ h => List.mem_cons_of_mem _ (List.mem_append_right _ h)
theorem hd_X1_badRingPlaces : yX1_badRingPlaces.cls = RX1 ∧ yX1_badRingPlaces.cls ≠ "java/lang/invoke/MethodHandle" ∧ yX1_badRingPlaces.cls ≠ "java/lang/invoke/VarHandle" ∧ (parseMethodDescriptor yX1_badRingPlaces.desc).map (fun d => d.parameters.length) = some 1 := by decide +kernel
set_option maxHeartbeats 4000000 in
set_option maxRecDepth 100000 in
theorem c_X1_badRingPlaces (l : Launch) (D : va_G) (cI cC cS : ClassId) (R : va_W) (a0 : Nat → Nat) (o0 : GG) (p1 : Int32) (n : Nat) (r : Int32) (hf : f_X1_badRingPlaces n o0 p1 = some r) : CI l yX1_badRingPlaces wsX1_badRingPlaces 4 91 D cI cC cS [.ref (a0 0), .int p1] ((w_G a0 cI o0) ++ R) r ((w_G a0 cI o0) ++ R) := by
  refine XI.of (cc := cX1_badRingPlaces) (maxL := 4) (ty := .int) (own := RX1) (by decide) rfl rfl (Nat.le_of_ble_eq_true rfl) ?_
  intro p e s m args below meth c A Q S hK hN hA hP hD hS ls hl hret
  obtain ⟨hx, hb, hml, hown, hts⟩ := id S
  have hl : lv_has ls 4 [(0, .ref (a0 0)), (1, .int p1)] := hl
  unfold f_X1_badRingPlaces at hf
  refine lv_iconst (v := 0) hx hb dX1_badRingPlaces_0 (by decide) ?_
  refine lv_istore_n (lv' := [(2, .int 0), (0, .ref (a0 0)), (1, .int p1)]) hx hb dX1_badRingPlaces_1 rfl hl (by decide) rfl (fun ls hl => ?_)
  refine lv_iconst (v := 0) hx hb dX1_badRingPlaces_2 (by decide) ?_
  refine lv_istore_n (lv' := [(3, .int 0), (2, .int 0), (0, .ref (a0 0)), (1, .int p1)]) hx hb dX1_badRingPlaces_3 rfl hl (by decide) rfl (fun ls hl => ?_)
  obtain ⟨q2, hq2, hf⟩ := ob_some hf
  have L1 : ∀ (k : Nat) (v_l2_L1 : Int32) (v_l3_L1 : Int32) (q_L1 : Int32), f_X1_badRingPlaces_L4 n o0 p1 k v_l2_L1 v_l3_L1 = some q_L1 → ∀ (H : Heap) (locs : List Loc), va_P D vwCl ((w_G a0 cI o0) ++ R) H → va_D A ((w_G a0 cI o0) ++ R) → va_S A s.heap H locs → ∀ ls : Array Slot, lv_has ls 4 [(0, .ref (a0 0)), (1, .int p1), (2, .int v_l2_L1), (3, .int v_l3_L1)] → (∀ (H : Heap) (locs : List Loc), va_P D vwCl ((w_G a0 cI o0) ++ R) H → va_D A ((w_G a0 cI o0) ++ R) → va_S A s.heap H locs → ∀ ls : Array Slot, lv_has ls 4 [(2, .int q_L1)] → W p l e (xR 4 91) s m args below meth c H locs 0 0 Q (F0 m 40 ls [])) → W p l e (xR 4 91) s m args below meth c H locs 0 0 Q (F0 m 4 ls []) := by
    intro k
    induction k with
    | zero => intro v_l2_L1 v_l3_L1 q_L1 hf; simp [f_X1_badRingPlaces_L4] at hf
    | succ k ih =>
      intro v_l2_L1 v_l3_L1 q_L1 hf H locs hP hD hS ls hl kx
      rw [f_X1_badRingPlaces_L4] at hf
      refine lv_iload_n hx hb dX1_badRingPlaces_4 rfl (lv_at hl 3 rfl) ?_
      refine lv_aload_n hx hb dX1_badRingPlaces_5 rfl (lv_at hl 0 rfl) ?_
      refine va_get (D := D) (ci := 1) (v := .int o0.1) (C := RX1) (T := TX1) (N := 4) hx hb hts inw_X1_badRingPlaces_1 hown hK hP 0 rfl rfl 0 (by decide) (hts (.fieldLink RX1 21 "RingGames$Game" "size" "I") (List.mem_of_getElem? (i := 1) rfl)) (fun _ h9 => h9) rfl dX1_badRingPlaces_6 ?_
      refine lv_icmp_ge (tgt := 40) hx hb dX1_badRingPlaces_9 (by decide) (fun c3 => ?_) (fun c3 => ?_)
      · have hf := if_t hf c3
        have hf := Option.some.inj hf
        subst hf
        exact kx _ _ hP hD hS _ (lv_sub hl [2] rfl)
      · have hf := if_f hf c3
        refine lv_aload_n hx hb dX1_badRingPlaces_12 rfl (lv_at hl 0 rfl) ?_
        refine lv_iload_n hx hb dX1_badRingPlaces_13 rfl (lv_at hl 1 rfl) ?_
        refine lv_aload_n hx hb dX1_badRingPlaces_14 rfl (lv_at hl 0 rfl) ?_
        refine va_get (D := D) (ci := 1) (v := .ref (a0 2)) (C := RX1) (T := TX1) (N := 4) hx hb hts inw_X1_badRingPlaces_1 hown hK hP 0 rfl rfl 2 (by decide) (hts (.fieldLink RX1 15 "RingGames$Game" "colours" "[I") (List.mem_of_getElem? (i := 2) rfl)) (fun _ h9 => h9) rfl dX1_badRingPlaces_15 ?_
        refine lv_iload_n hx hb dX1_badRingPlaces_18 rfl (lv_at hl 3 rfl) ?_
        obtain ⟨g4, hf⟩ := vg_some hf
        refine va_iald hx hb hK hP 2 0 rfl rfl g4 dX1_badRingPlaces_19 ?_
        obtain ⟨q5, hq5, hf⟩ := ob_some hf
        refine xcVi (w' := ((w_G a0 cI o0) ++ R)) S hK hN hA hP hD hS (c_X1_isBadColour l D cI cC cS R a0 o0 p1 (o0.2.2.1 (v_l3_L1).toNatClampNeg) _ hq5) gX1_badRingPlaces_X1_isBadColour rfl hd_X1_isBadColour ⟨by decide, by decide⟩ (List.Perm.refl _) (List.Perm.refl _) (ci := 1) (q := (RX1, TX1, 4)) rfl rfl rfl rfl hl.1 rfl (Nat.le_of_ble_eq_true rfl) dX1_badRingPlaces_20 ⟨Nat.zero_le _, Nat.zero_le _⟩ (fun H locs hP hD hS => ?_)
        refine lv_if_eq (tgt := 34) hx hb dX1_badRingPlaces_23 (by decide) (fun c6 => ?_) (fun c6 => ?_)
        · have hf := if_t hf c6
          refine lv_iinc (v := (v_l3_L1 + 1)) (lv' := [(3, .int (v_l3_L1 + 1)), (0, .ref (a0 0)), (1, .int p1), (2, .int v_l2_L1)]) hx hb dX1_badRingPlaces_34 hl (k := 3) rfl (congrArg (fun z => v_l3_L1 + z) (by decide)) (by decide) rfl (fun ls hl => ?_)
          refine lv_goto (tgt := 4) hx hb dX1_badRingPlaces_37 (by decide) ?_
          exact ih v_l2_L1 (v_l3_L1 + 1) _ hf _ _ hP hD hS _ (lv_sub hl [1, 2, 3, 0] rfl) kx
        · have hf := if_f hf c6
          refine lv_iload_n hx hb dX1_badRingPlaces_26 rfl (lv_at hl 2 rfl) ?_
          refine lv_aload_n hx hb dX1_badRingPlaces_27 rfl (lv_at hl 0 rfl) ?_
          refine lv_iload_n hx hb dX1_badRingPlaces_28 rfl (lv_at hl 3 rfl) ?_
          obtain ⟨q7, hq7, hf⟩ := ob_some hf
          refine xcVi (w' := ((w_G a0 cI o0) ++ R)) S hK hN hA hP hD hS (c_X1_ringPlaces l D cI cC cS R a0 o0 v_l3_L1 n _ hq7) gX1_badRingPlaces_X1_ringPlaces rfl hd_X1_ringPlaces ⟨by decide, by decide⟩ (List.Perm.refl _) (List.Perm.refl _) (ci := 1) (q := (RX1, TX1, 4)) rfl rfl rfl rfl hl.1 rfl (Nat.le_of_ble_eq_true rfl) dX1_badRingPlaces_29 ⟨Nat.zero_le _, Nat.zero_le _⟩ (fun H locs hP hD hS => ?_)
          refine lv_ior hx hb dX1_badRingPlaces_32 ?_
          refine lv_istore_n (lv' := [(2, .int (v_l2_L1 ||| q7)), (0, .ref (a0 0)), (1, .int p1), (3, .int v_l3_L1)]) hx hb dX1_badRingPlaces_33 rfl hl (by decide) rfl (fun ls hl => ?_)
          refine lv_iinc (v := (v_l3_L1 + 1)) (lv' := [(3, .int (v_l3_L1 + 1)), (2, .int (v_l2_L1 ||| q7)), (0, .ref (a0 0)), (1, .int p1)]) hx hb dX1_badRingPlaces_34 hl (k := 3) rfl (congrArg (fun z => v_l3_L1 + z) (by decide)) (by decide) rfl (fun ls hl => ?_)
          refine lv_goto (tgt := 4) hx hb dX1_badRingPlaces_37 (by decide) ?_
          exact ih (v_l2_L1 ||| q7) (v_l3_L1 + 1) _ hf _ _ hP hD hS _ (lv_sub hl [2, 3, 1, 0] rfl) kx
  refine L1 n 0 0 q2 hq2 _ _ hP hD hS _ (lv_sub hl [2, 3, 1, 0] rfl) ?_
  clear hP hD hS hl
  intro H locs hP hD hS ls hl
  refine lv_iload_n hx hb dX1_badRingPlaces_40 rfl (lv_at hl 0 rfl) ?_
  have hf := Option.some.inj hf
  subst hf
  exact hret _ _ _ _ _ dX1_badRingPlaces_41 rfl hP hD hS rfl
def f_X1_leastBadColour_L5 (n : Nat) (d_o0 : GG) (d_l1 : Int32) : Nat → Int32 → Int32 → Option Int32
  | 0, _, _ => none
  | k + 1, d_l2, d_l3 => (if d_o0.1 ≤ d_l3 then some (d_l2) else ((if d_l2 = (-5) then some (1) else vg d_l3 14 ((if d_l2 ≤ (d_o0.2.2.1 (d_l3).toNatClampNeg) then some (0) else some (1)))) : Option Int32).bind fun j3 => (if j3 = 0 then f_X1_leastBadColour_L5 n d_o0 d_l1 k d_l2 (d_l3 + 1) else vg d_l3 14 ((f_X1_isBadColour d_l1 (d_o0.2.2.1 (d_l3).toNatClampNeg)).bind fun q7 => (if q7 = 0 then f_X1_leastBadColour_L5 n d_o0 d_l1 k d_l2 (d_l3 + 1) else (f_X1_ringPlaces n d_o0 d_l3).bind fun q9 => (if q9 = 0 then f_X1_leastBadColour_L5 n d_o0 d_l1 k d_l2 (d_l3 + 1) else f_X1_leastBadColour_L5 n d_o0 d_l1 k (d_o0.2.2.1 (d_l3).toNatClampNeg) (d_l3 + 1))))))
def f_X1_leastBadColour (n : Nat) (o0 : GG) (p1 : Int32) : Option Int32 := (f_X1_leastBadColour_L5 n o0 p1 n (-5) 0).bind fun q2 => some (q2)
theorem inw_X1_leastBadColour_1 : ∀ w ∈ wsX10, w ∈ wsX1_leastBadColour := fun _ h => List.mem_cons_of_mem _ (List.mem_append_right _ h)
theorem hd_X1_leastBadColour : yX1_leastBadColour.cls = RX1 ∧ yX1_leastBadColour.cls ≠ "java/lang/invoke/MethodHandle" ∧ yX1_leastBadColour.cls ≠ "java/lang/invoke/VarHandle" ∧ (parseMethodDescriptor yX1_leastBadColour.desc).map (fun d => d.parameters.length) = some 1 := by decide +kernel
set_option maxHeartbeats 4000000 in
set_option maxRecDepth 100000 in
theorem c_X1_leastBadColour (l : Launch) (D : va_G) (cI cC cS : ClassId) (R : va_W) (a0 : Nat → Nat) (o0 : GG) (p1 : Int32) (n : Nat) (r : Int32) (hf : f_X1_leastBadColour n o0 p1 = some r) : CI l yX1_leastBadColour wsX1_leastBadColour 4 91 D cI cC cS [.ref (a0 0), .int p1] ((w_G a0 cI o0) ++ R) r ((w_G a0 cI o0) ++ R) := by
  refine XI.of (cc := cX1_leastBadColour) (maxL := 5) (ty := .int) (own := RX1) (by decide) rfl rfl (Nat.le_of_ble_eq_true rfl) ?_
  intro p e s m args below meth c A Q S hK hN hA hP hD hS ls hl hret
  obtain ⟨hx, hb, hml, hown, hts⟩ := id S
  have hl : lv_has ls 5 [(0, .ref (a0 0)), (1, .int p1)] := hl
  unfold f_X1_leastBadColour at hf
  refine lv_bipush (v := (-5)) hx hb dX1_leastBadColour_0 (by decide) ?_
  refine lv_istore_n (lv' := [(2, .int (-5)), (0, .ref (a0 0)), (1, .int p1)]) hx hb dX1_leastBadColour_2 rfl hl (by decide) rfl (fun ls hl => ?_)
  refine lv_iconst (v := 0) hx hb dX1_leastBadColour_3 (by decide) ?_
  refine lv_istore_n (lv' := [(3, .int 0), (2, .int (-5)), (0, .ref (a0 0)), (1, .int p1)]) hx hb dX1_leastBadColour_4 rfl hl (by decide) rfl (fun ls hl => ?_)
  obtain ⟨q2, hq2, hf⟩ := ob_some hf
  have L1 : ∀ (k : Nat) (v_l2_L1 : Int32) (v_l3_L1 : Int32) (q_L1 : Int32), f_X1_leastBadColour_L5 n o0 p1 k v_l2_L1 v_l3_L1 = some q_L1 → ∀ (H : Heap) (locs : List Loc), va_P D vwCl ((w_G a0 cI o0) ++ R) H → va_D A ((w_G a0 cI o0) ++ R) → va_S A s.heap H locs → ∀ ls : Array Slot, lv_has ls 5 [(0, .ref (a0 0)), (1, .int p1), (2, .int v_l2_L1), (3, .int v_l3_L1)] → (∀ (H : Heap) (locs : List Loc), va_P D vwCl ((w_G a0 cI o0) ++ R) H → va_D A ((w_G a0 cI o0) ++ R) → va_S A s.heap H locs → ∀ ls : Array Slot, lv_has ls 5 [(2, .int q_L1)] → W p l e (xR 4 91) s m args below meth c H locs 0 0 Q (F0 m 76 ls [])) → W p l e (xR 4 91) s m args below meth c H locs 0 0 Q (F0 m 5 ls []) := by
    intro k
    induction k with
    | zero => intro v_l2_L1 v_l3_L1 q_L1 hf; simp [f_X1_leastBadColour_L5] at hf
    | succ k ih =>
      intro v_l2_L1 v_l3_L1 q_L1 hf H locs hP hD hS ls hl kx
      rw [f_X1_leastBadColour_L5] at hf
      refine lv_iload_n hx hb dX1_leastBadColour_5 rfl (lv_at hl 3 rfl) ?_
      refine lv_aload_n hx hb dX1_leastBadColour_6 rfl (lv_at hl 0 rfl) ?_
      refine va_get (D := D) (ci := 1) (v := .int o0.1) (C := RX1) (T := TX1) (N := 4) hx hb hts inw_X1_leastBadColour_1 hown hK hP 0 rfl rfl 0 (by decide) (hts (.fieldLink RX1 21 "RingGames$Game" "size" "I") (List.mem_of_getElem? (i := 1) rfl)) (fun _ h9 => h9) rfl dX1_leastBadColour_7 ?_
      refine lv_icmp_ge (tgt := 76) hx hb dX1_leastBadColour_10 (by decide) (fun c3 => ?_) (fun c3 => ?_)
      · have hf := if_t hf c3
        have hf := Option.some.inj hf
        subst hf
        exact kx _ _ hP hD hS _ (lv_sub hl [2] rfl)
      · have hf := if_f hf c3
        refine lv_iload_n hx hb dX1_leastBadColour_13 rfl (lv_at hl 2 rfl) ?_
        refine lv_bipush (v := (-5)) hx hb dX1_leastBadColour_14 (by decide) ?_
        obtain ⟨j5, hj5, hf⟩ := ob_some hf
        have J6 : ∀ (H : Heap) (locs : List Loc), va_P D vwCl ((w_G a0 cI o0) ++ R) H → va_D A ((w_G a0 cI o0) ++ R) → va_S A s.heap H locs → ∀ ls : Array Slot, lv_has ls 5 [(0, .ref (a0 0)), (1, .int p1), (2, .int v_l2_L1), (3, .int v_l3_L1)] → W p l e (xR 4 91) s m args below meth c H locs 0 0 Q (F0 m 34 ls [.int j5]) := by
          intro H locs hP hD hS ls hl
          refine lv_istore (lv' := [(4, .int j5), (0, .ref (a0 0)), (1, .int p1), (2, .int v_l2_L1), (3, .int v_l3_L1)]) hx hb dX1_leastBadColour_34 hl (by decide) rfl (fun ls hl => ?_)
          refine lv_iload hx hb dX1_leastBadColour_36 (lv_at hl 0 rfl) ?_
          refine lv_if_eq (tgt := 70) hx hb dX1_leastBadColour_38 (by decide) (fun c7 => ?_) (fun c7 => ?_)
          · have hf := if_t hf c7
            refine lv_iinc (v := (v_l3_L1 + 1)) (lv' := [(3, .int (v_l3_L1 + 1)), (4, .int j5), (0, .ref (a0 0)), (1, .int p1), (2, .int v_l2_L1)]) hx hb dX1_leastBadColour_70 hl (k := 4) rfl (congrArg (fun z => v_l3_L1 + z) (by decide)) (by decide) rfl (fun ls hl => ?_)
            refine lv_goto (tgt := 5) hx hb dX1_leastBadColour_73 (by decide) ?_
            exact ih v_l2_L1 (v_l3_L1 + 1) _ hf _ _ hP hD hS _ (lv_sub hl [2, 3, 4, 0] rfl) kx
          · have hf := if_f hf c7
            refine lv_aload_n hx hb dX1_leastBadColour_41 rfl (lv_at hl 1 rfl) ?_
            refine lv_iload_n hx hb dX1_leastBadColour_42 rfl (lv_at hl 2 rfl) ?_
            refine lv_aload_n hx hb dX1_leastBadColour_43 rfl (lv_at hl 1 rfl) ?_
            refine va_get (D := D) (ci := 1) (v := .ref (a0 2)) (C := RX1) (T := TX1) (N := 4) hx hb hts inw_X1_leastBadColour_1 hown hK hP 0 rfl rfl 2 (by decide) (hts (.fieldLink RX1 15 "RingGames$Game" "colours" "[I") (List.mem_of_getElem? (i := 2) rfl)) (fun _ h9 => h9) rfl dX1_leastBadColour_44 ?_
            refine lv_iload_n hx hb dX1_leastBadColour_47 rfl (lv_at hl 4 rfl) ?_
            obtain ⟨g8, hf⟩ := vg_some hf
            refine va_iald hx hb hK hP 2 0 rfl rfl g8 dX1_leastBadColour_48 ?_
            obtain ⟨q9, hq9, hf⟩ := ob_some hf
            refine xcVi (w' := ((w_G a0 cI o0) ++ R)) S hK hN hA hP hD hS (c_X1_isBadColour l D cI cC cS R a0 o0 p1 (o0.2.2.1 (v_l3_L1).toNatClampNeg) _ hq9) gX1_leastBadColour_X1_isBadColour rfl hd_X1_isBadColour ⟨by decide, by decide⟩ (List.Perm.refl _) (List.Perm.refl _) (ci := 1) (q := (RX1, TX1, 4)) rfl rfl rfl rfl hl.1 rfl (Nat.le_of_ble_eq_true rfl) dX1_leastBadColour_49 ⟨Nat.zero_le _, Nat.zero_le _⟩ (fun H locs hP hD hS => ?_)
            refine lv_if_eq (tgt := 70) hx hb dX1_leastBadColour_52 (by decide) (fun c10 => ?_) (fun c10 => ?_)
            · have hf := if_t hf c10
              refine lv_iinc (v := (v_l3_L1 + 1)) (lv' := [(3, .int (v_l3_L1 + 1)), (4, .int j5), (0, .ref (a0 0)), (1, .int p1), (2, .int v_l2_L1)]) hx hb dX1_leastBadColour_70 hl (k := 4) rfl (congrArg (fun z => v_l3_L1 + z) (by decide)) (by decide) rfl (fun ls hl => ?_)
              refine lv_goto (tgt := 5) hx hb dX1_leastBadColour_73 (by decide) ?_
              exact ih v_l2_L1 (v_l3_L1 + 1) _ hf _ _ hP hD hS _ (lv_sub hl [2, 3, 4, 0] rfl) kx
            · have hf := if_f hf c10
              refine lv_aload_n hx hb dX1_leastBadColour_55 rfl (lv_at hl 1 rfl) ?_
              refine lv_iload_n hx hb dX1_leastBadColour_56 rfl (lv_at hl 4 rfl) ?_
              obtain ⟨q11, hq11, hf⟩ := ob_some hf
              refine xcVi (w' := ((w_G a0 cI o0) ++ R)) S hK hN hA hP hD hS (c_X1_ringPlaces l D cI cC cS R a0 o0 v_l3_L1 n _ hq11) gX1_leastBadColour_X1_ringPlaces rfl hd_X1_ringPlaces ⟨by decide, by decide⟩ (List.Perm.refl _) (List.Perm.refl _) (ci := 1) (q := (RX1, TX1, 4)) rfl rfl rfl rfl hl.1 rfl (Nat.le_of_ble_eq_true rfl) dX1_leastBadColour_57 ⟨Nat.zero_le _, Nat.zero_le _⟩ (fun H locs hP hD hS => ?_)
              refine lv_if_eq (tgt := 70) hx hb dX1_leastBadColour_60 (by decide) (fun c12 => ?_) (fun c12 => ?_)
              · have hf := if_t hf c12
                refine lv_iinc (v := (v_l3_L1 + 1)) (lv' := [(3, .int (v_l3_L1 + 1)), (4, .int j5), (0, .ref (a0 0)), (1, .int p1), (2, .int v_l2_L1)]) hx hb dX1_leastBadColour_70 hl (k := 4) rfl (congrArg (fun z => v_l3_L1 + z) (by decide)) (by decide) rfl (fun ls hl => ?_)
                refine lv_goto (tgt := 5) hx hb dX1_leastBadColour_73 (by decide) ?_
                exact ih v_l2_L1 (v_l3_L1 + 1) _ hf _ _ hP hD hS _ (lv_sub hl [2, 3, 4, 0] rfl) kx
              · have hf := if_f hf c12
                refine lv_aload_n hx hb dX1_leastBadColour_63 rfl (lv_at hl 1 rfl) ?_
                refine va_get (D := D) (ci := 1) (v := .ref (a0 2)) (C := RX1) (T := TX1) (N := 4) hx hb hts inw_X1_leastBadColour_1 hown hK hP 0 rfl rfl 2 (by decide) (hts (.fieldLink RX1 15 "RingGames$Game" "colours" "[I") (List.mem_of_getElem? (i := 2) rfl)) (fun _ h9 => h9) rfl dX1_leastBadColour_64 ?_
                refine lv_iload_n hx hb dX1_leastBadColour_67 rfl (lv_at hl 4 rfl) ?_
                refine va_iald hx hb hK hP 2 0 rfl rfl g8 dX1_leastBadColour_68 ?_
                refine lv_istore_n (lv' := [(2, .int (o0.2.2.1 (v_l3_L1).toNatClampNeg)), (4, .int j5), (0, .ref (a0 0)), (1, .int p1), (3, .int v_l3_L1)]) hx hb dX1_leastBadColour_69 rfl hl (by decide) rfl (fun ls hl => ?_)
                refine lv_iinc (v := (v_l3_L1 + 1)) (lv' := [(3, .int (v_l3_L1 + 1)), (2, .int (o0.2.2.1 (v_l3_L1).toNatClampNeg)), (4, .int j5), (0, .ref (a0 0)), (1, .int p1)]) hx hb dX1_leastBadColour_70 hl (k := 4) rfl (congrArg (fun z => v_l3_L1 + z) (by decide)) (by decide) rfl (fun ls hl => ?_)
                refine lv_goto (tgt := 5) hx hb dX1_leastBadColour_73 (by decide) ?_
                exact ih (o0.2.2.1 (v_l3_L1).toNatClampNeg) (v_l3_L1 + 1) _ hf _ _ hP hD hS _ (lv_sub hl [3, 4, 1, 0] rfl) kx
        clear hf
        have hf := hj5
        refine lv_icmp_eq (tgt := 29) hx hb dX1_leastBadColour_16 (by decide) (fun c4 => ?_) (fun c4 => ?_)
        · have hf := if_t hf c4
          refine lv_iconst (v := 1) hx hb dX1_leastBadColour_29 (by decide) ?_
          refine lv_goto (tgt := 34) hx hb dX1_leastBadColour_30 (by decide) ?_
          have hf := Option.some.inj hf
          subst hf
          exact J6 _ _ hP hD hS _ (lv_sub hl [0, 1, 2, 3] rfl)
        · have hf := if_f hf c4
          refine lv_aload_n hx hb dX1_leastBadColour_19 rfl (lv_at hl 0 rfl) ?_
          refine va_get (D := D) (ci := 1) (v := .ref (a0 2)) (C := RX1) (T := TX1) (N := 4) hx hb hts inw_X1_leastBadColour_1 hown hK hP 0 rfl rfl 2 (by decide) (hts (.fieldLink RX1 15 "RingGames$Game" "colours" "[I") (List.mem_of_getElem? (i := 2) rfl)) (fun _ h9 => h9) rfl dX1_leastBadColour_20 ?_
          refine lv_iload_n hx hb dX1_leastBadColour_23 rfl (lv_at hl 3 rfl) ?_
          obtain ⟨g13, hf⟩ := vg_some hf
          refine va_iald hx hb hK hP 2 0 rfl rfl g13 dX1_leastBadColour_24 ?_
          refine lv_iload_n hx hb dX1_leastBadColour_25 rfl (lv_at hl 2 rfl) ?_
          refine lv_icmp_ge (tgt := 33) hx hb dX1_leastBadColour_26 (by decide) (fun c14 => ?_) (fun c14 => ?_)
          · have hf := if_t hf c14
            refine lv_iconst (v := 0) hx hb dX1_leastBadColour_33 (by decide) ?_
            have hf := Option.some.inj hf
            subst hf
            exact J6 _ _ hP hD hS _ (lv_sub hl [0, 1, 2, 3] rfl)
          · have hf := if_f hf c14
            refine lv_iconst (v := 1) hx hb dX1_leastBadColour_29 (by decide) ?_
            refine lv_goto (tgt := 34) hx hb dX1_leastBadColour_30 (by decide) ?_
            have hf := Option.some.inj hf
            subst hf
            exact J6 _ _ hP hD hS _ (lv_sub hl [0, 1, 2, 3] rfl)
  refine L1 n (-5) 0 q2 hq2 _ _ hP hD hS _ (lv_sub hl [2, 3, 1, 0] rfl) ?_
  clear hP hD hS hl
  intro H locs hP hD hS ls hl
  refine lv_iload_n hx hb dX1_leastBadColour_76 rfl (lv_at hl 0 rfl) ?_
  have hf := Option.some.inj hf
  subst hf
  exact hret _ _ _ _ _ dX1_leastBadColour_77 rfl hP hD hS rfl
def f_X1_shortestRing_L14 (n : Nat) (d_o0 : GG) (d_l1 : Int32) (d_l2 : Int32) : Nat → Int32 → Int32 → Option Int32
  | 0, _, _ => none
  | k + 1, d_l3, d_l4 => (if d_o0.1 < d_l4 then some ((-5)) else (f_X1_targets n d_o0 d_l3).bind fun q4 => (f_X6_contains (q4 &&& d_l2) d_l1).bind fun q5 => (if q5 = 0 then f_X1_shortestRing_L14 n d_o0 d_l1 d_l2 k (q4 &&& d_l2) (d_l4 + 1) else some (d_l4)))
def f_X1_shortestRing (n : Nat) (o0 : GG) (p1 : Int32) : Option Int32 := (f_X1_notLess n o0 p1).bind fun q1 => (f_X6_bit p1).bind fun q2 => f_X1_shortestRing_L14 n o0 p1 q1 n q2 1
theorem inw_X1_shortestRing_1 : ∀ w ∈ wsX10, w ∈ wsX1_shortestRing := fun _ h => List.mem_cons_of_mem _ (List.mem_append_right _ h)
theorem hd_X1_shortestRing : yX1_shortestRing.cls = RX1 ∧ yX1_shortestRing.cls ≠ "java/lang/invoke/MethodHandle" ∧ yX1_shortestRing.cls ≠ "java/lang/invoke/VarHandle" ∧ (parseMethodDescriptor yX1_shortestRing.desc).map (fun d => d.parameters.length) = some 1 := by decide +kernel
set_option maxHeartbeats 4000000 in
set_option maxRecDepth 100000 in
theorem c_X1_shortestRing (l : Launch) (D : va_G) (cI cC cS : ClassId) (R : va_W) (a0 : Nat → Nat) (o0 : GG) (p1 : Int32) (n : Nat) (r : Int32) (hf : f_X1_shortestRing n o0 p1 = some r) : CI l yX1_shortestRing wsX1_shortestRing 2 44 D cI cC cS [.ref (a0 0), .int p1] ((w_G a0 cI o0) ++ R) r ((w_G a0 cI o0) ++ R) := by
  refine XI.of (cc := cX1_shortestRing) (maxL := 5) (ty := .int) (own := RX1) (by decide) rfl rfl (Nat.le_of_ble_eq_true rfl) ?_
  intro p e s m args below meth c A Q S hK hN hA hP hD hS ls hl hret
  obtain ⟨hx, hb, hml, hown, hts⟩ := id S
  have hl : lv_has ls 5 [(0, .ref (a0 0)), (1, .int p1)] := hl
  unfold f_X1_shortestRing at hf
  refine lv_aload_n hx hb dX1_shortestRing_0 rfl (lv_at hl 0 rfl) ?_
  refine lv_iload_n hx hb dX1_shortestRing_1 rfl (lv_at hl 1 rfl) ?_
  obtain ⟨q1, hq1, hf⟩ := ob_some hf
  refine xcVi (w' := ((w_G a0 cI o0) ++ R)) S hK hN hA hP hD hS (c_X1_notLess l D cI cC cS R a0 o0 p1 n _ hq1) gX1_shortestRing_X1_notLess rfl hd_X1_notLess ⟨by decide, by decide⟩ (List.Perm.refl _) (List.Perm.refl _) (ci := 1) (q := (RX1, TX1, 4)) rfl rfl rfl rfl hl.1 rfl (Nat.le_of_ble_eq_true rfl) dX1_shortestRing_2 ⟨Nat.zero_le _, Nat.zero_le _⟩ (fun H locs hP hD hS => ?_)
  refine lv_istore_n (lv' := [(2, .int q1), (0, .ref (a0 0)), (1, .int p1)]) hx hb dX1_shortestRing_5 rfl hl (by decide) rfl (fun ls hl => ?_)
  refine lv_iload_n hx hb dX1_shortestRing_6 rfl (lv_at hl 2 rfl) ?_
  obtain ⟨q2, hq2, hf⟩ := ob_some hf
  refine xcNi S hK hN hA hP hD hS (c_X6_bit l D cI cC cS ((w_G a0 cI o0) ++ R) p1 _ hq2) 6 rfl gX1_shortestRing_X6_bit_n31 (List.mem_of_getElem? (i := 8) rfl) (List.mem_of_getElem? (i := 9) rfl) rfl hd_X6_bit ⟨by decide, by decide⟩ rfl hl.1 rfl (Nat.le_of_ble_eq_true rfl) dX1_shortestRing_7 ⟨Nat.zero_le _, Nat.zero_le _⟩ (fun H locs hP hD hS => ?_)
  refine lv_istore_n (lv' := [(3, .int q2), (2, .int q1), (0, .ref (a0 0)), (1, .int p1)]) hx hb dX1_shortestRing_10 rfl hl (by decide) rfl (fun ls hl => ?_)
  refine lv_iconst (v := 1) hx hb dX1_shortestRing_11 (by decide) ?_
  refine lv_istore (lv' := [(4, .int 1), (3, .int q2), (2, .int q1), (0, .ref (a0 0)), (1, .int p1)]) hx hb dX1_shortestRing_12 hl (by decide) rfl (fun ls hl => ?_)
  have L3 : ∀ (k : Nat) (v_l3_L3 : Int32) (v_l4_L3 : Int32), f_X1_shortestRing_L14 n o0 p1 q1 k v_l3_L3 v_l4_L3 = some r → ∀ (H : Heap) (locs : List Loc), va_P D vwCl ((w_G a0 cI o0) ++ R) H → va_D A ((w_G a0 cI o0) ++ R) → va_S A s.heap H locs → ∀ ls : Array Slot, lv_has ls 5 [(0, .ref (a0 0)), (1, .int p1), (2, .int q1), (3, .int v_l3_L3), (4, .int v_l4_L3)] → W p l e (xR 2 44) s m args below meth c H locs 0 0 Q (F0 m 14 ls []) := by
    intro k
    induction k with
    | zero => intro v_l3_L3 v_l4_L3 hf; simp [f_X1_shortestRing_L14] at hf
    | succ k ih =>
      intro v_l3_L3 v_l4_L3 hf H locs hP hD hS ls hl
      rw [f_X1_shortestRing_L14] at hf
      refine lv_iload hx hb dX1_shortestRing_14 (lv_at hl 4 rfl) ?_
      refine lv_aload_n hx hb dX1_shortestRing_16 rfl (lv_at hl 0 rfl) ?_
      refine va_get (D := D) (ci := 1) (v := .int o0.1) (C := RX1) (T := TX1) (N := 4) hx hb hts inw_X1_shortestRing_1 hown hK hP 0 rfl rfl 0 (by decide) (hts (.fieldLink RX1 21 "RingGames$Game" "size" "I") (List.mem_of_getElem? (i := 1) rfl)) (fun _ h9 => h9) rfl dX1_shortestRing_17 ?_
      refine lv_icmp_gt (tgt := 48) hx hb dX1_shortestRing_20 (by decide) (fun c5 => ?_) (fun c5 => ?_)
      · have hf := if_t hf c5
        refine lv_bipush (v := (-5)) hx hb dX1_shortestRing_48 (by decide) ?_
        have hf := Option.some.inj hf
        subst hf
        exact hret _ _ _ _ _ dX1_shortestRing_50 rfl hP hD hS rfl
      · have hf := if_f hf c5
        refine lv_aload_n hx hb dX1_shortestRing_23 rfl (lv_at hl 0 rfl) ?_
        refine lv_iload_n hx hb dX1_shortestRing_24 rfl (lv_at hl 3 rfl) ?_
        obtain ⟨q6, hq6, hf⟩ := ob_some hf
        refine xcVi (w' := ((w_G a0 cI o0) ++ R)) S hK hN hA hP hD hS (c_X1_targets l D cI cC cS R a0 o0 v_l3_L3 n _ hq6) gX1_shortestRing_X1_targets rfl hd_X1_targets ⟨by decide, by decide⟩ (List.Perm.refl _) (List.Perm.refl _) (ci := 1) (q := (RX1, TX1, 4)) rfl rfl rfl rfl hl.1 rfl (Nat.le_of_ble_eq_true rfl) dX1_shortestRing_25 ⟨Nat.zero_le _, Nat.zero_le _⟩ (fun H locs hP hD hS => ?_)
        refine lv_iload_n hx hb dX1_shortestRing_28 rfl (lv_at hl 2 rfl) ?_
        refine lv_iand hx hb dX1_shortestRing_29 ?_
        refine lv_istore_n (lv' := [(3, .int (q6 &&& q1)), (0, .ref (a0 0)), (1, .int p1), (2, .int q1), (4, .int v_l4_L3)]) hx hb dX1_shortestRing_30 rfl hl (by decide) rfl (fun ls hl => ?_)
        refine lv_iload_n hx hb dX1_shortestRing_31 rfl (lv_at hl 0 rfl) ?_
        refine lv_iload_n hx hb dX1_shortestRing_32 rfl (lv_at hl 2 rfl) ?_
        obtain ⟨q7, hq7, hf⟩ := ob_some hf
        refine xcNi S hK hN hA hP hD hS (c_X6_contains l D cI cC cS ((w_G a0 cI o0) ++ R) (q6 &&& q1) p1 _ hq7) 7 rfl gX1_shortestRing_X6_contains_n43 (List.mem_of_getElem? (i := 16) rfl) (List.mem_of_getElem? (i := 9) rfl) rfl hd_X6_contains ⟨by decide, by decide⟩ rfl hl.1 rfl (Nat.le_of_ble_eq_true rfl) dX1_shortestRing_33 ⟨Nat.zero_le _, Nat.zero_le _⟩ (fun H locs hP hD hS => ?_)
        refine lv_if_eq (tgt := 42) hx hb dX1_shortestRing_36 (by decide) (fun c8 => ?_) (fun c8 => ?_)
        · have hf := if_t hf c8
          refine lv_iinc (v := (v_l4_L3 + 1)) (lv' := [(4, .int (v_l4_L3 + 1)), (3, .int (q6 &&& q1)), (0, .ref (a0 0)), (1, .int p1), (2, .int q1)]) hx hb dX1_shortestRing_42 hl (k := 4) rfl (congrArg (fun z => v_l4_L3 + z) (by decide)) (by decide) rfl (fun ls hl => ?_)
          refine lv_goto (tgt := 14) hx hb dX1_shortestRing_45 (by decide) ?_
          exact ih (q6 &&& q1) (v_l4_L3 + 1) hf _ _ hP hD hS _ (lv_sub hl [2, 3, 4, 1, 0] rfl)
        · have hf := if_f hf c8
          refine lv_iload hx hb dX1_shortestRing_39 (lv_at hl 4 rfl) ?_
          have hf := Option.some.inj hf
          subst hf
          exact hret _ _ _ _ _ dX1_shortestRing_41 rfl hP hD hS rfl
  exact L3 n q2 1 hf _ _ hP hD hS _ (lv_sub hl [3, 4, 2, 1, 0] rfl)
def f_X1_shortestBadRing_L5 (n : Nat) (d_o0 : GG) (d_l1 : Int32) : Nat → Int32 → Int32 → Option Int32
  | 0, _, _ => none
  | k + 1, d_l2, d_l3 => (if d_o0.1 ≤ d_l3 then some (d_l2) else vg d_l3 14 ((f_X1_isBadColour d_l1 (d_o0.2.2.1 (d_l3).toNatClampNeg)).bind fun q3 => (if q3 = 0 then f_X1_shortestBadRing_L5 n d_o0 d_l1 k d_l2 (d_l3 + 1) else (f_X1_shortestRing n d_o0 d_l3).bind fun q5 => (if q5 = (-5) then f_X1_shortestBadRing_L5 n d_o0 d_l1 k d_l2 (d_l3 + 1) else (if d_l2 = (-5) then f_X1_shortestBadRing_L5 n d_o0 d_l1 k q5 (d_l3 + 1) else (if d_l2 ≤ q5 then f_X1_shortestBadRing_L5 n d_o0 d_l1 k d_l2 (d_l3 + 1) else f_X1_shortestBadRing_L5 n d_o0 d_l1 k q5 (d_l3 + 1)))))))
def f_X1_shortestBadRing (n : Nat) (o0 : GG) (p1 : Int32) : Option Int32 := (f_X1_shortestBadRing_L5 n o0 p1 n (-5) 0).bind fun q2 => some (q2)
theorem inw_X1_shortestBadRing_1 : ∀ w ∈ wsX10, w ∈ wsX1_shortestBadRing := fun _ h => List.mem_cons_of_mem _ (List.mem_append_right _ h)
theorem hd_X1_shortestBadRing : yX1_shortestBadRing.cls = RX1 ∧ yX1_shortestBadRing.cls ≠ "java/lang/invoke/MethodHandle" ∧ yX1_shortestBadRing.cls ≠ "java/lang/invoke/VarHandle" ∧ (parseMethodDescriptor yX1_shortestBadRing.desc).map (fun d => d.parameters.length) = some 1 := by decide +kernel
set_option maxHeartbeats 4000000 in
set_option maxRecDepth 100000 in
theorem c_X1_shortestBadRing (l : Launch) (D : va_G) (cI cC cS : ClassId) (R : va_W) (a0 : Nat → Nat) (o0 : GG) (p1 : Int32) (n : Nat) (r : Int32) (hf : f_X1_shortestBadRing n o0 p1 = some r) : CI l yX1_shortestBadRing wsX1_shortestBadRing 3 68 D cI cC cS [.ref (a0 0), .int p1] ((w_G a0 cI o0) ++ R) r ((w_G a0 cI o0) ++ R) := by
  refine XI.of (cc := cX1_shortestBadRing) (maxL := 5) (ty := .int) (own := RX1) (by decide) rfl rfl (Nat.le_of_ble_eq_true rfl) ?_
  intro p e s m args below meth c A Q S hK hN hA hP hD hS ls hl hret
  obtain ⟨hx, hb, hml, hown, hts⟩ := id S
  have hl : lv_has ls 5 [(0, .ref (a0 0)), (1, .int p1)] := hl
  unfold f_X1_shortestBadRing at hf
  refine lv_bipush (v := (-5)) hx hb dX1_shortestBadRing_0 (by decide) ?_
  refine lv_istore_n (lv' := [(2, .int (-5)), (0, .ref (a0 0)), (1, .int p1)]) hx hb dX1_shortestBadRing_2 rfl hl (by decide) rfl (fun ls hl => ?_)
  refine lv_iconst (v := 0) hx hb dX1_shortestBadRing_3 (by decide) ?_
  refine lv_istore_n (lv' := [(3, .int 0), (2, .int (-5)), (0, .ref (a0 0)), (1, .int p1)]) hx hb dX1_shortestBadRing_4 rfl hl (by decide) rfl (fun ls hl => ?_)
  obtain ⟨q2, hq2, hf⟩ := ob_some hf
  have L1 : ∀ (k : Nat) (v_l2_L1 : Int32) (v_l3_L1 : Int32) (q_L1 : Int32), f_X1_shortestBadRing_L5 n o0 p1 k v_l2_L1 v_l3_L1 = some q_L1 → ∀ (H : Heap) (locs : List Loc), va_P D vwCl ((w_G a0 cI o0) ++ R) H → va_D A ((w_G a0 cI o0) ++ R) → va_S A s.heap H locs → ∀ ls : Array Slot, lv_has ls 5 [(0, .ref (a0 0)), (1, .int p1), (2, .int v_l2_L1), (3, .int v_l3_L1)] → (∀ (H : Heap) (locs : List Loc), va_P D vwCl ((w_G a0 cI o0) ++ R) H → va_D A ((w_G a0 cI o0) ++ R) → va_S A s.heap H locs → ∀ ls : Array Slot, lv_has ls 5 [(2, .int q_L1)] → W p l e (xR 3 68) s m args below meth c H locs 0 0 Q (F0 m 62 ls [])) → W p l e (xR 3 68) s m args below meth c H locs 0 0 Q (F0 m 5 ls []) := by
    intro k
    induction k with
    | zero => intro v_l2_L1 v_l3_L1 q_L1 hf; simp [f_X1_shortestBadRing_L5] at hf
    | succ k ih =>
      intro v_l2_L1 v_l3_L1 q_L1 hf H locs hP hD hS ls hl kx
      rw [f_X1_shortestBadRing_L5] at hf
      refine lv_iload_n hx hb dX1_shortestBadRing_5 rfl (lv_at hl 3 rfl) ?_
      refine lv_aload_n hx hb dX1_shortestBadRing_6 rfl (lv_at hl 0 rfl) ?_
      refine va_get (D := D) (ci := 1) (v := .int o0.1) (C := RX1) (T := TX1) (N := 4) hx hb hts inw_X1_shortestBadRing_1 hown hK hP 0 rfl rfl 0 (by decide) (hts (.fieldLink RX1 21 "RingGames$Game" "size" "I") (List.mem_of_getElem? (i := 1) rfl)) (fun _ h9 => h9) rfl dX1_shortestBadRing_7 ?_
      refine lv_icmp_ge (tgt := 62) hx hb dX1_shortestBadRing_10 (by decide) (fun c3 => ?_) (fun c3 => ?_)
      · have hf := if_t hf c3
        have hf := Option.some.inj hf
        subst hf
        exact kx _ _ hP hD hS _ (lv_sub hl [2] rfl)
      · have hf := if_f hf c3
        refine lv_aload_n hx hb dX1_shortestBadRing_13 rfl (lv_at hl 0 rfl) ?_
        refine lv_iload_n hx hb dX1_shortestBadRing_14 rfl (lv_at hl 1 rfl) ?_
        refine lv_aload_n hx hb dX1_shortestBadRing_15 rfl (lv_at hl 0 rfl) ?_
        refine va_get (D := D) (ci := 1) (v := .ref (a0 2)) (C := RX1) (T := TX1) (N := 4) hx hb hts inw_X1_shortestBadRing_1 hown hK hP 0 rfl rfl 2 (by decide) (hts (.fieldLink RX1 15 "RingGames$Game" "colours" "[I") (List.mem_of_getElem? (i := 2) rfl)) (fun _ h9 => h9) rfl dX1_shortestBadRing_16 ?_
        refine lv_iload_n hx hb dX1_shortestBadRing_19 rfl (lv_at hl 3 rfl) ?_
        obtain ⟨g4, hf⟩ := vg_some hf
        refine va_iald hx hb hK hP 2 0 rfl rfl g4 dX1_shortestBadRing_20 ?_
        obtain ⟨q5, hq5, hf⟩ := ob_some hf
        refine xcVi (w' := ((w_G a0 cI o0) ++ R)) S hK hN hA hP hD hS (c_X1_isBadColour l D cI cC cS R a0 o0 p1 (o0.2.2.1 (v_l3_L1).toNatClampNeg) _ hq5) gX1_shortestBadRing_X1_isBadColour rfl hd_X1_isBadColour ⟨by decide, by decide⟩ (List.Perm.refl _) (List.Perm.refl _) (ci := 1) (q := (RX1, TX1, 4)) rfl rfl rfl rfl hl.1 rfl (Nat.le_of_ble_eq_true rfl) dX1_shortestBadRing_21 ⟨Nat.zero_le _, Nat.zero_le _⟩ (fun H locs hP hD hS => ?_)
        refine lv_if_eq (tgt := 56) hx hb dX1_shortestBadRing_24 (by decide) (fun c6 => ?_) (fun c6 => ?_)
        · have hf := if_t hf c6
          refine lv_iinc (v := (v_l3_L1 + 1)) (lv' := [(3, .int (v_l3_L1 + 1)), (0, .ref (a0 0)), (1, .int p1), (2, .int v_l2_L1)]) hx hb dX1_shortestBadRing_56 hl (k := 3) rfl (congrArg (fun z => v_l3_L1 + z) (by decide)) (by decide) rfl (fun ls hl => ?_)
          refine lv_goto (tgt := 5) hx hb dX1_shortestBadRing_59 (by decide) ?_
          exact ih v_l2_L1 (v_l3_L1 + 1) _ hf _ _ hP hD hS _ (lv_sub hl [1, 2, 3, 0] rfl) kx
        · have hf := if_f hf c6
          refine lv_aload_n hx hb dX1_shortestBadRing_27 rfl (lv_at hl 0 rfl) ?_
          refine lv_iload_n hx hb dX1_shortestBadRing_28 rfl (lv_at hl 3 rfl) ?_
          obtain ⟨q7, hq7, hf⟩ := ob_some hf
          refine xcVi (w' := ((w_G a0 cI o0) ++ R)) S hK hN hA hP hD hS (c_X1_shortestRing l D cI cC cS R a0 o0 v_l3_L1 n _ hq7) gX1_shortestBadRing_X1_shortestRing rfl hd_X1_shortestRing ⟨by decide, by decide⟩ (List.Perm.refl _) (List.Perm.refl _) (ci := 1) (q := (RX1, TX1, 4)) rfl rfl rfl rfl hl.1 rfl (Nat.le_of_ble_eq_true rfl) dX1_shortestBadRing_29 ⟨Nat.zero_le _, Nat.zero_le _⟩ (fun H locs hP hD hS => ?_)
          refine lv_istore (lv' := [(4, .int q7), (0, .ref (a0 0)), (1, .int p1), (2, .int v_l2_L1), (3, .int v_l3_L1)]) hx hb dX1_shortestBadRing_32 hl (by decide) rfl (fun ls hl => ?_)
          refine lv_iload hx hb dX1_shortestBadRing_34 (lv_at hl 0 rfl) ?_
          refine lv_bipush (v := (-5)) hx hb dX1_shortestBadRing_36 (by decide) ?_
          refine lv_icmp_eq (tgt := 56) hx hb dX1_shortestBadRing_38 (by decide) (fun c8 => ?_) (fun c8 => ?_)
          · have hf := if_t hf c8
            refine lv_iinc (v := (v_l3_L1 + 1)) (lv' := [(3, .int (v_l3_L1 + 1)), (4, .int q7), (0, .ref (a0 0)), (1, .int p1), (2, .int v_l2_L1)]) hx hb dX1_shortestBadRing_56 hl (k := 4) rfl (congrArg (fun z => v_l3_L1 + z) (by decide)) (by decide) rfl (fun ls hl => ?_)
            refine lv_goto (tgt := 5) hx hb dX1_shortestBadRing_59 (by decide) ?_
            exact ih v_l2_L1 (v_l3_L1 + 1) _ hf _ _ hP hD hS _ (lv_sub hl [2, 3, 4, 0] rfl) kx
          · have hf := if_f hf c8
            refine lv_iload_n hx hb dX1_shortestBadRing_41 rfl (lv_at hl 3 rfl) ?_
            refine lv_bipush (v := (-5)) hx hb dX1_shortestBadRing_42 (by decide) ?_
            refine lv_icmp_eq (tgt := 53) hx hb dX1_shortestBadRing_44 (by decide) (fun c9 => ?_) (fun c9 => ?_)
            · have hf := if_t hf c9
              refine lv_iload hx hb dX1_shortestBadRing_53 (lv_at hl 0 rfl) ?_
              refine lv_istore_n (lv' := [(2, .int q7), (4, .int q7), (0, .ref (a0 0)), (1, .int p1), (3, .int v_l3_L1)]) hx hb dX1_shortestBadRing_55 rfl hl (by decide) rfl (fun ls hl => ?_)
              refine lv_iinc (v := (v_l3_L1 + 1)) (lv' := [(3, .int (v_l3_L1 + 1)), (2, .int q7), (4, .int q7), (0, .ref (a0 0)), (1, .int p1)]) hx hb dX1_shortestBadRing_56 hl (k := 4) rfl (congrArg (fun z => v_l3_L1 + z) (by decide)) (by decide) rfl (fun ls hl => ?_)
              refine lv_goto (tgt := 5) hx hb dX1_shortestBadRing_59 (by decide) ?_
              exact ih q7 (v_l3_L1 + 1) _ hf _ _ hP hD hS _ (lv_sub hl [3, 4, 1, 0] rfl) kx
            · have hf := if_f hf c9
              refine lv_iload hx hb dX1_shortestBadRing_47 (lv_at hl 0 rfl) ?_
              refine lv_iload_n hx hb dX1_shortestBadRing_49 rfl (lv_at hl 3 rfl) ?_
              refine lv_icmp_ge (tgt := 56) hx hb dX1_shortestBadRing_50 (by decide) (fun c10 => ?_) (fun c10 => ?_)
              · have hf := if_t hf c10
                refine lv_iinc (v := (v_l3_L1 + 1)) (lv' := [(3, .int (v_l3_L1 + 1)), (4, .int q7), (0, .ref (a0 0)), (1, .int p1), (2, .int v_l2_L1)]) hx hb dX1_shortestBadRing_56 hl (k := 4) rfl (congrArg (fun z => v_l3_L1 + z) (by decide)) (by decide) rfl (fun ls hl => ?_)
                refine lv_goto (tgt := 5) hx hb dX1_shortestBadRing_59 (by decide) ?_
                exact ih v_l2_L1 (v_l3_L1 + 1) _ hf _ _ hP hD hS _ (lv_sub hl [2, 3, 4, 0] rfl) kx
              · have hf := if_f hf c10
                refine lv_iload hx hb dX1_shortestBadRing_53 (lv_at hl 0 rfl) ?_
                refine lv_istore_n (lv' := [(2, .int q7), (4, .int q7), (0, .ref (a0 0)), (1, .int p1), (3, .int v_l3_L1)]) hx hb dX1_shortestBadRing_55 rfl hl (by decide) rfl (fun ls hl => ?_)
                refine lv_iinc (v := (v_l3_L1 + 1)) (lv' := [(3, .int (v_l3_L1 + 1)), (2, .int q7), (4, .int q7), (0, .ref (a0 0)), (1, .int p1)]) hx hb dX1_shortestBadRing_56 hl (k := 4) rfl (congrArg (fun z => v_l3_L1 + z) (by decide)) (by decide) rfl (fun ls hl => ?_)
                refine lv_goto (tgt := 5) hx hb dX1_shortestBadRing_59 (by decide) ?_
                exact ih q7 (v_l3_L1 + 1) _ hf _ _ hP hD hS _ (lv_sub hl [3, 4, 1, 0] rfl) kx
  refine L1 n (-5) 0 q2 hq2 _ _ hP hD hS _ (lv_sub hl [2, 3, 1, 0] rfl) ?_
  clear hP hD hS hl
  intro H locs hP hD hS ls hl
  refine lv_iload_n hx hb dX1_shortestBadRing_62 rfl (lv_at hl 0 rfl) ?_
  have hf := Option.some.inj hf
  subst hf
  exact hret _ _ _ _ _ dX1_shortestBadRing_63 rfl hP hD hS rfl
