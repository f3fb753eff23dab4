def f_X7_in (p0 : Int32) (p1 : Int32) (p2 : Int32) : Option Int32 := (if p0 < p1 then some (0) else (if p2 < p0 then some (0) else some (1)))
theorem hd_X7_in : yX7_in.cls ≠ "java/lang/invoke/MethodHandle" ∧ yX7_in.cls ≠ "java/lang/invoke/VarHandle" ∧ (parseMethodDescriptor yX7_in.desc).map (fun d => d.parameters.length) = some 3 := by decide +kernel
set_option maxHeartbeats 4000000 in
set_option maxRecDepth 100000 in
theorem c_X7_in (l : Launch) (D : va_G) (cI cC cS : ClassId) (R : va_W) (p0 : Int32) (p1 : Int32) (p2 : Int32) (r : Int32) (hf : f_X7_in p0 p1 p2 = some r) : CI l yX7_in wsX7_in 0 0 D cI cC cS [.int p0, .int p1, .int p2] R r R := by
  refine XI.of (cc := cX7_in) (maxL := 3) (ty := .boolean) (own := RX7) (by decide) rfl rfl (Nat.le_of_ble_eq_true rfl) ?_
  intro p e s m args below meth c A Q S hK hN hA hP hD hS ls hl hret
  obtain ⟨hx, hb, hml, hown, hts⟩ := id S
  have hl : lv_has ls 3 [(0, .int p0), (1, .int p1), (2, .int p2)] := hl
  unfold f_X7_in at hf
  refine lv_iload_n hx hb dX7_in_0 rfl (lv_at hl 0 rfl) ?_
  refine lv_iload_n hx hb dX7_in_1 rfl (lv_at hl 1 rfl) ?_
  refine lv_icmp_lt (tgt := 14) hx hb dX7_in_2 (by decide) (fun c1 => ?_) (fun c1 => ?_)
  · have hf := if_t hf c1
    refine lv_iconst (v := 0) hx hb dX7_in_14 (by decide) ?_
    have hf := Option.some.inj hf
    subst hf
    exact hret _ _ _ _ _ dX7_in_15 rfl hP hD hS rfl
  · have hf := if_f hf c1
    refine lv_iload_n hx hb dX7_in_5 rfl (lv_at hl 0 rfl) ?_
    refine lv_iload_n hx hb dX7_in_6 rfl (lv_at hl 2 rfl) ?_
    refine lv_icmp_gt (tgt := 14) hx hb dX7_in_7 (by decide) (fun c2 => ?_) (fun c2 => ?_)
    · have hf := if_t hf c2
      refine lv_iconst (v := 0) hx hb dX7_in_14 (by decide) ?_
      have hf := Option.some.inj hf
      subst hf
      exact hret _ _ _ _ _ dX7_in_15 rfl hP hD hS rfl
    · have hf := if_f hf c2
      refine lv_iconst (v := 1) hx hb dX7_in_10 (by decide) ?_
      refine lv_goto (tgt := 15) hx hb dX7_in_11 (by decide) ?_
      have hf := Option.some.inj hf
      subst hf
      exact hret _ _ _ _ _ dX7_in_15 rfl hP hD hS rfl
def f_X7_of (mnow : (Nat → Int32)) (p1 : Int32) (p2 : Int32) : Option Int32 := vg ((4 * p1) + p2) 59 (some ((mnow (((4 * p1) + p2)).toNatClampNeg)))
theorem inw_X7_of_7 : ∀ w ∈ wsX70, w ∈ wsX7_of := fun _ h => List.mem_cons_of_mem _ (List.mem_append_right _ h)
theorem hd_X7_of : yX7_of.cls = RX7 ∧ yX7_of.cls ≠ "java/lang/invoke/MethodHandle" ∧ yX7_of.cls ≠ "java/lang/invoke/VarHandle" ∧ (parseMethodDescriptor yX7_of.desc).map (fun d => d.parameters.length) = some 2 := by decide +kernel
set_option maxHeartbeats 4000000 in
set_option maxRecDepth 100000 in
theorem c_X7_of (l : Launch) (D : va_G) (cI cC cS : ClassId) (R : va_W) (a0 : Nat → Nat) (mnow : (Nat → Int32)) (mhistory : (Nat → Int32)) (mkept : Int32) (mslot : (Nat → Int32)) (misFilled : Int32) (mgame : Int32) (mmeasures : (Nat → Int32)) (mmost : (Nat → Int32)) (mnumbers : (Nat → Int32)) (mround : Int32) (mtyped : Int32) (mtext : (Nat → Int32)) (mat : Int32) (mnumber : Int32) (mreads : (Nat → Int32)) (mbeyond : Int32) (mjudgedTo : (Nat → Int32)) (mreach : (Nat → Int32)) (mgoes : (Nat → Int32)) (p1 : Int32) (p2 : Int32) (r : Int32) (hf : f_X7_of mnow p1 p2 = some r) : CI l yX7_of wsX7_of 0 0 D cI cC cS [.ref (a0 0), .int p1, .int p2] ((w_M a0 cI cC mnow mhistory mkept mslot misFilled mgame mmeasures mmost mnumbers mround mtyped mtext mat mnumber mreads mbeyond mjudgedTo mreach mgoes) ++ R) r ((w_M a0 cI cC mnow mhistory mkept mslot misFilled mgame mmeasures mmost mnumbers mround mtyped mtext mat mnumber mreads mbeyond mjudgedTo mreach mgoes) ++ R) := by
  refine XI.of (cc := cX7_of) (maxL := 3) (ty := .int) (own := RX7) (by decide) rfl rfl (Nat.le_of_ble_eq_true rfl) ?_
  intro p e s m args below meth c A Q S hK hN hA hP hD hS ls hl hret
  obtain ⟨hx, hb, hml, hown, hts⟩ := id S
  have hl : lv_has ls 3 [(0, .ref (a0 0)), (1, .int p1), (2, .int p2)] := hl
  unfold f_X7_of at hf
  refine lv_aload_n hx hb dX7_of_0 rfl (lv_at hl 0 rfl) ?_
  refine va_get (D := D) (ci := 7) (v := .ref (a0 1)) (C := RX7) (T := TX7) (N := 19) hx hb hts inw_X7_of_7 hown hK hP 0 rfl rfl 0 (by decide) (hts (.fieldLink RX7 7 "RingGamesModel" "now" "[I") (List.mem_of_getElem? (i := 1) rfl)) (fun _ h9 => h9) rfl dX7_of_1 ?_
  refine lv_iconst (v := 4) hx hb dX7_of_4 (by decide) ?_
  refine lv_iload_n hx hb dX7_of_5 rfl (lv_at hl 1 rfl) ?_
  refine lv_imul hx hb dX7_of_6 ?_
  refine lv_iload_n hx hb dX7_of_7 rfl (lv_at hl 2 rfl) ?_
  refine lv_iadd hx hb dX7_of_8 ?_
  obtain ⟨g1, hf⟩ := vg_some hf
  refine va_iald hx hb hK hP 1 0 rfl rfl g1 dX7_of_9 ?_
  have hf := Option.some.inj hf
  subst hf
  exact hret _ _ _ _ _ dX7_of_10 rfl hP hD hS rfl
def f_X7_puts (mnow : (Nat → Int32)) (p1 : Int32) (p2 : Int32) (p3 : Int32) : Option (Nat → Int32) := vg ((4 * p1) + p2) 59 (some ((upd mnow (((4 * p1) + p2)).toNatClampNeg p3)))
theorem inw_X7_puts_7 : ∀ w ∈ wsX70, w ∈ wsX7_puts := fun _ h => List.mem_cons_of_mem _ (List.mem_append_right _ h)
theorem hd_X7_puts : yX7_puts.cls = RX7 ∧ yX7_puts.cls ≠ "java/lang/invoke/MethodHandle" ∧ yX7_puts.cls ≠ "java/lang/invoke/VarHandle" ∧ (parseMethodDescriptor yX7_puts.desc).map (fun d => d.parameters.length) = some 3 := by decide +kernel
set_option maxHeartbeats 4000000 in
set_option maxRecDepth 100000 in
theorem c_X7_puts (l : Launch) (D : va_G) (cI cC cS : ClassId) (R : va_W) (a0 : Nat → Nat) (mnow : (Nat → Int32)) (mhistory : (Nat → Int32)) (mkept : Int32) (mslot : (Nat → Int32)) (misFilled : Int32) (mgame : Int32) (mmeasures : (Nat → Int32)) (mmost : (Nat → Int32)) (mnumbers : (Nat → Int32)) (mround : Int32) (mtyped : Int32) (mtext : (Nat → Int32)) (mat : Int32) (mnumber : Int32) (mreads : (Nat → Int32)) (mbeyond : Int32) (mjudgedTo : (Nat → Int32)) (mreach : (Nat → Int32)) (mgoes : (Nat → Int32)) (p1 : Int32) (p2 : Int32) (p3 : Int32) (r : (Nat → Int32)) (hf : f_X7_puts mnow p1 p2 p3 = some r) : CV l yX7_puts wsX7_puts 0 0 D cI cC cS [.ref (a0 0), .int p1, .int p2, .int p3] ((w_M a0 cI cC mnow mhistory mkept mslot misFilled mgame mmeasures mmost mnumbers mround mtyped mtext mat mnumber mreads mbeyond mjudgedTo mreach mgoes) ++ R) ((w_M a0 cI cC r mhistory mkept mslot misFilled mgame mmeasures mmost mnumbers mround mtyped mtext mat mnumber mreads mbeyond mjudgedTo mreach mgoes) ++ R) := by
  refine XV.of (cc := cX7_puts) (maxL := 4) (own := RX7) (by decide) rfl rfl (Nat.le_of_ble_eq_true rfl) ?_
  intro p e s m args below meth c A Q S hK hN hA hP hD hS ls hl hret
  obtain ⟨hx, hb, hml, hown, hts⟩ := id S
  have hl : lv_has ls 4 [(0, .ref (a0 0)), (1, .int p1), (2, .int p2), (3, .int p3)] := hl
  unfold f_X7_puts at hf
  refine lv_aload_n hx hb dX7_puts_0 rfl (lv_at hl 0 rfl) ?_
  refine va_get (D := D) (ci := 7) (v := .ref (a0 1)) (C := RX7) (T := TX7) (N := 19) hx hb hts inw_X7_puts_7 hown hK hP 0 rfl rfl 0 (by decide) (hts (.fieldLink RX7 7 "RingGamesModel" "now" "[I") (List.mem_of_getElem? (i := 1) rfl)) (fun _ h9 => h9) rfl dX7_puts_1 ?_
  refine lv_iconst (v := 4) hx hb dX7_puts_4 (by decide) ?_
  refine lv_iload_n hx hb dX7_puts_5 rfl (lv_at hl 1 rfl) ?_
  refine lv_imul hx hb dX7_puts_6 ?_
  refine lv_iload_n hx hb dX7_puts_7 rfl (lv_at hl 2 rfl) ?_
  refine lv_iadd hx hb dX7_puts_8 ?_
  refine lv_iload_n hx hb dX7_puts_9 rfl (lv_at hl 3 rfl) ?_
  obtain ⟨g1, hf⟩ := vg_some hf
  refine va_iast hx hb hK hP hD hS 1 0 rfl rfl g1 dX7_puts_10 (fun H locs hP hD hS => ?_)
  have hP : va_P D vwCl ((w_M a0 cI cC (upd mnow (((4 * p1) + p2)).toNatClampNeg p3) mhistory mkept mslot misFilled mgame mmeasures mmost mnumbers mround mtyped mtext mat mnumber mreads mbeyond mjudgedTo mreach mgoes) ++ R) H := hP
  have hD : va_D A ((w_M a0 cI cC (upd mnow (((4 * p1) + p2)).toNatClampNeg p3) mhistory mkept mslot misFilled mgame mmeasures mmost mnumbers mround mtyped mtext mat mnumber mreads mbeyond mjudgedTo mreach mgoes) ++ R) := hD
  have hf := Option.some.inj hf
  subst hf
  exact hret _ _ _ _ dX7_puts_11 hP hD hS
def f_X7_no (mnow : (Nat → Int32)) (p1 : Int32) : Option Int32 := (f_X7_in p1 0 ((mnow 56) - 1)).bind fun q1 => (if q1 = 0 then some (1) else some (0))
theorem inw_X7_no_7 : ∀ w ∈ wsX70, w ∈ wsX7_no := fun _ h => List.mem_cons_of_mem _ (List.mem_append_right _ h)
theorem hd_X7_no : yX7_no.cls = RX7 ∧ yX7_no.cls ≠ "java/lang/invoke/MethodHandle" ∧ yX7_no.cls ≠ "java/lang/invoke/VarHandle" ∧ (parseMethodDescriptor yX7_no.desc).map (fun d => d.parameters.length) = some 1 := by decide +kernel
set_option maxHeartbeats 4000000 in
set_option maxRecDepth 100000 in
theorem c_X7_no (l : Launch) (D : va_G) (cI cC cS : ClassId) (R : va_W) (a0 : Nat → Nat) (mnow : (Nat → Int32)) (mhistory : (Nat → Int32)) (mkept : Int32) (mslot : (Nat → Int32)) (misFilled : Int32) (mgame : Int32) (mmeasures : (Nat → Int32)) (mmost : (Nat → Int32)) (mnumbers : (Nat → Int32)) (mround : Int32) (mtyped : Int32) (mtext : (Nat → Int32)) (mat : Int32) (mnumber : Int32) (mreads : (Nat → Int32)) (mbeyond : Int32) (mjudgedTo : (Nat → Int32)) (mreach : (Nat → Int32)) (mgoes : (Nat → Int32)) (p1 : Int32) (r : Int32) (hf : f_X7_no mnow p1 = some r) : CI l yX7_no wsX7_no 1 22 D cI cC cS [.ref (a0 0), .int p1] ((w_M a0 cI cC mnow mhistory mkept mslot misFilled mgame mmeasures mmost mnumbers mround mtyped mtext mat mnumber mreads mbeyond mjudgedTo mreach mgoes) ++ R) r ((w_M a0 cI cC mnow mhistory mkept mslot misFilled mgame mmeasures mmost mnumbers mround mtyped mtext mat mnumber mreads mbeyond mjudgedTo mreach mgoes) ++ R) := by
  refine XI.of (cc := cX7_no) (maxL := 2) (ty := .boolean) (own := RX7) (by decide) rfl rfl (Nat.le_of_ble_eq_true rfl) ?_
  intro p e s m args below meth c A Q S hK hN hA hP hD hS ls hl hret
  obtain ⟨hx, hb, hml, hown, hts⟩ := id S
  have hl : lv_has ls 2 [(0, .ref (a0 0)), (1, .int p1)] := hl
  unfold f_X7_no at hf
  refine lv_iload_n hx hb dX7_no_0 rfl (lv_at hl 1 rfl) ?_
  refine lv_iconst (v := 0) hx hb dX7_no_1 (by decide) ?_
  refine lv_aload_n hx hb dX7_no_2 rfl (lv_at hl 0 rfl) ?_
  refine va_get (D := D) (ci := 7) (v := .ref (a0 1)) (C := RX7) (T := TX7) (N := 19) hx hb hts inw_X7_no_7 hown hK hP 0 rfl rfl 0 (by decide) (hts (.fieldLink RX7 7 "RingGamesModel" "now" "[I") (List.mem_of_getElem? (i := 1) rfl)) (fun _ h9 => h9) rfl dX7_no_3 ?_
  refine lv_bipush (v := 56) hx hb dX7_no_6 (by decide) ?_
  refine va_iald hx hb hK hP 1 0 rfl rfl (x_in (by decide)) dX7_no_8 ?_
  refine lv_iconst (v := 1) hx hb dX7_no_9 (by decide) ?_
  refine lv_isub hx hb dX7_no_10 ?_
  obtain ⟨q1, hq1, hf⟩ := ob_some hf
  refine xcSi S hK hN hA hP hD hS (c_X7_in l D cI cC cS ((w_M a0 cI cC mnow mhistory mkept mslot misFilled mgame mmeasures mmost mnumbers mround mtyped mtext mat mnumber mreads mbeyond mjudgedTo mreach mgoes) ++ R) p1 0 ((mnow 56) - 1) _ hq1) gX7_no_X7_in rfl hd_X7_in ⟨by decide, by decide⟩ rfl hl.1 rfl (Nat.le_of_ble_eq_true rfl) dX7_no_11 ⟨Nat.zero_le _, Nat.zero_le _⟩ (fun H locs hP hD hS => ?_)
  refine lv_if_ne (tgt := 21) hx hb dX7_no_14 (by decide) (fun c2 => ?_) (fun c2 => ?_)
  · have hf := if_f hf c2
    refine lv_iconst (v := 0) hx hb dX7_no_21 (by decide) ?_
    have hf := Option.some.inj hf
    subst hf
    exact hret _ _ _ _ _ dX7_no_22 rfl hP hD hS rfl
  · have hf := if_t hf c2
    refine lv_iconst (v := 1) hx hb dX7_no_17 (by decide) ?_
    refine lv_goto (tgt := 22) hx hb dX7_no_18 (by decide) ?_
    have hf := Option.some.inj hf
    subst hf
    exact hret _ _ _ _ _ dX7_no_22 rfl hP hD hS rfl
def f_X7_noPlayer (p0 : Int32) : Option Int32 := (f_X7_in p0 0 1).bind fun q1 => (if q1 = 0 then some (1) else some (0))
theorem hd_X7_noPlayer : yX7_noPlayer.cls ≠ "java/lang/invoke/MethodHandle" ∧ yX7_noPlayer.cls ≠ "java/lang/invoke/VarHandle" ∧ (parseMethodDescriptor yX7_noPlayer.desc).map (fun d => d.parameters.length) = some 1 := by decide +kernel
set_option maxHeartbeats 4000000 in
set_option maxRecDepth 100000 in
theorem c_X7_noPlayer (l : Launch) (D : va_G) (cI cC cS : ClassId) (R : va_W) (p0 : Int32) (r : Int32) (hf : f_X7_noPlayer p0 = some r) : CI l yX7_noPlayer wsX7_noPlayer 1 22 D cI cC cS [.int p0] R r R := by
  refine XI.of (cc := cX7_noPlayer) (maxL := 1) (ty := .boolean) (own := RX7) (by decide) rfl rfl (Nat.le_of_ble_eq_true rfl) ?_
  intro p e s m args below meth c A Q S hK hN hA hP hD hS ls hl hret
  obtain ⟨hx, hb, hml, hown, hts⟩ := id S
  have hl : lv_has ls 1 [(0, .int p0)] := hl
  unfold f_X7_noPlayer at hf
  refine lv_iload_n hx hb dX7_noPlayer_0 rfl (lv_at hl 0 rfl) ?_
  refine lv_iconst (v := 0) hx hb dX7_noPlayer_1 (by decide) ?_
  refine lv_iconst (v := 1) hx hb dX7_noPlayer_2 (by decide) ?_
  obtain ⟨q1, hq1, hf⟩ := ob_some hf
  refine xcSi S hK hN hA hP hD hS (c_X7_in l D cI cC cS R p0 0 1 _ hq1) gX7_noPlayer_X7_in rfl hd_X7_in ⟨by decide, by decide⟩ rfl hl.1 rfl (Nat.le_of_ble_eq_true rfl) dX7_noPlayer_3 ⟨Nat.zero_le _, Nat.zero_le _⟩ (fun H locs hP hD hS => ?_)
  refine lv_if_ne (tgt := 13) hx hb dX7_noPlayer_6 (by decide) (fun c2 => ?_) (fun c2 => ?_)
  · have hf := if_f hf c2
    refine lv_iconst (v := 0) hx hb dX7_noPlayer_13 (by decide) ?_
    have hf := Option.some.inj hf
    subst hf
    exact hret _ _ _ _ _ dX7_noPlayer_14 rfl hP hD hS rfl
  · have hf := if_t hf c2
    refine lv_iconst (v := 1) hx hb dX7_noPlayer_9 (by decide) ?_
    refine lv_goto (tgt := 14) hx hb dX7_noPlayer_10 (by decide) ?_
    have hf := Option.some.inj hf
    subst hf
    exact hret _ _ _ _ _ dX7_noPlayer_14 rfl hP hD hS rfl
def f_X7_hasArrow (mnow : (Nat → Int32)) (p1 : Int32) (p2 : Int32) : Option Int32 := (f_X7_of mnow p1 2).bind fun q1 => (if ((jshr q1 p2) &&& 1) = 1 then some (1) else some (0))
theorem hd_X7_hasArrow : yX7_hasArrow.cls = RX7 ∧ yX7_hasArrow.cls ≠ "java/lang/invoke/MethodHandle" ∧ yX7_hasArrow.cls ≠ "java/lang/invoke/VarHandle" ∧ (parseMethodDescriptor yX7_hasArrow.desc).map (fun d => d.parameters.length) = some 2 := by decide +kernel
set_option maxHeartbeats 4000000 in
set_option maxRecDepth 100000 in
theorem c_X7_hasArrow (l : Launch) (D : va_G) (cI cC cS : ClassId) (R : va_W) (a0 : Nat → Nat) (mnow : (Nat → Int32)) (mhistory : (Nat → Int32)) (mkept : Int32) (mslot : (Nat → Int32)) (misFilled : Int32) (mgame : Int32) (mmeasures : (Nat → Int32)) (mmost : (Nat → Int32)) (mnumbers : (Nat → Int32)) (mround : Int32) (mtyped : Int32) (mtext : (Nat → Int32)) (mat : Int32) (mnumber : Int32) (mreads : (Nat → Int32)) (mbeyond : Int32) (mjudgedTo : (Nat → Int32)) (mreach : (Nat → Int32)) (mgoes : (Nat → Int32)) (p1 : Int32) (p2 : Int32) (r : Int32) (hf : f_X7_hasArrow mnow p1 p2 = some r) : CI l yX7_hasArrow wsX7_hasArrow 1 22 D cI cC cS [.ref (a0 0), .int p1, .int p2] ((w_M a0 cI cC mnow mhistory mkept mslot misFilled mgame mmeasures mmost mnumbers mround mtyped mtext mat mnumber mreads mbeyond mjudgedTo mreach mgoes) ++ R) r ((w_M a0 cI cC mnow mhistory mkept mslot misFilled mgame mmeasures mmost mnumbers mround mtyped mtext mat mnumber mreads mbeyond mjudgedTo mreach mgoes) ++ R) := by
  refine XI.of (cc := cX7_hasArrow) (maxL := 3) (ty := .boolean) (own := RX7) (by decide) rfl rfl (Nat.le_of_ble_eq_true rfl) ?_
  intro p e s m args below meth c A Q S hK hN hA hP hD hS ls hl hret
  obtain ⟨hx, hb, hml, hown, hts⟩ := id S
  have hl : lv_has ls 3 [(0, .ref (a0 0)), (1, .int p1), (2, .int p2)] := hl
  unfold f_X7_hasArrow at hf
  refine lv_aload_n hx hb dX7_hasArrow_0 rfl (lv_at hl 0 rfl) ?_
  refine lv_iload_n hx hb dX7_hasArrow_1 rfl (lv_at hl 1 rfl) ?_
  refine lv_iconst (v := 2) hx hb dX7_hasArrow_2 (by decide) ?_
  obtain ⟨q1, hq1, hf⟩ := ob_some hf
  refine xcVi (w' := ((w_M a0 cI cC mnow mhistory mkept mslot misFilled mgame mmeasures mmost mnumbers mround mtyped mtext mat mnumber mreads mbeyond mjudgedTo mreach mgoes) ++ R)) S hK hN hA hP hD hS (c_X7_of l D cI cC cS R a0 mnow mhistory mkept mslot misFilled mgame mmeasures mmost mnumbers mround mtyped mtext mat mnumber mreads mbeyond mjudgedTo mreach mgoes p1 2 _ hq1) gX7_hasArrow_X7_of rfl hd_X7_of ⟨by decide, by decide⟩ (List.Perm.refl _) (List.Perm.refl _) (ci := 7) (q := (RX7, TX7, 19)) rfl rfl rfl rfl hl.1 rfl (Nat.le_of_ble_eq_true rfl) dX7_hasArrow_3 ⟨Nat.zero_le _, Nat.zero_le _⟩ (fun H locs hP hD hS => ?_)
  refine lv_iload_n hx hb dX7_hasArrow_6 rfl (lv_at hl 2 rfl) ?_
  refine lv_ishr hx hb dX7_hasArrow_7 ?_
  refine lv_iconst (v := 1) hx hb dX7_hasArrow_8 (by decide) ?_
  refine lv_iand hx hb dX7_hasArrow_9 ?_
  refine lv_iconst (v := 1) hx hb dX7_hasArrow_10 (by decide) ?_
  refine lv_icmp_ne (tgt := 18) hx hb dX7_hasArrow_11 (by decide) (fun c2 => ?_) (fun c2 => ?_)
  · have hf := if_f hf c2
    refine lv_iconst (v := 0) hx hb dX7_hasArrow_18 (by decide) ?_
    have hf := Option.some.inj hf
    subst hf
    exact hret _ _ _ _ _ dX7_hasArrow_19 rfl hP hD hS rfl
  · have hf := if_t hf c2
    refine lv_iconst (v := 1) hx hb dX7_hasArrow_14 (by decide) ?_
    refine lv_goto (tgt := 19) hx hb dX7_hasArrow_15 (by decide) ?_
    have hf := Option.some.inj hf
    subst hf
    exact hret _ _ _ _ _ dX7_hasArrow_19 rfl hP hD hS rfl
def f_X7_bits_L4 (d_l0 : Int32) : Nat → Int32 → Int32 → Option Int32
  | 0, _, _ => none
  | k + 1, d_l1, d_l2 => (if 14 ≤ d_l2 then some (d_l1) else f_X7_bits_L4 d_l0 k (d_l1 + ((jshr d_l0 d_l2) &&& 1)) (d_l2 + 1))
def f_X7_bits (n : Nat) (p0 : Int32) : Option Int32 := (f_X7_bits_L4 p0 n 0 0).bind fun q2 => some (q2)
theorem hd_X7_bits : yX7_bits.cls ≠ "java/lang/invoke/MethodHandle" ∧ yX7_bits.cls ≠ "java/lang/invoke/VarHandle" ∧ (parseMethodDescriptor yX7_bits.desc).map (fun d => d.parameters.length) = some 1 := by decide +kernel
set_option maxHeartbeats 4000000 in
set_option maxRecDepth 100000 in
theorem c_X7_bits (l : Launch) (D : va_G) (cI cC cS : ClassId) (R : va_W) (p0 : Int32) (n : Nat) (r : Int32) (hf : f_X7_bits n p0 = some r) : CI l yX7_bits wsX7_bits 0 0 D cI cC cS [.int p0] R r R := by
  refine XI.of (cc := cX7_bits) (maxL := 3) (ty := .int) (own := RX7) (by decide) rfl rfl (Nat.le_of_ble_eq_true rfl) ?_
  intro p e s m args below meth c A Q S hK hN hA hP hD hS ls hl hret
  obtain ⟨hx, hb, hml, hown, hts⟩ := id S
  have hl : lv_has ls 3 [(0, .int p0)] := hl
  unfold f_X7_bits at hf
  refine lv_iconst (v := 0) hx hb dX7_bits_0 (by decide) ?_
  refine lv_istore_n (lv' := [(1, .int 0), (0, .int p0)]) hx hb dX7_bits_1 rfl hl (by decide) rfl (fun ls hl => ?_)
  refine lv_iconst (v := 0) hx hb dX7_bits_2 (by decide) ?_
  refine lv_istore_n (lv' := [(2, .int 0), (1, .int 0), (0, .int p0)]) hx hb dX7_bits_3 rfl hl (by decide) rfl (fun ls hl => ?_)
  obtain ⟨q2, hq2, hf⟩ := ob_some hf
  have L1 : ∀ (k : Nat) (v_l1_L1 : Int32) (v_l2_L1 : Int32) (q_L1 : Int32), f_X7_bits_L4 p0 k v_l1_L1 v_l2_L1 = some q_L1 → ∀ (H : Heap) (locs : List Loc), va_P D vwCl R H → va_D A R → va_S A s.heap H locs → ∀ ls : Array Slot, lv_has ls 3 [(0, .int p0), (1, .int v_l1_L1), (2, .int v_l2_L1)] → (∀ (H : Heap) (locs : List Loc), va_P D vwCl R H → va_D A R → va_S A s.heap H locs → ∀ ls : Array Slot, lv_has ls 3 [(1, .int q_L1)] → W p l e (xR 0 0) s m args below meth c H locs 0 0 Q (F0 m 24 ls [])) → W p l e (xR 0 0) s m args below meth c H locs 0 0 Q (F0 m 4 ls []) := by
    intro k
    induction k with
    | zero => intro v_l1_L1 v_l2_L1 q_L1 hf; simp [f_X7_bits_L4] at hf
    | succ k ih =>
      intro v_l1_L1 v_l2_L1 q_L1 hf H locs hP hD hS ls hl kx
      rw [f_X7_bits_L4] at hf
      refine lv_iload_n hx hb dX7_bits_4 rfl (lv_at hl 2 rfl) ?_
      refine lv_bipush (v := 14) hx hb dX7_bits_5 (by decide) ?_
      refine lv_icmp_ge (tgt := 24) hx hb dX7_bits_7 (by decide) (fun c3 => ?_) (fun c3 => ?_)
      · have hf := if_t hf c3
        have hf := Option.some.inj hf
        subst hf
        exact kx _ _ hP hD hS _ (lv_sub hl [1] rfl)
      · have hf := if_f hf c3
        refine lv_iload_n hx hb dX7_bits_10 rfl (lv_at hl 1 rfl) ?_
        refine lv_iload_n hx hb dX7_bits_11 rfl (lv_at hl 0 rfl) ?_
        refine lv_iload_n hx hb dX7_bits_12 rfl (lv_at hl 2 rfl) ?_
        refine lv_ishr hx hb dX7_bits_13 ?_
        refine lv_iconst (v := 1) hx hb dX7_bits_14 (by decide) ?_
        refine lv_iand hx hb dX7_bits_15 ?_
        refine lv_iadd hx hb dX7_bits_16 ?_
        refine lv_istore_n (lv' := [(1, .int (v_l1_L1 + ((jshr p0 v_l2_L1) &&& 1))), (0, .int p0), (2, .int v_l2_L1)]) hx hb dX7_bits_17 rfl hl (by decide) rfl (fun ls hl => ?_)
        refine lv_iinc (v := (v_l2_L1 + 1)) (lv' := [(2, .int (v_l2_L1 + 1)), (1, .int (v_l1_L1 + ((jshr p0 v_l2_L1) &&& 1))), (0, .int p0)]) hx hb dX7_bits_18 hl (k := 2) rfl (congrArg (fun z => v_l2_L1 + z) (by decide)) (by decide) rfl (fun ls hl => ?_)
        refine lv_goto (tgt := 4) hx hb dX7_bits_21 (by decide) ?_
        exact ih (v_l1_L1 + ((jshr p0 v_l2_L1) &&& 1)) (v_l2_L1 + 1) _ hf _ _ hP hD hS _ (lv_sub hl [2, 1, 0] rfl) kx
  refine L1 n 0 0 q2 hq2 _ _ hP hD hS _ (lv_sub hl [2, 1, 0] rfl) ?_
  clear hP hD hS hl
  intro H locs hP hD hS ls hl
  refine lv_iload_n hx hb dX7_bits_24 rfl (lv_at hl 0 rfl) ?_
  have hf := Option.some.inj hf
  subst hf
  exact hret _ _ _ _ _ dX7_bits_25 rfl hP hD hS rfl
def f_X7_lowest_L2 (d_l0 : Int32) : Nat → Int32 → Option Int32
  | 0, _ => none
  | k + 1, d_l1 => (if ((jshr d_l0 d_l1) &&& 1) = 0 then f_X7_lowest_L2 d_l0 k (d_l1 + 1) else some (d_l1))
def f_X7_lowest (n : Nat) (p0 : Int32) : Option Int32 := (f_X7_lowest_L2 p0 n 0).bind fun q2 => some (q2)
theorem hd_X7_lowest : yX7_lowest.cls ≠ "java/lang/invoke/MethodHandle" ∧ yX7_lowest.cls ≠ "java/lang/invoke/VarHandle" ∧ (parseMethodDescriptor yX7_lowest.desc).map (fun d => d.parameters.length) = some 1 := by decide +kernel
set_option maxHeartbeats 4000000 in
set_option maxRecDepth 100000 in
theorem c_X7_lowest (l : Launch) (D : va_G) (cI cC cS : ClassId) (R : va_W) (p0 : Int32) (n : Nat) (r : Int32) (hf : f_X7_lowest n p0 = some r) : CI l yX7_lowest wsX7_lowest 0 0 D cI cC cS [.int p0] R r R := by
  refine XI.of (cc := cX7_lowest) (maxL := 2) (ty := .int) (own := RX7) (by decide) rfl rfl (Nat.le_of_ble_eq_true rfl) ?_
  intro p e s m args below meth c A Q S hK hN hA hP hD hS ls hl hret
  obtain ⟨hx, hb, hml, hown, hts⟩ := id S
  have hl : lv_has ls 2 [(0, .int p0)] := hl
  unfold f_X7_lowest at hf
  refine lv_iconst (v := 0) hx hb dX7_lowest_0 (by decide) ?_
  refine lv_istore_n (lv' := [(1, .int 0), (0, .int p0)]) hx hb dX7_lowest_1 rfl hl (by decide) rfl (fun ls hl => ?_)
  obtain ⟨q2, hq2, hf⟩ := ob_some hf
  have L1 : ∀ (k : Nat) (v_l1_L1 : Int32) (q_L1 : Int32), f_X7_lowest_L2 p0 k v_l1_L1 = some q_L1 → ∀ (H : Heap) (locs : List Loc), va_P D vwCl R H → va_D A R → va_S A s.heap H locs → ∀ ls : Array Slot, lv_has ls 2 [(0, .int p0), (1, .int v_l1_L1)] → (∀ (H : Heap) (locs : List Loc), va_P D vwCl R H → va_D A R → va_S A s.heap H locs → ∀ ls : Array Slot, lv_has ls 2 [(1, .int q_L1)] → W p l e (xR 0 0) s m args below meth c H locs 0 0 Q (F0 m 16 ls [])) → W p l e (xR 0 0) s m args below meth c H locs 0 0 Q (F0 m 2 ls []) := by
    intro k
    induction k with
    | zero => intro v_l1_L1 q_L1 hf; simp [f_X7_lowest_L2] at hf
    | succ k ih =>
      intro v_l1_L1 q_L1 hf H locs hP hD hS ls hl kx
      rw [f_X7_lowest_L2] at hf
      refine lv_iload_n hx hb dX7_lowest_2 rfl (lv_at hl 0 rfl) ?_
      refine lv_iload_n hx hb dX7_lowest_3 rfl (lv_at hl 1 rfl) ?_
      refine lv_ishr hx hb dX7_lowest_4 ?_
      refine lv_iconst (v := 1) hx hb dX7_lowest_5 (by decide) ?_
      refine lv_iand hx hb dX7_lowest_6 ?_
      refine lv_if_ne (tgt := 16) hx hb dX7_lowest_7 (by decide) (fun c3 => ?_) (fun c3 => ?_)
      · have hf := if_f hf c3
        have hf := Option.some.inj hf
        subst hf
        exact kx _ _ hP hD hS _ (lv_sub hl [1] rfl)
      · have hf := if_t hf c3
        refine lv_iinc (v := (v_l1_L1 + 1)) (lv' := [(1, .int (v_l1_L1 + 1)), (0, .int p0)]) hx hb dX7_lowest_10 hl (k := 1) rfl (congrArg (fun z => v_l1_L1 + z) (by decide)) (by decide) rfl (fun ls hl => ?_)
        refine lv_goto (tgt := 2) hx hb dX7_lowest_13 (by decide) ?_
        exact ih (v_l1_L1 + 1) _ hf _ _ hP hD hS _ (lv_sub hl [1, 0] rfl) kx
  refine L1 n 0 q2 hq2 _ _ hP hD hS _ (lv_sub hl [1, 0] rfl) ?_
  clear hP hD hS hl
  intro H locs hP hD hS ls hl
  refine lv_iload_n hx hb dX7_lowest_16 rfl (lv_at hl 0 rfl) ?_
  have hf := Option.some.inj hf
  subst hf
  exact hret _ _ _ _ _ dX7_lowest_17 rfl hP hD hS rfl
def f_X7_arrows_L4 (n : Nat) (d_mnow : (Nat → Int32)) : Nat → Int32 → Int32 → Option Int32
  | 0, _, _ => none
  | k + 1, d_l1, d_l2 => (if (d_mnow 56) ≤ d_l2 then some (d_l1) else (f_X7_of d_mnow d_l2 2).bind fun q2 => (f_X7_bits n q2).bind fun q3 => f_X7_arrows_L4 n d_mnow k (d_l1 + q3) (d_l2 + 1))
def f_X7_arrows (n : Nat) (mnow : (Nat → Int32)) : Option Int32 := (f_X7_arrows_L4 n mnow n 0 0).bind fun q2 => some (q2)
theorem inw_X7_arrows_7 : ∀ w ∈ wsX70, w ∈ wsX7_arrows := fun _ h => List.mem_cons_of_mem _ (List.mem_append_right _ h)
theorem hd_X7_arrows : yX7_arrows.cls = RX7 ∧ yX7_arrows.cls ≠ "java/lang/invoke/MethodHandle" ∧ yX7_arrows.cls ≠ "java/lang/invoke/VarHandle" ∧ (parseMethodDescriptor yX7_arrows.desc).map (fun d => d.parameters.length) = some 0 := by decide +kernel
set_option maxHeartbeats 4000000 in
set_option maxRecDepth 100000 in
theorem c_X7_arrows (l : Launch) (D : va_G) (cI cC cS : ClassId) (R : va_W) (a0 : Nat → Nat) (mnow : (Nat → Int32)) (mhistory : (Nat → Int32)) (mkept : Int32) (mslot : (Nat → Int32)) (misFilled : Int32) (mgame : Int32) (mmeasures : (Nat → Int32)) (mmost : (Nat → Int32)) (mnumbers : (Nat → Int32)) (mround : Int32) (mtyped : Int32) (mtext : (Nat → Int32)) (mat : Int32) (mnumber : Int32) (mreads : (Nat → Int32)) (mbeyond : Int32) (mjudgedTo : (Nat → Int32)) (mreach : (Nat → Int32)) (mgoes : (Nat → Int32)) (n : Nat) (r : Int32) (hf : f_X7_arrows n mnow = some r) : CI l yX7_arrows wsX7_arrows 1 22 D cI cC cS [.ref (a0 0)] ((w_M a0 cI cC mnow mhistory mkept mslot misFilled mgame mmeasures mmost mnumbers mround mtyped mtext mat mnumber mreads mbeyond mjudgedTo mreach mgoes) ++ R) r ((w_M a0 cI cC mnow mhistory mkept mslot misFilled mgame mmeasures mmost mnumbers mround mtyped mtext mat mnumber mreads mbeyond mjudgedTo mreach mgoes) ++ R) := by
  refine XI.of (cc := cX7_arrows) (maxL := 3) (ty := .int) (own := RX7) (by decide) rfl rfl (Nat.le_of_ble_eq_true rfl) ?_
  intro p e s m args below meth c A Q S hK hN hA hP hD hS ls hl hret
  obtain ⟨hx, hb, hml, hown, hts⟩ := id S
  have hl : lv_has ls 3 [(0, .ref (a0 0))] := hl
  unfold f_X7_arrows at hf
  refine lv_iconst (v := 0) hx hb dX7_arrows_0 (by decide) ?_
  refine lv_istore_n (lv' := [(1, .int 0), (0, .ref (a0 0))]) hx hb dX7_arrows_1 rfl hl (by decide) rfl (fun ls hl => ?_)
  refine lv_iconst (v := 0) hx hb dX7_arrows_2 (by decide) ?_
  refine lv_istore_n (lv' := [(2, .int 0), (1, .int 0), (0, .ref (a0 0))]) hx hb dX7_arrows_3 rfl hl (by decide) rfl (fun ls hl => ?_)
  obtain ⟨q2, hq2, hf⟩ := ob_some hf
  have L1 : ∀ (k : Nat) (v_l1_L1 : Int32) (v_l2_L1 : Int32) (q_L1 : Int32), f_X7_arrows_L4 n mnow k v_l1_L1 v_l2_L1 = some q_L1 → ∀ (H : Heap) (locs : List Loc), va_P D vwCl ((w_M a0 cI cC mnow mhistory mkept mslot misFilled mgame mmeasures mmost mnumbers mround mtyped mtext mat mnumber mreads mbeyond mjudgedTo mreach mgoes) ++ R) H → va_D A ((w_M a0 cI cC mnow mhistory mkept mslot misFilled mgame mmeasures mmost mnumbers mround mtyped mtext mat mnumber mreads mbeyond mjudgedTo mreach mgoes) ++ R) → va_S A s.heap H locs → ∀ ls : Array Slot, lv_has ls 3 [(0, .ref (a0 0)), (1, .int v_l1_L1), (2, .int v_l2_L1)] → (∀ (H : Heap) (locs : List Loc), va_P D vwCl ((w_M a0 cI cC mnow mhistory mkept mslot misFilled mgame mmeasures mmost mnumbers mround mtyped mtext mat mnumber mreads mbeyond mjudgedTo mreach mgoes) ++ R) H → va_D A ((w_M a0 cI cC mnow mhistory mkept mslot misFilled mgame mmeasures mmost mnumbers mround mtyped mtext mat mnumber mreads mbeyond mjudgedTo mreach mgoes) ++ R) → va_S A s.heap H locs → ∀ ls : Array Slot, lv_has ls 3 [(1, .int q_L1)] → W p l e (xR 1 22) s m args below meth c H locs 0 0 Q (F0 m 33 ls [])) → W p l e (xR 1 22) s m args below meth c H locs 0 0 Q (F0 m 4 ls []) := by
    intro k
    induction k with
    | zero => intro v_l1_L1 v_l2_L1 q_L1 hf; simp [f_X7_arrows_L4] at hf
    | succ k ih =>
      intro v_l1_L1 v_l2_L1 q_L1 hf H locs hP hD hS ls hl kx
      rw [f_X7_arrows_L4] at hf
      refine lv_iload_n hx hb dX7_arrows_4 rfl (lv_at hl 2 rfl) ?_
      refine lv_aload_n hx hb dX7_arrows_5 rfl (lv_at hl 0 rfl) ?_
      refine va_get (D := D) (ci := 7) (v := .ref (a0 1)) (C := RX7) (T := TX7) (N := 19) hx hb hts inw_X7_arrows_7 hown hK hP 0 rfl rfl 0 (by decide) (hts (.fieldLink RX7 7 "RingGamesModel" "now" "[I") (List.mem_of_getElem? (i := 1) rfl)) (fun _ h9 => h9) rfl dX7_arrows_6 ?_
      refine lv_bipush (v := 56) hx hb dX7_arrows_9 (by decide) ?_
      refine va_iald hx hb hK hP 1 0 rfl rfl (x_in (by decide)) dX7_arrows_11 ?_
      refine lv_icmp_ge (tgt := 33) hx hb dX7_arrows_12 (by decide) (fun c3 => ?_) (fun c3 => ?_)
      · have hf := if_t hf c3
        have hf := Option.some.inj hf
        subst hf
        exact kx _ _ hP hD hS _ (lv_sub hl [1] rfl)
      · have hf := if_f hf c3
        refine lv_iload_n hx hb dX7_arrows_15 rfl (lv_at hl 1 rfl) ?_
        refine lv_aload_n hx hb dX7_arrows_16 rfl (lv_at hl 0 rfl) ?_
        refine lv_iload_n hx hb dX7_arrows_17 rfl (lv_at hl 2 rfl) ?_
        refine lv_iconst (v := 2) hx hb dX7_arrows_18 (by decide) ?_
        obtain ⟨q4, hq4, hf⟩ := ob_some hf
        refine xcVi (w' := ((w_M a0 cI cC mnow mhistory mkept mslot misFilled mgame mmeasures mmost mnumbers mround mtyped mtext mat mnumber mreads mbeyond mjudgedTo mreach mgoes) ++ R)) S hK hN hA hP hD hS (c_X7_of l D cI cC cS R a0 mnow mhistory mkept mslot misFilled mgame mmeasures mmost mnumbers mround mtyped mtext mat mnumber mreads mbeyond mjudgedTo mreach mgoes v_l2_L1 2 _ hq4) gX7_arrows_X7_of rfl hd_X7_of ⟨by decide, by decide⟩ (List.Perm.refl _) (List.Perm.refl _) (ci := 7) (q := (RX7, TX7, 19)) rfl rfl rfl rfl hl.1 rfl (Nat.le_of_ble_eq_true rfl) dX7_arrows_19 ⟨Nat.zero_le _, Nat.zero_le _⟩ (fun H locs hP hD hS => ?_)
        obtain ⟨q5, hq5, hf⟩ := ob_some hf
        refine xcSi S hK hN hA hP hD hS (c_X7_bits l D cI cC cS ((w_M a0 cI cC mnow mhistory mkept mslot misFilled mgame mmeasures mmost mnumbers mround mtyped mtext mat mnumber mreads mbeyond mjudgedTo mreach mgoes) ++ R) q4 n _ hq5) gX7_arrows_X7_bits rfl hd_X7_bits ⟨by decide, by decide⟩ rfl hl.1 rfl (Nat.le_of_ble_eq_true rfl) dX7_arrows_22 ⟨Nat.zero_le _, Nat.zero_le _⟩ (fun H locs hP hD hS => ?_)
        refine lv_iadd hx hb dX7_arrows_25 ?_
        refine lv_istore_n (lv' := [(1, .int (v_l1_L1 + q5)), (0, .ref (a0 0)), (2, .int v_l2_L1)]) hx hb dX7_arrows_26 rfl hl (by decide) rfl (fun ls hl => ?_)
        refine lv_iinc (v := (v_l2_L1 + 1)) (lv' := [(2, .int (v_l2_L1 + 1)), (1, .int (v_l1_L1 + q5)), (0, .ref (a0 0))]) hx hb dX7_arrows_27 hl (k := 2) rfl (congrArg (fun z => v_l2_L1 + z) (by decide)) (by decide) rfl (fun ls hl => ?_)
        refine lv_goto (tgt := 4) hx hb dX7_arrows_30 (by decide) ?_
        exact ih (v_l1_L1 + q5) (v_l2_L1 + 1) _ hf _ _ hP hD hS _ (lv_sub hl [2, 1, 0] rfl) kx
  refine L1 n 0 0 q2 hq2 _ _ hP hD hS _ (lv_sub hl [2, 1, 0] rfl) ?_
  clear hP hD hS hl
  intro H locs hP hD hS ls hl
  refine lv_iload_n hx hb dX7_arrows_33 rfl (lv_at hl 0 rfl) ?_
  have hf := Option.some.inj hf
  subst hf
  exact hret _ _ _ _ _ dX7_arrows_34 rfl hP hD hS rfl
def f_X7_record_L10 : Nat → Int32 → (Nat → Int32) → Option (Nat → Int32)
  | 0, _, _ => none
  | k + 1, d_l1, d_mhistory => (if 177 ≤ d_l1 then some (d_mhistory) else vg (d_l1 + 59) 236 (vg d_l1 236 (f_X7_record_L10 k (d_l1 + 1) (upd d_mhistory (d_l1).toNatClampNeg (d_mhistory ((d_l1 + 59)).toNatClampNeg)))))
def f_X7_record_L50 (d_mnow : (Nat → Int32)) (d_mkept : Int32) : Nat → Int32 → (Nat → Int32) → Option (Nat → Int32)
  | 0, _, _ => none
  | k + 1, d_l1, d_mhistory => (if 59 ≤ d_l1 then some (d_mhistory) else vg d_l1 59 (vg ((59 * d_mkept) + d_l1) 236 (f_X7_record_L50 d_mnow d_mkept k (d_l1 + 1) (upd d_mhistory (((59 * d_mkept) + d_l1)).toNatClampNeg (d_mnow (d_l1).toNatClampNeg)))))
def f_X7_record (n : Nat) (mnow : (Nat → Int32)) (mhistory : (Nat → Int32)) (mkept : Int32) : Option ((Nat → Int32) × Int32) := ((if mkept = 4 then (f_X7_record_L10 n 0 mhistory).bind fun q10 => some (q10, (mkept - 1)) else some (mhistory, mkept)) : Option ((Nat → Int32) × Int32)).bind fun j2 => (f_X7_record_L50 mnow j2.2 n 0 j2.1).bind fun q5 => some (q5, (j2.2 + 1))
theorem inw_X7_record_7 : ∀ w ∈ wsX70, w ∈ wsX7_record := fun _ h => List.mem_cons_of_mem _ (List.mem_append_right _ h)
theorem hd_X7_record : yX7_record.cls = RX7 ∧ yX7_record.cls ≠ "java/lang/invoke/MethodHandle" ∧ yX7_record.cls ≠ "java/lang/invoke/VarHandle" ∧ (parseMethodDescriptor yX7_record.desc).map (fun d => d.parameters.length) = some 0 := by decide +kernel
set_option maxHeartbeats 4000000 in
set_option maxRecDepth 100000 in
theorem c_X7_record (l : Launch) (D : va_G) (cI cC cS : ClassId) (R : va_W) (a0 : Nat → Nat) (mnow : (Nat → Int32)) (mhistory : (Nat → Int32)) (mkept : Int32) (mslot : (Nat → Int32)) (misFilled : Int32) (mgame : Int32) (mmeasures : (Nat → Int32)) (mmost : (Nat → Int32)) (mnumbers : (Nat → Int32)) (mround : Int32) (mtyped : Int32) (mtext : (Nat → Int32)) (mat : Int32) (mnumber : Int32) (mreads : (Nat → Int32)) (mbeyond : Int32) (mjudgedTo : (Nat → Int32)) (mreach : (Nat → Int32)) (mgoes : (Nat → Int32)) (n : Nat) (r : (Nat → Int32) × Int32) (hf : f_X7_record n mnow mhistory mkept = some r) : CV l yX7_record wsX7_record 0 0 D cI cC cS [.ref (a0 0)] ((w_M a0 cI cC mnow mhistory mkept mslot misFilled mgame mmeasures mmost mnumbers mround mtyped mtext mat mnumber mreads mbeyond mjudgedTo mreach mgoes) ++ R) ((w_M a0 cI cC mnow r.1 r.2 mslot misFilled mgame mmeasures mmost mnumbers mround mtyped mtext mat mnumber mreads mbeyond mjudgedTo mreach mgoes) ++ R) := by
  refine XV.of (cc := cX7_record) (maxL := 2) (own := RX7) (by decide) rfl rfl (Nat.le_of_ble_eq_true rfl) ?_
  intro p e s m args below meth c A Q S hK hN hA hP hD hS ls hl hret
  obtain ⟨hx, hb, hml, hown, hts⟩ := id S
  have hl : lv_has ls 2 [(0, .ref (a0 0))] := hl
  unfold f_X7_record at hf
  refine lv_aload_n hx hb dX7_record_0 rfl (lv_at hl 0 rfl) ?_
  refine va_get (D := D) (ci := 7) (v := .int mkept) (C := RX7) (T := TX7) (N := 19) hx hb hts inw_X7_record_7 hown hK hP 0 rfl rfl 2 (by decide) (hts (.fieldLink RX7 56 "RingGamesModel" "kept" "I") (List.mem_of_getElem? (i := 1) rfl)) (fun _ h9 => h9) rfl dX7_record_1 ?_
  refine lv_iconst (v := 4) hx hb dX7_record_4 (by decide) ?_
  obtain ⟨j2, hj2, hf⟩ := ob_some hf
  have J3 : ∀ (H : Heap) (locs : List Loc), va_P D vwCl ((w_M a0 cI cC mnow j2.1 j2.2 mslot misFilled mgame mmeasures mmost mnumbers mround mtyped mtext mat mnumber mreads mbeyond mjudgedTo mreach mgoes) ++ R) H → va_D A ((w_M a0 cI cC mnow j2.1 j2.2 mslot misFilled mgame mmeasures mmost mnumbers mround mtyped mtext mat mnumber mreads mbeyond mjudgedTo mreach mgoes) ++ R) → va_S A s.heap H locs → ∀ ls : Array Slot, lv_has ls 2 [(0, .ref (a0 0))] → W p l e (xR 0 0) s m args below meth c H locs 0 0 Q (F0 m 48 ls []) := by
    intro H locs hP hD hS ls hl
    refine lv_iconst (v := 0) hx hb dX7_record_48 (by decide) ?_
    refine lv_istore_n (lv' := [(1, .int 0), (0, .ref (a0 0))]) hx hb dX7_record_49 rfl hl (by decide) rfl (fun ls hl => ?_)
    obtain ⟨q5, hq5, hf⟩ := ob_some hf
    have L4 : ∀ (k : Nat) (v_l1_L4 : Int32) (v_mhistory_L4 : (Nat → Int32)) (q_L4 : (Nat → Int32)), f_X7_record_L50 mnow j2.2 k v_l1_L4 v_mhistory_L4 = some q_L4 → ∀ (H : Heap) (locs : List Loc), va_P D vwCl ((w_M a0 cI cC mnow v_mhistory_L4 j2.2 mslot misFilled mgame mmeasures mmost mnumbers mround mtyped mtext mat mnumber mreads mbeyond mjudgedTo mreach mgoes) ++ R) H → va_D A ((w_M a0 cI cC mnow v_mhistory_L4 j2.2 mslot misFilled mgame mmeasures mmost mnumbers mround mtyped mtext mat mnumber mreads mbeyond mjudgedTo mreach mgoes) ++ R) → va_S A s.heap H locs → ∀ ls : Array Slot, lv_has ls 2 [(0, .ref (a0 0)), (1, .int v_l1_L4)] → (∀ (H : Heap) (locs : List Loc), va_P D vwCl ((w_M a0 cI cC mnow q_L4 j2.2 mslot misFilled mgame mmeasures mmost mnumbers mround mtyped mtext mat mnumber mreads mbeyond mjudgedTo mreach mgoes) ++ R) H → va_D A ((w_M a0 cI cC mnow q_L4 j2.2 mslot misFilled mgame mmeasures mmost mnumbers mround mtyped mtext mat mnumber mreads mbeyond mjudgedTo mreach mgoes) ++ R) → va_S A s.heap H locs → ∀ ls : Array Slot, lv_has ls 2 [(0, .ref (a0 0))] → W p l e (xR 0 0) s m args below meth c H locs 0 0 Q (F0 m 82 ls [])) → W p l e (xR 0 0) s m args below meth c H locs 0 0 Q (F0 m 50 ls []) := by
      intro k
      induction k with
      | zero => intro v_l1_L4 v_mhistory_L4 q_L4 hf; simp [f_X7_record_L50] at hf
      | succ k ih =>
        intro v_l1_L4 v_mhistory_L4 q_L4 hf H locs hP hD hS ls hl kx
        rw [f_X7_record_L50] at hf
        refine lv_iload_n hx hb dX7_record_50 rfl (lv_at hl 1 rfl) ?_
        refine lv_bipush (v := 59) hx hb dX7_record_51 (by decide) ?_
        refine lv_icmp_ge (tgt := 82) hx hb dX7_record_53 (by decide) (fun c6 => ?_) (fun c6 => ?_)
        · have hf := if_t hf c6
          have hf := Option.some.inj hf
          subst hf
          exact kx _ _ hP hD hS _ (lv_sub hl [0] rfl)
        · have hf := if_f hf c6
          refine lv_aload_n hx hb dX7_record_56 rfl (lv_at hl 0 rfl) ?_
          refine va_get (D := D) (ci := 7) (v := .ref (a0 2)) (C := RX7) (T := TX7) (N := 19) hx hb hts inw_X7_record_7 hown hK hP 0 rfl rfl 1 (by decide) (hts (.fieldLink RX7 13 "RingGamesModel" "history" "[I") (List.mem_of_getElem? (i := 2) rfl)) (fun _ h9 => h9) rfl dX7_record_57 ?_
          refine lv_bipush (v := 59) hx hb dX7_record_60 (by decide) ?_
          refine lv_aload_n hx hb dX7_record_62 rfl (lv_at hl 0 rfl) ?_
          refine va_get (D := D) (ci := 7) (v := .int j2.2) (C := RX7) (T := TX7) (N := 19) hx hb hts inw_X7_record_7 hown hK hP 0 rfl rfl 2 (by decide) (hts (.fieldLink RX7 56 "RingGamesModel" "kept" "I") (List.mem_of_getElem? (i := 1) rfl)) (fun _ h9 => h9) rfl dX7_record_63 ?_
          refine lv_imul hx hb dX7_record_66 ?_
          refine lv_iload_n hx hb dX7_record_67 rfl (lv_at hl 1 rfl) ?_
          refine lv_iadd hx hb dX7_record_68 ?_
          refine lv_aload_n hx hb dX7_record_69 rfl (lv_at hl 0 rfl) ?_
          refine va_get (D := D) (ci := 7) (v := .ref (a0 1)) (C := RX7) (T := TX7) (N := 19) hx hb hts inw_X7_record_7 hown hK hP 0 rfl rfl 0 (by decide) (hts (.fieldLink RX7 7 "RingGamesModel" "now" "[I") (List.mem_of_getElem? (i := 3) rfl)) (fun _ h9 => h9) rfl dX7_record_70 ?_
          refine lv_iload_n hx hb dX7_record_73 rfl (lv_at hl 1 rfl) ?_
          obtain ⟨g7, hf⟩ := vg_some hf
          refine va_iald hx hb hK hP 1 0 rfl rfl g7 dX7_record_74 ?_
          obtain ⟨g8, hf⟩ := vg_some hf
          refine va_iast hx hb hK hP hD hS 2 0 rfl rfl g8 dX7_record_75 (fun H locs hP hD hS => ?_)
          have hP : va_P D vwCl ((w_M a0 cI cC mnow (upd v_mhistory_L4 (((59 * j2.2) + v_l1_L4)).toNatClampNeg (mnow (v_l1_L4).toNatClampNeg)) j2.2 mslot misFilled mgame mmeasures mmost mnumbers mround mtyped mtext mat mnumber mreads mbeyond mjudgedTo mreach mgoes) ++ R) H := hP
          have hD : va_D A ((w_M a0 cI cC mnow (upd v_mhistory_L4 (((59 * j2.2) + v_l1_L4)).toNatClampNeg (mnow (v_l1_L4).toNatClampNeg)) j2.2 mslot misFilled mgame mmeasures mmost mnumbers mround mtyped mtext mat mnumber mreads mbeyond mjudgedTo mreach mgoes) ++ R) := hD
          refine lv_iinc (v := (v_l1_L4 + 1)) (lv' := [(1, .int (v_l1_L4 + 1)), (0, .ref (a0 0))]) hx hb dX7_record_76 hl (k := 1) rfl (congrArg (fun z => v_l1_L4 + z) (by decide)) (by decide) rfl (fun ls hl => ?_)
          refine lv_goto (tgt := 50) hx hb dX7_record_79 (by decide) ?_
          exact ih (v_l1_L4 + 1) (upd v_mhistory_L4 (((59 * j2.2) + v_l1_L4)).toNatClampNeg (mnow (v_l1_L4).toNatClampNeg)) _ hf _ _ hP hD hS _ (lv_sub hl [1, 0] rfl) kx
    refine L4 n 0 j2.1 q5 hq5 _ _ hP hD hS _ (lv_sub hl [1, 0] rfl) ?_
    clear hP hD hS hl
    intro H locs hP hD hS ls hl
    refine lv_aload_n hx hb dX7_record_82 rfl (lv_at hl 0 rfl) ?_
    refine lv_dup hx hb dX7_record_83 rfl ?_
    refine va_get (D := D) (ci := 7) (v := .int j2.2) (C := RX7) (T := TX7) (N := 19) hx hb hts inw_X7_record_7 hown hK hP 0 rfl rfl 2 (by decide) (hts (.fieldLink RX7 56 "RingGamesModel" "kept" "I") (List.mem_of_getElem? (i := 1) rfl)) (fun _ h9 => h9) rfl dX7_record_84 ?_
    refine lv_iconst (v := 1) hx hb dX7_record_87 (by decide) ?_
    refine lv_iadd hx hb dX7_record_88 ?_
    refine va_put (D := D) (ci := 7) (v := .int (j2.2 + 1)) (ty := .int) (C := RX7) (T := TX7) (N := 19) hx hb hts inw_X7_record_7 tyX7 tyX7_ok nmX7 hown hK hP hD hS 0 rfl rfl 2 (by decide) (hts (.fieldLink RX7 56 "RingGamesModel" "kept" "I") (List.mem_of_getElem? (i := 1) rfl)) (fun _ h9 => h9) rfl (tyX7_ok 2 (by decide)) rfl rfl (Nat.le_of_ble_eq_true rfl) dX7_record_89 (fun H locs hP hD hS => ?_)
    have hP : va_P D vwCl ((w_M a0 cI cC mnow q5 (j2.2 + 1) mslot misFilled mgame mmeasures mmost mnumbers mround mtyped mtext mat mnumber mreads mbeyond mjudgedTo mreach mgoes) ++ R) H := hP
    have hD : va_D A ((w_M a0 cI cC mnow q5 (j2.2 + 1) mslot misFilled mgame mmeasures mmost mnumbers mround mtyped mtext mat mnumber mreads mbeyond mjudgedTo mreach mgoes) ++ R) := hD
    have hf := Option.some.inj hf
    subst hf
    exact hret _ _ _ _ dX7_record_92 hP hD hS
  clear hf
  have hf := hj2
  refine lv_icmp_ne (tgt := 48) hx hb dX7_record_5 (by decide) (fun c1 => ?_) (fun c1 => ?_)
  · have hf := if_f hf c1
    have hf := Option.some.inj hf
    subst hf
    exact J3 _ _ hP hD hS _ (lv_sub hl [0] rfl)
  · have hf := if_t hf c1
    refine lv_iconst (v := 0) hx hb dX7_record_8 (by decide) ?_
    refine lv_istore_n (lv' := [(1, .int 0), (0, .ref (a0 0))]) hx hb dX7_record_9 rfl hl (by decide) rfl (fun ls hl => ?_)
    obtain ⟨q10, hq10, hf⟩ := ob_some hf
    have L9 : ∀ (k : Nat) (v_l1_L9 : Int32) (v_mhistory_L9 : (Nat → Int32)) (q_L9 : (Nat → Int32)), f_X7_record_L10 k v_l1_L9 v_mhistory_L9 = some q_L9 → ∀ (H : Heap) (locs : List Loc), va_P D vwCl ((w_M a0 cI cC mnow v_mhistory_L9 mkept mslot misFilled mgame mmeasures mmost mnumbers mround mtyped mtext mat mnumber mreads mbeyond mjudgedTo mreach mgoes) ++ R) H → va_D A ((w_M a0 cI cC mnow v_mhistory_L9 mkept mslot misFilled mgame mmeasures mmost mnumbers mround mtyped mtext mat mnumber mreads mbeyond mjudgedTo mreach mgoes) ++ R) → va_S A s.heap H locs → ∀ ls : Array Slot, lv_has ls 2 [(0, .ref (a0 0)), (1, .int v_l1_L9)] → (∀ (H : Heap) (locs : List Loc), va_P D vwCl ((w_M a0 cI cC mnow q_L9 mkept mslot misFilled mgame mmeasures mmost mnumbers mround mtyped mtext mat mnumber mreads mbeyond mjudgedTo mreach mgoes) ++ R) H → va_D A ((w_M a0 cI cC mnow q_L9 mkept mslot misFilled mgame mmeasures mmost mnumbers mround mtyped mtext mat mnumber mreads mbeyond mjudgedTo mreach mgoes) ++ R) → va_S A s.heap H locs → ∀ ls : Array Slot, lv_has ls 2 [(0, .ref (a0 0))] → W p l e (xR 0 0) s m args below meth c H locs 0 0 Q (F0 m 38 ls [])) → W p l e (xR 0 0) s m args below meth c H locs 0 0 Q (F0 m 10 ls []) := by
      intro k
      induction k with
      | zero => intro v_l1_L9 v_mhistory_L9 q_L9 hf; simp [f_X7_record_L10] at hf
      | succ k ih =>
        intro v_l1_L9 v_mhistory_L9 q_L9 hf H locs hP hD hS ls hl kx
        rw [f_X7_record_L10] at hf
        refine lv_iload_n hx hb dX7_record_10 rfl (lv_at hl 1 rfl) ?_
        refine lv_sipush (v := 177) hx hb dX7_record_11 (by decide) ?_
        refine lv_icmp_ge (tgt := 38) hx hb dX7_record_14 (by decide) (fun c11 => ?_) (fun c11 => ?_)
        · have hf := if_t hf c11
          have hf := Option.some.inj hf
          subst hf
          exact kx _ _ hP hD hS _ (lv_sub hl [0] rfl)
        · have hf := if_f hf c11
          refine lv_aload_n hx hb dX7_record_17 rfl (lv_at hl 0 rfl) ?_
          refine va_get (D := D) (ci := 7) (v := .ref (a0 2)) (C := RX7) (T := TX7) (N := 19) hx hb hts inw_X7_record_7 hown hK hP 0 rfl rfl 1 (by decide) (hts (.fieldLink RX7 13 "RingGamesModel" "history" "[I") (List.mem_of_getElem? (i := 2) rfl)) (fun _ h9 => h9) rfl dX7_record_18 ?_
          refine lv_iload_n hx hb dX7_record_21 rfl (lv_at hl 1 rfl) ?_
          refine lv_aload_n hx hb dX7_record_22 rfl (lv_at hl 0 rfl) ?_
          refine va_get (D := D) (ci := 7) (v := .ref (a0 2)) (C := RX7) (T := TX7) (N := 19) hx hb hts inw_X7_record_7 hown hK hP 0 rfl rfl 1 (by decide) (hts (.fieldLink RX7 13 "RingGamesModel" "history" "[I") (List.mem_of_getElem? (i := 2) rfl)) (fun _ h9 => h9) rfl dX7_record_23 ?_
          refine lv_iload_n hx hb dX7_record_26 rfl (lv_at hl 1 rfl) ?_
          refine lv_bipush (v := 59) hx hb dX7_record_27 (by decide) ?_
          refine lv_iadd hx hb dX7_record_29 ?_
          obtain ⟨g12, hf⟩ := vg_some hf
          refine va_iald hx hb hK hP 2 0 rfl rfl g12 dX7_record_30 ?_
          obtain ⟨g13, hf⟩ := vg_some hf
          refine va_iast hx hb hK hP hD hS 2 0 rfl rfl g13 dX7_record_31 (fun H locs hP hD hS => ?_)
          have hP : va_P D vwCl ((w_M a0 cI cC mnow (upd v_mhistory_L9 (v_l1_L9).toNatClampNeg (v_mhistory_L9 ((v_l1_L9 + 59)).toNatClampNeg)) mkept mslot misFilled mgame mmeasures mmost mnumbers mround mtyped mtext mat mnumber mreads mbeyond mjudgedTo mreach mgoes) ++ R) H := hP
          have hD : va_D A ((w_M a0 cI cC mnow (upd v_mhistory_L9 (v_l1_L9).toNatClampNeg (v_mhistory_L9 ((v_l1_L9 + 59)).toNatClampNeg)) mkept mslot misFilled mgame mmeasures mmost mnumbers mround mtyped mtext mat mnumber mreads mbeyond mjudgedTo mreach mgoes) ++ R) := hD
          refine lv_iinc (v := (v_l1_L9 + 1)) (lv' := [(1, .int (v_l1_L9 + 1)), (0, .ref (a0 0))]) hx hb dX7_record_32 hl (k := 1) rfl (congrArg (fun z => v_l1_L9 + z) (by decide)) (by decide) rfl (fun ls hl => ?_)
          refine lv_goto (tgt := 10) hx hb dX7_record_35 (by decide) ?_
          exact ih (v_l1_L9 + 1) (upd v_mhistory_L9 (v_l1_L9).toNatClampNeg (v_mhistory_L9 ((v_l1_L9 + 59)).toNatClampNeg)) _ hf _ _ hP hD hS _ (lv_sub hl [1, 0] rfl) kx
    refine L9 n 0 mhistory q10 hq10 _ _ hP hD hS _ (lv_sub hl [1, 0] rfl) ?_
    clear hP hD hS hl
    intro H locs hP hD hS ls hl
    refine lv_aload_n hx hb dX7_record_38 rfl (lv_at hl 0 rfl) ?_
    refine lv_dup hx hb dX7_record_39 rfl ?_
    refine va_get (D := D) (ci := 7) (v := .int mkept) (C := RX7) (T := TX7) (N := 19) hx hb hts inw_X7_record_7 hown hK hP 0 rfl rfl 2 (by decide) (hts (.fieldLink RX7 56 "RingGamesModel" "kept" "I") (List.mem_of_getElem? (i := 1) rfl)) (fun _ h9 => h9) rfl dX7_record_40 ?_
    refine lv_iconst (v := 1) hx hb dX7_record_43 (by decide) ?_
    refine lv_isub hx hb dX7_record_44 ?_
    refine va_put (D := D) (ci := 7) (v := .int (mkept - 1)) (ty := .int) (C := RX7) (T := TX7) (N := 19) hx hb hts inw_X7_record_7 tyX7 tyX7_ok nmX7 hown hK hP hD hS 0 rfl rfl 2 (by decide) (hts (.fieldLink RX7 56 "RingGamesModel" "kept" "I") (List.mem_of_getElem? (i := 1) rfl)) (fun _ h9 => h9) rfl (tyX7_ok 2 (by decide)) rfl rfl (Nat.le_of_ble_eq_true rfl) dX7_record_45 (fun H locs hP hD hS => ?_)
    have hP : va_P D vwCl ((w_M a0 cI cC mnow q10 (mkept - 1) mslot misFilled mgame mmeasures mmost mnumbers mround mtyped mtext mat mnumber mreads mbeyond mjudgedTo mreach mgoes) ++ R) H := hP
    have hD : va_D A ((w_M a0 cI cC mnow q10 (mkept - 1) mslot misFilled mgame mmeasures mmost mnumbers mround mtyped mtext mat mnumber mreads mbeyond mjudgedTo mreach mgoes) ++ R) := hD
    have hf := Option.some.inj hf
    subst hf
    exact J3 _ _ hP hD hS _ (lv_sub hl [0] rfl)
def f_X7_colourIn (mnow : (Nat → Int32)) (mgame : Int32) (p1 : Int32) : Option Int32 := (f_X7_of mnow p1 1).bind fun q1 => some ((q1 + mgame))
theorem inw_X7_colourIn_7 : ∀ w ∈ wsX70, w ∈ wsX7_colourIn := fun _ h => List.mem_cons_of_mem _ (List.mem_append_right _ h)
theorem hd_X7_colourIn : yX7_colourIn.cls = RX7 ∧ yX7_colourIn.cls ≠ "java/lang/invoke/MethodHandle" ∧ yX7_colourIn.cls ≠ "java/lang/invoke/VarHandle" ∧ (parseMethodDescriptor yX7_colourIn.desc).map (fun d => d.parameters.length) = some 1 := by decide +kernel
set_option maxHeartbeats 4000000 in
set_option maxRecDepth 100000 in
theorem c_X7_colourIn (l : Launch) (D : va_G) (cI cC cS : ClassId) (R : va_W) (a0 : Nat → Nat) (mnow : (Nat → Int32)) (mhistory : (Nat → Int32)) (mkept : Int32) (mslot : (Nat → Int32)) (misFilled : Int32) (mgame : Int32) (mmeasures : (Nat → Int32)) (mmost : (Nat → Int32)) (mnumbers : (Nat → Int32)) (mround : Int32) (mtyped : Int32) (mtext : (Nat → Int32)) (mat : Int32) (mnumber : Int32) (mreads : (Nat → Int32)) (mbeyond : Int32) (mjudgedTo : (Nat → Int32)) (mreach : (Nat → Int32)) (mgoes : (Nat → Int32)) (p1 : Int32) (r : Int32) (hf : f_X7_colourIn mnow mgame p1 = some r) : CI l yX7_colourIn wsX7_colourIn 1 22 D cI cC cS [.ref (a0 0), .int p1] ((w_M a0 cI cC mnow mhistory mkept mslot misFilled mgame mmeasures mmost mnumbers mround mtyped mtext mat mnumber mreads mbeyond mjudgedTo mreach mgoes) ++ R) r ((w_M a0 cI cC mnow mhistory mkept mslot misFilled mgame mmeasures mmost mnumbers mround mtyped mtext mat mnumber mreads mbeyond mjudgedTo mreach mgoes) ++ R) := by
  refine XI.of (cc := cX7_colourIn) (maxL := 2) (ty := .int) (own := RX7) (by decide) rfl rfl (Nat.le_of_ble_eq_true rfl) ?_
  intro p e s m args below meth c A Q S hK hN hA hP hD hS ls hl hret
  obtain ⟨hx, hb, hml, hown, hts⟩ := id S
  have hl : lv_has ls 2 [(0, .ref (a0 0)), (1, .int p1)] := hl
  unfold f_X7_colourIn at hf
  refine lv_aload_n hx hb dX7_colourIn_0 rfl (lv_at hl 0 rfl) ?_
  refine lv_iload_n hx hb dX7_colourIn_1 rfl (lv_at hl 1 rfl) ?_
  refine lv_iconst (v := 1) hx hb dX7_colourIn_2 (by decide) ?_
  obtain ⟨q1, hq1, hf⟩ := ob_some hf
  refine xcVi (w' := ((w_M a0 cI cC mnow mhistory mkept mslot misFilled mgame mmeasures mmost mnumbers mround mtyped mtext mat mnumber mreads mbeyond mjudgedTo mreach mgoes) ++ R)) S hK hN hA hP hD hS (c_X7_of l D cI cC cS R a0 mnow mhistory mkept mslot misFilled mgame mmeasures mmost mnumbers mround mtyped mtext mat mnumber mreads mbeyond mjudgedTo mreach mgoes p1 1 _ hq1) gX7_colourIn_X7_of rfl hd_X7_of ⟨by decide, by decide⟩ (List.Perm.refl _) (List.Perm.refl _) (ci := 7) (q := (RX7, TX7, 19)) rfl rfl rfl rfl hl.1 rfl (Nat.le_of_ble_eq_true rfl) dX7_colourIn_3 ⟨Nat.zero_le _, Nat.zero_le _⟩ (fun H locs hP hD hS => ?_)
  refine lv_aload_n hx hb dX7_colourIn_6 rfl (lv_at hl 0 rfl) ?_
  refine va_get (D := D) (ci := 7) (v := .int mgame) (C := RX7) (T := TX7) (N := 19) hx hb hts inw_X7_colourIn_7 hown hK hP 0 rfl rfl 5 (by decide) (hts (.fieldLink RX7 60 "RingGamesModel" "game" "I") (List.mem_of_getElem? (i := 1) rfl)) (fun _ h9 => h9) rfl dX7_colourIn_7 ?_
  refine lv_iadd hx hb dX7_colourIn_10 ?_
  have hf := Option.some.inj hf
  subst hf
  exact hret _ _ _ _ _ dX7_colourIn_11 rfl hP hD hS rfl
def f_X7_ownerIn (mnow : (Nat → Int32)) (mgame : Int32) (p1 : Int32) : Option Int32 := (if mgame = 0 then (f_X7_of mnow p1 0).bind fun q3 => some (q3) else (f_X7_of mnow p1 0).bind fun q2 => some ((1 - q2)))
theorem inw_X7_ownerIn_7 : ∀ w ∈ wsX70, w ∈ wsX7_ownerIn := fun _ h => List.mem_cons_of_mem _ (List.mem_append_right _ h)
theorem hd_X7_ownerIn : yX7_ownerIn.cls = RX7 ∧ yX7_ownerIn.cls ≠ "java/lang/invoke/MethodHandle" ∧ yX7_ownerIn.cls ≠ "java/lang/invoke/VarHandle" ∧ (parseMethodDescriptor yX7_ownerIn.desc).map (fun d => d.parameters.length) = some 1 := by decide +kernel
set_option maxHeartbeats 4000000 in
set_option maxRecDepth 100000 in
theorem c_X7_ownerIn (l : Launch) (D : va_G) (cI cC cS : ClassId) (R : va_W) (a0 : Nat → Nat) (mnow : (Nat → Int32)) (mhistory : (Nat → Int32)) (mkept : Int32) (mslot : (Nat → Int32)) (misFilled : Int32) (mgame : Int32) (mmeasures : (Nat → Int32)) (mmost : (Nat → Int32)) (mnumbers : (Nat → Int32)) (mround : Int32) (mtyped : Int32) (mtext : (Nat → Int32)) (mat : Int32) (mnumber : Int32) (mreads : (Nat → Int32)) (mbeyond : Int32) (mjudgedTo : (Nat → Int32)) (mreach : (Nat → Int32)) (mgoes : (Nat → Int32)) (p1 : Int32) (r : Int32) (hf : f_X7_ownerIn mnow mgame p1 = some r) : CI l yX7_ownerIn wsX7_ownerIn 1 22 D cI cC cS [.ref (a0 0), .int p1] ((w_M a0 cI cC mnow mhistory mkept mslot misFilled mgame mmeasures mmost mnumbers mround mtyped mtext mat mnumber mreads mbeyond mjudgedTo mreach mgoes) ++ R) r ((w_M a0 cI cC mnow mhistory mkept mslot misFilled mgame mmeasures mmost mnumbers mround mtyped mtext mat mnumber mreads mbeyond mjudgedTo mreach mgoes) ++ R) := by
  refine XI.of (cc := cX7_ownerIn) (maxL := 2) (ty := .int) (own := RX7) (by decide) rfl rfl (Nat.le_of_ble_eq_true rfl) ?_
  intro p e s m args below meth c A Q S hK hN hA hP hD hS ls hl hret
  obtain ⟨hx, hb, hml, hown, hts⟩ := id S
  have hl : lv_has ls 2 [(0, .ref (a0 0)), (1, .int p1)] := hl
  unfold f_X7_ownerIn at hf
  refine lv_aload_n hx hb dX7_ownerIn_0 rfl (lv_at hl 0 rfl) ?_
  refine va_get (D := D) (ci := 7) (v := .int mgame) (C := RX7) (T := TX7) (N := 19) hx hb hts inw_X7_ownerIn_7 hown hK hP 0 rfl rfl 5 (by decide) (hts (.fieldLink RX7 60 "RingGamesModel" "game" "I") (List.mem_of_getElem? (i := 1) rfl)) (fun _ h9 => h9) rfl dX7_ownerIn_1 ?_
  refine lv_if_ne (tgt := 16) hx hb dX7_ownerIn_4 (by decide) (fun c1 => ?_) (fun c1 => ?_)
  · have hf := if_f hf c1
    refine lv_iconst (v := 1) hx hb dX7_ownerIn_16 (by decide) ?_
    refine lv_aload_n hx hb dX7_ownerIn_17 rfl (lv_at hl 0 rfl) ?_
    refine lv_iload_n hx hb dX7_ownerIn_18 rfl (lv_at hl 1 rfl) ?_
    refine lv_iconst (v := 0) hx hb dX7_ownerIn_19 (by decide) ?_
    obtain ⟨q2, hq2, hf⟩ := ob_some hf
    refine xcVi (w' := ((w_M a0 cI cC mnow mhistory mkept mslot misFilled mgame mmeasures mmost mnumbers mround mtyped mtext mat mnumber mreads mbeyond mjudgedTo mreach mgoes) ++ R)) S hK hN hA hP hD hS (c_X7_of l D cI cC cS R a0 mnow mhistory mkept mslot misFilled mgame mmeasures mmost mnumbers mround mtyped mtext mat mnumber mreads mbeyond mjudgedTo mreach mgoes p1 0 _ hq2) gX7_ownerIn_X7_of rfl hd_X7_of ⟨by decide, by decide⟩ (List.Perm.refl _) (List.Perm.refl _) (ci := 7) (q := (RX7, TX7, 19)) rfl rfl rfl rfl hl.1 rfl (Nat.le_of_ble_eq_true rfl) dX7_ownerIn_20 ⟨Nat.zero_le _, Nat.zero_le _⟩ (fun H locs hP hD hS => ?_)
    refine lv_isub hx hb dX7_ownerIn_23 ?_
    have hf := Option.some.inj hf
    subst hf
    exact hret _ _ _ _ _ dX7_ownerIn_24 rfl hP hD hS rfl
  · have hf := if_t hf c1
    refine lv_aload_n hx hb dX7_ownerIn_7 rfl (lv_at hl 0 rfl) ?_
    refine lv_iload_n hx hb dX7_ownerIn_8 rfl (lv_at hl 1 rfl) ?_
    refine lv_iconst (v := 0) hx hb dX7_ownerIn_9 (by decide) ?_
    obtain ⟨q3, hq3, hf⟩ := ob_some hf
    refine xcVi (w' := ((w_M a0 cI cC mnow mhistory mkept mslot misFilled mgame mmeasures mmost mnumbers mround mtyped mtext mat mnumber mreads mbeyond mjudgedTo mreach mgoes) ++ R)) S hK hN hA hP hD hS (c_X7_of l D cI cC cS R a0 mnow mhistory mkept mslot misFilled mgame mmeasures mmost mnumbers mround mtyped mtext mat mnumber mreads mbeyond mjudgedTo mreach mgoes p1 0 _ hq3) gX7_ownerIn_X7_of rfl hd_X7_of ⟨by decide, by decide⟩ (List.Perm.refl _) (List.Perm.refl _) (ci := 7) (q := (RX7, TX7, 19)) rfl rfl rfl rfl hl.1 rfl (Nat.le_of_ble_eq_true rfl) dX7_ownerIn_10 ⟨Nat.zero_le _, Nat.zero_le _⟩ (fun H locs hP hD hS => ?_)
    refine lv_goto (tgt := 24) hx hb dX7_ownerIn_13 (by decide) ?_
    have hf := Option.some.inj hf
    subst hf
    exact hret _ _ _ _ _ dX7_ownerIn_24 rfl hP hD hS rfl
def f_X7_wanted_L14 (d_l1 : Int32) : Nat → Int32 → Int32 → (Nat → Int32) → Option (Nat → Int32)
  | 0, _, _, _ => none
  | k + 1, d_l3, d_l4, d_mnumbers => (if d_l4 < 0 then some (d_mnumbers) else (if ((2 * d_l4) + 1) ≤ d_l1 then vg d_l4 4 (f_X7_wanted_L14 d_l1 k (d_l3 / 15) (d_l4 + (-1)) (upd d_mnumbers (d_l4).toNatClampNeg (jrem d_l3 15))) else vg d_l4 4 (f_X7_wanted_L14 d_l1 k (d_l3 / 15) (d_l4 + (-1)) (upd d_mnumbers (d_l4).toNatClampNeg 0))))
def f_X7_wanted_L80 (d_mmost : (Nat → Int32)) : Nat → Int32 → (Nat → Int32) → Option (Int32 × (Nat → Int32))
  | 0, _, _ => none
  | k + 1, d_l4, d_mnumbers => (if d_l4 < 0 then some (d_l4, d_mnumbers) else vg d_l4 4 ((if (d_mnumbers (d_l4).toNatClampNeg) ≤ (d_mmost (d_l4).toNatClampNeg) then some (d_l4, d_mnumbers) else (if (d_l4 + (-1)) < 0 then f_X7_wanted_L80 d_mmost k (d_l4 + (-1)) (upd d_mnumbers (d_l4).toNatClampNeg 0) else vg (d_l4 + (-1)) 4 (lt (upd (upd d_mnumbers (d_l4).toNatClampNeg 0) ((d_l4 + (-1))).toNatClampNeg (((upd d_mnumbers (d_l4).toNatClampNeg 0) ((d_l4 + (-1))).toNatClampNeg) + 1)) fun g15 => f_X7_wanted_L80 d_mmost k (d_l4 + (-1)) g15)))))
def f_X7_wanted (n : Nat) (mmost : (Nat → Int32)) (mnumbers : (Nat → Int32)) (p1 : Int32) (p2 : Int32) : Option (Int32 × (Nat → Int32)) := (if p2 = 50625 then some (50625, mnumbers) else (f_X7_wanted_L14 p1 n p2 3 mnumbers).bind fun q3 => (if (jrem p1 2) = 1 then vg ((p1 - 1) / 2) 4 ((f_X7_wanted_L80 mmost n ((p1 - 1) / 2) (upd q3 (((p1 - 1) / 2)).toNatClampNeg ((q3 (((p1 - 1) / 2)).toNatClampNeg) + 1))).bind fun q11 => (if 0 ≤ q11.1 then some (((15 * ((15 * ((15 * (q11.2 0)) + (q11.2 1))) + (q11.2 2))) + (q11.2 3)), q11.2) else some (50625, q11.2))) else some (((15 * ((15 * ((15 * (q3 0)) + (q3 1))) + (q3 2))) + (q3 3)), q3)))
theorem inw_X7_wanted_7 : ∀ w ∈ wsX70, w ∈ wsX7_wanted := fun _ h => List.mem_cons_of_mem _ (List.mem_append_right _ h)
theorem hd_X7_wanted : yX7_wanted.cls = RX7 ∧ yX7_wanted.cls ≠ "java/lang/invoke/MethodHandle" ∧ yX7_wanted.cls ≠ "java/lang/invoke/VarHandle" ∧ (parseMethodDescriptor yX7_wanted.desc).map (fun d => d.parameters.length) = some 2 := by decide +kernel
set_option maxHeartbeats 4000000 in
set_option maxRecDepth 100000 in
theorem c_X7_wanted (l : Launch) (D : va_G) (cI cC cS : ClassId) (R : va_W) (a0 : Nat → Nat) (mnow : (Nat → Int32)) (mhistory : (Nat → Int32)) (mkept : Int32) (mslot : (Nat → Int32)) (misFilled : Int32) (mgame : Int32) (mmeasures : (Nat → Int32)) (mmost : (Nat → Int32)) (mnumbers : (Nat → Int32)) (mround : Int32) (mtyped : Int32) (mtext : (Nat → Int32)) (mat : Int32) (mnumber : Int32) (mreads : (Nat → Int32)) (mbeyond : Int32) (mjudgedTo : (Nat → Int32)) (mreach : (Nat → Int32)) (mgoes : (Nat → Int32)) (p1 : Int32) (p2 : Int32) (n : Nat) (r : Int32 × (Nat → Int32)) (hf : f_X7_wanted n mmost mnumbers p1 p2 = some r) : CI l yX7_wanted wsX7_wanted 0 0 D cI cC cS [.ref (a0 0), .int p1, .int p2] ((w_M a0 cI cC mnow mhistory mkept mslot misFilled mgame mmeasures mmost mnumbers mround mtyped mtext mat mnumber mreads mbeyond mjudgedTo mreach mgoes) ++ R) r.1 ((w_M a0 cI cC mnow mhistory mkept mslot misFilled mgame mmeasures mmost r.2 mround mtyped mtext mat mnumber mreads mbeyond mjudgedTo mreach mgoes) ++ R) := by
  refine XI.of (cc := cX7_wanted) (maxL := 5) (ty := .int) (own := RX7) (by decide) rfl rfl (Nat.le_of_ble_eq_true rfl) ?_
  intro p e s m args below meth c A Q S hK hN hA hP hD hS ls hl hret
  obtain ⟨hx, hb, hml, hown, hts⟩ := id S
  have hl : lv_has ls 5 [(0, .ref (a0 0)), (1, .int p1), (2, .int p2)] := hl
  unfold f_X7_wanted at hf
  refine lv_iload_n hx hb dX7_wanted_0 rfl (lv_at hl 2 rfl) ?_
  refine lv_ldc hx hb hown (hts (.constant RX7 63 (50625)) (List.mem_of_getElem? (i := 1) rfl)) dX7_wanted_1 ?_
  refine lv_icmp_ne (tgt := 9) hx hb dX7_wanted_3 (by decide) (fun c1 => ?_) (fun c1 => ?_)
  · have hf := if_f hf c1
    refine lv_iload_n hx hb dX7_wanted_9 rfl (lv_at hl 2 rfl) ?_
    refine lv_istore_n (lv' := [(3, .int p2), (0, .ref (a0 0)), (1, .int p1), (2, .int p2)]) hx hb dX7_wanted_10 rfl hl (by decide) rfl (fun ls hl => ?_)
    refine lv_iconst (v := 3) hx hb dX7_wanted_11 (by decide) ?_
    refine lv_istore (lv' := [(4, .int 3), (3, .int p2), (0, .ref (a0 0)), (1, .int p1), (2, .int p2)]) hx hb dX7_wanted_12 hl (by decide) rfl (fun ls hl => ?_)
    obtain ⟨q3, hq3, hf⟩ := ob_some hf
    have L2 : ∀ (k : Nat) (v_l3_L2 : Int32) (v_l4_L2 : Int32) (v_mnumbers_L2 : (Nat → Int32)) (q_L2 : (Nat → Int32)), f_X7_wanted_L14 p1 k v_l3_L2 v_l4_L2 v_mnumbers_L2 = some q_L2 → ∀ (H : Heap) (locs : List Loc), va_P D vwCl ((w_M a0 cI cC mnow mhistory mkept mslot misFilled mgame mmeasures mmost v_mnumbers_L2 mround mtyped mtext mat mnumber mreads mbeyond mjudgedTo mreach mgoes) ++ R) H → va_D A ((w_M a0 cI cC mnow mhistory mkept mslot misFilled mgame mmeasures mmost v_mnumbers_L2 mround mtyped mtext mat mnumber mreads mbeyond mjudgedTo mreach mgoes) ++ R) → va_S A s.heap H locs → ∀ ls : Array Slot, lv_has ls 5 [(0, .ref (a0 0)), (1, .int p1), (3, .int v_l3_L2), (4, .int v_l4_L2)] → (∀ (H : Heap) (locs : List Loc), va_P D vwCl ((w_M a0 cI cC mnow mhistory mkept mslot misFilled mgame mmeasures mmost q_L2 mround mtyped mtext mat mnumber mreads mbeyond mjudgedTo mreach mgoes) ++ R) H → va_D A ((w_M a0 cI cC mnow mhistory mkept mslot misFilled mgame mmeasures mmost q_L2 mround mtyped mtext mat mnumber mreads mbeyond mjudgedTo mreach mgoes) ++ R) → va_S A s.heap H locs → ∀ ls : Array Slot, lv_has ls 5 [(0, .ref (a0 0)), (1, .int p1)] → W p l e (xR 0 0) s m args below meth c H locs 0 0 Q (F0 m 55 ls [])) → W p l e (xR 0 0) s m args below meth c H locs 0 0 Q (F0 m 14 ls []) := by
      intro k
      induction k with
      | zero => intro v_l3_L2 v_l4_L2 v_mnumbers_L2 q_L2 hf; simp [f_X7_wanted_L14] at hf
      | succ k ih =>
        intro v_l3_L2 v_l4_L2 v_mnumbers_L2 q_L2 hf H locs hP hD hS ls hl kx
        rw [f_X7_wanted_L14] at hf
        refine lv_iload hx hb dX7_wanted_14 (lv_at hl 3 rfl) ?_
        refine lv_if_lt (tgt := 55) hx hb dX7_wanted_16 (by decide) (fun c4 => ?_) (fun c4 => ?_)
        · have hf := if_t hf c4
          have hf := Option.some.inj hf
          subst hf
          exact kx _ _ hP hD hS _ (lv_sub hl [0, 1] rfl)
        · have hf := if_f hf c4
          refine lv_aload_n hx hb dX7_wanted_19 rfl (lv_at hl 0 rfl) ?_
          refine va_get (D := D) (ci := 7) (v := .ref (a0 6)) (C := RX7) (T := TX7) (N := 19) hx hb hts inw_X7_wanted_7 hown hK hP 0 rfl rfl 8 (by decide) (hts (.fieldLink RX7 25 "RingGamesModel" "numbers" "[I") (List.mem_of_getElem? (i := 2) rfl)) (fun _ h9 => h9) rfl dX7_wanted_20 ?_
          refine lv_iload hx hb dX7_wanted_23 (lv_at hl 3 rfl) ?_
          refine lv_iconst (v := 2) hx hb dX7_wanted_25 (by decide) ?_
          refine lv_iload hx hb dX7_wanted_26 (lv_at hl 3 rfl) ?_
          refine lv_imul hx hb dX7_wanted_28 ?_
          refine lv_iconst (v := 1) hx hb dX7_wanted_29 (by decide) ?_
          refine lv_iadd hx hb dX7_wanted_30 ?_
          refine lv_iload_n hx hb dX7_wanted_31 rfl (lv_at hl 1 rfl) ?_
          refine lv_icmp_le (tgt := 39) hx hb dX7_wanted_32 (by decide) (fun c5 => ?_) (fun c5 => ?_)
          · have hf := if_t hf c5
            refine lv_iload_n hx hb dX7_wanted_39 rfl (lv_at hl 2 rfl) ?_
            refine lv_bipush (v := 15) hx hb dX7_wanted_40 (by decide) ?_
            refine lv_irem hx hb dX7_wanted_42 (by decide) ?_
            obtain ⟨g6, hf⟩ := vg_some hf
            refine va_iast hx hb hK hP hD hS 6 0 rfl rfl g6 dX7_wanted_43 (fun H locs hP hD hS => ?_)
            have hP : va_P D vwCl ((w_M a0 cI cC mnow mhistory mkept mslot misFilled mgame mmeasures mmost (upd v_mnumbers_L2 (v_l4_L2).toNatClampNeg (jrem v_l3_L2 15)) mround mtyped mtext mat mnumber mreads mbeyond mjudgedTo mreach mgoes) ++ R) H := hP
            have hD : va_D A ((w_M a0 cI cC mnow mhistory mkept mslot misFilled mgame mmeasures mmost (upd v_mnumbers_L2 (v_l4_L2).toNatClampNeg (jrem v_l3_L2 15)) mround mtyped mtext mat mnumber mreads mbeyond mjudgedTo mreach mgoes) ++ R) := hD
            refine lv_iload_n hx hb dX7_wanted_44 rfl (lv_at hl 2 rfl) ?_
            refine lv_bipush (v := 15) hx hb dX7_wanted_45 (by decide) ?_
            refine lv_idiv hx hb dX7_wanted_47 (by decide) ?_
            refine lv_istore_n (lv' := [(3, .int (v_l3_L2 / 15)), (0, .ref (a0 0)), (1, .int p1), (4, .int v_l4_L2)]) hx hb dX7_wanted_48 rfl hl (by decide) rfl (fun ls hl => ?_)
            refine lv_iinc (v := (v_l4_L2 + (-1))) (lv' := [(4, .int (v_l4_L2 + (-1))), (3, .int (v_l3_L2 / 15)), (0, .ref (a0 0)), (1, .int p1)]) hx hb dX7_wanted_49 hl (k := 3) rfl (congrArg (fun z => v_l4_L2 + z) (by decide)) (by decide) rfl (fun ls hl => ?_)
            refine lv_goto (tgt := 14) hx hb dX7_wanted_52 (by decide) ?_
            exact ih (v_l3_L2 / 15) (v_l4_L2 + (-1)) (upd v_mnumbers_L2 (v_l4_L2).toNatClampNeg (jrem v_l3_L2 15)) _ hf _ _ hP hD hS _ (lv_sub hl [2, 3, 1, 0] rfl) kx
          · have hf := if_f hf c5
            refine lv_iconst (v := 0) hx hb dX7_wanted_35 (by decide) ?_
            refine lv_goto (tgt := 43) hx hb dX7_wanted_36 (by decide) ?_
            obtain ⟨g7, hf⟩ := vg_some hf
            refine va_iast hx hb hK hP hD hS 6 0 rfl rfl g7 dX7_wanted_43 (fun H locs hP hD hS => ?_)
            have hP : va_P D vwCl ((w_M a0 cI cC mnow mhistory mkept mslot misFilled mgame mmeasures mmost (upd v_mnumbers_L2 (v_l4_L2).toNatClampNeg 0) mround mtyped mtext mat mnumber mreads mbeyond mjudgedTo mreach mgoes) ++ R) H := hP
            have hD : va_D A ((w_M a0 cI cC mnow mhistory mkept mslot misFilled mgame mmeasures mmost (upd v_mnumbers_L2 (v_l4_L2).toNatClampNeg 0) mround mtyped mtext mat mnumber mreads mbeyond mjudgedTo mreach mgoes) ++ R) := hD
            refine lv_iload_n hx hb dX7_wanted_44 rfl (lv_at hl 2 rfl) ?_
            refine lv_bipush (v := 15) hx hb dX7_wanted_45 (by decide) ?_
            refine lv_idiv hx hb dX7_wanted_47 (by decide) ?_
            refine lv_istore_n (lv' := [(3, .int (v_l3_L2 / 15)), (0, .ref (a0 0)), (1, .int p1), (4, .int v_l4_L2)]) hx hb dX7_wanted_48 rfl hl (by decide) rfl (fun ls hl => ?_)
            refine lv_iinc (v := (v_l4_L2 + (-1))) (lv' := [(4, .int (v_l4_L2 + (-1))), (3, .int (v_l3_L2 / 15)), (0, .ref (a0 0)), (1, .int p1)]) hx hb dX7_wanted_49 hl (k := 3) rfl (congrArg (fun z => v_l4_L2 + z) (by decide)) (by decide) rfl (fun ls hl => ?_)
            refine lv_goto (tgt := 14) hx hb dX7_wanted_52 (by decide) ?_
            exact ih (v_l3_L2 / 15) (v_l4_L2 + (-1)) (upd v_mnumbers_L2 (v_l4_L2).toNatClampNeg 0) _ hf _ _ hP hD hS _ (lv_sub hl [2, 3, 1, 0] rfl) kx
    refine L2 n p2 3 mnumbers q3 hq3 _ _ hP hD hS _ (lv_sub hl [2, 3, 1, 0] rfl) ?_
    clear hP hD hS hl
    intro H locs hP hD hS ls hl
    refine lv_iload_n hx hb dX7_wanted_55 rfl (lv_at hl 1 rfl) ?_
    refine lv_iconst (v := 2) hx hb dX7_wanted_56 (by decide) ?_
    refine lv_irem hx hb dX7_wanted_57 (by decide) ?_
    refine lv_iconst (v := 1) hx hb dX7_wanted_58 (by decide) ?_
    refine lv_icmp_ne (tgt := 140) hx hb dX7_wanted_59 (by decide) (fun c8 => ?_) (fun c8 => ?_)
    · have hf := if_f hf c8
      refine lv_bipush (v := 15) hx hb dX7_wanted_140 (by decide) ?_
      refine lv_bipush (v := 15) hx hb dX7_wanted_142 (by decide) ?_
      refine lv_bipush (v := 15) hx hb dX7_wanted_144 (by decide) ?_
      refine lv_aload_n hx hb dX7_wanted_146 rfl (lv_at hl 0 rfl) ?_
      refine va_get (D := D) (ci := 7) (v := .ref (a0 6)) (C := RX7) (T := TX7) (N := 19) hx hb hts inw_X7_wanted_7 hown hK hP 0 rfl rfl 8 (by decide) (hts (.fieldLink RX7 25 "RingGamesModel" "numbers" "[I") (List.mem_of_getElem? (i := 2) rfl)) (fun _ h9 => h9) rfl dX7_wanted_147 ?_
      refine lv_iconst (v := 0) hx hb dX7_wanted_150 (by decide) ?_
      refine va_iald hx hb hK hP 6 0 rfl rfl (x_in (by decide)) dX7_wanted_151 ?_
      refine lv_imul hx hb dX7_wanted_152 ?_
      refine lv_aload_n hx hb dX7_wanted_153 rfl (lv_at hl 0 rfl) ?_
      refine va_get (D := D) (ci := 7) (v := .ref (a0 6)) (C := RX7) (T := TX7) (N := 19) hx hb hts inw_X7_wanted_7 hown hK hP 0 rfl rfl 8 (by decide) (hts (.fieldLink RX7 25 "RingGamesModel" "numbers" "[I") (List.mem_of_getElem? (i := 2) rfl)) (fun _ h9 => h9) rfl dX7_wanted_154 ?_
      refine lv_iconst (v := 1) hx hb dX7_wanted_157 (by decide) ?_
      refine va_iald hx hb hK hP 6 0 rfl rfl (x_in (by decide)) dX7_wanted_158 ?_
      refine lv_iadd hx hb dX7_wanted_159 ?_
      refine lv_imul hx hb dX7_wanted_160 ?_
      refine lv_aload_n hx hb dX7_wanted_161 rfl (lv_at hl 0 rfl) ?_
      refine va_get (D := D) (ci := 7) (v := .ref (a0 6)) (C := RX7) (T := TX7) (N := 19) hx hb hts inw_X7_wanted_7 hown hK hP 0 rfl rfl 8 (by decide) (hts (.fieldLink RX7 25 "RingGamesModel" "numbers" "[I") (List.mem_of_getElem? (i := 2) rfl)) (fun _ h9 => h9) rfl dX7_wanted_162 ?_
      refine lv_iconst (v := 2) hx hb dX7_wanted_165 (by decide) ?_
      refine va_iald hx hb hK hP 6 0 rfl rfl (x_in (by decide)) dX7_wanted_166 ?_
      refine lv_iadd hx hb dX7_wanted_167 ?_
      refine lv_imul hx hb dX7_wanted_168 ?_
      refine lv_aload_n hx hb dX7_wanted_169 rfl (lv_at hl 0 rfl) ?_
      refine va_get (D := D) (ci := 7) (v := .ref (a0 6)) (C := RX7) (T := TX7) (N := 19) hx hb hts inw_X7_wanted_7 hown hK hP 0 rfl rfl 8 (by decide) (hts (.fieldLink RX7 25 "RingGamesModel" "numbers" "[I") (List.mem_of_getElem? (i := 2) rfl)) (fun _ h9 => h9) rfl dX7_wanted_170 ?_
      refine lv_iconst (v := 3) hx hb dX7_wanted_173 (by decide) ?_
      refine va_iald hx hb hK hP 6 0 rfl rfl (x_in (by decide)) dX7_wanted_174 ?_
      refine lv_iadd hx hb dX7_wanted_175 ?_
      have hf := Option.some.inj hf
      subst hf
      exact hret _ _ _ _ _ dX7_wanted_176 rfl hP hD hS rfl
    · have hf := if_t hf c8
      refine lv_iload_n hx hb dX7_wanted_62 rfl (lv_at hl 1 rfl) ?_
      refine lv_iconst (v := 1) hx hb dX7_wanted_63 (by decide) ?_
      refine lv_isub hx hb dX7_wanted_64 ?_
      refine lv_iconst (v := 2) hx hb dX7_wanted_65 (by decide) ?_
      refine lv_idiv hx hb dX7_wanted_66 (by decide) ?_
      refine lv_istore (lv' := [(4, .int ((p1 - 1) / 2)), (0, .ref (a0 0)), (1, .int p1)]) hx hb dX7_wanted_67 hl (by decide) rfl (fun ls hl => ?_)
      refine lv_aload_n hx hb dX7_wanted_69 rfl (lv_at hl 1 rfl) ?_
      refine va_get (D := D) (ci := 7) (v := .ref (a0 6)) (C := RX7) (T := TX7) (N := 19) hx hb hts inw_X7_wanted_7 hown hK hP 0 rfl rfl 8 (by decide) (hts (.fieldLink RX7 25 "RingGamesModel" "numbers" "[I") (List.mem_of_getElem? (i := 2) rfl)) (fun _ h9 => h9) rfl dX7_wanted_70 ?_
      refine lv_iload hx hb dX7_wanted_73 (lv_at hl 0 rfl) ?_
      refine lv_dup2_11 hx hb dX7_wanted_75 rfl rfl ?_
      obtain ⟨g9, hf⟩ := vg_some hf
      refine va_iald hx hb hK hP 6 0 rfl rfl g9 dX7_wanted_76 ?_
      refine lv_iconst (v := 1) hx hb dX7_wanted_77 (by decide) ?_
      refine lv_iadd hx hb dX7_wanted_78 ?_
      refine va_iast hx hb hK hP hD hS 6 0 rfl rfl g9 dX7_wanted_79 (fun H locs hP hD hS => ?_)
      have hP : va_P D vwCl ((w_M a0 cI cC mnow mhistory mkept mslot misFilled mgame mmeasures mmost (upd q3 (((p1 - 1) / 2)).toNatClampNeg ((q3 (((p1 - 1) / 2)).toNatClampNeg) + 1)) mround mtyped mtext mat mnumber mreads mbeyond mjudgedTo mreach mgoes) ++ R) H := hP
      have hD : va_D A ((w_M a0 cI cC mnow mhistory mkept mslot misFilled mgame mmeasures mmost (upd q3 (((p1 - 1) / 2)).toNatClampNeg ((q3 (((p1 - 1) / 2)).toNatClampNeg) + 1)) mround mtyped mtext mat mnumber mreads mbeyond mjudgedTo mreach mgoes) ++ R) := hD
      obtain ⟨q11, hq11, hf⟩ := ob_some hf
      have L10 : ∀ (k : Nat) (v_l4_L10 : Int32) (v_mnumbers_L10 : (Nat → Int32)) (q_L10 : Int32 × (Nat → Int32)), f_X7_wanted_L80 mmost k v_l4_L10 v_mnumbers_L10 = some q_L10 → ∀ (H : Heap) (locs : List Loc), va_P D vwCl ((w_M a0 cI cC mnow mhistory mkept mslot misFilled mgame mmeasures mmost v_mnumbers_L10 mround mtyped mtext mat mnumber mreads mbeyond mjudgedTo mreach mgoes) ++ R) H → va_D A ((w_M a0 cI cC mnow mhistory mkept mslot misFilled mgame mmeasures mmost v_mnumbers_L10 mround mtyped mtext mat mnumber mreads mbeyond mjudgedTo mreach mgoes) ++ R) → va_S A s.heap H locs → ∀ ls : Array Slot, lv_has ls 5 [(0, .ref (a0 0)), (4, .int v_l4_L10)] → (∀ (H : Heap) (locs : List Loc), va_P D vwCl ((w_M a0 cI cC mnow mhistory mkept mslot misFilled mgame mmeasures mmost q_L10.2 mround mtyped mtext mat mnumber mreads mbeyond mjudgedTo mreach mgoes) ++ R) H → va_D A ((w_M a0 cI cC mnow mhistory mkept mslot misFilled mgame mmeasures mmost q_L10.2 mround mtyped mtext mat mnumber mreads mbeyond mjudgedTo mreach mgoes) ++ R) → va_S A s.heap H locs → ∀ ls : Array Slot, lv_has ls 5 [(0, .ref (a0 0)), (4, .int q_L10.1)] → W p l e (xR 0 0) s m args below meth c H locs 0 0 Q (F0 m 132 ls [])) → W p l e (xR 0 0) s m args below meth c H locs 0 0 Q (F0 m 80 ls []) := by
        intro k
        induction k with
        | zero => intro v_l4_L10 v_mnumbers_L10 q_L10 hf; simp [f_X7_wanted_L80] at hf
        | succ k ih =>
          intro v_l4_L10 v_mnumbers_L10 q_L10 hf H locs hP hD hS ls hl kx
          rw [f_X7_wanted_L80] at hf
          refine lv_iload hx hb dX7_wanted_80 (lv_at hl 1 rfl) ?_
          refine lv_if_lt (tgt := 132) hx hb dX7_wanted_82 (by decide) (fun c12 => ?_) (fun c12 => ?_)
          · have hf := if_t hf c12
            have hf := Option.some.inj hf
            subst hf
            exact kx _ _ hP hD hS _ (lv_sub hl [0, 1] rfl)
          · have hf := if_f hf c12
            refine lv_aload_n hx hb dX7_wanted_85 rfl (lv_at hl 0 rfl) ?_
            refine va_get (D := D) (ci := 7) (v := .ref (a0 6)) (C := RX7) (T := TX7) (N := 19) hx hb hts inw_X7_wanted_7 hown hK hP 0 rfl rfl 8 (by decide) (hts (.fieldLink RX7 25 "RingGamesModel" "numbers" "[I") (List.mem_of_getElem? (i := 2) rfl)) (fun _ h9 => h9) rfl dX7_wanted_86 ?_
            refine lv_iload hx hb dX7_wanted_89 (lv_at hl 1 rfl) ?_
            obtain ⟨g13, hf⟩ := vg_some hf
            refine va_iald hx hb hK hP 6 0 rfl rfl g13 dX7_wanted_91 ?_
            refine lv_aload_n hx hb dX7_wanted_92 rfl (lv_at hl 0 rfl) ?_
            refine va_get (D := D) (ci := 7) (v := .ref (a0 5)) (C := RX7) (T := TX7) (N := 19) hx hb hts inw_X7_wanted_7 hown hK hP 0 rfl rfl 7 (by decide) (hts (.fieldLink RX7 22 "RingGamesModel" "most" "[I") (List.mem_of_getElem? (i := 3) rfl)) (fun _ h9 => h9) rfl dX7_wanted_93 ?_
            refine lv_iload hx hb dX7_wanted_96 (lv_at hl 1 rfl) ?_
            refine va_iald hx hb hK hP 5 0 rfl rfl g13 dX7_wanted_98 ?_
            refine lv_icmp_le (tgt := 132) hx hb dX7_wanted_99 (by decide) (fun c14 => ?_) (fun c14 => ?_)
            · have hf := if_t hf c14
              have hf := Option.some.inj hf
              subst hf
              exact kx _ _ hP hD hS _ (lv_sub hl [0, 1] rfl)
            · have hf := if_f hf c14
              refine lv_aload_n hx hb dX7_wanted_102 rfl (lv_at hl 0 rfl) ?_
              refine va_get (D := D) (ci := 7) (v := .ref (a0 6)) (C := RX7) (T := TX7) (N := 19) hx hb hts inw_X7_wanted_7 hown hK hP 0 rfl rfl 8 (by decide) (hts (.fieldLink RX7 25 "RingGamesModel" "numbers" "[I") (List.mem_of_getElem? (i := 2) rfl)) (fun _ h9 => h9) rfl dX7_wanted_103 ?_
              refine lv_iload hx hb dX7_wanted_106 (lv_at hl 1 rfl) ?_
              refine lv_iconst (v := 0) hx hb dX7_wanted_108 (by decide) ?_
              refine va_iast hx hb hK hP hD hS 6 0 rfl rfl g13 dX7_wanted_109 (fun H locs hP hD hS => ?_)
              have hP : va_P D vwCl ((w_M a0 cI cC mnow mhistory mkept mslot misFilled mgame mmeasures mmost (upd v_mnumbers_L10 (v_l4_L10).toNatClampNeg 0) mround mtyped mtext mat mnumber mreads mbeyond mjudgedTo mreach mgoes) ++ R) H := hP
              have hD : va_D A ((w_M a0 cI cC mnow mhistory mkept mslot misFilled mgame mmeasures mmost (upd v_mnumbers_L10 (v_l4_L10).toNatClampNeg 0) mround mtyped mtext mat mnumber mreads mbeyond mjudgedTo mreach mgoes) ++ R) := hD
              refine lv_iinc (v := (v_l4_L10 + (-1))) (lv' := [(4, .int (v_l4_L10 + (-1))), (0, .ref (a0 0))]) hx hb dX7_wanted_110 hl (k := 1) rfl (congrArg (fun z => v_l4_L10 + z) (by decide)) (by decide) rfl (fun ls hl => ?_)
              refine lv_iload hx hb dX7_wanted_113 (lv_at hl 0 rfl) ?_
              refine lv_if_lt (tgt := 80) hx hb dX7_wanted_115 (by decide) (fun c15 => ?_) (fun c15 => ?_)
              · have hf := if_t hf c15
                exact ih (v_l4_L10 + (-1)) (upd v_mnumbers_L10 (v_l4_L10).toNatClampNeg 0) _ hf _ _ hP hD hS _ (lv_sub hl [1, 0] rfl) kx
              · have hf := if_f hf c15
                refine lv_aload_n hx hb dX7_wanted_118 rfl (lv_at hl 1 rfl) ?_
                refine va_get (D := D) (ci := 7) (v := .ref (a0 6)) (C := RX7) (T := TX7) (N := 19) hx hb hts inw_X7_wanted_7 hown hK hP 0 rfl rfl 8 (by decide) (hts (.fieldLink RX7 25 "RingGamesModel" "numbers" "[I") (List.mem_of_getElem? (i := 2) rfl)) (fun _ h9 => h9) rfl dX7_wanted_119 ?_
                refine lv_iload hx hb dX7_wanted_122 (lv_at hl 0 rfl) ?_
                refine lv_dup2_11 hx hb dX7_wanted_124 rfl rfl ?_
                obtain ⟨g16, hf⟩ := vg_some hf
                refine va_iald hx hb hK hP 6 0 rfl rfl g16 dX7_wanted_125 ?_
                refine lv_iconst (v := 1) hx hb dX7_wanted_126 (by decide) ?_
                refine lv_iadd hx hb dX7_wanted_127 ?_
                refine va_iast hx hb hK hP hD hS 6 0 rfl rfl g16 dX7_wanted_128 (fun H locs hP hD hS => ?_)
                obtain ⟨g17, eg17, hf⟩ := lt_some hf
                have hP : va_P D vwCl ((w_M a0 cI cC mnow mhistory mkept mslot misFilled mgame mmeasures mmost g17 mround mtyped mtext mat mnumber mreads mbeyond mjudgedTo mreach mgoes) ++ R) H := by rw [eg17]; exact hP
                have hD : va_D A ((w_M a0 cI cC mnow mhistory mkept mslot misFilled mgame mmeasures mmost g17 mround mtyped mtext mat mnumber mreads mbeyond mjudgedTo mreach mgoes) ++ R) := by rw [eg17]; exact hD
                refine lv_goto (tgt := 80) hx hb dX7_wanted_129 (by decide) ?_
                exact ih (v_l4_L10 + (-1)) g17 _ hf _ _ hP hD hS _ (lv_sub hl [1, 0] rfl) kx
      refine L10 n ((p1 - 1) / 2) (upd q3 (((p1 - 1) / 2)).toNatClampNeg ((q3 (((p1 - 1) / 2)).toNatClampNeg) + 1)) q11 hq11 _ _ hP hD hS _ (lv_sub hl [1, 0] rfl) ?_
      clear hP hD hS hl
      intro H locs hP hD hS ls hl
      refine lv_iload hx hb dX7_wanted_132 (lv_at hl 1 rfl) ?_
      refine lv_if_ge (tgt := 140) hx hb dX7_wanted_134 (by decide) (fun c18 => ?_) (fun c18 => ?_)
      · have hf := if_t hf c18
        refine lv_bipush (v := 15) hx hb dX7_wanted_140 (by decide) ?_
        refine lv_bipush (v := 15) hx hb dX7_wanted_142 (by decide) ?_
        refine lv_bipush (v := 15) hx hb dX7_wanted_144 (by decide) ?_
        refine lv_aload_n hx hb dX7_wanted_146 rfl (lv_at hl 0 rfl) ?_
        refine va_get (D := D) (ci := 7) (v := .ref (a0 6)) (C := RX7) (T := TX7) (N := 19) hx hb hts inw_X7_wanted_7 hown hK hP 0 rfl rfl 8 (by decide) (hts (.fieldLink RX7 25 "RingGamesModel" "numbers" "[I") (List.mem_of_getElem? (i := 2) rfl)) (fun _ h9 => h9) rfl dX7_wanted_147 ?_
        refine lv_iconst (v := 0) hx hb dX7_wanted_150 (by decide) ?_
        refine va_iald hx hb hK hP 6 0 rfl rfl (x_in (by decide)) dX7_wanted_151 ?_
        refine lv_imul hx hb dX7_wanted_152 ?_
        refine lv_aload_n hx hb dX7_wanted_153 rfl (lv_at hl 0 rfl) ?_
        refine va_get (D := D) (ci := 7) (v := .ref (a0 6)) (C := RX7) (T := TX7) (N := 19) hx hb hts inw_X7_wanted_7 hown hK hP 0 rfl rfl 8 (by decide) (hts (.fieldLink RX7 25 "RingGamesModel" "numbers" "[I") (List.mem_of_getElem? (i := 2) rfl)) (fun _ h9 => h9) rfl dX7_wanted_154 ?_
        refine lv_iconst (v := 1) hx hb dX7_wanted_157 (by decide) ?_
        refine va_iald hx hb hK hP 6 0 rfl rfl (x_in (by decide)) dX7_wanted_158 ?_
        refine lv_iadd hx hb dX7_wanted_159 ?_
        refine lv_imul hx hb dX7_wanted_160 ?_
        refine lv_aload_n hx hb dX7_wanted_161 rfl (lv_at hl 0 rfl) ?_
        refine va_get (D := D) (ci := 7) (v := .ref (a0 6)) (C := RX7) (T := TX7) (N := 19) hx hb hts inw_X7_wanted_7 hown hK hP 0 rfl rfl 8 (by decide) (hts (.fieldLink RX7 25 "RingGamesModel" "numbers" "[I") (List.mem_of_getElem? (i := 2) rfl)) (fun _ h9 => h9) rfl dX7_wanted_162 ?_
        refine lv_iconst (v := 2) hx hb dX7_wanted_165 (by decide) ?_
        refine va_iald hx hb hK hP 6 0 rfl rfl (x_in (by decide)) dX7_wanted_166 ?_
        refine lv_iadd hx hb dX7_wanted_167 ?_
        refine lv_imul hx hb dX7_wanted_168 ?_
        refine lv_aload_n hx hb dX7_wanted_169 rfl (lv_at hl 0 rfl) ?_
        refine va_get (D := D) (ci := 7) (v := .ref (a0 6)) (C := RX7) (T := TX7) (N := 19) hx hb hts inw_X7_wanted_7 hown hK hP 0 rfl rfl 8 (by decide) (hts (.fieldLink RX7 25 "RingGamesModel" "numbers" "[I") (List.mem_of_getElem? (i := 2) rfl)) (fun _ h9 => h9) rfl dX7_wanted_170 ?_
        refine lv_iconst (v := 3) hx hb dX7_wanted_173 (by decide) ?_
        refine va_iald hx hb hK hP 6 0 rfl rfl (x_in (by decide)) dX7_wanted_174 ?_
        refine lv_iadd hx hb dX7_wanted_175 ?_
        have hf := Option.some.inj hf
        subst hf
        exact hret _ _ _ _ _ dX7_wanted_176 rfl hP hD hS rfl
      · have hf := if_f hf c18
        refine lv_ldc hx hb hown (hts (.constant RX7 63 (50625)) (List.mem_of_getElem? (i := 1) rfl)) dX7_wanted_137 ?_
        have hf := Option.some.inj hf
        subst hf
        exact hret _ _ _ _ _ dX7_wanted_139 rfl hP hD hS rfl
  · have hf := if_t hf c1
    refine lv_ldc hx hb hown (hts (.constant RX7 63 (50625)) (List.mem_of_getElem? (i := 1) rfl)) dX7_wanted_6 ?_
    have hf := Option.some.inj hf
    subst hf
    exact hret _ _ _ _ _ dX7_wanted_8 rfl hP hD hS rfl
def f_X7_asks_L28 (n : Nat) (d_mnow : (Nat → Int32)) (d_mgame : Int32) (d_mmeasures : (Nat → Int32)) (d_mmost : (Nat → Int32)) (d_l1 : Int32) (d_l2 : Int32) : Nat → Int32 → Int32 → (Nat → Int32) → Option (Int32 × (Nat → Int32))
  | 0, _, _, _ => none
  | k + 1, d_l3, d_l4, d_mnumbers => (if (d_mnow 56) ≤ d_l4 then some (d_l3, d_mnumbers) else (f_X7_hasArrow d_mnow d_l1 d_l4).bind fun q9 => (if q9 = 0 then f_X7_asks_L28 n d_mnow d_mgame d_mmeasures d_mmost d_l1 d_l2 k d_l3 (d_l4 + 1) d_mnumbers else (f_X7_colourIn d_mnow d_mgame d_l1).bind fun q11 => vg d_l4 14 ((f_X7_wanted n d_mmost d_mnumbers q11 (d_mmeasures (d_l4).toNatClampNeg)).bind fun q13 => (if d_l2 = 0 then (if q13.1 ≤ d_l3 then f_X7_asks_L28 n d_mnow d_mgame d_mmeasures d_mmost d_l1 d_l2 k d_l3 (d_l4 + 1) q13.2 else f_X7_asks_L28 n d_mnow d_mgame d_mmeasures d_mmost d_l1 d_l2 k q13.1 (d_l4 + 1) q13.2) else (if d_l3 ≤ q13.1 then f_X7_asks_L28 n d_mnow d_mgame d_mmeasures d_mmost d_l1 d_l2 k d_l3 (d_l4 + 1) q13.2 else f_X7_asks_L28 n d_mnow d_mgame d_mmeasures d_mmost d_l1 d_l2 k q13.1 (d_l4 + 1) q13.2)))))
def f_X7_asks (n : Nat) (mnow : (Nat → Int32)) (mgame : Int32) (mmeasures : (Nat → Int32)) (mmost : (Nat → Int32)) (mnumbers : (Nat → Int32)) (p1 : Int32) : Option (Int32 × (Nat → Int32)) := (f_X7_ownerIn mnow mgame p1).bind fun q1 => ((if q1 = 0 then some (1) else some (0)) : Option Int32).bind fun j3 => ((if j3 = 0 then some (0) else some (50625)) : Option Int32).bind fun j6 => (f_X7_asks_L28 n mnow mgame mmeasures mmost p1 j3 n j6 0 mnumbers).bind fun q9 => some (q9.1, q9.2)
theorem inw_X7_asks_7 : ∀ w ∈ wsX70, w ∈ wsX7_asks := fun _ h => List.mem_cons_of_mem _ (List.mem_append_right _ h)
theorem hd_X7_asks : yX7_asks.cls = RX7 ∧ yX7_asks.cls ≠ "java/lang/invoke/MethodHandle" ∧ yX7_asks.cls ≠ "java/lang/invoke/VarHandle" ∧ (parseMethodDescriptor yX7_asks.desc).map (fun d => d.parameters.length) = some 1 := by decide +kernel
set_option maxHeartbeats 4000000 in
set_option maxRecDepth 100000 in
theorem c_X7_asks (l : Launch) (D : va_G) (cI cC cS : ClassId) (R : va_W) (a0 : Nat → Nat) (mnow : (Nat → Int32)) (mhistory : (Nat → Int32)) (mkept : Int32) (mslot : (Nat → Int32)) (misFilled : Int32) (mgame : Int32) (mmeasures : (Nat → Int32)) (mmost : (Nat → Int32)) (mnumbers : (Nat → Int32)) (mround : Int32) (mtyped : Int32) (mtext : (Nat → Int32)) (mat : Int32) (mnumber : Int32) (mreads : (Nat → Int32)) (mbeyond : Int32) (mjudgedTo : (Nat → Int32)) (mreach : (Nat → Int32)) (mgoes : (Nat → Int32)) (p1 : Int32) (n : Nat) (r : Int32 × (Nat → Int32)) (hf : f_X7_asks n mnow mgame mmeasures mmost mnumbers p1 = some r) : CI l yX7_asks wsX7_asks 2 44 D cI cC cS [.ref (a0 0), .int p1] ((w_M a0 cI cC mnow mhistory mkept mslot misFilled mgame mmeasures mmost mnumbers mround mtyped mtext mat mnumber mreads mbeyond mjudgedTo mreach mgoes) ++ R) r.1 ((w_M a0 cI cC mnow mhistory mkept mslot misFilled mgame mmeasures mmost r.2 mround mtyped mtext mat mnumber mreads mbeyond mjudgedTo mreach mgoes) ++ R) := by
  refine XI.of (cc := cX7_asks) (maxL := 6) (ty := .int) (own := RX7) (by decide) rfl rfl (Nat.le_of_ble_eq_true rfl) ?_
  intro p e s m args below meth c A Q S hK hN hA hP hD hS ls hl hret
  obtain ⟨hx, hb, hml, hown, hts⟩ := id S
  have hl : lv_has ls 6 [(0, .ref (a0 0)), (1, .int p1)] := hl
  unfold f_X7_asks at hf
  refine lv_aload_n hx hb dX7_asks_0 rfl (lv_at hl 0 rfl) ?_
  refine lv_iload_n hx hb dX7_asks_1 rfl (lv_at hl 1 rfl) ?_
  obtain ⟨q1, hq1, hf⟩ := ob_some hf
  refine xcVi (w' := ((w_M a0 cI cC mnow mhistory mkept mslot misFilled mgame mmeasures mmost mnumbers mround mtyped mtext mat mnumber mreads mbeyond mjudgedTo mreach mgoes) ++ R)) S hK hN hA hP hD hS (c_X7_ownerIn l D cI cC cS R a0 mnow mhistory mkept mslot misFilled mgame mmeasures mmost mnumbers mround mtyped mtext mat mnumber mreads mbeyond mjudgedTo mreach mgoes p1 _ hq1) gX7_asks_X7_ownerIn rfl hd_X7_ownerIn ⟨by decide, by decide⟩ (List.Perm.refl _) (List.Perm.refl _) (ci := 7) (q := (RX7, TX7, 19)) rfl rfl rfl rfl hl.1 rfl (Nat.le_of_ble_eq_true rfl) dX7_asks_2 ⟨Nat.zero_le _, Nat.zero_le _⟩ (fun H locs hP hD hS => ?_)
  obtain ⟨j3, hj3, hf⟩ := ob_some hf
  have J4 : ∀ (H : Heap) (locs : List Loc), va_P D vwCl ((w_M a0 cI cC mnow mhistory mkept mslot misFilled mgame mmeasures mmost mnumbers mround mtyped mtext mat mnumber mreads mbeyond mjudgedTo mreach mgoes) ++ R) H → va_D A ((w_M a0 cI cC mnow mhistory mkept mslot misFilled mgame mmeasures mmost mnumbers mround mtyped mtext mat mnumber mreads mbeyond mjudgedTo mreach mgoes) ++ R) → va_S A s.heap H locs → ∀ ls : Array Slot, lv_has ls 6 [(0, .ref (a0 0)), (1, .int p1)] → W p l e (xR 2 44) s m args below meth c H locs 0 0 Q (F0 m 13 ls [.int j3]) := by
    intro H locs hP hD hS ls hl
    refine lv_istore_n (lv' := [(2, .int j3), (0, .ref (a0 0)), (1, .int p1)]) hx hb dX7_asks_13 rfl hl (by decide) rfl (fun ls hl => ?_)
    refine lv_iload_n hx hb dX7_asks_14 rfl (lv_at hl 0 rfl) ?_
    obtain ⟨j6, hj6, hf⟩ := ob_some hf
    have J7 : ∀ (H : Heap) (locs : List Loc), va_P D vwCl ((w_M a0 cI cC mnow mhistory mkept mslot misFilled mgame mmeasures mmost mnumbers mround mtyped mtext mat mnumber mreads mbeyond mjudgedTo mreach mgoes) ++ R) H → va_D A ((w_M a0 cI cC mnow mhistory mkept mslot misFilled mgame mmeasures mmost mnumbers mround mtyped mtext mat mnumber mreads mbeyond mjudgedTo mreach mgoes) ++ R) → va_S A s.heap H locs → ∀ ls : Array Slot, lv_has ls 6 [(0, .ref (a0 0)), (1, .int p1), (2, .int j3)] → W p l e (xR 2 44) s m args below meth c H locs 0 0 Q (F0 m 24 ls [.int j6]) := by
      intro H locs hP hD hS ls hl
      refine lv_istore_n (lv' := [(3, .int j6), (0, .ref (a0 0)), (1, .int p1), (2, .int j3)]) hx hb dX7_asks_24 rfl hl (by decide) rfl (fun ls hl => ?_)
      refine lv_iconst (v := 0) hx hb dX7_asks_25 (by decide) ?_
      refine lv_istore (lv' := [(4, .int 0), (3, .int j6), (0, .ref (a0 0)), (1, .int p1), (2, .int j3)]) hx hb dX7_asks_26 hl (by decide) rfl (fun ls hl => ?_)
      obtain ⟨q9, hq9, hf⟩ := ob_some hf
      have L8 : ∀ (k : Nat) (v_l3_L8 : Int32) (v_l4_L8 : Int32) (v_mnumbers_L8 : (Nat → Int32)) (q_L8 : Int32 × (Nat → Int32)), f_X7_asks_L28 n mnow mgame mmeasures mmost p1 j3 k v_l3_L8 v_l4_L8 v_mnumbers_L8 = some q_L8 → ∀ (H : Heap) (locs : List Loc), va_P D vwCl ((w_M a0 cI cC mnow mhistory mkept mslot misFilled mgame mmeasures mmost v_mnumbers_L8 mround mtyped mtext mat mnumber mreads mbeyond mjudgedTo mreach mgoes) ++ R) H → va_D A ((w_M a0 cI cC mnow mhistory mkept mslot misFilled mgame mmeasures mmost v_mnumbers_L8 mround mtyped mtext mat mnumber mreads mbeyond mjudgedTo mreach mgoes) ++ R) → va_S A s.heap H locs → ∀ ls : Array Slot, lv_has ls 6 [(0, .ref (a0 0)), (1, .int p1), (2, .int j3), (3, .int v_l3_L8), (4, .int v_l4_L8)] → (∀ (H : Heap) (locs : List Loc), va_P D vwCl ((w_M a0 cI cC mnow mhistory mkept mslot misFilled mgame mmeasures mmost q_L8.2 mround mtyped mtext mat mnumber mreads mbeyond mjudgedTo mreach mgoes) ++ R) H → va_D A ((w_M a0 cI cC mnow mhistory mkept mslot misFilled mgame mmeasures mmost q_L8.2 mround mtyped mtext mat mnumber mreads mbeyond mjudgedTo mreach mgoes) ++ R) → va_S A s.heap H locs → ∀ ls : Array Slot, lv_has ls 6 [(3, .int q_L8.1)] → W p l e (xR 2 44) s m args below meth c H locs 0 0 Q (F0 m 106 ls [])) → W p l e (xR 2 44) s m args below meth c H locs 0 0 Q (F0 m 28 ls []) := by
        intro k
        induction k with
        | zero => intro v_l3_L8 v_l4_L8 v_mnumbers_L8 q_L8 hf; simp [f_X7_asks_L28] at hf
        | succ k ih =>
          intro v_l3_L8 v_l4_L8 v_mnumbers_L8 q_L8 hf H locs hP hD hS ls hl kx
          rw [f_X7_asks_L28] at hf
          refine lv_iload hx hb dX7_asks_28 (lv_at hl 4 rfl) ?_
          refine lv_aload_n hx hb dX7_asks_30 rfl (lv_at hl 0 rfl) ?_
          refine va_get (D := D) (ci := 7) (v := .ref (a0 1)) (C := RX7) (T := TX7) (N := 19) hx hb hts inw_X7_asks_7 hown hK hP 0 rfl rfl 0 (by decide) (hts (.fieldLink RX7 7 "RingGamesModel" "now" "[I") (List.mem_of_getElem? (i := 2) rfl)) (fun _ h9 => h9) rfl dX7_asks_31 ?_
          refine lv_bipush (v := 56) hx hb dX7_asks_34 (by decide) ?_
          refine va_iald hx hb hK hP 1 0 rfl rfl (x_in (by decide)) dX7_asks_36 ?_
          refine lv_icmp_ge (tgt := 106) hx hb dX7_asks_37 (by decide) (fun c10 => ?_) (fun c10 => ?_)
          · have hf := if_t hf c10
            have hf := Option.some.inj hf
            subst hf
            exact kx _ _ hP hD hS _ (lv_sub hl [3] rfl)
          · have hf := if_f hf c10
            refine lv_aload_n hx hb dX7_asks_40 rfl (lv_at hl 0 rfl) ?_
            refine lv_iload_n hx hb dX7_asks_41 rfl (lv_at hl 1 rfl) ?_
            refine lv_iload hx hb dX7_asks_42 (lv_at hl 4 rfl) ?_
            obtain ⟨q11, hq11, hf⟩ := ob_some hf
            refine xcVi (w' := ((w_M a0 cI cC mnow mhistory mkept mslot misFilled mgame mmeasures mmost v_mnumbers_L8 mround mtyped mtext mat mnumber mreads mbeyond mjudgedTo mreach mgoes) ++ R)) S hK hN hA hP hD hS (c_X7_hasArrow l D cI cC cS R a0 mnow mhistory mkept mslot misFilled mgame mmeasures mmost v_mnumbers_L8 mround mtyped mtext mat mnumber mreads mbeyond mjudgedTo mreach mgoes p1 v_l4_L8 _ hq11) gX7_asks_X7_hasArrow rfl hd_X7_hasArrow ⟨by decide, by decide⟩ (List.Perm.refl _) (List.Perm.refl _) (ci := 7) (q := (RX7, TX7, 19)) rfl rfl rfl rfl hl.1 rfl (Nat.le_of_ble_eq_true rfl) dX7_asks_44 ⟨Nat.zero_le _, Nat.zero_le _⟩ (fun H locs hP hD hS => ?_)
            refine lv_if_eq (tgt := 100) hx hb dX7_asks_47 (by decide) (fun c12 => ?_) (fun c12 => ?_)
            · have hf := if_t hf c12
              refine lv_iinc (v := (v_l4_L8 + 1)) (lv' := [(4, .int (v_l4_L8 + 1)), (0, .ref (a0 0)), (1, .int p1), (2, .int j3), (3, .int v_l3_L8)]) hx hb dX7_asks_100 hl (k := 4) rfl (congrArg (fun z => v_l4_L8 + z) (by decide)) (by decide) rfl (fun ls hl => ?_)
              refine lv_goto (tgt := 28) hx hb dX7_asks_103 (by decide) ?_
              exact ih v_l3_L8 (v_l4_L8 + 1) v_mnumbers_L8 _ hf _ _ hP hD hS _ (lv_sub hl [1, 2, 3, 4, 0] rfl) kx
            · have hf := if_f hf c12
              refine lv_aload_n hx hb dX7_asks_50 rfl (lv_at hl 0 rfl) ?_
              refine lv_aload_n hx hb dX7_asks_51 rfl (lv_at hl 0 rfl) ?_
              refine lv_iload_n hx hb dX7_asks_52 rfl (lv_at hl 1 rfl) ?_
              obtain ⟨q13, hq13, hf⟩ := ob_some hf
              refine xcVi (w' := ((w_M a0 cI cC mnow mhistory mkept mslot misFilled mgame mmeasures mmost v_mnumbers_L8 mround mtyped mtext mat mnumber mreads mbeyond mjudgedTo mreach mgoes) ++ R)) S hK hN hA hP hD hS (c_X7_colourIn l D cI cC cS R a0 mnow mhistory mkept mslot misFilled mgame mmeasures mmost v_mnumbers_L8 mround mtyped mtext mat mnumber mreads mbeyond mjudgedTo mreach mgoes p1 _ hq13) gX7_asks_X7_colourIn rfl hd_X7_colourIn ⟨by decide, by decide⟩ (List.Perm.refl _) (List.Perm.refl _) (ci := 7) (q := (RX7, TX7, 19)) rfl rfl rfl rfl hl.1 rfl (Nat.le_of_ble_eq_true rfl) dX7_asks_53 ⟨Nat.zero_le _, Nat.zero_le _⟩ (fun H locs hP hD hS => ?_)
              refine lv_aload_n hx hb dX7_asks_56 rfl (lv_at hl 0 rfl) ?_
              refine va_get (D := D) (ci := 7) (v := .ref (a0 4)) (C := RX7) (T := TX7) (N := 19) hx hb hts inw_X7_asks_7 hown hK hP 0 rfl rfl 6 (by decide) (hts (.fieldLink RX7 19 "RingGamesModel" "measures" "[I") (List.mem_of_getElem? (i := 3) rfl)) (fun _ h9 => h9) rfl dX7_asks_57 ?_
              refine lv_iload hx hb dX7_asks_60 (lv_at hl 4 rfl) ?_
              obtain ⟨g14, hf⟩ := vg_some hf
              refine va_iald hx hb hK hP 4 0 rfl rfl g14 dX7_asks_62 ?_
              obtain ⟨q15, hq15, hf⟩ := ob_some hf
              refine xcVi (w' := ((w_M a0 cI cC mnow mhistory mkept mslot misFilled mgame mmeasures mmost q15.2 mround mtyped mtext mat mnumber mreads mbeyond mjudgedTo mreach mgoes) ++ R)) S hK hN hA hP hD hS (c_X7_wanted l D cI cC cS R a0 mnow mhistory mkept mslot misFilled mgame mmeasures mmost v_mnumbers_L8 mround mtyped mtext mat mnumber mreads mbeyond mjudgedTo mreach mgoes q13 (mmeasures (v_l4_L8).toNatClampNeg) n _ hq15) gX7_asks_X7_wanted rfl hd_X7_wanted ⟨by decide, by decide⟩ (List.Perm.refl _) (List.Perm.refl _) (ci := 7) (q := (RX7, TX7, 19)) rfl rfl rfl rfl hl.1 rfl (Nat.le_of_ble_eq_true rfl) dX7_asks_63 ⟨Nat.zero_le _, Nat.zero_le _⟩ (fun H locs hP hD hS => ?_)
              refine lv_istore (lv' := [(5, .int q15.1), (0, .ref (a0 0)), (1, .int p1), (2, .int j3), (3, .int v_l3_L8), (4, .int v_l4_L8)]) hx hb dX7_asks_66 hl (by decide) rfl (fun ls hl => ?_)
              refine lv_iload_n hx hb dX7_asks_68 rfl (lv_at hl 3 rfl) ?_
              refine lv_if_eq (tgt := 87) hx hb dX7_asks_69 (by decide) (fun c16 => ?_) (fun c16 => ?_)
              · have hf := if_t hf c16
                refine lv_iload hx hb dX7_asks_87 (lv_at hl 0 rfl) ?_
                refine lv_iload_n hx hb dX7_asks_89 rfl (lv_at hl 4 rfl) ?_
                refine lv_icmp_le (tgt := 98) hx hb dX7_asks_90 (by decide) (fun c17 => ?_) (fun c17 => ?_)
                · have hf := if_t hf c17
                  refine lv_iload_n hx hb dX7_asks_98 rfl (lv_at hl 4 rfl) ?_
                  refine lv_istore_n (lv' := [(3, .int v_l3_L8), (5, .int q15.1), (0, .ref (a0 0)), (1, .int p1), (2, .int j3), (4, .int v_l4_L8)]) hx hb dX7_asks_99 rfl hl (by decide) rfl (fun ls hl => ?_)
                  refine lv_iinc (v := (v_l4_L8 + 1)) (lv' := [(4, .int (v_l4_L8 + 1)), (3, .int v_l3_L8), (5, .int q15.1), (0, .ref (a0 0)), (1, .int p1), (2, .int j3)]) hx hb dX7_asks_100 hl (k := 5) rfl (congrArg (fun z => v_l4_L8 + z) (by decide)) (by decide) rfl (fun ls hl => ?_)
                  refine lv_goto (tgt := 28) hx hb dX7_asks_103 (by decide) ?_
                  exact ih v_l3_L8 (v_l4_L8 + 1) q15.2 _ hf _ _ hP hD hS _ (lv_sub hl [3, 4, 5, 1, 0] rfl) kx
                · have hf := if_f hf c17
                  refine lv_iload hx hb dX7_asks_93 (lv_at hl 0 rfl) ?_
                  refine lv_goto (tgt := 99) hx hb dX7_asks_95 (by decide) ?_
                  refine lv_istore_n (lv' := [(3, .int q15.1), (5, .int q15.1), (0, .ref (a0 0)), (1, .int p1), (2, .int j3), (4, .int v_l4_L8)]) hx hb dX7_asks_99 rfl hl (by decide) rfl (fun ls hl => ?_)
                  refine lv_iinc (v := (v_l4_L8 + 1)) (lv' := [(4, .int (v_l4_L8 + 1)), (3, .int q15.1), (5, .int q15.1), (0, .ref (a0 0)), (1, .int p1), (2, .int j3)]) hx hb dX7_asks_100 hl (k := 5) rfl (congrArg (fun z => v_l4_L8 + z) (by decide)) (by decide) rfl (fun ls hl => ?_)
                  refine lv_goto (tgt := 28) hx hb dX7_asks_103 (by decide) ?_
                  exact ih q15.1 (v_l4_L8 + 1) q15.2 _ hf _ _ hP hD hS _ (lv_sub hl [3, 4, 5, 1, 0] rfl) kx
              · have hf := if_f hf c16
                refine lv_iload hx hb dX7_asks_72 (lv_at hl 0 rfl) ?_
                refine lv_iload_n hx hb dX7_asks_74 rfl (lv_at hl 4 rfl) ?_
                refine lv_icmp_ge (tgt := 83) hx hb dX7_asks_75 (by decide) (fun c18 => ?_) (fun c18 => ?_)
                · have hf := if_t hf c18
                  refine lv_iload_n hx hb dX7_asks_83 rfl (lv_at hl 4 rfl) ?_
                  refine lv_goto (tgt := 99) hx hb dX7_asks_84 (by decide) ?_
                  refine lv_istore_n (lv' := [(3, .int v_l3_L8), (5, .int q15.1), (0, .ref (a0 0)), (1, .int p1), (2, .int j3), (4, .int v_l4_L8)]) hx hb dX7_asks_99 rfl hl (by decide) rfl (fun ls hl => ?_)
                  refine lv_iinc (v := (v_l4_L8 + 1)) (lv' := [(4, .int (v_l4_L8 + 1)), (3, .int v_l3_L8), (5, .int q15.1), (0, .ref (a0 0)), (1, .int p1), (2, .int j3)]) hx hb dX7_asks_100 hl (k := 5) rfl (congrArg (fun z => v_l4_L8 + z) (by decide)) (by decide) rfl (fun ls hl => ?_)
                  refine lv_goto (tgt := 28) hx hb dX7_asks_103 (by decide) ?_
                  exact ih v_l3_L8 (v_l4_L8 + 1) q15.2 _ hf _ _ hP hD hS _ (lv_sub hl [3, 4, 5, 1, 0] rfl) kx
                · have hf := if_f hf c18
                  refine lv_iload hx hb dX7_asks_78 (lv_at hl 0 rfl) ?_
                  refine lv_goto (tgt := 99) hx hb dX7_asks_80 (by decide) ?_
                  refine lv_istore_n (lv' := [(3, .int q15.1), (5, .int q15.1), (0, .ref (a0 0)), (1, .int p1), (2, .int j3), (4, .int v_l4_L8)]) hx hb dX7_asks_99 rfl hl (by decide) rfl (fun ls hl => ?_)
                  refine lv_iinc (v := (v_l4_L8 + 1)) (lv' := [(4, .int (v_l4_L8 + 1)), (3, .int q15.1), (5, .int q15.1), (0, .ref (a0 0)), (1, .int p1), (2, .int j3)]) hx hb dX7_asks_100 hl (k := 5) rfl (congrArg (fun z => v_l4_L8 + z) (by decide)) (by decide) rfl (fun ls hl => ?_)
                  refine lv_goto (tgt := 28) hx hb dX7_asks_103 (by decide) ?_
                  exact ih q15.1 (v_l4_L8 + 1) q15.2 _ hf _ _ hP hD hS _ (lv_sub hl [3, 4, 5, 1, 0] rfl) kx
      refine L8 n j6 0 mnumbers q9 hq9 _ _ hP hD hS _ (lv_sub hl [2, 3, 4, 1, 0] rfl) ?_
      clear hP hD hS hl
      intro H locs hP hD hS ls hl
      refine lv_iload_n hx hb dX7_asks_106 rfl (lv_at hl 0 rfl) ?_
      have hf := Option.some.inj hf
      subst hf
      exact hret _ _ _ _ _ dX7_asks_107 rfl hP hD hS rfl
    clear hf
    have hf := hj6
    refine lv_if_eq (tgt := 23) hx hb dX7_asks_15 (by decide) (fun c5 => ?_) (fun c5 => ?_)
    · have hf := if_t hf c5
      refine lv_iconst (v := 0) hx hb dX7_asks_23 (by decide) ?_
      have hf := Option.some.inj hf
      subst hf
      exact J7 _ _ hP hD hS _ (lv_sub hl [1, 2, 0] rfl)
    · have hf := if_f hf c5
      refine lv_ldc hx hb hown (hts (.constant RX7 63 (50625)) (List.mem_of_getElem? (i := 1) rfl)) dX7_asks_18 ?_
      refine lv_goto (tgt := 24) hx hb dX7_asks_20 (by decide) ?_
      have hf := Option.some.inj hf
      subst hf
      exact J7 _ _ hP hD hS _ (lv_sub hl [1, 2, 0] rfl)
  clear hf
  have hf := hj3
  refine lv_if_ne (tgt := 12) hx hb dX7_asks_5 (by decide) (fun c2 => ?_) (fun c2 => ?_)
  · have hf := if_f hf c2
    refine lv_iconst (v := 0) hx hb dX7_asks_12 (by decide) ?_
    have hf := Option.some.inj hf
    subst hf
    exact J4 _ _ hP hD hS _ (lv_sub hl [0, 1] rfl)
  · have hf := if_t hf c2
    refine lv_iconst (v := 1) hx hb dX7_asks_8 (by decide) ?_
    refine lv_goto (tgt := 13) hx hb dX7_asks_9 (by decide) ?_
    have hf := Option.some.inj hf
    subst hf
    exact J4 _ _ hP hD hS _ (lv_sub hl [0, 1] rfl)
def f_X7_finds_L15 : Nat → Int32 → (Nat → Int32) → Option (Nat → Int32)
  | 0, _, _ => none
  | k + 1, d_l3, d_mmost => (if 4 ≤ d_l3 then some (d_mmost) else vg d_l3 4 (f_X7_finds_L15 k (d_l3 + 1) (upd d_mmost (d_l3).toNatClampNeg 0)))
def f_X7_finds_L35 (d_mnow : (Nat → Int32)) (d_mgame : Int32) (d_l2 : Int32) : Nat → Int32 → (Nat → Int32) → (Nat → Int32) → Option ((Nat → Int32) × (Nat → Int32))
  | 0, _, _, _ => none
  | k + 1, d_l3, d_mmeasures, d_mmost => (if d_l2 ≤ d_l3 then some (d_mmeasures, d_mmost) else vg d_l3 14 ((f_X7_colourIn d_mnow d_mgame d_l3).bind fun q7 => (if (jrem q7 2) = 1 then vg ((q7 - 1) / 2) 4 (f_X7_finds_L35 d_mnow d_mgame d_l2 k (d_l3 + 1) (upd d_mmeasures (d_l3).toNatClampNeg 0) (upd d_mmost (((q7 - 1) / 2)).toNatClampNeg ((d_mmost (((q7 - 1) / 2)).toNatClampNeg) + 1))) else f_X7_finds_L35 d_mnow d_mgame d_l2 k (d_l3 + 1) (upd d_mmeasures (d_l3).toNatClampNeg 0) d_mmost)))
def f_X7_finds_L109 (n : Nat) (d_mnow : (Nat → Int32)) (d_mgame : Int32) (d_mmost : (Nat → Int32)) (d_l2 : Int32) : Nat → Int32 → Int32 → (Nat → Int32) → (Nat → Int32) → Option (Int32 × (Nat → Int32) × (Nat → Int32))
  | 0, _, _, _, _ => none
  | k + 1, d_l3, d_l4, d_mmeasures, d_mnumbers => (if d_l2 ≤ d_l4 then some (d_l3, d_mmeasures, d_mnumbers) else (f_X7_asks n d_mnow d_mgame d_mmeasures d_mmost d_mnumbers d_l4).bind fun q14 => vg d_l4 14 ((if q14.1 ≤ (d_mmeasures (d_l4).toNatClampNeg) then f_X7_finds_L109 n d_mnow d_mgame d_mmost d_l2 k d_l3 (d_l4 + 1) d_mmeasures q14.2 else f_X7_finds_L109 n d_mnow d_mgame d_mmost d_l2 k 1 (d_l4 + 1) (upd d_mmeasures (d_l4).toNatClampNeg q14.1) q14.2)))
def f_X7_finds_L90 (n : Nat) (d_mnow : (Nat → Int32)) (d_mgame : Int32) (d_mmost : (Nat → Int32)) (d_l2 : Int32) : Nat → Int32 → (Nat → Int32) → (Nat → Int32) → Int32 → Option ((Nat → Int32) × (Nat → Int32) × Int32)
  | 0, _, _, _, _ => none
  | k + 1, d_l3, d_mmeasures, d_mnumbers, d_mround => (if d_l3 = 0 then some (d_mmeasures, d_mnumbers, d_mround) else (f_X7_finds_L109 n d_mnow d_mgame d_mmost d_l2 n 0 0 d_mmeasures d_mnumbers).bind fun q14 => f_X7_finds_L90 n d_mnow d_mgame d_mmost d_l2 k q14.1 q14.2.1 q14.2.2 (d_mround + 1))
def f_X7_finds (n : Nat) (mnow : (Nat → Int32)) (mmeasures : (Nat → Int32)) (mmost : (Nat → Int32)) (mnumbers : (Nat → Int32)) (p1 : Int32) : Option (Int32 × (Nat → Int32) × (Nat → Int32) × (Nat → Int32) × Int32) := (f_X7_finds_L15 n 0 mmost).bind fun q2 => (f_X7_finds_L35 mnow p1 (mnow 56) n 0 mmeasures q2).bind fun q6 => (f_X7_finds_L90 n mnow p1 q6.2 (mnow 56) n 1 q6.1 mnumbers 0).bind fun q13 => some (p1, q13.1, q6.2, q13.2.1, q13.2.2)
theorem inw_X7_finds_7 : ∀ w ∈ wsX70, w ∈ wsX7_finds := fun _ h => List.mem_cons_of_mem _ (List.mem_append_right _ h)
theorem hd_X7_finds : yX7_finds.cls = RX7 ∧ yX7_finds.cls ≠ "java/lang/invoke/MethodHandle" ∧ yX7_finds.cls ≠ "java/lang/invoke/VarHandle" ∧ (parseMethodDescriptor yX7_finds.desc).map (fun d => d.parameters.length) = some 1 := by decide +kernel
set_option maxHeartbeats 4000000 in
set_option maxRecDepth 100000 in
theorem c_X7_finds (l : Launch) (D : va_G) (cI cC cS : ClassId) (R : va_W) (a0 : Nat → Nat) (mnow : (Nat → Int32)) (mhistory : (Nat → Int32)) (mkept : Int32) (mslot : (Nat → Int32)) (misFilled : Int32) (mgame : Int32) (mmeasures : (Nat → Int32)) (mmost : (Nat → Int32)) (mnumbers : (Nat → Int32)) (mround : Int32) (mtyped : Int32) (mtext : (Nat → Int32)) (mat : Int32) (mnumber : Int32) (mreads : (Nat → Int32)) (mbeyond : Int32) (mjudgedTo : (Nat → Int32)) (mreach : (Nat → Int32)) (mgoes : (Nat → Int32)) (p1 : Int32) (n : Nat) (r : Int32 × (Nat → Int32) × (Nat → Int32) × (Nat → Int32) × Int32) (hf : f_X7_finds n mnow mmeasures mmost mnumbers p1 = some r) : CV l yX7_finds wsX7_finds 3 69 D cI cC cS [.ref (a0 0), .int p1] ((w_M a0 cI cC mnow mhistory mkept mslot misFilled mgame mmeasures mmost mnumbers mround mtyped mtext mat mnumber mreads mbeyond mjudgedTo mreach mgoes) ++ R) ((w_M a0 cI cC mnow mhistory mkept mslot misFilled r.1 r.2.1 r.2.2.1 r.2.2.2.1 r.2.2.2.2 mtyped mtext mat mnumber mreads mbeyond mjudgedTo mreach mgoes) ++ R) := by
  refine XV.of (cc := cX7_finds) (maxL := 6) (own := RX7) (by decide) rfl rfl (Nat.le_of_ble_eq_true rfl) ?_
  intro p e s m args below meth c A Q S hK hN hA hP hD hS ls hl hret
  obtain ⟨hx, hb, hml, hown, hts⟩ := id S
  have hl : lv_has ls 6 [(0, .ref (a0 0)), (1, .int p1)] := hl
  unfold f_X7_finds at hf
  refine lv_aload_n hx hb dX7_finds_0 rfl (lv_at hl 0 rfl) ?_
  refine lv_iload_n hx hb dX7_finds_1 rfl (lv_at hl 1 rfl) ?_
  refine va_put (D := D) (ci := 7) (v := .int p1) (ty := .int) (C := RX7) (T := TX7) (N := 19) hx hb hts inw_X7_finds_7 tyX7 tyX7_ok nmX7 hown hK hP hD hS 0 rfl rfl 5 (by decide) (hts (.fieldLink RX7 60 "RingGamesModel" "game" "I") (List.mem_of_getElem? (i := 1) rfl)) (fun _ h9 => h9) rfl (tyX7_ok 5 (by decide)) rfl rfl (Nat.le_of_ble_eq_true rfl) dX7_finds_2 (fun H locs hP hD hS => ?_)
  have hP : va_P D vwCl ((w_M a0 cI cC mnow mhistory mkept mslot misFilled p1 mmeasures mmost mnumbers mround mtyped mtext mat mnumber mreads mbeyond mjudgedTo mreach mgoes) ++ R) H := hP
  have hD : va_D A ((w_M a0 cI cC mnow mhistory mkept mslot misFilled p1 mmeasures mmost mnumbers mround mtyped mtext mat mnumber mreads mbeyond mjudgedTo mreach mgoes) ++ R) := hD
  refine lv_aload_n hx hb dX7_finds_5 rfl (lv_at hl 0 rfl) ?_
  refine va_get (D := D) (ci := 7) (v := .ref (a0 1)) (C := RX7) (T := TX7) (N := 19) hx hb hts inw_X7_finds_7 hown hK hP 0 rfl rfl 0 (by decide) (hts (.fieldLink RX7 7 "RingGamesModel" "now" "[I") (List.mem_of_getElem? (i := 2) rfl)) (fun _ h9 => h9) rfl dX7_finds_6 ?_
  refine lv_bipush (v := 56) hx hb dX7_finds_9 (by decide) ?_
  refine va_iald hx hb hK hP 1 0 rfl rfl (x_in (by decide)) dX7_finds_11 ?_
  refine lv_istore_n (lv' := [(2, .int (mnow 56)), (0, .ref (a0 0)), (1, .int p1)]) hx hb dX7_finds_12 rfl hl (by decide) rfl (fun ls hl => ?_)
  refine lv_iconst (v := 0) hx hb dX7_finds_13 (by decide) ?_
  refine lv_istore_n (lv' := [(3, .int 0), (2, .int (mnow 56)), (0, .ref (a0 0)), (1, .int p1)]) hx hb dX7_finds_14 rfl hl (by decide) rfl (fun ls hl => ?_)
  obtain ⟨q2, hq2, hf⟩ := ob_some hf
  have L1 : ∀ (k : Nat) (v_l3_L1 : Int32) (v_mmost_L1 : (Nat → Int32)) (q_L1 : (Nat → Int32)), f_X7_finds_L15 k v_l3_L1 v_mmost_L1 = some q_L1 → ∀ (H : Heap) (locs : List Loc), va_P D vwCl ((w_M a0 cI cC mnow mhistory mkept mslot misFilled p1 mmeasures v_mmost_L1 mnumbers mround mtyped mtext mat mnumber mreads mbeyond mjudgedTo mreach mgoes) ++ R) H → va_D A ((w_M a0 cI cC mnow mhistory mkept mslot misFilled p1 mmeasures v_mmost_L1 mnumbers mround mtyped mtext mat mnumber mreads mbeyond mjudgedTo mreach mgoes) ++ R) → va_S A s.heap H locs → ∀ ls : Array Slot, lv_has ls 6 [(0, .ref (a0 0)), (2, .int (mnow 56)), (3, .int v_l3_L1)] → (∀ (H : Heap) (locs : List Loc), va_P D vwCl ((w_M a0 cI cC mnow mhistory mkept mslot misFilled p1 mmeasures q_L1 mnumbers mround mtyped mtext mat mnumber mreads mbeyond mjudgedTo mreach mgoes) ++ R) H → va_D A ((w_M a0 cI cC mnow mhistory mkept mslot misFilled p1 mmeasures q_L1 mnumbers mround mtyped mtext mat mnumber mreads mbeyond mjudgedTo mreach mgoes) ++ R) → va_S A s.heap H locs → ∀ ls : Array Slot, lv_has ls 6 [(0, .ref (a0 0)), (2, .int (mnow 56))] → W p l e (xR 3 69) s m args below meth c H locs 0 0 Q (F0 m 33 ls [])) → W p l e (xR 3 69) s m args below meth c H locs 0 0 Q (F0 m 15 ls []) := by
    intro k
    induction k with
    | zero => intro v_l3_L1 v_mmost_L1 q_L1 hf; simp [f_X7_finds_L15] at hf
    | succ k ih =>
      intro v_l3_L1 v_mmost_L1 q_L1 hf H locs hP hD hS ls hl kx
      rw [f_X7_finds_L15] at hf
      refine lv_iload_n hx hb dX7_finds_15 rfl (lv_at hl 2 rfl) ?_
      refine lv_iconst (v := 4) hx hb dX7_finds_16 (by decide) ?_
      refine lv_icmp_ge (tgt := 33) hx hb dX7_finds_17 (by decide) (fun c3 => ?_) (fun c3 => ?_)
      · have hf := if_t hf c3
        have hf := Option.some.inj hf
        subst hf
        exact kx _ _ hP hD hS _ (lv_sub hl [0, 1] rfl)
      · have hf := if_f hf c3
        refine lv_aload_n hx hb dX7_finds_20 rfl (lv_at hl 0 rfl) ?_
        refine va_get (D := D) (ci := 7) (v := .ref (a0 5)) (C := RX7) (T := TX7) (N := 19) hx hb hts inw_X7_finds_7 hown hK hP 0 rfl rfl 7 (by decide) (hts (.fieldLink RX7 22 "RingGamesModel" "most" "[I") (List.mem_of_getElem? (i := 3) rfl)) (fun _ h9 => h9) rfl dX7_finds_21 ?_
        refine lv_iload_n hx hb dX7_finds_24 rfl (lv_at hl 2 rfl) ?_
        refine lv_iconst (v := 0) hx hb dX7_finds_25 (by decide) ?_
        obtain ⟨g4, hf⟩ := vg_some hf
        refine va_iast hx hb hK hP hD hS 5 0 rfl rfl g4 dX7_finds_26 (fun H locs hP hD hS => ?_)
        have hP : va_P D vwCl ((w_M a0 cI cC mnow mhistory mkept mslot misFilled p1 mmeasures (upd v_mmost_L1 (v_l3_L1).toNatClampNeg 0) mnumbers mround mtyped mtext mat mnumber mreads mbeyond mjudgedTo mreach mgoes) ++ R) H := hP
        have hD : va_D A ((w_M a0 cI cC mnow mhistory mkept mslot misFilled p1 mmeasures (upd v_mmost_L1 (v_l3_L1).toNatClampNeg 0) mnumbers mround mtyped mtext mat mnumber mreads mbeyond mjudgedTo mreach mgoes) ++ R) := hD
        refine lv_iinc (v := (v_l3_L1 + 1)) (lv' := [(3, .int (v_l3_L1 + 1)), (0, .ref (a0 0)), (2, .int (mnow 56))]) hx hb dX7_finds_27 hl (k := 2) rfl (congrArg (fun z => v_l3_L1 + z) (by decide)) (by decide) rfl (fun ls hl => ?_)
        refine lv_goto (tgt := 15) hx hb dX7_finds_30 (by decide) ?_
        exact ih (v_l3_L1 + 1) (upd v_mmost_L1 (v_l3_L1).toNatClampNeg 0) _ hf _ _ hP hD hS _ (lv_sub hl [1, 2, 0] rfl) kx
  refine L1 n 0 mmost q2 hq2 _ _ hP hD hS _ (lv_sub hl [2, 1, 0] rfl) ?_
  clear hP hD hS hl
  intro H locs hP hD hS ls hl
  refine lv_iconst (v := 0) hx hb dX7_finds_33 (by decide) ?_
  refine lv_istore_n (lv' := [(3, .int 0), (0, .ref (a0 0)), (2, .int (mnow 56))]) hx hb dX7_finds_34 rfl hl (by decide) rfl (fun ls hl => ?_)
  obtain ⟨q6, hq6, hf⟩ := ob_some hf
  have L5 : ∀ (k : Nat) (v_l3_L5 : Int32) (v_mmeasures_L5 : (Nat → Int32)) (v_mmost_L5 : (Nat → Int32)) (q_L5 : (Nat → Int32) × (Nat → Int32)), f_X7_finds_L35 mnow p1 (mnow 56) k v_l3_L5 v_mmeasures_L5 v_mmost_L5 = some q_L5 → ∀ (H : Heap) (locs : List Loc), va_P D vwCl ((w_M a0 cI cC mnow mhistory mkept mslot misFilled p1 v_mmeasures_L5 v_mmost_L5 mnumbers mround mtyped mtext mat mnumber mreads mbeyond mjudgedTo mreach mgoes) ++ R) H → va_D A ((w_M a0 cI cC mnow mhistory mkept mslot misFilled p1 v_mmeasures_L5 v_mmost_L5 mnumbers mround mtyped mtext mat mnumber mreads mbeyond mjudgedTo mreach mgoes) ++ R) → va_S A s.heap H locs → ∀ ls : Array Slot, lv_has ls 6 [(0, .ref (a0 0)), (2, .int (mnow 56)), (3, .int v_l3_L5)] → (∀ (H : Heap) (locs : List Loc), va_P D vwCl ((w_M a0 cI cC mnow mhistory mkept mslot misFilled p1 q_L5.1 q_L5.2 mnumbers mround mtyped mtext mat mnumber mreads mbeyond mjudgedTo mreach mgoes) ++ R) H → va_D A ((w_M a0 cI cC mnow mhistory mkept mslot misFilled p1 q_L5.1 q_L5.2 mnumbers mround mtyped mtext mat mnumber mreads mbeyond mjudgedTo mreach mgoes) ++ R) → va_S A s.heap H locs → ∀ ls : Array Slot, lv_has ls 6 [(0, .ref (a0 0)), (2, .int (mnow 56))] → W p l e (xR 3 69) s m args below meth c H locs 0 0 Q (F0 m 83 ls [])) → W p l e (xR 3 69) s m args below meth c H locs 0 0 Q (F0 m 35 ls []) := by
    intro k
    induction k with
    | zero => intro v_l3_L5 v_mmeasures_L5 v_mmost_L5 q_L5 hf; simp [f_X7_finds_L35] at hf
    | succ k ih =>
      intro v_l3_L5 v_mmeasures_L5 v_mmost_L5 q_L5 hf H locs hP hD hS ls hl kx
      rw [f_X7_finds_L35] at hf
      refine lv_iload_n hx hb dX7_finds_35 rfl (lv_at hl 2 rfl) ?_
      refine lv_iload_n hx hb dX7_finds_36 rfl (lv_at hl 1 rfl) ?_
      refine lv_icmp_ge (tgt := 83) hx hb dX7_finds_37 (by decide) (fun c7 => ?_) (fun c7 => ?_)
      · have hf := if_t hf c7
        have hf := Option.some.inj hf
        subst hf
        exact kx _ _ hP hD hS _ (lv_sub hl [0, 1] rfl)
      · have hf := if_f hf c7
        refine lv_aload_n hx hb dX7_finds_40 rfl (lv_at hl 0 rfl) ?_
        refine va_get (D := D) (ci := 7) (v := .ref (a0 4)) (C := RX7) (T := TX7) (N := 19) hx hb hts inw_X7_finds_7 hown hK hP 0 rfl rfl 6 (by decide) (hts (.fieldLink RX7 19 "RingGamesModel" "measures" "[I") (List.mem_of_getElem? (i := 4) rfl)) (fun _ h9 => h9) rfl dX7_finds_41 ?_
        refine lv_iload_n hx hb dX7_finds_44 rfl (lv_at hl 2 rfl) ?_
        refine lv_iconst (v := 0) hx hb dX7_finds_45 (by decide) ?_
        obtain ⟨g8, hf⟩ := vg_some hf
        refine va_iast hx hb hK hP hD hS 4 0 rfl rfl g8 dX7_finds_46 (fun H locs hP hD hS => ?_)
        have hP : va_P D vwCl ((w_M a0 cI cC mnow mhistory mkept mslot misFilled p1 (upd v_mmeasures_L5 (v_l3_L5).toNatClampNeg 0) v_mmost_L5 mnumbers mround mtyped mtext mat mnumber mreads mbeyond mjudgedTo mreach mgoes) ++ R) H := hP
        have hD : va_D A ((w_M a0 cI cC mnow mhistory mkept mslot misFilled p1 (upd v_mmeasures_L5 (v_l3_L5).toNatClampNeg 0) v_mmost_L5 mnumbers mround mtyped mtext mat mnumber mreads mbeyond mjudgedTo mreach mgoes) ++ R) := hD
        refine lv_aload_n hx hb dX7_finds_47 rfl (lv_at hl 0 rfl) ?_
        refine lv_iload_n hx hb dX7_finds_48 rfl (lv_at hl 2 rfl) ?_
        obtain ⟨q9, hq9, hf⟩ := ob_some hf
        refine xcVi (w' := ((w_M a0 cI cC mnow mhistory mkept mslot misFilled p1 (upd v_mmeasures_L5 (v_l3_L5).toNatClampNeg 0) v_mmost_L5 mnumbers mround mtyped mtext mat mnumber mreads mbeyond mjudgedTo mreach mgoes) ++ R)) S hK hN hA hP hD hS (c_X7_colourIn l D cI cC cS R a0 mnow mhistory mkept mslot misFilled p1 (upd v_mmeasures_L5 (v_l3_L5).toNatClampNeg 0) v_mmost_L5 mnumbers mround mtyped mtext mat mnumber mreads mbeyond mjudgedTo mreach mgoes v_l3_L5 _ hq9) gX7_finds_X7_colourIn rfl hd_X7_colourIn ⟨by decide, by decide⟩ (List.Perm.refl _) (List.Perm.refl _) (ci := 7) (q := (RX7, TX7, 19)) rfl rfl rfl rfl hl.1 rfl (Nat.le_of_ble_eq_true rfl) dX7_finds_49 ⟨Nat.zero_le _, Nat.zero_le _⟩ (fun H locs hP hD hS => ?_)
        refine lv_istore (lv' := [(4, .int q9), (0, .ref (a0 0)), (2, .int (mnow 56)), (3, .int v_l3_L5)]) hx hb dX7_finds_52 hl (by decide) rfl (fun ls hl => ?_)
        refine lv_iload hx hb dX7_finds_54 (lv_at hl 0 rfl) ?_
        refine lv_iconst (v := 2) hx hb dX7_finds_56 (by decide) ?_
        refine lv_irem hx hb dX7_finds_57 (by decide) ?_
        refine lv_iconst (v := 1) hx hb dX7_finds_58 (by decide) ?_
        refine lv_icmp_ne (tgt := 77) hx hb dX7_finds_59 (by decide) (fun c10 => ?_) (fun c10 => ?_)
        · have hf := if_f hf c10
          refine lv_iinc (v := (v_l3_L5 + 1)) (lv' := [(3, .int (v_l3_L5 + 1)), (4, .int q9), (0, .ref (a0 0)), (2, .int (mnow 56))]) hx hb dX7_finds_77 hl (k := 3) rfl (congrArg (fun z => v_l3_L5 + z) (by decide)) (by decide) rfl (fun ls hl => ?_)
          refine lv_goto (tgt := 35) hx hb dX7_finds_80 (by decide) ?_
          exact ih (v_l3_L5 + 1) (upd v_mmeasures_L5 (v_l3_L5).toNatClampNeg 0) v_mmost_L5 _ hf _ _ hP hD hS _ (lv_sub hl [2, 3, 0] rfl) kx
        · have hf := if_t hf c10
          refine lv_aload_n hx hb dX7_finds_62 rfl (lv_at hl 1 rfl) ?_
          refine va_get (D := D) (ci := 7) (v := .ref (a0 5)) (C := RX7) (T := TX7) (N := 19) hx hb hts inw_X7_finds_7 hown hK hP 0 rfl rfl 7 (by decide) (hts (.fieldLink RX7 22 "RingGamesModel" "most" "[I") (List.mem_of_getElem? (i := 3) rfl)) (fun _ h9 => h9) rfl dX7_finds_63 ?_
          refine lv_iload hx hb dX7_finds_66 (lv_at hl 0 rfl) ?_
          refine lv_iconst (v := 1) hx hb dX7_finds_68 (by decide) ?_
          refine lv_isub hx hb dX7_finds_69 ?_
          refine lv_iconst (v := 2) hx hb dX7_finds_70 (by decide) ?_
          refine lv_idiv hx hb dX7_finds_71 (by decide) ?_
          refine lv_dup2_11 hx hb dX7_finds_72 rfl rfl ?_
          obtain ⟨g11, hf⟩ := vg_some hf
          refine va_iald hx hb hK hP 5 0 rfl rfl g11 dX7_finds_73 ?_
          refine lv_iconst (v := 1) hx hb dX7_finds_74 (by decide) ?_
          refine lv_iadd hx hb dX7_finds_75 ?_
          refine va_iast hx hb hK hP hD hS 5 0 rfl rfl g11 dX7_finds_76 (fun H locs hP hD hS => ?_)
          have hP : va_P D vwCl ((w_M a0 cI cC mnow mhistory mkept mslot misFilled p1 (upd v_mmeasures_L5 (v_l3_L5).toNatClampNeg 0) (upd v_mmost_L5 (((q9 - 1) / 2)).toNatClampNeg ((v_mmost_L5 (((q9 - 1) / 2)).toNatClampNeg) + 1)) mnumbers mround mtyped mtext mat mnumber mreads mbeyond mjudgedTo mreach mgoes) ++ R) H := hP
          have hD : va_D A ((w_M a0 cI cC mnow mhistory mkept mslot misFilled p1 (upd v_mmeasures_L5 (v_l3_L5).toNatClampNeg 0) (upd v_mmost_L5 (((q9 - 1) / 2)).toNatClampNeg ((v_mmost_L5 (((q9 - 1) / 2)).toNatClampNeg) + 1)) mnumbers mround mtyped mtext mat mnumber mreads mbeyond mjudgedTo mreach mgoes) ++ R) := hD
          refine lv_iinc (v := (v_l3_L5 + 1)) (lv' := [(3, .int (v_l3_L5 + 1)), (4, .int q9), (0, .ref (a0 0)), (2, .int (mnow 56))]) hx hb dX7_finds_77 hl (k := 3) rfl (congrArg (fun z => v_l3_L5 + z) (by decide)) (by decide) rfl (fun ls hl => ?_)
          refine lv_goto (tgt := 35) hx hb dX7_finds_80 (by decide) ?_
          exact ih (v_l3_L5 + 1) (upd v_mmeasures_L5 (v_l3_L5).toNatClampNeg 0) (upd v_mmost_L5 (((q9 - 1) / 2)).toNatClampNeg ((v_mmost_L5 (((q9 - 1) / 2)).toNatClampNeg) + 1)) _ hf _ _ hP hD hS _ (lv_sub hl [2, 3, 0] rfl) kx
  refine L5 n 0 mmeasures q2 q6 hq6 _ _ hP hD hS _ (lv_sub hl [1, 2, 0] rfl) ?_
  clear hP hD hS hl
  intro H locs hP hD hS ls hl
  refine lv_aload_n hx hb dX7_finds_83 rfl (lv_at hl 0 rfl) ?_
  refine lv_iconst (v := 0) hx hb dX7_finds_84 (by decide) ?_
  refine va_put (D := D) (ci := 7) (v := .int 0) (ty := .int) (C := RX7) (T := TX7) (N := 19) hx hb hts inw_X7_finds_7 tyX7 tyX7_ok nmX7 hown hK hP hD hS 0 rfl rfl 9 (by decide) (hts (.fieldLink RX7 77 "RingGamesModel" "round" "I") (List.mem_of_getElem? (i := 5) rfl)) (fun _ h9 => h9) rfl (tyX7_ok 9 (by decide)) rfl rfl (Nat.le_of_ble_eq_true rfl) dX7_finds_85 (fun H locs hP hD hS => ?_)
  have hP : va_P D vwCl ((w_M a0 cI cC mnow mhistory mkept mslot misFilled p1 q6.1 q6.2 mnumbers 0 mtyped mtext mat mnumber mreads mbeyond mjudgedTo mreach mgoes) ++ R) H := hP
  have hD : va_D A ((w_M a0 cI cC mnow mhistory mkept mslot misFilled p1 q6.1 q6.2 mnumbers 0 mtyped mtext mat mnumber mreads mbeyond mjudgedTo mreach mgoes) ++ R) := hD
  refine lv_iconst (v := 1) hx hb dX7_finds_88 (by decide) ?_
  refine lv_istore_n (lv' := [(3, .int 1), (0, .ref (a0 0)), (2, .int (mnow 56))]) hx hb dX7_finds_89 rfl hl (by decide) rfl (fun ls hl => ?_)
  obtain ⟨q13, hq13, hf⟩ := ob_some hf
  have L12 : ∀ (k : Nat) (v_l3_L12 : Int32) (v_mmeasures_L12 : (Nat → Int32)) (v_mnumbers_L12 : (Nat → Int32)) (v_mround_L12 : Int32) (q_L12 : (Nat → Int32) × (Nat → Int32) × Int32), f_X7_finds_L90 n mnow p1 q6.2 (mnow 56) k v_l3_L12 v_mmeasures_L12 v_mnumbers_L12 v_mround_L12 = some q_L12 → ∀ (H : Heap) (locs : List Loc), va_P D vwCl ((w_M a0 cI cC mnow mhistory mkept mslot misFilled p1 v_mmeasures_L12 q6.2 v_mnumbers_L12 v_mround_L12 mtyped mtext mat mnumber mreads mbeyond mjudgedTo mreach mgoes) ++ R) H → va_D A ((w_M a0 cI cC mnow mhistory mkept mslot misFilled p1 v_mmeasures_L12 q6.2 v_mnumbers_L12 v_mround_L12 mtyped mtext mat mnumber mreads mbeyond mjudgedTo mreach mgoes) ++ R) → va_S A s.heap H locs → ∀ ls : Array Slot, lv_has ls 6 [(0, .ref (a0 0)), (2, .int (mnow 56)), (3, .int v_l3_L12)] → (∀ (H : Heap) (locs : List Loc), va_P D vwCl ((w_M a0 cI cC mnow mhistory mkept mslot misFilled p1 q_L12.1 q6.2 q_L12.2.1 q_L12.2.2 mtyped mtext mat mnumber mreads mbeyond mjudgedTo mreach mgoes) ++ R) H → va_D A ((w_M a0 cI cC mnow mhistory mkept mslot misFilled p1 q_L12.1 q6.2 q_L12.2.1 q_L12.2.2 mtyped mtext mat mnumber mreads mbeyond mjudgedTo mreach mgoes) ++ R) → va_S A s.heap H locs → ∀ ls : Array Slot, lv_has ls 6 [] → W p l e (xR 3 69) s m args below meth c H locs 0 0 Q (F0 m 155 ls [])) → W p l e (xR 3 69) s m args below meth c H locs 0 0 Q (F0 m 90 ls []) := by
    intro k
    induction k with
    | zero => intro v_l3_L12 v_mmeasures_L12 v_mnumbers_L12 v_mround_L12 q_L12 hf; simp [f_X7_finds_L90] at hf
    | succ k ih =>
      intro v_l3_L12 v_mmeasures_L12 v_mnumbers_L12 v_mround_L12 q_L12 hf H locs hP hD hS ls hl kx
      rw [f_X7_finds_L90] at hf
      refine lv_iload_n hx hb dX7_finds_90 rfl (lv_at hl 2 rfl) ?_
      refine lv_if_eq (tgt := 155) hx hb dX7_finds_91 (by decide) (fun c14 => ?_) (fun c14 => ?_)
      · have hf := if_t hf c14
        have hf := Option.some.inj hf
        subst hf
        exact kx _ _ hP hD hS _ (lv_sub hl [] rfl)
      · have hf := if_f hf c14
        refine lv_aload_n hx hb dX7_finds_94 rfl (lv_at hl 0 rfl) ?_
        refine lv_dup hx hb dX7_finds_95 rfl ?_
        refine va_get (D := D) (ci := 7) (v := .int v_mround_L12) (C := RX7) (T := TX7) (N := 19) hx hb hts inw_X7_finds_7 hown hK hP 0 rfl rfl 9 (by decide) (hts (.fieldLink RX7 77 "RingGamesModel" "round" "I") (List.mem_of_getElem? (i := 5) rfl)) (fun _ h9 => h9) rfl dX7_finds_96 ?_
        refine lv_iconst (v := 1) hx hb dX7_finds_99 (by decide) ?_
        refine lv_iadd hx hb dX7_finds_100 ?_
        refine va_put (D := D) (ci := 7) (v := .int (v_mround_L12 + 1)) (ty := .int) (C := RX7) (T := TX7) (N := 19) hx hb hts inw_X7_finds_7 tyX7 tyX7_ok nmX7 hown hK hP hD hS 0 rfl rfl 9 (by decide) (hts (.fieldLink RX7 77 "RingGamesModel" "round" "I") (List.mem_of_getElem? (i := 5) rfl)) (fun _ h9 => h9) rfl (tyX7_ok 9 (by decide)) rfl rfl (Nat.le_of_ble_eq_true rfl) dX7_finds_101 (fun H locs hP hD hS => ?_)
        have hP : va_P D vwCl ((w_M a0 cI cC mnow mhistory mkept mslot misFilled p1 v_mmeasures_L12 q6.2 v_mnumbers_L12 (v_mround_L12 + 1) mtyped mtext mat mnumber mreads mbeyond mjudgedTo mreach mgoes) ++ R) H := hP
        have hD : va_D A ((w_M a0 cI cC mnow mhistory mkept mslot misFilled p1 v_mmeasures_L12 q6.2 v_mnumbers_L12 (v_mround_L12 + 1) mtyped mtext mat mnumber mreads mbeyond mjudgedTo mreach mgoes) ++ R) := hD
        refine lv_iconst (v := 0) hx hb dX7_finds_104 (by decide) ?_
        refine lv_istore_n (lv' := [(3, .int 0), (0, .ref (a0 0)), (2, .int (mnow 56))]) hx hb dX7_finds_105 rfl hl (by decide) rfl (fun ls hl => ?_)
        refine lv_iconst (v := 0) hx hb dX7_finds_106 (by decide) ?_
        refine lv_istore (lv' := [(4, .int 0), (3, .int 0), (0, .ref (a0 0)), (2, .int (mnow 56))]) hx hb dX7_finds_107 hl (by decide) rfl (fun ls hl => ?_)
        obtain ⟨q16, hq16, hf⟩ := ob_some hf
        have L15 : ∀ (k : Nat) (v_l3_L15 : Int32) (v_l4_L15 : Int32) (v_mmeasures_L15 : (Nat → Int32)) (v_mnumbers_L15 : (Nat → Int32)) (q_L15 : Int32 × (Nat → Int32) × (Nat → Int32)), f_X7_finds_L109 n mnow p1 q6.2 (mnow 56) k v_l3_L15 v_l4_L15 v_mmeasures_L15 v_mnumbers_L15 = some q_L15 → ∀ (H : Heap) (locs : List Loc), va_P D vwCl ((w_M a0 cI cC mnow mhistory mkept mslot misFilled p1 v_mmeasures_L15 q6.2 v_mnumbers_L15 (v_mround_L12 + 1) mtyped mtext mat mnumber mreads mbeyond mjudgedTo mreach mgoes) ++ R) H → va_D A ((w_M a0 cI cC mnow mhistory mkept mslot misFilled p1 v_mmeasures_L15 q6.2 v_mnumbers_L15 (v_mround_L12 + 1) mtyped mtext mat mnumber mreads mbeyond mjudgedTo mreach mgoes) ++ R) → va_S A s.heap H locs → ∀ ls : Array Slot, lv_has ls 6 [(0, .ref (a0 0)), (2, .int (mnow 56)), (3, .int v_l3_L15), (4, .int v_l4_L15)] → (∀ (H : Heap) (locs : List Loc), va_P D vwCl ((w_M a0 cI cC mnow mhistory mkept mslot misFilled p1 q_L15.2.1 q6.2 q_L15.2.2 (v_mround_L12 + 1) mtyped mtext mat mnumber mreads mbeyond mjudgedTo mreach mgoes) ++ R) H → va_D A ((w_M a0 cI cC mnow mhistory mkept mslot misFilled p1 q_L15.2.1 q6.2 q_L15.2.2 (v_mround_L12 + 1) mtyped mtext mat mnumber mreads mbeyond mjudgedTo mreach mgoes) ++ R) → va_S A s.heap H locs → ∀ ls : Array Slot, lv_has ls 6 [(0, .ref (a0 0)), (2, .int (mnow 56)), (3, .int q_L15.1)] → W p l e (xR 3 69) s m args below meth c H locs 0 0 Q (F0 m 152 ls [])) → W p l e (xR 3 69) s m args below meth c H locs 0 0 Q (F0 m 109 ls []) := by
          intro k
          induction k with
          | zero => intro v_l3_L15 v_l4_L15 v_mmeasures_L15 v_mnumbers_L15 q_L15 hf; simp [f_X7_finds_L109] at hf
          | succ k ih =>
            intro v_l3_L15 v_l4_L15 v_mmeasures_L15 v_mnumbers_L15 q_L15 hf H locs hP hD hS ls hl kx
            rw [f_X7_finds_L109] at hf
            refine lv_iload hx hb dX7_finds_109 (lv_at hl 3 rfl) ?_
            refine lv_iload_n hx hb dX7_finds_111 rfl (lv_at hl 1 rfl) ?_
            refine lv_icmp_ge (tgt := 152) hx hb dX7_finds_112 (by decide) (fun c17 => ?_) (fun c17 => ?_)
            · have hf := if_t hf c17
              have hf := Option.some.inj hf
              subst hf
              exact kx _ _ hP hD hS _ (lv_sub hl [0, 1, 2] rfl)
            · have hf := if_f hf c17
              refine lv_aload_n hx hb dX7_finds_115 rfl (lv_at hl 0 rfl) ?_
              refine lv_iload hx hb dX7_finds_116 (lv_at hl 3 rfl) ?_
              obtain ⟨q18, hq18, hf⟩ := ob_some hf
              refine xcVi (w' := ((w_M a0 cI cC mnow mhistory mkept mslot misFilled p1 v_mmeasures_L15 q6.2 q18.2 (v_mround_L12 + 1) mtyped mtext mat mnumber mreads mbeyond mjudgedTo mreach mgoes) ++ R)) S hK hN hA hP hD hS (c_X7_asks l D cI cC cS R a0 mnow mhistory mkept mslot misFilled p1 v_mmeasures_L15 q6.2 v_mnumbers_L15 (v_mround_L12 + 1) mtyped mtext mat mnumber mreads mbeyond mjudgedTo mreach mgoes v_l4_L15 n _ hq18) gX7_finds_X7_asks rfl hd_X7_asks ⟨by decide, by decide⟩ (List.Perm.refl _) (List.Perm.refl _) (ci := 7) (q := (RX7, TX7, 19)) rfl rfl rfl rfl hl.1 rfl (Nat.le_of_ble_eq_true rfl) dX7_finds_118 ⟨Nat.zero_le _, Nat.zero_le _⟩ (fun H locs hP hD hS => ?_)
              refine lv_istore (lv' := [(5, .int q18.1), (0, .ref (a0 0)), (2, .int (mnow 56)), (3, .int v_l3_L15), (4, .int v_l4_L15)]) hx hb dX7_finds_121 hl (by decide) rfl (fun ls hl => ?_)
              refine lv_aload_n hx hb dX7_finds_123 rfl (lv_at hl 1 rfl) ?_
              refine va_get (D := D) (ci := 7) (v := .ref (a0 4)) (C := RX7) (T := TX7) (N := 19) hx hb hts inw_X7_finds_7 hown hK hP 0 rfl rfl 6 (by decide) (hts (.fieldLink RX7 19 "RingGamesModel" "measures" "[I") (List.mem_of_getElem? (i := 4) rfl)) (fun _ h9 => h9) rfl dX7_finds_124 ?_
              refine lv_iload hx hb dX7_finds_127 (lv_at hl 4 rfl) ?_
              obtain ⟨g19, hf⟩ := vg_some hf
              refine va_iald hx hb hK hP 4 0 rfl rfl g19 dX7_finds_129 ?_
              refine lv_iload hx hb dX7_finds_130 (lv_at hl 0 rfl) ?_
              refine lv_icmp_ge (tgt := 146) hx hb dX7_finds_132 (by decide) (fun c20 => ?_) (fun c20 => ?_)
              · have hf := if_t hf c20
                refine lv_iinc (v := (v_l4_L15 + 1)) (lv' := [(4, .int (v_l4_L15 + 1)), (5, .int q18.1), (0, .ref (a0 0)), (2, .int (mnow 56)), (3, .int v_l3_L15)]) hx hb dX7_finds_146 hl (k := 4) rfl (congrArg (fun z => v_l4_L15 + z) (by decide)) (by decide) rfl (fun ls hl => ?_)
                refine lv_goto (tgt := 109) hx hb dX7_finds_149 (by decide) ?_
                exact ih v_l3_L15 (v_l4_L15 + 1) v_mmeasures_L15 q18.2 _ hf _ _ hP hD hS _ (lv_sub hl [2, 3, 4, 0] rfl) kx
              · have hf := if_f hf c20
                refine lv_aload_n hx hb dX7_finds_135 rfl (lv_at hl 1 rfl) ?_
                refine va_get (D := D) (ci := 7) (v := .ref (a0 4)) (C := RX7) (T := TX7) (N := 19) hx hb hts inw_X7_finds_7 hown hK hP 0 rfl rfl 6 (by decide) (hts (.fieldLink RX7 19 "RingGamesModel" "measures" "[I") (List.mem_of_getElem? (i := 4) rfl)) (fun _ h9 => h9) rfl dX7_finds_136 ?_
                refine lv_iload hx hb dX7_finds_139 (lv_at hl 4 rfl) ?_
                refine lv_iload hx hb dX7_finds_141 (lv_at hl 0 rfl) ?_
                refine va_iast hx hb hK hP hD hS 4 0 rfl rfl g19 dX7_finds_143 (fun H locs hP hD hS => ?_)
                have hP : va_P D vwCl ((w_M a0 cI cC mnow mhistory mkept mslot misFilled p1 (upd v_mmeasures_L15 (v_l4_L15).toNatClampNeg q18.1) q6.2 q18.2 (v_mround_L12 + 1) mtyped mtext mat mnumber mreads mbeyond mjudgedTo mreach mgoes) ++ R) H := hP
                have hD : va_D A ((w_M a0 cI cC mnow mhistory mkept mslot misFilled p1 (upd v_mmeasures_L15 (v_l4_L15).toNatClampNeg q18.1) q6.2 q18.2 (v_mround_L12 + 1) mtyped mtext mat mnumber mreads mbeyond mjudgedTo mreach mgoes) ++ R) := hD
                refine lv_iconst (v := 1) hx hb dX7_finds_144 (by decide) ?_
                refine lv_istore_n (lv' := [(3, .int 1), (5, .int q18.1), (0, .ref (a0 0)), (2, .int (mnow 56)), (4, .int v_l4_L15)]) hx hb dX7_finds_145 rfl hl (by decide) rfl (fun ls hl => ?_)
                refine lv_iinc (v := (v_l4_L15 + 1)) (lv' := [(4, .int (v_l4_L15 + 1)), (3, .int 1), (5, .int q18.1), (0, .ref (a0 0)), (2, .int (mnow 56))]) hx hb dX7_finds_146 hl (k := 4) rfl (congrArg (fun z => v_l4_L15 + z) (by decide)) (by decide) rfl (fun ls hl => ?_)
                refine lv_goto (tgt := 109) hx hb dX7_finds_149 (by decide) ?_
                exact ih 1 (v_l4_L15 + 1) (upd v_mmeasures_L15 (v_l4_L15).toNatClampNeg q18.1) q18.2 _ hf _ _ hP hD hS _ (lv_sub hl [3, 4, 1, 0] rfl) kx
        refine L15 n 0 0 v_mmeasures_L12 v_mnumbers_L12 q16 hq16 _ _ hP hD hS _ (lv_sub hl [2, 3, 1, 0] rfl) ?_
        clear hP hD hS hl
        intro H locs hP hD hS ls hl
        refine lv_goto (tgt := 90) hx hb dX7_finds_152 (by decide) ?_
        exact ih q16.1 q16.2.1 q16.2.2 (v_mround_L12 + 1) _ hf _ _ hP hD hS _ (lv_sub hl [0, 1, 2] rfl) kx
  refine L12 n 1 q6.1 mnumbers 0 q13 hq13 _ _ hP hD hS _ (lv_sub hl [1, 2, 0] rfl) ?_
  clear hP hD hS hl
  intro H locs hP hD hS ls hl
  have hf := Option.some.inj hf
  subst hf
  exact hret _ _ _ _ dX7_finds_155 hP hD hS
def f_X7_won_L4 (d_mnow : (Nat → Int32)) (d_mmeasures : (Nat → Int32)) : Nat → Int32 → Int32 → Option Int32
  | 0, _, _ => none
  | k + 1, d_l1, d_l2 => (if (d_mnow 56) ≤ d_l2 then some (d_l1) else vg d_l2 14 ((if (d_mmeasures (d_l2).toNatClampNeg) = 50625 then f_X7_won_L4 d_mnow d_mmeasures k (d_l1 ||| 0) (d_l2 + 1) else f_X7_won_L4 d_mnow d_mmeasures k (d_l1 ||| (jshl 1 d_l2)) (d_l2 + 1))))
def f_X7_won (n : Nat) (mnow : (Nat → Int32)) (mmeasures : (Nat → Int32)) : Option Int32 := (f_X7_won_L4 mnow mmeasures n 0 0).bind fun q2 => some (q2)
theorem inw_X7_won_7 : ∀ w ∈ wsX70, w ∈ wsX7_won := fun _ h => List.mem_cons_of_mem _ (List.mem_append_right _ h)
theorem hd_X7_won : yX7_won.cls = RX7 ∧ yX7_won.cls ≠ "java/lang/invoke/MethodHandle" ∧ yX7_won.cls ≠ "java/lang/invoke/VarHandle" ∧ (parseMethodDescriptor yX7_won.desc).map (fun d => d.parameters.length) = some 0 := by decide +kernel
set_option maxHeartbeats 4000000 in
set_option maxRecDepth 100000 in
theorem c_X7_won (l : Launch) (D : va_G) (cI cC cS : ClassId) (R : va_W) (a0 : Nat → Nat) (mnow : (Nat → Int32)) (mhistory : (Nat → Int32)) (mkept : Int32) (mslot : (Nat → Int32)) (misFilled : Int32) (mgame : Int32) (mmeasures : (Nat → Int32)) (mmost : (Nat → Int32)) (mnumbers : (Nat → Int32)) (mround : Int32) (mtyped : Int32) (mtext : (Nat → Int32)) (mat : Int32) (mnumber : Int32) (mreads : (Nat → Int32)) (mbeyond : Int32) (mjudgedTo : (Nat → Int32)) (mreach : (Nat → Int32)) (mgoes : (Nat → Int32)) (n : Nat) (r : Int32) (hf : f_X7_won n mnow mmeasures = some r) : CI l yX7_won wsX7_won 0 0 D cI cC cS [.ref (a0 0)] ((w_M a0 cI cC mnow mhistory mkept mslot misFilled mgame mmeasures mmost mnumbers mround mtyped mtext mat mnumber mreads mbeyond mjudgedTo mreach mgoes) ++ R) r ((w_M a0 cI cC mnow mhistory mkept mslot misFilled mgame mmeasures mmost mnumbers mround mtyped mtext mat mnumber mreads mbeyond mjudgedTo mreach mgoes) ++ R) := by
  refine XI.of (cc := cX7_won) (maxL := 3) (ty := .int) (own := RX7) (by decide) rfl rfl (Nat.le_of_ble_eq_true rfl) ?_
  intro p e s m args below meth c A Q S hK hN hA hP hD hS ls hl hret
  obtain ⟨hx, hb, hml, hown, hts⟩ := id S
  have hl : lv_has ls 3 [(0, .ref (a0 0))] := hl
  unfold f_X7_won at hf
  refine lv_iconst (v := 0) hx hb dX7_won_0 (by decide) ?_
  refine lv_istore_n (lv' := [(1, .int 0), (0, .ref (a0 0))]) hx hb dX7_won_1 rfl hl (by decide) rfl (fun ls hl => ?_)
  refine lv_iconst (v := 0) hx hb dX7_won_2 (by decide) ?_
  refine lv_istore_n (lv' := [(2, .int 0), (1, .int 0), (0, .ref (a0 0))]) hx hb dX7_won_3 rfl hl (by decide) rfl (fun ls hl => ?_)
  obtain ⟨q2, hq2, hf⟩ := ob_some hf
  have L1 : ∀ (k : Nat) (v_l1_L1 : Int32) (v_l2_L1 : Int32) (q_L1 : Int32), f_X7_won_L4 mnow mmeasures k v_l1_L1 v_l2_L1 = some q_L1 → ∀ (H : Heap) (locs : List Loc), va_P D vwCl ((w_M a0 cI cC mnow mhistory mkept mslot misFilled mgame mmeasures mmost mnumbers mround mtyped mtext mat mnumber mreads mbeyond mjudgedTo mreach mgoes) ++ R) H → va_D A ((w_M a0 cI cC mnow mhistory mkept mslot misFilled mgame mmeasures mmost mnumbers mround mtyped mtext mat mnumber mreads mbeyond mjudgedTo mreach mgoes) ++ R) → va_S A s.heap H locs → ∀ ls : Array Slot, lv_has ls 3 [(0, .ref (a0 0)), (1, .int v_l1_L1), (2, .int v_l2_L1)] → (∀ (H : Heap) (locs : List Loc), va_P D vwCl ((w_M a0 cI cC mnow mhistory mkept mslot misFilled mgame mmeasures mmost mnumbers mround mtyped mtext mat mnumber mreads mbeyond mjudgedTo mreach mgoes) ++ R) H → va_D A ((w_M a0 cI cC mnow mhistory mkept mslot misFilled mgame mmeasures mmost mnumbers mround mtyped mtext mat mnumber mreads mbeyond mjudgedTo mreach mgoes) ++ R) → va_S A s.heap H locs → ∀ ls : Array Slot, lv_has ls 3 [(1, .int q_L1)] → W p l e (xR 0 0) s m args below meth c H locs 0 0 Q (F0 m 42 ls [])) → W p l e (xR 0 0) s m args below meth c H locs 0 0 Q (F0 m 4 ls []) := by
    intro k
    induction k with
    | zero => intro v_l1_L1 v_l2_L1 q_L1 hf; simp [f_X7_won_L4] at hf
    | succ k ih =>
      intro v_l1_L1 v_l2_L1 q_L1 hf H locs hP hD hS ls hl kx
      rw [f_X7_won_L4] at hf
      refine lv_iload_n hx hb dX7_won_4 rfl (lv_at hl 2 rfl) ?_
      refine lv_aload_n hx hb dX7_won_5 rfl (lv_at hl 0 rfl) ?_
      refine va_get (D := D) (ci := 7) (v := .ref (a0 1)) (C := RX7) (T := TX7) (N := 19) hx hb hts inw_X7_won_7 hown hK hP 0 rfl rfl 0 (by decide) (hts (.fieldLink RX7 7 "RingGamesModel" "now" "[I") (List.mem_of_getElem? (i := 1) rfl)) (fun _ h9 => h9) rfl dX7_won_6 ?_
      refine lv_bipush (v := 56) hx hb dX7_won_9 (by decide) ?_
      refine va_iald hx hb hK hP 1 0 rfl rfl (x_in (by decide)) dX7_won_11 ?_
      refine lv_icmp_ge (tgt := 42) hx hb dX7_won_12 (by decide) (fun c3 => ?_) (fun c3 => ?_)
      · have hf := if_t hf c3
        have hf := Option.some.inj hf
        subst hf
        exact kx _ _ hP hD hS _ (lv_sub hl [1] rfl)
      · have hf := if_f hf c3
        refine lv_iload_n hx hb dX7_won_15 rfl (lv_at hl 1 rfl) ?_
        refine lv_aload_n hx hb dX7_won_16 rfl (lv_at hl 0 rfl) ?_
        refine va_get (D := D) (ci := 7) (v := .ref (a0 4)) (C := RX7) (T := TX7) (N := 19) hx hb hts inw_X7_won_7 hown hK hP 0 rfl rfl 6 (by decide) (hts (.fieldLink RX7 19 "RingGamesModel" "measures" "[I") (List.mem_of_getElem? (i := 2) rfl)) (fun _ h9 => h9) rfl dX7_won_17 ?_
        refine lv_iload_n hx hb dX7_won_20 rfl (lv_at hl 2 rfl) ?_
        obtain ⟨g4, hf⟩ := vg_some hf
        refine va_iald hx hb hK hP 4 0 rfl rfl g4 dX7_won_21 ?_
        refine lv_ldc hx hb hown (hts (.constant RX7 63 (50625)) (List.mem_of_getElem? (i := 3) rfl)) dX7_won_22 ?_
        refine lv_icmp_ne (tgt := 31) hx hb dX7_won_24 (by decide) (fun c5 => ?_) (fun c5 => ?_)
        · have hf := if_f hf c5
          refine lv_iconst (v := 1) hx hb dX7_won_31 (by decide) ?_
          refine lv_iload_n hx hb dX7_won_32 rfl (lv_at hl 2 rfl) ?_
          refine lv_ishl hx hb dX7_won_33 ?_
          refine lv_ior hx hb dX7_won_34 ?_
          refine lv_istore_n (lv' := [(1, .int (v_l1_L1 ||| (jshl 1 v_l2_L1))), (0, .ref (a0 0)), (2, .int v_l2_L1)]) hx hb dX7_won_35 rfl hl (by decide) rfl (fun ls hl => ?_)
          refine lv_iinc (v := (v_l2_L1 + 1)) (lv' := [(2, .int (v_l2_L1 + 1)), (1, .int (v_l1_L1 ||| (jshl 1 v_l2_L1))), (0, .ref (a0 0))]) hx hb dX7_won_36 hl (k := 2) rfl (congrArg (fun z => v_l2_L1 + z) (by decide)) (by decide) rfl (fun ls hl => ?_)
          refine lv_goto (tgt := 4) hx hb dX7_won_39 (by decide) ?_
          exact ih (v_l1_L1 ||| (jshl 1 v_l2_L1)) (v_l2_L1 + 1) _ hf _ _ hP hD hS _ (lv_sub hl [2, 1, 0] rfl) kx
        · have hf := if_t hf c5
          refine lv_iconst (v := 0) hx hb dX7_won_27 (by decide) ?_
          refine lv_goto (tgt := 34) hx hb dX7_won_28 (by decide) ?_
          refine lv_ior hx hb dX7_won_34 ?_
          refine lv_istore_n (lv' := [(1, .int (v_l1_L1 ||| 0)), (0, .ref (a0 0)), (2, .int v_l2_L1)]) hx hb dX7_won_35 rfl hl (by decide) rfl (fun ls hl => ?_)
          refine lv_iinc (v := (v_l2_L1 + 1)) (lv' := [(2, .int (v_l2_L1 + 1)), (1, .int (v_l1_L1 ||| 0)), (0, .ref (a0 0))]) hx hb dX7_won_36 hl (k := 2) rfl (congrArg (fun z => v_l2_L1 + z) (by decide)) (by decide) rfl (fun ls hl => ?_)
          refine lv_goto (tgt := 4) hx hb dX7_won_39 (by decide) ?_
          exact ih (v_l1_L1 ||| 0) (v_l2_L1 + 1) _ hf _ _ hP hD hS _ (lv_sub hl [2, 1, 0] rfl) kx
  refine L1 n 0 0 q2 hq2 _ _ hP hD hS _ (lv_sub hl [2, 1, 0] rfl) ?_
  clear hP hD hS hl
  intro H locs hP hD hS ls hl
  refine lv_iload_n hx hb dX7_won_42 rfl (lv_at hl 0 rfl) ?_
  have hf := Option.some.inj hf
  subst hf
  exact hret _ _ _ _ _ dX7_won_43 rfl hP hD hS rfl
def f_X7_winsOf (n : Nat) (mnow : (Nat → Int32)) (mmeasures : (Nat → Int32)) (mmost : (Nat → Int32)) (mnumbers : (Nat → Int32)) (p1 : Int32) : Option (Int32 × Int32 × (Nat → Int32) × (Nat → Int32) × (Nat → Int32) × Int32) := (f_X7_finds n mnow mmeasures mmost mnumbers p1).bind fun q1 => (f_X7_won n mnow q1.2.1).bind fun q2 => some (q2, q1.1, q1.2.1, q1.2.2.1, q1.2.2.2.1, q1.2.2.2.2)
theorem hd_X7_winsOf : yX7_winsOf.cls = RX7 ∧ yX7_winsOf.cls ≠ "java/lang/invoke/MethodHandle" ∧ yX7_winsOf.cls ≠ "java/lang/invoke/VarHandle" ∧ (parseMethodDescriptor yX7_winsOf.desc).map (fun d => d.parameters.length) = some 1 := by decide +kernel
set_option maxHeartbeats 4000000 in
set_option maxRecDepth 100000 in
theorem c_X7_winsOf (l : Launch) (D : va_G) (cI cC cS : ClassId) (R : va_W) (a0 : Nat → Nat) (mnow : (Nat → Int32)) (mhistory : (Nat → Int32)) (mkept : Int32) (mslot : (Nat → Int32)) (misFilled : Int32) (mgame : Int32) (mmeasures : (Nat → Int32)) (mmost : (Nat → Int32)) (mnumbers : (Nat → Int32)) (mround : Int32) (mtyped : Int32) (mtext : (Nat → Int32)) (mat : Int32) (mnumber : Int32) (mreads : (Nat → Int32)) (mbeyond : Int32) (mjudgedTo : (Nat → Int32)) (mreach : (Nat → Int32)) (mgoes : (Nat → Int32)) (p1 : Int32) (n : Nat) (r : Int32 × Int32 × (Nat → Int32) × (Nat → Int32) × (Nat → Int32) × Int32) (hf : f_X7_winsOf n mnow mmeasures mmost mnumbers p1 = some r) : CI l yX7_winsOf wsX7_winsOf 4 94 D cI cC cS [.ref (a0 0), .int p1] ((w_M a0 cI cC mnow mhistory mkept mslot misFilled mgame mmeasures mmost mnumbers mround mtyped mtext mat mnumber mreads mbeyond mjudgedTo mreach mgoes) ++ R) r.1 ((w_M a0 cI cC mnow mhistory mkept mslot misFilled r.2.1 r.2.2.1 r.2.2.2.1 r.2.2.2.2.1 r.2.2.2.2.2 mtyped mtext mat mnumber mreads mbeyond mjudgedTo mreach mgoes) ++ R) := by
  refine XI.of (cc := cX7_winsOf) (maxL := 2) (ty := .int) (own := RX7) (by decide) rfl rfl (Nat.le_of_ble_eq_true rfl) ?_
  intro p e s m args below meth c A Q S hK hN hA hP hD hS ls hl hret
  obtain ⟨hx, hb, hml, hown, hts⟩ := id S
  have hl : lv_has ls 2 [(0, .ref (a0 0)), (1, .int p1)] := hl
  unfold f_X7_winsOf at hf
  refine lv_aload_n hx hb dX7_winsOf_0 rfl (lv_at hl 0 rfl) ?_
  refine lv_iload_n hx hb dX7_winsOf_1 rfl (lv_at hl 1 rfl) ?_
  obtain ⟨q1, hq1, hf⟩ := ob_some hf
  refine xcVv (w' := ((w_M a0 cI cC mnow mhistory mkept mslot misFilled q1.1 q1.2.1 q1.2.2.1 q1.2.2.2.1 q1.2.2.2.2 mtyped mtext mat mnumber mreads mbeyond mjudgedTo mreach mgoes) ++ R)) S hK hN hA hP hD hS (c_X7_finds l D cI cC cS R a0 mnow mhistory mkept mslot misFilled mgame mmeasures mmost mnumbers mround mtyped mtext mat mnumber mreads mbeyond mjudgedTo mreach mgoes p1 n _ hq1) gX7_winsOf_X7_finds rfl hd_X7_finds ⟨by decide, by decide⟩ (List.Perm.refl _) (List.Perm.refl _) (ci := 7) (q := (RX7, TX7, 19)) rfl rfl rfl rfl hl.1 rfl (Nat.le_of_ble_eq_true rfl) dX7_winsOf_2 ⟨Nat.zero_le _, Nat.zero_le _⟩ (fun H locs hP hD hS => ?_)
  refine lv_aload_n hx hb dX7_winsOf_5 rfl (lv_at hl 0 rfl) ?_
  obtain ⟨q2, hq2, hf⟩ := ob_some hf
  refine xcVi (w' := ((w_M a0 cI cC mnow mhistory mkept mslot misFilled q1.1 q1.2.1 q1.2.2.1 q1.2.2.2.1 q1.2.2.2.2 mtyped mtext mat mnumber mreads mbeyond mjudgedTo mreach mgoes) ++ R)) S hK hN hA hP hD hS (c_X7_won l D cI cC cS R a0 mnow mhistory mkept mslot misFilled q1.1 q1.2.1 q1.2.2.1 q1.2.2.2.1 q1.2.2.2.2 mtyped mtext mat mnumber mreads mbeyond mjudgedTo mreach mgoes n _ hq2) gX7_winsOf_X7_won rfl hd_X7_won ⟨by decide, by decide⟩ (List.Perm.refl _) (List.Perm.refl _) (ci := 7) (q := (RX7, TX7, 19)) rfl rfl rfl rfl hl.1 rfl (Nat.le_of_ble_eq_true rfl) dX7_winsOf_6 ⟨Nat.zero_le _, Nat.zero_le _⟩ (fun H locs hP hD hS => ?_)
  have hf := Option.some.inj hf
  subst hf
  exact hret _ _ _ _ _ dX7_winsOf_9 rfl hP hD hS rfl
def f_X7_choiceAt_L9 (n : Nat) (d_mnow : (Nat → Int32)) (d_mgame : Int32) (d_mmeasures : (Nat → Int32)) (d_mmost : (Nat → Int32)) (d_l1 : Int32) : Nat → Int32 → Int32 → Int32 → (Nat → Int32) → Option (Int32 × (Nat → Int32))
  | 0, _, _, _, _ => none
  | k + 1, d_l2, d_l3, d_l4, d_mnumbers => (if (d_mnow 56) ≤ d_l4 then some (d_l2, d_mnumbers) else (f_X7_hasArrow d_mnow d_l1 d_l4).bind fun q2 => ((if q2 = 0 then some (50625, d_mnumbers) else (f_X7_colourIn d_mnow d_mgame d_l1).bind fun q7 => vg d_l4 14 ((f_X7_wanted n d_mmost d_mnumbers q7 (d_mmeasures (d_l4).toNatClampNeg)).bind fun q9 => some (q9.1, q9.2))) : Option (Int32 × (Nat → Int32))).bind fun j4 => (if d_l3 ≤ j4.1 then f_X7_choiceAt_L9 n d_mnow d_mgame d_mmeasures d_mmost d_l1 k d_l2 d_l3 (d_l4 + 1) j4.2 else f_X7_choiceAt_L9 n d_mnow d_mgame d_mmeasures d_mmost d_l1 k d_l4 j4.1 (d_l4 + 1) j4.2))
def f_X7_choiceAt (n : Nat) (mnow : (Nat → Int32)) (mgame : Int32) (mmeasures : (Nat → Int32)) (mmost : (Nat → Int32)) (mnumbers : (Nat → Int32)) (p1 : Int32) : Option (Int32 × (Nat → Int32)) := (f_X7_choiceAt_L9 n mnow mgame mmeasures mmost p1 n (-5) 50625 0 mnumbers).bind fun q2 => vg p1 14 ((if (mmeasures (p1).toNatClampNeg) = 50625 then some ((-5), q2.2) else some (q2.1, q2.2)))
theorem inw_X7_choiceAt_7 : ∀ w ∈ wsX70, w ∈ wsX7_choiceAt := fun _ h => List.mem_cons_of_mem _ (List.mem_append_right _ h)
theorem hd_X7_choiceAt : yX7_choiceAt.cls = RX7 ∧ yX7_choiceAt.cls ≠ "java/lang/invoke/MethodHandle" ∧ yX7_choiceAt.cls ≠ "java/lang/invoke/VarHandle" ∧ (parseMethodDescriptor yX7_choiceAt.desc).map (fun d => d.parameters.length) = some 1 := by decide +kernel
set_option maxHeartbeats 4000000 in
set_option maxRecDepth 100000 in
theorem c_X7_choiceAt (l : Launch) (D : va_G) (cI cC cS : ClassId) (R : va_W) (a0 : Nat → Nat) (mnow : (Nat → Int32)) (mhistory : (Nat → Int32)) (mkept : Int32) (mslot : (Nat → Int32)) (misFilled : Int32) (mgame : Int32) (mmeasures : (Nat → Int32)) (mmost : (Nat → Int32)) (mnumbers : (Nat → Int32)) (mround : Int32) (mtyped : Int32) (mtext : (Nat → Int32)) (mat : Int32) (mnumber : Int32) (mreads : (Nat → Int32)) (mbeyond : Int32) (mjudgedTo : (Nat → Int32)) (mreach : (Nat → Int32)) (mgoes : (Nat → Int32)) (p1 : Int32) (n : Nat) (r : Int32 × (Nat → Int32)) (hf : f_X7_choiceAt n mnow mgame mmeasures mmost mnumbers p1 = some r) : CI l yX7_choiceAt wsX7_choiceAt 2 44 D cI cC cS [.ref (a0 0), .int p1] ((w_M a0 cI cC mnow mhistory mkept mslot misFilled mgame mmeasures mmost mnumbers mround mtyped mtext mat mnumber mreads mbeyond mjudgedTo mreach mgoes) ++ R) r.1 ((w_M a0 cI cC mnow mhistory mkept mslot misFilled mgame mmeasures mmost r.2 mround mtyped mtext mat mnumber mreads mbeyond mjudgedTo mreach mgoes) ++ R) := by
  refine XI.of (cc := cX7_choiceAt) (maxL := 6) (ty := .int) (own := RX7) (by decide) rfl rfl (Nat.le_of_ble_eq_true rfl) ?_
  intro p e s m args below meth c A Q S hK hN hA hP hD hS ls hl hret
  obtain ⟨hx, hb, hml, hown, hts⟩ := id S
  have hl : lv_has ls 6 [(0, .ref (a0 0)), (1, .int p1)] := hl
  unfold f_X7_choiceAt at hf
  refine lv_bipush (v := (-5)) hx hb dX7_choiceAt_0 (by decide) ?_
  refine lv_istore_n (lv' := [(2, .int (-5)), (0, .ref (a0 0)), (1, .int p1)]) hx hb dX7_choiceAt_2 rfl hl (by decide) rfl (fun ls hl => ?_)
  refine lv_ldc hx hb hown (hts (.constant RX7 63 (50625)) (List.mem_of_getElem? (i := 1) rfl)) dX7_choiceAt_3 ?_
  refine lv_istore_n (lv' := [(3, .int 50625), (2, .int (-5)), (0, .ref (a0 0)), (1, .int p1)]) hx hb dX7_choiceAt_5 rfl hl (by decide) rfl (fun ls hl => ?_)
  refine lv_iconst (v := 0) hx hb dX7_choiceAt_6 (by decide) ?_
  refine lv_istore (lv' := [(4, .int 0), (3, .int 50625), (2, .int (-5)), (0, .ref (a0 0)), (1, .int p1)]) hx hb dX7_choiceAt_7 hl (by decide) rfl (fun ls hl => ?_)
  obtain ⟨q2, hq2, hf⟩ := ob_some hf
  have L1 : ∀ (k : Nat) (v_l2_L1 : Int32) (v_l3_L1 : Int32) (v_l4_L1 : Int32) (v_mnumbers_L1 : (Nat → Int32)) (q_L1 : Int32 × (Nat → Int32)), f_X7_choiceAt_L9 n mnow mgame mmeasures mmost p1 k v_l2_L1 v_l3_L1 v_l4_L1 v_mnumbers_L1 = some q_L1 → ∀ (H : Heap) (locs : List Loc), va_P D vwCl ((w_M a0 cI cC mnow mhistory mkept mslot misFilled mgame mmeasures mmost v_mnumbers_L1 mround mtyped mtext mat mnumber mreads mbeyond mjudgedTo mreach mgoes) ++ R) H → va_D A ((w_M a0 cI cC mnow mhistory mkept mslot misFilled mgame mmeasures mmost v_mnumbers_L1 mround mtyped mtext mat mnumber mreads mbeyond mjudgedTo mreach mgoes) ++ R) → va_S A s.heap H locs → ∀ ls : Array Slot, lv_has ls 6 [(0, .ref (a0 0)), (1, .int p1), (2, .int v_l2_L1), (3, .int v_l3_L1), (4, .int v_l4_L1)] → (∀ (H : Heap) (locs : List Loc), va_P D vwCl ((w_M a0 cI cC mnow mhistory mkept mslot misFilled mgame mmeasures mmost q_L1.2 mround mtyped mtext mat mnumber mreads mbeyond mjudgedTo mreach mgoes) ++ R) H → va_D A ((w_M a0 cI cC mnow mhistory mkept mslot misFilled mgame mmeasures mmost q_L1.2 mround mtyped mtext mat mnumber mreads mbeyond mjudgedTo mreach mgoes) ++ R) → va_S A s.heap H locs → ∀ ls : Array Slot, lv_has ls 6 [(0, .ref (a0 0)), (1, .int p1), (2, .int q_L1.1)] → W p l e (xR 2 44) s m args below meth c H locs 0 0 Q (F0 m 72 ls [])) → W p l e (xR 2 44) s m args below meth c H locs 0 0 Q (F0 m 9 ls []) := by
    intro k
    induction k with
    | zero => intro v_l2_L1 v_l3_L1 v_l4_L1 v_mnumbers_L1 q_L1 hf; simp [f_X7_choiceAt_L9] at hf
    | succ k ih =>
      intro v_l2_L1 v_l3_L1 v_l4_L1 v_mnumbers_L1 q_L1 hf H locs hP hD hS ls hl kx
      rw [f_X7_choiceAt_L9] at hf
      refine lv_iload hx hb dX7_choiceAt_9 (lv_at hl 4 rfl) ?_
      refine lv_aload_n hx hb dX7_choiceAt_11 rfl (lv_at hl 0 rfl) ?_
      refine va_get (D := D) (ci := 7) (v := .ref (a0 1)) (C := RX7) (T := TX7) (N := 19) hx hb hts inw_X7_choiceAt_7 hown hK hP 0 rfl rfl 0 (by decide) (hts (.fieldLink RX7 7 "RingGamesModel" "now" "[I") (List.mem_of_getElem? (i := 2) rfl)) (fun _ h9 => h9) rfl dX7_choiceAt_12 ?_
      refine lv_bipush (v := 56) hx hb dX7_choiceAt_15 (by decide) ?_
      refine va_iald hx hb hK hP 1 0 rfl rfl (x_in (by decide)) dX7_choiceAt_17 ?_
      refine lv_icmp_ge (tgt := 72) hx hb dX7_choiceAt_18 (by decide) (fun c3 => ?_) (fun c3 => ?_)
      · have hf := if_t hf c3
        have hf := Option.some.inj hf
        subst hf
        exact kx _ _ hP hD hS _ (lv_sub hl [0, 1, 2] rfl)
      · have hf := if_f hf c3
        refine lv_aload_n hx hb dX7_choiceAt_21 rfl (lv_at hl 0 rfl) ?_
        refine lv_iload_n hx hb dX7_choiceAt_22 rfl (lv_at hl 1 rfl) ?_
        refine lv_iload hx hb dX7_choiceAt_23 (lv_at hl 4 rfl) ?_
        obtain ⟨q4, hq4, hf⟩ := ob_some hf
        refine xcVi (w' := ((w_M a0 cI cC mnow mhistory mkept mslot misFilled mgame mmeasures mmost v_mnumbers_L1 mround mtyped mtext mat mnumber mreads mbeyond mjudgedTo mreach mgoes) ++ R)) S hK hN hA hP hD hS (c_X7_hasArrow l D cI cC cS R a0 mnow mhistory mkept mslot misFilled mgame mmeasures mmost v_mnumbers_L1 mround mtyped mtext mat mnumber mreads mbeyond mjudgedTo mreach mgoes p1 v_l4_L1 _ hq4) gX7_choiceAt_X7_hasArrow rfl hd_X7_hasArrow ⟨by decide, by decide⟩ (List.Perm.refl _) (List.Perm.refl _) (ci := 7) (q := (RX7, TX7, 19)) rfl rfl rfl rfl hl.1 rfl (Nat.le_of_ble_eq_true rfl) dX7_choiceAt_25 ⟨Nat.zero_le _, Nat.zero_le _⟩ (fun H locs hP hD hS => ?_)
        obtain ⟨j6, hj6, hf⟩ := ob_some hf
        have J7 : ∀ (H : Heap) (locs : List Loc), va_P D vwCl ((w_M a0 cI cC mnow mhistory mkept mslot misFilled mgame mmeasures mmost j6.2 mround mtyped mtext mat mnumber mreads mbeyond mjudgedTo mreach mgoes) ++ R) H → va_D A ((w_M a0 cI cC mnow mhistory mkept mslot misFilled mgame mmeasures mmost j6.2 mround mtyped mtext mat mnumber mreads mbeyond mjudgedTo mreach mgoes) ++ R) → va_S A s.heap H locs → ∀ ls : Array Slot, lv_has ls 6 [(0, .ref (a0 0)), (1, .int p1), (2, .int v_l2_L1), (3, .int v_l3_L1), (4, .int v_l4_L1)] → W p l e (xR 2 44) s m args below meth c H locs 0 0 Q (F0 m 52 ls [.int j6.1]) := by
          intro H locs hP hD hS ls hl
          refine lv_istore (lv' := [(5, .int j6.1), (0, .ref (a0 0)), (1, .int p1), (2, .int v_l2_L1), (3, .int v_l3_L1), (4, .int v_l4_L1)]) hx hb dX7_choiceAt_52 hl (by decide) rfl (fun ls hl => ?_)
          refine lv_iload hx hb dX7_choiceAt_54 (lv_at hl 0 rfl) ?_
          refine lv_iload_n hx hb dX7_choiceAt_56 rfl (lv_at hl 4 rfl) ?_
          refine lv_icmp_ge (tgt := 66) hx hb dX7_choiceAt_57 (by decide) (fun c8 => ?_) (fun c8 => ?_)
          · have hf := if_t hf c8
            refine lv_iinc (v := (v_l4_L1 + 1)) (lv' := [(4, .int (v_l4_L1 + 1)), (5, .int j6.1), (0, .ref (a0 0)), (1, .int p1), (2, .int v_l2_L1), (3, .int v_l3_L1)]) hx hb dX7_choiceAt_66 hl (k := 5) rfl (congrArg (fun z => v_l4_L1 + z) (by decide)) (by decide) rfl (fun ls hl => ?_)
            refine lv_goto (tgt := 9) hx hb dX7_choiceAt_69 (by decide) ?_
            exact ih v_l2_L1 v_l3_L1 (v_l4_L1 + 1) j6.2 _ hf _ _ hP hD hS _ (lv_sub hl [2, 3, 4, 5, 0] rfl) kx
          · have hf := if_f hf c8
            refine lv_iload hx hb dX7_choiceAt_60 (lv_at hl 0 rfl) ?_
            refine lv_istore_n (lv' := [(3, .int j6.1), (5, .int j6.1), (0, .ref (a0 0)), (1, .int p1), (2, .int v_l2_L1), (4, .int v_l4_L1)]) hx hb dX7_choiceAt_62 rfl hl (by decide) rfl (fun ls hl => ?_)
            refine lv_iload hx hb dX7_choiceAt_63 (lv_at hl 5 rfl) ?_
            refine lv_istore_n (lv' := [(2, .int v_l4_L1), (3, .int j6.1), (5, .int j6.1), (0, .ref (a0 0)), (1, .int p1), (4, .int v_l4_L1)]) hx hb dX7_choiceAt_65 rfl hl (by decide) rfl (fun ls hl => ?_)
            refine lv_iinc (v := (v_l4_L1 + 1)) (lv' := [(4, .int (v_l4_L1 + 1)), (2, .int v_l4_L1), (3, .int j6.1), (5, .int j6.1), (0, .ref (a0 0)), (1, .int p1)]) hx hb dX7_choiceAt_66 hl (k := 5) rfl (congrArg (fun z => v_l4_L1 + z) (by decide)) (by decide) rfl (fun ls hl => ?_)
            refine lv_goto (tgt := 9) hx hb dX7_choiceAt_69 (by decide) ?_
            exact ih v_l4_L1 j6.1 (v_l4_L1 + 1) j6.2 _ hf _ _ hP hD hS _ (lv_sub hl [4, 5, 1, 2, 0] rfl) kx
        clear hf
        have hf := hj6
        refine lv_if_eq (tgt := 50) hx hb dX7_choiceAt_28 (by decide) (fun c5 => ?_) (fun c5 => ?_)
        · have hf := if_t hf c5
          refine lv_ldc hx hb hown (hts (.constant RX7 63 (50625)) (List.mem_of_getElem? (i := 1) rfl)) dX7_choiceAt_50 ?_
          have hf := Option.some.inj hf
          subst hf
          exact J7 _ _ hP hD hS _ (lv_sub hl [0, 1, 2, 3, 4] rfl)
        · have hf := if_f hf c5
          refine lv_aload_n hx hb dX7_choiceAt_31 rfl (lv_at hl 0 rfl) ?_
          refine lv_aload_n hx hb dX7_choiceAt_32 rfl (lv_at hl 0 rfl) ?_
          refine lv_iload_n hx hb dX7_choiceAt_33 rfl (lv_at hl 1 rfl) ?_
          obtain ⟨q9, hq9, hf⟩ := ob_some hf
          refine xcVi (w' := ((w_M a0 cI cC mnow mhistory mkept mslot misFilled mgame mmeasures mmost v_mnumbers_L1 mround mtyped mtext mat mnumber mreads mbeyond mjudgedTo mreach mgoes) ++ R)) S hK hN hA hP hD hS (c_X7_colourIn l D cI cC cS R a0 mnow mhistory mkept mslot misFilled mgame mmeasures mmost v_mnumbers_L1 mround mtyped mtext mat mnumber mreads mbeyond mjudgedTo mreach mgoes p1 _ hq9) gX7_choiceAt_X7_colourIn rfl hd_X7_colourIn ⟨by decide, by decide⟩ (List.Perm.refl _) (List.Perm.refl _) (ci := 7) (q := (RX7, TX7, 19)) rfl rfl rfl rfl hl.1 rfl (Nat.le_of_ble_eq_true rfl) dX7_choiceAt_34 ⟨Nat.zero_le _, Nat.zero_le _⟩ (fun H locs hP hD hS => ?_)
          refine lv_aload_n hx hb dX7_choiceAt_37 rfl (lv_at hl 0 rfl) ?_
          refine va_get (D := D) (ci := 7) (v := .ref (a0 4)) (C := RX7) (T := TX7) (N := 19) hx hb hts inw_X7_choiceAt_7 hown hK hP 0 rfl rfl 6 (by decide) (hts (.fieldLink RX7 19 "RingGamesModel" "measures" "[I") (List.mem_of_getElem? (i := 3) rfl)) (fun _ h9 => h9) rfl dX7_choiceAt_38 ?_
          refine lv_iload hx hb dX7_choiceAt_41 (lv_at hl 4 rfl) ?_
          obtain ⟨g10, hf⟩ := vg_some hf
          refine va_iald hx hb hK hP 4 0 rfl rfl g10 dX7_choiceAt_43 ?_
          obtain ⟨q11, hq11, hf⟩ := ob_some hf
          refine xcVi (w' := ((w_M a0 cI cC mnow mhistory mkept mslot misFilled mgame mmeasures mmost q11.2 mround mtyped mtext mat mnumber mreads mbeyond mjudgedTo mreach mgoes) ++ R)) S hK hN hA hP hD hS (c_X7_wanted l D cI cC cS R a0 mnow mhistory mkept mslot misFilled mgame mmeasures mmost v_mnumbers_L1 mround mtyped mtext mat mnumber mreads mbeyond mjudgedTo mreach mgoes q9 (mmeasures (v_l4_L1).toNatClampNeg) n _ hq11) gX7_choiceAt_X7_wanted rfl hd_X7_wanted ⟨by decide, by decide⟩ (List.Perm.refl _) (List.Perm.refl _) (ci := 7) (q := (RX7, TX7, 19)) rfl rfl rfl rfl hl.1 rfl (Nat.le_of_ble_eq_true rfl) dX7_choiceAt_44 ⟨Nat.zero_le _, Nat.zero_le _⟩ (fun H locs hP hD hS => ?_)
          refine lv_goto (tgt := 52) hx hb dX7_choiceAt_47 (by decide) ?_
          have hf := Option.some.inj hf
          subst hf
          exact J7 _ _ hP hD hS _ (lv_sub hl [0, 1, 2, 3, 4] rfl)
  refine L1 n (-5) 50625 0 mnumbers q2 hq2 _ _ hP hD hS _ (lv_sub hl [3, 4, 2, 1, 0] rfl) ?_
  clear hP hD hS hl
  intro H locs hP hD hS ls hl
  refine lv_aload_n hx hb dX7_choiceAt_72 rfl (lv_at hl 0 rfl) ?_
  refine va_get (D := D) (ci := 7) (v := .ref (a0 4)) (C := RX7) (T := TX7) (N := 19) hx hb hts inw_X7_choiceAt_7 hown hK hP 0 rfl rfl 6 (by decide) (hts (.fieldLink RX7 19 "RingGamesModel" "measures" "[I") (List.mem_of_getElem? (i := 3) rfl)) (fun _ h9 => h9) rfl dX7_choiceAt_73 ?_
  refine lv_iload_n hx hb dX7_choiceAt_76 rfl (lv_at hl 1 rfl) ?_
  obtain ⟨g12, hf⟩ := vg_some hf
  refine va_iald hx hb hK hP 4 0 rfl rfl g12 dX7_choiceAt_77 ?_
  refine lv_ldc hx hb hown (hts (.constant RX7 63 (50625)) (List.mem_of_getElem? (i := 1) rfl)) dX7_choiceAt_78 ?_
  refine lv_icmp_ne (tgt := 88) hx hb dX7_choiceAt_80 (by decide) (fun c13 => ?_) (fun c13 => ?_)
  · have hf := if_f hf c13
    refine lv_iload_n hx hb dX7_choiceAt_88 rfl (lv_at hl 2 rfl) ?_
    have hf := Option.some.inj hf
    subst hf
    exact hret _ _ _ _ _ dX7_choiceAt_89 rfl hP hD hS rfl
  · have hf := if_t hf c13
    refine lv_bipush (v := (-5)) hx hb dX7_choiceAt_83 (by decide) ?_
    refine lv_goto (tgt := 89) hx hb dX7_choiceAt_85 (by decide) ?_
    have hf := Option.some.inj hf
    subst hf
    exact hret _ _ _ _ _ dX7_choiceAt_89 rfl hP hD hS rfl
def f_X7_bestChoice (n : Nat) (mnow : (Nat → Int32)) (mmeasures : (Nat → Int32)) (mmost : (Nat → Int32)) (mnumbers : (Nat → Int32)) (p1 : Int32) : Option (Int32 × Int32 × (Nat → Int32) × (Nat → Int32) × (Nat → Int32) × Int32) := (f_X7_of mnow p1 0).bind fun q1 => (f_X7_finds n mnow mmeasures mmost mnumbers q1).bind fun q2 => (f_X7_choiceAt n mnow q2.1 q2.2.1 q2.2.2.1 q2.2.2.2.1 p1).bind fun q3 => some (q3.1, q2.1, q2.2.1, q2.2.2.1, q3.2, q2.2.2.2.2)
theorem hd_X7_bestChoice : yX7_bestChoice.cls = RX7 ∧ yX7_bestChoice.cls ≠ "java/lang/invoke/MethodHandle" ∧ yX7_bestChoice.cls ≠ "java/lang/invoke/VarHandle" ∧ (parseMethodDescriptor yX7_bestChoice.desc).map (fun d => d.parameters.length) = some 1 := by decide +kernel
set_option maxHeartbeats 4000000 in
set_option maxRecDepth 100000 in
theorem c_X7_bestChoice (l : Launch) (D : va_G) (cI cC cS : ClassId) (R : va_W) (a0 : Nat → Nat) (mnow : (Nat → Int32)) (mhistory : (Nat → Int32)) (mkept : Int32) (mslot : (Nat → Int32)) (misFilled : Int32) (mgame : Int32) (mmeasures : (Nat → Int32)) (mmost : (Nat → Int32)) (mnumbers : (Nat → Int32)) (mround : Int32) (mtyped : Int32) (mtext : (Nat → Int32)) (mat : Int32) (mnumber : Int32) (mreads : (Nat → Int32)) (mbeyond : Int32) (mjudgedTo : (Nat → Int32)) (mreach : (Nat → Int32)) (mgoes : (Nat → Int32)) (p1 : Int32) (n : Nat) (r : Int32 × Int32 × (Nat → Int32) × (Nat → Int32) × (Nat → Int32) × Int32) (hf : f_X7_bestChoice n mnow mmeasures mmost mnumbers p1 = some r) : CI l yX7_bestChoice wsX7_bestChoice 4 94 D cI cC cS [.ref (a0 0), .int p1] ((w_M a0 cI cC mnow mhistory mkept mslot misFilled mgame mmeasures mmost mnumbers mround mtyped mtext mat mnumber mreads mbeyond mjudgedTo mreach mgoes) ++ R) r.1 ((w_M a0 cI cC mnow mhistory mkept mslot misFilled r.2.1 r.2.2.1 r.2.2.2.1 r.2.2.2.2.1 r.2.2.2.2.2 mtyped mtext mat mnumber mreads mbeyond mjudgedTo mreach mgoes) ++ R) := by
  refine XI.of (cc := cX7_bestChoice) (maxL := 2) (ty := .int) (own := RX7) (by decide) rfl rfl (Nat.le_of_ble_eq_true rfl) ?_
  intro p e s m args below meth c A Q S hK hN hA hP hD hS ls hl hret
  obtain ⟨hx, hb, hml, hown, hts⟩ := id S
  have hl : lv_has ls 2 [(0, .ref (a0 0)), (1, .int p1)] := hl
  unfold f_X7_bestChoice at hf
  refine lv_aload_n hx hb dX7_bestChoice_0 rfl (lv_at hl 0 rfl) ?_
  refine lv_aload_n hx hb dX7_bestChoice_1 rfl (lv_at hl 0 rfl) ?_
  refine lv_iload_n hx hb dX7_bestChoice_2 rfl (lv_at hl 1 rfl) ?_
  refine lv_iconst (v := 0) hx hb dX7_bestChoice_3 (by decide) ?_
  obtain ⟨q1, hq1, hf⟩ := ob_some hf
  refine xcVi (w' := ((w_M a0 cI cC mnow mhistory mkept mslot misFilled mgame mmeasures mmost mnumbers mround mtyped mtext mat mnumber mreads mbeyond mjudgedTo mreach mgoes) ++ R)) S hK hN hA hP hD hS (c_X7_of l D cI cC cS R a0 mnow mhistory mkept mslot misFilled mgame mmeasures mmost mnumbers mround mtyped mtext mat mnumber mreads mbeyond mjudgedTo mreach mgoes p1 0 _ hq1) gX7_bestChoice_X7_of rfl hd_X7_of ⟨by decide, by decide⟩ (List.Perm.refl _) (List.Perm.refl _) (ci := 7) (q := (RX7, TX7, 19)) rfl rfl rfl rfl hl.1 rfl (Nat.le_of_ble_eq_true rfl) dX7_bestChoice_4 ⟨Nat.zero_le _, Nat.zero_le _⟩ (fun H locs hP hD hS => ?_)
  obtain ⟨q2, hq2, hf⟩ := ob_some hf
  refine xcVv (w' := ((w_M a0 cI cC mnow mhistory mkept mslot misFilled q2.1 q2.2.1 q2.2.2.1 q2.2.2.2.1 q2.2.2.2.2 mtyped mtext mat mnumber mreads mbeyond mjudgedTo mreach mgoes) ++ R)) S hK hN hA hP hD hS (c_X7_finds l D cI cC cS R a0 mnow mhistory mkept mslot misFilled mgame mmeasures mmost mnumbers mround mtyped mtext mat mnumber mreads mbeyond mjudgedTo mreach mgoes q1 n _ hq2) gX7_bestChoice_X7_finds rfl hd_X7_finds ⟨by decide, by decide⟩ (List.Perm.refl _) (List.Perm.refl _) (ci := 7) (q := (RX7, TX7, 19)) rfl rfl rfl rfl hl.1 rfl (Nat.le_of_ble_eq_true rfl) dX7_bestChoice_7 ⟨Nat.zero_le _, Nat.zero_le _⟩ (fun H locs hP hD hS => ?_)
  refine lv_aload_n hx hb dX7_bestChoice_10 rfl (lv_at hl 0 rfl) ?_
  refine lv_iload_n hx hb dX7_bestChoice_11 rfl (lv_at hl 1 rfl) ?_
  obtain ⟨q3, hq3, hf⟩ := ob_some hf
  refine xcVi (w' := ((w_M a0 cI cC mnow mhistory mkept mslot misFilled q2.1 q2.2.1 q2.2.2.1 q3.2 q2.2.2.2.2 mtyped mtext mat mnumber mreads mbeyond mjudgedTo mreach mgoes) ++ R)) S hK hN hA hP hD hS (c_X7_choiceAt l D cI cC cS R a0 mnow mhistory mkept mslot misFilled q2.1 q2.2.1 q2.2.2.1 q2.2.2.2.1 q2.2.2.2.2 mtyped mtext mat mnumber mreads mbeyond mjudgedTo mreach mgoes p1 n _ hq3) gX7_bestChoice_X7_choiceAt rfl hd_X7_choiceAt ⟨by decide, by decide⟩ (List.Perm.refl _) (List.Perm.refl _) (ci := 7) (q := (RX7, TX7, 19)) rfl rfl rfl rfl hl.1 rfl (Nat.le_of_ble_eq_true rfl) dX7_bestChoice_12 ⟨Nat.zero_le _, Nat.zero_le _⟩ (fun H locs hP hD hS => ?_)
  have hf := Option.some.inj hf
  subst hf
  exact hret _ _ _ _ _ dX7_bestChoice_15 rfl hP hD hS rfl
def f_X7_winner (n : Nat) (mnow : (Nat → Int32)) (mmeasures : (Nat → Int32)) (mmost : (Nat → Int32)) (mnumbers : (Nat → Int32)) (p1 : Int32) : Option (Int32 × Int32 × (Nat → Int32) × (Nat → Int32) × (Nat → Int32) × Int32) := (f_X7_winsOf n mnow mmeasures mmost mnumbers 0).bind fun q1 => (if ((jshr q1.1 p1) &&& 1) = 1 then some (0, q1.2.1, q1.2.2.1, q1.2.2.2.1, q1.2.2.2.2.1, q1.2.2.2.2.2) else some (1, q1.2.1, q1.2.2.1, q1.2.2.2.1, q1.2.2.2.2.1, q1.2.2.2.2.2))
theorem hd_X7_winner : yX7_winner.cls = RX7 ∧ yX7_winner.cls ≠ "java/lang/invoke/MethodHandle" ∧ yX7_winner.cls ≠ "java/lang/invoke/VarHandle" ∧ (parseMethodDescriptor yX7_winner.desc).map (fun d => d.parameters.length) = some 1 := by decide +kernel
set_option maxHeartbeats 4000000 in
set_option maxRecDepth 100000 in
theorem c_X7_winner (l : Launch) (D : va_G) (cI cC cS : ClassId) (R : va_W) (a0 : Nat → Nat) (mnow : (Nat → Int32)) (mhistory : (Nat → Int32)) (mkept : Int32) (mslot : (Nat → Int32)) (misFilled : Int32) (mgame : Int32) (mmeasures : (Nat → Int32)) (mmost : (Nat → Int32)) (mnumbers : (Nat → Int32)) (mround : Int32) (mtyped : Int32) (mtext : (Nat → Int32)) (mat : Int32) (mnumber : Int32) (mreads : (Nat → Int32)) (mbeyond : Int32) (mjudgedTo : (Nat → Int32)) (mreach : (Nat → Int32)) (mgoes : (Nat → Int32)) (p1 : Int32) (n : Nat) (r : Int32 × Int32 × (Nat → Int32) × (Nat → Int32) × (Nat → Int32) × Int32) (hf : f_X7_winner n mnow mmeasures mmost mnumbers p1 = some r) : CI l yX7_winner wsX7_winner 5 115 D cI cC cS [.ref (a0 0), .int p1] ((w_M a0 cI cC mnow mhistory mkept mslot misFilled mgame mmeasures mmost mnumbers mround mtyped mtext mat mnumber mreads mbeyond mjudgedTo mreach mgoes) ++ R) r.1 ((w_M a0 cI cC mnow mhistory mkept mslot misFilled r.2.1 r.2.2.1 r.2.2.2.1 r.2.2.2.2.1 r.2.2.2.2.2 mtyped mtext mat mnumber mreads mbeyond mjudgedTo mreach mgoes) ++ R) := by
  refine XI.of (cc := cX7_winner) (maxL := 2) (ty := .int) (own := RX7) (by decide) rfl rfl (Nat.le_of_ble_eq_true rfl) ?_
  intro p e s m args below meth c A Q S hK hN hA hP hD hS ls hl hret
  obtain ⟨hx, hb, hml, hown, hts⟩ := id S
  have hl : lv_has ls 2 [(0, .ref (a0 0)), (1, .int p1)] := hl
  unfold f_X7_winner at hf
  refine lv_aload_n hx hb dX7_winner_0 rfl (lv_at hl 0 rfl) ?_
  refine lv_iconst (v := 0) hx hb dX7_winner_1 (by decide) ?_
  obtain ⟨q1, hq1, hf⟩ := ob_some hf
  refine xcVi (w' := ((w_M a0 cI cC mnow mhistory mkept mslot misFilled q1.2.1 q1.2.2.1 q1.2.2.2.1 q1.2.2.2.2.1 q1.2.2.2.2.2 mtyped mtext mat mnumber mreads mbeyond mjudgedTo mreach mgoes) ++ R)) S hK hN hA hP hD hS (c_X7_winsOf l D cI cC cS R a0 mnow mhistory mkept mslot misFilled mgame mmeasures mmost mnumbers mround mtyped mtext mat mnumber mreads mbeyond mjudgedTo mreach mgoes 0 n _ hq1) gX7_winner_X7_winsOf rfl hd_X7_winsOf ⟨by decide, by decide⟩ (List.Perm.refl _) (List.Perm.refl _) (ci := 7) (q := (RX7, TX7, 19)) rfl rfl rfl rfl hl.1 rfl (Nat.le_of_ble_eq_true rfl) dX7_winner_2 ⟨Nat.zero_le _, Nat.zero_le _⟩ (fun H locs hP hD hS => ?_)
  refine lv_iload_n hx hb dX7_winner_5 rfl (lv_at hl 1 rfl) ?_
  refine lv_ishr hx hb dX7_winner_6 ?_
  refine lv_iconst (v := 1) hx hb dX7_winner_7 (by decide) ?_
  refine lv_iand hx hb dX7_winner_8 ?_
  refine lv_iconst (v := 1) hx hb dX7_winner_9 (by decide) ?_
  refine lv_icmp_ne (tgt := 17) hx hb dX7_winner_10 (by decide) (fun c2 => ?_) (fun c2 => ?_)
  · have hf := if_f hf c2
    refine lv_iconst (v := 1) hx hb dX7_winner_17 (by decide) ?_
    have hf := Option.some.inj hf
    subst hf
    exact hret _ _ _ _ _ dX7_winner_18 rfl hP hD hS rfl
  · have hf := if_t hf c2
    refine lv_iconst (v := 0) hx hb dX7_winner_13 (by decide) ?_
    refine lv_goto (tgt := 18) hx hb dX7_winner_14 (by decide) ?_
    have hf := Option.some.inj hf
    subst hf
    exact hret _ _ _ _ _ dX7_winner_18 rfl hP hD hS rfl
def f_X7_addPlace (n : Nat) (mnow : (Nat → Int32)) (mhistory : (Nat → Int32)) (mkept : Int32) (p1 : Int32) (p2 : Int32) : Option (Int32 × (Nat → Int32) × (Nat → Int32) × Int32) := (f_X7_in p1 0 1).bind fun q1 => (if q1 = 0 then some ((-2), mnow, mhistory, mkept) else (f_X7_in p2 0 7).bind fun q3 => (if q3 = 0 then some ((-2), mnow, mhistory, mkept) else (if (mnow 56) = 14 then some ((-3), mnow, mhistory, mkept) else (f_X7_record n mnow mhistory mkept).bind fun q6 => (f_X7_puts mnow (mnow 56) 0 p1).bind fun q7 => (f_X7_puts q7 (mnow 56) 1 p2).bind fun q8 => (f_X7_puts q8 (mnow 56) 2 0).bind fun q9 => (f_X7_puts q9 (mnow 56) 3 14).bind fun q10 => some ((mnow 56), (upd q10 56 ((q10 56) + 1)), q6.1, q6.2))))
theorem inw_X7_addPlace_7 : ∀ w ∈ wsX70, w ∈ wsX7_addPlace := fun _ h => List.mem_cons_of_mem _ (List.mem_append_right _ h)
theorem hd_X7_addPlace : yX7_addPlace.cls = RX7 ∧ yX7_addPlace.cls ≠ "java/lang/invoke/MethodHandle" ∧ yX7_addPlace.cls ≠ "java/lang/invoke/VarHandle" ∧ (parseMethodDescriptor yX7_addPlace.desc).map (fun d => d.parameters.length) = some 2 := by decide +kernel
set_option maxHeartbeats 4000000 in
set_option maxRecDepth 100000 in
theorem c_X7_addPlace (l : Launch) (D : va_G) (cI cC cS : ClassId) (R : va_W) (a0 : Nat → Nat) (mnow : (Nat → Int32)) (mhistory : (Nat → Int32)) (mkept : Int32) (mslot : (Nat → Int32)) (misFilled : Int32) (mgame : Int32) (mmeasures : (Nat → Int32)) (mmost : (Nat → Int32)) (mnumbers : (Nat → Int32)) (mround : Int32) (mtyped : Int32) (mtext : (Nat → Int32)) (mat : Int32) (mnumber : Int32) (mreads : (Nat → Int32)) (mbeyond : Int32) (mjudgedTo : (Nat → Int32)) (mreach : (Nat → Int32)) (mgoes : (Nat → Int32)) (p1 : Int32) (p2 : Int32) (n : Nat) (r : Int32 × (Nat → Int32) × (Nat → Int32) × Int32) (hf : f_X7_addPlace n mnow mhistory mkept p1 p2 = some r) : CI l yX7_addPlace wsX7_addPlace 1 23 D cI cC cS [.ref (a0 0), .int p1, .int p2] ((w_M a0 cI cC mnow mhistory mkept mslot misFilled mgame mmeasures mmost mnumbers mround mtyped mtext mat mnumber mreads mbeyond mjudgedTo mreach mgoes) ++ R) r.1 ((w_M a0 cI cC r.2.1 r.2.2.1 r.2.2.2 mslot misFilled mgame mmeasures mmost mnumbers mround mtyped mtext mat mnumber mreads mbeyond mjudgedTo mreach mgoes) ++ R) := by
  refine XI.of (cc := cX7_addPlace) (maxL := 4) (ty := .int) (own := RX7) (by decide) rfl rfl (Nat.le_of_ble_eq_true rfl) ?_
  intro p e s m args below meth c A Q S hK hN hA hP hD hS ls hl hret
  obtain ⟨hx, hb, hml, hown, hts⟩ := id S
  have hl : lv_has ls 4 [(0, .ref (a0 0)), (1, .int p1), (2, .int p2)] := hl
  unfold f_X7_addPlace at hf
  refine lv_iload_n hx hb dX7_addPlace_0 rfl (lv_at hl 1 rfl) ?_
  refine lv_iconst (v := 0) hx hb dX7_addPlace_1 (by decide) ?_
  refine lv_iconst (v := 1) hx hb dX7_addPlace_2 (by decide) ?_
  obtain ⟨q1, hq1, hf⟩ := ob_some hf
  refine xcSi S hK hN hA hP hD hS (c_X7_in l D cI cC cS ((w_M a0 cI cC mnow mhistory mkept mslot misFilled mgame mmeasures mmost mnumbers mround mtyped mtext mat mnumber mreads mbeyond mjudgedTo mreach mgoes) ++ R) p1 0 1 _ hq1) gX7_addPlace_X7_in rfl hd_X7_in ⟨by decide, by decide⟩ rfl hl.1 rfl (Nat.le_of_ble_eq_true rfl) dX7_addPlace_3 ⟨Nat.zero_le _, Nat.zero_le _⟩ (fun H locs hP hD hS => ?_)
  refine lv_if_eq (tgt := 19) hx hb dX7_addPlace_6 (by decide) (fun c2 => ?_) (fun c2 => ?_)
  · have hf := if_t hf c2
    refine lv_bipush (v := (-2)) hx hb dX7_addPlace_19 (by decide) ?_
    have hf := Option.some.inj hf
    subst hf
    exact hret _ _ _ _ _ dX7_addPlace_21 rfl hP hD hS rfl
  · have hf := if_f hf c2
    refine lv_iload_n hx hb dX7_addPlace_9 rfl (lv_at hl 2 rfl) ?_
    refine lv_iconst (v := 0) hx hb dX7_addPlace_10 (by decide) ?_
    refine lv_bipush (v := 7) hx hb dX7_addPlace_11 (by decide) ?_
    obtain ⟨q3, hq3, hf⟩ := ob_some hf
    refine xcSi S hK hN hA hP hD hS (c_X7_in l D cI cC cS ((w_M a0 cI cC mnow mhistory mkept mslot misFilled mgame mmeasures mmost mnumbers mround mtyped mtext mat mnumber mreads mbeyond mjudgedTo mreach mgoes) ++ R) p2 0 7 _ hq3) gX7_addPlace_X7_in rfl hd_X7_in ⟨by decide, by decide⟩ rfl hl.1 rfl (Nat.le_of_ble_eq_true rfl) dX7_addPlace_13 ⟨Nat.zero_le _, Nat.zero_le _⟩ (fun H locs hP hD hS => ?_)
    refine lv_if_ne (tgt := 22) hx hb dX7_addPlace_16 (by decide) (fun c4 => ?_) (fun c4 => ?_)
    · have hf := if_f hf c4
      refine lv_aload_n hx hb dX7_addPlace_22 rfl (lv_at hl 0 rfl) ?_
      refine va_get (D := D) (ci := 7) (v := .ref (a0 1)) (C := RX7) (T := TX7) (N := 19) hx hb hts inw_X7_addPlace_7 hown hK hP 0 rfl rfl 0 (by decide) (hts (.fieldLink RX7 7 "RingGamesModel" "now" "[I") (List.mem_of_getElem? (i := 1) rfl)) (fun _ h9 => h9) rfl dX7_addPlace_23 ?_
      refine lv_bipush (v := 56) hx hb dX7_addPlace_26 (by decide) ?_
      refine va_iald hx hb hK hP 1 0 rfl rfl (x_in (by decide)) dX7_addPlace_28 ?_
      refine lv_istore_n (lv' := [(3, .int (mnow 56)), (0, .ref (a0 0)), (1, .int p1), (2, .int p2)]) hx hb dX7_addPlace_29 rfl hl (by decide) rfl (fun ls hl => ?_)
      refine lv_iload_n hx hb dX7_addPlace_30 rfl (lv_at hl 0 rfl) ?_
      refine lv_bipush (v := 14) hx hb dX7_addPlace_31 (by decide) ?_
      refine lv_icmp_ne (tgt := 39) hx hb dX7_addPlace_33 (by decide) (fun c5 => ?_) (fun c5 => ?_)
      · have hf := if_f hf c5
        refine lv_aload_n hx hb dX7_addPlace_39 rfl (lv_at hl 1 rfl) ?_
        obtain ⟨q6, hq6, hf⟩ := ob_some hf
        refine xcVv (w' := ((w_M a0 cI cC mnow q6.1 q6.2 mslot misFilled mgame mmeasures mmost mnumbers mround mtyped mtext mat mnumber mreads mbeyond mjudgedTo mreach mgoes) ++ R)) S hK hN hA hP hD hS (c_X7_record l D cI cC cS R a0 mnow mhistory mkept mslot misFilled mgame mmeasures mmost mnumbers mround mtyped mtext mat mnumber mreads mbeyond mjudgedTo mreach mgoes n _ hq6) gX7_addPlace_X7_record rfl hd_X7_record ⟨by decide, by decide⟩ (List.Perm.refl _) (List.Perm.refl _) (ci := 7) (q := (RX7, TX7, 19)) rfl rfl rfl rfl hl.1 rfl (Nat.le_of_ble_eq_true rfl) dX7_addPlace_40 ⟨Nat.zero_le _, Nat.zero_le _⟩ (fun H locs hP hD hS => ?_)
        refine lv_aload_n hx hb dX7_addPlace_43 rfl (lv_at hl 1 rfl) ?_
        refine lv_iload_n hx hb dX7_addPlace_44 rfl (lv_at hl 0 rfl) ?_
        refine lv_iconst (v := 0) hx hb dX7_addPlace_45 (by decide) ?_
        refine lv_iload_n hx hb dX7_addPlace_46 rfl (lv_at hl 2 rfl) ?_
        obtain ⟨q7, hq7, hf⟩ := ob_some hf
        refine xcVv (w' := ((w_M a0 cI cC q7 q6.1 q6.2 mslot misFilled mgame mmeasures mmost mnumbers mround mtyped mtext mat mnumber mreads mbeyond mjudgedTo mreach mgoes) ++ R)) S hK hN hA hP hD hS (c_X7_puts l D cI cC cS R a0 mnow q6.1 q6.2 mslot misFilled mgame mmeasures mmost mnumbers mround mtyped mtext mat mnumber mreads mbeyond mjudgedTo mreach mgoes (mnow 56) 0 p1 _ hq7) gX7_addPlace_X7_puts rfl hd_X7_puts ⟨by decide, by decide⟩ (List.Perm.refl _) (List.Perm.refl _) (ci := 7) (q := (RX7, TX7, 19)) rfl rfl rfl rfl hl.1 rfl (Nat.le_of_ble_eq_true rfl) dX7_addPlace_47 ⟨Nat.zero_le _, Nat.zero_le _⟩ (fun H locs hP hD hS => ?_)
        refine lv_aload_n hx hb dX7_addPlace_50 rfl (lv_at hl 1 rfl) ?_
        refine lv_iload_n hx hb dX7_addPlace_51 rfl (lv_at hl 0 rfl) ?_
        refine lv_iconst (v := 1) hx hb dX7_addPlace_52 (by decide) ?_
        refine lv_iload_n hx hb dX7_addPlace_53 rfl (lv_at hl 3 rfl) ?_
        obtain ⟨q8, hq8, hf⟩ := ob_some hf
        refine xcVv (w' := ((w_M a0 cI cC q8 q6.1 q6.2 mslot misFilled mgame mmeasures mmost mnumbers mround mtyped mtext mat mnumber mreads mbeyond mjudgedTo mreach mgoes) ++ R)) S hK hN hA hP hD hS (c_X7_puts l D cI cC cS R a0 q7 q6.1 q6.2 mslot misFilled mgame mmeasures mmost mnumbers mround mtyped mtext mat mnumber mreads mbeyond mjudgedTo mreach mgoes (mnow 56) 1 p2 _ hq8) gX7_addPlace_X7_puts rfl hd_X7_puts ⟨by decide, by decide⟩ (List.Perm.refl _) (List.Perm.refl _) (ci := 7) (q := (RX7, TX7, 19)) rfl rfl rfl rfl hl.1 rfl (Nat.le_of_ble_eq_true rfl) dX7_addPlace_54 ⟨Nat.zero_le _, Nat.zero_le _⟩ (fun H locs hP hD hS => ?_)
        refine lv_aload_n hx hb dX7_addPlace_57 rfl (lv_at hl 1 rfl) ?_
        refine lv_iload_n hx hb dX7_addPlace_58 rfl (lv_at hl 0 rfl) ?_
        refine lv_iconst (v := 2) hx hb dX7_addPlace_59 (by decide) ?_
        refine lv_iconst (v := 0) hx hb dX7_addPlace_60 (by decide) ?_
        obtain ⟨q9, hq9, hf⟩ := ob_some hf
        refine xcVv (w' := ((w_M a0 cI cC q9 q6.1 q6.2 mslot misFilled mgame mmeasures mmost mnumbers mround mtyped mtext mat mnumber mreads mbeyond mjudgedTo mreach mgoes) ++ R)) S hK hN hA hP hD hS (c_X7_puts l D cI cC cS R a0 q8 q6.1 q6.2 mslot misFilled mgame mmeasures mmost mnumbers mround mtyped mtext mat mnumber mreads mbeyond mjudgedTo mreach mgoes (mnow 56) 2 0 _ hq9) gX7_addPlace_X7_puts rfl hd_X7_puts ⟨by decide, by decide⟩ (List.Perm.refl _) (List.Perm.refl _) (ci := 7) (q := (RX7, TX7, 19)) rfl rfl rfl rfl hl.1 rfl (Nat.le_of_ble_eq_true rfl) dX7_addPlace_61 ⟨Nat.zero_le _, Nat.zero_le _⟩ (fun H locs hP hD hS => ?_)
        refine lv_aload_n hx hb dX7_addPlace_64 rfl (lv_at hl 1 rfl) ?_
        refine lv_iload_n hx hb dX7_addPlace_65 rfl (lv_at hl 0 rfl) ?_
        refine lv_iconst (v := 3) hx hb dX7_addPlace_66 (by decide) ?_
        refine lv_bipush (v := 14) hx hb dX7_addPlace_67 (by decide) ?_
        obtain ⟨q10, hq10, hf⟩ := ob_some hf
        refine xcVv (w' := ((w_M a0 cI cC q10 q6.1 q6.2 mslot misFilled mgame mmeasures mmost mnumbers mround mtyped mtext mat mnumber mreads mbeyond mjudgedTo mreach mgoes) ++ R)) S hK hN hA hP hD hS (c_X7_puts l D cI cC cS R a0 q9 q6.1 q6.2 mslot misFilled mgame mmeasures mmost mnumbers mround mtyped mtext mat mnumber mreads mbeyond mjudgedTo mreach mgoes (mnow 56) 3 14 _ hq10) gX7_addPlace_X7_puts rfl hd_X7_puts ⟨by decide, by decide⟩ (List.Perm.refl _) (List.Perm.refl _) (ci := 7) (q := (RX7, TX7, 19)) rfl rfl rfl rfl hl.1 rfl (Nat.le_of_ble_eq_true rfl) dX7_addPlace_69 ⟨Nat.zero_le _, Nat.zero_le _⟩ (fun H locs hP hD hS => ?_)
        refine lv_aload_n hx hb dX7_addPlace_72 rfl (lv_at hl 1 rfl) ?_
        refine va_get (D := D) (ci := 7) (v := .ref (a0 1)) (C := RX7) (T := TX7) (N := 19) hx hb hts inw_X7_addPlace_7 hown hK hP 0 rfl rfl 0 (by decide) (hts (.fieldLink RX7 7 "RingGamesModel" "now" "[I") (List.mem_of_getElem? (i := 1) rfl)) (fun _ h9 => h9) rfl dX7_addPlace_73 ?_
        refine lv_bipush (v := 56) hx hb dX7_addPlace_76 (by decide) ?_
        refine lv_dup2_11 hx hb dX7_addPlace_78 rfl rfl ?_
        refine va_iald hx hb hK hP 1 0 rfl rfl (x_in (by decide)) dX7_addPlace_79 ?_
        refine lv_iconst (v := 1) hx hb dX7_addPlace_80 (by decide) ?_
        refine lv_iadd hx hb dX7_addPlace_81 ?_
        refine va_iast hx hb hK hP hD hS 1 0 rfl rfl (x_in (by decide)) dX7_addPlace_82 (fun H locs hP hD hS => ?_)
        have hP : va_P D vwCl ((w_M a0 cI cC (upd q10 56 ((q10 56) + 1)) q6.1 q6.2 mslot misFilled mgame mmeasures mmost mnumbers mround mtyped mtext mat mnumber mreads mbeyond mjudgedTo mreach mgoes) ++ R) H := hP
        have hD : va_D A ((w_M a0 cI cC (upd q10 56 ((q10 56) + 1)) q6.1 q6.2 mslot misFilled mgame mmeasures mmost mnumbers mround mtyped mtext mat mnumber mreads mbeyond mjudgedTo mreach mgoes) ++ R) := hD
        refine lv_iload_n hx hb dX7_addPlace_83 rfl (lv_at hl 0 rfl) ?_
        have hf := Option.some.inj hf
        subst hf
        exact hret _ _ _ _ _ dX7_addPlace_84 rfl hP hD hS rfl
      · have hf := if_t hf c5
        refine lv_bipush (v := (-3)) hx hb dX7_addPlace_36 (by decide) ?_
        have hf := Option.some.inj hf
        subst hf
        exact hret _ _ _ _ _ dX7_addPlace_38 rfl hP hD hS rfl
    · have hf := if_t hf c4
      refine lv_bipush (v := (-2)) hx hb dX7_addPlace_19 (by decide) ?_
      have hf := Option.some.inj hf
      subst hf
      exact hret _ _ _ _ _ dX7_addPlace_21 rfl hP hD hS rfl
def f_X7_setOwner (n : Nat) (mnow : (Nat → Int32)) (mhistory : (Nat → Int32)) (mkept : Int32) (mgame : Int32) (mmeasures : (Nat → Int32)) (mmost : (Nat → Int32)) (mnumbers : (Nat → Int32)) (mround : Int32) (p1 : Int32) (p2 : Int32) : Option (Int32 × (Nat → Int32) × (Nat → Int32) × Int32 × Int32 × (Nat → Int32) × (Nat → Int32) × (Nat → Int32) × Int32) := (f_X7_no mnow p1).bind fun q1 => (if q1 = 0 then (f_X7_in p2 0 1).bind fun q3 => (if q3 = 0 then some ((-2), mnow, mhistory, mkept, mgame, mmeasures, mmost, mnumbers, mround) else (f_X7_of mnow p1 0).bind fun q5 => (if q5 = p2 then some ((-5), mnow, mhistory, mkept, mgame, mmeasures, mmost, mnumbers, mround) else (f_X7_record n mnow mhistory mkept).bind fun q7 => (f_X7_puts mnow p1 0 p2).bind fun q8 => (f_X7_winsOf n q8 mmeasures mmost mnumbers 0).bind fun q9 => some (q9.1, q8, q7.1, q7.2, q9.2.1, q9.2.2.1, q9.2.2.2.1, q9.2.2.2.2.1, q9.2.2.2.2.2))) else some ((-1), mnow, mhistory, mkept, mgame, mmeasures, mmost, mnumbers, mround))
theorem hd_X7_setOwner : yX7_setOwner.cls = RX7 ∧ yX7_setOwner.cls ≠ "java/lang/invoke/MethodHandle" ∧ yX7_setOwner.cls ≠ "java/lang/invoke/VarHandle" ∧ (parseMethodDescriptor yX7_setOwner.desc).map (fun d => d.parameters.length) = some 2 := by decide +kernel
set_option maxHeartbeats 4000000 in
set_option maxRecDepth 100000 in
theorem c_X7_setOwner (l : Launch) (D : va_G) (cI cC cS : ClassId) (R : va_W) (a0 : Nat → Nat) (mnow : (Nat → Int32)) (mhistory : (Nat → Int32)) (mkept : Int32) (mslot : (Nat → Int32)) (misFilled : Int32) (mgame : Int32) (mmeasures : (Nat → Int32)) (mmost : (Nat → Int32)) (mnumbers : (Nat → Int32)) (mround : Int32) (mtyped : Int32) (mtext : (Nat → Int32)) (mat : Int32) (mnumber : Int32) (mreads : (Nat → Int32)) (mbeyond : Int32) (mjudgedTo : (Nat → Int32)) (mreach : (Nat → Int32)) (mgoes : (Nat → Int32)) (p1 : Int32) (p2 : Int32) (n : Nat) (r : Int32 × (Nat → Int32) × (Nat → Int32) × Int32 × Int32 × (Nat → Int32) × (Nat → Int32) × (Nat → Int32) × Int32) (hf : f_X7_setOwner n mnow mhistory mkept mgame mmeasures mmost mnumbers mround p1 p2 = some r) : CI l yX7_setOwner wsX7_setOwner 5 115 D cI cC cS [.ref (a0 0), .int p1, .int p2] ((w_M a0 cI cC mnow mhistory mkept mslot misFilled mgame mmeasures mmost mnumbers mround mtyped mtext mat mnumber mreads mbeyond mjudgedTo mreach mgoes) ++ R) r.1 ((w_M a0 cI cC r.2.1 r.2.2.1 r.2.2.2.1 mslot misFilled r.2.2.2.2.1 r.2.2.2.2.2.1 r.2.2.2.2.2.2.1 r.2.2.2.2.2.2.2.1 r.2.2.2.2.2.2.2.2 mtyped mtext mat mnumber mreads mbeyond mjudgedTo mreach mgoes) ++ R) := by
  refine XI.of (cc := cX7_setOwner) (maxL := 3) (ty := .int) (own := RX7) (by decide) rfl rfl (Nat.le_of_ble_eq_true rfl) ?_
  intro p e s m args below meth c A Q S hK hN hA hP hD hS ls hl hret
  obtain ⟨hx, hb, hml, hown, hts⟩ := id S
  have hl : lv_has ls 3 [(0, .ref (a0 0)), (1, .int p1), (2, .int p2)] := hl
  unfold f_X7_setOwner at hf
  refine lv_aload_n hx hb dX7_setOwner_0 rfl (lv_at hl 0 rfl) ?_
  refine lv_iload_n hx hb dX7_setOwner_1 rfl (lv_at hl 1 rfl) ?_
  obtain ⟨q1, hq1, hf⟩ := ob_some hf
  refine xcVi (w' := ((w_M a0 cI cC mnow mhistory mkept mslot misFilled mgame mmeasures mmost mnumbers mround mtyped mtext mat mnumber mreads mbeyond mjudgedTo mreach mgoes) ++ R)) S hK hN hA hP hD hS (c_X7_no l D cI cC cS R a0 mnow mhistory mkept mslot misFilled mgame mmeasures mmost mnumbers mround mtyped mtext mat mnumber mreads mbeyond mjudgedTo mreach mgoes p1 _ hq1) gX7_setOwner_X7_no rfl hd_X7_no ⟨by decide, by decide⟩ (List.Perm.refl _) (List.Perm.refl _) (ci := 7) (q := (RX7, TX7, 19)) rfl rfl rfl rfl hl.1 rfl (Nat.le_of_ble_eq_true rfl) dX7_setOwner_2 ⟨Nat.zero_le _, Nat.zero_le _⟩ (fun H locs hP hD hS => ?_)
  refine lv_if_eq (tgt := 10) hx hb dX7_setOwner_5 (by decide) (fun c2 => ?_) (fun c2 => ?_)
  · have hf := if_t hf c2
    refine lv_iload_n hx hb dX7_setOwner_10 rfl (lv_at hl 2 rfl) ?_
    refine lv_iconst (v := 0) hx hb dX7_setOwner_11 (by decide) ?_
    refine lv_iconst (v := 1) hx hb dX7_setOwner_12 (by decide) ?_
    obtain ⟨q3, hq3, hf⟩ := ob_some hf
    refine xcSi S hK hN hA hP hD hS (c_X7_in l D cI cC cS ((w_M a0 cI cC mnow mhistory mkept mslot misFilled mgame mmeasures mmost mnumbers mround mtyped mtext mat mnumber mreads mbeyond mjudgedTo mreach mgoes) ++ R) p2 0 1 _ hq3) gX7_setOwner_X7_in rfl hd_X7_in ⟨by decide, by decide⟩ rfl hl.1 rfl (Nat.le_of_ble_eq_true rfl) dX7_setOwner_13 ⟨Nat.zero_le _, Nat.zero_le _⟩ (fun H locs hP hD hS => ?_)
    refine lv_if_ne (tgt := 22) hx hb dX7_setOwner_16 (by decide) (fun c4 => ?_) (fun c4 => ?_)
    · have hf := if_f hf c4
      refine lv_aload_n hx hb dX7_setOwner_22 rfl (lv_at hl 0 rfl) ?_
      refine lv_iload_n hx hb dX7_setOwner_23 rfl (lv_at hl 1 rfl) ?_
      refine lv_iconst (v := 0) hx hb dX7_setOwner_24 (by decide) ?_
      obtain ⟨q5, hq5, hf⟩ := ob_some hf
      refine xcVi (w' := ((w_M a0 cI cC mnow mhistory mkept mslot misFilled mgame mmeasures mmost mnumbers mround mtyped mtext mat mnumber mreads mbeyond mjudgedTo mreach mgoes) ++ R)) S hK hN hA hP hD hS (c_X7_of l D cI cC cS R a0 mnow mhistory mkept mslot misFilled mgame mmeasures mmost mnumbers mround mtyped mtext mat mnumber mreads mbeyond mjudgedTo mreach mgoes p1 0 _ hq5) gX7_setOwner_X7_of rfl hd_X7_of ⟨by decide, by decide⟩ (List.Perm.refl _) (List.Perm.refl _) (ci := 7) (q := (RX7, TX7, 19)) rfl rfl rfl rfl hl.1 rfl (Nat.le_of_ble_eq_true rfl) dX7_setOwner_25 ⟨Nat.zero_le _, Nat.zero_le _⟩ (fun H locs hP hD hS => ?_)
      refine lv_iload_n hx hb dX7_setOwner_28 rfl (lv_at hl 2 rfl) ?_
      refine lv_icmp_ne (tgt := 35) hx hb dX7_setOwner_29 (by decide) (fun c6 => ?_) (fun c6 => ?_)
      · have hf := if_f hf c6
        refine lv_aload_n hx hb dX7_setOwner_35 rfl (lv_at hl 0 rfl) ?_
        obtain ⟨q7, hq7, hf⟩ := ob_some hf
        refine xcVv (w' := ((w_M a0 cI cC mnow q7.1 q7.2 mslot misFilled mgame mmeasures mmost mnumbers mround mtyped mtext mat mnumber mreads mbeyond mjudgedTo mreach mgoes) ++ R)) S hK hN hA hP hD hS (c_X7_record l D cI cC cS R a0 mnow mhistory mkept mslot misFilled mgame mmeasures mmost mnumbers mround mtyped mtext mat mnumber mreads mbeyond mjudgedTo mreach mgoes n _ hq7) gX7_setOwner_X7_record rfl hd_X7_record ⟨by decide, by decide⟩ (List.Perm.refl _) (List.Perm.refl _) (ci := 7) (q := (RX7, TX7, 19)) rfl rfl rfl rfl hl.1 rfl (Nat.le_of_ble_eq_true rfl) dX7_setOwner_36 ⟨Nat.zero_le _, Nat.zero_le _⟩ (fun H locs hP hD hS => ?_)
        refine lv_aload_n hx hb dX7_setOwner_39 rfl (lv_at hl 0 rfl) ?_
        refine lv_iload_n hx hb dX7_setOwner_40 rfl (lv_at hl 1 rfl) ?_
        refine lv_iconst (v := 0) hx hb dX7_setOwner_41 (by decide) ?_
        refine lv_iload_n hx hb dX7_setOwner_42 rfl (lv_at hl 2 rfl) ?_
        obtain ⟨q8, hq8, hf⟩ := ob_some hf
        refine xcVv (w' := ((w_M a0 cI cC q8 q7.1 q7.2 mslot misFilled mgame mmeasures mmost mnumbers mround mtyped mtext mat mnumber mreads mbeyond mjudgedTo mreach mgoes) ++ R)) S hK hN hA hP hD hS (c_X7_puts l D cI cC cS R a0 mnow q7.1 q7.2 mslot misFilled mgame mmeasures mmost mnumbers mround mtyped mtext mat mnumber mreads mbeyond mjudgedTo mreach mgoes p1 0 p2 _ hq8) gX7_setOwner_X7_puts rfl hd_X7_puts ⟨by decide, by decide⟩ (List.Perm.refl _) (List.Perm.refl _) (ci := 7) (q := (RX7, TX7, 19)) rfl rfl rfl rfl hl.1 rfl (Nat.le_of_ble_eq_true rfl) dX7_setOwner_43 ⟨Nat.zero_le _, Nat.zero_le _⟩ (fun H locs hP hD hS => ?_)
        refine lv_aload_n hx hb dX7_setOwner_46 rfl (lv_at hl 0 rfl) ?_
        refine lv_iconst (v := 0) hx hb dX7_setOwner_47 (by decide) ?_
        obtain ⟨q9, hq9, hf⟩ := ob_some hf
        refine xcVi (w' := ((w_M a0 cI cC q8 q7.1 q7.2 mslot misFilled q9.2.1 q9.2.2.1 q9.2.2.2.1 q9.2.2.2.2.1 q9.2.2.2.2.2 mtyped mtext mat mnumber mreads mbeyond mjudgedTo mreach mgoes) ++ R)) S hK hN hA hP hD hS (c_X7_winsOf l D cI cC cS R a0 q8 q7.1 q7.2 mslot misFilled mgame mmeasures mmost mnumbers mround mtyped mtext mat mnumber mreads mbeyond mjudgedTo mreach mgoes 0 n _ hq9) gX7_setOwner_X7_winsOf rfl hd_X7_winsOf ⟨by decide, by decide⟩ (List.Perm.refl _) (List.Perm.refl _) (ci := 7) (q := (RX7, TX7, 19)) rfl rfl rfl rfl hl.1 rfl (Nat.le_of_ble_eq_true rfl) dX7_setOwner_48 ⟨Nat.zero_le _, Nat.zero_le _⟩ (fun H locs hP hD hS => ?_)
        have hf := Option.some.inj hf
        subst hf
        exact hret _ _ _ _ _ dX7_setOwner_51 rfl hP hD hS rfl
      · have hf := if_t hf c6
        refine lv_bipush (v := (-5)) hx hb dX7_setOwner_32 (by decide) ?_
        have hf := Option.some.inj hf
        subst hf
        exact hret _ _ _ _ _ dX7_setOwner_34 rfl hP hD hS rfl
    · have hf := if_t hf c4
      refine lv_bipush (v := (-2)) hx hb dX7_setOwner_19 (by decide) ?_
      have hf := Option.some.inj hf
      subst hf
      exact hret _ _ _ _ _ dX7_setOwner_21 rfl hP hD hS rfl
  · have hf := if_f hf c2
    refine lv_iconst (v := (-1)) hx hb dX7_setOwner_8 (by decide) ?_
    have hf := Option.some.inj hf
    subst hf
    exact hret _ _ _ _ _ dX7_setOwner_9 rfl hP hD hS rfl
def f_X7_setColour (n : Nat) (mnow : (Nat → Int32)) (mhistory : (Nat → Int32)) (mkept : Int32) (p1 : Int32) (p2 : Int32) : Option (Int32 × (Nat → Int32) × (Nat → Int32) × Int32) := (f_X7_no mnow p1).bind fun q1 => (if q1 = 0 then (f_X7_in p2 0 7).bind fun q3 => (if q3 = 0 then some ((-2), mnow, mhistory, mkept) else (f_X7_of mnow p1 1).bind fun q5 => (if q5 = p2 then some ((-5), mnow, mhistory, mkept) else (f_X7_record n mnow mhistory mkept).bind fun q7 => (f_X7_puts mnow p1 1 p2).bind fun q8 => some (q5, q8, q7.1, q7.2))) else some ((-1), mnow, mhistory, mkept))
theorem hd_X7_setColour : yX7_setColour.cls = RX7 ∧ yX7_setColour.cls ≠ "java/lang/invoke/MethodHandle" ∧ yX7_setColour.cls ≠ "java/lang/invoke/VarHandle" ∧ (parseMethodDescriptor yX7_setColour.desc).map (fun d => d.parameters.length) = some 2 := by decide +kernel
set_option maxHeartbeats 4000000 in
set_option maxRecDepth 100000 in
theorem c_X7_setColour (l : Launch) (D : va_G) (cI cC cS : ClassId) (R : va_W) (a0 : Nat → Nat) (mnow : (Nat → Int32)) (mhistory : (Nat → Int32)) (mkept : Int32) (mslot : (Nat → Int32)) (misFilled : Int32) (mgame : Int32) (mmeasures : (Nat → Int32)) (mmost : (Nat → Int32)) (mnumbers : (Nat → Int32)) (mround : Int32) (mtyped : Int32) (mtext : (Nat → Int32)) (mat : Int32) (mnumber : Int32) (mreads : (Nat → Int32)) (mbeyond : Int32) (mjudgedTo : (Nat → Int32)) (mreach : (Nat → Int32)) (mgoes : (Nat → Int32)) (p1 : Int32) (p2 : Int32) (n : Nat) (r : Int32 × (Nat → Int32) × (Nat → Int32) × Int32) (hf : f_X7_setColour n mnow mhistory mkept p1 p2 = some r) : CI l yX7_setColour wsX7_setColour 2 43 D cI cC cS [.ref (a0 0), .int p1, .int p2] ((w_M a0 cI cC mnow mhistory mkept mslot misFilled mgame mmeasures mmost mnumbers mround mtyped mtext mat mnumber mreads mbeyond mjudgedTo mreach mgoes) ++ R) r.1 ((w_M a0 cI cC r.2.1 r.2.2.1 r.2.2.2 mslot misFilled mgame mmeasures mmost mnumbers mround mtyped mtext mat mnumber mreads mbeyond mjudgedTo mreach mgoes) ++ R) := by
  refine XI.of (cc := cX7_setColour) (maxL := 4) (ty := .int) (own := RX7) (by decide) rfl rfl (Nat.le_of_ble_eq_true rfl) ?_
  intro p e s m args below meth c A Q S hK hN hA hP hD hS ls hl hret
  obtain ⟨hx, hb, hml, hown, hts⟩ := id S
  have hl : lv_has ls 4 [(0, .ref (a0 0)), (1, .int p1), (2, .int p2)] := hl
  unfold f_X7_setColour at hf
  refine lv_aload_n hx hb dX7_setColour_0 rfl (lv_at hl 0 rfl) ?_
  refine lv_iload_n hx hb dX7_setColour_1 rfl (lv_at hl 1 rfl) ?_
  obtain ⟨q1, hq1, hf⟩ := ob_some hf
  refine xcVi (w' := ((w_M a0 cI cC mnow mhistory mkept mslot misFilled mgame mmeasures mmost mnumbers mround mtyped mtext mat mnumber mreads mbeyond mjudgedTo mreach mgoes) ++ R)) S hK hN hA hP hD hS (c_X7_no l D cI cC cS R a0 mnow mhistory mkept mslot misFilled mgame mmeasures mmost mnumbers mround mtyped mtext mat mnumber mreads mbeyond mjudgedTo mreach mgoes p1 _ hq1) gX7_setColour_X7_no rfl hd_X7_no ⟨by decide, by decide⟩ (List.Perm.refl _) (List.Perm.refl _) (ci := 7) (q := (RX7, TX7, 19)) rfl rfl rfl rfl hl.1 rfl (Nat.le_of_ble_eq_true rfl) dX7_setColour_2 ⟨Nat.zero_le _, Nat.zero_le _⟩ (fun H locs hP hD hS => ?_)
  refine lv_if_eq (tgt := 10) hx hb dX7_setColour_5 (by decide) (fun c2 => ?_) (fun c2 => ?_)
  · have hf := if_t hf c2
    refine lv_iload_n hx hb dX7_setColour_10 rfl (lv_at hl 2 rfl) ?_
    refine lv_iconst (v := 0) hx hb dX7_setColour_11 (by decide) ?_
    refine lv_bipush (v := 7) hx hb dX7_setColour_12 (by decide) ?_
    obtain ⟨q3, hq3, hf⟩ := ob_some hf
    refine xcSi S hK hN hA hP hD hS (c_X7_in l D cI cC cS ((w_M a0 cI cC mnow mhistory mkept mslot misFilled mgame mmeasures mmost mnumbers mround mtyped mtext mat mnumber mreads mbeyond mjudgedTo mreach mgoes) ++ R) p2 0 7 _ hq3) gX7_setColour_X7_in rfl hd_X7_in ⟨by decide, by decide⟩ rfl hl.1 rfl (Nat.le_of_ble_eq_true rfl) dX7_setColour_14 ⟨Nat.zero_le _, Nat.zero_le _⟩ (fun H locs hP hD hS => ?_)
    refine lv_if_ne (tgt := 23) hx hb dX7_setColour_17 (by decide) (fun c4 => ?_) (fun c4 => ?_)
    · have hf := if_f hf c4
      refine lv_aload_n hx hb dX7_setColour_23 rfl (lv_at hl 0 rfl) ?_
      refine lv_iload_n hx hb dX7_setColour_24 rfl (lv_at hl 1 rfl) ?_
      refine lv_iconst (v := 1) hx hb dX7_setColour_25 (by decide) ?_
      obtain ⟨q5, hq5, hf⟩ := ob_some hf
      refine xcVi (w' := ((w_M a0 cI cC mnow mhistory mkept mslot misFilled mgame mmeasures mmost mnumbers mround mtyped mtext mat mnumber mreads mbeyond mjudgedTo mreach mgoes) ++ R)) S hK hN hA hP hD hS (c_X7_of l D cI cC cS R a0 mnow mhistory mkept mslot misFilled mgame mmeasures mmost mnumbers mround mtyped mtext mat mnumber mreads mbeyond mjudgedTo mreach mgoes p1 1 _ hq5) gX7_setColour_X7_of rfl hd_X7_of ⟨by decide, by decide⟩ (List.Perm.refl _) (List.Perm.refl _) (ci := 7) (q := (RX7, TX7, 19)) rfl rfl rfl rfl hl.1 rfl (Nat.le_of_ble_eq_true rfl) dX7_setColour_26 ⟨Nat.zero_le _, Nat.zero_le _⟩ (fun H locs hP hD hS => ?_)
      refine lv_istore_n (lv' := [(3, .int q5), (0, .ref (a0 0)), (1, .int p1), (2, .int p2)]) hx hb dX7_setColour_29 rfl hl (by decide) rfl (fun ls hl => ?_)
      refine lv_iload_n hx hb dX7_setColour_30 rfl (lv_at hl 0 rfl) ?_
      refine lv_iload_n hx hb dX7_setColour_31 rfl (lv_at hl 3 rfl) ?_
      refine lv_icmp_ne (tgt := 38) hx hb dX7_setColour_32 (by decide) (fun c6 => ?_) (fun c6 => ?_)
      · have hf := if_f hf c6
        refine lv_aload_n hx hb dX7_setColour_38 rfl (lv_at hl 1 rfl) ?_
        obtain ⟨q7, hq7, hf⟩ := ob_some hf
        refine xcVv (w' := ((w_M a0 cI cC mnow q7.1 q7.2 mslot misFilled mgame mmeasures mmost mnumbers mround mtyped mtext mat mnumber mreads mbeyond mjudgedTo mreach mgoes) ++ R)) S hK hN hA hP hD hS (c_X7_record l D cI cC cS R a0 mnow mhistory mkept mslot misFilled mgame mmeasures mmost mnumbers mround mtyped mtext mat mnumber mreads mbeyond mjudgedTo mreach mgoes n _ hq7) gX7_setColour_X7_record rfl hd_X7_record ⟨by decide, by decide⟩ (List.Perm.refl _) (List.Perm.refl _) (ci := 7) (q := (RX7, TX7, 19)) rfl rfl rfl rfl hl.1 rfl (Nat.le_of_ble_eq_true rfl) dX7_setColour_39 ⟨Nat.zero_le _, Nat.zero_le _⟩ (fun H locs hP hD hS => ?_)
        refine lv_aload_n hx hb dX7_setColour_42 rfl (lv_at hl 1 rfl) ?_
        refine lv_iload_n hx hb dX7_setColour_43 rfl (lv_at hl 2 rfl) ?_
        refine lv_iconst (v := 1) hx hb dX7_setColour_44 (by decide) ?_
        refine lv_iload_n hx hb dX7_setColour_45 rfl (lv_at hl 3 rfl) ?_
        obtain ⟨q8, hq8, hf⟩ := ob_some hf
        refine xcVv (w' := ((w_M a0 cI cC q8 q7.1 q7.2 mslot misFilled mgame mmeasures mmost mnumbers mround mtyped mtext mat mnumber mreads mbeyond mjudgedTo mreach mgoes) ++ R)) S hK hN hA hP hD hS (c_X7_puts l D cI cC cS R a0 mnow q7.1 q7.2 mslot misFilled mgame mmeasures mmost mnumbers mround mtyped mtext mat mnumber mreads mbeyond mjudgedTo mreach mgoes p1 1 p2 _ hq8) gX7_setColour_X7_puts rfl hd_X7_puts ⟨by decide, by decide⟩ (List.Perm.refl _) (List.Perm.refl _) (ci := 7) (q := (RX7, TX7, 19)) rfl rfl rfl rfl hl.1 rfl (Nat.le_of_ble_eq_true rfl) dX7_setColour_46 ⟨Nat.zero_le _, Nat.zero_le _⟩ (fun H locs hP hD hS => ?_)
        refine lv_iload_n hx hb dX7_setColour_49 rfl (lv_at hl 0 rfl) ?_
        have hf := Option.some.inj hf
        subst hf
        exact hret _ _ _ _ _ dX7_setColour_50 rfl hP hD hS rfl
      · have hf := if_t hf c6
        refine lv_bipush (v := (-5)) hx hb dX7_setColour_35 (by decide) ?_
        have hf := Option.some.inj hf
        subst hf
        exact hret _ _ _ _ _ dX7_setColour_37 rfl hP hD hS rfl
    · have hf := if_t hf c4
      refine lv_bipush (v := (-2)) hx hb dX7_setColour_20 (by decide) ?_
      have hf := Option.some.inj hf
      subst hf
      exact hret _ _ _ _ _ dX7_setColour_22 rfl hP hD hS rfl
  · have hf := if_f hf c2
    refine lv_iconst (v := (-1)) hx hb dX7_setColour_8 (by decide) ?_
    have hf := Option.some.inj hf
    subst hf
    exact hret _ _ _ _ _ dX7_setColour_9 rfl hP hD hS rfl
def f_X7_addArrow (n : Nat) (mnow : (Nat → Int32)) (mhistory : (Nat → Int32)) (mkept : Int32) (p1 : Int32) (p2 : Int32) : Option (Int32 × (Nat → Int32) × (Nat → Int32) × Int32) := (f_X7_no mnow p1).bind fun q1 => (if q1 = 0 then (f_X7_no mnow p2).bind fun q3 => (if q3 = 0 then (f_X7_hasArrow mnow p1 p2).bind fun q5 => (if q5 = 0 then (f_X7_arrows n mnow).bind fun q7 => (if q7 = 60 then some ((-3), mnow, mhistory, mkept) else (f_X7_record n mnow mhistory mkept).bind fun q9 => (f_X7_of mnow p1 2).bind fun q10 => (f_X7_puts mnow p1 2 (q10 ||| (jshl 1 p2))).bind fun q11 => (f_X7_of q11 p1 2).bind fun q12 => (f_X7_bits n q12).bind fun q13 => some (q13, q11, q9.1, q9.2)) else (f_X7_arrows n mnow).bind fun q14 => (if q14 = 60 then some ((-3), mnow, mhistory, mkept) else some ((-5), mnow, mhistory, mkept))) else some ((-1), mnow, mhistory, mkept)) else some ((-1), mnow, mhistory, mkept))
theorem hd_X7_addArrow : yX7_addArrow.cls = RX7 ∧ yX7_addArrow.cls ≠ "java/lang/invoke/MethodHandle" ∧ yX7_addArrow.cls ≠ "java/lang/invoke/VarHandle" ∧ (parseMethodDescriptor yX7_addArrow.desc).map (fun d => d.parameters.length) = some 2 := by decide +kernel
set_option maxHeartbeats 4000000 in
set_option maxRecDepth 100000 in
theorem c_X7_addArrow (l : Launch) (D : va_G) (cI cC cS : ClassId) (R : va_W) (a0 : Nat → Nat) (mnow : (Nat → Int32)) (mhistory : (Nat → Int32)) (mkept : Int32) (mslot : (Nat → Int32)) (misFilled : Int32) (mgame : Int32) (mmeasures : (Nat → Int32)) (mmost : (Nat → Int32)) (mnumbers : (Nat → Int32)) (mround : Int32) (mtyped : Int32) (mtext : (Nat → Int32)) (mat : Int32) (mnumber : Int32) (mreads : (Nat → Int32)) (mbeyond : Int32) (mjudgedTo : (Nat → Int32)) (mreach : (Nat → Int32)) (mgoes : (Nat → Int32)) (p1 : Int32) (p2 : Int32) (n : Nat) (r : Int32 × (Nat → Int32) × (Nat → Int32) × Int32) (hf : f_X7_addArrow n mnow mhistory mkept p1 p2 = some r) : CI l yX7_addArrow wsX7_addArrow 2 44 D cI cC cS [.ref (a0 0), .int p1, .int p2] ((w_M a0 cI cC mnow mhistory mkept mslot misFilled mgame mmeasures mmost mnumbers mround mtyped mtext mat mnumber mreads mbeyond mjudgedTo mreach mgoes) ++ R) r.1 ((w_M a0 cI cC r.2.1 r.2.2.1 r.2.2.2 mslot misFilled mgame mmeasures mmost mnumbers mround mtyped mtext mat mnumber mreads mbeyond mjudgedTo mreach mgoes) ++ R) := by
  refine XI.of (cc := cX7_addArrow) (maxL := 3) (ty := .int) (own := RX7) (by decide) rfl rfl (Nat.le_of_ble_eq_true rfl) ?_
  intro p e s m args below meth c A Q S hK hN hA hP hD hS ls hl hret
  obtain ⟨hx, hb, hml, hown, hts⟩ := id S
  have hl : lv_has ls 3 [(0, .ref (a0 0)), (1, .int p1), (2, .int p2)] := hl
  unfold f_X7_addArrow at hf
  refine lv_aload_n hx hb dX7_addArrow_0 rfl (lv_at hl 0 rfl) ?_
  refine lv_iload_n hx hb dX7_addArrow_1 rfl (lv_at hl 1 rfl) ?_
  obtain ⟨q1, hq1, hf⟩ := ob_some hf
  refine xcVi (w' := ((w_M a0 cI cC mnow mhistory mkept mslot misFilled mgame mmeasures mmost mnumbers mround mtyped mtext mat mnumber mreads mbeyond mjudgedTo mreach mgoes) ++ R)) S hK hN hA hP hD hS (c_X7_no l D cI cC cS R a0 mnow mhistory mkept mslot misFilled mgame mmeasures mmost mnumbers mround mtyped mtext mat mnumber mreads mbeyond mjudgedTo mreach mgoes p1 _ hq1) gX7_addArrow_X7_no rfl hd_X7_no ⟨by decide, by decide⟩ (List.Perm.refl _) (List.Perm.refl _) (ci := 7) (q := (RX7, TX7, 19)) rfl rfl rfl rfl hl.1 rfl (Nat.le_of_ble_eq_true rfl) dX7_addArrow_2 ⟨Nat.zero_le _, Nat.zero_le _⟩ (fun H locs hP hD hS => ?_)
  refine lv_if_ne (tgt := 16) hx hb dX7_addArrow_5 (by decide) (fun c2 => ?_) (fun c2 => ?_)
  · have hf := if_f hf c2
    refine lv_iconst (v := (-1)) hx hb dX7_addArrow_16 (by decide) ?_
    have hf := Option.some.inj hf
    subst hf
    exact hret _ _ _ _ _ dX7_addArrow_17 rfl hP hD hS rfl
  · have hf := if_t hf c2
    refine lv_aload_n hx hb dX7_addArrow_8 rfl (lv_at hl 0 rfl) ?_
    refine lv_iload_n hx hb dX7_addArrow_9 rfl (lv_at hl 2 rfl) ?_
    obtain ⟨q3, hq3, hf⟩ := ob_some hf
    refine xcVi (w' := ((w_M a0 cI cC mnow mhistory mkept mslot misFilled mgame mmeasures mmost mnumbers mround mtyped mtext mat mnumber mreads mbeyond mjudgedTo mreach mgoes) ++ R)) S hK hN hA hP hD hS (c_X7_no l D cI cC cS R a0 mnow mhistory mkept mslot misFilled mgame mmeasures mmost mnumbers mround mtyped mtext mat mnumber mreads mbeyond mjudgedTo mreach mgoes p2 _ hq3) gX7_addArrow_X7_no rfl hd_X7_no ⟨by decide, by decide⟩ (List.Perm.refl _) (List.Perm.refl _) (ci := 7) (q := (RX7, TX7, 19)) rfl rfl rfl rfl hl.1 rfl (Nat.le_of_ble_eq_true rfl) dX7_addArrow_10 ⟨Nat.zero_le _, Nat.zero_le _⟩ (fun H locs hP hD hS => ?_)
    refine lv_if_eq (tgt := 18) hx hb dX7_addArrow_13 (by decide) (fun c4 => ?_) (fun c4 => ?_)
    · have hf := if_t hf c4
      refine lv_aload_n hx hb dX7_addArrow_18 rfl (lv_at hl 0 rfl) ?_
      refine lv_iload_n hx hb dX7_addArrow_19 rfl (lv_at hl 1 rfl) ?_
      refine lv_iload_n hx hb dX7_addArrow_20 rfl (lv_at hl 2 rfl) ?_
      obtain ⟨q5, hq5, hf⟩ := ob_some hf
      refine xcVi (w' := ((w_M a0 cI cC mnow mhistory mkept mslot misFilled mgame mmeasures mmost mnumbers mround mtyped mtext mat mnumber mreads mbeyond mjudgedTo mreach mgoes) ++ R)) S hK hN hA hP hD hS (c_X7_hasArrow l D cI cC cS R a0 mnow mhistory mkept mslot misFilled mgame mmeasures mmost mnumbers mround mtyped mtext mat mnumber mreads mbeyond mjudgedTo mreach mgoes p1 p2 _ hq5) gX7_addArrow_X7_hasArrow rfl hd_X7_hasArrow ⟨by decide, by decide⟩ (List.Perm.refl _) (List.Perm.refl _) (ci := 7) (q := (RX7, TX7, 19)) rfl rfl rfl rfl hl.1 rfl (Nat.le_of_ble_eq_true rfl) dX7_addArrow_21 ⟨Nat.zero_le _, Nat.zero_le _⟩ (fun H locs hP hD hS => ?_)
      refine lv_if_eq (tgt := 44) hx hb dX7_addArrow_24 (by decide) (fun c6 => ?_) (fun c6 => ?_)
      · have hf := if_t hf c6
        refine lv_aload_n hx hb dX7_addArrow_44 rfl (lv_at hl 0 rfl) ?_
        obtain ⟨q7, hq7, hf⟩ := ob_some hf
        refine xcVi (w' := ((w_M a0 cI cC mnow mhistory mkept mslot misFilled mgame mmeasures mmost mnumbers mround mtyped mtext mat mnumber mreads mbeyond mjudgedTo mreach mgoes) ++ R)) S hK hN hA hP hD hS (c_X7_arrows l D cI cC cS R a0 mnow mhistory mkept mslot misFilled mgame mmeasures mmost mnumbers mround mtyped mtext mat mnumber mreads mbeyond mjudgedTo mreach mgoes n _ hq7) gX7_addArrow_X7_arrows rfl hd_X7_arrows ⟨by decide, by decide⟩ (List.Perm.refl _) (List.Perm.refl _) (ci := 7) (q := (RX7, TX7, 19)) rfl rfl rfl rfl hl.1 rfl (Nat.le_of_ble_eq_true rfl) dX7_addArrow_45 ⟨Nat.zero_le _, Nat.zero_le _⟩ (fun H locs hP hD hS => ?_)
        refine lv_bipush (v := 60) hx hb dX7_addArrow_48 (by decide) ?_
        refine lv_icmp_ne (tgt := 56) hx hb dX7_addArrow_50 (by decide) (fun c8 => ?_) (fun c8 => ?_)
        · have hf := if_f hf c8
          refine lv_aload_n hx hb dX7_addArrow_56 rfl (lv_at hl 0 rfl) ?_
          obtain ⟨q9, hq9, hf⟩ := ob_some hf
          refine xcVv (w' := ((w_M a0 cI cC mnow q9.1 q9.2 mslot misFilled mgame mmeasures mmost mnumbers mround mtyped mtext mat mnumber mreads mbeyond mjudgedTo mreach mgoes) ++ R)) S hK hN hA hP hD hS (c_X7_record l D cI cC cS R a0 mnow mhistory mkept mslot misFilled mgame mmeasures mmost mnumbers mround mtyped mtext mat mnumber mreads mbeyond mjudgedTo mreach mgoes n _ hq9) gX7_addArrow_X7_record rfl hd_X7_record ⟨by decide, by decide⟩ (List.Perm.refl _) (List.Perm.refl _) (ci := 7) (q := (RX7, TX7, 19)) rfl rfl rfl rfl hl.1 rfl (Nat.le_of_ble_eq_true rfl) dX7_addArrow_57 ⟨Nat.zero_le _, Nat.zero_le _⟩ (fun H locs hP hD hS => ?_)
          refine lv_aload_n hx hb dX7_addArrow_60 rfl (lv_at hl 0 rfl) ?_
          refine lv_iload_n hx hb dX7_addArrow_61 rfl (lv_at hl 1 rfl) ?_
          refine lv_iconst (v := 2) hx hb dX7_addArrow_62 (by decide) ?_
          refine lv_aload_n hx hb dX7_addArrow_63 rfl (lv_at hl 0 rfl) ?_
          refine lv_iload_n hx hb dX7_addArrow_64 rfl (lv_at hl 1 rfl) ?_
          refine lv_iconst (v := 2) hx hb dX7_addArrow_65 (by decide) ?_
          obtain ⟨q10, hq10, hf⟩ := ob_some hf
          refine xcVi (w' := ((w_M a0 cI cC mnow q9.1 q9.2 mslot misFilled mgame mmeasures mmost mnumbers mround mtyped mtext mat mnumber mreads mbeyond mjudgedTo mreach mgoes) ++ R)) S hK hN hA hP hD hS (c_X7_of l D cI cC cS R a0 mnow q9.1 q9.2 mslot misFilled mgame mmeasures mmost mnumbers mround mtyped mtext mat mnumber mreads mbeyond mjudgedTo mreach mgoes p1 2 _ hq10) gX7_addArrow_X7_of rfl hd_X7_of ⟨by decide, by decide⟩ (List.Perm.refl _) (List.Perm.refl _) (ci := 7) (q := (RX7, TX7, 19)) rfl rfl rfl rfl hl.1 rfl (Nat.le_of_ble_eq_true rfl) dX7_addArrow_66 ⟨Nat.zero_le _, Nat.zero_le _⟩ (fun H locs hP hD hS => ?_)
          refine lv_iconst (v := 1) hx hb dX7_addArrow_69 (by decide) ?_
          refine lv_iload_n hx hb dX7_addArrow_70 rfl (lv_at hl 2 rfl) ?_
          refine lv_ishl hx hb dX7_addArrow_71 ?_
          refine lv_ior hx hb dX7_addArrow_72 ?_
          obtain ⟨q11, hq11, hf⟩ := ob_some hf
          refine xcVv (w' := ((w_M a0 cI cC q11 q9.1 q9.2 mslot misFilled mgame mmeasures mmost mnumbers mround mtyped mtext mat mnumber mreads mbeyond mjudgedTo mreach mgoes) ++ R)) S hK hN hA hP hD hS (c_X7_puts l D cI cC cS R a0 mnow q9.1 q9.2 mslot misFilled mgame mmeasures mmost mnumbers mround mtyped mtext mat mnumber mreads mbeyond mjudgedTo mreach mgoes p1 2 (q10 ||| (jshl 1 p2)) _ hq11) gX7_addArrow_X7_puts rfl hd_X7_puts ⟨by decide, by decide⟩ (List.Perm.refl _) (List.Perm.refl _) (ci := 7) (q := (RX7, TX7, 19)) rfl rfl rfl rfl hl.1 rfl (Nat.le_of_ble_eq_true rfl) dX7_addArrow_73 ⟨Nat.zero_le _, Nat.zero_le _⟩ (fun H locs hP hD hS => ?_)
          refine lv_aload_n hx hb dX7_addArrow_76 rfl (lv_at hl 0 rfl) ?_
          refine lv_iload_n hx hb dX7_addArrow_77 rfl (lv_at hl 1 rfl) ?_
          refine lv_iconst (v := 2) hx hb dX7_addArrow_78 (by decide) ?_
          obtain ⟨q12, hq12, hf⟩ := ob_some hf
          refine xcVi (w' := ((w_M a0 cI cC q11 q9.1 q9.2 mslot misFilled mgame mmeasures mmost mnumbers mround mtyped mtext mat mnumber mreads mbeyond mjudgedTo mreach mgoes) ++ R)) S hK hN hA hP hD hS (c_X7_of l D cI cC cS R a0 q11 q9.1 q9.2 mslot misFilled mgame mmeasures mmost mnumbers mround mtyped mtext mat mnumber mreads mbeyond mjudgedTo mreach mgoes p1 2 _ hq12) gX7_addArrow_X7_of rfl hd_X7_of ⟨by decide, by decide⟩ (List.Perm.refl _) (List.Perm.refl _) (ci := 7) (q := (RX7, TX7, 19)) rfl rfl rfl rfl hl.1 rfl (Nat.le_of_ble_eq_true rfl) dX7_addArrow_79 ⟨Nat.zero_le _, Nat.zero_le _⟩ (fun H locs hP hD hS => ?_)
          obtain ⟨q13, hq13, hf⟩ := ob_some hf
          refine xcSi S hK hN hA hP hD hS (c_X7_bits l D cI cC cS ((w_M a0 cI cC q11 q9.1 q9.2 mslot misFilled mgame mmeasures mmost mnumbers mround mtyped mtext mat mnumber mreads mbeyond mjudgedTo mreach mgoes) ++ R) q12 n _ hq13) gX7_addArrow_X7_bits rfl hd_X7_bits ⟨by decide, by decide⟩ rfl hl.1 rfl (Nat.le_of_ble_eq_true rfl) dX7_addArrow_82 ⟨Nat.zero_le _, Nat.zero_le _⟩ (fun H locs hP hD hS => ?_)
          have hf := Option.some.inj hf
          subst hf
          exact hret _ _ _ _ _ dX7_addArrow_85 rfl hP hD hS rfl
        · have hf := if_t hf c8
          refine lv_bipush (v := (-3)) hx hb dX7_addArrow_53 (by decide) ?_
          have hf := Option.some.inj hf
          subst hf
          exact hret _ _ _ _ _ dX7_addArrow_55 rfl hP hD hS rfl
      · have hf := if_f hf c6
        refine lv_aload_n hx hb dX7_addArrow_27 rfl (lv_at hl 0 rfl) ?_
        obtain ⟨q14, hq14, hf⟩ := ob_some hf
        refine xcVi (w' := ((w_M a0 cI cC mnow mhistory mkept mslot misFilled mgame mmeasures mmost mnumbers mround mtyped mtext mat mnumber mreads mbeyond mjudgedTo mreach mgoes) ++ R)) S hK hN hA hP hD hS (c_X7_arrows l D cI cC cS R a0 mnow mhistory mkept mslot misFilled mgame mmeasures mmost mnumbers mround mtyped mtext mat mnumber mreads mbeyond mjudgedTo mreach mgoes n _ hq14) gX7_addArrow_X7_arrows rfl hd_X7_arrows ⟨by decide, by decide⟩ (List.Perm.refl _) (List.Perm.refl _) (ci := 7) (q := (RX7, TX7, 19)) rfl rfl rfl rfl hl.1 rfl (Nat.le_of_ble_eq_true rfl) dX7_addArrow_28 ⟨Nat.zero_le _, Nat.zero_le _⟩ (fun H locs hP hD hS => ?_)
        refine lv_bipush (v := 60) hx hb dX7_addArrow_31 (by decide) ?_
        refine lv_icmp_ne (tgt := 41) hx hb dX7_addArrow_33 (by decide) (fun c15 => ?_) (fun c15 => ?_)
        · have hf := if_f hf c15
          refine lv_bipush (v := (-5)) hx hb dX7_addArrow_41 (by decide) ?_
          have hf := Option.some.inj hf
          subst hf
          exact hret _ _ _ _ _ dX7_addArrow_43 rfl hP hD hS rfl
        · have hf := if_t hf c15
          refine lv_bipush (v := (-3)) hx hb dX7_addArrow_36 (by decide) ?_
          refine lv_goto (tgt := 43) hx hb dX7_addArrow_38 (by decide) ?_
          have hf := Option.some.inj hf
          subst hf
          exact hret _ _ _ _ _ dX7_addArrow_43 rfl hP hD hS rfl
    · have hf := if_f hf c4
      refine lv_iconst (v := (-1)) hx hb dX7_addArrow_16 (by decide) ?_
      have hf := Option.some.inj hf
      subst hf
      exact hret _ _ _ _ _ dX7_addArrow_17 rfl hP hD hS rfl
def f_X7_removeArrow (n : Nat) (mnow : (Nat → Int32)) (mhistory : (Nat → Int32)) (mkept : Int32) (p1 : Int32) (p2 : Int32) : Option (Int32 × (Nat → Int32) × (Nat → Int32) × Int32) := (f_X7_no mnow p1).bind fun q1 => (if q1 = 0 then (f_X7_no mnow p2).bind fun q3 => (if q3 = 0 then (f_X7_hasArrow mnow p1 p2).bind fun q5 => (if q5 = 0 then some ((-5), mnow, mhistory, mkept) else (f_X7_record n mnow mhistory mkept).bind fun q7 => (f_X7_of mnow p1 2).bind fun q8 => (f_X7_puts mnow p1 2 (q8 ^^^ (jshl 1 p2))).bind fun q9 => (f_X7_of q9 p1 3).bind fun q10 => ((if q10 = p2 then (f_X7_puts q9 p1 3 14).bind fun q16 => some (q16) else some (q9)) : Option (Nat → Int32)).bind fun j12 => (f_X7_of j12 p1 2).bind fun q14 => (f_X7_bits n q14).bind fun q15 => some (q15, j12, q7.1, q7.2)) else some ((-1), mnow, mhistory, mkept)) else some ((-1), mnow, mhistory, mkept))
theorem hd_X7_removeArrow : yX7_removeArrow.cls = RX7 ∧ yX7_removeArrow.cls ≠ "java/lang/invoke/MethodHandle" ∧ yX7_removeArrow.cls ≠ "java/lang/invoke/VarHandle" ∧ (parseMethodDescriptor yX7_removeArrow.desc).map (fun d => d.parameters.length) = some 2 := by decide +kernel
set_option maxHeartbeats 4000000 in
set_option maxRecDepth 100000 in
theorem c_X7_removeArrow (l : Launch) (D : va_G) (cI cC cS : ClassId) (R : va_W) (a0 : Nat → Nat) (mnow : (Nat → Int32)) (mhistory : (Nat → Int32)) (mkept : Int32) (mslot : (Nat → Int32)) (misFilled : Int32) (mgame : Int32) (mmeasures : (Nat → Int32)) (mmost : (Nat → Int32)) (mnumbers : (Nat → Int32)) (mround : Int32) (mtyped : Int32) (mtext : (Nat → Int32)) (mat : Int32) (mnumber : Int32) (mreads : (Nat → Int32)) (mbeyond : Int32) (mjudgedTo : (Nat → Int32)) (mreach : (Nat → Int32)) (mgoes : (Nat → Int32)) (p1 : Int32) (p2 : Int32) (n : Nat) (r : Int32 × (Nat → Int32) × (Nat → Int32) × Int32) (hf : f_X7_removeArrow n mnow mhistory mkept p1 p2 = some r) : CI l yX7_removeArrow wsX7_removeArrow 2 44 D cI cC cS [.ref (a0 0), .int p1, .int p2] ((w_M a0 cI cC mnow mhistory mkept mslot misFilled mgame mmeasures mmost mnumbers mround mtyped mtext mat mnumber mreads mbeyond mjudgedTo mreach mgoes) ++ R) r.1 ((w_M a0 cI cC r.2.1 r.2.2.1 r.2.2.2 mslot misFilled mgame mmeasures mmost mnumbers mround mtyped mtext mat mnumber mreads mbeyond mjudgedTo mreach mgoes) ++ R) := by
  refine XI.of (cc := cX7_removeArrow) (maxL := 3) (ty := .int) (own := RX7) (by decide) rfl rfl (Nat.le_of_ble_eq_true rfl) ?_
  intro p e s m args below meth c A Q S hK hN hA hP hD hS ls hl hret
  obtain ⟨hx, hb, hml, hown, hts⟩ := id S
  have hl : lv_has ls 3 [(0, .ref (a0 0)), (1, .int p1), (2, .int p2)] := hl
  unfold f_X7_removeArrow at hf
  refine lv_aload_n hx hb dX7_removeArrow_0 rfl (lv_at hl 0 rfl) ?_
  refine lv_iload_n hx hb dX7_removeArrow_1 rfl (lv_at hl 1 rfl) ?_
  obtain ⟨q1, hq1, hf⟩ := ob_some hf
  refine xcVi (w' := ((w_M a0 cI cC mnow mhistory mkept mslot misFilled mgame mmeasures mmost mnumbers mround mtyped mtext mat mnumber mreads mbeyond mjudgedTo mreach mgoes) ++ R)) S hK hN hA hP hD hS (c_X7_no l D cI cC cS R a0 mnow mhistory mkept mslot misFilled mgame mmeasures mmost mnumbers mround mtyped mtext mat mnumber mreads mbeyond mjudgedTo mreach mgoes p1 _ hq1) gX7_removeArrow_X7_no rfl hd_X7_no ⟨by decide, by decide⟩ (List.Perm.refl _) (List.Perm.refl _) (ci := 7) (q := (RX7, TX7, 19)) rfl rfl rfl rfl hl.1 rfl (Nat.le_of_ble_eq_true rfl) dX7_removeArrow_2 ⟨Nat.zero_le _, Nat.zero_le _⟩ (fun H locs hP hD hS => ?_)
  refine lv_if_ne (tgt := 16) hx hb dX7_removeArrow_5 (by decide) (fun c2 => ?_) (fun c2 => ?_)
  · have hf := if_f hf c2
    refine lv_iconst (v := (-1)) hx hb dX7_removeArrow_16 (by decide) ?_
    have hf := Option.some.inj hf
    subst hf
    exact hret _ _ _ _ _ dX7_removeArrow_17 rfl hP hD hS rfl
  · have hf := if_t hf c2
    refine lv_aload_n hx hb dX7_removeArrow_8 rfl (lv_at hl 0 rfl) ?_
    refine lv_iload_n hx hb dX7_removeArrow_9 rfl (lv_at hl 2 rfl) ?_
    obtain ⟨q3, hq3, hf⟩ := ob_some hf
    refine xcVi (w' := ((w_M a0 cI cC mnow mhistory mkept mslot misFilled mgame mmeasures mmost mnumbers mround mtyped mtext mat mnumber mreads mbeyond mjudgedTo mreach mgoes) ++ R)) S hK hN hA hP hD hS (c_X7_no l D cI cC cS R a0 mnow mhistory mkept mslot misFilled mgame mmeasures mmost mnumbers mround mtyped mtext mat mnumber mreads mbeyond mjudgedTo mreach mgoes p2 _ hq3) gX7_removeArrow_X7_no rfl hd_X7_no ⟨by decide, by decide⟩ (List.Perm.refl _) (List.Perm.refl _) (ci := 7) (q := (RX7, TX7, 19)) rfl rfl rfl rfl hl.1 rfl (Nat.le_of_ble_eq_true rfl) dX7_removeArrow_10 ⟨Nat.zero_le _, Nat.zero_le _⟩ (fun H locs hP hD hS => ?_)
    refine lv_if_eq (tgt := 18) hx hb dX7_removeArrow_13 (by decide) (fun c4 => ?_) (fun c4 => ?_)
    · have hf := if_t hf c4
      refine lv_aload_n hx hb dX7_removeArrow_18 rfl (lv_at hl 0 rfl) ?_
      refine lv_iload_n hx hb dX7_removeArrow_19 rfl (lv_at hl 1 rfl) ?_
      refine lv_iload_n hx hb dX7_removeArrow_20 rfl (lv_at hl 2 rfl) ?_
      obtain ⟨q5, hq5, hf⟩ := ob_some hf
      refine xcVi (w' := ((w_M a0 cI cC mnow mhistory mkept mslot misFilled mgame mmeasures mmost mnumbers mround mtyped mtext mat mnumber mreads mbeyond mjudgedTo mreach mgoes) ++ R)) S hK hN hA hP hD hS (c_X7_hasArrow l D cI cC cS R a0 mnow mhistory mkept mslot misFilled mgame mmeasures mmost mnumbers mround mtyped mtext mat mnumber mreads mbeyond mjudgedTo mreach mgoes p1 p2 _ hq5) gX7_removeArrow_X7_hasArrow rfl hd_X7_hasArrow ⟨by decide, by decide⟩ (List.Perm.refl _) (List.Perm.refl _) (ci := 7) (q := (RX7, TX7, 19)) rfl rfl rfl rfl hl.1 rfl (Nat.le_of_ble_eq_true rfl) dX7_removeArrow_21 ⟨Nat.zero_le _, Nat.zero_le _⟩ (fun H locs hP hD hS => ?_)
      refine lv_if_ne (tgt := 30) hx hb dX7_removeArrow_24 (by decide) (fun c6 => ?_) (fun c6 => ?_)
      · have hf := if_f hf c6
        refine lv_aload_n hx hb dX7_removeArrow_30 rfl (lv_at hl 0 rfl) ?_
        obtain ⟨q7, hq7, hf⟩ := ob_some hf
        refine xcVv (w' := ((w_M a0 cI cC mnow q7.1 q7.2 mslot misFilled mgame mmeasures mmost mnumbers mround mtyped mtext mat mnumber mreads mbeyond mjudgedTo mreach mgoes) ++ R)) S hK hN hA hP hD hS (c_X7_record l D cI cC cS R a0 mnow mhistory mkept mslot misFilled mgame mmeasures mmost mnumbers mround mtyped mtext mat mnumber mreads mbeyond mjudgedTo mreach mgoes n _ hq7) gX7_removeArrow_X7_record rfl hd_X7_record ⟨by decide, by decide⟩ (List.Perm.refl _) (List.Perm.refl _) (ci := 7) (q := (RX7, TX7, 19)) rfl rfl rfl rfl hl.1 rfl (Nat.le_of_ble_eq_true rfl) dX7_removeArrow_31 ⟨Nat.zero_le _, Nat.zero_le _⟩ (fun H locs hP hD hS => ?_)
        refine lv_aload_n hx hb dX7_removeArrow_34 rfl (lv_at hl 0 rfl) ?_
        refine lv_iload_n hx hb dX7_removeArrow_35 rfl (lv_at hl 1 rfl) ?_
        refine lv_iconst (v := 2) hx hb dX7_removeArrow_36 (by decide) ?_
        refine lv_aload_n hx hb dX7_removeArrow_37 rfl (lv_at hl 0 rfl) ?_
        refine lv_iload_n hx hb dX7_removeArrow_38 rfl (lv_at hl 1 rfl) ?_
        refine lv_iconst (v := 2) hx hb dX7_removeArrow_39 (by decide) ?_
        obtain ⟨q8, hq8, hf⟩ := ob_some hf
        refine xcVi (w' := ((w_M a0 cI cC mnow q7.1 q7.2 mslot misFilled mgame mmeasures mmost mnumbers mround mtyped mtext mat mnumber mreads mbeyond mjudgedTo mreach mgoes) ++ R)) S hK hN hA hP hD hS (c_X7_of l D cI cC cS R a0 mnow q7.1 q7.2 mslot misFilled mgame mmeasures mmost mnumbers mround mtyped mtext mat mnumber mreads mbeyond mjudgedTo mreach mgoes p1 2 _ hq8) gX7_removeArrow_X7_of rfl hd_X7_of ⟨by decide, by decide⟩ (List.Perm.refl _) (List.Perm.refl _) (ci := 7) (q := (RX7, TX7, 19)) rfl rfl rfl rfl hl.1 rfl (Nat.le_of_ble_eq_true rfl) dX7_removeArrow_40 ⟨Nat.zero_le _, Nat.zero_le _⟩ (fun H locs hP hD hS => ?_)
        refine lv_iconst (v := 1) hx hb dX7_removeArrow_43 (by decide) ?_
        refine lv_iload_n hx hb dX7_removeArrow_44 rfl (lv_at hl 2 rfl) ?_
        refine lv_ishl hx hb dX7_removeArrow_45 ?_
        refine lv_ixor hx hb dX7_removeArrow_46 ?_
        obtain ⟨q9, hq9, hf⟩ := ob_some hf
        refine xcVv (w' := ((w_M a0 cI cC q9 q7.1 q7.2 mslot misFilled mgame mmeasures mmost mnumbers mround mtyped mtext mat mnumber mreads mbeyond mjudgedTo mreach mgoes) ++ R)) S hK hN hA hP hD hS (c_X7_puts l D cI cC cS R a0 mnow q7.1 q7.2 mslot misFilled mgame mmeasures mmost mnumbers mround mtyped mtext mat mnumber mreads mbeyond mjudgedTo mreach mgoes p1 2 (q8 ^^^ (jshl 1 p2)) _ hq9) gX7_removeArrow_X7_puts rfl hd_X7_puts ⟨by decide, by decide⟩ (List.Perm.refl _) (List.Perm.refl _) (ci := 7) (q := (RX7, TX7, 19)) rfl rfl rfl rfl hl.1 rfl (Nat.le_of_ble_eq_true rfl) dX7_removeArrow_47 ⟨Nat.zero_le _, Nat.zero_le _⟩ (fun H locs hP hD hS => ?_)
        refine lv_aload_n hx hb dX7_removeArrow_50 rfl (lv_at hl 0 rfl) ?_
        refine lv_iload_n hx hb dX7_removeArrow_51 rfl (lv_at hl 1 rfl) ?_
        refine lv_iconst (v := 3) hx hb dX7_removeArrow_52 (by decide) ?_
        obtain ⟨q10, hq10, hf⟩ := ob_some hf
        refine xcVi (w' := ((w_M a0 cI cC q9 q7.1 q7.2 mslot misFilled mgame mmeasures mmost mnumbers mround mtyped mtext mat mnumber mreads mbeyond mjudgedTo mreach mgoes) ++ R)) S hK hN hA hP hD hS (c_X7_of l D cI cC cS R a0 q9 q7.1 q7.2 mslot misFilled mgame mmeasures mmost mnumbers mround mtyped mtext mat mnumber mreads mbeyond mjudgedTo mreach mgoes p1 3 _ hq10) gX7_removeArrow_X7_of rfl hd_X7_of ⟨by decide, by decide⟩ (List.Perm.refl _) (List.Perm.refl _) (ci := 7) (q := (RX7, TX7, 19)) rfl rfl rfl rfl hl.1 rfl (Nat.le_of_ble_eq_true rfl) dX7_removeArrow_53 ⟨Nat.zero_le _, Nat.zero_le _⟩ (fun H locs hP hD hS => ?_)
        refine lv_iload_n hx hb dX7_removeArrow_56 rfl (lv_at hl 2 rfl) ?_
        obtain ⟨j12, hj12, hf⟩ := ob_some hf
        have J13 : ∀ (H : Heap) (locs : List Loc), va_P D vwCl ((w_M a0 cI cC j12 q7.1 q7.2 mslot misFilled mgame mmeasures mmost mnumbers mround mtyped mtext mat mnumber mreads mbeyond mjudgedTo mreach mgoes) ++ R) H → va_D A ((w_M a0 cI cC j12 q7.1 q7.2 mslot misFilled mgame mmeasures mmost mnumbers mround mtyped mtext mat mnumber mreads mbeyond mjudgedTo mreach mgoes) ++ R) → va_S A s.heap H locs → ∀ ls : Array Slot, lv_has ls 3 [(0, .ref (a0 0)), (1, .int p1)] → W p l e (xR 2 44) s m args below meth c H locs 0 0 Q (F0 m 68 ls []) := by
          intro H locs hP hD hS ls hl
          refine lv_aload_n hx hb dX7_removeArrow_68 rfl (lv_at hl 0 rfl) ?_
          refine lv_iload_n hx hb dX7_removeArrow_69 rfl (lv_at hl 1 rfl) ?_
          refine lv_iconst (v := 2) hx hb dX7_removeArrow_70 (by decide) ?_
          obtain ⟨q14, hq14, hf⟩ := ob_some hf
          refine xcVi (w' := ((w_M a0 cI cC j12 q7.1 q7.2 mslot misFilled mgame mmeasures mmost mnumbers mround mtyped mtext mat mnumber mreads mbeyond mjudgedTo mreach mgoes) ++ R)) S hK hN hA hP hD hS (c_X7_of l D cI cC cS R a0 j12 q7.1 q7.2 mslot misFilled mgame mmeasures mmost mnumbers mround mtyped mtext mat mnumber mreads mbeyond mjudgedTo mreach mgoes p1 2 _ hq14) gX7_removeArrow_X7_of rfl hd_X7_of ⟨by decide, by decide⟩ (List.Perm.refl _) (List.Perm.refl _) (ci := 7) (q := (RX7, TX7, 19)) rfl rfl rfl rfl hl.1 rfl (Nat.le_of_ble_eq_true rfl) dX7_removeArrow_71 ⟨Nat.zero_le _, Nat.zero_le _⟩ (fun H locs hP hD hS => ?_)
          obtain ⟨q15, hq15, hf⟩ := ob_some hf
          refine xcSi S hK hN hA hP hD hS (c_X7_bits l D cI cC cS ((w_M a0 cI cC j12 q7.1 q7.2 mslot misFilled mgame mmeasures mmost mnumbers mround mtyped mtext mat mnumber mreads mbeyond mjudgedTo mreach mgoes) ++ R) q14 n _ hq15) gX7_removeArrow_X7_bits rfl hd_X7_bits ⟨by decide, by decide⟩ rfl hl.1 rfl (Nat.le_of_ble_eq_true rfl) dX7_removeArrow_74 ⟨Nat.zero_le _, Nat.zero_le _⟩ (fun H locs hP hD hS => ?_)
          have hf := Option.some.inj hf
          subst hf
          exact hret _ _ _ _ _ dX7_removeArrow_77 rfl hP hD hS rfl
        clear hf
        have hf := hj12
        refine lv_icmp_ne (tgt := 68) hx hb dX7_removeArrow_57 (by decide) (fun c11 => ?_) (fun c11 => ?_)
        · have hf := if_f hf c11
          have hf := Option.some.inj hf
          subst hf
          exact J13 _ _ hP hD hS _ (lv_sub hl [0, 1] rfl)
        · have hf := if_t hf c11
          refine lv_aload_n hx hb dX7_removeArrow_60 rfl (lv_at hl 0 rfl) ?_
          refine lv_iload_n hx hb dX7_removeArrow_61 rfl (lv_at hl 1 rfl) ?_
          refine lv_iconst (v := 3) hx hb dX7_removeArrow_62 (by decide) ?_
          refine lv_bipush (v := 14) hx hb dX7_removeArrow_63 (by decide) ?_
          obtain ⟨q16, hq16, hf⟩ := ob_some hf
          refine xcVv (w' := ((w_M a0 cI cC q16 q7.1 q7.2 mslot misFilled mgame mmeasures mmost mnumbers mround mtyped mtext mat mnumber mreads mbeyond mjudgedTo mreach mgoes) ++ R)) S hK hN hA hP hD hS (c_X7_puts l D cI cC cS R a0 q9 q7.1 q7.2 mslot misFilled mgame mmeasures mmost mnumbers mround mtyped mtext mat mnumber mreads mbeyond mjudgedTo mreach mgoes p1 3 14 _ hq16) gX7_removeArrow_X7_puts rfl hd_X7_puts ⟨by decide, by decide⟩ (List.Perm.refl _) (List.Perm.refl _) (ci := 7) (q := (RX7, TX7, 19)) rfl rfl rfl rfl hl.1 rfl (Nat.le_of_ble_eq_true rfl) dX7_removeArrow_65 ⟨Nat.zero_le _, Nat.zero_le _⟩ (fun H locs hP hD hS => ?_)
          have hf := Option.some.inj hf
          subst hf
          exact J13 _ _ hP hD hS _ (lv_sub hl [0, 1] rfl)
      · have hf := if_t hf c6
        refine lv_bipush (v := (-5)) hx hb dX7_removeArrow_27 (by decide) ?_
        have hf := Option.some.inj hf
        subst hf
        exact hret _ _ _ _ _ dX7_removeArrow_29 rfl hP hD hS rfl
    · have hf := if_f hf c4
      refine lv_iconst (v := (-1)) hx hb dX7_removeArrow_16 (by decide) ?_
      have hf := Option.some.inj hf
      subst hf
      exact hret _ _ _ _ _ dX7_removeArrow_17 rfl hP hD hS rfl
def f_X7_turnOver_L39 : Nat → Int32 → (Nat → Int32) → Option (Nat → Int32)
  | 0, _, _ => none
  | k + 1, d_l1, d_mnow => (if (d_mnow 56) ≤ d_l1 then some (d_mnow) else (f_X7_of d_mnow d_l1 0).bind fun q4 => (f_X7_puts d_mnow d_l1 0 (1 - q4)).bind fun q5 => (f_X7_of q5 d_l1 1).bind fun q6 => (f_X7_puts q5 d_l1 1 (q6 + 1)).bind fun q7 => f_X7_turnOver_L39 k (d_l1 + 1) q7)
def f_X7_turnOver_L2 (n : Nat) (d_mnow : (Nat → Int32)) (d_mhistory : (Nat → Int32)) (d_mkept : Int32) (d_mgame : Int32) (d_mmeasures : (Nat → Int32)) (d_mmost : (Nat → Int32)) (d_mnumbers : (Nat → Int32)) (d_mround : Int32) : Nat → Int32 → Option (Int32 × (Nat → Int32) × (Nat → Int32) × Int32 × Int32 × (Nat → Int32) × (Nat → Int32) × (Nat → Int32) × Int32)
  | 0, _ => none
  | k + 1, d_l1 => (if (d_mnow 56) ≤ d_l1 then (f_X7_record n d_mnow d_mhistory d_mkept).bind fun q2 => (f_X7_turnOver_L39 n 0 d_mnow).bind fun q4 => (f_X7_winsOf n q4 d_mmeasures d_mmost d_mnumbers 1).bind fun q10 => some (q10.1, q4, q2.1, q2.2, q10.2.1, q10.2.2.1, q10.2.2.2.1, q10.2.2.2.2.1, q10.2.2.2.2.2) else (f_X7_of d_mnow d_l1 1).bind fun q11 => (if q11 = 7 then some ((-4), d_mnow, d_mhistory, d_mkept, d_mgame, d_mmeasures, d_mmost, d_mnumbers, d_mround) else f_X7_turnOver_L2 n d_mnow d_mhistory d_mkept d_mgame d_mmeasures d_mmost d_mnumbers d_mround k (d_l1 + 1)))
def f_X7_turnOver (n : Nat) (mnow : (Nat → Int32)) (mhistory : (Nat → Int32)) (mkept : Int32) (mgame : Int32) (mmeasures : (Nat → Int32)) (mmost : (Nat → Int32)) (mnumbers : (Nat → Int32)) (mround : Int32) : Option (Int32 × (Nat → Int32) × (Nat → Int32) × Int32 × Int32 × (Nat → Int32) × (Nat → Int32) × (Nat → Int32) × Int32) := f_X7_turnOver_L2 n mnow mhistory mkept mgame mmeasures mmost mnumbers mround n 0
theorem inw_X7_turnOver_7 : ∀ w ∈ wsX70, w ∈ wsX7_turnOver := fun _ h => List.mem_cons_of_mem _ (List.mem_append_right _ h)
theorem hd_X7_turnOver : yX7_turnOver.cls = RX7 ∧ yX7_turnOver.cls ≠ "java/lang/invoke/MethodHandle" ∧ yX7_turnOver.cls ≠ "java/lang/invoke/VarHandle" ∧ (parseMethodDescriptor yX7_turnOver.desc).map (fun d => d.parameters.length) = some 0 := by decide +kernel
set_option maxHeartbeats 4000000 in
set_option maxRecDepth 100000 in
theorem c_X7_turnOver (l : Launch) (D : va_G) (cI cC cS : ClassId) (R : va_W) (a0 : Nat → Nat) (mnow : (Nat → Int32)) (mhistory : (Nat → Int32)) (mkept : Int32) (mslot : (Nat → Int32)) (misFilled : Int32) (mgame : Int32) (mmeasures : (Nat → Int32)) (mmost : (Nat → Int32)) (mnumbers : (Nat → Int32)) (mround : Int32) (mtyped : Int32) (mtext : (Nat → Int32)) (mat : Int32) (mnumber : Int32) (mreads : (Nat → Int32)) (mbeyond : Int32) (mjudgedTo : (Nat → Int32)) (mreach : (Nat → Int32)) (mgoes : (Nat → Int32)) (n : Nat) (r : Int32 × (Nat → Int32) × (Nat → Int32) × Int32 × Int32 × (Nat → Int32) × (Nat → Int32) × (Nat → Int32) × Int32) (hf : f_X7_turnOver n mnow mhistory mkept mgame mmeasures mmost mnumbers mround = some r) : CI l yX7_turnOver wsX7_turnOver 5 115 D cI cC cS [.ref (a0 0)] ((w_M a0 cI cC mnow mhistory mkept mslot misFilled mgame mmeasures mmost mnumbers mround mtyped mtext mat mnumber mreads mbeyond mjudgedTo mreach mgoes) ++ R) r.1 ((w_M a0 cI cC r.2.1 r.2.2.1 r.2.2.2.1 mslot misFilled r.2.2.2.2.1 r.2.2.2.2.2.1 r.2.2.2.2.2.2.1 r.2.2.2.2.2.2.2.1 r.2.2.2.2.2.2.2.2 mtyped mtext mat mnumber mreads mbeyond mjudgedTo mreach mgoes) ++ R) := by
  refine XI.of (cc := cX7_turnOver) (maxL := 2) (ty := .int) (own := RX7) (by decide) rfl rfl (Nat.le_of_ble_eq_true rfl) ?_
  intro p e s m args below meth c A Q S hK hN hA hP hD hS ls hl hret
  obtain ⟨hx, hb, hml, hown, hts⟩ := id S
  have hl : lv_has ls 2 [(0, .ref (a0 0))] := hl
  unfold f_X7_turnOver at hf
  refine lv_iconst (v := 0) hx hb dX7_turnOver_0 (by decide) ?_
  refine lv_istore_n (lv' := [(1, .int 0), (0, .ref (a0 0))]) hx hb dX7_turnOver_1 rfl hl (by decide) rfl (fun ls hl => ?_)
  have L1 : ∀ (k : Nat) (v_l1_L1 : Int32), f_X7_turnOver_L2 n mnow mhistory mkept mgame mmeasures mmost mnumbers mround k v_l1_L1 = some r → ∀ (H : Heap) (locs : List Loc), va_P D vwCl ((w_M a0 cI cC mnow mhistory mkept mslot misFilled mgame mmeasures mmost mnumbers mround mtyped mtext mat mnumber mreads mbeyond mjudgedTo mreach mgoes) ++ R) H → va_D A ((w_M a0 cI cC mnow mhistory mkept mslot misFilled mgame mmeasures mmost mnumbers mround mtyped mtext mat mnumber mreads mbeyond mjudgedTo mreach mgoes) ++ R) → va_S A s.heap H locs → ∀ ls : Array Slot, lv_has ls 2 [(0, .ref (a0 0)), (1, .int v_l1_L1)] → W p l e (xR 5 115) s m args below meth c H locs 0 0 Q (F0 m 2 ls []) := by
    intro k
    induction k with
    | zero => intro v_l1_L1 hf; simp [f_X7_turnOver_L2] at hf
    | succ k ih =>
      intro v_l1_L1 hf H locs hP hD hS ls hl
      rw [f_X7_turnOver_L2] at hf
      refine lv_iload_n hx hb dX7_turnOver_2 rfl (lv_at hl 1 rfl) ?_
      refine lv_aload_n hx hb dX7_turnOver_3 rfl (lv_at hl 0 rfl) ?_
      refine va_get (D := D) (ci := 7) (v := .ref (a0 1)) (C := RX7) (T := TX7) (N := 19) hx hb hts inw_X7_turnOver_7 hown hK hP 0 rfl rfl 0 (by decide) (hts (.fieldLink RX7 7 "RingGamesModel" "now" "[I") (List.mem_of_getElem? (i := 1) rfl)) (fun _ h9 => h9) rfl dX7_turnOver_4 ?_
      refine lv_bipush (v := 56) hx hb dX7_turnOver_7 (by decide) ?_
      refine va_iald hx hb hK hP 1 0 rfl rfl (x_in (by decide)) dX7_turnOver_9 ?_
      refine lv_icmp_ge (tgt := 33) hx hb dX7_turnOver_10 (by decide) (fun c3 => ?_) (fun c3 => ?_)
      · have hf := if_t hf c3
        refine lv_aload_n hx hb dX7_turnOver_33 rfl (lv_at hl 0 rfl) ?_
        obtain ⟨q4, hq4, hf⟩ := ob_some hf
        refine xcVv (w' := ((w_M a0 cI cC mnow q4.1 q4.2 mslot misFilled mgame mmeasures mmost mnumbers mround mtyped mtext mat mnumber mreads mbeyond mjudgedTo mreach mgoes) ++ R)) S hK hN hA hP hD hS (c_X7_record l D cI cC cS R a0 mnow mhistory mkept mslot misFilled mgame mmeasures mmost mnumbers mround mtyped mtext mat mnumber mreads mbeyond mjudgedTo mreach mgoes n _ hq4) gX7_turnOver_X7_record rfl hd_X7_record ⟨by decide, by decide⟩ (List.Perm.refl _) (List.Perm.refl _) (ci := 7) (q := (RX7, TX7, 19)) rfl rfl rfl rfl hl.1 rfl (Nat.le_of_ble_eq_true rfl) dX7_turnOver_34 ⟨Nat.zero_le _, Nat.zero_le _⟩ (fun H locs hP hD hS => ?_)
        refine lv_iconst (v := 0) hx hb dX7_turnOver_37 (by decide) ?_
        refine lv_istore_n (lv' := [(1, .int 0), (0, .ref (a0 0))]) hx hb dX7_turnOver_38 rfl hl (by decide) rfl (fun ls hl => ?_)
        obtain ⟨q6, hq6, hf⟩ := ob_some hf
        have L5 : ∀ (k : Nat) (v_l1_L5 : Int32) (v_mnow_L5 : (Nat → Int32)) (q_L5 : (Nat → Int32)), f_X7_turnOver_L39 k v_l1_L5 v_mnow_L5 = some q_L5 → ∀ (H : Heap) (locs : List Loc), va_P D vwCl ((w_M a0 cI cC v_mnow_L5 q4.1 q4.2 mslot misFilled mgame mmeasures mmost mnumbers mround mtyped mtext mat mnumber mreads mbeyond mjudgedTo mreach mgoes) ++ R) H → va_D A ((w_M a0 cI cC v_mnow_L5 q4.1 q4.2 mslot misFilled mgame mmeasures mmost mnumbers mround mtyped mtext mat mnumber mreads mbeyond mjudgedTo mreach mgoes) ++ R) → va_S A s.heap H locs → ∀ ls : Array Slot, lv_has ls 2 [(0, .ref (a0 0)), (1, .int v_l1_L5)] → (∀ (H : Heap) (locs : List Loc), va_P D vwCl ((w_M a0 cI cC q_L5 q4.1 q4.2 mslot misFilled mgame mmeasures mmost mnumbers mround mtyped mtext mat mnumber mreads mbeyond mjudgedTo mreach mgoes) ++ R) H → va_D A ((w_M a0 cI cC q_L5 q4.1 q4.2 mslot misFilled mgame mmeasures mmost mnumbers mround mtyped mtext mat mnumber mreads mbeyond mjudgedTo mreach mgoes) ++ R) → va_S A s.heap H locs → ∀ ls : Array Slot, lv_has ls 2 [(0, .ref (a0 0))] → W p l e (xR 5 115) s m args below meth c H locs 0 0 Q (F0 m 84 ls [])) → W p l e (xR 5 115) s m args below meth c H locs 0 0 Q (F0 m 39 ls []) := by
          intro k
          induction k with
          | zero => intro v_l1_L5 v_mnow_L5 q_L5 hf; simp [f_X7_turnOver_L39] at hf
          | succ k ih =>
            intro v_l1_L5 v_mnow_L5 q_L5 hf H locs hP hD hS ls hl kx
            rw [f_X7_turnOver_L39] at hf
            refine lv_iload_n hx hb dX7_turnOver_39 rfl (lv_at hl 1 rfl) ?_
            refine lv_aload_n hx hb dX7_turnOver_40 rfl (lv_at hl 0 rfl) ?_
            refine va_get (D := D) (ci := 7) (v := .ref (a0 1)) (C := RX7) (T := TX7) (N := 19) hx hb hts inw_X7_turnOver_7 hown hK hP 0 rfl rfl 0 (by decide) (hts (.fieldLink RX7 7 "RingGamesModel" "now" "[I") (List.mem_of_getElem? (i := 1) rfl)) (fun _ h9 => h9) rfl dX7_turnOver_41 ?_
            refine lv_bipush (v := 56) hx hb dX7_turnOver_44 (by decide) ?_
            refine va_iald hx hb hK hP 1 0 rfl rfl (x_in (by decide)) dX7_turnOver_46 ?_
            refine lv_icmp_ge (tgt := 84) hx hb dX7_turnOver_47 (by decide) (fun c7 => ?_) (fun c7 => ?_)
            · have hf := if_t hf c7
              have hf := Option.some.inj hf
              subst hf
              exact kx _ _ hP hD hS _ (lv_sub hl [0] rfl)
            · have hf := if_f hf c7
              refine lv_aload_n hx hb dX7_turnOver_50 rfl (lv_at hl 0 rfl) ?_
              refine lv_iload_n hx hb dX7_turnOver_51 rfl (lv_at hl 1 rfl) ?_
              refine lv_iconst (v := 0) hx hb dX7_turnOver_52 (by decide) ?_
              refine lv_iconst (v := 1) hx hb dX7_turnOver_53 (by decide) ?_
              refine lv_aload_n hx hb dX7_turnOver_54 rfl (lv_at hl 0 rfl) ?_
              refine lv_iload_n hx hb dX7_turnOver_55 rfl (lv_at hl 1 rfl) ?_
              refine lv_iconst (v := 0) hx hb dX7_turnOver_56 (by decide) ?_
              obtain ⟨q8, hq8, hf⟩ := ob_some hf
              refine xcVi (w' := ((w_M a0 cI cC v_mnow_L5 q4.1 q4.2 mslot misFilled mgame mmeasures mmost mnumbers mround mtyped mtext mat mnumber mreads mbeyond mjudgedTo mreach mgoes) ++ R)) S hK hN hA hP hD hS (c_X7_of l D cI cC cS R a0 v_mnow_L5 q4.1 q4.2 mslot misFilled mgame mmeasures mmost mnumbers mround mtyped mtext mat mnumber mreads mbeyond mjudgedTo mreach mgoes v_l1_L5 0 _ hq8) gX7_turnOver_X7_of rfl hd_X7_of ⟨by decide, by decide⟩ (List.Perm.refl _) (List.Perm.refl _) (ci := 7) (q := (RX7, TX7, 19)) rfl rfl rfl rfl hl.1 rfl (Nat.le_of_ble_eq_true rfl) dX7_turnOver_57 ⟨Nat.zero_le _, Nat.zero_le _⟩ (fun H locs hP hD hS => ?_)
              refine lv_isub hx hb dX7_turnOver_60 ?_
              obtain ⟨q9, hq9, hf⟩ := ob_some hf
              refine xcVv (w' := ((w_M a0 cI cC q9 q4.1 q4.2 mslot misFilled mgame mmeasures mmost mnumbers mround mtyped mtext mat mnumber mreads mbeyond mjudgedTo mreach mgoes) ++ R)) S hK hN hA hP hD hS (c_X7_puts l D cI cC cS R a0 v_mnow_L5 q4.1 q4.2 mslot misFilled mgame mmeasures mmost mnumbers mround mtyped mtext mat mnumber mreads mbeyond mjudgedTo mreach mgoes v_l1_L5 0 (1 - q8) _ hq9) gX7_turnOver_X7_puts rfl hd_X7_puts ⟨by decide, by decide⟩ (List.Perm.refl _) (List.Perm.refl _) (ci := 7) (q := (RX7, TX7, 19)) rfl rfl rfl rfl hl.1 rfl (Nat.le_of_ble_eq_true rfl) dX7_turnOver_61 ⟨Nat.zero_le _, Nat.zero_le _⟩ (fun H locs hP hD hS => ?_)
              refine lv_aload_n hx hb dX7_turnOver_64 rfl (lv_at hl 0 rfl) ?_
              refine lv_iload_n hx hb dX7_turnOver_65 rfl (lv_at hl 1 rfl) ?_
              refine lv_iconst (v := 1) hx hb dX7_turnOver_66 (by decide) ?_
              refine lv_aload_n hx hb dX7_turnOver_67 rfl (lv_at hl 0 rfl) ?_
              refine lv_iload_n hx hb dX7_turnOver_68 rfl (lv_at hl 1 rfl) ?_
              refine lv_iconst (v := 1) hx hb dX7_turnOver_69 (by decide) ?_
              obtain ⟨q10, hq10, hf⟩ := ob_some hf
              refine xcVi (w' := ((w_M a0 cI cC q9 q4.1 q4.2 mslot misFilled mgame mmeasures mmost mnumbers mround mtyped mtext mat mnumber mreads mbeyond mjudgedTo mreach mgoes) ++ R)) S hK hN hA hP hD hS (c_X7_of l D cI cC cS R a0 q9 q4.1 q4.2 mslot misFilled mgame mmeasures mmost mnumbers mround mtyped mtext mat mnumber mreads mbeyond mjudgedTo mreach mgoes v_l1_L5 1 _ hq10) gX7_turnOver_X7_of rfl hd_X7_of ⟨by decide, by decide⟩ (List.Perm.refl _) (List.Perm.refl _) (ci := 7) (q := (RX7, TX7, 19)) rfl rfl rfl rfl hl.1 rfl (Nat.le_of_ble_eq_true rfl) dX7_turnOver_70 ⟨Nat.zero_le _, Nat.zero_le _⟩ (fun H locs hP hD hS => ?_)
              refine lv_iconst (v := 1) hx hb dX7_turnOver_73 (by decide) ?_
              refine lv_iadd hx hb dX7_turnOver_74 ?_
              obtain ⟨q11, hq11, hf⟩ := ob_some hf
              refine xcVv (w' := ((w_M a0 cI cC q11 q4.1 q4.2 mslot misFilled mgame mmeasures mmost mnumbers mround mtyped mtext mat mnumber mreads mbeyond mjudgedTo mreach mgoes) ++ R)) S hK hN hA hP hD hS (c_X7_puts l D cI cC cS R a0 q9 q4.1 q4.2 mslot misFilled mgame mmeasures mmost mnumbers mround mtyped mtext mat mnumber mreads mbeyond mjudgedTo mreach mgoes v_l1_L5 1 (q10 + 1) _ hq11) gX7_turnOver_X7_puts rfl hd_X7_puts ⟨by decide, by decide⟩ (List.Perm.refl _) (List.Perm.refl _) (ci := 7) (q := (RX7, TX7, 19)) rfl rfl rfl rfl hl.1 rfl (Nat.le_of_ble_eq_true rfl) dX7_turnOver_75 ⟨Nat.zero_le _, Nat.zero_le _⟩ (fun H locs hP hD hS => ?_)
              refine lv_iinc (v := (v_l1_L5 + 1)) (lv' := [(1, .int (v_l1_L5 + 1)), (0, .ref (a0 0))]) hx hb dX7_turnOver_78 hl (k := 1) rfl (congrArg (fun z => v_l1_L5 + z) (by decide)) (by decide) rfl (fun ls hl => ?_)
              refine lv_goto (tgt := 39) hx hb dX7_turnOver_81 (by decide) ?_
              exact ih (v_l1_L5 + 1) q11 _ hf _ _ hP hD hS _ (lv_sub hl [1, 0] rfl) kx
        refine L5 n 0 mnow q6 hq6 _ _ hP hD hS _ (lv_sub hl [1, 0] rfl) ?_
        clear hP hD hS hl
        intro H locs hP hD hS ls hl
        refine lv_aload_n hx hb dX7_turnOver_84 rfl (lv_at hl 0 rfl) ?_
        refine lv_iconst (v := 1) hx hb dX7_turnOver_85 (by decide) ?_
        obtain ⟨q12, hq12, hf⟩ := ob_some hf
        refine xcVi (w' := ((w_M a0 cI cC q6 q4.1 q4.2 mslot misFilled q12.2.1 q12.2.2.1 q12.2.2.2.1 q12.2.2.2.2.1 q12.2.2.2.2.2 mtyped mtext mat mnumber mreads mbeyond mjudgedTo mreach mgoes) ++ R)) S hK hN hA hP hD hS (c_X7_winsOf l D cI cC cS R a0 q6 q4.1 q4.2 mslot misFilled mgame mmeasures mmost mnumbers mround mtyped mtext mat mnumber mreads mbeyond mjudgedTo mreach mgoes 1 n _ hq12) gX7_turnOver_X7_winsOf rfl hd_X7_winsOf ⟨by decide, by decide⟩ (List.Perm.refl _) (List.Perm.refl _) (ci := 7) (q := (RX7, TX7, 19)) rfl rfl rfl rfl hl.1 rfl (Nat.le_of_ble_eq_true rfl) dX7_turnOver_86 ⟨Nat.zero_le _, Nat.zero_le _⟩ (fun H locs hP hD hS => ?_)
        have hf := Option.some.inj hf
        subst hf
        exact hret _ _ _ _ _ dX7_turnOver_89 rfl hP hD hS rfl
      · have hf := if_f hf c3
        refine lv_aload_n hx hb dX7_turnOver_13 rfl (lv_at hl 0 rfl) ?_
        refine lv_iload_n hx hb dX7_turnOver_14 rfl (lv_at hl 1 rfl) ?_
        refine lv_iconst (v := 1) hx hb dX7_turnOver_15 (by decide) ?_
        obtain ⟨q13, hq13, hf⟩ := ob_some hf
        refine xcVi (w' := ((w_M a0 cI cC mnow mhistory mkept mslot misFilled mgame mmeasures mmost mnumbers mround mtyped mtext mat mnumber mreads mbeyond mjudgedTo mreach mgoes) ++ R)) S hK hN hA hP hD hS (c_X7_of l D cI cC cS R a0 mnow mhistory mkept mslot misFilled mgame mmeasures mmost mnumbers mround mtyped mtext mat mnumber mreads mbeyond mjudgedTo mreach mgoes v_l1_L1 1 _ hq13) gX7_turnOver_X7_of rfl hd_X7_of ⟨by decide, by decide⟩ (List.Perm.refl _) (List.Perm.refl _) (ci := 7) (q := (RX7, TX7, 19)) rfl rfl rfl rfl hl.1 rfl (Nat.le_of_ble_eq_true rfl) dX7_turnOver_16 ⟨Nat.zero_le _, Nat.zero_le _⟩ (fun H locs hP hD hS => ?_)
        refine lv_bipush (v := 7) hx hb dX7_turnOver_19 (by decide) ?_
        refine lv_icmp_ne (tgt := 27) hx hb dX7_turnOver_21 (by decide) (fun c14 => ?_) (fun c14 => ?_)
        · have hf := if_f hf c14
          refine lv_iinc (v := (v_l1_L1 + 1)) (lv' := [(1, .int (v_l1_L1 + 1)), (0, .ref (a0 0))]) hx hb dX7_turnOver_27 hl (k := 1) rfl (congrArg (fun z => v_l1_L1 + z) (by decide)) (by decide) rfl (fun ls hl => ?_)
          refine lv_goto (tgt := 2) hx hb dX7_turnOver_30 (by decide) ?_
          exact ih (v_l1_L1 + 1) hf _ _ hP hD hS _ (lv_sub hl [1, 0] rfl)
        · have hf := if_t hf c14
          refine lv_bipush (v := (-4)) hx hb dX7_turnOver_24 (by decide) ?_
          have hf := Option.some.inj hf
          subst hf
          exact hret _ _ _ _ _ dX7_turnOver_26 rfl hP hD hS rfl
  exact L1 n 0 hf _ _ hP hD hS _ (lv_sub hl [1, 0] rfl)
def f_X7_choose (n : Nat) (mnow : (Nat → Int32)) (mhistory : (Nat → Int32)) (mkept : Int32) (p1 : Int32) (p2 : Int32) : Option (Int32 × (Nat → Int32) × (Nat → Int32) × Int32) := (f_X7_no mnow p1).bind fun q1 => (if q1 = 0 then (f_X7_in p2 0 14).bind fun q3 => (if q3 = 0 then some ((-2), mnow, mhistory, mkept) else (if 14 ≤ p2 then (f_X7_of mnow p1 3).bind fun q6 => (if q6 = p2 then some ((-5), mnow, mhistory, mkept) else (f_X7_record n mnow mhistory mkept).bind fun q8 => (f_X7_puts mnow p1 3 p2).bind fun q9 => some (q6, q9, q8.1, q8.2)) else (f_X7_hasArrow mnow p1 p2).bind fun q10 => (if q10 = 0 then some ((-4), mnow, mhistory, mkept) else (f_X7_of mnow p1 3).bind fun q12 => (if q12 = p2 then some ((-5), mnow, mhistory, mkept) else (f_X7_record n mnow mhistory mkept).bind fun q14 => (f_X7_puts mnow p1 3 p2).bind fun q15 => some (q12, q15, q14.1, q14.2))))) else some ((-1), mnow, mhistory, mkept))
theorem hd_X7_choose : yX7_choose.cls = RX7 ∧ yX7_choose.cls ≠ "java/lang/invoke/MethodHandle" ∧ yX7_choose.cls ≠ "java/lang/invoke/VarHandle" ∧ (parseMethodDescriptor yX7_choose.desc).map (fun d => d.parameters.length) = some 2 := by decide +kernel
set_option maxHeartbeats 4000000 in
set_option maxRecDepth 100000 in
theorem c_X7_choose (l : Launch) (D : va_G) (cI cC cS : ClassId) (R : va_W) (a0 : Nat → Nat) (mnow : (Nat → Int32)) (mhistory : (Nat → Int32)) (mkept : Int32) (mslot : (Nat → Int32)) (misFilled : Int32) (mgame : Int32) (mmeasures : (Nat → Int32)) (mmost : (Nat → Int32)) (mnumbers : (Nat → Int32)) (mround : Int32) (mtyped : Int32) (mtext : (Nat → Int32)) (mat : Int32) (mnumber : Int32) (mreads : (Nat → Int32)) (mbeyond : Int32) (mjudgedTo : (Nat → Int32)) (mreach : (Nat → Int32)) (mgoes : (Nat → Int32)) (p1 : Int32) (p2 : Int32) (n : Nat) (r : Int32 × (Nat → Int32) × (Nat → Int32) × Int32) (hf : f_X7_choose n mnow mhistory mkept p1 p2 = some r) : CI l yX7_choose wsX7_choose 2 44 D cI cC cS [.ref (a0 0), .int p1, .int p2] ((w_M a0 cI cC mnow mhistory mkept mslot misFilled mgame mmeasures mmost mnumbers mround mtyped mtext mat mnumber mreads mbeyond mjudgedTo mreach mgoes) ++ R) r.1 ((w_M a0 cI cC r.2.1 r.2.2.1 r.2.2.2 mslot misFilled mgame mmeasures mmost mnumbers mround mtyped mtext mat mnumber mreads mbeyond mjudgedTo mreach mgoes) ++ R) := by
  refine XI.of (cc := cX7_choose) (maxL := 4) (ty := .int) (own := RX7) (by decide) rfl rfl (Nat.le_of_ble_eq_true rfl) ?_
  intro p e s m args below meth c A Q S hK hN hA hP hD hS ls hl hret
  obtain ⟨hx, hb, hml, hown, hts⟩ := id S
  have hl : lv_has ls 4 [(0, .ref (a0 0)), (1, .int p1), (2, .int p2)] := hl
  unfold f_X7_choose at hf
  refine lv_aload_n hx hb dX7_choose_0 rfl (lv_at hl 0 rfl) ?_
  refine lv_iload_n hx hb dX7_choose_1 rfl (lv_at hl 1 rfl) ?_
  obtain ⟨q1, hq1, hf⟩ := ob_some hf
  refine xcVi (w' := ((w_M a0 cI cC mnow mhistory mkept mslot misFilled mgame mmeasures mmost mnumbers mround mtyped mtext mat mnumber mreads mbeyond mjudgedTo mreach mgoes) ++ R)) S hK hN hA hP hD hS (c_X7_no l D cI cC cS R a0 mnow mhistory mkept mslot misFilled mgame mmeasures mmost mnumbers mround mtyped mtext mat mnumber mreads mbeyond mjudgedTo mreach mgoes p1 _ hq1) gX7_choose_X7_no rfl hd_X7_no ⟨by decide, by decide⟩ (List.Perm.refl _) (List.Perm.refl _) (ci := 7) (q := (RX7, TX7, 19)) rfl rfl rfl rfl hl.1 rfl (Nat.le_of_ble_eq_true rfl) dX7_choose_2 ⟨Nat.zero_le _, Nat.zero_le _⟩ (fun H locs hP hD hS => ?_)
  refine lv_if_eq (tgt := 10) hx hb dX7_choose_5 (by decide) (fun c2 => ?_) (fun c2 => ?_)
  · have hf := if_t hf c2
    refine lv_iload_n hx hb dX7_choose_10 rfl (lv_at hl 2 rfl) ?_
    refine lv_iconst (v := 0) hx hb dX7_choose_11 (by decide) ?_
    refine lv_bipush (v := 14) hx hb dX7_choose_12 (by decide) ?_
    obtain ⟨q3, hq3, hf⟩ := ob_some hf
    refine xcSi S hK hN hA hP hD hS (c_X7_in l D cI cC cS ((w_M a0 cI cC mnow mhistory mkept mslot misFilled mgame mmeasures mmost mnumbers mround mtyped mtext mat mnumber mreads mbeyond mjudgedTo mreach mgoes) ++ R) p2 0 14 _ hq3) gX7_choose_X7_in rfl hd_X7_in ⟨by decide, by decide⟩ rfl hl.1 rfl (Nat.le_of_ble_eq_true rfl) dX7_choose_14 ⟨Nat.zero_le _, Nat.zero_le _⟩ (fun H locs hP hD hS => ?_)
    refine lv_if_ne (tgt := 23) hx hb dX7_choose_17 (by decide) (fun c4 => ?_) (fun c4 => ?_)
    · have hf := if_f hf c4
      refine lv_iload_n hx hb dX7_choose_23 rfl (lv_at hl 2 rfl) ?_
      refine lv_bipush (v := 14) hx hb dX7_choose_24 (by decide) ?_
      refine lv_icmp_ge (tgt := 41) hx hb dX7_choose_26 (by decide) (fun c5 => ?_) (fun c5 => ?_)
      · have hf := if_t hf c5
        refine lv_aload_n hx hb dX7_choose_41 rfl (lv_at hl 0 rfl) ?_
        refine lv_iload_n hx hb dX7_choose_42 rfl (lv_at hl 1 rfl) ?_
        refine lv_iconst (v := 3) hx hb dX7_choose_43 (by decide) ?_
        obtain ⟨q6, hq6, hf⟩ := ob_some hf
        refine xcVi (w' := ((w_M a0 cI cC mnow mhistory mkept mslot misFilled mgame mmeasures mmost mnumbers mround mtyped mtext mat mnumber mreads mbeyond mjudgedTo mreach mgoes) ++ R)) S hK hN hA hP hD hS (c_X7_of l D cI cC cS R a0 mnow mhistory mkept mslot misFilled mgame mmeasures mmost mnumbers mround mtyped mtext mat mnumber mreads mbeyond mjudgedTo mreach mgoes p1 3 _ hq6) gX7_choose_X7_of rfl hd_X7_of ⟨by decide, by decide⟩ (List.Perm.refl _) (List.Perm.refl _) (ci := 7) (q := (RX7, TX7, 19)) rfl rfl rfl rfl hl.1 rfl (Nat.le_of_ble_eq_true rfl) dX7_choose_44 ⟨Nat.zero_le _, Nat.zero_le _⟩ (fun H locs hP hD hS => ?_)
        refine lv_istore_n (lv' := [(3, .int q6), (0, .ref (a0 0)), (1, .int p1), (2, .int p2)]) hx hb dX7_choose_47 rfl hl (by decide) rfl (fun ls hl => ?_)
        refine lv_iload_n hx hb dX7_choose_48 rfl (lv_at hl 0 rfl) ?_
        refine lv_iload_n hx hb dX7_choose_49 rfl (lv_at hl 3 rfl) ?_
        refine lv_icmp_ne (tgt := 56) hx hb dX7_choose_50 (by decide) (fun c7 => ?_) (fun c7 => ?_)
        · have hf := if_f hf c7
          refine lv_aload_n hx hb dX7_choose_56 rfl (lv_at hl 1 rfl) ?_
          obtain ⟨q8, hq8, hf⟩ := ob_some hf
          refine xcVv (w' := ((w_M a0 cI cC mnow q8.1 q8.2 mslot misFilled mgame mmeasures mmost mnumbers mround mtyped mtext mat mnumber mreads mbeyond mjudgedTo mreach mgoes) ++ R)) S hK hN hA hP hD hS (c_X7_record l D cI cC cS R a0 mnow mhistory mkept mslot misFilled mgame mmeasures mmost mnumbers mround mtyped mtext mat mnumber mreads mbeyond mjudgedTo mreach mgoes n _ hq8) gX7_choose_X7_record rfl hd_X7_record ⟨by decide, by decide⟩ (List.Perm.refl _) (List.Perm.refl _) (ci := 7) (q := (RX7, TX7, 19)) rfl rfl rfl rfl hl.1 rfl (Nat.le_of_ble_eq_true rfl) dX7_choose_57 ⟨Nat.zero_le _, Nat.zero_le _⟩ (fun H locs hP hD hS => ?_)
          refine lv_aload_n hx hb dX7_choose_60 rfl (lv_at hl 1 rfl) ?_
          refine lv_iload_n hx hb dX7_choose_61 rfl (lv_at hl 2 rfl) ?_
          refine lv_iconst (v := 3) hx hb dX7_choose_62 (by decide) ?_
          refine lv_iload_n hx hb dX7_choose_63 rfl (lv_at hl 3 rfl) ?_
          obtain ⟨q9, hq9, hf⟩ := ob_some hf
          refine xcVv (w' := ((w_M a0 cI cC q9 q8.1 q8.2 mslot misFilled mgame mmeasures mmost mnumbers mround mtyped mtext mat mnumber mreads mbeyond mjudgedTo mreach mgoes) ++ R)) S hK hN hA hP hD hS (c_X7_puts l D cI cC cS R a0 mnow q8.1 q8.2 mslot misFilled mgame mmeasures mmost mnumbers mround mtyped mtext mat mnumber mreads mbeyond mjudgedTo mreach mgoes p1 3 p2 _ hq9) gX7_choose_X7_puts rfl hd_X7_puts ⟨by decide, by decide⟩ (List.Perm.refl _) (List.Perm.refl _) (ci := 7) (q := (RX7, TX7, 19)) rfl rfl rfl rfl hl.1 rfl (Nat.le_of_ble_eq_true rfl) dX7_choose_64 ⟨Nat.zero_le _, Nat.zero_le _⟩ (fun H locs hP hD hS => ?_)
          refine lv_iload_n hx hb dX7_choose_67 rfl (lv_at hl 0 rfl) ?_
          have hf := Option.some.inj hf
          subst hf
          exact hret _ _ _ _ _ dX7_choose_68 rfl hP hD hS rfl
        · have hf := if_t hf c7
          refine lv_bipush (v := (-5)) hx hb dX7_choose_53 (by decide) ?_
          have hf := Option.some.inj hf
          subst hf
          exact hret _ _ _ _ _ dX7_choose_55 rfl hP hD hS rfl
      · have hf := if_f hf c5
        refine lv_aload_n hx hb dX7_choose_29 rfl (lv_at hl 0 rfl) ?_
        refine lv_iload_n hx hb dX7_choose_30 rfl (lv_at hl 1 rfl) ?_
        refine lv_iload_n hx hb dX7_choose_31 rfl (lv_at hl 2 rfl) ?_
        obtain ⟨q10, hq10, hf⟩ := ob_some hf
        refine xcVi (w' := ((w_M a0 cI cC mnow mhistory mkept mslot misFilled mgame mmeasures mmost mnumbers mround mtyped mtext mat mnumber mreads mbeyond mjudgedTo mreach mgoes) ++ R)) S hK hN hA hP hD hS (c_X7_hasArrow l D cI cC cS R a0 mnow mhistory mkept mslot misFilled mgame mmeasures mmost mnumbers mround mtyped mtext mat mnumber mreads mbeyond mjudgedTo mreach mgoes p1 p2 _ hq10) gX7_choose_X7_hasArrow rfl hd_X7_hasArrow ⟨by decide, by decide⟩ (List.Perm.refl _) (List.Perm.refl _) (ci := 7) (q := (RX7, TX7, 19)) rfl rfl rfl rfl hl.1 rfl (Nat.le_of_ble_eq_true rfl) dX7_choose_32 ⟨Nat.zero_le _, Nat.zero_le _⟩ (fun H locs hP hD hS => ?_)
        refine lv_if_ne (tgt := 41) hx hb dX7_choose_35 (by decide) (fun c11 => ?_) (fun c11 => ?_)
        · have hf := if_f hf c11
          refine lv_aload_n hx hb dX7_choose_41 rfl (lv_at hl 0 rfl) ?_
          refine lv_iload_n hx hb dX7_choose_42 rfl (lv_at hl 1 rfl) ?_
          refine lv_iconst (v := 3) hx hb dX7_choose_43 (by decide) ?_
          obtain ⟨q12, hq12, hf⟩ := ob_some hf
          refine xcVi (w' := ((w_M a0 cI cC mnow mhistory mkept mslot misFilled mgame mmeasures mmost mnumbers mround mtyped mtext mat mnumber mreads mbeyond mjudgedTo mreach mgoes) ++ R)) S hK hN hA hP hD hS (c_X7_of l D cI cC cS R a0 mnow mhistory mkept mslot misFilled mgame mmeasures mmost mnumbers mround mtyped mtext mat mnumber mreads mbeyond mjudgedTo mreach mgoes p1 3 _ hq12) gX7_choose_X7_of rfl hd_X7_of ⟨by decide, by decide⟩ (List.Perm.refl _) (List.Perm.refl _) (ci := 7) (q := (RX7, TX7, 19)) rfl rfl rfl rfl hl.1 rfl (Nat.le_of_ble_eq_true rfl) dX7_choose_44 ⟨Nat.zero_le _, Nat.zero_le _⟩ (fun H locs hP hD hS => ?_)
          refine lv_istore_n (lv' := [(3, .int q12), (0, .ref (a0 0)), (1, .int p1), (2, .int p2)]) hx hb dX7_choose_47 rfl hl (by decide) rfl (fun ls hl => ?_)
          refine lv_iload_n hx hb dX7_choose_48 rfl (lv_at hl 0 rfl) ?_
          refine lv_iload_n hx hb dX7_choose_49 rfl (lv_at hl 3 rfl) ?_
          refine lv_icmp_ne (tgt := 56) hx hb dX7_choose_50 (by decide) (fun c13 => ?_) (fun c13 => ?_)
          · have hf := if_f hf c13
            refine lv_aload_n hx hb dX7_choose_56 rfl (lv_at hl 1 rfl) ?_
            obtain ⟨q14, hq14, hf⟩ := ob_some hf
            refine xcVv (w' := ((w_M a0 cI cC mnow q14.1 q14.2 mslot misFilled mgame mmeasures mmost mnumbers mround mtyped mtext mat mnumber mreads mbeyond mjudgedTo mreach mgoes) ++ R)) S hK hN hA hP hD hS (c_X7_record l D cI cC cS R a0 mnow mhistory mkept mslot misFilled mgame mmeasures mmost mnumbers mround mtyped mtext mat mnumber mreads mbeyond mjudgedTo mreach mgoes n _ hq14) gX7_choose_X7_record rfl hd_X7_record ⟨by decide, by decide⟩ (List.Perm.refl _) (List.Perm.refl _) (ci := 7) (q := (RX7, TX7, 19)) rfl rfl rfl rfl hl.1 rfl (Nat.le_of_ble_eq_true rfl) dX7_choose_57 ⟨Nat.zero_le _, Nat.zero_le _⟩ (fun H locs hP hD hS => ?_)
            refine lv_aload_n hx hb dX7_choose_60 rfl (lv_at hl 1 rfl) ?_
            refine lv_iload_n hx hb dX7_choose_61 rfl (lv_at hl 2 rfl) ?_
            refine lv_iconst (v := 3) hx hb dX7_choose_62 (by decide) ?_
            refine lv_iload_n hx hb dX7_choose_63 rfl (lv_at hl 3 rfl) ?_
            obtain ⟨q15, hq15, hf⟩ := ob_some hf
            refine xcVv (w' := ((w_M a0 cI cC q15 q14.1 q14.2 mslot misFilled mgame mmeasures mmost mnumbers mround mtyped mtext mat mnumber mreads mbeyond mjudgedTo mreach mgoes) ++ R)) S hK hN hA hP hD hS (c_X7_puts l D cI cC cS R a0 mnow q14.1 q14.2 mslot misFilled mgame mmeasures mmost mnumbers mround mtyped mtext mat mnumber mreads mbeyond mjudgedTo mreach mgoes p1 3 p2 _ hq15) gX7_choose_X7_puts rfl hd_X7_puts ⟨by decide, by decide⟩ (List.Perm.refl _) (List.Perm.refl _) (ci := 7) (q := (RX7, TX7, 19)) rfl rfl rfl rfl hl.1 rfl (Nat.le_of_ble_eq_true rfl) dX7_choose_64 ⟨Nat.zero_le _, Nat.zero_le _⟩ (fun H locs hP hD hS => ?_)
            refine lv_iload_n hx hb dX7_choose_67 rfl (lv_at hl 0 rfl) ?_
            have hf := Option.some.inj hf
            subst hf
            exact hret _ _ _ _ _ dX7_choose_68 rfl hP hD hS rfl
          · have hf := if_t hf c13
            refine lv_bipush (v := (-5)) hx hb dX7_choose_53 (by decide) ?_
            have hf := Option.some.inj hf
            subst hf
            exact hret _ _ _ _ _ dX7_choose_55 rfl hP hD hS rfl
        · have hf := if_t hf c11
          refine lv_bipush (v := (-4)) hx hb dX7_choose_38 (by decide) ?_
          have hf := Option.some.inj hf
          subst hf
          exact hret _ _ _ _ _ dX7_choose_40 rfl hP hD hS rfl
    · have hf := if_t hf c4
      refine lv_bipush (v := (-2)) hx hb dX7_choose_20 (by decide) ?_
      have hf := Option.some.inj hf
      subst hf
      exact hret _ _ _ _ _ dX7_choose_22 rfl hP hD hS rfl
  · have hf := if_f hf c2
    refine lv_iconst (v := (-1)) hx hb dX7_choose_8 (by decide) ?_
    have hf := Option.some.inj hf
    subst hf
    exact hret _ _ _ _ _ dX7_choose_9 rfl hP hD hS rfl
def f_X7_chooseWell_L22 (n : Nat) (d_mgame : Int32) (d_mmeasures : (Nat → Int32)) (d_mmost : (Nat → Int32)) (d_l1 : Int32) : Nat → Int32 → Int32 → (Nat → Int32) → (Nat → Int32) → Option (Int32 × (Nat → Int32) × (Nat → Int32))
  | 0, _, _, _, _ => none
  | k + 1, d_l2, d_l3, d_mnow, d_mnumbers => (if (d_mnow 56) ≤ d_l3 then some (d_l2, d_mnow, d_mnumbers) else (f_X7_of d_mnow d_l3 0).bind fun q6 => (if q6 = d_l1 then (f_X7_choiceAt n d_mnow d_mgame d_mmeasures d_mmost d_mnumbers d_l3).bind fun q8 => ((if q8.1 = (-5) then some (14) else some (q8.1)) : Option Int32).bind fun j10 => (f_X7_puts d_mnow d_l3 3 j10).bind fun q12 => (if q8.1 = (-5) then f_X7_chooseWell_L22 n d_mgame d_mmeasures d_mmost d_l1 k (d_l2 + 0) (d_l3 + 1) q12 q8.2 else f_X7_chooseWell_L22 n d_mgame d_mmeasures d_mmost d_l1 k (d_l2 + 1) (d_l3 + 1) q12 q8.2) else f_X7_chooseWell_L22 n d_mgame d_mmeasures d_mmost d_l1 k d_l2 (d_l3 + 1) d_mnow d_mnumbers))
def f_X7_chooseWell (n : Nat) (mnow : (Nat → Int32)) (mhistory : (Nat → Int32)) (mkept : Int32) (mgame : Int32) (mmeasures : (Nat → Int32)) (mmost : (Nat → Int32)) (mnumbers : (Nat → Int32)) (mround : Int32) (p1 : Int32) : Option (Int32 × (Nat → Int32) × (Nat → Int32) × Int32 × Int32 × (Nat → Int32) × (Nat → Int32) × (Nat → Int32) × Int32) := (f_X7_noPlayer p1).bind fun q1 => (if q1 = 0 then (f_X7_record n mnow mhistory mkept).bind fun q3 => (f_X7_finds n mnow mmeasures mmost mnumbers p1).bind fun q4 => (f_X7_chooseWell_L22 n q4.1 q4.2.1 q4.2.2.1 p1 n 0 0 mnow q4.2.2.2.1).bind fun q6 => some (q6.1, q6.2.1, q3.1, q3.2, q4.1, q4.2.1, q4.2.2.1, q6.2.2, q4.2.2.2.2) else some ((-1), mnow, mhistory, mkept, mgame, mmeasures, mmost, mnumbers, mround))
theorem inw_X7_chooseWell_7 : ∀ w ∈ wsX70, w ∈ wsX7_chooseWell := fun _ h => List.mem_cons_of_mem _ (List.mem_append_right _ h)
theorem hd_X7_chooseWell : yX7_chooseWell.cls = RX7 ∧ yX7_chooseWell.cls ≠ "java/lang/invoke/MethodHandle" ∧ yX7_chooseWell.cls ≠ "java/lang/invoke/VarHandle" ∧ (parseMethodDescriptor yX7_chooseWell.desc).map (fun d => d.parameters.length) = some 1 := by decide +kernel
set_option maxHeartbeats 4000000 in
set_option maxRecDepth 100000 in
theorem c_X7_chooseWell (l : Launch) (D : va_G) (cI cC cS : ClassId) (R : va_W) (a0 : Nat → Nat) (mnow : (Nat → Int32)) (mhistory : (Nat → Int32)) (mkept : Int32) (mslot : (Nat → Int32)) (misFilled : Int32) (mgame : Int32) (mmeasures : (Nat → Int32)) (mmost : (Nat → Int32)) (mnumbers : (Nat → Int32)) (mround : Int32) (mtyped : Int32) (mtext : (Nat → Int32)) (mat : Int32) (mnumber : Int32) (mreads : (Nat → Int32)) (mbeyond : Int32) (mjudgedTo : (Nat → Int32)) (mreach : (Nat → Int32)) (mgoes : (Nat → Int32)) (p1 : Int32) (n : Nat) (r : Int32 × (Nat → Int32) × (Nat → Int32) × Int32 × Int32 × (Nat → Int32) × (Nat → Int32) × (Nat → Int32) × Int32) (hf : f_X7_chooseWell n mnow mhistory mkept mgame mmeasures mmost mnumbers mround p1 = some r) : CI l yX7_chooseWell wsX7_chooseWell 4 94 D cI cC cS [.ref (a0 0), .int p1] ((w_M a0 cI cC mnow mhistory mkept mslot misFilled mgame mmeasures mmost mnumbers mround mtyped mtext mat mnumber mreads mbeyond mjudgedTo mreach mgoes) ++ R) r.1 ((w_M a0 cI cC r.2.1 r.2.2.1 r.2.2.2.1 mslot misFilled r.2.2.2.2.1 r.2.2.2.2.2.1 r.2.2.2.2.2.2.1 r.2.2.2.2.2.2.2.1 r.2.2.2.2.2.2.2.2 mtyped mtext mat mnumber mreads mbeyond mjudgedTo mreach mgoes) ++ R) := by
  refine XI.of (cc := cX7_chooseWell) (maxL := 5) (ty := .int) (own := RX7) (by decide) rfl rfl (Nat.le_of_ble_eq_true rfl) ?_
  intro p e s m args below meth c A Q S hK hN hA hP hD hS ls hl hret
  obtain ⟨hx, hb, hml, hown, hts⟩ := id S
  have hl : lv_has ls 5 [(0, .ref (a0 0)), (1, .int p1)] := hl
  unfold f_X7_chooseWell at hf
  refine lv_iload_n hx hb dX7_chooseWell_0 rfl (lv_at hl 1 rfl) ?_
  obtain ⟨q1, hq1, hf⟩ := ob_some hf
  refine xcSi S hK hN hA hP hD hS (c_X7_noPlayer l D cI cC cS ((w_M a0 cI cC mnow mhistory mkept mslot misFilled mgame mmeasures mmost mnumbers mround mtyped mtext mat mnumber mreads mbeyond mjudgedTo mreach mgoes) ++ R) p1 _ hq1) gX7_chooseWell_X7_noPlayer rfl hd_X7_noPlayer ⟨by decide, by decide⟩ rfl hl.1 rfl (Nat.le_of_ble_eq_true rfl) dX7_chooseWell_1 ⟨Nat.zero_le _, Nat.zero_le _⟩ (fun H locs hP hD hS => ?_)
  refine lv_if_eq (tgt := 9) hx hb dX7_chooseWell_4 (by decide) (fun c2 => ?_) (fun c2 => ?_)
  · have hf := if_t hf c2
    refine lv_aload_n hx hb dX7_chooseWell_9 rfl (lv_at hl 0 rfl) ?_
    obtain ⟨q3, hq3, hf⟩ := ob_some hf
    refine xcVv (w' := ((w_M a0 cI cC mnow q3.1 q3.2 mslot misFilled mgame mmeasures mmost mnumbers mround mtyped mtext mat mnumber mreads mbeyond mjudgedTo mreach mgoes) ++ R)) S hK hN hA hP hD hS (c_X7_record l D cI cC cS R a0 mnow mhistory mkept mslot misFilled mgame mmeasures mmost mnumbers mround mtyped mtext mat mnumber mreads mbeyond mjudgedTo mreach mgoes n _ hq3) gX7_chooseWell_X7_record rfl hd_X7_record ⟨by decide, by decide⟩ (List.Perm.refl _) (List.Perm.refl _) (ci := 7) (q := (RX7, TX7, 19)) rfl rfl rfl rfl hl.1 rfl (Nat.le_of_ble_eq_true rfl) dX7_chooseWell_10 ⟨Nat.zero_le _, Nat.zero_le _⟩ (fun H locs hP hD hS => ?_)
    refine lv_aload_n hx hb dX7_chooseWell_13 rfl (lv_at hl 0 rfl) ?_
    refine lv_iload_n hx hb dX7_chooseWell_14 rfl (lv_at hl 1 rfl) ?_
    obtain ⟨q4, hq4, hf⟩ := ob_some hf
    refine xcVv (w' := ((w_M a0 cI cC mnow q3.1 q3.2 mslot misFilled q4.1 q4.2.1 q4.2.2.1 q4.2.2.2.1 q4.2.2.2.2 mtyped mtext mat mnumber mreads mbeyond mjudgedTo mreach mgoes) ++ R)) S hK hN hA hP hD hS (c_X7_finds l D cI cC cS R a0 mnow q3.1 q3.2 mslot misFilled mgame mmeasures mmost mnumbers mround mtyped mtext mat mnumber mreads mbeyond mjudgedTo mreach mgoes p1 n _ hq4) gX7_chooseWell_X7_finds rfl hd_X7_finds ⟨by decide, by decide⟩ (List.Perm.refl _) (List.Perm.refl _) (ci := 7) (q := (RX7, TX7, 19)) rfl rfl rfl rfl hl.1 rfl (Nat.le_of_ble_eq_true rfl) dX7_chooseWell_15 ⟨Nat.zero_le _, Nat.zero_le _⟩ (fun H locs hP hD hS => ?_)
    refine lv_iconst (v := 0) hx hb dX7_chooseWell_18 (by decide) ?_
    refine lv_istore_n (lv' := [(2, .int 0), (0, .ref (a0 0)), (1, .int p1)]) hx hb dX7_chooseWell_19 rfl hl (by decide) rfl (fun ls hl => ?_)
    refine lv_iconst (v := 0) hx hb dX7_chooseWell_20 (by decide) ?_
    refine lv_istore_n (lv' := [(3, .int 0), (2, .int 0), (0, .ref (a0 0)), (1, .int p1)]) hx hb dX7_chooseWell_21 rfl hl (by decide) rfl (fun ls hl => ?_)
    obtain ⟨q6, hq6, hf⟩ := ob_some hf
    have L5 : ∀ (k : Nat) (v_l2_L5 : Int32) (v_l3_L5 : Int32) (v_mnow_L5 : (Nat → Int32)) (v_mnumbers_L5 : (Nat → Int32)) (q_L5 : Int32 × (Nat → Int32) × (Nat → Int32)), f_X7_chooseWell_L22 n q4.1 q4.2.1 q4.2.2.1 p1 k v_l2_L5 v_l3_L5 v_mnow_L5 v_mnumbers_L5 = some q_L5 → ∀ (H : Heap) (locs : List Loc), va_P D vwCl ((w_M a0 cI cC v_mnow_L5 q3.1 q3.2 mslot misFilled q4.1 q4.2.1 q4.2.2.1 v_mnumbers_L5 q4.2.2.2.2 mtyped mtext mat mnumber mreads mbeyond mjudgedTo mreach mgoes) ++ R) H → va_D A ((w_M a0 cI cC v_mnow_L5 q3.1 q3.2 mslot misFilled q4.1 q4.2.1 q4.2.2.1 v_mnumbers_L5 q4.2.2.2.2 mtyped mtext mat mnumber mreads mbeyond mjudgedTo mreach mgoes) ++ R) → va_S A s.heap H locs → ∀ ls : Array Slot, lv_has ls 5 [(0, .ref (a0 0)), (1, .int p1), (2, .int v_l2_L5), (3, .int v_l3_L5)] → (∀ (H : Heap) (locs : List Loc), va_P D vwCl ((w_M a0 cI cC q_L5.2.1 q3.1 q3.2 mslot misFilled q4.1 q4.2.1 q4.2.2.1 q_L5.2.2 q4.2.2.2.2 mtyped mtext mat mnumber mreads mbeyond mjudgedTo mreach mgoes) ++ R) H → va_D A ((w_M a0 cI cC q_L5.2.1 q3.1 q3.2 mslot misFilled q4.1 q4.2.1 q4.2.2.1 q_L5.2.2 q4.2.2.2.2 mtyped mtext mat mnumber mreads mbeyond mjudgedTo mreach mgoes) ++ R) → va_S A s.heap H locs → ∀ ls : Array Slot, lv_has ls 5 [(2, .int q_L5.1)] → W p l e (xR 4 94) s m args below meth c H locs 0 0 Q (F0 m 91 ls [])) → W p l e (xR 4 94) s m args below meth c H locs 0 0 Q (F0 m 22 ls []) := by
      intro k
      induction k with
      | zero => intro v_l2_L5 v_l3_L5 v_mnow_L5 v_mnumbers_L5 q_L5 hf; simp [f_X7_chooseWell_L22] at hf
      | succ k ih =>
        intro v_l2_L5 v_l3_L5 v_mnow_L5 v_mnumbers_L5 q_L5 hf H locs hP hD hS ls hl kx
        rw [f_X7_chooseWell_L22] at hf
        refine lv_iload_n hx hb dX7_chooseWell_22 rfl (lv_at hl 3 rfl) ?_
        refine lv_aload_n hx hb dX7_chooseWell_23 rfl (lv_at hl 0 rfl) ?_
        refine va_get (D := D) (ci := 7) (v := .ref (a0 1)) (C := RX7) (T := TX7) (N := 19) hx hb hts inw_X7_chooseWell_7 hown hK hP 0 rfl rfl 0 (by decide) (hts (.fieldLink RX7 7 "RingGamesModel" "now" "[I") (List.mem_of_getElem? (i := 1) rfl)) (fun _ h9 => h9) rfl dX7_chooseWell_24 ?_
        refine lv_bipush (v := 56) hx hb dX7_chooseWell_27 (by decide) ?_
        refine va_iald hx hb hK hP 1 0 rfl rfl (x_in (by decide)) dX7_chooseWell_29 ?_
        refine lv_icmp_ge (tgt := 91) hx hb dX7_chooseWell_30 (by decide) (fun c7 => ?_) (fun c7 => ?_)
        · have hf := if_t hf c7
          have hf := Option.some.inj hf
          subst hf
          exact kx _ _ hP hD hS _ (lv_sub hl [2] rfl)
        · have hf := if_f hf c7
          refine lv_aload_n hx hb dX7_chooseWell_33 rfl (lv_at hl 0 rfl) ?_
          refine lv_iload_n hx hb dX7_chooseWell_34 rfl (lv_at hl 3 rfl) ?_
          refine lv_iconst (v := 0) hx hb dX7_chooseWell_35 (by decide) ?_
          obtain ⟨q8, hq8, hf⟩ := ob_some hf
          refine xcVi (w' := ((w_M a0 cI cC v_mnow_L5 q3.1 q3.2 mslot misFilled q4.1 q4.2.1 q4.2.2.1 v_mnumbers_L5 q4.2.2.2.2 mtyped mtext mat mnumber mreads mbeyond mjudgedTo mreach mgoes) ++ R)) S hK hN hA hP hD hS (c_X7_of l D cI cC cS R a0 v_mnow_L5 q3.1 q3.2 mslot misFilled q4.1 q4.2.1 q4.2.2.1 v_mnumbers_L5 q4.2.2.2.2 mtyped mtext mat mnumber mreads mbeyond mjudgedTo mreach mgoes v_l3_L5 0 _ hq8) gX7_chooseWell_X7_of rfl hd_X7_of ⟨by decide, by decide⟩ (List.Perm.refl _) (List.Perm.refl _) (ci := 7) (q := (RX7, TX7, 19)) rfl rfl rfl rfl hl.1 rfl (Nat.le_of_ble_eq_true rfl) dX7_chooseWell_36 ⟨Nat.zero_le _, Nat.zero_le _⟩ (fun H locs hP hD hS => ?_)
          refine lv_iload_n hx hb dX7_chooseWell_39 rfl (lv_at hl 1 rfl) ?_
          refine lv_icmp_ne (tgt := 85) hx hb dX7_chooseWell_40 (by decide) (fun c9 => ?_) (fun c9 => ?_)
          · have hf := if_f hf c9
            refine lv_iinc (v := (v_l3_L5 + 1)) (lv' := [(3, .int (v_l3_L5 + 1)), (0, .ref (a0 0)), (1, .int p1), (2, .int v_l2_L5)]) hx hb dX7_chooseWell_85 hl (k := 3) rfl (congrArg (fun z => v_l3_L5 + z) (by decide)) (by decide) rfl (fun ls hl => ?_)
            refine lv_goto (tgt := 22) hx hb dX7_chooseWell_88 (by decide) ?_
            exact ih v_l2_L5 (v_l3_L5 + 1) v_mnow_L5 v_mnumbers_L5 _ hf _ _ hP hD hS _ (lv_sub hl [1, 2, 3, 0] rfl) kx
          · have hf := if_t hf c9
            refine lv_aload_n hx hb dX7_chooseWell_43 rfl (lv_at hl 0 rfl) ?_
            refine lv_iload_n hx hb dX7_chooseWell_44 rfl (lv_at hl 3 rfl) ?_
            obtain ⟨q10, hq10, hf⟩ := ob_some hf
            refine xcVi (w' := ((w_M a0 cI cC v_mnow_L5 q3.1 q3.2 mslot misFilled q4.1 q4.2.1 q4.2.2.1 q10.2 q4.2.2.2.2 mtyped mtext mat mnumber mreads mbeyond mjudgedTo mreach mgoes) ++ R)) S hK hN hA hP hD hS (c_X7_choiceAt l D cI cC cS R a0 v_mnow_L5 q3.1 q3.2 mslot misFilled q4.1 q4.2.1 q4.2.2.1 v_mnumbers_L5 q4.2.2.2.2 mtyped mtext mat mnumber mreads mbeyond mjudgedTo mreach mgoes v_l3_L5 n _ hq10) gX7_chooseWell_X7_choiceAt rfl hd_X7_choiceAt ⟨by decide, by decide⟩ (List.Perm.refl _) (List.Perm.refl _) (ci := 7) (q := (RX7, TX7, 19)) rfl rfl rfl rfl hl.1 rfl (Nat.le_of_ble_eq_true rfl) dX7_chooseWell_45 ⟨Nat.zero_le _, Nat.zero_le _⟩ (fun H locs hP hD hS => ?_)
            refine lv_istore (lv' := [(4, .int q10.1), (0, .ref (a0 0)), (1, .int p1), (2, .int v_l2_L5), (3, .int v_l3_L5)]) hx hb dX7_chooseWell_48 hl (by decide) rfl (fun ls hl => ?_)
            refine lv_aload_n hx hb dX7_chooseWell_50 rfl (lv_at hl 1 rfl) ?_
            refine lv_iload_n hx hb dX7_chooseWell_51 rfl (lv_at hl 4 rfl) ?_
            refine lv_iconst (v := 3) hx hb dX7_chooseWell_52 (by decide) ?_
            refine lv_iload hx hb dX7_chooseWell_53 (lv_at hl 0 rfl) ?_
            refine lv_bipush (v := (-5)) hx hb dX7_chooseWell_55 (by decide) ?_
            obtain ⟨j12, hj12, hf⟩ := ob_some hf
            have J13 : ∀ (H : Heap) (locs : List Loc), va_P D vwCl ((w_M a0 cI cC v_mnow_L5 q3.1 q3.2 mslot misFilled q4.1 q4.2.1 q4.2.2.1 q10.2 q4.2.2.2.2 mtyped mtext mat mnumber mreads mbeyond mjudgedTo mreach mgoes) ++ R) H → va_D A ((w_M a0 cI cC v_mnow_L5 q3.1 q3.2 mslot misFilled q4.1 q4.2.1 q4.2.2.1 q10.2 q4.2.2.2.2 mtyped mtext mat mnumber mreads mbeyond mjudgedTo mreach mgoes) ++ R) → va_S A s.heap H locs → ∀ ls : Array Slot, lv_has ls 5 [(0, .ref (a0 0)), (1, .int p1), (2, .int v_l2_L5), (3, .int v_l3_L5), (4, .int q10.1)] → W p l e (xR 4 94) s m args below meth c H locs 0 0 Q (F0 m 67 ls [.int j12, .int 3, .int v_l3_L5, .ref (a0 0)]) := by
              intro H locs hP hD hS ls hl
              obtain ⟨q14, hq14, hf⟩ := ob_some hf
              refine xcVv (w' := ((w_M a0 cI cC q14 q3.1 q3.2 mslot misFilled q4.1 q4.2.1 q4.2.2.1 q10.2 q4.2.2.2.2 mtyped mtext mat mnumber mreads mbeyond mjudgedTo mreach mgoes) ++ R)) S hK hN hA hP hD hS (c_X7_puts l D cI cC cS R a0 v_mnow_L5 q3.1 q3.2 mslot misFilled q4.1 q4.2.1 q4.2.2.1 q10.2 q4.2.2.2.2 mtyped mtext mat mnumber mreads mbeyond mjudgedTo mreach mgoes v_l3_L5 3 j12 _ hq14) gX7_chooseWell_X7_puts rfl hd_X7_puts ⟨by decide, by decide⟩ (List.Perm.refl _) (List.Perm.refl _) (ci := 7) (q := (RX7, TX7, 19)) rfl rfl rfl rfl hl.1 rfl (Nat.le_of_ble_eq_true rfl) dX7_chooseWell_67 ⟨Nat.zero_le _, Nat.zero_le _⟩ (fun H locs hP hD hS => ?_)
              refine lv_iload_n hx hb dX7_chooseWell_70 rfl (lv_at hl 2 rfl) ?_
              refine lv_iload hx hb dX7_chooseWell_71 (lv_at hl 4 rfl) ?_
              refine lv_bipush (v := (-5)) hx hb dX7_chooseWell_73 (by decide) ?_
              refine lv_icmp_ne (tgt := 82) hx hb dX7_chooseWell_75 (by decide) (fun c15 => ?_) (fun c15 => ?_)
              · have hf := if_f hf c15
                refine lv_iconst (v := 1) hx hb dX7_chooseWell_82 (by decide) ?_
                refine lv_iadd hx hb dX7_chooseWell_83 ?_
                refine lv_istore_n (lv' := [(2, .int (v_l2_L5 + 1)), (0, .ref (a0 0)), (1, .int p1), (3, .int v_l3_L5), (4, .int q10.1)]) hx hb dX7_chooseWell_84 rfl hl (by decide) rfl (fun ls hl => ?_)
                refine lv_iinc (v := (v_l3_L5 + 1)) (lv' := [(3, .int (v_l3_L5 + 1)), (2, .int (v_l2_L5 + 1)), (0, .ref (a0 0)), (1, .int p1), (4, .int q10.1)]) hx hb dX7_chooseWell_85 hl (k := 3) rfl (congrArg (fun z => v_l3_L5 + z) (by decide)) (by decide) rfl (fun ls hl => ?_)
                refine lv_goto (tgt := 22) hx hb dX7_chooseWell_88 (by decide) ?_
                exact ih (v_l2_L5 + 1) (v_l3_L5 + 1) q14 q10.2 _ hf _ _ hP hD hS _ (lv_sub hl [2, 3, 1, 0] rfl) kx
              · have hf := if_t hf c15
                refine lv_iconst (v := 0) hx hb dX7_chooseWell_78 (by decide) ?_
                refine lv_goto (tgt := 83) hx hb dX7_chooseWell_79 (by decide) ?_
                refine lv_iadd hx hb dX7_chooseWell_83 ?_
                refine lv_istore_n (lv' := [(2, .int (v_l2_L5 + 0)), (0, .ref (a0 0)), (1, .int p1), (3, .int v_l3_L5), (4, .int q10.1)]) hx hb dX7_chooseWell_84 rfl hl (by decide) rfl (fun ls hl => ?_)
                refine lv_iinc (v := (v_l3_L5 + 1)) (lv' := [(3, .int (v_l3_L5 + 1)), (2, .int (v_l2_L5 + 0)), (0, .ref (a0 0)), (1, .int p1), (4, .int q10.1)]) hx hb dX7_chooseWell_85 hl (k := 3) rfl (congrArg (fun z => v_l3_L5 + z) (by decide)) (by decide) rfl (fun ls hl => ?_)
                refine lv_goto (tgt := 22) hx hb dX7_chooseWell_88 (by decide) ?_
                exact ih (v_l2_L5 + 0) (v_l3_L5 + 1) q14 q10.2 _ hf _ _ hP hD hS _ (lv_sub hl [2, 3, 1, 0] rfl) kx
            clear hf
            have hf := hj12
            refine lv_icmp_ne (tgt := 65) hx hb dX7_chooseWell_57 (by decide) (fun c11 => ?_) (fun c11 => ?_)
            · have hf := if_f hf c11
              refine lv_iload hx hb dX7_chooseWell_65 (lv_at hl 0 rfl) ?_
              have hf := Option.some.inj hf
              subst hf
              exact J13 _ _ hP hD hS _ (lv_sub hl [1, 2, 3, 4, 0] rfl)
            · have hf := if_t hf c11
              refine lv_bipush (v := 14) hx hb dX7_chooseWell_60 (by decide) ?_
              refine lv_goto (tgt := 67) hx hb dX7_chooseWell_62 (by decide) ?_
              have hf := Option.some.inj hf
              subst hf
              exact J13 _ _ hP hD hS _ (lv_sub hl [1, 2, 3, 4, 0] rfl)
    refine L5 n 0 0 mnow q4.2.2.2.1 q6 hq6 _ _ hP hD hS _ (lv_sub hl [2, 3, 1, 0] rfl) ?_
    clear hP hD hS hl
    intro H locs hP hD hS ls hl
    refine lv_iload_n hx hb dX7_chooseWell_91 rfl (lv_at hl 0 rfl) ?_
    have hf := Option.some.inj hf
    subst hf
    exact hret _ _ _ _ _ dX7_chooseWell_92 rfl hP hD hS rfl
  · have hf := if_f hf c2
    refine lv_iconst (v := (-1)) hx hb dX7_chooseWell_7 (by decide) ?_
    have hf := Option.some.inj hf
    subst hf
    exact hret _ _ _ _ _ dX7_chooseWell_8 rfl hP hD hS rfl
def f_X7_start (n : Nat) (mnow : (Nat → Int32)) (mhistory : (Nat → Int32)) (mkept : Int32) (mgame : Int32) (mmeasures : (Nat → Int32)) (mmost : (Nat → Int32)) (mnumbers : (Nat → Int32)) (mround : Int32) (p1 : Int32) : Option (Int32 × (Nat → Int32) × (Nat → Int32) × Int32 × Int32 × (Nat → Int32) × (Nat → Int32) × (Nat → Int32) × Int32) := (f_X7_no mnow p1).bind fun q1 => (if q1 = 0 then (f_X7_record n mnow mhistory mkept).bind fun q3 => (f_X7_winner n (upd (upd mnow 57 p1) 58 0) mmeasures mmost mnumbers p1).bind fun q4 => some (q4.1, (upd (upd mnow 57 p1) 58 0), q3.1, q3.2, q4.2.1, q4.2.2.1, q4.2.2.2.1, q4.2.2.2.2.1, q4.2.2.2.2.2) else some ((-1), mnow, mhistory, mkept, mgame, mmeasures, mmost, mnumbers, mround))
theorem inw_X7_start_7 : ∀ w ∈ wsX70, w ∈ wsX7_start := fun _ h => List.mem_cons_of_mem _ (List.mem_append_right _ h)
theorem hd_X7_start : yX7_start.cls = RX7 ∧ yX7_start.cls ≠ "java/lang/invoke/MethodHandle" ∧ yX7_start.cls ≠ "java/lang/invoke/VarHandle" ∧ (parseMethodDescriptor yX7_start.desc).map (fun d => d.parameters.length) = some 1 := by decide +kernel
set_option maxHeartbeats 4000000 in
set_option maxRecDepth 100000 in
theorem c_X7_start (l : Launch) (D : va_G) (cI cC cS : ClassId) (R : va_W) (a0 : Nat → Nat) (mnow : (Nat → Int32)) (mhistory : (Nat → Int32)) (mkept : Int32) (mslot : (Nat → Int32)) (misFilled : Int32) (mgame : Int32) (mmeasures : (Nat → Int32)) (mmost : (Nat → Int32)) (mnumbers : (Nat → Int32)) (mround : Int32) (mtyped : Int32) (mtext : (Nat → Int32)) (mat : Int32) (mnumber : Int32) (mreads : (Nat → Int32)) (mbeyond : Int32) (mjudgedTo : (Nat → Int32)) (mreach : (Nat → Int32)) (mgoes : (Nat → Int32)) (p1 : Int32) (n : Nat) (r : Int32 × (Nat → Int32) × (Nat → Int32) × Int32 × Int32 × (Nat → Int32) × (Nat → Int32) × (Nat → Int32) × Int32) (hf : f_X7_start n mnow mhistory mkept mgame mmeasures mmost mnumbers mround p1 = some r) : CI l yX7_start wsX7_start 6 136 D cI cC cS [.ref (a0 0), .int p1] ((w_M a0 cI cC mnow mhistory mkept mslot misFilled mgame mmeasures mmost mnumbers mround mtyped mtext mat mnumber mreads mbeyond mjudgedTo mreach mgoes) ++ R) r.1 ((w_M a0 cI cC r.2.1 r.2.2.1 r.2.2.2.1 mslot misFilled r.2.2.2.2.1 r.2.2.2.2.2.1 r.2.2.2.2.2.2.1 r.2.2.2.2.2.2.2.1 r.2.2.2.2.2.2.2.2 mtyped mtext mat mnumber mreads mbeyond mjudgedTo mreach mgoes) ++ R) := by
  refine XI.of (cc := cX7_start) (maxL := 2) (ty := .int) (own := RX7) (by decide) rfl rfl (Nat.le_of_ble_eq_true rfl) ?_
  intro p e s m args below meth c A Q S hK hN hA hP hD hS ls hl hret
  obtain ⟨hx, hb, hml, hown, hts⟩ := id S
  have hl : lv_has ls 2 [(0, .ref (a0 0)), (1, .int p1)] := hl
  unfold f_X7_start at hf
  refine lv_aload_n hx hb dX7_start_0 rfl (lv_at hl 0 rfl) ?_
  refine lv_iload_n hx hb dX7_start_1 rfl (lv_at hl 1 rfl) ?_
  obtain ⟨q1, hq1, hf⟩ := ob_some hf
  refine xcVi (w' := ((w_M a0 cI cC mnow mhistory mkept mslot misFilled mgame mmeasures mmost mnumbers mround mtyped mtext mat mnumber mreads mbeyond mjudgedTo mreach mgoes) ++ R)) S hK hN hA hP hD hS (c_X7_no l D cI cC cS R a0 mnow mhistory mkept mslot misFilled mgame mmeasures mmost mnumbers mround mtyped mtext mat mnumber mreads mbeyond mjudgedTo mreach mgoes p1 _ hq1) gX7_start_X7_no rfl hd_X7_no ⟨by decide, by decide⟩ (List.Perm.refl _) (List.Perm.refl _) (ci := 7) (q := (RX7, TX7, 19)) rfl rfl rfl rfl hl.1 rfl (Nat.le_of_ble_eq_true rfl) dX7_start_2 ⟨Nat.zero_le _, Nat.zero_le _⟩ (fun H locs hP hD hS => ?_)
  refine lv_if_eq (tgt := 10) hx hb dX7_start_5 (by decide) (fun c2 => ?_) (fun c2 => ?_)
  · have hf := if_t hf c2
    refine lv_aload_n hx hb dX7_start_10 rfl (lv_at hl 0 rfl) ?_
    obtain ⟨q3, hq3, hf⟩ := ob_some hf
    refine xcVv (w' := ((w_M a0 cI cC mnow q3.1 q3.2 mslot misFilled mgame mmeasures mmost mnumbers mround mtyped mtext mat mnumber mreads mbeyond mjudgedTo mreach mgoes) ++ R)) S hK hN hA hP hD hS (c_X7_record l D cI cC cS R a0 mnow mhistory mkept mslot misFilled mgame mmeasures mmost mnumbers mround mtyped mtext mat mnumber mreads mbeyond mjudgedTo mreach mgoes n _ hq3) gX7_start_X7_record rfl hd_X7_record ⟨by decide, by decide⟩ (List.Perm.refl _) (List.Perm.refl _) (ci := 7) (q := (RX7, TX7, 19)) rfl rfl rfl rfl hl.1 rfl (Nat.le_of_ble_eq_true rfl) dX7_start_11 ⟨Nat.zero_le _, Nat.zero_le _⟩ (fun H locs hP hD hS => ?_)
    refine lv_aload_n hx hb dX7_start_14 rfl (lv_at hl 0 rfl) ?_
    refine va_get (D := D) (ci := 7) (v := .ref (a0 1)) (C := RX7) (T := TX7) (N := 19) hx hb hts inw_X7_start_7 hown hK hP 0 rfl rfl 0 (by decide) (hts (.fieldLink RX7 7 "RingGamesModel" "now" "[I") (List.mem_of_getElem? (i := 1) rfl)) (fun _ h9 => h9) rfl dX7_start_15 ?_
    refine lv_bipush (v := 57) hx hb dX7_start_18 (by decide) ?_
    refine lv_iload_n hx hb dX7_start_20 rfl (lv_at hl 1 rfl) ?_
    refine va_iast hx hb hK hP hD hS 1 0 rfl rfl (x_in (by decide)) dX7_start_21 (fun H locs hP hD hS => ?_)
    have hP : va_P D vwCl ((w_M a0 cI cC (upd mnow 57 p1) q3.1 q3.2 mslot misFilled mgame mmeasures mmost mnumbers mround mtyped mtext mat mnumber mreads mbeyond mjudgedTo mreach mgoes) ++ R) H := hP
    have hD : va_D A ((w_M a0 cI cC (upd mnow 57 p1) q3.1 q3.2 mslot misFilled mgame mmeasures mmost mnumbers mround mtyped mtext mat mnumber mreads mbeyond mjudgedTo mreach mgoes) ++ R) := hD
    refine lv_aload_n hx hb dX7_start_22 rfl (lv_at hl 0 rfl) ?_
    refine va_get (D := D) (ci := 7) (v := .ref (a0 1)) (C := RX7) (T := TX7) (N := 19) hx hb hts inw_X7_start_7 hown hK hP 0 rfl rfl 0 (by decide) (hts (.fieldLink RX7 7 "RingGamesModel" "now" "[I") (List.mem_of_getElem? (i := 1) rfl)) (fun _ h9 => h9) rfl dX7_start_23 ?_
    refine lv_bipush (v := 58) hx hb dX7_start_26 (by decide) ?_
    refine lv_iconst (v := 0) hx hb dX7_start_28 (by decide) ?_
    refine va_iast hx hb hK hP hD hS 1 0 rfl rfl (x_in (by decide)) dX7_start_29 (fun H locs hP hD hS => ?_)
    have hP : va_P D vwCl ((w_M a0 cI cC (upd (upd mnow 57 p1) 58 0) q3.1 q3.2 mslot misFilled mgame mmeasures mmost mnumbers mround mtyped mtext mat mnumber mreads mbeyond mjudgedTo mreach mgoes) ++ R) H := hP
    have hD : va_D A ((w_M a0 cI cC (upd (upd mnow 57 p1) 58 0) q3.1 q3.2 mslot misFilled mgame mmeasures mmost mnumbers mround mtyped mtext mat mnumber mreads mbeyond mjudgedTo mreach mgoes) ++ R) := hD
    refine lv_aload_n hx hb dX7_start_30 rfl (lv_at hl 0 rfl) ?_
    refine lv_iload_n hx hb dX7_start_31 rfl (lv_at hl 1 rfl) ?_
    obtain ⟨q4, hq4, hf⟩ := ob_some hf
    refine xcVi (w' := ((w_M a0 cI cC (upd (upd mnow 57 p1) 58 0) q3.1 q3.2 mslot misFilled q4.2.1 q4.2.2.1 q4.2.2.2.1 q4.2.2.2.2.1 q4.2.2.2.2.2 mtyped mtext mat mnumber mreads mbeyond mjudgedTo mreach mgoes) ++ R)) S hK hN hA hP hD hS (c_X7_winner l D cI cC cS R a0 (upd (upd mnow 57 p1) 58 0) q3.1 q3.2 mslot misFilled mgame mmeasures mmost mnumbers mround mtyped mtext mat mnumber mreads mbeyond mjudgedTo mreach mgoes p1 n _ hq4) gX7_start_X7_winner rfl hd_X7_winner ⟨by decide, by decide⟩ (List.Perm.refl _) (List.Perm.refl _) (ci := 7) (q := (RX7, TX7, 19)) rfl rfl rfl rfl hl.1 rfl (Nat.le_of_ble_eq_true rfl) dX7_start_32 ⟨Nat.zero_le _, Nat.zero_le _⟩ (fun H locs hP hD hS => ?_)
    have hf := Option.some.inj hf
    subst hf
    exact hret _ _ _ _ _ dX7_start_35 rfl hP hD hS rfl
  · have hf := if_f hf c2
    refine lv_iconst (v := (-1)) hx hb dX7_start_8 (by decide) ?_
    have hf := Option.some.inj hf
    subst hf
    exact hret _ _ _ _ _ dX7_start_9 rfl hP hD hS rfl
def f_X7_goesTo (n : Nat) (mnow : (Nat → Int32)) (mgame : Int32) (mmeasures : (Nat → Int32)) (mmost : (Nat → Int32)) (mnumbers : (Nat → Int32)) (mround : Int32) (p1 : Int32) : Option (Int32 × Int32 × (Nat → Int32) × (Nat → Int32) × (Nat → Int32) × Int32) := (f_X7_of mnow p1 3).bind fun q1 => (if 14 ≤ q1 then (f_X7_bestChoice n mnow mmeasures mmost mnumbers p1).bind fun q3 => (if q3.1 = (-5) then (f_X7_of mnow p1 2).bind fun q5 => (if q5 = 0 then some ((-5), q3.2.1, q3.2.2.1, q3.2.2.2.1, q3.2.2.2.2.1, q3.2.2.2.2.2) else (f_X7_of mnow p1 2).bind fun q7 => (f_X7_lowest n q7).bind fun q8 => some (q8, q3.2.1, q3.2.2.1, q3.2.2.2.1, q3.2.2.2.2.1, q3.2.2.2.2.2)) else some (q3.1, q3.2.1, q3.2.2.1, q3.2.2.2.1, q3.2.2.2.2.1, q3.2.2.2.2.2)) else (f_X7_of mnow p1 3).bind fun q9 => some (q9, mgame, mmeasures, mmost, mnumbers, mround))
theorem hd_X7_goesTo : yX7_goesTo.cls = RX7 ∧ yX7_goesTo.cls ≠ "java/lang/invoke/MethodHandle" ∧ yX7_goesTo.cls ≠ "java/lang/invoke/VarHandle" ∧ (parseMethodDescriptor yX7_goesTo.desc).map (fun d => d.parameters.length) = some 1 := by decide +kernel
set_option maxHeartbeats 4000000 in
set_option maxRecDepth 100000 in
theorem c_X7_goesTo (l : Launch) (D : va_G) (cI cC cS : ClassId) (R : va_W) (a0 : Nat → Nat) (mnow : (Nat → Int32)) (mhistory : (Nat → Int32)) (mkept : Int32) (mslot : (Nat → Int32)) (misFilled : Int32) (mgame : Int32) (mmeasures : (Nat → Int32)) (mmost : (Nat → Int32)) (mnumbers : (Nat → Int32)) (mround : Int32) (mtyped : Int32) (mtext : (Nat → Int32)) (mat : Int32) (mnumber : Int32) (mreads : (Nat → Int32)) (mbeyond : Int32) (mjudgedTo : (Nat → Int32)) (mreach : (Nat → Int32)) (mgoes : (Nat → Int32)) (p1 : Int32) (n : Nat) (r : Int32 × Int32 × (Nat → Int32) × (Nat → Int32) × (Nat → Int32) × Int32) (hf : f_X7_goesTo n mnow mgame mmeasures mmost mnumbers mround p1 = some r) : CI l yX7_goesTo wsX7_goesTo 5 115 D cI cC cS [.ref (a0 0), .int p1] ((w_M a0 cI cC mnow mhistory mkept mslot misFilled mgame mmeasures mmost mnumbers mround mtyped mtext mat mnumber mreads mbeyond mjudgedTo mreach mgoes) ++ R) r.1 ((w_M a0 cI cC mnow mhistory mkept mslot misFilled r.2.1 r.2.2.1 r.2.2.2.1 r.2.2.2.2.1 r.2.2.2.2.2 mtyped mtext mat mnumber mreads mbeyond mjudgedTo mreach mgoes) ++ R) := by
  refine XI.of (cc := cX7_goesTo) (maxL := 3) (ty := .int) (own := RX7) (by decide) rfl rfl (Nat.le_of_ble_eq_true rfl) ?_
  intro p e s m args below meth c A Q S hK hN hA hP hD hS ls hl hret
  obtain ⟨hx, hb, hml, hown, hts⟩ := id S
  have hl : lv_has ls 3 [(0, .ref (a0 0)), (1, .int p1)] := hl
  unfold f_X7_goesTo at hf
  refine lv_aload_n hx hb dX7_goesTo_0 rfl (lv_at hl 0 rfl) ?_
  refine lv_iload_n hx hb dX7_goesTo_1 rfl (lv_at hl 1 rfl) ?_
  refine lv_iconst (v := 3) hx hb dX7_goesTo_2 (by decide) ?_
  obtain ⟨q1, hq1, hf⟩ := ob_some hf
  refine xcVi (w' := ((w_M a0 cI cC mnow mhistory mkept mslot misFilled mgame mmeasures mmost mnumbers mround mtyped mtext mat mnumber mreads mbeyond mjudgedTo mreach mgoes) ++ R)) S hK hN hA hP hD hS (c_X7_of l D cI cC cS R a0 mnow mhistory mkept mslot misFilled mgame mmeasures mmost mnumbers mround mtyped mtext mat mnumber mreads mbeyond mjudgedTo mreach mgoes p1 3 _ hq1) gX7_goesTo_X7_of rfl hd_X7_of ⟨by decide, by decide⟩ (List.Perm.refl _) (List.Perm.refl _) (ci := 7) (q := (RX7, TX7, 19)) rfl rfl rfl rfl hl.1 rfl (Nat.le_of_ble_eq_true rfl) dX7_goesTo_3 ⟨Nat.zero_le _, Nat.zero_le _⟩ (fun H locs hP hD hS => ?_)
  refine lv_bipush (v := 14) hx hb dX7_goesTo_6 (by decide) ?_
  refine lv_icmp_ge (tgt := 18) hx hb dX7_goesTo_8 (by decide) (fun c2 => ?_) (fun c2 => ?_)
  · have hf := if_t hf c2
    refine lv_aload_n hx hb dX7_goesTo_18 rfl (lv_at hl 0 rfl) ?_
    refine lv_iload_n hx hb dX7_goesTo_19 rfl (lv_at hl 1 rfl) ?_
    obtain ⟨q3, hq3, hf⟩ := ob_some hf
    refine xcVi (w' := ((w_M a0 cI cC mnow mhistory mkept mslot misFilled q3.2.1 q3.2.2.1 q3.2.2.2.1 q3.2.2.2.2.1 q3.2.2.2.2.2 mtyped mtext mat mnumber mreads mbeyond mjudgedTo mreach mgoes) ++ R)) S hK hN hA hP hD hS (c_X7_bestChoice l D cI cC cS R a0 mnow mhistory mkept mslot misFilled mgame mmeasures mmost mnumbers mround mtyped mtext mat mnumber mreads mbeyond mjudgedTo mreach mgoes p1 n _ hq3) gX7_goesTo_X7_bestChoice rfl hd_X7_bestChoice ⟨by decide, by decide⟩ (List.Perm.refl _) (List.Perm.refl _) (ci := 7) (q := (RX7, TX7, 19)) rfl rfl rfl rfl hl.1 rfl (Nat.le_of_ble_eq_true rfl) dX7_goesTo_20 ⟨Nat.zero_le _, Nat.zero_le _⟩ (fun H locs hP hD hS => ?_)
    refine lv_istore_n (lv' := [(2, .int q3.1), (0, .ref (a0 0)), (1, .int p1)]) hx hb dX7_goesTo_23 rfl hl (by decide) rfl (fun ls hl => ?_)
    refine lv_iload_n hx hb dX7_goesTo_24 rfl (lv_at hl 0 rfl) ?_
    refine lv_bipush (v := (-5)) hx hb dX7_goesTo_25 (by decide) ?_
    refine lv_icmp_eq (tgt := 34) hx hb dX7_goesTo_27 (by decide) (fun c4 => ?_) (fun c4 => ?_)
    · have hf := if_t hf c4
      refine lv_aload_n hx hb dX7_goesTo_34 rfl (lv_at hl 1 rfl) ?_
      refine lv_iload_n hx hb dX7_goesTo_35 rfl (lv_at hl 2 rfl) ?_
      refine lv_iconst (v := 2) hx hb dX7_goesTo_36 (by decide) ?_
      obtain ⟨q5, hq5, hf⟩ := ob_some hf
      refine xcVi (w' := ((w_M a0 cI cC mnow mhistory mkept mslot misFilled q3.2.1 q3.2.2.1 q3.2.2.2.1 q3.2.2.2.2.1 q3.2.2.2.2.2 mtyped mtext mat mnumber mreads mbeyond mjudgedTo mreach mgoes) ++ R)) S hK hN hA hP hD hS (c_X7_of l D cI cC cS R a0 mnow mhistory mkept mslot misFilled q3.2.1 q3.2.2.1 q3.2.2.2.1 q3.2.2.2.2.1 q3.2.2.2.2.2 mtyped mtext mat mnumber mreads mbeyond mjudgedTo mreach mgoes p1 2 _ hq5) gX7_goesTo_X7_of rfl hd_X7_of ⟨by decide, by decide⟩ (List.Perm.refl _) (List.Perm.refl _) (ci := 7) (q := (RX7, TX7, 19)) rfl rfl rfl rfl hl.1 rfl (Nat.le_of_ble_eq_true rfl) dX7_goesTo_37 ⟨Nat.zero_le _, Nat.zero_le _⟩ (fun H locs hP hD hS => ?_)
      refine lv_if_ne (tgt := 48) hx hb dX7_goesTo_40 (by decide) (fun c6 => ?_) (fun c6 => ?_)
      · have hf := if_f hf c6
        refine lv_aload_n hx hb dX7_goesTo_48 rfl (lv_at hl 1 rfl) ?_
        refine lv_iload_n hx hb dX7_goesTo_49 rfl (lv_at hl 2 rfl) ?_
        refine lv_iconst (v := 2) hx hb dX7_goesTo_50 (by decide) ?_
        obtain ⟨q7, hq7, hf⟩ := ob_some hf
        refine xcVi (w' := ((w_M a0 cI cC mnow mhistory mkept mslot misFilled q3.2.1 q3.2.2.1 q3.2.2.2.1 q3.2.2.2.2.1 q3.2.2.2.2.2 mtyped mtext mat mnumber mreads mbeyond mjudgedTo mreach mgoes) ++ R)) S hK hN hA hP hD hS (c_X7_of l D cI cC cS R a0 mnow mhistory mkept mslot misFilled q3.2.1 q3.2.2.1 q3.2.2.2.1 q3.2.2.2.2.1 q3.2.2.2.2.2 mtyped mtext mat mnumber mreads mbeyond mjudgedTo mreach mgoes p1 2 _ hq7) gX7_goesTo_X7_of rfl hd_X7_of ⟨by decide, by decide⟩ (List.Perm.refl _) (List.Perm.refl _) (ci := 7) (q := (RX7, TX7, 19)) rfl rfl rfl rfl hl.1 rfl (Nat.le_of_ble_eq_true rfl) dX7_goesTo_51 ⟨Nat.zero_le _, Nat.zero_le _⟩ (fun H locs hP hD hS => ?_)
        obtain ⟨q8, hq8, hf⟩ := ob_some hf
        refine xcSi S hK hN hA hP hD hS (c_X7_lowest l D cI cC cS ((w_M a0 cI cC mnow mhistory mkept mslot misFilled q3.2.1 q3.2.2.1 q3.2.2.2.1 q3.2.2.2.2.1 q3.2.2.2.2.2 mtyped mtext mat mnumber mreads mbeyond mjudgedTo mreach mgoes) ++ R) q7 n _ hq8) gX7_goesTo_X7_lowest rfl hd_X7_lowest ⟨by decide, by decide⟩ rfl hl.1 rfl (Nat.le_of_ble_eq_true rfl) dX7_goesTo_54 ⟨Nat.zero_le _, Nat.zero_le _⟩ (fun H locs hP hD hS => ?_)
        have hf := Option.some.inj hf
        subst hf
        exact hret _ _ _ _ _ dX7_goesTo_57 rfl hP hD hS rfl
      · have hf := if_t hf c6
        refine lv_bipush (v := (-5)) hx hb dX7_goesTo_43 (by decide) ?_
        refine lv_goto (tgt := 57) hx hb dX7_goesTo_45 (by decide) ?_
        have hf := Option.some.inj hf
        subst hf
        exact hret _ _ _ _ _ dX7_goesTo_57 rfl hP hD hS rfl
    · have hf := if_f hf c4
      refine lv_iload_n hx hb dX7_goesTo_30 rfl (lv_at hl 0 rfl) ?_
      refine lv_goto (tgt := 57) hx hb dX7_goesTo_31 (by decide) ?_
      have hf := Option.some.inj hf
      subst hf
      exact hret _ _ _ _ _ dX7_goesTo_57 rfl hP hD hS rfl
  · have hf := if_f hf c2
    refine lv_aload_n hx hb dX7_goesTo_11 rfl (lv_at hl 0 rfl) ?_
    refine lv_iload_n hx hb dX7_goesTo_12 rfl (lv_at hl 1 rfl) ?_
    refine lv_iconst (v := 3) hx hb dX7_goesTo_13 (by decide) ?_
    obtain ⟨q9, hq9, hf⟩ := ob_some hf
    refine xcVi (w' := ((w_M a0 cI cC mnow mhistory mkept mslot misFilled mgame mmeasures mmost mnumbers mround mtyped mtext mat mnumber mreads mbeyond mjudgedTo mreach mgoes) ++ R)) S hK hN hA hP hD hS (c_X7_of l D cI cC cS R a0 mnow mhistory mkept mslot misFilled mgame mmeasures mmost mnumbers mround mtyped mtext mat mnumber mreads mbeyond mjudgedTo mreach mgoes p1 3 _ hq9) gX7_goesTo_X7_of rfl hd_X7_of ⟨by decide, by decide⟩ (List.Perm.refl _) (List.Perm.refl _) (ci := 7) (q := (RX7, TX7, 19)) rfl rfl rfl rfl hl.1 rfl (Nat.le_of_ble_eq_true rfl) dX7_goesTo_14 ⟨Nat.zero_le _, Nat.zero_le _⟩ (fun H locs hP hD hS => ?_)
    have hf := Option.some.inj hf
    subst hf
    exact hret _ _ _ _ _ dX7_goesTo_17 rfl hP hD hS rfl
def f_X7_step_L47 (n : Nat) (d_l1 : Int32) : Nat → Int32 → (Nat → Int32) → Int32 → (Nat → Int32) → (Nat → Int32) → (Nat → Int32) → Int32 → Option ((Nat → Int32) × Int32 × (Nat → Int32) × (Nat → Int32) × (Nat → Int32) × Int32)
  | 0, _, _, _, _, _, _, _ => none
  | k + 1, d_l2, d_mnow, d_mgame, d_mmeasures, d_mmost, d_mnumbers, d_mround => (if d_l1 ≤ d_l2 then some (d_mnow, d_mgame, d_mmeasures, d_mmost, d_mnumbers, d_mround) else (f_X7_goesTo n d_mnow d_mgame d_mmeasures d_mmost d_mnumbers d_mround (d_mnow 57)).bind fun q8 => (if q8.1 = (-5) then f_X7_step_L47 n d_l1 k (d_l2 + 1) d_mnow q8.2.1 q8.2.2.1 q8.2.2.2.1 q8.2.2.2.2.1 q8.2.2.2.2.2 else f_X7_step_L47 n d_l1 k (d_l2 + 1) (upd (upd d_mnow 57 q8.1) 58 (((upd d_mnow 57 q8.1) 58) + 1)) q8.2.1 q8.2.2.1 q8.2.2.2.1 q8.2.2.2.2.1 q8.2.2.2.2.2))
def f_X7_step (n : Nat) (mnow : (Nat → Int32)) (mhistory : (Nat → Int32)) (mkept : Int32) (mgame : Int32) (mmeasures : (Nat → Int32)) (mmost : (Nat → Int32)) (mnumbers : (Nat → Int32)) (mround : Int32) (p1 : Int32) : Option (Int32 × (Nat → Int32) × (Nat → Int32) × Int32 × Int32 × (Nat → Int32) × (Nat → Int32) × (Nat → Int32) × Int32) := (f_X7_in p1 1 50).bind fun q1 => (if q1 = 0 then some ((-2), mnow, mhistory, mkept, mgame, mmeasures, mmost, mnumbers, mround) else (if (mnow 57) < 0 then some ((-4), mnow, mhistory, mkept, mgame, mmeasures, mmost, mnumbers, mround) else (f_X7_of mnow (mnow 57) 2).bind fun q4 => (if q4 = 0 then some ((-4), mnow, mhistory, mkept, mgame, mmeasures, mmost, mnumbers, mround) else (f_X7_record n mnow mhistory mkept).bind fun q6 => (f_X7_step_L47 n p1 n 0 mnow mgame mmeasures mmost mnumbers mround).bind fun q8 => some ((q8.1 57), q8.1, q6.1, q6.2, q8.2.1, q8.2.2.1, q8.2.2.2.1, q8.2.2.2.2.1, q8.2.2.2.2.2))))
theorem inw_X7_step_7 : ∀ w ∈ wsX70, w ∈ wsX7_step := fun _ h => List.mem_cons_of_mem _ (List.mem_append_right _ h)
theorem hd_X7_step : yX7_step.cls = RX7 ∧ yX7_step.cls ≠ "java/lang/invoke/MethodHandle" ∧ yX7_step.cls ≠ "java/lang/invoke/VarHandle" ∧ (parseMethodDescriptor yX7_step.desc).map (fun d => d.parameters.length) = some 1 := by decide +kernel
set_option maxHeartbeats 4000000 in
set_option maxRecDepth 100000 in
theorem c_X7_step (l : Launch) (D : va_G) (cI cC cS : ClassId) (R : va_W) (a0 : Nat → Nat) (mnow : (Nat → Int32)) (mhistory : (Nat → Int32)) (mkept : Int32) (mslot : (Nat → Int32)) (misFilled : Int32) (mgame : Int32) (mmeasures : (Nat → Int32)) (mmost : (Nat → Int32)) (mnumbers : (Nat → Int32)) (mround : Int32) (mtyped : Int32) (mtext : (Nat → Int32)) (mat : Int32) (mnumber : Int32) (mreads : (Nat → Int32)) (mbeyond : Int32) (mjudgedTo : (Nat → Int32)) (mreach : (Nat → Int32)) (mgoes : (Nat → Int32)) (p1 : Int32) (n : Nat) (r : Int32 × (Nat → Int32) × (Nat → Int32) × Int32 × Int32 × (Nat → Int32) × (Nat → Int32) × (Nat → Int32) × Int32) (hf : f_X7_step n mnow mhistory mkept mgame mmeasures mmost mnumbers mround p1 = some r) : CI l yX7_step wsX7_step 6 137 D cI cC cS [.ref (a0 0), .int p1] ((w_M a0 cI cC mnow mhistory mkept mslot misFilled mgame mmeasures mmost mnumbers mround mtyped mtext mat mnumber mreads mbeyond mjudgedTo mreach mgoes) ++ R) r.1 ((w_M a0 cI cC r.2.1 r.2.2.1 r.2.2.2.1 mslot misFilled r.2.2.2.2.1 r.2.2.2.2.2.1 r.2.2.2.2.2.2.1 r.2.2.2.2.2.2.2.1 r.2.2.2.2.2.2.2.2 mtyped mtext mat mnumber mreads mbeyond mjudgedTo mreach mgoes) ++ R) := by
  refine XI.of (cc := cX7_step) (maxL := 4) (ty := .int) (own := RX7) (by decide) rfl rfl (Nat.le_of_ble_eq_true rfl) ?_
  intro p e s m args below meth c A Q S hK hN hA hP hD hS ls hl hret
  obtain ⟨hx, hb, hml, hown, hts⟩ := id S
  have hl : lv_has ls 4 [(0, .ref (a0 0)), (1, .int p1)] := hl
  unfold f_X7_step at hf
  refine lv_iload_n hx hb dX7_step_0 rfl (lv_at hl 1 rfl) ?_
  refine lv_iconst (v := 1) hx hb dX7_step_1 (by decide) ?_
  refine lv_bipush (v := 50) hx hb dX7_step_2 (by decide) ?_
  obtain ⟨q1, hq1, hf⟩ := ob_some hf
  refine xcSi S hK hN hA hP hD hS (c_X7_in l D cI cC cS ((w_M a0 cI cC mnow mhistory mkept mslot misFilled mgame mmeasures mmost mnumbers mround mtyped mtext mat mnumber mreads mbeyond mjudgedTo mreach mgoes) ++ R) p1 1 50 _ hq1) gX7_step_X7_in rfl hd_X7_in ⟨by decide, by decide⟩ rfl hl.1 rfl (Nat.le_of_ble_eq_true rfl) dX7_step_4 ⟨Nat.zero_le _, Nat.zero_le _⟩ (fun H locs hP hD hS => ?_)
  refine lv_if_ne (tgt := 13) hx hb dX7_step_7 (by decide) (fun c2 => ?_) (fun c2 => ?_)
  · have hf := if_f hf c2
    refine lv_aload_n hx hb dX7_step_13 rfl (lv_at hl 0 rfl) ?_
    refine va_get (D := D) (ci := 7) (v := .ref (a0 1)) (C := RX7) (T := TX7) (N := 19) hx hb hts inw_X7_step_7 hown hK hP 0 rfl rfl 0 (by decide) (hts (.fieldLink RX7 7 "RingGamesModel" "now" "[I") (List.mem_of_getElem? (i := 1) rfl)) (fun _ h9 => h9) rfl dX7_step_14 ?_
    refine lv_bipush (v := 57) hx hb dX7_step_17 (by decide) ?_
    refine va_iald hx hb hK hP 1 0 rfl rfl (x_in (by decide)) dX7_step_19 ?_
    refine lv_if_lt (tgt := 38) hx hb dX7_step_20 (by decide) (fun c3 => ?_) (fun c3 => ?_)
    · have hf := if_t hf c3
      refine lv_bipush (v := (-4)) hx hb dX7_step_38 (by decide) ?_
      have hf := Option.some.inj hf
      subst hf
      exact hret _ _ _ _ _ dX7_step_40 rfl hP hD hS rfl
    · have hf := if_f hf c3
      refine lv_aload_n hx hb dX7_step_23 rfl (lv_at hl 0 rfl) ?_
      refine lv_aload_n hx hb dX7_step_24 rfl (lv_at hl 0 rfl) ?_
      refine va_get (D := D) (ci := 7) (v := .ref (a0 1)) (C := RX7) (T := TX7) (N := 19) hx hb hts inw_X7_step_7 hown hK hP 0 rfl rfl 0 (by decide) (hts (.fieldLink RX7 7 "RingGamesModel" "now" "[I") (List.mem_of_getElem? (i := 1) rfl)) (fun _ h9 => h9) rfl dX7_step_25 ?_
      refine lv_bipush (v := 57) hx hb dX7_step_28 (by decide) ?_
      refine va_iald hx hb hK hP 1 0 rfl rfl (x_in (by decide)) dX7_step_30 ?_
      refine lv_iconst (v := 2) hx hb dX7_step_31 (by decide) ?_
      obtain ⟨q4, hq4, hf⟩ := ob_some hf
      refine xcVi (w' := ((w_M a0 cI cC mnow mhistory mkept mslot misFilled mgame mmeasures mmost mnumbers mround mtyped mtext mat mnumber mreads mbeyond mjudgedTo mreach mgoes) ++ R)) S hK hN hA hP hD hS (c_X7_of l D cI cC cS R a0 mnow mhistory mkept mslot misFilled mgame mmeasures mmost mnumbers mround mtyped mtext mat mnumber mreads mbeyond mjudgedTo mreach mgoes (mnow 57) 2 _ hq4) gX7_step_X7_of rfl hd_X7_of ⟨by decide, by decide⟩ (List.Perm.refl _) (List.Perm.refl _) (ci := 7) (q := (RX7, TX7, 19)) rfl rfl rfl rfl hl.1 rfl (Nat.le_of_ble_eq_true rfl) dX7_step_32 ⟨Nat.zero_le _, Nat.zero_le _⟩ (fun H locs hP hD hS => ?_)
      refine lv_if_ne (tgt := 41) hx hb dX7_step_35 (by decide) (fun c5 => ?_) (fun c5 => ?_)
      · have hf := if_f hf c5
        refine lv_aload_n hx hb dX7_step_41 rfl (lv_at hl 0 rfl) ?_
        obtain ⟨q6, hq6, hf⟩ := ob_some hf
        refine xcVv (w' := ((w_M a0 cI cC mnow q6.1 q6.2 mslot misFilled mgame mmeasures mmost mnumbers mround mtyped mtext mat mnumber mreads mbeyond mjudgedTo mreach mgoes) ++ R)) S hK hN hA hP hD hS (c_X7_record l D cI cC cS R a0 mnow mhistory mkept mslot misFilled mgame mmeasures mmost mnumbers mround mtyped mtext mat mnumber mreads mbeyond mjudgedTo mreach mgoes n _ hq6) gX7_step_X7_record rfl hd_X7_record ⟨by decide, by decide⟩ (List.Perm.refl _) (List.Perm.refl _) (ci := 7) (q := (RX7, TX7, 19)) rfl rfl rfl rfl hl.1 rfl (Nat.le_of_ble_eq_true rfl) dX7_step_42 ⟨Nat.zero_le _, Nat.zero_le _⟩ (fun H locs hP hD hS => ?_)
        refine lv_iconst (v := 0) hx hb dX7_step_45 (by decide) ?_
        refine lv_istore_n (lv' := [(2, .int 0), (0, .ref (a0 0)), (1, .int p1)]) hx hb dX7_step_46 rfl hl (by decide) rfl (fun ls hl => ?_)
        obtain ⟨q8, hq8, hf⟩ := ob_some hf
        have L7 : ∀ (k : Nat) (v_l2_L7 : Int32) (v_mnow_L7 : (Nat → Int32)) (v_mgame_L7 : Int32) (v_mmeasures_L7 : (Nat → Int32)) (v_mmost_L7 : (Nat → Int32)) (v_mnumbers_L7 : (Nat → Int32)) (v_mround_L7 : Int32) (q_L7 : (Nat → Int32) × Int32 × (Nat → Int32) × (Nat → Int32) × (Nat → Int32) × Int32), f_X7_step_L47 n p1 k v_l2_L7 v_mnow_L7 v_mgame_L7 v_mmeasures_L7 v_mmost_L7 v_mnumbers_L7 v_mround_L7 = some q_L7 → ∀ (H : Heap) (locs : List Loc), va_P D vwCl ((w_M a0 cI cC v_mnow_L7 q6.1 q6.2 mslot misFilled v_mgame_L7 v_mmeasures_L7 v_mmost_L7 v_mnumbers_L7 v_mround_L7 mtyped mtext mat mnumber mreads mbeyond mjudgedTo mreach mgoes) ++ R) H → va_D A ((w_M a0 cI cC v_mnow_L7 q6.1 q6.2 mslot misFilled v_mgame_L7 v_mmeasures_L7 v_mmost_L7 v_mnumbers_L7 v_mround_L7 mtyped mtext mat mnumber mreads mbeyond mjudgedTo mreach mgoes) ++ R) → va_S A s.heap H locs → ∀ ls : Array Slot, lv_has ls 4 [(0, .ref (a0 0)), (1, .int p1), (2, .int v_l2_L7)] → (∀ (H : Heap) (locs : List Loc), va_P D vwCl ((w_M a0 cI cC q_L7.1 q6.1 q6.2 mslot misFilled q_L7.2.1 q_L7.2.2.1 q_L7.2.2.2.1 q_L7.2.2.2.2.1 q_L7.2.2.2.2.2 mtyped mtext mat mnumber mreads mbeyond mjudgedTo mreach mgoes) ++ R) H → va_D A ((w_M a0 cI cC q_L7.1 q6.1 q6.2 mslot misFilled q_L7.2.1 q_L7.2.2.1 q_L7.2.2.2.1 q_L7.2.2.2.2.1 q_L7.2.2.2.2.2 mtyped mtext mat mnumber mreads mbeyond mjudgedTo mreach mgoes) ++ R) → va_S A s.heap H locs → ∀ ls : Array Slot, lv_has ls 4 [(0, .ref (a0 0))] → W p l e (xR 6 137) s m args below meth c H locs 0 0 Q (F0 m 95 ls [])) → W p l e (xR 6 137) s m args below meth c H locs 0 0 Q (F0 m 47 ls []) := by
          intro k
          induction k with
          | zero => intro v_l2_L7 v_mnow_L7 v_mgame_L7 v_mmeasures_L7 v_mmost_L7 v_mnumbers_L7 v_mround_L7 q_L7 hf; simp [f_X7_step_L47] at hf
          | succ k ih =>
            intro v_l2_L7 v_mnow_L7 v_mgame_L7 v_mmeasures_L7 v_mmost_L7 v_mnumbers_L7 v_mround_L7 q_L7 hf H locs hP hD hS ls hl kx
            rw [f_X7_step_L47] at hf
            refine lv_iload_n hx hb dX7_step_47 rfl (lv_at hl 2 rfl) ?_
            refine lv_iload_n hx hb dX7_step_48 rfl (lv_at hl 1 rfl) ?_
            refine lv_icmp_ge (tgt := 95) hx hb dX7_step_49 (by decide) (fun c9 => ?_) (fun c9 => ?_)
            · have hf := if_t hf c9
              have hf := Option.some.inj hf
              subst hf
              exact kx _ _ hP hD hS _ (lv_sub hl [0] rfl)
            · have hf := if_f hf c9
              refine lv_aload_n hx hb dX7_step_52 rfl (lv_at hl 0 rfl) ?_
              refine lv_aload_n hx hb dX7_step_53 rfl (lv_at hl 0 rfl) ?_
              refine va_get (D := D) (ci := 7) (v := .ref (a0 1)) (C := RX7) (T := TX7) (N := 19) hx hb hts inw_X7_step_7 hown hK hP 0 rfl rfl 0 (by decide) (hts (.fieldLink RX7 7 "RingGamesModel" "now" "[I") (List.mem_of_getElem? (i := 1) rfl)) (fun _ h9 => h9) rfl dX7_step_54 ?_
              refine lv_bipush (v := 57) hx hb dX7_step_57 (by decide) ?_
              refine va_iald hx hb hK hP 1 0 rfl rfl (x_in (by decide)) dX7_step_59 ?_
              obtain ⟨q10, hq10, hf⟩ := ob_some hf
              refine xcVi (w' := ((w_M a0 cI cC v_mnow_L7 q6.1 q6.2 mslot misFilled q10.2.1 q10.2.2.1 q10.2.2.2.1 q10.2.2.2.2.1 q10.2.2.2.2.2 mtyped mtext mat mnumber mreads mbeyond mjudgedTo mreach mgoes) ++ R)) S hK hN hA hP hD hS (c_X7_goesTo l D cI cC cS R a0 v_mnow_L7 q6.1 q6.2 mslot misFilled v_mgame_L7 v_mmeasures_L7 v_mmost_L7 v_mnumbers_L7 v_mround_L7 mtyped mtext mat mnumber mreads mbeyond mjudgedTo mreach mgoes (v_mnow_L7 57) n _ hq10) gX7_step_X7_goesTo rfl hd_X7_goesTo ⟨by decide, by decide⟩ (List.Perm.refl _) (List.Perm.refl _) (ci := 7) (q := (RX7, TX7, 19)) rfl rfl rfl rfl hl.1 rfl (Nat.le_of_ble_eq_true rfl) dX7_step_60 ⟨Nat.zero_le _, Nat.zero_le _⟩ (fun H locs hP hD hS => ?_)
              refine lv_istore_n (lv' := [(3, .int q10.1), (0, .ref (a0 0)), (1, .int p1), (2, .int v_l2_L7)]) hx hb dX7_step_63 rfl hl (by decide) rfl (fun ls hl => ?_)
              refine lv_iload_n hx hb dX7_step_64 rfl (lv_at hl 0 rfl) ?_
              refine lv_bipush (v := (-5)) hx hb dX7_step_65 (by decide) ?_
              refine lv_icmp_eq (tgt := 89) hx hb dX7_step_67 (by decide) (fun c11 => ?_) (fun c11 => ?_)
              · have hf := if_t hf c11
                refine lv_iinc (v := (v_l2_L7 + 1)) (lv' := [(2, .int (v_l2_L7 + 1)), (3, .int q10.1), (0, .ref (a0 0)), (1, .int p1)]) hx hb dX7_step_89 hl (k := 3) rfl (congrArg (fun z => v_l2_L7 + z) (by decide)) (by decide) rfl (fun ls hl => ?_)
                refine lv_goto (tgt := 47) hx hb dX7_step_92 (by decide) ?_
                exact ih (v_l2_L7 + 1) v_mnow_L7 q10.2.1 q10.2.2.1 q10.2.2.2.1 q10.2.2.2.2.1 q10.2.2.2.2.2 _ hf _ _ hP hD hS _ (lv_sub hl [2, 3, 0] rfl) kx
              · have hf := if_f hf c11
                refine lv_aload_n hx hb dX7_step_70 rfl (lv_at hl 1 rfl) ?_
                refine va_get (D := D) (ci := 7) (v := .ref (a0 1)) (C := RX7) (T := TX7) (N := 19) hx hb hts inw_X7_step_7 hown hK hP 0 rfl rfl 0 (by decide) (hts (.fieldLink RX7 7 "RingGamesModel" "now" "[I") (List.mem_of_getElem? (i := 1) rfl)) (fun _ h9 => h9) rfl dX7_step_71 ?_
                refine lv_bipush (v := 57) hx hb dX7_step_74 (by decide) ?_
                refine lv_iload_n hx hb dX7_step_76 rfl (lv_at hl 0 rfl) ?_
                refine va_iast hx hb hK hP hD hS 1 0 rfl rfl (x_in (by decide)) dX7_step_77 (fun H locs hP hD hS => ?_)
                have hP : va_P D vwCl ((w_M a0 cI cC (upd v_mnow_L7 57 q10.1) q6.1 q6.2 mslot misFilled q10.2.1 q10.2.2.1 q10.2.2.2.1 q10.2.2.2.2.1 q10.2.2.2.2.2 mtyped mtext mat mnumber mreads mbeyond mjudgedTo mreach mgoes) ++ R) H := hP
                have hD : va_D A ((w_M a0 cI cC (upd v_mnow_L7 57 q10.1) q6.1 q6.2 mslot misFilled q10.2.1 q10.2.2.1 q10.2.2.2.1 q10.2.2.2.2.1 q10.2.2.2.2.2 mtyped mtext mat mnumber mreads mbeyond mjudgedTo mreach mgoes) ++ R) := hD
                refine lv_aload_n hx hb dX7_step_78 rfl (lv_at hl 1 rfl) ?_
                refine va_get (D := D) (ci := 7) (v := .ref (a0 1)) (C := RX7) (T := TX7) (N := 19) hx hb hts inw_X7_step_7 hown hK hP 0 rfl rfl 0 (by decide) (hts (.fieldLink RX7 7 "RingGamesModel" "now" "[I") (List.mem_of_getElem? (i := 1) rfl)) (fun _ h9 => h9) rfl dX7_step_79 ?_
                refine lv_bipush (v := 58) hx hb dX7_step_82 (by decide) ?_
                refine lv_dup2_11 hx hb dX7_step_84 rfl rfl ?_
                refine va_iald hx hb hK hP 1 0 rfl rfl (x_in (by decide)) dX7_step_85 ?_
                refine lv_iconst (v := 1) hx hb dX7_step_86 (by decide) ?_
                refine lv_iadd hx hb dX7_step_87 ?_
                refine va_iast hx hb hK hP hD hS 1 0 rfl rfl (x_in (by decide)) dX7_step_88 (fun H locs hP hD hS => ?_)
                have hP : va_P D vwCl ((w_M a0 cI cC (upd (upd v_mnow_L7 57 q10.1) 58 (((upd v_mnow_L7 57 q10.1) 58) + 1)) q6.1 q6.2 mslot misFilled q10.2.1 q10.2.2.1 q10.2.2.2.1 q10.2.2.2.2.1 q10.2.2.2.2.2 mtyped mtext mat mnumber mreads mbeyond mjudgedTo mreach mgoes) ++ R) H := hP
                have hD : va_D A ((w_M a0 cI cC (upd (upd v_mnow_L7 57 q10.1) 58 (((upd v_mnow_L7 57 q10.1) 58) + 1)) q6.1 q6.2 mslot misFilled q10.2.1 q10.2.2.1 q10.2.2.2.1 q10.2.2.2.2.1 q10.2.2.2.2.2 mtyped mtext mat mnumber mreads mbeyond mjudgedTo mreach mgoes) ++ R) := hD
                refine lv_iinc (v := (v_l2_L7 + 1)) (lv' := [(2, .int (v_l2_L7 + 1)), (3, .int q10.1), (0, .ref (a0 0)), (1, .int p1)]) hx hb dX7_step_89 hl (k := 3) rfl (congrArg (fun z => v_l2_L7 + z) (by decide)) (by decide) rfl (fun ls hl => ?_)
                refine lv_goto (tgt := 47) hx hb dX7_step_92 (by decide) ?_
                exact ih (v_l2_L7 + 1) (upd (upd v_mnow_L7 57 q10.1) 58 (((upd v_mnow_L7 57 q10.1) 58) + 1)) q10.2.1 q10.2.2.1 q10.2.2.2.1 q10.2.2.2.2.1 q10.2.2.2.2.2 _ hf _ _ hP hD hS _ (lv_sub hl [2, 3, 0] rfl) kx
        refine L7 n 0 mnow mgame mmeasures mmost mnumbers mround q8 hq8 _ _ hP hD hS _ (lv_sub hl [1, 2, 0] rfl) ?_
        clear hP hD hS hl
        intro H locs hP hD hS ls hl
        refine lv_aload_n hx hb dX7_step_95 rfl (lv_at hl 0 rfl) ?_
        refine va_get (D := D) (ci := 7) (v := .ref (a0 1)) (C := RX7) (T := TX7) (N := 19) hx hb hts inw_X7_step_7 hown hK hP 0 rfl rfl 0 (by decide) (hts (.fieldLink RX7 7 "RingGamesModel" "now" "[I") (List.mem_of_getElem? (i := 1) rfl)) (fun _ h9 => h9) rfl dX7_step_96 ?_
        refine lv_bipush (v := 57) hx hb dX7_step_99 (by decide) ?_
        refine va_iald hx hb hK hP 1 0 rfl rfl (x_in (by decide)) dX7_step_101 ?_
        have hf := Option.some.inj hf
        subst hf
        exact hret _ _ _ _ _ dX7_step_102 rfl hP hD hS rfl
      · have hf := if_t hf c5
        refine lv_bipush (v := (-4)) hx hb dX7_step_38 (by decide) ?_
        have hf := Option.some.inj hf
        subst hf
        exact hret _ _ _ _ _ dX7_step_40 rfl hP hD hS rfl
  · have hf := if_t hf c2
    refine lv_bipush (v := (-2)) hx hb dX7_step_10 (by decide) ?_
    have hf := Option.some.inj hf
    subst hf
    exact hret _ _ _ _ _ dX7_step_12 rfl hP hD hS rfl
def f_X7_type (mtyped : Int32) (mtext : (Nat → Int32)) (p1 : Int32) : Option (Int32 × Int32 × (Nat → Int32)) := (if mtyped = 60 then some ((-3), mtyped, mtext) else vg mtyped 60 (some ((mtyped + 1), (mtyped + 1), (upd mtext (mtyped).toNatClampNeg (vp_nar .char p1)))))
theorem inw_X7_type_7 : ∀ w ∈ wsX70, w ∈ wsX7_type := fun _ h => List.mem_cons_of_mem _ (List.mem_append_right _ h)
theorem hd_X7_type : yX7_type.cls = RX7 ∧ yX7_type.cls ≠ "java/lang/invoke/MethodHandle" ∧ yX7_type.cls ≠ "java/lang/invoke/VarHandle" ∧ (parseMethodDescriptor yX7_type.desc).map (fun d => d.parameters.length) = some 1 := by decide +kernel
set_option maxHeartbeats 4000000 in
set_option maxRecDepth 100000 in
theorem c_X7_type (l : Launch) (D : va_G) (cI cC cS : ClassId) (R : va_W) (a0 : Nat → Nat) (mnow : (Nat → Int32)) (mhistory : (Nat → Int32)) (mkept : Int32) (mslot : (Nat → Int32)) (misFilled : Int32) (mgame : Int32) (mmeasures : (Nat → Int32)) (mmost : (Nat → Int32)) (mnumbers : (Nat → Int32)) (mround : Int32) (mtyped : Int32) (mtext : (Nat → Int32)) (mat : Int32) (mnumber : Int32) (mreads : (Nat → Int32)) (mbeyond : Int32) (mjudgedTo : (Nat → Int32)) (mreach : (Nat → Int32)) (mgoes : (Nat → Int32)) (p1 : Int32) (r : Int32 × Int32 × (Nat → Int32)) (hf : f_X7_type mtyped mtext p1 = some r) : CI l yX7_type wsX7_type 0 0 D cI cC cS [.ref (a0 0), .int p1] ((w_M a0 cI cC mnow mhistory mkept mslot misFilled mgame mmeasures mmost mnumbers mround mtyped mtext mat mnumber mreads mbeyond mjudgedTo mreach mgoes) ++ R) r.1 ((w_M a0 cI cC mnow mhistory mkept mslot misFilled mgame mmeasures mmost mnumbers mround r.2.1 r.2.2 mat mnumber mreads mbeyond mjudgedTo mreach mgoes) ++ R) := by
  refine XI.of (cc := cX7_type) (maxL := 2) (ty := .int) (own := RX7) (by decide) rfl rfl (Nat.le_of_ble_eq_true rfl) ?_
  intro p e s m args below meth c A Q S hK hN hA hP hD hS ls hl hret
  obtain ⟨hx, hb, hml, hown, hts⟩ := id S
  have hl : lv_has ls 2 [(0, .ref (a0 0)), (1, .int p1)] := hl
  unfold f_X7_type at hf
  refine lv_aload_n hx hb dX7_type_0 rfl (lv_at hl 0 rfl) ?_
  refine va_get (D := D) (ci := 7) (v := .int mtyped) (C := RX7) (T := TX7) (N := 19) hx hb hts inw_X7_type_7 hown hK hP 0 rfl rfl 10 (by decide) (hts (.fieldLink RX7 126 "RingGamesModel" "typed" "I") (List.mem_of_getElem? (i := 1) rfl)) (fun _ h9 => h9) rfl dX7_type_1 ?_
  refine lv_bipush (v := 60) hx hb dX7_type_4 (by decide) ?_
  refine lv_icmp_ne (tgt := 12) hx hb dX7_type_6 (by decide) (fun c1 => ?_) (fun c1 => ?_)
  · have hf := if_f hf c1
    refine lv_aload_n hx hb dX7_type_12 rfl (lv_at hl 0 rfl) ?_
    refine va_get (D := D) (ci := 7) (v := .ref (a0 7)) (C := RX7) (T := TX7) (N := 19) hx hb hts inw_X7_type_7 hown hK hP 0 rfl rfl 11 (by decide) (hts (.fieldLink RX7 28 "RingGamesModel" "text" "[C") (List.mem_of_getElem? (i := 2) rfl)) (fun _ h9 => h9) rfl dX7_type_13 ?_
    refine lv_aload_n hx hb dX7_type_16 rfl (lv_at hl 0 rfl) ?_
    refine va_get (D := D) (ci := 7) (v := .int mtyped) (C := RX7) (T := TX7) (N := 19) hx hb hts inw_X7_type_7 hown hK hP 0 rfl rfl 10 (by decide) (hts (.fieldLink RX7 126 "RingGamesModel" "typed" "I") (List.mem_of_getElem? (i := 1) rfl)) (fun _ h9 => h9) rfl dX7_type_17 ?_
    refine lv_iload_n hx hb dX7_type_20 rfl (lv_at hl 1 rfl) ?_
    obtain ⟨g2, hf⟩ := vg_some hf
    refine va_cast hx hb hK hP hD hS 7 1 rfl rfl g2 dX7_type_21 (fun H locs hP hD hS => ?_)
    have hP : va_P D vwCl ((w_M a0 cI cC mnow mhistory mkept mslot misFilled mgame mmeasures mmost mnumbers mround mtyped (upd mtext (mtyped).toNatClampNeg (vp_nar .char p1)) mat mnumber mreads mbeyond mjudgedTo mreach mgoes) ++ R) H := hP
    have hD : va_D A ((w_M a0 cI cC mnow mhistory mkept mslot misFilled mgame mmeasures mmost mnumbers mround mtyped (upd mtext (mtyped).toNatClampNeg (vp_nar .char p1)) mat mnumber mreads mbeyond mjudgedTo mreach mgoes) ++ R) := hD
    refine lv_aload_n hx hb dX7_type_22 rfl (lv_at hl 0 rfl) ?_
    refine lv_dup hx hb dX7_type_23 rfl ?_
    refine va_get (D := D) (ci := 7) (v := .int mtyped) (C := RX7) (T := TX7) (N := 19) hx hb hts inw_X7_type_7 hown hK hP 0 rfl rfl 10 (by decide) (hts (.fieldLink RX7 126 "RingGamesModel" "typed" "I") (List.mem_of_getElem? (i := 1) rfl)) (fun _ h9 => h9) rfl dX7_type_24 ?_
    refine lv_iconst (v := 1) hx hb dX7_type_27 (by decide) ?_
    refine lv_iadd hx hb dX7_type_28 ?_
    refine va_put (D := D) (ci := 7) (v := .int (mtyped + 1)) (ty := .int) (C := RX7) (T := TX7) (N := 19) hx hb hts inw_X7_type_7 tyX7 tyX7_ok nmX7 hown hK hP hD hS 0 rfl rfl 10 (by decide) (hts (.fieldLink RX7 126 "RingGamesModel" "typed" "I") (List.mem_of_getElem? (i := 1) rfl)) (fun _ h9 => h9) rfl (tyX7_ok 10 (by decide)) rfl rfl (Nat.le_of_ble_eq_true rfl) dX7_type_29 (fun H locs hP hD hS => ?_)
    have hP : va_P D vwCl ((w_M a0 cI cC mnow mhistory mkept mslot misFilled mgame mmeasures mmost mnumbers mround (mtyped + 1) (upd mtext (mtyped).toNatClampNeg (vp_nar .char p1)) mat mnumber mreads mbeyond mjudgedTo mreach mgoes) ++ R) H := hP
    have hD : va_D A ((w_M a0 cI cC mnow mhistory mkept mslot misFilled mgame mmeasures mmost mnumbers mround (mtyped + 1) (upd mtext (mtyped).toNatClampNeg (vp_nar .char p1)) mat mnumber mreads mbeyond mjudgedTo mreach mgoes) ++ R) := hD
    refine lv_aload_n hx hb dX7_type_32 rfl (lv_at hl 0 rfl) ?_
    refine va_get (D := D) (ci := 7) (v := .int (mtyped + 1)) (C := RX7) (T := TX7) (N := 19) hx hb hts inw_X7_type_7 hown hK hP 0 rfl rfl 10 (by decide) (hts (.fieldLink RX7 126 "RingGamesModel" "typed" "I") (List.mem_of_getElem? (i := 1) rfl)) (fun _ h9 => h9) rfl dX7_type_33 ?_
    have hf := Option.some.inj hf
    subst hf
    exact hret _ _ _ _ _ dX7_type_36 rfl hP hD hS rfl
  · have hf := if_t hf c1
    refine lv_bipush (v := (-3)) hx hb dX7_type_9 (by decide) ?_
    have hf := Option.some.inj hf
    subst hf
    exact hret _ _ _ _ _ dX7_type_11 rfl hP hD hS rfl
def f_X7_clearText (mtyped : Int32) : Option (Int32 × Int32) := some (mtyped, 0)
theorem inw_X7_clearText_7 : ∀ w ∈ wsX70, w ∈ wsX7_clearText := fun _ h => List.mem_cons_of_mem _ (List.mem_append_right _ h)
theorem hd_X7_clearText : yX7_clearText.cls = RX7 ∧ yX7_clearText.cls ≠ "java/lang/invoke/MethodHandle" ∧ yX7_clearText.cls ≠ "java/lang/invoke/VarHandle" ∧ (parseMethodDescriptor yX7_clearText.desc).map (fun d => d.parameters.length) = some 0 := by decide +kernel
set_option maxHeartbeats 4000000 in
set_option maxRecDepth 100000 in
theorem c_X7_clearText (l : Launch) (D : va_G) (cI cC cS : ClassId) (R : va_W) (a0 : Nat → Nat) (mnow : (Nat → Int32)) (mhistory : (Nat → Int32)) (mkept : Int32) (mslot : (Nat → Int32)) (misFilled : Int32) (mgame : Int32) (mmeasures : (Nat → Int32)) (mmost : (Nat → Int32)) (mnumbers : (Nat → Int32)) (mround : Int32) (mtyped : Int32) (mtext : (Nat → Int32)) (mat : Int32) (mnumber : Int32) (mreads : (Nat → Int32)) (mbeyond : Int32) (mjudgedTo : (Nat → Int32)) (mreach : (Nat → Int32)) (mgoes : (Nat → Int32)) (r : Int32 × Int32) (hf : f_X7_clearText mtyped = some r) : CI l yX7_clearText wsX7_clearText 0 0 D cI cC cS [.ref (a0 0)] ((w_M a0 cI cC mnow mhistory mkept mslot misFilled mgame mmeasures mmost mnumbers mround mtyped mtext mat mnumber mreads mbeyond mjudgedTo mreach mgoes) ++ R) r.1 ((w_M a0 cI cC mnow mhistory mkept mslot misFilled mgame mmeasures mmost mnumbers mround r.2 mtext mat mnumber mreads mbeyond mjudgedTo mreach mgoes) ++ R) := by
  refine XI.of (cc := cX7_clearText) (maxL := 2) (ty := .int) (own := RX7) (by decide) rfl rfl (Nat.le_of_ble_eq_true rfl) ?_
  intro p e s m args below meth c A Q S hK hN hA hP hD hS ls hl hret
  obtain ⟨hx, hb, hml, hown, hts⟩ := id S
  have hl : lv_has ls 2 [(0, .ref (a0 0))] := hl
  unfold f_X7_clearText at hf
  refine lv_aload_n hx hb dX7_clearText_0 rfl (lv_at hl 0 rfl) ?_
  refine va_get (D := D) (ci := 7) (v := .int mtyped) (C := RX7) (T := TX7) (N := 19) hx hb hts inw_X7_clearText_7 hown hK hP 0 rfl rfl 10 (by decide) (hts (.fieldLink RX7 126 "RingGamesModel" "typed" "I") (List.mem_of_getElem? (i := 1) rfl)) (fun _ h9 => h9) rfl dX7_clearText_1 ?_
  refine lv_istore_n (lv' := [(1, .int mtyped), (0, .ref (a0 0))]) hx hb dX7_clearText_4 rfl hl (by decide) rfl (fun ls hl => ?_)
  refine lv_aload_n hx hb dX7_clearText_5 rfl (lv_at hl 1 rfl) ?_
  refine lv_iconst (v := 0) hx hb dX7_clearText_6 (by decide) ?_
  refine va_put (D := D) (ci := 7) (v := .int 0) (ty := .int) (C := RX7) (T := TX7) (N := 19) hx hb hts inw_X7_clearText_7 tyX7 tyX7_ok nmX7 hown hK hP hD hS 0 rfl rfl 10 (by decide) (hts (.fieldLink RX7 126 "RingGamesModel" "typed" "I") (List.mem_of_getElem? (i := 1) rfl)) (fun _ h9 => h9) rfl (tyX7_ok 10 (by decide)) rfl rfl (Nat.le_of_ble_eq_true rfl) dX7_clearText_7 (fun H locs hP hD hS => ?_)
  have hP : va_P D vwCl ((w_M a0 cI cC mnow mhistory mkept mslot misFilled mgame mmeasures mmost mnumbers mround 0 mtext mat mnumber mreads mbeyond mjudgedTo mreach mgoes) ++ R) H := hP
  have hD : va_D A ((w_M a0 cI cC mnow mhistory mkept mslot misFilled mgame mmeasures mmost mnumbers mround 0 mtext mat mnumber mreads mbeyond mjudgedTo mreach mgoes) ++ R) := hD
  refine lv_iload_n hx hb dX7_clearText_10 rfl (lv_at hl 0 rfl) ?_
  have hf := Option.some.inj hf
  subst hf
  exact hret _ _ _ _ _ dX7_clearText_11 rfl hP hD hS rfl
def f_X7_isDigit (mtyped : Int32) (mtext : (Nat → Int32)) (mat : Int32) : Option Int32 := (if mtyped ≤ mat then some (0) else vg mat 60 ((f_X7_in (mtext (mat).toNatClampNeg) 48 57).bind fun q3 => (if q3 = 0 then some (0) else some (1))))
theorem inw_X7_isDigit_7 : ∀ w ∈ wsX70, w ∈ wsX7_isDigit := fun _ h => List.mem_cons_of_mem _ (List.mem_append_right _ h)
theorem hd_X7_isDigit : yX7_isDigit.cls = RX7 ∧ yX7_isDigit.cls ≠ "java/lang/invoke/MethodHandle" ∧ yX7_isDigit.cls ≠ "java/lang/invoke/VarHandle" ∧ (parseMethodDescriptor yX7_isDigit.desc).map (fun d => d.parameters.length) = some 0 := by decide +kernel
set_option maxHeartbeats 4000000 in
set_option maxRecDepth 100000 in
theorem c_X7_isDigit (l : Launch) (D : va_G) (cI cC cS : ClassId) (R : va_W) (a0 : Nat → Nat) (mnow : (Nat → Int32)) (mhistory : (Nat → Int32)) (mkept : Int32) (mslot : (Nat → Int32)) (misFilled : Int32) (mgame : Int32) (mmeasures : (Nat → Int32)) (mmost : (Nat → Int32)) (mnumbers : (Nat → Int32)) (mround : Int32) (mtyped : Int32) (mtext : (Nat → Int32)) (mat : Int32) (mnumber : Int32) (mreads : (Nat → Int32)) (mbeyond : Int32) (mjudgedTo : (Nat → Int32)) (mreach : (Nat → Int32)) (mgoes : (Nat → Int32)) (r : Int32) (hf : f_X7_isDigit mtyped mtext mat = some r) : CI l yX7_isDigit wsX7_isDigit 1 22 D cI cC cS [.ref (a0 0)] ((w_M a0 cI cC mnow mhistory mkept mslot misFilled mgame mmeasures mmost mnumbers mround mtyped mtext mat mnumber mreads mbeyond mjudgedTo mreach mgoes) ++ R) r ((w_M a0 cI cC mnow mhistory mkept mslot misFilled mgame mmeasures mmost mnumbers mround mtyped mtext mat mnumber mreads mbeyond mjudgedTo mreach mgoes) ++ R) := by
  refine XI.of (cc := cX7_isDigit) (maxL := 1) (ty := .boolean) (own := RX7) (by decide) rfl rfl (Nat.le_of_ble_eq_true rfl) ?_
  intro p e s m args below meth c A Q S hK hN hA hP hD hS ls hl hret
  obtain ⟨hx, hb, hml, hown, hts⟩ := id S
  have hl : lv_has ls 1 [(0, .ref (a0 0))] := hl
  unfold f_X7_isDigit at hf
  refine lv_aload_n hx hb dX7_isDigit_0 rfl (lv_at hl 0 rfl) ?_
  refine va_get (D := D) (ci := 7) (v := .int mat) (C := RX7) (T := TX7) (N := 19) hx hb hts inw_X7_isDigit_7 hown hK hP 0 rfl rfl 12 (by decide) (hts (.fieldLink RX7 129 "RingGamesModel" "at" "I") (List.mem_of_getElem? (i := 1) rfl)) (fun _ h9 => h9) rfl dX7_isDigit_1 ?_
  refine lv_aload_n hx hb dX7_isDigit_4 rfl (lv_at hl 0 rfl) ?_
  refine va_get (D := D) (ci := 7) (v := .int mtyped) (C := RX7) (T := TX7) (N := 19) hx hb hts inw_X7_isDigit_7 hown hK hP 0 rfl rfl 10 (by decide) (hts (.fieldLink RX7 126 "RingGamesModel" "typed" "I") (List.mem_of_getElem? (i := 2) rfl)) (fun _ h9 => h9) rfl dX7_isDigit_5 ?_
  refine lv_icmp_ge (tgt := 34) hx hb dX7_isDigit_8 (by decide) (fun c1 => ?_) (fun c1 => ?_)
  · have hf := if_t hf c1
    refine lv_iconst (v := 0) hx hb dX7_isDigit_34 (by decide) ?_
    have hf := Option.some.inj hf
    subst hf
    exact hret _ _ _ _ _ dX7_isDigit_35 rfl hP hD hS rfl
  · have hf := if_f hf c1
    refine lv_aload_n hx hb dX7_isDigit_11 rfl (lv_at hl 0 rfl) ?_
    refine va_get (D := D) (ci := 7) (v := .ref (a0 7)) (C := RX7) (T := TX7) (N := 19) hx hb hts inw_X7_isDigit_7 hown hK hP 0 rfl rfl 11 (by decide) (hts (.fieldLink RX7 28 "RingGamesModel" "text" "[C") (List.mem_of_getElem? (i := 3) rfl)) (fun _ h9 => h9) rfl dX7_isDigit_12 ?_
    refine lv_aload_n hx hb dX7_isDigit_15 rfl (lv_at hl 0 rfl) ?_
    refine va_get (D := D) (ci := 7) (v := .int mat) (C := RX7) (T := TX7) (N := 19) hx hb hts inw_X7_isDigit_7 hown hK hP 0 rfl rfl 12 (by decide) (hts (.fieldLink RX7 129 "RingGamesModel" "at" "I") (List.mem_of_getElem? (i := 1) rfl)) (fun _ h9 => h9) rfl dX7_isDigit_16 ?_
    obtain ⟨g2, hf⟩ := vg_some hf
    refine va_cald hx hb hK hP 7 1 rfl rfl g2 dX7_isDigit_19 ?_
    refine lv_bipush (v := 48) hx hb dX7_isDigit_20 (by decide) ?_
    refine lv_bipush (v := 57) hx hb dX7_isDigit_22 (by decide) ?_
    obtain ⟨q3, hq3, hf⟩ := ob_some hf
    refine xcSi S hK hN hA hP hD hS (c_X7_in l D cI cC cS ((w_M a0 cI cC mnow mhistory mkept mslot misFilled mgame mmeasures mmost mnumbers mround mtyped mtext mat mnumber mreads mbeyond mjudgedTo mreach mgoes) ++ R) (mtext (mat).toNatClampNeg) 48 57 _ hq3) gX7_isDigit_X7_in rfl hd_X7_in ⟨by decide, by decide⟩ rfl hl.1 rfl (Nat.le_of_ble_eq_true rfl) dX7_isDigit_24 ⟨Nat.zero_le _, Nat.zero_le _⟩ (fun H locs hP hD hS => ?_)
    refine lv_if_eq (tgt := 34) hx hb dX7_isDigit_27 (by decide) (fun c4 => ?_) (fun c4 => ?_)
    · have hf := if_t hf c4
      refine lv_iconst (v := 0) hx hb dX7_isDigit_34 (by decide) ?_
      have hf := Option.some.inj hf
      subst hf
      exact hret _ _ _ _ _ dX7_isDigit_35 rfl hP hD hS rfl
    · have hf := if_f hf c4
      refine lv_iconst (v := 1) hx hb dX7_isDigit_30 (by decide) ?_
      refine lv_goto (tgt := 35) hx hb dX7_isDigit_31 (by decide) ?_
      have hf := Option.some.inj hf
      subst hf
      exact hret _ _ _ _ _ dX7_isDigit_35 rfl hP hD hS rfl
def f_X7_takes (mtyped : Int32) (mtext : (Nat → Int32)) (mat : Int32) (p1 : Int32) : Option (Int32 × Int32) := ((if mtyped ≤ mat then some (0) else vg mat 60 ((if (mtext (mat).toNatClampNeg) = p1 then some (1) else some (0)))) : Option Int32).bind fun j2 => (if j2 = 0 then zg j2 (some (j2, (mat + 0))) else zg j2 (some (j2, (mat + 1))))
theorem inw_X7_takes_7 : ∀ w ∈ wsX70, w ∈ wsX7_takes := fun _ h => List.mem_cons_of_mem _ (List.mem_append_right _ h)
theorem hd_X7_takes : yX7_takes.cls = RX7 ∧ yX7_takes.cls ≠ "java/lang/invoke/MethodHandle" ∧ yX7_takes.cls ≠ "java/lang/invoke/VarHandle" ∧ (parseMethodDescriptor yX7_takes.desc).map (fun d => d.parameters.length) = some 1 := by decide +kernel
set_option maxHeartbeats 4000000 in
set_option maxRecDepth 100000 in
theorem c_X7_takes (l : Launch) (D : va_G) (cI cC cS : ClassId) (R : va_W) (a0 : Nat → Nat) (mnow : (Nat → Int32)) (mhistory : (Nat → Int32)) (mkept : Int32) (mslot : (Nat → Int32)) (misFilled : Int32) (mgame : Int32) (mmeasures : (Nat → Int32)) (mmost : (Nat → Int32)) (mnumbers : (Nat → Int32)) (mround : Int32) (mtyped : Int32) (mtext : (Nat → Int32)) (mat : Int32) (mnumber : Int32) (mreads : (Nat → Int32)) (mbeyond : Int32) (mjudgedTo : (Nat → Int32)) (mreach : (Nat → Int32)) (mgoes : (Nat → Int32)) (p1 : Int32) (r : Int32 × Int32) (hf : f_X7_takes mtyped mtext mat p1 = some r) : CI l yX7_takes wsX7_takes 0 0 D cI cC cS [.ref (a0 0), .int p1] ((w_M a0 cI cC mnow mhistory mkept mslot misFilled mgame mmeasures mmost mnumbers mround mtyped mtext mat mnumber mreads mbeyond mjudgedTo mreach mgoes) ++ R) r.1 ((w_M a0 cI cC mnow mhistory mkept mslot misFilled mgame mmeasures mmost mnumbers mround mtyped mtext r.2 mnumber mreads mbeyond mjudgedTo mreach mgoes) ++ R) := by
  refine XI.of (cc := cX7_takes) (maxL := 3) (ty := .boolean) (own := RX7) (by decide) rfl rfl (Nat.le_of_ble_eq_true rfl) ?_
  intro p e s m args below meth c A Q S hK hN hA hP hD hS ls hl hret
  obtain ⟨hx, hb, hml, hown, hts⟩ := id S
  have hl : lv_has ls 3 [(0, .ref (a0 0)), (1, .int p1)] := hl
  unfold f_X7_takes at hf
  refine lv_aload_n hx hb dX7_takes_0 rfl (lv_at hl 0 rfl) ?_
  refine va_get (D := D) (ci := 7) (v := .int mat) (C := RX7) (T := TX7) (N := 19) hx hb hts inw_X7_takes_7 hown hK hP 0 rfl rfl 12 (by decide) (hts (.fieldLink RX7 129 "RingGamesModel" "at" "I") (List.mem_of_getElem? (i := 1) rfl)) (fun _ h9 => h9) rfl dX7_takes_1 ?_
  refine lv_aload_n hx hb dX7_takes_4 rfl (lv_at hl 0 rfl) ?_
  refine va_get (D := D) (ci := 7) (v := .int mtyped) (C := RX7) (T := TX7) (N := 19) hx hb hts inw_X7_takes_7 hown hK hP 0 rfl rfl 10 (by decide) (hts (.fieldLink RX7 126 "RingGamesModel" "typed" "I") (List.mem_of_getElem? (i := 2) rfl)) (fun _ h9 => h9) rfl dX7_takes_5 ?_
  obtain ⟨j2, hj2, hf⟩ := ob_some hf
  have J3 : ∀ (H : Heap) (locs : List Loc), va_P D vwCl ((w_M a0 cI cC mnow mhistory mkept mslot misFilled mgame mmeasures mmost mnumbers mround mtyped mtext mat mnumber mreads mbeyond mjudgedTo mreach mgoes) ++ R) H → va_D A ((w_M a0 cI cC mnow mhistory mkept mslot misFilled mgame mmeasures mmost mnumbers mround mtyped mtext mat mnumber mreads mbeyond mjudgedTo mreach mgoes) ++ R) → va_S A s.heap H locs → ∀ ls : Array Slot, lv_has ls 3 [(0, .ref (a0 0))] → W p l e (xR 0 0) s m args below meth c H locs 0 0 Q (F0 m 29 ls [.int j2]) := by
    intro H locs hP hD hS ls hl
    refine lv_istore_n (lv' := [(2, .int j2), (0, .ref (a0 0))]) hx hb dX7_takes_29 rfl hl (by decide) rfl (fun ls hl => ?_)
    refine lv_aload_n hx hb dX7_takes_30 rfl (lv_at hl 1 rfl) ?_
    refine lv_dup hx hb dX7_takes_31 rfl ?_
    refine va_get (D := D) (ci := 7) (v := .int mat) (C := RX7) (T := TX7) (N := 19) hx hb hts inw_X7_takes_7 hown hK hP 0 rfl rfl 12 (by decide) (hts (.fieldLink RX7 129 "RingGamesModel" "at" "I") (List.mem_of_getElem? (i := 1) rfl)) (fun _ h9 => h9) rfl dX7_takes_32 ?_
    refine lv_iload_n hx hb dX7_takes_35 rfl (lv_at hl 0 rfl) ?_
    refine lv_if_eq (tgt := 43) hx hb dX7_takes_36 (by decide) (fun c4 => ?_) (fun c4 => ?_)
    · have hf := if_t hf c4
      refine lv_iconst (v := 0) hx hb dX7_takes_43 (by decide) ?_
      refine lv_iadd hx hb dX7_takes_44 ?_
      refine va_put (D := D) (ci := 7) (v := .int (mat + 0)) (ty := .int) (C := RX7) (T := TX7) (N := 19) hx hb hts inw_X7_takes_7 tyX7 tyX7_ok nmX7 hown hK hP hD hS 0 rfl rfl 12 (by decide) (hts (.fieldLink RX7 129 "RingGamesModel" "at" "I") (List.mem_of_getElem? (i := 1) rfl)) (fun _ h9 => h9) rfl (tyX7_ok 12 (by decide)) rfl rfl (Nat.le_of_ble_eq_true rfl) dX7_takes_45 (fun H locs hP hD hS => ?_)
      have hP : va_P D vwCl ((w_M a0 cI cC mnow mhistory mkept mslot misFilled mgame mmeasures mmost mnumbers mround mtyped mtext (mat + 0) mnumber mreads mbeyond mjudgedTo mreach mgoes) ++ R) H := hP
      have hD : va_D A ((w_M a0 cI cC mnow mhistory mkept mslot misFilled mgame mmeasures mmost mnumbers mround mtyped mtext (mat + 0) mnumber mreads mbeyond mjudgedTo mreach mgoes) ++ R) := hD
      refine lv_iload_n hx hb dX7_takes_48 rfl (lv_at hl 0 rfl) ?_
      obtain ⟨z5, hf⟩ := zg_some hf
      have hf := Option.some.inj hf
      subst hf
      exact hret _ _ _ _ _ dX7_takes_49 (z_nar z5) hP hD hS rfl
    · have hf := if_f hf c4
      refine lv_iconst (v := 1) hx hb dX7_takes_39 (by decide) ?_
      refine lv_goto (tgt := 44) hx hb dX7_takes_40 (by decide) ?_
      refine lv_iadd hx hb dX7_takes_44 ?_
      refine va_put (D := D) (ci := 7) (v := .int (mat + 1)) (ty := .int) (C := RX7) (T := TX7) (N := 19) hx hb hts inw_X7_takes_7 tyX7 tyX7_ok nmX7 hown hK hP hD hS 0 rfl rfl 12 (by decide) (hts (.fieldLink RX7 129 "RingGamesModel" "at" "I") (List.mem_of_getElem? (i := 1) rfl)) (fun _ h9 => h9) rfl (tyX7_ok 12 (by decide)) rfl rfl (Nat.le_of_ble_eq_true rfl) dX7_takes_45 (fun H locs hP hD hS => ?_)
      have hP : va_P D vwCl ((w_M a0 cI cC mnow mhistory mkept mslot misFilled mgame mmeasures mmost mnumbers mround mtyped mtext (mat + 1) mnumber mreads mbeyond mjudgedTo mreach mgoes) ++ R) H := hP
      have hD : va_D A ((w_M a0 cI cC mnow mhistory mkept mslot misFilled mgame mmeasures mmost mnumbers mround mtyped mtext (mat + 1) mnumber mreads mbeyond mjudgedTo mreach mgoes) ++ R) := hD
      refine lv_iload_n hx hb dX7_takes_48 rfl (lv_at hl 0 rfl) ?_
      obtain ⟨z6, hf⟩ := zg_some hf
      have hf := Option.some.inj hf
      subst hf
      exact hret _ _ _ _ _ dX7_takes_49 (z_nar z6) hP hD hS rfl
  clear hf
  have hf := hj2
  refine lv_icmp_ge (tgt := 28) hx hb dX7_takes_8 (by decide) (fun c1 => ?_) (fun c1 => ?_)
  · have hf := if_t hf c1
    refine lv_iconst (v := 0) hx hb dX7_takes_28 (by decide) ?_
    have hf := Option.some.inj hf
    subst hf
    exact J3 _ _ hP hD hS _ (lv_sub hl [0] rfl)
  · have hf := if_f hf c1
    refine lv_aload_n hx hb dX7_takes_11 rfl (lv_at hl 0 rfl) ?_
    refine va_get (D := D) (ci := 7) (v := .ref (a0 7)) (C := RX7) (T := TX7) (N := 19) hx hb hts inw_X7_takes_7 hown hK hP 0 rfl rfl 11 (by decide) (hts (.fieldLink RX7 28 "RingGamesModel" "text" "[C") (List.mem_of_getElem? (i := 3) rfl)) (fun _ h9 => h9) rfl dX7_takes_12 ?_
    refine lv_aload_n hx hb dX7_takes_15 rfl (lv_at hl 0 rfl) ?_
    refine va_get (D := D) (ci := 7) (v := .int mat) (C := RX7) (T := TX7) (N := 19) hx hb hts inw_X7_takes_7 hown hK hP 0 rfl rfl 12 (by decide) (hts (.fieldLink RX7 129 "RingGamesModel" "at" "I") (List.mem_of_getElem? (i := 1) rfl)) (fun _ h9 => h9) rfl dX7_takes_16 ?_
    obtain ⟨g7, hf⟩ := vg_some hf
    refine va_cald hx hb hK hP 7 1 rfl rfl g7 dX7_takes_19 ?_
    refine lv_iload_n hx hb dX7_takes_20 rfl (lv_at hl 1 rfl) ?_
    refine lv_icmp_ne (tgt := 28) hx hb dX7_takes_21 (by decide) (fun c8 => ?_) (fun c8 => ?_)
    · have hf := if_f hf c8
      refine lv_iconst (v := 0) hx hb dX7_takes_28 (by decide) ?_
      have hf := Option.some.inj hf
      subst hf
      exact J3 _ _ hP hD hS _ (lv_sub hl [0] rfl)
    · have hf := if_t hf c8
      refine lv_iconst (v := 1) hx hb dX7_takes_24 (by decide) ?_
      refine lv_goto (tgt := 29) hx hb dX7_takes_25 (by decide) ?_
      have hf := Option.some.inj hf
      subst hf
      exact J3 _ _ hP hD hS _ (lv_sub hl [0] rfl)
def f_X7_takesNumber (mtyped : Int32) (mtext : (Nat → Int32)) (mat : Int32) (mnumber : Int32) : Option (Int32 × Int32 × Int32) := (f_X7_isDigit mtyped mtext mat).bind fun q1 => (if q1 = 0 then some (0, mat, mnumber) else vg mat 60 ((if ((mtext (mat).toNatClampNeg) - 48) ≤ 0 then some (1, (mat + 1), ((mtext (mat).toNatClampNeg) - 48)) else (f_X7_isDigit mtyped mtext (mat + 1)).bind fun q5 => (if q5 = 0 then some (1, (mat + 1), ((mtext (mat).toNatClampNeg) - 48)) else vg (mat + 1) 60 (some (1, ((mat + 1) + 1), (((10 * ((mtext (mat).toNatClampNeg) - 48)) + (mtext ((mat + 1)).toNatClampNeg)) - 48)))))))
theorem inw_X7_takesNumber_7 : ∀ w ∈ wsX70, w ∈ wsX7_takesNumber := fun _ h => List.mem_cons_of_mem _ (List.mem_append_right _ h)
theorem hd_X7_takesNumber : yX7_takesNumber.cls = RX7 ∧ yX7_takesNumber.cls ≠ "java/lang/invoke/MethodHandle" ∧ yX7_takesNumber.cls ≠ "java/lang/invoke/VarHandle" ∧ (parseMethodDescriptor yX7_takesNumber.desc).map (fun d => d.parameters.length) = some 0 := by decide +kernel
set_option maxHeartbeats 4000000 in
set_option maxRecDepth 100000 in
theorem c_X7_takesNumber (l : Launch) (D : va_G) (cI cC cS : ClassId) (R : va_W) (a0 : Nat → Nat) (mnow : (Nat → Int32)) (mhistory : (Nat → Int32)) (mkept : Int32) (mslot : (Nat → Int32)) (misFilled : Int32) (mgame : Int32) (mmeasures : (Nat → Int32)) (mmost : (Nat → Int32)) (mnumbers : (Nat → Int32)) (mround : Int32) (mtyped : Int32) (mtext : (Nat → Int32)) (mat : Int32) (mnumber : Int32) (mreads : (Nat → Int32)) (mbeyond : Int32) (mjudgedTo : (Nat → Int32)) (mreach : (Nat → Int32)) (mgoes : (Nat → Int32)) (r : Int32 × Int32 × Int32) (hf : f_X7_takesNumber mtyped mtext mat mnumber = some r) : CI l yX7_takesNumber wsX7_takesNumber 2 42 D cI cC cS [.ref (a0 0)] ((w_M a0 cI cC mnow mhistory mkept mslot misFilled mgame mmeasures mmost mnumbers mround mtyped mtext mat mnumber mreads mbeyond mjudgedTo mreach mgoes) ++ R) r.1 ((w_M a0 cI cC mnow mhistory mkept mslot misFilled mgame mmeasures mmost mnumbers mround mtyped mtext r.2.1 r.2.2 mreads mbeyond mjudgedTo mreach mgoes) ++ R) := by
  refine XI.of (cc := cX7_takesNumber) (maxL := 1) (ty := .boolean) (own := RX7) (by decide) rfl rfl (Nat.le_of_ble_eq_true rfl) ?_
  intro p e s m args below meth c A Q S hK hN hA hP hD hS ls hl hret
  obtain ⟨hx, hb, hml, hown, hts⟩ := id S
  have hl : lv_has ls 1 [(0, .ref (a0 0))] := hl
  unfold f_X7_takesNumber at hf
  refine lv_aload_n hx hb dX7_takesNumber_0 rfl (lv_at hl 0 rfl) ?_
  obtain ⟨q1, hq1, hf⟩ := ob_some hf
  refine xcVi (w' := ((w_M a0 cI cC mnow mhistory mkept mslot misFilled mgame mmeasures mmost mnumbers mround mtyped mtext mat mnumber mreads mbeyond mjudgedTo mreach mgoes) ++ R)) S hK hN hA hP hD hS (c_X7_isDigit l D cI cC cS R a0 mnow mhistory mkept mslot misFilled mgame mmeasures mmost mnumbers mround mtyped mtext mat mnumber mreads mbeyond mjudgedTo mreach mgoes _ hq1) gX7_takesNumber_X7_isDigit rfl hd_X7_isDigit ⟨by decide, by decide⟩ (List.Perm.refl _) (List.Perm.refl _) (ci := 7) (q := (RX7, TX7, 19)) rfl rfl rfl rfl hl.1 rfl (Nat.le_of_ble_eq_true rfl) dX7_takesNumber_1 ⟨Nat.zero_le _, Nat.zero_le _⟩ (fun H locs hP hD hS => ?_)
  refine lv_if_ne (tgt := 9) hx hb dX7_takesNumber_4 (by decide) (fun c2 => ?_) (fun c2 => ?_)
  · have hf := if_f hf c2
    refine lv_aload_n hx hb dX7_takesNumber_9 rfl (lv_at hl 0 rfl) ?_
    refine lv_aload_n hx hb dX7_takesNumber_10 rfl (lv_at hl 0 rfl) ?_
    refine va_get (D := D) (ci := 7) (v := .ref (a0 7)) (C := RX7) (T := TX7) (N := 19) hx hb hts inw_X7_takesNumber_7 hown hK hP 0 rfl rfl 11 (by decide) (hts (.fieldLink RX7 28 "RingGamesModel" "text" "[C") (List.mem_of_getElem? (i := 1) rfl)) (fun _ h9 => h9) rfl dX7_takesNumber_11 ?_
    refine lv_aload_n hx hb dX7_takesNumber_14 rfl (lv_at hl 0 rfl) ?_
    refine va_get (D := D) (ci := 7) (v := .int mat) (C := RX7) (T := TX7) (N := 19) hx hb hts inw_X7_takesNumber_7 hown hK hP 0 rfl rfl 12 (by decide) (hts (.fieldLink RX7 129 "RingGamesModel" "at" "I") (List.mem_of_getElem? (i := 2) rfl)) (fun _ h9 => h9) rfl dX7_takesNumber_15 ?_
    obtain ⟨g3, hf⟩ := vg_some hf
    refine va_cald hx hb hK hP 7 1 rfl rfl g3 dX7_takesNumber_18 ?_
    refine lv_bipush (v := 48) hx hb dX7_takesNumber_19 (by decide) ?_
    refine lv_isub hx hb dX7_takesNumber_21 ?_
    refine va_put (D := D) (ci := 7) (v := .int ((mtext (mat).toNatClampNeg) - 48)) (ty := .int) (C := RX7) (T := TX7) (N := 19) hx hb hts inw_X7_takesNumber_7 tyX7 tyX7_ok nmX7 hown hK hP hD hS 0 rfl rfl 13 (by decide) (hts (.fieldLink RX7 136 "RingGamesModel" "number" "I") (List.mem_of_getElem? (i := 3) rfl)) (fun _ h9 => h9) rfl (tyX7_ok 13 (by decide)) rfl rfl (Nat.le_of_ble_eq_true rfl) dX7_takesNumber_22 (fun H locs hP hD hS => ?_)
    have hP : va_P D vwCl ((w_M a0 cI cC mnow mhistory mkept mslot misFilled mgame mmeasures mmost mnumbers mround mtyped mtext mat ((mtext (mat).toNatClampNeg) - 48) mreads mbeyond mjudgedTo mreach mgoes) ++ R) H := hP
    have hD : va_D A ((w_M a0 cI cC mnow mhistory mkept mslot misFilled mgame mmeasures mmost mnumbers mround mtyped mtext mat ((mtext (mat).toNatClampNeg) - 48) mreads mbeyond mjudgedTo mreach mgoes) ++ R) := hD
    refine lv_aload_n hx hb dX7_takesNumber_25 rfl (lv_at hl 0 rfl) ?_
    refine lv_dup hx hb dX7_takesNumber_26 rfl ?_
    refine va_get (D := D) (ci := 7) (v := .int mat) (C := RX7) (T := TX7) (N := 19) hx hb hts inw_X7_takesNumber_7 hown hK hP 0 rfl rfl 12 (by decide) (hts (.fieldLink RX7 129 "RingGamesModel" "at" "I") (List.mem_of_getElem? (i := 2) rfl)) (fun _ h9 => h9) rfl dX7_takesNumber_27 ?_
    refine lv_iconst (v := 1) hx hb dX7_takesNumber_30 (by decide) ?_
    refine lv_iadd hx hb dX7_takesNumber_31 ?_
    refine va_put (D := D) (ci := 7) (v := .int (mat + 1)) (ty := .int) (C := RX7) (T := TX7) (N := 19) hx hb hts inw_X7_takesNumber_7 tyX7 tyX7_ok nmX7 hown hK hP hD hS 0 rfl rfl 12 (by decide) (hts (.fieldLink RX7 129 "RingGamesModel" "at" "I") (List.mem_of_getElem? (i := 2) rfl)) (fun _ h9 => h9) rfl (tyX7_ok 12 (by decide)) rfl rfl (Nat.le_of_ble_eq_true rfl) dX7_takesNumber_32 (fun H locs hP hD hS => ?_)
    have hP : va_P D vwCl ((w_M a0 cI cC mnow mhistory mkept mslot misFilled mgame mmeasures mmost mnumbers mround mtyped mtext (mat + 1) ((mtext (mat).toNatClampNeg) - 48) mreads mbeyond mjudgedTo mreach mgoes) ++ R) H := hP
    have hD : va_D A ((w_M a0 cI cC mnow mhistory mkept mslot misFilled mgame mmeasures mmost mnumbers mround mtyped mtext (mat + 1) ((mtext (mat).toNatClampNeg) - 48) mreads mbeyond mjudgedTo mreach mgoes) ++ R) := hD
    refine lv_aload_n hx hb dX7_takesNumber_35 rfl (lv_at hl 0 rfl) ?_
    refine va_get (D := D) (ci := 7) (v := .int ((mtext (mat).toNatClampNeg) - 48)) (C := RX7) (T := TX7) (N := 19) hx hb hts inw_X7_takesNumber_7 hown hK hP 0 rfl rfl 13 (by decide) (hts (.fieldLink RX7 136 "RingGamesModel" "number" "I") (List.mem_of_getElem? (i := 3) rfl)) (fun _ h9 => h9) rfl dX7_takesNumber_36 ?_
    refine lv_if_le (tgt := 83) hx hb dX7_takesNumber_39 (by decide) (fun c4 => ?_) (fun c4 => ?_)
    · have hf := if_t hf c4
      refine lv_iconst (v := 1) hx hb dX7_takesNumber_83 (by decide) ?_
      have hf := Option.some.inj hf
      subst hf
      exact hret _ _ _ _ _ dX7_takesNumber_84 rfl hP hD hS rfl
    · have hf := if_f hf c4
      refine lv_aload_n hx hb dX7_takesNumber_42 rfl (lv_at hl 0 rfl) ?_
      obtain ⟨q5, hq5, hf⟩ := ob_some hf
      refine xcVi (w' := ((w_M a0 cI cC mnow mhistory mkept mslot misFilled mgame mmeasures mmost mnumbers mround mtyped mtext (mat + 1) ((mtext (mat).toNatClampNeg) - 48) mreads mbeyond mjudgedTo mreach mgoes) ++ R)) S hK hN hA hP hD hS (c_X7_isDigit l D cI cC cS R a0 mnow mhistory mkept mslot misFilled mgame mmeasures mmost mnumbers mround mtyped mtext (mat + 1) ((mtext (mat).toNatClampNeg) - 48) mreads mbeyond mjudgedTo mreach mgoes _ hq5) gX7_takesNumber_X7_isDigit rfl hd_X7_isDigit ⟨by decide, by decide⟩ (List.Perm.refl _) (List.Perm.refl _) (ci := 7) (q := (RX7, TX7, 19)) rfl rfl rfl rfl hl.1 rfl (Nat.le_of_ble_eq_true rfl) dX7_takesNumber_43 ⟨Nat.zero_le _, Nat.zero_le _⟩ (fun H locs hP hD hS => ?_)
      refine lv_if_eq (tgt := 83) hx hb dX7_takesNumber_46 (by decide) (fun c6 => ?_) (fun c6 => ?_)
      · have hf := if_t hf c6
        refine lv_iconst (v := 1) hx hb dX7_takesNumber_83 (by decide) ?_
        have hf := Option.some.inj hf
        subst hf
        exact hret _ _ _ _ _ dX7_takesNumber_84 rfl hP hD hS rfl
      · have hf := if_f hf c6
        refine lv_aload_n hx hb dX7_takesNumber_49 rfl (lv_at hl 0 rfl) ?_
        refine lv_bipush (v := 10) hx hb dX7_takesNumber_50 (by decide) ?_
        refine lv_aload_n hx hb dX7_takesNumber_52 rfl (lv_at hl 0 rfl) ?_
        refine va_get (D := D) (ci := 7) (v := .int ((mtext (mat).toNatClampNeg) - 48)) (C := RX7) (T := TX7) (N := 19) hx hb hts inw_X7_takesNumber_7 hown hK hP 0 rfl rfl 13 (by decide) (hts (.fieldLink RX7 136 "RingGamesModel" "number" "I") (List.mem_of_getElem? (i := 3) rfl)) (fun _ h9 => h9) rfl dX7_takesNumber_53 ?_
        refine lv_imul hx hb dX7_takesNumber_56 ?_
        refine lv_aload_n hx hb dX7_takesNumber_57 rfl (lv_at hl 0 rfl) ?_
        refine va_get (D := D) (ci := 7) (v := .ref (a0 7)) (C := RX7) (T := TX7) (N := 19) hx hb hts inw_X7_takesNumber_7 hown hK hP 0 rfl rfl 11 (by decide) (hts (.fieldLink RX7 28 "RingGamesModel" "text" "[C") (List.mem_of_getElem? (i := 1) rfl)) (fun _ h9 => h9) rfl dX7_takesNumber_58 ?_
        refine lv_aload_n hx hb dX7_takesNumber_61 rfl (lv_at hl 0 rfl) ?_
        refine va_get (D := D) (ci := 7) (v := .int (mat + 1)) (C := RX7) (T := TX7) (N := 19) hx hb hts inw_X7_takesNumber_7 hown hK hP 0 rfl rfl 12 (by decide) (hts (.fieldLink RX7 129 "RingGamesModel" "at" "I") (List.mem_of_getElem? (i := 2) rfl)) (fun _ h9 => h9) rfl dX7_takesNumber_62 ?_
        obtain ⟨g7, hf⟩ := vg_some hf
        refine va_cald hx hb hK hP 7 1 rfl rfl g7 dX7_takesNumber_65 ?_
        refine lv_iadd hx hb dX7_takesNumber_66 ?_
        refine lv_bipush (v := 48) hx hb dX7_takesNumber_67 (by decide) ?_
        refine lv_isub hx hb dX7_takesNumber_69 ?_
        refine va_put (D := D) (ci := 7) (v := .int (((10 * ((mtext (mat).toNatClampNeg) - 48)) + (mtext ((mat + 1)).toNatClampNeg)) - 48)) (ty := .int) (C := RX7) (T := TX7) (N := 19) hx hb hts inw_X7_takesNumber_7 tyX7 tyX7_ok nmX7 hown hK hP hD hS 0 rfl rfl 13 (by decide) (hts (.fieldLink RX7 136 "RingGamesModel" "number" "I") (List.mem_of_getElem? (i := 3) rfl)) (fun _ h9 => h9) rfl (tyX7_ok 13 (by decide)) rfl rfl (Nat.le_of_ble_eq_true rfl) dX7_takesNumber_70 (fun H locs hP hD hS => ?_)
        have hP : va_P D vwCl ((w_M a0 cI cC mnow mhistory mkept mslot misFilled mgame mmeasures mmost mnumbers mround mtyped mtext (mat + 1) (((10 * ((mtext (mat).toNatClampNeg) - 48)) + (mtext ((mat + 1)).toNatClampNeg)) - 48) mreads mbeyond mjudgedTo mreach mgoes) ++ R) H := hP
        have hD : va_D A ((w_M a0 cI cC mnow mhistory mkept mslot misFilled mgame mmeasures mmost mnumbers mround mtyped mtext (mat + 1) (((10 * ((mtext (mat).toNatClampNeg) - 48)) + (mtext ((mat + 1)).toNatClampNeg)) - 48) mreads mbeyond mjudgedTo mreach mgoes) ++ R) := hD
        refine lv_aload_n hx hb dX7_takesNumber_73 rfl (lv_at hl 0 rfl) ?_
        refine lv_dup hx hb dX7_takesNumber_74 rfl ?_
        refine va_get (D := D) (ci := 7) (v := .int (mat + 1)) (C := RX7) (T := TX7) (N := 19) hx hb hts inw_X7_takesNumber_7 hown hK hP 0 rfl rfl 12 (by decide) (hts (.fieldLink RX7 129 "RingGamesModel" "at" "I") (List.mem_of_getElem? (i := 2) rfl)) (fun _ h9 => h9) rfl dX7_takesNumber_75 ?_
        refine lv_iconst (v := 1) hx hb dX7_takesNumber_78 (by decide) ?_
        refine lv_iadd hx hb dX7_takesNumber_79 ?_
        refine va_put (D := D) (ci := 7) (v := .int ((mat + 1) + 1)) (ty := .int) (C := RX7) (T := TX7) (N := 19) hx hb hts inw_X7_takesNumber_7 tyX7 tyX7_ok nmX7 hown hK hP hD hS 0 rfl rfl 12 (by decide) (hts (.fieldLink RX7 129 "RingGamesModel" "at" "I") (List.mem_of_getElem? (i := 2) rfl)) (fun _ h9 => h9) rfl (tyX7_ok 12 (by decide)) rfl rfl (Nat.le_of_ble_eq_true rfl) dX7_takesNumber_80 (fun H locs hP hD hS => ?_)
        have hP : va_P D vwCl ((w_M a0 cI cC mnow mhistory mkept mslot misFilled mgame mmeasures mmost mnumbers mround mtyped mtext ((mat + 1) + 1) (((10 * ((mtext (mat).toNatClampNeg) - 48)) + (mtext ((mat + 1)).toNatClampNeg)) - 48) mreads mbeyond mjudgedTo mreach mgoes) ++ R) H := hP
        have hD : va_D A ((w_M a0 cI cC mnow mhistory mkept mslot misFilled mgame mmeasures mmost mnumbers mround mtyped mtext ((mat + 1) + 1) (((10 * ((mtext (mat).toNatClampNeg) - 48)) + (mtext ((mat + 1)).toNatClampNeg)) - 48) mreads mbeyond mjudgedTo mreach mgoes) ++ R) := hD
        refine lv_iconst (v := 1) hx hb dX7_takesNumber_83 (by decide) ?_
        have hf := Option.some.inj hf
        subst hf
        exact hret _ _ _ _ _ dX7_takesNumber_84 rfl hP hD hS rfl
  · have hf := if_t hf c2
    refine lv_iconst (v := 0) hx hb dX7_takesNumber_7 (by decide) ?_
    have hf := Option.some.inj hf
    subst hf
    exact hret _ _ _ _ _ dX7_takesNumber_8 rfl hP hD hS rfl
def f_X7_isRead_L12 : Nat → Int32 → (Nat → Int32) → Option (Nat → Int32)
  | 0, _, _ => none
  | k + 1, d_l1, d_mreads => (if 14 ≤ d_l1 then some (d_mreads) else vg d_l1 100 (f_X7_isRead_L12 k (d_l1 + 1) (upd d_mreads (d_l1).toNatClampNeg 0)))
def f_X7_isRead_L86 (d_mnow : (Nat → Int32)) (d_mtyped : Int32) (d_mtext : (Nat → Int32)) (d_l2 : Int32) : Nat → Int32 → Int32 → Int32 → (Nat → Int32) → Int32 → Option ((Int32 × Int32 × Int32 × (Nat → Int32) × Int32) ⊕ (Int32 × Int32 × (Nat → Int32) × Int32))
  | 0, _, _, _, _, _ => none
  | k + 1, d_l3, d_mat, d_mnumber, d_mreads, d_mbeyond => (if d_l3 = 0 then some (Sum.inr (d_mat, d_mnumber, d_mreads, d_mbeyond)) else (f_X7_takesNumber d_mtyped d_mtext d_mat d_mnumber).bind fun q15 => (if q15.1 = 0 then some (Sum.inl (0, q15.2.1, q15.2.2, d_mreads, d_mbeyond)) else (f_X7_no d_mnow q15.2.2).bind fun q17 => ((if q17 = 0 then some (0) else some (1)) : Option Int32).bind fun j19 => vg d_l2 100 ((f_X7_no d_mnow q15.2.2).bind fun q22 => ((if q22 = 0 then some ((jshl 1 q15.2.2)) else some (0)) : Option Int32).bind fun j24 => (f_X7_takes d_mtyped d_mtext q15.2.1 44).bind fun q26 => f_X7_isRead_L86 d_mnow d_mtyped d_mtext d_l2 k q26.1 q26.2 q15.2.2 (upd d_mreads (d_l2).toNatClampNeg ((d_mreads (d_l2).toNatClampNeg) ||| j24)) (d_mbeyond + j19))))
def f_X7_isRead_L33 (n : Nat) (d_mnow : (Nat → Int32)) (d_mtyped : Int32) (d_mtext : (Nat → Int32)) : Nat → Int32 → Int32 → Int32 → (Nat → Int32) → Int32 → Option (Int32 × Int32 × Int32 × (Nat → Int32) × Int32)
  | 0, _, _, _, _, _ => none
  | k + 1, d_l1, d_mat, d_mnumber, d_mreads, d_mbeyond => (if d_l1 = 0 then some (1, d_mat, d_mnumber, d_mreads, d_mbeyond) else (f_X7_takesNumber d_mtyped d_mtext d_mat d_mnumber).bind fun q6 => (if q6.1 = 0 then some (0, q6.2.1, q6.2.2, d_mreads, d_mbeyond) else (f_X7_no d_mnow q6.2.2).bind fun q8 => ((if q8 = 0 then some (0) else some (1)) : Option Int32).bind fun j10 => (f_X7_takes d_mtyped d_mtext q6.2.1 62).bind fun q12 => (if q12.1 = 0 then some (0, q12.2, q6.2.2, d_mreads, (d_mbeyond + j10)) else (f_X7_isRead_L86 d_mnow d_mtyped d_mtext q6.2.2 n 1 q12.2 q6.2.2 d_mreads (d_mbeyond + j10)).bind fun q15 => Sum.elim (fun rr => some rr) (fun q29 => ((if d_mtyped ≤ q29.1 then some (0) else some (1)) : Option Int32).bind fun j31 => (if j31 = 0 then f_X7_isRead_L33 n d_mnow d_mtyped d_mtext k j31 q29.1 q29.2.1 q29.2.2.1 q29.2.2.2 else (f_X7_takes d_mtyped d_mtext q29.1 59).bind fun q34 => (if q34.1 = 0 then some (0, q34.2, q29.2.1, q29.2.2.1, q29.2.2.2) else f_X7_isRead_L33 n d_mnow d_mtyped d_mtext k j31 q34.2 q29.2.1 q29.2.2.1 q29.2.2.2))) q15)))
def f_X7_isRead (n : Nat) (mnow : (Nat → Int32)) (mtyped : Int32) (mtext : (Nat → Int32)) (mnumber : Int32) (mreads : (Nat → Int32)) : Option (Int32 × Int32 × Int32 × (Nat → Int32) × Int32) := (f_X7_isRead_L12 n 0 mreads).bind fun q2 => f_X7_isRead_L33 n mnow mtyped mtext n 1 0 mnumber q2 0
theorem inw_X7_isRead_7 : ∀ w ∈ wsX70, w ∈ wsX7_isRead := fun _ h => List.mem_cons_of_mem _ (List.mem_append_right _ h)
theorem hd_X7_isRead : yX7_isRead.cls = RX7 ∧ yX7_isRead.cls ≠ "java/lang/invoke/MethodHandle" ∧ yX7_isRead.cls ≠ "java/lang/invoke/VarHandle" ∧ (parseMethodDescriptor yX7_isRead.desc).map (fun d => d.parameters.length) = some 0 := by decide +kernel
set_option maxHeartbeats 4000000 in
set_option maxRecDepth 100000 in
theorem c_X7_isRead (l : Launch) (D : va_G) (cI cC cS : ClassId) (R : va_W) (a0 : Nat → Nat) (mnow : (Nat → Int32)) (mhistory : (Nat → Int32)) (mkept : Int32) (mslot : (Nat → Int32)) (misFilled : Int32) (mgame : Int32) (mmeasures : (Nat → Int32)) (mmost : (Nat → Int32)) (mnumbers : (Nat → Int32)) (mround : Int32) (mtyped : Int32) (mtext : (Nat → Int32)) (mat : Int32) (mnumber : Int32) (mreads : (Nat → Int32)) (mbeyond : Int32) (mjudgedTo : (Nat → Int32)) (mreach : (Nat → Int32)) (mgoes : (Nat → Int32)) (n : Nat) (r : Int32 × Int32 × Int32 × (Nat → Int32) × Int32) (hf : f_X7_isRead n mnow mtyped mtext mnumber mreads = some r) : CI l yX7_isRead wsX7_isRead 3 62 D cI cC cS [.ref (a0 0)] ((w_M a0 cI cC mnow mhistory mkept mslot misFilled mgame mmeasures mmost mnumbers mround mtyped mtext mat mnumber mreads mbeyond mjudgedTo mreach mgoes) ++ R) r.1 ((w_M a0 cI cC mnow mhistory mkept mslot misFilled mgame mmeasures mmost mnumbers mround mtyped mtext r.2.1 r.2.2.1 r.2.2.2.1 r.2.2.2.2 mjudgedTo mreach mgoes) ++ R) := by
  refine XI.of (cc := cX7_isRead) (maxL := 4) (ty := .boolean) (own := RX7) (by decide) rfl rfl (Nat.le_of_ble_eq_true rfl) ?_
  intro p e s m args below meth c A Q S hK hN hA hP hD hS ls hl hret
  obtain ⟨hx, hb, hml, hown, hts⟩ := id S
  have hl : lv_has ls 4 [(0, .ref (a0 0))] := hl
  unfold f_X7_isRead at hf
  refine lv_aload_n hx hb dX7_isRead_0 rfl (lv_at hl 0 rfl) ?_
  refine lv_iconst (v := 0) hx hb dX7_isRead_1 (by decide) ?_
  refine va_put (D := D) (ci := 7) (v := .int 0) (ty := .int) (C := RX7) (T := TX7) (N := 19) hx hb hts inw_X7_isRead_7 tyX7 tyX7_ok nmX7 hown hK hP hD hS 0 rfl rfl 12 (by decide) (hts (.fieldLink RX7 129 "RingGamesModel" "at" "I") (List.mem_of_getElem? (i := 1) rfl)) (fun _ h9 => h9) rfl (tyX7_ok 12 (by decide)) rfl rfl (Nat.le_of_ble_eq_true rfl) dX7_isRead_2 (fun H locs hP hD hS => ?_)
  have hP : va_P D vwCl ((w_M a0 cI cC mnow mhistory mkept mslot misFilled mgame mmeasures mmost mnumbers mround mtyped mtext 0 mnumber mreads mbeyond mjudgedTo mreach mgoes) ++ R) H := hP
  have hD : va_D A ((w_M a0 cI cC mnow mhistory mkept mslot misFilled mgame mmeasures mmost mnumbers mround mtyped mtext 0 mnumber mreads mbeyond mjudgedTo mreach mgoes) ++ R) := hD
  refine lv_aload_n hx hb dX7_isRead_5 rfl (lv_at hl 0 rfl) ?_
  refine lv_iconst (v := 0) hx hb dX7_isRead_6 (by decide) ?_
  refine va_put (D := D) (ci := 7) (v := .int 0) (ty := .int) (C := RX7) (T := TX7) (N := 19) hx hb hts inw_X7_isRead_7 tyX7 tyX7_ok nmX7 hown hK hP hD hS 0 rfl rfl 15 (by decide) (hts (.fieldLink RX7 139 "RingGamesModel" "beyond" "I") (List.mem_of_getElem? (i := 2) rfl)) (fun _ h9 => h9) rfl (tyX7_ok 15 (by decide)) rfl rfl (Nat.le_of_ble_eq_true rfl) dX7_isRead_7 (fun H locs hP hD hS => ?_)
  have hP : va_P D vwCl ((w_M a0 cI cC mnow mhistory mkept mslot misFilled mgame mmeasures mmost mnumbers mround mtyped mtext 0 mnumber mreads 0 mjudgedTo mreach mgoes) ++ R) H := hP
  have hD : va_D A ((w_M a0 cI cC mnow mhistory mkept mslot misFilled mgame mmeasures mmost mnumbers mround mtyped mtext 0 mnumber mreads 0 mjudgedTo mreach mgoes) ++ R) := hD
  refine lv_iconst (v := 0) hx hb dX7_isRead_10 (by decide) ?_
  refine lv_istore_n (lv' := [(1, .int 0), (0, .ref (a0 0))]) hx hb dX7_isRead_11 rfl hl (by decide) rfl (fun ls hl => ?_)
  obtain ⟨q2, hq2, hf⟩ := ob_some hf
  have L1 : ∀ (k : Nat) (v_l1_L1 : Int32) (v_mreads_L1 : (Nat → Int32)) (q_L1 : (Nat → Int32)), f_X7_isRead_L12 k v_l1_L1 v_mreads_L1 = some q_L1 → ∀ (H : Heap) (locs : List Loc), va_P D vwCl ((w_M a0 cI cC mnow mhistory mkept mslot misFilled mgame mmeasures mmost mnumbers mround mtyped mtext 0 mnumber v_mreads_L1 0 mjudgedTo mreach mgoes) ++ R) H → va_D A ((w_M a0 cI cC mnow mhistory mkept mslot misFilled mgame mmeasures mmost mnumbers mround mtyped mtext 0 mnumber v_mreads_L1 0 mjudgedTo mreach mgoes) ++ R) → va_S A s.heap H locs → ∀ ls : Array Slot, lv_has ls 4 [(0, .ref (a0 0)), (1, .int v_l1_L1)] → (∀ (H : Heap) (locs : List Loc), va_P D vwCl ((w_M a0 cI cC mnow mhistory mkept mslot misFilled mgame mmeasures mmost mnumbers mround mtyped mtext 0 mnumber q_L1 0 mjudgedTo mreach mgoes) ++ R) H → va_D A ((w_M a0 cI cC mnow mhistory mkept mslot misFilled mgame mmeasures mmost mnumbers mround mtyped mtext 0 mnumber q_L1 0 mjudgedTo mreach mgoes) ++ R) → va_S A s.heap H locs → ∀ ls : Array Slot, lv_has ls 4 [(0, .ref (a0 0))] → W p l e (xR 3 62) s m args below meth c H locs 0 0 Q (F0 m 31 ls [])) → W p l e (xR 3 62) s m args below meth c H locs 0 0 Q (F0 m 12 ls []) := by
    intro k
    induction k with
    | zero => intro v_l1_L1 v_mreads_L1 q_L1 hf; simp [f_X7_isRead_L12] at hf
    | succ k ih =>
      intro v_l1_L1 v_mreads_L1 q_L1 hf H locs hP hD hS ls hl kx
      rw [f_X7_isRead_L12] at hf
      refine lv_iload_n hx hb dX7_isRead_12 rfl (lv_at hl 1 rfl) ?_
      refine lv_bipush (v := 14) hx hb dX7_isRead_13 (by decide) ?_
      refine lv_icmp_ge (tgt := 31) hx hb dX7_isRead_15 (by decide) (fun c3 => ?_) (fun c3 => ?_)
      · have hf := if_t hf c3
        have hf := Option.some.inj hf
        subst hf
        exact kx _ _ hP hD hS _ (lv_sub hl [0] rfl)
      · have hf := if_f hf c3
        refine lv_aload_n hx hb dX7_isRead_18 rfl (lv_at hl 0 rfl) ?_
        refine va_get (D := D) (ci := 7) (v := .ref (a0 8)) (C := RX7) (T := TX7) (N := 19) hx hb hts inw_X7_isRead_7 hown hK hP 0 rfl rfl 14 (by decide) (hts (.fieldLink RX7 32 "RingGamesModel" "reads" "[I") (List.mem_of_getElem? (i := 3) rfl)) (fun _ h9 => h9) rfl dX7_isRead_19 ?_
        refine lv_iload_n hx hb dX7_isRead_22 rfl (lv_at hl 1 rfl) ?_
        refine lv_iconst (v := 0) hx hb dX7_isRead_23 (by decide) ?_
        obtain ⟨g4, hf⟩ := vg_some hf
        refine va_iast hx hb hK hP hD hS 8 0 rfl rfl g4 dX7_isRead_24 (fun H locs hP hD hS => ?_)
        have hP : va_P D vwCl ((w_M a0 cI cC mnow mhistory mkept mslot misFilled mgame mmeasures mmost mnumbers mround mtyped mtext 0 mnumber (upd v_mreads_L1 (v_l1_L1).toNatClampNeg 0) 0 mjudgedTo mreach mgoes) ++ R) H := hP
        have hD : va_D A ((w_M a0 cI cC mnow mhistory mkept mslot misFilled mgame mmeasures mmost mnumbers mround mtyped mtext 0 mnumber (upd v_mreads_L1 (v_l1_L1).toNatClampNeg 0) 0 mjudgedTo mreach mgoes) ++ R) := hD
        refine lv_iinc (v := (v_l1_L1 + 1)) (lv' := [(1, .int (v_l1_L1 + 1)), (0, .ref (a0 0))]) hx hb dX7_isRead_25 hl (k := 1) rfl (congrArg (fun z => v_l1_L1 + z) (by decide)) (by decide) rfl (fun ls hl => ?_)
        refine lv_goto (tgt := 12) hx hb dX7_isRead_28 (by decide) ?_
        exact ih (v_l1_L1 + 1) (upd v_mreads_L1 (v_l1_L1).toNatClampNeg 0) _ hf _ _ hP hD hS _ (lv_sub hl [1, 0] rfl) kx
  refine L1 n 0 mreads q2 hq2 _ _ hP hD hS _ (lv_sub hl [1, 0] rfl) ?_
  clear hP hD hS hl
  intro H locs hP hD hS ls hl
  refine lv_iconst (v := 1) hx hb dX7_isRead_31 (by decide) ?_
  refine lv_istore_n (lv' := [(1, .int 1), (0, .ref (a0 0))]) hx hb dX7_isRead_32 rfl hl (by decide) rfl (fun ls hl => ?_)
  have L5 : ∀ (k : Nat) (v_l1_L5 : Int32) (v_mat_L5 : Int32) (v_mnumber_L5 : Int32) (v_mreads_L5 : (Nat → Int32)) (v_mbeyond_L5 : Int32), f_X7_isRead_L33 n mnow mtyped mtext k v_l1_L5 v_mat_L5 v_mnumber_L5 v_mreads_L5 v_mbeyond_L5 = some r → ∀ (H : Heap) (locs : List Loc), va_P D vwCl ((w_M a0 cI cC mnow mhistory mkept mslot misFilled mgame mmeasures mmost mnumbers mround mtyped mtext v_mat_L5 v_mnumber_L5 v_mreads_L5 v_mbeyond_L5 mjudgedTo mreach mgoes) ++ R) H → va_D A ((w_M a0 cI cC mnow mhistory mkept mslot misFilled mgame mmeasures mmost mnumbers mround mtyped mtext v_mat_L5 v_mnumber_L5 v_mreads_L5 v_mbeyond_L5 mjudgedTo mreach mgoes) ++ R) → va_S A s.heap H locs → ∀ ls : Array Slot, lv_has ls 4 [(0, .ref (a0 0)), (1, .int v_l1_L5)] → W p l e (xR 3 62) s m args below meth c H locs 0 0 Q (F0 m 33 ls []) := by
    intro k
    induction k with
    | zero => intro v_l1_L5 v_mat_L5 v_mnumber_L5 v_mreads_L5 v_mbeyond_L5 hf; simp [f_X7_isRead_L33] at hf
    | succ k ih =>
      intro v_l1_L5 v_mat_L5 v_mnumber_L5 v_mreads_L5 v_mbeyond_L5 hf H locs hP hD hS ls hl
      rw [f_X7_isRead_L33] at hf
      refine lv_iload_n hx hb dX7_isRead_33 rfl (lv_at hl 1 rfl) ?_
      refine lv_if_eq (tgt := 199) hx hb dX7_isRead_34 (by decide) (fun c7 => ?_) (fun c7 => ?_)
      · have hf := if_t hf c7
        refine lv_iconst (v := 1) hx hb dX7_isRead_199 (by decide) ?_
        have hf := Option.some.inj hf
        subst hf
        exact hret _ _ _ _ _ dX7_isRead_200 rfl hP hD hS rfl
      · have hf := if_f hf c7
        refine lv_aload_n hx hb dX7_isRead_37 rfl (lv_at hl 0 rfl) ?_
        obtain ⟨q8, hq8, hf⟩ := ob_some hf
        refine xcVi (w' := ((w_M a0 cI cC mnow mhistory mkept mslot misFilled mgame mmeasures mmost mnumbers mround mtyped mtext q8.2.1 q8.2.2 v_mreads_L5 v_mbeyond_L5 mjudgedTo mreach mgoes) ++ R)) S hK hN hA hP hD hS (c_X7_takesNumber l D cI cC cS R a0 mnow mhistory mkept mslot misFilled mgame mmeasures mmost mnumbers mround mtyped mtext v_mat_L5 v_mnumber_L5 v_mreads_L5 v_mbeyond_L5 mjudgedTo mreach mgoes _ hq8) gX7_isRead_X7_takesNumber rfl hd_X7_takesNumber ⟨by decide, by decide⟩ (List.Perm.refl _) (List.Perm.refl _) (ci := 7) (q := (RX7, TX7, 19)) rfl rfl rfl rfl hl.1 rfl (Nat.le_of_ble_eq_true rfl) dX7_isRead_38 ⟨Nat.zero_le _, Nat.zero_le _⟩ (fun H locs hP hD hS => ?_)
        refine lv_if_ne (tgt := 46) hx hb dX7_isRead_41 (by decide) (fun c9 => ?_) (fun c9 => ?_)
        · have hf := if_f hf c9
          refine lv_aload_n hx hb dX7_isRead_46 rfl (lv_at hl 0 rfl) ?_
          refine va_get (D := D) (ci := 7) (v := .int q8.2.2) (C := RX7) (T := TX7) (N := 19) hx hb hts inw_X7_isRead_7 hown hK hP 0 rfl rfl 13 (by decide) (hts (.fieldLink RX7 136 "RingGamesModel" "number" "I") (List.mem_of_getElem? (i := 4) rfl)) (fun _ h9 => h9) rfl dX7_isRead_47 ?_
          refine lv_istore_n (lv' := [(2, .int q8.2.2), (0, .ref (a0 0)), (1, .int v_l1_L5)]) hx hb dX7_isRead_50 rfl hl (by decide) rfl (fun ls hl => ?_)
          refine lv_aload_n hx hb dX7_isRead_51 rfl (lv_at hl 1 rfl) ?_
          refine lv_dup hx hb dX7_isRead_52 rfl ?_
          refine va_get (D := D) (ci := 7) (v := .int v_mbeyond_L5) (C := RX7) (T := TX7) (N := 19) hx hb hts inw_X7_isRead_7 hown hK hP 0 rfl rfl 15 (by decide) (hts (.fieldLink RX7 139 "RingGamesModel" "beyond" "I") (List.mem_of_getElem? (i := 2) rfl)) (fun _ h9 => h9) rfl dX7_isRead_53 ?_
          refine lv_aload_n hx hb dX7_isRead_56 rfl (lv_at hl 1 rfl) ?_
          refine lv_iload_n hx hb dX7_isRead_57 rfl (lv_at hl 0 rfl) ?_
          obtain ⟨q10, hq10, hf⟩ := ob_some hf
          refine xcVi (w' := ((w_M a0 cI cC mnow mhistory mkept mslot misFilled mgame mmeasures mmost mnumbers mround mtyped mtext q8.2.1 q8.2.2 v_mreads_L5 v_mbeyond_L5 mjudgedTo mreach mgoes) ++ R)) S hK hN hA hP hD hS (c_X7_no l D cI cC cS R a0 mnow mhistory mkept mslot misFilled mgame mmeasures mmost mnumbers mround mtyped mtext q8.2.1 q8.2.2 v_mreads_L5 v_mbeyond_L5 mjudgedTo mreach mgoes q8.2.2 _ hq10) gX7_isRead_X7_no rfl hd_X7_no ⟨by decide, by decide⟩ (List.Perm.refl _) (List.Perm.refl _) (ci := 7) (q := (RX7, TX7, 19)) rfl rfl rfl rfl hl.1 rfl (Nat.le_of_ble_eq_true rfl) dX7_isRead_58 ⟨Nat.zero_le _, Nat.zero_le _⟩ (fun H locs hP hD hS => ?_)
          obtain ⟨j12, hj12, hf⟩ := ob_some hf
          have J13 : ∀ (H : Heap) (locs : List Loc), va_P D vwCl ((w_M a0 cI cC mnow mhistory mkept mslot misFilled mgame mmeasures mmost mnumbers mround mtyped mtext q8.2.1 q8.2.2 v_mreads_L5 v_mbeyond_L5 mjudgedTo mreach mgoes) ++ R) H → va_D A ((w_M a0 cI cC mnow mhistory mkept mslot misFilled mgame mmeasures mmost mnumbers mround mtyped mtext q8.2.1 q8.2.2 v_mreads_L5 v_mbeyond_L5 mjudgedTo mreach mgoes) ++ R) → va_S A s.heap H locs → ∀ ls : Array Slot, lv_has ls 4 [(0, .ref (a0 0)), (2, .int q8.2.2)] → W p l e (xR 3 62) s m args below meth c H locs 0 0 Q (F0 m 69 ls [.int j12, .int v_mbeyond_L5, .ref (a0 0)]) := by
            intro H locs hP hD hS ls hl
            refine lv_iadd hx hb dX7_isRead_69 ?_
            refine va_put (D := D) (ci := 7) (v := .int (v_mbeyond_L5 + j12)) (ty := .int) (C := RX7) (T := TX7) (N := 19) hx hb hts inw_X7_isRead_7 tyX7 tyX7_ok nmX7 hown hK hP hD hS 0 rfl rfl 15 (by decide) (hts (.fieldLink RX7 139 "RingGamesModel" "beyond" "I") (List.mem_of_getElem? (i := 2) rfl)) (fun _ h9 => h9) rfl (tyX7_ok 15 (by decide)) rfl rfl (Nat.le_of_ble_eq_true rfl) dX7_isRead_70 (fun H locs hP hD hS => ?_)
            have hP : va_P D vwCl ((w_M a0 cI cC mnow mhistory mkept mslot misFilled mgame mmeasures mmost mnumbers mround mtyped mtext q8.2.1 q8.2.2 v_mreads_L5 (v_mbeyond_L5 + j12) mjudgedTo mreach mgoes) ++ R) H := hP
            have hD : va_D A ((w_M a0 cI cC mnow mhistory mkept mslot misFilled mgame mmeasures mmost mnumbers mround mtyped mtext q8.2.1 q8.2.2 v_mreads_L5 (v_mbeyond_L5 + j12) mjudgedTo mreach mgoes) ++ R) := hD
            refine lv_aload_n hx hb dX7_isRead_73 rfl (lv_at hl 0 rfl) ?_
            refine lv_bipush (v := 62) hx hb dX7_isRead_74 (by decide) ?_
            obtain ⟨q14, hq14, hf⟩ := ob_some hf
            refine xcVi (w' := ((w_M a0 cI cC mnow mhistory mkept mslot misFilled mgame mmeasures mmost mnumbers mround mtyped mtext q14.2 q8.2.2 v_mreads_L5 (v_mbeyond_L5 + j12) mjudgedTo mreach mgoes) ++ R)) S hK hN hA hP hD hS (c_X7_takes l D cI cC cS R a0 mnow mhistory mkept mslot misFilled mgame mmeasures mmost mnumbers mround mtyped mtext q8.2.1 q8.2.2 v_mreads_L5 (v_mbeyond_L5 + j12) mjudgedTo mreach mgoes 62 _ hq14) gX7_isRead_X7_takes rfl hd_X7_takes ⟨by decide, by decide⟩ (List.Perm.refl _) (List.Perm.refl _) (ci := 7) (q := (RX7, TX7, 19)) rfl rfl rfl rfl hl.1 rfl (Nat.le_of_ble_eq_true rfl) dX7_isRead_76 ⟨Nat.zero_le _, Nat.zero_le _⟩ (fun H locs hP hD hS => ?_)
            refine lv_if_ne (tgt := 84) hx hb dX7_isRead_79 (by decide) (fun c15 => ?_) (fun c15 => ?_)
            · have hf := if_f hf c15
              refine lv_iconst (v := 1) hx hb dX7_isRead_84 (by decide) ?_
              refine lv_istore_n (lv' := [(3, .int 1), (0, .ref (a0 0)), (2, .int q8.2.2)]) hx hb dX7_isRead_85 rfl hl (by decide) rfl (fun ls hl => ?_)
              obtain ⟨q17, hq17, hf⟩ := ob_some hf
              have L16 : ∀ (k : Nat) (v_l3_L16 : Int32) (v_mat_L16 : Int32) (v_mnumber_L16 : Int32) (v_mreads_L16 : (Nat → Int32)) (v_mbeyond_L16 : Int32) (o_L16 : (Int32 × Int32 × Int32 × (Nat → Int32) × Int32) ⊕ (Int32 × Int32 × (Nat → Int32) × Int32)), f_X7_isRead_L86 mnow mtyped mtext q8.2.2 k v_l3_L16 v_mat_L16 v_mnumber_L16 v_mreads_L16 v_mbeyond_L16 = some o_L16 → ∀ (H : Heap) (locs : List Loc), va_P D vwCl ((w_M a0 cI cC mnow mhistory mkept mslot misFilled mgame mmeasures mmost mnumbers mround mtyped mtext v_mat_L16 v_mnumber_L16 v_mreads_L16 v_mbeyond_L16 mjudgedTo mreach mgoes) ++ R) H → va_D A ((w_M a0 cI cC mnow mhistory mkept mslot misFilled mgame mmeasures mmost mnumbers mround mtyped mtext v_mat_L16 v_mnumber_L16 v_mreads_L16 v_mbeyond_L16 mjudgedTo mreach mgoes) ++ R) → va_S A s.heap H locs → ∀ ls : Array Slot, lv_has ls 4 [(0, .ref (a0 0)), (2, .int q8.2.2), (3, .int v_l3_L16)] → (∀ rr, o_L16 = Sum.inl rr → rr = r) → (∀ q_L16, o_L16 = Sum.inr q_L16 → ∀ (H : Heap) (locs : List Loc), va_P D vwCl ((w_M a0 cI cC mnow mhistory mkept mslot misFilled mgame mmeasures mmost mnumbers mround mtyped mtext q_L16.1 q_L16.2.1 q_L16.2.2.1 q_L16.2.2.2 mjudgedTo mreach mgoes) ++ R) H → va_D A ((w_M a0 cI cC mnow mhistory mkept mslot misFilled mgame mmeasures mmost mnumbers mround mtyped mtext q_L16.1 q_L16.2.1 q_L16.2.2.1 q_L16.2.2.2 mjudgedTo mreach mgoes) ++ R) → va_S A s.heap H locs → ∀ ls : Array Slot, lv_has ls 4 [(0, .ref (a0 0))] → W p l e (xR 3 62) s m args below meth c H locs 0 0 Q (F0 m 164 ls [])) → W p l e (xR 3 62) s m args below meth c H locs 0 0 Q (F0 m 86 ls []) := by
                intro k
                induction k with
                | zero => intro v_l3_L16 v_mat_L16 v_mnumber_L16 v_mreads_L16 v_mbeyond_L16 o_L16 hf; simp [f_X7_isRead_L86] at hf
                | succ k ih =>
                  intro v_l3_L16 v_mat_L16 v_mnumber_L16 v_mreads_L16 v_mbeyond_L16 o_L16 hf H locs hP hD hS ls hl hR kx
                  rw [f_X7_isRead_L86] at hf
                  refine lv_iload_n hx hb dX7_isRead_86 rfl (lv_at hl 2 rfl) ?_
                  refine lv_if_eq (tgt := 164) hx hb dX7_isRead_87 (by decide) (fun c18 => ?_) (fun c18 => ?_)
                  · have hf := if_t hf c18
                    exact kx _ (Option.some.inj hf).symm _ _ hP hD hS _ (lv_sub hl [0] rfl)
                  · have hf := if_f hf c18
                    refine lv_aload_n hx hb dX7_isRead_90 rfl (lv_at hl 0 rfl) ?_
                    obtain ⟨q19, hq19, hf⟩ := ob_some hf
                    refine xcVi (w' := ((w_M a0 cI cC mnow mhistory mkept mslot misFilled mgame mmeasures mmost mnumbers mround mtyped mtext q19.2.1 q19.2.2 v_mreads_L16 v_mbeyond_L16 mjudgedTo mreach mgoes) ++ R)) S hK hN hA hP hD hS (c_X7_takesNumber l D cI cC cS R a0 mnow mhistory mkept mslot misFilled mgame mmeasures mmost mnumbers mround mtyped mtext v_mat_L16 v_mnumber_L16 v_mreads_L16 v_mbeyond_L16 mjudgedTo mreach mgoes _ hq19) gX7_isRead_X7_takesNumber rfl hd_X7_takesNumber ⟨by decide, by decide⟩ (List.Perm.refl _) (List.Perm.refl _) (ci := 7) (q := (RX7, TX7, 19)) rfl rfl rfl rfl hl.1 rfl (Nat.le_of_ble_eq_true rfl) dX7_isRead_91 ⟨Nat.zero_le _, Nat.zero_le _⟩ (fun H locs hP hD hS => ?_)
                    refine lv_if_ne (tgt := 99) hx hb dX7_isRead_94 (by decide) (fun c20 => ?_) (fun c20 => ?_)
                    · have hf := if_f hf c20
                      refine lv_aload_n hx hb dX7_isRead_99 rfl (lv_at hl 0 rfl) ?_
                      refine lv_dup hx hb dX7_isRead_100 rfl ?_
                      refine va_get (D := D) (ci := 7) (v := .int v_mbeyond_L16) (C := RX7) (T := TX7) (N := 19) hx hb hts inw_X7_isRead_7 hown hK hP 0 rfl rfl 15 (by decide) (hts (.fieldLink RX7 139 "RingGamesModel" "beyond" "I") (List.mem_of_getElem? (i := 2) rfl)) (fun _ h9 => h9) rfl dX7_isRead_101 ?_
                      refine lv_aload_n hx hb dX7_isRead_104 rfl (lv_at hl 0 rfl) ?_
                      refine lv_aload_n hx hb dX7_isRead_105 rfl (lv_at hl 0 rfl) ?_
                      refine va_get (D := D) (ci := 7) (v := .int q19.2.2) (C := RX7) (T := TX7) (N := 19) hx hb hts inw_X7_isRead_7 hown hK hP 0 rfl rfl 13 (by decide) (hts (.fieldLink RX7 136 "RingGamesModel" "number" "I") (List.mem_of_getElem? (i := 4) rfl)) (fun _ h9 => h9) rfl dX7_isRead_106 ?_
                      obtain ⟨q21, hq21, hf⟩ := ob_some hf
                      refine xcVi (w' := ((w_M a0 cI cC mnow mhistory mkept mslot misFilled mgame mmeasures mmost mnumbers mround mtyped mtext q19.2.1 q19.2.2 v_mreads_L16 v_mbeyond_L16 mjudgedTo mreach mgoes) ++ R)) S hK hN hA hP hD hS (c_X7_no l D cI cC cS R a0 mnow mhistory mkept mslot misFilled mgame mmeasures mmost mnumbers mround mtyped mtext q19.2.1 q19.2.2 v_mreads_L16 v_mbeyond_L16 mjudgedTo mreach mgoes q19.2.2 _ hq21) gX7_isRead_X7_no rfl hd_X7_no ⟨by decide, by decide⟩ (List.Perm.refl _) (List.Perm.refl _) (ci := 7) (q := (RX7, TX7, 19)) rfl rfl rfl rfl hl.1 rfl (Nat.le_of_ble_eq_true rfl) dX7_isRead_109 ⟨Nat.zero_le _, Nat.zero_le _⟩ (fun H locs hP hD hS => ?_)
                      obtain ⟨j23, hj23, hf⟩ := ob_some hf
                      have J24 : ∀ (H : Heap) (locs : List Loc), va_P D vwCl ((w_M a0 cI cC mnow mhistory mkept mslot misFilled mgame mmeasures mmost mnumbers mround mtyped mtext q19.2.1 q19.2.2 v_mreads_L16 v_mbeyond_L16 mjudgedTo mreach mgoes) ++ R) H → va_D A ((w_M a0 cI cC mnow mhistory mkept mslot misFilled mgame mmeasures mmost mnumbers mround mtyped mtext q19.2.1 q19.2.2 v_mreads_L16 v_mbeyond_L16 mjudgedTo mreach mgoes) ++ R) → va_S A s.heap H locs → ∀ ls : Array Slot, lv_has ls 4 [(0, .ref (a0 0)), (2, .int q8.2.2)] → W p l e (xR 3 62) s m args below meth c H locs 0 0 Q (F0 m 120 ls [.int j23, .int v_mbeyond_L16, .ref (a0 0)]) := by
                        intro H locs hP hD hS ls hl
                        refine lv_iadd hx hb dX7_isRead_120 ?_
                        refine va_put (D := D) (ci := 7) (v := .int (v_mbeyond_L16 + j23)) (ty := .int) (C := RX7) (T := TX7) (N := 19) hx hb hts inw_X7_isRead_7 tyX7 tyX7_ok nmX7 hown hK hP hD hS 0 rfl rfl 15 (by decide) (hts (.fieldLink RX7 139 "RingGamesModel" "beyond" "I") (List.mem_of_getElem? (i := 2) rfl)) (fun _ h9 => h9) rfl (tyX7_ok 15 (by decide)) rfl rfl (Nat.le_of_ble_eq_true rfl) dX7_isRead_121 (fun H locs hP hD hS => ?_)
                        have hP : va_P D vwCl ((w_M a0 cI cC mnow mhistory mkept mslot misFilled mgame mmeasures mmost mnumbers mround mtyped mtext q19.2.1 q19.2.2 v_mreads_L16 (v_mbeyond_L16 + j23) mjudgedTo mreach mgoes) ++ R) H := hP
                        have hD : va_D A ((w_M a0 cI cC mnow mhistory mkept mslot misFilled mgame mmeasures mmost mnumbers mround mtyped mtext q19.2.1 q19.2.2 v_mreads_L16 (v_mbeyond_L16 + j23) mjudgedTo mreach mgoes) ++ R) := hD
                        refine lv_aload_n hx hb dX7_isRead_124 rfl (lv_at hl 0 rfl) ?_
                        refine va_get (D := D) (ci := 7) (v := .ref (a0 8)) (C := RX7) (T := TX7) (N := 19) hx hb hts inw_X7_isRead_7 hown hK hP 0 rfl rfl 14 (by decide) (hts (.fieldLink RX7 32 "RingGamesModel" "reads" "[I") (List.mem_of_getElem? (i := 3) rfl)) (fun _ h9 => h9) rfl dX7_isRead_125 ?_
                        refine lv_iload_n hx hb dX7_isRead_128 rfl (lv_at hl 1 rfl) ?_
                        refine lv_dup2_11 hx hb dX7_isRead_129 rfl rfl ?_
                        obtain ⟨g25, hf⟩ := vg_some hf
                        refine va_iald hx hb hK hP 8 0 rfl rfl g25 dX7_isRead_130 ?_
                        refine lv_aload_n hx hb dX7_isRead_131 rfl (lv_at hl 0 rfl) ?_
                        refine lv_aload_n hx hb dX7_isRead_132 rfl (lv_at hl 0 rfl) ?_
                        refine va_get (D := D) (ci := 7) (v := .int q19.2.2) (C := RX7) (T := TX7) (N := 19) hx hb hts inw_X7_isRead_7 hown hK hP 0 rfl rfl 13 (by decide) (hts (.fieldLink RX7 136 "RingGamesModel" "number" "I") (List.mem_of_getElem? (i := 4) rfl)) (fun _ h9 => h9) rfl dX7_isRead_133 ?_
                        obtain ⟨q26, hq26, hf⟩ := ob_some hf
                        refine xcVi (w' := ((w_M a0 cI cC mnow mhistory mkept mslot misFilled mgame mmeasures mmost mnumbers mround mtyped mtext q19.2.1 q19.2.2 v_mreads_L16 (v_mbeyond_L16 + j23) mjudgedTo mreach mgoes) ++ R)) S hK hN hA hP hD hS (c_X7_no l D cI cC cS R a0 mnow mhistory mkept mslot misFilled mgame mmeasures mmost mnumbers mround mtyped mtext q19.2.1 q19.2.2 v_mreads_L16 (v_mbeyond_L16 + j23) mjudgedTo mreach mgoes q19.2.2 _ hq26) gX7_isRead_X7_no rfl hd_X7_no ⟨by decide, by decide⟩ (List.Perm.refl _) (List.Perm.refl _) (ci := 7) (q := (RX7, TX7, 19)) rfl rfl rfl rfl hl.1 rfl (Nat.le_of_ble_eq_true rfl) dX7_isRead_136 ⟨Nat.zero_le _, Nat.zero_le _⟩ (fun H locs hP hD hS => ?_)
                        obtain ⟨j28, hj28, hf⟩ := ob_some hf
                        have J29 : ∀ (H : Heap) (locs : List Loc), va_P D vwCl ((w_M a0 cI cC mnow mhistory mkept mslot misFilled mgame mmeasures mmost mnumbers mround mtyped mtext q19.2.1 q19.2.2 v_mreads_L16 (v_mbeyond_L16 + j23) mjudgedTo mreach mgoes) ++ R) H → va_D A ((w_M a0 cI cC mnow mhistory mkept mslot misFilled mgame mmeasures mmost mnumbers mround mtyped mtext q19.2.1 q19.2.2 v_mreads_L16 (v_mbeyond_L16 + j23) mjudgedTo mreach mgoes) ++ R) → va_S A s.heap H locs → ∀ ls : Array Slot, lv_has ls 4 [(0, .ref (a0 0)), (2, .int q8.2.2)] → W p l e (xR 3 62) s m args below meth c H locs 0 0 Q (F0 m 152 ls [.int j28, .int (v_mreads_L16 (q8.2.2).toNatClampNeg), .int q8.2.2, .ref (a0 8)]) := by
                          intro H locs hP hD hS ls hl
                          refine lv_ior hx hb dX7_isRead_152 ?_
                          refine va_iast hx hb hK hP hD hS 8 0 rfl rfl g25 dX7_isRead_153 (fun H locs hP hD hS => ?_)
                          have hP : va_P D vwCl ((w_M a0 cI cC mnow mhistory mkept mslot misFilled mgame mmeasures mmost mnumbers mround mtyped mtext q19.2.1 q19.2.2 (upd v_mreads_L16 (q8.2.2).toNatClampNeg ((v_mreads_L16 (q8.2.2).toNatClampNeg) ||| j28)) (v_mbeyond_L16 + j23) mjudgedTo mreach mgoes) ++ R) H := hP
                          have hD : va_D A ((w_M a0 cI cC mnow mhistory mkept mslot misFilled mgame mmeasures mmost mnumbers mround mtyped mtext q19.2.1 q19.2.2 (upd v_mreads_L16 (q8.2.2).toNatClampNeg ((v_mreads_L16 (q8.2.2).toNatClampNeg) ||| j28)) (v_mbeyond_L16 + j23) mjudgedTo mreach mgoes) ++ R) := hD
                          refine lv_aload_n hx hb dX7_isRead_154 rfl (lv_at hl 0 rfl) ?_
                          refine lv_bipush (v := 44) hx hb dX7_isRead_155 (by decide) ?_
                          obtain ⟨q30, hq30, hf⟩ := ob_some hf
                          refine xcVi (w' := ((w_M a0 cI cC mnow mhistory mkept mslot misFilled mgame mmeasures mmost mnumbers mround mtyped mtext q30.2 q19.2.2 (upd v_mreads_L16 (q8.2.2).toNatClampNeg ((v_mreads_L16 (q8.2.2).toNatClampNeg) ||| j28)) (v_mbeyond_L16 + j23) mjudgedTo mreach mgoes) ++ R)) S hK hN hA hP hD hS (c_X7_takes l D cI cC cS R a0 mnow mhistory mkept mslot misFilled mgame mmeasures mmost mnumbers mround mtyped mtext q19.2.1 q19.2.2 (upd v_mreads_L16 (q8.2.2).toNatClampNeg ((v_mreads_L16 (q8.2.2).toNatClampNeg) ||| j28)) (v_mbeyond_L16 + j23) mjudgedTo mreach mgoes 44 _ hq30) gX7_isRead_X7_takes rfl hd_X7_takes ⟨by decide, by decide⟩ (List.Perm.refl _) (List.Perm.refl _) (ci := 7) (q := (RX7, TX7, 19)) rfl rfl rfl rfl hl.1 rfl (Nat.le_of_ble_eq_true rfl) dX7_isRead_157 ⟨Nat.zero_le _, Nat.zero_le _⟩ (fun H locs hP hD hS => ?_)
                          refine lv_istore_n (lv' := [(3, .int q30.1), (0, .ref (a0 0)), (2, .int q8.2.2)]) hx hb dX7_isRead_160 rfl hl (by decide) rfl (fun ls hl => ?_)
                          refine lv_goto (tgt := 86) hx hb dX7_isRead_161 (by decide) ?_
                          exact ih q30.1 q30.2 q19.2.2 (upd v_mreads_L16 (q8.2.2).toNatClampNeg ((v_mreads_L16 (q8.2.2).toNatClampNeg) ||| j28)) (v_mbeyond_L16 + j23) _ hf _ _ hP hD hS _ (lv_sub hl [1, 2, 0] rfl) hR kx
                        clear hf
                        have hf := hj28
                        refine lv_if_eq (tgt := 146) hx hb dX7_isRead_139 (by decide) (fun c27 => ?_) (fun c27 => ?_)
                        · have hf := if_t hf c27
                          refine lv_iconst (v := 1) hx hb dX7_isRead_146 (by decide) ?_
                          refine lv_aload_n hx hb dX7_isRead_147 rfl (lv_at hl 0 rfl) ?_
                          refine va_get (D := D) (ci := 7) (v := .int q19.2.2) (C := RX7) (T := TX7) (N := 19) hx hb hts inw_X7_isRead_7 hown hK hP 0 rfl rfl 13 (by decide) (hts (.fieldLink RX7 136 "RingGamesModel" "number" "I") (List.mem_of_getElem? (i := 4) rfl)) (fun _ h9 => h9) rfl dX7_isRead_148 ?_
                          refine lv_ishl hx hb dX7_isRead_151 ?_
                          have hf := Option.some.inj hf
                          subst hf
                          exact J29 _ _ hP hD hS _ (lv_sub hl [0, 1] rfl)
                        · have hf := if_f hf c27
                          refine lv_iconst (v := 0) hx hb dX7_isRead_142 (by decide) ?_
                          refine lv_goto (tgt := 152) hx hb dX7_isRead_143 (by decide) ?_
                          have hf := Option.some.inj hf
                          subst hf
                          exact J29 _ _ hP hD hS _ (lv_sub hl [0, 1] rfl)
                      clear hf
                      have hf := hj23
                      refine lv_if_eq (tgt := 119) hx hb dX7_isRead_112 (by decide) (fun c22 => ?_) (fun c22 => ?_)
                      · have hf := if_t hf c22
                        refine lv_iconst (v := 0) hx hb dX7_isRead_119 (by decide) ?_
                        have hf := Option.some.inj hf
                        subst hf
                        exact J24 _ _ hP hD hS _ (lv_sub hl [0, 1] rfl)
                      · have hf := if_f hf c22
                        refine lv_iconst (v := 1) hx hb dX7_isRead_115 (by decide) ?_
                        refine lv_goto (tgt := 120) hx hb dX7_isRead_116 (by decide) ?_
                        have hf := Option.some.inj hf
                        subst hf
                        exact J24 _ _ hP hD hS _ (lv_sub hl [0, 1] rfl)
                    · have hf := if_t hf c20
                      refine lv_iconst (v := 0) hx hb dX7_isRead_97 (by decide) ?_
                      have hf := Option.some.inj hf
                      have hf := hR _ hf.symm
                      subst hf
                      exact hret _ _ _ _ _ dX7_isRead_98 rfl hP hD hS rfl
              refine L16 n 1 q14.2 q8.2.2 v_mreads_L5 (v_mbeyond_L5 + j12) q17 hq17 _ _ hP hD hS _ (lv_sub hl [1, 2, 0] rfl) (fun rr er => by rw [er] at hf; exact Option.some.inj hf) ?_
              clear hP hD hS hl
              intro q31 eq31 H locs hP hD hS ls hl
              rw [eq31] at hf
              have hf := ob_inr hf
              refine lv_aload_n hx hb dX7_isRead_164 rfl (lv_at hl 0 rfl) ?_
              refine va_get (D := D) (ci := 7) (v := .int q31.1) (C := RX7) (T := TX7) (N := 19) hx hb hts inw_X7_isRead_7 hown hK hP 0 rfl rfl 12 (by decide) (hts (.fieldLink RX7 129 "RingGamesModel" "at" "I") (List.mem_of_getElem? (i := 1) rfl)) (fun _ h9 => h9) rfl dX7_isRead_165 ?_
              refine lv_aload_n hx hb dX7_isRead_168 rfl (lv_at hl 0 rfl) ?_
              refine va_get (D := D) (ci := 7) (v := .int mtyped) (C := RX7) (T := TX7) (N := 19) hx hb hts inw_X7_isRead_7 hown hK hP 0 rfl rfl 10 (by decide) (hts (.fieldLink RX7 126 "RingGamesModel" "typed" "I") (List.mem_of_getElem? (i := 5) rfl)) (fun _ h9 => h9) rfl dX7_isRead_169 ?_
              obtain ⟨j33, hj33, hf⟩ := ob_some hf
              have J34 : ∀ (H : Heap) (locs : List Loc), va_P D vwCl ((w_M a0 cI cC mnow mhistory mkept mslot misFilled mgame mmeasures mmost mnumbers mround mtyped mtext q31.1 q31.2.1 q31.2.2.1 q31.2.2.2 mjudgedTo mreach mgoes) ++ R) H → va_D A ((w_M a0 cI cC mnow mhistory mkept mslot misFilled mgame mmeasures mmost mnumbers mround mtyped mtext q31.1 q31.2.1 q31.2.2.1 q31.2.2.2 mjudgedTo mreach mgoes) ++ R) → va_S A s.heap H locs → ∀ ls : Array Slot, lv_has ls 4 [(0, .ref (a0 0))] → W p l e (xR 3 62) s m args below meth c H locs 0 0 Q (F0 m 180 ls [.int j33]) := by
                intro H locs hP hD hS ls hl
                refine lv_istore_n (lv' := [(1, .int j33), (0, .ref (a0 0))]) hx hb dX7_isRead_180 rfl hl (by decide) rfl (fun ls hl => ?_)
                refine lv_iload_n hx hb dX7_isRead_181 rfl (lv_at hl 0 rfl) ?_
                refine lv_if_eq (tgt := 196) hx hb dX7_isRead_182 (by decide) (fun c35 => ?_) (fun c35 => ?_)
                · have hf := if_t hf c35
                  refine lv_goto (tgt := 33) hx hb dX7_isRead_196 (by decide) ?_
                  exact ih j33 q31.1 q31.2.1 q31.2.2.1 q31.2.2.2 hf _ _ hP hD hS _ (lv_sub hl [1, 0] rfl)
                · have hf := if_f hf c35
                  refine lv_aload_n hx hb dX7_isRead_185 rfl (lv_at hl 1 rfl) ?_
                  refine lv_bipush (v := 59) hx hb dX7_isRead_186 (by decide) ?_
                  obtain ⟨q36, hq36, hf⟩ := ob_some hf
                  refine xcVi (w' := ((w_M a0 cI cC mnow mhistory mkept mslot misFilled mgame mmeasures mmost mnumbers mround mtyped mtext q36.2 q31.2.1 q31.2.2.1 q31.2.2.2 mjudgedTo mreach mgoes) ++ R)) S hK hN hA hP hD hS (c_X7_takes l D cI cC cS R a0 mnow mhistory mkept mslot misFilled mgame mmeasures mmost mnumbers mround mtyped mtext q31.1 q31.2.1 q31.2.2.1 q31.2.2.2 mjudgedTo mreach mgoes 59 _ hq36) gX7_isRead_X7_takes rfl hd_X7_takes ⟨by decide, by decide⟩ (List.Perm.refl _) (List.Perm.refl _) (ci := 7) (q := (RX7, TX7, 19)) rfl rfl rfl rfl hl.1 rfl (Nat.le_of_ble_eq_true rfl) dX7_isRead_188 ⟨Nat.zero_le _, Nat.zero_le _⟩ (fun H locs hP hD hS => ?_)
                  refine lv_if_ne (tgt := 196) hx hb dX7_isRead_191 (by decide) (fun c37 => ?_) (fun c37 => ?_)
                  · have hf := if_f hf c37
                    refine lv_goto (tgt := 33) hx hb dX7_isRead_196 (by decide) ?_
                    exact ih j33 q36.2 q31.2.1 q31.2.2.1 q31.2.2.2 hf _ _ hP hD hS _ (lv_sub hl [1, 0] rfl)
                  · have hf := if_t hf c37
                    refine lv_iconst (v := 0) hx hb dX7_isRead_194 (by decide) ?_
                    have hf := Option.some.inj hf
                    subst hf
                    exact hret _ _ _ _ _ dX7_isRead_195 rfl hP hD hS rfl
              clear hf
              have hf := hj33
              refine lv_icmp_ge (tgt := 179) hx hb dX7_isRead_172 (by decide) (fun c32 => ?_) (fun c32 => ?_)
              · have hf := if_t hf c32
                refine lv_iconst (v := 0) hx hb dX7_isRead_179 (by decide) ?_
                have hf := Option.some.inj hf
                subst hf
                exact J34 _ _ hP hD hS _ (lv_sub hl [0] rfl)
              · have hf := if_f hf c32
                refine lv_iconst (v := 1) hx hb dX7_isRead_175 (by decide) ?_
                refine lv_goto (tgt := 180) hx hb dX7_isRead_176 (by decide) ?_
                have hf := Option.some.inj hf
                subst hf
                exact J34 _ _ hP hD hS _ (lv_sub hl [0] rfl)
            · have hf := if_t hf c15
              refine lv_iconst (v := 0) hx hb dX7_isRead_82 (by decide) ?_
              have hf := Option.some.inj hf
              subst hf
              exact hret _ _ _ _ _ dX7_isRead_83 rfl hP hD hS rfl
          clear hf
          have hf := hj12
          refine lv_if_eq (tgt := 68) hx hb dX7_isRead_61 (by decide) (fun c11 => ?_) (fun c11 => ?_)
          · have hf := if_t hf c11
            refine lv_iconst (v := 0) hx hb dX7_isRead_68 (by decide) ?_
            have hf := Option.some.inj hf
            subst hf
            exact J13 _ _ hP hD hS _ (lv_sub hl [1, 0] rfl)
          · have hf := if_f hf c11
            refine lv_iconst (v := 1) hx hb dX7_isRead_64 (by decide) ?_
            refine lv_goto (tgt := 69) hx hb dX7_isRead_65 (by decide) ?_
            have hf := Option.some.inj hf
            subst hf
            exact J13 _ _ hP hD hS _ (lv_sub hl [1, 0] rfl)
        · have hf := if_t hf c9
          refine lv_iconst (v := 0) hx hb dX7_isRead_44 (by decide) ?_
          have hf := Option.some.inj hf
          subst hf
          exact hret _ _ _ _ _ dX7_isRead_45 rfl hP hD hS rfl
  exact L5 n 1 0 mnumber q2 0 hf _ _ hP hD hS _ (lv_sub hl [1, 0] rfl)
def f_X7_readArrows_L28 (n : Nat) (d_mnow : (Nat → Int32)) (d_mreads : (Nat → Int32)) : Nat → Int32 → Int32 → Option Int32
  | 0, _, _ => none
  | k + 1, d_l1, d_l2 => (if (d_mnow 56) ≤ d_l2 then some (d_l1) else vg d_l2 100 ((f_X7_of d_mnow d_l2 2).bind fun q6 => (f_X7_bits n ((d_mreads (d_l2).toNatClampNeg) &&& (q6 ^^^ (-1)))).bind fun q7 => f_X7_readArrows_L28 n d_mnow d_mreads k (d_l1 + q7) (d_l2 + 1)))
def f_X7_readArrows_L86 (d_mreads : (Nat → Int32)) : Nat → Int32 → (Nat → Int32) → Option (Nat → Int32)
  | 0, _, _ => none
  | k + 1, d_l2, d_mnow => (if (d_mnow 56) ≤ d_l2 then some (d_mnow) else (f_X7_of d_mnow d_l2 2).bind fun q14 => vg d_l2 100 ((f_X7_puts d_mnow d_l2 2 (q14 ||| (d_mreads (d_l2).toNatClampNeg))).bind fun q16 => f_X7_readArrows_L86 d_mreads k (d_l2 + 1) q16))
def f_X7_readArrows (n : Nat) (mnow : (Nat → Int32)) (mhistory : (Nat → Int32)) (mkept : Int32) (mtyped : Int32) (mtext : (Nat → Int32)) (mnumber : Int32) (mreads : (Nat → Int32)) : Option (Int32 × (Nat → Int32) × (Nat → Int32) × Int32 × Int32 × Int32 × (Nat → Int32) × Int32) := (f_X7_isRead n mnow mtyped mtext mnumber mreads).bind fun q1 => (if q1.1 = 0 then some (((-100) - q1.2.1), mnow, mhistory, mkept, q1.2.1, q1.2.2.1, q1.2.2.2.1, q1.2.2.2.2) else (if q1.2.2.2.2 ≤ 0 then (f_X7_readArrows_L28 n mnow q1.2.2.2.1 n 0 0).bind fun q5 => (f_X7_arrows n mnow).bind fun q10 => (if (q10 + q5) ≤ 60 then (f_X7_record n mnow mhistory mkept).bind fun q12 => (f_X7_readArrows_L86 q1.2.2.2.1 n 0 mnow).bind fun q14 => some (q5, q14, q12.1, q12.2, q1.2.1, q1.2.2.1, q1.2.2.2.1, q1.2.2.2.2) else some ((-3), mnow, mhistory, mkept, q1.2.1, q1.2.2.1, q1.2.2.2.1, q1.2.2.2.2)) else some ((-1), mnow, mhistory, mkept, q1.2.1, q1.2.2.1, q1.2.2.2.1, q1.2.2.2.2)))
theorem inw_X7_readArrows_7 : ∀ w ∈ wsX70, w ∈ wsX7_readArrows := fun _ h => List.mem_cons_of_mem _ (List.mem_append_right _ h)
theorem hd_X7_readArrows : yX7_readArrows.cls = RX7 ∧ yX7_readArrows.cls ≠ "java/lang/invoke/MethodHandle" ∧ yX7_readArrows.cls ≠ "java/lang/invoke/VarHandle" ∧ (parseMethodDescriptor yX7_readArrows.desc).map (fun d => d.parameters.length) = some 0 := by decide +kernel
set_option maxHeartbeats 4000000 in
set_option maxRecDepth 100000 in
theorem c_X7_readArrows (l : Launch) (D : va_G) (cI cC cS : ClassId) (R : va_W) (a0 : Nat → Nat) (mnow : (Nat → Int32)) (mhistory : (Nat → Int32)) (mkept : Int32) (mslot : (Nat → Int32)) (misFilled : Int32) (mgame : Int32) (mmeasures : (Nat → Int32)) (mmost : (Nat → Int32)) (mnumbers : (Nat → Int32)) (mround : Int32) (mtyped : Int32) (mtext : (Nat → Int32)) (mat : Int32) (mnumber : Int32) (mreads : (Nat → Int32)) (mbeyond : Int32) (mjudgedTo : (Nat → Int32)) (mreach : (Nat → Int32)) (mgoes : (Nat → Int32)) (n : Nat) (r : Int32 × (Nat → Int32) × (Nat → Int32) × Int32 × Int32 × Int32 × (Nat → Int32) × Int32) (hf : f_X7_readArrows n mnow mhistory mkept mtyped mtext mnumber mreads = some r) : CI l yX7_readArrows wsX7_readArrows 4 85 D cI cC cS [.ref (a0 0)] ((w_M a0 cI cC mnow mhistory mkept mslot misFilled mgame mmeasures mmost mnumbers mround mtyped mtext mat mnumber mreads mbeyond mjudgedTo mreach mgoes) ++ R) r.1 ((w_M a0 cI cC r.2.1 r.2.2.1 r.2.2.2.1 mslot misFilled mgame mmeasures mmost mnumbers mround mtyped mtext r.2.2.2.2.1 r.2.2.2.2.2.1 r.2.2.2.2.2.2.1 r.2.2.2.2.2.2.2 mjudgedTo mreach mgoes) ++ R) := by
  refine XI.of (cc := cX7_readArrows) (maxL := 3) (ty := .int) (own := RX7) (by decide) rfl rfl (Nat.le_of_ble_eq_true rfl) ?_
  intro p e s m args below meth c A Q S hK hN hA hP hD hS ls hl hret
  obtain ⟨hx, hb, hml, hown, hts⟩ := id S
  have hl : lv_has ls 3 [(0, .ref (a0 0))] := hl
  unfold f_X7_readArrows at hf
  refine lv_aload_n hx hb dX7_readArrows_0 rfl (lv_at hl 0 rfl) ?_
  obtain ⟨q1, hq1, hf⟩ := ob_some hf
  refine xcVi (w' := ((w_M a0 cI cC mnow mhistory mkept mslot misFilled mgame mmeasures mmost mnumbers mround mtyped mtext q1.2.1 q1.2.2.1 q1.2.2.2.1 q1.2.2.2.2 mjudgedTo mreach mgoes) ++ R)) S hK hN hA hP hD hS (c_X7_isRead l D cI cC cS R a0 mnow mhistory mkept mslot misFilled mgame mmeasures mmost mnumbers mround mtyped mtext mat mnumber mreads mbeyond mjudgedTo mreach mgoes n _ hq1) gX7_readArrows_X7_isRead rfl hd_X7_isRead ⟨by decide, by decide⟩ (List.Perm.refl _) (List.Perm.refl _) (ci := 7) (q := (RX7, TX7, 19)) rfl rfl rfl rfl hl.1 rfl (Nat.le_of_ble_eq_true rfl) dX7_readArrows_1 ⟨Nat.zero_le _, Nat.zero_le _⟩ (fun H locs hP hD hS => ?_)
  refine lv_if_ne (tgt := 15) hx hb dX7_readArrows_4 (by decide) (fun c2 => ?_) (fun c2 => ?_)
  · have hf := if_f hf c2
    refine lv_aload_n hx hb dX7_readArrows_15 rfl (lv_at hl 0 rfl) ?_
    refine va_get (D := D) (ci := 7) (v := .int q1.2.2.2.2) (C := RX7) (T := TX7) (N := 19) hx hb hts inw_X7_readArrows_7 hown hK hP 0 rfl rfl 15 (by decide) (hts (.fieldLink RX7 139 "RingGamesModel" "beyond" "I") (List.mem_of_getElem? (i := 2) rfl)) (fun _ h9 => h9) rfl dX7_readArrows_16 ?_
    refine lv_if_le (tgt := 24) hx hb dX7_readArrows_19 (by decide) (fun c3 => ?_) (fun c3 => ?_)
    · have hf := if_t hf c3
      refine lv_iconst (v := 0) hx hb dX7_readArrows_24 (by decide) ?_
      refine lv_istore_n (lv' := [(1, .int 0), (0, .ref (a0 0))]) hx hb dX7_readArrows_25 rfl hl (by decide) rfl (fun ls hl => ?_)
      refine lv_iconst (v := 0) hx hb dX7_readArrows_26 (by decide) ?_
      refine lv_istore_n (lv' := [(2, .int 0), (1, .int 0), (0, .ref (a0 0))]) hx hb dX7_readArrows_27 rfl hl (by decide) rfl (fun ls hl => ?_)
      obtain ⟨q5, hq5, hf⟩ := ob_some hf
      have L4 : ∀ (k : Nat) (v_l1_L4 : Int32) (v_l2_L4 : Int32) (q_L4 : Int32), f_X7_readArrows_L28 n mnow q1.2.2.2.1 k v_l1_L4 v_l2_L4 = some q_L4 → ∀ (H : Heap) (locs : List Loc), va_P D vwCl ((w_M a0 cI cC mnow mhistory mkept mslot misFilled mgame mmeasures mmost mnumbers mround mtyped mtext q1.2.1 q1.2.2.1 q1.2.2.2.1 q1.2.2.2.2 mjudgedTo mreach mgoes) ++ R) H → va_D A ((w_M a0 cI cC mnow mhistory mkept mslot misFilled mgame mmeasures mmost mnumbers mround mtyped mtext q1.2.1 q1.2.2.1 q1.2.2.2.1 q1.2.2.2.2 mjudgedTo mreach mgoes) ++ R) → va_S A s.heap H locs → ∀ ls : Array Slot, lv_has ls 3 [(0, .ref (a0 0)), (1, .int v_l1_L4), (2, .int v_l2_L4)] → (∀ (H : Heap) (locs : List Loc), va_P D vwCl ((w_M a0 cI cC mnow mhistory mkept mslot misFilled mgame mmeasures mmost mnumbers mround mtyped mtext q1.2.1 q1.2.2.1 q1.2.2.2.1 q1.2.2.2.2 mjudgedTo mreach mgoes) ++ R) H → va_D A ((w_M a0 cI cC mnow mhistory mkept mslot misFilled mgame mmeasures mmost mnumbers mround mtyped mtext q1.2.1 q1.2.2.1 q1.2.2.2.1 q1.2.2.2.2 mjudgedTo mreach mgoes) ++ R) → va_S A s.heap H locs → ∀ ls : Array Slot, lv_has ls 3 [(0, .ref (a0 0)), (1, .int q_L4)] → W p l e (xR 4 85) s m args below meth c H locs 0 0 Q (F0 m 66 ls [])) → W p l e (xR 4 85) s m args below meth c H locs 0 0 Q (F0 m 28 ls []) := by
        intro k
        induction k with
        | zero => intro v_l1_L4 v_l2_L4 q_L4 hf; simp [f_X7_readArrows_L28] at hf
        | succ k ih =>
          intro v_l1_L4 v_l2_L4 q_L4 hf H locs hP hD hS ls hl kx
          rw [f_X7_readArrows_L28] at hf
          refine lv_iload_n hx hb dX7_readArrows_28 rfl (lv_at hl 2 rfl) ?_
          refine lv_aload_n hx hb dX7_readArrows_29 rfl (lv_at hl 0 rfl) ?_
          refine va_get (D := D) (ci := 7) (v := .ref (a0 1)) (C := RX7) (T := TX7) (N := 19) hx hb hts inw_X7_readArrows_7 hown hK hP 0 rfl rfl 0 (by decide) (hts (.fieldLink RX7 7 "RingGamesModel" "now" "[I") (List.mem_of_getElem? (i := 3) rfl)) (fun _ h9 => h9) rfl dX7_readArrows_30 ?_
          refine lv_bipush (v := 56) hx hb dX7_readArrows_33 (by decide) ?_
          refine va_iald hx hb hK hP 1 0 rfl rfl (x_in (by decide)) dX7_readArrows_35 ?_
          refine lv_icmp_ge (tgt := 66) hx hb dX7_readArrows_36 (by decide) (fun c6 => ?_) (fun c6 => ?_)
          · have hf := if_t hf c6
            have hf := Option.some.inj hf
            subst hf
            exact kx _ _ hP hD hS _ (lv_sub hl [0, 1] rfl)
          · have hf := if_f hf c6
            refine lv_iload_n hx hb dX7_readArrows_39 rfl (lv_at hl 1 rfl) ?_
            refine lv_aload_n hx hb dX7_readArrows_40 rfl (lv_at hl 0 rfl) ?_
            refine va_get (D := D) (ci := 7) (v := .ref (a0 8)) (C := RX7) (T := TX7) (N := 19) hx hb hts inw_X7_readArrows_7 hown hK hP 0 rfl rfl 14 (by decide) (hts (.fieldLink RX7 32 "RingGamesModel" "reads" "[I") (List.mem_of_getElem? (i := 4) rfl)) (fun _ h9 => h9) rfl dX7_readArrows_41 ?_
            refine lv_iload_n hx hb dX7_readArrows_44 rfl (lv_at hl 2 rfl) ?_
            obtain ⟨g7, hf⟩ := vg_some hf
            refine va_iald hx hb hK hP 8 0 rfl rfl g7 dX7_readArrows_45 ?_
            refine lv_aload_n hx hb dX7_readArrows_46 rfl (lv_at hl 0 rfl) ?_
            refine lv_iload_n hx hb dX7_readArrows_47 rfl (lv_at hl 2 rfl) ?_
            refine lv_iconst (v := 2) hx hb dX7_readArrows_48 (by decide) ?_
            obtain ⟨q8, hq8, hf⟩ := ob_some hf
            refine xcVi (w' := ((w_M a0 cI cC mnow mhistory mkept mslot misFilled mgame mmeasures mmost mnumbers mround mtyped mtext q1.2.1 q1.2.2.1 q1.2.2.2.1 q1.2.2.2.2 mjudgedTo mreach mgoes) ++ R)) S hK hN hA hP hD hS (c_X7_of l D cI cC cS R a0 mnow mhistory mkept mslot misFilled mgame mmeasures mmost mnumbers mround mtyped mtext q1.2.1 q1.2.2.1 q1.2.2.2.1 q1.2.2.2.2 mjudgedTo mreach mgoes v_l2_L4 2 _ hq8) gX7_readArrows_X7_of rfl hd_X7_of ⟨by decide, by decide⟩ (List.Perm.refl _) (List.Perm.refl _) (ci := 7) (q := (RX7, TX7, 19)) rfl rfl rfl rfl hl.1 rfl (Nat.le_of_ble_eq_true rfl) dX7_readArrows_49 ⟨Nat.zero_le _, Nat.zero_le _⟩ (fun H locs hP hD hS => ?_)
            refine lv_iconst (v := (-1)) hx hb dX7_readArrows_52 (by decide) ?_
            refine lv_ixor hx hb dX7_readArrows_53 ?_
            refine lv_iand hx hb dX7_readArrows_54 ?_
            obtain ⟨q9, hq9, hf⟩ := ob_some hf
            refine xcSi S hK hN hA hP hD hS (c_X7_bits l D cI cC cS ((w_M a0 cI cC mnow mhistory mkept mslot misFilled mgame mmeasures mmost mnumbers mround mtyped mtext q1.2.1 q1.2.2.1 q1.2.2.2.1 q1.2.2.2.2 mjudgedTo mreach mgoes) ++ R) ((q1.2.2.2.1 (v_l2_L4).toNatClampNeg) &&& (q8 ^^^ (-1))) n _ hq9) gX7_readArrows_X7_bits rfl hd_X7_bits ⟨by decide, by decide⟩ rfl hl.1 rfl (Nat.le_of_ble_eq_true rfl) dX7_readArrows_55 ⟨Nat.zero_le _, Nat.zero_le _⟩ (fun H locs hP hD hS => ?_)
            refine lv_iadd hx hb dX7_readArrows_58 ?_
            refine lv_istore_n (lv' := [(1, .int (v_l1_L4 + q9)), (0, .ref (a0 0)), (2, .int v_l2_L4)]) hx hb dX7_readArrows_59 rfl hl (by decide) rfl (fun ls hl => ?_)
            refine lv_iinc (v := (v_l2_L4 + 1)) (lv' := [(2, .int (v_l2_L4 + 1)), (1, .int (v_l1_L4 + q9)), (0, .ref (a0 0))]) hx hb dX7_readArrows_60 hl (k := 2) rfl (congrArg (fun z => v_l2_L4 + z) (by decide)) (by decide) rfl (fun ls hl => ?_)
            refine lv_goto (tgt := 28) hx hb dX7_readArrows_63 (by decide) ?_
            exact ih (v_l1_L4 + q9) (v_l2_L4 + 1) _ hf _ _ hP hD hS _ (lv_sub hl [2, 1, 0] rfl) kx
      refine L4 n 0 0 q5 hq5 _ _ hP hD hS _ (lv_sub hl [2, 1, 0] rfl) ?_
      clear hP hD hS hl
      intro H locs hP hD hS ls hl
      refine lv_aload_n hx hb dX7_readArrows_66 rfl (lv_at hl 0 rfl) ?_
      obtain ⟨q10, hq10, hf⟩ := ob_some hf
      refine xcVi (w' := ((w_M a0 cI cC mnow mhistory mkept mslot misFilled mgame mmeasures mmost mnumbers mround mtyped mtext q1.2.1 q1.2.2.1 q1.2.2.2.1 q1.2.2.2.2 mjudgedTo mreach mgoes) ++ R)) S hK hN hA hP hD hS (c_X7_arrows l D cI cC cS R a0 mnow mhistory mkept mslot misFilled mgame mmeasures mmost mnumbers mround mtyped mtext q1.2.1 q1.2.2.1 q1.2.2.2.1 q1.2.2.2.2 mjudgedTo mreach mgoes n _ hq10) gX7_readArrows_X7_arrows rfl hd_X7_arrows ⟨by decide, by decide⟩ (List.Perm.refl _) (List.Perm.refl _) (ci := 7) (q := (RX7, TX7, 19)) rfl rfl rfl rfl hl.1 rfl (Nat.le_of_ble_eq_true rfl) dX7_readArrows_67 ⟨Nat.zero_le _, Nat.zero_le _⟩ (fun H locs hP hD hS => ?_)
      refine lv_iload_n hx hb dX7_readArrows_70 rfl (lv_at hl 1 rfl) ?_
      refine lv_iadd hx hb dX7_readArrows_71 ?_
      refine lv_bipush (v := 60) hx hb dX7_readArrows_72 (by decide) ?_
      refine lv_icmp_le (tgt := 80) hx hb dX7_readArrows_74 (by decide) (fun c11 => ?_) (fun c11 => ?_)
      · have hf := if_t hf c11
        refine lv_aload_n hx hb dX7_readArrows_80 rfl (lv_at hl 0 rfl) ?_
        obtain ⟨q12, hq12, hf⟩ := ob_some hf
        refine xcVv (w' := ((w_M a0 cI cC mnow q12.1 q12.2 mslot misFilled mgame mmeasures mmost mnumbers mround mtyped mtext q1.2.1 q1.2.2.1 q1.2.2.2.1 q1.2.2.2.2 mjudgedTo mreach mgoes) ++ R)) S hK hN hA hP hD hS (c_X7_record l D cI cC cS R a0 mnow mhistory mkept mslot misFilled mgame mmeasures mmost mnumbers mround mtyped mtext q1.2.1 q1.2.2.1 q1.2.2.2.1 q1.2.2.2.2 mjudgedTo mreach mgoes n _ hq12) gX7_readArrows_X7_record rfl hd_X7_record ⟨by decide, by decide⟩ (List.Perm.refl _) (List.Perm.refl _) (ci := 7) (q := (RX7, TX7, 19)) rfl rfl rfl rfl hl.1 rfl (Nat.le_of_ble_eq_true rfl) dX7_readArrows_81 ⟨Nat.zero_le _, Nat.zero_le _⟩ (fun H locs hP hD hS => ?_)
        refine lv_iconst (v := 0) hx hb dX7_readArrows_84 (by decide) ?_
        refine lv_istore_n (lv' := [(2, .int 0), (0, .ref (a0 0)), (1, .int q5)]) hx hb dX7_readArrows_85 rfl hl (by decide) rfl (fun ls hl => ?_)
        obtain ⟨q14, hq14, hf⟩ := ob_some hf
        have L13 : ∀ (k : Nat) (v_l2_L13 : Int32) (v_mnow_L13 : (Nat → Int32)) (q_L13 : (Nat → Int32)), f_X7_readArrows_L86 q1.2.2.2.1 k v_l2_L13 v_mnow_L13 = some q_L13 → ∀ (H : Heap) (locs : List Loc), va_P D vwCl ((w_M a0 cI cC v_mnow_L13 q12.1 q12.2 mslot misFilled mgame mmeasures mmost mnumbers mround mtyped mtext q1.2.1 q1.2.2.1 q1.2.2.2.1 q1.2.2.2.2 mjudgedTo mreach mgoes) ++ R) H → va_D A ((w_M a0 cI cC v_mnow_L13 q12.1 q12.2 mslot misFilled mgame mmeasures mmost mnumbers mround mtyped mtext q1.2.1 q1.2.2.1 q1.2.2.2.1 q1.2.2.2.2 mjudgedTo mreach mgoes) ++ R) → va_S A s.heap H locs → ∀ ls : Array Slot, lv_has ls 3 [(0, .ref (a0 0)), (1, .int q5), (2, .int v_l2_L13)] → (∀ (H : Heap) (locs : List Loc), va_P D vwCl ((w_M a0 cI cC q_L13 q12.1 q12.2 mslot misFilled mgame mmeasures mmost mnumbers mround mtyped mtext q1.2.1 q1.2.2.1 q1.2.2.2.1 q1.2.2.2.2 mjudgedTo mreach mgoes) ++ R) H → va_D A ((w_M a0 cI cC q_L13 q12.1 q12.2 mslot misFilled mgame mmeasures mmost mnumbers mround mtyped mtext q1.2.1 q1.2.2.1 q1.2.2.2.1 q1.2.2.2.2 mjudgedTo mreach mgoes) ++ R) → va_S A s.heap H locs → ∀ ls : Array Slot, lv_has ls 3 [(1, .int q5)] → W p l e (xR 4 85) s m args below meth c H locs 0 0 Q (F0 m 122 ls [])) → W p l e (xR 4 85) s m args below meth c H locs 0 0 Q (F0 m 86 ls []) := by
          intro k
          induction k with
          | zero => intro v_l2_L13 v_mnow_L13 q_L13 hf; simp [f_X7_readArrows_L86] at hf
          | succ k ih =>
            intro v_l2_L13 v_mnow_L13 q_L13 hf H locs hP hD hS ls hl kx
            rw [f_X7_readArrows_L86] at hf
            refine lv_iload_n hx hb dX7_readArrows_86 rfl (lv_at hl 2 rfl) ?_
            refine lv_aload_n hx hb dX7_readArrows_87 rfl (lv_at hl 0 rfl) ?_
            refine va_get (D := D) (ci := 7) (v := .ref (a0 1)) (C := RX7) (T := TX7) (N := 19) hx hb hts inw_X7_readArrows_7 hown hK hP 0 rfl rfl 0 (by decide) (hts (.fieldLink RX7 7 "RingGamesModel" "now" "[I") (List.mem_of_getElem? (i := 3) rfl)) (fun _ h9 => h9) rfl dX7_readArrows_88 ?_
            refine lv_bipush (v := 56) hx hb dX7_readArrows_91 (by decide) ?_
            refine va_iald hx hb hK hP 1 0 rfl rfl (x_in (by decide)) dX7_readArrows_93 ?_
            refine lv_icmp_ge (tgt := 122) hx hb dX7_readArrows_94 (by decide) (fun c15 => ?_) (fun c15 => ?_)
            · have hf := if_t hf c15
              have hf := Option.some.inj hf
              subst hf
              exact kx _ _ hP hD hS _ (lv_sub hl [1] rfl)
            · have hf := if_f hf c15
              refine lv_aload_n hx hb dX7_readArrows_97 rfl (lv_at hl 0 rfl) ?_
              refine lv_iload_n hx hb dX7_readArrows_98 rfl (lv_at hl 2 rfl) ?_
              refine lv_iconst (v := 2) hx hb dX7_readArrows_99 (by decide) ?_
              refine lv_aload_n hx hb dX7_readArrows_100 rfl (lv_at hl 0 rfl) ?_
              refine lv_iload_n hx hb dX7_readArrows_101 rfl (lv_at hl 2 rfl) ?_
              refine lv_iconst (v := 2) hx hb dX7_readArrows_102 (by decide) ?_
              obtain ⟨q16, hq16, hf⟩ := ob_some hf
              refine xcVi (w' := ((w_M a0 cI cC v_mnow_L13 q12.1 q12.2 mslot misFilled mgame mmeasures mmost mnumbers mround mtyped mtext q1.2.1 q1.2.2.1 q1.2.2.2.1 q1.2.2.2.2 mjudgedTo mreach mgoes) ++ R)) S hK hN hA hP hD hS (c_X7_of l D cI cC cS R a0 v_mnow_L13 q12.1 q12.2 mslot misFilled mgame mmeasures mmost mnumbers mround mtyped mtext q1.2.1 q1.2.2.1 q1.2.2.2.1 q1.2.2.2.2 mjudgedTo mreach mgoes v_l2_L13 2 _ hq16) gX7_readArrows_X7_of rfl hd_X7_of ⟨by decide, by decide⟩ (List.Perm.refl _) (List.Perm.refl _) (ci := 7) (q := (RX7, TX7, 19)) rfl rfl rfl rfl hl.1 rfl (Nat.le_of_ble_eq_true rfl) dX7_readArrows_103 ⟨Nat.zero_le _, Nat.zero_le _⟩ (fun H locs hP hD hS => ?_)
              refine lv_aload_n hx hb dX7_readArrows_106 rfl (lv_at hl 0 rfl) ?_
              refine va_get (D := D) (ci := 7) (v := .ref (a0 8)) (C := RX7) (T := TX7) (N := 19) hx hb hts inw_X7_readArrows_7 hown hK hP 0 rfl rfl 14 (by decide) (hts (.fieldLink RX7 32 "RingGamesModel" "reads" "[I") (List.mem_of_getElem? (i := 4) rfl)) (fun _ h9 => h9) rfl dX7_readArrows_107 ?_
              refine lv_iload_n hx hb dX7_readArrows_110 rfl (lv_at hl 2 rfl) ?_
              obtain ⟨g17, hf⟩ := vg_some hf
              refine va_iald hx hb hK hP 8 0 rfl rfl g17 dX7_readArrows_111 ?_
              refine lv_ior hx hb dX7_readArrows_112 ?_
              obtain ⟨q18, hq18, hf⟩ := ob_some hf
              refine xcVv (w' := ((w_M a0 cI cC q18 q12.1 q12.2 mslot misFilled mgame mmeasures mmost mnumbers mround mtyped mtext q1.2.1 q1.2.2.1 q1.2.2.2.1 q1.2.2.2.2 mjudgedTo mreach mgoes) ++ R)) S hK hN hA hP hD hS (c_X7_puts l D cI cC cS R a0 v_mnow_L13 q12.1 q12.2 mslot misFilled mgame mmeasures mmost mnumbers mround mtyped mtext q1.2.1 q1.2.2.1 q1.2.2.2.1 q1.2.2.2.2 mjudgedTo mreach mgoes v_l2_L13 2 (q16 ||| (q1.2.2.2.1 (v_l2_L13).toNatClampNeg)) _ hq18) gX7_readArrows_X7_puts rfl hd_X7_puts ⟨by decide, by decide⟩ (List.Perm.refl _) (List.Perm.refl _) (ci := 7) (q := (RX7, TX7, 19)) rfl rfl rfl rfl hl.1 rfl (Nat.le_of_ble_eq_true rfl) dX7_readArrows_113 ⟨Nat.zero_le _, Nat.zero_le _⟩ (fun H locs hP hD hS => ?_)
              refine lv_iinc (v := (v_l2_L13 + 1)) (lv' := [(2, .int (v_l2_L13 + 1)), (0, .ref (a0 0)), (1, .int q5)]) hx hb dX7_readArrows_116 hl (k := 2) rfl (congrArg (fun z => v_l2_L13 + z) (by decide)) (by decide) rfl (fun ls hl => ?_)
              refine lv_goto (tgt := 86) hx hb dX7_readArrows_119 (by decide) ?_
              exact ih (v_l2_L13 + 1) q18 _ hf _ _ hP hD hS _ (lv_sub hl [1, 2, 0] rfl) kx
        refine L13 n 0 mnow q14 hq14 _ _ hP hD hS _ (lv_sub hl [1, 2, 0] rfl) ?_
        clear hP hD hS hl
        intro H locs hP hD hS ls hl
        refine lv_iload_n hx hb dX7_readArrows_122 rfl (lv_at hl 0 rfl) ?_
        have hf := Option.some.inj hf
        subst hf
        exact hret _ _ _ _ _ dX7_readArrows_123 rfl hP hD hS rfl
      · have hf := if_f hf c11
        refine lv_bipush (v := (-3)) hx hb dX7_readArrows_77 (by decide) ?_
        have hf := Option.some.inj hf
        subst hf
        exact hret _ _ _ _ _ dX7_readArrows_79 rfl hP hD hS rfl
    · have hf := if_f hf c3
      refine lv_iconst (v := (-1)) hx hb dX7_readArrows_22 (by decide) ?_
      have hf := Option.some.inj hf
      subst hf
      exact hret _ _ _ _ _ dX7_readArrows_23 rfl hP hD hS rfl
  · have hf := if_t hf c2
    refine lv_bipush (v := (-100)) hx hb dX7_readArrows_7 (by decide) ?_
    refine lv_aload_n hx hb dX7_readArrows_9 rfl (lv_at hl 0 rfl) ?_
    refine va_get (D := D) (ci := 7) (v := .int q1.2.1) (C := RX7) (T := TX7) (N := 19) hx hb hts inw_X7_readArrows_7 hown hK hP 0 rfl rfl 12 (by decide) (hts (.fieldLink RX7 129 "RingGamesModel" "at" "I") (List.mem_of_getElem? (i := 1) rfl)) (fun _ h9 => h9) rfl dX7_readArrows_10 ?_
    refine lv_isub hx hb dX7_readArrows_13 ?_
    have hf := Option.some.inj hf
    subst hf
    exact hret _ _ _ _ _ dX7_readArrows_14 rfl hP hD hS rfl
def f_X7_undo_L22 (d_mhistory : (Nat → Int32)) (d_mkept : Int32) : Nat → Int32 → (Nat → Int32) → Option (Nat → Int32)
  | 0, _, _ => none
  | k + 1, d_l1, d_mnow => (if 59 ≤ d_l1 then some (d_mnow) else vg ((59 * d_mkept) + d_l1) 236 (vg d_l1 59 (f_X7_undo_L22 d_mhistory d_mkept k (d_l1 + 1) (upd d_mnow (d_l1).toNatClampNeg (d_mhistory (((59 * d_mkept) + d_l1)).toNatClampNeg)))))
def f_X7_undo (n : Nat) (mnow : (Nat → Int32)) (mhistory : (Nat → Int32)) (mkept : Int32) : Option (Int32 × (Nat → Int32) × Int32) := (if mkept = 0 then some ((-5), mnow, mkept) else (f_X7_undo_L22 mhistory (mkept - 1) n 0 mnow).bind fun q3 => some ((mkept - 1), q3, (mkept - 1)))
theorem inw_X7_undo_7 : ∀ w ∈ wsX70, w ∈ wsX7_undo := fun _ h => List.mem_cons_of_mem _ (List.mem_append_right _ h)
theorem hd_X7_undo : yX7_undo.cls = RX7 ∧ yX7_undo.cls ≠ "java/lang/invoke/MethodHandle" ∧ yX7_undo.cls ≠ "java/lang/invoke/VarHandle" ∧ (parseMethodDescriptor yX7_undo.desc).map (fun d => d.parameters.length) = some 0 := by decide +kernel
set_option maxHeartbeats 4000000 in
set_option maxRecDepth 100000 in
theorem c_X7_undo (l : Launch) (D : va_G) (cI cC cS : ClassId) (R : va_W) (a0 : Nat → Nat) (mnow : (Nat → Int32)) (mhistory : (Nat → Int32)) (mkept : Int32) (mslot : (Nat → Int32)) (misFilled : Int32) (mgame : Int32) (mmeasures : (Nat → Int32)) (mmost : (Nat → Int32)) (mnumbers : (Nat → Int32)) (mround : Int32) (mtyped : Int32) (mtext : (Nat → Int32)) (mat : Int32) (mnumber : Int32) (mreads : (Nat → Int32)) (mbeyond : Int32) (mjudgedTo : (Nat → Int32)) (mreach : (Nat → Int32)) (mgoes : (Nat → Int32)) (n : Nat) (r : Int32 × (Nat → Int32) × Int32) (hf : f_X7_undo n mnow mhistory mkept = some r) : CI l yX7_undo wsX7_undo 0 0 D cI cC cS [.ref (a0 0)] ((w_M a0 cI cC mnow mhistory mkept mslot misFilled mgame mmeasures mmost mnumbers mround mtyped mtext mat mnumber mreads mbeyond mjudgedTo mreach mgoes) ++ R) r.1 ((w_M a0 cI cC r.2.1 mhistory r.2.2 mslot misFilled mgame mmeasures mmost mnumbers mround mtyped mtext mat mnumber mreads mbeyond mjudgedTo mreach mgoes) ++ R) := by
  refine XI.of (cc := cX7_undo) (maxL := 2) (ty := .int) (own := RX7) (by decide) rfl rfl (Nat.le_of_ble_eq_true rfl) ?_
  intro p e s m args below meth c A Q S hK hN hA hP hD hS ls hl hret
  obtain ⟨hx, hb, hml, hown, hts⟩ := id S
  have hl : lv_has ls 2 [(0, .ref (a0 0))] := hl
  unfold f_X7_undo at hf
  refine lv_aload_n hx hb dX7_undo_0 rfl (lv_at hl 0 rfl) ?_
  refine va_get (D := D) (ci := 7) (v := .int mkept) (C := RX7) (T := TX7) (N := 19) hx hb hts inw_X7_undo_7 hown hK hP 0 rfl rfl 2 (by decide) (hts (.fieldLink RX7 56 "RingGamesModel" "kept" "I") (List.mem_of_getElem? (i := 1) rfl)) (fun _ h9 => h9) rfl dX7_undo_1 ?_
  refine lv_if_ne (tgt := 10) hx hb dX7_undo_4 (by decide) (fun c1 => ?_) (fun c1 => ?_)
  · have hf := if_f hf c1
    refine lv_aload_n hx hb dX7_undo_10 rfl (lv_at hl 0 rfl) ?_
    refine lv_dup hx hb dX7_undo_11 rfl ?_
    refine va_get (D := D) (ci := 7) (v := .int mkept) (C := RX7) (T := TX7) (N := 19) hx hb hts inw_X7_undo_7 hown hK hP 0 rfl rfl 2 (by decide) (hts (.fieldLink RX7 56 "RingGamesModel" "kept" "I") (List.mem_of_getElem? (i := 1) rfl)) (fun _ h9 => h9) rfl dX7_undo_12 ?_
    refine lv_iconst (v := 1) hx hb dX7_undo_15 (by decide) ?_
    refine lv_isub hx hb dX7_undo_16 ?_
    refine va_put (D := D) (ci := 7) (v := .int (mkept - 1)) (ty := .int) (C := RX7) (T := TX7) (N := 19) hx hb hts inw_X7_undo_7 tyX7 tyX7_ok nmX7 hown hK hP hD hS 0 rfl rfl 2 (by decide) (hts (.fieldLink RX7 56 "RingGamesModel" "kept" "I") (List.mem_of_getElem? (i := 1) rfl)) (fun _ h9 => h9) rfl (tyX7_ok 2 (by decide)) rfl rfl (Nat.le_of_ble_eq_true rfl) dX7_undo_17 (fun H locs hP hD hS => ?_)
    have hP : va_P D vwCl ((w_M a0 cI cC mnow mhistory (mkept - 1) mslot misFilled mgame mmeasures mmost mnumbers mround mtyped mtext mat mnumber mreads mbeyond mjudgedTo mreach mgoes) ++ R) H := hP
    have hD : va_D A ((w_M a0 cI cC mnow mhistory (mkept - 1) mslot misFilled mgame mmeasures mmost mnumbers mround mtyped mtext mat mnumber mreads mbeyond mjudgedTo mreach mgoes) ++ R) := hD
    refine lv_iconst (v := 0) hx hb dX7_undo_20 (by decide) ?_
    refine lv_istore_n (lv' := [(1, .int 0), (0, .ref (a0 0))]) hx hb dX7_undo_21 rfl hl (by decide) rfl (fun ls hl => ?_)
    obtain ⟨q3, hq3, hf⟩ := ob_some hf
    have L2 : ∀ (k : Nat) (v_l1_L2 : Int32) (v_mnow_L2 : (Nat → Int32)) (q_L2 : (Nat → Int32)), f_X7_undo_L22 mhistory (mkept - 1) k v_l1_L2 v_mnow_L2 = some q_L2 → ∀ (H : Heap) (locs : List Loc), va_P D vwCl ((w_M a0 cI cC v_mnow_L2 mhistory (mkept - 1) mslot misFilled mgame mmeasures mmost mnumbers mround mtyped mtext mat mnumber mreads mbeyond mjudgedTo mreach mgoes) ++ R) H → va_D A ((w_M a0 cI cC v_mnow_L2 mhistory (mkept - 1) mslot misFilled mgame mmeasures mmost mnumbers mround mtyped mtext mat mnumber mreads mbeyond mjudgedTo mreach mgoes) ++ R) → va_S A s.heap H locs → ∀ ls : Array Slot, lv_has ls 2 [(0, .ref (a0 0)), (1, .int v_l1_L2)] → (∀ (H : Heap) (locs : List Loc), va_P D vwCl ((w_M a0 cI cC q_L2 mhistory (mkept - 1) mslot misFilled mgame mmeasures mmost mnumbers mround mtyped mtext mat mnumber mreads mbeyond mjudgedTo mreach mgoes) ++ R) H → va_D A ((w_M a0 cI cC q_L2 mhistory (mkept - 1) mslot misFilled mgame mmeasures mmost mnumbers mround mtyped mtext mat mnumber mreads mbeyond mjudgedTo mreach mgoes) ++ R) → va_S A s.heap H locs → ∀ ls : Array Slot, lv_has ls 2 [(0, .ref (a0 0))] → W p l e (xR 0 0) s m args below meth c H locs 0 0 Q (F0 m 54 ls [])) → W p l e (xR 0 0) s m args below meth c H locs 0 0 Q (F0 m 22 ls []) := by
      intro k
      induction k with
      | zero => intro v_l1_L2 v_mnow_L2 q_L2 hf; simp [f_X7_undo_L22] at hf
      | succ k ih =>
        intro v_l1_L2 v_mnow_L2 q_L2 hf H locs hP hD hS ls hl kx
        rw [f_X7_undo_L22] at hf
        refine lv_iload_n hx hb dX7_undo_22 rfl (lv_at hl 1 rfl) ?_
        refine lv_bipush (v := 59) hx hb dX7_undo_23 (by decide) ?_
        refine lv_icmp_ge (tgt := 54) hx hb dX7_undo_25 (by decide) (fun c4 => ?_) (fun c4 => ?_)
        · have hf := if_t hf c4
          have hf := Option.some.inj hf
          subst hf
          exact kx _ _ hP hD hS _ (lv_sub hl [0] rfl)
        · have hf := if_f hf c4
          refine lv_aload_n hx hb dX7_undo_28 rfl (lv_at hl 0 rfl) ?_
          refine va_get (D := D) (ci := 7) (v := .ref (a0 1)) (C := RX7) (T := TX7) (N := 19) hx hb hts inw_X7_undo_7 hown hK hP 0 rfl rfl 0 (by decide) (hts (.fieldLink RX7 7 "RingGamesModel" "now" "[I") (List.mem_of_getElem? (i := 2) rfl)) (fun _ h9 => h9) rfl dX7_undo_29 ?_
          refine lv_iload_n hx hb dX7_undo_32 rfl (lv_at hl 1 rfl) ?_
          refine lv_aload_n hx hb dX7_undo_33 rfl (lv_at hl 0 rfl) ?_
          refine va_get (D := D) (ci := 7) (v := .ref (a0 2)) (C := RX7) (T := TX7) (N := 19) hx hb hts inw_X7_undo_7 hown hK hP 0 rfl rfl 1 (by decide) (hts (.fieldLink RX7 13 "RingGamesModel" "history" "[I") (List.mem_of_getElem? (i := 3) rfl)) (fun _ h9 => h9) rfl dX7_undo_34 ?_
          refine lv_bipush (v := 59) hx hb dX7_undo_37 (by decide) ?_
          refine lv_aload_n hx hb dX7_undo_39 rfl (lv_at hl 0 rfl) ?_
          refine va_get (D := D) (ci := 7) (v := .int (mkept - 1)) (C := RX7) (T := TX7) (N := 19) hx hb hts inw_X7_undo_7 hown hK hP 0 rfl rfl 2 (by decide) (hts (.fieldLink RX7 56 "RingGamesModel" "kept" "I") (List.mem_of_getElem? (i := 1) rfl)) (fun _ h9 => h9) rfl dX7_undo_40 ?_
          refine lv_imul hx hb dX7_undo_43 ?_
          refine lv_iload_n hx hb dX7_undo_44 rfl (lv_at hl 1 rfl) ?_
          refine lv_iadd hx hb dX7_undo_45 ?_
          obtain ⟨g5, hf⟩ := vg_some hf
          refine va_iald hx hb hK hP 2 0 rfl rfl g5 dX7_undo_46 ?_
          obtain ⟨g6, hf⟩ := vg_some hf
          refine va_iast hx hb hK hP hD hS 1 0 rfl rfl g6 dX7_undo_47 (fun H locs hP hD hS => ?_)
          have hP : va_P D vwCl ((w_M a0 cI cC (upd v_mnow_L2 (v_l1_L2).toNatClampNeg (mhistory (((59 * (mkept - 1)) + v_l1_L2)).toNatClampNeg)) mhistory (mkept - 1) mslot misFilled mgame mmeasures mmost mnumbers mround mtyped mtext mat mnumber mreads mbeyond mjudgedTo mreach mgoes) ++ R) H := hP
          have hD : va_D A ((w_M a0 cI cC (upd v_mnow_L2 (v_l1_L2).toNatClampNeg (mhistory (((59 * (mkept - 1)) + v_l1_L2)).toNatClampNeg)) mhistory (mkept - 1) mslot misFilled mgame mmeasures mmost mnumbers mround mtyped mtext mat mnumber mreads mbeyond mjudgedTo mreach mgoes) ++ R) := hD
          refine lv_iinc (v := (v_l1_L2 + 1)) (lv' := [(1, .int (v_l1_L2 + 1)), (0, .ref (a0 0))]) hx hb dX7_undo_48 hl (k := 1) rfl (congrArg (fun z => v_l1_L2 + z) (by decide)) (by decide) rfl (fun ls hl => ?_)
          refine lv_goto (tgt := 22) hx hb dX7_undo_51 (by decide) ?_
          exact ih (v_l1_L2 + 1) (upd v_mnow_L2 (v_l1_L2).toNatClampNeg (mhistory (((59 * (mkept - 1)) + v_l1_L2)).toNatClampNeg)) _ hf _ _ hP hD hS _ (lv_sub hl [1, 0] rfl) kx
    refine L2 n 0 mnow q3 hq3 _ _ hP hD hS _ (lv_sub hl [1, 0] rfl) ?_
    clear hP hD hS hl
    intro H locs hP hD hS ls hl
    refine lv_aload_n hx hb dX7_undo_54 rfl (lv_at hl 0 rfl) ?_
    refine va_get (D := D) (ci := 7) (v := .int (mkept - 1)) (C := RX7) (T := TX7) (N := 19) hx hb hts inw_X7_undo_7 hown hK hP 0 rfl rfl 2 (by decide) (hts (.fieldLink RX7 56 "RingGamesModel" "kept" "I") (List.mem_of_getElem? (i := 1) rfl)) (fun _ h9 => h9) rfl dX7_undo_55 ?_
    have hf := Option.some.inj hf
    subst hf
    exact hret _ _ _ _ _ dX7_undo_58 rfl hP hD hS rfl
  · have hf := if_t hf c1
    refine lv_bipush (v := (-5)) hx hb dX7_undo_7 (by decide) ?_
    have hf := Option.some.inj hf
    subst hf
    exact hret _ _ _ _ _ dX7_undo_9 rfl hP hD hS rfl
def f_X7_keep_L2 (d_mnow : (Nat → Int32)) : Nat → Int32 → (Nat → Int32) → Option (Nat → Int32)
  | 0, _, _ => none
  | k + 1, d_l1, d_mslot => (if 59 ≤ d_l1 then some (d_mslot) else vg d_l1 59 (f_X7_keep_L2 d_mnow k (d_l1 + 1) (upd d_mslot (d_l1).toNatClampNeg (d_mnow (d_l1).toNatClampNeg))))
def f_X7_keep (n : Nat) (mnow : (Nat → Int32)) (mslot : (Nat → Int32)) : Option (Int32 × (Nat → Int32) × Int32) := (f_X7_keep_L2 mnow n 0 mslot).bind fun q2 => some ((mnow 56), q2, 1)
theorem inw_X7_keep_7 : ∀ w ∈ wsX70, w ∈ wsX7_keep := fun _ h => List.mem_cons_of_mem _ (List.mem_append_right _ h)
theorem hd_X7_keep : yX7_keep.cls = RX7 ∧ yX7_keep.cls ≠ "java/lang/invoke/MethodHandle" ∧ yX7_keep.cls ≠ "java/lang/invoke/VarHandle" ∧ (parseMethodDescriptor yX7_keep.desc).map (fun d => d.parameters.length) = some 0 := by decide +kernel
set_option maxHeartbeats 4000000 in
set_option maxRecDepth 100000 in
theorem c_X7_keep (l : Launch) (D : va_G) (cI cC cS : ClassId) (R : va_W) (a0 : Nat → Nat) (mnow : (Nat → Int32)) (mhistory : (Nat → Int32)) (mkept : Int32) (mslot : (Nat → Int32)) (misFilled : Int32) (mgame : Int32) (mmeasures : (Nat → Int32)) (mmost : (Nat → Int32)) (mnumbers : (Nat → Int32)) (mround : Int32) (mtyped : Int32) (mtext : (Nat → Int32)) (mat : Int32) (mnumber : Int32) (mreads : (Nat → Int32)) (mbeyond : Int32) (mjudgedTo : (Nat → Int32)) (mreach : (Nat → Int32)) (mgoes : (Nat → Int32)) (n : Nat) (r : Int32 × (Nat → Int32) × Int32) (hf : f_X7_keep n mnow mslot = some r) : CI l yX7_keep wsX7_keep 0 0 D cI cC cS [.ref (a0 0)] ((w_M a0 cI cC mnow mhistory mkept mslot misFilled mgame mmeasures mmost mnumbers mround mtyped mtext mat mnumber mreads mbeyond mjudgedTo mreach mgoes) ++ R) r.1 ((w_M a0 cI cC mnow mhistory mkept r.2.1 r.2.2 mgame mmeasures mmost mnumbers mround mtyped mtext mat mnumber mreads mbeyond mjudgedTo mreach mgoes) ++ R) := by
  refine XI.of (cc := cX7_keep) (maxL := 2) (ty := .int) (own := RX7) (by decide) rfl rfl (Nat.le_of_ble_eq_true rfl) ?_
  intro p e s m args below meth c A Q S hK hN hA hP hD hS ls hl hret
  obtain ⟨hx, hb, hml, hown, hts⟩ := id S
  have hl : lv_has ls 2 [(0, .ref (a0 0))] := hl
  unfold f_X7_keep at hf
  refine lv_iconst (v := 0) hx hb dX7_keep_0 (by decide) ?_
  refine lv_istore_n (lv' := [(1, .int 0), (0, .ref (a0 0))]) hx hb dX7_keep_1 rfl hl (by decide) rfl (fun ls hl => ?_)
  obtain ⟨q2, hq2, hf⟩ := ob_some hf
  have L1 : ∀ (k : Nat) (v_l1_L1 : Int32) (v_mslot_L1 : (Nat → Int32)) (q_L1 : (Nat → Int32)), f_X7_keep_L2 mnow k v_l1_L1 v_mslot_L1 = some q_L1 → ∀ (H : Heap) (locs : List Loc), va_P D vwCl ((w_M a0 cI cC mnow mhistory mkept v_mslot_L1 misFilled mgame mmeasures mmost mnumbers mround mtyped mtext mat mnumber mreads mbeyond mjudgedTo mreach mgoes) ++ R) H → va_D A ((w_M a0 cI cC mnow mhistory mkept v_mslot_L1 misFilled mgame mmeasures mmost mnumbers mround mtyped mtext mat mnumber mreads mbeyond mjudgedTo mreach mgoes) ++ R) → va_S A s.heap H locs → ∀ ls : Array Slot, lv_has ls 2 [(0, .ref (a0 0)), (1, .int v_l1_L1)] → (∀ (H : Heap) (locs : List Loc), va_P D vwCl ((w_M a0 cI cC mnow mhistory mkept q_L1 misFilled mgame mmeasures mmost mnumbers mround mtyped mtext mat mnumber mreads mbeyond mjudgedTo mreach mgoes) ++ R) H → va_D A ((w_M a0 cI cC mnow mhistory mkept q_L1 misFilled mgame mmeasures mmost mnumbers mround mtyped mtext mat mnumber mreads mbeyond mjudgedTo mreach mgoes) ++ R) → va_S A s.heap H locs → ∀ ls : Array Slot, lv_has ls 2 [(0, .ref (a0 0))] → W p l e (xR 0 0) s m args below meth c H locs 0 0 Q (F0 m 26 ls [])) → W p l e (xR 0 0) s m args below meth c H locs 0 0 Q (F0 m 2 ls []) := by
    intro k
    induction k with
    | zero => intro v_l1_L1 v_mslot_L1 q_L1 hf; simp [f_X7_keep_L2] at hf
    | succ k ih =>
      intro v_l1_L1 v_mslot_L1 q_L1 hf H locs hP hD hS ls hl kx
      rw [f_X7_keep_L2] at hf
      refine lv_iload_n hx hb dX7_keep_2 rfl (lv_at hl 1 rfl) ?_
      refine lv_bipush (v := 59) hx hb dX7_keep_3 (by decide) ?_
      refine lv_icmp_ge (tgt := 26) hx hb dX7_keep_5 (by decide) (fun c3 => ?_) (fun c3 => ?_)
      · have hf := if_t hf c3
        have hf := Option.some.inj hf
        subst hf
        exact kx _ _ hP hD hS _ (lv_sub hl [0] rfl)
      · have hf := if_f hf c3
        refine lv_aload_n hx hb dX7_keep_8 rfl (lv_at hl 0 rfl) ?_
        refine va_get (D := D) (ci := 7) (v := .ref (a0 3)) (C := RX7) (T := TX7) (N := 19) hx hb hts inw_X7_keep_7 hown hK hP 0 rfl rfl 3 (by decide) (hts (.fieldLink RX7 16 "RingGamesModel" "slot" "[I") (List.mem_of_getElem? (i := 1) rfl)) (fun _ h9 => h9) rfl dX7_keep_9 ?_
        refine lv_iload_n hx hb dX7_keep_12 rfl (lv_at hl 1 rfl) ?_
        refine lv_aload_n hx hb dX7_keep_13 rfl (lv_at hl 0 rfl) ?_
        refine va_get (D := D) (ci := 7) (v := .ref (a0 1)) (C := RX7) (T := TX7) (N := 19) hx hb hts inw_X7_keep_7 hown hK hP 0 rfl rfl 0 (by decide) (hts (.fieldLink RX7 7 "RingGamesModel" "now" "[I") (List.mem_of_getElem? (i := 2) rfl)) (fun _ h9 => h9) rfl dX7_keep_14 ?_
        refine lv_iload_n hx hb dX7_keep_17 rfl (lv_at hl 1 rfl) ?_
        obtain ⟨g4, hf⟩ := vg_some hf
        refine va_iald hx hb hK hP 1 0 rfl rfl g4 dX7_keep_18 ?_
        refine va_iast hx hb hK hP hD hS 3 0 rfl rfl g4 dX7_keep_19 (fun H locs hP hD hS => ?_)
        have hP : va_P D vwCl ((w_M a0 cI cC mnow mhistory mkept (upd v_mslot_L1 (v_l1_L1).toNatClampNeg (mnow (v_l1_L1).toNatClampNeg)) misFilled mgame mmeasures mmost mnumbers mround mtyped mtext mat mnumber mreads mbeyond mjudgedTo mreach mgoes) ++ R) H := hP
        have hD : va_D A ((w_M a0 cI cC mnow mhistory mkept (upd v_mslot_L1 (v_l1_L1).toNatClampNeg (mnow (v_l1_L1).toNatClampNeg)) misFilled mgame mmeasures mmost mnumbers mround mtyped mtext mat mnumber mreads mbeyond mjudgedTo mreach mgoes) ++ R) := hD
        refine lv_iinc (v := (v_l1_L1 + 1)) (lv' := [(1, .int (v_l1_L1 + 1)), (0, .ref (a0 0))]) hx hb dX7_keep_20 hl (k := 1) rfl (congrArg (fun z => v_l1_L1 + z) (by decide)) (by decide) rfl (fun ls hl => ?_)
        refine lv_goto (tgt := 2) hx hb dX7_keep_23 (by decide) ?_
        exact ih (v_l1_L1 + 1) (upd v_mslot_L1 (v_l1_L1).toNatClampNeg (mnow (v_l1_L1).toNatClampNeg)) _ hf _ _ hP hD hS _ (lv_sub hl [1, 0] rfl) kx
  refine L1 n 0 mslot q2 hq2 _ _ hP hD hS _ (lv_sub hl [1, 0] rfl) ?_
  clear hP hD hS hl
  intro H locs hP hD hS ls hl
  refine lv_aload_n hx hb dX7_keep_26 rfl (lv_at hl 0 rfl) ?_
  refine lv_iconst (v := 1) hx hb dX7_keep_27 (by decide) ?_
  refine va_put (D := D) (ci := 7) (v := .int 1) (ty := .boolean) (C := RX7) (T := TX7) (N := 19) hx hb hts inw_X7_keep_7 tyX7 tyX7_ok nmX7 hown hK hP hD hS 0 rfl rfl 4 (by decide) (hts (.fieldLink RX7 151 "RingGamesModel" "isFilled" "Z") (List.mem_of_getElem? (i := 3) rfl)) (fun _ h9 => h9) rfl (tyX7_ok 4 (by decide)) rfl rfl (Nat.le_of_ble_eq_true rfl) dX7_keep_28 (fun H locs hP hD hS => ?_)
  have hP : va_P D vwCl ((w_M a0 cI cC mnow mhistory mkept q2 1 mgame mmeasures mmost mnumbers mround mtyped mtext mat mnumber mreads mbeyond mjudgedTo mreach mgoes) ++ R) H := hP
  have hD : va_D A ((w_M a0 cI cC mnow mhistory mkept q2 1 mgame mmeasures mmost mnumbers mround mtyped mtext mat mnumber mreads mbeyond mjudgedTo mreach mgoes) ++ R) := hD
  refine lv_aload_n hx hb dX7_keep_31 rfl (lv_at hl 0 rfl) ?_
  refine va_get (D := D) (ci := 7) (v := .ref (a0 1)) (C := RX7) (T := TX7) (N := 19) hx hb hts inw_X7_keep_7 hown hK hP 0 rfl rfl 0 (by decide) (hts (.fieldLink RX7 7 "RingGamesModel" "now" "[I") (List.mem_of_getElem? (i := 2) rfl)) (fun _ h9 => h9) rfl dX7_keep_32 ?_
  refine lv_bipush (v := 56) hx hb dX7_keep_35 (by decide) ?_
  refine va_iald hx hb hK hP 1 0 rfl rfl (x_in (by decide)) dX7_keep_37 ?_
  have hf := Option.some.inj hf
  subst hf
  exact hret _ _ _ _ _ dX7_keep_38 rfl hP hD hS rfl
def f_X7_restore_L16 (d_mslot : (Nat → Int32)) : Nat → Int32 → (Nat → Int32) → Option (Nat → Int32)
  | 0, _, _ => none
  | k + 1, d_l1, d_mnow => (if 59 ≤ d_l1 then some (d_mnow) else vg d_l1 59 (f_X7_restore_L16 d_mslot k (d_l1 + 1) (upd d_mnow (d_l1).toNatClampNeg (d_mslot (d_l1).toNatClampNeg))))
def f_X7_restore (n : Nat) (mnow : (Nat → Int32)) (mhistory : (Nat → Int32)) (mkept : Int32) (mslot : (Nat → Int32)) (misFilled : Int32) : Option (Int32 × (Nat → Int32) × (Nat → Int32) × Int32) := (if misFilled = 0 then some ((-5), mnow, mhistory, mkept) else (f_X7_record n mnow mhistory mkept).bind fun q2 => (f_X7_restore_L16 mslot n 0 mnow).bind fun q4 => some ((q4 56), q4, q2.1, q2.2))
theorem inw_X7_restore_7 : ∀ w ∈ wsX70, w ∈ wsX7_restore := fun _ h => List.mem_cons_of_mem _ (List.mem_append_right _ h)
theorem hd_X7_restore : yX7_restore.cls = RX7 ∧ yX7_restore.cls ≠ "java/lang/invoke/MethodHandle" ∧ yX7_restore.cls ≠ "java/lang/invoke/VarHandle" ∧ (parseMethodDescriptor yX7_restore.desc).map (fun d => d.parameters.length) = some 0 := by decide +kernel
set_option maxHeartbeats 4000000 in
set_option maxRecDepth 100000 in
theorem c_X7_restore (l : Launch) (D : va_G) (cI cC cS : ClassId) (R : va_W) (a0 : Nat → Nat) (mnow : (Nat → Int32)) (mhistory : (Nat → Int32)) (mkept : Int32) (mslot : (Nat → Int32)) (misFilled : Int32) (mgame : Int32) (mmeasures : (Nat → Int32)) (mmost : (Nat → Int32)) (mnumbers : (Nat → Int32)) (mround : Int32) (mtyped : Int32) (mtext : (Nat → Int32)) (mat : Int32) (mnumber : Int32) (mreads : (Nat → Int32)) (mbeyond : Int32) (mjudgedTo : (Nat → Int32)) (mreach : (Nat → Int32)) (mgoes : (Nat → Int32)) (n : Nat) (r : Int32 × (Nat → Int32) × (Nat → Int32) × Int32) (hf : f_X7_restore n mnow mhistory mkept mslot misFilled = some r) : CI l yX7_restore wsX7_restore 1 21 D cI cC cS [.ref (a0 0)] ((w_M a0 cI cC mnow mhistory mkept mslot misFilled mgame mmeasures mmost mnumbers mround mtyped mtext mat mnumber mreads mbeyond mjudgedTo mreach mgoes) ++ R) r.1 ((w_M a0 cI cC r.2.1 r.2.2.1 r.2.2.2 mslot misFilled mgame mmeasures mmost mnumbers mround mtyped mtext mat mnumber mreads mbeyond mjudgedTo mreach mgoes) ++ R) := by
  refine XI.of (cc := cX7_restore) (maxL := 2) (ty := .int) (own := RX7) (by decide) rfl rfl (Nat.le_of_ble_eq_true rfl) ?_
  intro p e s m args below meth c A Q S hK hN hA hP hD hS ls hl hret
  obtain ⟨hx, hb, hml, hown, hts⟩ := id S
  have hl : lv_has ls 2 [(0, .ref (a0 0))] := hl
  unfold f_X7_restore at hf
  refine lv_aload_n hx hb dX7_restore_0 rfl (lv_at hl 0 rfl) ?_
  refine va_get (D := D) (ci := 7) (v := .int misFilled) (C := RX7) (T := TX7) (N := 19) hx hb hts inw_X7_restore_7 hown hK hP 0 rfl rfl 4 (by decide) (hts (.fieldLink RX7 151 "RingGamesModel" "isFilled" "Z") (List.mem_of_getElem? (i := 1) rfl)) (fun _ h9 => h9) rfl dX7_restore_1 ?_
  refine lv_if_ne (tgt := 10) hx hb dX7_restore_4 (by decide) (fun c1 => ?_) (fun c1 => ?_)
  · have hf := if_f hf c1
    refine lv_aload_n hx hb dX7_restore_10 rfl (lv_at hl 0 rfl) ?_
    obtain ⟨q2, hq2, hf⟩ := ob_some hf
    refine xcVv (w' := ((w_M a0 cI cC mnow q2.1 q2.2 mslot misFilled mgame mmeasures mmost mnumbers mround mtyped mtext mat mnumber mreads mbeyond mjudgedTo mreach mgoes) ++ R)) S hK hN hA hP hD hS (c_X7_record l D cI cC cS R a0 mnow mhistory mkept mslot misFilled mgame mmeasures mmost mnumbers mround mtyped mtext mat mnumber mreads mbeyond mjudgedTo mreach mgoes n _ hq2) gX7_restore_X7_record rfl hd_X7_record ⟨by decide, by decide⟩ (List.Perm.refl _) (List.Perm.refl _) (ci := 7) (q := (RX7, TX7, 19)) rfl rfl rfl rfl hl.1 rfl (Nat.le_of_ble_eq_true rfl) dX7_restore_11 ⟨Nat.zero_le _, Nat.zero_le _⟩ (fun H locs hP hD hS => ?_)
    refine lv_iconst (v := 0) hx hb dX7_restore_14 (by decide) ?_
    refine lv_istore_n (lv' := [(1, .int 0), (0, .ref (a0 0))]) hx hb dX7_restore_15 rfl hl (by decide) rfl (fun ls hl => ?_)
    obtain ⟨q4, hq4, hf⟩ := ob_some hf
    have L3 : ∀ (k : Nat) (v_l1_L3 : Int32) (v_mnow_L3 : (Nat → Int32)) (q_L3 : (Nat → Int32)), f_X7_restore_L16 mslot k v_l1_L3 v_mnow_L3 = some q_L3 → ∀ (H : Heap) (locs : List Loc), va_P D vwCl ((w_M a0 cI cC v_mnow_L3 q2.1 q2.2 mslot misFilled mgame mmeasures mmost mnumbers mround mtyped mtext mat mnumber mreads mbeyond mjudgedTo mreach mgoes) ++ R) H → va_D A ((w_M a0 cI cC v_mnow_L3 q2.1 q2.2 mslot misFilled mgame mmeasures mmost mnumbers mround mtyped mtext mat mnumber mreads mbeyond mjudgedTo mreach mgoes) ++ R) → va_S A s.heap H locs → ∀ ls : Array Slot, lv_has ls 2 [(0, .ref (a0 0)), (1, .int v_l1_L3)] → (∀ (H : Heap) (locs : List Loc), va_P D vwCl ((w_M a0 cI cC q_L3 q2.1 q2.2 mslot misFilled mgame mmeasures mmost mnumbers mround mtyped mtext mat mnumber mreads mbeyond mjudgedTo mreach mgoes) ++ R) H → va_D A ((w_M a0 cI cC q_L3 q2.1 q2.2 mslot misFilled mgame mmeasures mmost mnumbers mround mtyped mtext mat mnumber mreads mbeyond mjudgedTo mreach mgoes) ++ R) → va_S A s.heap H locs → ∀ ls : Array Slot, lv_has ls 2 [(0, .ref (a0 0))] → W p l e (xR 1 21) s m args below meth c H locs 0 0 Q (F0 m 40 ls [])) → W p l e (xR 1 21) s m args below meth c H locs 0 0 Q (F0 m 16 ls []) := by
      intro k
      induction k with
      | zero => intro v_l1_L3 v_mnow_L3 q_L3 hf; simp [f_X7_restore_L16] at hf
      | succ k ih =>
        intro v_l1_L3 v_mnow_L3 q_L3 hf H locs hP hD hS ls hl kx
        rw [f_X7_restore_L16] at hf
        refine lv_iload_n hx hb dX7_restore_16 rfl (lv_at hl 1 rfl) ?_
        refine lv_bipush (v := 59) hx hb dX7_restore_17 (by decide) ?_
        refine lv_icmp_ge (tgt := 40) hx hb dX7_restore_19 (by decide) (fun c5 => ?_) (fun c5 => ?_)
        · have hf := if_t hf c5
          have hf := Option.some.inj hf
          subst hf
          exact kx _ _ hP hD hS _ (lv_sub hl [0] rfl)
        · have hf := if_f hf c5
          refine lv_aload_n hx hb dX7_restore_22 rfl (lv_at hl 0 rfl) ?_
          refine va_get (D := D) (ci := 7) (v := .ref (a0 1)) (C := RX7) (T := TX7) (N := 19) hx hb hts inw_X7_restore_7 hown hK hP 0 rfl rfl 0 (by decide) (hts (.fieldLink RX7 7 "RingGamesModel" "now" "[I") (List.mem_of_getElem? (i := 2) rfl)) (fun _ h9 => h9) rfl dX7_restore_23 ?_
          refine lv_iload_n hx hb dX7_restore_26 rfl (lv_at hl 1 rfl) ?_
          refine lv_aload_n hx hb dX7_restore_27 rfl (lv_at hl 0 rfl) ?_
          refine va_get (D := D) (ci := 7) (v := .ref (a0 3)) (C := RX7) (T := TX7) (N := 19) hx hb hts inw_X7_restore_7 hown hK hP 0 rfl rfl 3 (by decide) (hts (.fieldLink RX7 16 "RingGamesModel" "slot" "[I") (List.mem_of_getElem? (i := 3) rfl)) (fun _ h9 => h9) rfl dX7_restore_28 ?_
          refine lv_iload_n hx hb dX7_restore_31 rfl (lv_at hl 1 rfl) ?_
          obtain ⟨g6, hf⟩ := vg_some hf
          refine va_iald hx hb hK hP 3 0 rfl rfl g6 dX7_restore_32 ?_
          refine va_iast hx hb hK hP hD hS 1 0 rfl rfl g6 dX7_restore_33 (fun H locs hP hD hS => ?_)
          have hP : va_P D vwCl ((w_M a0 cI cC (upd v_mnow_L3 (v_l1_L3).toNatClampNeg (mslot (v_l1_L3).toNatClampNeg)) q2.1 q2.2 mslot misFilled mgame mmeasures mmost mnumbers mround mtyped mtext mat mnumber mreads mbeyond mjudgedTo mreach mgoes) ++ R) H := hP
          have hD : va_D A ((w_M a0 cI cC (upd v_mnow_L3 (v_l1_L3).toNatClampNeg (mslot (v_l1_L3).toNatClampNeg)) q2.1 q2.2 mslot misFilled mgame mmeasures mmost mnumbers mround mtyped mtext mat mnumber mreads mbeyond mjudgedTo mreach mgoes) ++ R) := hD
          refine lv_iinc (v := (v_l1_L3 + 1)) (lv' := [(1, .int (v_l1_L3 + 1)), (0, .ref (a0 0))]) hx hb dX7_restore_34 hl (k := 1) rfl (congrArg (fun z => v_l1_L3 + z) (by decide)) (by decide) rfl (fun ls hl => ?_)
          refine lv_goto (tgt := 16) hx hb dX7_restore_37 (by decide) ?_
          exact ih (v_l1_L3 + 1) (upd v_mnow_L3 (v_l1_L3).toNatClampNeg (mslot (v_l1_L3).toNatClampNeg)) _ hf _ _ hP hD hS _ (lv_sub hl [1, 0] rfl) kx
    refine L3 n 0 mnow q4 hq4 _ _ hP hD hS _ (lv_sub hl [1, 0] rfl) ?_
    clear hP hD hS hl
    intro H locs hP hD hS ls hl
    refine lv_aload_n hx hb dX7_restore_40 rfl (lv_at hl 0 rfl) ?_
    refine va_get (D := D) (ci := 7) (v := .ref (a0 1)) (C := RX7) (T := TX7) (N := 19) hx hb hts inw_X7_restore_7 hown hK hP 0 rfl rfl 0 (by decide) (hts (.fieldLink RX7 7 "RingGamesModel" "now" "[I") (List.mem_of_getElem? (i := 2) rfl)) (fun _ h9 => h9) rfl dX7_restore_41 ?_
    refine lv_bipush (v := 56) hx hb dX7_restore_44 (by decide) ?_
    refine va_iald hx hb hK hP 1 0 rfl rfl (x_in (by decide)) dX7_restore_46 ?_
    have hf := Option.some.inj hf
    subst hf
    exact hret _ _ _ _ _ dX7_restore_47 rfl hP hD hS rfl
  · have hf := if_t hf c1
    refine lv_bipush (v := (-5)) hx hb dX7_restore_7 (by decide) ?_
    have hf := Option.some.inj hf
    subst hf
    exact hret _ _ _ _ _ dX7_restore_9 rfl hP hD hS rfl
def f_X7_sources_L4 (d_mnow : (Nat → Int32)) (d_l1 : Int32) : Nat → Int32 → Int32 → Option Int32
  | 0, _, _ => none
  | k + 1, d_l2, d_l3 => (if (d_mnow 56) ≤ d_l3 then some (d_l2) else (f_X7_hasArrow d_mnow d_l3 d_l1).bind fun q2 => (if q2 = 0 then f_X7_sources_L4 d_mnow d_l1 k (d_l2 ||| 0) (d_l3 + 1) else f_X7_sources_L4 d_mnow d_l1 k (d_l2 ||| (jshl 1 d_l3)) (d_l3 + 1)))
def f_X7_sources (n : Nat) (mnow : (Nat → Int32)) (p1 : Int32) : Option Int32 := (f_X7_sources_L4 mnow p1 n 0 0).bind fun q2 => some (q2)
theorem inw_X7_sources_7 : ∀ w ∈ wsX70, w ∈ wsX7_sources := fun _ h => List.mem_cons_of_mem _ (List.mem_append_right _ h)
theorem hd_X7_sources : yX7_sources.cls = RX7 ∧ yX7_sources.cls ≠ "java/lang/invoke/MethodHandle" ∧ yX7_sources.cls ≠ "java/lang/invoke/VarHandle" ∧ (parseMethodDescriptor yX7_sources.desc).map (fun d => d.parameters.length) = some 1 := by decide +kernel
set_option maxHeartbeats 4000000 in
set_option maxRecDepth 100000 in
theorem c_X7_sources (l : Launch) (D : va_G) (cI cC cS : ClassId) (R : va_W) (a0 : Nat → Nat) (mnow : (Nat → Int32)) (mhistory : (Nat → Int32)) (mkept : Int32) (mslot : (Nat → Int32)) (misFilled : Int32) (mgame : Int32) (mmeasures : (Nat → Int32)) (mmost : (Nat → Int32)) (mnumbers : (Nat → Int32)) (mround : Int32) (mtyped : Int32) (mtext : (Nat → Int32)) (mat : Int32) (mnumber : Int32) (mreads : (Nat → Int32)) (mbeyond : Int32) (mjudgedTo : (Nat → Int32)) (mreach : (Nat → Int32)) (mgoes : (Nat → Int32)) (p1 : Int32) (n : Nat) (r : Int32) (hf : f_X7_sources n mnow p1 = some r) : CI l yX7_sources wsX7_sources 2 44 D cI cC cS [.ref (a0 0), .int p1] ((w_M a0 cI cC mnow mhistory mkept mslot misFilled mgame mmeasures mmost mnumbers mround mtyped mtext mat mnumber mreads mbeyond mjudgedTo mreach mgoes) ++ R) r ((w_M a0 cI cC mnow mhistory mkept mslot misFilled mgame mmeasures mmost mnumbers mround mtyped mtext mat mnumber mreads mbeyond mjudgedTo mreach mgoes) ++ R) := by
  refine XI.of (cc := cX7_sources) (maxL := 4) (ty := .int) (own := RX7) (by decide) rfl rfl (Nat.le_of_ble_eq_true rfl) ?_
  intro p e s m args below meth c A Q S hK hN hA hP hD hS ls hl hret
  obtain ⟨hx, hb, hml, hown, hts⟩ := id S
  have hl : lv_has ls 4 [(0, .ref (a0 0)), (1, .int p1)] := hl
  unfold f_X7_sources at hf
  refine lv_iconst (v := 0) hx hb dX7_sources_0 (by decide) ?_
  refine lv_istore_n (lv' := [(2, .int 0), (0, .ref (a0 0)), (1, .int p1)]) hx hb dX7_sources_1 rfl hl (by decide) rfl (fun ls hl => ?_)
  refine lv_iconst (v := 0) hx hb dX7_sources_2 (by decide) ?_
  refine lv_istore_n (lv' := [(3, .int 0), (2, .int 0), (0, .ref (a0 0)), (1, .int p1)]) hx hb dX7_sources_3 rfl hl (by decide) rfl (fun ls hl => ?_)
  obtain ⟨q2, hq2, hf⟩ := ob_some hf
  have L1 : ∀ (k : Nat) (v_l2_L1 : Int32) (v_l3_L1 : Int32) (q_L1 : Int32), f_X7_sources_L4 mnow p1 k v_l2_L1 v_l3_L1 = some q_L1 → ∀ (H : Heap) (locs : List Loc), va_P D vwCl ((w_M a0 cI cC mnow mhistory mkept mslot misFilled mgame mmeasures mmost mnumbers mround mtyped mtext mat mnumber mreads mbeyond mjudgedTo mreach mgoes) ++ R) H → va_D A ((w_M a0 cI cC mnow mhistory mkept mslot misFilled mgame mmeasures mmost mnumbers mround mtyped mtext mat mnumber mreads mbeyond mjudgedTo mreach mgoes) ++ R) → va_S A s.heap H locs → ∀ ls : Array Slot, lv_has ls 4 [(0, .ref (a0 0)), (1, .int p1), (2, .int v_l2_L1), (3, .int v_l3_L1)] → (∀ (H : Heap) (locs : List Loc), va_P D vwCl ((w_M a0 cI cC mnow mhistory mkept mslot misFilled mgame mmeasures mmost mnumbers mround mtyped mtext mat mnumber mreads mbeyond mjudgedTo mreach mgoes) ++ R) H → va_D A ((w_M a0 cI cC mnow mhistory mkept mslot misFilled mgame mmeasures mmost mnumbers mround mtyped mtext mat mnumber mreads mbeyond mjudgedTo mreach mgoes) ++ R) → va_S A s.heap H locs → ∀ ls : Array Slot, lv_has ls 4 [(2, .int q_L1)] → W p l e (xR 2 44) s m args below meth c H locs 0 0 Q (F0 m 40 ls [])) → W p l e (xR 2 44) s m args below meth c H locs 0 0 Q (F0 m 4 ls []) := by
    intro k
    induction k with
    | zero => intro v_l2_L1 v_l3_L1 q_L1 hf; simp [f_X7_sources_L4] at hf
    | succ k ih =>
      intro v_l2_L1 v_l3_L1 q_L1 hf H locs hP hD hS ls hl kx
      rw [f_X7_sources_L4] at hf
      refine lv_iload_n hx hb dX7_sources_4 rfl (lv_at hl 3 rfl) ?_
      refine lv_aload_n hx hb dX7_sources_5 rfl (lv_at hl 0 rfl) ?_
      refine va_get (D := D) (ci := 7) (v := .ref (a0 1)) (C := RX7) (T := TX7) (N := 19) hx hb hts inw_X7_sources_7 hown hK hP 0 rfl rfl 0 (by decide) (hts (.fieldLink RX7 7 "RingGamesModel" "now" "[I") (List.mem_of_getElem? (i := 1) rfl)) (fun _ h9 => h9) rfl dX7_sources_6 ?_
      refine lv_bipush (v := 56) hx hb dX7_sources_9 (by decide) ?_
      refine va_iald hx hb hK hP 1 0 rfl rfl (x_in (by decide)) dX7_sources_11 ?_
      refine lv_icmp_ge (tgt := 40) hx hb dX7_sources_12 (by decide) (fun c3 => ?_) (fun c3 => ?_)
      · have hf := if_t hf c3
        have hf := Option.some.inj hf
        subst hf
        exact kx _ _ hP hD hS _ (lv_sub hl [2] rfl)
      · have hf := if_f hf c3
        refine lv_iload_n hx hb dX7_sources_15 rfl (lv_at hl 2 rfl) ?_
        refine lv_aload_n hx hb dX7_sources_16 rfl (lv_at hl 0 rfl) ?_
        refine lv_iload_n hx hb dX7_sources_17 rfl (lv_at hl 3 rfl) ?_
        refine lv_iload_n hx hb dX7_sources_18 rfl (lv_at hl 1 rfl) ?_
        obtain ⟨q4, hq4, hf⟩ := ob_some hf
        refine xcVi (w' := ((w_M a0 cI cC mnow mhistory mkept mslot misFilled mgame mmeasures mmost mnumbers mround mtyped mtext mat mnumber mreads mbeyond mjudgedTo mreach mgoes) ++ R)) S hK hN hA hP hD hS (c_X7_hasArrow l D cI cC cS R a0 mnow mhistory mkept mslot misFilled mgame mmeasures mmost mnumbers mround mtyped mtext mat mnumber mreads mbeyond mjudgedTo mreach mgoes v_l3_L1 p1 _ hq4) gX7_sources_X7_hasArrow rfl hd_X7_hasArrow ⟨by decide, by decide⟩ (List.Perm.refl _) (List.Perm.refl _) (ci := 7) (q := (RX7, TX7, 19)) rfl rfl rfl rfl hl.1 rfl (Nat.le_of_ble_eq_true rfl) dX7_sources_19 ⟨Nat.zero_le _, Nat.zero_le _⟩ (fun H locs hP hD hS => ?_)
        refine lv_if_eq (tgt := 31) hx hb dX7_sources_22 (by decide) (fun c5 => ?_) (fun c5 => ?_)
        · have hf := if_t hf c5
          refine lv_iconst (v := 0) hx hb dX7_sources_31 (by decide) ?_
          refine lv_ior hx hb dX7_sources_32 ?_
          refine lv_istore_n (lv' := [(2, .int (v_l2_L1 ||| 0)), (0, .ref (a0 0)), (1, .int p1), (3, .int v_l3_L1)]) hx hb dX7_sources_33 rfl hl (by decide) rfl (fun ls hl => ?_)
          refine lv_iinc (v := (v_l3_L1 + 1)) (lv' := [(3, .int (v_l3_L1 + 1)), (2, .int (v_l2_L1 ||| 0)), (0, .ref (a0 0)), (1, .int p1)]) hx hb dX7_sources_34 hl (k := 3) rfl (congrArg (fun z => v_l3_L1 + z) (by decide)) (by decide) rfl (fun ls hl => ?_)
          refine lv_goto (tgt := 4) hx hb dX7_sources_37 (by decide) ?_
          exact ih (v_l2_L1 ||| 0) (v_l3_L1 + 1) _ hf _ _ hP hD hS _ (lv_sub hl [2, 3, 1, 0] rfl) kx
        · have hf := if_f hf c5
          refine lv_iconst (v := 1) hx hb dX7_sources_25 (by decide) ?_
          refine lv_iload_n hx hb dX7_sources_26 rfl (lv_at hl 3 rfl) ?_
          refine lv_ishl hx hb dX7_sources_27 ?_
          refine lv_goto (tgt := 32) hx hb dX7_sources_28 (by decide) ?_
          refine lv_ior hx hb dX7_sources_32 ?_
          refine lv_istore_n (lv' := [(2, .int (v_l2_L1 ||| (jshl 1 v_l3_L1))), (0, .ref (a0 0)), (1, .int p1), (3, .int v_l3_L1)]) hx hb dX7_sources_33 rfl hl (by decide) rfl (fun ls hl => ?_)
          refine lv_iinc (v := (v_l3_L1 + 1)) (lv' := [(3, .int (v_l3_L1 + 1)), (2, .int (v_l2_L1 ||| (jshl 1 v_l3_L1))), (0, .ref (a0 0)), (1, .int p1)]) hx hb dX7_sources_34 hl (k := 3) rfl (congrArg (fun z => v_l3_L1 + z) (by decide)) (by decide) rfl (fun ls hl => ?_)
          refine lv_goto (tgt := 4) hx hb dX7_sources_37 (by decide) ?_
          exact ih (v_l2_L1 ||| (jshl 1 v_l3_L1)) (v_l3_L1 + 1) _ hf _ _ hP hD hS _ (lv_sub hl [2, 3, 1, 0] rfl) kx
  refine L1 n 0 0 q2 hq2 _ _ hP hD hS _ (lv_sub hl [2, 3, 1, 0] rfl) ?_
  clear hP hD hS hl
  intro H locs hP hD hS ls hl
  refine lv_iload_n hx hb dX7_sources_40 rfl (lv_at hl 0 rfl) ?_
  have hf := Option.some.inj hf
  subst hf
  exact hret _ _ _ _ _ dX7_sources_41 rfl hP hD hS rfl
def f_X7_place (n : Nat) (mnow : (Nat → Int32)) (mgame : Int32) (mmeasures : (Nat → Int32)) (mmost : (Nat → Int32)) (mnumbers : (Nat → Int32)) (mround : Int32) (p1 : Int32) (p2 : Int32) : Option (Int32 × Int32 × (Nat → Int32) × (Nat → Int32) × (Nat → Int32) × Int32) := (f_X7_no mnow p1).bind fun q1 => (if q1 = 0 then (if p2 = 0 then (f_X7_of mnow p1 p2).bind fun q4 => some (q4, mgame, mmeasures, mmost, mnumbers, mround) else (if p2 = 1 then (f_X7_of mnow p1 p2).bind fun q5 => some (q5, mgame, mmeasures, mmost, mnumbers, mround) else (if p2 = 2 then (f_X7_of mnow p1 p2).bind fun q6 => some (q6, mgame, mmeasures, mmost, mnumbers, mround) else (if p2 = 3 then (f_X7_sources n mnow p1).bind fun q7 => some (q7, mgame, mmeasures, mmost, mnumbers, mround) else (if p2 = 4 then (f_X7_winner n mnow mmeasures mmost mnumbers p1).bind fun q8 => some (q8.1, q8.2.1, q8.2.2.1, q8.2.2.2.1, q8.2.2.2.2.1, q8.2.2.2.2.2) else (if p2 = 5 then (f_X7_of mnow p1 3).bind fun q9 => (if q9 = 14 then some ((-5), mgame, mmeasures, mmost, mnumbers, mround) else (f_X7_of mnow p1 3).bind fun q11 => some (q11, mgame, mmeasures, mmost, mnumbers, mround)) else some ((-2), mgame, mmeasures, mmost, mnumbers, mround))))))) else some ((-1), mgame, mmeasures, mmost, mnumbers, mround))
theorem hd_X7_place : yX7_place.cls = RX7 ∧ yX7_place.cls ≠ "java/lang/invoke/MethodHandle" ∧ yX7_place.cls ≠ "java/lang/invoke/VarHandle" ∧ (parseMethodDescriptor yX7_place.desc).map (fun d => d.parameters.length) = some 2 := by decide +kernel
set_option maxHeartbeats 4000000 in
set_option maxRecDepth 100000 in
theorem c_X7_place (l : Launch) (D : va_G) (cI cC cS : ClassId) (R : va_W) (a0 : Nat → Nat) (mnow : (Nat → Int32)) (mhistory : (Nat → Int32)) (mkept : Int32) (mslot : (Nat → Int32)) (misFilled : Int32) (mgame : Int32) (mmeasures : (Nat → Int32)) (mmost : (Nat → Int32)) (mnumbers : (Nat → Int32)) (mround : Int32) (mtyped : Int32) (mtext : (Nat → Int32)) (mat : Int32) (mnumber : Int32) (mreads : (Nat → Int32)) (mbeyond : Int32) (mjudgedTo : (Nat → Int32)) (mreach : (Nat → Int32)) (mgoes : (Nat → Int32)) (p1 : Int32) (p2 : Int32) (n : Nat) (r : Int32 × Int32 × (Nat → Int32) × (Nat → Int32) × (Nat → Int32) × Int32) (hf : f_X7_place n mnow mgame mmeasures mmost mnumbers mround p1 p2 = some r) : CI l yX7_place wsX7_place 6 136 D cI cC cS [.ref (a0 0), .int p1, .int p2] ((w_M a0 cI cC mnow mhistory mkept mslot misFilled mgame mmeasures mmost mnumbers mround mtyped mtext mat mnumber mreads mbeyond mjudgedTo mreach mgoes) ++ R) r.1 ((w_M a0 cI cC mnow mhistory mkept mslot misFilled r.2.1 r.2.2.1 r.2.2.2.1 r.2.2.2.2.1 r.2.2.2.2.2 mtyped mtext mat mnumber mreads mbeyond mjudgedTo mreach mgoes) ++ R) := by
  refine XI.of (cc := cX7_place) (maxL := 3) (ty := .int) (own := RX7) (by decide) rfl rfl (Nat.le_of_ble_eq_true rfl) ?_
  intro p e s m args below meth c A Q S hK hN hA hP hD hS ls hl hret
  obtain ⟨hx, hb, hml, hown, hts⟩ := id S
  have hl : lv_has ls 3 [(0, .ref (a0 0)), (1, .int p1), (2, .int p2)] := hl
  unfold f_X7_place at hf
  refine lv_aload_n hx hb dX7_place_0 rfl (lv_at hl 0 rfl) ?_
  refine lv_iload_n hx hb dX7_place_1 rfl (lv_at hl 1 rfl) ?_
  obtain ⟨q1, hq1, hf⟩ := ob_some hf
  refine xcVi (w' := ((w_M a0 cI cC mnow mhistory mkept mslot misFilled mgame mmeasures mmost mnumbers mround mtyped mtext mat mnumber mreads mbeyond mjudgedTo mreach mgoes) ++ R)) S hK hN hA hP hD hS (c_X7_no l D cI cC cS R a0 mnow mhistory mkept mslot misFilled mgame mmeasures mmost mnumbers mround mtyped mtext mat mnumber mreads mbeyond mjudgedTo mreach mgoes p1 _ hq1) gX7_place_X7_no rfl hd_X7_no ⟨by decide, by decide⟩ (List.Perm.refl _) (List.Perm.refl _) (ci := 7) (q := (RX7, TX7, 19)) rfl rfl rfl rfl hl.1 rfl (Nat.le_of_ble_eq_true rfl) dX7_place_2 ⟨Nat.zero_le _, Nat.zero_le _⟩ (fun H locs hP hD hS => ?_)
  refine lv_if_eq (tgt := 10) hx hb dX7_place_5 (by decide) (fun c2 => ?_) (fun c2 => ?_)
  · have hf := if_t hf c2
    refine lv_iload_n hx hb dX7_place_10 rfl (lv_at hl 2 rfl) ?_
    by_cases c3_0 : p2 = 0
    · have hf := if_t hf c3_0
      refine lv_tableIn (tgt := 48) hx hb dX7_place_11 (by rw [c3_0]; decide) (by rw [c3_0]; decide) (by rw [c3_0]; rfl) (by decide) ?_
      refine lv_aload_n hx hb dX7_place_48 rfl (lv_at hl 0 rfl) ?_
      refine lv_iload_n hx hb dX7_place_49 rfl (lv_at hl 1 rfl) ?_
      refine lv_iload_n hx hb dX7_place_50 rfl (lv_at hl 2 rfl) ?_
      obtain ⟨q4, hq4, hf⟩ := ob_some hf
      refine xcVi (w' := ((w_M a0 cI cC mnow mhistory mkept mslot misFilled mgame mmeasures mmost mnumbers mround mtyped mtext mat mnumber mreads mbeyond mjudgedTo mreach mgoes) ++ R)) S hK hN hA hP hD hS (c_X7_of l D cI cC cS R a0 mnow mhistory mkept mslot misFilled mgame mmeasures mmost mnumbers mround mtyped mtext mat mnumber mreads mbeyond mjudgedTo mreach mgoes p1 p2 _ hq4) gX7_place_X7_of rfl hd_X7_of ⟨by decide, by decide⟩ (List.Perm.refl _) (List.Perm.refl _) (ci := 7) (q := (RX7, TX7, 19)) rfl rfl rfl rfl hl.1 rfl (Nat.le_of_ble_eq_true rfl) dX7_place_51 ⟨Nat.zero_le _, Nat.zero_le _⟩ (fun H locs hP hD hS => ?_)
      have hf := Option.some.inj hf
      subst hf
      exact hret _ _ _ _ _ dX7_place_54 rfl hP hD hS rfl
    have hf := if_f hf c3_0
    by_cases c3_1 : p2 = 1
    · have hf := if_t hf c3_1
      refine lv_tableIn (tgt := 48) hx hb dX7_place_11 (by rw [c3_1]; decide) (by rw [c3_1]; decide) (by rw [c3_1]; rfl) (by decide) ?_
      refine lv_aload_n hx hb dX7_place_48 rfl (lv_at hl 0 rfl) ?_
      refine lv_iload_n hx hb dX7_place_49 rfl (lv_at hl 1 rfl) ?_
      refine lv_iload_n hx hb dX7_place_50 rfl (lv_at hl 2 rfl) ?_
      obtain ⟨q5, hq5, hf⟩ := ob_some hf
      refine xcVi (w' := ((w_M a0 cI cC mnow mhistory mkept mslot misFilled mgame mmeasures mmost mnumbers mround mtyped mtext mat mnumber mreads mbeyond mjudgedTo mreach mgoes) ++ R)) S hK hN hA hP hD hS (c_X7_of l D cI cC cS R a0 mnow mhistory mkept mslot misFilled mgame mmeasures mmost mnumbers mround mtyped mtext mat mnumber mreads mbeyond mjudgedTo mreach mgoes p1 p2 _ hq5) gX7_place_X7_of rfl hd_X7_of ⟨by decide, by decide⟩ (List.Perm.refl _) (List.Perm.refl _) (ci := 7) (q := (RX7, TX7, 19)) rfl rfl rfl rfl hl.1 rfl (Nat.le_of_ble_eq_true rfl) dX7_place_51 ⟨Nat.zero_le _, Nat.zero_le _⟩ (fun H locs hP hD hS => ?_)
      have hf := Option.some.inj hf
      subst hf
      exact hret _ _ _ _ _ dX7_place_54 rfl hP hD hS rfl
    have hf := if_f hf c3_1
    by_cases c3_2 : p2 = 2
    · have hf := if_t hf c3_2
      refine lv_tableIn (tgt := 48) hx hb dX7_place_11 (by rw [c3_2]; decide) (by rw [c3_2]; decide) (by rw [c3_2]; rfl) (by decide) ?_
      refine lv_aload_n hx hb dX7_place_48 rfl (lv_at hl 0 rfl) ?_
      refine lv_iload_n hx hb dX7_place_49 rfl (lv_at hl 1 rfl) ?_
      refine lv_iload_n hx hb dX7_place_50 rfl (lv_at hl 2 rfl) ?_
      obtain ⟨q6, hq6, hf⟩ := ob_some hf
      refine xcVi (w' := ((w_M a0 cI cC mnow mhistory mkept mslot misFilled mgame mmeasures mmost mnumbers mround mtyped mtext mat mnumber mreads mbeyond mjudgedTo mreach mgoes) ++ R)) S hK hN hA hP hD hS (c_X7_of l D cI cC cS R a0 mnow mhistory mkept mslot misFilled mgame mmeasures mmost mnumbers mround mtyped mtext mat mnumber mreads mbeyond mjudgedTo mreach mgoes p1 p2 _ hq6) gX7_place_X7_of rfl hd_X7_of ⟨by decide, by decide⟩ (List.Perm.refl _) (List.Perm.refl _) (ci := 7) (q := (RX7, TX7, 19)) rfl rfl rfl rfl hl.1 rfl (Nat.le_of_ble_eq_true rfl) dX7_place_51 ⟨Nat.zero_le _, Nat.zero_le _⟩ (fun H locs hP hD hS => ?_)
      have hf := Option.some.inj hf
      subst hf
      exact hret _ _ _ _ _ dX7_place_54 rfl hP hD hS rfl
    have hf := if_f hf c3_2
    by_cases c3_3 : p2 = 3
    · have hf := if_t hf c3_3
      refine lv_tableIn (tgt := 55) hx hb dX7_place_11 (by rw [c3_3]; decide) (by rw [c3_3]; decide) (by rw [c3_3]; rfl) (by decide) ?_
      refine lv_aload_n hx hb dX7_place_55 rfl (lv_at hl 0 rfl) ?_
      refine lv_iload_n hx hb dX7_place_56 rfl (lv_at hl 1 rfl) ?_
      obtain ⟨q7, hq7, hf⟩ := ob_some hf
      refine xcVi (w' := ((w_M a0 cI cC mnow mhistory mkept mslot misFilled mgame mmeasures mmost mnumbers mround mtyped mtext mat mnumber mreads mbeyond mjudgedTo mreach mgoes) ++ R)) S hK hN hA hP hD hS (c_X7_sources l D cI cC cS R a0 mnow mhistory mkept mslot misFilled mgame mmeasures mmost mnumbers mround mtyped mtext mat mnumber mreads mbeyond mjudgedTo mreach mgoes p1 n _ hq7) gX7_place_X7_sources rfl hd_X7_sources ⟨by decide, by decide⟩ (List.Perm.refl _) (List.Perm.refl _) (ci := 7) (q := (RX7, TX7, 19)) rfl rfl rfl rfl hl.1 rfl (Nat.le_of_ble_eq_true rfl) dX7_place_57 ⟨Nat.zero_le _, Nat.zero_le _⟩ (fun H locs hP hD hS => ?_)
      have hf := Option.some.inj hf
      subst hf
      exact hret _ _ _ _ _ dX7_place_60 rfl hP hD hS rfl
    have hf := if_f hf c3_3
    by_cases c3_4 : p2 = 4
    · have hf := if_t hf c3_4
      refine lv_tableIn (tgt := 61) hx hb dX7_place_11 (by rw [c3_4]; decide) (by rw [c3_4]; decide) (by rw [c3_4]; rfl) (by decide) ?_
      refine lv_aload_n hx hb dX7_place_61 rfl (lv_at hl 0 rfl) ?_
      refine lv_iload_n hx hb dX7_place_62 rfl (lv_at hl 1 rfl) ?_
      obtain ⟨q8, hq8, hf⟩ := ob_some hf
      refine xcVi (w' := ((w_M a0 cI cC mnow mhistory mkept mslot misFilled q8.2.1 q8.2.2.1 q8.2.2.2.1 q8.2.2.2.2.1 q8.2.2.2.2.2 mtyped mtext mat mnumber mreads mbeyond mjudgedTo mreach mgoes) ++ R)) S hK hN hA hP hD hS (c_X7_winner l D cI cC cS R a0 mnow mhistory mkept mslot misFilled mgame mmeasures mmost mnumbers mround mtyped mtext mat mnumber mreads mbeyond mjudgedTo mreach mgoes p1 n _ hq8) gX7_place_X7_winner rfl hd_X7_winner ⟨by decide, by decide⟩ (List.Perm.refl _) (List.Perm.refl _) (ci := 7) (q := (RX7, TX7, 19)) rfl rfl rfl rfl hl.1 rfl (Nat.le_of_ble_eq_true rfl) dX7_place_63 ⟨Nat.zero_le _, Nat.zero_le _⟩ (fun H locs hP hD hS => ?_)
      have hf := Option.some.inj hf
      subst hf
      exact hret _ _ _ _ _ dX7_place_66 rfl hP hD hS rfl
    have hf := if_f hf c3_4
    by_cases c3_5 : p2 = 5
    · have hf := if_t hf c3_5
      refine lv_tableIn (tgt := 67) hx hb dX7_place_11 (by rw [c3_5]; decide) (by rw [c3_5]; decide) (by rw [c3_5]; rfl) (by decide) ?_
      refine lv_aload_n hx hb dX7_place_67 rfl (lv_at hl 0 rfl) ?_
      refine lv_iload_n hx hb dX7_place_68 rfl (lv_at hl 1 rfl) ?_
      refine lv_iconst (v := 3) hx hb dX7_place_69 (by decide) ?_
      obtain ⟨q9, hq9, hf⟩ := ob_some hf
      refine xcVi (w' := ((w_M a0 cI cC mnow mhistory mkept mslot misFilled mgame mmeasures mmost mnumbers mround mtyped mtext mat mnumber mreads mbeyond mjudgedTo mreach mgoes) ++ R)) S hK hN hA hP hD hS (c_X7_of l D cI cC cS R a0 mnow mhistory mkept mslot misFilled mgame mmeasures mmost mnumbers mround mtyped mtext mat mnumber mreads mbeyond mjudgedTo mreach mgoes p1 3 _ hq9) gX7_place_X7_of rfl hd_X7_of ⟨by decide, by decide⟩ (List.Perm.refl _) (List.Perm.refl _) (ci := 7) (q := (RX7, TX7, 19)) rfl rfl rfl rfl hl.1 rfl (Nat.le_of_ble_eq_true rfl) dX7_place_70 ⟨Nat.zero_le _, Nat.zero_le _⟩ (fun H locs hP hD hS => ?_)
      refine lv_bipush (v := 14) hx hb dX7_place_73 (by decide) ?_
      refine lv_icmp_ne (tgt := 83) hx hb dX7_place_75 (by decide) (fun c10 => ?_) (fun c10 => ?_)
      · have hf := if_f hf c10
        refine lv_aload_n hx hb dX7_place_83 rfl (lv_at hl 0 rfl) ?_
        refine lv_iload_n hx hb dX7_place_84 rfl (lv_at hl 1 rfl) ?_
        refine lv_iconst (v := 3) hx hb dX7_place_85 (by decide) ?_
        obtain ⟨q11, hq11, hf⟩ := ob_some hf
        refine xcVi (w' := ((w_M a0 cI cC mnow mhistory mkept mslot misFilled mgame mmeasures mmost mnumbers mround mtyped mtext mat mnumber mreads mbeyond mjudgedTo mreach mgoes) ++ R)) S hK hN hA hP hD hS (c_X7_of l D cI cC cS R a0 mnow mhistory mkept mslot misFilled mgame mmeasures mmost mnumbers mround mtyped mtext mat mnumber mreads mbeyond mjudgedTo mreach mgoes p1 3 _ hq11) gX7_place_X7_of rfl hd_X7_of ⟨by decide, by decide⟩ (List.Perm.refl _) (List.Perm.refl _) (ci := 7) (q := (RX7, TX7, 19)) rfl rfl rfl rfl hl.1 rfl (Nat.le_of_ble_eq_true rfl) dX7_place_86 ⟨Nat.zero_le _, Nat.zero_le _⟩ (fun H locs hP hD hS => ?_)
        have hf := Option.some.inj hf
        subst hf
        exact hret _ _ _ _ _ dX7_place_89 rfl hP hD hS rfl
      · have hf := if_t hf c10
        refine lv_bipush (v := (-5)) hx hb dX7_place_78 (by decide) ?_
        refine lv_goto (tgt := 89) hx hb dX7_place_80 (by decide) ?_
        have hf := Option.some.inj hf
        subst hf
        exact hret _ _ _ _ _ dX7_place_89 rfl hP hD hS rfl
    have hf := if_f hf c3_5
    have ec3_0 : (p2).toInt ≠ 0 := x_ne (k := 0) c3_0
    have ec3_1 : (p2).toInt ≠ 1 := x_ne (k := 1) c3_1
    have ec3_2 : (p2).toInt ≠ 2 := x_ne (k := 2) c3_2
    have ec3_3 : (p2).toInt ≠ 3 := x_ne (k := 3) c3_3
    have ec3_4 : (p2).toInt ≠ 4 := x_ne (k := 4) c3_4
    have ec3_5 : (p2).toInt ≠ 5 := x_ne (k := 5) c3_5
    refine lv_tableOut (tgt := 90) hx hb dX7_place_11 (by omega) (by decide) ?_
    refine lv_bipush (v := (-2)) hx hb dX7_place_90 (by decide) ?_
    have hf := Option.some.inj hf
    subst hf
    exact hret _ _ _ _ _ dX7_place_92 rfl hP hD hS rfl
  · have hf := if_f hf c2
    refine lv_iconst (v := (-1)) hx hb dX7_place_8 (by decide) ?_
    have hf := Option.some.inj hf
    subst hf
    exact hret _ _ _ _ _ dX7_place_9 rfl hP hD hS rfl
def f_X7_wins (n : Nat) (mnow : (Nat → Int32)) (mgame : Int32) (mmeasures : (Nat → Int32)) (mmost : (Nat → Int32)) (mnumbers : (Nat → Int32)) (mround : Int32) (p1 : Int32) : Option (Int32 × Int32 × (Nat → Int32) × (Nat → Int32) × (Nat → Int32) × Int32) := (f_X7_noPlayer p1).bind fun q1 => (if q1 = 0 then (f_X7_winsOf n mnow mmeasures mmost mnumbers p1).bind fun q3 => some (q3.1, q3.2.1, q3.2.2.1, q3.2.2.2.1, q3.2.2.2.2.1, q3.2.2.2.2.2) else some ((-1), mgame, mmeasures, mmost, mnumbers, mround))
theorem hd_X7_wins : yX7_wins.cls = RX7 ∧ yX7_wins.cls ≠ "java/lang/invoke/MethodHandle" ∧ yX7_wins.cls ≠ "java/lang/invoke/VarHandle" ∧ (parseMethodDescriptor yX7_wins.desc).map (fun d => d.parameters.length) = some 1 := by decide +kernel
set_option maxHeartbeats 4000000 in
set_option maxRecDepth 100000 in
theorem c_X7_wins (l : Launch) (D : va_G) (cI cC cS : ClassId) (R : va_W) (a0 : Nat → Nat) (mnow : (Nat → Int32)) (mhistory : (Nat → Int32)) (mkept : Int32) (mslot : (Nat → Int32)) (misFilled : Int32) (mgame : Int32) (mmeasures : (Nat → Int32)) (mmost : (Nat → Int32)) (mnumbers : (Nat → Int32)) (mround : Int32) (mtyped : Int32) (mtext : (Nat → Int32)) (mat : Int32) (mnumber : Int32) (mreads : (Nat → Int32)) (mbeyond : Int32) (mjudgedTo : (Nat → Int32)) (mreach : (Nat → Int32)) (mgoes : (Nat → Int32)) (p1 : Int32) (n : Nat) (r : Int32 × Int32 × (Nat → Int32) × (Nat → Int32) × (Nat → Int32) × Int32) (hf : f_X7_wins n mnow mgame mmeasures mmost mnumbers mround p1 = some r) : CI l yX7_wins wsX7_wins 5 115 D cI cC cS [.ref (a0 0), .int p1] ((w_M a0 cI cC mnow mhistory mkept mslot misFilled mgame mmeasures mmost mnumbers mround mtyped mtext mat mnumber mreads mbeyond mjudgedTo mreach mgoes) ++ R) r.1 ((w_M a0 cI cC mnow mhistory mkept mslot misFilled r.2.1 r.2.2.1 r.2.2.2.1 r.2.2.2.2.1 r.2.2.2.2.2 mtyped mtext mat mnumber mreads mbeyond mjudgedTo mreach mgoes) ++ R) := by
  refine XI.of (cc := cX7_wins) (maxL := 2) (ty := .int) (own := RX7) (by decide) rfl rfl (Nat.le_of_ble_eq_true rfl) ?_
  intro p e s m args below meth c A Q S hK hN hA hP hD hS ls hl hret
  obtain ⟨hx, hb, hml, hown, hts⟩ := id S
  have hl : lv_has ls 2 [(0, .ref (a0 0)), (1, .int p1)] := hl
  unfold f_X7_wins at hf
  refine lv_iload_n hx hb dX7_wins_0 rfl (lv_at hl 1 rfl) ?_
  obtain ⟨q1, hq1, hf⟩ := ob_some hf
  refine xcSi S hK hN hA hP hD hS (c_X7_noPlayer l D cI cC cS ((w_M a0 cI cC mnow mhistory mkept mslot misFilled mgame mmeasures mmost mnumbers mround mtyped mtext mat mnumber mreads mbeyond mjudgedTo mreach mgoes) ++ R) p1 _ hq1) gX7_wins_X7_noPlayer rfl hd_X7_noPlayer ⟨by decide, by decide⟩ rfl hl.1 rfl (Nat.le_of_ble_eq_true rfl) dX7_wins_1 ⟨Nat.zero_le _, Nat.zero_le _⟩ (fun H locs hP hD hS => ?_)
  refine lv_if_eq (tgt := 11) hx hb dX7_wins_4 (by decide) (fun c2 => ?_) (fun c2 => ?_)
  · have hf := if_t hf c2
    refine lv_aload_n hx hb dX7_wins_11 rfl (lv_at hl 0 rfl) ?_
    refine lv_iload_n hx hb dX7_wins_12 rfl (lv_at hl 1 rfl) ?_
    obtain ⟨q3, hq3, hf⟩ := ob_some hf
    refine xcVi (w' := ((w_M a0 cI cC mnow mhistory mkept mslot misFilled q3.2.1 q3.2.2.1 q3.2.2.2.1 q3.2.2.2.2.1 q3.2.2.2.2.2 mtyped mtext mat mnumber mreads mbeyond mjudgedTo mreach mgoes) ++ R)) S hK hN hA hP hD hS (c_X7_winsOf l D cI cC cS R a0 mnow mhistory mkept mslot misFilled mgame mmeasures mmost mnumbers mround mtyped mtext mat mnumber mreads mbeyond mjudgedTo mreach mgoes p1 n _ hq3) gX7_wins_X7_winsOf rfl hd_X7_winsOf ⟨by decide, by decide⟩ (List.Perm.refl _) (List.Perm.refl _) (ci := 7) (q := (RX7, TX7, 19)) rfl rfl rfl rfl hl.1 rfl (Nat.le_of_ble_eq_true rfl) dX7_wins_13 ⟨Nat.zero_le _, Nat.zero_le _⟩ (fun H locs hP hD hS => ?_)
    have hf := Option.some.inj hf
    subst hf
    exact hret _ _ _ _ _ dX7_wins_16 rfl hP hD hS rfl
  · have hf := if_f hf c2
    refine lv_iconst (v := (-1)) hx hb dX7_wins_7 (by decide) ?_
    refine lv_goto (tgt := 16) hx hb dX7_wins_8 (by decide) ?_
    have hf := Option.some.inj hf
    subst hf
    exact hret _ _ _ _ _ dX7_wins_16 rfl hP hD hS rfl
def f_X7_winningChoice (n : Nat) (mnow : (Nat → Int32)) (mgame : Int32) (mmeasures : (Nat → Int32)) (mmost : (Nat → Int32)) (mnumbers : (Nat → Int32)) (mround : Int32) (p1 : Int32) : Option (Int32 × Int32 × (Nat → Int32) × (Nat → Int32) × (Nat → Int32) × Int32) := (f_X7_no mnow p1).bind fun q1 => (if q1 = 0 then (f_X7_bestChoice n mnow mmeasures mmost mnumbers p1).bind fun q3 => some (q3.1, q3.2.1, q3.2.2.1, q3.2.2.2.1, q3.2.2.2.2.1, q3.2.2.2.2.2) else some ((-1), mgame, mmeasures, mmost, mnumbers, mround))
theorem hd_X7_winningChoice : yX7_winningChoice.cls = RX7 ∧ yX7_winningChoice.cls ≠ "java/lang/invoke/MethodHandle" ∧ yX7_winningChoice.cls ≠ "java/lang/invoke/VarHandle" ∧ (parseMethodDescriptor yX7_winningChoice.desc).map (fun d => d.parameters.length) = some 1 := by decide +kernel
set_option maxHeartbeats 4000000 in
set_option maxRecDepth 100000 in
theorem c_X7_winningChoice (l : Launch) (D : va_G) (cI cC cS : ClassId) (R : va_W) (a0 : Nat → Nat) (mnow : (Nat → Int32)) (mhistory : (Nat → Int32)) (mkept : Int32) (mslot : (Nat → Int32)) (misFilled : Int32) (mgame : Int32) (mmeasures : (Nat → Int32)) (mmost : (Nat → Int32)) (mnumbers : (Nat → Int32)) (mround : Int32) (mtyped : Int32) (mtext : (Nat → Int32)) (mat : Int32) (mnumber : Int32) (mreads : (Nat → Int32)) (mbeyond : Int32) (mjudgedTo : (Nat → Int32)) (mreach : (Nat → Int32)) (mgoes : (Nat → Int32)) (p1 : Int32) (n : Nat) (r : Int32 × Int32 × (Nat → Int32) × (Nat → Int32) × (Nat → Int32) × Int32) (hf : f_X7_winningChoice n mnow mgame mmeasures mmost mnumbers mround p1 = some r) : CI l yX7_winningChoice wsX7_winningChoice 5 115 D cI cC cS [.ref (a0 0), .int p1] ((w_M a0 cI cC mnow mhistory mkept mslot misFilled mgame mmeasures mmost mnumbers mround mtyped mtext mat mnumber mreads mbeyond mjudgedTo mreach mgoes) ++ R) r.1 ((w_M a0 cI cC mnow mhistory mkept mslot misFilled r.2.1 r.2.2.1 r.2.2.2.1 r.2.2.2.2.1 r.2.2.2.2.2 mtyped mtext mat mnumber mreads mbeyond mjudgedTo mreach mgoes) ++ R) := by
  refine XI.of (cc := cX7_winningChoice) (maxL := 2) (ty := .int) (own := RX7) (by decide) rfl rfl (Nat.le_of_ble_eq_true rfl) ?_
  intro p e s m args below meth c A Q S hK hN hA hP hD hS ls hl hret
  obtain ⟨hx, hb, hml, hown, hts⟩ := id S
  have hl : lv_has ls 2 [(0, .ref (a0 0)), (1, .int p1)] := hl
  unfold f_X7_winningChoice at hf
  refine lv_aload_n hx hb dX7_winningChoice_0 rfl (lv_at hl 0 rfl) ?_
  refine lv_iload_n hx hb dX7_winningChoice_1 rfl (lv_at hl 1 rfl) ?_
  obtain ⟨q1, hq1, hf⟩ := ob_some hf
  refine xcVi (w' := ((w_M a0 cI cC mnow mhistory mkept mslot misFilled mgame mmeasures mmost mnumbers mround mtyped mtext mat mnumber mreads mbeyond mjudgedTo mreach mgoes) ++ R)) S hK hN hA hP hD hS (c_X7_no l D cI cC cS R a0 mnow mhistory mkept mslot misFilled mgame mmeasures mmost mnumbers mround mtyped mtext mat mnumber mreads mbeyond mjudgedTo mreach mgoes p1 _ hq1) gX7_winningChoice_X7_no rfl hd_X7_no ⟨by decide, by decide⟩ (List.Perm.refl _) (List.Perm.refl _) (ci := 7) (q := (RX7, TX7, 19)) rfl rfl rfl rfl hl.1 rfl (Nat.le_of_ble_eq_true rfl) dX7_winningChoice_2 ⟨Nat.zero_le _, Nat.zero_le _⟩ (fun H locs hP hD hS => ?_)
  refine lv_if_eq (tgt := 12) hx hb dX7_winningChoice_5 (by decide) (fun c2 => ?_) (fun c2 => ?_)
  · have hf := if_t hf c2
    refine lv_aload_n hx hb dX7_winningChoice_12 rfl (lv_at hl 0 rfl) ?_
    refine lv_iload_n hx hb dX7_winningChoice_13 rfl (lv_at hl 1 rfl) ?_
    obtain ⟨q3, hq3, hf⟩ := ob_some hf
    refine xcVi (w' := ((w_M a0 cI cC mnow mhistory mkept mslot misFilled q3.2.1 q3.2.2.1 q3.2.2.2.1 q3.2.2.2.2.1 q3.2.2.2.2.2 mtyped mtext mat mnumber mreads mbeyond mjudgedTo mreach mgoes) ++ R)) S hK hN hA hP hD hS (c_X7_bestChoice l D cI cC cS R a0 mnow mhistory mkept mslot misFilled mgame mmeasures mmost mnumbers mround mtyped mtext mat mnumber mreads mbeyond mjudgedTo mreach mgoes p1 n _ hq3) gX7_winningChoice_X7_bestChoice rfl hd_X7_bestChoice ⟨by decide, by decide⟩ (List.Perm.refl _) (List.Perm.refl _) (ci := 7) (q := (RX7, TX7, 19)) rfl rfl rfl rfl hl.1 rfl (Nat.le_of_ble_eq_true rfl) dX7_winningChoice_14 ⟨Nat.zero_le _, Nat.zero_le _⟩ (fun H locs hP hD hS => ?_)
    have hf := Option.some.inj hf
    subst hf
    exact hret _ _ _ _ _ dX7_winningChoice_17 rfl hP hD hS rfl
  · have hf := if_f hf c2
    refine lv_iconst (v := (-1)) hx hb dX7_winningChoice_8 (by decide) ?_
    refine lv_goto (tgt := 17) hx hb dX7_winningChoice_9 (by decide) ?_
    have hf := Option.some.inj hf
    subst hf
    exact hret _ _ _ _ _ dX7_winningChoice_17 rfl hP hD hS rfl
def f_X7_measure_L63 (d_l3 : Int32) : Nat → Int32 → Int32 → Option Int32
  | 0, _, _ => none
  | k + 1, d_l4, d_l5 => (if d_l5 ≤ d_l3 then some (d_l4) else f_X7_measure_L63 d_l3 k (d_l4 / 15) (d_l5 + (-2)))
def f_X7_measure (n : Nat) (mnow : (Nat → Int32)) (mgame : Int32) (mmeasures : (Nat → Int32)) (mmost : (Nat → Int32)) (mnumbers : (Nat → Int32)) (mround : Int32) (p1 : Int32) (p2 : Int32) (p3 : Int32) : Option (Int32 × Int32 × (Nat → Int32) × (Nat → Int32) × (Nat → Int32) × Int32) := (f_X7_noPlayer p1).bind fun q1 => (if q1 = 0 then (f_X7_no mnow p2).bind fun q3 => (if q3 = 0 then (f_X7_in p3 1 7).bind fun q5 => (if q5 = 0 then some ((-2), mgame, mmeasures, mmost, mnumbers, mround) else (if (jrem p3 2) = 0 then some ((-2), mgame, mmeasures, mmost, mnumbers, mround) else (f_X7_finds n mnow mmeasures mmost mnumbers p1).bind fun q8 => vg p2 14 ((if (q8.2.1 (p2).toNatClampNeg) = 50625 then some ((-5), q8.1, q8.2.1, q8.2.2.1, q8.2.2.2.1, q8.2.2.2.2) else (f_X7_measure_L63 p3 n (q8.2.1 (p2).toNatClampNeg) 7).bind fun q12 => some ((jrem q12 15), q8.1, q8.2.1, q8.2.2.1, q8.2.2.2.1, q8.2.2.2.2))))) else some ((-1), mgame, mmeasures, mmost, mnumbers, mround)) else some ((-1), mgame, mmeasures, mmost, mnumbers, mround))
theorem inw_X7_measure_7 : ∀ w ∈ wsX70, w ∈ wsX7_measure := fun _ h => List.mem_cons_of_mem _ (List.mem_append_right _ h)
theorem hd_X7_measure : yX7_measure.cls = RX7 ∧ yX7_measure.cls ≠ "java/lang/invoke/MethodHandle" ∧ yX7_measure.cls ≠ "java/lang/invoke/VarHandle" ∧ (parseMethodDescriptor yX7_measure.desc).map (fun d => d.parameters.length) = some 3 := by decide +kernel
set_option maxHeartbeats 4000000 in
set_option maxRecDepth 100000 in
theorem c_X7_measure (l : Launch) (D : va_G) (cI cC cS : ClassId) (R : va_W) (a0 : Nat → Nat) (mnow : (Nat → Int32)) (mhistory : (Nat → Int32)) (mkept : Int32) (mslot : (Nat → Int32)) (misFilled : Int32) (mgame : Int32) (mmeasures : (Nat → Int32)) (mmost : (Nat → Int32)) (mnumbers : (Nat → Int32)) (mround : Int32) (mtyped : Int32) (mtext : (Nat → Int32)) (mat : Int32) (mnumber : Int32) (mreads : (Nat → Int32)) (mbeyond : Int32) (mjudgedTo : (Nat → Int32)) (mreach : (Nat → Int32)) (mgoes : (Nat → Int32)) (p1 : Int32) (p2 : Int32) (p3 : Int32) (n : Nat) (r : Int32 × Int32 × (Nat → Int32) × (Nat → Int32) × (Nat → Int32) × Int32) (hf : f_X7_measure n mnow mgame mmeasures mmost mnumbers mround p1 p2 p3 = some r) : CI l yX7_measure wsX7_measure 4 94 D cI cC cS [.ref (a0 0), .int p1, .int p2, .int p3] ((w_M a0 cI cC mnow mhistory mkept mslot misFilled mgame mmeasures mmost mnumbers mround mtyped mtext mat mnumber mreads mbeyond mjudgedTo mreach mgoes) ++ R) r.1 ((w_M a0 cI cC mnow mhistory mkept mslot misFilled r.2.1 r.2.2.1 r.2.2.2.1 r.2.2.2.2.1 r.2.2.2.2.2 mtyped mtext mat mnumber mreads mbeyond mjudgedTo mreach mgoes) ++ R) := by
  refine XI.of (cc := cX7_measure) (maxL := 6) (ty := .int) (own := RX7) (by decide) rfl rfl (Nat.le_of_ble_eq_true rfl) ?_
  intro p e s m args below meth c A Q S hK hN hA hP hD hS ls hl hret
  obtain ⟨hx, hb, hml, hown, hts⟩ := id S
  have hl : lv_has ls 6 [(0, .ref (a0 0)), (1, .int p1), (2, .int p2), (3, .int p3)] := hl
  unfold f_X7_measure at hf
  refine lv_iload_n hx hb dX7_measure_0 rfl (lv_at hl 1 rfl) ?_
  obtain ⟨q1, hq1, hf⟩ := ob_some hf
  refine xcSi S hK hN hA hP hD hS (c_X7_noPlayer l D cI cC cS ((w_M a0 cI cC mnow mhistory mkept mslot misFilled mgame mmeasures mmost mnumbers mround mtyped mtext mat mnumber mreads mbeyond mjudgedTo mreach mgoes) ++ R) p1 _ hq1) gX7_measure_X7_noPlayer rfl hd_X7_noPlayer ⟨by decide, by decide⟩ rfl hl.1 rfl (Nat.le_of_ble_eq_true rfl) dX7_measure_1 ⟨Nat.zero_le _, Nat.zero_le _⟩ (fun H locs hP hD hS => ?_)
  refine lv_if_ne (tgt := 15) hx hb dX7_measure_4 (by decide) (fun c2 => ?_) (fun c2 => ?_)
  · have hf := if_f hf c2
    refine lv_iconst (v := (-1)) hx hb dX7_measure_15 (by decide) ?_
    have hf := Option.some.inj hf
    subst hf
    exact hret _ _ _ _ _ dX7_measure_16 rfl hP hD hS rfl
  · have hf := if_t hf c2
    refine lv_aload_n hx hb dX7_measure_7 rfl (lv_at hl 0 rfl) ?_
    refine lv_iload_n hx hb dX7_measure_8 rfl (lv_at hl 2 rfl) ?_
    obtain ⟨q3, hq3, hf⟩ := ob_some hf
    refine xcVi (w' := ((w_M a0 cI cC mnow mhistory mkept mslot misFilled mgame mmeasures mmost mnumbers mround mtyped mtext mat mnumber mreads mbeyond mjudgedTo mreach mgoes) ++ R)) S hK hN hA hP hD hS (c_X7_no l D cI cC cS R a0 mnow mhistory mkept mslot misFilled mgame mmeasures mmost mnumbers mround mtyped mtext mat mnumber mreads mbeyond mjudgedTo mreach mgoes p2 _ hq3) gX7_measure_X7_no rfl hd_X7_no ⟨by decide, by decide⟩ (List.Perm.refl _) (List.Perm.refl _) (ci := 7) (q := (RX7, TX7, 19)) rfl rfl rfl rfl hl.1 rfl (Nat.le_of_ble_eq_true rfl) dX7_measure_9 ⟨Nat.zero_le _, Nat.zero_le _⟩ (fun H locs hP hD hS => ?_)
    refine lv_if_eq (tgt := 17) hx hb dX7_measure_12 (by decide) (fun c4 => ?_) (fun c4 => ?_)
    · have hf := if_t hf c4
      refine lv_iload_n hx hb dX7_measure_17 rfl (lv_at hl 3 rfl) ?_
      refine lv_iconst (v := 1) hx hb dX7_measure_18 (by decide) ?_
      refine lv_bipush (v := 7) hx hb dX7_measure_19 (by decide) ?_
      obtain ⟨q5, hq5, hf⟩ := ob_some hf
      refine xcSi S hK hN hA hP hD hS (c_X7_in l D cI cC cS ((w_M a0 cI cC mnow mhistory mkept mslot misFilled mgame mmeasures mmost mnumbers mround mtyped mtext mat mnumber mreads mbeyond mjudgedTo mreach mgoes) ++ R) p3 1 7 _ hq5) gX7_measure_X7_in rfl hd_X7_in ⟨by decide, by decide⟩ rfl hl.1 rfl (Nat.le_of_ble_eq_true rfl) dX7_measure_21 ⟨Nat.zero_le _, Nat.zero_le _⟩ (fun H locs hP hD hS => ?_)
      refine lv_if_eq (tgt := 33) hx hb dX7_measure_24 (by decide) (fun c6 => ?_) (fun c6 => ?_)
      · have hf := if_t hf c6
        refine lv_bipush (v := (-2)) hx hb dX7_measure_33 (by decide) ?_
        have hf := Option.some.inj hf
        subst hf
        exact hret _ _ _ _ _ dX7_measure_35 rfl hP hD hS rfl
      · have hf := if_f hf c6
        refine lv_iload_n hx hb dX7_measure_27 rfl (lv_at hl 3 rfl) ?_
        refine lv_iconst (v := 2) hx hb dX7_measure_28 (by decide) ?_
        refine lv_irem hx hb dX7_measure_29 (by decide) ?_
        refine lv_if_ne (tgt := 36) hx hb dX7_measure_30 (by decide) (fun c7 => ?_) (fun c7 => ?_)
        · have hf := if_f hf c7
          refine lv_aload_n hx hb dX7_measure_36 rfl (lv_at hl 0 rfl) ?_
          refine lv_iload_n hx hb dX7_measure_37 rfl (lv_at hl 1 rfl) ?_
          obtain ⟨q8, hq8, hf⟩ := ob_some hf
          refine xcVv (w' := ((w_M a0 cI cC mnow mhistory mkept mslot misFilled q8.1 q8.2.1 q8.2.2.1 q8.2.2.2.1 q8.2.2.2.2 mtyped mtext mat mnumber mreads mbeyond mjudgedTo mreach mgoes) ++ R)) S hK hN hA hP hD hS (c_X7_finds l D cI cC cS R a0 mnow mhistory mkept mslot misFilled mgame mmeasures mmost mnumbers mround mtyped mtext mat mnumber mreads mbeyond mjudgedTo mreach mgoes p1 n _ hq8) gX7_measure_X7_finds rfl hd_X7_finds ⟨by decide, by decide⟩ (List.Perm.refl _) (List.Perm.refl _) (ci := 7) (q := (RX7, TX7, 19)) rfl rfl rfl rfl hl.1 rfl (Nat.le_of_ble_eq_true rfl) dX7_measure_38 ⟨Nat.zero_le _, Nat.zero_le _⟩ (fun H locs hP hD hS => ?_)
          refine lv_aload_n hx hb dX7_measure_41 rfl (lv_at hl 0 rfl) ?_
          refine va_get (D := D) (ci := 7) (v := .ref (a0 4)) (C := RX7) (T := TX7) (N := 19) hx hb hts inw_X7_measure_7 hown hK hP 0 rfl rfl 6 (by decide) (hts (.fieldLink RX7 19 "RingGamesModel" "measures" "[I") (List.mem_of_getElem? (i := 1) rfl)) (fun _ h9 => h9) rfl dX7_measure_42 ?_
          refine lv_iload_n hx hb dX7_measure_45 rfl (lv_at hl 2 rfl) ?_
          obtain ⟨g9, hf⟩ := vg_some hf
          refine va_iald hx hb hK hP 4 0 rfl rfl g9 dX7_measure_46 ?_
          refine lv_istore (lv' := [(4, .int (q8.2.1 (p2).toNatClampNeg)), (0, .ref (a0 0)), (1, .int p1), (2, .int p2), (3, .int p3)]) hx hb dX7_measure_47 hl (by decide) rfl (fun ls hl => ?_)
          refine lv_iload hx hb dX7_measure_49 (lv_at hl 0 rfl) ?_
          refine lv_ldc hx hb hown (hts (.constant RX7 63 (50625)) (List.mem_of_getElem? (i := 2) rfl)) dX7_measure_51 ?_
          refine lv_icmp_ne (tgt := 59) hx hb dX7_measure_53 (by decide) (fun c10 => ?_) (fun c10 => ?_)
          · have hf := if_f hf c10
            refine lv_bipush (v := 7) hx hb dX7_measure_59 (by decide) ?_
            refine lv_istore (lv' := [(5, .int 7), (4, .int (q8.2.1 (p2).toNatClampNeg)), (0, .ref (a0 0)), (1, .int p1), (2, .int p2), (3, .int p3)]) hx hb dX7_measure_61 hl (by decide) rfl (fun ls hl => ?_)
            obtain ⟨q12, hq12, hf⟩ := ob_some hf
            have L11 : ∀ (k : Nat) (v_l4_L11 : Int32) (v_l5_L11 : Int32) (q_L11 : Int32), f_X7_measure_L63 p3 k v_l4_L11 v_l5_L11 = some q_L11 → ∀ (H : Heap) (locs : List Loc), va_P D vwCl ((w_M a0 cI cC mnow mhistory mkept mslot misFilled q8.1 q8.2.1 q8.2.2.1 q8.2.2.2.1 q8.2.2.2.2 mtyped mtext mat mnumber mreads mbeyond mjudgedTo mreach mgoes) ++ R) H → va_D A ((w_M a0 cI cC mnow mhistory mkept mslot misFilled q8.1 q8.2.1 q8.2.2.1 q8.2.2.2.1 q8.2.2.2.2 mtyped mtext mat mnumber mreads mbeyond mjudgedTo mreach mgoes) ++ R) → va_S A s.heap H locs → ∀ ls : Array Slot, lv_has ls 6 [(3, .int p3), (4, .int v_l4_L11), (5, .int v_l5_L11)] → (∀ (H : Heap) (locs : List Loc), va_P D vwCl ((w_M a0 cI cC mnow mhistory mkept mslot misFilled q8.1 q8.2.1 q8.2.2.1 q8.2.2.2.1 q8.2.2.2.2 mtyped mtext mat mnumber mreads mbeyond mjudgedTo mreach mgoes) ++ R) H → va_D A ((w_M a0 cI cC mnow mhistory mkept mslot misFilled q8.1 q8.2.1 q8.2.2.1 q8.2.2.2.1 q8.2.2.2.2 mtyped mtext mat mnumber mreads mbeyond mjudgedTo mreach mgoes) ++ R) → va_S A s.heap H locs → ∀ ls : Array Slot, lv_has ls 6 [(4, .int q_L11)] → W p l e (xR 4 94) s m args below meth c H locs 0 0 Q (F0 m 82 ls [])) → W p l e (xR 4 94) s m args below meth c H locs 0 0 Q (F0 m 63 ls []) := by
              intro k
              induction k with
              | zero => intro v_l4_L11 v_l5_L11 q_L11 hf; simp [f_X7_measure_L63] at hf
              | succ k ih =>
                intro v_l4_L11 v_l5_L11 q_L11 hf H locs hP hD hS ls hl kx
                rw [f_X7_measure_L63] at hf
                refine lv_iload hx hb dX7_measure_63 (lv_at hl 2 rfl) ?_
                refine lv_iload_n hx hb dX7_measure_65 rfl (lv_at hl 0 rfl) ?_
                refine lv_icmp_le (tgt := 82) hx hb dX7_measure_66 (by decide) (fun c13 => ?_) (fun c13 => ?_)
                · have hf := if_t hf c13
                  have hf := Option.some.inj hf
                  subst hf
                  exact kx _ _ hP hD hS _ (lv_sub hl [1] rfl)
                · have hf := if_f hf c13
                  refine lv_iload hx hb dX7_measure_69 (lv_at hl 1 rfl) ?_
                  refine lv_bipush (v := 15) hx hb dX7_measure_71 (by decide) ?_
                  refine lv_idiv hx hb dX7_measure_73 (by decide) ?_
                  refine lv_istore (lv' := [(4, .int (v_l4_L11 / 15)), (3, .int p3), (5, .int v_l5_L11)]) hx hb dX7_measure_74 hl (by decide) rfl (fun ls hl => ?_)
                  refine lv_iinc (v := (v_l5_L11 + (-2))) (lv' := [(5, .int (v_l5_L11 + (-2))), (4, .int (v_l4_L11 / 15)), (3, .int p3)]) hx hb dX7_measure_76 hl (k := 2) rfl (congrArg (fun z => v_l5_L11 + z) (by decide)) (by decide) rfl (fun ls hl => ?_)
                  refine lv_goto (tgt := 63) hx hb dX7_measure_79 (by decide) ?_
                  exact ih (v_l4_L11 / 15) (v_l5_L11 + (-2)) _ hf _ _ hP hD hS _ (lv_sub hl [2, 1, 0] rfl) kx
            refine L11 n (q8.2.1 (p2).toNatClampNeg) 7 q12 hq12 _ _ hP hD hS _ (lv_sub hl [5, 1, 0] rfl) ?_
            clear hP hD hS hl
            intro H locs hP hD hS ls hl
            refine lv_iload hx hb dX7_measure_82 (lv_at hl 0 rfl) ?_
            refine lv_bipush (v := 15) hx hb dX7_measure_84 (by decide) ?_
            refine lv_irem hx hb dX7_measure_86 (by decide) ?_
            have hf := Option.some.inj hf
            subst hf
            exact hret _ _ _ _ _ dX7_measure_87 rfl hP hD hS rfl
          · have hf := if_t hf c10
            refine lv_bipush (v := (-5)) hx hb dX7_measure_56 (by decide) ?_
            have hf := Option.some.inj hf
            subst hf
            exact hret _ _ _ _ _ dX7_measure_58 rfl hP hD hS rfl
        · have hf := if_t hf c7
          refine lv_bipush (v := (-2)) hx hb dX7_measure_33 (by decide) ?_
          have hf := Option.some.inj hf
          subst hf
          exact hret _ _ _ _ _ dX7_measure_35 rfl hP hD hS rfl
    · have hf := if_f hf c4
      refine lv_iconst (v := (-1)) hx hb dX7_measure_15 (by decide) ?_
      have hf := Option.some.inj hf
      subst hf
      exact hret _ _ _ _ _ dX7_measure_16 rfl hP hD hS rfl
def f_X7_rounds (n : Nat) (mnow : (Nat → Int32)) (mgame : Int32) (mmeasures : (Nat → Int32)) (mmost : (Nat → Int32)) (mnumbers : (Nat → Int32)) (mround : Int32) (p1 : Int32) : Option (Int32 × Int32 × (Nat → Int32) × (Nat → Int32) × (Nat → Int32) × Int32) := (f_X7_noPlayer p1).bind fun q1 => (if q1 = 0 then (f_X7_finds n mnow mmeasures mmost mnumbers p1).bind fun q3 => some (q3.2.2.2.2, q3.1, q3.2.1, q3.2.2.1, q3.2.2.2.1, q3.2.2.2.2) else some ((-1), mgame, mmeasures, mmost, mnumbers, mround))
theorem inw_X7_rounds_7 : ∀ w ∈ wsX70, w ∈ wsX7_rounds := fun _ h => List.mem_cons_of_mem _ (List.mem_append_right _ h)
theorem hd_X7_rounds : yX7_rounds.cls = RX7 ∧ yX7_rounds.cls ≠ "java/lang/invoke/MethodHandle" ∧ yX7_rounds.cls ≠ "java/lang/invoke/VarHandle" ∧ (parseMethodDescriptor yX7_rounds.desc).map (fun d => d.parameters.length) = some 1 := by decide +kernel
set_option maxHeartbeats 4000000 in
set_option maxRecDepth 100000 in
theorem c_X7_rounds (l : Launch) (D : va_G) (cI cC cS : ClassId) (R : va_W) (a0 : Nat → Nat) (mnow : (Nat → Int32)) (mhistory : (Nat → Int32)) (mkept : Int32) (mslot : (Nat → Int32)) (misFilled : Int32) (mgame : Int32) (mmeasures : (Nat → Int32)) (mmost : (Nat → Int32)) (mnumbers : (Nat → Int32)) (mround : Int32) (mtyped : Int32) (mtext : (Nat → Int32)) (mat : Int32) (mnumber : Int32) (mreads : (Nat → Int32)) (mbeyond : Int32) (mjudgedTo : (Nat → Int32)) (mreach : (Nat → Int32)) (mgoes : (Nat → Int32)) (p1 : Int32) (n : Nat) (r : Int32 × Int32 × (Nat → Int32) × (Nat → Int32) × (Nat → Int32) × Int32) (hf : f_X7_rounds n mnow mgame mmeasures mmost mnumbers mround p1 = some r) : CI l yX7_rounds wsX7_rounds 4 94 D cI cC cS [.ref (a0 0), .int p1] ((w_M a0 cI cC mnow mhistory mkept mslot misFilled mgame mmeasures mmost mnumbers mround mtyped mtext mat mnumber mreads mbeyond mjudgedTo mreach mgoes) ++ R) r.1 ((w_M a0 cI cC mnow mhistory mkept mslot misFilled r.2.1 r.2.2.1 r.2.2.2.1 r.2.2.2.2.1 r.2.2.2.2.2 mtyped mtext mat mnumber mreads mbeyond mjudgedTo mreach mgoes) ++ R) := by
  refine XI.of (cc := cX7_rounds) (maxL := 2) (ty := .int) (own := RX7) (by decide) rfl rfl (Nat.le_of_ble_eq_true rfl) ?_
  intro p e s m args below meth c A Q S hK hN hA hP hD hS ls hl hret
  obtain ⟨hx, hb, hml, hown, hts⟩ := id S
  have hl : lv_has ls 2 [(0, .ref (a0 0)), (1, .int p1)] := hl
  unfold f_X7_rounds at hf
  refine lv_iload_n hx hb dX7_rounds_0 rfl (lv_at hl 1 rfl) ?_
  obtain ⟨q1, hq1, hf⟩ := ob_some hf
  refine xcSi S hK hN hA hP hD hS (c_X7_noPlayer l D cI cC cS ((w_M a0 cI cC mnow mhistory mkept mslot misFilled mgame mmeasures mmost mnumbers mround mtyped mtext mat mnumber mreads mbeyond mjudgedTo mreach mgoes) ++ R) p1 _ hq1) gX7_rounds_X7_noPlayer rfl hd_X7_noPlayer ⟨by decide, by decide⟩ rfl hl.1 rfl (Nat.le_of_ble_eq_true rfl) dX7_rounds_1 ⟨Nat.zero_le _, Nat.zero_le _⟩ (fun H locs hP hD hS => ?_)
  refine lv_if_eq (tgt := 9) hx hb dX7_rounds_4 (by decide) (fun c2 => ?_) (fun c2 => ?_)
  · have hf := if_t hf c2
    refine lv_aload_n hx hb dX7_rounds_9 rfl (lv_at hl 0 rfl) ?_
    refine lv_iload_n hx hb dX7_rounds_10 rfl (lv_at hl 1 rfl) ?_
    obtain ⟨q3, hq3, hf⟩ := ob_some hf
    refine xcVv (w' := ((w_M a0 cI cC mnow mhistory mkept mslot misFilled q3.1 q3.2.1 q3.2.2.1 q3.2.2.2.1 q3.2.2.2.2 mtyped mtext mat mnumber mreads mbeyond mjudgedTo mreach mgoes) ++ R)) S hK hN hA hP hD hS (c_X7_finds l D cI cC cS R a0 mnow mhistory mkept mslot misFilled mgame mmeasures mmost mnumbers mround mtyped mtext mat mnumber mreads mbeyond mjudgedTo mreach mgoes p1 n _ hq3) gX7_rounds_X7_finds rfl hd_X7_finds ⟨by decide, by decide⟩ (List.Perm.refl _) (List.Perm.refl _) (ci := 7) (q := (RX7, TX7, 19)) rfl rfl rfl rfl hl.1 rfl (Nat.le_of_ble_eq_true rfl) dX7_rounds_11 ⟨Nat.zero_le _, Nat.zero_le _⟩ (fun H locs hP hD hS => ?_)
    refine lv_aload_n hx hb dX7_rounds_14 rfl (lv_at hl 0 rfl) ?_
    refine va_get (D := D) (ci := 7) (v := .int q3.2.2.2.2) (C := RX7) (T := TX7) (N := 19) hx hb hts inw_X7_rounds_7 hown hK hP 0 rfl rfl 9 (by decide) (hts (.fieldLink RX7 77 "RingGamesModel" "round" "I") (List.mem_of_getElem? (i := 1) rfl)) (fun _ h9 => h9) rfl dX7_rounds_15 ?_
    have hf := Option.some.inj hf
    subst hf
    exact hret _ _ _ _ _ dX7_rounds_18 rfl hP hD hS rfl
  · have hf := if_f hf c2
    refine lv_iconst (v := (-1)) hx hb dX7_rounds_7 (by decide) ?_
    have hf := Option.some.inj hf
    subst hf
    exact hret _ _ _ _ _ dX7_rounds_8 rfl hP hD hS rfl
def f_X7_isBad (mnow : (Nat → Int32)) (p1 : Int32) : Option Int32 := (if p1 < 0 then some (1) else (if p1 < (jshl 1 (mnow 56)) then some (0) else some (1)))
theorem inw_X7_isBad_7 : ∀ w ∈ wsX70, w ∈ wsX7_isBad := fun _ h => List.mem_cons_of_mem _ (List.mem_append_right _ h)
theorem hd_X7_isBad : yX7_isBad.cls = RX7 ∧ yX7_isBad.cls ≠ "java/lang/invoke/MethodHandle" ∧ yX7_isBad.cls ≠ "java/lang/invoke/VarHandle" ∧ (parseMethodDescriptor yX7_isBad.desc).map (fun d => d.parameters.length) = some 1 := by decide +kernel
set_option maxHeartbeats 4000000 in
set_option maxRecDepth 100000 in
theorem c_X7_isBad (l : Launch) (D : va_G) (cI cC cS : ClassId) (R : va_W) (a0 : Nat → Nat) (mnow : (Nat → Int32)) (mhistory : (Nat → Int32)) (mkept : Int32) (mslot : (Nat → Int32)) (misFilled : Int32) (mgame : Int32) (mmeasures : (Nat → Int32)) (mmost : (Nat → Int32)) (mnumbers : (Nat → Int32)) (mround : Int32) (mtyped : Int32) (mtext : (Nat → Int32)) (mat : Int32) (mnumber : Int32) (mreads : (Nat → Int32)) (mbeyond : Int32) (mjudgedTo : (Nat → Int32)) (mreach : (Nat → Int32)) (mgoes : (Nat → Int32)) (p1 : Int32) (r : Int32) (hf : f_X7_isBad mnow p1 = some r) : CI l yX7_isBad wsX7_isBad 0 0 D cI cC cS [.ref (a0 0), .int p1] ((w_M a0 cI cC mnow mhistory mkept mslot misFilled mgame mmeasures mmost mnumbers mround mtyped mtext mat mnumber mreads mbeyond mjudgedTo mreach mgoes) ++ R) r ((w_M a0 cI cC mnow mhistory mkept mslot misFilled mgame mmeasures mmost mnumbers mround mtyped mtext mat mnumber mreads mbeyond mjudgedTo mreach mgoes) ++ R) := by
  refine XI.of (cc := cX7_isBad) (maxL := 2) (ty := .boolean) (own := RX7) (by decide) rfl rfl (Nat.le_of_ble_eq_true rfl) ?_
  intro p e s m args below meth c A Q S hK hN hA hP hD hS ls hl hret
  obtain ⟨hx, hb, hml, hown, hts⟩ := id S
  have hl : lv_has ls 2 [(0, .ref (a0 0)), (1, .int p1)] := hl
  unfold f_X7_isBad at hf
  refine lv_iload_n hx hb dX7_isBad_0 rfl (lv_at hl 1 rfl) ?_
  refine lv_if_lt (tgt := 17) hx hb dX7_isBad_1 (by decide) (fun c1 => ?_) (fun c1 => ?_)
  · have hf := if_t hf c1
    refine lv_iconst (v := 1) hx hb dX7_isBad_17 (by decide) ?_
    refine lv_goto (tgt := 22) hx hb dX7_isBad_18 (by decide) ?_
    have hf := Option.some.inj hf
    subst hf
    exact hret _ _ _ _ _ dX7_isBad_22 rfl hP hD hS rfl
  · have hf := if_f hf c1
    refine lv_iload_n hx hb dX7_isBad_4 rfl (lv_at hl 1 rfl) ?_
    refine lv_iconst (v := 1) hx hb dX7_isBad_5 (by decide) ?_
    refine lv_aload_n hx hb dX7_isBad_6 rfl (lv_at hl 0 rfl) ?_
    refine va_get (D := D) (ci := 7) (v := .ref (a0 1)) (C := RX7) (T := TX7) (N := 19) hx hb hts inw_X7_isBad_7 hown hK hP 0 rfl rfl 0 (by decide) (hts (.fieldLink RX7 7 "RingGamesModel" "now" "[I") (List.mem_of_getElem? (i := 1) rfl)) (fun _ h9 => h9) rfl dX7_isBad_7 ?_
    refine lv_bipush (v := 56) hx hb dX7_isBad_10 (by decide) ?_
    refine va_iald hx hb hK hP 1 0 rfl rfl (x_in (by decide)) dX7_isBad_12 ?_
    refine lv_ishl hx hb dX7_isBad_13 ?_
    refine lv_icmp_lt (tgt := 21) hx hb dX7_isBad_14 (by decide) (fun c2 => ?_) (fun c2 => ?_)
    · have hf := if_t hf c2
      refine lv_iconst (v := 0) hx hb dX7_isBad_21 (by decide) ?_
      have hf := Option.some.inj hf
      subst hf
      exact hret _ _ _ _ _ dX7_isBad_22 rfl hP hD hS rfl
    · have hf := if_f hf c2
      refine lv_iconst (v := 1) hx hb dX7_isBad_17 (by decide) ?_
      refine lv_goto (tgt := 22) hx hb dX7_isBad_18 (by decide) ?_
      have hf := Option.some.inj hf
      subst hf
      exact hret _ _ _ _ _ dX7_isBad_22 rfl hP hD hS rfl
def f_X7_comes (mnow : (Nat → Int32)) (p1 : Int32) (p2 : Int32) (p3 : Int32) : Option Int32 := (f_X7_of mnow p3 2).bind fun q1 => (f_X7_of mnow p3 0).bind fun q2 => (if q2 = p1 then (if (q1 &&& p2) = 0 then some (0) else some (1)) else (if q1 = 0 then some (0) else (if (q1 &&& (p2 ^^^ (-1))) = 0 then some (1) else some (0))))
theorem hd_X7_comes : yX7_comes.cls = RX7 ∧ yX7_comes.cls ≠ "java/lang/invoke/MethodHandle" ∧ yX7_comes.cls ≠ "java/lang/invoke/VarHandle" ∧ (parseMethodDescriptor yX7_comes.desc).map (fun d => d.parameters.length) = some 3 := by decide +kernel
set_option maxHeartbeats 4000000 in
set_option maxRecDepth 100000 in
theorem c_X7_comes (l : Launch) (D : va_G) (cI cC cS : ClassId) (R : va_W) (a0 : Nat → Nat) (mnow : (Nat → Int32)) (mhistory : (Nat → Int32)) (mkept : Int32) (mslot : (Nat → Int32)) (misFilled : Int32) (mgame : Int32) (mmeasures : (Nat → Int32)) (mmost : (Nat → Int32)) (mnumbers : (Nat → Int32)) (mround : Int32) (mtyped : Int32) (mtext : (Nat → Int32)) (mat : Int32) (mnumber : Int32) (mreads : (Nat → Int32)) (mbeyond : Int32) (mjudgedTo : (Nat → Int32)) (mreach : (Nat → Int32)) (mgoes : (Nat → Int32)) (p1 : Int32) (p2 : Int32) (p3 : Int32) (r : Int32) (hf : f_X7_comes mnow p1 p2 p3 = some r) : CI l yX7_comes wsX7_comes 1 22 D cI cC cS [.ref (a0 0), .int p1, .int p2, .int p3] ((w_M a0 cI cC mnow mhistory mkept mslot misFilled mgame mmeasures mmost mnumbers mround mtyped mtext mat mnumber mreads mbeyond mjudgedTo mreach mgoes) ++ R) r ((w_M a0 cI cC mnow mhistory mkept mslot misFilled mgame mmeasures mmost mnumbers mround mtyped mtext mat mnumber mreads mbeyond mjudgedTo mreach mgoes) ++ R) := by
  refine XI.of (cc := cX7_comes) (maxL := 5) (ty := .boolean) (own := RX7) (by decide) rfl rfl (Nat.le_of_ble_eq_true rfl) ?_
  intro p e s m args below meth c A Q S hK hN hA hP hD hS ls hl hret
  obtain ⟨hx, hb, hml, hown, hts⟩ := id S
  have hl : lv_has ls 5 [(0, .ref (a0 0)), (1, .int p1), (2, .int p2), (3, .int p3)] := hl
  unfold f_X7_comes at hf
  refine lv_aload_n hx hb dX7_comes_0 rfl (lv_at hl 0 rfl) ?_
  refine lv_iload_n hx hb dX7_comes_1 rfl (lv_at hl 3 rfl) ?_
  refine lv_iconst (v := 2) hx hb dX7_comes_2 (by decide) ?_
  obtain ⟨q1, hq1, hf⟩ := ob_some hf
  refine xcVi (w' := ((w_M a0 cI cC mnow mhistory mkept mslot misFilled mgame mmeasures mmost mnumbers mround mtyped mtext mat mnumber mreads mbeyond mjudgedTo mreach mgoes) ++ R)) S hK hN hA hP hD hS (c_X7_of l D cI cC cS R a0 mnow mhistory mkept mslot misFilled mgame mmeasures mmost mnumbers mround mtyped mtext mat mnumber mreads mbeyond mjudgedTo mreach mgoes p3 2 _ hq1) gX7_comes_X7_of rfl hd_X7_of ⟨by decide, by decide⟩ (List.Perm.refl _) (List.Perm.refl _) (ci := 7) (q := (RX7, TX7, 19)) rfl rfl rfl rfl hl.1 rfl (Nat.le_of_ble_eq_true rfl) dX7_comes_3 ⟨Nat.zero_le _, Nat.zero_le _⟩ (fun H locs hP hD hS => ?_)
  refine lv_istore (lv' := [(4, .int q1), (0, .ref (a0 0)), (1, .int p1), (2, .int p2), (3, .int p3)]) hx hb dX7_comes_6 hl (by decide) rfl (fun ls hl => ?_)
  refine lv_aload_n hx hb dX7_comes_8 rfl (lv_at hl 1 rfl) ?_
  refine lv_iload_n hx hb dX7_comes_9 rfl (lv_at hl 4 rfl) ?_
  refine lv_iconst (v := 0) hx hb dX7_comes_10 (by decide) ?_
  obtain ⟨q2, hq2, hf⟩ := ob_some hf
  refine xcVi (w' := ((w_M a0 cI cC mnow mhistory mkept mslot misFilled mgame mmeasures mmost mnumbers mround mtyped mtext mat mnumber mreads mbeyond mjudgedTo mreach mgoes) ++ R)) S hK hN hA hP hD hS (c_X7_of l D cI cC cS R a0 mnow mhistory mkept mslot misFilled mgame mmeasures mmost mnumbers mround mtyped mtext mat mnumber mreads mbeyond mjudgedTo mreach mgoes p3 0 _ hq2) gX7_comes_X7_of rfl hd_X7_of ⟨by decide, by decide⟩ (List.Perm.refl _) (List.Perm.refl _) (ci := 7) (q := (RX7, TX7, 19)) rfl rfl rfl rfl hl.1 rfl (Nat.le_of_ble_eq_true rfl) dX7_comes_11 ⟨Nat.zero_le _, Nat.zero_le _⟩ (fun H locs hP hD hS => ?_)
  refine lv_iload_n hx hb dX7_comes_14 rfl (lv_at hl 2 rfl) ?_
  refine lv_icmp_ne (tgt := 33) hx hb dX7_comes_15 (by decide) (fun c3 => ?_) (fun c3 => ?_)
  · have hf := if_f hf c3
    refine lv_iload hx hb dX7_comes_33 (lv_at hl 0 rfl) ?_
    refine lv_if_eq (tgt := 51) hx hb dX7_comes_35 (by decide) (fun c4 => ?_) (fun c4 => ?_)
    · have hf := if_t hf c4
      refine lv_iconst (v := 0) hx hb dX7_comes_51 (by decide) ?_
      have hf := Option.some.inj hf
      subst hf
      exact hret _ _ _ _ _ dX7_comes_52 rfl hP hD hS rfl
    · have hf := if_f hf c4
      refine lv_iload hx hb dX7_comes_38 (lv_at hl 0 rfl) ?_
      refine lv_iload_n hx hb dX7_comes_40 rfl (lv_at hl 3 rfl) ?_
      refine lv_iconst (v := (-1)) hx hb dX7_comes_41 (by decide) ?_
      refine lv_ixor hx hb dX7_comes_42 ?_
      refine lv_iand hx hb dX7_comes_43 ?_
      refine lv_if_ne (tgt := 51) hx hb dX7_comes_44 (by decide) (fun c5 => ?_) (fun c5 => ?_)
      · have hf := if_f hf c5
        refine lv_iconst (v := 0) hx hb dX7_comes_51 (by decide) ?_
        have hf := Option.some.inj hf
        subst hf
        exact hret _ _ _ _ _ dX7_comes_52 rfl hP hD hS rfl
      · have hf := if_t hf c5
        refine lv_iconst (v := 1) hx hb dX7_comes_47 (by decide) ?_
        refine lv_goto (tgt := 52) hx hb dX7_comes_48 (by decide) ?_
        have hf := Option.some.inj hf
        subst hf
        exact hret _ _ _ _ _ dX7_comes_52 rfl hP hD hS rfl
  · have hf := if_t hf c3
    refine lv_iload hx hb dX7_comes_18 (lv_at hl 0 rfl) ?_
    refine lv_iload_n hx hb dX7_comes_20 rfl (lv_at hl 3 rfl) ?_
    refine lv_iand hx hb dX7_comes_21 ?_
    refine lv_if_eq (tgt := 29) hx hb dX7_comes_22 (by decide) (fun c6 => ?_) (fun c6 => ?_)
    · have hf := if_t hf c6
      refine lv_iconst (v := 0) hx hb dX7_comes_29 (by decide) ?_
      refine lv_goto (tgt := 52) hx hb dX7_comes_30 (by decide) ?_
      have hf := Option.some.inj hf
      subst hf
      exact hret _ _ _ _ _ dX7_comes_52 rfl hP hD hS rfl
    · have hf := if_f hf c6
      refine lv_iconst (v := 1) hx hb dX7_comes_25 (by decide) ?_
      refine lv_goto (tgt := 52) hx hb dX7_comes_26 (by decide) ?_
      have hf := Option.some.inj hf
      subst hf
      exact hret _ _ _ _ _ dX7_comes_52 rfl hP hD hS rfl
def f_X7_coming_L5 (d_mnow : (Nat → Int32)) (d_l1 : Int32) (d_l2 : Int32) : Nat → Int32 → Int32 → Option Int32
  | 0, _, _ => none
  | k + 1, d_l3, d_l4 => (if (d_mnow 56) ≤ d_l4 then some (d_l3) else (if ((jshr d_l2 d_l4) &&& 1) = 0 then (f_X7_comes d_mnow d_l1 d_l2 d_l4).bind fun q3 => (if q3 = 0 then f_X7_coming_L5 d_mnow d_l1 d_l2 k (d_l3 ||| 0) (d_l4 + 1) else f_X7_coming_L5 d_mnow d_l1 d_l2 k (d_l3 ||| (jshl 1 d_l4)) (d_l4 + 1)) else f_X7_coming_L5 d_mnow d_l1 d_l2 k (d_l3 ||| 0) (d_l4 + 1)))
def f_X7_coming (n : Nat) (mnow : (Nat → Int32)) (p1 : Int32) (p2 : Int32) : Option Int32 := (f_X7_coming_L5 mnow p1 p2 n 0 0).bind fun q2 => some (q2)
theorem inw_X7_coming_7 : ∀ w ∈ wsX70, w ∈ wsX7_coming := fun _ h => List.mem_cons_of_mem _ (List.mem_append_right _ h)
theorem hd_X7_coming : yX7_coming.cls = RX7 ∧ yX7_coming.cls ≠ "java/lang/invoke/MethodHandle" ∧ yX7_coming.cls ≠ "java/lang/invoke/VarHandle" ∧ (parseMethodDescriptor yX7_coming.desc).map (fun d => d.parameters.length) = some 2 := by decide +kernel
set_option maxHeartbeats 4000000 in
set_option maxRecDepth 100000 in
theorem c_X7_coming (l : Launch) (D : va_G) (cI cC cS : ClassId) (R : va_W) (a0 : Nat → Nat) (mnow : (Nat → Int32)) (mhistory : (Nat → Int32)) (mkept : Int32) (mslot : (Nat → Int32)) (misFilled : Int32) (mgame : Int32) (mmeasures : (Nat → Int32)) (mmost : (Nat → Int32)) (mnumbers : (Nat → Int32)) (mround : Int32) (mtyped : Int32) (mtext : (Nat → Int32)) (mat : Int32) (mnumber : Int32) (mreads : (Nat → Int32)) (mbeyond : Int32) (mjudgedTo : (Nat → Int32)) (mreach : (Nat → Int32)) (mgoes : (Nat → Int32)) (p1 : Int32) (p2 : Int32) (n : Nat) (r : Int32) (hf : f_X7_coming n mnow p1 p2 = some r) : CI l yX7_coming wsX7_coming 2 46 D cI cC cS [.ref (a0 0), .int p1, .int p2] ((w_M a0 cI cC mnow mhistory mkept mslot misFilled mgame mmeasures mmost mnumbers mround mtyped mtext mat mnumber mreads mbeyond mjudgedTo mreach mgoes) ++ R) r ((w_M a0 cI cC mnow mhistory mkept mslot misFilled mgame mmeasures mmost mnumbers mround mtyped mtext mat mnumber mreads mbeyond mjudgedTo mreach mgoes) ++ R) := by
  refine XI.of (cc := cX7_coming) (maxL := 5) (ty := .int) (own := RX7) (by decide) rfl rfl (Nat.le_of_ble_eq_true rfl) ?_
  intro p e s m args below meth c A Q S hK hN hA hP hD hS ls hl hret
  obtain ⟨hx, hb, hml, hown, hts⟩ := id S
  have hl : lv_has ls 5 [(0, .ref (a0 0)), (1, .int p1), (2, .int p2)] := hl
  unfold f_X7_coming at hf
  refine lv_iconst (v := 0) hx hb dX7_coming_0 (by decide) ?_
  refine lv_istore_n (lv' := [(3, .int 0), (0, .ref (a0 0)), (1, .int p1), (2, .int p2)]) hx hb dX7_coming_1 rfl hl (by decide) rfl (fun ls hl => ?_)
  refine lv_iconst (v := 0) hx hb dX7_coming_2 (by decide) ?_
  refine lv_istore (lv' := [(4, .int 0), (3, .int 0), (0, .ref (a0 0)), (1, .int p1), (2, .int p2)]) hx hb dX7_coming_3 hl (by decide) rfl (fun ls hl => ?_)
  obtain ⟨q2, hq2, hf⟩ := ob_some hf
  have L1 : ∀ (k : Nat) (v_l3_L1 : Int32) (v_l4_L1 : Int32) (q_L1 : Int32), f_X7_coming_L5 mnow p1 p2 k v_l3_L1 v_l4_L1 = some q_L1 → ∀ (H : Heap) (locs : List Loc), va_P D vwCl ((w_M a0 cI cC mnow mhistory mkept mslot misFilled mgame mmeasures mmost mnumbers mround mtyped mtext mat mnumber mreads mbeyond mjudgedTo mreach mgoes) ++ R) H → va_D A ((w_M a0 cI cC mnow mhistory mkept mslot misFilled mgame mmeasures mmost mnumbers mround mtyped mtext mat mnumber mreads mbeyond mjudgedTo mreach mgoes) ++ R) → va_S A s.heap H locs → ∀ ls : Array Slot, lv_has ls 5 [(0, .ref (a0 0)), (1, .int p1), (2, .int p2), (3, .int v_l3_L1), (4, .int v_l4_L1)] → (∀ (H : Heap) (locs : List Loc), va_P D vwCl ((w_M a0 cI cC mnow mhistory mkept mslot misFilled mgame mmeasures mmost mnumbers mround mtyped mtext mat mnumber mreads mbeyond mjudgedTo mreach mgoes) ++ R) H → va_D A ((w_M a0 cI cC mnow mhistory mkept mslot misFilled mgame mmeasures mmost mnumbers mround mtyped mtext mat mnumber mreads mbeyond mjudgedTo mreach mgoes) ++ R) → va_S A s.heap H locs → ∀ ls : Array Slot, lv_has ls 5 [(3, .int q_L1)] → W p l e (xR 2 46) s m args below meth c H locs 0 0 Q (F0 m 54 ls [])) → W p l e (xR 2 46) s m args below meth c H locs 0 0 Q (F0 m 5 ls []) := by
    intro k
    induction k with
    | zero => intro v_l3_L1 v_l4_L1 q_L1 hf; simp [f_X7_coming_L5] at hf
    | succ k ih =>
      intro v_l3_L1 v_l4_L1 q_L1 hf H locs hP hD hS ls hl kx
      rw [f_X7_coming_L5] at hf
      refine lv_iload hx hb dX7_coming_5 (lv_at hl 4 rfl) ?_
      refine lv_aload_n hx hb dX7_coming_7 rfl (lv_at hl 0 rfl) ?_
      refine va_get (D := D) (ci := 7) (v := .ref (a0 1)) (C := RX7) (T := TX7) (N := 19) hx hb hts inw_X7_coming_7 hown hK hP 0 rfl rfl 0 (by decide) (hts (.fieldLink RX7 7 "RingGamesModel" "now" "[I") (List.mem_of_getElem? (i := 1) rfl)) (fun _ h9 => h9) rfl dX7_coming_8 ?_
      refine lv_bipush (v := 56) hx hb dX7_coming_11 (by decide) ?_
      refine va_iald hx hb hK hP 1 0 rfl rfl (x_in (by decide)) dX7_coming_13 ?_
      refine lv_icmp_ge (tgt := 54) hx hb dX7_coming_14 (by decide) (fun c3 => ?_) (fun c3 => ?_)
      · have hf := if_t hf c3
        have hf := Option.some.inj hf
        subst hf
        exact kx _ _ hP hD hS _ (lv_sub hl [3] rfl)
      · have hf := if_f hf c3
        refine lv_iload_n hx hb dX7_coming_17 rfl (lv_at hl 3 rfl) ?_
        refine lv_iload_n hx hb dX7_coming_18 rfl (lv_at hl 2 rfl) ?_
        refine lv_iload hx hb dX7_coming_19 (lv_at hl 4 rfl) ?_
        refine lv_ishr hx hb dX7_coming_21 ?_
        refine lv_iconst (v := 1) hx hb dX7_coming_22 (by decide) ?_
        refine lv_iand hx hb dX7_coming_23 ?_
        refine lv_if_ne (tgt := 45) hx hb dX7_coming_24 (by decide) (fun c4 => ?_) (fun c4 => ?_)
        · have hf := if_f hf c4
          refine lv_iconst (v := 0) hx hb dX7_coming_45 (by decide) ?_
          refine lv_ior hx hb dX7_coming_46 ?_
          refine lv_istore_n (lv' := [(3, .int (v_l3_L1 ||| 0)), (0, .ref (a0 0)), (1, .int p1), (2, .int p2), (4, .int v_l4_L1)]) hx hb dX7_coming_47 rfl hl (by decide) rfl (fun ls hl => ?_)
          refine lv_iinc (v := (v_l4_L1 + 1)) (lv' := [(4, .int (v_l4_L1 + 1)), (3, .int (v_l3_L1 ||| 0)), (0, .ref (a0 0)), (1, .int p1), (2, .int p2)]) hx hb dX7_coming_48 hl (k := 4) rfl (congrArg (fun z => v_l4_L1 + z) (by decide)) (by decide) rfl (fun ls hl => ?_)
          refine lv_goto (tgt := 5) hx hb dX7_coming_51 (by decide) ?_
          exact ih (v_l3_L1 ||| 0) (v_l4_L1 + 1) _ hf _ _ hP hD hS _ (lv_sub hl [2, 3, 4, 1, 0] rfl) kx
        · have hf := if_t hf c4
          refine lv_aload_n hx hb dX7_coming_27 rfl (lv_at hl 0 rfl) ?_
          refine lv_iload_n hx hb dX7_coming_28 rfl (lv_at hl 1 rfl) ?_
          refine lv_iload_n hx hb dX7_coming_29 rfl (lv_at hl 2 rfl) ?_
          refine lv_iload hx hb dX7_coming_30 (lv_at hl 4 rfl) ?_
          obtain ⟨q5, hq5, hf⟩ := ob_some hf
          refine xcVi (w' := ((w_M a0 cI cC mnow mhistory mkept mslot misFilled mgame mmeasures mmost mnumbers mround mtyped mtext mat mnumber mreads mbeyond mjudgedTo mreach mgoes) ++ R)) S hK hN hA hP hD hS (c_X7_comes l D cI cC cS R a0 mnow mhistory mkept mslot misFilled mgame mmeasures mmost mnumbers mround mtyped mtext mat mnumber mreads mbeyond mjudgedTo mreach mgoes p1 p2 v_l4_L1 _ hq5) gX7_coming_X7_comes rfl hd_X7_comes ⟨by decide, by decide⟩ (List.Perm.refl _) (List.Perm.refl _) (ci := 7) (q := (RX7, TX7, 19)) rfl rfl rfl rfl hl.1 rfl (Nat.le_of_ble_eq_true rfl) dX7_coming_32 ⟨Nat.zero_le _, Nat.zero_le _⟩ (fun H locs hP hD hS => ?_)
          refine lv_if_eq (tgt := 45) hx hb dX7_coming_35 (by decide) (fun c6 => ?_) (fun c6 => ?_)
          · have hf := if_t hf c6
            refine lv_iconst (v := 0) hx hb dX7_coming_45 (by decide) ?_
            refine lv_ior hx hb dX7_coming_46 ?_
            refine lv_istore_n (lv' := [(3, .int (v_l3_L1 ||| 0)), (0, .ref (a0 0)), (1, .int p1), (2, .int p2), (4, .int v_l4_L1)]) hx hb dX7_coming_47 rfl hl (by decide) rfl (fun ls hl => ?_)
            refine lv_iinc (v := (v_l4_L1 + 1)) (lv' := [(4, .int (v_l4_L1 + 1)), (3, .int (v_l3_L1 ||| 0)), (0, .ref (a0 0)), (1, .int p1), (2, .int p2)]) hx hb dX7_coming_48 hl (k := 4) rfl (congrArg (fun z => v_l4_L1 + z) (by decide)) (by decide) rfl (fun ls hl => ?_)
            refine lv_goto (tgt := 5) hx hb dX7_coming_51 (by decide) ?_
            exact ih (v_l3_L1 ||| 0) (v_l4_L1 + 1) _ hf _ _ hP hD hS _ (lv_sub hl [2, 3, 4, 1, 0] rfl) kx
          · have hf := if_f hf c6
            refine lv_iconst (v := 1) hx hb dX7_coming_38 (by decide) ?_
            refine lv_iload hx hb dX7_coming_39 (lv_at hl 4 rfl) ?_
            refine lv_ishl hx hb dX7_coming_41 ?_
            refine lv_goto (tgt := 46) hx hb dX7_coming_42 (by decide) ?_
            refine lv_ior hx hb dX7_coming_46 ?_
            refine lv_istore_n (lv' := [(3, .int (v_l3_L1 ||| (jshl 1 v_l4_L1))), (0, .ref (a0 0)), (1, .int p1), (2, .int p2), (4, .int v_l4_L1)]) hx hb dX7_coming_47 rfl hl (by decide) rfl (fun ls hl => ?_)
            refine lv_iinc (v := (v_l4_L1 + 1)) (lv' := [(4, .int (v_l4_L1 + 1)), (3, .int (v_l3_L1 ||| (jshl 1 v_l4_L1))), (0, .ref (a0 0)), (1, .int p1), (2, .int p2)]) hx hb dX7_coming_48 hl (k := 4) rfl (congrArg (fun z => v_l4_L1 + z) (by decide)) (by decide) rfl (fun ls hl => ?_)
            refine lv_goto (tgt := 5) hx hb dX7_coming_51 (by decide) ?_
            exact ih (v_l3_L1 ||| (jshl 1 v_l4_L1)) (v_l4_L1 + 1) _ hf _ _ hP hD hS _ (lv_sub hl [2, 3, 4, 1, 0] rfl) kx
  refine L1 n 0 0 q2 hq2 _ _ hP hD hS _ (lv_sub hl [2, 3, 4, 1, 0] rfl) ?_
  clear hP hD hS hl
  intro H locs hP hD hS ls hl
  refine lv_iload_n hx hb dX7_coming_54 rfl (lv_at hl 0 rfl) ?_
  have hf := Option.some.inj hf
  subst hf
  exact hret _ _ _ _ _ dX7_coming_55 rfl hP hD hS rfl
def f_X7_forced_L30 (n : Nat) (d_mnow : (Nat → Int32)) (d_l1 : Int32) : Nat → Int32 → Int32 → Option Int32
  | 0, _, _ => none
  | k + 1, d_l3, d_l4 => (if d_l4 = 0 then some (d_l3) else (f_X7_coming n d_mnow d_l1 (d_l3 ||| d_l4)).bind fun q7 => f_X7_forced_L30 n d_mnow d_l1 k (d_l3 ||| d_l4) q7)
def f_X7_forced (n : Nat) (mnow : (Nat → Int32)) (p1 : Int32) (p2 : Int32) : Option Int32 := (f_X7_noPlayer p1).bind fun q1 => (if q1 = 0 then (f_X7_isBad mnow p2).bind fun q3 => (if q3 = 0 then (f_X7_coming n mnow p1 p2).bind fun q5 => (f_X7_forced_L30 n mnow p1 n p2 q5).bind fun q7 => some (q7) else some ((-2))) else some ((-1)))
theorem hd_X7_forced : yX7_forced.cls = RX7 ∧ yX7_forced.cls ≠ "java/lang/invoke/MethodHandle" ∧ yX7_forced.cls ≠ "java/lang/invoke/VarHandle" ∧ (parseMethodDescriptor yX7_forced.desc).map (fun d => d.parameters.length) = some 2 := by decide +kernel
set_option maxHeartbeats 4000000 in
set_option maxRecDepth 100000 in
theorem c_X7_forced (l : Launch) (D : va_G) (cI cC cS : ClassId) (R : va_W) (a0 : Nat → Nat) (mnow : (Nat → Int32)) (mhistory : (Nat → Int32)) (mkept : Int32) (mslot : (Nat → Int32)) (misFilled : Int32) (mgame : Int32) (mmeasures : (Nat → Int32)) (mmost : (Nat → Int32)) (mnumbers : (Nat → Int32)) (mround : Int32) (mtyped : Int32) (mtext : (Nat → Int32)) (mat : Int32) (mnumber : Int32) (mreads : (Nat → Int32)) (mbeyond : Int32) (mjudgedTo : (Nat → Int32)) (mreach : (Nat → Int32)) (mgoes : (Nat → Int32)) (p1 : Int32) (p2 : Int32) (n : Nat) (r : Int32) (hf : f_X7_forced n mnow p1 p2 = some r) : CI l yX7_forced wsX7_forced 3 70 D cI cC cS [.ref (a0 0), .int p1, .int p2] ((w_M a0 cI cC mnow mhistory mkept mslot misFilled mgame mmeasures mmost mnumbers mround mtyped mtext mat mnumber mreads mbeyond mjudgedTo mreach mgoes) ++ R) r ((w_M a0 cI cC mnow mhistory mkept mslot misFilled mgame mmeasures mmost mnumbers mround mtyped mtext mat mnumber mreads mbeyond mjudgedTo mreach mgoes) ++ R) := by
  refine XI.of (cc := cX7_forced) (maxL := 5) (ty := .int) (own := RX7) (by decide) rfl rfl (Nat.le_of_ble_eq_true rfl) ?_
  intro p e s m args below meth c A Q S hK hN hA hP hD hS ls hl hret
  obtain ⟨hx, hb, hml, hown, hts⟩ := id S
  have hl : lv_has ls 5 [(0, .ref (a0 0)), (1, .int p1), (2, .int p2)] := hl
  unfold f_X7_forced at hf
  refine lv_iload_n hx hb dX7_forced_0 rfl (lv_at hl 1 rfl) ?_
  obtain ⟨q1, hq1, hf⟩ := ob_some hf
  refine xcSi S hK hN hA hP hD hS (c_X7_noPlayer l D cI cC cS ((w_M a0 cI cC mnow mhistory mkept mslot misFilled mgame mmeasures mmost mnumbers mround mtyped mtext mat mnumber mreads mbeyond mjudgedTo mreach mgoes) ++ R) p1 _ hq1) gX7_forced_X7_noPlayer rfl hd_X7_noPlayer ⟨by decide, by decide⟩ rfl hl.1 rfl (Nat.le_of_ble_eq_true rfl) dX7_forced_1 ⟨Nat.zero_le _, Nat.zero_le _⟩ (fun H locs hP hD hS => ?_)
  refine lv_if_eq (tgt := 9) hx hb dX7_forced_4 (by decide) (fun c2 => ?_) (fun c2 => ?_)
  · have hf := if_t hf c2
    refine lv_aload_n hx hb dX7_forced_9 rfl (lv_at hl 0 rfl) ?_
    refine lv_iload_n hx hb dX7_forced_10 rfl (lv_at hl 2 rfl) ?_
    obtain ⟨q3, hq3, hf⟩ := ob_some hf
    refine xcVi (w' := ((w_M a0 cI cC mnow mhistory mkept mslot misFilled mgame mmeasures mmost mnumbers mround mtyped mtext mat mnumber mreads mbeyond mjudgedTo mreach mgoes) ++ R)) S hK hN hA hP hD hS (c_X7_isBad l D cI cC cS R a0 mnow mhistory mkept mslot misFilled mgame mmeasures mmost mnumbers mround mtyped mtext mat mnumber mreads mbeyond mjudgedTo mreach mgoes p2 _ hq3) gX7_forced_X7_isBad rfl hd_X7_isBad ⟨by decide, by decide⟩ (List.Perm.refl _) (List.Perm.refl _) (ci := 7) (q := (RX7, TX7, 19)) rfl rfl rfl rfl hl.1 rfl (Nat.le_of_ble_eq_true rfl) dX7_forced_11 ⟨Nat.zero_le _, Nat.zero_le _⟩ (fun H locs hP hD hS => ?_)
    refine lv_if_eq (tgt := 20) hx hb dX7_forced_14 (by decide) (fun c4 => ?_) (fun c4 => ?_)
    · have hf := if_t hf c4
      refine lv_iload_n hx hb dX7_forced_20 rfl (lv_at hl 2 rfl) ?_
      refine lv_istore_n (lv' := [(3, .int p2), (0, .ref (a0 0)), (1, .int p1), (2, .int p2)]) hx hb dX7_forced_21 rfl hl (by decide) rfl (fun ls hl => ?_)
      refine lv_aload_n hx hb dX7_forced_22 rfl (lv_at hl 1 rfl) ?_
      refine lv_iload_n hx hb dX7_forced_23 rfl (lv_at hl 2 rfl) ?_
      refine lv_iload_n hx hb dX7_forced_24 rfl (lv_at hl 0 rfl) ?_
      obtain ⟨q5, hq5, hf⟩ := ob_some hf
      refine xcVi (w' := ((w_M a0 cI cC mnow mhistory mkept mslot misFilled mgame mmeasures mmost mnumbers mround mtyped mtext mat mnumber mreads mbeyond mjudgedTo mreach mgoes) ++ R)) S hK hN hA hP hD hS (c_X7_coming l D cI cC cS R a0 mnow mhistory mkept mslot misFilled mgame mmeasures mmost mnumbers mround mtyped mtext mat mnumber mreads mbeyond mjudgedTo mreach mgoes p1 p2 n _ hq5) gX7_forced_X7_coming rfl hd_X7_coming ⟨by decide, by decide⟩ (List.Perm.refl _) (List.Perm.refl _) (ci := 7) (q := (RX7, TX7, 19)) rfl rfl rfl rfl hl.1 rfl (Nat.le_of_ble_eq_true rfl) dX7_forced_25 ⟨Nat.zero_le _, Nat.zero_le _⟩ (fun H locs hP hD hS => ?_)
      refine lv_istore (lv' := [(4, .int q5), (3, .int p2), (0, .ref (a0 0)), (1, .int p1), (2, .int p2)]) hx hb dX7_forced_28 hl (by decide) rfl (fun ls hl => ?_)
      obtain ⟨q7, hq7, hf⟩ := ob_some hf
      have L6 : ∀ (k : Nat) (v_l3_L6 : Int32) (v_l4_L6 : Int32) (q_L6 : Int32), f_X7_forced_L30 n mnow p1 k v_l3_L6 v_l4_L6 = some q_L6 → ∀ (H : Heap) (locs : List Loc), va_P D vwCl ((w_M a0 cI cC mnow mhistory mkept mslot misFilled mgame mmeasures mmost mnumbers mround mtyped mtext mat mnumber mreads mbeyond mjudgedTo mreach mgoes) ++ R) H → va_D A ((w_M a0 cI cC mnow mhistory mkept mslot misFilled mgame mmeasures mmost mnumbers mround mtyped mtext mat mnumber mreads mbeyond mjudgedTo mreach mgoes) ++ R) → va_S A s.heap H locs → ∀ ls : Array Slot, lv_has ls 5 [(0, .ref (a0 0)), (1, .int p1), (3, .int v_l3_L6), (4, .int v_l4_L6)] → (∀ (H : Heap) (locs : List Loc), va_P D vwCl ((w_M a0 cI cC mnow mhistory mkept mslot misFilled mgame mmeasures mmost mnumbers mround mtyped mtext mat mnumber mreads mbeyond mjudgedTo mreach mgoes) ++ R) H → va_D A ((w_M a0 cI cC mnow mhistory mkept mslot misFilled mgame mmeasures mmost mnumbers mround mtyped mtext mat mnumber mreads mbeyond mjudgedTo mreach mgoes) ++ R) → va_S A s.heap H locs → ∀ ls : Array Slot, lv_has ls 5 [(3, .int q_L6)] → W p l e (xR 3 70) s m args below meth c H locs 0 0 Q (F0 m 51 ls [])) → W p l e (xR 3 70) s m args below meth c H locs 0 0 Q (F0 m 30 ls []) := by
        intro k
        induction k with
        | zero => intro v_l3_L6 v_l4_L6 q_L6 hf; simp [f_X7_forced_L30] at hf
        | succ k ih =>
          intro v_l3_L6 v_l4_L6 q_L6 hf H locs hP hD hS ls hl kx
          rw [f_X7_forced_L30] at hf
          refine lv_iload hx hb dX7_forced_30 (lv_at hl 3 rfl) ?_
          refine lv_if_eq (tgt := 51) hx hb dX7_forced_32 (by decide) (fun c8 => ?_) (fun c8 => ?_)
          · have hf := if_t hf c8
            have hf := Option.some.inj hf
            subst hf
            exact kx _ _ hP hD hS _ (lv_sub hl [2] rfl)
          · have hf := if_f hf c8
            refine lv_iload_n hx hb dX7_forced_35 rfl (lv_at hl 2 rfl) ?_
            refine lv_iload hx hb dX7_forced_36 (lv_at hl 3 rfl) ?_
            refine lv_ior hx hb dX7_forced_38 ?_
            refine lv_istore_n (lv' := [(3, .int (v_l3_L6 ||| v_l4_L6)), (0, .ref (a0 0)), (1, .int p1), (4, .int v_l4_L6)]) hx hb dX7_forced_39 rfl hl (by decide) rfl (fun ls hl => ?_)
            refine lv_aload_n hx hb dX7_forced_40 rfl (lv_at hl 1 rfl) ?_
            refine lv_iload_n hx hb dX7_forced_41 rfl (lv_at hl 2 rfl) ?_
            refine lv_iload_n hx hb dX7_forced_42 rfl (lv_at hl 0 rfl) ?_
            obtain ⟨q9, hq9, hf⟩ := ob_some hf
            refine xcVi (w' := ((w_M a0 cI cC mnow mhistory mkept mslot misFilled mgame mmeasures mmost mnumbers mround mtyped mtext mat mnumber mreads mbeyond mjudgedTo mreach mgoes) ++ R)) S hK hN hA hP hD hS (c_X7_coming l D cI cC cS R a0 mnow mhistory mkept mslot misFilled mgame mmeasures mmost mnumbers mround mtyped mtext mat mnumber mreads mbeyond mjudgedTo mreach mgoes p1 (v_l3_L6 ||| v_l4_L6) n _ hq9) gX7_forced_X7_coming rfl hd_X7_coming ⟨by decide, by decide⟩ (List.Perm.refl _) (List.Perm.refl _) (ci := 7) (q := (RX7, TX7, 19)) rfl rfl rfl rfl hl.1 rfl (Nat.le_of_ble_eq_true rfl) dX7_forced_43 ⟨Nat.zero_le _, Nat.zero_le _⟩ (fun H locs hP hD hS => ?_)
            refine lv_istore (lv' := [(4, .int q9), (3, .int (v_l3_L6 ||| v_l4_L6)), (0, .ref (a0 0)), (1, .int p1)]) hx hb dX7_forced_46 hl (by decide) rfl (fun ls hl => ?_)
            refine lv_goto (tgt := 30) hx hb dX7_forced_48 (by decide) ?_
            exact ih (v_l3_L6 ||| v_l4_L6) q9 _ hf _ _ hP hD hS _ (lv_sub hl [2, 3, 1, 0] rfl) kx
      refine L6 n p2 q5 q7 hq7 _ _ hP hD hS _ (lv_sub hl [2, 3, 1, 0] rfl) ?_
      clear hP hD hS hl
      intro H locs hP hD hS ls hl
      refine lv_iload_n hx hb dX7_forced_51 rfl (lv_at hl 0 rfl) ?_
      have hf := Option.some.inj hf
      subst hf
      exact hret _ _ _ _ _ dX7_forced_52 rfl hP hD hS rfl
    · have hf := if_f hf c4
      refine lv_bipush (v := (-2)) hx hb dX7_forced_17 (by decide) ?_
      have hf := Option.some.inj hf
      subst hf
      exact hret _ _ _ _ _ dX7_forced_19 rfl hP hD hS rfl
  · have hf := if_f hf c2
    refine lv_iconst (v := (-1)) hx hb dX7_forced_7 (by decide) ?_
    have hf := Option.some.inj hf
    subst hf
    exact hret _ _ _ _ _ dX7_forced_8 rfl hP hD hS rfl
def f_X7_rank_L43 (n : Nat) (d_mnow : (Nat → Int32)) (d_l1 : Int32) (d_l3 : Int32) : Nat → Int32 → Int32 → Int32 → Option (Int32 × Int32)
  | 0, _, _, _ => none
  | k + 1, d_l4, d_l5, d_l6 => (if d_l6 = 0 then some (d_l4, d_l5) else (if ((jshr d_l4 d_l3) &&& 1) = 0 then (f_X7_coming n d_mnow d_l1 (d_l4 ||| d_l6)).bind fun q10 => f_X7_rank_L43 n d_mnow d_l1 d_l3 k (d_l4 ||| d_l6) (d_l5 + 1) q10 else some (d_l4, d_l5)))
def f_X7_rank (n : Nat) (mnow : (Nat → Int32)) (p1 : Int32) (p2 : Int32) (p3 : Int32) : Option Int32 := (f_X7_noPlayer p1).bind fun q1 => (if q1 = 0 then (f_X7_no mnow p3).bind fun q3 => (if q3 = 0 then (f_X7_isBad mnow p2).bind fun q5 => (if q5 = 0 then (f_X7_coming n mnow p1 p2).bind fun q7 => (f_X7_rank_L43 n mnow p1 p3 n p2 0 q7).bind fun q9 => (if ((jshr q9.1 p3) &&& 1) = 1 then some (q9.2) else some ((-5))) else some ((-2))) else some ((-1))) else some ((-1)))
theorem hd_X7_rank : yX7_rank.cls = RX7 ∧ yX7_rank.cls ≠ "java/lang/invoke/MethodHandle" ∧ yX7_rank.cls ≠ "java/lang/invoke/VarHandle" ∧ (parseMethodDescriptor yX7_rank.desc).map (fun d => d.parameters.length) = some 3 := by decide +kernel
set_option maxHeartbeats 4000000 in
set_option maxRecDepth 100000 in
theorem c_X7_rank (l : Launch) (D : va_G) (cI cC cS : ClassId) (R : va_W) (a0 : Nat → Nat) (mnow : (Nat → Int32)) (mhistory : (Nat → Int32)) (mkept : Int32) (mslot : (Nat → Int32)) (misFilled : Int32) (mgame : Int32) (mmeasures : (Nat → Int32)) (mmost : (Nat → Int32)) (mnumbers : (Nat → Int32)) (mround : Int32) (mtyped : Int32) (mtext : (Nat → Int32)) (mat : Int32) (mnumber : Int32) (mreads : (Nat → Int32)) (mbeyond : Int32) (mjudgedTo : (Nat → Int32)) (mreach : (Nat → Int32)) (mgoes : (Nat → Int32)) (p1 : Int32) (p2 : Int32) (p3 : Int32) (n : Nat) (r : Int32) (hf : f_X7_rank n mnow p1 p2 p3 = some r) : CI l yX7_rank wsX7_rank 3 70 D cI cC cS [.ref (a0 0), .int p1, .int p2, .int p3] ((w_M a0 cI cC mnow mhistory mkept mslot misFilled mgame mmeasures mmost mnumbers mround mtyped mtext mat mnumber mreads mbeyond mjudgedTo mreach mgoes) ++ R) r ((w_M a0 cI cC mnow mhistory mkept mslot misFilled mgame mmeasures mmost mnumbers mround mtyped mtext mat mnumber mreads mbeyond mjudgedTo mreach mgoes) ++ R) := by
  refine XI.of (cc := cX7_rank) (maxL := 7) (ty := .int) (own := RX7) (by decide) rfl rfl (Nat.le_of_ble_eq_true rfl) ?_
  intro p e s m args below meth c A Q S hK hN hA hP hD hS ls hl hret
  obtain ⟨hx, hb, hml, hown, hts⟩ := id S
  have hl : lv_has ls 7 [(0, .ref (a0 0)), (1, .int p1), (2, .int p2), (3, .int p3)] := hl
  unfold f_X7_rank at hf
  refine lv_iload_n hx hb dX7_rank_0 rfl (lv_at hl 1 rfl) ?_
  obtain ⟨q1, hq1, hf⟩ := ob_some hf
  refine xcSi S hK hN hA hP hD hS (c_X7_noPlayer l D cI cC cS ((w_M a0 cI cC mnow mhistory mkept mslot misFilled mgame mmeasures mmost mnumbers mround mtyped mtext mat mnumber mreads mbeyond mjudgedTo mreach mgoes) ++ R) p1 _ hq1) gX7_rank_X7_noPlayer rfl hd_X7_noPlayer ⟨by decide, by decide⟩ rfl hl.1 rfl (Nat.le_of_ble_eq_true rfl) dX7_rank_1 ⟨Nat.zero_le _, Nat.zero_le _⟩ (fun H locs hP hD hS => ?_)
  refine lv_if_ne (tgt := 15) hx hb dX7_rank_4 (by decide) (fun c2 => ?_) (fun c2 => ?_)
  · have hf := if_f hf c2
    refine lv_iconst (v := (-1)) hx hb dX7_rank_15 (by decide) ?_
    have hf := Option.some.inj hf
    subst hf
    exact hret _ _ _ _ _ dX7_rank_16 rfl hP hD hS rfl
  · have hf := if_t hf c2
    refine lv_aload_n hx hb dX7_rank_7 rfl (lv_at hl 0 rfl) ?_
    refine lv_iload_n hx hb dX7_rank_8 rfl (lv_at hl 3 rfl) ?_
    obtain ⟨q3, hq3, hf⟩ := ob_some hf
    refine xcVi (w' := ((w_M a0 cI cC mnow mhistory mkept mslot misFilled mgame mmeasures mmost mnumbers mround mtyped mtext mat mnumber mreads mbeyond mjudgedTo mreach mgoes) ++ R)) S hK hN hA hP hD hS (c_X7_no l D cI cC cS R a0 mnow mhistory mkept mslot misFilled mgame mmeasures mmost mnumbers mround mtyped mtext mat mnumber mreads mbeyond mjudgedTo mreach mgoes p3 _ hq3) gX7_rank_X7_no rfl hd_X7_no ⟨by decide, by decide⟩ (List.Perm.refl _) (List.Perm.refl _) (ci := 7) (q := (RX7, TX7, 19)) rfl rfl rfl rfl hl.1 rfl (Nat.le_of_ble_eq_true rfl) dX7_rank_9 ⟨Nat.zero_le _, Nat.zero_le _⟩ (fun H locs hP hD hS => ?_)
    refine lv_if_eq (tgt := 17) hx hb dX7_rank_12 (by decide) (fun c4 => ?_) (fun c4 => ?_)
    · have hf := if_t hf c4
      refine lv_aload_n hx hb dX7_rank_17 rfl (lv_at hl 0 rfl) ?_
      refine lv_iload_n hx hb dX7_rank_18 rfl (lv_at hl 2 rfl) ?_
      obtain ⟨q5, hq5, hf⟩ := ob_some hf
      refine xcVi (w' := ((w_M a0 cI cC mnow mhistory mkept mslot misFilled mgame mmeasures mmost mnumbers mround mtyped mtext mat mnumber mreads mbeyond mjudgedTo mreach mgoes) ++ R)) S hK hN hA hP hD hS (c_X7_isBad l D cI cC cS R a0 mnow mhistory mkept mslot misFilled mgame mmeasures mmost mnumbers mround mtyped mtext mat mnumber mreads mbeyond mjudgedTo mreach mgoes p2 _ hq5) gX7_rank_X7_isBad rfl hd_X7_isBad ⟨by decide, by decide⟩ (List.Perm.refl _) (List.Perm.refl _) (ci := 7) (q := (RX7, TX7, 19)) rfl rfl rfl rfl hl.1 rfl (Nat.le_of_ble_eq_true rfl) dX7_rank_19 ⟨Nat.zero_le _, Nat.zero_le _⟩ (fun H locs hP hD hS => ?_)
      refine lv_if_eq (tgt := 28) hx hb dX7_rank_22 (by decide) (fun c6 => ?_) (fun c6 => ?_)
      · have hf := if_t hf c6
        refine lv_iload_n hx hb dX7_rank_28 rfl (lv_at hl 2 rfl) ?_
        refine lv_istore (lv' := [(4, .int p2), (0, .ref (a0 0)), (1, .int p1), (2, .int p2), (3, .int p3)]) hx hb dX7_rank_29 hl (by decide) rfl (fun ls hl => ?_)
        refine lv_iconst (v := 0) hx hb dX7_rank_31 (by decide) ?_
        refine lv_istore (lv' := [(5, .int 0), (4, .int p2), (0, .ref (a0 0)), (1, .int p1), (2, .int p2), (3, .int p3)]) hx hb dX7_rank_32 hl (by decide) rfl (fun ls hl => ?_)
        refine lv_aload_n hx hb dX7_rank_34 rfl (lv_at hl 2 rfl) ?_
        refine lv_iload_n hx hb dX7_rank_35 rfl (lv_at hl 3 rfl) ?_
        refine lv_iload hx hb dX7_rank_36 (lv_at hl 1 rfl) ?_
        obtain ⟨q7, hq7, hf⟩ := ob_some hf
        refine xcVi (w' := ((w_M a0 cI cC mnow mhistory mkept mslot misFilled mgame mmeasures mmost mnumbers mround mtyped mtext mat mnumber mreads mbeyond mjudgedTo mreach mgoes) ++ R)) S hK hN hA hP hD hS (c_X7_coming l D cI cC cS R a0 mnow mhistory mkept mslot misFilled mgame mmeasures mmost mnumbers mround mtyped mtext mat mnumber mreads mbeyond mjudgedTo mreach mgoes p1 p2 n _ hq7) gX7_rank_X7_coming rfl hd_X7_coming ⟨by decide, by decide⟩ (List.Perm.refl _) (List.Perm.refl _) (ci := 7) (q := (RX7, TX7, 19)) rfl rfl rfl rfl hl.1 rfl (Nat.le_of_ble_eq_true rfl) dX7_rank_38 ⟨Nat.zero_le _, Nat.zero_le _⟩ (fun H locs hP hD hS => ?_)
        refine lv_istore (lv' := [(6, .int q7), (5, .int 0), (4, .int p2), (0, .ref (a0 0)), (1, .int p1), (2, .int p2), (3, .int p3)]) hx hb dX7_rank_41 hl (by decide) rfl (fun ls hl => ?_)
        obtain ⟨q9, hq9, hf⟩ := ob_some hf
        have L8 : ∀ (k : Nat) (v_l4_L8 : Int32) (v_l5_L8 : Int32) (v_l6_L8 : Int32) (q_L8 : Int32 × Int32), f_X7_rank_L43 n mnow p1 p3 k v_l4_L8 v_l5_L8 v_l6_L8 = some q_L8 → ∀ (H : Heap) (locs : List Loc), va_P D vwCl ((w_M a0 cI cC mnow mhistory mkept mslot misFilled mgame mmeasures mmost mnumbers mround mtyped mtext mat mnumber mreads mbeyond mjudgedTo mreach mgoes) ++ R) H → va_D A ((w_M a0 cI cC mnow mhistory mkept mslot misFilled mgame mmeasures mmost mnumbers mround mtyped mtext mat mnumber mreads mbeyond mjudgedTo mreach mgoes) ++ R) → va_S A s.heap H locs → ∀ ls : Array Slot, lv_has ls 7 [(0, .ref (a0 0)), (1, .int p1), (3, .int p3), (4, .int v_l4_L8), (5, .int v_l5_L8), (6, .int v_l6_L8)] → (∀ (H : Heap) (locs : List Loc), va_P D vwCl ((w_M a0 cI cC mnow mhistory mkept mslot misFilled mgame mmeasures mmost mnumbers mround mtyped mtext mat mnumber mreads mbeyond mjudgedTo mreach mgoes) ++ R) H → va_D A ((w_M a0 cI cC mnow mhistory mkept mslot misFilled mgame mmeasures mmost mnumbers mround mtyped mtext mat mnumber mreads mbeyond mjudgedTo mreach mgoes) ++ R) → va_S A s.heap H locs → ∀ ls : Array Slot, lv_has ls 7 [(3, .int p3), (4, .int q_L8.1), (5, .int q_L8.2)] → W p l e (xR 3 70) s m args below meth c H locs 0 0 Q (F0 m 79 ls [])) → W p l e (xR 3 70) s m args below meth c H locs 0 0 Q (F0 m 43 ls []) := by
          intro k
          induction k with
          | zero => intro v_l4_L8 v_l5_L8 v_l6_L8 q_L8 hf; simp [f_X7_rank_L43] at hf
          | succ k ih =>
            intro v_l4_L8 v_l5_L8 v_l6_L8 q_L8 hf H locs hP hD hS ls hl kx
            rw [f_X7_rank_L43] at hf
            refine lv_iload hx hb dX7_rank_43 (lv_at hl 5 rfl) ?_
            refine lv_if_eq (tgt := 79) hx hb dX7_rank_45 (by decide) (fun c10 => ?_) (fun c10 => ?_)
            · have hf := if_t hf c10
              have hf := Option.some.inj hf
              subst hf
              exact kx _ _ hP hD hS _ (lv_sub hl [2, 3, 4] rfl)
            · have hf := if_f hf c10
              refine lv_iload hx hb dX7_rank_48 (lv_at hl 3 rfl) ?_
              refine lv_iload_n hx hb dX7_rank_50 rfl (lv_at hl 2 rfl) ?_
              refine lv_ishr hx hb dX7_rank_51 ?_
              refine lv_iconst (v := 1) hx hb dX7_rank_52 (by decide) ?_
              refine lv_iand hx hb dX7_rank_53 ?_
              refine lv_if_ne (tgt := 79) hx hb dX7_rank_54 (by decide) (fun c11 => ?_) (fun c11 => ?_)
              · have hf := if_f hf c11
                have hf := Option.some.inj hf
                subst hf
                exact kx _ _ hP hD hS _ (lv_sub hl [2, 3, 4] rfl)
              · have hf := if_t hf c11
                refine lv_iload hx hb dX7_rank_57 (lv_at hl 3 rfl) ?_
                refine lv_iload hx hb dX7_rank_59 (lv_at hl 5 rfl) ?_
                refine lv_ior hx hb dX7_rank_61 ?_
                refine lv_istore (lv' := [(4, .int (v_l4_L8 ||| v_l6_L8)), (0, .ref (a0 0)), (1, .int p1), (3, .int p3), (5, .int v_l5_L8), (6, .int v_l6_L8)]) hx hb dX7_rank_62 hl (by decide) rfl (fun ls hl => ?_)
                refine lv_iinc (v := (v_l5_L8 + 1)) (lv' := [(5, .int (v_l5_L8 + 1)), (4, .int (v_l4_L8 ||| v_l6_L8)), (0, .ref (a0 0)), (1, .int p1), (3, .int p3), (6, .int v_l6_L8)]) hx hb dX7_rank_64 hl (k := 4) rfl (congrArg (fun z => v_l5_L8 + z) (by decide)) (by decide) rfl (fun ls hl => ?_)
                refine lv_aload_n hx hb dX7_rank_67 rfl (lv_at hl 2 rfl) ?_
                refine lv_iload_n hx hb dX7_rank_68 rfl (lv_at hl 3 rfl) ?_
                refine lv_iload hx hb dX7_rank_69 (lv_at hl 1 rfl) ?_
                obtain ⟨q12, hq12, hf⟩ := ob_some hf
                refine xcVi (w' := ((w_M a0 cI cC mnow mhistory mkept mslot misFilled mgame mmeasures mmost mnumbers mround mtyped mtext mat mnumber mreads mbeyond mjudgedTo mreach mgoes) ++ R)) S hK hN hA hP hD hS (c_X7_coming l D cI cC cS R a0 mnow mhistory mkept mslot misFilled mgame mmeasures mmost mnumbers mround mtyped mtext mat mnumber mreads mbeyond mjudgedTo mreach mgoes p1 (v_l4_L8 ||| v_l6_L8) n _ hq12) gX7_rank_X7_coming rfl hd_X7_coming ⟨by decide, by decide⟩ (List.Perm.refl _) (List.Perm.refl _) (ci := 7) (q := (RX7, TX7, 19)) rfl rfl rfl rfl hl.1 rfl (Nat.le_of_ble_eq_true rfl) dX7_rank_71 ⟨Nat.zero_le _, Nat.zero_le _⟩ (fun H locs hP hD hS => ?_)
                refine lv_istore (lv' := [(6, .int q12), (5, .int (v_l5_L8 + 1)), (4, .int (v_l4_L8 ||| v_l6_L8)), (0, .ref (a0 0)), (1, .int p1), (3, .int p3)]) hx hb dX7_rank_74 hl (by decide) rfl (fun ls hl => ?_)
                refine lv_goto (tgt := 43) hx hb dX7_rank_76 (by decide) ?_
                exact ih (v_l4_L8 ||| v_l6_L8) (v_l5_L8 + 1) q12 _ hf _ _ hP hD hS _ (lv_sub hl [3, 4, 5, 2, 1, 0] rfl) kx
        refine L8 n p2 0 q7 q9 hq9 _ _ hP hD hS _ (lv_sub hl [3, 4, 6, 2, 1, 0] rfl) ?_
        clear hP hD hS hl
        intro H locs hP hD hS ls hl
        refine lv_iload hx hb dX7_rank_79 (lv_at hl 1 rfl) ?_
        refine lv_iload_n hx hb dX7_rank_81 rfl (lv_at hl 0 rfl) ?_
        refine lv_ishr hx hb dX7_rank_82 ?_
        refine lv_iconst (v := 1) hx hb dX7_rank_83 (by decide) ?_
        refine lv_iand hx hb dX7_rank_84 ?_
        refine lv_iconst (v := 1) hx hb dX7_rank_85 (by decide) ?_
        refine lv_icmp_ne (tgt := 94) hx hb dX7_rank_86 (by decide) (fun c13 => ?_) (fun c13 => ?_)
        · have hf := if_f hf c13
          refine lv_bipush (v := (-5)) hx hb dX7_rank_94 (by decide) ?_
          have hf := Option.some.inj hf
          subst hf
          exact hret _ _ _ _ _ dX7_rank_96 rfl hP hD hS rfl
        · have hf := if_t hf c13
          refine lv_iload hx hb dX7_rank_89 (lv_at hl 2 rfl) ?_
          refine lv_goto (tgt := 96) hx hb dX7_rank_91 (by decide) ?_
          have hf := Option.some.inj hf
          subst hf
          exact hret _ _ _ _ _ dX7_rank_96 rfl hP hD hS rfl
      · have hf := if_f hf c6
        refine lv_bipush (v := (-2)) hx hb dX7_rank_25 (by decide) ?_
        have hf := Option.some.inj hf
        subst hf
        exact hret _ _ _ _ _ dX7_rank_27 rfl hP hD hS rfl
    · have hf := if_f hf c4
      refine lv_iconst (v := (-1)) hx hb dX7_rank_15 (by decide) ?_
      have hf := Option.some.inj hf
      subst hf
      exact hret _ _ _ _ _ dX7_rank_16 rfl hP hD hS rfl
def f_X7_trap_L22 (d_mnow : (Nat → Int32)) (d_l1 : Int32) (d_l2 : Int32) : Nat → Int32 → Option Int32
  | 0, _ => none
  | k + 1, d_l3 => (if (d_mnow 56) ≤ d_l3 then some (1) else (f_X7_of d_mnow d_l3 2).bind fun q6 => (f_X7_of d_mnow d_l3 0).bind fun q7 => ((if q7 = d_l1 then (if (q6 &&& (d_l2 ^^^ (-1))) = 0 then some (1) else some (0)) else (if (q6 &&& d_l2) = 0 then some (0) else some (1))) : Option Int32).bind fun j9 => (if ((jshr d_l2 d_l3) &&& 1) = 1 then (if j9 = 0 then some (0) else f_X7_trap_L22 d_mnow d_l1 d_l2 k (d_l3 + 1)) else f_X7_trap_L22 d_mnow d_l1 d_l2 k (d_l3 + 1)))
def f_X7_trap (n : Nat) (mnow : (Nat → Int32)) (p1 : Int32) (p2 : Int32) : Option Int32 := (f_X7_noPlayer p1).bind fun q1 => (if q1 = 0 then (f_X7_isBad mnow p2).bind fun q3 => (if q3 = 0 then f_X7_trap_L22 mnow p1 p2 n 0 else some ((-2))) else some ((-1)))
theorem inw_X7_trap_7 : ∀ w ∈ wsX70, w ∈ wsX7_trap := fun _ h => List.mem_cons_of_mem _ (List.mem_append_right _ h)
theorem hd_X7_trap : yX7_trap.cls = RX7 ∧ yX7_trap.cls ≠ "java/lang/invoke/MethodHandle" ∧ yX7_trap.cls ≠ "java/lang/invoke/VarHandle" ∧ (parseMethodDescriptor yX7_trap.desc).map (fun d => d.parameters.length) = some 2 := by decide +kernel
set_option maxHeartbeats 4000000 in
set_option maxRecDepth 100000 in
theorem c_X7_trap (l : Launch) (D : va_G) (cI cC cS : ClassId) (R : va_W) (a0 : Nat → Nat) (mnow : (Nat → Int32)) (mhistory : (Nat → Int32)) (mkept : Int32) (mslot : (Nat → Int32)) (misFilled : Int32) (mgame : Int32) (mmeasures : (Nat → Int32)) (mmost : (Nat → Int32)) (mnumbers : (Nat → Int32)) (mround : Int32) (mtyped : Int32) (mtext : (Nat → Int32)) (mat : Int32) (mnumber : Int32) (mreads : (Nat → Int32)) (mbeyond : Int32) (mjudgedTo : (Nat → Int32)) (mreach : (Nat → Int32)) (mgoes : (Nat → Int32)) (p1 : Int32) (p2 : Int32) (n : Nat) (r : Int32) (hf : f_X7_trap n mnow p1 p2 = some r) : CI l yX7_trap wsX7_trap 2 42 D cI cC cS [.ref (a0 0), .int p1, .int p2] ((w_M a0 cI cC mnow mhistory mkept mslot misFilled mgame mmeasures mmost mnumbers mround mtyped mtext mat mnumber mreads mbeyond mjudgedTo mreach mgoes) ++ R) r ((w_M a0 cI cC mnow mhistory mkept mslot misFilled mgame mmeasures mmost mnumbers mround mtyped mtext mat mnumber mreads mbeyond mjudgedTo mreach mgoes) ++ R) := by
  refine XI.of (cc := cX7_trap) (maxL := 6) (ty := .int) (own := RX7) (by decide) rfl rfl (Nat.le_of_ble_eq_true rfl) ?_
  intro p e s m args below meth c A Q S hK hN hA hP hD hS ls hl hret
  obtain ⟨hx, hb, hml, hown, hts⟩ := id S
  have hl : lv_has ls 6 [(0, .ref (a0 0)), (1, .int p1), (2, .int p2)] := hl
  unfold f_X7_trap at hf
  refine lv_iload_n hx hb dX7_trap_0 rfl (lv_at hl 1 rfl) ?_
  obtain ⟨q1, hq1, hf⟩ := ob_some hf
  refine xcSi S hK hN hA hP hD hS (c_X7_noPlayer l D cI cC cS ((w_M a0 cI cC mnow mhistory mkept mslot misFilled mgame mmeasures mmost mnumbers mround mtyped mtext mat mnumber mreads mbeyond mjudgedTo mreach mgoes) ++ R) p1 _ hq1) gX7_trap_X7_noPlayer rfl hd_X7_noPlayer ⟨by decide, by decide⟩ rfl hl.1 rfl (Nat.le_of_ble_eq_true rfl) dX7_trap_1 ⟨Nat.zero_le _, Nat.zero_le _⟩ (fun H locs hP hD hS => ?_)
  refine lv_if_eq (tgt := 9) hx hb dX7_trap_4 (by decide) (fun c2 => ?_) (fun c2 => ?_)
  · have hf := if_t hf c2
    refine lv_aload_n hx hb dX7_trap_9 rfl (lv_at hl 0 rfl) ?_
    refine lv_iload_n hx hb dX7_trap_10 rfl (lv_at hl 2 rfl) ?_
    obtain ⟨q3, hq3, hf⟩ := ob_some hf
    refine xcVi (w' := ((w_M a0 cI cC mnow mhistory mkept mslot misFilled mgame mmeasures mmost mnumbers mround mtyped mtext mat mnumber mreads mbeyond mjudgedTo mreach mgoes) ++ R)) S hK hN hA hP hD hS (c_X7_isBad l D cI cC cS R a0 mnow mhistory mkept mslot misFilled mgame mmeasures mmost mnumbers mround mtyped mtext mat mnumber mreads mbeyond mjudgedTo mreach mgoes p2 _ hq3) gX7_trap_X7_isBad rfl hd_X7_isBad ⟨by decide, by decide⟩ (List.Perm.refl _) (List.Perm.refl _) (ci := 7) (q := (RX7, TX7, 19)) rfl rfl rfl rfl hl.1 rfl (Nat.le_of_ble_eq_true rfl) dX7_trap_11 ⟨Nat.zero_le _, Nat.zero_le _⟩ (fun H locs hP hD hS => ?_)
    refine lv_if_eq (tgt := 20) hx hb dX7_trap_14 (by decide) (fun c4 => ?_) (fun c4 => ?_)
    · have hf := if_t hf c4
      refine lv_iconst (v := 0) hx hb dX7_trap_20 (by decide) ?_
      refine lv_istore_n (lv' := [(3, .int 0), (0, .ref (a0 0)), (1, .int p1), (2, .int p2)]) hx hb dX7_trap_21 rfl hl (by decide) rfl (fun ls hl => ?_)
      have L5 : ∀ (k : Nat) (v_l3_L5 : Int32), f_X7_trap_L22 mnow p1 p2 k v_l3_L5 = some r → ∀ (H : Heap) (locs : List Loc), va_P D vwCl ((w_M a0 cI cC mnow mhistory mkept mslot misFilled mgame mmeasures mmost mnumbers mround mtyped mtext mat mnumber mreads mbeyond mjudgedTo mreach mgoes) ++ R) H → va_D A ((w_M a0 cI cC mnow mhistory mkept mslot misFilled mgame mmeasures mmost mnumbers mround mtyped mtext mat mnumber mreads mbeyond mjudgedTo mreach mgoes) ++ R) → va_S A s.heap H locs → ∀ ls : Array Slot, lv_has ls 6 [(0, .ref (a0 0)), (1, .int p1), (2, .int p2), (3, .int v_l3_L5)] → W p l e (xR 2 42) s m args below meth c H locs 0 0 Q (F0 m 22 ls []) := by
        intro k
        induction k with
        | zero => intro v_l3_L5 hf; simp [f_X7_trap_L22] at hf
        | succ k ih =>
          intro v_l3_L5 hf H locs hP hD hS ls hl
          rw [f_X7_trap_L22] at hf
          refine lv_iload_n hx hb dX7_trap_22 rfl (lv_at hl 3 rfl) ?_
          refine lv_aload_n hx hb dX7_trap_23 rfl (lv_at hl 0 rfl) ?_
          refine va_get (D := D) (ci := 7) (v := .ref (a0 1)) (C := RX7) (T := TX7) (N := 19) hx hb hts inw_X7_trap_7 hown hK hP 0 rfl rfl 0 (by decide) (hts (.fieldLink RX7 7 "RingGamesModel" "now" "[I") (List.mem_of_getElem? (i := 1) rfl)) (fun _ h9 => h9) rfl dX7_trap_24 ?_
          refine lv_bipush (v := 56) hx hb dX7_trap_27 (by decide) ?_
          refine va_iald hx hb hK hP 1 0 rfl rfl (x_in (by decide)) dX7_trap_29 ?_
          refine lv_icmp_ge (tgt := 104) hx hb dX7_trap_30 (by decide) (fun c7 => ?_) (fun c7 => ?_)
          · have hf := if_t hf c7
            refine lv_iconst (v := 1) hx hb dX7_trap_104 (by decide) ?_
            have hf := Option.some.inj hf
            subst hf
            exact hret _ _ _ _ _ dX7_trap_105 rfl hP hD hS rfl
          · have hf := if_f hf c7
            refine lv_aload_n hx hb dX7_trap_33 rfl (lv_at hl 0 rfl) ?_
            refine lv_iload_n hx hb dX7_trap_34 rfl (lv_at hl 3 rfl) ?_
            refine lv_iconst (v := 2) hx hb dX7_trap_35 (by decide) ?_
            obtain ⟨q8, hq8, hf⟩ := ob_some hf
            refine xcVi (w' := ((w_M a0 cI cC mnow mhistory mkept mslot misFilled mgame mmeasures mmost mnumbers mround mtyped mtext mat mnumber mreads mbeyond mjudgedTo mreach mgoes) ++ R)) S hK hN hA hP hD hS (c_X7_of l D cI cC cS R a0 mnow mhistory mkept mslot misFilled mgame mmeasures mmost mnumbers mround mtyped mtext mat mnumber mreads mbeyond mjudgedTo mreach mgoes v_l3_L5 2 _ hq8) gX7_trap_X7_of rfl hd_X7_of ⟨by decide, by decide⟩ (List.Perm.refl _) (List.Perm.refl _) (ci := 7) (q := (RX7, TX7, 19)) rfl rfl rfl rfl hl.1 rfl (Nat.le_of_ble_eq_true rfl) dX7_trap_36 ⟨Nat.zero_le _, Nat.zero_le _⟩ (fun H locs hP hD hS => ?_)
            refine lv_istore (lv' := [(4, .int q8), (0, .ref (a0 0)), (1, .int p1), (2, .int p2), (3, .int v_l3_L5)]) hx hb dX7_trap_39 hl (by decide) rfl (fun ls hl => ?_)
            refine lv_aload_n hx hb dX7_trap_41 rfl (lv_at hl 1 rfl) ?_
            refine lv_iload_n hx hb dX7_trap_42 rfl (lv_at hl 4 rfl) ?_
            refine lv_iconst (v := 0) hx hb dX7_trap_43 (by decide) ?_
            obtain ⟨q9, hq9, hf⟩ := ob_some hf
            refine xcVi (w' := ((w_M a0 cI cC mnow mhistory mkept mslot misFilled mgame mmeasures mmost mnumbers mround mtyped mtext mat mnumber mreads mbeyond mjudgedTo mreach mgoes) ++ R)) S hK hN hA hP hD hS (c_X7_of l D cI cC cS R a0 mnow mhistory mkept mslot misFilled mgame mmeasures mmost mnumbers mround mtyped mtext mat mnumber mreads mbeyond mjudgedTo mreach mgoes v_l3_L5 0 _ hq9) gX7_trap_X7_of rfl hd_X7_of ⟨by decide, by decide⟩ (List.Perm.refl _) (List.Perm.refl _) (ci := 7) (q := (RX7, TX7, 19)) rfl rfl rfl rfl hl.1 rfl (Nat.le_of_ble_eq_true rfl) dX7_trap_44 ⟨Nat.zero_le _, Nat.zero_le _⟩ (fun H locs hP hD hS => ?_)
            refine lv_iload_n hx hb dX7_trap_47 rfl (lv_at hl 2 rfl) ?_
            obtain ⟨j11, hj11, hf⟩ := ob_some hf
            have J12 : ∀ (H : Heap) (locs : List Loc), va_P D vwCl ((w_M a0 cI cC mnow mhistory mkept mslot misFilled mgame mmeasures mmost mnumbers mround mtyped mtext mat mnumber mreads mbeyond mjudgedTo mreach mgoes) ++ R) H → va_D A ((w_M a0 cI cC mnow mhistory mkept mslot misFilled mgame mmeasures mmost mnumbers mround mtyped mtext mat mnumber mreads mbeyond mjudgedTo mreach mgoes) ++ R) → va_S A s.heap H locs → ∀ ls : Array Slot, lv_has ls 6 [(0, .ref (a0 0)), (1, .int p1), (2, .int p2), (3, .int v_l3_L5)] → W p l e (xR 2 42) s m args below meth c H locs 0 0 Q (F0 m 80 ls [.int j11]) := by
              intro H locs hP hD hS ls hl
              refine lv_istore (lv' := [(5, .int j11), (0, .ref (a0 0)), (1, .int p1), (2, .int p2), (3, .int v_l3_L5)]) hx hb dX7_trap_80 hl (by decide) rfl (fun ls hl => ?_)
              refine lv_iload_n hx hb dX7_trap_82 rfl (lv_at hl 3 rfl) ?_
              refine lv_iload_n hx hb dX7_trap_83 rfl (lv_at hl 4 rfl) ?_
              refine lv_ishr hx hb dX7_trap_84 ?_
              refine lv_iconst (v := 1) hx hb dX7_trap_85 (by decide) ?_
              refine lv_iand hx hb dX7_trap_86 ?_
              refine lv_iconst (v := 1) hx hb dX7_trap_87 (by decide) ?_
              refine lv_icmp_ne (tgt := 98) hx hb dX7_trap_88 (by decide) (fun c13 => ?_) (fun c13 => ?_)
              · have hf := if_f hf c13
                refine lv_iinc (v := (v_l3_L5 + 1)) (lv' := [(3, .int (v_l3_L5 + 1)), (5, .int j11), (0, .ref (a0 0)), (1, .int p1), (2, .int p2)]) hx hb dX7_trap_98 hl (k := 4) rfl (congrArg (fun z => v_l3_L5 + z) (by decide)) (by decide) rfl (fun ls hl => ?_)
                refine lv_goto (tgt := 22) hx hb dX7_trap_101 (by decide) ?_
                exact ih (v_l3_L5 + 1) hf _ _ hP hD hS _ (lv_sub hl [2, 3, 4, 0] rfl)
              · have hf := if_t hf c13
                refine lv_iload hx hb dX7_trap_91 (lv_at hl 0 rfl) ?_
                refine lv_if_ne (tgt := 98) hx hb dX7_trap_93 (by decide) (fun c14 => ?_) (fun c14 => ?_)
                · have hf := if_f hf c14
                  refine lv_iinc (v := (v_l3_L5 + 1)) (lv' := [(3, .int (v_l3_L5 + 1)), (5, .int j11), (0, .ref (a0 0)), (1, .int p1), (2, .int p2)]) hx hb dX7_trap_98 hl (k := 4) rfl (congrArg (fun z => v_l3_L5 + z) (by decide)) (by decide) rfl (fun ls hl => ?_)
                  refine lv_goto (tgt := 22) hx hb dX7_trap_101 (by decide) ?_
                  exact ih (v_l3_L5 + 1) hf _ _ hP hD hS _ (lv_sub hl [2, 3, 4, 0] rfl)
                · have hf := if_t hf c14
                  refine lv_iconst (v := 0) hx hb dX7_trap_96 (by decide) ?_
                  have hf := Option.some.inj hf
                  subst hf
                  exact hret _ _ _ _ _ dX7_trap_97 rfl hP hD hS rfl
            clear hf
            have hf := hj11
            refine lv_icmp_ne (tgt := 68) hx hb dX7_trap_48 (by decide) (fun c10 => ?_) (fun c10 => ?_)
            · have hf := if_f hf c10
              refine lv_iload hx hb dX7_trap_68 (lv_at hl 0 rfl) ?_
              refine lv_iload_n hx hb dX7_trap_70 rfl (lv_at hl 3 rfl) ?_
              refine lv_iand hx hb dX7_trap_71 ?_
              refine lv_if_eq (tgt := 79) hx hb dX7_trap_72 (by decide) (fun c15 => ?_) (fun c15 => ?_)
              · have hf := if_t hf c15
                refine lv_iconst (v := 0) hx hb dX7_trap_79 (by decide) ?_
                have hf := Option.some.inj hf
                subst hf
                exact J12 _ _ hP hD hS _ (lv_sub hl [1, 2, 3, 4] rfl)
              · have hf := if_f hf c15
                refine lv_iconst (v := 1) hx hb dX7_trap_75 (by decide) ?_
                refine lv_goto (tgt := 80) hx hb dX7_trap_76 (by decide) ?_
                have hf := Option.some.inj hf
                subst hf
                exact J12 _ _ hP hD hS _ (lv_sub hl [1, 2, 3, 4] rfl)
            · have hf := if_t hf c10
              refine lv_iload hx hb dX7_trap_51 (lv_at hl 0 rfl) ?_
              refine lv_iload_n hx hb dX7_trap_53 rfl (lv_at hl 3 rfl) ?_
              refine lv_iconst (v := (-1)) hx hb dX7_trap_54 (by decide) ?_
              refine lv_ixor hx hb dX7_trap_55 ?_
              refine lv_iand hx hb dX7_trap_56 ?_
              refine lv_if_ne (tgt := 64) hx hb dX7_trap_57 (by decide) (fun c16 => ?_) (fun c16 => ?_)
              · have hf := if_f hf c16
                refine lv_iconst (v := 0) hx hb dX7_trap_64 (by decide) ?_
                refine lv_goto (tgt := 80) hx hb dX7_trap_65 (by decide) ?_
                have hf := Option.some.inj hf
                subst hf
                exact J12 _ _ hP hD hS _ (lv_sub hl [1, 2, 3, 4] rfl)
              · have hf := if_t hf c16
                refine lv_iconst (v := 1) hx hb dX7_trap_60 (by decide) ?_
                refine lv_goto (tgt := 80) hx hb dX7_trap_61 (by decide) ?_
                have hf := Option.some.inj hf
                subst hf
                exact J12 _ _ hP hD hS _ (lv_sub hl [1, 2, 3, 4] rfl)
      exact L5 n 0 hf _ _ hP hD hS _ (lv_sub hl [1, 2, 3, 0] rfl)
    · have hf := if_f hf c4
      refine lv_bipush (v := (-2)) hx hb dX7_trap_17 (by decide) ?_
      have hf := Option.some.inj hf
      subst hf
      exact hret _ _ _ _ _ dX7_trap_19 rfl hP hD hS rfl
  · have hf := if_f hf c2
    refine lv_iconst (v := (-1)) hx hb dX7_trap_7 (by decide) ?_
    have hf := Option.some.inj hf
    subst hf
    exact hret _ _ _ _ _ dX7_trap_8 rfl hP hD hS rfl
def f_X7_judges_L2 (d_mnow : (Nat → Int32)) (d_l1 : Int32) : Nat → Int32 → (Nat → Int32) → Option (Nat → Int32)
  | 0, _, _ => none
  | k + 1, d_l2, d_mjudgedTo => (if (d_mnow 56) ≤ d_l2 then some (d_mjudgedTo) else (f_X7_of d_mnow d_l2 0).bind fun q2 => (if q2 = d_l1 then (f_X7_of d_mnow d_l2 3).bind fun q6 => (if 14 ≤ q6 then (f_X7_of d_mnow d_l2 2).bind fun q8 => vg d_l2 14 (f_X7_judges_L2 d_mnow d_l1 k (d_l2 + 1) (upd d_mjudgedTo (d_l2).toNatClampNeg q8)) else (f_X7_of d_mnow d_l2 3).bind fun q10 => vg d_l2 14 (f_X7_judges_L2 d_mnow d_l1 k (d_l2 + 1) (upd d_mjudgedTo (d_l2).toNatClampNeg (jshl 1 q10)))) else (f_X7_of d_mnow d_l2 2).bind fun q4 => vg d_l2 14 (f_X7_judges_L2 d_mnow d_l1 k (d_l2 + 1) (upd d_mjudgedTo (d_l2).toNatClampNeg q4))))
def f_X7_judges (n : Nat) (mnow : (Nat → Int32)) (mjudgedTo : (Nat → Int32)) (p1 : Int32) : Option (Nat → Int32) := (f_X7_judges_L2 mnow p1 n 0 mjudgedTo).bind fun q2 => some (q2)
theorem inw_X7_judges_7 : ∀ w ∈ wsX70, w ∈ wsX7_judges := fun _ h => List.mem_cons_of_mem _ (List.mem_append_right _ h)
theorem hd_X7_judges : yX7_judges.cls = RX7 ∧ yX7_judges.cls ≠ "java/lang/invoke/MethodHandle" ∧ yX7_judges.cls ≠ "java/lang/invoke/VarHandle" ∧ (parseMethodDescriptor yX7_judges.desc).map (fun d => d.parameters.length) = some 1 := by decide +kernel
set_option maxHeartbeats 4000000 in
set_option maxRecDepth 100000 in
theorem c_X7_judges (l : Launch) (D : va_G) (cI cC cS : ClassId) (R : va_W) (a0 : Nat → Nat) (mnow : (Nat → Int32)) (mhistory : (Nat → Int32)) (mkept : Int32) (mslot : (Nat → Int32)) (misFilled : Int32) (mgame : Int32) (mmeasures : (Nat → Int32)) (mmost : (Nat → Int32)) (mnumbers : (Nat → Int32)) (mround : Int32) (mtyped : Int32) (mtext : (Nat → Int32)) (mat : Int32) (mnumber : Int32) (mreads : (Nat → Int32)) (mbeyond : Int32) (mjudgedTo : (Nat → Int32)) (mreach : (Nat → Int32)) (mgoes : (Nat → Int32)) (p1 : Int32) (n : Nat) (r : (Nat → Int32)) (hf : f_X7_judges n mnow mjudgedTo p1 = some r) : CV l yX7_judges wsX7_judges 1 22 D cI cC cS [.ref (a0 0), .int p1] ((w_M a0 cI cC mnow mhistory mkept mslot misFilled mgame mmeasures mmost mnumbers mround mtyped mtext mat mnumber mreads mbeyond mjudgedTo mreach mgoes) ++ R) ((w_M a0 cI cC mnow mhistory mkept mslot misFilled mgame mmeasures mmost mnumbers mround mtyped mtext mat mnumber mreads mbeyond r mreach mgoes) ++ R) := by
  refine XV.of (cc := cX7_judges) (maxL := 3) (own := RX7) (by decide) rfl rfl (Nat.le_of_ble_eq_true rfl) ?_
  intro p e s m args below meth c A Q S hK hN hA hP hD hS ls hl hret
  obtain ⟨hx, hb, hml, hown, hts⟩ := id S
  have hl : lv_has ls 3 [(0, .ref (a0 0)), (1, .int p1)] := hl
  unfold f_X7_judges at hf
  refine lv_iconst (v := 0) hx hb dX7_judges_0 (by decide) ?_
  refine lv_istore_n (lv' := [(2, .int 0), (0, .ref (a0 0)), (1, .int p1)]) hx hb dX7_judges_1 rfl hl (by decide) rfl (fun ls hl => ?_)
  obtain ⟨q2, hq2, hf⟩ := ob_some hf
  have L1 : ∀ (k : Nat) (v_l2_L1 : Int32) (v_mjudgedTo_L1 : (Nat → Int32)) (q_L1 : (Nat → Int32)), f_X7_judges_L2 mnow p1 k v_l2_L1 v_mjudgedTo_L1 = some q_L1 → ∀ (H : Heap) (locs : List Loc), va_P D vwCl ((w_M a0 cI cC mnow mhistory mkept mslot misFilled mgame mmeasures mmost mnumbers mround mtyped mtext mat mnumber mreads mbeyond v_mjudgedTo_L1 mreach mgoes) ++ R) H → va_D A ((w_M a0 cI cC mnow mhistory mkept mslot misFilled mgame mmeasures mmost mnumbers mround mtyped mtext mat mnumber mreads mbeyond v_mjudgedTo_L1 mreach mgoes) ++ R) → va_S A s.heap H locs → ∀ ls : Array Slot, lv_has ls 3 [(0, .ref (a0 0)), (1, .int p1), (2, .int v_l2_L1)] → (∀ (H : Heap) (locs : List Loc), va_P D vwCl ((w_M a0 cI cC mnow mhistory mkept mslot misFilled mgame mmeasures mmost mnumbers mround mtyped mtext mat mnumber mreads mbeyond q_L1 mreach mgoes) ++ R) H → va_D A ((w_M a0 cI cC mnow mhistory mkept mslot misFilled mgame mmeasures mmost mnumbers mround mtyped mtext mat mnumber mreads mbeyond q_L1 mreach mgoes) ++ R) → va_S A s.heap H locs → ∀ ls : Array Slot, lv_has ls 3 [] → W p l e (xR 1 22) s m args below meth c H locs 0 0 Q (F0 m 63 ls [])) → W p l e (xR 1 22) s m args below meth c H locs 0 0 Q (F0 m 2 ls []) := by
    intro k
    induction k with
    | zero => intro v_l2_L1 v_mjudgedTo_L1 q_L1 hf; simp [f_X7_judges_L2] at hf
    | succ k ih =>
      intro v_l2_L1 v_mjudgedTo_L1 q_L1 hf H locs hP hD hS ls hl kx
      rw [f_X7_judges_L2] at hf
      refine lv_iload_n hx hb dX7_judges_2 rfl (lv_at hl 2 rfl) ?_
      refine lv_aload_n hx hb dX7_judges_3 rfl (lv_at hl 0 rfl) ?_
      refine va_get (D := D) (ci := 7) (v := .ref (a0 1)) (C := RX7) (T := TX7) (N := 19) hx hb hts inw_X7_judges_7 hown hK hP 0 rfl rfl 0 (by decide) (hts (.fieldLink RX7 7 "RingGamesModel" "now" "[I") (List.mem_of_getElem? (i := 1) rfl)) (fun _ h9 => h9) rfl dX7_judges_4 ?_
      refine lv_bipush (v := 56) hx hb dX7_judges_7 (by decide) ?_
      refine va_iald hx hb hK hP 1 0 rfl rfl (x_in (by decide)) dX7_judges_9 ?_
      refine lv_icmp_ge (tgt := 63) hx hb dX7_judges_10 (by decide) (fun c3 => ?_) (fun c3 => ?_)
      · have hf := if_t hf c3
        have hf := Option.some.inj hf
        subst hf
        exact kx _ _ hP hD hS _ (lv_sub hl [] rfl)
      · have hf := if_f hf c3
        refine lv_aload_n hx hb dX7_judges_13 rfl (lv_at hl 0 rfl) ?_
        refine va_get (D := D) (ci := 7) (v := .ref (a0 9)) (C := RX7) (T := TX7) (N := 19) hx hb hts inw_X7_judges_7 hown hK hP 0 rfl rfl 16 (by decide) (hts (.fieldLink RX7 35 "RingGamesModel" "judgedTo" "[I") (List.mem_of_getElem? (i := 2) rfl)) (fun _ h9 => h9) rfl dX7_judges_14 ?_
        refine lv_iload_n hx hb dX7_judges_17 rfl (lv_at hl 2 rfl) ?_
        refine lv_aload_n hx hb dX7_judges_18 rfl (lv_at hl 0 rfl) ?_
        refine lv_iload_n hx hb dX7_judges_19 rfl (lv_at hl 2 rfl) ?_
        refine lv_iconst (v := 0) hx hb dX7_judges_20 (by decide) ?_
        obtain ⟨q4, hq4, hf⟩ := ob_some hf
        refine xcVi (w' := ((w_M a0 cI cC mnow mhistory mkept mslot misFilled mgame mmeasures mmost mnumbers mround mtyped mtext mat mnumber mreads mbeyond v_mjudgedTo_L1 mreach mgoes) ++ R)) S hK hN hA hP hD hS (c_X7_of l D cI cC cS R a0 mnow mhistory mkept mslot misFilled mgame mmeasures mmost mnumbers mround mtyped mtext mat mnumber mreads mbeyond v_mjudgedTo_L1 mreach mgoes v_l2_L1 0 _ hq4) gX7_judges_X7_of rfl hd_X7_of ⟨by decide, by decide⟩ (List.Perm.refl _) (List.Perm.refl _) (ci := 7) (q := (RX7, TX7, 19)) rfl rfl rfl rfl hl.1 rfl (Nat.le_of_ble_eq_true rfl) dX7_judges_21 ⟨Nat.zero_le _, Nat.zero_le _⟩ (fun H locs hP hD hS => ?_)
        refine lv_iload_n hx hb dX7_judges_24 rfl (lv_at hl 1 rfl) ?_
        refine lv_icmp_ne (tgt := 50) hx hb dX7_judges_25 (by decide) (fun c5 => ?_) (fun c5 => ?_)
        · have hf := if_f hf c5
          refine lv_aload_n hx hb dX7_judges_50 rfl (lv_at hl 0 rfl) ?_
          refine lv_iload_n hx hb dX7_judges_51 rfl (lv_at hl 2 rfl) ?_
          refine lv_iconst (v := 2) hx hb dX7_judges_52 (by decide) ?_
          obtain ⟨q6, hq6, hf⟩ := ob_some hf
          refine xcVi (w' := ((w_M a0 cI cC mnow mhistory mkept mslot misFilled mgame mmeasures mmost mnumbers mround mtyped mtext mat mnumber mreads mbeyond v_mjudgedTo_L1 mreach mgoes) ++ R)) S hK hN hA hP hD hS (c_X7_of l D cI cC cS R a0 mnow mhistory mkept mslot misFilled mgame mmeasures mmost mnumbers mround mtyped mtext mat mnumber mreads mbeyond v_mjudgedTo_L1 mreach mgoes v_l2_L1 2 _ hq6) gX7_judges_X7_of rfl hd_X7_of ⟨by decide, by decide⟩ (List.Perm.refl _) (List.Perm.refl _) (ci := 7) (q := (RX7, TX7, 19)) rfl rfl rfl rfl hl.1 rfl (Nat.le_of_ble_eq_true rfl) dX7_judges_53 ⟨Nat.zero_le _, Nat.zero_le _⟩ (fun H locs hP hD hS => ?_)
          obtain ⟨g7, hf⟩ := vg_some hf
          refine va_iast hx hb hK hP hD hS 9 0 rfl rfl g7 dX7_judges_56 (fun H locs hP hD hS => ?_)
          have hP : va_P D vwCl ((w_M a0 cI cC mnow mhistory mkept mslot misFilled mgame mmeasures mmost mnumbers mround mtyped mtext mat mnumber mreads mbeyond (upd v_mjudgedTo_L1 (v_l2_L1).toNatClampNeg q6) mreach mgoes) ++ R) H := hP
          have hD : va_D A ((w_M a0 cI cC mnow mhistory mkept mslot misFilled mgame mmeasures mmost mnumbers mround mtyped mtext mat mnumber mreads mbeyond (upd v_mjudgedTo_L1 (v_l2_L1).toNatClampNeg q6) mreach mgoes) ++ R) := hD
          refine lv_iinc (v := (v_l2_L1 + 1)) (lv' := [(2, .int (v_l2_L1 + 1)), (0, .ref (a0 0)), (1, .int p1)]) hx hb dX7_judges_57 hl (k := 2) rfl (congrArg (fun z => v_l2_L1 + z) (by decide)) (by decide) rfl (fun ls hl => ?_)
          refine lv_goto (tgt := 2) hx hb dX7_judges_60 (by decide) ?_
          exact ih (v_l2_L1 + 1) (upd v_mjudgedTo_L1 (v_l2_L1).toNatClampNeg q6) _ hf _ _ hP hD hS _ (lv_sub hl [1, 2, 0] rfl) kx
        · have hf := if_t hf c5
          refine lv_aload_n hx hb dX7_judges_28 rfl (lv_at hl 0 rfl) ?_
          refine lv_iload_n hx hb dX7_judges_29 rfl (lv_at hl 2 rfl) ?_
          refine lv_iconst (v := 3) hx hb dX7_judges_30 (by decide) ?_
          obtain ⟨q8, hq8, hf⟩ := ob_some hf
          refine xcVi (w' := ((w_M a0 cI cC mnow mhistory mkept mslot misFilled mgame mmeasures mmost mnumbers mround mtyped mtext mat mnumber mreads mbeyond v_mjudgedTo_L1 mreach mgoes) ++ R)) S hK hN hA hP hD hS (c_X7_of l D cI cC cS R a0 mnow mhistory mkept mslot misFilled mgame mmeasures mmost mnumbers mround mtyped mtext mat mnumber mreads mbeyond v_mjudgedTo_L1 mreach mgoes v_l2_L1 3 _ hq8) gX7_judges_X7_of rfl hd_X7_of ⟨by decide, by decide⟩ (List.Perm.refl _) (List.Perm.refl _) (ci := 7) (q := (RX7, TX7, 19)) rfl rfl rfl rfl hl.1 rfl (Nat.le_of_ble_eq_true rfl) dX7_judges_31 ⟨Nat.zero_le _, Nat.zero_le _⟩ (fun H locs hP hD hS => ?_)
          refine lv_bipush (v := 14) hx hb dX7_judges_34 (by decide) ?_
          refine lv_icmp_ge (tgt := 50) hx hb dX7_judges_36 (by decide) (fun c9 => ?_) (fun c9 => ?_)
          · have hf := if_t hf c9
            refine lv_aload_n hx hb dX7_judges_50 rfl (lv_at hl 0 rfl) ?_
            refine lv_iload_n hx hb dX7_judges_51 rfl (lv_at hl 2 rfl) ?_
            refine lv_iconst (v := 2) hx hb dX7_judges_52 (by decide) ?_
            obtain ⟨q10, hq10, hf⟩ := ob_some hf
            refine xcVi (w' := ((w_M a0 cI cC mnow mhistory mkept mslot misFilled mgame mmeasures mmost mnumbers mround mtyped mtext mat mnumber mreads mbeyond v_mjudgedTo_L1 mreach mgoes) ++ R)) S hK hN hA hP hD hS (c_X7_of l D cI cC cS R a0 mnow mhistory mkept mslot misFilled mgame mmeasures mmost mnumbers mround mtyped mtext mat mnumber mreads mbeyond v_mjudgedTo_L1 mreach mgoes v_l2_L1 2 _ hq10) gX7_judges_X7_of rfl hd_X7_of ⟨by decide, by decide⟩ (List.Perm.refl _) (List.Perm.refl _) (ci := 7) (q := (RX7, TX7, 19)) rfl rfl rfl rfl hl.1 rfl (Nat.le_of_ble_eq_true rfl) dX7_judges_53 ⟨Nat.zero_le _, Nat.zero_le _⟩ (fun H locs hP hD hS => ?_)
            obtain ⟨g11, hf⟩ := vg_some hf
            refine va_iast hx hb hK hP hD hS 9 0 rfl rfl g11 dX7_judges_56 (fun H locs hP hD hS => ?_)
            have hP : va_P D vwCl ((w_M a0 cI cC mnow mhistory mkept mslot misFilled mgame mmeasures mmost mnumbers mround mtyped mtext mat mnumber mreads mbeyond (upd v_mjudgedTo_L1 (v_l2_L1).toNatClampNeg q10) mreach mgoes) ++ R) H := hP
            have hD : va_D A ((w_M a0 cI cC mnow mhistory mkept mslot misFilled mgame mmeasures mmost mnumbers mround mtyped mtext mat mnumber mreads mbeyond (upd v_mjudgedTo_L1 (v_l2_L1).toNatClampNeg q10) mreach mgoes) ++ R) := hD
            refine lv_iinc (v := (v_l2_L1 + 1)) (lv' := [(2, .int (v_l2_L1 + 1)), (0, .ref (a0 0)), (1, .int p1)]) hx hb dX7_judges_57 hl (k := 2) rfl (congrArg (fun z => v_l2_L1 + z) (by decide)) (by decide) rfl (fun ls hl => ?_)
            refine lv_goto (tgt := 2) hx hb dX7_judges_60 (by decide) ?_
            exact ih (v_l2_L1 + 1) (upd v_mjudgedTo_L1 (v_l2_L1).toNatClampNeg q10) _ hf _ _ hP hD hS _ (lv_sub hl [1, 2, 0] rfl) kx
          · have hf := if_f hf c9
            refine lv_iconst (v := 1) hx hb dX7_judges_39 (by decide) ?_
            refine lv_aload_n hx hb dX7_judges_40 rfl (lv_at hl 0 rfl) ?_
            refine lv_iload_n hx hb dX7_judges_41 rfl (lv_at hl 2 rfl) ?_
            refine lv_iconst (v := 3) hx hb dX7_judges_42 (by decide) ?_
            obtain ⟨q12, hq12, hf⟩ := ob_some hf
            refine xcVi (w' := ((w_M a0 cI cC mnow mhistory mkept mslot misFilled mgame mmeasures mmost mnumbers mround mtyped mtext mat mnumber mreads mbeyond v_mjudgedTo_L1 mreach mgoes) ++ R)) S hK hN hA hP hD hS (c_X7_of l D cI cC cS R a0 mnow mhistory mkept mslot misFilled mgame mmeasures mmost mnumbers mround mtyped mtext mat mnumber mreads mbeyond v_mjudgedTo_L1 mreach mgoes v_l2_L1 3 _ hq12) gX7_judges_X7_of rfl hd_X7_of ⟨by decide, by decide⟩ (List.Perm.refl _) (List.Perm.refl _) (ci := 7) (q := (RX7, TX7, 19)) rfl rfl rfl rfl hl.1 rfl (Nat.le_of_ble_eq_true rfl) dX7_judges_43 ⟨Nat.zero_le _, Nat.zero_le _⟩ (fun H locs hP hD hS => ?_)
            refine lv_ishl hx hb dX7_judges_46 ?_
            refine lv_goto (tgt := 56) hx hb dX7_judges_47 (by decide) ?_
            obtain ⟨g13, hf⟩ := vg_some hf
            refine va_iast hx hb hK hP hD hS 9 0 rfl rfl g13 dX7_judges_56 (fun H locs hP hD hS => ?_)
            have hP : va_P D vwCl ((w_M a0 cI cC mnow mhistory mkept mslot misFilled mgame mmeasures mmost mnumbers mround mtyped mtext mat mnumber mreads mbeyond (upd v_mjudgedTo_L1 (v_l2_L1).toNatClampNeg (jshl 1 q12)) mreach mgoes) ++ R) H := hP
            have hD : va_D A ((w_M a0 cI cC mnow mhistory mkept mslot misFilled mgame mmeasures mmost mnumbers mround mtyped mtext mat mnumber mreads mbeyond (upd v_mjudgedTo_L1 (v_l2_L1).toNatClampNeg (jshl 1 q12)) mreach mgoes) ++ R) := hD
            refine lv_iinc (v := (v_l2_L1 + 1)) (lv' := [(2, .int (v_l2_L1 + 1)), (0, .ref (a0 0)), (1, .int p1)]) hx hb dX7_judges_57 hl (k := 2) rfl (congrArg (fun z => v_l2_L1 + z) (by decide)) (by decide) rfl (fun ls hl => ?_)
            refine lv_goto (tgt := 2) hx hb dX7_judges_60 (by decide) ?_
            exact ih (v_l2_L1 + 1) (upd v_mjudgedTo_L1 (v_l2_L1).toNatClampNeg (jshl 1 q12)) _ hf _ _ hP hD hS _ (lv_sub hl [1, 2, 0] rfl) kx
  refine L1 n 0 mjudgedTo q2 hq2 _ _ hP hD hS _ (lv_sub hl [1, 2, 0] rfl) ?_
  clear hP hD hS hl
  intro H locs hP hD hS ls hl
  have hf := Option.some.inj hf
  subst hf
  exact hret _ _ _ _ dX7_judges_63 hP hD hS
def f_X7_reaches_L13 (d_mnow : (Nat → Int32)) (d_l1 : Int32) (d_l2 : Int32) : Nat → Int32 → Int32 → Option Int32
  | 0, _, _ => none
  | k + 1, d_l3, d_l4 => (if d_l2 ≤ d_l4 then some (d_l3) else (f_X7_of d_mnow d_l4 1).bind fun q2 => (if q2 < d_l1 then f_X7_reaches_L13 d_mnow d_l1 d_l2 k (d_l3 ||| 0) (d_l4 + 1) else f_X7_reaches_L13 d_mnow d_l1 d_l2 k (d_l3 ||| (jshl 1 d_l4)) (d_l4 + 1)))
def f_X7_reaches_L50 (d_mjudgedTo : (Nat → Int32)) (d_l2 : Int32) (d_l3 : Int32) : Nat → Int32 → (Nat → Int32) → Option (Nat → Int32)
  | 0, _, _ => none
  | k + 1, d_l4, d_mreach => (if d_l2 ≤ d_l4 then some (d_mreach) else (if ((jshr d_l3 d_l4) &&& 1) = 1 then vg d_l4 14 (f_X7_reaches_L50 d_mjudgedTo d_l2 d_l3 k (d_l4 + 1) (upd d_mreach (d_l4).toNatClampNeg ((d_mjudgedTo (d_l4).toNatClampNeg) &&& d_l3))) else vg d_l4 14 (f_X7_reaches_L50 d_mjudgedTo d_l2 d_l3 k (d_l4 + 1) (upd d_mreach (d_l4).toNatClampNeg 0))))
def f_X7_reaches_L104 (d_l2 : Int32) (d_l4 : Int32) : Nat → Int32 → (Nat → Int32) → Option (Nat → Int32)
  | 0, _, _ => none
  | k + 1, d_l5, d_mreach => (if d_l2 ≤ d_l5 then some (d_mreach) else vg d_l5 14 ((if ((jshr (d_mreach (d_l5).toNatClampNeg) d_l4) &&& 1) = 1 then vg d_l4 14 (f_X7_reaches_L104 d_l2 d_l4 k (d_l5 + 1) (upd d_mreach (d_l5).toNatClampNeg ((d_mreach (d_l5).toNatClampNeg) ||| (d_mreach (d_l4).toNatClampNeg)))) else f_X7_reaches_L104 d_l2 d_l4 k (d_l5 + 1) (upd d_mreach (d_l5).toNatClampNeg ((d_mreach (d_l5).toNatClampNeg) ||| 0)))))
def f_X7_reaches_L95 (n : Nat) (d_l2 : Int32) : Nat → Int32 → (Nat → Int32) → Option (Nat → Int32)
  | 0, _, _ => none
  | k + 1, d_l4, d_mreach => (if d_l2 ≤ d_l4 then some (d_mreach) else (f_X7_reaches_L104 d_l2 d_l4 n 0 d_mreach).bind fun q14 => f_X7_reaches_L95 n d_l2 k (d_l4 + 1) q14)
def f_X7_reaches (n : Nat) (mnow : (Nat → Int32)) (mjudgedTo : (Nat → Int32)) (mreach : (Nat → Int32)) (p1 : Int32) : Option (Nat → Int32) := (f_X7_reaches_L13 mnow p1 (mnow 56) n 0 0).bind fun q2 => (f_X7_reaches_L50 mjudgedTo (mnow 56) q2 n 0 mreach).bind fun q7 => (f_X7_reaches_L95 n (mnow 56) n 0 q7).bind fun q13 => some (q13)
theorem inw_X7_reaches_7 : ∀ w ∈ wsX70, w ∈ wsX7_reaches := fun _ h => List.mem_cons_of_mem _ (List.mem_append_right _ h)
theorem hd_X7_reaches : yX7_reaches.cls = RX7 ∧ yX7_reaches.cls ≠ "java/lang/invoke/MethodHandle" ∧ yX7_reaches.cls ≠ "java/lang/invoke/VarHandle" ∧ (parseMethodDescriptor yX7_reaches.desc).map (fun d => d.parameters.length) = some 1 := by decide +kernel
set_option maxHeartbeats 4000000 in
set_option maxRecDepth 100000 in
theorem c_X7_reaches (l : Launch) (D : va_G) (cI cC cS : ClassId) (R : va_W) (a0 : Nat → Nat) (mnow : (Nat → Int32)) (mhistory : (Nat → Int32)) (mkept : Int32) (mslot : (Nat → Int32)) (misFilled : Int32) (mgame : Int32) (mmeasures : (Nat → Int32)) (mmost : (Nat → Int32)) (mnumbers : (Nat → Int32)) (mround : Int32) (mtyped : Int32) (mtext : (Nat → Int32)) (mat : Int32) (mnumber : Int32) (mreads : (Nat → Int32)) (mbeyond : Int32) (mjudgedTo : (Nat → Int32)) (mreach : (Nat → Int32)) (mgoes : (Nat → Int32)) (p1 : Int32) (n : Nat) (r : (Nat → Int32)) (hf : f_X7_reaches n mnow mjudgedTo mreach p1 = some r) : CV l yX7_reaches wsX7_reaches 1 22 D cI cC cS [.ref (a0 0), .int p1] ((w_M a0 cI cC mnow mhistory mkept mslot misFilled mgame mmeasures mmost mnumbers mround mtyped mtext mat mnumber mreads mbeyond mjudgedTo mreach mgoes) ++ R) ((w_M a0 cI cC mnow mhistory mkept mslot misFilled mgame mmeasures mmost mnumbers mround mtyped mtext mat mnumber mreads mbeyond mjudgedTo r mgoes) ++ R) := by
  refine XV.of (cc := cX7_reaches) (maxL := 6) (own := RX7) (by decide) rfl rfl (Nat.le_of_ble_eq_true rfl) ?_
  intro p e s m args below meth c A Q S hK hN hA hP hD hS ls hl hret
  obtain ⟨hx, hb, hml, hown, hts⟩ := id S
  have hl : lv_has ls 6 [(0, .ref (a0 0)), (1, .int p1)] := hl
  unfold f_X7_reaches at hf
  refine lv_aload_n hx hb dX7_reaches_0 rfl (lv_at hl 0 rfl) ?_
  refine va_get (D := D) (ci := 7) (v := .ref (a0 1)) (C := RX7) (T := TX7) (N := 19) hx hb hts inw_X7_reaches_7 hown hK hP 0 rfl rfl 0 (by decide) (hts (.fieldLink RX7 7 "RingGamesModel" "now" "[I") (List.mem_of_getElem? (i := 1) rfl)) (fun _ h9 => h9) rfl dX7_reaches_1 ?_
  refine lv_bipush (v := 56) hx hb dX7_reaches_4 (by decide) ?_
  refine va_iald hx hb hK hP 1 0 rfl rfl (x_in (by decide)) dX7_reaches_6 ?_
  refine lv_istore_n (lv' := [(2, .int (mnow 56)), (0, .ref (a0 0)), (1, .int p1)]) hx hb dX7_reaches_7 rfl hl (by decide) rfl (fun ls hl => ?_)
  refine lv_iconst (v := 0) hx hb dX7_reaches_8 (by decide) ?_
  refine lv_istore_n (lv' := [(3, .int 0), (2, .int (mnow 56)), (0, .ref (a0 0)), (1, .int p1)]) hx hb dX7_reaches_9 rfl hl (by decide) rfl (fun ls hl => ?_)
  refine lv_iconst (v := 0) hx hb dX7_reaches_10 (by decide) ?_
  refine lv_istore (lv' := [(4, .int 0), (3, .int 0), (2, .int (mnow 56)), (0, .ref (a0 0)), (1, .int p1)]) hx hb dX7_reaches_11 hl (by decide) rfl (fun ls hl => ?_)
  obtain ⟨q2, hq2, hf⟩ := ob_some hf
  have L1 : ∀ (k : Nat) (v_l3_L1 : Int32) (v_l4_L1 : Int32) (q_L1 : Int32), f_X7_reaches_L13 mnow p1 (mnow 56) k v_l3_L1 v_l4_L1 = some q_L1 → ∀ (H : Heap) (locs : List Loc), va_P D vwCl ((w_M a0 cI cC mnow mhistory mkept mslot misFilled mgame mmeasures mmost mnumbers mround mtyped mtext mat mnumber mreads mbeyond mjudgedTo mreach mgoes) ++ R) H → va_D A ((w_M a0 cI cC mnow mhistory mkept mslot misFilled mgame mmeasures mmost mnumbers mround mtyped mtext mat mnumber mreads mbeyond mjudgedTo mreach mgoes) ++ R) → va_S A s.heap H locs → ∀ ls : Array Slot, lv_has ls 6 [(0, .ref (a0 0)), (1, .int p1), (2, .int (mnow 56)), (3, .int v_l3_L1), (4, .int v_l4_L1)] → (∀ (H : Heap) (locs : List Loc), va_P D vwCl ((w_M a0 cI cC mnow mhistory mkept mslot misFilled mgame mmeasures mmost mnumbers mround mtyped mtext mat mnumber mreads mbeyond mjudgedTo mreach mgoes) ++ R) H → va_D A ((w_M a0 cI cC mnow mhistory mkept mslot misFilled mgame mmeasures mmost mnumbers mround mtyped mtext mat mnumber mreads mbeyond mjudgedTo mreach mgoes) ++ R) → va_S A s.heap H locs → ∀ ls : Array Slot, lv_has ls 6 [(0, .ref (a0 0)), (2, .int (mnow 56)), (3, .int q_L1)] → W p l e (xR 1 22) s m args below meth c H locs 0 0 Q (F0 m 47 ls [])) → W p l e (xR 1 22) s m args below meth c H locs 0 0 Q (F0 m 13 ls []) := by
    intro k
    induction k with
    | zero => intro v_l3_L1 v_l4_L1 q_L1 hf; simp [f_X7_reaches_L13] at hf
    | succ k ih =>
      intro v_l3_L1 v_l4_L1 q_L1 hf H locs hP hD hS ls hl kx
      rw [f_X7_reaches_L13] at hf
      refine lv_iload hx hb dX7_reaches_13 (lv_at hl 4 rfl) ?_
      refine lv_iload_n hx hb dX7_reaches_15 rfl (lv_at hl 2 rfl) ?_
      refine lv_icmp_ge (tgt := 47) hx hb dX7_reaches_16 (by decide) (fun c3 => ?_) (fun c3 => ?_)
      · have hf := if_t hf c3
        have hf := Option.some.inj hf
        subst hf
        exact kx _ _ hP hD hS _ (lv_sub hl [0, 2, 3] rfl)
      · have hf := if_f hf c3
        refine lv_iload_n hx hb dX7_reaches_19 rfl (lv_at hl 3 rfl) ?_
        refine lv_aload_n hx hb dX7_reaches_20 rfl (lv_at hl 0 rfl) ?_
        refine lv_iload hx hb dX7_reaches_21 (lv_at hl 4 rfl) ?_
        refine lv_iconst (v := 1) hx hb dX7_reaches_23 (by decide) ?_
        obtain ⟨q4, hq4, hf⟩ := ob_some hf
        refine xcVi (w' := ((w_M a0 cI cC mnow mhistory mkept mslot misFilled mgame mmeasures mmost mnumbers mround mtyped mtext mat mnumber mreads mbeyond mjudgedTo mreach mgoes) ++ R)) S hK hN hA hP hD hS (c_X7_of l D cI cC cS R a0 mnow mhistory mkept mslot misFilled mgame mmeasures mmost mnumbers mround mtyped mtext mat mnumber mreads mbeyond mjudgedTo mreach mgoes v_l4_L1 1 _ hq4) gX7_reaches_X7_of rfl hd_X7_of ⟨by decide, by decide⟩ (List.Perm.refl _) (List.Perm.refl _) (ci := 7) (q := (RX7, TX7, 19)) rfl rfl rfl rfl hl.1 rfl (Nat.le_of_ble_eq_true rfl) dX7_reaches_24 ⟨Nat.zero_le _, Nat.zero_le _⟩ (fun H locs hP hD hS => ?_)
        refine lv_iload_n hx hb dX7_reaches_27 rfl (lv_at hl 1 rfl) ?_
        refine lv_icmp_lt (tgt := 38) hx hb dX7_reaches_28 (by decide) (fun c5 => ?_) (fun c5 => ?_)
        · have hf := if_t hf c5
          refine lv_iconst (v := 0) hx hb dX7_reaches_38 (by decide) ?_
          refine lv_ior hx hb dX7_reaches_39 ?_
          refine lv_istore_n (lv' := [(3, .int (v_l3_L1 ||| 0)), (0, .ref (a0 0)), (1, .int p1), (2, .int (mnow 56)), (4, .int v_l4_L1)]) hx hb dX7_reaches_40 rfl hl (by decide) rfl (fun ls hl => ?_)
          refine lv_iinc (v := (v_l4_L1 + 1)) (lv' := [(4, .int (v_l4_L1 + 1)), (3, .int (v_l3_L1 ||| 0)), (0, .ref (a0 0)), (1, .int p1), (2, .int (mnow 56))]) hx hb dX7_reaches_41 hl (k := 4) rfl (congrArg (fun z => v_l4_L1 + z) (by decide)) (by decide) rfl (fun ls hl => ?_)
          refine lv_goto (tgt := 13) hx hb dX7_reaches_44 (by decide) ?_
          exact ih (v_l3_L1 ||| 0) (v_l4_L1 + 1) _ hf _ _ hP hD hS _ (lv_sub hl [2, 3, 4, 1, 0] rfl) kx
        · have hf := if_f hf c5
          refine lv_iconst (v := 1) hx hb dX7_reaches_31 (by decide) ?_
          refine lv_iload hx hb dX7_reaches_32 (lv_at hl 4 rfl) ?_
          refine lv_ishl hx hb dX7_reaches_34 ?_
          refine lv_goto (tgt := 39) hx hb dX7_reaches_35 (by decide) ?_
          refine lv_ior hx hb dX7_reaches_39 ?_
          refine lv_istore_n (lv' := [(3, .int (v_l3_L1 ||| (jshl 1 v_l4_L1))), (0, .ref (a0 0)), (1, .int p1), (2, .int (mnow 56)), (4, .int v_l4_L1)]) hx hb dX7_reaches_40 rfl hl (by decide) rfl (fun ls hl => ?_)
          refine lv_iinc (v := (v_l4_L1 + 1)) (lv' := [(4, .int (v_l4_L1 + 1)), (3, .int (v_l3_L1 ||| (jshl 1 v_l4_L1))), (0, .ref (a0 0)), (1, .int p1), (2, .int (mnow 56))]) hx hb dX7_reaches_41 hl (k := 4) rfl (congrArg (fun z => v_l4_L1 + z) (by decide)) (by decide) rfl (fun ls hl => ?_)
          refine lv_goto (tgt := 13) hx hb dX7_reaches_44 (by decide) ?_
          exact ih (v_l3_L1 ||| (jshl 1 v_l4_L1)) (v_l4_L1 + 1) _ hf _ _ hP hD hS _ (lv_sub hl [2, 3, 4, 1, 0] rfl) kx
  refine L1 n 0 0 q2 hq2 _ _ hP hD hS _ (lv_sub hl [3, 4, 2, 1, 0] rfl) ?_
  clear hP hD hS hl
  intro H locs hP hD hS ls hl
  refine lv_iconst (v := 0) hx hb dX7_reaches_47 (by decide) ?_
  refine lv_istore (lv' := [(4, .int 0), (0, .ref (a0 0)), (2, .int (mnow 56)), (3, .int q2)]) hx hb dX7_reaches_48 hl (by decide) rfl (fun ls hl => ?_)
  obtain ⟨q7, hq7, hf⟩ := ob_some hf
  have L6 : ∀ (k : Nat) (v_l4_L6 : Int32) (v_mreach_L6 : (Nat → Int32)) (q_L6 : (Nat → Int32)), f_X7_reaches_L50 mjudgedTo (mnow 56) q2 k v_l4_L6 v_mreach_L6 = some q_L6 → ∀ (H : Heap) (locs : List Loc), va_P D vwCl ((w_M a0 cI cC mnow mhistory mkept mslot misFilled mgame mmeasures mmost mnumbers mround mtyped mtext mat mnumber mreads mbeyond mjudgedTo v_mreach_L6 mgoes) ++ R) H → va_D A ((w_M a0 cI cC mnow mhistory mkept mslot misFilled mgame mmeasures mmost mnumbers mround mtyped mtext mat mnumber mreads mbeyond mjudgedTo v_mreach_L6 mgoes) ++ R) → va_S A s.heap H locs → ∀ ls : Array Slot, lv_has ls 6 [(0, .ref (a0 0)), (2, .int (mnow 56)), (3, .int q2), (4, .int v_l4_L6)] → (∀ (H : Heap) (locs : List Loc), va_P D vwCl ((w_M a0 cI cC mnow mhistory mkept mslot misFilled mgame mmeasures mmost mnumbers mround mtyped mtext mat mnumber mreads mbeyond mjudgedTo q_L6 mgoes) ++ R) H → va_D A ((w_M a0 cI cC mnow mhistory mkept mslot misFilled mgame mmeasures mmost mnumbers mround mtyped mtext mat mnumber mreads mbeyond mjudgedTo q_L6 mgoes) ++ R) → va_S A s.heap H locs → ∀ ls : Array Slot, lv_has ls 6 [(0, .ref (a0 0)), (2, .int (mnow 56))] → W p l e (xR 1 22) s m args below meth c H locs 0 0 Q (F0 m 92 ls [])) → W p l e (xR 1 22) s m args below meth c H locs 0 0 Q (F0 m 50 ls []) := by
    intro k
    induction k with
    | zero => intro v_l4_L6 v_mreach_L6 q_L6 hf; simp [f_X7_reaches_L50] at hf
    | succ k ih =>
      intro v_l4_L6 v_mreach_L6 q_L6 hf H locs hP hD hS ls hl kx
      rw [f_X7_reaches_L50] at hf
      refine lv_iload hx hb dX7_reaches_50 (lv_at hl 3 rfl) ?_
      refine lv_iload_n hx hb dX7_reaches_52 rfl (lv_at hl 1 rfl) ?_
      refine lv_icmp_ge (tgt := 92) hx hb dX7_reaches_53 (by decide) (fun c8 => ?_) (fun c8 => ?_)
      · have hf := if_t hf c8
        have hf := Option.some.inj hf
        subst hf
        exact kx _ _ hP hD hS _ (lv_sub hl [0, 1] rfl)
      · have hf := if_f hf c8
        refine lv_aload_n hx hb dX7_reaches_56 rfl (lv_at hl 0 rfl) ?_
        refine va_get (D := D) (ci := 7) (v := .ref (a0 10)) (C := RX7) (T := TX7) (N := 19) hx hb hts inw_X7_reaches_7 hown hK hP 0 rfl rfl 17 (by decide) (hts (.fieldLink RX7 38 "RingGamesModel" "reach" "[I") (List.mem_of_getElem? (i := 2) rfl)) (fun _ h9 => h9) rfl dX7_reaches_57 ?_
        refine lv_iload hx hb dX7_reaches_60 (lv_at hl 3 rfl) ?_
        refine lv_iload_n hx hb dX7_reaches_62 rfl (lv_at hl 2 rfl) ?_
        refine lv_iload hx hb dX7_reaches_63 (lv_at hl 3 rfl) ?_
        refine lv_ishr hx hb dX7_reaches_65 ?_
        refine lv_iconst (v := 1) hx hb dX7_reaches_66 (by decide) ?_
        refine lv_iand hx hb dX7_reaches_67 ?_
        refine lv_iconst (v := 1) hx hb dX7_reaches_68 (by decide) ?_
        refine lv_icmp_ne (tgt := 84) hx hb dX7_reaches_69 (by decide) (fun c9 => ?_) (fun c9 => ?_)
        · have hf := if_f hf c9
          refine lv_iconst (v := 0) hx hb dX7_reaches_84 (by decide) ?_
          obtain ⟨g10, hf⟩ := vg_some hf
          refine va_iast hx hb hK hP hD hS 10 0 rfl rfl g10 dX7_reaches_85 (fun H locs hP hD hS => ?_)
          have hP : va_P D vwCl ((w_M a0 cI cC mnow mhistory mkept mslot misFilled mgame mmeasures mmost mnumbers mround mtyped mtext mat mnumber mreads mbeyond mjudgedTo (upd v_mreach_L6 (v_l4_L6).toNatClampNeg 0) mgoes) ++ R) H := hP
          have hD : va_D A ((w_M a0 cI cC mnow mhistory mkept mslot misFilled mgame mmeasures mmost mnumbers mround mtyped mtext mat mnumber mreads mbeyond mjudgedTo (upd v_mreach_L6 (v_l4_L6).toNatClampNeg 0) mgoes) ++ R) := hD
          refine lv_iinc (v := (v_l4_L6 + 1)) (lv' := [(4, .int (v_l4_L6 + 1)), (0, .ref (a0 0)), (2, .int (mnow 56)), (3, .int q2)]) hx hb dX7_reaches_86 hl (k := 3) rfl (congrArg (fun z => v_l4_L6 + z) (by decide)) (by decide) rfl (fun ls hl => ?_)
          refine lv_goto (tgt := 50) hx hb dX7_reaches_89 (by decide) ?_
          exact ih (v_l4_L6 + 1) (upd v_mreach_L6 (v_l4_L6).toNatClampNeg 0) _ hf _ _ hP hD hS _ (lv_sub hl [1, 2, 3, 0] rfl) kx
        · have hf := if_t hf c9
          refine lv_aload_n hx hb dX7_reaches_72 rfl (lv_at hl 0 rfl) ?_
          refine va_get (D := D) (ci := 7) (v := .ref (a0 9)) (C := RX7) (T := TX7) (N := 19) hx hb hts inw_X7_reaches_7 hown hK hP 0 rfl rfl 16 (by decide) (hts (.fieldLink RX7 35 "RingGamesModel" "judgedTo" "[I") (List.mem_of_getElem? (i := 3) rfl)) (fun _ h9 => h9) rfl dX7_reaches_73 ?_
          refine lv_iload hx hb dX7_reaches_76 (lv_at hl 3 rfl) ?_
          obtain ⟨g11, hf⟩ := vg_some hf
          refine va_iald hx hb hK hP 9 0 rfl rfl g11 dX7_reaches_78 ?_
          refine lv_iload_n hx hb dX7_reaches_79 rfl (lv_at hl 2 rfl) ?_
          refine lv_iand hx hb dX7_reaches_80 ?_
          refine lv_goto (tgt := 85) hx hb dX7_reaches_81 (by decide) ?_
          refine va_iast hx hb hK hP hD hS 10 0 rfl rfl g11 dX7_reaches_85 (fun H locs hP hD hS => ?_)
          have hP : va_P D vwCl ((w_M a0 cI cC mnow mhistory mkept mslot misFilled mgame mmeasures mmost mnumbers mround mtyped mtext mat mnumber mreads mbeyond mjudgedTo (upd v_mreach_L6 (v_l4_L6).toNatClampNeg ((mjudgedTo (v_l4_L6).toNatClampNeg) &&& q2)) mgoes) ++ R) H := hP
          have hD : va_D A ((w_M a0 cI cC mnow mhistory mkept mslot misFilled mgame mmeasures mmost mnumbers mround mtyped mtext mat mnumber mreads mbeyond mjudgedTo (upd v_mreach_L6 (v_l4_L6).toNatClampNeg ((mjudgedTo (v_l4_L6).toNatClampNeg) &&& q2)) mgoes) ++ R) := hD
          refine lv_iinc (v := (v_l4_L6 + 1)) (lv' := [(4, .int (v_l4_L6 + 1)), (0, .ref (a0 0)), (2, .int (mnow 56)), (3, .int q2)]) hx hb dX7_reaches_86 hl (k := 3) rfl (congrArg (fun z => v_l4_L6 + z) (by decide)) (by decide) rfl (fun ls hl => ?_)
          refine lv_goto (tgt := 50) hx hb dX7_reaches_89 (by decide) ?_
          exact ih (v_l4_L6 + 1) (upd v_mreach_L6 (v_l4_L6).toNatClampNeg ((mjudgedTo (v_l4_L6).toNatClampNeg) &&& q2)) _ hf _ _ hP hD hS _ (lv_sub hl [1, 2, 3, 0] rfl) kx
  refine L6 n 0 mreach q7 hq7 _ _ hP hD hS _ (lv_sub hl [1, 2, 3, 0] rfl) ?_
  clear hP hD hS hl
  intro H locs hP hD hS ls hl
  refine lv_iconst (v := 0) hx hb dX7_reaches_92 (by decide) ?_
  refine lv_istore (lv' := [(4, .int 0), (0, .ref (a0 0)), (2, .int (mnow 56))]) hx hb dX7_reaches_93 hl (by decide) rfl (fun ls hl => ?_)
  obtain ⟨q13, hq13, hf⟩ := ob_some hf
  have L12 : ∀ (k : Nat) (v_l4_L12 : Int32) (v_mreach_L12 : (Nat → Int32)) (q_L12 : (Nat → Int32)), f_X7_reaches_L95 n (mnow 56) k v_l4_L12 v_mreach_L12 = some q_L12 → ∀ (H : Heap) (locs : List Loc), va_P D vwCl ((w_M a0 cI cC mnow mhistory mkept mslot misFilled mgame mmeasures mmost mnumbers mround mtyped mtext mat mnumber mreads mbeyond mjudgedTo v_mreach_L12 mgoes) ++ R) H → va_D A ((w_M a0 cI cC mnow mhistory mkept mslot misFilled mgame mmeasures mmost mnumbers mround mtyped mtext mat mnumber mreads mbeyond mjudgedTo v_mreach_L12 mgoes) ++ R) → va_S A s.heap H locs → ∀ ls : Array Slot, lv_has ls 6 [(0, .ref (a0 0)), (2, .int (mnow 56)), (4, .int v_l4_L12)] → (∀ (H : Heap) (locs : List Loc), va_P D vwCl ((w_M a0 cI cC mnow mhistory mkept mslot misFilled mgame mmeasures mmost mnumbers mround mtyped mtext mat mnumber mreads mbeyond mjudgedTo q_L12 mgoes) ++ R) H → va_D A ((w_M a0 cI cC mnow mhistory mkept mslot misFilled mgame mmeasures mmost mnumbers mround mtyped mtext mat mnumber mreads mbeyond mjudgedTo q_L12 mgoes) ++ R) → va_S A s.heap H locs → ∀ ls : Array Slot, lv_has ls 6 [] → W p l e (xR 1 22) s m args below meth c H locs 0 0 Q (F0 m 159 ls [])) → W p l e (xR 1 22) s m args below meth c H locs 0 0 Q (F0 m 95 ls []) := by
    intro k
    induction k with
    | zero => intro v_l4_L12 v_mreach_L12 q_L12 hf; simp [f_X7_reaches_L95] at hf
    | succ k ih =>
      intro v_l4_L12 v_mreach_L12 q_L12 hf H locs hP hD hS ls hl kx
      rw [f_X7_reaches_L95] at hf
      refine lv_iload hx hb dX7_reaches_95 (lv_at hl 2 rfl) ?_
      refine lv_iload_n hx hb dX7_reaches_97 rfl (lv_at hl 1 rfl) ?_
      refine lv_icmp_ge (tgt := 159) hx hb dX7_reaches_98 (by decide) (fun c14 => ?_) (fun c14 => ?_)
      · have hf := if_t hf c14
        have hf := Option.some.inj hf
        subst hf
        exact kx _ _ hP hD hS _ (lv_sub hl [] rfl)
      · have hf := if_f hf c14
        refine lv_iconst (v := 0) hx hb dX7_reaches_101 (by decide) ?_
        refine lv_istore (lv' := [(5, .int 0), (0, .ref (a0 0)), (2, .int (mnow 56)), (4, .int v_l4_L12)]) hx hb dX7_reaches_102 hl (by decide) rfl (fun ls hl => ?_)
        obtain ⟨q16, hq16, hf⟩ := ob_some hf
        have L15 : ∀ (k : Nat) (v_l5_L15 : Int32) (v_mreach_L15 : (Nat → Int32)) (q_L15 : (Nat → Int32)), f_X7_reaches_L104 (mnow 56) v_l4_L12 k v_l5_L15 v_mreach_L15 = some q_L15 → ∀ (H : Heap) (locs : List Loc), va_P D vwCl ((w_M a0 cI cC mnow mhistory mkept mslot misFilled mgame mmeasures mmost mnumbers mround mtyped mtext mat mnumber mreads mbeyond mjudgedTo v_mreach_L15 mgoes) ++ R) H → va_D A ((w_M a0 cI cC mnow mhistory mkept mslot misFilled mgame mmeasures mmost mnumbers mround mtyped mtext mat mnumber mreads mbeyond mjudgedTo v_mreach_L15 mgoes) ++ R) → va_S A s.heap H locs → ∀ ls : Array Slot, lv_has ls 6 [(0, .ref (a0 0)), (2, .int (mnow 56)), (4, .int v_l4_L12), (5, .int v_l5_L15)] → (∀ (H : Heap) (locs : List Loc), va_P D vwCl ((w_M a0 cI cC mnow mhistory mkept mslot misFilled mgame mmeasures mmost mnumbers mround mtyped mtext mat mnumber mreads mbeyond mjudgedTo q_L15 mgoes) ++ R) H → va_D A ((w_M a0 cI cC mnow mhistory mkept mslot misFilled mgame mmeasures mmost mnumbers mround mtyped mtext mat mnumber mreads mbeyond mjudgedTo q_L15 mgoes) ++ R) → va_S A s.heap H locs → ∀ ls : Array Slot, lv_has ls 6 [(0, .ref (a0 0)), (2, .int (mnow 56)), (4, .int v_l4_L12)] → W p l e (xR 1 22) s m args below meth c H locs 0 0 Q (F0 m 153 ls [])) → W p l e (xR 1 22) s m args below meth c H locs 0 0 Q (F0 m 104 ls []) := by
          intro k
          induction k with
          | zero => intro v_l5_L15 v_mreach_L15 q_L15 hf; simp [f_X7_reaches_L104] at hf
          | succ k ih =>
            intro v_l5_L15 v_mreach_L15 q_L15 hf H locs hP hD hS ls hl kx
            rw [f_X7_reaches_L104] at hf
            refine lv_iload hx hb dX7_reaches_104 (lv_at hl 3 rfl) ?_
            refine lv_iload_n hx hb dX7_reaches_106 rfl (lv_at hl 1 rfl) ?_
            refine lv_icmp_ge (tgt := 153) hx hb dX7_reaches_107 (by decide) (fun c17 => ?_) (fun c17 => ?_)
            · have hf := if_t hf c17
              have hf := Option.some.inj hf
              subst hf
              exact kx _ _ hP hD hS _ (lv_sub hl [0, 1, 2] rfl)
            · have hf := if_f hf c17
              refine lv_aload_n hx hb dX7_reaches_110 rfl (lv_at hl 0 rfl) ?_
              refine va_get (D := D) (ci := 7) (v := .ref (a0 10)) (C := RX7) (T := TX7) (N := 19) hx hb hts inw_X7_reaches_7 hown hK hP 0 rfl rfl 17 (by decide) (hts (.fieldLink RX7 38 "RingGamesModel" "reach" "[I") (List.mem_of_getElem? (i := 2) rfl)) (fun _ h9 => h9) rfl dX7_reaches_111 ?_
              refine lv_iload hx hb dX7_reaches_114 (lv_at hl 3 rfl) ?_
              refine lv_dup2_11 hx hb dX7_reaches_116 rfl rfl ?_
              obtain ⟨g18, hf⟩ := vg_some hf
              refine va_iald hx hb hK hP 10 0 rfl rfl g18 dX7_reaches_117 ?_
              refine lv_aload_n hx hb dX7_reaches_118 rfl (lv_at hl 0 rfl) ?_
              refine va_get (D := D) (ci := 7) (v := .ref (a0 10)) (C := RX7) (T := TX7) (N := 19) hx hb hts inw_X7_reaches_7 hown hK hP 0 rfl rfl 17 (by decide) (hts (.fieldLink RX7 38 "RingGamesModel" "reach" "[I") (List.mem_of_getElem? (i := 2) rfl)) (fun _ h9 => h9) rfl dX7_reaches_119 ?_
              refine lv_iload hx hb dX7_reaches_122 (lv_at hl 3 rfl) ?_
              refine va_iald hx hb hK hP 10 0 rfl rfl g18 dX7_reaches_124 ?_
              refine lv_iload hx hb dX7_reaches_125 (lv_at hl 2 rfl) ?_
              refine lv_ishr hx hb dX7_reaches_127 ?_
              refine lv_iconst (v := 1) hx hb dX7_reaches_128 (by decide) ?_
              refine lv_iand hx hb dX7_reaches_129 ?_
              refine lv_iconst (v := 1) hx hb dX7_reaches_130 (by decide) ?_
              refine lv_icmp_ne (tgt := 144) hx hb dX7_reaches_131 (by decide) (fun c19 => ?_) (fun c19 => ?_)
              · have hf := if_f hf c19
                refine lv_iconst (v := 0) hx hb dX7_reaches_144 (by decide) ?_
                refine lv_ior hx hb dX7_reaches_145 ?_
                refine va_iast hx hb hK hP hD hS 10 0 rfl rfl g18 dX7_reaches_146 (fun H locs hP hD hS => ?_)
                have hP : va_P D vwCl ((w_M a0 cI cC mnow mhistory mkept mslot misFilled mgame mmeasures mmost mnumbers mround mtyped mtext mat mnumber mreads mbeyond mjudgedTo (upd v_mreach_L15 (v_l5_L15).toNatClampNeg ((v_mreach_L15 (v_l5_L15).toNatClampNeg) ||| 0)) mgoes) ++ R) H := hP
                have hD : va_D A ((w_M a0 cI cC mnow mhistory mkept mslot misFilled mgame mmeasures mmost mnumbers mround mtyped mtext mat mnumber mreads mbeyond mjudgedTo (upd v_mreach_L15 (v_l5_L15).toNatClampNeg ((v_mreach_L15 (v_l5_L15).toNatClampNeg) ||| 0)) mgoes) ++ R) := hD
                refine lv_iinc (v := (v_l5_L15 + 1)) (lv' := [(5, .int (v_l5_L15 + 1)), (0, .ref (a0 0)), (2, .int (mnow 56)), (4, .int v_l4_L12)]) hx hb dX7_reaches_147 hl (k := 3) rfl (congrArg (fun z => v_l5_L15 + z) (by decide)) (by decide) rfl (fun ls hl => ?_)
                refine lv_goto (tgt := 104) hx hb dX7_reaches_150 (by decide) ?_
                exact ih (v_l5_L15 + 1) (upd v_mreach_L15 (v_l5_L15).toNatClampNeg ((v_mreach_L15 (v_l5_L15).toNatClampNeg) ||| 0)) _ hf _ _ hP hD hS _ (lv_sub hl [1, 2, 3, 0] rfl) kx
              · have hf := if_t hf c19
                refine lv_aload_n hx hb dX7_reaches_134 rfl (lv_at hl 0 rfl) ?_
                refine va_get (D := D) (ci := 7) (v := .ref (a0 10)) (C := RX7) (T := TX7) (N := 19) hx hb hts inw_X7_reaches_7 hown hK hP 0 rfl rfl 17 (by decide) (hts (.fieldLink RX7 38 "RingGamesModel" "reach" "[I") (List.mem_of_getElem? (i := 2) rfl)) (fun _ h9 => h9) rfl dX7_reaches_135 ?_
                refine lv_iload hx hb dX7_reaches_138 (lv_at hl 2 rfl) ?_
                obtain ⟨g20, hf⟩ := vg_some hf
                refine va_iald hx hb hK hP 10 0 rfl rfl g20 dX7_reaches_140 ?_
                refine lv_goto (tgt := 145) hx hb dX7_reaches_141 (by decide) ?_
                refine lv_ior hx hb dX7_reaches_145 ?_
                refine va_iast hx hb hK hP hD hS 10 0 rfl rfl g18 dX7_reaches_146 (fun H locs hP hD hS => ?_)
                have hP : va_P D vwCl ((w_M a0 cI cC mnow mhistory mkept mslot misFilled mgame mmeasures mmost mnumbers mround mtyped mtext mat mnumber mreads mbeyond mjudgedTo (upd v_mreach_L15 (v_l5_L15).toNatClampNeg ((v_mreach_L15 (v_l5_L15).toNatClampNeg) ||| (v_mreach_L15 (v_l4_L12).toNatClampNeg))) mgoes) ++ R) H := hP
                have hD : va_D A ((w_M a0 cI cC mnow mhistory mkept mslot misFilled mgame mmeasures mmost mnumbers mround mtyped mtext mat mnumber mreads mbeyond mjudgedTo (upd v_mreach_L15 (v_l5_L15).toNatClampNeg ((v_mreach_L15 (v_l5_L15).toNatClampNeg) ||| (v_mreach_L15 (v_l4_L12).toNatClampNeg))) mgoes) ++ R) := hD
                refine lv_iinc (v := (v_l5_L15 + 1)) (lv' := [(5, .int (v_l5_L15 + 1)), (0, .ref (a0 0)), (2, .int (mnow 56)), (4, .int v_l4_L12)]) hx hb dX7_reaches_147 hl (k := 3) rfl (congrArg (fun z => v_l5_L15 + z) (by decide)) (by decide) rfl (fun ls hl => ?_)
                refine lv_goto (tgt := 104) hx hb dX7_reaches_150 (by decide) ?_
                exact ih (v_l5_L15 + 1) (upd v_mreach_L15 (v_l5_L15).toNatClampNeg ((v_mreach_L15 (v_l5_L15).toNatClampNeg) ||| (v_mreach_L15 (v_l4_L12).toNatClampNeg))) _ hf _ _ hP hD hS _ (lv_sub hl [1, 2, 3, 0] rfl) kx
        refine L15 n 0 v_mreach_L12 q16 hq16 _ _ hP hD hS _ (lv_sub hl [1, 2, 3, 0] rfl) ?_
        clear hP hD hS hl
        intro H locs hP hD hS ls hl
        refine lv_iinc (v := (v_l4_L12 + 1)) (lv' := [(4, .int (v_l4_L12 + 1)), (0, .ref (a0 0)), (2, .int (mnow 56))]) hx hb dX7_reaches_153 hl (k := 2) rfl (congrArg (fun z => v_l4_L12 + z) (by decide)) (by decide) rfl (fun ls hl => ?_)
        refine lv_goto (tgt := 95) hx hb dX7_reaches_156 (by decide) ?_
        exact ih (v_l4_L12 + 1) q16 _ hf _ _ hP hD hS _ (lv_sub hl [1, 2, 0] rfl) kx
  refine L12 n 0 q7 q13 hq13 _ _ hP hD hS _ (lv_sub hl [1, 2, 0] rfl) ?_
  clear hP hD hS hl
  intro H locs hP hD hS ls hl
  have hf := Option.some.inj hf
  subst hf
  exact hret _ _ _ _ dX7_reaches_159 hP hD hS
def f_X7_onRings_L23 (d_mnow : (Nat → Int32)) (d_mreach : (Nat → Int32)) (d_l1 : Int32) (d_l3 : Int32) : Nat → Int32 → Int32 → Option Int32
  | 0, _, _ => none
  | k + 1, d_l2, d_l4 => (if (d_mnow 56) ≤ d_l4 then some (d_l2) else vg d_l3 14 (((if ((jshr (d_mreach (d_l3).toNatClampNeg) d_l4) &&& 1) = 1 then vg d_l4 14 ((if ((jshr (d_mreach (d_l4).toNatClampNeg) d_l3) &&& 1) = 1 then some (1) else some (0))) else some (0)) : Option Int32).bind fun j6 => (if j6 = 0 then f_X7_onRings_L23 d_mnow d_mreach d_l1 d_l3 k (d_l2 ||| 0) (d_l4 + 1) else (f_X7_of d_mnow d_l4 1).bind fun q9 => (if q9 = d_l1 then f_X7_onRings_L23 d_mnow d_mreach d_l1 d_l3 k (d_l2 ||| (jshl 1 d_l3)) (d_l4 + 1) else f_X7_onRings_L23 d_mnow d_mreach d_l1 d_l3 k (d_l2 ||| 0) (d_l4 + 1)))))
def f_X7_onRings_L9 (n : Nat) (d_mnow : (Nat → Int32)) (d_mreach : (Nat → Int32)) (d_l1 : Int32) : Nat → Int32 → Int32 → Option Int32
  | 0, _, _ => none
  | k + 1, d_l2, d_l3 => (if (d_mnow 56) ≤ d_l3 then some (d_l2) else (f_X7_onRings_L23 d_mnow d_mreach d_l1 d_l3 n d_l2 0).bind fun q4 => f_X7_onRings_L9 n d_mnow d_mreach d_l1 k q4 (d_l3 + 1))
def f_X7_onRings (n : Nat) (mnow : (Nat → Int32)) (mjudgedTo : (Nat → Int32)) (mreach : (Nat → Int32)) (p1 : Int32) : Option (Int32 × (Nat → Int32)) := (f_X7_reaches n mnow mjudgedTo mreach p1).bind fun q1 => (f_X7_onRings_L9 n mnow q1 p1 n 0 0).bind fun q3 => some (q3, q1)
theorem inw_X7_onRings_7 : ∀ w ∈ wsX70, w ∈ wsX7_onRings := fun _ h => List.mem_cons_of_mem _ (List.mem_append_right _ h)
theorem hd_X7_onRings : yX7_onRings.cls = RX7 ∧ yX7_onRings.cls ≠ "java/lang/invoke/MethodHandle" ∧ yX7_onRings.cls ≠ "java/lang/invoke/VarHandle" ∧ (parseMethodDescriptor yX7_onRings.desc).map (fun d => d.parameters.length) = some 1 := by decide +kernel
set_option maxHeartbeats 4000000 in
set_option maxRecDepth 100000 in
theorem c_X7_onRings (l : Launch) (D : va_G) (cI cC cS : ClassId) (R : va_W) (a0 : Nat → Nat) (mnow : (Nat → Int32)) (mhistory : (Nat → Int32)) (mkept : Int32) (mslot : (Nat → Int32)) (misFilled : Int32) (mgame : Int32) (mmeasures : (Nat → Int32)) (mmost : (Nat → Int32)) (mnumbers : (Nat → Int32)) (mround : Int32) (mtyped : Int32) (mtext : (Nat → Int32)) (mat : Int32) (mnumber : Int32) (mreads : (Nat → Int32)) (mbeyond : Int32) (mjudgedTo : (Nat → Int32)) (mreach : (Nat → Int32)) (mgoes : (Nat → Int32)) (p1 : Int32) (n : Nat) (r : Int32 × (Nat → Int32)) (hf : f_X7_onRings n mnow mjudgedTo mreach p1 = some r) : CI l yX7_onRings wsX7_onRings 2 47 D cI cC cS [.ref (a0 0), .int p1] ((w_M a0 cI cC mnow mhistory mkept mslot misFilled mgame mmeasures mmost mnumbers mround mtyped mtext mat mnumber mreads mbeyond mjudgedTo mreach mgoes) ++ R) r.1 ((w_M a0 cI cC mnow mhistory mkept mslot misFilled mgame mmeasures mmost mnumbers mround mtyped mtext mat mnumber mreads mbeyond mjudgedTo r.2 mgoes) ++ R) := by
  refine XI.of (cc := cX7_onRings) (maxL := 6) (ty := .int) (own := RX7) (by decide) rfl rfl (Nat.le_of_ble_eq_true rfl) ?_
  intro p e s m args below meth c A Q S hK hN hA hP hD hS ls hl hret
  obtain ⟨hx, hb, hml, hown, hts⟩ := id S
  have hl : lv_has ls 6 [(0, .ref (a0 0)), (1, .int p1)] := hl
  unfold f_X7_onRings at hf
  refine lv_aload_n hx hb dX7_onRings_0 rfl (lv_at hl 0 rfl) ?_
  refine lv_iload_n hx hb dX7_onRings_1 rfl (lv_at hl 1 rfl) ?_
  obtain ⟨q1, hq1, hf⟩ := ob_some hf
  refine xcVv (w' := ((w_M a0 cI cC mnow mhistory mkept mslot misFilled mgame mmeasures mmost mnumbers mround mtyped mtext mat mnumber mreads mbeyond mjudgedTo q1 mgoes) ++ R)) S hK hN hA hP hD hS (c_X7_reaches l D cI cC cS R a0 mnow mhistory mkept mslot misFilled mgame mmeasures mmost mnumbers mround mtyped mtext mat mnumber mreads mbeyond mjudgedTo mreach mgoes p1 n _ hq1) gX7_onRings_X7_reaches rfl hd_X7_reaches ⟨by decide, by decide⟩ (List.Perm.refl _) (List.Perm.refl _) (ci := 7) (q := (RX7, TX7, 19)) rfl rfl rfl rfl hl.1 rfl (Nat.le_of_ble_eq_true rfl) dX7_onRings_2 ⟨Nat.zero_le _, Nat.zero_le _⟩ (fun H locs hP hD hS => ?_)
  refine lv_iconst (v := 0) hx hb dX7_onRings_5 (by decide) ?_
  refine lv_istore_n (lv' := [(2, .int 0), (0, .ref (a0 0)), (1, .int p1)]) hx hb dX7_onRings_6 rfl hl (by decide) rfl (fun ls hl => ?_)
  refine lv_iconst (v := 0) hx hb dX7_onRings_7 (by decide) ?_
  refine lv_istore_n (lv' := [(3, .int 0), (2, .int 0), (0, .ref (a0 0)), (1, .int p1)]) hx hb dX7_onRings_8 rfl hl (by decide) rfl (fun ls hl => ?_)
  obtain ⟨q3, hq3, hf⟩ := ob_some hf
  have L2 : ∀ (k : Nat) (v_l2_L2 : Int32) (v_l3_L2 : Int32) (q_L2 : Int32), f_X7_onRings_L9 n mnow q1 p1 k v_l2_L2 v_l3_L2 = some q_L2 → ∀ (H : Heap) (locs : List Loc), va_P D vwCl ((w_M a0 cI cC mnow mhistory mkept mslot misFilled mgame mmeasures mmost mnumbers mround mtyped mtext mat mnumber mreads mbeyond mjudgedTo q1 mgoes) ++ R) H → va_D A ((w_M a0 cI cC mnow mhistory mkept mslot misFilled mgame mmeasures mmost mnumbers mround mtyped mtext mat mnumber mreads mbeyond mjudgedTo q1 mgoes) ++ R) → va_S A s.heap H locs → ∀ ls : Array Slot, lv_has ls 6 [(0, .ref (a0 0)), (1, .int p1), (2, .int v_l2_L2), (3, .int v_l3_L2)] → (∀ (H : Heap) (locs : List Loc), va_P D vwCl ((w_M a0 cI cC mnow mhistory mkept mslot misFilled mgame mmeasures mmost mnumbers mround mtyped mtext mat mnumber mreads mbeyond mjudgedTo q1 mgoes) ++ R) H → va_D A ((w_M a0 cI cC mnow mhistory mkept mslot misFilled mgame mmeasures mmost mnumbers mround mtyped mtext mat mnumber mreads mbeyond mjudgedTo q1 mgoes) ++ R) → va_S A s.heap H locs → ∀ ls : Array Slot, lv_has ls 6 [(2, .int q_L2)] → W p l e (xR 2 47) s m args below meth c H locs 0 0 Q (F0 m 110 ls [])) → W p l e (xR 2 47) s m args below meth c H locs 0 0 Q (F0 m 9 ls []) := by
    intro k
    induction k with
    | zero => intro v_l2_L2 v_l3_L2 q_L2 hf; simp [f_X7_onRings_L9] at hf
    | succ k ih =>
      intro v_l2_L2 v_l3_L2 q_L2 hf H locs hP hD hS ls hl kx
      rw [f_X7_onRings_L9] at hf
      refine lv_iload_n hx hb dX7_onRings_9 rfl (lv_at hl 3 rfl) ?_
      refine lv_aload_n hx hb dX7_onRings_10 rfl (lv_at hl 0 rfl) ?_
      refine va_get (D := D) (ci := 7) (v := .ref (a0 1)) (C := RX7) (T := TX7) (N := 19) hx hb hts inw_X7_onRings_7 hown hK hP 0 rfl rfl 0 (by decide) (hts (.fieldLink RX7 7 "RingGamesModel" "now" "[I") (List.mem_of_getElem? (i := 1) rfl)) (fun _ h9 => h9) rfl dX7_onRings_11 ?_
      refine lv_bipush (v := 56) hx hb dX7_onRings_14 (by decide) ?_
      refine va_iald hx hb hK hP 1 0 rfl rfl (x_in (by decide)) dX7_onRings_16 ?_
      refine lv_icmp_ge (tgt := 110) hx hb dX7_onRings_17 (by decide) (fun c4 => ?_) (fun c4 => ?_)
      · have hf := if_t hf c4
        have hf := Option.some.inj hf
        subst hf
        exact kx _ _ hP hD hS _ (lv_sub hl [2] rfl)
      · have hf := if_f hf c4
        refine lv_iconst (v := 0) hx hb dX7_onRings_20 (by decide) ?_
        refine lv_istore (lv' := [(4, .int 0), (0, .ref (a0 0)), (1, .int p1), (2, .int v_l2_L2), (3, .int v_l3_L2)]) hx hb dX7_onRings_21 hl (by decide) rfl (fun ls hl => ?_)
        obtain ⟨q6, hq6, hf⟩ := ob_some hf
        have L5 : ∀ (k : Nat) (v_l2_L5 : Int32) (v_l4_L5 : Int32) (q_L5 : Int32), f_X7_onRings_L23 mnow q1 p1 v_l3_L2 k v_l2_L5 v_l4_L5 = some q_L5 → ∀ (H : Heap) (locs : List Loc), va_P D vwCl ((w_M a0 cI cC mnow mhistory mkept mslot misFilled mgame mmeasures mmost mnumbers mround mtyped mtext mat mnumber mreads mbeyond mjudgedTo q1 mgoes) ++ R) H → va_D A ((w_M a0 cI cC mnow mhistory mkept mslot misFilled mgame mmeasures mmost mnumbers mround mtyped mtext mat mnumber mreads mbeyond mjudgedTo q1 mgoes) ++ R) → va_S A s.heap H locs → ∀ ls : Array Slot, lv_has ls 6 [(0, .ref (a0 0)), (1, .int p1), (2, .int v_l2_L5), (3, .int v_l3_L2), (4, .int v_l4_L5)] → (∀ (H : Heap) (locs : List Loc), va_P D vwCl ((w_M a0 cI cC mnow mhistory mkept mslot misFilled mgame mmeasures mmost mnumbers mround mtyped mtext mat mnumber mreads mbeyond mjudgedTo q1 mgoes) ++ R) H → va_D A ((w_M a0 cI cC mnow mhistory mkept mslot misFilled mgame mmeasures mmost mnumbers mround mtyped mtext mat mnumber mreads mbeyond mjudgedTo q1 mgoes) ++ R) → va_S A s.heap H locs → ∀ ls : Array Slot, lv_has ls 6 [(0, .ref (a0 0)), (1, .int p1), (2, .int q_L5), (3, .int v_l3_L2)] → W p l e (xR 2 47) s m args below meth c H locs 0 0 Q (F0 m 104 ls [])) → W p l e (xR 2 47) s m args below meth c H locs 0 0 Q (F0 m 23 ls []) := by
          intro k
          induction k with
          | zero => intro v_l2_L5 v_l4_L5 q_L5 hf; simp [f_X7_onRings_L23] at hf
          | succ k ih =>
            intro v_l2_L5 v_l4_L5 q_L5 hf H locs hP hD hS ls hl kx
            rw [f_X7_onRings_L23] at hf
            refine lv_iload hx hb dX7_onRings_23 (lv_at hl 4 rfl) ?_
            refine lv_aload_n hx hb dX7_onRings_25 rfl (lv_at hl 0 rfl) ?_
            refine va_get (D := D) (ci := 7) (v := .ref (a0 1)) (C := RX7) (T := TX7) (N := 19) hx hb hts inw_X7_onRings_7 hown hK hP 0 rfl rfl 0 (by decide) (hts (.fieldLink RX7 7 "RingGamesModel" "now" "[I") (List.mem_of_getElem? (i := 1) rfl)) (fun _ h9 => h9) rfl dX7_onRings_26 ?_
            refine lv_bipush (v := 56) hx hb dX7_onRings_29 (by decide) ?_
            refine va_iald hx hb hK hP 1 0 rfl rfl (x_in (by decide)) dX7_onRings_31 ?_
            refine lv_icmp_ge (tgt := 104) hx hb dX7_onRings_32 (by decide) (fun c7 => ?_) (fun c7 => ?_)
            · have hf := if_t hf c7
              have hf := Option.some.inj hf
              subst hf
              exact kx _ _ hP hD hS _ (lv_sub hl [0, 1, 2, 3] rfl)
            · have hf := if_f hf c7
              refine lv_aload_n hx hb dX7_onRings_35 rfl (lv_at hl 0 rfl) ?_
              refine va_get (D := D) (ci := 7) (v := .ref (a0 10)) (C := RX7) (T := TX7) (N := 19) hx hb hts inw_X7_onRings_7 hown hK hP 0 rfl rfl 17 (by decide) (hts (.fieldLink RX7 38 "RingGamesModel" "reach" "[I") (List.mem_of_getElem? (i := 2) rfl)) (fun _ h9 => h9) rfl dX7_onRings_36 ?_
              refine lv_iload_n hx hb dX7_onRings_39 rfl (lv_at hl 3 rfl) ?_
              obtain ⟨g8, hf⟩ := vg_some hf
              refine va_iald hx hb hK hP 10 0 rfl rfl g8 dX7_onRings_40 ?_
              refine lv_iload hx hb dX7_onRings_41 (lv_at hl 4 rfl) ?_
              refine lv_ishr hx hb dX7_onRings_43 ?_
              refine lv_iconst (v := 1) hx hb dX7_onRings_44 (by decide) ?_
              refine lv_iand hx hb dX7_onRings_45 ?_
              refine lv_iconst (v := 1) hx hb dX7_onRings_46 (by decide) ?_
              obtain ⟨j10, hj10, hf⟩ := ob_some hf
              have J11 : ∀ (H : Heap) (locs : List Loc), va_P D vwCl ((w_M a0 cI cC mnow mhistory mkept mslot misFilled mgame mmeasures mmost mnumbers mround mtyped mtext mat mnumber mreads mbeyond mjudgedTo q1 mgoes) ++ R) H → va_D A ((w_M a0 cI cC mnow mhistory mkept mslot misFilled mgame mmeasures mmost mnumbers mround mtyped mtext mat mnumber mreads mbeyond mjudgedTo q1 mgoes) ++ R) → va_S A s.heap H locs → ∀ ls : Array Slot, lv_has ls 6 [(0, .ref (a0 0)), (1, .int p1), (2, .int v_l2_L5), (3, .int v_l3_L2), (4, .int v_l4_L5)] → W p l e (xR 2 47) s m args below meth c H locs 0 0 Q (F0 m 70 ls [.int j10]) := by
                intro H locs hP hD hS ls hl
                refine lv_istore (lv' := [(5, .int j10), (0, .ref (a0 0)), (1, .int p1), (2, .int v_l2_L5), (3, .int v_l3_L2), (4, .int v_l4_L5)]) hx hb dX7_onRings_70 hl (by decide) rfl (fun ls hl => ?_)
                refine lv_iload_n hx hb dX7_onRings_72 rfl (lv_at hl 3 rfl) ?_
                refine lv_iload hx hb dX7_onRings_73 (lv_at hl 0 rfl) ?_
                refine lv_if_eq (tgt := 95) hx hb dX7_onRings_75 (by decide) (fun c12 => ?_) (fun c12 => ?_)
                · have hf := if_t hf c12
                  refine lv_iconst (v := 0) hx hb dX7_onRings_95 (by decide) ?_
                  refine lv_ior hx hb dX7_onRings_96 ?_
                  refine lv_istore_n (lv' := [(2, .int (v_l2_L5 ||| 0)), (5, .int j10), (0, .ref (a0 0)), (1, .int p1), (3, .int v_l3_L2), (4, .int v_l4_L5)]) hx hb dX7_onRings_97 rfl hl (by decide) rfl (fun ls hl => ?_)
                  refine lv_iinc (v := (v_l4_L5 + 1)) (lv' := [(4, .int (v_l4_L5 + 1)), (2, .int (v_l2_L5 ||| 0)), (5, .int j10), (0, .ref (a0 0)), (1, .int p1), (3, .int v_l3_L2)]) hx hb dX7_onRings_98 hl (k := 5) rfl (congrArg (fun z => v_l4_L5 + z) (by decide)) (by decide) rfl (fun ls hl => ?_)
                  refine lv_goto (tgt := 23) hx hb dX7_onRings_101 (by decide) ?_
                  exact ih (v_l2_L5 ||| 0) (v_l4_L5 + 1) _ hf _ _ hP hD hS _ (lv_sub hl [3, 4, 1, 5, 0] rfl) kx
                · have hf := if_f hf c12
                  refine lv_aload_n hx hb dX7_onRings_78 rfl (lv_at hl 1 rfl) ?_
                  refine lv_iload hx hb dX7_onRings_79 (lv_at hl 5 rfl) ?_
                  refine lv_iconst (v := 1) hx hb dX7_onRings_81 (by decide) ?_
                  obtain ⟨q13, hq13, hf⟩ := ob_some hf
                  refine xcVi (w' := ((w_M a0 cI cC mnow mhistory mkept mslot misFilled mgame mmeasures mmost mnumbers mround mtyped mtext mat mnumber mreads mbeyond mjudgedTo q1 mgoes) ++ R)) S hK hN hA hP hD hS (c_X7_of l D cI cC cS R a0 mnow mhistory mkept mslot misFilled mgame mmeasures mmost mnumbers mround mtyped mtext mat mnumber mreads mbeyond mjudgedTo q1 mgoes v_l4_L5 1 _ hq13) gX7_onRings_X7_of rfl hd_X7_of ⟨by decide, by decide⟩ (List.Perm.refl _) (List.Perm.refl _) (ci := 7) (q := (RX7, TX7, 19)) rfl rfl rfl rfl hl.1 rfl (Nat.le_of_ble_eq_true rfl) dX7_onRings_82 ⟨Nat.zero_le _, Nat.zero_le _⟩ (fun H locs hP hD hS => ?_)
                  refine lv_iload_n hx hb dX7_onRings_85 rfl (lv_at hl 2 rfl) ?_
                  refine lv_icmp_ne (tgt := 95) hx hb dX7_onRings_86 (by decide) (fun c14 => ?_) (fun c14 => ?_)
                  · have hf := if_f hf c14
                    refine lv_iconst (v := 0) hx hb dX7_onRings_95 (by decide) ?_
                    refine lv_ior hx hb dX7_onRings_96 ?_
                    refine lv_istore_n (lv' := [(2, .int (v_l2_L5 ||| 0)), (5, .int j10), (0, .ref (a0 0)), (1, .int p1), (3, .int v_l3_L2), (4, .int v_l4_L5)]) hx hb dX7_onRings_97 rfl hl (by decide) rfl (fun ls hl => ?_)
                    refine lv_iinc (v := (v_l4_L5 + 1)) (lv' := [(4, .int (v_l4_L5 + 1)), (2, .int (v_l2_L5 ||| 0)), (5, .int j10), (0, .ref (a0 0)), (1, .int p1), (3, .int v_l3_L2)]) hx hb dX7_onRings_98 hl (k := 5) rfl (congrArg (fun z => v_l4_L5 + z) (by decide)) (by decide) rfl (fun ls hl => ?_)
                    refine lv_goto (tgt := 23) hx hb dX7_onRings_101 (by decide) ?_
                    exact ih (v_l2_L5 ||| 0) (v_l4_L5 + 1) _ hf _ _ hP hD hS _ (lv_sub hl [3, 4, 1, 5, 0] rfl) kx
                  · have hf := if_t hf c14
                    refine lv_iconst (v := 1) hx hb dX7_onRings_89 (by decide) ?_
                    refine lv_iload_n hx hb dX7_onRings_90 rfl (lv_at hl 4 rfl) ?_
                    refine lv_ishl hx hb dX7_onRings_91 ?_
                    refine lv_goto (tgt := 96) hx hb dX7_onRings_92 (by decide) ?_
                    refine lv_ior hx hb dX7_onRings_96 ?_
                    refine lv_istore_n (lv' := [(2, .int (v_l2_L5 ||| (jshl 1 v_l3_L2))), (5, .int j10), (0, .ref (a0 0)), (1, .int p1), (3, .int v_l3_L2), (4, .int v_l4_L5)]) hx hb dX7_onRings_97 rfl hl (by decide) rfl (fun ls hl => ?_)
                    refine lv_iinc (v := (v_l4_L5 + 1)) (lv' := [(4, .int (v_l4_L5 + 1)), (2, .int (v_l2_L5 ||| (jshl 1 v_l3_L2))), (5, .int j10), (0, .ref (a0 0)), (1, .int p1), (3, .int v_l3_L2)]) hx hb dX7_onRings_98 hl (k := 5) rfl (congrArg (fun z => v_l4_L5 + z) (by decide)) (by decide) rfl (fun ls hl => ?_)
                    refine lv_goto (tgt := 23) hx hb dX7_onRings_101 (by decide) ?_
                    exact ih (v_l2_L5 ||| (jshl 1 v_l3_L2)) (v_l4_L5 + 1) _ hf _ _ hP hD hS _ (lv_sub hl [3, 4, 1, 5, 0] rfl) kx
              clear hf
              have hf := hj10
              refine lv_icmp_ne (tgt := 69) hx hb dX7_onRings_47 (by decide) (fun c9 => ?_) (fun c9 => ?_)
              · have hf := if_f hf c9
                refine lv_iconst (v := 0) hx hb dX7_onRings_69 (by decide) ?_
                have hf := Option.some.inj hf
                subst hf
                exact J11 _ _ hP hD hS _ (lv_sub hl [0, 1, 2, 3, 4] rfl)
              · have hf := if_t hf c9
                refine lv_aload_n hx hb dX7_onRings_50 rfl (lv_at hl 0 rfl) ?_
                refine va_get (D := D) (ci := 7) (v := .ref (a0 10)) (C := RX7) (T := TX7) (N := 19) hx hb hts inw_X7_onRings_7 hown hK hP 0 rfl rfl 17 (by decide) (hts (.fieldLink RX7 38 "RingGamesModel" "reach" "[I") (List.mem_of_getElem? (i := 2) rfl)) (fun _ h9 => h9) rfl dX7_onRings_51 ?_
                refine lv_iload hx hb dX7_onRings_54 (lv_at hl 4 rfl) ?_
                obtain ⟨g15, hf⟩ := vg_some hf
                refine va_iald hx hb hK hP 10 0 rfl rfl g15 dX7_onRings_56 ?_
                refine lv_iload_n hx hb dX7_onRings_57 rfl (lv_at hl 3 rfl) ?_
                refine lv_ishr hx hb dX7_onRings_58 ?_
                refine lv_iconst (v := 1) hx hb dX7_onRings_59 (by decide) ?_
                refine lv_iand hx hb dX7_onRings_60 ?_
                refine lv_iconst (v := 1) hx hb dX7_onRings_61 (by decide) ?_
                refine lv_icmp_ne (tgt := 69) hx hb dX7_onRings_62 (by decide) (fun c16 => ?_) (fun c16 => ?_)
                · have hf := if_f hf c16
                  refine lv_iconst (v := 0) hx hb dX7_onRings_69 (by decide) ?_
                  have hf := Option.some.inj hf
                  subst hf
                  exact J11 _ _ hP hD hS _ (lv_sub hl [0, 1, 2, 3, 4] rfl)
                · have hf := if_t hf c16
                  refine lv_iconst (v := 1) hx hb dX7_onRings_65 (by decide) ?_
                  refine lv_goto (tgt := 70) hx hb dX7_onRings_66 (by decide) ?_
                  have hf := Option.some.inj hf
                  subst hf
                  exact J11 _ _ hP hD hS _ (lv_sub hl [0, 1, 2, 3, 4] rfl)
        refine L5 n v_l2_L2 0 q6 hq6 _ _ hP hD hS _ (lv_sub hl [1, 2, 3, 4, 0] rfl) ?_
        clear hP hD hS hl
        intro H locs hP hD hS ls hl
        refine lv_iinc (v := (v_l3_L2 + 1)) (lv' := [(3, .int (v_l3_L2 + 1)), (0, .ref (a0 0)), (1, .int p1), (2, .int q6)]) hx hb dX7_onRings_104 hl (k := 3) rfl (congrArg (fun z => v_l3_L2 + z) (by decide)) (by decide) rfl (fun ls hl => ?_)
        refine lv_goto (tgt := 9) hx hb dX7_onRings_107 (by decide) ?_
        exact ih q6 (v_l3_L2 + 1) _ hf _ _ hP hD hS _ (lv_sub hl [1, 2, 3, 0] rfl) kx
  refine L2 n 0 0 q3 hq3 _ _ hP hD hS _ (lv_sub hl [2, 3, 1, 0] rfl) ?_
  clear hP hD hS hl
  intro H locs hP hD hS ls hl
  refine lv_iload_n hx hb dX7_onRings_110 rfl (lv_at hl 0 rfl) ?_
  have hf := Option.some.inj hf
  subst hf
  exact hret _ _ _ _ _ dX7_onRings_111 rfl hP hD hS rfl
def f_X7_allBad_L11 (n : Nat) (d_mnow : (Nat → Int32)) (d_mjudgedTo : (Nat → Int32)) : Nat → Int32 → Int32 → (Nat → Int32) → Option (Int32 × (Nat → Int32))
  | 0, _, _, _ => none
  | k + 1, d_l2, d_l3, d_mreach => (if 8 ≤ d_l3 then some (d_l2, d_mreach) else (f_X7_onRings n d_mnow d_mjudgedTo d_mreach d_l3).bind fun q3 => f_X7_allBad_L11 n d_mnow d_mjudgedTo k (d_l2 ||| q3.1) (d_l3 + 2) q3.2)
def f_X7_allBad (n : Nat) (mnow : (Nat → Int32)) (mjudgedTo : (Nat → Int32)) (mreach : (Nat → Int32)) (p1 : Int32) : Option (Int32 × (Nat → Int32) × (Nat → Int32)) := (f_X7_judges n mnow mjudgedTo p1).bind fun q1 => (f_X7_allBad_L11 n mnow q1 n 0 (1 - p1) mreach).bind fun q3 => some (q3.1, q1, q3.2)
theorem hd_X7_allBad : yX7_allBad.cls = RX7 ∧ yX7_allBad.cls ≠ "java/lang/invoke/MethodHandle" ∧ yX7_allBad.cls ≠ "java/lang/invoke/VarHandle" ∧ (parseMethodDescriptor yX7_allBad.desc).map (fun d => d.parameters.length) = some 1 := by decide +kernel
set_option maxHeartbeats 4000000 in
set_option maxRecDepth 100000 in
theorem c_X7_allBad (l : Launch) (D : va_G) (cI cC cS : ClassId) (R : va_W) (a0 : Nat → Nat) (mnow : (Nat → Int32)) (mhistory : (Nat → Int32)) (mkept : Int32) (mslot : (Nat → Int32)) (misFilled : Int32) (mgame : Int32) (mmeasures : (Nat → Int32)) (mmost : (Nat → Int32)) (mnumbers : (Nat → Int32)) (mround : Int32) (mtyped : Int32) (mtext : (Nat → Int32)) (mat : Int32) (mnumber : Int32) (mreads : (Nat → Int32)) (mbeyond : Int32) (mjudgedTo : (Nat → Int32)) (mreach : (Nat → Int32)) (mgoes : (Nat → Int32)) (p1 : Int32) (n : Nat) (r : Int32 × (Nat → Int32) × (Nat → Int32)) (hf : f_X7_allBad n mnow mjudgedTo mreach p1 = some r) : CI l yX7_allBad wsX7_allBad 3 72 D cI cC cS [.ref (a0 0), .int p1] ((w_M a0 cI cC mnow mhistory mkept mslot misFilled mgame mmeasures mmost mnumbers mround mtyped mtext mat mnumber mreads mbeyond mjudgedTo mreach mgoes) ++ R) r.1 ((w_M a0 cI cC mnow mhistory mkept mslot misFilled mgame mmeasures mmost mnumbers mround mtyped mtext mat mnumber mreads mbeyond r.2.1 r.2.2 mgoes) ++ R) := by
  refine XI.of (cc := cX7_allBad) (maxL := 4) (ty := .int) (own := RX7) (by decide) rfl rfl (Nat.le_of_ble_eq_true rfl) ?_
  intro p e s m args below meth c A Q S hK hN hA hP hD hS ls hl hret
  obtain ⟨hx, hb, hml, hown, hts⟩ := id S
  have hl : lv_has ls 4 [(0, .ref (a0 0)), (1, .int p1)] := hl
  unfold f_X7_allBad at hf
  refine lv_aload_n hx hb dX7_allBad_0 rfl (lv_at hl 0 rfl) ?_
  refine lv_iload_n hx hb dX7_allBad_1 rfl (lv_at hl 1 rfl) ?_
  obtain ⟨q1, hq1, hf⟩ := ob_some hf
  refine xcVv (w' := ((w_M a0 cI cC mnow mhistory mkept mslot misFilled mgame mmeasures mmost mnumbers mround mtyped mtext mat mnumber mreads mbeyond q1 mreach mgoes) ++ R)) S hK hN hA hP hD hS (c_X7_judges l D cI cC cS R a0 mnow mhistory mkept mslot misFilled mgame mmeasures mmost mnumbers mround mtyped mtext mat mnumber mreads mbeyond mjudgedTo mreach mgoes p1 n _ hq1) gX7_allBad_X7_judges rfl hd_X7_judges ⟨by decide, by decide⟩ (List.Perm.refl _) (List.Perm.refl _) (ci := 7) (q := (RX7, TX7, 19)) rfl rfl rfl rfl hl.1 rfl (Nat.le_of_ble_eq_true rfl) dX7_allBad_2 ⟨Nat.zero_le _, Nat.zero_le _⟩ (fun H locs hP hD hS => ?_)
  refine lv_iconst (v := 0) hx hb dX7_allBad_5 (by decide) ?_
  refine lv_istore_n (lv' := [(2, .int 0), (0, .ref (a0 0)), (1, .int p1)]) hx hb dX7_allBad_6 rfl hl (by decide) rfl (fun ls hl => ?_)
  refine lv_iconst (v := 1) hx hb dX7_allBad_7 (by decide) ?_
  refine lv_iload_n hx hb dX7_allBad_8 rfl (lv_at hl 2 rfl) ?_
  refine lv_isub hx hb dX7_allBad_9 ?_
  refine lv_istore_n (lv' := [(3, .int (1 - p1)), (2, .int 0), (0, .ref (a0 0)), (1, .int p1)]) hx hb dX7_allBad_10 rfl hl (by decide) rfl (fun ls hl => ?_)
  obtain ⟨q3, hq3, hf⟩ := ob_some hf
  have L2 : ∀ (k : Nat) (v_l2_L2 : Int32) (v_l3_L2 : Int32) (v_mreach_L2 : (Nat → Int32)) (q_L2 : Int32 × (Nat → Int32)), f_X7_allBad_L11 n mnow q1 k v_l2_L2 v_l3_L2 v_mreach_L2 = some q_L2 → ∀ (H : Heap) (locs : List Loc), va_P D vwCl ((w_M a0 cI cC mnow mhistory mkept mslot misFilled mgame mmeasures mmost mnumbers mround mtyped mtext mat mnumber mreads mbeyond q1 v_mreach_L2 mgoes) ++ R) H → va_D A ((w_M a0 cI cC mnow mhistory mkept mslot misFilled mgame mmeasures mmost mnumbers mround mtyped mtext mat mnumber mreads mbeyond q1 v_mreach_L2 mgoes) ++ R) → va_S A s.heap H locs → ∀ ls : Array Slot, lv_has ls 4 [(0, .ref (a0 0)), (2, .int v_l2_L2), (3, .int v_l3_L2)] → (∀ (H : Heap) (locs : List Loc), va_P D vwCl ((w_M a0 cI cC mnow mhistory mkept mslot misFilled mgame mmeasures mmost mnumbers mround mtyped mtext mat mnumber mreads mbeyond q1 q_L2.2 mgoes) ++ R) H → va_D A ((w_M a0 cI cC mnow mhistory mkept mslot misFilled mgame mmeasures mmost mnumbers mround mtyped mtext mat mnumber mreads mbeyond q1 q_L2.2 mgoes) ++ R) → va_S A s.heap H locs → ∀ ls : Array Slot, lv_has ls 4 [(2, .int q_L2.1)] → W p l e (xR 3 72) s m args below meth c H locs 0 0 Q (F0 m 31 ls [])) → W p l e (xR 3 72) s m args below meth c H locs 0 0 Q (F0 m 11 ls []) := by
    intro k
    induction k with
    | zero => intro v_l2_L2 v_l3_L2 v_mreach_L2 q_L2 hf; simp [f_X7_allBad_L11] at hf
    | succ k ih =>
      intro v_l2_L2 v_l3_L2 v_mreach_L2 q_L2 hf H locs hP hD hS ls hl kx
      rw [f_X7_allBad_L11] at hf
      refine lv_iload_n hx hb dX7_allBad_11 rfl (lv_at hl 2 rfl) ?_
      refine lv_bipush (v := 8) hx hb dX7_allBad_12 (by decide) ?_
      refine lv_icmp_ge (tgt := 31) hx hb dX7_allBad_14 (by decide) (fun c4 => ?_) (fun c4 => ?_)
      · have hf := if_t hf c4
        have hf := Option.some.inj hf
        subst hf
        exact kx _ _ hP hD hS _ (lv_sub hl [1] rfl)
      · have hf := if_f hf c4
        refine lv_iload_n hx hb dX7_allBad_17 rfl (lv_at hl 1 rfl) ?_
        refine lv_aload_n hx hb dX7_allBad_18 rfl (lv_at hl 0 rfl) ?_
        refine lv_iload_n hx hb dX7_allBad_19 rfl (lv_at hl 2 rfl) ?_
        obtain ⟨q5, hq5, hf⟩ := ob_some hf
        refine xcVi (w' := ((w_M a0 cI cC mnow mhistory mkept mslot misFilled mgame mmeasures mmost mnumbers mround mtyped mtext mat mnumber mreads mbeyond q1 q5.2 mgoes) ++ R)) S hK hN hA hP hD hS (c_X7_onRings l D cI cC cS R a0 mnow mhistory mkept mslot misFilled mgame mmeasures mmost mnumbers mround mtyped mtext mat mnumber mreads mbeyond q1 v_mreach_L2 mgoes v_l3_L2 n _ hq5) gX7_allBad_X7_onRings rfl hd_X7_onRings ⟨by decide, by decide⟩ (List.Perm.refl _) (List.Perm.refl _) (ci := 7) (q := (RX7, TX7, 19)) rfl rfl rfl rfl hl.1 rfl (Nat.le_of_ble_eq_true rfl) dX7_allBad_20 ⟨Nat.zero_le _, Nat.zero_le _⟩ (fun H locs hP hD hS => ?_)
        refine lv_ior hx hb dX7_allBad_23 ?_
        refine lv_istore_n (lv' := [(2, .int (v_l2_L2 ||| q5.1)), (0, .ref (a0 0)), (3, .int v_l3_L2)]) hx hb dX7_allBad_24 rfl hl (by decide) rfl (fun ls hl => ?_)
        refine lv_iinc (v := (v_l3_L2 + 2)) (lv' := [(3, .int (v_l3_L2 + 2)), (2, .int (v_l2_L2 ||| q5.1)), (0, .ref (a0 0))]) hx hb dX7_allBad_25 hl (k := 2) rfl (congrArg (fun z => v_l3_L2 + z) (by decide)) (by decide) rfl (fun ls hl => ?_)
        refine lv_goto (tgt := 11) hx hb dX7_allBad_28 (by decide) ?_
        exact ih (v_l2_L2 ||| q5.1) (v_l3_L2 + 2) q5.2 _ hf _ _ hP hD hS _ (lv_sub hl [2, 1, 0] rfl) kx
  refine L2 n 0 (1 - p1) mreach q3 hq3 _ _ hP hD hS _ (lv_sub hl [2, 1, 0] rfl) ?_
  clear hP hD hS hl
  intro H locs hP hD hS ls hl
  refine lv_iload_n hx hb dX7_allBad_31 rfl (lv_at hl 0 rfl) ?_
  have hf := Option.some.inj hf
  subst hf
  exact hret _ _ _ _ _ dX7_allBad_32 rfl hP hD hS rfl
def f_X7_judged_L43 (d_mnow : (Nat → Int32)) (d_mjudgedTo : (Nat → Int32)) (d_mreach : (Nat → Int32)) (d_l1 : Int32) (d_l3 : Int32) (d_l4 : Int32) : Nat → Int32 → Option (Int32 × (Nat → Int32) × (Nat → Int32))
  | 0, _ => none
  | k + 1, d_l5 => (if (d_mnow 56) ≤ d_l5 then some (1, d_mjudgedTo, d_mreach) else (if ((jshr d_l4 d_l5) &&& 1) = 1 then (if ((jshr d_l3 d_l5) &&& 1) = 1 then some (0, d_mjudgedTo, d_mreach) else (f_X7_of d_mnow d_l5 0).bind fun q11 => (if q11 = d_l1 then (f_X7_of d_mnow d_l5 2).bind fun q13 => (if q13 = 0 then some (0, d_mjudgedTo, d_mreach) else f_X7_judged_L43 d_mnow d_mjudgedTo d_mreach d_l1 d_l3 d_l4 k (d_l5 + 1)) else f_X7_judged_L43 d_mnow d_mjudgedTo d_mreach d_l1 d_l3 d_l4 k (d_l5 + 1))) else f_X7_judged_L43 d_mnow d_mjudgedTo d_mreach d_l1 d_l3 d_l4 k (d_l5 + 1)))
def f_X7_judged (n : Nat) (mnow : (Nat → Int32)) (mjudgedTo : (Nat → Int32)) (mreach : (Nat → Int32)) (p1 : Int32) (p2 : Int32) : Option (Int32 × (Nat → Int32) × (Nat → Int32)) := (f_X7_noPlayer p1).bind fun q1 => (if q1 = 0 then (f_X7_no mnow p2).bind fun q3 => (if q3 = 0 then (f_X7_allBad n mnow mjudgedTo mreach p1).bind fun q5 => (f_X7_reaches n mnow q5.2.1 q5.2.2 0).bind fun q6 => vg p2 14 (f_X7_judged_L43 mnow q5.2.1 q6 p1 q5.1 ((q6 (p2).toNatClampNeg) ||| (jshl 1 p2)) n 0) else some ((-1), mjudgedTo, mreach)) else some ((-1), mjudgedTo, mreach))
theorem inw_X7_judged_7 : ∀ w ∈ wsX70, w ∈ wsX7_judged := fun _ h => List.mem_cons_of_mem _ (List.mem_append_right _ h)
theorem hd_X7_judged : yX7_judged.cls = RX7 ∧ yX7_judged.cls ≠ "java/lang/invoke/MethodHandle" ∧ yX7_judged.cls ≠ "java/lang/invoke/VarHandle" ∧ (parseMethodDescriptor yX7_judged.desc).map (fun d => d.parameters.length) = some 2 := by decide +kernel
set_option maxHeartbeats 4000000 in
set_option maxRecDepth 100000 in
theorem c_X7_judged (l : Launch) (D : va_G) (cI cC cS : ClassId) (R : va_W) (a0 : Nat → Nat) (mnow : (Nat → Int32)) (mhistory : (Nat → Int32)) (mkept : Int32) (mslot : (Nat → Int32)) (misFilled : Int32) (mgame : Int32) (mmeasures : (Nat → Int32)) (mmost : (Nat → Int32)) (mnumbers : (Nat → Int32)) (mround : Int32) (mtyped : Int32) (mtext : (Nat → Int32)) (mat : Int32) (mnumber : Int32) (mreads : (Nat → Int32)) (mbeyond : Int32) (mjudgedTo : (Nat → Int32)) (mreach : (Nat → Int32)) (mgoes : (Nat → Int32)) (p1 : Int32) (p2 : Int32) (n : Nat) (r : Int32 × (Nat → Int32) × (Nat → Int32)) (hf : f_X7_judged n mnow mjudgedTo mreach p1 p2 = some r) : CI l yX7_judged wsX7_judged 4 95 D cI cC cS [.ref (a0 0), .int p1, .int p2] ((w_M a0 cI cC mnow mhistory mkept mslot misFilled mgame mmeasures mmost mnumbers mround mtyped mtext mat mnumber mreads mbeyond mjudgedTo mreach mgoes) ++ R) r.1 ((w_M a0 cI cC mnow mhistory mkept mslot misFilled mgame mmeasures mmost mnumbers mround mtyped mtext mat mnumber mreads mbeyond r.2.1 r.2.2 mgoes) ++ R) := by
  refine XI.of (cc := cX7_judged) (maxL := 6) (ty := .int) (own := RX7) (by decide) rfl rfl (Nat.le_of_ble_eq_true rfl) ?_
  intro p e s m args below meth c A Q S hK hN hA hP hD hS ls hl hret
  obtain ⟨hx, hb, hml, hown, hts⟩ := id S
  have hl : lv_has ls 6 [(0, .ref (a0 0)), (1, .int p1), (2, .int p2)] := hl
  unfold f_X7_judged at hf
  refine lv_iload_n hx hb dX7_judged_0 rfl (lv_at hl 1 rfl) ?_
  obtain ⟨q1, hq1, hf⟩ := ob_some hf
  refine xcSi S hK hN hA hP hD hS (c_X7_noPlayer l D cI cC cS ((w_M a0 cI cC mnow mhistory mkept mslot misFilled mgame mmeasures mmost mnumbers mround mtyped mtext mat mnumber mreads mbeyond mjudgedTo mreach mgoes) ++ R) p1 _ hq1) gX7_judged_X7_noPlayer rfl hd_X7_noPlayer ⟨by decide, by decide⟩ rfl hl.1 rfl (Nat.le_of_ble_eq_true rfl) dX7_judged_1 ⟨Nat.zero_le _, Nat.zero_le _⟩ (fun H locs hP hD hS => ?_)
  refine lv_if_ne (tgt := 15) hx hb dX7_judged_4 (by decide) (fun c2 => ?_) (fun c2 => ?_)
  · have hf := if_f hf c2
    refine lv_iconst (v := (-1)) hx hb dX7_judged_15 (by decide) ?_
    have hf := Option.some.inj hf
    subst hf
    exact hret _ _ _ _ _ dX7_judged_16 rfl hP hD hS rfl
  · have hf := if_t hf c2
    refine lv_aload_n hx hb dX7_judged_7 rfl (lv_at hl 0 rfl) ?_
    refine lv_iload_n hx hb dX7_judged_8 rfl (lv_at hl 2 rfl) ?_
    obtain ⟨q3, hq3, hf⟩ := ob_some hf
    refine xcVi (w' := ((w_M a0 cI cC mnow mhistory mkept mslot misFilled mgame mmeasures mmost mnumbers mround mtyped mtext mat mnumber mreads mbeyond mjudgedTo mreach mgoes) ++ R)) S hK hN hA hP hD hS (c_X7_no l D cI cC cS R a0 mnow mhistory mkept mslot misFilled mgame mmeasures mmost mnumbers mround mtyped mtext mat mnumber mreads mbeyond mjudgedTo mreach mgoes p2 _ hq3) gX7_judged_X7_no rfl hd_X7_no ⟨by decide, by decide⟩ (List.Perm.refl _) (List.Perm.refl _) (ci := 7) (q := (RX7, TX7, 19)) rfl rfl rfl rfl hl.1 rfl (Nat.le_of_ble_eq_true rfl) dX7_judged_9 ⟨Nat.zero_le _, Nat.zero_le _⟩ (fun H locs hP hD hS => ?_)
    refine lv_if_eq (tgt := 17) hx hb dX7_judged_12 (by decide) (fun c4 => ?_) (fun c4 => ?_)
    · have hf := if_t hf c4
      refine lv_aload_n hx hb dX7_judged_17 rfl (lv_at hl 0 rfl) ?_
      refine lv_iload_n hx hb dX7_judged_18 rfl (lv_at hl 1 rfl) ?_
      obtain ⟨q5, hq5, hf⟩ := ob_some hf
      refine xcVi (w' := ((w_M a0 cI cC mnow mhistory mkept mslot misFilled mgame mmeasures mmost mnumbers mround mtyped mtext mat mnumber mreads mbeyond q5.2.1 q5.2.2 mgoes) ++ R)) S hK hN hA hP hD hS (c_X7_allBad l D cI cC cS R a0 mnow mhistory mkept mslot misFilled mgame mmeasures mmost mnumbers mround mtyped mtext mat mnumber mreads mbeyond mjudgedTo mreach mgoes p1 n _ hq5) gX7_judged_X7_allBad rfl hd_X7_allBad ⟨by decide, by decide⟩ (List.Perm.refl _) (List.Perm.refl _) (ci := 7) (q := (RX7, TX7, 19)) rfl rfl rfl rfl hl.1 rfl (Nat.le_of_ble_eq_true rfl) dX7_judged_19 ⟨Nat.zero_le _, Nat.zero_le _⟩ (fun H locs hP hD hS => ?_)
      refine lv_istore_n (lv' := [(3, .int q5.1), (0, .ref (a0 0)), (1, .int p1), (2, .int p2)]) hx hb dX7_judged_22 rfl hl (by decide) rfl (fun ls hl => ?_)
      refine lv_aload_n hx hb dX7_judged_23 rfl (lv_at hl 1 rfl) ?_
      refine lv_iconst (v := 0) hx hb dX7_judged_24 (by decide) ?_
      obtain ⟨q6, hq6, hf⟩ := ob_some hf
      refine xcVv (w' := ((w_M a0 cI cC mnow mhistory mkept mslot misFilled mgame mmeasures mmost mnumbers mround mtyped mtext mat mnumber mreads mbeyond q5.2.1 q6 mgoes) ++ R)) S hK hN hA hP hD hS (c_X7_reaches l D cI cC cS R a0 mnow mhistory mkept mslot misFilled mgame mmeasures mmost mnumbers mround mtyped mtext mat mnumber mreads mbeyond q5.2.1 q5.2.2 mgoes 0 n _ hq6) gX7_judged_X7_reaches rfl hd_X7_reaches ⟨by decide, by decide⟩ (List.Perm.refl _) (List.Perm.refl _) (ci := 7) (q := (RX7, TX7, 19)) rfl rfl rfl rfl hl.1 rfl (Nat.le_of_ble_eq_true rfl) dX7_judged_25 ⟨Nat.zero_le _, Nat.zero_le _⟩ (fun H locs hP hD hS => ?_)
      refine lv_aload_n hx hb dX7_judged_28 rfl (lv_at hl 1 rfl) ?_
      refine va_get (D := D) (ci := 7) (v := .ref (a0 10)) (C := RX7) (T := TX7) (N := 19) hx hb hts inw_X7_judged_7 hown hK hP 0 rfl rfl 17 (by decide) (hts (.fieldLink RX7 38 "RingGamesModel" "reach" "[I") (List.mem_of_getElem? (i := 1) rfl)) (fun _ h9 => h9) rfl dX7_judged_29 ?_
      refine lv_iload_n hx hb dX7_judged_32 rfl (lv_at hl 3 rfl) ?_
      obtain ⟨g7, hf⟩ := vg_some hf
      refine va_iald hx hb hK hP 10 0 rfl rfl g7 dX7_judged_33 ?_
      refine lv_iconst (v := 1) hx hb dX7_judged_34 (by decide) ?_
      refine lv_iload_n hx hb dX7_judged_35 rfl (lv_at hl 3 rfl) ?_
      refine lv_ishl hx hb dX7_judged_36 ?_
      refine lv_ior hx hb dX7_judged_37 ?_
      refine lv_istore (lv' := [(4, .int ((q6 (p2).toNatClampNeg) ||| (jshl 1 p2))), (3, .int q5.1), (0, .ref (a0 0)), (1, .int p1), (2, .int p2)]) hx hb dX7_judged_38 hl (by decide) rfl (fun ls hl => ?_)
      refine lv_iconst (v := 0) hx hb dX7_judged_40 (by decide) ?_
      refine lv_istore (lv' := [(5, .int 0), (4, .int ((q6 (p2).toNatClampNeg) ||| (jshl 1 p2))), (3, .int q5.1), (0, .ref (a0 0)), (1, .int p1), (2, .int p2)]) hx hb dX7_judged_41 hl (by decide) rfl (fun ls hl => ?_)
      have L8 : ∀ (k : Nat) (v_l5_L8 : Int32), f_X7_judged_L43 mnow q5.2.1 q6 p1 q5.1 ((q6 (p2).toNatClampNeg) ||| (jshl 1 p2)) k v_l5_L8 = some r → ∀ (H : Heap) (locs : List Loc), va_P D vwCl ((w_M a0 cI cC mnow mhistory mkept mslot misFilled mgame mmeasures mmost mnumbers mround mtyped mtext mat mnumber mreads mbeyond q5.2.1 q6 mgoes) ++ R) H → va_D A ((w_M a0 cI cC mnow mhistory mkept mslot misFilled mgame mmeasures mmost mnumbers mround mtyped mtext mat mnumber mreads mbeyond q5.2.1 q6 mgoes) ++ R) → va_S A s.heap H locs → ∀ ls : Array Slot, lv_has ls 6 [(0, .ref (a0 0)), (1, .int p1), (3, .int q5.1), (4, .int ((q6 (p2).toNatClampNeg) ||| (jshl 1 p2))), (5, .int v_l5_L8)] → W p l e (xR 4 95) s m args below meth c H locs 0 0 Q (F0 m 43 ls []) := by
        intro k
        induction k with
        | zero => intro v_l5_L8 hf; simp [f_X7_judged_L43] at hf
        | succ k ih =>
          intro v_l5_L8 hf H locs hP hD hS ls hl
          rw [f_X7_judged_L43] at hf
          refine lv_iload hx hb dX7_judged_43 (lv_at hl 4 rfl) ?_
          refine lv_aload_n hx hb dX7_judged_45 rfl (lv_at hl 0 rfl) ?_
          refine va_get (D := D) (ci := 7) (v := .ref (a0 1)) (C := RX7) (T := TX7) (N := 19) hx hb hts inw_X7_judged_7 hown hK hP 0 rfl rfl 0 (by decide) (hts (.fieldLink RX7 7 "RingGamesModel" "now" "[I") (List.mem_of_getElem? (i := 2) rfl)) (fun _ h9 => h9) rfl dX7_judged_46 ?_
          refine lv_bipush (v := 56) hx hb dX7_judged_49 (by decide) ?_
          refine va_iald hx hb hK hP 1 0 rfl rfl (x_in (by decide)) dX7_judged_51 ?_
          refine lv_icmp_ge (tgt := 105) hx hb dX7_judged_52 (by decide) (fun c10 => ?_) (fun c10 => ?_)
          · have hf := if_t hf c10
            refine lv_iconst (v := 1) hx hb dX7_judged_105 (by decide) ?_
            have hf := Option.some.inj hf
            subst hf
            exact hret _ _ _ _ _ dX7_judged_106 rfl hP hD hS rfl
          · have hf := if_f hf c10
            refine lv_iload hx hb dX7_judged_55 (lv_at hl 3 rfl) ?_
            refine lv_iload hx hb dX7_judged_57 (lv_at hl 4 rfl) ?_
            refine lv_ishr hx hb dX7_judged_59 ?_
            refine lv_iconst (v := 1) hx hb dX7_judged_60 (by decide) ?_
            refine lv_iand hx hb dX7_judged_61 ?_
            refine lv_iconst (v := 1) hx hb dX7_judged_62 (by decide) ?_
            refine lv_icmp_ne (tgt := 99) hx hb dX7_judged_63 (by decide) (fun c11 => ?_) (fun c11 => ?_)
            · have hf := if_f hf c11
              refine lv_iinc (v := (v_l5_L8 + 1)) (lv' := [(5, .int (v_l5_L8 + 1)), (0, .ref (a0 0)), (1, .int p1), (3, .int q5.1), (4, .int ((q6 (p2).toNatClampNeg) ||| (jshl 1 p2)))]) hx hb dX7_judged_99 hl (k := 4) rfl (congrArg (fun z => v_l5_L8 + z) (by decide)) (by decide) rfl (fun ls hl => ?_)
              refine lv_goto (tgt := 43) hx hb dX7_judged_102 (by decide) ?_
              exact ih (v_l5_L8 + 1) hf _ _ hP hD hS _ (lv_sub hl [1, 2, 3, 4, 0] rfl)
            · have hf := if_t hf c11
              refine lv_iload_n hx hb dX7_judged_66 rfl (lv_at hl 2 rfl) ?_
              refine lv_iload hx hb dX7_judged_67 (lv_at hl 4 rfl) ?_
              refine lv_ishr hx hb dX7_judged_69 ?_
              refine lv_iconst (v := 1) hx hb dX7_judged_70 (by decide) ?_
              refine lv_iand hx hb dX7_judged_71 ?_
              refine lv_iconst (v := 1) hx hb dX7_judged_72 (by decide) ?_
              refine lv_icmp_eq (tgt := 97) hx hb dX7_judged_73 (by decide) (fun c12 => ?_) (fun c12 => ?_)
              · have hf := if_t hf c12
                refine lv_iconst (v := 0) hx hb dX7_judged_97 (by decide) ?_
                have hf := Option.some.inj hf
                subst hf
                exact hret _ _ _ _ _ dX7_judged_98 rfl hP hD hS rfl
              · have hf := if_f hf c12
                refine lv_aload_n hx hb dX7_judged_76 rfl (lv_at hl 0 rfl) ?_
                refine lv_iload hx hb dX7_judged_77 (lv_at hl 4 rfl) ?_
                refine lv_iconst (v := 0) hx hb dX7_judged_79 (by decide) ?_
                obtain ⟨q13, hq13, hf⟩ := ob_some hf
                refine xcVi (w' := ((w_M a0 cI cC mnow mhistory mkept mslot misFilled mgame mmeasures mmost mnumbers mround mtyped mtext mat mnumber mreads mbeyond q5.2.1 q6 mgoes) ++ R)) S hK hN hA hP hD hS (c_X7_of l D cI cC cS R a0 mnow mhistory mkept mslot misFilled mgame mmeasures mmost mnumbers mround mtyped mtext mat mnumber mreads mbeyond q5.2.1 q6 mgoes v_l5_L8 0 _ hq13) gX7_judged_X7_of rfl hd_X7_of ⟨by decide, by decide⟩ (List.Perm.refl _) (List.Perm.refl _) (ci := 7) (q := (RX7, TX7, 19)) rfl rfl rfl rfl hl.1 rfl (Nat.le_of_ble_eq_true rfl) dX7_judged_80 ⟨Nat.zero_le _, Nat.zero_le _⟩ (fun H locs hP hD hS => ?_)
                refine lv_iload_n hx hb dX7_judged_83 rfl (lv_at hl 1 rfl) ?_
                refine lv_icmp_ne (tgt := 99) hx hb dX7_judged_84 (by decide) (fun c14 => ?_) (fun c14 => ?_)
                · have hf := if_f hf c14
                  refine lv_iinc (v := (v_l5_L8 + 1)) (lv' := [(5, .int (v_l5_L8 + 1)), (0, .ref (a0 0)), (1, .int p1), (3, .int q5.1), (4, .int ((q6 (p2).toNatClampNeg) ||| (jshl 1 p2)))]) hx hb dX7_judged_99 hl (k := 4) rfl (congrArg (fun z => v_l5_L8 + z) (by decide)) (by decide) rfl (fun ls hl => ?_)
                  refine lv_goto (tgt := 43) hx hb dX7_judged_102 (by decide) ?_
                  exact ih (v_l5_L8 + 1) hf _ _ hP hD hS _ (lv_sub hl [1, 2, 3, 4, 0] rfl)
                · have hf := if_t hf c14
                  refine lv_aload_n hx hb dX7_judged_87 rfl (lv_at hl 0 rfl) ?_
                  refine lv_iload hx hb dX7_judged_88 (lv_at hl 4 rfl) ?_
                  refine lv_iconst (v := 2) hx hb dX7_judged_90 (by decide) ?_
                  obtain ⟨q15, hq15, hf⟩ := ob_some hf
                  refine xcVi (w' := ((w_M a0 cI cC mnow mhistory mkept mslot misFilled mgame mmeasures mmost mnumbers mround mtyped mtext mat mnumber mreads mbeyond q5.2.1 q6 mgoes) ++ R)) S hK hN hA hP hD hS (c_X7_of l D cI cC cS R a0 mnow mhistory mkept mslot misFilled mgame mmeasures mmost mnumbers mround mtyped mtext mat mnumber mreads mbeyond q5.2.1 q6 mgoes v_l5_L8 2 _ hq15) gX7_judged_X7_of rfl hd_X7_of ⟨by decide, by decide⟩ (List.Perm.refl _) (List.Perm.refl _) (ci := 7) (q := (RX7, TX7, 19)) rfl rfl rfl rfl hl.1 rfl (Nat.le_of_ble_eq_true rfl) dX7_judged_91 ⟨Nat.zero_le _, Nat.zero_le _⟩ (fun H locs hP hD hS => ?_)
                  refine lv_if_ne (tgt := 99) hx hb dX7_judged_94 (by decide) (fun c16 => ?_) (fun c16 => ?_)
                  · have hf := if_f hf c16
                    refine lv_iinc (v := (v_l5_L8 + 1)) (lv' := [(5, .int (v_l5_L8 + 1)), (0, .ref (a0 0)), (1, .int p1), (3, .int q5.1), (4, .int ((q6 (p2).toNatClampNeg) ||| (jshl 1 p2)))]) hx hb dX7_judged_99 hl (k := 4) rfl (congrArg (fun z => v_l5_L8 + z) (by decide)) (by decide) rfl (fun ls hl => ?_)
                    refine lv_goto (tgt := 43) hx hb dX7_judged_102 (by decide) ?_
                    exact ih (v_l5_L8 + 1) hf _ _ hP hD hS _ (lv_sub hl [1, 2, 3, 4, 0] rfl)
                  · have hf := if_t hf c16
                    refine lv_iconst (v := 0) hx hb dX7_judged_97 (by decide) ?_
                    have hf := Option.some.inj hf
                    subst hf
                    exact hret _ _ _ _ _ dX7_judged_98 rfl hP hD hS rfl
      exact L8 n 0 hf _ _ hP hD hS _ (lv_sub hl [3, 4, 2, 1, 0] rfl)
    · have hf := if_f hf c4
      refine lv_iconst (v := (-1)) hx hb dX7_judged_15 (by decide) ?_
      have hf := Option.some.inj hf
      subst hf
      exact hret _ _ _ _ _ dX7_judged_16 rfl hP hD hS rfl
def f_X7_ringAt_L4 (d_mnow : (Nat → Int32)) (d_l1 : Int32) : Nat → Int32 → Int32 → Option Int32
  | 0, _, _ => none
  | k + 1, d_l2, d_l3 => (if (d_mnow 56) ≤ d_l3 then some (d_l2) else (f_X7_of d_mnow d_l3 1).bind fun q2 => (f_X7_of d_mnow d_l1 1).bind fun q3 => (if q2 < q3 then f_X7_ringAt_L4 d_mnow d_l1 k (d_l2 ||| 0) (d_l3 + 1) else f_X7_ringAt_L4 d_mnow d_l1 k (d_l2 ||| (jshl 1 d_l3)) (d_l3 + 1)))
def f_X7_ringAt_L67 (d_mnow : (Nat → Int32)) (d_mjudgedTo : (Nat → Int32)) (d_l2 : Int32) (d_l4 : Int32) : Nat → Int32 → Int32 → Option Int32
  | 0, _, _ => none
  | k + 1, d_l6, d_l7 => (if (d_mnow 56) ≤ d_l7 then some (d_l6) else (if ((jshr d_l4 d_l7) &&& 1) = 1 then vg d_l7 14 (f_X7_ringAt_L67 d_mnow d_mjudgedTo d_l2 d_l4 k (d_l6 ||| ((d_mjudgedTo (d_l7).toNatClampNeg) &&& d_l2)) (d_l7 + 1)) else f_X7_ringAt_L67 d_mnow d_mjudgedTo d_l2 d_l4 k (d_l6 ||| 0) (d_l7 + 1)))
def f_X7_ringAt_L56 (n : Nat) (d_mnow : (Nat → Int32)) (d_mjudgedTo : (Nat → Int32)) (d_l1 : Int32) (d_l2 : Int32) : Nat → Int32 → Int32 → Int32 → Option Int32
  | 0, _, _, _ => none
  | k + 1, d_l3, d_l4, d_l5 => (if d_l4 = 0 then some ((-5)) else (f_X7_ringAt_L67 d_mnow d_mjudgedTo d_l2 d_l4 n 0 0).bind fun q9 => (if ((jshr q9 d_l1) &&& 1) = 1 then some (d_l5) else f_X7_ringAt_L56 n d_mnow d_mjudgedTo d_l1 d_l2 k (d_l3 ||| q9) (q9 &&& (d_l3 ^^^ (-1))) (d_l5 + 1)))
def f_X7_ringAt (n : Nat) (mnow : (Nat → Int32)) (mjudgedTo : (Nat → Int32)) (p1 : Int32) : Option Int32 := (f_X7_ringAt_L4 mnow p1 n 0 0).bind fun q2 => f_X7_ringAt_L56 n mnow mjudgedTo p1 q2 n 0 (jshl 1 p1) 1
theorem inw_X7_ringAt_7 : ∀ w ∈ wsX70, w ∈ wsX7_ringAt := fun _ h => List.mem_cons_of_mem _ (List.mem_append_right _ h)
theorem hd_X7_ringAt : yX7_ringAt.cls = RX7 ∧ yX7_ringAt.cls ≠ "java/lang/invoke/MethodHandle" ∧ yX7_ringAt.cls ≠ "java/lang/invoke/VarHandle" ∧ (parseMethodDescriptor yX7_ringAt.desc).map (fun d => d.parameters.length) = some 1 := by decide +kernel
set_option maxHeartbeats 4000000 in
set_option maxRecDepth 100000 in
theorem c_X7_ringAt (l : Launch) (D : va_G) (cI cC cS : ClassId) (R : va_W) (a0 : Nat → Nat) (mnow : (Nat → Int32)) (mhistory : (Nat → Int32)) (mkept : Int32) (mslot : (Nat → Int32)) (misFilled : Int32) (mgame : Int32) (mmeasures : (Nat → Int32)) (mmost : (Nat → Int32)) (mnumbers : (Nat → Int32)) (mround : Int32) (mtyped : Int32) (mtext : (Nat → Int32)) (mat : Int32) (mnumber : Int32) (mreads : (Nat → Int32)) (mbeyond : Int32) (mjudgedTo : (Nat → Int32)) (mreach : (Nat → Int32)) (mgoes : (Nat → Int32)) (p1 : Int32) (n : Nat) (r : Int32) (hf : f_X7_ringAt n mnow mjudgedTo p1 = some r) : CI l yX7_ringAt wsX7_ringAt 1 22 D cI cC cS [.ref (a0 0), .int p1] ((w_M a0 cI cC mnow mhistory mkept mslot misFilled mgame mmeasures mmost mnumbers mround mtyped mtext mat mnumber mreads mbeyond mjudgedTo mreach mgoes) ++ R) r ((w_M a0 cI cC mnow mhistory mkept mslot misFilled mgame mmeasures mmost mnumbers mround mtyped mtext mat mnumber mreads mbeyond mjudgedTo mreach mgoes) ++ R) := by
  refine XI.of (cc := cX7_ringAt) (maxL := 8) (ty := .int) (own := RX7) (by decide) rfl rfl (Nat.le_of_ble_eq_true rfl) ?_
  intro p e s m args below meth c A Q S hK hN hA hP hD hS ls hl hret
  obtain ⟨hx, hb, hml, hown, hts⟩ := id S
  have hl : lv_has ls 8 [(0, .ref (a0 0)), (1, .int p1)] := hl
  unfold f_X7_ringAt at hf
  refine lv_iconst (v := 0) hx hb dX7_ringAt_0 (by decide) ?_
  refine lv_istore_n (lv' := [(2, .int 0), (0, .ref (a0 0)), (1, .int p1)]) hx hb dX7_ringAt_1 rfl hl (by decide) rfl (fun ls hl => ?_)
  refine lv_iconst (v := 0) hx hb dX7_ringAt_2 (by decide) ?_
  refine lv_istore_n (lv' := [(3, .int 0), (2, .int 0), (0, .ref (a0 0)), (1, .int p1)]) hx hb dX7_ringAt_3 rfl hl (by decide) rfl (fun ls hl => ?_)
  obtain ⟨q2, hq2, hf⟩ := ob_some hf
  have L1 : ∀ (k : Nat) (v_l2_L1 : Int32) (v_l3_L1 : Int32) (q_L1 : Int32), f_X7_ringAt_L4 mnow p1 k v_l2_L1 v_l3_L1 = some q_L1 → ∀ (H : Heap) (locs : List Loc), va_P D vwCl ((w_M a0 cI cC mnow mhistory mkept mslot misFilled mgame mmeasures mmost mnumbers mround mtyped mtext mat mnumber mreads mbeyond mjudgedTo mreach mgoes) ++ R) H → va_D A ((w_M a0 cI cC mnow mhistory mkept mslot misFilled mgame mmeasures mmost mnumbers mround mtyped mtext mat mnumber mreads mbeyond mjudgedTo mreach mgoes) ++ R) → va_S A s.heap H locs → ∀ ls : Array Slot, lv_has ls 8 [(0, .ref (a0 0)), (1, .int p1), (2, .int v_l2_L1), (3, .int v_l3_L1)] → (∀ (H : Heap) (locs : List Loc), va_P D vwCl ((w_M a0 cI cC mnow mhistory mkept mslot misFilled mgame mmeasures mmost mnumbers mround mtyped mtext mat mnumber mreads mbeyond mjudgedTo mreach mgoes) ++ R) H → va_D A ((w_M a0 cI cC mnow mhistory mkept mslot misFilled mgame mmeasures mmost mnumbers mround mtyped mtext mat mnumber mreads mbeyond mjudgedTo mreach mgoes) ++ R) → va_S A s.heap H locs → ∀ ls : Array Slot, lv_has ls 8 [(0, .ref (a0 0)), (1, .int p1), (2, .int q_L1)] → W p l e (xR 1 22) s m args below meth c H locs 0 0 Q (F0 m 46 ls [])) → W p l e (xR 1 22) s m args below meth c H locs 0 0 Q (F0 m 4 ls []) := by
    intro k
    induction k with
    | zero => intro v_l2_L1 v_l3_L1 q_L1 hf; simp [f_X7_ringAt_L4] at hf
    | succ k ih =>
      intro v_l2_L1 v_l3_L1 q_L1 hf H locs hP hD hS ls hl kx
      rw [f_X7_ringAt_L4] at hf
      refine lv_iload_n hx hb dX7_ringAt_4 rfl (lv_at hl 3 rfl) ?_
      refine lv_aload_n hx hb dX7_ringAt_5 rfl (lv_at hl 0 rfl) ?_
      refine va_get (D := D) (ci := 7) (v := .ref (a0 1)) (C := RX7) (T := TX7) (N := 19) hx hb hts inw_X7_ringAt_7 hown hK hP 0 rfl rfl 0 (by decide) (hts (.fieldLink RX7 7 "RingGamesModel" "now" "[I") (List.mem_of_getElem? (i := 1) rfl)) (fun _ h9 => h9) rfl dX7_ringAt_6 ?_
      refine lv_bipush (v := 56) hx hb dX7_ringAt_9 (by decide) ?_
      refine va_iald hx hb hK hP 1 0 rfl rfl (x_in (by decide)) dX7_ringAt_11 ?_
      refine lv_icmp_ge (tgt := 46) hx hb dX7_ringAt_12 (by decide) (fun c3 => ?_) (fun c3 => ?_)
      · have hf := if_t hf c3
        have hf := Option.some.inj hf
        subst hf
        exact kx _ _ hP hD hS _ (lv_sub hl [0, 1, 2] rfl)
      · have hf := if_f hf c3
        refine lv_iload_n hx hb dX7_ringAt_15 rfl (lv_at hl 2 rfl) ?_
        refine lv_aload_n hx hb dX7_ringAt_16 rfl (lv_at hl 0 rfl) ?_
        refine lv_iload_n hx hb dX7_ringAt_17 rfl (lv_at hl 3 rfl) ?_
        refine lv_iconst (v := 1) hx hb dX7_ringAt_18 (by decide) ?_
        obtain ⟨q4, hq4, hf⟩ := ob_some hf
        refine xcVi (w' := ((w_M a0 cI cC mnow mhistory mkept mslot misFilled mgame mmeasures mmost mnumbers mround mtyped mtext mat mnumber mreads mbeyond mjudgedTo mreach mgoes) ++ R)) S hK hN hA hP hD hS (c_X7_of l D cI cC cS R a0 mnow mhistory mkept mslot misFilled mgame mmeasures mmost mnumbers mround mtyped mtext mat mnumber mreads mbeyond mjudgedTo mreach mgoes v_l3_L1 1 _ hq4) gX7_ringAt_X7_of rfl hd_X7_of ⟨by decide, by decide⟩ (List.Perm.refl _) (List.Perm.refl _) (ci := 7) (q := (RX7, TX7, 19)) rfl rfl rfl rfl hl.1 rfl (Nat.le_of_ble_eq_true rfl) dX7_ringAt_19 ⟨Nat.zero_le _, Nat.zero_le _⟩ (fun H locs hP hD hS => ?_)
        refine lv_aload_n hx hb dX7_ringAt_22 rfl (lv_at hl 0 rfl) ?_
        refine lv_iload_n hx hb dX7_ringAt_23 rfl (lv_at hl 1 rfl) ?_
        refine lv_iconst (v := 1) hx hb dX7_ringAt_24 (by decide) ?_
        obtain ⟨q5, hq5, hf⟩ := ob_some hf
        refine xcVi (w' := ((w_M a0 cI cC mnow mhistory mkept mslot misFilled mgame mmeasures mmost mnumbers mround mtyped mtext mat mnumber mreads mbeyond mjudgedTo mreach mgoes) ++ R)) S hK hN hA hP hD hS (c_X7_of l D cI cC cS R a0 mnow mhistory mkept mslot misFilled mgame mmeasures mmost mnumbers mround mtyped mtext mat mnumber mreads mbeyond mjudgedTo mreach mgoes p1 1 _ hq5) gX7_ringAt_X7_of rfl hd_X7_of ⟨by decide, by decide⟩ (List.Perm.refl _) (List.Perm.refl _) (ci := 7) (q := (RX7, TX7, 19)) rfl rfl rfl rfl hl.1 rfl (Nat.le_of_ble_eq_true rfl) dX7_ringAt_25 ⟨Nat.zero_le _, Nat.zero_le _⟩ (fun H locs hP hD hS => ?_)
        refine lv_icmp_lt (tgt := 37) hx hb dX7_ringAt_28 (by decide) (fun c6 => ?_) (fun c6 => ?_)
        · have hf := if_t hf c6
          refine lv_iconst (v := 0) hx hb dX7_ringAt_37 (by decide) ?_
          refine lv_ior hx hb dX7_ringAt_38 ?_
          refine lv_istore_n (lv' := [(2, .int (v_l2_L1 ||| 0)), (0, .ref (a0 0)), (1, .int p1), (3, .int v_l3_L1)]) hx hb dX7_ringAt_39 rfl hl (by decide) rfl (fun ls hl => ?_)
          refine lv_iinc (v := (v_l3_L1 + 1)) (lv' := [(3, .int (v_l3_L1 + 1)), (2, .int (v_l2_L1 ||| 0)), (0, .ref (a0 0)), (1, .int p1)]) hx hb dX7_ringAt_40 hl (k := 3) rfl (congrArg (fun z => v_l3_L1 + z) (by decide)) (by decide) rfl (fun ls hl => ?_)
          refine lv_goto (tgt := 4) hx hb dX7_ringAt_43 (by decide) ?_
          exact ih (v_l2_L1 ||| 0) (v_l3_L1 + 1) _ hf _ _ hP hD hS _ (lv_sub hl [2, 3, 1, 0] rfl) kx
        · have hf := if_f hf c6
          refine lv_iconst (v := 1) hx hb dX7_ringAt_31 (by decide) ?_
          refine lv_iload_n hx hb dX7_ringAt_32 rfl (lv_at hl 3 rfl) ?_
          refine lv_ishl hx hb dX7_ringAt_33 ?_
          refine lv_goto (tgt := 38) hx hb dX7_ringAt_34 (by decide) ?_
          refine lv_ior hx hb dX7_ringAt_38 ?_
          refine lv_istore_n (lv' := [(2, .int (v_l2_L1 ||| (jshl 1 v_l3_L1))), (0, .ref (a0 0)), (1, .int p1), (3, .int v_l3_L1)]) hx hb dX7_ringAt_39 rfl hl (by decide) rfl (fun ls hl => ?_)
          refine lv_iinc (v := (v_l3_L1 + 1)) (lv' := [(3, .int (v_l3_L1 + 1)), (2, .int (v_l2_L1 ||| (jshl 1 v_l3_L1))), (0, .ref (a0 0)), (1, .int p1)]) hx hb dX7_ringAt_40 hl (k := 3) rfl (congrArg (fun z => v_l3_L1 + z) (by decide)) (by decide) rfl (fun ls hl => ?_)
          refine lv_goto (tgt := 4) hx hb dX7_ringAt_43 (by decide) ?_
          exact ih (v_l2_L1 ||| (jshl 1 v_l3_L1)) (v_l3_L1 + 1) _ hf _ _ hP hD hS _ (lv_sub hl [2, 3, 1, 0] rfl) kx
  refine L1 n 0 0 q2 hq2 _ _ hP hD hS _ (lv_sub hl [2, 3, 1, 0] rfl) ?_
  clear hP hD hS hl
  intro H locs hP hD hS ls hl
  refine lv_iconst (v := 0) hx hb dX7_ringAt_46 (by decide) ?_
  refine lv_istore_n (lv' := [(3, .int 0), (0, .ref (a0 0)), (1, .int p1), (2, .int q2)]) hx hb dX7_ringAt_47 rfl hl (by decide) rfl (fun ls hl => ?_)
  refine lv_iconst (v := 1) hx hb dX7_ringAt_48 (by decide) ?_
  refine lv_iload_n hx hb dX7_ringAt_49 rfl (lv_at hl 2 rfl) ?_
  refine lv_ishl hx hb dX7_ringAt_50 ?_
  refine lv_istore (lv' := [(4, .int (jshl 1 p1)), (3, .int 0), (0, .ref (a0 0)), (1, .int p1), (2, .int q2)]) hx hb dX7_ringAt_51 hl (by decide) rfl (fun ls hl => ?_)
  refine lv_iconst (v := 1) hx hb dX7_ringAt_53 (by decide) ?_
  refine lv_istore (lv' := [(5, .int 1), (4, .int (jshl 1 p1)), (3, .int 0), (0, .ref (a0 0)), (1, .int p1), (2, .int q2)]) hx hb dX7_ringAt_54 hl (by decide) rfl (fun ls hl => ?_)
  have L7 : ∀ (k : Nat) (v_l3_L7 : Int32) (v_l4_L7 : Int32) (v_l5_L7 : Int32), f_X7_ringAt_L56 n mnow mjudgedTo p1 q2 k v_l3_L7 v_l4_L7 v_l5_L7 = some r → ∀ (H : Heap) (locs : List Loc), va_P D vwCl ((w_M a0 cI cC mnow mhistory mkept mslot misFilled mgame mmeasures mmost mnumbers mround mtyped mtext mat mnumber mreads mbeyond mjudgedTo mreach mgoes) ++ R) H → va_D A ((w_M a0 cI cC mnow mhistory mkept mslot misFilled mgame mmeasures mmost mnumbers mround mtyped mtext mat mnumber mreads mbeyond mjudgedTo mreach mgoes) ++ R) → va_S A s.heap H locs → ∀ ls : Array Slot, lv_has ls 8 [(0, .ref (a0 0)), (1, .int p1), (2, .int q2), (3, .int v_l3_L7), (4, .int v_l4_L7), (5, .int v_l5_L7)] → W p l e (xR 1 22) s m args below meth c H locs 0 0 Q (F0 m 56 ls []) := by
    intro k
    induction k with
    | zero => intro v_l3_L7 v_l4_L7 v_l5_L7 hf; simp [f_X7_ringAt_L56] at hf
    | succ k ih =>
      intro v_l3_L7 v_l4_L7 v_l5_L7 hf H locs hP hD hS ls hl
      rw [f_X7_ringAt_L56] at hf
      refine lv_iload hx hb dX7_ringAt_56 (lv_at hl 4 rfl) ?_
      refine lv_if_eq (tgt := 146) hx hb dX7_ringAt_58 (by decide) (fun c9 => ?_) (fun c9 => ?_)
      · have hf := if_t hf c9
        refine lv_bipush (v := (-5)) hx hb dX7_ringAt_146 (by decide) ?_
        have hf := Option.some.inj hf
        subst hf
        exact hret _ _ _ _ _ dX7_ringAt_148 rfl hP hD hS rfl
      · have hf := if_f hf c9
        refine lv_iconst (v := 0) hx hb dX7_ringAt_61 (by decide) ?_
        refine lv_istore (lv' := [(6, .int 0), (0, .ref (a0 0)), (1, .int p1), (2, .int q2), (3, .int v_l3_L7), (4, .int v_l4_L7), (5, .int v_l5_L7)]) hx hb dX7_ringAt_62 hl (by decide) rfl (fun ls hl => ?_)
        refine lv_iconst (v := 0) hx hb dX7_ringAt_64 (by decide) ?_
        refine lv_istore (lv' := [(7, .int 0), (6, .int 0), (0, .ref (a0 0)), (1, .int p1), (2, .int q2), (3, .int v_l3_L7), (4, .int v_l4_L7), (5, .int v_l5_L7)]) hx hb dX7_ringAt_65 hl (by decide) rfl (fun ls hl => ?_)
        obtain ⟨q11, hq11, hf⟩ := ob_some hf
        have L10 : ∀ (k : Nat) (v_l6_L10 : Int32) (v_l7_L10 : Int32) (q_L10 : Int32), f_X7_ringAt_L67 mnow mjudgedTo q2 v_l4_L7 k v_l6_L10 v_l7_L10 = some q_L10 → ∀ (H : Heap) (locs : List Loc), va_P D vwCl ((w_M a0 cI cC mnow mhistory mkept mslot misFilled mgame mmeasures mmost mnumbers mround mtyped mtext mat mnumber mreads mbeyond mjudgedTo mreach mgoes) ++ R) H → va_D A ((w_M a0 cI cC mnow mhistory mkept mslot misFilled mgame mmeasures mmost mnumbers mround mtyped mtext mat mnumber mreads mbeyond mjudgedTo mreach mgoes) ++ R) → va_S A s.heap H locs → ∀ ls : Array Slot, lv_has ls 8 [(0, .ref (a0 0)), (1, .int p1), (2, .int q2), (3, .int v_l3_L7), (4, .int v_l4_L7), (5, .int v_l5_L7), (6, .int v_l6_L10), (7, .int v_l7_L10)] → (∀ (H : Heap) (locs : List Loc), va_P D vwCl ((w_M a0 cI cC mnow mhistory mkept mslot misFilled mgame mmeasures mmost mnumbers mround mtyped mtext mat mnumber mreads mbeyond mjudgedTo mreach mgoes) ++ R) H → va_D A ((w_M a0 cI cC mnow mhistory mkept mslot misFilled mgame mmeasures mmost mnumbers mround mtyped mtext mat mnumber mreads mbeyond mjudgedTo mreach mgoes) ++ R) → va_S A s.heap H locs → ∀ ls : Array Slot, lv_has ls 8 [(0, .ref (a0 0)), (1, .int p1), (2, .int q2), (3, .int v_l3_L7), (5, .int v_l5_L7), (6, .int q_L10)] → W p l e (xR 1 22) s m args below meth c H locs 0 0 Q (F0 m 114 ls [])) → W p l e (xR 1 22) s m args below meth c H locs 0 0 Q (F0 m 67 ls []) := by
          intro k
          induction k with
          | zero => intro v_l6_L10 v_l7_L10 q_L10 hf; simp [f_X7_ringAt_L67] at hf
          | succ k ih =>
            intro v_l6_L10 v_l7_L10 q_L10 hf H locs hP hD hS ls hl kx
            rw [f_X7_ringAt_L67] at hf
            refine lv_iload hx hb dX7_ringAt_67 (lv_at hl 7 rfl) ?_
            refine lv_aload_n hx hb dX7_ringAt_69 rfl (lv_at hl 0 rfl) ?_
            refine va_get (D := D) (ci := 7) (v := .ref (a0 1)) (C := RX7) (T := TX7) (N := 19) hx hb hts inw_X7_ringAt_7 hown hK hP 0 rfl rfl 0 (by decide) (hts (.fieldLink RX7 7 "RingGamesModel" "now" "[I") (List.mem_of_getElem? (i := 1) rfl)) (fun _ h9 => h9) rfl dX7_ringAt_70 ?_
            refine lv_bipush (v := 56) hx hb dX7_ringAt_73 (by decide) ?_
            refine va_iald hx hb hK hP 1 0 rfl rfl (x_in (by decide)) dX7_ringAt_75 ?_
            refine lv_icmp_ge (tgt := 114) hx hb dX7_ringAt_76 (by decide) (fun c12 => ?_) (fun c12 => ?_)
            · have hf := if_t hf c12
              have hf := Option.some.inj hf
              subst hf
              exact kx _ _ hP hD hS _ (lv_sub hl [0, 1, 2, 3, 5, 6] rfl)
            · have hf := if_f hf c12
              refine lv_iload hx hb dX7_ringAt_79 (lv_at hl 6 rfl) ?_
              refine lv_iload hx hb dX7_ringAt_81 (lv_at hl 4 rfl) ?_
              refine lv_iload hx hb dX7_ringAt_83 (lv_at hl 7 rfl) ?_
              refine lv_ishr hx hb dX7_ringAt_85 ?_
              refine lv_iconst (v := 1) hx hb dX7_ringAt_86 (by decide) ?_
              refine lv_iand hx hb dX7_ringAt_87 ?_
              refine lv_iconst (v := 1) hx hb dX7_ringAt_88 (by decide) ?_
              refine lv_icmp_ne (tgt := 104) hx hb dX7_ringAt_89 (by decide) (fun c13 => ?_) (fun c13 => ?_)
              · have hf := if_f hf c13
                refine lv_iconst (v := 0) hx hb dX7_ringAt_104 (by decide) ?_
                refine lv_ior hx hb dX7_ringAt_105 ?_
                refine lv_istore (lv' := [(6, .int (v_l6_L10 ||| 0)), (0, .ref (a0 0)), (1, .int p1), (2, .int q2), (3, .int v_l3_L7), (4, .int v_l4_L7), (5, .int v_l5_L7), (7, .int v_l7_L10)]) hx hb dX7_ringAt_106 hl (by decide) rfl (fun ls hl => ?_)
                refine lv_iinc (v := (v_l7_L10 + 1)) (lv' := [(7, .int (v_l7_L10 + 1)), (6, .int (v_l6_L10 ||| 0)), (0, .ref (a0 0)), (1, .int p1), (2, .int q2), (3, .int v_l3_L7), (4, .int v_l4_L7), (5, .int v_l5_L7)]) hx hb dX7_ringAt_108 hl (k := 7) rfl (congrArg (fun z => v_l7_L10 + z) (by decide)) (by decide) rfl (fun ls hl => ?_)
                refine lv_goto (tgt := 67) hx hb dX7_ringAt_111 (by decide) ?_
                exact ih (v_l6_L10 ||| 0) (v_l7_L10 + 1) _ hf _ _ hP hD hS _ (lv_sub hl [2, 3, 4, 5, 6, 7, 1, 0] rfl) kx
              · have hf := if_t hf c13
                refine lv_aload_n hx hb dX7_ringAt_92 rfl (lv_at hl 0 rfl) ?_
                refine va_get (D := D) (ci := 7) (v := .ref (a0 9)) (C := RX7) (T := TX7) (N := 19) hx hb hts inw_X7_ringAt_7 hown hK hP 0 rfl rfl 16 (by decide) (hts (.fieldLink RX7 35 "RingGamesModel" "judgedTo" "[I") (List.mem_of_getElem? (i := 2) rfl)) (fun _ h9 => h9) rfl dX7_ringAt_93 ?_
                refine lv_iload hx hb dX7_ringAt_96 (lv_at hl 7 rfl) ?_
                obtain ⟨g14, hf⟩ := vg_some hf
                refine va_iald hx hb hK hP 9 0 rfl rfl g14 dX7_ringAt_98 ?_
                refine lv_iload_n hx hb dX7_ringAt_99 rfl (lv_at hl 2 rfl) ?_
                refine lv_iand hx hb dX7_ringAt_100 ?_
                refine lv_goto (tgt := 105) hx hb dX7_ringAt_101 (by decide) ?_
                refine lv_ior hx hb dX7_ringAt_105 ?_
                refine lv_istore (lv' := [(6, .int (v_l6_L10 ||| ((mjudgedTo (v_l7_L10).toNatClampNeg) &&& q2))), (0, .ref (a0 0)), (1, .int p1), (2, .int q2), (3, .int v_l3_L7), (4, .int v_l4_L7), (5, .int v_l5_L7), (7, .int v_l7_L10)]) hx hb dX7_ringAt_106 hl (by decide) rfl (fun ls hl => ?_)
                refine lv_iinc (v := (v_l7_L10 + 1)) (lv' := [(7, .int (v_l7_L10 + 1)), (6, .int (v_l6_L10 ||| ((mjudgedTo (v_l7_L10).toNatClampNeg) &&& q2))), (0, .ref (a0 0)), (1, .int p1), (2, .int q2), (3, .int v_l3_L7), (4, .int v_l4_L7), (5, .int v_l5_L7)]) hx hb dX7_ringAt_108 hl (k := 7) rfl (congrArg (fun z => v_l7_L10 + z) (by decide)) (by decide) rfl (fun ls hl => ?_)
                refine lv_goto (tgt := 67) hx hb dX7_ringAt_111 (by decide) ?_
                exact ih (v_l6_L10 ||| ((mjudgedTo (v_l7_L10).toNatClampNeg) &&& q2)) (v_l7_L10 + 1) _ hf _ _ hP hD hS _ (lv_sub hl [2, 3, 4, 5, 6, 7, 1, 0] rfl) kx
        refine L10 n 0 0 q11 hq11 _ _ hP hD hS _ (lv_sub hl [2, 3, 4, 5, 6, 7, 1, 0] rfl) ?_
        clear hP hD hS hl
        intro H locs hP hD hS ls hl
        refine lv_iload hx hb dX7_ringAt_114 (lv_at hl 5 rfl) ?_
        refine lv_iload_n hx hb dX7_ringAt_116 rfl (lv_at hl 1 rfl) ?_
        refine lv_ishr hx hb dX7_ringAt_117 ?_
        refine lv_iconst (v := 1) hx hb dX7_ringAt_118 (by decide) ?_
        refine lv_iand hx hb dX7_ringAt_119 ?_
        refine lv_iconst (v := 1) hx hb dX7_ringAt_120 (by decide) ?_
        refine lv_icmp_ne (tgt := 127) hx hb dX7_ringAt_121 (by decide) (fun c15 => ?_) (fun c15 => ?_)
        · have hf := if_f hf c15
          refine lv_iload hx hb dX7_ringAt_127 (lv_at hl 5 rfl) ?_
          refine lv_iload_n hx hb dX7_ringAt_129 rfl (lv_at hl 3 rfl) ?_
          refine lv_iconst (v := (-1)) hx hb dX7_ringAt_130 (by decide) ?_
          refine lv_ixor hx hb dX7_ringAt_131 ?_
          refine lv_iand hx hb dX7_ringAt_132 ?_
          refine lv_istore (lv' := [(4, .int (q11 &&& (v_l3_L7 ^^^ (-1)))), (0, .ref (a0 0)), (1, .int p1), (2, .int q2), (3, .int v_l3_L7), (5, .int v_l5_L7), (6, .int q11)]) hx hb dX7_ringAt_133 hl (by decide) rfl (fun ls hl => ?_)
          refine lv_iload_n hx hb dX7_ringAt_135 rfl (lv_at hl 4 rfl) ?_
          refine lv_iload hx hb dX7_ringAt_136 (lv_at hl 6 rfl) ?_
          refine lv_ior hx hb dX7_ringAt_138 ?_
          refine lv_istore_n (lv' := [(3, .int (v_l3_L7 ||| q11)), (4, .int (q11 &&& (v_l3_L7 ^^^ (-1)))), (0, .ref (a0 0)), (1, .int p1), (2, .int q2), (5, .int v_l5_L7), (6, .int q11)]) hx hb dX7_ringAt_139 rfl hl (by decide) rfl (fun ls hl => ?_)
          refine lv_iinc (v := (v_l5_L7 + 1)) (lv' := [(5, .int (v_l5_L7 + 1)), (3, .int (v_l3_L7 ||| q11)), (4, .int (q11 &&& (v_l3_L7 ^^^ (-1)))), (0, .ref (a0 0)), (1, .int p1), (2, .int q2), (6, .int q11)]) hx hb dX7_ringAt_140 hl (k := 5) rfl (congrArg (fun z => v_l5_L7 + z) (by decide)) (by decide) rfl (fun ls hl => ?_)
          refine lv_goto (tgt := 56) hx hb dX7_ringAt_143 (by decide) ?_
          exact ih (v_l3_L7 ||| q11) (q11 &&& (v_l3_L7 ^^^ (-1))) (v_l5_L7 + 1) hf _ _ hP hD hS _ (lv_sub hl [3, 4, 5, 1, 2, 0] rfl)
        · have hf := if_t hf c15
          refine lv_iload hx hb dX7_ringAt_124 (lv_at hl 4 rfl) ?_
          have hf := Option.some.inj hf
          subst hf
          exact hret _ _ _ _ _ dX7_ringAt_126 rfl hP hD hS rfl
  exact L7 n 0 (jshl 1 p1) 1 hf _ _ hP hD hS _ (lv_sub hl [3, 4, 5, 2, 1, 0] rfl)
def f_X7_badRings_L42 (n : Nat) (d_mnow : (Nat → Int32)) (d_mjudgedTo : (Nat → Int32)) (d_l1 : Int32) (d_l2 : Int32) : Nat → Int32 → Int32 → Option Int32
  | 0, _, _ => none
  | k + 1, d_l3, d_l4 => (if (d_mnow 56) ≤ d_l4 then some (d_l3) else (f_X7_of d_mnow d_l4 1).bind fun q8 => ((if (jrem q8 2) = d_l1 then some ((-5)) else (f_X7_ringAt n d_mnow d_mjudgedTo d_l4).bind fun q19 => some (q19)) : Option Int32).bind fun j10 => ((if d_l2 = 1 then (f_X7_of d_mnow d_l4 1).bind fun q18 => some (q18) else some (j10)) : Option Int32).bind fun j13 => (if j10 = (-5) then f_X7_badRings_L42 n d_mnow d_mjudgedTo d_l1 d_l2 k d_l3 (d_l4 + 1) else (if d_l3 = (-5) then f_X7_badRings_L42 n d_mnow d_mjudgedTo d_l1 d_l2 k j13 (d_l4 + 1) else (if d_l3 ≤ j13 then f_X7_badRings_L42 n d_mnow d_mjudgedTo d_l1 d_l2 k d_l3 (d_l4 + 1) else f_X7_badRings_L42 n d_mnow d_mjudgedTo d_l1 d_l2 k j13 (d_l4 + 1)))))
def f_X7_badRings (n : Nat) (mnow : (Nat → Int32)) (mjudgedTo : (Nat → Int32)) (mreach : (Nat → Int32)) (p1 : Int32) (p2 : Int32) : Option (Int32 × (Nat → Int32) × (Nat → Int32)) := (f_X7_noPlayer p1).bind fun q1 => (if q1 = 0 then (if p2 = 0 then (f_X7_allBad n mnow mjudgedTo mreach p1).bind fun q22 => some (q22.1, q22.2.1, q22.2.2) else (f_X7_in p2 1 2).bind fun q4 => (if q4 = 0 then some ((-2), mjudgedTo, mreach) else (f_X7_judges n mnow mjudgedTo p1).bind fun q6 => (f_X7_badRings_L42 n mnow q6 p1 p2 n (-5) 0).bind fun q8 => some (q8, q6, mreach))) else some ((-1), mjudgedTo, mreach))
theorem inw_X7_badRings_7 : ∀ w ∈ wsX70, w ∈ wsX7_badRings := fun _ h => List.mem_cons_of_mem _ (List.mem_append_right _ h)
theorem hd_X7_badRings : yX7_badRings.cls = RX7 ∧ yX7_badRings.cls ≠ "java/lang/invoke/MethodHandle" ∧ yX7_badRings.cls ≠ "java/lang/invoke/VarHandle" ∧ (parseMethodDescriptor yX7_badRings.desc).map (fun d => d.parameters.length) = some 2 := by decide +kernel
set_option maxHeartbeats 4000000 in
set_option maxRecDepth 100000 in
theorem c_X7_badRings (l : Launch) (D : va_G) (cI cC cS : ClassId) (R : va_W) (a0 : Nat → Nat) (mnow : (Nat → Int32)) (mhistory : (Nat → Int32)) (mkept : Int32) (mslot : (Nat → Int32)) (misFilled : Int32) (mgame : Int32) (mmeasures : (Nat → Int32)) (mmost : (Nat → Int32)) (mnumbers : (Nat → Int32)) (mround : Int32) (mtyped : Int32) (mtext : (Nat → Int32)) (mat : Int32) (mnumber : Int32) (mreads : (Nat → Int32)) (mbeyond : Int32) (mjudgedTo : (Nat → Int32)) (mreach : (Nat → Int32)) (mgoes : (Nat → Int32)) (p1 : Int32) (p2 : Int32) (n : Nat) (r : Int32 × (Nat → Int32) × (Nat → Int32)) (hf : f_X7_badRings n mnow mjudgedTo mreach p1 p2 = some r) : CI l yX7_badRings wsX7_badRings 4 95 D cI cC cS [.ref (a0 0), .int p1, .int p2] ((w_M a0 cI cC mnow mhistory mkept mslot misFilled mgame mmeasures mmost mnumbers mround mtyped mtext mat mnumber mreads mbeyond mjudgedTo mreach mgoes) ++ R) r.1 ((w_M a0 cI cC mnow mhistory mkept mslot misFilled mgame mmeasures mmost mnumbers mround mtyped mtext mat mnumber mreads mbeyond r.2.1 r.2.2 mgoes) ++ R) := by
  refine XI.of (cc := cX7_badRings) (maxL := 7) (ty := .int) (own := RX7) (by decide) rfl rfl (Nat.le_of_ble_eq_true rfl) ?_
  intro p e s m args below meth c A Q S hK hN hA hP hD hS ls hl hret
  obtain ⟨hx, hb, hml, hown, hts⟩ := id S
  have hl : lv_has ls 7 [(0, .ref (a0 0)), (1, .int p1), (2, .int p2)] := hl
  unfold f_X7_badRings at hf
  refine lv_iload_n hx hb dX7_badRings_0 rfl (lv_at hl 1 rfl) ?_
  obtain ⟨q1, hq1, hf⟩ := ob_some hf
  refine xcSi S hK hN hA hP hD hS (c_X7_noPlayer l D cI cC cS ((w_M a0 cI cC mnow mhistory mkept mslot misFilled mgame mmeasures mmost mnumbers mround mtyped mtext mat mnumber mreads mbeyond mjudgedTo mreach mgoes) ++ R) p1 _ hq1) gX7_badRings_X7_noPlayer rfl hd_X7_noPlayer ⟨by decide, by decide⟩ rfl hl.1 rfl (Nat.le_of_ble_eq_true rfl) dX7_badRings_1 ⟨Nat.zero_le _, Nat.zero_le _⟩ (fun H locs hP hD hS => ?_)
  refine lv_if_eq (tgt := 9) hx hb dX7_badRings_4 (by decide) (fun c2 => ?_) (fun c2 => ?_)
  · have hf := if_t hf c2
    refine lv_iload_n hx hb dX7_badRings_9 rfl (lv_at hl 2 rfl) ?_
    refine lv_if_ne (tgt := 19) hx hb dX7_badRings_10 (by decide) (fun c3 => ?_) (fun c3 => ?_)
    · have hf := if_f hf c3
      refine lv_iload_n hx hb dX7_badRings_19 rfl (lv_at hl 2 rfl) ?_
      refine lv_iconst (v := 1) hx hb dX7_badRings_20 (by decide) ?_
      refine lv_iconst (v := 2) hx hb dX7_badRings_21 (by decide) ?_
      obtain ⟨q4, hq4, hf⟩ := ob_some hf
      refine xcSi S hK hN hA hP hD hS (c_X7_in l D cI cC cS ((w_M a0 cI cC mnow mhistory mkept mslot misFilled mgame mmeasures mmost mnumbers mround mtyped mtext mat mnumber mreads mbeyond mjudgedTo mreach mgoes) ++ R) p2 1 2 _ hq4) gX7_badRings_X7_in rfl hd_X7_in ⟨by decide, by decide⟩ rfl hl.1 rfl (Nat.le_of_ble_eq_true rfl) dX7_badRings_22 ⟨Nat.zero_le _, Nat.zero_le _⟩ (fun H locs hP hD hS => ?_)
      refine lv_if_ne (tgt := 31) hx hb dX7_badRings_25 (by decide) (fun c5 => ?_) (fun c5 => ?_)
      · have hf := if_f hf c5
        refine lv_aload_n hx hb dX7_badRings_31 rfl (lv_at hl 0 rfl) ?_
        refine lv_iload_n hx hb dX7_badRings_32 rfl (lv_at hl 1 rfl) ?_
        obtain ⟨q6, hq6, hf⟩ := ob_some hf
        refine xcVv (w' := ((w_M a0 cI cC mnow mhistory mkept mslot misFilled mgame mmeasures mmost mnumbers mround mtyped mtext mat mnumber mreads mbeyond q6 mreach mgoes) ++ R)) S hK hN hA hP hD hS (c_X7_judges l D cI cC cS R a0 mnow mhistory mkept mslot misFilled mgame mmeasures mmost mnumbers mround mtyped mtext mat mnumber mreads mbeyond mjudgedTo mreach mgoes p1 n _ hq6) gX7_badRings_X7_judges rfl hd_X7_judges ⟨by decide, by decide⟩ (List.Perm.refl _) (List.Perm.refl _) (ci := 7) (q := (RX7, TX7, 19)) rfl rfl rfl rfl hl.1 rfl (Nat.le_of_ble_eq_true rfl) dX7_badRings_33 ⟨Nat.zero_le _, Nat.zero_le _⟩ (fun H locs hP hD hS => ?_)
        refine lv_bipush (v := (-5)) hx hb dX7_badRings_36 (by decide) ?_
        refine lv_istore_n (lv' := [(3, .int (-5)), (0, .ref (a0 0)), (1, .int p1), (2, .int p2)]) hx hb dX7_badRings_38 rfl hl (by decide) rfl (fun ls hl => ?_)
        refine lv_iconst (v := 0) hx hb dX7_badRings_39 (by decide) ?_
        refine lv_istore (lv' := [(4, .int 0), (3, .int (-5)), (0, .ref (a0 0)), (1, .int p1), (2, .int p2)]) hx hb dX7_badRings_40 hl (by decide) rfl (fun ls hl => ?_)
        obtain ⟨q8, hq8, hf⟩ := ob_some hf
        have L7 : ∀ (k : Nat) (v_l3_L7 : Int32) (v_l4_L7 : Int32) (q_L7 : Int32), f_X7_badRings_L42 n mnow q6 p1 p2 k v_l3_L7 v_l4_L7 = some q_L7 → ∀ (H : Heap) (locs : List Loc), va_P D vwCl ((w_M a0 cI cC mnow mhistory mkept mslot misFilled mgame mmeasures mmost mnumbers mround mtyped mtext mat mnumber mreads mbeyond q6 mreach mgoes) ++ R) H → va_D A ((w_M a0 cI cC mnow mhistory mkept mslot misFilled mgame mmeasures mmost mnumbers mround mtyped mtext mat mnumber mreads mbeyond q6 mreach mgoes) ++ R) → va_S A s.heap H locs → ∀ ls : Array Slot, lv_has ls 7 [(0, .ref (a0 0)), (1, .int p1), (2, .int p2), (3, .int v_l3_L7), (4, .int v_l4_L7)] → (∀ (H : Heap) (locs : List Loc), va_P D vwCl ((w_M a0 cI cC mnow mhistory mkept mslot misFilled mgame mmeasures mmost mnumbers mround mtyped mtext mat mnumber mreads mbeyond q6 mreach mgoes) ++ R) H → va_D A ((w_M a0 cI cC mnow mhistory mkept mslot misFilled mgame mmeasures mmost mnumbers mround mtyped mtext mat mnumber mreads mbeyond q6 mreach mgoes) ++ R) → va_S A s.heap H locs → ∀ ls : Array Slot, lv_has ls 7 [(3, .int q_L7)] → W p l e (xR 4 95) s m args below meth c H locs 0 0 Q (F0 m 131 ls [])) → W p l e (xR 4 95) s m args below meth c H locs 0 0 Q (F0 m 42 ls []) := by
          intro k
          induction k with
          | zero => intro v_l3_L7 v_l4_L7 q_L7 hf; simp [f_X7_badRings_L42] at hf
          | succ k ih =>
            intro v_l3_L7 v_l4_L7 q_L7 hf H locs hP hD hS ls hl kx
            rw [f_X7_badRings_L42] at hf
            refine lv_iload hx hb dX7_badRings_42 (lv_at hl 4 rfl) ?_
            refine lv_aload_n hx hb dX7_badRings_44 rfl (lv_at hl 0 rfl) ?_
            refine va_get (D := D) (ci := 7) (v := .ref (a0 1)) (C := RX7) (T := TX7) (N := 19) hx hb hts inw_X7_badRings_7 hown hK hP 0 rfl rfl 0 (by decide) (hts (.fieldLink RX7 7 "RingGamesModel" "now" "[I") (List.mem_of_getElem? (i := 1) rfl)) (fun _ h9 => h9) rfl dX7_badRings_45 ?_
            refine lv_bipush (v := 56) hx hb dX7_badRings_48 (by decide) ?_
            refine va_iald hx hb hK hP 1 0 rfl rfl (x_in (by decide)) dX7_badRings_50 ?_
            refine lv_icmp_ge (tgt := 131) hx hb dX7_badRings_51 (by decide) (fun c9 => ?_) (fun c9 => ?_)
            · have hf := if_t hf c9
              have hf := Option.some.inj hf
              subst hf
              exact kx _ _ hP hD hS _ (lv_sub hl [3] rfl)
            · have hf := if_f hf c9
              refine lv_aload_n hx hb dX7_badRings_54 rfl (lv_at hl 0 rfl) ?_
              refine lv_iload hx hb dX7_badRings_55 (lv_at hl 4 rfl) ?_
              refine lv_iconst (v := 1) hx hb dX7_badRings_57 (by decide) ?_
              obtain ⟨q10, hq10, hf⟩ := ob_some hf
              refine xcVi (w' := ((w_M a0 cI cC mnow mhistory mkept mslot misFilled mgame mmeasures mmost mnumbers mround mtyped mtext mat mnumber mreads mbeyond q6 mreach mgoes) ++ R)) S hK hN hA hP hD hS (c_X7_of l D cI cC cS R a0 mnow mhistory mkept mslot misFilled mgame mmeasures mmost mnumbers mround mtyped mtext mat mnumber mreads mbeyond q6 mreach mgoes v_l4_L7 1 _ hq10) gX7_badRings_X7_of rfl hd_X7_of ⟨by decide, by decide⟩ (List.Perm.refl _) (List.Perm.refl _) (ci := 7) (q := (RX7, TX7, 19)) rfl rfl rfl rfl hl.1 rfl (Nat.le_of_ble_eq_true rfl) dX7_badRings_58 ⟨Nat.zero_le _, Nat.zero_le _⟩ (fun H locs hP hD hS => ?_)
              refine lv_iconst (v := 2) hx hb dX7_badRings_61 (by decide) ?_
              refine lv_irem hx hb dX7_badRings_62 (by decide) ?_
              refine lv_iload_n hx hb dX7_badRings_63 rfl (lv_at hl 1 rfl) ?_
              obtain ⟨j12, hj12, hf⟩ := ob_some hf
              have J13 : ∀ (H : Heap) (locs : List Loc), va_P D vwCl ((w_M a0 cI cC mnow mhistory mkept mslot misFilled mgame mmeasures mmost mnumbers mround mtyped mtext mat mnumber mreads mbeyond q6 mreach mgoes) ++ R) H → va_D A ((w_M a0 cI cC mnow mhistory mkept mslot misFilled mgame mmeasures mmost mnumbers mround mtyped mtext mat mnumber mreads mbeyond q6 mreach mgoes) ++ R) → va_S A s.heap H locs → ∀ ls : Array Slot, lv_has ls 7 [(0, .ref (a0 0)), (1, .int p1), (2, .int p2), (3, .int v_l3_L7), (4, .int v_l4_L7)] → W p l e (xR 4 95) s m args below meth c H locs 0 0 Q (F0 m 78 ls [.int j12]) := by
                intro H locs hP hD hS ls hl
                refine lv_istore (lv' := [(5, .int j12), (0, .ref (a0 0)), (1, .int p1), (2, .int p2), (3, .int v_l3_L7), (4, .int v_l4_L7)]) hx hb dX7_badRings_78 hl (by decide) rfl (fun ls hl => ?_)
                refine lv_iload_n hx hb dX7_badRings_80 rfl (lv_at hl 3 rfl) ?_
                refine lv_iconst (v := 1) hx hb dX7_badRings_81 (by decide) ?_
                obtain ⟨j15, hj15, hf⟩ := ob_some hf
                have J16 : ∀ (H : Heap) (locs : List Loc), va_P D vwCl ((w_M a0 cI cC mnow mhistory mkept mslot misFilled mgame mmeasures mmost mnumbers mround mtyped mtext mat mnumber mreads mbeyond q6 mreach mgoes) ++ R) H → va_D A ((w_M a0 cI cC mnow mhistory mkept mslot misFilled mgame mmeasures mmost mnumbers mround mtyped mtext mat mnumber mreads mbeyond q6 mreach mgoes) ++ R) → va_S A s.heap H locs → ∀ ls : Array Slot, lv_has ls 7 [(0, .ref (a0 0)), (1, .int p1), (2, .int p2), (3, .int v_l3_L7), (4, .int v_l4_L7), (5, .int j12)] → W p l e (xR 4 95) s m args below meth c H locs 0 0 Q (F0 m 97 ls [.int j15]) := by
                  intro H locs hP hD hS ls hl
                  refine lv_istore (lv' := [(6, .int j15), (0, .ref (a0 0)), (1, .int p1), (2, .int p2), (3, .int v_l3_L7), (4, .int v_l4_L7), (5, .int j12)]) hx hb dX7_badRings_97 hl (by decide) rfl (fun ls hl => ?_)
                  refine lv_iload hx hb dX7_badRings_99 (lv_at hl 6 rfl) ?_
                  refine lv_bipush (v := (-5)) hx hb dX7_badRings_101 (by decide) ?_
                  refine lv_icmp_eq (tgt := 123) hx hb dX7_badRings_103 (by decide) (fun c17 => ?_) (fun c17 => ?_)
                  · have hf := if_t hf c17
                    refine lv_iload_n hx hb dX7_badRings_123 rfl (lv_at hl 4 rfl) ?_
                    refine lv_istore_n (lv' := [(3, .int v_l3_L7), (6, .int j15), (0, .ref (a0 0)), (1, .int p1), (2, .int p2), (4, .int v_l4_L7), (5, .int j12)]) hx hb dX7_badRings_124 rfl hl (by decide) rfl (fun ls hl => ?_)
                    refine lv_iinc (v := (v_l4_L7 + 1)) (lv' := [(4, .int (v_l4_L7 + 1)), (3, .int v_l3_L7), (6, .int j15), (0, .ref (a0 0)), (1, .int p1), (2, .int p2), (5, .int j12)]) hx hb dX7_badRings_125 hl (k := 5) rfl (congrArg (fun z => v_l4_L7 + z) (by decide)) (by decide) rfl (fun ls hl => ?_)
                    refine lv_goto (tgt := 42) hx hb dX7_badRings_128 (by decide) ?_
                    exact ih v_l3_L7 (v_l4_L7 + 1) _ hf _ _ hP hD hS _ (lv_sub hl [3, 4, 5, 1, 0] rfl) kx
                  · have hf := if_f hf c17
                    refine lv_iload_n hx hb dX7_badRings_106 rfl (lv_at hl 4 rfl) ?_
                    refine lv_bipush (v := (-5)) hx hb dX7_badRings_107 (by decide) ?_
                    refine lv_icmp_eq (tgt := 118) hx hb dX7_badRings_109 (by decide) (fun c18 => ?_) (fun c18 => ?_)
                    · have hf := if_t hf c18
                      refine lv_iload hx hb dX7_badRings_118 (lv_at hl 0 rfl) ?_
                      refine lv_goto (tgt := 124) hx hb dX7_badRings_120 (by decide) ?_
                      refine lv_istore_n (lv' := [(3, .int j15), (6, .int j15), (0, .ref (a0 0)), (1, .int p1), (2, .int p2), (4, .int v_l4_L7), (5, .int j12)]) hx hb dX7_badRings_124 rfl hl (by decide) rfl (fun ls hl => ?_)
                      refine lv_iinc (v := (v_l4_L7 + 1)) (lv' := [(4, .int (v_l4_L7 + 1)), (3, .int j15), (6, .int j15), (0, .ref (a0 0)), (1, .int p1), (2, .int p2), (5, .int j12)]) hx hb dX7_badRings_125 hl (k := 5) rfl (congrArg (fun z => v_l4_L7 + z) (by decide)) (by decide) rfl (fun ls hl => ?_)
                      refine lv_goto (tgt := 42) hx hb dX7_badRings_128 (by decide) ?_
                      exact ih j15 (v_l4_L7 + 1) _ hf _ _ hP hD hS _ (lv_sub hl [3, 4, 5, 1, 0] rfl) kx
                    · have hf := if_f hf c18
                      refine lv_iload hx hb dX7_badRings_112 (lv_at hl 0 rfl) ?_
                      refine lv_iload_n hx hb dX7_badRings_114 rfl (lv_at hl 4 rfl) ?_
                      refine lv_icmp_ge (tgt := 123) hx hb dX7_badRings_115 (by decide) (fun c19 => ?_) (fun c19 => ?_)
                      · have hf := if_t hf c19
                        refine lv_iload_n hx hb dX7_badRings_123 rfl (lv_at hl 4 rfl) ?_
                        refine lv_istore_n (lv' := [(3, .int v_l3_L7), (6, .int j15), (0, .ref (a0 0)), (1, .int p1), (2, .int p2), (4, .int v_l4_L7), (5, .int j12)]) hx hb dX7_badRings_124 rfl hl (by decide) rfl (fun ls hl => ?_)
                        refine lv_iinc (v := (v_l4_L7 + 1)) (lv' := [(4, .int (v_l4_L7 + 1)), (3, .int v_l3_L7), (6, .int j15), (0, .ref (a0 0)), (1, .int p1), (2, .int p2), (5, .int j12)]) hx hb dX7_badRings_125 hl (k := 5) rfl (congrArg (fun z => v_l4_L7 + z) (by decide)) (by decide) rfl (fun ls hl => ?_)
                        refine lv_goto (tgt := 42) hx hb dX7_badRings_128 (by decide) ?_
                        exact ih v_l3_L7 (v_l4_L7 + 1) _ hf _ _ hP hD hS _ (lv_sub hl [3, 4, 5, 1, 0] rfl) kx
                      · have hf := if_f hf c19
                        refine lv_iload hx hb dX7_badRings_118 (lv_at hl 0 rfl) ?_
                        refine lv_goto (tgt := 124) hx hb dX7_badRings_120 (by decide) ?_
                        refine lv_istore_n (lv' := [(3, .int j15), (6, .int j15), (0, .ref (a0 0)), (1, .int p1), (2, .int p2), (4, .int v_l4_L7), (5, .int j12)]) hx hb dX7_badRings_124 rfl hl (by decide) rfl (fun ls hl => ?_)
                        refine lv_iinc (v := (v_l4_L7 + 1)) (lv' := [(4, .int (v_l4_L7 + 1)), (3, .int j15), (6, .int j15), (0, .ref (a0 0)), (1, .int p1), (2, .int p2), (5, .int j12)]) hx hb dX7_badRings_125 hl (k := 5) rfl (congrArg (fun z => v_l4_L7 + z) (by decide)) (by decide) rfl (fun ls hl => ?_)
                        refine lv_goto (tgt := 42) hx hb dX7_badRings_128 (by decide) ?_
                        exact ih j15 (v_l4_L7 + 1) _ hf _ _ hP hD hS _ (lv_sub hl [3, 4, 5, 1, 0] rfl) kx
                clear hf
                have hf := hj15
                refine lv_icmp_ne (tgt := 95) hx hb dX7_badRings_82 (by decide) (fun c14 => ?_) (fun c14 => ?_)
                · have hf := if_f hf c14
                  refine lv_iload hx hb dX7_badRings_95 (lv_at hl 0 rfl) ?_
                  have hf := Option.some.inj hf
                  subst hf
                  exact J16 _ _ hP hD hS _ (lv_sub hl [1, 2, 3, 4, 5, 0] rfl)
                · have hf := if_t hf c14
                  refine lv_aload_n hx hb dX7_badRings_85 rfl (lv_at hl 1 rfl) ?_
                  refine lv_iload hx hb dX7_badRings_86 (lv_at hl 5 rfl) ?_
                  refine lv_iconst (v := 1) hx hb dX7_badRings_88 (by decide) ?_
                  obtain ⟨q20, hq20, hf⟩ := ob_some hf
                  refine xcVi (w' := ((w_M a0 cI cC mnow mhistory mkept mslot misFilled mgame mmeasures mmost mnumbers mround mtyped mtext mat mnumber mreads mbeyond q6 mreach mgoes) ++ R)) S hK hN hA hP hD hS (c_X7_of l D cI cC cS R a0 mnow mhistory mkept mslot misFilled mgame mmeasures mmost mnumbers mround mtyped mtext mat mnumber mreads mbeyond q6 mreach mgoes v_l4_L7 1 _ hq20) gX7_badRings_X7_of rfl hd_X7_of ⟨by decide, by decide⟩ (List.Perm.refl _) (List.Perm.refl _) (ci := 7) (q := (RX7, TX7, 19)) rfl rfl rfl rfl hl.1 rfl (Nat.le_of_ble_eq_true rfl) dX7_badRings_89 ⟨Nat.zero_le _, Nat.zero_le _⟩ (fun H locs hP hD hS => ?_)
                  refine lv_goto (tgt := 97) hx hb dX7_badRings_92 (by decide) ?_
                  have hf := Option.some.inj hf
                  subst hf
                  exact J16 _ _ hP hD hS _ (lv_sub hl [1, 2, 3, 4, 5, 0] rfl)
              clear hf
              have hf := hj12
              refine lv_icmp_ne (tgt := 72) hx hb dX7_badRings_64 (by decide) (fun c11 => ?_) (fun c11 => ?_)
              · have hf := if_f hf c11
                refine lv_aload_n hx hb dX7_badRings_72 rfl (lv_at hl 0 rfl) ?_
                refine lv_iload hx hb dX7_badRings_73 (lv_at hl 4 rfl) ?_
                obtain ⟨q21, hq21, hf⟩ := ob_some hf
                refine xcVi (w' := ((w_M a0 cI cC mnow mhistory mkept mslot misFilled mgame mmeasures mmost mnumbers mround mtyped mtext mat mnumber mreads mbeyond q6 mreach mgoes) ++ R)) S hK hN hA hP hD hS (c_X7_ringAt l D cI cC cS R a0 mnow mhistory mkept mslot misFilled mgame mmeasures mmost mnumbers mround mtyped mtext mat mnumber mreads mbeyond q6 mreach mgoes v_l4_L7 n _ hq21) gX7_badRings_X7_ringAt rfl hd_X7_ringAt ⟨by decide, by decide⟩ (List.Perm.refl _) (List.Perm.refl _) (ci := 7) (q := (RX7, TX7, 19)) rfl rfl rfl rfl hl.1 rfl (Nat.le_of_ble_eq_true rfl) dX7_badRings_75 ⟨Nat.zero_le _, Nat.zero_le _⟩ (fun H locs hP hD hS => ?_)
                have hf := Option.some.inj hf
                subst hf
                exact J13 _ _ hP hD hS _ (lv_sub hl [0, 1, 2, 3, 4] rfl)
              · have hf := if_t hf c11
                refine lv_bipush (v := (-5)) hx hb dX7_badRings_67 (by decide) ?_
                refine lv_goto (tgt := 78) hx hb dX7_badRings_69 (by decide) ?_
                have hf := Option.some.inj hf
                subst hf
                exact J13 _ _ hP hD hS _ (lv_sub hl [0, 1, 2, 3, 4] rfl)
        refine L7 n (-5) 0 q8 hq8 _ _ hP hD hS _ (lv_sub hl [2, 3, 4, 1, 0] rfl) ?_
        clear hP hD hS hl
        intro H locs hP hD hS ls hl
        refine lv_iload_n hx hb dX7_badRings_131 rfl (lv_at hl 0 rfl) ?_
        have hf := Option.some.inj hf
        subst hf
        exact hret _ _ _ _ _ dX7_badRings_132 rfl hP hD hS rfl
      · have hf := if_t hf c5
        refine lv_bipush (v := (-2)) hx hb dX7_badRings_28 (by decide) ?_
        have hf := Option.some.inj hf
        subst hf
        exact hret _ _ _ _ _ dX7_badRings_30 rfl hP hD hS rfl
    · have hf := if_t hf c3
      refine lv_aload_n hx hb dX7_badRings_13 rfl (lv_at hl 0 rfl) ?_
      refine lv_iload_n hx hb dX7_badRings_14 rfl (lv_at hl 1 rfl) ?_
      obtain ⟨q22, hq22, hf⟩ := ob_some hf
      refine xcVi (w' := ((w_M a0 cI cC mnow mhistory mkept mslot misFilled mgame mmeasures mmost mnumbers mround mtyped mtext mat mnumber mreads mbeyond q22.2.1 q22.2.2 mgoes) ++ R)) S hK hN hA hP hD hS (c_X7_allBad l D cI cC cS R a0 mnow mhistory mkept mslot misFilled mgame mmeasures mmost mnumbers mround mtyped mtext mat mnumber mreads mbeyond mjudgedTo mreach mgoes p1 n _ hq22) gX7_badRings_X7_allBad rfl hd_X7_allBad ⟨by decide, by decide⟩ (List.Perm.refl _) (List.Perm.refl _) (ci := 7) (q := (RX7, TX7, 19)) rfl rfl rfl rfl hl.1 rfl (Nat.le_of_ble_eq_true rfl) dX7_badRings_15 ⟨Nat.zero_le _, Nat.zero_le _⟩ (fun H locs hP hD hS => ?_)
      have hf := Option.some.inj hf
      subst hf
      exact hret _ _ _ _ _ dX7_badRings_18 rfl hP hD hS rfl
  · have hf := if_f hf c2
    refine lv_iconst (v := (-1)) hx hb dX7_badRings_7 (by decide) ?_
    have hf := Option.some.inj hf
    subst hf
    exact hret _ _ _ _ _ dX7_badRings_8 rfl hP hD hS rfl
def f_X7_pivots_L21 (n : Nat) (d_l1 : Int32) (d_l2 : Int32) : Nat → Int32 → Int32 → (Nat → Int32) → Int32 → (Nat → Int32) → (Nat → Int32) → (Nat → Int32) → Int32 → Option (Int32 × (Nat → Int32) × Int32 × (Nat → Int32) × (Nat → Int32) × (Nat → Int32) × Int32)
  | 0, _, _, _, _, _, _, _, _ => none
  | k + 1, d_l3, d_l4, d_mnow, d_mgame, d_mmeasures, d_mmost, d_mnumbers, d_mround => (if (d_mnow 56) ≤ d_l4 then some (d_l3, d_mnow, d_mgame, d_mmeasures, d_mmost, d_mnumbers, d_mround) else (f_X7_of d_mnow d_l4 0).bind fun q5 => (f_X7_puts d_mnow d_l4 0 (1 - q5)).bind fun q6 => (f_X7_winner n q6 d_mmeasures d_mmost d_mnumbers d_l1).bind fun q7 => ((if q7.1 = d_l2 then some (0) else some ((jshl 1 d_l4))) : Option Int32).bind fun j9 => (f_X7_of q6 d_l4 0).bind fun q11 => (f_X7_puts q6 d_l4 0 (1 - q11)).bind fun q12 => f_X7_pivots_L21 n d_l1 d_l2 k (d_l3 ||| j9) (d_l4 + 1) q12 q7.2.1 q7.2.2.1 q7.2.2.2.1 q7.2.2.2.2.1 q7.2.2.2.2.2)
def f_X7_pivots (n : Nat) (mnow : (Nat → Int32)) (mgame : Int32) (mmeasures : (Nat → Int32)) (mmost : (Nat → Int32)) (mnumbers : (Nat → Int32)) (mround : Int32) (p1 : Int32) : Option (Int32 × (Nat → Int32) × Int32 × (Nat → Int32) × (Nat → Int32) × (Nat → Int32) × Int32) := (f_X7_no mnow p1).bind fun q1 => (if q1 = 0 then (f_X7_winner n mnow mmeasures mmost mnumbers p1).bind fun q3 => (f_X7_pivots_L21 n p1 q3.1 n 0 0 mnow q3.2.1 q3.2.2.1 q3.2.2.2.1 q3.2.2.2.2.1 q3.2.2.2.2.2).bind fun q5 => some (q5.1, q5.2.1, q5.2.2.1, q5.2.2.2.1, q5.2.2.2.2.1, q5.2.2.2.2.2.1, q5.2.2.2.2.2.2) else some ((-1), mnow, mgame, mmeasures, mmost, mnumbers, mround))
theorem inw_X7_pivots_7 : ∀ w ∈ wsX70, w ∈ wsX7_pivots := fun _ h => List.mem_cons_of_mem _ (List.mem_append_right _ h)
theorem hd_X7_pivots : yX7_pivots.cls = RX7 ∧ yX7_pivots.cls ≠ "java/lang/invoke/MethodHandle" ∧ yX7_pivots.cls ≠ "java/lang/invoke/VarHandle" ∧ (parseMethodDescriptor yX7_pivots.desc).map (fun d => d.parameters.length) = some 1 := by decide +kernel
set_option maxHeartbeats 4000000 in
set_option maxRecDepth 100000 in
theorem c_X7_pivots (l : Launch) (D : va_G) (cI cC cS : ClassId) (R : va_W) (a0 : Nat → Nat) (mnow : (Nat → Int32)) (mhistory : (Nat → Int32)) (mkept : Int32) (mslot : (Nat → Int32)) (misFilled : Int32) (mgame : Int32) (mmeasures : (Nat → Int32)) (mmost : (Nat → Int32)) (mnumbers : (Nat → Int32)) (mround : Int32) (mtyped : Int32) (mtext : (Nat → Int32)) (mat : Int32) (mnumber : Int32) (mreads : (Nat → Int32)) (mbeyond : Int32) (mjudgedTo : (Nat → Int32)) (mreach : (Nat → Int32)) (mgoes : (Nat → Int32)) (p1 : Int32) (n : Nat) (r : Int32 × (Nat → Int32) × Int32 × (Nat → Int32) × (Nat → Int32) × (Nat → Int32) × Int32) (hf : f_X7_pivots n mnow mgame mmeasures mmost mnumbers mround p1 = some r) : CI l yX7_pivots wsX7_pivots 6 136 D cI cC cS [.ref (a0 0), .int p1] ((w_M a0 cI cC mnow mhistory mkept mslot misFilled mgame mmeasures mmost mnumbers mround mtyped mtext mat mnumber mreads mbeyond mjudgedTo mreach mgoes) ++ R) r.1 ((w_M a0 cI cC r.2.1 mhistory mkept mslot misFilled r.2.2.1 r.2.2.2.1 r.2.2.2.2.1 r.2.2.2.2.2.1 r.2.2.2.2.2.2 mtyped mtext mat mnumber mreads mbeyond mjudgedTo mreach mgoes) ++ R) := by
  refine XI.of (cc := cX7_pivots) (maxL := 5) (ty := .int) (own := RX7) (by decide) rfl rfl (Nat.le_of_ble_eq_true rfl) ?_
  intro p e s m args below meth c A Q S hK hN hA hP hD hS ls hl hret
  obtain ⟨hx, hb, hml, hown, hts⟩ := id S
  have hl : lv_has ls 5 [(0, .ref (a0 0)), (1, .int p1)] := hl
  unfold f_X7_pivots at hf
  refine lv_aload_n hx hb dX7_pivots_0 rfl (lv_at hl 0 rfl) ?_
  refine lv_iload_n hx hb dX7_pivots_1 rfl (lv_at hl 1 rfl) ?_
  obtain ⟨q1, hq1, hf⟩ := ob_some hf
  refine xcVi (w' := ((w_M a0 cI cC mnow mhistory mkept mslot misFilled mgame mmeasures mmost mnumbers mround mtyped mtext mat mnumber mreads mbeyond mjudgedTo mreach mgoes) ++ R)) S hK hN hA hP hD hS (c_X7_no l D cI cC cS R a0 mnow mhistory mkept mslot misFilled mgame mmeasures mmost mnumbers mround mtyped mtext mat mnumber mreads mbeyond mjudgedTo mreach mgoes p1 _ hq1) gX7_pivots_X7_no rfl hd_X7_no ⟨by decide, by decide⟩ (List.Perm.refl _) (List.Perm.refl _) (ci := 7) (q := (RX7, TX7, 19)) rfl rfl rfl rfl hl.1 rfl (Nat.le_of_ble_eq_true rfl) dX7_pivots_2 ⟨Nat.zero_le _, Nat.zero_le _⟩ (fun H locs hP hD hS => ?_)
  refine lv_if_eq (tgt := 10) hx hb dX7_pivots_5 (by decide) (fun c2 => ?_) (fun c2 => ?_)
  · have hf := if_t hf c2
    refine lv_aload_n hx hb dX7_pivots_10 rfl (lv_at hl 0 rfl) ?_
    refine lv_iload_n hx hb dX7_pivots_11 rfl (lv_at hl 1 rfl) ?_
    obtain ⟨q3, hq3, hf⟩ := ob_some hf
    refine xcVi (w' := ((w_M a0 cI cC mnow mhistory mkept mslot misFilled q3.2.1 q3.2.2.1 q3.2.2.2.1 q3.2.2.2.2.1 q3.2.2.2.2.2 mtyped mtext mat mnumber mreads mbeyond mjudgedTo mreach mgoes) ++ R)) S hK hN hA hP hD hS (c_X7_winner l D cI cC cS R a0 mnow mhistory mkept mslot misFilled mgame mmeasures mmost mnumbers mround mtyped mtext mat mnumber mreads mbeyond mjudgedTo mreach mgoes p1 n _ hq3) gX7_pivots_X7_winner rfl hd_X7_winner ⟨by decide, by decide⟩ (List.Perm.refl _) (List.Perm.refl _) (ci := 7) (q := (RX7, TX7, 19)) rfl rfl rfl rfl hl.1 rfl (Nat.le_of_ble_eq_true rfl) dX7_pivots_12 ⟨Nat.zero_le _, Nat.zero_le _⟩ (fun H locs hP hD hS => ?_)
    refine lv_istore_n (lv' := [(2, .int q3.1), (0, .ref (a0 0)), (1, .int p1)]) hx hb dX7_pivots_15 rfl hl (by decide) rfl (fun ls hl => ?_)
    refine lv_iconst (v := 0) hx hb dX7_pivots_16 (by decide) ?_
    refine lv_istore_n (lv' := [(3, .int 0), (2, .int q3.1), (0, .ref (a0 0)), (1, .int p1)]) hx hb dX7_pivots_17 rfl hl (by decide) rfl (fun ls hl => ?_)
    refine lv_iconst (v := 0) hx hb dX7_pivots_18 (by decide) ?_
    refine lv_istore (lv' := [(4, .int 0), (3, .int 0), (2, .int q3.1), (0, .ref (a0 0)), (1, .int p1)]) hx hb dX7_pivots_19 hl (by decide) rfl (fun ls hl => ?_)
    obtain ⟨q5, hq5, hf⟩ := ob_some hf
    have L4 : ∀ (k : Nat) (v_l3_L4 : Int32) (v_l4_L4 : Int32) (v_mnow_L4 : (Nat → Int32)) (v_mgame_L4 : Int32) (v_mmeasures_L4 : (Nat → Int32)) (v_mmost_L4 : (Nat → Int32)) (v_mnumbers_L4 : (Nat → Int32)) (v_mround_L4 : Int32) (q_L4 : Int32 × (Nat → Int32) × Int32 × (Nat → Int32) × (Nat → Int32) × (Nat → Int32) × Int32), f_X7_pivots_L21 n p1 q3.1 k v_l3_L4 v_l4_L4 v_mnow_L4 v_mgame_L4 v_mmeasures_L4 v_mmost_L4 v_mnumbers_L4 v_mround_L4 = some q_L4 → ∀ (H : Heap) (locs : List Loc), va_P D vwCl ((w_M a0 cI cC v_mnow_L4 mhistory mkept mslot misFilled v_mgame_L4 v_mmeasures_L4 v_mmost_L4 v_mnumbers_L4 v_mround_L4 mtyped mtext mat mnumber mreads mbeyond mjudgedTo mreach mgoes) ++ R) H → va_D A ((w_M a0 cI cC v_mnow_L4 mhistory mkept mslot misFilled v_mgame_L4 v_mmeasures_L4 v_mmost_L4 v_mnumbers_L4 v_mround_L4 mtyped mtext mat mnumber mreads mbeyond mjudgedTo mreach mgoes) ++ R) → va_S A s.heap H locs → ∀ ls : Array Slot, lv_has ls 5 [(0, .ref (a0 0)), (1, .int p1), (2, .int q3.1), (3, .int v_l3_L4), (4, .int v_l4_L4)] → (∀ (H : Heap) (locs : List Loc), va_P D vwCl ((w_M a0 cI cC q_L4.2.1 mhistory mkept mslot misFilled q_L4.2.2.1 q_L4.2.2.2.1 q_L4.2.2.2.2.1 q_L4.2.2.2.2.2.1 q_L4.2.2.2.2.2.2 mtyped mtext mat mnumber mreads mbeyond mjudgedTo mreach mgoes) ++ R) H → va_D A ((w_M a0 cI cC q_L4.2.1 mhistory mkept mslot misFilled q_L4.2.2.1 q_L4.2.2.2.1 q_L4.2.2.2.2.1 q_L4.2.2.2.2.2.1 q_L4.2.2.2.2.2.2 mtyped mtext mat mnumber mreads mbeyond mjudgedTo mreach mgoes) ++ R) → va_S A s.heap H locs → ∀ ls : Array Slot, lv_has ls 5 [(3, .int q_L4.1)] → W p l e (xR 6 136) s m args below meth c H locs 0 0 Q (F0 m 91 ls [])) → W p l e (xR 6 136) s m args below meth c H locs 0 0 Q (F0 m 21 ls []) := by
      intro k
      induction k with
      | zero => intro v_l3_L4 v_l4_L4 v_mnow_L4 v_mgame_L4 v_mmeasures_L4 v_mmost_L4 v_mnumbers_L4 v_mround_L4 q_L4 hf; simp [f_X7_pivots_L21] at hf
      | succ k ih =>
        intro v_l3_L4 v_l4_L4 v_mnow_L4 v_mgame_L4 v_mmeasures_L4 v_mmost_L4 v_mnumbers_L4 v_mround_L4 q_L4 hf H locs hP hD hS ls hl kx
        rw [f_X7_pivots_L21] at hf
        refine lv_iload hx hb dX7_pivots_21 (lv_at hl 4 rfl) ?_
        refine lv_aload_n hx hb dX7_pivots_23 rfl (lv_at hl 0 rfl) ?_
        refine va_get (D := D) (ci := 7) (v := .ref (a0 1)) (C := RX7) (T := TX7) (N := 19) hx hb hts inw_X7_pivots_7 hown hK hP 0 rfl rfl 0 (by decide) (hts (.fieldLink RX7 7 "RingGamesModel" "now" "[I") (List.mem_of_getElem? (i := 1) rfl)) (fun _ h9 => h9) rfl dX7_pivots_24 ?_
        refine lv_bipush (v := 56) hx hb dX7_pivots_27 (by decide) ?_
        refine va_iald hx hb hK hP 1 0 rfl rfl (x_in (by decide)) dX7_pivots_29 ?_
        refine lv_icmp_ge (tgt := 91) hx hb dX7_pivots_30 (by decide) (fun c6 => ?_) (fun c6 => ?_)
        · have hf := if_t hf c6
          have hf := Option.some.inj hf
          subst hf
          exact kx _ _ hP hD hS _ (lv_sub hl [3] rfl)
        · have hf := if_f hf c6
          refine lv_aload_n hx hb dX7_pivots_33 rfl (lv_at hl 0 rfl) ?_
          refine lv_iload hx hb dX7_pivots_34 (lv_at hl 4 rfl) ?_
          refine lv_iconst (v := 0) hx hb dX7_pivots_36 (by decide) ?_
          refine lv_iconst (v := 1) hx hb dX7_pivots_37 (by decide) ?_
          refine lv_aload_n hx hb dX7_pivots_38 rfl (lv_at hl 0 rfl) ?_
          refine lv_iload hx hb dX7_pivots_39 (lv_at hl 4 rfl) ?_
          refine lv_iconst (v := 0) hx hb dX7_pivots_41 (by decide) ?_
          obtain ⟨q7, hq7, hf⟩ := ob_some hf
          refine xcVi (w' := ((w_M a0 cI cC v_mnow_L4 mhistory mkept mslot misFilled v_mgame_L4 v_mmeasures_L4 v_mmost_L4 v_mnumbers_L4 v_mround_L4 mtyped mtext mat mnumber mreads mbeyond mjudgedTo mreach mgoes) ++ R)) S hK hN hA hP hD hS (c_X7_of l D cI cC cS R a0 v_mnow_L4 mhistory mkept mslot misFilled v_mgame_L4 v_mmeasures_L4 v_mmost_L4 v_mnumbers_L4 v_mround_L4 mtyped mtext mat mnumber mreads mbeyond mjudgedTo mreach mgoes v_l4_L4 0 _ hq7) gX7_pivots_X7_of rfl hd_X7_of ⟨by decide, by decide⟩ (List.Perm.refl _) (List.Perm.refl _) (ci := 7) (q := (RX7, TX7, 19)) rfl rfl rfl rfl hl.1 rfl (Nat.le_of_ble_eq_true rfl) dX7_pivots_42 ⟨Nat.zero_le _, Nat.zero_le _⟩ (fun H locs hP hD hS => ?_)
          refine lv_isub hx hb dX7_pivots_45 ?_
          obtain ⟨q8, hq8, hf⟩ := ob_some hf
          refine xcVv (w' := ((w_M a0 cI cC q8 mhistory mkept mslot misFilled v_mgame_L4 v_mmeasures_L4 v_mmost_L4 v_mnumbers_L4 v_mround_L4 mtyped mtext mat mnumber mreads mbeyond mjudgedTo mreach mgoes) ++ R)) S hK hN hA hP hD hS (c_X7_puts l D cI cC cS R a0 v_mnow_L4 mhistory mkept mslot misFilled v_mgame_L4 v_mmeasures_L4 v_mmost_L4 v_mnumbers_L4 v_mround_L4 mtyped mtext mat mnumber mreads mbeyond mjudgedTo mreach mgoes v_l4_L4 0 (1 - q7) _ hq8) gX7_pivots_X7_puts rfl hd_X7_puts ⟨by decide, by decide⟩ (List.Perm.refl _) (List.Perm.refl _) (ci := 7) (q := (RX7, TX7, 19)) rfl rfl rfl rfl hl.1 rfl (Nat.le_of_ble_eq_true rfl) dX7_pivots_46 ⟨Nat.zero_le _, Nat.zero_le _⟩ (fun H locs hP hD hS => ?_)
          refine lv_iload_n hx hb dX7_pivots_49 rfl (lv_at hl 3 rfl) ?_
          refine lv_aload_n hx hb dX7_pivots_50 rfl (lv_at hl 0 rfl) ?_
          refine lv_iload_n hx hb dX7_pivots_51 rfl (lv_at hl 1 rfl) ?_
          obtain ⟨q9, hq9, hf⟩ := ob_some hf
          refine xcVi (w' := ((w_M a0 cI cC q8 mhistory mkept mslot misFilled q9.2.1 q9.2.2.1 q9.2.2.2.1 q9.2.2.2.2.1 q9.2.2.2.2.2 mtyped mtext mat mnumber mreads mbeyond mjudgedTo mreach mgoes) ++ R)) S hK hN hA hP hD hS (c_X7_winner l D cI cC cS R a0 q8 mhistory mkept mslot misFilled v_mgame_L4 v_mmeasures_L4 v_mmost_L4 v_mnumbers_L4 v_mround_L4 mtyped mtext mat mnumber mreads mbeyond mjudgedTo mreach mgoes p1 n _ hq9) gX7_pivots_X7_winner rfl hd_X7_winner ⟨by decide, by decide⟩ (List.Perm.refl _) (List.Perm.refl _) (ci := 7) (q := (RX7, TX7, 19)) rfl rfl rfl rfl hl.1 rfl (Nat.le_of_ble_eq_true rfl) dX7_pivots_52 ⟨Nat.zero_le _, Nat.zero_le _⟩ (fun H locs hP hD hS => ?_)
          refine lv_iload_n hx hb dX7_pivots_55 rfl (lv_at hl 2 rfl) ?_
          obtain ⟨j11, hj11, hf⟩ := ob_some hf
          have J12 : ∀ (H : Heap) (locs : List Loc), va_P D vwCl ((w_M a0 cI cC q8 mhistory mkept mslot misFilled q9.2.1 q9.2.2.1 q9.2.2.2.1 q9.2.2.2.2.1 q9.2.2.2.2.2 mtyped mtext mat mnumber mreads mbeyond mjudgedTo mreach mgoes) ++ R) H → va_D A ((w_M a0 cI cC q8 mhistory mkept mslot misFilled q9.2.1 q9.2.2.1 q9.2.2.2.1 q9.2.2.2.2.1 q9.2.2.2.2.2 mtyped mtext mat mnumber mreads mbeyond mjudgedTo mreach mgoes) ++ R) → va_S A s.heap H locs → ∀ ls : Array Slot, lv_has ls 5 [(0, .ref (a0 0)), (1, .int p1), (2, .int q3.1), (4, .int v_l4_L4)] → W p l e (xR 6 136) s m args below meth c H locs 0 0 Q (F0 m 67 ls [.int j11, .int v_l3_L4]) := by
            intro H locs hP hD hS ls hl
            refine lv_ior hx hb dX7_pivots_67 ?_
            refine lv_istore_n (lv' := [(3, .int (v_l3_L4 ||| j11)), (0, .ref (a0 0)), (1, .int p1), (2, .int q3.1), (4, .int v_l4_L4)]) hx hb dX7_pivots_68 rfl hl (by decide) rfl (fun ls hl => ?_)
            refine lv_aload_n hx hb dX7_pivots_69 rfl (lv_at hl 1 rfl) ?_
            refine lv_iload hx hb dX7_pivots_70 (lv_at hl 4 rfl) ?_
            refine lv_iconst (v := 0) hx hb dX7_pivots_72 (by decide) ?_
            refine lv_iconst (v := 1) hx hb dX7_pivots_73 (by decide) ?_
            refine lv_aload_n hx hb dX7_pivots_74 rfl (lv_at hl 1 rfl) ?_
            refine lv_iload hx hb dX7_pivots_75 (lv_at hl 4 rfl) ?_
            refine lv_iconst (v := 0) hx hb dX7_pivots_77 (by decide) ?_
            obtain ⟨q13, hq13, hf⟩ := ob_some hf
            refine xcVi (w' := ((w_M a0 cI cC q8 mhistory mkept mslot misFilled q9.2.1 q9.2.2.1 q9.2.2.2.1 q9.2.2.2.2.1 q9.2.2.2.2.2 mtyped mtext mat mnumber mreads mbeyond mjudgedTo mreach mgoes) ++ R)) S hK hN hA hP hD hS (c_X7_of l D cI cC cS R a0 q8 mhistory mkept mslot misFilled q9.2.1 q9.2.2.1 q9.2.2.2.1 q9.2.2.2.2.1 q9.2.2.2.2.2 mtyped mtext mat mnumber mreads mbeyond mjudgedTo mreach mgoes v_l4_L4 0 _ hq13) gX7_pivots_X7_of rfl hd_X7_of ⟨by decide, by decide⟩ (List.Perm.refl _) (List.Perm.refl _) (ci := 7) (q := (RX7, TX7, 19)) rfl rfl rfl rfl hl.1 rfl (Nat.le_of_ble_eq_true rfl) dX7_pivots_78 ⟨Nat.zero_le _, Nat.zero_le _⟩ (fun H locs hP hD hS => ?_)
            refine lv_isub hx hb dX7_pivots_81 ?_
            obtain ⟨q14, hq14, hf⟩ := ob_some hf
            refine xcVv (w' := ((w_M a0 cI cC q14 mhistory mkept mslot misFilled q9.2.1 q9.2.2.1 q9.2.2.2.1 q9.2.2.2.2.1 q9.2.2.2.2.2 mtyped mtext mat mnumber mreads mbeyond mjudgedTo mreach mgoes) ++ R)) S hK hN hA hP hD hS (c_X7_puts l D cI cC cS R a0 q8 mhistory mkept mslot misFilled q9.2.1 q9.2.2.1 q9.2.2.2.1 q9.2.2.2.2.1 q9.2.2.2.2.2 mtyped mtext mat mnumber mreads mbeyond mjudgedTo mreach mgoes v_l4_L4 0 (1 - q13) _ hq14) gX7_pivots_X7_puts rfl hd_X7_puts ⟨by decide, by decide⟩ (List.Perm.refl _) (List.Perm.refl _) (ci := 7) (q := (RX7, TX7, 19)) rfl rfl rfl rfl hl.1 rfl (Nat.le_of_ble_eq_true rfl) dX7_pivots_82 ⟨Nat.zero_le _, Nat.zero_le _⟩ (fun H locs hP hD hS => ?_)
            refine lv_iinc (v := (v_l4_L4 + 1)) (lv' := [(4, .int (v_l4_L4 + 1)), (3, .int (v_l3_L4 ||| j11)), (0, .ref (a0 0)), (1, .int p1), (2, .int q3.1)]) hx hb dX7_pivots_85 hl (k := 4) rfl (congrArg (fun z => v_l4_L4 + z) (by decide)) (by decide) rfl (fun ls hl => ?_)
            refine lv_goto (tgt := 21) hx hb dX7_pivots_88 (by decide) ?_
            exact ih (v_l3_L4 ||| j11) (v_l4_L4 + 1) q14 q9.2.1 q9.2.2.1 q9.2.2.2.1 q9.2.2.2.2.1 q9.2.2.2.2.2 _ hf _ _ hP hD hS _ (lv_sub hl [2, 3, 4, 1, 0] rfl) kx
          clear hf
          have hf := hj11
          refine lv_icmp_eq (tgt := 66) hx hb dX7_pivots_56 (by decide) (fun c10 => ?_) (fun c10 => ?_)
          · have hf := if_t hf c10
            refine lv_iconst (v := 0) hx hb dX7_pivots_66 (by decide) ?_
            have hf := Option.some.inj hf
            subst hf
            exact J12 _ _ hP hD hS _ (lv_sub hl [0, 1, 2, 4] rfl)
          · have hf := if_f hf c10
            refine lv_iconst (v := 1) hx hb dX7_pivots_59 (by decide) ?_
            refine lv_iload hx hb dX7_pivots_60 (lv_at hl 4 rfl) ?_
            refine lv_ishl hx hb dX7_pivots_62 ?_
            refine lv_goto (tgt := 67) hx hb dX7_pivots_63 (by decide) ?_
            have hf := Option.some.inj hf
            subst hf
            exact J12 _ _ hP hD hS _ (lv_sub hl [0, 1, 2, 4] rfl)
    refine L4 n 0 0 mnow q3.2.1 q3.2.2.1 q3.2.2.2.1 q3.2.2.2.2.1 q3.2.2.2.2.2 q5 hq5 _ _ hP hD hS _ (lv_sub hl [3, 4, 2, 1, 0] rfl) ?_
    clear hP hD hS hl
    intro H locs hP hD hS ls hl
    refine lv_iload_n hx hb dX7_pivots_91 rfl (lv_at hl 0 rfl) ?_
    have hf := Option.some.inj hf
    subst hf
    exact hret _ _ _ _ _ dX7_pivots_92 rfl hP hD hS rfl
  · have hf := if_f hf c2
    refine lv_iconst (v := (-1)) hx hb dX7_pivots_8 (by decide) ?_
    have hf := Option.some.inj hf
    subst hf
    exact hret _ _ _ _ _ dX7_pivots_9 rfl hP hD hS rfl
def f_X7_weakArrows_L29 (n : Nat) (d_l1 : Int32) (d_l2 : Int32) (d_l3 : Int32) : Nat → Int32 → Int32 → (Nat → Int32) → Int32 → (Nat → Int32) → (Nat → Int32) → (Nat → Int32) → Int32 → Option (Int32 × (Nat → Int32) × Int32 × (Nat → Int32) × (Nat → Int32) × (Nat → Int32) × Int32)
  | 0, _, _, _, _, _, _, _, _ => none
  | k + 1, d_l4, d_l5, d_mnow, d_mgame, d_mmeasures, d_mmost, d_mnumbers, d_mround => (if (d_mnow 56) ≤ d_l5 then some (d_l4, d_mnow, d_mgame, d_mmeasures, d_mmost, d_mnumbers, d_mround) else (if ((jshr d_l3 d_l5) &&& 1) = 1 then (f_X7_puts d_mnow d_l1 2 (d_l3 ^^^ (jshl 1 d_l5))).bind fun q7 => (f_X7_winner n q7 d_mmeasures d_mmost d_mnumbers d_l1).bind fun q8 => (if q8.1 = d_l2 then f_X7_weakArrows_L29 n d_l1 d_l2 d_l3 k (d_l4 ||| 0) (d_l5 + 1) q7 q8.2.1 q8.2.2.1 q8.2.2.2.1 q8.2.2.2.2.1 q8.2.2.2.2.2 else f_X7_weakArrows_L29 n d_l1 d_l2 d_l3 k (d_l4 ||| (jshl 1 d_l5)) (d_l5 + 1) q7 q8.2.1 q8.2.2.1 q8.2.2.2.1 q8.2.2.2.2.1 q8.2.2.2.2.2) else f_X7_weakArrows_L29 n d_l1 d_l2 d_l3 k d_l4 (d_l5 + 1) d_mnow d_mgame d_mmeasures d_mmost d_mnumbers d_mround))
def f_X7_weakArrows (n : Nat) (mnow : (Nat → Int32)) (mgame : Int32) (mmeasures : (Nat → Int32)) (mmost : (Nat → Int32)) (mnumbers : (Nat → Int32)) (mround : Int32) (p1 : Int32) : Option (Int32 × (Nat → Int32) × Int32 × (Nat → Int32) × (Nat → Int32) × (Nat → Int32) × Int32) := (f_X7_no mnow p1).bind fun q1 => (if q1 = 0 then (f_X7_winner n mnow mmeasures mmost mnumbers p1).bind fun q3 => (f_X7_of mnow p1 2).bind fun q4 => (f_X7_weakArrows_L29 n p1 q3.1 q4 n 0 0 mnow q3.2.1 q3.2.2.1 q3.2.2.2.1 q3.2.2.2.2.1 q3.2.2.2.2.2).bind fun q6 => (f_X7_puts q6.2.1 p1 2 q4).bind fun q12 => some (q6.1, q12, q6.2.2.1, q6.2.2.2.1, q6.2.2.2.2.1, q6.2.2.2.2.2.1, q6.2.2.2.2.2.2) else some ((-1), mnow, mgame, mmeasures, mmost, mnumbers, mround))
theorem inw_X7_weakArrows_7 : ∀ w ∈ wsX70, w ∈ wsX7_weakArrows := fun _ h => List.mem_cons_of_mem _ (List.mem_append_right _ h)
theorem hd_X7_weakArrows : yX7_weakArrows.cls = RX7 ∧ yX7_weakArrows.cls ≠ "java/lang/invoke/MethodHandle" ∧ yX7_weakArrows.cls ≠ "java/lang/invoke/VarHandle" ∧ (parseMethodDescriptor yX7_weakArrows.desc).map (fun d => d.parameters.length) = some 1 := by decide +kernel
set_option maxHeartbeats 4000000 in
set_option maxRecDepth 100000 in
theorem c_X7_weakArrows (l : Launch) (D : va_G) (cI cC cS : ClassId) (R : va_W) (a0 : Nat → Nat) (mnow : (Nat → Int32)) (mhistory : (Nat → Int32)) (mkept : Int32) (mslot : (Nat → Int32)) (misFilled : Int32) (mgame : Int32) (mmeasures : (Nat → Int32)) (mmost : (Nat → Int32)) (mnumbers : (Nat → Int32)) (mround : Int32) (mtyped : Int32) (mtext : (Nat → Int32)) (mat : Int32) (mnumber : Int32) (mreads : (Nat → Int32)) (mbeyond : Int32) (mjudgedTo : (Nat → Int32)) (mreach : (Nat → Int32)) (mgoes : (Nat → Int32)) (p1 : Int32) (n : Nat) (r : Int32 × (Nat → Int32) × Int32 × (Nat → Int32) × (Nat → Int32) × (Nat → Int32) × Int32) (hf : f_X7_weakArrows n mnow mgame mmeasures mmost mnumbers mround p1 = some r) : CI l yX7_weakArrows wsX7_weakArrows 6 136 D cI cC cS [.ref (a0 0), .int p1] ((w_M a0 cI cC mnow mhistory mkept mslot misFilled mgame mmeasures mmost mnumbers mround mtyped mtext mat mnumber mreads mbeyond mjudgedTo mreach mgoes) ++ R) r.1 ((w_M a0 cI cC r.2.1 mhistory mkept mslot misFilled r.2.2.1 r.2.2.2.1 r.2.2.2.2.1 r.2.2.2.2.2.1 r.2.2.2.2.2.2 mtyped mtext mat mnumber mreads mbeyond mjudgedTo mreach mgoes) ++ R) := by
  refine XI.of (cc := cX7_weakArrows) (maxL := 6) (ty := .int) (own := RX7) (by decide) rfl rfl (Nat.le_of_ble_eq_true rfl) ?_
  intro p e s m args below meth c A Q S hK hN hA hP hD hS ls hl hret
  obtain ⟨hx, hb, hml, hown, hts⟩ := id S
  have hl : lv_has ls 6 [(0, .ref (a0 0)), (1, .int p1)] := hl
  unfold f_X7_weakArrows at hf
  refine lv_aload_n hx hb dX7_weakArrows_0 rfl (lv_at hl 0 rfl) ?_
  refine lv_iload_n hx hb dX7_weakArrows_1 rfl (lv_at hl 1 rfl) ?_
  obtain ⟨q1, hq1, hf⟩ := ob_some hf
  refine xcVi (w' := ((w_M a0 cI cC mnow mhistory mkept mslot misFilled mgame mmeasures mmost mnumbers mround mtyped mtext mat mnumber mreads mbeyond mjudgedTo mreach mgoes) ++ R)) S hK hN hA hP hD hS (c_X7_no l D cI cC cS R a0 mnow mhistory mkept mslot misFilled mgame mmeasures mmost mnumbers mround mtyped mtext mat mnumber mreads mbeyond mjudgedTo mreach mgoes p1 _ hq1) gX7_weakArrows_X7_no rfl hd_X7_no ⟨by decide, by decide⟩ (List.Perm.refl _) (List.Perm.refl _) (ci := 7) (q := (RX7, TX7, 19)) rfl rfl rfl rfl hl.1 rfl (Nat.le_of_ble_eq_true rfl) dX7_weakArrows_2 ⟨Nat.zero_le _, Nat.zero_le _⟩ (fun H locs hP hD hS => ?_)
  refine lv_if_eq (tgt := 10) hx hb dX7_weakArrows_5 (by decide) (fun c2 => ?_) (fun c2 => ?_)
  · have hf := if_t hf c2
    refine lv_aload_n hx hb dX7_weakArrows_10 rfl (lv_at hl 0 rfl) ?_
    refine lv_iload_n hx hb dX7_weakArrows_11 rfl (lv_at hl 1 rfl) ?_
    obtain ⟨q3, hq3, hf⟩ := ob_some hf
    refine xcVi (w' := ((w_M a0 cI cC mnow mhistory mkept mslot misFilled q3.2.1 q3.2.2.1 q3.2.2.2.1 q3.2.2.2.2.1 q3.2.2.2.2.2 mtyped mtext mat mnumber mreads mbeyond mjudgedTo mreach mgoes) ++ R)) S hK hN hA hP hD hS (c_X7_winner l D cI cC cS R a0 mnow mhistory mkept mslot misFilled mgame mmeasures mmost mnumbers mround mtyped mtext mat mnumber mreads mbeyond mjudgedTo mreach mgoes p1 n _ hq3) gX7_weakArrows_X7_winner rfl hd_X7_winner ⟨by decide, by decide⟩ (List.Perm.refl _) (List.Perm.refl _) (ci := 7) (q := (RX7, TX7, 19)) rfl rfl rfl rfl hl.1 rfl (Nat.le_of_ble_eq_true rfl) dX7_weakArrows_12 ⟨Nat.zero_le _, Nat.zero_le _⟩ (fun H locs hP hD hS => ?_)
    refine lv_istore_n (lv' := [(2, .int q3.1), (0, .ref (a0 0)), (1, .int p1)]) hx hb dX7_weakArrows_15 rfl hl (by decide) rfl (fun ls hl => ?_)
    refine lv_aload_n hx hb dX7_weakArrows_16 rfl (lv_at hl 1 rfl) ?_
    refine lv_iload_n hx hb dX7_weakArrows_17 rfl (lv_at hl 2 rfl) ?_
    refine lv_iconst (v := 2) hx hb dX7_weakArrows_18 (by decide) ?_
    obtain ⟨q4, hq4, hf⟩ := ob_some hf
    refine xcVi (w' := ((w_M a0 cI cC mnow mhistory mkept mslot misFilled q3.2.1 q3.2.2.1 q3.2.2.2.1 q3.2.2.2.2.1 q3.2.2.2.2.2 mtyped mtext mat mnumber mreads mbeyond mjudgedTo mreach mgoes) ++ R)) S hK hN hA hP hD hS (c_X7_of l D cI cC cS R a0 mnow mhistory mkept mslot misFilled q3.2.1 q3.2.2.1 q3.2.2.2.1 q3.2.2.2.2.1 q3.2.2.2.2.2 mtyped mtext mat mnumber mreads mbeyond mjudgedTo mreach mgoes p1 2 _ hq4) gX7_weakArrows_X7_of rfl hd_X7_of ⟨by decide, by decide⟩ (List.Perm.refl _) (List.Perm.refl _) (ci := 7) (q := (RX7, TX7, 19)) rfl rfl rfl rfl hl.1 rfl (Nat.le_of_ble_eq_true rfl) dX7_weakArrows_19 ⟨Nat.zero_le _, Nat.zero_le _⟩ (fun H locs hP hD hS => ?_)
    refine lv_istore_n (lv' := [(3, .int q4), (2, .int q3.1), (0, .ref (a0 0)), (1, .int p1)]) hx hb dX7_weakArrows_22 rfl hl (by decide) rfl (fun ls hl => ?_)
    refine lv_iconst (v := 0) hx hb dX7_weakArrows_23 (by decide) ?_
    refine lv_istore (lv' := [(4, .int 0), (3, .int q4), (2, .int q3.1), (0, .ref (a0 0)), (1, .int p1)]) hx hb dX7_weakArrows_24 hl (by decide) rfl (fun ls hl => ?_)
    refine lv_iconst (v := 0) hx hb dX7_weakArrows_26 (by decide) ?_
    refine lv_istore (lv' := [(5, .int 0), (4, .int 0), (3, .int q4), (2, .int q3.1), (0, .ref (a0 0)), (1, .int p1)]) hx hb dX7_weakArrows_27 hl (by decide) rfl (fun ls hl => ?_)
    obtain ⟨q6, hq6, hf⟩ := ob_some hf
    have L5 : ∀ (k : Nat) (v_l4_L5 : Int32) (v_l5_L5 : Int32) (v_mnow_L5 : (Nat → Int32)) (v_mgame_L5 : Int32) (v_mmeasures_L5 : (Nat → Int32)) (v_mmost_L5 : (Nat → Int32)) (v_mnumbers_L5 : (Nat → Int32)) (v_mround_L5 : Int32) (q_L5 : Int32 × (Nat → Int32) × Int32 × (Nat → Int32) × (Nat → Int32) × (Nat → Int32) × Int32), f_X7_weakArrows_L29 n p1 q3.1 q4 k v_l4_L5 v_l5_L5 v_mnow_L5 v_mgame_L5 v_mmeasures_L5 v_mmost_L5 v_mnumbers_L5 v_mround_L5 = some q_L5 → ∀ (H : Heap) (locs : List Loc), va_P D vwCl ((w_M a0 cI cC v_mnow_L5 mhistory mkept mslot misFilled v_mgame_L5 v_mmeasures_L5 v_mmost_L5 v_mnumbers_L5 v_mround_L5 mtyped mtext mat mnumber mreads mbeyond mjudgedTo mreach mgoes) ++ R) H → va_D A ((w_M a0 cI cC v_mnow_L5 mhistory mkept mslot misFilled v_mgame_L5 v_mmeasures_L5 v_mmost_L5 v_mnumbers_L5 v_mround_L5 mtyped mtext mat mnumber mreads mbeyond mjudgedTo mreach mgoes) ++ R) → va_S A s.heap H locs → ∀ ls : Array Slot, lv_has ls 6 [(0, .ref (a0 0)), (1, .int p1), (2, .int q3.1), (3, .int q4), (4, .int v_l4_L5), (5, .int v_l5_L5)] → (∀ (H : Heap) (locs : List Loc), va_P D vwCl ((w_M a0 cI cC q_L5.2.1 mhistory mkept mslot misFilled q_L5.2.2.1 q_L5.2.2.2.1 q_L5.2.2.2.2.1 q_L5.2.2.2.2.2.1 q_L5.2.2.2.2.2.2 mtyped mtext mat mnumber mreads mbeyond mjudgedTo mreach mgoes) ++ R) H → va_D A ((w_M a0 cI cC q_L5.2.1 mhistory mkept mslot misFilled q_L5.2.2.1 q_L5.2.2.2.1 q_L5.2.2.2.2.1 q_L5.2.2.2.2.2.1 q_L5.2.2.2.2.2.2 mtyped mtext mat mnumber mreads mbeyond mjudgedTo mreach mgoes) ++ R) → va_S A s.heap H locs → ∀ ls : Array Slot, lv_has ls 6 [(0, .ref (a0 0)), (1, .int p1), (3, .int q4), (4, .int q_L5.1)] → W p l e (xR 6 136) s m args below meth c H locs 0 0 Q (F0 m 91 ls [])) → W p l e (xR 6 136) s m args below meth c H locs 0 0 Q (F0 m 29 ls []) := by
      intro k
      induction k with
      | zero => intro v_l4_L5 v_l5_L5 v_mnow_L5 v_mgame_L5 v_mmeasures_L5 v_mmost_L5 v_mnumbers_L5 v_mround_L5 q_L5 hf; simp [f_X7_weakArrows_L29] at hf
      | succ k ih =>
        intro v_l4_L5 v_l5_L5 v_mnow_L5 v_mgame_L5 v_mmeasures_L5 v_mmost_L5 v_mnumbers_L5 v_mround_L5 q_L5 hf H locs hP hD hS ls hl kx
        rw [f_X7_weakArrows_L29] at hf
        refine lv_iload hx hb dX7_weakArrows_29 (lv_at hl 5 rfl) ?_
        refine lv_aload_n hx hb dX7_weakArrows_31 rfl (lv_at hl 0 rfl) ?_
        refine va_get (D := D) (ci := 7) (v := .ref (a0 1)) (C := RX7) (T := TX7) (N := 19) hx hb hts inw_X7_weakArrows_7 hown hK hP 0 rfl rfl 0 (by decide) (hts (.fieldLink RX7 7 "RingGamesModel" "now" "[I") (List.mem_of_getElem? (i := 1) rfl)) (fun _ h9 => h9) rfl dX7_weakArrows_32 ?_
        refine lv_bipush (v := 56) hx hb dX7_weakArrows_35 (by decide) ?_
        refine va_iald hx hb hK hP 1 0 rfl rfl (x_in (by decide)) dX7_weakArrows_37 ?_
        refine lv_icmp_ge (tgt := 91) hx hb dX7_weakArrows_38 (by decide) (fun c7 => ?_) (fun c7 => ?_)
        · have hf := if_t hf c7
          have hf := Option.some.inj hf
          subst hf
          exact kx _ _ hP hD hS _ (lv_sub hl [0, 1, 3, 4] rfl)
        · have hf := if_f hf c7
          refine lv_iload_n hx hb dX7_weakArrows_41 rfl (lv_at hl 3 rfl) ?_
          refine lv_iload hx hb dX7_weakArrows_42 (lv_at hl 5 rfl) ?_
          refine lv_ishr hx hb dX7_weakArrows_44 ?_
          refine lv_iconst (v := 1) hx hb dX7_weakArrows_45 (by decide) ?_
          refine lv_iand hx hb dX7_weakArrows_46 ?_
          refine lv_iconst (v := 1) hx hb dX7_weakArrows_47 (by decide) ?_
          refine lv_icmp_ne (tgt := 85) hx hb dX7_weakArrows_48 (by decide) (fun c8 => ?_) (fun c8 => ?_)
          · have hf := if_f hf c8
            refine lv_iinc (v := (v_l5_L5 + 1)) (lv' := [(5, .int (v_l5_L5 + 1)), (0, .ref (a0 0)), (1, .int p1), (2, .int q3.1), (3, .int q4), (4, .int v_l4_L5)]) hx hb dX7_weakArrows_85 hl (k := 5) rfl (congrArg (fun z => v_l5_L5 + z) (by decide)) (by decide) rfl (fun ls hl => ?_)
            refine lv_goto (tgt := 29) hx hb dX7_weakArrows_88 (by decide) ?_
            exact ih v_l4_L5 (v_l5_L5 + 1) v_mnow_L5 v_mgame_L5 v_mmeasures_L5 v_mmost_L5 v_mnumbers_L5 v_mround_L5 _ hf _ _ hP hD hS _ (lv_sub hl [1, 2, 3, 4, 5, 0] rfl) kx
          · have hf := if_t hf c8
            refine lv_aload_n hx hb dX7_weakArrows_51 rfl (lv_at hl 0 rfl) ?_
            refine lv_iload_n hx hb dX7_weakArrows_52 rfl (lv_at hl 1 rfl) ?_
            refine lv_iconst (v := 2) hx hb dX7_weakArrows_53 (by decide) ?_
            refine lv_iload_n hx hb dX7_weakArrows_54 rfl (lv_at hl 3 rfl) ?_
            refine lv_iconst (v := 1) hx hb dX7_weakArrows_55 (by decide) ?_
            refine lv_iload hx hb dX7_weakArrows_56 (lv_at hl 5 rfl) ?_
            refine lv_ishl hx hb dX7_weakArrows_58 ?_
            refine lv_ixor hx hb dX7_weakArrows_59 ?_
            obtain ⟨q9, hq9, hf⟩ := ob_some hf
            refine xcVv (w' := ((w_M a0 cI cC q9 mhistory mkept mslot misFilled v_mgame_L5 v_mmeasures_L5 v_mmost_L5 v_mnumbers_L5 v_mround_L5 mtyped mtext mat mnumber mreads mbeyond mjudgedTo mreach mgoes) ++ R)) S hK hN hA hP hD hS (c_X7_puts l D cI cC cS R a0 v_mnow_L5 mhistory mkept mslot misFilled v_mgame_L5 v_mmeasures_L5 v_mmost_L5 v_mnumbers_L5 v_mround_L5 mtyped mtext mat mnumber mreads mbeyond mjudgedTo mreach mgoes p1 2 (q4 ^^^ (jshl 1 v_l5_L5)) _ hq9) gX7_weakArrows_X7_puts rfl hd_X7_puts ⟨by decide, by decide⟩ (List.Perm.refl _) (List.Perm.refl _) (ci := 7) (q := (RX7, TX7, 19)) rfl rfl rfl rfl hl.1 rfl (Nat.le_of_ble_eq_true rfl) dX7_weakArrows_60 ⟨Nat.zero_le _, Nat.zero_le _⟩ (fun H locs hP hD hS => ?_)
            refine lv_iload hx hb dX7_weakArrows_63 (lv_at hl 4 rfl) ?_
            refine lv_aload_n hx hb dX7_weakArrows_65 rfl (lv_at hl 0 rfl) ?_
            refine lv_iload_n hx hb dX7_weakArrows_66 rfl (lv_at hl 1 rfl) ?_
            obtain ⟨q10, hq10, hf⟩ := ob_some hf
            refine xcVi (w' := ((w_M a0 cI cC q9 mhistory mkept mslot misFilled q10.2.1 q10.2.2.1 q10.2.2.2.1 q10.2.2.2.2.1 q10.2.2.2.2.2 mtyped mtext mat mnumber mreads mbeyond mjudgedTo mreach mgoes) ++ R)) S hK hN hA hP hD hS (c_X7_winner l D cI cC cS R a0 q9 mhistory mkept mslot misFilled v_mgame_L5 v_mmeasures_L5 v_mmost_L5 v_mnumbers_L5 v_mround_L5 mtyped mtext mat mnumber mreads mbeyond mjudgedTo mreach mgoes p1 n _ hq10) gX7_weakArrows_X7_winner rfl hd_X7_winner ⟨by decide, by decide⟩ (List.Perm.refl _) (List.Perm.refl _) (ci := 7) (q := (RX7, TX7, 19)) rfl rfl rfl rfl hl.1 rfl (Nat.le_of_ble_eq_true rfl) dX7_weakArrows_67 ⟨Nat.zero_le _, Nat.zero_le _⟩ (fun H locs hP hD hS => ?_)
            refine lv_iload_n hx hb dX7_weakArrows_70 rfl (lv_at hl 2 rfl) ?_
            refine lv_icmp_eq (tgt := 81) hx hb dX7_weakArrows_71 (by decide) (fun c11 => ?_) (fun c11 => ?_)
            · have hf := if_t hf c11
              refine lv_iconst (v := 0) hx hb dX7_weakArrows_81 (by decide) ?_
              refine lv_ior hx hb dX7_weakArrows_82 ?_
              refine lv_istore (lv' := [(4, .int (v_l4_L5 ||| 0)), (0, .ref (a0 0)), (1, .int p1), (2, .int q3.1), (3, .int q4), (5, .int v_l5_L5)]) hx hb dX7_weakArrows_83 hl (by decide) rfl (fun ls hl => ?_)
              refine lv_iinc (v := (v_l5_L5 + 1)) (lv' := [(5, .int (v_l5_L5 + 1)), (4, .int (v_l4_L5 ||| 0)), (0, .ref (a0 0)), (1, .int p1), (2, .int q3.1), (3, .int q4)]) hx hb dX7_weakArrows_85 hl (k := 5) rfl (congrArg (fun z => v_l5_L5 + z) (by decide)) (by decide) rfl (fun ls hl => ?_)
              refine lv_goto (tgt := 29) hx hb dX7_weakArrows_88 (by decide) ?_
              exact ih (v_l4_L5 ||| 0) (v_l5_L5 + 1) q9 q10.2.1 q10.2.2.1 q10.2.2.2.1 q10.2.2.2.2.1 q10.2.2.2.2.2 _ hf _ _ hP hD hS _ (lv_sub hl [2, 3, 4, 5, 1, 0] rfl) kx
            · have hf := if_f hf c11
              refine lv_iconst (v := 1) hx hb dX7_weakArrows_74 (by decide) ?_
              refine lv_iload hx hb dX7_weakArrows_75 (lv_at hl 5 rfl) ?_
              refine lv_ishl hx hb dX7_weakArrows_77 ?_
              refine lv_goto (tgt := 82) hx hb dX7_weakArrows_78 (by decide) ?_
              refine lv_ior hx hb dX7_weakArrows_82 ?_
              refine lv_istore (lv' := [(4, .int (v_l4_L5 ||| (jshl 1 v_l5_L5))), (0, .ref (a0 0)), (1, .int p1), (2, .int q3.1), (3, .int q4), (5, .int v_l5_L5)]) hx hb dX7_weakArrows_83 hl (by decide) rfl (fun ls hl => ?_)
              refine lv_iinc (v := (v_l5_L5 + 1)) (lv' := [(5, .int (v_l5_L5 + 1)), (4, .int (v_l4_L5 ||| (jshl 1 v_l5_L5))), (0, .ref (a0 0)), (1, .int p1), (2, .int q3.1), (3, .int q4)]) hx hb dX7_weakArrows_85 hl (k := 5) rfl (congrArg (fun z => v_l5_L5 + z) (by decide)) (by decide) rfl (fun ls hl => ?_)
              refine lv_goto (tgt := 29) hx hb dX7_weakArrows_88 (by decide) ?_
              exact ih (v_l4_L5 ||| (jshl 1 v_l5_L5)) (v_l5_L5 + 1) q9 q10.2.1 q10.2.2.1 q10.2.2.2.1 q10.2.2.2.2.1 q10.2.2.2.2.2 _ hf _ _ hP hD hS _ (lv_sub hl [2, 3, 4, 5, 1, 0] rfl) kx
    refine L5 n 0 0 mnow q3.2.1 q3.2.2.1 q3.2.2.2.1 q3.2.2.2.2.1 q3.2.2.2.2.2 q6 hq6 _ _ hP hD hS _ (lv_sub hl [4, 5, 3, 2, 1, 0] rfl) ?_
    clear hP hD hS hl
    intro H locs hP hD hS ls hl
    refine lv_aload_n hx hb dX7_weakArrows_91 rfl (lv_at hl 0 rfl) ?_
    refine lv_iload_n hx hb dX7_weakArrows_92 rfl (lv_at hl 1 rfl) ?_
    refine lv_iconst (v := 2) hx hb dX7_weakArrows_93 (by decide) ?_
    refine lv_iload_n hx hb dX7_weakArrows_94 rfl (lv_at hl 2 rfl) ?_
    obtain ⟨q12, hq12, hf⟩ := ob_some hf
    refine xcVv (w' := ((w_M a0 cI cC q12 mhistory mkept mslot misFilled q6.2.2.1 q6.2.2.2.1 q6.2.2.2.2.1 q6.2.2.2.2.2.1 q6.2.2.2.2.2.2 mtyped mtext mat mnumber mreads mbeyond mjudgedTo mreach mgoes) ++ R)) S hK hN hA hP hD hS (c_X7_puts l D cI cC cS R a0 q6.2.1 mhistory mkept mslot misFilled q6.2.2.1 q6.2.2.2.1 q6.2.2.2.2.1 q6.2.2.2.2.2.1 q6.2.2.2.2.2.2 mtyped mtext mat mnumber mreads mbeyond mjudgedTo mreach mgoes p1 2 q4 _ hq12) gX7_weakArrows_X7_puts rfl hd_X7_puts ⟨by decide, by decide⟩ (List.Perm.refl _) (List.Perm.refl _) (ci := 7) (q := (RX7, TX7, 19)) rfl rfl rfl rfl hl.1 rfl (Nat.le_of_ble_eq_true rfl) dX7_weakArrows_95 ⟨Nat.zero_le _, Nat.zero_le _⟩ (fun H locs hP hD hS => ?_)
    refine lv_iload hx hb dX7_weakArrows_98 (lv_at hl 3 rfl) ?_
    have hf := Option.some.inj hf
    subst hf
    exact hret _ _ _ _ _ dX7_weakArrows_100 rfl hP hD hS rfl
  · have hf := if_f hf c2
    refine lv_iconst (v := (-1)) hx hb dX7_weakArrows_8 (by decide) ?_
    have hf := Option.some.inj hf
    subst hf
    exact hret _ _ _ _ _ dX7_weakArrows_9 rfl hP hD hS rfl
def f_X7_token_L50 (n : Nat) (d_mnow : (Nat → Int32)) : Nat → Int32 → Int32 → Int32 → Int32 → (Nat → Int32) → (Nat → Int32) → (Nat → Int32) → Int32 → (Nat → Int32) → Option (Int32 × Int32 × Int32 × (Nat → Int32) × (Nat → Int32) × (Nat → Int32) × Int32 × (Nat → Int32))
  | 0, _, _, _, _, _, _, _, _, _ => none
  | k + 1, d_l2, d_l3, d_l4, d_mgame, d_mmeasures, d_mmost, d_mnumbers, d_mround, d_mgoes => (if d_l4 = (-5) then some (d_l3, d_l4, d_mgame, d_mmeasures, d_mmost, d_mnumbers, d_mround, d_mgoes) else (if ((jshr d_l2 d_l4) &&& 1) = 0 then vg d_l3 16 ((f_X7_goesTo n d_mnow d_mgame d_mmeasures d_mmost d_mnumbers d_mround d_l4).bind fun q8 => f_X7_token_L50 n d_mnow k (d_l2 ||| (jshl 1 d_l4)) (d_l3 + 1) q8.1 q8.2.1 q8.2.2.1 q8.2.2.2.1 q8.2.2.2.2.1 q8.2.2.2.2.2 (upd d_mgoes (d_l3).toNatClampNeg d_l4)) else some (d_l3, d_l4, d_mgame, d_mmeasures, d_mmost, d_mnumbers, d_mround, d_mgoes)))
def f_X7_token_L149 (d_mnow : (Nat → Int32)) (d_mgoes : (Nat → Int32)) (d_l3 : Int32) (d_l4 : Int32) : Nat → Int32 → Int32 → Int32 → Option Int32
  | 0, _, _, _ => none
  | k + 1, d_l5, d_l6, d_l7 => (if d_l3 ≤ d_l7 then some (d_l5) else vg d_l7 16 (((if (d_mgoes (d_l7).toNatClampNeg) = d_l4 then some (1) else some (0)) : Option Int32).bind fun j15 => (if (d_l6 ||| j15) = 0 then f_X7_token_L149 d_mnow d_mgoes d_l3 d_l4 k d_l5 (d_l6 ||| j15) (d_l7 + 1) else (f_X7_of d_mnow (d_mgoes (d_l7).toNatClampNeg) 1).bind fun q18 => (if d_l5 ≤ q18 then f_X7_token_L149 d_mnow d_mgoes d_l3 d_l4 k d_l5 (d_l6 ||| j15) (d_l7 + 1) else (f_X7_of d_mnow (d_mgoes (d_l7).toNatClampNeg) 1).bind fun q20 => f_X7_token_L149 d_mnow d_mgoes d_l3 d_l4 k q20 (d_l6 ||| j15) (d_l7 + 1)))))
def f_X7_token (n : Nat) (mnow : (Nat → Int32)) (mgame : Int32) (mmeasures : (Nat → Int32)) (mmost : (Nat → Int32)) (mnumbers : (Nat → Int32)) (mround : Int32) (mgoes : (Nat → Int32)) (p1 : Int32) : Option (Int32 × Int32 × (Nat → Int32) × (Nat → Int32) × (Nat → Int32) × Int32 × (Nat → Int32)) := (f_X7_in p1 0 4).bind fun q1 => (if q1 = 0 then some ((-2), mgame, mmeasures, mmost, mnumbers, mround, mgoes) else (if 0 ≤ (mnow 57) then (if p1 = 0 then some ((mnow 57), mgame, mmeasures, mmost, mnumbers, mround, mgoes) else (f_X7_token_L50 n mnow n 0 0 (mnow 57) mgame mmeasures mmost mnumbers mround mgoes).bind fun q6 => (if q6.2.1 = (-5) then (if p1 = 1 then some ((q6.1 - 1), q6.2.2.1, q6.2.2.2.1, q6.2.2.2.2.1, q6.2.2.2.2.2.1, q6.2.2.2.2.2.2.1, q6.2.2.2.2.2.2.2) else (if p1 = 4 then vg (q6.1 - 1) 16 ((f_X7_of mnow (q6.2.2.2.2.2.2.2 ((q6.1 - 1)).toNatClampNeg) 0).bind fun q29 => some ((1 - q29), q6.2.2.1, q6.2.2.2.1, q6.2.2.2.2.1, q6.2.2.2.2.2.1, q6.2.2.2.2.2.2.1, q6.2.2.2.2.2.2.2)) else some ((-5), q6.2.2.1, q6.2.2.2.1, q6.2.2.2.2.1, q6.2.2.2.2.2.1, q6.2.2.2.2.2.2.1, q6.2.2.2.2.2.2.2))) else (f_X7_token_L149 mnow q6.2.2.2.2.2.2.2 q6.1 q6.2.1 n 8 0 0).bind fun q13 => (if p1 = 1 then some ((-5), q6.2.2.1, q6.2.2.2.1, q6.2.2.2.2.1, q6.2.2.2.2.2.1, q6.2.2.2.2.2.2.1, q6.2.2.2.2.2.2.2) else (if p1 = 2 then some (q13, q6.2.2.1, q6.2.2.2.1, q6.2.2.2.2.1, q6.2.2.2.2.2.1, q6.2.2.2.2.2.2.1, q6.2.2.2.2.2.2.2) else (if p1 = 3 then some (q6.1, q6.2.2.1, q6.2.2.2.1, q6.2.2.2.2.1, q6.2.2.2.2.2.1, q6.2.2.2.2.2.2.1, q6.2.2.2.2.2.2.2) else some ((jrem q13 2), q6.2.2.1, q6.2.2.2.1, q6.2.2.2.2.1, q6.2.2.2.2.2.1, q6.2.2.2.2.2.2.1, q6.2.2.2.2.2.2.2)))))) else some ((-4), mgame, mmeasures, mmost, mnumbers, mround, mgoes)))
theorem inw_X7_token_7 : ∀ w ∈ wsX70, w ∈ wsX7_token := fun _ h => List.mem_cons_of_mem _ (List.mem_append_right _ h)
theorem hd_X7_token : yX7_token.cls = RX7 ∧ yX7_token.cls ≠ "java/lang/invoke/MethodHandle" ∧ yX7_token.cls ≠ "java/lang/invoke/VarHandle" ∧ (parseMethodDescriptor yX7_token.desc).map (fun d => d.parameters.length) = some 1 := by decide +kernel
set_option maxHeartbeats 4000000 in
set_option maxRecDepth 100000 in
theorem c_X7_token (l : Launch) (D : va_G) (cI cC cS : ClassId) (R : va_W) (a0 : Nat → Nat) (mnow : (Nat → Int32)) (mhistory : (Nat → Int32)) (mkept : Int32) (mslot : (Nat → Int32)) (misFilled : Int32) (mgame : Int32) (mmeasures : (Nat → Int32)) (mmost : (Nat → Int32)) (mnumbers : (Nat → Int32)) (mround : Int32) (mtyped : Int32) (mtext : (Nat → Int32)) (mat : Int32) (mnumber : Int32) (mreads : (Nat → Int32)) (mbeyond : Int32) (mjudgedTo : (Nat → Int32)) (mreach : (Nat → Int32)) (mgoes : (Nat → Int32)) (p1 : Int32) (n : Nat) (r : Int32 × Int32 × (Nat → Int32) × (Nat → Int32) × (Nat → Int32) × Int32 × (Nat → Int32)) (hf : f_X7_token n mnow mgame mmeasures mmost mnumbers mround mgoes p1 = some r) : CI l yX7_token wsX7_token 6 137 D cI cC cS [.ref (a0 0), .int p1] ((w_M a0 cI cC mnow mhistory mkept mslot misFilled mgame mmeasures mmost mnumbers mround mtyped mtext mat mnumber mreads mbeyond mjudgedTo mreach mgoes) ++ R) r.1 ((w_M a0 cI cC mnow mhistory mkept mslot misFilled r.2.1 r.2.2.1 r.2.2.2.1 r.2.2.2.2.1 r.2.2.2.2.2.1 mtyped mtext mat mnumber mreads mbeyond mjudgedTo mreach r.2.2.2.2.2.2) ++ R) := by
  refine XI.of (cc := cX7_token) (maxL := 8) (ty := .int) (own := RX7) (by decide) rfl rfl (Nat.le_of_ble_eq_true rfl) ?_
  intro p e s m args below meth c A Q S hK hN hA hP hD hS ls hl hret
  obtain ⟨hx, hb, hml, hown, hts⟩ := id S
  have hl : lv_has ls 8 [(0, .ref (a0 0)), (1, .int p1)] := hl
  unfold f_X7_token at hf
  refine lv_iload_n hx hb dX7_token_0 rfl (lv_at hl 1 rfl) ?_
  refine lv_iconst (v := 0) hx hb dX7_token_1 (by decide) ?_
  refine lv_iconst (v := 4) hx hb dX7_token_2 (by decide) ?_
  obtain ⟨q1, hq1, hf⟩ := ob_some hf
  refine xcSi S hK hN hA hP hD hS (c_X7_in l D cI cC cS ((w_M a0 cI cC mnow mhistory mkept mslot misFilled mgame mmeasures mmost mnumbers mround mtyped mtext mat mnumber mreads mbeyond mjudgedTo mreach mgoes) ++ R) p1 0 4 _ hq1) gX7_token_X7_in rfl hd_X7_in ⟨by decide, by decide⟩ rfl hl.1 rfl (Nat.le_of_ble_eq_true rfl) dX7_token_3 ⟨Nat.zero_le _, Nat.zero_le _⟩ (fun H locs hP hD hS => ?_)
  refine lv_if_ne (tgt := 12) hx hb dX7_token_6 (by decide) (fun c2 => ?_) (fun c2 => ?_)
  · have hf := if_f hf c2
    refine lv_aload_n hx hb dX7_token_12 rfl (lv_at hl 0 rfl) ?_
    refine va_get (D := D) (ci := 7) (v := .ref (a0 1)) (C := RX7) (T := TX7) (N := 19) hx hb hts inw_X7_token_7 hown hK hP 0 rfl rfl 0 (by decide) (hts (.fieldLink RX7 7 "RingGamesModel" "now" "[I") (List.mem_of_getElem? (i := 1) rfl)) (fun _ h9 => h9) rfl dX7_token_13 ?_
    refine lv_bipush (v := 57) hx hb dX7_token_16 (by decide) ?_
    refine va_iald hx hb hK hP 1 0 rfl rfl (x_in (by decide)) dX7_token_18 ?_
    refine lv_if_ge (tgt := 25) hx hb dX7_token_19 (by decide) (fun c3 => ?_) (fun c3 => ?_)
    · have hf := if_t hf c3
      refine lv_iload_n hx hb dX7_token_25 rfl (lv_at hl 1 rfl) ?_
      refine lv_if_ne (tgt := 37) hx hb dX7_token_26 (by decide) (fun c4 => ?_) (fun c4 => ?_)
      · have hf := if_f hf c4
        refine lv_iconst (v := 0) hx hb dX7_token_37 (by decide) ?_
        refine lv_istore_n (lv' := [(2, .int 0), (0, .ref (a0 0)), (1, .int p1)]) hx hb dX7_token_38 rfl hl (by decide) rfl (fun ls hl => ?_)
        refine lv_iconst (v := 0) hx hb dX7_token_39 (by decide) ?_
        refine lv_istore_n (lv' := [(3, .int 0), (2, .int 0), (0, .ref (a0 0)), (1, .int p1)]) hx hb dX7_token_40 rfl hl (by decide) rfl (fun ls hl => ?_)
        refine lv_aload_n hx hb dX7_token_41 rfl (lv_at hl 2 rfl) ?_
        refine va_get (D := D) (ci := 7) (v := .ref (a0 1)) (C := RX7) (T := TX7) (N := 19) hx hb hts inw_X7_token_7 hown hK hP 0 rfl rfl 0 (by decide) (hts (.fieldLink RX7 7 "RingGamesModel" "now" "[I") (List.mem_of_getElem? (i := 1) rfl)) (fun _ h9 => h9) rfl dX7_token_42 ?_
        refine lv_bipush (v := 57) hx hb dX7_token_45 (by decide) ?_
        refine va_iald hx hb hK hP 1 0 rfl rfl (x_in (by decide)) dX7_token_47 ?_
        refine lv_istore (lv' := [(4, .int (mnow 57)), (3, .int 0), (2, .int 0), (0, .ref (a0 0)), (1, .int p1)]) hx hb dX7_token_48 hl (by decide) rfl (fun ls hl => ?_)
        obtain ⟨q6, hq6, hf⟩ := ob_some hf
        have L5 : ∀ (k : Nat) (v_l2_L5 : Int32) (v_l3_L5 : Int32) (v_l4_L5 : Int32) (v_mgame_L5 : Int32) (v_mmeasures_L5 : (Nat → Int32)) (v_mmost_L5 : (Nat → Int32)) (v_mnumbers_L5 : (Nat → Int32)) (v_mround_L5 : Int32) (v_mgoes_L5 : (Nat → Int32)) (q_L5 : Int32 × Int32 × Int32 × (Nat → Int32) × (Nat → Int32) × (Nat → Int32) × Int32 × (Nat → Int32)), f_X7_token_L50 n mnow k v_l2_L5 v_l3_L5 v_l4_L5 v_mgame_L5 v_mmeasures_L5 v_mmost_L5 v_mnumbers_L5 v_mround_L5 v_mgoes_L5 = some q_L5 → ∀ (H : Heap) (locs : List Loc), va_P D vwCl ((w_M a0 cI cC mnow mhistory mkept mslot misFilled v_mgame_L5 v_mmeasures_L5 v_mmost_L5 v_mnumbers_L5 v_mround_L5 mtyped mtext mat mnumber mreads mbeyond mjudgedTo mreach v_mgoes_L5) ++ R) H → va_D A ((w_M a0 cI cC mnow mhistory mkept mslot misFilled v_mgame_L5 v_mmeasures_L5 v_mmost_L5 v_mnumbers_L5 v_mround_L5 mtyped mtext mat mnumber mreads mbeyond mjudgedTo mreach v_mgoes_L5) ++ R) → va_S A s.heap H locs → ∀ ls : Array Slot, lv_has ls 8 [(0, .ref (a0 0)), (1, .int p1), (2, .int v_l2_L5), (3, .int v_l3_L5), (4, .int v_l4_L5)] → (∀ (H : Heap) (locs : List Loc), va_P D vwCl ((w_M a0 cI cC mnow mhistory mkept mslot misFilled q_L5.2.2.1 q_L5.2.2.2.1 q_L5.2.2.2.2.1 q_L5.2.2.2.2.2.1 q_L5.2.2.2.2.2.2.1 mtyped mtext mat mnumber mreads mbeyond mjudgedTo mreach q_L5.2.2.2.2.2.2.2) ++ R) H → va_D A ((w_M a0 cI cC mnow mhistory mkept mslot misFilled q_L5.2.2.1 q_L5.2.2.2.1 q_L5.2.2.2.2.1 q_L5.2.2.2.2.2.1 q_L5.2.2.2.2.2.2.1 mtyped mtext mat mnumber mreads mbeyond mjudgedTo mreach q_L5.2.2.2.2.2.2.2) ++ R) → va_S A s.heap H locs → ∀ ls : Array Slot, lv_has ls 8 [(0, .ref (a0 0)), (1, .int p1), (3, .int q_L5.1), (4, .int q_L5.2.1)] → W p l e (xR 6 137) s m args below meth c H locs 0 0 Q (F0 m 95 ls [])) → W p l e (xR 6 137) s m args below meth c H locs 0 0 Q (F0 m 50 ls []) := by
          intro k
          induction k with
          | zero => intro v_l2_L5 v_l3_L5 v_l4_L5 v_mgame_L5 v_mmeasures_L5 v_mmost_L5 v_mnumbers_L5 v_mround_L5 v_mgoes_L5 q_L5 hf; simp [f_X7_token_L50] at hf
          | succ k ih =>
            intro v_l2_L5 v_l3_L5 v_l4_L5 v_mgame_L5 v_mmeasures_L5 v_mmost_L5 v_mnumbers_L5 v_mround_L5 v_mgoes_L5 q_L5 hf H locs hP hD hS ls hl kx
            rw [f_X7_token_L50] at hf
            refine lv_iload hx hb dX7_token_50 (lv_at hl 4 rfl) ?_
            refine lv_bipush (v := (-5)) hx hb dX7_token_52 (by decide) ?_
            refine lv_icmp_eq (tgt := 95) hx hb dX7_token_54 (by decide) (fun c7 => ?_) (fun c7 => ?_)
            · have hf := if_t hf c7
              have hf := Option.some.inj hf
              subst hf
              exact kx _ _ hP hD hS _ (lv_sub hl [0, 1, 3, 4] rfl)
            · have hf := if_f hf c7
              refine lv_iload_n hx hb dX7_token_57 rfl (lv_at hl 2 rfl) ?_
              refine lv_iload hx hb dX7_token_58 (lv_at hl 4 rfl) ?_
              refine lv_ishr hx hb dX7_token_60 ?_
              refine lv_iconst (v := 1) hx hb dX7_token_61 (by decide) ?_
              refine lv_iand hx hb dX7_token_62 ?_
              refine lv_if_ne (tgt := 95) hx hb dX7_token_63 (by decide) (fun c8 => ?_) (fun c8 => ?_)
              · have hf := if_f hf c8
                have hf := Option.some.inj hf
                subst hf
                exact kx _ _ hP hD hS _ (lv_sub hl [0, 1, 3, 4] rfl)
              · have hf := if_t hf c8
                refine lv_iload_n hx hb dX7_token_66 rfl (lv_at hl 2 rfl) ?_
                refine lv_iconst (v := 1) hx hb dX7_token_67 (by decide) ?_
                refine lv_iload hx hb dX7_token_68 (lv_at hl 4 rfl) ?_
                refine lv_ishl hx hb dX7_token_70 ?_
                refine lv_ior hx hb dX7_token_71 ?_
                refine lv_istore_n (lv' := [(2, .int (v_l2_L5 ||| (jshl 1 v_l4_L5))), (0, .ref (a0 0)), (1, .int p1), (3, .int v_l3_L5), (4, .int v_l4_L5)]) hx hb dX7_token_72 rfl hl (by decide) rfl (fun ls hl => ?_)
                refine lv_aload_n hx hb dX7_token_73 rfl (lv_at hl 1 rfl) ?_
                refine va_get (D := D) (ci := 7) (v := .ref (a0 11)) (C := RX7) (T := TX7) (N := 19) hx hb hts inw_X7_token_7 hown hK hP 0 rfl rfl 18 (by decide) (hts (.fieldLink RX7 41 "RingGamesModel" "goes" "[I") (List.mem_of_getElem? (i := 2) rfl)) (fun _ h9 => h9) rfl dX7_token_74 ?_
                refine lv_iload_n hx hb dX7_token_77 rfl (lv_at hl 3 rfl) ?_
                refine lv_iload hx hb dX7_token_78 (lv_at hl 4 rfl) ?_
                obtain ⟨g9, hf⟩ := vg_some hf
                refine va_iast hx hb hK hP hD hS 11 0 rfl rfl g9 dX7_token_80 (fun H locs hP hD hS => ?_)
                have hP : va_P D vwCl ((w_M a0 cI cC mnow mhistory mkept mslot misFilled v_mgame_L5 v_mmeasures_L5 v_mmost_L5 v_mnumbers_L5 v_mround_L5 mtyped mtext mat mnumber mreads mbeyond mjudgedTo mreach (upd v_mgoes_L5 (v_l3_L5).toNatClampNeg v_l4_L5)) ++ R) H := hP
                have hD : va_D A ((w_M a0 cI cC mnow mhistory mkept mslot misFilled v_mgame_L5 v_mmeasures_L5 v_mmost_L5 v_mnumbers_L5 v_mround_L5 mtyped mtext mat mnumber mreads mbeyond mjudgedTo mreach (upd v_mgoes_L5 (v_l3_L5).toNatClampNeg v_l4_L5)) ++ R) := hD
                refine lv_iinc (v := (v_l3_L5 + 1)) (lv' := [(3, .int (v_l3_L5 + 1)), (2, .int (v_l2_L5 ||| (jshl 1 v_l4_L5))), (0, .ref (a0 0)), (1, .int p1), (4, .int v_l4_L5)]) hx hb dX7_token_81 hl (k := 3) rfl (congrArg (fun z => v_l3_L5 + z) (by decide)) (by decide) rfl (fun ls hl => ?_)
                refine lv_aload_n hx hb dX7_token_84 rfl (lv_at hl 2 rfl) ?_
                refine lv_iload hx hb dX7_token_85 (lv_at hl 4 rfl) ?_
                obtain ⟨q10, hq10, hf⟩ := ob_some hf
                refine xcVi (w' := ((w_M a0 cI cC mnow mhistory mkept mslot misFilled q10.2.1 q10.2.2.1 q10.2.2.2.1 q10.2.2.2.2.1 q10.2.2.2.2.2 mtyped mtext mat mnumber mreads mbeyond mjudgedTo mreach (upd v_mgoes_L5 (v_l3_L5).toNatClampNeg v_l4_L5)) ++ R)) S hK hN hA hP hD hS (c_X7_goesTo l D cI cC cS R a0 mnow mhistory mkept mslot misFilled v_mgame_L5 v_mmeasures_L5 v_mmost_L5 v_mnumbers_L5 v_mround_L5 mtyped mtext mat mnumber mreads mbeyond mjudgedTo mreach (upd v_mgoes_L5 (v_l3_L5).toNatClampNeg v_l4_L5) v_l4_L5 n _ hq10) gX7_token_X7_goesTo rfl hd_X7_goesTo ⟨by decide, by decide⟩ (List.Perm.refl _) (List.Perm.refl _) (ci := 7) (q := (RX7, TX7, 19)) rfl rfl rfl rfl hl.1 rfl (Nat.le_of_ble_eq_true rfl) dX7_token_87 ⟨Nat.zero_le _, Nat.zero_le _⟩ (fun H locs hP hD hS => ?_)
                refine lv_istore (lv' := [(4, .int q10.1), (3, .int (v_l3_L5 + 1)), (2, .int (v_l2_L5 ||| (jshl 1 v_l4_L5))), (0, .ref (a0 0)), (1, .int p1)]) hx hb dX7_token_90 hl (by decide) rfl (fun ls hl => ?_)
                refine lv_goto (tgt := 50) hx hb dX7_token_92 (by decide) ?_
                exact ih (v_l2_L5 ||| (jshl 1 v_l4_L5)) (v_l3_L5 + 1) q10.1 q10.2.1 q10.2.2.1 q10.2.2.2.1 q10.2.2.2.2.1 q10.2.2.2.2.2 (upd v_mgoes_L5 (v_l3_L5).toNatClampNeg v_l4_L5) _ hf _ _ hP hD hS _ (lv_sub hl [3, 4, 2, 1, 0] rfl) kx
        refine L5 n 0 0 (mnow 57) mgame mmeasures mmost mnumbers mround mgoes q6 hq6 _ _ hP hD hS _ (lv_sub hl [3, 4, 2, 1, 0] rfl) ?_
        clear hP hD hS hl
        intro H locs hP hD hS ls hl
        refine lv_iload hx hb dX7_token_95 (lv_at hl 3 rfl) ?_
        refine lv_bipush (v := (-5)) hx hb dX7_token_97 (by decide) ?_
        refine lv_icmp_ne (tgt := 139) hx hb dX7_token_99 (by decide) (fun c11 => ?_) (fun c11 => ?_)
        · have hf := if_f hf c11
          refine lv_bipush (v := 8) hx hb dX7_token_139 (by decide) ?_
          refine lv_istore (lv' := [(5, .int 8), (0, .ref (a0 0)), (1, .int p1), (3, .int q6.1), (4, .int q6.2.1)]) hx hb dX7_token_141 hl (by decide) rfl (fun ls hl => ?_)
          refine lv_iconst (v := 0) hx hb dX7_token_143 (by decide) ?_
          refine lv_istore (lv' := [(6, .int 0), (5, .int 8), (0, .ref (a0 0)), (1, .int p1), (3, .int q6.1), (4, .int q6.2.1)]) hx hb dX7_token_144 hl (by decide) rfl (fun ls hl => ?_)
          refine lv_iconst (v := 0) hx hb dX7_token_146 (by decide) ?_
          refine lv_istore (lv' := [(7, .int 0), (6, .int 0), (5, .int 8), (0, .ref (a0 0)), (1, .int p1), (3, .int q6.1), (4, .int q6.2.1)]) hx hb dX7_token_147 hl (by decide) rfl (fun ls hl => ?_)
          obtain ⟨q13, hq13, hf⟩ := ob_some hf
          have L12 : ∀ (k : Nat) (v_l5_L12 : Int32) (v_l6_L12 : Int32) (v_l7_L12 : Int32) (q_L12 : Int32), f_X7_token_L149 mnow q6.2.2.2.2.2.2.2 q6.1 q6.2.1 k v_l5_L12 v_l6_L12 v_l7_L12 = some q_L12 → ∀ (H : Heap) (locs : List Loc), va_P D vwCl ((w_M a0 cI cC mnow mhistory mkept mslot misFilled q6.2.2.1 q6.2.2.2.1 q6.2.2.2.2.1 q6.2.2.2.2.2.1 q6.2.2.2.2.2.2.1 mtyped mtext mat mnumber mreads mbeyond mjudgedTo mreach q6.2.2.2.2.2.2.2) ++ R) H → va_D A ((w_M a0 cI cC mnow mhistory mkept mslot misFilled q6.2.2.1 q6.2.2.2.1 q6.2.2.2.2.1 q6.2.2.2.2.2.1 q6.2.2.2.2.2.2.1 mtyped mtext mat mnumber mreads mbeyond mjudgedTo mreach q6.2.2.2.2.2.2.2) ++ R) → va_S A s.heap H locs → ∀ ls : Array Slot, lv_has ls 8 [(0, .ref (a0 0)), (1, .int p1), (3, .int q6.1), (4, .int q6.2.1), (5, .int v_l5_L12), (6, .int v_l6_L12), (7, .int v_l7_L12)] → (∀ (H : Heap) (locs : List Loc), va_P D vwCl ((w_M a0 cI cC mnow mhistory mkept mslot misFilled q6.2.2.1 q6.2.2.2.1 q6.2.2.2.2.1 q6.2.2.2.2.2.1 q6.2.2.2.2.2.2.1 mtyped mtext mat mnumber mreads mbeyond mjudgedTo mreach q6.2.2.2.2.2.2.2) ++ R) H → va_D A ((w_M a0 cI cC mnow mhistory mkept mslot misFilled q6.2.2.1 q6.2.2.2.1 q6.2.2.2.2.1 q6.2.2.2.2.2.1 q6.2.2.2.2.2.2.1 mtyped mtext mat mnumber mreads mbeyond mjudgedTo mreach q6.2.2.2.2.2.2.2) ++ R) → va_S A s.heap H locs → ∀ ls : Array Slot, lv_has ls 8 [(1, .int p1), (3, .int q6.1), (5, .int q_L12)] → W p l e (xR 6 137) s m args below meth c H locs 0 0 Q (F0 m 224 ls [])) → W p l e (xR 6 137) s m args below meth c H locs 0 0 Q (F0 m 149 ls []) := by
            intro k
            induction k with
            | zero => intro v_l5_L12 v_l6_L12 v_l7_L12 q_L12 hf; simp [f_X7_token_L149] at hf
            | succ k ih =>
              intro v_l5_L12 v_l6_L12 v_l7_L12 q_L12 hf H locs hP hD hS ls hl kx
              rw [f_X7_token_L149] at hf
              refine lv_iload hx hb dX7_token_149 (lv_at hl 6 rfl) ?_
              refine lv_iload_n hx hb dX7_token_151 rfl (lv_at hl 2 rfl) ?_
              refine lv_icmp_ge (tgt := 224) hx hb dX7_token_152 (by decide) (fun c14 => ?_) (fun c14 => ?_)
              · have hf := if_t hf c14
                have hf := Option.some.inj hf
                subst hf
                exact kx _ _ hP hD hS _ (lv_sub hl [1, 2, 4] rfl)
              · have hf := if_f hf c14
                refine lv_iload hx hb dX7_token_155 (lv_at hl 5 rfl) ?_
                refine lv_aload_n hx hb dX7_token_157 rfl (lv_at hl 0 rfl) ?_
                refine va_get (D := D) (ci := 7) (v := .ref (a0 11)) (C := RX7) (T := TX7) (N := 19) hx hb hts inw_X7_token_7 hown hK hP 0 rfl rfl 18 (by decide) (hts (.fieldLink RX7 41 "RingGamesModel" "goes" "[I") (List.mem_of_getElem? (i := 2) rfl)) (fun _ h9 => h9) rfl dX7_token_158 ?_
                refine lv_iload hx hb dX7_token_161 (lv_at hl 6 rfl) ?_
                obtain ⟨g15, hf⟩ := vg_some hf
                refine va_iald hx hb hK hP 11 0 rfl rfl g15 dX7_token_163 ?_
                refine lv_iload hx hb dX7_token_164 (lv_at hl 3 rfl) ?_
                obtain ⟨j17, hj17, hf⟩ := ob_some hf
                have J18 : ∀ (H : Heap) (locs : List Loc), va_P D vwCl ((w_M a0 cI cC mnow mhistory mkept mslot misFilled q6.2.2.1 q6.2.2.2.1 q6.2.2.2.2.1 q6.2.2.2.2.2.1 q6.2.2.2.2.2.2.1 mtyped mtext mat mnumber mreads mbeyond mjudgedTo mreach q6.2.2.2.2.2.2.2) ++ R) H → va_D A ((w_M a0 cI cC mnow mhistory mkept mslot misFilled q6.2.2.1 q6.2.2.2.1 q6.2.2.2.2.1 q6.2.2.2.2.2.1 q6.2.2.2.2.2.2.1 mtyped mtext mat mnumber mreads mbeyond mjudgedTo mreach q6.2.2.2.2.2.2.2) ++ R) → va_S A s.heap H locs → ∀ ls : Array Slot, lv_has ls 8 [(0, .ref (a0 0)), (1, .int p1), (3, .int q6.1), (4, .int q6.2.1), (5, .int v_l5_L12), (7, .int v_l7_L12)] → W p l e (xR 6 137) s m args below meth c H locs 0 0 Q (F0 m 174 ls [.int j17, .int v_l6_L12]) := by
                  intro H locs hP hD hS ls hl
                  refine lv_ior hx hb dX7_token_174 ?_
                  refine lv_istore (lv' := [(6, .int (v_l6_L12 ||| j17)), (0, .ref (a0 0)), (1, .int p1), (3, .int q6.1), (4, .int q6.2.1), (5, .int v_l5_L12), (7, .int v_l7_L12)]) hx hb dX7_token_175 hl (by decide) rfl (fun ls hl => ?_)
                  refine lv_iload hx hb dX7_token_177 (lv_at hl 0 rfl) ?_
                  refine lv_if_eq (tgt := 214) hx hb dX7_token_179 (by decide) (fun c19 => ?_) (fun c19 => ?_)
                  · have hf := if_t hf c19
                    refine lv_iload hx hb dX7_token_214 (lv_at hl 5 rfl) ?_
                    refine lv_istore (lv' := [(5, .int v_l5_L12), (6, .int (v_l6_L12 ||| j17)), (0, .ref (a0 0)), (1, .int p1), (3, .int q6.1), (4, .int q6.2.1), (7, .int v_l7_L12)]) hx hb dX7_token_216 hl (by decide) rfl (fun ls hl => ?_)
                    refine lv_iinc (v := (v_l7_L12 + 1)) (lv' := [(7, .int (v_l7_L12 + 1)), (5, .int v_l5_L12), (6, .int (v_l6_L12 ||| j17)), (0, .ref (a0 0)), (1, .int p1), (3, .int q6.1), (4, .int q6.2.1)]) hx hb dX7_token_218 hl (k := 6) rfl (congrArg (fun z => v_l7_L12 + z) (by decide)) (by decide) rfl (fun ls hl => ?_)
                    refine lv_goto (tgt := 149) hx hb dX7_token_221 (by decide) ?_
                    exact ih v_l5_L12 (v_l6_L12 ||| j17) (v_l7_L12 + 1) _ hf _ _ hP hD hS _ (lv_sub hl [3, 4, 5, 6, 1, 2, 0] rfl) kx
                  · have hf := if_f hf c19
                    refine lv_aload_n hx hb dX7_token_182 rfl (lv_at hl 1 rfl) ?_
                    refine lv_aload_n hx hb dX7_token_183 rfl (lv_at hl 1 rfl) ?_
                    refine va_get (D := D) (ci := 7) (v := .ref (a0 11)) (C := RX7) (T := TX7) (N := 19) hx hb hts inw_X7_token_7 hown hK hP 0 rfl rfl 18 (by decide) (hts (.fieldLink RX7 41 "RingGamesModel" "goes" "[I") (List.mem_of_getElem? (i := 2) rfl)) (fun _ h9 => h9) rfl dX7_token_184 ?_
                    refine lv_iload hx hb dX7_token_187 (lv_at hl 6 rfl) ?_
                    refine va_iald hx hb hK hP 11 0 rfl rfl g15 dX7_token_189 ?_
                    refine lv_iconst (v := 1) hx hb dX7_token_190 (by decide) ?_
                    obtain ⟨q20, hq20, hf⟩ := ob_some hf
                    refine xcVi (w' := ((w_M a0 cI cC mnow mhistory mkept mslot misFilled q6.2.2.1 q6.2.2.2.1 q6.2.2.2.2.1 q6.2.2.2.2.2.1 q6.2.2.2.2.2.2.1 mtyped mtext mat mnumber mreads mbeyond mjudgedTo mreach q6.2.2.2.2.2.2.2) ++ R)) S hK hN hA hP hD hS (c_X7_of l D cI cC cS R a0 mnow mhistory mkept mslot misFilled q6.2.2.1 q6.2.2.2.1 q6.2.2.2.2.1 q6.2.2.2.2.2.1 q6.2.2.2.2.2.2.1 mtyped mtext mat mnumber mreads mbeyond mjudgedTo mreach q6.2.2.2.2.2.2.2 (q6.2.2.2.2.2.2.2 (v_l7_L12).toNatClampNeg) 1 _ hq20) gX7_token_X7_of rfl hd_X7_of ⟨by decide, by decide⟩ (List.Perm.refl _) (List.Perm.refl _) (ci := 7) (q := (RX7, TX7, 19)) rfl rfl rfl rfl hl.1 rfl (Nat.le_of_ble_eq_true rfl) dX7_token_191 ⟨Nat.zero_le _, Nat.zero_le _⟩ (fun H locs hP hD hS => ?_)
                    refine lv_iload hx hb dX7_token_194 (lv_at hl 5 rfl) ?_
                    refine lv_icmp_ge (tgt := 214) hx hb dX7_token_196 (by decide) (fun c21 => ?_) (fun c21 => ?_)
                    · have hf := if_t hf c21
                      refine lv_iload hx hb dX7_token_214 (lv_at hl 5 rfl) ?_
                      refine lv_istore (lv' := [(5, .int v_l5_L12), (6, .int (v_l6_L12 ||| j17)), (0, .ref (a0 0)), (1, .int p1), (3, .int q6.1), (4, .int q6.2.1), (7, .int v_l7_L12)]) hx hb dX7_token_216 hl (by decide) rfl (fun ls hl => ?_)
                      refine lv_iinc (v := (v_l7_L12 + 1)) (lv' := [(7, .int (v_l7_L12 + 1)), (5, .int v_l5_L12), (6, .int (v_l6_L12 ||| j17)), (0, .ref (a0 0)), (1, .int p1), (3, .int q6.1), (4, .int q6.2.1)]) hx hb dX7_token_218 hl (k := 6) rfl (congrArg (fun z => v_l7_L12 + z) (by decide)) (by decide) rfl (fun ls hl => ?_)
                      refine lv_goto (tgt := 149) hx hb dX7_token_221 (by decide) ?_
                      exact ih v_l5_L12 (v_l6_L12 ||| j17) (v_l7_L12 + 1) _ hf _ _ hP hD hS _ (lv_sub hl [3, 4, 5, 6, 1, 2, 0] rfl) kx
                    · have hf := if_f hf c21
                      refine lv_aload_n hx hb dX7_token_199 rfl (lv_at hl 1 rfl) ?_
                      refine lv_aload_n hx hb dX7_token_200 rfl (lv_at hl 1 rfl) ?_
                      refine va_get (D := D) (ci := 7) (v := .ref (a0 11)) (C := RX7) (T := TX7) (N := 19) hx hb hts inw_X7_token_7 hown hK hP 0 rfl rfl 18 (by decide) (hts (.fieldLink RX7 41 "RingGamesModel" "goes" "[I") (List.mem_of_getElem? (i := 2) rfl)) (fun _ h9 => h9) rfl dX7_token_201 ?_
                      refine lv_iload hx hb dX7_token_204 (lv_at hl 6 rfl) ?_
                      refine va_iald hx hb hK hP 11 0 rfl rfl g15 dX7_token_206 ?_
                      refine lv_iconst (v := 1) hx hb dX7_token_207 (by decide) ?_
                      obtain ⟨q22, hq22, hf⟩ := ob_some hf
                      refine xcVi (w' := ((w_M a0 cI cC mnow mhistory mkept mslot misFilled q6.2.2.1 q6.2.2.2.1 q6.2.2.2.2.1 q6.2.2.2.2.2.1 q6.2.2.2.2.2.2.1 mtyped mtext mat mnumber mreads mbeyond mjudgedTo mreach q6.2.2.2.2.2.2.2) ++ R)) S hK hN hA hP hD hS (c_X7_of l D cI cC cS R a0 mnow mhistory mkept mslot misFilled q6.2.2.1 q6.2.2.2.1 q6.2.2.2.2.1 q6.2.2.2.2.2.1 q6.2.2.2.2.2.2.1 mtyped mtext mat mnumber mreads mbeyond mjudgedTo mreach q6.2.2.2.2.2.2.2 (q6.2.2.2.2.2.2.2 (v_l7_L12).toNatClampNeg) 1 _ hq22) gX7_token_X7_of rfl hd_X7_of ⟨by decide, by decide⟩ (List.Perm.refl _) (List.Perm.refl _) (ci := 7) (q := (RX7, TX7, 19)) rfl rfl rfl rfl hl.1 rfl (Nat.le_of_ble_eq_true rfl) dX7_token_208 ⟨Nat.zero_le _, Nat.zero_le _⟩ (fun H locs hP hD hS => ?_)
                      refine lv_goto (tgt := 216) hx hb dX7_token_211 (by decide) ?_
                      refine lv_istore (lv' := [(5, .int q22), (6, .int (v_l6_L12 ||| j17)), (0, .ref (a0 0)), (1, .int p1), (3, .int q6.1), (4, .int q6.2.1), (7, .int v_l7_L12)]) hx hb dX7_token_216 hl (by decide) rfl (fun ls hl => ?_)
                      refine lv_iinc (v := (v_l7_L12 + 1)) (lv' := [(7, .int (v_l7_L12 + 1)), (5, .int q22), (6, .int (v_l6_L12 ||| j17)), (0, .ref (a0 0)), (1, .int p1), (3, .int q6.1), (4, .int q6.2.1)]) hx hb dX7_token_218 hl (k := 6) rfl (congrArg (fun z => v_l7_L12 + z) (by decide)) (by decide) rfl (fun ls hl => ?_)
                      refine lv_goto (tgt := 149) hx hb dX7_token_221 (by decide) ?_
                      exact ih q22 (v_l6_L12 ||| j17) (v_l7_L12 + 1) _ hf _ _ hP hD hS _ (lv_sub hl [3, 4, 5, 6, 1, 2, 0] rfl) kx
                clear hf
                have hf := hj17
                refine lv_icmp_ne (tgt := 173) hx hb dX7_token_166 (by decide) (fun c16 => ?_) (fun c16 => ?_)
                · have hf := if_f hf c16
                  refine lv_iconst (v := 0) hx hb dX7_token_173 (by decide) ?_
                  have hf := Option.some.inj hf
                  subst hf
                  exact J18 _ _ hP hD hS _ (lv_sub hl [0, 1, 2, 3, 4, 6] rfl)
                · have hf := if_t hf c16
                  refine lv_iconst (v := 1) hx hb dX7_token_169 (by decide) ?_
                  refine lv_goto (tgt := 174) hx hb dX7_token_170 (by decide) ?_
                  have hf := Option.some.inj hf
                  subst hf
                  exact J18 _ _ hP hD hS _ (lv_sub hl [0, 1, 2, 3, 4, 6] rfl)
          refine L12 n 8 0 0 q13 hq13 _ _ hP hD hS _ (lv_sub hl [3, 4, 5, 6, 2, 1, 0] rfl) ?_
          clear hP hD hS hl
          intro H locs hP hD hS ls hl
          refine lv_iload_n hx hb dX7_token_224 rfl (lv_at hl 0 rfl) ?_
          refine lv_iconst (v := 1) hx hb dX7_token_225 (by decide) ?_
          refine lv_icmp_ne (tgt := 234) hx hb dX7_token_226 (by decide) (fun c23 => ?_) (fun c23 => ?_)
          · have hf := if_f hf c23
            refine lv_iload_n hx hb dX7_token_234 rfl (lv_at hl 0 rfl) ?_
            refine lv_iconst (v := 2) hx hb dX7_token_235 (by decide) ?_
            refine lv_icmp_ne (tgt := 244) hx hb dX7_token_236 (by decide) (fun c24 => ?_) (fun c24 => ?_)
            · have hf := if_f hf c24
              refine lv_iload_n hx hb dX7_token_244 rfl (lv_at hl 0 rfl) ?_
              refine lv_iconst (v := 3) hx hb dX7_token_245 (by decide) ?_
              refine lv_icmp_ne (tgt := 253) hx hb dX7_token_246 (by decide) (fun c25 => ?_) (fun c25 => ?_)
              · have hf := if_f hf c25
                refine lv_iload hx hb dX7_token_253 (lv_at hl 2 rfl) ?_
                refine lv_iconst (v := 2) hx hb dX7_token_255 (by decide) ?_
                refine lv_irem hx hb dX7_token_256 (by decide) ?_
                have hf := Option.some.inj hf
                subst hf
                exact hret _ _ _ _ _ dX7_token_257 rfl hP hD hS rfl
              · have hf := if_t hf c25
                refine lv_iload_n hx hb dX7_token_249 rfl (lv_at hl 1 rfl) ?_
                refine lv_goto (tgt := 257) hx hb dX7_token_250 (by decide) ?_
                have hf := Option.some.inj hf
                subst hf
                exact hret _ _ _ _ _ dX7_token_257 rfl hP hD hS rfl
            · have hf := if_t hf c24
              refine lv_iload hx hb dX7_token_239 (lv_at hl 2 rfl) ?_
              refine lv_goto (tgt := 257) hx hb dX7_token_241 (by decide) ?_
              have hf := Option.some.inj hf
              subst hf
              exact hret _ _ _ _ _ dX7_token_257 rfl hP hD hS rfl
          · have hf := if_t hf c23
            refine lv_bipush (v := (-5)) hx hb dX7_token_229 (by decide) ?_
            refine lv_goto (tgt := 257) hx hb dX7_token_231 (by decide) ?_
            have hf := Option.some.inj hf
            subst hf
            exact hret _ _ _ _ _ dX7_token_257 rfl hP hD hS rfl
        · have hf := if_t hf c11
          refine lv_iload_n hx hb dX7_token_102 rfl (lv_at hl 1 rfl) ?_
          refine lv_iconst (v := 1) hx hb dX7_token_103 (by decide) ?_
          refine lv_icmp_ne (tgt := 113) hx hb dX7_token_104 (by decide) (fun c26 => ?_) (fun c26 => ?_)
          · have hf := if_f hf c26
            refine lv_iload_n hx hb dX7_token_113 rfl (lv_at hl 1 rfl) ?_
            refine lv_iconst (v := 4) hx hb dX7_token_114 (by decide) ?_
            refine lv_icmp_ne (tgt := 136) hx hb dX7_token_115 (by decide) (fun c27 => ?_) (fun c27 => ?_)
            · have hf := if_f hf c27
              refine lv_bipush (v := (-5)) hx hb dX7_token_136 (by decide) ?_
              have hf := Option.some.inj hf
              subst hf
              exact hret _ _ _ _ _ dX7_token_138 rfl hP hD hS rfl
            · have hf := if_t hf c27
              refine lv_iconst (v := 1) hx hb dX7_token_118 (by decide) ?_
              refine lv_aload_n hx hb dX7_token_119 rfl (lv_at hl 0 rfl) ?_
              refine lv_aload_n hx hb dX7_token_120 rfl (lv_at hl 0 rfl) ?_
              refine va_get (D := D) (ci := 7) (v := .ref (a0 11)) (C := RX7) (T := TX7) (N := 19) hx hb hts inw_X7_token_7 hown hK hP 0 rfl rfl 18 (by decide) (hts (.fieldLink RX7 41 "RingGamesModel" "goes" "[I") (List.mem_of_getElem? (i := 2) rfl)) (fun _ h9 => h9) rfl dX7_token_121 ?_
              refine lv_iload_n hx hb dX7_token_124 rfl (lv_at hl 2 rfl) ?_
              refine lv_iconst (v := 1) hx hb dX7_token_125 (by decide) ?_
              refine lv_isub hx hb dX7_token_126 ?_
              obtain ⟨g28, hf⟩ := vg_some hf
              refine va_iald hx hb hK hP 11 0 rfl rfl g28 dX7_token_127 ?_
              refine lv_iconst (v := 0) hx hb dX7_token_128 (by decide) ?_
              obtain ⟨q29, hq29, hf⟩ := ob_some hf
              refine xcVi (w' := ((w_M a0 cI cC mnow mhistory mkept mslot misFilled q6.2.2.1 q6.2.2.2.1 q6.2.2.2.2.1 q6.2.2.2.2.2.1 q6.2.2.2.2.2.2.1 mtyped mtext mat mnumber mreads mbeyond mjudgedTo mreach q6.2.2.2.2.2.2.2) ++ R)) S hK hN hA hP hD hS (c_X7_of l D cI cC cS R a0 mnow mhistory mkept mslot misFilled q6.2.2.1 q6.2.2.2.1 q6.2.2.2.2.1 q6.2.2.2.2.2.1 q6.2.2.2.2.2.2.1 mtyped mtext mat mnumber mreads mbeyond mjudgedTo mreach q6.2.2.2.2.2.2.2 (q6.2.2.2.2.2.2.2 ((q6.1 - 1)).toNatClampNeg) 0 _ hq29) gX7_token_X7_of rfl hd_X7_of ⟨by decide, by decide⟩ (List.Perm.refl _) (List.Perm.refl _) (ci := 7) (q := (RX7, TX7, 19)) rfl rfl rfl rfl hl.1 rfl (Nat.le_of_ble_eq_true rfl) dX7_token_129 ⟨Nat.zero_le _, Nat.zero_le _⟩ (fun H locs hP hD hS => ?_)
              refine lv_isub hx hb dX7_token_132 ?_
              refine lv_goto (tgt := 138) hx hb dX7_token_133 (by decide) ?_
              have hf := Option.some.inj hf
              subst hf
              exact hret _ _ _ _ _ dX7_token_138 rfl hP hD hS rfl
          · have hf := if_t hf c26
            refine lv_iload_n hx hb dX7_token_107 rfl (lv_at hl 2 rfl) ?_
            refine lv_iconst (v := 1) hx hb dX7_token_108 (by decide) ?_
            refine lv_isub hx hb dX7_token_109 ?_
            refine lv_goto (tgt := 138) hx hb dX7_token_110 (by decide) ?_
            have hf := Option.some.inj hf
            subst hf
            exact hret _ _ _ _ _ dX7_token_138 rfl hP hD hS rfl
      · have hf := if_t hf c4
        refine lv_aload_n hx hb dX7_token_29 rfl (lv_at hl 0 rfl) ?_
        refine va_get (D := D) (ci := 7) (v := .ref (a0 1)) (C := RX7) (T := TX7) (N := 19) hx hb hts inw_X7_token_7 hown hK hP 0 rfl rfl 0 (by decide) (hts (.fieldLink RX7 7 "RingGamesModel" "now" "[I") (List.mem_of_getElem? (i := 1) rfl)) (fun _ h9 => h9) rfl dX7_token_30 ?_
        refine lv_bipush (v := 57) hx hb dX7_token_33 (by decide) ?_
        refine va_iald hx hb hK hP 1 0 rfl rfl (x_in (by decide)) dX7_token_35 ?_
        have hf := Option.some.inj hf
        subst hf
        exact hret _ _ _ _ _ dX7_token_36 rfl hP hD hS rfl
    · have hf := if_f hf c3
      refine lv_bipush (v := (-4)) hx hb dX7_token_22 (by decide) ?_
      have hf := Option.some.inj hf
      subst hf
      exact hret _ _ _ _ _ dX7_token_24 rfl hP hD hS rfl
  · have hf := if_t hf c2
    refine lv_bipush (v := (-2)) hx hb dX7_token_9 (by decide) ?_
    have hf := Option.some.inj hf
    subst hf
    exact hret _ _ _ _ _ dX7_token_11 rfl hP hD hS rfl
def f_X7_placesThat_L4 (d_mnow : (Nat → Int32)) (d_l1 : Int32) : Nat → Int32 → Int32 → Option Int32
  | 0, _, _ => none
  | k + 1, d_l2, d_l3 => (if (d_mnow 56) ≤ d_l3 then some (d_l2) else ((if d_l1 = 2 then (f_X7_of d_mnow d_l3 0).bind fun q11 => (if q11 = 0 then some (1) else some (0)) else (if d_l1 = 3 then (f_X7_of d_mnow d_l3 2).bind fun q9 => (if q9 = 0 then some (1) else some (0)) else (f_X7_of d_mnow d_l3 3).bind fun q7 => (if 14 ≤ q7 then some (0) else some (1)))) : Option Int32).bind fun j3 => (if j3 = 0 then f_X7_placesThat_L4 d_mnow d_l1 k (d_l2 ||| 0) (d_l3 + 1) else f_X7_placesThat_L4 d_mnow d_l1 k (d_l2 ||| (jshl 1 d_l3)) (d_l3 + 1)))
def f_X7_placesThat (n : Nat) (mnow : (Nat → Int32)) (p1 : Int32) : Option Int32 := (f_X7_placesThat_L4 mnow p1 n 0 0).bind fun q2 => some (q2)
theorem inw_X7_placesThat_7 : ∀ w ∈ wsX70, w ∈ wsX7_placesThat := fun _ h => List.mem_cons_of_mem _ (List.mem_append_right _ h)
theorem hd_X7_placesThat : yX7_placesThat.cls = RX7 ∧ yX7_placesThat.cls ≠ "java/lang/invoke/MethodHandle" ∧ yX7_placesThat.cls ≠ "java/lang/invoke/VarHandle" ∧ (parseMethodDescriptor yX7_placesThat.desc).map (fun d => d.parameters.length) = some 1 := by decide +kernel
set_option maxHeartbeats 4000000 in
set_option maxRecDepth 100000 in
theorem c_X7_placesThat (l : Launch) (D : va_G) (cI cC cS : ClassId) (R : va_W) (a0 : Nat → Nat) (mnow : (Nat → Int32)) (mhistory : (Nat → Int32)) (mkept : Int32) (mslot : (Nat → Int32)) (misFilled : Int32) (mgame : Int32) (mmeasures : (Nat → Int32)) (mmost : (Nat → Int32)) (mnumbers : (Nat → Int32)) (mround : Int32) (mtyped : Int32) (mtext : (Nat → Int32)) (mat : Int32) (mnumber : Int32) (mreads : (Nat → Int32)) (mbeyond : Int32) (mjudgedTo : (Nat → Int32)) (mreach : (Nat → Int32)) (mgoes : (Nat → Int32)) (p1 : Int32) (n : Nat) (r : Int32) (hf : f_X7_placesThat n mnow p1 = some r) : CI l yX7_placesThat wsX7_placesThat 1 22 D cI cC cS [.ref (a0 0), .int p1] ((w_M a0 cI cC mnow mhistory mkept mslot misFilled mgame mmeasures mmost mnumbers mround mtyped mtext mat mnumber mreads mbeyond mjudgedTo mreach mgoes) ++ R) r ((w_M a0 cI cC mnow mhistory mkept mslot misFilled mgame mmeasures mmost mnumbers mround mtyped mtext mat mnumber mreads mbeyond mjudgedTo mreach mgoes) ++ R) := by
  refine XI.of (cc := cX7_placesThat) (maxL := 5) (ty := .int) (own := RX7) (by decide) rfl rfl (Nat.le_of_ble_eq_true rfl) ?_
  intro p e s m args below meth c A Q S hK hN hA hP hD hS ls hl hret
  obtain ⟨hx, hb, hml, hown, hts⟩ := id S
  have hl : lv_has ls 5 [(0, .ref (a0 0)), (1, .int p1)] := hl
  unfold f_X7_placesThat at hf
  refine lv_iconst (v := 0) hx hb dX7_placesThat_0 (by decide) ?_
  refine lv_istore_n (lv' := [(2, .int 0), (0, .ref (a0 0)), (1, .int p1)]) hx hb dX7_placesThat_1 rfl hl (by decide) rfl (fun ls hl => ?_)
  refine lv_iconst (v := 0) hx hb dX7_placesThat_2 (by decide) ?_
  refine lv_istore_n (lv' := [(3, .int 0), (2, .int 0), (0, .ref (a0 0)), (1, .int p1)]) hx hb dX7_placesThat_3 rfl hl (by decide) rfl (fun ls hl => ?_)
  obtain ⟨q2, hq2, hf⟩ := ob_some hf
  have L1 : ∀ (k : Nat) (v_l2_L1 : Int32) (v_l3_L1 : Int32) (q_L1 : Int32), f_X7_placesThat_L4 mnow p1 k v_l2_L1 v_l3_L1 = some q_L1 → ∀ (H : Heap) (locs : List Loc), va_P D vwCl ((w_M a0 cI cC mnow mhistory mkept mslot misFilled mgame mmeasures mmost mnumbers mround mtyped mtext mat mnumber mreads mbeyond mjudgedTo mreach mgoes) ++ R) H → va_D A ((w_M a0 cI cC mnow mhistory mkept mslot misFilled mgame mmeasures mmost mnumbers mround mtyped mtext mat mnumber mreads mbeyond mjudgedTo mreach mgoes) ++ R) → va_S A s.heap H locs → ∀ ls : Array Slot, lv_has ls 5 [(0, .ref (a0 0)), (1, .int p1), (2, .int v_l2_L1), (3, .int v_l3_L1)] → (∀ (H : Heap) (locs : List Loc), va_P D vwCl ((w_M a0 cI cC mnow mhistory mkept mslot misFilled mgame mmeasures mmost mnumbers mround mtyped mtext mat mnumber mreads mbeyond mjudgedTo mreach mgoes) ++ R) H → va_D A ((w_M a0 cI cC mnow mhistory mkept mslot misFilled mgame mmeasures mmost mnumbers mround mtyped mtext mat mnumber mreads mbeyond mjudgedTo mreach mgoes) ++ R) → va_S A s.heap H locs → ∀ ls : Array Slot, lv_has ls 5 [(2, .int q_L1)] → W p l e (xR 1 22) s m args below meth c H locs 0 0 Q (F0 m 98 ls [])) → W p l e (xR 1 22) s m args below meth c H locs 0 0 Q (F0 m 4 ls []) := by
    intro k
    induction k with
    | zero => intro v_l2_L1 v_l3_L1 q_L1 hf; simp [f_X7_placesThat_L4] at hf
    | succ k ih =>
      intro v_l2_L1 v_l3_L1 q_L1 hf H locs hP hD hS ls hl kx
      rw [f_X7_placesThat_L4] at hf
      refine lv_iload_n hx hb dX7_placesThat_4 rfl (lv_at hl 3 rfl) ?_
      refine lv_aload_n hx hb dX7_placesThat_5 rfl (lv_at hl 0 rfl) ?_
      refine va_get (D := D) (ci := 7) (v := .ref (a0 1)) (C := RX7) (T := TX7) (N := 19) hx hb hts inw_X7_placesThat_7 hown hK hP 0 rfl rfl 0 (by decide) (hts (.fieldLink RX7 7 "RingGamesModel" "now" "[I") (List.mem_of_getElem? (i := 1) rfl)) (fun _ h9 => h9) rfl dX7_placesThat_6 ?_
      refine lv_bipush (v := 56) hx hb dX7_placesThat_9 (by decide) ?_
      refine va_iald hx hb hK hP 1 0 rfl rfl (x_in (by decide)) dX7_placesThat_11 ?_
      refine lv_icmp_ge (tgt := 98) hx hb dX7_placesThat_12 (by decide) (fun c3 => ?_) (fun c3 => ?_)
      · have hf := if_t hf c3
        have hf := Option.some.inj hf
        subst hf
        exact kx _ _ hP hD hS _ (lv_sub hl [2] rfl)
      · have hf := if_f hf c3
        refine lv_iload_n hx hb dX7_placesThat_15 rfl (lv_at hl 1 rfl) ?_
        refine lv_iconst (v := 2) hx hb dX7_placesThat_16 (by decide) ?_
        obtain ⟨j5, hj5, hf⟩ := ob_some hf
        have J6 : ∀ (H : Heap) (locs : List Loc), va_P D vwCl ((w_M a0 cI cC mnow mhistory mkept mslot misFilled mgame mmeasures mmost mnumbers mround mtyped mtext mat mnumber mreads mbeyond mjudgedTo mreach mgoes) ++ R) H → va_D A ((w_M a0 cI cC mnow mhistory mkept mslot misFilled mgame mmeasures mmost mnumbers mround mtyped mtext mat mnumber mreads mbeyond mjudgedTo mreach mgoes) ++ R) → va_S A s.heap H locs → ∀ ls : Array Slot, lv_has ls 5 [(0, .ref (a0 0)), (1, .int p1), (2, .int v_l2_L1), (3, .int v_l3_L1)] → W p l e (xR 1 22) s m args below meth c H locs 0 0 Q (F0 m 75 ls [.int j5]) := by
          intro H locs hP hD hS ls hl
          refine lv_istore (lv' := [(4, .int j5), (0, .ref (a0 0)), (1, .int p1), (2, .int v_l2_L1), (3, .int v_l3_L1)]) hx hb dX7_placesThat_75 hl (by decide) rfl (fun ls hl => ?_)
          refine lv_iload_n hx hb dX7_placesThat_77 rfl (lv_at hl 3 rfl) ?_
          refine lv_iload hx hb dX7_placesThat_78 (lv_at hl 0 rfl) ?_
          refine lv_if_eq (tgt := 89) hx hb dX7_placesThat_80 (by decide) (fun c7 => ?_) (fun c7 => ?_)
          · have hf := if_t hf c7
            refine lv_iconst (v := 0) hx hb dX7_placesThat_89 (by decide) ?_
            refine lv_ior hx hb dX7_placesThat_90 ?_
            refine lv_istore_n (lv' := [(2, .int (v_l2_L1 ||| 0)), (4, .int j5), (0, .ref (a0 0)), (1, .int p1), (3, .int v_l3_L1)]) hx hb dX7_placesThat_91 rfl hl (by decide) rfl (fun ls hl => ?_)
            refine lv_iinc (v := (v_l3_L1 + 1)) (lv' := [(3, .int (v_l3_L1 + 1)), (2, .int (v_l2_L1 ||| 0)), (4, .int j5), (0, .ref (a0 0)), (1, .int p1)]) hx hb dX7_placesThat_92 hl (k := 4) rfl (congrArg (fun z => v_l3_L1 + z) (by decide)) (by decide) rfl (fun ls hl => ?_)
            refine lv_goto (tgt := 4) hx hb dX7_placesThat_95 (by decide) ?_
            exact ih (v_l2_L1 ||| 0) (v_l3_L1 + 1) _ hf _ _ hP hD hS _ (lv_sub hl [3, 4, 1, 0] rfl) kx
          · have hf := if_f hf c7
            refine lv_iconst (v := 1) hx hb dX7_placesThat_83 (by decide) ?_
            refine lv_iload_n hx hb dX7_placesThat_84 rfl (lv_at hl 4 rfl) ?_
            refine lv_ishl hx hb dX7_placesThat_85 ?_
            refine lv_goto (tgt := 90) hx hb dX7_placesThat_86 (by decide) ?_
            refine lv_ior hx hb dX7_placesThat_90 ?_
            refine lv_istore_n (lv' := [(2, .int (v_l2_L1 ||| (jshl 1 v_l3_L1))), (4, .int j5), (0, .ref (a0 0)), (1, .int p1), (3, .int v_l3_L1)]) hx hb dX7_placesThat_91 rfl hl (by decide) rfl (fun ls hl => ?_)
            refine lv_iinc (v := (v_l3_L1 + 1)) (lv' := [(3, .int (v_l3_L1 + 1)), (2, .int (v_l2_L1 ||| (jshl 1 v_l3_L1))), (4, .int j5), (0, .ref (a0 0)), (1, .int p1)]) hx hb dX7_placesThat_92 hl (k := 4) rfl (congrArg (fun z => v_l3_L1 + z) (by decide)) (by decide) rfl (fun ls hl => ?_)
            refine lv_goto (tgt := 4) hx hb dX7_placesThat_95 (by decide) ?_
            exact ih (v_l2_L1 ||| (jshl 1 v_l3_L1)) (v_l3_L1 + 1) _ hf _ _ hP hD hS _ (lv_sub hl [3, 4, 1, 0] rfl) kx
        clear hf
        have hf := hj5
        refine lv_icmp_ne (tgt := 37) hx hb dX7_placesThat_17 (by decide) (fun c4 => ?_) (fun c4 => ?_)
        · have hf := if_f hf c4
          refine lv_iload_n hx hb dX7_placesThat_37 rfl (lv_at hl 1 rfl) ?_
          refine lv_iconst (v := 3) hx hb dX7_placesThat_38 (by decide) ?_
          refine lv_icmp_ne (tgt := 59) hx hb dX7_placesThat_39 (by decide) (fun c8 => ?_) (fun c8 => ?_)
          · have hf := if_f hf c8
            refine lv_aload_n hx hb dX7_placesThat_59 rfl (lv_at hl 0 rfl) ?_
            refine lv_iload_n hx hb dX7_placesThat_60 rfl (lv_at hl 3 rfl) ?_
            refine lv_iconst (v := 3) hx hb dX7_placesThat_61 (by decide) ?_
            obtain ⟨q9, hq9, hf⟩ := ob_some hf
            refine xcVi (w' := ((w_M a0 cI cC mnow mhistory mkept mslot misFilled mgame mmeasures mmost mnumbers mround mtyped mtext mat mnumber mreads mbeyond mjudgedTo mreach mgoes) ++ R)) S hK hN hA hP hD hS (c_X7_of l D cI cC cS R a0 mnow mhistory mkept mslot misFilled mgame mmeasures mmost mnumbers mround mtyped mtext mat mnumber mreads mbeyond mjudgedTo mreach mgoes v_l3_L1 3 _ hq9) gX7_placesThat_X7_of rfl hd_X7_of ⟨by decide, by decide⟩ (List.Perm.refl _) (List.Perm.refl _) (ci := 7) (q := (RX7, TX7, 19)) rfl rfl rfl rfl hl.1 rfl (Nat.le_of_ble_eq_true rfl) dX7_placesThat_62 ⟨Nat.zero_le _, Nat.zero_le _⟩ (fun H locs hP hD hS => ?_)
            refine lv_bipush (v := 14) hx hb dX7_placesThat_65 (by decide) ?_
            refine lv_icmp_ge (tgt := 74) hx hb dX7_placesThat_67 (by decide) (fun c10 => ?_) (fun c10 => ?_)
            · have hf := if_t hf c10
              refine lv_iconst (v := 0) hx hb dX7_placesThat_74 (by decide) ?_
              have hf := Option.some.inj hf
              subst hf
              exact J6 _ _ hP hD hS _ (lv_sub hl [0, 1, 2, 3] rfl)
            · have hf := if_f hf c10
              refine lv_iconst (v := 1) hx hb dX7_placesThat_70 (by decide) ?_
              refine lv_goto (tgt := 75) hx hb dX7_placesThat_71 (by decide) ?_
              have hf := Option.some.inj hf
              subst hf
              exact J6 _ _ hP hD hS _ (lv_sub hl [0, 1, 2, 3] rfl)
          · have hf := if_t hf c8
            refine lv_aload_n hx hb dX7_placesThat_42 rfl (lv_at hl 0 rfl) ?_
            refine lv_iload_n hx hb dX7_placesThat_43 rfl (lv_at hl 3 rfl) ?_
            refine lv_iconst (v := 2) hx hb dX7_placesThat_44 (by decide) ?_
            obtain ⟨q11, hq11, hf⟩ := ob_some hf
            refine xcVi (w' := ((w_M a0 cI cC mnow mhistory mkept mslot misFilled mgame mmeasures mmost mnumbers mround mtyped mtext mat mnumber mreads mbeyond mjudgedTo mreach mgoes) ++ R)) S hK hN hA hP hD hS (c_X7_of l D cI cC cS R a0 mnow mhistory mkept mslot misFilled mgame mmeasures mmost mnumbers mround mtyped mtext mat mnumber mreads mbeyond mjudgedTo mreach mgoes v_l3_L1 2 _ hq11) gX7_placesThat_X7_of rfl hd_X7_of ⟨by decide, by decide⟩ (List.Perm.refl _) (List.Perm.refl _) (ci := 7) (q := (RX7, TX7, 19)) rfl rfl rfl rfl hl.1 rfl (Nat.le_of_ble_eq_true rfl) dX7_placesThat_45 ⟨Nat.zero_le _, Nat.zero_le _⟩ (fun H locs hP hD hS => ?_)
            refine lv_if_ne (tgt := 55) hx hb dX7_placesThat_48 (by decide) (fun c12 => ?_) (fun c12 => ?_)
            · have hf := if_f hf c12
              refine lv_iconst (v := 0) hx hb dX7_placesThat_55 (by decide) ?_
              refine lv_goto (tgt := 75) hx hb dX7_placesThat_56 (by decide) ?_
              have hf := Option.some.inj hf
              subst hf
              exact J6 _ _ hP hD hS _ (lv_sub hl [0, 1, 2, 3] rfl)
            · have hf := if_t hf c12
              refine lv_iconst (v := 1) hx hb dX7_placesThat_51 (by decide) ?_
              refine lv_goto (tgt := 75) hx hb dX7_placesThat_52 (by decide) ?_
              have hf := Option.some.inj hf
              subst hf
              exact J6 _ _ hP hD hS _ (lv_sub hl [0, 1, 2, 3] rfl)
        · have hf := if_t hf c4
          refine lv_aload_n hx hb dX7_placesThat_20 rfl (lv_at hl 0 rfl) ?_
          refine lv_iload_n hx hb dX7_placesThat_21 rfl (lv_at hl 3 rfl) ?_
          refine lv_iconst (v := 0) hx hb dX7_placesThat_22 (by decide) ?_
          obtain ⟨q13, hq13, hf⟩ := ob_some hf
          refine xcVi (w' := ((w_M a0 cI cC mnow mhistory mkept mslot misFilled mgame mmeasures mmost mnumbers mround mtyped mtext mat mnumber mreads mbeyond mjudgedTo mreach mgoes) ++ R)) S hK hN hA hP hD hS (c_X7_of l D cI cC cS R a0 mnow mhistory mkept mslot misFilled mgame mmeasures mmost mnumbers mround mtyped mtext mat mnumber mreads mbeyond mjudgedTo mreach mgoes v_l3_L1 0 _ hq13) gX7_placesThat_X7_of rfl hd_X7_of ⟨by decide, by decide⟩ (List.Perm.refl _) (List.Perm.refl _) (ci := 7) (q := (RX7, TX7, 19)) rfl rfl rfl rfl hl.1 rfl (Nat.le_of_ble_eq_true rfl) dX7_placesThat_23 ⟨Nat.zero_le _, Nat.zero_le _⟩ (fun H locs hP hD hS => ?_)
          refine lv_if_ne (tgt := 33) hx hb dX7_placesThat_26 (by decide) (fun c14 => ?_) (fun c14 => ?_)
          · have hf := if_f hf c14
            refine lv_iconst (v := 0) hx hb dX7_placesThat_33 (by decide) ?_
            refine lv_goto (tgt := 75) hx hb dX7_placesThat_34 (by decide) ?_
            have hf := Option.some.inj hf
            subst hf
            exact J6 _ _ hP hD hS _ (lv_sub hl [0, 1, 2, 3] rfl)
          · have hf := if_t hf c14
            refine lv_iconst (v := 1) hx hb dX7_placesThat_29 (by decide) ?_
            refine lv_goto (tgt := 75) hx hb dX7_placesThat_30 (by decide) ?_
            have hf := Option.some.inj hf
            subst hf
            exact J6 _ _ hP hD hS _ (lv_sub hl [0, 1, 2, 3] rfl)
  refine L1 n 0 0 q2 hq2 _ _ hP hD hS _ (lv_sub hl [2, 3, 1, 0] rfl) ?_
  clear hP hD hS hl
  intro H locs hP hD hS ls hl
  refine lv_iload_n hx hb dX7_placesThat_98 rfl (lv_at hl 0 rfl) ?_
  have hf := Option.some.inj hf
  subst hf
  exact hret _ _ _ _ _ dX7_placesThat_99 rfl hP hD hS rfl
def f_X7_leastColour_L5 (d_mnow : (Nat → Int32)) : Nat → Int32 → Int32 → Option Int32
  | 0, _, _ => none
  | k + 1, d_l1, d_l2 => (if (d_mnow 56) ≤ d_l2 then some (d_l1) else (if d_l1 = (-5) then (f_X7_of d_mnow d_l2 1).bind fun q3 => f_X7_leastColour_L5 d_mnow k q3 (d_l2 + 1) else (f_X7_of d_mnow d_l2 1).bind fun q4 => (if d_l1 ≤ q4 then f_X7_leastColour_L5 d_mnow k d_l1 (d_l2 + 1) else (f_X7_of d_mnow d_l2 1).bind fun q6 => f_X7_leastColour_L5 d_mnow k q6 (d_l2 + 1))))
def f_X7_leastColour (n : Nat) (mnow : (Nat → Int32)) : Option Int32 := (f_X7_leastColour_L5 mnow n (-5) 0).bind fun q2 => some (q2)
theorem inw_X7_leastColour_7 : ∀ w ∈ wsX70, w ∈ wsX7_leastColour := fun _ h => List.mem_cons_of_mem _ (List.mem_append_right _ h)
theorem hd_X7_leastColour : yX7_leastColour.cls = RX7 ∧ yX7_leastColour.cls ≠ "java/lang/invoke/MethodHandle" ∧ yX7_leastColour.cls ≠ "java/lang/invoke/VarHandle" ∧ (parseMethodDescriptor yX7_leastColour.desc).map (fun d => d.parameters.length) = some 0 := by decide +kernel
set_option maxHeartbeats 4000000 in
set_option maxRecDepth 100000 in
theorem c_X7_leastColour (l : Launch) (D : va_G) (cI cC cS : ClassId) (R : va_W) (a0 : Nat → Nat) (mnow : (Nat → Int32)) (mhistory : (Nat → Int32)) (mkept : Int32) (mslot : (Nat → Int32)) (misFilled : Int32) (mgame : Int32) (mmeasures : (Nat → Int32)) (mmost : (Nat → Int32)) (mnumbers : (Nat → Int32)) (mround : Int32) (mtyped : Int32) (mtext : (Nat → Int32)) (mat : Int32) (mnumber : Int32) (mreads : (Nat → Int32)) (mbeyond : Int32) (mjudgedTo : (Nat → Int32)) (mreach : (Nat → Int32)) (mgoes : (Nat → Int32)) (n : Nat) (r : Int32) (hf : f_X7_leastColour n mnow = some r) : CI l yX7_leastColour wsX7_leastColour 1 22 D cI cC cS [.ref (a0 0)] ((w_M a0 cI cC mnow mhistory mkept mslot misFilled mgame mmeasures mmost mnumbers mround mtyped mtext mat mnumber mreads mbeyond mjudgedTo mreach mgoes) ++ R) r ((w_M a0 cI cC mnow mhistory mkept mslot misFilled mgame mmeasures mmost mnumbers mround mtyped mtext mat mnumber mreads mbeyond mjudgedTo mreach mgoes) ++ R) := by
  refine XI.of (cc := cX7_leastColour) (maxL := 3) (ty := .int) (own := RX7) (by decide) rfl rfl (Nat.le_of_ble_eq_true rfl) ?_
  intro p e s m args below meth c A Q S hK hN hA hP hD hS ls hl hret
  obtain ⟨hx, hb, hml, hown, hts⟩ := id S
  have hl : lv_has ls 3 [(0, .ref (a0 0))] := hl
  unfold f_X7_leastColour at hf
  refine lv_bipush (v := (-5)) hx hb dX7_leastColour_0 (by decide) ?_
  refine lv_istore_n (lv' := [(1, .int (-5)), (0, .ref (a0 0))]) hx hb dX7_leastColour_2 rfl hl (by decide) rfl (fun ls hl => ?_)
  refine lv_iconst (v := 0) hx hb dX7_leastColour_3 (by decide) ?_
  refine lv_istore_n (lv' := [(2, .int 0), (1, .int (-5)), (0, .ref (a0 0))]) hx hb dX7_leastColour_4 rfl hl (by decide) rfl (fun ls hl => ?_)
  obtain ⟨q2, hq2, hf⟩ := ob_some hf
  have L1 : ∀ (k : Nat) (v_l1_L1 : Int32) (v_l2_L1 : Int32) (q_L1 : Int32), f_X7_leastColour_L5 mnow k v_l1_L1 v_l2_L1 = some q_L1 → ∀ (H : Heap) (locs : List Loc), va_P D vwCl ((w_M a0 cI cC mnow mhistory mkept mslot misFilled mgame mmeasures mmost mnumbers mround mtyped mtext mat mnumber mreads mbeyond mjudgedTo mreach mgoes) ++ R) H → va_D A ((w_M a0 cI cC mnow mhistory mkept mslot misFilled mgame mmeasures mmost mnumbers mround mtyped mtext mat mnumber mreads mbeyond mjudgedTo mreach mgoes) ++ R) → va_S A s.heap H locs → ∀ ls : Array Slot, lv_has ls 3 [(0, .ref (a0 0)), (1, .int v_l1_L1), (2, .int v_l2_L1)] → (∀ (H : Heap) (locs : List Loc), va_P D vwCl ((w_M a0 cI cC mnow mhistory mkept mslot misFilled mgame mmeasures mmost mnumbers mround mtyped mtext mat mnumber mreads mbeyond mjudgedTo mreach mgoes) ++ R) H → va_D A ((w_M a0 cI cC mnow mhistory mkept mslot misFilled mgame mmeasures mmost mnumbers mround mtyped mtext mat mnumber mreads mbeyond mjudgedTo mreach mgoes) ++ R) → va_S A s.heap H locs → ∀ ls : Array Slot, lv_has ls 3 [(1, .int q_L1)] → W p l e (xR 1 22) s m args below meth c H locs 0 0 Q (F0 m 49 ls [])) → W p l e (xR 1 22) s m args below meth c H locs 0 0 Q (F0 m 5 ls []) := by
    intro k
    induction k with
    | zero => intro v_l1_L1 v_l2_L1 q_L1 hf; simp [f_X7_leastColour_L5] at hf
    | succ k ih =>
      intro v_l1_L1 v_l2_L1 q_L1 hf H locs hP hD hS ls hl kx
      rw [f_X7_leastColour_L5] at hf
      refine lv_iload_n hx hb dX7_leastColour_5 rfl (lv_at hl 2 rfl) ?_
      refine lv_aload_n hx hb dX7_leastColour_6 rfl (lv_at hl 0 rfl) ?_
      refine va_get (D := D) (ci := 7) (v := .ref (a0 1)) (C := RX7) (T := TX7) (N := 19) hx hb hts inw_X7_leastColour_7 hown hK hP 0 rfl rfl 0 (by decide) (hts (.fieldLink RX7 7 "RingGamesModel" "now" "[I") (List.mem_of_getElem? (i := 1) rfl)) (fun _ h9 => h9) rfl dX7_leastColour_7 ?_
      refine lv_bipush (v := 56) hx hb dX7_leastColour_10 (by decide) ?_
      refine va_iald hx hb hK hP 1 0 rfl rfl (x_in (by decide)) dX7_leastColour_12 ?_
      refine lv_icmp_ge (tgt := 49) hx hb dX7_leastColour_13 (by decide) (fun c3 => ?_) (fun c3 => ?_)
      · have hf := if_t hf c3
        have hf := Option.some.inj hf
        subst hf
        exact kx _ _ hP hD hS _ (lv_sub hl [1] rfl)
      · have hf := if_f hf c3
        refine lv_iload_n hx hb dX7_leastColour_16 rfl (lv_at hl 1 rfl) ?_
        refine lv_bipush (v := (-5)) hx hb dX7_leastColour_17 (by decide) ?_
        refine lv_icmp_eq (tgt := 32) hx hb dX7_leastColour_19 (by decide) (fun c4 => ?_) (fun c4 => ?_)
        · have hf := if_t hf c4
          refine lv_aload_n hx hb dX7_leastColour_32 rfl (lv_at hl 0 rfl) ?_
          refine lv_iload_n hx hb dX7_leastColour_33 rfl (lv_at hl 2 rfl) ?_
          refine lv_iconst (v := 1) hx hb dX7_leastColour_34 (by decide) ?_
          obtain ⟨q5, hq5, hf⟩ := ob_some hf
          refine xcVi (w' := ((w_M a0 cI cC mnow mhistory mkept mslot misFilled mgame mmeasures mmost mnumbers mround mtyped mtext mat mnumber mreads mbeyond mjudgedTo mreach mgoes) ++ R)) S hK hN hA hP hD hS (c_X7_of l D cI cC cS R a0 mnow mhistory mkept mslot misFilled mgame mmeasures mmost mnumbers mround mtyped mtext mat mnumber mreads mbeyond mjudgedTo mreach mgoes v_l2_L1 1 _ hq5) gX7_leastColour_X7_of rfl hd_X7_of ⟨by decide, by decide⟩ (List.Perm.refl _) (List.Perm.refl _) (ci := 7) (q := (RX7, TX7, 19)) rfl rfl rfl rfl hl.1 rfl (Nat.le_of_ble_eq_true rfl) dX7_leastColour_35 ⟨Nat.zero_le _, Nat.zero_le _⟩ (fun H locs hP hD hS => ?_)
          refine lv_goto (tgt := 42) hx hb dX7_leastColour_38 (by decide) ?_
          refine lv_istore_n (lv' := [(1, .int q5), (0, .ref (a0 0)), (2, .int v_l2_L1)]) hx hb dX7_leastColour_42 rfl hl (by decide) rfl (fun ls hl => ?_)
          refine lv_iinc (v := (v_l2_L1 + 1)) (lv' := [(2, .int (v_l2_L1 + 1)), (1, .int q5), (0, .ref (a0 0))]) hx hb dX7_leastColour_43 hl (k := 2) rfl (congrArg (fun z => v_l2_L1 + z) (by decide)) (by decide) rfl (fun ls hl => ?_)
          refine lv_goto (tgt := 5) hx hb dX7_leastColour_46 (by decide) ?_
          exact ih q5 (v_l2_L1 + 1) _ hf _ _ hP hD hS _ (lv_sub hl [2, 1, 0] rfl) kx
        · have hf := if_f hf c4
          refine lv_aload_n hx hb dX7_leastColour_22 rfl (lv_at hl 0 rfl) ?_
          refine lv_iload_n hx hb dX7_leastColour_23 rfl (lv_at hl 2 rfl) ?_
          refine lv_iconst (v := 1) hx hb dX7_leastColour_24 (by decide) ?_
          obtain ⟨q6, hq6, hf⟩ := ob_some hf
          refine xcVi (w' := ((w_M a0 cI cC mnow mhistory mkept mslot misFilled mgame mmeasures mmost mnumbers mround mtyped mtext mat mnumber mreads mbeyond mjudgedTo mreach mgoes) ++ R)) S hK hN hA hP hD hS (c_X7_of l D cI cC cS R a0 mnow mhistory mkept mslot misFilled mgame mmeasures mmost mnumbers mround mtyped mtext mat mnumber mreads mbeyond mjudgedTo mreach mgoes v_l2_L1 1 _ hq6) gX7_leastColour_X7_of rfl hd_X7_of ⟨by decide, by decide⟩ (List.Perm.refl _) (List.Perm.refl _) (ci := 7) (q := (RX7, TX7, 19)) rfl rfl rfl rfl hl.1 rfl (Nat.le_of_ble_eq_true rfl) dX7_leastColour_25 ⟨Nat.zero_le _, Nat.zero_le _⟩ (fun H locs hP hD hS => ?_)
          refine lv_iload_n hx hb dX7_leastColour_28 rfl (lv_at hl 1 rfl) ?_
          refine lv_icmp_ge (tgt := 41) hx hb dX7_leastColour_29 (by decide) (fun c7 => ?_) (fun c7 => ?_)
          · have hf := if_t hf c7
            refine lv_iload_n hx hb dX7_leastColour_41 rfl (lv_at hl 1 rfl) ?_
            refine lv_istore_n (lv' := [(1, .int v_l1_L1), (0, .ref (a0 0)), (2, .int v_l2_L1)]) hx hb dX7_leastColour_42 rfl hl (by decide) rfl (fun ls hl => ?_)
            refine lv_iinc (v := (v_l2_L1 + 1)) (lv' := [(2, .int (v_l2_L1 + 1)), (1, .int v_l1_L1), (0, .ref (a0 0))]) hx hb dX7_leastColour_43 hl (k := 2) rfl (congrArg (fun z => v_l2_L1 + z) (by decide)) (by decide) rfl (fun ls hl => ?_)
            refine lv_goto (tgt := 5) hx hb dX7_leastColour_46 (by decide) ?_
            exact ih v_l1_L1 (v_l2_L1 + 1) _ hf _ _ hP hD hS _ (lv_sub hl [2, 1, 0] rfl) kx
          · have hf := if_f hf c7
            refine lv_aload_n hx hb dX7_leastColour_32 rfl (lv_at hl 0 rfl) ?_
            refine lv_iload_n hx hb dX7_leastColour_33 rfl (lv_at hl 2 rfl) ?_
            refine lv_iconst (v := 1) hx hb dX7_leastColour_34 (by decide) ?_
            obtain ⟨q8, hq8, hf⟩ := ob_some hf
            refine xcVi (w' := ((w_M a0 cI cC mnow mhistory mkept mslot misFilled mgame mmeasures mmost mnumbers mround mtyped mtext mat mnumber mreads mbeyond mjudgedTo mreach mgoes) ++ R)) S hK hN hA hP hD hS (c_X7_of l D cI cC cS R a0 mnow mhistory mkept mslot misFilled mgame mmeasures mmost mnumbers mround mtyped mtext mat mnumber mreads mbeyond mjudgedTo mreach mgoes v_l2_L1 1 _ hq8) gX7_leastColour_X7_of rfl hd_X7_of ⟨by decide, by decide⟩ (List.Perm.refl _) (List.Perm.refl _) (ci := 7) (q := (RX7, TX7, 19)) rfl rfl rfl rfl hl.1 rfl (Nat.le_of_ble_eq_true rfl) dX7_leastColour_35 ⟨Nat.zero_le _, Nat.zero_le _⟩ (fun H locs hP hD hS => ?_)
            refine lv_goto (tgt := 42) hx hb dX7_leastColour_38 (by decide) ?_
            refine lv_istore_n (lv' := [(1, .int q8), (0, .ref (a0 0)), (2, .int v_l2_L1)]) hx hb dX7_leastColour_42 rfl hl (by decide) rfl (fun ls hl => ?_)
            refine lv_iinc (v := (v_l2_L1 + 1)) (lv' := [(2, .int (v_l2_L1 + 1)), (1, .int q8), (0, .ref (a0 0))]) hx hb dX7_leastColour_43 hl (k := 2) rfl (congrArg (fun z => v_l2_L1 + z) (by decide)) (by decide) rfl (fun ls hl => ?_)
            refine lv_goto (tgt := 5) hx hb dX7_leastColour_46 (by decide) ?_
            exact ih q8 (v_l2_L1 + 1) _ hf _ _ hP hD hS _ (lv_sub hl [2, 1, 0] rfl) kx
  refine L1 n (-5) 0 q2 hq2 _ _ hP hD hS _ (lv_sub hl [2, 1, 0] rfl) ?_
  clear hP hD hS hl
  intro H locs hP hD hS ls hl
  refine lv_iload_n hx hb dX7_leastColour_49 rfl (lv_at hl 0 rfl) ?_
  have hf := Option.some.inj hf
  subst hf
  exact hret _ _ _ _ _ dX7_leastColour_50 rfl hP hD hS rfl
def f_X7_count (n : Nat) (mnow : (Nat → Int32)) (mkept : Int32) (mtyped : Int32) (p1 : Int32) : Option Int32 := (if p1 = 0 then some ((mnow 56)) else (if p1 = 1 then (f_X7_arrows n mnow).bind fun q2 => some (q2) else (if p1 = 2 then (f_X7_placesThat n mnow 2).bind fun q3 => (f_X7_bits n q3).bind fun q4 => some (q4) else (if p1 = 3 then (f_X7_placesThat n mnow 3).bind fun q5 => some (q5) else (if p1 = 4 then (f_X7_leastColour n mnow).bind fun q6 => some (q6) else (if p1 = 5 then (f_X7_placesThat n mnow 5).bind fun q7 => (f_X7_bits n q7).bind fun q8 => some (q8) else (if p1 = 6 then some ((mnow 58)) else (if p1 = 7 then some (mkept) else (if p1 = 8 then some (mtyped) else some ((-2)))))))))))
theorem inw_X7_count_7 : ∀ w ∈ wsX70, w ∈ wsX7_count := fun _ h => List.mem_cons_of_mem _ (List.mem_append_right _ h)
theorem hd_X7_count : yX7_count.cls = RX7 ∧ yX7_count.cls ≠ "java/lang/invoke/MethodHandle" ∧ yX7_count.cls ≠ "java/lang/invoke/VarHandle" ∧ (parseMethodDescriptor yX7_count.desc).map (fun d => d.parameters.length) = some 1 := by decide +kernel
set_option maxHeartbeats 4000000 in
set_option maxRecDepth 100000 in
theorem c_X7_count (l : Launch) (D : va_G) (cI cC cS : ClassId) (R : va_W) (a0 : Nat → Nat) (mnow : (Nat → Int32)) (mhistory : (Nat → Int32)) (mkept : Int32) (mslot : (Nat → Int32)) (misFilled : Int32) (mgame : Int32) (mmeasures : (Nat → Int32)) (mmost : (Nat → Int32)) (mnumbers : (Nat → Int32)) (mround : Int32) (mtyped : Int32) (mtext : (Nat → Int32)) (mat : Int32) (mnumber : Int32) (mreads : (Nat → Int32)) (mbeyond : Int32) (mjudgedTo : (Nat → Int32)) (mreach : (Nat → Int32)) (mgoes : (Nat → Int32)) (p1 : Int32) (n : Nat) (r : Int32) (hf : f_X7_count n mnow mkept mtyped p1 = some r) : CI l yX7_count wsX7_count 2 46 D cI cC cS [.ref (a0 0), .int p1] ((w_M a0 cI cC mnow mhistory mkept mslot misFilled mgame mmeasures mmost mnumbers mround mtyped mtext mat mnumber mreads mbeyond mjudgedTo mreach mgoes) ++ R) r ((w_M a0 cI cC mnow mhistory mkept mslot misFilled mgame mmeasures mmost mnumbers mround mtyped mtext mat mnumber mreads mbeyond mjudgedTo mreach mgoes) ++ R) := by
  refine XI.of (cc := cX7_count) (maxL := 2) (ty := .int) (own := RX7) (by decide) rfl rfl (Nat.le_of_ble_eq_true rfl) ?_
  intro p e s m args below meth c A Q S hK hN hA hP hD hS ls hl hret
  obtain ⟨hx, hb, hml, hown, hts⟩ := id S
  have hl : lv_has ls 2 [(0, .ref (a0 0)), (1, .int p1)] := hl
  unfold f_X7_count at hf
  refine lv_iload_n hx hb dX7_count_0 rfl (lv_at hl 1 rfl) ?_
  by_cases c1_0 : p1 = 0
  · have hf := if_t hf c1_0
    refine lv_tableIn (tgt := 52) hx hb dX7_count_1 (by rw [c1_0]; decide) (by rw [c1_0]; decide) (by rw [c1_0]; rfl) (by decide) ?_
    refine lv_aload_n hx hb dX7_count_52 rfl (lv_at hl 0 rfl) ?_
    refine va_get (D := D) (ci := 7) (v := .ref (a0 1)) (C := RX7) (T := TX7) (N := 19) hx hb hts inw_X7_count_7 hown hK hP 0 rfl rfl 0 (by decide) (hts (.fieldLink RX7 7 "RingGamesModel" "now" "[I") (List.mem_of_getElem? (i := 1) rfl)) (fun _ h9 => h9) rfl dX7_count_53 ?_
    refine lv_bipush (v := 56) hx hb dX7_count_56 (by decide) ?_
    refine va_iald hx hb hK hP 1 0 rfl rfl (x_in (by decide)) dX7_count_58 ?_
    have hf := Option.some.inj hf
    subst hf
    exact hret _ _ _ _ _ dX7_count_59 rfl hP hD hS rfl
  have hf := if_f hf c1_0
  by_cases c1_1 : p1 = 1
  · have hf := if_t hf c1_1
    refine lv_tableIn (tgt := 60) hx hb dX7_count_1 (by rw [c1_1]; decide) (by rw [c1_1]; decide) (by rw [c1_1]; rfl) (by decide) ?_
    refine lv_aload_n hx hb dX7_count_60 rfl (lv_at hl 0 rfl) ?_
    obtain ⟨q2, hq2, hf⟩ := ob_some hf
    refine xcVi (w' := ((w_M a0 cI cC mnow mhistory mkept mslot misFilled mgame mmeasures mmost mnumbers mround mtyped mtext mat mnumber mreads mbeyond mjudgedTo mreach mgoes) ++ R)) S hK hN hA hP hD hS (c_X7_arrows l D cI cC cS R a0 mnow mhistory mkept mslot misFilled mgame mmeasures mmost mnumbers mround mtyped mtext mat mnumber mreads mbeyond mjudgedTo mreach mgoes n _ hq2) gX7_count_X7_arrows rfl hd_X7_arrows ⟨by decide, by decide⟩ (List.Perm.refl _) (List.Perm.refl _) (ci := 7) (q := (RX7, TX7, 19)) rfl rfl rfl rfl hl.1 rfl (Nat.le_of_ble_eq_true rfl) dX7_count_61 ⟨Nat.zero_le _, Nat.zero_le _⟩ (fun H locs hP hD hS => ?_)
    have hf := Option.some.inj hf
    subst hf
    exact hret _ _ _ _ _ dX7_count_64 rfl hP hD hS rfl
  have hf := if_f hf c1_1
  by_cases c1_2 : p1 = 2
  · have hf := if_t hf c1_2
    refine lv_tableIn (tgt := 65) hx hb dX7_count_1 (by rw [c1_2]; decide) (by rw [c1_2]; decide) (by rw [c1_2]; rfl) (by decide) ?_
    refine lv_aload_n hx hb dX7_count_65 rfl (lv_at hl 0 rfl) ?_
    refine lv_iconst (v := 2) hx hb dX7_count_66 (by decide) ?_
    obtain ⟨q3, hq3, hf⟩ := ob_some hf
    refine xcVi (w' := ((w_M a0 cI cC mnow mhistory mkept mslot misFilled mgame mmeasures mmost mnumbers mround mtyped mtext mat mnumber mreads mbeyond mjudgedTo mreach mgoes) ++ R)) S hK hN hA hP hD hS (c_X7_placesThat l D cI cC cS R a0 mnow mhistory mkept mslot misFilled mgame mmeasures mmost mnumbers mround mtyped mtext mat mnumber mreads mbeyond mjudgedTo mreach mgoes 2 n _ hq3) gX7_count_X7_placesThat rfl hd_X7_placesThat ⟨by decide, by decide⟩ (List.Perm.refl _) (List.Perm.refl _) (ci := 7) (q := (RX7, TX7, 19)) rfl rfl rfl rfl hl.1 rfl (Nat.le_of_ble_eq_true rfl) dX7_count_67 ⟨Nat.zero_le _, Nat.zero_le _⟩ (fun H locs hP hD hS => ?_)
    obtain ⟨q4, hq4, hf⟩ := ob_some hf
    refine xcSi S hK hN hA hP hD hS (c_X7_bits l D cI cC cS ((w_M a0 cI cC mnow mhistory mkept mslot misFilled mgame mmeasures mmost mnumbers mround mtyped mtext mat mnumber mreads mbeyond mjudgedTo mreach mgoes) ++ R) q3 n _ hq4) gX7_count_X7_bits rfl hd_X7_bits ⟨by decide, by decide⟩ rfl hl.1 rfl (Nat.le_of_ble_eq_true rfl) dX7_count_70 ⟨Nat.zero_le _, Nat.zero_le _⟩ (fun H locs hP hD hS => ?_)
    have hf := Option.some.inj hf
    subst hf
    exact hret _ _ _ _ _ dX7_count_73 rfl hP hD hS rfl
  have hf := if_f hf c1_2
  by_cases c1_3 : p1 = 3
  · have hf := if_t hf c1_3
    refine lv_tableIn (tgt := 74) hx hb dX7_count_1 (by rw [c1_3]; decide) (by rw [c1_3]; decide) (by rw [c1_3]; rfl) (by decide) ?_
    refine lv_aload_n hx hb dX7_count_74 rfl (lv_at hl 0 rfl) ?_
    refine lv_iconst (v := 3) hx hb dX7_count_75 (by decide) ?_
    obtain ⟨q5, hq5, hf⟩ := ob_some hf
    refine xcVi (w' := ((w_M a0 cI cC mnow mhistory mkept mslot misFilled mgame mmeasures mmost mnumbers mround mtyped mtext mat mnumber mreads mbeyond mjudgedTo mreach mgoes) ++ R)) S hK hN hA hP hD hS (c_X7_placesThat l D cI cC cS R a0 mnow mhistory mkept mslot misFilled mgame mmeasures mmost mnumbers mround mtyped mtext mat mnumber mreads mbeyond mjudgedTo mreach mgoes 3 n _ hq5) gX7_count_X7_placesThat rfl hd_X7_placesThat ⟨by decide, by decide⟩ (List.Perm.refl _) (List.Perm.refl _) (ci := 7) (q := (RX7, TX7, 19)) rfl rfl rfl rfl hl.1 rfl (Nat.le_of_ble_eq_true rfl) dX7_count_76 ⟨Nat.zero_le _, Nat.zero_le _⟩ (fun H locs hP hD hS => ?_)
    have hf := Option.some.inj hf
    subst hf
    exact hret _ _ _ _ _ dX7_count_79 rfl hP hD hS rfl
  have hf := if_f hf c1_3
  by_cases c1_4 : p1 = 4
  · have hf := if_t hf c1_4
    refine lv_tableIn (tgt := 80) hx hb dX7_count_1 (by rw [c1_4]; decide) (by rw [c1_4]; decide) (by rw [c1_4]; rfl) (by decide) ?_
    refine lv_aload_n hx hb dX7_count_80 rfl (lv_at hl 0 rfl) ?_
    obtain ⟨q6, hq6, hf⟩ := ob_some hf
    refine xcVi (w' := ((w_M a0 cI cC mnow mhistory mkept mslot misFilled mgame mmeasures mmost mnumbers mround mtyped mtext mat mnumber mreads mbeyond mjudgedTo mreach mgoes) ++ R)) S hK hN hA hP hD hS (c_X7_leastColour l D cI cC cS R a0 mnow mhistory mkept mslot misFilled mgame mmeasures mmost mnumbers mround mtyped mtext mat mnumber mreads mbeyond mjudgedTo mreach mgoes n _ hq6) gX7_count_X7_leastColour rfl hd_X7_leastColour ⟨by decide, by decide⟩ (List.Perm.refl _) (List.Perm.refl _) (ci := 7) (q := (RX7, TX7, 19)) rfl rfl rfl rfl hl.1 rfl (Nat.le_of_ble_eq_true rfl) dX7_count_81 ⟨Nat.zero_le _, Nat.zero_le _⟩ (fun H locs hP hD hS => ?_)
    have hf := Option.some.inj hf
    subst hf
    exact hret _ _ _ _ _ dX7_count_84 rfl hP hD hS rfl
  have hf := if_f hf c1_4
  by_cases c1_5 : p1 = 5
  · have hf := if_t hf c1_5
    refine lv_tableIn (tgt := 85) hx hb dX7_count_1 (by rw [c1_5]; decide) (by rw [c1_5]; decide) (by rw [c1_5]; rfl) (by decide) ?_
    refine lv_aload_n hx hb dX7_count_85 rfl (lv_at hl 0 rfl) ?_
    refine lv_iconst (v := 5) hx hb dX7_count_86 (by decide) ?_
    obtain ⟨q7, hq7, hf⟩ := ob_some hf
    refine xcVi (w' := ((w_M a0 cI cC mnow mhistory mkept mslot misFilled mgame mmeasures mmost mnumbers mround mtyped mtext mat mnumber mreads mbeyond mjudgedTo mreach mgoes) ++ R)) S hK hN hA hP hD hS (c_X7_placesThat l D cI cC cS R a0 mnow mhistory mkept mslot misFilled mgame mmeasures mmost mnumbers mround mtyped mtext mat mnumber mreads mbeyond mjudgedTo mreach mgoes 5 n _ hq7) gX7_count_X7_placesThat rfl hd_X7_placesThat ⟨by decide, by decide⟩ (List.Perm.refl _) (List.Perm.refl _) (ci := 7) (q := (RX7, TX7, 19)) rfl rfl rfl rfl hl.1 rfl (Nat.le_of_ble_eq_true rfl) dX7_count_87 ⟨Nat.zero_le _, Nat.zero_le _⟩ (fun H locs hP hD hS => ?_)
    obtain ⟨q8, hq8, hf⟩ := ob_some hf
    refine xcSi S hK hN hA hP hD hS (c_X7_bits l D cI cC cS ((w_M a0 cI cC mnow mhistory mkept mslot misFilled mgame mmeasures mmost mnumbers mround mtyped mtext mat mnumber mreads mbeyond mjudgedTo mreach mgoes) ++ R) q7 n _ hq8) gX7_count_X7_bits rfl hd_X7_bits ⟨by decide, by decide⟩ rfl hl.1 rfl (Nat.le_of_ble_eq_true rfl) dX7_count_90 ⟨Nat.zero_le _, Nat.zero_le _⟩ (fun H locs hP hD hS => ?_)
    have hf := Option.some.inj hf
    subst hf
    exact hret _ _ _ _ _ dX7_count_93 rfl hP hD hS rfl
  have hf := if_f hf c1_5
  by_cases c1_6 : p1 = 6
  · have hf := if_t hf c1_6
    refine lv_tableIn (tgt := 94) hx hb dX7_count_1 (by rw [c1_6]; decide) (by rw [c1_6]; decide) (by rw [c1_6]; rfl) (by decide) ?_
    refine lv_aload_n hx hb dX7_count_94 rfl (lv_at hl 0 rfl) ?_
    refine va_get (D := D) (ci := 7) (v := .ref (a0 1)) (C := RX7) (T := TX7) (N := 19) hx hb hts inw_X7_count_7 hown hK hP 0 rfl rfl 0 (by decide) (hts (.fieldLink RX7 7 "RingGamesModel" "now" "[I") (List.mem_of_getElem? (i := 1) rfl)) (fun _ h9 => h9) rfl dX7_count_95 ?_
    refine lv_bipush (v := 58) hx hb dX7_count_98 (by decide) ?_
    refine va_iald hx hb hK hP 1 0 rfl rfl (x_in (by decide)) dX7_count_100 ?_
    have hf := Option.some.inj hf
    subst hf
    exact hret _ _ _ _ _ dX7_count_101 rfl hP hD hS rfl
  have hf := if_f hf c1_6
  by_cases c1_7 : p1 = 7
  · have hf := if_t hf c1_7
    refine lv_tableIn (tgt := 102) hx hb dX7_count_1 (by rw [c1_7]; decide) (by rw [c1_7]; decide) (by rw [c1_7]; rfl) (by decide) ?_
    refine lv_aload_n hx hb dX7_count_102 rfl (lv_at hl 0 rfl) ?_
    refine va_get (D := D) (ci := 7) (v := .int mkept) (C := RX7) (T := TX7) (N := 19) hx hb hts inw_X7_count_7 hown hK hP 0 rfl rfl 2 (by decide) (hts (.fieldLink RX7 56 "RingGamesModel" "kept" "I") (List.mem_of_getElem? (i := 2) rfl)) (fun _ h9 => h9) rfl dX7_count_103 ?_
    have hf := Option.some.inj hf
    subst hf
    exact hret _ _ _ _ _ dX7_count_106 rfl hP hD hS rfl
  have hf := if_f hf c1_7
  by_cases c1_8 : p1 = 8
  · have hf := if_t hf c1_8
    refine lv_tableIn (tgt := 107) hx hb dX7_count_1 (by rw [c1_8]; decide) (by rw [c1_8]; decide) (by rw [c1_8]; rfl) (by decide) ?_
    refine lv_aload_n hx hb dX7_count_107 rfl (lv_at hl 0 rfl) ?_
    refine va_get (D := D) (ci := 7) (v := .int mtyped) (C := RX7) (T := TX7) (N := 19) hx hb hts inw_X7_count_7 hown hK hP 0 rfl rfl 10 (by decide) (hts (.fieldLink RX7 126 "RingGamesModel" "typed" "I") (List.mem_of_getElem? (i := 3) rfl)) (fun _ h9 => h9) rfl dX7_count_108 ?_
    have hf := Option.some.inj hf
    subst hf
    exact hret _ _ _ _ _ dX7_count_111 rfl hP hD hS rfl
  have hf := if_f hf c1_8
  have ec1_0 : (p1).toInt ≠ 0 := x_ne (k := 0) c1_0
  have ec1_1 : (p1).toInt ≠ 1 := x_ne (k := 1) c1_1
  have ec1_2 : (p1).toInt ≠ 2 := x_ne (k := 2) c1_2
  have ec1_3 : (p1).toInt ≠ 3 := x_ne (k := 3) c1_3
  have ec1_4 : (p1).toInt ≠ 4 := x_ne (k := 4) c1_4
  have ec1_5 : (p1).toInt ≠ 5 := x_ne (k := 5) c1_5
  have ec1_6 : (p1).toInt ≠ 6 := x_ne (k := 6) c1_6
  have ec1_7 : (p1).toInt ≠ 7 := x_ne (k := 7) c1_7
  have ec1_8 : (p1).toInt ≠ 8 := x_ne (k := 8) c1_8
  refine lv_tableOut (tgt := 112) hx hb dX7_count_1 (by omega) (by decide) ?_
  refine lv_bipush (v := (-2)) hx hb dX7_count_112 (by decide) ?_
  have hf := Option.some.inj hf
  subst hf
  exact hret _ _ _ _ _ dX7_count_114 rfl hP hD hS rfl
