def f_X0_append (o0 : TT) (p1 : Int32) : Option (Int32 × TT) := (if o0.2 < 60 then vg o0.2 60 (some (1, ((upd o0.1 (o0.2).toNatClampNeg (vp_nar .char p1)), (o0.2 + 1)))) else some (0, o0))
theorem inw_X0_append_0 : ∀ w ∈ wsX00, w ∈ wsX0_append := fun _ h => List.mem_cons_of_mem _ (List.mem_append_right _ h)
theorem hd_X0_append : yX0_append.cls = RX0 ∧ yX0_append.cls ≠ "java/lang/invoke/MethodHandle" ∧ yX0_append.cls ≠ "java/lang/invoke/VarHandle" ∧ (parseMethodDescriptor yX0_append.desc).map (fun d => d.parameters.length) = some 1 := by decide +kernel
set_option maxHeartbeats 4000000 in
set_option maxRecDepth 100000 in
theorem c_X0_append (l : Launch) (D : va_G) (cI cC cS : ClassId) (R : va_W) (a0 : Nat → Nat) (o0 : TT) (p1 : Int32) (r : Int32 × TT) (hf : f_X0_append o0 p1 = some r) : CI l yX0_append wsX0_append 0 0 D cI cC cS [.ref (a0 0), .int p1] ((w_T a0 cC o0) ++ R) r.1 ((w_T a0 cC r.2) ++ R) := by
  refine XI.of (cc := cX0_append) (maxL := 2) (ty := .boolean) (own := RX0) (by decide) rfl rfl (Nat.le_of_ble_eq_true rfl) ?_
  intro p e s m args below meth c A Q S hK hN hA hP hD hS ls hl hret
  obtain ⟨hx, hb, hml, hown, hts⟩ := id S
  have hl : lv_has ls 2 [(0, .ref (a0 0)), (1, .int p1)] := hl
  unfold f_X0_append at hf
  refine lv_aload_n hx hb dX0_append_0 rfl (lv_at hl 0 rfl) ?_
  refine va_get (D := D) (ci := 0) (v := .int o0.2) (C := RX0) (T := TX0) (N := 2) hx hb hts inw_X0_append_0 hown hK hP 0 rfl rfl 1 (by decide) (hts (.fieldLink RX0 15 "RingGames$ArrowText" "length" "I") (List.mem_of_getElem? (i := 1) rfl)) (fun _ h9 => h9) rfl dX0_append_1 ?_
  refine lv_bipush (v := 60) hx hb dX0_append_4 (by decide) ?_
  refine lv_icmp_lt (tgt := 11) hx hb dX0_append_6 (by decide) (fun c1 => ?_) (fun c1 => ?_)
  · have hf := if_t hf c1
    refine lv_aload_n hx hb dX0_append_11 rfl (lv_at hl 0 rfl) ?_
    refine va_get (D := D) (ci := 0) (v := .ref (a0 1)) (C := RX0) (T := TX0) (N := 2) hx hb hts inw_X0_append_0 hown hK hP 0 rfl rfl 0 (by decide) (hts (.fieldLink RX0 9 "RingGames$ArrowText" "signs" "[C") (List.mem_of_getElem? (i := 2) rfl)) (fun _ h9 => h9) rfl dX0_append_12 ?_
    refine lv_aload_n hx hb dX0_append_15 rfl (lv_at hl 0 rfl) ?_
    refine va_get (D := D) (ci := 0) (v := .int o0.2) (C := RX0) (T := TX0) (N := 2) hx hb hts inw_X0_append_0 hown hK hP 0 rfl rfl 1 (by decide) (hts (.fieldLink RX0 15 "RingGames$ArrowText" "length" "I") (List.mem_of_getElem? (i := 1) rfl)) (fun _ h9 => h9) rfl dX0_append_16 ?_
    refine lv_iload_n hx hb dX0_append_19 rfl (lv_at hl 1 rfl) ?_
    obtain ⟨g2, hf⟩ := vg_some hf
    refine va_cast hx hb hK hP hD hS 1 1 rfl rfl g2 dX0_append_20 (fun H locs hP hD hS => ?_)
    have hP : va_P D vwCl ((w_T a0 cC ((upd o0.1 (o0.2).toNatClampNeg (vp_nar .char p1)), o0.2)) ++ R) H := hP
    have hD : va_D A ((w_T a0 cC ((upd o0.1 (o0.2).toNatClampNeg (vp_nar .char p1)), o0.2)) ++ R) := hD
    refine lv_aload_n hx hb dX0_append_21 rfl (lv_at hl 0 rfl) ?_
    refine lv_dup hx hb dX0_append_22 rfl ?_
    refine va_get (D := D) (ci := 0) (v := .int o0.2) (C := RX0) (T := TX0) (N := 2) hx hb hts inw_X0_append_0 hown hK hP 0 rfl rfl 1 (by decide) (hts (.fieldLink RX0 15 "RingGames$ArrowText" "length" "I") (List.mem_of_getElem? (i := 1) rfl)) (fun _ h9 => h9) rfl dX0_append_23 ?_
    refine lv_iconst (v := 1) hx hb dX0_append_26 (by decide) ?_
    refine lv_iadd hx hb dX0_append_27 ?_
    refine va_put (D := D) (ci := 0) (v := .int (o0.2 + 1)) (ty := .int) (C := RX0) (T := TX0) (N := 2) hx hb hts inw_X0_append_0 tyX0 tyX0_ok nmX0 hown hK hP hD hS 0 rfl rfl 1 (by decide) (hts (.fieldLink RX0 15 "RingGames$ArrowText" "length" "I") (List.mem_of_getElem? (i := 1) rfl)) (fun _ h9 => h9) rfl (tyX0_ok 1 (by decide)) rfl rfl (Nat.le_of_ble_eq_true rfl) dX0_append_28 (fun H locs hP hD hS => ?_)
    have hP : va_P D vwCl ((w_T a0 cC ((upd o0.1 (o0.2).toNatClampNeg (vp_nar .char p1)), (o0.2 + 1))) ++ R) H := hP
    have hD : va_D A ((w_T a0 cC ((upd o0.1 (o0.2).toNatClampNeg (vp_nar .char p1)), (o0.2 + 1))) ++ R) := hD
    refine lv_iconst (v := 1) hx hb dX0_append_31 (by decide) ?_
    have hf := Option.some.inj hf
    subst hf
    exact hret _ _ _ _ _ dX0_append_32 rfl hP hD hS rfl
  · have hf := if_f hf c1
    refine lv_iconst (v := 0) hx hb dX0_append_9 (by decide) ?_
    have hf := Option.some.inj hf
    subst hf
    exact hret _ _ _ _ _ dX0_append_10 rfl hP hD hS rfl
def f_X0_isDigit (p0 : Int32) : Option Int32 := (if p0 < 48 then some (0) else (if 57 < p0 then some (0) else some (1)))
theorem hd_X0_isDigit : yX0_isDigit.cls ≠ "java/lang/invoke/MethodHandle" ∧ yX0_isDigit.cls ≠ "java/lang/invoke/VarHandle" ∧ (parseMethodDescriptor yX0_isDigit.desc).map (fun d => d.parameters.length) = some 1 := by decide +kernel
set_option maxHeartbeats 4000000 in
set_option maxRecDepth 100000 in
theorem c_X0_isDigit (l : Launch) (D : va_G) (cI cC cS : ClassId) (R : va_W) (p0 : Int32) (r : Int32) (hf : f_X0_isDigit p0 = some r) : CI l yX0_isDigit wsX0_isDigit 0 0 D cI cC cS [.int p0] R r R := by
  refine XI.of (cc := cX0_isDigit) (maxL := 1) (ty := .boolean) (own := RX0) (by decide) rfl rfl (Nat.le_of_ble_eq_true rfl) ?_
  intro p e s m args below meth c A Q S hK hN hA hP hD hS ls hl hret
  obtain ⟨hx, hb, hml, hown, hts⟩ := id S
  have hl : lv_has ls 1 [(0, .int p0)] := hl
  unfold f_X0_isDigit at hf
  refine lv_iload_n hx hb dX0_isDigit_0 rfl (lv_at hl 0 rfl) ?_
  refine lv_bipush (v := 48) hx hb dX0_isDigit_1 (by decide) ?_
  refine lv_icmp_lt (tgt := 16) hx hb dX0_isDigit_3 (by decide) (fun c1 => ?_) (fun c1 => ?_)
  · have hf := if_t hf c1
    refine lv_iconst (v := 0) hx hb dX0_isDigit_16 (by decide) ?_
    have hf := Option.some.inj hf
    subst hf
    exact hret _ _ _ _ _ dX0_isDigit_17 rfl hP hD hS rfl
  · have hf := if_f hf c1
    refine lv_iload_n hx hb dX0_isDigit_6 rfl (lv_at hl 0 rfl) ?_
    refine lv_bipush (v := 57) hx hb dX0_isDigit_7 (by decide) ?_
    refine lv_icmp_gt (tgt := 16) hx hb dX0_isDigit_9 (by decide) (fun c2 => ?_) (fun c2 => ?_)
    · have hf := if_t hf c2
      refine lv_iconst (v := 0) hx hb dX0_isDigit_16 (by decide) ?_
      have hf := Option.some.inj hf
      subst hf
      exact hret _ _ _ _ _ dX0_isDigit_17 rfl hP hD hS rfl
    · have hf := if_f hf c2
      refine lv_iconst (v := 1) hx hb dX0_isDigit_12 (by decide) ?_
      refine lv_goto (tgt := 17) hx hb dX0_isDigit_13 (by decide) ?_
      have hf := Option.some.inj hf
      subst hf
      exact hret _ _ _ _ _ dX0_isDigit_17 rfl hP hD hS rfl
def f_X0_isSignBehind (p0 : Int32) (p1 : Int32) : Option Int32 := (if p1 = 0 then (if p0 = 62 then some (1) else some (0)) else (if p0 = 44 then some (1) else (if p0 = 59 then some (1) else some (0))))
theorem hd_X0_isSignBehind : yX0_isSignBehind.cls ≠ "java/lang/invoke/MethodHandle" ∧ yX0_isSignBehind.cls ≠ "java/lang/invoke/VarHandle" ∧ (parseMethodDescriptor yX0_isSignBehind.desc).map (fun d => d.parameters.length) = some 2 := by decide +kernel
set_option maxHeartbeats 4000000 in
set_option maxRecDepth 100000 in
theorem c_X0_isSignBehind (l : Launch) (D : va_G) (cI cC cS : ClassId) (R : va_W) (p0 : Int32) (p1 : Int32) (r : Int32) (hf : f_X0_isSignBehind p0 p1 = some r) : CI l yX0_isSignBehind wsX0_isSignBehind 0 0 D cI cC cS [.int p0, .int p1] R r R := by
  refine XI.of (cc := cX0_isSignBehind) (maxL := 2) (ty := .boolean) (own := RX0) (by decide) rfl rfl (Nat.le_of_ble_eq_true rfl) ?_
  intro p e s m args below meth c A Q S hK hN hA hP hD hS ls hl hret
  obtain ⟨hx, hb, hml, hown, hts⟩ := id S
  have hl : lv_has ls 2 [(0, .int p0), (1, .int p1)] := hl
  unfold f_X0_isSignBehind at hf
  refine lv_iload_n hx hb dX0_isSignBehind_0 rfl (lv_at hl 1 rfl) ?_
  refine lv_if_eq (tgt := 24) hx hb dX0_isSignBehind_1 (by decide) (fun c1 => ?_) (fun c1 => ?_)
  · have hf := if_t hf c1
    refine lv_iload_n hx hb dX0_isSignBehind_24 rfl (lv_at hl 0 rfl) ?_
    refine lv_bipush (v := 62) hx hb dX0_isSignBehind_25 (by decide) ?_
    refine lv_icmp_ne (tgt := 34) hx hb dX0_isSignBehind_27 (by decide) (fun c2 => ?_) (fun c2 => ?_)
    · have hf := if_f hf c2
      refine lv_iconst (v := 0) hx hb dX0_isSignBehind_34 (by decide) ?_
      have hf := Option.some.inj hf
      subst hf
      exact hret _ _ _ _ _ dX0_isSignBehind_35 rfl hP hD hS rfl
    · have hf := if_t hf c2
      refine lv_iconst (v := 1) hx hb dX0_isSignBehind_30 (by decide) ?_
      refine lv_goto (tgt := 35) hx hb dX0_isSignBehind_31 (by decide) ?_
      have hf := Option.some.inj hf
      subst hf
      exact hret _ _ _ _ _ dX0_isSignBehind_35 rfl hP hD hS rfl
  · have hf := if_f hf c1
    refine lv_iload_n hx hb dX0_isSignBehind_4 rfl (lv_at hl 0 rfl) ?_
    refine lv_bipush (v := 44) hx hb dX0_isSignBehind_5 (by decide) ?_
    refine lv_icmp_eq (tgt := 16) hx hb dX0_isSignBehind_7 (by decide) (fun c3 => ?_) (fun c3 => ?_)
    · have hf := if_t hf c3
      refine lv_iconst (v := 1) hx hb dX0_isSignBehind_16 (by decide) ?_
      refine lv_goto (tgt := 35) hx hb dX0_isSignBehind_17 (by decide) ?_
      have hf := Option.some.inj hf
      subst hf
      exact hret _ _ _ _ _ dX0_isSignBehind_35 rfl hP hD hS rfl
    · have hf := if_f hf c3
      refine lv_iload_n hx hb dX0_isSignBehind_10 rfl (lv_at hl 0 rfl) ?_
      refine lv_bipush (v := 59) hx hb dX0_isSignBehind_11 (by decide) ?_
      refine lv_icmp_ne (tgt := 20) hx hb dX0_isSignBehind_13 (by decide) (fun c4 => ?_) (fun c4 => ?_)
      · have hf := if_f hf c4
        refine lv_iconst (v := 0) hx hb dX0_isSignBehind_20 (by decide) ?_
        refine lv_goto (tgt := 35) hx hb dX0_isSignBehind_21 (by decide) ?_
        have hf := Option.some.inj hf
        subst hf
        exact hret _ _ _ _ _ dX0_isSignBehind_35 rfl hP hD hS rfl
      · have hf := if_t hf c4
        refine lv_iconst (v := 1) hx hb dX0_isSignBehind_16 (by decide) ?_
        refine lv_goto (tgt := 35) hx hb dX0_isSignBehind_17 (by decide) ?_
        have hf := Option.some.inj hf
        subst hf
        exact hret _ _ _ _ _ dX0_isSignBehind_35 rfl hP hD hS rfl
def f_X0_fault_L6 (d_o0 : TT) : Nat → Int32 → Int32 → Int32 → Option Int32
  | 0, _, _, _ => none
  | k + 1, d_l1, d_l2, d_l3 => (if d_o0.2 ≤ d_l3 then (if d_l2 = 0 then some (d_o0.2) else (if d_l1 = 0 then some (d_o0.2) else some ((-1)))) else vg d_l3 60 ((f_X0_isDigit (d_o0.1 (d_l3).toNatClampNeg)).bind fun q5 => (if q5 = 0 then (if d_l1 = 0 then some (d_l3) else (f_X0_isSignBehind (d_o0.1 (d_l3).toNatClampNeg) d_l2).bind fun q8 => (if q8 = 0 then some (d_l3) else (if (d_o0.1 (d_l3).toNatClampNeg) = 59 then f_X0_fault_L6 d_o0 k 0 0 (d_l3 + 1) else f_X0_fault_L6 d_o0 k 0 1 (d_l3 + 1)))) else (if d_l1 = 2 then (if d_l1 = 0 then some (d_l3) else (f_X0_isSignBehind (d_o0.1 (d_l3).toNatClampNeg) d_l2).bind fun q13 => (if q13 = 0 then some (d_l3) else (if (d_o0.1 (d_l3).toNatClampNeg) = 59 then f_X0_fault_L6 d_o0 k 0 0 (d_l3 + 1) else f_X0_fault_L6 d_o0 k 0 1 (d_l3 + 1)))) else ((if d_l1 = 0 then (if (d_o0.1 (d_l3).toNatClampNeg) = 48 then some (0) else some (1)) else some (0)) : Option Int32).bind fun j17 => (if j17 = 0 then f_X0_fault_L6 d_o0 k 2 d_l2 (d_l3 + 1) else f_X0_fault_L6 d_o0 k 1 d_l2 (d_l3 + 1))))))
def f_X0_fault (n : Nat) (o0 : TT) : Option Int32 := f_X0_fault_L6 o0 n 0 0 0
theorem inw_X0_fault_0 : ∀ w ∈ wsX00, w ∈ wsX0_fault := fun _ h => List.mem_cons_of_mem _ (List.mem_append_right _ h)
theorem hd_X0_fault : yX0_fault.cls = RX0 ∧ yX0_fault.cls ≠ "java/lang/invoke/MethodHandle" ∧ yX0_fault.cls ≠ "java/lang/invoke/VarHandle" ∧ (parseMethodDescriptor yX0_fault.desc).map (fun d => d.parameters.length) = some 0 := by decide +kernel
set_option maxHeartbeats 4000000 in
set_option maxRecDepth 100000 in
theorem c_X0_fault (l : Launch) (D : va_G) (cI cC cS : ClassId) (R : va_W) (a0 : Nat → Nat) (o0 : TT) (n : Nat) (r : Int32) (hf : f_X0_fault n o0 = some r) : CI l yX0_fault wsX0_fault 1 21 D cI cC cS [.ref (a0 0)] ((w_T a0 cC o0) ++ R) r ((w_T a0 cC o0) ++ R) := by
  refine XI.of (cc := cX0_fault) (maxL := 6) (ty := .int) (own := RX0) (by decide) rfl rfl (Nat.le_of_ble_eq_true rfl) ?_
  intro p e s m args below meth c A Q S hK hN hA hP hD hS ls hl hret
  obtain ⟨hx, hb, hml, hown, hts⟩ := id S
  have hl : lv_has ls 6 [(0, .ref (a0 0))] := hl
  unfold f_X0_fault at hf
  refine lv_iconst (v := 0) hx hb dX0_fault_0 (by decide) ?_
  refine lv_istore_n (lv' := [(1, .int 0), (0, .ref (a0 0))]) hx hb dX0_fault_1 rfl hl (by decide) rfl (fun ls hl => ?_)
  refine lv_iconst (v := 0) hx hb dX0_fault_2 (by decide) ?_
  refine lv_istore_n (lv' := [(2, .int 0), (1, .int 0), (0, .ref (a0 0))]) hx hb dX0_fault_3 rfl hl (by decide) rfl (fun ls hl => ?_)
  refine lv_iconst (v := 0) hx hb dX0_fault_4 (by decide) ?_
  refine lv_istore_n (lv' := [(3, .int 0), (2, .int 0), (1, .int 0), (0, .ref (a0 0))]) hx hb dX0_fault_5 rfl hl (by decide) rfl (fun ls hl => ?_)
  have L1 : ∀ (k : Nat) (v_l1_L1 : Int32) (v_l2_L1 : Int32) (v_l3_L1 : Int32), f_X0_fault_L6 o0 k v_l1_L1 v_l2_L1 v_l3_L1 = some r → ∀ (H : Heap) (locs : List Loc), va_P D vwCl ((w_T a0 cC o0) ++ R) H → va_D A ((w_T a0 cC o0) ++ R) → va_S A s.heap H locs → ∀ ls : Array Slot, lv_has ls 6 [(0, .ref (a0 0)), (1, .int v_l1_L1), (2, .int v_l2_L1), (3, .int v_l3_L1)] → W p l e (xR 1 21) s m args below meth c H locs 0 0 Q (F0 m 6 ls []) := by
    intro k
    induction k with
    | zero => intro v_l1_L1 v_l2_L1 v_l3_L1 hf; simp [f_X0_fault_L6] at hf
    | succ k ih =>
      intro v_l1_L1 v_l2_L1 v_l3_L1 hf H locs hP hD hS ls hl
      rw [f_X0_fault_L6] at hf
      refine lv_iload_n hx hb dX0_fault_6 rfl (lv_at hl 3 rfl) ?_
      refine lv_aload_n hx hb dX0_fault_7 rfl (lv_at hl 0 rfl) ?_
      refine va_get (D := D) (ci := 0) (v := .int o0.2) (C := RX0) (T := TX0) (N := 2) hx hb hts inw_X0_fault_0 hown hK hP 0 rfl rfl 1 (by decide) (hts (.fieldLink RX0 15 "RingGames$ArrowText" "length" "I") (List.mem_of_getElem? (i := 1) rfl)) (fun _ h9 => h9) rfl dX0_fault_8 ?_
      refine lv_icmp_ge (tgt := 106) hx hb dX0_fault_11 (by decide) (fun c3 => ?_) (fun c3 => ?_)
      · have hf := if_t hf c3
        refine lv_iload_n hx hb dX0_fault_106 rfl (lv_at hl 2 rfl) ?_
        refine lv_if_eq (tgt := 118) hx hb dX0_fault_107 (by decide) (fun c4 => ?_) (fun c4 => ?_)
        · have hf := if_t hf c4
          refine lv_aload_n hx hb dX0_fault_118 rfl (lv_at hl 0 rfl) ?_
          refine va_get (D := D) (ci := 0) (v := .int o0.2) (C := RX0) (T := TX0) (N := 2) hx hb hts inw_X0_fault_0 hown hK hP 0 rfl rfl 1 (by decide) (hts (.fieldLink RX0 15 "RingGames$ArrowText" "length" "I") (List.mem_of_getElem? (i := 1) rfl)) (fun _ h9 => h9) rfl dX0_fault_119 ?_
          have hf := Option.some.inj hf
          subst hf
          exact hret _ _ _ _ _ dX0_fault_122 rfl hP hD hS rfl
        · have hf := if_f hf c4
          refine lv_iload_n hx hb dX0_fault_110 rfl (lv_at hl 1 rfl) ?_
          refine lv_if_eq (tgt := 118) hx hb dX0_fault_111 (by decide) (fun c5 => ?_) (fun c5 => ?_)
          · have hf := if_t hf c5
            refine lv_aload_n hx hb dX0_fault_118 rfl (lv_at hl 0 rfl) ?_
            refine va_get (D := D) (ci := 0) (v := .int o0.2) (C := RX0) (T := TX0) (N := 2) hx hb hts inw_X0_fault_0 hown hK hP 0 rfl rfl 1 (by decide) (hts (.fieldLink RX0 15 "RingGames$ArrowText" "length" "I") (List.mem_of_getElem? (i := 1) rfl)) (fun _ h9 => h9) rfl dX0_fault_119 ?_
            have hf := Option.some.inj hf
            subst hf
            exact hret _ _ _ _ _ dX0_fault_122 rfl hP hD hS rfl
          · have hf := if_f hf c5
            refine lv_iconst (v := (-1)) hx hb dX0_fault_114 (by decide) ?_
            refine lv_goto (tgt := 122) hx hb dX0_fault_115 (by decide) ?_
            have hf := Option.some.inj hf
            subst hf
            exact hret _ _ _ _ _ dX0_fault_122 rfl hP hD hS rfl
      · have hf := if_f hf c3
        refine lv_aload_n hx hb dX0_fault_14 rfl (lv_at hl 0 rfl) ?_
        refine va_get (D := D) (ci := 0) (v := .ref (a0 1)) (C := RX0) (T := TX0) (N := 2) hx hb hts inw_X0_fault_0 hown hK hP 0 rfl rfl 0 (by decide) (hts (.fieldLink RX0 9 "RingGames$ArrowText" "signs" "[C") (List.mem_of_getElem? (i := 2) rfl)) (fun _ h9 => h9) rfl dX0_fault_15 ?_
        refine lv_iload_n hx hb dX0_fault_18 rfl (lv_at hl 3 rfl) ?_
        obtain ⟨g6, hf⟩ := vg_some hf
        refine va_cald hx hb hK hP 1 1 rfl rfl g6 dX0_fault_19 ?_
        refine lv_istore (lv' := [(4, .int (o0.1 (v_l3_L1).toNatClampNeg)), (0, .ref (a0 0)), (1, .int v_l1_L1), (2, .int v_l2_L1), (3, .int v_l3_L1)]) hx hb dX0_fault_20 hl (by decide) rfl (fun ls hl => ?_)
        refine lv_iload hx hb dX0_fault_22 (lv_at hl 0 rfl) ?_
        obtain ⟨q7, hq7, hf⟩ := ob_some hf
        refine xcSi S hK hN hA hP hD hS (c_X0_isDigit l D cI cC cS ((w_T a0 cC o0) ++ R) (o0.1 (v_l3_L1).toNatClampNeg) _ hq7) gX0_fault_X0_isDigit rfl hd_X0_isDigit ⟨by decide, by decide⟩ rfl hl.1 rfl (Nat.le_of_ble_eq_true rfl) dX0_fault_24 ⟨Nat.zero_le _, Nat.zero_le _⟩ (fun H locs hP hD hS => ?_)
        refine lv_if_eq (tgt := 67) hx hb dX0_fault_27 (by decide) (fun c8 => ?_) (fun c8 => ?_)
        · have hf := if_t hf c8
          refine lv_iload_n hx hb dX0_fault_67 rfl (lv_at hl 2 rfl) ?_
          refine lv_if_eq (tgt := 98) hx hb dX0_fault_68 (by decide) (fun c9 => ?_) (fun c9 => ?_)
          · have hf := if_t hf c9
            refine lv_iload_n hx hb dX0_fault_98 rfl (lv_at hl 4 rfl) ?_
            have hf := Option.some.inj hf
            subst hf
            exact hret _ _ _ _ _ dX0_fault_99 rfl hP hD hS rfl
          · have hf := if_f hf c9
            refine lv_iload hx hb dX0_fault_71 (lv_at hl 0 rfl) ?_
            refine lv_iload_n hx hb dX0_fault_73 rfl (lv_at hl 3 rfl) ?_
            obtain ⟨q10, hq10, hf⟩ := ob_some hf
            refine xcSi S hK hN hA hP hD hS (c_X0_isSignBehind l D cI cC cS ((w_T a0 cC o0) ++ R) (o0.1 (v_l3_L1).toNatClampNeg) v_l2_L1 _ hq10) gX0_fault_X0_isSignBehind rfl hd_X0_isSignBehind ⟨by decide, by decide⟩ rfl hl.1 rfl (Nat.le_of_ble_eq_true rfl) dX0_fault_74 ⟨Nat.zero_le _, Nat.zero_le _⟩ (fun H locs hP hD hS => ?_)
            refine lv_if_eq (tgt := 98) hx hb dX0_fault_77 (by decide) (fun c11 => ?_) (fun c11 => ?_)
            · have hf := if_t hf c11
              refine lv_iload_n hx hb dX0_fault_98 rfl (lv_at hl 4 rfl) ?_
              have hf := Option.some.inj hf
              subst hf
              exact hret _ _ _ _ _ dX0_fault_99 rfl hP hD hS rfl
            · have hf := if_f hf c11
              refine lv_iconst (v := 0) hx hb dX0_fault_80 (by decide) ?_
              refine lv_istore_n (lv' := [(1, .int 0), (4, .int (o0.1 (v_l3_L1).toNatClampNeg)), (0, .ref (a0 0)), (2, .int v_l2_L1), (3, .int v_l3_L1)]) hx hb dX0_fault_81 rfl hl (by decide) rfl (fun ls hl => ?_)
              refine lv_iload hx hb dX0_fault_82 (lv_at hl 1 rfl) ?_
              refine lv_bipush (v := 59) hx hb dX0_fault_84 (by decide) ?_
              refine lv_icmp_eq (tgt := 93) hx hb dX0_fault_86 (by decide) (fun c12 => ?_) (fun c12 => ?_)
              · have hf := if_t hf c12
                refine lv_iconst (v := 0) hx hb dX0_fault_93 (by decide) ?_
                refine lv_istore_n (lv' := [(2, .int 0), (1, .int 0), (4, .int (o0.1 (v_l3_L1).toNatClampNeg)), (0, .ref (a0 0)), (3, .int v_l3_L1)]) hx hb dX0_fault_94 rfl hl (by decide) rfl (fun ls hl => ?_)
                refine lv_goto (tgt := 100) hx hb dX0_fault_95 (by decide) ?_
                refine lv_iinc (v := (v_l3_L1 + 1)) (lv' := [(3, .int (v_l3_L1 + 1)), (2, .int 0), (1, .int 0), (4, .int (o0.1 (v_l3_L1).toNatClampNeg)), (0, .ref (a0 0))]) hx hb dX0_fault_100 hl (k := 4) rfl (congrArg (fun z => v_l3_L1 + z) (by decide)) (by decide) rfl (fun ls hl => ?_)
                refine lv_goto (tgt := 6) hx hb dX0_fault_103 (by decide) ?_
                exact ih 0 0 (v_l3_L1 + 1) hf _ _ hP hD hS _ (lv_sub hl [4, 2, 1, 0] rfl)
              · have hf := if_f hf c12
                refine lv_iconst (v := 1) hx hb dX0_fault_89 (by decide) ?_
                refine lv_goto (tgt := 94) hx hb dX0_fault_90 (by decide) ?_
                refine lv_istore_n (lv' := [(2, .int 1), (1, .int 0), (4, .int (o0.1 (v_l3_L1).toNatClampNeg)), (0, .ref (a0 0)), (3, .int v_l3_L1)]) hx hb dX0_fault_94 rfl hl (by decide) rfl (fun ls hl => ?_)
                refine lv_goto (tgt := 100) hx hb dX0_fault_95 (by decide) ?_
                refine lv_iinc (v := (v_l3_L1 + 1)) (lv' := [(3, .int (v_l3_L1 + 1)), (2, .int 1), (1, .int 0), (4, .int (o0.1 (v_l3_L1).toNatClampNeg)), (0, .ref (a0 0))]) hx hb dX0_fault_100 hl (k := 4) rfl (congrArg (fun z => v_l3_L1 + z) (by decide)) (by decide) rfl (fun ls hl => ?_)
                refine lv_goto (tgt := 6) hx hb dX0_fault_103 (by decide) ?_
                exact ih 0 1 (v_l3_L1 + 1) hf _ _ hP hD hS _ (lv_sub hl [4, 2, 1, 0] rfl)
        · have hf := if_f hf c8
          refine lv_iload_n hx hb dX0_fault_30 rfl (lv_at hl 2 rfl) ?_
          refine lv_iconst (v := 2) hx hb dX0_fault_31 (by decide) ?_
          refine lv_icmp_eq (tgt := 67) hx hb dX0_fault_32 (by decide) (fun c13 => ?_) (fun c13 => ?_)
          · have hf := if_t hf c13
            refine lv_iload_n hx hb dX0_fault_67 rfl (lv_at hl 2 rfl) ?_
            refine lv_if_eq (tgt := 98) hx hb dX0_fault_68 (by decide) (fun c14 => ?_) (fun c14 => ?_)
            · have hf := if_t hf c14
              refine lv_iload_n hx hb dX0_fault_98 rfl (lv_at hl 4 rfl) ?_
              have hf := Option.some.inj hf
              subst hf
              exact hret _ _ _ _ _ dX0_fault_99 rfl hP hD hS rfl
            · have hf := if_f hf c14
              refine lv_iload hx hb dX0_fault_71 (lv_at hl 0 rfl) ?_
              refine lv_iload_n hx hb dX0_fault_73 rfl (lv_at hl 3 rfl) ?_
              obtain ⟨q15, hq15, hf⟩ := ob_some hf
              refine xcSi S hK hN hA hP hD hS (c_X0_isSignBehind l D cI cC cS ((w_T a0 cC o0) ++ R) (o0.1 (v_l3_L1).toNatClampNeg) v_l2_L1 _ hq15) gX0_fault_X0_isSignBehind rfl hd_X0_isSignBehind ⟨by decide, by decide⟩ rfl hl.1 rfl (Nat.le_of_ble_eq_true rfl) dX0_fault_74 ⟨Nat.zero_le _, Nat.zero_le _⟩ (fun H locs hP hD hS => ?_)
              refine lv_if_eq (tgt := 98) hx hb dX0_fault_77 (by decide) (fun c16 => ?_) (fun c16 => ?_)
              · have hf := if_t hf c16
                refine lv_iload_n hx hb dX0_fault_98 rfl (lv_at hl 4 rfl) ?_
                have hf := Option.some.inj hf
                subst hf
                exact hret _ _ _ _ _ dX0_fault_99 rfl hP hD hS rfl
              · have hf := if_f hf c16
                refine lv_iconst (v := 0) hx hb dX0_fault_80 (by decide) ?_
                refine lv_istore_n (lv' := [(1, .int 0), (4, .int (o0.1 (v_l3_L1).toNatClampNeg)), (0, .ref (a0 0)), (2, .int v_l2_L1), (3, .int v_l3_L1)]) hx hb dX0_fault_81 rfl hl (by decide) rfl (fun ls hl => ?_)
                refine lv_iload hx hb dX0_fault_82 (lv_at hl 1 rfl) ?_
                refine lv_bipush (v := 59) hx hb dX0_fault_84 (by decide) ?_
                refine lv_icmp_eq (tgt := 93) hx hb dX0_fault_86 (by decide) (fun c17 => ?_) (fun c17 => ?_)
                · have hf := if_t hf c17
                  refine lv_iconst (v := 0) hx hb dX0_fault_93 (by decide) ?_
                  refine lv_istore_n (lv' := [(2, .int 0), (1, .int 0), (4, .int (o0.1 (v_l3_L1).toNatClampNeg)), (0, .ref (a0 0)), (3, .int v_l3_L1)]) hx hb dX0_fault_94 rfl hl (by decide) rfl (fun ls hl => ?_)
                  refine lv_goto (tgt := 100) hx hb dX0_fault_95 (by decide) ?_
                  refine lv_iinc (v := (v_l3_L1 + 1)) (lv' := [(3, .int (v_l3_L1 + 1)), (2, .int 0), (1, .int 0), (4, .int (o0.1 (v_l3_L1).toNatClampNeg)), (0, .ref (a0 0))]) hx hb dX0_fault_100 hl (k := 4) rfl (congrArg (fun z => v_l3_L1 + z) (by decide)) (by decide) rfl (fun ls hl => ?_)
                  refine lv_goto (tgt := 6) hx hb dX0_fault_103 (by decide) ?_
                  exact ih 0 0 (v_l3_L1 + 1) hf _ _ hP hD hS _ (lv_sub hl [4, 2, 1, 0] rfl)
                · have hf := if_f hf c17
                  refine lv_iconst (v := 1) hx hb dX0_fault_89 (by decide) ?_
                  refine lv_goto (tgt := 94) hx hb dX0_fault_90 (by decide) ?_
                  refine lv_istore_n (lv' := [(2, .int 1), (1, .int 0), (4, .int (o0.1 (v_l3_L1).toNatClampNeg)), (0, .ref (a0 0)), (3, .int v_l3_L1)]) hx hb dX0_fault_94 rfl hl (by decide) rfl (fun ls hl => ?_)
                  refine lv_goto (tgt := 100) hx hb dX0_fault_95 (by decide) ?_
                  refine lv_iinc (v := (v_l3_L1 + 1)) (lv' := [(3, .int (v_l3_L1 + 1)), (2, .int 1), (1, .int 0), (4, .int (o0.1 (v_l3_L1).toNatClampNeg)), (0, .ref (a0 0))]) hx hb dX0_fault_100 hl (k := 4) rfl (congrArg (fun z => v_l3_L1 + z) (by decide)) (by decide) rfl (fun ls hl => ?_)
                  refine lv_goto (tgt := 6) hx hb dX0_fault_103 (by decide) ?_
                  exact ih 0 1 (v_l3_L1 + 1) hf _ _ hP hD hS _ (lv_sub hl [4, 2, 1, 0] rfl)
          · have hf := if_f hf c13
            refine lv_iload_n hx hb dX0_fault_35 rfl (lv_at hl 2 rfl) ?_
            obtain ⟨j19, hj19, hf⟩ := ob_some hf
            have J20 : ∀ (H : Heap) (locs : List Loc), va_P D vwCl ((w_T a0 cC o0) ++ R) H → va_D A ((w_T a0 cC o0) ++ R) → va_S A s.heap H locs → ∀ ls : Array Slot, lv_has ls 6 [(0, .ref (a0 0)), (2, .int v_l2_L1), (3, .int v_l3_L1)] → W p l e (xR 1 21) s m args below meth c H locs 0 0 Q (F0 m 51 ls [.int j19]) := by
              intro H locs hP hD hS ls hl
              refine lv_istore (lv' := [(5, .int j19), (0, .ref (a0 0)), (2, .int v_l2_L1), (3, .int v_l3_L1)]) hx hb dX0_fault_51 hl (by decide) rfl (fun ls hl => ?_)
              refine lv_iload hx hb dX0_fault_53 (lv_at hl 0 rfl) ?_
              refine lv_if_eq (tgt := 62) hx hb dX0_fault_55 (by decide) (fun c21 => ?_) (fun c21 => ?_)
              · have hf := if_t hf c21
                refine lv_iconst (v := 2) hx hb dX0_fault_62 (by decide) ?_
                refine lv_istore_n (lv' := [(1, .int 2), (5, .int j19), (0, .ref (a0 0)), (2, .int v_l2_L1), (3, .int v_l3_L1)]) hx hb dX0_fault_63 rfl hl (by decide) rfl (fun ls hl => ?_)
                refine lv_goto (tgt := 100) hx hb dX0_fault_64 (by decide) ?_
                refine lv_iinc (v := (v_l3_L1 + 1)) (lv' := [(3, .int (v_l3_L1 + 1)), (1, .int 2), (5, .int j19), (0, .ref (a0 0)), (2, .int v_l2_L1)]) hx hb dX0_fault_100 hl (k := 4) rfl (congrArg (fun z => v_l3_L1 + z) (by decide)) (by decide) rfl (fun ls hl => ?_)
                refine lv_goto (tgt := 6) hx hb dX0_fault_103 (by decide) ?_
                exact ih 2 v_l2_L1 (v_l3_L1 + 1) hf _ _ hP hD hS _ (lv_sub hl [3, 1, 4, 0] rfl)
              · have hf := if_f hf c21
                refine lv_iconst (v := 1) hx hb dX0_fault_58 (by decide) ?_
                refine lv_goto (tgt := 63) hx hb dX0_fault_59 (by decide) ?_
                refine lv_istore_n (lv' := [(1, .int 1), (5, .int j19), (0, .ref (a0 0)), (2, .int v_l2_L1), (3, .int v_l3_L1)]) hx hb dX0_fault_63 rfl hl (by decide) rfl (fun ls hl => ?_)
                refine lv_goto (tgt := 100) hx hb dX0_fault_64 (by decide) ?_
                refine lv_iinc (v := (v_l3_L1 + 1)) (lv' := [(3, .int (v_l3_L1 + 1)), (1, .int 1), (5, .int j19), (0, .ref (a0 0)), (2, .int v_l2_L1)]) hx hb dX0_fault_100 hl (k := 4) rfl (congrArg (fun z => v_l3_L1 + z) (by decide)) (by decide) rfl (fun ls hl => ?_)
                refine lv_goto (tgt := 6) hx hb dX0_fault_103 (by decide) ?_
                exact ih 1 v_l2_L1 (v_l3_L1 + 1) hf _ _ hP hD hS _ (lv_sub hl [3, 1, 4, 0] rfl)
            clear hf
            have hf := hj19
            refine lv_if_ne (tgt := 50) hx hb dX0_fault_36 (by decide) (fun c18 => ?_) (fun c18 => ?_)
            · have hf := if_f hf c18
              refine lv_iconst (v := 0) hx hb dX0_fault_50 (by decide) ?_
              have hf := Option.some.inj hf
              subst hf
              exact J20 _ _ hP hD hS _ (lv_sub hl [1, 3, 4] rfl)
            · have hf := if_t hf c18
              refine lv_iload hx hb dX0_fault_39 (lv_at hl 0 rfl) ?_
              refine lv_bipush (v := 48) hx hb dX0_fault_41 (by decide) ?_
              refine lv_icmp_eq (tgt := 50) hx hb dX0_fault_43 (by decide) (fun c22 => ?_) (fun c22 => ?_)
              · have hf := if_t hf c22
                refine lv_iconst (v := 0) hx hb dX0_fault_50 (by decide) ?_
                have hf := Option.some.inj hf
                subst hf
                exact J20 _ _ hP hD hS _ (lv_sub hl [1, 3, 4] rfl)
              · have hf := if_f hf c22
                refine lv_iconst (v := 1) hx hb dX0_fault_46 (by decide) ?_
                refine lv_goto (tgt := 51) hx hb dX0_fault_47 (by decide) ?_
                have hf := Option.some.inj hf
                subst hf
                exact J20 _ _ hP hD hS _ (lv_sub hl [1, 3, 4] rfl)
  exact L1 n 0 0 0 hf _ _ hP hD hS _ (lv_sub hl [3, 2, 1, 0] rfl)
def f_X0_drawInto_L7 (d_o0 : TT) : Nat → Int32 → Int32 → Int32 → GG → Option (Int32 × GG)
  | 0, _, _, _, _ => none
  | k + 1, d_l2, d_l3, d_l4, d_o1 => (if d_o0.2 < d_l4 then some (1, d_o1) else ((if d_o0.2 ≤ d_l4 then some (59) else vg d_l4 60 (some ((d_o0.1 (d_l4).toNatClampNeg)))) : Option Int32).bind fun j3 => (f_X0_isDigit j3).bind fun q5 => (if q5 = 0 then (f_X1_has d_o1 d_l3).bind fun q7 => (if q7 = 0 then some (0, d_o1) else (if j3 = 62 then f_X0_drawInto_L7 d_o0 k d_l3 0 (d_l4 + 1) d_o1 else vg d_l2 14 ((f_X6_bit d_l3).bind fun q11 => f_X0_drawInto_L7 d_o0 k d_l2 0 (d_l4 + 1) (d_o1.1, d_o1.2.1, d_o1.2.2.1, (upd d_o1.2.2.2 (d_l2).toNatClampNeg ((d_o1.2.2.2 (d_l2).toNatClampNeg) ||| q11)))))) else f_X0_drawInto_L7 d_o0 k d_l2 ((d_l3 * 10) + (j3 - 48)) (d_l4 + 1) d_o1))
def f_X0_drawInto (n : Nat) (o0 : TT) (o1 : GG) : Option (Int32 × GG) := f_X0_drawInto_L7 o0 n 0 0 0 o1
theorem inw_X0_drawInto_0 : ∀ w ∈ wsX00, w ∈ wsX0_drawInto := fun _ h => List.mem_cons_of_mem _ (List.mem_append_left _ (List.mem_append_right _ h))
theorem inw_X0_drawInto_1 : ∀ w ∈ wsX10, w ∈ wsX0_drawInto := fun _ h => List.mem_cons_of_mem _ (List.mem_append_right _ h)
theorem hd_X0_drawInto : yX0_drawInto.cls = RX0 ∧ yX0_drawInto.cls ≠ "java/lang/invoke/MethodHandle" ∧ yX0_drawInto.cls ≠ "java/lang/invoke/VarHandle" ∧ (parseMethodDescriptor yX0_drawInto.desc).map (fun d => d.parameters.length) = some 1 := by decide +kernel
set_option maxHeartbeats 4000000 in
set_option maxRecDepth 100000 in
theorem c_X0_drawInto (l : Launch) (D : va_G) (cI cC cS : ClassId) (R : va_W) (a0 : Nat → Nat) (a1 : Nat → Nat) (o0 : TT) (o1 : GG) (n : Nat) (r : Int32 × GG) (hf : f_X0_drawInto n o0 o1 = some r) : CI l yX0_drawInto wsX0_drawInto 1 21 D cI cC cS [.ref (a0 0), .ref (a1 0)] ((w_T a0 cC o0 ++ w_G a1 cI o1) ++ R) r.1 ((w_T a0 cC o0 ++ w_G a1 cI r.2) ++ R) := by
  refine XI.of (cc := cX0_drawInto) (maxL := 6) (ty := .boolean) (own := RX0) (by decide) rfl rfl (Nat.le_of_ble_eq_true rfl) ?_
  intro p e s m args below meth c A Q S hK hN hA hP hD hS ls hl hret
  obtain ⟨hx, hb, hml, hown, hts⟩ := id S
  have hl : lv_has ls 6 [(0, .ref (a0 0)), (1, .ref (a1 0))] := hl
  unfold f_X0_drawInto at hf
  refine lv_iconst (v := 0) hx hb dX0_drawInto_0 (by decide) ?_
  refine lv_istore_n (lv' := [(2, .int 0), (0, .ref (a0 0)), (1, .ref (a1 0))]) hx hb dX0_drawInto_1 rfl hl (by decide) rfl (fun ls hl => ?_)
  refine lv_iconst (v := 0) hx hb dX0_drawInto_2 (by decide) ?_
  refine lv_istore_n (lv' := [(3, .int 0), (2, .int 0), (0, .ref (a0 0)), (1, .ref (a1 0))]) hx hb dX0_drawInto_3 rfl hl (by decide) rfl (fun ls hl => ?_)
  refine lv_iconst (v := 0) hx hb dX0_drawInto_4 (by decide) ?_
  refine lv_istore (lv' := [(4, .int 0), (3, .int 0), (2, .int 0), (0, .ref (a0 0)), (1, .ref (a1 0))]) hx hb dX0_drawInto_5 hl (by decide) rfl (fun ls hl => ?_)
  have L1 : ∀ (k : Nat) (v_l2_L1 : Int32) (v_l3_L1 : Int32) (v_l4_L1 : Int32) (v_o1_L1 : GG), f_X0_drawInto_L7 o0 k v_l2_L1 v_l3_L1 v_l4_L1 v_o1_L1 = some r → ∀ (H : Heap) (locs : List Loc), va_P D vwCl ((w_T a0 cC o0 ++ w_G a1 cI v_o1_L1) ++ R) H → va_D A ((w_T a0 cC o0 ++ w_G a1 cI v_o1_L1) ++ R) → va_S A s.heap H locs → ∀ ls : Array Slot, lv_has ls 6 [(0, .ref (a0 0)), (1, .ref (a1 0)), (2, .int v_l2_L1), (3, .int v_l3_L1), (4, .int v_l4_L1)] → W p l e (xR 1 21) s m args below meth c H locs 0 0 Q (F0 m 7 ls []) := by
    intro k
    induction k with
    | zero => intro v_l2_L1 v_l3_L1 v_l4_L1 v_o1_L1 hf; simp [f_X0_drawInto_L7] at hf
    | succ k ih =>
      intro v_l2_L1 v_l3_L1 v_l4_L1 v_o1_L1 hf H locs hP hD hS ls hl
      rw [f_X0_drawInto_L7] at hf
      refine lv_iload hx hb dX0_drawInto_7 (lv_at hl 4 rfl) ?_
      refine lv_aload_n hx hb dX0_drawInto_9 rfl (lv_at hl 0 rfl) ?_
      refine va_get (D := D) (ci := 0) (v := .int o0.2) (C := RX0) (T := TX0) (N := 2) hx hb hts inw_X0_drawInto_0 hown hK hP 0 rfl rfl 1 (by decide) (hts (.fieldLink RX0 15 "RingGames$ArrowText" "length" "I") (List.mem_of_getElem? (i := 1) rfl)) (fun _ h9 => h9) rfl dX0_drawInto_10 ?_
      refine lv_icmp_gt (tgt := 104) hx hb dX0_drawInto_13 (by decide) (fun c3 => ?_) (fun c3 => ?_)
      · have hf := if_t hf c3
        refine lv_iconst (v := 1) hx hb dX0_drawInto_104 (by decide) ?_
        have hf := Option.some.inj hf
        subst hf
        exact hret _ _ _ _ _ dX0_drawInto_105 rfl hP hD hS rfl
      · have hf := if_f hf c3
        refine lv_iload hx hb dX0_drawInto_16 (lv_at hl 4 rfl) ?_
        refine lv_aload_n hx hb dX0_drawInto_18 rfl (lv_at hl 0 rfl) ?_
        refine va_get (D := D) (ci := 0) (v := .int o0.2) (C := RX0) (T := TX0) (N := 2) hx hb hts inw_X0_drawInto_0 hown hK hP 0 rfl rfl 1 (by decide) (hts (.fieldLink RX0 15 "RingGames$ArrowText" "length" "I") (List.mem_of_getElem? (i := 1) rfl)) (fun _ h9 => h9) rfl dX0_drawInto_19 ?_
        obtain ⟨j5, hj5, hf⟩ := ob_some hf
        have J6 : ∀ (H : Heap) (locs : List Loc), va_P D vwCl ((w_T a0 cC o0 ++ w_G a1 cI v_o1_L1) ++ R) H → va_D A ((w_T a0 cC o0 ++ w_G a1 cI v_o1_L1) ++ R) → va_S A s.heap H locs → ∀ ls : Array Slot, lv_has ls 6 [(0, .ref (a0 0)), (1, .ref (a1 0)), (2, .int v_l2_L1), (3, .int v_l3_L1), (4, .int v_l4_L1)] → W p l e (xR 1 21) s m args below meth c H locs 0 0 Q (F0 m 37 ls [.int j5]) := by
          intro H locs hP hD hS ls hl
          refine lv_istore (lv' := [(5, .int j5), (0, .ref (a0 0)), (1, .ref (a1 0)), (2, .int v_l2_L1), (3, .int v_l3_L1), (4, .int v_l4_L1)]) hx hb dX0_drawInto_37 hl (by decide) rfl (fun ls hl => ?_)
          refine lv_iload hx hb dX0_drawInto_39 (lv_at hl 0 rfl) ?_
          obtain ⟨q7, hq7, hf⟩ := ob_some hf
          refine xcSi S hK hN hA hP hD hS (c_X0_isDigit l D cI cC cS ((w_T a0 cC o0 ++ w_G a1 cI v_o1_L1) ++ R) j5 _ hq7) gX0_drawInto_X0_isDigit rfl hd_X0_isDigit ⟨by decide, by decide⟩ rfl hl.1 rfl (Nat.le_of_ble_eq_true rfl) dX0_drawInto_41 ⟨Nat.zero_le _, Nat.zero_le _⟩ (fun H locs hP hD hS => ?_)
          refine lv_if_eq (tgt := 61) hx hb dX0_drawInto_44 (by decide) (fun c8 => ?_) (fun c8 => ?_)
          · have hf := if_t hf c8
            refine lv_aload_n hx hb dX0_drawInto_61 rfl (lv_at hl 2 rfl) ?_
            refine lv_iload_n hx hb dX0_drawInto_62 rfl (lv_at hl 4 rfl) ?_
            obtain ⟨q9, hq9, hf⟩ := ob_some hf
            refine xcVi (w' := ((w_T a0 cC o0 ++ w_G a1 cI v_o1_L1) ++ R)) S hK hN hA hP hD hS (c_X1_has l D cI cC cS ((xr 6 [2, 3, 4, 5]).filterMap (fun i => (w_T a0 cC o0 ++ w_G a1 cI v_o1_L1)[i]?) ++ R) a1 v_o1_L1 v_l3_L1 _ hq9) gX0_drawInto_X1_has rfl hd_X1_has ⟨by decide, by decide⟩ (x_cut (pre := (w_T a0 cC o0 ++ w_G a1 cI v_o1_L1)) [2, 3, 4, 5] 6 rfl (by decide +kernel) rfl) (x_cut (pre := (w_T a0 cC o0 ++ w_G a1 cI v_o1_L1)) [2, 3, 4, 5] 6 rfl (by decide +kernel) rfl).symm (ci := 1) (q := (RX1, TX1, 4)) rfl rfl rfl rfl hl.1 rfl (Nat.le_of_ble_eq_true rfl) dX0_drawInto_63 ⟨Nat.zero_le _, Nat.zero_le _⟩ (fun H locs hP hD hS => ?_)
            refine lv_if_ne (tgt := 71) hx hb dX0_drawInto_66 (by decide) (fun c10 => ?_) (fun c10 => ?_)
            · have hf := if_f hf c10
              refine lv_iload hx hb dX0_drawInto_71 (lv_at hl 0 rfl) ?_
              refine lv_bipush (v := 62) hx hb dX0_drawInto_73 (by decide) ?_
              refine lv_icmp_ne (tgt := 83) hx hb dX0_drawInto_75 (by decide) (fun c11 => ?_) (fun c11 => ?_)
              · have hf := if_f hf c11
                refine lv_aload_n hx hb dX0_drawInto_83 rfl (lv_at hl 2 rfl) ?_
                refine va_get (D := D) (ci := 1) (v := .ref (a1 3)) (C := RX1) (T := TX1) (N := 4) hx hb hts inw_X0_drawInto_1 hown hK hP 2 rfl rfl 3 (by decide) (hts (.fieldLink RX0 33 "RingGames$Game" "arrows" "[I") (List.mem_of_getElem? (i := 3) rfl)) (fun _ h9 => h9) rfl dX0_drawInto_84 ?_
                refine lv_iload_n hx hb dX0_drawInto_87 rfl (lv_at hl 3 rfl) ?_
                refine lv_dup2_11 hx hb dX0_drawInto_88 rfl rfl ?_
                obtain ⟨g12, hf⟩ := vg_some hf
                refine va_iald hx hb hK hP 5 0 rfl rfl g12 dX0_drawInto_89 ?_
                refine lv_iload_n hx hb dX0_drawInto_90 rfl (lv_at hl 4 rfl) ?_
                obtain ⟨q13, hq13, hf⟩ := ob_some hf
                refine xcNi S hK hN hA hP hD hS (c_X6_bit l D cI cC cS ((w_T a0 cC o0 ++ w_G a1 cI v_o1_L1) ++ R) v_l3_L1 _ hq13) 5 rfl gX0_drawInto_X6_bit_n37 (List.mem_of_getElem? (i := 14) rfl) (List.mem_of_getElem? (i := 15) rfl) rfl hd_X6_bit ⟨by decide, by decide⟩ rfl hl.1 rfl (Nat.le_of_ble_eq_true rfl) dX0_drawInto_91 ⟨Nat.zero_le _, Nat.zero_le _⟩ (fun H locs hP hD hS => ?_)
                refine lv_ior hx hb dX0_drawInto_94 ?_
                refine va_iast hx hb hK hP hD hS 5 0 rfl rfl g12 dX0_drawInto_95 (fun H locs hP hD hS => ?_)
                have hP : va_P D vwCl ((w_T a0 cC o0 ++ w_G a1 cI (v_o1_L1.1, v_o1_L1.2.1, v_o1_L1.2.2.1, (upd v_o1_L1.2.2.2 (v_l2_L1).toNatClampNeg ((v_o1_L1.2.2.2 (v_l2_L1).toNatClampNeg) ||| q13)))) ++ R) H := hP
                have hD : va_D A ((w_T a0 cC o0 ++ w_G a1 cI (v_o1_L1.1, v_o1_L1.2.1, v_o1_L1.2.2.1, (upd v_o1_L1.2.2.2 (v_l2_L1).toNatClampNeg ((v_o1_L1.2.2.2 (v_l2_L1).toNatClampNeg) ||| q13)))) ++ R) := hD
                refine lv_iconst (v := 0) hx hb dX0_drawInto_96 (by decide) ?_
                refine lv_istore_n (lv' := [(3, .int 0), (5, .int j5), (0, .ref (a0 0)), (1, .ref (a1 0)), (2, .int v_l2_L1), (4, .int v_l4_L1)]) hx hb dX0_drawInto_97 rfl hl (by decide) rfl (fun ls hl => ?_)
                refine lv_iinc (v := (v_l4_L1 + 1)) (lv' := [(4, .int (v_l4_L1 + 1)), (3, .int 0), (5, .int j5), (0, .ref (a0 0)), (1, .ref (a1 0)), (2, .int v_l2_L1)]) hx hb dX0_drawInto_98 hl (k := 5) rfl (congrArg (fun z => v_l4_L1 + z) (by decide)) (by decide) rfl (fun ls hl => ?_)
                refine lv_goto (tgt := 7) hx hb dX0_drawInto_101 (by decide) ?_
                exact ih v_l2_L1 0 (v_l4_L1 + 1) (v_o1_L1.1, v_o1_L1.2.1, v_o1_L1.2.2.1, (upd v_o1_L1.2.2.2 (v_l2_L1).toNatClampNeg ((v_o1_L1.2.2.2 (v_l2_L1).toNatClampNeg) ||| q13))) hf _ _ hP hD hS _ (lv_sub hl [3, 4, 5, 1, 0] rfl)
              · have hf := if_t hf c11
                refine lv_iload_n hx hb dX0_drawInto_78 rfl (lv_at hl 4 rfl) ?_
                refine lv_istore_n (lv' := [(2, .int v_l3_L1), (5, .int j5), (0, .ref (a0 0)), (1, .ref (a1 0)), (3, .int v_l3_L1), (4, .int v_l4_L1)]) hx hb dX0_drawInto_79 rfl hl (by decide) rfl (fun ls hl => ?_)
                refine lv_goto (tgt := 96) hx hb dX0_drawInto_80 (by decide) ?_
                refine lv_iconst (v := 0) hx hb dX0_drawInto_96 (by decide) ?_
                refine lv_istore_n (lv' := [(3, .int 0), (2, .int v_l3_L1), (5, .int j5), (0, .ref (a0 0)), (1, .ref (a1 0)), (4, .int v_l4_L1)]) hx hb dX0_drawInto_97 rfl hl (by decide) rfl (fun ls hl => ?_)
                refine lv_iinc (v := (v_l4_L1 + 1)) (lv' := [(4, .int (v_l4_L1 + 1)), (3, .int 0), (2, .int v_l3_L1), (5, .int j5), (0, .ref (a0 0)), (1, .ref (a1 0))]) hx hb dX0_drawInto_98 hl (k := 5) rfl (congrArg (fun z => v_l4_L1 + z) (by decide)) (by decide) rfl (fun ls hl => ?_)
                refine lv_goto (tgt := 7) hx hb dX0_drawInto_101 (by decide) ?_
                exact ih v_l3_L1 0 (v_l4_L1 + 1) v_o1_L1 hf _ _ hP hD hS _ (lv_sub hl [4, 5, 2, 1, 0] rfl)
            · have hf := if_t hf c10
              refine lv_iconst (v := 0) hx hb dX0_drawInto_69 (by decide) ?_
              have hf := Option.some.inj hf
              subst hf
              exact hret _ _ _ _ _ dX0_drawInto_70 rfl hP hD hS rfl
          · have hf := if_f hf c8
            refine lv_iload_n hx hb dX0_drawInto_47 rfl (lv_at hl 4 rfl) ?_
            refine lv_bipush (v := 10) hx hb dX0_drawInto_48 (by decide) ?_
            refine lv_imul hx hb dX0_drawInto_50 ?_
            refine lv_iload hx hb dX0_drawInto_51 (lv_at hl 0 rfl) ?_
            refine lv_bipush (v := 48) hx hb dX0_drawInto_53 (by decide) ?_
            refine lv_isub hx hb dX0_drawInto_55 ?_
            refine lv_iadd hx hb dX0_drawInto_56 ?_
            refine lv_istore_n (lv' := [(3, .int ((v_l3_L1 * 10) + (j5 - 48))), (5, .int j5), (0, .ref (a0 0)), (1, .ref (a1 0)), (2, .int v_l2_L1), (4, .int v_l4_L1)]) hx hb dX0_drawInto_57 rfl hl (by decide) rfl (fun ls hl => ?_)
            refine lv_goto (tgt := 98) hx hb dX0_drawInto_58 (by decide) ?_
            refine lv_iinc (v := (v_l4_L1 + 1)) (lv' := [(4, .int (v_l4_L1 + 1)), (3, .int ((v_l3_L1 * 10) + (j5 - 48))), (5, .int j5), (0, .ref (a0 0)), (1, .ref (a1 0)), (2, .int v_l2_L1)]) hx hb dX0_drawInto_98 hl (k := 5) rfl (congrArg (fun z => v_l4_L1 + z) (by decide)) (by decide) rfl (fun ls hl => ?_)
            refine lv_goto (tgt := 7) hx hb dX0_drawInto_101 (by decide) ?_
            exact ih v_l2_L1 ((v_l3_L1 * 10) + (j5 - 48)) (v_l4_L1 + 1) v_o1_L1 hf _ _ hP hD hS _ (lv_sub hl [3, 4, 5, 1, 0] rfl)
        clear hf
        have hf := hj5
        refine lv_icmp_ge (tgt := 35) hx hb dX0_drawInto_22 (by decide) (fun c4 => ?_) (fun c4 => ?_)
        · have hf := if_t hf c4
          refine lv_bipush (v := 59) hx hb dX0_drawInto_35 (by decide) ?_
          have hf := Option.some.inj hf
          subst hf
          exact J6 _ _ hP hD hS _ (lv_sub hl [0, 1, 2, 3, 4] rfl)
        · have hf := if_f hf c4
          refine lv_aload_n hx hb dX0_drawInto_25 rfl (lv_at hl 0 rfl) ?_
          refine va_get (D := D) (ci := 0) (v := .ref (a0 1)) (C := RX0) (T := TX0) (N := 2) hx hb hts inw_X0_drawInto_0 hown hK hP 0 rfl rfl 0 (by decide) (hts (.fieldLink RX0 9 "RingGames$ArrowText" "signs" "[C") (List.mem_of_getElem? (i := 2) rfl)) (fun _ h9 => h9) rfl dX0_drawInto_26 ?_
          refine lv_iload hx hb dX0_drawInto_29 (lv_at hl 4 rfl) ?_
          obtain ⟨g14, hf⟩ := vg_some hf
          refine va_cald hx hb hK hP 1 1 rfl rfl g14 dX0_drawInto_31 ?_
          refine lv_goto (tgt := 37) hx hb dX0_drawInto_32 (by decide) ?_
          have hf := Option.some.inj hf
          subst hf
          exact J6 _ _ hP hD hS _ (lv_sub hl [0, 1, 2, 3, 4] rfl)
  exact L1 n 0 0 0 o1 hf _ _ hP hD hS _ (lv_sub hl [3, 4, 2, 1, 0] rfl)
def f_X3_wanted_L68 (d_o0 : EE) : Nat → Int32 → Int32 → Int32 → Option Int32
  | 0, _, _, _ => none
  | k + 1, d_l6, d_l7, d_l8 => (if d_l8 < 0 then some (65536) else vg d_l8 4 ((if (d_o0.1 (d_l8).toNatClampNeg) ≤ ((jshr d_l7 d_l6) &&& 15) then f_X3_wanted_L68 d_o0 k (d_l6 + 4) (d_l7 - (jshl ((jshr d_l7 d_l6) &&& 15) d_l6)) (d_l8 + (-1)) else some ((d_l7 + (jshl 1 d_l6))))))
def f_X3_wanted (n : Nat) (o0 : EE) (o1 : GG) (p2 : Int32) (p3 : Int32) : Option Int32 := vg p3 14 ((if (o0.2.1 (p3).toNatClampNeg) = 65536 then some (65536) else vg p2 14 (lt (jshl (jshr (o0.2.1 (p3).toNatClampNeg) (4 * (3 - ((((o1.2.2.1 (p2).toNatClampNeg) + 1) / 2) - 1)))) (4 * (3 - ((((o1.2.2.1 (p2).toNatClampNeg) + 1) / 2) - 1)))) fun x4 => (if (jrem (o1.2.2.1 (p2).toNatClampNeg) 2) = 0 then some (x4) else f_X3_wanted_L68 o0 n (4 * (3 - ((((o1.2.2.1 (p2).toNatClampNeg) + 1) / 2) - 1))) x4 ((((o1.2.2.1 (p2).toNatClampNeg) + 1) / 2) - 1)))))
theorem inw_X3_wanted_1 : ∀ w ∈ wsX10, w ∈ wsX3_wanted := fun _ h => List.mem_cons_of_mem _ (List.mem_append_right _ h)
theorem inw_X3_wanted_3 : ∀ w ∈ wsX30, w ∈ wsX3_wanted := fun _ h => List.mem_cons_of_mem _ (List.mem_append_left _ (List.mem_append_right _ h))
theorem hd_X3_wanted : yX3_wanted.cls = RX3 ∧ yX3_wanted.cls ≠ "java/lang/invoke/MethodHandle" ∧ yX3_wanted.cls ≠ "java/lang/invoke/VarHandle" ∧ (parseMethodDescriptor yX3_wanted.desc).map (fun d => d.parameters.length) = some 3 := by decide +kernel
set_option maxHeartbeats 4000000 in
set_option maxRecDepth 100000 in
theorem c_X3_wanted (l : Launch) (D : va_G) (cI cC cS : ClassId) (R : va_W) (a0 : Nat → Nat) (a1 : Nat → Nat) (o0 : EE) (o1 : GG) (p2 : Int32) (p3 : Int32) (n : Nat) (r : Int32) (hf : f_X3_wanted n o0 o1 p2 p3 = some r) : CI l yX3_wanted wsX3_wanted 0 0 D cI cC cS [.ref (a0 0), .ref (a1 0), .int p2, .int p3] ((w_E a0 cI o0 ++ w_G a1 cI o1) ++ R) r ((w_E a0 cI o0 ++ w_G a1 cI o1) ++ R) := by
  refine XI.of (cc := cX3_wanted) (maxL := 10) (ty := .int) (own := RX3) (by decide) rfl rfl (Nat.le_of_ble_eq_true rfl) ?_
  intro p e s m args below meth c A Q S hK hN hA hP hD hS ls hl hret
  obtain ⟨hx, hb, hml, hown, hts⟩ := id S
  have hl : lv_has ls 10 [(0, .ref (a0 0)), (1, .ref (a1 0)), (2, .int p2), (3, .int p3)] := hl
  unfold f_X3_wanted at hf
  refine lv_aload_n hx hb dX3_wanted_0 rfl (lv_at hl 0 rfl) ?_
  refine va_get (D := D) (ci := 3) (v := .ref (a0 2)) (C := RX3) (T := TX3) (N := 3) hx hb hts inw_X3_wanted_3 hown hK hP 0 rfl rfl 1 (by decide) (hts (.fieldLink RX3 15 "RingGames$Measures" "found" "[I") (List.mem_of_getElem? (i := 1) rfl)) (fun _ h9 => h9) rfl dX3_wanted_1 ?_
  refine lv_iload_n hx hb dX3_wanted_4 rfl (lv_at hl 3 rfl) ?_
  obtain ⟨g1, hf⟩ := vg_some hf
  refine va_iald hx hb hK hP 2 0 rfl rfl g1 dX3_wanted_5 ?_
  refine lv_ldc hx hb hown (hts (.constant RX3 42 (65536)) (List.mem_of_getElem? (i := 2) rfl)) dX3_wanted_6 ?_
  refine lv_icmp_ne (tgt := 14) hx hb dX3_wanted_8 (by decide) (fun c2 => ?_) (fun c2 => ?_)
  · have hf := if_f hf c2
    refine lv_aload_n hx hb dX3_wanted_14 rfl (lv_at hl 1 rfl) ?_
    refine va_get (D := D) (ci := 1) (v := .ref (a1 2)) (C := RX1) (T := TX1) (N := 4) hx hb hts inw_X3_wanted_1 hown hK hP 3 rfl rfl 2 (by decide) (hts (.fieldLink RX3 24 "RingGames$Game" "colours" "[I") (List.mem_of_getElem? (i := 3) rfl)) (fun _ h9 => h9) rfl dX3_wanted_15 ?_
    refine lv_iload_n hx hb dX3_wanted_18 rfl (lv_at hl 2 rfl) ?_
    obtain ⟨g3, hf⟩ := vg_some hf
    refine va_iald hx hb hK hP 5 0 rfl rfl g3 dX3_wanted_19 ?_
    refine lv_istore (lv' := [(4, .int (o1.2.2.1 (p2).toNatClampNeg)), (0, .ref (a0 0)), (1, .ref (a1 0)), (2, .int p2), (3, .int p3)]) hx hb dX3_wanted_20 hl (by decide) rfl (fun ls hl => ?_)
    refine lv_iload hx hb dX3_wanted_22 (lv_at hl 0 rfl) ?_
    refine lv_iconst (v := 1) hx hb dX3_wanted_24 (by decide) ?_
    refine lv_iadd hx hb dX3_wanted_25 ?_
    refine lv_iconst (v := 2) hx hb dX3_wanted_26 (by decide) ?_
    refine lv_idiv hx hb dX3_wanted_27 (by decide) ?_
    refine lv_iconst (v := 1) hx hb dX3_wanted_28 (by decide) ?_
    refine lv_isub hx hb dX3_wanted_29 ?_
    refine lv_istore (lv' := [(5, .int ((((o1.2.2.1 (p2).toNatClampNeg) + 1) / 2) - 1)), (4, .int (o1.2.2.1 (p2).toNatClampNeg)), (0, .ref (a0 0)), (1, .ref (a1 0)), (2, .int p2), (3, .int p3)]) hx hb dX3_wanted_30 hl (by decide) rfl (fun ls hl => ?_)
    refine lv_iconst (v := 4) hx hb dX3_wanted_32 (by decide) ?_
    refine lv_iconst (v := 3) hx hb dX3_wanted_33 (by decide) ?_
    refine lv_iload hx hb dX3_wanted_34 (lv_at hl 0 rfl) ?_
    refine lv_isub hx hb dX3_wanted_36 ?_
    refine lv_imul hx hb dX3_wanted_37 ?_
    refine lv_istore (lv' := [(6, .int (4 * (3 - ((((o1.2.2.1 (p2).toNatClampNeg) + 1) / 2) - 1)))), (5, .int ((((o1.2.2.1 (p2).toNatClampNeg) + 1) / 2) - 1)), (4, .int (o1.2.2.1 (p2).toNatClampNeg)), (0, .ref (a0 0)), (1, .ref (a1 0)), (2, .int p2), (3, .int p3)]) hx hb dX3_wanted_38 hl (by decide) rfl (fun ls hl => ?_)
    refine lv_aload_n hx hb dX3_wanted_40 rfl (lv_at hl 3 rfl) ?_
    refine va_get (D := D) (ci := 3) (v := .ref (a0 2)) (C := RX3) (T := TX3) (N := 3) hx hb hts inw_X3_wanted_3 hown hK hP 0 rfl rfl 1 (by decide) (hts (.fieldLink RX3 15 "RingGames$Measures" "found" "[I") (List.mem_of_getElem? (i := 1) rfl)) (fun _ h9 => h9) rfl dX3_wanted_41 ?_
    refine lv_iload_n hx hb dX3_wanted_44 rfl (lv_at hl 6 rfl) ?_
    refine va_iald hx hb hK hP 2 0 rfl rfl g1 dX3_wanted_45 ?_
    refine lv_iload hx hb dX3_wanted_46 (lv_at hl 0 rfl) ?_
    refine lv_ishr hx hb dX3_wanted_48 ?_
    refine lv_iload hx hb dX3_wanted_49 (lv_at hl 0 rfl) ?_
    refine lv_ishl hx hb dX3_wanted_51 ?_
    obtain ⟨x4, ex4, hf⟩ := lt_some hf
    refine lv_nm ex4 ?_
    refine lv_istore (lv' := [(7, .int x4), (6, .int (4 * (3 - ((((o1.2.2.1 (p2).toNatClampNeg) + 1) / 2) - 1)))), (5, .int ((((o1.2.2.1 (p2).toNatClampNeg) + 1) / 2) - 1)), (4, .int (o1.2.2.1 (p2).toNatClampNeg)), (0, .ref (a0 0)), (1, .ref (a1 0)), (2, .int p2), (3, .int p3)]) hx hb dX3_wanted_52 hl (by decide) rfl (fun ls hl => ?_)
    refine lv_iload hx hb dX3_wanted_54 (lv_at hl 3 rfl) ?_
    refine lv_iconst (v := 2) hx hb dX3_wanted_56 (by decide) ?_
    refine lv_irem hx hb dX3_wanted_57 (by decide) ?_
    refine lv_if_ne (tgt := 64) hx hb dX3_wanted_58 (by decide) (fun c5 => ?_) (fun c5 => ?_)
    · have hf := if_f hf c5
      refine lv_iload hx hb dX3_wanted_64 (lv_at hl 2 rfl) ?_
      refine lv_istore (lv' := [(8, .int ((((o1.2.2.1 (p2).toNatClampNeg) + 1) / 2) - 1)), (7, .int x4), (6, .int (4 * (3 - ((((o1.2.2.1 (p2).toNatClampNeg) + 1) / 2) - 1)))), (5, .int ((((o1.2.2.1 (p2).toNatClampNeg) + 1) / 2) - 1)), (4, .int (o1.2.2.1 (p2).toNatClampNeg)), (0, .ref (a0 0)), (1, .ref (a1 0)), (2, .int p2), (3, .int p3)]) hx hb dX3_wanted_66 hl (by decide) rfl (fun ls hl => ?_)
      have L6 : ∀ (k : Nat) (v_l6_L6 : Int32) (v_l7_L6 : Int32) (v_l8_L6 : Int32), f_X3_wanted_L68 o0 k v_l6_L6 v_l7_L6 v_l8_L6 = some r → ∀ (H : Heap) (locs : List Loc), va_P D vwCl ((w_E a0 cI o0 ++ w_G a1 cI o1) ++ R) H → va_D A ((w_E a0 cI o0 ++ w_G a1 cI o1) ++ R) → va_S A s.heap H locs → ∀ ls : Array Slot, lv_has ls 10 [(0, .ref (a0 0)), (6, .int v_l6_L6), (7, .int v_l7_L6), (8, .int v_l8_L6)] → W p l e (xR 0 0) s m args below meth c H locs 0 0 Q (F0 m 68 ls []) := by
        intro k
        induction k with
        | zero => intro v_l6_L6 v_l7_L6 v_l8_L6 hf; simp [f_X3_wanted_L68] at hf
        | succ k ih =>
          intro v_l6_L6 v_l7_L6 v_l8_L6 hf H locs hP hD hS ls hl
          rw [f_X3_wanted_L68] at hf
          refine lv_iload hx hb dX3_wanted_68 (lv_at hl 3 rfl) ?_
          refine lv_if_lt (tgt := 122) hx hb dX3_wanted_70 (by decide) (fun c8 => ?_) (fun c8 => ?_)
          · have hf := if_t hf c8
            refine lv_ldc hx hb hown (hts (.constant RX3 42 (65536)) (List.mem_of_getElem? (i := 2) rfl)) dX3_wanted_122 ?_
            have hf := Option.some.inj hf
            subst hf
            exact hret _ _ _ _ _ dX3_wanted_124 rfl hP hD hS rfl
          · have hf := if_f hf c8
            refine lv_iload hx hb dX3_wanted_73 (lv_at hl 2 rfl) ?_
            refine lv_iload hx hb dX3_wanted_75 (lv_at hl 1 rfl) ?_
            refine lv_ishr hx hb dX3_wanted_77 ?_
            refine lv_bipush (v := 15) hx hb dX3_wanted_78 (by decide) ?_
            refine lv_iand hx hb dX3_wanted_80 ?_
            refine lv_istore (lv' := [(9, .int ((jshr v_l7_L6 v_l6_L6) &&& 15)), (0, .ref (a0 0)), (6, .int v_l6_L6), (7, .int v_l7_L6), (8, .int v_l8_L6)]) hx hb dX3_wanted_81 hl (by decide) rfl (fun ls hl => ?_)
            refine lv_iload hx hb dX3_wanted_83 (lv_at hl 0 rfl) ?_
            refine lv_aload_n hx hb dX3_wanted_85 rfl (lv_at hl 1 rfl) ?_
            refine va_get (D := D) (ci := 3) (v := .ref (a0 1)) (C := RX3) (T := TX3) (N := 3) hx hb hts inw_X3_wanted_3 hown hK hP 0 rfl rfl 0 (by decide) (hts (.fieldLink RX3 11 "RingGames$Measures" "most" "[I") (List.mem_of_getElem? (i := 4) rfl)) (fun _ h9 => h9) rfl dX3_wanted_86 ?_
            refine lv_iload hx hb dX3_wanted_89 (lv_at hl 4 rfl) ?_
            obtain ⟨g9, hf⟩ := vg_some hf
            refine va_iald hx hb hK hP 1 0 rfl rfl g9 dX3_wanted_91 ?_
            refine lv_icmp_ge (tgt := 103) hx hb dX3_wanted_92 (by decide) (fun c10 => ?_) (fun c10 => ?_)
            · have hf := if_t hf c10
              refine lv_iload hx hb dX3_wanted_103 (lv_at hl 3 rfl) ?_
              refine lv_iload hx hb dX3_wanted_105 (lv_at hl 0 rfl) ?_
              refine lv_iload hx hb dX3_wanted_107 (lv_at hl 2 rfl) ?_
              refine lv_ishl hx hb dX3_wanted_109 ?_
              refine lv_isub hx hb dX3_wanted_110 ?_
              refine lv_istore (lv' := [(7, .int (v_l7_L6 - (jshl ((jshr v_l7_L6 v_l6_L6) &&& 15) v_l6_L6))), (9, .int ((jshr v_l7_L6 v_l6_L6) &&& 15)), (0, .ref (a0 0)), (6, .int v_l6_L6), (8, .int v_l8_L6)]) hx hb dX3_wanted_111 hl (by decide) rfl (fun ls hl => ?_)
              refine lv_iinc (v := (v_l6_L6 + 4)) (lv' := [(6, .int (v_l6_L6 + 4)), (7, .int (v_l7_L6 - (jshl ((jshr v_l7_L6 v_l6_L6) &&& 15) v_l6_L6))), (9, .int ((jshr v_l7_L6 v_l6_L6) &&& 15)), (0, .ref (a0 0)), (8, .int v_l8_L6)]) hx hb dX3_wanted_113 hl (k := 3) rfl (congrArg (fun z => v_l6_L6 + z) (by decide)) (by decide) rfl (fun ls hl => ?_)
              refine lv_iinc (v := (v_l8_L6 + (-1))) (lv' := [(8, .int (v_l8_L6 + (-1))), (6, .int (v_l6_L6 + 4)), (7, .int (v_l7_L6 - (jshl ((jshr v_l7_L6 v_l6_L6) &&& 15) v_l6_L6))), (9, .int ((jshr v_l7_L6 v_l6_L6) &&& 15)), (0, .ref (a0 0))]) hx hb dX3_wanted_116 hl (k := 4) rfl (congrArg (fun z => v_l8_L6 + z) (by decide)) (by decide) rfl (fun ls hl => ?_)
              refine lv_goto (tgt := 68) hx hb dX3_wanted_119 (by decide) ?_
              exact ih (v_l6_L6 + 4) (v_l7_L6 - (jshl ((jshr v_l7_L6 v_l6_L6) &&& 15) v_l6_L6)) (v_l8_L6 + (-1)) hf _ _ hP hD hS _ (lv_sub hl [4, 1, 2, 0] rfl)
            · have hf := if_f hf c10
              refine lv_iload hx hb dX3_wanted_95 (lv_at hl 3 rfl) ?_
              refine lv_iconst (v := 1) hx hb dX3_wanted_97 (by decide) ?_
              refine lv_iload hx hb dX3_wanted_98 (lv_at hl 2 rfl) ?_
              refine lv_ishl hx hb dX3_wanted_100 ?_
              refine lv_iadd hx hb dX3_wanted_101 ?_
              have hf := Option.some.inj hf
              subst hf
              exact hret _ _ _ _ _ dX3_wanted_102 rfl hP hD hS rfl
      exact L6 n (4 * (3 - ((((o1.2.2.1 (p2).toNatClampNeg) + 1) / 2) - 1))) x4 ((((o1.2.2.1 (p2).toNatClampNeg) + 1) / 2) - 1) hf _ _ hP hD hS _ (lv_sub hl [5, 2, 1, 0] rfl)
    · have hf := if_t hf c5
      refine lv_iload hx hb dX3_wanted_61 (lv_at hl 0 rfl) ?_
      have hf := Option.some.inj hf
      subst hf
      exact hret _ _ _ _ _ dX3_wanted_63 rfl hP hD hS rfl
  · have hf := if_t hf c2
    refine lv_ldc hx hb hown (hts (.constant RX3 42 (65536)) (List.mem_of_getElem? (i := 2) rfl)) dX3_wanted_11 ?_
    have hf := Option.some.inj hf
    subst hf
    exact hret _ _ _ _ _ dX3_wanted_13 rfl hP hD hS rfl
def f_X3_asked_L30 (n : Nat) (d_o0 : EE) (d_o1 : GG) (d_l2 : Int32) (d_l3 : Int32) : Nat → Int32 → Int32 → Option Int32
  | 0, _, _ => none
  | k + 1, d_l4, d_l5 => (if d_o1.1 ≤ d_l5 then some (d_l4) else vg d_l2 14 ((f_X6_contains (d_o1.2.2.2 (d_l2).toNatClampNeg) d_l5).bind fun q10 => (if q10 = 0 then f_X3_asked_L30 n d_o0 d_o1 d_l2 d_l3 k d_l4 (d_l5 + 1) else (f_X3_wanted n d_o0 d_o1 d_l2 d_l5).bind fun q12 => (if d_l3 = 0 then f_X3_asked_L30 n d_o0 d_o1 d_l2 d_l3 k (if d_l4 < q12 then q12 else d_l4) (d_l5 + 1) else f_X3_asked_L30 n d_o0 d_o1 d_l2 d_l3 k (if q12 < d_l4 then q12 else d_l4) (d_l5 + 1)))))
def f_X3_asked (n : Nat) (o0 : EE) (o1 : GG) (p2 : Int32) : Option Int32 := vg p2 14 (((if (o1.2.1 (p2).toNatClampNeg) = 0 then some (1) else some (0)) : Option Int32).bind fun j3 => ((if j3 = 0 then some (0) else some (65536)) : Option Int32).bind fun j6 => (f_X3_asked_L30 n o0 o1 p2 j3 n j6 0).bind fun q9 => some (q9))
theorem inw_X3_asked_1 : ∀ w ∈ wsX10, w ∈ wsX3_asked := fun _ h => List.mem_cons_of_mem _ (List.mem_append_left _ (List.mem_append_right _ h))
theorem hd_X3_asked : yX3_asked.cls = RX3 ∧ yX3_asked.cls ≠ "java/lang/invoke/MethodHandle" ∧ yX3_asked.cls ≠ "java/lang/invoke/VarHandle" ∧ (parseMethodDescriptor yX3_asked.desc).map (fun d => d.parameters.length) = some 2 := by decide +kernel
set_option maxHeartbeats 4000000 in
set_option maxRecDepth 100000 in
theorem c_X3_asked (l : Launch) (D : va_G) (cI cC cS : ClassId) (R : va_W) (a0 : Nat → Nat) (a1 : Nat → Nat) (o0 : EE) (o1 : GG) (p2 : Int32) (n : Nat) (r : Int32) (hf : f_X3_asked n o0 o1 p2 = some r) : CI l yX3_asked wsX3_asked 1 40 D cI cC cS [.ref (a0 0), .ref (a1 0), .int p2] ((w_E a0 cI o0 ++ w_G a1 cI o1) ++ R) r ((w_E a0 cI o0 ++ w_G a1 cI o1) ++ R) := by
  refine XI.of (cc := cX3_asked) (maxL := 7) (ty := .int) (own := RX3) (by decide) rfl rfl (Nat.le_of_ble_eq_true rfl) ?_
  intro p e s m args below meth c A Q S hK hN hA hP hD hS ls hl hret
  obtain ⟨hx, hb, hml, hown, hts⟩ := id S
  have hl : lv_has ls 7 [(0, .ref (a0 0)), (1, .ref (a1 0)), (2, .int p2)] := hl
  unfold f_X3_asked at hf
  refine lv_aload_n hx hb dX3_asked_0 rfl (lv_at hl 1 rfl) ?_
  refine va_get (D := D) (ci := 1) (v := .ref (a1 1)) (C := RX1) (T := TX1) (N := 4) hx hb hts inw_X3_asked_1 hown hK hP 3 rfl rfl 1 (by decide) (hts (.fieldLink RX3 39 "RingGames$Game" "owners" "[I") (List.mem_of_getElem? (i := 1) rfl)) (fun _ h9 => h9) rfl dX3_asked_1 ?_
  refine lv_iload_n hx hb dX3_asked_4 rfl (lv_at hl 2 rfl) ?_
  obtain ⟨g1, hf⟩ := vg_some hf
  refine va_iald hx hb hK hP 4 0 rfl rfl g1 dX3_asked_5 ?_
  obtain ⟨j3, hj3, hf⟩ := ob_some hf
  have J4 : ∀ (H : Heap) (locs : List Loc), va_P D vwCl ((w_E a0 cI o0 ++ w_G a1 cI o1) ++ R) H → va_D A ((w_E a0 cI o0 ++ w_G a1 cI o1) ++ R) → va_S A s.heap H locs → ∀ ls : Array Slot, lv_has ls 7 [(0, .ref (a0 0)), (1, .ref (a1 0)), (2, .int p2)] → W p l e (xR 1 40) s m args below meth c H locs 0 0 Q (F0 m 14 ls [.int j3]) := by
    intro H locs hP hD hS ls hl
    refine lv_istore_n (lv' := [(3, .int j3), (0, .ref (a0 0)), (1, .ref (a1 0)), (2, .int p2)]) hx hb dX3_asked_14 rfl hl (by decide) rfl (fun ls hl => ?_)
    refine lv_iload_n hx hb dX3_asked_15 rfl (lv_at hl 0 rfl) ?_
    obtain ⟨j6, hj6, hf⟩ := ob_some hf
    have J7 : ∀ (H : Heap) (locs : List Loc), va_P D vwCl ((w_E a0 cI o0 ++ w_G a1 cI o1) ++ R) H → va_D A ((w_E a0 cI o0 ++ w_G a1 cI o1) ++ R) → va_S A s.heap H locs → ∀ ls : Array Slot, lv_has ls 7 [(0, .ref (a0 0)), (1, .ref (a1 0)), (2, .int p2), (3, .int j3)] → W p l e (xR 1 40) s m args below meth c H locs 0 0 Q (F0 m 25 ls [.int j6]) := by
      intro H locs hP hD hS ls hl
      refine lv_istore (lv' := [(4, .int j6), (0, .ref (a0 0)), (1, .ref (a1 0)), (2, .int p2), (3, .int j3)]) hx hb dX3_asked_25 hl (by decide) rfl (fun ls hl => ?_)
      refine lv_iconst (v := 0) hx hb dX3_asked_27 (by decide) ?_
      refine lv_istore (lv' := [(5, .int 0), (4, .int j6), (0, .ref (a0 0)), (1, .ref (a1 0)), (2, .int p2), (3, .int j3)]) hx hb dX3_asked_28 hl (by decide) rfl (fun ls hl => ?_)
      obtain ⟨q9, hq9, hf⟩ := ob_some hf
      have L8 : ∀ (k : Nat) (v_l4_L8 : Int32) (v_l5_L8 : Int32) (q_L8 : Int32), f_X3_asked_L30 n o0 o1 p2 j3 k v_l4_L8 v_l5_L8 = some q_L8 → ∀ (H : Heap) (locs : List Loc), va_P D vwCl ((w_E a0 cI o0 ++ w_G a1 cI o1) ++ R) H → va_D A ((w_E a0 cI o0 ++ w_G a1 cI o1) ++ R) → va_S A s.heap H locs → ∀ ls : Array Slot, lv_has ls 7 [(0, .ref (a0 0)), (1, .ref (a1 0)), (2, .int p2), (3, .int j3), (4, .int v_l4_L8), (5, .int v_l5_L8)] → (∀ (H : Heap) (locs : List Loc), va_P D vwCl ((w_E a0 cI o0 ++ w_G a1 cI o1) ++ R) H → va_D A ((w_E a0 cI o0 ++ w_G a1 cI o1) ++ R) → va_S A s.heap H locs → ∀ ls : Array Slot, lv_has ls 7 [(4, .int q_L8)] → W p l e (xR 1 40) s m args below meth c H locs 0 0 Q (F0 m 92 ls [])) → W p l e (xR 1 40) s m args below meth c H locs 0 0 Q (F0 m 30 ls []) := by
        intro k
        induction k with
        | zero => intro v_l4_L8 v_l5_L8 q_L8 hf; simp [f_X3_asked_L30] at hf
        | succ k ih =>
          intro v_l4_L8 v_l5_L8 q_L8 hf H locs hP hD hS ls hl kx
          rw [f_X3_asked_L30] at hf
          refine lv_iload hx hb dX3_asked_30 (lv_at hl 5 rfl) ?_
          refine lv_aload_n hx hb dX3_asked_32 rfl (lv_at hl 1 rfl) ?_
          refine va_get (D := D) (ci := 1) (v := .int o1.1) (C := RX1) (T := TX1) (N := 4) hx hb hts inw_X3_asked_1 hown hK hP 3 rfl rfl 0 (by decide) (hts (.fieldLink RX3 18 "RingGames$Game" "size" "I") (List.mem_of_getElem? (i := 3) rfl)) (fun _ h9 => h9) rfl dX3_asked_33 ?_
          refine lv_icmp_ge (tgt := 92) hx hb dX3_asked_36 (by decide) (fun c10 => ?_) (fun c10 => ?_)
          · have hf := if_t hf c10
            have hf := Option.some.inj hf
            subst hf
            exact kx _ _ hP hD hS _ (lv_sub hl [4] rfl)
          · have hf := if_f hf c10
            refine lv_aload_n hx hb dX3_asked_39 rfl (lv_at hl 1 rfl) ?_
            refine va_get (D := D) (ci := 1) (v := .ref (a1 3)) (C := RX1) (T := TX1) (N := 4) hx hb hts inw_X3_asked_1 hown hK hP 3 rfl rfl 3 (by decide) (hts (.fieldLink RX3 43 "RingGames$Game" "arrows" "[I") (List.mem_of_getElem? (i := 4) rfl)) (fun _ h9 => h9) rfl dX3_asked_40 ?_
            refine lv_iload_n hx hb dX3_asked_43 rfl (lv_at hl 2 rfl) ?_
            obtain ⟨g11, hf⟩ := vg_some hf
            refine va_iald hx hb hK hP 6 0 rfl rfl g11 dX3_asked_44 ?_
            refine lv_iload hx hb dX3_asked_45 (lv_at hl 5 rfl) ?_
            obtain ⟨q12, hq12, hf⟩ := ob_some hf
            refine xcNi S hK hN hA hP hD hS (c_X6_contains l D cI cC cS ((w_E a0 cI o0 ++ w_G a1 cI o1) ++ R) (o1.2.2.2 (p2).toNatClampNeg) v_l5_L8 _ hq12) 9 rfl gX3_asked_X6_contains_n46 (List.mem_of_getElem? (i := 12) rfl) (List.mem_of_getElem? (i := 13) rfl) rfl hd_X6_contains ⟨by decide, by decide⟩ rfl hl.1 rfl (Nat.le_of_ble_eq_true rfl) dX3_asked_47 ⟨Nat.zero_le _, Nat.zero_le _⟩ (fun H locs hP hD hS => ?_)
            refine lv_if_eq (tgt := 86) hx hb dX3_asked_50 (by decide) (fun c13 => ?_) (fun c13 => ?_)
            · have hf := if_t hf c13
              refine lv_iinc (v := (v_l5_L8 + 1)) (lv' := [(5, .int (v_l5_L8 + 1)), (0, .ref (a0 0)), (1, .ref (a1 0)), (2, .int p2), (3, .int j3), (4, .int v_l4_L8)]) hx hb dX3_asked_86 hl (k := 5) rfl (congrArg (fun z => v_l5_L8 + z) (by decide)) (by decide) rfl (fun ls hl => ?_)
              refine lv_goto (tgt := 30) hx hb dX3_asked_89 (by decide) ?_
              exact ih v_l4_L8 (v_l5_L8 + 1) _ hf _ _ hP hD hS _ (lv_sub hl [1, 2, 3, 4, 5, 0] rfl) kx
            · have hf := if_f hf c13
              refine lv_aload_n hx hb dX3_asked_53 rfl (lv_at hl 0 rfl) ?_
              refine lv_aload_n hx hb dX3_asked_54 rfl (lv_at hl 1 rfl) ?_
              refine lv_iload_n hx hb dX3_asked_55 rfl (lv_at hl 2 rfl) ?_
              refine lv_iload hx hb dX3_asked_56 (lv_at hl 5 rfl) ?_
              obtain ⟨q14, hq14, hf⟩ := ob_some hf
              refine xcVi (w' := ((w_E a0 cI o0 ++ w_G a1 cI o1) ++ R)) S hK hN hA hP hD hS (c_X3_wanted l D cI cC cS R a0 a1 o0 o1 p2 v_l5_L8 n _ hq14) gX3_asked_X3_wanted rfl hd_X3_wanted ⟨by decide, by decide⟩ (List.Perm.refl _) (List.Perm.refl _) (ci := 3) (q := (RX3, TX3, 3)) rfl rfl rfl rfl hl.1 rfl (Nat.le_of_ble_eq_true rfl) dX3_asked_58 ⟨Nat.zero_le _, Nat.zero_le _⟩ (fun H locs hP hD hS => ?_)
              refine lv_istore (lv' := [(6, .int q14), (0, .ref (a0 0)), (1, .ref (a1 0)), (2, .int p2), (3, .int j3), (4, .int v_l4_L8), (5, .int v_l5_L8)]) hx hb dX3_asked_61 hl (by decide) rfl (fun ls hl => ?_)
              refine lv_iload_n hx hb dX3_asked_63 rfl (lv_at hl 4 rfl) ?_
              refine lv_if_eq (tgt := 77) hx hb dX3_asked_64 (by decide) (fun c15 => ?_) (fun c15 => ?_)
              · have hf := if_t hf c15
                refine lv_iload hx hb dX3_asked_77 (lv_at hl 5 rfl) ?_
                refine lv_iload hx hb dX3_asked_79 (lv_at hl 0 rfl) ?_
                refine va_mmax hx hb (hml.trans hl.1.symm) hown (hts (.methodLink RX3 60 Lib.Math.max.name) (List.mem_of_getElem? (i := 9) rfl)) (hts (.static Lib.Math.max.name) (List.mem_of_getElem? (i := 10) rfl)) (hts (.initialized "java/lang/Math") (List.mem_of_getElem? (i := 7) rfl)) (hts (.code Lib.Math.max.name Lib.Math.max.code 2 (some .int)) (List.mem_of_getElem? (i := 11) rfl)) (by decide) (Nat.le_of_ble_eq_true rfl) (Nat.zero_le _) (Nat.zero_le _) dX3_asked_81 ?_
                refine lv_istore (lv' := [(4, .int (if v_l4_L8 < q14 then q14 else v_l4_L8)), (6, .int q14), (0, .ref (a0 0)), (1, .ref (a1 0)), (2, .int p2), (3, .int j3), (5, .int v_l5_L8)]) hx hb dX3_asked_84 hl (by decide) rfl (fun ls hl => ?_)
                refine lv_iinc (v := (v_l5_L8 + 1)) (lv' := [(5, .int (v_l5_L8 + 1)), (4, .int (if v_l4_L8 < q14 then q14 else v_l4_L8)), (6, .int q14), (0, .ref (a0 0)), (1, .ref (a1 0)), (2, .int p2), (3, .int j3)]) hx hb dX3_asked_86 hl (k := 6) rfl (congrArg (fun z => v_l5_L8 + z) (by decide)) (by decide) rfl (fun ls hl => ?_)
                refine lv_goto (tgt := 30) hx hb dX3_asked_89 (by decide) ?_
                exact ih (if v_l4_L8 < q14 then q14 else v_l4_L8) (v_l5_L8 + 1) _ hf _ _ hP hD hS _ (lv_sub hl [3, 4, 5, 6, 1, 0] rfl) kx
              · have hf := if_f hf c15
                refine lv_iload hx hb dX3_asked_67 (lv_at hl 5 rfl) ?_
                refine lv_iload hx hb dX3_asked_69 (lv_at hl 0 rfl) ?_
                refine va_mmin hx hb (hml.trans hl.1.symm) hown (hts (.methodLink RX3 54 Lib.Math.min.name) (List.mem_of_getElem? (i := 5) rfl)) (hts (.static Lib.Math.min.name) (List.mem_of_getElem? (i := 6) rfl)) (hts (.initialized "java/lang/Math") (List.mem_of_getElem? (i := 7) rfl)) (hts (.code Lib.Math.min.name Lib.Math.min.code 2 (some .int)) (List.mem_of_getElem? (i := 8) rfl)) (by decide) (Nat.le_of_ble_eq_true rfl) (Nat.zero_le _) (Nat.zero_le _) dX3_asked_71 ?_
                refine lv_goto (tgt := 84) hx hb dX3_asked_74 (by decide) ?_
                refine lv_istore (lv' := [(4, .int (if q14 < v_l4_L8 then q14 else v_l4_L8)), (6, .int q14), (0, .ref (a0 0)), (1, .ref (a1 0)), (2, .int p2), (3, .int j3), (5, .int v_l5_L8)]) hx hb dX3_asked_84 hl (by decide) rfl (fun ls hl => ?_)
                refine lv_iinc (v := (v_l5_L8 + 1)) (lv' := [(5, .int (v_l5_L8 + 1)), (4, .int (if q14 < v_l4_L8 then q14 else v_l4_L8)), (6, .int q14), (0, .ref (a0 0)), (1, .ref (a1 0)), (2, .int p2), (3, .int j3)]) hx hb dX3_asked_86 hl (k := 6) rfl (congrArg (fun z => v_l5_L8 + z) (by decide)) (by decide) rfl (fun ls hl => ?_)
                refine lv_goto (tgt := 30) hx hb dX3_asked_89 (by decide) ?_
                exact ih (if q14 < v_l4_L8 then q14 else v_l4_L8) (v_l5_L8 + 1) _ hf _ _ hP hD hS _ (lv_sub hl [3, 4, 5, 6, 1, 0] rfl) kx
      refine L8 n j6 0 q9 hq9 _ _ hP hD hS _ (lv_sub hl [2, 3, 4, 5, 1, 0] rfl) ?_
      clear hP hD hS hl
      intro H locs hP hD hS ls hl
      refine lv_iload hx hb dX3_asked_92 (lv_at hl 0 rfl) ?_
      have hf := Option.some.inj hf
      subst hf
      exact hret _ _ _ _ _ dX3_asked_94 rfl hP hD hS rfl
    clear hf
    have hf := hj6
    refine lv_if_eq (tgt := 24) hx hb dX3_asked_16 (by decide) (fun c5 => ?_) (fun c5 => ?_)
    · have hf := if_t hf c5
      refine lv_iconst (v := 0) hx hb dX3_asked_24 (by decide) ?_
      have hf := Option.some.inj hf
      subst hf
      exact J7 _ _ hP hD hS _ (lv_sub hl [1, 2, 3, 0] rfl)
    · have hf := if_f hf c5
      refine lv_ldc hx hb hown (hts (.constant RX3 42 (65536)) (List.mem_of_getElem? (i := 2) rfl)) dX3_asked_19 ?_
      refine lv_goto (tgt := 25) hx hb dX3_asked_21 (by decide) ?_
      have hf := Option.some.inj hf
      subst hf
      exact J7 _ _ hP hD hS _ (lv_sub hl [1, 2, 3, 0] rfl)
  clear hf
  have hf := hj3
  refine lv_if_ne (tgt := 13) hx hb dX3_asked_6 (by decide) (fun c2 => ?_) (fun c2 => ?_)
  · have hf := if_f hf c2
    refine lv_iconst (v := 0) hx hb dX3_asked_13 (by decide) ?_
    have hf := Option.some.inj hf
    subst hf
    exact J4 _ _ hP hD hS _ (lv_sub hl [0, 1, 2] rfl)
  · have hf := if_t hf c2
    refine lv_iconst (v := 1) hx hb dX3_asked_9 (by decide) ?_
    refine lv_goto (tgt := 14) hx hb dX3_asked_10 (by decide) ?_
    have hf := Option.some.inj hf
    subst hf
    exact J4 _ _ hP hD hS _ (lv_sub hl [0, 1, 2] rfl)
def f_X3_raise_L4 (n : Nat) (d_o1 : GG) : Nat → Int32 → Int32 → EE → Option (Int32 × EE)
  | 0, _, _, _ => none
  | k + 1, d_l2, d_l3, d_o0 => (if d_o1.1 ≤ d_l3 then some (d_l2, d_o0) else (f_X3_asked n d_o0 d_o1 d_l3).bind fun q2 => vg d_l3 14 ((if q2 ≤ (d_o0.2.1 (d_l3).toNatClampNeg) then f_X3_raise_L4 n d_o1 k d_l2 (d_l3 + 1) d_o0 else f_X3_raise_L4 n d_o1 k 1 (d_l3 + 1) (d_o0.1, (upd d_o0.2.1 (d_l3).toNatClampNeg q2), d_o0.2.2))))
def f_X3_raise (n : Nat) (o0 : EE) (o1 : GG) : Option (Int32 × EE) := (f_X3_raise_L4 n o1 n 0 0 o0).bind fun q2 => zg q2.1 (some (q2.1, q2.2))
theorem inw_X3_raise_1 : ∀ w ∈ wsX10, w ∈ wsX3_raise := fun _ h => List.mem_cons_of_mem _ (List.mem_append_left _ (List.mem_append_right _ h))
theorem inw_X3_raise_3 : ∀ w ∈ wsX30, w ∈ wsX3_raise := fun _ h => List.mem_cons_of_mem _ (List.mem_append_right _ h)
theorem hd_X3_raise : yX3_raise.cls = RX3 ∧ yX3_raise.cls ≠ "java/lang/invoke/MethodHandle" ∧ yX3_raise.cls ≠ "java/lang/invoke/VarHandle" ∧ (parseMethodDescriptor yX3_raise.desc).map (fun d => d.parameters.length) = some 1 := by decide +kernel
set_option maxHeartbeats 4000000 in
set_option maxRecDepth 100000 in
theorem c_X3_raise (l : Launch) (D : va_G) (cI cC cS : ClassId) (R : va_W) (a0 : Nat → Nat) (a1 : Nat → Nat) (o0 : EE) (o1 : GG) (n : Nat) (r : Int32 × EE) (hf : f_X3_raise n o0 o1 = some r) : CI l yX3_raise wsX3_raise 2 66 D cI cC cS [.ref (a0 0), .ref (a1 0)] ((w_E a0 cI o0 ++ w_G a1 cI o1) ++ R) r.1 ((w_E a0 cI r.2 ++ w_G a1 cI o1) ++ R) := by
  refine XI.of (cc := cX3_raise) (maxL := 5) (ty := .boolean) (own := RX3) (by decide) rfl rfl (Nat.le_of_ble_eq_true rfl) ?_
  intro p e s m args below meth c A Q S hK hN hA hP hD hS ls hl hret
  obtain ⟨hx, hb, hml, hown, hts⟩ := id S
  have hl : lv_has ls 5 [(0, .ref (a0 0)), (1, .ref (a1 0))] := hl
  unfold f_X3_raise at hf
  refine lv_iconst (v := 0) hx hb dX3_raise_0 (by decide) ?_
  refine lv_istore_n (lv' := [(2, .int 0), (0, .ref (a0 0)), (1, .ref (a1 0))]) hx hb dX3_raise_1 rfl hl (by decide) rfl (fun ls hl => ?_)
  refine lv_iconst (v := 0) hx hb dX3_raise_2 (by decide) ?_
  refine lv_istore_n (lv' := [(3, .int 0), (2, .int 0), (0, .ref (a0 0)), (1, .ref (a1 0))]) hx hb dX3_raise_3 rfl hl (by decide) rfl (fun ls hl => ?_)
  obtain ⟨q2, hq2, hf⟩ := ob_some hf
  have L1 : ∀ (k : Nat) (v_l2_L1 : Int32) (v_l3_L1 : Int32) (v_o0_L1 : EE) (q_L1 : Int32 × EE), f_X3_raise_L4 n o1 k v_l2_L1 v_l3_L1 v_o0_L1 = some q_L1 → ∀ (H : Heap) (locs : List Loc), va_P D vwCl ((w_E a0 cI v_o0_L1 ++ w_G a1 cI o1) ++ R) H → va_D A ((w_E a0 cI v_o0_L1 ++ w_G a1 cI o1) ++ R) → va_S A s.heap H locs → ∀ ls : Array Slot, lv_has ls 5 [(0, .ref (a0 0)), (1, .ref (a1 0)), (2, .int v_l2_L1), (3, .int v_l3_L1)] → (∀ (H : Heap) (locs : List Loc), va_P D vwCl ((w_E a0 cI q_L1.2 ++ w_G a1 cI o1) ++ R) H → va_D A ((w_E a0 cI q_L1.2 ++ w_G a1 cI o1) ++ R) → va_S A s.heap H locs → ∀ ls : Array Slot, lv_has ls 5 [(2, .int q_L1.1)] → W p l e (xR 2 66) s m args below meth c H locs 0 0 Q (F0 m 47 ls [])) → W p l e (xR 2 66) s m args below meth c H locs 0 0 Q (F0 m 4 ls []) := by
    intro k
    induction k with
    | zero => intro v_l2_L1 v_l3_L1 v_o0_L1 q_L1 hf; simp [f_X3_raise_L4] at hf
    | succ k ih =>
      intro v_l2_L1 v_l3_L1 v_o0_L1 q_L1 hf H locs hP hD hS ls hl kx
      rw [f_X3_raise_L4] at hf
      refine lv_iload_n hx hb dX3_raise_4 rfl (lv_at hl 3 rfl) ?_
      refine lv_aload_n hx hb dX3_raise_5 rfl (lv_at hl 1 rfl) ?_
      refine va_get (D := D) (ci := 1) (v := .int o1.1) (C := RX1) (T := TX1) (N := 4) hx hb hts inw_X3_raise_1 hown hK hP 3 rfl rfl 0 (by decide) (hts (.fieldLink RX3 18 "RingGames$Game" "size" "I") (List.mem_of_getElem? (i := 1) rfl)) (fun _ h9 => h9) rfl dX3_raise_6 ?_
      refine lv_icmp_ge (tgt := 47) hx hb dX3_raise_9 (by decide) (fun c3 => ?_) (fun c3 => ?_)
      · have hf := if_t hf c3
        have hf := Option.some.inj hf
        subst hf
        exact kx _ _ hP hD hS _ (lv_sub hl [2] rfl)
      · have hf := if_f hf c3
        refine lv_aload_n hx hb dX3_raise_12 rfl (lv_at hl 0 rfl) ?_
        refine lv_aload_n hx hb dX3_raise_13 rfl (lv_at hl 1 rfl) ?_
        refine lv_iload_n hx hb dX3_raise_14 rfl (lv_at hl 3 rfl) ?_
        obtain ⟨q4, hq4, hf⟩ := ob_some hf
        refine xcVi (w' := ((w_E a0 cI v_o0_L1 ++ w_G a1 cI o1) ++ R)) S hK hN hA hP hD hS (c_X3_asked l D cI cC cS R a0 a1 v_o0_L1 o1 v_l3_L1 n _ hq4) gX3_raise_X3_asked rfl hd_X3_asked ⟨by decide, by decide⟩ (List.Perm.refl _) (List.Perm.refl _) (ci := 3) (q := (RX3, TX3, 3)) rfl rfl rfl rfl hl.1 rfl (Nat.le_of_ble_eq_true rfl) dX3_raise_15 ⟨Nat.zero_le _, Nat.zero_le _⟩ (fun H locs hP hD hS => ?_)
        refine lv_istore (lv' := [(4, .int q4), (0, .ref (a0 0)), (1, .ref (a1 0)), (2, .int v_l2_L1), (3, .int v_l3_L1)]) hx hb dX3_raise_18 hl (by decide) rfl (fun ls hl => ?_)
        refine lv_aload_n hx hb dX3_raise_20 rfl (lv_at hl 1 rfl) ?_
        refine va_get (D := D) (ci := 3) (v := .ref (a0 2)) (C := RX3) (T := TX3) (N := 3) hx hb hts inw_X3_raise_3 hown hK hP 0 rfl rfl 1 (by decide) (hts (.fieldLink RX3 15 "RingGames$Measures" "found" "[I") (List.mem_of_getElem? (i := 2) rfl)) (fun _ h9 => h9) rfl dX3_raise_21 ?_
        refine lv_iload_n hx hb dX3_raise_24 rfl (lv_at hl 4 rfl) ?_
        obtain ⟨g5, hf⟩ := vg_some hf
        refine va_iald hx hb hK hP 2 0 rfl rfl g5 dX3_raise_25 ?_
        refine lv_iload hx hb dX3_raise_26 (lv_at hl 0 rfl) ?_
        refine lv_icmp_ge (tgt := 41) hx hb dX3_raise_28 (by decide) (fun c6 => ?_) (fun c6 => ?_)
        · have hf := if_t hf c6
          refine lv_iinc (v := (v_l3_L1 + 1)) (lv' := [(3, .int (v_l3_L1 + 1)), (4, .int q4), (0, .ref (a0 0)), (1, .ref (a1 0)), (2, .int v_l2_L1)]) hx hb dX3_raise_41 hl (k := 4) rfl (congrArg (fun z => v_l3_L1 + z) (by decide)) (by decide) rfl (fun ls hl => ?_)
          refine lv_goto (tgt := 4) hx hb dX3_raise_44 (by decide) ?_
          exact ih v_l2_L1 (v_l3_L1 + 1) v_o0_L1 _ hf _ _ hP hD hS _ (lv_sub hl [2, 3, 4, 0] rfl) kx
        · have hf := if_f hf c6
          refine lv_aload_n hx hb dX3_raise_31 rfl (lv_at hl 1 rfl) ?_
          refine va_get (D := D) (ci := 3) (v := .ref (a0 2)) (C := RX3) (T := TX3) (N := 3) hx hb hts inw_X3_raise_3 hown hK hP 0 rfl rfl 1 (by decide) (hts (.fieldLink RX3 15 "RingGames$Measures" "found" "[I") (List.mem_of_getElem? (i := 2) rfl)) (fun _ h9 => h9) rfl dX3_raise_32 ?_
          refine lv_iload_n hx hb dX3_raise_35 rfl (lv_at hl 4 rfl) ?_
          refine lv_iload hx hb dX3_raise_36 (lv_at hl 0 rfl) ?_
          refine va_iast hx hb hK hP hD hS 2 0 rfl rfl g5 dX3_raise_38 (fun H locs hP hD hS => ?_)
          have hP : va_P D vwCl ((w_E a0 cI (v_o0_L1.1, (upd v_o0_L1.2.1 (v_l3_L1).toNatClampNeg q4), v_o0_L1.2.2) ++ w_G a1 cI o1) ++ R) H := hP
          have hD : va_D A ((w_E a0 cI (v_o0_L1.1, (upd v_o0_L1.2.1 (v_l3_L1).toNatClampNeg q4), v_o0_L1.2.2) ++ w_G a1 cI o1) ++ R) := hD
          refine lv_iconst (v := 1) hx hb dX3_raise_39 (by decide) ?_
          refine lv_istore_n (lv' := [(2, .int 1), (4, .int q4), (0, .ref (a0 0)), (1, .ref (a1 0)), (3, .int v_l3_L1)]) hx hb dX3_raise_40 rfl hl (by decide) rfl (fun ls hl => ?_)
          refine lv_iinc (v := (v_l3_L1 + 1)) (lv' := [(3, .int (v_l3_L1 + 1)), (2, .int 1), (4, .int q4), (0, .ref (a0 0)), (1, .ref (a1 0))]) hx hb dX3_raise_41 hl (k := 4) rfl (congrArg (fun z => v_l3_L1 + z) (by decide)) (by decide) rfl (fun ls hl => ?_)
          refine lv_goto (tgt := 4) hx hb dX3_raise_44 (by decide) ?_
          exact ih 1 (v_l3_L1 + 1) (v_o0_L1.1, (upd v_o0_L1.2.1 (v_l3_L1).toNatClampNeg q4), v_o0_L1.2.2) _ hf _ _ hP hD hS _ (lv_sub hl [3, 4, 1, 0] rfl) kx
  refine L1 n 0 0 o0 q2 hq2 _ _ hP hD hS _ (lv_sub hl [2, 3, 1, 0] rfl) ?_
  clear hP hD hS hl
  intro H locs hP hD hS ls hl
  refine lv_iload_n hx hb dX3_raise_47 rfl (lv_at hl 0 rfl) ?_
  obtain ⟨z7, hf⟩ := zg_some hf
  have hf := Option.some.inj hf
  subst hf
  exact hret _ _ _ _ _ dX3_raise_48 (z_nar z7) hP hD hS rfl
def f_X3_find_L2 : Nat → Int32 → EE → Option EE
  | 0, _, _ => none
  | k + 1, d_l2, d_o0 => (if 4 ≤ d_l2 then some (d_o0) else vg d_l2 4 (f_X3_find_L2 k (d_l2 + 1) ((upd d_o0.1 (d_l2).toNatClampNeg 0), d_o0.2.1, d_o0.2.2)))
def f_X3_find_L22 (d_o1 : GG) : Nat → Int32 → EE → Option EE
  | 0, _, _ => none
  | k + 1, d_l2, d_o0 => (if d_o1.1 ≤ d_l2 then some (d_o0) else vg d_l2 14 ((if (jrem (d_o1.2.2.1 (d_l2).toNatClampNeg) 2) = 1 then vg ((d_o1.2.2.1 (d_l2).toNatClampNeg) / 2) 4 (f_X3_find_L22 d_o1 k (d_l2 + 1) ((upd d_o0.1 (((d_o1.2.2.1 (d_l2).toNatClampNeg) / 2)).toNatClampNeg ((d_o0.1 (((d_o1.2.2.1 (d_l2).toNatClampNeg) / 2)).toNatClampNeg) + 1)), (upd d_o0.2.1 (d_l2).toNatClampNeg 0), d_o0.2.2)) else f_X3_find_L22 d_o1 k (d_l2 + 1) (d_o0.1, (upd d_o0.2.1 (d_l2).toNatClampNeg 0), d_o0.2.2))))
def f_X3_find_L77 (n : Nat) (d_o1 : GG) : Nat → EE → Option EE
  | 0, _ => none
  | k + 1, d_o0 => (if 1000000 ≤ d_o0.2.2 then some (d_o0) else (f_X3_raise n d_o0 d_o1).bind fun q12 => (if q12.1 = 0 then some (q12.2) else f_X3_find_L77 n d_o1 k (q12.2.1, q12.2.2.1, (q12.2.2.2 + 1))))
def f_X3_find (n : Nat) (o0 : EE) (o1 : GG) : Option EE := (f_X3_find_L2 n 0 o0).bind fun q2 => (f_X3_find_L22 o1 n 0 q2).bind fun q6 => (f_X3_find_L77 n o1 n (q6.1, q6.2.1, 1)).bind fun q12 => some (q12)
theorem inw_X3_find_1 : ∀ w ∈ wsX10, w ∈ wsX3_find := fun _ h => List.mem_cons_of_mem _ (List.mem_append_right _ h)
theorem inw_X3_find_3 : ∀ w ∈ wsX30, w ∈ wsX3_find := fun _ h => List.mem_cons_of_mem _ (List.mem_append_left _ (List.mem_append_right _ h))
theorem hd_X3_find : yX3_find.cls = RX3 ∧ yX3_find.cls ≠ "java/lang/invoke/MethodHandle" ∧ yX3_find.cls ≠ "java/lang/invoke/VarHandle" ∧ (parseMethodDescriptor yX3_find.desc).map (fun d => d.parameters.length) = some 1 := by decide +kernel
set_option maxHeartbeats 4000000 in
set_option maxRecDepth 100000 in
theorem c_X3_find (l : Launch) (D : va_G) (cI cC cS : ClassId) (R : va_W) (a0 : Nat → Nat) (a1 : Nat → Nat) (o0 : EE) (o1 : GG) (n : Nat) (r : EE) (hf : f_X3_find n o0 o1 = some r) : CV l yX3_find wsX3_find 3 90 D cI cC cS [.ref (a0 0), .ref (a1 0)] ((w_E a0 cI o0 ++ w_G a1 cI o1) ++ R) ((w_E a0 cI r ++ w_G a1 cI o1) ++ R) := by
  refine XV.of (cc := cX3_find) (maxL := 3) (own := RX3) (by decide) rfl rfl (Nat.le_of_ble_eq_true rfl) ?_
  intro p e s m args below meth c A Q S hK hN hA hP hD hS ls hl hret
  obtain ⟨hx, hb, hml, hown, hts⟩ := id S
  have hl : lv_has ls 3 [(0, .ref (a0 0)), (1, .ref (a1 0))] := hl
  unfold f_X3_find at hf
  refine lv_iconst (v := 0) hx hb dX3_find_0 (by decide) ?_
  refine lv_istore_n (lv' := [(2, .int 0), (0, .ref (a0 0)), (1, .ref (a1 0))]) hx hb dX3_find_1 rfl hl (by decide) rfl (fun ls hl => ?_)
  obtain ⟨q2, hq2, hf⟩ := ob_some hf
  have L1 : ∀ (k : Nat) (v_l2_L1 : Int32) (v_o0_L1 : EE) (q_L1 : EE), f_X3_find_L2 k v_l2_L1 v_o0_L1 = some q_L1 → ∀ (H : Heap) (locs : List Loc), va_P D vwCl ((w_E a0 cI v_o0_L1 ++ w_G a1 cI o1) ++ R) H → va_D A ((w_E a0 cI v_o0_L1 ++ w_G a1 cI o1) ++ R) → va_S A s.heap H locs → ∀ ls : Array Slot, lv_has ls 3 [(0, .ref (a0 0)), (1, .ref (a1 0)), (2, .int v_l2_L1)] → (∀ (H : Heap) (locs : List Loc), va_P D vwCl ((w_E a0 cI q_L1 ++ w_G a1 cI o1) ++ R) H → va_D A ((w_E a0 cI q_L1 ++ w_G a1 cI o1) ++ R) → va_S A s.heap H locs → ∀ ls : Array Slot, lv_has ls 3 [(0, .ref (a0 0)), (1, .ref (a1 0))] → W p l e (xR 3 90) s m args below meth c H locs 0 0 Q (F0 m 20 ls [])) → W p l e (xR 3 90) s m args below meth c H locs 0 0 Q (F0 m 2 ls []) := by
    intro k
    induction k with
    | zero => intro v_l2_L1 v_o0_L1 q_L1 hf; simp [f_X3_find_L2] at hf
    | succ k ih =>
      intro v_l2_L1 v_o0_L1 q_L1 hf H locs hP hD hS ls hl kx
      rw [f_X3_find_L2] at hf
      refine lv_iload_n hx hb dX3_find_2 rfl (lv_at hl 2 rfl) ?_
      refine lv_iconst (v := 4) hx hb dX3_find_3 (by decide) ?_
      refine lv_icmp_ge (tgt := 20) hx hb dX3_find_4 (by decide) (fun c3 => ?_) (fun c3 => ?_)
      · have hf := if_t hf c3
        have hf := Option.some.inj hf
        subst hf
        exact kx _ _ hP hD hS _ (lv_sub hl [0, 1] rfl)
      · have hf := if_f hf c3
        refine lv_aload_n hx hb dX3_find_7 rfl (lv_at hl 0 rfl) ?_
        refine va_get (D := D) (ci := 3) (v := .ref (a0 1)) (C := RX3) (T := TX3) (N := 3) hx hb hts inw_X3_find_3 hown hK hP 0 rfl rfl 0 (by decide) (hts (.fieldLink RX3 11 "RingGames$Measures" "most" "[I") (List.mem_of_getElem? (i := 1) rfl)) (fun _ h9 => h9) rfl dX3_find_8 ?_
        refine lv_iload_n hx hb dX3_find_11 rfl (lv_at hl 2 rfl) ?_
        refine lv_iconst (v := 0) hx hb dX3_find_12 (by decide) ?_
        obtain ⟨g4, hf⟩ := vg_some hf
        refine va_iast hx hb hK hP hD hS 1 0 rfl rfl g4 dX3_find_13 (fun H locs hP hD hS => ?_)
        have hP : va_P D vwCl ((w_E a0 cI ((upd v_o0_L1.1 (v_l2_L1).toNatClampNeg 0), v_o0_L1.2.1, v_o0_L1.2.2) ++ w_G a1 cI o1) ++ R) H := hP
        have hD : va_D A ((w_E a0 cI ((upd v_o0_L1.1 (v_l2_L1).toNatClampNeg 0), v_o0_L1.2.1, v_o0_L1.2.2) ++ w_G a1 cI o1) ++ R) := hD
        refine lv_iinc (v := (v_l2_L1 + 1)) (lv' := [(2, .int (v_l2_L1 + 1)), (0, .ref (a0 0)), (1, .ref (a1 0))]) hx hb dX3_find_14 hl (k := 2) rfl (congrArg (fun z => v_l2_L1 + z) (by decide)) (by decide) rfl (fun ls hl => ?_)
        refine lv_goto (tgt := 2) hx hb dX3_find_17 (by decide) ?_
        exact ih (v_l2_L1 + 1) ((upd v_o0_L1.1 (v_l2_L1).toNatClampNeg 0), v_o0_L1.2.1, v_o0_L1.2.2) _ hf _ _ hP hD hS _ (lv_sub hl [1, 2, 0] rfl) kx
  refine L1 n 0 o0 q2 hq2 _ _ hP hD hS _ (lv_sub hl [1, 2, 0] rfl) ?_
  clear hP hD hS hl
  intro H locs hP hD hS ls hl
  refine lv_iconst (v := 0) hx hb dX3_find_20 (by decide) ?_
  refine lv_istore_n (lv' := [(2, .int 0), (0, .ref (a0 0)), (1, .ref (a1 0))]) hx hb dX3_find_21 rfl hl (by decide) rfl (fun ls hl => ?_)
  obtain ⟨q6, hq6, hf⟩ := ob_some hf
  have L5 : ∀ (k : Nat) (v_l2_L5 : Int32) (v_o0_L5 : EE) (q_L5 : EE), f_X3_find_L22 o1 k v_l2_L5 v_o0_L5 = some q_L5 → ∀ (H : Heap) (locs : List Loc), va_P D vwCl ((w_E a0 cI v_o0_L5 ++ w_G a1 cI o1) ++ R) H → va_D A ((w_E a0 cI v_o0_L5 ++ w_G a1 cI o1) ++ R) → va_S A s.heap H locs → ∀ ls : Array Slot, lv_has ls 3 [(0, .ref (a0 0)), (1, .ref (a1 0)), (2, .int v_l2_L5)] → (∀ (H : Heap) (locs : List Loc), va_P D vwCl ((w_E a0 cI q_L5 ++ w_G a1 cI o1) ++ R) H → va_D A ((w_E a0 cI q_L5 ++ w_G a1 cI o1) ++ R) → va_S A s.heap H locs → ∀ ls : Array Slot, lv_has ls 3 [(0, .ref (a0 0)), (1, .ref (a1 0))] → W p l e (xR 3 90) s m args below meth c H locs 0 0 Q (F0 m 72 ls [])) → W p l e (xR 3 90) s m args below meth c H locs 0 0 Q (F0 m 22 ls []) := by
    intro k
    induction k with
    | zero => intro v_l2_L5 v_o0_L5 q_L5 hf; simp [f_X3_find_L22] at hf
    | succ k ih =>
      intro v_l2_L5 v_o0_L5 q_L5 hf H locs hP hD hS ls hl kx
      rw [f_X3_find_L22] at hf
      refine lv_iload_n hx hb dX3_find_22 rfl (lv_at hl 2 rfl) ?_
      refine lv_aload_n hx hb dX3_find_23 rfl (lv_at hl 1 rfl) ?_
      refine va_get (D := D) (ci := 1) (v := .int o1.1) (C := RX1) (T := TX1) (N := 4) hx hb hts inw_X3_find_1 hown hK hP 3 rfl rfl 0 (by decide) (hts (.fieldLink RX3 18 "RingGames$Game" "size" "I") (List.mem_of_getElem? (i := 2) rfl)) (fun _ h9 => h9) rfl dX3_find_24 ?_
      refine lv_icmp_ge (tgt := 72) hx hb dX3_find_27 (by decide) (fun c7 => ?_) (fun c7 => ?_)
      · have hf := if_t hf c7
        have hf := Option.some.inj hf
        subst hf
        exact kx _ _ hP hD hS _ (lv_sub hl [0, 1] rfl)
      · have hf := if_f hf c7
        refine lv_aload_n hx hb dX3_find_30 rfl (lv_at hl 0 rfl) ?_
        refine va_get (D := D) (ci := 3) (v := .ref (a0 2)) (C := RX3) (T := TX3) (N := 3) hx hb hts inw_X3_find_3 hown hK hP 0 rfl rfl 1 (by decide) (hts (.fieldLink RX3 15 "RingGames$Measures" "found" "[I") (List.mem_of_getElem? (i := 3) rfl)) (fun _ h9 => h9) rfl dX3_find_31 ?_
        refine lv_iload_n hx hb dX3_find_34 rfl (lv_at hl 2 rfl) ?_
        refine lv_iconst (v := 0) hx hb dX3_find_35 (by decide) ?_
        obtain ⟨g8, hf⟩ := vg_some hf
        refine va_iast hx hb hK hP hD hS 2 0 rfl rfl g8 dX3_find_36 (fun H locs hP hD hS => ?_)
        have hP : va_P D vwCl ((w_E a0 cI (v_o0_L5.1, (upd v_o0_L5.2.1 (v_l2_L5).toNatClampNeg 0), v_o0_L5.2.2) ++ w_G a1 cI o1) ++ R) H := hP
        have hD : va_D A ((w_E a0 cI (v_o0_L5.1, (upd v_o0_L5.2.1 (v_l2_L5).toNatClampNeg 0), v_o0_L5.2.2) ++ w_G a1 cI o1) ++ R) := hD
        refine lv_aload_n hx hb dX3_find_37 rfl (lv_at hl 1 rfl) ?_
        refine va_get (D := D) (ci := 1) (v := .ref (a1 2)) (C := RX1) (T := TX1) (N := 4) hx hb hts inw_X3_find_1 hown hK hP 3 rfl rfl 2 (by decide) (hts (.fieldLink RX3 24 "RingGames$Game" "colours" "[I") (List.mem_of_getElem? (i := 4) rfl)) (fun _ h9 => h9) rfl dX3_find_38 ?_
        refine lv_iload_n hx hb dX3_find_41 rfl (lv_at hl 2 rfl) ?_
        refine va_iald hx hb hK hP 5 0 rfl rfl g8 dX3_find_42 ?_
        refine lv_iconst (v := 2) hx hb dX3_find_43 (by decide) ?_
        refine lv_irem hx hb dX3_find_44 (by decide) ?_
        refine lv_iconst (v := 1) hx hb dX3_find_45 (by decide) ?_
        refine lv_icmp_ne (tgt := 66) hx hb dX3_find_46 (by decide) (fun c9 => ?_) (fun c9 => ?_)
        · have hf := if_f hf c9
          refine lv_iinc (v := (v_l2_L5 + 1)) (lv' := [(2, .int (v_l2_L5 + 1)), (0, .ref (a0 0)), (1, .ref (a1 0))]) hx hb dX3_find_66 hl (k := 2) rfl (congrArg (fun z => v_l2_L5 + z) (by decide)) (by decide) rfl (fun ls hl => ?_)
          refine lv_goto (tgt := 22) hx hb dX3_find_69 (by decide) ?_
          exact ih (v_l2_L5 + 1) (v_o0_L5.1, (upd v_o0_L5.2.1 (v_l2_L5).toNatClampNeg 0), v_o0_L5.2.2) _ hf _ _ hP hD hS _ (lv_sub hl [1, 2, 0] rfl) kx
        · have hf := if_t hf c9
          refine lv_aload_n hx hb dX3_find_49 rfl (lv_at hl 0 rfl) ?_
          refine va_get (D := D) (ci := 3) (v := .ref (a0 1)) (C := RX3) (T := TX3) (N := 3) hx hb hts inw_X3_find_3 hown hK hP 0 rfl rfl 0 (by decide) (hts (.fieldLink RX3 11 "RingGames$Measures" "most" "[I") (List.mem_of_getElem? (i := 1) rfl)) (fun _ h9 => h9) rfl dX3_find_50 ?_
          refine lv_aload_n hx hb dX3_find_53 rfl (lv_at hl 1 rfl) ?_
          refine va_get (D := D) (ci := 1) (v := .ref (a1 2)) (C := RX1) (T := TX1) (N := 4) hx hb hts inw_X3_find_1 hown hK hP 3 rfl rfl 2 (by decide) (hts (.fieldLink RX3 24 "RingGames$Game" "colours" "[I") (List.mem_of_getElem? (i := 4) rfl)) (fun _ h9 => h9) rfl dX3_find_54 ?_
          refine lv_iload_n hx hb dX3_find_57 rfl (lv_at hl 2 rfl) ?_
          refine va_iald hx hb hK hP 5 0 rfl rfl g8 dX3_find_58 ?_
          refine lv_iconst (v := 2) hx hb dX3_find_59 (by decide) ?_
          refine lv_idiv hx hb dX3_find_60 (by decide) ?_
          refine lv_dup2_11 hx hb dX3_find_61 rfl rfl ?_
          obtain ⟨g10, hf⟩ := vg_some hf
          refine va_iald hx hb hK hP 1 0 rfl rfl g10 dX3_find_62 ?_
          refine lv_iconst (v := 1) hx hb dX3_find_63 (by decide) ?_
          refine lv_iadd hx hb dX3_find_64 ?_
          refine va_iast hx hb hK hP hD hS 1 0 rfl rfl g10 dX3_find_65 (fun H locs hP hD hS => ?_)
          have hP : va_P D vwCl ((w_E a0 cI ((upd v_o0_L5.1 (((o1.2.2.1 (v_l2_L5).toNatClampNeg) / 2)).toNatClampNeg ((v_o0_L5.1 (((o1.2.2.1 (v_l2_L5).toNatClampNeg) / 2)).toNatClampNeg) + 1)), (upd v_o0_L5.2.1 (v_l2_L5).toNatClampNeg 0), v_o0_L5.2.2) ++ w_G a1 cI o1) ++ R) H := hP
          have hD : va_D A ((w_E a0 cI ((upd v_o0_L5.1 (((o1.2.2.1 (v_l2_L5).toNatClampNeg) / 2)).toNatClampNeg ((v_o0_L5.1 (((o1.2.2.1 (v_l2_L5).toNatClampNeg) / 2)).toNatClampNeg) + 1)), (upd v_o0_L5.2.1 (v_l2_L5).toNatClampNeg 0), v_o0_L5.2.2) ++ w_G a1 cI o1) ++ R) := hD
          refine lv_iinc (v := (v_l2_L5 + 1)) (lv' := [(2, .int (v_l2_L5 + 1)), (0, .ref (a0 0)), (1, .ref (a1 0))]) hx hb dX3_find_66 hl (k := 2) rfl (congrArg (fun z => v_l2_L5 + z) (by decide)) (by decide) rfl (fun ls hl => ?_)
          refine lv_goto (tgt := 22) hx hb dX3_find_69 (by decide) ?_
          exact ih (v_l2_L5 + 1) ((upd v_o0_L5.1 (((o1.2.2.1 (v_l2_L5).toNatClampNeg) / 2)).toNatClampNeg ((v_o0_L5.1 (((o1.2.2.1 (v_l2_L5).toNatClampNeg) / 2)).toNatClampNeg) + 1)), (upd v_o0_L5.2.1 (v_l2_L5).toNatClampNeg 0), v_o0_L5.2.2) _ hf _ _ hP hD hS _ (lv_sub hl [1, 2, 0] rfl) kx
  refine L5 n 0 q2 q6 hq6 _ _ hP hD hS _ (lv_sub hl [1, 2, 0] rfl) ?_
  clear hP hD hS hl
  intro H locs hP hD hS ls hl
  refine lv_aload_n hx hb dX3_find_72 rfl (lv_at hl 0 rfl) ?_
  refine lv_iconst (v := 1) hx hb dX3_find_73 (by decide) ?_
  refine va_put (D := D) (ci := 3) (v := .int 1) (ty := .int) (C := RX3) (T := TX3) (N := 3) hx hb hts inw_X3_find_3 tyX3 tyX3_ok nmX3 hown hK hP hD hS 0 rfl rfl 2 (by decide) (hts (.fieldLink RX3 27 "RingGames$Measures" "lastRound" "I") (List.mem_of_getElem? (i := 5) rfl)) (fun _ h9 => h9) rfl (tyX3_ok 2 (by decide)) rfl rfl (Nat.le_of_ble_eq_true rfl) dX3_find_74 (fun H locs hP hD hS => ?_)
  have hP : va_P D vwCl ((w_E a0 cI (q6.1, q6.2.1, 1) ++ w_G a1 cI o1) ++ R) H := hP
  have hD : va_D A ((w_E a0 cI (q6.1, q6.2.1, 1) ++ w_G a1 cI o1) ++ R) := hD
  obtain ⟨q12, hq12, hf⟩ := ob_some hf
  have L11 : ∀ (k : Nat) (v_o0_L11 : EE) (q_L11 : EE), f_X3_find_L77 n o1 k v_o0_L11 = some q_L11 → ∀ (H : Heap) (locs : List Loc), va_P D vwCl ((w_E a0 cI v_o0_L11 ++ w_G a1 cI o1) ++ R) H → va_D A ((w_E a0 cI v_o0_L11 ++ w_G a1 cI o1) ++ R) → va_S A s.heap H locs → ∀ ls : Array Slot, lv_has ls 3 [(0, .ref (a0 0)), (1, .ref (a1 0))] → (∀ (H : Heap) (locs : List Loc), va_P D vwCl ((w_E a0 cI q_L11 ++ w_G a1 cI o1) ++ R) H → va_D A ((w_E a0 cI q_L11 ++ w_G a1 cI o1) ++ R) → va_S A s.heap H locs → ∀ ls : Array Slot, lv_has ls 3 [] → W p l e (xR 3 90) s m args below meth c H locs 0 0 Q (F0 m 107 ls [])) → W p l e (xR 3 90) s m args below meth c H locs 0 0 Q (F0 m 77 ls []) := by
    intro k
    induction k with
    | zero => intro v_o0_L11 q_L11 hf; simp [f_X3_find_L77] at hf
    | succ k ih =>
      intro v_o0_L11 q_L11 hf H locs hP hD hS ls hl kx
      rw [f_X3_find_L77] at hf
      refine lv_aload_n hx hb dX3_find_77 rfl (lv_at hl 0 rfl) ?_
      refine va_get (D := D) (ci := 3) (v := .int v_o0_L11.2.2) (C := RX3) (T := TX3) (N := 3) hx hb hts inw_X3_find_3 hown hK hP 0 rfl rfl 2 (by decide) (hts (.fieldLink RX3 27 "RingGames$Measures" "lastRound" "I") (List.mem_of_getElem? (i := 5) rfl)) (fun _ h9 => h9) rfl dX3_find_78 ?_
      refine lv_ldc hx hb hown (hts (.constant RX3 30 (1000000)) (List.mem_of_getElem? (i := 6) rfl)) dX3_find_81 ?_
      refine lv_icmp_ge (tgt := 107) hx hb dX3_find_83 (by decide) (fun c13 => ?_) (fun c13 => ?_)
      · have hf := if_t hf c13
        have hf := Option.some.inj hf
        subst hf
        exact kx _ _ hP hD hS _ (lv_sub hl [] rfl)
      · have hf := if_f hf c13
        refine lv_aload_n hx hb dX3_find_86 rfl (lv_at hl 0 rfl) ?_
        refine lv_aload_n hx hb dX3_find_87 rfl (lv_at hl 1 rfl) ?_
        obtain ⟨q14, hq14, hf⟩ := ob_some hf
        refine xcVi (w' := ((w_E a0 cI q14.2 ++ w_G a1 cI o1) ++ R)) S hK hN hA hP hD hS (c_X3_raise l D cI cC cS R a0 a1 v_o0_L11 o1 n _ hq14) gX3_find_X3_raise rfl hd_X3_raise ⟨by decide, by decide⟩ (List.Perm.refl _) (List.Perm.refl _) (ci := 3) (q := (RX3, TX3, 3)) rfl rfl rfl rfl hl.1 rfl (Nat.le_of_ble_eq_true rfl) dX3_find_88 ⟨Nat.zero_le _, Nat.zero_le _⟩ (fun H locs hP hD hS => ?_)
        refine lv_if_eq (tgt := 107) hx hb dX3_find_91 (by decide) (fun c15 => ?_) (fun c15 => ?_)
        · have hf := if_t hf c15
          have hf := Option.some.inj hf
          subst hf
          exact kx _ _ hP hD hS _ (lv_sub hl [] rfl)
        · have hf := if_f hf c15
          refine lv_aload_n hx hb dX3_find_94 rfl (lv_at hl 0 rfl) ?_
          refine lv_dup hx hb dX3_find_95 rfl ?_
          refine va_get (D := D) (ci := 3) (v := .int q14.2.2.2) (C := RX3) (T := TX3) (N := 3) hx hb hts inw_X3_find_3 hown hK hP 0 rfl rfl 2 (by decide) (hts (.fieldLink RX3 27 "RingGames$Measures" "lastRound" "I") (List.mem_of_getElem? (i := 5) rfl)) (fun _ h9 => h9) rfl dX3_find_96 ?_
          refine lv_iconst (v := 1) hx hb dX3_find_99 (by decide) ?_
          refine lv_iadd hx hb dX3_find_100 ?_
          refine va_put (D := D) (ci := 3) (v := .int (q14.2.2.2 + 1)) (ty := .int) (C := RX3) (T := TX3) (N := 3) hx hb hts inw_X3_find_3 tyX3 tyX3_ok nmX3 hown hK hP hD hS 0 rfl rfl 2 (by decide) (hts (.fieldLink RX3 27 "RingGames$Measures" "lastRound" "I") (List.mem_of_getElem? (i := 5) rfl)) (fun _ h9 => h9) rfl (tyX3_ok 2 (by decide)) rfl rfl (Nat.le_of_ble_eq_true rfl) dX3_find_101 (fun H locs hP hD hS => ?_)
          have hP : va_P D vwCl ((w_E a0 cI (q14.2.1, q14.2.2.1, (q14.2.2.2 + 1)) ++ w_G a1 cI o1) ++ R) H := hP
          have hD : va_D A ((w_E a0 cI (q14.2.1, q14.2.2.1, (q14.2.2.2 + 1)) ++ w_G a1 cI o1) ++ R) := hD
          refine lv_goto (tgt := 77) hx hb dX3_find_104 (by decide) ?_
          exact ih (q14.2.1, q14.2.2.1, (q14.2.2.2 + 1)) _ hf _ _ hP hD hS _ (lv_sub hl [0, 1] rfl) kx
  refine L11 n (q6.1, q6.2.1, 1) q12 hq12 _ _ hP hD hS _ (lv_sub hl [0, 1] rfl) ?_
  clear hP hD hS hl
  intro H locs hP hD hS ls hl
  have hf := Option.some.inj hf
  subst hf
  exact hret _ _ _ _ dX3_find_107 hP hD hS
def f_X3_isLost (o0 : EE) (p1 : Int32) : Option Int32 := vg p1 14 ((if (o0.2.1 (p1).toNatClampNeg) = 65536 then some (1) else some (0)))
theorem inw_X3_isLost_3 : ∀ w ∈ wsX30, w ∈ wsX3_isLost := fun _ h => List.mem_cons_of_mem _ (List.mem_append_right _ h)
theorem hd_X3_isLost : yX3_isLost.cls = RX3 ∧ yX3_isLost.cls ≠ "java/lang/invoke/MethodHandle" ∧ yX3_isLost.cls ≠ "java/lang/invoke/VarHandle" ∧ (parseMethodDescriptor yX3_isLost.desc).map (fun d => d.parameters.length) = some 1 := by decide +kernel
set_option maxHeartbeats 4000000 in
set_option maxRecDepth 100000 in
theorem c_X3_isLost (l : Launch) (D : va_G) (cI cC cS : ClassId) (R : va_W) (a0 : Nat → Nat) (o0 : EE) (p1 : Int32) (r : Int32) (hf : f_X3_isLost o0 p1 = some r) : CI l yX3_isLost wsX3_isLost 0 0 D cI cC cS [.ref (a0 0), .int p1] ((w_E a0 cI o0) ++ R) r ((w_E a0 cI o0) ++ R) := by
  refine XI.of (cc := cX3_isLost) (maxL := 2) (ty := .boolean) (own := RX3) (by decide) rfl rfl (Nat.le_of_ble_eq_true rfl) ?_
  intro p e s m args below meth c A Q S hK hN hA hP hD hS ls hl hret
  obtain ⟨hx, hb, hml, hown, hts⟩ := id S
  have hl : lv_has ls 2 [(0, .ref (a0 0)), (1, .int p1)] := hl
  unfold f_X3_isLost at hf
  refine lv_aload_n hx hb dX3_isLost_0 rfl (lv_at hl 0 rfl) ?_
  refine va_get (D := D) (ci := 3) (v := .ref (a0 2)) (C := RX3) (T := TX3) (N := 3) hx hb hts inw_X3_isLost_3 hown hK hP 0 rfl rfl 1 (by decide) (hts (.fieldLink RX3 15 "RingGames$Measures" "found" "[I") (List.mem_of_getElem? (i := 1) rfl)) (fun _ h9 => h9) rfl dX3_isLost_1 ?_
  refine lv_iload_n hx hb dX3_isLost_4 rfl (lv_at hl 1 rfl) ?_
  obtain ⟨g1, hf⟩ := vg_some hf
  refine va_iald hx hb hK hP 2 0 rfl rfl g1 dX3_isLost_5 ?_
  refine lv_ldc hx hb hown (hts (.constant RX3 42 (65536)) (List.mem_of_getElem? (i := 2) rfl)) dX3_isLost_6 ?_
  refine lv_icmp_ne (tgt := 15) hx hb dX3_isLost_8 (by decide) (fun c2 => ?_) (fun c2 => ?_)
  · have hf := if_f hf c2
    refine lv_iconst (v := 0) hx hb dX3_isLost_15 (by decide) ?_
    have hf := Option.some.inj hf
    subst hf
    exact hret _ _ _ _ _ dX3_isLost_16 rfl hP hD hS rfl
  · have hf := if_t hf c2
    refine lv_iconst (v := 1) hx hb dX3_isLost_11 (by decide) ?_
    refine lv_goto (tgt := 16) hx hb dX3_isLost_12 (by decide) ?_
    have hf := Option.some.inj hf
    subst hf
    exact hret _ _ _ _ _ dX3_isLost_16 rfl hP hD hS rfl
def f_X3_winner (o0 : EE) (p1 : Int32) : Option Int32 := (f_X3_isLost o0 p1).bind fun q1 => (if q1 = 0 then some (0) else some (1))
theorem hd_X3_winner : yX3_winner.cls = RX3 ∧ yX3_winner.cls ≠ "java/lang/invoke/MethodHandle" ∧ yX3_winner.cls ≠ "java/lang/invoke/VarHandle" ∧ (parseMethodDescriptor yX3_winner.desc).map (fun d => d.parameters.length) = some 1 := by decide +kernel
set_option maxHeartbeats 4000000 in
set_option maxRecDepth 100000 in
theorem c_X3_winner (l : Launch) (D : va_G) (cI cC cS : ClassId) (R : va_W) (a0 : Nat → Nat) (o0 : EE) (p1 : Int32) (r : Int32) (hf : f_X3_winner o0 p1 = some r) : CI l yX3_winner wsX3_winner 1 21 D cI cC cS [.ref (a0 0), .int p1] ((w_E a0 cI o0) ++ R) r ((w_E a0 cI o0) ++ R) := by
  refine XI.of (cc := cX3_winner) (maxL := 2) (ty := .int) (own := RX3) (by decide) rfl rfl (Nat.le_of_ble_eq_true rfl) ?_
  intro p e s m args below meth c A Q S hK hN hA hP hD hS ls hl hret
  obtain ⟨hx, hb, hml, hown, hts⟩ := id S
  have hl : lv_has ls 2 [(0, .ref (a0 0)), (1, .int p1)] := hl
  unfold f_X3_winner at hf
  refine lv_aload_n hx hb dX3_winner_0 rfl (lv_at hl 0 rfl) ?_
  refine lv_iload_n hx hb dX3_winner_1 rfl (lv_at hl 1 rfl) ?_
  obtain ⟨q1, hq1, hf⟩ := ob_some hf
  refine xcVi (w' := ((w_E a0 cI o0) ++ R)) S hK hN hA hP hD hS (c_X3_isLost l D cI cC cS R a0 o0 p1 _ hq1) gX3_winner_X3_isLost rfl hd_X3_isLost ⟨by decide, by decide⟩ (List.Perm.refl _) (List.Perm.refl _) (ci := 3) (q := (RX3, TX3, 3)) rfl rfl rfl rfl hl.1 rfl (Nat.le_of_ble_eq_true rfl) dX3_winner_2 ⟨Nat.zero_le _, Nat.zero_le _⟩ (fun H locs hP hD hS => ?_)
  refine lv_if_eq (tgt := 12) hx hb dX3_winner_5 (by decide) (fun c2 => ?_) (fun c2 => ?_)
  · have hf := if_t hf c2
    refine lv_iconst (v := 0) hx hb dX3_winner_12 (by decide) ?_
    have hf := Option.some.inj hf
    subst hf
    exact hret _ _ _ _ _ dX3_winner_13 rfl hP hD hS rfl
  · have hf := if_f hf c2
    refine lv_iconst (v := 1) hx hb dX3_winner_8 (by decide) ?_
    refine lv_goto (tgt := 13) hx hb dX3_winner_9 (by decide) ?_
    have hf := Option.some.inj hf
    subst hf
    exact hret _ _ _ _ _ dX3_winner_13 rfl hP hD hS rfl
def f_X3_number (o0 : EE) (p1 : Int32) (p2 : Int32) : Option Int32 := vg p1 14 (some (((jshr (o0.2.1 (p1).toNatClampNeg) (4 * (3 - (p2 / 2)))) &&& 15)))
theorem inw_X3_number_3 : ∀ w ∈ wsX30, w ∈ wsX3_number := fun _ h => List.mem_cons_of_mem _ (List.mem_append_right _ h)
theorem hd_X3_number : yX3_number.cls = RX3 ∧ yX3_number.cls ≠ "java/lang/invoke/MethodHandle" ∧ yX3_number.cls ≠ "java/lang/invoke/VarHandle" ∧ (parseMethodDescriptor yX3_number.desc).map (fun d => d.parameters.length) = some 2 := by decide +kernel
set_option maxHeartbeats 4000000 in
set_option maxRecDepth 100000 in
theorem c_X3_number (l : Launch) (D : va_G) (cI cC cS : ClassId) (R : va_W) (a0 : Nat → Nat) (o0 : EE) (p1 : Int32) (p2 : Int32) (r : Int32) (hf : f_X3_number o0 p1 p2 = some r) : CI l yX3_number wsX3_number 0 0 D cI cC cS [.ref (a0 0), .int p1, .int p2] ((w_E a0 cI o0) ++ R) r ((w_E a0 cI o0) ++ R) := by
  refine XI.of (cc := cX3_number) (maxL := 3) (ty := .int) (own := RX3) (by decide) rfl rfl (Nat.le_of_ble_eq_true rfl) ?_
  intro p e s m args below meth c A Q S hK hN hA hP hD hS ls hl hret
  obtain ⟨hx, hb, hml, hown, hts⟩ := id S
  have hl : lv_has ls 3 [(0, .ref (a0 0)), (1, .int p1), (2, .int p2)] := hl
  unfold f_X3_number at hf
  refine lv_aload_n hx hb dX3_number_0 rfl (lv_at hl 0 rfl) ?_
  refine va_get (D := D) (ci := 3) (v := .ref (a0 2)) (C := RX3) (T := TX3) (N := 3) hx hb hts inw_X3_number_3 hown hK hP 0 rfl rfl 1 (by decide) (hts (.fieldLink RX3 15 "RingGames$Measures" "found" "[I") (List.mem_of_getElem? (i := 1) rfl)) (fun _ h9 => h9) rfl dX3_number_1 ?_
  refine lv_iload_n hx hb dX3_number_4 rfl (lv_at hl 1 rfl) ?_
  obtain ⟨g1, hf⟩ := vg_some hf
  refine va_iald hx hb hK hP 2 0 rfl rfl g1 dX3_number_5 ?_
  refine lv_iconst (v := 4) hx hb dX3_number_6 (by decide) ?_
  refine lv_iconst (v := 3) hx hb dX3_number_7 (by decide) ?_
  refine lv_iload_n hx hb dX3_number_8 rfl (lv_at hl 2 rfl) ?_
  refine lv_iconst (v := 2) hx hb dX3_number_9 (by decide) ?_
  refine lv_idiv hx hb dX3_number_10 (by decide) ?_
  refine lv_isub hx hb dX3_number_11 ?_
  refine lv_imul hx hb dX3_number_12 ?_
  refine lv_ishr hx hb dX3_number_13 ?_
  refine lv_bipush (v := 15) hx hb dX3_number_14 (by decide) ?_
  refine lv_iand hx hb dX3_number_16 ?_
  have hf := Option.some.inj hf
  subst hf
  exact hret _ _ _ _ _ dX3_number_17 rfl hP hD hS rfl
def f_X3_bestArrow_L10 (n : Nat) (d_o0 : EE) (d_o1 : GG) (d_l2 : Int32) : Nat → Int32 → Int32 → Int32 → Option Int32
  | 0, _, _, _ => none
  | k + 1, d_l3, d_l4, d_l5 => (if d_o1.1 ≤ d_l5 then some (d_l3) else (f_X1_leads d_o1 d_l2 d_l5).bind fun q2 => ((if q2 = 0 then some (65536) else (f_X3_wanted n d_o0 d_o1 d_l2 d_l5).bind fun q7 => some (q7)) : Option Int32).bind fun j4 => (if d_l4 ≤ j4 then f_X3_bestArrow_L10 n d_o0 d_o1 d_l2 k d_l3 d_l4 (d_l5 + 1) else f_X3_bestArrow_L10 n d_o0 d_o1 d_l2 k d_l5 j4 (d_l5 + 1)))
def f_X3_bestArrow (n : Nat) (o0 : EE) (o1 : GG) (p2 : Int32) : Option Int32 := (f_X3_bestArrow_L10 n o0 o1 p2 n 14 65536 0).bind fun q2 => vg p2 14 ((if (o1.2.1 (p2).toNatClampNeg) = 0 then some (q2) else some (14)))
theorem inw_X3_bestArrow_1 : ∀ w ∈ wsX10, w ∈ wsX3_bestArrow := fun _ h => List.mem_cons_of_mem _ (List.mem_append_left _ (List.mem_append_right _ h))
theorem hd_X3_bestArrow : yX3_bestArrow.cls = RX3 ∧ yX3_bestArrow.cls ≠ "java/lang/invoke/MethodHandle" ∧ yX3_bestArrow.cls ≠ "java/lang/invoke/VarHandle" ∧ (parseMethodDescriptor yX3_bestArrow.desc).map (fun d => d.parameters.length) = some 2 := by decide +kernel
set_option maxHeartbeats 4000000 in
set_option maxRecDepth 100000 in
theorem c_X3_bestArrow (l : Launch) (D : va_G) (cI cC cS : ClassId) (R : va_W) (a0 : Nat → Nat) (a1 : Nat → Nat) (o0 : EE) (o1 : GG) (p2 : Int32) (n : Nat) (r : Int32) (hf : f_X3_bestArrow n o0 o1 p2 = some r) : CI l yX3_bestArrow wsX3_bestArrow 2 43 D cI cC cS [.ref (a0 0), .ref (a1 0), .int p2] ((w_E a0 cI o0 ++ w_G a1 cI o1) ++ R) r ((w_E a0 cI o0 ++ w_G a1 cI o1) ++ R) := by
  refine XI.of (cc := cX3_bestArrow) (maxL := 7) (ty := .int) (own := RX3) (by decide) rfl rfl (Nat.le_of_ble_eq_true rfl) ?_
  intro p e s m args below meth c A Q S hK hN hA hP hD hS ls hl hret
  obtain ⟨hx, hb, hml, hown, hts⟩ := id S
  have hl : lv_has ls 7 [(0, .ref (a0 0)), (1, .ref (a1 0)), (2, .int p2)] := hl
  unfold f_X3_bestArrow at hf
  refine lv_bipush (v := 14) hx hb dX3_bestArrow_0 (by decide) ?_
  refine lv_istore_n (lv' := [(3, .int 14), (0, .ref (a0 0)), (1, .ref (a1 0)), (2, .int p2)]) hx hb dX3_bestArrow_2 rfl hl (by decide) rfl (fun ls hl => ?_)
  refine lv_ldc hx hb hown (hts (.constant RX3 42 (65536)) (List.mem_of_getElem? (i := 1) rfl)) dX3_bestArrow_3 ?_
  refine lv_istore (lv' := [(4, .int 65536), (3, .int 14), (0, .ref (a0 0)), (1, .ref (a1 0)), (2, .int p2)]) hx hb dX3_bestArrow_5 hl (by decide) rfl (fun ls hl => ?_)
  refine lv_iconst (v := 0) hx hb dX3_bestArrow_7 (by decide) ?_
  refine lv_istore (lv' := [(5, .int 0), (4, .int 65536), (3, .int 14), (0, .ref (a0 0)), (1, .ref (a1 0)), (2, .int p2)]) hx hb dX3_bestArrow_8 hl (by decide) rfl (fun ls hl => ?_)
  obtain ⟨q2, hq2, hf⟩ := ob_some hf
  have L1 : ∀ (k : Nat) (v_l3_L1 : Int32) (v_l4_L1 : Int32) (v_l5_L1 : Int32) (q_L1 : Int32), f_X3_bestArrow_L10 n o0 o1 p2 k v_l3_L1 v_l4_L1 v_l5_L1 = some q_L1 → ∀ (H : Heap) (locs : List Loc), va_P D vwCl ((w_E a0 cI o0 ++ w_G a1 cI o1) ++ R) H → va_D A ((w_E a0 cI o0 ++ w_G a1 cI o1) ++ R) → va_S A s.heap H locs → ∀ ls : Array Slot, lv_has ls 7 [(0, .ref (a0 0)), (1, .ref (a1 0)), (2, .int p2), (3, .int v_l3_L1), (4, .int v_l4_L1), (5, .int v_l5_L1)] → (∀ (H : Heap) (locs : List Loc), va_P D vwCl ((w_E a0 cI o0 ++ w_G a1 cI o1) ++ R) H → va_D A ((w_E a0 cI o0 ++ w_G a1 cI o1) ++ R) → va_S A s.heap H locs → ∀ ls : Array Slot, lv_has ls 7 [(1, .ref (a1 0)), (2, .int p2), (3, .int q_L1)] → W p l e (xR 2 43) s m args below meth c H locs 0 0 Q (F0 m 64 ls [])) → W p l e (xR 2 43) s m args below meth c H locs 0 0 Q (F0 m 10 ls []) := by
    intro k
    induction k with
    | zero => intro v_l3_L1 v_l4_L1 v_l5_L1 q_L1 hf; simp [f_X3_bestArrow_L10] at hf
    | succ k ih =>
      intro v_l3_L1 v_l4_L1 v_l5_L1 q_L1 hf H locs hP hD hS ls hl kx
      rw [f_X3_bestArrow_L10] at hf
      refine lv_iload hx hb dX3_bestArrow_10 (lv_at hl 5 rfl) ?_
      refine lv_aload_n hx hb dX3_bestArrow_12 rfl (lv_at hl 1 rfl) ?_
      refine va_get (D := D) (ci := 1) (v := .int o1.1) (C := RX1) (T := TX1) (N := 4) hx hb hts inw_X3_bestArrow_1 hown hK hP 3 rfl rfl 0 (by decide) (hts (.fieldLink RX3 18 "RingGames$Game" "size" "I") (List.mem_of_getElem? (i := 2) rfl)) (fun _ h9 => h9) rfl dX3_bestArrow_13 ?_
      refine lv_icmp_ge (tgt := 64) hx hb dX3_bestArrow_16 (by decide) (fun c3 => ?_) (fun c3 => ?_)
      · have hf := if_t hf c3
        have hf := Option.some.inj hf
        subst hf
        exact kx _ _ hP hD hS _ (lv_sub hl [1, 2, 3] rfl)
      · have hf := if_f hf c3
        refine lv_aload_n hx hb dX3_bestArrow_19 rfl (lv_at hl 1 rfl) ?_
        refine lv_iload_n hx hb dX3_bestArrow_20 rfl (lv_at hl 2 rfl) ?_
        refine lv_iload hx hb dX3_bestArrow_21 (lv_at hl 5 rfl) ?_
        obtain ⟨q4, hq4, hf⟩ := ob_some hf
        refine xcVi (w' := ((w_E a0 cI o0 ++ w_G a1 cI o1) ++ R)) S hK hN hA hP hD hS (c_X1_leads l D cI cC cS ((xr 7 [3, 4, 5, 6]).filterMap (fun i => (w_E a0 cI o0 ++ w_G a1 cI o1)[i]?) ++ R) a1 o1 p2 v_l5_L1 _ hq4) gX3_bestArrow_X1_leads rfl hd_X1_leads ⟨by decide, by decide⟩ (x_cut (pre := (w_E a0 cI o0 ++ w_G a1 cI o1)) [3, 4, 5, 6] 7 rfl (by decide +kernel) rfl) (x_cut (pre := (w_E a0 cI o0 ++ w_G a1 cI o1)) [3, 4, 5, 6] 7 rfl (by decide +kernel) rfl).symm (ci := 1) (q := (RX1, TX1, 4)) rfl rfl rfl rfl hl.1 rfl (Nat.le_of_ble_eq_true rfl) dX3_bestArrow_23 ⟨Nat.zero_le _, Nat.zero_le _⟩ (fun H locs hP hD hS => ?_)
        obtain ⟨j6, hj6, hf⟩ := ob_some hf
        have J7 : ∀ (H : Heap) (locs : List Loc), va_P D vwCl ((w_E a0 cI o0 ++ w_G a1 cI o1) ++ R) H → va_D A ((w_E a0 cI o0 ++ w_G a1 cI o1) ++ R) → va_S A s.heap H locs → ∀ ls : Array Slot, lv_has ls 7 [(0, .ref (a0 0)), (1, .ref (a1 0)), (2, .int p2), (3, .int v_l3_L1), (4, .int v_l4_L1), (5, .int v_l5_L1)] → W p l e (xR 2 43) s m args below meth c H locs 0 0 Q (F0 m 42 ls [.int j6]) := by
          intro H locs hP hD hS ls hl
          refine lv_istore (lv' := [(6, .int j6), (0, .ref (a0 0)), (1, .ref (a1 0)), (2, .int p2), (3, .int v_l3_L1), (4, .int v_l4_L1), (5, .int v_l5_L1)]) hx hb dX3_bestArrow_42 hl (by decide) rfl (fun ls hl => ?_)
          refine lv_iload hx hb dX3_bestArrow_44 (lv_at hl 0 rfl) ?_
          refine lv_iload hx hb dX3_bestArrow_46 (lv_at hl 5 rfl) ?_
          refine lv_icmp_ge (tgt := 58) hx hb dX3_bestArrow_48 (by decide) (fun c8 => ?_) (fun c8 => ?_)
          · have hf := if_t hf c8
            refine lv_iinc (v := (v_l5_L1 + 1)) (lv' := [(5, .int (v_l5_L1 + 1)), (6, .int j6), (0, .ref (a0 0)), (1, .ref (a1 0)), (2, .int p2), (3, .int v_l3_L1), (4, .int v_l4_L1)]) hx hb dX3_bestArrow_58 hl (k := 6) rfl (congrArg (fun z => v_l5_L1 + z) (by decide)) (by decide) rfl (fun ls hl => ?_)
            refine lv_goto (tgt := 10) hx hb dX3_bestArrow_61 (by decide) ?_
            exact ih v_l3_L1 v_l4_L1 (v_l5_L1 + 1) _ hf _ _ hP hD hS _ (lv_sub hl [2, 3, 4, 5, 6, 0] rfl) kx
          · have hf := if_f hf c8
            refine lv_iload hx hb dX3_bestArrow_51 (lv_at hl 6 rfl) ?_
            refine lv_istore_n (lv' := [(3, .int v_l5_L1), (6, .int j6), (0, .ref (a0 0)), (1, .ref (a1 0)), (2, .int p2), (4, .int v_l4_L1), (5, .int v_l5_L1)]) hx hb dX3_bestArrow_53 rfl hl (by decide) rfl (fun ls hl => ?_)
            refine lv_iload hx hb dX3_bestArrow_54 (lv_at hl 1 rfl) ?_
            refine lv_istore (lv' := [(4, .int j6), (3, .int v_l5_L1), (6, .int j6), (0, .ref (a0 0)), (1, .ref (a1 0)), (2, .int p2), (5, .int v_l5_L1)]) hx hb dX3_bestArrow_56 hl (by decide) rfl (fun ls hl => ?_)
            refine lv_iinc (v := (v_l5_L1 + 1)) (lv' := [(5, .int (v_l5_L1 + 1)), (4, .int j6), (3, .int v_l5_L1), (6, .int j6), (0, .ref (a0 0)), (1, .ref (a1 0)), (2, .int p2)]) hx hb dX3_bestArrow_58 hl (k := 6) rfl (congrArg (fun z => v_l5_L1 + z) (by decide)) (by decide) rfl (fun ls hl => ?_)
            refine lv_goto (tgt := 10) hx hb dX3_bestArrow_61 (by decide) ?_
            exact ih v_l5_L1 j6 (v_l5_L1 + 1) _ hf _ _ hP hD hS _ (lv_sub hl [4, 5, 6, 2, 1, 0] rfl) kx
        clear hf
        have hf := hj6
        refine lv_if_eq (tgt := 40) hx hb dX3_bestArrow_26 (by decide) (fun c5 => ?_) (fun c5 => ?_)
        · have hf := if_t hf c5
          refine lv_ldc hx hb hown (hts (.constant RX3 42 (65536)) (List.mem_of_getElem? (i := 1) rfl)) dX3_bestArrow_40 ?_
          have hf := Option.some.inj hf
          subst hf
          exact J7 _ _ hP hD hS _ (lv_sub hl [0, 1, 2, 3, 4, 5] rfl)
        · have hf := if_f hf c5
          refine lv_aload_n hx hb dX3_bestArrow_29 rfl (lv_at hl 0 rfl) ?_
          refine lv_aload_n hx hb dX3_bestArrow_30 rfl (lv_at hl 1 rfl) ?_
          refine lv_iload_n hx hb dX3_bestArrow_31 rfl (lv_at hl 2 rfl) ?_
          refine lv_iload hx hb dX3_bestArrow_32 (lv_at hl 5 rfl) ?_
          obtain ⟨q9, hq9, hf⟩ := ob_some hf
          refine xcVi (w' := ((w_E a0 cI o0 ++ w_G a1 cI o1) ++ R)) S hK hN hA hP hD hS (c_X3_wanted l D cI cC cS R a0 a1 o0 o1 p2 v_l5_L1 n _ hq9) gX3_bestArrow_X3_wanted rfl hd_X3_wanted ⟨by decide, by decide⟩ (List.Perm.refl _) (List.Perm.refl _) (ci := 3) (q := (RX3, TX3, 3)) rfl rfl rfl rfl hl.1 rfl (Nat.le_of_ble_eq_true rfl) dX3_bestArrow_34 ⟨Nat.zero_le _, Nat.zero_le _⟩ (fun H locs hP hD hS => ?_)
          refine lv_goto (tgt := 42) hx hb dX3_bestArrow_37 (by decide) ?_
          have hf := Option.some.inj hf
          subst hf
          exact J7 _ _ hP hD hS _ (lv_sub hl [0, 1, 2, 3, 4, 5] rfl)
  refine L1 n 14 65536 0 q2 hq2 _ _ hP hD hS _ (lv_sub hl [3, 4, 5, 2, 1, 0] rfl) ?_
  clear hP hD hS hl
  intro H locs hP hD hS ls hl
  refine lv_aload_n hx hb dX3_bestArrow_64 rfl (lv_at hl 0 rfl) ?_
  refine va_get (D := D) (ci := 1) (v := .ref (a1 1)) (C := RX1) (T := TX1) (N := 4) hx hb hts inw_X3_bestArrow_1 hown hK hP 3 rfl rfl 1 (by decide) (hts (.fieldLink RX3 39 "RingGames$Game" "owners" "[I") (List.mem_of_getElem? (i := 3) rfl)) (fun _ h9 => h9) rfl dX3_bestArrow_65 ?_
  refine lv_iload_n hx hb dX3_bestArrow_68 rfl (lv_at hl 1 rfl) ?_
  obtain ⟨g10, hf⟩ := vg_some hf
  refine va_iald hx hb hK hP 4 0 rfl rfl g10 dX3_bestArrow_69 ?_
  refine lv_if_ne (tgt := 77) hx hb dX3_bestArrow_70 (by decide) (fun c11 => ?_) (fun c11 => ?_)
  · have hf := if_f hf c11
    refine lv_bipush (v := 14) hx hb dX3_bestArrow_77 (by decide) ?_
    have hf := Option.some.inj hf
    subst hf
    exact hret _ _ _ _ _ dX3_bestArrow_79 rfl hP hD hS rfl
  · have hf := if_t hf c11
    refine lv_iload_n hx hb dX3_bestArrow_73 rfl (lv_at hl 2 rfl) ?_
    refine lv_goto (tgt := 79) hx hb dX3_bestArrow_74 (by decide) ?_
    have hf := Option.some.inj hf
    subst hf
    exact hret _ _ _ _ _ dX3_bestArrow_79 rfl hP hD hS rfl
def f_X4_become (o0 : SS) (o1 : SS) : Option SS := (f_X1_become o0.1 o1.1).bind fun q1 => some ((q1, (cp14 o1.2.1 o0.2.1), o1.2.2.1, o1.2.2.2))
theorem inw_X4_become_4 : ∀ w ∈ wsX40, w ∈ wsX4_become := fun _ h => List.mem_cons_of_mem _ (List.mem_append_left _ (List.mem_append_right _ h))
theorem hd_X4_become : yX4_become.cls = RX4 ∧ yX4_become.cls ≠ "java/lang/invoke/MethodHandle" ∧ yX4_become.cls ≠ "java/lang/invoke/VarHandle" ∧ (parseMethodDescriptor yX4_become.desc).map (fun d => d.parameters.length) = some 1 := by decide +kernel
set_option maxHeartbeats 4000000 in
set_option maxRecDepth 100000 in
theorem c_X4_become (l : Launch) (D : va_G) (cI cC cS : ClassId) (R : va_W) (a0 : Nat → Nat) (a1 : Nat → Nat) (o0 : SS) (o1 : SS) (r : SS) (hf : f_X4_become o0 o1 = some r) : CV l yX4_become wsX4_become 2 81 D cI cC cS [.ref (a0 0), .ref (a1 0)] ((w_S a0 cI o0 ++ w_S a1 cI o1) ++ R) ((w_S a0 cI r ++ w_S a1 cI o1) ++ R) := by
  refine XV.of (cc := cX4_become) (maxL := 2) (own := RX4) (by decide) rfl rfl (Nat.le_of_ble_eq_true rfl) ?_
  intro p e s m args below meth c A Q S hK hN hA hP hD hS ls hl hret
  obtain ⟨hx, hb, hml, hown, hts⟩ := id S
  have hl : lv_has ls 2 [(0, .ref (a0 0)), (1, .ref (a1 0))] := hl
  unfold f_X4_become at hf
  refine lv_aload_n hx hb dX4_become_0 rfl (lv_at hl 0 rfl) ?_
  refine va_get (D := D) (ci := 4) (v := .ref (a0 2)) (C := RX4) (T := TX4) (N := 4) hx hb hts inw_X4_become_4 hown hK hP 0 rfl rfl 0 (by decide) (hts (.fieldLink RX4 12 "RingGames$State" "game" "LRingGames$Game;") (List.mem_of_getElem? (i := 1) rfl)) (fun _ h9 => h9) rfl dX4_become_1 ?_
  refine lv_aload_n hx hb dX4_become_4 rfl (lv_at hl 1 rfl) ?_
  refine va_get (D := D) (ci := 4) (v := .ref (a1 2)) (C := RX4) (T := TX4) (N := 4) hx hb hts inw_X4_become_4 hown hK hP 6 rfl rfl 0 (by decide) (hts (.fieldLink RX4 12 "RingGames$State" "game" "LRingGames$Game;") (List.mem_of_getElem? (i := 1) rfl)) (fun _ h9 => h9) rfl dX4_become_5 ?_
  obtain ⟨q1, hq1, hf⟩ := ob_some hf
  refine xcVv (w' := ((w_S a0 cI (q1, o0.2.1, o0.2.2.1, o0.2.2.2) ++ w_S a1 cI o1) ++ R)) S hK hN hA hP hD hS (c_X1_become l D cI cC cS ((xr 12 [2, 3, 4, 5, 8, 9, 10, 11]).filterMap (fun i => (w_S a0 cI o0 ++ w_S a1 cI o1)[i]?) ++ R) (fun k => a0 (k + 2)) (fun k => a1 (k + 2)) o0.1 o1.1 _ hq1) gX4_become_X1_become rfl hd_X1_become ⟨by decide, by decide⟩ (x_cut (pre := (w_S a0 cI o0 ++ w_S a1 cI o1)) [2, 3, 4, 5, 8, 9, 10, 11] 12 rfl (by decide +kernel) rfl) (x_back (pre := (w_S a0 cI o0 ++ w_S a1 cI o1)) [2, 3, 4, 5, 8, 9, 10, 11] 12 rfl (by decide +kernel) rfl rfl) (ci := 1) (q := (RX1, TX1, 4)) rfl rfl rfl rfl hl.1 rfl (Nat.le_of_ble_eq_true rfl) dX4_become_8 ⟨Nat.zero_le _, Nat.zero_le _⟩ (fun H locs hP hD hS => ?_)
  refine lv_aload_n hx hb dX4_become_11 rfl (lv_at hl 1 rfl) ?_
  refine va_get (D := D) (ci := 4) (v := .ref (a1 1)) (C := RX4) (T := TX4) (N := 4) hx hb hts inw_X4_become_4 hown hK hP 6 rfl rfl 1 (by decide) (hts (.fieldLink RX4 18 "RingGames$State" "choices" "[I") (List.mem_of_getElem? (i := 2) rfl)) (fun _ h9 => h9) rfl dX4_become_12 ?_
  refine lv_iconst (v := 0) hx hb dX4_become_15 (by decide) ?_
  refine lv_aload_n hx hb dX4_become_16 rfl (lv_at hl 0 rfl) ?_
  refine va_get (D := D) (ci := 4) (v := .ref (a0 1)) (C := RX4) (T := TX4) (N := 4) hx hb hts inw_X4_become_4 hown hK hP 0 rfl rfl 1 (by decide) (hts (.fieldLink RX4 18 "RingGames$State" "choices" "[I") (List.mem_of_getElem? (i := 2) rfl)) (fun _ h9 => h9) rfl dX4_become_17 ?_
  refine lv_iconst (v := 0) hx hb dX4_become_20 (by decide) ?_
  refine lv_bipush (v := 14) hx hb dX4_become_21 (by decide) ?_
  refine va_copyi hx hb (hml.trans hl.1.symm) hown (hts (.methodLink RX4 30 arraycopyName) (List.mem_of_getElem? (i := 3) rfl)) (hts (.native arraycopyName) (List.mem_of_getElem? (i := 4) rfl)) (hts (.static arraycopyName) (List.mem_of_getElem? (i := 5) rfl)) (hts (.initialized "java/lang/System") (List.mem_of_getElem? (i := 6) rfl)) hK hP hD hS 7 1 0 0 rfl rfl rfl rfl rfl (by decide) (by decide) (by decide) (by decide) (by decide) (fun _ _ => rfl) (by decide) (by decide +kernel) dX4_become_23 (fun H locs hP hD hS => ?_)
  have hP : va_P D vwCl ((w_S a0 cI (q1, (cp14 o1.2.1 o0.2.1), o0.2.2.1, o0.2.2.2) ++ w_S a1 cI o1) ++ R) H := hP
  have hD : va_D A ((w_S a0 cI (q1, (cp14 o1.2.1 o0.2.1), o0.2.2.1, o0.2.2.2) ++ w_S a1 cI o1) ++ R) := hD
  refine lv_aload_n hx hb dX4_become_26 rfl (lv_at hl 0 rfl) ?_
  refine lv_aload_n hx hb dX4_become_27 rfl (lv_at hl 1 rfl) ?_
  refine va_get (D := D) (ci := 4) (v := .int o1.2.2.1) (C := RX4) (T := TX4) (N := 4) hx hb hts inw_X4_become_4 hown hK hP 6 rfl rfl 2 (by decide) (hts (.fieldLink RX4 22 "RingGames$State" "tokenAt" "I") (List.mem_of_getElem? (i := 7) rfl)) (fun _ h9 => h9) rfl dX4_become_28 ?_
  refine va_put (D := D) (ci := 4) (v := .int o1.2.2.1) (ty := .int) (C := RX4) (T := TX4) (N := 4) hx hb hts inw_X4_become_4 tyX4 tyX4_ok nmX4 hown hK hP hD hS 0 rfl rfl 2 (by decide) (hts (.fieldLink RX4 22 "RingGames$State" "tokenAt" "I") (List.mem_of_getElem? (i := 7) rfl)) (fun _ h9 => h9) rfl (tyX4_ok 2 (by decide)) rfl rfl (Nat.le_of_ble_eq_true rfl) dX4_become_31 (fun H locs hP hD hS => ?_)
  have hP : va_P D vwCl ((w_S a0 cI (q1, (cp14 o1.2.1 o0.2.1), o1.2.2.1, o0.2.2.2) ++ w_S a1 cI o1) ++ R) H := hP
  have hD : va_D A ((w_S a0 cI (q1, (cp14 o1.2.1 o0.2.1), o1.2.2.1, o0.2.2.2) ++ w_S a1 cI o1) ++ R) := hD
  refine lv_aload_n hx hb dX4_become_34 rfl (lv_at hl 0 rfl) ?_
  refine lv_aload_n hx hb dX4_become_35 rfl (lv_at hl 1 rfl) ?_
  refine va_get (D := D) (ci := 4) (v := .int o1.2.2.2) (C := RX4) (T := TX4) (N := 4) hx hb hts inw_X4_become_4 hown hK hP 6 rfl rfl 3 (by decide) (hts (.fieldLink RX4 36 "RingGames$State" "tokenSteps" "I") (List.mem_of_getElem? (i := 8) rfl)) (fun _ h9 => h9) rfl dX4_become_36 ?_
  refine va_put (D := D) (ci := 4) (v := .int o1.2.2.2) (ty := .int) (C := RX4) (T := TX4) (N := 4) hx hb hts inw_X4_become_4 tyX4 tyX4_ok nmX4 hown hK hP hD hS 0 rfl rfl 3 (by decide) (hts (.fieldLink RX4 36 "RingGames$State" "tokenSteps" "I") (List.mem_of_getElem? (i := 8) rfl)) (fun _ h9 => h9) rfl (tyX4_ok 3 (by decide)) rfl rfl (Nat.le_of_ble_eq_true rfl) dX4_become_39 (fun H locs hP hD hS => ?_)
  have hP : va_P D vwCl ((w_S a0 cI (q1, (cp14 o1.2.1 o0.2.1), o1.2.2.1, o1.2.2.2) ++ w_S a1 cI o1) ++ R) H := hP
  have hD : va_D A ((w_S a0 cI (q1, (cp14 o1.2.1 o0.2.1), o1.2.2.1, o1.2.2.2) ++ w_S a1 cI o1) ++ R) := hD
  have hf := Option.some.inj hf
  subst hf
  exact hret _ _ _ _ dX4_become_42 hP hD hS
def f_X4_append (o0 : SS) (p1 : Int32) (p2 : Int32) : Option (Int32 × SS) := vg o0.1.1 14 (some (o0.1.1, (((o0.1.1 + 1), (upd o0.1.2.1 (o0.1.1).toNatClampNeg p1), (upd o0.1.2.2.1 (o0.1.1).toNatClampNeg p2), (upd o0.1.2.2.2 (o0.1.1).toNatClampNeg 0)), (upd o0.2.1 (o0.1.1).toNatClampNeg 14), o0.2.2.1, o0.2.2.2)))
theorem inw_X4_append_1 : ∀ w ∈ wsX10, w ∈ wsX4_append := fun _ h => List.mem_cons_of_mem _ (List.mem_append_right _ h)
theorem inw_X4_append_4 : ∀ w ∈ wsX40, w ∈ wsX4_append := fun _ h => List.mem_cons_of_mem _ (List.mem_append_left _ (List.mem_append_right _ h))
theorem hd_X4_append : yX4_append.cls = RX4 ∧ yX4_append.cls ≠ "java/lang/invoke/MethodHandle" ∧ yX4_append.cls ≠ "java/lang/invoke/VarHandle" ∧ (parseMethodDescriptor yX4_append.desc).map (fun d => d.parameters.length) = some 2 := by decide +kernel
set_option maxHeartbeats 4000000 in
set_option maxRecDepth 100000 in
theorem c_X4_append (l : Launch) (D : va_G) (cI cC cS : ClassId) (R : va_W) (a0 : Nat → Nat) (o0 : SS) (p1 : Int32) (p2 : Int32) (r : Int32 × SS) (hf : f_X4_append o0 p1 p2 = some r) : CI l yX4_append wsX4_append 0 0 D cI cC cS [.ref (a0 0), .int p1, .int p2] ((w_S a0 cI o0) ++ R) r.1 ((w_S a0 cI r.2) ++ R) := by
  refine XI.of (cc := cX4_append) (maxL := 4) (ty := .int) (own := RX4) (by decide) rfl rfl (Nat.le_of_ble_eq_true rfl) ?_
  intro p e s m args below meth c A Q S hK hN hA hP hD hS ls hl hret
  obtain ⟨hx, hb, hml, hown, hts⟩ := id S
  have hl : lv_has ls 4 [(0, .ref (a0 0)), (1, .int p1), (2, .int p2)] := hl
  unfold f_X4_append at hf
  refine lv_aload_n hx hb dX4_append_0 rfl (lv_at hl 0 rfl) ?_
  refine va_get (D := D) (ci := 4) (v := .ref (a0 2)) (C := RX4) (T := TX4) (N := 4) hx hb hts inw_X4_append_4 hown hK hP 0 rfl rfl 0 (by decide) (hts (.fieldLink RX4 12 "RingGames$State" "game" "LRingGames$Game;") (List.mem_of_getElem? (i := 1) rfl)) (fun _ h9 => h9) rfl dX4_append_1 ?_
  refine va_get (D := D) (ci := 1) (v := .int o0.1.1) (C := RX1) (T := TX1) (N := 4) hx hb hts inw_X4_append_1 hown hK hP 2 rfl rfl 0 (by decide) (hts (.fieldLink RX4 39 "RingGames$Game" "size" "I") (List.mem_of_getElem? (i := 2) rfl)) (fun _ h9 => h9) rfl dX4_append_4 ?_
  refine lv_istore_n (lv' := [(3, .int o0.1.1), (0, .ref (a0 0)), (1, .int p1), (2, .int p2)]) hx hb dX4_append_7 rfl hl (by decide) rfl (fun ls hl => ?_)
  refine lv_aload_n hx hb dX4_append_8 rfl (lv_at hl 1 rfl) ?_
  refine va_get (D := D) (ci := 4) (v := .ref (a0 2)) (C := RX4) (T := TX4) (N := 4) hx hb hts inw_X4_append_4 hown hK hP 0 rfl rfl 0 (by decide) (hts (.fieldLink RX4 12 "RingGames$State" "game" "LRingGames$Game;") (List.mem_of_getElem? (i := 1) rfl)) (fun _ h9 => h9) rfl dX4_append_9 ?_
  refine va_get (D := D) (ci := 1) (v := .ref (a0 3)) (C := RX1) (T := TX1) (N := 4) hx hb hts inw_X4_append_1 hown hK hP 2 rfl rfl 1 (by decide) (hts (.fieldLink RX4 42 "RingGames$Game" "owners" "[I") (List.mem_of_getElem? (i := 3) rfl)) (fun _ h9 => h9) rfl dX4_append_12 ?_
  refine lv_iload_n hx hb dX4_append_15 rfl (lv_at hl 0 rfl) ?_
  refine lv_iload_n hx hb dX4_append_16 rfl (lv_at hl 2 rfl) ?_
  obtain ⟨g1, hf⟩ := vg_some hf
  refine va_iast hx hb hK hP hD hS 3 0 rfl rfl g1 dX4_append_17 (fun H locs hP hD hS => ?_)
  have hP : va_P D vwCl ((w_S a0 cI ((o0.1.1, (upd o0.1.2.1 (o0.1.1).toNatClampNeg p1), o0.1.2.2.1, o0.1.2.2.2), o0.2.1, o0.2.2.1, o0.2.2.2)) ++ R) H := hP
  have hD : va_D A ((w_S a0 cI ((o0.1.1, (upd o0.1.2.1 (o0.1.1).toNatClampNeg p1), o0.1.2.2.1, o0.1.2.2.2), o0.2.1, o0.2.2.1, o0.2.2.2)) ++ R) := hD
  refine lv_aload_n hx hb dX4_append_18 rfl (lv_at hl 1 rfl) ?_
  refine va_get (D := D) (ci := 4) (v := .ref (a0 2)) (C := RX4) (T := TX4) (N := 4) hx hb hts inw_X4_append_4 hown hK hP 0 rfl rfl 0 (by decide) (hts (.fieldLink RX4 12 "RingGames$State" "game" "LRingGames$Game;") (List.mem_of_getElem? (i := 1) rfl)) (fun _ h9 => h9) rfl dX4_append_19 ?_
  refine va_get (D := D) (ci := 1) (v := .ref (a0 4)) (C := RX1) (T := TX1) (N := 4) hx hb hts inw_X4_append_1 hown hK hP 2 rfl rfl 2 (by decide) (hts (.fieldLink RX4 45 "RingGames$Game" "colours" "[I") (List.mem_of_getElem? (i := 4) rfl)) (fun _ h9 => h9) rfl dX4_append_22 ?_
  refine lv_iload_n hx hb dX4_append_25 rfl (lv_at hl 0 rfl) ?_
  refine lv_iload_n hx hb dX4_append_26 rfl (lv_at hl 3 rfl) ?_
  refine va_iast hx hb hK hP hD hS 4 0 rfl rfl g1 dX4_append_27 (fun H locs hP hD hS => ?_)
  have hP : va_P D vwCl ((w_S a0 cI ((o0.1.1, (upd o0.1.2.1 (o0.1.1).toNatClampNeg p1), (upd o0.1.2.2.1 (o0.1.1).toNatClampNeg p2), o0.1.2.2.2), o0.2.1, o0.2.2.1, o0.2.2.2)) ++ R) H := hP
  have hD : va_D A ((w_S a0 cI ((o0.1.1, (upd o0.1.2.1 (o0.1.1).toNatClampNeg p1), (upd o0.1.2.2.1 (o0.1.1).toNatClampNeg p2), o0.1.2.2.2), o0.2.1, o0.2.2.1, o0.2.2.2)) ++ R) := hD
  refine lv_aload_n hx hb dX4_append_28 rfl (lv_at hl 1 rfl) ?_
  refine va_get (D := D) (ci := 4) (v := .ref (a0 2)) (C := RX4) (T := TX4) (N := 4) hx hb hts inw_X4_append_4 hown hK hP 0 rfl rfl 0 (by decide) (hts (.fieldLink RX4 12 "RingGames$State" "game" "LRingGames$Game;") (List.mem_of_getElem? (i := 1) rfl)) (fun _ h9 => h9) rfl dX4_append_29 ?_
  refine va_get (D := D) (ci := 1) (v := .ref (a0 5)) (C := RX1) (T := TX1) (N := 4) hx hb hts inw_X4_append_1 hown hK hP 2 rfl rfl 3 (by decide) (hts (.fieldLink RX4 48 "RingGames$Game" "arrows" "[I") (List.mem_of_getElem? (i := 5) rfl)) (fun _ h9 => h9) rfl dX4_append_32 ?_
  refine lv_iload_n hx hb dX4_append_35 rfl (lv_at hl 0 rfl) ?_
  refine lv_iconst (v := 0) hx hb dX4_append_36 (by decide) ?_
  refine va_iast hx hb hK hP hD hS 5 0 rfl rfl g1 dX4_append_37 (fun H locs hP hD hS => ?_)
  have hP : va_P D vwCl ((w_S a0 cI ((o0.1.1, (upd o0.1.2.1 (o0.1.1).toNatClampNeg p1), (upd o0.1.2.2.1 (o0.1.1).toNatClampNeg p2), (upd o0.1.2.2.2 (o0.1.1).toNatClampNeg 0)), o0.2.1, o0.2.2.1, o0.2.2.2)) ++ R) H := hP
  have hD : va_D A ((w_S a0 cI ((o0.1.1, (upd o0.1.2.1 (o0.1.1).toNatClampNeg p1), (upd o0.1.2.2.1 (o0.1.1).toNatClampNeg p2), (upd o0.1.2.2.2 (o0.1.1).toNatClampNeg 0)), o0.2.1, o0.2.2.1, o0.2.2.2)) ++ R) := hD
  refine lv_aload_n hx hb dX4_append_38 rfl (lv_at hl 1 rfl) ?_
  refine va_get (D := D) (ci := 4) (v := .ref (a0 1)) (C := RX4) (T := TX4) (N := 4) hx hb hts inw_X4_append_4 hown hK hP 0 rfl rfl 1 (by decide) (hts (.fieldLink RX4 18 "RingGames$State" "choices" "[I") (List.mem_of_getElem? (i := 6) rfl)) (fun _ h9 => h9) rfl dX4_append_39 ?_
  refine lv_iload_n hx hb dX4_append_42 rfl (lv_at hl 0 rfl) ?_
  refine lv_bipush (v := 14) hx hb dX4_append_43 (by decide) ?_
  refine va_iast hx hb hK hP hD hS 1 0 rfl rfl g1 dX4_append_45 (fun H locs hP hD hS => ?_)
  have hP : va_P D vwCl ((w_S a0 cI ((o0.1.1, (upd o0.1.2.1 (o0.1.1).toNatClampNeg p1), (upd o0.1.2.2.1 (o0.1.1).toNatClampNeg p2), (upd o0.1.2.2.2 (o0.1.1).toNatClampNeg 0)), (upd o0.2.1 (o0.1.1).toNatClampNeg 14), o0.2.2.1, o0.2.2.2)) ++ R) H := hP
  have hD : va_D A ((w_S a0 cI ((o0.1.1, (upd o0.1.2.1 (o0.1.1).toNatClampNeg p1), (upd o0.1.2.2.1 (o0.1.1).toNatClampNeg p2), (upd o0.1.2.2.2 (o0.1.1).toNatClampNeg 0)), (upd o0.2.1 (o0.1.1).toNatClampNeg 14), o0.2.2.1, o0.2.2.2)) ++ R) := hD
  refine lv_aload_n hx hb dX4_append_46 rfl (lv_at hl 1 rfl) ?_
  refine va_get (D := D) (ci := 4) (v := .ref (a0 2)) (C := RX4) (T := TX4) (N := 4) hx hb hts inw_X4_append_4 hown hK hP 0 rfl rfl 0 (by decide) (hts (.fieldLink RX4 12 "RingGames$State" "game" "LRingGames$Game;") (List.mem_of_getElem? (i := 1) rfl)) (fun _ h9 => h9) rfl dX4_append_47 ?_
  refine lv_dup hx hb dX4_append_50 rfl ?_
  refine va_get (D := D) (ci := 1) (v := .int o0.1.1) (C := RX1) (T := TX1) (N := 4) hx hb hts inw_X4_append_1 hown hK hP 2 rfl rfl 0 (by decide) (hts (.fieldLink RX4 39 "RingGames$Game" "size" "I") (List.mem_of_getElem? (i := 2) rfl)) (fun _ h9 => h9) rfl dX4_append_51 ?_
  refine lv_iconst (v := 1) hx hb dX4_append_54 (by decide) ?_
  refine lv_iadd hx hb dX4_append_55 ?_
  refine va_put (D := D) (ci := 1) (v := .int (o0.1.1 + 1)) (ty := .int) (C := RX1) (T := TX1) (N := 4) hx hb hts inw_X4_append_1 tyX1 tyX1_ok nmX1 hown hK hP hD hS 2 rfl rfl 0 (by decide) (hts (.fieldLink RX4 39 "RingGames$Game" "size" "I") (List.mem_of_getElem? (i := 2) rfl)) (fun _ h9 => h9) rfl (tyX1_ok 0 (by decide)) rfl rfl (Nat.le_of_ble_eq_true rfl) dX4_append_56 (fun H locs hP hD hS => ?_)
  have hP : va_P D vwCl ((w_S a0 cI (((o0.1.1 + 1), (upd o0.1.2.1 (o0.1.1).toNatClampNeg p1), (upd o0.1.2.2.1 (o0.1.1).toNatClampNeg p2), (upd o0.1.2.2.2 (o0.1.1).toNatClampNeg 0)), (upd o0.2.1 (o0.1.1).toNatClampNeg 14), o0.2.2.1, o0.2.2.2)) ++ R) H := hP
  have hD : va_D A ((w_S a0 cI (((o0.1.1 + 1), (upd o0.1.2.1 (o0.1.1).toNatClampNeg p1), (upd o0.1.2.2.1 (o0.1.1).toNatClampNeg p2), (upd o0.1.2.2.2 (o0.1.1).toNatClampNeg 0)), (upd o0.2.1 (o0.1.1).toNatClampNeg 14), o0.2.2.1, o0.2.2.2)) ++ R) := hD
  refine lv_iload_n hx hb dX4_append_59 rfl (lv_at hl 0 rfl) ?_
  have hf := Option.some.inj hf
  subst hf
  exact hret _ _ _ _ _ dX4_append_60 rfl hP hD hS rfl
def f_X4_choiceCount_L4 (d_o0 : SS) : Nat → Int32 → Int32 → Option Int32
  | 0, _, _ => none
  | k + 1, d_l1, d_l2 => (if d_o0.1.1 ≤ d_l2 then some (d_l1) else vg d_l2 14 ((if (d_o0.2.1 (d_l2).toNatClampNeg) = 14 then f_X4_choiceCount_L4 d_o0 k (d_l1 + 0) (d_l2 + 1) else f_X4_choiceCount_L4 d_o0 k (d_l1 + 1) (d_l2 + 1))))
def f_X4_choiceCount (n : Nat) (o0 : SS) : Option Int32 := (f_X4_choiceCount_L4 o0 n 0 0).bind fun q2 => some (q2)
theorem inw_X4_choiceCount_1 : ∀ w ∈ wsX10, w ∈ wsX4_choiceCount := fun _ h => List.mem_cons_of_mem _ (List.mem_append_right _ h)
theorem inw_X4_choiceCount_4 : ∀ w ∈ wsX40, w ∈ wsX4_choiceCount := fun _ h => List.mem_cons_of_mem _ (List.mem_append_left _ (List.mem_append_right _ h))
theorem hd_X4_choiceCount : yX4_choiceCount.cls = RX4 ∧ yX4_choiceCount.cls ≠ "java/lang/invoke/MethodHandle" ∧ yX4_choiceCount.cls ≠ "java/lang/invoke/VarHandle" ∧ (parseMethodDescriptor yX4_choiceCount.desc).map (fun d => d.parameters.length) = some 0 := by decide +kernel
set_option maxHeartbeats 4000000 in
set_option maxRecDepth 100000 in
theorem c_X4_choiceCount (l : Launch) (D : va_G) (cI cC cS : ClassId) (R : va_W) (a0 : Nat → Nat) (o0 : SS) (n : Nat) (r : Int32) (hf : f_X4_choiceCount n o0 = some r) : CI l yX4_choiceCount wsX4_choiceCount 0 0 D cI cC cS [.ref (a0 0)] ((w_S a0 cI o0) ++ R) r ((w_S a0 cI o0) ++ R) := by
  refine XI.of (cc := cX4_choiceCount) (maxL := 3) (ty := .int) (own := RX4) (by decide) rfl rfl (Nat.le_of_ble_eq_true rfl) ?_
  intro p e s m args below meth c A Q S hK hN hA hP hD hS ls hl hret
  obtain ⟨hx, hb, hml, hown, hts⟩ := id S
  have hl : lv_has ls 3 [(0, .ref (a0 0))] := hl
  unfold f_X4_choiceCount at hf
  refine lv_iconst (v := 0) hx hb dX4_choiceCount_0 (by decide) ?_
  refine lv_istore_n (lv' := [(1, .int 0), (0, .ref (a0 0))]) hx hb dX4_choiceCount_1 rfl hl (by decide) rfl (fun ls hl => ?_)
  refine lv_iconst (v := 0) hx hb dX4_choiceCount_2 (by decide) ?_
  refine lv_istore_n (lv' := [(2, .int 0), (1, .int 0), (0, .ref (a0 0))]) hx hb dX4_choiceCount_3 rfl hl (by decide) rfl (fun ls hl => ?_)
  obtain ⟨q2, hq2, hf⟩ := ob_some hf
  have L1 : ∀ (k : Nat) (v_l1_L1 : Int32) (v_l2_L1 : Int32) (q_L1 : Int32), f_X4_choiceCount_L4 o0 k v_l1_L1 v_l2_L1 = some q_L1 → ∀ (H : Heap) (locs : List Loc), va_P D vwCl ((w_S a0 cI o0) ++ R) H → va_D A ((w_S a0 cI o0) ++ R) → va_S A s.heap H locs → ∀ ls : Array Slot, lv_has ls 3 [(0, .ref (a0 0)), (1, .int v_l1_L1), (2, .int v_l2_L1)] → (∀ (H : Heap) (locs : List Loc), va_P D vwCl ((w_S a0 cI o0) ++ R) H → va_D A ((w_S a0 cI o0) ++ R) → va_S A s.heap H locs → ∀ ls : Array Slot, lv_has ls 3 [(1, .int q_L1)] → W p l e (xR 0 0) s m args below meth c H locs 0 0 Q (F0 m 40 ls [])) → W p l e (xR 0 0) s m args below meth c H locs 0 0 Q (F0 m 4 ls []) := by
    intro k
    induction k with
    | zero => intro v_l1_L1 v_l2_L1 q_L1 hf; simp [f_X4_choiceCount_L4] at hf
    | succ k ih =>
      intro v_l1_L1 v_l2_L1 q_L1 hf H locs hP hD hS ls hl kx
      rw [f_X4_choiceCount_L4] at hf
      refine lv_iload_n hx hb dX4_choiceCount_4 rfl (lv_at hl 2 rfl) ?_
      refine lv_aload_n hx hb dX4_choiceCount_5 rfl (lv_at hl 0 rfl) ?_
      refine va_get (D := D) (ci := 4) (v := .ref (a0 2)) (C := RX4) (T := TX4) (N := 4) hx hb hts inw_X4_choiceCount_4 hown hK hP 0 rfl rfl 0 (by decide) (hts (.fieldLink RX4 12 "RingGames$State" "game" "LRingGames$Game;") (List.mem_of_getElem? (i := 1) rfl)) (fun _ h9 => h9) rfl dX4_choiceCount_6 ?_
      refine va_get (D := D) (ci := 1) (v := .int o0.1.1) (C := RX1) (T := TX1) (N := 4) hx hb hts inw_X4_choiceCount_1 hown hK hP 2 rfl rfl 0 (by decide) (hts (.fieldLink RX4 39 "RingGames$Game" "size" "I") (List.mem_of_getElem? (i := 2) rfl)) (fun _ h9 => h9) rfl dX4_choiceCount_9 ?_
      refine lv_icmp_ge (tgt := 40) hx hb dX4_choiceCount_12 (by decide) (fun c3 => ?_) (fun c3 => ?_)
      · have hf := if_t hf c3
        have hf := Option.some.inj hf
        subst hf
        exact kx _ _ hP hD hS _ (lv_sub hl [1] rfl)
      · have hf := if_f hf c3
        refine lv_iload_n hx hb dX4_choiceCount_15 rfl (lv_at hl 1 rfl) ?_
        refine lv_aload_n hx hb dX4_choiceCount_16 rfl (lv_at hl 0 rfl) ?_
        refine va_get (D := D) (ci := 4) (v := .ref (a0 1)) (C := RX4) (T := TX4) (N := 4) hx hb hts inw_X4_choiceCount_4 hown hK hP 0 rfl rfl 1 (by decide) (hts (.fieldLink RX4 18 "RingGames$State" "choices" "[I") (List.mem_of_getElem? (i := 3) rfl)) (fun _ h9 => h9) rfl dX4_choiceCount_17 ?_
        refine lv_iload_n hx hb dX4_choiceCount_20 rfl (lv_at hl 2 rfl) ?_
        obtain ⟨g4, hf⟩ := vg_some hf
        refine va_iald hx hb hK hP 1 0 rfl rfl g4 dX4_choiceCount_21 ?_
        refine lv_bipush (v := 14) hx hb dX4_choiceCount_22 (by decide) ?_
        refine lv_icmp_ne (tgt := 31) hx hb dX4_choiceCount_24 (by decide) (fun c5 => ?_) (fun c5 => ?_)
        · have hf := if_f hf c5
          refine lv_iconst (v := 1) hx hb dX4_choiceCount_31 (by decide) ?_
          refine lv_iadd hx hb dX4_choiceCount_32 ?_
          refine lv_istore_n (lv' := [(1, .int (v_l1_L1 + 1)), (0, .ref (a0 0)), (2, .int v_l2_L1)]) hx hb dX4_choiceCount_33 rfl hl (by decide) rfl (fun ls hl => ?_)
          refine lv_iinc (v := (v_l2_L1 + 1)) (lv' := [(2, .int (v_l2_L1 + 1)), (1, .int (v_l1_L1 + 1)), (0, .ref (a0 0))]) hx hb dX4_choiceCount_34 hl (k := 2) rfl (congrArg (fun z => v_l2_L1 + z) (by decide)) (by decide) rfl (fun ls hl => ?_)
          refine lv_goto (tgt := 4) hx hb dX4_choiceCount_37 (by decide) ?_
          exact ih (v_l1_L1 + 1) (v_l2_L1 + 1) _ hf _ _ hP hD hS _ (lv_sub hl [2, 1, 0] rfl) kx
        · have hf := if_t hf c5
          refine lv_iconst (v := 0) hx hb dX4_choiceCount_27 (by decide) ?_
          refine lv_goto (tgt := 32) hx hb dX4_choiceCount_28 (by decide) ?_
          refine lv_iadd hx hb dX4_choiceCount_32 ?_
          refine lv_istore_n (lv' := [(1, .int (v_l1_L1 + 0)), (0, .ref (a0 0)), (2, .int v_l2_L1)]) hx hb dX4_choiceCount_33 rfl hl (by decide) rfl (fun ls hl => ?_)
          refine lv_iinc (v := (v_l2_L1 + 1)) (lv' := [(2, .int (v_l2_L1 + 1)), (1, .int (v_l1_L1 + 0)), (0, .ref (a0 0))]) hx hb dX4_choiceCount_34 hl (k := 2) rfl (congrArg (fun z => v_l2_L1 + z) (by decide)) (by decide) rfl (fun ls hl => ?_)
          refine lv_goto (tgt := 4) hx hb dX4_choiceCount_37 (by decide) ?_
          exact ih (v_l1_L1 + 0) (v_l2_L1 + 1) _ hf _ _ hP hD hS _ (lv_sub hl [2, 1, 0] rfl) kx
  refine L1 n 0 0 q2 hq2 _ _ hP hD hS _ (lv_sub hl [2, 1, 0] rfl) ?_
  clear hP hD hS hl
  intro H locs hP hD hS ls hl
  refine lv_iload_n hx hb dX4_choiceCount_40 rfl (lv_at hl 0 rfl) ?_
  have hf := Option.some.inj hf
  subst hf
  exact hret _ _ _ _ _ dX4_choiceCount_41 rfl hP hD hS rfl
def f_X5_wayFrom (o0 : KK) (p1 : Int32) : Option Int32 := (if p1 < 0 then some (14) else (if 14 ≤ p1 then some (14) else vg p1 14 (some ((o0.1 (p1).toNatClampNeg)))))
theorem inw_X5_wayFrom_5 : ∀ w ∈ wsX50, w ∈ wsX5_wayFrom := fun _ h => List.mem_cons_of_mem _ (List.mem_append_right _ h)
theorem hd_X5_wayFrom : yX5_wayFrom.cls = RX5 ∧ yX5_wayFrom.cls ≠ "java/lang/invoke/MethodHandle" ∧ yX5_wayFrom.cls ≠ "java/lang/invoke/VarHandle" ∧ (parseMethodDescriptor yX5_wayFrom.desc).map (fun d => d.parameters.length) = some 1 := by decide +kernel
set_option maxHeartbeats 4000000 in
set_option maxRecDepth 100000 in
theorem c_X5_wayFrom (l : Launch) (D : va_G) (cI cC cS : ClassId) (R : va_W) (a0 : Nat → Nat) (o0 : KK) (p1 : Int32) (r : Int32) (hf : f_X5_wayFrom o0 p1 = some r) : CI l yX5_wayFrom wsX5_wayFrom 0 0 D cI cC cS [.ref (a0 0), .int p1] ((w_K a0 cI o0) ++ R) r ((w_K a0 cI o0) ++ R) := by
  refine XI.of (cc := cX5_wayFrom) (maxL := 2) (ty := .int) (own := RX5) (by decide) rfl rfl (Nat.le_of_ble_eq_true rfl) ?_
  intro p e s m args below meth c A Q S hK hN hA hP hD hS ls hl hret
  obtain ⟨hx, hb, hml, hown, hts⟩ := id S
  have hl : lv_has ls 2 [(0, .ref (a0 0)), (1, .int p1)] := hl
  unfold f_X5_wayFrom at hf
  refine lv_iload_n hx hb dX5_wayFrom_0 rfl (lv_at hl 1 rfl) ?_
  refine lv_if_lt (tgt := 19) hx hb dX5_wayFrom_1 (by decide) (fun c1 => ?_) (fun c1 => ?_)
  · have hf := if_t hf c1
    refine lv_bipush (v := 14) hx hb dX5_wayFrom_19 (by decide) ?_
    have hf := Option.some.inj hf
    subst hf
    exact hret _ _ _ _ _ dX5_wayFrom_21 rfl hP hD hS rfl
  · have hf := if_f hf c1
    refine lv_iload_n hx hb dX5_wayFrom_4 rfl (lv_at hl 1 rfl) ?_
    refine lv_bipush (v := 14) hx hb dX5_wayFrom_5 (by decide) ?_
    refine lv_icmp_ge (tgt := 19) hx hb dX5_wayFrom_7 (by decide) (fun c2 => ?_) (fun c2 => ?_)
    · have hf := if_t hf c2
      refine lv_bipush (v := 14) hx hb dX5_wayFrom_19 (by decide) ?_
      have hf := Option.some.inj hf
      subst hf
      exact hret _ _ _ _ _ dX5_wayFrom_21 rfl hP hD hS rfl
    · have hf := if_f hf c2
      refine lv_aload_n hx hb dX5_wayFrom_10 rfl (lv_at hl 0 rfl) ?_
      refine va_get (D := D) (ci := 5) (v := .ref (a0 1)) (C := RX5) (T := TX5) (N := 4) hx hb hts inw_X5_wayFrom_5 hown hK hP 0 rfl rfl 0 (by decide) (hts (.fieldLink RX5 9 "RingGames$Walk" "ways" "[I") (List.mem_of_getElem? (i := 1) rfl)) (fun _ h9 => h9) rfl dX5_wayFrom_11 ?_
      refine lv_iload_n hx hb dX5_wayFrom_14 rfl (lv_at hl 1 rfl) ?_
      obtain ⟨g3, hf⟩ := vg_some hf
      refine va_iald hx hb hK hP 1 0 rfl rfl g3 dX5_wayFrom_15 ?_
      refine lv_goto (tgt := 21) hx hb dX5_wayFrom_16 (by decide) ?_
      have hf := Option.some.inj hf
      subst hf
      exact hret _ _ _ _ _ dX5_wayFrom_21 rfl hP hD hS rfl
def f_X5_follow_L20 : Nat → Int32 → KK → Option KK
  | 0, _, _ => none
  | k + 1, d_l2, d_o0 => (if 14 ≤ d_o0.2.1 then some (d_o0) else (if d_o0.2.2.1 = 0 then (f_X5_wayFrom d_o0 d_o0.2.2.2).bind fun q4 => (if q4 = 14 then some (d_o0) else (f_X5_wayFrom d_o0 d_o0.2.2.2).bind fun q6 => (f_X6_contains d_l2 q6).bind fun q7 => zg q7 ((f_X6_bit q6).bind fun q9 => f_X5_follow_L20 k (d_l2 ||| q9) (d_o0.1, (d_o0.2.1 + 1), q7, q6))) else some (d_o0)))
def f_X5_follow (n : Nat) (o0 : KK) (p1 : Int32) : Option KK := (f_X6_bit p1).bind fun q1 => (f_X5_follow_L20 n q1 (o0.1, 0, 0, p1)).bind fun q3 => some (q3)
theorem inw_X5_follow_5 : ∀ w ∈ wsX50, w ∈ wsX5_follow := fun _ h => List.mem_cons_of_mem _ (List.mem_append_right _ h)
theorem hd_X5_follow : yX5_follow.cls = RX5 ∧ yX5_follow.cls ≠ "java/lang/invoke/MethodHandle" ∧ yX5_follow.cls ≠ "java/lang/invoke/VarHandle" ∧ (parseMethodDescriptor yX5_follow.desc).map (fun d => d.parameters.length) = some 1 := by decide +kernel
set_option maxHeartbeats 4000000 in
set_option maxRecDepth 100000 in
theorem c_X5_follow (l : Launch) (D : va_G) (cI cC cS : ClassId) (R : va_W) (a0 : Nat → Nat) (o0 : KK) (p1 : Int32) (n : Nat) (r : KK) (hf : f_X5_follow n o0 p1 = some r) : CV l yX5_follow wsX5_follow 1 21 D cI cC cS [.ref (a0 0), .int p1] ((w_K a0 cI o0) ++ R) ((w_K a0 cI r) ++ R) := by
  refine XV.of (cc := cX5_follow) (maxL := 3) (own := RX5) (by decide) rfl rfl (Nat.le_of_ble_eq_true rfl) ?_
  intro p e s m args below meth c A Q S hK hN hA hP hD hS ls hl hret
  obtain ⟨hx, hb, hml, hown, hts⟩ := id S
  have hl : lv_has ls 3 [(0, .ref (a0 0)), (1, .int p1)] := hl
  unfold f_X5_follow at hf
  refine lv_iload_n hx hb dX5_follow_0 rfl (lv_at hl 1 rfl) ?_
  obtain ⟨q1, hq1, hf⟩ := ob_some hf
  refine xcNi S hK hN hA hP hD hS (c_X6_bit l D cI cC cS ((w_K a0 cI o0) ++ R) p1 _ hq1) 11 rfl gX5_follow_X6_bit_n15 (List.mem_of_getElem? (i := 4) rfl) (List.mem_of_getElem? (i := 5) rfl) rfl hd_X6_bit ⟨by decide, by decide⟩ rfl hl.1 rfl (Nat.le_of_ble_eq_true rfl) dX5_follow_1 ⟨Nat.zero_le _, Nat.zero_le _⟩ (fun H locs hP hD hS => ?_)
  refine lv_istore_n (lv' := [(2, .int q1), (0, .ref (a0 0)), (1, .int p1)]) hx hb dX5_follow_4 rfl hl (by decide) rfl (fun ls hl => ?_)
  refine lv_aload_n hx hb dX5_follow_5 rfl (lv_at hl 1 rfl) ?_
  refine lv_iconst (v := 0) hx hb dX5_follow_6 (by decide) ?_
  refine va_put (D := D) (ci := 5) (v := .int 0) (ty := .int) (C := RX5) (T := TX5) (N := 4) hx hb hts inw_X5_follow_5 tyX5 tyX5_ok nmX5 hown hK hP hD hS 0 rfl rfl 1 (by decide) (hts (.fieldLink RX5 19 "RingGames$Walk" "steps" "I") (List.mem_of_getElem? (i := 1) rfl)) (fun _ h9 => h9) rfl (tyX5_ok 1 (by decide)) rfl rfl (Nat.le_of_ble_eq_true rfl) dX5_follow_7 (fun H locs hP hD hS => ?_)
  have hP : va_P D vwCl ((w_K a0 cI (o0.1, 0, o0.2.2.1, o0.2.2.2)) ++ R) H := hP
  have hD : va_D A ((w_K a0 cI (o0.1, 0, o0.2.2.1, o0.2.2.2)) ++ R) := hD
  refine lv_aload_n hx hb dX5_follow_10 rfl (lv_at hl 1 rfl) ?_
  refine lv_iconst (v := 0) hx hb dX5_follow_11 (by decide) ?_
  refine va_put (D := D) (ci := 5) (v := .int 0) (ty := .boolean) (C := RX5) (T := TX5) (N := 4) hx hb hts inw_X5_follow_5 tyX5 tyX5_ok nmX5 hown hK hP hD hS 0 rfl rfl 2 (by decide) (hts (.fieldLink RX5 23 "RingGames$Walk" "endless" "Z") (List.mem_of_getElem? (i := 2) rfl)) (fun _ h9 => h9) rfl (tyX5_ok 2 (by decide)) rfl rfl (Nat.le_of_ble_eq_true rfl) dX5_follow_12 (fun H locs hP hD hS => ?_)
  have hP : va_P D vwCl ((w_K a0 cI (o0.1, 0, 0, o0.2.2.2)) ++ R) H := hP
  have hD : va_D A ((w_K a0 cI (o0.1, 0, 0, o0.2.2.2)) ++ R) := hD
  refine lv_aload_n hx hb dX5_follow_15 rfl (lv_at hl 1 rfl) ?_
  refine lv_iload_n hx hb dX5_follow_16 rfl (lv_at hl 2 rfl) ?_
  refine va_put (D := D) (ci := 5) (v := .int p1) (ty := .int) (C := RX5) (T := TX5) (N := 4) hx hb hts inw_X5_follow_5 tyX5 tyX5_ok nmX5 hown hK hP hD hS 0 rfl rfl 3 (by decide) (hts (.fieldLink RX5 27 "RingGames$Walk" "last" "I") (List.mem_of_getElem? (i := 3) rfl)) (fun _ h9 => h9) rfl (tyX5_ok 3 (by decide)) rfl rfl (Nat.le_of_ble_eq_true rfl) dX5_follow_17 (fun H locs hP hD hS => ?_)
  have hP : va_P D vwCl ((w_K a0 cI (o0.1, 0, 0, p1)) ++ R) H := hP
  have hD : va_D A ((w_K a0 cI (o0.1, 0, 0, p1)) ++ R) := hD
  obtain ⟨q3, hq3, hf⟩ := ob_some hf
  have L2 : ∀ (k : Nat) (v_l2_L2 : Int32) (v_o0_L2 : KK) (q_L2 : KK), f_X5_follow_L20 k v_l2_L2 v_o0_L2 = some q_L2 → ∀ (H : Heap) (locs : List Loc), va_P D vwCl ((w_K a0 cI v_o0_L2) ++ R) H → va_D A ((w_K a0 cI v_o0_L2) ++ R) → va_S A s.heap H locs → ∀ ls : Array Slot, lv_has ls 3 [(0, .ref (a0 0)), (2, .int v_l2_L2)] → (∀ (H : Heap) (locs : List Loc), va_P D vwCl ((w_K a0 cI q_L2) ++ R) H → va_D A ((w_K a0 cI q_L2) ++ R) → va_S A s.heap H locs → ∀ ls : Array Slot, lv_has ls 3 [] → W p l e (xR 1 21) s m args below meth c H locs 0 0 Q (F0 m 96 ls [])) → W p l e (xR 1 21) s m args below meth c H locs 0 0 Q (F0 m 20 ls []) := by
    intro k
    induction k with
    | zero => intro v_l2_L2 v_o0_L2 q_L2 hf; simp [f_X5_follow_L20] at hf
    | succ k ih =>
      intro v_l2_L2 v_o0_L2 q_L2 hf H locs hP hD hS ls hl kx
      rw [f_X5_follow_L20] at hf
      refine lv_aload_n hx hb dX5_follow_20 rfl (lv_at hl 0 rfl) ?_
      refine va_get (D := D) (ci := 5) (v := .int v_o0_L2.2.1) (C := RX5) (T := TX5) (N := 4) hx hb hts inw_X5_follow_5 hown hK hP 0 rfl rfl 1 (by decide) (hts (.fieldLink RX5 19 "RingGames$Walk" "steps" "I") (List.mem_of_getElem? (i := 1) rfl)) (fun _ h9 => h9) rfl dX5_follow_21 ?_
      refine lv_bipush (v := 14) hx hb dX5_follow_24 (by decide) ?_
      refine lv_icmp_ge (tgt := 96) hx hb dX5_follow_26 (by decide) (fun c4 => ?_) (fun c4 => ?_)
      · have hf := if_t hf c4
        have hf := Option.some.inj hf
        subst hf
        exact kx _ _ hP hD hS _ (lv_sub hl [] rfl)
      · have hf := if_f hf c4
        refine lv_aload_n hx hb dX5_follow_29 rfl (lv_at hl 0 rfl) ?_
        refine va_get (D := D) (ci := 5) (v := .int v_o0_L2.2.2.1) (C := RX5) (T := TX5) (N := 4) hx hb hts inw_X5_follow_5 hown hK hP 0 rfl rfl 2 (by decide) (hts (.fieldLink RX5 23 "RingGames$Walk" "endless" "Z") (List.mem_of_getElem? (i := 2) rfl)) (fun _ h9 => h9) rfl dX5_follow_30 ?_
        refine lv_if_ne (tgt := 96) hx hb dX5_follow_33 (by decide) (fun c5 => ?_) (fun c5 => ?_)
        · have hf := if_f hf c5
          have hf := Option.some.inj hf
          subst hf
          exact kx _ _ hP hD hS _ (lv_sub hl [] rfl)
        · have hf := if_t hf c5
          refine lv_aload_n hx hb dX5_follow_36 rfl (lv_at hl 0 rfl) ?_
          refine lv_aload_n hx hb dX5_follow_37 rfl (lv_at hl 0 rfl) ?_
          refine va_get (D := D) (ci := 5) (v := .int v_o0_L2.2.2.2) (C := RX5) (T := TX5) (N := 4) hx hb hts inw_X5_follow_5 hown hK hP 0 rfl rfl 3 (by decide) (hts (.fieldLink RX5 27 "RingGames$Walk" "last" "I") (List.mem_of_getElem? (i := 3) rfl)) (fun _ h9 => h9) rfl dX5_follow_38 ?_
          obtain ⟨q6, hq6, hf⟩ := ob_some hf
          refine xcVi (w' := ((w_K a0 cI v_o0_L2) ++ R)) S hK hN hA hP hD hS (c_X5_wayFrom l D cI cC cS R a0 v_o0_L2 v_o0_L2.2.2.2 _ hq6) gX5_follow_X5_wayFrom rfl hd_X5_wayFrom ⟨by decide, by decide⟩ (List.Perm.refl _) (List.Perm.refl _) (ci := 5) (q := (RX5, TX5, 4)) rfl rfl rfl rfl hl.1 rfl (Nat.le_of_ble_eq_true rfl) dX5_follow_41 ⟨Nat.zero_le _, Nat.zero_le _⟩ (fun H locs hP hD hS => ?_)
          refine lv_bipush (v := 14) hx hb dX5_follow_44 (by decide) ?_
          refine lv_icmp_eq (tgt := 96) hx hb dX5_follow_46 (by decide) (fun c7 => ?_) (fun c7 => ?_)
          · have hf := if_t hf c7
            have hf := Option.some.inj hf
            subst hf
            exact kx _ _ hP hD hS _ (lv_sub hl [] rfl)
          · have hf := if_f hf c7
            refine lv_aload_n hx hb dX5_follow_49 rfl (lv_at hl 0 rfl) ?_
            refine lv_aload_n hx hb dX5_follow_50 rfl (lv_at hl 0 rfl) ?_
            refine lv_aload_n hx hb dX5_follow_51 rfl (lv_at hl 0 rfl) ?_
            refine va_get (D := D) (ci := 5) (v := .int v_o0_L2.2.2.2) (C := RX5) (T := TX5) (N := 4) hx hb hts inw_X5_follow_5 hown hK hP 0 rfl rfl 3 (by decide) (hts (.fieldLink RX5 27 "RingGames$Walk" "last" "I") (List.mem_of_getElem? (i := 3) rfl)) (fun _ h9 => h9) rfl dX5_follow_52 ?_
            obtain ⟨q8, hq8, hf⟩ := ob_some hf
            refine xcVi (w' := ((w_K a0 cI v_o0_L2) ++ R)) S hK hN hA hP hD hS (c_X5_wayFrom l D cI cC cS R a0 v_o0_L2 v_o0_L2.2.2.2 _ hq8) gX5_follow_X5_wayFrom rfl hd_X5_wayFrom ⟨by decide, by decide⟩ (List.Perm.refl _) (List.Perm.refl _) (ci := 5) (q := (RX5, TX5, 4)) rfl rfl rfl rfl hl.1 rfl (Nat.le_of_ble_eq_true rfl) dX5_follow_55 ⟨Nat.zero_le _, Nat.zero_le _⟩ (fun H locs hP hD hS => ?_)
            refine va_put (D := D) (ci := 5) (v := .int q8) (ty := .int) (C := RX5) (T := TX5) (N := 4) hx hb hts inw_X5_follow_5 tyX5 tyX5_ok nmX5 hown hK hP hD hS 0 rfl rfl 3 (by decide) (hts (.fieldLink RX5 27 "RingGames$Walk" "last" "I") (List.mem_of_getElem? (i := 3) rfl)) (fun _ h9 => h9) rfl (tyX5_ok 3 (by decide)) rfl rfl (Nat.le_of_ble_eq_true rfl) dX5_follow_58 (fun H locs hP hD hS => ?_)
            have hP : va_P D vwCl ((w_K a0 cI (v_o0_L2.1, v_o0_L2.2.1, v_o0_L2.2.2.1, q8)) ++ R) H := hP
            have hD : va_D A ((w_K a0 cI (v_o0_L2.1, v_o0_L2.2.1, v_o0_L2.2.2.1, q8)) ++ R) := hD
            refine lv_aload_n hx hb dX5_follow_61 rfl (lv_at hl 0 rfl) ?_
            refine lv_dup hx hb dX5_follow_62 rfl ?_
            refine va_get (D := D) (ci := 5) (v := .int v_o0_L2.2.1) (C := RX5) (T := TX5) (N := 4) hx hb hts inw_X5_follow_5 hown hK hP 0 rfl rfl 1 (by decide) (hts (.fieldLink RX5 19 "RingGames$Walk" "steps" "I") (List.mem_of_getElem? (i := 1) rfl)) (fun _ h9 => h9) rfl dX5_follow_63 ?_
            refine lv_iconst (v := 1) hx hb dX5_follow_66 (by decide) ?_
            refine lv_iadd hx hb dX5_follow_67 ?_
            refine va_put (D := D) (ci := 5) (v := .int (v_o0_L2.2.1 + 1)) (ty := .int) (C := RX5) (T := TX5) (N := 4) hx hb hts inw_X5_follow_5 tyX5 tyX5_ok nmX5 hown hK hP hD hS 0 rfl rfl 1 (by decide) (hts (.fieldLink RX5 19 "RingGames$Walk" "steps" "I") (List.mem_of_getElem? (i := 1) rfl)) (fun _ h9 => h9) rfl (tyX5_ok 1 (by decide)) rfl rfl (Nat.le_of_ble_eq_true rfl) dX5_follow_68 (fun H locs hP hD hS => ?_)
            have hP : va_P D vwCl ((w_K a0 cI (v_o0_L2.1, (v_o0_L2.2.1 + 1), v_o0_L2.2.2.1, q8)) ++ R) H := hP
            have hD : va_D A ((w_K a0 cI (v_o0_L2.1, (v_o0_L2.2.1 + 1), v_o0_L2.2.2.1, q8)) ++ R) := hD
            refine lv_aload_n hx hb dX5_follow_71 rfl (lv_at hl 0 rfl) ?_
            refine lv_iload_n hx hb dX5_follow_72 rfl (lv_at hl 1 rfl) ?_
            refine lv_aload_n hx hb dX5_follow_73 rfl (lv_at hl 0 rfl) ?_
            refine va_get (D := D) (ci := 5) (v := .int q8) (C := RX5) (T := TX5) (N := 4) hx hb hts inw_X5_follow_5 hown hK hP 0 rfl rfl 3 (by decide) (hts (.fieldLink RX5 27 "RingGames$Walk" "last" "I") (List.mem_of_getElem? (i := 3) rfl)) (fun _ h9 => h9) rfl dX5_follow_74 ?_
            obtain ⟨q9, hq9, hf⟩ := ob_some hf
            refine xcNi S hK hN hA hP hD hS (c_X6_contains l D cI cC cS ((w_K a0 cI (v_o0_L2.1, (v_o0_L2.2.1 + 1), v_o0_L2.2.2.1, q8)) ++ R) v_l2_L2 q8 _ hq9) 12 rfl gX5_follow_X6_contains_n33 (List.mem_of_getElem? (i := 13) rfl) (List.mem_of_getElem? (i := 5) rfl) rfl hd_X6_contains ⟨by decide, by decide⟩ rfl hl.1 rfl (Nat.le_of_ble_eq_true rfl) dX5_follow_77 ⟨Nat.zero_le _, Nat.zero_le _⟩ (fun H locs hP hD hS => ?_)
            obtain ⟨z10, hf⟩ := zg_some hf
            refine va_put (D := D) (ci := 5) (v := .int q9) (ty := .boolean) (C := RX5) (T := TX5) (N := 4) hx hb hts inw_X5_follow_5 tyX5 tyX5_ok nmX5 hown hK hP hD hS 0 rfl rfl 2 (by decide) (hts (.fieldLink RX5 23 "RingGames$Walk" "endless" "Z") (List.mem_of_getElem? (i := 2) rfl)) (fun _ h9 => h9) rfl (tyX5_ok 2 (by decide)) (z_nar z10) (z_fit z10) (Nat.le_of_ble_eq_true rfl) dX5_follow_80 (fun H locs hP hD hS => ?_)
            have hP : va_P D vwCl ((w_K a0 cI (v_o0_L2.1, (v_o0_L2.2.1 + 1), q9, q8)) ++ R) H := hP
            have hD : va_D A ((w_K a0 cI (v_o0_L2.1, (v_o0_L2.2.1 + 1), q9, q8)) ++ R) := hD
            refine lv_iload_n hx hb dX5_follow_83 rfl (lv_at hl 1 rfl) ?_
            refine lv_aload_n hx hb dX5_follow_84 rfl (lv_at hl 0 rfl) ?_
            refine va_get (D := D) (ci := 5) (v := .int q8) (C := RX5) (T := TX5) (N := 4) hx hb hts inw_X5_follow_5 hown hK hP 0 rfl rfl 3 (by decide) (hts (.fieldLink RX5 27 "RingGames$Walk" "last" "I") (List.mem_of_getElem? (i := 3) rfl)) (fun _ h9 => h9) rfl dX5_follow_85 ?_
            obtain ⟨q11, hq11, hf⟩ := ob_some hf
            refine xcNi S hK hN hA hP hD hS (c_X6_bit l D cI cC cS ((w_K a0 cI (v_o0_L2.1, (v_o0_L2.2.1 + 1), q9, q8)) ++ R) q8 _ hq11) 11 rfl gX5_follow_X6_bit_n15 (List.mem_of_getElem? (i := 4) rfl) (List.mem_of_getElem? (i := 5) rfl) rfl hd_X6_bit ⟨by decide, by decide⟩ rfl hl.1 rfl (Nat.le_of_ble_eq_true rfl) dX5_follow_88 ⟨Nat.zero_le _, Nat.zero_le _⟩ (fun H locs hP hD hS => ?_)
            refine lv_ior hx hb dX5_follow_91 ?_
            refine lv_istore_n (lv' := [(2, .int (v_l2_L2 ||| q11)), (0, .ref (a0 0))]) hx hb dX5_follow_92 rfl hl (by decide) rfl (fun ls hl => ?_)
            refine lv_goto (tgt := 20) hx hb dX5_follow_93 (by decide) ?_
            exact ih (v_l2_L2 ||| q11) (v_o0_L2.1, (v_o0_L2.2.1 + 1), q9, q8) _ hf _ _ hP hD hS _ (lv_sub hl [1, 0] rfl) kx
  refine L2 n q1 (o0.1, 0, 0, p1) q3 hq3 _ _ hP hD hS _ (lv_sub hl [1, 0] rfl) ?_
  clear hP hD hS hl
  intro H locs hP hD hS ls hl
  have hf := Option.some.inj hf
  subst hf
  exact hret _ _ _ _ dX5_follow_96 hP hD hS
def f_X5_leastColourAgain_L22 (d_o0 : KK) (d_o1 : GG) : Nat → Int32 → Int32 → Int32 → Option Int32
  | 0, _, _, _ => none
  | k + 1, d_l2, d_l3, d_l4 => (if 14 ≤ d_l4 then some (d_l2) else (f_X1_has d_o1 d_l3).bind fun q4 => (if q4 = 0 then some (d_l2) else (if d_l3 = d_o0.2.2.2 then some (d_l2) else vg d_l3 14 ((f_X5_wayFrom d_o0 d_l3).bind fun q8 => f_X5_leastColourAgain_L22 d_o0 d_o1 k (if (d_o1.2.2.1 (d_l3).toNatClampNeg) < d_l2 then (d_o1.2.2.1 (d_l3).toNatClampNeg) else d_l2) q8 (d_l4 + 1)))))
def f_X5_leastColourAgain (n : Nat) (o0 : KK) (o1 : GG) : Option Int32 := vg o0.2.2.2 14 ((f_X5_wayFrom o0 o0.2.2.2).bind fun q2 => (f_X5_leastColourAgain_L22 o0 o1 n (o1.2.2.1 (o0.2.2.2).toNatClampNeg) q2 0).bind fun q4 => some (q4))
theorem inw_X5_leastColourAgain_1 : ∀ w ∈ wsX10, w ∈ wsX5_leastColourAgain := fun _ h => List.mem_cons_of_mem _ (List.mem_append_left _ (List.mem_append_right _ h))
theorem inw_X5_leastColourAgain_5 : ∀ w ∈ wsX50, w ∈ wsX5_leastColourAgain := fun _ h => List.mem_cons_of_mem _ (List.mem_append_right _ h)
theorem hd_X5_leastColourAgain : yX5_leastColourAgain.cls = RX5 ∧ yX5_leastColourAgain.cls ≠ "java/lang/invoke/MethodHandle" ∧ yX5_leastColourAgain.cls ≠ "java/lang/invoke/VarHandle" ∧ (parseMethodDescriptor yX5_leastColourAgain.desc).map (fun d => d.parameters.length) = some 1 := by decide +kernel
set_option maxHeartbeats 4000000 in
set_option maxRecDepth 100000 in
theorem c_X5_leastColourAgain (l : Launch) (D : va_G) (cI cC cS : ClassId) (R : va_W) (a0 : Nat → Nat) (a1 : Nat → Nat) (o0 : KK) (o1 : GG) (n : Nat) (r : Int32) (hf : f_X5_leastColourAgain n o0 o1 = some r) : CI l yX5_leastColourAgain wsX5_leastColourAgain 1 40 D cI cC cS [.ref (a0 0), .ref (a1 0)] ((w_K a0 cI o0 ++ w_G a1 cI o1) ++ R) r ((w_K a0 cI o0 ++ w_G a1 cI o1) ++ R) := by
  refine XI.of (cc := cX5_leastColourAgain) (maxL := 5) (ty := .int) (own := RX5) (by decide) rfl rfl (Nat.le_of_ble_eq_true rfl) ?_
  intro p e s m args below meth c A Q S hK hN hA hP hD hS ls hl hret
  obtain ⟨hx, hb, hml, hown, hts⟩ := id S
  have hl : lv_has ls 5 [(0, .ref (a0 0)), (1, .ref (a1 0))] := hl
  unfold f_X5_leastColourAgain at hf
  refine lv_aload_n hx hb dX5_leastColourAgain_0 rfl (lv_at hl 1 rfl) ?_
  refine va_get (D := D) (ci := 1) (v := .ref (a1 2)) (C := RX1) (T := TX1) (N := 4) hx hb hts inw_X5_leastColourAgain_1 hown hK hP 2 rfl rfl 2 (by decide) (hts (.fieldLink RX5 37 "RingGames$Game" "colours" "[I") (List.mem_of_getElem? (i := 1) rfl)) (fun _ h9 => h9) rfl dX5_leastColourAgain_1 ?_
  refine lv_aload_n hx hb dX5_leastColourAgain_4 rfl (lv_at hl 0 rfl) ?_
  refine va_get (D := D) (ci := 5) (v := .int o0.2.2.2) (C := RX5) (T := TX5) (N := 4) hx hb hts inw_X5_leastColourAgain_5 hown hK hP 0 rfl rfl 3 (by decide) (hts (.fieldLink RX5 27 "RingGames$Walk" "last" "I") (List.mem_of_getElem? (i := 2) rfl)) (fun _ h9 => h9) rfl dX5_leastColourAgain_5 ?_
  obtain ⟨g1, hf⟩ := vg_some hf
  refine va_iald hx hb hK hP 4 0 rfl rfl g1 dX5_leastColourAgain_8 ?_
  refine lv_istore_n (lv' := [(2, .int (o1.2.2.1 (o0.2.2.2).toNatClampNeg)), (0, .ref (a0 0)), (1, .ref (a1 0))]) hx hb dX5_leastColourAgain_9 rfl hl (by decide) rfl (fun ls hl => ?_)
  refine lv_aload_n hx hb dX5_leastColourAgain_10 rfl (lv_at hl 1 rfl) ?_
  refine lv_aload_n hx hb dX5_leastColourAgain_11 rfl (lv_at hl 1 rfl) ?_
  refine va_get (D := D) (ci := 5) (v := .int o0.2.2.2) (C := RX5) (T := TX5) (N := 4) hx hb hts inw_X5_leastColourAgain_5 hown hK hP 0 rfl rfl 3 (by decide) (hts (.fieldLink RX5 27 "RingGames$Walk" "last" "I") (List.mem_of_getElem? (i := 2) rfl)) (fun _ h9 => h9) rfl dX5_leastColourAgain_12 ?_
  obtain ⟨q2, hq2, hf⟩ := ob_some hf
  refine xcVi (w' := ((w_K a0 cI o0 ++ w_G a1 cI o1) ++ R)) S hK hN hA hP hD hS (c_X5_wayFrom l D cI cC cS ((xr 6 [0, 1]).filterMap (fun i => (w_K a0 cI o0 ++ w_G a1 cI o1)[i]?) ++ R) a0 o0 o0.2.2.2 _ hq2) gX5_leastColourAgain_X5_wayFrom rfl hd_X5_wayFrom ⟨by decide, by decide⟩ (x_cut (pre := (w_K a0 cI o0 ++ w_G a1 cI o1)) [0, 1] 6 rfl (by decide +kernel) rfl) (x_cut (pre := (w_K a0 cI o0 ++ w_G a1 cI o1)) [0, 1] 6 rfl (by decide +kernel) rfl).symm (ci := 5) (q := (RX5, TX5, 4)) rfl rfl rfl rfl hl.1 rfl (Nat.le_of_ble_eq_true rfl) dX5_leastColourAgain_15 ⟨Nat.zero_le _, Nat.zero_le _⟩ (fun H locs hP hD hS => ?_)
  refine lv_istore_n (lv' := [(3, .int q2), (2, .int (o1.2.2.1 (o0.2.2.2).toNatClampNeg)), (0, .ref (a0 0)), (1, .ref (a1 0))]) hx hb dX5_leastColourAgain_18 rfl hl (by decide) rfl (fun ls hl => ?_)
  refine lv_iconst (v := 0) hx hb dX5_leastColourAgain_19 (by decide) ?_
  refine lv_istore (lv' := [(4, .int 0), (3, .int q2), (2, .int (o1.2.2.1 (o0.2.2.2).toNatClampNeg)), (0, .ref (a0 0)), (1, .ref (a1 0))]) hx hb dX5_leastColourAgain_20 hl (by decide) rfl (fun ls hl => ?_)
  obtain ⟨q4, hq4, hf⟩ := ob_some hf
  have L3 : ∀ (k : Nat) (v_l2_L3 : Int32) (v_l3_L3 : Int32) (v_l4_L3 : Int32) (q_L3 : Int32), f_X5_leastColourAgain_L22 o0 o1 k v_l2_L3 v_l3_L3 v_l4_L3 = some q_L3 → ∀ (H : Heap) (locs : List Loc), va_P D vwCl ((w_K a0 cI o0 ++ w_G a1 cI o1) ++ R) H → va_D A ((w_K a0 cI o0 ++ w_G a1 cI o1) ++ R) → va_S A s.heap H locs → ∀ ls : Array Slot, lv_has ls 5 [(0, .ref (a0 0)), (1, .ref (a1 0)), (2, .int v_l2_L3), (3, .int v_l3_L3), (4, .int v_l4_L3)] → (∀ (H : Heap) (locs : List Loc), va_P D vwCl ((w_K a0 cI o0 ++ w_G a1 cI o1) ++ R) H → va_D A ((w_K a0 cI o0 ++ w_G a1 cI o1) ++ R) → va_S A s.heap H locs → ∀ ls : Array Slot, lv_has ls 5 [(2, .int q_L3)] → W p l e (xR 1 40) s m args below meth c H locs 0 0 Q (F0 m 68 ls [])) → W p l e (xR 1 40) s m args below meth c H locs 0 0 Q (F0 m 22 ls []) := by
    intro k
    induction k with
    | zero => intro v_l2_L3 v_l3_L3 v_l4_L3 q_L3 hf; simp [f_X5_leastColourAgain_L22] at hf
    | succ k ih =>
      intro v_l2_L3 v_l3_L3 v_l4_L3 q_L3 hf H locs hP hD hS ls hl kx
      rw [f_X5_leastColourAgain_L22] at hf
      refine lv_iload hx hb dX5_leastColourAgain_22 (lv_at hl 4 rfl) ?_
      refine lv_bipush (v := 14) hx hb dX5_leastColourAgain_24 (by decide) ?_
      refine lv_icmp_ge (tgt := 68) hx hb dX5_leastColourAgain_26 (by decide) (fun c5 => ?_) (fun c5 => ?_)
      · have hf := if_t hf c5
        have hf := Option.some.inj hf
        subst hf
        exact kx _ _ hP hD hS _ (lv_sub hl [2] rfl)
      · have hf := if_f hf c5
        refine lv_aload_n hx hb dX5_leastColourAgain_29 rfl (lv_at hl 1 rfl) ?_
        refine lv_iload_n hx hb dX5_leastColourAgain_30 rfl (lv_at hl 3 rfl) ?_
        obtain ⟨q6, hq6, hf⟩ := ob_some hf
        refine xcVi (w' := ((w_K a0 cI o0 ++ w_G a1 cI o1) ++ R)) S hK hN hA hP hD hS (c_X1_has l D cI cC cS ((xr 6 [2, 3, 4, 5]).filterMap (fun i => (w_K a0 cI o0 ++ w_G a1 cI o1)[i]?) ++ R) a1 o1 v_l3_L3 _ hq6) gX5_leastColourAgain_X1_has rfl hd_X1_has ⟨by decide, by decide⟩ (x_cut (pre := (w_K a0 cI o0 ++ w_G a1 cI o1)) [2, 3, 4, 5] 6 rfl (by decide +kernel) rfl) (x_cut (pre := (w_K a0 cI o0 ++ w_G a1 cI o1)) [2, 3, 4, 5] 6 rfl (by decide +kernel) rfl).symm (ci := 1) (q := (RX1, TX1, 4)) rfl rfl rfl rfl hl.1 rfl (Nat.le_of_ble_eq_true rfl) dX5_leastColourAgain_31 ⟨Nat.zero_le _, Nat.zero_le _⟩ (fun H locs hP hD hS => ?_)
        refine lv_if_eq (tgt := 68) hx hb dX5_leastColourAgain_34 (by decide) (fun c7 => ?_) (fun c7 => ?_)
        · have hf := if_t hf c7
          have hf := Option.some.inj hf
          subst hf
          exact kx _ _ hP hD hS _ (lv_sub hl [2] rfl)
        · have hf := if_f hf c7
          refine lv_iload_n hx hb dX5_leastColourAgain_37 rfl (lv_at hl 3 rfl) ?_
          refine lv_aload_n hx hb dX5_leastColourAgain_38 rfl (lv_at hl 0 rfl) ?_
          refine va_get (D := D) (ci := 5) (v := .int o0.2.2.2) (C := RX5) (T := TX5) (N := 4) hx hb hts inw_X5_leastColourAgain_5 hown hK hP 0 rfl rfl 3 (by decide) (hts (.fieldLink RX5 27 "RingGames$Walk" "last" "I") (List.mem_of_getElem? (i := 2) rfl)) (fun _ h9 => h9) rfl dX5_leastColourAgain_39 ?_
          refine lv_icmp_eq (tgt := 68) hx hb dX5_leastColourAgain_42 (by decide) (fun c8 => ?_) (fun c8 => ?_)
          · have hf := if_t hf c8
            have hf := Option.some.inj hf
            subst hf
            exact kx _ _ hP hD hS _ (lv_sub hl [2] rfl)
          · have hf := if_f hf c8
            refine lv_iload_n hx hb dX5_leastColourAgain_45 rfl (lv_at hl 2 rfl) ?_
            refine lv_aload_n hx hb dX5_leastColourAgain_46 rfl (lv_at hl 1 rfl) ?_
            refine va_get (D := D) (ci := 1) (v := .ref (a1 2)) (C := RX1) (T := TX1) (N := 4) hx hb hts inw_X5_leastColourAgain_1 hown hK hP 2 rfl rfl 2 (by decide) (hts (.fieldLink RX5 37 "RingGames$Game" "colours" "[I") (List.mem_of_getElem? (i := 1) rfl)) (fun _ h9 => h9) rfl dX5_leastColourAgain_47 ?_
            refine lv_iload_n hx hb dX5_leastColourAgain_50 rfl (lv_at hl 3 rfl) ?_
            obtain ⟨g9, hf⟩ := vg_some hf
            refine va_iald hx hb hK hP 4 0 rfl rfl g9 dX5_leastColourAgain_51 ?_
            refine va_mmin hx hb (hml.trans hl.1.symm) hown (hts (.methodLink RX5 46 Lib.Math.min.name) (List.mem_of_getElem? (i := 3) rfl)) (hts (.static Lib.Math.min.name) (List.mem_of_getElem? (i := 4) rfl)) (hts (.initialized "java/lang/Math") (List.mem_of_getElem? (i := 5) rfl)) (hts (.code Lib.Math.min.name Lib.Math.min.code 2 (some .int)) (List.mem_of_getElem? (i := 6) rfl)) (by decide) (Nat.le_of_ble_eq_true rfl) (Nat.zero_le _) (Nat.zero_le _) dX5_leastColourAgain_52 ?_
            refine lv_istore_n (lv' := [(2, .int (if (o1.2.2.1 (v_l3_L3).toNatClampNeg) < v_l2_L3 then (o1.2.2.1 (v_l3_L3).toNatClampNeg) else v_l2_L3)), (0, .ref (a0 0)), (1, .ref (a1 0)), (3, .int v_l3_L3), (4, .int v_l4_L3)]) hx hb dX5_leastColourAgain_55 rfl hl (by decide) rfl (fun ls hl => ?_)
            refine lv_aload_n hx hb dX5_leastColourAgain_56 rfl (lv_at hl 1 rfl) ?_
            refine lv_iload_n hx hb dX5_leastColourAgain_57 rfl (lv_at hl 3 rfl) ?_
            obtain ⟨q10, hq10, hf⟩ := ob_some hf
            refine xcVi (w' := ((w_K a0 cI o0 ++ w_G a1 cI o1) ++ R)) S hK hN hA hP hD hS (c_X5_wayFrom l D cI cC cS ((xr 6 [0, 1]).filterMap (fun i => (w_K a0 cI o0 ++ w_G a1 cI o1)[i]?) ++ R) a0 o0 v_l3_L3 _ hq10) gX5_leastColourAgain_X5_wayFrom rfl hd_X5_wayFrom ⟨by decide, by decide⟩ (x_cut (pre := (w_K a0 cI o0 ++ w_G a1 cI o1)) [0, 1] 6 rfl (by decide +kernel) rfl) (x_cut (pre := (w_K a0 cI o0 ++ w_G a1 cI o1)) [0, 1] 6 rfl (by decide +kernel) rfl).symm (ci := 5) (q := (RX5, TX5, 4)) rfl rfl rfl rfl hl.1 rfl (Nat.le_of_ble_eq_true rfl) dX5_leastColourAgain_58 ⟨Nat.zero_le _, Nat.zero_le _⟩ (fun H locs hP hD hS => ?_)
            refine lv_istore_n (lv' := [(3, .int q10), (2, .int (if (o1.2.2.1 (v_l3_L3).toNatClampNeg) < v_l2_L3 then (o1.2.2.1 (v_l3_L3).toNatClampNeg) else v_l2_L3)), (0, .ref (a0 0)), (1, .ref (a1 0)), (4, .int v_l4_L3)]) hx hb dX5_leastColourAgain_61 rfl hl (by decide) rfl (fun ls hl => ?_)
            refine lv_iinc (v := (v_l4_L3 + 1)) (lv' := [(4, .int (v_l4_L3 + 1)), (3, .int q10), (2, .int (if (o1.2.2.1 (v_l3_L3).toNatClampNeg) < v_l2_L3 then (o1.2.2.1 (v_l3_L3).toNatClampNeg) else v_l2_L3)), (0, .ref (a0 0)), (1, .ref (a1 0))]) hx hb dX5_leastColourAgain_62 hl (k := 4) rfl (congrArg (fun z => v_l4_L3 + z) (by decide)) (by decide) rfl (fun ls hl => ?_)
            refine lv_goto (tgt := 22) hx hb dX5_leastColourAgain_65 (by decide) ?_
            exact ih (if (o1.2.2.1 (v_l3_L3).toNatClampNeg) < v_l2_L3 then (o1.2.2.1 (v_l3_L3).toNatClampNeg) else v_l2_L3) q10 (v_l4_L3 + 1) _ hf _ _ hP hD hS _ (lv_sub hl [3, 4, 2, 1, 0] rfl) kx
  refine L3 n (o1.2.2.1 (o0.2.2.2).toNatClampNeg) q2 0 q4 hq4 _ _ hP hD hS _ (lv_sub hl [3, 4, 2, 1, 0] rfl) ?_
  clear hP hD hS hl
  intro H locs hP hD hS ls hl
  refine lv_iload_n hx hb dX5_leastColourAgain_68 rfl (lv_at hl 0 rfl) ?_
  have hf := Option.some.inj hf
  subst hf
  exact hret _ _ _ _ _ dX5_leastColourAgain_69 rfl hP hD hS rfl
def f_X5_winner (n : Nat) (o0 : KK) (o1 : GG) : Option Int32 := (if o0.2.2.1 = 0 then vg o0.2.2.2 14 (some ((1 - (o1.2.1 (o0.2.2.2).toNatClampNeg)))) else (f_X5_leastColourAgain n o0 o1).bind fun q3 => some ((jrem q3 2)))
theorem inw_X5_winner_1 : ∀ w ∈ wsX10, w ∈ wsX5_winner := fun _ h => List.mem_cons_of_mem _ (List.mem_append_right _ h)
theorem inw_X5_winner_5 : ∀ w ∈ wsX50, w ∈ wsX5_winner := fun _ h => List.mem_cons_of_mem _ (List.mem_append_left _ (List.mem_append_right _ h))
theorem hd_X5_winner : yX5_winner.cls = RX5 ∧ yX5_winner.cls ≠ "java/lang/invoke/MethodHandle" ∧ yX5_winner.cls ≠ "java/lang/invoke/VarHandle" ∧ (parseMethodDescriptor yX5_winner.desc).map (fun d => d.parameters.length) = some 1 := by decide +kernel
set_option maxHeartbeats 4000000 in
set_option maxRecDepth 100000 in
theorem c_X5_winner (l : Launch) (D : va_G) (cI cC cS : ClassId) (R : va_W) (a0 : Nat → Nat) (a1 : Nat → Nat) (o0 : KK) (o1 : GG) (n : Nat) (r : Int32) (hf : f_X5_winner n o0 o1 = some r) : CI l yX5_winner wsX5_winner 2 64 D cI cC cS [.ref (a0 0), .ref (a1 0)] ((w_K a0 cI o0 ++ w_G a1 cI o1) ++ R) r ((w_K a0 cI o0 ++ w_G a1 cI o1) ++ R) := by
  refine XI.of (cc := cX5_winner) (maxL := 2) (ty := .int) (own := RX5) (by decide) rfl rfl (Nat.le_of_ble_eq_true rfl) ?_
  intro p e s m args below meth c A Q S hK hN hA hP hD hS ls hl hret
  obtain ⟨hx, hb, hml, hown, hts⟩ := id S
  have hl : lv_has ls 2 [(0, .ref (a0 0)), (1, .ref (a1 0))] := hl
  unfold f_X5_winner at hf
  refine lv_aload_n hx hb dX5_winner_0 rfl (lv_at hl 0 rfl) ?_
  refine va_get (D := D) (ci := 5) (v := .int o0.2.2.1) (C := RX5) (T := TX5) (N := 4) hx hb hts inw_X5_winner_5 hown hK hP 0 rfl rfl 2 (by decide) (hts (.fieldLink RX5 23 "RingGames$Walk" "endless" "Z") (List.mem_of_getElem? (i := 1) rfl)) (fun _ h9 => h9) rfl dX5_winner_1 ?_
  refine lv_if_eq (tgt := 17) hx hb dX5_winner_4 (by decide) (fun c1 => ?_) (fun c1 => ?_)
  · have hf := if_t hf c1
    refine lv_iconst (v := 1) hx hb dX5_winner_17 (by decide) ?_
    refine lv_aload_n hx hb dX5_winner_18 rfl (lv_at hl 1 rfl) ?_
    refine va_get (D := D) (ci := 1) (v := .ref (a1 1)) (C := RX1) (T := TX1) (N := 4) hx hb hts inw_X5_winner_1 hown hK hP 2 rfl rfl 1 (by decide) (hts (.fieldLink RX5 56 "RingGames$Game" "owners" "[I") (List.mem_of_getElem? (i := 2) rfl)) (fun _ h9 => h9) rfl dX5_winner_19 ?_
    refine lv_aload_n hx hb dX5_winner_22 rfl (lv_at hl 0 rfl) ?_
    refine va_get (D := D) (ci := 5) (v := .int o0.2.2.2) (C := RX5) (T := TX5) (N := 4) hx hb hts inw_X5_winner_5 hown hK hP 0 rfl rfl 3 (by decide) (hts (.fieldLink RX5 27 "RingGames$Walk" "last" "I") (List.mem_of_getElem? (i := 3) rfl)) (fun _ h9 => h9) rfl dX5_winner_23 ?_
    obtain ⟨g2, hf⟩ := vg_some hf
    refine va_iald hx hb hK hP 3 0 rfl rfl g2 dX5_winner_26 ?_
    refine lv_isub hx hb dX5_winner_27 ?_
    have hf := Option.some.inj hf
    subst hf
    exact hret _ _ _ _ _ dX5_winner_28 rfl hP hD hS rfl
  · have hf := if_f hf c1
    refine lv_aload_n hx hb dX5_winner_7 rfl (lv_at hl 0 rfl) ?_
    refine lv_aload_n hx hb dX5_winner_8 rfl (lv_at hl 1 rfl) ?_
    obtain ⟨q3, hq3, hf⟩ := ob_some hf
    refine xcVi (w' := ((w_K a0 cI o0 ++ w_G a1 cI o1) ++ R)) S hK hN hA hP hD hS (c_X5_leastColourAgain l D cI cC cS R a0 a1 o0 o1 n _ hq3) gX5_winner_X5_leastColourAgain rfl hd_X5_leastColourAgain ⟨by decide, by decide⟩ (List.Perm.refl _) (List.Perm.refl _) (ci := 5) (q := (RX5, TX5, 4)) rfl rfl rfl rfl hl.1 rfl (Nat.le_of_ble_eq_true rfl) dX5_winner_9 ⟨Nat.zero_le _, Nat.zero_le _⟩ (fun H locs hP hD hS => ?_)
    refine lv_iconst (v := 2) hx hb dX5_winner_12 (by decide) ?_
    refine lv_irem hx hb dX5_winner_13 (by decide) ?_
    refine lv_goto (tgt := 28) hx hb dX5_winner_14 (by decide) ?_
    have hf := Option.some.inj hf
    subst hf
    exact hret _ _ _ _ _ dX5_winner_28 rfl hP hD hS rfl
