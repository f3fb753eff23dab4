def f_X6_isPlayer (p0 : Int32) : Option Int32 := (if p0 = 0 then some (1) else (if p0 = 1 then some (1) else some (0)))
theorem hd_X6_isPlayer : yX6_isPlayer.cls ≠ "java/lang/invoke/MethodHandle" ∧ yX6_isPlayer.cls ≠ "java/lang/invoke/VarHandle" ∧ (parseMethodDescriptor yX6_isPlayer.desc).map (fun d => d.parameters.length) = some 1 := by decide +kernel
set_option maxHeartbeats 4000000 in
set_option maxRecDepth 100000 in
theorem c_X6_isPlayer (l : Launch) (D : va_G) (cI cC cS : ClassId) (R : va_W) (p0 : Int32) (r : Int32) (hf : f_X6_isPlayer p0 = some r) : CI l yX6_isPlayer wsX6_isPlayer 0 0 D cI cC cS [.int p0] R r R := by
  refine XI.of (cc := cX6_isPlayer) (maxL := 1) (ty := .boolean) (own := RX6) (by decide) rfl rfl (Nat.le_of_ble_eq_true rfl) ?_
  intro p e s m args below meth c A Q S hK hN hA hP hD hS ls hl hret
  obtain ⟨hx, hb, hml, hown, hts⟩ := id S
  have hl : lv_has ls 1 [(0, .int p0)] := hl
  unfold f_X6_isPlayer at hf
  refine lv_iload_n hx hb dX6_isPlayer_0 rfl (lv_at hl 0 rfl) ?_
  refine lv_if_eq (tgt := 9) hx hb dX6_isPlayer_1 (by decide) (fun c1 => ?_) (fun c1 => ?_)
  · have hf := if_t hf c1
    refine lv_iconst (v := 1) hx hb dX6_isPlayer_9 (by decide) ?_
    refine lv_goto (tgt := 14) hx hb dX6_isPlayer_10 (by decide) ?_
    have hf := Option.some.inj hf
    subst hf
    exact hret _ _ _ _ _ dX6_isPlayer_14 rfl hP hD hS rfl
  · have hf := if_f hf c1
    refine lv_iload_n hx hb dX6_isPlayer_4 rfl (lv_at hl 0 rfl) ?_
    refine lv_iconst (v := 1) hx hb dX6_isPlayer_5 (by decide) ?_
    refine lv_icmp_ne (tgt := 13) hx hb dX6_isPlayer_6 (by decide) (fun c2 => ?_) (fun c2 => ?_)
    · have hf := if_f hf c2
      refine lv_iconst (v := 0) hx hb dX6_isPlayer_13 (by decide) ?_
      have hf := Option.some.inj hf
      subst hf
      exact hret _ _ _ _ _ dX6_isPlayer_14 rfl hP hD hS rfl
    · have hf := if_t hf c2
      refine lv_iconst (v := 1) hx hb dX6_isPlayer_9 (by decide) ?_
      refine lv_goto (tgt := 14) hx hb dX6_isPlayer_10 (by decide) ?_
      have hf := Option.some.inj hf
      subst hf
      exact hret _ _ _ _ _ dX6_isPlayer_14 rfl hP hD hS rfl
def f_X6_isColour (p0 : Int32) : Option Int32 := (if p0 < 0 then some (0) else (if 7 < p0 then some (0) else some (1)))
theorem hd_X6_isColour : yX6_isColour.cls ≠ "java/lang/invoke/MethodHandle" ∧ yX6_isColour.cls ≠ "java/lang/invoke/VarHandle" ∧ (parseMethodDescriptor yX6_isColour.desc).map (fun d => d.parameters.length) = some 1 := by decide +kernel
set_option maxHeartbeats 4000000 in
set_option maxRecDepth 100000 in
theorem c_X6_isColour (l : Launch) (D : va_G) (cI cC cS : ClassId) (R : va_W) (p0 : Int32) (r : Int32) (hf : f_X6_isColour p0 = some r) : CI l yX6_isColour wsX6_isColour 0 0 D cI cC cS [.int p0] R r R := by
  refine XI.of (cc := cX6_isColour) (maxL := 1) (ty := .boolean) (own := RX6) (by decide) rfl rfl (Nat.le_of_ble_eq_true rfl) ?_
  intro p e s m args below meth c A Q S hK hN hA hP hD hS ls hl hret
  obtain ⟨hx, hb, hml, hown, hts⟩ := id S
  have hl : lv_has ls 1 [(0, .int p0)] := hl
  unfold f_X6_isColour at hf
  refine lv_iload_n hx hb dX6_isColour_0 rfl (lv_at hl 0 rfl) ?_
  refine lv_if_lt (tgt := 14) hx hb dX6_isColour_1 (by decide) (fun c1 => ?_) (fun c1 => ?_)
  · have hf := if_t hf c1
    refine lv_iconst (v := 0) hx hb dX6_isColour_14 (by decide) ?_
    have hf := Option.some.inj hf
    subst hf
    exact hret _ _ _ _ _ dX6_isColour_15 rfl hP hD hS rfl
  · have hf := if_f hf c1
    refine lv_iload_n hx hb dX6_isColour_4 rfl (lv_at hl 0 rfl) ?_
    refine lv_bipush (v := 7) hx hb dX6_isColour_5 (by decide) ?_
    refine lv_icmp_gt (tgt := 14) hx hb dX6_isColour_7 (by decide) (fun c2 => ?_) (fun c2 => ?_)
    · have hf := if_t hf c2
      refine lv_iconst (v := 0) hx hb dX6_isColour_14 (by decide) ?_
      have hf := Option.some.inj hf
      subst hf
      exact hret _ _ _ _ _ dX6_isColour_15 rfl hP hD hS rfl
    · have hf := if_f hf c2
      refine lv_iconst (v := 1) hx hb dX6_isColour_10 (by decide) ?_
      refine lv_goto (tgt := 15) hx hb dX6_isColour_11 (by decide) ?_
      have hf := Option.some.inj hf
      subst hf
      exact hret _ _ _ _ _ dX6_isColour_15 rfl hP hD hS rfl
def f_X6_bit (p0 : Int32) : Option Int32 := some ((jshl 1 p0))
theorem hd_X6_bit : yX6_bit.cls ≠ "java/lang/invoke/MethodHandle" ∧ yX6_bit.cls ≠ "java/lang/invoke/VarHandle" ∧ (parseMethodDescriptor yX6_bit.desc).map (fun d => d.parameters.length) = some 1 := by decide +kernel
set_option maxHeartbeats 4000000 in
set_option maxRecDepth 100000 in
theorem c_X6_bit (l : Launch) (D : va_G) (cI cC cS : ClassId) (R : va_W) (p0 : Int32) (r : Int32) (hf : f_X6_bit p0 = some r) : CI l yX6_bit wsX6_bit 0 0 D cI cC cS [.int p0] R r R := by
  refine XI.of (cc := cX6_bit) (maxL := 1) (ty := .int) (own := RX6) (by decide) rfl rfl (Nat.le_of_ble_eq_true rfl) ?_
  intro p e s m args below meth c A Q S hK hN hA hP hD hS ls hl hret
  obtain ⟨hx, hb, hml, hown, hts⟩ := id S
  have hl : lv_has ls 1 [(0, .int p0)] := hl
  unfold f_X6_bit at hf
  refine lv_iconst (v := 1) hx hb dX6_bit_0 (by decide) ?_
  refine lv_iload_n hx hb dX6_bit_1 rfl (lv_at hl 0 rfl) ?_
  refine lv_ishl hx hb dX6_bit_2 ?_
  have hf := Option.some.inj hf
  subst hf
  exact hret _ _ _ _ _ dX6_bit_3 rfl hP hD hS rfl
def f_X6_contains (p0 : Int32) (p1 : Int32) : Option Int32 := (if ((jshr p0 p1) &&& 1) = 1 then some (1) else some (0))
theorem hd_X6_contains : yX6_contains.cls ≠ "java/lang/invoke/MethodHandle" ∧ yX6_contains.cls ≠ "java/lang/invoke/VarHandle" ∧ (parseMethodDescriptor yX6_contains.desc).map (fun d => d.parameters.length) = some 2 := by decide +kernel
set_option maxHeartbeats 4000000 in
set_option maxRecDepth 100000 in
theorem c_X6_contains (l : Launch) (D : va_G) (cI cC cS : ClassId) (R : va_W) (p0 : Int32) (p1 : Int32) (r : Int32) (hf : f_X6_contains p0 p1 = some r) : CI l yX6_contains wsX6_contains 0 0 D cI cC cS [.int p0, .int p1] R r R := by
  refine XI.of (cc := cX6_contains) (maxL := 2) (ty := .boolean) (own := RX6) (by decide) rfl rfl (Nat.le_of_ble_eq_true rfl) ?_
  intro p e s m args below meth c A Q S hK hN hA hP hD hS ls hl hret
  obtain ⟨hx, hb, hml, hown, hts⟩ := id S
  have hl : lv_has ls 2 [(0, .int p0), (1, .int p1)] := hl
  unfold f_X6_contains at hf
  refine lv_iload_n hx hb dX6_contains_0 rfl (lv_at hl 0 rfl) ?_
  refine lv_iload_n hx hb dX6_contains_1 rfl (lv_at hl 1 rfl) ?_
  refine lv_ishr hx hb dX6_contains_2 ?_
  refine lv_iconst (v := 1) hx hb dX6_contains_3 (by decide) ?_
  refine lv_iand hx hb dX6_contains_4 ?_
  refine lv_iconst (v := 1) hx hb dX6_contains_5 (by decide) ?_
  refine lv_icmp_ne (tgt := 13) hx hb dX6_contains_6 (by decide) (fun c1 => ?_) (fun c1 => ?_)
  · have hf := if_f hf c1
    refine lv_iconst (v := 0) hx hb dX6_contains_13 (by decide) ?_
    have hf := Option.some.inj hf
    subst hf
    exact hret _ _ _ _ _ dX6_contains_14 rfl hP hD hS rfl
  · have hf := if_t hf c1
    refine lv_iconst (v := 1) hx hb dX6_contains_9 (by decide) ?_
    refine lv_goto (tgt := 14) hx hb dX6_contains_10 (by decide) ?_
    have hf := Option.some.inj hf
    subst hf
    exact hret _ _ _ _ _ dX6_contains_14 rfl hP hD hS rfl
def f_X6_placeOrNone (p0 : Int32) : Option Int32 := (if p0 = 14 then some ((-5)) else some (p0))
theorem hd_X6_placeOrNone : yX6_placeOrNone.cls ≠ "java/lang/invoke/MethodHandle" ∧ yX6_placeOrNone.cls ≠ "java/lang/invoke/VarHandle" ∧ (parseMethodDescriptor yX6_placeOrNone.desc).map (fun d => d.parameters.length) = some 1 := by decide +kernel
set_option maxHeartbeats 4000000 in
set_option maxRecDepth 100000 in
theorem c_X6_placeOrNone (l : Launch) (D : va_G) (cI cC cS : ClassId) (R : va_W) (p0 : Int32) (r : Int32) (hf : f_X6_placeOrNone p0 = some r) : CI l yX6_placeOrNone wsX6_placeOrNone 0 0 D cI cC cS [.int p0] R r R := by
  refine XI.of (cc := cX6_placeOrNone) (maxL := 1) (ty := .int) (own := RX6) (by decide) rfl rfl (Nat.le_of_ble_eq_true rfl) ?_
  intro p e s m args below meth c A Q S hK hN hA hP hD hS ls hl hret
  obtain ⟨hx, hb, hml, hown, hts⟩ := id S
  have hl : lv_has ls 1 [(0, .int p0)] := hl
  unfold f_X6_placeOrNone at hf
  refine lv_iload_n hx hb dX6_placeOrNone_0 rfl (lv_at hl 0 rfl) ?_
  refine lv_bipush (v := 14) hx hb dX6_placeOrNone_1 (by decide) ?_
  refine lv_icmp_ne (tgt := 11) hx hb dX6_placeOrNone_3 (by decide) (fun c1 => ?_) (fun c1 => ?_)
  · have hf := if_f hf c1
    refine lv_iload_n hx hb dX6_placeOrNone_11 rfl (lv_at hl 0 rfl) ?_
    have hf := Option.some.inj hf
    subst hf
    exact hret _ _ _ _ _ dX6_placeOrNone_12 rfl hP hD hS rfl
  · have hf := if_t hf c1
    refine lv_bipush (v := (-5)) hx hb dX6_placeOrNone_6 (by decide) ?_
    refine lv_goto (tgt := 12) hx hb dX6_placeOrNone_8 (by decide) ?_
    have hf := Option.some.inj hf
    subst hf
    exact hret _ _ _ _ _ dX6_placeOrNone_12 rfl hP hD hS rfl
