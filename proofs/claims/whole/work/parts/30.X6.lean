def f_X6_addPlace (now : SS) (hist : HH) (p1 : Int32) (p2 : Int32) : Option (Int32 × SS × HH) := (f_X6_isPlayer p1).bind fun q1 => (if q1 = 0 then some ((-2), now, hist) else (f_X6_isColour p2).bind fun q3 => (if q3 = 0 then some ((-2), now, hist) else (if now.1.1 < 14 then (f_X2_remember hist now).bind fun q6 => (f_X4_append now p1 p2).bind fun q7 => some (q7.1, q7.2, q6) else some ((-3), now, hist))))
theorem inw_X6_addPlace_1 : ∀ w ∈ wsX10, w ∈ wsX6_addPlace := fun _ h => List.mem_cons_of_mem _ (List.mem_append_left _ (List.mem_append_right _ h))
theorem inw_X6_addPlace_4 : ∀ w ∈ wsX40, w ∈ wsX6_addPlace := fun _ h => List.mem_cons_of_mem _ (List.mem_append_left _ (List.mem_append_left _ (List.mem_append_right _ h)))
theorem inw_X6_addPlace_6 : ∀ w ∈ wsX60, w ∈ wsX6_addPlace := fun _ h => List.mem_cons_of_mem _ (List.mem_append_left _ (List.mem_append_left _ (List.mem_append_left _ (List.mem_append_right _ h))))
theorem hd_X6_addPlace : yX6_addPlace.cls = RX6 ∧ yX6_addPlace.cls ≠ "java/lang/invoke/MethodHandle" ∧ yX6_addPlace.cls ≠ "java/lang/invoke/VarHandle" ∧ (parseMethodDescriptor yX6_addPlace.desc).map (fun d => d.parameters.length) = some 2 := by decide +kernel
set_option maxHeartbeats 4000000 in
set_option maxRecDepth 100000 in
theorem c_X6_addPlace (l : Launch) (D : va_G) (cI cC cS : ClassId) (R : va_W) (ad : Nat → Nat → Nat) (now : SS) (hist : HH) (snap : SS) (has : Int32) (text : TT) (trial : GG) (meas : EE) (walk : KK) (p1 : Int32) (p2 : Int32) (r : Int32 × SS × HH) (hf : f_X6_addPlace now hist p1 p2 = some r) : CI l yX6_addPlace wsX6_addPlace 4 123 D cI cC cS [.ref (ad 0 0), .int p1, .int p2] ((w_X ad cI cC cS now hist snap has text trial meas walk) ++ R) r.1 ((w_X ad cI cC cS r.2.1 r.2.2 snap has text trial meas walk) ++ R) := by
  refine XI.of (cc := cX6_addPlace) (maxL := 3) (ty := .int) (own := RX6) (by decide) rfl rfl (Nat.le_of_ble_eq_true rfl) ?_
  intro p e s m args below meth c A Q S hK hN hA hP hD hS ls hl hret
  obtain ⟨hx, hb, hml, hown, hts⟩ := id S
  have hl : lv_has ls 3 [(0, .ref (ad 0 0)), (1, .int p1), (2, .int p2)] := hl
  unfold f_X6_addPlace at hf
  refine lv_iload_n hx hb dX6_addPlace_0 rfl (lv_at hl 1 rfl) ?_
  obtain ⟨q1, hq1, hf⟩ := ob_some hf
  refine xcSi S hK hN hA hP hD hS (c_X6_isPlayer l D cI cC cS ((w_X ad cI cC cS now hist snap has text trial meas walk) ++ R) p1 _ hq1) gX6_addPlace_X6_isPlayer rfl hd_X6_isPlayer ⟨by decide, by decide⟩ rfl hl.1 rfl (Nat.le_of_ble_eq_true rfl) dX6_addPlace_1 ⟨Nat.zero_le _, Nat.zero_le _⟩ (fun H locs hP hD hS => ?_)
  refine lv_if_eq (tgt := 14) hx hb dX6_addPlace_4 (by decide) (fun c2 => ?_) (fun c2 => ?_)
  · have hf := if_t hf c2
    refine lv_bipush (v := (-2)) hx hb dX6_addPlace_14 (by decide) ?_
    have hf := Option.some.inj hf
    subst hf
    exact hret _ _ _ _ _ dX6_addPlace_16 rfl hP hD hS rfl
  · have hf := if_f hf c2
    refine lv_iload_n hx hb dX6_addPlace_7 rfl (lv_at hl 2 rfl) ?_
    obtain ⟨q3, hq3, hf⟩ := ob_some hf
    refine xcSi S hK hN hA hP hD hS (c_X6_isColour l D cI cC cS ((w_X ad cI cC cS now hist snap has text trial meas walk) ++ R) p2 _ hq3) gX6_addPlace_X6_isColour rfl hd_X6_isColour ⟨by decide, by decide⟩ rfl hl.1 rfl (Nat.le_of_ble_eq_true rfl) dX6_addPlace_8 ⟨Nat.zero_le _, Nat.zero_le _⟩ (fun H locs hP hD hS => ?_)
    refine lv_if_ne (tgt := 17) hx hb dX6_addPlace_11 (by decide) (fun c4 => ?_) (fun c4 => ?_)
    · have hf := if_f hf c4
      refine lv_aload_n hx hb dX6_addPlace_17 rfl (lv_at hl 0 rfl) ?_
      refine va_get (D := D) (ci := 6) (v := .ref ((ad 1) 0)) (C := RX6) (T := TX6) (N := 8) hx hb hts inw_X6_addPlace_6 hown hK hP 0 rfl rfl 0 (by decide) (hts (.fieldLink RX6 12 "RingGames" "now" "LRingGames$State;") (List.mem_of_getElem? (i := 1) rfl)) (fun _ h9 => h9) rfl dX6_addPlace_18 ?_
      refine va_get (D := D) (ci := 4) (v := .ref ((ad 1) 2)) (C := RX4) (T := TX4) (N := 4) hx hb hts inw_X6_addPlace_4 hown hK hP 1 rfl rfl 0 (by decide) (hts (.fieldLink RX6 65 "RingGames$State" "game" "LRingGames$Game;") (List.mem_of_getElem? (i := 2) rfl)) (fun _ h9 => h9) rfl dX6_addPlace_21 ?_
      refine va_get (D := D) (ci := 1) (v := .int now.1.1) (C := RX1) (T := TX1) (N := 4) hx hb hts inw_X6_addPlace_1 hown hK hP 3 rfl rfl 0 (by decide) (hts (.fieldLink RX6 68 "RingGames$Game" "size" "I") (List.mem_of_getElem? (i := 3) rfl)) (fun _ h9 => h9) rfl dX6_addPlace_24 ?_
      refine lv_bipush (v := 14) hx hb dX6_addPlace_27 (by decide) ?_
      refine lv_icmp_lt (tgt := 35) hx hb dX6_addPlace_29 (by decide) (fun c5 => ?_) (fun c5 => ?_)
      · have hf := if_t hf c5
        refine lv_aload_n hx hb dX6_addPlace_35 rfl (lv_at hl 0 rfl) ?_
        refine va_get (D := D) (ci := 6) (v := .ref ((ad 2) 0)) (C := RX6) (T := TX6) (N := 8) hx hb hts inw_X6_addPlace_6 hown hK hP 0 rfl rfl 1 (by decide) (hts (.fieldLink RX6 19 "RingGames" "history" "LRingGames$History;") (List.mem_of_getElem? (i := 4) rfl)) (fun _ h9 => h9) rfl dX6_addPlace_36 ?_
        refine lv_aload_n hx hb dX6_addPlace_39 rfl (lv_at hl 0 rfl) ?_
        refine va_get (D := D) (ci := 6) (v := .ref ((ad 1) 0)) (C := RX6) (T := TX6) (N := 8) hx hb hts inw_X6_addPlace_6 hown hK hP 0 rfl rfl 0 (by decide) (hts (.fieldLink RX6 12 "RingGames" "now" "LRingGames$State;") (List.mem_of_getElem? (i := 1) rfl)) (fun _ h9 => h9) rfl dX6_addPlace_40 ?_
        obtain ⟨q6, hq6, hf⟩ := ob_some hf
        refine xcVv (w' := ((w_X ad cI cC cS now q6 snap has text trial meas walk) ++ R)) S hK hN hA hP hD hS (c_X2_remember l D cI cC cS ((xr 50 [7, 8, 9, 10, 11, 12, 13, 14, 15, 16, 17, 18, 19, 20, 21, 22, 23, 24, 25, 26, 27, 28, 29, 30, 31, 32, 1, 2, 3, 4, 5, 6]).filterMap (fun i => (w_X ad cI cC cS now hist snap has text trial meas walk)[i]?) ++ R) (ad 2) (ad 1) hist now _ hq6) gX6_addPlace_X2_remember rfl hd_X2_remember ⟨by decide, by decide⟩ (x_cut (pre := (w_X ad cI cC cS now hist snap has text trial meas walk)) [7, 8, 9, 10, 11, 12, 13, 14, 15, 16, 17, 18, 19, 20, 21, 22, 23, 24, 25, 26, 27, 28, 29, 30, 31, 32, 1, 2, 3, 4, 5, 6] 50 rfl (by decide +kernel) rfl) (x_back (pre := (w_X ad cI cC cS now hist snap has text trial meas walk)) [7, 8, 9, 10, 11, 12, 13, 14, 15, 16, 17, 18, 19, 20, 21, 22, 23, 24, 25, 26, 27, 28, 29, 30, 31, 32, 1, 2, 3, 4, 5, 6] 50 rfl (by decide +kernel) rfl rfl) (ci := 2) (q := (RX2, TX2, 2)) rfl rfl rfl rfl hl.1 rfl (Nat.le_of_ble_eq_true rfl) dX6_addPlace_43 ⟨Nat.zero_le _, Nat.zero_le _⟩ (fun H locs hP hD hS => ?_)
        refine lv_aload_n hx hb dX6_addPlace_46 rfl (lv_at hl 0 rfl) ?_
        refine va_get (D := D) (ci := 6) (v := .ref ((ad 1) 0)) (C := RX6) (T := TX6) (N := 8) hx hb hts inw_X6_addPlace_6 hown hK hP 0 rfl rfl 0 (by decide) (hts (.fieldLink RX6 12 "RingGames" "now" "LRingGames$State;") (List.mem_of_getElem? (i := 1) rfl)) (fun _ h9 => h9) rfl dX6_addPlace_47 ?_
        refine lv_iload_n hx hb dX6_addPlace_50 rfl (lv_at hl 1 rfl) ?_
        refine lv_iload_n hx hb dX6_addPlace_51 rfl (lv_at hl 2 rfl) ?_
        obtain ⟨q7, hq7, hf⟩ := ob_some hf
        refine xcVi (w' := ((w_X ad cI cC cS q7.2 q6 snap has text trial meas walk) ++ R)) S hK hN hA hP hD hS (c_X4_append l D cI cC cS ((xr 50 [1, 2, 3, 4, 5, 6]).filterMap (fun i => (w_X ad cI cC cS now q6 snap has text trial meas walk)[i]?) ++ R) (ad 1) now p1 p2 _ hq7) gX6_addPlace_X4_append rfl hd_X4_append ⟨by decide, by decide⟩ (x_cut (pre := (w_X ad cI cC cS now q6 snap has text trial meas walk)) [1, 2, 3, 4, 5, 6] 50 rfl (by decide +kernel) rfl) (x_back (pre := (w_X ad cI cC cS now q6 snap has text trial meas walk)) [1, 2, 3, 4, 5, 6] 50 rfl (by decide +kernel) rfl rfl) (ci := 4) (q := (RX4, TX4, 4)) rfl rfl rfl rfl hl.1 rfl (Nat.le_of_ble_eq_true rfl) dX6_addPlace_52 ⟨Nat.zero_le _, Nat.zero_le _⟩ (fun H locs hP hD hS => ?_)
        have hf := Option.some.inj hf
        subst hf
        exact hret _ _ _ _ _ dX6_addPlace_55 rfl hP hD hS rfl
      · have hf := if_f hf c5
        refine lv_bipush (v := (-3)) hx hb dX6_addPlace_32 (by decide) ?_
        have hf := Option.some.inj hf
        subst hf
        exact hret _ _ _ _ _ dX6_addPlace_34 rfl hP hD hS rfl
    · have hf := if_t hf c4
      refine lv_bipush (v := (-2)) hx hb dX6_addPlace_14 (by decide) ?_
      have hf := Option.some.inj hf
      subst hf
      exact hret _ _ _ _ _ dX6_addPlace_16 rfl hP hD hS rfl
def f_X6_solveFor (n : Nat) (now : SS) (trial : GG) (meas : EE) (p1 : Int32) : Option (GG × EE) := (f_X1_become trial now.1).bind fun q1 => ((if p1 = 1 then (f_X1_exchange n q1).bind fun q6 => some (q6) else some (q1)) : Option GG).bind fun j3 => (f_X3_find n meas j3).bind fun q5 => some (j3, q5)
theorem inw_X6_solveFor_4 : ∀ w ∈ wsX40, w ∈ wsX6_solveFor := fun _ h => List.mem_cons_of_mem _ (List.mem_append_left _ (List.mem_append_left _ (List.mem_append_right _ h)))
theorem inw_X6_solveFor_6 : ∀ w ∈ wsX60, w ∈ wsX6_solveFor := fun _ h => List.mem_cons_of_mem _ (List.mem_append_left _ (List.mem_append_left _ (List.mem_append_left _ (List.mem_append_right _ h))))
theorem hd_X6_solveFor : yX6_solveFor.cls = RX6 ∧ yX6_solveFor.cls ≠ "java/lang/invoke/MethodHandle" ∧ yX6_solveFor.cls ≠ "java/lang/invoke/VarHandle" ∧ (parseMethodDescriptor yX6_solveFor.desc).map (fun d => d.parameters.length) = some 1 := by decide +kernel
set_option maxHeartbeats 4000000 in
set_option maxRecDepth 100000 in
theorem c_X6_solveFor (l : Launch) (D : va_G) (cI cC cS : ClassId) (R : va_W) (ad : Nat → Nat → Nat) (now : SS) (hist : HH) (snap : SS) (has : Int32) (text : TT) (trial : GG) (meas : EE) (walk : KK) (p1 : Int32) (n : Nat) (r : GG × EE) (hf : f_X6_solveFor n now trial meas p1 = some r) : CV l yX6_solveFor wsX6_solveFor 4 112 D cI cC cS [.ref (ad 0 0), .int p1] ((w_X ad cI cC cS now hist snap has text trial meas walk) ++ R) ((w_X ad cI cC cS now hist snap has text r.1 r.2 walk) ++ R) := by
  refine XV.of (cc := cX6_solveFor) (maxL := 2) (own := RX6) (by decide) rfl rfl (Nat.le_of_ble_eq_true rfl) ?_
  intro p e s m args below meth c A Q S hK hN hA hP hD hS ls hl hret
  obtain ⟨hx, hb, hml, hown, hts⟩ := id S
  have hl : lv_has ls 2 [(0, .ref (ad 0 0)), (1, .int p1)] := hl
  unfold f_X6_solveFor at hf
  refine lv_aload_n hx hb dX6_solveFor_0 rfl (lv_at hl 0 rfl) ?_
  refine va_get (D := D) (ci := 6) (v := .ref ((ad 5) 0)) (C := RX6) (T := TX6) (N := 8) hx hb hts inw_X6_solveFor_6 hown hK hP 0 rfl rfl 5 (by decide) (hts (.fieldLink RX6 40 "RingGames" "trial" "LRingGames$Game;") (List.mem_of_getElem? (i := 1) rfl)) (fun _ h9 => h9) rfl dX6_solveFor_1 ?_
  refine lv_aload_n hx hb dX6_solveFor_4 rfl (lv_at hl 0 rfl) ?_
  refine va_get (D := D) (ci := 6) (v := .ref ((ad 1) 0)) (C := RX6) (T := TX6) (N := 8) hx hb hts inw_X6_solveFor_6 hown hK hP 0 rfl rfl 0 (by decide) (hts (.fieldLink RX6 12 "RingGames" "now" "LRingGames$State;") (List.mem_of_getElem? (i := 2) rfl)) (fun _ h9 => h9) rfl dX6_solveFor_5 ?_
  refine va_get (D := D) (ci := 4) (v := .ref ((ad 1) 2)) (C := RX4) (T := TX4) (N := 4) hx hb hts inw_X6_solveFor_4 hown hK hP 1 rfl rfl 0 (by decide) (hts (.fieldLink RX6 65 "RingGames$State" "game" "LRingGames$Game;") (List.mem_of_getElem? (i := 3) rfl)) (fun _ h9 => h9) rfl dX6_solveFor_8 ?_
  obtain ⟨q1, hq1, hf⟩ := ob_some hf
  refine xcVv (w' := ((w_X ad cI cC cS now hist snap has text q1 meas walk) ++ R)) S hK hN hA hP hD hS (c_X1_become l D cI cC cS ((xr 50 [41, 42, 43, 44, 3, 4, 5, 6]).filterMap (fun i => (w_X ad cI cC cS now hist snap has text trial meas walk)[i]?) ++ R) (ad 5) (fun k => (ad 1) (k + 2)) trial now.1 _ hq1) gX6_solveFor_X1_become rfl hd_X1_become ⟨by decide, by decide⟩ (x_cut (pre := (w_X ad cI cC cS now hist snap has text trial meas walk)) [41, 42, 43, 44, 3, 4, 5, 6] 50 rfl (by decide +kernel) rfl) (x_back (pre := (w_X ad cI cC cS now hist snap has text trial meas walk)) [41, 42, 43, 44, 3, 4, 5, 6] 50 rfl (by decide +kernel) rfl rfl) (ci := 1) (q := (RX1, TX1, 4)) rfl rfl rfl rfl hl.1 rfl (Nat.le_of_ble_eq_true rfl) dX6_solveFor_11 ⟨Nat.zero_le _, Nat.zero_le _⟩ (fun H locs hP hD hS => ?_)
  refine lv_iload_n hx hb dX6_solveFor_14 rfl (lv_at hl 1 rfl) ?_
  refine lv_iconst (v := 1) hx hb dX6_solveFor_15 (by decide) ?_
  obtain ⟨j3, hj3, hf⟩ := ob_some hf
  have J4 : ∀ (H : Heap) (locs : List Loc), va_P D vwCl ((w_X ad cI cC cS now hist snap has text j3 meas walk) ++ R) H → va_D A ((w_X ad cI cC cS now hist snap has text j3 meas walk) ++ R) → va_S A s.heap H locs → ∀ ls : Array Slot, lv_has ls 2 [(0, .ref (ad 0 0))] → W p l e (xR 4 112) s m args below meth c H locs 0 0 Q (F0 m 26 ls []) := by
    intro H locs hP hD hS ls hl
    refine lv_aload_n hx hb dX6_solveFor_26 rfl (lv_at hl 0 rfl) ?_
    refine va_get (D := D) (ci := 6) (v := .ref ((ad 6) 0)) (C := RX6) (T := TX6) (N := 8) hx hb hts inw_X6_solveFor_6 hown hK hP 0 rfl rfl 6 (by decide) (hts (.fieldLink RX6 47 "RingGames" "measures" "LRingGames$Measures;") (List.mem_of_getElem? (i := 4) rfl)) (fun _ h9 => h9) rfl dX6_solveFor_27 ?_
    refine lv_aload_n hx hb dX6_solveFor_30 rfl (lv_at hl 0 rfl) ?_
    refine va_get (D := D) (ci := 6) (v := .ref ((ad 5) 0)) (C := RX6) (T := TX6) (N := 8) hx hb hts inw_X6_solveFor_6 hown hK hP 0 rfl rfl 5 (by decide) (hts (.fieldLink RX6 40 "RingGames" "trial" "LRingGames$Game;") (List.mem_of_getElem? (i := 1) rfl)) (fun _ h9 => h9) rfl dX6_solveFor_31 ?_
    obtain ⟨q5, hq5, hf⟩ := ob_some hf
    refine xcVv (w' := ((w_X ad cI cC cS now hist snap has text j3 q5 walk) ++ R)) S hK hN hA hP hD hS (c_X3_find l D cI cC cS ((xr 50 [45, 46, 47, 41, 42, 43, 44]).filterMap (fun i => (w_X ad cI cC cS now hist snap has text j3 meas walk)[i]?) ++ R) (ad 6) (ad 5) meas j3 n _ hq5) gX6_solveFor_X3_find rfl hd_X3_find ⟨by decide, by decide⟩ (x_cut (pre := (w_X ad cI cC cS now hist snap has text j3 meas walk)) [45, 46, 47, 41, 42, 43, 44] 50 rfl (by decide +kernel) rfl) (x_back (pre := (w_X ad cI cC cS now hist snap has text j3 meas walk)) [45, 46, 47, 41, 42, 43, 44] 50 rfl (by decide +kernel) rfl rfl) (ci := 3) (q := (RX3, TX3, 3)) rfl rfl rfl rfl hl.1 rfl (Nat.le_of_ble_eq_true rfl) dX6_solveFor_34 ⟨Nat.zero_le _, Nat.zero_le _⟩ (fun H locs hP hD hS => ?_)
    have hf := Option.some.inj hf
    subst hf
    exact hret _ _ _ _ dX6_solveFor_37 hP hD hS
  clear hf
  have hf := hj3
  refine lv_icmp_ne (tgt := 26) hx hb dX6_solveFor_16 (by decide) (fun c2 => ?_) (fun c2 => ?_)
  · have hf := if_f hf c2
    have hf := Option.some.inj hf
    subst hf
    exact J4 _ _ hP hD hS _ (lv_sub hl [0] rfl)
  · have hf := if_t hf c2
    refine lv_aload_n hx hb dX6_solveFor_19 rfl (lv_at hl 0 rfl) ?_
    refine va_get (D := D) (ci := 6) (v := .ref ((ad 5) 0)) (C := RX6) (T := TX6) (N := 8) hx hb hts inw_X6_solveFor_6 hown hK hP 0 rfl rfl 5 (by decide) (hts (.fieldLink RX6 40 "RingGames" "trial" "LRingGames$Game;") (List.mem_of_getElem? (i := 1) rfl)) (fun _ h9 => h9) rfl dX6_solveFor_20 ?_
    obtain ⟨q6, hq6, hf⟩ := ob_some hf
    refine xcVv (w' := ((w_X ad cI cC cS now hist snap has text q6 meas walk) ++ R)) S hK hN hA hP hD hS (c_X1_exchange l D cI cC cS ((xr 50 [41, 42, 43, 44]).filterMap (fun i => (w_X ad cI cC cS now hist snap has text q1 meas walk)[i]?) ++ R) (ad 5) q1 n _ hq6) gX6_solveFor_X1_exchange rfl hd_X1_exchange ⟨by decide, by decide⟩ (x_cut (pre := (w_X ad cI cC cS now hist snap has text q1 meas walk)) [41, 42, 43, 44] 50 rfl (by decide +kernel) rfl) (x_back (pre := (w_X ad cI cC cS now hist snap has text q1 meas walk)) [41, 42, 43, 44] 50 rfl (by decide +kernel) rfl rfl) (ci := 1) (q := (RX1, TX1, 4)) rfl rfl rfl rfl hl.1 rfl (Nat.le_of_ble_eq_true rfl) dX6_solveFor_23 ⟨Nat.zero_le _, Nat.zero_le _⟩ (fun H locs hP hD hS => ?_)
    have hf := Option.some.inj hf
    subst hf
    exact J4 _ _ hP hD hS _ (lv_sub hl [0] rfl)
def f_X6_wonBy_L9 (d_now : SS) (d_meas : EE) : Nat → Int32 → Int32 → Option Int32
  | 0, _, _ => none
  | k + 1, d_l2, d_l3 => (if d_now.1.1 ≤ d_l3 then some (d_l2) else (f_X3_isLost d_meas d_l3).bind fun q3 => (if q3 = 0 then (f_X6_bit d_l3).bind fun q5 => f_X6_wonBy_L9 d_now d_meas k (d_l2 ||| q5) (d_l3 + 1) else f_X6_wonBy_L9 d_now d_meas k d_l2 (d_l3 + 1)))
def f_X6_wonBy (n : Nat) (now : SS) (trial : GG) (meas : EE) (p1 : Int32) : Option (Int32 × GG × EE) := (f_X6_solveFor n now trial meas p1).bind fun q1 => (f_X6_wonBy_L9 now q1.2 n 0 0).bind fun q3 => some (q3, q1.1, q1.2)
theorem inw_X6_wonBy_1 : ∀ w ∈ wsX10, w ∈ wsX6_wonBy := fun _ h => List.mem_cons_of_mem _ (List.mem_append_left _ (List.mem_append_right _ h))
theorem inw_X6_wonBy_4 : ∀ w ∈ wsX40, w ∈ wsX6_wonBy := fun _ h => List.mem_cons_of_mem _ (List.mem_append_left _ (List.mem_append_left _ (List.mem_append_right _ h)))
theorem inw_X6_wonBy_6 : ∀ w ∈ wsX60, w ∈ wsX6_wonBy := fun _ h => List.mem_cons_of_mem _ (List.mem_append_left _ (List.mem_append_left _ (List.mem_append_left _ (List.mem_append_right _ h))))
theorem hd_X6_wonBy : yX6_wonBy.cls = RX6 ∧ yX6_wonBy.cls ≠ "java/lang/invoke/MethodHandle" ∧ yX6_wonBy.cls ≠ "java/lang/invoke/VarHandle" ∧ (parseMethodDescriptor yX6_wonBy.desc).map (fun d => d.parameters.length) = some 1 := by decide +kernel
set_option maxHeartbeats 4000000 in
set_option maxRecDepth 100000 in
theorem c_X6_wonBy (l : Launch) (D : va_G) (cI cC cS : ClassId) (R : va_W) (ad : Nat → Nat → Nat) (now : SS) (hist : HH) (snap : SS) (has : Int32) (text : TT) (trial : GG) (meas : EE) (walk : KK) (p1 : Int32) (n : Nat) (r : Int32 × GG × EE) (hf : f_X6_wonBy n now trial meas p1 = some r) : CI l yX6_wonBy wsX6_wonBy 5 133 D cI cC cS [.ref (ad 0 0), .int p1] ((w_X ad cI cC cS now hist snap has text trial meas walk) ++ R) r.1 ((w_X ad cI cC cS now hist snap has text r.2.1 r.2.2 walk) ++ R) := by
  refine XI.of (cc := cX6_wonBy) (maxL := 4) (ty := .int) (own := RX6) (by decide) rfl rfl (Nat.le_of_ble_eq_true rfl) ?_
  intro p e s m args below meth c A Q S hK hN hA hP hD hS ls hl hret
  obtain ⟨hx, hb, hml, hown, hts⟩ := id S
  have hl : lv_has ls 4 [(0, .ref (ad 0 0)), (1, .int p1)] := hl
  unfold f_X6_wonBy at hf
  refine lv_aload_n hx hb dX6_wonBy_0 rfl (lv_at hl 0 rfl) ?_
  refine lv_iload_n hx hb dX6_wonBy_1 rfl (lv_at hl 1 rfl) ?_
  obtain ⟨q1, hq1, hf⟩ := ob_some hf
  refine xcVv (w' := ((w_X ad cI cC cS now hist snap has text q1.1 q1.2 walk) ++ R)) S hK hN hA hP hD hS (c_X6_solveFor l D cI cC cS R ad now hist snap has text trial meas walk p1 n _ hq1) gX6_wonBy_X6_solveFor rfl hd_X6_solveFor ⟨by decide, by decide⟩ (List.Perm.refl _) (List.Perm.refl _) (ci := 6) (q := (RX6, TX6, 8)) rfl rfl rfl rfl hl.1 rfl (Nat.le_of_ble_eq_true rfl) dX6_wonBy_2 ⟨Nat.zero_le _, Nat.zero_le _⟩ (fun H locs hP hD hS => ?_)
  refine lv_iconst (v := 0) hx hb dX6_wonBy_5 (by decide) ?_
  refine lv_istore_n (lv' := [(2, .int 0), (0, .ref (ad 0 0)), (1, .int p1)]) hx hb dX6_wonBy_6 rfl hl (by decide) rfl (fun ls hl => ?_)
  refine lv_iconst (v := 0) hx hb dX6_wonBy_7 (by decide) ?_
  refine lv_istore_n (lv' := [(3, .int 0), (2, .int 0), (0, .ref (ad 0 0)), (1, .int p1)]) hx hb dX6_wonBy_8 rfl hl (by decide) rfl (fun ls hl => ?_)
  obtain ⟨q3, hq3, hf⟩ := ob_some hf
  have L2 : ∀ (k : Nat) (v_l2_L2 : Int32) (v_l3_L2 : Int32) (q_L2 : Int32), f_X6_wonBy_L9 now q1.2 k v_l2_L2 v_l3_L2 = some q_L2 → ∀ (H : Heap) (locs : List Loc), va_P D vwCl ((w_X ad cI cC cS now hist snap has text q1.1 q1.2 walk) ++ R) H → va_D A ((w_X ad cI cC cS now hist snap has text q1.1 q1.2 walk) ++ R) → va_S A s.heap H locs → ∀ ls : Array Slot, lv_has ls 4 [(0, .ref (ad 0 0)), (2, .int v_l2_L2), (3, .int v_l3_L2)] → (∀ (H : Heap) (locs : List Loc), va_P D vwCl ((w_X ad cI cC cS now hist snap has text q1.1 q1.2 walk) ++ R) H → va_D A ((w_X ad cI cC cS now hist snap has text q1.1 q1.2 walk) ++ R) → va_S A s.heap H locs → ∀ ls : Array Slot, lv_has ls 4 [(2, .int q_L2)] → W p l e (xR 5 133) s m args below meth c H locs 0 0 Q (F0 m 47 ls [])) → W p l e (xR 5 133) s m args below meth c H locs 0 0 Q (F0 m 9 ls []) := by
    intro k
    induction k with
    | zero => intro v_l2_L2 v_l3_L2 q_L2 hf; simp [f_X6_wonBy_L9] at hf
    | succ k ih =>
      intro v_l2_L2 v_l3_L2 q_L2 hf H locs hP hD hS ls hl kx
      rw [f_X6_wonBy_L9] at hf
      refine lv_iload_n hx hb dX6_wonBy_9 rfl (lv_at hl 2 rfl) ?_
      refine lv_aload_n hx hb dX6_wonBy_10 rfl (lv_at hl 0 rfl) ?_
      refine va_get (D := D) (ci := 6) (v := .ref ((ad 1) 0)) (C := RX6) (T := TX6) (N := 8) hx hb hts inw_X6_wonBy_6 hown hK hP 0 rfl rfl 0 (by decide) (hts (.fieldLink RX6 12 "RingGames" "now" "LRingGames$State;") (List.mem_of_getElem? (i := 1) rfl)) (fun _ h9 => h9) rfl dX6_wonBy_11 ?_
      refine va_get (D := D) (ci := 4) (v := .ref ((ad 1) 2)) (C := RX4) (T := TX4) (N := 4) hx hb hts inw_X6_wonBy_4 hown hK hP 1 rfl rfl 0 (by decide) (hts (.fieldLink RX6 65 "RingGames$State" "game" "LRingGames$Game;") (List.mem_of_getElem? (i := 2) rfl)) (fun _ h9 => h9) rfl dX6_wonBy_14 ?_
      refine va_get (D := D) (ci := 1) (v := .int now.1.1) (C := RX1) (T := TX1) (N := 4) hx hb hts inw_X6_wonBy_1 hown hK hP 3 rfl rfl 0 (by decide) (hts (.fieldLink RX6 68 "RingGames$Game" "size" "I") (List.mem_of_getElem? (i := 3) rfl)) (fun _ h9 => h9) rfl dX6_wonBy_17 ?_
      refine lv_icmp_ge (tgt := 47) hx hb dX6_wonBy_20 (by decide) (fun c4 => ?_) (fun c4 => ?_)
      · have hf := if_t hf c4
        have hf := Option.some.inj hf
        subst hf
        exact kx _ _ hP hD hS _ (lv_sub hl [1] rfl)
      · have hf := if_f hf c4
        refine lv_aload_n hx hb dX6_wonBy_23 rfl (lv_at hl 0 rfl) ?_
        refine va_get (D := D) (ci := 6) (v := .ref ((ad 6) 0)) (C := RX6) (T := TX6) (N := 8) hx hb hts inw_X6_wonBy_6 hown hK hP 0 rfl rfl 6 (by decide) (hts (.fieldLink RX6 47 "RingGames" "measures" "LRingGames$Measures;") (List.mem_of_getElem? (i := 4) rfl)) (fun _ h9 => h9) rfl dX6_wonBy_24 ?_
        refine lv_iload_n hx hb dX6_wonBy_27 rfl (lv_at hl 2 rfl) ?_
        obtain ⟨q5, hq5, hf⟩ := ob_some hf
        refine xcVi (w' := ((w_X ad cI cC cS now hist snap has text q1.1 q1.2 walk) ++ R)) S hK hN hA hP hD hS (c_X3_isLost l D cI cC cS ((xr 50 [45, 46, 47]).filterMap (fun i => (w_X ad cI cC cS now hist snap has text q1.1 q1.2 walk)[i]?) ++ R) (ad 6) q1.2 v_l3_L2 _ hq5) gX6_wonBy_X3_isLost rfl hd_X3_isLost ⟨by decide, by decide⟩ (x_cut (pre := (w_X ad cI cC cS now hist snap has text q1.1 q1.2 walk)) [45, 46, 47] 50 rfl (by decide +kernel) rfl) (x_cut (pre := (w_X ad cI cC cS now hist snap has text q1.1 q1.2 walk)) [45, 46, 47] 50 rfl (by decide +kernel) rfl).symm (ci := 3) (q := (RX3, TX3, 3)) rfl rfl rfl rfl hl.1 rfl (Nat.le_of_ble_eq_true rfl) dX6_wonBy_28 ⟨Nat.zero_le _, Nat.zero_le _⟩ (fun H locs hP hD hS => ?_)
        refine lv_if_ne (tgt := 41) hx hb dX6_wonBy_31 (by decide) (fun c6 => ?_) (fun c6 => ?_)
        · have hf := if_f hf c6
          refine lv_iinc (v := (v_l3_L2 + 1)) (lv' := [(3, .int (v_l3_L2 + 1)), (0, .ref (ad 0 0)), (2, .int v_l2_L2)]) hx hb dX6_wonBy_41 hl (k := 2) rfl (congrArg (fun z => v_l3_L2 + z) (by decide)) (by decide) rfl (fun ls hl => ?_)
          refine lv_goto (tgt := 9) hx hb dX6_wonBy_44 (by decide) ?_
          exact ih v_l2_L2 (v_l3_L2 + 1) _ hf _ _ hP hD hS _ (lv_sub hl [1, 2, 0] rfl) kx
        · have hf := if_t hf c6
          refine lv_iload_n hx hb dX6_wonBy_34 rfl (lv_at hl 1 rfl) ?_
          refine lv_iload_n hx hb dX6_wonBy_35 rfl (lv_at hl 2 rfl) ?_
          obtain ⟨q7, hq7, hf⟩ := ob_some hf
          refine xcSi S hK hN hA hP hD hS (c_X6_bit l D cI cC cS ((w_X ad cI cC cS now hist snap has text q1.1 q1.2 walk) ++ R) v_l3_L2 _ hq7) gX6_wonBy_X6_bit rfl hd_X6_bit ⟨by decide, by decide⟩ rfl hl.1 rfl (Nat.le_of_ble_eq_true rfl) dX6_wonBy_36 ⟨Nat.zero_le _, Nat.zero_le _⟩ (fun H locs hP hD hS => ?_)
          refine lv_ior hx hb dX6_wonBy_39 ?_
          refine lv_istore_n (lv' := [(2, .int (v_l2_L2 ||| q7)), (0, .ref (ad 0 0)), (3, .int v_l3_L2)]) hx hb dX6_wonBy_40 rfl hl (by decide) rfl (fun ls hl => ?_)
          refine lv_iinc (v := (v_l3_L2 + 1)) (lv' := [(3, .int (v_l3_L2 + 1)), (2, .int (v_l2_L2 ||| q7)), (0, .ref (ad 0 0))]) hx hb dX6_wonBy_41 hl (k := 2) rfl (congrArg (fun z => v_l3_L2 + z) (by decide)) (by decide) rfl (fun ls hl => ?_)
          refine lv_goto (tgt := 9) hx hb dX6_wonBy_44 (by decide) ?_
          exact ih (v_l2_L2 ||| q7) (v_l3_L2 + 1) _ hf _ _ hP hD hS _ (lv_sub hl [2, 1, 0] rfl) kx
  refine L2 n 0 0 q3 hq3 _ _ hP hD hS _ (lv_sub hl [2, 1, 0] rfl) ?_
  clear hP hD hS hl
  intro H locs hP hD hS ls hl
  refine lv_iload_n hx hb dX6_wonBy_47 rfl (lv_at hl 0 rfl) ?_
  have hf := Option.some.inj hf
  subst hf
  exact hret _ _ _ _ _ dX6_wonBy_48 rfl hP hD hS rfl
def f_X6_setOwner (n : Nat) (now : SS) (hist : HH) (trial : GG) (meas : EE) (p1 : Int32) (p2 : Int32) : Option (Int32 × SS × HH × GG × EE) := (f_X1_has now.1 p1).bind fun q1 => (if q1 = 0 then some ((-1), now, hist, trial, meas) else (f_X6_isPlayer p2).bind fun q3 => (if q3 = 0 then some ((-2), now, hist, trial, meas) else vg p1 14 ((if (now.1.2.1 (p1).toNatClampNeg) = p2 then some ((-5), now, hist, trial, meas) else (f_X2_remember hist now).bind fun q7 => (f_X6_wonBy n ((now.1.1, (upd now.1.2.1 (p1).toNatClampNeg p2), now.1.2.2.1, now.1.2.2.2), now.2.1, now.2.2.1, now.2.2.2) trial meas 0).bind fun q8 => some (q8.1, ((now.1.1, (upd now.1.2.1 (p1).toNatClampNeg p2), now.1.2.2.1, now.1.2.2.2), now.2.1, now.2.2.1, now.2.2.2), q7, q8.2.1, q8.2.2)))))
theorem inw_X6_setOwner_1 : ∀ w ∈ wsX10, w ∈ wsX6_setOwner := fun _ h => List.mem_cons_of_mem _ (List.mem_append_left _ (List.mem_append_left _ (List.mem_append_right _ h)))
theorem inw_X6_setOwner_4 : ∀ w ∈ wsX40, w ∈ wsX6_setOwner := fun _ h => List.mem_cons_of_mem _ (List.mem_append_left _ (List.mem_append_left _ (List.mem_append_left _ (List.mem_append_right _ h))))
theorem inw_X6_setOwner_6 : ∀ w ∈ wsX60, w ∈ wsX6_setOwner := fun _ h => List.mem_cons_of_mem _ (List.mem_append_left _ (List.mem_append_left _ (List.mem_append_left _ (List.mem_append_left _ (List.mem_append_right _ h)))))
theorem hd_X6_setOwner : yX6_setOwner.cls = RX6 ∧ yX6_setOwner.cls ≠ "java/lang/invoke/MethodHandle" ∧ yX6_setOwner.cls ≠ "java/lang/invoke/VarHandle" ∧ (parseMethodDescriptor yX6_setOwner.desc).map (fun d => d.parameters.length) = some 2 := by decide +kernel
set_option maxHeartbeats 4000000 in
set_option maxRecDepth 100000 in
theorem c_X6_setOwner (l : Launch) (D : va_G) (cI cC cS : ClassId) (R : va_W) (ad : Nat → Nat → Nat) (now : SS) (hist : HH) (snap : SS) (has : Int32) (text : TT) (trial : GG) (meas : EE) (walk : KK) (p1 : Int32) (p2 : Int32) (n : Nat) (r : Int32 × SS × HH × GG × EE) (hf : f_X6_setOwner n now hist trial meas p1 p2 = some r) : CI l yX6_setOwner wsX6_setOwner 6 156 D cI cC cS [.ref (ad 0 0), .int p1, .int p2] ((w_X ad cI cC cS now hist snap has text trial meas walk) ++ R) r.1 ((w_X ad cI cC cS r.2.1 r.2.2.1 snap has text r.2.2.2.1 r.2.2.2.2 walk) ++ R) := by
  refine XI.of (cc := cX6_setOwner) (maxL := 3) (ty := .int) (own := RX6) (by decide) rfl rfl (Nat.le_of_ble_eq_true rfl) ?_
  intro p e s m args below meth c A Q S hK hN hA hP hD hS ls hl hret
  obtain ⟨hx, hb, hml, hown, hts⟩ := id S
  have hl : lv_has ls 3 [(0, .ref (ad 0 0)), (1, .int p1), (2, .int p2)] := hl
  unfold f_X6_setOwner at hf
  refine lv_aload_n hx hb dX6_setOwner_0 rfl (lv_at hl 0 rfl) ?_
  refine va_get (D := D) (ci := 6) (v := .ref ((ad 1) 0)) (C := RX6) (T := TX6) (N := 8) hx hb hts inw_X6_setOwner_6 hown hK hP 0 rfl rfl 0 (by decide) (hts (.fieldLink RX6 12 "RingGames" "now" "LRingGames$State;") (List.mem_of_getElem? (i := 1) rfl)) (fun _ h9 => h9) rfl dX6_setOwner_1 ?_
  refine va_get (D := D) (ci := 4) (v := .ref ((ad 1) 2)) (C := RX4) (T := TX4) (N := 4) hx hb hts inw_X6_setOwner_4 hown hK hP 1 rfl rfl 0 (by decide) (hts (.fieldLink RX6 65 "RingGames$State" "game" "LRingGames$Game;") (List.mem_of_getElem? (i := 2) rfl)) (fun _ h9 => h9) rfl dX6_setOwner_4 ?_
  refine lv_iload_n hx hb dX6_setOwner_7 rfl (lv_at hl 1 rfl) ?_
  obtain ⟨q1, hq1, hf⟩ := ob_some hf
  refine xcVi (w' := ((w_X ad cI cC cS now hist snap has text trial meas walk) ++ R)) S hK hN hA hP hD hS (c_X1_has l D cI cC cS ((xr 50 [3, 4, 5, 6]).filterMap (fun i => (w_X ad cI cC cS now hist snap has text trial meas walk)[i]?) ++ R) (fun k => (ad 1) (k + 2)) now.1 p1 _ hq1) gX6_setOwner_X1_has rfl hd_X1_has ⟨by decide, by decide⟩ (x_cut (pre := (w_X ad cI cC cS now hist snap has text trial meas walk)) [3, 4, 5, 6] 50 rfl (by decide +kernel) rfl) (x_cut (pre := (w_X ad cI cC cS now hist snap has text trial meas walk)) [3, 4, 5, 6] 50 rfl (by decide +kernel) rfl).symm (ci := 1) (q := (RX1, TX1, 4)) rfl rfl rfl rfl hl.1 rfl (Nat.le_of_ble_eq_true rfl) dX6_setOwner_8 ⟨Nat.zero_le _, Nat.zero_le _⟩ (fun H locs hP hD hS => ?_)
  refine lv_if_ne (tgt := 16) hx hb dX6_setOwner_11 (by decide) (fun c2 => ?_) (fun c2 => ?_)
  · have hf := if_f hf c2
    refine lv_iload_n hx hb dX6_setOwner_16 rfl (lv_at hl 2 rfl) ?_
    obtain ⟨q3, hq3, hf⟩ := ob_some hf
    refine xcSi S hK hN hA hP hD hS (c_X6_isPlayer l D cI cC cS ((w_X ad cI cC cS now hist snap has text trial meas walk) ++ R) p2 _ hq3) gX6_setOwner_X6_isPlayer rfl hd_X6_isPlayer ⟨by decide, by decide⟩ rfl hl.1 rfl (Nat.le_of_ble_eq_true rfl) dX6_setOwner_17 ⟨Nat.zero_le _, Nat.zero_le _⟩ (fun H locs hP hD hS => ?_)
    refine lv_if_ne (tgt := 26) hx hb dX6_setOwner_20 (by decide) (fun c4 => ?_) (fun c4 => ?_)
    · have hf := if_f hf c4
      refine lv_aload_n hx hb dX6_setOwner_26 rfl (lv_at hl 0 rfl) ?_
      refine va_get (D := D) (ci := 6) (v := .ref ((ad 1) 0)) (C := RX6) (T := TX6) (N := 8) hx hb hts inw_X6_setOwner_6 hown hK hP 0 rfl rfl 0 (by decide) (hts (.fieldLink RX6 12 "RingGames" "now" "LRingGames$State;") (List.mem_of_getElem? (i := 1) rfl)) (fun _ h9 => h9) rfl dX6_setOwner_27 ?_
      refine va_get (D := D) (ci := 4) (v := .ref ((ad 1) 2)) (C := RX4) (T := TX4) (N := 4) hx hb hts inw_X6_setOwner_4 hown hK hP 1 rfl rfl 0 (by decide) (hts (.fieldLink RX6 65 "RingGames$State" "game" "LRingGames$Game;") (List.mem_of_getElem? (i := 2) rfl)) (fun _ h9 => h9) rfl dX6_setOwner_30 ?_
      refine va_get (D := D) (ci := 1) (v := .ref ((ad 1) 3)) (C := RX1) (T := TX1) (N := 4) hx hb hts inw_X6_setOwner_1 hown hK hP 3 rfl rfl 1 (by decide) (hts (.fieldLink RX6 83 "RingGames$Game" "owners" "[I") (List.mem_of_getElem? (i := 3) rfl)) (fun _ h9 => h9) rfl dX6_setOwner_33 ?_
      refine lv_iload_n hx hb dX6_setOwner_36 rfl (lv_at hl 1 rfl) ?_
      obtain ⟨g5, hf⟩ := vg_some hf
      refine va_iald hx hb hK hP 4 0 rfl rfl g5 dX6_setOwner_37 ?_
      refine lv_iload_n hx hb dX6_setOwner_38 rfl (lv_at hl 2 rfl) ?_
      refine lv_icmp_ne (tgt := 45) hx hb dX6_setOwner_39 (by decide) (fun c6 => ?_) (fun c6 => ?_)
      · have hf := if_f hf c6
        refine lv_aload_n hx hb dX6_setOwner_45 rfl (lv_at hl 0 rfl) ?_
        refine va_get (D := D) (ci := 6) (v := .ref ((ad 2) 0)) (C := RX6) (T := TX6) (N := 8) hx hb hts inw_X6_setOwner_6 hown hK hP 0 rfl rfl 1 (by decide) (hts (.fieldLink RX6 19 "RingGames" "history" "LRingGames$History;") (List.mem_of_getElem? (i := 4) rfl)) (fun _ h9 => h9) rfl dX6_setOwner_46 ?_
        refine lv_aload_n hx hb dX6_setOwner_49 rfl (lv_at hl 0 rfl) ?_
        refine va_get (D := D) (ci := 6) (v := .ref ((ad 1) 0)) (C := RX6) (T := TX6) (N := 8) hx hb hts inw_X6_setOwner_6 hown hK hP 0 rfl rfl 0 (by decide) (hts (.fieldLink RX6 12 "RingGames" "now" "LRingGames$State;") (List.mem_of_getElem? (i := 1) rfl)) (fun _ h9 => h9) rfl dX6_setOwner_50 ?_
        obtain ⟨q7, hq7, hf⟩ := ob_some hf
        refine xcVv (w' := ((w_X ad cI cC cS now q7 snap has text trial meas walk) ++ R)) S hK hN hA hP hD hS (c_X2_remember l D cI cC cS ((xr 50 [7, 8, 9, 10, 11, 12, 13, 14, 15, 16, 17, 18, 19, 20, 21, 22, 23, 24, 25, 26, 27, 28, 29, 30, 31, 32, 1, 2, 3, 4, 5, 6]).filterMap (fun i => (w_X ad cI cC cS now hist snap has text trial meas walk)[i]?) ++ R) (ad 2) (ad 1) hist now _ hq7) gX6_setOwner_X2_remember rfl hd_X2_remember ⟨by decide, by decide⟩ (x_cut (pre := (w_X ad cI cC cS now hist snap has text trial meas walk)) [7, 8, 9, 10, 11, 12, 13, 14, 15, 16, 17, 18, 19, 20, 21, 22, 23, 24, 25, 26, 27, 28, 29, 30, 31, 32, 1, 2, 3, 4, 5, 6] 50 rfl (by decide +kernel) rfl) (x_back (pre := (w_X ad cI cC cS now hist snap has text trial meas walk)) [7, 8, 9, 10, 11, 12, 13, 14, 15, 16, 17, 18, 19, 20, 21, 22, 23, 24, 25, 26, 27, 28, 29, 30, 31, 32, 1, 2, 3, 4, 5, 6] 50 rfl (by decide +kernel) rfl rfl) (ci := 2) (q := (RX2, TX2, 2)) rfl rfl rfl rfl hl.1 rfl (Nat.le_of_ble_eq_true rfl) dX6_setOwner_53 ⟨Nat.zero_le _, Nat.zero_le _⟩ (fun H locs hP hD hS => ?_)
        refine lv_aload_n hx hb dX6_setOwner_56 rfl (lv_at hl 0 rfl) ?_
        refine va_get (D := D) (ci := 6) (v := .ref ((ad 1) 0)) (C := RX6) (T := TX6) (N := 8) hx hb hts inw_X6_setOwner_6 hown hK hP 0 rfl rfl 0 (by decide) (hts (.fieldLink RX6 12 "RingGames" "now" "LRingGames$State;") (List.mem_of_getElem? (i := 1) rfl)) (fun _ h9 => h9) rfl dX6_setOwner_57 ?_
        refine va_get (D := D) (ci := 4) (v := .ref ((ad 1) 2)) (C := RX4) (T := TX4) (N := 4) hx hb hts inw_X6_setOwner_4 hown hK hP 1 rfl rfl 0 (by decide) (hts (.fieldLink RX6 65 "RingGames$State" "game" "LRingGames$Game;") (List.mem_of_getElem? (i := 2) rfl)) (fun _ h9 => h9) rfl dX6_setOwner_60 ?_
        refine va_get (D := D) (ci := 1) (v := .ref ((ad 1) 3)) (C := RX1) (T := TX1) (N := 4) hx hb hts inw_X6_setOwner_1 hown hK hP 3 rfl rfl 1 (by decide) (hts (.fieldLink RX6 83 "RingGames$Game" "owners" "[I") (List.mem_of_getElem? (i := 3) rfl)) (fun _ h9 => h9) rfl dX6_setOwner_63 ?_
        refine lv_iload_n hx hb dX6_setOwner_66 rfl (lv_at hl 1 rfl) ?_
        refine lv_iload_n hx hb dX6_setOwner_67 rfl (lv_at hl 2 rfl) ?_
        refine va_iast hx hb hK hP hD hS 4 0 rfl rfl g5 dX6_setOwner_68 (fun H locs hP hD hS => ?_)
        have hP : va_P D vwCl ((w_X ad cI cC cS ((now.1.1, (upd now.1.2.1 (p1).toNatClampNeg p2), now.1.2.2.1, now.1.2.2.2), now.2.1, now.2.2.1, now.2.2.2) q7 snap has text trial meas walk) ++ R) H := hP
        have hD : va_D A ((w_X ad cI cC cS ((now.1.1, (upd now.1.2.1 (p1).toNatClampNeg p2), now.1.2.2.1, now.1.2.2.2), now.2.1, now.2.2.1, now.2.2.2) q7 snap has text trial meas walk) ++ R) := hD
        refine lv_aload_n hx hb dX6_setOwner_69 rfl (lv_at hl 0 rfl) ?_
        refine lv_iconst (v := 0) hx hb dX6_setOwner_70 (by decide) ?_
        obtain ⟨q8, hq8, hf⟩ := ob_some hf
        refine xcVi (w' := ((w_X ad cI cC cS ((now.1.1, (upd now.1.2.1 (p1).toNatClampNeg p2), now.1.2.2.1, now.1.2.2.2), now.2.1, now.2.2.1, now.2.2.2) q7 snap has text q8.2.1 q8.2.2 walk) ++ R)) S hK hN hA hP hD hS (c_X6_wonBy l D cI cC cS R ad ((now.1.1, (upd now.1.2.1 (p1).toNatClampNeg p2), now.1.2.2.1, now.1.2.2.2), now.2.1, now.2.2.1, now.2.2.2) q7 snap has text trial meas walk 0 n _ hq8) gX6_setOwner_X6_wonBy rfl hd_X6_wonBy ⟨by decide, by decide⟩ (List.Perm.refl _) (List.Perm.refl _) (ci := 6) (q := (RX6, TX6, 8)) rfl rfl rfl rfl hl.1 rfl (Nat.le_of_ble_eq_true rfl) dX6_setOwner_71 ⟨Nat.zero_le _, Nat.zero_le _⟩ (fun H locs hP hD hS => ?_)
        have hf := Option.some.inj hf
        subst hf
        exact hret _ _ _ _ _ dX6_setOwner_74 rfl hP hD hS rfl
      · have hf := if_t hf c6
        refine lv_bipush (v := (-5)) hx hb dX6_setOwner_42 (by decide) ?_
        have hf := Option.some.inj hf
        subst hf
        exact hret _ _ _ _ _ dX6_setOwner_44 rfl hP hD hS rfl
    · have hf := if_t hf c4
      refine lv_bipush (v := (-2)) hx hb dX6_setOwner_23 (by decide) ?_
      have hf := Option.some.inj hf
      subst hf
      exact hret _ _ _ _ _ dX6_setOwner_25 rfl hP hD hS rfl
  · have hf := if_t hf c2
    refine lv_iconst (v := (-1)) hx hb dX6_setOwner_14 (by decide) ?_
    have hf := Option.some.inj hf
    subst hf
    exact hret _ _ _ _ _ dX6_setOwner_15 rfl hP hD hS rfl
def f_X6_setColour (now : SS) (hist : HH) (p1 : Int32) (p2 : Int32) : Option (Int32 × SS × HH) := (f_X1_has now.1 p1).bind fun q1 => (if q1 = 0 then some ((-1), now, hist) else (f_X6_isColour p2).bind fun q3 => (if q3 = 0 then some ((-2), now, hist) else vg p1 14 ((if (now.1.2.2.1 (p1).toNatClampNeg) = p2 then some ((-5), now, hist) else (f_X2_remember hist now).bind fun q7 => some ((now.1.2.2.1 (p1).toNatClampNeg), ((now.1.1, now.1.2.1, (upd now.1.2.2.1 (p1).toNatClampNeg p2), now.1.2.2.2), now.2.1, now.2.2.1, now.2.2.2), q7)))))
theorem inw_X6_setColour_1 : ∀ w ∈ wsX10, w ∈ wsX6_setColour := fun _ h => List.mem_cons_of_mem _ (List.mem_append_left _ (List.mem_append_right _ h))
theorem inw_X6_setColour_4 : ∀ w ∈ wsX40, w ∈ wsX6_setColour := fun _ h => List.mem_cons_of_mem _ (List.mem_append_left _ (List.mem_append_left _ (List.mem_append_right _ h)))
theorem inw_X6_setColour_6 : ∀ w ∈ wsX60, w ∈ wsX6_setColour := fun _ h => List.mem_cons_of_mem _ (List.mem_append_left _ (List.mem_append_left _ (List.mem_append_left _ (List.mem_append_right _ h))))
theorem hd_X6_setColour : yX6_setColour.cls = RX6 ∧ yX6_setColour.cls ≠ "java/lang/invoke/MethodHandle" ∧ yX6_setColour.cls ≠ "java/lang/invoke/VarHandle" ∧ (parseMethodDescriptor yX6_setColour.desc).map (fun d => d.parameters.length) = some 2 := by decide +kernel
set_option maxHeartbeats 4000000 in
set_option maxRecDepth 100000 in
theorem c_X6_setColour (l : Launch) (D : va_G) (cI cC cS : ClassId) (R : va_W) (ad : Nat → Nat → Nat) (now : SS) (hist : HH) (snap : SS) (has : Int32) (text : TT) (trial : GG) (meas : EE) (walk : KK) (p1 : Int32) (p2 : Int32) (r : Int32 × SS × HH) (hf : f_X6_setColour now hist p1 p2 = some r) : CI l yX6_setColour wsX6_setColour 4 123 D cI cC cS [.ref (ad 0 0), .int p1, .int p2] ((w_X ad cI cC cS now hist snap has text trial meas walk) ++ R) r.1 ((w_X ad cI cC cS r.2.1 r.2.2 snap has text trial meas walk) ++ R) := by
  refine XI.of (cc := cX6_setColour) (maxL := 4) (ty := .int) (own := RX6) (by decide) rfl rfl (Nat.le_of_ble_eq_true rfl) ?_
  intro p e s m args below meth c A Q S hK hN hA hP hD hS ls hl hret
  obtain ⟨hx, hb, hml, hown, hts⟩ := id S
  have hl : lv_has ls 4 [(0, .ref (ad 0 0)), (1, .int p1), (2, .int p2)] := hl
  unfold f_X6_setColour at hf
  refine lv_aload_n hx hb dX6_setColour_0 rfl (lv_at hl 0 rfl) ?_
  refine va_get (D := D) (ci := 6) (v := .ref ((ad 1) 0)) (C := RX6) (T := TX6) (N := 8) hx hb hts inw_X6_setColour_6 hown hK hP 0 rfl rfl 0 (by decide) (hts (.fieldLink RX6 12 "RingGames" "now" "LRingGames$State;") (List.mem_of_getElem? (i := 1) rfl)) (fun _ h9 => h9) rfl dX6_setColour_1 ?_
  refine va_get (D := D) (ci := 4) (v := .ref ((ad 1) 2)) (C := RX4) (T := TX4) (N := 4) hx hb hts inw_X6_setColour_4 hown hK hP 1 rfl rfl 0 (by decide) (hts (.fieldLink RX6 65 "RingGames$State" "game" "LRingGames$Game;") (List.mem_of_getElem? (i := 2) rfl)) (fun _ h9 => h9) rfl dX6_setColour_4 ?_
  refine lv_iload_n hx hb dX6_setColour_7 rfl (lv_at hl 1 rfl) ?_
  obtain ⟨q1, hq1, hf⟩ := ob_some hf
  refine xcVi (w' := ((w_X ad cI cC cS now hist snap has text trial meas walk) ++ R)) S hK hN hA hP hD hS (c_X1_has l D cI cC cS ((xr 50 [3, 4, 5, 6]).filterMap (fun i => (w_X ad cI cC cS now hist snap has text trial meas walk)[i]?) ++ R) (fun k => (ad 1) (k + 2)) now.1 p1 _ hq1) gX6_setColour_X1_has rfl hd_X1_has ⟨by decide, by decide⟩ (x_cut (pre := (w_X ad cI cC cS now hist snap has text trial meas walk)) [3, 4, 5, 6] 50 rfl (by decide +kernel) rfl) (x_cut (pre := (w_X ad cI cC cS now hist snap has text trial meas walk)) [3, 4, 5, 6] 50 rfl (by decide +kernel) rfl).symm (ci := 1) (q := (RX1, TX1, 4)) rfl rfl rfl rfl hl.1 rfl (Nat.le_of_ble_eq_true rfl) dX6_setColour_8 ⟨Nat.zero_le _, Nat.zero_le _⟩ (fun H locs hP hD hS => ?_)
  refine lv_if_ne (tgt := 16) hx hb dX6_setColour_11 (by decide) (fun c2 => ?_) (fun c2 => ?_)
  · have hf := if_f hf c2
    refine lv_iload_n hx hb dX6_setColour_16 rfl (lv_at hl 2 rfl) ?_
    obtain ⟨q3, hq3, hf⟩ := ob_some hf
    refine xcSi S hK hN hA hP hD hS (c_X6_isColour l D cI cC cS ((w_X ad cI cC cS now hist snap has text trial meas walk) ++ R) p2 _ hq3) gX6_setColour_X6_isColour rfl hd_X6_isColour ⟨by decide, by decide⟩ rfl hl.1 rfl (Nat.le_of_ble_eq_true rfl) dX6_setColour_17 ⟨Nat.zero_le _, Nat.zero_le _⟩ (fun H locs hP hD hS => ?_)
    refine lv_if_ne (tgt := 26) hx hb dX6_setColour_20 (by decide) (fun c4 => ?_) (fun c4 => ?_)
    · have hf := if_f hf c4
      refine lv_aload_n hx hb dX6_setColour_26 rfl (lv_at hl 0 rfl) ?_
      refine va_get (D := D) (ci := 6) (v := .ref ((ad 1) 0)) (C := RX6) (T := TX6) (N := 8) hx hb hts inw_X6_setColour_6 hown hK hP 0 rfl rfl 0 (by decide) (hts (.fieldLink RX6 12 "RingGames" "now" "LRingGames$State;") (List.mem_of_getElem? (i := 1) rfl)) (fun _ h9 => h9) rfl dX6_setColour_27 ?_
      refine va_get (D := D) (ci := 4) (v := .ref ((ad 1) 2)) (C := RX4) (T := TX4) (N := 4) hx hb hts inw_X6_setColour_4 hown hK hP 1 rfl rfl 0 (by decide) (hts (.fieldLink RX6 65 "RingGames$State" "game" "LRingGames$Game;") (List.mem_of_getElem? (i := 2) rfl)) (fun _ h9 => h9) rfl dX6_setColour_30 ?_
      refine va_get (D := D) (ci := 1) (v := .ref ((ad 1) 4)) (C := RX1) (T := TX1) (N := 4) hx hb hts inw_X6_setColour_1 hown hK hP 3 rfl rfl 2 (by decide) (hts (.fieldLink RX6 91 "RingGames$Game" "colours" "[I") (List.mem_of_getElem? (i := 3) rfl)) (fun _ h9 => h9) rfl dX6_setColour_33 ?_
      refine lv_iload_n hx hb dX6_setColour_36 rfl (lv_at hl 1 rfl) ?_
      obtain ⟨g5, hf⟩ := vg_some hf
      refine va_iald hx hb hK hP 5 0 rfl rfl g5 dX6_setColour_37 ?_
      refine lv_istore_n (lv' := [(3, .int (now.1.2.2.1 (p1).toNatClampNeg)), (0, .ref (ad 0 0)), (1, .int p1), (2, .int p2)]) hx hb dX6_setColour_38 rfl hl (by decide) rfl (fun ls hl => ?_)
      refine lv_iload_n hx hb dX6_setColour_39 rfl (lv_at hl 0 rfl) ?_
      refine lv_iload_n hx hb dX6_setColour_40 rfl (lv_at hl 3 rfl) ?_
      refine lv_icmp_ne (tgt := 47) hx hb dX6_setColour_41 (by decide) (fun c6 => ?_) (fun c6 => ?_)
      · have hf := if_f hf c6
        refine lv_aload_n hx hb dX6_setColour_47 rfl (lv_at hl 1 rfl) ?_
        refine va_get (D := D) (ci := 6) (v := .ref ((ad 2) 0)) (C := RX6) (T := TX6) (N := 8) hx hb hts inw_X6_setColour_6 hown hK hP 0 rfl rfl 1 (by decide) (hts (.fieldLink RX6 19 "RingGames" "history" "LRingGames$History;") (List.mem_of_getElem? (i := 4) rfl)) (fun _ h9 => h9) rfl dX6_setColour_48 ?_
        refine lv_aload_n hx hb dX6_setColour_51 rfl (lv_at hl 1 rfl) ?_
        refine va_get (D := D) (ci := 6) (v := .ref ((ad 1) 0)) (C := RX6) (T := TX6) (N := 8) hx hb hts inw_X6_setColour_6 hown hK hP 0 rfl rfl 0 (by decide) (hts (.fieldLink RX6 12 "RingGames" "now" "LRingGames$State;") (List.mem_of_getElem? (i := 1) rfl)) (fun _ h9 => h9) rfl dX6_setColour_52 ?_
        obtain ⟨q7, hq7, hf⟩ := ob_some hf
        refine xcVv (w' := ((w_X ad cI cC cS now q7 snap has text trial meas walk) ++ R)) S hK hN hA hP hD hS (c_X2_remember l D cI cC cS ((xr 50 [7, 8, 9, 10, 11, 12, 13, 14, 15, 16, 17, 18, 19, 20, 21, 22, 23, 24, 25, 26, 27, 28, 29, 30, 31, 32, 1, 2, 3, 4, 5, 6]).filterMap (fun i => (w_X ad cI cC cS now hist snap has text trial meas walk)[i]?) ++ R) (ad 2) (ad 1) hist now _ hq7) gX6_setColour_X2_remember rfl hd_X2_remember ⟨by decide, by decide⟩ (x_cut (pre := (w_X ad cI cC cS now hist snap has text trial meas walk)) [7, 8, 9, 10, 11, 12, 13, 14, 15, 16, 17, 18, 19, 20, 21, 22, 23, 24, 25, 26, 27, 28, 29, 30, 31, 32, 1, 2, 3, 4, 5, 6] 50 rfl (by decide +kernel) rfl) (x_back (pre := (w_X ad cI cC cS now hist snap has text trial meas walk)) [7, 8, 9, 10, 11, 12, 13, 14, 15, 16, 17, 18, 19, 20, 21, 22, 23, 24, 25, 26, 27, 28, 29, 30, 31, 32, 1, 2, 3, 4, 5, 6] 50 rfl (by decide +kernel) rfl rfl) (ci := 2) (q := (RX2, TX2, 2)) rfl rfl rfl rfl hl.1 rfl (Nat.le_of_ble_eq_true rfl) dX6_setColour_55 ⟨Nat.zero_le _, Nat.zero_le _⟩ (fun H locs hP hD hS => ?_)
        refine lv_aload_n hx hb dX6_setColour_58 rfl (lv_at hl 1 rfl) ?_
        refine va_get (D := D) (ci := 6) (v := .ref ((ad 1) 0)) (C := RX6) (T := TX6) (N := 8) hx hb hts inw_X6_setColour_6 hown hK hP 0 rfl rfl 0 (by decide) (hts (.fieldLink RX6 12 "RingGames" "now" "LRingGames$State;") (List.mem_of_getElem? (i := 1) rfl)) (fun _ h9 => h9) rfl dX6_setColour_59 ?_
        refine va_get (D := D) (ci := 4) (v := .ref ((ad 1) 2)) (C := RX4) (T := TX4) (N := 4) hx hb hts inw_X6_setColour_4 hown hK hP 1 rfl rfl 0 (by decide) (hts (.fieldLink RX6 65 "RingGames$State" "game" "LRingGames$Game;") (List.mem_of_getElem? (i := 2) rfl)) (fun _ h9 => h9) rfl dX6_setColour_62 ?_
        refine va_get (D := D) (ci := 1) (v := .ref ((ad 1) 4)) (C := RX1) (T := TX1) (N := 4) hx hb hts inw_X6_setColour_1 hown hK hP 3 rfl rfl 2 (by decide) (hts (.fieldLink RX6 91 "RingGames$Game" "colours" "[I") (List.mem_of_getElem? (i := 3) rfl)) (fun _ h9 => h9) rfl dX6_setColour_65 ?_
        refine lv_iload_n hx hb dX6_setColour_68 rfl (lv_at hl 2 rfl) ?_
        refine lv_iload_n hx hb dX6_setColour_69 rfl (lv_at hl 3 rfl) ?_
        refine va_iast hx hb hK hP hD hS 5 0 rfl rfl g5 dX6_setColour_70 (fun H locs hP hD hS => ?_)
        have hP : va_P D vwCl ((w_X ad cI cC cS ((now.1.1, now.1.2.1, (upd now.1.2.2.1 (p1).toNatClampNeg p2), now.1.2.2.2), now.2.1, now.2.2.1, now.2.2.2) q7 snap has text trial meas walk) ++ R) H := hP
        have hD : va_D A ((w_X ad cI cC cS ((now.1.1, now.1.2.1, (upd now.1.2.2.1 (p1).toNatClampNeg p2), now.1.2.2.2), now.2.1, now.2.2.1, now.2.2.2) q7 snap has text trial meas walk) ++ R) := hD
        refine lv_iload_n hx hb dX6_setColour_71 rfl (lv_at hl 0 rfl) ?_
        have hf := Option.some.inj hf
        subst hf
        exact hret _ _ _ _ _ dX6_setColour_72 rfl hP hD hS rfl
      · have hf := if_t hf c6
        refine lv_bipush (v := (-5)) hx hb dX6_setColour_44 (by decide) ?_
        have hf := Option.some.inj hf
        subst hf
        exact hret _ _ _ _ _ dX6_setColour_46 rfl hP hD hS rfl
    · have hf := if_t hf c4
      refine lv_bipush (v := (-2)) hx hb dX6_setColour_23 (by decide) ?_
      have hf := Option.some.inj hf
      subst hf
      exact hret _ _ _ _ _ dX6_setColour_25 rfl hP hD hS rfl
  · have hf := if_t hf c2
    refine lv_iconst (v := (-1)) hx hb dX6_setColour_14 (by decide) ?_
    have hf := Option.some.inj hf
    subst hf
    exact hret _ _ _ _ _ dX6_setColour_15 rfl hP hD hS rfl
def f_X6_addArrow (n : Nat) (now : SS) (hist : HH) (p1 : Int32) (p2 : Int32) : Option (Int32 × SS × HH) := (f_X1_has now.1 p1).bind fun q1 => (if q1 = 0 then some ((-1), now, hist) else (f_X1_has now.1 p2).bind fun q3 => (if q3 = 0 then some ((-1), now, hist) else (f_X1_arrowCount n now.1).bind fun q5 => (if q5 < 60 then (f_X1_leads now.1 p1 p2).bind fun q7 => (if q7 = 0 then (f_X2_remember hist now).bind fun q9 => vg p1 14 ((f_X6_bit p2).bind fun q11 => (f_J6_bitCount_0f7a4 ((upd now.1.2.2.2 (p1).toNatClampNeg ((now.1.2.2.2 (p1).toNatClampNeg) ||| q11)) (p1).toNatClampNeg)).bind fun q12 => some (q12, ((now.1.1, now.1.2.1, now.1.2.2.1, (upd now.1.2.2.2 (p1).toNatClampNeg ((now.1.2.2.2 (p1).toNatClampNeg) ||| q11))), now.2.1, now.2.2.1, now.2.2.2), q9)) else some ((-5), now, hist)) else some ((-3), now, hist))))
theorem inw_X6_addArrow_1 : ∀ w ∈ wsX10, w ∈ wsX6_addArrow := fun _ h => List.mem_cons_of_mem _ (List.mem_append_left _ (List.mem_append_right _ h))
theorem inw_X6_addArrow_4 : ∀ w ∈ wsX40, w ∈ wsX6_addArrow := fun _ h => List.mem_cons_of_mem _ (List.mem_append_left _ (List.mem_append_left _ (List.mem_append_right _ h)))
theorem inw_X6_addArrow_6 : ∀ w ∈ wsX60, w ∈ wsX6_addArrow := fun _ h => List.mem_cons_of_mem _ (List.mem_append_left _ (List.mem_append_left _ (List.mem_append_left _ (List.mem_append_right _ h))))
theorem hd_X6_addArrow : yX6_addArrow.cls = RX6 ∧ yX6_addArrow.cls ≠ "java/lang/invoke/MethodHandle" ∧ yX6_addArrow.cls ≠ "java/lang/invoke/VarHandle" ∧ (parseMethodDescriptor yX6_addArrow.desc).map (fun d => d.parameters.length) = some 2 := by decide +kernel
set_option maxHeartbeats 4000000 in
set_option maxRecDepth 100000 in
theorem c_X6_addArrow (l : Launch) (D : va_G) (cI cC cS : ClassId) (R : va_W) (ad : Nat → Nat → Nat) (now : SS) (hist : HH) (snap : SS) (has : Int32) (text : TT) (trial : GG) (meas : EE) (walk : KK) (p1 : Int32) (p2 : Int32) (n : Nat) (r : Int32 × SS × HH) (hf : f_X6_addArrow n now hist p1 p2 = some r) : CI l yX6_addArrow wsX6_addArrow 4 123 D cI cC cS [.ref (ad 0 0), .int p1, .int p2] ((w_X ad cI cC cS now hist snap has text trial meas walk) ++ R) r.1 ((w_X ad cI cC cS r.2.1 r.2.2 snap has text trial meas walk) ++ R) := by
  refine XI.of (cc := cX6_addArrow) (maxL := 3) (ty := .int) (own := RX6) (by decide) rfl rfl (Nat.le_of_ble_eq_true rfl) ?_
  intro p e s m args below meth c A Q S hK hN hA hP hD hS ls hl hret
  obtain ⟨hx, hb, hml, hown, hts⟩ := id S
  have hl : lv_has ls 3 [(0, .ref (ad 0 0)), (1, .int p1), (2, .int p2)] := hl
  unfold f_X6_addArrow at hf
  refine lv_aload_n hx hb dX6_addArrow_0 rfl (lv_at hl 0 rfl) ?_
  refine va_get (D := D) (ci := 6) (v := .ref ((ad 1) 0)) (C := RX6) (T := TX6) (N := 8) hx hb hts inw_X6_addArrow_6 hown hK hP 0 rfl rfl 0 (by decide) (hts (.fieldLink RX6 12 "RingGames" "now" "LRingGames$State;") (List.mem_of_getElem? (i := 1) rfl)) (fun _ h9 => h9) rfl dX6_addArrow_1 ?_
  refine va_get (D := D) (ci := 4) (v := .ref ((ad 1) 2)) (C := RX4) (T := TX4) (N := 4) hx hb hts inw_X6_addArrow_4 hown hK hP 1 rfl rfl 0 (by decide) (hts (.fieldLink RX6 65 "RingGames$State" "game" "LRingGames$Game;") (List.mem_of_getElem? (i := 2) rfl)) (fun _ h9 => h9) rfl dX6_addArrow_4 ?_
  refine lv_iload_n hx hb dX6_addArrow_7 rfl (lv_at hl 1 rfl) ?_
  obtain ⟨q1, hq1, hf⟩ := ob_some hf
  refine xcVi (w' := ((w_X ad cI cC cS now hist snap has text trial meas walk) ++ R)) S hK hN hA hP hD hS (c_X1_has l D cI cC cS ((xr 50 [3, 4, 5, 6]).filterMap (fun i => (w_X ad cI cC cS now hist snap has text trial meas walk)[i]?) ++ R) (fun k => (ad 1) (k + 2)) now.1 p1 _ hq1) gX6_addArrow_X1_has rfl hd_X1_has ⟨by decide, by decide⟩ (x_cut (pre := (w_X ad cI cC cS now hist snap has text trial meas walk)) [3, 4, 5, 6] 50 rfl (by decide +kernel) rfl) (x_cut (pre := (w_X ad cI cC cS now hist snap has text trial meas walk)) [3, 4, 5, 6] 50 rfl (by decide +kernel) rfl).symm (ci := 1) (q := (RX1, TX1, 4)) rfl rfl rfl rfl hl.1 rfl (Nat.le_of_ble_eq_true rfl) dX6_addArrow_8 ⟨Nat.zero_le _, Nat.zero_le _⟩ (fun H locs hP hD hS => ?_)
  refine lv_if_eq (tgt := 28) hx hb dX6_addArrow_11 (by decide) (fun c2 => ?_) (fun c2 => ?_)
  · have hf := if_t hf c2
    refine lv_iconst (v := (-1)) hx hb dX6_addArrow_28 (by decide) ?_
    have hf := Option.some.inj hf
    subst hf
    exact hret _ _ _ _ _ dX6_addArrow_29 rfl hP hD hS rfl
  · have hf := if_f hf c2
    refine lv_aload_n hx hb dX6_addArrow_14 rfl (lv_at hl 0 rfl) ?_
    refine va_get (D := D) (ci := 6) (v := .ref ((ad 1) 0)) (C := RX6) (T := TX6) (N := 8) hx hb hts inw_X6_addArrow_6 hown hK hP 0 rfl rfl 0 (by decide) (hts (.fieldLink RX6 12 "RingGames" "now" "LRingGames$State;") (List.mem_of_getElem? (i := 1) rfl)) (fun _ h9 => h9) rfl dX6_addArrow_15 ?_
    refine va_get (D := D) (ci := 4) (v := .ref ((ad 1) 2)) (C := RX4) (T := TX4) (N := 4) hx hb hts inw_X6_addArrow_4 hown hK hP 1 rfl rfl 0 (by decide) (hts (.fieldLink RX6 65 "RingGames$State" "game" "LRingGames$Game;") (List.mem_of_getElem? (i := 2) rfl)) (fun _ h9 => h9) rfl dX6_addArrow_18 ?_
    refine lv_iload_n hx hb dX6_addArrow_21 rfl (lv_at hl 2 rfl) ?_
    obtain ⟨q3, hq3, hf⟩ := ob_some hf
    refine xcVi (w' := ((w_X ad cI cC cS now hist snap has text trial meas walk) ++ R)) S hK hN hA hP hD hS (c_X1_has l D cI cC cS ((xr 50 [3, 4, 5, 6]).filterMap (fun i => (w_X ad cI cC cS now hist snap has text trial meas walk)[i]?) ++ R) (fun k => (ad 1) (k + 2)) now.1 p2 _ hq3) gX6_addArrow_X1_has rfl hd_X1_has ⟨by decide, by decide⟩ (x_cut (pre := (w_X ad cI cC cS now hist snap has text trial meas walk)) [3, 4, 5, 6] 50 rfl (by decide +kernel) rfl) (x_cut (pre := (w_X ad cI cC cS now hist snap has text trial meas walk)) [3, 4, 5, 6] 50 rfl (by decide +kernel) rfl).symm (ci := 1) (q := (RX1, TX1, 4)) rfl rfl rfl rfl hl.1 rfl (Nat.le_of_ble_eq_true rfl) dX6_addArrow_22 ⟨Nat.zero_le _, Nat.zero_le _⟩ (fun H locs hP hD hS => ?_)
    refine lv_if_ne (tgt := 30) hx hb dX6_addArrow_25 (by decide) (fun c4 => ?_) (fun c4 => ?_)
    · have hf := if_f hf c4
      refine lv_aload_n hx hb dX6_addArrow_30 rfl (lv_at hl 0 rfl) ?_
      refine va_get (D := D) (ci := 6) (v := .ref ((ad 1) 0)) (C := RX6) (T := TX6) (N := 8) hx hb hts inw_X6_addArrow_6 hown hK hP 0 rfl rfl 0 (by decide) (hts (.fieldLink RX6 12 "RingGames" "now" "LRingGames$State;") (List.mem_of_getElem? (i := 1) rfl)) (fun _ h9 => h9) rfl dX6_addArrow_31 ?_
      refine va_get (D := D) (ci := 4) (v := .ref ((ad 1) 2)) (C := RX4) (T := TX4) (N := 4) hx hb hts inw_X6_addArrow_4 hown hK hP 1 rfl rfl 0 (by decide) (hts (.fieldLink RX6 65 "RingGames$State" "game" "LRingGames$Game;") (List.mem_of_getElem? (i := 2) rfl)) (fun _ h9 => h9) rfl dX6_addArrow_34 ?_
      obtain ⟨q5, hq5, hf⟩ := ob_some hf
      refine xcVi (w' := ((w_X ad cI cC cS now hist snap has text trial meas walk) ++ R)) S hK hN hA hP hD hS (c_X1_arrowCount l D cI cC cS ((xr 50 [3, 4, 5, 6]).filterMap (fun i => (w_X ad cI cC cS now hist snap has text trial meas walk)[i]?) ++ R) (fun k => (ad 1) (k + 2)) now.1 n _ hq5) gX6_addArrow_X1_arrowCount rfl hd_X1_arrowCount ⟨by decide, by decide⟩ (x_cut (pre := (w_X ad cI cC cS now hist snap has text trial meas walk)) [3, 4, 5, 6] 50 rfl (by decide +kernel) rfl) (x_cut (pre := (w_X ad cI cC cS now hist snap has text trial meas walk)) [3, 4, 5, 6] 50 rfl (by decide +kernel) rfl).symm (ci := 1) (q := (RX1, TX1, 4)) rfl rfl rfl rfl hl.1 rfl (Nat.le_of_ble_eq_true rfl) dX6_addArrow_37 ⟨Nat.zero_le _, Nat.zero_le _⟩ (fun H locs hP hD hS => ?_)
      refine lv_bipush (v := 60) hx hb dX6_addArrow_40 (by decide) ?_
      refine lv_icmp_lt (tgt := 48) hx hb dX6_addArrow_42 (by decide) (fun c6 => ?_) (fun c6 => ?_)
      · have hf := if_t hf c6
        refine lv_aload_n hx hb dX6_addArrow_48 rfl (lv_at hl 0 rfl) ?_
        refine va_get (D := D) (ci := 6) (v := .ref ((ad 1) 0)) (C := RX6) (T := TX6) (N := 8) hx hb hts inw_X6_addArrow_6 hown hK hP 0 rfl rfl 0 (by decide) (hts (.fieldLink RX6 12 "RingGames" "now" "LRingGames$State;") (List.mem_of_getElem? (i := 1) rfl)) (fun _ h9 => h9) rfl dX6_addArrow_49 ?_
        refine va_get (D := D) (ci := 4) (v := .ref ((ad 1) 2)) (C := RX4) (T := TX4) (N := 4) hx hb hts inw_X6_addArrow_4 hown hK hP 1 rfl rfl 0 (by decide) (hts (.fieldLink RX6 65 "RingGames$State" "game" "LRingGames$Game;") (List.mem_of_getElem? (i := 2) rfl)) (fun _ h9 => h9) rfl dX6_addArrow_52 ?_
        refine lv_iload_n hx hb dX6_addArrow_55 rfl (lv_at hl 1 rfl) ?_
        refine lv_iload_n hx hb dX6_addArrow_56 rfl (lv_at hl 2 rfl) ?_
        obtain ⟨q7, hq7, hf⟩ := ob_some hf
        refine xcVi (w' := ((w_X ad cI cC cS now hist snap has text trial meas walk) ++ R)) S hK hN hA hP hD hS (c_X1_leads l D cI cC cS ((xr 50 [3, 4, 5, 6]).filterMap (fun i => (w_X ad cI cC cS now hist snap has text trial meas walk)[i]?) ++ R) (fun k => (ad 1) (k + 2)) now.1 p1 p2 _ hq7) gX6_addArrow_X1_leads rfl hd_X1_leads ⟨by decide, by decide⟩ (x_cut (pre := (w_X ad cI cC cS now hist snap has text trial meas walk)) [3, 4, 5, 6] 50 rfl (by decide +kernel) rfl) (x_cut (pre := (w_X ad cI cC cS now hist snap has text trial meas walk)) [3, 4, 5, 6] 50 rfl (by decide +kernel) rfl).symm (ci := 1) (q := (RX1, TX1, 4)) rfl rfl rfl rfl hl.1 rfl (Nat.le_of_ble_eq_true rfl) dX6_addArrow_57 ⟨Nat.zero_le _, Nat.zero_le _⟩ (fun H locs hP hD hS => ?_)
        refine lv_if_eq (tgt := 66) hx hb dX6_addArrow_60 (by decide) (fun c8 => ?_) (fun c8 => ?_)
        · have hf := if_t hf c8
          refine lv_aload_n hx hb dX6_addArrow_66 rfl (lv_at hl 0 rfl) ?_
          refine va_get (D := D) (ci := 6) (v := .ref ((ad 2) 0)) (C := RX6) (T := TX6) (N := 8) hx hb hts inw_X6_addArrow_6 hown hK hP 0 rfl rfl 1 (by decide) (hts (.fieldLink RX6 19 "RingGames" "history" "LRingGames$History;") (List.mem_of_getElem? (i := 3) rfl)) (fun _ h9 => h9) rfl dX6_addArrow_67 ?_
          refine lv_aload_n hx hb dX6_addArrow_70 rfl (lv_at hl 0 rfl) ?_
          refine va_get (D := D) (ci := 6) (v := .ref ((ad 1) 0)) (C := RX6) (T := TX6) (N := 8) hx hb hts inw_X6_addArrow_6 hown hK hP 0 rfl rfl 0 (by decide) (hts (.fieldLink RX6 12 "RingGames" "now" "LRingGames$State;") (List.mem_of_getElem? (i := 1) rfl)) (fun _ h9 => h9) rfl dX6_addArrow_71 ?_
          obtain ⟨q9, hq9, hf⟩ := ob_some hf
          refine xcVv (w' := ((w_X ad cI cC cS now q9 snap has text trial meas walk) ++ R)) S hK hN hA hP hD hS (c_X2_remember l D cI cC cS ((xr 50 [7, 8, 9, 10, 11, 12, 13, 14, 15, 16, 17, 18, 19, 20, 21, 22, 23, 24, 25, 26, 27, 28, 29, 30, 31, 32, 1, 2, 3, 4, 5, 6]).filterMap (fun i => (w_X ad cI cC cS now hist snap has text trial meas walk)[i]?) ++ R) (ad 2) (ad 1) hist now _ hq9) gX6_addArrow_X2_remember rfl hd_X2_remember ⟨by decide, by decide⟩ (x_cut (pre := (w_X ad cI cC cS now hist snap has text trial meas walk)) [7, 8, 9, 10, 11, 12, 13, 14, 15, 16, 17, 18, 19, 20, 21, 22, 23, 24, 25, 26, 27, 28, 29, 30, 31, 32, 1, 2, 3, 4, 5, 6] 50 rfl (by decide +kernel) rfl) (x_back (pre := (w_X ad cI cC cS now hist snap has text trial meas walk)) [7, 8, 9, 10, 11, 12, 13, 14, 15, 16, 17, 18, 19, 20, 21, 22, 23, 24, 25, 26, 27, 28, 29, 30, 31, 32, 1, 2, 3, 4, 5, 6] 50 rfl (by decide +kernel) rfl rfl) (ci := 2) (q := (RX2, TX2, 2)) rfl rfl rfl rfl hl.1 rfl (Nat.le_of_ble_eq_true rfl) dX6_addArrow_74 ⟨Nat.zero_le _, Nat.zero_le _⟩ (fun H locs hP hD hS => ?_)
          refine lv_aload_n hx hb dX6_addArrow_77 rfl (lv_at hl 0 rfl) ?_
          refine va_get (D := D) (ci := 6) (v := .ref ((ad 1) 0)) (C := RX6) (T := TX6) (N := 8) hx hb hts inw_X6_addArrow_6 hown hK hP 0 rfl rfl 0 (by decide) (hts (.fieldLink RX6 12 "RingGames" "now" "LRingGames$State;") (List.mem_of_getElem? (i := 1) rfl)) (fun _ h9 => h9) rfl dX6_addArrow_78 ?_
          refine va_get (D := D) (ci := 4) (v := .ref ((ad 1) 2)) (C := RX4) (T := TX4) (N := 4) hx hb hts inw_X6_addArrow_4 hown hK hP 1 rfl rfl 0 (by decide) (hts (.fieldLink RX6 65 "RingGames$State" "game" "LRingGames$Game;") (List.mem_of_getElem? (i := 2) rfl)) (fun _ h9 => h9) rfl dX6_addArrow_81 ?_
          refine va_get (D := D) (ci := 1) (v := .ref ((ad 1) 5)) (C := RX1) (T := TX1) (N := 4) hx hb hts inw_X6_addArrow_1 hown hK hP 3 rfl rfl 3 (by decide) (hts (.fieldLink RX6 102 "RingGames$Game" "arrows" "[I") (List.mem_of_getElem? (i := 4) rfl)) (fun _ h9 => h9) rfl dX6_addArrow_84 ?_
          refine lv_iload_n hx hb dX6_addArrow_87 rfl (lv_at hl 1 rfl) ?_
          refine lv_dup2_11 hx hb dX6_addArrow_88 rfl rfl ?_
          obtain ⟨g10, hf⟩ := vg_some hf
          refine va_iald hx hb hK hP 6 0 rfl rfl g10 dX6_addArrow_89 ?_
          refine lv_iload_n hx hb dX6_addArrow_90 rfl (lv_at hl 2 rfl) ?_
          obtain ⟨q11, hq11, hf⟩ := ob_some hf
          refine xcSi S hK hN hA hP hD hS (c_X6_bit l D cI cC cS ((w_X ad cI cC cS now q9 snap has text trial meas walk) ++ R) p2 _ hq11) gX6_addArrow_X6_bit rfl hd_X6_bit ⟨by decide, by decide⟩ rfl hl.1 rfl (Nat.le_of_ble_eq_true rfl) dX6_addArrow_91 ⟨Nat.zero_le _, Nat.zero_le _⟩ (fun H locs hP hD hS => ?_)
          refine lv_ior hx hb dX6_addArrow_94 ?_
          refine va_iast hx hb hK hP hD hS 6 0 rfl rfl g10 dX6_addArrow_95 (fun H locs hP hD hS => ?_)
          have hP : va_P D vwCl ((w_X ad cI cC cS ((now.1.1, now.1.2.1, now.1.2.2.1, (upd now.1.2.2.2 (p1).toNatClampNeg ((now.1.2.2.2 (p1).toNatClampNeg) ||| q11))), now.2.1, now.2.2.1, now.2.2.2) q9 snap has text trial meas walk) ++ R) H := hP
          have hD : va_D A ((w_X ad cI cC cS ((now.1.1, now.1.2.1, now.1.2.2.1, (upd now.1.2.2.2 (p1).toNatClampNeg ((now.1.2.2.2 (p1).toNatClampNeg) ||| q11))), now.2.1, now.2.2.1, now.2.2.2) q9 snap has text trial meas walk) ++ R) := hD
          refine lv_aload_n hx hb dX6_addArrow_96 rfl (lv_at hl 0 rfl) ?_
          refine va_get (D := D) (ci := 6) (v := .ref ((ad 1) 0)) (C := RX6) (T := TX6) (N := 8) hx hb hts inw_X6_addArrow_6 hown hK hP 0 rfl rfl 0 (by decide) (hts (.fieldLink RX6 12 "RingGames" "now" "LRingGames$State;") (List.mem_of_getElem? (i := 1) rfl)) (fun _ h9 => h9) rfl dX6_addArrow_97 ?_
          refine va_get (D := D) (ci := 4) (v := .ref ((ad 1) 2)) (C := RX4) (T := TX4) (N := 4) hx hb hts inw_X6_addArrow_4 hown hK hP 1 rfl rfl 0 (by decide) (hts (.fieldLink RX6 65 "RingGames$State" "game" "LRingGames$Game;") (List.mem_of_getElem? (i := 2) rfl)) (fun _ h9 => h9) rfl dX6_addArrow_100 ?_
          refine va_get (D := D) (ci := 1) (v := .ref ((ad 1) 5)) (C := RX1) (T := TX1) (N := 4) hx hb hts inw_X6_addArrow_1 hown hK hP 3 rfl rfl 3 (by decide) (hts (.fieldLink RX6 102 "RingGames$Game" "arrows" "[I") (List.mem_of_getElem? (i := 4) rfl)) (fun _ h9 => h9) rfl dX6_addArrow_103 ?_
          refine lv_iload_n hx hb dX6_addArrow_106 rfl (lv_at hl 1 rfl) ?_
          refine va_iald hx hb hK hP 6 0 rfl rfl g10 dX6_addArrow_107 ?_
          obtain ⟨q12, hq12, hf⟩ := ob_some hf
          refine xcSi S hK hN hA hP hD hS (c_J6_bitCount_0f7a4 l D cI cC cS ((w_X ad cI cC cS ((now.1.1, now.1.2.1, now.1.2.2.1, (upd now.1.2.2.2 (p1).toNatClampNeg ((now.1.2.2.2 (p1).toNatClampNeg) ||| q11))), now.2.1, now.2.2.1, now.2.2.2) q9 snap has text trial meas walk) ++ R) ((upd now.1.2.2.2 (p1).toNatClampNeg ((now.1.2.2.2 (p1).toNatClampNeg) ||| q11)) (p1).toNatClampNeg) _ hq12) gX6_addArrow_J6_bitCount_0f7a4 rfl hd_J6_bitCount_0f7a4 ⟨by decide, by decide⟩ rfl hl.1 rfl (Nat.le_of_ble_eq_true rfl) dX6_addArrow_108 ⟨Nat.zero_le _, Nat.zero_le _⟩ (fun H locs hP hD hS => ?_)
          have hf := Option.some.inj hf
          subst hf
          exact hret _ _ _ _ _ dX6_addArrow_111 rfl hP hD hS rfl
        · have hf := if_f hf c8
          refine lv_bipush (v := (-5)) hx hb dX6_addArrow_63 (by decide) ?_
          have hf := Option.some.inj hf
          subst hf
          exact hret _ _ _ _ _ dX6_addArrow_65 rfl hP hD hS rfl
      · have hf := if_f hf c6
        refine lv_bipush (v := (-3)) hx hb dX6_addArrow_45 (by decide) ?_
        have hf := Option.some.inj hf
        subst hf
        exact hret _ _ _ _ _ dX6_addArrow_47 rfl hP hD hS rfl
    · have hf := if_t hf c4
      refine lv_iconst (v := (-1)) hx hb dX6_addArrow_28 (by decide) ?_
      have hf := Option.some.inj hf
      subst hf
      exact hret _ _ _ _ _ dX6_addArrow_29 rfl hP hD hS rfl
def f_X6_removeArrow (now : SS) (hist : HH) (p1 : Int32) (p2 : Int32) : Option (Int32 × SS × HH) := (f_X1_has now.1 p1).bind fun q1 => (if q1 = 0 then some ((-1), now, hist) else (f_X1_has now.1 p2).bind fun q3 => (if q3 = 0 then some ((-1), now, hist) else (f_X1_leads now.1 p1 p2).bind fun q5 => (if q5 = 0 then some ((-5), now, hist) else (f_X2_remember hist now).bind fun q7 => vg p1 14 ((f_X6_bit p2).bind fun q9 => ((if (now.2.1 (p1).toNatClampNeg) = p2 then some (((now.1.1, now.1.2.1, now.1.2.2.1, (upd now.1.2.2.2 (p1).toNatClampNeg ((now.1.2.2.2 (p1).toNatClampNeg) &&& (q9 ^^^ (-1))))), (upd now.2.1 (p1).toNatClampNeg 14), now.2.2.1, now.2.2.2)) else some (((now.1.1, now.1.2.1, now.1.2.2.1, (upd now.1.2.2.2 (p1).toNatClampNeg ((now.1.2.2.2 (p1).toNatClampNeg) &&& (q9 ^^^ (-1))))), now.2.1, now.2.2.1, now.2.2.2))) : Option SS).bind fun j11 => (f_J6_bitCount_0f7a4 (j11.1.2.2.2 (p1).toNatClampNeg)).bind fun q13 => some (q13, j11, q7)))))
theorem inw_X6_removeArrow_1 : ∀ w ∈ wsX10, w ∈ wsX6_removeArrow := fun _ h => List.mem_cons_of_mem _ (List.mem_append_left _ (List.mem_append_right _ h))
theorem inw_X6_removeArrow_4 : ∀ w ∈ wsX40, w ∈ wsX6_removeArrow := fun _ h => List.mem_cons_of_mem _ (List.mem_append_left _ (List.mem_append_left _ (List.mem_append_right _ h)))
theorem inw_X6_removeArrow_6 : ∀ w ∈ wsX60, w ∈ wsX6_removeArrow := fun _ h => List.mem_cons_of_mem _ (List.mem_append_left _ (List.mem_append_left _ (List.mem_append_left _ (List.mem_append_right _ h))))
theorem hd_X6_removeArrow : yX6_removeArrow.cls = RX6 ∧ yX6_removeArrow.cls ≠ "java/lang/invoke/MethodHandle" ∧ yX6_removeArrow.cls ≠ "java/lang/invoke/VarHandle" ∧ (parseMethodDescriptor yX6_removeArrow.desc).map (fun d => d.parameters.length) = some 2 := by decide +kernel
set_option maxHeartbeats 4000000 in
set_option maxRecDepth 100000 in
theorem c_X6_removeArrow (l : Launch) (D : va_G) (cI cC cS : ClassId) (R : va_W) (ad : Nat → Nat → Nat) (now : SS) (hist : HH) (snap : SS) (has : Int32) (text : TT) (trial : GG) (meas : EE) (walk : KK) (p1 : Int32) (p2 : Int32) (r : Int32 × SS × HH) (hf : f_X6_removeArrow now hist p1 p2 = some r) : CI l yX6_removeArrow wsX6_removeArrow 4 123 D cI cC cS [.ref (ad 0 0), .int p1, .int p2] ((w_X ad cI cC cS now hist snap has text trial meas walk) ++ R) r.1 ((w_X ad cI cC cS r.2.1 r.2.2 snap has text trial meas walk) ++ R) := by
  refine XI.of (cc := cX6_removeArrow) (maxL := 3) (ty := .int) (own := RX6) (by decide) rfl rfl (Nat.le_of_ble_eq_true rfl) ?_
  intro p e s m args below meth c A Q S hK hN hA hP hD hS ls hl hret
  obtain ⟨hx, hb, hml, hown, hts⟩ := id S
  have hl : lv_has ls 3 [(0, .ref (ad 0 0)), (1, .int p1), (2, .int p2)] := hl
  unfold f_X6_removeArrow at hf
  refine lv_aload_n hx hb dX6_removeArrow_0 rfl (lv_at hl 0 rfl) ?_
  refine va_get (D := D) (ci := 6) (v := .ref ((ad 1) 0)) (C := RX6) (T := TX6) (N := 8) hx hb hts inw_X6_removeArrow_6 hown hK hP 0 rfl rfl 0 (by decide) (hts (.fieldLink RX6 12 "RingGames" "now" "LRingGames$State;") (List.mem_of_getElem? (i := 1) rfl)) (fun _ h9 => h9) rfl dX6_removeArrow_1 ?_
  refine va_get (D := D) (ci := 4) (v := .ref ((ad 1) 2)) (C := RX4) (T := TX4) (N := 4) hx hb hts inw_X6_removeArrow_4 hown hK hP 1 rfl rfl 0 (by decide) (hts (.fieldLink RX6 65 "RingGames$State" "game" "LRingGames$Game;") (List.mem_of_getElem? (i := 2) rfl)) (fun _ h9 => h9) rfl dX6_removeArrow_4 ?_
  refine lv_iload_n hx hb dX6_removeArrow_7 rfl (lv_at hl 1 rfl) ?_
  obtain ⟨q1, hq1, hf⟩ := ob_some hf
  refine xcVi (w' := ((w_X ad cI cC cS now hist snap has text trial meas walk) ++ R)) S hK hN hA hP hD hS (c_X1_has l D cI cC cS ((xr 50 [3, 4, 5, 6]).filterMap (fun i => (w_X ad cI cC cS now hist snap has text trial meas walk)[i]?) ++ R) (fun k => (ad 1) (k + 2)) now.1 p1 _ hq1) gX6_removeArrow_X1_has rfl hd_X1_has ⟨by decide, by decide⟩ (x_cut (pre := (w_X ad cI cC cS now hist snap has text trial meas walk)) [3, 4, 5, 6] 50 rfl (by decide +kernel) rfl) (x_cut (pre := (w_X ad cI cC cS now hist snap has text trial meas walk)) [3, 4, 5, 6] 50 rfl (by decide +kernel) rfl).symm (ci := 1) (q := (RX1, TX1, 4)) rfl rfl rfl rfl hl.1 rfl (Nat.le_of_ble_eq_true rfl) dX6_removeArrow_8 ⟨Nat.zero_le _, Nat.zero_le _⟩ (fun H locs hP hD hS => ?_)
  refine lv_if_eq (tgt := 28) hx hb dX6_removeArrow_11 (by decide) (fun c2 => ?_) (fun c2 => ?_)
  · have hf := if_t hf c2
    refine lv_iconst (v := (-1)) hx hb dX6_removeArrow_28 (by decide) ?_
    have hf := Option.some.inj hf
    subst hf
    exact hret _ _ _ _ _ dX6_removeArrow_29 rfl hP hD hS rfl
  · have hf := if_f hf c2
    refine lv_aload_n hx hb dX6_removeArrow_14 rfl (lv_at hl 0 rfl) ?_
    refine va_get (D := D) (ci := 6) (v := .ref ((ad 1) 0)) (C := RX6) (T := TX6) (N := 8) hx hb hts inw_X6_removeArrow_6 hown hK hP 0 rfl rfl 0 (by decide) (hts (.fieldLink RX6 12 "RingGames" "now" "LRingGames$State;") (List.mem_of_getElem? (i := 1) rfl)) (fun _ h9 => h9) rfl dX6_removeArrow_15 ?_
    refine va_get (D := D) (ci := 4) (v := .ref ((ad 1) 2)) (C := RX4) (T := TX4) (N := 4) hx hb hts inw_X6_removeArrow_4 hown hK hP 1 rfl rfl 0 (by decide) (hts (.fieldLink RX6 65 "RingGames$State" "game" "LRingGames$Game;") (List.mem_of_getElem? (i := 2) rfl)) (fun _ h9 => h9) rfl dX6_removeArrow_18 ?_
    refine lv_iload_n hx hb dX6_removeArrow_21 rfl (lv_at hl 2 rfl) ?_
    obtain ⟨q3, hq3, hf⟩ := ob_some hf
    refine xcVi (w' := ((w_X ad cI cC cS now hist snap has text trial meas walk) ++ R)) S hK hN hA hP hD hS (c_X1_has l D cI cC cS ((xr 50 [3, 4, 5, 6]).filterMap (fun i => (w_X ad cI cC cS now hist snap has text trial meas walk)[i]?) ++ R) (fun k => (ad 1) (k + 2)) now.1 p2 _ hq3) gX6_removeArrow_X1_has rfl hd_X1_has ⟨by decide, by decide⟩ (x_cut (pre := (w_X ad cI cC cS now hist snap has text trial meas walk)) [3, 4, 5, 6] 50 rfl (by decide +kernel) rfl) (x_cut (pre := (w_X ad cI cC cS now hist snap has text trial meas walk)) [3, 4, 5, 6] 50 rfl (by decide +kernel) rfl).symm (ci := 1) (q := (RX1, TX1, 4)) rfl rfl rfl rfl hl.1 rfl (Nat.le_of_ble_eq_true rfl) dX6_removeArrow_22 ⟨Nat.zero_le _, Nat.zero_le _⟩ (fun H locs hP hD hS => ?_)
    refine lv_if_ne (tgt := 30) hx hb dX6_removeArrow_25 (by decide) (fun c4 => ?_) (fun c4 => ?_)
    · have hf := if_f hf c4
      refine lv_aload_n hx hb dX6_removeArrow_30 rfl (lv_at hl 0 rfl) ?_
      refine va_get (D := D) (ci := 6) (v := .ref ((ad 1) 0)) (C := RX6) (T := TX6) (N := 8) hx hb hts inw_X6_removeArrow_6 hown hK hP 0 rfl rfl 0 (by decide) (hts (.fieldLink RX6 12 "RingGames" "now" "LRingGames$State;") (List.mem_of_getElem? (i := 1) rfl)) (fun _ h9 => h9) rfl dX6_removeArrow_31 ?_
      refine va_get (D := D) (ci := 4) (v := .ref ((ad 1) 2)) (C := RX4) (T := TX4) (N := 4) hx hb hts inw_X6_removeArrow_4 hown hK hP 1 rfl rfl 0 (by decide) (hts (.fieldLink RX6 65 "RingGames$State" "game" "LRingGames$Game;") (List.mem_of_getElem? (i := 2) rfl)) (fun _ h9 => h9) rfl dX6_removeArrow_34 ?_
      refine lv_iload_n hx hb dX6_removeArrow_37 rfl (lv_at hl 1 rfl) ?_
      refine lv_iload_n hx hb dX6_removeArrow_38 rfl (lv_at hl 2 rfl) ?_
      obtain ⟨q5, hq5, hf⟩ := ob_some hf
      refine xcVi (w' := ((w_X ad cI cC cS now hist snap has text trial meas walk) ++ R)) S hK hN hA hP hD hS (c_X1_leads l D cI cC cS ((xr 50 [3, 4, 5, 6]).filterMap (fun i => (w_X ad cI cC cS now hist snap has text trial meas walk)[i]?) ++ R) (fun k => (ad 1) (k + 2)) now.1 p1 p2 _ hq5) gX6_removeArrow_X1_leads rfl hd_X1_leads ⟨by decide, by decide⟩ (x_cut (pre := (w_X ad cI cC cS now hist snap has text trial meas walk)) [3, 4, 5, 6] 50 rfl (by decide +kernel) rfl) (x_cut (pre := (w_X ad cI cC cS now hist snap has text trial meas walk)) [3, 4, 5, 6] 50 rfl (by decide +kernel) rfl).symm (ci := 1) (q := (RX1, TX1, 4)) rfl rfl rfl rfl hl.1 rfl (Nat.le_of_ble_eq_true rfl) dX6_removeArrow_39 ⟨Nat.zero_le _, Nat.zero_le _⟩ (fun H locs hP hD hS => ?_)
      refine lv_if_ne (tgt := 48) hx hb dX6_removeArrow_42 (by decide) (fun c6 => ?_) (fun c6 => ?_)
      · have hf := if_f hf c6
        refine lv_aload_n hx hb dX6_removeArrow_48 rfl (lv_at hl 0 rfl) ?_
        refine va_get (D := D) (ci := 6) (v := .ref ((ad 2) 0)) (C := RX6) (T := TX6) (N := 8) hx hb hts inw_X6_removeArrow_6 hown hK hP 0 rfl rfl 1 (by decide) (hts (.fieldLink RX6 19 "RingGames" "history" "LRingGames$History;") (List.mem_of_getElem? (i := 3) rfl)) (fun _ h9 => h9) rfl dX6_removeArrow_49 ?_
        refine lv_aload_n hx hb dX6_removeArrow_52 rfl (lv_at hl 0 rfl) ?_
        refine va_get (D := D) (ci := 6) (v := .ref ((ad 1) 0)) (C := RX6) (T := TX6) (N := 8) hx hb hts inw_X6_removeArrow_6 hown hK hP 0 rfl rfl 0 (by decide) (hts (.fieldLink RX6 12 "RingGames" "now" "LRingGames$State;") (List.mem_of_getElem? (i := 1) rfl)) (fun _ h9 => h9) rfl dX6_removeArrow_53 ?_
        obtain ⟨q7, hq7, hf⟩ := ob_some hf
        refine xcVv (w' := ((w_X ad cI cC cS now q7 snap has text trial meas walk) ++ R)) S hK hN hA hP hD hS (c_X2_remember l D cI cC cS ((xr 50 [7, 8, 9, 10, 11, 12, 13, 14, 15, 16, 17, 18, 19, 20, 21, 22, 23, 24, 25, 26, 27, 28, 29, 30, 31, 32, 1, 2, 3, 4, 5, 6]).filterMap (fun i => (w_X ad cI cC cS now hist snap has text trial meas walk)[i]?) ++ R) (ad 2) (ad 1) hist now _ hq7) gX6_removeArrow_X2_remember rfl hd_X2_remember ⟨by decide, by decide⟩ (x_cut (pre := (w_X ad cI cC cS now hist snap has text trial meas walk)) [7, 8, 9, 10, 11, 12, 13, 14, 15, 16, 17, 18, 19, 20, 21, 22, 23, 24, 25, 26, 27, 28, 29, 30, 31, 32, 1, 2, 3, 4, 5, 6] 50 rfl (by decide +kernel) rfl) (x_back (pre := (w_X ad cI cC cS now hist snap has text trial meas walk)) [7, 8, 9, 10, 11, 12, 13, 14, 15, 16, 17, 18, 19, 20, 21, 22, 23, 24, 25, 26, 27, 28, 29, 30, 31, 32, 1, 2, 3, 4, 5, 6] 50 rfl (by decide +kernel) rfl rfl) (ci := 2) (q := (RX2, TX2, 2)) rfl rfl rfl rfl hl.1 rfl (Nat.le_of_ble_eq_true rfl) dX6_removeArrow_56 ⟨Nat.zero_le _, Nat.zero_le _⟩ (fun H locs hP hD hS => ?_)
        refine lv_aload_n hx hb dX6_removeArrow_59 rfl (lv_at hl 0 rfl) ?_
        refine va_get (D := D) (ci := 6) (v := .ref ((ad 1) 0)) (C := RX6) (T := TX6) (N := 8) hx hb hts inw_X6_removeArrow_6 hown hK hP 0 rfl rfl 0 (by decide) (hts (.fieldLink RX6 12 "RingGames" "now" "LRingGames$State;") (List.mem_of_getElem? (i := 1) rfl)) (fun _ h9 => h9) rfl dX6_removeArrow_60 ?_
        refine va_get (D := D) (ci := 4) (v := .ref ((ad 1) 2)) (C := RX4) (T := TX4) (N := 4) hx hb hts inw_X6_removeArrow_4 hown hK hP 1 rfl rfl 0 (by decide) (hts (.fieldLink RX6 65 "RingGames$State" "game" "LRingGames$Game;") (List.mem_of_getElem? (i := 2) rfl)) (fun _ h9 => h9) rfl dX6_removeArrow_63 ?_
        refine va_get (D := D) (ci := 1) (v := .ref ((ad 1) 5)) (C := RX1) (T := TX1) (N := 4) hx hb hts inw_X6_removeArrow_1 hown hK hP 3 rfl rfl 3 (by decide) (hts (.fieldLink RX6 102 "RingGames$Game" "arrows" "[I") (List.mem_of_getElem? (i := 4) rfl)) (fun _ h9 => h9) rfl dX6_removeArrow_66 ?_
        refine lv_iload_n hx hb dX6_removeArrow_69 rfl (lv_at hl 1 rfl) ?_
        refine lv_dup2_11 hx hb dX6_removeArrow_70 rfl rfl ?_
        obtain ⟨g8, hf⟩ := vg_some hf
        refine va_iald hx hb hK hP 6 0 rfl rfl g8 dX6_removeArrow_71 ?_
        refine lv_iload_n hx hb dX6_removeArrow_72 rfl (lv_at hl 2 rfl) ?_
        obtain ⟨q9, hq9, hf⟩ := ob_some hf
        refine xcSi S hK hN hA hP hD hS (c_X6_bit l D cI cC cS ((w_X ad cI cC cS now q7 snap has text trial meas walk) ++ R) p2 _ hq9) gX6_removeArrow_X6_bit rfl hd_X6_bit ⟨by decide, by decide⟩ rfl hl.1 rfl (Nat.le_of_ble_eq_true rfl) dX6_removeArrow_73 ⟨Nat.zero_le _, Nat.zero_le _⟩ (fun H locs hP hD hS => ?_)
        refine lv_iconst (v := (-1)) hx hb dX6_removeArrow_76 (by decide) ?_
        refine lv_ixor hx hb dX6_removeArrow_77 ?_
        refine lv_iand hx hb dX6_removeArrow_78 ?_
        refine va_iast hx hb hK hP hD hS 6 0 rfl rfl g8 dX6_removeArrow_79 (fun H locs hP hD hS => ?_)
        have hP : va_P D vwCl ((w_X ad cI cC cS ((now.1.1, now.1.2.1, now.1.2.2.1, (upd now.1.2.2.2 (p1).toNatClampNeg ((now.1.2.2.2 (p1).toNatClampNeg) &&& (q9 ^^^ (-1))))), now.2.1, now.2.2.1, now.2.2.2) q7 snap has text trial meas walk) ++ R) H := hP
        have hD : va_D A ((w_X ad cI cC cS ((now.1.1, now.1.2.1, now.1.2.2.1, (upd now.1.2.2.2 (p1).toNatClampNeg ((now.1.2.2.2 (p1).toNatClampNeg) &&& (q9 ^^^ (-1))))), now.2.1, now.2.2.1, now.2.2.2) q7 snap has text trial meas walk) ++ R) := hD
        refine lv_aload_n hx hb dX6_removeArrow_80 rfl (lv_at hl 0 rfl) ?_
        refine va_get (D := D) (ci := 6) (v := .ref ((ad 1) 0)) (C := RX6) (T := TX6) (N := 8) hx hb hts inw_X6_removeArrow_6 hown hK hP 0 rfl rfl 0 (by decide) (hts (.fieldLink RX6 12 "RingGames" "now" "LRingGames$State;") (List.mem_of_getElem? (i := 1) rfl)) (fun _ h9 => h9) rfl dX6_removeArrow_81 ?_
        refine va_get (D := D) (ci := 4) (v := .ref ((ad 1) 1)) (C := RX4) (T := TX4) (N := 4) hx hb hts inw_X6_removeArrow_4 hown hK hP 1 rfl rfl 1 (by decide) (hts (.fieldLink RX6 113 "RingGames$State" "choices" "[I") (List.mem_of_getElem? (i := 5) rfl)) (fun _ h9 => h9) rfl dX6_removeArrow_84 ?_
        refine lv_iload_n hx hb dX6_removeArrow_87 rfl (lv_at hl 1 rfl) ?_
        refine va_iald hx hb hK hP 2 0 rfl rfl g8 dX6_removeArrow_88 ?_
        refine lv_iload_n hx hb dX6_removeArrow_89 rfl (lv_at hl 2 rfl) ?_
        obtain ⟨j11, hj11, hf⟩ := ob_some hf
        have J12 : ∀ (H : Heap) (locs : List Loc), va_P D vwCl ((w_X ad cI cC cS j11 q7 snap has text trial meas walk) ++ R) H → va_D A ((w_X ad cI cC cS j11 q7 snap has text trial meas walk) ++ R) → va_S A s.heap H locs → ∀ ls : Array Slot, lv_has ls 3 [(0, .ref (ad 0 0)), (1, .int p1)] → W p l e (xR 4 123) s m args below meth c H locs 0 0 Q (F0 m 104 ls []) := by
          intro H locs hP hD hS ls hl
          refine lv_aload_n hx hb dX6_removeArrow_104 rfl (lv_at hl 0 rfl) ?_
          refine va_get (D := D) (ci := 6) (v := .ref ((ad 1) 0)) (C := RX6) (T := TX6) (N := 8) hx hb hts inw_X6_removeArrow_6 hown hK hP 0 rfl rfl 0 (by decide) (hts (.fieldLink RX6 12 "RingGames" "now" "LRingGames$State;") (List.mem_of_getElem? (i := 1) rfl)) (fun _ h9 => h9) rfl dX6_removeArrow_105 ?_
          refine va_get (D := D) (ci := 4) (v := .ref ((ad 1) 2)) (C := RX4) (T := TX4) (N := 4) hx hb hts inw_X6_removeArrow_4 hown hK hP 1 rfl rfl 0 (by decide) (hts (.fieldLink RX6 65 "RingGames$State" "game" "LRingGames$Game;") (List.mem_of_getElem? (i := 2) rfl)) (fun _ h9 => h9) rfl dX6_removeArrow_108 ?_
          refine va_get (D := D) (ci := 1) (v := .ref ((ad 1) 5)) (C := RX1) (T := TX1) (N := 4) hx hb hts inw_X6_removeArrow_1 hown hK hP 3 rfl rfl 3 (by decide) (hts (.fieldLink RX6 102 "RingGames$Game" "arrows" "[I") (List.mem_of_getElem? (i := 4) rfl)) (fun _ h9 => h9) rfl dX6_removeArrow_111 ?_
          refine lv_iload_n hx hb dX6_removeArrow_114 rfl (lv_at hl 1 rfl) ?_
          refine va_iald hx hb hK hP 6 0 rfl rfl g8 dX6_removeArrow_115 ?_
          obtain ⟨q13, hq13, hf⟩ := ob_some hf
          refine xcSi S hK hN hA hP hD hS (c_J6_bitCount_0f7a4 l D cI cC cS ((w_X ad cI cC cS j11 q7 snap has text trial meas walk) ++ R) (j11.1.2.2.2 (p1).toNatClampNeg) _ hq13) gX6_removeArrow_J6_bitCount_0f7a4 rfl hd_J6_bitCount_0f7a4 ⟨by decide, by decide⟩ rfl hl.1 rfl (Nat.le_of_ble_eq_true rfl) dX6_removeArrow_116 ⟨Nat.zero_le _, Nat.zero_le _⟩ (fun H locs hP hD hS => ?_)
          have hf := Option.some.inj hf
          subst hf
          exact hret _ _ _ _ _ dX6_removeArrow_119 rfl hP hD hS rfl
        clear hf
        have hf := hj11
        refine lv_icmp_ne (tgt := 104) hx hb dX6_removeArrow_90 (by decide) (fun c10 => ?_) (fun c10 => ?_)
        · have hf := if_f hf c10
          have hf := Option.some.inj hf
          subst hf
          exact J12 _ _ hP hD hS _ (lv_sub hl [0, 1] rfl)
        · have hf := if_t hf c10
          refine lv_aload_n hx hb dX6_removeArrow_93 rfl (lv_at hl 0 rfl) ?_
          refine va_get (D := D) (ci := 6) (v := .ref ((ad 1) 0)) (C := RX6) (T := TX6) (N := 8) hx hb hts inw_X6_removeArrow_6 hown hK hP 0 rfl rfl 0 (by decide) (hts (.fieldLink RX6 12 "RingGames" "now" "LRingGames$State;") (List.mem_of_getElem? (i := 1) rfl)) (fun _ h9 => h9) rfl dX6_removeArrow_94 ?_
          refine va_get (D := D) (ci := 4) (v := .ref ((ad 1) 1)) (C := RX4) (T := TX4) (N := 4) hx hb hts inw_X6_removeArrow_4 hown hK hP 1 rfl rfl 1 (by decide) (hts (.fieldLink RX6 113 "RingGames$State" "choices" "[I") (List.mem_of_getElem? (i := 5) rfl)) (fun _ h9 => h9) rfl dX6_removeArrow_97 ?_
          refine lv_iload_n hx hb dX6_removeArrow_100 rfl (lv_at hl 1 rfl) ?_
          refine lv_bipush (v := 14) hx hb dX6_removeArrow_101 (by decide) ?_
          refine va_iast hx hb hK hP hD hS 2 0 rfl rfl g8 dX6_removeArrow_103 (fun H locs hP hD hS => ?_)
          have hP : va_P D vwCl ((w_X ad cI cC cS ((now.1.1, now.1.2.1, now.1.2.2.1, (upd now.1.2.2.2 (p1).toNatClampNeg ((now.1.2.2.2 (p1).toNatClampNeg) &&& (q9 ^^^ (-1))))), (upd now.2.1 (p1).toNatClampNeg 14), now.2.2.1, now.2.2.2) q7 snap has text trial meas walk) ++ R) H := hP
          have hD : va_D A ((w_X ad cI cC cS ((now.1.1, now.1.2.1, now.1.2.2.1, (upd now.1.2.2.2 (p1).toNatClampNeg ((now.1.2.2.2 (p1).toNatClampNeg) &&& (q9 ^^^ (-1))))), (upd now.2.1 (p1).toNatClampNeg 14), now.2.2.1, now.2.2.2) q7 snap has text trial meas walk) ++ R) := hD
          have hf := Option.some.inj hf
          subst hf
          exact J12 _ _ hP hD hS _ (lv_sub hl [0, 1] rfl)
      · have hf := if_t hf c6
        refine lv_bipush (v := (-5)) hx hb dX6_removeArrow_45 (by decide) ?_
        have hf := Option.some.inj hf
        subst hf
        exact hret _ _ _ _ _ dX6_removeArrow_47 rfl hP hD hS rfl
    · have hf := if_t hf c4
      refine lv_iconst (v := (-1)) hx hb dX6_removeArrow_28 (by decide) ?_
      have hf := Option.some.inj hf
      subst hf
      exact hret _ _ _ _ _ dX6_removeArrow_29 rfl hP hD hS rfl
def f_X6_readArrows (n : Nat) (now : SS) (hist : HH) (text : TT) (trial : GG) : Option (Int32 × SS × HH × GG) := (f_X0_fault n text).bind fun q1 => (if q1 < 0 then (f_X1_become trial now.1).bind fun q3 => (f_X0_drawInto n text q3).bind fun q4 => (if q4.1 = 0 then some ((-1), now, hist, q4.2) else (f_X1_arrowCount n q4.2).bind fun q6 => (if q6 ≤ 60 then (f_X1_arrowCount n q4.2).bind fun q8 => (f_X1_arrowCount n now.1).bind fun q9 => (f_X2_remember hist now).bind fun q10 => (f_X1_become now.1 q4.2).bind fun q11 => some ((q8 - q9), (q11, now.2.1, now.2.2.1, now.2.2.2), q10, q4.2) else some ((-3), now, hist, q4.2))) else some (((-100) - q1), now, hist, trial))
theorem inw_X6_readArrows_4 : ∀ w ∈ wsX40, w ∈ wsX6_readArrows := fun _ h => List.mem_cons_of_mem _ (List.mem_append_left _ (List.mem_append_left _ (List.mem_append_left _ (List.mem_append_right _ h))))
theorem inw_X6_readArrows_6 : ∀ w ∈ wsX60, w ∈ wsX6_readArrows := fun _ h => List.mem_cons_of_mem _ (List.mem_append_left _ (List.mem_append_left _ (List.mem_append_left _ (List.mem_append_left _ (List.mem_append_right _ h)))))
theorem hd_X6_readArrows : yX6_readArrows.cls = RX6 ∧ yX6_readArrows.cls ≠ "java/lang/invoke/MethodHandle" ∧ yX6_readArrows.cls ≠ "java/lang/invoke/VarHandle" ∧ (parseMethodDescriptor yX6_readArrows.desc).map (fun d => d.parameters.length) = some 0 := by decide +kernel
set_option maxHeartbeats 4000000 in
set_option maxRecDepth 100000 in
theorem c_X6_readArrows (l : Launch) (D : va_G) (cI cC cS : ClassId) (R : va_W) (ad : Nat → Nat → Nat) (now : SS) (hist : HH) (snap : SS) (has : Int32) (text : TT) (trial : GG) (meas : EE) (walk : KK) (n : Nat) (r : Int32 × SS × HH × GG) (hf : f_X6_readArrows n now hist text trial = some r) : CI l yX6_readArrows wsX6_readArrows 4 123 D cI cC cS [.ref (ad 0 0)] ((w_X ad cI cC cS now hist snap has text trial meas walk) ++ R) r.1 ((w_X ad cI cC cS r.2.1 r.2.2.1 snap has text r.2.2.2 meas walk) ++ R) := by
  refine XI.of (cc := cX6_readArrows) (maxL := 3) (ty := .int) (own := RX6) (by decide) rfl rfl (Nat.le_of_ble_eq_true rfl) ?_
  intro p e s m args below meth c A Q S hK hN hA hP hD hS ls hl hret
  obtain ⟨hx, hb, hml, hown, hts⟩ := id S
  have hl : lv_has ls 3 [(0, .ref (ad 0 0))] := hl
  unfold f_X6_readArrows at hf
  refine lv_aload_n hx hb dX6_readArrows_0 rfl (lv_at hl 0 rfl) ?_
  refine va_get (D := D) (ci := 6) (v := .ref ((ad 4) 0)) (C := RX6) (T := TX6) (N := 8) hx hb hts inw_X6_readArrows_6 hown hK hP 0 rfl rfl 4 (by decide) (hts (.fieldLink RX6 33 "RingGames" "text" "LRingGames$ArrowText;") (List.mem_of_getElem? (i := 1) rfl)) (fun _ h9 => h9) rfl dX6_readArrows_1 ?_
  obtain ⟨q1, hq1, hf⟩ := ob_some hf
  refine xcVi (w' := ((w_X ad cI cC cS now hist snap has text trial meas walk) ++ R)) S hK hN hA hP hD hS (c_X0_fault l D cI cC cS ((xr 50 [39, 40]).filterMap (fun i => (w_X ad cI cC cS now hist snap has text trial meas walk)[i]?) ++ R) (ad 4) text n _ hq1) gX6_readArrows_X0_fault rfl hd_X0_fault ⟨by decide, by decide⟩ (x_cut (pre := (w_X ad cI cC cS now hist snap has text trial meas walk)) [39, 40] 50 rfl (by decide +kernel) rfl) (x_cut (pre := (w_X ad cI cC cS now hist snap has text trial meas walk)) [39, 40] 50 rfl (by decide +kernel) rfl).symm (ci := 0) (q := (RX0, TX0, 2)) rfl rfl rfl rfl hl.1 rfl (Nat.le_of_ble_eq_true rfl) dX6_readArrows_4 ⟨Nat.zero_le _, Nat.zero_le _⟩ (fun H locs hP hD hS => ?_)
  refine lv_istore_n (lv' := [(1, .int q1), (0, .ref (ad 0 0))]) hx hb dX6_readArrows_7 rfl hl (by decide) rfl (fun ls hl => ?_)
  refine lv_iload_n hx hb dX6_readArrows_8 rfl (lv_at hl 0 rfl) ?_
  refine lv_if_lt (tgt := 17) hx hb dX6_readArrows_9 (by decide) (fun c2 => ?_) (fun c2 => ?_)
  · have hf := if_t hf c2
    refine lv_aload_n hx hb dX6_readArrows_17 rfl (lv_at hl 1 rfl) ?_
    refine va_get (D := D) (ci := 6) (v := .ref ((ad 5) 0)) (C := RX6) (T := TX6) (N := 8) hx hb hts inw_X6_readArrows_6 hown hK hP 0 rfl rfl 5 (by decide) (hts (.fieldLink RX6 40 "RingGames" "trial" "LRingGames$Game;") (List.mem_of_getElem? (i := 2) rfl)) (fun _ h9 => h9) rfl dX6_readArrows_18 ?_
    refine lv_aload_n hx hb dX6_readArrows_21 rfl (lv_at hl 1 rfl) ?_
    refine va_get (D := D) (ci := 6) (v := .ref ((ad 1) 0)) (C := RX6) (T := TX6) (N := 8) hx hb hts inw_X6_readArrows_6 hown hK hP 0 rfl rfl 0 (by decide) (hts (.fieldLink RX6 12 "RingGames" "now" "LRingGames$State;") (List.mem_of_getElem? (i := 3) rfl)) (fun _ h9 => h9) rfl dX6_readArrows_22 ?_
    refine va_get (D := D) (ci := 4) (v := .ref ((ad 1) 2)) (C := RX4) (T := TX4) (N := 4) hx hb hts inw_X6_readArrows_4 hown hK hP 1 rfl rfl 0 (by decide) (hts (.fieldLink RX6 65 "RingGames$State" "game" "LRingGames$Game;") (List.mem_of_getElem? (i := 4) rfl)) (fun _ h9 => h9) rfl dX6_readArrows_25 ?_
    obtain ⟨q3, hq3, hf⟩ := ob_some hf
    refine xcVv (w' := ((w_X ad cI cC cS now hist snap has text q3 meas walk) ++ R)) S hK hN hA hP hD hS (c_X1_become l D cI cC cS ((xr 50 [41, 42, 43, 44, 3, 4, 5, 6]).filterMap (fun i => (w_X ad cI cC cS now hist snap has text trial meas walk)[i]?) ++ R) (ad 5) (fun k => (ad 1) (k + 2)) trial now.1 _ hq3) gX6_readArrows_X1_become rfl hd_X1_become ⟨by decide, by decide⟩ (x_cut (pre := (w_X ad cI cC cS now hist snap has text trial meas walk)) [41, 42, 43, 44, 3, 4, 5, 6] 50 rfl (by decide +kernel) rfl) (x_back (pre := (w_X ad cI cC cS now hist snap has text trial meas walk)) [41, 42, 43, 44, 3, 4, 5, 6] 50 rfl (by decide +kernel) rfl rfl) (ci := 1) (q := (RX1, TX1, 4)) rfl rfl rfl rfl hl.1 rfl (Nat.le_of_ble_eq_true rfl) dX6_readArrows_28 ⟨Nat.zero_le _, Nat.zero_le _⟩ (fun H locs hP hD hS => ?_)
    refine lv_aload_n hx hb dX6_readArrows_31 rfl (lv_at hl 1 rfl) ?_
    refine va_get (D := D) (ci := 6) (v := .ref ((ad 4) 0)) (C := RX6) (T := TX6) (N := 8) hx hb hts inw_X6_readArrows_6 hown hK hP 0 rfl rfl 4 (by decide) (hts (.fieldLink RX6 33 "RingGames" "text" "LRingGames$ArrowText;") (List.mem_of_getElem? (i := 1) rfl)) (fun _ h9 => h9) rfl dX6_readArrows_32 ?_
    refine lv_aload_n hx hb dX6_readArrows_35 rfl (lv_at hl 1 rfl) ?_
    refine va_get (D := D) (ci := 6) (v := .ref ((ad 5) 0)) (C := RX6) (T := TX6) (N := 8) hx hb hts inw_X6_readArrows_6 hown hK hP 0 rfl rfl 5 (by decide) (hts (.fieldLink RX6 40 "RingGames" "trial" "LRingGames$Game;") (List.mem_of_getElem? (i := 2) rfl)) (fun _ h9 => h9) rfl dX6_readArrows_36 ?_
    obtain ⟨q4, hq4, hf⟩ := ob_some hf
    refine xcVi (w' := ((w_X ad cI cC cS now hist snap has text q4.2 meas walk) ++ R)) S hK hN hA hP hD hS (c_X0_drawInto l D cI cC cS ((xr 50 [39, 40, 41, 42, 43, 44]).filterMap (fun i => (w_X ad cI cC cS now hist snap has text q3 meas walk)[i]?) ++ R) (ad 4) (ad 5) text q3 n _ hq4) gX6_readArrows_X0_drawInto rfl hd_X0_drawInto ⟨by decide, by decide⟩ (x_cut (pre := (w_X ad cI cC cS now hist snap has text q3 meas walk)) [39, 40, 41, 42, 43, 44] 50 rfl (by decide +kernel) rfl) (x_back (pre := (w_X ad cI cC cS now hist snap has text q3 meas walk)) [39, 40, 41, 42, 43, 44] 50 rfl (by decide +kernel) rfl rfl) (ci := 0) (q := (RX0, TX0, 2)) rfl rfl rfl rfl hl.1 rfl (Nat.le_of_ble_eq_true rfl) dX6_readArrows_39 ⟨Nat.zero_le _, Nat.zero_le _⟩ (fun H locs hP hD hS => ?_)
    refine lv_if_ne (tgt := 47) hx hb dX6_readArrows_42 (by decide) (fun c5 => ?_) (fun c5 => ?_)
    · have hf := if_f hf c5
      refine lv_aload_n hx hb dX6_readArrows_47 rfl (lv_at hl 1 rfl) ?_
      refine va_get (D := D) (ci := 6) (v := .ref ((ad 5) 0)) (C := RX6) (T := TX6) (N := 8) hx hb hts inw_X6_readArrows_6 hown hK hP 0 rfl rfl 5 (by decide) (hts (.fieldLink RX6 40 "RingGames" "trial" "LRingGames$Game;") (List.mem_of_getElem? (i := 2) rfl)) (fun _ h9 => h9) rfl dX6_readArrows_48 ?_
      obtain ⟨q6, hq6, hf⟩ := ob_some hf
      refine xcVi (w' := ((w_X ad cI cC cS now hist snap has text q4.2 meas walk) ++ R)) S hK hN hA hP hD hS (c_X1_arrowCount l D cI cC cS ((xr 50 [41, 42, 43, 44]).filterMap (fun i => (w_X ad cI cC cS now hist snap has text q4.2 meas walk)[i]?) ++ R) (ad 5) q4.2 n _ hq6) gX6_readArrows_X1_arrowCount rfl hd_X1_arrowCount ⟨by decide, by decide⟩ (x_cut (pre := (w_X ad cI cC cS now hist snap has text q4.2 meas walk)) [41, 42, 43, 44] 50 rfl (by decide +kernel) rfl) (x_cut (pre := (w_X ad cI cC cS now hist snap has text q4.2 meas walk)) [41, 42, 43, 44] 50 rfl (by decide +kernel) rfl).symm (ci := 1) (q := (RX1, TX1, 4)) rfl rfl rfl rfl hl.1 rfl (Nat.le_of_ble_eq_true rfl) dX6_readArrows_51 ⟨Nat.zero_le _, Nat.zero_le _⟩ (fun H locs hP hD hS => ?_)
      refine lv_bipush (v := 60) hx hb dX6_readArrows_54 (by decide) ?_
      refine lv_icmp_le (tgt := 62) hx hb dX6_readArrows_56 (by decide) (fun c7 => ?_) (fun c7 => ?_)
      · have hf := if_t hf c7
        refine lv_aload_n hx hb dX6_readArrows_62 rfl (lv_at hl 1 rfl) ?_
        refine va_get (D := D) (ci := 6) (v := .ref ((ad 5) 0)) (C := RX6) (T := TX6) (N := 8) hx hb hts inw_X6_readArrows_6 hown hK hP 0 rfl rfl 5 (by decide) (hts (.fieldLink RX6 40 "RingGames" "trial" "LRingGames$Game;") (List.mem_of_getElem? (i := 2) rfl)) (fun _ h9 => h9) rfl dX6_readArrows_63 ?_
        obtain ⟨q8, hq8, hf⟩ := ob_some hf
        refine xcVi (w' := ((w_X ad cI cC cS now hist snap has text q4.2 meas walk) ++ R)) S hK hN hA hP hD hS (c_X1_arrowCount l D cI cC cS ((xr 50 [41, 42, 43, 44]).filterMap (fun i => (w_X ad cI cC cS now hist snap has text q4.2 meas walk)[i]?) ++ R) (ad 5) q4.2 n _ hq8) gX6_readArrows_X1_arrowCount rfl hd_X1_arrowCount ⟨by decide, by decide⟩ (x_cut (pre := (w_X ad cI cC cS now hist snap has text q4.2 meas walk)) [41, 42, 43, 44] 50 rfl (by decide +kernel) rfl) (x_cut (pre := (w_X ad cI cC cS now hist snap has text q4.2 meas walk)) [41, 42, 43, 44] 50 rfl (by decide +kernel) rfl).symm (ci := 1) (q := (RX1, TX1, 4)) rfl rfl rfl rfl hl.1 rfl (Nat.le_of_ble_eq_true rfl) dX6_readArrows_66 ⟨Nat.zero_le _, Nat.zero_le _⟩ (fun H locs hP hD hS => ?_)
        refine lv_aload_n hx hb dX6_readArrows_69 rfl (lv_at hl 1 rfl) ?_
        refine va_get (D := D) (ci := 6) (v := .ref ((ad 1) 0)) (C := RX6) (T := TX6) (N := 8) hx hb hts inw_X6_readArrows_6 hown hK hP 0 rfl rfl 0 (by decide) (hts (.fieldLink RX6 12 "RingGames" "now" "LRingGames$State;") (List.mem_of_getElem? (i := 3) rfl)) (fun _ h9 => h9) rfl dX6_readArrows_70 ?_
        refine va_get (D := D) (ci := 4) (v := .ref ((ad 1) 2)) (C := RX4) (T := TX4) (N := 4) hx hb hts inw_X6_readArrows_4 hown hK hP 1 rfl rfl 0 (by decide) (hts (.fieldLink RX6 65 "RingGames$State" "game" "LRingGames$Game;") (List.mem_of_getElem? (i := 4) rfl)) (fun _ h9 => h9) rfl dX6_readArrows_73 ?_
        obtain ⟨q9, hq9, hf⟩ := ob_some hf
        refine xcVi (w' := ((w_X ad cI cC cS now hist snap has text q4.2 meas walk) ++ R)) S hK hN hA hP hD hS (c_X1_arrowCount l D cI cC cS ((xr 50 [3, 4, 5, 6]).filterMap (fun i => (w_X ad cI cC cS now hist snap has text q4.2 meas walk)[i]?) ++ R) (fun k => (ad 1) (k + 2)) now.1 n _ hq9) gX6_readArrows_X1_arrowCount rfl hd_X1_arrowCount ⟨by decide, by decide⟩ (x_cut (pre := (w_X ad cI cC cS now hist snap has text q4.2 meas walk)) [3, 4, 5, 6] 50 rfl (by decide +kernel) rfl) (x_cut (pre := (w_X ad cI cC cS now hist snap has text q4.2 meas walk)) [3, 4, 5, 6] 50 rfl (by decide +kernel) rfl).symm (ci := 1) (q := (RX1, TX1, 4)) rfl rfl rfl rfl hl.1 rfl (Nat.le_of_ble_eq_true rfl) dX6_readArrows_76 ⟨Nat.zero_le _, Nat.zero_le _⟩ (fun H locs hP hD hS => ?_)
        refine lv_isub hx hb dX6_readArrows_79 ?_
        refine lv_istore_n (lv' := [(2, .int (q8 - q9)), (1, .int q1), (0, .ref (ad 0 0))]) hx hb dX6_readArrows_80 rfl hl (by decide) rfl (fun ls hl => ?_)
        refine lv_aload_n hx hb dX6_readArrows_81 rfl (lv_at hl 2 rfl) ?_
        refine va_get (D := D) (ci := 6) (v := .ref ((ad 2) 0)) (C := RX6) (T := TX6) (N := 8) hx hb hts inw_X6_readArrows_6 hown hK hP 0 rfl rfl 1 (by decide) (hts (.fieldLink RX6 19 "RingGames" "history" "LRingGames$History;") (List.mem_of_getElem? (i := 5) rfl)) (fun _ h9 => h9) rfl dX6_readArrows_82 ?_
        refine lv_aload_n hx hb dX6_readArrows_85 rfl (lv_at hl 2 rfl) ?_
        refine va_get (D := D) (ci := 6) (v := .ref ((ad 1) 0)) (C := RX6) (T := TX6) (N := 8) hx hb hts inw_X6_readArrows_6 hown hK hP 0 rfl rfl 0 (by decide) (hts (.fieldLink RX6 12 "RingGames" "now" "LRingGames$State;") (List.mem_of_getElem? (i := 3) rfl)) (fun _ h9 => h9) rfl dX6_readArrows_86 ?_
        obtain ⟨q10, hq10, hf⟩ := ob_some hf
        refine xcVv (w' := ((w_X ad cI cC cS now q10 snap has text q4.2 meas walk) ++ R)) S hK hN hA hP hD hS (c_X2_remember l D cI cC cS ((xr 50 [7, 8, 9, 10, 11, 12, 13, 14, 15, 16, 17, 18, 19, 20, 21, 22, 23, 24, 25, 26, 27, 28, 29, 30, 31, 32, 1, 2, 3, 4, 5, 6]).filterMap (fun i => (w_X ad cI cC cS now hist snap has text q4.2 meas walk)[i]?) ++ R) (ad 2) (ad 1) hist now _ hq10) gX6_readArrows_X2_remember rfl hd_X2_remember ⟨by decide, by decide⟩ (x_cut (pre := (w_X ad cI cC cS now hist snap has text q4.2 meas walk)) [7, 8, 9, 10, 11, 12, 13, 14, 15, 16, 17, 18, 19, 20, 21, 22, 23, 24, 25, 26, 27, 28, 29, 30, 31, 32, 1, 2, 3, 4, 5, 6] 50 rfl (by decide +kernel) rfl) (x_back (pre := (w_X ad cI cC cS now hist snap has text q4.2 meas walk)) [7, 8, 9, 10, 11, 12, 13, 14, 15, 16, 17, 18, 19, 20, 21, 22, 23, 24, 25, 26, 27, 28, 29, 30, 31, 32, 1, 2, 3, 4, 5, 6] 50 rfl (by decide +kernel) rfl rfl) (ci := 2) (q := (RX2, TX2, 2)) rfl rfl rfl rfl hl.1 rfl (Nat.le_of_ble_eq_true rfl) dX6_readArrows_89 ⟨Nat.zero_le _, Nat.zero_le _⟩ (fun H locs hP hD hS => ?_)
        refine lv_aload_n hx hb dX6_readArrows_92 rfl (lv_at hl 2 rfl) ?_
        refine va_get (D := D) (ci := 6) (v := .ref ((ad 1) 0)) (C := RX6) (T := TX6) (N := 8) hx hb hts inw_X6_readArrows_6 hown hK hP 0 rfl rfl 0 (by decide) (hts (.fieldLink RX6 12 "RingGames" "now" "LRingGames$State;") (List.mem_of_getElem? (i := 3) rfl)) (fun _ h9 => h9) rfl dX6_readArrows_93 ?_
        refine va_get (D := D) (ci := 4) (v := .ref ((ad 1) 2)) (C := RX4) (T := TX4) (N := 4) hx hb hts inw_X6_readArrows_4 hown hK hP 1 rfl rfl 0 (by decide) (hts (.fieldLink RX6 65 "RingGames$State" "game" "LRingGames$Game;") (List.mem_of_getElem? (i := 4) rfl)) (fun _ h9 => h9) rfl dX6_readArrows_96 ?_
        refine lv_aload_n hx hb dX6_readArrows_99 rfl (lv_at hl 2 rfl) ?_
        refine va_get (D := D) (ci := 6) (v := .ref ((ad 5) 0)) (C := RX6) (T := TX6) (N := 8) hx hb hts inw_X6_readArrows_6 hown hK hP 0 rfl rfl 5 (by decide) (hts (.fieldLink RX6 40 "RingGames" "trial" "LRingGames$Game;") (List.mem_of_getElem? (i := 2) rfl)) (fun _ h9 => h9) rfl dX6_readArrows_100 ?_
        obtain ⟨q11, hq11, hf⟩ := ob_some hf
        refine xcVv (w' := ((w_X ad cI cC cS (q11, now.2.1, now.2.2.1, now.2.2.2) q10 snap has text q4.2 meas walk) ++ R)) S hK hN hA hP hD hS (c_X1_become l D cI cC cS ((xr 50 [3, 4, 5, 6, 41, 42, 43, 44]).filterMap (fun i => (w_X ad cI cC cS now q10 snap has text q4.2 meas walk)[i]?) ++ R) (fun k => (ad 1) (k + 2)) (ad 5) now.1 q4.2 _ hq11) gX6_readArrows_X1_become rfl hd_X1_become ⟨by decide, by decide⟩ (x_cut (pre := (w_X ad cI cC cS now q10 snap has text q4.2 meas walk)) [3, 4, 5, 6, 41, 42, 43, 44] 50 rfl (by decide +kernel) rfl) (x_back (pre := (w_X ad cI cC cS now q10 snap has text q4.2 meas walk)) [3, 4, 5, 6, 41, 42, 43, 44] 50 rfl (by decide +kernel) rfl rfl) (ci := 1) (q := (RX1, TX1, 4)) rfl rfl rfl rfl hl.1 rfl (Nat.le_of_ble_eq_true rfl) dX6_readArrows_103 ⟨Nat.zero_le _, Nat.zero_le _⟩ (fun H locs hP hD hS => ?_)
        refine lv_iload_n hx hb dX6_readArrows_106 rfl (lv_at hl 0 rfl) ?_
        have hf := Option.some.inj hf
        subst hf
        exact hret _ _ _ _ _ dX6_readArrows_107 rfl hP hD hS rfl
      · have hf := if_f hf c7
        refine lv_bipush (v := (-3)) hx hb dX6_readArrows_59 (by decide) ?_
        have hf := Option.some.inj hf
        subst hf
        exact hret _ _ _ _ _ dX6_readArrows_61 rfl hP hD hS rfl
    · have hf := if_t hf c5
      refine lv_iconst (v := (-1)) hx hb dX6_readArrows_45 (by decide) ?_
      have hf := Option.some.inj hf
      subst hf
      exact hret _ _ _ _ _ dX6_readArrows_46 rfl hP hD hS rfl
  · have hf := if_f hf c2
    refine lv_bipush (v := (-100)) hx hb dX6_readArrows_12 (by decide) ?_
    refine lv_iload_n hx hb dX6_readArrows_14 rfl (lv_at hl 0 rfl) ?_
    refine lv_isub hx hb dX6_readArrows_15 ?_
    have hf := Option.some.inj hf
    subst hf
    exact hret _ _ _ _ _ dX6_readArrows_16 rfl hP hD hS rfl
def f_X6_turnOver (n : Nat) (now : SS) (hist : HH) (trial : GG) (meas : EE) : Option (Int32 × SS × HH × GG × EE) := (f_X1_hasColour n now.1 7).bind fun q1 => (if q1 = 0 then (f_X2_remember hist now).bind fun q3 => (f_X1_exchange n now.1).bind fun q4 => (f_X6_wonBy n (q4, now.2.1, now.2.2.1, now.2.2.2) trial meas 1).bind fun q5 => some (q5.1, (q4, now.2.1, now.2.2.1, now.2.2.2), q3, q5.2.1, q5.2.2) else some ((-4), now, hist, trial, meas))
theorem inw_X6_turnOver_4 : ∀ w ∈ wsX40, w ∈ wsX6_turnOver := fun _ h => List.mem_cons_of_mem _ (List.mem_append_left _ (List.mem_append_left _ (List.mem_append_left _ (List.mem_append_right _ h))))
theorem inw_X6_turnOver_6 : ∀ w ∈ wsX60, w ∈ wsX6_turnOver := fun _ h => List.mem_cons_of_mem _ (List.mem_append_left _ (List.mem_append_left _ (List.mem_append_left _ (List.mem_append_left _ (List.mem_append_right _ h)))))
theorem hd_X6_turnOver : yX6_turnOver.cls = RX6 ∧ yX6_turnOver.cls ≠ "java/lang/invoke/MethodHandle" ∧ yX6_turnOver.cls ≠ "java/lang/invoke/VarHandle" ∧ (parseMethodDescriptor yX6_turnOver.desc).map (fun d => d.parameters.length) = some 0 := by decide +kernel
set_option maxHeartbeats 4000000 in
set_option maxRecDepth 100000 in
theorem c_X6_turnOver (l : Launch) (D : va_G) (cI cC cS : ClassId) (R : va_W) (ad : Nat → Nat → Nat) (now : SS) (hist : HH) (snap : SS) (has : Int32) (text : TT) (trial : GG) (meas : EE) (walk : KK) (n : Nat) (r : Int32 × SS × HH × GG × EE) (hf : f_X6_turnOver n now hist trial meas = some r) : CI l yX6_turnOver wsX6_turnOver 6 156 D cI cC cS [.ref (ad 0 0)] ((w_X ad cI cC cS now hist snap has text trial meas walk) ++ R) r.1 ((w_X ad cI cC cS r.2.1 r.2.2.1 snap has text r.2.2.2.1 r.2.2.2.2 walk) ++ R) := by
  refine XI.of (cc := cX6_turnOver) (maxL := 1) (ty := .int) (own := RX6) (by decide) rfl rfl (Nat.le_of_ble_eq_true rfl) ?_
  intro p e s m args below meth c A Q S hK hN hA hP hD hS ls hl hret
  obtain ⟨hx, hb, hml, hown, hts⟩ := id S
  have hl : lv_has ls 1 [(0, .ref (ad 0 0))] := hl
  unfold f_X6_turnOver at hf
  refine lv_aload_n hx hb dX6_turnOver_0 rfl (lv_at hl 0 rfl) ?_
  refine va_get (D := D) (ci := 6) (v := .ref ((ad 1) 0)) (C := RX6) (T := TX6) (N := 8) hx hb hts inw_X6_turnOver_6 hown hK hP 0 rfl rfl 0 (by decide) (hts (.fieldLink RX6 12 "RingGames" "now" "LRingGames$State;") (List.mem_of_getElem? (i := 1) rfl)) (fun _ h9 => h9) rfl dX6_turnOver_1 ?_
  refine va_get (D := D) (ci := 4) (v := .ref ((ad 1) 2)) (C := RX4) (T := TX4) (N := 4) hx hb hts inw_X6_turnOver_4 hown hK hP 1 rfl rfl 0 (by decide) (hts (.fieldLink RX6 65 "RingGames$State" "game" "LRingGames$Game;") (List.mem_of_getElem? (i := 2) rfl)) (fun _ h9 => h9) rfl dX6_turnOver_4 ?_
  refine lv_bipush (v := 7) hx hb dX6_turnOver_7 (by decide) ?_
  obtain ⟨q1, hq1, hf⟩ := ob_some hf
  refine xcVi (w' := ((w_X ad cI cC cS now hist snap has text trial meas walk) ++ R)) S hK hN hA hP hD hS (c_X1_hasColour l D cI cC cS ((xr 50 [3, 4, 5, 6]).filterMap (fun i => (w_X ad cI cC cS now hist snap has text trial meas walk)[i]?) ++ R) (fun k => (ad 1) (k + 2)) now.1 7 n _ hq1) gX6_turnOver_X1_hasColour rfl hd_X1_hasColour ⟨by decide, by decide⟩ (x_cut (pre := (w_X ad cI cC cS now hist snap has text trial meas walk)) [3, 4, 5, 6] 50 rfl (by decide +kernel) rfl) (x_cut (pre := (w_X ad cI cC cS now hist snap has text trial meas walk)) [3, 4, 5, 6] 50 rfl (by decide +kernel) rfl).symm (ci := 1) (q := (RX1, TX1, 4)) rfl rfl rfl rfl hl.1 rfl (Nat.le_of_ble_eq_true rfl) dX6_turnOver_9 ⟨Nat.zero_le _, Nat.zero_le _⟩ (fun H locs hP hD hS => ?_)
  refine lv_if_eq (tgt := 18) hx hb dX6_turnOver_12 (by decide) (fun c2 => ?_) (fun c2 => ?_)
  · have hf := if_t hf c2
    refine lv_aload_n hx hb dX6_turnOver_18 rfl (lv_at hl 0 rfl) ?_
    refine va_get (D := D) (ci := 6) (v := .ref ((ad 2) 0)) (C := RX6) (T := TX6) (N := 8) hx hb hts inw_X6_turnOver_6 hown hK hP 0 rfl rfl 1 (by decide) (hts (.fieldLink RX6 19 "RingGames" "history" "LRingGames$History;") (List.mem_of_getElem? (i := 3) rfl)) (fun _ h9 => h9) rfl dX6_turnOver_19 ?_
    refine lv_aload_n hx hb dX6_turnOver_22 rfl (lv_at hl 0 rfl) ?_
    refine va_get (D := D) (ci := 6) (v := .ref ((ad 1) 0)) (C := RX6) (T := TX6) (N := 8) hx hb hts inw_X6_turnOver_6 hown hK hP 0 rfl rfl 0 (by decide) (hts (.fieldLink RX6 12 "RingGames" "now" "LRingGames$State;") (List.mem_of_getElem? (i := 1) rfl)) (fun _ h9 => h9) rfl dX6_turnOver_23 ?_
    obtain ⟨q3, hq3, hf⟩ := ob_some hf
    refine xcVv (w' := ((w_X ad cI cC cS now q3 snap has text trial meas walk) ++ R)) S hK hN hA hP hD hS (c_X2_remember l D cI cC cS ((xr 50 [7, 8, 9, 10, 11, 12, 13, 14, 15, 16, 17, 18, 19, 20, 21, 22, 23, 24, 25, 26, 27, 28, 29, 30, 31, 32, 1, 2, 3, 4, 5, 6]).filterMap (fun i => (w_X ad cI cC cS now hist snap has text trial meas walk)[i]?) ++ R) (ad 2) (ad 1) hist now _ hq3) gX6_turnOver_X2_remember rfl hd_X2_remember ⟨by decide, by decide⟩ (x_cut (pre := (w_X ad cI cC cS now hist snap has text trial meas walk)) [7, 8, 9, 10, 11, 12, 13, 14, 15, 16, 17, 18, 19, 20, 21, 22, 23, 24, 25, 26, 27, 28, 29, 30, 31, 32, 1, 2, 3, 4, 5, 6] 50 rfl (by decide +kernel) rfl) (x_back (pre := (w_X ad cI cC cS now hist snap has text trial meas walk)) [7, 8, 9, 10, 11, 12, 13, 14, 15, 16, 17, 18, 19, 20, 21, 22, 23, 24, 25, 26, 27, 28, 29, 30, 31, 32, 1, 2, 3, 4, 5, 6] 50 rfl (by decide +kernel) rfl rfl) (ci := 2) (q := (RX2, TX2, 2)) rfl rfl rfl rfl hl.1 rfl (Nat.le_of_ble_eq_true rfl) dX6_turnOver_26 ⟨Nat.zero_le _, Nat.zero_le _⟩ (fun H locs hP hD hS => ?_)
    refine lv_aload_n hx hb dX6_turnOver_29 rfl (lv_at hl 0 rfl) ?_
    refine va_get (D := D) (ci := 6) (v := .ref ((ad 1) 0)) (C := RX6) (T := TX6) (N := 8) hx hb hts inw_X6_turnOver_6 hown hK hP 0 rfl rfl 0 (by decide) (hts (.fieldLink RX6 12 "RingGames" "now" "LRingGames$State;") (List.mem_of_getElem? (i := 1) rfl)) (fun _ h9 => h9) rfl dX6_turnOver_30 ?_
    refine va_get (D := D) (ci := 4) (v := .ref ((ad 1) 2)) (C := RX4) (T := TX4) (N := 4) hx hb hts inw_X6_turnOver_4 hown hK hP 1 rfl rfl 0 (by decide) (hts (.fieldLink RX6 65 "RingGames$State" "game" "LRingGames$Game;") (List.mem_of_getElem? (i := 2) rfl)) (fun _ h9 => h9) rfl dX6_turnOver_33 ?_
    obtain ⟨q4, hq4, hf⟩ := ob_some hf
    refine xcVv (w' := ((w_X ad cI cC cS (q4, now.2.1, now.2.2.1, now.2.2.2) q3 snap has text trial meas walk) ++ R)) S hK hN hA hP hD hS (c_X1_exchange l D cI cC cS ((xr 50 [3, 4, 5, 6]).filterMap (fun i => (w_X ad cI cC cS now q3 snap has text trial meas walk)[i]?) ++ R) (fun k => (ad 1) (k + 2)) now.1 n _ hq4) gX6_turnOver_X1_exchange rfl hd_X1_exchange ⟨by decide, by decide⟩ (x_cut (pre := (w_X ad cI cC cS now q3 snap has text trial meas walk)) [3, 4, 5, 6] 50 rfl (by decide +kernel) rfl) (x_back (pre := (w_X ad cI cC cS now q3 snap has text trial meas walk)) [3, 4, 5, 6] 50 rfl (by decide +kernel) rfl rfl) (ci := 1) (q := (RX1, TX1, 4)) rfl rfl rfl rfl hl.1 rfl (Nat.le_of_ble_eq_true rfl) dX6_turnOver_36 ⟨Nat.zero_le _, Nat.zero_le _⟩ (fun H locs hP hD hS => ?_)
    refine lv_aload_n hx hb dX6_turnOver_39 rfl (lv_at hl 0 rfl) ?_
    refine lv_iconst (v := 1) hx hb dX6_turnOver_40 (by decide) ?_
    obtain ⟨q5, hq5, hf⟩ := ob_some hf
    refine xcVi (w' := ((w_X ad cI cC cS (q4, now.2.1, now.2.2.1, now.2.2.2) q3 snap has text q5.2.1 q5.2.2 walk) ++ R)) S hK hN hA hP hD hS (c_X6_wonBy l D cI cC cS R ad (q4, now.2.1, now.2.2.1, now.2.2.2) q3 snap has text trial meas walk 1 n _ hq5) gX6_turnOver_X6_wonBy rfl hd_X6_wonBy ⟨by decide, by decide⟩ (List.Perm.refl _) (List.Perm.refl _) (ci := 6) (q := (RX6, TX6, 8)) rfl rfl rfl rfl hl.1 rfl (Nat.le_of_ble_eq_true rfl) dX6_turnOver_41 ⟨Nat.zero_le _, Nat.zero_le _⟩ (fun H locs hP hD hS => ?_)
    have hf := Option.some.inj hf
    subst hf
    exact hret _ _ _ _ _ dX6_turnOver_44 rfl hP hD hS rfl
  · have hf := if_f hf c2
    refine lv_bipush (v := (-4)) hx hb dX6_turnOver_15 (by decide) ?_
    have hf := Option.some.inj hf
    subst hf
    exact hret _ _ _ _ _ dX6_turnOver_17 rfl hP hD hS rfl
def f_X6_choose (now : SS) (hist : HH) (p1 : Int32) (p2 : Int32) : Option (Int32 × SS × HH) := (f_X1_has now.1 p1).bind fun q1 => (if q1 = 0 then some ((-1), now, hist) else (if p2 < 0 then some ((-2), now, hist) else (if p2 ≤ 14 then (if p2 = 14 then vg p1 14 ((if (now.2.1 (p1).toNatClampNeg) = p2 then some ((-5), now, hist) else (f_X2_remember hist now).bind fun q8 => some ((now.2.1 (p1).toNatClampNeg), (now.1, (upd now.2.1 (p1).toNatClampNeg p2), now.2.2.1, now.2.2.2), q8))) else (f_X1_leads now.1 p1 p2).bind fun q9 => (if q9 = 0 then some ((-4), now, hist) else vg p1 14 ((if (now.2.1 (p1).toNatClampNeg) = p2 then some ((-5), now, hist) else (f_X2_remember hist now).bind fun q13 => some ((now.2.1 (p1).toNatClampNeg), (now.1, (upd now.2.1 (p1).toNatClampNeg p2), now.2.2.1, now.2.2.2), q13))))) else some ((-2), now, hist))))
theorem inw_X6_choose_4 : ∀ w ∈ wsX40, w ∈ wsX6_choose := fun _ h => List.mem_cons_of_mem _ (List.mem_append_left _ (List.mem_append_left _ (List.mem_append_right _ h)))
theorem inw_X6_choose_6 : ∀ w ∈ wsX60, w ∈ wsX6_choose := fun _ h => List.mem_cons_of_mem _ (List.mem_append_left _ (List.mem_append_left _ (List.mem_append_left _ (List.mem_append_right _ h))))
theorem hd_X6_choose : yX6_choose.cls = RX6 ∧ yX6_choose.cls ≠ "java/lang/invoke/MethodHandle" ∧ yX6_choose.cls ≠ "java/lang/invoke/VarHandle" ∧ (parseMethodDescriptor yX6_choose.desc).map (fun d => d.parameters.length) = some 2 := by decide +kernel
set_option maxHeartbeats 4000000 in
set_option maxRecDepth 100000 in
theorem c_X6_choose (l : Launch) (D : va_G) (cI cC cS : ClassId) (R : va_W) (ad : Nat → Nat → Nat) (now : SS) (hist : HH) (snap : SS) (has : Int32) (text : TT) (trial : GG) (meas : EE) (walk : KK) (p1 : Int32) (p2 : Int32) (r : Int32 × SS × HH) (hf : f_X6_choose now hist p1 p2 = some r) : CI l yX6_choose wsX6_choose 4 123 D cI cC cS [.ref (ad 0 0), .int p1, .int p2] ((w_X ad cI cC cS now hist snap has text trial meas walk) ++ R) r.1 ((w_X ad cI cC cS r.2.1 r.2.2 snap has text trial meas walk) ++ R) := by
  refine XI.of (cc := cX6_choose) (maxL := 4) (ty := .int) (own := RX6) (by decide) rfl rfl (Nat.le_of_ble_eq_true rfl) ?_
  intro p e s m args below meth c A Q S hK hN hA hP hD hS ls hl hret
  obtain ⟨hx, hb, hml, hown, hts⟩ := id S
  have hl : lv_has ls 4 [(0, .ref (ad 0 0)), (1, .int p1), (2, .int p2)] := hl
  unfold f_X6_choose at hf
  refine lv_aload_n hx hb dX6_choose_0 rfl (lv_at hl 0 rfl) ?_
  refine va_get (D := D) (ci := 6) (v := .ref ((ad 1) 0)) (C := RX6) (T := TX6) (N := 8) hx hb hts inw_X6_choose_6 hown hK hP 0 rfl rfl 0 (by decide) (hts (.fieldLink RX6 12 "RingGames" "now" "LRingGames$State;") (List.mem_of_getElem? (i := 1) rfl)) (fun _ h9 => h9) rfl dX6_choose_1 ?_
  refine va_get (D := D) (ci := 4) (v := .ref ((ad 1) 2)) (C := RX4) (T := TX4) (N := 4) hx hb hts inw_X6_choose_4 hown hK hP 1 rfl rfl 0 (by decide) (hts (.fieldLink RX6 65 "RingGames$State" "game" "LRingGames$Game;") (List.mem_of_getElem? (i := 2) rfl)) (fun _ h9 => h9) rfl dX6_choose_4 ?_
  refine lv_iload_n hx hb dX6_choose_7 rfl (lv_at hl 1 rfl) ?_
  obtain ⟨q1, hq1, hf⟩ := ob_some hf
  refine xcVi (w' := ((w_X ad cI cC cS now hist snap has text trial meas walk) ++ R)) S hK hN hA hP hD hS (c_X1_has l D cI cC cS ((xr 50 [3, 4, 5, 6]).filterMap (fun i => (w_X ad cI cC cS now hist snap has text trial meas walk)[i]?) ++ R) (fun k => (ad 1) (k + 2)) now.1 p1 _ hq1) gX6_choose_X1_has rfl hd_X1_has ⟨by decide, by decide⟩ (x_cut (pre := (w_X ad cI cC cS now hist snap has text trial meas walk)) [3, 4, 5, 6] 50 rfl (by decide +kernel) rfl) (x_cut (pre := (w_X ad cI cC cS now hist snap has text trial meas walk)) [3, 4, 5, 6] 50 rfl (by decide +kernel) rfl).symm (ci := 1) (q := (RX1, TX1, 4)) rfl rfl rfl rfl hl.1 rfl (Nat.le_of_ble_eq_true rfl) dX6_choose_8 ⟨Nat.zero_le _, Nat.zero_le _⟩ (fun H locs hP hD hS => ?_)
  refine lv_if_ne (tgt := 16) hx hb dX6_choose_11 (by decide) (fun c2 => ?_) (fun c2 => ?_)
  · have hf := if_f hf c2
    refine lv_iload_n hx hb dX6_choose_16 rfl (lv_at hl 2 rfl) ?_
    refine lv_if_lt (tgt := 26) hx hb dX6_choose_17 (by decide) (fun c3 => ?_) (fun c3 => ?_)
    · have hf := if_t hf c3
      refine lv_bipush (v := (-2)) hx hb dX6_choose_26 (by decide) ?_
      have hf := Option.some.inj hf
      subst hf
      exact hret _ _ _ _ _ dX6_choose_28 rfl hP hD hS rfl
    · have hf := if_f hf c3
      refine lv_iload_n hx hb dX6_choose_20 rfl (lv_at hl 2 rfl) ?_
      refine lv_bipush (v := 14) hx hb dX6_choose_21 (by decide) ?_
      refine lv_icmp_le (tgt := 29) hx hb dX6_choose_23 (by decide) (fun c4 => ?_) (fun c4 => ?_)
      · have hf := if_t hf c4
        refine lv_iload_n hx hb dX6_choose_29 rfl (lv_at hl 2 rfl) ?_
        refine lv_bipush (v := 14) hx hb dX6_choose_30 (by decide) ?_
        refine lv_icmp_eq (tgt := 53) hx hb dX6_choose_32 (by decide) (fun c5 => ?_) (fun c5 => ?_)
        · have hf := if_t hf c5
          refine lv_aload_n hx hb dX6_choose_53 rfl (lv_at hl 0 rfl) ?_
          refine va_get (D := D) (ci := 6) (v := .ref ((ad 1) 0)) (C := RX6) (T := TX6) (N := 8) hx hb hts inw_X6_choose_6 hown hK hP 0 rfl rfl 0 (by decide) (hts (.fieldLink RX6 12 "RingGames" "now" "LRingGames$State;") (List.mem_of_getElem? (i := 1) rfl)) (fun _ h9 => h9) rfl dX6_choose_54 ?_
          refine va_get (D := D) (ci := 4) (v := .ref ((ad 1) 1)) (C := RX4) (T := TX4) (N := 4) hx hb hts inw_X6_choose_4 hown hK hP 1 rfl rfl 1 (by decide) (hts (.fieldLink RX6 113 "RingGames$State" "choices" "[I") (List.mem_of_getElem? (i := 3) rfl)) (fun _ h9 => h9) rfl dX6_choose_57 ?_
          refine lv_iload_n hx hb dX6_choose_60 rfl (lv_at hl 1 rfl) ?_
          obtain ⟨g6, hf⟩ := vg_some hf
          refine va_iald hx hb hK hP 2 0 rfl rfl g6 dX6_choose_61 ?_
          refine lv_istore_n (lv' := [(3, .int (now.2.1 (p1).toNatClampNeg)), (0, .ref (ad 0 0)), (1, .int p1), (2, .int p2)]) hx hb dX6_choose_62 rfl hl (by decide) rfl (fun ls hl => ?_)
          refine lv_iload_n hx hb dX6_choose_63 rfl (lv_at hl 0 rfl) ?_
          refine lv_iload_n hx hb dX6_choose_64 rfl (lv_at hl 3 rfl) ?_
          refine lv_icmp_ne (tgt := 71) hx hb dX6_choose_65 (by decide) (fun c7 => ?_) (fun c7 => ?_)
          · have hf := if_f hf c7
            refine lv_aload_n hx hb dX6_choose_71 rfl (lv_at hl 1 rfl) ?_
            refine va_get (D := D) (ci := 6) (v := .ref ((ad 2) 0)) (C := RX6) (T := TX6) (N := 8) hx hb hts inw_X6_choose_6 hown hK hP 0 rfl rfl 1 (by decide) (hts (.fieldLink RX6 19 "RingGames" "history" "LRingGames$History;") (List.mem_of_getElem? (i := 4) rfl)) (fun _ h9 => h9) rfl dX6_choose_72 ?_
            refine lv_aload_n hx hb dX6_choose_75 rfl (lv_at hl 1 rfl) ?_
            refine va_get (D := D) (ci := 6) (v := .ref ((ad 1) 0)) (C := RX6) (T := TX6) (N := 8) hx hb hts inw_X6_choose_6 hown hK hP 0 rfl rfl 0 (by decide) (hts (.fieldLink RX6 12 "RingGames" "now" "LRingGames$State;") (List.mem_of_getElem? (i := 1) rfl)) (fun _ h9 => h9) rfl dX6_choose_76 ?_
            obtain ⟨q8, hq8, hf⟩ := ob_some hf
            refine xcVv (w' := ((w_X ad cI cC cS now q8 snap has text trial meas walk) ++ R)) S hK hN hA hP hD hS (c_X2_remember l D cI cC cS ((xr 50 [7, 8, 9, 10, 11, 12, 13, 14, 15, 16, 17, 18, 19, 20, 21, 22, 23, 24, 25, 26, 27, 28, 29, 30, 31, 32, 1, 2, 3, 4, 5, 6]).filterMap (fun i => (w_X ad cI cC cS now hist snap has text trial meas walk)[i]?) ++ R) (ad 2) (ad 1) hist now _ hq8) gX6_choose_X2_remember rfl hd_X2_remember ⟨by decide, by decide⟩ (x_cut (pre := (w_X ad cI cC cS now hist snap has text trial meas walk)) [7, 8, 9, 10, 11, 12, 13, 14, 15, 16, 17, 18, 19, 20, 21, 22, 23, 24, 25, 26, 27, 28, 29, 30, 31, 32, 1, 2, 3, 4, 5, 6] 50 rfl (by decide +kernel) rfl) (x_back (pre := (w_X ad cI cC cS now hist snap has text trial meas walk)) [7, 8, 9, 10, 11, 12, 13, 14, 15, 16, 17, 18, 19, 20, 21, 22, 23, 24, 25, 26, 27, 28, 29, 30, 31, 32, 1, 2, 3, 4, 5, 6] 50 rfl (by decide +kernel) rfl rfl) (ci := 2) (q := (RX2, TX2, 2)) rfl rfl rfl rfl hl.1 rfl (Nat.le_of_ble_eq_true rfl) dX6_choose_79 ⟨Nat.zero_le _, Nat.zero_le _⟩ (fun H locs hP hD hS => ?_)
            refine lv_aload_n hx hb dX6_choose_82 rfl (lv_at hl 1 rfl) ?_
            refine va_get (D := D) (ci := 6) (v := .ref ((ad 1) 0)) (C := RX6) (T := TX6) (N := 8) hx hb hts inw_X6_choose_6 hown hK hP 0 rfl rfl 0 (by decide) (hts (.fieldLink RX6 12 "RingGames" "now" "LRingGames$State;") (List.mem_of_getElem? (i := 1) rfl)) (fun _ h9 => h9) rfl dX6_choose_83 ?_
            refine va_get (D := D) (ci := 4) (v := .ref ((ad 1) 1)) (C := RX4) (T := TX4) (N := 4) hx hb hts inw_X6_choose_4 hown hK hP 1 rfl rfl 1 (by decide) (hts (.fieldLink RX6 113 "RingGames$State" "choices" "[I") (List.mem_of_getElem? (i := 3) rfl)) (fun _ h9 => h9) rfl dX6_choose_86 ?_
            refine lv_iload_n hx hb dX6_choose_89 rfl (lv_at hl 2 rfl) ?_
            refine lv_iload_n hx hb dX6_choose_90 rfl (lv_at hl 3 rfl) ?_
            refine va_iast hx hb hK hP hD hS 2 0 rfl rfl g6 dX6_choose_91 (fun H locs hP hD hS => ?_)
            have hP : va_P D vwCl ((w_X ad cI cC cS (now.1, (upd now.2.1 (p1).toNatClampNeg p2), now.2.2.1, now.2.2.2) q8 snap has text trial meas walk) ++ R) H := hP
            have hD : va_D A ((w_X ad cI cC cS (now.1, (upd now.2.1 (p1).toNatClampNeg p2), now.2.2.1, now.2.2.2) q8 snap has text trial meas walk) ++ R) := hD
            refine lv_iload_n hx hb dX6_choose_92 rfl (lv_at hl 0 rfl) ?_
            have hf := Option.some.inj hf
            subst hf
            exact hret _ _ _ _ _ dX6_choose_93 rfl hP hD hS rfl
          · have hf := if_t hf c7
            refine lv_bipush (v := (-5)) hx hb dX6_choose_68 (by decide) ?_
            have hf := Option.some.inj hf
            subst hf
            exact hret _ _ _ _ _ dX6_choose_70 rfl hP hD hS rfl
        · have hf := if_f hf c5
          refine lv_aload_n hx hb dX6_choose_35 rfl (lv_at hl 0 rfl) ?_
          refine va_get (D := D) (ci := 6) (v := .ref ((ad 1) 0)) (C := RX6) (T := TX6) (N := 8) hx hb hts inw_X6_choose_6 hown hK hP 0 rfl rfl 0 (by decide) (hts (.fieldLink RX6 12 "RingGames" "now" "LRingGames$State;") (List.mem_of_getElem? (i := 1) rfl)) (fun _ h9 => h9) rfl dX6_choose_36 ?_
          refine va_get (D := D) (ci := 4) (v := .ref ((ad 1) 2)) (C := RX4) (T := TX4) (N := 4) hx hb hts inw_X6_choose_4 hown hK hP 1 rfl rfl 0 (by decide) (hts (.fieldLink RX6 65 "RingGames$State" "game" "LRingGames$Game;") (List.mem_of_getElem? (i := 2) rfl)) (fun _ h9 => h9) rfl dX6_choose_39 ?_
          refine lv_iload_n hx hb dX6_choose_42 rfl (lv_at hl 1 rfl) ?_
          refine lv_iload_n hx hb dX6_choose_43 rfl (lv_at hl 2 rfl) ?_
          obtain ⟨q9, hq9, hf⟩ := ob_some hf
          refine xcVi (w' := ((w_X ad cI cC cS now hist snap has text trial meas walk) ++ R)) S hK hN hA hP hD hS (c_X1_leads l D cI cC cS ((xr 50 [3, 4, 5, 6]).filterMap (fun i => (w_X ad cI cC cS now hist snap has text trial meas walk)[i]?) ++ R) (fun k => (ad 1) (k + 2)) now.1 p1 p2 _ hq9) gX6_choose_X1_leads rfl hd_X1_leads ⟨by decide, by decide⟩ (x_cut (pre := (w_X ad cI cC cS now hist snap has text trial meas walk)) [3, 4, 5, 6] 50 rfl (by decide +kernel) rfl) (x_cut (pre := (w_X ad cI cC cS now hist snap has text trial meas walk)) [3, 4, 5, 6] 50 rfl (by decide +kernel) rfl).symm (ci := 1) (q := (RX1, TX1, 4)) rfl rfl rfl rfl hl.1 rfl (Nat.le_of_ble_eq_true rfl) dX6_choose_44 ⟨Nat.zero_le _, Nat.zero_le _⟩ (fun H locs hP hD hS => ?_)
          refine lv_if_ne (tgt := 53) hx hb dX6_choose_47 (by decide) (fun c10 => ?_) (fun c10 => ?_)
          · have hf := if_f hf c10
            refine lv_aload_n hx hb dX6_choose_53 rfl (lv_at hl 0 rfl) ?_
            refine va_get (D := D) (ci := 6) (v := .ref ((ad 1) 0)) (C := RX6) (T := TX6) (N := 8) hx hb hts inw_X6_choose_6 hown hK hP 0 rfl rfl 0 (by decide) (hts (.fieldLink RX6 12 "RingGames" "now" "LRingGames$State;") (List.mem_of_getElem? (i := 1) rfl)) (fun _ h9 => h9) rfl dX6_choose_54 ?_
            refine va_get (D := D) (ci := 4) (v := .ref ((ad 1) 1)) (C := RX4) (T := TX4) (N := 4) hx hb hts inw_X6_choose_4 hown hK hP 1 rfl rfl 1 (by decide) (hts (.fieldLink RX6 113 "RingGames$State" "choices" "[I") (List.mem_of_getElem? (i := 3) rfl)) (fun _ h9 => h9) rfl dX6_choose_57 ?_
            refine lv_iload_n hx hb dX6_choose_60 rfl (lv_at hl 1 rfl) ?_
            obtain ⟨g11, hf⟩ := vg_some hf
            refine va_iald hx hb hK hP 2 0 rfl rfl g11 dX6_choose_61 ?_
            refine lv_istore_n (lv' := [(3, .int (now.2.1 (p1).toNatClampNeg)), (0, .ref (ad 0 0)), (1, .int p1), (2, .int p2)]) hx hb dX6_choose_62 rfl hl (by decide) rfl (fun ls hl => ?_)
            refine lv_iload_n hx hb dX6_choose_63 rfl (lv_at hl 0 rfl) ?_
            refine lv_iload_n hx hb dX6_choose_64 rfl (lv_at hl 3 rfl) ?_
            refine lv_icmp_ne (tgt := 71) hx hb dX6_choose_65 (by decide) (fun c12 => ?_) (fun c12 => ?_)
            · have hf := if_f hf c12
              refine lv_aload_n hx hb dX6_choose_71 rfl (lv_at hl 1 rfl) ?_
              refine va_get (D := D) (ci := 6) (v := .ref ((ad 2) 0)) (C := RX6) (T := TX6) (N := 8) hx hb hts inw_X6_choose_6 hown hK hP 0 rfl rfl 1 (by decide) (hts (.fieldLink RX6 19 "RingGames" "history" "LRingGames$History;") (List.mem_of_getElem? (i := 4) rfl)) (fun _ h9 => h9) rfl dX6_choose_72 ?_
              refine lv_aload_n hx hb dX6_choose_75 rfl (lv_at hl 1 rfl) ?_
              refine va_get (D := D) (ci := 6) (v := .ref ((ad 1) 0)) (C := RX6) (T := TX6) (N := 8) hx hb hts inw_X6_choose_6 hown hK hP 0 rfl rfl 0 (by decide) (hts (.fieldLink RX6 12 "RingGames" "now" "LRingGames$State;") (List.mem_of_getElem? (i := 1) rfl)) (fun _ h9 => h9) rfl dX6_choose_76 ?_
              obtain ⟨q13, hq13, hf⟩ := ob_some hf
              refine xcVv (w' := ((w_X ad cI cC cS now q13 snap has text trial meas walk) ++ R)) S hK hN hA hP hD hS (c_X2_remember l D cI cC cS ((xr 50 [7, 8, 9, 10, 11, 12, 13, 14, 15, 16, 17, 18, 19, 20, 21, 22, 23, 24, 25, 26, 27, 28, 29, 30, 31, 32, 1, 2, 3, 4, 5, 6]).filterMap (fun i => (w_X ad cI cC cS now hist snap has text trial meas walk)[i]?) ++ R) (ad 2) (ad 1) hist now _ hq13) gX6_choose_X2_remember rfl hd_X2_remember ⟨by decide, by decide⟩ (x_cut (pre := (w_X ad cI cC cS now hist snap has text trial meas walk)) [7, 8, 9, 10, 11, 12, 13, 14, 15, 16, 17, 18, 19, 20, 21, 22, 23, 24, 25, 26, 27, 28, 29, 30, 31, 32, 1, 2, 3, 4, 5, 6] 50 rfl (by decide +kernel) rfl) (x_back (pre := (w_X ad cI cC cS now hist snap has text trial meas walk)) [7, 8, 9, 10, 11, 12, 13, 14, 15, 16, 17, 18, 19, 20, 21, 22, 23, 24, 25, 26, 27, 28, 29, 30, 31, 32, 1, 2, 3, 4, 5, 6] 50 rfl (by decide +kernel) rfl rfl) (ci := 2) (q := (RX2, TX2, 2)) rfl rfl rfl rfl hl.1 rfl (Nat.le_of_ble_eq_true rfl) dX6_choose_79 ⟨Nat.zero_le _, Nat.zero_le _⟩ (fun H locs hP hD hS => ?_)
              refine lv_aload_n hx hb dX6_choose_82 rfl (lv_at hl 1 rfl) ?_
              refine va_get (D := D) (ci := 6) (v := .ref ((ad 1) 0)) (C := RX6) (T := TX6) (N := 8) hx hb hts inw_X6_choose_6 hown hK hP 0 rfl rfl 0 (by decide) (hts (.fieldLink RX6 12 "RingGames" "now" "LRingGames$State;") (List.mem_of_getElem? (i := 1) rfl)) (fun _ h9 => h9) rfl dX6_choose_83 ?_
              refine va_get (D := D) (ci := 4) (v := .ref ((ad 1) 1)) (C := RX4) (T := TX4) (N := 4) hx hb hts inw_X6_choose_4 hown hK hP 1 rfl rfl 1 (by decide) (hts (.fieldLink RX6 113 "RingGames$State" "choices" "[I") (List.mem_of_getElem? (i := 3) rfl)) (fun _ h9 => h9) rfl dX6_choose_86 ?_
              refine lv_iload_n hx hb dX6_choose_89 rfl (lv_at hl 2 rfl) ?_
              refine lv_iload_n hx hb dX6_choose_90 rfl (lv_at hl 3 rfl) ?_
              refine va_iast hx hb hK hP hD hS 2 0 rfl rfl g11 dX6_choose_91 (fun H locs hP hD hS => ?_)
              have hP : va_P D vwCl ((w_X ad cI cC cS (now.1, (upd now.2.1 (p1).toNatClampNeg p2), now.2.2.1, now.2.2.2) q13 snap has text trial meas walk) ++ R) H := hP
              have hD : va_D A ((w_X ad cI cC cS (now.1, (upd now.2.1 (p1).toNatClampNeg p2), now.2.2.1, now.2.2.2) q13 snap has text trial meas walk) ++ R) := hD
              refine lv_iload_n hx hb dX6_choose_92 rfl (lv_at hl 0 rfl) ?_
              have hf := Option.some.inj hf
              subst hf
              exact hret _ _ _ _ _ dX6_choose_93 rfl hP hD hS rfl
            · have hf := if_t hf c12
              refine lv_bipush (v := (-5)) hx hb dX6_choose_68 (by decide) ?_
              have hf := Option.some.inj hf
              subst hf
              exact hret _ _ _ _ _ dX6_choose_70 rfl hP hD hS rfl
          · have hf := if_t hf c10
            refine lv_bipush (v := (-4)) hx hb dX6_choose_50 (by decide) ?_
            have hf := Option.some.inj hf
            subst hf
            exact hret _ _ _ _ _ dX6_choose_52 rfl hP hD hS rfl
      · have hf := if_f hf c4
        refine lv_bipush (v := (-2)) hx hb dX6_choose_26 (by decide) ?_
        have hf := Option.some.inj hf
        subst hf
        exact hret _ _ _ _ _ dX6_choose_28 rfl hP hD hS rfl
  · have hf := if_t hf c2
    refine lv_iconst (v := (-1)) hx hb dX6_choose_14 (by decide) ?_
    have hf := Option.some.inj hf
    subst hf
    exact hret _ _ _ _ _ dX6_choose_15 rfl hP hD hS rfl
def f_X6_chooseWell_L29 (n : Nat) (d_trial : GG) (d_meas : EE) (d_l1 : Int32) : Nat → Int32 → Int32 → SS → Option (Int32 × SS)
  | 0, _, _, _ => none
  | k + 1, d_l2, d_l3, d_now => (if d_now.1.1 ≤ d_l3 then some (d_l2, d_now) else vg d_l3 14 ((if (d_now.1.2.1 (d_l3).toNatClampNeg) = d_l1 then (f_X3_bestArrow n d_meas d_trial d_l3).bind fun q8 => (if ((upd d_now.2.1 (d_l3).toNatClampNeg q8) (d_l3).toNatClampNeg) = 14 then f_X6_chooseWell_L29 n d_trial d_meas d_l1 k (d_l2 + 0) (d_l3 + 1) (d_now.1, (upd d_now.2.1 (d_l3).toNatClampNeg q8), d_now.2.2.1, d_now.2.2.2) else f_X6_chooseWell_L29 n d_trial d_meas d_l1 k (d_l2 + 1) (d_l3 + 1) (d_now.1, (upd d_now.2.1 (d_l3).toNatClampNeg q8), d_now.2.2.1, d_now.2.2.2)) else f_X6_chooseWell_L29 n d_trial d_meas d_l1 k d_l2 (d_l3 + 1) d_now)))
def f_X6_chooseWell (n : Nat) (now : SS) (hist : HH) (trial : GG) (meas : EE) (p1 : Int32) : Option (Int32 × SS × HH × GG × EE) := (f_X6_isPlayer p1).bind fun q1 => (if q1 = 0 then some ((-1), now, hist, trial, meas) else (f_X2_remember hist now).bind fun q3 => (f_X6_solveFor n now trial meas p1).bind fun q4 => (f_X6_chooseWell_L29 n q4.1 q4.2 p1 n 0 0 now).bind fun q6 => some (q6.1, q6.2, q3, q4.1, q4.2))
theorem inw_X6_chooseWell_1 : ∀ w ∈ wsX10, w ∈ wsX6_chooseWell := fun _ h => List.mem_cons_of_mem _ (List.mem_append_left _ (List.mem_append_left _ (List.mem_append_right _ h)))
theorem inw_X6_chooseWell_4 : ∀ w ∈ wsX40, w ∈ wsX6_chooseWell := fun _ h => List.mem_cons_of_mem _ (List.mem_append_left _ (List.mem_append_left _ (List.mem_append_left _ (List.mem_append_right _ h))))
theorem inw_X6_chooseWell_6 : ∀ w ∈ wsX60, w ∈ wsX6_chooseWell := fun _ h => List.mem_cons_of_mem _ (List.mem_append_left _ (List.mem_append_left _ (List.mem_append_left _ (List.mem_append_left _ (List.mem_append_right _ h)))))
theorem hd_X6_chooseWell : yX6_chooseWell.cls = RX6 ∧ yX6_chooseWell.cls ≠ "java/lang/invoke/MethodHandle" ∧ yX6_chooseWell.cls ≠ "java/lang/invoke/VarHandle" ∧ (parseMethodDescriptor yX6_chooseWell.desc).map (fun d => d.parameters.length) = some 1 := by decide +kernel
set_option maxHeartbeats 4000000 in
set_option maxRecDepth 100000 in
theorem c_X6_chooseWell (l : Launch) (D : va_G) (cI cC cS : ClassId) (R : va_W) (ad : Nat → Nat → Nat) (now : SS) (hist : HH) (snap : SS) (has : Int32) (text : TT) (trial : GG) (meas : EE) (walk : KK) (p1 : Int32) (n : Nat) (r : Int32 × SS × HH × GG × EE) (hf : f_X6_chooseWell n now hist trial meas p1 = some r) : CI l yX6_chooseWell wsX6_chooseWell 5 133 D cI cC cS [.ref (ad 0 0), .int p1] ((w_X ad cI cC cS now hist snap has text trial meas walk) ++ R) r.1 ((w_X ad cI cC cS r.2.1 r.2.2.1 snap has text r.2.2.2.1 r.2.2.2.2 walk) ++ R) := by
  refine XI.of (cc := cX6_chooseWell) (maxL := 4) (ty := .int) (own := RX6) (by decide) rfl rfl (Nat.le_of_ble_eq_true rfl) ?_
  intro p e s m args below meth c A Q S hK hN hA hP hD hS ls hl hret
  obtain ⟨hx, hb, hml, hown, hts⟩ := id S
  have hl : lv_has ls 4 [(0, .ref (ad 0 0)), (1, .int p1)] := hl
  unfold f_X6_chooseWell at hf
  refine lv_iload_n hx hb dX6_chooseWell_0 rfl (lv_at hl 1 rfl) ?_
  obtain ⟨q1, hq1, hf⟩ := ob_some hf
  refine xcSi S hK hN hA hP hD hS (c_X6_isPlayer l D cI cC cS ((w_X ad cI cC cS now hist snap has text trial meas walk) ++ R) p1 _ hq1) gX6_chooseWell_X6_isPlayer rfl hd_X6_isPlayer ⟨by decide, by decide⟩ rfl hl.1 rfl (Nat.le_of_ble_eq_true rfl) dX6_chooseWell_1 ⟨Nat.zero_le _, Nat.zero_le _⟩ (fun H locs hP hD hS => ?_)
  refine lv_if_ne (tgt := 9) hx hb dX6_chooseWell_4 (by decide) (fun c2 => ?_) (fun c2 => ?_)
  · have hf := if_f hf c2
    refine lv_aload_n hx hb dX6_chooseWell_9 rfl (lv_at hl 0 rfl) ?_
    refine va_get (D := D) (ci := 6) (v := .ref ((ad 2) 0)) (C := RX6) (T := TX6) (N := 8) hx hb hts inw_X6_chooseWell_6 hown hK hP 0 rfl rfl 1 (by decide) (hts (.fieldLink RX6 19 "RingGames" "history" "LRingGames$History;") (List.mem_of_getElem? (i := 1) rfl)) (fun _ h9 => h9) rfl dX6_chooseWell_10 ?_
    refine lv_aload_n hx hb dX6_chooseWell_13 rfl (lv_at hl 0 rfl) ?_
    refine va_get (D := D) (ci := 6) (v := .ref ((ad 1) 0)) (C := RX6) (T := TX6) (N := 8) hx hb hts inw_X6_chooseWell_6 hown hK hP 0 rfl rfl 0 (by decide) (hts (.fieldLink RX6 12 "RingGames" "now" "LRingGames$State;") (List.mem_of_getElem? (i := 2) rfl)) (fun _ h9 => h9) rfl dX6_chooseWell_14 ?_
    obtain ⟨q3, hq3, hf⟩ := ob_some hf
    refine xcVv (w' := ((w_X ad cI cC cS now q3 snap has text trial meas walk) ++ R)) S hK hN hA hP hD hS (c_X2_remember l D cI cC cS ((xr 50 [7, 8, 9, 10, 11, 12, 13, 14, 15, 16, 17, 18, 19, 20, 21, 22, 23, 24, 25, 26, 27, 28, 29, 30, 31, 32, 1, 2, 3, 4, 5, 6]).filterMap (fun i => (w_X ad cI cC cS now hist snap has text trial meas walk)[i]?) ++ R) (ad 2) (ad 1) hist now _ hq3) gX6_chooseWell_X2_remember rfl hd_X2_remember ⟨by decide, by decide⟩ (x_cut (pre := (w_X ad cI cC cS now hist snap has text trial meas walk)) [7, 8, 9, 10, 11, 12, 13, 14, 15, 16, 17, 18, 19, 20, 21, 22, 23, 24, 25, 26, 27, 28, 29, 30, 31, 32, 1, 2, 3, 4, 5, 6] 50 rfl (by decide +kernel) rfl) (x_back (pre := (w_X ad cI cC cS now hist snap has text trial meas walk)) [7, 8, 9, 10, 11, 12, 13, 14, 15, 16, 17, 18, 19, 20, 21, 22, 23, 24, 25, 26, 27, 28, 29, 30, 31, 32, 1, 2, 3, 4, 5, 6] 50 rfl (by decide +kernel) rfl rfl) (ci := 2) (q := (RX2, TX2, 2)) rfl rfl rfl rfl hl.1 rfl (Nat.le_of_ble_eq_true rfl) dX6_chooseWell_17 ⟨Nat.zero_le _, Nat.zero_le _⟩ (fun H locs hP hD hS => ?_)
    refine lv_aload_n hx hb dX6_chooseWell_20 rfl (lv_at hl 0 rfl) ?_
    refine lv_iload_n hx hb dX6_chooseWell_21 rfl (lv_at hl 1 rfl) ?_
    obtain ⟨q4, hq4, hf⟩ := ob_some hf
    refine xcVv (w' := ((w_X ad cI cC cS now q3 snap has text q4.1 q4.2 walk) ++ R)) S hK hN hA hP hD hS (c_X6_solveFor l D cI cC cS R ad now q3 snap has text trial meas walk p1 n _ hq4) gX6_chooseWell_X6_solveFor rfl hd_X6_solveFor ⟨by decide, by decide⟩ (List.Perm.refl _) (List.Perm.refl _) (ci := 6) (q := (RX6, TX6, 8)) rfl rfl rfl rfl hl.1 rfl (Nat.le_of_ble_eq_true rfl) dX6_chooseWell_22 ⟨Nat.zero_le _, Nat.zero_le _⟩ (fun H locs hP hD hS => ?_)
    refine lv_iconst (v := 0) hx hb dX6_chooseWell_25 (by decide) ?_
    refine lv_istore_n (lv' := [(2, .int 0), (0, .ref (ad 0 0)), (1, .int p1)]) hx hb dX6_chooseWell_26 rfl hl (by decide) rfl (fun ls hl => ?_)
    refine lv_iconst (v := 0) hx hb dX6_chooseWell_27 (by decide) ?_
    refine lv_istore_n (lv' := [(3, .int 0), (2, .int 0), (0, .ref (ad 0 0)), (1, .int p1)]) hx hb dX6_chooseWell_28 rfl hl (by decide) rfl (fun ls hl => ?_)
    obtain ⟨q6, hq6, hf⟩ := ob_some hf
    have L5 : ∀ (k : Nat) (v_l2_L5 : Int32) (v_l3_L5 : Int32) (v_now_L5 : SS) (q_L5 : Int32 × SS), f_X6_chooseWell_L29 n q4.1 q4.2 p1 k v_l2_L5 v_l3_L5 v_now_L5 = some q_L5 → ∀ (H : Heap) (locs : List Loc), va_P D vwCl ((w_X ad cI cC cS v_now_L5 q3 snap has text q4.1 q4.2 walk) ++ R) H → va_D A ((w_X ad cI cC cS v_now_L5 q3 snap has text q4.1 q4.2 walk) ++ R) → va_S A s.heap H locs → ∀ ls : Array Slot, lv_has ls 4 [(0, .ref (ad 0 0)), (1, .int p1), (2, .int v_l2_L5), (3, .int v_l3_L5)] → (∀ (H : Heap) (locs : List Loc), va_P D vwCl ((w_X ad cI cC cS q_L5.2 q3 snap has text q4.1 q4.2 walk) ++ R) H → va_D A ((w_X ad cI cC cS q_L5.2 q3 snap has text q4.1 q4.2 walk) ++ R) → va_S A s.heap H locs → ∀ ls : Array Slot, lv_has ls 4 [(2, .int q_L5.1)] → W p l e (xR 5 133) s m args below meth c H locs 0 0 Q (F0 m 108 ls [])) → W p l e (xR 5 133) s m args below meth c H locs 0 0 Q (F0 m 29 ls []) := by
      intro k
      induction k with
      | zero => intro v_l2_L5 v_l3_L5 v_now_L5 q_L5 hf; simp [f_X6_chooseWell_L29] at hf
      | succ k ih =>
        intro v_l2_L5 v_l3_L5 v_now_L5 q_L5 hf H locs hP hD hS ls hl kx
        rw [f_X6_chooseWell_L29] at hf
        refine lv_iload_n hx hb dX6_chooseWell_29 rfl (lv_at hl 3 rfl) ?_
        refine lv_aload_n hx hb dX6_chooseWell_30 rfl (lv_at hl 0 rfl) ?_
        refine va_get (D := D) (ci := 6) (v := .ref ((ad 1) 0)) (C := RX6) (T := TX6) (N := 8) hx hb hts inw_X6_chooseWell_6 hown hK hP 0 rfl rfl 0 (by decide) (hts (.fieldLink RX6 12 "RingGames" "now" "LRingGames$State;") (List.mem_of_getElem? (i := 2) rfl)) (fun _ h9 => h9) rfl dX6_chooseWell_31 ?_
        refine va_get (D := D) (ci := 4) (v := .ref ((ad 1) 2)) (C := RX4) (T := TX4) (N := 4) hx hb hts inw_X6_chooseWell_4 hown hK hP 1 rfl rfl 0 (by decide) (hts (.fieldLink RX6 65 "RingGames$State" "game" "LRingGames$Game;") (List.mem_of_getElem? (i := 3) rfl)) (fun _ h9 => h9) rfl dX6_chooseWell_34 ?_
        refine va_get (D := D) (ci := 1) (v := .int v_now_L5.1.1) (C := RX1) (T := TX1) (N := 4) hx hb hts inw_X6_chooseWell_1 hown hK hP 3 rfl rfl 0 (by decide) (hts (.fieldLink RX6 68 "RingGames$Game" "size" "I") (List.mem_of_getElem? (i := 4) rfl)) (fun _ h9 => h9) rfl dX6_chooseWell_37 ?_
        refine lv_icmp_ge (tgt := 108) hx hb dX6_chooseWell_40 (by decide) (fun c7 => ?_) (fun c7 => ?_)
        · have hf := if_t hf c7
          have hf := Option.some.inj hf
          subst hf
          exact kx _ _ hP hD hS _ (lv_sub hl [2] rfl)
        · have hf := if_f hf c7
          refine lv_aload_n hx hb dX6_chooseWell_43 rfl (lv_at hl 0 rfl) ?_
          refine va_get (D := D) (ci := 6) (v := .ref ((ad 1) 0)) (C := RX6) (T := TX6) (N := 8) hx hb hts inw_X6_chooseWell_6 hown hK hP 0 rfl rfl 0 (by decide) (hts (.fieldLink RX6 12 "RingGames" "now" "LRingGames$State;") (List.mem_of_getElem? (i := 2) rfl)) (fun _ h9 => h9) rfl dX6_chooseWell_44 ?_
          refine va_get (D := D) (ci := 4) (v := .ref ((ad 1) 2)) (C := RX4) (T := TX4) (N := 4) hx hb hts inw_X6_chooseWell_4 hown hK hP 1 rfl rfl 0 (by decide) (hts (.fieldLink RX6 65 "RingGames$State" "game" "LRingGames$Game;") (List.mem_of_getElem? (i := 3) rfl)) (fun _ h9 => h9) rfl dX6_chooseWell_47 ?_
          refine va_get (D := D) (ci := 1) (v := .ref ((ad 1) 3)) (C := RX1) (T := TX1) (N := 4) hx hb hts inw_X6_chooseWell_1 hown hK hP 3 rfl rfl 1 (by decide) (hts (.fieldLink RX6 83 "RingGames$Game" "owners" "[I") (List.mem_of_getElem? (i := 5) rfl)) (fun _ h9 => h9) rfl dX6_chooseWell_50 ?_
          refine lv_iload_n hx hb dX6_chooseWell_53 rfl (lv_at hl 3 rfl) ?_
          obtain ⟨g8, hf⟩ := vg_some hf
          refine va_iald hx hb hK hP 4 0 rfl rfl g8 dX6_chooseWell_54 ?_
          refine lv_iload_n hx hb dX6_chooseWell_55 rfl (lv_at hl 1 rfl) ?_
          refine lv_icmp_ne (tgt := 102) hx hb dX6_chooseWell_56 (by decide) (fun c9 => ?_) (fun c9 => ?_)
          · have hf := if_f hf c9
            refine lv_iinc (v := (v_l3_L5 + 1)) (lv' := [(3, .int (v_l3_L5 + 1)), (0, .ref (ad 0 0)), (1, .int p1), (2, .int v_l2_L5)]) hx hb dX6_chooseWell_102 hl (k := 3) rfl (congrArg (fun z => v_l3_L5 + z) (by decide)) (by decide) rfl (fun ls hl => ?_)
            refine lv_goto (tgt := 29) hx hb dX6_chooseWell_105 (by decide) ?_
            exact ih v_l2_L5 (v_l3_L5 + 1) v_now_L5 _ hf _ _ hP hD hS _ (lv_sub hl [1, 2, 3, 0] rfl) kx
          · have hf := if_t hf c9
            refine lv_aload_n hx hb dX6_chooseWell_59 rfl (lv_at hl 0 rfl) ?_
            refine va_get (D := D) (ci := 6) (v := .ref ((ad 1) 0)) (C := RX6) (T := TX6) (N := 8) hx hb hts inw_X6_chooseWell_6 hown hK hP 0 rfl rfl 0 (by decide) (hts (.fieldLink RX6 12 "RingGames" "now" "LRingGames$State;") (List.mem_of_getElem? (i := 2) rfl)) (fun _ h9 => h9) rfl dX6_chooseWell_60 ?_
            refine va_get (D := D) (ci := 4) (v := .ref ((ad 1) 1)) (C := RX4) (T := TX4) (N := 4) hx hb hts inw_X6_chooseWell_4 hown hK hP 1 rfl rfl 1 (by decide) (hts (.fieldLink RX6 113 "RingGames$State" "choices" "[I") (List.mem_of_getElem? (i := 6) rfl)) (fun _ h9 => h9) rfl dX6_chooseWell_63 ?_
            refine lv_iload_n hx hb dX6_chooseWell_66 rfl (lv_at hl 3 rfl) ?_
            refine lv_aload_n hx hb dX6_chooseWell_67 rfl (lv_at hl 0 rfl) ?_
            refine va_get (D := D) (ci := 6) (v := .ref ((ad 6) 0)) (C := RX6) (T := TX6) (N := 8) hx hb hts inw_X6_chooseWell_6 hown hK hP 0 rfl rfl 6 (by decide) (hts (.fieldLink RX6 47 "RingGames" "measures" "LRingGames$Measures;") (List.mem_of_getElem? (i := 7) rfl)) (fun _ h9 => h9) rfl dX6_chooseWell_68 ?_
            refine lv_aload_n hx hb dX6_chooseWell_71 rfl (lv_at hl 0 rfl) ?_
            refine va_get (D := D) (ci := 6) (v := .ref ((ad 5) 0)) (C := RX6) (T := TX6) (N := 8) hx hb hts inw_X6_chooseWell_6 hown hK hP 0 rfl rfl 5 (by decide) (hts (.fieldLink RX6 40 "RingGames" "trial" "LRingGames$Game;") (List.mem_of_getElem? (i := 8) rfl)) (fun _ h9 => h9) rfl dX6_chooseWell_72 ?_
            refine lv_iload_n hx hb dX6_chooseWell_75 rfl (lv_at hl 3 rfl) ?_
            obtain ⟨q10, hq10, hf⟩ := ob_some hf
            refine xcVi (w' := ((w_X ad cI cC cS v_now_L5 q3 snap has text q4.1 q4.2 walk) ++ R)) S hK hN hA hP hD hS (c_X3_bestArrow l D cI cC cS ((xr 50 [45, 46, 47, 41, 42, 43, 44]).filterMap (fun i => (w_X ad cI cC cS v_now_L5 q3 snap has text q4.1 q4.2 walk)[i]?) ++ R) (ad 6) (ad 5) q4.2 q4.1 v_l3_L5 n _ hq10) gX6_chooseWell_X3_bestArrow rfl hd_X3_bestArrow ⟨by decide, by decide⟩ (x_cut (pre := (w_X ad cI cC cS v_now_L5 q3 snap has text q4.1 q4.2 walk)) [45, 46, 47, 41, 42, 43, 44] 50 rfl (by decide +kernel) rfl) (x_cut (pre := (w_X ad cI cC cS v_now_L5 q3 snap has text q4.1 q4.2 walk)) [45, 46, 47, 41, 42, 43, 44] 50 rfl (by decide +kernel) rfl).symm (ci := 3) (q := (RX3, TX3, 3)) rfl rfl rfl rfl hl.1 rfl (Nat.le_of_ble_eq_true rfl) dX6_chooseWell_76 ⟨Nat.zero_le _, Nat.zero_le _⟩ (fun H locs hP hD hS => ?_)
            refine va_iast hx hb hK hP hD hS 2 0 rfl rfl g8 dX6_chooseWell_79 (fun H locs hP hD hS => ?_)
            have hP : va_P D vwCl ((w_X ad cI cC cS (v_now_L5.1, (upd v_now_L5.2.1 (v_l3_L5).toNatClampNeg q10), v_now_L5.2.2.1, v_now_L5.2.2.2) q3 snap has text q4.1 q4.2 walk) ++ R) H := hP
            have hD : va_D A ((w_X ad cI cC cS (v_now_L5.1, (upd v_now_L5.2.1 (v_l3_L5).toNatClampNeg q10), v_now_L5.2.2.1, v_now_L5.2.2.2) q3 snap has text q4.1 q4.2 walk) ++ R) := hD
            refine lv_iload_n hx hb dX6_chooseWell_80 rfl (lv_at hl 2 rfl) ?_
            refine lv_aload_n hx hb dX6_chooseWell_81 rfl (lv_at hl 0 rfl) ?_
            refine va_get (D := D) (ci := 6) (v := .ref ((ad 1) 0)) (C := RX6) (T := TX6) (N := 8) hx hb hts inw_X6_chooseWell_6 hown hK hP 0 rfl rfl 0 (by decide) (hts (.fieldLink RX6 12 "RingGames" "now" "LRingGames$State;") (List.mem_of_getElem? (i := 2) rfl)) (fun _ h9 => h9) rfl dX6_chooseWell_82 ?_
            refine va_get (D := D) (ci := 4) (v := .ref ((ad 1) 1)) (C := RX4) (T := TX4) (N := 4) hx hb hts inw_X6_chooseWell_4 hown hK hP 1 rfl rfl 1 (by decide) (hts (.fieldLink RX6 113 "RingGames$State" "choices" "[I") (List.mem_of_getElem? (i := 6) rfl)) (fun _ h9 => h9) rfl dX6_chooseWell_85 ?_
            refine lv_iload_n hx hb dX6_chooseWell_88 rfl (lv_at hl 3 rfl) ?_
            refine va_iald hx hb hK hP 2 0 rfl rfl g8 dX6_chooseWell_89 ?_
            refine lv_bipush (v := 14) hx hb dX6_chooseWell_90 (by decide) ?_
            refine lv_icmp_ne (tgt := 99) hx hb dX6_chooseWell_92 (by decide) (fun c11 => ?_) (fun c11 => ?_)
            · have hf := if_f hf c11
              refine lv_iconst (v := 1) hx hb dX6_chooseWell_99 (by decide) ?_
              refine lv_iadd hx hb dX6_chooseWell_100 ?_
              refine lv_istore_n (lv' := [(2, .int (v_l2_L5 + 1)), (0, .ref (ad 0 0)), (1, .int p1), (3, .int v_l3_L5)]) hx hb dX6_chooseWell_101 rfl hl (by decide) rfl (fun ls hl => ?_)
              refine lv_iinc (v := (v_l3_L5 + 1)) (lv' := [(3, .int (v_l3_L5 + 1)), (2, .int (v_l2_L5 + 1)), (0, .ref (ad 0 0)), (1, .int p1)]) hx hb dX6_chooseWell_102 hl (k := 3) rfl (congrArg (fun z => v_l3_L5 + z) (by decide)) (by decide) rfl (fun ls hl => ?_)
              refine lv_goto (tgt := 29) hx hb dX6_chooseWell_105 (by decide) ?_
              exact ih (v_l2_L5 + 1) (v_l3_L5 + 1) (v_now_L5.1, (upd v_now_L5.2.1 (v_l3_L5).toNatClampNeg q10), v_now_L5.2.2.1, v_now_L5.2.2.2) _ hf _ _ hP hD hS _ (lv_sub hl [2, 3, 1, 0] rfl) kx
            · have hf := if_t hf c11
              refine lv_iconst (v := 0) hx hb dX6_chooseWell_95 (by decide) ?_
              refine lv_goto (tgt := 100) hx hb dX6_chooseWell_96 (by decide) ?_
              refine lv_iadd hx hb dX6_chooseWell_100 ?_
              refine lv_istore_n (lv' := [(2, .int (v_l2_L5 + 0)), (0, .ref (ad 0 0)), (1, .int p1), (3, .int v_l3_L5)]) hx hb dX6_chooseWell_101 rfl hl (by decide) rfl (fun ls hl => ?_)
              refine lv_iinc (v := (v_l3_L5 + 1)) (lv' := [(3, .int (v_l3_L5 + 1)), (2, .int (v_l2_L5 + 0)), (0, .ref (ad 0 0)), (1, .int p1)]) hx hb dX6_chooseWell_102 hl (k := 3) rfl (congrArg (fun z => v_l3_L5 + z) (by decide)) (by decide) rfl (fun ls hl => ?_)
              refine lv_goto (tgt := 29) hx hb dX6_chooseWell_105 (by decide) ?_
              exact ih (v_l2_L5 + 0) (v_l3_L5 + 1) (v_now_L5.1, (upd v_now_L5.2.1 (v_l3_L5).toNatClampNeg q10), v_now_L5.2.2.1, v_now_L5.2.2.2) _ hf _ _ hP hD hS _ (lv_sub hl [2, 3, 1, 0] rfl) kx
    refine L5 n 0 0 now q6 hq6 _ _ hP hD hS _ (lv_sub hl [2, 3, 1, 0] rfl) ?_
    clear hP hD hS hl
    intro H locs hP hD hS ls hl
    refine lv_iload_n hx hb dX6_chooseWell_108 rfl (lv_at hl 0 rfl) ?_
    have hf := Option.some.inj hf
    subst hf
    exact hret _ _ _ _ _ dX6_chooseWell_109 rfl hP hD hS rfl
  · have hf := if_t hf c2
    refine lv_iconst (v := (-1)) hx hb dX6_chooseWell_7 (by decide) ?_
    have hf := Option.some.inj hf
    subst hf
    exact hret _ _ _ _ _ dX6_chooseWell_8 rfl hP hD hS rfl
def f_X6_winnerOf (n : Nat) (now : SS) (trial : GG) (meas : EE) (p1 : Int32) : Option (Int32 × GG × EE) := (f_X6_solveFor n now trial meas 0).bind fun q1 => (f_X3_winner q1.2 p1).bind fun q2 => some (q2, q1.1, q1.2)
theorem inw_X6_winnerOf_6 : ∀ w ∈ wsX60, w ∈ wsX6_winnerOf := fun _ h => List.mem_cons_of_mem _ (List.mem_append_left _ (List.mem_append_left _ (List.mem_append_left _ (List.mem_append_right _ h))))
theorem hd_X6_winnerOf : yX6_winnerOf.cls = RX6 ∧ yX6_winnerOf.cls ≠ "java/lang/invoke/MethodHandle" ∧ yX6_winnerOf.cls ≠ "java/lang/invoke/VarHandle" ∧ (parseMethodDescriptor yX6_winnerOf.desc).map (fun d => d.parameters.length) = some 1 := by decide +kernel
set_option maxHeartbeats 4000000 in
set_option maxRecDepth 100000 in
theorem c_X6_winnerOf (l : Launch) (D : va_G) (cI cC cS : ClassId) (R : va_W) (ad : Nat → Nat → Nat) (now : SS) (hist : HH) (snap : SS) (has : Int32) (text : TT) (trial : GG) (meas : EE) (walk : KK) (p1 : Int32) (n : Nat) (r : Int32 × GG × EE) (hf : f_X6_winnerOf n now trial meas p1 = some r) : CI l yX6_winnerOf wsX6_winnerOf 5 133 D cI cC cS [.ref (ad 0 0), .int p1] ((w_X ad cI cC cS now hist snap has text trial meas walk) ++ R) r.1 ((w_X ad cI cC cS now hist snap has text r.2.1 r.2.2 walk) ++ R) := by
  refine XI.of (cc := cX6_winnerOf) (maxL := 2) (ty := .int) (own := RX6) (by decide) rfl rfl (Nat.le_of_ble_eq_true rfl) ?_
  intro p e s m args below meth c A Q S hK hN hA hP hD hS ls hl hret
  obtain ⟨hx, hb, hml, hown, hts⟩ := id S
  have hl : lv_has ls 2 [(0, .ref (ad 0 0)), (1, .int p1)] := hl
  unfold f_X6_winnerOf at hf
  refine lv_aload_n hx hb dX6_winnerOf_0 rfl (lv_at hl 0 rfl) ?_
  refine lv_iconst (v := 0) hx hb dX6_winnerOf_1 (by decide) ?_
  obtain ⟨q1, hq1, hf⟩ := ob_some hf
  refine xcVv (w' := ((w_X ad cI cC cS now hist snap has text q1.1 q1.2 walk) ++ R)) S hK hN hA hP hD hS (c_X6_solveFor l D cI cC cS R ad now hist snap has text trial meas walk 0 n _ hq1) gX6_winnerOf_X6_solveFor rfl hd_X6_solveFor ⟨by decide, by decide⟩ (List.Perm.refl _) (List.Perm.refl _) (ci := 6) (q := (RX6, TX6, 8)) rfl rfl rfl rfl hl.1 rfl (Nat.le_of_ble_eq_true rfl) dX6_winnerOf_2 ⟨Nat.zero_le _, Nat.zero_le _⟩ (fun H locs hP hD hS => ?_)
  refine lv_aload_n hx hb dX6_winnerOf_5 rfl (lv_at hl 0 rfl) ?_
  refine va_get (D := D) (ci := 6) (v := .ref ((ad 6) 0)) (C := RX6) (T := TX6) (N := 8) hx hb hts inw_X6_winnerOf_6 hown hK hP 0 rfl rfl 6 (by decide) (hts (.fieldLink RX6 47 "RingGames" "measures" "LRingGames$Measures;") (List.mem_of_getElem? (i := 1) rfl)) (fun _ h9 => h9) rfl dX6_winnerOf_6 ?_
  refine lv_iload_n hx hb dX6_winnerOf_9 rfl (lv_at hl 1 rfl) ?_
  obtain ⟨q2, hq2, hf⟩ := ob_some hf
  refine xcVi (w' := ((w_X ad cI cC cS now hist snap has text q1.1 q1.2 walk) ++ R)) S hK hN hA hP hD hS (c_X3_winner l D cI cC cS ((xr 50 [45, 46, 47]).filterMap (fun i => (w_X ad cI cC cS now hist snap has text q1.1 q1.2 walk)[i]?) ++ R) (ad 6) q1.2 p1 _ hq2) gX6_winnerOf_X3_winner rfl hd_X3_winner ⟨by decide, by decide⟩ (x_cut (pre := (w_X ad cI cC cS now hist snap has text q1.1 q1.2 walk)) [45, 46, 47] 50 rfl (by decide +kernel) rfl) (x_cut (pre := (w_X ad cI cC cS now hist snap has text q1.1 q1.2 walk)) [45, 46, 47] 50 rfl (by decide +kernel) rfl).symm (ci := 3) (q := (RX3, TX3, 3)) rfl rfl rfl rfl hl.1 rfl (Nat.le_of_ble_eq_true rfl) dX6_winnerOf_10 ⟨Nat.zero_le _, Nat.zero_le _⟩ (fun H locs hP hD hS => ?_)
  have hf := Option.some.inj hf
  subst hf
  exact hret _ _ _ _ _ dX6_winnerOf_13 rfl hP hD hS rfl
def f_X6_start (n : Nat) (now : SS) (hist : HH) (trial : GG) (meas : EE) (p1 : Int32) : Option (Int32 × SS × HH × GG × EE) := (f_X1_has now.1 p1).bind fun q1 => (if q1 = 0 then some ((-1), now, hist, trial, meas) else (f_X2_remember hist now).bind fun q3 => (f_X6_winnerOf n (now.1, now.2.1, p1, 0) trial meas p1).bind fun q4 => some (q4.1, (now.1, now.2.1, p1, 0), q3, q4.2.1, q4.2.2))
theorem inw_X6_start_4 : ∀ w ∈ wsX40, w ∈ wsX6_start := fun _ h => List.mem_cons_of_mem _ (List.mem_append_left _ (List.mem_append_left _ (List.mem_append_left _ (List.mem_append_right _ h))))
theorem inw_X6_start_6 : ∀ w ∈ wsX60, w ∈ wsX6_start := fun _ h => List.mem_cons_of_mem _ (List.mem_append_left _ (List.mem_append_left _ (List.mem_append_left _ (List.mem_append_left _ (List.mem_append_right _ h)))))
theorem hd_X6_start : yX6_start.cls = RX6 ∧ yX6_start.cls ≠ "java/lang/invoke/MethodHandle" ∧ yX6_start.cls ≠ "java/lang/invoke/VarHandle" ∧ (parseMethodDescriptor yX6_start.desc).map (fun d => d.parameters.length) = some 1 := by decide +kernel
set_option maxHeartbeats 4000000 in
set_option maxRecDepth 100000 in
theorem c_X6_start (l : Launch) (D : va_G) (cI cC cS : ClassId) (R : va_W) (ad : Nat → Nat → Nat) (now : SS) (hist : HH) (snap : SS) (has : Int32) (text : TT) (trial : GG) (meas : EE) (walk : KK) (p1 : Int32) (n : Nat) (r : Int32 × SS × HH × GG × EE) (hf : f_X6_start n now hist trial meas p1 = some r) : CI l yX6_start wsX6_start 6 154 D cI cC cS [.ref (ad 0 0), .int p1] ((w_X ad cI cC cS now hist snap has text trial meas walk) ++ R) r.1 ((w_X ad cI cC cS r.2.1 r.2.2.1 snap has text r.2.2.2.1 r.2.2.2.2 walk) ++ R) := by
  refine XI.of (cc := cX6_start) (maxL := 2) (ty := .int) (own := RX6) (by decide) rfl rfl (Nat.le_of_ble_eq_true rfl) ?_
  intro p e s m args below meth c A Q S hK hN hA hP hD hS ls hl hret
  obtain ⟨hx, hb, hml, hown, hts⟩ := id S
  have hl : lv_has ls 2 [(0, .ref (ad 0 0)), (1, .int p1)] := hl
  unfold f_X6_start at hf
  refine lv_aload_n hx hb dX6_start_0 rfl (lv_at hl 0 rfl) ?_
  refine va_get (D := D) (ci := 6) (v := .ref ((ad 1) 0)) (C := RX6) (T := TX6) (N := 8) hx hb hts inw_X6_start_6 hown hK hP 0 rfl rfl 0 (by decide) (hts (.fieldLink RX6 12 "RingGames" "now" "LRingGames$State;") (List.mem_of_getElem? (i := 1) rfl)) (fun _ h9 => h9) rfl dX6_start_1 ?_
  refine va_get (D := D) (ci := 4) (v := .ref ((ad 1) 2)) (C := RX4) (T := TX4) (N := 4) hx hb hts inw_X6_start_4 hown hK hP 1 rfl rfl 0 (by decide) (hts (.fieldLink RX6 65 "RingGames$State" "game" "LRingGames$Game;") (List.mem_of_getElem? (i := 2) rfl)) (fun _ h9 => h9) rfl dX6_start_4 ?_
  refine lv_iload_n hx hb dX6_start_7 rfl (lv_at hl 1 rfl) ?_
  obtain ⟨q1, hq1, hf⟩ := ob_some hf
  refine xcVi (w' := ((w_X ad cI cC cS now hist snap has text trial meas walk) ++ R)) S hK hN hA hP hD hS (c_X1_has l D cI cC cS ((xr 50 [3, 4, 5, 6]).filterMap (fun i => (w_X ad cI cC cS now hist snap has text trial meas walk)[i]?) ++ R) (fun k => (ad 1) (k + 2)) now.1 p1 _ hq1) gX6_start_X1_has rfl hd_X1_has ⟨by decide, by decide⟩ (x_cut (pre := (w_X ad cI cC cS now hist snap has text trial meas walk)) [3, 4, 5, 6] 50 rfl (by decide +kernel) rfl) (x_cut (pre := (w_X ad cI cC cS now hist snap has text trial meas walk)) [3, 4, 5, 6] 50 rfl (by decide +kernel) rfl).symm (ci := 1) (q := (RX1, TX1, 4)) rfl rfl rfl rfl hl.1 rfl (Nat.le_of_ble_eq_true rfl) dX6_start_8 ⟨Nat.zero_le _, Nat.zero_le _⟩ (fun H locs hP hD hS => ?_)
  refine lv_if_ne (tgt := 16) hx hb dX6_start_11 (by decide) (fun c2 => ?_) (fun c2 => ?_)
  · have hf := if_f hf c2
    refine lv_aload_n hx hb dX6_start_16 rfl (lv_at hl 0 rfl) ?_
    refine va_get (D := D) (ci := 6) (v := .ref ((ad 2) 0)) (C := RX6) (T := TX6) (N := 8) hx hb hts inw_X6_start_6 hown hK hP 0 rfl rfl 1 (by decide) (hts (.fieldLink RX6 19 "RingGames" "history" "LRingGames$History;") (List.mem_of_getElem? (i := 3) rfl)) (fun _ h9 => h9) rfl dX6_start_17 ?_
    refine lv_aload_n hx hb dX6_start_20 rfl (lv_at hl 0 rfl) ?_
    refine va_get (D := D) (ci := 6) (v := .ref ((ad 1) 0)) (C := RX6) (T := TX6) (N := 8) hx hb hts inw_X6_start_6 hown hK hP 0 rfl rfl 0 (by decide) (hts (.fieldLink RX6 12 "RingGames" "now" "LRingGames$State;") (List.mem_of_getElem? (i := 1) rfl)) (fun _ h9 => h9) rfl dX6_start_21 ?_
    obtain ⟨q3, hq3, hf⟩ := ob_some hf
    refine xcVv (w' := ((w_X ad cI cC cS now q3 snap has text trial meas walk) ++ R)) S hK hN hA hP hD hS (c_X2_remember l D cI cC cS ((xr 50 [7, 8, 9, 10, 11, 12, 13, 14, 15, 16, 17, 18, 19, 20, 21, 22, 23, 24, 25, 26, 27, 28, 29, 30, 31, 32, 1, 2, 3, 4, 5, 6]).filterMap (fun i => (w_X ad cI cC cS now hist snap has text trial meas walk)[i]?) ++ R) (ad 2) (ad 1) hist now _ hq3) gX6_start_X2_remember rfl hd_X2_remember ⟨by decide, by decide⟩ (x_cut (pre := (w_X ad cI cC cS now hist snap has text trial meas walk)) [7, 8, 9, 10, 11, 12, 13, 14, 15, 16, 17, 18, 19, 20, 21, 22, 23, 24, 25, 26, 27, 28, 29, 30, 31, 32, 1, 2, 3, 4, 5, 6] 50 rfl (by decide +kernel) rfl) (x_back (pre := (w_X ad cI cC cS now hist snap has text trial meas walk)) [7, 8, 9, 10, 11, 12, 13, 14, 15, 16, 17, 18, 19, 20, 21, 22, 23, 24, 25, 26, 27, 28, 29, 30, 31, 32, 1, 2, 3, 4, 5, 6] 50 rfl (by decide +kernel) rfl rfl) (ci := 2) (q := (RX2, TX2, 2)) rfl rfl rfl rfl hl.1 rfl (Nat.le_of_ble_eq_true rfl) dX6_start_24 ⟨Nat.zero_le _, Nat.zero_le _⟩ (fun H locs hP hD hS => ?_)
    refine lv_aload_n hx hb dX6_start_27 rfl (lv_at hl 0 rfl) ?_
    refine va_get (D := D) (ci := 6) (v := .ref ((ad 1) 0)) (C := RX6) (T := TX6) (N := 8) hx hb hts inw_X6_start_6 hown hK hP 0 rfl rfl 0 (by decide) (hts (.fieldLink RX6 12 "RingGames" "now" "LRingGames$State;") (List.mem_of_getElem? (i := 1) rfl)) (fun _ h9 => h9) rfl dX6_start_28 ?_
    refine lv_iload_n hx hb dX6_start_31 rfl (lv_at hl 1 rfl) ?_
    refine va_put (D := D) (ci := 4) (v := .int p1) (ty := .int) (C := RX4) (T := TX4) (N := 4) hx hb hts inw_X6_start_4 tyX4 tyX4_ok nmX4 hown hK hP hD hS 1 rfl rfl 2 (by decide) (hts (.fieldLink RX6 141 "RingGames$State" "tokenAt" "I") (List.mem_of_getElem? (i := 4) rfl)) (fun _ h9 => h9) rfl (tyX4_ok 2 (by decide)) rfl rfl (Nat.le_of_ble_eq_true rfl) dX6_start_32 (fun H locs hP hD hS => ?_)
    have hP : va_P D vwCl ((w_X ad cI cC cS (now.1, now.2.1, p1, now.2.2.2) q3 snap has text trial meas walk) ++ R) H := hP
    have hD : va_D A ((w_X ad cI cC cS (now.1, now.2.1, p1, now.2.2.2) q3 snap has text trial meas walk) ++ R) := hD
    refine lv_aload_n hx hb dX6_start_35 rfl (lv_at hl 0 rfl) ?_
    refine va_get (D := D) (ci := 6) (v := .ref ((ad 1) 0)) (C := RX6) (T := TX6) (N := 8) hx hb hts inw_X6_start_6 hown hK hP 0 rfl rfl 0 (by decide) (hts (.fieldLink RX6 12 "RingGames" "now" "LRingGames$State;") (List.mem_of_getElem? (i := 1) rfl)) (fun _ h9 => h9) rfl dX6_start_36 ?_
    refine lv_iconst (v := 0) hx hb dX6_start_39 (by decide) ?_
    refine va_put (D := D) (ci := 4) (v := .int 0) (ty := .int) (C := RX4) (T := TX4) (N := 4) hx hb hts inw_X6_start_4 tyX4 tyX4_ok nmX4 hown hK hP hD hS 1 rfl rfl 3 (by decide) (hts (.fieldLink RX6 144 "RingGames$State" "tokenSteps" "I") (List.mem_of_getElem? (i := 5) rfl)) (fun _ h9 => h9) rfl (tyX4_ok 3 (by decide)) rfl rfl (Nat.le_of_ble_eq_true rfl) dX6_start_40 (fun H locs hP hD hS => ?_)
    have hP : va_P D vwCl ((w_X ad cI cC cS (now.1, now.2.1, p1, 0) q3 snap has text trial meas walk) ++ R) H := hP
    have hD : va_D A ((w_X ad cI cC cS (now.1, now.2.1, p1, 0) q3 snap has text trial meas walk) ++ R) := hD
    refine lv_aload_n hx hb dX6_start_43 rfl (lv_at hl 0 rfl) ?_
    refine lv_iload_n hx hb dX6_start_44 rfl (lv_at hl 1 rfl) ?_
    obtain ⟨q4, hq4, hf⟩ := ob_some hf
    refine xcVi (w' := ((w_X ad cI cC cS (now.1, now.2.1, p1, 0) q3 snap has text q4.2.1 q4.2.2 walk) ++ R)) S hK hN hA hP hD hS (c_X6_winnerOf l D cI cC cS R ad (now.1, now.2.1, p1, 0) q3 snap has text trial meas walk p1 n _ hq4) gX6_start_X6_winnerOf rfl hd_X6_winnerOf ⟨by decide, by decide⟩ (List.Perm.refl _) (List.Perm.refl _) (ci := 6) (q := (RX6, TX6, 8)) rfl rfl rfl rfl hl.1 rfl (Nat.le_of_ble_eq_true rfl) dX6_start_45 ⟨Nat.zero_le _, Nat.zero_le _⟩ (fun H locs hP hD hS => ?_)
    have hf := Option.some.inj hf
    subst hf
    exact hret _ _ _ _ _ dX6_start_48 rfl hP hD hS rfl
  · have hf := if_t hf c2
    refine lv_iconst (v := (-1)) hx hb dX6_start_14 (by decide) ?_
    have hf := Option.some.inj hf
    subst hf
    exact hret _ _ _ _ _ dX6_start_15 rfl hP hD hS rfl
def f_X6_wayOn (n : Nat) (now : SS) (trial : GG) (meas : EE) (p1 : Int32) : Option Int32 := vg p1 14 ((if (now.2.1 (p1).toNatClampNeg) = 14 then (f_X3_bestArrow n meas trial p1).bind fun q3 => (if q3 = 14 then (f_X1_lowestArrow n now.1 p1).bind fun q5 => some (q5) else some (q3)) else some ((now.2.1 (p1).toNatClampNeg))))
theorem inw_X6_wayOn_4 : ∀ w ∈ wsX40, w ∈ wsX6_wayOn := fun _ h => List.mem_cons_of_mem _ (List.mem_append_left _ (List.mem_append_left _ (List.mem_append_right _ h)))
theorem inw_X6_wayOn_6 : ∀ w ∈ wsX60, w ∈ wsX6_wayOn := fun _ h => List.mem_cons_of_mem _ (List.mem_append_left _ (List.mem_append_left _ (List.mem_append_left _ (List.mem_append_right _ h))))
theorem hd_X6_wayOn : yX6_wayOn.cls = RX6 ∧ yX6_wayOn.cls ≠ "java/lang/invoke/MethodHandle" ∧ yX6_wayOn.cls ≠ "java/lang/invoke/VarHandle" ∧ (parseMethodDescriptor yX6_wayOn.desc).map (fun d => d.parameters.length) = some 1 := by decide +kernel
set_option maxHeartbeats 4000000 in
set_option maxRecDepth 100000 in
theorem c_X6_wayOn (l : Launch) (D : va_G) (cI cC cS : ClassId) (R : va_W) (ad : Nat → Nat → Nat) (now : SS) (hist : HH) (snap : SS) (has : Int32) (text : TT) (trial : GG) (meas : EE) (walk : KK) (p1 : Int32) (n : Nat) (r : Int32) (hf : f_X6_wayOn n now trial meas p1 = some r) : CI l yX6_wayOn wsX6_wayOn 3 69 D cI cC cS [.ref (ad 0 0), .int p1] ((w_X ad cI cC cS now hist snap has text trial meas walk) ++ R) r ((w_X ad cI cC cS now hist snap has text trial meas walk) ++ R) := by
  refine XI.of (cc := cX6_wayOn) (maxL := 3) (ty := .int) (own := RX6) (by decide) rfl rfl (Nat.le_of_ble_eq_true rfl) ?_
  intro p e s m args below meth c A Q S hK hN hA hP hD hS ls hl hret
  obtain ⟨hx, hb, hml, hown, hts⟩ := id S
  have hl : lv_has ls 3 [(0, .ref (ad 0 0)), (1, .int p1)] := hl
  unfold f_X6_wayOn at hf
  refine lv_aload_n hx hb dX6_wayOn_0 rfl (lv_at hl 0 rfl) ?_
  refine va_get (D := D) (ci := 6) (v := .ref ((ad 1) 0)) (C := RX6) (T := TX6) (N := 8) hx hb hts inw_X6_wayOn_6 hown hK hP 0 rfl rfl 0 (by decide) (hts (.fieldLink RX6 12 "RingGames" "now" "LRingGames$State;") (List.mem_of_getElem? (i := 1) rfl)) (fun _ h9 => h9) rfl dX6_wayOn_1 ?_
  refine va_get (D := D) (ci := 4) (v := .ref ((ad 1) 1)) (C := RX4) (T := TX4) (N := 4) hx hb hts inw_X6_wayOn_4 hown hK hP 1 rfl rfl 1 (by decide) (hts (.fieldLink RX6 113 "RingGames$State" "choices" "[I") (List.mem_of_getElem? (i := 2) rfl)) (fun _ h9 => h9) rfl dX6_wayOn_4 ?_
  refine lv_iload_n hx hb dX6_wayOn_7 rfl (lv_at hl 1 rfl) ?_
  obtain ⟨g1, hf⟩ := vg_some hf
  refine va_iald hx hb hK hP 2 0 rfl rfl g1 dX6_wayOn_8 ?_
  refine lv_bipush (v := 14) hx hb dX6_wayOn_9 (by decide) ?_
  refine lv_icmp_eq (tgt := 24) hx hb dX6_wayOn_11 (by decide) (fun c2 => ?_) (fun c2 => ?_)
  · have hf := if_t hf c2
    refine lv_aload_n hx hb dX6_wayOn_24 rfl (lv_at hl 0 rfl) ?_
    refine va_get (D := D) (ci := 6) (v := .ref ((ad 6) 0)) (C := RX6) (T := TX6) (N := 8) hx hb hts inw_X6_wayOn_6 hown hK hP 0 rfl rfl 6 (by decide) (hts (.fieldLink RX6 47 "RingGames" "measures" "LRingGames$Measures;") (List.mem_of_getElem? (i := 3) rfl)) (fun _ h9 => h9) rfl dX6_wayOn_25 ?_
    refine lv_aload_n hx hb dX6_wayOn_28 rfl (lv_at hl 0 rfl) ?_
    refine va_get (D := D) (ci := 6) (v := .ref ((ad 5) 0)) (C := RX6) (T := TX6) (N := 8) hx hb hts inw_X6_wayOn_6 hown hK hP 0 rfl rfl 5 (by decide) (hts (.fieldLink RX6 40 "RingGames" "trial" "LRingGames$Game;") (List.mem_of_getElem? (i := 4) rfl)) (fun _ h9 => h9) rfl dX6_wayOn_29 ?_
    refine lv_iload_n hx hb dX6_wayOn_32 rfl (lv_at hl 1 rfl) ?_
    obtain ⟨q3, hq3, hf⟩ := ob_some hf
    refine xcVi (w' := ((w_X ad cI cC cS now hist snap has text trial meas walk) ++ R)) S hK hN hA hP hD hS (c_X3_bestArrow l D cI cC cS ((xr 50 [45, 46, 47, 41, 42, 43, 44]).filterMap (fun i => (w_X ad cI cC cS now hist snap has text trial meas walk)[i]?) ++ R) (ad 6) (ad 5) meas trial p1 n _ hq3) gX6_wayOn_X3_bestArrow rfl hd_X3_bestArrow ⟨by decide, by decide⟩ (x_cut (pre := (w_X ad cI cC cS now hist snap has text trial meas walk)) [45, 46, 47, 41, 42, 43, 44] 50 rfl (by decide +kernel) rfl) (x_cut (pre := (w_X ad cI cC cS now hist snap has text trial meas walk)) [45, 46, 47, 41, 42, 43, 44] 50 rfl (by decide +kernel) rfl).symm (ci := 3) (q := (RX3, TX3, 3)) rfl rfl rfl rfl hl.1 rfl (Nat.le_of_ble_eq_true rfl) dX6_wayOn_33 ⟨Nat.zero_le _, Nat.zero_le _⟩ (fun H locs hP hD hS => ?_)
    refine lv_istore_n (lv' := [(2, .int q3), (0, .ref (ad 0 0)), (1, .int p1)]) hx hb dX6_wayOn_36 rfl hl (by decide) rfl (fun ls hl => ?_)
    refine lv_iload_n hx hb dX6_wayOn_37 rfl (lv_at hl 0 rfl) ?_
    refine lv_bipush (v := 14) hx hb dX6_wayOn_38 (by decide) ?_
    refine lv_icmp_eq (tgt := 47) hx hb dX6_wayOn_40 (by decide) (fun c4 => ?_) (fun c4 => ?_)
    · have hf := if_t hf c4
      refine lv_aload_n hx hb dX6_wayOn_47 rfl (lv_at hl 1 rfl) ?_
      refine va_get (D := D) (ci := 6) (v := .ref ((ad 1) 0)) (C := RX6) (T := TX6) (N := 8) hx hb hts inw_X6_wayOn_6 hown hK hP 0 rfl rfl 0 (by decide) (hts (.fieldLink RX6 12 "RingGames" "now" "LRingGames$State;") (List.mem_of_getElem? (i := 1) rfl)) (fun _ h9 => h9) rfl dX6_wayOn_48 ?_
      refine va_get (D := D) (ci := 4) (v := .ref ((ad 1) 2)) (C := RX4) (T := TX4) (N := 4) hx hb hts inw_X6_wayOn_4 hown hK hP 1 rfl rfl 0 (by decide) (hts (.fieldLink RX6 65 "RingGames$State" "game" "LRingGames$Game;") (List.mem_of_getElem? (i := 5) rfl)) (fun _ h9 => h9) rfl dX6_wayOn_51 ?_
      refine lv_iload_n hx hb dX6_wayOn_54 rfl (lv_at hl 2 rfl) ?_
      obtain ⟨q5, hq5, hf⟩ := ob_some hf
      refine xcVi (w' := ((w_X ad cI cC cS now hist snap has text trial meas walk) ++ R)) S hK hN hA hP hD hS (c_X1_lowestArrow l D cI cC cS ((xr 50 [3, 4, 5, 6]).filterMap (fun i => (w_X ad cI cC cS now hist snap has text trial meas walk)[i]?) ++ R) (fun k => (ad 1) (k + 2)) now.1 p1 n _ hq5) gX6_wayOn_X1_lowestArrow rfl hd_X1_lowestArrow ⟨by decide, by decide⟩ (x_cut (pre := (w_X ad cI cC cS now hist snap has text trial meas walk)) [3, 4, 5, 6] 50 rfl (by decide +kernel) rfl) (x_cut (pre := (w_X ad cI cC cS now hist snap has text trial meas walk)) [3, 4, 5, 6] 50 rfl (by decide +kernel) rfl).symm (ci := 1) (q := (RX1, TX1, 4)) rfl rfl rfl rfl hl.1 rfl (Nat.le_of_ble_eq_true rfl) dX6_wayOn_55 ⟨Nat.zero_le _, Nat.zero_le _⟩ (fun H locs hP hD hS => ?_)
      have hf := Option.some.inj hf
      subst hf
      exact hret _ _ _ _ _ dX6_wayOn_58 rfl hP hD hS rfl
    · have hf := if_f hf c4
      refine lv_iload_n hx hb dX6_wayOn_43 rfl (lv_at hl 0 rfl) ?_
      refine lv_goto (tgt := 58) hx hb dX6_wayOn_44 (by decide) ?_
      have hf := Option.some.inj hf
      subst hf
      exact hret _ _ _ _ _ dX6_wayOn_58 rfl hP hD hS rfl
  · have hf := if_f hf c2
    refine lv_aload_n hx hb dX6_wayOn_14 rfl (lv_at hl 0 rfl) ?_
    refine va_get (D := D) (ci := 6) (v := .ref ((ad 1) 0)) (C := RX6) (T := TX6) (N := 8) hx hb hts inw_X6_wayOn_6 hown hK hP 0 rfl rfl 0 (by decide) (hts (.fieldLink RX6 12 "RingGames" "now" "LRingGames$State;") (List.mem_of_getElem? (i := 1) rfl)) (fun _ h9 => h9) rfl dX6_wayOn_15 ?_
    refine va_get (D := D) (ci := 4) (v := .ref ((ad 1) 1)) (C := RX4) (T := TX4) (N := 4) hx hb hts inw_X6_wayOn_4 hown hK hP 1 rfl rfl 1 (by decide) (hts (.fieldLink RX6 113 "RingGames$State" "choices" "[I") (List.mem_of_getElem? (i := 2) rfl)) (fun _ h9 => h9) rfl dX6_wayOn_18 ?_
    refine lv_iload_n hx hb dX6_wayOn_21 rfl (lv_at hl 1 rfl) ?_
    refine va_iald hx hb hK hP 2 0 rfl rfl g1 dX6_wayOn_22 ?_
    have hf := Option.some.inj hf
    subst hf
    exact hret _ _ _ _ _ dX6_wayOn_23 rfl hP hD hS rfl
def f_X6_findWays_L14 (n : Nat) (d_now : SS) (d_trial : GG) (d_meas : EE) (d_l1 : Int32) : Nat → Int32 → KK → Option KK
  | 0, _, _ => none
  | k + 1, d_l2, d_walk => (if d_now.1.1 ≤ d_l2 then some (d_walk) else vg d_l2 14 ((if (d_now.1.2.1 (d_l2).toNatClampNeg) = d_l1 then (f_X6_wayOn n d_now d_trial d_meas d_l2).bind fun q6 => f_X6_findWays_L14 n d_now d_trial d_meas d_l1 k (d_l2 + 1) ((upd d_walk.1 (d_l2).toNatClampNeg q6), d_walk.2.1, d_walk.2.2.1, d_walk.2.2.2) else f_X6_findWays_L14 n d_now d_trial d_meas d_l1 k (d_l2 + 1) d_walk)))
def f_X6_findWays_L2 (n : Nat) (d_now : SS) : Nat → Int32 → GG → EE → KK → Option (GG × EE × KK)
  | 0, _, _, _, _ => none
  | k + 1, d_l1, d_trial, d_meas, d_walk => (if 1 < d_l1 then some (d_trial, d_meas, d_walk) else (f_X6_solveFor n d_now d_trial d_meas d_l1).bind fun q2 => (f_X6_findWays_L14 n d_now q2.1 q2.2 d_l1 n 0 d_walk).bind fun q4 => f_X6_findWays_L2 n d_now k (d_l1 + 1) q2.1 q2.2 q4)
def f_X6_findWays (n : Nat) (now : SS) (trial : GG) (meas : EE) (walk : KK) : Option (GG × EE × KK) := (f_X6_findWays_L2 n now n 0 trial meas walk).bind fun q2 => some (q2.1, q2.2.1, q2.2.2)
theorem inw_X6_findWays_1 : ∀ w ∈ wsX10, w ∈ wsX6_findWays := fun _ h => List.mem_cons_of_mem _ (List.mem_append_left _ (List.mem_append_left _ (List.mem_append_right _ h)))
theorem inw_X6_findWays_4 : ∀ w ∈ wsX40, w ∈ wsX6_findWays := fun _ h => List.mem_cons_of_mem _ (List.mem_append_left _ (List.mem_append_left _ (List.mem_append_left _ (List.mem_append_right _ h))))
theorem inw_X6_findWays_5 : ∀ w ∈ wsX50, w ∈ wsX6_findWays := fun _ h => List.mem_cons_of_mem _ (List.mem_append_left _ (List.mem_append_right _ h))
theorem inw_X6_findWays_6 : ∀ w ∈ wsX60, w ∈ wsX6_findWays := fun _ h => List.mem_cons_of_mem _ (List.mem_append_left _ (List.mem_append_left _ (List.mem_append_left _ (List.mem_append_left _ (List.mem_append_right _ h)))))
theorem hd_X6_findWays : yX6_findWays.cls = RX6 ∧ yX6_findWays.cls ≠ "java/lang/invoke/MethodHandle" ∧ yX6_findWays.cls ≠ "java/lang/invoke/VarHandle" ∧ (parseMethodDescriptor yX6_findWays.desc).map (fun d => d.parameters.length) = some 0 := by decide +kernel
set_option maxHeartbeats 4000000 in
set_option maxRecDepth 100000 in
theorem c_X6_findWays (l : Launch) (D : va_G) (cI cC cS : ClassId) (R : va_W) (ad : Nat → Nat → Nat) (now : SS) (hist : HH) (snap : SS) (has : Int32) (text : TT) (trial : GG) (meas : EE) (walk : KK) (n : Nat) (r : GG × EE × KK) (hf : f_X6_findWays n now trial meas walk = some r) : CV l yX6_findWays wsX6_findWays 5 133 D cI cC cS [.ref (ad 0 0)] ((w_X ad cI cC cS now hist snap has text trial meas walk) ++ R) ((w_X ad cI cC cS now hist snap has text r.1 r.2.1 r.2.2) ++ R) := by
  refine XV.of (cc := cX6_findWays) (maxL := 3) (own := RX6) (by decide) rfl rfl (Nat.le_of_ble_eq_true rfl) ?_
  intro p e s m args below meth c A Q S hK hN hA hP hD hS ls hl hret
  obtain ⟨hx, hb, hml, hown, hts⟩ := id S
  have hl : lv_has ls 3 [(0, .ref (ad 0 0))] := hl
  unfold f_X6_findWays at hf
  refine lv_iconst (v := 0) hx hb dX6_findWays_0 (by decide) ?_
  refine lv_istore_n (lv' := [(1, .int 0), (0, .ref (ad 0 0))]) hx hb dX6_findWays_1 rfl hl (by decide) rfl (fun ls hl => ?_)
  obtain ⟨q2, hq2, hf⟩ := ob_some hf
  have L1 : ∀ (k : Nat) (v_l1_L1 : Int32) (v_trial_L1 : GG) (v_meas_L1 : EE) (v_walk_L1 : KK) (q_L1 : GG × EE × KK), f_X6_findWays_L2 n now k v_l1_L1 v_trial_L1 v_meas_L1 v_walk_L1 = some q_L1 → ∀ (H : Heap) (locs : List Loc), va_P D vwCl ((w_X ad cI cC cS now hist snap has text v_trial_L1 v_meas_L1 v_walk_L1) ++ R) H → va_D A ((w_X ad cI cC cS now hist snap has text v_trial_L1 v_meas_L1 v_walk_L1) ++ R) → va_S A s.heap H locs → ∀ ls : Array Slot, lv_has ls 3 [(0, .ref (ad 0 0)), (1, .int v_l1_L1)] → (∀ (H : Heap) (locs : List Loc), va_P D vwCl ((w_X ad cI cC cS now hist snap has text q_L1.1 q_L1.2.1 q_L1.2.2) ++ R) H → va_D A ((w_X ad cI cC cS now hist snap has text q_L1.1 q_L1.2.1 q_L1.2.2) ++ R) → va_S A s.heap H locs → ∀ ls : Array Slot, lv_has ls 3 [] → W p l e (xR 5 133) s m args below meth c H locs 0 0 Q (F0 m 70 ls [])) → W p l e (xR 5 133) s m args below meth c H locs 0 0 Q (F0 m 2 ls []) := by
    intro k
    induction k with
    | zero => intro v_l1_L1 v_trial_L1 v_meas_L1 v_walk_L1 q_L1 hf; simp [f_X6_findWays_L2] at hf
    | succ k ih =>
      intro v_l1_L1 v_trial_L1 v_meas_L1 v_walk_L1 q_L1 hf H locs hP hD hS ls hl kx
      rw [f_X6_findWays_L2] at hf
      refine lv_iload_n hx hb dX6_findWays_2 rfl (lv_at hl 1 rfl) ?_
      refine lv_iconst (v := 1) hx hb dX6_findWays_3 (by decide) ?_
      refine lv_icmp_gt (tgt := 70) hx hb dX6_findWays_4 (by decide) (fun c3 => ?_) (fun c3 => ?_)
      · have hf := if_t hf c3
        have hf := Option.some.inj hf
        subst hf
        exact kx _ _ hP hD hS _ (lv_sub hl [] rfl)
      · have hf := if_f hf c3
        refine lv_aload_n hx hb dX6_findWays_7 rfl (lv_at hl 0 rfl) ?_
        refine lv_iload_n hx hb dX6_findWays_8 rfl (lv_at hl 1 rfl) ?_
        obtain ⟨q4, hq4, hf⟩ := ob_some hf
        refine xcVv (w' := ((w_X ad cI cC cS now hist snap has text q4.1 q4.2 v_walk_L1) ++ R)) S hK hN hA hP hD hS (c_X6_solveFor l D cI cC cS R ad now hist snap has text v_trial_L1 v_meas_L1 v_walk_L1 v_l1_L1 n _ hq4) gX6_findWays_X6_solveFor rfl hd_X6_solveFor ⟨by decide, by decide⟩ (List.Perm.refl _) (List.Perm.refl _) (ci := 6) (q := (RX6, TX6, 8)) rfl rfl rfl rfl hl.1 rfl (Nat.le_of_ble_eq_true rfl) dX6_findWays_9 ⟨Nat.zero_le _, Nat.zero_le _⟩ (fun H locs hP hD hS => ?_)
        refine lv_iconst (v := 0) hx hb dX6_findWays_12 (by decide) ?_
        refine lv_istore_n (lv' := [(2, .int 0), (0, .ref (ad 0 0)), (1, .int v_l1_L1)]) hx hb dX6_findWays_13 rfl hl (by decide) rfl (fun ls hl => ?_)
        obtain ⟨q6, hq6, hf⟩ := ob_some hf
        have L5 : ∀ (k : Nat) (v_l2_L5 : Int32) (v_walk_L5 : KK) (q_L5 : KK), f_X6_findWays_L14 n now q4.1 q4.2 v_l1_L1 k v_l2_L5 v_walk_L5 = some q_L5 → ∀ (H : Heap) (locs : List Loc), va_P D vwCl ((w_X ad cI cC cS now hist snap has text q4.1 q4.2 v_walk_L5) ++ R) H → va_D A ((w_X ad cI cC cS now hist snap has text q4.1 q4.2 v_walk_L5) ++ R) → va_S A s.heap H locs → ∀ ls : Array Slot, lv_has ls 3 [(0, .ref (ad 0 0)), (1, .int v_l1_L1), (2, .int v_l2_L5)] → (∀ (H : Heap) (locs : List Loc), va_P D vwCl ((w_X ad cI cC cS now hist snap has text q4.1 q4.2 q_L5) ++ R) H → va_D A ((w_X ad cI cC cS now hist snap has text q4.1 q4.2 q_L5) ++ R) → va_S A s.heap H locs → ∀ ls : Array Slot, lv_has ls 3 [(0, .ref (ad 0 0)), (1, .int v_l1_L1)] → W p l e (xR 5 133) s m args below meth c H locs 0 0 Q (F0 m 64 ls [])) → W p l e (xR 5 133) s m args below meth c H locs 0 0 Q (F0 m 14 ls []) := by
          intro k
          induction k with
          | zero => intro v_l2_L5 v_walk_L5 q_L5 hf; simp [f_X6_findWays_L14] at hf
          | succ k ih =>
            intro v_l2_L5 v_walk_L5 q_L5 hf H locs hP hD hS ls hl kx
            rw [f_X6_findWays_L14] at hf
            refine lv_iload_n hx hb dX6_findWays_14 rfl (lv_at hl 2 rfl) ?_
            refine lv_aload_n hx hb dX6_findWays_15 rfl (lv_at hl 0 rfl) ?_
            refine va_get (D := D) (ci := 6) (v := .ref ((ad 1) 0)) (C := RX6) (T := TX6) (N := 8) hx hb hts inw_X6_findWays_6 hown hK hP 0 rfl rfl 0 (by decide) (hts (.fieldLink RX6 12 "RingGames" "now" "LRingGames$State;") (List.mem_of_getElem? (i := 1) rfl)) (fun _ h9 => h9) rfl dX6_findWays_16 ?_
            refine va_get (D := D) (ci := 4) (v := .ref ((ad 1) 2)) (C := RX4) (T := TX4) (N := 4) hx hb hts inw_X6_findWays_4 hown hK hP 1 rfl rfl 0 (by decide) (hts (.fieldLink RX6 65 "RingGames$State" "game" "LRingGames$Game;") (List.mem_of_getElem? (i := 2) rfl)) (fun _ h9 => h9) rfl dX6_findWays_19 ?_
            refine va_get (D := D) (ci := 1) (v := .int now.1.1) (C := RX1) (T := TX1) (N := 4) hx hb hts inw_X6_findWays_1 hown hK hP 3 rfl rfl 0 (by decide) (hts (.fieldLink RX6 68 "RingGames$Game" "size" "I") (List.mem_of_getElem? (i := 3) rfl)) (fun _ h9 => h9) rfl dX6_findWays_22 ?_
            refine lv_icmp_ge (tgt := 64) hx hb dX6_findWays_25 (by decide) (fun c7 => ?_) (fun c7 => ?_)
            · have hf := if_t hf c7
              have hf := Option.some.inj hf
              subst hf
              exact kx _ _ hP hD hS _ (lv_sub hl [0, 1] rfl)
            · have hf := if_f hf c7
              refine lv_aload_n hx hb dX6_findWays_28 rfl (lv_at hl 0 rfl) ?_
              refine va_get (D := D) (ci := 6) (v := .ref ((ad 1) 0)) (C := RX6) (T := TX6) (N := 8) hx hb hts inw_X6_findWays_6 hown hK hP 0 rfl rfl 0 (by decide) (hts (.fieldLink RX6 12 "RingGames" "now" "LRingGames$State;") (List.mem_of_getElem? (i := 1) rfl)) (fun _ h9 => h9) rfl dX6_findWays_29 ?_
              refine va_get (D := D) (ci := 4) (v := .ref ((ad 1) 2)) (C := RX4) (T := TX4) (N := 4) hx hb hts inw_X6_findWays_4 hown hK hP 1 rfl rfl 0 (by decide) (hts (.fieldLink RX6 65 "RingGames$State" "game" "LRingGames$Game;") (List.mem_of_getElem? (i := 2) rfl)) (fun _ h9 => h9) rfl dX6_findWays_32 ?_
              refine va_get (D := D) (ci := 1) (v := .ref ((ad 1) 3)) (C := RX1) (T := TX1) (N := 4) hx hb hts inw_X6_findWays_1 hown hK hP 3 rfl rfl 1 (by decide) (hts (.fieldLink RX6 83 "RingGames$Game" "owners" "[I") (List.mem_of_getElem? (i := 4) rfl)) (fun _ h9 => h9) rfl dX6_findWays_35 ?_
              refine lv_iload_n hx hb dX6_findWays_38 rfl (lv_at hl 2 rfl) ?_
              obtain ⟨g8, hf⟩ := vg_some hf
              refine va_iald hx hb hK hP 4 0 rfl rfl g8 dX6_findWays_39 ?_
              refine lv_iload_n hx hb dX6_findWays_40 rfl (lv_at hl 1 rfl) ?_
              refine lv_icmp_ne (tgt := 58) hx hb dX6_findWays_41 (by decide) (fun c9 => ?_) (fun c9 => ?_)
              · have hf := if_f hf c9
                refine lv_iinc (v := (v_l2_L5 + 1)) (lv' := [(2, .int (v_l2_L5 + 1)), (0, .ref (ad 0 0)), (1, .int v_l1_L1)]) hx hb dX6_findWays_58 hl (k := 2) rfl (congrArg (fun z => v_l2_L5 + z) (by decide)) (by decide) rfl (fun ls hl => ?_)
                refine lv_goto (tgt := 14) hx hb dX6_findWays_61 (by decide) ?_
                exact ih (v_l2_L5 + 1) v_walk_L5 _ hf _ _ hP hD hS _ (lv_sub hl [1, 2, 0] rfl) kx
              · have hf := if_t hf c9
                refine lv_aload_n hx hb dX6_findWays_44 rfl (lv_at hl 0 rfl) ?_
                refine va_get (D := D) (ci := 6) (v := .ref ((ad 7) 0)) (C := RX6) (T := TX6) (N := 8) hx hb hts inw_X6_findWays_6 hown hK hP 0 rfl rfl 7 (by decide) (hts (.fieldLink RX6 54 "RingGames" "walk" "LRingGames$Walk;") (List.mem_of_getElem? (i := 5) rfl)) (fun _ h9 => h9) rfl dX6_findWays_45 ?_
                refine va_get (D := D) (ci := 5) (v := .ref ((ad 7) 1)) (C := RX5) (T := TX5) (N := 4) hx hb hts inw_X6_findWays_5 hown hK hP 48 rfl rfl 0 (by decide) (hts (.fieldLink RX6 249 "RingGames$Walk" "ways" "[I") (List.mem_of_getElem? (i := 6) rfl)) (fun _ h9 => h9) rfl dX6_findWays_48 ?_
                refine lv_iload_n hx hb dX6_findWays_51 rfl (lv_at hl 2 rfl) ?_
                refine lv_aload_n hx hb dX6_findWays_52 rfl (lv_at hl 0 rfl) ?_
                refine lv_iload_n hx hb dX6_findWays_53 rfl (lv_at hl 2 rfl) ?_
                obtain ⟨q10, hq10, hf⟩ := ob_some hf
                refine xcVi (w' := ((w_X ad cI cC cS now hist snap has text q4.1 q4.2 v_walk_L5) ++ R)) S hK hN hA hP hD hS (c_X6_wayOn l D cI cC cS R ad now hist snap has text q4.1 q4.2 v_walk_L5 v_l2_L5 n _ hq10) gX6_findWays_X6_wayOn rfl hd_X6_wayOn ⟨by decide, by decide⟩ (List.Perm.refl _) (List.Perm.refl _) (ci := 6) (q := (RX6, TX6, 8)) rfl rfl rfl rfl hl.1 rfl (Nat.le_of_ble_eq_true rfl) dX6_findWays_54 ⟨Nat.zero_le _, Nat.zero_le _⟩ (fun H locs hP hD hS => ?_)
                refine va_iast hx hb hK hP hD hS 49 0 rfl rfl g8 dX6_findWays_57 (fun H locs hP hD hS => ?_)
                have hP : va_P D vwCl ((w_X ad cI cC cS now hist snap has text q4.1 q4.2 ((upd v_walk_L5.1 (v_l2_L5).toNatClampNeg q10), v_walk_L5.2.1, v_walk_L5.2.2.1, v_walk_L5.2.2.2)) ++ R) H := hP
                have hD : va_D A ((w_X ad cI cC cS now hist snap has text q4.1 q4.2 ((upd v_walk_L5.1 (v_l2_L5).toNatClampNeg q10), v_walk_L5.2.1, v_walk_L5.2.2.1, v_walk_L5.2.2.2)) ++ R) := hD
                refine lv_iinc (v := (v_l2_L5 + 1)) (lv' := [(2, .int (v_l2_L5 + 1)), (0, .ref (ad 0 0)), (1, .int v_l1_L1)]) hx hb dX6_findWays_58 hl (k := 2) rfl (congrArg (fun z => v_l2_L5 + z) (by decide)) (by decide) rfl (fun ls hl => ?_)
                refine lv_goto (tgt := 14) hx hb dX6_findWays_61 (by decide) ?_
                exact ih (v_l2_L5 + 1) ((upd v_walk_L5.1 (v_l2_L5).toNatClampNeg q10), v_walk_L5.2.1, v_walk_L5.2.2.1, v_walk_L5.2.2.2) _ hf _ _ hP hD hS _ (lv_sub hl [1, 2, 0] rfl) kx
        refine L5 n 0 v_walk_L1 q6 hq6 _ _ hP hD hS _ (lv_sub hl [1, 2, 0] rfl) ?_
        clear hP hD hS hl
        intro H locs hP hD hS ls hl
        refine lv_iinc (v := (v_l1_L1 + 1)) (lv' := [(1, .int (v_l1_L1 + 1)), (0, .ref (ad 0 0))]) hx hb dX6_findWays_64 hl (k := 1) rfl (congrArg (fun z => v_l1_L1 + z) (by decide)) (by decide) rfl (fun ls hl => ?_)
        refine lv_goto (tgt := 2) hx hb dX6_findWays_67 (by decide) ?_
        exact ih (v_l1_L1 + 1) q4.1 q4.2 q6 _ hf _ _ hP hD hS _ (lv_sub hl [1, 0] rfl) kx
  refine L1 n 0 trial meas walk q2 hq2 _ _ hP hD hS _ (lv_sub hl [1, 0] rfl) ?_
  clear hP hD hS hl
  intro H locs hP hD hS ls hl
  have hf := Option.some.inj hf
  subst hf
  exact hret _ _ _ _ dX6_findWays_70 hP hD hS
def f_X6_step_L76 (d_walk : KK) (d_l1 : Int32) : Nat → Int32 → SS → Option SS
  | 0, _, _ => none
  | k + 1, d_l2, d_now => (if d_l1 ≤ d_l2 then some (d_now) else (f_X5_wayFrom d_walk d_now.2.2.1).bind fun q10 => (if q10 = 14 then some (d_now) else (f_X5_wayFrom d_walk d_now.2.2.1).bind fun q12 => f_X6_step_L76 d_walk d_l1 k (d_l2 + 1) (d_now.1, d_now.2.1, q12, (d_now.2.2.2 + 1))))
def f_X6_step (n : Nat) (now : SS) (hist : HH) (trial : GG) (meas : EE) (walk : KK) (p1 : Int32) : Option (Int32 × SS × HH × GG × EE × KK) := (if p1 < 1 then some ((-2), now, hist, trial, meas, walk) else (if p1 ≤ 50 then (f_X1_has now.1 now.2.2.1).bind fun q3 => (if q3 = 0 then some ((-4), now, hist, trial, meas, walk) else (f_X6_findWays n now trial meas walk).bind fun q5 => (f_X5_wayFrom q5.2.2 now.2.2.1).bind fun q6 => (if q6 = 14 then some ((-4), now, hist, q5.1, q5.2.1, q5.2.2) else (f_X2_remember hist now).bind fun q8 => (f_X6_step_L76 q5.2.2 p1 n 0 now).bind fun q10 => some (q10.2.2.1, q10, q8, q5.1, q5.2.1, q5.2.2))) else some ((-2), now, hist, trial, meas, walk)))
theorem inw_X6_step_4 : ∀ w ∈ wsX40, w ∈ wsX6_step := fun _ h => List.mem_cons_of_mem _ (List.mem_append_left _ (List.mem_append_left _ (List.mem_append_left _ (List.mem_append_left _ (List.mem_append_right _ h)))))
theorem inw_X6_step_6 : ∀ w ∈ wsX60, w ∈ wsX6_step := fun _ h => List.mem_cons_of_mem _ (List.mem_append_left _ (List.mem_append_left _ (List.mem_append_left _ (List.mem_append_left _ (List.mem_append_left _ (List.mem_append_right _ h))))))
theorem hd_X6_step : yX6_step.cls = RX6 ∧ yX6_step.cls ≠ "java/lang/invoke/MethodHandle" ∧ yX6_step.cls ≠ "java/lang/invoke/VarHandle" ∧ (parseMethodDescriptor yX6_step.desc).map (fun d => d.parameters.length) = some 1 := by decide +kernel
set_option maxHeartbeats 4000000 in
set_option maxRecDepth 100000 in
theorem c_X6_step (l : Launch) (D : va_G) (cI cC cS : ClassId) (R : va_W) (ad : Nat → Nat → Nat) (now : SS) (hist : HH) (snap : SS) (has : Int32) (text : TT) (trial : GG) (meas : EE) (walk : KK) (p1 : Int32) (n : Nat) (r : Int32 × SS × HH × GG × EE × KK) (hf : f_X6_step n now hist trial meas walk p1 = some r) : CI l yX6_step wsX6_step 6 155 D cI cC cS [.ref (ad 0 0), .int p1] ((w_X ad cI cC cS now hist snap has text trial meas walk) ++ R) r.1 ((w_X ad cI cC cS r.2.1 r.2.2.1 snap has text r.2.2.2.1 r.2.2.2.2.1 r.2.2.2.2.2) ++ R) := by
  refine XI.of (cc := cX6_step) (maxL := 3) (ty := .int) (own := RX6) (by decide) rfl rfl (Nat.le_of_ble_eq_true rfl) ?_
  intro p e s m args below meth c A Q S hK hN hA hP hD hS ls hl hret
  obtain ⟨hx, hb, hml, hown, hts⟩ := id S
  have hl : lv_has ls 3 [(0, .ref (ad 0 0)), (1, .int p1)] := hl
  unfold f_X6_step at hf
  refine lv_iload_n hx hb dX6_step_0 rfl (lv_at hl 1 rfl) ?_
  refine lv_iconst (v := 1) hx hb dX6_step_1 (by decide) ?_
  refine lv_icmp_lt (tgt := 11) hx hb dX6_step_2 (by decide) (fun c1 => ?_) (fun c1 => ?_)
  · have hf := if_t hf c1
    refine lv_bipush (v := (-2)) hx hb dX6_step_11 (by decide) ?_
    have hf := Option.some.inj hf
    subst hf
    exact hret _ _ _ _ _ dX6_step_13 rfl hP hD hS rfl
  · have hf := if_f hf c1
    refine lv_iload_n hx hb dX6_step_5 rfl (lv_at hl 1 rfl) ?_
    refine lv_bipush (v := 50) hx hb dX6_step_6 (by decide) ?_
    refine lv_icmp_le (tgt := 14) hx hb dX6_step_8 (by decide) (fun c2 => ?_) (fun c2 => ?_)
    · have hf := if_t hf c2
      refine lv_aload_n hx hb dX6_step_14 rfl (lv_at hl 0 rfl) ?_
      refine va_get (D := D) (ci := 6) (v := .ref ((ad 1) 0)) (C := RX6) (T := TX6) (N := 8) hx hb hts inw_X6_step_6 hown hK hP 0 rfl rfl 0 (by decide) (hts (.fieldLink RX6 12 "RingGames" "now" "LRingGames$State;") (List.mem_of_getElem? (i := 1) rfl)) (fun _ h9 => h9) rfl dX6_step_15 ?_
      refine va_get (D := D) (ci := 4) (v := .ref ((ad 1) 2)) (C := RX4) (T := TX4) (N := 4) hx hb hts inw_X6_step_4 hown hK hP 1 rfl rfl 0 (by decide) (hts (.fieldLink RX6 65 "RingGames$State" "game" "LRingGames$Game;") (List.mem_of_getElem? (i := 2) rfl)) (fun _ h9 => h9) rfl dX6_step_18 ?_
      refine lv_aload_n hx hb dX6_step_21 rfl (lv_at hl 0 rfl) ?_
      refine va_get (D := D) (ci := 6) (v := .ref ((ad 1) 0)) (C := RX6) (T := TX6) (N := 8) hx hb hts inw_X6_step_6 hown hK hP 0 rfl rfl 0 (by decide) (hts (.fieldLink RX6 12 "RingGames" "now" "LRingGames$State;") (List.mem_of_getElem? (i := 1) rfl)) (fun _ h9 => h9) rfl dX6_step_22 ?_
      refine va_get (D := D) (ci := 4) (v := .int now.2.2.1) (C := RX4) (T := TX4) (N := 4) hx hb hts inw_X6_step_4 hown hK hP 1 rfl rfl 2 (by decide) (hts (.fieldLink RX6 141 "RingGames$State" "tokenAt" "I") (List.mem_of_getElem? (i := 3) rfl)) (fun _ h9 => h9) rfl dX6_step_25 ?_
      obtain ⟨q3, hq3, hf⟩ := ob_some hf
      refine xcVi (w' := ((w_X ad cI cC cS now hist snap has text trial meas walk) ++ R)) S hK hN hA hP hD hS (c_X1_has l D cI cC cS ((xr 50 [3, 4, 5, 6]).filterMap (fun i => (w_X ad cI cC cS now hist snap has text trial meas walk)[i]?) ++ R) (fun k => (ad 1) (k + 2)) now.1 now.2.2.1 _ hq3) gX6_step_X1_has rfl hd_X1_has ⟨by decide, by decide⟩ (x_cut (pre := (w_X ad cI cC cS now hist snap has text trial meas walk)) [3, 4, 5, 6] 50 rfl (by decide +kernel) rfl) (x_cut (pre := (w_X ad cI cC cS now hist snap has text trial meas walk)) [3, 4, 5, 6] 50 rfl (by decide +kernel) rfl).symm (ci := 1) (q := (RX1, TX1, 4)) rfl rfl rfl rfl hl.1 rfl (Nat.le_of_ble_eq_true rfl) dX6_step_28 ⟨Nat.zero_le _, Nat.zero_le _⟩ (fun H locs hP hD hS => ?_)
      refine lv_if_ne (tgt := 37) hx hb dX6_step_31 (by decide) (fun c4 => ?_) (fun c4 => ?_)
      · have hf := if_f hf c4
        refine lv_aload_n hx hb dX6_step_37 rfl (lv_at hl 0 rfl) ?_
        obtain ⟨q5, hq5, hf⟩ := ob_some hf
        refine xcVv (w' := ((w_X ad cI cC cS now hist snap has text q5.1 q5.2.1 q5.2.2) ++ R)) S hK hN hA hP hD hS (c_X6_findWays l D cI cC cS R ad now hist snap has text trial meas walk n _ hq5) gX6_step_X6_findWays rfl hd_X6_findWays ⟨by decide, by decide⟩ (List.Perm.refl _) (List.Perm.refl _) (ci := 6) (q := (RX6, TX6, 8)) rfl rfl rfl rfl hl.1 rfl (Nat.le_of_ble_eq_true rfl) dX6_step_38 ⟨Nat.zero_le _, Nat.zero_le _⟩ (fun H locs hP hD hS => ?_)
        refine lv_aload_n hx hb dX6_step_41 rfl (lv_at hl 0 rfl) ?_
        refine va_get (D := D) (ci := 6) (v := .ref ((ad 7) 0)) (C := RX6) (T := TX6) (N := 8) hx hb hts inw_X6_step_6 hown hK hP 0 rfl rfl 7 (by decide) (hts (.fieldLink RX6 54 "RingGames" "walk" "LRingGames$Walk;") (List.mem_of_getElem? (i := 4) rfl)) (fun _ h9 => h9) rfl dX6_step_42 ?_
        refine lv_aload_n hx hb dX6_step_45 rfl (lv_at hl 0 rfl) ?_
        refine va_get (D := D) (ci := 6) (v := .ref ((ad 1) 0)) (C := RX6) (T := TX6) (N := 8) hx hb hts inw_X6_step_6 hown hK hP 0 rfl rfl 0 (by decide) (hts (.fieldLink RX6 12 "RingGames" "now" "LRingGames$State;") (List.mem_of_getElem? (i := 1) rfl)) (fun _ h9 => h9) rfl dX6_step_46 ?_
        refine va_get (D := D) (ci := 4) (v := .int now.2.2.1) (C := RX4) (T := TX4) (N := 4) hx hb hts inw_X6_step_4 hown hK hP 1 rfl rfl 2 (by decide) (hts (.fieldLink RX6 141 "RingGames$State" "tokenAt" "I") (List.mem_of_getElem? (i := 3) rfl)) (fun _ h9 => h9) rfl dX6_step_49 ?_
        obtain ⟨q6, hq6, hf⟩ := ob_some hf
        refine xcVi (w' := ((w_X ad cI cC cS now hist snap has text q5.1 q5.2.1 q5.2.2) ++ R)) S hK hN hA hP hD hS (c_X5_wayFrom l D cI cC cS ((xr 50 [48, 49]).filterMap (fun i => (w_X ad cI cC cS now hist snap has text q5.1 q5.2.1 q5.2.2)[i]?) ++ R) (ad 7) q5.2.2 now.2.2.1 _ hq6) gX6_step_X5_wayFrom rfl hd_X5_wayFrom ⟨by decide, by decide⟩ (x_cut (pre := (w_X ad cI cC cS now hist snap has text q5.1 q5.2.1 q5.2.2)) [48, 49] 50 rfl (by decide +kernel) rfl) (x_cut (pre := (w_X ad cI cC cS now hist snap has text q5.1 q5.2.1 q5.2.2)) [48, 49] 50 rfl (by decide +kernel) rfl).symm (ci := 5) (q := (RX5, TX5, 4)) rfl rfl rfl rfl hl.1 rfl (Nat.le_of_ble_eq_true rfl) dX6_step_52 ⟨Nat.zero_le _, Nat.zero_le _⟩ (fun H locs hP hD hS => ?_)
        refine lv_bipush (v := 14) hx hb dX6_step_55 (by decide) ?_
        refine lv_icmp_ne (tgt := 63) hx hb dX6_step_57 (by decide) (fun c7 => ?_) (fun c7 => ?_)
        · have hf := if_f hf c7
          refine lv_aload_n hx hb dX6_step_63 rfl (lv_at hl 0 rfl) ?_
          refine va_get (D := D) (ci := 6) (v := .ref ((ad 2) 0)) (C := RX6) (T := TX6) (N := 8) hx hb hts inw_X6_step_6 hown hK hP 0 rfl rfl 1 (by decide) (hts (.fieldLink RX6 19 "RingGames" "history" "LRingGames$History;") (List.mem_of_getElem? (i := 5) rfl)) (fun _ h9 => h9) rfl dX6_step_64 ?_
          refine lv_aload_n hx hb dX6_step_67 rfl (lv_at hl 0 rfl) ?_
          refine va_get (D := D) (ci := 6) (v := .ref ((ad 1) 0)) (C := RX6) (T := TX6) (N := 8) hx hb hts inw_X6_step_6 hown hK hP 0 rfl rfl 0 (by decide) (hts (.fieldLink RX6 12 "RingGames" "now" "LRingGames$State;") (List.mem_of_getElem? (i := 1) rfl)) (fun _ h9 => h9) rfl dX6_step_68 ?_
          obtain ⟨q8, hq8, hf⟩ := ob_some hf
          refine xcVv (w' := ((w_X ad cI cC cS now q8 snap has text q5.1 q5.2.1 q5.2.2) ++ R)) S hK hN hA hP hD hS (c_X2_remember l D cI cC cS ((xr 50 [7, 8, 9, 10, 11, 12, 13, 14, 15, 16, 17, 18, 19, 20, 21, 22, 23, 24, 25, 26, 27, 28, 29, 30, 31, 32, 1, 2, 3, 4, 5, 6]).filterMap (fun i => (w_X ad cI cC cS now hist snap has text q5.1 q5.2.1 q5.2.2)[i]?) ++ R) (ad 2) (ad 1) hist now _ hq8) gX6_step_X2_remember rfl hd_X2_remember ⟨by decide, by decide⟩ (x_cut (pre := (w_X ad cI cC cS now hist snap has text q5.1 q5.2.1 q5.2.2)) [7, 8, 9, 10, 11, 12, 13, 14, 15, 16, 17, 18, 19, 20, 21, 22, 23, 24, 25, 26, 27, 28, 29, 30, 31, 32, 1, 2, 3, 4, 5, 6] 50 rfl (by decide +kernel) rfl) (x_back (pre := (w_X ad cI cC cS now hist snap has text q5.1 q5.2.1 q5.2.2)) [7, 8, 9, 10, 11, 12, 13, 14, 15, 16, 17, 18, 19, 20, 21, 22, 23, 24, 25, 26, 27, 28, 29, 30, 31, 32, 1, 2, 3, 4, 5, 6] 50 rfl (by decide +kernel) rfl rfl) (ci := 2) (q := (RX2, TX2, 2)) rfl rfl rfl rfl hl.1 rfl (Nat.le_of_ble_eq_true rfl) dX6_step_71 ⟨Nat.zero_le _, Nat.zero_le _⟩ (fun H locs hP hD hS => ?_)
          refine lv_iconst (v := 0) hx hb dX6_step_74 (by decide) ?_
          refine lv_istore_n (lv' := [(2, .int 0), (0, .ref (ad 0 0)), (1, .int p1)]) hx hb dX6_step_75 rfl hl (by decide) rfl (fun ls hl => ?_)
          obtain ⟨q10, hq10, hf⟩ := ob_some hf
          have L9 : ∀ (k : Nat) (v_l2_L9 : Int32) (v_now_L9 : SS) (q_L9 : SS), f_X6_step_L76 q5.2.2 p1 k v_l2_L9 v_now_L9 = some q_L9 → ∀ (H : Heap) (locs : List Loc), va_P D vwCl ((w_X ad cI cC cS v_now_L9 q8 snap has text q5.1 q5.2.1 q5.2.2) ++ R) H → va_D A ((w_X ad cI cC cS v_now_L9 q8 snap has text q5.1 q5.2.1 q5.2.2) ++ R) → va_S A s.heap H locs → ∀ ls : Array Slot, lv_has ls 3 [(0, .ref (ad 0 0)), (1, .int p1), (2, .int v_l2_L9)] → (∀ (H : Heap) (locs : List Loc), va_P D vwCl ((w_X ad cI cC cS q_L9 q8 snap has text q5.1 q5.2.1 q5.2.2) ++ R) H → va_D A ((w_X ad cI cC cS q_L9 q8 snap has text q5.1 q5.2.1 q5.2.2) ++ R) → va_S A s.heap H locs → ∀ ls : Array Slot, lv_has ls 3 [(0, .ref (ad 0 0))] → W p l e (xR 6 155) s m args below meth c H locs 0 0 Q (F0 m 140 ls [])) → W p l e (xR 6 155) s m args below meth c H locs 0 0 Q (F0 m 76 ls []) := by
            intro k
            induction k with
            | zero => intro v_l2_L9 v_now_L9 q_L9 hf; simp [f_X6_step_L76] at hf
            | succ k ih =>
              intro v_l2_L9 v_now_L9 q_L9 hf H locs hP hD hS ls hl kx
              rw [f_X6_step_L76] at hf
              refine lv_iload_n hx hb dX6_step_76 rfl (lv_at hl 2 rfl) ?_
              refine lv_iload_n hx hb dX6_step_77 rfl (lv_at hl 1 rfl) ?_
              refine lv_icmp_ge (tgt := 140) hx hb dX6_step_78 (by decide) (fun c11 => ?_) (fun c11 => ?_)
              · have hf := if_t hf c11
                have hf := Option.some.inj hf
                subst hf
                exact kx _ _ hP hD hS _ (lv_sub hl [0] rfl)
              · have hf := if_f hf c11
                refine lv_aload_n hx hb dX6_step_81 rfl (lv_at hl 0 rfl) ?_
                refine va_get (D := D) (ci := 6) (v := .ref ((ad 7) 0)) (C := RX6) (T := TX6) (N := 8) hx hb hts inw_X6_step_6 hown hK hP 0 rfl rfl 7 (by decide) (hts (.fieldLink RX6 54 "RingGames" "walk" "LRingGames$Walk;") (List.mem_of_getElem? (i := 4) rfl)) (fun _ h9 => h9) rfl dX6_step_82 ?_
                refine lv_aload_n hx hb dX6_step_85 rfl (lv_at hl 0 rfl) ?_
                refine va_get (D := D) (ci := 6) (v := .ref ((ad 1) 0)) (C := RX6) (T := TX6) (N := 8) hx hb hts inw_X6_step_6 hown hK hP 0 rfl rfl 0 (by decide) (hts (.fieldLink RX6 12 "RingGames" "now" "LRingGames$State;") (List.mem_of_getElem? (i := 1) rfl)) (fun _ h9 => h9) rfl dX6_step_86 ?_
                refine va_get (D := D) (ci := 4) (v := .int v_now_L9.2.2.1) (C := RX4) (T := TX4) (N := 4) hx hb hts inw_X6_step_4 hown hK hP 1 rfl rfl 2 (by decide) (hts (.fieldLink RX6 141 "RingGames$State" "tokenAt" "I") (List.mem_of_getElem? (i := 3) rfl)) (fun _ h9 => h9) rfl dX6_step_89 ?_
                obtain ⟨q12, hq12, hf⟩ := ob_some hf
                refine xcVi (w' := ((w_X ad cI cC cS v_now_L9 q8 snap has text q5.1 q5.2.1 q5.2.2) ++ R)) S hK hN hA hP hD hS (c_X5_wayFrom l D cI cC cS ((xr 50 [48, 49]).filterMap (fun i => (w_X ad cI cC cS v_now_L9 q8 snap has text q5.1 q5.2.1 q5.2.2)[i]?) ++ R) (ad 7) q5.2.2 v_now_L9.2.2.1 _ hq12) gX6_step_X5_wayFrom rfl hd_X5_wayFrom ⟨by decide, by decide⟩ (x_cut (pre := (w_X ad cI cC cS v_now_L9 q8 snap has text q5.1 q5.2.1 q5.2.2)) [48, 49] 50 rfl (by decide +kernel) rfl) (x_cut (pre := (w_X ad cI cC cS v_now_L9 q8 snap has text q5.1 q5.2.1 q5.2.2)) [48, 49] 50 rfl (by decide +kernel) rfl).symm (ci := 5) (q := (RX5, TX5, 4)) rfl rfl rfl rfl hl.1 rfl (Nat.le_of_ble_eq_true rfl) dX6_step_92 ⟨Nat.zero_le _, Nat.zero_le _⟩ (fun H locs hP hD hS => ?_)
                refine lv_bipush (v := 14) hx hb dX6_step_95 (by decide) ?_
                refine lv_icmp_eq (tgt := 140) hx hb dX6_step_97 (by decide) (fun c13 => ?_) (fun c13 => ?_)
                · have hf := if_t hf c13
                  have hf := Option.some.inj hf
                  subst hf
                  exact kx _ _ hP hD hS _ (lv_sub hl [0] rfl)
                · have hf := if_f hf c13
                  refine lv_aload_n hx hb dX6_step_100 rfl (lv_at hl 0 rfl) ?_
                  refine va_get (D := D) (ci := 6) (v := .ref ((ad 1) 0)) (C := RX6) (T := TX6) (N := 8) hx hb hts inw_X6_step_6 hown hK hP 0 rfl rfl 0 (by decide) (hts (.fieldLink RX6 12 "RingGames" "now" "LRingGames$State;") (List.mem_of_getElem? (i := 1) rfl)) (fun _ h9 => h9) rfl dX6_step_101 ?_
                  refine lv_aload_n hx hb dX6_step_104 rfl (lv_at hl 0 rfl) ?_
                  refine va_get (D := D) (ci := 6) (v := .ref ((ad 7) 0)) (C := RX6) (T := TX6) (N := 8) hx hb hts inw_X6_step_6 hown hK hP 0 rfl rfl 7 (by decide) (hts (.fieldLink RX6 54 "RingGames" "walk" "LRingGames$Walk;") (List.mem_of_getElem? (i := 4) rfl)) (fun _ h9 => h9) rfl dX6_step_105 ?_
                  refine lv_aload_n hx hb dX6_step_108 rfl (lv_at hl 0 rfl) ?_
                  refine va_get (D := D) (ci := 6) (v := .ref ((ad 1) 0)) (C := RX6) (T := TX6) (N := 8) hx hb hts inw_X6_step_6 hown hK hP 0 rfl rfl 0 (by decide) (hts (.fieldLink RX6 12 "RingGames" "now" "LRingGames$State;") (List.mem_of_getElem? (i := 1) rfl)) (fun _ h9 => h9) rfl dX6_step_109 ?_
                  refine va_get (D := D) (ci := 4) (v := .int v_now_L9.2.2.1) (C := RX4) (T := TX4) (N := 4) hx hb hts inw_X6_step_4 hown hK hP 1 rfl rfl 2 (by decide) (hts (.fieldLink RX6 141 "RingGames$State" "tokenAt" "I") (List.mem_of_getElem? (i := 3) rfl)) (fun _ h9 => h9) rfl dX6_step_112 ?_
                  obtain ⟨q14, hq14, hf⟩ := ob_some hf
                  refine xcVi (w' := ((w_X ad cI cC cS v_now_L9 q8 snap has text q5.1 q5.2.1 q5.2.2) ++ R)) S hK hN hA hP hD hS (c_X5_wayFrom l D cI cC cS ((xr 50 [48, 49]).filterMap (fun i => (w_X ad cI cC cS v_now_L9 q8 snap has text q5.1 q5.2.1 q5.2.2)[i]?) ++ R) (ad 7) q5.2.2 v_now_L9.2.2.1 _ hq14) gX6_step_X5_wayFrom rfl hd_X5_wayFrom ⟨by decide, by decide⟩ (x_cut (pre := (w_X ad cI cC cS v_now_L9 q8 snap has text q5.1 q5.2.1 q5.2.2)) [48, 49] 50 rfl (by decide +kernel) rfl) (x_cut (pre := (w_X ad cI cC cS v_now_L9 q8 snap has text q5.1 q5.2.1 q5.2.2)) [48, 49] 50 rfl (by decide +kernel) rfl).symm (ci := 5) (q := (RX5, TX5, 4)) rfl rfl rfl rfl hl.1 rfl (Nat.le_of_ble_eq_true rfl) dX6_step_115 ⟨Nat.zero_le _, Nat.zero_le _⟩ (fun H locs hP hD hS => ?_)
                  refine va_put (D := D) (ci := 4) (v := .int q14) (ty := .int) (C := RX4) (T := TX4) (N := 4) hx hb hts inw_X6_step_4 tyX4 tyX4_ok nmX4 hown hK hP hD hS 1 rfl rfl 2 (by decide) (hts (.fieldLink RX6 141 "RingGames$State" "tokenAt" "I") (List.mem_of_getElem? (i := 3) rfl)) (fun _ h9 => h9) rfl (tyX4_ok 2 (by decide)) rfl rfl (Nat.le_of_ble_eq_true rfl) dX6_step_118 (fun H locs hP hD hS => ?_)
                  have hP : va_P D vwCl ((w_X ad cI cC cS (v_now_L9.1, v_now_L9.2.1, q14, v_now_L9.2.2.2) q8 snap has text q5.1 q5.2.1 q5.2.2) ++ R) H := hP
                  have hD : va_D A ((w_X ad cI cC cS (v_now_L9.1, v_now_L9.2.1, q14, v_now_L9.2.2.2) q8 snap has text q5.1 q5.2.1 q5.2.2) ++ R) := hD
                  refine lv_aload_n hx hb dX6_step_121 rfl (lv_at hl 0 rfl) ?_
                  refine va_get (D := D) (ci := 6) (v := .ref ((ad 1) 0)) (C := RX6) (T := TX6) (N := 8) hx hb hts inw_X6_step_6 hown hK hP 0 rfl rfl 0 (by decide) (hts (.fieldLink RX6 12 "RingGames" "now" "LRingGames$State;") (List.mem_of_getElem? (i := 1) rfl)) (fun _ h9 => h9) rfl dX6_step_122 ?_
                  refine lv_dup hx hb dX6_step_125 rfl ?_
                  refine va_get (D := D) (ci := 4) (v := .int v_now_L9.2.2.2) (C := RX4) (T := TX4) (N := 4) hx hb hts inw_X6_step_4 hown hK hP 1 rfl rfl 3 (by decide) (hts (.fieldLink RX6 144 "RingGames$State" "tokenSteps" "I") (List.mem_of_getElem? (i := 6) rfl)) (fun _ h9 => h9) rfl dX6_step_126 ?_
                  refine lv_iconst (v := 1) hx hb dX6_step_129 (by decide) ?_
                  refine lv_iadd hx hb dX6_step_130 ?_
                  refine va_put (D := D) (ci := 4) (v := .int (v_now_L9.2.2.2 + 1)) (ty := .int) (C := RX4) (T := TX4) (N := 4) hx hb hts inw_X6_step_4 tyX4 tyX4_ok nmX4 hown hK hP hD hS 1 rfl rfl 3 (by decide) (hts (.fieldLink RX6 144 "RingGames$State" "tokenSteps" "I") (List.mem_of_getElem? (i := 6) rfl)) (fun _ h9 => h9) rfl (tyX4_ok 3 (by decide)) rfl rfl (Nat.le_of_ble_eq_true rfl) dX6_step_131 (fun H locs hP hD hS => ?_)
                  have hP : va_P D vwCl ((w_X ad cI cC cS (v_now_L9.1, v_now_L9.2.1, q14, (v_now_L9.2.2.2 + 1)) q8 snap has text q5.1 q5.2.1 q5.2.2) ++ R) H := hP
                  have hD : va_D A ((w_X ad cI cC cS (v_now_L9.1, v_now_L9.2.1, q14, (v_now_L9.2.2.2 + 1)) q8 snap has text q5.1 q5.2.1 q5.2.2) ++ R) := hD
                  refine lv_iinc (v := (v_l2_L9 + 1)) (lv' := [(2, .int (v_l2_L9 + 1)), (0, .ref (ad 0 0)), (1, .int p1)]) hx hb dX6_step_134 hl (k := 2) rfl (congrArg (fun z => v_l2_L9 + z) (by decide)) (by decide) rfl (fun ls hl => ?_)
                  refine lv_goto (tgt := 76) hx hb dX6_step_137 (by decide) ?_
                  exact ih (v_l2_L9 + 1) (v_now_L9.1, v_now_L9.2.1, q14, (v_now_L9.2.2.2 + 1)) _ hf _ _ hP hD hS _ (lv_sub hl [1, 2, 0] rfl) kx
          refine L9 n 0 now q10 hq10 _ _ hP hD hS _ (lv_sub hl [1, 2, 0] rfl) ?_
          clear hP hD hS hl
          intro H locs hP hD hS ls hl
          refine lv_aload_n hx hb dX6_step_140 rfl (lv_at hl 0 rfl) ?_
          refine va_get (D := D) (ci := 6) (v := .ref ((ad 1) 0)) (C := RX6) (T := TX6) (N := 8) hx hb hts inw_X6_step_6 hown hK hP 0 rfl rfl 0 (by decide) (hts (.fieldLink RX6 12 "RingGames" "now" "LRingGames$State;") (List.mem_of_getElem? (i := 1) rfl)) (fun _ h9 => h9) rfl dX6_step_141 ?_
          refine va_get (D := D) (ci := 4) (v := .int q10.2.2.1) (C := RX4) (T := TX4) (N := 4) hx hb hts inw_X6_step_4 hown hK hP 1 rfl rfl 2 (by decide) (hts (.fieldLink RX6 141 "RingGames$State" "tokenAt" "I") (List.mem_of_getElem? (i := 3) rfl)) (fun _ h9 => h9) rfl dX6_step_144 ?_
          have hf := Option.some.inj hf
          subst hf
          exact hret _ _ _ _ _ dX6_step_147 rfl hP hD hS rfl
        · have hf := if_t hf c7
          refine lv_bipush (v := (-4)) hx hb dX6_step_60 (by decide) ?_
          have hf := Option.some.inj hf
          subst hf
          exact hret _ _ _ _ _ dX6_step_62 rfl hP hD hS rfl
      · have hf := if_t hf c4
        refine lv_bipush (v := (-4)) hx hb dX6_step_34 (by decide) ?_
        have hf := Option.some.inj hf
        subst hf
        exact hret _ _ _ _ _ dX6_step_36 rfl hP hD hS rfl
    · have hf := if_f hf c2
      refine lv_bipush (v := (-2)) hx hb dX6_step_11 (by decide) ?_
      have hf := Option.some.inj hf
      subst hf
      exact hret _ _ _ _ _ dX6_step_13 rfl hP hD hS rfl
def f_X6_type (text : TT) (p1 : Int32) : Option (Int32 × TT) := (f_X0_append text p1).bind fun q1 => (if q1.1 = 0 then some ((-3), q1.2) else some (q1.2.2, q1.2))
theorem inw_X6_type_0 : ∀ w ∈ wsX00, w ∈ wsX6_type := fun _ h => List.mem_cons_of_mem _ (List.mem_append_right _ h)
theorem inw_X6_type_6 : ∀ w ∈ wsX60, w ∈ wsX6_type := fun _ h => List.mem_cons_of_mem _ (List.mem_append_left _ (List.mem_append_right _ h))
theorem hd_X6_type : yX6_type.cls = RX6 ∧ yX6_type.cls ≠ "java/lang/invoke/MethodHandle" ∧ yX6_type.cls ≠ "java/lang/invoke/VarHandle" ∧ (parseMethodDescriptor yX6_type.desc).map (fun d => d.parameters.length) = some 1 := by decide +kernel
set_option maxHeartbeats 4000000 in
set_option maxRecDepth 100000 in
theorem c_X6_type (l : Launch) (D : va_G) (cI cC cS : ClassId) (R : va_W) (ad : Nat → Nat → Nat) (now : SS) (hist : HH) (snap : SS) (has : Int32) (text : TT) (trial : GG) (meas : EE) (walk : KK) (p1 : Int32) (r : Int32 × TT) (hf : f_X6_type text p1 = some r) : CI l yX6_type wsX6_type 1 21 D cI cC cS [.ref (ad 0 0), .int p1] ((w_X ad cI cC cS now hist snap has text trial meas walk) ++ R) r.1 ((w_X ad cI cC cS now hist snap has r.2 trial meas walk) ++ R) := by
  refine XI.of (cc := cX6_type) (maxL := 2) (ty := .int) (own := RX6) (by decide) rfl rfl (Nat.le_of_ble_eq_true rfl) ?_
  intro p e s m args below meth c A Q S hK hN hA hP hD hS ls hl hret
  obtain ⟨hx, hb, hml, hown, hts⟩ := id S
  have hl : lv_has ls 2 [(0, .ref (ad 0 0)), (1, .int p1)] := hl
  unfold f_X6_type at hf
  refine lv_aload_n hx hb dX6_type_0 rfl (lv_at hl 0 rfl) ?_
  refine va_get (D := D) (ci := 6) (v := .ref ((ad 4) 0)) (C := RX6) (T := TX6) (N := 8) hx hb hts inw_X6_type_6 hown hK hP 0 rfl rfl 4 (by decide) (hts (.fieldLink RX6 33 "RingGames" "text" "LRingGames$ArrowText;") (List.mem_of_getElem? (i := 1) rfl)) (fun _ h9 => h9) rfl dX6_type_1 ?_
  refine lv_iload_n hx hb dX6_type_4 rfl (lv_at hl 1 rfl) ?_
  obtain ⟨q1, hq1, hf⟩ := ob_some hf
  refine xcVi (w' := ((w_X ad cI cC cS now hist snap has q1.2 trial meas walk) ++ R)) S hK hN hA hP hD hS (c_X0_append l D cI cC cS ((xr 50 [39, 40]).filterMap (fun i => (w_X ad cI cC cS now hist snap has text trial meas walk)[i]?) ++ R) (ad 4) text p1 _ hq1) gX6_type_X0_append rfl hd_X0_append ⟨by decide, by decide⟩ (x_cut (pre := (w_X ad cI cC cS now hist snap has text trial meas walk)) [39, 40] 50 rfl (by decide +kernel) rfl) (x_back (pre := (w_X ad cI cC cS now hist snap has text trial meas walk)) [39, 40] 50 rfl (by decide +kernel) rfl rfl) (ci := 0) (q := (RX0, TX0, 2)) rfl rfl rfl rfl hl.1 rfl (Nat.le_of_ble_eq_true rfl) dX6_type_5 ⟨Nat.zero_le _, Nat.zero_le _⟩ (fun H locs hP hD hS => ?_)
  refine lv_if_eq (tgt := 21) hx hb dX6_type_8 (by decide) (fun c2 => ?_) (fun c2 => ?_)
  · have hf := if_t hf c2
    refine lv_bipush (v := (-3)) hx hb dX6_type_21 (by decide) ?_
    have hf := Option.some.inj hf
    subst hf
    exact hret _ _ _ _ _ dX6_type_23 rfl hP hD hS rfl
  · have hf := if_f hf c2
    refine lv_aload_n hx hb dX6_type_11 rfl (lv_at hl 0 rfl) ?_
    refine va_get (D := D) (ci := 6) (v := .ref ((ad 4) 0)) (C := RX6) (T := TX6) (N := 8) hx hb hts inw_X6_type_6 hown hK hP 0 rfl rfl 4 (by decide) (hts (.fieldLink RX6 33 "RingGames" "text" "LRingGames$ArrowText;") (List.mem_of_getElem? (i := 1) rfl)) (fun _ h9 => h9) rfl dX6_type_12 ?_
    refine va_get (D := D) (ci := 0) (v := .int q1.2.2) (C := RX0) (T := TX0) (N := 2) hx hb hts inw_X6_type_0 hown hK hP 39 rfl rfl 1 (by decide) (hts (.fieldLink RX6 159 "RingGames$ArrowText" "length" "I") (List.mem_of_getElem? (i := 2) rfl)) (fun _ h9 => h9) rfl dX6_type_15 ?_
    refine lv_goto (tgt := 23) hx hb dX6_type_18 (by decide) ?_
    have hf := Option.some.inj hf
    subst hf
    exact hret _ _ _ _ _ dX6_type_23 rfl hP hD hS rfl
def f_X6_clearText (text : TT) : Option (Int32 × TT) := some (text.2, (text.1, 0))
theorem inw_X6_clearText_0 : ∀ w ∈ wsX00, w ∈ wsX6_clearText := fun _ h => List.mem_cons_of_mem _ (List.mem_append_right _ h)
theorem inw_X6_clearText_6 : ∀ w ∈ wsX60, w ∈ wsX6_clearText := fun _ h => List.mem_cons_of_mem _ (List.mem_append_left _ (List.mem_append_right _ h))
theorem hd_X6_clearText : yX6_clearText.cls = RX6 ∧ yX6_clearText.cls ≠ "java/lang/invoke/MethodHandle" ∧ yX6_clearText.cls ≠ "java/lang/invoke/VarHandle" ∧ (parseMethodDescriptor yX6_clearText.desc).map (fun d => d.parameters.length) = some 0 := by decide +kernel
set_option maxHeartbeats 4000000 in
set_option maxRecDepth 100000 in
theorem c_X6_clearText (l : Launch) (D : va_G) (cI cC cS : ClassId) (R : va_W) (ad : Nat → Nat → Nat) (now : SS) (hist : HH) (snap : SS) (has : Int32) (text : TT) (trial : GG) (meas : EE) (walk : KK) (r : Int32 × TT) (hf : f_X6_clearText text = some r) : CI l yX6_clearText wsX6_clearText 0 0 D cI cC cS [.ref (ad 0 0)] ((w_X ad cI cC cS now hist snap has text trial meas walk) ++ R) r.1 ((w_X ad cI cC cS now hist snap has r.2 trial meas walk) ++ R) := by
  refine XI.of (cc := cX6_clearText) (maxL := 2) (ty := .int) (own := RX6) (by decide) rfl rfl (Nat.le_of_ble_eq_true rfl) ?_
  intro p e s m args below meth c A Q S hK hN hA hP hD hS ls hl hret
  obtain ⟨hx, hb, hml, hown, hts⟩ := id S
  have hl : lv_has ls 2 [(0, .ref (ad 0 0))] := hl
  unfold f_X6_clearText at hf
  refine lv_aload_n hx hb dX6_clearText_0 rfl (lv_at hl 0 rfl) ?_
  refine va_get (D := D) (ci := 6) (v := .ref ((ad 4) 0)) (C := RX6) (T := TX6) (N := 8) hx hb hts inw_X6_clearText_6 hown hK hP 0 rfl rfl 4 (by decide) (hts (.fieldLink RX6 33 "RingGames" "text" "LRingGames$ArrowText;") (List.mem_of_getElem? (i := 1) rfl)) (fun _ h9 => h9) rfl dX6_clearText_1 ?_
  refine va_get (D := D) (ci := 0) (v := .int text.2) (C := RX0) (T := TX0) (N := 2) hx hb hts inw_X6_clearText_0 hown hK hP 39 rfl rfl 1 (by decide) (hts (.fieldLink RX6 159 "RingGames$ArrowText" "length" "I") (List.mem_of_getElem? (i := 2) rfl)) (fun _ h9 => h9) rfl dX6_clearText_4 ?_
  refine lv_istore_n (lv' := [(1, .int text.2), (0, .ref (ad 0 0))]) hx hb dX6_clearText_7 rfl hl (by decide) rfl (fun ls hl => ?_)
  refine lv_aload_n hx hb dX6_clearText_8 rfl (lv_at hl 1 rfl) ?_
  refine va_get (D := D) (ci := 6) (v := .ref ((ad 4) 0)) (C := RX6) (T := TX6) (N := 8) hx hb hts inw_X6_clearText_6 hown hK hP 0 rfl rfl 4 (by decide) (hts (.fieldLink RX6 33 "RingGames" "text" "LRingGames$ArrowText;") (List.mem_of_getElem? (i := 1) rfl)) (fun _ h9 => h9) rfl dX6_clearText_9 ?_
  refine lv_iconst (v := 0) hx hb dX6_clearText_12 (by decide) ?_
  refine va_put (D := D) (ci := 0) (v := .int 0) (ty := .int) (C := RX0) (T := TX0) (N := 2) hx hb hts inw_X6_clearText_0 tyX0 tyX0_ok nmX0 hown hK hP hD hS 39 rfl rfl 1 (by decide) (hts (.fieldLink RX6 159 "RingGames$ArrowText" "length" "I") (List.mem_of_getElem? (i := 2) rfl)) (fun _ h9 => h9) rfl (tyX0_ok 1 (by decide)) rfl rfl (Nat.le_of_ble_eq_true rfl) dX6_clearText_13 (fun H locs hP hD hS => ?_)
  have hP : va_P D vwCl ((w_X ad cI cC cS now hist snap has (text.1, 0) trial meas walk) ++ R) H := hP
  have hD : va_D A ((w_X ad cI cC cS now hist snap has (text.1, 0) trial meas walk) ++ R) := hD
  refine lv_iload_n hx hb dX6_clearText_16 rfl (lv_at hl 0 rfl) ?_
  have hf := Option.some.inj hf
  subst hf
  exact hret _ _ _ _ _ dX6_clearText_17 rfl hP hD hS rfl
def f_X6_undo (now : SS) (hist : HH) : Option (Int32 × SS × HH) := (f_X2_takeInto hist now).bind fun q1 => (if q1.1 = 0 then some ((-5), q1.2.2, q1.2.1) else some (q1.2.1.2, q1.2.2, q1.2.1))
theorem inw_X6_undo_2 : ∀ w ∈ wsX20, w ∈ wsX6_undo := fun _ h => List.mem_cons_of_mem _ (List.mem_append_left _ (List.mem_append_left _ (List.mem_append_right _ h)))
theorem inw_X6_undo_6 : ∀ w ∈ wsX60, w ∈ wsX6_undo := fun _ h => List.mem_cons_of_mem _ (List.mem_append_left _ (List.mem_append_left _ (List.mem_append_left _ (List.mem_append_right _ h))))
theorem hd_X6_undo : yX6_undo.cls = RX6 ∧ yX6_undo.cls ≠ "java/lang/invoke/MethodHandle" ∧ yX6_undo.cls ≠ "java/lang/invoke/VarHandle" ∧ (parseMethodDescriptor yX6_undo.desc).map (fun d => d.parameters.length) = some 0 := by decide +kernel
set_option maxHeartbeats 4000000 in
set_option maxRecDepth 100000 in
theorem c_X6_undo (l : Launch) (D : va_G) (cI cC cS : ClassId) (R : va_W) (ad : Nat → Nat → Nat) (now : SS) (hist : HH) (snap : SS) (has : Int32) (text : TT) (trial : GG) (meas : EE) (walk : KK) (r : Int32 × SS × HH) (hf : f_X6_undo now hist = some r) : CI l yX6_undo wsX6_undo 4 123 D cI cC cS [.ref (ad 0 0)] ((w_X ad cI cC cS now hist snap has text trial meas walk) ++ R) r.1 ((w_X ad cI cC cS r.2.1 r.2.2 snap has text trial meas walk) ++ R) := by
  refine XI.of (cc := cX6_undo) (maxL := 1) (ty := .int) (own := RX6) (by decide) rfl rfl (Nat.le_of_ble_eq_true rfl) ?_
  intro p e s m args below meth c A Q S hK hN hA hP hD hS ls hl hret
  obtain ⟨hx, hb, hml, hown, hts⟩ := id S
  have hl : lv_has ls 1 [(0, .ref (ad 0 0))] := hl
  unfold f_X6_undo at hf
  refine lv_aload_n hx hb dX6_undo_0 rfl (lv_at hl 0 rfl) ?_
  refine va_get (D := D) (ci := 6) (v := .ref ((ad 2) 0)) (C := RX6) (T := TX6) (N := 8) hx hb hts inw_X6_undo_6 hown hK hP 0 rfl rfl 1 (by decide) (hts (.fieldLink RX6 19 "RingGames" "history" "LRingGames$History;") (List.mem_of_getElem? (i := 1) rfl)) (fun _ h9 => h9) rfl dX6_undo_1 ?_
  refine lv_aload_n hx hb dX6_undo_4 rfl (lv_at hl 0 rfl) ?_
  refine va_get (D := D) (ci := 6) (v := .ref ((ad 1) 0)) (C := RX6) (T := TX6) (N := 8) hx hb hts inw_X6_undo_6 hown hK hP 0 rfl rfl 0 (by decide) (hts (.fieldLink RX6 12 "RingGames" "now" "LRingGames$State;") (List.mem_of_getElem? (i := 2) rfl)) (fun _ h9 => h9) rfl dX6_undo_5 ?_
  obtain ⟨q1, hq1, hf⟩ := ob_some hf
  refine xcVi (w' := ((w_X ad cI cC cS q1.2.2 q1.2.1 snap has text trial meas walk) ++ R)) S hK hN hA hP hD hS (c_X2_takeInto l D cI cC cS ((xr 50 [7, 8, 9, 10, 11, 12, 13, 14, 15, 16, 17, 18, 19, 20, 21, 22, 23, 24, 25, 26, 27, 28, 29, 30, 31, 32, 1, 2, 3, 4, 5, 6]).filterMap (fun i => (w_X ad cI cC cS now hist snap has text trial meas walk)[i]?) ++ R) (ad 2) (ad 1) hist now _ hq1) gX6_undo_X2_takeInto rfl hd_X2_takeInto ⟨by decide, by decide⟩ (x_cut (pre := (w_X ad cI cC cS now hist snap has text trial meas walk)) [7, 8, 9, 10, 11, 12, 13, 14, 15, 16, 17, 18, 19, 20, 21, 22, 23, 24, 25, 26, 27, 28, 29, 30, 31, 32, 1, 2, 3, 4, 5, 6] 50 rfl (by decide +kernel) rfl) (x_back (pre := (w_X ad cI cC cS now hist snap has text trial meas walk)) [7, 8, 9, 10, 11, 12, 13, 14, 15, 16, 17, 18, 19, 20, 21, 22, 23, 24, 25, 26, 27, 28, 29, 30, 31, 32, 1, 2, 3, 4, 5, 6] 50 rfl (by decide +kernel) rfl rfl) (ci := 2) (q := (RX2, TX2, 2)) rfl rfl rfl rfl hl.1 rfl (Nat.le_of_ble_eq_true rfl) dX6_undo_8 ⟨Nat.zero_le _, Nat.zero_le _⟩ (fun H locs hP hD hS => ?_)
  refine lv_if_eq (tgt := 24) hx hb dX6_undo_11 (by decide) (fun c2 => ?_) (fun c2 => ?_)
  · have hf := if_t hf c2
    refine lv_bipush (v := (-5)) hx hb dX6_undo_24 (by decide) ?_
    have hf := Option.some.inj hf
    subst hf
    exact hret _ _ _ _ _ dX6_undo_26 rfl hP hD hS rfl
  · have hf := if_f hf c2
    refine lv_aload_n hx hb dX6_undo_14 rfl (lv_at hl 0 rfl) ?_
    refine va_get (D := D) (ci := 6) (v := .ref ((ad 2) 0)) (C := RX6) (T := TX6) (N := 8) hx hb hts inw_X6_undo_6 hown hK hP 0 rfl rfl 1 (by decide) (hts (.fieldLink RX6 19 "RingGames" "history" "LRingGames$History;") (List.mem_of_getElem? (i := 1) rfl)) (fun _ h9 => h9) rfl dX6_undo_15 ?_
    refine va_get (D := D) (ci := 2) (v := .int q1.2.1.2) (C := RX2) (T := TX2) (N := 2) hx hb hts inw_X6_undo_2 hown hK hP 7 rfl rfl 1 (by decide) (hts (.fieldLink RX6 166 "RingGames$History" "count" "I") (List.mem_of_getElem? (i := 3) rfl)) (fun _ h9 => h9) rfl dX6_undo_18 ?_
    refine lv_goto (tgt := 26) hx hb dX6_undo_21 (by decide) ?_
    have hf := Option.some.inj hf
    subst hf
    exact hret _ _ _ _ _ dX6_undo_26 rfl hP hD hS rfl
def f_X6_keep (now : SS) (snap : SS) : Option (Int32 × SS × Int32) := (f_X4_become snap now).bind fun q1 => some (now.1.1, q1, 1)
theorem inw_X6_keep_1 : ∀ w ∈ wsX10, w ∈ wsX6_keep := fun _ h => List.mem_cons_of_mem _ (List.mem_append_right _ h)
theorem inw_X6_keep_4 : ∀ w ∈ wsX40, w ∈ wsX6_keep := fun _ h => List.mem_cons_of_mem _ (List.mem_append_left _ (List.mem_append_right _ h))
theorem inw_X6_keep_6 : ∀ w ∈ wsX60, w ∈ wsX6_keep := fun _ h => List.mem_cons_of_mem _ (List.mem_append_left _ (List.mem_append_left _ (List.mem_append_right _ h)))
theorem hd_X6_keep : yX6_keep.cls = RX6 ∧ yX6_keep.cls ≠ "java/lang/invoke/MethodHandle" ∧ yX6_keep.cls ≠ "java/lang/invoke/VarHandle" ∧ (parseMethodDescriptor yX6_keep.desc).map (fun d => d.parameters.length) = some 0 := by decide +kernel
set_option maxHeartbeats 4000000 in
set_option maxRecDepth 100000 in
theorem c_X6_keep (l : Launch) (D : va_G) (cI cC cS : ClassId) (R : va_W) (ad : Nat → Nat → Nat) (now : SS) (hist : HH) (snap : SS) (has : Int32) (text : TT) (trial : GG) (meas : EE) (walk : KK) (r : Int32 × SS × Int32) (hf : f_X6_keep now snap = some r) : CI l yX6_keep wsX6_keep 3 102 D cI cC cS [.ref (ad 0 0)] ((w_X ad cI cC cS now hist snap has text trial meas walk) ++ R) r.1 ((w_X ad cI cC cS now hist r.2.1 r.2.2 text trial meas walk) ++ R) := by
  refine XI.of (cc := cX6_keep) (maxL := 1) (ty := .int) (own := RX6) (by decide) rfl rfl (Nat.le_of_ble_eq_true rfl) ?_
  intro p e s m args below meth c A Q S hK hN hA hP hD hS ls hl hret
  obtain ⟨hx, hb, hml, hown, hts⟩ := id S
  have hl : lv_has ls 1 [(0, .ref (ad 0 0))] := hl
  unfold f_X6_keep at hf
  refine lv_aload_n hx hb dX6_keep_0 rfl (lv_at hl 0 rfl) ?_
  refine va_get (D := D) (ci := 6) (v := .ref ((ad 3) 0)) (C := RX6) (T := TX6) (N := 8) hx hb hts inw_X6_keep_6 hown hK hP 0 rfl rfl 2 (by decide) (hts (.fieldLink RX6 23 "RingGames" "snapshot" "LRingGames$State;") (List.mem_of_getElem? (i := 1) rfl)) (fun _ h9 => h9) rfl dX6_keep_1 ?_
  refine lv_aload_n hx hb dX6_keep_4 rfl (lv_at hl 0 rfl) ?_
  refine va_get (D := D) (ci := 6) (v := .ref ((ad 1) 0)) (C := RX6) (T := TX6) (N := 8) hx hb hts inw_X6_keep_6 hown hK hP 0 rfl rfl 0 (by decide) (hts (.fieldLink RX6 12 "RingGames" "now" "LRingGames$State;") (List.mem_of_getElem? (i := 2) rfl)) (fun _ h9 => h9) rfl dX6_keep_5 ?_
  obtain ⟨q1, hq1, hf⟩ := ob_some hf
  refine xcVv (w' := ((w_X ad cI cC cS now hist q1 has text trial meas walk) ++ R)) S hK hN hA hP hD hS (c_X4_become l D cI cC cS ((xr 50 [33, 34, 35, 36, 37, 38, 1, 2, 3, 4, 5, 6]).filterMap (fun i => (w_X ad cI cC cS now hist snap has text trial meas walk)[i]?) ++ R) (ad 3) (ad 1) snap now _ hq1) gX6_keep_X4_become rfl hd_X4_become ⟨by decide, by decide⟩ (x_cut (pre := (w_X ad cI cC cS now hist snap has text trial meas walk)) [33, 34, 35, 36, 37, 38, 1, 2, 3, 4, 5, 6] 50 rfl (by decide +kernel) rfl) (x_back (pre := (w_X ad cI cC cS now hist snap has text trial meas walk)) [33, 34, 35, 36, 37, 38, 1, 2, 3, 4, 5, 6] 50 rfl (by decide +kernel) rfl rfl) (ci := 4) (q := (RX4, TX4, 4)) rfl rfl rfl rfl hl.1 rfl (Nat.le_of_ble_eq_true rfl) dX6_keep_8 ⟨Nat.zero_le _, Nat.zero_le _⟩ (fun H locs hP hD hS => ?_)
  refine lv_aload_n hx hb dX6_keep_11 rfl (lv_at hl 0 rfl) ?_
  refine lv_iconst (v := 1) hx hb dX6_keep_12 (by decide) ?_
  refine va_put (D := D) (ci := 6) (v := .int 1) (ty := .boolean) (C := RX6) (T := TX6) (N := 8) hx hb hts inw_X6_keep_6 tyX6 tyX6_ok nmX6 hown hK hP hD hS 0 rfl rfl 3 (by decide) (hts (.fieldLink RX6 26 "RingGames" "hasSnapshot" "Z") (List.mem_of_getElem? (i := 3) rfl)) (fun _ h9 => h9) rfl (tyX6_ok 3 (by decide)) rfl rfl (Nat.le_of_ble_eq_true rfl) dX6_keep_13 (fun H locs hP hD hS => ?_)
  have hP : va_P D vwCl ((w_X ad cI cC cS now hist q1 1 text trial meas walk) ++ R) H := hP
  have hD : va_D A ((w_X ad cI cC cS now hist q1 1 text trial meas walk) ++ R) := hD
  refine lv_aload_n hx hb dX6_keep_16 rfl (lv_at hl 0 rfl) ?_
  refine va_get (D := D) (ci := 6) (v := .ref ((ad 1) 0)) (C := RX6) (T := TX6) (N := 8) hx hb hts inw_X6_keep_6 hown hK hP 0 rfl rfl 0 (by decide) (hts (.fieldLink RX6 12 "RingGames" "now" "LRingGames$State;") (List.mem_of_getElem? (i := 2) rfl)) (fun _ h9 => h9) rfl dX6_keep_17 ?_
  refine va_get (D := D) (ci := 4) (v := .ref ((ad 1) 2)) (C := RX4) (T := TX4) (N := 4) hx hb hts inw_X6_keep_4 hown hK hP 1 rfl rfl 0 (by decide) (hts (.fieldLink RX6 65 "RingGames$State" "game" "LRingGames$Game;") (List.mem_of_getElem? (i := 4) rfl)) (fun _ h9 => h9) rfl dX6_keep_20 ?_
  refine va_get (D := D) (ci := 1) (v := .int now.1.1) (C := RX1) (T := TX1) (N := 4) hx hb hts inw_X6_keep_1 hown hK hP 3 rfl rfl 0 (by decide) (hts (.fieldLink RX6 68 "RingGames$Game" "size" "I") (List.mem_of_getElem? (i := 5) rfl)) (fun _ h9 => h9) rfl dX6_keep_23 ?_
  have hf := Option.some.inj hf
  subst hf
  exact hret _ _ _ _ _ dX6_keep_26 rfl hP hD hS rfl
def f_X6_restore (now : SS) (hist : HH) (snap : SS) (has : Int32) : Option (Int32 × SS × HH) := (if has = 0 then some ((-5), now, hist) else (f_X2_remember hist now).bind fun q2 => (f_X4_become now snap).bind fun q3 => some (q3.1.1, q3, q2))
theorem inw_X6_restore_1 : ∀ w ∈ wsX10, w ∈ wsX6_restore := fun _ h => List.mem_cons_of_mem _ (List.mem_append_left _ (List.mem_append_right _ h))
theorem inw_X6_restore_4 : ∀ w ∈ wsX40, w ∈ wsX6_restore := fun _ h => List.mem_cons_of_mem _ (List.mem_append_left _ (List.mem_append_left _ (List.mem_append_right _ h)))
theorem inw_X6_restore_6 : ∀ w ∈ wsX60, w ∈ wsX6_restore := fun _ h => List.mem_cons_of_mem _ (List.mem_append_left _ (List.mem_append_left _ (List.mem_append_left _ (List.mem_append_right _ h))))
theorem hd_X6_restore : yX6_restore.cls = RX6 ∧ yX6_restore.cls ≠ "java/lang/invoke/MethodHandle" ∧ yX6_restore.cls ≠ "java/lang/invoke/VarHandle" ∧ (parseMethodDescriptor yX6_restore.desc).map (fun d => d.parameters.length) = some 0 := by decide +kernel
set_option maxHeartbeats 4000000 in
set_option maxRecDepth 100000 in
theorem c_X6_restore (l : Launch) (D : va_G) (cI cC cS : ClassId) (R : va_W) (ad : Nat → Nat → Nat) (now : SS) (hist : HH) (snap : SS) (has : Int32) (text : TT) (trial : GG) (meas : EE) (walk : KK) (r : Int32 × SS × HH) (hf : f_X6_restore now hist snap has = some r) : CI l yX6_restore wsX6_restore 4 123 D cI cC cS [.ref (ad 0 0)] ((w_X ad cI cC cS now hist snap has text trial meas walk) ++ R) r.1 ((w_X ad cI cC cS r.2.1 r.2.2 snap has text trial meas walk) ++ R) := by
  refine XI.of (cc := cX6_restore) (maxL := 1) (ty := .int) (own := RX6) (by decide) rfl rfl (Nat.le_of_ble_eq_true rfl) ?_
  intro p e s m args below meth c A Q S hK hN hA hP hD hS ls hl hret
  obtain ⟨hx, hb, hml, hown, hts⟩ := id S
  have hl : lv_has ls 1 [(0, .ref (ad 0 0))] := hl
  unfold f_X6_restore at hf
  refine lv_aload_n hx hb dX6_restore_0 rfl (lv_at hl 0 rfl) ?_
  refine va_get (D := D) (ci := 6) (v := .int has) (C := RX6) (T := TX6) (N := 8) hx hb hts inw_X6_restore_6 hown hK hP 0 rfl rfl 3 (by decide) (hts (.fieldLink RX6 26 "RingGames" "hasSnapshot" "Z") (List.mem_of_getElem? (i := 1) rfl)) (fun _ h9 => h9) rfl dX6_restore_1 ?_
  refine lv_if_ne (tgt := 10) hx hb dX6_restore_4 (by decide) (fun c1 => ?_) (fun c1 => ?_)
  · have hf := if_f hf c1
    refine lv_aload_n hx hb dX6_restore_10 rfl (lv_at hl 0 rfl) ?_
    refine va_get (D := D) (ci := 6) (v := .ref ((ad 2) 0)) (C := RX6) (T := TX6) (N := 8) hx hb hts inw_X6_restore_6 hown hK hP 0 rfl rfl 1 (by decide) (hts (.fieldLink RX6 19 "RingGames" "history" "LRingGames$History;") (List.mem_of_getElem? (i := 2) rfl)) (fun _ h9 => h9) rfl dX6_restore_11 ?_
    refine lv_aload_n hx hb dX6_restore_14 rfl (lv_at hl 0 rfl) ?_
    refine va_get (D := D) (ci := 6) (v := .ref ((ad 1) 0)) (C := RX6) (T := TX6) (N := 8) hx hb hts inw_X6_restore_6 hown hK hP 0 rfl rfl 0 (by decide) (hts (.fieldLink RX6 12 "RingGames" "now" "LRingGames$State;") (List.mem_of_getElem? (i := 3) rfl)) (fun _ h9 => h9) rfl dX6_restore_15 ?_
    obtain ⟨q2, hq2, hf⟩ := ob_some hf
    refine xcVv (w' := ((w_X ad cI cC cS now q2 snap has text trial meas walk) ++ R)) S hK hN hA hP hD hS (c_X2_remember l D cI cC cS ((xr 50 [7, 8, 9, 10, 11, 12, 13, 14, 15, 16, 17, 18, 19, 20, 21, 22, 23, 24, 25, 26, 27, 28, 29, 30, 31, 32, 1, 2, 3, 4, 5, 6]).filterMap (fun i => (w_X ad cI cC cS now hist snap has text trial meas walk)[i]?) ++ R) (ad 2) (ad 1) hist now _ hq2) gX6_restore_X2_remember rfl hd_X2_remember ⟨by decide, by decide⟩ (x_cut (pre := (w_X ad cI cC cS now hist snap has text trial meas walk)) [7, 8, 9, 10, 11, 12, 13, 14, 15, 16, 17, 18, 19, 20, 21, 22, 23, 24, 25, 26, 27, 28, 29, 30, 31, 32, 1, 2, 3, 4, 5, 6] 50 rfl (by decide +kernel) rfl) (x_back (pre := (w_X ad cI cC cS now hist snap has text trial meas walk)) [7, 8, 9, 10, 11, 12, 13, 14, 15, 16, 17, 18, 19, 20, 21, 22, 23, 24, 25, 26, 27, 28, 29, 30, 31, 32, 1, 2, 3, 4, 5, 6] 50 rfl (by decide +kernel) rfl rfl) (ci := 2) (q := (RX2, TX2, 2)) rfl rfl rfl rfl hl.1 rfl (Nat.le_of_ble_eq_true rfl) dX6_restore_18 ⟨Nat.zero_le _, Nat.zero_le _⟩ (fun H locs hP hD hS => ?_)
    refine lv_aload_n hx hb dX6_restore_21 rfl (lv_at hl 0 rfl) ?_
    refine va_get (D := D) (ci := 6) (v := .ref ((ad 1) 0)) (C := RX6) (T := TX6) (N := 8) hx hb hts inw_X6_restore_6 hown hK hP 0 rfl rfl 0 (by decide) (hts (.fieldLink RX6 12 "RingGames" "now" "LRingGames$State;") (List.mem_of_getElem? (i := 3) rfl)) (fun _ h9 => h9) rfl dX6_restore_22 ?_
    refine lv_aload_n hx hb dX6_restore_25 rfl (lv_at hl 0 rfl) ?_
    refine va_get (D := D) (ci := 6) (v := .ref ((ad 3) 0)) (C := RX6) (T := TX6) (N := 8) hx hb hts inw_X6_restore_6 hown hK hP 0 rfl rfl 2 (by decide) (hts (.fieldLink RX6 23 "RingGames" "snapshot" "LRingGames$State;") (List.mem_of_getElem? (i := 4) rfl)) (fun _ h9 => h9) rfl dX6_restore_26 ?_
    obtain ⟨q3, hq3, hf⟩ := ob_some hf
    refine xcVv (w' := ((w_X ad cI cC cS q3 q2 snap has text trial meas walk) ++ R)) S hK hN hA hP hD hS (c_X4_become l D cI cC cS ((xr 50 [1, 2, 3, 4, 5, 6, 33, 34, 35, 36, 37, 38]).filterMap (fun i => (w_X ad cI cC cS now q2 snap has text trial meas walk)[i]?) ++ R) (ad 1) (ad 3) now snap _ hq3) gX6_restore_X4_become rfl hd_X4_become ⟨by decide, by decide⟩ (x_cut (pre := (w_X ad cI cC cS now q2 snap has text trial meas walk)) [1, 2, 3, 4, 5, 6, 33, 34, 35, 36, 37, 38] 50 rfl (by decide +kernel) rfl) (x_back (pre := (w_X ad cI cC cS now q2 snap has text trial meas walk)) [1, 2, 3, 4, 5, 6, 33, 34, 35, 36, 37, 38] 50 rfl (by decide +kernel) rfl rfl) (ci := 4) (q := (RX4, TX4, 4)) rfl rfl rfl rfl hl.1 rfl (Nat.le_of_ble_eq_true rfl) dX6_restore_29 ⟨Nat.zero_le _, Nat.zero_le _⟩ (fun H locs hP hD hS => ?_)
    refine lv_aload_n hx hb dX6_restore_32 rfl (lv_at hl 0 rfl) ?_
    refine va_get (D := D) (ci := 6) (v := .ref ((ad 1) 0)) (C := RX6) (T := TX6) (N := 8) hx hb hts inw_X6_restore_6 hown hK hP 0 rfl rfl 0 (by decide) (hts (.fieldLink RX6 12 "RingGames" "now" "LRingGames$State;") (List.mem_of_getElem? (i := 3) rfl)) (fun _ h9 => h9) rfl dX6_restore_33 ?_
    refine va_get (D := D) (ci := 4) (v := .ref ((ad 1) 2)) (C := RX4) (T := TX4) (N := 4) hx hb hts inw_X6_restore_4 hown hK hP 1 rfl rfl 0 (by decide) (hts (.fieldLink RX6 65 "RingGames$State" "game" "LRingGames$Game;") (List.mem_of_getElem? (i := 5) rfl)) (fun _ h9 => h9) rfl dX6_restore_36 ?_
    refine va_get (D := D) (ci := 1) (v := .int q3.1.1) (C := RX1) (T := TX1) (N := 4) hx hb hts inw_X6_restore_1 hown hK hP 3 rfl rfl 0 (by decide) (hts (.fieldLink RX6 68 "RingGames$Game" "size" "I") (List.mem_of_getElem? (i := 6) rfl)) (fun _ h9 => h9) rfl dX6_restore_39 ?_
    have hf := Option.some.inj hf
    subst hf
    exact hret _ _ _ _ _ dX6_restore_42 rfl hP hD hS rfl
  · have hf := if_t hf c1
    refine lv_bipush (v := (-5)) hx hb dX6_restore_7 (by decide) ?_
    have hf := Option.some.inj hf
    subst hf
    exact hret _ _ _ _ _ dX6_restore_9 rfl hP hD hS rfl
def f_X6_place (n : Nat) (now : SS) (trial : GG) (meas : EE) (p1 : Int32) (p2 : Int32) : Option (Int32 × GG × EE) := (f_X1_has now.1 p1).bind fun q1 => (if q1 = 0 then some ((-1), trial, meas) else (if p2 = 0 then vg p1 14 (some ((now.1.2.1 (p1).toNatClampNeg), trial, meas)) else (if p2 = 1 then vg p1 14 (some ((now.1.2.2.1 (p1).toNatClampNeg), trial, meas)) else (if p2 = 2 then vg p1 14 (some ((now.1.2.2.2 (p1).toNatClampNeg), trial, meas)) else (if p2 = 3 then (f_X6_bit p1).bind fun q7 => (f_X1_sources n now.1 q7).bind fun q8 => some (q8, trial, meas) else (if p2 = 4 then (f_X6_winnerOf n now trial meas p1).bind fun q9 => some (q9.1, q9.2.1, q9.2.2) else (if p2 = 5 then vg p1 14 ((f_X6_placeOrNone (now.2.1 (p1).toNatClampNeg)).bind fun q11 => some (q11, trial, meas)) else some ((-2), trial, meas))))))))
theorem inw_X6_place_1 : ∀ w ∈ wsX10, w ∈ wsX6_place := fun _ h => List.mem_cons_of_mem _ (List.mem_append_left _ (List.mem_append_right _ h))
theorem inw_X6_place_4 : ∀ w ∈ wsX40, w ∈ wsX6_place := fun _ h => List.mem_cons_of_mem _ (List.mem_append_left _ (List.mem_append_left _ (List.mem_append_right _ h)))
theorem inw_X6_place_6 : ∀ w ∈ wsX60, w ∈ wsX6_place := fun _ h => List.mem_cons_of_mem _ (List.mem_append_left _ (List.mem_append_left _ (List.mem_append_left _ (List.mem_append_right _ h))))
theorem hd_X6_place : yX6_place.cls = RX6 ∧ yX6_place.cls ≠ "java/lang/invoke/MethodHandle" ∧ yX6_place.cls ≠ "java/lang/invoke/VarHandle" ∧ (parseMethodDescriptor yX6_place.desc).map (fun d => d.parameters.length) = some 2 := by decide +kernel
set_option maxHeartbeats 4000000 in
set_option maxRecDepth 100000 in
theorem c_X6_place (l : Launch) (D : va_G) (cI cC cS : ClassId) (R : va_W) (ad : Nat → Nat → Nat) (now : SS) (hist : HH) (snap : SS) (has : Int32) (text : TT) (trial : GG) (meas : EE) (walk : KK) (p1 : Int32) (p2 : Int32) (n : Nat) (r : Int32 × GG × EE) (hf : f_X6_place n now trial meas p1 p2 = some r) : CI l yX6_place wsX6_place 6 154 D cI cC cS [.ref (ad 0 0), .int p1, .int p2] ((w_X ad cI cC cS now hist snap has text trial meas walk) ++ R) r.1 ((w_X ad cI cC cS now hist snap has text r.2.1 r.2.2 walk) ++ R) := by
  refine XI.of (cc := cX6_place) (maxL := 3) (ty := .int) (own := RX6) (by decide) rfl rfl (Nat.le_of_ble_eq_true rfl) ?_
  intro p e s m args below meth c A Q S hK hN hA hP hD hS ls hl hret
  obtain ⟨hx, hb, hml, hown, hts⟩ := id S
  have hl : lv_has ls 3 [(0, .ref (ad 0 0)), (1, .int p1), (2, .int p2)] := hl
  unfold f_X6_place at hf
  refine lv_aload_n hx hb dX6_place_0 rfl (lv_at hl 0 rfl) ?_
  refine va_get (D := D) (ci := 6) (v := .ref ((ad 1) 0)) (C := RX6) (T := TX6) (N := 8) hx hb hts inw_X6_place_6 hown hK hP 0 rfl rfl 0 (by decide) (hts (.fieldLink RX6 12 "RingGames" "now" "LRingGames$State;") (List.mem_of_getElem? (i := 1) rfl)) (fun _ h9 => h9) rfl dX6_place_1 ?_
  refine va_get (D := D) (ci := 4) (v := .ref ((ad 1) 2)) (C := RX4) (T := TX4) (N := 4) hx hb hts inw_X6_place_4 hown hK hP 1 rfl rfl 0 (by decide) (hts (.fieldLink RX6 65 "RingGames$State" "game" "LRingGames$Game;") (List.mem_of_getElem? (i := 2) rfl)) (fun _ h9 => h9) rfl dX6_place_4 ?_
  refine lv_iload_n hx hb dX6_place_7 rfl (lv_at hl 1 rfl) ?_
  obtain ⟨q1, hq1, hf⟩ := ob_some hf
  refine xcVi (w' := ((w_X ad cI cC cS now hist snap has text trial meas walk) ++ R)) S hK hN hA hP hD hS (c_X1_has l D cI cC cS ((xr 50 [3, 4, 5, 6]).filterMap (fun i => (w_X ad cI cC cS now hist snap has text trial meas walk)[i]?) ++ R) (fun k => (ad 1) (k + 2)) now.1 p1 _ hq1) gX6_place_X1_has rfl hd_X1_has ⟨by decide, by decide⟩ (x_cut (pre := (w_X ad cI cC cS now hist snap has text trial meas walk)) [3, 4, 5, 6] 50 rfl (by decide +kernel) rfl) (x_cut (pre := (w_X ad cI cC cS now hist snap has text trial meas walk)) [3, 4, 5, 6] 50 rfl (by decide +kernel) rfl).symm (ci := 1) (q := (RX1, TX1, 4)) rfl rfl rfl rfl hl.1 rfl (Nat.le_of_ble_eq_true rfl) dX6_place_8 ⟨Nat.zero_le _, Nat.zero_le _⟩ (fun H locs hP hD hS => ?_)
  refine lv_if_ne (tgt := 16) hx hb dX6_place_11 (by decide) (fun c2 => ?_) (fun c2 => ?_)
  · have hf := if_f hf c2
    refine lv_iload_n hx hb dX6_place_16 rfl (lv_at hl 2 rfl) ?_
    by_cases c3_0 : p2 = 0
    · have hf := if_t hf c3_0
      refine lv_tableIn (tgt := 56) hx hb dX6_place_17 (by rw [c3_0]; decide) (by rw [c3_0]; decide) (by rw [c3_0]; rfl) (by decide) ?_
      refine lv_aload_n hx hb dX6_place_56 rfl (lv_at hl 0 rfl) ?_
      refine va_get (D := D) (ci := 6) (v := .ref ((ad 1) 0)) (C := RX6) (T := TX6) (N := 8) hx hb hts inw_X6_place_6 hown hK hP 0 rfl rfl 0 (by decide) (hts (.fieldLink RX6 12 "RingGames" "now" "LRingGames$State;") (List.mem_of_getElem? (i := 1) rfl)) (fun _ h9 => h9) rfl dX6_place_57 ?_
      refine va_get (D := D) (ci := 4) (v := .ref ((ad 1) 2)) (C := RX4) (T := TX4) (N := 4) hx hb hts inw_X6_place_4 hown hK hP 1 rfl rfl 0 (by decide) (hts (.fieldLink RX6 65 "RingGames$State" "game" "LRingGames$Game;") (List.mem_of_getElem? (i := 2) rfl)) (fun _ h9 => h9) rfl dX6_place_60 ?_
      refine va_get (D := D) (ci := 1) (v := .ref ((ad 1) 3)) (C := RX1) (T := TX1) (N := 4) hx hb hts inw_X6_place_1 hown hK hP 3 rfl rfl 1 (by decide) (hts (.fieldLink RX6 83 "RingGames$Game" "owners" "[I") (List.mem_of_getElem? (i := 3) rfl)) (fun _ h9 => h9) rfl dX6_place_63 ?_
      refine lv_iload_n hx hb dX6_place_66 rfl (lv_at hl 1 rfl) ?_
      obtain ⟨g4, hf⟩ := vg_some hf
      refine va_iald hx hb hK hP 4 0 rfl rfl g4 dX6_place_67 ?_
      have hf := Option.some.inj hf
      subst hf
      exact hret _ _ _ _ _ dX6_place_68 rfl hP hD hS rfl
    have hf := if_f hf c3_0
    by_cases c3_1 : p2 = 1
    · have hf := if_t hf c3_1
      refine lv_tableIn (tgt := 69) hx hb dX6_place_17 (by rw [c3_1]; decide) (by rw [c3_1]; decide) (by rw [c3_1]; rfl) (by decide) ?_
      refine lv_aload_n hx hb dX6_place_69 rfl (lv_at hl 0 rfl) ?_
      refine va_get (D := D) (ci := 6) (v := .ref ((ad 1) 0)) (C := RX6) (T := TX6) (N := 8) hx hb hts inw_X6_place_6 hown hK hP 0 rfl rfl 0 (by decide) (hts (.fieldLink RX6 12 "RingGames" "now" "LRingGames$State;") (List.mem_of_getElem? (i := 1) rfl)) (fun _ h9 => h9) rfl dX6_place_70 ?_
      refine va_get (D := D) (ci := 4) (v := .ref ((ad 1) 2)) (C := RX4) (T := TX4) (N := 4) hx hb hts inw_X6_place_4 hown hK hP 1 rfl rfl 0 (by decide) (hts (.fieldLink RX6 65 "RingGames$State" "game" "LRingGames$Game;") (List.mem_of_getElem? (i := 2) rfl)) (fun _ h9 => h9) rfl dX6_place_73 ?_
      refine va_get (D := D) (ci := 1) (v := .ref ((ad 1) 4)) (C := RX1) (T := TX1) (N := 4) hx hb hts inw_X6_place_1 hown hK hP 3 rfl rfl 2 (by decide) (hts (.fieldLink RX6 91 "RingGames$Game" "colours" "[I") (List.mem_of_getElem? (i := 4) rfl)) (fun _ h9 => h9) rfl dX6_place_76 ?_
      refine lv_iload_n hx hb dX6_place_79 rfl (lv_at hl 1 rfl) ?_
      obtain ⟨g5, hf⟩ := vg_some hf
      refine va_iald hx hb hK hP 5 0 rfl rfl g5 dX6_place_80 ?_
      have hf := Option.some.inj hf
      subst hf
      exact hret _ _ _ _ _ dX6_place_81 rfl hP hD hS rfl
    have hf := if_f hf c3_1
    by_cases c3_2 : p2 = 2
    · have hf := if_t hf c3_2
      refine lv_tableIn (tgt := 82) hx hb dX6_place_17 (by rw [c3_2]; decide) (by rw [c3_2]; decide) (by rw [c3_2]; rfl) (by decide) ?_
      refine lv_aload_n hx hb dX6_place_82 rfl (lv_at hl 0 rfl) ?_
      refine va_get (D := D) (ci := 6) (v := .ref ((ad 1) 0)) (C := RX6) (T := TX6) (N := 8) hx hb hts inw_X6_place_6 hown hK hP 0 rfl rfl 0 (by decide) (hts (.fieldLink RX6 12 "RingGames" "now" "LRingGames$State;") (List.mem_of_getElem? (i := 1) rfl)) (fun _ h9 => h9) rfl dX6_place_83 ?_
      refine va_get (D := D) (ci := 4) (v := .ref ((ad 1) 2)) (C := RX4) (T := TX4) (N := 4) hx hb hts inw_X6_place_4 hown hK hP 1 rfl rfl 0 (by decide) (hts (.fieldLink RX6 65 "RingGames$State" "game" "LRingGames$Game;") (List.mem_of_getElem? (i := 2) rfl)) (fun _ h9 => h9) rfl dX6_place_86 ?_
      refine va_get (D := D) (ci := 1) (v := .ref ((ad 1) 5)) (C := RX1) (T := TX1) (N := 4) hx hb hts inw_X6_place_1 hown hK hP 3 rfl rfl 3 (by decide) (hts (.fieldLink RX6 102 "RingGames$Game" "arrows" "[I") (List.mem_of_getElem? (i := 5) rfl)) (fun _ h9 => h9) rfl dX6_place_89 ?_
      refine lv_iload_n hx hb dX6_place_92 rfl (lv_at hl 1 rfl) ?_
      obtain ⟨g6, hf⟩ := vg_some hf
      refine va_iald hx hb hK hP 6 0 rfl rfl g6 dX6_place_93 ?_
      have hf := Option.some.inj hf
      subst hf
      exact hret _ _ _ _ _ dX6_place_94 rfl hP hD hS rfl
    have hf := if_f hf c3_2
    by_cases c3_3 : p2 = 3
    · have hf := if_t hf c3_3
      refine lv_tableIn (tgt := 95) hx hb dX6_place_17 (by rw [c3_3]; decide) (by rw [c3_3]; decide) (by rw [c3_3]; rfl) (by decide) ?_
      refine lv_aload_n hx hb dX6_place_95 rfl (lv_at hl 0 rfl) ?_
      refine va_get (D := D) (ci := 6) (v := .ref ((ad 1) 0)) (C := RX6) (T := TX6) (N := 8) hx hb hts inw_X6_place_6 hown hK hP 0 rfl rfl 0 (by decide) (hts (.fieldLink RX6 12 "RingGames" "now" "LRingGames$State;") (List.mem_of_getElem? (i := 1) rfl)) (fun _ h9 => h9) rfl dX6_place_96 ?_
      refine va_get (D := D) (ci := 4) (v := .ref ((ad 1) 2)) (C := RX4) (T := TX4) (N := 4) hx hb hts inw_X6_place_4 hown hK hP 1 rfl rfl 0 (by decide) (hts (.fieldLink RX6 65 "RingGames$State" "game" "LRingGames$Game;") (List.mem_of_getElem? (i := 2) rfl)) (fun _ h9 => h9) rfl dX6_place_99 ?_
      refine lv_iload_n hx hb dX6_place_102 rfl (lv_at hl 1 rfl) ?_
      obtain ⟨q7, hq7, hf⟩ := ob_some hf
      refine xcSi S hK hN hA hP hD hS (c_X6_bit l D cI cC cS ((w_X ad cI cC cS now hist snap has text trial meas walk) ++ R) p1 _ hq7) gX6_place_X6_bit rfl hd_X6_bit ⟨by decide, by decide⟩ rfl hl.1 rfl (Nat.le_of_ble_eq_true rfl) dX6_place_103 ⟨Nat.zero_le _, Nat.zero_le _⟩ (fun H locs hP hD hS => ?_)
      obtain ⟨q8, hq8, hf⟩ := ob_some hf
      refine xcVi (w' := ((w_X ad cI cC cS now hist snap has text trial meas walk) ++ R)) S hK hN hA hP hD hS (c_X1_sources l D cI cC cS ((xr 50 [3, 4, 5, 6]).filterMap (fun i => (w_X ad cI cC cS now hist snap has text trial meas walk)[i]?) ++ R) (fun k => (ad 1) (k + 2)) now.1 q7 n _ hq8) gX6_place_X1_sources rfl hd_X1_sources ⟨by decide, by decide⟩ (x_cut (pre := (w_X ad cI cC cS now hist snap has text trial meas walk)) [3, 4, 5, 6] 50 rfl (by decide +kernel) rfl) (x_cut (pre := (w_X ad cI cC cS now hist snap has text trial meas walk)) [3, 4, 5, 6] 50 rfl (by decide +kernel) rfl).symm (ci := 1) (q := (RX1, TX1, 4)) rfl rfl rfl rfl hl.1 rfl (Nat.le_of_ble_eq_true rfl) dX6_place_106 ⟨Nat.zero_le _, Nat.zero_le _⟩ (fun H locs hP hD hS => ?_)
      have hf := Option.some.inj hf
      subst hf
      exact hret _ _ _ _ _ dX6_place_109 rfl hP hD hS rfl
    have hf := if_f hf c3_3
    by_cases c3_4 : p2 = 4
    · have hf := if_t hf c3_4
      refine lv_tableIn (tgt := 110) hx hb dX6_place_17 (by rw [c3_4]; decide) (by rw [c3_4]; decide) (by rw [c3_4]; rfl) (by decide) ?_
      refine lv_aload_n hx hb dX6_place_110 rfl (lv_at hl 0 rfl) ?_
      refine lv_iload_n hx hb dX6_place_111 rfl (lv_at hl 1 rfl) ?_
      obtain ⟨q9, hq9, hf⟩ := ob_some hf
      refine xcVi (w' := ((w_X ad cI cC cS now hist snap has text q9.2.1 q9.2.2 walk) ++ R)) S hK hN hA hP hD hS (c_X6_winnerOf l D cI cC cS R ad now hist snap has text trial meas walk p1 n _ hq9) gX6_place_X6_winnerOf rfl hd_X6_winnerOf ⟨by decide, by decide⟩ (List.Perm.refl _) (List.Perm.refl _) (ci := 6) (q := (RX6, TX6, 8)) rfl rfl rfl rfl hl.1 rfl (Nat.le_of_ble_eq_true rfl) dX6_place_112 ⟨Nat.zero_le _, Nat.zero_le _⟩ (fun H locs hP hD hS => ?_)
      have hf := Option.some.inj hf
      subst hf
      exact hret _ _ _ _ _ dX6_place_115 rfl hP hD hS rfl
    have hf := if_f hf c3_4
    by_cases c3_5 : p2 = 5
    · have hf := if_t hf c3_5
      refine lv_tableIn (tgt := 116) hx hb dX6_place_17 (by rw [c3_5]; decide) (by rw [c3_5]; decide) (by rw [c3_5]; rfl) (by decide) ?_
      refine lv_aload_n hx hb dX6_place_116 rfl (lv_at hl 0 rfl) ?_
      refine va_get (D := D) (ci := 6) (v := .ref ((ad 1) 0)) (C := RX6) (T := TX6) (N := 8) hx hb hts inw_X6_place_6 hown hK hP 0 rfl rfl 0 (by decide) (hts (.fieldLink RX6 12 "RingGames" "now" "LRingGames$State;") (List.mem_of_getElem? (i := 1) rfl)) (fun _ h9 => h9) rfl dX6_place_117 ?_
      refine va_get (D := D) (ci := 4) (v := .ref ((ad 1) 1)) (C := RX4) (T := TX4) (N := 4) hx hb hts inw_X6_place_4 hown hK hP 1 rfl rfl 1 (by decide) (hts (.fieldLink RX6 113 "RingGames$State" "choices" "[I") (List.mem_of_getElem? (i := 6) rfl)) (fun _ h9 => h9) rfl dX6_place_120 ?_
      refine lv_iload_n hx hb dX6_place_123 rfl (lv_at hl 1 rfl) ?_
      obtain ⟨g10, hf⟩ := vg_some hf
      refine va_iald hx hb hK hP 2 0 rfl rfl g10 dX6_place_124 ?_
      obtain ⟨q11, hq11, hf⟩ := ob_some hf
      refine xcSi S hK hN hA hP hD hS (c_X6_placeOrNone l D cI cC cS ((w_X ad cI cC cS now hist snap has text trial meas walk) ++ R) (now.2.1 (p1).toNatClampNeg) _ hq11) gX6_place_X6_placeOrNone rfl hd_X6_placeOrNone ⟨by decide, by decide⟩ rfl hl.1 rfl (Nat.le_of_ble_eq_true rfl) dX6_place_125 ⟨Nat.zero_le _, Nat.zero_le _⟩ (fun H locs hP hD hS => ?_)
      have hf := Option.some.inj hf
      subst hf
      exact hret _ _ _ _ _ dX6_place_128 rfl hP hD hS rfl
    have hf := if_f hf c3_5
    have ec3_0 : (p2).toInt ≠ 0 := x_ne (k := 0) c3_0
    have ec3_1 : (p2).toInt ≠ 1 := x_ne (k := 1) c3_1
    have ec3_2 : (p2).toInt ≠ 2 := x_ne (k := 2) c3_2
    have ec3_3 : (p2).toInt ≠ 3 := x_ne (k := 3) c3_3
    have ec3_4 : (p2).toInt ≠ 4 := x_ne (k := 4) c3_4
    have ec3_5 : (p2).toInt ≠ 5 := x_ne (k := 5) c3_5
    refine lv_tableOut (tgt := 129) hx hb dX6_place_17 (by omega) (by decide) ?_
    refine lv_bipush (v := (-2)) hx hb dX6_place_129 (by decide) ?_
    have hf := Option.some.inj hf
    subst hf
    exact hret _ _ _ _ _ dX6_place_131 rfl hP hD hS rfl
  · have hf := if_t hf c2
    refine lv_iconst (v := (-1)) hx hb dX6_place_14 (by decide) ?_
    have hf := Option.some.inj hf
    subst hf
    exact hret _ _ _ _ _ dX6_place_15 rfl hP hD hS rfl
def f_X6_wins (n : Nat) (now : SS) (trial : GG) (meas : EE) (p1 : Int32) : Option (Int32 × GG × EE) := (f_X6_isPlayer p1).bind fun q1 => (if q1 = 0 then some ((-1), trial, meas) else (f_X6_wonBy n now trial meas p1).bind fun q3 => some (q3.1, q3.2.1, q3.2.2))
theorem hd_X6_wins : yX6_wins.cls = RX6 ∧ yX6_wins.cls ≠ "java/lang/invoke/MethodHandle" ∧ yX6_wins.cls ≠ "java/lang/invoke/VarHandle" ∧ (parseMethodDescriptor yX6_wins.desc).map (fun d => d.parameters.length) = some 1 := by decide +kernel
set_option maxHeartbeats 4000000 in
set_option maxRecDepth 100000 in
theorem c_X6_wins (l : Launch) (D : va_G) (cI cC cS : ClassId) (R : va_W) (ad : Nat → Nat → Nat) (now : SS) (hist : HH) (snap : SS) (has : Int32) (text : TT) (trial : GG) (meas : EE) (walk : KK) (p1 : Int32) (n : Nat) (r : Int32 × GG × EE) (hf : f_X6_wins n now trial meas p1 = some r) : CI l yX6_wins wsX6_wins 6 156 D cI cC cS [.ref (ad 0 0), .int p1] ((w_X ad cI cC cS now hist snap has text trial meas walk) ++ R) r.1 ((w_X ad cI cC cS now hist snap has text r.2.1 r.2.2 walk) ++ R) := by
  refine XI.of (cc := cX6_wins) (maxL := 2) (ty := .int) (own := RX6) (by decide) rfl rfl (Nat.le_of_ble_eq_true rfl) ?_
  intro p e s m args below meth c A Q S hK hN hA hP hD hS ls hl hret
  obtain ⟨hx, hb, hml, hown, hts⟩ := id S
  have hl : lv_has ls 2 [(0, .ref (ad 0 0)), (1, .int p1)] := hl
  unfold f_X6_wins at hf
  refine lv_iload_n hx hb dX6_wins_0 rfl (lv_at hl 1 rfl) ?_
  obtain ⟨q1, hq1, hf⟩ := ob_some hf
  refine xcSi S hK hN hA hP hD hS (c_X6_isPlayer l D cI cC cS ((w_X ad cI cC cS now hist snap has text trial meas walk) ++ R) p1 _ hq1) gX6_wins_X6_isPlayer rfl hd_X6_isPlayer ⟨by decide, by decide⟩ rfl hl.1 rfl (Nat.le_of_ble_eq_true rfl) dX6_wins_1 ⟨Nat.zero_le _, Nat.zero_le _⟩ (fun H locs hP hD hS => ?_)
  refine lv_if_eq (tgt := 15) hx hb dX6_wins_4 (by decide) (fun c2 => ?_) (fun c2 => ?_)
  · have hf := if_t hf c2
    refine lv_iconst (v := (-1)) hx hb dX6_wins_15 (by decide) ?_
    have hf := Option.some.inj hf
    subst hf
    exact hret _ _ _ _ _ dX6_wins_16 rfl hP hD hS rfl
  · have hf := if_f hf c2
    refine lv_aload_n hx hb dX6_wins_7 rfl (lv_at hl 0 rfl) ?_
    refine lv_iload_n hx hb dX6_wins_8 rfl (lv_at hl 1 rfl) ?_
    obtain ⟨q3, hq3, hf⟩ := ob_some hf
    refine xcVi (w' := ((w_X ad cI cC cS now hist snap has text q3.2.1 q3.2.2 walk) ++ R)) S hK hN hA hP hD hS (c_X6_wonBy l D cI cC cS R ad now hist snap has text trial meas walk p1 n _ hq3) gX6_wins_X6_wonBy rfl hd_X6_wonBy ⟨by decide, by decide⟩ (List.Perm.refl _) (List.Perm.refl _) (ci := 6) (q := (RX6, TX6, 8)) rfl rfl rfl rfl hl.1 rfl (Nat.le_of_ble_eq_true rfl) dX6_wins_9 ⟨Nat.zero_le _, Nat.zero_le _⟩ (fun H locs hP hD hS => ?_)
    refine lv_goto (tgt := 16) hx hb dX6_wins_12 (by decide) ?_
    have hf := Option.some.inj hf
    subst hf
    exact hret _ _ _ _ _ dX6_wins_16 rfl hP hD hS rfl
def f_X6_winningChoice (n : Nat) (now : SS) (trial : GG) (meas : EE) (p1 : Int32) : Option (Int32 × GG × EE) := (f_X1_has now.1 p1).bind fun q1 => (if q1 = 0 then some ((-1), trial, meas) else vg p1 14 ((f_X6_solveFor n now trial meas (now.1.2.1 (p1).toNatClampNeg)).bind fun q4 => (f_X3_bestArrow n q4.2 q4.1 p1).bind fun q5 => (f_X6_placeOrNone q5).bind fun q6 => some (q6, q4.1, q4.2)))
theorem inw_X6_winningChoice_1 : ∀ w ∈ wsX10, w ∈ wsX6_winningChoice := fun _ h => List.mem_cons_of_mem _ (List.mem_append_left _ (List.mem_append_right _ h))
theorem inw_X6_winningChoice_4 : ∀ w ∈ wsX40, w ∈ wsX6_winningChoice := fun _ h => List.mem_cons_of_mem _ (List.mem_append_left _ (List.mem_append_left _ (List.mem_append_right _ h)))
theorem inw_X6_winningChoice_6 : ∀ w ∈ wsX60, w ∈ wsX6_winningChoice := fun _ h => List.mem_cons_of_mem _ (List.mem_append_left _ (List.mem_append_left _ (List.mem_append_left _ (List.mem_append_right _ h))))
theorem hd_X6_winningChoice : yX6_winningChoice.cls = RX6 ∧ yX6_winningChoice.cls ≠ "java/lang/invoke/MethodHandle" ∧ yX6_winningChoice.cls ≠ "java/lang/invoke/VarHandle" ∧ (parseMethodDescriptor yX6_winningChoice.desc).map (fun d => d.parameters.length) = some 1 := by decide +kernel
set_option maxHeartbeats 4000000 in
set_option maxRecDepth 100000 in
theorem c_X6_winningChoice (l : Launch) (D : va_G) (cI cC cS : ClassId) (R : va_W) (ad : Nat → Nat → Nat) (now : SS) (hist : HH) (snap : SS) (has : Int32) (text : TT) (trial : GG) (meas : EE) (walk : KK) (p1 : Int32) (n : Nat) (r : Int32 × GG × EE) (hf : f_X6_winningChoice n now trial meas p1 = some r) : CI l yX6_winningChoice wsX6_winningChoice 5 133 D cI cC cS [.ref (ad 0 0), .int p1] ((w_X ad cI cC cS now hist snap has text trial meas walk) ++ R) r.1 ((w_X ad cI cC cS now hist snap has text r.2.1 r.2.2 walk) ++ R) := by
  refine XI.of (cc := cX6_winningChoice) (maxL := 2) (ty := .int) (own := RX6) (by decide) rfl rfl (Nat.le_of_ble_eq_true rfl) ?_
  intro p e s m args below meth c A Q S hK hN hA hP hD hS ls hl hret
  obtain ⟨hx, hb, hml, hown, hts⟩ := id S
  have hl : lv_has ls 2 [(0, .ref (ad 0 0)), (1, .int p1)] := hl
  unfold f_X6_winningChoice at hf
  refine lv_aload_n hx hb dX6_winningChoice_0 rfl (lv_at hl 0 rfl) ?_
  refine va_get (D := D) (ci := 6) (v := .ref ((ad 1) 0)) (C := RX6) (T := TX6) (N := 8) hx hb hts inw_X6_winningChoice_6 hown hK hP 0 rfl rfl 0 (by decide) (hts (.fieldLink RX6 12 "RingGames" "now" "LRingGames$State;") (List.mem_of_getElem? (i := 1) rfl)) (fun _ h9 => h9) rfl dX6_winningChoice_1 ?_
  refine va_get (D := D) (ci := 4) (v := .ref ((ad 1) 2)) (C := RX4) (T := TX4) (N := 4) hx hb hts inw_X6_winningChoice_4 hown hK hP 1 rfl rfl 0 (by decide) (hts (.fieldLink RX6 65 "RingGames$State" "game" "LRingGames$Game;") (List.mem_of_getElem? (i := 2) rfl)) (fun _ h9 => h9) rfl dX6_winningChoice_4 ?_
  refine lv_iload_n hx hb dX6_winningChoice_7 rfl (lv_at hl 1 rfl) ?_
  obtain ⟨q1, hq1, hf⟩ := ob_some hf
  refine xcVi (w' := ((w_X ad cI cC cS now hist snap has text trial meas walk) ++ R)) S hK hN hA hP hD hS (c_X1_has l D cI cC cS ((xr 50 [3, 4, 5, 6]).filterMap (fun i => (w_X ad cI cC cS now hist snap has text trial meas walk)[i]?) ++ R) (fun k => (ad 1) (k + 2)) now.1 p1 _ hq1) gX6_winningChoice_X1_has rfl hd_X1_has ⟨by decide, by decide⟩ (x_cut (pre := (w_X ad cI cC cS now hist snap has text trial meas walk)) [3, 4, 5, 6] 50 rfl (by decide +kernel) rfl) (x_cut (pre := (w_X ad cI cC cS now hist snap has text trial meas walk)) [3, 4, 5, 6] 50 rfl (by decide +kernel) rfl).symm (ci := 1) (q := (RX1, TX1, 4)) rfl rfl rfl rfl hl.1 rfl (Nat.le_of_ble_eq_true rfl) dX6_winningChoice_8 ⟨Nat.zero_le _, Nat.zero_le _⟩ (fun H locs hP hD hS => ?_)
  refine lv_if_ne (tgt := 16) hx hb dX6_winningChoice_11 (by decide) (fun c2 => ?_) (fun c2 => ?_)
  · have hf := if_f hf c2
    refine lv_aload_n hx hb dX6_winningChoice_16 rfl (lv_at hl 0 rfl) ?_
    refine lv_aload_n hx hb dX6_winningChoice_17 rfl (lv_at hl 0 rfl) ?_
    refine va_get (D := D) (ci := 6) (v := .ref ((ad 1) 0)) (C := RX6) (T := TX6) (N := 8) hx hb hts inw_X6_winningChoice_6 hown hK hP 0 rfl rfl 0 (by decide) (hts (.fieldLink RX6 12 "RingGames" "now" "LRingGames$State;") (List.mem_of_getElem? (i := 1) rfl)) (fun _ h9 => h9) rfl dX6_winningChoice_18 ?_
    refine va_get (D := D) (ci := 4) (v := .ref ((ad 1) 2)) (C := RX4) (T := TX4) (N := 4) hx hb hts inw_X6_winningChoice_4 hown hK hP 1 rfl rfl 0 (by decide) (hts (.fieldLink RX6 65 "RingGames$State" "game" "LRingGames$Game;") (List.mem_of_getElem? (i := 2) rfl)) (fun _ h9 => h9) rfl dX6_winningChoice_21 ?_
    refine va_get (D := D) (ci := 1) (v := .ref ((ad 1) 3)) (C := RX1) (T := TX1) (N := 4) hx hb hts inw_X6_winningChoice_1 hown hK hP 3 rfl rfl 1 (by decide) (hts (.fieldLink RX6 83 "RingGames$Game" "owners" "[I") (List.mem_of_getElem? (i := 3) rfl)) (fun _ h9 => h9) rfl dX6_winningChoice_24 ?_
    refine lv_iload_n hx hb dX6_winningChoice_27 rfl (lv_at hl 1 rfl) ?_
    obtain ⟨g3, hf⟩ := vg_some hf
    refine va_iald hx hb hK hP 4 0 rfl rfl g3 dX6_winningChoice_28 ?_
    obtain ⟨q4, hq4, hf⟩ := ob_some hf
    refine xcVv (w' := ((w_X ad cI cC cS now hist snap has text q4.1 q4.2 walk) ++ R)) S hK hN hA hP hD hS (c_X6_solveFor l D cI cC cS R ad now hist snap has text trial meas walk (now.1.2.1 (p1).toNatClampNeg) n _ hq4) gX6_winningChoice_X6_solveFor rfl hd_X6_solveFor ⟨by decide, by decide⟩ (List.Perm.refl _) (List.Perm.refl _) (ci := 6) (q := (RX6, TX6, 8)) rfl rfl rfl rfl hl.1 rfl (Nat.le_of_ble_eq_true rfl) dX6_winningChoice_29 ⟨Nat.zero_le _, Nat.zero_le _⟩ (fun H locs hP hD hS => ?_)
    refine lv_aload_n hx hb dX6_winningChoice_32 rfl (lv_at hl 0 rfl) ?_
    refine va_get (D := D) (ci := 6) (v := .ref ((ad 6) 0)) (C := RX6) (T := TX6) (N := 8) hx hb hts inw_X6_winningChoice_6 hown hK hP 0 rfl rfl 6 (by decide) (hts (.fieldLink RX6 47 "RingGames" "measures" "LRingGames$Measures;") (List.mem_of_getElem? (i := 4) rfl)) (fun _ h9 => h9) rfl dX6_winningChoice_33 ?_
    refine lv_aload_n hx hb dX6_winningChoice_36 rfl (lv_at hl 0 rfl) ?_
    refine va_get (D := D) (ci := 6) (v := .ref ((ad 5) 0)) (C := RX6) (T := TX6) (N := 8) hx hb hts inw_X6_winningChoice_6 hown hK hP 0 rfl rfl 5 (by decide) (hts (.fieldLink RX6 40 "RingGames" "trial" "LRingGames$Game;") (List.mem_of_getElem? (i := 5) rfl)) (fun _ h9 => h9) rfl dX6_winningChoice_37 ?_
    refine lv_iload_n hx hb dX6_winningChoice_40 rfl (lv_at hl 1 rfl) ?_
    obtain ⟨q5, hq5, hf⟩ := ob_some hf
    refine xcVi (w' := ((w_X ad cI cC cS now hist snap has text q4.1 q4.2 walk) ++ R)) S hK hN hA hP hD hS (c_X3_bestArrow l D cI cC cS ((xr 50 [45, 46, 47, 41, 42, 43, 44]).filterMap (fun i => (w_X ad cI cC cS now hist snap has text q4.1 q4.2 walk)[i]?) ++ R) (ad 6) (ad 5) q4.2 q4.1 p1 n _ hq5) gX6_winningChoice_X3_bestArrow rfl hd_X3_bestArrow ⟨by decide, by decide⟩ (x_cut (pre := (w_X ad cI cC cS now hist snap has text q4.1 q4.2 walk)) [45, 46, 47, 41, 42, 43, 44] 50 rfl (by decide +kernel) rfl) (x_cut (pre := (w_X ad cI cC cS now hist snap has text q4.1 q4.2 walk)) [45, 46, 47, 41, 42, 43, 44] 50 rfl (by decide +kernel) rfl).symm (ci := 3) (q := (RX3, TX3, 3)) rfl rfl rfl rfl hl.1 rfl (Nat.le_of_ble_eq_true rfl) dX6_winningChoice_41 ⟨Nat.zero_le _, Nat.zero_le _⟩ (fun H locs hP hD hS => ?_)
    obtain ⟨q6, hq6, hf⟩ := ob_some hf
    refine xcSi S hK hN hA hP hD hS (c_X6_placeOrNone l D cI cC cS ((w_X ad cI cC cS now hist snap has text q4.1 q4.2 walk) ++ R) q5 _ hq6) gX6_winningChoice_X6_placeOrNone rfl hd_X6_placeOrNone ⟨by decide, by decide⟩ rfl hl.1 rfl (Nat.le_of_ble_eq_true rfl) dX6_winningChoice_44 ⟨Nat.zero_le _, Nat.zero_le _⟩ (fun H locs hP hD hS => ?_)
    have hf := Option.some.inj hf
    subst hf
    exact hret _ _ _ _ _ dX6_winningChoice_47 rfl hP hD hS rfl
  · have hf := if_t hf c2
    refine lv_iconst (v := (-1)) hx hb dX6_winningChoice_14 (by decide) ?_
    have hf := Option.some.inj hf
    subst hf
    exact hret _ _ _ _ _ dX6_winningChoice_15 rfl hP hD hS rfl
def f_X6_measure (n : Nat) (now : SS) (trial : GG) (meas : EE) (p1 : Int32) (p2 : Int32) (p3 : Int32) : Option (Int32 × GG × EE) := (f_X6_isPlayer p1).bind fun q1 => (if q1 = 0 then some ((-1), trial, meas) else (f_X1_has now.1 p2).bind fun q3 => (if q3 = 0 then some ((-1), trial, meas) else (f_X6_isColour p3).bind fun q5 => (if q5 = 0 then some ((-2), trial, meas) else (if (jrem p3 2) = 0 then some ((-2), trial, meas) else (f_X6_solveFor n now trial meas p1).bind fun q8 => (f_X3_isLost q8.2 p2).bind fun q9 => (if q9 = 0 then (f_X3_number q8.2 p2 p3).bind fun q11 => some (q11, q8.1, q8.2) else some ((-5), q8.1, q8.2))))))
theorem inw_X6_measure_4 : ∀ w ∈ wsX40, w ∈ wsX6_measure := fun _ h => List.mem_cons_of_mem _ (List.mem_append_left _ (List.mem_append_left _ (List.mem_append_right _ h)))
theorem inw_X6_measure_6 : ∀ w ∈ wsX60, w ∈ wsX6_measure := fun _ h => List.mem_cons_of_mem _ (List.mem_append_left _ (List.mem_append_left _ (List.mem_append_left _ (List.mem_append_right _ h))))
theorem hd_X6_measure : yX6_measure.cls = RX6 ∧ yX6_measure.cls ≠ "java/lang/invoke/MethodHandle" ∧ yX6_measure.cls ≠ "java/lang/invoke/VarHandle" ∧ (parseMethodDescriptor yX6_measure.desc).map (fun d => d.parameters.length) = some 3 := by decide +kernel
set_option maxHeartbeats 4000000 in
set_option maxRecDepth 100000 in
theorem c_X6_measure (l : Launch) (D : va_G) (cI cC cS : ClassId) (R : va_W) (ad : Nat → Nat → Nat) (now : SS) (hist : HH) (snap : SS) (has : Int32) (text : TT) (trial : GG) (meas : EE) (walk : KK) (p1 : Int32) (p2 : Int32) (p3 : Int32) (n : Nat) (r : Int32 × GG × EE) (hf : f_X6_measure n now trial meas p1 p2 p3 = some r) : CI l yX6_measure wsX6_measure 5 133 D cI cC cS [.ref (ad 0 0), .int p1, .int p2, .int p3] ((w_X ad cI cC cS now hist snap has text trial meas walk) ++ R) r.1 ((w_X ad cI cC cS now hist snap has text r.2.1 r.2.2 walk) ++ R) := by
  refine XI.of (cc := cX6_measure) (maxL := 4) (ty := .int) (own := RX6) (by decide) rfl rfl (Nat.le_of_ble_eq_true rfl) ?_
  intro p e s m args below meth c A Q S hK hN hA hP hD hS ls hl hret
  obtain ⟨hx, hb, hml, hown, hts⟩ := id S
  have hl : lv_has ls 4 [(0, .ref (ad 0 0)), (1, .int p1), (2, .int p2), (3, .int p3)] := hl
  unfold f_X6_measure at hf
  refine lv_iload_n hx hb dX6_measure_0 rfl (lv_at hl 1 rfl) ?_
  obtain ⟨q1, hq1, hf⟩ := ob_some hf
  refine xcSi S hK hN hA hP hD hS (c_X6_isPlayer l D cI cC cS ((w_X ad cI cC cS now hist snap has text trial meas walk) ++ R) p1 _ hq1) gX6_measure_X6_isPlayer rfl hd_X6_isPlayer ⟨by decide, by decide⟩ rfl hl.1 rfl (Nat.le_of_ble_eq_true rfl) dX6_measure_1 ⟨Nat.zero_le _, Nat.zero_le _⟩ (fun H locs hP hD hS => ?_)
  refine lv_if_eq (tgt := 21) hx hb dX6_measure_4 (by decide) (fun c2 => ?_) (fun c2 => ?_)
  · have hf := if_t hf c2
    refine lv_iconst (v := (-1)) hx hb dX6_measure_21 (by decide) ?_
    have hf := Option.some.inj hf
    subst hf
    exact hret _ _ _ _ _ dX6_measure_22 rfl hP hD hS rfl
  · have hf := if_f hf c2
    refine lv_aload_n hx hb dX6_measure_7 rfl (lv_at hl 0 rfl) ?_
    refine va_get (D := D) (ci := 6) (v := .ref ((ad 1) 0)) (C := RX6) (T := TX6) (N := 8) hx hb hts inw_X6_measure_6 hown hK hP 0 rfl rfl 0 (by decide) (hts (.fieldLink RX6 12 "RingGames" "now" "LRingGames$State;") (List.mem_of_getElem? (i := 1) rfl)) (fun _ h9 => h9) rfl dX6_measure_8 ?_
    refine va_get (D := D) (ci := 4) (v := .ref ((ad 1) 2)) (C := RX4) (T := TX4) (N := 4) hx hb hts inw_X6_measure_4 hown hK hP 1 rfl rfl 0 (by decide) (hts (.fieldLink RX6 65 "RingGames$State" "game" "LRingGames$Game;") (List.mem_of_getElem? (i := 2) rfl)) (fun _ h9 => h9) rfl dX6_measure_11 ?_
    refine lv_iload_n hx hb dX6_measure_14 rfl (lv_at hl 2 rfl) ?_
    obtain ⟨q3, hq3, hf⟩ := ob_some hf
    refine xcVi (w' := ((w_X ad cI cC cS now hist snap has text trial meas walk) ++ R)) S hK hN hA hP hD hS (c_X1_has l D cI cC cS ((xr 50 [3, 4, 5, 6]).filterMap (fun i => (w_X ad cI cC cS now hist snap has text trial meas walk)[i]?) ++ R) (fun k => (ad 1) (k + 2)) now.1 p2 _ hq3) gX6_measure_X1_has rfl hd_X1_has ⟨by decide, by decide⟩ (x_cut (pre := (w_X ad cI cC cS now hist snap has text trial meas walk)) [3, 4, 5, 6] 50 rfl (by decide +kernel) rfl) (x_cut (pre := (w_X ad cI cC cS now hist snap has text trial meas walk)) [3, 4, 5, 6] 50 rfl (by decide +kernel) rfl).symm (ci := 1) (q := (RX1, TX1, 4)) rfl rfl rfl rfl hl.1 rfl (Nat.le_of_ble_eq_true rfl) dX6_measure_15 ⟨Nat.zero_le _, Nat.zero_le _⟩ (fun H locs hP hD hS => ?_)
    refine lv_if_ne (tgt := 23) hx hb dX6_measure_18 (by decide) (fun c4 => ?_) (fun c4 => ?_)
    · have hf := if_f hf c4
      refine lv_iload_n hx hb dX6_measure_23 rfl (lv_at hl 3 rfl) ?_
      obtain ⟨q5, hq5, hf⟩ := ob_some hf
      refine xcSi S hK hN hA hP hD hS (c_X6_isColour l D cI cC cS ((w_X ad cI cC cS now hist snap has text trial meas walk) ++ R) p3 _ hq5) gX6_measure_X6_isColour rfl hd_X6_isColour ⟨by decide, by decide⟩ rfl hl.1 rfl (Nat.le_of_ble_eq_true rfl) dX6_measure_24 ⟨Nat.zero_le _, Nat.zero_le _⟩ (fun H locs hP hD hS => ?_)
      refine lv_if_eq (tgt := 36) hx hb dX6_measure_27 (by decide) (fun c6 => ?_) (fun c6 => ?_)
      · have hf := if_t hf c6
        refine lv_bipush (v := (-2)) hx hb dX6_measure_36 (by decide) ?_
        have hf := Option.some.inj hf
        subst hf
        exact hret _ _ _ _ _ dX6_measure_38 rfl hP hD hS rfl
      · have hf := if_f hf c6
        refine lv_iload_n hx hb dX6_measure_30 rfl (lv_at hl 3 rfl) ?_
        refine lv_iconst (v := 2) hx hb dX6_measure_31 (by decide) ?_
        refine lv_irem hx hb dX6_measure_32 (by decide) ?_
        refine lv_if_ne (tgt := 39) hx hb dX6_measure_33 (by decide) (fun c7 => ?_) (fun c7 => ?_)
        · have hf := if_f hf c7
          refine lv_aload_n hx hb dX6_measure_39 rfl (lv_at hl 0 rfl) ?_
          refine lv_iload_n hx hb dX6_measure_40 rfl (lv_at hl 1 rfl) ?_
          obtain ⟨q8, hq8, hf⟩ := ob_some hf
          refine xcVv (w' := ((w_X ad cI cC cS now hist snap has text q8.1 q8.2 walk) ++ R)) S hK hN hA hP hD hS (c_X6_solveFor l D cI cC cS R ad now hist snap has text trial meas walk p1 n _ hq8) gX6_measure_X6_solveFor rfl hd_X6_solveFor ⟨by decide, by decide⟩ (List.Perm.refl _) (List.Perm.refl _) (ci := 6) (q := (RX6, TX6, 8)) rfl rfl rfl rfl hl.1 rfl (Nat.le_of_ble_eq_true rfl) dX6_measure_41 ⟨Nat.zero_le _, Nat.zero_le _⟩ (fun H locs hP hD hS => ?_)
          refine lv_aload_n hx hb dX6_measure_44 rfl (lv_at hl 0 rfl) ?_
          refine va_get (D := D) (ci := 6) (v := .ref ((ad 6) 0)) (C := RX6) (T := TX6) (N := 8) hx hb hts inw_X6_measure_6 hown hK hP 0 rfl rfl 6 (by decide) (hts (.fieldLink RX6 47 "RingGames" "measures" "LRingGames$Measures;") (List.mem_of_getElem? (i := 3) rfl)) (fun _ h9 => h9) rfl dX6_measure_45 ?_
          refine lv_iload_n hx hb dX6_measure_48 rfl (lv_at hl 2 rfl) ?_
          obtain ⟨q9, hq9, hf⟩ := ob_some hf
          refine xcVi (w' := ((w_X ad cI cC cS now hist snap has text q8.1 q8.2 walk) ++ R)) S hK hN hA hP hD hS (c_X3_isLost l D cI cC cS ((xr 50 [45, 46, 47]).filterMap (fun i => (w_X ad cI cC cS now hist snap has text q8.1 q8.2 walk)[i]?) ++ R) (ad 6) q8.2 p2 _ hq9) gX6_measure_X3_isLost rfl hd_X3_isLost ⟨by decide, by decide⟩ (x_cut (pre := (w_X ad cI cC cS now hist snap has text q8.1 q8.2 walk)) [45, 46, 47] 50 rfl (by decide +kernel) rfl) (x_cut (pre := (w_X ad cI cC cS now hist snap has text q8.1 q8.2 walk)) [45, 46, 47] 50 rfl (by decide +kernel) rfl).symm (ci := 3) (q := (RX3, TX3, 3)) rfl rfl rfl rfl hl.1 rfl (Nat.le_of_ble_eq_true rfl) dX6_measure_49 ⟨Nat.zero_le _, Nat.zero_le _⟩ (fun H locs hP hD hS => ?_)
          refine lv_if_eq (tgt := 60) hx hb dX6_measure_52 (by decide) (fun c10 => ?_) (fun c10 => ?_)
          · have hf := if_t hf c10
            refine lv_aload_n hx hb dX6_measure_60 rfl (lv_at hl 0 rfl) ?_
            refine va_get (D := D) (ci := 6) (v := .ref ((ad 6) 0)) (C := RX6) (T := TX6) (N := 8) hx hb hts inw_X6_measure_6 hown hK hP 0 rfl rfl 6 (by decide) (hts (.fieldLink RX6 47 "RingGames" "measures" "LRingGames$Measures;") (List.mem_of_getElem? (i := 3) rfl)) (fun _ h9 => h9) rfl dX6_measure_61 ?_
            refine lv_iload_n hx hb dX6_measure_64 rfl (lv_at hl 2 rfl) ?_
            refine lv_iload_n hx hb dX6_measure_65 rfl (lv_at hl 3 rfl) ?_
            obtain ⟨q11, hq11, hf⟩ := ob_some hf
            refine xcVi (w' := ((w_X ad cI cC cS now hist snap has text q8.1 q8.2 walk) ++ R)) S hK hN hA hP hD hS (c_X3_number l D cI cC cS ((xr 50 [45, 46, 47]).filterMap (fun i => (w_X ad cI cC cS now hist snap has text q8.1 q8.2 walk)[i]?) ++ R) (ad 6) q8.2 p2 p3 _ hq11) gX6_measure_X3_number rfl hd_X3_number ⟨by decide, by decide⟩ (x_cut (pre := (w_X ad cI cC cS now hist snap has text q8.1 q8.2 walk)) [45, 46, 47] 50 rfl (by decide +kernel) rfl) (x_cut (pre := (w_X ad cI cC cS now hist snap has text q8.1 q8.2 walk)) [45, 46, 47] 50 rfl (by decide +kernel) rfl).symm (ci := 3) (q := (RX3, TX3, 3)) rfl rfl rfl rfl hl.1 rfl (Nat.le_of_ble_eq_true rfl) dX6_measure_66 ⟨Nat.zero_le _, Nat.zero_le _⟩ (fun H locs hP hD hS => ?_)
            have hf := Option.some.inj hf
            subst hf
            exact hret _ _ _ _ _ dX6_measure_69 rfl hP hD hS rfl
          · have hf := if_f hf c10
            refine lv_bipush (v := (-5)) hx hb dX6_measure_55 (by decide) ?_
            refine lv_goto (tgt := 69) hx hb dX6_measure_57 (by decide) ?_
            have hf := Option.some.inj hf
            subst hf
            exact hret _ _ _ _ _ dX6_measure_69 rfl hP hD hS rfl
        · have hf := if_t hf c7
          refine lv_bipush (v := (-2)) hx hb dX6_measure_36 (by decide) ?_
          have hf := Option.some.inj hf
          subst hf
          exact hret _ _ _ _ _ dX6_measure_38 rfl hP hD hS rfl
    · have hf := if_t hf c4
      refine lv_iconst (v := (-1)) hx hb dX6_measure_21 (by decide) ?_
      have hf := Option.some.inj hf
      subst hf
      exact hret _ _ _ _ _ dX6_measure_22 rfl hP hD hS rfl
def f_X6_rounds (n : Nat) (now : SS) (trial : GG) (meas : EE) (p1 : Int32) : Option (Int32 × GG × EE) := (f_X6_isPlayer p1).bind fun q1 => (if q1 = 0 then some ((-1), trial, meas) else (f_X6_solveFor n now trial meas p1).bind fun q3 => some (q3.2.2.2, q3.1, q3.2))
theorem inw_X6_rounds_3 : ∀ w ∈ wsX30, w ∈ wsX6_rounds := fun _ h => List.mem_cons_of_mem _ (List.mem_append_left _ (List.mem_append_left _ (List.mem_append_right _ h)))
theorem inw_X6_rounds_6 : ∀ w ∈ wsX60, w ∈ wsX6_rounds := fun _ h => List.mem_cons_of_mem _ (List.mem_append_left _ (List.mem_append_left _ (List.mem_append_left _ (List.mem_append_right _ h))))
theorem hd_X6_rounds : yX6_rounds.cls = RX6 ∧ yX6_rounds.cls ≠ "java/lang/invoke/MethodHandle" ∧ yX6_rounds.cls ≠ "java/lang/invoke/VarHandle" ∧ (parseMethodDescriptor yX6_rounds.desc).map (fun d => d.parameters.length) = some 1 := by decide +kernel
set_option maxHeartbeats 4000000 in
set_option maxRecDepth 100000 in
theorem c_X6_rounds (l : Launch) (D : va_G) (cI cC cS : ClassId) (R : va_W) (ad : Nat → Nat → Nat) (now : SS) (hist : HH) (snap : SS) (has : Int32) (text : TT) (trial : GG) (meas : EE) (walk : KK) (p1 : Int32) (n : Nat) (r : Int32 × GG × EE) (hf : f_X6_rounds n now trial meas p1 = some r) : CI l yX6_rounds wsX6_rounds 5 133 D cI cC cS [.ref (ad 0 0), .int p1] ((w_X ad cI cC cS now hist snap has text trial meas walk) ++ R) r.1 ((w_X ad cI cC cS now hist snap has text r.2.1 r.2.2 walk) ++ R) := by
  refine XI.of (cc := cX6_rounds) (maxL := 2) (ty := .int) (own := RX6) (by decide) rfl rfl (Nat.le_of_ble_eq_true rfl) ?_
  intro p e s m args below meth c A Q S hK hN hA hP hD hS ls hl hret
  obtain ⟨hx, hb, hml, hown, hts⟩ := id S
  have hl : lv_has ls 2 [(0, .ref (ad 0 0)), (1, .int p1)] := hl
  unfold f_X6_rounds at hf
  refine lv_iload_n hx hb dX6_rounds_0 rfl (lv_at hl 1 rfl) ?_
  obtain ⟨q1, hq1, hf⟩ := ob_some hf
  refine xcSi S hK hN hA hP hD hS (c_X6_isPlayer l D cI cC cS ((w_X ad cI cC cS now hist snap has text trial meas walk) ++ R) p1 _ hq1) gX6_rounds_X6_isPlayer rfl hd_X6_isPlayer ⟨by decide, by decide⟩ rfl hl.1 rfl (Nat.le_of_ble_eq_true rfl) dX6_rounds_1 ⟨Nat.zero_le _, Nat.zero_le _⟩ (fun H locs hP hD hS => ?_)
  refine lv_if_ne (tgt := 9) hx hb dX6_rounds_4 (by decide) (fun c2 => ?_) (fun c2 => ?_)
  · have hf := if_f hf c2
    refine lv_aload_n hx hb dX6_rounds_9 rfl (lv_at hl 0 rfl) ?_
    refine lv_iload_n hx hb dX6_rounds_10 rfl (lv_at hl 1 rfl) ?_
    obtain ⟨q3, hq3, hf⟩ := ob_some hf
    refine xcVv (w' := ((w_X ad cI cC cS now hist snap has text q3.1 q3.2 walk) ++ R)) S hK hN hA hP hD hS (c_X6_solveFor l D cI cC cS R ad now hist snap has text trial meas walk p1 n _ hq3) gX6_rounds_X6_solveFor rfl hd_X6_solveFor ⟨by decide, by decide⟩ (List.Perm.refl _) (List.Perm.refl _) (ci := 6) (q := (RX6, TX6, 8)) rfl rfl rfl rfl hl.1 rfl (Nat.le_of_ble_eq_true rfl) dX6_rounds_11 ⟨Nat.zero_le _, Nat.zero_le _⟩ (fun H locs hP hD hS => ?_)
    refine lv_aload_n hx hb dX6_rounds_14 rfl (lv_at hl 0 rfl) ?_
    refine va_get (D := D) (ci := 6) (v := .ref ((ad 6) 0)) (C := RX6) (T := TX6) (N := 8) hx hb hts inw_X6_rounds_6 hown hK hP 0 rfl rfl 6 (by decide) (hts (.fieldLink RX6 47 "RingGames" "measures" "LRingGames$Measures;") (List.mem_of_getElem? (i := 1) rfl)) (fun _ h9 => h9) rfl dX6_rounds_15 ?_
    refine va_get (D := D) (ci := 3) (v := .int q3.2.2.2) (C := RX3) (T := TX3) (N := 3) hx hb hts inw_X6_rounds_3 hown hK hP 45 rfl rfl 2 (by decide) (hts (.fieldLink RX6 183 "RingGames$Measures" "lastRound" "I") (List.mem_of_getElem? (i := 2) rfl)) (fun _ h9 => h9) rfl dX6_rounds_18 ?_
    have hf := Option.some.inj hf
    subst hf
    exact hret _ _ _ _ _ dX6_rounds_21 rfl hP hD hS rfl
  · have hf := if_t hf c2
    refine lv_iconst (v := (-1)) hx hb dX6_rounds_7 (by decide) ?_
    have hf := Option.some.inj hf
    subst hf
    exact hret _ _ _ _ _ dX6_rounds_8 rfl hP hD hS rfl
def f_X6_forced_L31 (n : Nat) (d_now : SS) (d_l1 : Int32) : Nat → Int32 → Int32 → Option Int32
  | 0, _, _ => none
  | k + 1, d_l3, d_l4 => (if d_now.1.1 < d_l4 then some (d_l3) else (f_X1_forcedNext n d_now.1 d_l1 d_l3).bind fun q6 => f_X6_forced_L31 n d_now d_l1 k q6 (d_l4 + 1))
def f_X6_forced (n : Nat) (now : SS) (p1 : Int32) (p2 : Int32) : Option Int32 := (f_X6_isPlayer p1).bind fun q1 => (if q1 = 0 then some ((-1)) else (f_X1_hasAll now.1 p2).bind fun q3 => (if q3 = 0 then some ((-2)) else (f_X6_forced_L31 n now p1 n p2 1).bind fun q6 => some (q6)))
theorem inw_X6_forced_1 : ∀ w ∈ wsX10, w ∈ wsX6_forced := fun _ h => List.mem_cons_of_mem _ (List.mem_append_right _ h)
theorem inw_X6_forced_4 : ∀ w ∈ wsX40, w ∈ wsX6_forced := fun _ h => List.mem_cons_of_mem _ (List.mem_append_left _ (List.mem_append_right _ h))
theorem inw_X6_forced_6 : ∀ w ∈ wsX60, w ∈ wsX6_forced := fun _ h => List.mem_cons_of_mem _ (List.mem_append_left _ (List.mem_append_left _ (List.mem_append_right _ h)))
theorem hd_X6_forced : yX6_forced.cls = RX6 ∧ yX6_forced.cls ≠ "java/lang/invoke/MethodHandle" ∧ yX6_forced.cls ≠ "java/lang/invoke/VarHandle" ∧ (parseMethodDescriptor yX6_forced.desc).map (fun d => d.parameters.length) = some 2 := by decide +kernel
set_option maxHeartbeats 4000000 in
set_option maxRecDepth 100000 in
theorem c_X6_forced (l : Launch) (D : va_G) (cI cC cS : ClassId) (R : va_W) (ad : Nat → Nat → Nat) (now : SS) (hist : HH) (snap : SS) (has : Int32) (text : TT) (trial : GG) (meas : EE) (walk : KK) (p1 : Int32) (p2 : Int32) (n : Nat) (r : Int32) (hf : f_X6_forced n now p1 p2 = some r) : CI l yX6_forced wsX6_forced 3 61 D cI cC cS [.ref (ad 0 0), .int p1, .int p2] ((w_X ad cI cC cS now hist snap has text trial meas walk) ++ R) r ((w_X ad cI cC cS now hist snap has text trial meas walk) ++ R) := by
  refine XI.of (cc := cX6_forced) (maxL := 5) (ty := .int) (own := RX6) (by decide) rfl rfl (Nat.le_of_ble_eq_true rfl) ?_
  intro p e s m args below meth c A Q S hK hN hA hP hD hS ls hl hret
  obtain ⟨hx, hb, hml, hown, hts⟩ := id S
  have hl : lv_has ls 5 [(0, .ref (ad 0 0)), (1, .int p1), (2, .int p2)] := hl
  unfold f_X6_forced at hf
  refine lv_iload_n hx hb dX6_forced_0 rfl (lv_at hl 1 rfl) ?_
  obtain ⟨q1, hq1, hf⟩ := ob_some hf
  refine xcSi S hK hN hA hP hD hS (c_X6_isPlayer l D cI cC cS ((w_X ad cI cC cS now hist snap has text trial meas walk) ++ R) p1 _ hq1) gX6_forced_X6_isPlayer rfl hd_X6_isPlayer ⟨by decide, by decide⟩ rfl hl.1 rfl (Nat.le_of_ble_eq_true rfl) dX6_forced_1 ⟨Nat.zero_le _, Nat.zero_le _⟩ (fun H locs hP hD hS => ?_)
  refine lv_if_ne (tgt := 9) hx hb dX6_forced_4 (by decide) (fun c2 => ?_) (fun c2 => ?_)
  · have hf := if_f hf c2
    refine lv_aload_n hx hb dX6_forced_9 rfl (lv_at hl 0 rfl) ?_
    refine va_get (D := D) (ci := 6) (v := .ref ((ad 1) 0)) (C := RX6) (T := TX6) (N := 8) hx hb hts inw_X6_forced_6 hown hK hP 0 rfl rfl 0 (by decide) (hts (.fieldLink RX6 12 "RingGames" "now" "LRingGames$State;") (List.mem_of_getElem? (i := 1) rfl)) (fun _ h9 => h9) rfl dX6_forced_10 ?_
    refine va_get (D := D) (ci := 4) (v := .ref ((ad 1) 2)) (C := RX4) (T := TX4) (N := 4) hx hb hts inw_X6_forced_4 hown hK hP 1 rfl rfl 0 (by decide) (hts (.fieldLink RX6 65 "RingGames$State" "game" "LRingGames$Game;") (List.mem_of_getElem? (i := 2) rfl)) (fun _ h9 => h9) rfl dX6_forced_13 ?_
    refine lv_iload_n hx hb dX6_forced_16 rfl (lv_at hl 2 rfl) ?_
    obtain ⟨q3, hq3, hf⟩ := ob_some hf
    refine xcVi (w' := ((w_X ad cI cC cS now hist snap has text trial meas walk) ++ R)) S hK hN hA hP hD hS (c_X1_hasAll l D cI cC cS ((xr 50 [3, 4, 5, 6]).filterMap (fun i => (w_X ad cI cC cS now hist snap has text trial meas walk)[i]?) ++ R) (fun k => (ad 1) (k + 2)) now.1 p2 _ hq3) gX6_forced_X1_hasAll rfl hd_X1_hasAll ⟨by decide, by decide⟩ (x_cut (pre := (w_X ad cI cC cS now hist snap has text trial meas walk)) [3, 4, 5, 6] 50 rfl (by decide +kernel) rfl) (x_cut (pre := (w_X ad cI cC cS now hist snap has text trial meas walk)) [3, 4, 5, 6] 50 rfl (by decide +kernel) rfl).symm (ci := 1) (q := (RX1, TX1, 4)) rfl rfl rfl rfl hl.1 rfl (Nat.le_of_ble_eq_true rfl) dX6_forced_17 ⟨Nat.zero_le _, Nat.zero_le _⟩ (fun H locs hP hD hS => ?_)
    refine lv_if_ne (tgt := 26) hx hb dX6_forced_20 (by decide) (fun c4 => ?_) (fun c4 => ?_)
    · have hf := if_f hf c4
      refine lv_iload_n hx hb dX6_forced_26 rfl (lv_at hl 2 rfl) ?_
      refine lv_istore_n (lv' := [(3, .int p2), (0, .ref (ad 0 0)), (1, .int p1), (2, .int p2)]) hx hb dX6_forced_27 rfl hl (by decide) rfl (fun ls hl => ?_)
      refine lv_iconst (v := 1) hx hb dX6_forced_28 (by decide) ?_
      refine lv_istore (lv' := [(4, .int 1), (3, .int p2), (0, .ref (ad 0 0)), (1, .int p1), (2, .int p2)]) hx hb dX6_forced_29 hl (by decide) rfl (fun ls hl => ?_)
      obtain ⟨q6, hq6, hf⟩ := ob_some hf
      have L5 : ∀ (k : Nat) (v_l3_L5 : Int32) (v_l4_L5 : Int32) (q_L5 : Int32), f_X6_forced_L31 n now p1 k v_l3_L5 v_l4_L5 = some q_L5 → ∀ (H : Heap) (locs : List Loc), va_P D vwCl ((w_X ad cI cC cS now hist snap has text trial meas walk) ++ R) H → va_D A ((w_X ad cI cC cS now hist snap has text trial meas walk) ++ R) → va_S A s.heap H locs → ∀ ls : Array Slot, lv_has ls 5 [(0, .ref (ad 0 0)), (1, .int p1), (3, .int v_l3_L5), (4, .int v_l4_L5)] → (∀ (H : Heap) (locs : List Loc), va_P D vwCl ((w_X ad cI cC cS now hist snap has text trial meas walk) ++ R) H → va_D A ((w_X ad cI cC cS now hist snap has text trial meas walk) ++ R) → va_S A s.heap H locs → ∀ ls : Array Slot, lv_has ls 5 [(3, .int q_L5)] → W p l e (xR 3 61) s m args below meth c H locs 0 0 Q (F0 m 65 ls [])) → W p l e (xR 3 61) s m args below meth c H locs 0 0 Q (F0 m 31 ls []) := by
        intro k
        induction k with
        | zero => intro v_l3_L5 v_l4_L5 q_L5 hf; simp [f_X6_forced_L31] at hf
        | succ k ih =>
          intro v_l3_L5 v_l4_L5 q_L5 hf H locs hP hD hS ls hl kx
          rw [f_X6_forced_L31] at hf
          refine lv_iload hx hb dX6_forced_31 (lv_at hl 3 rfl) ?_
          refine lv_aload_n hx hb dX6_forced_33 rfl (lv_at hl 0 rfl) ?_
          refine va_get (D := D) (ci := 6) (v := .ref ((ad 1) 0)) (C := RX6) (T := TX6) (N := 8) hx hb hts inw_X6_forced_6 hown hK hP 0 rfl rfl 0 (by decide) (hts (.fieldLink RX6 12 "RingGames" "now" "LRingGames$State;") (List.mem_of_getElem? (i := 1) rfl)) (fun _ h9 => h9) rfl dX6_forced_34 ?_
          refine va_get (D := D) (ci := 4) (v := .ref ((ad 1) 2)) (C := RX4) (T := TX4) (N := 4) hx hb hts inw_X6_forced_4 hown hK hP 1 rfl rfl 0 (by decide) (hts (.fieldLink RX6 65 "RingGames$State" "game" "LRingGames$Game;") (List.mem_of_getElem? (i := 2) rfl)) (fun _ h9 => h9) rfl dX6_forced_37 ?_
          refine va_get (D := D) (ci := 1) (v := .int now.1.1) (C := RX1) (T := TX1) (N := 4) hx hb hts inw_X6_forced_1 hown hK hP 3 rfl rfl 0 (by decide) (hts (.fieldLink RX6 68 "RingGames$Game" "size" "I") (List.mem_of_getElem? (i := 3) rfl)) (fun _ h9 => h9) rfl dX6_forced_40 ?_
          refine lv_icmp_gt (tgt := 65) hx hb dX6_forced_43 (by decide) (fun c7 => ?_) (fun c7 => ?_)
          · have hf := if_t hf c7
            have hf := Option.some.inj hf
            subst hf
            exact kx _ _ hP hD hS _ (lv_sub hl [2] rfl)
          · have hf := if_f hf c7
            refine lv_aload_n hx hb dX6_forced_46 rfl (lv_at hl 0 rfl) ?_
            refine va_get (D := D) (ci := 6) (v := .ref ((ad 1) 0)) (C := RX6) (T := TX6) (N := 8) hx hb hts inw_X6_forced_6 hown hK hP 0 rfl rfl 0 (by decide) (hts (.fieldLink RX6 12 "RingGames" "now" "LRingGames$State;") (List.mem_of_getElem? (i := 1) rfl)) (fun _ h9 => h9) rfl dX6_forced_47 ?_
            refine va_get (D := D) (ci := 4) (v := .ref ((ad 1) 2)) (C := RX4) (T := TX4) (N := 4) hx hb hts inw_X6_forced_4 hown hK hP 1 rfl rfl 0 (by decide) (hts (.fieldLink RX6 65 "RingGames$State" "game" "LRingGames$Game;") (List.mem_of_getElem? (i := 2) rfl)) (fun _ h9 => h9) rfl dX6_forced_50 ?_
            refine lv_iload_n hx hb dX6_forced_53 rfl (lv_at hl 1 rfl) ?_
            refine lv_iload_n hx hb dX6_forced_54 rfl (lv_at hl 2 rfl) ?_
            obtain ⟨q8, hq8, hf⟩ := ob_some hf
            refine xcVi (w' := ((w_X ad cI cC cS now hist snap has text trial meas walk) ++ R)) S hK hN hA hP hD hS (c_X1_forcedNext l D cI cC cS ((xr 50 [3, 4, 5, 6]).filterMap (fun i => (w_X ad cI cC cS now hist snap has text trial meas walk)[i]?) ++ R) (fun k => (ad 1) (k + 2)) now.1 p1 v_l3_L5 n _ hq8) gX6_forced_X1_forcedNext rfl hd_X1_forcedNext ⟨by decide, by decide⟩ (x_cut (pre := (w_X ad cI cC cS now hist snap has text trial meas walk)) [3, 4, 5, 6] 50 rfl (by decide +kernel) rfl) (x_cut (pre := (w_X ad cI cC cS now hist snap has text trial meas walk)) [3, 4, 5, 6] 50 rfl (by decide +kernel) rfl).symm (ci := 1) (q := (RX1, TX1, 4)) rfl rfl rfl rfl hl.1 rfl (Nat.le_of_ble_eq_true rfl) dX6_forced_55 ⟨Nat.zero_le _, Nat.zero_le _⟩ (fun H locs hP hD hS => ?_)
            refine lv_istore_n (lv' := [(3, .int q8), (0, .ref (ad 0 0)), (1, .int p1), (4, .int v_l4_L5)]) hx hb dX6_forced_58 rfl hl (by decide) rfl (fun ls hl => ?_)
            refine lv_iinc (v := (v_l4_L5 + 1)) (lv' := [(4, .int (v_l4_L5 + 1)), (3, .int q8), (0, .ref (ad 0 0)), (1, .int p1)]) hx hb dX6_forced_59 hl (k := 3) rfl (congrArg (fun z => v_l4_L5 + z) (by decide)) (by decide) rfl (fun ls hl => ?_)
            refine lv_goto (tgt := 31) hx hb dX6_forced_62 (by decide) ?_
            exact ih q8 (v_l4_L5 + 1) _ hf _ _ hP hD hS _ (lv_sub hl [2, 3, 1, 0] rfl) kx
      refine L5 n p2 1 q6 hq6 _ _ hP hD hS _ (lv_sub hl [2, 3, 1, 0] rfl) ?_
      clear hP hD hS hl
      intro H locs hP hD hS ls hl
      refine lv_iload_n hx hb dX6_forced_65 rfl (lv_at hl 0 rfl) ?_
      have hf := Option.some.inj hf
      subst hf
      exact hret _ _ _ _ _ dX6_forced_66 rfl hP hD hS rfl
    · have hf := if_t hf c4
      refine lv_bipush (v := (-2)) hx hb dX6_forced_23 (by decide) ?_
      have hf := Option.some.inj hf
      subst hf
      exact hret _ _ _ _ _ dX6_forced_25 rfl hP hD hS rfl
  · have hf := if_t hf c2
    refine lv_iconst (v := (-1)) hx hb dX6_forced_7 (by decide) ?_
    have hf := Option.some.inj hf
    subst hf
    exact hret _ _ _ _ _ dX6_forced_8 rfl hP hD hS rfl
def f_X6_rank_L46 (n : Nat) (d_now : SS) (d_l1 : Int32) (d_l3 : Int32) : Nat → Int32 → Int32 → Option Int32
  | 0, _, _ => none
  | k + 1, d_l4, d_l5 => (if d_now.1.1 < d_l5 then some ((-5)) else (f_X6_contains d_l4 d_l3).bind fun q8 => (if q8 = 0 then (f_X1_forcedNext n d_now.1 d_l1 d_l4).bind fun q10 => f_X6_rank_L46 n d_now d_l1 d_l3 k q10 (d_l5 + 1) else some (d_l5)))
def f_X6_rank (n : Nat) (now : SS) (p1 : Int32) (p2 : Int32) (p3 : Int32) : Option Int32 := (f_X6_isPlayer p1).bind fun q1 => (if q1 = 0 then some ((-1)) else (f_X1_has now.1 p3).bind fun q3 => (if q3 = 0 then some ((-1)) else (f_X1_hasAll now.1 p2).bind fun q5 => (if q5 = 0 then some ((-2)) else f_X6_rank_L46 n now p1 p3 n p2 0)))
theorem inw_X6_rank_1 : ∀ w ∈ wsX10, w ∈ wsX6_rank := fun _ h => List.mem_cons_of_mem _ (List.mem_append_right _ h)
theorem inw_X6_rank_4 : ∀ w ∈ wsX40, w ∈ wsX6_rank := fun _ h => List.mem_cons_of_mem _ (List.mem_append_left _ (List.mem_append_right _ h))
theorem inw_X6_rank_6 : ∀ w ∈ wsX60, w ∈ wsX6_rank := fun _ h => List.mem_cons_of_mem _ (List.mem_append_left _ (List.mem_append_left _ (List.mem_append_right _ h)))
theorem hd_X6_rank : yX6_rank.cls = RX6 ∧ yX6_rank.cls ≠ "java/lang/invoke/MethodHandle" ∧ yX6_rank.cls ≠ "java/lang/invoke/VarHandle" ∧ (parseMethodDescriptor yX6_rank.desc).map (fun d => d.parameters.length) = some 3 := by decide +kernel
set_option maxHeartbeats 4000000 in
set_option maxRecDepth 100000 in
theorem c_X6_rank (l : Launch) (D : va_G) (cI cC cS : ClassId) (R : va_W) (ad : Nat → Nat → Nat) (now : SS) (hist : HH) (snap : SS) (has : Int32) (text : TT) (trial : GG) (meas : EE) (walk : KK) (p1 : Int32) (p2 : Int32) (p3 : Int32) (n : Nat) (r : Int32) (hf : f_X6_rank n now p1 p2 p3 = some r) : CI l yX6_rank wsX6_rank 3 61 D cI cC cS [.ref (ad 0 0), .int p1, .int p2, .int p3] ((w_X ad cI cC cS now hist snap has text trial meas walk) ++ R) r ((w_X ad cI cC cS now hist snap has text trial meas walk) ++ R) := by
  refine XI.of (cc := cX6_rank) (maxL := 6) (ty := .int) (own := RX6) (by decide) rfl rfl (Nat.le_of_ble_eq_true rfl) ?_
  intro p e s m args below meth c A Q S hK hN hA hP hD hS ls hl hret
  obtain ⟨hx, hb, hml, hown, hts⟩ := id S
  have hl : lv_has ls 6 [(0, .ref (ad 0 0)), (1, .int p1), (2, .int p2), (3, .int p3)] := hl
  unfold f_X6_rank at hf
  refine lv_iload_n hx hb dX6_rank_0 rfl (lv_at hl 1 rfl) ?_
  obtain ⟨q1, hq1, hf⟩ := ob_some hf
  refine xcSi S hK hN hA hP hD hS (c_X6_isPlayer l D cI cC cS ((w_X ad cI cC cS now hist snap has text trial meas walk) ++ R) p1 _ hq1) gX6_rank_X6_isPlayer rfl hd_X6_isPlayer ⟨by decide, by decide⟩ rfl hl.1 rfl (Nat.le_of_ble_eq_true rfl) dX6_rank_1 ⟨Nat.zero_le _, Nat.zero_le _⟩ (fun H locs hP hD hS => ?_)
  refine lv_if_eq (tgt := 21) hx hb dX6_rank_4 (by decide) (fun c2 => ?_) (fun c2 => ?_)
  · have hf := if_t hf c2
    refine lv_iconst (v := (-1)) hx hb dX6_rank_21 (by decide) ?_
    have hf := Option.some.inj hf
    subst hf
    exact hret _ _ _ _ _ dX6_rank_22 rfl hP hD hS rfl
  · have hf := if_f hf c2
    refine lv_aload_n hx hb dX6_rank_7 rfl (lv_at hl 0 rfl) ?_
    refine va_get (D := D) (ci := 6) (v := .ref ((ad 1) 0)) (C := RX6) (T := TX6) (N := 8) hx hb hts inw_X6_rank_6 hown hK hP 0 rfl rfl 0 (by decide) (hts (.fieldLink RX6 12 "RingGames" "now" "LRingGames$State;") (List.mem_of_getElem? (i := 1) rfl)) (fun _ h9 => h9) rfl dX6_rank_8 ?_
    refine va_get (D := D) (ci := 4) (v := .ref ((ad 1) 2)) (C := RX4) (T := TX4) (N := 4) hx hb hts inw_X6_rank_4 hown hK hP 1 rfl rfl 0 (by decide) (hts (.fieldLink RX6 65 "RingGames$State" "game" "LRingGames$Game;") (List.mem_of_getElem? (i := 2) rfl)) (fun _ h9 => h9) rfl dX6_rank_11 ?_
    refine lv_iload_n hx hb dX6_rank_14 rfl (lv_at hl 3 rfl) ?_
    obtain ⟨q3, hq3, hf⟩ := ob_some hf
    refine xcVi (w' := ((w_X ad cI cC cS now hist snap has text trial meas walk) ++ R)) S hK hN hA hP hD hS (c_X1_has l D cI cC cS ((xr 50 [3, 4, 5, 6]).filterMap (fun i => (w_X ad cI cC cS now hist snap has text trial meas walk)[i]?) ++ R) (fun k => (ad 1) (k + 2)) now.1 p3 _ hq3) gX6_rank_X1_has rfl hd_X1_has ⟨by decide, by decide⟩ (x_cut (pre := (w_X ad cI cC cS now hist snap has text trial meas walk)) [3, 4, 5, 6] 50 rfl (by decide +kernel) rfl) (x_cut (pre := (w_X ad cI cC cS now hist snap has text trial meas walk)) [3, 4, 5, 6] 50 rfl (by decide +kernel) rfl).symm (ci := 1) (q := (RX1, TX1, 4)) rfl rfl rfl rfl hl.1 rfl (Nat.le_of_ble_eq_true rfl) dX6_rank_15 ⟨Nat.zero_le _, Nat.zero_le _⟩ (fun H locs hP hD hS => ?_)
    refine lv_if_ne (tgt := 23) hx hb dX6_rank_18 (by decide) (fun c4 => ?_) (fun c4 => ?_)
    · have hf := if_f hf c4
      refine lv_aload_n hx hb dX6_rank_23 rfl (lv_at hl 0 rfl) ?_
      refine va_get (D := D) (ci := 6) (v := .ref ((ad 1) 0)) (C := RX6) (T := TX6) (N := 8) hx hb hts inw_X6_rank_6 hown hK hP 0 rfl rfl 0 (by decide) (hts (.fieldLink RX6 12 "RingGames" "now" "LRingGames$State;") (List.mem_of_getElem? (i := 1) rfl)) (fun _ h9 => h9) rfl dX6_rank_24 ?_
      refine va_get (D := D) (ci := 4) (v := .ref ((ad 1) 2)) (C := RX4) (T := TX4) (N := 4) hx hb hts inw_X6_rank_4 hown hK hP 1 rfl rfl 0 (by decide) (hts (.fieldLink RX6 65 "RingGames$State" "game" "LRingGames$Game;") (List.mem_of_getElem? (i := 2) rfl)) (fun _ h9 => h9) rfl dX6_rank_27 ?_
      refine lv_iload_n hx hb dX6_rank_30 rfl (lv_at hl 2 rfl) ?_
      obtain ⟨q5, hq5, hf⟩ := ob_some hf
      refine xcVi (w' := ((w_X ad cI cC cS now hist snap has text trial meas walk) ++ R)) S hK hN hA hP hD hS (c_X1_hasAll l D cI cC cS ((xr 50 [3, 4, 5, 6]).filterMap (fun i => (w_X ad cI cC cS now hist snap has text trial meas walk)[i]?) ++ R) (fun k => (ad 1) (k + 2)) now.1 p2 _ hq5) gX6_rank_X1_hasAll rfl hd_X1_hasAll ⟨by decide, by decide⟩ (x_cut (pre := (w_X ad cI cC cS now hist snap has text trial meas walk)) [3, 4, 5, 6] 50 rfl (by decide +kernel) rfl) (x_cut (pre := (w_X ad cI cC cS now hist snap has text trial meas walk)) [3, 4, 5, 6] 50 rfl (by decide +kernel) rfl).symm (ci := 1) (q := (RX1, TX1, 4)) rfl rfl rfl rfl hl.1 rfl (Nat.le_of_ble_eq_true rfl) dX6_rank_31 ⟨Nat.zero_le _, Nat.zero_le _⟩ (fun H locs hP hD hS => ?_)
      refine lv_if_ne (tgt := 40) hx hb dX6_rank_34 (by decide) (fun c6 => ?_) (fun c6 => ?_)
      · have hf := if_f hf c6
        refine lv_iload_n hx hb dX6_rank_40 rfl (lv_at hl 2 rfl) ?_
        refine lv_istore (lv' := [(4, .int p2), (0, .ref (ad 0 0)), (1, .int p1), (2, .int p2), (3, .int p3)]) hx hb dX6_rank_41 hl (by decide) rfl (fun ls hl => ?_)
        refine lv_iconst (v := 0) hx hb dX6_rank_43 (by decide) ?_
        refine lv_istore (lv' := [(5, .int 0), (4, .int p2), (0, .ref (ad 0 0)), (1, .int p1), (2, .int p2), (3, .int p3)]) hx hb dX6_rank_44 hl (by decide) rfl (fun ls hl => ?_)
        have L7 : ∀ (k : Nat) (v_l4_L7 : Int32) (v_l5_L7 : Int32), f_X6_rank_L46 n now p1 p3 k v_l4_L7 v_l5_L7 = some r → ∀ (H : Heap) (locs : List Loc), va_P D vwCl ((w_X ad cI cC cS now hist snap has text trial meas walk) ++ R) H → va_D A ((w_X ad cI cC cS now hist snap has text trial meas walk) ++ R) → va_S A s.heap H locs → ∀ ls : Array Slot, lv_has ls 6 [(0, .ref (ad 0 0)), (1, .int p1), (3, .int p3), (4, .int v_l4_L7), (5, .int v_l5_L7)] → W p l e (xR 3 61) s m args below meth c H locs 0 0 Q (F0 m 46 ls []) := by
          intro k
          induction k with
          | zero => intro v_l4_L7 v_l5_L7 hf; simp [f_X6_rank_L46] at hf
          | succ k ih =>
            intro v_l4_L7 v_l5_L7 hf H locs hP hD hS ls hl
            rw [f_X6_rank_L46] at hf
            refine lv_iload hx hb dX6_rank_46 (lv_at hl 4 rfl) ?_
            refine lv_aload_n hx hb dX6_rank_48 rfl (lv_at hl 0 rfl) ?_
            refine va_get (D := D) (ci := 6) (v := .ref ((ad 1) 0)) (C := RX6) (T := TX6) (N := 8) hx hb hts inw_X6_rank_6 hown hK hP 0 rfl rfl 0 (by decide) (hts (.fieldLink RX6 12 "RingGames" "now" "LRingGames$State;") (List.mem_of_getElem? (i := 1) rfl)) (fun _ h9 => h9) rfl dX6_rank_49 ?_
            refine va_get (D := D) (ci := 4) (v := .ref ((ad 1) 2)) (C := RX4) (T := TX4) (N := 4) hx hb hts inw_X6_rank_4 hown hK hP 1 rfl rfl 0 (by decide) (hts (.fieldLink RX6 65 "RingGames$State" "game" "LRingGames$Game;") (List.mem_of_getElem? (i := 2) rfl)) (fun _ h9 => h9) rfl dX6_rank_52 ?_
            refine va_get (D := D) (ci := 1) (v := .int now.1.1) (C := RX1) (T := TX1) (N := 4) hx hb hts inw_X6_rank_1 hown hK hP 3 rfl rfl 0 (by decide) (hts (.fieldLink RX6 68 "RingGames$Game" "size" "I") (List.mem_of_getElem? (i := 3) rfl)) (fun _ h9 => h9) rfl dX6_rank_55 ?_
            refine lv_icmp_gt (tgt := 94) hx hb dX6_rank_58 (by decide) (fun c9 => ?_) (fun c9 => ?_)
            · have hf := if_t hf c9
              refine lv_bipush (v := (-5)) hx hb dX6_rank_94 (by decide) ?_
              have hf := Option.some.inj hf
              subst hf
              exact hret _ _ _ _ _ dX6_rank_96 rfl hP hD hS rfl
            · have hf := if_f hf c9
              refine lv_iload hx hb dX6_rank_61 (lv_at hl 3 rfl) ?_
              refine lv_iload_n hx hb dX6_rank_63 rfl (lv_at hl 2 rfl) ?_
              obtain ⟨q10, hq10, hf⟩ := ob_some hf
              refine xcSi S hK hN hA hP hD hS (c_X6_contains l D cI cC cS ((w_X ad cI cC cS now hist snap has text trial meas walk) ++ R) v_l4_L7 p3 _ hq10) gX6_rank_X6_contains rfl hd_X6_contains ⟨by decide, by decide⟩ rfl hl.1 rfl (Nat.le_of_ble_eq_true rfl) dX6_rank_64 ⟨Nat.zero_le _, Nat.zero_le _⟩ (fun H locs hP hD hS => ?_)
              refine lv_if_eq (tgt := 73) hx hb dX6_rank_67 (by decide) (fun c11 => ?_) (fun c11 => ?_)
              · have hf := if_t hf c11
                refine lv_aload_n hx hb dX6_rank_73 rfl (lv_at hl 0 rfl) ?_
                refine va_get (D := D) (ci := 6) (v := .ref ((ad 1) 0)) (C := RX6) (T := TX6) (N := 8) hx hb hts inw_X6_rank_6 hown hK hP 0 rfl rfl 0 (by decide) (hts (.fieldLink RX6 12 "RingGames" "now" "LRingGames$State;") (List.mem_of_getElem? (i := 1) rfl)) (fun _ h9 => h9) rfl dX6_rank_74 ?_
                refine va_get (D := D) (ci := 4) (v := .ref ((ad 1) 2)) (C := RX4) (T := TX4) (N := 4) hx hb hts inw_X6_rank_4 hown hK hP 1 rfl rfl 0 (by decide) (hts (.fieldLink RX6 65 "RingGames$State" "game" "LRingGames$Game;") (List.mem_of_getElem? (i := 2) rfl)) (fun _ h9 => h9) rfl dX6_rank_77 ?_
                refine lv_iload_n hx hb dX6_rank_80 rfl (lv_at hl 1 rfl) ?_
                refine lv_iload hx hb dX6_rank_81 (lv_at hl 3 rfl) ?_
                obtain ⟨q12, hq12, hf⟩ := ob_some hf
                refine xcVi (w' := ((w_X ad cI cC cS now hist snap has text trial meas walk) ++ R)) S hK hN hA hP hD hS (c_X1_forcedNext l D cI cC cS ((xr 50 [3, 4, 5, 6]).filterMap (fun i => (w_X ad cI cC cS now hist snap has text trial meas walk)[i]?) ++ R) (fun k => (ad 1) (k + 2)) now.1 p1 v_l4_L7 n _ hq12) gX6_rank_X1_forcedNext rfl hd_X1_forcedNext ⟨by decide, by decide⟩ (x_cut (pre := (w_X ad cI cC cS now hist snap has text trial meas walk)) [3, 4, 5, 6] 50 rfl (by decide +kernel) rfl) (x_cut (pre := (w_X ad cI cC cS now hist snap has text trial meas walk)) [3, 4, 5, 6] 50 rfl (by decide +kernel) rfl).symm (ci := 1) (q := (RX1, TX1, 4)) rfl rfl rfl rfl hl.1 rfl (Nat.le_of_ble_eq_true rfl) dX6_rank_83 ⟨Nat.zero_le _, Nat.zero_le _⟩ (fun H locs hP hD hS => ?_)
                refine lv_istore (lv' := [(4, .int q12), (0, .ref (ad 0 0)), (1, .int p1), (3, .int p3), (5, .int v_l5_L7)]) hx hb dX6_rank_86 hl (by decide) rfl (fun ls hl => ?_)
                refine lv_iinc (v := (v_l5_L7 + 1)) (lv' := [(5, .int (v_l5_L7 + 1)), (4, .int q12), (0, .ref (ad 0 0)), (1, .int p1), (3, .int p3)]) hx hb dX6_rank_88 hl (k := 4) rfl (congrArg (fun z => v_l5_L7 + z) (by decide)) (by decide) rfl (fun ls hl => ?_)
                refine lv_goto (tgt := 46) hx hb dX6_rank_91 (by decide) ?_
                exact ih q12 (v_l5_L7 + 1) hf _ _ hP hD hS _ (lv_sub hl [2, 3, 4, 1, 0] rfl)
              · have hf := if_f hf c11
                refine lv_iload hx hb dX6_rank_70 (lv_at hl 4 rfl) ?_
                have hf := Option.some.inj hf
                subst hf
                exact hret _ _ _ _ _ dX6_rank_72 rfl hP hD hS rfl
        exact L7 n p2 0 hf _ _ hP hD hS _ (lv_sub hl [2, 3, 5, 1, 0] rfl)
      · have hf := if_t hf c6
        refine lv_bipush (v := (-2)) hx hb dX6_rank_37 (by decide) ?_
        have hf := Option.some.inj hf
        subst hf
        exact hret _ _ _ _ _ dX6_rank_39 rfl hP hD hS rfl
    · have hf := if_t hf c4
      refine lv_iconst (v := (-1)) hx hb dX6_rank_21 (by decide) ?_
      have hf := Option.some.inj hf
      subst hf
      exact hret _ _ _ _ _ dX6_rank_22 rfl hP hD hS rfl
def f_X6_trap (n : Nat) (now : SS) (p1 : Int32) (p2 : Int32) : Option Int32 := (f_X6_isPlayer p1).bind fun q1 => (if q1 = 0 then some ((-1)) else (f_X1_hasAll now.1 p2).bind fun q3 => (if q3 = 0 then some ((-2)) else (f_X1_isTrap n now.1 p1 p2).bind fun q5 => (if q5 = 0 then some (0) else some (1))))
theorem inw_X6_trap_4 : ∀ w ∈ wsX40, w ∈ wsX6_trap := fun _ h => List.mem_cons_of_mem _ (List.mem_append_left _ (List.mem_append_right _ h))
theorem inw_X6_trap_6 : ∀ w ∈ wsX60, w ∈ wsX6_trap := fun _ h => List.mem_cons_of_mem _ (List.mem_append_left _ (List.mem_append_left _ (List.mem_append_right _ h)))
theorem hd_X6_trap : yX6_trap.cls = RX6 ∧ yX6_trap.cls ≠ "java/lang/invoke/MethodHandle" ∧ yX6_trap.cls ≠ "java/lang/invoke/VarHandle" ∧ (parseMethodDescriptor yX6_trap.desc).map (fun d => d.parameters.length) = some 2 := by decide +kernel
set_option maxHeartbeats 4000000 in
set_option maxRecDepth 100000 in
theorem c_X6_trap (l : Launch) (D : va_G) (cI cC cS : ClassId) (R : va_W) (ad : Nat → Nat → Nat) (now : SS) (hist : HH) (snap : SS) (has : Int32) (text : TT) (trial : GG) (meas : EE) (walk : KK) (p1 : Int32) (p2 : Int32) (n : Nat) (r : Int32) (hf : f_X6_trap n now p1 p2 = some r) : CI l yX6_trap wsX6_trap 3 61 D cI cC cS [.ref (ad 0 0), .int p1, .int p2] ((w_X ad cI cC cS now hist snap has text trial meas walk) ++ R) r ((w_X ad cI cC cS now hist snap has text trial meas walk) ++ R) := by
  refine XI.of (cc := cX6_trap) (maxL := 3) (ty := .int) (own := RX6) (by decide) rfl rfl (Nat.le_of_ble_eq_true rfl) ?_
  intro p e s m args below meth c A Q S hK hN hA hP hD hS ls hl hret
  obtain ⟨hx, hb, hml, hown, hts⟩ := id S
  have hl : lv_has ls 3 [(0, .ref (ad 0 0)), (1, .int p1), (2, .int p2)] := hl
  unfold f_X6_trap at hf
  refine lv_iload_n hx hb dX6_trap_0 rfl (lv_at hl 1 rfl) ?_
  obtain ⟨q1, hq1, hf⟩ := ob_some hf
  refine xcSi S hK hN hA hP hD hS (c_X6_isPlayer l D cI cC cS ((w_X ad cI cC cS now hist snap has text trial meas walk) ++ R) p1 _ hq1) gX6_trap_X6_isPlayer rfl hd_X6_isPlayer ⟨by decide, by decide⟩ rfl hl.1 rfl (Nat.le_of_ble_eq_true rfl) dX6_trap_1 ⟨Nat.zero_le _, Nat.zero_le _⟩ (fun H locs hP hD hS => ?_)
  refine lv_if_ne (tgt := 9) hx hb dX6_trap_4 (by decide) (fun c2 => ?_) (fun c2 => ?_)
  · have hf := if_f hf c2
    refine lv_aload_n hx hb dX6_trap_9 rfl (lv_at hl 0 rfl) ?_
    refine va_get (D := D) (ci := 6) (v := .ref ((ad 1) 0)) (C := RX6) (T := TX6) (N := 8) hx hb hts inw_X6_trap_6 hown hK hP 0 rfl rfl 0 (by decide) (hts (.fieldLink RX6 12 "RingGames" "now" "LRingGames$State;") (List.mem_of_getElem? (i := 1) rfl)) (fun _ h9 => h9) rfl dX6_trap_10 ?_
    refine va_get (D := D) (ci := 4) (v := .ref ((ad 1) 2)) (C := RX4) (T := TX4) (N := 4) hx hb hts inw_X6_trap_4 hown hK hP 1 rfl rfl 0 (by decide) (hts (.fieldLink RX6 65 "RingGames$State" "game" "LRingGames$Game;") (List.mem_of_getElem? (i := 2) rfl)) (fun _ h9 => h9) rfl dX6_trap_13 ?_
    refine lv_iload_n hx hb dX6_trap_16 rfl (lv_at hl 2 rfl) ?_
    obtain ⟨q3, hq3, hf⟩ := ob_some hf
    refine xcVi (w' := ((w_X ad cI cC cS now hist snap has text trial meas walk) ++ R)) S hK hN hA hP hD hS (c_X1_hasAll l D cI cC cS ((xr 50 [3, 4, 5, 6]).filterMap (fun i => (w_X ad cI cC cS now hist snap has text trial meas walk)[i]?) ++ R) (fun k => (ad 1) (k + 2)) now.1 p2 _ hq3) gX6_trap_X1_hasAll rfl hd_X1_hasAll ⟨by decide, by decide⟩ (x_cut (pre := (w_X ad cI cC cS now hist snap has text trial meas walk)) [3, 4, 5, 6] 50 rfl (by decide +kernel) rfl) (x_cut (pre := (w_X ad cI cC cS now hist snap has text trial meas walk)) [3, 4, 5, 6] 50 rfl (by decide +kernel) rfl).symm (ci := 1) (q := (RX1, TX1, 4)) rfl rfl rfl rfl hl.1 rfl (Nat.le_of_ble_eq_true rfl) dX6_trap_17 ⟨Nat.zero_le _, Nat.zero_le _⟩ (fun H locs hP hD hS => ?_)
    refine lv_if_ne (tgt := 26) hx hb dX6_trap_20 (by decide) (fun c4 => ?_) (fun c4 => ?_)
    · have hf := if_f hf c4
      refine lv_aload_n hx hb dX6_trap_26 rfl (lv_at hl 0 rfl) ?_
      refine va_get (D := D) (ci := 6) (v := .ref ((ad 1) 0)) (C := RX6) (T := TX6) (N := 8) hx hb hts inw_X6_trap_6 hown hK hP 0 rfl rfl 0 (by decide) (hts (.fieldLink RX6 12 "RingGames" "now" "LRingGames$State;") (List.mem_of_getElem? (i := 1) rfl)) (fun _ h9 => h9) rfl dX6_trap_27 ?_
      refine va_get (D := D) (ci := 4) (v := .ref ((ad 1) 2)) (C := RX4) (T := TX4) (N := 4) hx hb hts inw_X6_trap_4 hown hK hP 1 rfl rfl 0 (by decide) (hts (.fieldLink RX6 65 "RingGames$State" "game" "LRingGames$Game;") (List.mem_of_getElem? (i := 2) rfl)) (fun _ h9 => h9) rfl dX6_trap_30 ?_
      refine lv_iload_n hx hb dX6_trap_33 rfl (lv_at hl 1 rfl) ?_
      refine lv_iload_n hx hb dX6_trap_34 rfl (lv_at hl 2 rfl) ?_
      obtain ⟨q5, hq5, hf⟩ := ob_some hf
      refine xcVi (w' := ((w_X ad cI cC cS now hist snap has text trial meas walk) ++ R)) S hK hN hA hP hD hS (c_X1_isTrap l D cI cC cS ((xr 50 [3, 4, 5, 6]).filterMap (fun i => (w_X ad cI cC cS now hist snap has text trial meas walk)[i]?) ++ R) (fun k => (ad 1) (k + 2)) now.1 p1 p2 n _ hq5) gX6_trap_X1_isTrap rfl hd_X1_isTrap ⟨by decide, by decide⟩ (x_cut (pre := (w_X ad cI cC cS now hist snap has text trial meas walk)) [3, 4, 5, 6] 50 rfl (by decide +kernel) rfl) (x_cut (pre := (w_X ad cI cC cS now hist snap has text trial meas walk)) [3, 4, 5, 6] 50 rfl (by decide +kernel) rfl).symm (ci := 1) (q := (RX1, TX1, 4)) rfl rfl rfl rfl hl.1 rfl (Nat.le_of_ble_eq_true rfl) dX6_trap_35 ⟨Nat.zero_le _, Nat.zero_le _⟩ (fun H locs hP hD hS => ?_)
      refine lv_if_eq (tgt := 45) hx hb dX6_trap_38 (by decide) (fun c6 => ?_) (fun c6 => ?_)
      · have hf := if_t hf c6
        refine lv_iconst (v := 0) hx hb dX6_trap_45 (by decide) ?_
        have hf := Option.some.inj hf
        subst hf
        exact hret _ _ _ _ _ dX6_trap_46 rfl hP hD hS rfl
      · have hf := if_f hf c6
        refine lv_iconst (v := 1) hx hb dX6_trap_41 (by decide) ?_
        refine lv_goto (tgt := 46) hx hb dX6_trap_42 (by decide) ?_
        have hf := Option.some.inj hf
        subst hf
        exact hret _ _ _ _ _ dX6_trap_46 rfl hP hD hS rfl
    · have hf := if_t hf c4
      refine lv_bipush (v := (-2)) hx hb dX6_trap_23 (by decide) ?_
      have hf := Option.some.inj hf
      subst hf
      exact hret _ _ _ _ _ dX6_trap_25 rfl hP hD hS rfl
  · have hf := if_t hf c2
    refine lv_iconst (v := (-1)) hx hb dX6_trap_7 (by decide) ?_
    have hf := Option.some.inj hf
    subst hf
    exact hret _ _ _ _ _ dX6_trap_8 rfl hP hD hS rfl
def f_X6_judgeFor_L16 (d_now : SS) (d_l1 : Int32) : Nat → Int32 → GG → Option GG
  | 0, _, _ => none
  | k + 1, d_l2, d_trial => (if d_now.1.1 ≤ d_l2 then some (d_trial) else vg d_l2 14 ((if (d_now.1.2.1 (d_l2).toNatClampNeg) = d_l1 then (if (d_now.2.1 (d_l2).toNatClampNeg) = 14 then f_X6_judgeFor_L16 d_now d_l1 k (d_l2 + 1) d_trial else (f_X6_bit (d_now.2.1 (d_l2).toNatClampNeg)).bind fun q6 => f_X6_judgeFor_L16 d_now d_l1 k (d_l2 + 1) (d_trial.1, d_trial.2.1, d_trial.2.2.1, (upd d_trial.2.2.2 (d_l2).toNatClampNeg q6))) else f_X6_judgeFor_L16 d_now d_l1 k (d_l2 + 1) d_trial)))
def f_X6_judgeFor (n : Nat) (now : SS) (trial : GG) (p1 : Int32) : Option GG := (f_X1_become trial now.1).bind fun q1 => (f_X6_judgeFor_L16 now p1 n 0 q1).bind fun q3 => some (q3)
theorem inw_X6_judgeFor_1 : ∀ w ∈ wsX10, w ∈ wsX6_judgeFor := fun _ h => List.mem_cons_of_mem _ (List.mem_append_right _ h)
theorem inw_X6_judgeFor_4 : ∀ w ∈ wsX40, w ∈ wsX6_judgeFor := fun _ h => List.mem_cons_of_mem _ (List.mem_append_left _ (List.mem_append_right _ h))
theorem inw_X6_judgeFor_6 : ∀ w ∈ wsX60, w ∈ wsX6_judgeFor := fun _ h => List.mem_cons_of_mem _ (List.mem_append_left _ (List.mem_append_left _ (List.mem_append_right _ h)))
theorem hd_X6_judgeFor : yX6_judgeFor.cls = RX6 ∧ yX6_judgeFor.cls ≠ "java/lang/invoke/MethodHandle" ∧ yX6_judgeFor.cls ≠ "java/lang/invoke/VarHandle" ∧ (parseMethodDescriptor yX6_judgeFor.desc).map (fun d => d.parameters.length) = some 1 := by decide +kernel
set_option maxHeartbeats 4000000 in
set_option maxRecDepth 100000 in
theorem c_X6_judgeFor (l : Launch) (D : va_G) (cI cC cS : ClassId) (R : va_W) (ad : Nat → Nat → Nat) (now : SS) (hist : HH) (snap : SS) (has : Int32) (text : TT) (trial : GG) (meas : EE) (walk : KK) (p1 : Int32) (n : Nat) (r : GG) (hf : f_X6_judgeFor n now trial p1 = some r) : CV l yX6_judgeFor wsX6_judgeFor 2 81 D cI cC cS [.ref (ad 0 0), .int p1] ((w_X ad cI cC cS now hist snap has text trial meas walk) ++ R) ((w_X ad cI cC cS now hist snap has text r meas walk) ++ R) := by
  refine XV.of (cc := cX6_judgeFor) (maxL := 3) (own := RX6) (by decide) rfl rfl (Nat.le_of_ble_eq_true rfl) ?_
  intro p e s m args below meth c A Q S hK hN hA hP hD hS ls hl hret
  obtain ⟨hx, hb, hml, hown, hts⟩ := id S
  have hl : lv_has ls 3 [(0, .ref (ad 0 0)), (1, .int p1)] := hl
  unfold f_X6_judgeFor at hf
  refine lv_aload_n hx hb dX6_judgeFor_0 rfl (lv_at hl 0 rfl) ?_
  refine va_get (D := D) (ci := 6) (v := .ref ((ad 5) 0)) (C := RX6) (T := TX6) (N := 8) hx hb hts inw_X6_judgeFor_6 hown hK hP 0 rfl rfl 5 (by decide) (hts (.fieldLink RX6 40 "RingGames" "trial" "LRingGames$Game;") (List.mem_of_getElem? (i := 1) rfl)) (fun _ h9 => h9) rfl dX6_judgeFor_1 ?_
  refine lv_aload_n hx hb dX6_judgeFor_4 rfl (lv_at hl 0 rfl) ?_
  refine va_get (D := D) (ci := 6) (v := .ref ((ad 1) 0)) (C := RX6) (T := TX6) (N := 8) hx hb hts inw_X6_judgeFor_6 hown hK hP 0 rfl rfl 0 (by decide) (hts (.fieldLink RX6 12 "RingGames" "now" "LRingGames$State;") (List.mem_of_getElem? (i := 2) rfl)) (fun _ h9 => h9) rfl dX6_judgeFor_5 ?_
  refine va_get (D := D) (ci := 4) (v := .ref ((ad 1) 2)) (C := RX4) (T := TX4) (N := 4) hx hb hts inw_X6_judgeFor_4 hown hK hP 1 rfl rfl 0 (by decide) (hts (.fieldLink RX6 65 "RingGames$State" "game" "LRingGames$Game;") (List.mem_of_getElem? (i := 3) rfl)) (fun _ h9 => h9) rfl dX6_judgeFor_8 ?_
  obtain ⟨q1, hq1, hf⟩ := ob_some hf
  refine xcVv (w' := ((w_X ad cI cC cS now hist snap has text q1 meas walk) ++ R)) S hK hN hA hP hD hS (c_X1_become l D cI cC cS ((xr 50 [41, 42, 43, 44, 3, 4, 5, 6]).filterMap (fun i => (w_X ad cI cC cS now hist snap has text trial meas walk)[i]?) ++ R) (ad 5) (fun k => (ad 1) (k + 2)) trial now.1 _ hq1) gX6_judgeFor_X1_become rfl hd_X1_become ⟨by decide, by decide⟩ (x_cut (pre := (w_X ad cI cC cS now hist snap has text trial meas walk)) [41, 42, 43, 44, 3, 4, 5, 6] 50 rfl (by decide +kernel) rfl) (x_back (pre := (w_X ad cI cC cS now hist snap has text trial meas walk)) [41, 42, 43, 44, 3, 4, 5, 6] 50 rfl (by decide +kernel) rfl rfl) (ci := 1) (q := (RX1, TX1, 4)) rfl rfl rfl rfl hl.1 rfl (Nat.le_of_ble_eq_true rfl) dX6_judgeFor_11 ⟨Nat.zero_le _, Nat.zero_le _⟩ (fun H locs hP hD hS => ?_)
  refine lv_iconst (v := 0) hx hb dX6_judgeFor_14 (by decide) ?_
  refine lv_istore_n (lv' := [(2, .int 0), (0, .ref (ad 0 0)), (1, .int p1)]) hx hb dX6_judgeFor_15 rfl hl (by decide) rfl (fun ls hl => ?_)
  obtain ⟨q3, hq3, hf⟩ := ob_some hf
  have L2 : ∀ (k : Nat) (v_l2_L2 : Int32) (v_trial_L2 : GG) (q_L2 : GG), f_X6_judgeFor_L16 now p1 k v_l2_L2 v_trial_L2 = some q_L2 → ∀ (H : Heap) (locs : List Loc), va_P D vwCl ((w_X ad cI cC cS now hist snap has text v_trial_L2 meas walk) ++ R) H → va_D A ((w_X ad cI cC cS now hist snap has text v_trial_L2 meas walk) ++ R) → va_S A s.heap H locs → ∀ ls : Array Slot, lv_has ls 3 [(0, .ref (ad 0 0)), (1, .int p1), (2, .int v_l2_L2)] → (∀ (H : Heap) (locs : List Loc), va_P D vwCl ((w_X ad cI cC cS now hist snap has text q_L2 meas walk) ++ R) H → va_D A ((w_X ad cI cC cS now hist snap has text q_L2 meas walk) ++ R) → va_S A s.heap H locs → ∀ ls : Array Slot, lv_has ls 3 [] → W p l e (xR 2 81) s m args below meth c H locs 0 0 Q (F0 m 87 ls [])) → W p l e (xR 2 81) s m args below meth c H locs 0 0 Q (F0 m 16 ls []) := by
    intro k
    induction k with
    | zero => intro v_l2_L2 v_trial_L2 q_L2 hf; simp [f_X6_judgeFor_L16] at hf
    | succ k ih =>
      intro v_l2_L2 v_trial_L2 q_L2 hf H locs hP hD hS ls hl kx
      rw [f_X6_judgeFor_L16] at hf
      refine lv_iload_n hx hb dX6_judgeFor_16 rfl (lv_at hl 2 rfl) ?_
      refine lv_aload_n hx hb dX6_judgeFor_17 rfl (lv_at hl 0 rfl) ?_
      refine va_get (D := D) (ci := 6) (v := .ref ((ad 1) 0)) (C := RX6) (T := TX6) (N := 8) hx hb hts inw_X6_judgeFor_6 hown hK hP 0 rfl rfl 0 (by decide) (hts (.fieldLink RX6 12 "RingGames" "now" "LRingGames$State;") (List.mem_of_getElem? (i := 2) rfl)) (fun _ h9 => h9) rfl dX6_judgeFor_18 ?_
      refine va_get (D := D) (ci := 4) (v := .ref ((ad 1) 2)) (C := RX4) (T := TX4) (N := 4) hx hb hts inw_X6_judgeFor_4 hown hK hP 1 rfl rfl 0 (by decide) (hts (.fieldLink RX6 65 "RingGames$State" "game" "LRingGames$Game;") (List.mem_of_getElem? (i := 3) rfl)) (fun _ h9 => h9) rfl dX6_judgeFor_21 ?_
      refine va_get (D := D) (ci := 1) (v := .int now.1.1) (C := RX1) (T := TX1) (N := 4) hx hb hts inw_X6_judgeFor_1 hown hK hP 3 rfl rfl 0 (by decide) (hts (.fieldLink RX6 68 "RingGames$Game" "size" "I") (List.mem_of_getElem? (i := 4) rfl)) (fun _ h9 => h9) rfl dX6_judgeFor_24 ?_
      refine lv_icmp_ge (tgt := 87) hx hb dX6_judgeFor_27 (by decide) (fun c4 => ?_) (fun c4 => ?_)
      · have hf := if_t hf c4
        have hf := Option.some.inj hf
        subst hf
        exact kx _ _ hP hD hS _ (lv_sub hl [] rfl)
      · have hf := if_f hf c4
        refine lv_aload_n hx hb dX6_judgeFor_30 rfl (lv_at hl 0 rfl) ?_
        refine va_get (D := D) (ci := 6) (v := .ref ((ad 1) 0)) (C := RX6) (T := TX6) (N := 8) hx hb hts inw_X6_judgeFor_6 hown hK hP 0 rfl rfl 0 (by decide) (hts (.fieldLink RX6 12 "RingGames" "now" "LRingGames$State;") (List.mem_of_getElem? (i := 2) rfl)) (fun _ h9 => h9) rfl dX6_judgeFor_31 ?_
        refine va_get (D := D) (ci := 4) (v := .ref ((ad 1) 2)) (C := RX4) (T := TX4) (N := 4) hx hb hts inw_X6_judgeFor_4 hown hK hP 1 rfl rfl 0 (by decide) (hts (.fieldLink RX6 65 "RingGames$State" "game" "LRingGames$Game;") (List.mem_of_getElem? (i := 3) rfl)) (fun _ h9 => h9) rfl dX6_judgeFor_34 ?_
        refine va_get (D := D) (ci := 1) (v := .ref ((ad 1) 3)) (C := RX1) (T := TX1) (N := 4) hx hb hts inw_X6_judgeFor_1 hown hK hP 3 rfl rfl 1 (by decide) (hts (.fieldLink RX6 83 "RingGames$Game" "owners" "[I") (List.mem_of_getElem? (i := 5) rfl)) (fun _ h9 => h9) rfl dX6_judgeFor_37 ?_
        refine lv_iload_n hx hb dX6_judgeFor_40 rfl (lv_at hl 2 rfl) ?_
        obtain ⟨g5, hf⟩ := vg_some hf
        refine va_iald hx hb hK hP 4 0 rfl rfl g5 dX6_judgeFor_41 ?_
        refine lv_iload_n hx hb dX6_judgeFor_42 rfl (lv_at hl 1 rfl) ?_
        refine lv_icmp_ne (tgt := 81) hx hb dX6_judgeFor_43 (by decide) (fun c6 => ?_) (fun c6 => ?_)
        · have hf := if_f hf c6
          refine lv_iinc (v := (v_l2_L2 + 1)) (lv' := [(2, .int (v_l2_L2 + 1)), (0, .ref (ad 0 0)), (1, .int p1)]) hx hb dX6_judgeFor_81 hl (k := 2) rfl (congrArg (fun z => v_l2_L2 + z) (by decide)) (by decide) rfl (fun ls hl => ?_)
          refine lv_goto (tgt := 16) hx hb dX6_judgeFor_84 (by decide) ?_
          exact ih (v_l2_L2 + 1) v_trial_L2 _ hf _ _ hP hD hS _ (lv_sub hl [1, 2, 0] rfl) kx
        · have hf := if_t hf c6
          refine lv_aload_n hx hb dX6_judgeFor_46 rfl (lv_at hl 0 rfl) ?_
          refine va_get (D := D) (ci := 6) (v := .ref ((ad 1) 0)) (C := RX6) (T := TX6) (N := 8) hx hb hts inw_X6_judgeFor_6 hown hK hP 0 rfl rfl 0 (by decide) (hts (.fieldLink RX6 12 "RingGames" "now" "LRingGames$State;") (List.mem_of_getElem? (i := 2) rfl)) (fun _ h9 => h9) rfl dX6_judgeFor_47 ?_
          refine va_get (D := D) (ci := 4) (v := .ref ((ad 1) 1)) (C := RX4) (T := TX4) (N := 4) hx hb hts inw_X6_judgeFor_4 hown hK hP 1 rfl rfl 1 (by decide) (hts (.fieldLink RX6 113 "RingGames$State" "choices" "[I") (List.mem_of_getElem? (i := 6) rfl)) (fun _ h9 => h9) rfl dX6_judgeFor_50 ?_
          refine lv_iload_n hx hb dX6_judgeFor_53 rfl (lv_at hl 2 rfl) ?_
          refine va_iald hx hb hK hP 2 0 rfl rfl g5 dX6_judgeFor_54 ?_
          refine lv_bipush (v := 14) hx hb dX6_judgeFor_55 (by decide) ?_
          refine lv_icmp_eq (tgt := 81) hx hb dX6_judgeFor_57 (by decide) (fun c7 => ?_) (fun c7 => ?_)
          · have hf := if_t hf c7
            refine lv_iinc (v := (v_l2_L2 + 1)) (lv' := [(2, .int (v_l2_L2 + 1)), (0, .ref (ad 0 0)), (1, .int p1)]) hx hb dX6_judgeFor_81 hl (k := 2) rfl (congrArg (fun z => v_l2_L2 + z) (by decide)) (by decide) rfl (fun ls hl => ?_)
            refine lv_goto (tgt := 16) hx hb dX6_judgeFor_84 (by decide) ?_
            exact ih (v_l2_L2 + 1) v_trial_L2 _ hf _ _ hP hD hS _ (lv_sub hl [1, 2, 0] rfl) kx
          · have hf := if_f hf c7
            refine lv_aload_n hx hb dX6_judgeFor_60 rfl (lv_at hl 0 rfl) ?_
            refine va_get (D := D) (ci := 6) (v := .ref ((ad 5) 0)) (C := RX6) (T := TX6) (N := 8) hx hb hts inw_X6_judgeFor_6 hown hK hP 0 rfl rfl 5 (by decide) (hts (.fieldLink RX6 40 "RingGames" "trial" "LRingGames$Game;") (List.mem_of_getElem? (i := 1) rfl)) (fun _ h9 => h9) rfl dX6_judgeFor_61 ?_
            refine va_get (D := D) (ci := 1) (v := .ref ((ad 5) 3)) (C := RX1) (T := TX1) (N := 4) hx hb hts inw_X6_judgeFor_1 hown hK hP 41 rfl rfl 3 (by decide) (hts (.fieldLink RX6 102 "RingGames$Game" "arrows" "[I") (List.mem_of_getElem? (i := 7) rfl)) (fun _ h9 => h9) rfl dX6_judgeFor_64 ?_
            refine lv_iload_n hx hb dX6_judgeFor_67 rfl (lv_at hl 2 rfl) ?_
            refine lv_aload_n hx hb dX6_judgeFor_68 rfl (lv_at hl 0 rfl) ?_
            refine va_get (D := D) (ci := 6) (v := .ref ((ad 1) 0)) (C := RX6) (T := TX6) (N := 8) hx hb hts inw_X6_judgeFor_6 hown hK hP 0 rfl rfl 0 (by decide) (hts (.fieldLink RX6 12 "RingGames" "now" "LRingGames$State;") (List.mem_of_getElem? (i := 2) rfl)) (fun _ h9 => h9) rfl dX6_judgeFor_69 ?_
            refine va_get (D := D) (ci := 4) (v := .ref ((ad 1) 1)) (C := RX4) (T := TX4) (N := 4) hx hb hts inw_X6_judgeFor_4 hown hK hP 1 rfl rfl 1 (by decide) (hts (.fieldLink RX6 113 "RingGames$State" "choices" "[I") (List.mem_of_getElem? (i := 6) rfl)) (fun _ h9 => h9) rfl dX6_judgeFor_72 ?_
            refine lv_iload_n hx hb dX6_judgeFor_75 rfl (lv_at hl 2 rfl) ?_
            refine va_iald hx hb hK hP 2 0 rfl rfl g5 dX6_judgeFor_76 ?_
            obtain ⟨q8, hq8, hf⟩ := ob_some hf
            refine xcSi S hK hN hA hP hD hS (c_X6_bit l D cI cC cS ((w_X ad cI cC cS now hist snap has text v_trial_L2 meas walk) ++ R) (now.2.1 (v_l2_L2).toNatClampNeg) _ hq8) gX6_judgeFor_X6_bit rfl hd_X6_bit ⟨by decide, by decide⟩ rfl hl.1 rfl (Nat.le_of_ble_eq_true rfl) dX6_judgeFor_77 ⟨Nat.zero_le _, Nat.zero_le _⟩ (fun H locs hP hD hS => ?_)
            refine va_iast hx hb hK hP hD hS 44 0 rfl rfl g5 dX6_judgeFor_80 (fun H locs hP hD hS => ?_)
            have hP : va_P D vwCl ((w_X ad cI cC cS now hist snap has text (v_trial_L2.1, v_trial_L2.2.1, v_trial_L2.2.2.1, (upd v_trial_L2.2.2.2 (v_l2_L2).toNatClampNeg q8)) meas walk) ++ R) H := hP
            have hD : va_D A ((w_X ad cI cC cS now hist snap has text (v_trial_L2.1, v_trial_L2.2.1, v_trial_L2.2.2.1, (upd v_trial_L2.2.2.2 (v_l2_L2).toNatClampNeg q8)) meas walk) ++ R) := hD
            refine lv_iinc (v := (v_l2_L2 + 1)) (lv' := [(2, .int (v_l2_L2 + 1)), (0, .ref (ad 0 0)), (1, .int p1)]) hx hb dX6_judgeFor_81 hl (k := 2) rfl (congrArg (fun z => v_l2_L2 + z) (by decide)) (by decide) rfl (fun ls hl => ?_)
            refine lv_goto (tgt := 16) hx hb dX6_judgeFor_84 (by decide) ?_
            exact ih (v_l2_L2 + 1) (v_trial_L2.1, v_trial_L2.2.1, v_trial_L2.2.2.1, (upd v_trial_L2.2.2.2 (v_l2_L2).toNatClampNeg q8)) _ hf _ _ hP hD hS _ (lv_sub hl [1, 2, 0] rfl) kx
  refine L2 n 0 q1 q3 hq3 _ _ hP hD hS _ (lv_sub hl [1, 2, 0] rfl) ?_
  clear hP hD hS hl
  intro H locs hP hD hS ls hl
  have hf := Option.some.inj hf
  subst hf
  exact hret _ _ _ _ dX6_judgeFor_87 hP hD hS
def f_X6_judged (n : Nat) (now : SS) (trial : GG) (p1 : Int32) (p2 : Int32) : Option (Int32 × GG) := (f_X6_isPlayer p1).bind fun q1 => (if q1 = 0 then some ((-1), trial) else (f_X1_has now.1 p2).bind fun q3 => (if q3 = 0 then some ((-1), trial) else (f_X6_judgeFor n now trial p1).bind fun q5 => (f_X1_badRingPlaces n q5 p1).bind fun q6 => (f_X1_owned n q5 p1).bind fun q7 => (f_X1_withoutArrows n q5).bind fun q8 => (f_X6_bit p2).bind fun q9 => (f_X6_bit p2).bind fun q10 => (f_X1_all q5).bind fun q11 => (f_X1_reached n q5 q10 q11).bind fun q12 => (if ((q9 ||| q12) &&& (q6 ||| (q7 &&& q8))) = 0 then some (1, q5) else some (0, q5))))
theorem inw_X6_judged_4 : ∀ w ∈ wsX40, w ∈ wsX6_judged := fun _ h => List.mem_cons_of_mem _ (List.mem_append_left _ (List.mem_append_right _ h))
theorem inw_X6_judged_6 : ∀ w ∈ wsX60, w ∈ wsX6_judged := fun _ h => List.mem_cons_of_mem _ (List.mem_append_left _ (List.mem_append_left _ (List.mem_append_right _ h)))
theorem hd_X6_judged : yX6_judged.cls = RX6 ∧ yX6_judged.cls ≠ "java/lang/invoke/MethodHandle" ∧ yX6_judged.cls ≠ "java/lang/invoke/VarHandle" ∧ (parseMethodDescriptor yX6_judged.desc).map (fun d => d.parameters.length) = some 2 := by decide +kernel
set_option maxHeartbeats 4000000 in
set_option maxRecDepth 100000 in
theorem c_X6_judged (l : Launch) (D : va_G) (cI cC cS : ClassId) (R : va_W) (ad : Nat → Nat → Nat) (now : SS) (hist : HH) (snap : SS) (has : Int32) (text : TT) (trial : GG) (meas : EE) (walk : KK) (p1 : Int32) (p2 : Int32) (n : Nat) (r : Int32 × GG) (hf : f_X6_judged n now trial p1 p2 = some r) : CI l yX6_judged wsX6_judged 5 114 D cI cC cS [.ref (ad 0 0), .int p1, .int p2] ((w_X ad cI cC cS now hist snap has text trial meas walk) ++ R) r.1 ((w_X ad cI cC cS now hist snap has text r.2 meas walk) ++ R) := by
  refine XI.of (cc := cX6_judged) (maxL := 5) (ty := .int) (own := RX6) (by decide) rfl rfl (Nat.le_of_ble_eq_true rfl) ?_
  intro p e s m args below meth c A Q S hK hN hA hP hD hS ls hl hret
  obtain ⟨hx, hb, hml, hown, hts⟩ := id S
  have hl : lv_has ls 5 [(0, .ref (ad 0 0)), (1, .int p1), (2, .int p2)] := hl
  unfold f_X6_judged at hf
  refine lv_iload_n hx hb dX6_judged_0 rfl (lv_at hl 1 rfl) ?_
  obtain ⟨q1, hq1, hf⟩ := ob_some hf
  refine xcSi S hK hN hA hP hD hS (c_X6_isPlayer l D cI cC cS ((w_X ad cI cC cS now hist snap has text trial meas walk) ++ R) p1 _ hq1) gX6_judged_X6_isPlayer rfl hd_X6_isPlayer ⟨by decide, by decide⟩ rfl hl.1 rfl (Nat.le_of_ble_eq_true rfl) dX6_judged_1 ⟨Nat.zero_le _, Nat.zero_le _⟩ (fun H locs hP hD hS => ?_)
  refine lv_if_eq (tgt := 21) hx hb dX6_judged_4 (by decide) (fun c2 => ?_) (fun c2 => ?_)
  · have hf := if_t hf c2
    refine lv_iconst (v := (-1)) hx hb dX6_judged_21 (by decide) ?_
    have hf := Option.some.inj hf
    subst hf
    exact hret _ _ _ _ _ dX6_judged_22 rfl hP hD hS rfl
  · have hf := if_f hf c2
    refine lv_aload_n hx hb dX6_judged_7 rfl (lv_at hl 0 rfl) ?_
    refine va_get (D := D) (ci := 6) (v := .ref ((ad 1) 0)) (C := RX6) (T := TX6) (N := 8) hx hb hts inw_X6_judged_6 hown hK hP 0 rfl rfl 0 (by decide) (hts (.fieldLink RX6 12 "RingGames" "now" "LRingGames$State;") (List.mem_of_getElem? (i := 1) rfl)) (fun _ h9 => h9) rfl dX6_judged_8 ?_
    refine va_get (D := D) (ci := 4) (v := .ref ((ad 1) 2)) (C := RX4) (T := TX4) (N := 4) hx hb hts inw_X6_judged_4 hown hK hP 1 rfl rfl 0 (by decide) (hts (.fieldLink RX6 65 "RingGames$State" "game" "LRingGames$Game;") (List.mem_of_getElem? (i := 2) rfl)) (fun _ h9 => h9) rfl dX6_judged_11 ?_
    refine lv_iload_n hx hb dX6_judged_14 rfl (lv_at hl 2 rfl) ?_
    obtain ⟨q3, hq3, hf⟩ := ob_some hf
    refine xcVi (w' := ((w_X ad cI cC cS now hist snap has text trial meas walk) ++ R)) S hK hN hA hP hD hS (c_X1_has l D cI cC cS ((xr 50 [3, 4, 5, 6]).filterMap (fun i => (w_X ad cI cC cS now hist snap has text trial meas walk)[i]?) ++ R) (fun k => (ad 1) (k + 2)) now.1 p2 _ hq3) gX6_judged_X1_has rfl hd_X1_has ⟨by decide, by decide⟩ (x_cut (pre := (w_X ad cI cC cS now hist snap has text trial meas walk)) [3, 4, 5, 6] 50 rfl (by decide +kernel) rfl) (x_cut (pre := (w_X ad cI cC cS now hist snap has text trial meas walk)) [3, 4, 5, 6] 50 rfl (by decide +kernel) rfl).symm (ci := 1) (q := (RX1, TX1, 4)) rfl rfl rfl rfl hl.1 rfl (Nat.le_of_ble_eq_true rfl) dX6_judged_15 ⟨Nat.zero_le _, Nat.zero_le _⟩ (fun H locs hP hD hS => ?_)
    refine lv_if_ne (tgt := 23) hx hb dX6_judged_18 (by decide) (fun c4 => ?_) (fun c4 => ?_)
    · have hf := if_f hf c4
      refine lv_aload_n hx hb dX6_judged_23 rfl (lv_at hl 0 rfl) ?_
      refine lv_iload_n hx hb dX6_judged_24 rfl (lv_at hl 1 rfl) ?_
      obtain ⟨q5, hq5, hf⟩ := ob_some hf
      refine xcVv (w' := ((w_X ad cI cC cS now hist snap has text q5 meas walk) ++ R)) S hK hN hA hP hD hS (c_X6_judgeFor l D cI cC cS R ad now hist snap has text trial meas walk p1 n _ hq5) gX6_judged_X6_judgeFor rfl hd_X6_judgeFor ⟨by decide, by decide⟩ (List.Perm.refl _) (List.Perm.refl _) (ci := 6) (q := (RX6, TX6, 8)) rfl rfl rfl rfl hl.1 rfl (Nat.le_of_ble_eq_true rfl) dX6_judged_25 ⟨Nat.zero_le _, Nat.zero_le _⟩ (fun H locs hP hD hS => ?_)
      refine lv_aload_n hx hb dX6_judged_28 rfl (lv_at hl 0 rfl) ?_
      refine va_get (D := D) (ci := 6) (v := .ref ((ad 5) 0)) (C := RX6) (T := TX6) (N := 8) hx hb hts inw_X6_judged_6 hown hK hP 0 rfl rfl 5 (by decide) (hts (.fieldLink RX6 40 "RingGames" "trial" "LRingGames$Game;") (List.mem_of_getElem? (i := 3) rfl)) (fun _ h9 => h9) rfl dX6_judged_29 ?_
      refine lv_iload_n hx hb dX6_judged_32 rfl (lv_at hl 1 rfl) ?_
      obtain ⟨q6, hq6, hf⟩ := ob_some hf
      refine xcVi (w' := ((w_X ad cI cC cS now hist snap has text q5 meas walk) ++ R)) S hK hN hA hP hD hS (c_X1_badRingPlaces l D cI cC cS ((xr 50 [41, 42, 43, 44]).filterMap (fun i => (w_X ad cI cC cS now hist snap has text q5 meas walk)[i]?) ++ R) (ad 5) q5 p1 n _ hq6) gX6_judged_X1_badRingPlaces rfl hd_X1_badRingPlaces ⟨by decide, by decide⟩ (x_cut (pre := (w_X ad cI cC cS now hist snap has text q5 meas walk)) [41, 42, 43, 44] 50 rfl (by decide +kernel) rfl) (x_cut (pre := (w_X ad cI cC cS now hist snap has text q5 meas walk)) [41, 42, 43, 44] 50 rfl (by decide +kernel) rfl).symm (ci := 1) (q := (RX1, TX1, 4)) rfl rfl rfl rfl hl.1 rfl (Nat.le_of_ble_eq_true rfl) dX6_judged_33 ⟨Nat.zero_le _, Nat.zero_le _⟩ (fun H locs hP hD hS => ?_)
      refine lv_aload_n hx hb dX6_judged_36 rfl (lv_at hl 0 rfl) ?_
      refine va_get (D := D) (ci := 6) (v := .ref ((ad 5) 0)) (C := RX6) (T := TX6) (N := 8) hx hb hts inw_X6_judged_6 hown hK hP 0 rfl rfl 5 (by decide) (hts (.fieldLink RX6 40 "RingGames" "trial" "LRingGames$Game;") (List.mem_of_getElem? (i := 3) rfl)) (fun _ h9 => h9) rfl dX6_judged_37 ?_
      refine lv_iload_n hx hb dX6_judged_40 rfl (lv_at hl 1 rfl) ?_
      obtain ⟨q7, hq7, hf⟩ := ob_some hf
      refine xcVi (w' := ((w_X ad cI cC cS now hist snap has text q5 meas walk) ++ R)) S hK hN hA hP hD hS (c_X1_owned l D cI cC cS ((xr 50 [41, 42, 43, 44]).filterMap (fun i => (w_X ad cI cC cS now hist snap has text q5 meas walk)[i]?) ++ R) (ad 5) q5 p1 n _ hq7) gX6_judged_X1_owned rfl hd_X1_owned ⟨by decide, by decide⟩ (x_cut (pre := (w_X ad cI cC cS now hist snap has text q5 meas walk)) [41, 42, 43, 44] 50 rfl (by decide +kernel) rfl) (x_cut (pre := (w_X ad cI cC cS now hist snap has text q5 meas walk)) [41, 42, 43, 44] 50 rfl (by decide +kernel) rfl).symm (ci := 1) (q := (RX1, TX1, 4)) rfl rfl rfl rfl hl.1 rfl (Nat.le_of_ble_eq_true rfl) dX6_judged_41 ⟨Nat.zero_le _, Nat.zero_le _⟩ (fun H locs hP hD hS => ?_)
      refine lv_aload_n hx hb dX6_judged_44 rfl (lv_at hl 0 rfl) ?_
      refine va_get (D := D) (ci := 6) (v := .ref ((ad 5) 0)) (C := RX6) (T := TX6) (N := 8) hx hb hts inw_X6_judged_6 hown hK hP 0 rfl rfl 5 (by decide) (hts (.fieldLink RX6 40 "RingGames" "trial" "LRingGames$Game;") (List.mem_of_getElem? (i := 3) rfl)) (fun _ h9 => h9) rfl dX6_judged_45 ?_
      obtain ⟨q8, hq8, hf⟩ := ob_some hf
      refine xcVi (w' := ((w_X ad cI cC cS now hist snap has text q5 meas walk) ++ R)) S hK hN hA hP hD hS (c_X1_withoutArrows l D cI cC cS ((xr 50 [41, 42, 43, 44]).filterMap (fun i => (w_X ad cI cC cS now hist snap has text q5 meas walk)[i]?) ++ R) (ad 5) q5 n _ hq8) gX6_judged_X1_withoutArrows rfl hd_X1_withoutArrows ⟨by decide, by decide⟩ (x_cut (pre := (w_X ad cI cC cS now hist snap has text q5 meas walk)) [41, 42, 43, 44] 50 rfl (by decide +kernel) rfl) (x_cut (pre := (w_X ad cI cC cS now hist snap has text q5 meas walk)) [41, 42, 43, 44] 50 rfl (by decide +kernel) rfl).symm (ci := 1) (q := (RX1, TX1, 4)) rfl rfl rfl rfl hl.1 rfl (Nat.le_of_ble_eq_true rfl) dX6_judged_48 ⟨Nat.zero_le _, Nat.zero_le _⟩ (fun H locs hP hD hS => ?_)
      refine lv_iand hx hb dX6_judged_51 ?_
      refine lv_ior hx hb dX6_judged_52 ?_
      refine lv_istore_n (lv' := [(3, .int (q6 ||| (q7 &&& q8))), (0, .ref (ad 0 0)), (1, .int p1), (2, .int p2)]) hx hb dX6_judged_53 rfl hl (by decide) rfl (fun ls hl => ?_)
      refine lv_iload_n hx hb dX6_judged_54 rfl (lv_at hl 3 rfl) ?_
      obtain ⟨q9, hq9, hf⟩ := ob_some hf
      refine xcSi S hK hN hA hP hD hS (c_X6_bit l D cI cC cS ((w_X ad cI cC cS now hist snap has text q5 meas walk) ++ R) p2 _ hq9) gX6_judged_X6_bit rfl hd_X6_bit ⟨by decide, by decide⟩ rfl hl.1 rfl (Nat.le_of_ble_eq_true rfl) dX6_judged_55 ⟨Nat.zero_le _, Nat.zero_le _⟩ (fun H locs hP hD hS => ?_)
      refine lv_aload_n hx hb dX6_judged_58 rfl (lv_at hl 1 rfl) ?_
      refine va_get (D := D) (ci := 6) (v := .ref ((ad 5) 0)) (C := RX6) (T := TX6) (N := 8) hx hb hts inw_X6_judged_6 hown hK hP 0 rfl rfl 5 (by decide) (hts (.fieldLink RX6 40 "RingGames" "trial" "LRingGames$Game;") (List.mem_of_getElem? (i := 3) rfl)) (fun _ h9 => h9) rfl dX6_judged_59 ?_
      refine lv_iload_n hx hb dX6_judged_62 rfl (lv_at hl 3 rfl) ?_
      obtain ⟨q10, hq10, hf⟩ := ob_some hf
      refine xcSi S hK hN hA hP hD hS (c_X6_bit l D cI cC cS ((w_X ad cI cC cS now hist snap has text q5 meas walk) ++ R) p2 _ hq10) gX6_judged_X6_bit rfl hd_X6_bit ⟨by decide, by decide⟩ rfl hl.1 rfl (Nat.le_of_ble_eq_true rfl) dX6_judged_63 ⟨Nat.zero_le _, Nat.zero_le _⟩ (fun H locs hP hD hS => ?_)
      refine lv_aload_n hx hb dX6_judged_66 rfl (lv_at hl 1 rfl) ?_
      refine va_get (D := D) (ci := 6) (v := .ref ((ad 5) 0)) (C := RX6) (T := TX6) (N := 8) hx hb hts inw_X6_judged_6 hown hK hP 0 rfl rfl 5 (by decide) (hts (.fieldLink RX6 40 "RingGames" "trial" "LRingGames$Game;") (List.mem_of_getElem? (i := 3) rfl)) (fun _ h9 => h9) rfl dX6_judged_67 ?_
      obtain ⟨q11, hq11, hf⟩ := ob_some hf
      refine xcVi (w' := ((w_X ad cI cC cS now hist snap has text q5 meas walk) ++ R)) S hK hN hA hP hD hS (c_X1_all l D cI cC cS ((xr 50 [41, 42, 43, 44]).filterMap (fun i => (w_X ad cI cC cS now hist snap has text q5 meas walk)[i]?) ++ R) (ad 5) q5 _ hq11) gX6_judged_X1_all rfl hd_X1_all ⟨by decide, by decide⟩ (x_cut (pre := (w_X ad cI cC cS now hist snap has text q5 meas walk)) [41, 42, 43, 44] 50 rfl (by decide +kernel) rfl) (x_cut (pre := (w_X ad cI cC cS now hist snap has text q5 meas walk)) [41, 42, 43, 44] 50 rfl (by decide +kernel) rfl).symm (ci := 1) (q := (RX1, TX1, 4)) rfl rfl rfl rfl hl.1 rfl (Nat.le_of_ble_eq_true rfl) dX6_judged_70 ⟨Nat.zero_le _, Nat.zero_le _⟩ (fun H locs hP hD hS => ?_)
      obtain ⟨q12, hq12, hf⟩ := ob_some hf
      refine xcVi (w' := ((w_X ad cI cC cS now hist snap has text q5 meas walk) ++ R)) S hK hN hA hP hD hS (c_X1_reached l D cI cC cS ((xr 50 [41, 42, 43, 44]).filterMap (fun i => (w_X ad cI cC cS now hist snap has text q5 meas walk)[i]?) ++ R) (ad 5) q5 q10 q11 n _ hq12) gX6_judged_X1_reached rfl hd_X1_reached ⟨by decide, by decide⟩ (x_cut (pre := (w_X ad cI cC cS now hist snap has text q5 meas walk)) [41, 42, 43, 44] 50 rfl (by decide +kernel) rfl) (x_cut (pre := (w_X ad cI cC cS now hist snap has text q5 meas walk)) [41, 42, 43, 44] 50 rfl (by decide +kernel) rfl).symm (ci := 1) (q := (RX1, TX1, 4)) rfl rfl rfl rfl hl.1 rfl (Nat.le_of_ble_eq_true rfl) dX6_judged_73 ⟨Nat.zero_le _, Nat.zero_le _⟩ (fun H locs hP hD hS => ?_)
      refine lv_ior hx hb dX6_judged_76 ?_
      refine lv_istore (lv' := [(4, .int (q9 ||| q12)), (3, .int (q6 ||| (q7 &&& q8))), (0, .ref (ad 0 0)), (1, .int p1), (2, .int p2)]) hx hb dX6_judged_77 hl (by decide) rfl (fun ls hl => ?_)
      refine lv_iload hx hb dX6_judged_79 (lv_at hl 0 rfl) ?_
      refine lv_iload_n hx hb dX6_judged_81 rfl (lv_at hl 1 rfl) ?_
      refine lv_iand hx hb dX6_judged_82 ?_
      refine lv_if_ne (tgt := 90) hx hb dX6_judged_83 (by decide) (fun c13 => ?_) (fun c13 => ?_)
      · have hf := if_f hf c13
        refine lv_iconst (v := 0) hx hb dX6_judged_90 (by decide) ?_
        have hf := Option.some.inj hf
        subst hf
        exact hret _ _ _ _ _ dX6_judged_91 rfl hP hD hS rfl
      · have hf := if_t hf c13
        refine lv_iconst (v := 1) hx hb dX6_judged_86 (by decide) ?_
        refine lv_goto (tgt := 91) hx hb dX6_judged_87 (by decide) ?_
        have hf := Option.some.inj hf
        subst hf
        exact hret _ _ _ _ _ dX6_judged_91 rfl hP hD hS rfl
    · have hf := if_t hf c4
      refine lv_iconst (v := (-1)) hx hb dX6_judged_21 (by decide) ?_
      have hf := Option.some.inj hf
      subst hf
      exact hret _ _ _ _ _ dX6_judged_22 rfl hP hD hS rfl
def f_X6_badRings (n : Nat) (now : SS) (trial : GG) (p1 : Int32) (p2 : Int32) : Option (Int32 × GG) := (f_X6_isPlayer p1).bind fun q1 => (if q1 = 0 then some ((-1), trial) else (f_X6_judgeFor n now trial p1).bind fun q3 => (if p2 = 0 then (f_X1_badRingPlaces n q3 p1).bind fun q5 => some (q5, q3) else (if p2 = 1 then (f_X1_leastBadColour n q3 p1).bind fun q6 => some (q6, q3) else (if p2 = 2 then (f_X1_shortestBadRing n q3 p1).bind fun q7 => some (q7, q3) else some ((-2), q3)))))
theorem inw_X6_badRings_6 : ∀ w ∈ wsX60, w ∈ wsX6_badRings := fun _ h => List.mem_cons_of_mem _ (List.mem_append_left _ (List.mem_append_left _ (List.mem_append_right _ h)))
theorem hd_X6_badRings : yX6_badRings.cls = RX6 ∧ yX6_badRings.cls ≠ "java/lang/invoke/MethodHandle" ∧ yX6_badRings.cls ≠ "java/lang/invoke/VarHandle" ∧ (parseMethodDescriptor yX6_badRings.desc).map (fun d => d.parameters.length) = some 2 := by decide +kernel
set_option maxHeartbeats 4000000 in
set_option maxRecDepth 100000 in
theorem c_X6_badRings (l : Launch) (D : va_G) (cI cC cS : ClassId) (R : va_W) (ad : Nat → Nat → Nat) (now : SS) (hist : HH) (snap : SS) (has : Int32) (text : TT) (trial : GG) (meas : EE) (walk : KK) (p1 : Int32) (p2 : Int32) (n : Nat) (r : Int32 × GG) (hf : f_X6_badRings n now trial p1 p2 = some r) : CI l yX6_badRings wsX6_badRings 5 115 D cI cC cS [.ref (ad 0 0), .int p1, .int p2] ((w_X ad cI cC cS now hist snap has text trial meas walk) ++ R) r.1 ((w_X ad cI cC cS now hist snap has text r.2 meas walk) ++ R) := by
  refine XI.of (cc := cX6_badRings) (maxL := 3) (ty := .int) (own := RX6) (by decide) rfl rfl (Nat.le_of_ble_eq_true rfl) ?_
  intro p e s m args below meth c A Q S hK hN hA hP hD hS ls hl hret
  obtain ⟨hx, hb, hml, hown, hts⟩ := id S
  have hl : lv_has ls 3 [(0, .ref (ad 0 0)), (1, .int p1), (2, .int p2)] := hl
  unfold f_X6_badRings at hf
  refine lv_iload_n hx hb dX6_badRings_0 rfl (lv_at hl 1 rfl) ?_
  obtain ⟨q1, hq1, hf⟩ := ob_some hf
  refine xcSi S hK hN hA hP hD hS (c_X6_isPlayer l D cI cC cS ((w_X ad cI cC cS now hist snap has text trial meas walk) ++ R) p1 _ hq1) gX6_badRings_X6_isPlayer rfl hd_X6_isPlayer ⟨by decide, by decide⟩ rfl hl.1 rfl (Nat.le_of_ble_eq_true rfl) dX6_badRings_1 ⟨Nat.zero_le _, Nat.zero_le _⟩ (fun H locs hP hD hS => ?_)
  refine lv_if_ne (tgt := 9) hx hb dX6_badRings_4 (by decide) (fun c2 => ?_) (fun c2 => ?_)
  · have hf := if_f hf c2
    refine lv_aload_n hx hb dX6_badRings_9 rfl (lv_at hl 0 rfl) ?_
    refine lv_iload_n hx hb dX6_badRings_10 rfl (lv_at hl 1 rfl) ?_
    obtain ⟨q3, hq3, hf⟩ := ob_some hf
    refine xcVv (w' := ((w_X ad cI cC cS now hist snap has text q3 meas walk) ++ R)) S hK hN hA hP hD hS (c_X6_judgeFor l D cI cC cS R ad now hist snap has text trial meas walk p1 n _ hq3) gX6_badRings_X6_judgeFor rfl hd_X6_judgeFor ⟨by decide, by decide⟩ (List.Perm.refl _) (List.Perm.refl _) (ci := 6) (q := (RX6, TX6, 8)) rfl rfl rfl rfl hl.1 rfl (Nat.le_of_ble_eq_true rfl) dX6_badRings_11 ⟨Nat.zero_le _, Nat.zero_le _⟩ (fun H locs hP hD hS => ?_)
    refine lv_iload_n hx hb dX6_badRings_14 rfl (lv_at hl 2 rfl) ?_
    by_cases c4_0 : p2 = 0
    · have hf := if_t hf c4_0
      refine lv_tableIn (tgt := 40) hx hb dX6_badRings_15 (by rw [c4_0]; decide) (by rw [c4_0]; decide) (by rw [c4_0]; rfl) (by decide) ?_
      refine lv_aload_n hx hb dX6_badRings_40 rfl (lv_at hl 0 rfl) ?_
      refine va_get (D := D) (ci := 6) (v := .ref ((ad 5) 0)) (C := RX6) (T := TX6) (N := 8) hx hb hts inw_X6_badRings_6 hown hK hP 0 rfl rfl 5 (by decide) (hts (.fieldLink RX6 40 "RingGames" "trial" "LRingGames$Game;") (List.mem_of_getElem? (i := 1) rfl)) (fun _ h9 => h9) rfl dX6_badRings_41 ?_
      refine lv_iload_n hx hb dX6_badRings_44 rfl (lv_at hl 1 rfl) ?_
      obtain ⟨q5, hq5, hf⟩ := ob_some hf
      refine xcVi (w' := ((w_X ad cI cC cS now hist snap has text q3 meas walk) ++ R)) S hK hN hA hP hD hS (c_X1_badRingPlaces l D cI cC cS ((xr 50 [41, 42, 43, 44]).filterMap (fun i => (w_X ad cI cC cS now hist snap has text q3 meas walk)[i]?) ++ R) (ad 5) q3 p1 n _ hq5) gX6_badRings_X1_badRingPlaces rfl hd_X1_badRingPlaces ⟨by decide, by decide⟩ (x_cut (pre := (w_X ad cI cC cS now hist snap has text q3 meas walk)) [41, 42, 43, 44] 50 rfl (by decide +kernel) rfl) (x_cut (pre := (w_X ad cI cC cS now hist snap has text q3 meas walk)) [41, 42, 43, 44] 50 rfl (by decide +kernel) rfl).symm (ci := 1) (q := (RX1, TX1, 4)) rfl rfl rfl rfl hl.1 rfl (Nat.le_of_ble_eq_true rfl) dX6_badRings_45 ⟨Nat.zero_le _, Nat.zero_le _⟩ (fun H locs hP hD hS => ?_)
      have hf := Option.some.inj hf
      subst hf
      exact hret _ _ _ _ _ dX6_badRings_48 rfl hP hD hS rfl
    have hf := if_f hf c4_0
    by_cases c4_1 : p2 = 1
    · have hf := if_t hf c4_1
      refine lv_tableIn (tgt := 49) hx hb dX6_badRings_15 (by rw [c4_1]; decide) (by rw [c4_1]; decide) (by rw [c4_1]; rfl) (by decide) ?_
      refine lv_aload_n hx hb dX6_badRings_49 rfl (lv_at hl 0 rfl) ?_
      refine va_get (D := D) (ci := 6) (v := .ref ((ad 5) 0)) (C := RX6) (T := TX6) (N := 8) hx hb hts inw_X6_badRings_6 hown hK hP 0 rfl rfl 5 (by decide) (hts (.fieldLink RX6 40 "RingGames" "trial" "LRingGames$Game;") (List.mem_of_getElem? (i := 1) rfl)) (fun _ h9 => h9) rfl dX6_badRings_50 ?_
      refine lv_iload_n hx hb dX6_badRings_53 rfl (lv_at hl 1 rfl) ?_
      obtain ⟨q6, hq6, hf⟩ := ob_some hf
      refine xcVi (w' := ((w_X ad cI cC cS now hist snap has text q3 meas walk) ++ R)) S hK hN hA hP hD hS (c_X1_leastBadColour l D cI cC cS ((xr 50 [41, 42, 43, 44]).filterMap (fun i => (w_X ad cI cC cS now hist snap has text q3 meas walk)[i]?) ++ R) (ad 5) q3 p1 n _ hq6) gX6_badRings_X1_leastBadColour rfl hd_X1_leastBadColour ⟨by decide, by decide⟩ (x_cut (pre := (w_X ad cI cC cS now hist snap has text q3 meas walk)) [41, 42, 43, 44] 50 rfl (by decide +kernel) rfl) (x_cut (pre := (w_X ad cI cC cS now hist snap has text q3 meas walk)) [41, 42, 43, 44] 50 rfl (by decide +kernel) rfl).symm (ci := 1) (q := (RX1, TX1, 4)) rfl rfl rfl rfl hl.1 rfl (Nat.le_of_ble_eq_true rfl) dX6_badRings_54 ⟨Nat.zero_le _, Nat.zero_le _⟩ (fun H locs hP hD hS => ?_)
      have hf := Option.some.inj hf
      subst hf
      exact hret _ _ _ _ _ dX6_badRings_57 rfl hP hD hS rfl
    have hf := if_f hf c4_1
    by_cases c4_2 : p2 = 2
    · have hf := if_t hf c4_2
      refine lv_tableIn (tgt := 58) hx hb dX6_badRings_15 (by rw [c4_2]; decide) (by rw [c4_2]; decide) (by rw [c4_2]; rfl) (by decide) ?_
      refine lv_aload_n hx hb dX6_badRings_58 rfl (lv_at hl 0 rfl) ?_
      refine va_get (D := D) (ci := 6) (v := .ref ((ad 5) 0)) (C := RX6) (T := TX6) (N := 8) hx hb hts inw_X6_badRings_6 hown hK hP 0 rfl rfl 5 (by decide) (hts (.fieldLink RX6 40 "RingGames" "trial" "LRingGames$Game;") (List.mem_of_getElem? (i := 1) rfl)) (fun _ h9 => h9) rfl dX6_badRings_59 ?_
      refine lv_iload_n hx hb dX6_badRings_62 rfl (lv_at hl 1 rfl) ?_
      obtain ⟨q7, hq7, hf⟩ := ob_some hf
      refine xcVi (w' := ((w_X ad cI cC cS now hist snap has text q3 meas walk) ++ R)) S hK hN hA hP hD hS (c_X1_shortestBadRing l D cI cC cS ((xr 50 [41, 42, 43, 44]).filterMap (fun i => (w_X ad cI cC cS now hist snap has text q3 meas walk)[i]?) ++ R) (ad 5) q3 p1 n _ hq7) gX6_badRings_X1_shortestBadRing rfl hd_X1_shortestBadRing ⟨by decide, by decide⟩ (x_cut (pre := (w_X ad cI cC cS now hist snap has text q3 meas walk)) [41, 42, 43, 44] 50 rfl (by decide +kernel) rfl) (x_cut (pre := (w_X ad cI cC cS now hist snap has text q3 meas walk)) [41, 42, 43, 44] 50 rfl (by decide +kernel) rfl).symm (ci := 1) (q := (RX1, TX1, 4)) rfl rfl rfl rfl hl.1 rfl (Nat.le_of_ble_eq_true rfl) dX6_badRings_63 ⟨Nat.zero_le _, Nat.zero_le _⟩ (fun H locs hP hD hS => ?_)
      have hf := Option.some.inj hf
      subst hf
      exact hret _ _ _ _ _ dX6_badRings_66 rfl hP hD hS rfl
    have hf := if_f hf c4_2
    have ec4_0 : (p2).toInt ≠ 0 := x_ne (k := 0) c4_0
    have ec4_1 : (p2).toInt ≠ 1 := x_ne (k := 1) c4_1
    have ec4_2 : (p2).toInt ≠ 2 := x_ne (k := 2) c4_2
    refine lv_tableOut (tgt := 67) hx hb dX6_badRings_15 (by omega) (by decide) ?_
    refine lv_bipush (v := (-2)) hx hb dX6_badRings_67 (by decide) ?_
    have hf := Option.some.inj hf
    subst hf
    exact hret _ _ _ _ _ dX6_badRings_69 rfl hP hD hS rfl
  · have hf := if_t hf c2
    refine lv_iconst (v := (-1)) hx hb dX6_badRings_7 (by decide) ?_
    have hf := Option.some.inj hf
    subst hf
    exact hret _ _ _ _ _ dX6_badRings_8 rfl hP hD hS rfl
def f_X6_pivots_L41 (n : Nat) (d_now : SS) (d_l1 : Int32) (d_l2 : Int32) : Nat → Int32 → Int32 → GG → EE → Option (Int32 × GG × EE)
  | 0, _, _, _, _ => none
  | k + 1, d_l3, d_l4, d_trial, d_meas => (if d_now.1.1 ≤ d_l4 then some (d_l3, d_trial, d_meas) else vg d_l4 14 ((f_X3_find n d_meas (d_trial.1, (upd d_trial.2.1 (d_l4).toNatClampNeg (1 - (d_now.1.2.1 (d_l4).toNatClampNeg))), d_trial.2.2.1, d_trial.2.2.2)).bind fun q7 => (f_X3_winner q7 d_l1).bind fun q8 => (if q8 = d_l2 then f_X6_pivots_L41 n d_now d_l1 d_l2 k d_l3 (d_l4 + 1) (d_trial.1, (upd (upd d_trial.2.1 (d_l4).toNatClampNeg (1 - (d_now.1.2.1 (d_l4).toNatClampNeg))) (d_l4).toNatClampNeg (d_now.1.2.1 (d_l4).toNatClampNeg)), d_trial.2.2.1, d_trial.2.2.2) q7 else (f_X6_bit d_l4).bind fun q10 => f_X6_pivots_L41 n d_now d_l1 d_l2 k (d_l3 ||| q10) (d_l4 + 1) (d_trial.1, (upd (upd d_trial.2.1 (d_l4).toNatClampNeg (1 - (d_now.1.2.1 (d_l4).toNatClampNeg))) (d_l4).toNatClampNeg (d_now.1.2.1 (d_l4).toNatClampNeg)), d_trial.2.2.1, d_trial.2.2.2) q7)))
def f_X6_pivots (n : Nat) (now : SS) (trial : GG) (meas : EE) (p1 : Int32) : Option (Int32 × GG × EE) := (f_X1_has now.1 p1).bind fun q1 => (if q1 = 0 then some ((-1), trial, meas) else (f_X6_winnerOf n now trial meas p1).bind fun q3 => (f_X1_become q3.2.1 now.1).bind fun q4 => (f_X6_pivots_L41 n now p1 q3.1 n 0 0 q4 q3.2.2).bind fun q6 => some (q6.1, q6.2.1, q6.2.2))
theorem inw_X6_pivots_1 : ∀ w ∈ wsX10, w ∈ wsX6_pivots := fun _ h => List.mem_cons_of_mem _ (List.mem_append_left _ (List.mem_append_right _ h))
theorem inw_X6_pivots_4 : ∀ w ∈ wsX40, w ∈ wsX6_pivots := fun _ h => List.mem_cons_of_mem _ (List.mem_append_left _ (List.mem_append_left _ (List.mem_append_right _ h)))
theorem inw_X6_pivots_6 : ∀ w ∈ wsX60, w ∈ wsX6_pivots := fun _ h => List.mem_cons_of_mem _ (List.mem_append_left _ (List.mem_append_left _ (List.mem_append_left _ (List.mem_append_right _ h))))
theorem hd_X6_pivots : yX6_pivots.cls = RX6 ∧ yX6_pivots.cls ≠ "java/lang/invoke/MethodHandle" ∧ yX6_pivots.cls ≠ "java/lang/invoke/VarHandle" ∧ (parseMethodDescriptor yX6_pivots.desc).map (fun d => d.parameters.length) = some 1 := by decide +kernel
set_option maxHeartbeats 4000000 in
set_option maxRecDepth 100000 in
theorem c_X6_pivots (l : Launch) (D : va_G) (cI cC cS : ClassId) (R : va_W) (ad : Nat → Nat → Nat) (now : SS) (hist : HH) (snap : SS) (has : Int32) (text : TT) (trial : GG) (meas : EE) (walk : KK) (p1 : Int32) (n : Nat) (r : Int32 × GG × EE) (hf : f_X6_pivots n now trial meas p1 = some r) : CI l yX6_pivots wsX6_pivots 6 154 D cI cC cS [.ref (ad 0 0), .int p1] ((w_X ad cI cC cS now hist snap has text trial meas walk) ++ R) r.1 ((w_X ad cI cC cS now hist snap has text r.2.1 r.2.2 walk) ++ R) := by
  refine XI.of (cc := cX6_pivots) (maxL := 5) (ty := .int) (own := RX6) (by decide) rfl rfl (Nat.le_of_ble_eq_true rfl) ?_
  intro p e s m args below meth c A Q S hK hN hA hP hD hS ls hl hret
  obtain ⟨hx, hb, hml, hown, hts⟩ := id S
  have hl : lv_has ls 5 [(0, .ref (ad 0 0)), (1, .int p1)] := hl
  unfold f_X6_pivots at hf
  refine lv_aload_n hx hb dX6_pivots_0 rfl (lv_at hl 0 rfl) ?_
  refine va_get (D := D) (ci := 6) (v := .ref ((ad 1) 0)) (C := RX6) (T := TX6) (N := 8) hx hb hts inw_X6_pivots_6 hown hK hP 0 rfl rfl 0 (by decide) (hts (.fieldLink RX6 12 "RingGames" "now" "LRingGames$State;") (List.mem_of_getElem? (i := 1) rfl)) (fun _ h9 => h9) rfl dX6_pivots_1 ?_
  refine va_get (D := D) (ci := 4) (v := .ref ((ad 1) 2)) (C := RX4) (T := TX4) (N := 4) hx hb hts inw_X6_pivots_4 hown hK hP 1 rfl rfl 0 (by decide) (hts (.fieldLink RX6 65 "RingGames$State" "game" "LRingGames$Game;") (List.mem_of_getElem? (i := 2) rfl)) (fun _ h9 => h9) rfl dX6_pivots_4 ?_
  refine lv_iload_n hx hb dX6_pivots_7 rfl (lv_at hl 1 rfl) ?_
  obtain ⟨q1, hq1, hf⟩ := ob_some hf
  refine xcVi (w' := ((w_X ad cI cC cS now hist snap has text trial meas walk) ++ R)) S hK hN hA hP hD hS (c_X1_has l D cI cC cS ((xr 50 [3, 4, 5, 6]).filterMap (fun i => (w_X ad cI cC cS now hist snap has text trial meas walk)[i]?) ++ R) (fun k => (ad 1) (k + 2)) now.1 p1 _ hq1) gX6_pivots_X1_has rfl hd_X1_has ⟨by decide, by decide⟩ (x_cut (pre := (w_X ad cI cC cS now hist snap has text trial meas walk)) [3, 4, 5, 6] 50 rfl (by decide +kernel) rfl) (x_cut (pre := (w_X ad cI cC cS now hist snap has text trial meas walk)) [3, 4, 5, 6] 50 rfl (by decide +kernel) rfl).symm (ci := 1) (q := (RX1, TX1, 4)) rfl rfl rfl rfl hl.1 rfl (Nat.le_of_ble_eq_true rfl) dX6_pivots_8 ⟨Nat.zero_le _, Nat.zero_le _⟩ (fun H locs hP hD hS => ?_)
  refine lv_if_ne (tgt := 16) hx hb dX6_pivots_11 (by decide) (fun c2 => ?_) (fun c2 => ?_)
  · have hf := if_f hf c2
    refine lv_aload_n hx hb dX6_pivots_16 rfl (lv_at hl 0 rfl) ?_
    refine lv_iload_n hx hb dX6_pivots_17 rfl (lv_at hl 1 rfl) ?_
    obtain ⟨q3, hq3, hf⟩ := ob_some hf
    refine xcVi (w' := ((w_X ad cI cC cS now hist snap has text q3.2.1 q3.2.2 walk) ++ R)) S hK hN hA hP hD hS (c_X6_winnerOf l D cI cC cS R ad now hist snap has text trial meas walk p1 n _ hq3) gX6_pivots_X6_winnerOf rfl hd_X6_winnerOf ⟨by decide, by decide⟩ (List.Perm.refl _) (List.Perm.refl _) (ci := 6) (q := (RX6, TX6, 8)) rfl rfl rfl rfl hl.1 rfl (Nat.le_of_ble_eq_true rfl) dX6_pivots_18 ⟨Nat.zero_le _, Nat.zero_le _⟩ (fun H locs hP hD hS => ?_)
    refine lv_istore_n (lv' := [(2, .int q3.1), (0, .ref (ad 0 0)), (1, .int p1)]) hx hb dX6_pivots_21 rfl hl (by decide) rfl (fun ls hl => ?_)
    refine lv_iconst (v := 0) hx hb dX6_pivots_22 (by decide) ?_
    refine lv_istore_n (lv' := [(3, .int 0), (2, .int q3.1), (0, .ref (ad 0 0)), (1, .int p1)]) hx hb dX6_pivots_23 rfl hl (by decide) rfl (fun ls hl => ?_)
    refine lv_aload_n hx hb dX6_pivots_24 rfl (lv_at hl 2 rfl) ?_
    refine va_get (D := D) (ci := 6) (v := .ref ((ad 5) 0)) (C := RX6) (T := TX6) (N := 8) hx hb hts inw_X6_pivots_6 hown hK hP 0 rfl rfl 5 (by decide) (hts (.fieldLink RX6 40 "RingGames" "trial" "LRingGames$Game;") (List.mem_of_getElem? (i := 3) rfl)) (fun _ h9 => h9) rfl dX6_pivots_25 ?_
    refine lv_aload_n hx hb dX6_pivots_28 rfl (lv_at hl 2 rfl) ?_
    refine va_get (D := D) (ci := 6) (v := .ref ((ad 1) 0)) (C := RX6) (T := TX6) (N := 8) hx hb hts inw_X6_pivots_6 hown hK hP 0 rfl rfl 0 (by decide) (hts (.fieldLink RX6 12 "RingGames" "now" "LRingGames$State;") (List.mem_of_getElem? (i := 1) rfl)) (fun _ h9 => h9) rfl dX6_pivots_29 ?_
    refine va_get (D := D) (ci := 4) (v := .ref ((ad 1) 2)) (C := RX4) (T := TX4) (N := 4) hx hb hts inw_X6_pivots_4 hown hK hP 1 rfl rfl 0 (by decide) (hts (.fieldLink RX6 65 "RingGames$State" "game" "LRingGames$Game;") (List.mem_of_getElem? (i := 2) rfl)) (fun _ h9 => h9) rfl dX6_pivots_32 ?_
    obtain ⟨q4, hq4, hf⟩ := ob_some hf
    refine xcVv (w' := ((w_X ad cI cC cS now hist snap has text q4 q3.2.2 walk) ++ R)) S hK hN hA hP hD hS (c_X1_become l D cI cC cS ((xr 50 [41, 42, 43, 44, 3, 4, 5, 6]).filterMap (fun i => (w_X ad cI cC cS now hist snap has text q3.2.1 q3.2.2 walk)[i]?) ++ R) (ad 5) (fun k => (ad 1) (k + 2)) q3.2.1 now.1 _ hq4) gX6_pivots_X1_become rfl hd_X1_become ⟨by decide, by decide⟩ (x_cut (pre := (w_X ad cI cC cS now hist snap has text q3.2.1 q3.2.2 walk)) [41, 42, 43, 44, 3, 4, 5, 6] 50 rfl (by decide +kernel) rfl) (x_back (pre := (w_X ad cI cC cS now hist snap has text q3.2.1 q3.2.2 walk)) [41, 42, 43, 44, 3, 4, 5, 6] 50 rfl (by decide +kernel) rfl rfl) (ci := 1) (q := (RX1, TX1, 4)) rfl rfl rfl rfl hl.1 rfl (Nat.le_of_ble_eq_true rfl) dX6_pivots_35 ⟨Nat.zero_le _, Nat.zero_le _⟩ (fun H locs hP hD hS => ?_)
    refine lv_iconst (v := 0) hx hb dX6_pivots_38 (by decide) ?_
    refine lv_istore (lv' := [(4, .int 0), (3, .int 0), (2, .int q3.1), (0, .ref (ad 0 0)), (1, .int p1)]) hx hb dX6_pivots_39 hl (by decide) rfl (fun ls hl => ?_)
    obtain ⟨q6, hq6, hf⟩ := ob_some hf
    have L5 : ∀ (k : Nat) (v_l3_L5 : Int32) (v_l4_L5 : Int32) (v_trial_L5 : GG) (v_meas_L5 : EE) (q_L5 : Int32 × GG × EE), f_X6_pivots_L41 n now p1 q3.1 k v_l3_L5 v_l4_L5 v_trial_L5 v_meas_L5 = some q_L5 → ∀ (H : Heap) (locs : List Loc), va_P D vwCl ((w_X ad cI cC cS now hist snap has text v_trial_L5 v_meas_L5 walk) ++ R) H → va_D A ((w_X ad cI cC cS now hist snap has text v_trial_L5 v_meas_L5 walk) ++ R) → va_S A s.heap H locs → ∀ ls : Array Slot, lv_has ls 5 [(0, .ref (ad 0 0)), (1, .int p1), (2, .int q3.1), (3, .int v_l3_L5), (4, .int v_l4_L5)] → (∀ (H : Heap) (locs : List Loc), va_P D vwCl ((w_X ad cI cC cS now hist snap has text q_L5.2.1 q_L5.2.2 walk) ++ R) H → va_D A ((w_X ad cI cC cS now hist snap has text q_L5.2.1 q_L5.2.2 walk) ++ R) → va_S A s.heap H locs → ∀ ls : Array Slot, lv_has ls 5 [(3, .int q_L5.1)] → W p l e (xR 6 154) s m args below meth c H locs 0 0 Q (F0 m 141 ls [])) → W p l e (xR 6 154) s m args below meth c H locs 0 0 Q (F0 m 41 ls []) := by
      intro k
      induction k with
      | zero => intro v_l3_L5 v_l4_L5 v_trial_L5 v_meas_L5 q_L5 hf; simp [f_X6_pivots_L41] at hf
      | succ k ih =>
        intro v_l3_L5 v_l4_L5 v_trial_L5 v_meas_L5 q_L5 hf H locs hP hD hS ls hl kx
        rw [f_X6_pivots_L41] at hf
        refine lv_iload hx hb dX6_pivots_41 (lv_at hl 4 rfl) ?_
        refine lv_aload_n hx hb dX6_pivots_43 rfl (lv_at hl 0 rfl) ?_
        refine va_get (D := D) (ci := 6) (v := .ref ((ad 1) 0)) (C := RX6) (T := TX6) (N := 8) hx hb hts inw_X6_pivots_6 hown hK hP 0 rfl rfl 0 (by decide) (hts (.fieldLink RX6 12 "RingGames" "now" "LRingGames$State;") (List.mem_of_getElem? (i := 1) rfl)) (fun _ h9 => h9) rfl dX6_pivots_44 ?_
        refine va_get (D := D) (ci := 4) (v := .ref ((ad 1) 2)) (C := RX4) (T := TX4) (N := 4) hx hb hts inw_X6_pivots_4 hown hK hP 1 rfl rfl 0 (by decide) (hts (.fieldLink RX6 65 "RingGames$State" "game" "LRingGames$Game;") (List.mem_of_getElem? (i := 2) rfl)) (fun _ h9 => h9) rfl dX6_pivots_47 ?_
        refine va_get (D := D) (ci := 1) (v := .int now.1.1) (C := RX1) (T := TX1) (N := 4) hx hb hts inw_X6_pivots_1 hown hK hP 3 rfl rfl 0 (by decide) (hts (.fieldLink RX6 68 "RingGames$Game" "size" "I") (List.mem_of_getElem? (i := 4) rfl)) (fun _ h9 => h9) rfl dX6_pivots_50 ?_
        refine lv_icmp_ge (tgt := 141) hx hb dX6_pivots_53 (by decide) (fun c7 => ?_) (fun c7 => ?_)
        · have hf := if_t hf c7
          have hf := Option.some.inj hf
          subst hf
          exact kx _ _ hP hD hS _ (lv_sub hl [3] rfl)
        · have hf := if_f hf c7
          refine lv_aload_n hx hb dX6_pivots_56 rfl (lv_at hl 0 rfl) ?_
          refine va_get (D := D) (ci := 6) (v := .ref ((ad 5) 0)) (C := RX6) (T := TX6) (N := 8) hx hb hts inw_X6_pivots_6 hown hK hP 0 rfl rfl 5 (by decide) (hts (.fieldLink RX6 40 "RingGames" "trial" "LRingGames$Game;") (List.mem_of_getElem? (i := 3) rfl)) (fun _ h9 => h9) rfl dX6_pivots_57 ?_
          refine va_get (D := D) (ci := 1) (v := .ref ((ad 5) 1)) (C := RX1) (T := TX1) (N := 4) hx hb hts inw_X6_pivots_1 hown hK hP 41 rfl rfl 1 (by decide) (hts (.fieldLink RX6 83 "RingGames$Game" "owners" "[I") (List.mem_of_getElem? (i := 5) rfl)) (fun _ h9 => h9) rfl dX6_pivots_60 ?_
          refine lv_iload hx hb dX6_pivots_63 (lv_at hl 4 rfl) ?_
          refine lv_iconst (v := 1) hx hb dX6_pivots_65 (by decide) ?_
          refine lv_aload_n hx hb dX6_pivots_66 rfl (lv_at hl 0 rfl) ?_
          refine va_get (D := D) (ci := 6) (v := .ref ((ad 1) 0)) (C := RX6) (T := TX6) (N := 8) hx hb hts inw_X6_pivots_6 hown hK hP 0 rfl rfl 0 (by decide) (hts (.fieldLink RX6 12 "RingGames" "now" "LRingGames$State;") (List.mem_of_getElem? (i := 1) rfl)) (fun _ h9 => h9) rfl dX6_pivots_67 ?_
          refine va_get (D := D) (ci := 4) (v := .ref ((ad 1) 2)) (C := RX4) (T := TX4) (N := 4) hx hb hts inw_X6_pivots_4 hown hK hP 1 rfl rfl 0 (by decide) (hts (.fieldLink RX6 65 "RingGames$State" "game" "LRingGames$Game;") (List.mem_of_getElem? (i := 2) rfl)) (fun _ h9 => h9) rfl dX6_pivots_70 ?_
          refine va_get (D := D) (ci := 1) (v := .ref ((ad 1) 3)) (C := RX1) (T := TX1) (N := 4) hx hb hts inw_X6_pivots_1 hown hK hP 3 rfl rfl 1 (by decide) (hts (.fieldLink RX6 83 "RingGames$Game" "owners" "[I") (List.mem_of_getElem? (i := 5) rfl)) (fun _ h9 => h9) rfl dX6_pivots_73 ?_
          refine lv_iload hx hb dX6_pivots_76 (lv_at hl 4 rfl) ?_
          obtain ⟨g8, hf⟩ := vg_some hf
          refine va_iald hx hb hK hP 4 0 rfl rfl g8 dX6_pivots_78 ?_
          refine lv_isub hx hb dX6_pivots_79 ?_
          refine va_iast hx hb hK hP hD hS 42 0 rfl rfl g8 dX6_pivots_80 (fun H locs hP hD hS => ?_)
          have hP : va_P D vwCl ((w_X ad cI cC cS now hist snap has text (v_trial_L5.1, (upd v_trial_L5.2.1 (v_l4_L5).toNatClampNeg (1 - (now.1.2.1 (v_l4_L5).toNatClampNeg))), v_trial_L5.2.2.1, v_trial_L5.2.2.2) v_meas_L5 walk) ++ R) H := hP
          have hD : va_D A ((w_X ad cI cC cS now hist snap has text (v_trial_L5.1, (upd v_trial_L5.2.1 (v_l4_L5).toNatClampNeg (1 - (now.1.2.1 (v_l4_L5).toNatClampNeg))), v_trial_L5.2.2.1, v_trial_L5.2.2.2) v_meas_L5 walk) ++ R) := hD
          refine lv_aload_n hx hb dX6_pivots_81 rfl (lv_at hl 0 rfl) ?_
          refine va_get (D := D) (ci := 6) (v := .ref ((ad 6) 0)) (C := RX6) (T := TX6) (N := 8) hx hb hts inw_X6_pivots_6 hown hK hP 0 rfl rfl 6 (by decide) (hts (.fieldLink RX6 47 "RingGames" "measures" "LRingGames$Measures;") (List.mem_of_getElem? (i := 6) rfl)) (fun _ h9 => h9) rfl dX6_pivots_82 ?_
          refine lv_aload_n hx hb dX6_pivots_85 rfl (lv_at hl 0 rfl) ?_
          refine va_get (D := D) (ci := 6) (v := .ref ((ad 5) 0)) (C := RX6) (T := TX6) (N := 8) hx hb hts inw_X6_pivots_6 hown hK hP 0 rfl rfl 5 (by decide) (hts (.fieldLink RX6 40 "RingGames" "trial" "LRingGames$Game;") (List.mem_of_getElem? (i := 3) rfl)) (fun _ h9 => h9) rfl dX6_pivots_86 ?_
          obtain ⟨q9, hq9, hf⟩ := ob_some hf
          refine xcVv (w' := ((w_X ad cI cC cS now hist snap has text (v_trial_L5.1, (upd v_trial_L5.2.1 (v_l4_L5).toNatClampNeg (1 - (now.1.2.1 (v_l4_L5).toNatClampNeg))), v_trial_L5.2.2.1, v_trial_L5.2.2.2) q9 walk) ++ R)) S hK hN hA hP hD hS (c_X3_find l D cI cC cS ((xr 50 [45, 46, 47, 41, 42, 43, 44]).filterMap (fun i => (w_X ad cI cC cS now hist snap has text (v_trial_L5.1, (upd v_trial_L5.2.1 (v_l4_L5).toNatClampNeg (1 - (now.1.2.1 (v_l4_L5).toNatClampNeg))), v_trial_L5.2.2.1, v_trial_L5.2.2.2) v_meas_L5 walk)[i]?) ++ R) (ad 6) (ad 5) v_meas_L5 (v_trial_L5.1, (upd v_trial_L5.2.1 (v_l4_L5).toNatClampNeg (1 - (now.1.2.1 (v_l4_L5).toNatClampNeg))), v_trial_L5.2.2.1, v_trial_L5.2.2.2) n _ hq9) gX6_pivots_X3_find rfl hd_X3_find ⟨by decide, by decide⟩ (x_cut (pre := (w_X ad cI cC cS now hist snap has text (v_trial_L5.1, (upd v_trial_L5.2.1 (v_l4_L5).toNatClampNeg (1 - (now.1.2.1 (v_l4_L5).toNatClampNeg))), v_trial_L5.2.2.1, v_trial_L5.2.2.2) v_meas_L5 walk)) [45, 46, 47, 41, 42, 43, 44] 50 rfl (by decide +kernel) rfl) (x_back (pre := (w_X ad cI cC cS now hist snap has text (v_trial_L5.1, (upd v_trial_L5.2.1 (v_l4_L5).toNatClampNeg (1 - (now.1.2.1 (v_l4_L5).toNatClampNeg))), v_trial_L5.2.2.1, v_trial_L5.2.2.2) v_meas_L5 walk)) [45, 46, 47, 41, 42, 43, 44] 50 rfl (by decide +kernel) rfl rfl) (ci := 3) (q := (RX3, TX3, 3)) rfl rfl rfl rfl hl.1 rfl (Nat.le_of_ble_eq_true rfl) dX6_pivots_89 ⟨Nat.zero_le _, Nat.zero_le _⟩ (fun H locs hP hD hS => ?_)
          refine lv_aload_n hx hb dX6_pivots_92 rfl (lv_at hl 0 rfl) ?_
          refine va_get (D := D) (ci := 6) (v := .ref ((ad 6) 0)) (C := RX6) (T := TX6) (N := 8) hx hb hts inw_X6_pivots_6 hown hK hP 0 rfl rfl 6 (by decide) (hts (.fieldLink RX6 47 "RingGames" "measures" "LRingGames$Measures;") (List.mem_of_getElem? (i := 6) rfl)) (fun _ h9 => h9) rfl dX6_pivots_93 ?_
          refine lv_iload_n hx hb dX6_pivots_96 rfl (lv_at hl 1 rfl) ?_
          obtain ⟨q10, hq10, hf⟩ := ob_some hf
          refine xcVi (w' := ((w_X ad cI cC cS now hist snap has text (v_trial_L5.1, (upd v_trial_L5.2.1 (v_l4_L5).toNatClampNeg (1 - (now.1.2.1 (v_l4_L5).toNatClampNeg))), v_trial_L5.2.2.1, v_trial_L5.2.2.2) q9 walk) ++ R)) S hK hN hA hP hD hS (c_X3_winner l D cI cC cS ((xr 50 [45, 46, 47]).filterMap (fun i => (w_X ad cI cC cS now hist snap has text (v_trial_L5.1, (upd v_trial_L5.2.1 (v_l4_L5).toNatClampNeg (1 - (now.1.2.1 (v_l4_L5).toNatClampNeg))), v_trial_L5.2.2.1, v_trial_L5.2.2.2) q9 walk)[i]?) ++ R) (ad 6) q9 p1 _ hq10) gX6_pivots_X3_winner rfl hd_X3_winner ⟨by decide, by decide⟩ (x_cut (pre := (w_X ad cI cC cS now hist snap has text (v_trial_L5.1, (upd v_trial_L5.2.1 (v_l4_L5).toNatClampNeg (1 - (now.1.2.1 (v_l4_L5).toNatClampNeg))), v_trial_L5.2.2.1, v_trial_L5.2.2.2) q9 walk)) [45, 46, 47] 50 rfl (by decide +kernel) rfl) (x_cut (pre := (w_X ad cI cC cS now hist snap has text (v_trial_L5.1, (upd v_trial_L5.2.1 (v_l4_L5).toNatClampNeg (1 - (now.1.2.1 (v_l4_L5).toNatClampNeg))), v_trial_L5.2.2.1, v_trial_L5.2.2.2) q9 walk)) [45, 46, 47] 50 rfl (by decide +kernel) rfl).symm (ci := 3) (q := (RX3, TX3, 3)) rfl rfl rfl rfl hl.1 rfl (Nat.le_of_ble_eq_true rfl) dX6_pivots_97 ⟨Nat.zero_le _, Nat.zero_le _⟩ (fun H locs hP hD hS => ?_)
          refine lv_iload_n hx hb dX6_pivots_100 rfl (lv_at hl 2 rfl) ?_
          refine lv_icmp_eq (tgt := 112) hx hb dX6_pivots_101 (by decide) (fun c11 => ?_) (fun c11 => ?_)
          · have hf := if_t hf c11
            refine lv_aload_n hx hb dX6_pivots_112 rfl (lv_at hl 0 rfl) ?_
            refine va_get (D := D) (ci := 6) (v := .ref ((ad 5) 0)) (C := RX6) (T := TX6) (N := 8) hx hb hts inw_X6_pivots_6 hown hK hP 0 rfl rfl 5 (by decide) (hts (.fieldLink RX6 40 "RingGames" "trial" "LRingGames$Game;") (List.mem_of_getElem? (i := 3) rfl)) (fun _ h9 => h9) rfl dX6_pivots_113 ?_
            refine va_get (D := D) (ci := 1) (v := .ref ((ad 5) 1)) (C := RX1) (T := TX1) (N := 4) hx hb hts inw_X6_pivots_1 hown hK hP 41 rfl rfl 1 (by decide) (hts (.fieldLink RX6 83 "RingGames$Game" "owners" "[I") (List.mem_of_getElem? (i := 5) rfl)) (fun _ h9 => h9) rfl dX6_pivots_116 ?_
            refine lv_iload hx hb dX6_pivots_119 (lv_at hl 4 rfl) ?_
            refine lv_aload_n hx hb dX6_pivots_121 rfl (lv_at hl 0 rfl) ?_
            refine va_get (D := D) (ci := 6) (v := .ref ((ad 1) 0)) (C := RX6) (T := TX6) (N := 8) hx hb hts inw_X6_pivots_6 hown hK hP 0 rfl rfl 0 (by decide) (hts (.fieldLink RX6 12 "RingGames" "now" "LRingGames$State;") (List.mem_of_getElem? (i := 1) rfl)) (fun _ h9 => h9) rfl dX6_pivots_122 ?_
            refine va_get (D := D) (ci := 4) (v := .ref ((ad 1) 2)) (C := RX4) (T := TX4) (N := 4) hx hb hts inw_X6_pivots_4 hown hK hP 1 rfl rfl 0 (by decide) (hts (.fieldLink RX6 65 "RingGames$State" "game" "LRingGames$Game;") (List.mem_of_getElem? (i := 2) rfl)) (fun _ h9 => h9) rfl dX6_pivots_125 ?_
            refine va_get (D := D) (ci := 1) (v := .ref ((ad 1) 3)) (C := RX1) (T := TX1) (N := 4) hx hb hts inw_X6_pivots_1 hown hK hP 3 rfl rfl 1 (by decide) (hts (.fieldLink RX6 83 "RingGames$Game" "owners" "[I") (List.mem_of_getElem? (i := 5) rfl)) (fun _ h9 => h9) rfl dX6_pivots_128 ?_
            refine lv_iload hx hb dX6_pivots_131 (lv_at hl 4 rfl) ?_
            refine va_iald hx hb hK hP 4 0 rfl rfl g8 dX6_pivots_133 ?_
            refine va_iast hx hb hK hP hD hS 42 0 rfl rfl g8 dX6_pivots_134 (fun H locs hP hD hS => ?_)
            have hP : va_P D vwCl ((w_X ad cI cC cS now hist snap has text (v_trial_L5.1, (upd (upd v_trial_L5.2.1 (v_l4_L5).toNatClampNeg (1 - (now.1.2.1 (v_l4_L5).toNatClampNeg))) (v_l4_L5).toNatClampNeg (now.1.2.1 (v_l4_L5).toNatClampNeg)), v_trial_L5.2.2.1, v_trial_L5.2.2.2) q9 walk) ++ R) H := hP
            have hD : va_D A ((w_X ad cI cC cS now hist snap has text (v_trial_L5.1, (upd (upd v_trial_L5.2.1 (v_l4_L5).toNatClampNeg (1 - (now.1.2.1 (v_l4_L5).toNatClampNeg))) (v_l4_L5).toNatClampNeg (now.1.2.1 (v_l4_L5).toNatClampNeg)), v_trial_L5.2.2.1, v_trial_L5.2.2.2) q9 walk) ++ R) := hD
            refine lv_iinc (v := (v_l4_L5 + 1)) (lv' := [(4, .int (v_l4_L5 + 1)), (0, .ref (ad 0 0)), (1, .int p1), (2, .int q3.1), (3, .int v_l3_L5)]) hx hb dX6_pivots_135 hl (k := 4) rfl (congrArg (fun z => v_l4_L5 + z) (by decide)) (by decide) rfl (fun ls hl => ?_)
            refine lv_goto (tgt := 41) hx hb dX6_pivots_138 (by decide) ?_
            exact ih v_l3_L5 (v_l4_L5 + 1) (v_trial_L5.1, (upd (upd v_trial_L5.2.1 (v_l4_L5).toNatClampNeg (1 - (now.1.2.1 (v_l4_L5).toNatClampNeg))) (v_l4_L5).toNatClampNeg (now.1.2.1 (v_l4_L5).toNatClampNeg)), v_trial_L5.2.2.1, v_trial_L5.2.2.2) q9 _ hf _ _ hP hD hS _ (lv_sub hl [1, 2, 3, 4, 0] rfl) kx
          · have hf := if_f hf c11
            refine lv_iload_n hx hb dX6_pivots_104 rfl (lv_at hl 3 rfl) ?_
            refine lv_iload hx hb dX6_pivots_105 (lv_at hl 4 rfl) ?_
            obtain ⟨q12, hq12, hf⟩ := ob_some hf
            refine xcSi S hK hN hA hP hD hS (c_X6_bit l D cI cC cS ((w_X ad cI cC cS now hist snap has text (v_trial_L5.1, (upd v_trial_L5.2.1 (v_l4_L5).toNatClampNeg (1 - (now.1.2.1 (v_l4_L5).toNatClampNeg))), v_trial_L5.2.2.1, v_trial_L5.2.2.2) q9 walk) ++ R) v_l4_L5 _ hq12) gX6_pivots_X6_bit rfl hd_X6_bit ⟨by decide, by decide⟩ rfl hl.1 rfl (Nat.le_of_ble_eq_true rfl) dX6_pivots_107 ⟨Nat.zero_le _, Nat.zero_le _⟩ (fun H locs hP hD hS => ?_)
            refine lv_ior hx hb dX6_pivots_110 ?_
            refine lv_istore_n (lv' := [(3, .int (v_l3_L5 ||| q12)), (0, .ref (ad 0 0)), (1, .int p1), (2, .int q3.1), (4, .int v_l4_L5)]) hx hb dX6_pivots_111 rfl hl (by decide) rfl (fun ls hl => ?_)
            refine lv_aload_n hx hb dX6_pivots_112 rfl (lv_at hl 1 rfl) ?_
            refine va_get (D := D) (ci := 6) (v := .ref ((ad 5) 0)) (C := RX6) (T := TX6) (N := 8) hx hb hts inw_X6_pivots_6 hown hK hP 0 rfl rfl 5 (by decide) (hts (.fieldLink RX6 40 "RingGames" "trial" "LRingGames$Game;") (List.mem_of_getElem? (i := 3) rfl)) (fun _ h9 => h9) rfl dX6_pivots_113 ?_
            refine va_get (D := D) (ci := 1) (v := .ref ((ad 5) 1)) (C := RX1) (T := TX1) (N := 4) hx hb hts inw_X6_pivots_1 hown hK hP 41 rfl rfl 1 (by decide) (hts (.fieldLink RX6 83 "RingGames$Game" "owners" "[I") (List.mem_of_getElem? (i := 5) rfl)) (fun _ h9 => h9) rfl dX6_pivots_116 ?_
            refine lv_iload hx hb dX6_pivots_119 (lv_at hl 4 rfl) ?_
            refine lv_aload_n hx hb dX6_pivots_121 rfl (lv_at hl 1 rfl) ?_
            refine va_get (D := D) (ci := 6) (v := .ref ((ad 1) 0)) (C := RX6) (T := TX6) (N := 8) hx hb hts inw_X6_pivots_6 hown hK hP 0 rfl rfl 0 (by decide) (hts (.fieldLink RX6 12 "RingGames" "now" "LRingGames$State;") (List.mem_of_getElem? (i := 1) rfl)) (fun _ h9 => h9) rfl dX6_pivots_122 ?_
            refine va_get (D := D) (ci := 4) (v := .ref ((ad 1) 2)) (C := RX4) (T := TX4) (N := 4) hx hb hts inw_X6_pivots_4 hown hK hP 1 rfl rfl 0 (by decide) (hts (.fieldLink RX6 65 "RingGames$State" "game" "LRingGames$Game;") (List.mem_of_getElem? (i := 2) rfl)) (fun _ h9 => h9) rfl dX6_pivots_125 ?_
            refine va_get (D := D) (ci := 1) (v := .ref ((ad 1) 3)) (C := RX1) (T := TX1) (N := 4) hx hb hts inw_X6_pivots_1 hown hK hP 3 rfl rfl 1 (by decide) (hts (.fieldLink RX6 83 "RingGames$Game" "owners" "[I") (List.mem_of_getElem? (i := 5) rfl)) (fun _ h9 => h9) rfl dX6_pivots_128 ?_
            refine lv_iload hx hb dX6_pivots_131 (lv_at hl 4 rfl) ?_
            refine va_iald hx hb hK hP 4 0 rfl rfl g8 dX6_pivots_133 ?_
            refine va_iast hx hb hK hP hD hS 42 0 rfl rfl g8 dX6_pivots_134 (fun H locs hP hD hS => ?_)
            have hP : va_P D vwCl ((w_X ad cI cC cS now hist snap has text (v_trial_L5.1, (upd (upd v_trial_L5.2.1 (v_l4_L5).toNatClampNeg (1 - (now.1.2.1 (v_l4_L5).toNatClampNeg))) (v_l4_L5).toNatClampNeg (now.1.2.1 (v_l4_L5).toNatClampNeg)), v_trial_L5.2.2.1, v_trial_L5.2.2.2) q9 walk) ++ R) H := hP
            have hD : va_D A ((w_X ad cI cC cS now hist snap has text (v_trial_L5.1, (upd (upd v_trial_L5.2.1 (v_l4_L5).toNatClampNeg (1 - (now.1.2.1 (v_l4_L5).toNatClampNeg))) (v_l4_L5).toNatClampNeg (now.1.2.1 (v_l4_L5).toNatClampNeg)), v_trial_L5.2.2.1, v_trial_L5.2.2.2) q9 walk) ++ R) := hD
            refine lv_iinc (v := (v_l4_L5 + 1)) (lv' := [(4, .int (v_l4_L5 + 1)), (3, .int (v_l3_L5 ||| q12)), (0, .ref (ad 0 0)), (1, .int p1), (2, .int q3.1)]) hx hb dX6_pivots_135 hl (k := 4) rfl (congrArg (fun z => v_l4_L5 + z) (by decide)) (by decide) rfl (fun ls hl => ?_)
            refine lv_goto (tgt := 41) hx hb dX6_pivots_138 (by decide) ?_
            exact ih (v_l3_L5 ||| q12) (v_l4_L5 + 1) (v_trial_L5.1, (upd (upd v_trial_L5.2.1 (v_l4_L5).toNatClampNeg (1 - (now.1.2.1 (v_l4_L5).toNatClampNeg))) (v_l4_L5).toNatClampNeg (now.1.2.1 (v_l4_L5).toNatClampNeg)), v_trial_L5.2.2.1, v_trial_L5.2.2.2) q9 _ hf _ _ hP hD hS _ (lv_sub hl [2, 3, 4, 1, 0] rfl) kx
    refine L5 n 0 0 q4 q3.2.2 q6 hq6 _ _ hP hD hS _ (lv_sub hl [3, 4, 2, 1, 0] rfl) ?_
    clear hP hD hS hl
    intro H locs hP hD hS ls hl
    refine lv_iload_n hx hb dX6_pivots_141 rfl (lv_at hl 0 rfl) ?_
    have hf := Option.some.inj hf
    subst hf
    exact hret _ _ _ _ _ dX6_pivots_142 rfl hP hD hS rfl
  · have hf := if_t hf c2
    refine lv_iconst (v := (-1)) hx hb dX6_pivots_14 (by decide) ?_
    have hf := Option.some.inj hf
    subst hf
    exact hret _ _ _ _ _ dX6_pivots_15 rfl hP hD hS rfl
def f_X6_weakArrows_L41 (n : Nat) (d_now : SS) (d_l1 : Int32) (d_l2 : Int32) : Nat → Int32 → Int32 → GG → EE → Option (Int32 × GG × EE)
  | 0, _, _, _, _ => none
  | k + 1, d_l3, d_l4, d_trial, d_meas => (if d_now.1.1 ≤ d_l4 then some (d_l3, d_trial, d_meas) else (f_X1_leads d_now.1 d_l1 d_l4).bind fun q6 => (if q6 = 0 then f_X6_weakArrows_L41 n d_now d_l1 d_l2 k d_l3 (d_l4 + 1) d_trial d_meas else vg d_l1 14 ((f_X6_bit d_l4).bind fun q9 => (f_X3_find n d_meas (d_trial.1, d_trial.2.1, d_trial.2.2.1, (upd d_trial.2.2.2 (d_l1).toNatClampNeg ((d_now.1.2.2.2 (d_l1).toNatClampNeg) &&& (q9 ^^^ (-1)))))).bind fun q10 => (f_X3_winner q10 d_l1).bind fun q11 => (if q11 = d_l2 then f_X6_weakArrows_L41 n d_now d_l1 d_l2 k d_l3 (d_l4 + 1) (d_trial.1, d_trial.2.1, d_trial.2.2.1, (upd d_trial.2.2.2 (d_l1).toNatClampNeg ((d_now.1.2.2.2 (d_l1).toNatClampNeg) &&& (q9 ^^^ (-1))))) q10 else (f_X6_bit d_l4).bind fun q13 => f_X6_weakArrows_L41 n d_now d_l1 d_l2 k (d_l3 ||| q13) (d_l4 + 1) (d_trial.1, d_trial.2.1, d_trial.2.2.1, (upd d_trial.2.2.2 (d_l1).toNatClampNeg ((d_now.1.2.2.2 (d_l1).toNatClampNeg) &&& (q9 ^^^ (-1))))) q10))))
def f_X6_weakArrows (n : Nat) (now : SS) (trial : GG) (meas : EE) (p1 : Int32) : Option (Int32 × GG × EE) := (f_X1_has now.1 p1).bind fun q1 => (if q1 = 0 then some ((-1), trial, meas) else (f_X6_winnerOf n now trial meas p1).bind fun q3 => (f_X1_become q3.2.1 now.1).bind fun q4 => (f_X6_weakArrows_L41 n now p1 q3.1 n 0 0 q4 q3.2.2).bind fun q6 => some (q6.1, q6.2.1, q6.2.2))
theorem inw_X6_weakArrows_1 : ∀ w ∈ wsX10, w ∈ wsX6_weakArrows := fun _ h => List.mem_cons_of_mem _ (List.mem_append_left _ (List.mem_append_right _ h))
theorem inw_X6_weakArrows_4 : ∀ w ∈ wsX40, w ∈ wsX6_weakArrows := fun _ h => List.mem_cons_of_mem _ (List.mem_append_left _ (List.mem_append_left _ (List.mem_append_right _ h)))
theorem inw_X6_weakArrows_6 : ∀ w ∈ wsX60, w ∈ wsX6_weakArrows := fun _ h => List.mem_cons_of_mem _ (List.mem_append_left _ (List.mem_append_left _ (List.mem_append_left _ (List.mem_append_right _ h))))
theorem hd_X6_weakArrows : yX6_weakArrows.cls = RX6 ∧ yX6_weakArrows.cls ≠ "java/lang/invoke/MethodHandle" ∧ yX6_weakArrows.cls ≠ "java/lang/invoke/VarHandle" ∧ (parseMethodDescriptor yX6_weakArrows.desc).map (fun d => d.parameters.length) = some 1 := by decide +kernel
set_option maxHeartbeats 4000000 in
set_option maxRecDepth 100000 in
theorem c_X6_weakArrows (l : Launch) (D : va_G) (cI cC cS : ClassId) (R : va_W) (ad : Nat → Nat → Nat) (now : SS) (hist : HH) (snap : SS) (has : Int32) (text : TT) (trial : GG) (meas : EE) (walk : KK) (p1 : Int32) (n : Nat) (r : Int32 × GG × EE) (hf : f_X6_weakArrows n now trial meas p1 = some r) : CI l yX6_weakArrows wsX6_weakArrows 6 154 D cI cC cS [.ref (ad 0 0), .int p1] ((w_X ad cI cC cS now hist snap has text trial meas walk) ++ R) r.1 ((w_X ad cI cC cS now hist snap has text r.2.1 r.2.2 walk) ++ R) := by
  refine XI.of (cc := cX6_weakArrows) (maxL := 5) (ty := .int) (own := RX6) (by decide) rfl rfl (Nat.le_of_ble_eq_true rfl) ?_
  intro p e s m args below meth c A Q S hK hN hA hP hD hS ls hl hret
  obtain ⟨hx, hb, hml, hown, hts⟩ := id S
  have hl : lv_has ls 5 [(0, .ref (ad 0 0)), (1, .int p1)] := hl
  unfold f_X6_weakArrows at hf
  refine lv_aload_n hx hb dX6_weakArrows_0 rfl (lv_at hl 0 rfl) ?_
  refine va_get (D := D) (ci := 6) (v := .ref ((ad 1) 0)) (C := RX6) (T := TX6) (N := 8) hx hb hts inw_X6_weakArrows_6 hown hK hP 0 rfl rfl 0 (by decide) (hts (.fieldLink RX6 12 "RingGames" "now" "LRingGames$State;") (List.mem_of_getElem? (i := 1) rfl)) (fun _ h9 => h9) rfl dX6_weakArrows_1 ?_
  refine va_get (D := D) (ci := 4) (v := .ref ((ad 1) 2)) (C := RX4) (T := TX4) (N := 4) hx hb hts inw_X6_weakArrows_4 hown hK hP 1 rfl rfl 0 (by decide) (hts (.fieldLink RX6 65 "RingGames$State" "game" "LRingGames$Game;") (List.mem_of_getElem? (i := 2) rfl)) (fun _ h9 => h9) rfl dX6_weakArrows_4 ?_
  refine lv_iload_n hx hb dX6_weakArrows_7 rfl (lv_at hl 1 rfl) ?_
  obtain ⟨q1, hq1, hf⟩ := ob_some hf
  refine xcVi (w' := ((w_X ad cI cC cS now hist snap has text trial meas walk) ++ R)) S hK hN hA hP hD hS (c_X1_has l D cI cC cS ((xr 50 [3, 4, 5, 6]).filterMap (fun i => (w_X ad cI cC cS now hist snap has text trial meas walk)[i]?) ++ R) (fun k => (ad 1) (k + 2)) now.1 p1 _ hq1) gX6_weakArrows_X1_has rfl hd_X1_has ⟨by decide, by decide⟩ (x_cut (pre := (w_X ad cI cC cS now hist snap has text trial meas walk)) [3, 4, 5, 6] 50 rfl (by decide +kernel) rfl) (x_cut (pre := (w_X ad cI cC cS now hist snap has text trial meas walk)) [3, 4, 5, 6] 50 rfl (by decide +kernel) rfl).symm (ci := 1) (q := (RX1, TX1, 4)) rfl rfl rfl rfl hl.1 rfl (Nat.le_of_ble_eq_true rfl) dX6_weakArrows_8 ⟨Nat.zero_le _, Nat.zero_le _⟩ (fun H locs hP hD hS => ?_)
  refine lv_if_ne (tgt := 16) hx hb dX6_weakArrows_11 (by decide) (fun c2 => ?_) (fun c2 => ?_)
  · have hf := if_f hf c2
    refine lv_aload_n hx hb dX6_weakArrows_16 rfl (lv_at hl 0 rfl) ?_
    refine lv_iload_n hx hb dX6_weakArrows_17 rfl (lv_at hl 1 rfl) ?_
    obtain ⟨q3, hq3, hf⟩ := ob_some hf
    refine xcVi (w' := ((w_X ad cI cC cS now hist snap has text q3.2.1 q3.2.2 walk) ++ R)) S hK hN hA hP hD hS (c_X6_winnerOf l D cI cC cS R ad now hist snap has text trial meas walk p1 n _ hq3) gX6_weakArrows_X6_winnerOf rfl hd_X6_winnerOf ⟨by decide, by decide⟩ (List.Perm.refl _) (List.Perm.refl _) (ci := 6) (q := (RX6, TX6, 8)) rfl rfl rfl rfl hl.1 rfl (Nat.le_of_ble_eq_true rfl) dX6_weakArrows_18 ⟨Nat.zero_le _, Nat.zero_le _⟩ (fun H locs hP hD hS => ?_)
    refine lv_istore_n (lv' := [(2, .int q3.1), (0, .ref (ad 0 0)), (1, .int p1)]) hx hb dX6_weakArrows_21 rfl hl (by decide) rfl (fun ls hl => ?_)
    refine lv_iconst (v := 0) hx hb dX6_weakArrows_22 (by decide) ?_
    refine lv_istore_n (lv' := [(3, .int 0), (2, .int q3.1), (0, .ref (ad 0 0)), (1, .int p1)]) hx hb dX6_weakArrows_23 rfl hl (by decide) rfl (fun ls hl => ?_)
    refine lv_aload_n hx hb dX6_weakArrows_24 rfl (lv_at hl 2 rfl) ?_
    refine va_get (D := D) (ci := 6) (v := .ref ((ad 5) 0)) (C := RX6) (T := TX6) (N := 8) hx hb hts inw_X6_weakArrows_6 hown hK hP 0 rfl rfl 5 (by decide) (hts (.fieldLink RX6 40 "RingGames" "trial" "LRingGames$Game;") (List.mem_of_getElem? (i := 3) rfl)) (fun _ h9 => h9) rfl dX6_weakArrows_25 ?_
    refine lv_aload_n hx hb dX6_weakArrows_28 rfl (lv_at hl 2 rfl) ?_
    refine va_get (D := D) (ci := 6) (v := .ref ((ad 1) 0)) (C := RX6) (T := TX6) (N := 8) hx hb hts inw_X6_weakArrows_6 hown hK hP 0 rfl rfl 0 (by decide) (hts (.fieldLink RX6 12 "RingGames" "now" "LRingGames$State;") (List.mem_of_getElem? (i := 1) rfl)) (fun _ h9 => h9) rfl dX6_weakArrows_29 ?_
    refine va_get (D := D) (ci := 4) (v := .ref ((ad 1) 2)) (C := RX4) (T := TX4) (N := 4) hx hb hts inw_X6_weakArrows_4 hown hK hP 1 rfl rfl 0 (by decide) (hts (.fieldLink RX6 65 "RingGames$State" "game" "LRingGames$Game;") (List.mem_of_getElem? (i := 2) rfl)) (fun _ h9 => h9) rfl dX6_weakArrows_32 ?_
    obtain ⟨q4, hq4, hf⟩ := ob_some hf
    refine xcVv (w' := ((w_X ad cI cC cS now hist snap has text q4 q3.2.2 walk) ++ R)) S hK hN hA hP hD hS (c_X1_become l D cI cC cS ((xr 50 [41, 42, 43, 44, 3, 4, 5, 6]).filterMap (fun i => (w_X ad cI cC cS now hist snap has text q3.2.1 q3.2.2 walk)[i]?) ++ R) (ad 5) (fun k => (ad 1) (k + 2)) q3.2.1 now.1 _ hq4) gX6_weakArrows_X1_become rfl hd_X1_become ⟨by decide, by decide⟩ (x_cut (pre := (w_X ad cI cC cS now hist snap has text q3.2.1 q3.2.2 walk)) [41, 42, 43, 44, 3, 4, 5, 6] 50 rfl (by decide +kernel) rfl) (x_back (pre := (w_X ad cI cC cS now hist snap has text q3.2.1 q3.2.2 walk)) [41, 42, 43, 44, 3, 4, 5, 6] 50 rfl (by decide +kernel) rfl rfl) (ci := 1) (q := (RX1, TX1, 4)) rfl rfl rfl rfl hl.1 rfl (Nat.le_of_ble_eq_true rfl) dX6_weakArrows_35 ⟨Nat.zero_le _, Nat.zero_le _⟩ (fun H locs hP hD hS => ?_)
    refine lv_iconst (v := 0) hx hb dX6_weakArrows_38 (by decide) ?_
    refine lv_istore (lv' := [(4, .int 0), (3, .int 0), (2, .int q3.1), (0, .ref (ad 0 0)), (1, .int p1)]) hx hb dX6_weakArrows_39 hl (by decide) rfl (fun ls hl => ?_)
    obtain ⟨q6, hq6, hf⟩ := ob_some hf
    have L5 : ∀ (k : Nat) (v_l3_L5 : Int32) (v_l4_L5 : Int32) (v_trial_L5 : GG) (v_meas_L5 : EE) (q_L5 : Int32 × GG × EE), f_X6_weakArrows_L41 n now p1 q3.1 k v_l3_L5 v_l4_L5 v_trial_L5 v_meas_L5 = some q_L5 → ∀ (H : Heap) (locs : List Loc), va_P D vwCl ((w_X ad cI cC cS now hist snap has text v_trial_L5 v_meas_L5 walk) ++ R) H → va_D A ((w_X ad cI cC cS now hist snap has text v_trial_L5 v_meas_L5 walk) ++ R) → va_S A s.heap H locs → ∀ ls : Array Slot, lv_has ls 5 [(0, .ref (ad 0 0)), (1, .int p1), (2, .int q3.1), (3, .int v_l3_L5), (4, .int v_l4_L5)] → (∀ (H : Heap) (locs : List Loc), va_P D vwCl ((w_X ad cI cC cS now hist snap has text q_L5.2.1 q_L5.2.2 walk) ++ R) H → va_D A ((w_X ad cI cC cS now hist snap has text q_L5.2.1 q_L5.2.2 walk) ++ R) → va_S A s.heap H locs → ∀ ls : Array Slot, lv_has ls 5 [(3, .int q_L5.1)] → W p l e (xR 6 154) s m args below meth c H locs 0 0 Q (F0 m 138 ls [])) → W p l e (xR 6 154) s m args below meth c H locs 0 0 Q (F0 m 41 ls []) := by
      intro k
      induction k with
      | zero => intro v_l3_L5 v_l4_L5 v_trial_L5 v_meas_L5 q_L5 hf; simp [f_X6_weakArrows_L41] at hf
      | succ k ih =>
        intro v_l3_L5 v_l4_L5 v_trial_L5 v_meas_L5 q_L5 hf H locs hP hD hS ls hl kx
        rw [f_X6_weakArrows_L41] at hf
        refine lv_iload hx hb dX6_weakArrows_41 (lv_at hl 4 rfl) ?_
        refine lv_aload_n hx hb dX6_weakArrows_43 rfl (lv_at hl 0 rfl) ?_
        refine va_get (D := D) (ci := 6) (v := .ref ((ad 1) 0)) (C := RX6) (T := TX6) (N := 8) hx hb hts inw_X6_weakArrows_6 hown hK hP 0 rfl rfl 0 (by decide) (hts (.fieldLink RX6 12 "RingGames" "now" "LRingGames$State;") (List.mem_of_getElem? (i := 1) rfl)) (fun _ h9 => h9) rfl dX6_weakArrows_44 ?_
        refine va_get (D := D) (ci := 4) (v := .ref ((ad 1) 2)) (C := RX4) (T := TX4) (N := 4) hx hb hts inw_X6_weakArrows_4 hown hK hP 1 rfl rfl 0 (by decide) (hts (.fieldLink RX6 65 "RingGames$State" "game" "LRingGames$Game;") (List.mem_of_getElem? (i := 2) rfl)) (fun _ h9 => h9) rfl dX6_weakArrows_47 ?_
        refine va_get (D := D) (ci := 1) (v := .int now.1.1) (C := RX1) (T := TX1) (N := 4) hx hb hts inw_X6_weakArrows_1 hown hK hP 3 rfl rfl 0 (by decide) (hts (.fieldLink RX6 68 "RingGames$Game" "size" "I") (List.mem_of_getElem? (i := 4) rfl)) (fun _ h9 => h9) rfl dX6_weakArrows_50 ?_
        refine lv_icmp_ge (tgt := 138) hx hb dX6_weakArrows_53 (by decide) (fun c7 => ?_) (fun c7 => ?_)
        · have hf := if_t hf c7
          have hf := Option.some.inj hf
          subst hf
          exact kx _ _ hP hD hS _ (lv_sub hl [3] rfl)
        · have hf := if_f hf c7
          refine lv_aload_n hx hb dX6_weakArrows_56 rfl (lv_at hl 0 rfl) ?_
          refine va_get (D := D) (ci := 6) (v := .ref ((ad 1) 0)) (C := RX6) (T := TX6) (N := 8) hx hb hts inw_X6_weakArrows_6 hown hK hP 0 rfl rfl 0 (by decide) (hts (.fieldLink RX6 12 "RingGames" "now" "LRingGames$State;") (List.mem_of_getElem? (i := 1) rfl)) (fun _ h9 => h9) rfl dX6_weakArrows_57 ?_
          refine va_get (D := D) (ci := 4) (v := .ref ((ad 1) 2)) (C := RX4) (T := TX4) (N := 4) hx hb hts inw_X6_weakArrows_4 hown hK hP 1 rfl rfl 0 (by decide) (hts (.fieldLink RX6 65 "RingGames$State" "game" "LRingGames$Game;") (List.mem_of_getElem? (i := 2) rfl)) (fun _ h9 => h9) rfl dX6_weakArrows_60 ?_
          refine lv_iload_n hx hb dX6_weakArrows_63 rfl (lv_at hl 1 rfl) ?_
          refine lv_iload hx hb dX6_weakArrows_64 (lv_at hl 4 rfl) ?_
          obtain ⟨q8, hq8, hf⟩ := ob_some hf
          refine xcVi (w' := ((w_X ad cI cC cS now hist snap has text v_trial_L5 v_meas_L5 walk) ++ R)) S hK hN hA hP hD hS (c_X1_leads l D cI cC cS ((xr 50 [3, 4, 5, 6]).filterMap (fun i => (w_X ad cI cC cS now hist snap has text v_trial_L5 v_meas_L5 walk)[i]?) ++ R) (fun k => (ad 1) (k + 2)) now.1 p1 v_l4_L5 _ hq8) gX6_weakArrows_X1_leads rfl hd_X1_leads ⟨by decide, by decide⟩ (x_cut (pre := (w_X ad cI cC cS now hist snap has text v_trial_L5 v_meas_L5 walk)) [3, 4, 5, 6] 50 rfl (by decide +kernel) rfl) (x_cut (pre := (w_X ad cI cC cS now hist snap has text v_trial_L5 v_meas_L5 walk)) [3, 4, 5, 6] 50 rfl (by decide +kernel) rfl).symm (ci := 1) (q := (RX1, TX1, 4)) rfl rfl rfl rfl hl.1 rfl (Nat.le_of_ble_eq_true rfl) dX6_weakArrows_66 ⟨Nat.zero_le _, Nat.zero_le _⟩ (fun H locs hP hD hS => ?_)
          refine lv_if_eq (tgt := 132) hx hb dX6_weakArrows_69 (by decide) (fun c9 => ?_) (fun c9 => ?_)
          · have hf := if_t hf c9
            refine lv_iinc (v := (v_l4_L5 + 1)) (lv' := [(4, .int (v_l4_L5 + 1)), (0, .ref (ad 0 0)), (1, .int p1), (2, .int q3.1), (3, .int v_l3_L5)]) hx hb dX6_weakArrows_132 hl (k := 4) rfl (congrArg (fun z => v_l4_L5 + z) (by decide)) (by decide) rfl (fun ls hl => ?_)
            refine lv_goto (tgt := 41) hx hb dX6_weakArrows_135 (by decide) ?_
            exact ih v_l3_L5 (v_l4_L5 + 1) v_trial_L5 v_meas_L5 _ hf _ _ hP hD hS _ (lv_sub hl [1, 2, 3, 4, 0] rfl) kx
          · have hf := if_f hf c9
            refine lv_aload_n hx hb dX6_weakArrows_72 rfl (lv_at hl 0 rfl) ?_
            refine va_get (D := D) (ci := 6) (v := .ref ((ad 5) 0)) (C := RX6) (T := TX6) (N := 8) hx hb hts inw_X6_weakArrows_6 hown hK hP 0 rfl rfl 5 (by decide) (hts (.fieldLink RX6 40 "RingGames" "trial" "LRingGames$Game;") (List.mem_of_getElem? (i := 3) rfl)) (fun _ h9 => h9) rfl dX6_weakArrows_73 ?_
            refine va_get (D := D) (ci := 1) (v := .ref ((ad 5) 3)) (C := RX1) (T := TX1) (N := 4) hx hb hts inw_X6_weakArrows_1 hown hK hP 41 rfl rfl 3 (by decide) (hts (.fieldLink RX6 102 "RingGames$Game" "arrows" "[I") (List.mem_of_getElem? (i := 5) rfl)) (fun _ h9 => h9) rfl dX6_weakArrows_76 ?_
            refine lv_iload_n hx hb dX6_weakArrows_79 rfl (lv_at hl 1 rfl) ?_
            refine lv_aload_n hx hb dX6_weakArrows_80 rfl (lv_at hl 0 rfl) ?_
            refine va_get (D := D) (ci := 6) (v := .ref ((ad 1) 0)) (C := RX6) (T := TX6) (N := 8) hx hb hts inw_X6_weakArrows_6 hown hK hP 0 rfl rfl 0 (by decide) (hts (.fieldLink RX6 12 "RingGames" "now" "LRingGames$State;") (List.mem_of_getElem? (i := 1) rfl)) (fun _ h9 => h9) rfl dX6_weakArrows_81 ?_
            refine va_get (D := D) (ci := 4) (v := .ref ((ad 1) 2)) (C := RX4) (T := TX4) (N := 4) hx hb hts inw_X6_weakArrows_4 hown hK hP 1 rfl rfl 0 (by decide) (hts (.fieldLink RX6 65 "RingGames$State" "game" "LRingGames$Game;") (List.mem_of_getElem? (i := 2) rfl)) (fun _ h9 => h9) rfl dX6_weakArrows_84 ?_
            refine va_get (D := D) (ci := 1) (v := .ref ((ad 1) 5)) (C := RX1) (T := TX1) (N := 4) hx hb hts inw_X6_weakArrows_1 hown hK hP 3 rfl rfl 3 (by decide) (hts (.fieldLink RX6 102 "RingGames$Game" "arrows" "[I") (List.mem_of_getElem? (i := 5) rfl)) (fun _ h9 => h9) rfl dX6_weakArrows_87 ?_
            refine lv_iload_n hx hb dX6_weakArrows_90 rfl (lv_at hl 1 rfl) ?_
            obtain ⟨g10, hf⟩ := vg_some hf
            refine va_iald hx hb hK hP 6 0 rfl rfl g10 dX6_weakArrows_91 ?_
            refine lv_iload hx hb dX6_weakArrows_92 (lv_at hl 4 rfl) ?_
            obtain ⟨q11, hq11, hf⟩ := ob_some hf
            refine xcSi S hK hN hA hP hD hS (c_X6_bit l D cI cC cS ((w_X ad cI cC cS now hist snap has text v_trial_L5 v_meas_L5 walk) ++ R) v_l4_L5 _ hq11) gX6_weakArrows_X6_bit rfl hd_X6_bit ⟨by decide, by decide⟩ rfl hl.1 rfl (Nat.le_of_ble_eq_true rfl) dX6_weakArrows_94 ⟨Nat.zero_le _, Nat.zero_le _⟩ (fun H locs hP hD hS => ?_)
            refine lv_iconst (v := (-1)) hx hb dX6_weakArrows_97 (by decide) ?_
            refine lv_ixor hx hb dX6_weakArrows_98 ?_
            refine lv_iand hx hb dX6_weakArrows_99 ?_
            refine va_iast hx hb hK hP hD hS 44 0 rfl rfl g10 dX6_weakArrows_100 (fun H locs hP hD hS => ?_)
            have hP : va_P D vwCl ((w_X ad cI cC cS now hist snap has text (v_trial_L5.1, v_trial_L5.2.1, v_trial_L5.2.2.1, (upd v_trial_L5.2.2.2 (p1).toNatClampNeg ((now.1.2.2.2 (p1).toNatClampNeg) &&& (q11 ^^^ (-1))))) v_meas_L5 walk) ++ R) H := hP
            have hD : va_D A ((w_X ad cI cC cS now hist snap has text (v_trial_L5.1, v_trial_L5.2.1, v_trial_L5.2.2.1, (upd v_trial_L5.2.2.2 (p1).toNatClampNeg ((now.1.2.2.2 (p1).toNatClampNeg) &&& (q11 ^^^ (-1))))) v_meas_L5 walk) ++ R) := hD
            refine lv_aload_n hx hb dX6_weakArrows_101 rfl (lv_at hl 0 rfl) ?_
            refine va_get (D := D) (ci := 6) (v := .ref ((ad 6) 0)) (C := RX6) (T := TX6) (N := 8) hx hb hts inw_X6_weakArrows_6 hown hK hP 0 rfl rfl 6 (by decide) (hts (.fieldLink RX6 47 "RingGames" "measures" "LRingGames$Measures;") (List.mem_of_getElem? (i := 6) rfl)) (fun _ h9 => h9) rfl dX6_weakArrows_102 ?_
            refine lv_aload_n hx hb dX6_weakArrows_105 rfl (lv_at hl 0 rfl) ?_
            refine va_get (D := D) (ci := 6) (v := .ref ((ad 5) 0)) (C := RX6) (T := TX6) (N := 8) hx hb hts inw_X6_weakArrows_6 hown hK hP 0 rfl rfl 5 (by decide) (hts (.fieldLink RX6 40 "RingGames" "trial" "LRingGames$Game;") (List.mem_of_getElem? (i := 3) rfl)) (fun _ h9 => h9) rfl dX6_weakArrows_106 ?_
            obtain ⟨q12, hq12, hf⟩ := ob_some hf
            refine xcVv (w' := ((w_X ad cI cC cS now hist snap has text (v_trial_L5.1, v_trial_L5.2.1, v_trial_L5.2.2.1, (upd v_trial_L5.2.2.2 (p1).toNatClampNeg ((now.1.2.2.2 (p1).toNatClampNeg) &&& (q11 ^^^ (-1))))) q12 walk) ++ R)) S hK hN hA hP hD hS (c_X3_find l D cI cC cS ((xr 50 [45, 46, 47, 41, 42, 43, 44]).filterMap (fun i => (w_X ad cI cC cS now hist snap has text (v_trial_L5.1, v_trial_L5.2.1, v_trial_L5.2.2.1, (upd v_trial_L5.2.2.2 (p1).toNatClampNeg ((now.1.2.2.2 (p1).toNatClampNeg) &&& (q11 ^^^ (-1))))) v_meas_L5 walk)[i]?) ++ R) (ad 6) (ad 5) v_meas_L5 (v_trial_L5.1, v_trial_L5.2.1, v_trial_L5.2.2.1, (upd v_trial_L5.2.2.2 (p1).toNatClampNeg ((now.1.2.2.2 (p1).toNatClampNeg) &&& (q11 ^^^ (-1))))) n _ hq12) gX6_weakArrows_X3_find rfl hd_X3_find ⟨by decide, by decide⟩ (x_cut (pre := (w_X ad cI cC cS now hist snap has text (v_trial_L5.1, v_trial_L5.2.1, v_trial_L5.2.2.1, (upd v_trial_L5.2.2.2 (p1).toNatClampNeg ((now.1.2.2.2 (p1).toNatClampNeg) &&& (q11 ^^^ (-1))))) v_meas_L5 walk)) [45, 46, 47, 41, 42, 43, 44] 50 rfl (by decide +kernel) rfl) (x_back (pre := (w_X ad cI cC cS now hist snap has text (v_trial_L5.1, v_trial_L5.2.1, v_trial_L5.2.2.1, (upd v_trial_L5.2.2.2 (p1).toNatClampNeg ((now.1.2.2.2 (p1).toNatClampNeg) &&& (q11 ^^^ (-1))))) v_meas_L5 walk)) [45, 46, 47, 41, 42, 43, 44] 50 rfl (by decide +kernel) rfl rfl) (ci := 3) (q := (RX3, TX3, 3)) rfl rfl rfl rfl hl.1 rfl (Nat.le_of_ble_eq_true rfl) dX6_weakArrows_109 ⟨Nat.zero_le _, Nat.zero_le _⟩ (fun H locs hP hD hS => ?_)
            refine lv_aload_n hx hb dX6_weakArrows_112 rfl (lv_at hl 0 rfl) ?_
            refine va_get (D := D) (ci := 6) (v := .ref ((ad 6) 0)) (C := RX6) (T := TX6) (N := 8) hx hb hts inw_X6_weakArrows_6 hown hK hP 0 rfl rfl 6 (by decide) (hts (.fieldLink RX6 47 "RingGames" "measures" "LRingGames$Measures;") (List.mem_of_getElem? (i := 6) rfl)) (fun _ h9 => h9) rfl dX6_weakArrows_113 ?_
            refine lv_iload_n hx hb dX6_weakArrows_116 rfl (lv_at hl 1 rfl) ?_
            obtain ⟨q13, hq13, hf⟩ := ob_some hf
            refine xcVi (w' := ((w_X ad cI cC cS now hist snap has text (v_trial_L5.1, v_trial_L5.2.1, v_trial_L5.2.2.1, (upd v_trial_L5.2.2.2 (p1).toNatClampNeg ((now.1.2.2.2 (p1).toNatClampNeg) &&& (q11 ^^^ (-1))))) q12 walk) ++ R)) S hK hN hA hP hD hS (c_X3_winner l D cI cC cS ((xr 50 [45, 46, 47]).filterMap (fun i => (w_X ad cI cC cS now hist snap has text (v_trial_L5.1, v_trial_L5.2.1, v_trial_L5.2.2.1, (upd v_trial_L5.2.2.2 (p1).toNatClampNeg ((now.1.2.2.2 (p1).toNatClampNeg) &&& (q11 ^^^ (-1))))) q12 walk)[i]?) ++ R) (ad 6) q12 p1 _ hq13) gX6_weakArrows_X3_winner rfl hd_X3_winner ⟨by decide, by decide⟩ (x_cut (pre := (w_X ad cI cC cS now hist snap has text (v_trial_L5.1, v_trial_L5.2.1, v_trial_L5.2.2.1, (upd v_trial_L5.2.2.2 (p1).toNatClampNeg ((now.1.2.2.2 (p1).toNatClampNeg) &&& (q11 ^^^ (-1))))) q12 walk)) [45, 46, 47] 50 rfl (by decide +kernel) rfl) (x_cut (pre := (w_X ad cI cC cS now hist snap has text (v_trial_L5.1, v_trial_L5.2.1, v_trial_L5.2.2.1, (upd v_trial_L5.2.2.2 (p1).toNatClampNeg ((now.1.2.2.2 (p1).toNatClampNeg) &&& (q11 ^^^ (-1))))) q12 walk)) [45, 46, 47] 50 rfl (by decide +kernel) rfl).symm (ci := 3) (q := (RX3, TX3, 3)) rfl rfl rfl rfl hl.1 rfl (Nat.le_of_ble_eq_true rfl) dX6_weakArrows_117 ⟨Nat.zero_le _, Nat.zero_le _⟩ (fun H locs hP hD hS => ?_)
            refine lv_iload_n hx hb dX6_weakArrows_120 rfl (lv_at hl 2 rfl) ?_
            refine lv_icmp_eq (tgt := 132) hx hb dX6_weakArrows_121 (by decide) (fun c14 => ?_) (fun c14 => ?_)
            · have hf := if_t hf c14
              refine lv_iinc (v := (v_l4_L5 + 1)) (lv' := [(4, .int (v_l4_L5 + 1)), (0, .ref (ad 0 0)), (1, .int p1), (2, .int q3.1), (3, .int v_l3_L5)]) hx hb dX6_weakArrows_132 hl (k := 4) rfl (congrArg (fun z => v_l4_L5 + z) (by decide)) (by decide) rfl (fun ls hl => ?_)
              refine lv_goto (tgt := 41) hx hb dX6_weakArrows_135 (by decide) ?_
              exact ih v_l3_L5 (v_l4_L5 + 1) (v_trial_L5.1, v_trial_L5.2.1, v_trial_L5.2.2.1, (upd v_trial_L5.2.2.2 (p1).toNatClampNeg ((now.1.2.2.2 (p1).toNatClampNeg) &&& (q11 ^^^ (-1))))) q12 _ hf _ _ hP hD hS _ (lv_sub hl [1, 2, 3, 4, 0] rfl) kx
            · have hf := if_f hf c14
              refine lv_iload_n hx hb dX6_weakArrows_124 rfl (lv_at hl 3 rfl) ?_
              refine lv_iload hx hb dX6_weakArrows_125 (lv_at hl 4 rfl) ?_
              obtain ⟨q15, hq15, hf⟩ := ob_some hf
              refine xcSi S hK hN hA hP hD hS (c_X6_bit l D cI cC cS ((w_X ad cI cC cS now hist snap has text (v_trial_L5.1, v_trial_L5.2.1, v_trial_L5.2.2.1, (upd v_trial_L5.2.2.2 (p1).toNatClampNeg ((now.1.2.2.2 (p1).toNatClampNeg) &&& (q11 ^^^ (-1))))) q12 walk) ++ R) v_l4_L5 _ hq15) gX6_weakArrows_X6_bit rfl hd_X6_bit ⟨by decide, by decide⟩ rfl hl.1 rfl (Nat.le_of_ble_eq_true rfl) dX6_weakArrows_127 ⟨Nat.zero_le _, Nat.zero_le _⟩ (fun H locs hP hD hS => ?_)
              refine lv_ior hx hb dX6_weakArrows_130 ?_
              refine lv_istore_n (lv' := [(3, .int (v_l3_L5 ||| q15)), (0, .ref (ad 0 0)), (1, .int p1), (2, .int q3.1), (4, .int v_l4_L5)]) hx hb dX6_weakArrows_131 rfl hl (by decide) rfl (fun ls hl => ?_)
              refine lv_iinc (v := (v_l4_L5 + 1)) (lv' := [(4, .int (v_l4_L5 + 1)), (3, .int (v_l3_L5 ||| q15)), (0, .ref (ad 0 0)), (1, .int p1), (2, .int q3.1)]) hx hb dX6_weakArrows_132 hl (k := 4) rfl (congrArg (fun z => v_l4_L5 + z) (by decide)) (by decide) rfl (fun ls hl => ?_)
              refine lv_goto (tgt := 41) hx hb dX6_weakArrows_135 (by decide) ?_
              exact ih (v_l3_L5 ||| q15) (v_l4_L5 + 1) (v_trial_L5.1, v_trial_L5.2.1, v_trial_L5.2.2.1, (upd v_trial_L5.2.2.2 (p1).toNatClampNeg ((now.1.2.2.2 (p1).toNatClampNeg) &&& (q11 ^^^ (-1))))) q12 _ hf _ _ hP hD hS _ (lv_sub hl [2, 3, 4, 1, 0] rfl) kx
    refine L5 n 0 0 q4 q3.2.2 q6 hq6 _ _ hP hD hS _ (lv_sub hl [3, 4, 2, 1, 0] rfl) ?_
    clear hP hD hS hl
    intro H locs hP hD hS ls hl
    refine lv_iload_n hx hb dX6_weakArrows_138 rfl (lv_at hl 0 rfl) ?_
    have hf := Option.some.inj hf
    subst hf
    exact hret _ _ _ _ _ dX6_weakArrows_139 rfl hP hD hS rfl
  · have hf := if_t hf c2
    refine lv_iconst (v := (-1)) hx hb dX6_weakArrows_14 (by decide) ?_
    have hf := Option.some.inj hf
    subst hf
    exact hret _ _ _ _ _ dX6_weakArrows_15 rfl hP hD hS rfl
def f_X6_token (n : Nat) (now : SS) (trial : GG) (meas : EE) (walk : KK) (p1 : Int32) : Option (Int32 × GG × EE × KK) := (if p1 < 0 then some ((-2), trial, meas, walk) else (if p1 ≤ 4 then (f_X1_has now.1 now.2.2.1).bind fun q3 => (if q3 = 0 then some ((-4), trial, meas, walk) else (f_X6_findWays n now trial meas walk).bind fun q5 => (f_X5_follow n q5.2.2 now.2.2.1).bind fun q6 => (if p1 = 0 then some (now.2.2.1, q5.1, q5.2.1, q6) else (if p1 = 1 then (if q6.2.2.1 = 0 then some (q6.2.1, q5.1, q5.2.1, q6) else some ((-5), q5.1, q5.2.1, q6)) else (if p1 = 2 then (if q6.2.2.1 = 0 then some ((-5), q5.1, q5.2.1, q6) else (f_X5_leastColourAgain n q6 now.1).bind fun q10 => some (q10, q5.1, q5.2.1, q6)) else (if p1 = 3 then (if q6.2.2.1 = 0 then some ((-5), q5.1, q5.2.1, q6) else some (q6.2.1, q5.1, q5.2.1, q6)) else (f_X5_winner n q6 now.1).bind fun q12 => some (q12, q5.1, q5.2.1, q6)))))) else some ((-2), trial, meas, walk)))
theorem inw_X6_token_4 : ∀ w ∈ wsX40, w ∈ wsX6_token := fun _ h => List.mem_cons_of_mem _ (List.mem_append_left _ (List.mem_append_left _ (List.mem_append_left _ (List.mem_append_right _ h))))
theorem inw_X6_token_5 : ∀ w ∈ wsX50, w ∈ wsX6_token := fun _ h => List.mem_cons_of_mem _ (List.mem_append_left _ (List.mem_append_left _ (List.mem_append_right _ h)))
theorem inw_X6_token_6 : ∀ w ∈ wsX60, w ∈ wsX6_token := fun _ h => List.mem_cons_of_mem _ (List.mem_append_left _ (List.mem_append_left _ (List.mem_append_left _ (List.mem_append_left _ (List.mem_append_right _ h)))))
theorem hd_X6_token : yX6_token.cls = RX6 ∧ yX6_token.cls ≠ "java/lang/invoke/MethodHandle" ∧ yX6_token.cls ≠ "java/lang/invoke/VarHandle" ∧ (parseMethodDescriptor yX6_token.desc).map (fun d => d.parameters.length) = some 1 := by decide +kernel
set_option maxHeartbeats 4000000 in
set_option maxRecDepth 100000 in
theorem c_X6_token (l : Launch) (D : va_G) (cI cC cS : ClassId) (R : va_W) (ad : Nat → Nat → Nat) (now : SS) (hist : HH) (snap : SS) (has : Int32) (text : TT) (trial : GG) (meas : EE) (walk : KK) (p1 : Int32) (n : Nat) (r : Int32 × GG × EE × KK) (hf : f_X6_token n now trial meas walk p1 = some r) : CI l yX6_token wsX6_token 6 155 D cI cC cS [.ref (ad 0 0), .int p1] ((w_X ad cI cC cS now hist snap has text trial meas walk) ++ R) r.1 ((w_X ad cI cC cS now hist snap has text r.2.1 r.2.2.1 r.2.2.2) ++ R) := by
  refine XI.of (cc := cX6_token) (maxL := 2) (ty := .int) (own := RX6) (by decide) rfl rfl (Nat.le_of_ble_eq_true rfl) ?_
  intro p e s m args below meth c A Q S hK hN hA hP hD hS ls hl hret
  obtain ⟨hx, hb, hml, hown, hts⟩ := id S
  have hl : lv_has ls 2 [(0, .ref (ad 0 0)), (1, .int p1)] := hl
  unfold f_X6_token at hf
  refine lv_iload_n hx hb dX6_token_0 rfl (lv_at hl 1 rfl) ?_
  refine lv_if_lt (tgt := 9) hx hb dX6_token_1 (by decide) (fun c1 => ?_) (fun c1 => ?_)
  · have hf := if_t hf c1
    refine lv_bipush (v := (-2)) hx hb dX6_token_9 (by decide) ?_
    have hf := Option.some.inj hf
    subst hf
    exact hret _ _ _ _ _ dX6_token_11 rfl hP hD hS rfl
  · have hf := if_f hf c1
    refine lv_iload_n hx hb dX6_token_4 rfl (lv_at hl 1 rfl) ?_
    refine lv_iconst (v := 4) hx hb dX6_token_5 (by decide) ?_
    refine lv_icmp_le (tgt := 12) hx hb dX6_token_6 (by decide) (fun c2 => ?_) (fun c2 => ?_)
    · have hf := if_t hf c2
      refine lv_aload_n hx hb dX6_token_12 rfl (lv_at hl 0 rfl) ?_
      refine va_get (D := D) (ci := 6) (v := .ref ((ad 1) 0)) (C := RX6) (T := TX6) (N := 8) hx hb hts inw_X6_token_6 hown hK hP 0 rfl rfl 0 (by decide) (hts (.fieldLink RX6 12 "RingGames" "now" "LRingGames$State;") (List.mem_of_getElem? (i := 1) rfl)) (fun _ h9 => h9) rfl dX6_token_13 ?_
      refine va_get (D := D) (ci := 4) (v := .ref ((ad 1) 2)) (C := RX4) (T := TX4) (N := 4) hx hb hts inw_X6_token_4 hown hK hP 1 rfl rfl 0 (by decide) (hts (.fieldLink RX6 65 "RingGames$State" "game" "LRingGames$Game;") (List.mem_of_getElem? (i := 2) rfl)) (fun _ h9 => h9) rfl dX6_token_16 ?_
      refine lv_aload_n hx hb dX6_token_19 rfl (lv_at hl 0 rfl) ?_
      refine va_get (D := D) (ci := 6) (v := .ref ((ad 1) 0)) (C := RX6) (T := TX6) (N := 8) hx hb hts inw_X6_token_6 hown hK hP 0 rfl rfl 0 (by decide) (hts (.fieldLink RX6 12 "RingGames" "now" "LRingGames$State;") (List.mem_of_getElem? (i := 1) rfl)) (fun _ h9 => h9) rfl dX6_token_20 ?_
      refine va_get (D := D) (ci := 4) (v := .int now.2.2.1) (C := RX4) (T := TX4) (N := 4) hx hb hts inw_X6_token_4 hown hK hP 1 rfl rfl 2 (by decide) (hts (.fieldLink RX6 141 "RingGames$State" "tokenAt" "I") (List.mem_of_getElem? (i := 3) rfl)) (fun _ h9 => h9) rfl dX6_token_23 ?_
      obtain ⟨q3, hq3, hf⟩ := ob_some hf
      refine xcVi (w' := ((w_X ad cI cC cS now hist snap has text trial meas walk) ++ R)) S hK hN hA hP hD hS (c_X1_has l D cI cC cS ((xr 50 [3, 4, 5, 6]).filterMap (fun i => (w_X ad cI cC cS now hist snap has text trial meas walk)[i]?) ++ R) (fun k => (ad 1) (k + 2)) now.1 now.2.2.1 _ hq3) gX6_token_X1_has rfl hd_X1_has ⟨by decide, by decide⟩ (x_cut (pre := (w_X ad cI cC cS now hist snap has text trial meas walk)) [3, 4, 5, 6] 50 rfl (by decide +kernel) rfl) (x_cut (pre := (w_X ad cI cC cS now hist snap has text trial meas walk)) [3, 4, 5, 6] 50 rfl (by decide +kernel) rfl).symm (ci := 1) (q := (RX1, TX1, 4)) rfl rfl rfl rfl hl.1 rfl (Nat.le_of_ble_eq_true rfl) dX6_token_26 ⟨Nat.zero_le _, Nat.zero_le _⟩ (fun H locs hP hD hS => ?_)
      refine lv_if_ne (tgt := 35) hx hb dX6_token_29 (by decide) (fun c4 => ?_) (fun c4 => ?_)
      · have hf := if_f hf c4
        refine lv_aload_n hx hb dX6_token_35 rfl (lv_at hl 0 rfl) ?_
        obtain ⟨q5, hq5, hf⟩ := ob_some hf
        refine xcVv (w' := ((w_X ad cI cC cS now hist snap has text q5.1 q5.2.1 q5.2.2) ++ R)) S hK hN hA hP hD hS (c_X6_findWays l D cI cC cS R ad now hist snap has text trial meas walk n _ hq5) gX6_token_X6_findWays rfl hd_X6_findWays ⟨by decide, by decide⟩ (List.Perm.refl _) (List.Perm.refl _) (ci := 6) (q := (RX6, TX6, 8)) rfl rfl rfl rfl hl.1 rfl (Nat.le_of_ble_eq_true rfl) dX6_token_36 ⟨Nat.zero_le _, Nat.zero_le _⟩ (fun H locs hP hD hS => ?_)
        refine lv_aload_n hx hb dX6_token_39 rfl (lv_at hl 0 rfl) ?_
        refine va_get (D := D) (ci := 6) (v := .ref ((ad 7) 0)) (C := RX6) (T := TX6) (N := 8) hx hb hts inw_X6_token_6 hown hK hP 0 rfl rfl 7 (by decide) (hts (.fieldLink RX6 54 "RingGames" "walk" "LRingGames$Walk;") (List.mem_of_getElem? (i := 4) rfl)) (fun _ h9 => h9) rfl dX6_token_40 ?_
        refine lv_aload_n hx hb dX6_token_43 rfl (lv_at hl 0 rfl) ?_
        refine va_get (D := D) (ci := 6) (v := .ref ((ad 1) 0)) (C := RX6) (T := TX6) (N := 8) hx hb hts inw_X6_token_6 hown hK hP 0 rfl rfl 0 (by decide) (hts (.fieldLink RX6 12 "RingGames" "now" "LRingGames$State;") (List.mem_of_getElem? (i := 1) rfl)) (fun _ h9 => h9) rfl dX6_token_44 ?_
        refine va_get (D := D) (ci := 4) (v := .int now.2.2.1) (C := RX4) (T := TX4) (N := 4) hx hb hts inw_X6_token_4 hown hK hP 1 rfl rfl 2 (by decide) (hts (.fieldLink RX6 141 "RingGames$State" "tokenAt" "I") (List.mem_of_getElem? (i := 3) rfl)) (fun _ h9 => h9) rfl dX6_token_47 ?_
        obtain ⟨q6, hq6, hf⟩ := ob_some hf
        refine xcVv (w' := ((w_X ad cI cC cS now hist snap has text q5.1 q5.2.1 q6) ++ R)) S hK hN hA hP hD hS (c_X5_follow l D cI cC cS ((xr 50 [48, 49]).filterMap (fun i => (w_X ad cI cC cS now hist snap has text q5.1 q5.2.1 q5.2.2)[i]?) ++ R) (ad 7) q5.2.2 now.2.2.1 n _ hq6) gX6_token_X5_follow rfl hd_X5_follow ⟨by decide, by decide⟩ (x_cut (pre := (w_X ad cI cC cS now hist snap has text q5.1 q5.2.1 q5.2.2)) [48, 49] 50 rfl (by decide +kernel) rfl) (x_back (pre := (w_X ad cI cC cS now hist snap has text q5.1 q5.2.1 q5.2.2)) [48, 49] 50 rfl (by decide +kernel) rfl rfl) (ci := 5) (q := (RX5, TX5, 4)) rfl rfl rfl rfl hl.1 rfl (Nat.le_of_ble_eq_true rfl) dX6_token_50 ⟨Nat.zero_le _, Nat.zero_le _⟩ (fun H locs hP hD hS => ?_)
        refine lv_iload_n hx hb dX6_token_53 rfl (lv_at hl 1 rfl) ?_
        by_cases c7_0 : p1 = 0
        · have hf := if_t hf c7_0
          refine lv_tableIn (tgt := 84) hx hb dX6_token_54 (by rw [c7_0]; decide) (by rw [c7_0]; decide) (by rw [c7_0]; rfl) (by decide) ?_
          refine lv_aload_n hx hb dX6_token_84 rfl (lv_at hl 0 rfl) ?_
          refine va_get (D := D) (ci := 6) (v := .ref ((ad 1) 0)) (C := RX6) (T := TX6) (N := 8) hx hb hts inw_X6_token_6 hown hK hP 0 rfl rfl 0 (by decide) (hts (.fieldLink RX6 12 "RingGames" "now" "LRingGames$State;") (List.mem_of_getElem? (i := 1) rfl)) (fun _ h9 => h9) rfl dX6_token_85 ?_
          refine va_get (D := D) (ci := 4) (v := .int now.2.2.1) (C := RX4) (T := TX4) (N := 4) hx hb hts inw_X6_token_4 hown hK hP 1 rfl rfl 2 (by decide) (hts (.fieldLink RX6 141 "RingGames$State" "tokenAt" "I") (List.mem_of_getElem? (i := 3) rfl)) (fun _ h9 => h9) rfl dX6_token_88 ?_
          have hf := Option.some.inj hf
          subst hf
          exact hret _ _ _ _ _ dX6_token_91 rfl hP hD hS rfl
        have hf := if_f hf c7_0
        by_cases c7_1 : p1 = 1
        · have hf := if_t hf c7_1
          refine lv_tableIn (tgt := 92) hx hb dX6_token_54 (by rw [c7_1]; decide) (by rw [c7_1]; decide) (by rw [c7_1]; rfl) (by decide) ?_
          refine lv_aload_n hx hb dX6_token_92 rfl (lv_at hl 0 rfl) ?_
          refine va_get (D := D) (ci := 6) (v := .ref ((ad 7) 0)) (C := RX6) (T := TX6) (N := 8) hx hb hts inw_X6_token_6 hown hK hP 0 rfl rfl 7 (by decide) (hts (.fieldLink RX6 54 "RingGames" "walk" "LRingGames$Walk;") (List.mem_of_getElem? (i := 4) rfl)) (fun _ h9 => h9) rfl dX6_token_93 ?_
          refine va_get (D := D) (ci := 5) (v := .int q6.2.2.1) (C := RX5) (T := TX5) (N := 4) hx hb hts inw_X6_token_5 hown hK hP 48 rfl rfl 2 (by decide) (hts (.fieldLink RX6 231 "RingGames$Walk" "endless" "Z") (List.mem_of_getElem? (i := 5) rfl)) (fun _ h9 => h9) rfl dX6_token_96 ?_
          refine lv_if_eq (tgt := 107) hx hb dX6_token_99 (by decide) (fun c8 => ?_) (fun c8 => ?_)
          · have hf := if_t hf c8
            refine lv_aload_n hx hb dX6_token_107 rfl (lv_at hl 0 rfl) ?_
            refine va_get (D := D) (ci := 6) (v := .ref ((ad 7) 0)) (C := RX6) (T := TX6) (N := 8) hx hb hts inw_X6_token_6 hown hK hP 0 rfl rfl 7 (by decide) (hts (.fieldLink RX6 54 "RingGames" "walk" "LRingGames$Walk;") (List.mem_of_getElem? (i := 4) rfl)) (fun _ h9 => h9) rfl dX6_token_108 ?_
            refine va_get (D := D) (ci := 5) (v := .int q6.2.1) (C := RX5) (T := TX5) (N := 4) hx hb hts inw_X6_token_5 hown hK hP 48 rfl rfl 1 (by decide) (hts (.fieldLink RX6 234 "RingGames$Walk" "steps" "I") (List.mem_of_getElem? (i := 6) rfl)) (fun _ h9 => h9) rfl dX6_token_111 ?_
            have hf := Option.some.inj hf
            subst hf
            exact hret _ _ _ _ _ dX6_token_114 rfl hP hD hS rfl
          · have hf := if_f hf c8
            refine lv_bipush (v := (-5)) hx hb dX6_token_102 (by decide) ?_
            refine lv_goto (tgt := 114) hx hb dX6_token_104 (by decide) ?_
            have hf := Option.some.inj hf
            subst hf
            exact hret _ _ _ _ _ dX6_token_114 rfl hP hD hS rfl
        have hf := if_f hf c7_1
        by_cases c7_2 : p1 = 2
        · have hf := if_t hf c7_2
          refine lv_tableIn (tgt := 115) hx hb dX6_token_54 (by rw [c7_2]; decide) (by rw [c7_2]; decide) (by rw [c7_2]; rfl) (by decide) ?_
          refine lv_aload_n hx hb dX6_token_115 rfl (lv_at hl 0 rfl) ?_
          refine va_get (D := D) (ci := 6) (v := .ref ((ad 7) 0)) (C := RX6) (T := TX6) (N := 8) hx hb hts inw_X6_token_6 hown hK hP 0 rfl rfl 7 (by decide) (hts (.fieldLink RX6 54 "RingGames" "walk" "LRingGames$Walk;") (List.mem_of_getElem? (i := 4) rfl)) (fun _ h9 => h9) rfl dX6_token_116 ?_
          refine va_get (D := D) (ci := 5) (v := .int q6.2.2.1) (C := RX5) (T := TX5) (N := 4) hx hb hts inw_X6_token_5 hown hK hP 48 rfl rfl 2 (by decide) (hts (.fieldLink RX6 231 "RingGames$Walk" "endless" "Z") (List.mem_of_getElem? (i := 5) rfl)) (fun _ h9 => h9) rfl dX6_token_119 ?_
          refine lv_if_eq (tgt := 142) hx hb dX6_token_122 (by decide) (fun c9 => ?_) (fun c9 => ?_)
          · have hf := if_t hf c9
            refine lv_bipush (v := (-5)) hx hb dX6_token_142 (by decide) ?_
            have hf := Option.some.inj hf
            subst hf
            exact hret _ _ _ _ _ dX6_token_144 rfl hP hD hS rfl
          · have hf := if_f hf c9
            refine lv_aload_n hx hb dX6_token_125 rfl (lv_at hl 0 rfl) ?_
            refine va_get (D := D) (ci := 6) (v := .ref ((ad 7) 0)) (C := RX6) (T := TX6) (N := 8) hx hb hts inw_X6_token_6 hown hK hP 0 rfl rfl 7 (by decide) (hts (.fieldLink RX6 54 "RingGames" "walk" "LRingGames$Walk;") (List.mem_of_getElem? (i := 4) rfl)) (fun _ h9 => h9) rfl dX6_token_126 ?_
            refine lv_aload_n hx hb dX6_token_129 rfl (lv_at hl 0 rfl) ?_
            refine va_get (D := D) (ci := 6) (v := .ref ((ad 1) 0)) (C := RX6) (T := TX6) (N := 8) hx hb hts inw_X6_token_6 hown hK hP 0 rfl rfl 0 (by decide) (hts (.fieldLink RX6 12 "RingGames" "now" "LRingGames$State;") (List.mem_of_getElem? (i := 1) rfl)) (fun _ h9 => h9) rfl dX6_token_130 ?_
            refine va_get (D := D) (ci := 4) (v := .ref ((ad 1) 2)) (C := RX4) (T := TX4) (N := 4) hx hb hts inw_X6_token_4 hown hK hP 1 rfl rfl 0 (by decide) (hts (.fieldLink RX6 65 "RingGames$State" "game" "LRingGames$Game;") (List.mem_of_getElem? (i := 2) rfl)) (fun _ h9 => h9) rfl dX6_token_133 ?_
            obtain ⟨q10, hq10, hf⟩ := ob_some hf
            refine xcVi (w' := ((w_X ad cI cC cS now hist snap has text q5.1 q5.2.1 q6) ++ R)) S hK hN hA hP hD hS (c_X5_leastColourAgain l D cI cC cS ((xr 50 [48, 49, 3, 4, 5, 6]).filterMap (fun i => (w_X ad cI cC cS now hist snap has text q5.1 q5.2.1 q6)[i]?) ++ R) (ad 7) (fun k => (ad 1) (k + 2)) q6 now.1 n _ hq10) gX6_token_X5_leastColourAgain rfl hd_X5_leastColourAgain ⟨by decide, by decide⟩ (x_cut (pre := (w_X ad cI cC cS now hist snap has text q5.1 q5.2.1 q6)) [48, 49, 3, 4, 5, 6] 50 rfl (by decide +kernel) rfl) (x_cut (pre := (w_X ad cI cC cS now hist snap has text q5.1 q5.2.1 q6)) [48, 49, 3, 4, 5, 6] 50 rfl (by decide +kernel) rfl).symm (ci := 5) (q := (RX5, TX5, 4)) rfl rfl rfl rfl hl.1 rfl (Nat.le_of_ble_eq_true rfl) dX6_token_136 ⟨Nat.zero_le _, Nat.zero_le _⟩ (fun H locs hP hD hS => ?_)
            refine lv_goto (tgt := 144) hx hb dX6_token_139 (by decide) ?_
            have hf := Option.some.inj hf
            subst hf
            exact hret _ _ _ _ _ dX6_token_144 rfl hP hD hS rfl
        have hf := if_f hf c7_2
        by_cases c7_3 : p1 = 3
        · have hf := if_t hf c7_3
          refine lv_tableIn (tgt := 145) hx hb dX6_token_54 (by rw [c7_3]; decide) (by rw [c7_3]; decide) (by rw [c7_3]; rfl) (by decide) ?_
          refine lv_aload_n hx hb dX6_token_145 rfl (lv_at hl 0 rfl) ?_
          refine va_get (D := D) (ci := 6) (v := .ref ((ad 7) 0)) (C := RX6) (T := TX6) (N := 8) hx hb hts inw_X6_token_6 hown hK hP 0 rfl rfl 7 (by decide) (hts (.fieldLink RX6 54 "RingGames" "walk" "LRingGames$Walk;") (List.mem_of_getElem? (i := 4) rfl)) (fun _ h9 => h9) rfl dX6_token_146 ?_
          refine va_get (D := D) (ci := 5) (v := .int q6.2.2.1) (C := RX5) (T := TX5) (N := 4) hx hb hts inw_X6_token_5 hown hK hP 48 rfl rfl 2 (by decide) (hts (.fieldLink RX6 231 "RingGames$Walk" "endless" "Z") (List.mem_of_getElem? (i := 5) rfl)) (fun _ h9 => h9) rfl dX6_token_149 ?_
          refine lv_if_eq (tgt := 165) hx hb dX6_token_152 (by decide) (fun c11 => ?_) (fun c11 => ?_)
          · have hf := if_t hf c11
            refine lv_bipush (v := (-5)) hx hb dX6_token_165 (by decide) ?_
            have hf := Option.some.inj hf
            subst hf
            exact hret _ _ _ _ _ dX6_token_167 rfl hP hD hS rfl
          · have hf := if_f hf c11
            refine lv_aload_n hx hb dX6_token_155 rfl (lv_at hl 0 rfl) ?_
            refine va_get (D := D) (ci := 6) (v := .ref ((ad 7) 0)) (C := RX6) (T := TX6) (N := 8) hx hb hts inw_X6_token_6 hown hK hP 0 rfl rfl 7 (by decide) (hts (.fieldLink RX6 54 "RingGames" "walk" "LRingGames$Walk;") (List.mem_of_getElem? (i := 4) rfl)) (fun _ h9 => h9) rfl dX6_token_156 ?_
            refine va_get (D := D) (ci := 5) (v := .int q6.2.1) (C := RX5) (T := TX5) (N := 4) hx hb hts inw_X6_token_5 hown hK hP 48 rfl rfl 1 (by decide) (hts (.fieldLink RX6 234 "RingGames$Walk" "steps" "I") (List.mem_of_getElem? (i := 6) rfl)) (fun _ h9 => h9) rfl dX6_token_159 ?_
            refine lv_goto (tgt := 167) hx hb dX6_token_162 (by decide) ?_
            have hf := Option.some.inj hf
            subst hf
            exact hret _ _ _ _ _ dX6_token_167 rfl hP hD hS rfl
        have hf := if_f hf c7_3
        have ec7_0 : (p1).toInt ≠ 0 := x_ne (k := 0) c7_0
        have ec7_1 : (p1).toInt ≠ 1 := x_ne (k := 1) c7_1
        have ec7_2 : (p1).toInt ≠ 2 := x_ne (k := 2) c7_2
        have ec7_3 : (p1).toInt ≠ 3 := x_ne (k := 3) c7_3
        refine lv_tableOut (tgt := 168) hx hb dX6_token_54 (by omega) (by decide) ?_
        refine lv_aload_n hx hb dX6_token_168 rfl (lv_at hl 0 rfl) ?_
        refine va_get (D := D) (ci := 6) (v := .ref ((ad 7) 0)) (C := RX6) (T := TX6) (N := 8) hx hb hts inw_X6_token_6 hown hK hP 0 rfl rfl 7 (by decide) (hts (.fieldLink RX6 54 "RingGames" "walk" "LRingGames$Walk;") (List.mem_of_getElem? (i := 4) rfl)) (fun _ h9 => h9) rfl dX6_token_169 ?_
        refine lv_aload_n hx hb dX6_token_172 rfl (lv_at hl 0 rfl) ?_
        refine va_get (D := D) (ci := 6) (v := .ref ((ad 1) 0)) (C := RX6) (T := TX6) (N := 8) hx hb hts inw_X6_token_6 hown hK hP 0 rfl rfl 0 (by decide) (hts (.fieldLink RX6 12 "RingGames" "now" "LRingGames$State;") (List.mem_of_getElem? (i := 1) rfl)) (fun _ h9 => h9) rfl dX6_token_173 ?_
        refine va_get (D := D) (ci := 4) (v := .ref ((ad 1) 2)) (C := RX4) (T := TX4) (N := 4) hx hb hts inw_X6_token_4 hown hK hP 1 rfl rfl 0 (by decide) (hts (.fieldLink RX6 65 "RingGames$State" "game" "LRingGames$Game;") (List.mem_of_getElem? (i := 2) rfl)) (fun _ h9 => h9) rfl dX6_token_176 ?_
        obtain ⟨q12, hq12, hf⟩ := ob_some hf
        refine xcVi (w' := ((w_X ad cI cC cS now hist snap has text q5.1 q5.2.1 q6) ++ R)) S hK hN hA hP hD hS (c_X5_winner l D cI cC cS ((xr 50 [48, 49, 3, 4, 5, 6]).filterMap (fun i => (w_X ad cI cC cS now hist snap has text q5.1 q5.2.1 q6)[i]?) ++ R) (ad 7) (fun k => (ad 1) (k + 2)) q6 now.1 n _ hq12) gX6_token_X5_winner rfl hd_X5_winner ⟨by decide, by decide⟩ (x_cut (pre := (w_X ad cI cC cS now hist snap has text q5.1 q5.2.1 q6)) [48, 49, 3, 4, 5, 6] 50 rfl (by decide +kernel) rfl) (x_cut (pre := (w_X ad cI cC cS now hist snap has text q5.1 q5.2.1 q6)) [48, 49, 3, 4, 5, 6] 50 rfl (by decide +kernel) rfl).symm (ci := 5) (q := (RX5, TX5, 4)) rfl rfl rfl rfl hl.1 rfl (Nat.le_of_ble_eq_true rfl) dX6_token_179 ⟨Nat.zero_le _, Nat.zero_le _⟩ (fun H locs hP hD hS => ?_)
        have hf := Option.some.inj hf
        subst hf
        exact hret _ _ _ _ _ dX6_token_182 rfl hP hD hS rfl
      · have hf := if_t hf c4
        refine lv_bipush (v := (-4)) hx hb dX6_token_32 (by decide) ?_
        have hf := Option.some.inj hf
        subst hf
        exact hret _ _ _ _ _ dX6_token_34 rfl hP hD hS rfl
    · have hf := if_f hf c2
      refine lv_bipush (v := (-2)) hx hb dX6_token_9 (by decide) ?_
      have hf := Option.some.inj hf
      subst hf
      exact hret _ _ _ _ _ dX6_token_11 rfl hP hD hS rfl
def f_X6_count (n : Nat) (now : SS) (hist : HH) (text : TT) (p1 : Int32) : Option Int32 := (if p1 = 0 then some (now.1.1) else (if p1 = 1 then (f_X1_arrowCount n now.1).bind fun q2 => some (q2) else (if p1 = 2 then (f_X1_owned n now.1 0).bind fun q3 => (f_J6_bitCount_0f7a4 q3).bind fun q4 => some (q4) else (if p1 = 3 then (f_X1_withoutArrows n now.1).bind fun q5 => some (q5) else (if p1 = 4 then (f_X1_leastColour n now.1).bind fun q6 => some (q6) else (if p1 = 5 then (f_X4_choiceCount n now).bind fun q7 => some (q7) else (if p1 = 6 then some (now.2.2.2) else (if p1 = 7 then some (hist.2) else (if p1 = 8 then some (text.2) else some ((-2)))))))))))
theorem inw_X6_count_0 : ∀ w ∈ wsX00, w ∈ wsX6_count := fun _ h => List.mem_cons_of_mem _ (List.mem_append_right _ h)
theorem inw_X6_count_1 : ∀ w ∈ wsX10, w ∈ wsX6_count := fun _ h => List.mem_cons_of_mem _ (List.mem_append_left _ (List.mem_append_left _ (List.mem_append_right _ h)))
theorem inw_X6_count_2 : ∀ w ∈ wsX20, w ∈ wsX6_count := fun _ h => List.mem_cons_of_mem _ (List.mem_append_left _ (List.mem_append_right _ h))
theorem inw_X6_count_4 : ∀ w ∈ wsX40, w ∈ wsX6_count := fun _ h => List.mem_cons_of_mem _ (List.mem_append_left _ (List.mem_append_left _ (List.mem_append_left _ (List.mem_append_right _ h))))
theorem inw_X6_count_6 : ∀ w ∈ wsX60, w ∈ wsX6_count := fun _ h => List.mem_cons_of_mem _ (List.mem_append_left _ (List.mem_append_left _ (List.mem_append_left _ (List.mem_append_left _ (List.mem_append_right _ h)))))
theorem hd_X6_count : yX6_count.cls = RX6 ∧ yX6_count.cls ≠ "java/lang/invoke/MethodHandle" ∧ yX6_count.cls ≠ "java/lang/invoke/VarHandle" ∧ (parseMethodDescriptor yX6_count.desc).map (fun d => d.parameters.length) = some 1 := by decide +kernel
set_option maxHeartbeats 4000000 in
set_option maxRecDepth 100000 in
theorem c_X6_count (l : Launch) (D : va_G) (cI cC cS : ClassId) (R : va_W) (ad : Nat → Nat → Nat) (now : SS) (hist : HH) (snap : SS) (has : Int32) (text : TT) (trial : GG) (meas : EE) (walk : KK) (p1 : Int32) (n : Nat) (r : Int32) (hf : f_X6_count n now hist text p1 = some r) : CI l yX6_count wsX6_count 2 43 D cI cC cS [.ref (ad 0 0), .int p1] ((w_X ad cI cC cS now hist snap has text trial meas walk) ++ R) r ((w_X ad cI cC cS now hist snap has text trial meas walk) ++ R) := by
  refine XI.of (cc := cX6_count) (maxL := 2) (ty := .int) (own := RX6) (by decide) rfl rfl (Nat.le_of_ble_eq_true rfl) ?_
  intro p e s m args below meth c A Q S hK hN hA hP hD hS ls hl hret
  obtain ⟨hx, hb, hml, hown, hts⟩ := id S
  have hl : lv_has ls 2 [(0, .ref (ad 0 0)), (1, .int p1)] := hl
  unfold f_X6_count at hf
  refine lv_iload_n hx hb dX6_count_0 rfl (lv_at hl 1 rfl) ?_
  by_cases c1_0 : p1 = 0
  · have hf := if_t hf c1_0
    refine lv_tableIn (tgt := 52) hx hb dX6_count_1 (by rw [c1_0]; decide) (by rw [c1_0]; decide) (by rw [c1_0]; rfl) (by decide) ?_
    refine lv_aload_n hx hb dX6_count_52 rfl (lv_at hl 0 rfl) ?_
    refine va_get (D := D) (ci := 6) (v := .ref ((ad 1) 0)) (C := RX6) (T := TX6) (N := 8) hx hb hts inw_X6_count_6 hown hK hP 0 rfl rfl 0 (by decide) (hts (.fieldLink RX6 12 "RingGames" "now" "LRingGames$State;") (List.mem_of_getElem? (i := 1) rfl)) (fun _ h9 => h9) rfl dX6_count_53 ?_
    refine va_get (D := D) (ci := 4) (v := .ref ((ad 1) 2)) (C := RX4) (T := TX4) (N := 4) hx hb hts inw_X6_count_4 hown hK hP 1 rfl rfl 0 (by decide) (hts (.fieldLink RX6 65 "RingGames$State" "game" "LRingGames$Game;") (List.mem_of_getElem? (i := 2) rfl)) (fun _ h9 => h9) rfl dX6_count_56 ?_
    refine va_get (D := D) (ci := 1) (v := .int now.1.1) (C := RX1) (T := TX1) (N := 4) hx hb hts inw_X6_count_1 hown hK hP 3 rfl rfl 0 (by decide) (hts (.fieldLink RX6 68 "RingGames$Game" "size" "I") (List.mem_of_getElem? (i := 3) rfl)) (fun _ h9 => h9) rfl dX6_count_59 ?_
    have hf := Option.some.inj hf
    subst hf
    exact hret _ _ _ _ _ dX6_count_62 rfl hP hD hS rfl
  have hf := if_f hf c1_0
  by_cases c1_1 : p1 = 1
  · have hf := if_t hf c1_1
    refine lv_tableIn (tgt := 63) hx hb dX6_count_1 (by rw [c1_1]; decide) (by rw [c1_1]; decide) (by rw [c1_1]; rfl) (by decide) ?_
    refine lv_aload_n hx hb dX6_count_63 rfl (lv_at hl 0 rfl) ?_
    refine va_get (D := D) (ci := 6) (v := .ref ((ad 1) 0)) (C := RX6) (T := TX6) (N := 8) hx hb hts inw_X6_count_6 hown hK hP 0 rfl rfl 0 (by decide) (hts (.fieldLink RX6 12 "RingGames" "now" "LRingGames$State;") (List.mem_of_getElem? (i := 1) rfl)) (fun _ h9 => h9) rfl dX6_count_64 ?_
    refine va_get (D := D) (ci := 4) (v := .ref ((ad 1) 2)) (C := RX4) (T := TX4) (N := 4) hx hb hts inw_X6_count_4 hown hK hP 1 rfl rfl 0 (by decide) (hts (.fieldLink RX6 65 "RingGames$State" "game" "LRingGames$Game;") (List.mem_of_getElem? (i := 2) rfl)) (fun _ h9 => h9) rfl dX6_count_67 ?_
    obtain ⟨q2, hq2, hf⟩ := ob_some hf
    refine xcVi (w' := ((w_X ad cI cC cS now hist snap has text trial meas walk) ++ R)) S hK hN hA hP hD hS (c_X1_arrowCount l D cI cC cS ((xr 50 [3, 4, 5, 6]).filterMap (fun i => (w_X ad cI cC cS now hist snap has text trial meas walk)[i]?) ++ R) (fun k => (ad 1) (k + 2)) now.1 n _ hq2) gX6_count_X1_arrowCount rfl hd_X1_arrowCount ⟨by decide, by decide⟩ (x_cut (pre := (w_X ad cI cC cS now hist snap has text trial meas walk)) [3, 4, 5, 6] 50 rfl (by decide +kernel) rfl) (x_cut (pre := (w_X ad cI cC cS now hist snap has text trial meas walk)) [3, 4, 5, 6] 50 rfl (by decide +kernel) rfl).symm (ci := 1) (q := (RX1, TX1, 4)) rfl rfl rfl rfl hl.1 rfl (Nat.le_of_ble_eq_true rfl) dX6_count_70 ⟨Nat.zero_le _, Nat.zero_le _⟩ (fun H locs hP hD hS => ?_)
    have hf := Option.some.inj hf
    subst hf
    exact hret _ _ _ _ _ dX6_count_73 rfl hP hD hS rfl
  have hf := if_f hf c1_1
  by_cases c1_2 : p1 = 2
  · have hf := if_t hf c1_2
    refine lv_tableIn (tgt := 74) hx hb dX6_count_1 (by rw [c1_2]; decide) (by rw [c1_2]; decide) (by rw [c1_2]; rfl) (by decide) ?_
    refine lv_aload_n hx hb dX6_count_74 rfl (lv_at hl 0 rfl) ?_
    refine va_get (D := D) (ci := 6) (v := .ref ((ad 1) 0)) (C := RX6) (T := TX6) (N := 8) hx hb hts inw_X6_count_6 hown hK hP 0 rfl rfl 0 (by decide) (hts (.fieldLink RX6 12 "RingGames" "now" "LRingGames$State;") (List.mem_of_getElem? (i := 1) rfl)) (fun _ h9 => h9) rfl dX6_count_75 ?_
    refine va_get (D := D) (ci := 4) (v := .ref ((ad 1) 2)) (C := RX4) (T := TX4) (N := 4) hx hb hts inw_X6_count_4 hown hK hP 1 rfl rfl 0 (by decide) (hts (.fieldLink RX6 65 "RingGames$State" "game" "LRingGames$Game;") (List.mem_of_getElem? (i := 2) rfl)) (fun _ h9 => h9) rfl dX6_count_78 ?_
    refine lv_iconst (v := 0) hx hb dX6_count_81 (by decide) ?_
    obtain ⟨q3, hq3, hf⟩ := ob_some hf
    refine xcVi (w' := ((w_X ad cI cC cS now hist snap has text trial meas walk) ++ R)) S hK hN hA hP hD hS (c_X1_owned l D cI cC cS ((xr 50 [3, 4, 5, 6]).filterMap (fun i => (w_X ad cI cC cS now hist snap has text trial meas walk)[i]?) ++ R) (fun k => (ad 1) (k + 2)) now.1 0 n _ hq3) gX6_count_X1_owned rfl hd_X1_owned ⟨by decide, by decide⟩ (x_cut (pre := (w_X ad cI cC cS now hist snap has text trial meas walk)) [3, 4, 5, 6] 50 rfl (by decide +kernel) rfl) (x_cut (pre := (w_X ad cI cC cS now hist snap has text trial meas walk)) [3, 4, 5, 6] 50 rfl (by decide +kernel) rfl).symm (ci := 1) (q := (RX1, TX1, 4)) rfl rfl rfl rfl hl.1 rfl (Nat.le_of_ble_eq_true rfl) dX6_count_82 ⟨Nat.zero_le _, Nat.zero_le _⟩ (fun H locs hP hD hS => ?_)
    obtain ⟨q4, hq4, hf⟩ := ob_some hf
    refine xcSi S hK hN hA hP hD hS (c_J6_bitCount_0f7a4 l D cI cC cS ((w_X ad cI cC cS now hist snap has text trial meas walk) ++ R) q3 _ hq4) gX6_count_J6_bitCount_0f7a4 rfl hd_J6_bitCount_0f7a4 ⟨by decide, by decide⟩ rfl hl.1 rfl (Nat.le_of_ble_eq_true rfl) dX6_count_85 ⟨Nat.zero_le _, Nat.zero_le _⟩ (fun H locs hP hD hS => ?_)
    have hf := Option.some.inj hf
    subst hf
    exact hret _ _ _ _ _ dX6_count_88 rfl hP hD hS rfl
  have hf := if_f hf c1_2
  by_cases c1_3 : p1 = 3
  · have hf := if_t hf c1_3
    refine lv_tableIn (tgt := 89) hx hb dX6_count_1 (by rw [c1_3]; decide) (by rw [c1_3]; decide) (by rw [c1_3]; rfl) (by decide) ?_
    refine lv_aload_n hx hb dX6_count_89 rfl (lv_at hl 0 rfl) ?_
    refine va_get (D := D) (ci := 6) (v := .ref ((ad 1) 0)) (C := RX6) (T := TX6) (N := 8) hx hb hts inw_X6_count_6 hown hK hP 0 rfl rfl 0 (by decide) (hts (.fieldLink RX6 12 "RingGames" "now" "LRingGames$State;") (List.mem_of_getElem? (i := 1) rfl)) (fun _ h9 => h9) rfl dX6_count_90 ?_
    refine va_get (D := D) (ci := 4) (v := .ref ((ad 1) 2)) (C := RX4) (T := TX4) (N := 4) hx hb hts inw_X6_count_4 hown hK hP 1 rfl rfl 0 (by decide) (hts (.fieldLink RX6 65 "RingGames$State" "game" "LRingGames$Game;") (List.mem_of_getElem? (i := 2) rfl)) (fun _ h9 => h9) rfl dX6_count_93 ?_
    obtain ⟨q5, hq5, hf⟩ := ob_some hf
    refine xcVi (w' := ((w_X ad cI cC cS now hist snap has text trial meas walk) ++ R)) S hK hN hA hP hD hS (c_X1_withoutArrows l D cI cC cS ((xr 50 [3, 4, 5, 6]).filterMap (fun i => (w_X ad cI cC cS now hist snap has text trial meas walk)[i]?) ++ R) (fun k => (ad 1) (k + 2)) now.1 n _ hq5) gX6_count_X1_withoutArrows rfl hd_X1_withoutArrows ⟨by decide, by decide⟩ (x_cut (pre := (w_X ad cI cC cS now hist snap has text trial meas walk)) [3, 4, 5, 6] 50 rfl (by decide +kernel) rfl) (x_cut (pre := (w_X ad cI cC cS now hist snap has text trial meas walk)) [3, 4, 5, 6] 50 rfl (by decide +kernel) rfl).symm (ci := 1) (q := (RX1, TX1, 4)) rfl rfl rfl rfl hl.1 rfl (Nat.le_of_ble_eq_true rfl) dX6_count_96 ⟨Nat.zero_le _, Nat.zero_le _⟩ (fun H locs hP hD hS => ?_)
    have hf := Option.some.inj hf
    subst hf
    exact hret _ _ _ _ _ dX6_count_99 rfl hP hD hS rfl
  have hf := if_f hf c1_3
  by_cases c1_4 : p1 = 4
  · have hf := if_t hf c1_4
    refine lv_tableIn (tgt := 100) hx hb dX6_count_1 (by rw [c1_4]; decide) (by rw [c1_4]; decide) (by rw [c1_4]; rfl) (by decide) ?_
    refine lv_aload_n hx hb dX6_count_100 rfl (lv_at hl 0 rfl) ?_
    refine va_get (D := D) (ci := 6) (v := .ref ((ad 1) 0)) (C := RX6) (T := TX6) (N := 8) hx hb hts inw_X6_count_6 hown hK hP 0 rfl rfl 0 (by decide) (hts (.fieldLink RX6 12 "RingGames" "now" "LRingGames$State;") (List.mem_of_getElem? (i := 1) rfl)) (fun _ h9 => h9) rfl dX6_count_101 ?_
    refine va_get (D := D) (ci := 4) (v := .ref ((ad 1) 2)) (C := RX4) (T := TX4) (N := 4) hx hb hts inw_X6_count_4 hown hK hP 1 rfl rfl 0 (by decide) (hts (.fieldLink RX6 65 "RingGames$State" "game" "LRingGames$Game;") (List.mem_of_getElem? (i := 2) rfl)) (fun _ h9 => h9) rfl dX6_count_104 ?_
    obtain ⟨q6, hq6, hf⟩ := ob_some hf
    refine xcVi (w' := ((w_X ad cI cC cS now hist snap has text trial meas walk) ++ R)) S hK hN hA hP hD hS (c_X1_leastColour l D cI cC cS ((xr 50 [3, 4, 5, 6]).filterMap (fun i => (w_X ad cI cC cS now hist snap has text trial meas walk)[i]?) ++ R) (fun k => (ad 1) (k + 2)) now.1 n _ hq6) gX6_count_X1_leastColour rfl hd_X1_leastColour ⟨by decide, by decide⟩ (x_cut (pre := (w_X ad cI cC cS now hist snap has text trial meas walk)) [3, 4, 5, 6] 50 rfl (by decide +kernel) rfl) (x_cut (pre := (w_X ad cI cC cS now hist snap has text trial meas walk)) [3, 4, 5, 6] 50 rfl (by decide +kernel) rfl).symm (ci := 1) (q := (RX1, TX1, 4)) rfl rfl rfl rfl hl.1 rfl (Nat.le_of_ble_eq_true rfl) dX6_count_107 ⟨Nat.zero_le _, Nat.zero_le _⟩ (fun H locs hP hD hS => ?_)
    have hf := Option.some.inj hf
    subst hf
    exact hret _ _ _ _ _ dX6_count_110 rfl hP hD hS rfl
  have hf := if_f hf c1_4
  by_cases c1_5 : p1 = 5
  · have hf := if_t hf c1_5
    refine lv_tableIn (tgt := 111) hx hb dX6_count_1 (by rw [c1_5]; decide) (by rw [c1_5]; decide) (by rw [c1_5]; rfl) (by decide) ?_
    refine lv_aload_n hx hb dX6_count_111 rfl (lv_at hl 0 rfl) ?_
    refine va_get (D := D) (ci := 6) (v := .ref ((ad 1) 0)) (C := RX6) (T := TX6) (N := 8) hx hb hts inw_X6_count_6 hown hK hP 0 rfl rfl 0 (by decide) (hts (.fieldLink RX6 12 "RingGames" "now" "LRingGames$State;") (List.mem_of_getElem? (i := 1) rfl)) (fun _ h9 => h9) rfl dX6_count_112 ?_
    obtain ⟨q7, hq7, hf⟩ := ob_some hf
    refine xcVi (w' := ((w_X ad cI cC cS now hist snap has text trial meas walk) ++ R)) S hK hN hA hP hD hS (c_X4_choiceCount l D cI cC cS ((xr 50 [1, 2, 3, 4, 5, 6]).filterMap (fun i => (w_X ad cI cC cS now hist snap has text trial meas walk)[i]?) ++ R) (ad 1) now n _ hq7) gX6_count_X4_choiceCount rfl hd_X4_choiceCount ⟨by decide, by decide⟩ (x_cut (pre := (w_X ad cI cC cS now hist snap has text trial meas walk)) [1, 2, 3, 4, 5, 6] 50 rfl (by decide +kernel) rfl) (x_cut (pre := (w_X ad cI cC cS now hist snap has text trial meas walk)) [1, 2, 3, 4, 5, 6] 50 rfl (by decide +kernel) rfl).symm (ci := 4) (q := (RX4, TX4, 4)) rfl rfl rfl rfl hl.1 rfl (Nat.le_of_ble_eq_true rfl) dX6_count_115 ⟨Nat.zero_le _, Nat.zero_le _⟩ (fun H locs hP hD hS => ?_)
    have hf := Option.some.inj hf
    subst hf
    exact hret _ _ _ _ _ dX6_count_118 rfl hP hD hS rfl
  have hf := if_f hf c1_5
  by_cases c1_6 : p1 = 6
  · have hf := if_t hf c1_6
    refine lv_tableIn (tgt := 119) hx hb dX6_count_1 (by rw [c1_6]; decide) (by rw [c1_6]; decide) (by rw [c1_6]; rfl) (by decide) ?_
    refine lv_aload_n hx hb dX6_count_119 rfl (lv_at hl 0 rfl) ?_
    refine va_get (D := D) (ci := 6) (v := .ref ((ad 1) 0)) (C := RX6) (T := TX6) (N := 8) hx hb hts inw_X6_count_6 hown hK hP 0 rfl rfl 0 (by decide) (hts (.fieldLink RX6 12 "RingGames" "now" "LRingGames$State;") (List.mem_of_getElem? (i := 1) rfl)) (fun _ h9 => h9) rfl dX6_count_120 ?_
    refine va_get (D := D) (ci := 4) (v := .int now.2.2.2) (C := RX4) (T := TX4) (N := 4) hx hb hts inw_X6_count_4 hown hK hP 1 rfl rfl 3 (by decide) (hts (.fieldLink RX6 144 "RingGames$State" "tokenSteps" "I") (List.mem_of_getElem? (i := 4) rfl)) (fun _ h9 => h9) rfl dX6_count_123 ?_
    have hf := Option.some.inj hf
    subst hf
    exact hret _ _ _ _ _ dX6_count_126 rfl hP hD hS rfl
  have hf := if_f hf c1_6
  by_cases c1_7 : p1 = 7
  · have hf := if_t hf c1_7
    refine lv_tableIn (tgt := 127) hx hb dX6_count_1 (by rw [c1_7]; decide) (by rw [c1_7]; decide) (by rw [c1_7]; rfl) (by decide) ?_
    refine lv_aload_n hx hb dX6_count_127 rfl (lv_at hl 0 rfl) ?_
    refine va_get (D := D) (ci := 6) (v := .ref ((ad 2) 0)) (C := RX6) (T := TX6) (N := 8) hx hb hts inw_X6_count_6 hown hK hP 0 rfl rfl 1 (by decide) (hts (.fieldLink RX6 19 "RingGames" "history" "LRingGames$History;") (List.mem_of_getElem? (i := 5) rfl)) (fun _ h9 => h9) rfl dX6_count_128 ?_
    refine va_get (D := D) (ci := 2) (v := .int hist.2) (C := RX2) (T := TX2) (N := 2) hx hb hts inw_X6_count_2 hown hK hP 7 rfl rfl 1 (by decide) (hts (.fieldLink RX6 166 "RingGames$History" "count" "I") (List.mem_of_getElem? (i := 6) rfl)) (fun _ h9 => h9) rfl dX6_count_131 ?_
    have hf := Option.some.inj hf
    subst hf
    exact hret _ _ _ _ _ dX6_count_134 rfl hP hD hS rfl
  have hf := if_f hf c1_7
  by_cases c1_8 : p1 = 8
  · have hf := if_t hf c1_8
    refine lv_tableIn (tgt := 135) hx hb dX6_count_1 (by rw [c1_8]; decide) (by rw [c1_8]; decide) (by rw [c1_8]; rfl) (by decide) ?_
    refine lv_aload_n hx hb dX6_count_135 rfl (lv_at hl 0 rfl) ?_
    refine va_get (D := D) (ci := 6) (v := .ref ((ad 4) 0)) (C := RX6) (T := TX6) (N := 8) hx hb hts inw_X6_count_6 hown hK hP 0 rfl rfl 4 (by decide) (hts (.fieldLink RX6 33 "RingGames" "text" "LRingGames$ArrowText;") (List.mem_of_getElem? (i := 7) rfl)) (fun _ h9 => h9) rfl dX6_count_136 ?_
    refine va_get (D := D) (ci := 0) (v := .int text.2) (C := RX0) (T := TX0) (N := 2) hx hb hts inw_X6_count_0 hown hK hP 39 rfl rfl 1 (by decide) (hts (.fieldLink RX6 159 "RingGames$ArrowText" "length" "I") (List.mem_of_getElem? (i := 8) rfl)) (fun _ h9 => h9) rfl dX6_count_139 ?_
    have hf := Option.some.inj hf
    subst hf
    exact hret _ _ _ _ _ dX6_count_142 rfl hP hD hS rfl
  have hf := if_f hf c1_8
  have ec1_0 : (p1).toInt ≠ 0 := x_ne (k := 0) c1_0
  have ec1_1 : (p1).toInt ≠ 1 := x_ne (k := 1) c1_1
  have ec1_2 : (p1).toInt ≠ 2 := x_ne (k := 2) c1_2
  have ec1_3 : (p1).toInt ≠ 3 := x_ne (k := 3) c1_3
  have ec1_4 : (p1).toInt ≠ 4 := x_ne (k := 4) c1_4
  have ec1_5 : (p1).toInt ≠ 5 := x_ne (k := 5) c1_5
  have ec1_6 : (p1).toInt ≠ 6 := x_ne (k := 6) c1_6
  have ec1_7 : (p1).toInt ≠ 7 := x_ne (k := 7) c1_7
  have ec1_8 : (p1).toInt ≠ 8 := x_ne (k := 8) c1_8
  refine lv_tableOut (tgt := 143) hx hb dX6_count_1 (by omega) (by decide) ?_
  refine lv_bipush (v := (-2)) hx hb dX6_count_143 (by decide) ?_
  have hf := Option.some.inj hf
  subst hf
  exact hret _ _ _ _ _ dX6_count_145 rfl hP hD hS rfl
