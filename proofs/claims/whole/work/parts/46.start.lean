theorem nest_6_11 : Cond.methodLinkNest RX6 11 yX4_init RX6 ∈ lw_tbl := List.mem_append_right _ (List.mem_of_getElem? (i := 22) (by decide +kernel))
theorem nest_6_32 : Cond.methodLinkNest RX6 32 yX0_init RX6 ∈ lw_tbl := List.mem_append_right _ (List.mem_of_getElem? (i := 97) (by decide +kernel))
theorem nest_6_39 : Cond.methodLinkNest RX6 39 yX1_init RX6 ∈ lw_tbl := List.mem_append_right _ (List.mem_of_getElem? (i := 111) (by decide +kernel))
theorem nest_6_46 : Cond.methodLinkNest RX6 46 yX3_init RX6 ∈ lw_tbl := List.mem_append_right _ (List.mem_of_getElem? (i := 114) (by decide +kernel))
theorem nest_6_53 : Cond.methodLinkNest RX6 53 yX5_init RX6 ∈ lw_tbl := List.mem_append_right _ (List.mem_of_getElem? (i := 131) (by decide +kernel))
theorem nest_0_37 : Cond.methodLinkNest RX0 37 yX6_bit RX6 ∈ lw_tbl := List.mem_append_right _ (List.mem_of_getElem? (i := 313) (by decide +kernel))
theorem nest_1_31 : Cond.methodLinkNest RX1 31 yX6_bit RX6 ∈ lw_tbl := List.mem_append_right _ (List.mem_of_getElem? (i := 406) (by decide +kernel))
theorem nest_1_43 : Cond.methodLinkNest RX1 43 yX6_contains RX6 ∈ lw_tbl := List.mem_append_right _ (List.mem_of_getElem? (i := 288) (by decide +kernel))
theorem nest_2_17 : Cond.methodLinkNest RX2 17 yX4_init RX6 ∈ lw_tbl := List.mem_append_right _ (List.mem_of_getElem? (i := 86) (by decide +kernel))
theorem nest_3_46 : Cond.methodLinkNest RX3 46 yX6_contains RX6 ∈ lw_tbl := List.mem_append_right _ (List.mem_of_getElem? (i := 245) (by decide +kernel))
theorem nest_4_11 : Cond.methodLinkNest RX4 11 yX1_init RX6 ∈ lw_tbl := List.mem_append_right _ (List.mem_of_getElem? (i := 28) (by decide +kernel))
theorem nest_5_15 : Cond.methodLinkNest RX5 15 yX6_bit RX6 ∈ lw_tbl := List.mem_append_right _ (List.mem_of_getElem? (i := 538) (by decide +kernel))
theorem nest_5_33 : Cond.methodLinkNest RX5 33 yX6_contains RX6 ∈ lw_tbl := List.mem_append_right _ (List.mem_of_getElem? (i := 540) (by decide +kernel))
theorem tw_I : Cond.arrayClass .int ∈ lw_tbl := List.mem_append_right _ (List.mem_of_getElem? (i := 60) (by decide +kernel))
theorem tw_C : Cond.arrayClass .char ∈ lw_tbl := List.mem_append_right _ (List.mem_of_getElem? (i := 109) (by decide +kernel))
theorem tw_S : Cond.arrayOver (.object "RingGames$State") ∈ lw_tbl := List.mem_append_right _ (List.mem_of_getElem? (i := 85) (by decide +kernel))
theorem ti_0 : Cond.instantiable RX0 2 ∈ lw_tbl := List.mem_append_right _ (List.mem_of_getElem? (i := 96) (by decide +kernel))
theorem ti_1 : Cond.instantiable RX1 4 ∈ lw_tbl := List.mem_append_right _ (List.mem_of_getElem? (i := 27) (by decide +kernel))
theorem ti_2 : Cond.instantiable RX2 2 ∈ lw_tbl := List.mem_append_right _ (List.mem_of_getElem? (i := 79) (by decide +kernel))
theorem ti_3 : Cond.instantiable RX3 3 ∈ lw_tbl := List.mem_append_right _ (List.mem_of_getElem? (i := 113) (by decide +kernel))
theorem ti_4 : Cond.instantiable RX4 4 ∈ lw_tbl := List.mem_append_right _ (List.mem_of_getElem? (i := 21) (by decide +kernel))
theorem ti_5 : Cond.instantiable RX5 4 ∈ lw_tbl := List.mem_append_right _ (List.mem_of_getElem? (i := 130) (by decide +kernel))
theorem ti_6 : Cond.instantiable RX6 8 ∈ lw_tbl := List.mem_append_right _ (List.mem_of_getElem? (i := 13) (by decide +kernel))
theorem ti_7 : Cond.instantiable RX7 19 ∈ lw_tbl := List.mem_append_right _ (List.mem_of_getElem? (i := 565) (by decide +kernel))
theorem tz_6 : Cond.initialized RX6 ∈ lw_tbl := List.mem_append_right _ (List.mem_of_getElem? (i := 1) (by decide +kernel))
theorem tz_7 : Cond.initialized RX7 ∈ lw_tbl := List.mem_append_right _ (List.mem_of_getElem? (i := 8) (by decide +kernel))
theorem tl_7 : Cond.classLink RL 7 RX6 ∈ lw_tbl := List.mem_append_right _ (List.mem_of_getElem? (i := 12) (by decide +kernel))
theorem tl_10 : Cond.classLink RL 10 RX7 ∈ lw_tbl := List.mem_append_right _ (List.mem_of_getElem? (i := 564) (by decide +kernel))
theorem xN_of {s : State} {args : Array Value} (hts : ∀ w ∈ lw_tbl, w.before args s = true) : xN s := ⟨List.forall_mem_cons.mpr ⟨va_Nw.of rfl (hts _ nest_6_11), List.forall_mem_cons.mpr ⟨va_Nw.of rfl (hts _ nest_6_32), List.forall_mem_cons.mpr ⟨va_Nw.of rfl (hts _ nest_6_39), List.forall_mem_cons.mpr ⟨va_Nw.of rfl (hts _ nest_6_46), List.forall_mem_cons.mpr ⟨va_Nw.of rfl (hts _ nest_6_53), List.forall_mem_cons.mpr ⟨va_Nw.of rfl (hts _ nest_0_37), List.forall_mem_cons.mpr ⟨va_Nw.of rfl (hts _ nest_1_31), List.forall_mem_cons.mpr ⟨va_Nw.of rfl (hts _ nest_1_43), List.forall_mem_cons.mpr ⟨va_Nw.of rfl (hts _ nest_2_17), List.forall_mem_cons.mpr ⟨va_Nw.of rfl (hts _ nest_3_46), List.forall_mem_cons.mpr ⟨va_Nw.of rfl (hts _ nest_4_11), List.forall_mem_cons.mpr ⟨va_Nw.of rfl (hts _ nest_5_15), List.forall_mem_cons.mpr ⟨va_Nw.of rfl (hts _ nest_5_33), fun _ h => absurd h List.not_mem_nil⟩⟩⟩⟩⟩⟩⟩⟩⟩⟩⟩⟩⟩, va_AO.of (hts _ tw_S)⟩
theorem K_of {s : State} {args : Array Value} {D : va_G} (hts : ∀ w ∈ lw_tbl, w.before args s = true) (hKc : ∀ (k : Nat) (q : vw_C), vwCl[k]? = some q → u_Kn s q.1 q.2.1 q.2.2 (D.1 k) (D.2 k)) : ∃ cI cC cS, va_K D vwCl (xTy cI cC cS) s := by
  obtain ⟨cI, kI, oI, i1, i2, i3⟩ := Cond.arrayClass_spec (hts _ tw_I)
  obtain ⟨cC, kC, oC, c1, c2, c3⟩ := Cond.arrayClass_spec (hts _ tw_C)
  obtain ⟨comp, cS, kS, s1, s2, s3, s4, s5⟩ := Cond.arrayOver_spec (hts _ tw_S)
  refine ⟨cI, cC, cS, hKc, fun k q h => ?_⟩
  match k, h with
  | 0, h => cases h; exact ⟨fun n z => ⟨fun k h => (by cases h), kI, i2, oI, i3⟩, i1⟩
  | 1, h => cases h; exact ⟨fun n z => ⟨fun k h => (by cases h), kC, c2, oC, c3⟩, c1⟩
  | 2, h => cases h; exact ⟨fun n z => ⟨fun k h => (by cases h), kS, s3, comp, s4⟩, kS, comp, s3, s4, s1, s5⟩
  | k + 3, h => cases h
set_option maxHeartbeats 4000000 in
set_option maxRecDepth 100000 in
theorem whole_start_of {p : Program} {e : Env} {s : State} {m : MethodId} {below : List Frame} {meth : Method} {c : Code} (l : Launch) {b L : Nat} {xs : Nat → Int32} {n : Nat} {REL : XS → MS → Prop} (hsim : SIM n REL) (h0 : ∀ bl : Nat → Nat → Nat, REL (s0, (fun k => (s0, bl k), 0), s0, 0, t0, g0, e0, k0) ((upd (fun _ => 0) 57 (-1)), (fun _ => 0), 0, (fun _ => 0), 0, 0, (fun _ => 0), (fun _ => 0), (fun _ => 0), 0, 0, (fun _ => 0), 0, 0, (fun _ => 0), 0, (fun _ => 0), (fun _ => 0), (fun _ => 0))) (hL : L ≤ 2048) (C0 : lw_At p s m meth c b L xs) : W p l e room_1 s m #[Value.ref b] below meth c s.heap [] 0 0 (lw_Z below #[Value.ref b] s) (entryFrame m ([Value.ref b] : List Value).toArray 4) := by
  obtain ⟨hx, hb, hr, hml, hown, hts0, hX, hbl, hlocks, hgv⟩ := id C0
  have hA : ∀ q : Nat, s.heap.size ≤ q → (fun q : Nat => s.heap.size ≤ q) q := fun _ h => h
  have hts : ∀ w ∈ wsL_law, w.before #[Value.ref b] s = true := fun w h => hts0 w (wsL_law_in w h)
  have S : CallFix p m c cL_law 4 s #[Value.ref b] wsL_law RL := ⟨hx, hb, hml, hown, hts⟩
  obtain ⟨c0, iS0, hKn0⟩ := u_known (C := RX0) (T := TX0) (N := 2) (n := 2) hts0 inX0 (hts0 _ ti_0)
  obtain ⟨c1, iS1, hKn1⟩ := u_known (C := RX1) (T := TX1) (N := 4) (n := 4) hts0 inX1 (hts0 _ ti_1)
  obtain ⟨c2, iS2, hKn2⟩ := u_known (C := RX2) (T := TX2) (N := 2) (n := 2) hts0 inX2 (hts0 _ ti_2)
  obtain ⟨c3, iS3, hKn3⟩ := u_known (C := RX3) (T := TX3) (N := 3) (n := 3) hts0 inX3 (hts0 _ ti_3)
  obtain ⟨c4, iS4, hKn4⟩ := u_known (C := RX4) (T := TX4) (N := 4) (n := 4) hts0 inX4 (hts0 _ ti_4)
  obtain ⟨c5, iS5, hKn5⟩ := u_known (C := RX5) (T := TX5) (N := 4) (n := 4) hts0 inX5 (hts0 _ ti_5)
  obtain ⟨c6, iS6, hKn6⟩ := u_known (C := RX6) (T := TX6) (N := 8) (n := 8) hts0 inX6 (hts0 _ ti_6)
  obtain ⟨c7, iS7, hKn7⟩ := u_known (C := RX7) (T := TX7) (N := 19) (n := 19) hts0 inX7 (hts0 _ ti_7)
  obtain ⟨D, hKc⟩ : ∃ (D : va_G), ∀ (k : Nat) (q : vw_C), vwCl[k]? = some q → u_Kn s q.1 q.2.1 q.2.2 (D.1 k) (D.2 k) := by
    refine ⟨(fun k => if k = 0 then c0 else if k = 1 then c1 else if k = 2 then c2 else if k = 3 then c3 else if k = 4 then c4 else if k = 5 then c5 else if k = 6 then c6 else c7, fun k => if k = 0 then iS0 else if k = 1 then iS1 else if k = 2 then iS2 else if k = 3 then iS3 else if k = 4 then iS4 else if k = 5 then iS5 else if k = 6 then iS6 else iS7), ?_⟩
    intro k q hq
    match k, hq with
    | 0, hq => cases hq; exact hKn0
    | 1, hq => cases hq; exact hKn1
    | 2, hq => cases hq; exact hKn2
    | 3, hq => cases hq; exact hKn3
    | 4, hq => cases hq; exact hKn4
    | 5, hq => cases hq; exact hKn5
    | 6, hq => cases hq; exact hKn6
    | 7, hq => cases hq; exact hKn7
    | k + 8, hq => cases hq
  obtain ⟨cI, cC, cS, hK⟩ := K_of hts0 hKc
  have hN := xN_of hts0
  have hS : va_S (fun q : Nat => s.heap.size ≤ q) s.heap s.heap [] := va_S.rf
  have hP : va_P D vwCl ([] ++ []) s.heap := fun k q h => by cases h
  have hD : va_D (fun q : Nat => s.heap.size ≤ q) ([] ++ []) := ⟨fun i j p q h => (by cases h), fun k q h => (by cases h)⟩
  have hl := lv_entry ([.ref b]) (n := 4) (Nat.le_of_ble_eq_true rfl)
  rw [lg_entry_eq]
  generalize (lg_sl ([.ref b]) ++ List.replicate (4 - (lg_sl ([.ref b])).length) Slot.unset).toArray = ls at hl ⊢
  have hl : lv_has ls 4 [(0, .ref b)] := hl
  refine va_new (ci := 6) (fs := [.null, .null, .null, .int 0, .null, .null, .null, .null]) (C := RX6) (T := TX6) (N := 8) hx hb hts0 inX6 tyX6 tyX6_ok hown (hts0 _ tl_7) (hts0 _ ti_6) (hts0 _ tz_6) hK hP hD hS hA rfl (fun j hj => by rcases (show j = 0 ∨ j = 1 ∨ j = 2 ∨ j = 3 ∨ j = 4 ∨ j = 5 ∨ j = 6 ∨ j = 7 by omega) with rfl | rfl | rfl | rfl | rfl | rfl | rfl | rfl <;> rfl) (Nat.le_of_ble_eq_true rfl) (Nat.le_of_ble_eq_true rfl) dL_law_0 (fun q6 H hP hD hS => ?_)
  replace hP : va_P D vwCl ((([] : va_W) ++ [(q6, .inr (6, [.null, .null, .null, .int 0, .null, .null, .null, .null]))]) ++ []) H := xP_perm hP x_mv
  replace hD : va_D (fun q : Nat => s.heap.size ≤ q) ((([] : va_W) ++ [(q6, .inr (6, [.null, .null, .null, .int 0, .null, .null, .null, .null]))]) ++ []) := xD_perm hD x_mv
  refine lv_dup hx hb dL_law_3 rfl ?_
  have hP9 := hP
  have hD9 := hD
  have hS9 := hS
  clear hP hD hS
  refine xcI (w' := fun u6 => (([] : va_W) ++ (w_X u6.1 cI cC cS s0 (fun k => (s0, u6.2 k), 0) s0 0 t0 g0 e0 k0)) ++ []) S hK hN hA hP9 hD9 hS9 (c_X6_init l D cI cC cS (([] : va_W) ++ []) q6) gL_law_X6_init (List.mem_of_getElem? (i := 6) rfl) (List.mem_of_getElem? (i := 7) rfl) (List.mem_of_getElem? (i := 2) rfl) rfl rfl hd_X6_init ⟨by decide, by decide⟩ x_p1 (fun _ => x_p2) hl.1 rfl (Nat.le_of_ble_eq_true rfl) dL_law_4 ⟨Nat.le_of_ble_eq_true rfl, Nat.le_of_ble_eq_true rfl⟩ (fun u6 H locs hpost hP hD hS => ?_)
  clear hP9 hD9 hS9
  have hpost : u6.1 0 0 = q6 := hpost
  subst hpost
  refine lv_astore_n (lv' := [(1, .ref (u6.1 0 0)), (0, .ref b)]) hx hb dL_law_7 rfl hl (by decide) rfl (fun ls hl => ?_)
  refine va_new (ci := 7) (fs := [.null, .null, .int 0, .null, .int 0, .int 0, .null, .null, .null, .int 0, .int 0, .null, .int 0, .int 0, .null, .int 0, .null, .null, .null]) (C := RX7) (T := TX7) (N := 19) hx hb hts0 inX7 tyX7 tyX7_ok hown (hts0 _ tl_10) (hts0 _ ti_7) (hts0 _ tz_7) hK hP hD hS hA rfl (fun j hj => by rcases (show j = 0 ∨ j = 1 ∨ j = 2 ∨ j = 3 ∨ j = 4 ∨ j = 5 ∨ j = 6 ∨ j = 7 ∨ j = 8 ∨ j = 9 ∨ j = 10 ∨ j = 11 ∨ j = 12 ∨ j = 13 ∨ j = 14 ∨ j = 15 ∨ j = 16 ∨ j = 17 ∨ j = 18 by omega) with rfl | rfl | rfl | rfl | rfl | rfl | rfl | rfl | rfl | rfl | rfl | rfl | rfl | rfl | rfl | rfl | rfl | rfl | rfl <;> rfl) (Nat.le_of_ble_eq_true rfl) (Nat.le_of_ble_eq_true rfl) dL_law_8 (fun q7 H hP hD hS => ?_)
  replace hP : va_P D vwCl (((([] : va_W) ++ (w_X u6.1 cI cC cS s0 (fun k => (s0, u6.2 k), 0) s0 0 t0 g0 e0 k0)) ++ [(q7, .inr (7, [.null, .null, .int 0, .null, .int 0, .int 0, .null, .null, .null, .int 0, .int 0, .null, .int 0, .int 0, .null, .int 0, .null, .null, .null]))]) ++ []) H := xP_perm hP x_mv
  replace hD : va_D (fun q : Nat => s.heap.size ≤ q) (((([] : va_W) ++ (w_X u6.1 cI cC cS s0 (fun k => (s0, u6.2 k), 0) s0 0 t0 g0 e0 k0)) ++ [(q7, .inr (7, [.null, .null, .int 0, .null, .int 0, .int 0, .null, .null, .null, .int 0, .int 0, .null, .int 0, .int 0, .null, .int 0, .null, .null, .null]))]) ++ []) := xD_perm hD x_mv
  refine lv_dup hx hb dL_law_11 rfl ?_
  have hP9 := hP
  have hD9 := hD
  have hS9 := hS
  clear hP hD hS
  refine xcI (w' := fun u7 => ((([] : va_W) ++ (w_X u6.1 cI cC cS s0 (fun k => (s0, u6.2 k), 0) s0 0 t0 g0 e0 k0)) ++ (w_M u7 cI cC (upd (fun _ => 0) 57 (-1)) (fun _ => 0) 0 (fun _ => 0) 0 0 (fun _ => 0) (fun _ => 0) (fun _ => 0) 0 0 (fun _ => 0) 0 0 (fun _ => 0) 0 (fun _ => 0) (fun _ => 0) (fun _ => 0))) ++ []) S hK hN hA hP9 hD9 hS9 (c_X7_init l D cI cC cS ((([] : va_W) ++ (w_X u6.1 cI cC cS s0 (fun k => (s0, u6.2 k), 0) s0 0 t0 g0 e0 k0)) ++ []) q7) gL_law_X7_init (List.mem_of_getElem? (i := 72) rfl) (List.mem_of_getElem? (i := 73) rfl) (List.mem_of_getElem? (i := 5) rfl) rfl rfl hd_X7_init ⟨by decide, by decide⟩ x_p1 (fun _ => x_p2) hl.1 rfl (Nat.le_of_ble_eq_true rfl) dL_law_12 ⟨Nat.le_of_ble_eq_true rfl, Nat.le_of_ble_eq_true rfl⟩ (fun u7 H locs hpost hP hD hS => ?_)
  clear hP9 hD9 hS9
  have hpost : u7 0 = q7 := hpost
  subst hpost
  refine lv_astore_n (lv' := [(2, .ref (u7 0)), (1, .ref (u6.1 0 0)), (0, .ref b)]) hx hb dL_law_15 rfl hl (by decide) rfl (fun ls hl => ?_)
  refine lv_iconst (v := 0) hx hb dL_law_16 (by decide) ?_
  refine lv_istore_n (lv' := [(3, .int 0), (2, .ref (u7 0)), (1, .ref (u6.1 0 0)), (0, .ref b)]) hx hb dL_law_17 rfl hl (by decide) rfl (fun ls hl => ?_)
  have pm : ((([] : va_W) ++ (w_X u6.1 cI cC cS s0 (fun k => (s0, u6.2 k), 0) s0 0 t0 g0 e0 k0) ++ (w_M u7 cI cC (upd (fun _ => 0) 57 (-1)) (fun _ => 0) 0 (fun _ => 0) 0 0 (fun _ => 0) (fun _ => 0) (fun _ => 0) 0 0 (fun _ => 0) 0 0 (fun _ => 0) 0 (fun _ => 0) (fun _ => 0) (fun _ => 0))) ++ []).Perm ((w_X u6.1 cI cC cS s0 (fun k => (s0, u6.2 k), 0) s0 0 t0 g0 e0 k0) ++ (w_M u7 cI cC (upd (fun _ => 0) 57 (-1)) (fun _ => 0) 0 (fun _ => 0) 0 0 (fun _ => 0) (fun _ => 0) (fun _ => 0) 0 0 (fun _ => 0) 0 0 (fun _ => 0) 0 (fun _ => 0) (fun _ => 0) (fun _ => 0))) := by rw [List.append_nil, List.nil_append]
  refine W.widen (k := 62) (n := 1144) (Nat.le_of_ble_eq_true rfl) (Nat.le_of_ble_eq_true rfl) ?_
  exact law_loop hL C0 hK hN hsim (L + 1) 0 0 (Nat.zero_le L) (by omega) nI_0.symm _ _ (h0 u6.2) u6.1 u7 H locs (xP_perm hP pm) (xD_perm hD pm) hS ls (lv_sub hl [3, 2, 1, 0] rfl)
