theorem x_in4 {i : Int32} (h : vp_in i 4) : i.toNatClampNeg = 0 ∨ i.toNatClampNeg = 1 ∨ i.toNatClampNeg = 2 ∨ i.toNatClampNeg = 3 := by
  have : i.toNatClampNeg < 4 := Nat.not_le.mp fun q => h (Or.inr q)
  omega
section XQ
variable {p : Program} {l : Launch} {e : Env} {R : Room} {s : State} {m : MethodId} {args : Array Value} {below : List Frame} {meth : Method} {c : Code} {H : Heap} {locs : List Loc} {cells slots : Nat} {Q : State → Prop} {pc : Nat} {ls : Array Slot} {rest : List Value} {cc : ByteArray} {D : va_G} {cl : List vw_C} {tys : List (ClassId × FieldType)} {ws : va_W} {a : Addr}
theorem x_aldq (hexec : p.tables.exec = Jvm.exec) (hb : c.code = cc) (hK : va_K D cl tys s) (hP : va_P D cl ws H) (q0 t0 : Nat) {cA : ClassId} {C : String} {n : Nat} {f : Nat → Option Nat} (ha : ws[q0]? = some (a, .inl (cA, n, .inr (.inr (.inr (.inr f)))))) (ht : tys[t0]? = some (cA, .object C)) {i : Int32} (hin : vp_in i n) {j b : Nat} (en : i.toNatClampNeg = j) (eb : f j = some b) (hdg : decode cc pc = .ok (.aaload, 1))
    (kk : W p l e R s m args below meth c H locs cells slots Q (F0 m (pc + 1) ls (.ref b :: rest))) : W p l e R s m args below meth c H locs cells slots Q (F0 m pc ls (.int i :: .ref a :: rest)) := by
  refine va_aldq hexec hb hK hP q0 t0 ha ht hin hdg ?_
  rw [en, eb]
  exact kk
end XQ
def rotH (h : Nat → SS × (Nat → Nat)) : Nat → SS × (Nat → Nat) := fun k => if k = 3 then h 0 else if k = 2 then h 3 else if k = 1 then h 2 else if k = 0 then h 1 else h k
theorem rotH_refs (h : Nat → SS × (Nat → Nat)) (f : Nat → Option Nat) (hf : f = fun k => some ((h k).2 0)) : va_up (va_up (va_up (va_up f 0 (f 1)) 1 (f 2)) 2 (f 3)) 3 (f 0) = fun k => some ((rotH h k).2 0) := by
  subst hf
  funext k
  unfold va_up rotH
  by_cases h3 : k = 3
  · subst h3; rfl
  by_cases h2 : k = 2
  · subst h2; rfl
  by_cases h1 : k = 1
  · subst h1; rfl
  by_cases h0 : k = 0
  · subst h0; rfl
  simp [h0, h1, h2, h3]
theorem upH_refs (h : Nat → SS × (Nat → Nat)) (j : Nat) (b : SS) : (fun k => some ((h k).2 0)) = (fun k => some ((va_up h j (b, (h j).2) k).2 0)) := by
  funext k
  unfold va_up
  by_cases hk : k = j
  · subst hk; simp
  · simp [hk]
def w_Hf (a : Nat → Nat) (cI cS : ClassId) (f : Nat → Option Nat) (h : HH) : va_W := (a 0, .inr (2, [.ref (a 1), .int h.2])) :: (a 1, .inl (cS, 4, .inr (.inr (.inr (.inr f))))) :: (w_S (h.1 0).2 cI (h.1 0).1 ++ (w_S (h.1 1).2 cI (h.1 1).1 ++ (w_S (h.1 2).2 cI (h.1 2).1 ++ w_S (h.1 3).2 cI (h.1 3).1)))
def f_X2_dropOldest (o0 : HH) : Option HH := some (rotH o0.1, o0.2 - 1)
def f_X2_remember (o0 : HH) (o1 : SS) : Option HH := ((if o0.2 = 4 then (f_X2_dropOldest o0).bind fun q => some q else some o0) : Option HH).bind fun q => vg q.2 4 ((f_X4_become (q.1 q.2.toNatClampNeg).1 o1).bind fun b => some (va_up q.1 q.2.toNatClampNeg (b, (q.1 q.2.toNatClampNeg).2), q.2 + 1))
def f_X2_takeInto (o0 : HH) (o1 : SS) : Option (Int32 × HH × SS) := if o0.2 = 0 then some (0, o0, o1) else vg (o0.2 - 1) 4 ((f_X4_become o1 (o0.1 (o0.2 - 1).toNatClampNeg).1).bind fun b => some (1, (o0.1, o0.2 - 1), b))
theorem inw_X2_dropOldest_2 : ∀ w ∈ wsX20, w ∈ wsX2_dropOldest := fun _ h => List.mem_cons_of_mem _ (List.mem_append_right _ h)
theorem hd_X2_dropOldest : yX2_dropOldest.cls = RX2 ∧ yX2_dropOldest.cls ≠ "java/lang/invoke/MethodHandle" ∧ yX2_dropOldest.cls ≠ "java/lang/invoke/VarHandle" ∧ (parseMethodDescriptor yX2_dropOldest.desc).map (fun d => d.parameters.length) = some 0 := by decide +kernel
set_option maxHeartbeats 4000000 in
set_option maxRecDepth 100000 in
theorem c_X2_dropOldest (l : Launch) (D : va_G) (cI cC cS : ClassId) (R : va_W) (a0 : Nat → Nat) (o0 : HH) (r : HH) (hf : f_X2_dropOldest o0 = some r) : CV l yX2_dropOldest wsX2_dropOldest 0 0 D cI cC cS [.ref (a0 0)] (w_H a0 cI cS o0 ++ R) (w_H a0 cI cS r ++ R) := by
  refine XV.of (cc := cX2_dropOldest) (maxL := 3) (own := RX2) (by decide) rfl rfl (Nat.le_of_ble_eq_true rfl) ?_
  intro p e s m args below meth c A Q S hK hN hA hP hD hS ls hl hret
  obtain ⟨hx, hb, hml, hown, hts⟩ := id S
  have hl : lv_has ls 3 [(0, .ref (a0 0))] := hl
  obtain ⟨f0, ef0⟩ : ∃ f0 : Nat → Option Nat, f0 = fun k => some ((o0.1 k).2 0) := ⟨_, rfl⟩
  have hP : va_P D vwCl (w_Hf a0 cI cS f0 o0 ++ R) s.heap := by rw [ef0]; exact hP
  have hD : va_D A (w_Hf a0 cI cS f0 o0 ++ R) := by rw [ef0]; exact hD
  refine lv_aload_n hx hb dX2_dropOldest_0 rfl (lv_at hl 0 rfl) ?_
  refine va_get (D := D) (ci := 2) (v := .ref (a0 1)) (C := RX2) (T := TX2) (N := 2) hx hb hts inw_X2_dropOldest_2 hown hK hP 0 rfl rfl 0 (by decide) (hts (.fieldLink RX2 11 "RingGames$History" "states" "[LRingGames$State;") (List.mem_of_getElem? (i := 1) rfl)) (fun _ h9 => h9) rfl dX2_dropOldest_1 ?_
  refine lv_iconst (v := 0) hx hb dX2_dropOldest_4 (by decide) ?_
  refine x_aldq hx hb hK hP 1 2 rfl rfl (x_in (by decide)) (j := 0) (b := (o0.1 0).2 0) rfl (by rw [ef0]) dX2_dropOldest_5 ?_
  refine lv_astore_n (lv' := [(1, .ref ((o0.1 0).2 0)), (0, .ref (a0 0))]) hx hb dX2_dropOldest_6 rfl hl (by decide) rfl (fun ls hl => ?_)
  refine lv_iconst (v := 1) hx hb dX2_dropOldest_7 (by decide) ?_
  refine lv_istore_n (lv' := [(2, .int 1), (1, .ref ((o0.1 0).2 0)), (0, .ref (a0 0))]) hx hb dX2_dropOldest_8 rfl hl (by decide) rfl (fun ls hl => ?_)
  refine lv_iload_n hx hb dX2_dropOldest_9 rfl (lv_at hl 0 rfl) ?_
  refine lv_iconst (v := 4) hx hb dX2_dropOldest_10 (by decide) ?_
  refine lv_icmp_ge (tgt := 34) hx hb dX2_dropOldest_11 (by decide) (fun c => absurd c (by decide)) (fun _ => ?_)
  refine lv_aload_n hx hb dX2_dropOldest_14 rfl (lv_at hl 2 rfl) ?_
  refine va_get (D := D) (ci := 2) (v := .ref (a0 1)) (C := RX2) (T := TX2) (N := 2) hx hb hts inw_X2_dropOldest_2 hown hK hP 0 rfl rfl 0 (by decide) (hts (.fieldLink RX2 11 "RingGames$History" "states" "[LRingGames$State;") (List.mem_of_getElem? (i := 1) rfl)) (fun _ h9 => h9) rfl dX2_dropOldest_15 ?_
  refine lv_iload_n hx hb dX2_dropOldest_18 rfl (lv_at hl 0 rfl) ?_
  refine lv_iconst (v := 1) hx hb dX2_dropOldest_19 (by decide) ?_
  refine lv_isub hx hb dX2_dropOldest_20 ?_
  refine lv_nm (x := 0) (by decide) ?_
  refine lv_aload_n hx hb dX2_dropOldest_21 rfl (lv_at hl 2 rfl) ?_
  refine va_get (D := D) (ci := 2) (v := .ref (a0 1)) (C := RX2) (T := TX2) (N := 2) hx hb hts inw_X2_dropOldest_2 hown hK hP 0 rfl rfl 0 (by decide) (hts (.fieldLink RX2 11 "RingGames$History" "states" "[LRingGames$State;") (List.mem_of_getElem? (i := 1) rfl)) (fun _ h9 => h9) rfl dX2_dropOldest_22 ?_
  refine lv_iload_n hx hb dX2_dropOldest_25 rfl (lv_at hl 0 rfl) ?_
  refine x_aldq hx hb hK hP 1 2 rfl rfl (x_in (by decide)) (j := 1) (b := (o0.1 1).2 0) rfl (by subst ef0; rfl) dX2_dropOldest_26 ?_
  refine va_astq hx hb hK hP hD hS 1 2 8 4 (r := (RX4, TX4, 4)) rfl rfl rfl rfl (x_in (by decide)) dX2_dropOldest_27 (fun H locs hP hD hS => ?_)
  have hP : va_P D vwCl (w_Hf a0 cI cS (va_up f0 0 (some ((o0.1 1).2 0))) o0 ++ R) H := hP
  have hD : va_D A (w_Hf a0 cI cS (va_up f0 0 (some ((o0.1 1).2 0))) o0 ++ R) := hD
  refine lv_iinc (v := 2) (lv' := [(2, .int 2), (1, .ref ((o0.1 0).2 0)), (0, .ref (a0 0))]) hx hb dX2_dropOldest_28 hl (k := 0) rfl (by decide) (by decide) rfl (fun ls hl => ?_)
  refine lv_goto (tgt := 9) hx hb dX2_dropOldest_31 (by decide) ?_
  refine lv_iload_n hx hb dX2_dropOldest_9 rfl (lv_at hl 0 rfl) ?_
  refine lv_iconst (v := 4) hx hb dX2_dropOldest_10 (by decide) ?_
  refine lv_icmp_ge (tgt := 34) hx hb dX2_dropOldest_11 (by decide) (fun c => absurd c (by decide)) (fun _ => ?_)
  refine lv_aload_n hx hb dX2_dropOldest_14 rfl (lv_at hl 2 rfl) ?_
  refine va_get (D := D) (ci := 2) (v := .ref (a0 1)) (C := RX2) (T := TX2) (N := 2) hx hb hts inw_X2_dropOldest_2 hown hK hP 0 rfl rfl 0 (by decide) (hts (.fieldLink RX2 11 "RingGames$History" "states" "[LRingGames$State;") (List.mem_of_getElem? (i := 1) rfl)) (fun _ h9 => h9) rfl dX2_dropOldest_15 ?_
  refine lv_iload_n hx hb dX2_dropOldest_18 rfl (lv_at hl 0 rfl) ?_
  refine lv_iconst (v := 1) hx hb dX2_dropOldest_19 (by decide) ?_
  refine lv_isub hx hb dX2_dropOldest_20 ?_
  refine lv_nm (x := 1) (by decide) ?_
  refine lv_aload_n hx hb dX2_dropOldest_21 rfl (lv_at hl 2 rfl) ?_
  refine va_get (D := D) (ci := 2) (v := .ref (a0 1)) (C := RX2) (T := TX2) (N := 2) hx hb hts inw_X2_dropOldest_2 hown hK hP 0 rfl rfl 0 (by decide) (hts (.fieldLink RX2 11 "RingGames$History" "states" "[LRingGames$State;") (List.mem_of_getElem? (i := 1) rfl)) (fun _ h9 => h9) rfl dX2_dropOldest_22 ?_
  refine lv_iload_n hx hb dX2_dropOldest_25 rfl (lv_at hl 0 rfl) ?_
  refine x_aldq hx hb hK hP 1 2 rfl rfl (x_in (by decide)) (j := 2) (b := (o0.1 2).2 0) rfl (by subst ef0; rfl) dX2_dropOldest_26 ?_
  refine va_astq hx hb hK hP hD hS 1 2 14 4 (r := (RX4, TX4, 4)) rfl rfl rfl rfl (x_in (by decide)) dX2_dropOldest_27 (fun H locs hP hD hS => ?_)
  have hP : va_P D vwCl (w_Hf a0 cI cS (va_up (va_up f0 0 (some ((o0.1 1).2 0))) 1 (some ((o0.1 2).2 0))) o0 ++ R) H := hP
  have hD : va_D A (w_Hf a0 cI cS (va_up (va_up f0 0 (some ((o0.1 1).2 0))) 1 (some ((o0.1 2).2 0))) o0 ++ R) := hD
  refine lv_iinc (v := 3) (lv' := [(2, .int 3), (1, .ref ((o0.1 0).2 0)), (0, .ref (a0 0))]) hx hb dX2_dropOldest_28 hl (k := 0) rfl (by decide) (by decide) rfl (fun ls hl => ?_)
  refine lv_goto (tgt := 9) hx hb dX2_dropOldest_31 (by decide) ?_
  refine lv_iload_n hx hb dX2_dropOldest_9 rfl (lv_at hl 0 rfl) ?_
  refine lv_iconst (v := 4) hx hb dX2_dropOldest_10 (by decide) ?_
  refine lv_icmp_ge (tgt := 34) hx hb dX2_dropOldest_11 (by decide) (fun c => absurd c (by decide)) (fun _ => ?_)
  refine lv_aload_n hx hb dX2_dropOldest_14 rfl (lv_at hl 2 rfl) ?_
  refine va_get (D := D) (ci := 2) (v := .ref (a0 1)) (C := RX2) (T := TX2) (N := 2) hx hb hts inw_X2_dropOldest_2 hown hK hP 0 rfl rfl 0 (by decide) (hts (.fieldLink RX2 11 "RingGames$History" "states" "[LRingGames$State;") (List.mem_of_getElem? (i := 1) rfl)) (fun _ h9 => h9) rfl dX2_dropOldest_15 ?_
  refine lv_iload_n hx hb dX2_dropOldest_18 rfl (lv_at hl 0 rfl) ?_
  refine lv_iconst (v := 1) hx hb dX2_dropOldest_19 (by decide) ?_
  refine lv_isub hx hb dX2_dropOldest_20 ?_
  refine lv_nm (x := 2) (by decide) ?_
  refine lv_aload_n hx hb dX2_dropOldest_21 rfl (lv_at hl 2 rfl) ?_
  refine va_get (D := D) (ci := 2) (v := .ref (a0 1)) (C := RX2) (T := TX2) (N := 2) hx hb hts inw_X2_dropOldest_2 hown hK hP 0 rfl rfl 0 (by decide) (hts (.fieldLink RX2 11 "RingGames$History" "states" "[LRingGames$State;") (List.mem_of_getElem? (i := 1) rfl)) (fun _ h9 => h9) rfl dX2_dropOldest_22 ?_
  refine lv_iload_n hx hb dX2_dropOldest_25 rfl (lv_at hl 0 rfl) ?_
  refine x_aldq hx hb hK hP 1 2 rfl rfl (x_in (by decide)) (j := 3) (b := (o0.1 3).2 0) rfl (by subst ef0; rfl) dX2_dropOldest_26 ?_
  refine va_astq hx hb hK hP hD hS 1 2 20 4 (r := (RX4, TX4, 4)) rfl rfl rfl rfl (x_in (by decide)) dX2_dropOldest_27 (fun H locs hP hD hS => ?_)
  have hP : va_P D vwCl (w_Hf a0 cI cS (va_up (va_up (va_up f0 0 (some ((o0.1 1).2 0))) 1 (some ((o0.1 2).2 0))) 2 (some ((o0.1 3).2 0))) o0 ++ R) H := hP
  have hD : va_D A (w_Hf a0 cI cS (va_up (va_up (va_up f0 0 (some ((o0.1 1).2 0))) 1 (some ((o0.1 2).2 0))) 2 (some ((o0.1 3).2 0))) o0 ++ R) := hD
  refine lv_iinc (v := 4) (lv' := [(2, .int 4), (1, .ref ((o0.1 0).2 0)), (0, .ref (a0 0))]) hx hb dX2_dropOldest_28 hl (k := 0) rfl (by decide) (by decide) rfl (fun ls hl => ?_)
  refine lv_goto (tgt := 9) hx hb dX2_dropOldest_31 (by decide) ?_
  refine lv_iload_n hx hb dX2_dropOldest_9 rfl (lv_at hl 0 rfl) ?_
  refine lv_iconst (v := 4) hx hb dX2_dropOldest_10 (by decide) ?_
  refine lv_icmp_ge (tgt := 34) hx hb dX2_dropOldest_11 (by decide) (fun _ => ?_) (fun c => absurd (by decide) c)
  refine lv_aload_n hx hb dX2_dropOldest_34 rfl (lv_at hl 2 rfl) ?_
  refine va_get (D := D) (ci := 2) (v := .ref (a0 1)) (C := RX2) (T := TX2) (N := 2) hx hb hts inw_X2_dropOldest_2 hown hK hP 0 rfl rfl 0 (by decide) (hts (.fieldLink RX2 11 "RingGames$History" "states" "[LRingGames$State;") (List.mem_of_getElem? (i := 1) rfl)) (fun _ h9 => h9) rfl dX2_dropOldest_35 ?_
  refine lv_iconst (v := 3) hx hb dX2_dropOldest_38 (by decide) ?_
  refine lv_aload_n hx hb dX2_dropOldest_39 rfl (lv_at hl 1 rfl) ?_
  refine va_astq hx hb hK hP hD hS 1 2 2 4 (r := (RX4, TX4, 4)) rfl rfl rfl rfl (x_in (by decide)) dX2_dropOldest_40 (fun H locs hP hD hS => ?_)
  have hP : va_P D vwCl (w_Hf a0 cI cS (va_up (va_up (va_up (va_up f0 0 (some ((o0.1 1).2 0))) 1 (some ((o0.1 2).2 0))) 2 (some ((o0.1 3).2 0))) 3 (some ((o0.1 0).2 0))) o0 ++ R) H := hP
  have hD : va_D A (w_Hf a0 cI cS (va_up (va_up (va_up (va_up f0 0 (some ((o0.1 1).2 0))) 1 (some ((o0.1 2).2 0))) 2 (some ((o0.1 3).2 0))) 3 (some ((o0.1 0).2 0))) o0 ++ R) := hD
  refine lv_aload_n hx hb dX2_dropOldest_41 rfl (lv_at hl 2 rfl) ?_
  refine lv_dup hx hb dX2_dropOldest_42 rfl ?_
  refine va_get (D := D) (ci := 2) (v := .int o0.2) (C := RX2) (T := TX2) (N := 2) hx hb hts inw_X2_dropOldest_2 hown hK hP 0 rfl rfl 1 (by decide) (hts (.fieldLink RX2 18 "RingGames$History" "count" "I") (List.mem_of_getElem? (i := 2) rfl)) (fun _ h9 => h9) rfl dX2_dropOldest_43 ?_
  refine lv_iconst (v := 1) hx hb dX2_dropOldest_46 (by decide) ?_
  refine lv_isub hx hb dX2_dropOldest_47 ?_
  refine va_put (D := D) (ci := 2) (v := .int (o0.2 - 1)) (ty := .int) (C := RX2) (T := TX2) (N := 2) hx hb hts inw_X2_dropOldest_2 tyX2 tyX2_ok nmX2 hown hK hP hD hS 0 rfl rfl 1 (by decide) (hts (.fieldLink RX2 18 "RingGames$History" "count" "I") (List.mem_of_getElem? (i := 2) rfl)) (fun _ h9 => h9) rfl (tyX2_ok 1 (by decide)) rfl rfl (Nat.le_of_ble_eq_true rfl) dX2_dropOldest_48 (fun H locs hP hD hS => ?_)
  have ef : (va_up (va_up (va_up (va_up f0 0 (some ((o0.1 1).2 0))) 1 (some ((o0.1 2).2 0))) 2 (some ((o0.1 3).2 0))) 3 (some ((o0.1 0).2 0))) = fun k => some ((rotH o0.1 k).2 0) := by
    have := rotH_refs o0.1 f0 ef0
    rw [show f0 1 = some ((o0.1 1).2 0) from by rw [ef0], show f0 2 = some ((o0.1 2).2 0) from by rw [ef0], show f0 3 = some ((o0.1 3).2 0) from by rw [ef0], show f0 0 = some ((o0.1 0).2 0) from by rw [ef0]] at this
    exact this
  have hP : va_P D vwCl (w_Hf a0 cI cS (va_up (va_up (va_up (va_up f0 0 (some ((o0.1 1).2 0))) 1 (some ((o0.1 2).2 0))) 2 (some ((o0.1 3).2 0))) 3 (some ((o0.1 0).2 0))) (o0.1, o0.2 - 1) ++ R) H := hP
  have hD : va_D A (w_Hf a0 cI cS (va_up (va_up (va_up (va_up f0 0 (some ((o0.1 1).2 0))) 1 (some ((o0.1 2).2 0))) 2 (some ((o0.1 3).2 0))) 3 (some ((o0.1 0).2 0))) (o0.1, o0.2 - 1) ++ R) := hD
  rw [ef] at hP hD
  have hf := Option.some.inj hf
  subst hf
  have pm : ((w_Hf a0 cI cS (fun k => some ((rotH o0.1 k).2 0)) (o0.1, o0.2 - 1)) ++ R).Perm (w_H a0 cI cS (rotH o0.1, o0.2 - 1) ++ R) := x_cut [0, 1, 8, 9, 10, 11, 12, 13, 14, 15, 16, 17, 18, 19, 20, 21, 22, 23, 24, 25, 2, 3, 4, 5, 6, 7] 26 rfl (by decide +kernel) rfl
  exact hret _ _ _ _ dX2_dropOldest_51 (xP_perm hP pm) (xD_perm hD pm) hS
theorem inw_X2_remember_2 : ∀ w ∈ wsX20, w ∈ wsX2_remember := fun _ h => List.mem_cons_of_mem _ (List.mem_append_left _ (List.mem_append_left _ (List.mem_append_right _ h)))
theorem hd_X2_remember : yX2_remember.cls = RX2 ∧ yX2_remember.cls ≠ "java/lang/invoke/MethodHandle" ∧ yX2_remember.cls ≠ "java/lang/invoke/VarHandle" ∧ (parseMethodDescriptor yX2_remember.desc).map (fun d => d.parameters.length) = some 1 := by decide +kernel
set_option maxHeartbeats 4000000 in
set_option maxRecDepth 100000 in
theorem c_X2_remember (l : Launch) (D : va_G) (cI cC cS : ClassId) (R : va_W) (a0 : Nat → Nat) (a1 : Nat → Nat) (o0 : HH) (o1 : SS) (r : HH) (hf : f_X2_remember o0 o1 = some r) : CV l yX2_remember wsX2_remember 3 102 D cI cC cS [.ref (a0 0), .ref (a1 0)] ((w_H a0 cI cS o0 ++ w_S a1 cI o1) ++ R) ((w_H a0 cI cS r ++ w_S a1 cI o1) ++ R) := by
  refine XV.of (cc := cX2_remember) (maxL := 2) (own := RX2) (by decide) rfl rfl (Nat.le_of_ble_eq_true rfl) ?_
  intro p e s m args below meth c A Q S hK hN hA hP hD hS ls hl hret
  obtain ⟨hx, hb, hml, hown, hts⟩ := id S
  have hl : lv_has ls 2 [(0, .ref (a0 0)), (1, .ref (a1 0))] := hl
  unfold f_X2_remember at hf
  refine lv_aload_n hx hb dX2_remember_0 rfl (lv_at hl 0 rfl) ?_
  refine va_get (D := D) (ci := 2) (v := .int o0.2) (C := RX2) (T := TX2) (N := 2) hx hb hts inw_X2_remember_2 hown hK hP 0 rfl rfl 1 (by decide) (hts (.fieldLink RX2 18 "RingGames$History" "count" "I") (List.mem_of_getElem? (i := 1) rfl)) (fun _ h9 => h9) rfl dX2_remember_1 ?_
  refine lv_iconst (v := 4) hx hb dX2_remember_4 (by decide) ?_
  obtain ⟨q, hq, hf⟩ := ob_some hf
  obtain ⟨g, hf⟩ := vg_some hf
  have J : ∀ (H : Heap) (locs : List Loc), va_P D vwCl ((w_H a0 cI cS q ++ w_S a1 cI o1) ++ R) H → va_D A ((w_H a0 cI cS q ++ w_S a1 cI o1) ++ R) → va_S A s.heap H locs → ∀ ls : Array Slot, lv_has ls 2 [(0, .ref (a0 0)), (1, .ref (a1 0))] → W p l e (xR 3 102) s m args below meth c H locs 0 0 Q (F0 m 12 ls []) := by
    intro H locs hP hD hS ls hl
    refine lv_aload_n hx hb dX2_remember_12 rfl (lv_at hl 0 rfl) ?_
    refine va_get (D := D) (ci := 2) (v := .ref (a0 1)) (C := RX2) (T := TX2) (N := 2) hx hb hts inw_X2_remember_2 hown hK hP 0 rfl rfl 0 (by decide) (hts (.fieldLink RX2 11 "RingGames$History" "states" "[LRingGames$State;") (List.mem_of_getElem? (i := 2) rfl)) (fun _ h9 => h9) rfl dX2_remember_13 ?_
    refine lv_aload_n hx hb dX2_remember_16 rfl (lv_at hl 0 rfl) ?_
    refine va_get (D := D) (ci := 2) (v := .int q.2) (C := RX2) (T := TX2) (N := 2) hx hb hts inw_X2_remember_2 hown hK hP 0 rfl rfl 1 (by decide) (hts (.fieldLink RX2 18 "RingGames$History" "count" "I") (List.mem_of_getElem? (i := 1) rfl)) (fun _ h9 => h9) rfl dX2_remember_17 ?_
    rcases x_in4 g with en | en | en | en
    · rw [en] at hf
      refine x_aldq hx hb hK hP 1 2 rfl rfl g (j := 0) (b := (q.1 0).2 0) en rfl dX2_remember_20 ?_
      refine lv_aload_n hx hb dX2_remember_21 rfl (lv_at hl 1 rfl) ?_
      obtain ⟨b, hb4, hf⟩ := ob_some hf
      have pc1 := x_cut (pre := (w_H a0 cI cS q ++ w_S a1 cI o1)) (R := R) (wc := (w_S (q.1 0).2 cI (q.1 0).1 ++ w_S a1 cI o1)) [2, 3, 4, 5, 6, 7, 26, 27, 28, 29, 30, 31] 32 rfl (by decide +kernel) rfl
      refine xcVv (w' := ((w_Hf a0 cI cS (fun k => some ((q.1 k).2 0)) (va_up q.1 0 (b, (q.1 0).2), q.2) ++ w_S a1 cI o1) ++ R)) S hK hN hA hP hD hS (c_X4_become l D cI cC cS ((xr 32 [2, 3, 4, 5, 6, 7, 26, 27, 28, 29, 30, 31]).filterMap (fun i => (w_H a0 cI cS q ++ w_S a1 cI o1)[i]?) ++ R) (q.1 0).2 a1 (q.1 0).1 o1 _ hb4) gX2_remember_X4_become rfl hd_X4_become ⟨by decide, by decide⟩ pc1 (x_back (pre := (w_H a0 cI cS q ++ w_S a1 cI o1)) [2, 3, 4, 5, 6, 7, 26, 27, 28, 29, 30, 31] 32 rfl (by decide +kernel) rfl rfl) (ci := 4) (q := (RX4, TX4, 4)) rfl rfl rfl rfl hl.1 rfl (Nat.le_of_ble_eq_true rfl) dX2_remember_22 ⟨Nat.zero_le _, Nat.zero_le _⟩ (fun H locs hP hD hS => ?_)
      refine lv_aload_n hx hb dX2_remember_25 rfl (lv_at hl 0 rfl) ?_
      refine lv_dup hx hb dX2_remember_26 rfl ?_
      refine va_get (D := D) (ci := 2) (v := .int q.2) (C := RX2) (T := TX2) (N := 2) hx hb hts inw_X2_remember_2 hown hK hP 0 rfl rfl 1 (by decide) (hts (.fieldLink RX2 18 "RingGames$History" "count" "I") (List.mem_of_getElem? (i := 1) rfl)) (fun _ h9 => h9) rfl dX2_remember_27 ?_
      refine lv_iconst (v := 1) hx hb dX2_remember_30 (by decide) ?_
      refine lv_iadd hx hb dX2_remember_31 ?_
      refine va_put (D := D) (ci := 2) (v := .int (q.2 + 1)) (ty := .int) (C := RX2) (T := TX2) (N := 2) hx hb hts inw_X2_remember_2 tyX2 tyX2_ok nmX2 hown hK hP hD hS 0 rfl rfl 1 (by decide) (hts (.fieldLink RX2 18 "RingGames$History" "count" "I") (List.mem_of_getElem? (i := 1) rfl)) (fun _ h9 => h9) rfl (tyX2_ok 1 (by decide)) rfl rfl (Nat.le_of_ble_eq_true rfl) dX2_remember_32 (fun H locs hP hD hS => ?_)
      have hf := Option.some.inj hf
      subst hf
      have er := upH_refs q.1 0 b
      have hP : va_P D vwCl ((w_Hf a0 cI cS (fun k => some ((q.1 k).2 0)) (va_up q.1 0 (b, (q.1 0).2), q.2 + 1) ++ w_S a1 cI o1) ++ R) H := hP
      have hD : va_D A ((w_Hf a0 cI cS (fun k => some ((q.1 k).2 0)) (va_up q.1 0 (b, (q.1 0).2), q.2 + 1) ++ w_S a1 cI o1) ++ R) := hD
      rw [er] at hP hD
      exact hret _ _ _ _ dX2_remember_35 hP hD hS
    · rw [en] at hf
      refine x_aldq hx hb hK hP 1 2 rfl rfl g (j := 1) (b := (q.1 1).2 0) en rfl dX2_remember_20 ?_
      refine lv_aload_n hx hb dX2_remember_21 rfl (lv_at hl 1 rfl) ?_
      obtain ⟨b, hb4, hf⟩ := ob_some hf
      have pc1 := x_cut (pre := (w_H a0 cI cS q ++ w_S a1 cI o1)) (R := R) (wc := (w_S (q.1 1).2 cI (q.1 1).1 ++ w_S a1 cI o1)) [8, 9, 10, 11, 12, 13, 26, 27, 28, 29, 30, 31] 32 rfl (by decide +kernel) rfl
      refine xcVv (w' := ((w_Hf a0 cI cS (fun k => some ((q.1 k).2 0)) (va_up q.1 1 (b, (q.1 1).2), q.2) ++ w_S a1 cI o1) ++ R)) S hK hN hA hP hD hS (c_X4_become l D cI cC cS ((xr 32 [8, 9, 10, 11, 12, 13, 26, 27, 28, 29, 30, 31]).filterMap (fun i => (w_H a0 cI cS q ++ w_S a1 cI o1)[i]?) ++ R) (q.1 1).2 a1 (q.1 1).1 o1 _ hb4) gX2_remember_X4_become rfl hd_X4_become ⟨by decide, by decide⟩ pc1 (x_back (pre := (w_H a0 cI cS q ++ w_S a1 cI o1)) [8, 9, 10, 11, 12, 13, 26, 27, 28, 29, 30, 31] 32 rfl (by decide +kernel) rfl rfl) (ci := 4) (q := (RX4, TX4, 4)) rfl rfl rfl rfl hl.1 rfl (Nat.le_of_ble_eq_true rfl) dX2_remember_22 ⟨Nat.zero_le _, Nat.zero_le _⟩ (fun H locs hP hD hS => ?_)
      refine lv_aload_n hx hb dX2_remember_25 rfl (lv_at hl 0 rfl) ?_
      refine lv_dup hx hb dX2_remember_26 rfl ?_
      refine va_get (D := D) (ci := 2) (v := .int q.2) (C := RX2) (T := TX2) (N := 2) hx hb hts inw_X2_remember_2 hown hK hP 0 rfl rfl 1 (by decide) (hts (.fieldLink RX2 18 "RingGames$History" "count" "I") (List.mem_of_getElem? (i := 1) rfl)) (fun _ h9 => h9) rfl dX2_remember_27 ?_
      refine lv_iconst (v := 1) hx hb dX2_remember_30 (by decide) ?_
      refine lv_iadd hx hb dX2_remember_31 ?_
      refine va_put (D := D) (ci := 2) (v := .int (q.2 + 1)) (ty := .int) (C := RX2) (T := TX2) (N := 2) hx hb hts inw_X2_remember_2 tyX2 tyX2_ok nmX2 hown hK hP hD hS 0 rfl rfl 1 (by decide) (hts (.fieldLink RX2 18 "RingGames$History" "count" "I") (List.mem_of_getElem? (i := 1) rfl)) (fun _ h9 => h9) rfl (tyX2_ok 1 (by decide)) rfl rfl (Nat.le_of_ble_eq_true rfl) dX2_remember_32 (fun H locs hP hD hS => ?_)
      have hf := Option.some.inj hf
      subst hf
      have er := upH_refs q.1 1 b
      have hP : va_P D vwCl ((w_Hf a0 cI cS (fun k => some ((q.1 k).2 0)) (va_up q.1 1 (b, (q.1 1).2), q.2 + 1) ++ w_S a1 cI o1) ++ R) H := hP
      have hD : va_D A ((w_Hf a0 cI cS (fun k => some ((q.1 k).2 0)) (va_up q.1 1 (b, (q.1 1).2), q.2 + 1) ++ w_S a1 cI o1) ++ R) := hD
      rw [er] at hP hD
      exact hret _ _ _ _ dX2_remember_35 hP hD hS
    · rw [en] at hf
      refine x_aldq hx hb hK hP 1 2 rfl rfl g (j := 2) (b := (q.1 2).2 0) en rfl dX2_remember_20 ?_
      refine lv_aload_n hx hb dX2_remember_21 rfl (lv_at hl 1 rfl) ?_
      obtain ⟨b, hb4, hf⟩ := ob_some hf
      have pc1 := x_cut (pre := (w_H a0 cI cS q ++ w_S a1 cI o1)) (R := R) (wc := (w_S (q.1 2).2 cI (q.1 2).1 ++ w_S a1 cI o1)) [14, 15, 16, 17, 18, 19, 26, 27, 28, 29, 30, 31] 32 rfl (by decide +kernel) rfl
      refine xcVv (w' := ((w_Hf a0 cI cS (fun k => some ((q.1 k).2 0)) (va_up q.1 2 (b, (q.1 2).2), q.2) ++ w_S a1 cI o1) ++ R)) S hK hN hA hP hD hS (c_X4_become l D cI cC cS ((xr 32 [14, 15, 16, 17, 18, 19, 26, 27, 28, 29, 30, 31]).filterMap (fun i => (w_H a0 cI cS q ++ w_S a1 cI o1)[i]?) ++ R) (q.1 2).2 a1 (q.1 2).1 o1 _ hb4) gX2_remember_X4_become rfl hd_X4_become ⟨by decide, by decide⟩ pc1 (x_back (pre := (w_H a0 cI cS q ++ w_S a1 cI o1)) [14, 15, 16, 17, 18, 19, 26, 27, 28, 29, 30, 31] 32 rfl (by decide +kernel) rfl rfl) (ci := 4) (q := (RX4, TX4, 4)) rfl rfl rfl rfl hl.1 rfl (Nat.le_of_ble_eq_true rfl) dX2_remember_22 ⟨Nat.zero_le _, Nat.zero_le _⟩ (fun H locs hP hD hS => ?_)
      refine lv_aload_n hx hb dX2_remember_25 rfl (lv_at hl 0 rfl) ?_
      refine lv_dup hx hb dX2_remember_26 rfl ?_
      refine va_get (D := D) (ci := 2) (v := .int q.2) (C := RX2) (T := TX2) (N := 2) hx hb hts inw_X2_remember_2 hown hK hP 0 rfl rfl 1 (by decide) (hts (.fieldLink RX2 18 "RingGames$History" "count" "I") (List.mem_of_getElem? (i := 1) rfl)) (fun _ h9 => h9) rfl dX2_remember_27 ?_
      refine lv_iconst (v := 1) hx hb dX2_remember_30 (by decide) ?_
      refine lv_iadd hx hb dX2_remember_31 ?_
      refine va_put (D := D) (ci := 2) (v := .int (q.2 + 1)) (ty := .int) (C := RX2) (T := TX2) (N := 2) hx hb hts inw_X2_remember_2 tyX2 tyX2_ok nmX2 hown hK hP hD hS 0 rfl rfl 1 (by decide) (hts (.fieldLink RX2 18 "RingGames$History" "count" "I") (List.mem_of_getElem? (i := 1) rfl)) (fun _ h9 => h9) rfl (tyX2_ok 1 (by decide)) rfl rfl (Nat.le_of_ble_eq_true rfl) dX2_remember_32 (fun H locs hP hD hS => ?_)
      have hf := Option.some.inj hf
      subst hf
      have er := upH_refs q.1 2 b
      have hP : va_P D vwCl ((w_Hf a0 cI cS (fun k => some ((q.1 k).2 0)) (va_up q.1 2 (b, (q.1 2).2), q.2 + 1) ++ w_S a1 cI o1) ++ R) H := hP
      have hD : va_D A ((w_Hf a0 cI cS (fun k => some ((q.1 k).2 0)) (va_up q.1 2 (b, (q.1 2).2), q.2 + 1) ++ w_S a1 cI o1) ++ R) := hD
      rw [er] at hP hD
      exact hret _ _ _ _ dX2_remember_35 hP hD hS
    · rw [en] at hf
      refine x_aldq hx hb hK hP 1 2 rfl rfl g (j := 3) (b := (q.1 3).2 0) en rfl dX2_remember_20 ?_
      refine lv_aload_n hx hb dX2_remember_21 rfl (lv_at hl 1 rfl) ?_
      obtain ⟨b, hb4, hf⟩ := ob_some hf
      have pc1 := x_cut (pre := (w_H a0 cI cS q ++ w_S a1 cI o1)) (R := R) (wc := (w_S (q.1 3).2 cI (q.1 3).1 ++ w_S a1 cI o1)) [20, 21, 22, 23, 24, 25, 26, 27, 28, 29, 30, 31] 32 rfl (by decide +kernel) rfl
      refine xcVv (w' := ((w_Hf a0 cI cS (fun k => some ((q.1 k).2 0)) (va_up q.1 3 (b, (q.1 3).2), q.2) ++ w_S a1 cI o1) ++ R)) S hK hN hA hP hD hS (c_X4_become l D cI cC cS ((xr 32 [20, 21, 22, 23, 24, 25, 26, 27, 28, 29, 30, 31]).filterMap (fun i => (w_H a0 cI cS q ++ w_S a1 cI o1)[i]?) ++ R) (q.1 3).2 a1 (q.1 3).1 o1 _ hb4) gX2_remember_X4_become rfl hd_X4_become ⟨by decide, by decide⟩ pc1 (x_back (pre := (w_H a0 cI cS q ++ w_S a1 cI o1)) [20, 21, 22, 23, 24, 25, 26, 27, 28, 29, 30, 31] 32 rfl (by decide +kernel) rfl rfl) (ci := 4) (q := (RX4, TX4, 4)) rfl rfl rfl rfl hl.1 rfl (Nat.le_of_ble_eq_true rfl) dX2_remember_22 ⟨Nat.zero_le _, Nat.zero_le _⟩ (fun H locs hP hD hS => ?_)
      refine lv_aload_n hx hb dX2_remember_25 rfl (lv_at hl 0 rfl) ?_
      refine lv_dup hx hb dX2_remember_26 rfl ?_
      refine va_get (D := D) (ci := 2) (v := .int q.2) (C := RX2) (T := TX2) (N := 2) hx hb hts inw_X2_remember_2 hown hK hP 0 rfl rfl 1 (by decide) (hts (.fieldLink RX2 18 "RingGames$History" "count" "I") (List.mem_of_getElem? (i := 1) rfl)) (fun _ h9 => h9) rfl dX2_remember_27 ?_
      refine lv_iconst (v := 1) hx hb dX2_remember_30 (by decide) ?_
      refine lv_iadd hx hb dX2_remember_31 ?_
      refine va_put (D := D) (ci := 2) (v := .int (q.2 + 1)) (ty := .int) (C := RX2) (T := TX2) (N := 2) hx hb hts inw_X2_remember_2 tyX2 tyX2_ok nmX2 hown hK hP hD hS 0 rfl rfl 1 (by decide) (hts (.fieldLink RX2 18 "RingGames$History" "count" "I") (List.mem_of_getElem? (i := 1) rfl)) (fun _ h9 => h9) rfl (tyX2_ok 1 (by decide)) rfl rfl (Nat.le_of_ble_eq_true rfl) dX2_remember_32 (fun H locs hP hD hS => ?_)
      have hf := Option.some.inj hf
      subst hf
      have er := upH_refs q.1 3 b
      have hP : va_P D vwCl ((w_Hf a0 cI cS (fun k => some ((q.1 k).2 0)) (va_up q.1 3 (b, (q.1 3).2), q.2 + 1) ++ w_S a1 cI o1) ++ R) H := hP
      have hD : va_D A ((w_Hf a0 cI cS (fun k => some ((q.1 k).2 0)) (va_up q.1 3 (b, (q.1 3).2), q.2 + 1) ++ w_S a1 cI o1) ++ R) := hD
      rw [er] at hP hD
      exact hret _ _ _ _ dX2_remember_35 hP hD hS
  clear hf
  have hf := hq
  refine lv_icmp_ne (tgt := 12) hx hb dX2_remember_5 (by decide) (fun c1 => ?_) (fun c1 => ?_)
  · have hf := if_f hf c1
    have hf := Option.some.inj hf
    subst hf
    exact J _ _ hP hD hS _ hl
  · have hf := if_t hf c1
    refine lv_aload_n hx hb dX2_remember_8 rfl (lv_at hl 0 rfl) ?_
    obtain ⟨q3, hq3, hf⟩ := ob_some hf
    refine xcVv (w' := ((w_H a0 cI cS q3 ++ w_S a1 cI o1) ++ R)) S hK hN hA hP hD hS (c_X2_dropOldest l D cI cC cS ((xr 32 [0, 1, 2, 3, 4, 5, 6, 7, 8, 9, 10, 11, 12, 13, 14, 15, 16, 17, 18, 19, 20, 21, 22, 23, 24, 25]).filterMap (fun i => (w_H a0 cI cS o0 ++ w_S a1 cI o1)[i]?) ++ R) a0 o0 _ hq3) gX2_remember_X2_dropOldest rfl hd_X2_dropOldest ⟨by decide, by decide⟩ (x_cut (pre := (w_H a0 cI cS o0 ++ w_S a1 cI o1)) [0, 1, 2, 3, 4, 5, 6, 7, 8, 9, 10, 11, 12, 13, 14, 15, 16, 17, 18, 19, 20, 21, 22, 23, 24, 25] 32 rfl (by decide +kernel) rfl) (x_back (pre := (w_H a0 cI cS o0 ++ w_S a1 cI o1)) [0, 1, 2, 3, 4, 5, 6, 7, 8, 9, 10, 11, 12, 13, 14, 15, 16, 17, 18, 19, 20, 21, 22, 23, 24, 25] 32 rfl (by decide +kernel) rfl rfl) (ci := 2) (q := (RX2, TX2, 2)) rfl rfl rfl rfl hl.1 rfl (Nat.le_of_ble_eq_true rfl) dX2_remember_9 ⟨Nat.zero_le _, Nat.zero_le _⟩ (fun H locs hP hD hS => ?_)
    have hf := Option.some.inj hf
    subst hf
    exact J _ _ hP hD hS _ hl
theorem inw_X2_takeInto_2 : ∀ w ∈ wsX20, w ∈ wsX2_takeInto := fun _ h => List.mem_cons_of_mem _ (List.mem_append_left _ (List.mem_append_left _ (List.mem_append_right _ h)))
theorem hd_X2_takeInto : yX2_takeInto.cls = RX2 ∧ yX2_takeInto.cls ≠ "java/lang/invoke/MethodHandle" ∧ yX2_takeInto.cls ≠ "java/lang/invoke/VarHandle" ∧ (parseMethodDescriptor yX2_takeInto.desc).map (fun d => d.parameters.length) = some 1 := by decide +kernel
set_option maxHeartbeats 4000000 in
set_option maxRecDepth 100000 in
theorem c_X2_takeInto (l : Launch) (D : va_G) (cI cC cS : ClassId) (R : va_W) (a0 : Nat → Nat) (a1 : Nat → Nat) (o0 : HH) (o1 : SS) (r : Int32 × HH × SS) (hf : f_X2_takeInto o0 o1 = some r) : CI l yX2_takeInto wsX2_takeInto 3 102 D cI cC cS [.ref (a0 0), .ref (a1 0)] ((w_H a0 cI cS o0 ++ w_S a1 cI o1) ++ R) r.1 ((w_H a0 cI cS r.2.1 ++ w_S a1 cI r.2.2) ++ R) := by
  refine XI.of (cc := cX2_takeInto) (maxL := 2) (ty := .boolean) (own := RX2) (by decide) rfl rfl (Nat.le_of_ble_eq_true rfl) ?_
  intro p e s m args below meth c A Q S hK hN hA hP hD hS ls hl hret
  obtain ⟨hx, hb, hml, hown, hts⟩ := id S
  have hl : lv_has ls 2 [(0, .ref (a0 0)), (1, .ref (a1 0))] := hl
  unfold f_X2_takeInto at hf
  refine lv_aload_n hx hb dX2_takeInto_0 rfl (lv_at hl 0 rfl) ?_
  refine va_get (D := D) (ci := 2) (v := .int o0.2) (C := RX2) (T := TX2) (N := 2) hx hb hts inw_X2_takeInto_2 hown hK hP 0 rfl rfl 1 (by decide) (hts (.fieldLink RX2 18 "RingGames$History" "count" "I") (List.mem_of_getElem? (i := 1) rfl)) (fun _ h9 => h9) rfl dX2_takeInto_1 ?_
  refine lv_if_ne (tgt := 9) hx hb dX2_takeInto_4 (by decide) (fun c1 => ?_) (fun c1 => ?_)
  · have hf := if_f hf c1
    obtain ⟨g, hf⟩ := vg_some hf
    refine lv_aload_n hx hb dX2_takeInto_9 rfl (lv_at hl 0 rfl) ?_
    refine lv_dup hx hb dX2_takeInto_10 rfl ?_
    refine va_get (D := D) (ci := 2) (v := .int o0.2) (C := RX2) (T := TX2) (N := 2) hx hb hts inw_X2_takeInto_2 hown hK hP 0 rfl rfl 1 (by decide) (hts (.fieldLink RX2 18 "RingGames$History" "count" "I") (List.mem_of_getElem? (i := 1) rfl)) (fun _ h9 => h9) rfl dX2_takeInto_11 ?_
    refine lv_iconst (v := 1) hx hb dX2_takeInto_14 (by decide) ?_
    refine lv_isub hx hb dX2_takeInto_15 ?_
    refine va_put (D := D) (ci := 2) (v := .int (o0.2 - 1)) (ty := .int) (C := RX2) (T := TX2) (N := 2) hx hb hts inw_X2_takeInto_2 tyX2 tyX2_ok nmX2 hown hK hP hD hS 0 rfl rfl 1 (by decide) (hts (.fieldLink RX2 18 "RingGames$History" "count" "I") (List.mem_of_getElem? (i := 1) rfl)) (fun _ h9 => h9) rfl (tyX2_ok 1 (by decide)) rfl rfl (Nat.le_of_ble_eq_true rfl) dX2_takeInto_16 (fun H locs hP hD hS => ?_)
    have hP : va_P D vwCl ((w_H a0 cI cS (o0.1, o0.2 - 1) ++ w_S a1 cI o1) ++ R) H := hP
    have hD : va_D A ((w_H a0 cI cS (o0.1, o0.2 - 1) ++ w_S a1 cI o1) ++ R) := hD
    refine lv_aload_n hx hb dX2_takeInto_19 rfl (lv_at hl 1 rfl) ?_
    refine lv_aload_n hx hb dX2_takeInto_20 rfl (lv_at hl 0 rfl) ?_
    refine va_get (D := D) (ci := 2) (v := .ref (a0 1)) (C := RX2) (T := TX2) (N := 2) hx hb hts inw_X2_takeInto_2 hown hK hP 0 rfl rfl 0 (by decide) (hts (.fieldLink RX2 11 "RingGames$History" "states" "[LRingGames$State;") (List.mem_of_getElem? (i := 2) rfl)) (fun _ h9 => h9) rfl dX2_takeInto_21 ?_
    refine lv_aload_n hx hb dX2_takeInto_24 rfl (lv_at hl 0 rfl) ?_
    refine va_get (D := D) (ci := 2) (v := .int (o0.2 - 1)) (C := RX2) (T := TX2) (N := 2) hx hb hts inw_X2_takeInto_2 hown hK hP 0 rfl rfl 1 (by decide) (hts (.fieldLink RX2 18 "RingGames$History" "count" "I") (List.mem_of_getElem? (i := 1) rfl)) (fun _ h9 => h9) rfl dX2_takeInto_25 ?_
    rcases x_in4 g with en | en | en | en
    · rw [en] at hf
      refine x_aldq hx hb hK hP 1 2 rfl rfl g (j := 0) (b := (o0.1 0).2 0) en rfl dX2_takeInto_28 ?_
      obtain ⟨b, hb4, hf⟩ := ob_some hf
      refine xcVv (w' := ((w_H a0 cI cS (o0.1, o0.2 - 1) ++ w_S a1 cI b) ++ R)) S hK hN hA hP hD hS (c_X4_become l D cI cC cS ((xr 32 [26, 27, 28, 29, 30, 31, 2, 3, 4, 5, 6, 7]).filterMap (fun i => (w_H a0 cI cS (o0.1, o0.2 - 1) ++ w_S a1 cI o1)[i]?) ++ R) a1 (o0.1 0).2 o1 (o0.1 0).1 _ hb4) gX2_takeInto_X4_become rfl hd_X4_become ⟨by decide, by decide⟩ (x_cut (pre := (w_H a0 cI cS (o0.1, o0.2 - 1) ++ w_S a1 cI o1)) [26, 27, 28, 29, 30, 31, 2, 3, 4, 5, 6, 7] 32 rfl (by decide +kernel) rfl) (x_back (pre := (w_H a0 cI cS (o0.1, o0.2 - 1) ++ w_S a1 cI o1)) [26, 27, 28, 29, 30, 31, 2, 3, 4, 5, 6, 7] 32 rfl (by decide +kernel) rfl rfl) (ci := 4) (q := (RX4, TX4, 4)) rfl rfl rfl rfl hl.1 rfl (Nat.le_of_ble_eq_true rfl) dX2_takeInto_29 ⟨Nat.zero_le _, Nat.zero_le _⟩ (fun H locs hP hD hS => ?_)
      refine lv_iconst (v := 1) hx hb dX2_takeInto_32 (by decide) ?_
      have hf := Option.some.inj hf
      subst hf
      exact hret _ _ _ _ _ dX2_takeInto_33 rfl hP hD hS rfl
    · rw [en] at hf
      refine x_aldq hx hb hK hP 1 2 rfl rfl g (j := 1) (b := (o0.1 1).2 0) en rfl dX2_takeInto_28 ?_
      obtain ⟨b, hb4, hf⟩ := ob_some hf
      refine xcVv (w' := ((w_H a0 cI cS (o0.1, o0.2 - 1) ++ w_S a1 cI b) ++ R)) S hK hN hA hP hD hS (c_X4_become l D cI cC cS ((xr 32 [26, 27, 28, 29, 30, 31, 8, 9, 10, 11, 12, 13]).filterMap (fun i => (w_H a0 cI cS (o0.1, o0.2 - 1) ++ w_S a1 cI o1)[i]?) ++ R) a1 (o0.1 1).2 o1 (o0.1 1).1 _ hb4) gX2_takeInto_X4_become rfl hd_X4_become ⟨by decide, by decide⟩ (x_cut (pre := (w_H a0 cI cS (o0.1, o0.2 - 1) ++ w_S a1 cI o1)) [26, 27, 28, 29, 30, 31, 8, 9, 10, 11, 12, 13] 32 rfl (by decide +kernel) rfl) (x_back (pre := (w_H a0 cI cS (o0.1, o0.2 - 1) ++ w_S a1 cI o1)) [26, 27, 28, 29, 30, 31, 8, 9, 10, 11, 12, 13] 32 rfl (by decide +kernel) rfl rfl) (ci := 4) (q := (RX4, TX4, 4)) rfl rfl rfl rfl hl.1 rfl (Nat.le_of_ble_eq_true rfl) dX2_takeInto_29 ⟨Nat.zero_le _, Nat.zero_le _⟩ (fun H locs hP hD hS => ?_)
      refine lv_iconst (v := 1) hx hb dX2_takeInto_32 (by decide) ?_
      have hf := Option.some.inj hf
      subst hf
      exact hret _ _ _ _ _ dX2_takeInto_33 rfl hP hD hS rfl
    · rw [en] at hf
      refine x_aldq hx hb hK hP 1 2 rfl rfl g (j := 2) (b := (o0.1 2).2 0) en rfl dX2_takeInto_28 ?_
      obtain ⟨b, hb4, hf⟩ := ob_some hf
      refine xcVv (w' := ((w_H a0 cI cS (o0.1, o0.2 - 1) ++ w_S a1 cI b) ++ R)) S hK hN hA hP hD hS (c_X4_become l D cI cC cS ((xr 32 [26, 27, 28, 29, 30, 31, 14, 15, 16, 17, 18, 19]).filterMap (fun i => (w_H a0 cI cS (o0.1, o0.2 - 1) ++ w_S a1 cI o1)[i]?) ++ R) a1 (o0.1 2).2 o1 (o0.1 2).1 _ hb4) gX2_takeInto_X4_become rfl hd_X4_become ⟨by decide, by decide⟩ (x_cut (pre := (w_H a0 cI cS (o0.1, o0.2 - 1) ++ w_S a1 cI o1)) [26, 27, 28, 29, 30, 31, 14, 15, 16, 17, 18, 19] 32 rfl (by decide +kernel) rfl) (x_back (pre := (w_H a0 cI cS (o0.1, o0.2 - 1) ++ w_S a1 cI o1)) [26, 27, 28, 29, 30, 31, 14, 15, 16, 17, 18, 19] 32 rfl (by decide +kernel) rfl rfl) (ci := 4) (q := (RX4, TX4, 4)) rfl rfl rfl rfl hl.1 rfl (Nat.le_of_ble_eq_true rfl) dX2_takeInto_29 ⟨Nat.zero_le _, Nat.zero_le _⟩ (fun H locs hP hD hS => ?_)
      refine lv_iconst (v := 1) hx hb dX2_takeInto_32 (by decide) ?_
      have hf := Option.some.inj hf
      subst hf
      exact hret _ _ _ _ _ dX2_takeInto_33 rfl hP hD hS rfl
    · rw [en] at hf
      refine x_aldq hx hb hK hP 1 2 rfl rfl g (j := 3) (b := (o0.1 3).2 0) en rfl dX2_takeInto_28 ?_
      obtain ⟨b, hb4, hf⟩ := ob_some hf
      refine xcVv (w' := ((w_H a0 cI cS (o0.1, o0.2 - 1) ++ w_S a1 cI b) ++ R)) S hK hN hA hP hD hS (c_X4_become l D cI cC cS ((xr 32 [26, 27, 28, 29, 30, 31, 20, 21, 22, 23, 24, 25]).filterMap (fun i => (w_H a0 cI cS (o0.1, o0.2 - 1) ++ w_S a1 cI o1)[i]?) ++ R) a1 (o0.1 3).2 o1 (o0.1 3).1 _ hb4) gX2_takeInto_X4_become rfl hd_X4_become ⟨by decide, by decide⟩ (x_cut (pre := (w_H a0 cI cS (o0.1, o0.2 - 1) ++ w_S a1 cI o1)) [26, 27, 28, 29, 30, 31, 20, 21, 22, 23, 24, 25] 32 rfl (by decide +kernel) rfl) (x_back (pre := (w_H a0 cI cS (o0.1, o0.2 - 1) ++ w_S a1 cI o1)) [26, 27, 28, 29, 30, 31, 20, 21, 22, 23, 24, 25] 32 rfl (by decide +kernel) rfl rfl) (ci := 4) (q := (RX4, TX4, 4)) rfl rfl rfl rfl hl.1 rfl (Nat.le_of_ble_eq_true rfl) dX2_takeInto_29 ⟨Nat.zero_le _, Nat.zero_le _⟩ (fun H locs hP hD hS => ?_)
      refine lv_iconst (v := 1) hx hb dX2_takeInto_32 (by decide) ?_
      have hf := Option.some.inj hf
      subst hf
      exact hret _ _ _ _ _ dX2_takeInto_33 rfl hP hD hS rfl
  · have hf := if_t hf c1
    refine lv_iconst (v := 0) hx hb dX2_takeInto_7 (by decide) ?_
    have hf := Option.some.inj hf
    subst hf
    exact hret _ _ _ _ _ dX2_takeInto_8 rfl hP hD hS rfl
