/-! Our own rows over the kit's: contracts whose world has a frame R behind the method's own cells. -/
theorem if_t {c : Prop} {i : Decidable c} {α : Type} {a b o : α} (h : (@ite α c i a b) = o) (hc : c) : a = o := by
  rw [if_pos hc] at h
  exact h
theorem if_f {c : Prop} {i : Decidable c} {α : Type} {a b o : α} (h : (@ite α c i a b) = o) (hc : ¬ c) : b = o := by
  rw [if_neg hc] at h
  exact h
theorem ob_some {α β : Type} {x : Option α} {f : α → Option β} {o : β} (h : x.bind f = some o) : ∃ q, x = some q ∧ f q = some o := by
  cases x with
  | none => cases h
  | some q => exact ⟨q, rfl, h⟩
theorem ob_inr {α β : Type} {f : β → Option α} {q : β} {o : α} (h : Sum.elim (fun rr => some rr) f (Sum.inr q : α ⊕ β) = some o) : f q = some o := h
/-- an index is looked at -/
def vg {α : Type} (i : Int32) (n : Nat) (x : Option α) : Option α := if i < 0 ∨ n ≤ i.toNatClampNeg then none else x
theorem vg_some {α : Type} {i : Int32} {n : Nat} {x : Option α} {o : α} (h : vg i n x = some o) : vp_in i n ∧ x = some o := by
  unfold vg at h
  by_cases hc : i < 0 ∨ n ≤ i.toNatClampNeg
  · rw [if_pos hc] at h; cases h
  · rw [if_neg hc] at h; exact ⟨hc, h⟩
/-- a number that is 0 or 1 -/
def zg {α : Type} (i : Int32) (x : Option α) : Option α := if i = 0 ∨ i = 1 then x else none
theorem zg_some {α : Type} {i : Int32} {x : Option α} {o : α} (h : zg i x = some o) : (i = 0 ∨ i = 1) ∧ x = some o := by
  unfold zg at h
  by_cases hc : i = 0 ∨ i = 1
  · rw [if_pos hc] at h; exact ⟨hc, h⟩
  · rw [if_neg hc] at h; cases h
theorem z_nar {i : Int32} (h : i = 0 ∨ i = 1) : narrow .boolean (.int i) = .int i := by
  rcases h with rfl | rfl <;> rfl
theorem z_fit {i : Int32} (h : i = 0 ∨ i = 1) : fits .boolean (.int i) = true := by
  rcases h with rfl | rfl <;> rfl
/-- a value gets a name -/
def lt {α β : Type} (e : α) (k : α → Option β) : Option β := k e
theorem lt_some {α β : Type} {e : α} {k : α → Option β} {o : β} (h : lt e k = some o) : ∃ x, x = e ∧ k x = some o := ⟨e, rfl, h⟩
abbrev jshl (x y : Int32) : Int32 := x <<< (y &&& 31)
abbrev jshr (x y : Int32) : Int32 := x >>> (y &&& 31)
abbrev jrem (x y : Int32) : Int32 := x - x / y * y
abbrev jushr (x y : Int32) : Int32 := (x.toUInt32 >>> (y.toUInt32 &&& Int32.toUInt32 31)).toInt32
theorem x_ne {x k : Int32} (h : ¬ x = k) : x.toInt ≠ k.toInt := fun e => h (Int32.toInt_inj.mp e)
-- worlds
theorem xP_perm {D : va_G} {cl : List vw_C} {w w' : va_W} {H : Heap} (h : va_P D cl w H) (hp : w.Perm w') : va_P D cl w' H := by
  intro k q hk
  obtain ⟨i, hi⟩ := List.getElem?_of_mem (hp.mem_iff.mpr (List.mem_of_getElem? hk))
  exact h i q hi
theorem xD_iff {A : Nat → Prop} {w : va_W} : va_D A w ↔ (w.map (fun q => q.1)).Nodup ∧ ∀ q ∈ w, A q.1 := by
  constructor
  · intro h
    refine ⟨?_, fun q hq => ?_⟩
    · rw [List.nodup_iff_pairwise_ne, List.pairwise_iff_getElem]
      intro i j hi hj hij he
      rw [List.length_map] at hi hj
      rw [List.getElem_map, List.getElem_map] at he
      have := h.1 i j w[i] w[j] (List.getElem?_eq_getElem hi) (List.getElem?_eq_getElem hj) he
      omega
    · obtain ⟨i, hi⟩ := List.getElem?_of_mem hq
      exact h.2 i q hi
  · intro h
    refine ⟨fun i j p q hi hj he => ?_, fun k q hk => h.2 q (List.mem_of_getElem? hk)⟩
    have hpw := h.1
    rw [List.nodup_iff_pairwise_ne, List.pairwise_iff_getElem] at hpw
    obtain ⟨li, ei⟩ := List.getElem?_eq_some_iff.mp hi
    obtain ⟨lj, ej⟩ := List.getElem?_eq_some_iff.mp hj
    rcases Nat.lt_trichotomy i j with hlt | rfl | hlt
    · exact absurd (by rw [List.getElem_map, List.getElem_map, ei, ej]; exact he) (hpw i j (by rw [List.length_map]; exact li) (by rw [List.length_map]; exact lj) hlt)
    · rfl
    · exact absurd (by rw [List.getElem_map, List.getElem_map, ei, ej]; exact he.symm) (hpw j i (by rw [List.length_map]; exact lj) (by rw [List.length_map]; exact li) hlt)
theorem xD_perm {A : Nat → Prop} {w w' : va_W} (h : va_D A w) (hp : w.Perm w') : va_D A w' := by
  rw [xD_iff] at h ⊢
  exact ⟨(hp.map _).nodup_iff.mp h.1, fun q hq => h.2 q (hp.mem_iff.mpr hq)⟩
/-- the places of a world of n cells that stand not in a list -/
def xr (n : Nat) (isC : List Nat) : List Nat := (List.range n).filter (fun i => !isC.contains i)
theorem x_fm {pre : va_W} : ∀ (is : List Nat) (l : va_W), is.map (fun i => pre[i]?) = l.map some → is.filterMap (fun i => pre[i]?) = l
  | [], l, h => by
    cases l with
    | nil => rfl
    | cons a t => cases h
  | i :: is, l, h => by
    cases l with
    | nil => cases h
    | cons a t =>
      rw [List.map_cons, List.map_cons] at h
      injection h with h1 h2
      rw [List.filterMap_cons, h1]
      exact congrArg _ (x_fm is t h2)
theorem x_rng (pre : va_W) : (List.range pre.length).filterMap (fun i => pre[i]?) = pre := by
  refine x_fm _ _ ?_
  apply List.ext_getElem?
  intro i
  rw [List.getElem?_map, List.getElem?_map]
  by_cases h : i < pre.length
  · rw [List.getElem?_range h]
    show some pre[i]? = Option.map some pre[i]?
    rw [List.getElem?_eq_getElem h]
    rfl
  · rw [List.getElem?_eq_none (by rw [List.length_range]; omega), List.getElem?_eq_none (by omega)]
    rfl
theorem x_pm0 {pre : va_W} {is : List Nat} {n : Nat} (hn : pre.length = n) (h2 : is.isPerm (List.range n) = true) : (is.filterMap (fun i => pre[i]?)).Perm pre := by
  have h := (List.isPerm_iff.mp h2).filterMap (fun i => pre[i]?)
  subst hn
  rw [x_rng] at h
  exact h
/-- a callee's cells are cut out of the caller's -/
theorem x_cut {pre wc R : va_W} (isC : List Nat) (n : Nat) (hn : pre.length = n) (h2 : (isC ++ xr n isC).isPerm (List.range n) = true) (h1 : isC.map (fun i => pre[i]?) = wc.map some) : (pre ++ R).Perm (wc ++ ((xr n isC).filterMap (fun i => pre[i]?) ++ R)) := by
  have h := x_pm0 hn h2
  rw [List.filterMap_append, x_fm _ _ h1] at h
  rw [← List.append_assoc]
  exact List.Perm.append_right R h.symm
/-- reading by another name, so that two worlds are compared cell by cell -/
def xg : va_W → Nat → Option (Nat × va_E)
  | [], _ => none
  | a :: _, 0 => some a
  | _ :: l, n + 1 => xg l n
theorem xg_eq : ∀ (l : va_W) (i : Nat), xg l i = l[i]?
  | [], i => rfl
  | a :: l, 0 => rfl
  | a :: l, n + 1 => by rw [List.getElem?_cons_succ]; exact xg_eq l n
def xm (pre : va_W) : List Nat → List (Option (Nat × va_E))
  | [] => []
  | i :: l => xg pre i :: xm pre l
theorem xm_eq (pre : va_W) : ∀ l : List Nat, xm pre l = l.map (fun i => pre[i]?)
  | [] => rfl
  | i :: l => by rw [List.map_cons, xm, xg_eq, xm_eq pre l]
/-- and put back -/
theorem x_back {pre pre' wc' R : va_W} (isC : List Nat) (n : Nat) (hn : pre'.length = n) (h2 : (isC ++ xr n isC).isPerm (List.range n) = true) (h1 : isC.map (fun i => pre'[i]?) = wc'.map some) (h3 : (xr n isC).map (fun i => pre'[i]?) = xm pre (xr n isC)) : (wc' ++ ((xr n isC).filterMap (fun i => pre[i]?) ++ R)).Perm (pre' ++ R) := by
  rw [xm_eq] at h3
  have e : (xr n isC).filterMap (fun i => pre[i]?) = (xr n isC).filterMap (fun i => pre'[i]?) := by
    have k : ∀ l : List Nat, l.map (fun i => pre'[i]?) = l.map (fun i => pre[i]?) → l.filterMap (fun i => pre[i]?) = l.filterMap (fun i => pre'[i]?) := by
      intro l
      induction l with
      | nil => intro _; rfl
      | cons a t ih =>
        intro h
        rw [List.map_cons, List.map_cons] at h
        injection h with g1 g2
        rw [List.filterMap_cons, List.filterMap_cons, g1, ih g2]
    exact k _ h3
  rw [e]
  exact (x_cut isC n hn h2 h1).symm
def xTy (cI cC cS : ClassId) : List (ClassId × FieldType) := [(cI, .int), (cC, .char), (cS, .object "RingGames$State")]
/-- the private members of nest mates that are called -/
def xNl : List (String × Nat × MethodName) := [(RX6, 11, yX4_init), (RX6, 32, yX0_init), (RX6, 39, yX1_init), (RX6, 46, yX3_init), (RX6, 53, yX5_init), (RX0, 37, yX6_bit), (RX1, 31, yX6_bit), (RX1, 43, yX6_contains), (RX2, 17, yX4_init), (RX3, 46, yX6_contains), (RX4, 11, yX1_init), (RX5, 15, yX6_bit), (RX5, 33, yX6_contains)]
def xN (U : State) : Prop := (∀ q ∈ xNl, va_Nw (.methodLinkNest q.1 q.2.1 q.2.2 RX6) U) ∧ va_AO "RingGames$State" U
theorem xN.moved {s U : State} (hW : s.WarmedH U.vm) (h : xN s) : xN U := ⟨fun q hq => va_Nw.warmM hW (h.1 q hq), va_AO.moved hW.alike h.2⟩
theorem xN.same {u U : State} (e : u.vm = U.vm) (h : xN u) : xN U := ⟨fun q hq => va_Nw.same rfl e (h.1 q hq), va_AO.moved (e ▸ Vm.Alike.refl _) h.2⟩
theorem xN.at {s : State} (h : xN s) (k : Nat) {q : String × Nat × MethodName} (hk : xNl[k]? = some q) : va_Nw (.methodLinkNest q.1 q.2.1 q.2.2 RX6) s := h.1 q (List.mem_of_getElem? hk)
def xB (D : va_G) (cI cC cS : ClassId) (w : va_W) (U : State) : Prop := va_P D vwCl w U.heap ∧ va_K D vwCl (xTy cI cC cS) U ∧ va_D (fun _ => True) w ∧ xN U
def xT (D : va_G) (w' : va_W) (A : Nat → Prop) : Unit → State → Prop := fun _ t => va_P D vwCl w' t.heap ∧ va_D A w'
/-- the contract of a method that answers r and makes of the cells w the cells w' -/
def CI (l : Launch) (y : MethodName) (ws : List Cond) (fr lc : Nat) (D : va_G) (cI cC cS : ClassId) (av : List Value) (w : va_W) (r : Int32) (w' : va_W) : Prop :=
  ∀ sz : Nat, Met l y ws ({ frames := fr, cells := 0, slots := 0, locals := lc }) (va_Pc av (fun U => U.heap.size = sz ∧ xB D cI cC cS w U)) (va_Qi (fun (q : Int32) (_ : Unit) => q = r) (xT D w' (va_A w sz)) (va_A w sz)) 0 0 (va_A w sz)
def CV (l : Launch) (y : MethodName) (ws : List Cond) (fr lc : Nat) (D : va_G) (cI cC cS : ClassId) (av : List Value) (w : va_W) (w' : va_W) : Prop :=
  ∀ sz : Nat, Met l y ws ({ frames := fr, cells := 0, slots := 0, locals := lc }) (va_Pc av (fun U => U.heap.size = sz ∧ xB D cI cC cS w U)) (va_Qv (fun (_ : Unit) => True) (xT D w' (va_A w sz)) (va_A w sz)) 0 0 (va_A w sz)
theorem CI.of {l : Launch} {y : MethodName} {ws ws' : List Cond} {fr lc : Nat} {D : va_G} {cI cC cS : ClassId} {av : List Value} {w w' : va_W} {r : Int32} {cc : ByteArray} {maxL : Nat} {ret : Option FieldType} {own : String} (hy : plainName y.cls = true) (hyc : y.cls = own) (hw : ws = Cond.code y cc maxL ret :: ws') (hav : (lg_sl av).length ≤ maxL)
    (body : ∀ (p : Program) (e : Env) (s : State) (m : MethodId) (below : List Frame) (meth : Method) (c : Code) (A : Nat → Prop), CallFix p m c cc maxL s av.toArray ws own → meth.sig.returnType = ret → meth.locks = false → va_K D vwCl (xTy cI cC cS) s → xN s → (∀ q, s.heap.size ≤ q → A q) → va_P D vwCl w s.heap → va_D A w → va_S A s.heap s.heap [] → ∀ ls : Array Slot, lv_has ls maxL (lv_args 0 av) →
      W p l e ({ frames := fr, cells := 0, slots := 0, locals := lc }) s m av.toArray below meth c s.heap [] 0 0 (MQ below (va_Qi (fun (q : Int32) (_ : Unit) => q = r) (xT D w' A) A) av.toArray s 0 0 A) (F0 m 0 ls [])) :
    CI l y ws fr lc D cI cC cS av w r w' := by
  intro sz
  refine Met.ofW (cc := cc) (maxL := maxL) (ret := ret) hy hw ?_
  intro p e s m args below meth c s₁ B hml hv
  obtain ⟨rfl, hsz, hP, hK, hD0, hN⟩ := hv
  have hts := atoms_spec (ws := ws) B.pre
  have hown : s.vm.findClass own = some m.cls := hyc ▸ findClass_of_methodNamed B.named
  subst hsz
  have hl := lv_entry av (n := maxL) hav
  rw [lg_entry_eq]
  exact body p e s m below meth c (va_A w s.heap.size) ⟨B.exec, B.bytes, hml, hown, hts⟩ B.returns B.notSynchronized hK hN (fun q h => Or.inr h) hP (hD0.self) va_S.rf _ hl
theorem CV.of {l : Launch} {y : MethodName} {ws ws' : List Cond} {fr lc : Nat} {D : va_G} {cI cC cS : ClassId} {av : List Value} {w w' : va_W} {cc : ByteArray} {maxL : Nat} {ret : Option FieldType} {own : String} (hy : plainName y.cls = true) (hyc : y.cls = own) (hw : ws = Cond.code y cc maxL ret :: ws') (hav : (lg_sl av).length ≤ maxL)
    (body : ∀ (p : Program) (e : Env) (s : State) (m : MethodId) (below : List Frame) (meth : Method) (c : Code) (A : Nat → Prop), CallFix p m c cc maxL s av.toArray ws own → meth.sig.returnType = ret → meth.locks = false → va_K D vwCl (xTy cI cC cS) s → xN s → (∀ q, s.heap.size ≤ q → A q) → va_P D vwCl w s.heap → va_D A w → va_S A s.heap s.heap [] → ∀ ls : Array Slot, lv_has ls maxL (lv_args 0 av) →
      W p l e ({ frames := fr, cells := 0, slots := 0, locals := lc }) s m av.toArray below meth c s.heap [] 0 0 (MQ below (va_Qv (fun (_ : Unit) => True) (xT D w' A) A) av.toArray s 0 0 A) (F0 m 0 ls [])) :
    CV l y ws fr lc D cI cC cS av w w' := by
  intro sz
  refine Met.ofW (cc := cc) (maxL := maxL) (ret := ret) hy hw ?_
  intro p e s m args below meth c s₁ B hml hv
  obtain ⟨rfl, hsz, hP, hK, hD0, hN⟩ := hv
  have hts := atoms_spec (ws := ws) B.pre
  have hown : s.vm.findClass own = some m.cls := hyc ▸ findClass_of_methodNamed B.named
  subst hsz
  have hl := lv_entry av (n := maxL) hav
  rw [lg_entry_eq]
  exact body p e s m below meth c (va_A w s.heap.size) ⟨B.exec, B.bytes, hml, hown, hts⟩ B.returns B.notSynchronized hK hN (fun q h => Or.inr h) hP (hD0.self) va_S.rf _ hl
theorem x_blind {av : List Value} {sz : Nat} {D : va_G} {cI cC cS : ClassId} {w : va_W} : FrameBlind (va_Pc av (fun U => U.heap.size = sz ∧ xB D cI cC cS w U)) := fun a U g mk q => by
  obtain ⟨q0, q1, qP, qK, qD, qN⟩ := q
  exact ⟨q0, q1, qP, va_K.moved (u := U) (U := U.calling g mk a) (Vm.Alike.refl U.vm) qK, qD, xN.same (u := U) (U := U.calling g mk a) rfl qN⟩
section XC
variable {p : Program} {l : Launch} {e : Env} {R : Room} {s : State} {m : MethodId} {args : Array Value} {below : List Frame} {meth : Method} {c : Code} {H : Heap} {locs : List Loc} {cells slots : Nat} {Q : State → Prop} {pc : Nat} {ls : Array Slot} {st rest : List Value} {A : Nat → Prop} {cc bytes : ByteArray} {nL maxL n index fr lc ci : Nat} {Ts wds wds' : List Cond} {own C : String} {y : MethodName} {ret : Option FieldType} {D : va_G} {cI cC cS : ClassId} {b : Addr} {As : List Value} {w wc wc' w' : va_W} {r : Int32} {q : vw_C} {fs : List Value}
theorem xr_i {v : Int32} (hx : p.tables.exec = Jvm.exec) (hb : c.code = cc) (hr : meth.sig.returnType = some .int) (hlk : meth.locks = false) (hP : va_P D vwCl w' H) (hD : va_D A w') (hS : va_S A s.heap H locs) (hv : v = r) (hdg : decode cc pc = .ok (.ireturn, 1)) : W p l e R s m args below meth c H locs cells slots (MQ below (va_Qi (fun (q : Int32) (_ : Unit) => q = r) (xT D w' A) A) args s cells slots A) (F0 m pc ls [.int v]) :=
  W.iret hx hb hr (fun t ht _ => ⟨⟨v, (), rfl, hv, by rw [ht]; exact hP, hD⟩, hS.F ht⟩) hS.2.2 hdg hlk
theorem xr_z {v : Int32} {ty : FieldType} (hx : p.tables.exec = Jvm.exec) (hb : c.code = cc) (hr : meth.sig.returnType = some ty) (hn : narrow ty (.int v) = .int v) (hlk : meth.locks = false) (hP : va_P D vwCl w' H) (hD : va_D A w') (hS : va_S A s.heap H locs) (hv : v = r) (hdg : decode cc pc = .ok (.ireturn, 1)) : W p l e R s m args below meth c H locs cells slots (MQ below (va_Qi (fun (q : Int32) (_ : Unit) => q = r) (xT D w' A) A) args s cells slots A) (F0 m pc ls [.int v]) :=
  W.zret hx hb hr hn (fun t ht _ => ⟨⟨v, (), rfl, hv, by rw [ht]; exact hP, hD⟩, hS.F ht⟩) hS.2.2 hdg hlk
theorem xr_v (hx : p.tables.exec = Jvm.exec) (hb : c.code = cc) (hr : meth.sig.returnType = none) (hlk : meth.locks = false) (hP : va_P D vwCl w' H) (hD : va_D A w') (hS : va_S A s.heap H locs) (hdg : decode cc pc = .ok (.return_, 1)) : W p l e R s m args below meth c H locs cells slots (MQ below (va_Qv (fun (_ : Unit) => True) (xT D w' A) A) args s cells slots A) (F0 m pc ls []) :=
  W.vret hx hb hr (fun t ht _ => ⟨⟨(), rfl, trivial, by rw [ht]; exact hP, hD⟩, hS.F ht⟩) hS.2.2 hdg hlk
theorem x_free (hA : ∀ q, s.heap.size ≤ q → A q) (hDc : va_D A wc) (hS : va_S A s.heap H locs) : ∀ q, va_A wc H.size q → A q := by
  intro q h
  rcases h with ⟨k, e, h⟩ | h
  · exact hDc.2 k (q, e) h
  · exact hA q (Nat.le_trans hS.1 h)
/-- a virtual call that answers a number -/
theorem xcVi (S : CallFix p m c cc nL s args Ts own) (hK : va_K D vwCl (xTy cI cC cS) s) (hN : xN s) (hA : ∀ q, s.heap.size ≤ q → A q) (hP : va_P D vwCl w H) (hD : va_D A w) (hS : va_S A s.heap H locs)
    (hM : CI l y wds fr lc D cI cC cS (.ref b :: As) wc r wc') (hG : GoodIn Ts (wsV own index C y wds)) (hw : wds = Cond.code y bytes maxL ret :: wds') (hd : y.cls = C ∧ y.cls ≠ "java/lang/invoke/MethodHandle" ∧ y.cls ≠ "java/lang/invoke/VarHandle" ∧ (parseMethodDescriptor y.desc).map (fun d => d.parameters.length) = some n) (hR : fr + 1 ≤ R.frames ∧ 8 + (maxL + 11) + lc ≤ R.locals)
    (hp : w.Perm wc) (hp' : wc'.Perm w') (he : wc[0]? = some (b, .inr (ci, fs))) (hcl : vwCl[ci]? = some q) (hq : q.1 = C) (hn : As.length = n) (hsz : ls.size = nL) (hst : st = As.reverse ++ .ref b :: rest) (hrm : (rest.map fun v => v.category).sum ≤ 8) (hdg : decode cc pc = .ok (.invokevirtual index, 3)) (hf : cells ≤ R.cells ∧ slots ≤ R.slots)
    (kk : ∀ (H1 : Heap) (locs1 : List Loc), va_P D vwCl w' H1 → va_D A w' → va_S A s.heap H1 locs1 → W p l e R s m args below meth c H1 locs1 cells slots Q (F0 m (pc + 3) ls (.int r :: rest))) : W p l e R s m args below meth c H locs cells slots Q (F0 m pc ls st) := by
  have hPc : va_P D vwCl wc H := xP_perm hP hp
  have hDc : va_D A wc := xD_perm hD hp
  have hF : ∀ q, va_A wc H.size q → A q := x_free hA hDc hS
  refine va_calli (va_runV (As := As) (rest := rest) S (hM H.size) (cwV n S.2.2.2.2 hG hw rfl rfl hd hR) ⟨x_blind, by subst hq; exact va_recv hK hPc hcl he, fun U hU hW => ⟨rfl, by rw [hU], by rw [hU]; exact hPc, va_K.moved hW.alike hK, hDc.weaken (fun _ _ _ _ => trivial), hN.moved hW⟩⟩ rfl hn hsz hst (lv_room hrm) hdg hf) hS (fun q _ h => hF q h) hF (fun r' u t H1 locs1 ht _ hw' hB _ _ hS1 => ?_)
  obtain ⟨hP1, hD1⟩ := hB
  rw [ht] at hP1
  rw [hw']
  exact kk H1 locs1 (xP_perm hP1 hp') (xD_perm (hD1.weaken (fun _ q _ h => hF _ h)) hp') hS1
theorem xcVv (S : CallFix p m c cc nL s args Ts own) (hK : va_K D vwCl (xTy cI cC cS) s) (hN : xN s) (hA : ∀ q, s.heap.size ≤ q → A q) (hP : va_P D vwCl w H) (hD : va_D A w) (hS : va_S A s.heap H locs)
    (hM : CV l y wds fr lc D cI cC cS (.ref b :: As) wc wc') (hG : GoodIn Ts (wsV own index C y wds)) (hw : wds = Cond.code y bytes maxL ret :: wds') (hd : y.cls = C ∧ y.cls ≠ "java/lang/invoke/MethodHandle" ∧ y.cls ≠ "java/lang/invoke/VarHandle" ∧ (parseMethodDescriptor y.desc).map (fun d => d.parameters.length) = some n) (hR : fr + 1 ≤ R.frames ∧ 8 + (maxL + 11) + lc ≤ R.locals)
    (hp : w.Perm wc) (hp' : wc'.Perm w') (he : wc[0]? = some (b, .inr (ci, fs))) (hcl : vwCl[ci]? = some q) (hq : q.1 = C) (hn : As.length = n) (hsz : ls.size = nL) (hst : st = As.reverse ++ .ref b :: rest) (hrm : (rest.map fun v => v.category).sum ≤ 8) (hdg : decode cc pc = .ok (.invokevirtual index, 3)) (hf : cells ≤ R.cells ∧ slots ≤ R.slots)
    (kk : ∀ (H1 : Heap) (locs1 : List Loc), va_P D vwCl w' H1 → va_D A w' → va_S A s.heap H1 locs1 → W p l e R s m args below meth c H1 locs1 cells slots Q (F0 m (pc + 3) ls rest)) : W p l e R s m args below meth c H locs cells slots Q (F0 m pc ls st) := by
  have hPc : va_P D vwCl wc H := xP_perm hP hp
  have hDc : va_D A wc := xD_perm hD hp
  have hF : ∀ q, va_A wc H.size q → A q := x_free hA hDc hS
  refine va_callv (va_runV (As := As) (rest := rest) S (hM H.size) (cwV n S.2.2.2.2 hG hw rfl rfl hd hR) ⟨x_blind, by subst hq; exact va_recv hK hPc hcl he, fun U hU hW => ⟨rfl, by rw [hU], by rw [hU]; exact hPc, va_K.moved hW.alike hK, hDc.weaken (fun _ _ _ _ => trivial), hN.moved hW⟩⟩ rfl hn hsz hst (lv_room hrm) hdg hf) hS (fun q _ h => hF q h) hF (fun u t H1 locs1 ht _ hw' hB _ _ hS1 => ?_)
  obtain ⟨hP1, hD1⟩ := hB
  rw [ht] at hP1
  exact kk H1 locs1 (xP_perm hP1 hp') (xD_perm (hD1.weaken (fun _ q _ h => hF _ h)) hp') hS1
/-- a static call of an own or a JDK method, which touches no cell: the world stays -/
theorem xcSi (S : CallFix p m c cc nL s args Ts own) (hK : va_K D vwCl (xTy cI cC cS) s) (hN : xN s) (hA : ∀ q, s.heap.size ≤ q → A q) (hP : va_P D vwCl w H) (hD : va_D A w) (hS : va_S A s.heap H locs)
    (hM : CI l y wds fr lc D cI cC cS As w r w) (hG : GoodIn Ts (va_wsS own index y wds)) (hw : wds = Cond.code y bytes maxL ret :: wds') (hd : y.cls ≠ "java/lang/invoke/MethodHandle" ∧ y.cls ≠ "java/lang/invoke/VarHandle" ∧ (parseMethodDescriptor y.desc).map (fun d => d.parameters.length) = some n) (hR : fr + 1 ≤ R.frames ∧ 8 + (maxL + 11) + lc ≤ R.locals)
    (hn : As.length = n) (hsz : ls.size = nL) (hst : st = As.reverse ++ rest) (hrm : (rest.map fun v => v.category).sum ≤ 8) (hdg : decode cc pc = .ok (.invokestatic index, 3)) (hf : cells ≤ R.cells ∧ slots ≤ R.slots)
    (kk : ∀ (H1 : Heap) (locs1 : List Loc), va_P D vwCl w H1 → va_D A w → va_S A s.heap H1 locs1 → W p l e R s m args below meth c H1 locs1 cells slots Q (F0 m (pc + 3) ls (.int r :: rest))) : W p l e R s m args below meth c H locs cells slots Q (F0 m pc ls st) := by
  have hF : ∀ q, va_A w H.size q → A q := x_free hA hD hS
  refine va_calli (va_runS (As := As) (rest := rest) S (hM H.size) (va_cwS n S.2.2.2.2 hG hw rfl rfl hd hR) ⟨x_blind, fun U hU hW => ⟨rfl, by rw [hU], by rw [hU]; exact hP, va_K.moved hW.alike hK, hD.weaken (fun _ _ _ _ => trivial), hN.moved hW⟩⟩ rfl hn hsz hst (lv_room hrm) hdg hf) hS (fun q _ h => hF q h) hF (fun r' u t H1 locs1 ht _ hw' hB _ _ hS1 => ?_)
  obtain ⟨hP1, hD1⟩ := hB
  rw [ht] at hP1
  rw [hw']
  exact kk H1 locs1 hP1 (hD1.weaken (fun _ q _ h => hF _ h)) hS1
/-- a static call of a nest mate's private method -/
theorem xcNi (S : CallFix p m c cc nL s args Ts own) (hK : va_K D vwCl (xTy cI cC cS) s) (hN : xN s) (hA : ∀ q, s.heap.size ≤ q → A q) (hP : va_P D vwCl w H) (hD : va_D A w) (hS : va_S A s.heap H locs)
    (hM : CI l y wds fr lc D cI cC cS As w r w) (k : Nat) (hk : xNl[k]? = some (own, index, y)) (hG : GoodIn Ts wds) (hst1 : Cond.static y ∈ Ts) (hini : Cond.initialized y.cls ∈ Ts) (hw : wds = Cond.code y bytes maxL ret :: wds') (hd : y.cls ≠ "java/lang/invoke/MethodHandle" ∧ y.cls ≠ "java/lang/invoke/VarHandle" ∧ (parseMethodDescriptor y.desc).map (fun d => d.parameters.length) = some n) (hR : fr + 1 ≤ R.frames ∧ 8 + (maxL + 11) + lc ≤ R.locals)
    (hn : As.length = n) (hsz : ls.size = nL) (hst : st = As.reverse ++ rest) (hrm : (rest.map fun v => v.category).sum ≤ 8) (hdg : decode cc pc = .ok (.invokestatic index, 3)) (hf : cells ≤ R.cells ∧ slots ≤ R.slots)
    (kk : ∀ (H1 : Heap) (locs1 : List Loc), va_P D vwCl w H1 → va_D A w → va_S A s.heap H1 locs1 → W p l e R s m args below meth c H1 locs1 cells slots Q (F0 m (pc + 3) ls (.int r :: rest))) : W p l e R s m args below meth c H locs cells slots Q (F0 m pc ls st) := by
  have hF : ∀ q, va_A w H.size q → A q := x_free hA hD hS
  refine va_calli (va_runSN (As := As) (rest := rest) (host := RX6) S (hM H.size) ⟨va_cnB n S.2.2.2.2 hG hw rfl rfl (hN.at k hk) (S.2.2.2.2 _ hini) hd hR, S.2.2.2.2 _ hst1, trivial⟩ ⟨x_blind, fun U hU hW => ⟨rfl, by rw [hU], by rw [hU]; exact hP, va_K.moved hW.alike hK, hD.weaken (fun _ _ _ _ => trivial), hN.moved hW⟩⟩ rfl hn hsz hst (lv_room hrm) hdg hf) hS (fun q _ h => hF q h) hF (fun r' u t H1 locs1 ht _ hw' hB _ _ hS1 => ?_)
  obtain ⟨hP1, hD1⟩ := hB
  rw [ht] at hP1
  rw [hw']
  exact kk H1 locs1 hP1 (hD1.weaken (fun _ q _ h => hF _ h)) hS1
theorem lv_nm {x y : Int32} (h : x = y) (k : W p l e R s m args below meth c H locs cells slots Q (F0 m pc ls (.int x :: rest))) : W p l e R s m args below meth c H locs cells slots Q (F0 m pc ls (.int y :: rest)) := h ▸ k
end XC
abbrev j2c (x : Int32) : Int32 := (x.toUInt32 % 65536).toInt32
def cp14 (f g : Nat → Int32) : Nat → Int32 := va_cpy f g 0 0 14
theorem x_in {i : Int32} {n : Nat} (h : ¬ (i < 0 ∨ n ≤ i.toNatClampNeg)) : vp_in i n := h
abbrev xR (fr lc : Nat) : Room := { frames := fr, cells := 0, slots := 0, locals := lc }
/-- the states of the objects: a game (size, owners, colours, arrows); a state (game, choices, token, steps); the history (its states with their cells, how many); the text; measures (most, found, last round); a walk (ways, steps, endless, last) -/
abbrev GG : Type := Int32 × (Nat → Int32) × (Nat → Int32) × (Nat → Int32)
abbrev SS : Type := GG × (Nat → Int32) × Int32 × Int32
abbrev HH : Type := (Nat → SS × (Nat → Nat)) × Int32
abbrev TT : Type := (Nat → Int32) × Int32
abbrev EE : Type := (Nat → Int32) × (Nat → Int32) × Int32
abbrev KK : Type := (Nat → Int32) × Int32 × Int32 × Int32
def w_G (a : Nat → Nat) (cI : ClassId) (g : GG) : va_W := [(a 0, .inr (1, [.int g.1, .ref (a 1), .ref (a 2), .ref (a 3)])), (a 1, .inl (cI, 14, .inl g.2.1)), (a 2, .inl (cI, 14, .inl g.2.2.1)), (a 3, .inl (cI, 14, .inl g.2.2.2))]
def w_S (a : Nat → Nat) (cI : ClassId) (u : SS) : va_W := (a 0, .inr (4, [.ref (a 2), .ref (a 1), .int u.2.2.1, .int u.2.2.2])) :: (a 1, .inl (cI, 14, .inl u.2.1)) :: w_G (fun k => a (k + 2)) cI u.1
def w_H (a : Nat → Nat) (cI cS : ClassId) (h : HH) : va_W := (a 0, .inr (2, [.ref (a 1), .int h.2])) :: (a 1, .inl (cS, 4, .inr (.inr (.inr (.inr (fun k => some ((h.1 k).2 0))))))) :: (w_S (h.1 0).2 cI (h.1 0).1 ++ (w_S (h.1 1).2 cI (h.1 1).1 ++ (w_S (h.1 2).2 cI (h.1 2).1 ++ w_S (h.1 3).2 cI (h.1 3).1)))
def w_T (a : Nat → Nat) (cC : ClassId) (t : TT) : va_W := [(a 0, .inr (0, [.ref (a 1), .int t.2])), (a 1, .inl (cC, 60, .inl t.1))]
def w_E (a : Nat → Nat) (cI : ClassId) (e : EE) : va_W := [(a 0, .inr (3, [.ref (a 1), .ref (a 2), .int e.2.2])), (a 1, .inl (cI, 4, .inl e.1)), (a 2, .inl (cI, 14, .inl e.2.1))]
def w_K (a : Nat → Nat) (cI : ClassId) (k : KK) : va_W := [(a 0, .inr (5, [.ref (a 1), .int k.2.1, .int k.2.2.1, .int k.2.2.2])), (a 1, .inl (cI, 14, .inl k.1))]
def w_X (ad : Nat → Nat → Nat) (cI cC cS : ClassId) (now : SS) (hist : HH) (snap : SS) (has : Int32) (text : TT) (trial : GG) (meas : EE) (walk : KK) : va_W := (ad 0 0, .inr (6, [.ref (ad 1 0), .ref (ad 2 0), .ref (ad 3 0), .int has, .ref (ad 4 0), .ref (ad 5 0), .ref (ad 6 0), .ref (ad 7 0)])) :: (w_S (ad 1) cI now ++ (w_H (ad 2) cI cS hist ++ (w_S (ad 3) cI snap ++ (w_T (ad 4) cC text ++ (w_G (ad 5) cI trial ++ (w_E (ad 6) cI meas ++ w_K (ad 7) cI walk))))))
def w_M (a : Nat → Nat) (cI cC : ClassId) (mnow mhistory : Nat → Int32) (mkept : Int32) (mslot : Nat → Int32) (misFilled mgame : Int32) (mmeasures mmost mnumbers : Nat → Int32) (mround mtyped : Int32) (mtext : Nat → Int32) (mat mnumber : Int32) (mreads : Nat → Int32) (mbeyond : Int32) (mjudgedTo mreach mgoes : Nat → Int32) : va_W :=
  [(a 0, .inr (7, [.ref (a 1), .ref (a 2), .int mkept, .ref (a 3), .int misFilled, .int mgame, .ref (a 4), .ref (a 5), .ref (a 6), .int mround, .int mtyped, .ref (a 7), .int mat, .int mnumber, .ref (a 8), .int mbeyond, .ref (a 9), .ref (a 10), .ref (a 11)])), (a 1, .inl (cI, 59, .inl mnow)), (a 2, .inl (cI, 236, .inl mhistory)), (a 3, .inl (cI, 59, .inl mslot)), (a 4, .inl (cI, 14, .inl mmeasures)), (a 5, .inl (cI, 4, .inl mmost)), (a 6, .inl (cI, 4, .inl mnumbers)), (a 7, .inl (cC, 60, .inl mtext)), (a 8, .inl (cI, 100, .inl mreads)), (a 9, .inl (cI, 14, .inl mjudgedTo)), (a 10, .inl (cI, 14, .inl mreach)), (a 11, .inl (cI, 16, .inl mgoes))]
theorem XI.of {l : Launch} {y : MethodName} {ws ws' : List Cond} {fr lc : Nat} {D : va_G} {cI cC cS : ClassId} {av : List Value} {w w' : va_W} {r : Int32} {cc : ByteArray} {maxL : Nat} {ty : FieldType} {own : String} (hy : plainName y.cls = true) (hyc : y.cls = own) (hw : ws = Cond.code y cc maxL (some ty) :: ws') (hav : (lg_sl av).length ≤ maxL)
    (body : ∀ (p : Program) (e : Env) (s : State) (m : MethodId) (args : Array Value) (below : List Frame) (meth : Method) (c : Code) (A : Nat → Prop) (Q : State → Prop), CallFix p m c cc maxL s args ws own → va_K D vwCl (xTy cI cC cS) s → xN s → (∀ q, s.heap.size ≤ q → A q) → va_P D vwCl w s.heap → va_D A w → va_S A s.heap s.heap [] → ∀ ls : Array Slot, lv_has ls maxL (lv_args 0 av) →
      (∀ (H : Heap) (locs : List Loc) (pc : Nat) (ls : Array Slot) (v : Int32), decode cc pc = .ok (.ireturn, 1) → narrow ty (.int v) = .int v → va_P D vwCl w' H → va_D A w' → va_S A s.heap H locs → v = r → W p l e (xR fr lc) s m args below meth c H locs 0 0 Q (F0 m pc ls [.int v])) →
      W p l e (xR fr lc) s m args below meth c s.heap [] 0 0 Q (F0 m 0 ls [])) :
    CI l y ws fr lc D cI cC cS av w r w' :=
  CI.of (cc := cc) (maxL := maxL) (ret := some ty) (own := own) hy hyc hw hav fun p e s m below meth c A S hr hlk hK hN hA hP hD hS ls hl =>
    body p e s m av.toArray below meth c A _ S hK hN hA hP hD hS ls hl (fun H locs pc ls v hd hn hP hD hS hv => xr_z S.1 S.2.1 hr hn hlk hP hD hS hv hd)
theorem XV.of {l : Launch} {y : MethodName} {ws ws' : List Cond} {fr lc : Nat} {D : va_G} {cI cC cS : ClassId} {av : List Value} {w w' : va_W} {cc : ByteArray} {maxL : Nat} {own : String} (hy : plainName y.cls = true) (hyc : y.cls = own) (hw : ws = Cond.code y cc maxL none :: ws') (hav : (lg_sl av).length ≤ maxL)
    (body : ∀ (p : Program) (e : Env) (s : State) (m : MethodId) (args : Array Value) (below : List Frame) (meth : Method) (c : Code) (A : Nat → Prop) (Q : State → Prop), CallFix p m c cc maxL s args ws own → va_K D vwCl (xTy cI cC cS) s → xN s → (∀ q, s.heap.size ≤ q → A q) → va_P D vwCl w s.heap → va_D A w → va_S A s.heap s.heap [] → ∀ ls : Array Slot, lv_has ls maxL (lv_args 0 av) →
      (∀ (H : Heap) (locs : List Loc) (pc : Nat) (ls : Array Slot), decode cc pc = .ok (.return_, 1) → va_P D vwCl w' H → va_D A w' → va_S A s.heap H locs → W p l e (xR fr lc) s m args below meth c H locs 0 0 Q (F0 m pc ls [])) →
      W p l e (xR fr lc) s m args below meth c s.heap [] 0 0 Q (F0 m 0 ls [])) :
    CV l y ws fr lc D cI cC cS av w w' :=
  CV.of (cc := cc) (maxL := maxL) (ret := none) (own := own) hy hyc hw hav fun p e s m below meth c A S hr hlk hK hN hA hP hD hS ls hl =>
    body p e s m av.toArray below meth c A _ S hK hN hA hP hD hS ls hl (fun H locs pc ls hd hP hD hS => xr_v S.1 S.2.1 hr hlk hP hD hS hd)
