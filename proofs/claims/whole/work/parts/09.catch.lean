/-! ===== catching (a class named in the table, linked at its first use) ===== -/
/-- one row that covers the place and names a class that can be linked: it takes the object, or the search goes on; the tables note the class -/
theorem z_goRow {Q : Handler → Pre} {E : CtlPost} {e : Env} {d : Bool} {acts : List Action} {s : State} {f : JFrame} {a : Addr} {x : ExceptionTableEntry} {t : List ExceptionTableEntry} {c : ClassId} {cell : Cell} (hx : covers x f.pc = true) (h0 : x.catchType ≠ 0)
    (hl : s.vm.ClassLinks e.platform f.method.cls x.catchType c) (hcell : s.heap[a]? = some cell) (hobj : ∀ k, cell.vm ≠ .statics k) (hk : ∃ k, s.vm.classes[cell.cls]? = some k) (hc : ∃ k, s.vm.classes[c]? = some k) :
    wp (findHandler.go f a (x :: t)) Q E e d acts s ↔ if s.vm.assignable cell.cls c = true then Q (.found x.handlerPc) d acts (s.setVm (s.vm.noted f.method.cls x.catchType (.cls c))) else wp (findHandler.go f a t) Q E e d acts (s.setVm (s.vm.noted f.method.cls x.catchType (.cls c))) := by
  have hx' := hx
  simp only [covers] at hx'
  obtain ⟨ha, ht⟩ := (resolveClass_links e.toSetting hl).op (op := VmOp.resolveClass f.method.cls x.catchType) rfl
  have hal : s.vm.Alike (s.vm.noted f.method.cls x.catchType (.cls c)) := (Vm.Alike.refl s.vm).noted _ _ _
  obtain ⟨k1, hk1⟩ := hk
  obtain ⟨k2, hk2⟩ := hc
  obtain ⟨k1', hk1', -⟩ := hal.2.2 _ _ hk1
  obtain ⟨k2', hk2', -⟩ := hal.2.2 _ _ hk2
  have hasg : (s.vm.noted f.method.cls x.catchType (.cls c)).assignable cell.cls c = s.vm.assignable cell.cls c := by rw [hal.assignable]
  cases hq : s.vm.assignable cell.cls c <;> (rw [hq] at hasg; simp [findHandler.go, hx', h0, ha, ht, hcell, hobj, hk1', hk2', hasg, VmOp.dirties, VmOp.acts])
def z_rowN (pl : Platform) (s : State) (f : JFrame) (k : ClassId) (y : ExceptionTableEntry) : Prop := y.catchType ≠ 0 ∧ ∃ c, s.vm.ClassLinks pl f.method.cls y.catchType c ∧ s.vm.assignable k c = false
theorem z_goAll {e : Env} {s : State} {f : JFrame} {a : Addr} {cell : Cell} (hobj : ∀ k, cell.vm ≠ .statics k) (hk0 : ∃ k, s.vm.classes[cell.cls]? = some k) (x : ExceptionTableEntry) (suf : List ExceptionTableEntry) (hx : covers x f.pc = true) (h0 : x.catchType ≠ 0) {c : ClassId} (hl : s.vm.ClassLinks e.platform f.method.cls x.catchType c) (hfit : s.vm.assignable cell.cls c = true) :
    ∀ (pre : List ExceptionTableEntry) (S : State), s.WarmedH S.vm → S.heap[a]? = some cell → (∀ y ∈ pre, z_rowN e.platform s f cell.cls y) → ∃ vm', s.WarmedH vm' ∧ ∀ (Q : Handler → Pre) (E : CtlPost) (d : Bool) (acts : List Action), wp (findHandler.go f a (pre ++ x :: suf)) Q E e d acts S ↔ Q (.found x.handlerPc) d acts (S.setVm vm') := by
  obtain ⟨k0, hk0⟩ := hk0
  intro pre
  induction pre with
  | nil =>
    intro S hW hcell _
    obtain ⟨k0', hk0', -⟩ := hW.alike.2.2 _ _ hk0
    obtain ⟨dk, _, _, kt, hd, _, _, _, _, hkt, _, hn⟩ := hl.here
    obtain ⟨kt', hkt', -⟩ := hW.alike.2.2 _ _ hkt
    refine ⟨_, hW.noted hd hn (State.rightAt_cls hl), fun Q E d acts => ?_⟩
    rw [List.nil_append, z_goRow hx h0 (hW.classLinks hl) hcell hobj ⟨k0', hk0'⟩ ⟨kt', hkt'⟩, if_pos (by rw [hW.alike.assignable]; exact hfit)]
  | cons y ys ih =>
    intro S hW hcell hp
    obtain ⟨k0', hk0', -⟩ := hW.alike.2.2 _ _ hk0
    obtain ⟨hy0, cy, hly, hno⟩ := hp y List.mem_cons_self
    by_cases hcov : covers y f.pc = true
    · obtain ⟨dk, _, _, kt, hd, _, _, _, _, hkt, _, hn⟩ := hly.here
      obtain ⟨kt', hkt', -⟩ := hW.alike.2.2 _ _ hkt
      obtain ⟨vm', hW', hq⟩ := ih (S.setVm (S.vm.noted f.method.cls y.catchType (.cls cy))) (hW.noted hd hn (State.rightAt_cls hly)) hcell (fun z hz => hp z (List.mem_cons_of_mem _ hz))
      refine ⟨vm', hW', fun Q E d acts => ?_⟩
      rw [List.cons_append, z_goRow hcov hy0 (hW.classLinks hly) hcell hobj ⟨k0', hk0'⟩ ⟨kt', hkt'⟩, if_neg (by rw [hW.alike.assignable, hno]; decide)]
      exact hq Q E d acts
    · obtain ⟨vm', hW', hq⟩ := ih S hW hcell (fun z hz => hp z (List.mem_cons_of_mem _ hz))
      refine ⟨vm', hW', fun Q E d acts => ?_⟩
      rw [List.cons_append, W.findHandler_go_skip (by simpa using hcov)]
      exact hq Q E d acts
theorem z_stepT {e : Env} {s : State} {a : Addr} {f : JFrame} {r : List Frame} {pc : Nat} {vm' : Vm} (hfind : ∀ (Q : Handler → Pre) (E : CtlPost) (d : Bool) (acts : List Action), wp (findHandler f a) Q E e d acts s ↔ Q (.found pc) d acts (s.setVm vm')) :
    (stepThrowing e s a (.java f :: r)).1 = (s.setVm vm').setFrames (.java { f with pc := pc, stack := [.ref a] } :: r) := by
  simp only [stepThrowing, searchFrame, vmDo]
  generalize hr : Sem.go _ e false [] s = res
  obtain ⟨as, rfl, ha⟩ := Sem.eq_ok_of hr (a := Handler.found pc) (s' := s.setVm vm') (acts' := []) (by simp [hfind _ _ _ _])
  rfl
theorem z_caught {tb : Tables} {e : Env} {s target : State} {g : JFrame} {c : Code} {below : List Frame} {a : Addr} (h : At s g.method c below) {pc : Nat} {vm' : Vm}
    (hfind : ∀ (Q : Handler → Pre) (E : CtlPost) (d : Bool) (acts : List Action), wp (findHandler g a) Q E e d acts ((s.setTop g).pushFrame (.throwing a)) ↔ Q (.found pc) d acts (((s.setTop g).pushFrame (.throwing a)).setVm vm')) (hrest : Steps tb e below ((s.setVm vm').setTop { g with pc := pc, stack := [.ref a] }) target) :
    Steps tb e below ((s.setTop g).pushFrame (.throwing a)) target := by
  obtain ⟨hgo, hw⟩ := h.throwing a
  refine Steps.head hgo hw ?_
  rw [stepThread_throwing (frames_entered h.top _), z_stepT hfind]
  obtain ⟨g₀, hg⟩ := Option.isSome_iff_exists.mp h.top
  obtain ⟨r, hr⟩ := State.topJava?_eq_some.mp hg
  have hr' : (s.setVm vm').frames = .java g₀ :: r := hr
  have key : ∀ (u : State) (F G : List Frame), ((u.setFrames F).setVm vm').setFrames G = (u.setVm vm').setFrames G := by
    intro u F G
    have h1 : (u.setFrames F).setVm vm' = (u.setVm vm').setFrames F := rfl
    rw [h1, State.setFrames_setFrames]
  rw [State.setTop_of_frames _ hr'] at hrest
  rw [hr, List.tail_cons, State.pushFrame, key, State.setTop_of_frames _ hr, key]
  exact hrest
section ZK
variable {l : Launch} {mt mk : zMt} {d bc bs pc : Nat} {ls st : List Value} {h h1 h' : zHP} {o o1 : zO}
/-- the row of the method's own table that takes an exception of class E at pc -/
def z_Hd (mt : zMt) (pc : Nat) (E : String) (hp : Nat) : Prop := ∃ (pre : List ExceptionTableEntry) (x : ExceptionTableEntry) (suf : List ExceptionTableEntry), tableOf mt.2.2.2.2 = pre ++ x :: suf ∧ x.handlerPc = hp ∧ covers x pc = true ∧ x.catchType ≠ 0 ∧
  (∃ nm, GoodIn lw_tbl [.classLink mt.1.cls x.catchType nm] ∧ (E, nm) ∈ z_casts) ∧ ∀ y ∈ pre, y.catchType ≠ 0 ∧ ∃ nm, GoodIn lw_tbl [.classLink mt.1.cls y.catchType nm] ∧ (E, nm) ∈ z_ncasts
theorem z_takes {sz0 : Nat} {D : va_G} {ad' : Nat → Nat} {p : Program} {e : Env} {R : Room} {s : State} {m : MethodId} {args : Array Value} {below : List Frame} {meth : Method} {c : Code} {H1 : Heap} {locs1 : List Loc} {cells slots MC MS d2 b2 s2 hp : Nat} {lsA : Array Slot} {Q : State → Prop} {E : String} {q : Addr} {ce : Cell} {stk : List Value}
    (hd : z_Hd mt pc E hp) (hY : z_Y l mt d2 b2 s2 ls h1 sz0 D ad' p R s m meth c H1 locs1 cells slots MC MS lsA) (hce : H1[q]? = some ce) (hv : ce.vm = .none) (hcl : s.vm.findClass E = some ce.cls)
    (kk : W p l e R s m args below meth c H1 locs1 cells slots Q (F0 m hp lsA [.ref q])) : vx_W p l e R s m args below meth c H1 locs1 cells slots Q (F0 m pc lsA stk) q := by
  obtain ⟨hC, c1, c2, c3, c4, c5, c6⟩ := hY
  obtain ⟨pre, x, suf, t1, t2, t3, t4, ⟨nm, t5, t6⟩, t7⟩ := hd
  intro T hT X
  have hpl : e.platform.magicAccessors = ({} : Platform).magicAccessors := by rw [X.admits.platform]
  obtain ⟨ca, cb, hca, hcb, hasg⟩ := c4.2.2.2.2.2.1 _ t6
  cases Option.some.inj (hca.symm.trans hcl)
  obtain ⟨c5', hc5, hcl5⟩ := Cond.classLink_spec hC.2.2.2.2.2.1 (c4.w (args := args) t5 (List.mem_singleton.mpr rfl)) e.platform hpl
  cases Option.some.inj (hcb.symm.trans hc5)
  obtain ⟨k9, h9, -⟩ := Vm.findClass_spec hcl
  obtain ⟨vm', hW', hq⟩ := z_goAll (e := e) (s := s) (f := F0 m pc lsA stk) (a := q) (cell := ce) (fun k hk => by rw [hv] at hk; cases hk) ⟨k9, h9⟩ x suf t3 t4 hcl5 hasg pre ((T.setTop (F0 m pc lsA stk)).pushFrame (.throwing q)) X.warmed (by show T.heap[q]? = some ce; rw [hT]; exact hce) (fun y hy => by
    obtain ⟨u1, nm2, u2, u3⟩ := t7 y hy
    obtain ⟨da, db, hda, hdb, hno⟩ := c4.2.2.2.2.2.2.1 _ u3
    cases Option.some.inj (hda.symm.trans hcl)
    obtain ⟨c6', hc6, hcl6⟩ := Cond.classLink_spec hC.2.2.2.2.2.1 (c4.w (args := args) u2 (List.mem_singleton.mpr rfl)) e.platform hpl
    cases Option.some.inj (hdb.symm.trans hc6)
    exact ⟨u1, _, hcl6, hno⟩)
  obtain ⟨t, a1, b1⟩ := kk (T.setVm vm') hT (X.noted hW')
  refine ⟨t, z_caught (pc := hp) X.here (fun Q E d acts => ?_) a1, b1⟩
  rw [W.findHandler_eq X.method' X.code, hC.2.2.2.2.2.2.2.1, t1, ← t2]
  exact hq Q E d acts
theorem z_LR.setN {ad : Nat → Nat} {n : Nat} {lsA lsB : Array Slot} {i : Nat} {w : Value} (hB : lv_has lsB n ((i, w) :: (z_ll ad ls).filter (fun q => !(q.1 == i) && !(q.1 + 1 == i && q.2.category == 2)))) : z_LR ad n (z_set ls i .null) lsB := by
  refine ⟨hB.1, hB.2.1, fun j w2 hj hw => ?_⟩
  rcases z_set_get hj hw with ⟨a, b⟩ | ⟨a, b, c⟩
  · exact absurd b hw
  · refine hB.2.2 (j, z_cv ad w2) (List.mem_cons_of_mem _ (List.mem_filter.mpr ⟨z_ll_mem b hw, ?_⟩))
    simp only [z_cv_cat, Bool.and_eq_true, Bool.not_eq_true', beq_eq_false_iff_ne, ne_eq, Bool.and_eq_false_iff]
    exact ⟨a, by
      by_cases q : j + 1 = i
      · exact Or.inr (fun z => c ⟨q, z⟩)
      · exact Or.inl q⟩
/-- a handler's first instruction: the exception is put away -/
def z_As (mt : zMt) (hp n len : Nat) : Prop := (decode mt.2.1 hp = .ok (.astore n, 2) ∧ len = 2) ∨ (∃ k : Fin 4, (k : Nat) = n ∧ decode mt.2.1 hp = .ok (.astore_n k, 1) ∧ len = 1)
theorem z_putAway {sz0 : Nat} {D : va_G} {ad' : Nat → Nat} {p : Program} {e : Env} {R : Room} {s : State} {m : MethodId} {args : Array Value} {below : List Frame} {meth : Method} {c : Code} {H1 : Heap} {locs1 : List Loc} {cells slots MC MS hp n len : Nat} {lsA : Array Slot} {Qc : Array Value → State → Outcome → State → Prop} {XC : String → State → State → Prop} {q : Addr}
    (ha : z_As mt hp n len) (hn : n < mt.2.2.1) (hY : z_Y l mt d bc bs ls h sz0 D ad' p R s m meth c H1 locs1 cells slots MC MS lsA) (hE : z_E h o h' sz0 D ad' args s Qc XC) (k : z_AW l mt d bc bs (hp + len) (z_set ls n .null) [] h o h') :
    W p l e R s m args below meth c H1 locs1 cells slots (vx_MQ below Qc XC args s MC MS (fun q => sz0 ≤ q)) (F0 m hp lsA [.ref q]) := by
  obtain ⟨hC, h1, h2, h3, h4, h5, h6⟩ := hY
  rcases ha with ⟨hd, rfl⟩ | ⟨kk, hk, hd, rfl⟩
  · refine lv_astore hC.2.1 hC.2.2.1 hd h6.has hn rfl (fun lsB hB => ?_)
    exact k sz0 D ad' p e R s m args below meth c H1 locs1 cells slots MC MS lsB Qc XC ⟨hC, h1, h2, h3, h4, h5, z_LR.setN (lsA := lsA) hB⟩ hE
  · subst hk
    refine lv_astore_n hC.2.1 hC.2.2.1 hd rfl h6.has hn rfl (fun lsB hB => ?_)
    exact k sz0 D ad' p e R s m args below meth c H1 locs1 cells slots MC MS lsB Qc XC ⟨hC, h1, h2, h3, h4, h5, z_LR.setN (lsA := lsA) hB⟩ hE
theorem z_callVc {idx r n ci cb sb N : Nat} {av stk : List Value} {rs : List Nat} (hL : z_LV mt.1.cls idx mk n) (hd : decode mt.2.1 pc = .ok (.invokevirtual idx, 3)) (hK : z_Ct l mk d cb sb (.ref r :: av) h o1 h1) (hstk : stk = av.reverse ++ .ref r :: st) (hav : av.length = n) (he : h.1[r]? = some (ci, N, rs)) (hci : vwCl[ci]?.map (fun q => q.1) = some mk.1.cls)
    (hw : (st.map fun v => v.category).sum ≤ 20) (hlen : h.1.length ≤ h1.1.length) (hrb : z_rbB (ls ++ st) h.1.length = true) (hcb : cb ≤ bc) (hsb : sb ≤ bs)
    (kR : ∀ v, o1 = .inl v → z_AW l mt (d + 1) (bc - cb) (bs - sb) (pc + 3) ls (v.toList ++ st) h1 o h')
    (kX : ∀ E, o1 = .inr E → ∃ hp n len, z_Hd mt pc E hp ∧ z_As mt hp n len ∧ n < mt.2.2.1 ∧ z_AW l mt (d + 1) (bc - cb) (bs - sb) (hp + len) (z_set ls n .null) [] h1 o h') : z_AW l mt (d + 1) bc bs pc ls stk h o h' := by
  subst hstk
  intro sz0 D ad p e R s m args below meth c H locs cells slots MC MS lsA Qc XC hY hE T hT X
  obtain ⟨hC, c1, c2, c3, c4, c5, c6⟩ := id hY
  obtain ⟨g1, g2, g3, g4, g5⟩ := hL
  obtain ⟨q, hq, hqc⟩ := Option.map_eq_some_iff.mp hci
  have hlt : ci < 9 := (List.getElem?_eq_some_iff.mp hq).1
  obtain ⟨q', hq', cell, p1, p2, p3, p4⟩ := (c5.1 r _ he).1.1 hlt
  have hcls : s.vm.findClass mk.1.cls = some cell.cls := by
    rw [← hqc, p2]
    exact (c4.2.2.2.2.1 ci q hq).2.1
  refine z_after (a := ((.ref r :: av).map (z_cv ad)).toArray) hY hE hlen hrb hcb hsb hT kR (fun E q ce ad' H1 locs1 ho hY2 hE2 hce hv hcl => ?_) ?_
  · obtain ⟨hp, n9, len, a1, a2, a3, a4⟩ := kX E ho
    exact z_takes a1 hY2 hce hv hcl (z_putAway a2 a3 hY2 hE2 a4)
  have hcode : (z_cw mk).before args s = true := c4.w g2 List.mem_cons_self
  have hcode' : (Cond.code mk.1 mk.2.1 mk.2.2.1 mk.2.2.2.1).before args s = true := by
    obtain ⟨y, cc, maxL, ret, hh9⟩ := mk
    cases hh9 with
    | nil => exact hcode
    | cons => cases g5
  exact vx_callV (C := mk.1.cls) (bytes := mk.2.1) (maxL := mk.2.2.1) (ret := mk.2.2.2.1) X hC.2.1 hC.2.2.2.2.2.1 (c4.w g1 List.mem_cons_self) (c4.w g1 (by simp)) (c4.w g1 (by simp)) hcode' ⟨g3.1, g3.2.1⟩
    (z_back hC c4 hK g2 g4) (by rw [hT]; exact p1) (by rw [p3]; rfl) hcls rfl (by rw [hC.2.2.2.1]; exact c6.1) (argsL := av.map (z_cv ad)) (rest := st.map (z_cv ad)) (fun sig hs => by rw [List.length_map, hav]; exact g3.len sig hs)
    (by show (av.reverse ++ .ref r :: st).map (z_cv ad) = _; rw [List.map_append, List.map_reverse]; rfl) (z_room hw) (by rw [hC.2.2.1]; exact hd) (z_callV_pre (av := .ref r :: av) hC (by omega) (by omega) c4 c5 hT)
end ZK
