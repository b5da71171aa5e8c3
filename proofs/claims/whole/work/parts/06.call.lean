/-! ===== contracts over the memory, and calls ===== -/
def z_cw (mt : zMt) : Cond := match mt.2.2.2.2 with
  | [] => .code mt.1 mt.2.1 mt.2.2.1 mt.2.2.2.1
  | q :: hh => .codeWith mt.1 mt.2.1 mt.2.2.1 mt.2.2.2.1 (q :: hh)
def z_rm (d bc bs : Nat) : Room := { frames := d, cells := bc, slots := bs, locals := 64 * d }
def z_Pre (sz0 : Nat) (D : va_G) (ad : Nat → Nat) (h : zHP) (U : State) : Prop := z_Tb D ad U ∧ z_Hp sz0 D ad h U U.heap
def z_Qc (sz0 : Nat) (D : va_G) (ad : Nat → Nat) (h : zHP) (o : zO) (h' : zHP) : Array Value → State → Outcome → State → Prop := fun _ st oc t => ∃ (ad' : Nat → Nat) (v : Option Value), (∀ i, i < h.1.length → ad' i = ad i) ∧ o = .inl v ∧ oc = .returned (v.map (z_cv ad')) ∧ z_Hp sz0 D ad' h' st t.heap
def z_XC (sz0 : Nat) (D : va_G) (ad : Nat → Nat) (h : zHP) (o : zO) (h' : zHP) : String → State → State → Prop := fun E st t => ∃ (ad' : Nat → Nat), (∀ i, i < h.1.length → ad' i = ad i) ∧ o = .inr E ∧ z_Hp sz0 D ad' h' st t.heap
def z_Ct (l : Launch) (mt : zMt) (d bc bs : Nat) (av : List Value) (h : zHP) (o : zO) (h' : zHP) : Prop :=
  ∀ (sz0 : Nat) (D : va_G) (ad : Nat → Nat), vx_Met l mt.1 [z_cw mt] (z_rm d bc bs) (va_Pc (av.map (z_cv ad)) (z_Pre sz0 D ad h)) (z_Qc sz0 D ad h o h') (z_XC sz0 D ad h o h') bc bs (fun q => sz0 ≤ q)
/-- the locals at a method's entry -/
def z_args : List Value → List Value
  | [] => []
  | v :: r => if v.category = 2 then v :: .null :: z_args r else v :: z_args r
def z_ent (av : List Value) (n : Nat) : List Value := z_args av ++ List.replicate (n - (z_args av).length) .null
theorem z_args_len (ad : Nat → Nat) (av : List Value) : (lg_sl (av.map (z_cv ad))).length = (z_args av).length := by
  induction av with
  | nil => rfl
  | cons v r ih =>
    have e : lg_sl ((v :: r).map (z_cv ad)) = lg_sl [z_cv ad v] ++ lg_sl (r.map (z_cv ad)) := by simp [lg_sl]
    rw [e, List.length_append, ih]
    have e2 : z_args (v :: r) = if v.category = 2 then v :: .null :: z_args r else v :: z_args r := rfl
    rw [e2]
    generalize z_args r = w
    cases v <;> simp [lg_sl, z_cv, Value.category] <;> omega
theorem z_args_in (ad : Nat → Nat) (av : List Value) : ∀ (k i : Nat) (v : Value), (z_args av)[i]? = some v → v ≠ .null → (k + i, z_cv ad v) ∈ lv_args k (av.map (z_cv ad)) := by
  induction av with
  | nil => intro k i v h; simp [z_args] at h
  | cons a r ih =>
    intro k i v h hv
    show (k + i, z_cv ad v) ∈ (k, z_cv ad a) :: lv_args (if (z_cv ad a).category = 2 then k + 2 else k + 1) (r.map (z_cv ad))
    unfold z_args at h
    rw [z_cv_cat]
    by_cases hc : a.category = 2
    · rw [if_pos hc] at h ⊢
      match i, h with
      | 0, h => cases Option.some.inj h; exact List.mem_cons_self
      | 1, h => exact absurd (Option.some.inj h).symm hv
      | i + 2, h =>
        have := ih (k + 2) i v (by simpa using h) hv
        rw [show k + (i + 2) = k + 2 + i by omega]
        exact List.mem_cons_of_mem _ this
    · rw [if_neg hc] at h ⊢
      match i, h with
      | 0, h => cases Option.some.inj h; exact List.mem_cons_self
      | i + 1, h =>
        have := ih (k + 1) i v (by simpa using h) hv
        rw [show k + (i + 1) = k + 1 + i by omega]
        exact List.mem_cons_of_mem _ this
theorem z_ent_LR (ad : Nat → Nat) (av : List Value) {n : Nat} (hn : (z_args av).length ≤ n) : z_LR ad n (z_ent av n) ((lg_sl (av.map (z_cv ad)) ++ List.replicate (n - (lg_sl (av.map (z_cv ad))).length) Slot.unset).toArray) := by
  have hl := lv_entry (av.map (z_cv ad)) (n := n) (by rw [z_args_len]; exact hn)
  refine ⟨hl.1, hl.2.1, fun i v hi hv => ?_⟩
  unfold z_ent at hi
  by_cases hlt : i < (z_args av).length
  · rw [List.getElem?_append_left hlt] at hi
    have := z_args_in ad av 0 i v hi hv
    rw [Nat.zero_add] at this
    exact hl.2.2 _ this
  · rw [List.getElem?_append_right (by omega)] at hi
    have := List.mem_of_getElem? hi
    exact absurd (List.eq_of_mem_replicate this) hv
theorem z_Ct.of {l : Launch} {mt : zMt} {d bc bs : Nat} {av ls : List Value} {h h' : zHP} {o : zO} (hl : l.stackTraces = false) (hy : plainName mt.1.cls = true) (hn : (z_args av).length ≤ mt.2.2.1) (hls : z_ent av mt.2.2.1 = ls) (k : z_AW l mt d bc bs 0 ls [] h o h') : z_Ct l mt d bc bs av h o h' := by
  intro sz0 D ad
  subst hls
  have main : ∀ (p : Program) (e : Env) (s : State) (m : MethodId) (args : Array Value) (below : List Frame) (meth : Method) (c : Code) (s₁ : State), BodyLoose p l mt.1 (headSpec [z_cw mt] (z_rm d bc bs)) mt.2.1 mt.2.2.1 mt.2.2.2.1 e s m args below meth c s₁ → c.maxLocals = mt.2.2.1 → c.exceptionTable.toList = tableOf mt.2.2.2.2 → va_Pc (av.map (z_cv ad)) (z_Pre sz0 D ad h) args s →
      W p l e (headSpec [z_cw mt] (z_rm d bc bs)).room s m args below meth c s.heap [] 0 0 (vx_MQ below (z_Qc sz0 D ad h o h') (z_XC sz0 D ad h o h') args s bc bs (fun q => sz0 ≤ q)) (entryFrame m args mt.2.2.1) := by
    intro p e s m args below meth c s₁ B hml htab hv
    obtain ⟨rfl, hT, hH⟩ := hv
    rw [lg_entry_eq]
    refine k sz0 D ad p e _ s m _ below meth c s.heap [] 0 0 bc bs _ _ _ ⟨⟨⟨hl, hH.2.2.1⟩, B.exec, B.bytes, hml, B.returns, findClass_of_methodNamed B.named, B.notSynchronized, htab, (name_of_methodNamed B.named B.method).1, rfl⟩, by omega, by omega, fun q hq => (by cases hq), hT, hH, z_ent_LR ad av hn⟩ ?_
    intro ad' t hs hal hp
    exact ⟨fun v hv => ⟨ad', v, hs, hv, rfl, hp⟩, fun E hE => ⟨ad', hs, hE, hp⟩⟩
  obtain ⟨y, cc, maxL, ret, hh⟩ := mt
  cases hh with
  | nil =>
    refine vx_ofW (cc := cc) (maxL := maxL) (ret := ret) hy rfl ?_
    intro p e s m args below meth c s₁ B hml ht hv
    refine main p e s m args below meth c s₁ B hml ?_ hv
    cases hc : c.exceptionTable.toList with
    | nil => rfl
    | cons x r => exact (ht x (by rw [hc]; exact List.mem_cons_self)).elim
  | cons q hh =>
    refine vx_ofWH (cc := cc) (maxL := maxL) (ret := ret) (hh := q :: hh) hy rfl ?_
    intro p e s m args below meth c s₁ B hml hv
    refine main p e s m args below meth c s₁ B hml ?_ hv
    exact vx_table (x := y) B (bytes := cc) (maxL' := maxL) (ret' := ret) (hh := q :: hh) (atoms_spec B.pre _ List.mem_cons_self)
def z_rbB (ls : List Value) (N : Nat) : Bool := ls.all (fun v => match v with | .ref r => decide (r < N) | _ => true)
theorem z_rbB_of {ls : List Value} {N : Nat} (hb : z_rbB ls N = true) : ∀ v ∈ ls, ∀ r, v = .ref r → r < N := by
  intro v hv r e
  subst e
  simpa using List.all_eq_true.mp hb _ hv
theorem z_map_ext {ad ad1 : Nat → Nat} {N : Nat} {st : List Value} (ha : ∀ i, i < N → ad1 i = ad i) (hb : ∀ v ∈ st, ∀ r, v = .ref r → r < N) : st.map (z_cv ad1) = st.map (z_cv ad) := by
  refine List.map_congr_left fun v hv => ?_
  cases v with
  | ref r => show Value.ref (ad1 r) = Value.ref (ad r); rw [ha r (hb _ hv r rfl)]
  | _ => rfl
section ZC
variable {l : Launch} {mt mk : zMt} {d bc bs pc : Nat} {ls st : List Value} {h h1 h' : zHP} {o o1 : zO}
theorem z_blind {sz0 : Nat} {D : va_G} {ad : Nat → Nat} {av : List Value} : FrameBlind (va_Pc av (z_Pre sz0 D ad h)) := by
  intro a U g mk q
  exact ⟨q.1, z_Tb.warm (s := U) (U := U.calling g mk a) (State.WarmedH.refl U) q.2.1, z_Hp.moved (u := U) (U := U.calling g mk a) (Vm.Alike.refl U.vm) q.2.2⟩
theorem z_back {sz0 : Nat} {D : va_G} {ad : Nat → Nat} {p : Program} {e : Env} {R : Room} {s : State} {m : MethodId} {args : Array Value} {below : List Frame} {meth : Method} {c : Code} {MC MS cb sb : Nat} {av : List Value}
    (hC : z_Cx l mt (d + 1) p R s m meth c MC MS sz0) (hT : z_Tb D ad s) (hK : z_Ct l mk d cb sb av h o1 h1) (hg : GoodIn lw_tbl [z_cw mk, .initialized mk.1.cls]) (hml : mk.2.2.1 ≤ 30) :
    vx_Back l R p e below s args mk.1 3 20 (PreOf R cb sb (va_Pc (av.map (z_cv ad)) (z_Pre sz0 D ad h))) (PostOf (z_Qc sz0 D ad h o1 h1) cb sb (fun q => sz0 ≤ q)) (vx_Post (z_XC sz0 D ad h o1 h1) cb sb (fun q => sz0 ≤ q)) := by
  have hM := hK sz0 D ad
  have hR : R = { frames := d + 1, cells := MC, slots := MS, locals := 64 * (d + 1) } := hC.2.2.2.2.2.2.2.2.2
  have hfr : (z_rm d cb sb).frames + 1 ≤ R.frames := by rw [hR]; exact Nat.le_refl _
  have hlo : 20 + (mk.2.2.1 + 11) + (z_rm d cb sb).locals ≤ R.locals := by rw [hR]; show 20 + (mk.2.2.1 + 11) + 64 * d ≤ 64 * (d + 1); omega
  have hws : ∀ w ∈ [z_cw mk], ∀ (a' : Array Value) (U : State), s.WarmedH U.vm → w.before a' U = true := by
    intro w hw a' U hW
    have hw' : w ∈ [z_cw mk, .initialized mk.1.cls] := by rw [List.mem_singleton.mp hw]; exact List.mem_cons_self
    exact word_at hW (hg w hw').2 (hT.1 w (hg w hw').1 (hg w hw').2)
  have hin : ∀ (a' : Array Value) (U : State), s.WarmedH U.vm → (Cond.initialized mk.1.cls).before a' U = true := by
    intro a' U hW
    have hw' : Cond.initialized mk.1.cls ∈ [z_cw mk, .initialized mk.1.cls] := by simp
    exact word_at hW (hg _ hw').2 (hT.1 _ (hg _ hw').1 (hg _ hw').2)
  obtain ⟨y, cc, maxL, ret, hh⟩ := mk
  cases hh with
  | nil => exact vx_back (bytes := cc) (maxL := maxL) (ret := ret) hM z_blind rfl rfl hfr hlo hws List.mem_cons_self hin
  | cons q hh => exact vx_backW (bytes := cc) (maxL := maxL) (ret := ret) (hh := q :: hh) hM z_blind rfl rfl hfr hlo hws List.mem_cons_self hin
/-- what comes back from a call -/
theorem z_after {sz0 : Nat} {D : va_G} {ad : Nat → Nat} {p : Program} {e : Env} {R : Room} {s : State} {m : MethodId} {args : Array Value} {below : List Frame} {meth : Method} {c : Code} {H : Heap} {locs : List Loc} {cells slots MC MS cb sb : Nat} {lsA : Array Slot} {Qc : Array Value → State → Outcome → State → Prop} {XC : String → State → State → Prop} {stk : List Value} {a : Array Value}
    (hY : z_Y l mt (d + 1) bc bs ls h sz0 D ad p R s m meth c H locs cells slots MC MS lsA) (hE : z_E h o h' sz0 D ad args s Qc XC) (hlen : h.1.length ≤ h1.1.length) (hrb : z_rbB (ls ++ st) h.1.length = true) (hcb : cb ≤ bc) (hsb : sb ≤ bs) {T : State} (hTH : T.heap = H)
    (kR : ∀ v, o1 = .inl v → z_AW l mt (d + 1) (bc - cb) (bs - sb) (pc + 3) ls (v.toList ++ st) h1 o h')
    (kX : ∀ (E : String) (q : Addr) (ce : Cell) (ad' : Nat → Nat) (H1 : Heap) (locs1 : List Loc), o1 = .inr E → z_Y l mt (d + 1) (bc - cb) (bs - sb) ls h1 sz0 D ad' p R s m meth c H1 locs1 (cells + cb) (slots + sb) MC MS lsA → z_E h1 o h' sz0 D ad' args s Qc XC → H1[q]? = some ce → ce.vm = .none → s.vm.findClass E = some ce.cls →
      vx_W p l e R s m args below meth c H1 locs1 (cells + cb) (slots + sb) (vx_MQ below Qc XC args s MC MS (fun q => sz0 ≤ q)) (F0 m pc lsA (st.map (z_cv ad))) q)
    (R1 : (∃ (v : Option Value) (vm₁ : Vm) (B : Pt), s.WarmedH vm₁ ∧ Stand p l e R s m args below meth c B.U B.locs B.cells B.slots ∧ PostOf (z_Qc sz0 D ad h o1 h1) cb sb (fun q => sz0 ≤ q) ⟨T.setVm vm₁, locs, cells, slots⟩ a v B ∧
        ∀ target, Steps p.tables e below (B.U.setTop { (F0 m pc lsA stk) with pc := (F0 m pc lsA stk).pc + 3, stack := v.toList ++ st.map (z_cv ad) }) target → Steps p.tables e below (T.setTop (F0 m pc lsA stk)) target) ∨
      (∃ (q : Addr) (vm₁ : Vm) (B : Pt), s.WarmedH vm₁ ∧ Stand p l e R s m args below meth c B.U B.locs B.cells B.slots ∧ vx_Post (z_XC sz0 D ad h o1 h1) cb sb (fun q => sz0 ≤ q) ⟨T.setVm vm₁, locs, cells, slots⟩ a q B ∧
        Steps p.tables e below (T.setTop (F0 m pc lsA stk)) ((B.U.setTop { (F0 m pc lsA stk) with stack := st.map (z_cv ad) }).pushFrame (.throwing q)))) :
    ∃ t, Steps p.tables e below (T.setTop (F0 m pc lsA stk)) t ∧ vx_MQ below Qc XC args s MC MS (fun q => sz0 ≤ q) t := by
  obtain ⟨hC, c1, c2, c3, c4, c5, c6⟩ := hY
  have hrbL : ∀ v ∈ ls, ∀ r, v = .ref r → r < h.1.length := fun v hv => z_rbB_of hrb v (List.mem_append_left _ hv)
  have hrbS : ∀ v ∈ st, ∀ r, v = .ref r → r < h.1.length := fun v hv => z_rbB_of hrb v (List.mem_append_right _ hv)
  have hnS : z_nS ≤ h.1.length := c5.2.2.2.1
  have mkE : ∀ ad', (∀ i, i < h.1.length → ad' i = ad i) → z_E h1 o h' sz0 D ad' args s Qc XC := fun ad' hs ad'' t hs2 hal hp => hE ad'' t (fun i hi => (hs2 i (Nat.lt_of_lt_of_le hi hlen)).trans (hs i hi)) hal hp
  have mkL : ∀ L : List Loc, (∀ q ∈ L, sz0 ≤ q.base) → ∀ q ∈ locs ++ L, sz0 ≤ q.base := by
    intro L hL q hq
    rcases List.mem_append.mp hq with hq | hq
    · exact c3 q hq
    · exact hL q hq
  rcases R1 with ⟨v, vm₁, ⟨U', l2, n2, s2⟩, hW₁, X', ⟨g', mk', t, L, e1, e2, ⟨ad', v', hs, ho, hv, hp⟩, f1, hL, f2, f3⟩, stp⟩ | ⟨q, vm₁, ⟨U', l2, n2, s2⟩, hW₁, X', ⟨g', mk', t, L, E, ce, e1, e2, ⟨ad', hs, ho, hp⟩, hce, hcv, hcl, f1, hL, f2, f3⟩, stp⟩
  · dsimp only [Pt.U, Pt.locs, Pt.cells, Pt.slots] at X' e1 e2 f1 f2 f3 stp
    subst f1; subst f2; subst f3
    cases hv
    have hp' : z_Hp sz0 D ad' h1 s U'.heap := by rw [e1]; exact z_Hp.moved (u := (T.setVm vm₁).calling g' mk' a) (U := s) hW₁.alike.symm hp
    obtain ⟨t2, a1, b1⟩ := kR v' ho sz0 D ad' p e R s m args below meth c U'.heap (locs ++ L) (cells + cb) (slots + sb) MC MS lsA Qc XC ⟨hC, by omega, by omega, mkL L hL, c4.ad (fun i hi => hs i (Nat.lt_of_lt_of_le hi hnS)), hp', c6.ext hs hrbL⟩ (mkE ad' hs) U' rfl X'
    refine ⟨t2, stp t2 ?_, b1⟩
    rw [List.map_append, z_map_ext hs hrbS] at a1
    cases v' <;> exact a1
  · dsimp only [Pt.U, Pt.locs, Pt.cells, Pt.slots] at X' e1 e2 f1 f2 f3 stp hcl
    subst f1; subst f2; subst f3
    have hp' : z_Hp sz0 D ad' h1 s U'.heap := by rw [e1]; exact z_Hp.moved (u := (T.setVm vm₁).calling g' mk' a) (U := s) hW₁.alike.symm hp
    obtain ⟨t2, a1, b1⟩ := kX E q ce ad' U'.heap (locs ++ L) ho ⟨hC, by omega, by omega, mkL L hL, c4.ad (fun i hi => hs i (Nat.lt_of_lt_of_le hi hnS)), hp', c6.ext hs hrbL⟩ (mkE ad' hs) (by rw [e1]; exact hce) hcv (vx_cls hW₁ hcl) U' rfl X'
    exact ⟨t2, stp.trans a1, b1⟩
/-- a method without handlers hands an exception on -/
theorem z_handOn {sz0 : Nat} {D : va_G} {ad' : Nat → Nat} {p : Program} {e : Env} {R : Room} {s : State} {m : MethodId} {args : Array Value} {below : List Frame} {meth : Method} {c : Code} {H1 : Heap} {locs1 : List Loc} {cells slots MC MS d2 b2 s2 : Nat} {lsA : Array Slot} {Qc : Array Value → State → Outcome → State → Prop} {XC : String → State → State → Prop} {E : String} {q : Addr} {ce : Cell} {stk : List Value}
    (hh : mt.2.2.2.2 = []) (ho : o = .inr E) (h1' : h1 = h') (hY : z_Y l mt d2 b2 s2 ls h1 sz0 D ad' p R s m meth c H1 locs1 cells slots MC MS lsA) (hE : z_E h1 o h' sz0 D ad' args s Qc XC) (hce : H1[q]? = some ce) (hv : ce.vm = .none) (hcl : s.vm.findClass E = some ce.cls) :
    vx_W p l e R s m args below meth c H1 locs1 cells slots (vx_MQ below Qc XC args s MC MS (fun q => sz0 ≤ q)) (F0 m pc lsA stk) q := by
  obtain ⟨hC, c1, c2, c3, c4, c5, c6⟩ := hY
  subst h1'
  refine vx_out (E := E) (ce := ce) ?_ hC.2.2.2.2.2.2.1 hce hv hcl (fun t ht hal => ?_) c3 (by omega) (by omega)
  · intro x hx
    rw [hC.2.2.2.2.2.2.2.1, hh] at hx
    cases hx
  · exact (hE ad' t (fun _ _ => rfl) hal (by rw [ht]; exact c5)).2 E ho
def z_np (y : MethodName) (n : Nat) : Prop := y.cls ≠ "java/lang/invoke/MethodHandle" ∧ y.cls ≠ "java/lang/invoke/VarHandle" ∧ (parseMethodDescriptor y.desc).map (fun d => d.parameters.length) = some n
theorem z_np.len {y : MethodName} {n : Nat} (h : z_np y n) : ∀ sig, parseMethodDescriptor y.desc = some sig → n = sig.parameters.length := by
  intro sig hs
  have := h.2.2
  rw [hs] at this
  exact (Option.some.inj this).symm
theorem z_room {st : List Value} {ad : Nat → Nat} {m : MethodId} {lsA : Array Slot} {stk : List Value} (hw : (st.map fun v => v.category).sum ≤ 20) : 2 * (F0 m pc lsA stk).monitorRoom + ((st.map (z_cv ad)).map fun v => v.category).sum ≤ 20 := by
  have : (st.map (z_cv ad)).map (fun v => v.category) = st.map fun v => v.category := by
    rw [List.map_map]
    exact List.map_congr_left fun v _ => z_cv_cat ad v
  rw [this]
  show 2 * 0 + _ ≤ 20
  omega
/-- calls of instance methods: the words -/
def z_LV (own : String) (idx : Nat) (mk : zMt) (n : Nat) : Prop := GoodIn lw_tbl [.methodLink own idx mk.1, .instanceMethod mk.1, .selects mk.1.cls mk.1 mk.1] ∧ GoodIn lw_tbl [z_cw mk, .initialized mk.1.cls] ∧ z_np mk.1 n ∧ mk.2.2.1 ≤ 30 ∧ mk.2.2.2.2 = []
def z_LS (own : String) (idx : Nat) (mk : zMt) (n : Nat) : Prop := GoodIn lw_tbl [.methodLink own idx mk.1, .static mk.1] ∧ GoodIn lw_tbl [z_cw mk, .initialized mk.1.cls] ∧ z_np mk.1 n ∧ mk.2.2.1 ≤ 30 ∧ mk.2.2.2.2 = []
theorem z_callV_pre {sz0 : Nat} {D : va_G} {ad : Nat → Nat} {s T : State} {H : Heap} {R : Room} {cells slots cb sb MC MS : Nat} {locs : List Loc} {p : Program} {m : MethodId} {meth : Method} {c : Code} {av : List Value} (hC : z_Cx l mt (d + 1) p R s m meth c MC MS sz0) (c1 : cells + cb ≤ MC) (c2 : slots + sb ≤ MS) (c4 : z_Tb D ad s) (c5 : z_Hp sz0 D ad h s H) (hT : T.heap = H) :
    ∀ vm₁, s.WarmedH vm₁ → PreOf R cb sb (va_Pc (av.map (z_cv ad)) (z_Pre sz0 D ad h)) ⟨T.setVm vm₁, locs, cells, slots⟩ (av.map (z_cv ad)).toArray := by
  intro vm₁ hW
  have hR := hC.2.2.2.2.2.2.2.2.2
  refine ⟨by rw [hR]; exact c1, by rw [hR]; exact c2, rfl, z_Tb.warm (U := T.setVm vm₁) hW c4, ?_⟩
  show z_Hp sz0 D ad h (T.setVm vm₁) T.heap
  rw [hT]
  exact z_Hp.moved (u := s) (U := T.setVm vm₁) hW.alike c5
theorem z_callV {idx r n ci cb sb N : Nat} {av stk : List Value} {rs : List Nat} (hL : z_LV mt.1.cls idx mk n) (hd : decode mt.2.1 pc = .ok (.invokevirtual idx, 3)) (hK : z_Ct l mk d cb sb (.ref r :: av) h o1 h1) (hstk : stk = av.reverse ++ .ref r :: st) (hav : av.length = n) (he : h.1[r]? = some (ci, N, rs)) (hci : vwCl[ci]?.map (fun q => q.1) = some mk.1.cls)
    (hw : (st.map fun v => v.category).sum ≤ 20) (hlen : h.1.length ≤ h1.1.length) (hrb : z_rbB (ls ++ st) h.1.length = true) (hcb : cb ≤ bc) (hsb : sb ≤ bs)
    (kR : ∀ v, o1 = .inl v → z_AW l mt (d + 1) (bc - cb) (bs - sb) (pc + 3) ls (v.toList ++ st) h1 o h') (hh : mt.2.2.2.2 = []) (kX : ∀ E, o1 = .inr E → o = .inr E ∧ h1 = h') : z_AW l mt (d + 1) bc bs pc ls stk h o h' := by
  subst hstk
  intro sz0 D ad p e R s m args below meth c H locs cells slots MC MS lsA Qc XC hY hE T hT X
  obtain ⟨hC, c1, c2, c3, c4, c5, c6⟩ := id hY
  obtain ⟨g1, g2, g3, g4, g5⟩ := hL
  obtain ⟨q, hq, hqc⟩ := Option.map_eq_some_iff.mp hci
  have hlt : ci < 9 := (List.getElem?_eq_some_iff.mp hq).1
  obtain ⟨q', hq', cell, p1, p2, p3, p4⟩ := (c5.1 r _ he).1.1 hlt
  have hcls : s.vm.findClass mk.1.cls = some cell.cls := by
    rw [← hqc, p2]
    exact (c4.2.2.2.2.1 ci q hq).2.1
  refine z_after (a := ((.ref r :: av).map (z_cv ad)).toArray) hY hE hlen hrb hcb hsb hT kR (fun E q ce ad' H1 locs1 ho hY2 hE2 => z_handOn hh (kX E ho).1 (kX E ho).2 hY2 hE2) ?_
  have hcode : (z_cw mk).before args s = true := c4.w g2 List.mem_cons_self
  have hcode' : (Cond.code mk.1 mk.2.1 mk.2.2.1 mk.2.2.2.1).before args s = true := by
    obtain ⟨y, cc, maxL, ret, hh9⟩ := mk
    cases hh9 with
    | nil => exact hcode
    | cons => cases g5
  exact vx_callV (C := mk.1.cls) (bytes := mk.2.1) (maxL := mk.2.2.1) (ret := mk.2.2.2.1) X hC.2.1 hC.2.2.2.2.2.1 (c4.w g1 List.mem_cons_self) (c4.w g1 (by simp)) (c4.w g1 (by simp)) hcode' ⟨g3.1, g3.2.1⟩
    (z_back hC c4 hK g2 g4) (by rw [hT]; exact p1) (by rw [p3]; rfl) hcls rfl (by rw [hC.2.2.2.1]; exact c6.1) (argsL := av.map (z_cv ad)) (rest := st.map (z_cv ad)) (fun sig hs => by rw [List.length_map, hav]; exact g3.len sig hs)
    (by show (av.reverse ++ .ref r :: st).map (z_cv ad) = _; rw [List.map_append, List.map_reverse]; rfl) (z_room hw) (by rw [hC.2.2.1]; exact hd) (z_callV_pre (av := .ref r :: av) hC (by omega) (by omega) c4 c5 hT)
theorem z_callS {idx n cb sb : Nat} {av stk : List Value} (hL : z_LS mt.1.cls idx mk n) (hd : decode mt.2.1 pc = .ok (.invokestatic idx, 3)) (hK : z_Ct l mk d cb sb av h o1 h1) (hstk : stk = av.reverse ++ st) (hav : av.length = n)
    (hw : (st.map fun v => v.category).sum ≤ 20) (hlen : h.1.length ≤ h1.1.length) (hrb : z_rbB (ls ++ st) h.1.length = true) (hcb : cb ≤ bc) (hsb : sb ≤ bs)
    (kR : ∀ v, o1 = .inl v → z_AW l mt (d + 1) (bc - cb) (bs - sb) (pc + 3) ls (v.toList ++ st) h1 o h') (hh : mt.2.2.2.2 = []) (kX : ∀ E, o1 = .inr E → o = .inr E ∧ h1 = h') : z_AW l mt (d + 1) bc bs pc ls stk h o h' := by
  subst hstk
  intro sz0 D ad p e R s m args below meth c H locs cells slots MC MS lsA Qc XC hY hE T hT X
  obtain ⟨hC, c1, c2, c3, c4, c5, c6⟩ := id hY
  obtain ⟨g1, g2, g3, g4, g5⟩ := hL
  refine z_after (a := (av.map (z_cv ad)).toArray) hY hE hlen hrb hcb hsb hT kR (fun E q ce ad' H1 locs1 ho hY2 hE2 => z_handOn hh (kX E ho).1 (kX E ho).2 hY2 hE2) ?_
  have hcode : (z_cw mk).before args s = true := c4.w g2 List.mem_cons_self
  have hcode' : (Cond.code mk.1 mk.2.1 mk.2.2.1 mk.2.2.2.1).before args s = true := by
    obtain ⟨y, cc, maxL, ret, hh9⟩ := mk
    cases hh9 with
    | nil => exact hcode
    | cons => cases g5
  exact vx_callS (bytes := mk.2.1) (maxL := mk.2.2.1) (ret := mk.2.2.2.1) X hC.2.1 hC.2.2.2.2.2.1 (c4.w g1 List.mem_cons_self) (c4.w g1 (by simp)) (c4.w g2 (by simp)) hcode' ⟨g3.1, g3.2.1⟩
    (z_back hC c4 hK g2 g4) rfl (by rw [hC.2.2.2.1]; exact c6.1) (argsL := av.map (z_cv ad)) (rest := st.map (z_cv ad)) (fun sig hs => by rw [List.length_map, hav]; exact g3.len sig hs)
    (by show (av.reverse ++ st).map (z_cv ad) = _; rw [List.map_append, List.map_reverse]) (z_room hw) (by rw [hC.2.2.1]; exact hd) (z_callV_pre (av := av) hC (by omega) (by omega) c4 c5 hT)
/-! calls over the machine that return or throw: of nest mates, of constructors -/
theorem z_vxSN {p : Program} {e : Env} {R : Room} {s T : State} {m : MethodId} {args : Array Value} {below : List Frame} {meth : Method} {c : Code} {locs : List Loc} {cells slots : Nat} {own : String} {index : Nat} {y : MethodName} {bytes : ByteArray} {maxL : Nat} {ret : Option FieldType} {W9 : Nat} {Pre : Pt → Array Value → Prop} {Post : Pt → Array Value → Option Value → Pt → Prop} {PostX : Pt → Array Value → Addr → Pt → Prop} {g : JFrame} {argsL rest : List Value} {host : String} (X : Stand p l e R s m args below meth c T locs cells slots) (hexec : p.tables.exec = Jvm.exec)
    (hown : s.vm.findClass own = some m.cls) (hlink : (Cond.methodLinkNest own index y host).before args s = true) (hstat : (Cond.static y).before args s = true) (hinit : (Cond.initialized y.cls).before args s = true)
    (hcode : (Cond.code y bytes maxL ret).before args s = true) (hy : y.cls ≠ "java/lang/invoke/MethodHandle" ∧ y.cls ≠ "java/lang/invoke/VarHandle") (hK : vx_Back l R p e below s args y 3 W9 Pre Post PostX)
    (hg : g.method = m) (hsize : g.locals.size = c.maxLocals) (hlen : ∀ sig, parseMethodDescriptor y.desc = some sig → argsL.length = sig.parameters.length)
    (hstack : g.stack = argsL.reverse ++ rest) (hW : 2 * g.monitorRoom + (rest.map fun v => v.category).sum ≤ W9) (hdg : decode c.code g.pc = .ok (.invokestatic index, 3))
    (hpre : ∀ vm₁, s.WarmedH vm₁ → Pre ⟨T.setVm vm₁, locs, cells, slots⟩ argsL.toArray) :
    (∃ (v : Option Value) (vm₁ : Vm) (B : Pt), s.WarmedH vm₁ ∧ Stand p l e R s m args below meth c B.U B.locs B.cells B.slots ∧ Post ⟨T.setVm vm₁, locs, cells, slots⟩ argsL.toArray v B ∧
      ∀ target, Steps p.tables e below (B.U.setTop { g with pc := g.pc + 3, stack := v.toList ++ rest }) target → Steps p.tables e below (T.setTop g) target) ∨
    (∃ (q : Addr) (vm₁ : Vm) (B : Pt), s.WarmedH vm₁ ∧ Stand p l e R s m args below meth c B.U B.locs B.cells B.slots ∧ PostX ⟨T.setVm vm₁, locs, cells, slots⟩ argsL.toArray q B ∧
      Steps p.tables e below (T.setTop g) ((B.U.setTop { g with stack := rest }).pushFrame (.throwing q))) := by
  obtain ⟨mk, hnamed⟩ := Cond.code_named hcode
  obtain ⟨methM, cM, hmethM, -, -, -, -, -, -, hsigM⟩ := Cond.code_spec hnamed hcode
  have hstatic : methM.isStatic = true := Cond.static_spec hnamed hmethM hstat
  obtain ⟨kP, hkP, -⟩ := className_of_methodNamed hnamed
  have hinitP : kP.init = .initialized := Cond.initialized_spec (findClass_of_methodNamed hnamed) hkP hinit
  obtain ⟨vm₁, X₁, hstep₁⟩ := X.invokestaticNest hexec hown hlink hnamed hmethM hstatic hkP hinitP hy (g := g) hg (argsL := argsL) (rest := rest) (hlen _ hsigM) hstack hdg
  rcases hK m meth c ⟨T.setVm vm₁, locs, cells, slots⟩ { g with stack := rest } (.invokestatic index) mk argsL.toArray X₁ hg hsize hdg hW (X₁.named hnamed) (hpre vm₁ X₁.warmed) with ⟨v, B, X', hpost, hsteps⟩ | ⟨q, B, X', hpost, hsteps⟩
  · exact Or.inl ⟨v, vm₁, B, X₁.warmed, X', hpost, fun target h => hstep₁ _ fun acts => by rw [doInvoke_state]; exact hsteps.trans h⟩
  · exact Or.inr ⟨q, vm₁, B, X₁.warmed, X', hpost, hstep₁ _ fun acts => by rw [doInvoke_state]; exact hsteps⟩
theorem z_vxSW {p : Program} {e : Env} {R : Room} {s T : State} {m : MethodId} {args : Array Value} {below : List Frame} {meth : Method} {c : Code} {locs : List Loc} {cells slots : Nat} {own : String} {index : Nat} {y : MethodName} {bytes : ByteArray} {maxL : Nat} {ret : Option FieldType} {W9 : Nat} {Pre : Pt → Array Value → Prop} {Post : Pt → Array Value → Option Value → Pt → Prop} {PostX : Pt → Array Value → Addr → Pt → Prop} {g : JFrame} {argsL rest : List Value} {hh : List (Nat × Nat × Nat × Nat)} (X : Stand p l e R s m args below meth c T locs cells slots) (hexec : p.tables.exec = Jvm.exec)
    (hown : s.vm.findClass own = some m.cls) (hlink : (Cond.methodLink own index y).before args s = true) (hstat : (Cond.static y).before args s = true) (hinit : (Cond.initialized y.cls).before args s = true)
    (hcode : (Cond.codeWith y bytes maxL ret hh).before args s = true) (hy : y.cls ≠ "java/lang/invoke/MethodHandle" ∧ y.cls ≠ "java/lang/invoke/VarHandle") (hK : vx_Back l R p e below s args y 3 W9 Pre Post PostX)
    (hg : g.method = m) (hsize : g.locals.size = c.maxLocals) (hlen : ∀ sig, parseMethodDescriptor y.desc = some sig → argsL.length = sig.parameters.length)
    (hstack : g.stack = argsL.reverse ++ rest) (hW : 2 * g.monitorRoom + (rest.map fun v => v.category).sum ≤ W9) (hdg : decode c.code g.pc = .ok (.invokestatic index, 3))
    (hpre : ∀ vm₁, s.WarmedH vm₁ → Pre ⟨T.setVm vm₁, locs, cells, slots⟩ argsL.toArray) :
    (∃ (v : Option Value) (vm₁ : Vm) (B : Pt), s.WarmedH vm₁ ∧ Stand p l e R s m args below meth c B.U B.locs B.cells B.slots ∧ Post ⟨T.setVm vm₁, locs, cells, slots⟩ argsL.toArray v B ∧
      ∀ target, Steps p.tables e below (B.U.setTop { g with pc := g.pc + 3, stack := v.toList ++ rest }) target → Steps p.tables e below (T.setTop g) target) ∨
    (∃ (q : Addr) (vm₁ : Vm) (B : Pt), s.WarmedH vm₁ ∧ Stand p l e R s m args below meth c B.U B.locs B.cells B.slots ∧ PostX ⟨T.setVm vm₁, locs, cells, slots⟩ argsL.toArray q B ∧
      Steps p.tables e below (T.setTop g) ((B.U.setTop { g with stack := rest }).pushFrame (.throwing q))) := by
  obtain ⟨mk, methM, cM, hnamed, hmethM, -, -, -, -, -, -, hsigM⟩ := Cond.codeWith_spec hcode
  have hstatic : methM.isStatic = true := Cond.static_spec hnamed hmethM hstat
  obtain ⟨kP, hkP, -⟩ := className_of_methodNamed hnamed
  have hinitP : kP.init = .initialized := Cond.initialized_spec (findClass_of_methodNamed hnamed) hkP hinit
  obtain ⟨vm₁, X₁, hstep₁⟩ := X.invokestatic hexec hown hlink hnamed hmethM hstatic hkP hinitP hy (g := g) hg (argsL := argsL) (rest := rest) (hlen _ hsigM) hstack hdg
  rcases hK m meth c ⟨T.setVm vm₁, locs, cells, slots⟩ { g with stack := rest } (.invokestatic index) mk argsL.toArray X₁ hg hsize hdg hW (X₁.named hnamed) (hpre vm₁ X₁.warmed) with ⟨v, B, X', hpost, hsteps⟩ | ⟨q, B, X', hpost, hsteps⟩
  · exact Or.inl ⟨v, vm₁, B, X₁.warmed, X', hpost, fun target h => hstep₁ _ fun acts => by rw [doInvoke_state]; exact hsteps.trans h⟩
  · exact Or.inr ⟨q, vm₁, B, X₁.warmed, X', hpost, hstep₁ _ fun acts => by rw [doInvoke_state]; exact hsteps⟩
theorem z_vxI {p : Program} {e : Env} {R : Room} {s T : State} {m : MethodId} {args : Array Value} {below : List Frame} {meth : Method} {c : Code} {locs : List Loc} {cells slots : Nat} {own : String} {index : Nat} {y : MethodName} {bytes : ByteArray} {maxL : Nat} {W9 : Nat} {Pre : Pt → Array Value → Prop} {Post : Pt → Array Value → Option Value → Pt → Prop} {PostX : Pt → Array Value → Addr → Pt → Prop} {g : JFrame} {argsL rest : List Value} (X : Stand p l e R s m args below meth c T locs cells slots) (hexec : p.tables.exec = Jvm.exec) {a : Addr}
    (hown : s.vm.findClass own = some m.cls) (hy1 : y.name = "<init>") (hlink : (Cond.methodLink own index y).before args s = true) (hinst : (Cond.instanceMethod y).before args s = true)
    (hcode : (Cond.code y bytes maxL none).before args s = true) (hy : y.cls ≠ "java/lang/invoke/MethodHandle" ∧ y.cls ≠ "java/lang/invoke/VarHandle") (hK : vx_Back l R p e below s args y 3 W9 Pre Post PostX)
    (hg : g.method = m) (hsize : g.locals.size = c.maxLocals) (hlen : ∀ sig, parseMethodDescriptor y.desc = some sig → argsL.length = sig.parameters.length)
    (hstack : g.stack = argsL.reverse ++ .ref a :: rest) (hW : 2 * g.monitorRoom + (rest.map fun v => v.category).sum ≤ W9) (hdg : decode c.code g.pc = .ok (.invokespecial index, 3))
    (hpre : ∀ vm₁, s.WarmedH vm₁ → Pre ⟨T.setVm vm₁, locs, cells, slots⟩ (Value.ref a :: argsL).toArray) :
    (∃ (v : Option Value) (vm₁ : Vm) (B : Pt), s.WarmedH vm₁ ∧ Stand p l e R s m args below meth c B.U B.locs B.cells B.slots ∧ Post ⟨T.setVm vm₁, locs, cells, slots⟩ (Value.ref a :: argsL).toArray v B ∧
      ∀ target, Steps p.tables e below (B.U.setTop { g with pc := g.pc + 3, stack := v.toList ++ rest }) target → Steps p.tables e below (T.setTop g) target) ∨
    (∃ (q : Addr) (vm₁ : Vm) (B : Pt), s.WarmedH vm₁ ∧ Stand p l e R s m args below meth c B.U B.locs B.cells B.slots ∧ PostX ⟨T.setVm vm₁, locs, cells, slots⟩ (Value.ref a :: argsL).toArray q B ∧
      Steps p.tables e below (T.setTop g) ((B.U.setTop { g with stack := rest }).pushFrame (.throwing q))) := by
  subst hg
  have hpl : e.platform.magicAccessors = ({} : Platform).magicAccessors := by rw [X.admits.platform]
  obtain ⟨mk, methM, cM, kP, vm₁, hnamed, hmethM, hcodeM, -, hlocalsM, -, hkP, -, hW₁, hstep₁⟩ := Steps.initColdArgs (e := e) X.here hexec X.warmed hpl hown hy1 hy hlink hinst hcode (f := g) rfl hlen hstack hdg
  have X₁ := X.noted hW₁
  rcases hK g.method meth c ⟨T.setVm vm₁, locs, cells, slots⟩ { g with stack := rest } (.invokespecial index) mk (Value.ref a :: argsL).toArray X₁ rfl hsize hdg hW (X₁.named hnamed) (hpre vm₁ X₁.warmed) with ⟨v, B, X', hpost, hsteps⟩ | ⟨q, B, X', hpost, hsteps⟩
  · exact Or.inl ⟨v, vm₁, B, X₁.warmed, X', hpost, fun target h => hstep₁ _ fun acts => by rw [doInvoke_state]; exact hsteps.trans h⟩
  · exact Or.inr ⟨q, vm₁, B, X₁.warmed, X', hpost, hstep₁ _ fun acts => by rw [doInvoke_state]; exact hsteps⟩
theorem z_vxIN {p : Program} {e : Env} {R : Room} {s T : State} {m : MethodId} {args : Array Value} {below : List Frame} {meth : Method} {c : Code} {locs : List Loc} {cells slots : Nat} {own : String} {index : Nat} {y : MethodName} {bytes : ByteArray} {maxL : Nat} {W9 : Nat} {Pre : Pt → Array Value → Prop} {Post : Pt → Array Value → Option Value → Pt → Prop} {PostX : Pt → Array Value → Addr → Pt → Prop} {g : JFrame} {argsL rest : List Value} {host : String} (X : Stand p l e R s m args below meth c T locs cells slots) (hexec : p.tables.exec = Jvm.exec) {a : Addr}
    (hown : s.vm.findClass own = some m.cls) (hy1 : y.name = "<init>") (hlink : (Cond.methodLinkNest own index y host).before args s = true) (hinst : (Cond.instanceMethod y).before args s = true)
    (hcode : (Cond.code y bytes maxL none).before args s = true) (hy : y.cls ≠ "java/lang/invoke/MethodHandle" ∧ y.cls ≠ "java/lang/invoke/VarHandle") (hK : vx_Back l R p e below s args y 3 W9 Pre Post PostX)
    (hg : g.method = m) (hsize : g.locals.size = c.maxLocals) (hlen : ∀ sig, parseMethodDescriptor y.desc = some sig → argsL.length = sig.parameters.length)
    (hstack : g.stack = argsL.reverse ++ .ref a :: rest) (hW : 2 * g.monitorRoom + (rest.map fun v => v.category).sum ≤ W9) (hdg : decode c.code g.pc = .ok (.invokespecial index, 3))
    (hpre : ∀ vm₁, s.WarmedH vm₁ → Pre ⟨T.setVm vm₁, locs, cells, slots⟩ (Value.ref a :: argsL).toArray) :
    (∃ (v : Option Value) (vm₁ : Vm) (B : Pt), s.WarmedH vm₁ ∧ Stand p l e R s m args below meth c B.U B.locs B.cells B.slots ∧ Post ⟨T.setVm vm₁, locs, cells, slots⟩ (Value.ref a :: argsL).toArray v B ∧
      ∀ target, Steps p.tables e below (B.U.setTop { g with pc := g.pc + 3, stack := v.toList ++ rest }) target → Steps p.tables e below (T.setTop g) target) ∨
    (∃ (q : Addr) (vm₁ : Vm) (B : Pt), s.WarmedH vm₁ ∧ Stand p l e R s m args below meth c B.U B.locs B.cells B.slots ∧ PostX ⟨T.setVm vm₁, locs, cells, slots⟩ (Value.ref a :: argsL).toArray q B ∧
      Steps p.tables e below (T.setTop g) ((B.U.setTop { g with stack := rest }).pushFrame (.throwing q))) := by
  subst hg
  have hpl : e.platform.magicAccessors = ({} : Platform).magicAccessors := by rw [X.admits.platform]
  obtain ⟨mk, methM, cM, kP, vm₁, hnamed, hmethM, hcodeM, -, hlocalsM, -, hkP, -, hW₁, hstep₁⟩ := Steps.initColdArgsNest (e := e) X.here hexec X.warmed hpl hown hy1 hy hlink hinst hcode (f := g) rfl hlen hstack hdg
  have X₁ := X.noted hW₁
  rcases hK g.method meth c ⟨T.setVm vm₁, locs, cells, slots⟩ { g with stack := rest } (.invokespecial index) mk (Value.ref a :: argsL).toArray X₁ rfl hsize hdg hW (X₁.named hnamed) (hpre vm₁ X₁.warmed) with ⟨v, B, X', hpost, hsteps⟩ | ⟨q, B, X', hpost, hsteps⟩
  · exact Or.inl ⟨v, vm₁, B, X₁.warmed, X', hpost, fun target h => hstep₁ _ fun acts => by rw [doInvoke_state]; exact hsteps.trans h⟩
  · exact Or.inr ⟨q, vm₁, B, X₁.warmed, X', hpost, hstep₁ _ fun acts => by rw [doInvoke_state]; exact hsteps⟩
def z_LN (own : String) (idx : Nat) (mk : zMt) (n : Nat) : Prop := (∃ host, (own, idx, mk.1, host) ∈ z_nestW) ∧ GoodIn lw_tbl [.static mk.1] ∧ GoodIn lw_tbl [z_cw mk, .initialized mk.1.cls] ∧ z_np mk.1 n ∧ mk.2.2.1 ≤ 30 ∧ mk.2.2.2.2 = []
theorem z_callSN {idx n cb sb : Nat} {av stk : List Value} (hL : z_LN mt.1.cls idx mk n) (hd : decode mt.2.1 pc = .ok (.invokestatic idx, 3)) (hK : z_Ct l mk d cb sb av h o1 h1) (hstk : stk = av.reverse ++ st) (hav : av.length = n)
    (hw : (st.map fun v => v.category).sum ≤ 20) (hlen : h.1.length ≤ h1.1.length) (hrb : z_rbB (ls ++ st) h.1.length = true) (hcb : cb ≤ bc) (hsb : sb ≤ bs)
    (kR : ∀ v, o1 = .inl v → z_AW l mt (d + 1) (bc - cb) (bs - sb) (pc + 3) ls (v.toList ++ st) h1 o h') (hh : mt.2.2.2.2 = []) (kX : ∀ E, o1 = .inr E → o = .inr E ∧ h1 = h') : z_AW l mt (d + 1) bc bs pc ls stk h o h' := by
  subst hstk
  intro sz0 D ad p e R s m args below meth c H locs cells slots MC MS lsA Qc XC hY hE T hT X
  obtain ⟨hC, c1, c2, c3, c4, c5, c6⟩ := id hY
  obtain ⟨⟨host, g0⟩, g1, g2, g3, g4, g5⟩ := hL
  refine z_after (a := (av.map (z_cv ad)).toArray) hY hE hlen hrb hcb hsb hT kR (fun E q ce ad' H1 locs1 ho hY2 hE2 => z_handOn hh (kX E ho).1 (kX E ho).2 hY2 hE2) ?_
  have hcode : (z_cw mk).before args s = true := c4.w g2 List.mem_cons_self
  have hcode' : (Cond.code mk.1 mk.2.1 mk.2.2.1 mk.2.2.2.1).before args s = true := by
    obtain ⟨y, cc, maxL, ret, hh9⟩ := mk
    cases hh9 with
    | nil => exact hcode
    | cons => cases g5
  exact z_vxSN (bytes := mk.2.1) (maxL := mk.2.2.1) (ret := mk.2.2.2.1) X hC.2.1 hC.2.2.2.2.2.1 (va_Nw.use rfl (c4.2.1 _ g0)) (c4.w g1 (by simp)) (c4.w g2 (by simp)) hcode' ⟨g3.1, g3.2.1⟩
    (z_back hC c4 hK g2 g4) rfl (by rw [hC.2.2.2.1]; exact c6.1) (argsL := av.map (z_cv ad)) (rest := st.map (z_cv ad)) (fun sig hs => by rw [List.length_map, hav]; exact g3.len sig hs)
    (by show (av.reverse ++ st).map (z_cv ad) = _; rw [List.map_append, List.map_reverse]) (z_room hw) (by rw [hC.2.2.1]; exact hd) (z_callV_pre (av := av) hC (by omega) (by omega) c4 c5 hT)
def z_LI (own : String) (idx : Nat) (mk : zMt) (n : Nat) : Prop := GoodIn lw_tbl [.methodLink own idx mk.1, .instanceMethod mk.1] ∧ GoodIn lw_tbl [z_cw mk, .initialized mk.1.cls] ∧ z_np mk.1 n ∧ mk.2.2.1 ≤ 30 ∧ mk.2.2.2.2 = [] ∧ mk.1.name = "<init>" ∧ mk.2.2.2.1 = none
def z_LIN (own : String) (idx : Nat) (mk : zMt) (n : Nat) : Prop := (∃ host, (own, idx, mk.1, host) ∈ z_nestW) ∧ GoodIn lw_tbl [.instanceMethod mk.1] ∧ GoodIn lw_tbl [z_cw mk, .initialized mk.1.cls] ∧ z_np mk.1 n ∧ mk.2.2.1 ≤ 30 ∧ mk.2.2.2.2 = [] ∧ mk.1.name = "<init>" ∧ mk.2.2.2.1 = none
theorem z_callI {idx r n cb sb : Nat} {av stk : List Value} (hL : z_LI mt.1.cls idx mk n) (hd : decode mt.2.1 pc = .ok (.invokespecial idx, 3)) (hK : z_Ct l mk d cb sb (.ref r :: av) h o1 h1) (hstk : stk = av.reverse ++ .ref r :: st) (hav : av.length = n)
    (hw : (st.map fun v => v.category).sum ≤ 20) (hlen : h.1.length ≤ h1.1.length) (hrb : z_rbB (ls ++ st) h.1.length = true) (hcb : cb ≤ bc) (hsb : sb ≤ bs)
    (kR : ∀ v, o1 = .inl v → z_AW l mt (d + 1) (bc - cb) (bs - sb) (pc + 3) ls (v.toList ++ st) h1 o h') (hh : mt.2.2.2.2 = []) (kX : ∀ E, o1 = .inr E → o = .inr E ∧ h1 = h') : z_AW l mt (d + 1) bc bs pc ls stk h o h' := by
  subst hstk
  intro sz0 D ad p e R s m args below meth c H locs cells slots MC MS lsA Qc XC hY hE T hT X
  obtain ⟨hC, c1, c2, c3, c4, c5, c6⟩ := id hY
  obtain ⟨g1, g2, g3, g4, g5, g6, g7⟩ := hL
  refine z_after (a := ((.ref r :: av).map (z_cv ad)).toArray) hY hE hlen hrb hcb hsb hT kR (fun E q ce ad' H1 locs1 ho hY2 hE2 => z_handOn hh (kX E ho).1 (kX E ho).2 hY2 hE2) ?_
  have hcode : (z_cw mk).before args s = true := c4.w g2 List.mem_cons_self
  have hcode' : (Cond.code mk.1 mk.2.1 mk.2.2.1 mk.2.2.2.1).before args s = true := by
    obtain ⟨y, cc, maxL, ret, hh9⟩ := mk
    cases hh9 with
    | nil => exact hcode
    | cons => cases g5
  exact z_vxI (bytes := mk.2.1) (maxL := mk.2.2.1) X hC.2.1 hC.2.2.2.2.2.1 g6 (c4.w g1 List.mem_cons_self) (c4.w g1 (by simp)) (by rw [← g7]; exact hcode') ⟨g3.1, g3.2.1⟩
    (z_back hC c4 hK g2 g4) rfl (by rw [hC.2.2.2.1]; exact c6.1) (argsL := av.map (z_cv ad)) (rest := st.map (z_cv ad)) (fun sig hs => by rw [List.length_map, hav]; exact g3.len sig hs)
    (by show (av.reverse ++ .ref r :: st).map (z_cv ad) = _; rw [List.map_append, List.map_reverse]; rfl) (z_room hw) (by rw [hC.2.2.1]; exact hd) (z_callV_pre (av := .ref r :: av) hC (by omega) (by omega) c4 c5 hT)
theorem z_callIN {idx r n cb sb : Nat} {av stk : List Value} (hL : z_LIN mt.1.cls idx mk n) (hd : decode mt.2.1 pc = .ok (.invokespecial idx, 3)) (hK : z_Ct l mk d cb sb (.ref r :: av) h o1 h1) (hstk : stk = av.reverse ++ .ref r :: st) (hav : av.length = n)
    (hw : (st.map fun v => v.category).sum ≤ 20) (hlen : h.1.length ≤ h1.1.length) (hrb : z_rbB (ls ++ st) h.1.length = true) (hcb : cb ≤ bc) (hsb : sb ≤ bs)
    (kR : ∀ v, o1 = .inl v → z_AW l mt (d + 1) (bc - cb) (bs - sb) (pc + 3) ls (v.toList ++ st) h1 o h') (hh : mt.2.2.2.2 = []) (kX : ∀ E, o1 = .inr E → o = .inr E ∧ h1 = h') : z_AW l mt (d + 1) bc bs pc ls stk h o h' := by
  subst hstk
  intro sz0 D ad p e R s m args below meth c H locs cells slots MC MS lsA Qc XC hY hE T hT X
  obtain ⟨hC, c1, c2, c3, c4, c5, c6⟩ := id hY
  obtain ⟨⟨host, g0⟩, g1, g2, g3, g4, g5, g6, g7⟩ := hL
  refine z_after (a := ((.ref r :: av).map (z_cv ad)).toArray) hY hE hlen hrb hcb hsb hT kR (fun E q ce ad' H1 locs1 ho hY2 hE2 => z_handOn hh (kX E ho).1 (kX E ho).2 hY2 hE2) ?_
  have hcode : (z_cw mk).before args s = true := c4.w g2 List.mem_cons_self
  have hcode' : (Cond.code mk.1 mk.2.1 mk.2.2.1 mk.2.2.2.1).before args s = true := by
    obtain ⟨y, cc, maxL, ret, hh9⟩ := mk
    cases hh9 with
    | nil => exact hcode
    | cons => cases g5
  exact z_vxIN (bytes := mk.2.1) (maxL := mk.2.2.1) X hC.2.1 hC.2.2.2.2.2.1 g6 (va_Nw.use rfl (c4.2.1 _ g0)) (c4.w g1 (by simp)) (by rw [← g7]; exact hcode') ⟨g3.1, g3.2.1⟩
    (z_back hC c4 hK g2 g4) rfl (by rw [hC.2.2.2.1]; exact c6.1) (argsL := av.map (z_cv ad)) (rest := st.map (z_cv ad)) (fun sig hs => by rw [List.length_map, hav]; exact g3.len sig hs)
    (by show (av.reverse ++ .ref r :: st).map (z_cv ad) = _; rw [List.map_append, List.map_reverse]; rfl) (z_room hw) (by rw [hC.2.2.1]; exact hd) (z_callV_pre (av := .ref r :: av) hC (by omega) (by omega) c4 c5 hT)
/-- a static method with a table of handlers (the law's own) -/
def z_LW (own : String) (idx : Nat) (mk : zMt) (n : Nat) : Prop := GoodIn lw_tbl [.methodLink own idx mk.1, .static mk.1] ∧ GoodIn lw_tbl [z_cw mk, .initialized mk.1.cls] ∧ z_np mk.1 n ∧ mk.2.2.1 ≤ 30 ∧ mk.2.2.2.2 ≠ []
theorem z_callSW {idx n cb sb : Nat} {av stk : List Value} (hL : z_LW mt.1.cls idx mk n) (hd : decode mt.2.1 pc = .ok (.invokestatic idx, 3)) (hK : z_Ct l mk d cb sb av h o1 h1) (hstk : stk = av.reverse ++ st) (hav : av.length = n)
    (hw : (st.map fun v => v.category).sum ≤ 20) (hlen : h.1.length ≤ h1.1.length) (hrb : z_rbB (ls ++ st) h.1.length = true) (hcb : cb ≤ bc) (hsb : sb ≤ bs)
    (kR : ∀ v, o1 = .inl v → z_AW l mt (d + 1) (bc - cb) (bs - sb) (pc + 3) ls (v.toList ++ st) h1 o h') (hh : mt.2.2.2.2 = []) (kX : ∀ E, o1 = .inr E → o = .inr E ∧ h1 = h') : z_AW l mt (d + 1) bc bs pc ls stk h o h' := by
  subst hstk
  intro sz0 D ad p e R s m args below meth c H locs cells slots MC MS lsA Qc XC hY hE T hT X
  obtain ⟨hC, c1, c2, c3, c4, c5, c6⟩ := id hY
  obtain ⟨g1, g2, g3, g4, g5⟩ := hL
  refine z_after (a := (av.map (z_cv ad)).toArray) hY hE hlen hrb hcb hsb hT kR (fun E q ce ad' H1 locs1 ho hY2 hE2 => z_handOn hh (kX E ho).1 (kX E ho).2 hY2 hE2) ?_
  have hcode : (z_cw mk).before args s = true := c4.w g2 List.mem_cons_self
  have hcode' : (Cond.codeWith mk.1 mk.2.1 mk.2.2.1 mk.2.2.2.1 mk.2.2.2.2).before args s = true := by
    obtain ⟨y, cc, maxL, ret, hh9⟩ := mk
    cases hh9 with
    | nil => exact absurd rfl g5
    | cons => exact hcode
  exact z_vxSW (bytes := mk.2.1) (maxL := mk.2.2.1) (ret := mk.2.2.2.1) (hh := mk.2.2.2.2) X hC.2.1 hC.2.2.2.2.2.1 (c4.w g1 List.mem_cons_self) (c4.w g1 (by simp)) (c4.w g2 (by simp)) hcode' ⟨g3.1, g3.2.1⟩
    (z_back hC c4 hK g2 g4) rfl (by rw [hC.2.2.2.1]; exact c6.1) (argsL := av.map (z_cv ad)) (rest := st.map (z_cv ad)) (fun sig hs => by rw [List.length_map, hav]; exact g3.len sig hs)
    (by show (av.reverse ++ st).map (z_cv ad) = _; rw [List.map_append, List.map_reverse]) (z_room hw) (by rw [hC.2.2.1]; exact hd) (z_callV_pre (av := av) hC (by omega) (by omega) c4 c5 hT)
/-- String's own methods -/
theorem z_callVS {idx r n cb sb N : Nat} {av stk : List Value} {rs : List Nat} (hL : z_LV mt.1.cls idx mk n) (hS : mk.1.cls = "java/lang/String") (hd : decode mt.2.1 pc = .ok (.invokevirtual idx, 3)) (hK : z_Ct l mk d cb sb (.ref r :: av) h o1 h1) (hstk : stk = av.reverse ++ .ref r :: st) (hav : av.length = n) (he : h.1[r]? = some (15, N, rs))
    (hw : (st.map fun v => v.category).sum ≤ 20) (hlen : h.1.length ≤ h1.1.length) (hrb : z_rbB (ls ++ st) h.1.length = true) (hcb : cb ≤ bc) (hsb : sb ≤ bs)
    (kR : ∀ v, o1 = .inl v → z_AW l mt (d + 1) (bc - cb) (bs - sb) (pc + 3) ls (v.toList ++ st) h1 o h') (hh : mt.2.2.2.2 = []) (kX : ∀ E, o1 = .inr E → o = .inr E ∧ h1 = h') : z_AW l mt (d + 1) bc bs pc ls stk h o h' := by
  subst hstk
  intro sz0 D ad p e R s m args below meth c H locs cells slots MC MS lsA Qc XC hY hE T hT X
  obtain ⟨hC, c1, c2, c3, c4, c5, c6⟩ := id hY
  obtain ⟨g1, g2, g3, g4, g5⟩ := hL
  obtain ⟨cell, p1, p2, p3, p4⟩ := ((c5.1 r _ he).1.2.2.2.2.2.2 rfl).1
  refine z_after (a := ((.ref r :: av).map (z_cv ad)).toArray) hY hE hlen hrb hcb hsb hT kR (fun E q ce ad' H1 locs1 ho hY2 hE2 => z_handOn hh (kX E ho).1 (kX E ho).2 hY2 hE2) ?_
  have hcode : (z_cw mk).before args s = true := c4.w g2 List.mem_cons_self
  have hcode' : (Cond.code mk.1 mk.2.1 mk.2.2.1 mk.2.2.2.1).before args s = true := by
    obtain ⟨y, cc, maxL, ret, hh9⟩ := mk
    cases hh9 with
    | nil => exact hcode
    | cons => cases g5
  exact vx_callV (C := mk.1.cls) (bytes := mk.2.1) (maxL := mk.2.2.1) (ret := mk.2.2.2.1) X hC.2.1 hC.2.2.2.2.2.1 (c4.w g1 List.mem_cons_self) (c4.w g1 (by simp)) (c4.w g1 (by simp)) hcode' ⟨g3.1, g3.2.1⟩
    (z_back hC c4 hK g2 g4) (by rw [hT]; exact p1) p2 (by rw [hS]; exact p3) rfl (by rw [hC.2.2.2.1]; exact c6.1) (argsL := av.map (z_cv ad)) (rest := st.map (z_cv ad)) (fun sig hs => by rw [List.length_map, hav]; exact g3.len sig hs)
    (by show (av.reverse ++ .ref r :: st).map (z_cv ad) = _; rw [List.map_append, List.map_reverse]; rfl) (z_room hw) (by rw [hC.2.2.1]; exact hd) (z_callV_pre (av := .ref r :: av) hC (by omega) (by omega) c4 c5 hT)
end ZC
