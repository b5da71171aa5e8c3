/-! ===== the judgement: from here the method ends with o, and the memory is h' ===== -/
abbrev zO : Type := Option Value ⊕ String
def z_Cx (l : Launch) (mt : zMt) (d : Nat) (p : Program) (R : Room) (s : State) (m : MethodId) (meth : Method) (c : Code) (MC MS sz0 : Nat) : Prop :=
  (l.stackTraces = false ∧ sz0 ≤ s.heap.size) ∧ p.tables.exec = Jvm.exec ∧ c.code = mt.2.1 ∧ c.maxLocals = mt.2.2.1 ∧ meth.sig.returnType = mt.2.2.2.1 ∧ s.vm.findClass mt.1.cls = some m.cls ∧ meth.locks = false ∧ c.exceptionTable.toList = tableOf mt.2.2.2.2 ∧ meth.name = mt.1.name ∧ R = { frames := d, cells := MC, slots := MS, locals := 64 * d }
def z_E (h : zHP) (o : zO) (h' : zHP) (sz0 : Nat) (D : va_G) (ad : Nat → Nat) (args : Array Value) (s : State) (Qc : Array Value → State → Outcome → State → Prop) (XC : String → State → State → Prop) : Prop :=
  ∀ (ad' : Nat → Nat) (t : State), (∀ i, i < h.1.length → ad' i = ad i) → s.vm.Alike t.vm → z_Hp sz0 D ad' h' s t.heap → (∀ v, o = .inl v → Qc args s (.returned (v.map (z_cv ad'))) t) ∧ ∀ E, o = .inr E → XC E s t
def z_Y (l : Launch) (mt : zMt) (d bc bs : Nat) (ls : List Value) (h : zHP) (sz0 : Nat) (D : va_G) (ad : Nat → Nat) (p : Program) (R : Room) (s : State) (m : MethodId) (meth : Method) (c : Code) (H : Heap) (locs : List Loc) (cells slots MC MS : Nat) (lsA : Array Slot) : Prop :=
  z_Cx l mt d p R s m meth c MC MS sz0 ∧ cells + bc ≤ MC ∧ slots + bs ≤ MS ∧ (∀ q ∈ locs, sz0 ≤ q.base) ∧ z_Tb D ad s ∧ z_Hp sz0 D ad h s H ∧ z_LR ad mt.2.2.1 ls lsA
def z_AW (l : Launch) (mt : zMt) (d bc bs pc : Nat) (ls st : List Value) (h : zHP) (o : zO) (h' : zHP) : Prop :=
  ∀ (sz0 : Nat) (D : va_G) (ad : Nat → Nat) (p : Program) (e : Env) (R : Room) (s : State) (m : MethodId) (args : Array Value) (below : List Frame) (meth : Method) (c : Code) (H : Heap) (locs : List Loc) (cells slots MC MS : Nat) (lsA : Array Slot) (Qc : Array Value → State → Outcome → State → Prop) (XC : String → State → State → Prop),
    z_Y l mt d bc bs ls h sz0 D ad p R s m meth c H locs cells slots MC MS lsA → z_E h o h' sz0 D ad args s Qc XC →
    W p l e R s m args below meth c H locs cells slots (vx_MQ below Qc XC args s MC MS (fun q => sz0 ≤ q)) (F0 m pc lsA (st.map (z_cv ad)))
section ZR
variable {l : Launch} {mt : zMt} {d bc bs pc : Nat} {ls st : List Value} {h h' : zHP} {o : zO}
/-- an instruction that moves the stack alone -/
theorem z_lift {pc' : Nat} {st' : List Value} (f : ∀ (ad : Nat → Nat) (p : Program) (e : Env) (R : Room) (s : State) (m : MethodId) (args : Array Value) (below : List Frame) (meth : Method) (c : Code) (H : Heap) (locs : List Loc) (cells slots : Nat) (Q : State → Prop) (lsA : Array Slot), p.tables.exec = Jvm.exec → c.code = mt.2.1 →
      W p l e R s m args below meth c H locs cells slots Q (F0 m pc' lsA (st'.map (z_cv ad))) → W p l e R s m args below meth c H locs cells slots Q (F0 m pc lsA (st.map (z_cv ad))))
    (k : z_AW l mt d bc bs pc' ls st' h o h') : z_AW l mt d bc bs pc ls st h o h' := by
  intro sz0 D ad p e R s m args below meth c H locs cells slots MC MS lsA Qc XC hY hE
  exact f ad p e R s m args below meth c H locs cells slots _ lsA hY.1.2.1 hY.1.2.2.1 (k sz0 D ad p e R s m args below meth c H locs cells slots MC MS lsA Qc XC hY hE)
theorem z_iconst {n : Int} (hd : decode mt.2.1 pc = .ok (.iconst n, 1)) (k : z_AW l mt d bc bs (pc + 1) ls (.int (Int32.ofInt n) :: st) h o h') : z_AW l mt d bc bs pc ls st h o h' :=
  z_lift (fun _ _ _ _ _ _ _ _ _ _ _ _ _ _ _ _ hx hb w => lv_iconst hx hb hd rfl w) k
theorem z_bipush {n : Int} (hd : decode mt.2.1 pc = .ok (.bipush n, 2)) (k : z_AW l mt d bc bs (pc + 2) ls (.int (Int8.ofInt n).toInt32 :: st) h o h') : z_AW l mt d bc bs pc ls st h o h' :=
  z_lift (fun _ _ _ _ _ _ _ _ _ _ _ _ _ _ _ _ hx hb w => lv_bipush hx hb hd rfl w) k
theorem z_sipush {n : Int} (hd : decode mt.2.1 pc = .ok (.sipush n, 3)) (k : z_AW l mt d bc bs (pc + 3) ls (.int (Int16.ofInt n).toInt32 :: st) h o h') : z_AW l mt d bc bs pc ls st h o h' :=
  z_lift (fun _ _ _ _ _ _ _ _ _ _ _ _ _ _ _ _ hx hb w => lv_sipush hx hb hd rfl w) k
theorem z_lconst {n : Fin 2} (hd : decode mt.2.1 pc = .ok (.lconst n, 1)) (k : z_AW l mt d bc bs (pc + 1) ls (.long (Int64.ofNat (n : Nat)) :: st) h o h') : z_AW l mt d bc bs pc ls st h o h' :=
  z_lift (fun _ _ _ _ _ _ _ _ _ _ _ _ _ _ _ _ hx hb w => lv_lconst hx hb hd rfl w) k
theorem z_iadd {x y : Int32} (hd : decode mt.2.1 pc = .ok (.iadd, 1)) (k : z_AW l mt d bc bs (pc + 1) ls (.int (x + y) :: st) h o h') : z_AW l mt d bc bs pc ls (.int y :: .int x :: st) h o h' :=
  z_lift (fun _ _ _ _ _ _ _ _ _ _ _ _ _ _ _ _ hx hb w => lv_iadd hx hb hd w) k
theorem z_isub {x y : Int32} (hd : decode mt.2.1 pc = .ok (.isub, 1)) (k : z_AW l mt d bc bs (pc + 1) ls (.int (x - y) :: st) h o h') : z_AW l mt d bc bs pc ls (.int y :: .int x :: st) h o h' :=
  z_lift (fun _ _ _ _ _ _ _ _ _ _ _ _ _ _ _ _ hx hb w => lv_isub hx hb hd w) k
theorem z_imul {x y : Int32} (hd : decode mt.2.1 pc = .ok (.imul, 1)) (k : z_AW l mt d bc bs (pc + 1) ls (.int (x * y) :: st) h o h') : z_AW l mt d bc bs pc ls (.int y :: .int x :: st) h o h' :=
  z_lift (fun _ _ _ _ _ _ _ _ _ _ _ _ _ _ _ _ hx hb w => lv_imul hx hb hd w) k
theorem z_iand {x y : Int32} (hd : decode mt.2.1 pc = .ok (.iand, 1)) (k : z_AW l mt d bc bs (pc + 1) ls (.int (x &&& y) :: st) h o h') : z_AW l mt d bc bs pc ls (.int y :: .int x :: st) h o h' :=
  z_lift (fun _ _ _ _ _ _ _ _ _ _ _ _ _ _ _ _ hx hb w => lv_iand hx hb hd w) k
theorem z_ior {x y : Int32} (hd : decode mt.2.1 pc = .ok (.ior, 1)) (k : z_AW l mt d bc bs (pc + 1) ls (.int (x ||| y) :: st) h o h') : z_AW l mt d bc bs pc ls (.int y :: .int x :: st) h o h' :=
  z_lift (fun _ _ _ _ _ _ _ _ _ _ _ _ _ _ _ _ hx hb w => lv_ior hx hb hd w) k
theorem z_ixor {x y : Int32} (hd : decode mt.2.1 pc = .ok (.ixor, 1)) (k : z_AW l mt d bc bs (pc + 1) ls (.int (x ^^^ y) :: st) h o h') : z_AW l mt d bc bs pc ls (.int y :: .int x :: st) h o h' :=
  z_lift (fun _ _ _ _ _ _ _ _ _ _ _ _ _ _ _ _ hx hb w => lv_ixor hx hb hd w) k
theorem z_ishl {x y : Int32} (hd : decode mt.2.1 pc = .ok (.ishl, 1)) (k : z_AW l mt d bc bs (pc + 1) ls (.int (x <<< (y &&& 31)) :: st) h o h') : z_AW l mt d bc bs pc ls (.int y :: .int x :: st) h o h' :=
  z_lift (fun _ _ _ _ _ _ _ _ _ _ _ _ _ _ _ _ hx hb w => lv_ishl hx hb hd w) k
theorem z_ishr {x y : Int32} (hd : decode mt.2.1 pc = .ok (.ishr, 1)) (k : z_AW l mt d bc bs (pc + 1) ls (.int (x >>> (y &&& 31)) :: st) h o h') : z_AW l mt d bc bs pc ls (.int y :: .int x :: st) h o h' :=
  z_lift (fun _ _ _ _ _ _ _ _ _ _ _ _ _ _ _ _ hx hb w => lv_ishr hx hb hd w) k
def z_ush (x y : Int32) : Int32 := (x.toUInt32 >>> (y.toUInt32 &&& Int32.toUInt32 31)).toInt32
theorem z_iushr {x y : Int32} (hd : decode mt.2.1 pc = .ok (.iushr, 1)) (k : z_AW l mt d bc bs (pc + 1) ls (.int (z_ush x y) :: st) h o h') : z_AW l mt d bc bs pc ls (.int y :: .int x :: st) h o h' :=
  z_lift (fun _ _ _ _ _ _ _ _ _ _ _ _ _ _ _ _ hx hb w => lv_iushr hx hb hd rfl w) k
theorem z_idiv {x y : Int32} (hd : decode mt.2.1 pc = .ok (.idiv, 1)) (hy : ¬ y = 0) (k : z_AW l mt d bc bs (pc + 1) ls (.int (x / y) :: st) h o h') : z_AW l mt d bc bs pc ls (.int y :: .int x :: st) h o h' :=
  z_lift (fun _ _ _ _ _ _ _ _ _ _ _ _ _ _ _ _ hx hb w => lv_idiv hx hb hd hy w) k
theorem z_irem {x y : Int32} (hd : decode mt.2.1 pc = .ok (.irem, 1)) (hy : ¬ y = 0) (k : z_AW l mt d bc bs (pc + 1) ls (.int (x - x / y * y) :: st) h o h') : z_AW l mt d bc bs pc ls (.int y :: .int x :: st) h o h' :=
  z_lift (fun _ _ _ _ _ _ _ _ _ _ _ _ _ _ _ _ hx hb w => lv_irem hx hb hd hy w) k
theorem z_ladd {x y : Int64} (hd : decode mt.2.1 pc = .ok (.ladd, 1)) (k : z_AW l mt d bc bs (pc + 1) ls (.long (x + y) :: st) h o h') : z_AW l mt d bc bs pc ls (.long y :: .long x :: st) h o h' :=
  z_lift (fun _ _ _ _ _ _ _ _ _ _ _ _ _ _ _ _ hx hb w => lv_ladd hx hb hd w) k
theorem z_lsub {x y : Int64} (hd : decode mt.2.1 pc = .ok (.lsub, 1)) (k : z_AW l mt d bc bs (pc + 1) ls (.long (x - y) :: st) h o h') : z_AW l mt d bc bs pc ls (.long y :: .long x :: st) h o h' :=
  z_lift (fun _ _ _ _ _ _ _ _ _ _ _ _ _ _ _ _ hx hb w => lv_lsub hx hb hd w) k
theorem z_lmul {x y : Int64} (hd : decode mt.2.1 pc = .ok (.lmul, 1)) (k : z_AW l mt d bc bs (pc + 1) ls (.long (x * y) :: st) h o h') : z_AW l mt d bc bs pc ls (.long y :: .long x :: st) h o h' :=
  z_lift (fun _ _ _ _ _ _ _ _ _ _ _ _ _ _ _ _ hx hb w => lv_lmul hx hb hd w) k
theorem z_ldiv {x y : Int64} (hd : decode mt.2.1 pc = .ok (.ldiv, 1)) (hy : ¬ y = 0) (k : z_AW l mt d bc bs (pc + 1) ls (.long (x / y) :: st) h o h') : z_AW l mt d bc bs pc ls (.long y :: .long x :: st) h o h' :=
  z_lift (fun _ _ _ _ _ _ _ _ _ _ _ _ _ _ _ _ hx hb w => lv_ldiv hx hb hd hy w) k
theorem z_lrem {x y : Int64} (hd : decode mt.2.1 pc = .ok (.lrem, 1)) (hy : ¬ y = 0) (k : z_AW l mt d bc bs (pc + 1) ls (.long (x - x / y * y) :: st) h o h') : z_AW l mt d bc bs pc ls (.long y :: .long x :: st) h o h' :=
  z_lift (fun _ _ _ _ _ _ _ _ _ _ _ _ _ _ _ _ hx hb w => lv_lrem hx hb hd hy w) k
theorem z_lcmp {x y : Int64} (hd : decode mt.2.1 pc = .ok (.lcmp, 1)) (k : z_AW l mt d bc bs (pc + 1) ls (.int (lg_cmp x y) :: st) h o h') : z_AW l mt d bc bs pc ls (.long y :: .long x :: st) h o h' :=
  z_lift (fun _ _ _ _ _ _ _ _ _ _ _ _ _ _ _ _ hx hb w => W.lcmp hx hb hd w) k
theorem z_i2l {x : Int32} (hd : decode mt.2.1 pc = .ok (.i2l, 1)) (k : z_AW l mt d bc bs (pc + 1) ls (.long x.toInt64 :: st) h o h') : z_AW l mt d bc bs pc ls (.int x :: st) h o h' :=
  z_lift (fun _ _ _ _ _ _ _ _ _ _ _ _ _ _ _ _ hx hb w => lv_i2l hx hb hd rfl w) k
theorem z_i2b {x : Int32} (hd : decode mt.2.1 pc = .ok (.i2b, 1)) (k : z_AW l mt d bc bs (pc + 1) ls (.int x.toInt8.toInt32 :: st) h o h') : z_AW l mt d bc bs pc ls (.int x :: st) h o h' :=
  z_lift (fun _ _ _ _ _ _ _ _ _ _ _ _ _ _ _ _ hx hb w => lv_i2b hx hb hd rfl w) k
theorem z_i2c {x : Int32} (hd : decode mt.2.1 pc = .ok (.i2c, 1)) (k : z_AW l mt d bc bs (pc + 1) ls (.int (x.toUInt32 % 65536).toInt32 :: st) h o h') : z_AW l mt d bc bs pc ls (.int x :: st) h o h' :=
  z_lift (fun _ _ _ _ _ _ _ _ _ _ _ _ _ _ _ _ hx hb w => lv_i2c hx hb hd rfl w) k
theorem z_dup {v : Value} (hd : decode mt.2.1 pc = .ok (.dup, 1)) (hv : v.category = 1) (k : z_AW l mt d bc bs (pc + 1) ls (v :: v :: st) h o h') : z_AW l mt d bc bs pc ls (v :: st) h o h' :=
  z_lift (fun _ _ _ _ _ _ _ _ _ _ _ _ _ _ _ _ hx hb w => lv_dup hx hb hd (by rw [z_cv_cat]; exact hv) w) k
theorem z_dup2 {v w : Value} (hd : decode mt.2.1 pc = .ok (.dup2, 1)) (hv : v.category = 1) (hw : w.category = 1) (k : z_AW l mt d bc bs (pc + 1) ls (v :: w :: v :: w :: st) h o h') : z_AW l mt d bc bs pc ls (v :: w :: st) h o h' :=
  z_lift (fun _ _ _ _ _ _ _ _ _ _ _ _ _ _ _ _ hx hb k => lv_dup2_11 hx hb hd (by rw [z_cv_cat]; exact hv) (by rw [z_cv_cat]; exact hw) k) k
theorem z_pop {v : Value} (hd : decode mt.2.1 pc = .ok (.pop, 1)) (hv : v.category = 1) (k : z_AW l mt d bc bs (pc + 1) ls st h o h') : z_AW l mt d bc bs pc ls (v :: st) h o h' :=
  z_lift (fun _ _ _ _ _ _ _ _ _ _ _ _ _ _ _ _ hx hb w => lv_pop hx hb hd (by rw [z_cv_cat]; exact hv) w) k
theorem z_goto {off : Int} {tgt : Nat} (hd : decode mt.2.1 pc = .ok (.goto off, 3)) (ht : (pc : Int) + off = (tgt : Int)) (k : z_AW l mt d bc bs tgt ls st h o h') : z_AW l mt d bc bs pc ls st h o h' :=
  z_lift (fun _ _ _ _ _ _ _ _ _ _ _ _ _ _ _ _ hx hb w => lv_goto hx hb hd ht w) k
/-! branches -/
theorem z_br {c : Prop} {pt pf : Nat} {st' : List Value} (f : ∀ (ad : Nat → Nat) (p : Program) (e : Env) (R : Room) (s : State) (m : MethodId) (args : Array Value) (below : List Frame) (meth : Method) (cc : Code) (H : Heap) (locs : List Loc) (cells slots : Nat) (Q : State → Prop) (lsA : Array Slot), p.tables.exec = Jvm.exec → cc.code = mt.2.1 →
      (c → W p l e R s m args below meth cc H locs cells slots Q (F0 m pt lsA (st'.map (z_cv ad)))) → (¬ c → W p l e R s m args below meth cc H locs cells slots Q (F0 m pf lsA (st'.map (z_cv ad)))) → W p l e R s m args below meth cc H locs cells slots Q (F0 m pc lsA (st.map (z_cv ad))))
    (kt : c → z_AW l mt d bc bs pt ls st' h o h') (kf : ¬ c → z_AW l mt d bc bs pf ls st' h o h') : z_AW l mt d bc bs pc ls st h o h' := by
  intro sz0 D ad p e R s m args below meth cc H locs cells slots MC MS lsA Qc XC hY hE
  exact f ad p e R s m args below meth cc H locs cells slots _ lsA hY.1.2.1 hY.1.2.2.1 (fun q => kt q sz0 D ad p e R s m args below meth cc H locs cells slots MC MS lsA Qc XC hY hE) (fun q => kf q sz0 D ad p e R s m args below meth cc H locs cells slots MC MS lsA Qc XC hY hE)
theorem z_if_eq {x : Int32} {off : Int} {tgt : Nat} (hd : decode mt.2.1 pc = .ok (.ifCond .eq off, 3)) (ht : (pc : Int) + off = (tgt : Int)) (kt : x = 0 → z_AW l mt d bc bs tgt ls st h o h') (kf : ¬ x = 0 → z_AW l mt d bc bs (pc + 3) ls st h o h') : z_AW l mt d bc bs pc ls (.int x :: st) h o h' :=
  z_br (fun _ _ _ _ _ _ _ _ _ _ _ _ _ _ _ _ hx hb a b => lv_if_eq hx hb hd ht a b) kt kf
theorem z_if_ne {x : Int32} {off : Int} {tgt : Nat} (hd : decode mt.2.1 pc = .ok (.ifCond .ne off, 3)) (ht : (pc : Int) + off = (tgt : Int)) (kf : x = 0 → z_AW l mt d bc bs (pc + 3) ls st h o h') (kt : ¬ x = 0 → z_AW l mt d bc bs tgt ls st h o h') : z_AW l mt d bc bs pc ls (.int x :: st) h o h' :=
  z_br (fun _ _ _ _ _ _ _ _ _ _ _ _ _ _ _ _ hx hb a b => lv_if_ne hx hb hd ht b a) kf kt
theorem z_if_lt {x : Int32} {off : Int} {tgt : Nat} (hd : decode mt.2.1 pc = .ok (.ifCond .lt off, 3)) (ht : (pc : Int) + off = (tgt : Int)) (kt : x < 0 → z_AW l mt d bc bs tgt ls st h o h') (kf : ¬ x < 0 → z_AW l mt d bc bs (pc + 3) ls st h o h') : z_AW l mt d bc bs pc ls (.int x :: st) h o h' :=
  z_br (fun _ _ _ _ _ _ _ _ _ _ _ _ _ _ _ _ hx hb a b => lv_if_lt hx hb hd ht a b) kt kf
theorem z_if_ge {x : Int32} {off : Int} {tgt : Nat} (hd : decode mt.2.1 pc = .ok (.ifCond .ge off, 3)) (ht : (pc : Int) + off = (tgt : Int)) (kt : 0 ≤ x → z_AW l mt d bc bs tgt ls st h o h') (kf : ¬ 0 ≤ x → z_AW l mt d bc bs (pc + 3) ls st h o h') : z_AW l mt d bc bs pc ls (.int x :: st) h o h' :=
  z_br (fun _ _ _ _ _ _ _ _ _ _ _ _ _ _ _ _ hx hb a b => lv_if_ge hx hb hd ht a b) kt kf
theorem z_if_gt {x : Int32} {off : Int} {tgt : Nat} (hd : decode mt.2.1 pc = .ok (.ifCond .gt off, 3)) (ht : (pc : Int) + off = (tgt : Int)) (kt : 0 < x → z_AW l mt d bc bs tgt ls st h o h') (kf : ¬ 0 < x → z_AW l mt d bc bs (pc + 3) ls st h o h') : z_AW l mt d bc bs pc ls (.int x :: st) h o h' :=
  z_br (fun _ _ _ _ _ _ _ _ _ _ _ _ _ _ _ _ hx hb a b => lv_if_gt hx hb hd ht a b) kt kf
theorem z_if_le {x : Int32} {off : Int} {tgt : Nat} (hd : decode mt.2.1 pc = .ok (.ifCond .le off, 3)) (ht : (pc : Int) + off = (tgt : Int)) (kt : x ≤ 0 → z_AW l mt d bc bs tgt ls st h o h') (kf : ¬ x ≤ 0 → z_AW l mt d bc bs (pc + 3) ls st h o h') : z_AW l mt d bc bs pc ls (.int x :: st) h o h' :=
  z_br (fun _ _ _ _ _ _ _ _ _ _ _ _ _ _ _ _ hx hb a b => lv_if_le hx hb hd ht a b) kt kf
theorem z_icmp_eq {x y : Int32} {off : Int} {tgt : Nat} (hd : decode mt.2.1 pc = .ok (.if_icmp .eq off, 3)) (ht : (pc : Int) + off = (tgt : Int)) (kt : x = y → z_AW l mt d bc bs tgt ls st h o h') (kf : ¬ x = y → z_AW l mt d bc bs (pc + 3) ls st h o h') : z_AW l mt d bc bs pc ls (.int y :: .int x :: st) h o h' :=
  z_br (fun _ _ _ _ _ _ _ _ _ _ _ _ _ _ _ _ hx hb a b => lv_icmp_eq hx hb hd ht a b) kt kf
theorem z_icmp_ne {x y : Int32} {off : Int} {tgt : Nat} (hd : decode mt.2.1 pc = .ok (.if_icmp .ne off, 3)) (ht : (pc : Int) + off = (tgt : Int)) (kf : x = y → z_AW l mt d bc bs (pc + 3) ls st h o h') (kt : ¬ x = y → z_AW l mt d bc bs tgt ls st h o h') : z_AW l mt d bc bs pc ls (.int y :: .int x :: st) h o h' :=
  z_br (fun _ _ _ _ _ _ _ _ _ _ _ _ _ _ _ _ hx hb a b => lv_icmp_ne hx hb hd ht b a) kf kt
theorem z_icmp_lt {x y : Int32} {off : Int} {tgt : Nat} (hd : decode mt.2.1 pc = .ok (.if_icmp .lt off, 3)) (ht : (pc : Int) + off = (tgt : Int)) (kt : x < y → z_AW l mt d bc bs tgt ls st h o h') (kf : ¬ x < y → z_AW l mt d bc bs (pc + 3) ls st h o h') : z_AW l mt d bc bs pc ls (.int y :: .int x :: st) h o h' :=
  z_br (fun _ _ _ _ _ _ _ _ _ _ _ _ _ _ _ _ hx hb a b => lv_icmp_lt hx hb hd ht a b) kt kf
theorem z_icmp_ge {x y : Int32} {off : Int} {tgt : Nat} (hd : decode mt.2.1 pc = .ok (.if_icmp .ge off, 3)) (ht : (pc : Int) + off = (tgt : Int)) (kt : y ≤ x → z_AW l mt d bc bs tgt ls st h o h') (kf : ¬ y ≤ x → z_AW l mt d bc bs (pc + 3) ls st h o h') : z_AW l mt d bc bs pc ls (.int y :: .int x :: st) h o h' :=
  z_br (fun _ _ _ _ _ _ _ _ _ _ _ _ _ _ _ _ hx hb a b => lv_icmp_ge hx hb hd ht a b) kt kf
theorem z_icmp_gt {x y : Int32} {off : Int} {tgt : Nat} (hd : decode mt.2.1 pc = .ok (.if_icmp .gt off, 3)) (ht : (pc : Int) + off = (tgt : Int)) (kt : y < x → z_AW l mt d bc bs tgt ls st h o h') (kf : ¬ y < x → z_AW l mt d bc bs (pc + 3) ls st h o h') : z_AW l mt d bc bs pc ls (.int y :: .int x :: st) h o h' :=
  z_br (fun _ _ _ _ _ _ _ _ _ _ _ _ _ _ _ _ hx hb a b => lv_icmp_gt hx hb hd ht a b) kt kf
theorem z_icmp_le {x y : Int32} {off : Int} {tgt : Nat} (hd : decode mt.2.1 pc = .ok (.if_icmp .le off, 3)) (ht : (pc : Int) + off = (tgt : Int)) (kt : x ≤ y → z_AW l mt d bc bs tgt ls st h o h') (kf : ¬ x ≤ y → z_AW l mt d bc bs (pc + 3) ls st h o h') : z_AW l mt d bc bs pc ls (.int y :: .int x :: st) h o h' :=
  z_br (fun _ _ _ _ _ _ _ _ _ _ _ _ _ _ _ _ hx hb a b => lv_icmp_le hx hb hd ht a b) kt kf
/-! locals -/
theorem z_ldl {pc' : Nat} {v : Value} {i : Nat} (hl : ls[i]? = some v) (hv : v ≠ .null) (f : ∀ (ad : Nat → Nat) (p : Program) (e : Env) (R : Room) (s : State) (m : MethodId) (args : Array Value) (below : List Frame) (meth : Method) (c : Code) (H : Heap) (locs : List Loc) (cells slots : Nat) (Q : State → Prop) (lsA : Array Slot), p.tables.exec = Jvm.exec → c.code = mt.2.1 → lsA[i]? = some (.val (z_cv ad v)) →
      W p l e R s m args below meth c H locs cells slots Q (F0 m pc' lsA ((v :: st).map (z_cv ad))) → W p l e R s m args below meth c H locs cells slots Q (F0 m pc lsA (st.map (z_cv ad))))
    (k : z_AW l mt d bc bs pc' ls (v :: st) h o h') : z_AW l mt d bc bs pc ls st h o h' := by
  intro sz0 D ad p e R s m args below meth c H locs cells slots MC MS lsA Qc XC hY hE
  exact f ad p e R s m args below meth c H locs cells slots _ lsA hY.1.2.1 hY.1.2.2.1 (hY.2.2.2.2.2.2.2.2 i v hl hv) (k sz0 D ad p e R s m args below meth c H locs cells slots MC MS lsA Qc XC hY hE)
theorem z_iload_n {x : Int32} {n : Fin 4} (hd : decode mt.2.1 pc = .ok (.iload_n n, 1)) (hl : ls[(n : Nat)]? = some (.int x)) (k : z_AW l mt d bc bs (pc + 1) ls (.int x :: st) h o h') : z_AW l mt d bc bs pc ls st h o h' :=
  z_ldl hl (by intro q; cases q) (fun _ _ _ _ _ _ _ _ _ _ _ _ _ _ _ _ hx hb a w => lv_iload_n hx hb hd rfl a w) k
theorem z_iload {x : Int32} {n : Nat} (hd : decode mt.2.1 pc = .ok (.iload n, 2)) (hl : ls[n]? = some (.int x)) (k : z_AW l mt d bc bs (pc + 2) ls (.int x :: st) h o h') : z_AW l mt d bc bs pc ls st h o h' :=
  z_ldl hl (by intro q; cases q) (fun _ _ _ _ _ _ _ _ _ _ _ _ _ _ _ _ hx hb a w => lv_iload hx hb hd a w) k
theorem z_lload_n {x : Int64} {n : Fin 4} (hd : decode mt.2.1 pc = .ok (.lload_n n, 1)) (hl : ls[(n : Nat)]? = some (.long x)) (k : z_AW l mt d bc bs (pc + 1) ls (.long x :: st) h o h') : z_AW l mt d bc bs pc ls st h o h' :=
  z_ldl hl (by intro q; cases q) (fun _ _ _ _ _ _ _ _ _ _ _ _ _ _ _ _ hx hb a w => lv_lload_n hx hb hd rfl a w) k
theorem z_lload {x : Int64} {n : Nat} (hd : decode mt.2.1 pc = .ok (.lload n, 2)) (hl : ls[n]? = some (.long x)) (k : z_AW l mt d bc bs (pc + 2) ls (.long x :: st) h o h') : z_AW l mt d bc bs pc ls st h o h' :=
  z_ldl hl (by intro q; cases q) (fun _ _ _ _ _ _ _ _ _ _ _ _ _ _ _ _ hx hb a w => lv_lload hx hb hd a w) k
theorem z_aload_n {x : Nat} {n : Fin 4} (hd : decode mt.2.1 pc = .ok (.aload_n n, 1)) (hl : ls[(n : Nat)]? = some (.ref x)) (k : z_AW l mt d bc bs (pc + 1) ls (.ref x :: st) h o h') : z_AW l mt d bc bs pc ls st h o h' :=
  z_ldl hl (by intro q; cases q) (fun _ _ _ _ _ _ _ _ _ _ _ _ _ _ _ _ hx hb a w => lv_aload_n hx hb hd rfl a w) k
theorem z_aload {x : Nat} {n : Nat} (hd : decode mt.2.1 pc = .ok (.aload n, 2)) (hl : ls[n]? = some (.ref x)) (k : z_AW l mt d bc bs (pc + 2) ls (.ref x :: st) h o h') : z_AW l mt d bc bs pc ls st h o h' :=
  z_ldl hl (by intro q; cases q) (fun _ _ _ _ _ _ _ _ _ _ _ _ _ _ _ _ hx hb a w => lv_aload hx hb hd a w) k
theorem z_istore_n {x : Int32} {n : Fin 4} {ls' : List Value} (hd : decode mt.2.1 pc = .ok (.istore_n n, 1)) (hn : (n : Nat) < mt.2.2.1) (he : z_set ls n (.int x) = ls') (k : z_AW l mt d bc bs (pc + 1) ls' st h o h') : z_AW l mt d bc bs pc ls (.int x :: st) h o h' := by
  intro sz0 D ad p e R s m args below meth c H locs cells slots MC MS lsA Qc XC hY hE
  obtain ⟨hC, h1, h2, h3, h4, h5, h6⟩ := hY
  refine lv_istore_n hC.2.1 hC.2.2.1 hd rfl h6.has hn rfl (fun lsB hB => ?_)
  exact k sz0 D ad p e R s m args below meth c H locs cells slots MC MS lsB Qc XC ⟨hC, h1, h2, h3, h4, h5, he ▸ z_LR.set1 (lsA := lsA) (v := .int x) hB⟩ hE
theorem z_istore {x : Int32} {n : Nat} {ls' : List Value} (hd : decode mt.2.1 pc = .ok (.istore n, 2)) (hn : n < mt.2.2.1) (he : z_set ls n (.int x) = ls') (k : z_AW l mt d bc bs (pc + 2) ls' st h o h') : z_AW l mt d bc bs pc ls (.int x :: st) h o h' := by
  intro sz0 D ad p e R s m args below meth c H locs cells slots MC MS lsA Qc XC hY hE
  obtain ⟨hC, h1, h2, h3, h4, h5, h6⟩ := hY
  refine lv_istore hC.2.1 hC.2.2.1 hd h6.has hn rfl (fun lsB hB => ?_)
  exact k sz0 D ad p e R s m args below meth c H locs cells slots MC MS lsB Qc XC ⟨hC, h1, h2, h3, h4, h5, he ▸ z_LR.set1 (lsA := lsA) (v := .int x) hB⟩ hE
theorem z_astore_n {x : Nat} {n : Fin 4} {ls' : List Value} (hd : decode mt.2.1 pc = .ok (.astore_n n, 1)) (hn : (n : Nat) < mt.2.2.1) (he : z_set ls n (.ref x) = ls') (k : z_AW l mt d bc bs (pc + 1) ls' st h o h') : z_AW l mt d bc bs pc ls (.ref x :: st) h o h' := by
  intro sz0 D ad p e R s m args below meth c H locs cells slots MC MS lsA Qc XC hY hE
  obtain ⟨hC, h1, h2, h3, h4, h5, h6⟩ := hY
  refine lv_astore_n hC.2.1 hC.2.2.1 hd rfl h6.has hn rfl (fun lsB hB => ?_)
  exact k sz0 D ad p e R s m args below meth c H locs cells slots MC MS lsB Qc XC ⟨hC, h1, h2, h3, h4, h5, he ▸ z_LR.set1 (lsA := lsA) (v := .ref x) hB⟩ hE
theorem z_astore {x : Nat} {n : Nat} {ls' : List Value} (hd : decode mt.2.1 pc = .ok (.astore n, 2)) (hn : n < mt.2.2.1) (he : z_set ls n (.ref x) = ls') (k : z_AW l mt d bc bs (pc + 2) ls' st h o h') : z_AW l mt d bc bs pc ls (.ref x :: st) h o h' := by
  intro sz0 D ad p e R s m args below meth c H locs cells slots MC MS lsA Qc XC hY hE
  obtain ⟨hC, h1, h2, h3, h4, h5, h6⟩ := hY
  refine lv_astore hC.2.1 hC.2.2.1 hd h6.has hn rfl (fun lsB hB => ?_)
  exact k sz0 D ad p e R s m args below meth c H locs cells slots MC MS lsB Qc XC ⟨hC, h1, h2, h3, h4, h5, he ▸ z_LR.set1 (lsA := lsA) (v := .ref x) hB⟩ hE
theorem z_lstore_n {x : Int64} {n : Fin 4} {ls' : List Value} (hd : decode mt.2.1 pc = .ok (.lstore_n n, 1)) (hn : (n : Nat) + 1 < mt.2.2.1) (he : z_set2 ls n (.long x) = ls') (k : z_AW l mt d bc bs (pc + 1) ls' st h o h') : z_AW l mt d bc bs pc ls (.long x :: st) h o h' := by
  intro sz0 D ad p e R s m args below meth c H locs cells slots MC MS lsA Qc XC hY hE
  obtain ⟨hC, h1, h2, h3, h4, h5, h6⟩ := hY
  refine lv_lstore_n hC.2.1 hC.2.2.1 hd rfl h6.has hn rfl (fun lsB hB => ?_)
  exact k sz0 D ad p e R s m args below meth c H locs cells slots MC MS lsB Qc XC ⟨hC, h1, h2, h3, h4, h5, he ▸ z_LR.set2 (lsA := lsA) (v := .long x) hB⟩ hE
theorem z_lstore {x : Int64} {n : Nat} {ls' : List Value} (hd : decode mt.2.1 pc = .ok (.lstore n, 2)) (hn : n + 1 < mt.2.2.1) (he : z_set2 ls n (.long x) = ls') (k : z_AW l mt d bc bs (pc + 2) ls' st h o h') : z_AW l mt d bc bs pc ls (.long x :: st) h o h' := by
  intro sz0 D ad p e R s m args below meth c H locs cells slots MC MS lsA Qc XC hY hE
  obtain ⟨hC, h1, h2, h3, h4, h5, h6⟩ := hY
  refine lv_lstore hC.2.1 hC.2.2.1 hd h6.has hn rfl (fun lsB hB => ?_)
  exact k sz0 D ad p e R s m args below meth c H locs cells slots MC MS lsB Qc XC ⟨hC, h1, h2, h3, h4, h5, he ▸ z_LR.set2 (lsA := lsA) (v := .long x) hB⟩ hE
theorem z_iinc {x : Int32} {i : Nat} {n : Int} {ls' : List Value} (hd : decode mt.2.1 pc = .ok (.iinc i n, 3)) (hl : ls[i]? = some (.int x)) (hn : i < mt.2.2.1) (he : z_set ls i (.int (x + Int32.ofInt n)) = ls') (k : z_AW l mt d bc bs (pc + 3) ls' st h o h') : z_AW l mt d bc bs pc ls st h o h' := by
  intro sz0 D ad p e R s m args below meth c H locs cells slots MC MS lsA Qc XC hY hE
  obtain ⟨hC, h1, h2, h3, h4, h5, h6⟩ := hY
  obtain ⟨kk, hkk⟩ := List.getElem?_of_mem (z_ll_mem (ad := ad) hl (by intro q; cases q))
  refine lv_iinc (k := kk) hC.2.1 hC.2.2.1 hd h6.has hkk rfl hn rfl (fun lsB hB => ?_)
  exact k sz0 D ad p e R s m args below meth c H locs cells slots MC MS lsB Qc XC ⟨hC, h1, h2, h3, h4, h5, he ▸ z_LR.set1 (lsA := lsA) (v := .int (x + Int32.ofInt n)) hB⟩ hE
/-! constants of the pool -/
theorem z_ldc {idx : Nat} {v : Int32} (hg : GoodIn lw_tbl [.constant mt.1.cls idx v]) (hd : decode mt.2.1 pc = .ok (.ldc idx, 2)) (k : z_AW l mt d bc bs (pc + 2) ls (.int v :: st) h o h') : z_AW l mt d bc bs pc ls st h o h' := by
  intro sz0 D ad p e R s m args below meth c H locs cells slots MC MS lsA Qc XC hY hE
  exact lv_ldc hY.1.2.1 hY.1.2.2.1 hY.1.2.2.2.2.2.1 (hY.2.2.2.2.1.w hg (List.mem_singleton.mpr rfl)) hd (k sz0 D ad p e R s m args below meth c H locs cells slots MC MS lsA Qc XC hY hE)
theorem z_ldcw {idx : Nat} {v : Int32} (hg : GoodIn lw_tbl [.constant mt.1.cls idx v]) (hd : decode mt.2.1 pc = .ok (.ldc_w idx, 3)) (k : z_AW l mt d bc bs (pc + 3) ls (.int v :: st) h o h') : z_AW l mt d bc bs pc ls st h o h' := by
  intro sz0 D ad p e R s m args below meth c H locs cells slots MC MS lsA Qc XC hY hE
  exact lv_ldcw hY.1.2.1 hY.1.2.2.1 hY.1.2.2.2.2.2.1 (hY.2.2.2.2.1.w hg (List.mem_singleton.mpr rfl)) hd (k sz0 D ad p e R s m args below meth c H locs cells slots MC MS lsA Qc XC hY hE)
theorem z_ldc2 {idx : Nat} {v : Int64} (hg : GoodIn lw_tbl [.constantLong mt.1.cls idx v]) (hd : decode mt.2.1 pc = .ok (.ldc2_w idx, 3)) (k : z_AW l mt d bc bs (pc + 3) ls (.long v :: st) h o h') : z_AW l mt d bc bs pc ls st h o h' := by
  intro sz0 D ad p e R s m args below meth c H locs cells slots MC MS lsA Qc XC hY hE
  exact lv_ldc2 hY.1.2.1 hY.1.2.2.1 hY.1.2.2.2.2.2.1 (hY.2.2.2.2.1.w hg (List.mem_singleton.mpr rfl)) hd (k sz0 D ad p e R s m args below meth c H locs cells slots MC MS lsA Qc XC hY hE)
theorem z_ldcS {idx q : Nat} {tx : String} (hs : (mt.1.cls, idx, tx, q) ∈ z_strs) (hd : decode mt.2.1 pc = .ok (.ldc idx, 2)) (k : z_AW l mt d bc bs (pc + 2) ls (.ref q :: st) h o h') : z_AW l mt d bc bs pc ls st h o h' := by
  intro sz0 D ad p e R s m args below meth c H locs cells slots MC MS lsA Qc XC hY hE
  exact va_ldcS hY.1.2.1 hY.1.2.2.1 hY.1.2.2.2.2.2.1 (hY.2.2.2.2.1.2.2.1 _ hs) hd (k sz0 D ad p e R s m args below meth c H locs cells slots MC MS lsA Qc XC hY hE)
/-! returns -/
theorem z_ireturn {v : Int32} (hd : decode mt.2.1 pc = .ok (.ireturn, 1)) (hr : ∃ ty, mt.2.2.2.1 = some ty ∧ narrow ty (.int v) = .int v) : z_AW l mt d bc bs pc ls [.int v] h (.inl (some (.int v))) h := by
  intro sz0 D ad p e R s m args below meth c H locs cells slots MC MS lsA Qc XC hY hE
  obtain ⟨hC, h1, h2, h3, h4, h5, h6⟩ := hY
  obtain ⟨ty, hty, hn⟩ := hr
  refine W.widen (k := MC) (n := MS) (by omega) (by omega) (vx_ret (W.zret hC.2.1 hC.2.2.1 (hC.2.2.2.2.1.trans hty) hn (fun t ht hW => ?_) h3 hd hC.2.2.2.2.2.2.1))
  exact (hE ad t (fun _ _ => rfl) hW.alike (by rw [ht]; exact h5)).1 _ rfl
theorem z_lreturn {v : Int64} (hd : decode mt.2.1 pc = .ok (.lreturn, 1)) (hr : mt.2.2.2.1 = some .long) : z_AW l mt d bc bs pc ls [.long v] h (.inl (some (.long v))) h := by
  intro sz0 D ad p e R s m args below meth c H locs cells slots MC MS lsA Qc XC hY hE
  obtain ⟨hC, h1, h2, h3, h4, h5, h6⟩ := hY
  refine W.widen (k := MC) (n := MS) (by omega) (by omega) (vx_ret (W.lret hC.2.1 hC.2.2.1 (hC.2.2.2.2.1.trans hr) (fun t ht hW => ?_) h3 hd hC.2.2.2.2.2.2.1))
  exact (hE ad t (fun _ _ => rfl) hW.alike (by rw [ht]; exact h5)).1 _ rfl
theorem z_return (hd : decode mt.2.1 pc = .ok (.return_, 1)) (hr : mt.2.2.2.1 = none) : z_AW l mt d bc bs pc ls [] h (.inl none) h := by
  intro sz0 D ad p e R s m args below meth c H locs cells slots MC MS lsA Qc XC hY hE
  obtain ⟨hC, h1, h2, h3, h4, h5, h6⟩ := hY
  refine W.widen (k := MC) (n := MS) (by omega) (by omega) (vx_ret (W.vret hC.2.1 hC.2.2.1 (hC.2.2.2.2.1.trans hr) (fun t ht hW => ?_) h3 hd hC.2.2.2.2.2.2.1))
  exact (hE ad t (fun _ _ => rfl) hW.alike (by rw [ht]; exact h5)).1 _ rfl
end ZR
