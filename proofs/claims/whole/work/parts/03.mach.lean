/-! ===== the abstract memory: positions instead of addresses; ints by cell and place ===== -/
abbrev zMM : Type := Nat → Nat → Int32
abbrev zML : Type := Nat → Nat → Int64
abbrev zEn : Type := Nat × Nat × List Nat
abbrev zHP : Type := List zEn × zMM × zML
abbrev zMt : Type := MethodName × ByteArray × Nat × Option FieldType × List (Nat × Nat × Nat × Nat)
/-- how many positions are of cells that stand before the law begins -/
def z_nS : Nat := 51
def z_cv (ad : Nat → Nat) (v : Value) : Value := match v with
  | .ref k => .ref (ad k)
  | w => w
theorem z_cv_cat (ad : Nat → Nat) (v : Value) : (z_cv ad v).category = v.category := by cases v <;> rfl
def z_fv (M : zMM) (ad : Nat → Nat) (k i : Nat) (rs : List Nat) : Value := match rs.getD i 0 with
  | 0 => .int (M k i)
  | 1 => .null
  | r + 2 => .ref (ad r)
/-- the same, as a value over positions -/
def z_fa (M : zMM) (k i : Nat) (rs : List Nat) : Value := match rs.getD i 0 with
  | 0 => .int (M k i)
  | 1 => .null
  | r + 2 => .ref r
theorem z_fv_fa (M : zMM) (ad : Nat → Nat) (k i : Nat) (rs : List Nat) : z_fv M ad k i rs = z_cv ad (z_fa M k i rs) := by
  unfold z_fv z_fa
  split <;> rfl
def z_arr (s : State) (H : Heap) (a : Nat) (ty : FieldType) (N : Nat) (f : Nat → Value) : Prop :=
  ∃ cell : Cell, H[a]? = some cell ∧ s.isArrayOf cell ty ∧ cell.vm ≠ .unknown ∧ N ≤ cell.slots.size ∧ cell.slots.size.toInt32 = Int32.ofNat N ∧ ∀ j : Nat, j < N → cell.slots[j]? = some (f j)
theorem z_arr.moved {u U : State} {H : Heap} {a N : Nat} {ty : FieldType} {f : Nat → Value} (hvm : u.vm.Alike U.vm) (h : z_arr u H a ty N f) : z_arr U H a ty N f := by
  obtain ⟨cell, h1, h2, h3⟩ := h
  exact ⟨cell, h1, State.isArrayOf_alike hvm h2, h3⟩
theorem z_arr.kept {U : State} {H H1 : Heap} {a N : Nat} {ty : FieldType} {f : Nat → Value} (h : z_arr U H a ty N f) (hq : H1[a]? = H[a]?) : z_arr U H1 a ty N f := by
  obtain ⟨cell, h1, h2⟩ := h
  exact ⟨cell, by rw [hq]; exact h1, h2⟩
theorem z_arr.to {U : State} {H : Heap} {a N : Nat} {ty : FieldType} {f g : Nat → Value} (h : z_arr U H a ty N f) (e : ∀ j, j < N → f j = g j) : z_arr U H a ty N g := by
  obtain ⟨cell, h1, h2, h3, h4, h5, h6⟩ := h
  exact ⟨cell, h1, h2, h3, h4, h5, fun j hj => by rw [← e j hj]; exact h6 j hj⟩
def z_A (sz0 : Nat) : Nat → Prop := fun q => sz0 ≤ q
/-- what the cell of a position holds -/
def z_CR (D : va_G) (sz0 : Nat) (s : State) (ad : Nat → Nat) (h : zHP) (H : Heap) (k : Nat) (e : zEn) : Prop :=
  (e.1 < 9 → ∃ q : vw_C, vwCl[e.1]? = some q ∧ t_OB (ad k) (D.1 e.1) q.2.2 (D.2 e.1) H (fun i => z_fv h.2.1 ad k i e.2.2)) ∧
  (e.1 = 10 → z_arr s H (ad k) .int e.2.1 (fun j => .int (h.2.1 k j))) ∧
  (e.1 = 11 → z_arr s H (ad k) .byte e.2.1 (fun j => .int (h.2.1 k j))) ∧
  (e.1 = 12 → z_arr s H (ad k) .boolean e.2.1 (fun j => .int (h.2.1 k j))) ∧
  (e.1 = 13 → z_arr s H (ad k) .long e.2.1 (fun j => .long (h.2.2 k j))) ∧
  (e.1 = 14 → z_arr s H (ad k) (.object "java/lang/String") e.2.1 (fun j => z_fv h.2.1 ad k j e.2.2) ∧ ∃ cell : Cell, H[ad k]? = some cell ∧ va_RA s cell.cls (.object "java/lang/String")) ∧
  (e.1 = 15 → va_O "java/lang/String" (ad k) (z_A sz0) s H ∧ va_OF "java/lang/String" "coder" "B" (.int 0) (ad k) (z_A sz0) s H ∧ va_OF "java/lang/String" "value" "[B" (.ref (ad e.2.1)) (ad k) (z_A sz0) s H)
theorem z_CR.moved {D : va_G} {sz0 : Nat} {u U : State} {ad : Nat → Nat} {h : zHP} {H : Heap} {k : Nat} {e : zEn} (hvm : u.vm.Alike U.vm) (q : z_CR D sz0 u ad h H k e) : z_CR D sz0 U ad h H k e := by
  obtain ⟨q1, q2, q3, q4, q5, q6, q7⟩ := q
  exact ⟨q1, fun i => (q2 i).moved hvm, fun i => (q3 i).moved hvm, fun i => (q4 i).moved hvm, fun i => (q5 i).moved hvm, fun i => ⟨(q6 i).1.moved hvm, (q6 i).2.choose, (q6 i).2.choose_spec.1, (q6 i).2.choose_spec.2.moved hvm⟩, fun i => ⟨(q7 i).1.moved hvm, (q7 i).2.1.moved hvm, (q7 i).2.2.moved hvm⟩⟩
/-- the cell is as it was, and so is what the position says -/
theorem z_CR.kept {D : va_G} {sz0 : Nat} {U : State} {ad ad1 : Nat → Nat} {h h1 : zHP} {H H1 : Heap} {k : Nat} {e : zEn} (q : z_CR D sz0 U ad h H k e) (hq : H1[ad k]? = H[ad k]?)
    (ha : ad1 k = ad k) (hM : ∀ j, h1.2.1 k j = h.2.1 k j) (hL : ∀ j, h1.2.2 k j = h.2.2 k j) (hr : ∀ j r, e.2.2.getD j 0 = r + 2 → ad1 r = ad r) (hv : e.1 = 15 → ad1 e.2.1 = ad e.2.1) : z_CR D sz0 U ad1 h1 H1 k e := by
  obtain ⟨q1, q2, q3, q4, q5, q6, q7⟩ := q
  have hf : ∀ j, z_fv h1.2.1 ad1 k j e.2.2 = z_fv h.2.1 ad k j e.2.2 := by
    intro j
    unfold z_fv
    split
    · rw [hM]
    · rfl
    · next r hr0 => rw [hr j r hr0]
  refine ⟨fun i => ?_, fun i => ?_, fun i => ?_, fun i => ?_, fun i => ?_, fun i => ?_, fun i => ?_⟩
  · obtain ⟨w, g1, g2⟩ := q1 i
    refine ⟨w, g1, ?_⟩
    rw [ha]
    obtain ⟨cell, c1, c2, c3, c4⟩ := g2
    exact ⟨cell, by rw [hq]; exact c1, c2, c3, fun j hj => by show _ = some (z_fv h1.2.1 ad1 k j e.2.2); rw [hf]; exact c4 j hj⟩
  · rw [ha]; exact ((q2 i).kept hq).to (fun j _ => by rw [hM])
  · rw [ha]; exact ((q3 i).kept hq).to (fun j _ => by rw [hM])
  · rw [ha]; exact ((q4 i).kept hq).to (fun j _ => by rw [hM])
  · rw [ha]; exact ((q5 i).kept hq).to (fun j _ => by rw [hL])
  · rw [ha]
    obtain ⟨r1, cell, r2, r3⟩ := q6 i
    exact ⟨(r1.kept hq).to (fun j _ => by rw [hf]), cell, by rw [hq]; exact r2, r3⟩
  · obtain ⟨⟨cell, c1, c2, c3, c4⟩, ⟨cf, kk, fi, f, ce, d1, d2, d3, d4, d5, d6⟩, ⟨cf', kk', fi', f', ce', e1, e2, e3, e4, e5, e6⟩⟩ := q7 i
    rw [ha, hv i]
    exact ⟨⟨cell, by rw [hq]; exact c1, c2, c3, c4⟩, ⟨cf, kk, fi, f, ce, d1, d2, by rw [hq]; exact d3, d4, d5, d6⟩, ⟨cf', kk', fi', f', ce', e1, e2, by rw [hq]; exact e3, e4, e5, e6⟩⟩
/-- facts of cells that nobody writes -/
def z_SH (sz0 : Nat) (ad : Nat → Nat) (s : State) (H : Heap) : Prop :=
  va_Z "TroupeTrunks$Planner" "SPREAD" "[I" (.ref (ad 1)) (z_A sz0) s H ∧ va_Z "java/lang/String" "COMPACT_STRINGS" "Z" (.int 1) (z_A sz0) s H ∧
  (va_Z "jdk/internal/util/Preconditions" "SIOOBE_FORMATTER" "Ljava/util/function/BiFunction;" .null (z_A sz0) s H ∨ va_Z "jdk/internal/util/Preconditions" "SIOOBE_FORMATTER" "Ljava/util/function/BiFunction;" (.ref (ad 2)) (z_A sz0) s H) ∧
  vx_Zq Bundle.tN "UNASSIGNED_STACK" Bundle.steD (z_A sz0) s H ∧ vx_Zq Bundle.tN "SUPPRESSED_SENTINEL" Bundle.listD (z_A sz0) s H
theorem z_SH.moved {sz0 : Nat} {ad : Nat → Nat} {u U : State} {H : Heap} (hvm : u.vm.Alike U.vm) (q : z_SH sz0 ad u H) : z_SH sz0 ad U H :=
  ⟨q.1.moved hvm, q.2.1.moved hvm, q.2.2.1.imp (fun z => z.moved hvm) (fun z => z.moved hvm), q.2.2.2.1.moved hvm, q.2.2.2.2.moved hvm⟩
theorem z_SH.kept {sz0 : Nat} {ad ad1 : Nat → Nat} {s : State} {H H1 : Heap} (q : z_SH sz0 ad s H) (ha : ad1 1 = ad 1) (ha2 : ad1 2 = ad 2) (hq : ∀ a : Nat, a < H.size → ¬ z_A sz0 a → H1[a]? = H[a]?) : z_SH sz0 ad1 s H1 := by
  refine ⟨?_, q.2.1.kept hq, ?_, q.2.2.2.1.kept hq, q.2.2.2.2.kept hq⟩
  · rw [ha]; exact q.1.kept hq
  · rw [ha2]; exact q.2.2.1.imp (fun z => z.kept hq) (fun z => z.kept hq)
/-- the heap holds the memory -/
def z_Hp (sz0 : Nat) (D : va_G) (ad : Nat → Nat) (h : zHP) (s : State) (H : Heap) : Prop :=
  (∀ (k : Nat) (e : zEn), h.1[k]? = some e → z_CR D sz0 s ad h H k e ∧ (k < z_nS → e.1 ≠ 16 → ad k < sz0) ∧ (z_nS ≤ k → sz0 ≤ ad k ∧ ad k < H.size ∧ e.1 ≠ 16) ∧ (∀ j r, e.2.2.getD j 0 = r + 2 → r < h.1.length) ∧ (e.1 = 15 → e.2.1 < h.1.length)) ∧
  (∀ i j : Nat, z_nS ≤ i → i < h.1.length → z_nS ≤ j → j < h.1.length → ad i = ad j → i = j) ∧ sz0 ≤ H.size ∧ z_nS ≤ h.1.length ∧ z_SH sz0 ad s H
theorem z_Hp.moved {sz0 : Nat} {D : va_G} {ad : Nat → Nat} {h : zHP} {u U : State} {H : Heap} (hvm : u.vm.Alike U.vm) (q : z_Hp sz0 D ad h u H) : z_Hp sz0 D ad h U H :=
  ⟨fun k e he => ⟨(q.1 k e he).1.moved hvm, (q.1 k e he).2⟩, q.2.1, q.2.2.1, q.2.2.2.1, q.2.2.2.2.moved hvm⟩
def z_strs : List (String × Nat × String × Nat) := [("TroupeTrunks$Reader", 92, "town", 3), ("TroupeTrunks$Reader", 165, "careful", 4), ("TroupeTrunks$Reader", 167, "drunk", 5), ("TroupeTrunks$Reader", 169, "slow", 6), ("TroupeTrunks$Reader", 171, "lazy", 7), ("TroupeTrunks$Reader", 143, "lends", 8), ("TroupeTrunks$Reader", 101, "train", 9), ("TroupeTrunks$Reader", 106, "trunk", 10), ("TroupeTrunks$Reader", 111, "thing", 11), ("TroupeTrunks$Reader", 116, "play", 12), ("TroupeTrunks$Reader", 121, "like", 13), ("TroupeTrunks$Reader", 126, "troupe", 14), ("TroupeTrunksModel", 9, "careful", 15), ("TroupeTrunksModel", 11, "drunk", 16), ("TroupeTrunksModel", 13, "slow", 17), ("TroupeTrunksModel", 15, "lazy", 18), ("TroupeTrunksModel", 240, "town", 19), ("TroupeTrunksModel", 233, "lends", 20), ("TroupeTrunksModel", 245, "train", 21), ("TroupeTrunksModel", 249, "trunk", 22), ("TroupeTrunksModel", 251, "thing", 23), ("TroupeTrunksModel", 256, "play", 24), ("TroupeTrunksModel", 261, "like", 25), ("TroupeTrunksModel", 266, "troupe", 26)]
theorem z_strs_lt : ∀ q ∈ z_strs, q.2.2.2 < z_nS := by decide +kernel
def z_thr : List (String × Nat × String) := [("TroupeTrunks", 91, "the tape has not so many bytes"), ("TroupeTrunks", 159, "no such count"), ("TroupeTrunks", 336, "no such town"), ("TroupeTrunks", 183, "no such fact of a town"), ("TroupeTrunks", 338, "no such trunk"), ("TroupeTrunks", 198, "no such fact of a trunk"), ("TroupeTrunks", 340, "no such play"), ("TroupeTrunks", 206, "no such things"), ("TroupeTrunks", 215, "no such need"), ("TroupeTrunks", 342, "no such answer"), ("TroupeTrunks", 303, "so many days can't go by"), ("TroupeTrunks", 279, "no way"), ("TroupeTrunks", 344, "no such clerk"), ("TroupeTrunks", 320, "no tour is kept"), ("TroupeTrunks", 248, "no sort and weight"), ("TroupeTrunks", 240, "no weight at all")]
def z_nestW : List (String × Nat × MethodName × String) := [("TroupeTrunks$Tale", 73, ⟨"TroupeTrunks", "put", "([III)V"⟩, "TroupeTrunks"), ("TroupeTrunks", 71, ⟨"TroupeTrunks$Past", "<init>", "()V"⟩, "TroupeTrunks"), ("TroupeTrunks$Past", 47, ⟨"TroupeTrunks", "at", "([II)I"⟩, "TroupeTrunks"), ("TroupeTrunks$Standing", 69, ⟨"TroupeTrunks", "put", "([III)V"⟩, "TroupeTrunks"), ("TroupeTrunks$Planner", 48, ⟨"TroupeTrunks", "at", "([II)I"⟩, "TroupeTrunks"), ("TroupeTrunks$Planner", 121, ⟨"TroupeTrunks", "has", "(II)Z"⟩, "TroupeTrunks"), ("TroupeTrunks$Ways", 52, ⟨"TroupeTrunks", "at", "([II)I"⟩, "TroupeTrunks"), ("TroupeTrunks$Planner", 70, ⟨"TroupeTrunks", "put", "([III)V"⟩, "TroupeTrunks"), ("TroupeTrunks$Prices", 34, ⟨"TroupeTrunks", "at", "([II)I"⟩, "TroupeTrunks"), ("TroupeTrunks$Tale", 81, ⟨"TroupeTrunks", "at", "([II)I"⟩, "TroupeTrunks"), ("TroupeTrunks$Tale", 85, ⟨"TroupeTrunks", "has", "(II)Z"⟩, "TroupeTrunks"), ("TroupeTrunks$Prices", 51, ⟨"TroupeTrunks", "put", "([III)V"⟩, "TroupeTrunks"), ("TroupeTrunks$Prices", 59, ⟨"TroupeTrunks", "has", "(II)Z"⟩, "TroupeTrunks"), ("TroupeTrunks$Prices", 91, ⟨"TroupeTrunks", "lowBits", "(I)I"⟩, "TroupeTrunks"), ("TroupeTrunks$Prices", 94, ⟨"TroupeTrunks", "isLess", "(II)Z"⟩, "TroupeTrunks"), ("TroupeTrunks$Planner", 78, ⟨"TroupeTrunks", "isLess", "(II)Z"⟩, "TroupeTrunks"), ("TroupeTrunks$Standing", 65, ⟨"TroupeTrunks", "copy", "([I[I)V"⟩, "TroupeTrunks"), ("TroupeTrunks$Reader", 153, ⟨"TroupeTrunks", "put", "([III)V"⟩, "TroupeTrunks"), ("TroupeTrunks$Standing", 58, ⟨"TroupeTrunks", "at", "([II)I"⟩, "TroupeTrunks"), ("TroupeTrunks$Tale", 77, ⟨"TroupeTrunks", "copy", "([I[I)V"⟩, "TroupeTrunks"), ("TroupeTrunks$Ways", 33, ⟨"TroupeTrunks", "copy", "([I[I)V"⟩, "TroupeTrunks"), ("TroupeTrunks$Ways", 37, ⟨"TroupeTrunks", "put", "([III)V"⟩, "TroupeTrunks"), ("TroupeTrunks$Ways", 48, ⟨"TroupeTrunks", "isLess", "(II)Z"⟩, "TroupeTrunks"), ("TroupeTrunks$Past", 33, ⟨"TroupeTrunks", "put", "([III)V"⟩, "TroupeTrunks")]
def z_casts : List (String × String) := [("java/lang/IllegalArgumentException", "java/lang/IllegalArgumentException"), ("java/util/NoSuchElementException", "java/util/NoSuchElementException")]
def z_ncasts : List (String × String) := [("java/lang/IllegalArgumentException", "java/util/NoSuchElementException")]
def z_decl : List MethodName := [⟨"java/lang/RuntimeException", "<init>", "(Ljava/lang/String;)V"⟩, ⟨"java/lang/Exception", "<init>", "(Ljava/lang/String;)V"⟩, ⟨"java/lang/Throwable", "<init>", "(Ljava/lang/String;)V"⟩]
/-- what the tables say -/
def z_Tb (D : va_G) (ad : Nat → Nat) (s : State) : Prop :=
  (∀ w ∈ lw_tbl, ((w.onTables && w.keeps) = true ∨ ∃ ty, w = .arrayClass ty) → w.before #[] s = true) ∧ (∀ q ∈ z_nestW, va_Nw (.methodLinkNest q.1 q.2.1 q.2.2.1 q.2.2.2) s) ∧
  (∀ q ∈ z_strs, vk_R q.1 q.2.1 q.2.2.1 (ad q.2.2.2) s) ∧ (∀ q ∈ z_thr, ∃ a, vk_R q.1 q.2.1 q.2.2 a s) ∧
  (∀ (c : Nat) (q : vw_C), vwCl[c]? = some q → u_Kn s q.1 q.2.1 q.2.2 (D.1 c) (D.2 c)) ∧
  (∀ q ∈ z_casts, ∃ a b, s.vm.findClass q.1 = some a ∧ s.vm.findClass q.2 = some b ∧ s.vm.assignable a b = true) ∧
  (∀ q ∈ z_ncasts, ∃ a b, s.vm.findClass q.1 = some a ∧ s.vm.findClass q.2 = some b ∧ s.vm.assignable a b = false) ∧
  va_AO "java/lang/String" s ∧ ∀ q ∈ z_decl, va_Nw (.declares q) s
theorem z_Tb.warm {D : va_G} {ad : Nat → Nat} {s U : State} (hW : s.WarmedH U.vm) (q : z_Tb D ad s) : z_Tb D ad U := by
  obtain ⟨q1, q2, q3, q4, q5, q6, q7, q8, q9⟩ := q
  refine ⟨fun w hw hg => word_at hW hg (q1 w hw hg), fun w hw => va_Nw.warmM hW (q2 w hw), fun w hw => vk_R.warm hW (q3 w hw), fun w hw => ?_, fun c w hw => u_Kn_moved hW.alike (q5 c w hw), fun w hw => ?_, fun w hw => ?_, q8.moved hW.alike, fun w hw => va_Nw.warmD hW (q9 w hw)⟩
  · obtain ⟨a, h⟩ := q4 w hw
    exact ⟨a, vk_R.warm hW h⟩
  · obtain ⟨a, b, h1, h2, h3⟩ := q6 w hw
    exact ⟨a, b, by rw [hW.alike.findClass]; exact h1, by rw [hW.alike.findClass]; exact h2, by rw [hW.alike.assignable]; exact h3⟩
  · obtain ⟨a, b, h1, h2, h3⟩ := q7 w hw
    exact ⟨a, b, by rw [hW.alike.findClass]; exact h1, by rw [hW.alike.findClass]; exact h2, by rw [hW.alike.assignable]; exact h3⟩
theorem z_Tb.ad {D : va_G} {ad ad1 : Nat → Nat} {s : State} (q : z_Tb D ad s) (h : ∀ i, i < z_nS → ad1 i = ad i) : z_Tb D ad1 s := by
  obtain ⟨q1, q2, q3, q4, q5, q6, q7, q8, q9⟩ := q
  refine ⟨q1, q2, fun w hw => ?_, q4, q5, q6, q7, q8, q9⟩
  rw [h w.2.2.2 (z_strs_lt w hw)]
  exact q3 w hw
theorem z_Tb.w {D : va_G} {ad : Nat → Nat} {s : State} (q : z_Tb D ad s) {args : Array Value} {w : Cond} {ws : List Cond} (hg : GoodIn lw_tbl ws) (hw : w ∈ ws) : w.before args s = true :=
  word_at (State.WarmedH.refl s) (hg w hw).2 (q.1 w (hg w hw).1 (hg w hw).2)
/-! ===== locals ===== -/
/-- .null stands for a slot of which nothing is known -/
def z_LR (ad : Nat → Nat) (n : Nat) (ls : List Value) (lsA : Array Slot) : Prop :=
  lsA.size = n ∧ lv_wf lsA ∧ ∀ (i : Nat) (v : Value), ls[i]? = some v → v ≠ .null → lsA[i]? = some (.val (z_cv ad v))
def z_set : List Value → Nat → Value → List Value
  | [], _, _ => []
  | _ :: r, 0, v => v :: r
  | x :: r, 1, v => (match x with | .long _ => .null | .double _ => .null | y => y) :: z_set r 0 v
  | x :: r, i + 2, v => x :: z_set r (i + 1) v
def z_set2 (ls : List Value) (i : Nat) (v : Value) : List Value := z_set (z_set ls (i + 1) .null) i v
theorem z_set_get {ls : List Value} {i j : Nat} {v w : Value} (h : (z_set ls i v)[j]? = some w) (hw : w ≠ .null) : (j = i ∧ w = v) ∨ (j ≠ i ∧ ls[j]? = some w ∧ ¬ (j + 1 = i ∧ w.category = 2)) := by
  induction ls generalizing i j with
  | nil => simp [z_set] at h
  | cons x r ih =>
    match i, j with
    | 0, 0 => simp [z_set] at h; exact Or.inl ⟨rfl, h.symm⟩
    | 0, j + 1 => simp [z_set] at h; exact Or.inr ⟨by omega, by simpa using h, by omega⟩
    | 1, 0 =>
      simp only [z_set, List.getElem?_cons_zero, Option.some.injEq] at h
      refine Or.inr ⟨by omega, ?_, ?_⟩
      · cases x <;> simp_all
      · rintro ⟨-, hc⟩
        cases x <;> subst h <;> simp_all [Value.category]
    | 1, j + 1 =>
      simp only [z_set, List.getElem?_cons_succ] at h
      rcases ih h with ⟨a, b⟩ | ⟨a, b, c⟩
      · exact Or.inl ⟨by omega, b⟩
      · exact Or.inr ⟨by omega, by simpa using b, by omega⟩
    | i + 2, 0 => simp [z_set] at h; exact Or.inr ⟨by omega, by simpa using h, by omega⟩
    | i + 2, j + 1 =>
      simp only [z_set, List.getElem?_cons_succ] at h
      rcases ih h with ⟨a, b⟩ | ⟨a, b, c⟩
      · exact Or.inl ⟨by omega, b⟩
      · exact Or.inr ⟨by omega, by simpa using b, fun q => c ⟨by omega, q.2⟩⟩
/-- the known slots, as the rows of the kit want them -/
def z_ll (ad : Nat → Nat) (ls : List Value) : List (Nat × Value) := (List.range ls.length).filterMap (fun i => match (ls[i]? : Option Value) with | some Value.null => none | some v => some (i, z_cv ad v) | none => none)
theorem z_ll_mem {ad : Nat → Nat} {ls : List Value} {i : Nat} {v : Value} (h : ls[i]? = some v) (hv : v ≠ .null) : (i, z_cv ad v) ∈ z_ll ad ls := by
  refine List.mem_filterMap.mpr ⟨i, List.mem_range.mpr (List.getElem?_eq_some_iff.mp h).1, ?_⟩
  rw [h]
  cases v <;> first | rfl | exact absurd rfl hv
theorem z_LR.has {ad : Nat → Nat} {n : Nat} {ls : List Value} {lsA : Array Slot} (h : z_LR ad n ls lsA) : lv_has lsA n (z_ll ad ls) := by
  refine ⟨h.1, h.2.1, fun q hq => ?_⟩
  obtain ⟨i, -, hi⟩ := List.mem_filterMap.mp hq
  cases hc : ls[i]? with
  | none => rw [hc] at hi; cases hi
  | some v =>
    rw [hc] at hi
    have hv : v ≠ .null := fun e => by subst e; cases hi
    have : q = (i, z_cv ad v) := by cases v <;> first | exact (Option.some.inj hi).symm | exact absurd rfl hv
    rw [this]
    exact h.2.2 i v hc hv
theorem z_LR.set1 {ad : Nat → Nat} {n : Nat} {ls : List Value} {lsA lsB : Array Slot} {i : Nat} {v : Value} (hB : lv_has lsB n ((i, z_cv ad v) :: (z_ll ad ls).filter (fun q => !(q.1 == i) && !(q.1 + 1 == i && q.2.category == 2)))) : z_LR ad n (z_set ls i v) lsB := by
  refine ⟨hB.1, hB.2.1, fun j w hj hw => ?_⟩
  rcases z_set_get hj hw with ⟨a, b⟩ | ⟨a, b, c⟩
  · rw [a, b]; exact hB.2.2 _ List.mem_cons_self
  · refine hB.2.2 (j, z_cv ad w) (List.mem_cons_of_mem _ (List.mem_filter.mpr ⟨z_ll_mem b hw, ?_⟩))
    simp only [z_cv_cat, Bool.and_eq_true, Bool.not_eq_true', beq_eq_false_iff_ne, ne_eq, Bool.and_eq_false_iff]
    exact ⟨a, by
      by_cases q : j + 1 = i
      · exact Or.inr (fun z => c ⟨q, z⟩)
      · exact Or.inl q⟩
theorem z_LR.set2 {ad : Nat → Nat} {n : Nat} {ls : List Value} {lsA lsB : Array Slot} {i : Nat} {v : Value} (hB : lv_has lsB n ((i, z_cv ad v) :: (z_ll ad ls).filter (fun q => !(q.1 == i) && (!(q.1 == i + 1) && !(q.1 + 1 == i && q.2.category == 2))))) : z_LR ad n (z_set2 ls i v) lsB := by
  refine ⟨hB.1, hB.2.1, fun j w hj hw => ?_⟩
  rcases z_set_get hj hw with ⟨a, b⟩ | ⟨a, b, c⟩
  · rw [a, b]; exact hB.2.2 _ List.mem_cons_self
  · rcases z_set_get b hw with ⟨a2, b2⟩ | ⟨a2, b2, c2⟩
    · exact absurd b2 hw
    · refine hB.2.2 (j, z_cv ad w) (List.mem_cons_of_mem _ (List.mem_filter.mpr ⟨z_ll_mem b2 hw, ?_⟩))
      simp only [z_cv_cat, Bool.and_eq_true, Bool.not_eq_true', beq_eq_false_iff_ne, ne_eq, Bool.and_eq_false_iff]
      exact ⟨a, a2, by
        by_cases q : j + 1 = i
        · exact Or.inr (fun z => c ⟨q, z⟩)
        · exact Or.inl q⟩
theorem z_LR.ext {ad ad1 : Nat → Nat} {n N : Nat} {ls : List Value} {lsA : Array Slot} (h : z_LR ad n ls lsA) (ha : ∀ i, i < N → ad1 i = ad i) (hb : ∀ v ∈ ls, ∀ r, v = .ref r → r < N) : z_LR ad1 n ls lsA := by
  refine ⟨h.1, h.2.1, fun i v hi hv => ?_⟩
  have e : z_cv ad1 v = z_cv ad v := by
    cases v with
    | ref r => show Value.ref (ad1 r) = Value.ref (ad r); rw [ha r (hb _ (List.mem_of_getElem? hi) r rfl)]
    | _ => rfl
  rw [e]
  exact h.2.2 i v hi hv
