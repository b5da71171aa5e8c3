section ZP
variable {l : Launch} {mt : zMt} {d bc bs pc : Nat} {ls st : List Value} {h h' : zHP} {o : zO}
/-- a final field of a reference, put by its constructor -/
def z_FR (mt : zMt) (idx ci f : Nat) : Prop := ∃ (C : String) (T : u_T) (N : Nat) (ty : FieldType), vwCl[ci]? = some (C, T, N) ∧ f < N ∧ GoodIn lw_tbl (Cond.fieldLink mt.1.cls idx (T f).1 (T f).2.1 (T f).2.2.1 :: u_ws C T N) ∧ (T f).2.2.2 = true ∧ (T f).1 = mt.1.cls ∧ mt.1.name = "<init>" ∧ parseFieldDescriptor (T f).2.2.1 = some ty ∧ (∀ a : Nat, narrow ty (.ref a) = .ref a ∧ fits ty (.ref a) = true) ∧ ∃ ty0 : Nat → FieldType, (∀ k, k < N → parseFieldDescriptor (T k).2.2.1 = some (ty0 k)) ∧ ∀ a, a < N → ∀ b, b < N → a ≠ b → (T a).2.1 ≠ (T b).2.1
theorem z_putR {idx ci f r N q : Nat} {rs : List Nat} (hF : z_FR mt idx ci f) (hd : decode mt.2.1 pc = .ok (.putfield idx, 3)) (hr : z_nS ≤ r) (he : h.1[r]? = some (ci, N, rs)) (hl : f < rs.length) (hq : q < h.1.length)
    (k : z_AW l mt d bc bs (pc + 3) ls st (h.1.set r (ci, N, rs.set f (q + 2)), h.2.1, h.2.2) o h') : z_AW l mt d bc bs pc ls (.ref q :: .ref r :: st) h o h' := by
  intro sz0 D ad p e R s m args below meth c H locs cells slots MC MS lsA Qc XC hY hE
  obtain ⟨hC, h1, h2, h3, h4, h5, h6⟩ := hY
  obtain ⟨C, T, N0, ty, hc, hf, hg, hfin, hdc, hini, hty, hnf, ty0, hty0, hnm⟩ := hF
  have hci : ci < 9 := (List.getElem?_eq_some_iff.mp hc).1
  have hrl : r < h.1.length := (List.getElem?_eq_some_iff.mp he).1
  obtain ⟨w, g1, cell, q1, q2, q3, q4⟩ := (h5.1 r _ he).1.1 hci
  cases Option.some.inj (g1.symm.trans hc)
  have hts : ∀ w ∈ u_ws C T N0, w.before args s = true := fun w hw => h4.w hg (List.mem_cons_of_mem _ hw)
  have hap := z_apart hts ty0 hty0 hnm (h4.2.2.2.2.1 ci _ hc)
  obtain ⟨hS, hfc, kC, hkC, hkind⟩ := h4.2.2.2.2.1 ci _ hc
  obtain ⟨cf, kf, fi, fd, hi, hsl⟩ := hS f hf
  have hlay := hts _ (u_in_lay hf)
  unfold u_lay at hlay
  rw [if_pos hfin] at hlay
  have hst := (u_facts hfc hkC (u_lays hts (fun _ z => z) hf) hi).1
  have hcf : m.cls = cf := by
    obtain ⟨_, _, c', _, _, _, -, -, hf', -, -, -, hown2, -⟩ := Cond.laysFinal_spec hlay
    have e1 : c' = cf := by have := hi.symm.trans hf'; simp at this; exact this.1.symm
    rw [hdc] at hown2
    rw [← e1]; exact Option.some.inj (hC.2.2.2.2.2.1.symm.trans hown2)
  have hsd := u_fits hfc hkC hkind (Or.inr hlay) hi hty (hnf (ad q)).1 (hnf (ad q)).2
  refine W.putFinK hC.2.1 hC.2.2.1 hC.2.2.2.2.2.1 (h4.w hg List.mem_cons_self) hi hst hcf (hC.2.2.2.2.2.2.2.2.1.trans hini) (by rw [q2]; exact hsd) q1 q3 (by rw [hsl]; exact k2_hasslot (q4 f hf)) rfl rfl hd fun H' e1 e2 e3 => ?_
  refine k sz0 D ad p e R s m args below meth c H' _ cells slots MC MS lsA Qc XC ⟨hC, h1, h2, z_locs h3 ((h5.1 r _ he).2.2.1 hr).1, h4, ?_, h6⟩ (fun ad'' t hs hal hp => hE ad'' t (fun i hi => hs i (by simp; exact hi)) hal hp)
  have hset : (h.1.set r (ci, N, rs.set f (q + 2)))[r]? = some (ci, N, rs.set f (q + 2)) := by simp [hrl]
  refine h5.wr (h1 := (h.1.set r (ci, N, rs.set f (q + 2)), h.2.1, h.2.2)) hr he (by simp) (fun k hk => by simp [List.getElem?_set, Ne.symm hk]) hset (by show ci ≠ 16; omega) (fun j i z => ?_) (fun z => by exfalso; revert z; show ci = 15 → False; omega) (fun _ _ _ => rfl) (fun _ _ _ => rfl) e2 e3 ?_
  · have z' : (rs.set f (q + 2)).getD j 0 = i + 2 := z
    rw [List.getD_eq_getElem?_getD, List.getElem?_set] at z'
    by_cases hj : f = j
    · rw [if_pos hj, if_pos (by omega)] at z'
      simp at z'
      omega
    · rw [if_neg hj, ← List.getD_eq_getElem?_getD] at z'
      exact (h5.1 r _ he).2.2.2.1 j i z'
  · refine ⟨fun _ => ⟨_, hc, _, e1, q2, q3, fun j hj => ?_⟩, fun z => ?_, fun z => ?_, fun z => ?_, fun z => ?_, fun z => ?_, fun z => ?_⟩
    · rw [hsl]
      refine (t_set q4 hap hf (.ref (ad q)) j hj).trans ?_
      show some (updV (fun i => z_fv h.2.1 ad r i rs) f (.ref (ad q)) j) = some (z_fv h.2.1 ad r j (rs.set f (q + 2)))
      unfold updV z_fv
      rw [List.getD_eq_getElem?_getD (l := rs.set f (q + 2)), List.getElem?_set]
      by_cases hjf : j = f
      · subst hjf
        simp [hl]
      · rw [if_neg (Ne.symm hjf), if_neg hjf, ← List.getD_eq_getElem?_getD]
    all_goals (exfalso; revert z; show ci = _ → False; omega)
theorem z_aastore {r N q w : Nat} {rs rq : List Nat} {i : Int32} (hd : decode mt.2.1 pc = .ok (.aastore, 1)) (hr : z_nS ≤ r) (he : h.1[r]? = some (14, N, rs)) (hin : vp_in i N) (hl : i.toNatClampNeg < rs.length) (hq : h.1[q]? = some (15, w, rq))
    (k : z_AW l mt d bc bs (pc + 1) ls st (h.1.set r (14, N, rs.set i.toNatClampNeg (q + 2)), h.2.1, h.2.2) o h') : z_AW l mt d bc bs pc ls (.ref q :: .int i :: .ref r :: st) h o h' := by
  intro sz0 D ad p e R s m args below meth c H locs cells slots MC MS lsA Qc XC hY hE
  obtain ⟨hC, h1, h2, h3, h4, h5, h6⟩ := hY
  have hrl : r < h.1.length := (List.getElem?_eq_some_iff.mp he).1
  have hql : q < h.1.length := (List.getElem?_eq_some_iff.mp hq).1
  obtain ⟨⟨cell, c1, c2, c3, c4, c5, c6⟩, cell', c1', kA, comp, r1, r2, r3, r4⟩ := (h5.1 r _ he).1.2.2.2.2.2.1 rfl
  cases Option.some.inj (c1.symm.trans c1')
  obtain ⟨g1, g2⟩ := z_inb hin c4
  obtain ⟨cv, v1, v2, v3, v4⟩ := ((h5.1 q _ hq).1.2.2.2.2.2.2 rfl).1
  cases Option.some.inj (r3.symm.trans v3)
  obtain ⟨kc, hkc, -⟩ := Vm.findClass_spec r3
  refine W.aast hC.2.1 hC.2.2.1 c1 c2.1 c3 r1 r2 rfl hkc ⟨fun z => g1 (Or.inl z), by omega⟩ v1 (fun z hz => by rw [hz] at v2; cases v2) hkc (va_asg _ _) rfl rfl hd (fun H' e1 e2 e3 => ?_)
  refine k sz0 D ad p e R s m args below meth c H' _ cells slots MC MS lsA Qc XC ⟨hC, h1, h2, z_locs h3 ((h5.1 r _ he).2.2.1 hr).1, h4, ?_, h6⟩ (fun ad'' t hs hal hp => hE ad'' t (fun i hi => hs i (by simp; exact hi)) hal hp)
  have hset : (h.1.set r (14, N, rs.set i.toNatClampNeg (q + 2)))[r]? = some (14, N, rs.set i.toNatClampNeg (q + 2)) := by simp [hrl]
  refine h5.wr (h1 := (h.1.set r (14, N, rs.set i.toNatClampNeg (q + 2)), h.2.1, h.2.2)) hr he (by simp) (fun k hk => by simp [List.getElem?_set, Ne.symm hk]) hset (by simp) (fun j i2 z => ?_) (fun z => (by simp at z)) (fun _ _ _ => rfl) (fun _ _ _ => rfl) e2 e3 ?_
  · have z' : (rs.set i.toNatClampNeg (q + 2)).getD j 0 = i2 + 2 := z
    rw [List.getD_eq_getElem?_getD, List.getElem?_set] at z'
    by_cases hj : i.toNatClampNeg = j
    · rw [if_pos hj, if_pos (by omega)] at z'
      simp at z'
      omega
    · rw [if_neg hj, ← List.getD_eq_getElem?_getD] at z'
      exact (h5.1 r _ he).2.2.2.1 j i2 z'
  · refine ⟨fun z => (by simp at z), fun z => (by simp at z), fun z => (by simp at z), fun z => (by simp at z), fun z => (by simp at z), fun _ => ⟨⟨_, e1, z_isa c2 _ _, c3, by rw [k2_slotsz]; exact c4, by rw [k2_slotsz]; exact c5, z_slot c6 g2 (fun j hj => ?_)⟩, _, e1, kA, _, r1, r2, r3, r4⟩, fun z => (by simp at z)⟩
    show z_fv h.2.1 ad r j (rs.set i.toNatClampNeg (q + 2)) = if j = i.toNatClampNeg then .ref (ad q) else z_fv h.2.1 ad r j rs
    unfold z_fv
    rw [List.getD_eq_getElem?_getD (l := rs.set i.toNatClampNeg (q + 2)), List.getElem?_set]
    by_cases hjf : j = i.toNatClampNeg
    · subst hjf
      simp [hl]
    · rw [if_neg (Ne.symm hjf), if_neg hjf, List.getD_eq_getElem?_getD]
theorem z_objInit {idx r : Nat} (hg : GoodIn lw_tbl [.methodLink mt.1.cls idx Lib.objectInit, .instanceMethod Lib.objectInit, .code Lib.objectInit ⟨#[0xb1]⟩ 1 none]) (hd : decode mt.2.1 pc = .ok (.invokespecial idx, 3)) (hw : (st.map fun v => v.category).sum ≤ 20) (hdd : 1 ≤ d) (k : z_AW l mt d bc bs (pc + 3) ls st h o h') : z_AW l mt d bc bs pc ls (.ref r :: st) h o h' := by
  intro sz0 D ad p e R s m args below meth c H locs cells slots MC MS lsA Qc XC hY hE
  have kk := k sz0 D ad p e R s m args below meth c H locs cells slots MC MS lsA Qc XC hY hE
  obtain ⟨hC, h1, h2, h3, h4, h5, h6⟩ := hY
  have hR := hC.2.2.2.2.2.2.2.2.2
  have hrm := z_room (pc := pc) (ad := ad) (m := m) (lsA := lsA) (stk := (.ref r :: st).map (z_cv ad)) hw
  exact W.objInit hC.2.1 hC.2.2.1 hC.2.2.2.2.2.1 (h4.w hg List.mem_cons_self) (h4.w hg (by simp)) (h4.w hg (by simp)) rfl (by rw [hC.2.2.2.1]; exact h6.1) rfl hd (by rw [hR]; exact hdd) (by rw [hR]; show _ + 12 ≤ 64 * d; omega) kk
/-! the table switch -/
theorem z_tswI {x v : Int32} {dflt lo hi off : Int} {offs : Array Int} {len tgt : Nat} (hd : decode mt.2.1 pc = .ok (.tableswitch dflt lo hi offs, len)) (hx : x = v) (h1 : ¬ v.toInt < lo) (h2 : ¬ hi < v.toInt) (ho : offs[(v.toInt - lo).toNat]? = some off) (ht : (pc : Int) + off = (tgt : Int)) (k : z_AW l mt d bc bs tgt ls st h o h') : z_AW l mt d bc bs pc ls (.int x :: st) h o h' := by
  subst hx
  exact z_lift (fun _ _ _ _ _ _ _ _ _ _ _ _ _ _ _ _ hx hb w => lv_tableIn hx hb hd h1 h2 ho ht w) k
theorem z_tswO {x : Int32} {dflt lo hi : Int} {offs : Array Int} {len tgt : Nat} (hd : decode mt.2.1 pc = .ok (.tableswitch dflt lo hi offs, len)) (L : List Int32) (hn : ∀ v ∈ L, ¬ x = v) (hall : (List.range (hi - lo + 1).toNat).all (fun i => L.any (fun v => v.toInt == lo + (i : Int))) = true) (ht : (pc : Int) + dflt = (tgt : Int)) (k : z_AW l mt d bc bs tgt ls st h o h') : z_AW l mt d bc bs pc ls (.int x :: st) h o h' := by
  have hout : x.toInt < lo ∨ hi < x.toInt := by
    by_cases a : x.toInt < lo
    · exact Or.inl a
    · by_cases b : hi < x.toInt
      · exact Or.inr b
      · exfalso
        have h1 := List.all_eq_true.mp hall (x.toInt - lo).toNat (List.mem_range.mpr (by omega))
        obtain ⟨v, hv, he⟩ := List.any_eq_true.mp h1
        have he' : v.toInt = lo + ((x.toInt - lo).toNat : Int) := by simpa using he
        exact hn v hv (Int32.toInt_inj.mp (by rw [he']; omega))
  exact z_lift (fun _ _ _ _ _ _ _ _ _ _ _ _ _ _ _ _ hx hb w => lv_tableOut hx hb hd hout ht w) k
/-! arraycopy of the first n numbers -/
def z_cp (M : zMM) (a b n : Nat) : zMM := fun c i => if c = b then (if i < n then M a i else M c i) else M c i
theorem z_pairs (xs : List Value) : ∀ (i : Nat) (cell : Cell) (j : Nat), (cell.storePairs 0 (xs.zipIdx i)).slots[j]? = if i ≤ j ∧ j < i + xs.length ∧ j < cell.slots.size then some (xs.getD (j - i) .null) else cell.slots[j]? := by
  induction xs with
  | nil => intro i cell j; simp [Cell.storePairs]; intro h1 h2; omega
  | cons x xs ih =>
    intro i cell j
    rw [List.zipIdx_cons]
    show ((cell.setSlot (0 + i) x).storePairs 0 (xs.zipIdx (i + 1))).slots[j]? = _
    rw [ih (i + 1), k2_slotsz, Nat.zero_add]
    by_cases hj : j = i
    · subst hj
      by_cases hs : j < cell.slots.size
      · rw [if_neg (by omega), if_pos ⟨Nat.le_refl _, by simp, hs⟩]
        simp [Cell.setSlot, hs]
      · rw [if_neg (by omega), if_neg (by omega)]
        simp [Cell.setSlot, hs]
    · have e : (cell.setSlot i x).slots[j]? = cell.slots[j]? := by simp [Cell.setSlot, Array.getElem?_setIfInBounds, Ne.symm hj]
      rw [e]
      by_cases hc : i + 1 ≤ j ∧ j < i + 1 + xs.length ∧ j < cell.slots.size
      · rw [if_pos hc, if_pos (by simp only [List.length_cons]; omega)]
        have : j - i = (j - (i + 1)) + 1 := by omega
        rw [this, List.getD_cons_succ]
      · rw [if_neg hc, if_neg (by simp only [List.length_cons]; omega)]
theorem z_copy {idx a b Na Nb n : Nat} {ra rb : List Nat} (hg : GoodIn lw_tbl [.methodLink mt.1.cls idx arraycopyName, .native arraycopyName, .static arraycopyName, .initialized "java/lang/System"]) (hd : decode mt.2.1 pc = .ok (.invokestatic idx, 3)) (hb : z_nS ≤ b) (hea : h.1[a]? = some (10, Na, ra)) (heb : h.1[b]? = some (10, Nb, rb)) (hna : n ≤ Na) (hnb : n ≤ Nb) (hn : n < 2 ^ 31) (hw : (st.map fun v => v.category).sum ≤ 20) (hdd : 1 ≤ d)
    (k : z_AW l mt d bc bs (pc + 3) ls st (h.1, z_cp h.2.1 a b n, h.2.2) o h') : z_AW l mt d bc bs pc ls (.int (nI n) :: .int 0 :: .ref b :: .int 0 :: .ref a :: st) h o h' := by
  intro sz0 D ad p e R s m args below meth c H locs cells slots MC MS lsA Qc XC hY hE T hT X
  obtain ⟨hC, h1, h2, h3, h4, h5, h6⟩ := hY
  have hR := hC.2.2.2.2.2.2.2.2.2
  obtain ⟨ca, a1, a2, a3, a4, a5, a6⟩ := (h5.1 a _ hea).1.2.1 rfl
  obtain ⟨cb, b1, b2, b3, b4, b5, b6⟩ := (h5.1 b _ heb).1.2.1 rfl
  obtain ⟨-, k0, hk0, cm0, hkk0⟩ := id a2
  obtain ⟨-, k1, hk1, cm1, hkk1⟩ := id b2
  have a4' : Na ≤ ca.slots.size := a4
  have b4' : Nb ≤ cb.slots.size := b4
  have hcl : (nI n).toNatClampNeg = n := nI_clamp hn
  have hti : (nI n).toInt = (n : Int) := nI_toInt hn
  have hsum : ((st.map (z_cv ad)).map fun v => v.category).sum = (st.map fun v => v.category).sum := by
    rw [List.map_map]; congr 1; exact List.map_congr_left fun v _ => z_cv_cat ad v
  have hget : ∀ i, i < n → ca.slots.getD i .null = .int (h.2.1 a i) := fun i hi => by
    rw [Array.getD_eq_getD_getElem?, a6 i (by show i < Na; omega)]
    rfl
  obtain ⟨vm', X', step⟩ := X.arraycopy hC.2.1 hC.2.2.2.2.2.1 (h4.w hg List.mem_cons_self) (h4.w hg (by simp)) (h4.w hg (by simp)) (h4.w hg (by simp)) (src := ad a) (dst := ad b) (cs := ca) (cd := cb) (srcPos := 0) (destPos := 0) (n := nI n) (by rw [hT]; exact a1) (by rw [hT]; exact b1) a2.1 b2.1 a3 b3 hk0 hk1 hkk0 hkk1 (by decide) (by decide) (by decide) (nI_pos hn)
    (by rw [hti]; show ¬ (0 : Int) + _ > _; omega) (by rw [hti]; show ¬ (0 : Int) + _ > _; omega)
    (fun vm₁ _ i hi => by
      rw [hcl] at hi
      have e9 : ca.slots.getD ((0 : Int32).toNatClampNeg + i) .null = .int (h.2.1 a i) := by rw [show (0 : Int32).toNatClampNeg = 0 from rfl, Nat.zero_add]; exact hget i hi
      rw [e9]
      exact ⟨rfl, trivial⟩)
    (g := F0 m pc lsA ((.int (nI n) :: .int 0 :: .ref b :: .int 0 :: .ref a :: st).map (z_cv ad))) rfl (by rw [hC.2.2.2.1]; exact h6.1) (rest := st.map (z_cv ad)) rfl (by rw [hC.2.2.1]; exact hd) (by rw [hR]; exact hdd) (by
      rw [hsum, hR]
      have : nativeFrameWords "java/lang/System" "arraycopy" 5 = 7 := by decide +kernel
      rw [this]
      show 2 * 0 + _ + (7 + 11) ≤ 64 * d
      omega)
  have hlt : ad b < H.size := (Array.getElem?_eq_some_iff.mp b1).1
  have hfacts := Cell.storePairs_facts cb 0 ((ca.stretch 0 n).zipIdx 0)
  have hcop : copied ca cb 0 0 (nI n) = cb.storePairs 0 ((ca.stretch 0 n).zipIdx 0) := by
    show cb.storeRun (0 : Int32).toNatClampNeg (ca.stretch (0 : Int32).toNatClampNeg (nI n).toNatClampNeg) = _
    rw [hcl]
    rfl
  rw [hcop] at X' step
  generalize hce : cb.storePairs 0 ((ca.stretch 0 n).zipIdx 0) = ce at X' step hfacts
  have hheap : ((T.setVm vm').setCell (ad b) ce).heap = H.setIfInBounds (ad b) ce := by rw [← hT]; rfl
  have oq : ∀ q : Nat, q ≠ ad b → (H.setIfInBounds (ad b) ce)[q]? = H[q]? := fun q hq => by simp [Array.getElem?_setIfInBounds, Ne.symm hq]
  have hnl : ∀ z ∈ locs ++ (ca.stretch (0 : Int32).toNatClampNeg (nI n).toNatClampNeg).zipIdx.map (fun q => (⟨ad b, (0 : Int32).toNatClampNeg + q.2⟩ : Loc)), sz0 ≤ z.base := by
    intro z hz
    rcases List.mem_append.mp hz with hz | hz
    · exact h3 z hz
    · obtain ⟨y, -, rfl⟩ := List.mem_map.mp hz
      exact ((h5.1 b _ heb).2.2.1 hb).1
  have hnh : z_Hp sz0 D ad (h.1, z_cp h.2.1 a b n, h.2.2) s (H.setIfInBounds (ad b) ce) := by
    refine h5.wr (h1 := (h.1, z_cp h.2.1 a b n, h.2.2)) hb heb rfl (fun _ _ => rfl) heb (by simp) (h5.1 b _ heb).2.2.2.1 (h5.1 b _ heb).2.2.2.2 (fun c j hc => by simp [z_cp, hc]) (fun _ _ _ => rfl) (by simp) oq ?_
    refine ⟨fun z => (by simp at z), fun _ => ⟨ce, by simp [Array.getElem?_setIfInBounds, hlt], ?_, by rw [hfacts.2.1]; exact b3, by rw [hfacts.2.2.1]; exact b4, by rw [hfacts.2.2.1]; exact b5, fun j hj => ?_⟩, fun z => (by simp at z), fun z => (by simp at z), fun z => (by simp at z), fun z => (by simp at z), fun z => (by simp at z)⟩
    · obtain ⟨u1, u2⟩ := b2
      exact ⟨by rw [hfacts.2.1]; exact u1, by rw [hfacts.1]; exact u2⟩
    · have hj' : j < Nb := hj
      rw [← hce, z_pairs]
      show _ = some (Value.int (z_cp h.2.1 a b n b j))
      unfold z_cp
      rw [if_pos rfl]
      by_cases hjn : j < n
      · rw [if_pos ⟨Nat.zero_le _, by simp [Cell.stretch]; exact hjn, by omega⟩, if_pos hjn, Nat.sub_zero]
        have : (ca.stretch 0 n).getD j .null = .int (h.2.1 a j) := by
          unfold Cell.stretch
          rw [List.getD_eq_getElem?_getD, List.getElem?_map, List.getElem?_range hjn]
          show ca.slots.getD (0 + j) .null = _
          rw [Nat.zero_add]
          exact hget j hjn
        rw [this]
      · rw [if_neg (by simp [Cell.stretch]; intro q; omega), if_neg hjn]
        exact b6 j hj
  obtain ⟨t, e1, e2⟩ := k sz0 D ad p e R s m args below meth c (H.setIfInBounds (ad b) ce) _ cells slots MC MS lsA Qc XC ⟨hC, h1, h2, hnl, h4, hnh, h6⟩ hE _ hheap X'
  exact ⟨t, step t e1, e2⟩
end ZP
