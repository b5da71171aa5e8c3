/-! ===== makings ===== -/
def z_zM (M : zMM) (n : Nat) : zMM := fun a b => if a = n then 0 else M a b
def z_zL (M : zML) (n : Nat) : zML := fun a b => if a = n then 0 else M a b
theorem z_LR.an {ad : Nat → Nat} {n N a : Nat} {ls : List Value} {lsA : Array Slot} (h : z_LR ad n ls lsA) (hb : z_rbB ls N = true) : z_LR (z_an ad N a) n ls lsA := h.ext (N := N) (fun i hi => z_an_o hi) (z_rbB_of hb)
section ZN
variable {l : Launch} {mt : zMt} {d bc bs pc : Nat} {ls st : List Value} {h h' : zHP} {o : zO}
/-- what a making leaves: one more position -/
theorem z_made {sz0 : Nat} {D : va_G} {ad : Nat → Nat} {p : Program} {e : Env} {R : Room} {s : State} {m : MethodId} {args : Array Value} {below : List Frame} {meth : Method} {c : Code} {H H1 : Heap} {locs : List Loc} {cells slots MC MS n pc' : Nat} {lsA : Array Slot} {Qc : Array Value → State → Outcome → State → Prop} {XC : String → State → State → Prop} {en : zEn} {h1 : zHP}
    (hl : h1.1 = h.1 ++ [en]) (h16 : en.1 ≠ 16) (hrf : ∀ j i, en.2.2.getD j 0 = i + 2 → i < h.1.length) (h15 : en.1 ≠ 15) (hM : ∀ a j, a ≠ h.1.length → h1.2.1 a j = h.2.1 a j) (hL : ∀ a j, a ≠ h.1.length → h1.2.2 a j = h.2.2 a j)
    (hY : z_Y l mt d bc bs ls h sz0 D ad p R s m meth c H locs cells slots MC MS lsA) (hE : z_E h o h' sz0 D ad args s Qc XC) (hb1 : 1 ≤ bc) (hb2 : n ≤ bs) (hrb : z_rbB (ls ++ st) h.1.length = true)
    (hsz : H1.size = H.size + 1) (ho : ∀ a, a < H.size → H1[a]? = H[a]?) (hc : z_CR D sz0 s (z_an ad h.1.length H.size) h1 H1 h.1.length en)
    (k : z_AW l mt d (bc - 1) (bs - n) pc' ls (.ref h.1.length :: st) h1 o h') :
    W p l e R s m args below meth c H1 locs (cells + 1) (slots + n) (vx_MQ below Qc XC args s MC MS (fun q => sz0 ≤ q)) (F0 m pc' lsA (.ref H.size :: st.map (z_cv ad))) := by
  obtain ⟨hC, c1, c2, c3, c4, c5, c6⟩ := hY
  have old : ∀ i, i < h.1.length → z_an ad h.1.length H.size i = ad i := fun i hi => z_an_o hi
  have kk := k sz0 D (z_an ad h.1.length H.size) p e R s m args below meth c H1 locs (cells + 1) (slots + n) MC MS lsA Qc XC ⟨hC, by omega, by omega, c3, c4.ad (fun i hi => old i (Nat.lt_of_lt_of_le hi c5.2.2.2.1)), c5.mk hl h16 hrf (fun z => absurd z h15) hM hL hsz ho hc, c6.ext old (fun v hv => z_rbB_of hrb v (List.mem_append_left _ hv))⟩
    (fun ad'' t hs hal hp => hE ad'' t (fun i hi => (hs i (by rw [hl]; simp; omega)).trans (old i hi)) hal hp)
  rw [List.map_cons, z_map_ext old (fun v hv => z_rbB_of hrb v (List.mem_append_right _ hv))] at kk
  have e1 : z_cv (z_an ad h.1.length H.size) (.ref h.1.length) = .ref H.size := by show Value.ref _ = _; rw [z_an_s]
  rw [e1] at kk
  exact kk
theorem z_arr_new {s : State} {H : Heap} {a N : Nat} {cA : ClassId} {ty : FieldType} {f : Nat → Value} (h1 : H[a]? = some (arrV cA N f)) (h2 : ArrOfT s cA ty) : z_arr s H a ty N f :=
  ⟨_, h1, h2 N f, fun q => (by cases q), by rw [arrV_size]; exact Nat.le_refl _, (by rw [arrV_size]), fun j hj => arrV_read _ _ hj⟩
theorem z_newI {n : Int32} {N : Nat} (hd : decode mt.2.1 pc = .ok (.newarray .int, 2)) (hg : GoodIn lw_tbl [.arrayClass .int]) (hn : ¬ n < 0) (hN : n.toNatClampNeg = N) (hNb : N ≤ 100000) (hb1 : 1 ≤ bc) (hb2 : N ≤ bs) (hrb : z_rbB (ls ++ st) h.1.length = true)
    (k : z_AW l mt d (bc - 1) (bs - N) (pc + 2) ls (.ref h.1.length :: st) (h.1 ++ [(10, N, [])], z_zM h.2.1 h.1.length, h.2.2) o h') : z_AW l mt d bc bs pc ls (.int n :: st) h o h' := by
  intro sz0 D ad p e R s m args below meth c H locs cells slots MC MS lsA Qc XC hY hE
  obtain ⟨hC, c1, c2, c3, c4, c5, c6⟩ := id hY
  have hR := hC.2.2.2.2.2.2.2.2.2
  refine W.newaK hC.2.1 hC.2.2.1 (c4.w hg (List.mem_singleton.mpr rfl)) rfl hd rfl hn hN (by show N * 4 ≤ _; omega) (by rw [hR]; show cells + 1 ≤ MC; omega) (by rw [hR]; show slots + N ≤ MS; omega) rfl (fun H1 cA e1 e2 e3 e4 => ?_)
  refine z_made (h1 := (h.1 ++ [(10, N, [])], z_zM h.2.1 h.1.length, h.2.2)) (pc' := pc + 2) (en := (10, N, [])) rfl (by simp) (fun j i z => by simp at z) (by simp) (fun a j ha => by simp [z_zM, ha]) (fun _ _ _ => rfl) hY hE hb1 hb2 hrb e2 e3 ?_ k
  refine ⟨fun z => (by simp at z), fun _ => ?_, fun z => (by simp at z), fun z => (by simp at z), fun z => (by simp at z), fun z => (by simp at z), fun z => (by simp at z)⟩
  rw [z_an_s]
  exact (z_arr_new e1 e4).to (fun j _ => by simp [z_zM, newarray.typeOf, defaultValue])
theorem z_newB {n : Int32} {N : Nat} (hd : decode mt.2.1 pc = .ok (.newarray .byte, 2)) (hg : GoodIn lw_tbl [.arrayClass .byte]) (hn : ¬ n < 0) (hN : n.toNatClampNeg = N) (hNb : N ≤ 100000) (hb1 : 1 ≤ bc) (hb2 : N ≤ bs) (hrb : z_rbB (ls ++ st) h.1.length = true)
    (k : z_AW l mt d (bc - 1) (bs - N) (pc + 2) ls (.ref h.1.length :: st) (h.1 ++ [(11, N, [])], z_zM h.2.1 h.1.length, h.2.2) o h') : z_AW l mt d bc bs pc ls (.int n :: st) h o h' := by
  intro sz0 D ad p e R s m args below meth c H locs cells slots MC MS lsA Qc XC hY hE
  obtain ⟨hC, c1, c2, c3, c4, c5, c6⟩ := id hY
  have hR := hC.2.2.2.2.2.2.2.2.2
  refine W.newaK hC.2.1 hC.2.2.1 (c4.w hg (List.mem_singleton.mpr rfl)) rfl hd rfl hn hN (by show N * 1 ≤ _; omega) (by rw [hR]; show cells + 1 ≤ MC; omega) (by rw [hR]; show slots + N ≤ MS; omega) rfl (fun H1 cA e1 e2 e3 e4 => ?_)
  refine z_made (h1 := (h.1 ++ [(11, N, [])], z_zM h.2.1 h.1.length, h.2.2)) (pc' := pc + 2) (en := (11, N, [])) rfl (by simp) (fun j i z => by simp at z) (by simp) (fun a j ha => by simp [z_zM, ha]) (fun _ _ _ => rfl) hY hE hb1 hb2 hrb e2 e3 ?_ k
  refine ⟨fun z => (by simp at z), fun z => (by simp at z), fun _ => ?_, fun z => (by simp at z), fun z => (by simp at z), fun z => (by simp at z), fun z => (by simp at z)⟩
  rw [z_an_s]
  exact (z_arr_new e1 e4).to (fun j _ => by simp [z_zM, newarray.typeOf, defaultValue])
theorem z_newZ {n : Int32} {N : Nat} (hd : decode mt.2.1 pc = .ok (.newarray .boolean, 2)) (hg : GoodIn lw_tbl [.arrayClass .boolean]) (hn : ¬ n < 0) (hN : n.toNatClampNeg = N) (hNb : N ≤ 100000) (hb1 : 1 ≤ bc) (hb2 : N ≤ bs) (hrb : z_rbB (ls ++ st) h.1.length = true)
    (k : z_AW l mt d (bc - 1) (bs - N) (pc + 2) ls (.ref h.1.length :: st) (h.1 ++ [(12, N, [])], z_zM h.2.1 h.1.length, h.2.2) o h') : z_AW l mt d bc bs pc ls (.int n :: st) h o h' := by
  intro sz0 D ad p e R s m args below meth c H locs cells slots MC MS lsA Qc XC hY hE
  obtain ⟨hC, c1, c2, c3, c4, c5, c6⟩ := id hY
  have hR := hC.2.2.2.2.2.2.2.2.2
  refine W.newaK hC.2.1 hC.2.2.1 (c4.w hg (List.mem_singleton.mpr rfl)) rfl hd rfl hn hN (by show N * 1 ≤ _; omega) (by rw [hR]; show cells + 1 ≤ MC; omega) (by rw [hR]; show slots + N ≤ MS; omega) rfl (fun H1 cA e1 e2 e3 e4 => ?_)
  refine z_made (h1 := (h.1 ++ [(12, N, [])], z_zM h.2.1 h.1.length, h.2.2)) (pc' := pc + 2) (en := (12, N, [])) rfl (by simp) (fun j i z => by simp at z) (by simp) (fun a j ha => by simp [z_zM, ha]) (fun _ _ _ => rfl) hY hE hb1 hb2 hrb e2 e3 ?_ k
  refine ⟨fun z => (by simp at z), fun z => (by simp at z), fun z => (by simp at z), fun _ => ?_, fun z => (by simp at z), fun z => (by simp at z), fun z => (by simp at z)⟩
  rw [z_an_s]
  exact (z_arr_new e1 e4).to (fun j _ => by simp [z_zM, newarray.typeOf, defaultValue])
theorem z_newL {n : Int32} {N : Nat} (hd : decode mt.2.1 pc = .ok (.newarray .long, 2)) (hg : GoodIn lw_tbl [.arrayClass .long]) (hn : ¬ n < 0) (hN : n.toNatClampNeg = N) (hNb : N ≤ 100000) (hb1 : 1 ≤ bc) (hb2 : N ≤ bs) (hrb : z_rbB (ls ++ st) h.1.length = true)
    (k : z_AW l mt d (bc - 1) (bs - N) (pc + 2) ls (.ref h.1.length :: st) (h.1 ++ [(13, N, [])], h.2.1, z_zL h.2.2 h.1.length) o h') : z_AW l mt d bc bs pc ls (.int n :: st) h o h' := by
  intro sz0 D ad p e R s m args below meth c H locs cells slots MC MS lsA Qc XC hY hE
  obtain ⟨hC, c1, c2, c3, c4, c5, c6⟩ := id hY
  have hR := hC.2.2.2.2.2.2.2.2.2
  refine W.newaK hC.2.1 hC.2.2.1 (c4.w hg (List.mem_singleton.mpr rfl)) rfl hd rfl hn hN (by show N * 8 ≤ _; omega) (by rw [hR]; show cells + 1 ≤ MC; omega) (by rw [hR]; show slots + N ≤ MS; omega) rfl (fun H1 cA e1 e2 e3 e4 => ?_)
  refine z_made (h1 := (h.1 ++ [(13, N, [])], h.2.1, z_zL h.2.2 h.1.length)) (pc' := pc + 2) (en := (13, N, [])) rfl (by simp) (fun j i z => by simp at z) (by simp) (fun _ _ _ => rfl) (fun a j ha => by simp [z_zL, ha]) hY hE hb1 hb2 hrb e2 e3 ?_ k
  refine ⟨fun z => (by simp at z), fun z => (by simp at z), fun z => (by simp at z), fun z => (by simp at z), fun _ => ?_, fun z => (by simp at z), fun z => (by simp at z)⟩
  rw [z_an_s]
  exact (z_arr_new e1 e4).to (fun j _ => by simp [z_zL, newarray.typeOf, defaultValue])
theorem z_newQ {n : Int32} {N idx : Nat} (hd : decode mt.2.1 pc = .ok (.anewarray idx, 3)) (hg : GoodIn lw_tbl [.classLink mt.1.cls idx "java/lang/String"]) (hn : ¬ n < 0) (hN : n.toNatClampNeg = N) (hNb : N ≤ 100000) (hb1 : 1 ≤ bc) (hb2 : N ≤ bs) (hrb : z_rbB (ls ++ st) h.1.length = true)
    (k : z_AW l mt d (bc - 1) (bs - N) (pc + 3) ls (.ref h.1.length :: st) (h.1 ++ [(14, N, List.replicate N 1)], h.2.1, h.2.2) o h') : z_AW l mt d bc bs pc ls (.int n :: st) h o h' := by
  intro sz0 D ad p e R s m args below meth c H locs cells slots MC MS lsA Qc XC hY hE
  obtain ⟨hC, c1, c2, c3, c4, c5, c6⟩ := id hY
  have hR := hC.2.2.2.2.2.2.2.2.2
  subst hN
  refine W.anew hC.2.1 hC.2.2.1 hC.2.2.2.2.2.1 (c4.w hg (List.mem_singleton.mpr rfl)) (va_AO.use c4.2.2.2.2.2.2.2.1) rfl hd rfl hn (by omega) (by rw [hR]; show cells + 1 ≤ MC; omega) (by rw [hR]; show slots + _ ≤ MS; omega) (fun cA kA comp e1 e2 e3 e4 => ?_)
  have hrep : ∀ j i : Nat, (List.replicate n.toNatClampNeg 1).getD j 0 = i + 2 → False := by
    intro j i z
    rw [List.getD_eq_getElem?_getD, List.getElem?_replicate] at z
    split at z <;> simp at z
  refine z_made (h1 := (h.1 ++ [(14, n.toNatClampNeg, List.replicate n.toNatClampNeg 1)], h.2.1, h.2.2)) (pc' := pc + 3) (en := (14, n.toNatClampNeg, List.replicate n.toNatClampNeg 1)) rfl (by simp) (fun j i z => (hrep j i z).elim) (by simp) (fun _ _ _ => rfl) (fun _ _ _ => rfl) hY hE hb1 hb2 hrb (by simp) (fun a ha => by rw [Array.getElem?_push, if_neg (Nat.ne_of_lt ha)]) ?_ k
  have hce : (H.push { cls := cA, slots := Array.replicate n.toNatClampNeg .null, vm := .none } : Heap)[H.size]? = some { cls := cA, slots := Array.replicate n.toNatClampNeg .null, vm := .none } := by simp
  refine ⟨fun z => (by simp at z), fun z => (by simp at z), fun z => (by simp at z), fun z => (by simp at z), fun z => (by simp at z), fun _ => ?_, fun z => (by simp at z)⟩
  rw [z_an_s]
  refine ⟨⟨_, hce, ⟨fun k q => (by cases q), kA, e2, comp, e3⟩, fun q => (by cases q), (by simp), (by simp), fun j hj => ?_⟩, _, hce, kA, comp, e2, e3, e4, e1⟩
  show (Array.replicate n.toNatClampNeg Value.null)[j]? = _
  have hj' : j < n.toNatClampNeg := hj
  have e9 : (List.replicate n.toNatClampNeg 1).getD j 0 = 1 := by
    rw [List.getD_eq_getElem?_getD, List.getElem?_replicate, if_pos hj']
    rfl
  show _ = some (z_fv h.2.1 (z_an ad h.1.length H.size) h.1.length j (List.replicate n.toNatClampNeg 1))
  unfold z_fv
  rw [e9]
  simp [hj']
/-- the defaults of a class's fields, as positions: 0 a number, 1 null -/
def z_NP (own : String) (idx ci N nsl : Nat) (rs : List Nat) : Prop := ∃ (C : String) (T : u_T) (ty : Nat → FieldType), vwCl[ci]? = some (C, T, N) ∧ GoodIn lw_tbl (.classLink own idx C :: .instantiable C nsl :: .initialized C :: u_ws C T N) ∧ (∀ k, k < N → parseFieldDescriptor (T k).2.2.1 = some (ty k)) ∧ (∀ k, k < N → defaultValue (ty k) = if rs.getD k 0 = 0 then .int 0 else .null) ∧ ∀ k, rs.getD k 0 < 2
theorem z_new {idx ci N nsl : Nat} {rs : List Nat} (hP : z_NP mt.1.cls idx ci N nsl rs) (hd : decode mt.2.1 pc = .ok (.new idx, 3)) (hb1 : 1 ≤ bc) (hb2 : nsl ≤ bs) (hrb : z_rbB (ls ++ st) h.1.length = true)
    (k : z_AW l mt d (bc - 1) (bs - nsl) (pc + 3) ls (.ref h.1.length :: st) (h.1 ++ [(ci, N, rs)], z_zM h.2.1 h.1.length, h.2.2) o h') : z_AW l mt d bc bs pc ls st h o h' := by
  intro sz0 D ad p e R s m args below meth c H locs cells slots MC MS lsA Qc XC hY hE
  obtain ⟨hC, c1, c2, c3, c4, c5, c6⟩ := id hY
  obtain ⟨C, T, ty, hc, hg, hty, hdf, hlt⟩ := hP
  have hR := hC.2.2.2.2.2.2.2.2.2
  have hci : ci < 9 := (List.getElem?_eq_some_iff.mp hc).1
  have hts : ∀ w ∈ u_ws C T N, w.before args s = true := fun w hw => c4.w hg (List.mem_cons_of_mem _ (List.mem_cons_of_mem _ (List.mem_cons_of_mem _ hw)))
  have hK := c4.2.2.2.2.1 ci _ hc
  refine W.newcK hC.2.1 hC.2.2.1 hC.2.2.2.2.2.1 (c4.w hg List.mem_cons_self) (c4.w hg (List.mem_cons_of_mem _ List.mem_cons_self)) (c4.w hg (by simp)) rfl hd (by rw [hR]; show cells + 1 ≤ MC; omega) (by rw [hR]; show slots + nsl ≤ MS; omega) hK.2.1 rfl (fun H1 kC e1 e2 e3 e4 => ?_)
  have hcase : ∀ j, rs.getD j 0 = 0 ∨ rs.getD j 0 = 1 := fun j => by have := hlt j; omega
  refine z_made (h1 := (h.1 ++ [(ci, N, rs)], z_zM h.2.1 h.1.length, h.2.2)) (pc' := pc + 3) (en := (ci, N, rs)) rfl (by show ci ≠ 16; omega) (fun j i z => by have := hlt j; have z' : rs.getD j 0 = i + 2 := z; omega) (by show ci ≠ 15; omega) (fun a j ha => by simp [z_zM, ha]) (fun _ _ _ => rfl) hY hE hb1 hb2 hrb e3 e4 ?_ k
  refine ⟨fun _ => ⟨_, hc, ?_⟩, fun z => ?_, fun z => ?_, fun z => ?_, fun z => ?_, fun z => ?_, fun z => ?_⟩
  · rw [z_an_s]
    have hb := u_born ty hts (fun _ z => z) hK e1 e2 hty
    refine hb.to (fun j hj => ?_)
    rw [hdf j hj]
    unfold z_fv
    rcases hcase j with q | q
    · rw [if_pos q, q]; simp [z_zM]
    · rw [if_neg (by omega), q]
  all_goals (exfalso; revert z; show ci = _ → False; omega)
end ZN
