/-! ===== throwing ===== -/
def z_n1 : List String := ["java/lang/Exception"]
theorem z_cast_w {s : State} {args : Array Value} {q : String × String} (h : ∃ a b, s.vm.findClass q.1 = some a ∧ s.vm.findClass q.2 = some b ∧ s.vm.assignable a b = true) : (Cond.castable q.1 q.2).before args s = true := by
  obtain ⟨a, b, h1, h2, h3⟩ := h
  simp [Cond.before, Cond.holds, Cond.value, h1, h2, h3]
/-- the words of a throw of cls in own, its constructor's place ic, its class's ik -/
def z_TP (own cls : String) (ik ic : Nat) : Prop := ∃ (i1 : Nat) (b1 : ByteArray), decode b1 0 = .ok (.aload_n 0, 1) ∧ decode b1 1 = .ok (.aload_n 1, 1) ∧ decode b1 2 = .ok (.invokespecial i1, 3) ∧ decode b1 5 = .ok (.return_, 1) ∧
  GoodIn lw_tbl (Cond.classLink own ik cls :: Cond.initialized cls :: ((z_atN own ic cls "java/lang/RuntimeException" i1 b1 z_n1).filter vx_no).filter goodWord) ∧ (∀ w ∈ ((z_atN own ic cls "java/lang/RuntimeException" i1 b1 z_n1).filter vx_no).filter (fun w => !goodWord w), w ∈ Cond.castable cls cls :: z_decl.map Cond.declares) ∧ (cls, cls) ∈ z_casts ∧ Bundle.fit cls = true ∧ (∀ n ∈ z_n1, Bundle.fit n = true)
theorem z_tpI : z_TP RX7 "java/lang/IllegalArgumentException" 89 93 := ⟨7, Bundle.six, by decide +kernel, by decide +kernel, by decide +kernel, by decide +kernel, goodIn_of _ (by decide +kernel), by decide +kernel, by decide +kernel, by decide +kernel, by decide +kernel⟩
theorem z_tpN : z_TP RX7 "java/util/NoSuchElementException" 157 161 := ⟨13, prog_27_method_4_code, by decide +kernel, by decide +kernel, by decide +kernel, by decide +kernel, goodIn_of _ (by decide +kernel), by decide +kernel, by decide +kernel, by decide +kernel, by decide +kernel⟩
section ZM
variable {l : Launch} {mt : zMt} {d bc bs pc : Nat} {ls st : List Value} {h h' : zHP} {o : zO}
theorem z_frame {p : Program} {e : Env} {R : Room} {s T : State} {m : MethodId} {args : Array Value} {below : List Frame} {meth : Method} {c : Code} {H : Heap} {locs : List Loc} {cells slots sz0 : Nat} (X : Stand p l e R s m args below meth c T locs cells slots) (hT : T.heap = H) (h3 : ∀ q ∈ locs, sz0 ≤ q.base) : va_S (z_A sz0) s.heap H locs := by
  have hf := vx_frame (s := s) (locs := locs) (U := T) X.same
  rw [hT] at hf
  exact ⟨hf.1, fun q hq hA => hf.2 q hq (fun z hz e => hA (by rw [← e]; exact h3 z hz)), fun z hz => h3 z hz⟩
theorem z_throw {ik ix ic : Nat} {cls text : String} (hP : z_TP mt.1.cls cls ik ic) (hx : (mt.1.cls, ix, text) ∈ z_thr) (hh : mt.2.2.2.2 = []) (hd : 6 ≤ d) (hw : (st.map fun v => v.category).sum ≤ 20) (hbc : 1 ≤ bc) (hbs : 6 ≤ bs)
    (d0 : decode mt.2.1 pc = .ok (.new ik, 3)) (d3 : decode mt.2.1 (pc + 3) = .ok (.dup, 1)) (d4 : decode mt.2.1 (pc + 4) = .ok (.ldc ix, 2)) (d6 : decode mt.2.1 (pc + 6) = .ok (.invokespecial ic, 3)) (d9 : decode mt.2.1 (pc + 9) = .ok (.athrow, 1)) : z_AW l mt d bc bs pc ls st h (.inr cls) h := by
  intro sz0 D ad p e R s m args below meth c H locs cells slots MC MS lsA Qc XC hY hE T hT X
  obtain ⟨hC, h1, h2, h3, h4, h5, h6⟩ := hY
  obtain ⟨i1, b1, s0, s1, s2, s5, g1, g2, g3, g4, g5⟩ := hP
  have hS := z_frame X hT h3
  have hR := hC.2.2.2.2.2.2.2.2.2
  obtain ⟨sa, hsa⟩ := h4.2.2.2.1 _ hx
  have hRc : cells + 1 ≤ R.cells := by rw [hR]; show cells + 1 ≤ MC; omega
  have hRs : slots + 6 ≤ R.slots := by rw [hR]; show slots + 6 ≤ MS; omega
  have htr : e.platform.stackTraces = false := (show e.platform.stackTraces = l.stackTraces by rw [X.admits.platform]).trans hC.1.1
  have Y := vx_rebase X (R' := { frames := R.frames, locals := R.locals, cells := 1, slots := 6 }) (Nat.le_refl _) (Nat.le_refl _) hRc hRs
  obtain ⟨s', hA⟩ : ∃ z, z = (T.setVm s.vm).setFrames (.invoking m args :: below) := ⟨_, rfl⟩
  rw [← hA] at Y
  have hvm : s'.vm = s.vm := by rw [hA]; rfl
  have hhp : s'.heap = H := by rw [hA]; exact hT
  have hW0 : s.WarmedH s'.vm := by rw [hvm]; exact State.WarmedH.refl s
  have T4 : z_Tb D ad s' := h4.warm hW0
  have hU' : vx_Zq Bundle.tN "UNASSIGNED_STACK" Bundle.steD (z_A sz0) s' s'.heap := by rw [hhp]; exact vx_Zq.moved hW0.alike h5.2.2.2.2.2.2.2.1
  have hN' : vx_Zq Bundle.tN "SUPPRESSED_SENTINEL" Bundle.listD (z_A sz0) s' s'.heap := by rw [hhp]; exact vx_Zq.moved hW0.alike h5.2.2.2.2.2.2.2.2
  have hat : ∀ w ∈ (z_atN mt.1.cls ic cls "java/lang/RuntimeException" i1 b1 z_n1).filter vx_no, w.before args s' = true := by
    refine vx_hat (fun w hw => T4.w g1 (List.mem_cons_of_mem _ (List.mem_cons_of_mem _ hw))) g2 (fun w hw => ?_)
    rcases List.mem_cons.mp hw with hw | hw
    · rw [hw]; exact z_cast_w (q := (cls, cls)) (T4.2.2.2.2.2.1 _ g3)
    · obtain ⟨y, hy, rfl⟩ := List.mem_map.mp hw
      exact va_Nw.use rfl (T4.2.2.2.2.2.2.2.2 y hy)
  have hall9 : ∀ w ∈ z_atN mt.1.cls ic cls "java/lang/RuntimeException" i1 b1 z_n1, w.before args s' = true := vx_own hat (vx_isRefq hU'.1) (vx_isRefq hN'.1) hU'.2.word hN'.2.word
  have hown' : s'.vm.findClass mt.1.cls = some m.cls := by rw [hvm]; exact hC.2.2.2.2.2.1
  have hins : (Cond.instantiable cls 6).before args s' = true := hall9 _ (by simp [z_atN])
  obtain ⟨vm₁, cX, kX, hfX, hkX, -, -, X₁, st1⟩ := Y.newCold hC.2.1 (own := mt.1.cls) (C := cls) (index := ik) (n := 6) hown' (T4.w g1 List.mem_cons_self) hins (T4.w g1 (by simp))
    (g := F0 m pc lsA (st.map (z_cv ad))) rfl (by rw [hC.2.2.1]; exact d0) (Nat.le_refl _) (Nat.le_refl _)
  generalize hT1 : (T.setVm vm₁).pushCell { cls := cX, slots := kX.instanceTypes.map defaultValue, vm := .none } = T1 at X₁ st1
  have hcat : (Value.ref T.heap.size).category = 1 := rfl
  have hcellA : T1.heap[T.heap.size]? = some (freshCell cX kX) := by rw [← hT1]; exact State.heap_pushCell_size _ _
  have d3' : decode c.code (pc + 3) = .ok (.dup, 1) := by rw [hC.2.2.1]; exact d3
  have d4' : decode c.code (pc + 4) = .ok (.ldc ix, 2) := by rw [hC.2.2.1]; exact d4
  have hstr' : vk_R mt.1.cls ix text sa s' := vk_R.warm hW0 hsa
  have hsum : ((st.map (z_cv ad)).map fun v => v.category).sum = (st.map fun v => v.category).sum := by
    rw [List.map_map]; congr 1; exact List.map_congr_left fun v _ => z_cv_cat ad v
  obtain ⟨U, hsteps, hrun, hend, hW, hsame, ce, hce, hO1, hO2⟩ := z_ctorN X₁ hC.2.1 htr (own := mt.1.cls) (cls := cls) (Y1 := "java/lang/RuntimeException") (names := z_n1) (ic := ic) (i1 := i1) (b1 := b1) hown' g4 (by decide +kernel) s0 s1 s2 s5 g5 hall9 (fun x hx => nomatch hx) hfX hkX hcellA (by rw [hhp, hT]; exact Nat.le_refl _) (msg := .ref sa) rfl
    (g := { method := m, pc := pc + 6, locals := lsA, stack := .ref sa :: .ref T.heap.size :: .ref T.heap.size :: st.map (z_cv ad), locked := none }) rfl (by rw [hC.2.2.2.1]; exact h6.1) rfl rfl (rest := st.map (z_cv ad)) rfl
    (by rw [hC.2.2.1]; exact d6) (by rw [hC.2.2.1]; exact d9) (by
      intro x hx
      rw [hC.2.2.2.2.2.2.2.1, hh] at hx
      cases hx) (by show 1 + 4 < R.frames; rw [hR]; show 5 < d; omega) (by
      simp only [List.map_cons, List.sum_cons, hcat, hsum]
      rw [hR]
      show 2 * 0 + (1 + (st.map fun v => v.category).sum) + (13 * (1 + 2) + 42) ≤ 64 * d
      omega) hC.2.2.2.2.2.2.1
  obtain ⟨f1, f2⟩ := vx_frame hsame
  rw [hhp] at f1 f2
  have hWs : s.WarmedH U.vm := State.WarmedH.trans hW0 hW
  have hcl : s.vm.findClass cls = some ce.cls := by
    rw [hvm] at hO1
    exact hO1
  have hall : s.sameButNew ({ U with vm := s.vm } : State) locs MC MS := by
    subst hA
    obtain ⟨e1, e2⟩ := hsame
    rw [State.setFrames_setFrames] at e1
    have h2 : (T.setVm s.vm).sameButNew ({ U with vm := s.vm } : State) [] (0 + 1) (0 + 6) := ⟨e1, e2⟩
    have h3 := X.same.trans h2
    rw [List.append_nil] at h3
    exact h3.mono (by omega) (by omega)
  refine ⟨U, ?_, .threw T.heap.size, hrun, hend, Or.inr ⟨T.heap.size, rfl, cls, ce, locs, ?_, hce, hO2, hcl, hWs, hall, h3⟩⟩
  · refine st1 _ ?_
    show Steps p.tables e below (T1.setTop { method := m, pc := pc + 3, locals := lsA, stack := .ref T.heap.size :: st.map (z_cv ad), locked := none }) _
    jvm_step X₁.here [X₁.here.top, hC.2.1, d3', Value.category]
    exact X₁.ldcString hC.2.1 (own := mt.1.cls) (text := text) (index := ix) (a := sa) hown' hstr'.1 hstr'.2
      (g := { method := m, pc := pc + 4, locals := lsA, stack := .ref T.heap.size :: .ref T.heap.size :: st.map (z_cv ad), locked := none }) rfl d4' _ hsteps
  · exact (hE ad U (fun _ _ => rfl) hWs.alike (h5.grow f1 (fun q hq => f2 q hq (fun z hz => nomatch hz)))).2 _ rfl
theorem z_throwW {ik ix ic : Nat} {cls text : String} (hP : z_TP mt.1.cls cls ik ic) (hx : (mt.1.cls, ix, text) ∈ z_thr) (hh : mt.2.2.2.2 = []) (hd : 6 ≤ d) (hw : (st.map fun v => v.category).sum ≤ 20) (hbc : 1 ≤ bc) (hbs : 6 ≤ bs)
    (d0 : decode mt.2.1 pc = .ok (.new ik, 3)) (d3 : decode mt.2.1 (pc + 3) = .ok (.dup, 1)) (d4 : decode mt.2.1 (pc + 4) = .ok (.ldc_w ix, 3)) (d6 : decode mt.2.1 (pc + 7) = .ok (.invokespecial ic, 3)) (d9 : decode mt.2.1 (pc + 10) = .ok (.athrow, 1)) : z_AW l mt d bc bs pc ls st h (.inr cls) h := by
  intro sz0 D ad p e R s m args below meth c H locs cells slots MC MS lsA Qc XC hY hE T hT X
  obtain ⟨hC, h1, h2, h3, h4, h5, h6⟩ := hY
  obtain ⟨i1, b1, s0, s1, s2, s5, g1, g2, g3, g4, g5⟩ := hP
  have hS := z_frame X hT h3
  have hR := hC.2.2.2.2.2.2.2.2.2
  obtain ⟨sa, hsa⟩ := h4.2.2.2.1 _ hx
  have hRc : cells + 1 ≤ R.cells := by rw [hR]; show cells + 1 ≤ MC; omega
  have hRs : slots + 6 ≤ R.slots := by rw [hR]; show slots + 6 ≤ MS; omega
  have htr : e.platform.stackTraces = false := (show e.platform.stackTraces = l.stackTraces by rw [X.admits.platform]).trans hC.1.1
  have Y := vx_rebase X (R' := { frames := R.frames, locals := R.locals, cells := 1, slots := 6 }) (Nat.le_refl _) (Nat.le_refl _) hRc hRs
  obtain ⟨s', hA⟩ : ∃ z, z = (T.setVm s.vm).setFrames (.invoking m args :: below) := ⟨_, rfl⟩
  rw [← hA] at Y
  have hvm : s'.vm = s.vm := by rw [hA]; rfl
  have hhp : s'.heap = H := by rw [hA]; exact hT
  have hW0 : s.WarmedH s'.vm := by rw [hvm]; exact State.WarmedH.refl s
  have T4 : z_Tb D ad s' := h4.warm hW0
  have hU' : vx_Zq Bundle.tN "UNASSIGNED_STACK" Bundle.steD (z_A sz0) s' s'.heap := by rw [hhp]; exact vx_Zq.moved hW0.alike h5.2.2.2.2.2.2.2.1
  have hN' : vx_Zq Bundle.tN "SUPPRESSED_SENTINEL" Bundle.listD (z_A sz0) s' s'.heap := by rw [hhp]; exact vx_Zq.moved hW0.alike h5.2.2.2.2.2.2.2.2
  have hat : ∀ w ∈ (z_atN mt.1.cls ic cls "java/lang/RuntimeException" i1 b1 z_n1).filter vx_no, w.before args s' = true := by
    refine vx_hat (fun w hw => T4.w g1 (List.mem_cons_of_mem _ (List.mem_cons_of_mem _ hw))) g2 (fun w hw => ?_)
    rcases List.mem_cons.mp hw with hw | hw
    · rw [hw]; exact z_cast_w (q := (cls, cls)) (T4.2.2.2.2.2.1 _ g3)
    · obtain ⟨y, hy, rfl⟩ := List.mem_map.mp hw
      exact va_Nw.use rfl (T4.2.2.2.2.2.2.2.2 y hy)
  have hall9 : ∀ w ∈ z_atN mt.1.cls ic cls "java/lang/RuntimeException" i1 b1 z_n1, w.before args s' = true := vx_own hat (vx_isRefq hU'.1) (vx_isRefq hN'.1) hU'.2.word hN'.2.word
  have hown' : s'.vm.findClass mt.1.cls = some m.cls := by rw [hvm]; exact hC.2.2.2.2.2.1
  have hins : (Cond.instantiable cls 6).before args s' = true := hall9 _ (by simp [z_atN])
  obtain ⟨vm₁, cX, kX, hfX, hkX, -, -, X₁, st1⟩ := Y.newCold hC.2.1 (own := mt.1.cls) (C := cls) (index := ik) (n := 6) hown' (T4.w g1 List.mem_cons_self) hins (T4.w g1 (by simp))
    (g := F0 m pc lsA (st.map (z_cv ad))) rfl (by rw [hC.2.2.1]; exact d0) (Nat.le_refl _) (Nat.le_refl _)
  generalize hT1 : (T.setVm vm₁).pushCell { cls := cX, slots := kX.instanceTypes.map defaultValue, vm := .none } = T1 at X₁ st1
  have hcat : (Value.ref T.heap.size).category = 1 := rfl
  have hcellA : T1.heap[T.heap.size]? = some (freshCell cX kX) := by rw [← hT1]; exact State.heap_pushCell_size _ _
  have d3' : decode c.code (pc + 3) = .ok (.dup, 1) := by rw [hC.2.2.1]; exact d3
  have d4' : decode c.code (pc + 4) = .ok (.ldc_w ix, 3) := by rw [hC.2.2.1]; exact d4
  have hstr' : vk_R mt.1.cls ix text sa s' := vk_R.warm hW0 hsa
  have hsum : ((st.map (z_cv ad)).map fun v => v.category).sum = (st.map fun v => v.category).sum := by
    rw [List.map_map]; congr 1; exact List.map_congr_left fun v _ => z_cv_cat ad v
  obtain ⟨U, hsteps, hrun, hend, hW, hsame, ce, hce, hO1, hO2⟩ := z_ctorN X₁ hC.2.1 htr (own := mt.1.cls) (cls := cls) (Y1 := "java/lang/RuntimeException") (names := z_n1) (ic := ic) (i1 := i1) (b1 := b1) hown' g4 (by decide +kernel) s0 s1 s2 s5 g5 hall9 (fun x hx => nomatch hx) hfX hkX hcellA (by rw [hhp, hT]; exact Nat.le_refl _) (msg := .ref sa) rfl
    (g := { method := m, pc := pc + 7, locals := lsA, stack := .ref sa :: .ref T.heap.size :: .ref T.heap.size :: st.map (z_cv ad), locked := none }) rfl (by rw [hC.2.2.2.1]; exact h6.1) rfl rfl (rest := st.map (z_cv ad)) rfl
    (by rw [hC.2.2.1]; exact d6) (by rw [hC.2.2.1]; exact d9) (by
      intro x hx
      rw [hC.2.2.2.2.2.2.2.1, hh] at hx
      cases hx) (by show 1 + 4 < R.frames; rw [hR]; show 5 < d; omega) (by
      simp only [List.map_cons, List.sum_cons, hcat, hsum]
      rw [hR]
      show 2 * 0 + (1 + (st.map fun v => v.category).sum) + (13 * (1 + 2) + 42) ≤ 64 * d
      omega) hC.2.2.2.2.2.2.1
  obtain ⟨f1, f2⟩ := vx_frame hsame
  rw [hhp] at f1 f2
  have hWs : s.WarmedH U.vm := State.WarmedH.trans hW0 hW
  have hcl : s.vm.findClass cls = some ce.cls := by
    rw [hvm] at hO1
    exact hO1
  have hall : s.sameButNew ({ U with vm := s.vm } : State) locs MC MS := by
    subst hA
    obtain ⟨e1, e2⟩ := hsame
    rw [State.setFrames_setFrames] at e1
    have h2 : (T.setVm s.vm).sameButNew ({ U with vm := s.vm } : State) [] (0 + 1) (0 + 6) := ⟨e1, e2⟩
    have h3 := X.same.trans h2
    rw [List.append_nil] at h3
    exact h3.mono (by omega) (by omega)
  refine ⟨U, ?_, .threw T.heap.size, hrun, hend, Or.inr ⟨T.heap.size, rfl, cls, ce, locs, ?_, hce, hO2, hcl, hWs, hall, h3⟩⟩
  · refine st1 _ ?_
    show Steps p.tables e below (T1.setTop { method := m, pc := pc + 3, locals := lsA, stack := .ref T.heap.size :: st.map (z_cv ad), locked := none }) _
    jvm_step X₁.here [X₁.here.top, hC.2.1, d3', Value.category]
    exact X₁.ldcStringW hC.2.1 (own := mt.1.cls) (text := text) (index := ix) (a := sa) hown' hstr'.1 hstr'.2
      (g := { method := m, pc := pc + 4, locals := lsA, stack := .ref T.heap.size :: .ref T.heap.size :: st.map (z_cv ad), locked := none }) rfl d4' _ hsteps
  · exact (hE ad U (fun _ _ => rfl) hWs.alike (h5.grow f1 (fun q hq => f2 q hq (fun z hz => nomatch hz)))).2 _ rfl
end ZM
