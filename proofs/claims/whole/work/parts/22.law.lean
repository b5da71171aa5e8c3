/-! ===== the wrappers, and the law's loop ===== -/
theorem kc_p6 : Int32.ofInt (6) = (6 : Int32) := rfl
theorem en_0 {Ls : Nat} : (z_L0 Ls)[0]? = some (10, Ls, []) := rfl
theorem en_149 {Ls : Nat} : (z_L0 Ls)[149]? = some (13, 1, []) := rfl
def mL_law : zMt := (yL_law, cL_law, 8, (some .boolean), [])
def z_wI (x : Option ((Int32 ⊕ Nat) × zMM)) (Lm : zML) (c0 c1 : Option Int32) : Option (Int32 × zMM × zML) := match x with
  | none => none
  | some (.inl v, M) => some (0, M, z_upL Lm 149 0 v.toInt64)
  | some (.inr e, M) => if e = 0 then c0.map (fun c => (c, M, Lm)) else c1.map (fun c => (c, M, Lm))
def z_wL (x : Option ((Int64 ⊕ Nat) × zMM)) (Lm : zML) (c0 c1 : Option Int32) : Option (Int32 × zMM × zML) := match x with
  | none => none
  | some (.inl v, M) => some (0, M, z_upL Lm 149 0 v)
  | some (.inr e, M) => if e = 0 then c0.map (fun c => (c, M, Lm)) else c1.map (fun c => (c, M, Lm))
def z_bw {β : Type} (x : Option (Int32 × zMM × zML)) (k : Int32 → zMM → zML → Option β) : Option β := match x with
  | none => none
  | some (v, M, Lm) => k v M Lm
theorem z_bw_c {β : Type} {x : Option (Int32 × zMM × zML)} {k : Int32 → zMM → zML → Option β} {r : β} (h : z_bw x k = some r) : ∃ v M Lm, x = some (v, M, Lm) ∧ k v M Lm = some r := by
  match x, h with
  | some (v, M, Lm), h => exact ⟨v, M, Lm, rfl, h⟩
section ZW
variable {l : Launch} {mt mk : zMt} {d bc bs pc : Nat} {ls st stk : List Value} {h h' : zHP} {o : zO}
theorem z_AW.mono {bc' bs' : Nat} (h1 : bc ≤ bc') (h2 : bs ≤ bs') (k : z_AW l mt d bc bs pc ls st h o h') : z_AW l mt d bc' bs' pc ls st h o h' := by
  intro sz0 D ad p e R s m args below meth c H locs cells slots MC MS lsA Qc XC hY hE
  obtain ⟨hC, c1, c2, c3⟩ := hY
  exact k sz0 D ad p e R s m args below meth c H locs cells slots MC MS lsA Qc XC ⟨hC, by omega, by omega, c3⟩ hE
theorem z_cW {idx n : Nat} {av : List Value} {v : Option Value} {h1 : zHP} (hL : z_LW mt.1.cls idx mk n) (hd : decode mt.2.1 pc = .ok (.invokestatic idx, 3)) (hK : z_Ct l mk d 1 6 av h (.inl v) h1) (hstk : stk = av.reverse ++ st) (hav : av.length = n)
    (hw : (st.map fun v => v.category).sum ≤ 20) (hlen : h.1.length = h1.1.length) {KK : Nat} (hKK : h.1.length = KK) (hrb : z_rbB (ls ++ st) KK = true) (hh : mt.2.2.2.2 = []) (k : z_AW l mt (d + 1) bc bs (pc + 3) ls (v.toList ++ st) h1 o h') : z_AW l mt (d + 1) (bc + 1) (bs + 6) pc ls stk h o h' :=
  z_callSW hL hd hK hstk hav hw (Nat.le_of_eq hlen) (by rw [hKK]; exact hrb) (by omega) (by omega) (fun v' hv => by cases hv; rw [Nat.add_sub_cancel, Nat.add_sub_cancel]; exact k) hh (fun E hE => by cases hE)
theorem z_ll0 {r N i : Nat} {rs : List Nat} {x : Int32} {v : Int64} (hd : decode mt.2.1 pc = .ok (.laload, 1)) (he : h.1[r]? = some (13, N, rs)) (hx : x.toNatClampNeg = i) (hin : vp_in x N) (hv : h.2.2 r i = v) (k : z_AW l mt d bc bs (pc + 1) ls (.long v :: st) h o h') : z_AW l mt d bc bs pc ls (.int x :: .ref r :: st) h o h' := by subst hx; subst hv; exact z_laload hd he hin k
theorem z_ls0 {r N i : Nat} {rs : List Nat} {x : Int32} {v : Int64} (hd : decode mt.2.1 pc = .ok (.lastore, 1)) (hr : z_nS ≤ r) (he : h.1[r]? = some (13, N, rs)) (hx : x.toNatClampNeg = i) (hin : vp_in x N) (k : z_AW l mt d bc bs (pc + 1) ls st (h.1, h.2.1, z_upL h.2.2 r i v) o h') : z_AW l mt d bc bs pc ls (.long v :: .int x :: .ref r :: st) h o h' := by subst hx; exact z_lastore hd hr he hin k
end ZW
def f_L_told (x1 : Int32) (M : zMM) (Lm : zML) : Option (Int32 × zMM × zML) := z_wI (f_X7_told_51 x1 M) Lm none (some 1)
theorem A_L_told {l : Launch} (hl : l.stackTraces = false) {Ls d : Nat} {x1 : Int32} {M M' : zMM} {Lm Lm' : zML} {v : Int32} (h : f_L_told x1 M Lm = some (v, M', Lm')) : z_Ct l mL_told (d + 10) 1 6 [.ref 51, .int x1, .ref 149] (z_L0 Ls, M, Lm) (.inl (some (.int v))) (z_L0 Ls, M', Lm') := by
  replace h : z_wI (f_X7_told_51 x1 M) Lm none (some 1) = some (v, M', Lm') := h
  refine z_Ct.of hl (by decide) (Nat.le_of_ble_eq_true rfl) rfl ?_
  show z_AW l mL_told (d + 10) 1 6 0 [.ref 51, .int x1, .ref 149, .null] [] (z_L0 Ls, M, Lm) (.inl (some (.int v))) (z_L0 Ls, M', Lm')
  refine z_aload_n dL_told_0 rfl ?_
  refine z_ic kc_p0 dL_told_1 ?_
  refine z_aload_n dL_told_2 rfl ?_
  refine z_iload_n dL_told_3 rfl ?_
  cases hc : (f_X7_told_51 x1 M) with
  | none => rw [hc] at h; cases h
  | some r =>
    obtain ⟨w, M1⟩ := r
    rw [hc] at h
    cases w with
    | inl w =>
      cases h
      refine z_callVc (av := [.int x1]) (st := [.int (0 : Int32), .ref 149]) lk_L_7 dL_told_4 (z_ti (A_X7_told_51 (d := d) hl hc)) rfl rfl en_51 rfl (Nat.le_of_ble_eq_true rfl) (Nat.le_refl _) (by rw [z_len]; rfl) (Nat.zero_le _) (Nat.zero_le _) (fun v' hv => ?_) (fun E hE => by cases hE)
      cases hv
      show z_AW l mL_told (d + 10) 1 6 7 [.ref 51, .int x1, .ref 149, .null] [.int w, .int (0 : Int32), .ref 149] (z_L0 Ls, _, _) _ _
      refine z_i2l dL_told_7 ?_
      refine z_ls0 dL_told_8 (by decide) en_149 kn_p0 (z_ib_in rfl) ?_
      refine z_goto (tgt := 15) dL_told_9 rfl ?_
      refine z_ic kc_p0 dL_told_15 ?_
      exact z_rI dL_told_16 rfl
    | inr e =>
      replace h : (if e = 0 then (none : Option Int32).map (fun c => (c, M1, Lm)) else ((some 1) : Option Int32).map (fun c => (c, M1, Lm))) = some (v, M', Lm') := h
      by_cases he : e = 0
      · rw [if_pos he] at h
        have hE0 : z_ex e = "java/util/NoSuchElementException" := if_pos he
        cases h
      · rw [if_neg he] at h
        have hE0 : z_ex e = "java/lang/IllegalArgumentException" := if_neg he
        cases h
        refine z_callVc (av := [.int x1]) (st := [.int (0 : Int32), .ref 149]) lk_L_7 dL_told_4 (A_X7_told_51 (d := d) hl hc) rfl rfl en_51 rfl (Nat.le_of_ble_eq_true rfl) (Nat.le_refl _) (by rw [z_len]; rfl) (Nat.le_refl _) (Nat.le_refl _) (fun v' hv => by cases hv) (fun E hE => ?_)
        have hE1 : E = "java/lang/IllegalArgumentException" := by rw [← hE0]; exact (Sum.inr.inj hE).symm
        subst hE1
        refine ⟨12, 3, 1, ⟨[], _, _, rfl, rfl, rfl, by decide, ⟨_, nw_L_13, by decide⟩, (fun y hy => by cases hy)⟩, Or.inr ⟨3, rfl, dL_told_12, rfl⟩, by decide, ?_⟩
        show z_AW l mL_told (d + 10) 0 0 13 [.ref 51, .int x1, .ref 149, .null] [] (z_L0 Ls, _, _) _ _
        refine z_ic kc_p1 dL_told_13 ?_
        exact z_rI dL_told_14 rfl
def f_L_count (x1 : Int32) (M : zMM) (Lm : zML) : Option (Int32 × zMM × zML) := z_wI (f_X7_count_51 x1 M) Lm (some 1) none
theorem A_L_count {l : Launch} (hl : l.stackTraces = false) {Ls d : Nat} {x1 : Int32} {M M' : zMM} {Lm Lm' : zML} {v : Int32} (h : f_L_count x1 M Lm = some (v, M', Lm')) : z_Ct l mL_count (d + 7) 1 6 [.ref 51, .int x1, .ref 149] (z_L0 Ls, M, Lm) (.inl (some (.int v))) (z_L0 Ls, M', Lm') := by
  replace h : z_wI (f_X7_count_51 x1 M) Lm (some 1) none = some (v, M', Lm') := h
  refine z_Ct.of hl (by decide) (Nat.le_of_ble_eq_true rfl) rfl ?_
  show z_AW l mL_count (d + 7) 1 6 0 [.ref 51, .int x1, .ref 149, .null] [] (z_L0 Ls, M, Lm) (.inl (some (.int v))) (z_L0 Ls, M', Lm')
  refine z_aload_n dL_count_0 rfl ?_
  refine z_ic kc_p0 dL_count_1 ?_
  refine z_aload_n dL_count_2 rfl ?_
  refine z_iload_n dL_count_3 rfl ?_
  cases hc : (f_X7_count_51 x1 M) with
  | none => rw [hc] at h; cases h
  | some r =>
    obtain ⟨w, M1⟩ := r
    rw [hc] at h
    cases w with
    | inl w =>
      cases h
      refine z_callVc (av := [.int x1]) (st := [.int (0 : Int32), .ref 149]) lk_L_15 dL_count_4 (z_ti (A_X7_count_51 (d := d) hl hc)) rfl rfl en_51 rfl (Nat.le_of_ble_eq_true rfl) (Nat.le_refl _) (by rw [z_len]; rfl) (Nat.zero_le _) (Nat.zero_le _) (fun v' hv => ?_) (fun E hE => by cases hE)
      cases hv
      show z_AW l mL_count (d + 7) 1 6 7 [.ref 51, .int x1, .ref 149, .null] [.int w, .int (0 : Int32), .ref 149] (z_L0 Ls, _, _) _ _
      refine z_i2l dL_count_7 ?_
      refine z_ls0 dL_count_8 (by decide) en_149 kn_p0 (z_ib_in rfl) ?_
      refine z_goto (tgt := 15) dL_count_9 rfl ?_
      refine z_ic kc_p0 dL_count_15 ?_
      exact z_rI dL_count_16 rfl
    | inr e =>
      replace h : (if e = 0 then ((some 1) : Option Int32).map (fun c => (c, M1, Lm)) else (none : Option Int32).map (fun c => (c, M1, Lm))) = some (v, M', Lm') := h
      by_cases he : e = 0
      · rw [if_pos he] at h
        have hE0 : z_ex e = "java/util/NoSuchElementException" := if_pos he
        cases h
        refine z_callVc (av := [.int x1]) (st := [.int (0 : Int32), .ref 149]) lk_L_15 dL_count_4 (A_X7_count_51 (d := d) hl hc) rfl rfl en_51 rfl (Nat.le_of_ble_eq_true rfl) (Nat.le_refl _) (by rw [z_len]; rfl) (Nat.le_refl _) (Nat.le_refl _) (fun v' hv => by cases hv) (fun E hE => ?_)
        have hE1 : E = "java/util/NoSuchElementException" := by rw [← hE0]; exact (Sum.inr.inj hE).symm
        subst hE1
        refine ⟨12, 3, 1, ⟨[], _, _, rfl, rfl, rfl, by decide, ⟨_, nw_L_18, by decide⟩, (fun y hy => by cases hy)⟩, Or.inr ⟨3, rfl, dL_count_12, rfl⟩, by decide, ?_⟩
        show z_AW l mL_count (d + 7) 0 0 13 [.ref 51, .int x1, .ref 149, .null] [] (z_L0 Ls, _, _) _ _
        refine z_ic kc_p1 dL_count_13 ?_
        exact z_rI dL_count_14 rfl
      · rw [if_neg he] at h
        have hE0 : z_ex e = "java/lang/IllegalArgumentException" := if_neg he
        cases h
def f_L_town (x1 : Int32) (x2 : Int32) (M : zMM) (Lm : zML) : Option (Int32 × zMM × zML) := z_wI (f_X7_town_51 x1 x2 M) Lm (some 1) none
theorem A_L_town {l : Launch} (hl : l.stackTraces = false) {Ls d : Nat} {x1 x2 : Int32} {M M' : zMM} {Lm Lm' : zML} {v : Int32} (h : f_L_town x1 x2 M Lm = some (v, M', Lm')) : z_Ct l mL_town (d + 8) 1 6 [.ref 51, .int x1, .int x2, .ref 149] (z_L0 Ls, M, Lm) (.inl (some (.int v))) (z_L0 Ls, M', Lm') := by
  replace h : z_wI (f_X7_town_51 x1 x2 M) Lm (some 1) none = some (v, M', Lm') := h
  refine z_Ct.of hl (by decide) (Nat.le_of_ble_eq_true rfl) rfl ?_
  show z_AW l mL_town (d + 8) 1 6 0 [.ref 51, .int x1, .int x2, .ref 149, .null] [] (z_L0 Ls, M, Lm) (.inl (some (.int v))) (z_L0 Ls, M', Lm')
  refine z_aload_n dL_town_0 rfl ?_
  refine z_ic kc_p0 dL_town_1 ?_
  refine z_aload_n dL_town_2 rfl ?_
  refine z_iload_n dL_town_3 rfl ?_
  refine z_iload_n dL_town_4 rfl ?_
  cases hc : (f_X7_town_51 x1 x2 M) with
  | none => rw [hc] at h; cases h
  | some r =>
    obtain ⟨w, M1⟩ := r
    rw [hc] at h
    cases w with
    | inl w =>
      cases h
      refine z_callVc (av := [.int x1, .int x2]) (st := [.int (0 : Int32), .ref 149]) lk_L_20 dL_town_5 (z_ti (A_X7_town_51 (d := d) hl hc)) rfl rfl en_51 rfl (Nat.le_of_ble_eq_true rfl) (Nat.le_refl _) (by rw [z_len]; rfl) (Nat.zero_le _) (Nat.zero_le _) (fun v' hv => ?_) (fun E hE => by cases hE)
      cases hv
      show z_AW l mL_town (d + 8) 1 6 8 [.ref 51, .int x1, .int x2, .ref 149, .null] [.int w, .int (0 : Int32), .ref 149] (z_L0 Ls, _, _) _ _
      refine z_i2l dL_town_8 ?_
      refine z_ls0 dL_town_9 (by decide) en_149 kn_p0 (z_ib_in rfl) ?_
      refine z_goto (tgt := 17) dL_town_10 rfl ?_
      refine z_ic kc_p0 dL_town_17 ?_
      exact z_rI dL_town_18 rfl
    | inr e =>
      replace h : (if e = 0 then ((some 1) : Option Int32).map (fun c => (c, M1, Lm)) else (none : Option Int32).map (fun c => (c, M1, Lm))) = some (v, M', Lm') := h
      by_cases he : e = 0
      · rw [if_pos he] at h
        have hE0 : z_ex e = "java/util/NoSuchElementException" := if_pos he
        cases h
        refine z_callVc (av := [.int x1, .int x2]) (st := [.int (0 : Int32), .ref 149]) lk_L_20 dL_town_5 (A_X7_town_51 (d := d) hl hc) rfl rfl en_51 rfl (Nat.le_of_ble_eq_true rfl) (Nat.le_refl _) (by rw [z_len]; rfl) (Nat.le_refl _) (Nat.le_refl _) (fun v' hv => by cases hv) (fun E hE => ?_)
        have hE1 : E = "java/util/NoSuchElementException" := by rw [← hE0]; exact (Sum.inr.inj hE).symm
        subst hE1
        refine ⟨13, 4, 2, ⟨[], _, _, rfl, rfl, rfl, by decide, ⟨_, nw_L_18, by decide⟩, (fun y hy => by cases hy)⟩, Or.inl ⟨dL_town_13, rfl⟩, by decide, ?_⟩
        show z_AW l mL_town (d + 8) 0 0 15 [.ref 51, .int x1, .int x2, .ref 149, .null] [] (z_L0 Ls, _, _) _ _
        refine z_ic kc_p1 dL_town_15 ?_
        exact z_rI dL_town_16 rfl
      · rw [if_neg he] at h
        have hE0 : z_ex e = "java/lang/IllegalArgumentException" := if_neg he
        cases h
def f_L_trunk (x1 : Int32) (x2 : Int32) (M : zMM) (Lm : zML) : Option (Int32 × zMM × zML) := z_wI (f_X7_trunk_51 x1 x2 M) Lm (some 1) none
theorem A_L_trunk {l : Launch} (hl : l.stackTraces = false) {Ls d : Nat} {x1 x2 : Int32} {M M' : zMM} {Lm Lm' : zML} {v : Int32} (h : f_L_trunk x1 x2 M Lm = some (v, M', Lm')) : z_Ct l mL_trunk (d + 8) 1 6 [.ref 51, .int x1, .int x2, .ref 149] (z_L0 Ls, M, Lm) (.inl (some (.int v))) (z_L0 Ls, M', Lm') := by
  replace h : z_wI (f_X7_trunk_51 x1 x2 M) Lm (some 1) none = some (v, M', Lm') := h
  refine z_Ct.of hl (by decide) (Nat.le_of_ble_eq_true rfl) rfl ?_
  show z_AW l mL_trunk (d + 8) 1 6 0 [.ref 51, .int x1, .int x2, .ref 149, .null] [] (z_L0 Ls, M, Lm) (.inl (some (.int v))) (z_L0 Ls, M', Lm')
  refine z_aload_n dL_trunk_0 rfl ?_
  refine z_ic kc_p0 dL_trunk_1 ?_
  refine z_aload_n dL_trunk_2 rfl ?_
  refine z_iload_n dL_trunk_3 rfl ?_
  refine z_iload_n dL_trunk_4 rfl ?_
  cases hc : (f_X7_trunk_51 x1 x2 M) with
  | none => rw [hc] at h; cases h
  | some r =>
    obtain ⟨w, M1⟩ := r
    rw [hc] at h
    cases w with
    | inl w =>
      cases h
      refine z_callVc (av := [.int x1, .int x2]) (st := [.int (0 : Int32), .ref 149]) lk_L_24 dL_trunk_5 (z_ti (A_X7_trunk_51 (d := d) hl hc)) rfl rfl en_51 rfl (Nat.le_of_ble_eq_true rfl) (Nat.le_refl _) (by rw [z_len]; rfl) (Nat.zero_le _) (Nat.zero_le _) (fun v' hv => ?_) (fun E hE => by cases hE)
      cases hv
      show z_AW l mL_trunk (d + 8) 1 6 8 [.ref 51, .int x1, .int x2, .ref 149, .null] [.int w, .int (0 : Int32), .ref 149] (z_L0 Ls, _, _) _ _
      refine z_i2l dL_trunk_8 ?_
      refine z_ls0 dL_trunk_9 (by decide) en_149 kn_p0 (z_ib_in rfl) ?_
      refine z_goto (tgt := 17) dL_trunk_10 rfl ?_
      refine z_ic kc_p0 dL_trunk_17 ?_
      exact z_rI dL_trunk_18 rfl
    | inr e =>
      replace h : (if e = 0 then ((some 1) : Option Int32).map (fun c => (c, M1, Lm)) else (none : Option Int32).map (fun c => (c, M1, Lm))) = some (v, M', Lm') := h
      by_cases he : e = 0
      · rw [if_pos he] at h
        have hE0 : z_ex e = "java/util/NoSuchElementException" := if_pos he
        cases h
        refine z_callVc (av := [.int x1, .int x2]) (st := [.int (0 : Int32), .ref 149]) lk_L_24 dL_trunk_5 (A_X7_trunk_51 (d := d) hl hc) rfl rfl en_51 rfl (Nat.le_of_ble_eq_true rfl) (Nat.le_refl _) (by rw [z_len]; rfl) (Nat.le_refl _) (Nat.le_refl _) (fun v' hv => by cases hv) (fun E hE => ?_)
        have hE1 : E = "java/util/NoSuchElementException" := by rw [← hE0]; exact (Sum.inr.inj hE).symm
        subst hE1
        refine ⟨13, 4, 2, ⟨[], _, _, rfl, rfl, rfl, by decide, ⟨_, nw_L_18, by decide⟩, (fun y hy => by cases hy)⟩, Or.inl ⟨dL_trunk_13, rfl⟩, by decide, ?_⟩
        show z_AW l mL_trunk (d + 8) 0 0 15 [.ref 51, .int x1, .int x2, .ref 149, .null] [] (z_L0 Ls, _, _) _ _
        refine z_ic kc_p1 dL_trunk_15 ?_
        exact z_rI dL_trunk_16 rfl
      · rw [if_neg he] at h
        have hE0 : z_ex e = "java/lang/IllegalArgumentException" := if_neg he
        cases h
def f_L_way (x1 : Int32) (x2 : Int32) (M : zMM) (Lm : zML) : Option (Int32 × zMM × zML) := z_wI (f_X7_way_51 x1 x2 M) Lm (some 1) none
theorem A_L_way {l : Launch} (hl : l.stackTraces = false) {Ls d : Nat} {x1 x2 : Int32} {M M' : zMM} {Lm Lm' : zML} {v : Int32} (h : f_L_way x1 x2 M Lm = some (v, M', Lm')) : z_Ct l mL_way (d + 8) 1 6 [.ref 51, .int x1, .int x2, .ref 149] (z_L0 Ls, M, Lm) (.inl (some (.int v))) (z_L0 Ls, M', Lm') := by
  replace h : z_wI (f_X7_way_51 x1 x2 M) Lm (some 1) none = some (v, M', Lm') := h
  refine z_Ct.of hl (by decide) (Nat.le_of_ble_eq_true rfl) rfl ?_
  show z_AW l mL_way (d + 8) 1 6 0 [.ref 51, .int x1, .int x2, .ref 149, .null] [] (z_L0 Ls, M, Lm) (.inl (some (.int v))) (z_L0 Ls, M', Lm')
  refine z_aload_n dL_way_0 rfl ?_
  refine z_ic kc_p0 dL_way_1 ?_
  refine z_aload_n dL_way_2 rfl ?_
  refine z_iload_n dL_way_3 rfl ?_
  refine z_iload_n dL_way_4 rfl ?_
  cases hc : (f_X7_way_51 x1 x2 M) with
  | none => rw [hc] at h; cases h
  | some r =>
    obtain ⟨w, M1⟩ := r
    rw [hc] at h
    cases w with
    | inl w =>
      cases h
      refine z_callVc (av := [.int x1, .int x2]) (st := [.int (0 : Int32), .ref 149]) lk_L_27 dL_way_5 (z_ti (A_X7_way_51 (d := d) hl hc)) rfl rfl en_51 rfl (Nat.le_of_ble_eq_true rfl) (Nat.le_refl _) (by rw [z_len]; rfl) (Nat.zero_le _) (Nat.zero_le _) (fun v' hv => ?_) (fun E hE => by cases hE)
      cases hv
      show z_AW l mL_way (d + 8) 1 6 8 [.ref 51, .int x1, .int x2, .ref 149, .null] [.int w, .int (0 : Int32), .ref 149] (z_L0 Ls, _, _) _ _
      refine z_i2l dL_way_8 ?_
      refine z_ls0 dL_way_9 (by decide) en_149 kn_p0 (z_ib_in rfl) ?_
      refine z_goto (tgt := 17) dL_way_10 rfl ?_
      refine z_ic kc_p0 dL_way_17 ?_
      exact z_rI dL_way_18 rfl
    | inr e =>
      replace h : (if e = 0 then ((some 1) : Option Int32).map (fun c => (c, M1, Lm)) else (none : Option Int32).map (fun c => (c, M1, Lm))) = some (v, M', Lm') := h
      by_cases he : e = 0
      · rw [if_pos he] at h
        have hE0 : z_ex e = "java/util/NoSuchElementException" := if_pos he
        cases h
        refine z_callVc (av := [.int x1, .int x2]) (st := [.int (0 : Int32), .ref 149]) lk_L_27 dL_way_5 (A_X7_way_51 (d := d) hl hc) rfl rfl en_51 rfl (Nat.le_of_ble_eq_true rfl) (Nat.le_refl _) (by rw [z_len]; rfl) (Nat.le_refl _) (Nat.le_refl _) (fun v' hv => by cases hv) (fun E hE => ?_)
        have hE1 : E = "java/util/NoSuchElementException" := by rw [← hE0]; exact (Sum.inr.inj hE).symm
        subst hE1
        refine ⟨13, 4, 2, ⟨[], _, _, rfl, rfl, rfl, by decide, ⟨_, nw_L_18, by decide⟩, (fun y hy => by cases hy)⟩, Or.inl ⟨dL_way_13, rfl⟩, by decide, ?_⟩
        show z_AW l mL_way (d + 8) 0 0 15 [.ref 51, .int x1, .int x2, .ref 149, .null] [] (z_L0 Ls, _, _) _ _
        refine z_ic kc_p1 dL_way_15 ?_
        exact z_rI dL_way_16 rfl
      · rw [if_neg he] at h
        have hE0 : z_ex e = "java/lang/IllegalArgumentException" := if_neg he
        cases h
def f_L_price (x1 : Int32) (x2 : Int32) (x3 : Int32) (M : zMM) (Lm : zML) : Option (Int32 × zMM × zML) := z_wI (f_X7_price_51 x1 x2 x3 M) Lm (some 1) (some 2)
theorem A_L_price {l : Launch} (hl : l.stackTraces = false) {Ls d : Nat} {x1 x2 x3 : Int32} {M M' : zMM} {Lm Lm' : zML} {v : Int32} (h : f_L_price x1 x2 x3 M Lm = some (v, M', Lm')) : z_Ct l mL_price (d + 8) 1 6 [.ref 51, .int x1, .int x2, .int x3, .ref 149] (z_L0 Ls, M, Lm) (.inl (some (.int v))) (z_L0 Ls, M', Lm') := by
  replace h : z_wI (f_X7_price_51 x1 x2 x3 M) Lm (some 1) (some 2) = some (v, M', Lm') := h
  refine z_Ct.of hl (by decide) (Nat.le_of_ble_eq_true rfl) rfl ?_
  show z_AW l mL_price (d + 8) 1 6 0 [.ref 51, .int x1, .int x2, .int x3, .ref 149, .null] [] (z_L0 Ls, M, Lm) (.inl (some (.int v))) (z_L0 Ls, M', Lm')
  refine z_aload dL_price_0 rfl ?_
  refine z_ic kc_p0 dL_price_2 ?_
  refine z_aload_n dL_price_3 rfl ?_
  refine z_iload_n dL_price_4 rfl ?_
  refine z_iload_n dL_price_5 rfl ?_
  refine z_iload_n dL_price_6 rfl ?_
  cases hc : (f_X7_price_51 x1 x2 x3 M) with
  | none => rw [hc] at h; cases h
  | some r =>
    obtain ⟨w, M1⟩ := r
    rw [hc] at h
    cases w with
    | inl w =>
      cases h
      refine z_callVc (av := [.int x1, .int x2, .int x3]) (st := [.int (0 : Int32), .ref 149]) lk_L_30 dL_price_7 (z_ti (A_X7_price_51 (d := d) hl hc)) rfl rfl en_51 rfl (Nat.le_of_ble_eq_true rfl) (Nat.le_refl _) (by rw [z_len]; rfl) (Nat.zero_le _) (Nat.zero_le _) (fun v' hv => ?_) (fun E hE => by cases hE)
      cases hv
      show z_AW l mL_price (d + 8) 1 6 10 [.ref 51, .int x1, .int x2, .int x3, .ref 149, .null] [.int w, .int (0 : Int32), .ref 149] (z_L0 Ls, _, _) _ _
      refine z_i2l dL_price_10 ?_
      refine z_ls0 dL_price_11 (by decide) en_149 kn_p0 (z_ib_in rfl) ?_
      refine z_goto (tgt := 23) dL_price_12 rfl ?_
      refine z_ic kc_p0 dL_price_23 ?_
      exact z_rI dL_price_24 rfl
    | inr e =>
      replace h : (if e = 0 then ((some 1) : Option Int32).map (fun c => (c, M1, Lm)) else ((some 2) : Option Int32).map (fun c => (c, M1, Lm))) = some (v, M', Lm') := h
      by_cases he : e = 0
      · rw [if_pos he] at h
        have hE0 : z_ex e = "java/util/NoSuchElementException" := if_pos he
        cases h
        refine z_callVc (av := [.int x1, .int x2, .int x3]) (st := [.int (0 : Int32), .ref 149]) lk_L_30 dL_price_7 (A_X7_price_51 (d := d) hl hc) rfl rfl en_51 rfl (Nat.le_of_ble_eq_true rfl) (Nat.le_refl _) (by rw [z_len]; rfl) (Nat.le_refl _) (Nat.le_refl _) (fun v' hv => by cases hv) (fun E hE => ?_)
        have hE1 : E = "java/util/NoSuchElementException" := by rw [← hE0]; exact (Sum.inr.inj hE).symm
        subst hE1
        refine ⟨15, 5, 2, ⟨[], _, _, rfl, rfl, rfl, by decide, ⟨_, nw_L_18, by decide⟩, (fun y hy => by cases hy)⟩, Or.inl ⟨dL_price_15, rfl⟩, by decide, ?_⟩
        show z_AW l mL_price (d + 8) 0 0 17 [.ref 51, .int x1, .int x2, .int x3, .ref 149, .null] [] (z_L0 Ls, _, _) _ _
        refine z_ic kc_p1 dL_price_17 ?_
        exact z_rI dL_price_18 rfl
      · rw [if_neg he] at h
        have hE0 : z_ex e = "java/lang/IllegalArgumentException" := if_neg he
        cases h
        refine z_callVc (av := [.int x1, .int x2, .int x3]) (st := [.int (0 : Int32), .ref 149]) lk_L_30 dL_price_7 (A_X7_price_51 (d := d) hl hc) rfl rfl en_51 rfl (Nat.le_of_ble_eq_true rfl) (Nat.le_refl _) (by rw [z_len]; rfl) (Nat.le_refl _) (Nat.le_refl _) (fun v' hv => by cases hv) (fun E hE => ?_)
        have hE1 : E = "java/lang/IllegalArgumentException" := by rw [← hE0]; exact (Sum.inr.inj hE).symm
        subst hE1
        refine ⟨19, 5, 2, ⟨[_], _, _, rfl, rfl, rfl, by decide, ⟨_, nw_L_13, by decide⟩, (fun y hy => by cases hy with | head => exact ⟨by decide, _, nw_L_18, by decide⟩ | tail _ q => cases q)⟩, Or.inl ⟨dL_price_19, rfl⟩, by decide, ?_⟩
        show z_AW l mL_price (d + 8) 0 0 21 [.ref 51, .int x1, .int x2, .int x3, .ref 149, .null] [] (z_L0 Ls, _, _) _ _
        refine z_ic kc_p2 dL_price_21 ?_
        exact z_rI dL_price_22 rfl
def f_L_filled (x1 : Int32) (x2 : Int32) (x3 : Int32) (M : zMM) (Lm : zML) : Option (Int32 × zMM × zML) := z_wI (f_X7_filled_51 x1 x2 x3 M) Lm (some 1) none
theorem A_L_filled {l : Launch} (hl : l.stackTraces = false) {Ls d : Nat} {x1 x2 x3 : Int32} {M M' : zMM} {Lm Lm' : zML} {v : Int32} (h : f_L_filled x1 x2 x3 M Lm = some (v, M', Lm')) : z_Ct l mL_filled (d + 8) 1 6 [.ref 51, .int x1, .int x2, .int x3, .ref 149] (z_L0 Ls, M, Lm) (.inl (some (.int v))) (z_L0 Ls, M', Lm') := by
  replace h : z_wI (f_X7_filled_51 x1 x2 x3 M) Lm (some 1) none = some (v, M', Lm') := h
  refine z_Ct.of hl (by decide) (Nat.le_of_ble_eq_true rfl) rfl ?_
  show z_AW l mL_filled (d + 8) 1 6 0 [.ref 51, .int x1, .int x2, .int x3, .ref 149, .null] [] (z_L0 Ls, M, Lm) (.inl (some (.int v))) (z_L0 Ls, M', Lm')
  refine z_aload dL_filled_0 rfl ?_
  refine z_ic kc_p0 dL_filled_2 ?_
  refine z_aload_n dL_filled_3 rfl ?_
  refine z_iload_n dL_filled_4 rfl ?_
  refine z_iload_n dL_filled_5 rfl ?_
  refine z_iload_n dL_filled_6 rfl ?_
  cases hc : (f_X7_filled_51 x1 x2 x3 M) with
  | none => rw [hc] at h; cases h
  | some r =>
    obtain ⟨w, M1⟩ := r
    rw [hc] at h
    cases w with
    | inl w =>
      cases h
      refine z_callVc (av := [.int x1, .int x2, .int x3]) (st := [.int (0 : Int32), .ref 149]) lk_L_34 dL_filled_7 (z_ti (A_X7_filled_51 (d := d) hl hc)) rfl rfl en_51 rfl (Nat.le_of_ble_eq_true rfl) (Nat.le_refl _) (by rw [z_len]; rfl) (Nat.zero_le _) (Nat.zero_le _) (fun v' hv => ?_) (fun E hE => by cases hE)
      cases hv
      show z_AW l mL_filled (d + 8) 1 6 10 [.ref 51, .int x1, .int x2, .int x3, .ref 149, .null] [.int w, .int (0 : Int32), .ref 149] (z_L0 Ls, _, _) _ _
      refine z_i2l dL_filled_10 ?_
      refine z_ls0 dL_filled_11 (by decide) en_149 kn_p0 (z_ib_in rfl) ?_
      refine z_goto (tgt := 19) dL_filled_12 rfl ?_
      refine z_ic kc_p0 dL_filled_19 ?_
      exact z_rI dL_filled_20 rfl
    | inr e =>
      replace h : (if e = 0 then ((some 1) : Option Int32).map (fun c => (c, M1, Lm)) else (none : Option Int32).map (fun c => (c, M1, Lm))) = some (v, M', Lm') := h
      by_cases he : e = 0
      · rw [if_pos he] at h
        have hE0 : z_ex e = "java/util/NoSuchElementException" := if_pos he
        cases h
        refine z_callVc (av := [.int x1, .int x2, .int x3]) (st := [.int (0 : Int32), .ref 149]) lk_L_34 dL_filled_7 (A_X7_filled_51 (d := d) hl hc) rfl rfl en_51 rfl (Nat.le_of_ble_eq_true rfl) (Nat.le_refl _) (by rw [z_len]; rfl) (Nat.le_refl _) (Nat.le_refl _) (fun v' hv => by cases hv) (fun E hE => ?_)
        have hE1 : E = "java/util/NoSuchElementException" := by rw [← hE0]; exact (Sum.inr.inj hE).symm
        subst hE1
        refine ⟨15, 5, 2, ⟨[], _, _, rfl, rfl, rfl, by decide, ⟨_, nw_L_18, by decide⟩, (fun y hy => by cases hy)⟩, Or.inl ⟨dL_filled_15, rfl⟩, by decide, ?_⟩
        show z_AW l mL_filled (d + 8) 0 0 17 [.ref 51, .int x1, .int x2, .int x3, .ref 149, .null] [] (z_L0 Ls, _, _) _ _
        refine z_ic kc_p1 dL_filled_17 ?_
        exact z_rI dL_filled_18 rfl
      · rw [if_neg he] at h
        have hE0 : z_ex e = "java/lang/IllegalArgumentException" := if_neg he
        cases h
def f_L_tonight (x1 : Int32) (x2 : Int32) (M : zMM) (Lm : zML) : Option (Int32 × zMM × zML) := z_wI (f_X7_tonight_51 x1 x2 M) Lm (some 1) none
theorem A_L_tonight {l : Launch} (hl : l.stackTraces = false) {Ls d : Nat} {x1 x2 : Int32} {M M' : zMM} {Lm Lm' : zML} {v : Int32} (h : f_L_tonight x1 x2 M Lm = some (v, M', Lm')) : z_Ct l mL_tonight (d + 8) 1 6 [.ref 51, .int x1, .int x2, .ref 149] (z_L0 Ls, M, Lm) (.inl (some (.int v))) (z_L0 Ls, M', Lm') := by
  replace h : z_wI (f_X7_tonight_51 x1 x2 M) Lm (some 1) none = some (v, M', Lm') := h
  refine z_Ct.of hl (by decide) (Nat.le_of_ble_eq_true rfl) rfl ?_
  show z_AW l mL_tonight (d + 8) 1 6 0 [.ref 51, .int x1, .int x2, .ref 149, .null] [] (z_L0 Ls, M, Lm) (.inl (some (.int v))) (z_L0 Ls, M', Lm')
  refine z_aload_n dL_tonight_0 rfl ?_
  refine z_ic kc_p0 dL_tonight_1 ?_
  refine z_aload_n dL_tonight_2 rfl ?_
  refine z_iload_n dL_tonight_3 rfl ?_
  refine z_iload_n dL_tonight_4 rfl ?_
  cases hc : (f_X7_tonight_51 x1 x2 M) with
  | none => rw [hc] at h; cases h
  | some r =>
    obtain ⟨w, M1⟩ := r
    rw [hc] at h
    cases w with
    | inl w =>
      cases h
      refine z_callVc (av := [.int x1, .int x2]) (st := [.int (0 : Int32), .ref 149]) lk_L_37 dL_tonight_5 (z_ti (A_X7_tonight_51 (d := d) hl hc)) rfl rfl en_51 rfl (Nat.le_of_ble_eq_true rfl) (Nat.le_refl _) (by rw [z_len]; rfl) (Nat.zero_le _) (Nat.zero_le _) (fun v' hv => ?_) (fun E hE => by cases hE)
      cases hv
      show z_AW l mL_tonight (d + 8) 1 6 8 [.ref 51, .int x1, .int x2, .ref 149, .null] [.int w, .int (0 : Int32), .ref 149] (z_L0 Ls, _, _) _ _
      refine z_i2l dL_tonight_8 ?_
      refine z_ls0 dL_tonight_9 (by decide) en_149 kn_p0 (z_ib_in rfl) ?_
      refine z_goto (tgt := 17) dL_tonight_10 rfl ?_
      refine z_ic kc_p0 dL_tonight_17 ?_
      exact z_rI dL_tonight_18 rfl
    | inr e =>
      replace h : (if e = 0 then ((some 1) : Option Int32).map (fun c => (c, M1, Lm)) else (none : Option Int32).map (fun c => (c, M1, Lm))) = some (v, M', Lm') := h
      by_cases he : e = 0
      · rw [if_pos he] at h
        have hE0 : z_ex e = "java/util/NoSuchElementException" := if_pos he
        cases h
        refine z_callVc (av := [.int x1, .int x2]) (st := [.int (0 : Int32), .ref 149]) lk_L_37 dL_tonight_5 (A_X7_tonight_51 (d := d) hl hc) rfl rfl en_51 rfl (Nat.le_of_ble_eq_true rfl) (Nat.le_refl _) (by rw [z_len]; rfl) (Nat.le_refl _) (Nat.le_refl _) (fun v' hv => by cases hv) (fun E hE => ?_)
        have hE1 : E = "java/util/NoSuchElementException" := by rw [← hE0]; exact (Sum.inr.inj hE).symm
        subst hE1
        refine ⟨13, 4, 2, ⟨[], _, _, rfl, rfl, rfl, by decide, ⟨_, nw_L_18, by decide⟩, (fun y hy => by cases hy)⟩, Or.inl ⟨dL_tonight_13, rfl⟩, by decide, ?_⟩
        show z_AW l mL_tonight (d + 8) 0 0 15 [.ref 51, .int x1, .int x2, .ref 149, .null] [] (z_L0 Ls, _, _) _ _
        refine z_ic kc_p1 dL_tonight_15 ?_
        exact z_rI dL_tonight_16 rfl
      · rw [if_neg he] at h
        have hE0 : z_ex e = "java/lang/IllegalArgumentException" := if_neg he
        cases h
def f_L_both (x1 : Int32) (x2 : Int32) (x3 : Int32) (M : zMM) (Lm : zML) : Option (Int32 × zMM × zML) := z_wI (f_X7_both_51 x1 x2 x3 M) Lm (some 1) none
theorem A_L_both {l : Launch} (hl : l.stackTraces = false) {Ls d : Nat} {x1 x2 x3 : Int32} {M M' : zMM} {Lm Lm' : zML} {v : Int32} (h : f_L_both x1 x2 x3 M Lm = some (v, M', Lm')) : z_Ct l mL_both (d + 8) 1 6 [.ref 51, .int x1, .int x2, .int x3, .ref 149] (z_L0 Ls, M, Lm) (.inl (some (.int v))) (z_L0 Ls, M', Lm') := by
  replace h : z_wI (f_X7_both_51 x1 x2 x3 M) Lm (some 1) none = some (v, M', Lm') := h
  refine z_Ct.of hl (by decide) (Nat.le_of_ble_eq_true rfl) rfl ?_
  show z_AW l mL_both (d + 8) 1 6 0 [.ref 51, .int x1, .int x2, .int x3, .ref 149, .null] [] (z_L0 Ls, M, Lm) (.inl (some (.int v))) (z_L0 Ls, M', Lm')
  refine z_aload dL_both_0 rfl ?_
  refine z_ic kc_p0 dL_both_2 ?_
  refine z_aload_n dL_both_3 rfl ?_
  refine z_iload_n dL_both_4 rfl ?_
  refine z_iload_n dL_both_5 rfl ?_
  refine z_iload_n dL_both_6 rfl ?_
  cases hc : (f_X7_both_51 x1 x2 x3 M) with
  | none => rw [hc] at h; cases h
  | some r =>
    obtain ⟨w, M1⟩ := r
    rw [hc] at h
    cases w with
    | inl w =>
      cases h
      refine z_callVc (av := [.int x1, .int x2, .int x3]) (st := [.int (0 : Int32), .ref 149]) lk_L_40 dL_both_7 (z_ti (A_X7_both_51 (d := d) hl hc)) rfl rfl en_51 rfl (Nat.le_of_ble_eq_true rfl) (Nat.le_refl _) (by rw [z_len]; rfl) (Nat.zero_le _) (Nat.zero_le _) (fun v' hv => ?_) (fun E hE => by cases hE)
      cases hv
      show z_AW l mL_both (d + 8) 1 6 10 [.ref 51, .int x1, .int x2, .int x3, .ref 149, .null] [.int w, .int (0 : Int32), .ref 149] (z_L0 Ls, _, _) _ _
      refine z_i2l dL_both_10 ?_
      refine z_ls0 dL_both_11 (by decide) en_149 kn_p0 (z_ib_in rfl) ?_
      refine z_goto (tgt := 19) dL_both_12 rfl ?_
      refine z_ic kc_p0 dL_both_19 ?_
      exact z_rI dL_both_20 rfl
    | inr e =>
      replace h : (if e = 0 then ((some 1) : Option Int32).map (fun c => (c, M1, Lm)) else (none : Option Int32).map (fun c => (c, M1, Lm))) = some (v, M', Lm') := h
      by_cases he : e = 0
      · rw [if_pos he] at h
        have hE0 : z_ex e = "java/util/NoSuchElementException" := if_pos he
        cases h
        refine z_callVc (av := [.int x1, .int x2, .int x3]) (st := [.int (0 : Int32), .ref 149]) lk_L_40 dL_both_7 (A_X7_both_51 (d := d) hl hc) rfl rfl en_51 rfl (Nat.le_of_ble_eq_true rfl) (Nat.le_refl _) (by rw [z_len]; rfl) (Nat.le_refl _) (Nat.le_refl _) (fun v' hv => by cases hv) (fun E hE => ?_)
        have hE1 : E = "java/util/NoSuchElementException" := by rw [← hE0]; exact (Sum.inr.inj hE).symm
        subst hE1
        refine ⟨15, 5, 2, ⟨[], _, _, rfl, rfl, rfl, by decide, ⟨_, nw_L_18, by decide⟩, (fun y hy => by cases hy)⟩, Or.inl ⟨dL_both_15, rfl⟩, by decide, ?_⟩
        show z_AW l mL_both (d + 8) 0 0 17 [.ref 51, .int x1, .int x2, .int x3, .ref 149, .null] [] (z_L0 Ls, _, _) _ _
        refine z_ic kc_p1 dL_both_17 ?_
        exact z_rI dL_both_18 rfl
      · rw [if_neg he] at h
        have hE0 : z_ex e = "java/lang/IllegalArgumentException" := if_neg he
        cases h
def f_L_send (x1 : Int32) (x2 : Int32) (M : zMM) (Lm : zML) : Option (Int32 × zMM × zML) := z_wI (f_X7_send_51 x1 x2 M) Lm (some 1) none
theorem A_L_send {l : Launch} (hl : l.stackTraces = false) {Ls d : Nat} {x1 x2 : Int32} {M M' : zMM} {Lm Lm' : zML} {v : Int32} (h : f_L_send x1 x2 M Lm = some (v, M', Lm')) : z_Ct l mL_send (d + 8) 1 6 [.ref 51, .int x1, .int x2, .ref 149] (z_L0 Ls, M, Lm) (.inl (some (.int v))) (z_L0 Ls, M', Lm') := by
  replace h : z_wI (f_X7_send_51 x1 x2 M) Lm (some 1) none = some (v, M', Lm') := h
  refine z_Ct.of hl (by decide) (Nat.le_of_ble_eq_true rfl) rfl ?_
  show z_AW l mL_send (d + 8) 1 6 0 [.ref 51, .int x1, .int x2, .ref 149, .null] [] (z_L0 Ls, M, Lm) (.inl (some (.int v))) (z_L0 Ls, M', Lm')
  refine z_aload_n dL_send_0 rfl ?_
  refine z_ic kc_p0 dL_send_1 ?_
  refine z_aload_n dL_send_2 rfl ?_
  refine z_iload_n dL_send_3 rfl ?_
  refine z_iload_n dL_send_4 rfl ?_
  cases hc : (f_X7_send_51 x1 x2 M) with
  | none => rw [hc] at h; cases h
  | some r =>
    obtain ⟨w, M1⟩ := r
    rw [hc] at h
    cases w with
    | inl w =>
      cases h
      refine z_callVc (av := [.int x1, .int x2]) (st := [.int (0 : Int32), .ref 149]) lk_L_43 dL_send_5 (z_ti (A_X7_send_51 (d := d) hl hc)) rfl rfl en_51 rfl (Nat.le_of_ble_eq_true rfl) (Nat.le_refl _) (by rw [z_len]; rfl) (Nat.zero_le _) (Nat.zero_le _) (fun v' hv => ?_) (fun E hE => by cases hE)
      cases hv
      show z_AW l mL_send (d + 8) 1 6 8 [.ref 51, .int x1, .int x2, .ref 149, .null] [.int w, .int (0 : Int32), .ref 149] (z_L0 Ls, _, _) _ _
      refine z_i2l dL_send_8 ?_
      refine z_ls0 dL_send_9 (by decide) en_149 kn_p0 (z_ib_in rfl) ?_
      refine z_goto (tgt := 17) dL_send_10 rfl ?_
      refine z_ic kc_p0 dL_send_17 ?_
      exact z_rI dL_send_18 rfl
    | inr e =>
      replace h : (if e = 0 then ((some 1) : Option Int32).map (fun c => (c, M1, Lm)) else (none : Option Int32).map (fun c => (c, M1, Lm))) = some (v, M', Lm') := h
      by_cases he : e = 0
      · rw [if_pos he] at h
        have hE0 : z_ex e = "java/util/NoSuchElementException" := if_pos he
        cases h
        refine z_callVc (av := [.int x1, .int x2]) (st := [.int (0 : Int32), .ref 149]) lk_L_43 dL_send_5 (A_X7_send_51 (d := d) hl hc) rfl rfl en_51 rfl (Nat.le_of_ble_eq_true rfl) (Nat.le_refl _) (by rw [z_len]; rfl) (Nat.le_refl _) (Nat.le_refl _) (fun v' hv => by cases hv) (fun E hE => ?_)
        have hE1 : E = "java/util/NoSuchElementException" := by rw [← hE0]; exact (Sum.inr.inj hE).symm
        subst hE1
        refine ⟨13, 4, 2, ⟨[], _, _, rfl, rfl, rfl, by decide, ⟨_, nw_L_18, by decide⟩, (fun y hy => by cases hy)⟩, Or.inl ⟨dL_send_13, rfl⟩, by decide, ?_⟩
        show z_AW l mL_send (d + 8) 0 0 15 [.ref 51, .int x1, .int x2, .ref 149, .null] [] (z_L0 Ls, _, _) _ _
        refine z_ic kc_p1 dL_send_15 ?_
        exact z_rI dL_send_16 rfl
      · rw [if_neg he] at h
        have hE0 : z_ex e = "java/lang/IllegalArgumentException" := if_neg he
        cases h
def f_L_days (x1 : Int32) (M : zMM) (Lm : zML) : Option (Int32 × zMM × zML) := z_wI (f_X7_days_51 x1 M) Lm none (some 1)
theorem A_L_days {l : Launch} (hl : l.stackTraces = false) {Ls d : Nat} {x1 : Int32} {M M' : zMM} {Lm Lm' : zML} {v : Int32} (h : f_L_days x1 M Lm = some (v, M', Lm')) : z_Ct l mL_days (d + 7) 1 6 [.ref 51, .int x1, .ref 149] (z_L0 Ls, M, Lm) (.inl (some (.int v))) (z_L0 Ls, M', Lm') := by
  replace h : z_wI (f_X7_days_51 x1 M) Lm none (some 1) = some (v, M', Lm') := h
  refine z_Ct.of hl (by decide) (Nat.le_of_ble_eq_true rfl) rfl ?_
  show z_AW l mL_days (d + 7) 1 6 0 [.ref 51, .int x1, .ref 149, .null] [] (z_L0 Ls, M, Lm) (.inl (some (.int v))) (z_L0 Ls, M', Lm')
  refine z_aload_n dL_days_0 rfl ?_
  refine z_ic kc_p0 dL_days_1 ?_
  refine z_aload_n dL_days_2 rfl ?_
  refine z_iload_n dL_days_3 rfl ?_
  cases hc : (f_X7_days_51 x1 M) with
  | none => rw [hc] at h; cases h
  | some r =>
    obtain ⟨w, M1⟩ := r
    rw [hc] at h
    cases w with
    | inl w =>
      cases h
      refine z_callVc (av := [.int x1]) (st := [.int (0 : Int32), .ref 149]) lk_L_46 dL_days_4 (z_ti (A_X7_days_51 (d := d) hl hc)) rfl rfl en_51 rfl (Nat.le_of_ble_eq_true rfl) (Nat.le_refl _) (by rw [z_len]; rfl) (Nat.zero_le _) (Nat.zero_le _) (fun v' hv => ?_) (fun E hE => by cases hE)
      cases hv
      show z_AW l mL_days (d + 7) 1 6 7 [.ref 51, .int x1, .ref 149, .null] [.int w, .int (0 : Int32), .ref 149] (z_L0 Ls, _, _) _ _
      refine z_i2l dL_days_7 ?_
      refine z_ls0 dL_days_8 (by decide) en_149 kn_p0 (z_ib_in rfl) ?_
      refine z_goto (tgt := 15) dL_days_9 rfl ?_
      refine z_ic kc_p0 dL_days_15 ?_
      exact z_rI dL_days_16 rfl
    | inr e =>
      replace h : (if e = 0 then (none : Option Int32).map (fun c => (c, M1, Lm)) else ((some 1) : Option Int32).map (fun c => (c, M1, Lm))) = some (v, M', Lm') := h
      by_cases he : e = 0
      · rw [if_pos he] at h
        have hE0 : z_ex e = "java/util/NoSuchElementException" := if_pos he
        cases h
      · rw [if_neg he] at h
        have hE0 : z_ex e = "java/lang/IllegalArgumentException" := if_neg he
        cases h
        refine z_callVc (av := [.int x1]) (st := [.int (0 : Int32), .ref 149]) lk_L_46 dL_days_4 (A_X7_days_51 (d := d) hl hc) rfl rfl en_51 rfl (Nat.le_of_ble_eq_true rfl) (Nat.le_refl _) (by rw [z_len]; rfl) (Nat.le_refl _) (Nat.le_refl _) (fun v' hv => by cases hv) (fun E hE => ?_)
        have hE1 : E = "java/lang/IllegalArgumentException" := by rw [← hE0]; exact (Sum.inr.inj hE).symm
        subst hE1
        refine ⟨12, 3, 1, ⟨[], _, _, rfl, rfl, rfl, by decide, ⟨_, nw_L_13, by decide⟩, (fun y hy => by cases hy)⟩, Or.inr ⟨3, rfl, dL_days_12, rfl⟩, by decide, ?_⟩
        show z_AW l mL_days (d + 7) 0 0 13 [.ref 51, .int x1, .ref 149, .null] [] (z_L0 Ls, _, _) _ _
        refine z_ic kc_p1 dL_days_13 ?_
        exact z_rI dL_days_14 rfl
def f_L_clerk (x1 : Int32) (x2 : Int32) (x3 : Int32) (M : zMM) (Lm : zML) : Option (Int32 × zMM × zML) := z_wI (f_X7_clerk_51 x1 x2 x3 M) Lm (some 1) none
theorem A_L_clerk {l : Launch} (hl : l.stackTraces = false) {Ls d : Nat} {x1 x2 x3 : Int32} {M M' : zMM} {Lm Lm' : zML} {v : Int32} (h : f_L_clerk x1 x2 x3 M Lm = some (v, M', Lm')) : z_Ct l mL_clerk (d + 9) 1 6 [.ref 51, .int x1, .int x2, .int x3, .ref 149] (z_L0 Ls, M, Lm) (.inl (some (.int v))) (z_L0 Ls, M', Lm') := by
  replace h : z_wI (f_X7_clerk_51 x1 x2 x3 M) Lm (some 1) none = some (v, M', Lm') := h
  refine z_Ct.of hl (by decide) (Nat.le_of_ble_eq_true rfl) rfl ?_
  show z_AW l mL_clerk (d + 9) 1 6 0 [.ref 51, .int x1, .int x2, .int x3, .ref 149, .null] [] (z_L0 Ls, M, Lm) (.inl (some (.int v))) (z_L0 Ls, M', Lm')
  refine z_aload dL_clerk_0 rfl ?_
  refine z_ic kc_p0 dL_clerk_2 ?_
  refine z_aload_n dL_clerk_3 rfl ?_
  refine z_iload_n dL_clerk_4 rfl ?_
  refine z_iload_n dL_clerk_5 rfl ?_
  refine z_iload_n dL_clerk_6 rfl ?_
  cases hc : (f_X7_clerk_51 x1 x2 x3 M) with
  | none => rw [hc] at h; cases h
  | some r =>
    obtain ⟨w, M1⟩ := r
    rw [hc] at h
    cases w with
    | inl w =>
      cases h
      refine z_callVc (av := [.int x1, .int x2, .int x3]) (st := [.int (0 : Int32), .ref 149]) lk_L_49 dL_clerk_7 (z_ti (A_X7_clerk_51 (d := d) hl hc)) rfl rfl en_51 rfl (Nat.le_of_ble_eq_true rfl) (Nat.le_refl _) (by rw [z_len]; rfl) (Nat.zero_le _) (Nat.zero_le _) (fun v' hv => ?_) (fun E hE => by cases hE)
      cases hv
      show z_AW l mL_clerk (d + 9) 1 6 10 [.ref 51, .int x1, .int x2, .int x3, .ref 149, .null] [.int w, .int (0 : Int32), .ref 149] (z_L0 Ls, _, _) _ _
      refine z_i2l dL_clerk_10 ?_
      refine z_ls0 dL_clerk_11 (by decide) en_149 kn_p0 (z_ib_in rfl) ?_
      refine z_goto (tgt := 19) dL_clerk_12 rfl ?_
      refine z_ic kc_p0 dL_clerk_19 ?_
      exact z_rI dL_clerk_20 rfl
    | inr e =>
      replace h : (if e = 0 then ((some 1) : Option Int32).map (fun c => (c, M1, Lm)) else (none : Option Int32).map (fun c => (c, M1, Lm))) = some (v, M', Lm') := h
      by_cases he : e = 0
      · rw [if_pos he] at h
        have hE0 : z_ex e = "java/util/NoSuchElementException" := if_pos he
        cases h
        refine z_callVc (av := [.int x1, .int x2, .int x3]) (st := [.int (0 : Int32), .ref 149]) lk_L_49 dL_clerk_7 (A_X7_clerk_51 (d := d) hl hc) rfl rfl en_51 rfl (Nat.le_of_ble_eq_true rfl) (Nat.le_refl _) (by rw [z_len]; rfl) (Nat.le_refl _) (Nat.le_refl _) (fun v' hv => by cases hv) (fun E hE => ?_)
        have hE1 : E = "java/util/NoSuchElementException" := by rw [← hE0]; exact (Sum.inr.inj hE).symm
        subst hE1
        refine ⟨15, 5, 2, ⟨[], _, _, rfl, rfl, rfl, by decide, ⟨_, nw_L_18, by decide⟩, (fun y hy => by cases hy)⟩, Or.inl ⟨dL_clerk_15, rfl⟩, by decide, ?_⟩
        show z_AW l mL_clerk (d + 9) 0 0 17 [.ref 51, .int x1, .int x2, .int x3, .ref 149, .null] [] (z_L0 Ls, _, _) _ _
        refine z_ic kc_p1 dL_clerk_17 ?_
        exact z_rI dL_clerk_18 rfl
      · rw [if_neg he] at h
        have hE0 : z_ex e = "java/lang/IllegalArgumentException" := if_neg he
        cases h
def f_L_lost (x1 : Int32) (x2 : Int32) (x3 : Int32) (x4 : Int32) (M : zMM) (Lm : zML) : Option (Int32 × zMM × zML) := z_wL (f_X7_lost_51 x1 x2 x3 x4 M) Lm (some 1) none
theorem A_L_lost {l : Launch} (hl : l.stackTraces = false) {Ls d : Nat} {x1 x2 x3 x4 : Int32} {M M' : zMM} {Lm Lm' : zML} {v : Int32} (h : f_L_lost x1 x2 x3 x4 M Lm = some (v, M', Lm')) : z_Ct l mL_lost (d + 9) 1 6 [.ref 51, .int x1, .int x2, .int x3, .int x4, .ref 149] (z_L0 Ls, M, Lm) (.inl (some (.int v))) (z_L0 Ls, M', Lm') := by
  replace h : z_wL (f_X7_lost_51 x1 x2 x3 x4 M) Lm (some 1) none = some (v, M', Lm') := h
  refine z_Ct.of hl (by decide) (Nat.le_of_ble_eq_true rfl) rfl ?_
  show z_AW l mL_lost (d + 9) 1 6 0 [.ref 51, .int x1, .int x2, .int x3, .int x4, .ref 149, .null] [] (z_L0 Ls, M, Lm) (.inl (some (.int v))) (z_L0 Ls, M', Lm')
  refine z_aload dL_lost_0 rfl ?_
  refine z_ic kc_p0 dL_lost_2 ?_
  refine z_aload_n dL_lost_3 rfl ?_
  refine z_iload_n dL_lost_4 rfl ?_
  refine z_iload_n dL_lost_5 rfl ?_
  refine z_iload_n dL_lost_6 rfl ?_
  refine z_iload dL_lost_7 rfl ?_
  cases hc : (f_X7_lost_51 x1 x2 x3 x4 M) with
  | none => rw [hc] at h; cases h
  | some r =>
    obtain ⟨w, M1⟩ := r
    rw [hc] at h
    cases w with
    | inl w =>
      cases h
      refine z_callVc (av := [.int x1, .int x2, .int x3, .int x4]) (st := [.int (0 : Int32), .ref 149]) lk_L_52 dL_lost_9 (z_tl (A_X7_lost_51 (d := d) hl hc)) rfl rfl en_51 rfl (Nat.le_of_ble_eq_true rfl) (Nat.le_refl _) (by rw [z_len]; rfl) (Nat.zero_le _) (Nat.zero_le _) (fun v' hv => ?_) (fun E hE => by cases hE)
      cases hv
      show z_AW l mL_lost (d + 9) 1 6 12 [.ref 51, .int x1, .int x2, .int x3, .int x4, .ref 149, .null] [.long w, .int (0 : Int32), .ref 149] (z_L0 Ls, _, _) _ _
      refine z_ls0 dL_lost_12 (by decide) en_149 kn_p0 (z_ib_in rfl) ?_
      refine z_goto (tgt := 20) dL_lost_13 rfl ?_
      refine z_ic kc_p0 dL_lost_20 ?_
      exact z_rI dL_lost_21 rfl
    | inr e =>
      replace h : (if e = 0 then ((some 1) : Option Int32).map (fun c => (c, M1, Lm)) else (none : Option Int32).map (fun c => (c, M1, Lm))) = some (v, M', Lm') := h
      by_cases he : e = 0
      · rw [if_pos he] at h
        have hE0 : z_ex e = "java/util/NoSuchElementException" := if_pos he
        cases h
        refine z_callVc (av := [.int x1, .int x2, .int x3, .int x4]) (st := [.int (0 : Int32), .ref 149]) lk_L_52 dL_lost_9 (A_X7_lost_51 (d := d) hl hc) rfl rfl en_51 rfl (Nat.le_of_ble_eq_true rfl) (Nat.le_refl _) (by rw [z_len]; rfl) (Nat.le_refl _) (Nat.le_refl _) (fun v' hv => by cases hv) (fun E hE => ?_)
        have hE1 : E = "java/util/NoSuchElementException" := by rw [← hE0]; exact (Sum.inr.inj hE).symm
        subst hE1
        refine ⟨16, 6, 2, ⟨[], _, _, rfl, rfl, rfl, by decide, ⟨_, nw_L_18, by decide⟩, (fun y hy => by cases hy)⟩, Or.inl ⟨dL_lost_16, rfl⟩, by decide, ?_⟩
        show z_AW l mL_lost (d + 9) 0 0 18 [.ref 51, .int x1, .int x2, .int x3, .int x4, .ref 149, .null] [] (z_L0 Ls, _, _) _ _
        refine z_ic kc_p1 dL_lost_18 ?_
        exact z_rI dL_lost_19 rfl
      · rw [if_neg he] at h
        have hE0 : z_ex e = "java/lang/IllegalArgumentException" := if_neg he
        cases h
def f_L_night (x1 : Int32) (x2 : Int32) (x3 : Int32) (M : zMM) (Lm : zML) : Option (Int32 × zMM × zML) := z_wI (f_X7_night_51 x1 x2 x3 M) Lm (some 1) none
theorem A_L_night {l : Launch} (hl : l.stackTraces = false) {Ls d : Nat} {x1 x2 x3 : Int32} {M M' : zMM} {Lm Lm' : zML} {v : Int32} (h : f_L_night x1 x2 x3 M Lm = some (v, M', Lm')) : z_Ct l mL_night (d + 8) 1 6 [.ref 51, .int x1, .int x2, .int x3, .ref 149] (z_L0 Ls, M, Lm) (.inl (some (.int v))) (z_L0 Ls, M', Lm') := by
  replace h : z_wI (f_X7_night_51 x1 x2 x3 M) Lm (some 1) none = some (v, M', Lm') := h
  refine z_Ct.of hl (by decide) (Nat.le_of_ble_eq_true rfl) rfl ?_
  show z_AW l mL_night (d + 8) 1 6 0 [.ref 51, .int x1, .int x2, .int x3, .ref 149, .null] [] (z_L0 Ls, M, Lm) (.inl (some (.int v))) (z_L0 Ls, M', Lm')
  refine z_aload dL_night_0 rfl ?_
  refine z_ic kc_p0 dL_night_2 ?_
  refine z_aload_n dL_night_3 rfl ?_
  refine z_iload_n dL_night_4 rfl ?_
  refine z_iload_n dL_night_5 rfl ?_
  refine z_iload_n dL_night_6 rfl ?_
  cases hc : (f_X7_night_51 x1 x2 x3 M) with
  | none => rw [hc] at h; cases h
  | some r =>
    obtain ⟨w, M1⟩ := r
    rw [hc] at h
    cases w with
    | inl w =>
      cases h
      refine z_callVc (av := [.int x1, .int x2, .int x3]) (st := [.int (0 : Int32), .ref 149]) lk_L_56 dL_night_7 (z_ti (A_X7_night_51 (d := d) hl hc)) rfl rfl en_51 rfl (Nat.le_of_ble_eq_true rfl) (Nat.le_refl _) (by rw [z_len]; rfl) (Nat.zero_le _) (Nat.zero_le _) (fun v' hv => ?_) (fun E hE => by cases hE)
      cases hv
      show z_AW l mL_night (d + 8) 1 6 10 [.ref 51, .int x1, .int x2, .int x3, .ref 149, .null] [.int w, .int (0 : Int32), .ref 149] (z_L0 Ls, _, _) _ _
      refine z_i2l dL_night_10 ?_
      refine z_ls0 dL_night_11 (by decide) en_149 kn_p0 (z_ib_in rfl) ?_
      refine z_goto (tgt := 19) dL_night_12 rfl ?_
      refine z_ic kc_p0 dL_night_19 ?_
      exact z_rI dL_night_20 rfl
    | inr e =>
      replace h : (if e = 0 then ((some 1) : Option Int32).map (fun c => (c, M1, Lm)) else (none : Option Int32).map (fun c => (c, M1, Lm))) = some (v, M', Lm') := h
      by_cases he : e = 0
      · rw [if_pos he] at h
        have hE0 : z_ex e = "java/util/NoSuchElementException" := if_pos he
        cases h
        refine z_callVc (av := [.int x1, .int x2, .int x3]) (st := [.int (0 : Int32), .ref 149]) lk_L_56 dL_night_7 (A_X7_night_51 (d := d) hl hc) rfl rfl en_51 rfl (Nat.le_of_ble_eq_true rfl) (Nat.le_refl _) (by rw [z_len]; rfl) (Nat.le_refl _) (Nat.le_refl _) (fun v' hv => by cases hv) (fun E hE => ?_)
        have hE1 : E = "java/util/NoSuchElementException" := by rw [← hE0]; exact (Sum.inr.inj hE).symm
        subst hE1
        refine ⟨15, 5, 2, ⟨[], _, _, rfl, rfl, rfl, by decide, ⟨_, nw_L_18, by decide⟩, (fun y hy => by cases hy)⟩, Or.inl ⟨dL_night_15, rfl⟩, by decide, ?_⟩
        show z_AW l mL_night (d + 8) 0 0 17 [.ref 51, .int x1, .int x2, .int x3, .ref 149, .null] [] (z_L0 Ls, _, _) _ _
        refine z_ic kc_p1 dL_night_17 ?_
        exact z_rI dL_night_18 rfl
      · rw [if_neg he] at h
        have hE0 : z_ex e = "java/lang/IllegalArgumentException" := if_neg he
        cases h
def f_L_rides (x1 : Int32) (M : zMM) (Lm : zML) : Option (Int32 × zMM × zML) := z_wI (f_X7_rides_51 x1 M) Lm (some 1) none
theorem A_L_rides {l : Launch} (hl : l.stackTraces = false) {Ls d : Nat} {x1 : Int32} {M M' : zMM} {Lm Lm' : zML} {v : Int32} (h : f_L_rides x1 M Lm = some (v, M', Lm')) : z_Ct l mL_rides (d + 8) 1 6 [.ref 51, .int x1, .ref 149] (z_L0 Ls, M, Lm) (.inl (some (.int v))) (z_L0 Ls, M', Lm') := by
  replace h : z_wI (f_X7_rides_51 x1 M) Lm (some 1) none = some (v, M', Lm') := h
  refine z_Ct.of hl (by decide) (Nat.le_of_ble_eq_true rfl) rfl ?_
  show z_AW l mL_rides (d + 8) 1 6 0 [.ref 51, .int x1, .ref 149, .null] [] (z_L0 Ls, M, Lm) (.inl (some (.int v))) (z_L0 Ls, M', Lm')
  refine z_aload_n dL_rides_0 rfl ?_
  refine z_ic kc_p0 dL_rides_1 ?_
  refine z_aload_n dL_rides_2 rfl ?_
  refine z_iload_n dL_rides_3 rfl ?_
  cases hc : (f_X7_rides_51 x1 M) with
  | none => rw [hc] at h; cases h
  | some r =>
    obtain ⟨w, M1⟩ := r
    rw [hc] at h
    cases w with
    | inl w =>
      cases h
      refine z_callVc (av := [.int x1]) (st := [.int (0 : Int32), .ref 149]) lk_L_59 dL_rides_4 (z_ti (A_X7_rides_51 (d := d) hl hc)) rfl rfl en_51 rfl (Nat.le_of_ble_eq_true rfl) (Nat.le_refl _) (by rw [z_len]; rfl) (Nat.zero_le _) (Nat.zero_le _) (fun v' hv => ?_) (fun E hE => by cases hE)
      cases hv
      show z_AW l mL_rides (d + 8) 1 6 7 [.ref 51, .int x1, .ref 149, .null] [.int w, .int (0 : Int32), .ref 149] (z_L0 Ls, _, _) _ _
      refine z_i2l dL_rides_7 ?_
      refine z_ls0 dL_rides_8 (by decide) en_149 kn_p0 (z_ib_in rfl) ?_
      refine z_goto (tgt := 15) dL_rides_9 rfl ?_
      refine z_ic kc_p0 dL_rides_15 ?_
      exact z_rI dL_rides_16 rfl
    | inr e =>
      replace h : (if e = 0 then ((some 1) : Option Int32).map (fun c => (c, M1, Lm)) else (none : Option Int32).map (fun c => (c, M1, Lm))) = some (v, M', Lm') := h
      by_cases he : e = 0
      · rw [if_pos he] at h
        have hE0 : z_ex e = "java/util/NoSuchElementException" := if_pos he
        cases h
        refine z_callVc (av := [.int x1]) (st := [.int (0 : Int32), .ref 149]) lk_L_59 dL_rides_4 (A_X7_rides_51 (d := d) hl hc) rfl rfl en_51 rfl (Nat.le_of_ble_eq_true rfl) (Nat.le_refl _) (by rw [z_len]; rfl) (Nat.le_refl _) (Nat.le_refl _) (fun v' hv => by cases hv) (fun E hE => ?_)
        have hE1 : E = "java/util/NoSuchElementException" := by rw [← hE0]; exact (Sum.inr.inj hE).symm
        subst hE1
        refine ⟨12, 3, 1, ⟨[], _, _, rfl, rfl, rfl, by decide, ⟨_, nw_L_18, by decide⟩, (fun y hy => by cases hy)⟩, Or.inr ⟨3, rfl, dL_rides_12, rfl⟩, by decide, ?_⟩
        show z_AW l mL_rides (d + 8) 0 0 13 [.ref 51, .int x1, .ref 149, .null] [] (z_L0 Ls, _, _) _ _
        refine z_ic kc_p1 dL_rides_13 ?_
        exact z_rI dL_rides_14 rfl
      · rw [if_neg he] at h
        have hE0 : z_ex e = "java/lang/IllegalArgumentException" := if_neg he
        cases h
def f_L_spared (x1 : Int32) (M : zMM) (Lm : zML) : Option (Int32 × zMM × zML) := z_wI (f_X7_spared_51 x1 M) Lm (some 1) none
theorem A_L_spared {l : Launch} (hl : l.stackTraces = false) {Ls d : Nat} {x1 : Int32} {M M' : zMM} {Lm Lm' : zML} {v : Int32} (h : f_L_spared x1 M Lm = some (v, M', Lm')) : z_Ct l mL_spared (d + 13) 1 6 [.ref 51, .int x1, .ref 149] (z_L0 Ls, M, Lm) (.inl (some (.int v))) (z_L0 Ls, M', Lm') := by
  replace h : z_wI (f_X7_spared_51 x1 M) Lm (some 1) none = some (v, M', Lm') := h
  refine z_Ct.of hl (by decide) (Nat.le_of_ble_eq_true rfl) rfl ?_
  show z_AW l mL_spared (d + 13) 1 6 0 [.ref 51, .int x1, .ref 149, .null] [] (z_L0 Ls, M, Lm) (.inl (some (.int v))) (z_L0 Ls, M', Lm')
  refine z_aload_n dL_spared_0 rfl ?_
  refine z_ic kc_p0 dL_spared_1 ?_
  refine z_aload_n dL_spared_2 rfl ?_
  refine z_iload_n dL_spared_3 rfl ?_
  cases hc : (f_X7_spared_51 x1 M) with
  | none => rw [hc] at h; cases h
  | some r =>
    obtain ⟨w, M1⟩ := r
    rw [hc] at h
    cases w with
    | inl w =>
      cases h
      refine z_callVc (av := [.int x1]) (st := [.int (0 : Int32), .ref 149]) lk_L_62 dL_spared_4 (z_ti (A_X7_spared_51 (d := d) hl hc)) rfl rfl en_51 rfl (Nat.le_of_ble_eq_true rfl) (Nat.le_refl _) (by rw [z_len]; rfl) (Nat.zero_le _) (Nat.zero_le _) (fun v' hv => ?_) (fun E hE => by cases hE)
      cases hv
      show z_AW l mL_spared (d + 13) 1 6 7 [.ref 51, .int x1, .ref 149, .null] [.int w, .int (0 : Int32), .ref 149] (z_L0 Ls, _, _) _ _
      refine z_i2l dL_spared_7 ?_
      refine z_ls0 dL_spared_8 (by decide) en_149 kn_p0 (z_ib_in rfl) ?_
      refine z_goto (tgt := 15) dL_spared_9 rfl ?_
      refine z_ic kc_p0 dL_spared_15 ?_
      exact z_rI dL_spared_16 rfl
    | inr e =>
      replace h : (if e = 0 then ((some 1) : Option Int32).map (fun c => (c, M1, Lm)) else (none : Option Int32).map (fun c => (c, M1, Lm))) = some (v, M', Lm') := h
      by_cases he : e = 0
      · rw [if_pos he] at h
        have hE0 : z_ex e = "java/util/NoSuchElementException" := if_pos he
        cases h
        refine z_callVc (av := [.int x1]) (st := [.int (0 : Int32), .ref 149]) lk_L_62 dL_spared_4 (A_X7_spared_51 (d := d) hl hc) rfl rfl en_51 rfl (Nat.le_of_ble_eq_true rfl) (Nat.le_refl _) (by rw [z_len]; rfl) (Nat.le_refl _) (Nat.le_refl _) (fun v' hv => by cases hv) (fun E hE => ?_)
        have hE1 : E = "java/util/NoSuchElementException" := by rw [← hE0]; exact (Sum.inr.inj hE).symm
        subst hE1
        refine ⟨12, 3, 1, ⟨[], _, _, rfl, rfl, rfl, by decide, ⟨_, nw_L_18, by decide⟩, (fun y hy => by cases hy)⟩, Or.inr ⟨3, rfl, dL_spared_12, rfl⟩, by decide, ?_⟩
        show z_AW l mL_spared (d + 13) 0 0 13 [.ref 51, .int x1, .ref 149, .null] [] (z_L0 Ls, _, _) _ _
        refine z_ic kc_p1 dL_spared_13 ?_
        exact z_rI dL_spared_14 rfl
      · rw [if_neg he] at h
        have hE0 : z_ex e = "java/lang/IllegalArgumentException" := if_neg he
        cases h
def f_L_unopened (x1 : Int32) (x2 : Int32) (x3 : Int32) (x4 : Int32) (x5 : Int32) (M : zMM) (Lm : zML) : Option (Int32 × zMM × zML) := z_wI (f_X7_unopened_51 x1 x2 x3 x4 x5 M) Lm (some 1) (some 2)
theorem A_L_unopened {l : Launch} (hl : l.stackTraces = false) {Ls d : Nat} {x1 x2 x3 x4 x5 : Int32} {M M' : zMM} {Lm Lm' : zML} {v : Int32} (h : f_L_unopened x1 x2 x3 x4 x5 M Lm = some (v, M', Lm')) : z_Ct l mL_unopened (d + 8) 1 6 [.ref 51, .int x1, .int x2, .int x3, .int x4, .int x5, .ref 149] (z_L0 Ls, M, Lm) (.inl (some (.int v))) (z_L0 Ls, M', Lm') := by
  replace h : z_wI (f_X7_unopened_51 x1 x2 x3 x4 x5 M) Lm (some 1) (some 2) = some (v, M', Lm') := h
  refine z_Ct.of hl (by decide) (Nat.le_of_ble_eq_true rfl) rfl ?_
  show z_AW l mL_unopened (d + 8) 1 6 0 [.ref 51, .int x1, .int x2, .int x3, .int x4, .int x5, .ref 149, .null] [] (z_L0 Ls, M, Lm) (.inl (some (.int v))) (z_L0 Ls, M', Lm')
  refine z_aload dL_unopened_0 rfl ?_
  refine z_ic kc_p0 dL_unopened_2 ?_
  refine z_aload_n dL_unopened_3 rfl ?_
  refine z_iload_n dL_unopened_4 rfl ?_
  refine z_iload_n dL_unopened_5 rfl ?_
  refine z_iload_n dL_unopened_6 rfl ?_
  refine z_iload dL_unopened_7 rfl ?_
  refine z_iload dL_unopened_9 rfl ?_
  cases hc : (f_X7_unopened_51 x1 x2 x3 x4 x5 M) with
  | none => rw [hc] at h; cases h
  | some r =>
    obtain ⟨w, M1⟩ := r
    rw [hc] at h
    cases w with
    | inl w =>
      cases h
      refine z_callVc (av := [.int x1, .int x2, .int x3, .int x4, .int x5]) (st := [.int (0 : Int32), .ref 149]) lk_L_65 dL_unopened_11 (z_ti (A_X7_unopened_51 (d := d) hl hc)) rfl rfl en_51 rfl (Nat.le_of_ble_eq_true rfl) (Nat.le_refl _) (by rw [z_len]; rfl) (Nat.zero_le _) (Nat.zero_le _) (fun v' hv => ?_) (fun E hE => by cases hE)
      cases hv
      show z_AW l mL_unopened (d + 8) 1 6 14 [.ref 51, .int x1, .int x2, .int x3, .int x4, .int x5, .ref 149, .null] [.int w, .int (0 : Int32), .ref 149] (z_L0 Ls, _, _) _ _
      refine z_i2l dL_unopened_14 ?_
      refine z_ls0 dL_unopened_15 (by decide) en_149 kn_p0 (z_ib_in rfl) ?_
      refine z_goto (tgt := 27) dL_unopened_16 rfl ?_
      refine z_ic kc_p0 dL_unopened_27 ?_
      exact z_rI dL_unopened_28 rfl
    | inr e =>
      replace h : (if e = 0 then ((some 1) : Option Int32).map (fun c => (c, M1, Lm)) else ((some 2) : Option Int32).map (fun c => (c, M1, Lm))) = some (v, M', Lm') := h
      by_cases he : e = 0
      · rw [if_pos he] at h
        have hE0 : z_ex e = "java/util/NoSuchElementException" := if_pos he
        cases h
        refine z_callVc (av := [.int x1, .int x2, .int x3, .int x4, .int x5]) (st := [.int (0 : Int32), .ref 149]) lk_L_65 dL_unopened_11 (A_X7_unopened_51 (d := d) hl hc) rfl rfl en_51 rfl (Nat.le_of_ble_eq_true rfl) (Nat.le_refl _) (by rw [z_len]; rfl) (Nat.le_refl _) (Nat.le_refl _) (fun v' hv => by cases hv) (fun E hE => ?_)
        have hE1 : E = "java/util/NoSuchElementException" := by rw [← hE0]; exact (Sum.inr.inj hE).symm
        subst hE1
        refine ⟨19, 7, 2, ⟨[], _, _, rfl, rfl, rfl, by decide, ⟨_, nw_L_18, by decide⟩, (fun y hy => by cases hy)⟩, Or.inl ⟨dL_unopened_19, rfl⟩, by decide, ?_⟩
        show z_AW l mL_unopened (d + 8) 0 0 21 [.ref 51, .int x1, .int x2, .int x3, .int x4, .int x5, .ref 149, .null] [] (z_L0 Ls, _, _) _ _
        refine z_ic kc_p1 dL_unopened_21 ?_
        exact z_rI dL_unopened_22 rfl
      · rw [if_neg he] at h
        have hE0 : z_ex e = "java/lang/IllegalArgumentException" := if_neg he
        cases h
        refine z_callVc (av := [.int x1, .int x2, .int x3, .int x4, .int x5]) (st := [.int (0 : Int32), .ref 149]) lk_L_65 dL_unopened_11 (A_X7_unopened_51 (d := d) hl hc) rfl rfl en_51 rfl (Nat.le_of_ble_eq_true rfl) (Nat.le_refl _) (by rw [z_len]; rfl) (Nat.le_refl _) (Nat.le_refl _) (fun v' hv => by cases hv) (fun E hE => ?_)
        have hE1 : E = "java/lang/IllegalArgumentException" := by rw [← hE0]; exact (Sum.inr.inj hE).symm
        subst hE1
        refine ⟨23, 7, 2, ⟨[_], _, _, rfl, rfl, rfl, by decide, ⟨_, nw_L_13, by decide⟩, (fun y hy => by cases hy with | head => exact ⟨by decide, _, nw_L_18, by decide⟩ | tail _ q => cases q)⟩, Or.inl ⟨dL_unopened_23, rfl⟩, by decide, ?_⟩
        show z_AW l mL_unopened (d + 8) 0 0 25 [.ref 51, .int x1, .int x2, .int x3, .int x4, .int x5, .ref 149, .null] [] (z_L0 Ls, _, _) _ _
        refine z_ic kc_p2 dL_unopened_25 ?_
        exact z_rI dL_unopened_26 rfl
def f_L_c0 (K : Int32 → zMM → zML → Option (Int32 × zMM × zML)) (Ls : Nat) (i : Int32) (M : zMM) (Lm : zML) : Option (Int32 × zMM × zML) :=
  if z_ib (i + (1 : Int32)) Ls = true then
    if z_ib (i + (2 : Int32)) Ls = true then
      if z_ib (i + (3 : Int32)) Ls = true then
        if z_ib (i + (4 : Int32)) Ls = true then
          if z_ib (i + (5 : Int32)) Ls = true then
            z_bi (f_X7_feed_51 (M 0 (i + (1 : Int32)).toNatClampNeg) (M 0 (i + (2 : Int32)).toNatClampNeg) (M 0 (i + (3 : Int32)).toNatClampNeg) (M 0 (i + (4 : Int32)).toNatClampNeg) (M 0 (i + (5 : Int32)).toNatClampNeg) M) fun v7 M8 =>
            if z_ib (i + (1 : Int32)) Ls = true then
              if z_ib (i + (2 : Int32)) Ls = true then
                if z_ib (i + (3 : Int32)) Ls = true then
                  if z_ib (i + (4 : Int32)) Ls = true then
                    if z_ib (i + (5 : Int32)) Ls = true then
                      z_bi (f_X8_feed_107 (M8 0 (i + (1 : Int32)).toNatClampNeg) (M8 0 (i + (2 : Int32)).toNatClampNeg) (M8 0 (i + (3 : Int32)).toNatClampNeg) (M8 0 (i + (4 : Int32)).toNatClampNeg) (M8 0 (i + (5 : Int32)).toNatClampNeg) M8) fun v15 M16 =>
                      if v7 = v15 then
                        K (i + (6 : Int32)) M16 Lm
                      else
                        some ((0 : Int32), M16, Lm)
                    else none
                  else none
                else none
              else none
            else none
          else none
        else none
      else none
    else none
  else none
theorem A_L_c0 {l : Launch} (hl : l.stackTraces = false) {Ls d n : Nat} {K : Int32 → zMM → zML → Option (Int32 × zMM × zML)}
    (hK : ∀ (i : Int32) (M : zMM) (Lm : zML) (M' : zMM) (Lm' : zML) (v : Int32), K i M Lm = some (v, M', Lm') → z_AW l mL_law (d + 14) n (6 * n) 23 [.ref 0, .ref 51, .ref 107, .ref 149, .int i, .null, .null, .null] [] (z_L0 Ls, M, Lm) (.inl (some (.int v))) (z_L0 Ls, M', Lm')) :
    ∀ (i : Int32) (M : zMM) (Lm : zML) (M' : zMM) (Lm' : zML) (v : Int32), f_L_c0 K Ls i M Lm = some (v, M', Lm') → z_AW l mL_law (d + 14) (n + 1) (6 * n + 6) 156 [.ref 0, .ref 51, .ref 107, .ref 149, .int i, .null, .null, .null] [] (z_L0 Ls, M, Lm) (.inl (some (.int v))) (z_L0 Ls, M', Lm') := by
  intro i M Lm M' Lm' v h
  replace h : (  if z_ib (i + (1 : Int32)) Ls = true then
    if z_ib (i + (2 : Int32)) Ls = true then
      if z_ib (i + (3 : Int32)) Ls = true then
        if z_ib (i + (4 : Int32)) Ls = true then
          if z_ib (i + (5 : Int32)) Ls = true then
            z_bi (f_X7_feed_51 (M 0 (i + (1 : Int32)).toNatClampNeg) (M 0 (i + (2 : Int32)).toNatClampNeg) (M 0 (i + (3 : Int32)).toNatClampNeg) (M 0 (i + (4 : Int32)).toNatClampNeg) (M 0 (i + (5 : Int32)).toNatClampNeg) M) fun v7 M8 =>
            if z_ib (i + (1 : Int32)) Ls = true then
              if z_ib (i + (2 : Int32)) Ls = true then
                if z_ib (i + (3 : Int32)) Ls = true then
                  if z_ib (i + (4 : Int32)) Ls = true then
                    if z_ib (i + (5 : Int32)) Ls = true then
                      z_bi (f_X8_feed_107 (M8 0 (i + (1 : Int32)).toNatClampNeg) (M8 0 (i + (2 : Int32)).toNatClampNeg) (M8 0 (i + (3 : Int32)).toNatClampNeg) (M8 0 (i + (4 : Int32)).toNatClampNeg) (M8 0 (i + (5 : Int32)).toNatClampNeg) M8) fun v15 M16 =>
                      if v7 = v15 then
                        K (i + (6 : Int32)) M16 Lm
                      else
                        some ((0 : Int32), M16, Lm)
                    else none
                  else none
                else none
              else none
            else none
          else none
        else none
      else none
    else none
  else none) = some (v, M', Lm') := h
  refine z_aload_n dL_law_156 rfl ?_
  refine z_aload_n dL_law_157 rfl ?_
  refine z_iload dL_law_158 rfl ?_
  refine z_ic kc_p1 dL_law_160 ?_
  refine z_iadd dL_law_161 ?_
  obtain ⟨g1, h⟩ := z_ifn h
  refine z_al (v := (M 0 (i + (1 : Int32)).toNatClampNeg)) dL_law_162 en_0 rfl (z_ib_in g1) rfl ?_
  refine z_aload_n dL_law_163 rfl ?_
  refine z_iload dL_law_164 rfl ?_
  refine z_ic kc_p2 dL_law_166 ?_
  refine z_iadd dL_law_167 ?_
  obtain ⟨g2, h⟩ := z_ifn h
  refine z_al (v := (M 0 (i + (2 : Int32)).toNatClampNeg)) dL_law_168 en_0 rfl (z_ib_in g2) rfl ?_
  refine z_aload_n dL_law_169 rfl ?_
  refine z_iload dL_law_170 rfl ?_
  refine z_ic kc_p3 dL_law_172 ?_
  refine z_iadd dL_law_173 ?_
  obtain ⟨g3, h⟩ := z_ifn h
  refine z_al (v := (M 0 (i + (3 : Int32)).toNatClampNeg)) dL_law_174 en_0 rfl (z_ib_in g3) rfl ?_
  refine z_aload_n dL_law_175 rfl ?_
  refine z_iload dL_law_176 rfl ?_
  refine z_ic kc_p4 dL_law_178 ?_
  refine z_iadd dL_law_179 ?_
  obtain ⟨g4, h⟩ := z_ifn h
  refine z_al (v := (M 0 (i + (4 : Int32)).toNatClampNeg)) dL_law_180 en_0 rfl (z_ib_in g4) rfl ?_
  refine z_aload_n dL_law_181 rfl ?_
  refine z_iload dL_law_182 rfl ?_
  refine z_ic kc_p5 dL_law_184 ?_
  refine z_iadd dL_law_185 ?_
  obtain ⟨g5, h⟩ := z_ifn h
  refine z_al (v := (M 0 (i + (5 : Int32)).toNatClampNeg)) dL_law_186 en_0 rfl (z_ib_in g5) rfl ?_
  obtain ⟨v7, M8, c6, h⟩ := z_bi_c h
  refine z_cV (av := [.int (M 0 (i + (1 : Int32)).toNatClampNeg), .int (M 0 (i + (2 : Int32)).toNatClampNeg), .int (M 0 (i + (3 : Int32)).toNatClampNeg), .int (M 0 (i + (4 : Int32)).toNatClampNeg), .int (M 0 (i + (5 : Int32)).toNatClampNeg)]) (st := []) lk_L_73 dL_law_187 (A_X7_feed_51 (d := d + 12) hl c6) rfl rfl en_51 rfl (Nat.le_of_ble_eq_true rfl) rfl z_len rfl rfl ?_
  refine z_aload_n dL_law_190 rfl ?_
  refine z_aload_n dL_law_191 rfl ?_
  refine z_iload dL_law_192 rfl ?_
  refine z_ic kc_p1 dL_law_194 ?_
  refine z_iadd dL_law_195 ?_
  obtain ⟨g9, h⟩ := z_ifn h
  refine z_al (v := (M8 0 (i + (1 : Int32)).toNatClampNeg)) dL_law_196 en_0 rfl (z_ib_in g9) rfl ?_
  refine z_aload_n dL_law_197 rfl ?_
  refine z_iload dL_law_198 rfl ?_
  refine z_ic kc_p2 dL_law_200 ?_
  refine z_iadd dL_law_201 ?_
  obtain ⟨g10, h⟩ := z_ifn h
  refine z_al (v := (M8 0 (i + (2 : Int32)).toNatClampNeg)) dL_law_202 en_0 rfl (z_ib_in g10) rfl ?_
  refine z_aload_n dL_law_203 rfl ?_
  refine z_iload dL_law_204 rfl ?_
  refine z_ic kc_p3 dL_law_206 ?_
  refine z_iadd dL_law_207 ?_
  obtain ⟨g11, h⟩ := z_ifn h
  refine z_al (v := (M8 0 (i + (3 : Int32)).toNatClampNeg)) dL_law_208 en_0 rfl (z_ib_in g11) rfl ?_
  refine z_aload_n dL_law_209 rfl ?_
  refine z_iload dL_law_210 rfl ?_
  refine z_ic kc_p4 dL_law_212 ?_
  refine z_iadd dL_law_213 ?_
  obtain ⟨g12, h⟩ := z_ifn h
  refine z_al (v := (M8 0 (i + (4 : Int32)).toNatClampNeg)) dL_law_214 en_0 rfl (z_ib_in g12) rfl ?_
  refine z_aload_n dL_law_215 rfl ?_
  refine z_iload dL_law_216 rfl ?_
  refine z_ic kc_p5 dL_law_218 ?_
  refine z_iadd dL_law_219 ?_
  obtain ⟨g13, h⟩ := z_ifn h
  refine z_al (v := (M8 0 (i + (5 : Int32)).toNatClampNeg)) dL_law_220 en_0 rfl (z_ib_in g13) rfl ?_
  obtain ⟨v15, M16, c14, h⟩ := z_bi_c h
  refine z_cV (av := [.int (M8 0 (i + (1 : Int32)).toNatClampNeg), .int (M8 0 (i + (2 : Int32)).toNatClampNeg), .int (M8 0 (i + (3 : Int32)).toNatClampNeg), .int (M8 0 (i + (4 : Int32)).toNatClampNeg), .int (M8 0 (i + (5 : Int32)).toNatClampNeg)]) (st := [.int v7]) lk_L_76 dL_law_221 (A_X8_feed_107 (d := d + 13) hl c14) rfl rfl en_107 rfl (Nat.le_of_ble_eq_true rfl) rfl z_len rfl rfl ?_
  refine z_icmp_eq (tgt := 1541) dL_law_224 rfl (fun g17 => ?_) (fun g17 => ?_)
  · replace h := (if_pos g17).symm.trans h
    refine z_ii (ls' := [.ref 0, .ref 51, .ref 107, .ref 149, .int (i + (6 : Int32)), .null, .null, .null]) kc_p6 dL_law_1541 rfl (by decide) rfl ?_
    refine z_goto (tgt := 23) dL_law_1544 rfl ?_
    refine z_fg (ls' := [.ref 0, .ref 51, .ref 107, .ref 149, .int (i + (6 : Int32)), .null, .null, .null]) ⟨Or.inr rfl, Or.inr rfl, Or.inr rfl, Or.inr rfl, Or.inr rfl, Or.inl rfl, Or.inl rfl, Or.inl rfl, trivial⟩ ?_
    refine z_AW.mono (bc := n) (bs := 6 * n) (by omega) (by omega) ?_
    exact hK _ _ _ _ _ _ h
  · replace h := (if_neg g17).symm.trans h
    refine z_ic kc_p0 dL_law_227 ?_
    cases h
    exact z_rZ dL_law_228 rfl rfl
def f_L_c1 (K : Int32 → zMM → zML → Option (Int32 × zMM × zML)) (Ls : Nat) (i : Int32) (M : zMM) (Lm : zML) : Option (Int32 × zMM × zML) :=
  if z_ib (i + (1 : Int32)) Ls = true then
    z_bw (f_L_told (M 0 (i + (1 : Int32)).toNatClampNeg) M Lm) fun v20 M21 Lm22 =>
    if z_ib (i + (1 : Int32)) Ls = true then
      z_bi (f_X8_told_107 (M21 0 (i + (1 : Int32)).toNatClampNeg) M21) fun v25 M26 =>
      z_bi (f_X8_thrown_107 M26) fun v28 M29 =>
      if v28 = v20 then
        if v20 = 0 then
          if (lg_cmp (Lm22 149 0) v25.toInt64) = 0 then
            K (i + (6 : Int32)) M29 Lm22
          else
            some ((0 : Int32), M29, Lm22)
        else
          K (i + (6 : Int32)) M29 Lm22
      else
        some ((0 : Int32), M29, Lm22)
    else none
  else none
theorem A_L_c1 {l : Launch} (hl : l.stackTraces = false) {Ls d n : Nat} {K : Int32 → zMM → zML → Option (Int32 × zMM × zML)}
    (hK : ∀ (i : Int32) (M : zMM) (Lm : zML) (M' : zMM) (Lm' : zML) (v : Int32), K i M Lm = some (v, M', Lm') → z_AW l mL_law (d + 14) n (6 * n) 23 [.ref 0, .ref 51, .ref 107, .ref 149, .int i, .null, .null, .null] [] (z_L0 Ls, M, Lm) (.inl (some (.int v))) (z_L0 Ls, M', Lm')) :
    ∀ (i : Int32) (M : zMM) (Lm : zML) (M' : zMM) (Lm' : zML) (v : Int32), f_L_c1 K Ls i M Lm = some (v, M', Lm') → z_AW l mL_law (d + 14) (n + 1) (6 * n + 6) 229 [.ref 0, .ref 51, .ref 107, .ref 149, .int i, .null, .null, .null] [] (z_L0 Ls, M, Lm) (.inl (some (.int v))) (z_L0 Ls, M', Lm') := by
  intro i M Lm M' Lm' v h
  replace h : (  if z_ib (i + (1 : Int32)) Ls = true then
    z_bw (f_L_told (M 0 (i + (1 : Int32)).toNatClampNeg) M Lm) fun v20 M21 Lm22 =>
    if z_ib (i + (1 : Int32)) Ls = true then
      z_bi (f_X8_told_107 (M21 0 (i + (1 : Int32)).toNatClampNeg) M21) fun v25 M26 =>
      z_bi (f_X8_thrown_107 M26) fun v28 M29 =>
      if v28 = v20 then
        if v20 = 0 then
          if (lg_cmp (Lm22 149 0) v25.toInt64) = 0 then
            K (i + (6 : Int32)) M29 Lm22
          else
            some ((0 : Int32), M29, Lm22)
        else
          K (i + (6 : Int32)) M29 Lm22
      else
        some ((0 : Int32), M29, Lm22)
    else none
  else none) = some (v, M', Lm') := h
  refine z_aload_n dL_law_229 rfl ?_
  refine z_aload_n dL_law_230 rfl ?_
  refine z_iload dL_law_231 rfl ?_
  refine z_ic kc_p1 dL_law_233 ?_
  refine z_iadd dL_law_234 ?_
  obtain ⟨g18, h⟩ := z_ifn h
  refine z_al (v := (M 0 (i + (1 : Int32)).toNatClampNeg)) dL_law_235 en_0 rfl (z_ib_in g18) rfl ?_
  refine z_aload_n dL_law_236 rfl ?_
  obtain ⟨v20, M21, Lm22, c19, h⟩ := z_bw_c h
  refine z_cW (bc := n) (bs := 6 * n) (av := [.ref 51, .int (M 0 (i + (1 : Int32)).toNatClampNeg), .ref 149]) (st := []) lk_L_77 dL_law_237 (A_L_told (d := d + 3) hl c19) rfl rfl (Nat.le_of_ble_eq_true rfl) rfl z_len rfl rfl ?_
  refine z_istore (ls' := [.ref 0, .ref 51, .ref 107, .ref 149, .int i, .int v20, .null, .null]) dL_law_240 (by decide) rfl ?_
  refine z_aload_n dL_law_242 rfl ?_
  refine z_aload_n dL_law_243 rfl ?_
  refine z_iload dL_law_244 rfl ?_
  refine z_ic kc_p1 dL_law_246 ?_
  refine z_iadd dL_law_247 ?_
  obtain ⟨g23, h⟩ := z_ifn h
  refine z_al (v := (M21 0 (i + (1 : Int32)).toNatClampNeg)) dL_law_248 en_0 rfl (z_ib_in g23) rfl ?_
  obtain ⟨v25, M26, c24, h⟩ := z_bi_c h
  refine z_cV (av := [.int (M21 0 (i + (1 : Int32)).toNatClampNeg)]) (st := []) lk_L_82 dL_law_249 (A_X8_told_107 (d := d + 5) hl c24) rfl rfl en_107 rfl (Nat.le_of_ble_eq_true rfl) rfl z_len rfl rfl ?_
  refine z_istore (ls' := [.ref 0, .ref 51, .ref 107, .ref 149, .int i, .int v20, .int v25, .null]) dL_law_252 (by decide) rfl ?_
  refine z_aload_n dL_law_254 rfl ?_
  obtain ⟨v28, M29, c27, h⟩ := z_bi_c h
  refine z_cV (av := []) (st := []) lk_L_83 dL_law_255 (A_X8_thrown_107 (d := d + 13) hl c27) rfl rfl en_107 rfl (Nat.le_of_ble_eq_true rfl) rfl z_len rfl rfl ?_
  refine z_iload dL_law_258 rfl ?_
  refine z_icmp_eq (tgt := 265) dL_law_260 rfl (fun g30 => ?_) (fun g30 => ?_)
  · replace h := (if_pos g30).symm.trans h
    refine z_iload dL_law_265 rfl ?_
    refine z_if_ne (tgt := 282) dL_law_267 rfl (fun g31 => ?_) (fun g31 => ?_)
    · replace h := (if_pos g31).symm.trans h
      refine z_aload_n dL_law_270 rfl ?_
      refine z_ic kc_p0 dL_law_271 ?_
      refine z_ll0 (v := (Lm22 149 0)) dL_law_272 en_149 kn_p0 (z_ib_in rfl) rfl ?_
      refine z_iload dL_law_273 rfl ?_
      refine z_i2l dL_law_275 ?_
      refine z_lcmp dL_law_276 ?_
      refine z_if_eq (tgt := 282) dL_law_277 rfl (fun g32 => ?_) (fun g32 => ?_)
      · replace h := (if_pos g32).symm.trans h
        refine z_goto (tgt := 1541) dL_law_282 rfl ?_
        refine z_ii (ls' := [.ref 0, .ref 51, .ref 107, .ref 149, .int (i + (6 : Int32)), .int v20, .int v25, .null]) kc_p6 dL_law_1541 rfl (by decide) rfl ?_
        refine z_goto (tgt := 23) dL_law_1544 rfl ?_
        refine z_fg (ls' := [.ref 0, .ref 51, .ref 107, .ref 149, .int (i + (6 : Int32)), .null, .null, .null]) ⟨Or.inr rfl, Or.inr rfl, Or.inr rfl, Or.inr rfl, Or.inr rfl, Or.inl rfl, Or.inl rfl, Or.inl rfl, trivial⟩ ?_
        exact hK _ _ _ _ _ _ h
      · replace h := (if_neg g32).symm.trans h
        refine z_ic kc_p0 dL_law_280 ?_
        cases h
        exact z_rZ dL_law_281 rfl rfl
    · replace h := (if_neg g31).symm.trans h
      refine z_goto (tgt := 1541) dL_law_282 rfl ?_
      refine z_ii (ls' := [.ref 0, .ref 51, .ref 107, .ref 149, .int (i + (6 : Int32)), .int v20, .int v25, .null]) kc_p6 dL_law_1541 rfl (by decide) rfl ?_
      refine z_goto (tgt := 23) dL_law_1544 rfl ?_
      refine z_fg (ls' := [.ref 0, .ref 51, .ref 107, .ref 149, .int (i + (6 : Int32)), .null, .null, .null]) ⟨Or.inr rfl, Or.inr rfl, Or.inr rfl, Or.inr rfl, Or.inr rfl, Or.inl rfl, Or.inl rfl, Or.inl rfl, trivial⟩ ?_
      exact hK _ _ _ _ _ _ h
  · replace h := (if_neg g30).symm.trans h
    refine z_ic kc_p0 dL_law_263 ?_
    cases h
    exact z_rZ dL_law_264 rfl rfl
def f_L_c2 (K : Int32 → zMM → zML → Option (Int32 × zMM × zML)) (Ls : Nat) (i : Int32) (M : zMM) (Lm : zML) : Option (Int32 × zMM × zML) :=
  z_bi (f_X7_fault_51 M) fun v34 M35 =>
  z_bi (f_X8_fault_107 M35) fun v37 M38 =>
  if v34 = v37 then
    K (i + (6 : Int32)) M38 Lm
  else
    some ((0 : Int32), M38, Lm)
theorem A_L_c2 {l : Launch} (hl : l.stackTraces = false) {Ls d n : Nat} {K : Int32 → zMM → zML → Option (Int32 × zMM × zML)}
    (hK : ∀ (i : Int32) (M : zMM) (Lm : zML) (M' : zMM) (Lm' : zML) (v : Int32), K i M Lm = some (v, M', Lm') → z_AW l mL_law (d + 14) n (6 * n) 23 [.ref 0, .ref 51, .ref 107, .ref 149, .int i, .null, .null, .null] [] (z_L0 Ls, M, Lm) (.inl (some (.int v))) (z_L0 Ls, M', Lm')) :
    ∀ (i : Int32) (M : zMM) (Lm : zML) (M' : zMM) (Lm' : zML) (v : Int32), f_L_c2 K Ls i M Lm = some (v, M', Lm') → z_AW l mL_law (d + 14) (n + 1) (6 * n + 6) 285 [.ref 0, .ref 51, .ref 107, .ref 149, .int i, .null, .null, .null] [] (z_L0 Ls, M, Lm) (.inl (some (.int v))) (z_L0 Ls, M', Lm') := by
  intro i M Lm M' Lm' v h
  replace h : (  z_bi (f_X7_fault_51 M) fun v34 M35 =>
  z_bi (f_X8_fault_107 M35) fun v37 M38 =>
  if v34 = v37 then
    K (i + (6 : Int32)) M38 Lm
  else
    some ((0 : Int32), M38, Lm)) = some (v, M', Lm') := h
  refine z_aload_n dL_law_285 rfl ?_
  obtain ⟨v34, M35, c33, h⟩ := z_bi_c h
  refine z_cV (av := []) (st := []) lk_L_87 dL_law_286 (A_X7_fault_51 (d := d + 13) hl c33) rfl rfl en_51 rfl (Nat.le_of_ble_eq_true rfl) rfl z_len rfl rfl ?_
  refine z_aload_n dL_law_289 rfl ?_
  obtain ⟨v37, M38, c36, h⟩ := z_bi_c h
  refine z_cV (av := []) (st := [.int v34]) lk_L_90 dL_law_290 (A_X8_fault_107 (d := d + 13) hl c36) rfl rfl en_107 rfl (Nat.le_of_ble_eq_true rfl) rfl z_len rfl rfl ?_
  refine z_icmp_eq (tgt := 1541) dL_law_293 rfl (fun g39 => ?_) (fun g39 => ?_)
  · replace h := (if_pos g39).symm.trans h
    refine z_ii (ls' := [.ref 0, .ref 51, .ref 107, .ref 149, .int (i + (6 : Int32)), .null, .null, .null]) kc_p6 dL_law_1541 rfl (by decide) rfl ?_
    refine z_goto (tgt := 23) dL_law_1544 rfl ?_
    refine z_fg (ls' := [.ref 0, .ref 51, .ref 107, .ref 149, .int (i + (6 : Int32)), .null, .null, .null]) ⟨Or.inr rfl, Or.inr rfl, Or.inr rfl, Or.inr rfl, Or.inr rfl, Or.inl rfl, Or.inl rfl, Or.inl rfl, trivial⟩ ?_
    refine z_AW.mono (bc := n) (bs := 6 * n) (by omega) (by omega) ?_
    exact hK _ _ _ _ _ _ h
  · replace h := (if_neg g39).symm.trans h
    refine z_ic kc_p0 dL_law_296 ?_
    cases h
    exact z_rZ dL_law_297 rfl rfl
def f_L_c3 (K : Int32 → zMM → zML → Option (Int32 × zMM × zML)) (Ls : Nat) (i : Int32) (M : zMM) (Lm : zML) : Option (Int32 × zMM × zML) :=
  if z_ib (i + (1 : Int32)) Ls = true then
    z_bw (f_L_count (M 0 (i + (1 : Int32)).toNatClampNeg) M Lm) fun v42 M43 Lm44 =>
    if z_ib (i + (1 : Int32)) Ls = true then
      z_bi (f_X8_count_107 (M43 0 (i + (1 : Int32)).toNatClampNeg) M43) fun v47 M48 =>
      z_bi (f_X8_thrown_107 M48) fun v50 M51 =>
      if v50 = v42 then
        if v42 = 0 then
          if (lg_cmp (Lm44 149 0) v47.toInt64) = 0 then
            K (i + (6 : Int32)) M51 Lm44
          else
            some ((0 : Int32), M51, Lm44)
        else
          K (i + (6 : Int32)) M51 Lm44
      else
        some ((0 : Int32), M51, Lm44)
    else none
  else none
theorem A_L_c3 {l : Launch} (hl : l.stackTraces = false) {Ls d n : Nat} {K : Int32 → zMM → zML → Option (Int32 × zMM × zML)}
    (hK : ∀ (i : Int32) (M : zMM) (Lm : zML) (M' : zMM) (Lm' : zML) (v : Int32), K i M Lm = some (v, M', Lm') → z_AW l mL_law (d + 14) n (6 * n) 23 [.ref 0, .ref 51, .ref 107, .ref 149, .int i, .null, .null, .null] [] (z_L0 Ls, M, Lm) (.inl (some (.int v))) (z_L0 Ls, M', Lm')) :
    ∀ (i : Int32) (M : zMM) (Lm : zML) (M' : zMM) (Lm' : zML) (v : Int32), f_L_c3 K Ls i M Lm = some (v, M', Lm') → z_AW l mL_law (d + 14) (n + 1) (6 * n + 6) 298 [.ref 0, .ref 51, .ref 107, .ref 149, .int i, .null, .null, .null] [] (z_L0 Ls, M, Lm) (.inl (some (.int v))) (z_L0 Ls, M', Lm') := by
  intro i M Lm M' Lm' v h
  replace h : (  if z_ib (i + (1 : Int32)) Ls = true then
    z_bw (f_L_count (M 0 (i + (1 : Int32)).toNatClampNeg) M Lm) fun v42 M43 Lm44 =>
    if z_ib (i + (1 : Int32)) Ls = true then
      z_bi (f_X8_count_107 (M43 0 (i + (1 : Int32)).toNatClampNeg) M43) fun v47 M48 =>
      z_bi (f_X8_thrown_107 M48) fun v50 M51 =>
      if v50 = v42 then
        if v42 = 0 then
          if (lg_cmp (Lm44 149 0) v47.toInt64) = 0 then
            K (i + (6 : Int32)) M51 Lm44
          else
            some ((0 : Int32), M51, Lm44)
        else
          K (i + (6 : Int32)) M51 Lm44
      else
        some ((0 : Int32), M51, Lm44)
    else none
  else none) = some (v, M', Lm') := h
  refine z_aload_n dL_law_298 rfl ?_
  refine z_aload_n dL_law_299 rfl ?_
  refine z_iload dL_law_300 rfl ?_
  refine z_ic kc_p1 dL_law_302 ?_
  refine z_iadd dL_law_303 ?_
  obtain ⟨g40, h⟩ := z_ifn h
  refine z_al (v := (M 0 (i + (1 : Int32)).toNatClampNeg)) dL_law_304 en_0 rfl (z_ib_in g40) rfl ?_
  refine z_aload_n dL_law_305 rfl ?_
  obtain ⟨v42, M43, Lm44, c41, h⟩ := z_bw_c h
  refine z_cW (bc := n) (bs := 6 * n) (av := [.ref 51, .int (M 0 (i + (1 : Int32)).toNatClampNeg), .ref 149]) (st := []) lk_L_91 dL_law_306 (A_L_count (d := d + 6) hl c41) rfl rfl (Nat.le_of_ble_eq_true rfl) rfl z_len rfl rfl ?_
  refine z_istore (ls' := [.ref 0, .ref 51, .ref 107, .ref 149, .int i, .int v42, .null, .null]) dL_law_309 (by decide) rfl ?_
  refine z_aload_n dL_law_311 rfl ?_
  refine z_aload_n dL_law_312 rfl ?_
  refine z_iload dL_law_313 rfl ?_
  refine z_ic kc_p1 dL_law_315 ?_
  refine z_iadd dL_law_316 ?_
  obtain ⟨g45, h⟩ := z_ifn h
  refine z_al (v := (M43 0 (i + (1 : Int32)).toNatClampNeg)) dL_law_317 en_0 rfl (z_ib_in g45) rfl ?_
  obtain ⟨v47, M48, c46, h⟩ := z_bi_c h
  refine z_cV (av := [.int (M43 0 (i + (1 : Int32)).toNatClampNeg)]) (st := []) lk_L_93 dL_law_318 (A_X8_count_107 (d := d + 12) hl c46) rfl rfl en_107 rfl (Nat.le_of_ble_eq_true rfl) rfl z_len rfl rfl ?_
  refine z_istore (ls' := [.ref 0, .ref 51, .ref 107, .ref 149, .int i, .int v42, .int v47, .null]) dL_law_321 (by decide) rfl ?_
  refine z_aload_n dL_law_323 rfl ?_
  obtain ⟨v50, M51, c49, h⟩ := z_bi_c h
  refine z_cV (av := []) (st := []) lk_L_83 dL_law_324 (A_X8_thrown_107 (d := d + 13) hl c49) rfl rfl en_107 rfl (Nat.le_of_ble_eq_true rfl) rfl z_len rfl rfl ?_
  refine z_iload dL_law_327 rfl ?_
  refine z_icmp_eq (tgt := 334) dL_law_329 rfl (fun g52 => ?_) (fun g52 => ?_)
  · replace h := (if_pos g52).symm.trans h
    refine z_iload dL_law_334 rfl ?_
    refine z_if_ne (tgt := 351) dL_law_336 rfl (fun g53 => ?_) (fun g53 => ?_)
    · replace h := (if_pos g53).symm.trans h
      refine z_aload_n dL_law_339 rfl ?_
      refine z_ic kc_p0 dL_law_340 ?_
      refine z_ll0 (v := (Lm44 149 0)) dL_law_341 en_149 kn_p0 (z_ib_in rfl) rfl ?_
      refine z_iload dL_law_342 rfl ?_
      refine z_i2l dL_law_344 ?_
      refine z_lcmp dL_law_345 ?_
      refine z_if_eq (tgt := 351) dL_law_346 rfl (fun g54 => ?_) (fun g54 => ?_)
      · replace h := (if_pos g54).symm.trans h
        refine z_goto (tgt := 1541) dL_law_351 rfl ?_
        refine z_ii (ls' := [.ref 0, .ref 51, .ref 107, .ref 149, .int (i + (6 : Int32)), .int v42, .int v47, .null]) kc_p6 dL_law_1541 rfl (by decide) rfl ?_
        refine z_goto (tgt := 23) dL_law_1544 rfl ?_
        refine z_fg (ls' := [.ref 0, .ref 51, .ref 107, .ref 149, .int (i + (6 : Int32)), .null, .null, .null]) ⟨Or.inr rfl, Or.inr rfl, Or.inr rfl, Or.inr rfl, Or.inr rfl, Or.inl rfl, Or.inl rfl, Or.inl rfl, trivial⟩ ?_
        exact hK _ _ _ _ _ _ h
      · replace h := (if_neg g54).symm.trans h
        refine z_ic kc_p0 dL_law_349 ?_
        cases h
        exact z_rZ dL_law_350 rfl rfl
    · replace h := (if_neg g53).symm.trans h
      refine z_goto (tgt := 1541) dL_law_351 rfl ?_
      refine z_ii (ls' := [.ref 0, .ref 51, .ref 107, .ref 149, .int (i + (6 : Int32)), .int v42, .int v47, .null]) kc_p6 dL_law_1541 rfl (by decide) rfl ?_
      refine z_goto (tgt := 23) dL_law_1544 rfl ?_
      refine z_fg (ls' := [.ref 0, .ref 51, .ref 107, .ref 149, .int (i + (6 : Int32)), .null, .null, .null]) ⟨Or.inr rfl, Or.inr rfl, Or.inr rfl, Or.inr rfl, Or.inr rfl, Or.inl rfl, Or.inl rfl, Or.inl rfl, trivial⟩ ?_
      exact hK _ _ _ _ _ _ h
  · replace h := (if_neg g52).symm.trans h
    refine z_ic kc_p0 dL_law_332 ?_
    cases h
    exact z_rZ dL_law_333 rfl rfl
def f_L_c4 (K : Int32 → zMM → zML → Option (Int32 × zMM × zML)) (Ls : Nat) (i : Int32) (M : zMM) (Lm : zML) : Option (Int32 × zMM × zML) :=
  if z_ib (i + (1 : Int32)) Ls = true then
    if z_ib (i + (2 : Int32)) Ls = true then
      z_bw (f_L_town (M 0 (i + (1 : Int32)).toNatClampNeg) (M 0 (i + (2 : Int32)).toNatClampNeg) M Lm) fun v58 M59 Lm60 =>
      if z_ib (i + (1 : Int32)) Ls = true then
        if z_ib (i + (2 : Int32)) Ls = true then
          z_bi (f_X8_town_107 (M59 0 (i + (1 : Int32)).toNatClampNeg) (M59 0 (i + (2 : Int32)).toNatClampNeg) M59) fun v64 M65 =>
          z_bi (f_X8_thrown_107 M65) fun v67 M68 =>
          if v67 = v58 then
            if v58 = 0 then
              if (lg_cmp (Lm60 149 0) v64.toInt64) = 0 then
                K (i + (6 : Int32)) M68 Lm60
              else
                some ((0 : Int32), M68, Lm60)
            else
              K (i + (6 : Int32)) M68 Lm60
          else
            some ((0 : Int32), M68, Lm60)
        else none
      else none
    else none
  else none
theorem A_L_c4 {l : Launch} (hl : l.stackTraces = false) {Ls d n : Nat} {K : Int32 → zMM → zML → Option (Int32 × zMM × zML)}
    (hK : ∀ (i : Int32) (M : zMM) (Lm : zML) (M' : zMM) (Lm' : zML) (v : Int32), K i M Lm = some (v, M', Lm') → z_AW l mL_law (d + 14) n (6 * n) 23 [.ref 0, .ref 51, .ref 107, .ref 149, .int i, .null, .null, .null] [] (z_L0 Ls, M, Lm) (.inl (some (.int v))) (z_L0 Ls, M', Lm')) :
    ∀ (i : Int32) (M : zMM) (Lm : zML) (M' : zMM) (Lm' : zML) (v : Int32), f_L_c4 K Ls i M Lm = some (v, M', Lm') → z_AW l mL_law (d + 14) (n + 1) (6 * n + 6) 354 [.ref 0, .ref 51, .ref 107, .ref 149, .int i, .null, .null, .null] [] (z_L0 Ls, M, Lm) (.inl (some (.int v))) (z_L0 Ls, M', Lm') := by
  intro i M Lm M' Lm' v h
  replace h : (  if z_ib (i + (1 : Int32)) Ls = true then
    if z_ib (i + (2 : Int32)) Ls = true then
      z_bw (f_L_town (M 0 (i + (1 : Int32)).toNatClampNeg) (M 0 (i + (2 : Int32)).toNatClampNeg) M Lm) fun v58 M59 Lm60 =>
      if z_ib (i + (1 : Int32)) Ls = true then
        if z_ib (i + (2 : Int32)) Ls = true then
          z_bi (f_X8_town_107 (M59 0 (i + (1 : Int32)).toNatClampNeg) (M59 0 (i + (2 : Int32)).toNatClampNeg) M59) fun v64 M65 =>
          z_bi (f_X8_thrown_107 M65) fun v67 M68 =>
          if v67 = v58 then
            if v58 = 0 then
              if (lg_cmp (Lm60 149 0) v64.toInt64) = 0 then
                K (i + (6 : Int32)) M68 Lm60
              else
                some ((0 : Int32), M68, Lm60)
            else
              K (i + (6 : Int32)) M68 Lm60
          else
            some ((0 : Int32), M68, Lm60)
        else none
      else none
    else none
  else none) = some (v, M', Lm') := h
  refine z_aload_n dL_law_354 rfl ?_
  refine z_aload_n dL_law_355 rfl ?_
  refine z_iload dL_law_356 rfl ?_
  refine z_ic kc_p1 dL_law_358 ?_
  refine z_iadd dL_law_359 ?_
  obtain ⟨g55, h⟩ := z_ifn h
  refine z_al (v := (M 0 (i + (1 : Int32)).toNatClampNeg)) dL_law_360 en_0 rfl (z_ib_in g55) rfl ?_
  refine z_aload_n dL_law_361 rfl ?_
  refine z_iload dL_law_362 rfl ?_
  refine z_ic kc_p2 dL_law_364 ?_
  refine z_iadd dL_law_365 ?_
  obtain ⟨g56, h⟩ := z_ifn h
  refine z_al (v := (M 0 (i + (2 : Int32)).toNatClampNeg)) dL_law_366 en_0 rfl (z_ib_in g56) rfl ?_
  refine z_aload_n dL_law_367 rfl ?_
  obtain ⟨v58, M59, Lm60, c57, h⟩ := z_bw_c h
  refine z_cW (bc := n) (bs := 6 * n) (av := [.ref 51, .int (M 0 (i + (1 : Int32)).toNatClampNeg), .int (M 0 (i + (2 : Int32)).toNatClampNeg), .ref 149]) (st := []) lk_L_94 dL_law_368 (A_L_town (d := d + 5) hl c57) rfl rfl (Nat.le_of_ble_eq_true rfl) rfl z_len rfl rfl ?_
  refine z_istore (ls' := [.ref 0, .ref 51, .ref 107, .ref 149, .int i, .int v58, .null, .null]) dL_law_371 (by decide) rfl ?_
  refine z_aload_n dL_law_373 rfl ?_
  refine z_aload_n dL_law_374 rfl ?_
  refine z_iload dL_law_375 rfl ?_
  refine z_ic kc_p1 dL_law_377 ?_
  refine z_iadd dL_law_378 ?_
  obtain ⟨g61, h⟩ := z_ifn h
  refine z_al (v := (M59 0 (i + (1 : Int32)).toNatClampNeg)) dL_law_379 en_0 rfl (z_ib_in g61) rfl ?_
  refine z_aload_n dL_law_380 rfl ?_
  refine z_iload dL_law_381 rfl ?_
  refine z_ic kc_p2 dL_law_383 ?_
  refine z_iadd dL_law_384 ?_
  obtain ⟨g62, h⟩ := z_ifn h
  refine z_al (v := (M59 0 (i + (2 : Int32)).toNatClampNeg)) dL_law_385 en_0 rfl (z_ib_in g62) rfl ?_
  obtain ⟨v64, M65, c63, h⟩ := z_bi_c h
  refine z_cV (av := [.int (M59 0 (i + (1 : Int32)).toNatClampNeg), .int (M59 0 (i + (2 : Int32)).toNatClampNeg)]) (st := []) lk_L_97 dL_law_386 (A_X8_town_107 (d := d + 11) hl c63) rfl rfl en_107 rfl (Nat.le_of_ble_eq_true rfl) rfl z_len rfl rfl ?_
  refine z_istore (ls' := [.ref 0, .ref 51, .ref 107, .ref 149, .int i, .int v58, .int v64, .null]) dL_law_389 (by decide) rfl ?_
  refine z_aload_n dL_law_391 rfl ?_
  obtain ⟨v67, M68, c66, h⟩ := z_bi_c h
  refine z_cV (av := []) (st := []) lk_L_83 dL_law_392 (A_X8_thrown_107 (d := d + 13) hl c66) rfl rfl en_107 rfl (Nat.le_of_ble_eq_true rfl) rfl z_len rfl rfl ?_
  refine z_iload dL_law_395 rfl ?_
  refine z_icmp_eq (tgt := 402) dL_law_397 rfl (fun g69 => ?_) (fun g69 => ?_)
  · replace h := (if_pos g69).symm.trans h
    refine z_iload dL_law_402 rfl ?_
    refine z_if_ne (tgt := 419) dL_law_404 rfl (fun g70 => ?_) (fun g70 => ?_)
    · replace h := (if_pos g70).symm.trans h
      refine z_aload_n dL_law_407 rfl ?_
      refine z_ic kc_p0 dL_law_408 ?_
      refine z_ll0 (v := (Lm60 149 0)) dL_law_409 en_149 kn_p0 (z_ib_in rfl) rfl ?_
      refine z_iload dL_law_410 rfl ?_
      refine z_i2l dL_law_412 ?_
      refine z_lcmp dL_law_413 ?_
      refine z_if_eq (tgt := 419) dL_law_414 rfl (fun g71 => ?_) (fun g71 => ?_)
      · replace h := (if_pos g71).symm.trans h
        refine z_goto (tgt := 1541) dL_law_419 rfl ?_
        refine z_ii (ls' := [.ref 0, .ref 51, .ref 107, .ref 149, .int (i + (6 : Int32)), .int v58, .int v64, .null]) kc_p6 dL_law_1541 rfl (by decide) rfl ?_
        refine z_goto (tgt := 23) dL_law_1544 rfl ?_
        refine z_fg (ls' := [.ref 0, .ref 51, .ref 107, .ref 149, .int (i + (6 : Int32)), .null, .null, .null]) ⟨Or.inr rfl, Or.inr rfl, Or.inr rfl, Or.inr rfl, Or.inr rfl, Or.inl rfl, Or.inl rfl, Or.inl rfl, trivial⟩ ?_
        exact hK _ _ _ _ _ _ h
      · replace h := (if_neg g71).symm.trans h
        refine z_ic kc_p0 dL_law_417 ?_
        cases h
        exact z_rZ dL_law_418 rfl rfl
    · replace h := (if_neg g70).symm.trans h
      refine z_goto (tgt := 1541) dL_law_419 rfl ?_
      refine z_ii (ls' := [.ref 0, .ref 51, .ref 107, .ref 149, .int (i + (6 : Int32)), .int v58, .int v64, .null]) kc_p6 dL_law_1541 rfl (by decide) rfl ?_
      refine z_goto (tgt := 23) dL_law_1544 rfl ?_
      refine z_fg (ls' := [.ref 0, .ref 51, .ref 107, .ref 149, .int (i + (6 : Int32)), .null, .null, .null]) ⟨Or.inr rfl, Or.inr rfl, Or.inr rfl, Or.inr rfl, Or.inr rfl, Or.inl rfl, Or.inl rfl, Or.inl rfl, trivial⟩ ?_
      exact hK _ _ _ _ _ _ h
  · replace h := (if_neg g69).symm.trans h
    refine z_ic kc_p0 dL_law_400 ?_
    cases h
    exact z_rZ dL_law_401 rfl rfl
def f_L_c5 (K : Int32 → zMM → zML → Option (Int32 × zMM × zML)) (Ls : Nat) (i : Int32) (M : zMM) (Lm : zML) : Option (Int32 × zMM × zML) :=
  if z_ib (i + (1 : Int32)) Ls = true then
    if z_ib (i + (2 : Int32)) Ls = true then
      z_bw (f_L_trunk (M 0 (i + (1 : Int32)).toNatClampNeg) (M 0 (i + (2 : Int32)).toNatClampNeg) M Lm) fun v75 M76 Lm77 =>
      if z_ib (i + (1 : Int32)) Ls = true then
        if z_ib (i + (2 : Int32)) Ls = true then
          z_bi (f_X8_trunk_107 (M76 0 (i + (1 : Int32)).toNatClampNeg) (M76 0 (i + (2 : Int32)).toNatClampNeg) M76) fun v81 M82 =>
          z_bi (f_X8_thrown_107 M82) fun v84 M85 =>
          if v84 = v75 then
            if v75 = 0 then
              if (lg_cmp (Lm77 149 0) v81.toInt64) = 0 then
                K (i + (6 : Int32)) M85 Lm77
              else
                some ((0 : Int32), M85, Lm77)
            else
              K (i + (6 : Int32)) M85 Lm77
          else
            some ((0 : Int32), M85, Lm77)
        else none
      else none
    else none
  else none
theorem A_L_c5 {l : Launch} (hl : l.stackTraces = false) {Ls d n : Nat} {K : Int32 → zMM → zML → Option (Int32 × zMM × zML)}
    (hK : ∀ (i : Int32) (M : zMM) (Lm : zML) (M' : zMM) (Lm' : zML) (v : Int32), K i M Lm = some (v, M', Lm') → z_AW l mL_law (d + 14) n (6 * n) 23 [.ref 0, .ref 51, .ref 107, .ref 149, .int i, .null, .null, .null] [] (z_L0 Ls, M, Lm) (.inl (some (.int v))) (z_L0 Ls, M', Lm')) :
    ∀ (i : Int32) (M : zMM) (Lm : zML) (M' : zMM) (Lm' : zML) (v : Int32), f_L_c5 K Ls i M Lm = some (v, M', Lm') → z_AW l mL_law (d + 14) (n + 1) (6 * n + 6) 422 [.ref 0, .ref 51, .ref 107, .ref 149, .int i, .null, .null, .null] [] (z_L0 Ls, M, Lm) (.inl (some (.int v))) (z_L0 Ls, M', Lm') := by
  intro i M Lm M' Lm' v h
  replace h : (  if z_ib (i + (1 : Int32)) Ls = true then
    if z_ib (i + (2 : Int32)) Ls = true then
      z_bw (f_L_trunk (M 0 (i + (1 : Int32)).toNatClampNeg) (M 0 (i + (2 : Int32)).toNatClampNeg) M Lm) fun v75 M76 Lm77 =>
      if z_ib (i + (1 : Int32)) Ls = true then
        if z_ib (i + (2 : Int32)) Ls = true then
          z_bi (f_X8_trunk_107 (M76 0 (i + (1 : Int32)).toNatClampNeg) (M76 0 (i + (2 : Int32)).toNatClampNeg) M76) fun v81 M82 =>
          z_bi (f_X8_thrown_107 M82) fun v84 M85 =>
          if v84 = v75 then
            if v75 = 0 then
              if (lg_cmp (Lm77 149 0) v81.toInt64) = 0 then
                K (i + (6 : Int32)) M85 Lm77
              else
                some ((0 : Int32), M85, Lm77)
            else
              K (i + (6 : Int32)) M85 Lm77
          else
            some ((0 : Int32), M85, Lm77)
        else none
      else none
    else none
  else none) = some (v, M', Lm') := h
  refine z_aload_n dL_law_422 rfl ?_
  refine z_aload_n dL_law_423 rfl ?_
  refine z_iload dL_law_424 rfl ?_
  refine z_ic kc_p1 dL_law_426 ?_
  refine z_iadd dL_law_427 ?_
  obtain ⟨g72, h⟩ := z_ifn h
  refine z_al (v := (M 0 (i + (1 : Int32)).toNatClampNeg)) dL_law_428 en_0 rfl (z_ib_in g72) rfl ?_
  refine z_aload_n dL_law_429 rfl ?_
  refine z_iload dL_law_430 rfl ?_
  refine z_ic kc_p2 dL_law_432 ?_
  refine z_iadd dL_law_433 ?_
  obtain ⟨g73, h⟩ := z_ifn h
  refine z_al (v := (M 0 (i + (2 : Int32)).toNatClampNeg)) dL_law_434 en_0 rfl (z_ib_in g73) rfl ?_
  refine z_aload_n dL_law_435 rfl ?_
  obtain ⟨v75, M76, Lm77, c74, h⟩ := z_bw_c h
  refine z_cW (bc := n) (bs := 6 * n) (av := [.ref 51, .int (M 0 (i + (1 : Int32)).toNatClampNeg), .int (M 0 (i + (2 : Int32)).toNatClampNeg), .ref 149]) (st := []) lk_L_98 dL_law_436 (A_L_trunk (d := d + 5) hl c74) rfl rfl (Nat.le_of_ble_eq_true rfl) rfl z_len rfl rfl ?_
  refine z_istore (ls' := [.ref 0, .ref 51, .ref 107, .ref 149, .int i, .int v75, .null, .null]) dL_law_439 (by decide) rfl ?_
  refine z_aload_n dL_law_441 rfl ?_
  refine z_aload_n dL_law_442 rfl ?_
  refine z_iload dL_law_443 rfl ?_
  refine z_ic kc_p1 dL_law_445 ?_
  refine z_iadd dL_law_446 ?_
  obtain ⟨g78, h⟩ := z_ifn h
  refine z_al (v := (M76 0 (i + (1 : Int32)).toNatClampNeg)) dL_law_447 en_0 rfl (z_ib_in g78) rfl ?_
  refine z_aload_n dL_law_448 rfl ?_
  refine z_iload dL_law_449 rfl ?_
  refine z_ic kc_p2 dL_law_451 ?_
  refine z_iadd dL_law_452 ?_
  obtain ⟨g79, h⟩ := z_ifn h
  refine z_al (v := (M76 0 (i + (2 : Int32)).toNatClampNeg)) dL_law_453 en_0 rfl (z_ib_in g79) rfl ?_
  obtain ⟨v81, M82, c80, h⟩ := z_bi_c h
  refine z_cV (av := [.int (M76 0 (i + (1 : Int32)).toNatClampNeg), .int (M76 0 (i + (2 : Int32)).toNatClampNeg)]) (st := []) lk_L_100 dL_law_454 (A_X8_trunk_107 (d := d + 11) hl c80) rfl rfl en_107 rfl (Nat.le_of_ble_eq_true rfl) rfl z_len rfl rfl ?_
  refine z_istore (ls' := [.ref 0, .ref 51, .ref 107, .ref 149, .int i, .int v75, .int v81, .null]) dL_law_457 (by decide) rfl ?_
  refine z_aload_n dL_law_459 rfl ?_
  obtain ⟨v84, M85, c83, h⟩ := z_bi_c h
  refine z_cV (av := []) (st := []) lk_L_83 dL_law_460 (A_X8_thrown_107 (d := d + 13) hl c83) rfl rfl en_107 rfl (Nat.le_of_ble_eq_true rfl) rfl z_len rfl rfl ?_
  refine z_iload dL_law_463 rfl ?_
  refine z_icmp_eq (tgt := 470) dL_law_465 rfl (fun g86 => ?_) (fun g86 => ?_)
  · replace h := (if_pos g86).symm.trans h
    refine z_iload dL_law_470 rfl ?_
    refine z_if_ne (tgt := 487) dL_law_472 rfl (fun g87 => ?_) (fun g87 => ?_)
    · replace h := (if_pos g87).symm.trans h
      refine z_aload_n dL_law_475 rfl ?_
      refine z_ic kc_p0 dL_law_476 ?_
      refine z_ll0 (v := (Lm77 149 0)) dL_law_477 en_149 kn_p0 (z_ib_in rfl) rfl ?_
      refine z_iload dL_law_478 rfl ?_
      refine z_i2l dL_law_480 ?_
      refine z_lcmp dL_law_481 ?_
      refine z_if_eq (tgt := 487) dL_law_482 rfl (fun g88 => ?_) (fun g88 => ?_)
      · replace h := (if_pos g88).symm.trans h
        refine z_goto (tgt := 1541) dL_law_487 rfl ?_
        refine z_ii (ls' := [.ref 0, .ref 51, .ref 107, .ref 149, .int (i + (6 : Int32)), .int v75, .int v81, .null]) kc_p6 dL_law_1541 rfl (by decide) rfl ?_
        refine z_goto (tgt := 23) dL_law_1544 rfl ?_
        refine z_fg (ls' := [.ref 0, .ref 51, .ref 107, .ref 149, .int (i + (6 : Int32)), .null, .null, .null]) ⟨Or.inr rfl, Or.inr rfl, Or.inr rfl, Or.inr rfl, Or.inr rfl, Or.inl rfl, Or.inl rfl, Or.inl rfl, trivial⟩ ?_
        exact hK _ _ _ _ _ _ h
      · replace h := (if_neg g88).symm.trans h
        refine z_ic kc_p0 dL_law_485 ?_
        cases h
        exact z_rZ dL_law_486 rfl rfl
    · replace h := (if_neg g87).symm.trans h
      refine z_goto (tgt := 1541) dL_law_487 rfl ?_
      refine z_ii (ls' := [.ref 0, .ref 51, .ref 107, .ref 149, .int (i + (6 : Int32)), .int v75, .int v81, .null]) kc_p6 dL_law_1541 rfl (by decide) rfl ?_
      refine z_goto (tgt := 23) dL_law_1544 rfl ?_
      refine z_fg (ls' := [.ref 0, .ref 51, .ref 107, .ref 149, .int (i + (6 : Int32)), .null, .null, .null]) ⟨Or.inr rfl, Or.inr rfl, Or.inr rfl, Or.inr rfl, Or.inr rfl, Or.inl rfl, Or.inl rfl, Or.inl rfl, trivial⟩ ?_
      exact hK _ _ _ _ _ _ h
  · replace h := (if_neg g86).symm.trans h
    refine z_ic kc_p0 dL_law_468 ?_
    cases h
    exact z_rZ dL_law_469 rfl rfl
def f_L_c6 (K : Int32 → zMM → zML → Option (Int32 × zMM × zML)) (Ls : Nat) (i : Int32) (M : zMM) (Lm : zML) : Option (Int32 × zMM × zML) :=
  if z_ib (i + (1 : Int32)) Ls = true then
    if z_ib (i + (2 : Int32)) Ls = true then
      z_bw (f_L_way (M 0 (i + (1 : Int32)).toNatClampNeg) (M 0 (i + (2 : Int32)).toNatClampNeg) M Lm) fun v92 M93 Lm94 =>
      if z_ib (i + (1 : Int32)) Ls = true then
        if z_ib (i + (2 : Int32)) Ls = true then
          z_bi (f_X8_way_107 (M93 0 (i + (1 : Int32)).toNatClampNeg) (M93 0 (i + (2 : Int32)).toNatClampNeg) M93) fun v98 M99 =>
          z_bi (f_X8_thrown_107 M99) fun v101 M102 =>
          if v101 = v92 then
            if v92 = 0 then
              if (lg_cmp (Lm94 149 0) v98.toInt64) = 0 then
                K (i + (6 : Int32)) M102 Lm94
              else
                some ((0 : Int32), M102, Lm94)
            else
              K (i + (6 : Int32)) M102 Lm94
          else
            some ((0 : Int32), M102, Lm94)
        else none
      else none
    else none
  else none
theorem A_L_c6 {l : Launch} (hl : l.stackTraces = false) {Ls d n : Nat} {K : Int32 → zMM → zML → Option (Int32 × zMM × zML)}
    (hK : ∀ (i : Int32) (M : zMM) (Lm : zML) (M' : zMM) (Lm' : zML) (v : Int32), K i M Lm = some (v, M', Lm') → z_AW l mL_law (d + 14) n (6 * n) 23 [.ref 0, .ref 51, .ref 107, .ref 149, .int i, .null, .null, .null] [] (z_L0 Ls, M, Lm) (.inl (some (.int v))) (z_L0 Ls, M', Lm')) :
    ∀ (i : Int32) (M : zMM) (Lm : zML) (M' : zMM) (Lm' : zML) (v : Int32), f_L_c6 K Ls i M Lm = some (v, M', Lm') → z_AW l mL_law (d + 14) (n + 1) (6 * n + 6) 490 [.ref 0, .ref 51, .ref 107, .ref 149, .int i, .null, .null, .null] [] (z_L0 Ls, M, Lm) (.inl (some (.int v))) (z_L0 Ls, M', Lm') := by
  intro i M Lm M' Lm' v h
  replace h : (  if z_ib (i + (1 : Int32)) Ls = true then
    if z_ib (i + (2 : Int32)) Ls = true then
      z_bw (f_L_way (M 0 (i + (1 : Int32)).toNatClampNeg) (M 0 (i + (2 : Int32)).toNatClampNeg) M Lm) fun v92 M93 Lm94 =>
      if z_ib (i + (1 : Int32)) Ls = true then
        if z_ib (i + (2 : Int32)) Ls = true then
          z_bi (f_X8_way_107 (M93 0 (i + (1 : Int32)).toNatClampNeg) (M93 0 (i + (2 : Int32)).toNatClampNeg) M93) fun v98 M99 =>
          z_bi (f_X8_thrown_107 M99) fun v101 M102 =>
          if v101 = v92 then
            if v92 = 0 then
              if (lg_cmp (Lm94 149 0) v98.toInt64) = 0 then
                K (i + (6 : Int32)) M102 Lm94
              else
                some ((0 : Int32), M102, Lm94)
            else
              K (i + (6 : Int32)) M102 Lm94
          else
            some ((0 : Int32), M102, Lm94)
        else none
      else none
    else none
  else none) = some (v, M', Lm') := h
  refine z_aload_n dL_law_490 rfl ?_
  refine z_aload_n dL_law_491 rfl ?_
  refine z_iload dL_law_492 rfl ?_
  refine z_ic kc_p1 dL_law_494 ?_
  refine z_iadd dL_law_495 ?_
  obtain ⟨g89, h⟩ := z_ifn h
  refine z_al (v := (M 0 (i + (1 : Int32)).toNatClampNeg)) dL_law_496 en_0 rfl (z_ib_in g89) rfl ?_
  refine z_aload_n dL_law_497 rfl ?_
  refine z_iload dL_law_498 rfl ?_
  refine z_ic kc_p2 dL_law_500 ?_
  refine z_iadd dL_law_501 ?_
  obtain ⟨g90, h⟩ := z_ifn h
  refine z_al (v := (M 0 (i + (2 : Int32)).toNatClampNeg)) dL_law_502 en_0 rfl (z_ib_in g90) rfl ?_
  refine z_aload_n dL_law_503 rfl ?_
  obtain ⟨v92, M93, Lm94, c91, h⟩ := z_bw_c h
  refine z_cW (bc := n) (bs := 6 * n) (av := [.ref 51, .int (M 0 (i + (1 : Int32)).toNatClampNeg), .int (M 0 (i + (2 : Int32)).toNatClampNeg), .ref 149]) (st := []) lk_L_101 dL_law_504 (A_L_way (d := d + 5) hl c91) rfl rfl (Nat.le_of_ble_eq_true rfl) rfl z_len rfl rfl ?_
  refine z_istore (ls' := [.ref 0, .ref 51, .ref 107, .ref 149, .int i, .int v92, .null, .null]) dL_law_507 (by decide) rfl ?_
  refine z_aload_n dL_law_509 rfl ?_
  refine z_aload_n dL_law_510 rfl ?_
  refine z_iload dL_law_511 rfl ?_
  refine z_ic kc_p1 dL_law_513 ?_
  refine z_iadd dL_law_514 ?_
  obtain ⟨g95, h⟩ := z_ifn h
  refine z_al (v := (M93 0 (i + (1 : Int32)).toNatClampNeg)) dL_law_515 en_0 rfl (z_ib_in g95) rfl ?_
  refine z_aload_n dL_law_516 rfl ?_
  refine z_iload dL_law_517 rfl ?_
  refine z_ic kc_p2 dL_law_519 ?_
  refine z_iadd dL_law_520 ?_
  obtain ⟨g96, h⟩ := z_ifn h
  refine z_al (v := (M93 0 (i + (2 : Int32)).toNatClampNeg)) dL_law_521 en_0 rfl (z_ib_in g96) rfl ?_
  obtain ⟨v98, M99, c97, h⟩ := z_bi_c h
  refine z_cV (av := [.int (M93 0 (i + (1 : Int32)).toNatClampNeg), .int (M93 0 (i + (2 : Int32)).toNatClampNeg)]) (st := []) lk_L_103 dL_law_522 (A_X8_way_107 (d := d + 11) hl c97) rfl rfl en_107 rfl (Nat.le_of_ble_eq_true rfl) rfl z_len rfl rfl ?_
  refine z_istore (ls' := [.ref 0, .ref 51, .ref 107, .ref 149, .int i, .int v92, .int v98, .null]) dL_law_525 (by decide) rfl ?_
  refine z_aload_n dL_law_527 rfl ?_
  obtain ⟨v101, M102, c100, h⟩ := z_bi_c h
  refine z_cV (av := []) (st := []) lk_L_83 dL_law_528 (A_X8_thrown_107 (d := d + 13) hl c100) rfl rfl en_107 rfl (Nat.le_of_ble_eq_true rfl) rfl z_len rfl rfl ?_
  refine z_iload dL_law_531 rfl ?_
  refine z_icmp_eq (tgt := 538) dL_law_533 rfl (fun g103 => ?_) (fun g103 => ?_)
  · replace h := (if_pos g103).symm.trans h
    refine z_iload dL_law_538 rfl ?_
    refine z_if_ne (tgt := 555) dL_law_540 rfl (fun g104 => ?_) (fun g104 => ?_)
    · replace h := (if_pos g104).symm.trans h
      refine z_aload_n dL_law_543 rfl ?_
      refine z_ic kc_p0 dL_law_544 ?_
      refine z_ll0 (v := (Lm94 149 0)) dL_law_545 en_149 kn_p0 (z_ib_in rfl) rfl ?_
      refine z_iload dL_law_546 rfl ?_
      refine z_i2l dL_law_548 ?_
      refine z_lcmp dL_law_549 ?_
      refine z_if_eq (tgt := 555) dL_law_550 rfl (fun g105 => ?_) (fun g105 => ?_)
      · replace h := (if_pos g105).symm.trans h
        refine z_goto (tgt := 1541) dL_law_555 rfl ?_
        refine z_ii (ls' := [.ref 0, .ref 51, .ref 107, .ref 149, .int (i + (6 : Int32)), .int v92, .int v98, .null]) kc_p6 dL_law_1541 rfl (by decide) rfl ?_
        refine z_goto (tgt := 23) dL_law_1544 rfl ?_
        refine z_fg (ls' := [.ref 0, .ref 51, .ref 107, .ref 149, .int (i + (6 : Int32)), .null, .null, .null]) ⟨Or.inr rfl, Or.inr rfl, Or.inr rfl, Or.inr rfl, Or.inr rfl, Or.inl rfl, Or.inl rfl, Or.inl rfl, trivial⟩ ?_
        exact hK _ _ _ _ _ _ h
      · replace h := (if_neg g105).symm.trans h
        refine z_ic kc_p0 dL_law_553 ?_
        cases h
        exact z_rZ dL_law_554 rfl rfl
    · replace h := (if_neg g104).symm.trans h
      refine z_goto (tgt := 1541) dL_law_555 rfl ?_
      refine z_ii (ls' := [.ref 0, .ref 51, .ref 107, .ref 149, .int (i + (6 : Int32)), .int v92, .int v98, .null]) kc_p6 dL_law_1541 rfl (by decide) rfl ?_
      refine z_goto (tgt := 23) dL_law_1544 rfl ?_
      refine z_fg (ls' := [.ref 0, .ref 51, .ref 107, .ref 149, .int (i + (6 : Int32)), .null, .null, .null]) ⟨Or.inr rfl, Or.inr rfl, Or.inr rfl, Or.inr rfl, Or.inr rfl, Or.inl rfl, Or.inl rfl, Or.inl rfl, trivial⟩ ?_
      exact hK _ _ _ _ _ _ h
  · replace h := (if_neg g103).symm.trans h
    refine z_ic kc_p0 dL_law_536 ?_
    cases h
    exact z_rZ dL_law_537 rfl rfl
def f_L_c7 (K : Int32 → zMM → zML → Option (Int32 × zMM × zML)) (Ls : Nat) (i : Int32) (M : zMM) (Lm : zML) : Option (Int32 × zMM × zML) :=
  if z_ib (i + (1 : Int32)) Ls = true then
    if z_ib (i + (2 : Int32)) Ls = true then
      if z_ib (i + (3 : Int32)) Ls = true then
        z_bw (f_L_price (M 0 (i + (1 : Int32)).toNatClampNeg) (M 0 (i + (2 : Int32)).toNatClampNeg) (M 0 (i + (3 : Int32)).toNatClampNeg) M Lm) fun v110 M111 Lm112 =>
        if z_ib (i + (1 : Int32)) Ls = true then
          if z_ib (i + (2 : Int32)) Ls = true then
            if z_ib (i + (3 : Int32)) Ls = true then
              z_bi (f_X8_price_107 (M111 0 (i + (1 : Int32)).toNatClampNeg) (M111 0 (i + (2 : Int32)).toNatClampNeg) (M111 0 (i + (3 : Int32)).toNatClampNeg) M111) fun v117 M118 =>
              z_bi (f_X8_thrown_107 M118) fun v120 M121 =>
              if v120 = v110 then
                if v110 = 0 then
                  if (lg_cmp (Lm112 149 0) v117.toInt64) = 0 then
                    K (i + (6 : Int32)) M121 Lm112
                  else
                    some ((0 : Int32), M121, Lm112)
                else
                  K (i + (6 : Int32)) M121 Lm112
              else
                some ((0 : Int32), M121, Lm112)
            else none
          else none
        else none
      else none
    else none
  else none
theorem A_L_c7 {l : Launch} (hl : l.stackTraces = false) {Ls d n : Nat} {K : Int32 → zMM → zML → Option (Int32 × zMM × zML)}
    (hK : ∀ (i : Int32) (M : zMM) (Lm : zML) (M' : zMM) (Lm' : zML) (v : Int32), K i M Lm = some (v, M', Lm') → z_AW l mL_law (d + 14) n (6 * n) 23 [.ref 0, .ref 51, .ref 107, .ref 149, .int i, .null, .null, .null] [] (z_L0 Ls, M, Lm) (.inl (some (.int v))) (z_L0 Ls, M', Lm')) :
    ∀ (i : Int32) (M : zMM) (Lm : zML) (M' : zMM) (Lm' : zML) (v : Int32), f_L_c7 K Ls i M Lm = some (v, M', Lm') → z_AW l mL_law (d + 14) (n + 1) (6 * n + 6) 558 [.ref 0, .ref 51, .ref 107, .ref 149, .int i, .null, .null, .null] [] (z_L0 Ls, M, Lm) (.inl (some (.int v))) (z_L0 Ls, M', Lm') := by
  intro i M Lm M' Lm' v h
  replace h : (  if z_ib (i + (1 : Int32)) Ls = true then
    if z_ib (i + (2 : Int32)) Ls = true then
      if z_ib (i + (3 : Int32)) Ls = true then
        z_bw (f_L_price (M 0 (i + (1 : Int32)).toNatClampNeg) (M 0 (i + (2 : Int32)).toNatClampNeg) (M 0 (i + (3 : Int32)).toNatClampNeg) M Lm) fun v110 M111 Lm112 =>
        if z_ib (i + (1 : Int32)) Ls = true then
          if z_ib (i + (2 : Int32)) Ls = true then
            if z_ib (i + (3 : Int32)) Ls = true then
              z_bi (f_X8_price_107 (M111 0 (i + (1 : Int32)).toNatClampNeg) (M111 0 (i + (2 : Int32)).toNatClampNeg) (M111 0 (i + (3 : Int32)).toNatClampNeg) M111) fun v117 M118 =>
              z_bi (f_X8_thrown_107 M118) fun v120 M121 =>
              if v120 = v110 then
                if v110 = 0 then
                  if (lg_cmp (Lm112 149 0) v117.toInt64) = 0 then
                    K (i + (6 : Int32)) M121 Lm112
                  else
                    some ((0 : Int32), M121, Lm112)
                else
                  K (i + (6 : Int32)) M121 Lm112
              else
                some ((0 : Int32), M121, Lm112)
            else none
          else none
        else none
      else none
    else none
  else none) = some (v, M', Lm') := h
  refine z_aload_n dL_law_558 rfl ?_
  refine z_aload_n dL_law_559 rfl ?_
  refine z_iload dL_law_560 rfl ?_
  refine z_ic kc_p1 dL_law_562 ?_
  refine z_iadd dL_law_563 ?_
  obtain ⟨g106, h⟩ := z_ifn h
  refine z_al (v := (M 0 (i + (1 : Int32)).toNatClampNeg)) dL_law_564 en_0 rfl (z_ib_in g106) rfl ?_
  refine z_aload_n dL_law_565 rfl ?_
  refine z_iload dL_law_566 rfl ?_
  refine z_ic kc_p2 dL_law_568 ?_
  refine z_iadd dL_law_569 ?_
  obtain ⟨g107, h⟩ := z_ifn h
  refine z_al (v := (M 0 (i + (2 : Int32)).toNatClampNeg)) dL_law_570 en_0 rfl (z_ib_in g107) rfl ?_
  refine z_aload_n dL_law_571 rfl ?_
  refine z_iload dL_law_572 rfl ?_
  refine z_ic kc_p3 dL_law_574 ?_
  refine z_iadd dL_law_575 ?_
  obtain ⟨g108, h⟩ := z_ifn h
  refine z_al (v := (M 0 (i + (3 : Int32)).toNatClampNeg)) dL_law_576 en_0 rfl (z_ib_in g108) rfl ?_
  refine z_aload_n dL_law_577 rfl ?_
  obtain ⟨v110, M111, Lm112, c109, h⟩ := z_bw_c h
  refine z_cW (bc := n) (bs := 6 * n) (av := [.ref 51, .int (M 0 (i + (1 : Int32)).toNatClampNeg), .int (M 0 (i + (2 : Int32)).toNatClampNeg), .int (M 0 (i + (3 : Int32)).toNatClampNeg), .ref 149]) (st := []) lk_L_104 dL_law_578 (A_L_price (d := d + 5) hl c109) rfl rfl (Nat.le_of_ble_eq_true rfl) rfl z_len rfl rfl ?_
  refine z_istore (ls' := [.ref 0, .ref 51, .ref 107, .ref 149, .int i, .int v110, .null, .null]) dL_law_581 (by decide) rfl ?_
  refine z_aload_n dL_law_583 rfl ?_
  refine z_aload_n dL_law_584 rfl ?_
  refine z_iload dL_law_585 rfl ?_
  refine z_ic kc_p1 dL_law_587 ?_
  refine z_iadd dL_law_588 ?_
  obtain ⟨g113, h⟩ := z_ifn h
  refine z_al (v := (M111 0 (i + (1 : Int32)).toNatClampNeg)) dL_law_589 en_0 rfl (z_ib_in g113) rfl ?_
  refine z_aload_n dL_law_590 rfl ?_
  refine z_iload dL_law_591 rfl ?_
  refine z_ic kc_p2 dL_law_593 ?_
  refine z_iadd dL_law_594 ?_
  obtain ⟨g114, h⟩ := z_ifn h
  refine z_al (v := (M111 0 (i + (2 : Int32)).toNatClampNeg)) dL_law_595 en_0 rfl (z_ib_in g114) rfl ?_
  refine z_aload_n dL_law_596 rfl ?_
  refine z_iload dL_law_597 rfl ?_
  refine z_ic kc_p3 dL_law_599 ?_
  refine z_iadd dL_law_600 ?_
  obtain ⟨g115, h⟩ := z_ifn h
  refine z_al (v := (M111 0 (i + (3 : Int32)).toNatClampNeg)) dL_law_601 en_0 rfl (z_ib_in g115) rfl ?_
  obtain ⟨v117, M118, c116, h⟩ := z_bi_c h
  refine z_cV (av := [.int (M111 0 (i + (1 : Int32)).toNatClampNeg), .int (M111 0 (i + (2 : Int32)).toNatClampNeg), .int (M111 0 (i + (3 : Int32)).toNatClampNeg)]) (st := []) lk_L_107 dL_law_602 (A_X8_price_107 (d := d + 2) hl c116) rfl rfl en_107 rfl (Nat.le_of_ble_eq_true rfl) rfl z_len rfl rfl ?_
  refine z_istore (ls' := [.ref 0, .ref 51, .ref 107, .ref 149, .int i, .int v110, .int v117, .null]) dL_law_605 (by decide) rfl ?_
  refine z_aload_n dL_law_607 rfl ?_
  obtain ⟨v120, M121, c119, h⟩ := z_bi_c h
  refine z_cV (av := []) (st := []) lk_L_83 dL_law_608 (A_X8_thrown_107 (d := d + 13) hl c119) rfl rfl en_107 rfl (Nat.le_of_ble_eq_true rfl) rfl z_len rfl rfl ?_
  refine z_iload dL_law_611 rfl ?_
  refine z_icmp_eq (tgt := 618) dL_law_613 rfl (fun g122 => ?_) (fun g122 => ?_)
  · replace h := (if_pos g122).symm.trans h
    refine z_iload dL_law_618 rfl ?_
    refine z_if_ne (tgt := 635) dL_law_620 rfl (fun g123 => ?_) (fun g123 => ?_)
    · replace h := (if_pos g123).symm.trans h
      refine z_aload_n dL_law_623 rfl ?_
      refine z_ic kc_p0 dL_law_624 ?_
      refine z_ll0 (v := (Lm112 149 0)) dL_law_625 en_149 kn_p0 (z_ib_in rfl) rfl ?_
      refine z_iload dL_law_626 rfl ?_
      refine z_i2l dL_law_628 ?_
      refine z_lcmp dL_law_629 ?_
      refine z_if_eq (tgt := 635) dL_law_630 rfl (fun g124 => ?_) (fun g124 => ?_)
      · replace h := (if_pos g124).symm.trans h
        refine z_goto (tgt := 1541) dL_law_635 rfl ?_
        refine z_ii (ls' := [.ref 0, .ref 51, .ref 107, .ref 149, .int (i + (6 : Int32)), .int v110, .int v117, .null]) kc_p6 dL_law_1541 rfl (by decide) rfl ?_
        refine z_goto (tgt := 23) dL_law_1544 rfl ?_
        refine z_fg (ls' := [.ref 0, .ref 51, .ref 107, .ref 149, .int (i + (6 : Int32)), .null, .null, .null]) ⟨Or.inr rfl, Or.inr rfl, Or.inr rfl, Or.inr rfl, Or.inr rfl, Or.inl rfl, Or.inl rfl, Or.inl rfl, trivial⟩ ?_
        exact hK _ _ _ _ _ _ h
      · replace h := (if_neg g124).symm.trans h
        refine z_ic kc_p0 dL_law_633 ?_
        cases h
        exact z_rZ dL_law_634 rfl rfl
    · replace h := (if_neg g123).symm.trans h
      refine z_goto (tgt := 1541) dL_law_635 rfl ?_
      refine z_ii (ls' := [.ref 0, .ref 51, .ref 107, .ref 149, .int (i + (6 : Int32)), .int v110, .int v117, .null]) kc_p6 dL_law_1541 rfl (by decide) rfl ?_
      refine z_goto (tgt := 23) dL_law_1544 rfl ?_
      refine z_fg (ls' := [.ref 0, .ref 51, .ref 107, .ref 149, .int (i + (6 : Int32)), .null, .null, .null]) ⟨Or.inr rfl, Or.inr rfl, Or.inr rfl, Or.inr rfl, Or.inr rfl, Or.inl rfl, Or.inl rfl, Or.inl rfl, trivial⟩ ?_
      exact hK _ _ _ _ _ _ h
  · replace h := (if_neg g122).symm.trans h
    refine z_ic kc_p0 dL_law_616 ?_
    cases h
    exact z_rZ dL_law_617 rfl rfl
def f_L_c8 (K : Int32 → zMM → zML → Option (Int32 × zMM × zML)) (Ls : Nat) (i : Int32) (M : zMM) (Lm : zML) : Option (Int32 × zMM × zML) :=
  if z_ib (i + (1 : Int32)) Ls = true then
    if z_ib (i + (2 : Int32)) Ls = true then
      if z_ib (i + (3 : Int32)) Ls = true then
        z_bw (f_L_filled (M 0 (i + (1 : Int32)).toNatClampNeg) (M 0 (i + (2 : Int32)).toNatClampNeg) (M 0 (i + (3 : Int32)).toNatClampNeg) M Lm) fun v129 M130 Lm131 =>
        if z_ib (i + (1 : Int32)) Ls = true then
          if z_ib (i + (2 : Int32)) Ls = true then
            if z_ib (i + (3 : Int32)) Ls = true then
              z_bi (f_X8_filled_107 (M130 0 (i + (1 : Int32)).toNatClampNeg) (M130 0 (i + (2 : Int32)).toNatClampNeg) (M130 0 (i + (3 : Int32)).toNatClampNeg) M130) fun v136 M137 =>
              z_bi (f_X8_thrown_107 M137) fun v139 M140 =>
              if v139 = v129 then
                if v129 = 0 then
                  if (lg_cmp (Lm131 149 0) v136.toInt64) = 0 then
                    K (i + (6 : Int32)) M140 Lm131
                  else
                    some ((0 : Int32), M140, Lm131)
                else
                  K (i + (6 : Int32)) M140 Lm131
              else
                some ((0 : Int32), M140, Lm131)
            else none
          else none
        else none
      else none
    else none
  else none
theorem A_L_c8 {l : Launch} (hl : l.stackTraces = false) {Ls d n : Nat} {K : Int32 → zMM → zML → Option (Int32 × zMM × zML)}
    (hK : ∀ (i : Int32) (M : zMM) (Lm : zML) (M' : zMM) (Lm' : zML) (v : Int32), K i M Lm = some (v, M', Lm') → z_AW l mL_law (d + 14) n (6 * n) 23 [.ref 0, .ref 51, .ref 107, .ref 149, .int i, .null, .null, .null] [] (z_L0 Ls, M, Lm) (.inl (some (.int v))) (z_L0 Ls, M', Lm')) :
    ∀ (i : Int32) (M : zMM) (Lm : zML) (M' : zMM) (Lm' : zML) (v : Int32), f_L_c8 K Ls i M Lm = some (v, M', Lm') → z_AW l mL_law (d + 14) (n + 1) (6 * n + 6) 638 [.ref 0, .ref 51, .ref 107, .ref 149, .int i, .null, .null, .null] [] (z_L0 Ls, M, Lm) (.inl (some (.int v))) (z_L0 Ls, M', Lm') := by
  intro i M Lm M' Lm' v h
  replace h : (  if z_ib (i + (1 : Int32)) Ls = true then
    if z_ib (i + (2 : Int32)) Ls = true then
      if z_ib (i + (3 : Int32)) Ls = true then
        z_bw (f_L_filled (M 0 (i + (1 : Int32)).toNatClampNeg) (M 0 (i + (2 : Int32)).toNatClampNeg) (M 0 (i + (3 : Int32)).toNatClampNeg) M Lm) fun v129 M130 Lm131 =>
        if z_ib (i + (1 : Int32)) Ls = true then
          if z_ib (i + (2 : Int32)) Ls = true then
            if z_ib (i + (3 : Int32)) Ls = true then
              z_bi (f_X8_filled_107 (M130 0 (i + (1 : Int32)).toNatClampNeg) (M130 0 (i + (2 : Int32)).toNatClampNeg) (M130 0 (i + (3 : Int32)).toNatClampNeg) M130) fun v136 M137 =>
              z_bi (f_X8_thrown_107 M137) fun v139 M140 =>
              if v139 = v129 then
                if v129 = 0 then
                  if (lg_cmp (Lm131 149 0) v136.toInt64) = 0 then
                    K (i + (6 : Int32)) M140 Lm131
                  else
                    some ((0 : Int32), M140, Lm131)
                else
                  K (i + (6 : Int32)) M140 Lm131
              else
                some ((0 : Int32), M140, Lm131)
            else none
          else none
        else none
      else none
    else none
  else none) = some (v, M', Lm') := h
  refine z_aload_n dL_law_638 rfl ?_
  refine z_aload_n dL_law_639 rfl ?_
  refine z_iload dL_law_640 rfl ?_
  refine z_ic kc_p1 dL_law_642 ?_
  refine z_iadd dL_law_643 ?_
  obtain ⟨g125, h⟩ := z_ifn h
  refine z_al (v := (M 0 (i + (1 : Int32)).toNatClampNeg)) dL_law_644 en_0 rfl (z_ib_in g125) rfl ?_
  refine z_aload_n dL_law_645 rfl ?_
  refine z_iload dL_law_646 rfl ?_
  refine z_ic kc_p2 dL_law_648 ?_
  refine z_iadd dL_law_649 ?_
  obtain ⟨g126, h⟩ := z_ifn h
  refine z_al (v := (M 0 (i + (2 : Int32)).toNatClampNeg)) dL_law_650 en_0 rfl (z_ib_in g126) rfl ?_
  refine z_aload_n dL_law_651 rfl ?_
  refine z_iload dL_law_652 rfl ?_
  refine z_ic kc_p3 dL_law_654 ?_
  refine z_iadd dL_law_655 ?_
  obtain ⟨g127, h⟩ := z_ifn h
  refine z_al (v := (M 0 (i + (3 : Int32)).toNatClampNeg)) dL_law_656 en_0 rfl (z_ib_in g127) rfl ?_
  refine z_aload_n dL_law_657 rfl ?_
  obtain ⟨v129, M130, Lm131, c128, h⟩ := z_bw_c h
  refine z_cW (bc := n) (bs := 6 * n) (av := [.ref 51, .int (M 0 (i + (1 : Int32)).toNatClampNeg), .int (M 0 (i + (2 : Int32)).toNatClampNeg), .int (M 0 (i + (3 : Int32)).toNatClampNeg), .ref 149]) (st := []) lk_L_108 dL_law_658 (A_L_filled (d := d + 5) hl c128) rfl rfl (Nat.le_of_ble_eq_true rfl) rfl z_len rfl rfl ?_
  refine z_istore (ls' := [.ref 0, .ref 51, .ref 107, .ref 149, .int i, .int v129, .null, .null]) dL_law_661 (by decide) rfl ?_
  refine z_aload_n dL_law_663 rfl ?_
  refine z_aload_n dL_law_664 rfl ?_
  refine z_iload dL_law_665 rfl ?_
  refine z_ic kc_p1 dL_law_667 ?_
  refine z_iadd dL_law_668 ?_
  obtain ⟨g132, h⟩ := z_ifn h
  refine z_al (v := (M130 0 (i + (1 : Int32)).toNatClampNeg)) dL_law_669 en_0 rfl (z_ib_in g132) rfl ?_
  refine z_aload_n dL_law_670 rfl ?_
  refine z_iload dL_law_671 rfl ?_
  refine z_ic kc_p2 dL_law_673 ?_
  refine z_iadd dL_law_674 ?_
  obtain ⟨g133, h⟩ := z_ifn h
  refine z_al (v := (M130 0 (i + (2 : Int32)).toNatClampNeg)) dL_law_675 en_0 rfl (z_ib_in g133) rfl ?_
  refine z_aload_n dL_law_676 rfl ?_
  refine z_iload dL_law_677 rfl ?_
  refine z_ic kc_p3 dL_law_679 ?_
  refine z_iadd dL_law_680 ?_
  obtain ⟨g134, h⟩ := z_ifn h
  refine z_al (v := (M130 0 (i + (3 : Int32)).toNatClampNeg)) dL_law_681 en_0 rfl (z_ib_in g134) rfl ?_
  obtain ⟨v136, M137, c135, h⟩ := z_bi_c h
  refine z_cV (av := [.int (M130 0 (i + (1 : Int32)).toNatClampNeg), .int (M130 0 (i + (2 : Int32)).toNatClampNeg), .int (M130 0 (i + (3 : Int32)).toNatClampNeg)]) (st := []) lk_L_110 dL_law_682 (A_X8_filled_107 (d := d + 2) hl c135) rfl rfl en_107 rfl (Nat.le_of_ble_eq_true rfl) rfl z_len rfl rfl ?_
  refine z_istore (ls' := [.ref 0, .ref 51, .ref 107, .ref 149, .int i, .int v129, .int v136, .null]) dL_law_685 (by decide) rfl ?_
  refine z_aload_n dL_law_687 rfl ?_
  obtain ⟨v139, M140, c138, h⟩ := z_bi_c h
  refine z_cV (av := []) (st := []) lk_L_83 dL_law_688 (A_X8_thrown_107 (d := d + 13) hl c138) rfl rfl en_107 rfl (Nat.le_of_ble_eq_true rfl) rfl z_len rfl rfl ?_
  refine z_iload dL_law_691 rfl ?_
  refine z_icmp_eq (tgt := 698) dL_law_693 rfl (fun g141 => ?_) (fun g141 => ?_)
  · replace h := (if_pos g141).symm.trans h
    refine z_iload dL_law_698 rfl ?_
    refine z_if_ne (tgt := 715) dL_law_700 rfl (fun g142 => ?_) (fun g142 => ?_)
    · replace h := (if_pos g142).symm.trans h
      refine z_aload_n dL_law_703 rfl ?_
      refine z_ic kc_p0 dL_law_704 ?_
      refine z_ll0 (v := (Lm131 149 0)) dL_law_705 en_149 kn_p0 (z_ib_in rfl) rfl ?_
      refine z_iload dL_law_706 rfl ?_
      refine z_i2l dL_law_708 ?_
      refine z_lcmp dL_law_709 ?_
      refine z_if_eq (tgt := 715) dL_law_710 rfl (fun g143 => ?_) (fun g143 => ?_)
      · replace h := (if_pos g143).symm.trans h
        refine z_goto (tgt := 1541) dL_law_715 rfl ?_
        refine z_ii (ls' := [.ref 0, .ref 51, .ref 107, .ref 149, .int (i + (6 : Int32)), .int v129, .int v136, .null]) kc_p6 dL_law_1541 rfl (by decide) rfl ?_
        refine z_goto (tgt := 23) dL_law_1544 rfl ?_
        refine z_fg (ls' := [.ref 0, .ref 51, .ref 107, .ref 149, .int (i + (6 : Int32)), .null, .null, .null]) ⟨Or.inr rfl, Or.inr rfl, Or.inr rfl, Or.inr rfl, Or.inr rfl, Or.inl rfl, Or.inl rfl, Or.inl rfl, trivial⟩ ?_
        exact hK _ _ _ _ _ _ h
      · replace h := (if_neg g143).symm.trans h
        refine z_ic kc_p0 dL_law_713 ?_
        cases h
        exact z_rZ dL_law_714 rfl rfl
    · replace h := (if_neg g142).symm.trans h
      refine z_goto (tgt := 1541) dL_law_715 rfl ?_
      refine z_ii (ls' := [.ref 0, .ref 51, .ref 107, .ref 149, .int (i + (6 : Int32)), .int v129, .int v136, .null]) kc_p6 dL_law_1541 rfl (by decide) rfl ?_
      refine z_goto (tgt := 23) dL_law_1544 rfl ?_
      refine z_fg (ls' := [.ref 0, .ref 51, .ref 107, .ref 149, .int (i + (6 : Int32)), .null, .null, .null]) ⟨Or.inr rfl, Or.inr rfl, Or.inr rfl, Or.inr rfl, Or.inr rfl, Or.inl rfl, Or.inl rfl, Or.inl rfl, trivial⟩ ?_
      exact hK _ _ _ _ _ _ h
  · replace h := (if_neg g141).symm.trans h
    refine z_ic kc_p0 dL_law_696 ?_
    cases h
    exact z_rZ dL_law_697 rfl rfl
def f_L_c9 (K : Int32 → zMM → zML → Option (Int32 × zMM × zML)) (Ls : Nat) (i : Int32) (M : zMM) (Lm : zML) : Option (Int32 × zMM × zML) :=
  if z_ib (i + (1 : Int32)) Ls = true then
    if z_ib (i + (2 : Int32)) Ls = true then
      z_bw (f_L_tonight (M 0 (i + (1 : Int32)).toNatClampNeg) (M 0 (i + (2 : Int32)).toNatClampNeg) M Lm) fun v147 M148 Lm149 =>
      if z_ib (i + (1 : Int32)) Ls = true then
        if z_ib (i + (2 : Int32)) Ls = true then
          z_bi (f_X8_tonight_107 (M148 0 (i + (1 : Int32)).toNatClampNeg) (M148 0 (i + (2 : Int32)).toNatClampNeg) M148) fun v153 M154 =>
          z_bi (f_X8_thrown_107 M154) fun v156 M157 =>
          if v156 = v147 then
            if v147 = 0 then
              if (lg_cmp (Lm149 149 0) v153.toInt64) = 0 then
                K (i + (6 : Int32)) M157 Lm149
              else
                some ((0 : Int32), M157, Lm149)
            else
              K (i + (6 : Int32)) M157 Lm149
          else
            some ((0 : Int32), M157, Lm149)
        else none
      else none
    else none
  else none
theorem A_L_c9 {l : Launch} (hl : l.stackTraces = false) {Ls d n : Nat} {K : Int32 → zMM → zML → Option (Int32 × zMM × zML)}
    (hK : ∀ (i : Int32) (M : zMM) (Lm : zML) (M' : zMM) (Lm' : zML) (v : Int32), K i M Lm = some (v, M', Lm') → z_AW l mL_law (d + 14) n (6 * n) 23 [.ref 0, .ref 51, .ref 107, .ref 149, .int i, .null, .null, .null] [] (z_L0 Ls, M, Lm) (.inl (some (.int v))) (z_L0 Ls, M', Lm')) :
    ∀ (i : Int32) (M : zMM) (Lm : zML) (M' : zMM) (Lm' : zML) (v : Int32), f_L_c9 K Ls i M Lm = some (v, M', Lm') → z_AW l mL_law (d + 14) (n + 1) (6 * n + 6) 718 [.ref 0, .ref 51, .ref 107, .ref 149, .int i, .null, .null, .null] [] (z_L0 Ls, M, Lm) (.inl (some (.int v))) (z_L0 Ls, M', Lm') := by
  intro i M Lm M' Lm' v h
  replace h : (  if z_ib (i + (1 : Int32)) Ls = true then
    if z_ib (i + (2 : Int32)) Ls = true then
      z_bw (f_L_tonight (M 0 (i + (1 : Int32)).toNatClampNeg) (M 0 (i + (2 : Int32)).toNatClampNeg) M Lm) fun v147 M148 Lm149 =>
      if z_ib (i + (1 : Int32)) Ls = true then
        if z_ib (i + (2 : Int32)) Ls = true then
          z_bi (f_X8_tonight_107 (M148 0 (i + (1 : Int32)).toNatClampNeg) (M148 0 (i + (2 : Int32)).toNatClampNeg) M148) fun v153 M154 =>
          z_bi (f_X8_thrown_107 M154) fun v156 M157 =>
          if v156 = v147 then
            if v147 = 0 then
              if (lg_cmp (Lm149 149 0) v153.toInt64) = 0 then
                K (i + (6 : Int32)) M157 Lm149
              else
                some ((0 : Int32), M157, Lm149)
            else
              K (i + (6 : Int32)) M157 Lm149
          else
            some ((0 : Int32), M157, Lm149)
        else none
      else none
    else none
  else none) = some (v, M', Lm') := h
  refine z_aload_n dL_law_718 rfl ?_
  refine z_aload_n dL_law_719 rfl ?_
  refine z_iload dL_law_720 rfl ?_
  refine z_ic kc_p1 dL_law_722 ?_
  refine z_iadd dL_law_723 ?_
  obtain ⟨g144, h⟩ := z_ifn h
  refine z_al (v := (M 0 (i + (1 : Int32)).toNatClampNeg)) dL_law_724 en_0 rfl (z_ib_in g144) rfl ?_
  refine z_aload_n dL_law_725 rfl ?_
  refine z_iload dL_law_726 rfl ?_
  refine z_ic kc_p2 dL_law_728 ?_
  refine z_iadd dL_law_729 ?_
  obtain ⟨g145, h⟩ := z_ifn h
  refine z_al (v := (M 0 (i + (2 : Int32)).toNatClampNeg)) dL_law_730 en_0 rfl (z_ib_in g145) rfl ?_
  refine z_aload_n dL_law_731 rfl ?_
  obtain ⟨v147, M148, Lm149, c146, h⟩ := z_bw_c h
  refine z_cW (bc := n) (bs := 6 * n) (av := [.ref 51, .int (M 0 (i + (1 : Int32)).toNatClampNeg), .int (M 0 (i + (2 : Int32)).toNatClampNeg), .ref 149]) (st := []) lk_L_111 dL_law_732 (A_L_tonight (d := d + 5) hl c146) rfl rfl (Nat.le_of_ble_eq_true rfl) rfl z_len rfl rfl ?_
  refine z_istore (ls' := [.ref 0, .ref 51, .ref 107, .ref 149, .int i, .int v147, .null, .null]) dL_law_735 (by decide) rfl ?_
  refine z_aload_n dL_law_737 rfl ?_
  refine z_aload_n dL_law_738 rfl ?_
  refine z_iload dL_law_739 rfl ?_
  refine z_ic kc_p1 dL_law_741 ?_
  refine z_iadd dL_law_742 ?_
  obtain ⟨g150, h⟩ := z_ifn h
  refine z_al (v := (M148 0 (i + (1 : Int32)).toNatClampNeg)) dL_law_743 en_0 rfl (z_ib_in g150) rfl ?_
  refine z_aload_n dL_law_744 rfl ?_
  refine z_iload dL_law_745 rfl ?_
  refine z_ic kc_p2 dL_law_747 ?_
  refine z_iadd dL_law_748 ?_
  obtain ⟨g151, h⟩ := z_ifn h
  refine z_al (v := (M148 0 (i + (2 : Int32)).toNatClampNeg)) dL_law_749 en_0 rfl (z_ib_in g151) rfl ?_
  obtain ⟨v153, M154, c152, h⟩ := z_bi_c h
  refine z_cV (av := [.int (M148 0 (i + (1 : Int32)).toNatClampNeg), .int (M148 0 (i + (2 : Int32)).toNatClampNeg)]) (st := []) lk_L_113 dL_law_750 (A_X8_tonight_107 (d := d + 2) hl c152) rfl rfl en_107 rfl (Nat.le_of_ble_eq_true rfl) rfl z_len rfl rfl ?_
  refine z_istore (ls' := [.ref 0, .ref 51, .ref 107, .ref 149, .int i, .int v147, .int v153, .null]) dL_law_753 (by decide) rfl ?_
  refine z_aload_n dL_law_755 rfl ?_
  obtain ⟨v156, M157, c155, h⟩ := z_bi_c h
  refine z_cV (av := []) (st := []) lk_L_83 dL_law_756 (A_X8_thrown_107 (d := d + 13) hl c155) rfl rfl en_107 rfl (Nat.le_of_ble_eq_true rfl) rfl z_len rfl rfl ?_
  refine z_iload dL_law_759 rfl ?_
  refine z_icmp_eq (tgt := 766) dL_law_761 rfl (fun g158 => ?_) (fun g158 => ?_)
  · replace h := (if_pos g158).symm.trans h
    refine z_iload dL_law_766 rfl ?_
    refine z_if_ne (tgt := 783) dL_law_768 rfl (fun g159 => ?_) (fun g159 => ?_)
    · replace h := (if_pos g159).symm.trans h
      refine z_aload_n dL_law_771 rfl ?_
      refine z_ic kc_p0 dL_law_772 ?_
      refine z_ll0 (v := (Lm149 149 0)) dL_law_773 en_149 kn_p0 (z_ib_in rfl) rfl ?_
      refine z_iload dL_law_774 rfl ?_
      refine z_i2l dL_law_776 ?_
      refine z_lcmp dL_law_777 ?_
      refine z_if_eq (tgt := 783) dL_law_778 rfl (fun g160 => ?_) (fun g160 => ?_)
      · replace h := (if_pos g160).symm.trans h
        refine z_goto (tgt := 1541) dL_law_783 rfl ?_
        refine z_ii (ls' := [.ref 0, .ref 51, .ref 107, .ref 149, .int (i + (6 : Int32)), .int v147, .int v153, .null]) kc_p6 dL_law_1541 rfl (by decide) rfl ?_
        refine z_goto (tgt := 23) dL_law_1544 rfl ?_
        refine z_fg (ls' := [.ref 0, .ref 51, .ref 107, .ref 149, .int (i + (6 : Int32)), .null, .null, .null]) ⟨Or.inr rfl, Or.inr rfl, Or.inr rfl, Or.inr rfl, Or.inr rfl, Or.inl rfl, Or.inl rfl, Or.inl rfl, trivial⟩ ?_
        exact hK _ _ _ _ _ _ h
      · replace h := (if_neg g160).symm.trans h
        refine z_ic kc_p0 dL_law_781 ?_
        cases h
        exact z_rZ dL_law_782 rfl rfl
    · replace h := (if_neg g159).symm.trans h
      refine z_goto (tgt := 1541) dL_law_783 rfl ?_
      refine z_ii (ls' := [.ref 0, .ref 51, .ref 107, .ref 149, .int (i + (6 : Int32)), .int v147, .int v153, .null]) kc_p6 dL_law_1541 rfl (by decide) rfl ?_
      refine z_goto (tgt := 23) dL_law_1544 rfl ?_
      refine z_fg (ls' := [.ref 0, .ref 51, .ref 107, .ref 149, .int (i + (6 : Int32)), .null, .null, .null]) ⟨Or.inr rfl, Or.inr rfl, Or.inr rfl, Or.inr rfl, Or.inr rfl, Or.inl rfl, Or.inl rfl, Or.inl rfl, trivial⟩ ?_
      exact hK _ _ _ _ _ _ h
  · replace h := (if_neg g158).symm.trans h
    refine z_ic kc_p0 dL_law_764 ?_
    cases h
    exact z_rZ dL_law_765 rfl rfl
def f_L_c10 (K : Int32 → zMM → zML → Option (Int32 × zMM × zML)) (Ls : Nat) (i : Int32) (M : zMM) (Lm : zML) : Option (Int32 × zMM × zML) :=
  if z_ib (i + (1 : Int32)) Ls = true then
    if z_ib (i + (2 : Int32)) Ls = true then
      if z_ib (i + (3 : Int32)) Ls = true then
        z_bw (f_L_both (M 0 (i + (1 : Int32)).toNatClampNeg) (M 0 (i + (2 : Int32)).toNatClampNeg) (M 0 (i + (3 : Int32)).toNatClampNeg) M Lm) fun v165 M166 Lm167 =>
        if z_ib (i + (1 : Int32)) Ls = true then
          if z_ib (i + (2 : Int32)) Ls = true then
            if z_ib (i + (3 : Int32)) Ls = true then
              z_bi (f_X8_both_107 (M166 0 (i + (1 : Int32)).toNatClampNeg) (M166 0 (i + (2 : Int32)).toNatClampNeg) (M166 0 (i + (3 : Int32)).toNatClampNeg) M166) fun v172 M173 =>
              z_bi (f_X8_thrown_107 M173) fun v175 M176 =>
              if v175 = v165 then
                if v165 = 0 then
                  if (lg_cmp (Lm167 149 0) v172.toInt64) = 0 then
                    K (i + (6 : Int32)) M176 Lm167
                  else
                    some ((0 : Int32), M176, Lm167)
                else
                  K (i + (6 : Int32)) M176 Lm167
              else
                some ((0 : Int32), M176, Lm167)
            else none
          else none
        else none
      else none
    else none
  else none
theorem A_L_c10 {l : Launch} (hl : l.stackTraces = false) {Ls d n : Nat} {K : Int32 → zMM → zML → Option (Int32 × zMM × zML)}
    (hK : ∀ (i : Int32) (M : zMM) (Lm : zML) (M' : zMM) (Lm' : zML) (v : Int32), K i M Lm = some (v, M', Lm') → z_AW l mL_law (d + 14) n (6 * n) 23 [.ref 0, .ref 51, .ref 107, .ref 149, .int i, .null, .null, .null] [] (z_L0 Ls, M, Lm) (.inl (some (.int v))) (z_L0 Ls, M', Lm')) :
    ∀ (i : Int32) (M : zMM) (Lm : zML) (M' : zMM) (Lm' : zML) (v : Int32), f_L_c10 K Ls i M Lm = some (v, M', Lm') → z_AW l mL_law (d + 14) (n + 1) (6 * n + 6) 786 [.ref 0, .ref 51, .ref 107, .ref 149, .int i, .null, .null, .null] [] (z_L0 Ls, M, Lm) (.inl (some (.int v))) (z_L0 Ls, M', Lm') := by
  intro i M Lm M' Lm' v h
  replace h : (  if z_ib (i + (1 : Int32)) Ls = true then
    if z_ib (i + (2 : Int32)) Ls = true then
      if z_ib (i + (3 : Int32)) Ls = true then
        z_bw (f_L_both (M 0 (i + (1 : Int32)).toNatClampNeg) (M 0 (i + (2 : Int32)).toNatClampNeg) (M 0 (i + (3 : Int32)).toNatClampNeg) M Lm) fun v165 M166 Lm167 =>
        if z_ib (i + (1 : Int32)) Ls = true then
          if z_ib (i + (2 : Int32)) Ls = true then
            if z_ib (i + (3 : Int32)) Ls = true then
              z_bi (f_X8_both_107 (M166 0 (i + (1 : Int32)).toNatClampNeg) (M166 0 (i + (2 : Int32)).toNatClampNeg) (M166 0 (i + (3 : Int32)).toNatClampNeg) M166) fun v172 M173 =>
              z_bi (f_X8_thrown_107 M173) fun v175 M176 =>
              if v175 = v165 then
                if v165 = 0 then
                  if (lg_cmp (Lm167 149 0) v172.toInt64) = 0 then
                    K (i + (6 : Int32)) M176 Lm167
                  else
                    some ((0 : Int32), M176, Lm167)
                else
                  K (i + (6 : Int32)) M176 Lm167
              else
                some ((0 : Int32), M176, Lm167)
            else none
          else none
        else none
      else none
    else none
  else none) = some (v, M', Lm') := h
  refine z_aload_n dL_law_786 rfl ?_
  refine z_aload_n dL_law_787 rfl ?_
  refine z_iload dL_law_788 rfl ?_
  refine z_ic kc_p1 dL_law_790 ?_
  refine z_iadd dL_law_791 ?_
  obtain ⟨g161, h⟩ := z_ifn h
  refine z_al (v := (M 0 (i + (1 : Int32)).toNatClampNeg)) dL_law_792 en_0 rfl (z_ib_in g161) rfl ?_
  refine z_aload_n dL_law_793 rfl ?_
  refine z_iload dL_law_794 rfl ?_
  refine z_ic kc_p2 dL_law_796 ?_
  refine z_iadd dL_law_797 ?_
  obtain ⟨g162, h⟩ := z_ifn h
  refine z_al (v := (M 0 (i + (2 : Int32)).toNatClampNeg)) dL_law_798 en_0 rfl (z_ib_in g162) rfl ?_
  refine z_aload_n dL_law_799 rfl ?_
  refine z_iload dL_law_800 rfl ?_
  refine z_ic kc_p3 dL_law_802 ?_
  refine z_iadd dL_law_803 ?_
  obtain ⟨g163, h⟩ := z_ifn h
  refine z_al (v := (M 0 (i + (3 : Int32)).toNatClampNeg)) dL_law_804 en_0 rfl (z_ib_in g163) rfl ?_
  refine z_aload_n dL_law_805 rfl ?_
  obtain ⟨v165, M166, Lm167, c164, h⟩ := z_bw_c h
  refine z_cW (bc := n) (bs := 6 * n) (av := [.ref 51, .int (M 0 (i + (1 : Int32)).toNatClampNeg), .int (M 0 (i + (2 : Int32)).toNatClampNeg), .int (M 0 (i + (3 : Int32)).toNatClampNeg), .ref 149]) (st := []) lk_L_114 dL_law_806 (A_L_both (d := d + 5) hl c164) rfl rfl (Nat.le_of_ble_eq_true rfl) rfl z_len rfl rfl ?_
  refine z_istore (ls' := [.ref 0, .ref 51, .ref 107, .ref 149, .int i, .int v165, .null, .null]) dL_law_809 (by decide) rfl ?_
  refine z_aload_n dL_law_811 rfl ?_
  refine z_aload_n dL_law_812 rfl ?_
  refine z_iload dL_law_813 rfl ?_
  refine z_ic kc_p1 dL_law_815 ?_
  refine z_iadd dL_law_816 ?_
  obtain ⟨g168, h⟩ := z_ifn h
  refine z_al (v := (M166 0 (i + (1 : Int32)).toNatClampNeg)) dL_law_817 en_0 rfl (z_ib_in g168) rfl ?_
  refine z_aload_n dL_law_818 rfl ?_
  refine z_iload dL_law_819 rfl ?_
  refine z_ic kc_p2 dL_law_821 ?_
  refine z_iadd dL_law_822 ?_
  obtain ⟨g169, h⟩ := z_ifn h
  refine z_al (v := (M166 0 (i + (2 : Int32)).toNatClampNeg)) dL_law_823 en_0 rfl (z_ib_in g169) rfl ?_
  refine z_aload_n dL_law_824 rfl ?_
  refine z_iload dL_law_825 rfl ?_
  refine z_ic kc_p3 dL_law_827 ?_
  refine z_iadd dL_law_828 ?_
  obtain ⟨g170, h⟩ := z_ifn h
  refine z_al (v := (M166 0 (i + (3 : Int32)).toNatClampNeg)) dL_law_829 en_0 rfl (z_ib_in g170) rfl ?_
  obtain ⟨v172, M173, c171, h⟩ := z_bi_c h
  refine z_cV (av := [.int (M166 0 (i + (1 : Int32)).toNatClampNeg), .int (M166 0 (i + (2 : Int32)).toNatClampNeg), .int (M166 0 (i + (3 : Int32)).toNatClampNeg)]) (st := []) lk_L_116 dL_law_830 (A_X8_both_107 (d := d + 2) hl c171) rfl rfl en_107 rfl (Nat.le_of_ble_eq_true rfl) rfl z_len rfl rfl ?_
  refine z_istore (ls' := [.ref 0, .ref 51, .ref 107, .ref 149, .int i, .int v165, .int v172, .null]) dL_law_833 (by decide) rfl ?_
  refine z_aload_n dL_law_835 rfl ?_
  obtain ⟨v175, M176, c174, h⟩ := z_bi_c h
  refine z_cV (av := []) (st := []) lk_L_83 dL_law_836 (A_X8_thrown_107 (d := d + 13) hl c174) rfl rfl en_107 rfl (Nat.le_of_ble_eq_true rfl) rfl z_len rfl rfl ?_
  refine z_iload dL_law_839 rfl ?_
  refine z_icmp_eq (tgt := 846) dL_law_841 rfl (fun g177 => ?_) (fun g177 => ?_)
  · replace h := (if_pos g177).symm.trans h
    refine z_iload dL_law_846 rfl ?_
    refine z_if_ne (tgt := 863) dL_law_848 rfl (fun g178 => ?_) (fun g178 => ?_)
    · replace h := (if_pos g178).symm.trans h
      refine z_aload_n dL_law_851 rfl ?_
      refine z_ic kc_p0 dL_law_852 ?_
      refine z_ll0 (v := (Lm167 149 0)) dL_law_853 en_149 kn_p0 (z_ib_in rfl) rfl ?_
      refine z_iload dL_law_854 rfl ?_
      refine z_i2l dL_law_856 ?_
      refine z_lcmp dL_law_857 ?_
      refine z_if_eq (tgt := 863) dL_law_858 rfl (fun g179 => ?_) (fun g179 => ?_)
      · replace h := (if_pos g179).symm.trans h
        refine z_goto (tgt := 1541) dL_law_863 rfl ?_
        refine z_ii (ls' := [.ref 0, .ref 51, .ref 107, .ref 149, .int (i + (6 : Int32)), .int v165, .int v172, .null]) kc_p6 dL_law_1541 rfl (by decide) rfl ?_
        refine z_goto (tgt := 23) dL_law_1544 rfl ?_
        refine z_fg (ls' := [.ref 0, .ref 51, .ref 107, .ref 149, .int (i + (6 : Int32)), .null, .null, .null]) ⟨Or.inr rfl, Or.inr rfl, Or.inr rfl, Or.inr rfl, Or.inr rfl, Or.inl rfl, Or.inl rfl, Or.inl rfl, trivial⟩ ?_
        exact hK _ _ _ _ _ _ h
      · replace h := (if_neg g179).symm.trans h
        refine z_ic kc_p0 dL_law_861 ?_
        cases h
        exact z_rZ dL_law_862 rfl rfl
    · replace h := (if_neg g178).symm.trans h
      refine z_goto (tgt := 1541) dL_law_863 rfl ?_
      refine z_ii (ls' := [.ref 0, .ref 51, .ref 107, .ref 149, .int (i + (6 : Int32)), .int v165, .int v172, .null]) kc_p6 dL_law_1541 rfl (by decide) rfl ?_
      refine z_goto (tgt := 23) dL_law_1544 rfl ?_
      refine z_fg (ls' := [.ref 0, .ref 51, .ref 107, .ref 149, .int (i + (6 : Int32)), .null, .null, .null]) ⟨Or.inr rfl, Or.inr rfl, Or.inr rfl, Or.inr rfl, Or.inr rfl, Or.inl rfl, Or.inl rfl, Or.inl rfl, trivial⟩ ?_
      exact hK _ _ _ _ _ _ h
  · replace h := (if_neg g177).symm.trans h
    refine z_ic kc_p0 dL_law_844 ?_
    cases h
    exact z_rZ dL_law_845 rfl rfl
def f_L_c11 (K : Int32 → zMM → zML → Option (Int32 × zMM × zML)) (Ls : Nat) (i : Int32) (M : zMM) (Lm : zML) : Option (Int32 × zMM × zML) :=
  if z_ib (i + (1 : Int32)) Ls = true then
    if z_ib (i + (2 : Int32)) Ls = true then
      z_bw (f_L_send (M 0 (i + (1 : Int32)).toNatClampNeg) (M 0 (i + (2 : Int32)).toNatClampNeg) M Lm) fun v183 M184 Lm185 =>
      if z_ib (i + (1 : Int32)) Ls = true then
        if z_ib (i + (2 : Int32)) Ls = true then
          z_bi (f_X8_send_107 (M184 0 (i + (1 : Int32)).toNatClampNeg) (M184 0 (i + (2 : Int32)).toNatClampNeg) M184) fun v189 M190 =>
          z_bi (f_X8_thrown_107 M190) fun v192 M193 =>
          if v192 = v183 then
            if v183 = 0 then
              if (lg_cmp (Lm185 149 0) v189.toInt64) = 0 then
                K (i + (6 : Int32)) M193 Lm185
              else
                some ((0 : Int32), M193, Lm185)
            else
              K (i + (6 : Int32)) M193 Lm185
          else
            some ((0 : Int32), M193, Lm185)
        else none
      else none
    else none
  else none
theorem A_L_c11 {l : Launch} (hl : l.stackTraces = false) {Ls d n : Nat} {K : Int32 → zMM → zML → Option (Int32 × zMM × zML)}
    (hK : ∀ (i : Int32) (M : zMM) (Lm : zML) (M' : zMM) (Lm' : zML) (v : Int32), K i M Lm = some (v, M', Lm') → z_AW l mL_law (d + 14) n (6 * n) 23 [.ref 0, .ref 51, .ref 107, .ref 149, .int i, .null, .null, .null] [] (z_L0 Ls, M, Lm) (.inl (some (.int v))) (z_L0 Ls, M', Lm')) :
    ∀ (i : Int32) (M : zMM) (Lm : zML) (M' : zMM) (Lm' : zML) (v : Int32), f_L_c11 K Ls i M Lm = some (v, M', Lm') → z_AW l mL_law (d + 14) (n + 1) (6 * n + 6) 866 [.ref 0, .ref 51, .ref 107, .ref 149, .int i, .null, .null, .null] [] (z_L0 Ls, M, Lm) (.inl (some (.int v))) (z_L0 Ls, M', Lm') := by
  intro i M Lm M' Lm' v h
  replace h : (  if z_ib (i + (1 : Int32)) Ls = true then
    if z_ib (i + (2 : Int32)) Ls = true then
      z_bw (f_L_send (M 0 (i + (1 : Int32)).toNatClampNeg) (M 0 (i + (2 : Int32)).toNatClampNeg) M Lm) fun v183 M184 Lm185 =>
      if z_ib (i + (1 : Int32)) Ls = true then
        if z_ib (i + (2 : Int32)) Ls = true then
          z_bi (f_X8_send_107 (M184 0 (i + (1 : Int32)).toNatClampNeg) (M184 0 (i + (2 : Int32)).toNatClampNeg) M184) fun v189 M190 =>
          z_bi (f_X8_thrown_107 M190) fun v192 M193 =>
          if v192 = v183 then
            if v183 = 0 then
              if (lg_cmp (Lm185 149 0) v189.toInt64) = 0 then
                K (i + (6 : Int32)) M193 Lm185
              else
                some ((0 : Int32), M193, Lm185)
            else
              K (i + (6 : Int32)) M193 Lm185
          else
            some ((0 : Int32), M193, Lm185)
        else none
      else none
    else none
  else none) = some (v, M', Lm') := h
  refine z_aload_n dL_law_866 rfl ?_
  refine z_aload_n dL_law_867 rfl ?_
  refine z_iload dL_law_868 rfl ?_
  refine z_ic kc_p1 dL_law_870 ?_
  refine z_iadd dL_law_871 ?_
  obtain ⟨g180, h⟩ := z_ifn h
  refine z_al (v := (M 0 (i + (1 : Int32)).toNatClampNeg)) dL_law_872 en_0 rfl (z_ib_in g180) rfl ?_
  refine z_aload_n dL_law_873 rfl ?_
  refine z_iload dL_law_874 rfl ?_
  refine z_ic kc_p2 dL_law_876 ?_
  refine z_iadd dL_law_877 ?_
  obtain ⟨g181, h⟩ := z_ifn h
  refine z_al (v := (M 0 (i + (2 : Int32)).toNatClampNeg)) dL_law_878 en_0 rfl (z_ib_in g181) rfl ?_
  refine z_aload_n dL_law_879 rfl ?_
  obtain ⟨v183, M184, Lm185, c182, h⟩ := z_bw_c h
  refine z_cW (bc := n) (bs := 6 * n) (av := [.ref 51, .int (M 0 (i + (1 : Int32)).toNatClampNeg), .int (M 0 (i + (2 : Int32)).toNatClampNeg), .ref 149]) (st := []) lk_L_117 dL_law_880 (A_L_send (d := d + 5) hl c182) rfl rfl (Nat.le_of_ble_eq_true rfl) rfl z_len rfl rfl ?_
  refine z_istore (ls' := [.ref 0, .ref 51, .ref 107, .ref 149, .int i, .int v183, .null, .null]) dL_law_883 (by decide) rfl ?_
  refine z_aload_n dL_law_885 rfl ?_
  refine z_aload_n dL_law_886 rfl ?_
  refine z_iload dL_law_887 rfl ?_
  refine z_ic kc_p1 dL_law_889 ?_
  refine z_iadd dL_law_890 ?_
  obtain ⟨g186, h⟩ := z_ifn h
  refine z_al (v := (M184 0 (i + (1 : Int32)).toNatClampNeg)) dL_law_891 en_0 rfl (z_ib_in g186) rfl ?_
  refine z_aload_n dL_law_892 rfl ?_
  refine z_iload dL_law_893 rfl ?_
  refine z_ic kc_p2 dL_law_895 ?_
  refine z_iadd dL_law_896 ?_
  obtain ⟨g187, h⟩ := z_ifn h
  refine z_al (v := (M184 0 (i + (2 : Int32)).toNatClampNeg)) dL_law_897 en_0 rfl (z_ib_in g187) rfl ?_
  obtain ⟨v189, M190, c188, h⟩ := z_bi_c h
  refine z_cV (av := [.int (M184 0 (i + (1 : Int32)).toNatClampNeg), .int (M184 0 (i + (2 : Int32)).toNatClampNeg)]) (st := []) lk_L_119 dL_law_898 (A_X8_send_107 (d := d + 11) hl c188) rfl rfl en_107 rfl (Nat.le_of_ble_eq_true rfl) rfl z_len rfl rfl ?_
  refine z_istore (ls' := [.ref 0, .ref 51, .ref 107, .ref 149, .int i, .int v183, .int v189, .null]) dL_law_901 (by decide) rfl ?_
  refine z_aload_n dL_law_903 rfl ?_
  obtain ⟨v192, M193, c191, h⟩ := z_bi_c h
  refine z_cV (av := []) (st := []) lk_L_83 dL_law_904 (A_X8_thrown_107 (d := d + 13) hl c191) rfl rfl en_107 rfl (Nat.le_of_ble_eq_true rfl) rfl z_len rfl rfl ?_
  refine z_iload dL_law_907 rfl ?_
  refine z_icmp_eq (tgt := 914) dL_law_909 rfl (fun g194 => ?_) (fun g194 => ?_)
  · replace h := (if_pos g194).symm.trans h
    refine z_iload dL_law_914 rfl ?_
    refine z_if_ne (tgt := 931) dL_law_916 rfl (fun g195 => ?_) (fun g195 => ?_)
    · replace h := (if_pos g195).symm.trans h
      refine z_aload_n dL_law_919 rfl ?_
      refine z_ic kc_p0 dL_law_920 ?_
      refine z_ll0 (v := (Lm185 149 0)) dL_law_921 en_149 kn_p0 (z_ib_in rfl) rfl ?_
      refine z_iload dL_law_922 rfl ?_
      refine z_i2l dL_law_924 ?_
      refine z_lcmp dL_law_925 ?_
      refine z_if_eq (tgt := 931) dL_law_926 rfl (fun g196 => ?_) (fun g196 => ?_)
      · replace h := (if_pos g196).symm.trans h
        refine z_goto (tgt := 1541) dL_law_931 rfl ?_
        refine z_ii (ls' := [.ref 0, .ref 51, .ref 107, .ref 149, .int (i + (6 : Int32)), .int v183, .int v189, .null]) kc_p6 dL_law_1541 rfl (by decide) rfl ?_
        refine z_goto (tgt := 23) dL_law_1544 rfl ?_
        refine z_fg (ls' := [.ref 0, .ref 51, .ref 107, .ref 149, .int (i + (6 : Int32)), .null, .null, .null]) ⟨Or.inr rfl, Or.inr rfl, Or.inr rfl, Or.inr rfl, Or.inr rfl, Or.inl rfl, Or.inl rfl, Or.inl rfl, trivial⟩ ?_
        exact hK _ _ _ _ _ _ h
      · replace h := (if_neg g196).symm.trans h
        refine z_ic kc_p0 dL_law_929 ?_
        cases h
        exact z_rZ dL_law_930 rfl rfl
    · replace h := (if_neg g195).symm.trans h
      refine z_goto (tgt := 1541) dL_law_931 rfl ?_
      refine z_ii (ls' := [.ref 0, .ref 51, .ref 107, .ref 149, .int (i + (6 : Int32)), .int v183, .int v189, .null]) kc_p6 dL_law_1541 rfl (by decide) rfl ?_
      refine z_goto (tgt := 23) dL_law_1544 rfl ?_
      refine z_fg (ls' := [.ref 0, .ref 51, .ref 107, .ref 149, .int (i + (6 : Int32)), .null, .null, .null]) ⟨Or.inr rfl, Or.inr rfl, Or.inr rfl, Or.inr rfl, Or.inr rfl, Or.inl rfl, Or.inl rfl, Or.inl rfl, trivial⟩ ?_
      exact hK _ _ _ _ _ _ h
  · replace h := (if_neg g194).symm.trans h
    refine z_ic kc_p0 dL_law_912 ?_
    cases h
    exact z_rZ dL_law_913 rfl rfl
def f_L_c12 (K : Int32 → zMM → zML → Option (Int32 × zMM × zML)) (Ls : Nat) (i : Int32) (M : zMM) (Lm : zML) : Option (Int32 × zMM × zML) :=
  if z_ib (i + (1 : Int32)) Ls = true then
    z_bv (f_X7_seed_51 (M 0 (i + (1 : Int32)).toNatClampNeg) M) fun M200 =>
    if z_ib (i + (1 : Int32)) Ls = true then
      z_bv (f_X8_seed_107 (M200 0 (i + (1 : Int32)).toNatClampNeg) M200) fun M204 =>
      K (i + (6 : Int32)) M204 Lm
    else none
  else none
theorem A_L_c12 {l : Launch} (hl : l.stackTraces = false) {Ls d n : Nat} {K : Int32 → zMM → zML → Option (Int32 × zMM × zML)}
    (hK : ∀ (i : Int32) (M : zMM) (Lm : zML) (M' : zMM) (Lm' : zML) (v : Int32), K i M Lm = some (v, M', Lm') → z_AW l mL_law (d + 14) n (6 * n) 23 [.ref 0, .ref 51, .ref 107, .ref 149, .int i, .null, .null, .null] [] (z_L0 Ls, M, Lm) (.inl (some (.int v))) (z_L0 Ls, M', Lm')) :
    ∀ (i : Int32) (M : zMM) (Lm : zML) (M' : zMM) (Lm' : zML) (v : Int32), f_L_c12 K Ls i M Lm = some (v, M', Lm') → z_AW l mL_law (d + 14) (n + 1) (6 * n + 6) 934 [.ref 0, .ref 51, .ref 107, .ref 149, .int i, .null, .null, .null] [] (z_L0 Ls, M, Lm) (.inl (some (.int v))) (z_L0 Ls, M', Lm') := by
  intro i M Lm M' Lm' v h
  replace h : (  if z_ib (i + (1 : Int32)) Ls = true then
    z_bv (f_X7_seed_51 (M 0 (i + (1 : Int32)).toNatClampNeg) M) fun M200 =>
    if z_ib (i + (1 : Int32)) Ls = true then
      z_bv (f_X8_seed_107 (M200 0 (i + (1 : Int32)).toNatClampNeg) M200) fun M204 =>
      K (i + (6 : Int32)) M204 Lm
    else none
  else none) = some (v, M', Lm') := h
  refine z_aload_n dL_law_934 rfl ?_
  refine z_aload_n dL_law_935 rfl ?_
  refine z_iload dL_law_936 rfl ?_
  refine z_ic kc_p1 dL_law_938 ?_
  refine z_iadd dL_law_939 ?_
  obtain ⟨g197, h⟩ := z_ifn h
  refine z_al (v := (M 0 (i + (1 : Int32)).toNatClampNeg)) dL_law_940 en_0 rfl (z_ib_in g197) rfl ?_
  obtain ⟨M200, c198, h⟩ := z_bv_c h
  refine z_cV (av := [.int (M 0 (i + (1 : Int32)).toNatClampNeg)]) (st := []) lk_L_120 dL_law_941 (A_X7_seed_51 (d := d + 13) hl c198) rfl rfl en_51 rfl (Nat.le_of_ble_eq_true rfl) rfl z_len rfl rfl ?_
  refine z_aload_n dL_law_944 rfl ?_
  refine z_aload_n dL_law_945 rfl ?_
  refine z_iload dL_law_946 rfl ?_
  refine z_ic kc_p1 dL_law_948 ?_
  refine z_iadd dL_law_949 ?_
  obtain ⟨g201, h⟩ := z_ifn h
  refine z_al (v := (M200 0 (i + (1 : Int32)).toNatClampNeg)) dL_law_950 en_0 rfl (z_ib_in g201) rfl ?_
  obtain ⟨M204, c202, h⟩ := z_bv_c h
  refine z_cV (av := [.int (M200 0 (i + (1 : Int32)).toNatClampNeg)]) (st := []) lk_L_124 dL_law_951 (A_X8_seed_107 (d := d + 13) hl c202) rfl rfl en_107 rfl (Nat.le_of_ble_eq_true rfl) rfl z_len rfl rfl ?_
  refine z_goto (tgt := 1541) dL_law_954 rfl ?_
  refine z_ii (ls' := [.ref 0, .ref 51, .ref 107, .ref 149, .int (i + (6 : Int32)), .null, .null, .null]) kc_p6 dL_law_1541 rfl (by decide) rfl ?_
  refine z_goto (tgt := 23) dL_law_1544 rfl ?_
  refine z_fg (ls' := [.ref 0, .ref 51, .ref 107, .ref 149, .int (i + (6 : Int32)), .null, .null, .null]) ⟨Or.inr rfl, Or.inr rfl, Or.inr rfl, Or.inr rfl, Or.inr rfl, Or.inl rfl, Or.inl rfl, Or.inl rfl, trivial⟩ ?_
  refine z_AW.mono (bc := n) (bs := 6 * n) (by omega) (by omega) ?_
  exact hK _ _ _ _ _ _ h
def f_L_c13 (K : Int32 → zMM → zML → Option (Int32 × zMM × zML)) (Ls : Nat) (i : Int32) (M : zMM) (Lm : zML) : Option (Int32 × zMM × zML) :=
  if z_ib (i + (1 : Int32)) Ls = true then
    z_bw (f_L_days (M 0 (i + (1 : Int32)).toNatClampNeg) M Lm) fun v207 M208 Lm209 =>
    if z_ib (i + (1 : Int32)) Ls = true then
      z_bi (f_X8_days_107 (M208 0 (i + (1 : Int32)).toNatClampNeg) M208) fun v212 M213 =>
      z_bi (f_X8_thrown_107 M213) fun v215 M216 =>
      if v215 = v207 then
        if v207 = 0 then
          if (lg_cmp (Lm209 149 0) v212.toInt64) = 0 then
            K (i + (6 : Int32)) M216 Lm209
          else
            some ((0 : Int32), M216, Lm209)
        else
          K (i + (6 : Int32)) M216 Lm209
      else
        some ((0 : Int32), M216, Lm209)
    else none
  else none
theorem A_L_c13 {l : Launch} (hl : l.stackTraces = false) {Ls d n : Nat} {K : Int32 → zMM → zML → Option (Int32 × zMM × zML)}
    (hK : ∀ (i : Int32) (M : zMM) (Lm : zML) (M' : zMM) (Lm' : zML) (v : Int32), K i M Lm = some (v, M', Lm') → z_AW l mL_law (d + 14) n (6 * n) 23 [.ref 0, .ref 51, .ref 107, .ref 149, .int i, .null, .null, .null] [] (z_L0 Ls, M, Lm) (.inl (some (.int v))) (z_L0 Ls, M', Lm')) :
    ∀ (i : Int32) (M : zMM) (Lm : zML) (M' : zMM) (Lm' : zML) (v : Int32), f_L_c13 K Ls i M Lm = some (v, M', Lm') → z_AW l mL_law (d + 14) (n + 1) (6 * n + 6) 957 [.ref 0, .ref 51, .ref 107, .ref 149, .int i, .null, .null, .null] [] (z_L0 Ls, M, Lm) (.inl (some (.int v))) (z_L0 Ls, M', Lm') := by
  intro i M Lm M' Lm' v h
  replace h : (  if z_ib (i + (1 : Int32)) Ls = true then
    z_bw (f_L_days (M 0 (i + (1 : Int32)).toNatClampNeg) M Lm) fun v207 M208 Lm209 =>
    if z_ib (i + (1 : Int32)) Ls = true then
      z_bi (f_X8_days_107 (M208 0 (i + (1 : Int32)).toNatClampNeg) M208) fun v212 M213 =>
      z_bi (f_X8_thrown_107 M213) fun v215 M216 =>
      if v215 = v207 then
        if v207 = 0 then
          if (lg_cmp (Lm209 149 0) v212.toInt64) = 0 then
            K (i + (6 : Int32)) M216 Lm209
          else
            some ((0 : Int32), M216, Lm209)
        else
          K (i + (6 : Int32)) M216 Lm209
      else
        some ((0 : Int32), M216, Lm209)
    else none
  else none) = some (v, M', Lm') := h
  refine z_aload_n dL_law_957 rfl ?_
  refine z_aload_n dL_law_958 rfl ?_
  refine z_iload dL_law_959 rfl ?_
  refine z_ic kc_p1 dL_law_961 ?_
  refine z_iadd dL_law_962 ?_
  obtain ⟨g205, h⟩ := z_ifn h
  refine z_al (v := (M 0 (i + (1 : Int32)).toNatClampNeg)) dL_law_963 en_0 rfl (z_ib_in g205) rfl ?_
  refine z_aload_n dL_law_964 rfl ?_
  obtain ⟨v207, M208, Lm209, c206, h⟩ := z_bw_c h
  refine z_cW (bc := n) (bs := 6 * n) (av := [.ref 51, .int (M 0 (i + (1 : Int32)).toNatClampNeg), .ref 149]) (st := []) lk_L_125 dL_law_965 (A_L_days (d := d + 6) hl c206) rfl rfl (Nat.le_of_ble_eq_true rfl) rfl z_len rfl rfl ?_
  refine z_istore (ls' := [.ref 0, .ref 51, .ref 107, .ref 149, .int i, .int v207, .null, .null]) dL_law_968 (by decide) rfl ?_
  refine z_aload_n dL_law_970 rfl ?_
  refine z_aload_n dL_law_971 rfl ?_
  refine z_iload dL_law_972 rfl ?_
  refine z_ic kc_p1 dL_law_974 ?_
  refine z_iadd dL_law_975 ?_
  obtain ⟨g210, h⟩ := z_ifn h
  refine z_al (v := (M208 0 (i + (1 : Int32)).toNatClampNeg)) dL_law_976 en_0 rfl (z_ib_in g210) rfl ?_
  obtain ⟨v212, M213, c211, h⟩ := z_bi_c h
  refine z_cV (av := [.int (M208 0 (i + (1 : Int32)).toNatClampNeg)]) (st := []) lk_L_127 dL_law_977 (A_X8_days_107 (d := d + 12) hl c211) rfl rfl en_107 rfl (Nat.le_of_ble_eq_true rfl) rfl z_len rfl rfl ?_
  refine z_istore (ls' := [.ref 0, .ref 51, .ref 107, .ref 149, .int i, .int v207, .int v212, .null]) dL_law_980 (by decide) rfl ?_
  refine z_aload_n dL_law_982 rfl ?_
  obtain ⟨v215, M216, c214, h⟩ := z_bi_c h
  refine z_cV (av := []) (st := []) lk_L_83 dL_law_983 (A_X8_thrown_107 (d := d + 13) hl c214) rfl rfl en_107 rfl (Nat.le_of_ble_eq_true rfl) rfl z_len rfl rfl ?_
  refine z_iload dL_law_986 rfl ?_
  refine z_icmp_eq (tgt := 993) dL_law_988 rfl (fun g217 => ?_) (fun g217 => ?_)
  · replace h := (if_pos g217).symm.trans h
    refine z_iload dL_law_993 rfl ?_
    refine z_if_ne (tgt := 1010) dL_law_995 rfl (fun g218 => ?_) (fun g218 => ?_)
    · replace h := (if_pos g218).symm.trans h
      refine z_aload_n dL_law_998 rfl ?_
      refine z_ic kc_p0 dL_law_999 ?_
      refine z_ll0 (v := (Lm209 149 0)) dL_law_1000 en_149 kn_p0 (z_ib_in rfl) rfl ?_
      refine z_iload dL_law_1001 rfl ?_
      refine z_i2l dL_law_1003 ?_
      refine z_lcmp dL_law_1004 ?_
      refine z_if_eq (tgt := 1010) dL_law_1005 rfl (fun g219 => ?_) (fun g219 => ?_)
      · replace h := (if_pos g219).symm.trans h
        refine z_goto (tgt := 1541) dL_law_1010 rfl ?_
        refine z_ii (ls' := [.ref 0, .ref 51, .ref 107, .ref 149, .int (i + (6 : Int32)), .int v207, .int v212, .null]) kc_p6 dL_law_1541 rfl (by decide) rfl ?_
        refine z_goto (tgt := 23) dL_law_1544 rfl ?_
        refine z_fg (ls' := [.ref 0, .ref 51, .ref 107, .ref 149, .int (i + (6 : Int32)), .null, .null, .null]) ⟨Or.inr rfl, Or.inr rfl, Or.inr rfl, Or.inr rfl, Or.inr rfl, Or.inl rfl, Or.inl rfl, Or.inl rfl, trivial⟩ ?_
        exact hK _ _ _ _ _ _ h
      · replace h := (if_neg g219).symm.trans h
        refine z_ic kc_p0 dL_law_1008 ?_
        cases h
        exact z_rZ dL_law_1009 rfl rfl
    · replace h := (if_neg g218).symm.trans h
      refine z_goto (tgt := 1541) dL_law_1010 rfl ?_
      refine z_ii (ls' := [.ref 0, .ref 51, .ref 107, .ref 149, .int (i + (6 : Int32)), .int v207, .int v212, .null]) kc_p6 dL_law_1541 rfl (by decide) rfl ?_
      refine z_goto (tgt := 23) dL_law_1544 rfl ?_
      refine z_fg (ls' := [.ref 0, .ref 51, .ref 107, .ref 149, .int (i + (6 : Int32)), .null, .null, .null]) ⟨Or.inr rfl, Or.inr rfl, Or.inr rfl, Or.inr rfl, Or.inr rfl, Or.inl rfl, Or.inl rfl, Or.inl rfl, trivial⟩ ?_
      exact hK _ _ _ _ _ _ h
  · replace h := (if_neg g217).symm.trans h
    refine z_ic kc_p0 dL_law_991 ?_
    cases h
    exact z_rZ dL_law_992 rfl rfl
def f_L_c14 (K : Int32 → zMM → zML → Option (Int32 × zMM × zML)) (Ls : Nat) (i : Int32) (M : zMM) (Lm : zML) : Option (Int32 × zMM × zML) :=
  z_bi (f_X7_undo_51 M) fun v221 M222 =>
  z_bi (f_X8_undo_107 M222) fun v224 M225 =>
  if v221 = v224 then
    K (i + (6 : Int32)) M225 Lm
  else
    some ((0 : Int32), M225, Lm)
theorem A_L_c14 {l : Launch} (hl : l.stackTraces = false) {Ls d n : Nat} {K : Int32 → zMM → zML → Option (Int32 × zMM × zML)}
    (hK : ∀ (i : Int32) (M : zMM) (Lm : zML) (M' : zMM) (Lm' : zML) (v : Int32), K i M Lm = some (v, M', Lm') → z_AW l mL_law (d + 14) n (6 * n) 23 [.ref 0, .ref 51, .ref 107, .ref 149, .int i, .null, .null, .null] [] (z_L0 Ls, M, Lm) (.inl (some (.int v))) (z_L0 Ls, M', Lm')) :
    ∀ (i : Int32) (M : zMM) (Lm : zML) (M' : zMM) (Lm' : zML) (v : Int32), f_L_c14 K Ls i M Lm = some (v, M', Lm') → z_AW l mL_law (d + 14) (n + 1) (6 * n + 6) 1013 [.ref 0, .ref 51, .ref 107, .ref 149, .int i, .null, .null, .null] [] (z_L0 Ls, M, Lm) (.inl (some (.int v))) (z_L0 Ls, M', Lm') := by
  intro i M Lm M' Lm' v h
  replace h : (  z_bi (f_X7_undo_51 M) fun v221 M222 =>
  z_bi (f_X8_undo_107 M222) fun v224 M225 =>
  if v221 = v224 then
    K (i + (6 : Int32)) M225 Lm
  else
    some ((0 : Int32), M225, Lm)) = some (v, M', Lm') := h
  refine z_aload_n dL_law_1013 rfl ?_
  obtain ⟨v221, M222, c220, h⟩ := z_bi_c h
  refine z_cV (av := []) (st := []) lk_L_128 dL_law_1014 (A_X7_undo_51 (d := d + 10) hl c220) rfl rfl en_51 rfl (Nat.le_of_ble_eq_true rfl) rfl z_len rfl rfl ?_
  refine z_aload_n dL_law_1017 rfl ?_
  obtain ⟨v224, M225, c223, h⟩ := z_bi_c h
  refine z_cV (av := []) (st := [.int v221]) lk_L_132 dL_law_1018 (A_X8_undo_107 (d := d + 13) hl c223) rfl rfl en_107 rfl (Nat.le_of_ble_eq_true rfl) rfl z_len rfl rfl ?_
  refine z_icmp_eq (tgt := 1541) dL_law_1021 rfl (fun g226 => ?_) (fun g226 => ?_)
  · replace h := (if_pos g226).symm.trans h
    refine z_ii (ls' := [.ref 0, .ref 51, .ref 107, .ref 149, .int (i + (6 : Int32)), .null, .null, .null]) kc_p6 dL_law_1541 rfl (by decide) rfl ?_
    refine z_goto (tgt := 23) dL_law_1544 rfl ?_
    refine z_fg (ls' := [.ref 0, .ref 51, .ref 107, .ref 149, .int (i + (6 : Int32)), .null, .null, .null]) ⟨Or.inr rfl, Or.inr rfl, Or.inr rfl, Or.inr rfl, Or.inr rfl, Or.inl rfl, Or.inl rfl, Or.inl rfl, trivial⟩ ?_
    refine z_AW.mono (bc := n) (bs := 6 * n) (by omega) (by omega) ?_
    exact hK _ _ _ _ _ _ h
  · replace h := (if_neg g226).symm.trans h
    refine z_ic kc_p0 dL_law_1024 ?_
    cases h
    exact z_rZ dL_law_1025 rfl rfl
def f_L_c15 (K : Int32 → zMM → zML → Option (Int32 × zMM × zML)) (Ls : Nat) (i : Int32) (M : zMM) (Lm : zML) : Option (Int32 × zMM × zML) :=
  if z_ib (i + (1 : Int32)) Ls = true then
    if z_ib (i + (2 : Int32)) Ls = true then
      if z_ib (i + (3 : Int32)) Ls = true then
        z_bw (f_L_clerk (M 0 (i + (1 : Int32)).toNatClampNeg) (M 0 (i + (2 : Int32)).toNatClampNeg) (M 0 (i + (3 : Int32)).toNatClampNeg) M Lm) fun v231 M232 Lm233 =>
        if z_ib (i + (1 : Int32)) Ls = true then
          if z_ib (i + (2 : Int32)) Ls = true then
            if z_ib (i + (3 : Int32)) Ls = true then
              z_bi (f_X8_clerk_107 (M232 0 (i + (1 : Int32)).toNatClampNeg) (M232 0 (i + (2 : Int32)).toNatClampNeg) (M232 0 (i + (3 : Int32)).toNatClampNeg) M232) fun v238 M239 =>
              z_bi (f_X8_thrown_107 M239) fun v241 M242 =>
              if v241 = v231 then
                if v231 = 0 then
                  if (lg_cmp (Lm233 149 0) v238.toInt64) = 0 then
                    K (i + (6 : Int32)) M242 Lm233
                  else
                    some ((0 : Int32), M242, Lm233)
                else
                  K (i + (6 : Int32)) M242 Lm233
              else
                some ((0 : Int32), M242, Lm233)
            else none
          else none
        else none
      else none
    else none
  else none
theorem A_L_c15 {l : Launch} (hl : l.stackTraces = false) {Ls d n : Nat} {K : Int32 → zMM → zML → Option (Int32 × zMM × zML)}
    (hK : ∀ (i : Int32) (M : zMM) (Lm : zML) (M' : zMM) (Lm' : zML) (v : Int32), K i M Lm = some (v, M', Lm') → z_AW l mL_law (d + 14) n (6 * n) 23 [.ref 0, .ref 51, .ref 107, .ref 149, .int i, .null, .null, .null] [] (z_L0 Ls, M, Lm) (.inl (some (.int v))) (z_L0 Ls, M', Lm')) :
    ∀ (i : Int32) (M : zMM) (Lm : zML) (M' : zMM) (Lm' : zML) (v : Int32), f_L_c15 K Ls i M Lm = some (v, M', Lm') → z_AW l mL_law (d + 14) (n + 1) (6 * n + 6) 1026 [.ref 0, .ref 51, .ref 107, .ref 149, .int i, .null, .null, .null] [] (z_L0 Ls, M, Lm) (.inl (some (.int v))) (z_L0 Ls, M', Lm') := by
  intro i M Lm M' Lm' v h
  replace h : (  if z_ib (i + (1 : Int32)) Ls = true then
    if z_ib (i + (2 : Int32)) Ls = true then
      if z_ib (i + (3 : Int32)) Ls = true then
        z_bw (f_L_clerk (M 0 (i + (1 : Int32)).toNatClampNeg) (M 0 (i + (2 : Int32)).toNatClampNeg) (M 0 (i + (3 : Int32)).toNatClampNeg) M Lm) fun v231 M232 Lm233 =>
        if z_ib (i + (1 : Int32)) Ls = true then
          if z_ib (i + (2 : Int32)) Ls = true then
            if z_ib (i + (3 : Int32)) Ls = true then
              z_bi (f_X8_clerk_107 (M232 0 (i + (1 : Int32)).toNatClampNeg) (M232 0 (i + (2 : Int32)).toNatClampNeg) (M232 0 (i + (3 : Int32)).toNatClampNeg) M232) fun v238 M239 =>
              z_bi (f_X8_thrown_107 M239) fun v241 M242 =>
              if v241 = v231 then
                if v231 = 0 then
                  if (lg_cmp (Lm233 149 0) v238.toInt64) = 0 then
                    K (i + (6 : Int32)) M242 Lm233
                  else
                    some ((0 : Int32), M242, Lm233)
                else
                  K (i + (6 : Int32)) M242 Lm233
              else
                some ((0 : Int32), M242, Lm233)
            else none
          else none
        else none
      else none
    else none
  else none) = some (v, M', Lm') := h
  refine z_aload_n dL_law_1026 rfl ?_
  refine z_aload_n dL_law_1027 rfl ?_
  refine z_iload dL_law_1028 rfl ?_
  refine z_ic kc_p1 dL_law_1030 ?_
  refine z_iadd dL_law_1031 ?_
  obtain ⟨g227, h⟩ := z_ifn h
  refine z_al (v := (M 0 (i + (1 : Int32)).toNatClampNeg)) dL_law_1032 en_0 rfl (z_ib_in g227) rfl ?_
  refine z_aload_n dL_law_1033 rfl ?_
  refine z_iload dL_law_1034 rfl ?_
  refine z_ic kc_p2 dL_law_1036 ?_
  refine z_iadd dL_law_1037 ?_
  obtain ⟨g228, h⟩ := z_ifn h
  refine z_al (v := (M 0 (i + (2 : Int32)).toNatClampNeg)) dL_law_1038 en_0 rfl (z_ib_in g228) rfl ?_
  refine z_aload_n dL_law_1039 rfl ?_
  refine z_iload dL_law_1040 rfl ?_
  refine z_ic kc_p3 dL_law_1042 ?_
  refine z_iadd dL_law_1043 ?_
  obtain ⟨g229, h⟩ := z_ifn h
  refine z_al (v := (M 0 (i + (3 : Int32)).toNatClampNeg)) dL_law_1044 en_0 rfl (z_ib_in g229) rfl ?_
  refine z_aload_n dL_law_1045 rfl ?_
  obtain ⟨v231, M232, Lm233, c230, h⟩ := z_bw_c h
  refine z_cW (bc := n) (bs := 6 * n) (av := [.ref 51, .int (M 0 (i + (1 : Int32)).toNatClampNeg), .int (M 0 (i + (2 : Int32)).toNatClampNeg), .int (M 0 (i + (3 : Int32)).toNatClampNeg), .ref 149]) (st := []) lk_L_133 dL_law_1046 (A_L_clerk (d := d + 4) hl c230) rfl rfl (Nat.le_of_ble_eq_true rfl) rfl z_len rfl rfl ?_
  refine z_istore (ls' := [.ref 0, .ref 51, .ref 107, .ref 149, .int i, .int v231, .null, .null]) dL_law_1049 (by decide) rfl ?_
  refine z_aload_n dL_law_1051 rfl ?_
  refine z_aload_n dL_law_1052 rfl ?_
  refine z_iload dL_law_1053 rfl ?_
  refine z_ic kc_p1 dL_law_1055 ?_
  refine z_iadd dL_law_1056 ?_
  obtain ⟨g234, h⟩ := z_ifn h
  refine z_al (v := (M232 0 (i + (1 : Int32)).toNatClampNeg)) dL_law_1057 en_0 rfl (z_ib_in g234) rfl ?_
  refine z_aload_n dL_law_1058 rfl ?_
  refine z_iload dL_law_1059 rfl ?_
  refine z_ic kc_p2 dL_law_1061 ?_
  refine z_iadd dL_law_1062 ?_
  obtain ⟨g235, h⟩ := z_ifn h
  refine z_al (v := (M232 0 (i + (2 : Int32)).toNatClampNeg)) dL_law_1063 en_0 rfl (z_ib_in g235) rfl ?_
  refine z_aload_n dL_law_1064 rfl ?_
  refine z_iload dL_law_1065 rfl ?_
  refine z_ic kc_p3 dL_law_1067 ?_
  refine z_iadd dL_law_1068 ?_
  obtain ⟨g236, h⟩ := z_ifn h
  refine z_al (v := (M232 0 (i + (3 : Int32)).toNatClampNeg)) dL_law_1069 en_0 rfl (z_ib_in g236) rfl ?_
  obtain ⟨v238, M239, c237, h⟩ := z_bi_c h
  refine z_cV (av := [.int (M232 0 (i + (1 : Int32)).toNatClampNeg), .int (M232 0 (i + (2 : Int32)).toNatClampNeg), .int (M232 0 (i + (3 : Int32)).toNatClampNeg)]) (st := []) lk_L_135 dL_law_1070 (A_X8_clerk_107 (d := d + 11) hl c237) rfl rfl en_107 rfl (Nat.le_of_ble_eq_true rfl) rfl z_len rfl rfl ?_
  refine z_istore (ls' := [.ref 0, .ref 51, .ref 107, .ref 149, .int i, .int v231, .int v238, .null]) dL_law_1073 (by decide) rfl ?_
  refine z_aload_n dL_law_1075 rfl ?_
  obtain ⟨v241, M242, c240, h⟩ := z_bi_c h
  refine z_cV (av := []) (st := []) lk_L_83 dL_law_1076 (A_X8_thrown_107 (d := d + 13) hl c240) rfl rfl en_107 rfl (Nat.le_of_ble_eq_true rfl) rfl z_len rfl rfl ?_
  refine z_iload dL_law_1079 rfl ?_
  refine z_icmp_eq (tgt := 1086) dL_law_1081 rfl (fun g243 => ?_) (fun g243 => ?_)
  · replace h := (if_pos g243).symm.trans h
    refine z_iload dL_law_1086 rfl ?_
    refine z_if_ne (tgt := 1103) dL_law_1088 rfl (fun g244 => ?_) (fun g244 => ?_)
    · replace h := (if_pos g244).symm.trans h
      refine z_aload_n dL_law_1091 rfl ?_
      refine z_ic kc_p0 dL_law_1092 ?_
      refine z_ll0 (v := (Lm233 149 0)) dL_law_1093 en_149 kn_p0 (z_ib_in rfl) rfl ?_
      refine z_iload dL_law_1094 rfl ?_
      refine z_i2l dL_law_1096 ?_
      refine z_lcmp dL_law_1097 ?_
      refine z_if_eq (tgt := 1103) dL_law_1098 rfl (fun g245 => ?_) (fun g245 => ?_)
      · replace h := (if_pos g245).symm.trans h
        refine z_goto (tgt := 1541) dL_law_1103 rfl ?_
        refine z_ii (ls' := [.ref 0, .ref 51, .ref 107, .ref 149, .int (i + (6 : Int32)), .int v231, .int v238, .null]) kc_p6 dL_law_1541 rfl (by decide) rfl ?_
        refine z_goto (tgt := 23) dL_law_1544 rfl ?_
        refine z_fg (ls' := [.ref 0, .ref 51, .ref 107, .ref 149, .int (i + (6 : Int32)), .null, .null, .null]) ⟨Or.inr rfl, Or.inr rfl, Or.inr rfl, Or.inr rfl, Or.inr rfl, Or.inl rfl, Or.inl rfl, Or.inl rfl, trivial⟩ ?_
        exact hK _ _ _ _ _ _ h
      · replace h := (if_neg g245).symm.trans h
        refine z_ic kc_p0 dL_law_1101 ?_
        cases h
        exact z_rZ dL_law_1102 rfl rfl
    · replace h := (if_neg g244).symm.trans h
      refine z_goto (tgt := 1541) dL_law_1103 rfl ?_
      refine z_ii (ls' := [.ref 0, .ref 51, .ref 107, .ref 149, .int (i + (6 : Int32)), .int v231, .int v238, .null]) kc_p6 dL_law_1541 rfl (by decide) rfl ?_
      refine z_goto (tgt := 23) dL_law_1544 rfl ?_
      refine z_fg (ls' := [.ref 0, .ref 51, .ref 107, .ref 149, .int (i + (6 : Int32)), .null, .null, .null]) ⟨Or.inr rfl, Or.inr rfl, Or.inr rfl, Or.inr rfl, Or.inr rfl, Or.inl rfl, Or.inl rfl, Or.inl rfl, trivial⟩ ?_
      exact hK _ _ _ _ _ _ h
  · replace h := (if_neg g243).symm.trans h
    refine z_ic kc_p0 dL_law_1084 ?_
    cases h
    exact z_rZ dL_law_1085 rfl rfl
def f_L_c16 (K : Int32 → zMM → zML → Option (Int32 × zMM × zML)) (Ls : Nat) (i : Int32) (M : zMM) (Lm : zML) : Option (Int32 × zMM × zML) :=
  if z_ib (i + (1 : Int32)) Ls = true then
    if z_ib (i + (2 : Int32)) Ls = true then
      if z_ib (i + (3 : Int32)) Ls = true then
        if z_ib (i + (4 : Int32)) Ls = true then
          z_bw (f_L_lost (M 0 (i + (1 : Int32)).toNatClampNeg) (M 0 (i + (2 : Int32)).toNatClampNeg) (M 0 (i + (3 : Int32)).toNatClampNeg) (M 0 (i + (4 : Int32)).toNatClampNeg) M Lm) fun v251 M252 Lm253 =>
          if z_ib (i + (1 : Int32)) Ls = true then
            if z_ib (i + (2 : Int32)) Ls = true then
              if z_ib (i + (3 : Int32)) Ls = true then
                if z_ib (i + (4 : Int32)) Ls = true then
                  z_bi (f_X8_lost_107 (M252 0 (i + (1 : Int32)).toNatClampNeg) (M252 0 (i + (2 : Int32)).toNatClampNeg) (M252 0 (i + (3 : Int32)).toNatClampNeg) (M252 0 (i + (4 : Int32)).toNatClampNeg) M252) fun v259 M260 =>
                  z_bi (f_X8_thrown_107 M260) fun v262 M263 =>
                  if v262 = v251 then
                    if v251 = 0 then
                      if (lg_cmp (Lm253 149 0) v259) = 0 then
                        K (i + (6 : Int32)) M263 Lm253
                      else
                        some ((0 : Int32), M263, Lm253)
                    else
                      K (i + (6 : Int32)) M263 Lm253
                  else
                    some ((0 : Int32), M263, Lm253)
                else none
              else none
            else none
          else none
        else none
      else none
    else none
  else none
theorem A_L_c16 {l : Launch} (hl : l.stackTraces = false) {Ls d n : Nat} {K : Int32 → zMM → zML → Option (Int32 × zMM × zML)}
    (hK : ∀ (i : Int32) (M : zMM) (Lm : zML) (M' : zMM) (Lm' : zML) (v : Int32), K i M Lm = some (v, M', Lm') → z_AW l mL_law (d + 14) n (6 * n) 23 [.ref 0, .ref 51, .ref 107, .ref 149, .int i, .null, .null, .null] [] (z_L0 Ls, M, Lm) (.inl (some (.int v))) (z_L0 Ls, M', Lm')) :
    ∀ (i : Int32) (M : zMM) (Lm : zML) (M' : zMM) (Lm' : zML) (v : Int32), f_L_c16 K Ls i M Lm = some (v, M', Lm') → z_AW l mL_law (d + 14) (n + 1) (6 * n + 6) 1106 [.ref 0, .ref 51, .ref 107, .ref 149, .int i, .null, .null, .null] [] (z_L0 Ls, M, Lm) (.inl (some (.int v))) (z_L0 Ls, M', Lm') := by
  intro i M Lm M' Lm' v h
  replace h : (  if z_ib (i + (1 : Int32)) Ls = true then
    if z_ib (i + (2 : Int32)) Ls = true then
      if z_ib (i + (3 : Int32)) Ls = true then
        if z_ib (i + (4 : Int32)) Ls = true then
          z_bw (f_L_lost (M 0 (i + (1 : Int32)).toNatClampNeg) (M 0 (i + (2 : Int32)).toNatClampNeg) (M 0 (i + (3 : Int32)).toNatClampNeg) (M 0 (i + (4 : Int32)).toNatClampNeg) M Lm) fun v251 M252 Lm253 =>
          if z_ib (i + (1 : Int32)) Ls = true then
            if z_ib (i + (2 : Int32)) Ls = true then
              if z_ib (i + (3 : Int32)) Ls = true then
                if z_ib (i + (4 : Int32)) Ls = true then
                  z_bi (f_X8_lost_107 (M252 0 (i + (1 : Int32)).toNatClampNeg) (M252 0 (i + (2 : Int32)).toNatClampNeg) (M252 0 (i + (3 : Int32)).toNatClampNeg) (M252 0 (i + (4 : Int32)).toNatClampNeg) M252) fun v259 M260 =>
                  z_bi (f_X8_thrown_107 M260) fun v262 M263 =>
                  if v262 = v251 then
                    if v251 = 0 then
                      if (lg_cmp (Lm253 149 0) v259) = 0 then
                        K (i + (6 : Int32)) M263 Lm253
                      else
                        some ((0 : Int32), M263, Lm253)
                    else
                      K (i + (6 : Int32)) M263 Lm253
                  else
                    some ((0 : Int32), M263, Lm253)
                else none
              else none
            else none
          else none
        else none
      else none
    else none
  else none) = some (v, M', Lm') := h
  refine z_aload_n dL_law_1106 rfl ?_
  refine z_aload_n dL_law_1107 rfl ?_
  refine z_iload dL_law_1108 rfl ?_
  refine z_ic kc_p1 dL_law_1110 ?_
  refine z_iadd dL_law_1111 ?_
  obtain ⟨g246, h⟩ := z_ifn h
  refine z_al (v := (M 0 (i + (1 : Int32)).toNatClampNeg)) dL_law_1112 en_0 rfl (z_ib_in g246) rfl ?_
  refine z_aload_n dL_law_1113 rfl ?_
  refine z_iload dL_law_1114 rfl ?_
  refine z_ic kc_p2 dL_law_1116 ?_
  refine z_iadd dL_law_1117 ?_
  obtain ⟨g247, h⟩ := z_ifn h
  refine z_al (v := (M 0 (i + (2 : Int32)).toNatClampNeg)) dL_law_1118 en_0 rfl (z_ib_in g247) rfl ?_
  refine z_aload_n dL_law_1119 rfl ?_
  refine z_iload dL_law_1120 rfl ?_
  refine z_ic kc_p3 dL_law_1122 ?_
  refine z_iadd dL_law_1123 ?_
  obtain ⟨g248, h⟩ := z_ifn h
  refine z_al (v := (M 0 (i + (3 : Int32)).toNatClampNeg)) dL_law_1124 en_0 rfl (z_ib_in g248) rfl ?_
  refine z_aload_n dL_law_1125 rfl ?_
  refine z_iload dL_law_1126 rfl ?_
  refine z_ic kc_p4 dL_law_1128 ?_
  refine z_iadd dL_law_1129 ?_
  obtain ⟨g249, h⟩ := z_ifn h
  refine z_al (v := (M 0 (i + (4 : Int32)).toNatClampNeg)) dL_law_1130 en_0 rfl (z_ib_in g249) rfl ?_
  refine z_aload_n dL_law_1131 rfl ?_
  obtain ⟨v251, M252, Lm253, c250, h⟩ := z_bw_c h
  refine z_cW (bc := n) (bs := 6 * n) (av := [.ref 51, .int (M 0 (i + (1 : Int32)).toNatClampNeg), .int (M 0 (i + (2 : Int32)).toNatClampNeg), .int (M 0 (i + (3 : Int32)).toNatClampNeg), .int (M 0 (i + (4 : Int32)).toNatClampNeg), .ref 149]) (st := []) lk_L_136 dL_law_1132 (A_L_lost (d := d + 4) hl c250) rfl rfl (Nat.le_of_ble_eq_true rfl) rfl z_len rfl rfl ?_
  refine z_istore (ls' := [.ref 0, .ref 51, .ref 107, .ref 149, .int i, .int v251, .null, .null]) dL_law_1135 (by decide) rfl ?_
  refine z_aload_n dL_law_1137 rfl ?_
  refine z_aload_n dL_law_1138 rfl ?_
  refine z_iload dL_law_1139 rfl ?_
  refine z_ic kc_p1 dL_law_1141 ?_
  refine z_iadd dL_law_1142 ?_
  obtain ⟨g254, h⟩ := z_ifn h
  refine z_al (v := (M252 0 (i + (1 : Int32)).toNatClampNeg)) dL_law_1143 en_0 rfl (z_ib_in g254) rfl ?_
  refine z_aload_n dL_law_1144 rfl ?_
  refine z_iload dL_law_1145 rfl ?_
  refine z_ic kc_p2 dL_law_1147 ?_
  refine z_iadd dL_law_1148 ?_
  obtain ⟨g255, h⟩ := z_ifn h
  refine z_al (v := (M252 0 (i + (2 : Int32)).toNatClampNeg)) dL_law_1149 en_0 rfl (z_ib_in g255) rfl ?_
  refine z_aload_n dL_law_1150 rfl ?_
  refine z_iload dL_law_1151 rfl ?_
  refine z_ic kc_p3 dL_law_1153 ?_
  refine z_iadd dL_law_1154 ?_
  obtain ⟨g256, h⟩ := z_ifn h
  refine z_al (v := (M252 0 (i + (3 : Int32)).toNatClampNeg)) dL_law_1155 en_0 rfl (z_ib_in g256) rfl ?_
  refine z_aload_n dL_law_1156 rfl ?_
  refine z_iload dL_law_1157 rfl ?_
  refine z_ic kc_p4 dL_law_1159 ?_
  refine z_iadd dL_law_1160 ?_
  obtain ⟨g257, h⟩ := z_ifn h
  refine z_al (v := (M252 0 (i + (4 : Int32)).toNatClampNeg)) dL_law_1161 en_0 rfl (z_ib_in g257) rfl ?_
  obtain ⟨v259, M260, c258, h⟩ := z_bi_c h
  refine z_cV (av := [.int (M252 0 (i + (1 : Int32)).toNatClampNeg), .int (M252 0 (i + (2 : Int32)).toNatClampNeg), .int (M252 0 (i + (3 : Int32)).toNatClampNeg), .int (M252 0 (i + (4 : Int32)).toNatClampNeg)]) (st := []) lk_L_139 dL_law_1162 (A_X8_lost_107 (d := d + 10) hl c258) rfl rfl en_107 rfl (Nat.le_of_ble_eq_true rfl) rfl z_len rfl rfl ?_
  refine z_lstore (ls' := [.ref 0, .ref 51, .ref 107, .ref 149, .int i, .int v251, .long v259, .null]) dL_law_1165 (by decide) rfl ?_
  refine z_aload_n dL_law_1167 rfl ?_
  obtain ⟨v262, M263, c261, h⟩ := z_bi_c h
  refine z_cV (av := []) (st := []) lk_L_83 dL_law_1168 (A_X8_thrown_107 (d := d + 13) hl c261) rfl rfl en_107 rfl (Nat.le_of_ble_eq_true rfl) rfl z_len rfl rfl ?_
  refine z_iload dL_law_1171 rfl ?_
  refine z_icmp_eq (tgt := 1178) dL_law_1173 rfl (fun g264 => ?_) (fun g264 => ?_)
  · replace h := (if_pos g264).symm.trans h
    refine z_iload dL_law_1178 rfl ?_
    refine z_if_ne (tgt := 1194) dL_law_1180 rfl (fun g265 => ?_) (fun g265 => ?_)
    · replace h := (if_pos g265).symm.trans h
      refine z_aload_n dL_law_1183 rfl ?_
      refine z_ic kc_p0 dL_law_1184 ?_
      refine z_ll0 (v := (Lm253 149 0)) dL_law_1185 en_149 kn_p0 (z_ib_in rfl) rfl ?_
      refine z_lload dL_law_1186 rfl ?_
      refine z_lcmp dL_law_1188 ?_
      refine z_if_eq (tgt := 1194) dL_law_1189 rfl (fun g266 => ?_) (fun g266 => ?_)
      · replace h := (if_pos g266).symm.trans h
        refine z_goto (tgt := 1541) dL_law_1194 rfl ?_
        refine z_ii (ls' := [.ref 0, .ref 51, .ref 107, .ref 149, .int (i + (6 : Int32)), .int v251, .long v259, .null]) kc_p6 dL_law_1541 rfl (by decide) rfl ?_
        refine z_goto (tgt := 23) dL_law_1544 rfl ?_
        refine z_fg (ls' := [.ref 0, .ref 51, .ref 107, .ref 149, .int (i + (6 : Int32)), .null, .null, .null]) ⟨Or.inr rfl, Or.inr rfl, Or.inr rfl, Or.inr rfl, Or.inr rfl, Or.inl rfl, Or.inl rfl, Or.inl rfl, trivial⟩ ?_
        exact hK _ _ _ _ _ _ h
      · replace h := (if_neg g266).symm.trans h
        refine z_ic kc_p0 dL_law_1192 ?_
        cases h
        exact z_rZ dL_law_1193 rfl rfl
    · replace h := (if_neg g265).symm.trans h
      refine z_goto (tgt := 1541) dL_law_1194 rfl ?_
      refine z_ii (ls' := [.ref 0, .ref 51, .ref 107, .ref 149, .int (i + (6 : Int32)), .int v251, .long v259, .null]) kc_p6 dL_law_1541 rfl (by decide) rfl ?_
      refine z_goto (tgt := 23) dL_law_1544 rfl ?_
      refine z_fg (ls' := [.ref 0, .ref 51, .ref 107, .ref 149, .int (i + (6 : Int32)), .null, .null, .null]) ⟨Or.inr rfl, Or.inr rfl, Or.inr rfl, Or.inr rfl, Or.inr rfl, Or.inl rfl, Or.inl rfl, Or.inl rfl, trivial⟩ ?_
      exact hK _ _ _ _ _ _ h
  · replace h := (if_neg g264).symm.trans h
    refine z_ic kc_p0 dL_law_1176 ?_
    cases h
    exact z_rZ dL_law_1177 rfl rfl
def f_L_c17 (K : Int32 → zMM → zML → Option (Int32 × zMM × zML)) (Ls : Nat) (i : Int32) (M : zMM) (Lm : zML) : Option (Int32 × zMM × zML) :=
  if z_ib (i + (1 : Int32)) Ls = true then
    if z_ib (i + (2 : Int32)) Ls = true then
      if z_ib (i + (3 : Int32)) Ls = true then
        z_bw (f_L_night (M 0 (i + (1 : Int32)).toNatClampNeg) (M 0 (i + (2 : Int32)).toNatClampNeg) (M 0 (i + (3 : Int32)).toNatClampNeg) M Lm) fun v271 M272 Lm273 =>
        if z_ib (i + (1 : Int32)) Ls = true then
          if z_ib (i + (2 : Int32)) Ls = true then
            if z_ib (i + (3 : Int32)) Ls = true then
              z_bi (f_X8_night_107 (M272 0 (i + (1 : Int32)).toNatClampNeg) (M272 0 (i + (2 : Int32)).toNatClampNeg) (M272 0 (i + (3 : Int32)).toNatClampNeg) M272) fun v278 M279 =>
              z_bi (f_X8_thrown_107 M279) fun v281 M282 =>
              if v281 = v271 then
                if v271 = 0 then
                  if (lg_cmp (Lm273 149 0) v278.toInt64) = 0 then
                    K (i + (6 : Int32)) M282 Lm273
                  else
                    some ((0 : Int32), M282, Lm273)
                else
                  K (i + (6 : Int32)) M282 Lm273
              else
                some ((0 : Int32), M282, Lm273)
            else none
          else none
        else none
      else none
    else none
  else none
theorem A_L_c17 {l : Launch} (hl : l.stackTraces = false) {Ls d n : Nat} {K : Int32 → zMM → zML → Option (Int32 × zMM × zML)}
    (hK : ∀ (i : Int32) (M : zMM) (Lm : zML) (M' : zMM) (Lm' : zML) (v : Int32), K i M Lm = some (v, M', Lm') → z_AW l mL_law (d + 14) n (6 * n) 23 [.ref 0, .ref 51, .ref 107, .ref 149, .int i, .null, .null, .null] [] (z_L0 Ls, M, Lm) (.inl (some (.int v))) (z_L0 Ls, M', Lm')) :
    ∀ (i : Int32) (M : zMM) (Lm : zML) (M' : zMM) (Lm' : zML) (v : Int32), f_L_c17 K Ls i M Lm = some (v, M', Lm') → z_AW l mL_law (d + 14) (n + 1) (6 * n + 6) 1197 [.ref 0, .ref 51, .ref 107, .ref 149, .int i, .null, .null, .null] [] (z_L0 Ls, M, Lm) (.inl (some (.int v))) (z_L0 Ls, M', Lm') := by
  intro i M Lm M' Lm' v h
  replace h : (  if z_ib (i + (1 : Int32)) Ls = true then
    if z_ib (i + (2 : Int32)) Ls = true then
      if z_ib (i + (3 : Int32)) Ls = true then
        z_bw (f_L_night (M 0 (i + (1 : Int32)).toNatClampNeg) (M 0 (i + (2 : Int32)).toNatClampNeg) (M 0 (i + (3 : Int32)).toNatClampNeg) M Lm) fun v271 M272 Lm273 =>
        if z_ib (i + (1 : Int32)) Ls = true then
          if z_ib (i + (2 : Int32)) Ls = true then
            if z_ib (i + (3 : Int32)) Ls = true then
              z_bi (f_X8_night_107 (M272 0 (i + (1 : Int32)).toNatClampNeg) (M272 0 (i + (2 : Int32)).toNatClampNeg) (M272 0 (i + (3 : Int32)).toNatClampNeg) M272) fun v278 M279 =>
              z_bi (f_X8_thrown_107 M279) fun v281 M282 =>
              if v281 = v271 then
                if v271 = 0 then
                  if (lg_cmp (Lm273 149 0) v278.toInt64) = 0 then
                    K (i + (6 : Int32)) M282 Lm273
                  else
                    some ((0 : Int32), M282, Lm273)
                else
                  K (i + (6 : Int32)) M282 Lm273
              else
                some ((0 : Int32), M282, Lm273)
            else none
          else none
        else none
      else none
    else none
  else none) = some (v, M', Lm') := h
  refine z_aload_n dL_law_1197 rfl ?_
  refine z_aload_n dL_law_1198 rfl ?_
  refine z_iload dL_law_1199 rfl ?_
  refine z_ic kc_p1 dL_law_1201 ?_
  refine z_iadd dL_law_1202 ?_
  obtain ⟨g267, h⟩ := z_ifn h
  refine z_al (v := (M 0 (i + (1 : Int32)).toNatClampNeg)) dL_law_1203 en_0 rfl (z_ib_in g267) rfl ?_
  refine z_aload_n dL_law_1204 rfl ?_
  refine z_iload dL_law_1205 rfl ?_
  refine z_ic kc_p2 dL_law_1207 ?_
  refine z_iadd dL_law_1208 ?_
  obtain ⟨g268, h⟩ := z_ifn h
  refine z_al (v := (M 0 (i + (2 : Int32)).toNatClampNeg)) dL_law_1209 en_0 rfl (z_ib_in g268) rfl ?_
  refine z_aload_n dL_law_1210 rfl ?_
  refine z_iload dL_law_1211 rfl ?_
  refine z_ic kc_p3 dL_law_1213 ?_
  refine z_iadd dL_law_1214 ?_
  obtain ⟨g269, h⟩ := z_ifn h
  refine z_al (v := (M 0 (i + (3 : Int32)).toNatClampNeg)) dL_law_1215 en_0 rfl (z_ib_in g269) rfl ?_
  refine z_aload_n dL_law_1216 rfl ?_
  obtain ⟨v271, M272, Lm273, c270, h⟩ := z_bw_c h
  refine z_cW (bc := n) (bs := 6 * n) (av := [.ref 51, .int (M 0 (i + (1 : Int32)).toNatClampNeg), .int (M 0 (i + (2 : Int32)).toNatClampNeg), .int (M 0 (i + (3 : Int32)).toNatClampNeg), .ref 149]) (st := []) lk_L_140 dL_law_1217 (A_L_night (d := d + 5) hl c270) rfl rfl (Nat.le_of_ble_eq_true rfl) rfl z_len rfl rfl ?_
  refine z_istore (ls' := [.ref 0, .ref 51, .ref 107, .ref 149, .int i, .int v271, .null, .null]) dL_law_1220 (by decide) rfl ?_
  refine z_aload_n dL_law_1222 rfl ?_
  refine z_aload_n dL_law_1223 rfl ?_
  refine z_iload dL_law_1224 rfl ?_
  refine z_ic kc_p1 dL_law_1226 ?_
  refine z_iadd dL_law_1227 ?_
  obtain ⟨g274, h⟩ := z_ifn h
  refine z_al (v := (M272 0 (i + (1 : Int32)).toNatClampNeg)) dL_law_1228 en_0 rfl (z_ib_in g274) rfl ?_
  refine z_aload_n dL_law_1229 rfl ?_
  refine z_iload dL_law_1230 rfl ?_
  refine z_ic kc_p2 dL_law_1232 ?_
  refine z_iadd dL_law_1233 ?_
  obtain ⟨g275, h⟩ := z_ifn h
  refine z_al (v := (M272 0 (i + (2 : Int32)).toNatClampNeg)) dL_law_1234 en_0 rfl (z_ib_in g275) rfl ?_
  refine z_aload_n dL_law_1235 rfl ?_
  refine z_iload dL_law_1236 rfl ?_
  refine z_ic kc_p3 dL_law_1238 ?_
  refine z_iadd dL_law_1239 ?_
  obtain ⟨g276, h⟩ := z_ifn h
  refine z_al (v := (M272 0 (i + (3 : Int32)).toNatClampNeg)) dL_law_1240 en_0 rfl (z_ib_in g276) rfl ?_
  obtain ⟨v278, M279, c277, h⟩ := z_bi_c h
  refine z_cV (av := [.int (M272 0 (i + (1 : Int32)).toNatClampNeg), .int (M272 0 (i + (2 : Int32)).toNatClampNeg), .int (M272 0 (i + (3 : Int32)).toNatClampNeg)]) (st := []) lk_L_142 dL_law_1241 (A_X8_night_107 (d := d + 11) hl c277) rfl rfl en_107 rfl (Nat.le_of_ble_eq_true rfl) rfl z_len rfl rfl ?_
  refine z_istore (ls' := [.ref 0, .ref 51, .ref 107, .ref 149, .int i, .int v271, .int v278, .null]) dL_law_1244 (by decide) rfl ?_
  refine z_aload_n dL_law_1246 rfl ?_
  obtain ⟨v281, M282, c280, h⟩ := z_bi_c h
  refine z_cV (av := []) (st := []) lk_L_83 dL_law_1247 (A_X8_thrown_107 (d := d + 13) hl c280) rfl rfl en_107 rfl (Nat.le_of_ble_eq_true rfl) rfl z_len rfl rfl ?_
  refine z_iload dL_law_1250 rfl ?_
  refine z_icmp_eq (tgt := 1257) dL_law_1252 rfl (fun g283 => ?_) (fun g283 => ?_)
  · replace h := (if_pos g283).symm.trans h
    refine z_iload dL_law_1257 rfl ?_
    refine z_if_ne (tgt := 1274) dL_law_1259 rfl (fun g284 => ?_) (fun g284 => ?_)
    · replace h := (if_pos g284).symm.trans h
      refine z_aload_n dL_law_1262 rfl ?_
      refine z_ic kc_p0 dL_law_1263 ?_
      refine z_ll0 (v := (Lm273 149 0)) dL_law_1264 en_149 kn_p0 (z_ib_in rfl) rfl ?_
      refine z_iload dL_law_1265 rfl ?_
      refine z_i2l dL_law_1267 ?_
      refine z_lcmp dL_law_1268 ?_
      refine z_if_eq (tgt := 1274) dL_law_1269 rfl (fun g285 => ?_) (fun g285 => ?_)
      · replace h := (if_pos g285).symm.trans h
        refine z_goto (tgt := 1541) dL_law_1274 rfl ?_
        refine z_ii (ls' := [.ref 0, .ref 51, .ref 107, .ref 149, .int (i + (6 : Int32)), .int v271, .int v278, .null]) kc_p6 dL_law_1541 rfl (by decide) rfl ?_
        refine z_goto (tgt := 23) dL_law_1544 rfl ?_
        refine z_fg (ls' := [.ref 0, .ref 51, .ref 107, .ref 149, .int (i + (6 : Int32)), .null, .null, .null]) ⟨Or.inr rfl, Or.inr rfl, Or.inr rfl, Or.inr rfl, Or.inr rfl, Or.inl rfl, Or.inl rfl, Or.inl rfl, trivial⟩ ?_
        exact hK _ _ _ _ _ _ h
      · replace h := (if_neg g285).symm.trans h
        refine z_ic kc_p0 dL_law_1272 ?_
        cases h
        exact z_rZ dL_law_1273 rfl rfl
    · replace h := (if_neg g284).symm.trans h
      refine z_goto (tgt := 1541) dL_law_1274 rfl ?_
      refine z_ii (ls' := [.ref 0, .ref 51, .ref 107, .ref 149, .int (i + (6 : Int32)), .int v271, .int v278, .null]) kc_p6 dL_law_1541 rfl (by decide) rfl ?_
      refine z_goto (tgt := 23) dL_law_1544 rfl ?_
      refine z_fg (ls' := [.ref 0, .ref 51, .ref 107, .ref 149, .int (i + (6 : Int32)), .null, .null, .null]) ⟨Or.inr rfl, Or.inr rfl, Or.inr rfl, Or.inr rfl, Or.inr rfl, Or.inl rfl, Or.inl rfl, Or.inl rfl, trivial⟩ ?_
      exact hK _ _ _ _ _ _ h
  · replace h := (if_neg g283).symm.trans h
    refine z_ic kc_p0 dL_law_1255 ?_
    cases h
    exact z_rZ dL_law_1256 rfl rfl
def f_L_c18 (K : Int32 → zMM → zML → Option (Int32 × zMM × zML)) (Ls : Nat) (i : Int32) (M : zMM) (Lm : zML) : Option (Int32 × zMM × zML) :=
  z_bv (f_X7_forget_51 M) fun M288 =>
  z_bv (f_X8_forget_107 M288) fun M291 =>
  K (i + (6 : Int32)) M291 Lm
theorem A_L_c18 {l : Launch} (hl : l.stackTraces = false) {Ls d n : Nat} {K : Int32 → zMM → zML → Option (Int32 × zMM × zML)}
    (hK : ∀ (i : Int32) (M : zMM) (Lm : zML) (M' : zMM) (Lm' : zML) (v : Int32), K i M Lm = some (v, M', Lm') → z_AW l mL_law (d + 14) n (6 * n) 23 [.ref 0, .ref 51, .ref 107, .ref 149, .int i, .null, .null, .null] [] (z_L0 Ls, M, Lm) (.inl (some (.int v))) (z_L0 Ls, M', Lm')) :
    ∀ (i : Int32) (M : zMM) (Lm : zML) (M' : zMM) (Lm' : zML) (v : Int32), f_L_c18 K Ls i M Lm = some (v, M', Lm') → z_AW l mL_law (d + 14) (n + 1) (6 * n + 6) 1277 [.ref 0, .ref 51, .ref 107, .ref 149, .int i, .null, .null, .null] [] (z_L0 Ls, M, Lm) (.inl (some (.int v))) (z_L0 Ls, M', Lm') := by
  intro i M Lm M' Lm' v h
  replace h : (  z_bv (f_X7_forget_51 M) fun M288 =>
  z_bv (f_X8_forget_107 M288) fun M291 =>
  K (i + (6 : Int32)) M291 Lm) = some (v, M', Lm') := h
  refine z_aload_n dL_law_1277 rfl ?_
  obtain ⟨M288, c286, h⟩ := z_bv_c h
  refine z_cV (av := []) (st := []) lk_L_143 dL_law_1278 (A_X7_forget_51 (d := d + 13) hl c286) rfl rfl en_51 rfl (Nat.le_of_ble_eq_true rfl) rfl z_len rfl rfl ?_
  refine z_aload_n dL_law_1281 rfl ?_
  obtain ⟨M291, c289, h⟩ := z_bv_c h
  refine z_cV (av := []) (st := []) lk_L_146 dL_law_1282 (A_X8_forget_107 (d := d + 13) hl c289) rfl rfl en_107 rfl (Nat.le_of_ble_eq_true rfl) rfl z_len rfl rfl ?_
  refine z_goto (tgt := 1541) dL_law_1285 rfl ?_
  refine z_ii (ls' := [.ref 0, .ref 51, .ref 107, .ref 149, .int (i + (6 : Int32)), .null, .null, .null]) kc_p6 dL_law_1541 rfl (by decide) rfl ?_
  refine z_goto (tgt := 23) dL_law_1544 rfl ?_
  refine z_fg (ls' := [.ref 0, .ref 51, .ref 107, .ref 149, .int (i + (6 : Int32)), .null, .null, .null]) ⟨Or.inr rfl, Or.inr rfl, Or.inr rfl, Or.inr rfl, Or.inr rfl, Or.inl rfl, Or.inl rfl, Or.inl rfl, trivial⟩ ?_
  refine z_AW.mono (bc := n) (bs := 6 * n) (by omega) (by omega) ?_
  exact hK _ _ _ _ _ _ h
def f_L_c19 (K : Int32 → zMM → zML → Option (Int32 × zMM × zML)) (Ls : Nat) (i : Int32) (M : zMM) (Lm : zML) : Option (Int32 × zMM × zML) :=
  z_bi (f_X7_tour_51 M) fun v293 M294 =>
  z_bi (f_X8_tour_107 M294) fun v296 M297 =>
  if v293 = v296 then
    K (i + (6 : Int32)) M297 Lm
  else
    some ((0 : Int32), M297, Lm)
theorem A_L_c19 {l : Launch} (hl : l.stackTraces = false) {Ls d n : Nat} {K : Int32 → zMM → zML → Option (Int32 × zMM × zML)}
    (hK : ∀ (i : Int32) (M : zMM) (Lm : zML) (M' : zMM) (Lm' : zML) (v : Int32), K i M Lm = some (v, M', Lm') → z_AW l mL_law (d + 14) n (6 * n) 23 [.ref 0, .ref 51, .ref 107, .ref 149, .int i, .null, .null, .null] [] (z_L0 Ls, M, Lm) (.inl (some (.int v))) (z_L0 Ls, M', Lm')) :
    ∀ (i : Int32) (M : zMM) (Lm : zML) (M' : zMM) (Lm' : zML) (v : Int32), f_L_c19 K Ls i M Lm = some (v, M', Lm') → z_AW l mL_law (d + 14) (n + 1) (6 * n + 6) 1288 [.ref 0, .ref 51, .ref 107, .ref 149, .int i, .null, .null, .null] [] (z_L0 Ls, M, Lm) (.inl (some (.int v))) (z_L0 Ls, M', Lm') := by
  intro i M Lm M' Lm' v h
  replace h : (  z_bi (f_X7_tour_51 M) fun v293 M294 =>
  z_bi (f_X8_tour_107 M294) fun v296 M297 =>
  if v293 = v296 then
    K (i + (6 : Int32)) M297 Lm
  else
    some ((0 : Int32), M297, Lm)) = some (v, M', Lm') := h
  refine z_aload_n dL_law_1288 rfl ?_
  obtain ⟨v293, M294, c292, h⟩ := z_bi_c h
  refine z_cV (av := []) (st := []) lk_L_147 dL_law_1289 (A_X7_tour_51 (d := d + 0) hl c292) rfl rfl en_51 rfl (Nat.le_of_ble_eq_true rfl) rfl z_len rfl rfl ?_
  refine z_aload_n dL_law_1292 rfl ?_
  obtain ⟨v296, M297, c295, h⟩ := z_bi_c h
  refine z_cV (av := []) (st := [.int v293]) lk_L_150 dL_law_1293 (A_X8_tour_107 (d := d + 1) hl c295) rfl rfl en_107 rfl (Nat.le_of_ble_eq_true rfl) rfl z_len rfl rfl ?_
  refine z_icmp_eq (tgt := 1541) dL_law_1296 rfl (fun g298 => ?_) (fun g298 => ?_)
  · replace h := (if_pos g298).symm.trans h
    refine z_ii (ls' := [.ref 0, .ref 51, .ref 107, .ref 149, .int (i + (6 : Int32)), .null, .null, .null]) kc_p6 dL_law_1541 rfl (by decide) rfl ?_
    refine z_goto (tgt := 23) dL_law_1544 rfl ?_
    refine z_fg (ls' := [.ref 0, .ref 51, .ref 107, .ref 149, .int (i + (6 : Int32)), .null, .null, .null]) ⟨Or.inr rfl, Or.inr rfl, Or.inr rfl, Or.inr rfl, Or.inr rfl, Or.inl rfl, Or.inl rfl, Or.inl rfl, trivial⟩ ?_
    refine z_AW.mono (bc := n) (bs := 6 * n) (by omega) (by omega) ?_
    exact hK _ _ _ _ _ _ h
  · replace h := (if_neg g298).symm.trans h
    refine z_ic kc_p0 dL_law_1299 ?_
    cases h
    exact z_rZ dL_law_1300 rfl rfl
def f_L_c20 (K : Int32 → zMM → zML → Option (Int32 × zMM × zML)) (Ls : Nat) (i : Int32) (M : zMM) (Lm : zML) : Option (Int32 × zMM × zML) :=
  if z_ib (i + (1 : Int32)) Ls = true then
    z_bw (f_L_rides (M 0 (i + (1 : Int32)).toNatClampNeg) M Lm) fun v301 M302 Lm303 =>
    if z_ib (i + (1 : Int32)) Ls = true then
      z_bi (f_X8_rides_107 (M302 0 (i + (1 : Int32)).toNatClampNeg) M302) fun v306 M307 =>
      z_bi (f_X8_thrown_107 M307) fun v309 M310 =>
      if v309 = v301 then
        if v301 = 0 then
          if (lg_cmp (Lm303 149 0) v306.toInt64) = 0 then
            K (i + (6 : Int32)) M310 Lm303
          else
            some ((0 : Int32), M310, Lm303)
        else
          K (i + (6 : Int32)) M310 Lm303
      else
        some ((0 : Int32), M310, Lm303)
    else none
  else none
theorem A_L_c20 {l : Launch} (hl : l.stackTraces = false) {Ls d n : Nat} {K : Int32 → zMM → zML → Option (Int32 × zMM × zML)}
    (hK : ∀ (i : Int32) (M : zMM) (Lm : zML) (M' : zMM) (Lm' : zML) (v : Int32), K i M Lm = some (v, M', Lm') → z_AW l mL_law (d + 14) n (6 * n) 23 [.ref 0, .ref 51, .ref 107, .ref 149, .int i, .null, .null, .null] [] (z_L0 Ls, M, Lm) (.inl (some (.int v))) (z_L0 Ls, M', Lm')) :
    ∀ (i : Int32) (M : zMM) (Lm : zML) (M' : zMM) (Lm' : zML) (v : Int32), f_L_c20 K Ls i M Lm = some (v, M', Lm') → z_AW l mL_law (d + 14) (n + 1) (6 * n + 6) 1301 [.ref 0, .ref 51, .ref 107, .ref 149, .int i, .null, .null, .null] [] (z_L0 Ls, M, Lm) (.inl (some (.int v))) (z_L0 Ls, M', Lm') := by
  intro i M Lm M' Lm' v h
  replace h : (  if z_ib (i + (1 : Int32)) Ls = true then
    z_bw (f_L_rides (M 0 (i + (1 : Int32)).toNatClampNeg) M Lm) fun v301 M302 Lm303 =>
    if z_ib (i + (1 : Int32)) Ls = true then
      z_bi (f_X8_rides_107 (M302 0 (i + (1 : Int32)).toNatClampNeg) M302) fun v306 M307 =>
      z_bi (f_X8_thrown_107 M307) fun v309 M310 =>
      if v309 = v301 then
        if v301 = 0 then
          if (lg_cmp (Lm303 149 0) v306.toInt64) = 0 then
            K (i + (6 : Int32)) M310 Lm303
          else
            some ((0 : Int32), M310, Lm303)
        else
          K (i + (6 : Int32)) M310 Lm303
      else
        some ((0 : Int32), M310, Lm303)
    else none
  else none) = some (v, M', Lm') := h
  refine z_aload_n dL_law_1301 rfl ?_
  refine z_aload_n dL_law_1302 rfl ?_
  refine z_iload dL_law_1303 rfl ?_
  refine z_ic kc_p1 dL_law_1305 ?_
  refine z_iadd dL_law_1306 ?_
  obtain ⟨g299, h⟩ := z_ifn h
  refine z_al (v := (M 0 (i + (1 : Int32)).toNatClampNeg)) dL_law_1307 en_0 rfl (z_ib_in g299) rfl ?_
  refine z_aload_n dL_law_1308 rfl ?_
  obtain ⟨v301, M302, Lm303, c300, h⟩ := z_bw_c h
  refine z_cW (bc := n) (bs := 6 * n) (av := [.ref 51, .int (M 0 (i + (1 : Int32)).toNatClampNeg), .ref 149]) (st := []) lk_L_151 dL_law_1309 (A_L_rides (d := d + 5) hl c300) rfl rfl (Nat.le_of_ble_eq_true rfl) rfl z_len rfl rfl ?_
  refine z_istore (ls' := [.ref 0, .ref 51, .ref 107, .ref 149, .int i, .int v301, .null, .null]) dL_law_1312 (by decide) rfl ?_
  refine z_aload_n dL_law_1314 rfl ?_
  refine z_aload_n dL_law_1315 rfl ?_
  refine z_iload dL_law_1316 rfl ?_
  refine z_ic kc_p1 dL_law_1318 ?_
  refine z_iadd dL_law_1319 ?_
  obtain ⟨g304, h⟩ := z_ifn h
  refine z_al (v := (M302 0 (i + (1 : Int32)).toNatClampNeg)) dL_law_1320 en_0 rfl (z_ib_in g304) rfl ?_
  obtain ⟨v306, M307, c305, h⟩ := z_bi_c h
  refine z_cV (av := [.int (M302 0 (i + (1 : Int32)).toNatClampNeg)]) (st := []) lk_L_153 dL_law_1321 (A_X8_rides_107 (d := d + 11) hl c305) rfl rfl en_107 rfl (Nat.le_of_ble_eq_true rfl) rfl z_len rfl rfl ?_
  refine z_istore (ls' := [.ref 0, .ref 51, .ref 107, .ref 149, .int i, .int v301, .int v306, .null]) dL_law_1324 (by decide) rfl ?_
  refine z_aload_n dL_law_1326 rfl ?_
  obtain ⟨v309, M310, c308, h⟩ := z_bi_c h
  refine z_cV (av := []) (st := []) lk_L_83 dL_law_1327 (A_X8_thrown_107 (d := d + 13) hl c308) rfl rfl en_107 rfl (Nat.le_of_ble_eq_true rfl) rfl z_len rfl rfl ?_
  refine z_iload dL_law_1330 rfl ?_
  refine z_icmp_eq (tgt := 1337) dL_law_1332 rfl (fun g311 => ?_) (fun g311 => ?_)
  · replace h := (if_pos g311).symm.trans h
    refine z_iload dL_law_1337 rfl ?_
    refine z_if_ne (tgt := 1354) dL_law_1339 rfl (fun g312 => ?_) (fun g312 => ?_)
    · replace h := (if_pos g312).symm.trans h
      refine z_aload_n dL_law_1342 rfl ?_
      refine z_ic kc_p0 dL_law_1343 ?_
      refine z_ll0 (v := (Lm303 149 0)) dL_law_1344 en_149 kn_p0 (z_ib_in rfl) rfl ?_
      refine z_iload dL_law_1345 rfl ?_
      refine z_i2l dL_law_1347 ?_
      refine z_lcmp dL_law_1348 ?_
      refine z_if_eq (tgt := 1354) dL_law_1349 rfl (fun g313 => ?_) (fun g313 => ?_)
      · replace h := (if_pos g313).symm.trans h
        refine z_goto (tgt := 1541) dL_law_1354 rfl ?_
        refine z_ii (ls' := [.ref 0, .ref 51, .ref 107, .ref 149, .int (i + (6 : Int32)), .int v301, .int v306, .null]) kc_p6 dL_law_1541 rfl (by decide) rfl ?_
        refine z_goto (tgt := 23) dL_law_1544 rfl ?_
        refine z_fg (ls' := [.ref 0, .ref 51, .ref 107, .ref 149, .int (i + (6 : Int32)), .null, .null, .null]) ⟨Or.inr rfl, Or.inr rfl, Or.inr rfl, Or.inr rfl, Or.inr rfl, Or.inl rfl, Or.inl rfl, Or.inl rfl, trivial⟩ ?_
        exact hK _ _ _ _ _ _ h
      · replace h := (if_neg g313).symm.trans h
        refine z_ic kc_p0 dL_law_1352 ?_
        cases h
        exact z_rZ dL_law_1353 rfl rfl
    · replace h := (if_neg g312).symm.trans h
      refine z_goto (tgt := 1541) dL_law_1354 rfl ?_
      refine z_ii (ls' := [.ref 0, .ref 51, .ref 107, .ref 149, .int (i + (6 : Int32)), .int v301, .int v306, .null]) kc_p6 dL_law_1541 rfl (by decide) rfl ?_
      refine z_goto (tgt := 23) dL_law_1544 rfl ?_
      refine z_fg (ls' := [.ref 0, .ref 51, .ref 107, .ref 149, .int (i + (6 : Int32)), .null, .null, .null]) ⟨Or.inr rfl, Or.inr rfl, Or.inr rfl, Or.inr rfl, Or.inr rfl, Or.inl rfl, Or.inl rfl, Or.inl rfl, trivial⟩ ?_
      exact hK _ _ _ _ _ _ h
  · replace h := (if_neg g311).symm.trans h
    refine z_ic kc_p0 dL_law_1335 ?_
    cases h
    exact z_rZ dL_law_1336 rfl rfl
def f_L_c21 (K : Int32 → zMM → zML → Option (Int32 × zMM × zML)) (Ls : Nat) (i : Int32) (M : zMM) (Lm : zML) : Option (Int32 × zMM × zML) :=
  if z_ib (i + (1 : Int32)) Ls = true then
    z_bw (f_L_spared (M 0 (i + (1 : Int32)).toNatClampNeg) M Lm) fun v316 M317 Lm318 =>
    if z_ib (i + (1 : Int32)) Ls = true then
      z_bi (f_X8_spared_107 (M317 0 (i + (1 : Int32)).toNatClampNeg) M317) fun v321 M322 =>
      z_bi (f_X8_thrown_107 M322) fun v324 M325 =>
      if v324 = v316 then
        if v316 = 0 then
          if (lg_cmp (Lm318 149 0) v321.toInt64) = 0 then
            K (i + (6 : Int32)) M325 Lm318
          else
            some ((0 : Int32), M325, Lm318)
        else
          K (i + (6 : Int32)) M325 Lm318
      else
        some ((0 : Int32), M325, Lm318)
    else none
  else none
theorem A_L_c21 {l : Launch} (hl : l.stackTraces = false) {Ls d n : Nat} {K : Int32 → zMM → zML → Option (Int32 × zMM × zML)}
    (hK : ∀ (i : Int32) (M : zMM) (Lm : zML) (M' : zMM) (Lm' : zML) (v : Int32), K i M Lm = some (v, M', Lm') → z_AW l mL_law (d + 14) n (6 * n) 23 [.ref 0, .ref 51, .ref 107, .ref 149, .int i, .null, .null, .null] [] (z_L0 Ls, M, Lm) (.inl (some (.int v))) (z_L0 Ls, M', Lm')) :
    ∀ (i : Int32) (M : zMM) (Lm : zML) (M' : zMM) (Lm' : zML) (v : Int32), f_L_c21 K Ls i M Lm = some (v, M', Lm') → z_AW l mL_law (d + 14) (n + 1) (6 * n + 6) 1357 [.ref 0, .ref 51, .ref 107, .ref 149, .int i, .null, .null, .null] [] (z_L0 Ls, M, Lm) (.inl (some (.int v))) (z_L0 Ls, M', Lm') := by
  intro i M Lm M' Lm' v h
  replace h : (  if z_ib (i + (1 : Int32)) Ls = true then
    z_bw (f_L_spared (M 0 (i + (1 : Int32)).toNatClampNeg) M Lm) fun v316 M317 Lm318 =>
    if z_ib (i + (1 : Int32)) Ls = true then
      z_bi (f_X8_spared_107 (M317 0 (i + (1 : Int32)).toNatClampNeg) M317) fun v321 M322 =>
      z_bi (f_X8_thrown_107 M322) fun v324 M325 =>
      if v324 = v316 then
        if v316 = 0 then
          if (lg_cmp (Lm318 149 0) v321.toInt64) = 0 then
            K (i + (6 : Int32)) M325 Lm318
          else
            some ((0 : Int32), M325, Lm318)
        else
          K (i + (6 : Int32)) M325 Lm318
      else
        some ((0 : Int32), M325, Lm318)
    else none
  else none) = some (v, M', Lm') := h
  refine z_aload_n dL_law_1357 rfl ?_
  refine z_aload_n dL_law_1358 rfl ?_
  refine z_iload dL_law_1359 rfl ?_
  refine z_ic kc_p1 dL_law_1361 ?_
  refine z_iadd dL_law_1362 ?_
  obtain ⟨g314, h⟩ := z_ifn h
  refine z_al (v := (M 0 (i + (1 : Int32)).toNatClampNeg)) dL_law_1363 en_0 rfl (z_ib_in g314) rfl ?_
  refine z_aload_n dL_law_1364 rfl ?_
  obtain ⟨v316, M317, Lm318, c315, h⟩ := z_bw_c h
  refine z_cW (bc := n) (bs := 6 * n) (av := [.ref 51, .int (M 0 (i + (1 : Int32)).toNatClampNeg), .ref 149]) (st := []) lk_L_154 dL_law_1365 (A_L_spared (d := d + 0) hl c315) rfl rfl (Nat.le_of_ble_eq_true rfl) rfl z_len rfl rfl ?_
  refine z_istore (ls' := [.ref 0, .ref 51, .ref 107, .ref 149, .int i, .int v316, .null, .null]) dL_law_1368 (by decide) rfl ?_
  refine z_aload_n dL_law_1370 rfl ?_
  refine z_aload_n dL_law_1371 rfl ?_
  refine z_iload dL_law_1372 rfl ?_
  refine z_ic kc_p1 dL_law_1374 ?_
  refine z_iadd dL_law_1375 ?_
  obtain ⟨g319, h⟩ := z_ifn h
  refine z_al (v := (M317 0 (i + (1 : Int32)).toNatClampNeg)) dL_law_1376 en_0 rfl (z_ib_in g319) rfl ?_
  obtain ⟨v321, M322, c320, h⟩ := z_bi_c h
  refine z_cV (av := [.int (M317 0 (i + (1 : Int32)).toNatClampNeg)]) (st := []) lk_L_156 dL_law_1377 (A_X8_spared_107 (d := d + 1) hl c320) rfl rfl en_107 rfl (Nat.le_of_ble_eq_true rfl) rfl z_len rfl rfl ?_
  refine z_istore (ls' := [.ref 0, .ref 51, .ref 107, .ref 149, .int i, .int v316, .int v321, .null]) dL_law_1380 (by decide) rfl ?_
  refine z_aload_n dL_law_1382 rfl ?_
  obtain ⟨v324, M325, c323, h⟩ := z_bi_c h
  refine z_cV (av := []) (st := []) lk_L_83 dL_law_1383 (A_X8_thrown_107 (d := d + 13) hl c323) rfl rfl en_107 rfl (Nat.le_of_ble_eq_true rfl) rfl z_len rfl rfl ?_
  refine z_iload dL_law_1386 rfl ?_
  refine z_icmp_eq (tgt := 1393) dL_law_1388 rfl (fun g326 => ?_) (fun g326 => ?_)
  · replace h := (if_pos g326).symm.trans h
    refine z_iload dL_law_1393 rfl ?_
    refine z_if_ne (tgt := 1410) dL_law_1395 rfl (fun g327 => ?_) (fun g327 => ?_)
    · replace h := (if_pos g327).symm.trans h
      refine z_aload_n dL_law_1398 rfl ?_
      refine z_ic kc_p0 dL_law_1399 ?_
      refine z_ll0 (v := (Lm318 149 0)) dL_law_1400 en_149 kn_p0 (z_ib_in rfl) rfl ?_
      refine z_iload dL_law_1401 rfl ?_
      refine z_i2l dL_law_1403 ?_
      refine z_lcmp dL_law_1404 ?_
      refine z_if_eq (tgt := 1410) dL_law_1405 rfl (fun g328 => ?_) (fun g328 => ?_)
      · replace h := (if_pos g328).symm.trans h
        refine z_goto (tgt := 1541) dL_law_1410 rfl ?_
        refine z_ii (ls' := [.ref 0, .ref 51, .ref 107, .ref 149, .int (i + (6 : Int32)), .int v316, .int v321, .null]) kc_p6 dL_law_1541 rfl (by decide) rfl ?_
        refine z_goto (tgt := 23) dL_law_1544 rfl ?_
        refine z_fg (ls' := [.ref 0, .ref 51, .ref 107, .ref 149, .int (i + (6 : Int32)), .null, .null, .null]) ⟨Or.inr rfl, Or.inr rfl, Or.inr rfl, Or.inr rfl, Or.inr rfl, Or.inl rfl, Or.inl rfl, Or.inl rfl, trivial⟩ ?_
        exact hK _ _ _ _ _ _ h
      · replace h := (if_neg g328).symm.trans h
        refine z_ic kc_p0 dL_law_1408 ?_
        cases h
        exact z_rZ dL_law_1409 rfl rfl
    · replace h := (if_neg g327).symm.trans h
      refine z_goto (tgt := 1541) dL_law_1410 rfl ?_
      refine z_ii (ls' := [.ref 0, .ref 51, .ref 107, .ref 149, .int (i + (6 : Int32)), .int v316, .int v321, .null]) kc_p6 dL_law_1541 rfl (by decide) rfl ?_
      refine z_goto (tgt := 23) dL_law_1544 rfl ?_
      refine z_fg (ls' := [.ref 0, .ref 51, .ref 107, .ref 149, .int (i + (6 : Int32)), .null, .null, .null]) ⟨Or.inr rfl, Or.inr rfl, Or.inr rfl, Or.inr rfl, Or.inr rfl, Or.inl rfl, Or.inl rfl, Or.inl rfl, trivial⟩ ?_
      exact hK _ _ _ _ _ _ h
  · replace h := (if_neg g326).symm.trans h
    refine z_ic kc_p0 dL_law_1391 ?_
    cases h
    exact z_rZ dL_law_1392 rfl rfl
def f_L_c22 (K : Int32 → zMM → zML → Option (Int32 × zMM × zML)) (Ls : Nat) (i : Int32) (M : zMM) (Lm : zML) : Option (Int32 × zMM × zML) :=
  if z_ib (i + (1 : Int32)) Ls = true then
    if z_ib (i + (2 : Int32)) Ls = true then
      if z_ib (i + (3 : Int32)) Ls = true then
        if z_ib (i + (4 : Int32)) Ls = true then
          if z_ib (i + (5 : Int32)) Ls = true then
            z_bw (f_L_unopened (M 0 (i + (1 : Int32)).toNatClampNeg) (M 0 (i + (2 : Int32)).toNatClampNeg) (M 0 (i + (3 : Int32)).toNatClampNeg) (M 0 (i + (4 : Int32)).toNatClampNeg) (M 0 (i + (5 : Int32)).toNatClampNeg) M Lm) fun v335 M336 Lm337 =>
            if z_ib (i + (1 : Int32)) Ls = true then
              if z_ib (i + (2 : Int32)) Ls = true then
                if z_ib (i + (3 : Int32)) Ls = true then
                  if z_ib (i + (4 : Int32)) Ls = true then
                    if z_ib (i + (5 : Int32)) Ls = true then
                      z_bi (f_X8_unopened_107 (M336 0 (i + (1 : Int32)).toNatClampNeg) (M336 0 (i + (2 : Int32)).toNatClampNeg) (M336 0 (i + (3 : Int32)).toNatClampNeg) (M336 0 (i + (4 : Int32)).toNatClampNeg) (M336 0 (i + (5 : Int32)).toNatClampNeg) M336) fun v344 M345 =>
                      z_bi (f_X8_thrown_107 M345) fun v347 M348 =>
                      if v347 = v335 then
                        if v335 = 0 then
                          if (lg_cmp (Lm337 149 0) v344.toInt64) = 0 then
                            K (i + (6 : Int32)) M348 Lm337
                          else
                            some ((0 : Int32), M348, Lm337)
                        else
                          K (i + (6 : Int32)) M348 Lm337
                      else
                        some ((0 : Int32), M348, Lm337)
                    else none
                  else none
                else none
              else none
            else none
          else none
        else none
      else none
    else none
  else none
theorem A_L_c22 {l : Launch} (hl : l.stackTraces = false) {Ls d n : Nat} {K : Int32 → zMM → zML → Option (Int32 × zMM × zML)}
    (hK : ∀ (i : Int32) (M : zMM) (Lm : zML) (M' : zMM) (Lm' : zML) (v : Int32), K i M Lm = some (v, M', Lm') → z_AW l mL_law (d + 14) n (6 * n) 23 [.ref 0, .ref 51, .ref 107, .ref 149, .int i, .null, .null, .null] [] (z_L0 Ls, M, Lm) (.inl (some (.int v))) (z_L0 Ls, M', Lm')) :
    ∀ (i : Int32) (M : zMM) (Lm : zML) (M' : zMM) (Lm' : zML) (v : Int32), f_L_c22 K Ls i M Lm = some (v, M', Lm') → z_AW l mL_law (d + 14) (n + 1) (6 * n + 6) 1413 [.ref 0, .ref 51, .ref 107, .ref 149, .int i, .null, .null, .null] [] (z_L0 Ls, M, Lm) (.inl (some (.int v))) (z_L0 Ls, M', Lm') := by
  intro i M Lm M' Lm' v h
  replace h : (  if z_ib (i + (1 : Int32)) Ls = true then
    if z_ib (i + (2 : Int32)) Ls = true then
      if z_ib (i + (3 : Int32)) Ls = true then
        if z_ib (i + (4 : Int32)) Ls = true then
          if z_ib (i + (5 : Int32)) Ls = true then
            z_bw (f_L_unopened (M 0 (i + (1 : Int32)).toNatClampNeg) (M 0 (i + (2 : Int32)).toNatClampNeg) (M 0 (i + (3 : Int32)).toNatClampNeg) (M 0 (i + (4 : Int32)).toNatClampNeg) (M 0 (i + (5 : Int32)).toNatClampNeg) M Lm) fun v335 M336 Lm337 =>
            if z_ib (i + (1 : Int32)) Ls = true then
              if z_ib (i + (2 : Int32)) Ls = true then
                if z_ib (i + (3 : Int32)) Ls = true then
                  if z_ib (i + (4 : Int32)) Ls = true then
                    if z_ib (i + (5 : Int32)) Ls = true then
                      z_bi (f_X8_unopened_107 (M336 0 (i + (1 : Int32)).toNatClampNeg) (M336 0 (i + (2 : Int32)).toNatClampNeg) (M336 0 (i + (3 : Int32)).toNatClampNeg) (M336 0 (i + (4 : Int32)).toNatClampNeg) (M336 0 (i + (5 : Int32)).toNatClampNeg) M336) fun v344 M345 =>
                      z_bi (f_X8_thrown_107 M345) fun v347 M348 =>
                      if v347 = v335 then
                        if v335 = 0 then
                          if (lg_cmp (Lm337 149 0) v344.toInt64) = 0 then
                            K (i + (6 : Int32)) M348 Lm337
                          else
                            some ((0 : Int32), M348, Lm337)
                        else
                          K (i + (6 : Int32)) M348 Lm337
                      else
                        some ((0 : Int32), M348, Lm337)
                    else none
                  else none
                else none
              else none
            else none
          else none
        else none
      else none
    else none
  else none) = some (v, M', Lm') := h
  refine z_aload_n dL_law_1413 rfl ?_
  refine z_aload_n dL_law_1414 rfl ?_
  refine z_iload dL_law_1415 rfl ?_
  refine z_ic kc_p1 dL_law_1417 ?_
  refine z_iadd dL_law_1418 ?_
  obtain ⟨g329, h⟩ := z_ifn h
  refine z_al (v := (M 0 (i + (1 : Int32)).toNatClampNeg)) dL_law_1419 en_0 rfl (z_ib_in g329) rfl ?_
  refine z_aload_n dL_law_1420 rfl ?_
  refine z_iload dL_law_1421 rfl ?_
  refine z_ic kc_p2 dL_law_1423 ?_
  refine z_iadd dL_law_1424 ?_
  obtain ⟨g330, h⟩ := z_ifn h
  refine z_al (v := (M 0 (i + (2 : Int32)).toNatClampNeg)) dL_law_1425 en_0 rfl (z_ib_in g330) rfl ?_
  refine z_aload_n dL_law_1426 rfl ?_
  refine z_iload dL_law_1427 rfl ?_
  refine z_ic kc_p3 dL_law_1429 ?_
  refine z_iadd dL_law_1430 ?_
  obtain ⟨g331, h⟩ := z_ifn h
  refine z_al (v := (M 0 (i + (3 : Int32)).toNatClampNeg)) dL_law_1431 en_0 rfl (z_ib_in g331) rfl ?_
  refine z_aload_n dL_law_1432 rfl ?_
  refine z_iload dL_law_1433 rfl ?_
  refine z_ic kc_p4 dL_law_1435 ?_
  refine z_iadd dL_law_1436 ?_
  obtain ⟨g332, h⟩ := z_ifn h
  refine z_al (v := (M 0 (i + (4 : Int32)).toNatClampNeg)) dL_law_1437 en_0 rfl (z_ib_in g332) rfl ?_
  refine z_aload_n dL_law_1438 rfl ?_
  refine z_iload dL_law_1439 rfl ?_
  refine z_ic kc_p5 dL_law_1441 ?_
  refine z_iadd dL_law_1442 ?_
  obtain ⟨g333, h⟩ := z_ifn h
  refine z_al (v := (M 0 (i + (5 : Int32)).toNatClampNeg)) dL_law_1443 en_0 rfl (z_ib_in g333) rfl ?_
  refine z_aload_n dL_law_1444 rfl ?_
  obtain ⟨v335, M336, Lm337, c334, h⟩ := z_bw_c h
  refine z_cW (bc := n) (bs := 6 * n) (av := [.ref 51, .int (M 0 (i + (1 : Int32)).toNatClampNeg), .int (M 0 (i + (2 : Int32)).toNatClampNeg), .int (M 0 (i + (3 : Int32)).toNatClampNeg), .int (M 0 (i + (4 : Int32)).toNatClampNeg), .int (M 0 (i + (5 : Int32)).toNatClampNeg), .ref 149]) (st := []) lk_L_157 dL_law_1445 (A_L_unopened (d := d + 5) hl c334) rfl rfl (Nat.le_of_ble_eq_true rfl) rfl z_len rfl rfl ?_
  refine z_istore (ls' := [.ref 0, .ref 51, .ref 107, .ref 149, .int i, .int v335, .null, .null]) dL_law_1448 (by decide) rfl ?_
  refine z_aload_n dL_law_1450 rfl ?_
  refine z_aload_n dL_law_1451 rfl ?_
  refine z_iload dL_law_1452 rfl ?_
  refine z_ic kc_p1 dL_law_1454 ?_
  refine z_iadd dL_law_1455 ?_
  obtain ⟨g338, h⟩ := z_ifn h
  refine z_al (v := (M336 0 (i + (1 : Int32)).toNatClampNeg)) dL_law_1456 en_0 rfl (z_ib_in g338) rfl ?_
  refine z_aload_n dL_law_1457 rfl ?_
  refine z_iload dL_law_1458 rfl ?_
  refine z_ic kc_p2 dL_law_1460 ?_
  refine z_iadd dL_law_1461 ?_
  obtain ⟨g339, h⟩ := z_ifn h
  refine z_al (v := (M336 0 (i + (2 : Int32)).toNatClampNeg)) dL_law_1462 en_0 rfl (z_ib_in g339) rfl ?_
  refine z_aload_n dL_law_1463 rfl ?_
  refine z_iload dL_law_1464 rfl ?_
  refine z_ic kc_p3 dL_law_1466 ?_
  refine z_iadd dL_law_1467 ?_
  obtain ⟨g340, h⟩ := z_ifn h
  refine z_al (v := (M336 0 (i + (3 : Int32)).toNatClampNeg)) dL_law_1468 en_0 rfl (z_ib_in g340) rfl ?_
  refine z_aload_n dL_law_1469 rfl ?_
  refine z_iload dL_law_1470 rfl ?_
  refine z_ic kc_p4 dL_law_1472 ?_
  refine z_iadd dL_law_1473 ?_
  obtain ⟨g341, h⟩ := z_ifn h
  refine z_al (v := (M336 0 (i + (4 : Int32)).toNatClampNeg)) dL_law_1474 en_0 rfl (z_ib_in g341) rfl ?_
  refine z_aload_n dL_law_1475 rfl ?_
  refine z_iload dL_law_1476 rfl ?_
  refine z_ic kc_p5 dL_law_1478 ?_
  refine z_iadd dL_law_1479 ?_
  obtain ⟨g342, h⟩ := z_ifn h
  refine z_al (v := (M336 0 (i + (5 : Int32)).toNatClampNeg)) dL_law_1480 en_0 rfl (z_ib_in g342) rfl ?_
  obtain ⟨v344, M345, c343, h⟩ := z_bi_c h
  refine z_cV (av := [.int (M336 0 (i + (1 : Int32)).toNatClampNeg), .int (M336 0 (i + (2 : Int32)).toNatClampNeg), .int (M336 0 (i + (3 : Int32)).toNatClampNeg), .int (M336 0 (i + (4 : Int32)).toNatClampNeg), .int (M336 0 (i + (5 : Int32)).toNatClampNeg)]) (st := []) lk_L_160 dL_law_1481 (A_X8_unopened_107 (d := d + 1) hl c343) rfl rfl en_107 rfl (Nat.le_of_ble_eq_true rfl) rfl z_len rfl rfl ?_
  refine z_istore (ls' := [.ref 0, .ref 51, .ref 107, .ref 149, .int i, .int v335, .int v344, .null]) dL_law_1484 (by decide) rfl ?_
  refine z_aload_n dL_law_1486 rfl ?_
  obtain ⟨v347, M348, c346, h⟩ := z_bi_c h
  refine z_cV (av := []) (st := []) lk_L_83 dL_law_1487 (A_X8_thrown_107 (d := d + 13) hl c346) rfl rfl en_107 rfl (Nat.le_of_ble_eq_true rfl) rfl z_len rfl rfl ?_
  refine z_iload dL_law_1490 rfl ?_
  refine z_icmp_eq (tgt := 1497) dL_law_1492 rfl (fun g349 => ?_) (fun g349 => ?_)
  · replace h := (if_pos g349).symm.trans h
    refine z_iload dL_law_1497 rfl ?_
    refine z_if_ne (tgt := 1514) dL_law_1499 rfl (fun g350 => ?_) (fun g350 => ?_)
    · replace h := (if_pos g350).symm.trans h
      refine z_aload_n dL_law_1502 rfl ?_
      refine z_ic kc_p0 dL_law_1503 ?_
      refine z_ll0 (v := (Lm337 149 0)) dL_law_1504 en_149 kn_p0 (z_ib_in rfl) rfl ?_
      refine z_iload dL_law_1505 rfl ?_
      refine z_i2l dL_law_1507 ?_
      refine z_lcmp dL_law_1508 ?_
      refine z_if_eq (tgt := 1514) dL_law_1509 rfl (fun g351 => ?_) (fun g351 => ?_)
      · replace h := (if_pos g351).symm.trans h
        refine z_goto (tgt := 1541) dL_law_1514 rfl ?_
        refine z_ii (ls' := [.ref 0, .ref 51, .ref 107, .ref 149, .int (i + (6 : Int32)), .int v335, .int v344, .null]) kc_p6 dL_law_1541 rfl (by decide) rfl ?_
        refine z_goto (tgt := 23) dL_law_1544 rfl ?_
        refine z_fg (ls' := [.ref 0, .ref 51, .ref 107, .ref 149, .int (i + (6 : Int32)), .null, .null, .null]) ⟨Or.inr rfl, Or.inr rfl, Or.inr rfl, Or.inr rfl, Or.inr rfl, Or.inl rfl, Or.inl rfl, Or.inl rfl, trivial⟩ ?_
        exact hK _ _ _ _ _ _ h
      · replace h := (if_neg g351).symm.trans h
        refine z_ic kc_p0 dL_law_1512 ?_
        cases h
        exact z_rZ dL_law_1513 rfl rfl
    · replace h := (if_neg g350).symm.trans h
      refine z_goto (tgt := 1541) dL_law_1514 rfl ?_
      refine z_ii (ls' := [.ref 0, .ref 51, .ref 107, .ref 149, .int (i + (6 : Int32)), .int v335, .int v344, .null]) kc_p6 dL_law_1541 rfl (by decide) rfl ?_
      refine z_goto (tgt := 23) dL_law_1544 rfl ?_
      refine z_fg (ls' := [.ref 0, .ref 51, .ref 107, .ref 149, .int (i + (6 : Int32)), .null, .null, .null]) ⟨Or.inr rfl, Or.inr rfl, Or.inr rfl, Or.inr rfl, Or.inr rfl, Or.inl rfl, Or.inl rfl, Or.inl rfl, trivial⟩ ?_
      exact hK _ _ _ _ _ _ h
  · replace h := (if_neg g349).symm.trans h
    refine z_ic kc_p0 dL_law_1495 ?_
    cases h
    exact z_rZ dL_law_1496 rfl rfl
def f_L_c23 (K : Int32 → zMM → zML → Option (Int32 × zMM × zML)) (Ls : Nat) (i : Int32) (M : zMM) (Lm : zML) : Option (Int32 × zMM × zML) :=
  z_bv (f_X7_image_51 M) fun M354 =>
  z_bv (f_X8_image_107 M354) fun M357 =>
  K (i + (6 : Int32)) M357 Lm
theorem A_L_c23 {l : Launch} (hl : l.stackTraces = false) {Ls d n : Nat} {K : Int32 → zMM → zML → Option (Int32 × zMM × zML)}
    (hK : ∀ (i : Int32) (M : zMM) (Lm : zML) (M' : zMM) (Lm' : zML) (v : Int32), K i M Lm = some (v, M', Lm') → z_AW l mL_law (d + 14) n (6 * n) 23 [.ref 0, .ref 51, .ref 107, .ref 149, .int i, .null, .null, .null] [] (z_L0 Ls, M, Lm) (.inl (some (.int v))) (z_L0 Ls, M', Lm')) :
    ∀ (i : Int32) (M : zMM) (Lm : zML) (M' : zMM) (Lm' : zML) (v : Int32), f_L_c23 K Ls i M Lm = some (v, M', Lm') → z_AW l mL_law (d + 14) (n + 1) (6 * n + 6) 1517 [.ref 0, .ref 51, .ref 107, .ref 149, .int i, .null, .null, .null] [] (z_L0 Ls, M, Lm) (.inl (some (.int v))) (z_L0 Ls, M', Lm') := by
  intro i M Lm M' Lm' v h
  replace h : (  z_bv (f_X7_image_51 M) fun M354 =>
  z_bv (f_X8_image_107 M354) fun M357 =>
  K (i + (6 : Int32)) M357 Lm) = some (v, M', Lm') := h
  refine z_aload_n dL_law_1517 rfl ?_
  obtain ⟨M354, c352, h⟩ := z_bv_c h
  refine z_cV (av := []) (st := []) lk_L_161 dL_law_1518 (A_X7_image_51 (d := d + 10) hl c352) rfl rfl en_51 rfl (Nat.le_of_ble_eq_true rfl) rfl z_len rfl rfl ?_
  refine z_aload_n dL_law_1521 rfl ?_
  obtain ⟨M357, c355, h⟩ := z_bv_c h
  refine z_cV (av := []) (st := []) lk_L_164 dL_law_1522 (A_X8_image_107 (d := d + 12) hl c355) rfl rfl en_107 rfl (Nat.le_of_ble_eq_true rfl) rfl z_len rfl rfl ?_
  refine z_goto (tgt := 1541) dL_law_1525 rfl ?_
  refine z_ii (ls' := [.ref 0, .ref 51, .ref 107, .ref 149, .int (i + (6 : Int32)), .null, .null, .null]) kc_p6 dL_law_1541 rfl (by decide) rfl ?_
  refine z_goto (tgt := 23) dL_law_1544 rfl ?_
  refine z_fg (ls' := [.ref 0, .ref 51, .ref 107, .ref 149, .int (i + (6 : Int32)), .null, .null, .null]) ⟨Or.inr rfl, Or.inr rfl, Or.inr rfl, Or.inr rfl, Or.inr rfl, Or.inl rfl, Or.inl rfl, Or.inl rfl, trivial⟩ ?_
  refine z_AW.mono (bc := n) (bs := 6 * n) (by omega) (by omega) ?_
  exact hK _ _ _ _ _ _ h
def f_L_c24 (K : Int32 → zMM → zML → Option (Int32 × zMM × zML)) (Ls : Nat) (i : Int32) (M : zMM) (Lm : zML) : Option (Int32 × zMM × zML) :=
  z_bi (f_X7_restore_51 M) fun v359 M360 =>
  z_bi (f_X8_restore_107 M360) fun v362 M363 =>
  if v359 = v362 then
    K (i + (6 : Int32)) M363 Lm
  else
    some ((0 : Int32), M363, Lm)
theorem A_L_c24 {l : Launch} (hl : l.stackTraces = false) {Ls d n : Nat} {K : Int32 → zMM → zML → Option (Int32 × zMM × zML)}
    (hK : ∀ (i : Int32) (M : zMM) (Lm : zML) (M' : zMM) (Lm' : zML) (v : Int32), K i M Lm = some (v, M', Lm') → z_AW l mL_law (d + 14) n (6 * n) 23 [.ref 0, .ref 51, .ref 107, .ref 149, .int i, .null, .null, .null] [] (z_L0 Ls, M, Lm) (.inl (some (.int v))) (z_L0 Ls, M', Lm')) :
    ∀ (i : Int32) (M : zMM) (Lm : zML) (M' : zMM) (Lm' : zML) (v : Int32), f_L_c24 K Ls i M Lm = some (v, M', Lm') → z_AW l mL_law (d + 14) (n + 1) (6 * n + 6) 1528 [.ref 0, .ref 51, .ref 107, .ref 149, .int i, .null, .null, .null] [] (z_L0 Ls, M, Lm) (.inl (some (.int v))) (z_L0 Ls, M', Lm') := by
  intro i M Lm M' Lm' v h
  replace h : (  z_bi (f_X7_restore_51 M) fun v359 M360 =>
  z_bi (f_X8_restore_107 M360) fun v362 M363 =>
  if v359 = v362 then
    K (i + (6 : Int32)) M363 Lm
  else
    some ((0 : Int32), M363, Lm)) = some (v, M', Lm') := h
  refine z_aload_n dL_law_1528 rfl ?_
  obtain ⟨v359, M360, c358, h⟩ := z_bi_c h
  refine z_cV (av := []) (st := []) lk_L_165 dL_law_1529 (A_X7_restore_51 (d := d + 10) hl c358) rfl rfl en_51 rfl (Nat.le_of_ble_eq_true rfl) rfl z_len rfl rfl ?_
  refine z_aload_n dL_law_1532 rfl ?_
  obtain ⟨v362, M363, c361, h⟩ := z_bi_c h
  refine z_cV (av := []) (st := [.int v359]) lk_L_168 dL_law_1533 (A_X8_restore_107 (d := d + 12) hl c361) rfl rfl en_107 rfl (Nat.le_of_ble_eq_true rfl) rfl z_len rfl rfl ?_
  refine z_icmp_eq (tgt := 1541) dL_law_1536 rfl (fun g364 => ?_) (fun g364 => ?_)
  · replace h := (if_pos g364).symm.trans h
    refine z_ii (ls' := [.ref 0, .ref 51, .ref 107, .ref 149, .int (i + (6 : Int32)), .null, .null, .null]) kc_p6 dL_law_1541 rfl (by decide) rfl ?_
    refine z_goto (tgt := 23) dL_law_1544 rfl ?_
    refine z_fg (ls' := [.ref 0, .ref 51, .ref 107, .ref 149, .int (i + (6 : Int32)), .null, .null, .null]) ⟨Or.inr rfl, Or.inr rfl, Or.inr rfl, Or.inr rfl, Or.inr rfl, Or.inl rfl, Or.inl rfl, Or.inl rfl, trivial⟩ ?_
    refine z_AW.mono (bc := n) (bs := 6 * n) (by omega) (by omega) ?_
    exact hK _ _ _ _ _ _ h
  · replace h := (if_neg g364).symm.trans h
    refine z_ic kc_p0 dL_law_1539 ?_
    cases h
    exact z_rZ dL_law_1540 rfl rfl
def f_L_head (K : Int32 → zMM → zML → Option (Int32 × zMM × zML)) (Ls : Nat) (i : Int32) (M : zMM) (Lm : zML) : Option (Int32 × zMM × zML) :=
    if ((nI Ls) - (6 : Int32)) < i then
      some ((1 : Int32), M, Lm)
    else
      if z_ib i Ls = true then
        if ((M 0 i.toNatClampNeg) &&& (31 : Int32)) = (0 : Int32) then
          f_L_c0 K Ls i M Lm
        else
        if ((M 0 i.toNatClampNeg) &&& (31 : Int32)) = (1 : Int32) then
          f_L_c1 K Ls i M Lm
        else
        if ((M 0 i.toNatClampNeg) &&& (31 : Int32)) = (2 : Int32) then
          f_L_c2 K Ls i M Lm
        else
        if ((M 0 i.toNatClampNeg) &&& (31 : Int32)) = (3 : Int32) then
          f_L_c3 K Ls i M Lm
        else
        if ((M 0 i.toNatClampNeg) &&& (31 : Int32)) = (4 : Int32) then
          f_L_c4 K Ls i M Lm
        else
        if ((M 0 i.toNatClampNeg) &&& (31 : Int32)) = (5 : Int32) then
          f_L_c5 K Ls i M Lm
        else
        if ((M 0 i.toNatClampNeg) &&& (31 : Int32)) = (6 : Int32) then
          f_L_c6 K Ls i M Lm
        else
        if ((M 0 i.toNatClampNeg) &&& (31 : Int32)) = (7 : Int32) then
          f_L_c7 K Ls i M Lm
        else
        if ((M 0 i.toNatClampNeg) &&& (31 : Int32)) = (8 : Int32) then
          f_L_c8 K Ls i M Lm
        else
        if ((M 0 i.toNatClampNeg) &&& (31 : Int32)) = (9 : Int32) then
          f_L_c9 K Ls i M Lm
        else
        if ((M 0 i.toNatClampNeg) &&& (31 : Int32)) = (10 : Int32) then
          f_L_c10 K Ls i M Lm
        else
        if ((M 0 i.toNatClampNeg) &&& (31 : Int32)) = (11 : Int32) then
          f_L_c11 K Ls i M Lm
        else
        if ((M 0 i.toNatClampNeg) &&& (31 : Int32)) = (12 : Int32) then
          f_L_c12 K Ls i M Lm
        else
        if ((M 0 i.toNatClampNeg) &&& (31 : Int32)) = (13 : Int32) then
          f_L_c13 K Ls i M Lm
        else
        if ((M 0 i.toNatClampNeg) &&& (31 : Int32)) = (14 : Int32) then
          f_L_c14 K Ls i M Lm
        else
        if ((M 0 i.toNatClampNeg) &&& (31 : Int32)) = (15 : Int32) then
          f_L_c15 K Ls i M Lm
        else
        if ((M 0 i.toNatClampNeg) &&& (31 : Int32)) = (16 : Int32) then
          f_L_c16 K Ls i M Lm
        else
        if ((M 0 i.toNatClampNeg) &&& (31 : Int32)) = (17 : Int32) then
          f_L_c17 K Ls i M Lm
        else
        if ((M 0 i.toNatClampNeg) &&& (31 : Int32)) = (18 : Int32) then
          f_L_c18 K Ls i M Lm
        else
        if ((M 0 i.toNatClampNeg) &&& (31 : Int32)) = (19 : Int32) then
          f_L_c19 K Ls i M Lm
        else
        if ((M 0 i.toNatClampNeg) &&& (31 : Int32)) = (20 : Int32) then
          f_L_c20 K Ls i M Lm
        else
        if ((M 0 i.toNatClampNeg) &&& (31 : Int32)) = (21 : Int32) then
          f_L_c21 K Ls i M Lm
        else
        if ((M 0 i.toNatClampNeg) &&& (31 : Int32)) = (22 : Int32) then
          f_L_c22 K Ls i M Lm
        else
        if ((M 0 i.toNatClampNeg) &&& (31 : Int32)) = (23 : Int32) then
          f_L_c23 K Ls i M Lm
        else
        if ((M 0 i.toNatClampNeg) &&& (31 : Int32)) = (24 : Int32) then
          f_L_c24 K Ls i M Lm
        else
        K (i + (6 : Int32)) M Lm
      else none
theorem A_L_head {l : Launch} (hl : l.stackTraces = false) {Ls d n : Nat} {K : Int32 → zMM → zML → Option (Int32 × zMM × zML)}
    (hK : ∀ (i : Int32) (M : zMM) (Lm : zML) (M' : zMM) (Lm' : zML) (v : Int32), K i M Lm = some (v, M', Lm') → z_AW l mL_law (d + 14) n (6 * n) 23 [.ref 0, .ref 51, .ref 107, .ref 149, .int i, .null, .null, .null] [] (z_L0 Ls, M, Lm) (.inl (some (.int v))) (z_L0 Ls, M', Lm')) :
    ∀ (i : Int32) (M : zMM) (Lm : zML) (M' : zMM) (Lm' : zML) (v : Int32), f_L_head K Ls i M Lm = some (v, M', Lm') → z_AW l mL_law (d + 14) (n + 1) (6 * n + 6) 23 [.ref 0, .ref 51, .ref 107, .ref 149, .int i, .null, .null, .null] [] (z_L0 Ls, M, Lm) (.inl (some (.int v))) (z_L0 Ls, M', Lm') := by
  intro i M Lm M' Lm' v h
  replace h : (    if ((nI Ls) - (6 : Int32)) < i then
      some ((1 : Int32), M, Lm)
    else
      if z_ib i Ls = true then
        if ((M 0 i.toNatClampNeg) &&& (31 : Int32)) = (0 : Int32) then
          f_L_c0 K Ls i M Lm
        else
        if ((M 0 i.toNatClampNeg) &&& (31 : Int32)) = (1 : Int32) then
          f_L_c1 K Ls i M Lm
        else
        if ((M 0 i.toNatClampNeg) &&& (31 : Int32)) = (2 : Int32) then
          f_L_c2 K Ls i M Lm
        else
        if ((M 0 i.toNatClampNeg) &&& (31 : Int32)) = (3 : Int32) then
          f_L_c3 K Ls i M Lm
        else
        if ((M 0 i.toNatClampNeg) &&& (31 : Int32)) = (4 : Int32) then
          f_L_c4 K Ls i M Lm
        else
        if ((M 0 i.toNatClampNeg) &&& (31 : Int32)) = (5 : Int32) then
          f_L_c5 K Ls i M Lm
        else
        if ((M 0 i.toNatClampNeg) &&& (31 : Int32)) = (6 : Int32) then
          f_L_c6 K Ls i M Lm
        else
        if ((M 0 i.toNatClampNeg) &&& (31 : Int32)) = (7 : Int32) then
          f_L_c7 K Ls i M Lm
        else
        if ((M 0 i.toNatClampNeg) &&& (31 : Int32)) = (8 : Int32) then
          f_L_c8 K Ls i M Lm
        else
        if ((M 0 i.toNatClampNeg) &&& (31 : Int32)) = (9 : Int32) then
          f_L_c9 K Ls i M Lm
        else
        if ((M 0 i.toNatClampNeg) &&& (31 : Int32)) = (10 : Int32) then
          f_L_c10 K Ls i M Lm
        else
        if ((M 0 i.toNatClampNeg) &&& (31 : Int32)) = (11 : Int32) then
          f_L_c11 K Ls i M Lm
        else
        if ((M 0 i.toNatClampNeg) &&& (31 : Int32)) = (12 : Int32) then
          f_L_c12 K Ls i M Lm
        else
        if ((M 0 i.toNatClampNeg) &&& (31 : Int32)) = (13 : Int32) then
          f_L_c13 K Ls i M Lm
        else
        if ((M 0 i.toNatClampNeg) &&& (31 : Int32)) = (14 : Int32) then
          f_L_c14 K Ls i M Lm
        else
        if ((M 0 i.toNatClampNeg) &&& (31 : Int32)) = (15 : Int32) then
          f_L_c15 K Ls i M Lm
        else
        if ((M 0 i.toNatClampNeg) &&& (31 : Int32)) = (16 : Int32) then
          f_L_c16 K Ls i M Lm
        else
        if ((M 0 i.toNatClampNeg) &&& (31 : Int32)) = (17 : Int32) then
          f_L_c17 K Ls i M Lm
        else
        if ((M 0 i.toNatClampNeg) &&& (31 : Int32)) = (18 : Int32) then
          f_L_c18 K Ls i M Lm
        else
        if ((M 0 i.toNatClampNeg) &&& (31 : Int32)) = (19 : Int32) then
          f_L_c19 K Ls i M Lm
        else
        if ((M 0 i.toNatClampNeg) &&& (31 : Int32)) = (20 : Int32) then
          f_L_c20 K Ls i M Lm
        else
        if ((M 0 i.toNatClampNeg) &&& (31 : Int32)) = (21 : Int32) then
          f_L_c21 K Ls i M Lm
        else
        if ((M 0 i.toNatClampNeg) &&& (31 : Int32)) = (22 : Int32) then
          f_L_c22 K Ls i M Lm
        else
        if ((M 0 i.toNatClampNeg) &&& (31 : Int32)) = (23 : Int32) then
          f_L_c23 K Ls i M Lm
        else
        if ((M 0 i.toNatClampNeg) &&& (31 : Int32)) = (24 : Int32) then
          f_L_c24 K Ls i M Lm
        else
        K (i + (6 : Int32)) M Lm
      else none) = some (v, M', Lm') := h
  refine z_iload dL_law_23 rfl ?_
  refine z_aload_n dL_law_25 rfl ?_
  refine z_al9 dL_law_26 en_0 (by decide) rfl ?_
  refine z_bp kb_p6 dL_law_27 ?_
  refine z_isub dL_law_29 ?_
  refine z_icmp_gt (tgt := 1547) dL_law_30 rfl (fun g365 => ?_) (fun g365 => ?_)
  · replace h := (if_pos g365).symm.trans h
    refine z_ic kc_p1 dL_law_1547 ?_
    cases h
    exact z_rZ dL_law_1548 rfl rfl
  · replace h := (if_neg g365).symm.trans h
    refine z_aload_n dL_law_33 rfl ?_
    refine z_iload dL_law_34 rfl ?_
    obtain ⟨g366, h⟩ := z_ifn h
    refine z_al (v := (M 0 i.toNatClampNeg)) dL_law_36 en_0 rfl (z_ib_in g366) rfl ?_
    refine z_bp kb_p31 dL_law_37 ?_
    refine z_iand dL_law_39 ?_
    by_cases g367 : ((M 0 i.toNatClampNeg) &&& (31 : Int32)) = (0 : Int32)
    · replace h := (if_pos g367).symm.trans h
      refine z_tswI (tgt := 156) dL_law_40 g367 (by decide) (by decide) rfl rfl ?_
      exact A_L_c0 hl hK _ _ _ _ _ _ h
    replace h := (if_neg g367).symm.trans h
    by_cases g368 : ((M 0 i.toNatClampNeg) &&& (31 : Int32)) = (1 : Int32)
    · replace h := (if_pos g368).symm.trans h
      refine z_tswI (tgt := 229) dL_law_40 g368 (by decide) (by decide) rfl rfl ?_
      exact A_L_c1 hl hK _ _ _ _ _ _ h
    replace h := (if_neg g368).symm.trans h
    by_cases g369 : ((M 0 i.toNatClampNeg) &&& (31 : Int32)) = (2 : Int32)
    · replace h := (if_pos g369).symm.trans h
      refine z_tswI (tgt := 285) dL_law_40 g369 (by decide) (by decide) rfl rfl ?_
      exact A_L_c2 hl hK _ _ _ _ _ _ h
    replace h := (if_neg g369).symm.trans h
    by_cases g370 : ((M 0 i.toNatClampNeg) &&& (31 : Int32)) = (3 : Int32)
    · replace h := (if_pos g370).symm.trans h
      refine z_tswI (tgt := 298) dL_law_40 g370 (by decide) (by decide) rfl rfl ?_
      exact A_L_c3 hl hK _ _ _ _ _ _ h
    replace h := (if_neg g370).symm.trans h
    by_cases g371 : ((M 0 i.toNatClampNeg) &&& (31 : Int32)) = (4 : Int32)
    · replace h := (if_pos g371).symm.trans h
      refine z_tswI (tgt := 354) dL_law_40 g371 (by decide) (by decide) rfl rfl ?_
      exact A_L_c4 hl hK _ _ _ _ _ _ h
    replace h := (if_neg g371).symm.trans h
    by_cases g372 : ((M 0 i.toNatClampNeg) &&& (31 : Int32)) = (5 : Int32)
    · replace h := (if_pos g372).symm.trans h
      refine z_tswI (tgt := 422) dL_law_40 g372 (by decide) (by decide) rfl rfl ?_
      exact A_L_c5 hl hK _ _ _ _ _ _ h
    replace h := (if_neg g372).symm.trans h
    by_cases g373 : ((M 0 i.toNatClampNeg) &&& (31 : Int32)) = (6 : Int32)
    · replace h := (if_pos g373).symm.trans h
      refine z_tswI (tgt := 490) dL_law_40 g373 (by decide) (by decide) rfl rfl ?_
      exact A_L_c6 hl hK _ _ _ _ _ _ h
    replace h := (if_neg g373).symm.trans h
    by_cases g374 : ((M 0 i.toNatClampNeg) &&& (31 : Int32)) = (7 : Int32)
    · replace h := (if_pos g374).symm.trans h
      refine z_tswI (tgt := 558) dL_law_40 g374 (by decide) (by decide) rfl rfl ?_
      exact A_L_c7 hl hK _ _ _ _ _ _ h
    replace h := (if_neg g374).symm.trans h
    by_cases g375 : ((M 0 i.toNatClampNeg) &&& (31 : Int32)) = (8 : Int32)
    · replace h := (if_pos g375).symm.trans h
      refine z_tswI (tgt := 638) dL_law_40 g375 (by decide) (by decide) rfl rfl ?_
      exact A_L_c8 hl hK _ _ _ _ _ _ h
    replace h := (if_neg g375).symm.trans h
    by_cases g376 : ((M 0 i.toNatClampNeg) &&& (31 : Int32)) = (9 : Int32)
    · replace h := (if_pos g376).symm.trans h
      refine z_tswI (tgt := 718) dL_law_40 g376 (by decide) (by decide) rfl rfl ?_
      exact A_L_c9 hl hK _ _ _ _ _ _ h
    replace h := (if_neg g376).symm.trans h
    by_cases g377 : ((M 0 i.toNatClampNeg) &&& (31 : Int32)) = (10 : Int32)
    · replace h := (if_pos g377).symm.trans h
      refine z_tswI (tgt := 786) dL_law_40 g377 (by decide) (by decide) rfl rfl ?_
      exact A_L_c10 hl hK _ _ _ _ _ _ h
    replace h := (if_neg g377).symm.trans h
    by_cases g378 : ((M 0 i.toNatClampNeg) &&& (31 : Int32)) = (11 : Int32)
    · replace h := (if_pos g378).symm.trans h
      refine z_tswI (tgt := 866) dL_law_40 g378 (by decide) (by decide) rfl rfl ?_
      exact A_L_c11 hl hK _ _ _ _ _ _ h
    replace h := (if_neg g378).symm.trans h
    by_cases g379 : ((M 0 i.toNatClampNeg) &&& (31 : Int32)) = (12 : Int32)
    · replace h := (if_pos g379).symm.trans h
      refine z_tswI (tgt := 934) dL_law_40 g379 (by decide) (by decide) rfl rfl ?_
      exact A_L_c12 hl hK _ _ _ _ _ _ h
    replace h := (if_neg g379).symm.trans h
    by_cases g380 : ((M 0 i.toNatClampNeg) &&& (31 : Int32)) = (13 : Int32)
    · replace h := (if_pos g380).symm.trans h
      refine z_tswI (tgt := 957) dL_law_40 g380 (by decide) (by decide) rfl rfl ?_
      exact A_L_c13 hl hK _ _ _ _ _ _ h
    replace h := (if_neg g380).symm.trans h
    by_cases g381 : ((M 0 i.toNatClampNeg) &&& (31 : Int32)) = (14 : Int32)
    · replace h := (if_pos g381).symm.trans h
      refine z_tswI (tgt := 1013) dL_law_40 g381 (by decide) (by decide) rfl rfl ?_
      exact A_L_c14 hl hK _ _ _ _ _ _ h
    replace h := (if_neg g381).symm.trans h
    by_cases g382 : ((M 0 i.toNatClampNeg) &&& (31 : Int32)) = (15 : Int32)
    · replace h := (if_pos g382).symm.trans h
      refine z_tswI (tgt := 1026) dL_law_40 g382 (by decide) (by decide) rfl rfl ?_
      exact A_L_c15 hl hK _ _ _ _ _ _ h
    replace h := (if_neg g382).symm.trans h
    by_cases g383 : ((M 0 i.toNatClampNeg) &&& (31 : Int32)) = (16 : Int32)
    · replace h := (if_pos g383).symm.trans h
      refine z_tswI (tgt := 1106) dL_law_40 g383 (by decide) (by decide) rfl rfl ?_
      exact A_L_c16 hl hK _ _ _ _ _ _ h
    replace h := (if_neg g383).symm.trans h
    by_cases g384 : ((M 0 i.toNatClampNeg) &&& (31 : Int32)) = (17 : Int32)
    · replace h := (if_pos g384).symm.trans h
      refine z_tswI (tgt := 1197) dL_law_40 g384 (by decide) (by decide) rfl rfl ?_
      exact A_L_c17 hl hK _ _ _ _ _ _ h
    replace h := (if_neg g384).symm.trans h
    by_cases g385 : ((M 0 i.toNatClampNeg) &&& (31 : Int32)) = (18 : Int32)
    · replace h := (if_pos g385).symm.trans h
      refine z_tswI (tgt := 1277) dL_law_40 g385 (by decide) (by decide) rfl rfl ?_
      exact A_L_c18 hl hK _ _ _ _ _ _ h
    replace h := (if_neg g385).symm.trans h
    by_cases g386 : ((M 0 i.toNatClampNeg) &&& (31 : Int32)) = (19 : Int32)
    · replace h := (if_pos g386).symm.trans h
      refine z_tswI (tgt := 1288) dL_law_40 g386 (by decide) (by decide) rfl rfl ?_
      exact A_L_c19 hl hK _ _ _ _ _ _ h
    replace h := (if_neg g386).symm.trans h
    by_cases g387 : ((M 0 i.toNatClampNeg) &&& (31 : Int32)) = (20 : Int32)
    · replace h := (if_pos g387).symm.trans h
      refine z_tswI (tgt := 1301) dL_law_40 g387 (by decide) (by decide) rfl rfl ?_
      exact A_L_c20 hl hK _ _ _ _ _ _ h
    replace h := (if_neg g387).symm.trans h
    by_cases g388 : ((M 0 i.toNatClampNeg) &&& (31 : Int32)) = (21 : Int32)
    · replace h := (if_pos g388).symm.trans h
      refine z_tswI (tgt := 1357) dL_law_40 g388 (by decide) (by decide) rfl rfl ?_
      exact A_L_c21 hl hK _ _ _ _ _ _ h
    replace h := (if_neg g388).symm.trans h
    by_cases g389 : ((M 0 i.toNatClampNeg) &&& (31 : Int32)) = (22 : Int32)
    · replace h := (if_pos g389).symm.trans h
      refine z_tswI (tgt := 1413) dL_law_40 g389 (by decide) (by decide) rfl rfl ?_
      exact A_L_c22 hl hK _ _ _ _ _ _ h
    replace h := (if_neg g389).symm.trans h
    by_cases g390 : ((M 0 i.toNatClampNeg) &&& (31 : Int32)) = (23 : Int32)
    · replace h := (if_pos g390).symm.trans h
      refine z_tswI (tgt := 1517) dL_law_40 g390 (by decide) (by decide) rfl rfl ?_
      exact A_L_c23 hl hK _ _ _ _ _ _ h
    replace h := (if_neg g390).symm.trans h
    by_cases g391 : ((M 0 i.toNatClampNeg) &&& (31 : Int32)) = (24 : Int32)
    · replace h := (if_pos g391).symm.trans h
      refine z_tswI (tgt := 1528) dL_law_40 g391 (by decide) (by decide) rfl rfl ?_
      exact A_L_c24 hl hK _ _ _ _ _ _ h
    replace h := (if_neg g391).symm.trans h
    refine z_tswO (tgt := 1541) dL_law_40 [(0 : Int32), (1 : Int32), (2 : Int32), (3 : Int32), (4 : Int32), (5 : Int32), (6 : Int32), (7 : Int32), (8 : Int32), (9 : Int32), (10 : Int32), (11 : Int32), (12 : Int32), (13 : Int32), (14 : Int32), (15 : Int32), (16 : Int32), (17 : Int32), (18 : Int32), (19 : Int32), (20 : Int32), (21 : Int32), (22 : Int32), (23 : Int32), (24 : Int32)] (by simp only [List.mem_cons, List.not_mem_nil, or_false, forall_eq_or_imp, forall_eq]; exact ⟨g367, g368, g369, g370, g371, g372, g373, g374, g375, g376, g377, g378, g379, g380, g381, g382, g383, g384, g385, g386, g387, g388, g389, g390, g391⟩) (by decide +kernel) rfl ?_
    refine z_ii (ls' := [.ref 0, .ref 51, .ref 107, .ref 149, .int (i + (6 : Int32)), .null, .null, .null]) kc_p6 dL_law_1541 rfl (by decide) rfl ?_
    refine z_goto (tgt := 23) dL_law_1544 rfl ?_
    refine z_fg (ls' := [.ref 0, .ref 51, .ref 107, .ref 149, .int (i + (6 : Int32)), .null, .null, .null]) ⟨Or.inr rfl, Or.inr rfl, Or.inr rfl, Or.inr rfl, Or.inr rfl, Or.inl rfl, Or.inl rfl, Or.inl rfl, trivial⟩ ?_
    refine z_AW.mono (bc := n) (bs := 6 * n) (by omega) (by omega) ?_
    exact hK _ _ _ _ _ _ h
def f_L_loop (Ls : Nat) : Nat → Int32 → zMM → zML → Option (Int32 × zMM × zML)
  | 0, _, _, _ => none
  | n + 1, i, M, Lm => f_L_head (f_L_loop Ls n) Ls i M Lm
theorem A_L_loop {l : Launch} (hl : l.stackTraces = false) {Ls d : Nat} : ∀ (n : Nat) (i : Int32) (M : zMM) (Lm : zML) (M' : zMM) (Lm' : zML) (v : Int32), f_L_loop Ls n i M Lm = some (v, M', Lm') → z_AW l mL_law (d + 14) n (6 * n) 23 [.ref 0, .ref 51, .ref 107, .ref 149, .int i, .null, .null, .null] [] (z_L0 Ls, M, Lm) (.inl (some (.int v))) (z_L0 Ls, M', Lm') := by
  intro n
  induction n with
  | zero => intro i M Lm M' Lm' v h; cases h
  | succ n ih =>
    intro i M Lm M' Lm' v h
    exact A_L_head hl ih i M Lm M' Lm' v h
theorem A_L_pro {l : Launch} (hl : l.stackTraces = false) {Ls d n : Nat} {Lm Lm' : zML} {M M' M2 : zMM} {v : Int32} (h : f_L_law_0 M = some M2)
    (hK : z_AW l mL_law (d + 14) n (6 * n) 23 [.ref 0, .ref 51, .ref 107, .ref 149, .int (0 : Int32), .null, .null, .null] [] (z_L0 Ls, M2, z_zL Lm 149) (.inl (some (.int v))) (z_L0 Ls, M', Lm')) : z_AW l mL_law (d + 14) (99 + n) (6657 + 6 * n) 0 [.ref 0, .null, .null, .null, .null, .null, .null, .null] [] (z_YS z_T0 Ls, M, Lm) (.inl (some (.int v))) (z_L0 Ls, M', Lm') := by
  replace h : (  z_bv (some (z_zM M 51)) fun M2 =>
  z_bv (f_X7_init_51 M2) fun M4 =>
  z_bv (some (z_zM M4 107)) fun M6 =>
  z_bv (f_X8_init_107 M6) fun M8 =>
  some M8) = some M2 := h
  obtain ⟨M2, c1, h⟩ := z_bv_c h
  refine y_new (bc' := 98 + n) (bs' := 6644 + 6 * n) nw_L_8 dL_law_0 (by omega) (by omega) zl_0 rfl za_1 (by omega) (by omega) c1 ?_
  refine z_dup dL_law_3 rfl ?_
  obtain ⟨M4, c3, h⟩ := z_bv_c h
  refine y_cI (av := []) (st := [.ref 51]) (bc' := 43 + n) (bs' := 2618 + 6 * n) lk_L_69 dL_law_4 (A_X7_init_51 (d := d + 10) hl c3) rfl rfl (Nat.le_of_ble_eq_true rfl) zl_1 zl_119 (by decide) rfl (by omega) (by omega) (by omega) (by omega) rfl ?_
  refine z_astore_n (ls' := [.ref 0, .ref 51, .null, .null, .null, .null, .null, .null]) dL_law_7 (by decide) rfl ?_
  obtain ⟨M6, c5, h⟩ := z_bv_c h
  refine y_new (bc' := 42 + n) (bs' := 2553 + 6 * n) nw_L_70 dL_law_8 (by omega) (by omega) zl_119 rfl za_120 (by omega) (by omega) c5 ?_
  refine z_dup dL_law_11 rfl ?_
  obtain ⟨M8, c7, h⟩ := z_bv_c h
  refine y_cI (av := []) (st := [.ref 107]) (bc' := 1 + n) (bs' := 1 + 6 * n) lk_L_72 dL_law_12 (A_X8_init_107 (d := d + 12) hl c7) rfl rfl (Nat.le_of_ble_eq_true rfl) zl_120 zl_206 (by decide) rfl (by omega) (by omega) (by omega) (by omega) rfl ?_
  refine z_astore_n (ls' := [.ref 0, .ref 51, .ref 107, .null, .null, .null, .null, .null]) dL_law_15 (by decide) rfl ?_
  refine z_ic kc_p1 dL_law_16 ?_
  refine y_nL (bc' := 0 + n) (bs' := 0 + 6 * n) dL_law_17 ka_long (by decide) kn_p1 (by decide) (by omega) (by omega) zl_206 rfl za_207 (by omega) (by omega) trivial ?_
  refine z_astore_n (ls' := [.ref 0, .ref 51, .ref 107, .ref 149, .null, .null, .null, .null]) dL_law_19 (by decide) rfl ?_
  refine z_ic kc_p0 dL_law_20 ?_
  refine z_istore (ls' := [.ref 0, .ref 51, .ref 107, .ref 149, .int (0 : Int32), .null, .null, .null]) dL_law_21 (by decide) rfl ?_
  cases h
  rw [z_T_end]
  refine z_AW.mono (bc := n) (bs := 6 * n) (by omega) (by omega) ?_
  exact hK
