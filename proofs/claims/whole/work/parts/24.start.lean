/-! ===== the start: what the Statement gives, as the memory ===== -/
def z_sby : List (List Int32) := [[116, 111, 119, 110], [99, 97, 114, 101, 102, 117, 108], [100, 114, 117, 110, 107], [115, 108, 111, 119], [108, 97, 122, 121], [108, 101, 110, 100, 115], [116, 114, 97, 105, 110], [116, 114, 117, 110, 107], [116, 104, 105, 110, 103], [112, 108, 97, 121], [108, 105, 107, 101], [116, 114, 111, 117, 112, 101], [99, 97, 114, 101, 102, 117, 108], [100, 114, 117, 110, 107], [115, 108, 111, 119], [108, 97, 122, 121], [116, 111, 119, 110], [108, 101, 110, 100, 115], [116, 114, 97, 105, 110], [116, 114, 117, 110, 107], [116, 104, 105, 110, 103], [112, 108, 97, 121], [108, 105, 107, 101], [116, 114, 111, 117, 112, 101]]
def z_sln : List Nat := [4, 7, 5, 4, 4, 5, 5, 5, 5, 4, 4, 6, 7, 5, 4, 4, 4, 5, 5, 5, 5, 4, 4, 6]
def z_spr : List Int32 := [0, 1, 256, 257, 65536, 65537, 65792, 65793, 16777216, 16777217, 16777472, 16777473, 16842752, 16842753, 16843008, 16843009]
def z_sws : List Cond := z_nestW.map (fun q => .methodLinkNest q.1 q.2.1 q.2.2.1 q.2.2.2) ++ (z_thr.map (fun q => .stringRef q.1 q.2.1 q.2.2) ++ (z_strs.map (fun q => .stringRef q.1 q.2.1 q.2.2.1) ++ (z_casts.map (fun q => .castable q.1 q.2) ++ (z_decl.map (fun q => .declares q) ++ ([.arrayOver (.object "java/lang/String")] ++ ([.laysStatic "TroupeTrunks$Planner" "SPREAD" "[I", .laysStatic "java/lang/String" "COMPACT_STRINGS" "Z", .laysStatic "jdk/internal/util/Preconditions" "SIOOBE_FORMATTER" "Ljava/util/function/BiFunction;", .laysStatic "java/lang/Throwable" "UNASSIGNED_STACK" "[Ljava/lang/StackTraceElement;", .laysStatic "java/lang/Throwable" "SUPPRESSED_SENTINEL" "Ljava/util/List;"] ++ [.initialized "TroupeTrunks$Planner", .initialized "java/lang/String", .initialized "jdk/internal/util/Preconditions", .initialized "java/lang/Throwable"]))))))
def z_sps : List Nat := [125, 362, 477, 484, 505, 509, 516, 525, 534, 539, 540, 545, 546, 563, 566, 592, 605, 805, 853, 858, 863, 864, 869, 1032, 670, 902, 920, 930, 942, 944, 964, 966, 978, 997, 1059, 1071, 1075, 1123, 1157, 1158, 723, 792, 793, 794, 795, 800, 806, 819, 824, 829, 834, 840, 1174, 1175, 1176, 1177, 1411, 1438, 1443, 1456, 1457, 1462, 1467, 1472, 632, 895, 634, 636, 638, 1173, 591, 737, 753, 657, 659, 90, 97, 99, 92]
theorem z_sws_eq : z_sws = z_sps.filterMap (fun i => lw_tbl[i]?) := by decide +kernel
theorem z_sws_in : ∀ w ∈ z_sws, w ∈ lw_tbl := by
  intro w hw
  rw [z_sws_eq] at hw
  obtain ⟨i, -, hi⟩ := List.mem_filterMap.mp hw
  exact List.mem_of_getElem? hi
def z_sq (i : Nat) : String × Nat × String × Nat := z_strs.getD i ("", 0, "", 0)
def z_tm (i : Nat) : Term := .string (z_sq i).1 (z_sq i).2.1
theorem z_sq_all : ∀ q ∈ z_strs, ∃ i, i < 24 ∧ q = z_sq i ∧ q.2.2.2 = i + 3 := by decide +kernel
theorem z_m1 : ∀ i, i < 24 → Cond.exactly (z_tm i) "java/lang/String" ∈ flatC (Jvm.Cond.and given_1 narrow_1) := by decide +kernel
theorem z_m2 : ∀ i, i < 24 → Cond.eq (.field (z_tm i) "java/lang/String" "coder" "B") (.int 0) ∈ flatC (Jvm.Cond.and given_1 narrow_1) := by decide +kernel
theorem z_m3 : ∀ i, i < 24 → Cond.arrayOf (.field (z_tm i) "java/lang/String" "value" "[B") .byte ∈ flatC (Jvm.Cond.and given_1 narrow_1) := by decide +kernel
theorem z_m4 : ∀ i, i < 24 → Cond.eq (.length (.field (z_tm i) "java/lang/String" "value" "[B")) (.int (Int32.ofNat (z_sln.getD i 0))) ∈ flatC (Jvm.Cond.and given_1 narrow_1) := by decide +kernel
theorem z_fL {a b c : Cond} (h : c ∈ flatC a) : c ∈ flatC (.and a b) := List.mem_append_left _ h
theorem z_fR {a b c : Cond} (h : c ∈ flatC b) : c ∈ flatC (.and a b) := List.mem_append_right _ h
theorem z_f1 {c : Cond} (h : flatC c = [c]) : c ∈ flatC c := by rw [h]; exact List.mem_cons_self
theorem z_m5_0 : ∀ j, j < z_sln.getD 0 0 → Cond.eq (.elem (.field (z_tm 0) "java/lang/String" "value" "[B") (.int (Int32.ofNat j))) (.int ((z_sby.getD 0 []).getD j 0)) ∈ flatC (Jvm.Cond.and given_1 narrow_1) := by
  intro j hj
  replace hj : j < 4 := hj
  match j, hj with
  | 0, _ => exact (z_fR (z_fL (z_fL (z_fR (z_fL (z_fL (z_fR (z_fL (z_fR (z_fR (z_f1 rfl)))))))))))
  | 1, _ => exact (z_fR (z_fL (z_fL (z_fR (z_fL (z_fL (z_fR (z_fR (z_fL (z_fL (z_f1 rfl)))))))))))
  | 2, _ => exact (z_fR (z_fL (z_fL (z_fR (z_fL (z_fL (z_fR (z_fR (z_fL (z_fR (z_f1 rfl)))))))))))
  | 3, _ => exact (z_fR (z_fL (z_fL (z_fR (z_fL (z_fL (z_fR (z_fR (z_fR (z_fL (z_f1 rfl)))))))))))
  | j + 4, h => exact absurd h (by omega)
theorem z_m5_1 : ∀ j, j < z_sln.getD 1 0 → Cond.eq (.elem (.field (z_tm 1) "java/lang/String" "value" "[B") (.int (Int32.ofNat j))) (.int ((z_sby.getD 1 []).getD j 0)) ∈ flatC (Jvm.Cond.and given_1 narrow_1) := by
  intro j hj
  replace hj : j < 7 := hj
  match j, hj with
  | 0, _ => exact (z_fR (z_fL (z_fL (z_fR (z_fL (z_fR (z_fL (z_fL (z_fR (z_fL (z_f1 rfl)))))))))))
  | 1, _ => exact (z_fR (z_fL (z_fL (z_fR (z_fL (z_fR (z_fL (z_fL (z_fR (z_fR (z_f1 rfl)))))))))))
  | 2, _ => exact (z_fR (z_fL (z_fL (z_fR (z_fL (z_fR (z_fL (z_fR (z_fL (z_fL (z_f1 rfl)))))))))))
  | 3, _ => exact (z_fR (z_fL (z_fL (z_fR (z_fL (z_fR (z_fL (z_fR (z_fL (z_fR (z_f1 rfl)))))))))))
  | 4, _ => exact (z_fR (z_fL (z_fL (z_fR (z_fL (z_fR (z_fL (z_fR (z_fR (z_fL (z_f1 rfl)))))))))))
  | 5, _ => exact (z_fR (z_fL (z_fL (z_fR (z_fL (z_fR (z_fL (z_fR (z_fR (z_fR (z_fL (z_f1 rfl))))))))))))
  | 6, _ => exact (z_fR (z_fL (z_fL (z_fR (z_fL (z_fR (z_fL (z_fR (z_fR (z_fR (z_fR (z_f1 rfl))))))))))))
  | j + 7, h => exact absurd h (by omega)
theorem z_m5_2 : ∀ j, j < z_sln.getD 2 0 → Cond.eq (.elem (.field (z_tm 2) "java/lang/String" "value" "[B") (.int (Int32.ofNat j))) (.int ((z_sby.getD 2 []).getD j 0)) ∈ flatC (Jvm.Cond.and given_1 narrow_1) := by
  intro j hj
  replace hj : j < 5 := hj
  match j, hj with
  | 0, _ => exact (z_fR (z_fL (z_fL (z_fR (z_fL (z_fR (z_fR (z_fL (z_fR (z_fR (z_fR (z_f1 rfl))))))))))))
  | 1, _ => exact (z_fR (z_fL (z_fL (z_fR (z_fL (z_fR (z_fR (z_fR (z_fL (z_fL (z_f1 rfl)))))))))))
  | 2, _ => exact (z_fR (z_fL (z_fL (z_fR (z_fL (z_fR (z_fR (z_fR (z_fL (z_fR (z_f1 rfl)))))))))))
  | 3, _ => exact (z_fR (z_fL (z_fL (z_fR (z_fL (z_fR (z_fR (z_fR (z_fR (z_fL (z_f1 rfl)))))))))))
  | 4, _ => exact (z_fR (z_fL (z_fL (z_fR (z_fL (z_fR (z_fR (z_fR (z_fR (z_fR (z_fL (z_f1 rfl))))))))))))
  | j + 5, h => exact absurd h (by omega)
theorem z_m5_3 : ∀ j, j < z_sln.getD 3 0 → Cond.eq (.elem (.field (z_tm 3) "java/lang/String" "value" "[B") (.int (Int32.ofNat j))) (.int ((z_sby.getD 3 []).getD j 0)) ∈ flatC (Jvm.Cond.and given_1 narrow_1) := by
  intro j hj
  replace hj : j < 4 := hj
  match j, hj with
  | 0, _ => exact (z_fR (z_fL (z_fL (z_fR (z_fR (z_fL (z_fL (z_fL (z_fR (z_fR (z_f1 rfl)))))))))))
  | 1, _ => exact (z_fR (z_fL (z_fL (z_fR (z_fR (z_fL (z_fL (z_fR (z_fL (z_fL (z_f1 rfl)))))))))))
  | 2, _ => exact (z_fR (z_fL (z_fL (z_fR (z_fR (z_fL (z_fL (z_fR (z_fL (z_fR (z_f1 rfl)))))))))))
  | 3, _ => exact (z_fR (z_fL (z_fL (z_fR (z_fR (z_fL (z_fL (z_fR (z_fR (z_fL (z_f1 rfl)))))))))))
  | j + 4, h => exact absurd h (by omega)
theorem z_m5_4 : ∀ j, j < z_sln.getD 4 0 → Cond.eq (.elem (.field (z_tm 4) "java/lang/String" "value" "[B") (.int (Int32.ofNat j))) (.int ((z_sby.getD 4 []).getD j 0)) ∈ flatC (Jvm.Cond.and given_1 narrow_1) := by
  intro j hj
  replace hj : j < 4 := hj
  match j, hj with
  | 0, _ => exact (z_fR (z_fL (z_fL (z_fR (z_fR (z_fL (z_fR (z_fL (z_fR (z_fL (z_f1 rfl)))))))))))
  | 1, _ => exact (z_fR (z_fL (z_fL (z_fR (z_fR (z_fL (z_fR (z_fL (z_fR (z_fR (z_f1 rfl)))))))))))
  | 2, _ => exact (z_fR (z_fL (z_fL (z_fR (z_fR (z_fL (z_fR (z_fR (z_fL (z_fL (z_f1 rfl)))))))))))
  | 3, _ => exact (z_fR (z_fL (z_fL (z_fR (z_fR (z_fL (z_fR (z_fR (z_fL (z_fR (z_f1 rfl)))))))))))
  | j + 4, h => exact absurd h (by omega)
theorem z_m5_5 : ∀ j, j < z_sln.getD 5 0 → Cond.eq (.elem (.field (z_tm 5) "java/lang/String" "value" "[B") (.int (Int32.ofNat j))) (.int ((z_sby.getD 5 []).getD j 0)) ∈ flatC (Jvm.Cond.and given_1 narrow_1) := by
  intro j hj
  replace hj : j < 5 := hj
  match j, hj with
  | 0, _ => exact (z_fR (z_fL (z_fL (z_fR (z_fR (z_fR (z_fL (z_fL (z_fL (z_fR (z_f1 rfl)))))))))))
  | 1, _ => exact (z_fR (z_fL (z_fL (z_fR (z_fR (z_fR (z_fL (z_fL (z_fR (z_fL (z_f1 rfl)))))))))))
  | 2, _ => exact (z_fR (z_fL (z_fL (z_fR (z_fR (z_fR (z_fL (z_fL (z_fR (z_fR (z_f1 rfl)))))))))))
  | 3, _ => exact (z_fR (z_fL (z_fL (z_fR (z_fR (z_fR (z_fL (z_fR (z_fL (z_fL (z_f1 rfl)))))))))))
  | 4, _ => exact (z_fR (z_fL (z_fL (z_fR (z_fR (z_fR (z_fL (z_fR (z_fL (z_fR (z_f1 rfl)))))))))))
  | j + 5, h => exact absurd h (by omega)
theorem z_m5_6 : ∀ j, j < z_sln.getD 6 0 → Cond.eq (.elem (.field (z_tm 6) "java/lang/String" "value" "[B") (.int (Int32.ofNat j))) (.int ((z_sby.getD 6 []).getD j 0)) ∈ flatC (Jvm.Cond.and given_1 narrow_1) := by
  intro j hj
  replace hj : j < 5 := hj
  match j, hj with
  | 0, _ => exact (z_fR (z_fL (z_fL (z_fR (z_fR (z_fR (z_fR (z_fL (z_fL (z_fR (z_f1 rfl)))))))))))
  | 1, _ => exact (z_fR (z_fL (z_fL (z_fR (z_fR (z_fR (z_fR (z_fL (z_fR (z_fL (z_f1 rfl)))))))))))
  | 2, _ => exact (z_fR (z_fL (z_fL (z_fR (z_fR (z_fR (z_fR (z_fL (z_fR (z_fR (z_fL (z_f1 rfl))))))))))))
  | 3, _ => exact (z_fR (z_fL (z_fL (z_fR (z_fR (z_fR (z_fR (z_fL (z_fR (z_fR (z_fR (z_f1 rfl))))))))))))
  | 4, _ => exact (z_fR (z_fL (z_fL (z_fR (z_fR (z_fR (z_fR (z_fR (z_fL (z_fL (z_f1 rfl)))))))))))
  | j + 5, h => exact absurd h (by omega)
theorem z_m5_7 : ∀ j, j < z_sln.getD 7 0 → Cond.eq (.elem (.field (z_tm 7) "java/lang/String" "value" "[B") (.int (Int32.ofNat j))) (.int ((z_sby.getD 7 []).getD j 0)) ∈ flatC (Jvm.Cond.and given_1 narrow_1) := by
  intro j hj
  replace hj : j < 5 := hj
  match j, hj with
  | 0, _ => exact (z_fR (z_fL (z_fR (z_fL (z_fL (z_fL (z_fL (z_fL (z_fL (z_fL (z_f1 rfl)))))))))))
  | 1, _ => exact (z_fR (z_fL (z_fR (z_fL (z_fL (z_fL (z_fL (z_fL (z_fL (z_fR (z_f1 rfl)))))))))))
  | 2, _ => exact (z_fR (z_fL (z_fR (z_fL (z_fL (z_fL (z_fL (z_fL (z_fR (z_fL (z_f1 rfl)))))))))))
  | 3, _ => exact (z_fR (z_fL (z_fR (z_fL (z_fL (z_fL (z_fL (z_fL (z_fR (z_fR (z_f1 rfl)))))))))))
  | 4, _ => exact (z_fR (z_fL (z_fR (z_fL (z_fL (z_fL (z_fL (z_fR (z_fL (z_fL (z_f1 rfl)))))))))))
  | j + 5, h => exact absurd h (by omega)
theorem z_m5_8 : ∀ j, j < z_sln.getD 8 0 → Cond.eq (.elem (.field (z_tm 8) "java/lang/String" "value" "[B") (.int (Int32.ofNat j))) (.int ((z_sby.getD 8 []).getD j 0)) ∈ flatC (Jvm.Cond.and given_1 narrow_1) := by
  intro j hj
  replace hj : j < 5 := hj
  match j, hj with
  | 0, _ => exact (z_fR (z_fL (z_fR (z_fL (z_fL (z_fL (z_fR (z_fL (z_fL (z_fL (z_f1 rfl)))))))))))
  | 1, _ => exact (z_fR (z_fL (z_fR (z_fL (z_fL (z_fL (z_fR (z_fL (z_fL (z_fR (z_f1 rfl)))))))))))
  | 2, _ => exact (z_fR (z_fL (z_fR (z_fL (z_fL (z_fL (z_fR (z_fL (z_fR (z_fL (z_f1 rfl)))))))))))
  | 3, _ => exact (z_fR (z_fL (z_fR (z_fL (z_fL (z_fL (z_fR (z_fL (z_fR (z_fR (z_f1 rfl)))))))))))
  | 4, _ => exact (z_fR (z_fL (z_fR (z_fL (z_fL (z_fL (z_fR (z_fR (z_fL (z_fL (z_f1 rfl)))))))))))
  | j + 5, h => exact absurd h (by omega)
theorem z_m5_9 : ∀ j, j < z_sln.getD 9 0 → Cond.eq (.elem (.field (z_tm 9) "java/lang/String" "value" "[B") (.int (Int32.ofNat j))) (.int ((z_sby.getD 9 []).getD j 0)) ∈ flatC (Jvm.Cond.and given_1 narrow_1) := by
  intro j hj
  replace hj : j < 4 := hj
  match j, hj with
  | 0, _ => exact (z_fR (z_fL (z_fR (z_fL (z_fL (z_fR (z_fL (z_fL (z_fL (z_fL (z_f1 rfl)))))))))))
  | 1, _ => exact (z_fR (z_fL (z_fR (z_fL (z_fL (z_fR (z_fL (z_fL (z_fL (z_fR (z_f1 rfl)))))))))))
  | 2, _ => exact (z_fR (z_fL (z_fR (z_fL (z_fL (z_fR (z_fL (z_fL (z_fR (z_fL (z_f1 rfl)))))))))))
  | 3, _ => exact (z_fR (z_fL (z_fR (z_fL (z_fL (z_fR (z_fL (z_fL (z_fR (z_fR (z_f1 rfl)))))))))))
  | j + 4, h => exact absurd h (by omega)
theorem z_m5_10 : ∀ j, j < z_sln.getD 10 0 → Cond.eq (.elem (.field (z_tm 10) "java/lang/String" "value" "[B") (.int (Int32.ofNat j))) (.int ((z_sby.getD 10 []).getD j 0)) ∈ flatC (Jvm.Cond.and given_1 narrow_1) := by
  intro j hj
  replace hj : j < 4 := hj
  match j, hj with
  | 0, _ => exact (z_fR (z_fL (z_fR (z_fL (z_fL (z_fR (z_fL (z_fR (z_fR (z_fR (z_fR (z_f1 rfl))))))))))))
  | 1, _ => exact (z_fR (z_fL (z_fR (z_fL (z_fL (z_fR (z_fR (z_fL (z_fL (z_fL (z_f1 rfl)))))))))))
  | 2, _ => exact (z_fR (z_fL (z_fR (z_fL (z_fL (z_fR (z_fR (z_fL (z_fL (z_fR (z_f1 rfl)))))))))))
  | 3, _ => exact (z_fR (z_fL (z_fR (z_fL (z_fL (z_fR (z_fR (z_fL (z_fR (z_fL (z_f1 rfl)))))))))))
  | j + 4, h => exact absurd h (by omega)
theorem z_m5_11 : ∀ j, j < z_sln.getD 11 0 → Cond.eq (.elem (.field (z_tm 11) "java/lang/String" "value" "[B") (.int (Int32.ofNat j))) (.int ((z_sby.getD 11 []).getD j 0)) ∈ flatC (Jvm.Cond.and given_1 narrow_1) := by
  intro j hj
  replace hj : j < 6 := hj
  match j, hj with
  | 0, _ => exact (z_fR (z_fL (z_fR (z_fL (z_fL (z_fR (z_fR (z_fR (z_fR (z_fL (z_f1 rfl)))))))))))
  | 1, _ => exact (z_fR (z_fL (z_fR (z_fL (z_fL (z_fR (z_fR (z_fR (z_fR (z_fR (z_fL (z_f1 rfl))))))))))))
  | 2, _ => exact (z_fR (z_fL (z_fR (z_fL (z_fL (z_fR (z_fR (z_fR (z_fR (z_fR (z_fR (z_f1 rfl))))))))))))
  | 3, _ => exact (z_fR (z_fL (z_fR (z_fL (z_fR (z_fL (z_fL (z_fL (z_fL (z_fL (z_f1 rfl)))))))))))
  | 4, _ => exact (z_fR (z_fL (z_fR (z_fL (z_fR (z_fL (z_fL (z_fL (z_fL (z_fR (z_f1 rfl)))))))))))
  | 5, _ => exact (z_fR (z_fL (z_fR (z_fL (z_fR (z_fL (z_fL (z_fL (z_fR (z_fL (z_f1 rfl)))))))))))
  | j + 6, h => exact absurd h (by omega)
theorem z_m5_12 : ∀ j, j < z_sln.getD 12 0 → Cond.eq (.elem (.field (z_tm 12) "java/lang/String" "value" "[B") (.int (Int32.ofNat j))) (.int ((z_sby.getD 12 []).getD j 0)) ∈ flatC (Jvm.Cond.and given_1 narrow_1) := by
  intro j hj
  replace hj : j < 7 := hj
  match j, hj with
  | 0, _ => exact (z_fR (z_fR (z_fR (z_fL (z_fL (z_fR (z_fR (z_fR (z_fR (z_fL (z_f1 rfl)))))))))))
  | 1, _ => exact (z_fR (z_fR (z_fR (z_fL (z_fL (z_fR (z_fR (z_fR (z_fR (z_fR (z_fL (z_f1 rfl))))))))))))
  | 2, _ => exact (z_fR (z_fR (z_fR (z_fL (z_fL (z_fR (z_fR (z_fR (z_fR (z_fR (z_fR (z_f1 rfl))))))))))))
  | 3, _ => exact (z_fR (z_fR (z_fR (z_fL (z_fR (z_fL (z_fL (z_fL (z_fL (z_fL (z_f1 rfl)))))))))))
  | 4, _ => exact (z_fR (z_fR (z_fR (z_fL (z_fR (z_fL (z_fL (z_fL (z_fL (z_fR (z_f1 rfl)))))))))))
  | 5, _ => exact (z_fR (z_fR (z_fR (z_fL (z_fR (z_fL (z_fL (z_fL (z_fR (z_fL (z_f1 rfl)))))))))))
  | 6, _ => exact (z_fR (z_fR (z_fR (z_fL (z_fR (z_fL (z_fL (z_fL (z_fR (z_fR (z_f1 rfl)))))))))))
  | j + 7, h => exact absurd h (by omega)
theorem z_m5_13 : ∀ j, j < z_sln.getD 13 0 → Cond.eq (.elem (.field (z_tm 13) "java/lang/String" "value" "[B") (.int (Int32.ofNat j))) (.int ((z_sby.getD 13 []).getD j 0)) ∈ flatC (Jvm.Cond.and given_1 narrow_1) := by
  intro j hj
  replace hj : j < 5 := hj
  match j, hj with
  | 0, _ => exact (z_fR (z_fR (z_fR (z_fL (z_fR (z_fL (z_fR (z_fL (z_fL (z_fL (z_f1 rfl)))))))))))
  | 1, _ => exact (z_fR (z_fR (z_fR (z_fL (z_fR (z_fL (z_fR (z_fL (z_fL (z_fR (z_f1 rfl)))))))))))
  | 2, _ => exact (z_fR (z_fR (z_fR (z_fL (z_fR (z_fL (z_fR (z_fL (z_fR (z_fL (z_f1 rfl)))))))))))
  | 3, _ => exact (z_fR (z_fR (z_fR (z_fL (z_fR (z_fL (z_fR (z_fL (z_fR (z_fR (z_f1 rfl)))))))))))
  | 4, _ => exact (z_fR (z_fR (z_fR (z_fL (z_fR (z_fL (z_fR (z_fR (z_fL (z_fL (z_f1 rfl)))))))))))
  | j + 5, h => exact absurd h (by omega)
theorem z_m5_14 : ∀ j, j < z_sln.getD 14 0 → Cond.eq (.elem (.field (z_tm 14) "java/lang/String" "value" "[B") (.int (Int32.ofNat j))) (.int ((z_sby.getD 14 []).getD j 0)) ∈ flatC (Jvm.Cond.and given_1 narrow_1) := by
  intro j hj
  replace hj : j < 4 := hj
  match j, hj with
  | 0, _ => exact (z_fR (z_fR (z_fR (z_fL (z_fR (z_fR (z_fL (z_fL (z_fL (z_fR (z_f1 rfl)))))))))))
  | 1, _ => exact (z_fR (z_fR (z_fR (z_fL (z_fR (z_fR (z_fL (z_fL (z_fR (z_fL (z_f1 rfl)))))))))))
  | 2, _ => exact (z_fR (z_fR (z_fR (z_fL (z_fR (z_fR (z_fL (z_fL (z_fR (z_fR (z_f1 rfl)))))))))))
  | 3, _ => exact (z_fR (z_fR (z_fR (z_fL (z_fR (z_fR (z_fL (z_fR (z_fL (z_fL (z_f1 rfl)))))))))))
  | j + 4, h => exact absurd h (by omega)
theorem z_m5_15 : ∀ j, j < z_sln.getD 15 0 → Cond.eq (.elem (.field (z_tm 15) "java/lang/String" "value" "[B") (.int (Int32.ofNat j))) (.int ((z_sby.getD 15 []).getD j 0)) ∈ flatC (Jvm.Cond.and given_1 narrow_1) := by
  intro j hj
  replace hj : j < 4 := hj
  match j, hj with
  | 0, _ => exact (z_fR (z_fR (z_fR (z_fL (z_fR (z_fR (z_fR (z_fL (z_fL (z_fR (z_f1 rfl)))))))))))
  | 1, _ => exact (z_fR (z_fR (z_fR (z_fL (z_fR (z_fR (z_fR (z_fL (z_fR (z_fL (z_f1 rfl)))))))))))
  | 2, _ => exact (z_fR (z_fR (z_fR (z_fL (z_fR (z_fR (z_fR (z_fL (z_fR (z_fR (z_fL (z_f1 rfl))))))))))))
  | 3, _ => exact (z_fR (z_fR (z_fR (z_fL (z_fR (z_fR (z_fR (z_fL (z_fR (z_fR (z_fR (z_f1 rfl))))))))))))
  | j + 4, h => exact absurd h (by omega)
theorem z_m5_16 : ∀ j, j < z_sln.getD 16 0 → Cond.eq (.elem (.field (z_tm 16) "java/lang/String" "value" "[B") (.int (Int32.ofNat j))) (.int ((z_sby.getD 16 []).getD j 0)) ∈ flatC (Jvm.Cond.and given_1 narrow_1) := by
  intro j hj
  replace hj : j < 4 := hj
  match j, hj with
  | 0, _ => exact (z_fR (z_fR (z_fR (z_fR (z_fL (z_fL (z_fL (z_fL (z_fL (z_fL (z_f1 rfl)))))))))))
  | 1, _ => exact (z_fR (z_fR (z_fR (z_fR (z_fL (z_fL (z_fL (z_fL (z_fL (z_fR (z_f1 rfl)))))))))))
  | 2, _ => exact (z_fR (z_fR (z_fR (z_fR (z_fL (z_fL (z_fL (z_fL (z_fR (z_fL (z_f1 rfl)))))))))))
  | 3, _ => exact (z_fR (z_fR (z_fR (z_fR (z_fL (z_fL (z_fL (z_fL (z_fR (z_fR (z_f1 rfl)))))))))))
  | j + 4, h => exact absurd h (by omega)
theorem z_m5_17 : ∀ j, j < z_sln.getD 17 0 → Cond.eq (.elem (.field (z_tm 17) "java/lang/String" "value" "[B") (.int (Int32.ofNat j))) (.int ((z_sby.getD 17 []).getD j 0)) ∈ flatC (Jvm.Cond.and given_1 narrow_1) := by
  intro j hj
  replace hj : j < 5 := hj
  match j, hj with
  | 0, _ => exact (z_fR (z_fR (z_fR (z_fR (z_fL (z_fL (z_fR (z_fL (z_fL (z_fL (z_f1 rfl)))))))))))
  | 1, _ => exact (z_fR (z_fR (z_fR (z_fR (z_fL (z_fL (z_fR (z_fL (z_fL (z_fR (z_f1 rfl)))))))))))
  | 2, _ => exact (z_fR (z_fR (z_fR (z_fR (z_fL (z_fL (z_fR (z_fL (z_fR (z_fL (z_f1 rfl)))))))))))
  | 3, _ => exact (z_fR (z_fR (z_fR (z_fR (z_fL (z_fL (z_fR (z_fL (z_fR (z_fR (z_f1 rfl)))))))))))
  | 4, _ => exact (z_fR (z_fR (z_fR (z_fR (z_fL (z_fL (z_fR (z_fR (z_fL (z_fL (z_f1 rfl)))))))))))
  | j + 5, h => exact absurd h (by omega)
theorem z_m5_18 : ∀ j, j < z_sln.getD 18 0 → Cond.eq (.elem (.field (z_tm 18) "java/lang/String" "value" "[B") (.int (Int32.ofNat j))) (.int ((z_sby.getD 18 []).getD j 0)) ∈ flatC (Jvm.Cond.and given_1 narrow_1) := by
  intro j hj
  replace hj : j < 5 := hj
  match j, hj with
  | 0, _ => exact (z_fR (z_fR (z_fR (z_fR (z_fL (z_fR (z_fL (z_fL (z_fL (z_fR (z_f1 rfl)))))))))))
  | 1, _ => exact (z_fR (z_fR (z_fR (z_fR (z_fL (z_fR (z_fL (z_fL (z_fR (z_fL (z_f1 rfl)))))))))))
  | 2, _ => exact (z_fR (z_fR (z_fR (z_fR (z_fL (z_fR (z_fL (z_fL (z_fR (z_fR (z_f1 rfl)))))))))))
  | 3, _ => exact (z_fR (z_fR (z_fR (z_fR (z_fL (z_fR (z_fL (z_fR (z_fL (z_fL (z_f1 rfl)))))))))))
  | 4, _ => exact (z_fR (z_fR (z_fR (z_fR (z_fL (z_fR (z_fL (z_fR (z_fL (z_fR (z_f1 rfl)))))))))))
  | j + 5, h => exact absurd h (by omega)
theorem z_m5_19 : ∀ j, j < z_sln.getD 19 0 → Cond.eq (.elem (.field (z_tm 19) "java/lang/String" "value" "[B") (.int (Int32.ofNat j))) (.int ((z_sby.getD 19 []).getD j 0)) ∈ flatC (Jvm.Cond.and given_1 narrow_1) := by
  intro j hj
  replace hj : j < 5 := hj
  match j, hj with
  | 0, _ => exact (z_fR (z_fR (z_fR (z_fR (z_fL (z_fR (z_fR (z_fL (z_fR (z_fL (z_f1 rfl)))))))))))
  | 1, _ => exact (z_fR (z_fR (z_fR (z_fR (z_fL (z_fR (z_fR (z_fL (z_fR (z_fR (z_fL (z_f1 rfl))))))))))))
  | 2, _ => exact (z_fR (z_fR (z_fR (z_fR (z_fL (z_fR (z_fR (z_fL (z_fR (z_fR (z_fR (z_f1 rfl))))))))))))
  | 3, _ => exact (z_fR (z_fR (z_fR (z_fR (z_fL (z_fR (z_fR (z_fR (z_fL (z_fL (z_f1 rfl)))))))))))
  | 4, _ => exact (z_fR (z_fR (z_fR (z_fR (z_fL (z_fR (z_fR (z_fR (z_fL (z_fR (z_f1 rfl)))))))))))
  | j + 5, h => exact absurd h (by omega)
theorem z_m5_20 : ∀ j, j < z_sln.getD 20 0 → Cond.eq (.elem (.field (z_tm 20) "java/lang/String" "value" "[B") (.int (Int32.ofNat j))) (.int ((z_sby.getD 20 []).getD j 0)) ∈ flatC (Jvm.Cond.and given_1 narrow_1) := by
  intro j hj
  replace hj : j < 5 := hj
  match j, hj with
  | 0, _ => exact (z_fR (z_fR (z_fR (z_fR (z_fR (z_fL (z_fL (z_fL (z_fR (z_fL (z_f1 rfl)))))))))))
  | 1, _ => exact (z_fR (z_fR (z_fR (z_fR (z_fR (z_fL (z_fL (z_fL (z_fR (z_fR (z_f1 rfl)))))))))))
  | 2, _ => exact (z_fR (z_fR (z_fR (z_fR (z_fR (z_fL (z_fL (z_fR (z_fL (z_fL (z_f1 rfl)))))))))))
  | 3, _ => exact (z_fR (z_fR (z_fR (z_fR (z_fR (z_fL (z_fL (z_fR (z_fL (z_fR (z_f1 rfl)))))))))))
  | 4, _ => exact (z_fR (z_fR (z_fR (z_fR (z_fR (z_fL (z_fL (z_fR (z_fR (z_fL (z_f1 rfl)))))))))))
  | j + 5, h => exact absurd h (by omega)
theorem z_m5_21 : ∀ j, j < z_sln.getD 21 0 → Cond.eq (.elem (.field (z_tm 21) "java/lang/String" "value" "[B") (.int (Int32.ofNat j))) (.int ((z_sby.getD 21 []).getD j 0)) ∈ flatC (Jvm.Cond.and given_1 narrow_1) := by
  intro j hj
  replace hj : j < 4 := hj
  match j, hj with
  | 0, _ => exact (z_fR (z_fR (z_fR (z_fR (z_fR (z_fL (z_fR (z_fL (z_fR (z_fR (z_fL (z_f1 rfl))))))))))))
  | 1, _ => exact (z_fR (z_fR (z_fR (z_fR (z_fR (z_fL (z_fR (z_fL (z_fR (z_fR (z_fR (z_f1 rfl))))))))))))
  | 2, _ => exact (z_fR (z_fR (z_fR (z_fR (z_fR (z_fL (z_fR (z_fR (z_fL (z_fL (z_f1 rfl)))))))))))
  | 3, _ => exact (z_fR (z_fR (z_fR (z_fR (z_fR (z_fL (z_fR (z_fR (z_fL (z_fR (z_f1 rfl)))))))))))
  | j + 4, h => exact absurd h (by omega)
theorem z_m5_22 : ∀ j, j < z_sln.getD 22 0 → Cond.eq (.elem (.field (z_tm 22) "java/lang/String" "value" "[B") (.int (Int32.ofNat j))) (.int ((z_sby.getD 22 []).getD j 0)) ∈ flatC (Jvm.Cond.and given_1 narrow_1) := by
  intro j hj
  replace hj : j < 4 := hj
  match j, hj with
  | 0, _ => exact (z_fR (z_fR (z_fR (z_fR (z_fR (z_fR (z_fL (z_fL (z_fR (z_fL (z_f1 rfl)))))))))))
  | 1, _ => exact (z_fR (z_fR (z_fR (z_fR (z_fR (z_fR (z_fL (z_fL (z_fR (z_fR (z_f1 rfl)))))))))))
  | 2, _ => exact (z_fR (z_fR (z_fR (z_fR (z_fR (z_fR (z_fL (z_fR (z_fL (z_fL (z_f1 rfl)))))))))))
  | 3, _ => exact (z_fR (z_fR (z_fR (z_fR (z_fR (z_fR (z_fL (z_fR (z_fL (z_fR (z_f1 rfl)))))))))))
  | j + 4, h => exact absurd h (by omega)
theorem z_m5_23 : ∀ j, j < z_sln.getD 23 0 → Cond.eq (.elem (.field (z_tm 23) "java/lang/String" "value" "[B") (.int (Int32.ofNat j))) (.int ((z_sby.getD 23 []).getD j 0)) ∈ flatC (Jvm.Cond.and given_1 narrow_1) := by
  intro j hj
  replace hj : j < 6 := hj
  match j, hj with
  | 0, _ => exact (z_fR (z_fR (z_fR (z_fR (z_fR (z_fR (z_fR (z_fL (z_fR (z_fL (z_f1 rfl)))))))))))
  | 1, _ => exact (z_fR (z_fR (z_fR (z_fR (z_fR (z_fR (z_fR (z_fL (z_fR (z_fR (z_fL (z_f1 rfl))))))))))))
  | 2, _ => exact (z_fR (z_fR (z_fR (z_fR (z_fR (z_fR (z_fR (z_fL (z_fR (z_fR (z_fR (z_f1 rfl))))))))))))
  | 3, _ => exact (z_fR (z_fR (z_fR (z_fR (z_fR (z_fR (z_fR (z_fR (z_fL (z_fL (z_f1 rfl)))))))))))
  | 4, _ => exact (z_fR (z_fR (z_fR (z_fR (z_fR (z_fR (z_fR (z_fR (z_fL (z_fR (z_f1 rfl)))))))))))
  | 5, _ => exact (z_fR (z_fR (z_fR (z_fR (z_fR (z_fR (z_fR (z_fR (z_fR (z_fL (z_f1 rfl)))))))))))
  | j + 6, h => exact absurd h (by omega)
theorem z_m5 : ∀ i, i < 24 → ∀ j, j < z_sln.getD i 0 → Cond.eq (.elem (.field (z_tm i) "java/lang/String" "value" "[B") (.int (Int32.ofNat j))) (.int ((z_sby.getD i []).getD j 0)) ∈ flatC (Jvm.Cond.and given_1 narrow_1) := by
  intro i hi
  match i, hi with
  | 0, _ => exact z_m5_0
  | 1, _ => exact z_m5_1
  | 2, _ => exact z_m5_2
  | 3, _ => exact z_m5_3
  | 4, _ => exact z_m5_4
  | 5, _ => exact z_m5_5
  | 6, _ => exact z_m5_6
  | 7, _ => exact z_m5_7
  | 8, _ => exact z_m5_8
  | 9, _ => exact z_m5_9
  | 10, _ => exact z_m5_10
  | 11, _ => exact z_m5_11
  | 12, _ => exact z_m5_12
  | 13, _ => exact z_m5_13
  | 14, _ => exact z_m5_14
  | 15, _ => exact z_m5_15
  | 16, _ => exact z_m5_16
  | 17, _ => exact z_m5_17
  | 18, _ => exact z_m5_18
  | 19, _ => exact z_m5_19
  | 20, _ => exact z_m5_20
  | 21, _ => exact z_m5_21
  | 22, _ => exact z_m5_22
  | 23, _ => exact z_m5_23
  | i + 24, h => exact absurd h (by omega)
theorem z_m6 : ∀ q ∈ z_thr, Cond.exactly (.string q.1 q.2.1) "java/lang/String" ∈ flatC (Jvm.Cond.and given_1 narrow_1) := by decide +kernel
theorem z_m7 : ∀ j, j < 16 → Cond.eq (.elem (.static "TroupeTrunks$Planner" "SPREAD" "[I") (.int (Int32.ofNat j))) (.int (z_spr.getD j 0)) ∈ flatC (Jvm.Cond.and given_1 narrow_1) := by decide +kernel
theorem z_m8 : ∀ q ∈ z_ncasts, Cond.not (.castable q.1 q.2) ∈ flatC (Jvm.Cond.and given_1 narrow_1) := by decide +kernel
theorem z_sln_lt : ∀ i, i < 24 → z_sln.getD i 0 < 2 ^ 31 := by decide
def z_t0e (k : Nat) : zEn := if k = 0 then (10, 16, []) else if k = 1 then (16, 0, []) else if k < 26 then (15, k + 25, []) else (11, z_sln.getD (k - 26) 0, [])
theorem z_T0_all : ∀ k, k < 50 → z_T0[k]? = some (z_t0e k) := by decide +kernel
theorem z_T0_at {L k : Nat} {e : zEn} (h : (z_YS z_T0 L)[k]? = some e) : (k = 0 ∧ e = (10, L, [])) ∨ (k = 1 ∧ e = (10, 16, [])) ∨ (k = 2 ∧ e = (16, 0, [])) ∨ (3 ≤ k ∧ k < 27 ∧ e = (15, k + 24, [])) ∨ (27 ≤ k ∧ k < 51 ∧ e = (11, z_sln.getD (k - 27) 0, [])) := by
  match k, h with
  | 0, h => exact Or.inl ⟨rfl, (Option.some.inj h).symm⟩
  | k + 1, h =>
    replace h : z_T0[k]? = some e := h
    have hk : k < 50 := by
      have := (List.getElem?_eq_some_iff.mp h).1
      rw [zt_0] at this
      exact this
    rw [z_T0_all k hk] at h
    have he := (Option.some.inj h).symm
    unfold z_t0e at he
    by_cases h0 : k = 0
    · rw [if_pos h0] at he; exact Or.inr (Or.inl ⟨by omega, he⟩)
    · rw [if_neg h0] at he
      by_cases h1 : k = 1
      · rw [if_pos h1] at he; exact Or.inr (Or.inr (Or.inl ⟨by omega, he⟩))
      · rw [if_neg h1] at he
        by_cases h2 : k < 26
        · rw [if_pos h2] at he
          exact Or.inr (Or.inr (Or.inr (Or.inl ⟨by omega, by omega, by rw [he]⟩)))
        · rw [if_neg h2] at he
          exact Or.inr (Or.inr (Or.inr (Or.inr ⟨by omega, by omega, by rw [he, show k + 1 - 27 = k - 26 by omega]⟩)))
section ZT
variable {D : va_G} {sz0 : Nat} {s : State} {ad : Nat → Nat} {hp : zHP} {H : Heap} {k N : Nat} {rs : List Nat}
theorem z_CR10 (h : z_arr s H (ad k) .int N (fun j => .int (hp.2.1 k j))) : z_CR D sz0 s ad hp H k (10, N, rs) :=
  ⟨fun q => absurd (show (10 : Nat) < 9 from q) (by decide), fun _ => h, fun q => absurd (show (10 : Nat) = 11 from q) (by decide), fun q => absurd (show (10 : Nat) = 12 from q) (by decide), fun q => absurd (show (10 : Nat) = 13 from q) (by decide), fun q => absurd (show (10 : Nat) = 14 from q) (by decide), fun q => absurd (show (10 : Nat) = 15 from q) (by decide)⟩
theorem z_CR11 (h : z_arr s H (ad k) .byte N (fun j => .int (hp.2.1 k j))) : z_CR D sz0 s ad hp H k (11, N, rs) :=
  ⟨fun q => absurd (show (11 : Nat) < 9 from q) (by decide), fun q => absurd (show (11 : Nat) = 10 from q) (by decide), fun _ => h, fun q => absurd (show (11 : Nat) = 12 from q) (by decide), fun q => absurd (show (11 : Nat) = 13 from q) (by decide), fun q => absurd (show (11 : Nat) = 14 from q) (by decide), fun q => absurd (show (11 : Nat) = 15 from q) (by decide)⟩
theorem z_CR15 (h : va_O "java/lang/String" (ad k) (z_A sz0) s H ∧ va_OF "java/lang/String" "coder" "B" (.int 0) (ad k) (z_A sz0) s H ∧ va_OF "java/lang/String" "value" "[B" (.ref (ad N)) (ad k) (z_A sz0) s H) : z_CR D sz0 s ad hp H k (15, N, rs) :=
  ⟨fun q => absurd (show (15 : Nat) < 9 from q) (by decide), fun q => absurd (show (15 : Nat) = 10 from q) (by decide), fun q => absurd (show (15 : Nat) = 11 from q) (by decide), fun q => absurd (show (15 : Nat) = 12 from q) (by decide), fun q => absurd (show (15 : Nat) = 13 from q) (by decide), fun q => absurd (show (15 : Nat) = 14 from q) (by decide), fun _ => h⟩
end ZT
theorem z_Tarr {ty : FieldType} {t N : Nat} {f : Nat → Value} {A : Nat → Prop} {s : State} {H : Heap} (h : va_T ty t N f A s H) : z_arr s H t ty N f := by
  obtain ⟨cell, h1, h2, h3, h4, h5, h6, -⟩ := h
  exact ⟨cell, h1, h2, h3, h4, h5, h6⟩
def z_Mst (xs : Nat → Int32) : zMM := fun a j => if a = 0 then xs j else if a = 1 then z_spr.getD j 0 else (z_sby.getD (a - 27) []).getD j 0
theorem z_cls {args : Array Value} {s : State} (hts : ∀ w ∈ lw_tbl, w.before args s = true) {own : String} {i ci N nsl : Nat} {rs : List Nat} (hP : z_NP own i ci N nsl rs) : ∃ p : ClassId × (Nat → Nat), ∀ q : vw_C, vwCl[ci]? = some q → u_Kn s q.1 q.2.1 q.2.2 p.1 p.2 := by
  obtain ⟨C, T, ty, hc, hg, -⟩ := hP
  obtain ⟨cC, iS, h⟩ := u_known (ws := .classLink own i C :: .instantiable C nsl :: .initialized C :: u_ws C T N) (s := s) (args := args) (C := C) (T := T) (N := N) (n := nsl) (fun w hw => hts w (hg w hw).1) (fun w hw => List.mem_cons_of_mem _ (List.mem_cons_of_mem _ (List.mem_cons_of_mem _ hw))) (hts _ (hg _ (List.mem_cons_of_mem _ List.mem_cons_self)).1)
  exact ⟨(cC, iS), fun q hq => by cases Option.some.inj (hc.symm.trans hq); exact h⟩
theorem z_clsAll {args : Array Value} {s : State} (hts : ∀ w ∈ lw_tbl, w.before args s = true) : ∀ ci : Nat, ∃ p : ClassId × (Nat → Nat), ∀ q : vw_C, vwCl[ci]? = some q → u_Kn s q.1 q.2.1 q.2.2 p.1 p.2 := by
  intro ci
  match ci with
  | 0 => exact z_cls hts nw_X7_69
  | 1 => exact z_cls hts nw_X7_76
  | 2 => exact z_cls hts nw_X7_48
  | 3 => exact z_cls hts nw_X7_30
  | 4 => exact z_cls hts nw_X7_55
  | 5 => exact z_cls hts nw_X7_20
  | 6 => exact z_cls hts nw_X7_39
  | 7 => exact z_cls hts nw_L_8
  | 8 => exact z_cls hts nw_L_70
  | ci + 9 => exact ⟨(0, fun _ => 0), fun q hq => by
      have := (List.getElem?_eq_some_iff.mp hq).1
      have h9 : vwCl.length = 9 := rfl
      omega⟩
theorem z_start {p : Program} {s : State} {m : MethodId} {meth : Method} {c : Code} {b L : Nat} {xs : Nat → Int32} (C0 : lw_At p s m meth c b L xs) :
    ∃ (D : va_G) (ad : Nat → Nat), z_Tb D ad s ∧ z_Hp s.heap.size D ad (z_YS z_T0 L, z_Mst xs, fun _ _ => 0) s s.heap ∧ ad 0 = b := by
  obtain ⟨-, -, -, -, -, hts, hX, hbl, -, hgv, -⟩ := C0
  have hs := flat_of_before _ hgv
  have hA : ∀ a : Nat, a < s.heap.size → ¬ z_A s.heap.size a := fun a h q => Nat.not_le.mpr h q
  have hw : ∀ w ∈ z_sws, w.before #[Value.ref b] s = true := fun w hw => hts w (z_sws_in w hw)
  have hlay : ∀ w ∈ ([.laysStatic "TroupeTrunks$Planner" "SPREAD" "[I", .laysStatic "java/lang/String" "COMPACT_STRINGS" "Z", .laysStatic "jdk/internal/util/Preconditions" "SIOOBE_FORMATTER" "Ljava/util/function/BiFunction;", .laysStatic "java/lang/Throwable" "UNASSIGNED_STACK" "[Ljava/lang/StackTraceElement;", .laysStatic "java/lang/Throwable" "SUPPRESSED_SENTINEL" "Ljava/util/List;"] ++ [.initialized "TroupeTrunks$Planner", .initialized "java/lang/String", .initialized "jdk/internal/util/Preconditions", .initialized "java/lang/Throwable"] : List Cond), w.before #[Value.ref b] s = true := fun w h => hw w (by unfold z_sws; exact List.mem_append_right _ (List.mem_append_right _ (List.mem_append_right _ (List.mem_append_right _ (List.mem_append_right _ (List.mem_append_right _ h))))))
  have hstr : ∀ i : Nat, ∃ q : Nat × Nat, i < 24 → (z_tm i).eval #[Value.ref b] s none [] s = some (.ref q.1) ∧ va_O "java/lang/String" q.1 (z_A s.heap.size) s s.heap ∧ va_OF "java/lang/String" "coder" "B" (.int 0) q.1 (z_A s.heap.size) s s.heap ∧ va_OF "java/lang/String" "value" "[B" (.ref q.2) q.1 (z_A s.heap.size) s s.heap ∧ va_T .byte q.2 (z_sln.getD i 0) (fun j => .int ((z_sby.getD i []).getD j 0)) (z_A s.heap.size) s s.heap := by
    intro i
    by_cases hi : i < 24
    · obtain ⟨a, c, cA, kA, q1, q2, q3, q4, q5, q6, -⟩ := Cond.exactly_spec (args := #[Value.ref b]) (first := s) (o := none) (s := s) (idx := []) (t := z_tm i) (cls := "java/lang/String") (hs _ (z_m1 i hi))
      obtain ⟨t, ht, hT⟩ := va_Tof (f := fun j => .int ((z_sby.getD i []).getD j 0)) (A := z_A s.heap.size) (z_sln_lt i hi) (hs _ (z_m3 i hi)) (va_eqt (hs _ (z_m4 i hi))) (fun j hj => va_eqt (hs _ (z_m5 i hi j hj))) hA
      exact ⟨(a, t), fun _ => ⟨q1, ⟨cA, q3, q5, by rw [q6]; exact q2, hA a (Array.getElem?_eq_some_iff.mp q3).1⟩, vk_OFof q1 (va_eqt (hs _ (z_m2 i hi))) hA, vk_OFof q1 ht hA, hT⟩⟩
    · exact ⟨(0, 0), fun h => absurd h hi⟩
  obtain ⟨t1, ht1, hT1⟩ := va_Tof (args := #[Value.ref b]) (s := s) (tm := .static "TroupeTrunks$Planner" "SPREAD" "[I") (ty := .int) (N := 16) (f := fun j => .int (z_spr.getD j 0)) (A := z_A s.heap.size) (by decide) (hs _ (by decide +kernel)) (va_eqt (hs _ (by decide +kernel))) (fun j hj => va_eqt (hs _ (z_m7 j hj))) hA
  have hZ1 := va_Zof (hlay (.laysStatic "TroupeTrunks$Planner" "SPREAD" "[I") (by decide)) (hlay (.initialized "TroupeTrunks$Planner") (by decide)) ht1 hA
  have hZ2 : va_Z "java/lang/String" "COMPACT_STRINGS" "Z" (.int 1) (z_A s.heap.size) s s.heap := va_Zof (hlay (.laysStatic "java/lang/String" "COMPACT_STRINGS" "Z") (by decide)) (hlay (.initialized "java/lang/String") (by decide)) (va_eqt (hs _ (by decide +kernel))) hA
  have hZ3 : va_Zq "jdk/internal/util/Preconditions" "SIOOBE_FORMATTER" "Ljava/util/function/BiFunction;" (z_A s.heap.size) s s.heap := va_Zqof (hlay (.laysStatic "jdk/internal/util/Preconditions" "SIOOBE_FORMATTER" "Ljava/util/function/BiFunction;") (by decide)) (hlay (.initialized "jdk/internal/util/Preconditions") (by decide)) (hs _ (by decide +kernel)) hA
  have hZ4 : vx_Zq Bundle.tN "UNASSIGNED_STACK" Bundle.steD (z_A s.heap.size) s s.heap := vx_Zqof (hlay (.laysStatic "java/lang/Throwable" "UNASSIGNED_STACK" "[Ljava/lang/StackTraceElement;") (by decide)) (hlay (.initialized "java/lang/Throwable") (by decide)) (hs (.isRef (.static "java/lang/Throwable" "UNASSIGNED_STACK" "[Ljava/lang/StackTraceElement;")) (by decide +kernel)) hA
  have hZ5 : vx_Zq Bundle.tN "SUPPRESSED_SENTINEL" Bundle.listD (z_A s.heap.size) s s.heap := vx_Zqof (hlay (.laysStatic "java/lang/Throwable" "SUPPRESSED_SENTINEL" "Ljava/util/List;") (by decide)) (hlay (.initialized "java/lang/Throwable") (by decide)) (hs (.isRef (.static "java/lang/Throwable" "SUPPRESSED_SENTINEL" "Ljava/util/List;")) (by decide +kernel)) hA
  obtain ⟨t2, hZ3⟩ : ∃ t2 : Nat, va_Z "jdk/internal/util/Preconditions" "SIOOBE_FORMATTER" "Ljava/util/function/BiFunction;" .null (z_A s.heap.size) s s.heap ∨ va_Z "jdk/internal/util/Preconditions" "SIOOBE_FORMATTER" "Ljava/util/function/BiFunction;" (.ref t2) (z_A s.heap.size) s s.heap := by
    rcases hZ3 with h | ⟨t, h⟩
    · exact ⟨0, Or.inl h⟩
    · exact ⟨t, Or.inr h⟩
  have hD := z_clsAll hts
  let S : Nat → Nat × Nat := fun i => (hstr i).choose
  have hS : ∀ i, i < 24 → (z_tm i).eval #[Value.ref b] s none [] s = some (.ref (S i).1) ∧ va_O "java/lang/String" (S i).1 (z_A s.heap.size) s s.heap ∧ va_OF "java/lang/String" "coder" "B" (.int 0) (S i).1 (z_A s.heap.size) s s.heap ∧ va_OF "java/lang/String" "value" "[B" (.ref (S i).2) (S i).1 (z_A s.heap.size) s s.heap ∧ va_T .byte (S i).2 (z_sln.getD i 0) (fun j => .int ((z_sby.getD i []).getD j 0)) (z_A s.heap.size) s s.heap := fun i hi => (hstr i).choose_spec hi
  let ad : Nat → Nat := fun k => if k = 0 then b else if k = 1 then t1 else if k = 2 then t2 else if k < 27 then (S (k - 3)).1 else (S (k - 27)).2
  have a0 : ad 0 = b := rfl
  have a1 : ad 1 = t1 := rfl
  have a2 : ad 2 = t2 := rfl
  have aK : ∀ k, 3 ≤ k → k < 27 → ad k = (S (k - 3)).1 := fun k h1 h2 => by
    show (if k = 0 then b else if k = 1 then t1 else if k = 2 then t2 else if k < 27 then (S (k - 3)).1 else (S (k - 27)).2) = _
    rw [if_neg (by omega), if_neg (by omega), if_neg (by omega), if_pos h2]
  have aV : ∀ k, 27 ≤ k → ad k = (S (k - 27)).2 := fun k h1 => by
    show (if k = 0 then b else if k = 1 then t1 else if k = 2 then t2 else if k < 27 then (S (k - 3)).1 else (S (k - 27)).2) = _
    rw [if_neg (by omega), if_neg (by omega), if_neg (by omega), if_neg (by omega)]
  refine ⟨(fun ci => (hD ci).choose.1, fun ci => (hD ci).choose.2), ad, ?_, ?_, rfl⟩
  · refine ⟨fun w hw1 hg => word_at (State.WarmedH.refl s) hg (hts w hw1), fun q hq => va_Nw.of rfl (hw _ ?_), fun q hq => ?_, fun q hq => ?_, fun ci q hq => (hD ci).choose_spec q hq, fun q hq => ?_, fun q hq => ?_, va_AO.of (hw _ ?_), fun q hq => va_Nw.of rfl (hw _ ?_)⟩
    · unfold z_sws; exact List.mem_append_left _ (List.mem_map_of_mem hq)
    · obtain ⟨i, hi, rfl, hpos⟩ := z_sq_all q hq
      refine ⟨show (Cond.stringRef (z_sq i).1 (z_sq i).2.1 (z_sq i).2.2.1).before #[Value.ref b] s = true from hw _ ?_, ?_⟩
      · unfold z_sws; exact List.mem_append_right _ (List.mem_append_right _ (List.mem_append_left _ (List.mem_map_of_mem hq)))
      · rw [hpos, aK (i + 3) (by omega) (by omega)]
        have := (hS i hi).1
        rw [show i + 3 - 3 = i by omega]
        exact this
    · obtain ⟨a, c, cA, kA, q1, -⟩ := Cond.exactly_spec (args := #[Value.ref b]) (first := s) (o := none) (s := s) (idx := []) (t := .string q.1 q.2.1) (cls := "java/lang/String") (hs _ (z_m6 q hq))
      refine ⟨a, show (Cond.stringRef q.1 q.2.1 q.2.2).before #[Value.ref b] s = true from hw _ ?_, q1⟩
      unfold z_sws; exact List.mem_append_right _ (List.mem_append_left _ (List.mem_map_of_mem hq))
    · exact Cond.castable_spec (args := #[Value.ref b]) (first := s) (o := none) (s := s) (idx := []) (hw _ (by unfold z_sws; exact List.mem_append_right _ (List.mem_append_right _ (List.mem_append_right _ (List.mem_append_left _ (List.mem_map_of_mem hq))))))
    · exact va_Nc.of (hs _ (z_m8 q hq))
    · unfold z_sws; exact List.mem_append_right _ (List.mem_append_right _ (List.mem_append_right _ (List.mem_append_right _ (List.mem_append_right _ (List.mem_append_left _ List.mem_cons_self)))))
    · unfold z_sws; exact List.mem_append_right _ (List.mem_append_right _ (List.mem_append_right _ (List.mem_append_right _ (List.mem_append_left _ (List.mem_map_of_mem hq)))))
  · have hrs : ∀ (e : zEn), e.2.2 = [] → ∀ j r, e.2.2.getD j 0 = r + 2 → r < (z_YS z_T0 L).length := fun e he j r h => by
      rw [he] at h
      simp at h
    refine ⟨fun k e he => ?_, fun i j hi hi2 => ?_, Nat.le_refl _, ?_, ?_⟩
    · have hk51 : k < 51 := by
        have := (List.getElem?_eq_some_iff.mp he).1
        rw [zl_0] at this
        exact this
      rcases z_T0_at he with ⟨rfl, rfl⟩ | ⟨rfl, rfl⟩ | ⟨rfl, rfl⟩ | ⟨h1, h2, rfl⟩ | ⟨h1, h2, rfl⟩
      · refine ⟨z_CR10 ?_, fun _ _ => hbl, fun h => absurd (show 51 ≤ 0 from h) (by decide), hrs _ rfl, fun h => absurd (show (10 : Nat) = 15 from h) (by decide)⟩
        obtain ⟨scr, x1, x2, x3, x4, x5⟩ := hX
        exact ⟨scr, x1, x2, x3, Nat.le_of_eq x4.symm, by rw [x4], x5⟩
      · exact ⟨z_CR10 (z_Tarr hT1), fun _ _ => (Array.getElem?_eq_some_iff.mp hT1.choose_spec.1).1, fun h => absurd (show 51 ≤ 1 from h) (by decide), hrs _ rfl, fun h => absurd (show (10 : Nat) = 15 from h) (by decide)⟩
      · exact ⟨z_CR.v16 rfl, fun _ h => absurd rfl h, fun h => absurd (show 51 ≤ 2 from h) (by decide), hrs _ rfl, fun h => absurd (show (16 : Nat) = 15 from h) (by decide)⟩
      · obtain ⟨g1, g2, g3, g4, g5⟩ := hS (k - 3) (by omega)
        refine ⟨z_CR15 ?_, fun _ _ => ?_, fun h => absurd (show 51 ≤ k from h) (by omega), hrs _ rfl, fun _ => ?_⟩
        · rw [aK k h1 h2, aV (k + 24) (by omega), show k + 24 - 27 = k - 3 by omega]
          exact ⟨g2, g3, g4⟩
        · rw [aK k h1 h2]
          exact (Array.getElem?_eq_some_iff.mp g2.choose_spec.1).1
        · show k + 24 < (z_YS z_T0 L).length
          rw [zl_0]; omega
      · obtain ⟨g1, g2, g3, g4, g5⟩ := hS (k - 27) (by omega)
        refine ⟨z_CR11 ?_, fun _ _ => ?_, fun h => absurd (show 51 ≤ k from h) (by omega), hrs _ rfl, fun h => absurd (show (11 : Nat) = 15 from h) (by decide)⟩
        · rw [aV k h1]
          refine (z_Tarr g5).to (fun j hj => ?_)
          show Value.int ((z_sby.getD (k - 27) []).getD j 0) = Value.int (if k = 0 then xs j else if k = 1 then z_spr.getD j 0 else (z_sby.getD (k - 27) []).getD j 0)
          rw [if_neg (by omega), if_neg (by omega)]
        · rw [aV k h1]
          exact (Array.getElem?_eq_some_iff.mp g5.choose_spec.1).1
    · exact absurd (show 51 ≤ i from hi) (by have : i < (z_YS z_T0 L).length := hi2; rw [zl_0] at this; omega)
    · show 51 ≤ (z_YS z_T0 L).length
      rw [zl_0]
      exact Nat.le_refl _
    · exact ⟨hZ1, hZ2, hZ3, hZ4, hZ5⟩
