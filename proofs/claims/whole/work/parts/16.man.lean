/-! ===== methods that are walked by hand, over any memory ===== -/
def z_at (M : zMM) (r N : Nat) (i : Int32) : Int32 := if i < 0 then -1 else if nI N ≤ i then -1 else M r i.toNatClampNeg
def z_pt (M : zMM) (r N : Nat) (i v : Int32) : zMM := if i < 0 then M else if nI N ≤ i then M else z_up M r i.toNatClampNeg v
def z_fl (M : zMM) (r j N : Nat) (v : Int32) : zMM := fun a b => if a = r then (if j ≤ b ∧ b < N then v else M a b) else M a b
def z_th (M : zMM) (r j K : Nat) : zMM := fun a b => if a = r then (if j ≤ b ∧ b < K then M a (K + b) else M a b) else M a b
def z_cj (M : zMM) (s r j N : Nat) : zMM := fun a b => if a = r then (if j ≤ b ∧ b < N then M s b else M a b) else M a b
def z_min (x y : Int32) : Int32 := if y < x then y else x
def z_max (x y : Int32) : Int32 := if x < y then y else x
def z_ch (v : Int32) : Int32 := ((v &&& 255).toUInt32 % 65536).toInt32
theorem z_ch_n (v : Int32) : narrow .char (.int (z_ch v)) = .int (z_ch v) := by
  have e : (z_ch v).toUInt32.toUInt16.toUInt32 = (z_ch v).toUInt32 := by
    apply UInt32.toNat_inj.mp
    simp [z_ch]
  show Value.int ((z_ch v).toUInt32.toUInt16.toUInt32.toInt32) = _
  rw [e]
  simp
theorem z_in_of {i : Int32} {N : Nat} (hN : N < 2 ^ 31) (h0 : ¬ i < 0) (h1 : ¬ nI N ≤ i) : vp_in i N := by
  obtain ⟨j, hj, rfl⟩ := nI_of h0
  intro z
  rcases z with z | z
  · exact h0 z
  · rw [nI_clamp hj] at z
    exact h1 (nI_le z hj)
section ZM
variable {l : Launch} {d : Nat} {h : zHP}
theorem A_X7_at (hl : l.stackTraces = false) {r N : Nat} {rs : List Nat} {x : Int32} (hN : N < 2 ^ 31) (he : h.1[r]? = some (10, N, rs)) : z_Ct l mX7_at d 0 0 [.ref r, .int x] h (.inl (some (.int (z_at h.2.1 r N x)))) h := by
  refine z_Ct.of hl (by decide) (Nat.le_of_ble_eq_true rfl) rfl ?_
  show z_AW l mX7_at d 0 0 0 [.ref r, .int x] [] h (.inl (some (.int (z_at h.2.1 r N x)))) h
  refine z_iload_n dX7_at_0 rfl ?_
  refine z_if_lt (tgt := 16) dX7_at_1 rfl (fun g => ?_) (fun g => ?_)
  · have e : z_at h.2.1 r N x = -1 := if_pos g
    rw [e]
    refine z_ic (v := -1) rfl dX7_at_16 ?_
    exact z_rI dX7_at_17 rfl
  · refine z_iload_n dX7_at_4 rfl ?_
    refine z_aload_n dX7_at_5 rfl ?_
    refine z_al9 dX7_at_6 he (by decide) rfl ?_
    refine z_icmp_ge (tgt := 16) dX7_at_7 rfl (fun g1 => ?_) (fun g1 => ?_)
    · have e : z_at h.2.1 r N x = -1 := (if_neg g).trans (if_pos g1)
      rw [e]
      refine z_ic (v := -1) rfl dX7_at_16 ?_
      exact z_rI dX7_at_17 rfl
    · have e : z_at h.2.1 r N x = h.2.1 r x.toNatClampNeg := (if_neg g).trans (if_neg g1)
      rw [e]
      refine z_aload_n dX7_at_10 rfl ?_
      refine z_iload_n dX7_at_11 rfl ?_
      refine z_al dX7_at_12 he rfl (z_in_of hN g g1) rfl ?_
      refine z_goto (tgt := 17) dX7_at_13 rfl ?_
      exact z_rI dX7_at_17 rfl
theorem A_X7_put (hl : l.stackTraces = false) {r N : Nat} {rs : List Nat} {x y : Int32} (hr : z_nS ≤ r) (hN : N < 2 ^ 31) (he : h.1[r]? = some (10, N, rs)) : z_Ct l mX7_put d 0 0 [.ref r, .int x, .int y] h (.inl none) (h.1, z_pt h.2.1 r N x y, h.2.2) := by
  refine z_Ct.of hl (by decide) (Nat.le_of_ble_eq_true rfl) rfl ?_
  show z_AW l mX7_put d 0 0 0 [.ref r, .int x, .int y] [] h (.inl none) (h.1, z_pt h.2.1 r N x y, h.2.2)
  refine z_iload_n dX7_put_0 rfl ?_
  refine z_if_lt (tgt := 14) dX7_put_1 rfl (fun g => ?_) (fun g => ?_)
  · have e : z_pt h.2.1 r N x y = h.2.1 := if_pos g
    rw [e]
    exact z_return dX7_put_14 rfl
  · refine z_iload_n dX7_put_4 rfl ?_
    refine z_aload_n dX7_put_5 rfl ?_
    refine z_al9 dX7_put_6 he (by decide) rfl ?_
    refine z_icmp_ge (tgt := 14) dX7_put_7 rfl (fun g1 => ?_) (fun g1 => ?_)
    · have e : z_pt h.2.1 r N x y = h.2.1 := (if_neg g).trans (if_pos g1)
      rw [e]
      exact z_return dX7_put_14 rfl
    · have e : z_pt h.2.1 r N x y = z_up h.2.1 r x.toNatClampNeg y := (if_neg g).trans (if_neg g1)
      rw [e]
      refine z_aload_n dX7_put_10 rfl ?_
      refine z_iload_n dX7_put_11 rfl ?_
      refine z_iload_n dX7_put_12 rfl ?_
      refine z_as dX7_put_13 hr he rfl (z_in_of hN g g1) ?_
      exact z_return dX7_put_14 rfl
theorem z_mmin {mt : zMt} {bc bs pc idx : Nat} {ls st : List Value} {h' : zHP} {o : zO} {x y : Int32} (hL : z_LS mt.1.cls idx mJ9_min_7cf53 2) (hd : decode mt.2.1 pc = .ok (.invokestatic idx, 3)) (hw : (st.map fun v => v.category).sum ≤ 20) (hdd : 1 ≤ d) (k : z_AW l mt d bc bs (pc + 3) ls (.int (z_min x y) :: st) h o h') : z_AW l mt d bc bs pc ls (.int y :: .int x :: st) h o h' := by
  intro sz0 D ad p e R s m args below meth c H locs cells slots MC MS lsA Qc XC hY hE
  have kk := k sz0 D ad p e R s m args below meth c H locs cells slots MC MS lsA Qc XC hY hE
  obtain ⟨hC, h1, h2, h3, h4, h5, h6⟩ := hY
  have hR := hC.2.2.2.2.2.2.2.2.2
  refine va_mmin hC.2.1 hC.2.2.1 (hC.2.2.2.1.trans h6.1.symm) hC.2.2.2.2.2.1 (h4.w hL.1 (by exact List.mem_cons_self)) (h4.w hL.1 (by exact List.mem_cons_of_mem _ List.mem_cons_self)) (h4.w hL.2.1 (by exact List.mem_cons_of_mem _ List.mem_cons_self)) (h4.w hL.2.1 (by exact List.mem_cons_self)) (by rw [hR]; exact hdd) ?_ (by rw [hR]; show cells ≤ MC; omega) (by rw [hR]; show slots ≤ MS; omega) hd kk
  rw [hR]
  have := z_room (pc := pc) (ad := ad) (m := m) (lsA := lsA) (stk := []) hw
  show _ + 13 ≤ 64 * d
  omega
theorem z_mmax {mt : zMt} {bc bs pc idx : Nat} {ls st : List Value} {h' : zHP} {o : zO} {x y : Int32} (hL : z_LS mt.1.cls idx mJ9_max_7cf53 2) (hd : decode mt.2.1 pc = .ok (.invokestatic idx, 3)) (hw : (st.map fun v => v.category).sum ≤ 20) (hdd : 1 ≤ d) (k : z_AW l mt d bc bs (pc + 3) ls (.int (z_max x y) :: st) h o h') : z_AW l mt d bc bs pc ls (.int y :: .int x :: st) h o h' := by
  intro sz0 D ad p e R s m args below meth c H locs cells slots MC MS lsA Qc XC hY hE
  have kk := k sz0 D ad p e R s m args below meth c H locs cells slots MC MS lsA Qc XC hY hE
  obtain ⟨hC, h1, h2, h3, h4, h5, h6⟩ := hY
  have hR := hC.2.2.2.2.2.2.2.2.2
  refine va_mmax hC.2.1 hC.2.2.1 (hC.2.2.2.1.trans h6.1.symm) hC.2.2.2.2.2.1 (h4.w hL.1 (by exact List.mem_cons_self)) (h4.w hL.1 (by exact List.mem_cons_of_mem _ List.mem_cons_self)) (h4.w hL.2.1 (by exact List.mem_cons_of_mem _ List.mem_cons_self)) (h4.w hL.2.1 (by exact List.mem_cons_self)) (by rw [hR]; exact hdd) ?_ (by rw [hR]; show cells ≤ MC; omega) (by rw [hR]; show slots ≤ MS; omega) hd kk
  rw [hR]
  have := z_room (pc := pc) (ad := ad) (m := m) (lsA := lsA) (stk := []) hw
  show _ + 13 ≤ 64 * d
  omega
theorem z_fl_end {M : zMM} {r N : Nat} {v : Int32} : z_fl M r N N v = M := by
  funext a b
  simp only [z_fl]
  split
  · rw [if_neg (by omega)]
  · rfl
theorem z_fl_up {M : zMM} {r j N : Nat} {v : Int32} (hj : j < N) : z_fl (z_up M r j v) r (j + 1) N v = z_fl M r j N v := by
  funext a b
  simp only [z_fl, z_up]
  by_cases ha : a = r
  · simp only [ha, if_true]
    by_cases hb : b = j
    · subst hb; rw [if_neg (by omega), if_pos rfl, if_pos (by omega)]
    · by_cases hc : j ≤ b ∧ b < N
      · rw [if_pos (by omega), if_pos hc]
      · rw [if_neg (by omega), if_neg hb, if_neg hc]
  · simp [ha]
theorem z_fillL {L : List zEn} {Lm : zML} {r N : Nat} {rs : List Nat} {v : Int32} (hr : z_nS ≤ r) (hN : N < 2 ^ 31) (he : L[r]? = some (10, N, rs)) : ∀ (k j : Nat) (M : zMM), j + k = N → z_AW l mJ7_fill_53178 d 0 0 5 [.ref r, .int v, .int (nI j), .int (nI N)] [] (L, M, Lm) (.inl none) (L, z_fl M r j N v, Lm) := by
  intro k
  induction k with
  | zero =>
    intro j M hj
    have hj' : j = N := by omega
    subst hj'
    rw [z_fl_end]
    refine z_iload_n dJ7_fill_53178_5 rfl ?_
    refine z_iload_n dJ7_fill_53178_6 rfl ?_
    refine z_icmp_ge (tgt := 20) dJ7_fill_53178_7 rfl (fun g => ?_) (fun g => ?_)
    · exact z_return dJ7_fill_53178_20 rfl
    · exact absurd (nI_le (Nat.le_refl _) hN) g
  | succ k ih =>
    intro j M hj
    have hjN : j < N := by omega
    refine z_iload_n dJ7_fill_53178_5 rfl ?_
    refine z_iload_n dJ7_fill_53178_6 rfl ?_
    refine z_icmp_ge (tgt := 20) dJ7_fill_53178_7 rfl (fun g => ?_) (fun g => ?_)
    · exact absurd g (nI_ge hjN hN)
    · refine z_aload_n dJ7_fill_53178_10 rfl ?_
      refine z_iload_n dJ7_fill_53178_11 rfl ?_
      refine z_iload_n dJ7_fill_53178_12 rfl ?_
      refine z_as dJ7_fill_53178_13 hr he (nI_clamp (by omega)) (nI_in hjN hN) ?_
      refine z_ii (ls' := [.ref r, .int v, .int (nI (j + 1)), .int (nI N)]) (y := 1) rfl dJ7_fill_53178_14 rfl (by decide) (by rw [nI_succ]; rfl) ?_
      refine z_goto (tgt := 5) dJ7_fill_53178_17 rfl ?_
      have := ih (j + 1) (z_up M r j v) (by omega)
      rw [z_fl_up hjN] at this
      exact this
theorem A_J7_fill_53178 (hl : l.stackTraces = false) {r N : Nat} {rs : List Nat} {v : Int32} (hr : z_nS ≤ r) (hN : N < 2 ^ 31) (he : h.1[r]? = some (10, N, rs)) : z_Ct l mJ7_fill_53178 d 0 0 [.ref r, .int v] h (.inl none) (h.1, z_fl h.2.1 r 0 N v, h.2.2) := by
  refine z_Ct.of hl (by decide) (Nat.le_of_ble_eq_true rfl) rfl ?_
  show z_AW l mJ7_fill_53178 d 0 0 0 [.ref r, .int v, .null, .null] [] h (.inl none) (h.1, z_fl h.2.1 r 0 N v, h.2.2)
  refine z_ic (v := nI 0) rfl dJ7_fill_53178_0 ?_
  refine z_istore_n (ls' := [.ref r, .int v, .int (nI 0), .null]) dJ7_fill_53178_1 (by decide) rfl ?_
  refine z_aload_n dJ7_fill_53178_2 rfl ?_
  refine z_al9 dJ7_fill_53178_3 he (by decide) rfl ?_
  refine z_istore_n (ls' := [.ref r, .int v, .int (nI 0), .int (nI N)]) dJ7_fill_53178_4 (by decide) rfl ?_
  exact z_fillL hr hN he N 0 h.2.1 (by omega)
theorem z_th_end {M : zMM} {r K : Nat} : z_th M r K K = M := by
  funext a b
  simp only [z_th]
  split
  · rw [if_neg (by omega)]
  · rfl
theorem z_th_up {M : zMM} {r j K : Nat} (hj : j < K) : z_th (z_up M r j (M r (K + j))) r (j + 1) K = z_th M r j K := by
  funext a b
  simp only [z_th, z_up]
  by_cases ha : a = r
  · subst ha
    simp only [if_true]
    by_cases hb : b = j
    · subst hb; rw [if_neg (by omega), if_pos rfl, if_pos (by omega)]
    · by_cases hc : j ≤ b ∧ b < K
      · rw [if_pos (by omega), if_neg (by omega), if_pos hc]
      · rw [if_neg (by omega), if_neg hb, if_neg hc]
  · simp [ha]
theorem z_halfL {L : List zEn} {Lm : zML} {r N K : Nat} {rs : List Nat} (hr : z_nS ≤ r) (hN : N < 2 ^ 31) (hK : nI N / 2 = nI K) (hKN : K + K ≤ N) (he : L[r]? = some (10, N, rs)) : ∀ (k j : Nat) (M : zMM), j + k = K → z_AW l mX8_takeHalf d 0 0 2 [.ref r, .int (nI j)] [] (L, M, Lm) (.inl none) (L, z_th M r j K, Lm) := by
  intro k
  induction k with
  | zero =>
    intro j M hj
    have hj' : j = K := by omega
    subst hj'
    rw [z_th_end]
    refine z_iload_n dX8_takeHalf_2 rfl ?_
    refine z_aload_n dX8_takeHalf_3 rfl ?_
    refine z_al9 dX8_takeHalf_4 he (by decide) rfl ?_
    refine z_ic (v := 2) rfl dX8_takeHalf_5 ?_
    refine z_idiv dX8_takeHalf_6 (by decide) ?_
    rw [hK]
    refine z_icmp_ge (tgt := 27) dX8_takeHalf_7 rfl (fun g => ?_) (fun g => ?_)
    · exact z_return dX8_takeHalf_27 rfl
    · exact absurd (nI_le (Nat.le_refl _) (by omega)) g
  | succ k ih =>
    intro j M hj
    have hjN : j < K := by omega
    refine z_iload_n dX8_takeHalf_2 rfl ?_
    refine z_aload_n dX8_takeHalf_3 rfl ?_
    refine z_al9 dX8_takeHalf_4 he (by decide) rfl ?_
    refine z_ic (v := 2) rfl dX8_takeHalf_5 ?_
    refine z_idiv dX8_takeHalf_6 (by decide) ?_
    rw [hK]
    refine z_icmp_ge (tgt := 27) dX8_takeHalf_7 rfl (fun g => ?_) (fun g => ?_)
    · exact absurd g (nI_ge hjN (by omega))
    · refine z_aload_n dX8_takeHalf_10 rfl ?_
      refine z_iload_n dX8_takeHalf_11 rfl ?_
      refine z_aload_n dX8_takeHalf_12 rfl ?_
      refine z_aload_n dX8_takeHalf_13 rfl ?_
      refine z_al9 dX8_takeHalf_14 he (by decide) rfl ?_
      refine z_ic (v := 2) rfl dX8_takeHalf_15 ?_
      refine z_idiv dX8_takeHalf_16 (by decide) ?_
      rw [hK]
      refine z_iload_n dX8_takeHalf_17 rfl ?_
      refine z_iadd dX8_takeHalf_18 ?_
      rw [nI_add]
      refine z_al dX8_takeHalf_19 he (nI_clamp (by omega)) (nI_in (by omega) hN) rfl ?_
      refine z_as dX8_takeHalf_20 hr he (nI_clamp (by omega)) (nI_in (by omega) hN) ?_
      refine z_ii (ls' := [.ref r, .int (nI (j + 1))]) (y := 1) rfl dX8_takeHalf_21 rfl (by decide) (by rw [nI_succ]; rfl) ?_
      refine z_goto (tgt := 2) dX8_takeHalf_24 rfl ?_
      have := ih (j + 1) (z_up M r j (M r (K + j))) (by omega)
      rw [z_th_up hjN] at this
      exact this
theorem A_X8_takeHalf (hl : l.stackTraces = false) {r N K : Nat} {rs : List Nat} (hr : z_nS ≤ r) (hN : N < 2 ^ 31) (hK : nI N / 2 = nI K) (hKN : K + K ≤ N) (he : h.1[r]? = some (10, N, rs)) : z_Ct l mX8_takeHalf d 0 0 [.ref r] h (.inl none) (h.1, z_th h.2.1 r 0 K, h.2.2) := by
  refine z_Ct.of hl (by decide) (Nat.le_of_ble_eq_true rfl) rfl ?_
  show z_AW l mX8_takeHalf d 0 0 0 [.ref r, .null] [] h (.inl none) (h.1, z_th h.2.1 r 0 K, h.2.2)
  refine z_ic (v := nI 0) rfl dX8_takeHalf_0 ?_
  refine z_istore_n (ls' := [.ref r, .int (nI 0)]) dX8_takeHalf_1 (by decide) rfl ?_
  exact z_halfL hr hN hK hKN he K 0 h.2.1 (by omega)
theorem z_cj_end {M : zMM} {s r N : Nat} : z_cj M s r N N = M := by
  funext a b
  simp only [z_cj]
  split
  · rw [if_neg (by omega)]
  · rfl
theorem z_cj_up {M : zMM} {s r j N : Nat} (hj : j < N) : z_cj (z_up M r j (M s j)) s r (j + 1) N = z_cj M s r j N := by
  funext a b
  simp only [z_cj, z_up]
  by_cases ha : a = r
  · subst ha
    simp only [if_true]
    by_cases hb : b = j
    · subst hb; rw [if_neg (by omega), if_pos rfl, if_pos (by omega)]
    · by_cases hc : j ≤ b ∧ b < N
      · rw [if_pos (by omega), if_neg hb, if_pos hc]; simp
      · rw [if_neg (by omega), if_neg hb, if_neg hc]
  · simp [ha]
theorem z_cj_cp (M : zMM) (s r N : Nat) : z_cj M s r 0 N = z_cp M s r N := by
  funext a b
  simp [z_cj, z_cp]
theorem z_beL {L : List zEn} {Lm : zML} {r s N Ns : Nat} {rs rt : List Nat} (hr : z_nS ≤ r) (hN : N < 2 ^ 31) (hNs : Ns < 2 ^ 31) (hle : N ≤ Ns) (he : L[r]? = some (10, N, rs)) (hs : L[s]? = some (10, Ns, rt)) : ∀ (k j : Nat) (M : zMM), j + k = N → z_AW l mX8_be d 0 0 2 [.ref r, .ref s, .int (nI j)] [] (L, M, Lm) (.inl none) (L, z_cj M s r j N, Lm) := by
  intro k
  induction k with
  | zero =>
    intro j M hj
    have hj' : j = N := by omega
    subst hj'
    rw [z_cj_end]
    refine z_iload_n dX8_be_2 rfl ?_
    refine z_aload_n dX8_be_3 rfl ?_
    refine z_al9 dX8_be_4 he (by decide) rfl ?_
    refine z_icmp_ge (tgt := 20) dX8_be_5 rfl (fun g => ?_) (fun g => ?_)
    · exact z_return dX8_be_20 rfl
    · exact absurd (nI_le (Nat.le_refl _) hN) g
  | succ k ih =>
    intro j M hj
    have hjN : j < N := by omega
    refine z_iload_n dX8_be_2 rfl ?_
    refine z_aload_n dX8_be_3 rfl ?_
    refine z_al9 dX8_be_4 he (by decide) rfl ?_
    refine z_icmp_ge (tgt := 20) dX8_be_5 rfl (fun g => ?_) (fun g => ?_)
    · exact absurd g (nI_ge hjN hN)
    · refine z_aload_n dX8_be_8 rfl ?_
      refine z_iload_n dX8_be_9 rfl ?_
      refine z_aload_n dX8_be_10 rfl ?_
      refine z_iload_n dX8_be_11 rfl ?_
      refine z_al dX8_be_12 hs (nI_clamp (by omega)) (nI_in (by omega) hNs) rfl ?_
      refine z_as dX8_be_13 hr he (nI_clamp (by omega)) (nI_in hjN hN) ?_
      refine z_ii (ls' := [.ref r, .ref s, .int (nI (j + 1))]) (y := 1) rfl dX8_be_14 rfl (by decide) (by rw [nI_succ]; rfl) ?_
      refine z_goto (tgt := 2) dX8_be_17 rfl ?_
      have := ih (j + 1) (z_up M r j (M s j)) (by omega)
      rw [z_cj_up hjN] at this
      exact this
theorem A_X8_be (hl : l.stackTraces = false) {r s N Ns : Nat} {rs rt : List Nat} (hr : z_nS ≤ r) (hN : N < 2 ^ 31) (hNs : Ns < 2 ^ 31) (hle : N ≤ Ns) (he : h.1[r]? = some (10, N, rs)) (hs : h.1[s]? = some (10, Ns, rt)) : z_Ct l mX8_be d 0 0 [.ref r, .ref s] h (.inl none) (h.1, z_cp h.2.1 s r N, h.2.2) := by
  refine z_Ct.of hl (by decide) (Nat.le_of_ble_eq_true rfl) rfl ?_
  rw [← z_cj_cp]
  show z_AW l mX8_be d 0 0 0 [.ref r, .ref s, .null] [] h (.inl none) (h.1, z_cj h.2.1 s r 0 N, h.2.2)
  refine z_ic (v := nI 0) rfl dX8_be_0 ?_
  refine z_istore_n (ls' := [.ref r, .ref s, .int (nI 0)]) dX8_be_1 (by decide) rfl ?_
  exact z_beL hr hN hNs hle he hs N 0 h.2.1 (by omega)
theorem A_X7_copy (hl : l.stackTraces = false) {a b Na Nb n : Nat} {ra rb : List Nat} (hb : z_nS ≤ b) (hea : h.1[a]? = some (10, Na, ra)) (heb : h.1[b]? = some (10, Nb, rb)) (hna : n ≤ Na) (hnb : n ≤ Nb) (hn : n < 2 ^ 31) (hm : z_min (nI Na) (nI Nb) = nI n) : z_Ct l mX7_copy (d + 1) 0 0 [.ref a, .ref b] h (.inl none) (h.1, z_cp h.2.1 a b n, h.2.2) := by
  refine z_Ct.of hl (by decide) (Nat.le_of_ble_eq_true rfl) rfl ?_
  show z_AW l mX7_copy (d + 1) 0 0 0 [.ref a, .ref b] [] h (.inl none) (h.1, z_cp h.2.1 a b n, h.2.2)
  refine z_aload_n dX7_copy_0 rfl ?_
  refine z_ic (v := 0) rfl dX7_copy_1 ?_
  refine z_aload_n dX7_copy_2 rfl ?_
  refine z_ic (v := 0) rfl dX7_copy_3 ?_
  refine z_aload_n dX7_copy_4 rfl ?_
  refine z_al9 dX7_copy_5 hea (by decide) rfl ?_
  refine z_aload_n dX7_copy_6 rfl ?_
  refine z_al9 dX7_copy_7 heb (by decide) rfl ?_
  refine z_mmin lk_X7_346 dX7_copy_8 (Nat.le_of_ble_eq_true rfl) (by omega) ?_
  rw [hm]
  refine z_copy ac_X7_351 dX7_copy_11 hb hea heb hna hnb hn (Nat.le_of_ble_eq_true rfl) (by omega) ?_
  exact z_return dX7_copy_14 rfl
/-! strings -/
theorem A_J0_coder_7d493 (hl : l.stackTraces = false) {s w : Nat} {rs : List Nat} (he : h.1[s]? = some (15, w, rs)) : z_Ct l mJ0_coder_7d493 d 0 0 [.ref s] h (.inl (some (.int 0))) h := by
  refine z_Ct.of hl (by decide) (Nat.le_of_ble_eq_true rfl) rfl ?_
  show z_AW l mJ0_coder_7d493 d 0 0 0 [.ref s] [] h (.inl (some (.int 0))) h
  refine z_getsC ks_J0_38 dJ0_coder_7d493_0 ?_
  refine z_if_eq (tgt := 13) dJ0_coder_7d493_3 rfl (fun g => absurd g (by decide)) (fun g => ?_)
  refine z_aload_n dJ0_coder_7d493_6 rfl ?_
  refine z_getSC ks_J0_15 dJ0_coder_7d493_7 he ?_
  refine z_goto (tgt := 14) dJ0_coder_7d493_10 rfl ?_
  exact z_ireturn dJ0_coder_7d493_14 ⟨.byte, rfl, rfl⟩
theorem A_J0_isLatin1_aae02 (hl : l.stackTraces = false) {s w : Nat} {rs : List Nat} (he : h.1[s]? = some (15, w, rs)) : z_Ct l mJ0_isLatin1_aae02 d 0 0 [.ref s] h (.inl (some (.int 1))) h := by
  refine z_Ct.of hl (by decide) (Nat.le_of_ble_eq_true rfl) rfl ?_
  show z_AW l mJ0_isLatin1_aae02 d 0 0 0 [.ref s] [] h (.inl (some (.int 1))) h
  refine z_getsC ks_J0_38 dJ0_isLatin1_aae02_0 ?_
  refine z_if_eq (tgt := 17) dJ0_isLatin1_aae02_3 rfl (fun g => absurd g (by decide)) (fun g => ?_)
  refine z_aload_n dJ0_isLatin1_aae02_6 rfl ?_
  refine z_getSC ks_J0_15 dJ0_isLatin1_aae02_7 he ?_
  refine z_if_ne (tgt := 17) dJ0_isLatin1_aae02_10 rfl (fun g => ?_) (fun g => absurd rfl g)
  refine z_ic (v := 1) rfl dJ0_isLatin1_aae02_13 ?_
  refine z_goto (tgt := 18) dJ0_isLatin1_aae02_14 rfl ?_
  exact z_rZ dJ0_isLatin1_aae02_18 rfl rfl
theorem A_J0_length_8abf5 (hl : l.stackTraces = false) {s w N : Nat} {rs rt : List Nat} {v : Int32} (he : h.1[s]? = some (15, w, rs)) (hw : h.1[w]? = some (11, N, rt)) (hv : nI N >>> ((0 : Int32) &&& 31) = v) (hrb : z_rbB [.ref s] h.1.length = true) : z_Ct l mJ0_length_8abf5 (d + 1) 0 0 [.ref s] h (.inl (some (.int v))) h := by
  refine z_Ct.of hl (by decide) (Nat.le_of_ble_eq_true rfl) rfl ?_
  show z_AW l mJ0_length_8abf5 (d + 1) 0 0 0 [.ref s] [] h (.inl (some (.int v))) h
  refine z_aload_n dJ0_length_8abf5_0 rfl ?_
  refine z_getSV ks_J0_9 dJ0_length_8abf5_1 he ?_
  refine z_al9 dJ0_length_8abf5_4 hw (by decide) rfl ?_
  refine z_aload_n dJ0_length_8abf5_5 rfl ?_
  refine z_cQ (av := []) (st := [.int (nI N)]) lk_J0_335 rfl dJ0_length_8abf5_6 (A_J0_coder_7d493 hl he) rfl rfl he (Nat.le_of_ble_eq_true rfl) rfl rfl (by
    simp only [z_rbB, List.all_cons, List.all_nil, List.cons_append, List.nil_append, Bool.and_true, Bool.true_and] at hrb ⊢
    exact hrb) rfl ?_
  refine z_ishr dJ0_length_8abf5_9 ?_
  rw [hv]
  exact z_rI dJ0_length_8abf5_10 rfl
theorem A_J3_checkIndex_8e157 (hl : l.stackTraces = false) {x y : Int32} {f : Value} (hf : f = .null ∨ f = .ref 2) (h0 : ¬ x < 0) (h1 : x < y) : z_Ct l mJ3_checkIndex_8e157 d 0 0 [.int x, .int y, f] h (.inl (some (.int x))) h := by
  rcases hf with rfl | rfl
  all_goals
    refine z_Ct.of hl (by decide) (Nat.le_of_ble_eq_true rfl) rfl ?_
    refine z_iload_n (x := x) dJ3_checkIndex_8e157_0 rfl ?_
    refine z_if_lt (tgt := 9) dJ3_checkIndex_8e157_1 rfl (fun g => absurd g h0) (fun g => ?_)
    refine z_iload_n (x := x) dJ3_checkIndex_8e157_4 rfl ?_
    refine z_iload_n (x := y) dJ3_checkIndex_8e157_5 rfl ?_
    refine z_icmp_lt (tgt := 16) dJ3_checkIndex_8e157_6 rfl (fun g => ?_) (fun g => absurd h1 g)
    refine z_iload_n (x := x) dJ3_checkIndex_8e157_16 rfl ?_
    exact z_rI dJ3_checkIndex_8e157_17 rfl
theorem A_J0_checkIndex_df160 (hl : l.stackTraces = false) {x y : Int32} (h0 : ¬ x < 0) (h1 : x < y) : z_Ct l mJ0_checkIndex_df160 (d + 1) 0 0 [.int x, .int y] h (.inl none) h := by
  refine z_Ct.of hl (by decide) (Nat.le_of_ble_eq_true rfl) rfl ?_
  show z_AW l mJ0_checkIndex_df160 (d + 1) 0 0 0 [.int x, .int y] [] h (.inl none) h
  refine z_iload_n dJ0_checkIndex_df160_0 rfl ?_
  refine z_iload_n dJ0_checkIndex_df160_1 rfl ?_
  refine z_getsP ks_J0_1053 dJ0_checkIndex_df160_2 ?_ ?_
  · refine z_cS (av := [.int x, .int y, .ref 2]) (st := []) lk_J0_1059 dJ0_checkIndex_df160_5 (A_J3_checkIndex_8e157 hl (Or.inr rfl) h0 h1) rfl rfl (by decide) rfl rfl rfl rfl ?_
    refine z_pop dJ0_checkIndex_df160_8 rfl ?_
    exact z_return dJ0_checkIndex_df160_9 rfl
  · refine z_cS (av := [.int x, .int y, .null]) (st := []) lk_J0_1059 dJ0_checkIndex_df160_5 (A_J3_checkIndex_8e157 hl (Or.inl rfl) h0 h1) rfl rfl (by decide) rfl rfl rfl rfl ?_
    refine z_pop dJ0_checkIndex_df160_8 rfl ?_
    exact z_return dJ0_checkIndex_df160_9 rfl
theorem A_J1_charAt_3b067 (hl : l.stackTraces = false) {w N : Nat} {rt : List Nat} {x : Int32} (hN : N < 2 ^ 31) (hw : h.1[w]? = some (11, N, rt)) (hin : vp_in x N) (hrb : z_rbB [.ref w] h.1.length = true) : z_Ct l mJ1_charAt_3b067 (d + 2) 0 0 [.ref w, .int x] h (.inl (some (.int (z_ch (h.2.1 w x.toNatClampNeg))))) h := by
  have h0 : ¬ x < 0 := fun g => hin (Or.inl g)
  have h1 : x < nI N := by
    obtain ⟨j, hj, rfl⟩ := nI_of h0
    have : ¬ N ≤ (nI j).toNatClampNeg := fun g => hin (Or.inr g)
    rw [nI_clamp hj] at this
    exact nI_lt (by omega) hN
  refine z_Ct.of hl (by decide) (Nat.le_of_ble_eq_true rfl) rfl ?_
  show z_AW l mJ1_charAt_3b067 (d + 1 + 1) 0 0 0 [.ref w, .int x] [] h (.inl (some (.int (z_ch (h.2.1 w x.toNatClampNeg))))) h
  refine z_iload_n dJ1_charAt_3b067_0 rfl ?_
  refine z_aload_n dJ1_charAt_3b067_1 rfl ?_
  refine z_al9 dJ1_charAt_3b067_2 hw (by decide) rfl ?_
  refine z_cS (av := [.int x, .int (nI N)]) (st := []) lk_J1_9 dJ1_charAt_3b067_3 (A_J0_checkIndex_df160 (d := d) hl h0 h1) rfl rfl (by decide) rfl rfl (by
    simp only [z_rbB, List.all_cons, List.all_nil, List.cons_append, List.nil_append, Bool.and_true, Bool.true_and] at hrb ⊢
    exact hrb) rfl ?_
  refine z_aload_n dJ1_charAt_3b067_6 rfl ?_
  refine z_iload_n dJ1_charAt_3b067_7 rfl ?_
  refine z_bl dJ1_charAt_3b067_8 hw rfl hin rfl ?_
  refine z_sp (v := 255) rfl dJ1_charAt_3b067_9 ?_
  refine z_iand dJ1_charAt_3b067_12 ?_
  refine z_i2c dJ1_charAt_3b067_13 ?_
  exact z_ireturn dJ1_charAt_3b067_14 ⟨.char, rfl, z_ch_n _⟩
theorem A_J0_charAt_5068e (hl : l.stackTraces = false) {s w N : Nat} {rs rt : List Nat} {x : Int32} (hN : N < 2 ^ 31) (he : h.1[s]? = some (15, w, rs)) (hw : h.1[w]? = some (11, N, rt)) (hin : vp_in x N) (hrb : z_rbB [.ref s, .ref w] h.1.length = true) : z_Ct l mJ0_charAt_5068e (d + 3) 0 0 [.ref s, .int x] h (.inl (some (.int (z_ch (h.2.1 w x.toNatClampNeg))))) h := by
  have hr1 : z_rbB [.ref s] h.1.length = true := by
    simp only [z_rbB, List.all_cons, List.all_nil, Bool.and_true, Bool.and_eq_true] at hrb ⊢
    exact hrb.1
  have hr2 : z_rbB [.ref w] h.1.length = true := by
    simp only [z_rbB, List.all_cons, List.all_nil, Bool.and_true, Bool.and_eq_true] at hrb ⊢
    exact hrb.2
  refine z_Ct.of hl (by decide) (Nat.le_of_ble_eq_true rfl) rfl ?_
  show z_AW l mJ0_charAt_5068e (d + 2 + 1) 0 0 0 [.ref s, .int x] [] h (.inl (some (.int (z_ch (h.2.1 w x.toNatClampNeg))))) h
  refine z_aload_n dJ0_charAt_5068e_0 rfl ?_
  refine z_cQ (av := []) (st := []) lk_J0_492 rfl dJ0_charAt_5068e_1 (A_J0_isLatin1_aae02 hl he) rfl rfl he (by decide) rfl rfl (by
    simp only [z_rbB, List.all_cons, List.all_nil, List.cons_append, List.nil_append, Bool.and_true, Bool.true_and] at hr1 ⊢
    exact hr1) rfl ?_
  refine z_if_eq (tgt := 16) dJ0_charAt_5068e_4 rfl (fun g => absurd g (by decide)) (fun g => ?_)
  refine z_aload_n dJ0_charAt_5068e_7 rfl ?_
  refine z_getSV ks_J0_9 dJ0_charAt_5068e_8 he ?_
  refine z_iload_n dJ0_charAt_5068e_11 rfl ?_
  refine z_cS (av := [.ref w, .int x]) (st := []) lk_J0_495 dJ0_charAt_5068e_12 (A_J1_charAt_3b067 (d := d) hl hN hw hin hr2) rfl rfl (by decide) rfl rfl (by
    simp only [z_rbB, List.all_cons, List.all_nil, List.cons_append, List.nil_append, Bool.and_true, Bool.true_and] at hr1 ⊢
    exact hr1) rfl ?_
  exact z_ireturn dJ0_charAt_5068e_15 ⟨.char, rfl, z_ch_n _⟩
theorem z_ldcSW {mt : zMt} {bc bs pc idx q : Nat} {ls st : List Value} {h' : zHP} {o : zO} {tx : String} (hs : (mt.1.cls, idx, tx, q) ∈ z_strs) (hd : decode mt.2.1 pc = .ok (.ldc_w idx, 3)) (k : z_AW l mt d bc bs (pc + 3) ls (.ref q :: st) h o h') : z_AW l mt d bc bs pc ls st h o h' := by
  intro sz0 D ad p e R s m args below meth c H locs cells slots MC MS lsA Qc XC hY hE T hT X
  obtain ⟨t, a1, b1⟩ := k sz0 D ad p e R s m args below meth c H locs cells slots MC MS lsA Qc XC hY hE T hT X
  have hZ := hY.2.2.2.2.1.2.2.1 _ hs
  exact ⟨t, X.ldcStringW hY.1.2.1 hY.1.2.2.2.2.2.1 (text := tx) (a := ad q) hZ.1 hZ.2 (g := F0 m pc lsA (st.map (z_cv ad))) rfl (by rw [hY.1.2.2.1]; exact hd) t a1, b1⟩
end ZM
