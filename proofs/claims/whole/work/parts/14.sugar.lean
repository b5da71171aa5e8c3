/-! ===== pure programs over the memory, and rules in the form that the generator uses ===== -/
def z_fuel : Nat := 100000
def z_bi {α β : Type} (x : Option (α × zMM)) (k : α → zMM → Option β) : Option β := match x with
  | none => none
  | some (v, M) => k v M
def z_bv {β : Type} (x : Option zMM) (k : zMM → Option β) : Option β := match x with
  | none => none
  | some M => k M
def z_bt {α β : Type} (x : Option ((α ⊕ Nat) × zMM)) (k : α → zMM → Option ((β ⊕ Nat) × zMM)) : Option ((β ⊕ Nat) × zMM) := match x with
  | none => none
  | some (.inl v, M) => k v M
  | some (.inr e, M) => some (.inr e, M)
theorem z_bi_c {α β : Type} {x : Option (α × zMM)} {k : α → zMM → Option β} {r : β} (h : z_bi x k = some r) : ∃ v M, x = some (v, M) ∧ k v M = some r := by
  match x, h with
  | some (v, M), h => exact ⟨v, M, rfl, h⟩
theorem z_bv_c {β : Type} {x : Option zMM} {k : zMM → Option β} {r : β} (h : z_bv x k = some r) : ∃ M, x = some M ∧ k M = some r := by
  match x, h with
  | some M, h => exact ⟨M, rfl, h⟩
theorem z_bt_c {α β : Type} {x : Option ((α ⊕ Nat) × zMM)} {k : α → zMM → Option ((β ⊕ Nat) × zMM)} {o : β ⊕ Nat} {M' : zMM} (h : z_bt x k = some (o, M')) : (∃ v M, x = some (.inl v, M) ∧ k v M = some (o, M')) ∨ ∃ e, x = some (.inr e, M') ∧ o = .inr e := by
  match x, h with
  | some (.inl v, M), h => exact Or.inl ⟨v, M, rfl, h⟩
  | some (.inr e, M), h => cases h; exact Or.inr ⟨e, rfl, rfl⟩
theorem z_ifn {c : Prop} [Decidable c] {α : Type} {x : Option α} {r : α} (h : (if c then x else none) = some r) : c ∧ x = some r := by
  by_cases hc : c
  · rw [if_pos hc] at h; exact ⟨hc, h⟩
  · rw [if_neg hc] at h; cases h
def z_ib (i : Int32) (N : Nat) : Bool := decide (0 ≤ i) && decide (i.toNatClampNeg < N)
theorem z_ib_in {i : Int32} {N : Nat} (h : z_ib i N = true) : vp_in i N := by
  simp only [z_ib, Bool.and_eq_true, decide_eq_true_eq] at h
  intro z
  rcases z with z | z
  · exact Int32.not_lt.mpr h.1 z
  · omega
def z_zb (v : Int32) : Bool := decide (v = 0) || decide (v = 1)
theorem z_zb_n {v : Int32} (h : z_zb v = true) : narrow .boolean (.int v) = .int v := by
  simp only [z_zb, Bool.or_eq_true, decide_eq_true_eq] at h
  rcases h with h | h <;> subst h <;> rfl
theorem z_zb_f {v : Int32} (h : z_zb v = true) : fits .boolean (.int v) = true := by
  simp only [z_zb, Bool.or_eq_true, decide_eq_true_eq] at h
  rcases h with h | h <;> subst h <;> rfl
def z_bo {α : Type} (o : α ⊕ Nat) : Nat := match o with
  | .inl _ => 0
  | .inr _ => 1
def z_ex (e : Nat) : String := if e = 0 then "java/util/NoSuchElementException" else "java/lang/IllegalArgumentException"
def z_oi (o : Int32 ⊕ Nat) : zO := match o with
  | .inl v => .inl (some (.int v))
  | .inr e => .inr (z_ex e)
def z_ol (o : Int64 ⊕ Nat) : zO := match o with
  | .inl v => .inl (some (.long v))
  | .inr e => .inr (z_ex e)
def z_ov (o : Unit ⊕ Nat) : zO := match o with
  | .inl _ => .inl none
  | .inr e => .inr (z_ex e)
/-- some slots are forgotten -/
def z_wk : List Value → List Value → Prop
  | [], [] => True
  | a :: r, b :: s => (a = .null ∨ a = b) ∧ z_wk r s
  | _, _ => False
theorem z_wk_get {ls' ls : List Value} (h : z_wk ls' ls) : ∀ (i : Nat) (v : Value), ls'[i]? = some v → v ≠ .null → ls[i]? = some v := by
  induction ls' generalizing ls with
  | nil => intro i v hi; simp at hi
  | cons a r ih =>
    cases ls with
    | nil => exact h.elim
    | cons b s =>
      intro i v hi hv
      match i, hi with
      | 0, hi =>
        simp at hi
        rcases h.1 with q | q
        · exact absurd (hi.symm.trans q) hv
        · simp [← q, hi]
      | i + 1, hi => simpa using ih h.2 i v (by simpa using hi) hv
section ZS
variable {l : Launch} {mt mk : zMt} {d bc bs pc : Nat} {ls st stk : List Value} {h h' : zHP} {o : zO}
theorem z_fg {ls' : List Value} (hw : z_wk ls' ls) (k : z_AW l mt d bc bs pc ls' st h o h') : z_AW l mt d bc bs pc ls st h o h' := by
  intro sz0 D ad p e R s m args below meth c H locs cells slots MC MS lsA Qc XC hY hE
  obtain ⟨hC, h1, h2, h3, h4, h5, h6⟩ := hY
  exact k sz0 D ad p e R s m args below meth c H locs cells slots MC MS lsA Qc XC ⟨hC, h1, h2, h3, h4, h5, h6.1, h6.2.1, fun i v hi hv => h6.2.2 i v (z_wk_get hw i v hi hv) hv⟩ hE
theorem z_ic {n : Int} {v : Int32} (hv : Int32.ofInt n = v) (hd : decode mt.2.1 pc = .ok (.iconst n, 1)) (k : z_AW l mt d bc bs (pc + 1) ls (.int v :: st) h o h') : z_AW l mt d bc bs pc ls st h o h' := by subst hv; exact z_iconst hd k
theorem z_bp {n : Int} {v : Int32} (hv : (Int8.ofInt n).toInt32 = v) (hd : decode mt.2.1 pc = .ok (.bipush n, 2)) (k : z_AW l mt d bc bs (pc + 2) ls (.int v :: st) h o h') : z_AW l mt d bc bs pc ls st h o h' := by subst hv; exact z_bipush hd k
theorem z_sp {n : Int} {v : Int32} (hv : (Int16.ofInt n).toInt32 = v) (hd : decode mt.2.1 pc = .ok (.sipush n, 3)) (k : z_AW l mt d bc bs (pc + 3) ls (.int v :: st) h o h') : z_AW l mt d bc bs pc ls st h o h' := by subst hv; exact z_sipush hd k
theorem z_lc {n : Fin 2} {v : Int64} (hv : Int64.ofNat (n : Nat) = v) (hd : decode mt.2.1 pc = .ok (.lconst n, 1)) (k : z_AW l mt d bc bs (pc + 1) ls (.long v :: st) h o h') : z_AW l mt d bc bs pc ls st h o h' := by subst hv; exact z_lconst hd k
theorem z_ii {x y : Int32} {i : Nat} {n : Int} {ls' : List Value} (hy : Int32.ofInt n = y) (hd : decode mt.2.1 pc = .ok (.iinc i n, 3)) (hl : ls[i]? = some (.int x)) (hn : i < mt.2.2.1) (he : z_set ls i (.int (x + y)) = ls') (k : z_AW l mt d bc bs (pc + 3) ls' st h o h') : z_AW l mt d bc bs pc ls st h o h' := by subst hy; exact z_iinc hd hl hn he k
theorem z_gI {idx ci f r N : Nat} {rs : List Nat} {v : Int32} (hF : z_FL mt.1.cls idx ci f) (hd : decode mt.2.1 pc = .ok (.getfield idx, 3)) (he : h.1[r]? = some (ci, N, rs)) (h0 : rs.getD f 0 = 0) (hv : h.2.1 r f = v) (k : z_AW l mt d bc bs (pc + 3) ls (.int v :: st) h o h') : z_AW l mt d bc bs pc ls (.ref r :: st) h o h' := by subst hv; exact z_getI hF hd he h0 k
theorem z_al {r N i : Nat} {rs : List Nat} {x v : Int32} (hd : decode mt.2.1 pc = .ok (.iaload, 1)) (he : h.1[r]? = some (10, N, rs)) (hx : x.toNatClampNeg = i) (hin : vp_in x N) (hv : h.2.1 r i = v) (k : z_AW l mt d bc bs (pc + 1) ls (.int v :: st) h o h') : z_AW l mt d bc bs pc ls (.int x :: .ref r :: st) h o h' := by subst hx; subst hv; exact z_iaload hd he hin k
theorem z_bl {r N i : Nat} {rs : List Nat} {x v : Int32} (hd : decode mt.2.1 pc = .ok (.baload, 1)) (he : h.1[r]? = some (11, N, rs)) (hx : x.toNatClampNeg = i) (hin : vp_in x N) (hv : h.2.1 r i = v) (k : z_AW l mt d bc bs (pc + 1) ls (.int v :: st) h o h') : z_AW l mt d bc bs pc ls (.int x :: .ref r :: st) h o h' := by subst hx; subst hv; exact z_baload hd he hin k
theorem z_zl {r N i : Nat} {rs : List Nat} {x v : Int32} (hd : decode mt.2.1 pc = .ok (.baload, 1)) (he : h.1[r]? = some (12, N, rs)) (hx : x.toNatClampNeg = i) (hin : vp_in x N) (hv : h.2.1 r i = v) (k : z_AW l mt d bc bs (pc + 1) ls (.int v :: st) h o h') : z_AW l mt d bc bs pc ls (.int x :: .ref r :: st) h o h' := by subst hx; subst hv; exact z_zaload hd he hin k
theorem z_as {r N i : Nat} {rs : List Nat} {x v : Int32} (hd : decode mt.2.1 pc = .ok (.iastore, 1)) (hr : z_nS ≤ r) (he : h.1[r]? = some (10, N, rs)) (hx : x.toNatClampNeg = i) (hin : vp_in x N) (k : z_AW l mt d bc bs (pc + 1) ls st (h.1, z_up h.2.1 r i v, h.2.2) o h') : z_AW l mt d bc bs pc ls (.int v :: .int x :: .ref r :: st) h o h' := by subst hx; exact z_iastore hd hr he hin k
theorem z_bs {r N i : Nat} {rs : List Nat} {x v : Int32} (hd : decode mt.2.1 pc = .ok (.bastore, 1)) (hr : z_nS ≤ r) (he : h.1[r]? = some (11, N, rs)) (hx : x.toNatClampNeg = i) (hin : vp_in x N) (k : z_AW l mt d bc bs (pc + 1) ls st (h.1, z_up h.2.1 r i v.toInt8.toInt32, h.2.2) o h') : z_AW l mt d bc bs pc ls (.int v :: .int x :: .ref r :: st) h o h' := by subst hx; exact z_bastore hd hr he hin k
theorem z_zs {r N i : Nat} {rs : List Nat} {x v : Int32} (hd : decode mt.2.1 pc = .ok (.bastore, 1)) (hr : z_nS ≤ r) (he : h.1[r]? = some (12, N, rs)) (hx : x.toNatClampNeg = i) (hin : vp_in x N) (hz : z_zb v = true) (k : z_AW l mt d bc bs (pc + 1) ls st (h.1, z_up h.2.1 r i v, h.2.2) o h') : z_AW l mt d bc bs pc ls (.int v :: .int x :: .ref r :: st) h o h' := by subst hx; exact z_zastore hd hr he hin (z_zb_n hz) k
theorem z_pI {idx ci f r N : Nat} {rs : List Nat} {x : Int32} (hF : z_FP mt.1.cls idx ci f .int) (hd : decode mt.2.1 pc = .ok (.putfield idx, 3)) (hr : z_nS ≤ r) (he : h.1[r]? = some (ci, N, rs)) (h0 : rs.getD f 0 = 0)
    (k : z_AW l mt d bc bs (pc + 3) ls st (h.1, z_up h.2.1 r f x, h.2.2) o h') : z_AW l mt d bc bs pc ls (.int x :: .ref r :: st) h o h' := z_put hF hd hr he h0 rfl rfl k
theorem z_pZ {idx ci f r N : Nat} {rs : List Nat} {x : Int32} (hF : z_FP mt.1.cls idx ci f .boolean) (hd : decode mt.2.1 pc = .ok (.putfield idx, 3)) (hr : z_nS ≤ r) (he : h.1[r]? = some (ci, N, rs)) (h0 : rs.getD f 0 = 0) (hz : z_zb x = true)
    (k : z_AW l mt d bc bs (pc + 3) ls st (h.1, z_up h.2.1 r f x, h.2.2) o h') : z_AW l mt d bc bs pc ls (.int x :: .ref r :: st) h o h' := z_put hF hd hr he h0 (z_zb_n hz) (z_zb_f hz) k
theorem z_rI {v : Int32} (hd : decode mt.2.1 pc = .ok (.ireturn, 1)) (hr : mt.2.2.2.1 = some .int) : z_AW l mt d bc bs pc ls [.int v] h (.inl (some (.int v))) h := z_ireturn hd ⟨_, hr, rfl⟩
theorem z_rZ {v : Int32} (hd : decode mt.2.1 pc = .ok (.ireturn, 1)) (hr : mt.2.2.2.1 = some .boolean) (hz : z_zb v = true) : z_AW l mt d bc bs pc ls [.int v] h (.inl (some (.int v))) h := z_ireturn hd ⟨_, hr, z_zb_n hz⟩
/-! calls: a value comes back; an exception goes on -/
theorem z_cV {idx r n ci N : Nat} {av : List Value} {rs : List Nat} {v : Option Value} {h1 : zHP} (hL : z_LV mt.1.cls idx mk n) (hd : decode mt.2.1 pc = .ok (.invokevirtual idx, 3)) (hK : z_Ct l mk d 0 0 (.ref r :: av) h (.inl v) h1) (hstk : stk = av.reverse ++ .ref r :: st) (hav : av.length = n) (he : h.1[r]? = some (ci, N, rs)) (hci : vwCl[ci]?.map (fun q => q.1) = some mk.1.cls)
    (hw : (st.map fun v => v.category).sum ≤ 20) (hlen : h.1.length = h1.1.length) {KK : Nat} (hKK : h.1.length = KK) (hrb : z_rbB (ls ++ st) KK = true) (hh : mt.2.2.2.2 = []) (k : z_AW l mt (d + 1) bc bs (pc + 3) ls (v.toList ++ st) h1 o h') : z_AW l mt (d + 1) bc bs pc ls stk h o h' :=
  z_callV hL hd hK hstk hav he hci hw (Nat.le_of_eq hlen) (by rw [hKK]; exact hrb) (Nat.zero_le _) (Nat.zero_le _) (fun v' hv => by cases hv; exact k) hh (fun E hE => by cases hE)
theorem z_cVx {idx r n ci N cb sb : Nat} {av : List Value} {rs : List Nat} {E : String} {h1 : zHP} (hL : z_LV mt.1.cls idx mk n) (hd : decode mt.2.1 pc = .ok (.invokevirtual idx, 3)) (hK : z_Ct l mk d cb sb (.ref r :: av) h (.inr E) h1) (hstk : stk = av.reverse ++ .ref r :: st) (hav : av.length = n) (he : h.1[r]? = some (ci, N, rs)) (hci : vwCl[ci]?.map (fun q => q.1) = some mk.1.cls)
    (hw : (st.map fun v => v.category).sum ≤ 20) (hlen : h.1.length = h1.1.length) {KK : Nat} (hKK : h.1.length = KK) (hrb : z_rbB (ls ++ st) KK = true) (hh : mt.2.2.2.2 = []) (hcb : cb ≤ bc) (hsb : sb ≤ bs) : z_AW l mt (d + 1) bc bs pc ls stk h (.inr E) h1 :=
  z_callV hL hd hK hstk hav he hci hw (Nat.le_of_eq hlen) (by rw [hKK]; exact hrb) hcb hsb (fun v' hv => by cases hv) hh (fun E' hE => ⟨hE, rfl⟩)
theorem z_cS {idx n : Nat} {av : List Value} {v : Option Value} {h1 : zHP} (hL : z_LS mt.1.cls idx mk n) (hd : decode mt.2.1 pc = .ok (.invokestatic idx, 3)) (hK : z_Ct l mk d 0 0 av h (.inl v) h1) (hstk : stk = av.reverse ++ st) (hav : av.length = n)
    (hw : (st.map fun v => v.category).sum ≤ 20) (hlen : h.1.length = h1.1.length) {KK : Nat} (hKK : h.1.length = KK) (hrb : z_rbB (ls ++ st) KK = true) (hh : mt.2.2.2.2 = []) (k : z_AW l mt (d + 1) bc bs (pc + 3) ls (v.toList ++ st) h1 o h') : z_AW l mt (d + 1) bc bs pc ls stk h o h' :=
  z_callS hL hd hK hstk hav hw (Nat.le_of_eq hlen) (by rw [hKK]; exact hrb) (Nat.zero_le _) (Nat.zero_le _) (fun v' hv => by cases hv; exact k) hh (fun E hE => by cases hE)
theorem z_cSx {idx n cb sb : Nat} {av : List Value} {E : String} {h1 : zHP} (hL : z_LS mt.1.cls idx mk n) (hd : decode mt.2.1 pc = .ok (.invokestatic idx, 3)) (hK : z_Ct l mk d cb sb av h (.inr E) h1) (hstk : stk = av.reverse ++ st) (hav : av.length = n)
    (hw : (st.map fun v => v.category).sum ≤ 20) (hlen : h.1.length = h1.1.length) {KK : Nat} (hKK : h.1.length = KK) (hrb : z_rbB (ls ++ st) KK = true) (hh : mt.2.2.2.2 = []) (hcb : cb ≤ bc) (hsb : sb ≤ bs) : z_AW l mt (d + 1) bc bs pc ls stk h (.inr E) h1 :=
  z_callS hL hd hK hstk hav hw (Nat.le_of_eq hlen) (by rw [hKK]; exact hrb) hcb hsb (fun v' hv => by cases hv) hh (fun E' hE => ⟨hE, rfl⟩)
theorem z_cN {idx n : Nat} {av : List Value} {v : Option Value} {h1 : zHP} (hL : z_LN mt.1.cls idx mk n) (hd : decode mt.2.1 pc = .ok (.invokestatic idx, 3)) (hK : z_Ct l mk d 0 0 av h (.inl v) h1) (hstk : stk = av.reverse ++ st) (hav : av.length = n)
    (hw : (st.map fun v => v.category).sum ≤ 20) (hlen : h.1.length = h1.1.length) {KK : Nat} (hKK : h.1.length = KK) (hrb : z_rbB (ls ++ st) KK = true) (hh : mt.2.2.2.2 = []) (k : z_AW l mt (d + 1) bc bs (pc + 3) ls (v.toList ++ st) h1 o h') : z_AW l mt (d + 1) bc bs pc ls stk h o h' :=
  z_callSN hL hd hK hstk hav hw (Nat.le_of_eq hlen) (by rw [hKK]; exact hrb) (Nat.zero_le _) (Nat.zero_le _) (fun v' hv => by cases hv; exact k) hh (fun E hE => by cases hE)
theorem z_cQ {idx r n N : Nat} {av : List Value} {rs : List Nat} {v : Option Value} {h1 : zHP} (hL : z_LV mt.1.cls idx mk n) (hS : mk.1.cls = "java/lang/String") (hd : decode mt.2.1 pc = .ok (.invokevirtual idx, 3)) (hK : z_Ct l mk d 0 0 (.ref r :: av) h (.inl v) h1) (hstk : stk = av.reverse ++ .ref r :: st) (hav : av.length = n) (he : h.1[r]? = some (15, N, rs))
    (hw : (st.map fun v => v.category).sum ≤ 20) (hlen : h.1.length = h1.1.length) {KK : Nat} (hKK : h.1.length = KK) (hrb : z_rbB (ls ++ st) KK = true) (hh : mt.2.2.2.2 = []) (k : z_AW l mt (d + 1) bc bs (pc + 3) ls (v.toList ++ st) h1 o h') : z_AW l mt (d + 1) bc bs pc ls stk h o h' :=
  z_callVS hL hS hd hK hstk hav he hw (Nat.le_of_eq hlen) (by rw [hKK]; exact hrb) (Nat.zero_le _) (Nat.zero_le _) (fun v' hv => by cases hv; exact k) hh (fun E hE => by cases hE)
theorem z_al9 {r N kd : Nat} {rs : List Nat} {v : Int32} (hd : decode mt.2.1 pc = .ok (.arraylength, 1)) (he : h.1[r]? = some (kd, N, rs)) (hk : 10 ≤ kd ∧ kd ≤ 14) (hv : nI N = v) (k : z_AW l mt d bc bs (pc + 1) ls (.int v :: st) h o h') : z_AW l mt d bc bs pc ls (.ref r :: st) h o h' := by subst hv; exact z_alen hd he hk k
end ZS
