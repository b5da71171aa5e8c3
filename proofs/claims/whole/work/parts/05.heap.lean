/-! ===== the heap under writes and makings ===== -/
def z_up (M : zMM) (r i : Nat) (v : Int32) : zMM := fun a b => if a = r then (if b = i then v else M a b) else M a b
def z_upL (M : zML) (r i : Nat) (v : Int64) : zML := fun a b => if a = r then (if b = i then v else M a b) else M a b
theorem z_up_o {M : zMM} {r i : Nat} {v : Int32} {a b : Nat} (h : a ≠ r) : z_up M r i v a b = M a b := by simp [z_up, h]
theorem z_up_s {M : zMM} {r i : Nat} {v : Int32} : z_up M r i v r i = v := by simp [z_up]
theorem z_up_n {M : zMM} {r i : Nat} {v : Int32} {b : Nat} (h : b ≠ i) : z_up M r i v r b = M r b := by simp [z_up, h]
theorem z_Hp.apart {sz0 : Nat} {D : va_G} {ad : Nat → Nat} {h : zHP} {s : State} {H : Heap} (q : z_Hp sz0 D ad h s H) {r k : Nat} {e f : zEn} (hr : z_nS ≤ r) (he : h.1[r]? = some e) (hf : h.1[k]? = some f) (hk : k ≠ r) (h16 : f.1 ≠ 16) : ad k ≠ ad r := by
  have lr : r < h.1.length := (List.getElem?_eq_some_iff.mp he).1
  have lk : k < h.1.length := (List.getElem?_eq_some_iff.mp hf).1
  intro e1
  by_cases hs : k < z_nS
  · have a1 := (q.1 k f hf).2.1 hs h16
    have a2 := ((q.1 r e he).2.2.1 hr).1
    omega
  · exact hk (q.2.1 k r (by omega) lk hr lr e1)
theorem z_CR.v16 {D : va_G} {sz0 : Nat} {s : State} {ad : Nat → Nat} {h : zHP} {H : Heap} {k : Nat} {e : zEn} (h16 : e.1 = 16) : z_CR D sz0 s ad h H k e :=
  ⟨fun i => by omega, fun i => by omega, fun i => by omega, fun i => by omega, fun i => by omega, fun i => by omega, fun i => by omega⟩
/-- one cell of ours is written -/
theorem z_Hp.wr {sz0 : Nat} {D : va_G} {ad : Nat → Nat} {h h1 : zHP} {s : State} {H H1 : Heap} (q : z_Hp sz0 D ad h s H) {r : Nat} {e e1 : zEn} (hr : z_nS ≤ r) (he : h.1[r]? = some e)
    (hlen : h1.1.length = h.1.length) (hoth : ∀ k, k ≠ r → h1.1[k]? = h.1[k]?) (he1 : h1.1[r]? = some e1) (h16 : e1.1 ≠ 16) (hrf : ∀ j i, e1.2.2.getD j 0 = i + 2 → i < h.1.length) (h15 : e1.1 = 15 → e1.2.1 < h.1.length)
    (hM : ∀ a j, a ≠ r → h1.2.1 a j = h.2.1 a j) (hL : ∀ a j, a ≠ r → h1.2.2 a j = h.2.2 a j) (hsz : H1.size = H.size) (ho : ∀ a, a ≠ ad r → H1[a]? = H[a]?) (hc : z_CR D sz0 s ad h1 H1 r e1) : z_Hp sz0 D ad h1 s H1 := by
  refine ⟨fun k f hk => ?_, fun i j a b c d => ?_, by rw [hsz]; exact q.2.2.1, by rw [hlen]; exact q.2.2.2.1, ?_⟩
  · by_cases hkr : k = r
    · subst hkr
      cases Option.some.inj (he1.symm.trans hk)
      obtain ⟨-, p2, p3, -⟩ := q.1 k e he
      exact ⟨hc, fun x => absurd hr (by omega), fun x => ⟨(p3 x).1, by rw [hsz]; exact (p3 x).2.1, h16⟩, by rw [hlen]; exact hrf, by rw [hlen]; exact h15⟩
    · rw [hoth k hkr] at hk
      obtain ⟨p1, p2, p3, p4, p5⟩ := q.1 k f hk
      refine ⟨?_, p2, fun x => ⟨(p3 x).1, by rw [hsz]; exact (p3 x).2.1, (p3 x).2.2⟩, by rw [hlen]; exact p4, by rw [hlen]; exact p5⟩
      by_cases hf : f.1 = 16
      · exact z_CR.v16 hf
      · exact p1.kept (ho _ (q.apart hr he hk hkr hf)) rfl (fun j => hM k j hkr) (fun j => hL k j hkr) (fun _ _ _ => rfl) (fun _ => rfl)
  · rw [hlen] at b d
    exact q.2.1 i j a b c d
  · refine q.2.2.2.2.kept rfl rfl (fun a ha hz => ho a (fun z => hz ?_))
    rw [z]
    exact ((q.1 r e he).2.2.1 hr).1
/-- the heap has grown -/
theorem z_Hp.grow {sz0 : Nat} {D : va_G} {ad : Nat → Nat} {h : zHP} {s : State} {H H1 : Heap} (q : z_Hp sz0 D ad h s H) (hsz : H.size ≤ H1.size) (ho : ∀ a, a < H.size → H1[a]? = H[a]?) : z_Hp sz0 D ad h s H1 := by
  refine ⟨fun k f hk => ?_, q.2.1, Nat.le_trans q.2.2.1 hsz, q.2.2.2.1, q.2.2.2.2.kept rfl rfl (fun a ha _ => ho a ha)⟩
  obtain ⟨p1, p2, p3, p4, p5⟩ := q.1 k f hk
  refine ⟨?_, p2, fun x => ⟨(p3 x).1, Nat.lt_of_lt_of_le (p3 x).2.1 hsz, (p3 x).2.2⟩, p4, p5⟩
  by_cases hf : f.1 = 16
  · exact z_CR.v16 hf
  · have hlt : ad k < H.size := by
      by_cases hs : k < z_nS
      · exact Nat.lt_of_lt_of_le (p2 hs hf) q.2.2.1
      · exact (p3 (by omega)).2.1
    exact p1.kept (ho _ hlt) rfl (fun _ => rfl) (fun _ => rfl) (fun _ _ _ => rfl) (fun _ => rfl)
/-- one more position, for the cell that was made last -/
def z_an (ad : Nat → Nat) (n a : Nat) : Nat → Nat := fun i => if i = n then a else ad i
theorem z_an_o {ad : Nat → Nat} {n a i : Nat} (h : i < n) : z_an ad n a i = ad i := by simp [z_an]; omega
theorem z_an_s {ad : Nat → Nat} {n a : Nat} : z_an ad n a n = a := by simp [z_an]
theorem z_Hp.mk {sz0 : Nat} {D : va_G} {ad : Nat → Nat} {h h1 : zHP} {s : State} {H H1 : Heap} (q : z_Hp sz0 D ad h s H) {e : zEn} (hl : h1.1 = h.1 ++ [e]) (h16 : e.1 ≠ 16) (hrf : ∀ j i, e.2.2.getD j 0 = i + 2 → i < h.1.length) (h15 : e.1 = 15 → e.2.1 < h.1.length)
    (hM : ∀ a j, a ≠ h.1.length → h1.2.1 a j = h.2.1 a j) (hL : ∀ a j, a ≠ h.1.length → h1.2.2 a j = h.2.2 a j) (hsz : H1.size = H.size + 1) (ho : ∀ a, a < H.size → H1[a]? = H[a]?) (hc : z_CR D sz0 s (z_an ad h.1.length H.size) h1 H1 h.1.length e) :
    z_Hp sz0 D (z_an ad h.1.length H.size) h1 s H1 := by
  have hn : z_nS ≤ h.1.length := q.2.2.2.1
  have old : ∀ i, i < h.1.length → z_an ad h.1.length H.size i = ad i := fun i hi => z_an_o hi
  have lst : ∀ k, z_nS ≤ k → k < h.1.length → ad k < H.size := fun k hk hlk => ((q.1 k _ (List.getElem?_eq_getElem hlk)).2.2.1 hk).2.1
  refine ⟨fun k f hk => ?_, fun i j a b c d ee => ?_, by rw [hsz]; exact Nat.le_succ_of_le q.2.2.1, by rw [hl]; simp; omega, ?_⟩
  · rw [hl] at hk ⊢
    by_cases hkn : k < h.1.length
    · rw [List.getElem?_append_left hkn] at hk
      obtain ⟨p1, p2, p3, p4, p5⟩ := q.1 k f hk
      rw [old k hkn]
      refine ⟨?_, p2, fun x => ⟨(p3 x).1, by rw [hsz]; exact Nat.lt_succ_of_lt (p3 x).2.1, (p3 x).2.2⟩, fun j r hj => by have := p4 j r hj; simp; omega, fun hh => by have := p5 hh; simp; omega⟩
      by_cases hf : f.1 = 16
      · exact z_CR.v16 hf
      · have hlt : ad k < H.size := by
          by_cases hs : k < z_nS
          · exact Nat.lt_of_lt_of_le (p2 hs hf) q.2.2.1
          · exact (p3 (by omega)).2.1
        exact p1.kept (ho _ hlt) (old k hkn) (fun j => hM k j (by omega)) (fun j => hL k j (by omega)) (fun j r hj => old r (p4 j r hj)) (fun hh => old _ (p5 hh))
    · have hke : k = h.1.length := by
        have := (List.getElem?_eq_some_iff.mp hk).1
        simp at this
        omega
      subst hke
      rw [List.getElem?_append_right (Nat.le_refl _), Nat.sub_self] at hk
      cases Option.some.inj hk
      rw [z_an_s]
      exact ⟨hc, fun x => by omega, fun _ => ⟨q.2.2.1, by rw [hsz]; omega, h16⟩, fun j r hj => by have := hrf j r hj; simp; omega, fun hh => by have := h15 hh; simp; omega⟩
  · rw [hl] at b d
    simp at b d
    by_cases hi : i < h.1.length <;> by_cases hj : j < h.1.length
    · rw [old i hi, old j hj] at ee
      exact q.2.1 i j a hi c hj ee
    · have hje : j = h.1.length := by omega
      subst hje
      rw [old i hi, z_an_s] at ee
      have := lst i a hi
      omega
    · have hie : i = h.1.length := by omega
      subst hie
      rw [old j hj, z_an_s] at ee
      have := lst j c hj
      omega
    · omega
  · refine q.2.2.2.2.kept (old 1 ?_) (old 2 ?_) (fun a ha _ => ho a ha)
    · have : z_nS = 51 := rfl
      omega
    · have : z_nS = 51 := rfl
      omega
section ZH
variable {l : Launch} {mt : zMt} {d bc bs pc : Nat} {ls st : List Value} {h h' : zHP} {o : zO}
/-- a field's place in the pool -/
def z_FL (own : String) (idx ci f : Nat) : Prop := ∃ (C : String) (T : u_T) (N : Nat), vwCl[ci]? = some (C, T, N) ∧ f < N ∧ GoodIn lw_tbl (Cond.fieldLink own idx (T f).1 (T f).2.1 (T f).2.2.1 :: u_ws C T N)
theorem z_get {idx ci f r N : Nat} {rs : List Nat} (hF : z_FL mt.1.cls idx ci f) (hd : decode mt.2.1 pc = .ok (.getfield idx, 3)) (he : h.1[r]? = some (ci, N, rs)) (k : z_AW l mt d bc bs (pc + 3) ls (z_fa h.2.1 r f rs :: st) h o h') : z_AW l mt d bc bs pc ls (.ref r :: st) h o h' := by
  intro sz0 D ad p e R s m args below meth c H locs cells slots MC MS lsA Qc XC hY hE
  have kk := k sz0 D ad p e R s m args below meth c H locs cells slots MC MS lsA Qc XC hY hE
  obtain ⟨hC, h1, h2, h3, h4, h5, h6⟩ := hY
  obtain ⟨C, T, N0, hc, hf, hg⟩ := hF
  have hci : ci < 9 := (List.getElem?_eq_some_iff.mp hc).1
  obtain ⟨q, g1, cell, q1, q2, q3, q4⟩ := (h5.1 r _ he).1.1 hci
  cases Option.some.inj (g1.symm.trans hc)
  obtain ⟨hS, hfc, kC, hkC, hkind⟩ := h4.2.2.2.2.1 ci _ hc
  obtain ⟨cf, kf, fi, fd, hi, hsl⟩ := hS f hf
  have hts : ∀ w ∈ u_ws C T N0, w.before args s = true := fun w hw => h4.w hg (List.mem_cons_of_mem _ hw)
  refine W.getf hC.2.1 hC.2.2.1 hC.2.2.2.2.2.1 (h4.w hg List.mem_cons_self) hi (u_facts hfc hkC (u_lays hts (fun _ z => z) hf) hi).1 q1 (by rw [q3]; exact fun z => (by simp at z)) (v := z_fv h.2.1 ad r f rs) ?_ rfl rfl hd ?_
  · rw [hsl, q4 f hf]
  · rw [z_fv_fa]
    exact kk
theorem z_getI {idx ci f r N : Nat} {rs : List Nat} (hF : z_FL mt.1.cls idx ci f) (hd : decode mt.2.1 pc = .ok (.getfield idx, 3)) (he : h.1[r]? = some (ci, N, rs)) (h0 : rs.getD f 0 = 0) (k : z_AW l mt d bc bs (pc + 3) ls (.int (h.2.1 r f) :: st) h o h') : z_AW l mt d bc bs pc ls (.ref r :: st) h o h' := by
  refine z_get hF hd he ?_
  unfold z_fa
  rw [h0]
  exact k
theorem z_getR {idx ci f r N q : Nat} {rs : List Nat} (hF : z_FL mt.1.cls idx ci f) (hd : decode mt.2.1 pc = .ok (.getfield idx, 3)) (he : h.1[r]? = some (ci, N, rs)) (h0 : rs.getD f 0 = q + 2) (k : z_AW l mt d bc bs (pc + 3) ls (.ref q :: st) h o h') : z_AW l mt d bc bs pc ls (.ref r :: st) h o h' := by
  refine z_get hF hd he ?_
  unfold z_fa
  rw [h0]
  exact k
/-- .. of a field that is written: not final, of type ty -/
def z_FP (own : String) (idx ci f : Nat) (ty : FieldType) : Prop := ∃ (C : String) (T : u_T) (N : Nat), vwCl[ci]? = some (C, T, N) ∧ f < N ∧ GoodIn lw_tbl (Cond.fieldLink own idx (T f).1 (T f).2.1 (T f).2.2.1 :: u_ws C T N) ∧ (T f).2.2.2 = false ∧ parseFieldDescriptor (T f).2.2.1 = some ty ∧ ∃ ty0 : Nat → FieldType, (∀ k, k < N → parseFieldDescriptor (T k).2.2.1 = some (ty0 k)) ∧ ∀ a, a < N → ∀ b, b < N → a ≠ b → (T a).2.1 ≠ (T b).2.1
theorem z_apart {args : Array Value} {s : State} {C : String} {T : u_T} {N : Nat} {iS : Nat → Nat} {cC : ClassId} (hts : ∀ w ∈ u_ws C T N, w.before args s = true) (ty0 : Nat → FieldType) (hty : ∀ k, k < N → parseFieldDescriptor (T k).2.2.1 = some (ty0 k)) (hnm : ∀ a, a < N → ∀ b, b < N → a ≠ b → (T a).2.1 ≠ (T b).2.1) (hK : u_Kn s C T N cC iS) : ∀ x y, x < N → y < N → x ≠ y → iS x ≠ iS y := by
  intro x y hx hy hne
  obtain ⟨hS, -⟩ := hK
  obtain ⟨_, _, _, fa, hia, ea⟩ := hS x hx
  obtain ⟨_, _, _, fb, hib, eb⟩ := hS y hy
  rw [← ea, ← eb]
  refine u_apart (u_lays hts (fun _ z => z) hx) (u_lays hts (fun _ z => z) hy) hia hib ?_
  rw [(State.fieldFound?_type hia (hty x hx)).1, (State.fieldFound?_type hib (hty y hy)).1]
  exact hnm x hx y hy hne
theorem z_put {idx ci f r N : Nat} {rs : List Nat} {ty : FieldType} {x : Int32} (hF : z_FP mt.1.cls idx ci f ty) (hd : decode mt.2.1 pc = .ok (.putfield idx, 3)) (hr : z_nS ≤ r) (he : h.1[r]? = some (ci, N, rs)) (h0 : rs.getD f 0 = 0) (hn : narrow ty (.int x) = .int x) (hfit : fits ty (.int x) = true)
    (k : z_AW l mt d bc bs (pc + 3) ls st (h.1, z_up h.2.1 r f x, h.2.2) o h') : z_AW l mt d bc bs pc ls (.int x :: .ref r :: st) h o h' := by
  intro sz0 D ad p e R s m args below meth c H locs cells slots MC MS lsA Qc XC hY hE
  obtain ⟨hC, h1, h2, h3, h4, h5, h6⟩ := hY
  obtain ⟨C, T, N0, hc, hf, hg, hfin, hty, ty0, hty0, hnm⟩ := hF
  have hci : ci < 9 := (List.getElem?_eq_some_iff.mp hc).1
  obtain ⟨q, g1, cell, q1, q2, q3, q4⟩ := (h5.1 r _ he).1.1 hci
  cases Option.some.inj (g1.symm.trans hc)
  have hts : ∀ w ∈ u_ws C T N0, w.before args s = true := fun w hw => h4.w hg (List.mem_cons_of_mem _ hw)
  have hap := z_apart hts ty0 hty0 hnm (h4.2.2.2.2.1 ci _ hc)
  obtain ⟨hS, hfc, kC, hkC, hkind⟩ := h4.2.2.2.2.1 ci _ hc
  obtain ⟨cf, kf, fi, fd, hi, hsl⟩ := hS f hf
  have hlay := hts _ (u_in_lay hf)
  unfold u_lay at hlay
  rw [if_neg (by rw [hfin]; decide)] at hlay
  have hst := (u_facts hfc hkC (u_lays hts (fun _ z => z) hf) hi).1
  have hsd := u_store hfc hkC hkind hlay hi hty hn hfit
  refine W.putK hC.2.1 hC.2.2.1 (f := fd) ⟨hC.2.2.2.2.2.1, h4.w hg List.mem_cons_self, ⟨_, _, _, hi⟩, hst⟩ (by rw [q2]; exact hsd) q1 q3 (by rw [hsl]; exact k2_hasslot (q4 f hf)) rfl rfl hd fun H' e1 e2 e3 => ?_
  refine k sz0 D ad p e R s m args below meth c H' _ cells slots MC MS lsA Qc XC ⟨hC, h1, h2, ?_, h4, ?_, h6⟩ hE
  · intro z hz
    rcases List.mem_append.mp hz with hz | hz
    · exact h3 z hz
    · rw [List.mem_singleton.mp hz]; exact ((h5.1 r _ he).2.2.1 hr).1
  · refine h5.wr hr he rfl (fun _ _ => rfl) he ((h5.1 r _ he).2.2.1 hr).2.2 (h5.1 r _ he).2.2.2.1 (h5.1 r _ he).2.2.2.2 (fun a j ha => z_up_o ha) (fun _ _ _ => rfl) e2 e3 ?_
    refine ⟨fun _ => ⟨_, hc, _, e1, q2, q3, fun j hj => ?_⟩, fun z => ?_, fun z => ?_, fun z => ?_, fun z => ?_, fun z => ?_, fun z => ?_⟩
    · rw [hsl]
      refine (t_set q4 hap hf (.int x) j hj).trans ?_
      show some (updV (fun i => z_fv h.2.1 ad r i rs) f (.int x) j) = some (z_fv (z_up h.2.1 r f x) ad r j rs)
      unfold updV z_fv z_up
      by_cases hjf : j = f
      · subst hjf; rw [h0]; simp
      · simp only [if_neg hjf, if_pos]
    all_goals (exfalso; revert z hci; show ci < 9 → ci = _ → False; omega)
/-! arrays -/
theorem z_alen {r N kd : Nat} {rs : List Nat} (hd : decode mt.2.1 pc = .ok (.arraylength, 1)) (he : h.1[r]? = some (kd, N, rs)) (hk : 10 ≤ kd ∧ kd ≤ 14) (k : z_AW l mt d bc bs (pc + 1) ls (.int (nI N) :: st) h o h') : z_AW l mt d bc bs pc ls (.ref r :: st) h o h' := by
  intro sz0 D ad p e R s m args below meth c H locs cells slots MC MS lsA Qc XC hY hE
  have kk := k sz0 D ad p e R s m args below meth c H locs cells slots MC MS lsA Qc XC hY hE
  obtain ⟨hC, h1, h2, h3, h4, h5, h6⟩ := hY
  have ha : ∃ ty f, z_arr s H (ad r) ty N f := by
    obtain ⟨-, g1, g2, g3, g4, g5, -⟩ := (h5.1 r _ he).1
    have hq : kd = 10 ∨ kd = 11 ∨ kd = 12 ∨ kd = 13 ∨ kd = 14 := by omega
    rcases hq with q | q | q | q | q
    · exact ⟨_, _, g1 q⟩
    · exact ⟨_, _, g2 q⟩
    · exact ⟨_, _, g3 q⟩
    · exact ⟨_, _, g4 q⟩
    · exact ⟨_, _, (g5 q).1⟩
  obtain ⟨ty, f, cell, c1, c2, c3, c4, c5, c6⟩ := ha
  exact W.alen hC.2.1 hC.2.2.1 c1 c2 c5 rfl rfl hd kk
theorem z_inb {N : Nat} {cell : Cell} {i : Int32} (hin : vp_in i N) (hN : N ≤ cell.slots.size) : ¬ (i < 0 ∨ cell.slots.size ≤ i.toNatClampNeg) ∧ i.toNatClampNeg < N := by
  have h2 : i.toNatClampNeg < N := Nat.not_le.mp fun q => hin (Or.inr q)
  exact ⟨fun z => hin (z.imp id (fun q => by omega)), h2⟩
theorem z_iaload {r N : Nat} {rs : List Nat} {i : Int32} (hd : decode mt.2.1 pc = .ok (.iaload, 1)) (he : h.1[r]? = some (10, N, rs)) (hin : vp_in i N) (k : z_AW l mt d bc bs (pc + 1) ls (.int (h.2.1 r i.toNatClampNeg) :: st) h o h') : z_AW l mt d bc bs pc ls (.int i :: .ref r :: st) h o h' := by
  intro sz0 D ad p e R s m args below meth c H locs cells slots MC MS lsA Qc XC hY hE
  have kk := k sz0 D ad p e R s m args below meth c H locs cells slots MC MS lsA Qc XC hY hE
  obtain ⟨hC, h1, h2, h3, h4, h5, h6⟩ := hY
  obtain ⟨cell, c1, c2, c3, c4, c5, c6⟩ := (h5.1 r _ he).1.2.1 rfl
  obtain ⟨g1, g2⟩ := z_inb hin c4
  exact W.iald hC.2.1 hC.2.2.1 c1 c2 c3 g1 (c6 _ g2) rfl rfl hd kk
theorem z_baload {r N : Nat} {rs : List Nat} {i : Int32} (hd : decode mt.2.1 pc = .ok (.baload, 1)) (he : h.1[r]? = some (11, N, rs)) (hin : vp_in i N) (k : z_AW l mt d bc bs (pc + 1) ls (.int (h.2.1 r i.toNatClampNeg) :: st) h o h') : z_AW l mt d bc bs pc ls (.int i :: .ref r :: st) h o h' := by
  intro sz0 D ad p e R s m args below meth c H locs cells slots MC MS lsA Qc XC hY hE
  have kk := k sz0 D ad p e R s m args below meth c H locs cells slots MC MS lsA Qc XC hY hE
  obtain ⟨hC, h1, h2, h3, h4, h5, h6⟩ := hY
  obtain ⟨cell, c1, c2, c3, c4, c5, c6⟩ := (h5.1 r _ he).1.2.2.1 rfl
  obtain ⟨g1, g2⟩ := z_inb hin c4
  exact W.bald hC.2.1 hC.2.2.1 c1 c2 c3 g1 (c6 _ g2) rfl rfl hd kk
theorem z_zaload {r N : Nat} {rs : List Nat} {i : Int32} (hd : decode mt.2.1 pc = .ok (.baload, 1)) (he : h.1[r]? = some (12, N, rs)) (hin : vp_in i N) (k : z_AW l mt d bc bs (pc + 1) ls (.int (h.2.1 r i.toNatClampNeg) :: st) h o h') : z_AW l mt d bc bs pc ls (.int i :: .ref r :: st) h o h' := by
  intro sz0 D ad p e R s m args below meth c H locs cells slots MC MS lsA Qc XC hY hE
  have kk := k sz0 D ad p e R s m args below meth c H locs cells slots MC MS lsA Qc XC hY hE
  obtain ⟨hC, h1, h2, h3, h4, h5, h6⟩ := hY
  obtain ⟨cell, c1, c2, c3, c4, c5, c6⟩ := (h5.1 r _ he).1.2.2.2.1 rfl
  obtain ⟨g1, g2⟩ := z_inb hin c4
  exact W.zald hC.2.1 hC.2.2.1 c1 c2 c3 g1 (c6 _ g2) rfl rfl hd kk
theorem z_laload {r N : Nat} {rs : List Nat} {i : Int32} (hd : decode mt.2.1 pc = .ok (.laload, 1)) (he : h.1[r]? = some (13, N, rs)) (hin : vp_in i N) (k : z_AW l mt d bc bs (pc + 1) ls (.long (h.2.2 r i.toNatClampNeg) :: st) h o h') : z_AW l mt d bc bs pc ls (.int i :: .ref r :: st) h o h' := by
  intro sz0 D ad p e R s m args below meth c H locs cells slots MC MS lsA Qc XC hY hE
  have kk := k sz0 D ad p e R s m args below meth c H locs cells slots MC MS lsA Qc XC hY hE
  obtain ⟨hC, h1, h2, h3, h4, h5, h6⟩ := hY
  obtain ⟨cell, c1, c2, c3, c4, c5, c6⟩ := (h5.1 r _ he).1.2.2.2.2.1 rfl
  obtain ⟨g1, g2⟩ := z_inb hin c4
  exact W.lald hC.2.1 hC.2.2.1 c1 c2 c3 g1 (c6 _ g2) rfl rfl hd kk
theorem z_aaload {r N q : Nat} {rs : List Nat} {i : Int32} (hd : decode mt.2.1 pc = .ok (.aaload, 1)) (he : h.1[r]? = some (14, N, rs)) (hin : vp_in i N) (hq : rs.getD i.toNatClampNeg 0 = q + 2) (k : z_AW l mt d bc bs (pc + 1) ls (.ref q :: st) h o h') : z_AW l mt d bc bs pc ls (.int i :: .ref r :: st) h o h' := by
  intro sz0 D ad p e R s m args below meth c H locs cells slots MC MS lsA Qc XC hY hE
  have kk := k sz0 D ad p e R s m args below meth c H locs cells slots MC MS lsA Qc XC hY hE
  obtain ⟨hC, h1, h2, h3, h4, h5, h6⟩ := hY
  obtain ⟨cell, c1, c2, c3, c4, c5, c6⟩ := ((h5.1 r _ he).1.2.2.2.2.2.1 rfl).1
  obtain ⟨g1, g2⟩ := z_inb hin c4
  refine W.aald hC.2.1 hC.2.2.1 c1 c2 rfl c3 g1 (c6 _ g2) rfl rfl hd ?_
  have e9 : z_fv h.2.1 ad r i.toNatClampNeg rs = .ref (ad q) := by
    unfold z_fv
    rw [hq]
  show W p l e R s m args below meth c H locs cells slots _ (F0 m (pc + 1) lsA (z_fv h.2.1 ad r i.toNatClampNeg rs :: st.map (z_cv ad)))
  rw [e9]
  exact kk
theorem z_slot {cell : Cell} {N j : Nat} {v : Value} {f g : Nat → Value} (h : ∀ i : Nat, i < N → cell.slots[i]? = some (f i)) (hj : j < N) (he : ∀ i, i < N → g i = if i = j then v else f i) : ∀ i : Nat, i < N → (cell.setSlot j v).slots[i]? = some (g i) := by
  intro i hi
  rw [he i hi]
  by_cases e : i = j
  · subst e
    have hs : i < cell.slots.size := (Array.getElem?_eq_some_iff.mp (h i hi)).1
    simp [Cell.setSlot, hs]
  · have : (cell.setSlot j v).slots[i]? = cell.slots[i]? := by simp [Cell.setSlot, Array.getElem?_setIfInBounds, Ne.symm e]
    rw [this, h i hi, if_neg e]
theorem z_locs {sz0 : Nat} {locs : List Loc} {q : Loc} (h3 : ∀ q ∈ locs, sz0 ≤ q.base) (hq : sz0 ≤ q.base) : ∀ z ∈ locs ++ [q], sz0 ≤ z.base := by
  intro z hz
  rcases List.mem_append.mp hz with hz | hz
  · exact h3 z hz
  · rw [List.mem_singleton.mp hz]; exact hq
theorem z_isa {s : State} {cell : Cell} {ty : FieldType} (h : s.isArrayOf cell ty) (j : Nat) (v : Value) : s.isArrayOf (cell.setSlot j v) ty := h
theorem z_iastore {r N : Nat} {rs : List Nat} {i x : Int32} (hd : decode mt.2.1 pc = .ok (.iastore, 1)) (hr : z_nS ≤ r) (he : h.1[r]? = some (10, N, rs)) (hin : vp_in i N) (k : z_AW l mt d bc bs (pc + 1) ls st (h.1, z_up h.2.1 r i.toNatClampNeg x, h.2.2) o h') : z_AW l mt d bc bs pc ls (.int x :: .int i :: .ref r :: st) h o h' := by
  intro sz0 D ad p e R s m args below meth c H locs cells slots MC MS lsA Qc XC hY hE
  obtain ⟨hC, h1, h2, h3, h4, h5, h6⟩ := hY
  obtain ⟨cell, c1, c2, c3, c4, c5, c6⟩ := (h5.1 r _ he).1.2.1 rfl
  obtain ⟨g1, g2⟩ := z_inb hin c4
  refine W.iast hC.2.1 hC.2.2.1 c1 c2 c3 g1 rfl rfl hd (fun H' e1 e2 e3 => ?_)
  refine k sz0 D ad p e R s m args below meth c H' _ cells slots MC MS lsA Qc XC ⟨hC, h1, h2, z_locs h3 ((h5.1 r _ he).2.2.1 hr).1, h4, ?_, h6⟩ hE
  refine h5.wr hr he rfl (fun _ _ => rfl) he ((h5.1 r _ he).2.2.1 hr).2.2 (h5.1 r _ he).2.2.2.1 (h5.1 r _ he).2.2.2.2 (fun a j ha => z_up_o ha) (fun _ _ _ => rfl) e2 e3 ?_
  refine ⟨fun z => (by simp at z), fun _ => ⟨_, e1, z_isa c2 _ _, c3, by rw [k2_slotsz]; exact c4, by rw [k2_slotsz]; exact c5, z_slot c6 g2 (fun j hj => ?_)⟩, fun z => (by simp at z), fun z => (by simp at z), fun z => (by simp at z), fun z => (by simp at z), fun z => (by simp at z)⟩
  show Value.int (z_up h.2.1 r i.toNatClampNeg x r j) = _
  unfold z_up
  by_cases q : j = i.toNatClampNeg <;> simp [q]
theorem z_bastore {r N : Nat} {rs : List Nat} {i x : Int32} (hd : decode mt.2.1 pc = .ok (.bastore, 1)) (hr : z_nS ≤ r) (he : h.1[r]? = some (11, N, rs)) (hin : vp_in i N) (k : z_AW l mt d bc bs (pc + 1) ls st (h.1, z_up h.2.1 r i.toNatClampNeg x.toInt8.toInt32, h.2.2) o h') : z_AW l mt d bc bs pc ls (.int x :: .int i :: .ref r :: st) h o h' := by
  intro sz0 D ad p e R s m args below meth c H locs cells slots MC MS lsA Qc XC hY hE
  obtain ⟨hC, h1, h2, h3, h4, h5, h6⟩ := hY
  obtain ⟨cell, c1, c2, c3, c4, c5, c6⟩ := (h5.1 r _ he).1.2.2.1 rfl
  obtain ⟨g1, g2⟩ := z_inb hin c4
  refine W.bast hC.2.1 hC.2.2.1 c1 c2 c3 g1 rfl rfl hd (fun H' e1 e2 e3 => ?_)
  refine k sz0 D ad p e R s m args below meth c H' _ cells slots MC MS lsA Qc XC ⟨hC, h1, h2, z_locs h3 ((h5.1 r _ he).2.2.1 hr).1, h4, ?_, h6⟩ hE
  refine h5.wr hr he rfl (fun _ _ => rfl) he ((h5.1 r _ he).2.2.1 hr).2.2 (h5.1 r _ he).2.2.2.1 (h5.1 r _ he).2.2.2.2 (fun a j ha => z_up_o ha) (fun _ _ _ => rfl) e2 e3 ?_
  refine ⟨fun z => (by simp at z), fun z => (by simp at z), fun _ => ⟨_, e1, z_isa c2 _ _, c3, by rw [k2_slotsz]; exact c4, by rw [k2_slotsz]; exact c5, z_slot c6 g2 (fun j hj => ?_)⟩, fun z => (by simp at z), fun z => (by simp at z), fun z => (by simp at z), fun z => (by simp at z)⟩
  show Value.int (z_up h.2.1 r i.toNatClampNeg x.toInt8.toInt32 r j) = _
  rw [narrow_byte]
  unfold z_up
  by_cases q : j = i.toNatClampNeg <;> simp [q]
theorem z_zastore {r N : Nat} {rs : List Nat} {i x : Int32} (hd : decode mt.2.1 pc = .ok (.bastore, 1)) (hr : z_nS ≤ r) (he : h.1[r]? = some (12, N, rs)) (hin : vp_in i N) (hx : narrow .boolean (.int x) = .int x) (k : z_AW l mt d bc bs (pc + 1) ls st (h.1, z_up h.2.1 r i.toNatClampNeg x, h.2.2) o h') : z_AW l mt d bc bs pc ls (.int x :: .int i :: .ref r :: st) h o h' := by
  intro sz0 D ad p e R s m args below meth c H locs cells slots MC MS lsA Qc XC hY hE
  obtain ⟨hC, h1, h2, h3, h4, h5, h6⟩ := hY
  obtain ⟨cell, c1, c2, c3, c4, c5, c6⟩ := (h5.1 r _ he).1.2.2.2.1 rfl
  obtain ⟨g1, g2⟩ := z_inb hin c4
  refine W.zast hC.2.1 hC.2.2.1 c1 c2 c3 g1 rfl rfl hd (fun H' e1 e2 e3 => ?_)
  refine k sz0 D ad p e R s m args below meth c H' _ cells slots MC MS lsA Qc XC ⟨hC, h1, h2, z_locs h3 ((h5.1 r _ he).2.2.1 hr).1, h4, ?_, h6⟩ hE
  refine h5.wr hr he rfl (fun _ _ => rfl) he ((h5.1 r _ he).2.2.1 hr).2.2 (h5.1 r _ he).2.2.2.1 (h5.1 r _ he).2.2.2.2 (fun a j ha => z_up_o ha) (fun _ _ _ => rfl) e2 e3 ?_
  refine ⟨fun z => (by simp at z), fun z => (by simp at z), fun z => (by simp at z), fun _ => ⟨_, e1, z_isa c2 _ _, c3, by rw [k2_slotsz]; exact c4, by rw [k2_slotsz]; exact c5, z_slot c6 g2 (fun j hj => ?_)⟩, fun z => (by simp at z), fun z => (by simp at z), fun z => (by simp at z)⟩
  show Value.int (z_up h.2.1 r i.toNatClampNeg x r j) = _
  rw [hx]
  unfold z_up
  by_cases q : j = i.toNatClampNeg <;> simp [q]
theorem z_lastore {r N : Nat} {rs : List Nat} {i : Int32} {x : Int64} (hd : decode mt.2.1 pc = .ok (.lastore, 1)) (hr : z_nS ≤ r) (he : h.1[r]? = some (13, N, rs)) (hin : vp_in i N) (k : z_AW l mt d bc bs (pc + 1) ls st (h.1, h.2.1, z_upL h.2.2 r i.toNatClampNeg x) o h') : z_AW l mt d bc bs pc ls (.long x :: .int i :: .ref r :: st) h o h' := by
  intro sz0 D ad p e R s m args below meth c H locs cells slots MC MS lsA Qc XC hY hE
  obtain ⟨hC, h1, h2, h3, h4, h5, h6⟩ := hY
  obtain ⟨cell, c1, c2, c3, c4, c5, c6⟩ := (h5.1 r _ he).1.2.2.2.2.1 rfl
  obtain ⟨g1, g2⟩ := z_inb hin c4
  refine W.last hC.2.1 hC.2.2.1 c1 c2 c3 g1 rfl rfl hd (fun H' e1 e2 e3 => ?_)
  refine k sz0 D ad p e R s m args below meth c H' _ cells slots MC MS lsA Qc XC ⟨hC, h1, h2, z_locs h3 ((h5.1 r _ he).2.2.1 hr).1, h4, ?_, h6⟩ hE
  refine h5.wr hr he rfl (fun _ _ => rfl) he ((h5.1 r _ he).2.2.1 hr).2.2 (h5.1 r _ he).2.2.2.1 (h5.1 r _ he).2.2.2.2 (fun _ _ _ => rfl) (fun a j ha => by simp [z_upL, ha]) e2 e3 ?_
  refine ⟨fun z => (by simp at z), fun z => (by simp at z), fun z => (by simp at z), fun z => (by simp at z), fun _ => ⟨_, e1, z_isa c2 _ _, c3, by rw [k2_slotsz]; exact c4, by rw [k2_slotsz]; exact c5, z_slot c6 g2 (fun j hj => ?_)⟩, fun z => (by simp at z), fun z => (by simp at z)⟩
  show Value.long (z_upL h.2.2 r i.toNatClampNeg x r j) = _
  unfold z_upL
  by_cases q : j = i.toNatClampNeg <;> simp [q]
/-! static fields -/
theorem z_getsS {idx : Nat} (hg : GoodIn lw_tbl [.fieldLink mt.1.cls idx "TroupeTrunks$Planner" "SPREAD" "[I"]) (hd : decode mt.2.1 pc = .ok (.getstatic idx, 3)) (k : z_AW l mt d bc bs (pc + 3) ls (.ref 1 :: st) h o h') : z_AW l mt d bc bs pc ls st h o h' := by
  intro sz0 D ad p e R s m args below meth c H locs cells slots MC MS lsA Qc XC hY hE
  have kk := k sz0 D ad p e R s m args below meth c H locs cells slots MC MS lsA Qc XC hY hE
  obtain ⟨hC, h1, h2, h3, h4, h5, h6⟩ := hY
  obtain ⟨cf, kf, fi, f, a, cell, c1, c2, c3, c4, c5, c6, c7, c8⟩ := h5.2.2.2.2.1
  exact W.gets hC.2.1 hC.2.2.1 hC.2.2.2.2.2.1 (h4.w hg (List.mem_singleton.mpr rfl)) c1 c2 c3 c4 c5 (fun e => by rw [e] at c6; cases c6) c7 rfl hd kk
theorem z_getsC {idx : Nat} (hg : GoodIn lw_tbl [.fieldLink mt.1.cls idx "java/lang/String" "COMPACT_STRINGS" "Z"]) (hd : decode mt.2.1 pc = .ok (.getstatic idx, 3)) (k : z_AW l mt d bc bs (pc + 3) ls (.int 1 :: st) h o h') : z_AW l mt d bc bs pc ls st h o h' := by
  intro sz0 D ad p e R s m args below meth c H locs cells slots MC MS lsA Qc XC hY hE
  have kk := k sz0 D ad p e R s m args below meth c H locs cells slots MC MS lsA Qc XC hY hE
  obtain ⟨hC, h1, h2, h3, h4, h5, h6⟩ := hY
  obtain ⟨cf, kf, fi, f, a, cell, c1, c2, c3, c4, c5, c6, c7, c8⟩ := h5.2.2.2.2.2.1
  exact W.gets hC.2.1 hC.2.2.1 hC.2.2.2.2.2.1 (h4.w hg (List.mem_singleton.mpr rfl)) c1 c2 c3 c4 c5 (fun e => by rw [e] at c6; cases c6) c7 rfl hd kk
theorem z_getsP {idx : Nat} (hg : GoodIn lw_tbl [.fieldLink mt.1.cls idx "jdk/internal/util/Preconditions" "SIOOBE_FORMATTER" "Ljava/util/function/BiFunction;"]) (hd : decode mt.2.1 pc = .ok (.getstatic idx, 3)) (k : z_AW l mt d bc bs (pc + 3) ls (.ref 2 :: st) h o h') (k0 : z_AW l mt d bc bs (pc + 3) ls (.null :: st) h o h') : z_AW l mt d bc bs pc ls st h o h' := by
  intro sz0 D ad p e R s m args below meth c H locs cells slots MC MS lsA Qc XC hY hE
  have kk := k sz0 D ad p e R s m args below meth c H locs cells slots MC MS lsA Qc XC hY hE
  have kk0 := k0 sz0 D ad p e R s m args below meth c H locs cells slots MC MS lsA Qc XC hY hE
  obtain ⟨hC, h1, h2, h3, h4, h5, h6⟩ := hY
  rcases h5.2.2.2.2.2.2.1 with ⟨cf, kf, fi, f, a, cell, c1, c2, c3, c4, c5, c6, c7, c8⟩ | ⟨cf, kf, fi, f, a, cell, c1, c2, c3, c4, c5, c6, c7, c8⟩
  · exact W.gets hC.2.1 hC.2.2.1 hC.2.2.2.2.2.1 (h4.w hg (List.mem_singleton.mpr rfl)) c1 c2 c3 c4 c5 (fun e => by rw [e] at c6; cases c6) c7 rfl hd kk0
  · exact W.gets hC.2.1 hC.2.2.1 hC.2.2.2.2.2.1 (h4.w hg (List.mem_singleton.mpr rfl)) c1 c2 c3 c4 c5 (fun e => by rw [e] at c6; cases c6) c7 rfl hd kk
/-- a String's own fields -/
theorem z_getSV {idx r N : Nat} {rs : List Nat} (hg : GoodIn lw_tbl [.fieldLink mt.1.cls idx "java/lang/String" "value" "[B"]) (hd : decode mt.2.1 pc = .ok (.getfield idx, 3)) (he : h.1[r]? = some (15, N, rs)) (k : z_AW l mt d bc bs (pc + 3) ls (.ref N :: st) h o h') : z_AW l mt d bc bs pc ls (.ref r :: st) h o h' := by
  intro sz0 D ad p e R s m args below meth c H locs cells slots MC MS lsA Qc XC hY hE
  have kk := k sz0 D ad p e R s m args below meth c H locs cells slots MC MS lsA Qc XC hY hE
  obtain ⟨hC, h1, h2, h3, h4, h5, h6⟩ := hY
  obtain ⟨cf, kf, fi, f, cell, c1, c2, c3, c4, c5, c6⟩ := ((h5.1 r _ he).1.2.2.2.2.2.2 rfl).2.2
  exact W.getf hC.2.1 hC.2.2.1 hC.2.2.2.2.2.1 (h4.w hg (List.mem_singleton.mpr rfl)) c1 c2 c3 c4 c5 rfl rfl hd kk
theorem z_getSC {idx r N : Nat} {rs : List Nat} (hg : GoodIn lw_tbl [.fieldLink mt.1.cls idx "java/lang/String" "coder" "B"]) (hd : decode mt.2.1 pc = .ok (.getfield idx, 3)) (he : h.1[r]? = some (15, N, rs)) (k : z_AW l mt d bc bs (pc + 3) ls (.int 0 :: st) h o h') : z_AW l mt d bc bs pc ls (.ref r :: st) h o h' := by
  intro sz0 D ad p e R s m args below meth c H locs cells slots MC MS lsA Qc XC hY hE
  have kk := k sz0 D ad p e R s m args below meth c H locs cells slots MC MS lsA Qc XC hY hE
  obtain ⟨hC, h1, h2, h3, h4, h5, h6⟩ := hY
  obtain ⟨cf, kf, fi, f, cell, c1, c2, c3, c4, c5, c6⟩ := ((h5.1 r _ he).1.2.2.2.2.2.2 rfl).2.1
  exact W.getf hC.2.1 hC.2.2.1 hC.2.2.2.2.2.1 (h4.w hg (List.mem_singleton.mpr rfl)) c1 c2 c3 c4 c5 rfl rfl hd kk
end ZH
