/-! ===== bits of an int, and the least of a property ===== -/
def gb (x : Int32) (t : Nat) : Bool := x.toBitVec.getLsbD t
theorem sh_amt : ∀ t : Nat, t < 32 → (nI t &&& 31).toBitVec.smod 32 = BitVec.ofNat 32 t := by decide +kernel
theorem sh_nat : ∀ t : Nat, t < 32 → (BitVec.ofNat 32 t).toNat = t := by decide +kernel
theorem gb_and1 (y : Int32) : (y &&& (1 : Int32) = 0) ↔ gb y 0 = false := by
  constructor
  · intro h
    have := congrArg (fun z : Int32 => z.toBitVec.getLsbD 0) h
    simp only [Int32.toBitVec_and, BitVec.getLsbD_and] at this
    have e1 : (1 : Int32).toBitVec.getLsbD 0 = true := by decide
    have e0 : (0 : Int32).toBitVec.getLsbD 0 = false := by decide
    rw [e1, e0, Bool.and_true] at this
    exact this
  · intro h
    apply Int32.toBitVec_inj.mp
    apply BitVec.eq_of_getLsbD_eq
    intro i hi
    rw [Int32.toBitVec_and, BitVec.getLsbD_and]
    have e0 : (0 : Int32).toBitVec.getLsbD i = false := BitVec.getLsbD_zero
    rw [e0]
    by_cases hi0 : i = 0
    · subst hi0
      rw [show y.toBitVec.getLsbD 0 = false from h, Bool.false_and]
    · have e1 : (1 : Int32).toBitVec.getLsbD i = false := by
        show (BitVec.ofNat 32 1).getLsbD i = false
        rw [BitVec.getLsbD_ofNat]
        have : Nat.testBit 1 i = false := by
          rw [show (1 : Nat) = 2 ^ 0 from rfl, Nat.testBit_two_pow]
          exact decide_eq_false (fun q => hi0 q.symm)
        rw [this, Bool.and_false]
      rw [e1, Bool.and_false]
theorem gb_and1' (y : Int32) : (y &&& (1 : Int32) = 1) ↔ gb y 0 = true := by
  constructor
  · intro h
    have := congrArg (fun z : Int32 => z.toBitVec.getLsbD 0) h
    simp only [Int32.toBitVec_and, BitVec.getLsbD_and] at this
    have e1 : (1 : Int32).toBitVec.getLsbD 0 = true := by decide
    rw [e1, Bool.and_true] at this
    exact this
  · intro h
    apply Int32.toBitVec_inj.mp
    apply BitVec.eq_of_getLsbD_eq
    intro i hi
    rw [Int32.toBitVec_and, BitVec.getLsbD_and]
    by_cases hi0 : i = 0
    · subst hi0
      rw [show y.toBitVec.getLsbD 0 = true from h, Bool.true_and]
    · have e1 : (1 : Int32).toBitVec.getLsbD i = false := by
        show (BitVec.ofNat 32 1).getLsbD i = false
        rw [BitVec.getLsbD_ofNat]
        have : Nat.testBit 1 i = false := by
          rw [show (1 : Nat) = 2 ^ 0 from rfl, Nat.testBit_two_pow]
          exact decide_eq_false (fun q => hi0 q.symm)
        rw [this, Bool.and_false]
      rw [e1, Bool.and_false]
theorem gb_sar {x : Int32} {t : Nat} (ht : t < 32) : gb (x >>> (nI t &&& 31)) 0 = gb x t := by
  unfold gb
  rw [Int32.toBitVec_shiftRight, sh_amt t ht, BitVec.getLsbD_sshiftRight', sh_nat t ht, Nat.add_zero, if_pos ht]
  rfl
theorem gb_sl {t u : Nat} (ht : t < 32) (hu : u < 32) : gb ((1 : Int32) <<< (nI t &&& 31)) u = decide (u = t) := by
  unfold gb
  rw [Int32.toBitVec_shiftLeft, sh_amt t ht, BitVec.getLsbD_shiftLeft', sh_nat t ht]
  show (decide (u < 32) && !decide (u < t) && (BitVec.ofNat 32 1).getLsbD (u - t)) = _
  rw [BitVec.getLsbD_ofNat, show (1 : Nat) = 2 ^ 0 from rfl, Nat.testBit_two_pow]
  by_cases h : u = t
  · subst h
    simp [hu]
  · by_cases h2 : u < t
    · simp [h, h2]
    · simp [h, show ¬ 0 = u - t by omega]
theorem gb_or {x y : Int32} {u : Nat} : gb (x ||| y) u = (gb x u || gb y u) := by
  unfold gb; rw [Int32.toBitVec_or, BitVec.getLsbD_or]
theorem gb_and {x y : Int32} {u : Nat} : gb (x &&& y) u = (gb x u && gb y u) := by
  unfold gb; rw [Int32.toBitVec_and, BitVec.getLsbD_and]
theorem gb_xm {x : Int32} {u : Nat} (hu : u < 32) : gb (x ^^^ (-1 : Int32)) u = !gb x u := by
  unfold gb
  rw [Int32.toBitVec_xor, BitVec.getLsbD_xor, show (-1 : Int32).toBitVec = BitVec.allOnes 32 from rfl, BitVec.getLsbD_allOnes, decide_eq_true hu, Bool.xor_true]
theorem gb_0 {u : Nat} : gb (0 : Int32) u = false := BitVec.getLsbD_zero
theorem gb_ext {x y : Int32} (h : ∀ u, u < 32 → gb x u = gb y u) : x = y := by
  apply Int32.toBitVec_inj.mp
  exact BitVec.eq_of_getLsbD_eq h
theorem gb_n {n u : Nat} (hu : u < 32) : gb (nI n) u = n.testBit u := by
  show (BitVec.ofNat 32 n).getLsbD u = _
  rw [BitVec.getLsbD_ofNat, decide_eq_true hu, Bool.true_and]
theorem gb_ins {x : Int32} {t u : Nat} (ht : t < 32) (hu : u < 32) : gb (x ||| ((1 : Int32) <<< (nI t &&& 31))) u = (gb x u || decide (u = t)) := by
  rw [gb_or, gb_sl ht hu]
theorem gb_rem {x : Int32} {t u : Nat} (ht : t < 32) (hu : u < 32) : gb (x &&& (((1 : Int32) <<< (nI t &&& 31)) ^^^ (-1 : Int32))) u = (gb x u && !decide (u = t)) := by
  rw [gb_and, gb_xm hu, gb_sl ht hu]
theorem z_ush_gb {x : Int32} {t : Nat} (ht : t < 32) : gb (z_ush x (nI t)) 0 = gb x t := by
  have h : ∀ t : Nat, t < 32 → ((nI t).toUInt32 &&& Int32.toUInt32 31).toBitVec % 32 = BitVec.ofNat 32 t := by decide +kernel
  unfold gb z_ush
  show (x.toUInt32.toBitVec >>> (((nI t).toUInt32 &&& Int32.toUInt32 31).toBitVec % 32)).getLsbD 0 = _
  rw [h t ht, BitVec.ushiftRight_eq', BitVec.getLsbD_ushiftRight, sh_nat t ht, Nat.add_zero]
  rfl
theorem e_has {x : Int32} {t : Nat} {M : zMM} (ht : t < 32) : f_X7_has x (nI t) M = some (if gb x t = true then (1 : Int32) else 0, M) := by
  unfold f_X7_has
  by_cases h : gb x t = true
  · rw [if_pos h, if_neg (fun q => by rw [gb_and1, z_ush_gb ht, h] at q; exact absurd q (by decide))]
  · rw [if_neg h, if_pos ((gb_and1 _).mpr (by rw [z_ush_gb ht]; simpa using h))]
theorem e_sar0 {x : Int32} {t : Nat} (ht : t < 32) : ((x >>> (nI t &&& 31)) &&& (1 : Int32) = 0) ↔ gb x t = false := by
  rw [gb_and1, gb_sar ht]
theorem e_sar1 {x : Int32} {t : Nat} (ht : t < 32) : ((x >>> (nI t &&& 31)) &&& (1 : Int32) = 1) ↔ gb x t = true := by
  rw [gb_and1', gb_sar ht]
/-! the least -/
def z_ls (p : Nat → Prop) (x : Int32) : Prop := (x = -1 ∧ ∀ v, ¬ p v) ∨ ∃ v, x = nI v ∧ v < 10000 ∧ p v ∧ ∀ w, p w → v ≤ w
theorem nI_m1 {v : Nat} (h : v < 2 ^ 31) : ¬ nI v = -1 := by
  intro q
  have := congrArg Int32.toInt q
  rw [nI_toInt h] at this
  have e : (-1 : Int32).toInt = -1 := rfl
  omega
theorem z_ls.inj {p : Nat → Prop} {x y : Int32} (hx : z_ls p x) (hy : z_ls p y) : x = y := by
  rcases hx with ⟨rfl, hx⟩ | ⟨v, rfl, -, pv, lv⟩ <;> rcases hy with ⟨rfl, hy⟩ | ⟨w, rfl, -, pw, lw⟩
  · rfl
  · exact absurd pw (hx w)
  · exact absurd pv (hy v)
  · rw [Nat.le_antisymm (lv w pw) (lw v pv)]
theorem z_ls.congr {p r : Nat → Prop} {x : Int32} (h : ∀ v, p v ↔ r v) (hx : z_ls p x) : z_ls r x := by
  rcases hx with ⟨rfl, hx⟩ | ⟨v, rfl, b, pv, lv⟩
  · exact Or.inl ⟨rfl, fun v q => hx v ((h v).mpr q)⟩
  · exact Or.inr ⟨v, rfl, b, (h v).mp pv, fun w q => lv w ((h w).mpr q)⟩
theorem z_ls.ex {p : Nat → Prop} (hb : ∀ v, p v → v < 10000) : ∃ x, z_ls p x := by
  by_cases h : ∃ v, p v
  · obtain ⟨v, hv⟩ := h
    have key : ∀ n, ∀ v, v < n → p v → ∃ w, p w ∧ ∀ u, p u → w ≤ u := by
      intro n
      induction n with
      | zero => intro v hv; omega
      | succ n ih =>
        intro v hv pv
        by_cases hh : ∃ u, u < n ∧ p u
        · obtain ⟨u, hu, pu⟩ := hh
          exact ih u hu pu
        · refine ⟨v, pv, fun u pu => ?_⟩
          by_cases hu : u < n
          · exact absurd ⟨u, hu, pu⟩ hh
          · omega
    obtain ⟨w, pw, lw⟩ := key (v + 1) v (by omega) hv
    exact ⟨nI w, Or.inr ⟨w, rfl, hb w pw, pw, lw⟩⟩
  · exact ⟨-1, Or.inl ⟨rfl, fun v pv => h ⟨v, pv⟩⟩⟩
def zl (y x : Int32) : Prop := y ≠ -1 ∧ (x = -1 ∨ y < x)
theorem e_less {y x : Int32} {M : zMM} : (zl y x ∧ f_X7_isLess y x M = some ((1 : Int32), M)) ∨ (¬ zl y x ∧ f_X7_isLess y x M = some ((0 : Int32), M)) := by
  unfold f_X7_isLess zl
  by_cases h1 : y = -1
  · right; rw [if_pos h1]; exact ⟨fun q => q.1 h1, rfl⟩
  · rw [if_neg h1]
    by_cases h2 : x = -1
    · left; rw [if_pos h2]; exact ⟨⟨h1, Or.inl h2⟩, rfl⟩
    · rw [if_neg h2]
      by_cases h3 : x ≤ y
      · right; rw [if_pos h3]
        exact ⟨fun q => q.2.elim h2 (fun z => Int32.not_lt.mpr h3 z), rfl⟩
      · left; rw [if_neg h3]
        exact ⟨⟨h1, Or.inr (Int32.not_le.mp h3)⟩, rfl⟩
theorem z_ls.less {p r : Nat → Prop} {x y : Int32} (hx : z_ls p x) (hy : z_ls r y) : (zl y x → z_ls (fun v => p v ∨ r v) y) ∧ (¬ zl y x → z_ls (fun v => p v ∨ r v) x) := by
  rcases hy with ⟨rfl, hy⟩ | ⟨w, rfl, bw, pw, lw⟩
  · refine ⟨fun q => absurd rfl q.1, fun _ => hx.congr (fun v => ⟨Or.inl, fun q => q.elim id (fun z => absurd z (hy v))⟩)⟩
  · rcases hx with ⟨rfl, hx⟩ | ⟨v, rfl, bv, pv, lv⟩
    · refine ⟨fun _ => Or.inr ⟨w, rfl, bw, Or.inr pw, fun u q => q.elim (fun z => absurd z (hx u)) (lw u)⟩, fun q => absurd ⟨nI_m1 (by omega), Or.inl rfl⟩ q⟩
    · constructor
      · intro q
        have hlt : w < v := (nI_ltI (by omega) (by omega)).mp (q.2.elim (fun z => absurd z (nI_m1 (by omega))) id)
        exact Or.inr ⟨w, rfl, bw, Or.inr pw, fun u q => q.elim (fun z => Nat.le_trans (Nat.le_of_lt hlt) (lv u z)) (lw u)⟩
      · intro q
        have hge : v ≤ w := by
          apply Nat.not_lt.mp
          intro z
          exact q ⟨nI_m1 (by omega), Or.inr ((nI_ltI (by omega) (by omega)).mpr z)⟩
        exact Or.inr ⟨v, rfl, bv, Or.inl pv, fun u q => q.elim (lv u) (fun z => Nat.le_trans hge (lw u z))⟩
theorem z_ls.none {p : Nat → Prop} (h : ∀ v, ¬ p v) : z_ls p (-1) := Or.inl ⟨rfl, h⟩
/-- one more for all -/
theorem z_ls.add {p : Nat → Prop} {x : Int32} {a : Nat} (ha : a < 1000) (hb : ∀ v, p v → v < 9000) (hx : z_ls p x) : (x = -1 → z_ls (fun v => ∃ w, v = a + w ∧ p w) (-1)) ∧ (x ≠ -1 → z_ls (fun v => ∃ w, v = a + w ∧ p w) (nI a + x)) := by
  rcases hx with ⟨rfl, hx⟩ | ⟨v, rfl, bv, pv, lv⟩
  · exact ⟨fun _ => z_ls.none (fun v ⟨w, _, q⟩ => hx w q), fun q => absurd rfl q⟩
  · refine ⟨fun q => absurd q (nI_m1 (by omega)), fun _ => Or.inr ⟨a + v, nI_add a v, by have := hb v pv; omega, ⟨v, rfl, pv⟩, ?_⟩⟩
    rintro u ⟨w, rfl, pw⟩
    have := lv w pw
    omega
