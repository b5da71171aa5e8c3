/-! ===== the class's price: sets of needs, thing by thing ===== -/
def sv (v : Nat) : Int32 := if v < 100 then nI v else -1
theorem z_bd_m1q {x : Int32} {hi : Int} (h : z_bd x (-1) hi) (hn : ¬ x = -1) : ∃ v : Nat, v < 2 ^ 31 ∧ x = nI v ∧ x.toNatClampNeg = v ∧ (v : Int) ≤ hi := by
  have h0 : ¬ x < 0 := by
    intro q
    rw [Int32.lt_iff_toInt_lt] at q
    have q' : x.toInt < 0 := q
    have := h.1
    exact hn (Int32.toInt_inj.mp (show x.toInt = -1 by omega))
  obtain ⟨m, hm, rfl⟩ := nI_of h0
  refine ⟨m, hm, rfl, nI_clamp hm, ?_⟩
  have := h.2
  rw [nI_toInt hm] at this
  exact this
def j_lkU (M : zMM) : Prop := ∀ a, a < 20 → ∀ b, b < 20 → (a = b ∧ M 65 (20 * a + b) = 0 ∧ M 121 (20 * a + b) = -1) ∨ (a ≠ b ∧ M 65 (20 * a + b) = M 121 (20 * a + b) ∧ z_bd (M 121 (20 * a + b)) (-1) 99)
theorem sm_le {M : zMM} (h : j_lkU M) {a b : Nat} (ha : a < 20) (hb : b < 20) : sm_ M a b ≤ 100 ∧ M 65 (20 * a + b) = sv (sm_ M a b) ∧ (a ≠ b → M 121 (20 * a + b) = sv (sm_ M a b)) := by
  rcases h a ha b hb with ⟨h0, h1, h2⟩ | ⟨hne, h1, h2⟩
  · have e : sm_ M a b = 0 := if_pos h0
    rw [e]
    exact ⟨by omega, h1, fun q => absurd h0 q⟩
  · by_cases h3 : M 121 (20 * a + b) = -1
    · have e : sm_ M a b = 100 := by unfold sm_; rw [if_neg hne, if_pos h3]
      rw [e]
      exact ⟨by omega, h1.trans h3, fun _ => h3⟩
    · obtain ⟨v, hv, e1, e2, e3⟩ := z_bd_m1q h2 h3
      have e : sm_ M a b = v := by unfold sm_; rw [if_neg hne, if_neg h3, e2]
      have e4 : sv v = nI v := if_pos (by omega)
      rw [e, e4]
      exact ⟨by omega, h1.trans e1, fun _ => e1⟩
theorem sv_m1 {v : Nat} : sv v = -1 ↔ 100 ≤ v := by
  unfold sv
  by_cases h : v < 100
  · rw [if_pos h]
    exact ⟨fun q => absurd q (nI_m1 (by omega)), fun q => by omega⟩
  · rw [if_neg h]
    exact ⟨fun _ => by omega, fun _ => rfl⟩
theorem sv_lt {v : Nat} (h : v < 100) : sv v = nI v := if_pos h
def nm_ (M : zMM) (p : Nat) : Nat := (M 120 p).toNatClampNeg
theorem e_play {k : Nat} {M : zMM} (hI : z_I k M) {p : Nat} (hp : p < tp M) : p < 4 ∧ M 63 p = nI (nm_ M p) ∧ M 120 p = nI (nm_ M p) ∧ 1 ≤ nm_ M p ∧ nm_ M p ≤ 4 ∧ ∀ j, j < nm_ M p → M 64 (4 * p + j) = nI (nd_ M p j) ∧ M 119 (4 * p + j) = nI (nd_ M p j) ∧ nd_ M p j < 20 := by
  have h4 := tp_le hI.j_cnt
  obtain ⟨h1, h2, h3, h5, h6⟩ := hI.j_play p hp
  obtain ⟨m, hm, e1, e2, e3⟩ := (show z_bd (M 120 p) 0 4 from ⟨by have := h5.1; omega, h5.2⟩).nI
  have en : nm_ M p = m := e2
  have h51 := h5.1
  rw [e1, nI_toInt hm] at h51
  refine ⟨by omega, by rw [h3, en]; exact e1, by rw [en]; exact e1, by omega, by omega, fun j hj => ?_⟩
  obtain ⟨g1, g2⟩ := h6 j hj
  obtain ⟨v, hv, f1, f2, f3⟩ := g2.nI
  have ed : nd_ M p j = v := f2
  rw [ed]
  exact ⟨g1.trans f1, f1, by omega⟩
theorem e_need {k : Nat} {M : zMM} (hI : z_I k M) {p j : Nat} (hp : p < tp M) (hj : j < nm_ M p) : f_X5_needOf_53 (nI p) (nI j) M = some (nI (nd_ M p j), M) := by
  obtain ⟨a1, a2, a3, a4, a5, a6⟩ := e_play hI hp
  unfold f_X5_needOf_53
  rw [show nI p * (4 : Int32) = nI (p * 4) from nI_mul p 4, nI_add, z_at_nI (by decide) (by omega), Nat.mul_comm, (a6 j hj).1]
theorem e_shame {M : zMM} (h : j_lkU M) {a b : Nat} (ha : a < 20) (hb : b < 20) : f_X5_shameOf_53 (nI a) (nI b) M = some (sv (sm_ M a b), M) := by
  unfold f_X5_shameOf_53
  rw [show nI a * (20 : Int32) = nI (a * 20) from nI_mul a 20, nI_add, z_at_nI (by decide) (by omega), Nat.mul_comm, (sm_le h ha hb).2.1]
theorem e_bc {M : zMM} : ∀ s, s < 16 → f_J6_bitCount_0f7a4 (nI s) M = some (nI (pc4 s), M) := by
  intro s hs
  have : s = 0 ∨ s = 1 ∨ s = 2 ∨ s = 3 ∨ s = 4 ∨ s = 5 ∨ s = 6 ∨ s = 7 ∨ s = 8 ∨ s = 9 ∨ s = 10 ∨ s = 11 ∨ s = 12 ∨ s = 13 ∨ s = 14 ∨ s = 15 := by omega
  rcases this with rfl | rfl | rfl | rfl | rfl | rfl | rfl | rfl | rfl | rfl | rfl | rfl | rfl | rfl | rfl | rfl <;> rfl
theorem e_low {M : zMM} {n : Nat} (hn : n ≤ 10) : f_X7_lowBits (nI n) M = some (nI (2 ^ n - 1), M) := by
  have key : ∀ n : Nat, n < 11 → ((1 : Int32) <<< (nI n &&& 31)) - (1 : Int32) = nI (2 ^ n - 1) := by decide +kernel
  unfold f_X7_lowBits
  rw [key n (by omega)]
theorem b4_or : ∀ s : Nat, s < 16 → ∀ d : Nat, d < 4 → nI s ||| ((1 : Int32) <<< (nI d &&& 31)) = nI (if s.testBit d = true then s else s + 2 ^ d) := by decide +kernel
theorem b4_lt : ∀ n : Nat, n < 5 → ∀ s : Nat, s < 2 ^ n → ∀ d : Nat, d < n → s.testBit d = true ∨ s + 2 ^ d < 2 ^ n := by decide +kernel
theorem b4_eq : ∀ S : Nat, S < 16 → ∀ s : Nat, s < 16 → ∀ j : Nat, j < 4 → ((S.testBit j = true ∧ S - 2 ^ j = s) ↔ (s.testBit j = false ∧ S = s + 2 ^ j)) := by decide +kernel
theorem b4_bit0 : ∀ n : Nat, n < 5 → ∀ S : Nat, S < 2 ^ n → ∀ j : Nat, j < 4 → (S.testBit j = false ∨ (j < n ∧ S - 2 ^ j < 2 ^ n ∧ S - 2 ^ j < S)) := by decide +kernel
theorem b4_bit (n : Nat) (hn : n < 5) (S : Nat) (hS : S < 2 ^ n) (j : Nat) (hj : j < 4) (h : S.testBit j = true) : j < n ∧ S - 2 ^ j < 2 ^ n ∧ S - 2 ^ j < S :=
  (b4_bit0 n hn S hS j hj).resolve_left (fun q => by rw [h] at q; exact absurd q (by decide))
/-- one set is led on by all needs -/
theorem e_fill1 {K5 : Int32 → Int32 → zMM → Option zMM} {n s : Nat} (hn : n ≤ 4) (hs : s < 2 ^ n) {f : Nat → Nat} {P : Nat → Nat → Prop} {x : Int32} (hx : z_ls (P s) x) (hb : ∀ v, P s v → v < 1000) :
    ∀ k d, d + k = n → ∀ fu M, k < fu → (∀ j, j < n → M 86 j = sv (f j)) → (∀ S, S < 2 ^ n → z_ls (fun v => P S v ∨ ∃ j w, j < d ∧ s.testBit j = false ∧ S = s + 2 ^ j ∧ f j < 100 ∧ v = f j + w ∧ P s w) (M 85 S)) →
    ∃ M', f_X2_fillBy_83_p21 K5 fu (nI n) (nI s) x (nI d) M = K5 (nI n) (nI s + (-1 : Int32)) M' ∧ (∀ a b, a ≠ 85 → M' a b = M a b) ∧ ∀ S, S < 2 ^ n → z_ls (fun v => P S v ∨ ∃ j w, j < n ∧ s.testBit j = false ∧ S = s + 2 ^ j ∧ f j < 100 ∧ v = f j + w ∧ P s w) (M' 85 S) := by
  have h16 : 2 ^ n ≤ 16 := Nat.pow_le_pow_right (n := 2) (by decide) hn
  intro k
  induction k with
  | zero =>
    intro d hd fu M hk h86 h85
    obtain ⟨fu, rfl⟩ : ∃ m, fu = m + 1 := ⟨fu - 1, by omega⟩
    have : d = n := by omega
    rw [this] at h85 ⊢
    exact ⟨M, if_pos (nI_le (Nat.le_refl _) (by omega)), fun _ _ _ => rfl, h85⟩
  | succ k ih =>
    intro d hd fu M hk h86 h85
    obtain ⟨fu, rfl⟩ : ∃ m, fu = m + 1 := ⟨fu - 1, by omega⟩
    unfold f_X2_fillBy_83_p21
    rw [if_neg (nI_ge (by omega) (by omega))]
    by_cases hx1 : x = -1
    · rw [if_pos hx1]
      refine ⟨M, rfl, fun _ _ _ => rfl, fun S hS => ?_⟩
      have hno : ∀ w, ¬ P s w := by
        rcases hx with ⟨-, hx⟩ | ⟨v, hv, hv2, -⟩
        · exact hx
        · rw [hv] at hx1; exact absurd hx1 (nI_m1 (by omega))
      exact (h85 S hS).congr (fun v => ⟨fun q => q.elim Or.inl (fun ⟨j, w, _, _, _, _, _, q⟩ => absurd q (hno w)), fun q => q.elim Or.inl (fun ⟨j, w, _, _, _, _, _, q⟩ => absurd q (hno w))⟩)
    · rw [if_neg hx1, b4_or s (by omega) d (by omega), z_at_nI (by decide) (by omega), h86 d (by omega), nI_1]
      have skip : (s.testBit d = true ∨ 100 ≤ f d) → ∃ M', f_X2_fillBy_83_p21 K5 fu (nI n) (nI s) x (nI (d + 1)) M = K5 (nI n) (nI s + (-1 : Int32)) M' ∧ (∀ a b, a ≠ 85 → M' a b = M a b) ∧ ∀ S, S < 2 ^ n → z_ls (fun v => P S v ∨ ∃ j w, j < n ∧ s.testBit j = false ∧ S = s + 2 ^ j ∧ f j < 100 ∧ v = f j + w ∧ P s w) (M' 85 S) := by
        intro hsk
        refine ih (d + 1) (by omega) fu M (by omega) h86 (fun S hS => (h85 S hS).congr (fun v => ⟨fun q => q.elim Or.inl (fun ⟨j, w, h1, h2⟩ => Or.inr ⟨j, w, by omega, h2⟩), fun q => q.elim Or.inl ?_⟩))
        rintro ⟨j, w, h1, h2, h3, h4, h5⟩
        by_cases hj : j = d
        · rw [hj] at h2 h4
          rcases hsk with z | z
          · rw [z] at h2; exact absurd h2 (by decide)
          · omega
        · exact Or.inr ⟨j, w, by omega, h2, h3, h4, h5⟩
      by_cases hbit : s.testBit d = true
      · rw [if_pos hbit, if_pos rfl]
        exact skip (Or.inl hbit)
      · have hlt := (b4_lt n (by omega) s hs d (by omega)).resolve_left hbit
        rw [if_neg hbit, if_neg (fun q => by
          have := (nI_eq (by omega) (by omega)).mp q
          have : 0 < 2 ^ d := Nat.pow_pos (by decide)
          omega)]
        by_cases hf : 100 ≤ f d
        · rw [if_pos (sv_m1.mpr hf)]
          exact skip (Or.inr hf)
        · rw [if_neg (fun q => hf (sv_m1.mp q)), sv_lt (by omega), z_at_nI (by decide) (by omega)]
          have hadd := (hx.add (a := f d) (by omega) (fun v q => by have := hb v q; omega)).2 hx1
          rw [Int32.add_comm x (nI (f d))]
          have hls := (h85 (s + 2 ^ d) hlt).less hadd
          have hbf : s.testBit d = false := by simpa using hbit
          have up : ∀ M2 : zMM, (∀ a b, a ≠ 85 → M2 a b = M a b) → (∀ b, b ≠ s + 2 ^ d → M2 85 b = M 85 b) → z_ls (fun v => (P (s + 2 ^ d) v ∨ ∃ j w, j < d ∧ s.testBit j = false ∧ s + 2 ^ d = s + 2 ^ j ∧ f j < 100 ∧ v = f j + w ∧ P s w) ∨ ∃ w, v = f d + w ∧ P s w) (M2 85 (s + 2 ^ d)) → ∃ M', f_X2_fillBy_83_p21 K5 fu (nI n) (nI s) x (nI (d + 1)) M2 = K5 (nI n) (nI s + (-1 : Int32)) M' ∧ (∀ a b, a ≠ 85 → M' a b = M a b) ∧ ∀ S, S < 2 ^ n → z_ls (fun v => P S v ∨ ∃ j w, j < n ∧ s.testBit j = false ∧ S = s + 2 ^ j ∧ f j < 100 ∧ v = f j + w ∧ P s w) (M' 85 S) := by
            intro M2 hM2 hM85 hnew
            obtain ⟨M', e1, e2, e3⟩ := ih (d + 1) (by omega) fu M2 (by omega) (fun j hj => by rw [hM2 86 j (by decide)]; exact h86 j hj) (fun S hS => by
              by_cases hSd : S = s + 2 ^ d
              · rw [hSd]
                refine hnew.congr (fun v => ⟨?_, ?_⟩)
                · rintro ((q | ⟨j, w, h1, h2⟩) | ⟨w, h1, h2⟩)
                  · exact Or.inl q
                  · exact Or.inr ⟨j, w, by omega, h2⟩
                  · exact Or.inr ⟨d, w, by omega, hbf, rfl, by omega, h1, h2⟩
                · rintro (q | ⟨j, w, h1, h2, h3, h4, h5, h6⟩)
                  · exact Or.inl (Or.inl q)
                  · by_cases hjd : j = d
                    · rw [hjd] at h5
                      exact Or.inr ⟨w, h5, h6⟩
                    · exact Or.inl (Or.inr ⟨j, w, by omega, h2, h3, h4, h5, h6⟩)
              · rw [hM85 S hSd]
                refine (h85 S hS).congr (fun v => ⟨fun q => q.elim Or.inl (fun ⟨j, w, h1, h2⟩ => Or.inr ⟨j, w, by omega, h2⟩), fun q => q.elim Or.inl ?_⟩)
                rintro ⟨j, w, h1, h2, h3, h4, h5⟩
                by_cases hjd : j = d
                · rw [hjd] at h3; exact absurd h3 hSd
                · exact Or.inr ⟨j, w, by omega, h2, h3, h4, h5⟩)
            exact ⟨M', e1, fun a b hab => (e2 a b hab).trans (hM2 a b hab), e3⟩
          rcases e_less (y := nI (f d) + x) (x := M 85 (s + 2 ^ d)) (M := M) with ⟨hz, e⟩ | ⟨hz, e⟩
          · rw [e, z_bi_s, if_neg (by decide), z_pt_nI (by decide) (by omega), z_bv_s]
            refine up _ (fun a b hab => z_up_o hab) (fun b hb => z_up_n hb) ?_
            rw [z_up_s]
            exact hls.1 hz
          · rw [e, z_bi_s, if_pos rfl]
            exact up M (fun _ _ _ => rfl) (fun _ _ => rfl) (hls.2 hz)
/-- a thing joins: what it may fill -/
theorem e_fillBy {n m : Nat} (hn : n ≤ 4) {q : Nat → Nat → Nat} {L : Nat → Bool} : ∀ c, c ≤ 2 ^ n → ∀ fu M, c < fu → (∀ j, j < n → M 86 j = sv (q m j)) →
    (∀ S, S < 2 ^ n → z_ls (fun v => zA q m L S v ∨ ∃ j w, j < 4 ∧ S.testBit j = true ∧ q m j < 100 ∧ v = q m j + w ∧ zA q m L (S - 2 ^ j) w ∧ c ≤ S - 2 ^ j) (M 85 S)) →
    ∃ M', f_X2_fillBy_83_p5 fu (nI n) (nI c + (-1 : Int32)) M = some M' ∧ (∀ a b, a ≠ 85 → M' a b = M a b) ∧ ∀ S, S < 2 ^ n → z_ls (fun v => zA q m L S v ∨ ∃ j w, j < 4 ∧ S.testBit j = true ∧ q m j < 100 ∧ v = q m j + w ∧ zA q m L (S - 2 ^ j) w) (M' 85 S) := by
  have h16 : 2 ^ n ≤ 16 := Nat.pow_le_pow_right (n := 2) (by decide) hn
  intro c
  induction c with
  | zero =>
    intro _ fu M hk h86 h85
    obtain ⟨fu, rfl⟩ : ∃ m, fu = m + 1 := ⟨fu - 1, by omega⟩
    refine ⟨M, if_pos (by decide), fun _ _ _ => rfl, fun S hS => (h85 S hS).congr (fun v => ⟨?_, ?_⟩)⟩
    · rintro (z | ⟨j, w, h1, h2, h3, h4, h5, -⟩)
      · exact Or.inl z
      · exact Or.inr ⟨j, w, h1, h2, h3, h4, h5⟩
    · rintro (z | ⟨j, w, h1, h2, h3, h4, h5⟩)
      · exact Or.inl z
      · exact Or.inr ⟨j, w, h1, h2, h3, h4, h5, Nat.zero_le _⟩
  | succ s ih =>
    intro hc fu M hk h86 h85
    obtain ⟨fu, rfl⟩ : ∃ m, fu = m + 1 := ⟨fu - 1, by omega⟩
    have e1 : nI (s + 1) + (-1 : Int32) = nI s := by
      rw [show nI (s + 1) + (-1 : Int32) = nI (s + 1) - 1 from (Int32.sub_eq_add_neg _ _).symm, nI_pred]
    rw [e1]
    unfold f_X2_fillBy_83_p5
    rw [if_neg (nI_pos (by omega)), z_at_nI (by decide) (by omega)]
    have hself : ∀ v, (zA q m L s v ∨ ∃ j w, j < 4 ∧ s.testBit j = true ∧ q m j < 100 ∧ v = q m j + w ∧ zA q m L (s - 2 ^ j) w ∧ s + 1 ≤ s - 2 ^ j) ↔ zA q m L s v := by
      intro v
      refine ⟨fun z => z.elim id (fun ⟨j, w, h1, h2, h3, h4, h5, h6⟩ => absurd (Nat.le_trans h6 (Nat.sub_le s (2 ^ j))) (Nat.not_succ_le_self s)), Or.inl⟩
    obtain ⟨M', a1, a2, a3⟩ := e_fill1 (K5 := f_X2_fillBy_83_p5 fu) hn (s := s) (by omega) (f := q m) (P := fun S v => zA q m L S v ∨ ∃ j w, j < 4 ∧ S.testBit j = true ∧ q m j < 100 ∧ v = q m j + w ∧ zA q m L (S - 2 ^ j) w ∧ s + 1 ≤ S - 2 ^ j) (x := M 85 s) (h85 s (by omega)) (fun v z => by
      have := ((hself v).mp z).bd (by omega)
      have := b4_pc s (by omega)
      omega) n 0 (by omega) z_fuel M (by unfold z_fuel; omega) h86 (fun S hS => (h85 S hS).congr (fun v => ⟨Or.inl, fun z => z.elim id (fun ⟨j, w, h1, _⟩ => absurd h1 (by omega))⟩))
    rw [show f_X2_fillBy_83_p21 (f_X2_fillBy_83_p5 fu) z_fuel (nI n) (nI s) (M 85 s) (0 : Int32) M = _ from a1]
    have hnew : ∀ S, S < 2 ^ n → z_ls (fun v => zA q m L S v ∨ ∃ j w, j < 4 ∧ S.testBit j = true ∧ q m j < 100 ∧ v = q m j + w ∧ zA q m L (S - 2 ^ j) w ∧ s ≤ S - 2 ^ j) (M' 85 S) := by
      intro S hS
      refine (a3 S hS).congr (fun v => ⟨?_, ?_⟩)
      · rintro ((z | ⟨j, w, h1, h2, h3, h4, h5, h6⟩) | ⟨j, w, h1, h2, h3, h4, h5, h6⟩)
        · exact Or.inl z
        · exact Or.inr ⟨j, w, h1, h2, h3, h4, h5, by omega⟩
        · obtain ⟨c1, c2⟩ := (b4_eq S (by omega) s (by omega) j (by omega)).mpr ⟨h2, h3⟩
          refine Or.inr ⟨j, w, by omega, c1, h4, h5, by rw [c2]; exact (hself w).mp h6, by omega⟩
      · rintro (z | ⟨j, w, h1, h2, h3, h4, h5, h6⟩)
        · exact Or.inl (Or.inl z)
        · by_cases hs1 : s + 1 ≤ S - 2 ^ j
          · exact Or.inl (Or.inr ⟨j, w, h1, h2, h3, h4, h5, hs1⟩)
          · have hse : S - 2 ^ j = s := by omega
            obtain ⟨c1, c2⟩ := (b4_eq S (by omega) s (by omega) j h1).mp ⟨h2, hse⟩
            rw [hse] at h5
            exact Or.inr ⟨j, w, (b4_bit n (by omega) S hS j h1 h2).1, c1, c2, h3, h4, (hself w).mpr h5⟩
    obtain ⟨M2, b1, b2, b3⟩ := ih (by omega) fu M' (by omega) (fun j hj => by rw [a2 86 j (by decide)]; exact h86 j hj) hnew
    exact ⟨M2, b1, fun a b hab => (b2 a b hab).trans (a2 a b hab), b3⟩
