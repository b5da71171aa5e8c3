/-! ===== a tour: where a trunk can be ===== -/
def nT (M : zMM) (n : Nat) : Nat := (M 137 n).toNatClampNeg
def nD (M : zMM) (n : Nat) : Nat := (M 136 n).toNatClampNeg
def nP (M : zMM) (n : Nat) : Nat := (M 138 n).toNatClampNeg
def cbq (M : zMM) (s : Nat) : Nat → Nat → Nat → Nat → Prop
  | 0, _, _, _ => True
  | k + 1, n, a, f => (s.testBit n = true ∧ n < ni M ∧ wd M a (nT M n) < 1000 ∧ f + wd M a (nT M n) ≤ nD M n ∧ cbq M s k (n + 1) (nT M n) (nD M n)) ∨ (s.testBit n = false ∧ cbq M s k (n + 1) a f)
def pl_ (M : zMM) (t : Nat) : Nat := (M 124 t).toNatClampNeg
def fr_ (M : zMM) (t : Nat) : Nat := max (M 107 29).toNatClampNeg (M 125 t).toNatClampNeg
def ftq (M : zMM) (t s : Nat) : Prop := cbq M s 4 0 (pl_ M t) (fr_ M t)
theorem e_night {k : Nat} {M : zMM} (hI : z_I k M) {n : Nat} (hn : n < ni M) : n < 4 ∧ M 90 n = nI (nD M n) ∧ M 136 n = nI (nD M n) ∧ nD M n ≤ 99 ∧ M 91 n = nI (nT M n) ∧ M 137 n = nI (nT M n) ∧ nT M n < tw M ∧ M 92 n = nI (nP M n) ∧ M 138 n = nI (nP M n) ∧ nP M n < tp M := by
  obtain ⟨h1, h2, h3, h4⟩ := hI.j_night
  obtain ⟨m, hm, e1, e2, e3⟩ := h2.nI
  have en : ni M = m := e2
  obtain ⟨g1, g2, g3, g4, g5, g6, g7, g8⟩ := h3 n hn
  obtain ⟨v, hv, f1, f2, f3⟩ := g2.nI
  have d1 : nD M n = v := f2
  obtain ⟨w, hw, e4⟩ := nI_of (x := M 137 n) (by rw [Int32.lt_iff_toInt_lt]; show ¬ (M 137 n).toInt < 0; omega)
  obtain ⟨w', hw', e5⟩ := nI_of (x := M 138 n) (by rw [Int32.lt_iff_toInt_lt]; show ¬ (M 138 n).toInt < 0; omega)
  have d2 : nT M n = w := by unfold nT; rw [e4, nI_clamp hw]
  have d3 : nP M n = w' := by unfold nP; rw [e5, nI_clamp hw']
  rw [e4, nI_clamp hw] at g5
  rw [e5, nI_clamp hw'] at g8
  rw [d1, d2, d3, g1, g3, g6]
  exact ⟨by omega, f1, f1, by omega, e4, e4, g5, e5, e5, g8⟩
theorem e_ni {k : Nat} {M : zMM} (hI : z_I k M) : ni M ≤ 4 ∧ M 87 5 = nI (ni M) ∧ M 107 32 = nI (ni M) := by
  obtain ⟨h1, h2, h3, h4⟩ := hI.j_night
  obtain ⟨m, hm, e1, e2, e3⟩ := h2.nI
  have en : ni M = m := e2
  rw [en, h1]
  exact ⟨by omega, e1, e1⟩
theorem e_pl {k : Nat} {M : zMM} (hk : k < 600) (hI : z_I k M) {t : Nat} (ht : t < tk M) : t < 5 ∧ M 88 t = nI (pl_ M t) ∧ M 124 t = nI (pl_ M t) ∧ pl_ M t < tw M ∧ z_max (M 87 2) (M 89 t) = nI (fr_ M t) ∧ z_max (M 107 29) (M 125 t) = nI (fr_ M t) ∧ (M 107 29) = nI (M 107 29).toNatClampNeg ∧ (M 107 29).toNatClampNeg ≤ fr_ M t ∧ fr_ M t < 100000 := by
  have h5 := tk_le hI.j_cnt
  obtain ⟨l1, l2, l3, l4, l5⟩ := hI.j_place.1 t ht
  obtain ⟨w, hw, e4⟩ := nI_of (x := M 124 t) (by rw [Int32.lt_iff_toInt_lt]; show ¬ (M 124 t).toInt < 0; omega)
  have d2 : pl_ M t = w := by unfold pl_; rw [e4, nI_clamp hw]
  obtain ⟨d, hd, f1, f2, f3⟩ := hI.j_day.2.nI
  obtain ⟨c, hc, g1, g2, g3⟩ := l5.nI
  have e6 : fr_ M t = max d c := by unfold fr_; rw [f2, g2]
  have e7 : z_max (nI d) (nI c) = nI (max d c) := by
    unfold z_max
    by_cases h : d < c
    · rw [if_pos (nI_lt h hc), show max d c = c by omega]
    · rw [if_neg (nI_nlt (by omega) hd), show max d c = d by omega]
  rw [l1, l4, hI.j_day.1, d2, e6, f1, g1, e7, nI_clamp hd]
  refine ⟨by omega, e4, e4, by unfold pl_ at d2; omega, rfl, rfl, rfl, by omega, by omega⟩
/-- one night alone -/
theorem cb_one {M : zMM} (htri : ∀ a, a < 5 → ∀ b, b < 5 → ∀ c, c < 5 → wd M a b ≤ wd M a c + wd M c b) (hfin : ∀ a, a < 5 → ∀ b, b < 5 → wd M a b = 1000000 ∨ wd M a b < 1000) (hT : ∀ n, n < ni M → nT M n < 5) {s n : Nat} (hn : s.testBit n = true) :
    ∀ k m a f, a < 5 → m ≤ n → n < m + k → cbq M s k m a f → n < ni M ∧ wd M a (nT M n) < 1000 ∧ f + wd M a (nT M n) ≤ nD M n := by
  intro k
  induction k with
  | zero => intro m a f _ h1 h2; omega
  | succ k ih =>
    intro m a f ha h1 h2 h
    rcases h with ⟨b1, b2, b3, b4, b5⟩ | ⟨b1, b2⟩
    · by_cases hm : m = n
      · rw [hm] at b2 b3 b4; exact ⟨b2, b3, b4⟩
      · obtain ⟨c1, c2, c3⟩ := ih (m + 1) (nT M m) (nD M m) (hT m b2) (by omega) (by omega) b5
        have t1 := htri a ha (nT M n) (hT n c1) (nT M m) (hT m b2)
        have t2 := hfin a ha (nT M n) (hT n c1)
        exact ⟨c1, by omega, by omega⟩
    · have hm : m ≠ n := by
        intro z
        rw [z, hn] at b1
        exact absurd b1 (by decide)
      exact ih (m + 1) a f ha (by omega) (by omega) b2
theorem tb_pow : ∀ n : Nat, n < 4 → ∀ m : Nat, m < 5 → (2 ^ n).testBit m = decide (m = n) := by decide +kernel
theorem cb_pow {M : zMM} {n : Nat} (hn4 : n < 4) : ∀ k m a f, m + k = 4 → m ≤ n → n < ni M → wd M a (nT M n) < 1000 → f + wd M a (nT M n) ≤ nD M n → cbq M (2 ^ n) k m a f := by
  have after : ∀ k m a f, m + k = 4 → n < m → cbq M (2 ^ n) k m a f := by
    intro k
    induction k with
    | zero => intro m a f _ _; trivial
    | succ k ih =>
      intro m a f hm h
      refine Or.inr ⟨?_, ih (m + 1) a f (by omega) (by omega)⟩
      rw [tb_pow n hn4 m (by omega)]; exact decide_eq_false (by omega)
  intro k
  induction k with
  | zero => intro m a f hm h; omega
  | succ k ih =>
    intro m a f hm h1 h2 h3 h4
    by_cases hmn : m = n
    · rw [hmn]
      refine Or.inl ⟨?_, h2, h3, h4, after k (n + 1) _ _ (by omega) (by omega)⟩
      rw [tb_pow n hn4 n (by omega)]; exact decide_eq_true rfl
    · refine Or.inr ⟨?_, ih (m + 1) a f (by omega) (by omega) h2 h3 h4⟩
      rw [tb_pow n hn4 m (by omega)]; exact decide_eq_false hmn
theorem ft_pow {k0 : Nat} {M : zMM} (hk : k0 < 600) (hI : z_I k0 M) {t s n : Nat} (ht : t < tk M) (hn : n < 4) (hb : s.testBit n = true) (h : ftq M t s) : n < ni M ∧ ftq M t (2 ^ n) := by
  have h5 := tw_le hI.j_cnt
  obtain ⟨p1, p2, p3, p4, -⟩ := e_pl hk hI ht
  obtain ⟨w1, w2, w3, w4⟩ := hI.j_ways (by omega)
  obtain ⟨c1, c2, c3⟩ := cb_one w3 (fun a ha b hb => (w1 a ha b hb).2.imp (fun z => z.1) (fun z => z.1)) (fun n hn => by have := (e_night hI hn).2.2.2.2.2.2.1; omega) hb 4 0 (pl_ M t) (fr_ M t) (by omega) (by omega) (by omega) h
  exact ⟨c1, cb_pow hn 4 0 _ _ (by omega) (by omega) c1 c2 c3⟩
theorem ft_zero {M : zMM} {t : Nat} : ftq M t 0 := by
  have : ∀ k n a f, cbq M 0 k n a f := by
    intro k
    induction k with
    | zero => intro n a f; trivial
    | succ k ih => intro n a f; exact Or.inr ⟨Nat.zero_testBit n, ih _ _ _⟩
  exact this 4 0 _ _
/-- the class asks -/
theorem e_can7 {k0 : Nat} {M : zMM} (hk : k0 < 600) (hI : z_I k0 M) {s : Nat} : ∀ k n a f, n + k = 4 → a < tw M → f < 100000 → ∀ fu, k < fu → ∃ v, f_X1_canBeThere_103_p38 fu (nI s) (nI a) (nI f) (nI n) M = some (v, M) ∧ ((v = 1 ∧ cbq M s k n a f) ∨ (v = 0 ∧ ¬ cbq M s k n a f)) := by
  have h5 := tw_le hI.j_cnt
  obtain ⟨n1, n2, n3⟩ := e_ni hI
  intro k
  induction k with
  | zero =>
    intro n a f hn ha hf fu hfu
    obtain ⟨fu, rfl⟩ : ∃ m, fu = m + 1 := ⟨fu - 1, by omega⟩
    unfold f_X1_canBeThere_103_p38
    rw [if_pos (show (4 : Int32) ≤ nI n from nI_le (a := 4) (by omega) (by omega))]
    exact ⟨1, rfl, Or.inl ⟨rfl, trivial⟩⟩
  | succ k ih =>
    intro n a f hn ha hf fu hfu
    obtain ⟨fu, rfl⟩ : ∃ m, fu = m + 1 := ⟨fu - 1, by omega⟩
    unfold f_X1_canBeThere_103_p38
    rw [if_neg (show ¬ (4 : Int32) ≤ nI n from nI_ge (b := 4) (by omega) (by decide)), e_has (by omega), z_bi_s, gb_n (by omega), nI_1]
    by_cases hb : s.testBit n = true
    · rw [if_pos hb, if_neg (by decide)]
      have hnf : s.testBit n ≠ false := by rw [hb]; decide
      by_cases hN : n < ni M
      · obtain ⟨c1, c2, c3, c4, c5, c6, c7, c8⟩ := e_night hI hN
        rw [z_at_nI (by decide) (by omega), c5, e_span (by omega) (by omega), z_bi_s, n2, if_neg (nI_ge (by omega) (by omega)), z_at_nI (by decide) (by omega), c2]
        obtain ⟨-, -, w1, w2⟩ := e_way hI ha c7
        rcases w2 with ⟨w2, w3⟩ | ⟨w2, w3⟩
        · rw [w3, if_pos rfl]
          refine ⟨0, rfl, Or.inr ⟨rfl, fun z => ?_⟩⟩
          rcases z with ⟨-, -, z, -⟩ | ⟨z, -⟩
          · omega
          · exact hnf z
        · rw [w3, if_neg (nI_m1 (by omega)), nI_add]
          by_cases hle : f + wd M a (nT M n) ≤ nD M n
          · rw [if_pos (nI_le hle (by omega)), z_at_nI (by decide) (by omega), c5]
            obtain ⟨v, e1, e2⟩ := ih (n + 1) (nT M n) (nD M n) (by omega) c7 (by omega) fu (by omega)
            refine ⟨v, e1, e2.imp (fun z => ⟨z.1, Or.inl ⟨hb, hN, w2, hle, z.2⟩⟩) (fun z => ⟨z.1, fun q => ?_⟩)⟩
            rcases q with ⟨-, -, -, -, q⟩ | ⟨q, -⟩
            · exact z.2 q
            · exact hnf q
          · rw [if_neg (nI_ge (by omega) (by omega))]
            refine ⟨0, rfl, Or.inr ⟨rfl, fun z => ?_⟩⟩
            rcases z with ⟨-, -, -, z, -⟩ | ⟨z, -⟩
            · exact hle z
            · exact hnf z
      · unfold f_X6_span_80
        rw [z_bi_s, n2, if_pos (nI_le (by omega) (by omega))]
        refine ⟨0, rfl, Or.inr ⟨rfl, fun z => ?_⟩⟩
        rcases z with ⟨-, z, -⟩ | ⟨z, -⟩
        · exact hN z
        · exact hnf z
    · have hbf : s.testBit n = false := by simpa using hb
      rw [if_neg hb, if_pos rfl]
      obtain ⟨v, e1, e2⟩ := ih (n + 1) a f (by omega) ha hf fu (by omega)
      refine ⟨v, e1, e2.imp (fun z => ⟨z.1, Or.inr ⟨hbf, z.2⟩⟩) (fun z => ⟨z.1, fun q => ?_⟩)⟩
      rcases q with ⟨q, -⟩ | ⟨-, q⟩
      · exact hb q
      · exact z.2 q
/-- the model asks -/
theorem e_can8 {k0 : Nat} {M : zMM} (hk : k0 < 600) (hI : z_I k0 M) {s : Nat} (hs : ∀ n, ni M ≤ n → n < 4 → s.testBit n = false) {dy : Nat} (hd : M 107 29 = nI dy) (hdl : dy < 100000) : ∀ k n a f, n + k = ni M → a < tw M → f < 100000 → dy ≤ f → ∀ fu, k < fu → ∃ v, f_X8_canBe_107_p25 fu (nI s) (nI a) (nI f) (nI n) M = some (v, M) ∧ ((v = 1 ∧ cbq M s (4 - n) n a f) ∨ (v = 0 ∧ ¬ cbq M s (4 - n) n a f)) := by
  have h5 := tw_le hI.j_cnt
  obtain ⟨n1, n2, n3⟩ := e_ni hI
  have rest : ∀ k n a f, n + k = 4 → ni M ≤ n → cbq M s k n a f := by
    intro k
    induction k with
    | zero => intro n a f _ _; trivial
    | succ k ih => intro n a f h1 h2; exact Or.inr ⟨hs n h2 (by omega), ih (n + 1) a f (by omega) (by omega)⟩
  intro k
  induction k with
  | zero =>
    intro n a f hn ha hf hdf fu hfu
    obtain ⟨fu, rfl⟩ : ∃ m, fu = m + 1 := ⟨fu - 1, by omega⟩
    unfold f_X8_canBe_107_p25
    rw [n3, if_pos (nI_le (by omega) (by omega))]
    exact ⟨1, rfl, Or.inl ⟨rfl, rest (4 - n) n a f (by omega) (by omega)⟩⟩
  | succ k ih =>
    intro n a f hn ha hf hdf fu hfu
    obtain ⟨fu, rfl⟩ : ∃ m, fu = m + 1 := ⟨fu - 1, by omega⟩
    obtain ⟨c1, c2, c3, c4, c5, c6, c7, c8⟩ := e_night hI (n := n) (by omega)
    unfold f_X8_canBe_107_p25
    rw [n3, if_neg (nI_ge (by omega) (by omega)), nI_1]
    rw [show 4 - n = (4 - (n + 1)) + 1 by omega]
    by_cases hb : s.testBit n = true
    · have hnf : s.testBit n ≠ false := by rw [hb]; decide
      have ib4 : z_ib (nI n) 4 = true := z_ib_n (by decide) (by omega)
      obtain ⟨a5, b5, w1, w2⟩ := e_way hI ha c7
      rw [if_neg (fun z => by rw [e_sar0 (by omega), gb_n (by omega), hb] at z; exact absurd z (by decide)), if_pos ib4, if_pos ib4, nI_clamp (by omega), c3, c6, hd, e_hasWay a5 b5 w1 (by omega), z_bi_s, nI_15, if_pos (z_ib_n (by decide) (by omega)), if_pos ib4, if_pos ib4, nI_clamp (by omega), w1, nI_add]
      by_cases hday : nD M n < dy
      · rw [if_pos (nI_lt hday (by omega))]
        refine ⟨0, rfl, Or.inr ⟨rfl, fun z => ?_⟩⟩
        rcases z with ⟨-, -, -, z, -⟩ | ⟨z, -⟩
        · omega
        · exact hnf z
      · rw [if_neg (nI_nlt (by omega) (by omega))]
        rcases w2 with ⟨w2, w3⟩ | ⟨w2, w3⟩
        · rw [if_pos w2, if_pos rfl]
          refine ⟨0, rfl, Or.inr ⟨rfl, fun z => ?_⟩⟩
          rcases z with ⟨-, -, z, -⟩ | ⟨z, -⟩
          · omega
          · exact hnf z
        · rw [if_neg (show ¬ wd M a (nT M n) = 1000000 by omega), if_neg (by decide), c3]
          by_cases hle : f + wd M a (nT M n) ≤ nD M n
          · rw [if_pos (nI_le hle (by omega))]
            obtain ⟨v, e1, e2⟩ := ih (n + 1) (nT M n) (nD M n) (by omega) c7 (by omega) (by omega) fu (by omega)
            refine ⟨v, e1, e2.imp (fun z => ⟨z.1, Or.inl ⟨hb, by omega, w2, hle, z.2⟩⟩) (fun z => ⟨z.1, fun q => ?_⟩)⟩
            rcases q with ⟨-, -, -, -, q⟩ | ⟨q, -⟩
            · exact z.2 q
            · exact hnf q
          · rw [if_neg (nI_ge (by omega) (by omega))]
            refine ⟨0, rfl, Or.inr ⟨rfl, fun z => ?_⟩⟩
            rcases z with ⟨-, -, -, z, -⟩ | ⟨z, -⟩
            · exact hle z
            · exact hnf z
    · have hbf : s.testBit n = false := by simpa using hb
      rw [if_pos ((e_sar0 (by omega)).mpr (by rw [gb_n (by omega)]; exact hbf))]
      obtain ⟨v, e1, e2⟩ := ih (n + 1) a f (by omega) ha hf hdf fu (by omega)
      refine ⟨v, e1, e2.imp (fun z => ⟨z.1, Or.inr ⟨hbf, z.2⟩⟩) (fun z => ⟨z.1, fun q => ?_⟩)⟩
      rcases q with ⟨q, -⟩ | ⟨-, q⟩
      · exact hb q
      · exact z.2 q
theorem e_fit7 {k0 : Nat} {M : zMM} (hk : k0 < 600) (hI : z_I k0 M) {t s : Nat} (ht : t < tk M) : ∃ v, f_X1_canBeThere_103 (nI t) (nI s) M = some (v, M) ∧ ((v = 1 ∧ ftq M t s) ∨ (v = 0 ∧ ¬ ftq M t s)) := by
  obtain ⟨p1, p2, p3, p4, p5, p6, p7, p8, p9⟩ := e_pl hk hI ht
  unfold f_X1_canBeThere_103
  rw [z_at_nI (by decide) p1, p2, z_at_nI (by decide) p1, p5]
  exact e_can7 hk hI 4 0 _ _ (by omega) p4 p9 z_fuel (by unfold z_fuel; omega)
theorem e_fit8 {k0 : Nat} {M : zMM} (hk : k0 < 600) (hI : z_I k0 M) {t s : Nat} (ht : t < tk M) (hs : ∀ n, ni M ≤ n → n < 4 → s.testBit n = false) : ∃ v, f_X8_canBe_107 (nI t) (nI s) M = some (v, M) ∧ ((v = 1 ∧ ftq M t s) ∨ (v = 0 ∧ ¬ ftq M t s)) := by
  obtain ⟨p1, p2, p3, p4, p5, p6, p7, p8, p9⟩ := e_pl hk hI ht
  have ib : z_ib (nI t) 5 = true := z_ib_n (by decide) p1
  unfold f_X8_canBe_107
  rw [if_pos ib, if_pos ib, nI_clamp (by omega), p6, p3]
  exact e_can8 hk hI hs p7 (by omega) (ni M) 0 _ _ (by omega) p4 p9 p8 z_fuel (by have := (e_ni hI).1; unfold z_fuel; omega)
/-- frames -/
def w_st : zWs := ([(107, 1), (107, 38), (107, 52), (103, 8), (103, 9)], [82, 84, 85, 86, 104, 105, 128, 129, 139, 140, 141])
theorem cbfrq {M M' : zMM} (hf : z_fr w_sk M M') (s : Nat) : ∀ k n a f, cbq M' s k n a f ↔ cbq M s k n a f := by
  have e1 : ni M' = ni M := by unfold ni; rw [hf 107 32 rfl]
  have e2 : ∀ n, nT M' n = nT M n := fun n => by unfold nT; rw [hf 137 n rfl]
  have e3 : ∀ n, nD M' n = nD M n := fun n => by unfold nD; rw [hf 136 n rfl]
  intro k
  induction k with
  | zero => intro n a f; exact Iff.rfl
  | succ k ih =>
    intro n a f
    show (_ ∨ _) ↔ (_ ∨ _)
    rw [e1, e2, e3, wd_fr hf, ih, ih]
theorem ftfrq {M M' : zMM} (hf : z_fr w_sk M M') (t s : Nat) : ftq M' t s ↔ ftq M t s := by
  have e1 : pl_ M' t = pl_ M t := by unfold pl_; rw [hf 124 t rfl]
  have e2 : fr_ M' t = fr_ M t := by unfold fr_; rw [hf 107 29 rfl, hf 125 t rfl]
  unfold ftq
  rw [e1, e2]
  exact cbfrq hf s 4 0 _ _
/-- what the class notes of a trunk and a set -/
def fvq (M : zMM) (t s : Nat) (v : Int32) : Prop := (v = 0 ∧ ¬ ftq M t s) ∨ (v = 1 ∧ ftq M t s ∧ ∃ n, n < 4 ∧ s.testBit n = false ∧ ftq M t (s + 2 ^ n)) ∨ (v = 2 ∧ ftq M t s ∧ ∀ n, n < 4 → s.testBit n = false → ¬ ftq M t (s + 2 ^ n))
theorem fvfrq {M M' : zMM} (hf : z_fr w_sk M M') {t s : Nat} {v : Int32} : fvq M' t s v ↔ fvq M t s v := by
  unfold fvq
  simp only [ftfrq hf]
theorem b4_add : ∀ s : Nat, s < 16 → ∀ n : Nat, n < 4 → (s.testBit n = true ∨ (s < s + 2 ^ n ∧ s + 2 ^ n < 16)) := by decide +kernel
theorem e_more {k0 : Nat} {M0 : zMM} (hI : z_I k0 M0) {t s : Nat} (ht : t < 5) (hs : s < 16) {M : zMM} (hM : ∀ s', s < s' → s' < 16 → fvq M0 t s' (M 104 (16 * t + s'))) : ∃ v, f_X1_fitsWithMore_103 (nI t) (nI s) M = some (v, M) ∧ ((v = 1 ∧ ∃ n, n < 4 ∧ s.testBit n = false ∧ ftq M0 t (s + 2 ^ n)) ∨ (v = 0 ∧ ∀ n, n < 4 → s.testBit n = false → ¬ ftq M0 t (s + 2 ^ n))) := by
  have loop : ∀ r n, n + r = 4 → ∀ fu, r < fu → (∀ m, m < n → s.testBit m = false → ¬ ftq M0 t (s + 2 ^ m)) → ∃ v, f_X1_fitsWithMore_103_p2 fu (nI t) (nI s) (nI n) M = some (v, M) ∧ ((v = 1 ∧ ∃ n, n < 4 ∧ s.testBit n = false ∧ ftq M0 t (s + 2 ^ n)) ∨ (v = 0 ∧ ∀ n, n < 4 → s.testBit n = false → ¬ ftq M0 t (s + 2 ^ n))) := by
    intro r
    induction r with
    | zero =>
      intro n hn fu hfu hno
      obtain ⟨fu, rfl⟩ : ∃ m, fu = m + 1 := ⟨fu - 1, by omega⟩
      unfold f_X1_fitsWithMore_103_p2
      rw [if_pos (show (4 : Int32) ≤ nI n from nI_le (a := 4) (by omega) (by omega))]
      exact ⟨0, rfl, Or.inr ⟨rfl, fun m hm => hno m (by omega)⟩⟩
    | succ r ih =>
      intro n hn fu hfu hno
      obtain ⟨fu, rfl⟩ : ∃ m, fu = m + 1 := ⟨fu - 1, by omega⟩
      unfold f_X1_fitsWithMore_103_p2 f_X1_fitOf_103
      rw [if_neg (show ¬ (4 : Int32) ≤ nI n from nI_ge (b := 4) (by omega) (by decide)), b4_or s hs n (by omega), nI_1]
      have next : (s.testBit n = false → ¬ ftq M0 t (s + 2 ^ n)) → ∃ v, f_X1_fitsWithMore_103_p2 fu (nI t) (nI s) (nI (n + 1)) M = some (v, M) ∧ ((v = 1 ∧ ∃ n, n < 4 ∧ s.testBit n = false ∧ ftq M0 t (s + 2 ^ n)) ∨ (v = 0 ∧ ∀ n, n < 4 → s.testBit n = false → ¬ ftq M0 t (s + 2 ^ n))) := by
        intro hz
        refine ih (n + 1) (by omega) fu (by omega) (fun m hm hmb => ?_)
        by_cases hmn : m = n
        · rw [hmn] at hmb ⊢; exact hz hmb
        · exact hno m (by omega) hmb
      by_cases hb : s.testBit n = true
      · rw [if_pos hb, if_pos rfl]
        exact next (fun z => by rw [hb] at z; exact absurd z (by decide))
      · obtain ⟨l1, l2⟩ := (b4_add s hs n (by omega)).resolve_left hb
        have hbf : s.testBit n = false := by simpa using hb
        rw [if_neg hb, if_neg (fun q => by have := (nI_eq (by omega) (by omega)).mp q; omega), show nI t * (16 : Int32) = nI (t * 16) from nI_mul t 16, nI_add, z_at_nI (by decide) (by omega), z_bi_s, Nat.mul_comm t 16]
        rcases hM (s + 2 ^ n) l1 l2 with ⟨z1, z2⟩ | ⟨z1, z2, -⟩ | ⟨z1, z2, -⟩
        · rw [z1, if_pos rfl]; exact next (fun _ => z2)
        · rw [z1, if_neg (by decide)]; exact ⟨1, rfl, Or.inl ⟨rfl, n, by omega, hbf, z2⟩⟩
        · rw [z1, if_neg (by decide)]; exact ⟨1, rfl, Or.inl ⟨rfl, n, by omega, hbf, z2⟩⟩
  exact loop 4 0 (by omega) z_fuel (by unfold z_fuel; omega) (fun m hm => absurd hm (by omega))
theorem e_fits {k0 : Nat} {M0 : zMM} (hk : k0 < 600) (hI : z_I k0 M0) : ∃ M', f_X1_findFits_103 M0 = some M' ∧ ∀ t, t < tk M0 → ∀ s, s < 16 → fvq M0 t s (M' 104 (16 * t + s)) := by
  have h5 := tk_le hI.j_cnt
  have hK : ∀ M, z_fr ([], [104]) M0 M → M 53 6 = nI (tk M0) := by
    intro M hf
    rw [hf 53 6 rfl, hI.j_cnt.2.1]
    obtain ⟨N, -, hN, hNc, -⟩ := hI.j_cnt.2.2.2.2.2.2.1.nI
    unfold tk
    rw [hNc]; exact hN
  have inner : ∀ t, t < tk M0 → ∀ K c, c ≤ 16 → ∀ fu M, c < fu → z_fr ([], [104]) M0 M → (∀ t', t' < t → ∀ s, s < 16 → fvq M0 t' s (M 104 (16 * t' + s))) → (∀ s, c ≤ s → s < 16 → fvq M0 t s (M 104 (16 * t + s))) → ∃ M', f_X1_findFits_103_p16 K fu (nI t) (nI c + (-1 : Int32)) M = K (nI (t + 1)) M' ∧ z_fr ([], [104]) M0 M' ∧ ∀ t', t' < t + 1 → ∀ s, s < 16 → fvq M0 t' s (M' 104 (16 * t' + s)) := by
    intro t ht K c
    induction c with
    | zero =>
      intro _ fu M hfu hf hold hnew
      obtain ⟨fu, rfl⟩ : ∃ m, fu = m + 1 := ⟨fu - 1, by omega⟩
      unfold f_X1_findFits_103_p16
      rw [if_pos (by decide), nI_1]
      refine ⟨M, rfl, hf, fun t' ht' s hs => ?_⟩
      by_cases htt : t' = t
      · rw [htt]; exact hnew s (by omega) hs
      · exact hold t' (by omega) s hs
    | succ c ih =>
      intro hc fu M hfu hf hold hnew
      obtain ⟨fu, rfl⟩ : ∃ m, fu = m + 1 := ⟨fu - 1, by omega⟩
      have e1 : nI (c + 1) + (-1 : Int32) = nI c := by
        rw [show nI (c + 1) + (-1 : Int32) = nI (c + 1) - 1 from (Int32.sub_eq_add_neg _ _).symm, nI_pred]
      have hI' : z_I k0 M := hI.sc (z_sub_sc hf (by decide))
      have hfk : z_fr w_sk M0 M := z_sub_sk hf (by decide)
      have etk : tk M = tk M0 := (cntfrq hfk).2.1
      obtain ⟨v, v1, v2⟩ := e_fit7 hk hI' (t := t) (s := c) (by rw [etk]; exact ht)
      simp only [ftfrq hfk] at v2
      have put : ∀ x, fvq M0 t c x → ∃ M', f_X1_findFits_103_p46 K (f_X1_findFits_103_p16 K fu) (nI t) (nI c) x M = K (nI (t + 1)) M' ∧ z_fr ([], [104]) M0 M' ∧ ∀ t', t' < t + 1 → ∀ s, s < 16 → fvq M0 t' s (M' 104 (16 * t' + s)) := by
        intro x hx
        unfold f_X1_findFits_103_p46
        rw [show nI t * (16 : Int32) = nI (t * 16) from nI_mul t 16, nI_add, z_pt_nI (by decide) (by omega), z_bv_s, Nat.mul_comm t 16]
        refine ih (by omega) fu _ (by omega) (hf.up rfl) (fun t' ht' s hs => ?_) (fun s h1 h2 => ?_)
        · rw [z_up_n (by omega)]; exact hold t' ht' s hs
        · by_cases hsc : s = c
          · rw [hsc, z_up_s]; exact hx
          · rw [z_up_n (by omega)]; exact hnew s (by omega) h2
      unfold f_X1_findFits_103_p16
      rw [e1, if_neg (nI_pos (by omega)), v1, z_bi_s]
      rcases v2 with ⟨z1, z2⟩ | ⟨z1, z2⟩
      · rw [z1, if_neg (by decide)]
        obtain ⟨u, u1, u2⟩ := e_more hI (t := t) (s := c) (by omega) (by omega) (M := M) (fun s' h1 h2 => hnew s' (by omega) h2)
        rw [u1, z_bi_s]
        unfold f_X1_findFits_103_p45
        rcases u2 with ⟨y1, y2⟩ | ⟨y1, y2⟩
        · rw [y1, if_neg (by decide)]; exact put 1 (Or.inr (Or.inl ⟨rfl, z2, y2⟩))
        · rw [y1, if_pos rfl]; exact put 2 (Or.inr (Or.inr ⟨rfl, z2, y2⟩))
      · rw [z1, if_pos rfl]; exact put 0 (Or.inl ⟨rfl, z2⟩)
  have outer : ∀ r t, t + r = tk M0 → ∀ fu M, r < fu → z_fr ([], [104]) M0 M → (∀ t', t' < t → ∀ s, s < 16 → fvq M0 t' s (M 104 (16 * t' + s))) → ∃ M', f_X1_findFits_103_p2 fu (nI t) M = some M' ∧ ∀ t', t' < tk M0 → ∀ s, s < 16 → fvq M0 t' s (M' 104 (16 * t' + s)) := by
    intro r
    induction r with
    | zero =>
      intro t ht fu M hfu hf hold
      obtain ⟨fu, rfl⟩ : ∃ m, fu = m + 1 := ⟨fu - 1, by omega⟩
      unfold f_X1_findFits_103_p2
      rw [hK M hf, if_pos (nI_le (by omega) (by omega))]
      exact ⟨M, rfl, fun t' ht' => hold t' (by omega)⟩
    | succ r ih =>
      intro t ht fu M hfu hf hold
      obtain ⟨fu, rfl⟩ : ∃ m, fu = m + 1 := ⟨fu - 1, by omega⟩
      unfold f_X1_findFits_103_p2
      rw [hK M hf, if_neg (nI_ge (by omega) (by omega))]
      obtain ⟨M', e1, e2, e3⟩ := inner t (by omega) (f_X1_findFits_103_p2 fu) 16 (by omega) z_fuel M (by unfold z_fuel; omega) hf hold (fun s h1 h2 => absurd h2 (by omega))
      rw [show f_X1_findFits_103_p16 (f_X1_findFits_103_p2 fu) z_fuel (nI t) (15 : Int32) M = _ from e1]
      exact ih (t + 1) (by omega) fu M' (by omega) e2 e3
  exact outer (tk M0) 0 (by omega) z_fuel M0 (by unfold z_fuel; omega) z_fr.refl (fun t' ht' => absurd ht' (by omega))
