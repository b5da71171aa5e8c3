/-! ===== the class's price, whole ===== -/
theorem e_withLent {M : zMM} {n l c : Nat} (hn : n ≤ 4) (hl : l < 100) (hc : c < 100) {A : Nat → Nat → Prop} (hb : ∀ S v, S < 2 ^ n → A S v → v ≤ 400) (hA : ∀ S, S < 2 ^ n → z_ls (A S) (M 85 S)) :
    ∀ k s, s + k = 2 ^ n → ∀ fu x, k < fu → z_ls (fun v => ∃ S w, S < s ∧ n - pc4 S ≤ l ∧ v = w + (n - pc4 S) * c ∧ A S w) x → ∃ y, f_X2_withLent_83_p6 fu (nI n) (nI l) (nI c) x (nI s) M = some (y, M) ∧ z_ls (fun v => ∃ S w, S < 2 ^ n ∧ n - pc4 S ≤ l ∧ v = w + (n - pc4 S) * c ∧ A S w) y := by
  have h16 : 2 ^ n ≤ 16 := Nat.pow_le_pow_right (n := 2) (by decide) hn
  have h1 : 1 ≤ 2 ^ n := Nat.pow_pos (by decide)
  intro k
  induction k with
  | zero =>
    intro s hs fu x hk hx
    obtain ⟨fu, rfl⟩ : ∃ m, fu = m + 1 := ⟨fu - 1, by omega⟩
    unfold f_X2_withLent_83_p6
    rw [e_low (by omega), z_bi_s, if_pos (nI_lt (by omega) (by omega))]
    rw [show s = 2 ^ n by omega] at hx
    exact ⟨x, rfl, hx⟩
  | succ k ih =>
    intro s hs fu x hk hx
    obtain ⟨fu, rfl⟩ : ∃ m, fu = m + 1 := ⟨fu - 1, by omega⟩
    unfold f_X2_withLent_83_p6
    rw [e_low (by omega), z_bi_s, if_neg (nI_nlt (by omega) (by omega)), e_bc s (by omega), z_bi_s, z_at_nI (by decide) (by omega), nI_1]
    have hpn : pc4 s ≤ n := by
      have key : ∀ n : Nat, n < 5 → ∀ S : Nat, S < 2 ^ n → pc4 S ≤ n := by decide +kernel
      exact key n (by omega) s (by omega)
    have esub : nI n - nI (pc4 s) = nI (n - pc4 s) := by
      apply Int32.toInt_inj.mp
      rw [Int32.toInt_sub, nI_toInt (by omega), nI_toInt (by omega), nI_toInt (by omega), Int.bmod_eq_of_le (by omega) (by omega)]
      omega
    have skip : (∀ w, A s w → ¬ n - pc4 s ≤ l) → ∃ y, f_X2_withLent_83_p6 fu (nI n) (nI l) (nI c) x (nI (s + 1)) M = some (y, M) ∧ z_ls (fun v => ∃ S w, S < 2 ^ n ∧ n - pc4 S ≤ l ∧ v = w + (n - pc4 S) * c ∧ A S w) y := by
      intro hno
      refine ih (s + 1) (by omega) fu x (by omega) (hx.congr (fun v => ⟨?_, ?_⟩))
      · rintro ⟨S, w, g1, g2⟩; exact ⟨S, w, by omega, g2⟩
      · rintro ⟨S, w, g1, g2, g3, g4⟩
        by_cases hS : S = s
        · rw [hS] at g2 g4; exact absurd g2 (hno w g4)
        · exact ⟨S, w, by omega, g2, g3, g4⟩
    have hAs := hA s (by omega)
    by_cases hm : M 85 s = -1
    · rw [if_pos hm]
      refine skip (fun w q _ => ?_)
      rcases hAs with ⟨_, z⟩ | ⟨v, z, zb, _⟩
      · exact z w q
      · rw [z] at hm; exact nI_m1 (by omega) hm
    · rw [if_neg hm, esub]
      by_cases hlt : n - pc4 s ≤ l
      · rw [if_neg (nI_nlt hlt (by omega)), show nI (n - pc4 s) * nI c = nI ((n - pc4 s) * c) from nI_mul _ _]
        have hmc : (n - pc4 s) * c ≤ 4 * 99 := Nat.mul_le_mul (by omega) (by omega)
        have hadd := (hAs.add (a := (n - pc4 s) * c) (by omega) (fun v q => by have := hb s v (by omega) q; omega)).2 hm
        rw [Int32.add_comm (M 85 s) _]
        have hls := hx.less hadd
        have done : ∀ y, z_ls (fun v => (∃ S w, S < s ∧ n - pc4 S ≤ l ∧ v = w + (n - pc4 S) * c ∧ A S w) ∨ ∃ w, v = (n - pc4 s) * c + w ∧ A s w) y → ∃ y', f_X2_withLent_83_p6 fu (nI n) (nI l) (nI c) y (nI (s + 1)) M = some (y', M) ∧ z_ls (fun v => ∃ S w, S < 2 ^ n ∧ n - pc4 S ≤ l ∧ v = w + (n - pc4 S) * c ∧ A S w) y' := by
          intro y hy
          refine ih (s + 1) (by omega) fu y (by omega) (hy.congr (fun v => ⟨?_, ?_⟩))
          · rintro (⟨S, w, g1, g2⟩ | ⟨w, g1, g2⟩)
            · exact ⟨S, w, by omega, g2⟩
            · exact ⟨s, w, by omega, hlt, by omega, g2⟩
          · rintro ⟨S, w, g1, g2, g3, g4⟩
            by_cases hS : S = s
            · rw [hS] at g3 g4; exact Or.inr ⟨w, by omega, g4⟩
            · exact Or.inl ⟨S, w, by omega, g2, g3, g4⟩
        rcases e_less (y := nI ((n - pc4 s) * c) + M 85 s) (x := x) (M := M) with ⟨hz, e⟩ | ⟨hz, e⟩
        · rw [e, z_bi_s, if_neg (by decide)]
          exact done _ (hls.1 hz)
        · rw [e, z_bi_s, if_pos rfl]
          exact done _ (hls.2 hz)
      · rw [if_pos (nI_lt (by omega) (by omega))]
        exact skip (fun w _ q => hlt q)
theorem e_useSort {k0 : Nat} {M0 : zMM} (hI : z_I k0 M0) {p i a n : Nat} (hp : p < tp M0) (hn : n = nm_ M0 p - i) (ha : a < 20) :
    ∀ k d, d + k = n → ∀ fu M u, k < fu → z_fr ([], [85, 86]) M0 M → (∀ j, j < d → M 86 j = sv (sm_ M0 a (nd_ M0 p (i + j)))) → (u = 0 ∧ (∀ j, j < d → 100 ≤ sm_ M0 a (nd_ M0 p (i + j))) ∨ u = 1) →
    ∃ (M' : zMM) (b : Bool), f_X2_useSort_83_p21 fu (nI p) (nI i) (nI a) (nI n) u (nI d) M = (if b = true then z_bv (f_X2_fillBy_83 (nI n) M') (fun M5 => some M5) else some M') ∧ (∀ j, j < n → M' 86 j = sv (sm_ M0 a (nd_ M0 p (i + j)))) ∧ (b = false → ∀ j, j < n → 100 ≤ sm_ M0 a (nd_ M0 p (i + j))) ∧ ∀ c b, c ≠ 86 → M' c b = M c b := by
  obtain ⟨p4, q1, q2, q3, q4, q5⟩ := e_play hI hp
  intro k
  induction k with
  | zero =>
    intro d hd fu M u hk hf h86 hu
    obtain ⟨fu, rfl⟩ : ∃ m, fu = m + 1 := ⟨fu - 1, by omega⟩
    have hdn : d = n := by omega
    rw [hdn] at h86 hu ⊢
    unfold f_X2_useSort_83_p21
    rw [if_pos (nI_le (Nat.le_refl _) (by omega))]
    rcases hu with ⟨rfl, hu⟩ | rfl
    · exact ⟨M, false, rfl, h86, fun _ => hu, fun _ _ _ => rfl⟩
    · exact ⟨M, true, rfl, h86, fun q => absurd q (by decide), fun _ _ _ => rfl⟩
  | succ k ih =>
    intro d hd fu M u hk hf h86 hu
    obtain ⟨fu, rfl⟩ : ∃ m, fu = m + 1 := ⟨fu - 1, by omega⟩
    have hI' : z_I k0 M := hI.sc (z_sub_sc hf (by decide))
    have f53 : tp M = tp M0 := by unfold tp; rw [hf 109 3 rfl]
    have fnm : nm_ M p = nm_ M0 p := by unfold nm_; rw [hf 120 p rfl]
    have fnd : ∀ j, nd_ M p j = nd_ M0 p j := fun j => by unfold nd_; rw [hf 119 _ rfl]
    have fsm : ∀ a b, sm_ M a b = sm_ M0 a b := fun a b => by unfold sm_; rw [hf 121 _ rfl]
    have hd5 := (q5 (i + d) (by omega)).2.2
    unfold f_X2_useSort_83_p21
    rw [if_neg (nI_ge (by omega) (by omega)), nI_add, e_need hI' (by rw [f53]; exact hp) (by rw [fnm]; omega), z_bi_s, fnd, e_shame (hI'.j_like (by omega)) ha hd5, z_bi_s, fsm, z_pt_nI (by decide) (by omega), z_bv_s, nI_1]
    have hf' : z_fr ([], [85, 86]) M0 (z_up M 86 d (sv (sm_ M0 a (nd_ M0 p (i + d))))) := hf.up rfl
    have h86' : ∀ j, j < d + 1 → z_up M 86 d (sv (sm_ M0 a (nd_ M0 p (i + d)))) 86 j = sv (sm_ M0 a (nd_ M0 p (i + j))) := by
      intro j hj
      by_cases hjd : j = d
      · rw [hjd, z_up_s]
      · rw [z_up_n hjd]; exact h86 j (by omega)
    have fin : ∀ u', (u' = 0 ∧ (∀ j, j < d + 1 → 100 ≤ sm_ M0 a (nd_ M0 p (i + j))) ∨ u' = 1) → ∃ (M' : zMM) (b : Bool), f_X2_useSort_83_p21 fu (nI p) (nI i) (nI a) (nI n) u' (nI (d + 1)) (z_up M 86 d (sv (sm_ M0 a (nd_ M0 p (i + d))))) = (if b = true then z_bv (f_X2_fillBy_83 (nI n) M') (fun M5 => some M5) else some M') ∧ (∀ j, j < n → M' 86 j = sv (sm_ M0 a (nd_ M0 p (i + j)))) ∧ (b = false → ∀ j, j < n → 100 ≤ sm_ M0 a (nd_ M0 p (i + j))) ∧ ∀ c b, c ≠ 86 → M' c b = M c b := by
      intro u' hu'
      obtain ⟨M', b, e1, e2, e3, e4⟩ := ih (d + 1) (by omega) fu _ u' (by omega) hf' h86' hu'
      exact ⟨M', b, e1, e2, e3, fun c b hc => (e4 c b hc).trans (z_up_o hc)⟩
    rcases hu with ⟨rfl, hu⟩ | rfl
    · rw [if_pos rfl]
      by_cases hs : 100 ≤ sm_ M0 a (nd_ M0 p (i + d))
      · rw [if_pos (sv_m1.mpr hs)]
        refine fin 0 (Or.inl ⟨rfl, fun j hj => ?_⟩)
        by_cases hjd : j = d
        · rw [hjd]; exact hs
        · exact hu j (by omega)
      · rw [if_neg (fun z => hs (sv_m1.mp z))]
        exact fin 1 (Or.inr rfl)
    · rw [if_neg (by decide)]
      exact fin 1 (Or.inr rfl)
/-- the class's table after some things -/
def dpz (M : zMM) (q : Nat → Nat → Nat) (m : Nat) (L : Nat → Bool) (n : Nat) : Prop := ∀ S, S < 2 ^ n → z_ls (zA q m L S) (M 85 S)
theorem dpz_skipq {M : zMM} {q : Nat → Nat → Nat} {m : Nat} {L : Nat → Bool} {n : Nat} (h : dpz M q m L n) (hL : L m = false) : dpz M q (m + 1) L n := fun S hS =>
  (h S hS).congr (fun v => ⟨Or.inl, fun z => z.elim id (fun ⟨z, _⟩ => by rw [hL] at z; exact absurd z (by decide))⟩)
theorem e_use {k0 : Nat} {M0 M : zMM} (hI : z_I k0 M0) (hf : z_fr ([], [85, 86]) M0 M) {p i a m : Nat} (hp : p < tp M0) (hi : i ≤ nm_ M0 p) (ha : a < 20) {L : Nat → Bool} {so : Nat → Nat} (hso : so m = a) (hL : L m = true) (hd : dpz M (fun t j => zq M0 so p t (i + j)) m L (nm_ M0 p - i)) :
    ∃ M', f_X2_useSort_83 (nI p) (nI i) (nI a) M = some M' ∧ dpz M' (fun t j => zq M0 so p t (i + j)) (m + 1) L (nm_ M0 p - i) := by
  obtain ⟨p4, q1, q2, q3, q4, q5⟩ := e_play hI hp
  have hn4 : nm_ M0 p - i ≤ 4 := by omega
  have h16 : 2 ^ (nm_ M0 p - i) ≤ 16 := Nat.pow_le_pow_right (n := 2) (by decide) hn4
  obtain ⟨M1, b, e1, e2, e3, e4⟩ := e_useSort hI (p := p) (i := i) (a := a) (n := nm_ M0 p - i) hp rfl ha (nm_ M0 p - i) 0 (by omega) z_fuel M 0 (by unfold z_fuel; omega) hf (fun j hj => absurd hj (by omega)) (Or.inl ⟨rfl, fun j hj => absurd hj (by omega)⟩)
  have en : z_at M 63 4 (nI p) - nI i = nI (nm_ M0 p - i) := by
    rw [z_at_nI (by decide) p4, hf 63 p rfl, q1]
    apply Int32.toInt_inj.mp
    rw [Int32.toInt_sub, nI_toInt (by omega), nI_toInt (by omega), nI_toInt (by omega), Int.bmod_eq_of_le (by omega) (by omega)]
    omega
  have eq0 : ∀ j, zq M0 so p m (i + j) = sm_ M0 a (nd_ M0 p (i + j)) := fun j => by
    show sm_ M0 (so m) _ = _
    rw [hso]
  unfold f_X2_useSort_83
  rw [en, show (0 : Int32) = nI 0 from rfl] at *
  rw [show f_X2_useSort_83_p21 z_fuel (nI p) (nI i) (nI a) (nI (nm_ M0 p - i)) (nI 0) (nI 0) M = _ from e1]
  cases b with
  | false =>
    refine ⟨M1, rfl, fun S hS => ?_⟩
    rw [e4 85 S (by decide)]
    refine (hd S hS).congr (fun v => ⟨Or.inl, fun z => z.elim id ?_⟩)
    rintro ⟨-, j, w, h1, h2, h3, -⟩
    have hj := (b4_bit _ (by omega) S hS j h1 h2).1
    have h3' : zq M0 so p m (i + j) < 100 := h3
    rw [eq0 j] at h3'
    have := e3 rfl j hj
    omega
  | true =>
    rw [if_pos rfl]
    have hd1 : ∀ S, S < 2 ^ (nm_ M0 p - i) → z_ls (fun v => zA (fun t j => zq M0 so p t (i + j)) m L S v ∨ ∃ j w, j < 4 ∧ S.testBit j = true ∧ (fun t j => zq M0 so p t (i + j)) m j < 100 ∧ v = (fun t j => zq M0 so p t (i + j)) m j + w ∧ zA (fun t j => zq M0 so p t (i + j)) m L (S - 2 ^ j) w ∧ 2 ^ (nm_ M0 p - i) ≤ S - 2 ^ j) (M1 85 S) := by
      intro S hS
      rw [e4 85 S (by decide)]
      refine (hd S hS).congr (fun v => ⟨Or.inl, fun z => z.elim id ?_⟩)
      rintro ⟨j, w, -, -, -, -, -, h6⟩
      exact absurd (Nat.lt_of_lt_of_le hS (Nat.le_trans h6 (Nat.sub_le S (2 ^ j)))) (Nat.lt_irrefl S)
    obtain ⟨M2, a1, a2, a3⟩ := e_fillBy hn4 (m := m) (q := fun t j => zq M0 so p t (i + j)) (L := L) (2 ^ (nm_ M0 p - i)) (Nat.le_refl _) z_fuel M1 (by unfold z_fuel; omega) (fun j hj => by
      show M1 86 j = sv (zq M0 so p m (i + j))
      rw [eq0 j]; exact e2 j hj) hd1
    have e5 : f_X2_fillBy_83 (nI (nm_ M0 p - i)) M1 = some M2 := by
      unfold f_X2_fillBy_83
      rw [e_low (by omega), z_bi_s, ← a1]
      have h1 : 1 ≤ 2 ^ (nm_ M0 p - i) := Nat.pow_pos (by decide)
      rw [show nI (2 ^ (nm_ M0 p - i)) + (-1 : Int32) = nI (2 ^ (nm_ M0 p - i)) - 1 from (Int32.sub_eq_add_neg _ _).symm]
      obtain ⟨e, he⟩ : ∃ e, 2 ^ (nm_ M0 p - i) = e + 1 := ⟨2 ^ (nm_ M0 p - i) - 1, by omega⟩
      rw [he, nI_pred, Nat.add_sub_cancel]
    refine ⟨M2, by rw [e5]; rfl, fun S hS => (a3 S hS).congr (fun v => ⟨?_, ?_⟩)⟩
    · rintro (z | ⟨j, w, h1, h2, h3, h4, h5⟩)
      · exact Or.inl z
      · exact Or.inr ⟨hL, j, w, h1, h2, h3, h4, h5⟩
    · rintro (z | ⟨-, j, w, h1, h2, h3, h4, h5⟩)
      · exact Or.inl z
      · exact Or.inr ⟨j, w, h1, h2, h3, h4, h5⟩
theorem dpz_uptoq {M : zMM} {q : Nat → Nat → Nat} {L : Nat → Bool} {n a : Nat} : ∀ b, (∀ u, a ≤ u → u < a + b → L u = false) → dpz M q a L n → dpz M q (a + b) L n := by
  intro b
  induction b with
  | zero => intro _ h; exact h
  | succ b ih => intro hL h; exact dpz_skipq (ih (fun u h1 h2 => hL u h1 (by omega)) h) (hL (a + b) (by omega) (by omega))
theorem e_town {k : Nat} {M : zMM} (hI : z_I k M) {t : Nat} (ht : t < tw M) : t < 5 ∧ M 56 t = nI (M 112 t).toNatClampNeg ∧ M 112 t = nI (M 112 t).toNatClampNeg ∧ (M 112 t).toNatClampNeg ≤ 9 ∧ M 57 t = nI (M 113 t).toNatClampNeg ∧ M 113 t = nI (M 113 t).toNatClampNeg ∧ (M 113 t).toNatClampNeg ≤ 99 := by
  have h5 := tw_le hI.j_cnt
  obtain ⟨t1, t2, t3, t4, t5, t6, t7, t8, t9⟩ := hI.j_town t ht
  obtain ⟨a, ha, e1, e2, e3⟩ := t6.nI
  obtain ⟨b, hb, f1, f2, f3⟩ := t8.nI
  rw [e2, f2, t5, t7]
  exact ⟨by omega, e1, e1, by omega, f1, f1, by omega⟩
theorem e_thing {k : Nat} {M : zMM} (hI : z_I k M) {g : Nat} (hg : g < tg M) : g < 10 ∧ M 60 g = nI (so_ M g) ∧ M 116 g = nI (so_ M g) ∧ so_ M g < 20 := by
  have h5 := tg_le hI.j_cnt
  obtain ⟨t1, t2, -⟩ := hI.j_thing g hg
  obtain ⟨a, ha, e1, e2, e3⟩ := t2.nI
  have e : so_ M g = a := e2
  rw [e, t1]
  exact ⟨by omega, e1, e1, by omega⟩
/-- the class's least price, of needs from one on -/
theorem e_least {k0 : Nat} {M0 : zMM} (hI : z_I k0 M0) {p t i l : Nat} {y more : Int32} {L : Nat → Bool} {so : Nat → Nat} (hp : p < tp M0) (ht : t < tw M0) (hi : i ≤ nm_ M0 p) (hl : l < 100)
    (hy : ∀ u, u < tg M0 → gb y u = L u) (hL : ∀ u, tg M0 ≤ u → u < 10 → L u = false) (hso : ∀ u, u < tg M0 → so u = so_ M0 u) (hm : (more = -1 ∧ L 10 = false) ∨ (L 10 = true ∧ so 10 < 20 ∧ more = nI (so 10))) :
    ∃ x M', f_X2_leastPrice_83 (nI p) (nI t) (nI i) y more (nI l) M0 = some (x, M') ∧ z_ls (zR (zq M0 so p) (M0 113 t).toNatClampNeg (nm_ M0 p - i) i L l) x := by
  obtain ⟨p4, q1, q2, q3, q4, q5⟩ := e_play hI hp
  obtain ⟨t5, w1, w2, w3, w4, w5, w6⟩ := e_town hI ht
  have h10 := tg_le hI.j_cnt
  have hn4 : nm_ M0 p - i ≤ 4 := by omega
  have h16 : 2 ^ (nm_ M0 p - i) ≤ 16 := Nat.pow_le_pow_right (n := 2) (by decide) hn4
  have en : ∀ M, z_fr ([], [85, 86]) M0 M → z_at M 63 4 (nI p) - nI i = nI (nm_ M0 p - i) := by
    intro M hf
    rw [z_at_nI (by decide) p4, hf 63 p rfl, q1]
    apply Int32.toInt_inj.mp
    rw [Int32.toInt_sub, nI_toInt (by omega), nI_toInt (by omega), nI_toInt (by omega), Int.bmod_eq_of_le (by omega) (by omega)]
    omega
  have e80 : ∀ M, z_fr ([], [85, 86]) M0 M → dpz M (fun t j => zq M0 so p t (i + j)) 11 L (nm_ M0 p - i) → ∃ x M', f_X2_leastPrice_83_p80 (nI p) (nI t) (nI i) (nI l) M = some (x, M') ∧ z_ls (zR (zq M0 so p) (M0 113 t).toNatClampNeg (nm_ M0 p - i) i L l) x := by
    intro M hf hd
    obtain ⟨x, e1, e2⟩ := e_withLent (M := M) (l := l) (c := (M0 113 t).toNatClampNeg) hn4 hl (by omega) (A := zA (fun t j => zq M0 so p t (i + j)) 11 L) (fun S v hS h => by
      have := h.bd (by omega)
      have := b4_pc S (by omega)
      omega) hd (2 ^ (nm_ M0 p - i)) 0 (by omega) z_fuel (-1) (by unfold z_fuel; omega) (z_ls.none (fun v ⟨S, w, h, _⟩ => absurd h (by omega)))
    refine ⟨x, M, ?_, e2.congr (fun v => (zR_zA hn4).symm)⟩
    unfold f_X2_leastPrice_83_p80
    rw [en M hf, z_at_nI (by decide) t5, hf 57 t rfl, w4]
    unfold f_X2_withLent_83
    rw [show f_X2_withLent_83_p6 z_fuel (nI (nm_ M0 p - i)) (nI l) (nI (M0 113 t).toNatClampNeg) (-1 : Int32) (0 : Int32) M = _ from e1]
    rfl
  have loop : ∀ k m, m + k = tg M0 → ∀ fu M, k < fu → z_fr ([], [85, 86]) M0 M → dpz M (fun t j => zq M0 so p t (i + j)) m L (nm_ M0 p - i) → ∃ x M', f_X2_leastPrice_83_p20 fu (nI p) (nI t) (nI i) y more (nI l) (nI m) M = some (x, M') ∧ z_ls (zR (zq M0 so p) (M0 113 t).toNatClampNeg (nm_ M0 p - i) i L l) x := by
    have hcnt : ∀ M, z_fr ([], [85, 86]) M0 M → M 53 8 = nI (tg M0) := by
      intro M hf
      rw [hf 53 8 rfl, hI.j_cnt.2.2.1]
      obtain ⟨N, -, hN, hNc, -⟩ := hI.j_cnt.2.2.2.2.2.2.2.1.nI
      unfold tg
      rw [hNc]; exact hN
    intro k
    induction k with
    | zero =>
      intro m hm' fu M hk hf hd
      obtain ⟨fu, rfl⟩ : ∃ m, fu = m + 1 := ⟨fu - 1, by omega⟩
      unfold f_X2_leastPrice_83_p20
      rw [hcnt M hf, if_pos (nI_le (by omega) (by omega))]
      have hd10 : dpz M (fun t j => zq M0 so p t (i + j)) 10 L (nm_ M0 p - i) := by
        have := dpz_uptoq (10 - m) (fun u h1 h2 => hL u (by omega) (by omega)) hd
        rw [show m + (10 - m) = 10 by omega] at this
        exact this
      rcases hm with ⟨hm1, hm2⟩ | ⟨hm1, hm2, hm3⟩
      · rw [if_pos hm1]
        exact e80 M hf (dpz_skipq hd10 hm2)
      · rw [hm3, if_neg (nI_m1 (by omega))]
        obtain ⟨M1, a1, a2⟩ := e_use hI hf hp hi hm2 (m := 10) rfl hm1 hd10
        rw [a1, z_bv_s]
        exact e80 M1 (hf.sub (R_X2_useSort_83 a1) (by decide)) a2
    | succ k ih =>
      intro m hm' fu M hk hf hd
      obtain ⟨fu, rfl⟩ : ∃ m, fu = m + 1 := ⟨fu - 1, by omega⟩
      obtain ⟨g1, g2, g3, g4⟩ := e_thing hI (g := m) (by omega)
      unfold f_X2_leastPrice_83_p20
      rw [hcnt M hf, if_neg (nI_ge (by omega) (by omega)), e_has (by omega), z_bi_s, nI_1]
      rw [hy m (by omega)]
      by_cases hLm : L m = true
      · rw [if_pos hLm, if_neg (by decide), z_at_nI (by decide) (by omega), hf 60 m rfl, g2]
        obtain ⟨M1, a1, a2⟩ := e_use hI hf hp hi g4 (m := m) (hso m (by omega)) hLm hd
        rw [a1, z_bv_s]
        exact ih (m + 1) (by omega) fu M1 (by omega) (hf.sub (R_X2_useSort_83 a1) (by decide)) a2
      · rw [if_neg hLm, if_pos rfl]
        exact ih (m + 1) (by omega) fu M (by omega) hf (dpz_skipq hd (by simpa using hLm))
  unfold f_X2_leastPrice_83
  rw [z_bv_s, show z_pt (z_fl M0 85 0 16 (-1 : Int32)) 85 16 (0 : Int32) (0 : Int32) = z_up (z_fl M0 85 0 16 (-1 : Int32)) 85 0 (0 : Int32) from z_pt_nI (n := 0) (by decide) (by decide), z_bv_s]
  refine loop (tg M0) 0 (by omega) z_fuel _ (by unfold z_fuel; omega) ((z_fr.refl.fl rfl).up rfl) (fun S hS => ?_)
  by_cases hS0 : S = 0
  · rw [hS0, z_up_s]
    exact Or.inr ⟨0, rfl, by decide, ⟨rfl, rfl⟩, fun w h => by omega⟩
  · rw [z_up_n hS0]
    have : z_fl M0 85 0 16 (-1 : Int32) 85 S = -1 := by
      unfold z_fl
      rw [if_pos rfl, if_pos (by omega)]
    rw [this]
    exact z_ls.none (fun v h => hS0 h.1)
