/-! ===== the class's tour ===== -/
theorem hKq {k0 : Nat} {M0 M : zMM} (hI : z_I k0 M0) (hf : z_fr w_sk M0 M) : M 53 6 = nI (tk M0) := by
  rw [hf 53 6 rfl, hI.j_cnt.2.1]
  obtain ⟨N, -, hN, hNc, -⟩ := hI.j_cnt.2.2.2.2.2.2.1.nI
  unfold tk
  rw [hNc]; exact hN
def FTB (M0 M : zMM) : Prop := ∀ t, t < tk M0 → ∀ s, s < 16 → fvq M0 t s (M 104 (16 * t + s))
/-- the table of prices by night and set of trunks -/
def CTB (M0 M : zMM) (N : Nat) : Prop := ∀ n, n < N → ∀ S, S < 32 → (∀ u, u < 5 → S.testBit u = true → u < tk M0 ∧ ftq M0 u (2 ^ n)) → z_ls (zP M0 (so_ M0) (nP M0 n) (nT M0 n) (tL M0 S)) (M 105 (32 * n + S))
theorem e_costs {k0 : Nat} {M0 M1 : zMM} (hI : z_I k0 M0) (hI1 : z_I k0 M1) (hf1 : z_fr w_sk M0 M1) (hF : FTB M0 M1) : ∃ M', f_X1_findCosts_103 M1 = some M' ∧ z_I k0 M' ∧ z_fr w_sk M0 M' ∧ FTB M0 M' ∧ CTB M0 M' (ni M0) := by
  have h5 := tk_le hI.j_cnt
  obtain ⟨n1, n2, n3⟩ := e_ni hI
  have hN : ∀ M, z_I k0 M → z_fr w_sk M0 M → M 87 5 = nI (ni M0) := fun M _ hf => (hf 87 5 rfl).trans n2
  -- sets
  have sets : ∀ n, n < ni M0 → ∀ K able, (∀ u, u < 32 → gb able u = true → u < 5) → (∀ u, u < tk M0 → ftq M0 u (2 ^ n) → gb able u = true) → (∀ u, tk M0 ≤ u → gb able u = false ∨ True) → ∀ r S, S + r = 32 → ∀ fu M, r < fu → z_I k0 M → z_fr w_sk M0 M → FTB M0 M → CTB M0 M n → (∀ S', S' < S → (∀ u, u < 5 → S'.testBit u = true → u < tk M0 ∧ ftq M0 u (2 ^ n)) → z_ls (zP M0 (so_ M0) (nP M0 n) (nT M0 n) (tL M0 S')) (M 105 (32 * n + S'))) → ∃ M', f_X1_findCosts_103_p57 K fu (nI n) able (nI S) M = K (nI (n + 1)) M' ∧ z_I k0 M' ∧ z_fr w_sk M0 M' ∧ FTB M0 M' ∧ CTB M0 M' (n + 1) := by
    intro n hn K able ha1 ha2 _ r
    obtain ⟨c1, c2, c3, c4, c5, c6, c7, c8, c9, c10⟩ := e_night hI hn
    induction r with
    | zero =>
      intro S hS fu M hfu hIM hf hFT hCT hnew
      obtain ⟨fu, rfl⟩ : ∃ m, fu = m + 1 := ⟨fu - 1, by omega⟩
      unfold f_X1_findCosts_103_p57
      rw [if_pos (show (32 : Int32) ≤ nI S from nI_le (a := 32) (by omega) (by omega)), nI_1]
      refine ⟨M, rfl, hIM, hf, hFT, fun m hm S' hS' hab => ?_⟩
      by_cases hmn : m = n
      · rw [hmn] at hab ⊢; exact hnew S' (by omega) hab
      · exact hCT m (by omega) S' hS' hab
    | succ r ih =>
      intro S hS fu M hfu hIM hf hFT hCT hnew
      obtain ⟨fu, rfl⟩ : ∃ m, fu = m + 1 := ⟨fu - 1, by omega⟩
      unfold f_X1_findCosts_103_p57
      rw [if_neg (show ¬ (32 : Int32) ≤ nI S from nI_ge (b := 32) (by omega) (by decide)), nI_1]
      by_cases hsub : (nI S &&& (able ^^^ (-1 : Int32))) = 0
      · rw [if_pos hsub, z_at_nI (by decide) (by omega), z_at_nI (by decide) (by omega), hf 92 n rfl, hf 91 n rfl, c8, c5]
        obtain ⟨d1, d2, d3, d4⟩ := cntfrq hf
        obtain ⟨x, M2, b1, b2, b3, b4⟩ := e_byTr hIM (p := nP M0 n) (t := nT M0 n) (s := S) (by rw [d4]; exact c10) (by rw [d1]; exact c7) (by omega)
        rw [zPfrq hf] at b2
        have hf2 : z_fr w_sk M0 M2 := hf.trans b4
        have b5 : z_fr ([], [84, 85, 86]) M M2 := R_X2_byTrunks_83 b1
        rw [b1, z_bi_s, show nI n * (32 : Int32) = nI (n * 32) from nI_mul n 32, nI_add, z_pt_nI (by decide) (by omega), z_bv_s, Nat.mul_comm n 32]
        have hf3 : z_fr w_sc M2 (z_up M2 105 (32 * n + S) x) := z_fr.refl.up rfl
        refine ih (S + 1) (by omega) fu _ (by omega) (b3.sc hf3) (hf2.trans (sc_sk hf3)) (fun t ht s hs => ?_) (fun m hm S' hS' hab => ?_) (fun S' hS' hab => ?_)
        · rw [z_up_o (by decide), b5 104 _ rfl]; exact hFT t ht s hs
        · rw [z_up_n (by omega), b5 105 _ rfl]; exact hCT m hm S' hS' hab
        · by_cases hSS : S' = S
          · rw [hSS, z_up_s]; exact b2
          · rw [z_up_n (by omega), b5 105 _ rfl]; exact hnew S' (by omega) hab
      · rw [if_neg hsub]
        refine ih (S + 1) (by omega) fu M (by omega) hIM hf hFT hCT (fun S' hS' hab => ?_)
        by_cases hSS : S' = S
        · exfalso
          apply hsub
          rw [hSS] at hab
          apply gb_ext
          intro u hu
          rw [gb_and, gb_xm hu, gb_n hu, gb_0]
          by_cases hu5 : u < 5
          · cases hb : S.testBit u with
            | false => rfl
            | true =>
              obtain ⟨z1, z2⟩ := hab u hu5 hb
              rw [ha2 u z1 z2]; rfl
          · rw [Nat.testBit_lt_two_pow (Nat.lt_of_lt_of_le (show S < 2 ^ 5 by omega) (Nat.pow_le_pow_right (by decide) (by omega)))]; rfl
        · exact hnew S' (by omega) hab
  -- who is able
  have able : ∀ n, n < ni M0 → ∀ K r t, t + r = tk M0 → ∀ fu M acc, r < fu → z_I k0 M → z_fr w_sk M0 M → FTB M0 M → CTB M0 M n → (∀ u, u < 32 → gb acc u = true → u < 5) → (∀ u, u < t → ftq M0 u (2 ^ n) → gb acc u = true) → ∃ M', f_X1_findCosts_103_p17 K fu (nI n) acc (nI t) M = K (nI (n + 1)) M' ∧ z_I k0 M' ∧ z_fr w_sk M0 M' ∧ FTB M0 M' ∧ CTB M0 M' (n + 1) := by
    intro n hn K r
    have hn4 : n < 4 := by omega
    induction r with
    | zero =>
      intro t ht fu M acc hfu hIM hf hFT hCT ha1 ha2
      obtain ⟨fu, rfl⟩ : ∃ m, fu = m + 1 := ⟨fu - 1, by omega⟩
      unfold f_X1_findCosts_103_p17
      rw [hKq hI hf, if_pos (nI_le (by omega) (by omega))]
      exact sets n hn K acc ha1 (fun u hu => ha2 u (by omega)) (fun _ _ => Or.inr trivial) 32 0 (by omega) z_fuel M (by unfold z_fuel; omega) hIM hf hFT hCT (fun S' hS' => absurd hS' (by omega))
    | succ r ih =>
      intro t ht fu M acc hfu hIM hf hFT hCT ha1 ha2
      obtain ⟨fu, rfl⟩ : ∃ m, fu = m + 1 := ⟨fu - 1, by omega⟩
      unfold f_X1_findCosts_103_p17 f_X1_fitOf_103
      have hp16 : 2 ^ n < 16 := by
        have : 2 ^ n ≤ 2 ^ 3 := Nat.pow_le_pow_right (by decide) (by omega)
        omega
      rw [hKq hI hf, if_neg (nI_ge (by omega) (by omega)), one_sl n (by omega), show nI t * (16 : Int32) = nI (t * 16) from nI_mul t 16, nI_add, z_at_nI (by decide) (by omega), z_bi_s, Nat.mul_comm t 16, nI_1, or0]
      have hv := hFT t (by omega) (2 ^ n) hp16
      have yes : ftq M0 t (2 ^ n) → ∃ M', f_X1_findCosts_103_p17 K fu (nI n) (acc ||| ((1 : Int32) <<< (nI t &&& 31))) (nI (t + 1)) M = K (nI (n + 1)) M' ∧ z_I k0 M' ∧ z_fr w_sk M0 M' ∧ FTB M0 M' ∧ CTB M0 M' (n + 1) := by
        intro _
        refine ih (t + 1) (by omega) fu M _ (by omega) hIM hf hFT hCT (fun u hu hb => ?_) (fun u hu hft => ?_)
        · rw [gb_ins (by omega) hu, Bool.or_eq_true, decide_eq_true_eq] at hb
          rcases hb with hb | hb
          · exact ha1 u hu hb
          · omega
        · rw [gb_ins (by omega) (by omega), Bool.or_eq_true, decide_eq_true_eq]
          by_cases hut : u = t
          · exact Or.inr hut
          · exact Or.inl (ha2 u (by omega) hft)
      rcases hv with ⟨z1, z2⟩ | ⟨z1, z2, -⟩ | ⟨z1, z2, -⟩
      · rw [z1, if_pos rfl]
        refine ih (t + 1) (by omega) fu M acc (by omega) hIM hf hFT hCT ha1 (fun u hu hft => ?_)
        by_cases hut : u = t
        · rw [hut] at hft; exact absurd hft z2
        · exact ha2 u (by omega) hft
      · rw [z1, if_neg (by decide)]; exact yes z2
      · rw [z1, if_neg (by decide)]; exact yes z2
  have outer : ∀ r n, n + r = ni M0 → ∀ fu M, r < fu → z_I k0 M → z_fr w_sk M0 M → FTB M0 M → CTB M0 M n → ∃ M', f_X1_findCosts_103_p2 fu (nI n) M = some M' ∧ z_I k0 M' ∧ z_fr w_sk M0 M' ∧ FTB M0 M' ∧ CTB M0 M' (ni M0) := by
    intro r
    induction r with
    | zero =>
      intro n hn fu M hfu hIM hf hFT hCT
      obtain ⟨fu, rfl⟩ : ∃ m, fu = m + 1 := ⟨fu - 1, by omega⟩
      unfold f_X1_findCosts_103_p2
      rw [hN M hIM hf, if_pos (nI_le (by omega) (by omega))]
      rw [show n = ni M0 by omega] at hCT
      exact ⟨M, rfl, hIM, hf, hFT, hCT⟩
    | succ r ih =>
      intro n hn fu M hfu hIM hf hFT hCT
      obtain ⟨fu, rfl⟩ : ∃ m, fu = m + 1 := ⟨fu - 1, by omega⟩
      unfold f_X1_findCosts_103_p2
      rw [hN M hIM hf, if_neg (nI_ge (by omega) (by omega))]
      obtain ⟨M', e1, e2, e3, e4, e5⟩ := able n (by omega) (f_X1_findCosts_103_p2 fu) (tk M0) 0 (by omega) z_fuel M 0 (by unfold z_fuel; omega) hIM hf hFT hCT (fun u hu hb => by rw [gb_0] at hb; exact absurd hb (by decide)) (fun u hu => absurd hu (by omega))
      rw [show f_X1_findCosts_103_p17 (f_X1_findCosts_103_p2 fu) z_fuel (nI n) (0 : Int32) (0 : Int32) M = _ from e1]
      exact ih (n + 1) (by omega) fu M' (by omega) e2 e3 e4 e5
  exact outer (ni M0) 0 (by omega) z_fuel M1 (by unfold z_fuel; omega) hI1 hf1 hF (fun n hn => absurd hn (by omega))
def w_s6 : zWs := ([(107, 1), (107, 38), (107, 52), (103, 8), (103, 9)], [82, 84, 85, 86, 104, 105, 106, 128, 129, 139, 140, 141])
theorem hK6q {k0 : Nat} {M0 M : zMM} (hI : z_I k0 M0) (hf : z_fr w_s6 M0 M) : M 53 6 = nI (tk M0) := by
  rw [hf 53 6 rfl]; exact hKq hI z_fr.refl
/-- what is settled so far may stand -/
def gdq (M0 : zMM) (w t : Nat) (σ : Nat → Nat) : Prop := ∀ u, u < t → u < tk M0 ∧ okq M0 w u (σ u)
theorem e_total {k0 : Nat} {M0 M : zMM} (hk : k0 < 600) (hI : z_I k0 M0) (hf : z_fr w_s6 M0 M) (hC : CTB M0 M (ni M0)) {t w : Nat} {σ : Nat → Nat} {x : Int32} (ht : t ≤ 5) (hx : ABq t σ x) (hg : gdq M0 w t σ) : ∃ y, f_X1_priceOf_103 x M = some (y, M) ∧ z_ls (tq M0 (fun n => sn_ σ n t) (ni M0) 0) y := by
  obtain ⟨n1, n2, n3⟩ := e_ni hI
  have h32 : ∀ n, sn_ σ n t < 32 := fun n => Nat.lt_of_lt_of_le sn_lt (Nat.pow_le_pow_right (n := 2) (by decide) ht)
  have loop : ∀ r n, n + r = ni M0 → ∀ fu acc, r < fu → acc ≤ 400 * n → ∃ y, f_X1_priceOf_103_p4 fu x (nI acc) (nI n) M = some (y, M) ∧ z_ls (fun v => ∃ w, v = acc + w ∧ tq M0 (fun n => sn_ σ n t) r n w) y := by
    intro r
    induction r with
    | zero =>
      intro n hn fu acc hfu hacc
      obtain ⟨fu, rfl⟩ : ∃ m, fu = m + 1 := ⟨fu - 1, by omega⟩
      unfold f_X1_priceOf_103_p4
      rw [hf 87 5 rfl, n2, if_pos (nI_le (by omega) (by omega))]
      refine ⟨nI acc, rfl, Or.inr ⟨acc, rfl, by omega, ⟨0, rfl, rfl⟩, ?_⟩⟩
      rintro v ⟨w, h1, h2⟩
      omega
    | succ r ih =>
      intro n hn fu acc hfu hacc
      obtain ⟨fu, rfl⟩ : ∃ m, fu = m + 1 := ⟨fu - 1, by omega⟩
      unfold f_X1_priceOf_103_p4
      rw [hf 87 5 rfl, n2, if_neg (nI_ge (by omega) (by omega)), AB_idx hx ht (by omega), show nI n * (32 : Int32) = nI (n * 32) from nI_mul n 32, nI_add, z_at_nI (by decide) (by have := h32 n; omega), Nat.mul_comm n 32, nI_1]
      have hp := hC n (by omega) (sn_ σ n t) (h32 n) (fun u hu hb => by
        rw [sn_bit, decide_eq_true_eq] at hb
        obtain ⟨g1, g2⟩ := hg u hb.1
        refine ⟨g1, ?_⟩
        have g2' : (if u = w then σ u = 0 else ftq M0 u (σ u)) := g2
        by_cases huw : u = w
        · rw [if_pos huw] at g2'
          rw [g2', Nat.zero_testBit] at hb
          exact absurd hb.2 (by decide)
        · rw [if_neg huw] at g2'
          exact (ft_pow hk hI g1 (by omega) hb.2 g2').2)
      rcases pc_of hI (show n < ni M0 by omega) hp with ⟨z1, z2⟩ | ⟨v, z1, z2, z3, z4⟩
      · rw [z1, if_pos rfl]
        refine ⟨-1, rfl, z_ls.none ?_⟩
        rintro v ⟨w', -, y, u, h1, -⟩
        exact z2 y h1
      · rw [z1, if_neg (nI_m1 (by omega)), nI_add]
        obtain ⟨y, e1, e2⟩ := ih (n + 1) (by omega) fu (acc + v) (by omega) (by omega)
        refine ⟨y, e1, e2.congr (fun u => ⟨?_, ?_⟩)⟩
        · rintro ⟨w', h1, h2⟩
          exact ⟨v + w', by omega, v, w', z3, rfl, h2⟩
        · rintro ⟨w', h1, y', u', h2, h3, h4⟩
          have := z4 y' h2
          exact ⟨u', by omega, h4⟩
  obtain ⟨y, e1, e2⟩ := loop (ni M0) 0 (by omega) z_fuel 0 (by unfold z_fuel; omega) (by omega)
  refine ⟨y, e1, e2.congr (fun v => ⟨?_, fun h => ⟨v, by omega, h⟩⟩)⟩
  rintro ⟨w', h1, h2⟩
  rw [show v = w' by omega]; exact h2
theorem e_leastFrom {k0 : Nat} {M0 M : zMM} (hk : k0 < 600) (hI : z_I k0 M0) (hf : z_fr w_s6 M0 M) (hF : FTB M0 M) (hC : CTB M0 M (ni M0)) {w : Nat} {xw : Int32} (hw : ∀ t, t < 5 → (nI t = xw ↔ t = w)) :
    ∀ k t, t + k = tk M0 → ∀ D, k < D → ∀ σ x, ABq t σ x → gdq M0 w t σ → ∃ y, f_X1_leastFrom_103 D (nI t) x xw M = some (y, M) ∧ z_ls (TS M0 (omq M0 w) k t σ) y := by
  have h5 := tk_le hI.j_cnt
  have n1 := (e_ni hI).1
  intro k
  induction k with
  | zero =>
    intro t ht D hD σ x hx hg
    obtain ⟨D, rfl⟩ : ∃ m, D = m + 1 := ⟨D - 1, by omega⟩
    obtain ⟨y, e1, e2⟩ := e_total hk hI hf hC (by omega) hx hg
    refine ⟨y, ?_, e2⟩
    unfold f_X1_leastFrom_103
    rw [hK6q hI hf, if_pos (nI_le (by omega) (by omega)), e1, z_bi_s]
  | succ k ih =>
    intro t ht D hD σ x hx hg
    obtain ⟨D, rfl⟩ : ∃ m, D = m + 1 := ⟨D - 1, by omega⟩
    unfold f_X1_leastFrom_103
    rw [hK6q hI hf, if_neg (nI_ge (by omega) (by omega)), if_pos (show nI t < (5 : Int32) from nI_lt (b := 5) (by omega) (by decide))]
    by_cases htw : t = w
    · rw [if_pos ((hw t (by omega)).mpr htw), nI_1]
      obtain ⟨y, e1, e2⟩ := ih (t + 1) (by omega) D (by omega) (upq σ t 0) x (AB_skip hx) (fun u hu => by
        show u < tk M0 ∧ okq M0 w u (if u = t then 0 else σ u)
        by_cases hut : u = t
        · rw [if_pos hut]
          refine ⟨by omega, ?_⟩
          show (if u = w then (0 : Nat) = 0 else _)
          rw [if_pos (by omega)]
        · rw [if_neg hut]; exact hg u (by omega))
      refine ⟨y, by rw [e1, z_bi_s], e2.congr (fun v => ⟨fun h => ⟨0, by omega, ?_, h⟩, ?_⟩)⟩
      · show (if t = w then (0 : Nat) = 0 else _)
        rw [if_pos htw]
      · rintro ⟨s, h1, h2, h3⟩
        have h2' : (if t = w then s = 0 else _) := h2
        rw [if_pos htw] at h2'
        rw [h2'] at h3; exact h3
    · rw [if_neg (fun z => htw ((hw t (by omega)).mp z))]
      have loop : ∀ r s, s + r = 16 → ∀ fu y, r < fu → z_ls (fun v => ∃ s', s' < s ∧ omq M0 w t s' ∧ TS M0 (omq M0 w) k (t + 1) (upq σ t s') v) y → ∃ y', f_X1_leastFrom_103_p43 (f_X1_leastFrom_103 D) fu (nI t) x xw y (nI s) M = some (y', M) ∧ z_ls (TS M0 (omq M0 w) (k + 1) t σ) y' := by
        intro r
        induction r with
        | zero =>
          intro s hs fu y hfu hy
          obtain ⟨fu, rfl⟩ : ∃ m, fu = m + 1 := ⟨fu - 1, by omega⟩
          unfold f_X1_leastFrom_103_p43
          rw [if_pos (show (16 : Int32) ≤ nI s from nI_le (a := 16) (by omega) (by omega))]
          refine ⟨y, rfl, hy.congr (fun v => ⟨fun ⟨s', h1, h2⟩ => ⟨s', by omega, h2⟩, fun ⟨s', h1, h2⟩ => ⟨s', by omega, h2⟩⟩)⟩
        | succ r ihr =>
          intro s hs fu y hfu hy
          obtain ⟨fu, rfl⟩ : ∃ m, fu = m + 1 := ⟨fu - 1, by omega⟩
          unfold f_X1_leastFrom_103_p43 f_X1_fitOf_103 f_X1_spread
          rw [if_neg (show ¬ (16 : Int32) ≤ nI s from nI_ge (b := 16) (by omega) (by decide)), show nI t * (16 : Int32) = nI (t * 16) from nI_mul t 16, nI_add, z_at_nI (by decide) (by omega), z_bi_s, Nat.mul_comm t 16, nI_1, nI_1]
          have hv := hF t (by omega) s (by omega)
          have skip : ¬ omq M0 w t s → ∃ y', f_X1_leastFrom_103_p43 (f_X1_leastFrom_103 D) fu (nI t) x xw y (nI (s + 1)) M = some (y', M) ∧ z_ls (TS M0 (omq M0 w) (k + 1) t σ) y' := by
            intro hno
            refine ihr (s + 1) (by omega) fu y (by omega) (hy.congr (fun v => ⟨fun ⟨s', h1, h2⟩ => ⟨s', by omega, h2⟩, fun ⟨s', h1, h2⟩ => ⟨s', ?_, h2⟩⟩))
            by_cases hss : s' = s
            · rw [hss] at h2; exact absurd h2.1 hno
            · omega
          have om : omq M0 w t s ↔ (ftq M0 t s ∧ ∀ n, n < 4 → s.testBit n = false → ¬ ftq M0 t (s + 2 ^ n)) := by
            show (if t = w then s = 0 else _) ↔ _
            rw [if_neg htw]
          rcases hv with ⟨z1, z2⟩ | ⟨z1, z2, z3⟩ | ⟨z1, z2, z3⟩
          · rw [z1, if_neg (by decide)]
            exact skip (fun q => z2 (om.mp q).1)
          · rw [z1, if_neg (by decide)]
            obtain ⟨n, y1, y2, y3⟩ := z3
            exact skip (fun q => (om.mp q).2 n y1 y2 y3)
          · rw [z1, if_pos rfl, z_bi_s, z_at_nI (by decide) (by omega), hf 1 s rfl, hI.j_st1 s (by omega)]
            obtain ⟨y2, e1, e2⟩ := ih (t + 1) (by omega) D (by omega) (upq σ t s) (x ||| ((z_spr.getD s 0) <<< (nI t &&& 31))) (AB_step hx (by omega) (by omega)) (fun u hu => by
              show u < tk M0 ∧ okq M0 w u (if u = t then s else σ u)
              by_cases hut : u = t
              · rw [if_pos hut]
                refine ⟨by omega, ?_⟩
                show (if u = w then s = 0 else ftq M0 u s)
                rw [if_neg (by omega), hut]; exact z2
              · rw [if_neg hut]; exact hg u (by omega))
            rw [e1, z_bi_s]
            have hls := hy.less e2
            have cg : ∀ {q : Int32}, z_ls (fun v => (∃ s', s' < s ∧ omq M0 w t s' ∧ TS M0 (omq M0 w) k (t + 1) (upq σ t s') v) ∨ TS M0 (omq M0 w) k (t + 1) (upq σ t s) v) q → z_ls (fun v => ∃ s', s' < s + 1 ∧ omq M0 w t s' ∧ TS M0 (omq M0 w) k (t + 1) (upq σ t s') v) q := by
              intro q hq
              refine hq.congr (fun v => ⟨?_, ?_⟩)
              · rintro (⟨s', h1, h2⟩ | h)
                · exact ⟨s', by omega, h2⟩
                · exact ⟨s, by omega, om.mpr ⟨z2, z3⟩, h⟩
              · rintro ⟨s', h1, h2⟩
                by_cases hss : s' = s
                · rw [hss] at h2; exact Or.inr h2.2
                · exact Or.inl ⟨s', by omega, h2⟩
            rcases e_less (y := y2) (x := y) (M := M) with ⟨hz, e⟩ | ⟨hz, e⟩
            · rw [e, z_bi_s, if_neg (by decide)]
              exact ihr (s + 1) (by omega) fu y2 (by omega) (cg (hls.1 hz))
            · rw [e, z_bi_s, if_pos rfl]
              exact ihr (s + 1) (by omega) fu y (by omega) (cg (hls.2 hz))
      exact loop 16 0 (by omega) z_fuel (-1) (by unfold z_fuel; omega) (z_ls.none (fun v ⟨s', h1, _⟩ => absurd h1 (by omega)))
/-- the first set that keeps the price -/
theorem e_firstSet {k0 : Nat} {M0 M : zMM} (hk : k0 < 600) (hI : z_I k0 M0) (hf : z_fr w_s6 M0 M) (hF : FTB M0 M) (hC : CTB M0 M (ni M0)) {k t v s0 : Nat} {σ : Nat → Nat} {x : Int32} (ht : t + (k + 1) = tk M0) (hx : ABq t σ x) (hg : gdq M0 99 t σ) (hv : v < 10000) (hle : ∀ u, TS M0 (okq M0 99) (k + 1) t σ u → v ≤ u)
    (h0 : s0 < 16) (h1 : okq M0 99 t s0) (h2 : TS M0 (okq M0 99) k (t + 1) (upq σ t s0) v) (h3 : ∀ s', s' < s0 → ¬ (okq M0 99 t s' ∧ TS M0 (okq M0 99) k (t + 1) (upq σ t s') v)) : f_X1_firstSet_103 (nI t) x (nI v) M = some (nI s0, M) := by
  have h5 := tk_le hI.j_cnt
  have hw : ∀ t, t < 5 → (nI t = (-1 : Int32) ↔ t = 99) := fun t ht => ⟨fun z => absurd z (nI_m1 (by omega)), fun z => by omega⟩
  have ok : ∀ s, okq M0 99 t s ↔ ftq M0 t s := by
    intro s
    show (if t = 99 then s = 0 else ftq M0 t s) ↔ _
    rw [if_neg (by omega)]
  have loop : ∀ r s, s + r = s0 → ∀ fu, r < fu → f_X1_firstSet_103_p3 fu (nI t) x (nI v) (nI s) M = some (nI s0, M) := by
    intro r
    have sub : ∀ s, s < 16 → ftq M0 t s → ∃ y, f_X1_leastFrom_103 8 (nI (t + 1)) (x ||| ((z_spr.getD s 0) <<< (nI t &&& 31))) (-1 : Int32) M = some (y, M) ∧ z_ls (TS M0 (okq M0 99) k (t + 1) (upq σ t s)) y := by
      intro s hs hft
      obtain ⟨y, e1, e2⟩ := e_leastFrom hk hI hf hF hC hw k (t + 1) (by omega) 8 (by omega) (upq σ t s) _ (AB_step hx (by omega) hs) (fun u hu => by
        show u < tk M0 ∧ okq M0 99 u (if u = t then s else σ u)
        by_cases hut : u = t
        · rw [if_pos hut]
          refine ⟨by omega, ?_⟩
          show (if u = 99 then s = 0 else ftq M0 u s)
          rw [if_neg (by omega), hut]; exact hft
        · rw [if_neg hut]; exact hg u (by omega))
      exact ⟨y, e1, TS_ls hI (K := tk M0) (by omega) e2⟩
    induction r with
    | zero =>
      intro s hs fu hfu
      obtain ⟨fu, rfl⟩ : ∃ m, fu = m + 1 := ⟨fu - 1, by omega⟩
      have hss : s = s0 := by omega
      rw [hss]
      obtain ⟨y, e1, e2⟩ := sub s0 h0 ((ok s0).mp h1)
      have hy : y = nI v := by
        refine e2.inj (Or.inr ⟨v, rfl, hv, h2, fun u hu => hle u ⟨s0, h0, h1, hu⟩⟩)
      unfold f_X1_firstSet_103_p3 f_X1_fitOf_103 f_X1_spread
      rw [if_neg (show ¬ (16 : Int32) ≤ nI s0 from nI_ge (b := 16) (by omega) (by decide)), show nI t * (16 : Int32) = nI (t * 16) from nI_mul t 16, nI_add, z_at_nI (by decide) (by omega), z_bi_s, Nat.mul_comm t 16, nI_1, nI_1, z_bi_s, z_at_nI (by decide) (by omega), hf 1 s0 rfl, hI.j_st1 s0 (by omega), e1, z_bi_s, hy]
      rcases hF t (by omega) s0 h0 with ⟨-, z2⟩ | ⟨z1, -⟩ | ⟨z1, -⟩
      · exact absurd ((ok s0).mp h1) z2
      · rw [z1, if_neg (by decide), if_pos rfl]
      · rw [z1, if_neg (by decide), if_pos rfl]
    | succ r ih =>
      intro s hs fu hfu
      obtain ⟨fu, rfl⟩ : ∃ m, fu = m + 1 := ⟨fu - 1, by omega⟩
      have next := ih (s + 1) (by omega) fu (by omega)
      unfold f_X1_firstSet_103_p3 f_X1_fitOf_103 f_X1_spread
      rw [if_neg (show ¬ (16 : Int32) ≤ nI s from nI_ge (b := 16) (by omega) (by decide)), show nI t * (16 : Int32) = nI (t * 16) from nI_mul t 16, nI_add, z_at_nI (by decide) (by omega), z_bi_s, Nat.mul_comm t 16, nI_1, nI_1, z_bi_s, z_at_nI (by decide) (by omega), hf 1 s rfl, hI.j_st1 s (by omega)]
      have go : ftq M0 t s → (z_bi (f_X1_leastFrom_103 8 (nI (t + 1)) (x ||| ((z_spr.getD s 0) <<< (nI t &&& 31))) (-1 : Int32) M) fun v10 M11 => if v10 = nI v then some (nI s, M11) else f_X1_firstSet_103_p3 fu (nI t) x (nI v) (nI (s + 1)) M11) = some (nI s0, M) := by
        intro hft
        obtain ⟨y, e1, e2⟩ := sub s (by omega) hft
        rw [e1, z_bi_s, if_neg (fun z => ?_)]
        · exact next
        · rw [z] at e2
          rcases e2 with ⟨q, -⟩ | ⟨u, q1, q2, q3, -⟩
          · exact nI_m1 (by omega) q
          · have : v = u := (nI_eq (by omega) (by omega)).mp q1
            rw [← this] at q3
            exact h3 s (by omega) ⟨(ok s).mpr hft, q3⟩
      rcases hF t (by omega) s (by omega) with ⟨z1, -⟩ | ⟨z1, z2, -⟩ | ⟨z1, z2, -⟩
      · rw [z1, if_pos rfl]; exact next
      · rw [z1, if_neg (by decide)]; exact go z2
      · rw [z1, if_neg (by decide)]; exact go z2
  exact loop s0 0 (by omega) z_fuel (by unfold z_fuel; omega)
/-- the plan -/
theorem e_planq {k0 : Nat} {M0 : zMM} (hk : k0 < 600) (hI : z_I k0 M0) {v : Nat} {g : Nat → Int32} (hv : v < 10000) :
    ∀ k t, t + k = tk M0 → ∀ fu σ x M, k < fu → z_fr w_s6 M0 M → FTB M0 M → CTB M0 M (ni M0) → ABq t σ x → gdq M0 99 t σ → (∀ u, TS M0 (okq M0 99) k t σ u → v ≤ u) → FT M0 (okq M0 99) k t σ v g → (∀ u, u < t → M 106 u = g u) → ∃ M', f_X1_plan_103_p27 fu (nI v) x (nI t) M = some (nI v, z_up M' 103 7 (1 : Int32)) ∧ z_fr ([], [106]) M M' ∧ ∀ u, u < tk M0 → M' 106 u = g u := by
  have h5 := tk_le hI.j_cnt
  intro k
  induction k with
  | zero =>
    intro t ht fu σ x M hfu hf hF hC hx hg hle hFT h106
    obtain ⟨fu, rfl⟩ : ∃ m, fu = m + 1 := ⟨fu - 1, by omega⟩
    unfold f_X1_plan_103_p27
    rw [hK6q hI hf, if_pos (nI_le (by omega) (by omega))]
    exact ⟨M, rfl, z_fr.refl, fun u hu => h106 u (by omega)⟩
  | succ k ih =>
    intro t ht fu σ x M hfu hf hF hC hx hg hle hFT h106
    obtain ⟨fu, rfl⟩ : ∃ m, fu = m + 1 := ⟨fu - 1, by omega⟩
    obtain ⟨s, a1, a2, a3, a4, a5, a6⟩ := hFT
    have hfs := e_firstSet hk hI hf hF hC ht hx hg hv hle a1 a2 a3 a4
    unfold f_X1_plan_103_p27 f_X1_spread
    rw [hK6q hI hf, if_neg (nI_ge (by omega) (by omega)), hfs, z_bi_s, z_pt_nI (by decide) (by omega), z_bv_s, z_bi_s, z_at_nI (by decide) (by omega), show z_up M 106 t (nI s) 1 s = M 1 s from rfl, hf 1 s rfl, hI.j_st1 s a1, nI_1]
    obtain ⟨M', e1, e2, e3⟩ := ih (t + 1) (by omega) fu (upq σ t s) (x ||| ((z_spr.getD s 0) <<< (nI t &&& 31))) (z_up M 106 t (nI s)) (by omega) (hf.up rfl) hF hC (AB_step hx (by omega) a1) (fun u hu => by
      show u < tk M0 ∧ okq M0 99 u (if u = t then s else σ u)
      by_cases hut : u = t
      · rw [if_pos hut, hut]; exact ⟨by omega, a2⟩
      · rw [if_neg hut]; exact hg u (by omega)) (fun u hu => hle u ⟨s, a1, a2, hu⟩) a6 (fun u hu => by
      by_cases hut : u = t
      · rw [hut, z_up_s, a5]
      · rw [z_up_n hut]; exact h106 u (by omega))
    exact ⟨M', e1, (z_fr.refl.up rfl).trans e2, e3⟩
