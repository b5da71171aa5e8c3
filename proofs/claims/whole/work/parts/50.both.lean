/-! ===== both ===== -/
theorem nN_div : ∀ N : Nat, N < 5 → ∀ p : Nat, p < N → ∀ q : Nat, q < N → (nI (p * N + q) / nI N = nI p ∧ nI (p * N + q) - nI p * nI N = nI q ∧ p * N + q < N * N ∧ nI N * nI N = nI (N * N)) := by decide +kernel
theorem e_both {k0 : Nat} {M0 : zMM} (hI0 : z_I k0 M0) {t o s r N : Nat} (ht : t < tw M0) (ho : o < tw M0) (hto : t ≠ o) (hs : s < 32) (hr : r < 32) (eN : tp M0 = N)
    (hs1 : ∀ M', z_I k0 M' → z_fr w_sk M0 M' → f_X4_trunksIn_87 (nI t) M' = some (nI s, M') ∧ f_X8_trunksAt_107 (nI t) M' = some (nI s, M'))
    (hr1 : ∀ M', z_I k0 M' → z_fr w_sk M0 M' → f_X4_trunksIn_87 (nI o) M' = some (nI r, M') ∧ f_X8_trunksAt_107 (nI o) M' = some (nI r, M')) {a3 : Int32} {p : Nat} (hp : p < N) {K : Int32 → Int32 → Int32 → Int32 → Int32 → Int32 → zMM → Option ((Int32 ⊕ Nat) × zMM)} :
    ∀ k j, j + k = N → ∀ fu gu M M' x4 x5, k < fu → z_I k0 M → z_I k0 M' → z_fr w_sk M0 M → z_fr w_sk M0 M' → ((x4 = -1 ∧ x5 = -1) ∨ (x4 ≠ -1 ∧ x5 ≠ -1)) → ∃ y4 y5 M1 M1', f_X7_both_51_p45 K fu (nI t) (nI o) a3 x4 x5 (nI p) (nI j) M = K (nI t) (nI o) a3 y4 y5 (nI (p + 1)) M1 ∧ f_X8_both_107_p45 (gu + k) (nI t) (nI o) a3 x4 x5 (nI (p * N + j)) M' = f_X8_both_107_p45 gu (nI t) (nI o) a3 y4 y5 (nI (p * N + N)) M1' ∧ z_I k0 M1 ∧ z_I k0 M1' ∧ z_fr w_sk M0 M1 ∧ z_fr w_sk M0 M1' ∧ M1' 107 1 = M' 107 1 ∧ ((y4 = -1 ∧ y5 = -1) ∨ (y4 ≠ -1 ∧ y5 ≠ -1)) := by
  have h4 := tp_le hI0.j_cnt
  have h5 := tw_le hI0.j_cnt
  have hN : M0 109 3 = nI N := by
    obtain ⟨m, -, hm, hc, -⟩ := hI0.j_cnt.2.2.2.2.2.2.2.2.1.nI
    have : tp M0 = m := hc
    rw [hm]; rw [show N = m by omega]
  intro k
  induction k with
  | zero =>
    intro j hj fu gu M M' x4 x5 hfu hI hI' hf hf' hx
    obtain ⟨fu, rfl⟩ : ∃ m, fu = m + 1 := ⟨fu - 1, by omega⟩
    unfold f_X7_both_51_p45
    rw [hI.j_cnt.2.2.2.1, hf 109 3 rfl, hN, if_pos (nI_le (by omega) (by omega)), nI_1, show p * N + j = p * N + N by omega]
    exact ⟨x4, x5, M, M', rfl, rfl, hI, hI', hf, hf', rfl, hx⟩
  | succ k ih =>
    intro j hj fu gu M M' x4 x5 hfu hI hI' hf hf' hx
    obtain ⟨fu, rfl⟩ : ∃ m, fu = m + 1 := ⟨fu - 1, by omega⟩
    obtain ⟨v1, v2, v3, v4⟩ := nN_div N (by omega) p hp j (by omega)
    have hN0 : ¬ nI N = (0 : Int32) := nI_ne0 (by omega) (by omega)
    obtain ⟨c1, c2, c3, c4⟩ := cntfrq hf
    obtain ⟨d1, d2, d3, d4⟩ := cntfrq hf'
    have ep : ∀ i, i < N → M 62 i = M' 118 i := fun i hi => by
      rw [(hI.j_play i (by omega)).1, hf 118 i rfl, hf' 118 i rfl]
    have et : M 53 16 = M' 109 4 := by rw [hI.j_cnt.2.2.2.2.1, hf 109 4 rfl, hf' 109 4 rfl]
    unfold f_X7_both_51_p45
    rw [hI.j_cnt.2.2.2.1, hf 109 3 rfl, hN, if_neg (nI_ge (by omega) (by omega))]
    unfold f_X7_priceOfBoth_51
    rw [z_at_nI (by decide) (by omega), z_at_nI (by decide) (by omega), ep p hp, ep j (by omega), et]
    have hmod : ∀ R, (if (M' 118 p + M' 118 j) ≤ (M' 109 4) then
                z_bi (f_X8_trunksAt_107 (nI t) M') fun v30 M31 =>
                z_bi (f_X8_thingsOf_107 v30 M31) fun v33 M34 =>
                z_bi (f_X8_priceOf_107 (nI p) (nI t) v33 M34) fun v36 M37 =>
                z_bi (f_X8_trunksAt_107 (nI o) M37) fun v39 M40 =>
                z_bi (f_X8_thingsOf_107 v39 M40) fun v42 M43 =>
                z_bi (f_X8_priceOf_107 (nI j) (nI o) v42 M43) fun v45 M46 =>
                if v36 = (-1 : Int32) then
                  f_X8_both_107_p45 (gu + k) (nI t) (nI o) a3 x4 x5 (nI (p * N + (j + 1))) M46
                else
                  if v45 = (-1 : Int32) then
                    f_X8_both_107_p45 (gu + k) (nI t) (nI o) a3 x4 x5 (nI (p * N + (j + 1))) M46
                  else
                    if x4 = (-1 : Int32) then
                      f_X8_both_107_p45 (gu + k) (nI t) (nI o) a3 ((8 : Int32) * nI p + nI j) (v36 + v45) (nI (p * N + (j + 1))) M46
                    else
                      if (v36 + v45) < x5 then
                        f_X8_both_107_p45 (gu + k) (nI t) (nI o) a3 ((8 : Int32) * nI p + nI j) (v36 + v45) (nI (p * N + (j + 1))) M46
                      else
                        f_X8_both_107_p45 (gu + k) (nI t) (nI o) a3 x4 x5 (nI (p * N + (j + 1))) M46
              else
                f_X8_both_107_p45 (gu + k) (nI t) (nI o) a3 x4 x5 (nI (p * N + (j + 1))) M') = R → f_X8_both_107_p45 (gu + (k + 1)) (nI t) (nI o) a3 x4 x5 (nI (p * N + j)) M' = R := by
      intro R hR
      show f_X8_both_107_p45 ((gu + k) + 1) (nI t) (nI o) a3 x4 x5 (nI (p * N + j)) M' = R
      unfold f_X8_both_107_p45
      rw [hf' 109 3 rfl, hN, v4, if_neg (nI_ge v3 (by
        have : N * N ≤ 4 * 4 := Nat.mul_le_mul (by omega) (by omega)
        omega)), if_neg (fun z => hto ((nI_eq (by omega) (by omega)).mp z)), if_pos hN0, if_pos hN0, v1, v2, if_pos (z_ib_n (by decide) (by omega)), if_pos (z_ib_n (by decide) (by omega)), nI_clamp (by omega), nI_clamp (by omega)]
      unfold f_X8_both_107_p184
      rw [nI_1, Nat.add_assoc]
      exact hR
    by_cases hc : (M' 118 p + M' 118 j) ≤ (M' 109 4)
    · rw [if_pos hc]
      -- class
      rw [(hs1 M hI hf).1, z_bi_s]
      obtain ⟨x, Ma, a1, a2, a4, a5⟩ := e_byTr hI (p := p) (t := t) (s := s) (by omega) (by omega) hs
      have hfa : z_fr w_sk M0 Ma := hf.trans a5
      rw [a1, z_bi_s, (hr1 Ma a4 hfa).1, z_bi_s]
      obtain ⟨e1, e2, e3, e4⟩ := cntfrq hfa
      obtain ⟨x', Mb, b1, b2, b4, b5⟩ := e_byTr a4 (p := j) (t := o) (s := r) (by omega) (by omega) hr
      have hfb : z_fr w_sk M0 Mb := hfa.trans b5
      rw [b1, z_bi_s]
      -- model
      obtain ⟨y, -, y2, y3⟩ := e_things hI' hI' z_fr.refl s
      obtain ⟨u, Mc, m1, m2, m4, m5, m6⟩ := e_mTr hI' (p := p) (t := t) (s := s) (y := y) (by omega) (by omega) y3
      have hfc : z_fr w_sk M0 Mc := hf'.trans m5
      obtain ⟨y', -, y2', y3'⟩ := e_things m4 m4 z_fr.refl r
      obtain ⟨g1, g2, g3, g4⟩ := cntfrq hfc
      obtain ⟨u', Md, n1, n2, n4, n5, n6⟩ := e_mTr m4 (p := j) (t := o) (s := r) (y := y') (by omega) (by omega) y3'
      have hfd : z_fr w_sk M0 Md := hfc.trans n5
      have hux : u = x := by
        rw [zPfrq hf'] at m2
        rw [zPfrq hf] at a2
        exact m2.inj a2
      have hux' : u' = x' := by
        rw [zPfrq hfc] at n2
        rw [zPfrq hfa] at b2
        exact n2.inj b2
      rw [hux] at m1
      rw [hux'] at n1
      have hmod' : ∀ R, (if x = (-1 : Int32) then
                  f_X8_both_107_p45 (gu + k) (nI t) (nI o) a3 x4 x5 (nI (p * N + (j + 1))) Md
                else
                  if x' = (-1 : Int32) then
                    f_X8_both_107_p45 (gu + k) (nI t) (nI o) a3 x4 x5 (nI (p * N + (j + 1))) Md
                  else
                    if x4 = (-1 : Int32) then
                      f_X8_both_107_p45 (gu + k) (nI t) (nI o) a3 ((8 : Int32) * nI p + nI j) (x + x') (nI (p * N + (j + 1))) Md
                    else
                      if (x + x') < x5 then
                        f_X8_both_107_p45 (gu + k) (nI t) (nI o) a3 ((8 : Int32) * nI p + nI j) (x + x') (nI (p * N + (j + 1))) Md
                      else
                        f_X8_both_107_p45 (gu + k) (nI t) (nI o) a3 x4 x5 (nI (p * N + (j + 1))) Md) = R → f_X8_both_107_p45 (gu + (k + 1)) (nI t) (nI o) a3 x4 x5 (nI (p * N + j)) M' = R := by
        intro R hR
        refine hmod R ?_
        rw [if_pos hc, (hs1 M' hI' hf').2, z_bi_s, y2, z_bi_s, m1, z_bi_s, (hr1 Mc m4 hfc).2, z_bi_s, y2', z_bi_s, n1, z_bi_s]
        exact hR
      have hv : ∀ {P : Nat → Prop} {z : Int32}, z_ls P z → z ≠ -1 → ∃ v, v < 10000 ∧ z = nI v := by
        intro P z hz hne
        rcases hz with ⟨q, -⟩ | ⟨v, q1, q2, -⟩
        · exact absurd q hne
        · exact ⟨v, q2, q1⟩
      have fin : ∀ z4 z5 (R : Option (Int32 × zMM)), ((z4 = -1 ∧ z5 = -1) ∨ (z4 ≠ -1 ∧ z5 ≠ -1)) → f_X8_both_107_p45 (gu + (k + 1)) (nI t) (nI o) a3 x4 x5 (nI (p * N + j)) M' = f_X8_both_107_p45 (gu + k) (nI t) (nI o) a3 z4 z5 (nI (p * N + (j + 1))) Md → ∃ y4 y5 M1 M1', f_X7_both_51_p45 K fu (nI t) (nI o) a3 z4 z5 (nI p) (nI (j + 1)) Mb = K (nI t) (nI o) a3 y4 y5 (nI (p + 1)) M1 ∧ f_X8_both_107_p45 (gu + (k + 1)) (nI t) (nI o) a3 x4 x5 (nI (p * N + j)) M' = f_X8_both_107_p45 gu (nI t) (nI o) a3 y4 y5 (nI (p * N + N)) M1' ∧ z_I k0 M1 ∧ z_I k0 M1' ∧ z_fr w_sk M0 M1 ∧ z_fr w_sk M0 M1' ∧ M1' 107 1 = M' 107 1 ∧ ((y4 = -1 ∧ y5 = -1) ∨ (y4 ≠ -1 ∧ y5 ≠ -1)) := by
        intro z4 z5 R hz hm
        obtain ⟨y4, y5, M1, M1', s1, s2, s3, s4, s5, s6, s7, s8⟩ := ih (j + 1) (by omega) fu gu Mb Md z4 z5 (by omega) b4 n4 hfb hfd hz
        exact ⟨y4, y5, M1, M1', s1, hm.trans s2, s3, s4, s5, s6, s7.trans (n6.trans m6), s8⟩
      by_cases hx1 : x = -1
      · rw [if_pos hx1, z_bi_s]
        have e : f_X7_isLess (-1 : Int32) x5 Mb = some ((0 : Int32), Mb) := if_pos rfl
        rw [e, z_bi_s, if_pos rfl, nI_1]
        exact fin x4 x5 none hx (hmod' _ (if_pos hx1))
      · rw [if_neg hx1]
        by_cases hx2 : x' = -1
        · rw [if_pos hx2, z_bi_s]
          have e : f_X7_isLess (-1 : Int32) x5 Mb = some ((0 : Int32), Mb) := if_pos rfl
          rw [e, z_bi_s, if_pos rfl, nI_1]
          exact fin x4 x5 none hx (hmod' _ (by rw [if_neg hx1, if_pos hx2]))
        · rw [if_neg hx2, z_bi_s]
          obtain ⟨v, hv1, hv2⟩ := hv a2 hx1
          obtain ⟨v', hv1', hv2'⟩ := hv b2 hx2
          have hsum : x + x' ≠ -1 := by
            rw [hv2, hv2', nI_add]; exact nI_m1 (by omega)
          rcases e_less (y := x + x') (x := x5) (M := Mb) with ⟨hz, e⟩ | ⟨hz, e⟩
          · rw [e, z_bi_s, if_neg (by decide), nI_1]
            have hnew : (((8 : Int32) * nI p + nI j) = -1 ∧ x + x' = -1) ∨ (((8 : Int32) * nI p + nI j) ≠ -1 ∧ x + x' ≠ -1) := by
              refine Or.inr ⟨?_, hsum⟩
              rw [show (8 : Int32) * nI p = nI (8 * p) from nI_mul 8 p, nI_add]
              exact nI_m1 (by omega)
            refine fin _ _ none hnew (hmod' _ ?_)
            rw [if_neg hx1, if_neg hx2]
            rcases hx with ⟨q1, q2⟩ | ⟨q1, q2⟩
            · rw [if_pos q1]
            · rw [if_neg q1, if_pos (hz.2.resolve_left q2)]
          · rw [e, z_bi_s, if_pos rfl, nI_1]
            refine fin x4 x5 none hx (hmod' _ ?_)
            rw [if_neg hx1, if_neg hx2]
            rcases hx with ⟨q1, q2⟩ | ⟨q1, q2⟩
            · exact absurd ⟨hsum, Or.inl q2⟩ hz
            · rw [if_neg q1, if_neg (fun z => hz ⟨hsum, Or.inr z⟩)]
    · rw [if_neg hc, z_bi_s]
      have e : f_X7_isLess (-1 : Int32) x5 M = some ((0 : Int32), M) := if_pos rfl
      rw [e, z_bi_s, if_pos rfl, nI_1]
      obtain ⟨y4, y5, M1, M1', s1, s2, s3, s4, s5, s6, s7, s8⟩ := ih (j + 1) (by omega) fu gu M M' x4 x5 (by omega) hI hI' hf hf' hx
      exact ⟨y4, y5, M1, M1', s1, (hmod _ (if_neg hc)).trans s2, s3, s4, s5, s6, s7, s8⟩
theorem e_both2 {k0 : Nat} {M0 : zMM} (hI0 : z_I k0 M0) {t o s r N : Nat} (ht : t < tw M0) (ho : o < tw M0) (hto : t ≠ o) (hs : s < 32) (hr : r < 32) (eN : tp M0 = N)
    (hs1 : ∀ M', z_I k0 M' → z_fr w_sk M0 M' → f_X4_trunksIn_87 (nI t) M' = some (nI s, M') ∧ f_X8_trunksAt_107 (nI t) M' = some (nI s, M'))
    (hr1 : ∀ M', z_I k0 M' → z_fr w_sk M0 M' → f_X4_trunksIn_87 (nI o) M' = some (nI r, M') ∧ f_X8_trunksAt_107 (nI o) M' = some (nI r, M')) {a3 : Int32} :
    ∀ k p, p + k = N → ∀ fu gu M M' x4 x5, k < fu → z_I k0 M → z_I k0 M' → z_fr w_sk M0 M → z_fr w_sk M0 M' → ((x4 = -1 ∧ x5 = -1) ∨ (x4 ≠ -1 ∧ x5 ≠ -1)) → ∃ v M1 M1', f_X7_both_51_p30 fu (nI t) (nI o) a3 x4 x5 (nI p) M = some (.inl v, M1) ∧ f_X8_both_107_p45 (gu + 1 + k * N) (nI t) (nI o) a3 x4 x5 (nI (p * N)) M' = some (v, M1') ∧ z_I k0 M1 ∧ z_I k0 M1' ∧ z_fr w_sk M0 M1 ∧ z_fr w_sk M0 M1' ∧ M1' 107 1 = M' 107 1 := by
  have h4 := tp_le hI0.j_cnt
  have hN : M0 109 3 = nI N := by
    obtain ⟨m, -, hm, hc, -⟩ := hI0.j_cnt.2.2.2.2.2.2.2.2.1.nI
    have : tp M0 = m := hc
    rw [hm]; rw [show N = m by omega]
  intro k
  induction k with
  | zero =>
    intro p hp fu gu M M' x4 x5 hfu hI hI' hf hf' hx
    obtain ⟨fu, rfl⟩ : ∃ m, fu = m + 1 := ⟨fu - 1, by omega⟩
    have hpN : p = N := by omega
    rw [hpN, show gu + 1 + 0 * N = gu + 1 by omega]
    have hNN : N * N ≤ 4 * 4 := Nat.mul_le_mul (by omega) (by omega)
    unfold f_X7_both_51_p30 f_X8_both_107_p45
    rw [hI.j_cnt.2.2.2.1, hf 109 3 rfl, hN, if_pos (nI_le (Nat.le_refl _) (by omega)), hf' 109 3 rfl, hN, nI_mul, if_pos (nI_le (Nat.le_refl _) (by omega))]
    by_cases h : a3 = 0
    · rw [if_pos h, if_pos h]; exact ⟨x4, M, M', rfl, rfl, hI, hI', hf, hf', rfl⟩
    · rw [if_neg h, if_neg h]; exact ⟨x5, M, M', rfl, rfl, hI, hI', hf, hf', rfl⟩
  | succ k ih =>
    intro p hp fu gu M M' x4 x5 hfu hI hI' hf hf' hx
    obtain ⟨fu, rfl⟩ : ∃ m, fu = m + 1 := ⟨fu - 1, by omega⟩
    unfold f_X7_both_51_p30
    rw [hI.j_cnt.2.2.2.1, hf 109 3 rfl, hN, if_neg (nI_ge (by omega) (by omega))]
    obtain ⟨y4, y5, M1, M1', s1, s2, s3, s4, s5, s6, s7, s8⟩ := e_both hI0 ht ho hto hs hr eN hs1 hr1 (a3 := a3) (p := p) (by omega) (K := f_X7_both_51_p30 fu) N 0 (by omega) z_fuel (gu + 1 + k * N) M M' x4 x5 (by unfold z_fuel; omega) hI hI' hf hf' hx
    rw [show f_X7_both_51_p45 (f_X7_both_51_p30 fu) z_fuel (nI t) (nI o) a3 x4 x5 (nI p) (0 : Int32) M = _ from s1]
    obtain ⟨v, N1, N1', u1, u2, u3, u4, u5, u6, u7⟩ := ih (p + 1) (by omega) fu gu M1 M1' y4 y5 (by omega) s3 s4 s5 s6 s8
    refine ⟨v, N1, N1', u1, ?_, u3, u4, u5, u6, u7.trans s7⟩
    rw [show gu + 1 + (k + 1) * N = gu + 1 + k * N + N by rw [Nat.succ_mul]; omega, show p * N = p * N + 0 by omega, s2, ← u2, show p * N + N = (p + 1) * N by rw [Nat.succ_mul]]
theorem B_both : z_op_both := by
  intro k M a1 a2 a3 hk hI
  have q := hI.j_cnt.1
  have bt := hI.j_cnt.2.2.2.2.2.1
  have h5 := tw_le hI.j_cnt
  have h4 := tp_le hI.j_cnt
  have hfail : f_X7_both_51 a1 a2 a3 M = some (.inr 0, M) → f_X8_both_107 a1 a2 a3 M = some ((0 : Int32), z_up (z_up M 107 1 (0 : Int32)) 107 1 (1 : Int32)) → ∃ (o : Int32 ⊕ Nat) (M1 : zMM) (b : Int32) (M2 : zMM), f_X7_both_51 a1 a2 a3 M = some (o, M1) ∧ f_X8_both_107 a1 a2 a3 M1 = some (b, M2) ∧ z_ag o b (M2 107 1) (some 1) none ∧ z_I (k + 1) M2 :=
    fun h1 h3 => ⟨.inr 0, M, 0, _, h1, h3, ⟨1, rfl, rfl, by decide⟩, hI.code ((z_fr.refl.up rfl).up rfl)⟩
  have hM0 : a1 < 0 ∨ (¬ a1 < 0 ∧ ¬ a1 < M 109 0) → ∃ (o : Int32 ⊕ Nat) (M1 : zMM) (b : Int32) (M2 : zMM), f_X7_both_51 a1 a2 a3 M = some (o, M1) ∧ f_X8_both_107 a1 a2 a3 M1 = some (b, M2) ∧ z_ag o b (M2 107 1) (some 1) none ∧ z_I (k + 1) M2 := by
    intro h
    refine hfail ?_ ?_
    · unfold f_X7_both_51; rw [e_pTown0 q h]; rfl
    · unfold f_X8_both_107; rw [e_mTown0 (M := z_up M 107 1 (0 : Int32)) bt h]; rfl
  rcases z_ix a1 bt with h | h | ⟨t, ht, rfl, h0, h1⟩
  · exact hM0 (Or.inl h)
  · exact hM0 (Or.inr h)
  have hM1 : a2 < 0 ∨ (¬ a2 < 0 ∧ ¬ a2 < M 109 0) → ∃ (o : Int32 ⊕ Nat) (M1 : zMM) (b : Int32) (M2 : zMM), f_X7_both_51 (nI t) a2 a3 M = some (o, M1) ∧ f_X8_both_107 (nI t) a2 a3 M1 = some (b, M2) ∧ z_ag o b (M2 107 1) (some 1) none ∧ z_I (k + 1) M2 := by
    intro h
    refine hfail ?_ ?_
    · unfold f_X7_both_51; rw [e_pTown1 q h0 h1, z_bt_l, e_pTown0 q h]; rfl
    · unfold f_X8_both_107; rw [e_mTown1 (M := z_up M 107 1 (0 : Int32)) bt h0 h1, z_bi_s, if_neg (by decide), e_mTown0 (M := z_up M 107 1 (0 : Int32)) bt h]; rfl
  rcases z_ix a2 bt with h | h | ⟨o, ho, rfl, h2, h3⟩
  · exact hM1 (Or.inl h)
  · exact hM1 (Or.inr h)
  have ht' : t < tw M := ht
  have ho' : o < tw M := ho
  have eM : ∀ M1 r, z_fr w_sk M M1 → z_I k M1 → (if (¬ a3 < 0 ∧ a3 ≤ 1) then f_X8_both_107_p45 z_fuel (nI t) (nI o) a3 (-1 : Int32) (-1 : Int32) (0 : Int32) (z_up M1 107 1 (0 : Int32)) else some ((0 : Int32), z_up (z_up M1 107 1 (0 : Int32)) 107 1 (1 : Int32))) = r → f_X8_both_107 (nI t) (nI o) a3 M1 = r := by
    intro M1 r hf hI1 hr
    have bT1 : z_bd (M1 109 0) 0 5 := hI1.j_cnt.2.2.2.2.2.1
    have g1 : nI t < M1 109 0 := by rw [hf 109 0 rfl]; exact h1
    have g3 : nI o < M1 109 0 := by rw [hf 109 0 rfl]; exact h3
    unfold f_X8_both_107
    rw [e_mTown1 (M := z_up M1 107 1 (0 : Int32)) bT1 h0 g1, z_bi_s, if_neg (by decide), e_mTown1 (M := z_up M1 107 1 (0 : Int32)) bT1 h2 g3, z_bi_s, if_neg (by decide), ← hr]
    by_cases g : a3 < 0
    · rw [if_pos g, if_neg (fun z => z.1 g)]; rfl
    · by_cases g' : a3 ≤ 1
      · rw [if_neg g, if_pos g', if_pos ⟨g, g'⟩]
      · rw [if_neg g, if_neg g', if_neg (fun z => g' z.2)]; rfl
  rcases e_pair (a := a3) (M := M) with ⟨g, e⟩ | ⟨g, e⟩
  · by_cases hto : t = o
    · have hto' : nI t = nI o := by rw [hto]
      refine ⟨.inl (-1), M, -1, z_up M 107 1 (0 : Int32), ?_, eM M _ z_fr.refl hI ((if_pos (pair_mq.mp g)).trans ?_), ⟨rfl, rfl⟩, (hI.sc w1_sc).up⟩
      · unfold f_X7_both_51
        rw [e_pTown1 q h0 h1, z_bt_l, e_pTown1 q h2 h3, z_bt_l, e, z_bt_l, if_pos hto']
      · rw [show z_fuel = 99999 + 1 from rfl]
        unfold f_X8_both_107_p45
        simp only [if_pos hto', ite_self]
    · have tr2 : ∀ {x : Nat}, x < tw M → ∃ s, s < 32 ∧ ∀ M', z_I k M' → z_fr w_sk M M' → f_X4_trunksIn_87 (nI x) M' = some (nI s, M') ∧ f_X8_trunksAt_107 (nI x) M' = some (nI s, M') := by
        intro x hx
        obtain ⟨s, hs, s1, s2, s3⟩ := e_trunks hI z_fr.refl (a := x) (by omega)
        refine ⟨s, hs, fun M' hI' hf => ?_⟩
        obtain ⟨s', hs', s1', s2', s3'⟩ := e_trunks hI hf (a := x) (by omega)
        rw [s1] at s1'
        injection s1' with z
        injection z with z
        obtain ⟨s'', hs'', s1'', s2'', -⟩ := e_trunks hI' z_fr.refl (a := x) (by omega)
        rw [s2'] at s2''
        injection s2'' with z'
        injection z' with z'
        exact ⟨by rw [s1'', ← z', ← z], by rw [s2', ← z]⟩
      obtain ⟨s, hs, hs1⟩ := tr2 ht'
      obtain ⟨r, hr, hr1⟩ := tr2 ho'
      have key : ∀ M', z_I k M' → z_fr w_sk M M' → ∃ v M1 M1', f_X7_both_51_p30 z_fuel (nI t) (nI o) a3 (-1) (-1) (nI 0) M = some (.inl v, M1) ∧ f_X8_both_107_p45 z_fuel (nI t) (nI o) a3 (-1) (-1) (nI 0) M' = some (v, M1') ∧ z_I k M1 ∧ z_I k M1' ∧ z_fr w_sk M M1 ∧ z_fr w_sk M M1' ∧ M1' 107 1 = M' 107 1 := by
        intro M' hI' hf'
        have hNN : tp M * tp M ≤ 4 * 4 := Nat.mul_le_mul h4 h4
        have hz : z_fuel = (99999 - tp M * tp M) + 1 + tp M * tp M := by unfold z_fuel; omega
        have := e_both2 hI ht' ho' hto hs hr rfl hs1 hr1 (a3 := a3) (tp M) 0 (by omega) z_fuel (99999 - tp M * tp M) M M' (-1) (-1) (by unfold z_fuel; omega) hI hI' z_fr.refl hf' (Or.inl ⟨rfl, rfl⟩)
        rw [← hz, Nat.zero_mul] at this
        exact this
      obtain ⟨v, M1, -, e1, -, i1, -, f1, -, -⟩ := key M hI z_fr.refl
      obtain ⟨v', M1', M2, e1', e2, -, i2, -, f2, f3⟩ := key (z_up M1 107 1 (0 : Int32)) (i1.sc w1_sc) (f1.up rfl)
      rw [e1] at e1'
      injection e1' with z
      injection z with z z'
      injection z with z
      rw [← z] at e2
      refine ⟨.inl v, M1, v, M2, ?_, eM M1 _ f1 i1 ((if_pos (pair_mq.mp g)).trans e2), ⟨?_, rfl⟩, i2.up⟩
      · unfold f_X7_both_51
        rw [e_pTown1 q h0 h1, z_bt_l, e_pTown1 q h2 h3, z_bt_l, e, z_bt_l, if_neg (fun z => hto ((nI_eq (by omega) (by omega)).mp z))]
        exact e1
      · show M2 107 1 = 0
        rw [f3]; exact z_up_s
  · refine hfail ?_ (eM M _ z_fr.refl hI (if_neg (fun z => g (pair_mq.mpr z))))
    unfold f_X7_both_51
    rw [e_pTown1 q h0 h1, z_bt_l, e_pTown1 q h2 h3, z_bt_l, e, z_bt_r]
