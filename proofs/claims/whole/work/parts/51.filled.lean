/-! ===== filled ===== -/
theorem FF_uniq {q : Nat → Nat → Nat} {c : Nat} : ∀ {k i : Nat} {L : Nat → Bool} {l v : Nat} {g g' : Nat → Int32}, FF q c k i L l v g → FF q c k i L l v g' → ∀ j, i ≤ j → j < i + k → g j = g' j := by
  intro k
  induction k with
  | zero => intro i L l v g g' _ _ j h1 h2; omega
  | succ k ih =>
    intro i L l v g g' h h' j h1 h2
    rcases h with ⟨t, w, a1, a2, a3, a4, a5, a6, a7⟩ | ⟨a1, a2, w, a3, a4, a5⟩ <;> rcases h' with ⟨t', w', b1, b2, b3, b4, b5, b6, b7⟩ | ⟨b1, b2, w', b3, b4, b5⟩
    · have o1 : op1 q c k i L l t v := ⟨a2, a3, w, a4, FF_zRq a7⟩
      have o2 : op1 q c k i L l t' v := ⟨b2, b3, w', b4, FF_zRq b7⟩
      have htt : t = t' := by
        apply Nat.le_antisymm
        · exact Nat.not_lt.mp (fun z => a5 t' z o2)
        · exact Nat.not_lt.mp (fun z => b5 t z o1)
      by_cases hj : j = i
      · rw [hj, a6, b6, htt]
      · rw [← htt] at b4 b7
        have hw : w = w' := by omega
        rw [← hw] at b7
        exact ih a7 b7 j (by omega) (by omega)
    · exact absurd ⟨a2, a3, w, a4, FF_zRq a7⟩ (b1 t a1)
    · exact absurd ⟨b2, b3, w', b4, FF_zRq b7⟩ (a1 t' b1)
    · by_cases hj : j = i
      · rw [hj, a4, b4]
      · have hw : w = w' := by omega
        rw [← hw] at b5
        exact ih a5 b5 j (by omega) (by omega)
theorem zqfrq {M M' : zMM} (hf : z_fr ([], [85, 86]) M M') (so : Nat → Nat) (p : Nat) : zq M' so p = zq M so p := by
  funext t j
  show sm_ M' (so t) (nd_ M' p j) = sm_ M (so t) (nd_ M p j)
  have e : nd_ M' p j = nd_ M p j := by unfold nd_; rw [hf 119 _ rfl]
  rw [e]
  unfold sm_
  rw [hf 121 _ rfl]
theorem nI_subq {a b : Nat} (h : b ≤ a) (ha : a < 2 ^ 31) : nI a - nI b = nI (a - b) := by
  apply Int32.toInt_inj.mp
  rw [Int32.toInt_sub, nI_toInt (by omega), nI_toInt (by omega), nI_toInt (by omega), Int.bmod_eq_of_le (by omega) (by omega)]
  omega
/-- the class's first thing is the first that keeps the price -/
theorem e_first {k0 : Nat} {M0 : zMM} (hI : z_I k0 M0) {p t d l v kk : Nat} {y : Int32} {L : Nat → Bool} (hp : p < tp M0) (ht : t < tw M0) (hd : d + (kk + 1) = nm_ M0 p) (hl : l < 100) (hy : ∀ u, u < 32 → gb y u = L u) (hL : ∀ u, L u = true → u < tg M0) (hv : v < 1000)
    (hle : ∀ w, zR (zq M0 (so_ M0) p) (M0 113 t).toNatClampNeg (kk + 1) d L l w → v ≤ w) :
    ∃ r M', f_X2_firstThing_83 (nI p) (nI t) (nI d) y (nI l) (nI v) M0 = some (r, M') ∧ ((∃ g, g < tg M0 ∧ r = nI g ∧ op1 (zq M0 (so_ M0) p) (M0 113 t).toNatClampNeg kk d L l g v ∧ ∀ u, u < g → ¬ op1 (zq M0 (so_ M0) p) (M0 113 t).toNatClampNeg kk d L l u v) ∨ (r = -1 ∧ ∀ u, ¬ op1 (zq M0 (so_ M0) p) (M0 113 t).toNatClampNeg kk d L l u v)) := by
  have h10 := tg_le hI.j_cnt
  obtain ⟨p4, q1, q2, q3, q4, q5⟩ := e_play hI hp
  obtain ⟨d1, d2, d3⟩ := q5 d (by omega)
  have hcnt : M0 53 8 = nI (tg M0) := by
    rw [hI.j_cnt.2.2.1]
    obtain ⟨N, -, hN, hNc, -⟩ := hI.j_cnt.2.2.2.2.2.2.2.1.nI
    unfold tg
    rw [hNc]; exact hN
  have loop : ∀ r g, g + r = tg M0 → ∀ fu M, r < fu → z_fr ([], [85, 86]) M0 M → (∀ u, u < g → ¬ op1 (zq M0 (so_ M0) p) (M0 113 t).toNatClampNeg kk d L l u v) → ∃ r M', f_X2_firstThing_83_p3 fu (nI p) (nI t) (nI d) y (nI l) (nI v) (nI g) M = some (r, M') ∧ ((∃ g, g < tg M0 ∧ r = nI g ∧ op1 (zq M0 (so_ M0) p) (M0 113 t).toNatClampNeg kk d L l g v ∧ ∀ u, u < g → ¬ op1 (zq M0 (so_ M0) p) (M0 113 t).toNatClampNeg kk d L l u v) ∨ (r = -1 ∧ ∀ u, ¬ op1 (zq M0 (so_ M0) p) (M0 113 t).toNatClampNeg kk d L l u v)) := by
    intro r
    induction r with
    | zero =>
      intro g hg fu M hfu hf hno
      obtain ⟨fu, rfl⟩ : ∃ m, fu = m + 1 := ⟨fu - 1, by omega⟩
      unfold f_X2_firstThing_83_p3
      rw [hf 53 8 rfl, hcnt, if_pos (nI_le (by omega) (by omega))]
      refine ⟨-1, M, rfl, Or.inr ⟨rfl, fun u hop => ?_⟩⟩
      exact hno u (by have := hL u hop.1; omega) hop
    | succ r ih =>
      intro g hg fu M hfu hf hno
      obtain ⟨fu, rfl⟩ : ∃ m, fu = m + 1 := ⟨fu - 1, by omega⟩
      have hI' : z_I k0 M := hI.sc (z_sub_sc hf (by decide))
      obtain ⟨c1, c2, c3, c4⟩ := cntfrq (z_sub_sk hf (by decide))
      have fnm : nm_ M p = nm_ M0 p := by unfold nm_; rw [hf 120 p rfl]
      have fnd : ∀ j, nd_ M p j = nd_ M0 p j := fun j => by unfold nd_; rw [hf 119 _ rfl]
      have fsm : ∀ a b, sm_ M a b = sm_ M0 a b := fun a b => by unfold sm_; rw [hf 121 _ rfl]
      obtain ⟨g1, g2, g3, g4⟩ := e_thing hI (g := g) (by omega)
      unfold f_X2_firstThing_83_p3
      rw [hf 53 8 rfl, hcnt, if_neg (nI_ge (by omega) (by omega)), e_need hI' (by rw [c4]; exact hp) (by rw [fnm]; omega), z_bi_s, fnd, z_at_nI (by decide) (by omega), hf 60 g rfl, g2, e_shame (hI'.j_like (by omega)) g4 d3, z_bi_s, fsm, e_has (by omega), z_bi_s, hy g (by omega), nI_1]
      have hq : zq M0 (so_ M0) p g d = sm_ M0 (so_ M0 g) (nd_ M0 p d) := rfl
      have skip : ∀ M2, z_fr ([], [85, 86]) M0 M2 → ¬ op1 (zq M0 (so_ M0) p) (M0 113 t).toNatClampNeg kk d L l g v → ∃ r M', f_X2_firstThing_83_p3 fu (nI p) (nI t) (nI d) y (nI l) (nI v) (nI (g + 1)) M2 = some (r, M') ∧ ((∃ g, g < tg M0 ∧ r = nI g ∧ op1 (zq M0 (so_ M0) p) (M0 113 t).toNatClampNeg kk d L l g v ∧ ∀ u, u < g → ¬ op1 (zq M0 (so_ M0) p) (M0 113 t).toNatClampNeg kk d L l u v) ∨ (r = -1 ∧ ∀ u, ¬ op1 (zq M0 (so_ M0) p) (M0 113 t).toNatClampNeg kk d L l u v)) := by
        intro M2 hf2 hng
        refine ih (g + 1) (by omega) fu M2 (by omega) hf2 (fun u hu => ?_)
        by_cases hug : u = g
        · rw [hug]; exact hng
        · exact hno u (by omega)
      by_cases hLg : L g = true
      · rw [if_pos hLg, if_neg (by decide)]
        by_cases hs : sm_ M0 (so_ M0 g) (nd_ M0 p d) < 100
        · rw [if_neg (fun z => by have := sv_m1.mp z; omega), sv_lt hs, nI_1]
          obtain ⟨x, M2, a1, a2⟩ := e_least hI' (p := p) (t := t) (i := d + 1) (l := l) (y := y &&& (((1 : Int32) <<< (nI g &&& 31)) ^^^ (-1 : Int32))) (more := -1) (L := fun u => L u && !decide (u = g)) (so := so_ M0) (by rw [c4]; exact hp) (by rw [c1]; exact ht) (by rw [fnm]; omega) hl (fun u hu => by rw [gb_rem (by omega) (by omega), hy u (by omega)]) (fun u h1 h2 => by
            show (L u && !decide (u = g)) = false
            have : L u = false := by
              cases hLu : L u with
              | false => rfl
              | true => have := hL u hLu; omega
            rw [this, Bool.false_and]) (fun u hu => by unfold so_; rw [hf 116 u rfl]) (Or.inl ⟨rfl, by
            show (L 10 && !decide (10 = g)) = false
            have : L 10 = false := by
              cases hLu : L 10 with
              | false => rfl
              | true => have := hL 10 hLu; omega
            rw [this, Bool.false_and]⟩)
          rw [zqfrq hf, hf 113 t rfl, fnm, show nm_ M0 p - (d + 1) = kk by omega] at a2
          rw [a1, z_bi_s]
          have hf2 : z_fr ([], [85, 86]) M0 M2 := hf.sub (R_X2_leastPrice_83 a1) (by decide)
          rcases a2 with ⟨e1, e2⟩ | ⟨w, e1, e2, e3, e4⟩
          · rw [if_pos e1]
            exact skip M2 hf2 (fun z => by
              obtain ⟨-, -, w, -, z⟩ := z
              exact e2 w z)
          · rw [e1, if_neg (nI_m1 (by omega)), nI_add]
            by_cases heq : sm_ M0 (so_ M0 g) (nd_ M0 p d) + w = v
            · rw [if_pos (by rw [heq])]
              exact ⟨nI g, M2, rfl, Or.inl ⟨g, by omega, rfl, ⟨hLg, hs, w, heq.symm, e3⟩, hno⟩⟩
            · rw [if_neg (fun z => heq ((nI_eq (by omega) (by omega)).mp z))]
              refine skip M2 hf2 (fun z => ?_)
              obtain ⟨-, -, w', z1, z2⟩ := z
              have h1 := e4 w' z2
              have h2 := hle (zq M0 (so_ M0) p g d + w) (Or.inl ⟨g, w, by omega, hLg, hs, rfl, e3⟩)
              rw [hq] at z1 h2
              omega
        · rw [if_pos (sv_m1.mpr (by omega))]
          exact skip M hf (fun z => hs z.2.1)
      · rw [if_neg hLg, if_pos rfl]
        exact skip M hf (fun z => hLg z.1)
  exact loop (tg M0) 0 (by omega) z_fuel M0 (by unfold z_fuel; omega) z_fr.refl (fun u hu => absurd hu (by omega))
theorem e_filler {k0 : Nat} {M0 : zMM} (hI : z_I k0 M0) {p t i : Nat} {g : Nat → Int32} (hp : p < tp M0) (ht : t < tw M0) (hi : i < nm_ M0 p) :
    ∀ r d, d + r = i + 1 → ∀ fu M (x8 : Int32) (y : Int32) (L : Nat → Bool) (l v : Nat), r < fu → z_fr ([], [85, 86]) M0 M → (∀ u, u < 32 → gb y u = L u) → (∀ u, L u = true → u < tg M0) → l < 100 → v < 1000 → FF (zq M0 (so_ M0) p) (M0 113 t).toNatClampNeg (nm_ M0 p - d) d L l v g → (∀ w, zR (zq M0 (so_ M0) p) (M0 113 t).toNatClampNeg (nm_ M0 p - d) d L l w → v ≤ w) → ∃ M', f_X2_filler_83_p43 fu (nI p) (nI t) (nI i) (nI l) (nI v) y x8 (nI d) M = some (if r = 0 then x8 else g i, M') := by
  obtain ⟨p4, q1, q2, q3, q4, q5⟩ := e_play hI hp
  obtain ⟨t5, w1, w2, w3, w4, w5, w6⟩ := e_town hI ht
  intro r
  induction r with
  | zero =>
    intro d hd fu M x8 y L l v hfu hf hy hL hl hv hF hle
    obtain ⟨fu, rfl⟩ : ∃ m, fu = m + 1 := ⟨fu - 1, by omega⟩
    unfold f_X2_filler_83_p43
    rw [if_pos (nI_lt (by omega) (by omega))]
    exact ⟨M, rfl⟩
  | succ r ih =>
    intro d hd fu M x8 y L l v hfu hf hy hL hl hv hF hle
    obtain ⟨fu, rfl⟩ : ∃ m, fu = m + 1 := ⟨fu - 1, by omega⟩
    have hI' : z_I k0 M := hI.sc (z_sub_sc hf (by decide))
    obtain ⟨c1, c2, c3, c4⟩ := cntfrq (z_sub_sk hf (by decide))
    have fnm : nm_ M p = nm_ M0 p := by unfold nm_; rw [hf 120 p rfl]
    have fso : so_ M = so_ M0 := by funext u; unfold so_; rw [hf 116 u rfl]
    obtain ⟨kk, hkk⟩ : ∃ kk, nm_ M0 p - d = kk + 1 := ⟨nm_ M0 p - d - 1, by omega⟩
    rw [hkk] at hF hle
    obtain ⟨x, M2, a1, a2⟩ := e_first hI' (p := p) (t := t) (d := d) (l := l) (v := v) (kk := kk) (y := y) (L := L) (by rw [c4]; exact hp) (by rw [c1]; exact ht) (by rw [fnm]; omega) hl hy (by rw [c3]; exact hL) hv (by rw [fso, zqfrq hf, hf 113 t rfl]; exact hle)
    rw [fso, zqfrq hf, hf 113 t rfl, c3] at a2
    have hf2 : z_fr ([], [85, 86]) M0 M2 := hf.sub (R_X2_firstThing_83 a1) (by decide)
    unfold f_X2_filler_83_p43
    rw [if_neg (nI_nlt (by omega) (by omega)), if_neg (show ¬ (4 : Int32) ≤ nI d from nI_ge (b := 4) (by omega) (by decide)), a1, z_bi_s, nI_1]
    have hres : ∀ x9 : Int32, x9 = g d → (if r = 0 then x9 else g i) = (if r + 1 = 0 then x8 else g i) := by
      intro x9 h9
      rw [if_neg (show ¬ r + 1 = 0 by omega)]
      by_cases hr : r = 0
      · rw [if_pos hr, h9, show d = i by omega]
      · rw [if_neg hr]
    rcases hF with ⟨t0, w, h1, h2, h3, h4, h5, h6, h7⟩ | ⟨h1, h2, w, h3, h4, h5⟩
    · have o1 : op1 (zq M0 (so_ M0) p) (M0 113 t).toNatClampNeg kk d L l t0 v := ⟨h2, h3, w, h4, FF_zRq h7⟩
      rcases a2 with ⟨g0, b1, b2, b3, b4⟩ | ⟨-, b2⟩
      · have htt : t0 = g0 := by
          apply Nat.le_antisymm
          · exact Nat.not_lt.mp (fun z => h5 g0 z b3)
          · exact Nat.not_lt.mp (fun z => b4 t0 z o1)
        rw [← htt] at b1 b2
        obtain ⟨g1, g2, g3, g4⟩ := e_thing hI (g := t0) b1
        obtain ⟨d1, d2, d3⟩ := q5 d (by omega)
        have hI2 : z_I k0 M2 := hI.sc (z_sub_sc hf2 (by decide))
        have e4 : tp M2 = tp M0 := by unfold tp; rw [hf2 109 3 rfl]
        have e5 : nm_ M2 p = nm_ M0 p := by unfold nm_; rw [hf2 120 p rfl]
        have e6 : nd_ M2 p d = nd_ M0 p d := by unfold nd_; rw [hf2 119 _ rfl]
        have e7 : sm_ M2 (so_ M0 t0) (nd_ M0 p d) = sm_ M0 (so_ M0 t0) (nd_ M0 p d) := by unfold sm_; rw [hf2 121 _ rfl]
        have hq : zq M0 (so_ M0) p t0 d = sm_ M0 (so_ M0 t0) (nd_ M0 p d) := rfl
        rw [b2, if_neg (nI_m1 (by omega)), e_need hI2 (by rw [e4]; exact hp) (by rw [e5]; omega), z_bi_s, e6, z_at_nI (by decide) (by omega), hf2 60 t0 rfl, g2, e_shame (hI2.j_like (by omega)) g4 d3, z_bi_s, e7, sv_lt (by rw [← hq]; exact h3), nI_subq (by rw [hq] at h4; omega) (by omega)]
        have hvw : v - sm_ M0 (so_ M0 t0) (nd_ M0 p d) = w := by rw [hq] at h4; omega
        rw [hvw]
        obtain ⟨M', e⟩ := ih (d + 1) (by omega) fu M2 (nI t0) (y &&& (((1 : Int32) <<< (nI t0 &&& 31)) ^^^ (-1 : Int32))) (fun z => L z && !decide (z = t0)) l w (by omega) hf2 (fun u hu => by rw [gb_rem (by omega) hu, hy u hu]) (fun u hu => hL u (by rw [Bool.and_eq_true] at hu; exact hu.1)) hl (by omega) (by rw [show nm_ M0 p - (d + 1) = kk by omega]; exact h7) (fun w' hw' => by
          rw [show nm_ M0 p - (d + 1) = kk by omega] at hw'
          have := hle (zq M0 (so_ M0) p t0 d + w') (Or.inl ⟨t0, w', h1, h2, h3, rfl, hw'⟩)
          omega)
        exact ⟨M', by rw [e, hres _ h6.symm]⟩
      · exact absurd o1 (b2 t0)
    · rcases a2 with ⟨g0, b1, b2, b3, b4⟩ | ⟨b1, b2⟩
      · exact absurd b3 (h1 g0 (by have := tg_le hI.j_cnt; omega))
      · rw [b1, if_pos rfl, z_at_nI (by decide) t5, hf2 57 t rfl, w4, nI_subq (by omega) (by omega), show v - (M0 113 t).toNatClampNeg = w by omega, show nI l + (-1 : Int32) = nI l - 1 from (Int32.sub_eq_add_neg _ _).symm, show nI l - (1 : Int32) = nI (l - 1) from nI_subq (b := 1) (by omega) (by omega)]
        obtain ⟨M', e⟩ := ih (d + 1) (by omega) fu M2 99 y L (l - 1) w (by omega) hf2 hy hL (by omega) (by omega) (by rw [show nm_ M0 p - (d + 1) = kk by omega]; exact h5) (fun w' hw' => by
          rw [show nm_ M0 p - (d + 1) = kk by omega] at hw'
          have := hle ((M0 113 t).toNatClampNeg + w') (Or.inr ⟨h2, w', rfl, hw'⟩)
          omega)
        exact ⟨M', by rw [e, hres _ h4.symm]⟩
theorem B_filled : z_op_filled := by
  intro k M a1 a2 a3 hk hI
  have qT := hI.j_cnt.1
  have bT := hI.j_cnt.2.2.2.2.2.1
  have qP := hI.j_cnt.2.2.2.1
  have bP := hI.j_cnt.2.2.2.2.2.2.2.2.1
  have h5 := tw_le hI.j_cnt
  have hfail : f_X7_filled_51 a1 a2 a3 M = some (.inr 0, M) → f_X8_filled_107 a1 a2 a3 M = some ((0 : Int32), z_up (z_up M 107 1 (0 : Int32)) 107 1 (1 : Int32)) → ∃ (o : Int32 ⊕ Nat) (M1 : zMM) (b : Int32) (M2 : zMM), f_X7_filled_51 a1 a2 a3 M = some (o, M1) ∧ f_X8_filled_107 a1 a2 a3 M1 = some (b, M2) ∧ z_ag o b (M2 107 1) (some 1) none ∧ z_I (k + 1) M2 :=
    fun h1 h3 => ⟨.inr 0, M, 0, _, h1, h3, ⟨1, rfl, rfl, by decide⟩, hI.code ((z_fr.refl.up rfl).up rfl)⟩
  have hM0 : a1 < 0 ∨ (¬ a1 < 0 ∧ ¬ a1 < M 109 3) → ∃ (o : Int32 ⊕ Nat) (M1 : zMM) (b : Int32) (M2 : zMM), f_X7_filled_51 a1 a2 a3 M = some (o, M1) ∧ f_X8_filled_107 a1 a2 a3 M1 = some (b, M2) ∧ z_ag o b (M2 107 1) (some 1) none ∧ z_I (k + 1) M2 := by
    intro h
    refine hfail ?_ ?_
    · unfold f_X7_filled_51; rw [e_pPlay0 qP h]; rfl
    · unfold f_X8_filled_107; rw [e_mPlay0 (M := z_up M 107 1 (0 : Int32)) bP h]; rfl
  rcases z_ix a1 bP with h | h | ⟨p, hp, rfl, h0, h1⟩
  · exact hM0 (Or.inl h)
  · exact hM0 (Or.inr h)
  have hM1 : a2 < 0 ∨ (¬ a2 < 0 ∧ ¬ a2 < M 109 0) → ∃ (o : Int32 ⊕ Nat) (M1 : zMM) (b : Int32) (M2 : zMM), f_X7_filled_51 (nI p) a2 a3 M = some (o, M1) ∧ f_X8_filled_107 (nI p) a2 a3 M1 = some (b, M2) ∧ z_ag o b (M2 107 1) (some 1) none ∧ z_I (k + 1) M2 := by
    intro h
    refine hfail ?_ ?_
    · unfold f_X7_filled_51; rw [e_pPlay1 qP h0 h1, z_bt_l, e_pTown0 qT h]; rfl
    · unfold f_X8_filled_107; rw [e_mPlay1 (M := z_up M 107 1 (0 : Int32)) bP h0 h1, z_bi_s, if_neg (by decide), e_mTown0 (M := z_up M 107 1 (0 : Int32)) bT h]; rfl
  rcases z_ix a2 bT with h | h | ⟨t, ht, rfl, h2, h3⟩
  · exact hM1 (Or.inl h)
  · exact hM1 (Or.inr h)
  have hp' : p < tp M := hp
  have ht' : t < tw M := ht
  obtain ⟨p4, q1, q2, q3, q4, q5⟩ := e_play hI hp'
  obtain ⟨t5, w1, w2, w3, w4, w5, w6⟩ := e_town hI ht'
  have ibp : z_ib (nI p) 8 = true := z_ib_n (by decide) (by omega)
  have hpred : (nI (nm_ M p) - (1 : Int32) < a3) ↔ ¬ a3 < nI (nm_ M p) := z_pred (hi := 4) ⟨by rw [nI_toInt (by omega)]; omega, by rw [nI_toInt (by omega)]; omega⟩ (by decide)
  have eM : ∀ M1 r, z_fr w_sk M M1 → z_I k M1 → (if a3 < 0 ∨ nI (nm_ M p) - 1 < a3 then some ((0 : Int32), z_up (z_up M1 107 1 (0 : Int32)) 107 1 (1 : Int32)) else z_bi (f_X8_trunksAt_107 (nI t) (z_up M1 107 1 (0 : Int32))) fun v24 M25 => z_bi (f_X8_thingsOf_107 v24 M25) fun v27 M28 => z_bi (f_X8_priceOf_107 (nI p) (nI t) v27 M28) fun v30 M31 => if v30 = (-1 : Int32) then some ((-1 : Int32), M31) else if z_ib a3 4 = true then some ((M31 129 a3.toNatClampNeg), M31) else none) = r → f_X8_filled_107 (nI p) (nI t) a3 M1 = r := by
    intro M1 r hf hI1 hr
    have bP1 : z_bd (M1 109 3) 0 4 := hI1.j_cnt.2.2.2.2.2.2.2.2.1
    have bT1 : z_bd (M1 109 0) 0 5 := hI1.j_cnt.2.2.2.2.2.1
    have g1 : nI p < M1 109 3 := by rw [hf 109 3 rfl]; exact h1
    have g3 : nI t < M1 109 0 := by rw [hf 109 0 rfl]; exact h3
    unfold f_X8_filled_107
    rw [e_mPlay1 (M := z_up M1 107 1 (0 : Int32)) bP1 h0 g1, z_bi_s, if_neg (by decide), e_mTown1 (M := z_up M1 107 1 (0 : Int32)) bT1 h2 g3, z_bi_s, if_neg (by decide), if_pos ibp, nI_clamp (by omega), show z_up M1 107 1 (0 : Int32) 120 p = nI (nm_ M p) from (hf 120 p rfl).trans q2, e_isIn, ← hr]
    by_cases g : a3 < 0
    · rw [if_pos g, if_pos (Or.inl g)]; rfl
    · by_cases g' : nI (nm_ M p) - 1 < a3
      · rw [if_neg g, if_pos g', if_pos (Or.inr g')]; rfl
      · rw [if_neg g, if_neg g', if_neg (fun z => z.elim g g')]; rfl
  by_cases g' : a3 < 0 ∨ ¬ a3 < nI (nm_ M p)
  · refine hfail ?_ (eM M _ z_fr.refl hI (if_pos (g'.imp id hpred.mpr)))
    unfold f_X7_filled_51
    rw [e_pPlay1 qP h0 h1, z_bt_l, e_pTown1 qT h2 h3, z_bt_l, z_at_nI (by decide) p4, q1]
    by_cases z : a3 < 0
    · rw [if_pos z]
    · rw [if_neg z, if_neg (g'.resolve_left z)]
  · have z1 : ¬ a3 < 0 := fun z => g' (Or.inl z)
    have z2 : a3 < nI (nm_ M p) := by
      apply Classical.byContradiction
      intro z; exact g' (Or.inr z)
    obtain ⟨i, hi, rfl⟩ := nI_of z1
    have hin : i < nm_ M p := (nI_ltI hi (by omega)).mp z2
    obtain ⟨s, hs, s1, -, -⟩ := e_trunks hI z_fr.refl (a := t) (by omega)
    obtain ⟨y, y1, -, y3⟩ := e_things hI hI z_fr.refl s
    have h10 := tg_le hI.j_cnt
    have hLt : ∀ u, tL M s u = true → u < tg M := fun u h => tL_lt h
    obtain ⟨x, M1, l1, l2⟩ := e_least hI (p := p) (t := t) (i := 0) (l := (M 112 t).toNatClampNeg) (y := y) (more := -1) (L := tL M s) (so := so_ M) hp' ht' (by omega) (by omega) (fun u hu => y3 u (by omega)) (fun u h1 h2 => by
      cases hLu : tL M s u with
      | false => rfl
      | true => have := hLt u hLu; omega) (fun u _ => rfl) (Or.inl ⟨rfl, by
      cases hLu : tL M s 10 with
      | false => rfl
      | true => have := hLt 10 hLu; omega⟩)
    have hx : z_ls (zP M (so_ M) p t (tL M s)) x := l2
    have hf1 : z_fr ([], [85, 86]) M M1 := R_X2_leastPrice_83 l1
    -- the class
    obtain ⟨o, M2, c1, c2, c3⟩ : ∃ o M2, f_X7_filled_51 (nI p) (nI t) (nI i) M = some (.inl o, M2) ∧ (x = -1 → o = -1) ∧ (∀ v g, x = nI v → v < 10000 → FF (zq M (so_ M) p) (M 113 t).toNatClampNeg (nm_ M p) 0 (tL M s) (M 112 t).toNatClampNeg v g → o = g i) := by
      have hd : ∀ r, (if x = (-1 : Int32) then some (Sum.inl (-1 : Int32), M1) else z_bi (f_X2_filler_83_p43 z_fuel (nI p) (nI t) (nI i) (nI (M 112 t).toNatClampNeg) x y (-1 : Int32) (0 : Int32) M1) fun v18 M19 => some (.inl v18, M19)) = r → f_X7_filled_51 (nI p) (nI t) (nI i) M = r := by
        intro r hr
        unfold f_X7_filled_51
        rw [e_pPlay1 qP h0 h1, z_bt_l, e_pTown1 qT h2 h3, z_bt_l, z_at_nI (by decide) p4, q1, if_neg z1, if_pos z2, s1, z_bi_s, y1, z_bi_s]
        unfold f_X2_filler_83
        rw [z_at_nI (by decide) t5, w1, show f_X2_leastPrice_83 (nI p) (nI t) (0 : Int32) y (-1 : Int32) (nI (M 112 t).toNatClampNeg) M = _ from l1, z_bi_s, ← hr]
        by_cases hz : x = -1
        · rw [if_pos hz, if_pos hz]; rfl
        · rw [if_neg hz, if_neg hz]
      by_cases hz : x = -1
      · exact ⟨-1, M1, hd _ (if_pos hz), fun _ => rfl, fun v g e hv => absurd (e.symm.trans hz) (nI_m1 (by omega))⟩
      · rcases hx with ⟨e, -⟩ | ⟨v, e1, e2, e3, e4⟩
        · exact absurd e hz
        · obtain ⟨x0, Mz, b1, b2, b3⟩ := e_priceOf hI (p := p) (t := t) (so := so_ M) (y := y) (L := tL M s) hp' ht' (fun u hu => y3 u (by omega)) (fun u hu hL => by
            obtain ⟨-, -, g3, g4⟩ := e_thing hI (tL_lt hL)
            exact ⟨g3, g4⟩)
          have hx0 : x0 = nI v := b2.inj (Or.inr ⟨v, rfl, e2, e3, e4⟩)
          have hFF := b3 v hx0 e2
          have hbd := zR_bd (show (M 113 t).toNatClampNeg < 100 by omega) e3
          have hnm : (M 120 p).toNatClampNeg = nm_ M p := rfl
          obtain ⟨M', e5⟩ := e_filler hI (p := p) (t := t) (i := i) (g := Mz 129) hp' ht' hin (i + 1) 0 (by omega) z_fuel M1 (-1) y (tL M s) (M 112 t).toNatClampNeg v (by unfold z_fuel; omega) hf1 y3 hLt (by omega) (by omega) hFF e4
          refine ⟨Mz 129 i, M', hd _ ?_, fun z => absurd z hz, fun v' g e' hv' hg => ?_⟩
          · rw [if_neg hz, e1, show f_X2_filler_83_p43 z_fuel (nI p) (nI t) (nI i) (nI (M 112 t).toNatClampNeg) (nI v) y (-1 : Int32) (0 : Int32) M1 = _ from e5, if_neg (by omega)]
            rfl
          · have : v' = v := (nI_eq (by omega) (by omega)).mp (e'.symm.trans e1)
            rw [this] at hg
            exact FF_uniq hFF hg i (by omega) (by omega)
    have hf2 : z_fr ([], [85, 86]) M M2 := R_X7_filled_51 c1
    have hI2 : z_I k M2 := hI.sc (z_sub_sc hf2 (by decide))
    have hI3 : z_I k (z_up M2 107 1 (0 : Int32)) := hI2.sc w1_sc
    have hf3 : z_fr w_sk M (z_up M2 107 1 (0 : Int32)) := (z_sub_sk hf2 (by decide)).up rfl
    obtain ⟨d1, d2, d3, d4⟩ := cntfrq hf3
    obtain ⟨s', hs', s1', s2', -⟩ := e_trunks hI hf3 (a := t) (by omega)
    have hss : nI s = nI s' := by
      rw [s1] at s1'
      injection s1' with z
      injection z with z
    rw [← hss] at s2'
    obtain ⟨y', y1', y2', y3'⟩ := e_things hI hI3 hf3 s
    have hyy : y = y' := gb_ext (fun u hu => by rw [y3 u hu, y3' u hu])
    rw [← hyy] at y2'
    obtain ⟨x2, M4, m1, m2, m3⟩ := e_priceOf hI3 (p := p) (t := t) (so := so_ M) (y := y) (L := tL M s) (by rw [d4]; exact hp') (by rw [d1]; exact ht') (fun u hu => y3 u (by omega)) (fun u hu hL => by
      obtain ⟨-, -, g3, g4⟩ := e_thing hI (tL_lt hL)
      exact ⟨(hf3 116 u rfl).trans g3, g4⟩)
    have e3 : zq (z_up M2 107 1 (0 : Int32)) (so_ M) p = zq M (so_ M) p := by
      rw [show zq (z_up M2 107 1 (0 : Int32)) (so_ M) p = zq M2 (so_ M) p from rfl, zqfrq hf2]
    have e4 : nm_ (z_up M2 107 1 (0 : Int32)) p = nm_ M p := by unfold nm_; rw [hf3 120 p rfl]
    have hxx : x2 = x := by
      refine z_ls.inj (p := zP M (so_ M) p t (tL M s)) ?_ hx
      have : zP (z_up M2 107 1 (0 : Int32)) (so_ M) p t (tL M s) = zP M (so_ M) p t (tL M s) := by
        unfold zP
        rw [e3, hf3 113 t rfl, hf3 120 p rfl, hf3 112 t rfl]
      rw [← this]; exact m2
    rw [e3, e4, hf3 113 t rfl, hf3 112 t rfl] at m3
    rw [hxx] at m1 m3
    have hf4 : z_I (k + 1) M4 := (hI3.sc (z_sub_sc (R_X8_priceOf_107 m1) (by decide))).up
    have h41 : M4 107 1 = 0 := (R_X8_priceOf_107 m1 107 1 rfl).trans z_up_s
    by_cases hz : x = -1
    · refine ⟨.inl o, M2, o, M4, c1, eM M2 _ (z_sub_sk hf2 (by decide)) hI2 ?_, ⟨h41, rfl⟩, hf4⟩
      rw [if_neg (fun z => g' (z.imp id hpred.mp)), s2', z_bi_s, y2', z_bi_s, m1, z_bi_s, if_pos hz, c2 hz]
    · obtain ⟨v, hv1, hv2⟩ : ∃ v, x = nI v ∧ v < 10000 := by
        rcases hx with ⟨e, -⟩ | ⟨v, e1, e2, -⟩
        · exact absurd e hz
        · exact ⟨v, e1, e2⟩
      refine ⟨.inl o, M2, o, M4, c1, eM M2 _ (z_sub_sk hf2 (by decide)) hI2 ?_, ⟨h41, rfl⟩, hf4⟩
      rw [if_neg (fun z => g' (z.imp id hpred.mp)), s2', z_bi_s, y2', z_bi_s, m1, z_bi_s, if_neg hz, if_pos (z_ib_n (by decide) (by omega)), nI_clamp (by omega), c3 v (M4 129) hv1 hv2 (m3 v hv1 hv2)]
