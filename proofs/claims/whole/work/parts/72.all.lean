/-! ===== told: the play's writes, any line's writes, all lines ===== -/
theorem U_70 {K : Int32 → zMM → Option zMM} {p m : Nat} {M M' : zMM} (hK : ∀ m M M', M 120 (4 + p) = nI m → m ≤ 100 → K (nI (4 + p)) M = some M' → LOq M M') (hp : p ≤ 4) (hm : m ≤ 100) (e : M 120 (4 + p) = nI m) (h : f_X8_readPlay_107_p70 K (nI (4 + p)) M = some M') : LOq M M' := by
  unfold f_X8_readPlay_107_p70 at h
  obtain ⟨v, A, c, h⟩ := z_bi_c h
  have q : LOq M A := LO_fr (by decide) (R_X8_readNumber_107 c)
  have eA : A 120 (4 + p) = nI m := (out_fr (lo := 109) (hi := 121) (by decide) (R_X8_readNumber_107 c) 120 (4 + p) (by decide) (by decide)).trans e
  have ei : (4 : Int32) * nI (4 + p) + nI m = nI (16 + 4 * p + m) := by
    rw [show (4 : Int32) * nI (4 + p) = nI (4 * (4 + p)) from nI_mul 4 _, nI_add, show 4 * (4 + p) + m = 16 + 4 * p + m by omega]
  split at h
  · obtain ⟨-, h⟩ := z_ifn h
    rw [nI_clamp (show 4 + p < 2 ^ 31 by omega), eA, ei, nI_clamp (show 16 + 4 * p + m < 2 ^ 31 by omega), nI_1] at h
    obtain ⟨gi, h⟩ := z_ifn h
    obtain ⟨-, h⟩ := z_ifn h
    obtain ⟨-, h⟩ := z_ifn h
    have hlt : 16 + 4 * p + m < 32 := by
      simp only [z_ib, Bool.and_eq_true, decide_eq_true_eq] at gi
      rw [nI_clamp (by omega)] at gi
      omega
    have q2 : LOq M (z_up (z_up A 119 (16 + 4 * p + m) v) 120 (4 + p) (nI (m + 1))) := LO_up (LO_up q (by unfold prq; omega)) (by unfold prq; omega)
    split at h
    · exact LO_tr q2 (hK (m + 1) _ _ z_up_s (by omega) h)
    · rw [← Option.some.inj h]
      exact LO_up q2 (by unfold prq; omega)
  · rw [← Option.some.inj h]; exact q
theorem U_40 {p : Nat} (hp : p ≤ 4) : ∀ fu m M M', M 120 (4 + p) = nI m → m ≤ 100 → f_X8_readPlay_107_p40 fu (nI (4 + p)) M = some M' → LOq M M' := by
  intro fu
  induction fu with
  | zero => intro m M M' _ _ h; exact absurd h (by unfold f_X8_readPlay_107_p40; exact fun z => nomatch z)
  | succ fu ih =>
    intro m M M' e hm h
    have h : (if (M 107 24) = 0 then if (M 107 20) = (2 : Int32) then if z_ib (nI (4 + p)) 8 = true then if (M 120 (nI (4 + p)).toNatClampNeg) = (4 : Int32) then z_bv (f_X8_wrong_107 (2 : Int32) M) fun M16 => f_X8_readPlay_107_p70 (f_X8_readPlay_107_p40 fu) (nI (4 + p)) M16 else f_X8_readPlay_107_p70 (f_X8_readPlay_107_p40 fu) (nI (4 + p)) M else none else f_X8_readPlay_107_p70 (f_X8_readPlay_107_p40 fu) (nI (4 + p)) M else f_X8_readPlay_107_p70 (f_X8_readPlay_107_p40 fu) (nI (4 + p)) M) = some M' := h
    split at h
    · split at h
      · obtain ⟨-, h⟩ := z_ifn h
        split at h
        · obtain ⟨A, c, h⟩ := z_bv_c h
          exact LO_tr (LO_fr (by decide) (R_X8_wrong_107 c)) (U_70 ih hp hm ((out_fr (lo := 109) (hi := 121) (by decide) (R_X8_wrong_107 c) 120 (4 + p) (by decide) (by decide)).trans e) h)
        · exact U_70 ih hp hm e h
      · exact U_70 ih hp hm e h
    · exact U_70 ih hp hm e h
theorem U_play {p : Nat} {M M' : zMM} (hp : p ≤ 4) (e : M 109 8 = nI p) (h : f_X8_readPlay_107 M = some M') : LOq M M' := by
  unfold f_X8_readPlay_107 at h
  obtain ⟨v, A, c, h⟩ := z_bi_c h
  have q : LOq M A := LO_fr (by decide) (R_X8_begin_107 c)
  split at h
  · rw [← Option.some.inj h]; exact q
  · rw [show A 109 8 = nI p from (out_fr (lo := 109) (hi := 121) (by decide) (R_X8_begin_107 c) 109 8 (by decide) (by decide)).trans e, show (4 : Int32) + nI p = nI (4 + p) from nI_add 4 p, nI_clamp (by omega)] at h
    obtain ⟨v1, B, c1, h⟩ := z_bi_c h
    obtain ⟨-, h⟩ := z_ifn h
    obtain ⟨-, h⟩ := z_ifn h
    have q2 : LOq M (z_up (z_up B 118 (4 + p) v1) 120 (4 + p) (nI 0)) := LO_up (LO_up (LO_tr q (LO_fr (by decide) (R_X8_readNumber_107 c1))) (by unfold prq; omega)) (by unfold prq; omega)
    exact LO_tr q2 (U_40 hp _ 0 _ _ z_up_s (by decide) h)
theorem U_160 {v : Int32} {M M' : zMM} (h : f_X8_readLine_107_p160 M = some (v, M')) : LOq M M' := by
  have p171 : ∀ A, f_X8_readLine_107_p171 A = some (v, M') → LOq A M' := by
    intro A hA
    unfold f_X8_readLine_107_p171 at hA
    obtain ⟨v1, B, c1, hA⟩ := z_bi_c hA
    exact LO_tr (LO_up (LO_fr (by decide) (R_X8_readNumber_107 c1)) (by unfold prq; omega)) (U_187 hA)
  unfold f_X8_readLine_107_p160 at h
  split at h
  · obtain ⟨A, c, h⟩ := z_bv_c h
    exact LO_tr (LO_fr (by decide) (R_X8_stepOn_107 c)) (p171 _ h)
  · exact p171 _ h
theorem U_line {w g p : Nat} {x v : Int32} {M M' : zMM} (hw : w ≤ 10) (e5 : M 109 5 = nI w) (hg : g ≤ 10) (e7 : M 109 7 = nI g) (hp : p ≤ 4) (e8 : M 109 8 = nI p) (h : f_X8_readLine_107 x M = some (v, M')) : LOq M M' := by
  unfold f_X8_readLine_107 at h
  obtain ⟨v1, A, c, h⟩ := z_bi_c h
  have f1 := R_X8_is_107 c
  have q1 : LOq M A := LO_fr (by decide) f1
  split at h
  · obtain ⟨v2, B, c, h⟩ := z_bi_c h
    have f2 := R_X8_passes_107_21 c
    have q2 : LOq M B := LO_tr q1 (LO_fr (by decide) f2)
    split at h
    · obtain ⟨v3, E, c, h⟩ := z_bi_c h
      have f3 := R_X8_is_107 c
      have q3 : LOq M E := LO_tr q2 (LO_fr (by decide) f3)
      split at h
      · obtain ⟨v4, F, c, h⟩ := z_bi_c h
        have f4 := R_X8_is_107 c
        have q4 : LOq M F := LO_tr q3 (LO_fr (by decide) f4)
        have r4 : ∀ b, F 109 b = M 109 b := fun b => (f4 109 b rfl).trans ((f3 109 b rfl).trans ((out_fr (lo := 109) (hi := 121) (by decide) f2 109 b (by decide) (by decide)).trans (f1 109 b rfl)))
        split at h
        · obtain ⟨v5, G, c, h⟩ := z_bi_c h
          have f5 := R_X8_is_107 c
          have q5 : LOq M G := LO_tr q4 (LO_fr (by decide) f5)
          split at h
          · obtain ⟨v6, H, c, h⟩ := z_bi_c h
            have q6 : LOq M H := LO_tr q5 (LO_fr (by decide) (R_X8_passes_107_25 c))
            split at h
            · obtain ⟨v7, J, c, h⟩ := z_bi_c h
              have q7 : LOq M J := LO_tr q6 (LO_fr (by decide) (R_X8_is_107 c))
              split at h
              · obtain ⟨L, c, h⟩ := z_bv_c h
                exact LO_tr q7 (LO_tr (LO_fr (by decide) (R_X8_wrong_107 c)) (U_160 h))
              · split at h
                · exact LO_tr q7 (U_160 h)
                · obtain ⟨L, c, h⟩ := z_bv_c h
                  exact LO_tr q7 (LO_tr (LO_fr (by decide) (R_X8_wrong_107 c)) (U_160 h))
            · obtain ⟨L, c, h⟩ := z_bv_c h
              exact LO_tr q6 (LO_tr (U_like c) (U_187 h))
          · obtain ⟨L, c, h⟩ := z_bv_c h
            exact LO_tr q5 (LO_tr (U_play hp ((f5 109 8 rfl).trans ((r4 8).trans e8)) c) (U_187 h))
        · obtain ⟨L, c, h⟩ := z_bv_c h
          exact LO_tr q4 (LO_tr (U_thing hg ((r4 7).trans e7) c) (U_187 h))
      · obtain ⟨v4, F, c, h⟩ := z_bi_c h
        have q4 : LOq M F := LO_tr q3 (LO_fr (by decide) (R_X8_begin_107 c))
        split at h
        · exact LO_tr q4 (U_187 h)
        · obtain ⟨v5, G, c, h⟩ := z_bi_c h
          obtain ⟨-, h⟩ := z_ifn h
          exact LO_tr (LO_up (LO_up (LO_tr q4 (LO_fr (by decide) (R_X8_readOne_107 c))) (by unfold prq; omega)) (by unfold prq; omega)) (U_187 h)
    · obtain ⟨L, c, h⟩ := z_bv_c h
      exact LO_tr q2 (LO_tr (U_train c) (U_187 h))
  · obtain ⟨L, c, h⟩ := z_bv_c h
    exact LO_tr q1 (LO_tr (U_town hw ((f1 109 5 rfl).trans e5) c) (U_187 h))
theorem L_main {u : Nat → Nat} {n : Nat} : ∀ l fu1 fu2 line e b t r w k g p q C D Mc Mm x, n - e ≤ l → l + 1 < fu1 → l + 1 < fu2 → line ≤ e → GD u n e b t r C D Mc Mm → DR w k g p q C D → z_zb x = true → Mc 79 8 = x →
    (∃ e b t r w k g p q C D Mc' Mm', f_X3_read_79_p46 fu1 (nI line) Mc = some ((0 : Int32), Mc') ∧ f_X8_told_107_p136 fu2 x Mm = f_X8_told_107_p159 Mm' ∧ GD u n e b t r C D Mc' Mm' ∧ DR w k g p q C D ∧ z_fr w_X8_readLine_107 Mm Mm' ∧ LOq Mm Mm') ∨
    (∃ f pp Mc' Mm', f_X3_read_79_p46 fu1 (nI line) Mc = some (f, Mc') ∧ f_X8_told_107_p136 fu2 x Mm = f_X8_told_107_p159 Mm' ∧ CJ u n f pp Mc' ∧ MJ f pp Mm' ∧ z_fr w_X8_readLine_107 Mm Mm' ∧ LOq Mm Mm') := by
  intro l
  induction l with
  | zero =>
    intro fu1 fu2 line e b t r w k g p q C D Mc Mm x hl h1 h2 hline h hd hx hfl
    obtain ⟨fu1, rfl⟩ : ∃ y, fu1 = y + 1 := ⟨fu1 - 1, by omega⟩
    obtain ⟨fu2, rfl⟩ : ∃ y, fu2 = y + 1 := ⟨fu2 - 1, by omega⟩
    obtain ⟨z0, z22, z4, z20, z3, y1, y2, y3, y4, y5, y6, y7, y8⟩ := GD_0 h
    have ht : t = 0 := by
      apply Classical.byContradiction
      intro z
      have := y6 z
      omega
    left
    refine ⟨e, b, t, r, w, k, g, p, q, C, D, Mc, Mm, ?_, ?_, h, hd, z_fr.refl, LO_refl⟩
    · unfold f_X3_read_79_p46
      rw [y7, if_neg (nI_nlt (by omega) (by omega)), z3, if_pos (by rw [ht]; rfl), y8]
    · unfold f_X8_told_107_p136
      rw [if_pos z0, z20, if_pos (by rw [ht]; rfl)]
  | succ l ih =>
    intro fu1 fu2 line e b t r w k g p q C D Mc Mm x hl h1 h2 hline h hd hx hfl
    obtain ⟨fu1, rfl⟩ : ∃ y, fu1 = y + 1 := ⟨fu1 - 1, by omega⟩
    obtain ⟨fu2, rfl⟩ : ∃ y, fu2 = y + 1 := ⟨fu2 - 1, by omega⟩
    obtain ⟨z0, z22, z4, z20, z3, y1, y2, y3, y4, y5, y6, y7, y8⟩ := GD_0 h
    have e46 : f_X3_read_79_p46 (fu1 + 1) (nI line) Mc = if nI t = 0 then some ((0 : Int32), Mc) else z_bv (f_X3_readLine_79 Mc) fun M12 => f_X3_read_79_p46 fu1 (nI (line + 1)) M12 := by
      show (if (Mc 79 2) < nI line then _ else _) = _
      rw [y7, if_neg (nI_nlt (by omega) (by omega)), z3, y8, if_pos rfl, nI_1]
    have e136 : f_X8_told_107_p136 (fu2 + 1) x Mm = if nI t = 0 then f_X8_told_107_p159 Mm else z_bi (f_X8_readLine_107 x Mm) fun v19 M20 => f_X8_told_107_p136 fu2 v19 M20 := by
      show (if (Mm 107 24) = 0 then _ else _) = _
      rw [if_pos z0, z20]
    rw [e46, e136]
    by_cases ht : t = 0
    · have et : nI t = (0 : Int32) := by rw [ht]; rfl
      rw [if_pos et, if_pos et]
      exact Or.inl ⟨e, b, t, r, w, k, g, p, q, C, D, Mc, Mm, rfl, rfl, h, hd, z_fr.refl, LO_refl⟩
    · have et : ¬ nI t = (0 : Int32) := fun z => ht ((nI_eq (b := 0) (by omega) (by decide)).mp z)
      rw [if_neg et, if_neg et]
      have hbr := y6 ht
      obtain ⟨x', hx', hr⟩ := T_line h hd hx hfl
      rcases hr with ⟨e', b', t', r', C', D', w', k', g', p', q', Nc, Nm, r1, r2, r3, r4, r5, r6⟩ | ⟨f, pp, v, Nc, Nm, r1, r2, r3, r4⟩
      · rw [r1, z_bv_s, r2, z_bi_s]
        have fq := R_X8_readLine_107 r2
        have gq := U_line (show w ≤ 10 by have := hd.1.1; omega) ((h.2.2.2.2 109 5 (by decide) (by decide)).trans hd.1.2.2) hd.2.2.1.1 ((h.2.2.2.2 109 7 (by decide) (by decide)).trans hd.2.2.1.2.2) hd.2.2.2.1.1 ((h.2.2.2.2 109 8 (by decide) (by decide)).trans hd.2.2.2.1.2.2) r2
        rcases ih fu1 fu2 (line + 1) e' b' t' r' w' k' g' p' q' C' D' Nc Nm x' (by omega) (by omega) (by omega) (by omega) r3 r4 hx' r6 with ⟨e2, b2, t2, r2, w2, k2, g2, p2, q2, C2, D2, Oc, Om, v1, v2, v3, v4, v5, v6⟩ | ⟨f, pp, Oc, Om, v1, v2, v3, v4, v5, v6⟩
        · exact Or.inl ⟨e2, b2, t2, r2, w2, k2, g2, p2, q2, C2, D2, Oc, Om, v1, v2, v3, v4, fq.trans v5, LO_tr gq v6⟩
        · exact Or.inr ⟨f, pp, Oc, Om, v1, v2, v3, v4, fq.trans v5, LO_tr gq v6⟩
      · right
        rw [r1, z_bv_s, r2, z_bi_s]
        refine ⟨f, pp, Nc, Nm, ?_, ?_, r3, r4, R_X8_readLine_107 r2, U_line (show w ≤ 10 by have := hd.1.1; omega) ((h.2.2.2.2 109 5 (by decide) (by decide)).trans hd.1.2.2) hd.2.2.1.1 ((h.2.2.2.2 109 7 (by decide) (by decide)).trans hd.2.2.1.2.2) hd.2.2.2.1.1 ((h.2.2.2.2 109 8 (by decide) (by decide)).trans hd.2.2.2.1.2.2) r2⟩
        · obtain ⟨fu1, rfl⟩ : ∃ y, fu1 = y + 1 := ⟨fu1 - 1, by omega⟩
          have r9 : Nc 79 9 = f := r3.2.2.2.2.2.1
          have hf : ¬ f = 0 := r3.2.2.2.2.1
          unfold f_X3_read_79_p46
          rw [r9, if_neg hf]
          split
          · rfl
          · split <;> rfl
        · obtain ⟨fu2, rfl⟩ : ∃ y, fu2 = y + 1 := ⟨fu2 - 1, by omega⟩
          unfold f_X8_told_107_p136
          rw [if_neg (MJ_bad r3 r4)]
