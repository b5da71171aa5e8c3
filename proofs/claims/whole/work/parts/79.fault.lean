/-! ===== told: a fault ===== -/
def w_fx : zWs := ([(51, 1), (51, 2), (66, 0), (66, 6), (66, 8), (66, 11), (66, 16), (79, 2), (79, 3), (79, 4), (79, 5), (79, 6), (79, 7), (79, 8), (79, 9), (79, 10), (93, 0), (107, 1), (107, 17), (107, 18), (107, 19), (107, 20), (107, 21), (107, 22), (107, 23), (107, 24), (107, 25), (107, 26), (122, 0)], [67, 68, 69, 70, 71, 72, 73, 74, 75, 76, 77, 78])
def w_fu : zWs := (w_fx.1, [109, 110, 111, 112, 113, 114, 115, 116, 117, 118, 119, 120, 121] ++ w_fx.2)
def mixq (M M2 : zMM) : zMM := fun a b => if 109 ≤ a ∧ a ≤ 121 then M a b else M2 a b
theorem mix_fr {M M2 : zMM} (h : z_fr w_fu M M2) : z_fr w_fx M (mixq M M2) := by
  intro a b hok
  unfold mixq
  by_cases hr : 109 ≤ a ∧ a ≤ 121
  · rw [if_pos hr]
  · rw [if_neg hr]
    apply h
    unfold z_ok at hok ⊢
    rw [Bool.and_eq_true] at hok ⊢
    refine ⟨?_, hok.2⟩
    have h2 := hok.1
    rw [Bool.not_eq_true', ← Bool.not_eq_true, List.contains_iff_mem] at h2 ⊢
    intro hm
    have hm : a ∈ [109, 110, 111, 112, 113, 114, 115, 116, 117, 118, 119, 120, 121] ++ w_fx.2 := hm
    rw [List.mem_append] at hm
    rcases hm with hm | hm
    · apply hr
      simp only [List.mem_cons, List.mem_nil_iff, or_false] at hm
      omega
    · exact h2 hm
theorem mix_dr {M M2 : zMM} : z_fr w_dr (mixq M M2) M2 := by
  intro a b hok
  unfold mixq
  by_cases hr : 109 ≤ a ∧ a ≤ 121
  · exfalso
    unfold z_ok at hok
    rw [Bool.and_eq_true, Bool.not_eq_true', ← Bool.not_eq_true, List.contains_iff_mem] at hok
    apply hok.1
    show a ∈ [109, 110, 111, 112, 113, 114, 115, 116, 117, 118, 119, 120, 121]
    simp only [List.mem_cons, List.mem_nil_iff, or_false]
    omega
  · rw [if_neg hr]
theorem I_fault {k : Nat} {M M2 : zMM} (hI : z_I k M) (hf : z_fr w_fu M M2) (hl : LOq M M2) (h1 : M2 51 1 = 0) (h17 : M2 107 17 = 0) (h2 : M2 51 2 = M2 107 26) (h93 : M2 93 0 = M 93 0 + 1) (h122 : M2 122 0 = M 122 0 + 1) : z_I (k + 1) M2 := by
  have hx := mix_fr hf
  have jt : j_tape (mixq M M2) := by
    refine ⟨h1.trans h17.symm, ?_, ?_⟩
    · show z_bd (M2 107 17) 0 700
      rw [h17]; exact ⟨by decide, by decide⟩
    · intro j hj
      have hj : j < (M2 107 17).toNatClampNeg := hj
      rw [h17] at hj
      exact absurd hj (Nat.not_lt_zero _)
  have js : j_stat (mixq M M2) := by
    intro i hi
    show M2 93 i = M2 122 i
    have q := hI.j_stat i hi
    by_cases h0 : i = 0
    · rw [h0] at q ⊢
      rw [h93, h122, q]
    · rw [hf 93 i (by unfold z_ok; rw [Bool.and_eq_true]; refine ⟨rfl, ?_⟩; rcases (show i = 1 ∨ i = 2 by omega) with rfl | rfl <;> rfl), hf 122 i (by unfold z_ok; rw [Bool.and_eq_true]; refine ⟨rfl, ?_⟩; rcases (show i = 1 ∨ i = 2 by omega) with rfl | rfl <;> rfl)]
      exact q
  have hm : z_I k (mixq M M2) := ⟨jt, h2, hI.j_cnt.fr (by decide) hx, hI.j_town.fr (by decide) hx, hI.j_train.fr (by decide) hx, hI.j_thing.fr (by decide) hx, hI.j_play.fr (by decide) hx, hI.j_like.fr (by decide) hx, hI.j_day.fr (by decide) hx, hI.j_seed.fr (by decide) hx, hI.j_place.fr (by decide) hx, hI.j_night.fr (by decide) hx, js, hI.j_plan.fr (by decide) hx, hI.j_st1.fr (by decide) hx, hI.j_st2.fr (by decide) hx, hI.j_img.fr (by decide) hx, hI.j_past.fr (by decide) hx, hI.j_ways.fr (by decide) hx, hI.j_known.fr (by decide) hx⟩
  refine (I_lo mix_dr ?_ hm).up
  intro a b hab
  have hr : 109 ≤ a ∧ a ≤ 121 := by
    unfold prq at hab
    omega
  unfold mixq
  rw [if_pos hr]
  exact hl a b hab
theorem told_f {k n : Nat} {M Mc : zMM} {f : Int32} (hI : z_I k M) (hn : nI n ≤ M 107 17) (hn7 : n < 2 ^ 31) (hf : f ≠ 0) (hr : f_X3_read_79 (nI n) M = some (f, Mc)) : ∃ (o : Int32 ⊕ Nat) (M1 : zMM) (b : Int32) (M2 : zMM), f_X7_told_51 (nI n) M = some (o, M1) ∧ f_X8_told_107 (nI n) M1 = some (b, M2) ∧ z_ag o b (M2 107 1) none (some 1) ∧ z_I (k + 1) M2 := by
  obtain ⟨t1, ⟨m, t2, t3, t4⟩, t5, t6⟩ := tape_B hI.j_tape hn hn7
  have fc := R_X3_read_79 hr
  have e1 : f_X7_told_51 (nI n) M = some (.inl f, z_up (z_up (z_up Mc 51 1 0) 51 2 (Mc 79 10)) 93 0 (Mc 93 0 + 1)) := by
    unfold f_X7_told_51
    rw [if_neg (nI_pos hn7), hI.j_tape.1, if_pos hn, hr, z_bi_s]
    unfold f_X3_faultPlace_79 f_X4_refuse_87
    rw [z_bi_s, if_neg hf, z_bv_s, z_bv_s]
    rfl
  have fr := R_X7_told_51 e1
  have hs := st_of hI.j_st2
  rcases T_read (M := M) (M' := z_up (z_up (z_up Mc 51 1 0) 51 2 (Mc 79 10)) 93 0 (Mc 93 0 + 1)) t1 t5 (mB_fr t6 (fun b => fr 123 b rfl)) hs (stq_fr hs (out_fr (by decide) fr)) ⟨m, (fr 107 17 rfl).trans t2, t3, t4⟩ with ⟨e, b, t, r, w, kk, g, p, q, C, D, Mc', Mm, r1, -⟩ | ⟨f', pp, Mc', Mm, r1, r2, r3, r4, r5, r6, r7, r8⟩
  · have := (sm_eq (r1.symm.trans hr)).1
    exact absurd this hf
  · have hff := (sm_eq (hr.symm.trans r1)).1
    have hMc := (sm_eq (hr.symm.trans r1)).2
    rw [hff, hMc] at r3
    rw [hff] at r4
    have e10 : Mc 79 10 = pp := r3.2.2.2.2.2.2
    refine ⟨_, _, f, z_up (z_up Mm 107 26 (Mm 107 25)) 122 0 (Mm 122 0 + 1), e1, ?_, ⟨r7, rfl⟩, ?_⟩
    · rw [r2]
      unfold f_X8_told_107_p159
      rw [if_neg (MJ_bad r3 r4), r4.1]
    · have fx : z_fr w_fu M (z_up (z_up Mm 107 26 (Mm 107 25)) 122 0 (Mm 122 0 + 1)) := ((((((z_fr.refl.sub fc (by decide)).up rfl).up rfl).up rfl).sub r5 (by decide)).up rfl).up rfl
      refine I_fault hI fx ?_ ?_ r8 ?_ ?_ ?_
      · exact LO_up (LO_up (LO_tr (LO_fr (by decide) fr) r6) (by unfold prq; omega)) (by unfold prq; omega)
      · exact r5 51 1 rfl
      · show Mm 51 2 = Mm 107 25
        rw [r5 51 2 rfl, r4.2]
        exact e10
      · show Mm 93 0 = M 93 0 + 1
        rw [r5 93 0 rfl, ← fc 93 0 rfl]
        rfl
      · show Mm 122 0 + 1 = M 122 0 + 1
        rw [r5 122 0 rfl, fr 122 0 rfl]
