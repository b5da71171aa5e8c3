/-! ===== the cases of the law: what one asks of each, and the easy ones ===== -/
abbrev zKt : Type := Int32 → zMM → zML → Option (Int32 × zMM × zML)
def z_Cs (c : zKt → Nat → Int32 → zMM → zML → Option (Int32 × zMM × zML)) : Prop :=
  ∀ (k : Nat) (K : zKt) (Ls j : Nat) (M : zMM) (Lm : zML), k < 600 → Ls ≤ 3072 → j + 6 ≤ Ls → z_I k M → ∃ (M' : zMM) (Lm' : zML), c K Ls (nI j) M Lm = K (nI j + 6) M' Lm' ∧ z_I (k + 1) M'
theorem z_ib_nI {Ls i : Nat} (hL : Ls ≤ 3072) (hi : i < Ls) : z_ib (nI i) Ls = true := by
  unfold z_ib
  rw [Bool.and_eq_true, decide_eq_true_eq, decide_eq_true_eq, nI_clamp (by omega)]
  exact ⟨nI_pos' (by omega), hi⟩
theorem z_s1 {Ls j : Nat} (hL : Ls ≤ 3072) (hj : j + 6 ≤ Ls) : z_ib (nI j + (1 : Int32)) Ls = true := by
  rw [show nI j + (1 : Int32) = nI (j + 1) from nI_add j 1]
  exact z_ib_nI hL (by omega)
theorem z_x1 {Ls j : Nat} (hL : Ls ≤ 3072) (hj : j + 6 ≤ Ls) : (nI j + (1 : Int32)).toNatClampNeg = j + 1 := by
  rw [show nI j + (1 : Int32) = nI (j + 1) from nI_add j 1]
  exact nI_clamp (by omega)
theorem z_s2 {Ls j : Nat} (hL : Ls ≤ 3072) (hj : j + 6 ≤ Ls) : z_ib (nI j + (2 : Int32)) Ls = true := by
  rw [show nI j + (2 : Int32) = nI (j + 2) from nI_add j 2]
  exact z_ib_nI hL (by omega)
theorem z_x2 {Ls j : Nat} (hL : Ls ≤ 3072) (hj : j + 6 ≤ Ls) : (nI j + (2 : Int32)).toNatClampNeg = j + 2 := by
  rw [show nI j + (2 : Int32) = nI (j + 2) from nI_add j 2]
  exact nI_clamp (by omega)
theorem z_s3 {Ls j : Nat} (hL : Ls ≤ 3072) (hj : j + 6 ≤ Ls) : z_ib (nI j + (3 : Int32)) Ls = true := by
  rw [show nI j + (3 : Int32) = nI (j + 3) from nI_add j 3]
  exact z_ib_nI hL (by omega)
theorem z_x3 {Ls j : Nat} (hL : Ls ≤ 3072) (hj : j + 6 ≤ Ls) : (nI j + (3 : Int32)).toNatClampNeg = j + 3 := by
  rw [show nI j + (3 : Int32) = nI (j + 3) from nI_add j 3]
  exact nI_clamp (by omega)
theorem z_s4 {Ls j : Nat} (hL : Ls ≤ 3072) (hj : j + 6 ≤ Ls) : z_ib (nI j + (4 : Int32)) Ls = true := by
  rw [show nI j + (4 : Int32) = nI (j + 4) from nI_add j 4]
  exact z_ib_nI hL (by omega)
theorem z_x4 {Ls j : Nat} (hL : Ls ≤ 3072) (hj : j + 6 ≤ Ls) : (nI j + (4 : Int32)).toNatClampNeg = j + 4 := by
  rw [show nI j + (4 : Int32) = nI (j + 4) from nI_add j 4]
  exact nI_clamp (by omega)
theorem z_s5 {Ls j : Nat} (hL : Ls ≤ 3072) (hj : j + 6 ≤ Ls) : z_ib (nI j + (5 : Int32)) Ls = true := by
  rw [show nI j + (5 : Int32) = nI (j + 5) from nI_add j 5]
  exact z_ib_nI hL (by omega)
theorem z_x5 {Ls j : Nat} (hL : Ls ≤ 3072) (hj : j + 6 ≤ Ls) : (nI j + (5 : Int32)).toNatClampNeg = j + 5 := by
  rw [show nI j + (5 : Int32) = nI (j + 5) from nI_add j 5]
  exact nI_clamp (by omega)
theorem B_c2 : z_Cs f_L_c2 := by
  intro k K Ls j M Lm hk hL hj hI
  have hf : z_fr ([(107, 1)], []) M (z_up M 107 1 (0 : Int32)) := z_fr.refl.up rfl
  refine ⟨z_up M 107 1 (0 : Int32), Lm, ?_, ⟨(hI.j_tape.fr (by decide) hf), (hI.j_fault.fr (by decide) hf), (hI.j_cnt.fr (by decide) hf), (hI.j_town.fr (by decide) hf), (hI.j_train.fr (by decide) hf), (hI.j_thing.fr (by decide) hf), (hI.j_play.fr (by decide) hf), (hI.j_like.fr (by decide) hf), (hI.j_day.fr (by decide) hf).mono, (hI.j_seed.fr (by decide) hf), (hI.j_place.fr (by decide) hf).mono, (hI.j_night.fr (by decide) hf), (hI.j_stat.fr (by decide) hf), (hI.j_plan.fr (by decide) hf), (hI.j_st1.fr (by decide) hf), (hI.j_st2.fr (by decide) hf), (hI.j_img.fr (by decide) hf).mono, (hI.j_past.fr (by decide) hf).mono, (hI.j_ways.fr (by decide) hf), (hI.j_known.fr (by decide) hf)⟩⟩
  show (if M 51 2 = M 107 26 then K (nI j + (6 : Int32)) (z_up M 107 1 (0 : Int32)) Lm else some ((0 : Int32), (z_up M 107 1 (0 : Int32)), Lm)) = _
  exact if_pos hI.j_fault
theorem B_c12 : z_Cs f_L_c12 := by
  intro k K Ls j M Lm hk hL hj hI
  refine ⟨z_up (z_up (z_up (z_up (z_up M 87 3 (1 : Int32)) 87 4 (M 0 (nI j + (1 : Int32)).toNatClampNeg)) 107 1 (0 : Int32)) 107 30 (M 0 (nI j + (1 : Int32)).toNatClampNeg)) 107 33 (1 : Int32), Lm, ?_, ?_⟩
  · unfold f_L_c12
    rw [if_pos (z_s1 hL hj)]
    show (if z_ib (nI j + (1 : Int32)) Ls = true then z_bv (f_X8_seed_107 (M 0 (nI j + (1 : Int32)).toNatClampNeg) (z_up (z_up M 87 3 (1 : Int32)) 87 4 (M 0 (nI j + (1 : Int32)).toNatClampNeg))) fun M204 => K (nI j + (6 : Int32)) M204 Lm else none) = _
    rw [if_pos (z_s1 hL hj)]
    rfl
  · have hf : z_fr ([(87, 3), (87, 4), (107, 1), (107, 30), (107, 33)], []) M (z_up (z_up (z_up (z_up (z_up M 87 3 (1 : Int32)) 87 4 (M 0 (nI j + (1 : Int32)).toNatClampNeg)) 107 1 (0 : Int32)) 107 30 (M 0 (nI j + (1 : Int32)).toNatClampNeg)) 107 33 (1 : Int32)) := ((((z_fr.refl.up rfl).up rfl).up rfl).up rfl).up rfl
    exact ⟨(hI.j_tape.fr (by decide) hf), (hI.j_fault.fr (by decide) hf), (hI.j_cnt.fr (by decide) hf), (hI.j_town.fr (by decide) hf), (hI.j_train.fr (by decide) hf), (hI.j_thing.fr (by decide) hf), (hI.j_play.fr (by decide) hf), (hI.j_like.fr (by decide) hf), (hI.j_day.fr (by decide) hf).mono, ⟨rfl, rfl, fun _ => rfl⟩, (hI.j_place.fr (by decide) hf).mono, (hI.j_night.fr (by decide) hf), (hI.j_stat.fr (by decide) hf), (hI.j_plan.fr (by decide) hf), (hI.j_st1.fr (by decide) hf), (hI.j_st2.fr (by decide) hf), (hI.j_img.fr (by decide) hf).mono, (hI.j_past.fr (by decide) hf).mono, (hI.j_ways.fr (by decide) hf), (hI.j_known.fr (by decide) hf)⟩
theorem B_c18 : z_Cs f_L_c18 := by
  intro k K Ls j M Lm hk hL hj hI
  refine ⟨z_up (z_up (z_up M 87 5 (0 : Int32)) 107 1 (0 : Int32)) 107 32 (0 : Int32), Lm, rfl, ?_⟩
  have hf : z_fr ([(87, 5), (107, 1), (107, 32)], []) M (z_up (z_up (z_up M 87 5 (0 : Int32)) 107 1 (0 : Int32)) 107 32 (0 : Int32)) := ((z_fr.refl.up rfl).up rfl).up rfl
  exact ⟨(hI.j_tape.fr (by decide) hf), (hI.j_fault.fr (by decide) hf), (hI.j_cnt.fr (by decide) hf), (hI.j_town.fr (by decide) hf), (hI.j_train.fr (by decide) hf), (hI.j_thing.fr (by decide) hf), (hI.j_play.fr (by decide) hf), (hI.j_like.fr (by decide) hf), (hI.j_day.fr (by decide) hf).mono, (hI.j_seed.fr (by decide) hf), (hI.j_place.fr (by decide) hf).mono, ⟨rfl, ⟨show (0 : Int) ≤ (0 : Int32).toInt by decide, show (0 : Int32).toInt ≤ 4 by decide⟩, fun n hn => absurd hn (Nat.not_lt_zero n), fun n hn => absurd hn (Nat.not_lt_zero _)⟩, (hI.j_stat.fr (by decide) hf), (hI.j_plan.fr (by decide) hf), (hI.j_st1.fr (by decide) hf), (hI.j_st2.fr (by decide) hf), (hI.j_img.fr (by decide) hf).mono, (hI.j_past.fr (by decide) hf).mono, (hI.j_ways.fr (by decide) hf), (hI.j_known.fr (by decide) hf)⟩
