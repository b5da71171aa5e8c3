/-! ===== the loop out of the cases ===== -/
theorem z_sub6 {Ls j : Nat} (hL : Ls ≤ 3072) (hj : j ≤ 4000) : (nI Ls - (6 : Int32) < nI j) ↔ Ls < j + 6 := by
  rw [Int32.lt_iff_toInt_lt, Int32.toInt_sub, nI_toInt (by omega), nI_toInt (by omega), show (6 : Int32).toInt = 6 from rfl, Int.bmod_eq_of_le (by omega) (by omega)]
  omega
theorem z_I.next {k : Nat} {M : zMM} (hI : z_I k M) : z_I (k + 1) M := by
  have hf : z_fr ([], []) M M := z_fr.refl
  exact ⟨(hI.j_tape.fr (by decide) hf), (hI.j_fault.fr (by decide) hf), (hI.j_cnt.fr (by decide) hf), (hI.j_town.fr (by decide) hf), (hI.j_train.fr (by decide) hf), (hI.j_thing.fr (by decide) hf), (hI.j_play.fr (by decide) hf), (hI.j_like.fr (by decide) hf), (hI.j_day.fr (by decide) hf).mono, (hI.j_seed.fr (by decide) hf), (hI.j_place.fr (by decide) hf).mono, (hI.j_night.fr (by decide) hf), (hI.j_stat.fr (by decide) hf), (hI.j_plan.fr (by decide) hf), (hI.j_st1.fr (by decide) hf), (hI.j_st2.fr (by decide) hf), (hI.j_img.fr (by decide) hf).mono, (hI.j_past.fr (by decide) hf).mono, (hI.j_ways.fr (by decide) hf), (hI.j_known.fr (by decide) hf)⟩
theorem z_loop (h0 : z_Cs f_L_c0) (h1 : z_Cs f_L_c1) (h2 : z_Cs f_L_c2) (h3 : z_Cs f_L_c3) (h4 : z_Cs f_L_c4) (h5 : z_Cs f_L_c5) (h6 : z_Cs f_L_c6) (h7 : z_Cs f_L_c7) (h8 : z_Cs f_L_c8) (h9 : z_Cs f_L_c9) (h10 : z_Cs f_L_c10) (h11 : z_Cs f_L_c11) (h12 : z_Cs f_L_c12) (h13 : z_Cs f_L_c13) (h14 : z_Cs f_L_c14) (h15 : z_Cs f_L_c15) (h16 : z_Cs f_L_c16) (h17 : z_Cs f_L_c17) (h18 : z_Cs f_L_c18) (h19 : z_Cs f_L_c19) (h20 : z_Cs f_L_c20) (h21 : z_Cs f_L_c21) (h22 : z_Cs f_L_c22) (h23 : z_Cs f_L_c23) (h24 : z_Cs f_L_c24) :
    ∀ (n k : Nat) (Ls j : Nat) (M : zMM) (Lm : zML), k + n < 600 → Ls ≤ 3072 → j ≤ Ls → Ls < j + 6 * n → z_I k M → ∃ (M' : zMM) (Lm' : zML), f_L_loop Ls n (nI j) M Lm = some (1, M', Lm') := by
  intro n
  induction n with
  | zero => intro k Ls j M Lm hk hL hj hn hI; omega
  | succ n ih =>
    intro k Ls j M Lm hk hL hj hn hI
    show ∃ (M' : zMM) (Lm' : zML), f_L_head (f_L_loop Ls n) Ls (nI j) M Lm = some (1, M', Lm')
    unfold f_L_head
    by_cases hx : Ls < j + 6
    · rw [if_pos ((z_sub6 hL (by omega)).mpr hx)]
      exact ⟨M, Lm, rfl⟩
    · rw [if_neg (fun q => hx ((z_sub6 hL (by omega)).mp q)), if_pos (z_ib_nI hL (by omega))]
      have go : ∀ {c : zKt → Nat → Int32 → zMM → zML → Option (Int32 × zMM × zML)}, z_Cs c → ∃ (M' : zMM) (Lm' : zML), c (f_L_loop Ls n) Ls (nI j) M Lm = some (1, M', Lm') := by
        intro c hc
        obtain ⟨M1, Lm1, e, hI1⟩ := hc k (f_L_loop Ls n) Ls j M Lm (by omega) hL (by omega) hI
        rw [e, show nI j + (6 : Int32) = nI (j + 6) from nI_add j 6]
        exact ih (k + 1) Ls (j + 6) M1 Lm1 (by omega) hL (by omega) (by omega) hI1
      by_cases g0 : (M 0 (nI j).toNatClampNeg &&& (31 : Int32)) = (0 : Int32)
      · rw [if_pos g0]; exact go h0
      rw [if_neg g0]
      by_cases g1 : (M 0 (nI j).toNatClampNeg &&& (31 : Int32)) = (1 : Int32)
      · rw [if_pos g1]; exact go h1
      rw [if_neg g1]
      by_cases g2 : (M 0 (nI j).toNatClampNeg &&& (31 : Int32)) = (2 : Int32)
      · rw [if_pos g2]; exact go h2
      rw [if_neg g2]
      by_cases g3 : (M 0 (nI j).toNatClampNeg &&& (31 : Int32)) = (3 : Int32)
      · rw [if_pos g3]; exact go h3
      rw [if_neg g3]
      by_cases g4 : (M 0 (nI j).toNatClampNeg &&& (31 : Int32)) = (4 : Int32)
      · rw [if_pos g4]; exact go h4
      rw [if_neg g4]
      by_cases g5 : (M 0 (nI j).toNatClampNeg &&& (31 : Int32)) = (5 : Int32)
      · rw [if_pos g5]; exact go h5
      rw [if_neg g5]
      by_cases g6 : (M 0 (nI j).toNatClampNeg &&& (31 : Int32)) = (6 : Int32)
      · rw [if_pos g6]; exact go h6
      rw [if_neg g6]
      by_cases g7 : (M 0 (nI j).toNatClampNeg &&& (31 : Int32)) = (7 : Int32)
      · rw [if_pos g7]; exact go h7
      rw [if_neg g7]
      by_cases g8 : (M 0 (nI j).toNatClampNeg &&& (31 : Int32)) = (8 : Int32)
      · rw [if_pos g8]; exact go h8
      rw [if_neg g8]
      by_cases g9 : (M 0 (nI j).toNatClampNeg &&& (31 : Int32)) = (9 : Int32)
      · rw [if_pos g9]; exact go h9
      rw [if_neg g9]
      by_cases g10 : (M 0 (nI j).toNatClampNeg &&& (31 : Int32)) = (10 : Int32)
      · rw [if_pos g10]; exact go h10
      rw [if_neg g10]
      by_cases g11 : (M 0 (nI j).toNatClampNeg &&& (31 : Int32)) = (11 : Int32)
      · rw [if_pos g11]; exact go h11
      rw [if_neg g11]
      by_cases g12 : (M 0 (nI j).toNatClampNeg &&& (31 : Int32)) = (12 : Int32)
      · rw [if_pos g12]; exact go h12
      rw [if_neg g12]
      by_cases g13 : (M 0 (nI j).toNatClampNeg &&& (31 : Int32)) = (13 : Int32)
      · rw [if_pos g13]; exact go h13
      rw [if_neg g13]
      by_cases g14 : (M 0 (nI j).toNatClampNeg &&& (31 : Int32)) = (14 : Int32)
      · rw [if_pos g14]; exact go h14
      rw [if_neg g14]
      by_cases g15 : (M 0 (nI j).toNatClampNeg &&& (31 : Int32)) = (15 : Int32)
      · rw [if_pos g15]; exact go h15
      rw [if_neg g15]
      by_cases g16 : (M 0 (nI j).toNatClampNeg &&& (31 : Int32)) = (16 : Int32)
      · rw [if_pos g16]; exact go h16
      rw [if_neg g16]
      by_cases g17 : (M 0 (nI j).toNatClampNeg &&& (31 : Int32)) = (17 : Int32)
      · rw [if_pos g17]; exact go h17
      rw [if_neg g17]
      by_cases g18 : (M 0 (nI j).toNatClampNeg &&& (31 : Int32)) = (18 : Int32)
      · rw [if_pos g18]; exact go h18
      rw [if_neg g18]
      by_cases g19 : (M 0 (nI j).toNatClampNeg &&& (31 : Int32)) = (19 : Int32)
      · rw [if_pos g19]; exact go h19
      rw [if_neg g19]
      by_cases g20 : (M 0 (nI j).toNatClampNeg &&& (31 : Int32)) = (20 : Int32)
      · rw [if_pos g20]; exact go h20
      rw [if_neg g20]
      by_cases g21 : (M 0 (nI j).toNatClampNeg &&& (31 : Int32)) = (21 : Int32)
      · rw [if_pos g21]; exact go h21
      rw [if_neg g21]
      by_cases g22 : (M 0 (nI j).toNatClampNeg &&& (31 : Int32)) = (22 : Int32)
      · rw [if_pos g22]; exact go h22
      rw [if_neg g22]
      by_cases g23 : (M 0 (nI j).toNatClampNeg &&& (31 : Int32)) = (23 : Int32)
      · rw [if_pos g23]; exact go h23
      rw [if_neg g23]
      by_cases g24 : (M 0 (nI j).toNatClampNeg &&& (31 : Int32)) = (24 : Int32)
      · rw [if_pos g24]; exact go h24
      rw [if_neg g24]
      rw [show nI j + (6 : Int32) = nI (j + 6) from nI_add j 6]
      exact ih (k + 1) Ls (j + 6) M Lm (by omega) hL (by omega) (by omega) hI.next
