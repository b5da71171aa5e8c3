/-! ===== every run of calls ===== -/
theorem HB : z_HB := by
  intro L xs hL
  obtain ⟨M2, h1, h2⟩ := I_start xs
  obtain ⟨M', Lm', h3⟩ := z_loop B_c0 (B_c1 B_told) B_c2 (B_c3 B_count) (B_c4 B_town) (B_c5 B_trunk) (B_c6 B_way) (B_c7 B_price) (B_c8 B_filled) (B_c9 B_tonight) (B_c10 B_both) (B_c11 B_send) B_c12 (B_c13 B_days) B_c14 (B_c15 B_clerk) (B_c16 B_lost) (B_c17 B_night) B_c18 B_c19 (B_c20 B_rides) (B_c21 B_spared) (B_c22 B_unopened) B_c23 B_c24 513 0 L 0 M2 (z_zL (fun _ _ => 0) 149) (by decide) hL (Nat.zero_le _) (by omega) h2
  exact ⟨M2, M', Lm', h1, h3⟩
