/-! ===== the model's tour ===== -/
theorem nI_orq {a b : Nat} : nI a ||| nI b = nI (a ||| b) := by
  apply gb_ext
  intro u hu
  rw [gb_or, gb_n hu, gb_n hu, gb_n hu, Nat.testBit_or]
theorem one_sl6 : ∀ n : Nat, n < 6 → (1 : Int32) <<< (nI n &&& 31) = nI (2 ^ n) := by decide +kernel
theorem bit_sl : ∀ s : Nat, s < 16 → ∀ n : Nat, n < 4 → ∀ k : Nat, k < 5 → ((nI s >>> (nI n &&& 31)) &&& (1 : Int32)) <<< (nI k &&& 31) = nI (if s.testBit n = true then 2 ^ k else 0) := by decide +kernel
def bq (x : Int32) (B : Nat) : Prop := (x = -1 ∧ B = 100000) ∨ (x = nI B ∧ B < 100000)
def PTB (M0 M : zMM) : Prop := ∀ n, n < ni M0 → ∀ S, S < 2 ^ tk M0 → z_ls (zP M0 (so_ M0) (nP M0 n) (nT M0 n) (tL M0 S)) (M 139 (32 * n + S))
def w_tm : zWs := ([(107, 1), (107, 38), (107, 52)], [128, 129, 139, 140, 141])
def tpo (M0 : zMM) (ok : Nat → Nat → Prop) (k t : Nat) (σ : Nat → Nat) (B : Nat) (M M' : zMM) : Prop :=
  (∀ u, u < t → M' 140 u = M 140 u) ∧ ∃ B', B' ≤ B ∧ bq (M' 107 52) B' ∧ (∀ v, TS M0 ok k t σ v → B' ≤ v) ∧ ((B' = B ∧ ∀ u, M' 141 u = M 141 u) ∨ (B' < B ∧ TS M0 ok k t σ B' ∧ (∀ u, u < t → M' 141 u = nI (σ u)) ∧ FT M0 ok k t σ B' (M' 141)))
theorem e_p127 {S : Int32 → Int32 → zMM → Option zMM} {i : Nat} (hi : i ≤ 5) : ∀ k j, j + k = i → ∀ fu M, k < fu → ∃ M', f_X8_tourOn_107_p127 S fu (nI i) (nI j) M = some M' ∧ (∀ u, j ≤ u → u < i → M' 141 u = M 140 u) ∧ (∀ u, u < j ∨ i ≤ u → M' 141 u = M 141 u) ∧ ∀ a b, a ≠ 141 → M' a b = M a b := by
  intro k
  induction k with
  | zero =>
    intro j hj fu M hk
    obtain ⟨fu, rfl⟩ : ∃ m, fu = m + 1 := ⟨fu - 1, by omega⟩
    exact ⟨M, if_pos (nI_le (by omega) (by omega)), fun u h1 h2 => by omega, fun _ _ => rfl, fun _ _ _ => rfl⟩
  | succ k ih =>
    intro j hj fu M hk
    obtain ⟨fu, rfl⟩ : ∃ m, fu = m + 1 := ⟨fu - 1, by omega⟩
    have ib : z_ib (nI j) 5 = true := z_ib_n (by decide) (by omega)
    unfold f_X8_tourOn_107_p127
    rw [if_neg (nI_ge (by omega) (by omega)), if_pos ib, if_pos ib, nI_clamp (by omega), nI_1]
    obtain ⟨M', e1, e2, e3, e4⟩ := ih (j + 1) (by omega) fu (z_up M 141 j (M 140 j)) (by omega)
    refine ⟨M', e1, fun u h1 h2 => ?_, fun u hu => ?_, fun a b hab => (e4 a b hab).trans (z_up_o hab)⟩
    · by_cases hu : u = j
      · rw [e3 u (by omega), hu, z_up_s]
      · rw [e2 u (by omega) h2]; exact z_up_o (by decide)
    · rw [e3 u (by omega)]
      exact z_up_n (by omega)
/-- one choice is priced -/
theorem e_leaf {k0 : Nat} {M0 M : zMM} (hI : z_I k0 M0) (hf : z_fr w_sk M0 M) (hP : PTB M0 M) {S : Int32 → Int32 → zMM → Option zMM} {ok : Nat → Nat → Prop} {σ : Nat → Nat} {B : Nat} (h140 : ∀ u, u < tk M0 → M 140 u = nI (σ u) ∧ σ u < 16) (hB : bq (M 107 52) B) (hB' : B ≤ 100000) :
    ∃ M', f_X8_tourOn_107_p15 S z_fuel (nI (tk M0)) (0 : Int32) (0 : Int32) M = some M' ∧ tpo M0 ok 0 (tk M0) σ B M M' := by
  have h5 := tk_le hI.j_cnt
  obtain ⟨n1, n2, n3⟩ := e_ni hI
  have h32 : ∀ n k, k ≤ tk M0 → sn_ σ n k < 2 ^ tk M0 := fun n k hk => Nat.lt_of_lt_of_le sn_lt (Nat.pow_le_pow_right (n := 2) (by decide) hk)
  have hp32 : 2 ^ tk M0 ≤ 2 ^ 5 := Nat.pow_le_pow_right (by decide) h5
  have mask : ∀ n, n < 4 → ∀ K acc r j, j + r = tk M0 → ∀ fu, r < fu → f_X8_tourOn_107_p30 S K fu (nI (tk M0)) (nI acc) (nI n) (nI (sn_ σ n j)) (nI j) M = (if M 139 (32 * n + sn_ σ n (tk M0)) = -1 then some M else K (nI (tk M0)) (nI acc + M 139 (32 * n + sn_ σ n (tk M0))) (nI (n + 1)) M) := by
    intro n hn K acc r
    induction r with
    | zero =>
      intro j hj fu hfu
      obtain ⟨fu, rfl⟩ : ∃ m, fu = m + 1 := ⟨fu - 1, by omega⟩
      have hjt : j = tk M0 := by omega
      rw [hjt]
      have := h32 n (tk M0) (Nat.le_refl _)
      unfold f_X8_tourOn_107_p30
      rw [if_pos (nI_le (Nat.le_refl _) (by omega)), show (32 : Int32) * nI n = nI (32 * n) from nI_mul 32 n, nI_add, if_pos (z_ib_n (by decide) (by omega)), if_pos (z_ib_n (by decide) (by omega)), nI_clamp (by omega), nI_1]
    | succ r ih =>
      intro j hj fu hfu
      obtain ⟨fu, rfl⟩ : ∃ m, fu = m + 1 := ⟨fu - 1, by omega⟩
      obtain ⟨g1, g2⟩ := h140 j (by omega)
      have next := ih (j + 1) (by omega) fu (by omega)
      unfold f_X8_tourOn_107_p30
      rw [if_neg (nI_ge (by omega) (by omega)), if_pos (z_ib_n (by decide) (by omega)), nI_clamp (by omega), g1, bit_sl (σ j) g2 n hn j (by omega), nI_orq, nI_1]
      exact next
  have loop : ∀ r n, n + r = ni M0 → ∀ fu acc, r < fu → acc ≤ 400 * n → ((∀ w, ¬ tq M0 (fun n => sn_ σ n (tk M0)) r n w) ∧ f_X8_tourOn_107_p15 S fu (nI (tk M0)) (nI acc) (nI n) M = some M) ∨ ∃ w, tq M0 (fun n => sn_ σ n (tk M0)) r n w ∧ (∀ u, tq M0 (fun n => sn_ σ n (tk M0)) r n u → u = w) ∧ f_X8_tourOn_107_p15 S fu (nI (tk M0)) (nI acc) (nI n) M = (if M 107 52 = -1 then f_X8_tourOn_107_p127 S z_fuel (nI (tk M0)) (0 : Int32) (z_up M 107 52 (nI (acc + w))) else if nI (acc + w) < M 107 52 then f_X8_tourOn_107_p127 S z_fuel (nI (tk M0)) (0 : Int32) (z_up M 107 52 (nI (acc + w))) else some M) := by
    intro r
    induction r with
    | zero =>
      intro n hn fu acc hfu hacc
      obtain ⟨fu, rfl⟩ : ∃ m, fu = m + 1 := ⟨fu - 1, by omega⟩
      refine Or.inr ⟨0, rfl, fun u hu => hu, ?_⟩
      unfold f_X8_tourOn_107_p15
      rw [hf 107 32 rfl, n3, if_pos (nI_le (by omega) (by omega))]
      rfl
    | succ r ih =>
      intro n hn fu acc hfu hacc
      obtain ⟨fu, rfl⟩ : ∃ m, fu = m + 1 := ⟨fu - 1, by omega⟩
      have e : f_X8_tourOn_107_p15 S (fu + 1) (nI (tk M0)) (nI acc) (nI n) M = (if M 139 (32 * n + sn_ σ n (tk M0)) = -1 then some M else f_X8_tourOn_107_p15 S fu (nI (tk M0)) (nI acc + M 139 (32 * n + sn_ σ n (tk M0))) (nI (n + 1)) M) := by
        have m := mask n (by omega) (f_X8_tourOn_107_p15 S fu) acc (tk M0) 0 (by omega) z_fuel (by unfold z_fuel; omega)
        rw [← m]
        show (if (M 107 32) ≤ nI n then _ else _) = _
        rw [hf 107 32 rfl, n3, if_neg (nI_ge (by omega) (by omega))]
        rfl
      rw [e]
      rcases pc_of hI (show n < ni M0 by omega) (hP n (by omega) _ (h32 n _ (Nat.le_refl _))) with ⟨z1, z2⟩ | ⟨v, z1, z2, z3, z4⟩
      · rw [z1, if_pos rfl]
        refine Or.inl ⟨fun w hw => ?_, rfl⟩
        obtain ⟨x, u, q, -⟩ := hw
        exact z2 x q
      · rw [z1, if_neg (nI_m1 (by omega)), nI_add]
        rcases ih (n + 1) (by omega) fu (acc + v) (by omega) (by omega) with ⟨y1, y2⟩ | ⟨w, y1, y2, y3⟩
        · refine Or.inl ⟨fun w hw => ?_, y2⟩
          obtain ⟨x, u, q1, q2, q3⟩ := hw
          exact y1 u q3
        · refine Or.inr ⟨v + w, ⟨v, w, z3, rfl, y1⟩, fun u hu => ?_, ?_⟩
          · obtain ⟨x, u', q1, q2, q3⟩ := hu
            rw [q2, z4 x q1, y2 u' q3]
          · rw [y3, Nat.add_assoc]
  rcases loop (ni M0) 0 (by omega) z_fuel 0 (by unfold z_fuel; omega) (by omega) with ⟨y1, y2⟩ | ⟨w, y1, y2, y3⟩
  · exact ⟨M, y2, fun _ _ => rfl, B, Nat.le_refl _, hB, fun v hv => absurd hv (y1 v), Or.inl ⟨rfl, fun _ => rfl⟩⟩
  · have hw := tq_bd _ _ _ y1
    rw [show f_X8_tourOn_107_p15 S z_fuel (nI (tk M0)) (0 : Int32) (0 : Int32) M = _ from y3, Nat.zero_add]
    have upd : w < B → ∃ M', f_X8_tourOn_107_p127 S z_fuel (nI (tk M0)) (0 : Int32) (z_up M 107 52 (nI w)) = some M' ∧ tpo M0 ok 0 (tk M0) σ B M M' := by
      intro hwB
      obtain ⟨M', e1, e2, e3, e4⟩ := e_p127 (S := S) (i := tk M0) h5 (tk M0) 0 (by omega) z_fuel (z_up M 107 52 (nI w)) (by unfold z_fuel; omega)
      refine ⟨M', e1, fun u hu => (e4 140 u (by decide)).trans (z_up_o (by decide)), w, by omega, Or.inr ⟨?_, by omega⟩, fun v hv => by rw [y2 v hv]; exact Nat.le_refl _, Or.inr ⟨hwB, y1, fun u hu => ?_, trivial⟩⟩
      · rw [e4 107 52 (by decide), z_up_s]
      · rw [e2 u (by omega) hu, z_up_o (by decide)]; exact (h140 u hu).1
    rcases hB with ⟨b1, b2⟩ | ⟨b1, b2⟩
    · rw [if_pos b1]
      exact upd (by omega)
    · rw [b1, if_neg (nI_m1 (by omega))]
      by_cases hlt : w < B
      · rw [if_pos (nI_lt hlt (by omega))]; exact upd hlt
      · rw [if_neg (nI_nlt (by omega) (by omega))]
        exact ⟨M, rfl, fun _ _ => rfl, B, Nat.le_refl _, Or.inr ⟨b1, b2⟩, fun v hv => by rw [y2 v hv]; omega, Or.inl ⟨rfl, fun _ => rfl⟩⟩
theorem ft_bits {k0 : Nat} {M : zMM} (hk : k0 < 600) (hI : z_I k0 M) {t s : Nat} (ht : t < tk M) (hs : s < 16) (h : ftq M t s) : s < 2 ^ ni M := by
  refine Nat.lt_pow_two_of_testBit _ (fun i hi => ?_)
  by_cases h4 : i < 4
  · cases hb : s.testBit i with
    | false => rfl
    | true => have := (ft_pow hk hI ht h4 hb h).1; omega
  · exact Nat.testBit_lt_two_pow (Nat.lt_of_lt_of_le (show s < 2 ^ 4 by omega) (Nat.pow_le_pow_right (by decide) (by omega)))
theorem e_tourOn {k0 : Nat} {M0 : zMM} (hk : k0 < 600) (hI : z_I k0 M0) {w : Nat} {xw : Int32} (hw : ∀ t, t < 5 → (nI t = xw ↔ t = w)) :
    ∀ k t, t + k = tk M0 → ∀ D, k < D → ∀ σ B M, z_I k0 M → z_fr w_sk M0 M → PTB M0 M → (∀ u, u < t → M 140 u = nI (σ u) ∧ σ u < 16) → bq (M 107 52) B → B ≤ 100000 → ∃ M', f_X8_tourOn_107 D (nI t) xw M = some M' ∧ tpo M0 (okq M0 w) k t σ B M M' := by
  have h5 := tk_le hI.j_cnt
  obtain ⟨n1, n2, n3⟩ := e_ni hI
  have hKm : ∀ M, z_fr w_sk M0 M → M 109 1 = nI (tk M0) := by
    intro M hf
    rw [hf 109 1 rfl]
    obtain ⟨N, -, hN, hNc, -⟩ := hI.j_cnt.2.2.2.2.2.2.1.nI
    unfold tk
    rw [hNc]; exact hN
  intro k
  induction k with
  | zero =>
    intro t ht D hD σ B M hIM hf hP h140 hB hB'
    obtain ⟨D, rfl⟩ : ∃ m, D = m + 1 := ⟨D - 1, by omega⟩
    have htt : t = tk M0 := by omega
    rw [htt] at h140 ⊢
    unfold f_X8_tourOn_107
    rw [hKm M hf, if_pos rfl]
    exact e_leaf hI hf hP h140 hB hB'
  | succ k ih =>
    intro t ht D hD σ B0 M hIM hf hP h140 hB hB'
    obtain ⟨D, rfl⟩ : ∃ m, D = m + 1 := ⟨D - 1, by omega⟩
    unfold f_X8_tourOn_107
    rw [hKm M hf, if_neg (fun z => by have := (nI_eq (by omega) (by omega)).mp z; omega)]
    have lim : ∃ l, l ≤ 16 ∧ (∀ s, s < 16 → okq M0 w t s → s < l) ∧ (∀ s, s < l → ∀ n, ni M0 ≤ n → n < 4 → s.testBit n = false) ∧ (∀ s, s < l → (t = w → s = 0)) ∧ ∀ M', z_fr w_sk M0 M' → ∀ K s, (if nI t = xw then f_X8_tourOn_107_p172 (f_X8_tourOn_107 D) K (nI t) xw (nI s) (1 : Int32) (nI s) M' else f_X8_tourOn_107_p172 (f_X8_tourOn_107 D) K (nI t) xw (nI s) ((1 : Int32) <<< ((M' 107 32) &&& 31)) (nI s) M') = f_X8_tourOn_107_p172 (f_X8_tourOn_107 D) K (nI t) xw (nI s) (nI l) (nI s) M' := by
      by_cases htw : t = w
      · refine ⟨1, by omega, fun s _ h => ?_, fun s hs n _ _ => by rw [show s = 0 by omega]; exact Nat.zero_testBit n, fun s hs _ => by omega, fun M' _ K s => by rw [if_pos ((hw t (by omega)).mpr htw)]; rfl⟩
        have h' : (if t = w then s = 0 else _) := h
        rw [if_pos htw] at h'; omega
      · refine ⟨2 ^ ni M0, ?_, fun s hs h => ?_, fun s hs n hn _ => ?_, fun s _ z => absurd z htw, fun M' hf' K s => by rw [if_neg (fun z => htw ((hw t (by omega)).mp z)), hf' 107 32 rfl, n3, one_sl6 _ (by omega)]⟩
        · exact Nat.pow_le_pow_right (n := 2) (by decide) n1
        · have h' : (if t = w then s = 0 else ftq M0 t s) := h
          rw [if_neg htw] at h'
          exact ft_bits hk hI (by omega) hs h'
        · exact Nat.testBit_lt_two_pow (Nat.lt_of_lt_of_le hs (Nat.pow_le_pow_right (by decide) hn))
    obtain ⟨l, l1, l2, l3, l4, l5⟩ := lim
    have loop : ∀ r s, s + r = l → ∀ fu Ms, r < fu → z_I k0 Ms → z_fr w_sk M0 Ms → PTB M0 Ms → (∀ u, u < t → Ms 140 u = M 140 u) → (∃ b, b ≤ B0 ∧ bq (Ms 107 52) b ∧ (∀ s', s' < s → okq M0 w t s' → ∀ v, TS M0 (okq M0 w) k (t + 1) (upq σ t s') v → b ≤ v) ∧ ((b = B0 ∧ ∀ u, Ms 141 u = M 141 u) ∨ (b < B0 ∧ (∀ u, u < t → Ms 141 u = nI (σ u)) ∧ ∃ s', s' < s ∧ s' < 16 ∧ okq M0 w t s' ∧ TS M0 (okq M0 w) k (t + 1) (upq σ t s') b ∧ (∀ s'', s'' < s' → ¬ (okq M0 w t s'' ∧ TS M0 (okq M0 w) k (t + 1) (upq σ t s'') b)) ∧ Ms 141 t = nI s' ∧ FT M0 (okq M0 w) k (t + 1) (upq σ t s') b (Ms 141)))) →
        ∃ M', f_X8_tourOn_107_p156 (f_X8_tourOn_107 D) fu (nI t) xw (nI s) Ms = some M' ∧ tpo M0 (okq M0 w) (k + 1) t σ B0 M M' := by
      intro r
      induction r with
      | zero =>
        intro s hs fu Ms hfu hIs hfs hPs h1 hinv
        obtain ⟨fu, rfl⟩ : ∃ m, fu = m + 1 := ⟨fu - 1, by omega⟩
        have hsl : s = l := by omega
        unfold f_X8_tourOn_107_p156
        rw [l5 Ms hfs]
        unfold f_X8_tourOn_107_p172
        rw [if_pos (nI_le (by omega) (by omega))]
        obtain ⟨b, b1, b2, b3, b4⟩ := hinv
        refine ⟨Ms, rfl, h1, b, b1, b2, fun v hv => ?_, ?_⟩
        · obtain ⟨s', q1, q2, q3⟩ := hv
          exact b3 s' (by have := l2 s' q1 q2; omega) q2 v q3
        · rcases b4 with z | ⟨z1, z2, s', z3, z4, z5, z6, z7, z8, z9⟩
          · exact Or.inl z
          · exact Or.inr ⟨z1, ⟨s', z4, z5, z6⟩, z2, s', z4, z5, z6, z7, z8, z9⟩
      | succ r ihr =>
        intro s hs fu Ms hfu hIs hfs hPs h1 hinv
        obtain ⟨fu, rfl⟩ : ∃ m, fu = m + 1 := ⟨fu - 1, by omega⟩
        obtain ⟨b, b1, b2, b3, b4⟩ := hinv
        unfold f_X8_tourOn_107_p156
        rw [l5 Ms hfs]
        unfold f_X8_tourOn_107_p172
        rw [if_neg (nI_ge (by omega) (by omega)), nI_1]
        have etk : tk Ms = tk M0 := (cntfrq hfs).2.1
        have eni : ni Ms = ni M0 := by unfold ni; rw [hfs 107 32 rfl]
        obtain ⟨v, v1, v2⟩ := e_fit8 hk hIs (t := t) (s := s) (by rw [etk]; omega) (by rw [eni]; exact l3 s (by omega))
        have hok : okq M0 w t s ↔ ftq M0 t s := by
          show (if t = w then s = 0 else ftq M0 t s) ↔ _
          by_cases htw : t = w
          · rw [if_pos htw]
            have := l4 s (by omega) htw
            rw [this]
            exact ⟨fun _ => ft_zero, fun _ => rfl⟩
          · rw [if_neg htw]
        rw [ftfrq hfs, ← hok] at v2
        rw [v1, z_bi_s]
        rcases v2 with ⟨z1, z2⟩ | ⟨z1, z2⟩
        · rw [z1, if_neg (by decide), if_pos (z_ib_n (by decide) (by omega)), nI_clamp (by omega), nI_1]
          have hfn : z_fr w_sc Ms (z_up Ms 140 t (nI s)) := z_fr.refl.up rfl
          obtain ⟨M', e1, f1, b', f2, f3, f4, f5⟩ := ih (t + 1) (by omega) D (by omega) (upq σ t s) b (z_up Ms 140 t (nI s)) (hIs.sc hfn) (hfs.trans (sc_sk hfn)) hPs (fun u hu => by
            show z_up Ms 140 t (nI s) 140 u = nI (if u = t then s else σ u) ∧ (if u = t then s else σ u) < 16
            by_cases hut : u = t
            · rw [if_pos hut, hut, z_up_s]; exact ⟨rfl, by omega⟩
            · rw [if_neg hut, z_up_n hut, h1 u (by omega)]; exact h140 u (by omega)) b2 (by omega)
          rw [e1, z_bv_s]
          have fr : z_fr w_sc Ms M' := hfn.sub (R_X8_tourOn_107 e1) (by decide)
          refine ihr (s + 1) (by omega) fu M' (by omega) (hIs.sc fr) (hfs.trans (sc_sk fr)) (fun n hn S hS => ?_) (fun u hu => ?_) ⟨b', by omega, f3, fun s' hs' ho v hv => ?_, ?_⟩
          · rw [R_X8_tourOn_107 e1 139 _ rfl]; exact hPs n hn S hS
          · rw [f1 u (by omega), z_up_n (by omega)]; exact h1 u hu
          · by_cases hss : s' = s
            · rw [hss] at hv; exact f4 v hv
            · have := b3 s' (by omega) ho v hv; omega
          · rcases f5 with ⟨g1, g2⟩ | ⟨g1, g2, g3, g4⟩
            · have g2' : ∀ u, M' 141 u = Ms 141 u := fun u => (g2 u).trans (z_up_o (by decide))
              rw [g1]
              rcases b4 with ⟨q1, q2⟩ | ⟨q1, q2, s', q3, q4, q5, q6, q7, q8, q9⟩
              · exact Or.inl ⟨q1, fun u => (g2' u).trans (q2 u)⟩
              · exact Or.inr ⟨q1, fun u hu => (g2' u).trans (q2 u hu), s', by omega, q4, q5, q6, q7, (g2' t).trans q8, FT_cgq _ _ _ _ _ _ (fun u _ _ => (g2' u).symm) q9⟩
            · refine Or.inr ⟨by omega, fun u hu => ?_, s, by omega, by omega, z2, g2, fun s'' hs'' q => ?_, ?_, g4⟩
              · rw [g3 u (by omega)]
                show nI (if u = t then s else σ u) = nI (σ u)
                rw [if_neg (by omega)]
              · have := b3 s'' hs'' q.1 b' q.2; omega
              · rw [g3 t (by omega)]
                show nI (if t = t then s else σ t) = nI s
                rw [if_pos rfl]
        · rw [z1, if_pos rfl]
          refine ihr (s + 1) (by omega) fu Ms (by omega) hIs hfs hPs h1 ⟨b, b1, b2, fun s' hs' ho v hv => ?_, ?_⟩
          · by_cases hss : s' = s
            · rw [hss] at ho; exact absurd ho z2
            · exact b3 s' (by omega) ho v hv
          · rcases b4 with z | ⟨q1, q2, s', q3, q4⟩
            · exact Or.inl z
            · exact Or.inr ⟨q1, q2, s', by omega, q4⟩
    exact loop l 0 (by omega) z_fuel M (by unfold z_fuel; omega) hIM hf hP (fun _ _ => rfl) ⟨B0, Nat.le_refl _, hB, fun s' hs' => absurd hs' (by omega), Or.inl ⟨rfl, fun _ => rfl⟩⟩
/-- the model's table, and its search -/
theorem e_tw {k0 : Nat} {M0 M1 : zMM} (hk : k0 < 600) (hI : z_I k0 M0) (hI1 : z_I k0 M1) (hf1 : z_fr w_sk M0 M1) {w : Nat} {xw : Int32} (hw : ∀ t, t < 5 → (nI t = xw ↔ t = w)) : ∃ y M', f_X8_tourWithout_107 xw M1 = some (y, M') ∧ z_ls (TS M0 (okq M0 w) (tk M0) 0 (fun _ => 0)) y ∧ z_I k0 M' ∧ z_fr w_sk M0 M' ∧ M' 107 1 = M1 107 1 ∧ ∀ v, y = nI v → v < 10000 → FT M0 (okq M0 w) (tk M0) 0 (fun _ => 0) v (M' 141) := by
  have h5 := tk_le hI.j_cnt
  obtain ⟨n1, n2, n3⟩ := e_ni hI
  have hp32 : 2 ^ tk M0 ≤ 2 ^ 5 := Nat.pow_le_pow_right (by decide) h5
  have hKm : ∀ M, z_fr w_sk M0 M → M 109 1 = nI (tk M0) := by
    intro M hf
    rw [hf 109 1 rfl]
    obtain ⟨N, -, hN, hNc, -⟩ := hI.j_cnt.2.2.2.2.2.2.1.nI
    unfold tk
    rw [hNc]; exact hN
  have inner : ∀ n, n < ni M0 → ∀ K r S, S + r = 2 ^ tk M0 → ∀ fu M, r < fu → z_I k0 M → z_fr w_sk M0 M → M 107 1 = M1 107 1 → (∀ m, m < n → ∀ S', S' < 2 ^ tk M0 → z_ls (zP M0 (so_ M0) (nP M0 m) (nT M0 m) (tL M0 S')) (M 139 (32 * m + S'))) → (∀ S', S' < S → z_ls (zP M0 (so_ M0) (nP M0 n) (nT M0 n) (tL M0 S')) (M 139 (32 * n + S'))) → ∃ M', f_X8_tourWithout_107_p12 K fu xw (nI n) (nI S) M = K xw (nI (n + 1)) M' ∧ z_I k0 M' ∧ z_fr w_sk M0 M' ∧ M' 107 1 = M1 107 1 ∧ (∀ m, m < n + 1 → ∀ S', S' < 2 ^ tk M0 → z_ls (zP M0 (so_ M0) (nP M0 m) (nT M0 m) (tL M0 S')) (M' 139 (32 * m + S'))) := by
    intro n hn K r
    obtain ⟨c1, c2, c3, c4, c5, c6, c7, c8, c9, c10⟩ := e_night hI hn
    induction r with
    | zero =>
      intro S hS fu M hfu hIM hf h1 hold hnew
      obtain ⟨fu, rfl⟩ : ∃ m, fu = m + 1 := ⟨fu - 1, by omega⟩
      unfold f_X8_tourWithout_107_p12
      rw [hKm M hf, one_sl6 _ (by omega), if_pos (nI_le (by omega) (by omega)), nI_1]
      refine ⟨M, rfl, hIM, hf, h1, fun m hm S' hS' => ?_⟩
      by_cases hmn : m = n
      · rw [hmn]; exact hnew S' (by omega)
      · exact hold m (by omega) S' hS'
    | succ r ih =>
      intro S hS fu M hfu hIM hf h1 hold hnew
      obtain ⟨fu, rfl⟩ : ∃ m, fu = m + 1 := ⟨fu - 1, by omega⟩
      obtain ⟨d1, d2, d3, d4⟩ := cntfrq hf
      obtain ⟨y, -, y2, y3⟩ := e_things hIM hIM z_fr.refl S
      obtain ⟨x, M2, b1, b2, b3, b4, b5⟩ := e_mTr hIM (p := nP M0 n) (t := nT M0 n) (s := S) (y := y) (by rw [d4]; exact c10) (by rw [d1]; exact c7) y3
      rw [zPfrq hf] at b2
      have b6 : z_fr ([(107, 38)], [128, 129]) M M2 := R_X8_priceOf_107 b1
      have ib4 : z_ib (nI n) 4 = true := z_ib_n (by decide) c1
      unfold f_X8_tourWithout_107_p12
      rw [hKm M hf, one_sl6 _ (by omega), if_neg (nI_ge (by omega) (by omega)), if_pos ib4, if_pos ib4, y2, z_bi_s, nI_clamp (by omega), hf 138 n rfl, hf 137 n rfl, c9, c6, b1, z_bi_s, show (32 : Int32) * nI n = nI (32 * n) from nI_mul 32 n, nI_add, if_pos (z_ib_n (by decide) (by omega)), nI_clamp (by omega), nI_1]
      have hf3 : z_fr w_sc M2 (z_up M2 139 (32 * n + S) x) := z_fr.refl.up rfl
      refine ih (S + 1) (by omega) fu _ (by omega) (b3.sc hf3) ((hf.trans b4).trans (sc_sk hf3)) (b5.trans h1) (fun m hm S' hS' => ?_) (fun S' hS' => ?_)
      · rw [z_up_n (by omega), b6 139 _ rfl]; exact hold m hm S' hS'
      · by_cases hSS : S' = S
        · rw [hSS, z_up_s]; exact b2
        · rw [z_up_n (by omega), b6 139 _ rfl]; exact hnew S' (by omega)
  have outer : ∀ r n, n + r = ni M0 → ∀ fu M, r < fu → z_I k0 M → z_fr w_sk M0 M → M 107 1 = M1 107 1 → (∀ m, m < n → ∀ S', S' < 2 ^ tk M0 → z_ls (zP M0 (so_ M0) (nP M0 m) (nT M0 m) (tL M0 S')) (M 139 (32 * m + S'))) → ∃ M', f_X8_tourWithout_107_p2 fu xw (nI n) M = (z_bv (f_X8_tourOn_107 8 (0 : Int32) xw (z_up M' 107 52 (-1 : Int32))) fun M4 => some ((M4 107 52), M4)) ∧ z_I k0 M' ∧ z_fr w_sk M0 M' ∧ M' 107 1 = M1 107 1 ∧ PTB M0 M' := by
    intro r
    induction r with
    | zero =>
      intro n hn fu M hfu hIM hf h1 hold
      obtain ⟨fu, rfl⟩ : ∃ m, fu = m + 1 := ⟨fu - 1, by omega⟩
      unfold f_X8_tourWithout_107_p2
      rw [hf 107 32 rfl, n3, if_pos (nI_le (by omega) (by omega))]
      exact ⟨M, rfl, hIM, hf, h1, fun m hm => hold m (by omega)⟩
    | succ r ih =>
      intro n hn fu M hfu hIM hf h1 hold
      obtain ⟨fu, rfl⟩ : ∃ m, fu = m + 1 := ⟨fu - 1, by omega⟩
      unfold f_X8_tourWithout_107_p2
      rw [hf 107 32 rfl, n3, if_neg (nI_ge (by omega) (by omega))]
      obtain ⟨M', e1, e2, e3, e4, e5⟩ := inner n (by omega) (f_X8_tourWithout_107_p2 fu) (2 ^ tk M0) 0 (by omega) z_fuel M (by unfold z_fuel; omega) hIM hf h1 hold (fun S' hS' => absurd hS' (by omega))
      rw [show f_X8_tourWithout_107_p12 (f_X8_tourWithout_107_p2 fu) z_fuel xw (nI n) (0 : Int32) M = _ from e1]
      exact ih (n + 1) (by omega) fu M' (by omega) e2 e3 e4 e5
  obtain ⟨M2, a1, a2, a3, a4, a5⟩ := outer (ni M0) 0 (by omega) z_fuel M1 (by unfold z_fuel; omega) hI1 hf1 rfl (fun m hm => absurd hm (by omega))
  have hf3 : z_fr w_sc M2 (z_up M2 107 52 (-1 : Int32)) := z_fr.refl.up rfl
  obtain ⟨M3, e1, -, B, e2, e3, e4, e5⟩ := e_tourOn hk hI hw (tk M0) 0 (by omega) 8 (by omega) (fun _ => 0) 100000 (z_up M2 107 52 (-1 : Int32)) (a2.sc hf3) (a3.trans (sc_sk hf3)) a5 (fun u hu => absurd hu (by omega)) (Or.inl ⟨z_up_s, rfl⟩) (by omega)
  have fr : z_fr w_sc M2 M3 := hf3.sub (R_X8_tourOn_107 e1) (by decide)
  refine ⟨M3 107 52, M3, ?_, ?_, a2.sc fr, a3.trans (sc_sk fr), ?_, ?_⟩
  · unfold f_X8_tourWithout_107
    rw [show f_X8_tourWithout_107_p2 z_fuel xw (0 : Int32) M1 = _ from a1, show f_X8_tourOn_107 8 (0 : Int32) xw (z_up M2 107 52 (-1 : Int32)) = _ from e1, z_bv_s]
  · rcases e5 with ⟨g1, -⟩ | ⟨g1, g2, -⟩
    · rw [g1] at e3 e4
      rcases e3 with ⟨q, -⟩ | ⟨-, q⟩
      · rw [q]
        refine z_ls.none (fun v hv => ?_)
        have h1 := e4 v hv
        have h2 := TS_bd _ _ _ _ hv
        omega
      · omega
    · have hb := TS_bd _ _ _ _ g2
      rcases e3 with ⟨-, q⟩ | ⟨q, -⟩
      · omega
      · rw [q]; exact Or.inr ⟨B, rfl, by omega, g2, e4⟩
  · rw [R_X8_tourOn_107 e1 107 1 rfl]
    exact (show z_up M2 107 52 (-1 : Int32) 107 1 = M2 107 1 from rfl).trans a4
  · intro v hv hv2
    rcases e5 with ⟨g1, -⟩ | ⟨g1, g2, g3, g4⟩
    · rw [g1] at e3
      rcases e3 with ⟨q, -⟩ | ⟨-, q⟩
      · exact absurd (hv.symm.trans q) (nI_m1 (by omega))
      · omega
    · rcases e3 with ⟨-, q⟩ | ⟨q, q2⟩
      · omega
      · have : v = B := (nI_eq (by omega) (by omega)).mp (hv.symm.trans q)
        rw [this]; exact g4
