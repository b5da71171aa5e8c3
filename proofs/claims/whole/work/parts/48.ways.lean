/-! ===== ways: who hands a trunk on ===== -/
def nx_ (M : zMM) (a b : Nat) : Nat := (M 127 (5 * a + b)).toNatClampNeg
def pt_ (M : zMM) (b : Nat) : Nat → Nat → Nat
  | 0, a => a
  | i + 1, a => nx_ M (pt_ M b i a) b
/-- trains on both sides -/
theorem e_train {k : Nat} {M : zMM} (hI : z_I k M) {a b : Nat} (ha : a < 5) (hb : b < 5) : (M 58 (5 * a + b) = -1 ∧ M 114 (5 * a + b) = 0 ∧ tr M a b = 0) ∨ (M 58 (5 * a + b) = nI (tr M a b) ∧ M 114 (5 * a + b) = nI (tr M a b) ∧ 1 ≤ tr M a b ∧ tr M a b ≤ 9 ∧ a < tw M ∧ b < tw M ∧ a ≠ b) := by
  rcases hI.j_train (5 * a + b) (by omega) with ⟨h1, h2⟩ | ⟨h1, h2, h3, h4, h5⟩
  · exact Or.inl ⟨h1, h2, by unfold tr; rw [h2]; rfl⟩
  · obtain ⟨v, hv, e1, e2, e3⟩ := (show z_bd (M 114 (5 * a + b)) 0 9 from ⟨by have := h2.1; omega, h2.2⟩).nI
    have e : tr M a b = v := e2
    have := h2.1
    rw [e1, nI_toInt hv] at this
    rw [e, h1]
    exact Or.inr ⟨e1, e1, by omega, by omega, by omega, by omega, by omega⟩
theorem e_tD {M : zMM} {a b : Nat} (ha : a < 5) (hb : b < 5) : f_X5_trainDays_53 (nI a) (nI b) M = some (M 58 (5 * a + b), M) := by
  unfold f_X5_trainDays_53
  rw [nI_51, z_at_nI (by decide) (by omega)]
theorem e_join {M : zMM} {x y : Int32} : f_X6_joined x y M = some (if x = -1 then -1 else if y = -1 then -1 else x + y, M) := by
  unfold f_X6_joined
  by_cases h1 : x = -1
  · rw [if_pos h1, if_pos h1]
  · rw [if_neg h1, if_neg h1]
    by_cases h2 : y = -1
    · rw [if_pos h2, if_pos h2]
    · rw [if_neg h2, if_neg h2]
theorem e_nxq {k : Nat} {M : zMM} (hI : z_I k M) {a b : Nat} (ha : a < tw M) (hb : b < tw M) (hab : a ≠ b) (hw : wd M a b < 1000) : nx_ M a b < tw M ∧ M 127 (5 * a + b) = nI (nx_ M a b) ∧ 0 < tr M a (nx_ M a b) ∧ tr M a (nx_ M a b) + wd M (nx_ M a b) b = wd M a b ∧ ∀ y, y < nx_ M a b → ¬ (0 < tr M a y ∧ tr M a y + wd M y b = wd M a b) := by
  have h5 := tw_le hI.j_cnt
  obtain ⟨x, x1, x2, x3, x4, x5⟩ := (hI.j_ways (by omega)).2.2.2 a (by omega) b (by omega) hab hw
  have e : nx_ M a b = x := by unfold nx_; rw [x2, nI_clamp (by omega)]
  rw [e]
  refine ⟨?_, x2, x3, x4, x5⟩
  rcases e_train hI (a := a) (b := x) (by omega) x1 with ⟨-, -, z⟩ | ⟨-, -, -, -, -, z, -⟩
  · omega
  · exact z
theorem e_nextStop {k : Nat} {M : zMM} (hI : z_I k M) {a b : Nat} (ha : a < tw M) (hb : b < tw M) (hab : a ≠ b) (hw : wd M a b < 1000) : f_X6_nextStop_80 (nI a) (nI b) M = some (nI (nx_ M a b), M) := by
  have h5 := tw_le hI.j_cnt
  obtain ⟨x1, x2, x3, x4, x5⟩ := e_nxq hI ha hb hab hw
  obtain ⟨-, -, v1, v2⟩ := e_way hI ha hb
  have v3 : M 81 (5 * a + b) = nI (wd M a b) := by
    rcases v2 with ⟨z, -⟩ | ⟨-, z⟩
    · omega
    · exact z
  obtain ⟨N, -, hN, hNc, hN5⟩ := hI.j_cnt.2.2.2.2.2.1.nI
  have eN : tw M = N := hNc
  have loop : ∀ r y, y + r = nx_ M a b → ∀ fu, r < fu → f_X6_nextStop_80_p2 fu (nI a) (nI b) (nI y) M = some (nI (nx_ M a b), M) := by
    intro r
    induction r with
    | zero =>
      intro y hy fu hfu
      obtain ⟨fu, rfl⟩ : ∃ m, fu = m + 1 := ⟨fu - 1, by omega⟩
      have hyx : y = nx_ M a b := by omega
      rw [hyx]
      unfold f_X6_nextStop_80_p2
      obtain ⟨-, -, u1, u2⟩ := e_way hI x1 hb
      have u3 : M 81 (5 * nx_ M a b + b) = nI (wd M (nx_ M a b) b) := by
        rcases u2 with ⟨z, -⟩ | ⟨-, z⟩
        · omega
        · exact z
      have t3 : M 58 (5 * a + nx_ M a b) = nI (tr M a (nx_ M a b)) ∧ tr M a (nx_ M a b) ≤ 9 := by
        rcases e_train hI (a := a) (b := nx_ M a b) (by omega) (by omega) with ⟨-, -, z⟩ | ⟨z, -, -, z2, -⟩
        · omega
        · exact ⟨z, z2⟩
      rw [hI.j_cnt.1, hN, if_neg (nI_ge (by omega) (by omega)), e_tD (by omega) (by omega), z_bi_s, e_span (by omega) (by omega), z_bi_s, e_join, z_bi_s, t3.1, u3, if_neg (nI_m1 (by omega)), if_neg (nI_m1 (by omega)), nI_add, if_neg (nI_m1 (by omega)), e_span (by omega) (by omega), z_bi_s, v3, if_pos (by rw [x4])]
    | succ r ih =>
      intro y hy fu hfu
      obtain ⟨fu, rfl⟩ : ∃ m, fu = m + 1 := ⟨fu - 1, by omega⟩
      unfold f_X6_nextStop_80_p2
      rw [hI.j_cnt.1, hN, if_neg (nI_ge (by omega) (by omega)), e_tD (by omega) (by omega), z_bi_s, e_span (by omega) (by omega), z_bi_s, e_join, z_bi_s, nI_1]
      have hno := x5 y (by omega)
      have next := ih (y + 1) (by omega) fu (by omega)
      obtain ⟨-, -, u1, u2⟩ := e_way hI (a := y) (b := b) (by omega) hb
      rcases e_train hI (a := a) (b := y) (by omega) (by omega) with ⟨z, -, -⟩ | ⟨z, -, z1, z2, -⟩
      · rw [z, if_pos rfl, if_pos rfl]; exact next
      · rw [z, if_neg (nI_m1 (by omega))]
        rcases u2 with ⟨-, u3⟩ | ⟨u2, u3⟩
        · rw [u3, if_pos rfl, if_pos rfl]; exact next
        · rw [u3, if_neg (nI_m1 (by omega)), nI_add, if_neg (nI_m1 (by omega)), e_span (by omega) (by omega), z_bi_s, v3, if_neg (fun q => hno ⟨by omega, (nI_eq (by omega) (by omega)).mp q⟩)]
          exact next
  exact loop (nx_ M a b) 0 (by omega) z_fuel (by unfold z_fuel; omega)
/-- how many towns are nearer -/
def cn_ (M : zMM) (b x c : Nat) : Nat := if wd M c b < x then 1 else 0
theorem cn_mono {M : zMM} {b x y c : Nat} (h : y ≤ x) : cn_ M b y c ≤ cn_ M b x c := by
  unfold cn_
  by_cases h1 : wd M c b < y
  · rw [if_pos h1, if_pos (by omega)]; omega
  · rw [if_neg h1]; omega
theorem cn_one {M : zMM} {b x c : Nat} (h : wd M c b < x) : cn_ M b (wd M c b) c = 0 ∧ cn_ M b x c = 1 := by
  unfold cn_
  rw [if_neg (by omega), if_pos h]
  exact ⟨rfl, rfl⟩
def cs_ (M : zMM) (b x : Nat) : Nat := cn_ M b x 0 + cn_ M b x 1 + cn_ M b x 2 + cn_ M b x 3 + cn_ M b x 4
theorem cs_lt {M : zMM} {b x c : Nat} (hc : c < 5) (h : wd M c b < x) : cs_ M b (wd M c b) + 1 ≤ cs_ M b x := by
  obtain ⟨e1, e2⟩ := cn_one h
  have m0 := cn_mono (M := M) (b := b) (c := 0) (Nat.le_of_lt h)
  have m1 := cn_mono (M := M) (b := b) (c := 1) (Nat.le_of_lt h)
  have m2 := cn_mono (M := M) (b := b) (c := 2) (Nat.le_of_lt h)
  have m3 := cn_mono (M := M) (b := b) (c := 3) (Nat.le_of_lt h)
  have m4 := cn_mono (M := M) (b := b) (c := 4) (Nat.le_of_lt h)
  unfold cs_
  have : c = 0 ∨ c = 1 ∨ c = 2 ∨ c = 3 ∨ c = 4 := by omega
  rcases this with z | z | z | z | z <;> rw [z] at e1 e2 m0 m1 m2 m3 m4 ⊢ <;> omega
theorem cs_le {M : zMM} {b a : Nat} (ha : a < 5) : cs_ M b (wd M a b) ≤ 4 := by
  have k : ∀ c, cn_ M b (wd M a b) c ≤ 1 := fun c => by unfold cn_; split <;> omega
  have e : cn_ M b (wd M a b) a = 0 := by unfold cn_; rw [if_neg (by omega)]
  have k0 := k 0
  have k1 := k 1
  have k2 := k 2
  have k3 := k 3
  have k4 := k 4
  unfold cs_
  have : a = 0 ∨ a = 1 ∨ a = 2 ∨ a = 3 ∨ a = 4 := by omega
  rcases this with z | z | z | z | z <;> rw [z] at e k0 k1 k2 k3 k4 ⊢ <;> omega
theorem pt_sucq {M : zMM} {b : Nat} : ∀ i a, pt_ M b (i + 1) a = pt_ M b i (nx_ M a b) := by
  intro i
  induction i with
  | zero => intro a; rfl
  | succ i ih => intro a; show nx_ M (pt_ M b (i + 1) a) b = nx_ M (pt_ M b i (nx_ M a b)) b; rw [ih]
/-- the way's length, and what stands along it -/
def wy (M : zMM) (a b n : Nat) : Prop := n ≤ 4 ∧ pt_ M b n a = b ∧ (∀ i, i ≤ n → pt_ M b i a < tw M) ∧ ∀ i, i < n → pt_ M b i a ≠ b ∧ wd M (pt_ M b i a) b < 1000
theorem e_wyq {k : Nat} {M : zMM} (hI : z_I k M) {b : Nat} (hb : b < tw M) : ∀ m a, a < tw M → wd M a b < 1000 → cs_ M b (wd M a b) ≤ m → m ≤ 4 → ∃ n, n ≤ m ∧ wy M a b n := by
  have h5 := tw_le hI.j_cnt
  intro m
  induction m with
  | zero =>
    intro a ha hw hc _
    by_cases hab : a = b
    · exact ⟨0, by omega, by omega, hab, fun i hi => by rw [show i = 0 by omega]; exact ha, fun i hi => absurd hi (by omega)⟩
    · obtain ⟨x1, x2, x3, x4, x5⟩ := e_nxq hI ha hb hab hw
      have := cs_lt (M := M) (b := b) (c := nx_ M a b) (x := wd M a b) (by omega) (by omega)
      omega
  | succ m ih =>
    intro a ha hw hc hm
    by_cases hab : a = b
    · exact ⟨0, by omega, by omega, hab, fun i hi => by rw [show i = 0 by omega]; exact ha, fun i hi => absurd hi (by omega)⟩
    · obtain ⟨x1, x2, x3, x4, x5⟩ := e_nxq hI ha hb hab hw
      have := cs_lt (M := M) (b := b) (c := nx_ M a b) (x := wd M a b) (by omega) (by omega)
      obtain ⟨n, hn, n1, n2, n3, n4⟩ := ih (nx_ M a b) x1 (by omega) (by omega) (by omega)
      refine ⟨n + 1, by omega, by omega, by rw [pt_sucq]; exact n2, fun i hi => ?_, fun i hi => ?_⟩
      · cases i with
        | zero => exact ha
        | succ i => rw [pt_sucq]; exact n3 i (by omega)
      · cases i with
        | zero => exact ⟨hab, hw⟩
        | succ i => rw [pt_sucq]; exact n4 i (by omega)
theorem e_wy {k : Nat} {M : zMM} (hI : z_I k M) {a b : Nat} (ha : a < tw M) (hb : b < tw M) (hw : wd M a b < 1000) : ∃ n, wy M a b n := by
  have h5 := tw_le hI.j_cnt
  obtain ⟨n, -, h⟩ := e_wyq hI hb 4 a ha hw (cs_le (by omega)) (by omega)
  exact ⟨n, h⟩
/-- the class lays it out -/
theorem e_lay {k0 : Nat} {M0 : zMM} (hI : z_I k0 M0) {a b n : Nat} (ha : a < tw M0) (hb : b < tw M0) (hw : wd M0 a b < 1000) (hy : wy M0 a b n) : ∃ M', f_X6_lay_80 (nI a) (nI b) M0 = some (nI n, M') ∧ ∀ i, i ≤ n → M' 82 i = nI (pt_ M0 b i a) := by
  have h5 := tw_le hI.j_cnt
  obtain ⟨y1, y2, y3, y4⟩ := hy
  obtain ⟨-, -, v1, v2⟩ := e_way hI ha hb
  have v3 : M0 81 (5 * a + b) = nI (wd M0 a b) := by
    rcases v2 with ⟨z, -⟩ | ⟨-, z⟩
    · omega
    · exact z
  have loop : ∀ r c, c + r = n → ∀ fu M, r < fu → z_fr ([], [82]) M0 M → (∀ i, i ≤ c → M 82 i = nI (pt_ M0 b i a)) → ∃ M', f_X6_lay_80_p26 fu (nI b) (nI (pt_ M0 b c a)) (nI c) M = some (nI n, M') ∧ ∀ i, i ≤ n → M' 82 i = nI (pt_ M0 b i a) := by
    intro r
    induction r with
    | zero =>
      intro c hc fu M hfu hf h82
      obtain ⟨fu, rfl⟩ : ∃ m, fu = m + 1 := ⟨fu - 1, by omega⟩
      have hcn : c = n := by omega
      rw [hcn] at h82 ⊢
      unfold f_X6_lay_80_p26
      rw [y2, if_pos rfl]
      exact ⟨M, rfl, h82⟩
    | succ r ih =>
      intro c hc fu M hfu hf h82
      obtain ⟨fu, rfl⟩ : ∃ m, fu = m + 1 := ⟨fu - 1, by omega⟩
      obtain ⟨g1, g2⟩ := y4 c (by omega)
      have g3 := y3 c (by omega)
      unfold f_X6_lay_80_p26
      have hI' : z_I k0 M := hI.sc (z_sub_sc hf (by decide))
      have e1 : ∀ x y, nx_ M x y = nx_ M0 x y := fun x y => by unfold nx_; rw [hf 127 _ rfl]
      have e2 : ∀ x y, wd M x y = wd M0 x y := fun x y => by unfold wd; rw [hf 126 _ rfl]
      have e3 : tw M = tw M0 := by unfold tw; rw [hf 109 0 rfl]
      rw [if_neg (fun q => g1 ((nI_eq (by omega) (by omega)).mp q)), if_neg (show ¬ (4 : Int32) ≤ nI c from nI_ge (b := 4) (by omega) (by decide)), e_nextStop hI' (by rw [e3]; exact g3) (by rw [e3]; exact hb) g1 (by rw [e2]; exact g2), z_bi_s, nI_1, z_pt_nI (by decide) (by omega), z_bv_s, e1]
      refine ih (c + 1) (by omega) fu _ (by omega) (hf.up rfl) (fun i hi => ?_)
      by_cases hic : i = c + 1
      · rw [hic, z_up_s]; rfl
      · rw [z_up_n hic]; exact h82 i (by omega)
  unfold f_X6_lay_80
  rw [e_span (by omega) (by omega), z_bi_s, v3, if_neg (nI_m1 (by omega)), show z_pt M0 82 5 (0 : Int32) (nI a) = z_up M0 82 0 (nI a) from z_pt_nI (n := 0) (by decide) (by decide), z_bv_s]
  refine loop n 0 (by omega) z_fuel _ (by unfold z_fuel; omega) (z_fr.refl.up rfl) (fun i hi => ?_)
  rw [show i = 0 by omega, z_up_s]; rfl
theorem e_lay0 {k0 : Nat} {M0 : zMM} (hI : z_I k0 M0) {a b : Nat} (ha : a < tw M0) (hb : b < tw M0) (hw : ¬ wd M0 a b < 1000) : f_X6_lay_80 (nI a) (nI b) M0 = some (-1, M0) := by
  obtain ⟨h1, h2, v1, v2⟩ := e_way hI ha hb
  have v3 : M0 81 (5 * a + b) = -1 := by
    rcases v2 with ⟨-, z⟩ | ⟨z, -⟩
    · exact z
    · exact absurd z hw
  unfold f_X6_lay_80
  rw [e_span h1 h2, z_bi_s, v3, if_pos rfl]
/-- the model counts, and walks -/
theorem e_clerks {k0 : Nat} {M : zMM} (hI : z_I k0 M) {a b n : Nat} (ha : a < tw M) (hb : b < tw M) (hy : wy M a b n) : f_X8_clerksOf_107 (nI a) (nI b) M = some (nI n, M) := by
  have h5 := tw_le hI.j_cnt
  obtain ⟨y1, y2, y3, y4⟩ := hy
  have loop : ∀ r c, c + r = n → ∀ fu, r < fu → f_X8_clerksOf_107_p5 fu (nI b) (nI c) (nI (pt_ M b c a)) M = some (nI n, M) := by
    intro r
    induction r with
    | zero =>
      intro c hc fu hfu
      obtain ⟨fu, rfl⟩ : ∃ m, fu = m + 1 := ⟨fu - 1, by omega⟩
      have hcn : c = n := by omega
      rw [hcn, y2]
      unfold f_X8_clerksOf_107_p5
      rw [if_pos rfl]
    | succ r ih =>
      intro c hc fu hfu
      obtain ⟨fu, rfl⟩ : ∃ m, fu = m + 1 := ⟨fu - 1, by omega⟩
      obtain ⟨g1, g2⟩ := y4 c (by omega)
      have g3 := y3 c (by omega)
      unfold f_X8_clerksOf_107_p5
      rw [if_neg (fun q => g1 ((nI_eq (by omega) (by omega)).mp q)), nI_15, if_pos (z_ib_n (by decide) (by omega)), nI_clamp (by omega), nI_1, (e_nxq hI g3 hb g1 g2).2.1]
      exact ih (c + 1) (by omega) fu (by omega)
  exact loop n 0 (by omega) z_fuel (by unfold z_fuel; omega)
theorem e_clerkAt {k0 : Nat} {M : zMM} (hI : z_I k0 M) {a b n i : Nat} (ha : a < tw M) (hb : b < tw M) (hy : wy M a b n) (hi : i ≤ n) : f_X8_clerkAt_107 (nI a) (nI b) (nI i) M = some (nI (pt_ M b i a), M) := by
  have h5 := tw_le hI.j_cnt
  obtain ⟨y1, y2, y3, y4⟩ := hy
  have loop : ∀ r c, c + r = i → ∀ fu, r < fu → f_X8_clerkAt_107_p6 fu (nI b) (nI i) (nI (pt_ M b c a)) (nI c) M = some (nI (pt_ M b i a), M) := by
    intro r
    induction r with
    | zero =>
      intro c hc fu hfu
      obtain ⟨fu, rfl⟩ : ∃ m, fu = m + 1 := ⟨fu - 1, by omega⟩
      have hcn : c = i := by omega
      rw [hcn]
      unfold f_X8_clerkAt_107_p6
      rw [if_pos (nI_le (Nat.le_refl _) (by omega))]
    | succ r ih =>
      intro c hc fu hfu
      obtain ⟨fu, rfl⟩ : ∃ m, fu = m + 1 := ⟨fu - 1, by omega⟩
      obtain ⟨g1, g2⟩ := y4 c (by omega)
      have g3 := y3 c (by omega)
      unfold f_X8_clerkAt_107_p6
      rw [if_neg (nI_ge (by omega) (by omega)), nI_15, if_pos (z_ib_n (by decide) (by omega)), nI_clamp (by omega), nI_1, (e_nxq hI g3 hb g1 g2).2.1]
      exact ih (c + 1) (by omega) fu (by omega)
  exact loop i 0 (by omega) z_fuel (by unfold z_fuel; omega)
/-- where a drunk one sends it: the first town but one -/
def spq (M : zMM) (a x : Nat) (r : Int32) : Prop := (r = -1 ∧ ∀ y, y < 5 → ¬ (y ≠ x ∧ 0 < tr M a y)) ∨ ∃ y, y < 5 ∧ r = nI y ∧ (y ≠ x ∧ 0 < tr M a y) ∧ ∀ z, z < y → ¬ (z ≠ x ∧ 0 < tr M a z)
theorem spq_inj {M : zMM} {a x : Nat} {r s : Int32} (h : spq M a x r) (g : spq M a x s) : r = s := by
  rcases h with ⟨h1, h2⟩ | ⟨y, h1, h2, h3, h4⟩ <;> rcases g with ⟨g1, g2⟩ | ⟨z, g1, g2, g3, g4⟩
  · rw [h1, g1]
  · exact absurd g3 (h2 z g1)
  · exact absurd h3 (g2 y h1)
  · have : y = z := by
      apply Nat.le_antisymm
      · exact Nat.not_lt.mp (fun q => h4 z q g3)
      · exact Nat.not_lt.mp (fun q => g4 y q h3)
    rw [h2, g2, this]
theorem e_else7 {k : Nat} {M : zMM} (hI : z_I k M) {a x : Nat} (ha : a < tw M) (hx : x < 5) : ∃ r, f_X6_elsewhere_80 (nI a) (nI x) M = some (r, M) ∧ spq M a x r := by
  have h5 := tw_le hI.j_cnt
  obtain ⟨N, -, hN, hNc, hN5⟩ := hI.j_cnt.2.2.2.2.2.1.nI
  have eN : tw M = N := hNc
  have loop : ∀ r y, y + r = N → ∀ fu, r < fu → (∀ z, z < y → ¬ (z ≠ x ∧ 0 < tr M a z)) → ∃ r, f_X6_elsewhere_80_p2 fu (nI a) (nI x) (nI y) M = some (r, M) ∧ spq M a x r := by
    intro r
    induction r with
    | zero =>
      intro y hy fu hfu hno
      obtain ⟨fu, rfl⟩ : ∃ m, fu = m + 1 := ⟨fu - 1, by omega⟩
      unfold f_X6_elsewhere_80_p2
      rw [hI.j_cnt.1, hN, if_pos (nI_le (by omega) (by omega))]
      refine ⟨-1, rfl, Or.inl ⟨rfl, fun z hz q => ?_⟩⟩
      by_cases hzy : z < y
      · exact hno z hzy q
      · rcases e_train hI (a := a) (b := z) (by omega) hz with ⟨-, -, w⟩ | ⟨-, -, -, -, -, w, -⟩
        · omega
        · omega
    | succ r ih =>
      intro y hy fu hfu hno
      obtain ⟨fu, rfl⟩ : ∃ m, fu = m + 1 := ⟨fu - 1, by omega⟩
      unfold f_X6_elsewhere_80_p2
      rw [hI.j_cnt.1, hN, if_neg (nI_ge (by omega) (by omega)), nI_1]
      have next : ¬ (y ≠ x ∧ 0 < tr M a y) → ∃ r, f_X6_elsewhere_80_p2 fu (nI a) (nI x) (nI (y + 1)) M = some (r, M) ∧ spq M a x r := by
        intro hn
        refine ih (y + 1) (by omega) fu (by omega) (fun z hz => ?_)
        by_cases hzy : z = y
        · rw [hzy]; exact hn
        · exact hno z (by omega)
      by_cases hyx : y = x
      · rw [if_pos (by rw [hyx])]
        exact next (fun q => q.1 hyx)
      · rw [if_neg (fun q => hyx ((nI_eq (by omega) (by omega)).mp q)), e_tD (by omega) (by omega), z_bi_s]
        rcases e_train hI (a := a) (b := y) (by omega) (by omega) with ⟨z, -, w⟩ | ⟨z, -, w, -⟩
        · rw [z, if_pos rfl]
          exact next (fun q => by omega)
        · rw [z, if_neg (nI_m1 (by
            rcases e_train hI (a := a) (b := y) (by omega) (by omega) with ⟨-, -, w⟩ | ⟨-, -, -, w, -⟩ <;> omega))]
          exact ⟨nI y, rfl, Or.inr ⟨y, by omega, rfl, ⟨hyx, by omega⟩, hno⟩⟩
  exact loop N 0 (by omega) z_fuel (by unfold z_fuel; omega) (fun z hz => absurd hz (by omega))
theorem e_else8 {k : Nat} {M : zMM} (hI : z_I k M) {a x : Nat} (ha : a < 5) (hx : x < 5) : ∃ r, f_X8_elsewhere_107 (nI a) (nI x) M = some (r, M) ∧ spq M a x r := by
  have loop : ∀ r y, y + r = 5 → ∀ fu, r < fu → (∀ z, z < y → ¬ (z ≠ x ∧ 0 < tr M a z)) → ∃ r, f_X8_elsewhere_107_p2 fu (nI a) (nI x) (nI y) M = some (r, M) ∧ spq M a x r := by
    intro r
    induction r with
    | zero =>
      intro y hy fu hfu hno
      obtain ⟨fu, rfl⟩ : ∃ m, fu = m + 1 := ⟨fu - 1, by omega⟩
      unfold f_X8_elsewhere_107_p2
      rw [if_pos (show (5 : Int32) ≤ nI y from nI_le (a := 5) (by omega) (by omega))]
      exact ⟨-1, rfl, Or.inl ⟨rfl, fun z hz => hno z (by omega)⟩⟩
    | succ r ih =>
      intro y hy fu hfu hno
      obtain ⟨fu, rfl⟩ : ∃ m, fu = m + 1 := ⟨fu - 1, by omega⟩
      unfold f_X8_elsewhere_107_p2
      rw [if_neg (show ¬ (5 : Int32) ≤ nI y from nI_ge (b := 5) (by omega) (by decide)), nI_1]
      have next : ¬ (y ≠ x ∧ 0 < tr M a y) → ∃ r, f_X8_elsewhere_107_p2 fu (nI a) (nI x) (nI (y + 1)) M = some (r, M) ∧ spq M a x r := by
        intro hn
        refine ih (y + 1) (by omega) fu (by omega) (fun z hz => ?_)
        by_cases hzy : z = y
        · rw [hzy]; exact hn
        · exact hno z (by omega)
      by_cases hyx : y = x
      · rw [if_pos (by rw [hyx])]
        exact next (fun q => q.1 hyx)
      · rw [if_neg (fun q => hyx ((nI_eq (by omega) (by omega)).mp q)), nI_15, if_pos (z_ib_n (by decide) (by omega)), nI_clamp (by omega)]
        rcases e_train hI (a := a) (b := y) (by omega) (by omega) with ⟨-, z, w⟩ | ⟨-, z, w, w2, -⟩
        · rw [z, if_pos (by decide)]
          exact next (fun q => by omega)
        · rw [z, if_neg (nI_nle (by omega) (by omega))]
          exact ⟨nI y, rfl, Or.inr ⟨y, by omega, rfl, ⟨hyx, by omega⟩, hno⟩⟩
  exact loop 5 0 (by omega) z_fuel (by unfold z_fuel; omega) (fun z hz => absurd hz (by omega))
theorem trfrq {M M' : zMM} (hf : z_fr w_sk M M') (a b : Nat) : tr M' a b = tr M a b := by
  unfold tr; rw [hf 114 _ rfl]
theorem spfrq {M M' : zMM} (hf : z_fr w_sk M M') {a x : Nat} {r : Int32} (h : spq M' a x r) : spq M a x r := by
  unfold spq at h ⊢
  simp only [trfrq hf] at h
  exact h
theorem ptfrq {M M' : zMM} (hf : z_fr w_sk M M') (b : Nat) : ∀ i a, pt_ M' b i a = pt_ M b i a := by
  intro i
  induction i with
  | zero => intro a; rfl
  | succ i ih =>
    intro a
    show nx_ M' (pt_ M' b i a) b = nx_ M (pt_ M b i a) b
    rw [ih]
    unfold nx_
    rw [hf 127 _ rfl]
theorem wyfrq {M M' : zMM} (hf : z_fr w_sk M M') {a b n : Nat} (h : wy M a b n) : wy M' a b n := by
  unfold wy at h ⊢
  simp only [ptfrq hf, wd_fr hf, (cntfrq hf).1]
  exact h
theorem B_clerk : z_op_clerk := by
  intro k M a1 a2 a3 hk hI
  have q := hI.j_cnt.1
  have bt := hI.j_cnt.2.2.2.2.2.1
  have h5 := tw_le hI.j_cnt
  have hfail : f_X7_clerk_51 a1 a2 a3 M = some (.inr 0, M) → f_X8_clerk_107 a1 a2 a3 M = some ((0 : Int32), z_up (z_up M 107 1 (0 : Int32)) 107 1 (1 : Int32)) → ∃ (o : Int32 ⊕ Nat) (M1 : zMM) (b : Int32) (M2 : zMM), f_X7_clerk_51 a1 a2 a3 M = some (o, M1) ∧ f_X8_clerk_107 a1 a2 a3 M1 = some (b, M2) ∧ z_ag o b (M2 107 1) (some 1) none ∧ z_I (k + 1) M2 :=
    fun h1 h3 => ⟨.inr 0, M, 0, _, h1, h3, ⟨1, rfl, rfl, by decide⟩, hI.code ((z_fr.refl.up rfl).up rfl)⟩
  have hM0 : a1 < 0 ∨ (¬ a1 < 0 ∧ ¬ a1 < M 109 0) → ∃ (o : Int32 ⊕ Nat) (M1 : zMM) (b : Int32) (M2 : zMM), f_X7_clerk_51 a1 a2 a3 M = some (o, M1) ∧ f_X8_clerk_107 a1 a2 a3 M1 = some (b, M2) ∧ z_ag o b (M2 107 1) (some 1) none ∧ z_I (k + 1) M2 := by
    intro h
    refine hfail ?_ ?_
    · unfold f_X7_clerk_51 f_X7_clerksOf_51; rw [e_pTown0 q h]; rfl
    · unfold f_X8_clerk_107; rw [e_mTown0 (M := z_up M 107 1 (0 : Int32)) bt h]; rfl
  rcases z_ix a1 bt with h | h | ⟨a, ha, rfl, h0, h1⟩
  · exact hM0 (Or.inl h)
  · exact hM0 (Or.inr h)
  have hM1 : a2 < 0 ∨ (¬ a2 < 0 ∧ ¬ a2 < M 109 0) → ∃ (o : Int32 ⊕ Nat) (M1 : zMM) (b : Int32) (M2 : zMM), f_X7_clerk_51 (nI a) a2 a3 M = some (o, M1) ∧ f_X8_clerk_107 (nI a) a2 a3 M1 = some (b, M2) ∧ z_ag o b (M2 107 1) (some 1) none ∧ z_I (k + 1) M2 := by
    intro h
    refine hfail ?_ ?_
    · unfold f_X7_clerk_51 f_X7_clerksOf_51; rw [e_pTown1 q h0 h1, z_bt_l, e_pTown0 q h]; rfl
    · unfold f_X8_clerk_107; rw [e_mTown1 (M := z_up M 107 1 (0 : Int32)) bt h0 h1, z_bi_s, if_neg (by decide), e_mTown0 (M := z_up M 107 1 (0 : Int32)) bt h]; rfl
  rcases z_ix a2 bt with h | h | ⟨b, hb, rfl, h2, h3⟩
  · exact hM1 (Or.inl h)
  · exact hM1 (Or.inr h)
  have ha' : a < tw M := ha
  have hb' : b < tw M := hb
  obtain ⟨a5, b5, w1, w2⟩ := e_way hI ha' hb'
  by_cases hw : wd M a b < 1000
  · obtain ⟨n, hy⟩ := e_wy hI ha' hb' hw
    obtain ⟨M1, l1, l2⟩ := e_lay hI ha' hb' hw hy
    have hf1 : z_fr w_sc M M1 := z_sub_sc (R_X6_lay_80 l1) (by decide)
    have hI1 := hI.sc hf1
    have hI2 : z_I k (z_up M1 107 1 (0 : Int32)) := hI1.sc w1_sc
    have hf2 : z_fr w_sk M (z_up M1 107 1 (0 : Int32)) := (sc_sk hf1).up rfl
    obtain ⟨c1, c2, c3, c4⟩ := cntfrq hf2
    have bt1 : z_bd (z_up M1 107 1 (0 : Int32) 109 0) 0 5 := hI2.j_cnt.2.2.2.2.2.1
    have g1 : nI a < z_up M1 107 1 (0 : Int32) 109 0 := by rw [hf2 109 0 rfl]; exact h1
    have g3 : nI b < z_up M1 107 1 (0 : Int32) 109 0 := by rw [hf2 109 0 rfl]; exact h3
    have eW := wd_fr hf2 a b
    have hC : f_X7_clerksOf_51 (nI a) (nI b) M = some (.inl (nI n), M1) := by
      unfold f_X7_clerksOf_51
      rw [e_pTown1 q h0 h1, z_bt_l, e_pTown1 q h2 h3, z_bt_l, l1, z_bi_s, if_neg (nI_m1 (by have := hy.1; omega))]
    have hM : ∀ r, (if a3 = (-1 : Int32) then some (nI n, z_up M1 107 1 (0 : Int32)) else (if a3 < 0 ∨ nI n - 1 < a3 then some ((0 : Int32), z_up (z_up M1 107 1 (0 : Int32)) 107 1 (1 : Int32)) else z_bi (f_X8_clerkAt_107 (nI a) (nI b) a3 (z_up M1 107 1 (0 : Int32))) fun v34 M35 => some (v34, M35))) = r → f_X8_clerk_107 (nI a) (nI b) a3 M1 = r := by
      intro r hr
      unfold f_X8_clerk_107
      rw [e_mTown1 bt1 h0 g1, z_bi_s, if_neg (by decide), e_mTown1 bt1 h2 g3, z_bi_s, if_neg (by decide), e_hasWay a5 b5 (by rw [eW, hf2 126 _ rfl]; exact w1) (by rw [eW]; omega), z_bi_s, eW, if_neg (show ¬ wd M a b = 1000000 by omega), if_neg (by decide), e_clerks hI2 (by rw [c1]; exact ha') (by rw [c1]; exact hb') (wyfrq hf2 hy), z_bi_s, ← hr]
      by_cases g : a3 = -1
      · rw [if_pos g, if_pos g]
      · rw [if_neg g, if_neg g, e_isIn]
        by_cases g' : a3 < 0
        · rw [if_pos g', if_pos (Or.inl g')]; rfl
        · by_cases g'' : nI n - 1 < a3
          · rw [if_neg g', if_pos g'', if_pos (Or.inr g'')]; rfl
          · rw [if_neg g', if_neg g'', if_neg (fun z => z.elim g' g'')]; rfl
    have n4 := hy.1
    by_cases g : a3 = -1
    · refine ⟨.inl (nI n), M1, nI n, z_up M1 107 1 (0 : Int32), ?_, hM _ (if_pos g), ⟨rfl, rfl⟩, hI2.up⟩
      unfold f_X7_clerk_51
      rw [hC, z_bt_l, if_pos g]
    · have hpred : (nI n - (1 : Int32) < a3) ↔ ¬ a3 < nI n := z_pred (hi := 4) ⟨by rw [nI_toInt (by omega)]; omega, by rw [nI_toInt (by omega)]; omega⟩ (by decide)
      by_cases g' : a3 < 0 ∨ ¬ a3 < nI n
      · refine ⟨.inr 0, M1, 0, z_up (z_up M1 107 1 (0 : Int32)) 107 1 (1 : Int32), ?_, hM _ ?_, ⟨1, rfl, rfl, by decide⟩, (hI2.sc w1_sc).up⟩
        · unfold f_X7_clerk_51
          rw [hC, z_bt_l, if_neg g]
          unfold f_X7_checkClerk
          by_cases z : a3 < 0
          · rw [if_pos z]; rfl
          · rw [if_neg z, if_neg (g'.resolve_left z)]; rfl
        · rw [if_neg g, if_pos (g'.imp id hpred.mpr)]
      · have z1 : ¬ a3 < 0 := fun z => g' (Or.inl z)
        have z2 : a3 < nI n := by
          apply Classical.byContradiction
          intro z; exact g' (Or.inr z)
        obtain ⟨i, hi, rfl⟩ := nI_of z1
        have hin : i < n := (nI_ltI hi (by omega)).mp z2
        refine ⟨.inl (nI (pt_ M b i a)), M1, nI (pt_ M b i a), z_up M1 107 1 (0 : Int32), ?_, hM _ ?_, ⟨rfl, rfl⟩, hI2.up⟩
        · unfold f_X7_clerk_51
          rw [hC, z_bt_l, if_neg g]
          unfold f_X7_checkClerk f_X6_stop_80
          rw [if_neg z1, if_pos z2, z_bt_l, z_bi_s, z_at_nI (by decide) (by omega), l2 i (by omega)]
        · rw [if_neg g, if_neg (fun z => g' (z.imp id hpred.mp)), e_clerkAt hI2 (by rw [c1]; exact ha') (by rw [c1]; exact hb') (wyfrq hf2 hy) (by omega), ptfrq hf2]
          rfl
  · have hw1 : wd M a b = 1000000 := by omega
    have l0 := e_lay0 hI ha' hb' hw
    refine hfail ?_ ?_
    · unfold f_X7_clerk_51 f_X7_clerksOf_51
      rw [e_pTown1 q h0 h1, z_bt_l, e_pTown1 q h2 h3, z_bt_l, l0, z_bi_s, if_pos rfl]
      rfl
    · unfold f_X8_clerk_107
      rw [e_mTown1 (M := z_up M 107 1 (0 : Int32)) bt h0 h1, z_bi_s, if_neg (by decide), e_mTown1 (M := z_up M 107 1 (0 : Int32)) bt h2 h3, z_bi_s, if_neg (by decide), e_hasWay (M := z_up M 107 1 (0 : Int32)) a5 b5 w1 (by show wd M a b ≤ _; omega), z_bi_s, if_pos (show wd (z_up M 107 1 (0 : Int32)) a b = 1000000 from hw1)]
      rfl
