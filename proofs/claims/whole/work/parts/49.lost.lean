/-! ===== lost ===== -/
/-- the chance by which one loses it -/
def slq (M : zMM) (h x : Nat) (c : Int32) : Prop := ∃ r, spq M h x r ∧ c = (if M 110 h = 3 then M 111 h else if M 110 h = 1 then (if r = -1 then 0 else M 111 h) else 0)
theorem slq_inj {M : zMM} {h x : Nat} {c d : Int32} (p : slq M h x c) (q : slq M h x d) : c = d := by
  obtain ⟨r, r1, r2⟩ := p
  obtain ⟨s, s1, s2⟩ := q
  rw [r2, s2, spq_inj r1 s1]
theorem slq_bd {k : Nat} {M : zMM} (hI : z_I k M) {h x : Nat} {c : Int32} (hh : h < tw M) (p : slq M h x c) : ∃ v : Nat, v ≤ 1000 ∧ c = nI v := by
  obtain ⟨r, r1, r2⟩ := p
  obtain ⟨t1, t2, t3, t4, -⟩ := hI.j_town h hh
  obtain ⟨v, hv, e1, e2, e3⟩ := t4.nI
  have z0 : ∃ v : Nat, v ≤ 1000 ∧ (0 : Int32) = nI v := ⟨0, by omega, rfl⟩
  have z1 : ∃ v : Nat, v ≤ 1000 ∧ M 111 h = nI v := ⟨v, by omega, e1⟩
  rw [r2]
  split
  · exact z1
  · split
    · split
      · exact z0
      · exact z1
    · exact z0
theorem e_loses {k : Nat} {M : zMM} (hI : z_I k M) {i h x : Nat} (hi : i < 4) (h1 : M 82 i = nI h) (h2 : M 82 (i + 1) = nI x) (hh : h < tw M) (hx : x < 5) : ∃ c, slq M h x c ∧ f_X6_loses_80 (nI i) M = some (c.toInt64, M) := by
  have h5 := tw_le hI.j_cnt
  obtain ⟨t1, t2, t3, t4, -⟩ := hI.j_town h hh
  obtain ⟨r, e1, e2⟩ := e_else7 hI (a := h) (x := x) hh hx
  refine ⟨_, ⟨r, e2, rfl⟩, ?_⟩
  unfold f_X6_loses_80 f_X6_stop_80 f_X6_loses_80_p44 f_X6_loses_80_p48 f_X6_loses_80_p49
  rw [z_at_nI (by decide) (by omega), h1, z_bi_s, z_at_nI (by decide) (by omega), t1, z_at_nI (by decide) (by omega), t3, nI_1, z_at_nI (by decide) (by omega), h2, z_bi_s, e1, z_bi_s]
  by_cases g3 : M 110 h = 3
  · rw [if_pos g3, if_pos g3, if_neg (by decide)]
  · rw [if_neg g3, if_neg g3]
    by_cases g1 : M 110 h = 1
    · rw [if_pos g1, if_pos g1]
      by_cases gr : r = -1
      · rw [if_pos gr, if_pos gr, if_pos rfl]; rfl
      · rw [if_neg gr, if_neg gr, if_neg (by decide), z_at_nI (by decide) (by omega), t3]
    · rw [if_neg g1, if_neg g1, if_pos rfl]; rfl
theorem e_slip {k : Nat} {M : zMM} (hI : z_I k M) {h b : Nat} (hh : h < tw M) (hb : b < 5) (hx : nx_ M h b < 5) (hn : M 127 (5 * h + b) = nI (nx_ M h b)) : ∃ c, slq M h (nx_ M h b) c ∧ f_X8_slipOf_107 (nI h) (nI b) M = some (c, M) := by
  have h5 := tw_le hI.j_cnt
  obtain ⟨r, e1, e2⟩ := e_else8 hI (a := h) (x := nx_ M h b) (by omega) hx
  have ib : z_ib (nI h) 10 = true := z_ib_n (by decide) (by omega)
  refine ⟨_, ⟨r, e2, rfl⟩, ?_⟩
  unfold f_X8_slipOf_107 f_X8_slipOf_107_p39 f_X8_slipOf_107_p43 f_X8_slipOf_107_p44
  rw [if_pos ib, if_pos ib, if_pos ib, nI_clamp (by omega), nI_15, if_pos (z_ib_n (by decide) (by omega)), nI_clamp (by omega), hn, e1, z_bi_s]
  by_cases g3 : M 110 h = 3
  · rw [if_pos g3, if_pos g3, if_neg (by decide)]
  · rw [if_neg g3, if_neg g3]
    by_cases g1 : M 110 h = 1
    · rw [if_pos g1, if_pos g1]
      by_cases gr : r = -1
      · rw [if_pos gr, if_pos gr, if_pos rfl]
      · rw [if_neg gr, if_neg gr, if_neg (by decide), if_pos ib]
    · rw [if_neg g1, if_neg g1, if_pos rfl]
/-! shares -/
def lbq (c : Nat → Int64) (i : Nat) : Nat → Int64
  | 0 => 1
  | m + 1 => lbq c i m * (if m < i then 1000 - c m else if m = i then c m else 1000)
def sfq (c : Nat → Int64) : Nat → Int64
  | 0 => 1
  | m + 1 => sfq c m * (1000 - c m)
def alq : Nat → Int64
  | 0 => 1
  | m + 1 => alq m * 1000
def sumq (c : Nat → Int64) (n : Nat) : Nat → Int64
  | 0 => 0
  | k + 1 => sumq c n k + lbq c k n
theorem lb_sf (c : Nat → Int64) (i : Nat) : ∀ m, m ≤ i → lbq c i m = sfq c m := by
  intro m
  induction m with
  | zero => intro _; rfl
  | succ m ih =>
    intro h
    show lbq c i m * _ = sfq c m * _
    rw [ih (by omega), if_pos (by omega)]
theorem sum_suc (c : Nat → Int64) (n : Nat) : ∀ k, k ≤ n → sumq c (n + 1) k = sumq c n k * 1000 := by
  intro k
  induction k with
  | zero => intro _; show (0 : Int64) = 0 * 1000; decide
  | succ k ih =>
    intro h
    show sumq c (n + 1) k + lbq c k n * _ = (sumq c n k + lbq c k n) * 1000
    rw [ih (by omega), if_neg (by omega), if_neg (by omega), Int64.add_mul]
theorem sum_all (c : Nat → Int64) : ∀ n, sumq c n n = alq n - sfq c n := by
  intro n
  induction n with
  | zero => show (0 : Int64) = 1 - 1; decide
  | succ n ih =>
    show sumq c (n + 1) n + lbq c n n * _ = alq n * 1000 - sfq c n * (1000 - c n)
    rw [sum_suc c n n (Nat.le_refl _), ih, lb_sf c n n (Nat.le_refl _), if_neg (by omega), if_pos rfl]
    grind
/-! the greatest common divisor: both walks are one -/
theorem cmp0q {y : Int64} : lg_cmp y 0 = 0 ↔ y = 0 := by
  unfold lg_cmp
  by_cases h : y > 0
  · rw [if_pos h]
    refine ⟨fun z => absurd z (by decide), fun z => ?_⟩
    rw [z] at h
    exact absurd h (by decide)
  · rw [if_neg h]
    by_cases g : y = 0
    · rw [if_pos g]; exact ⟨fun _ => g, fun _ => rfl⟩
    · rw [if_neg g]; exact ⟨fun z => absurd z (by decide), fun z => absurd z g⟩
def lI (n : Nat) : Int64 := Int64.ofNat n
theorem lI_toInt {n : Nat} (h : n < 2 ^ 63) : (lI n).toInt = (n : Int) := by
  unfold lI
  exact Int64.toInt_ofNat_of_lt h
theorem lI_mod {a b : Nat} (ha : a < 2 ^ 63) (hb : b < 2 ^ 63) (h0 : 0 < b) : lI a - lI a / lI b * lI b = lI (a % b) := by
  have hd : (lI a / lI b).toInt = ((a / b : Nat) : Int) := by
    rw [Int64.toInt_div, lI_toInt ha, lI_toInt hb, ← Int.ofNat_tdiv]
    have : a / b ≤ a := Nat.div_le_self a b
    generalize a / b = d at this ⊢
    exact Int.bmod_eq_of_le (by omega) (by omega)
  have hle : a / b * b ≤ a := Nat.div_mul_le_self a b
  have hm : (lI a / lI b * lI b).toInt = ((a / b * b : Nat) : Int) := by
    rw [Int64.toInt_mul, hd, lI_toInt hb, show ((a / b : Nat) : Int) * ((b : Nat) : Int) = ((a / b * b : Nat) : Int) from rfl]
    exact Int.bmod_eq_of_le (by omega) (by omega)
  have hmod : a % b = a - a / b * b := by
    have := Nat.div_add_mod a b
    rw [Nat.mul_comm] at this
    omega
  have hlt : a % b < b := Nat.mod_lt a h0
  apply Int64.toInt_inj.mp
  rw [Int64.toInt_sub, hm, lI_toInt ha, lI_toInt (by omega), Int.bmod_eq_of_le (by omega) (by omega)]
  omega
theorem lI_ne {b : Nat} (hb : b < 2 ^ 63) : (lI b = 0) ↔ b = 0 := by
  constructor
  · intro h
    have := congrArg Int64.toInt h
    rw [lI_toInt hb, show (0 : Int64).toInt = 0 from rfl] at this
    omega
  · intro h; rw [h]; rfl
theorem e_gcd {M M' : zMM} : ∀ e a b, a < 2 ^ 62 → b < 2 ^ e → e ≤ 45 → b ≤ a ∨ True → ∀ fu gu s, s + 2 * e ≤ 98 → 101 ≤ fu + s → 101 ≤ gu + s → ∃ g, f_X7_commonDivisor_p3 fu (lI a) (lI b) (nI s) M = some (lI g, M) ∧ f_X8_common_p6 gu (lI a) (lI b) M' = some (lI g, M') ∧ g < 2 ^ 62 ∧ (g = 0 → a = 0 ∧ b = 0) := by
  intro e
  induction e with
  | zero =>
    intro a b ha hb _ _ fu gu s hs hf hg
    obtain ⟨fu, rfl⟩ : ∃ m, fu = m + 1 := ⟨fu - 1, by omega⟩
    obtain ⟨gu, rfl⟩ : ∃ m, gu = m + 1 := ⟨gu - 1, by omega⟩
    have hb0 : b = 0 := by omega
    rw [hb0]
    unfold f_X7_commonDivisor_p3 f_X8_common_p6
    rw [if_neg (show ¬ (100 : Int32) ≤ nI s from nI_ge (b := 100) (by omega) (by decide)), if_pos (show lg_cmp (lI 0) 0 = 0 from cmp0q.mpr rfl), if_pos (show lg_cmp (lI 0) 0 = 0 from cmp0q.mpr rfl)]
    exact ⟨a, rfl, rfl, ha, fun z => ⟨z, rfl⟩⟩
  | succ e ih =>
    intro a b ha hb he _ fu gu s hs hf hg
    have h62 : 2 ^ (e + 1) ≤ 2 ^ 45 := Nat.pow_le_pow_right (by decide) he
    have h45 : (2 : Nat) ^ 45 < 2 ^ 62 := by decide
    have pe : 2 ^ (e + 1) = 2 * 2 ^ e := by rw [Nat.pow_succ, Nat.mul_comm]
    obtain ⟨fu, rfl⟩ : ∃ m, fu = m + 1 := ⟨fu - 1, by omega⟩
    obtain ⟨gu, rfl⟩ : ∃ m, gu = m + 1 := ⟨gu - 1, by omega⟩
    unfold f_X7_commonDivisor_p3 f_X8_common_p6
    rw [if_neg (show ¬ (100 : Int32) ≤ nI s from nI_ge (b := 100) (by omega) (by decide))]
    by_cases hb0 : b = 0
    · rw [hb0, if_pos (show lg_cmp (lI 0) 0 = 0 from cmp0q.mpr rfl), if_pos (show lg_cmp (lI 0) 0 = 0 from cmp0q.mpr rfl)]
      exact ⟨a, rfl, rfl, ha, fun z => ⟨z, rfl⟩⟩
    · have hbn : ¬ lI b = 0 := fun z => hb0 ((lI_ne (by omega)).mp z)
      rw [if_neg (fun z => hbn (cmp0q.mp z)), if_neg (fun z => hbn (cmp0q.mp z)), if_pos hbn, if_pos hbn, lI_mod (by omega) (by omega) (by omega), nI_1]
      have hr : a % b < b := Nat.mod_lt a (by omega)
      generalize a % b = r at hr
      obtain ⟨fu, rfl⟩ : ∃ m, fu = m + 1 := ⟨fu - 1, by omega⟩
      obtain ⟨gu, rfl⟩ : ∃ m, gu = m + 1 := ⟨gu - 1, by omega⟩
      unfold f_X7_commonDivisor_p3 f_X8_common_p6
      rw [if_neg (show ¬ (100 : Int32) ≤ nI (s + 1) from nI_ge (b := 100) (by omega) (by decide))]
      by_cases hr0 : r = 0
      · rw [hr0, if_pos (show lg_cmp (lI 0) 0 = 0 from cmp0q.mpr rfl), if_pos (show lg_cmp (lI 0) 0 = 0 from cmp0q.mpr rfl)]
        exact ⟨b, rfl, rfl, by omega, fun z => absurd z hb0⟩
      · have hrn : ¬ lI r = 0 := fun z => hr0 ((lI_ne (by omega)).mp z)
        rw [if_neg (fun z => hrn (cmp0q.mp z)), if_neg (fun z => hrn (cmp0q.mp z)), if_pos hrn, if_pos hrn, lI_mod (by omega) (by omega) (by omega), nI_1]
        have h1 : b % r < r := Nat.mod_lt b (by omega)
        have h2 : b % r < 2 ^ e := by
          have hq : b = r * (b / r) + b % r := (Nat.div_add_mod b r).symm
          have hq1 : 1 ≤ b / r := (Nat.one_le_div_iff (by omega)).mpr (by omega)
          have : r * 1 ≤ r * (b / r) := Nat.mul_le_mul_left r hq1
          omega
        obtain ⟨g, g1, g2, g3, g4⟩ := ih r (b % r) (by omega) h2 (by omega) (Or.inr trivial) fu gu (s + 1 + 1) (by omega) (by omega) (by omega)
        exact ⟨g, g1, g2, g3, fun z => absurd (g4 z).1 hr0⟩
/-! the shares as numbers -/
def lbn (v : Nat → Nat) (i : Nat) : Nat → Nat
  | 0 => 1
  | m + 1 => lbn v i m * (if m < i then 1000 - v m else if m = i then v m else 1000)
def sumn (v : Nat → Nat) (n : Nat) : Nat → Nat
  | 0 => 0
  | k + 1 => sumn v n k + lbn v k n
theorem lI_mul (a b : Nat) : lI a * lI b = lI (a * b) := (Int64.ofNat_mul a b).symm
theorem lI_add (a b : Nat) : lI a + lI b = lI (a + b) := (Int64.ofNat_add a b).symm
theorem lI_sub1 {v : Nat} (h : v ≤ 1000) : (1000 : Int64) - lI v = lI (1000 - v) := lN_sub (a := 1000) h
theorem lb_n {c : Nat → Int64} {v : Nat → Nat} {n : Nat} (hc : ∀ m, m < n → c m = lI (v m) ∧ v m ≤ 1000) (i : Nat) : ∀ m, m ≤ n → lbq c i m = lI (lbn v i m) ∧ lbn v i m ≤ 1000 ^ m := by
  intro m
  induction m with
  | zero => intro _; exact ⟨rfl, Nat.le_refl _⟩
  | succ m ih =>
    intro hm
    obtain ⟨e1, e2⟩ := ih (by omega)
    obtain ⟨c1, c2⟩ := hc m (by omega)
    have key : ∀ (x : Int64) (y : Nat), x = lI y → y ≤ 1000 → lbq c i m * x = lI (lbn v i m * y) ∧ lbn v i m * y ≤ 1000 ^ (m + 1) := by
      intro x y hx hy
      refine ⟨by rw [e1, hx, lI_mul], ?_⟩
      rw [Nat.pow_succ]
      exact Nat.mul_le_mul e2 hy
    show lbq c i m * _ = lI (lbn v i m * _) ∧ lbn v i m * _ ≤ _
    by_cases h1 : m < i
    · rw [if_pos h1, if_pos h1]
      exact key _ _ (by rw [c1, lI_sub1 c2]) (by omega)
    · rw [if_neg h1, if_neg h1]
      by_cases h2 : m = i
      · rw [if_pos h2, if_pos h2]; exact key _ _ c1 c2
      · rw [if_neg h2, if_neg h2]; exact key _ _ rfl (by omega)
theorem sum_n {c : Nat → Int64} {v : Nat → Nat} {n : Nat} (hc : ∀ m, m < n → c m = lI (v m) ∧ v m ≤ 1000) : ∀ k, sumq c n k = lI (sumn v n k) ∧ sumn v n k ≤ k * 1000 ^ n ∧ ∀ i, i < k → lbn v i n ≤ sumn v n k := by
  intro k
  induction k with
  | zero => exact ⟨rfl, by show 0 ≤ _; omega, fun i hi => absurd hi (by omega)⟩
  | succ k ih =>
    obtain ⟨e1, e2, e3⟩ := ih
    obtain ⟨b1, b2⟩ := lb_n hc k n (Nat.le_refl _)
    refine ⟨?_, ?_, fun i hi => ?_⟩
    · show sumq c n k + lbq c k n = lI (sumn v n k + lbn v k n)
      rw [e1, b1, lI_add]
    · show sumn v n k + lbn v k n ≤ (k + 1) * 1000 ^ n
      rw [Nat.succ_mul]; omega
    · show lbn v i n ≤ sumn v n k + lbn v k n
      by_cases h : i = k
      · rw [h]; omega
      · have := e3 i (by omega); omega
theorem e_share {M : zMM} {c : Nat → Int64} {n i : Nat} (hn : n ≤ 4) (hi : i < 5) (hc : ∀ m, m < n → f_X6_loses_80 (nI m) M = some (c m, M)) : f_X6_lostShare_80 (nI i) (nI n) M = some (lbq c i n, M) := by
  have loop : ∀ r m, m + r = n → ∀ fu, r < fu → f_X6_lostShare_80_p5 fu (nI i) (nI n) (lbq c i m) (nI m) M = some (lbq c i n, M) := by
    intro r
    induction r with
    | zero =>
      intro m hm fu hfu
      obtain ⟨fu, rfl⟩ : ∃ x, fu = x + 1 := ⟨fu - 1, by omega⟩
      rw [show m = n by omega]
      exact if_pos (nI_le (Nat.le_refl _) (by omega))
    | succ r ih =>
      intro m hm fu hfu
      obtain ⟨fu, rfl⟩ : ∃ x, fu = x + 1 := ⟨fu - 1, by omega⟩
      have next := ih (m + 1) (by omega) fu (by omega)
      have e : lbq c i (m + 1) = lbq c i m * (if m < i then 1000 - c m else if m = i then c m else 1000) := rfl
      rw [e] at next
      unfold f_X6_lostShare_80_p5
      rw [if_neg (nI_ge (by omega) (by omega)), nI_1, hc m (by omega), z_bi_s, z_bi_s]
      by_cases h1 : m < i
      · rw [if_neg (nI_ge (by omega) (by omega))]
        rw [if_pos h1] at next; exact next
      · rw [if_neg h1] at next
        rw [if_pos (nI_le (by omega) (by omega))]
        by_cases h2 : m = i
        · rw [if_pos h2] at next
          rw [if_pos (by rw [h2])]; exact next
        · rw [if_neg h2] at next
          rw [if_neg (fun z => h2 ((nI_eq (by omega) (by omega)).mp z))]; exact next
  exact loop n 0 (by omega) z_fuel (by unfold z_fuel; omega)
theorem e_whole {M : zMM} {c : Nat → Int64} {n : Nat} (hn : n ≤ 4) (hc : ∀ m, m < n → f_X6_loses_80 (nI m) M = some (c m, M)) : f_X6_lostWhole_80 (nI n) M = some (sumq c n n, M) := by
  have loop : ∀ r m, m + r = n → ∀ fu, r < fu → f_X6_lostWhole_80_p8 fu (nI n) (alq m) (sfq c m) (nI m) M = some (sumq c n n, M) := by
    intro r
    induction r with
    | zero =>
      intro m hm fu hfu
      obtain ⟨fu, rfl⟩ : ∃ x, fu = x + 1 := ⟨fu - 1, by omega⟩
      rw [show m = n by omega, sum_all]
      exact if_pos (nI_le (Nat.le_refl _) (by omega))
    | succ r ih =>
      intro m hm fu hfu
      obtain ⟨fu, rfl⟩ : ∃ x, fu = x + 1 := ⟨fu - 1, by omega⟩
      have next := ih (m + 1) (by omega) fu (by omega)
      unfold f_X6_lostWhole_80_p8
      rw [if_neg (nI_ge (by omega) (by omega)), nI_1, hc m (by omega), z_bi_s]
      exact next
  exact loop n 0 (by omega) z_fuel (by unfold z_fuel; omega)
theorem e_lostBy {M : zMM} {a b n i : Nat} {p : Nat → Nat} {v : Nat → Nat} (hn : n ≤ 4) (hi : i < 5) (hp : ∀ m, m < n → f_X8_clerkAt_107 (nI a) (nI b) (nI m) M = some (nI (p m), M)) (hc : ∀ m, m < n → f_X8_slipOf_107 (nI (p m)) (nI b) M = some (nI (v m), M) ∧ v m ≤ 1000) : f_X8_lostBy_107 (nI a) (nI b) (nI i) (nI n) M = some (lbq (fun m => lI (v m)) i n, M) := by
  have loop : ∀ r m, m + r = n → ∀ fu, r < fu → f_X8_lostBy_107_p6 fu (nI a) (nI b) (nI i) (nI n) (lbq (fun m => lI (v m)) i m) (nI m) M = some (lbq (fun m => lI (v m)) i n, M) := by
    intro r
    induction r with
    | zero =>
      intro m hm fu hfu
      obtain ⟨fu, rfl⟩ : ∃ x, fu = x + 1 := ⟨fu - 1, by omega⟩
      rw [show m = n by omega]
      exact if_pos (nI_le (Nat.le_refl _) (by omega))
    | succ r ih =>
      intro m hm fu hfu
      obtain ⟨fu, rfl⟩ : ∃ x, fu = x + 1 := ⟨fu - 1, by omega⟩
      have next := ih (m + 1) (by omega) fu (by omega)
      have e : lbq (fun m => lI (v m)) i (m + 1) = lbq (fun m => lI (v m)) i m * (if m < i then 1000 - lI (v m) else if m = i then lI (v m) else 1000) := rfl
      rw [e] at next
      obtain ⟨c1, c2⟩ := hc m (by omega)
      unfold f_X8_lostBy_107_p6
      rw [if_neg (nI_ge (by omega) (by omega)), nI_1, hp m (by omega), z_bi_s, c1, z_bi_s]
      have esub : (1000 : Int32) - nI (v m) = nI (1000 - v m) := by
        apply Int32.toInt_inj.mp
        rw [Int32.toInt_sub, nI_toInt (by omega), nI_toInt (by omega), show (1000 : Int32).toInt = 1000 from rfl, Int.bmod_eq_of_le (by omega) (by omega)]
        omega
      by_cases h1 : m < i
      · rw [if_neg (nI_ge (by omega) (by omega)), esub, nI_l (by omega)]
        rw [if_pos h1, lI_sub1 c2] at next; exact next
      · rw [if_neg h1] at next
        rw [if_pos (nI_le (by omega) (by omega))]
        by_cases h2 : m = i
        · rw [if_pos h2] at next
          rw [if_pos (by rw [h2]), nI_l (by omega)]; exact next
        · rw [if_neg h2] at next
          rw [if_neg (fun z => h2 ((nI_eq (by omega) (by omega)).mp z))]; exact next
  exact loop n 0 (by omega) z_fuel (by unfold z_fuel; omega)
theorem B_lost : z_op_lost := by
  intro k M a1 a2 a3 a4 hk hI
  have q := hI.j_cnt.1
  have bt := hI.j_cnt.2.2.2.2.2.1
  have h5 := tw_le hI.j_cnt
  have hfail : ∀ M1, z_fr w_sc M M1 → f_X7_lost_51 a1 a2 a3 a4 M = some (.inr 0, M1) → f_X8_lost_107 a1 a2 a3 a4 M1 = some ((0 : Int32).toInt64, z_up (z_up M1 107 1 (0 : Int32)) 107 1 (1 : Int32)) → ∃ (o : Int64 ⊕ Nat) (M1 : zMM) (b : Int64) (M2 : zMM), f_X7_lost_51 a1 a2 a3 a4 M = some (o, M1) ∧ f_X8_lost_107 a1 a2 a3 a4 M1 = some (b, M2) ∧ z_agL o b (M2 107 1) (some 1) none ∧ z_I (k + 1) M2 :=
    fun M1 hf h1 h3 => ⟨.inr 0, M1, _, _, h1, h3, ⟨1, rfl, rfl, by decide⟩, (((hI.sc hf).sc w1_sc).sc w1_sc).up⟩
  have hM0 : a1 < 0 ∨ (¬ a1 < 0 ∧ ¬ a1 < M 109 0) → ∃ (o : Int64 ⊕ Nat) (M1 : zMM) (b : Int64) (M2 : zMM), f_X7_lost_51 a1 a2 a3 a4 M = some (o, M1) ∧ f_X8_lost_107 a1 a2 a3 a4 M1 = some (b, M2) ∧ z_agL o b (M2 107 1) (some 1) none ∧ z_I (k + 1) M2 := by
    intro h
    refine hfail M z_fr.refl ?_ ?_
    · unfold f_X7_lost_51 f_X7_clerksOf_51; rw [e_pTown0 q h]; rfl
    · unfold f_X8_lost_107; rw [e_mTown0 (M := z_up M 107 1 (0 : Int32)) bt h]; rfl
  rcases z_ix a1 bt with h | h | ⟨a, ha, rfl, h0, h1⟩
  · exact hM0 (Or.inl h)
  · exact hM0 (Or.inr h)
  have hM1 : a2 < 0 ∨ (¬ a2 < 0 ∧ ¬ a2 < M 109 0) → ∃ (o : Int64 ⊕ Nat) (M1 : zMM) (b : Int64) (M2 : zMM), f_X7_lost_51 (nI a) a2 a3 a4 M = some (o, M1) ∧ f_X8_lost_107 (nI a) a2 a3 a4 M1 = some (b, M2) ∧ z_agL o b (M2 107 1) (some 1) none ∧ z_I (k + 1) M2 := by
    intro h
    refine hfail M z_fr.refl ?_ ?_
    · unfold f_X7_lost_51 f_X7_clerksOf_51; rw [e_pTown1 q h0 h1, z_bt_l, e_pTown0 q h]; rfl
    · unfold f_X8_lost_107; rw [e_mTown1 (M := z_up M 107 1 (0 : Int32)) bt h0 h1, z_bi_s, if_neg (by decide), e_mTown0 (M := z_up M 107 1 (0 : Int32)) bt h]; rfl
  rcases z_ix a2 bt with h | h | ⟨b, hb, rfl, h2, h3⟩
  · exact hM1 (Or.inl h)
  · exact hM1 (Or.inr h)
  have ha' : a < tw M := ha
  have hb' : b < tw M := hb
  obtain ⟨a5, b5, w1, w2⟩ := e_way hI ha' hb'
  -- the model's head
  have mh : ∀ M1, z_fr w_sc M M1 → ∀ r, (if a4 < 0 ∨ (1 : Int32) < a4 then some ((0 : Int32).toInt64, z_up (z_up M1 107 1 (0 : Int32)) 107 1 (1 : Int32)) else if wd M a b = 1000000 then some ((0 : Int32).toInt64, z_up (z_up M1 107 1 (0 : Int32)) 107 1 (1 : Int32)) else z_bi (f_X8_clerksOf_107 (nI a) (nI b) (z_up M1 107 1 (0 : Int32))) fun v31 M32 => z_bi (f_X8_isIn a3 (0 : Int32) (v31 - (1 : Int32)) M32) fun v34 M35 => if v34 = 0 then some ((0 : Int32).toInt64, z_up M35 107 1 (1 : Int32)) else z_bi (f_X8_clerksOf_107 (nI a) (nI b) M35) fun v41 M42 => f_X8_lost_107_p78 z_fuel (nI a) (nI b) a3 a4 v41 (0 : Int64) (0 : Int32) M42) = r → f_X8_lost_107 (nI a) (nI b) a3 a4 M1 = r := by
    intro M1 hf r hr
    have hf2 : z_fr w_sk M (z_up M1 107 1 (0 : Int32)) := (sc_sk hf).up rfl
    have hI2 : z_I k (z_up M1 107 1 (0 : Int32)) := (hI.sc hf).sc w1_sc
    have bt1 : z_bd (z_up M1 107 1 (0 : Int32) 109 0) 0 5 := hI2.j_cnt.2.2.2.2.2.1
    have g1 : nI a < z_up M1 107 1 (0 : Int32) 109 0 := by rw [hf2 109 0 rfl]; exact h1
    have g3 : nI b < z_up M1 107 1 (0 : Int32) 109 0 := by rw [hf2 109 0 rfl]; exact h3
    have eW := wd_fr hf2 a b
    unfold f_X8_lost_107
    rw [e_mTown1 bt1 h0 g1, z_bi_s, if_neg (by decide), e_mTown1 bt1 h2 g3, z_bi_s, if_neg (by decide), e_hasWay a5 b5 (by rw [eW, hf2 126 _ rfl]; exact w1) (by rw [eW]; omega), z_bi_s, eW, ← hr]
    by_cases g : a4 < 0
    · rw [if_pos g, if_pos (Or.inl g)]; rfl
    · rw [if_neg g]
      by_cases g' : (1 : Int32) < a4
      · rw [if_pos g', if_pos (Or.inr g')]; rfl
      · rw [if_neg g', if_neg (show ¬ (a4 < 0 ∨ (1 : Int32) < a4) from fun z => z.elim g g')]
        by_cases gw : wd M a b = 1000000
        · rw [if_pos gw, if_pos gw]; rfl
        · rw [if_neg gw, if_neg gw]; rfl
  have hpair : ¬ (a4 = 0 ∨ a4 = 1) → (a4 < 0 ∨ (1 : Int32) < a4) := by
    intro hz
    by_cases g : a4 < 0
    · exact Or.inl g
    · right
      apply Int32.not_le.mp
      intro g'
      exact hz (pair_mq.mpr ⟨g, g'⟩)
  by_cases hw : wd M a b < 1000
  · obtain ⟨n, hy⟩ := e_wy hI ha' hb' hw
    have n4 := hy.1
    obtain ⟨M1, l1, l2⟩ := e_lay hI ha' hb' hw hy
    have hf1 : z_fr w_sc M M1 := z_sub_sc (R_X6_lay_80 l1) (by decide)
    have hI1 := hI.sc hf1
    have hI2 : z_I k (z_up M1 107 1 (0 : Int32)) := hI1.sc w1_sc
    have hf2 : z_fr w_sk M (z_up M1 107 1 (0 : Int32)) := (sc_sk hf1).up rfl
    obtain ⟨c1, c2, c3, c4⟩ := cntfrq hf2
    have hy2 := wyfrq hf2 hy
    have hC : f_X7_clerksOf_51 (nI a) (nI b) M = some (.inl (nI n), M1) := by
      unfold f_X7_clerksOf_51
      rw [e_pTown1 q h0 h1, z_bt_l, e_pTown1 q h2 h3, z_bt_l, l1, z_bi_s, if_neg (nI_m1 (by omega))]
    have hK := e_clerks hI2 (by rw [c1]; exact ha') (by rw [c1]; exact hb') hy2
    have hpred : (nI n - (1 : Int32) < a3) ↔ ¬ a3 < nI n := z_pred (hi := 4) ⟨by rw [nI_toInt (by omega)]; omega, by rw [nI_toInt (by omega)]; omega⟩ (by decide)
    by_cases g' : a3 < 0 ∨ ¬ a3 < nI n
    · refine hfail M1 hf1 ?_ (mh M1 hf1 _ ?_)
      · unfold f_X7_lost_51
        rw [hC, z_bt_l]
        unfold f_X7_checkClerk
        by_cases z : a3 < 0
        · rw [if_pos z]; rfl
        · rw [if_neg z, if_neg (g'.resolve_left z)]; rfl
      · by_cases ga : a4 < 0 ∨ (1 : Int32) < a4
        · rw [if_pos ga]
        · rw [if_neg ga, if_neg (show ¬ wd M a b = 1000000 by omega), hK, z_bi_s, e_isIn]
          by_cases z : a3 < 0
          · rw [if_pos z]; rfl
          · rw [if_neg z, if_pos (hpred.mpr (g'.resolve_left z))]; rfl
    · have z1 : ¬ a3 < 0 := fun z => g' (Or.inl z)
      have z2 : a3 < nI n := by
        apply Classical.byContradiction
        intro z; exact g' (Or.inr z)
      obtain ⟨i, hi, rfl⟩ := nI_of z1
      have hin : i < n := (nI_ltI hi (by omega)).mp z2
      rcases e_pair (a := a4) (M := M1) with ⟨gp, ep⟩ | ⟨gp, ep⟩
      · -- the chances
        have cl : ∀ m, m < n → ∃ v : Nat, v ≤ 1000 ∧ f_X6_loses_80 (nI m) M1 = some (lI v, M1) ∧ f_X8_slipOf_107 (nI (pt_ M b m a)) (nI b) (z_up M1 107 1 (0 : Int32)) = some (nI v, z_up M1 107 1 (0 : Int32)) := by
          intro m hm
          obtain ⟨y1, y2, y3, y4⟩ := hy
          have p1 := y3 m (by omega)
          have p2 := y3 (m + 1) (by omega)
          obtain ⟨r1, r2⟩ := y4 m hm
          obtain ⟨x1, x2, -⟩ := e_nxq hI p1 hb' r1 r2
          obtain ⟨c, s1, s2⟩ := e_loses hI1 (i := m) (h := pt_ M b m a) (x := pt_ M b (m + 1) a) (by omega) (l2 m (by omega)) (l2 (m + 1) (by omega)) (by rw [← (cntfrq (sc_sk hf1)).1] at p1; exact p1) (by omega)
          have enx : nx_ (z_up M1 107 1 (0 : Int32)) (pt_ M b m a) b = nx_ M (pt_ M b m a) b := by unfold nx_; rw [hf2 127 _ rfl]
          obtain ⟨d, t1, t2⟩ := e_slip hI2 (h := pt_ M b m a) (b := b) (by rw [c1]; exact p1) b5 (by rw [enx]; omega) (by rw [enx, hf2 127 _ rfl]; exact x2)
          rw [enx] at t1
          have hs1 : slq M (pt_ M b m a) (pt_ M b (m + 1) a) c := by
            obtain ⟨r, u1, u2⟩ := s1
            exact ⟨r, spfrq (sc_sk hf1) u1, by rw [u2, hf1 110 _ rfl, hf1 111 _ rfl]⟩
          have ht1 : slq M (pt_ M b m a) (pt_ M b (m + 1) a) d := by
            obtain ⟨r, u1, u2⟩ := t1
            exact ⟨r, spfrq hf2 u1, by rw [u2, hf2 110 _ rfl, hf2 111 _ rfl]⟩
          obtain ⟨v, v1, v2⟩ := slq_bd hI p1 hs1
          refine ⟨v, v1, ?_, ?_⟩
          · rw [s2, v2, nI_l (by omega)]; rfl
          · rw [t2, ← slq_inj hs1 ht1, v2]
        obtain ⟨v, hv⟩ : ∃ v : Nat → Nat, ∀ m, m < n → v m ≤ 1000 ∧ f_X6_loses_80 (nI m) M1 = some (lI (v m), M1) ∧ f_X8_slipOf_107 (nI (pt_ M b m a)) (nI b) (z_up M1 107 1 (0 : Int32)) = some (nI (v m), z_up M1 107 1 (0 : Int32)) := by
          refine ⟨fun m => if h : m < n then (cl m h).choose else 0, fun m hm => ?_⟩
          have e : (fun m => if h : m < n then (cl m h).choose else 0) m = (cl m hm).choose := dif_pos hm
          rw [e]
          exact (cl m hm).choose_spec
        have hcv : ∀ m, m < n → (fun m => lI (v m)) m = lI (v m) ∧ v m ≤ 1000 := fun m hm => ⟨rfl, (hv m hm).1⟩
        have S1 := e_share (M := M1) (c := fun m => lI (v m)) n4 (show i < 5 by omega) (fun m hm => (hv m hm).2.1)
        have W1 := e_whole (M := M1) (c := fun m => lI (v m)) n4 (fun m hm => (hv m hm).2.1)
        have LB : ∀ i, i < 5 → f_X8_lostBy_107 (nI a) (nI b) (nI i) (nI n) (z_up M1 107 1 (0 : Int32)) = some (lbq (fun m => lI (v m)) i n, z_up M1 107 1 (0 : Int32)) := fun i hi => e_lostBy (p := fun m => pt_ M b m a) (v := v) n4 hi (fun m hm => by
          rw [e_clerkAt hI2 (by rw [c1]; exact ha') (by rw [c1]; exact hb') hy2 (by omega), ptfrq hf2]) (fun m hm => ⟨(hv m hm).2.2, (hv m hm).1⟩)
        obtain ⟨sb1, sb2, sb3⟩ := sum_n (c := fun m => lI (v m)) (v := v) hcv n
        obtain ⟨lb1, lb2⟩ := lb_n (c := fun m => lI (v m)) (v := v) hcv i n (Nat.le_refl _)
        have hp4 : 1000 ^ n ≤ 1000 ^ 4 := Nat.pow_le_pow_right (by decide) n4
        have e4 : (1000 : Nat) ^ 4 = 1000000000000 := by decide
        have hsb : sumn v n n ≤ 4 * 1000 ^ 4 := Nat.le_trans sb2 (Nat.mul_le_mul n4 hp4)
        have hle := sb3 i hin
        have p45 : (2 : Nat) ^ 45 = 35184372088832 := by decide
        have p62 : (2 : Nat) ^ 62 = 4611686018427387904 := by decide
        obtain ⟨g, g1, g2, g3, g4⟩ := e_gcd (M := M1) (M' := z_up M1 107 1 (0 : Int32)) 45 (sumn v n n) (lbn v i n) (by omega) (by omega) (by omega) (Or.inr trivial) z_fuel z_fuel 0 (by omega) (by unfold z_fuel; omega) (by unfold z_fuel; omega)
        have sumloop : ∀ r m, m + r = n → ∀ fu, r < fu → f_X8_lost_107_p78 fu (nI a) (nI b) (nI i) a4 (nI n) (sumq (fun m => lI (v m)) n m) (nI m) (z_up M1 107 1 (0 : Int32)) = (if lg_cmp (lI (sumn v n n)) (0 : Int64) = 0 then f_X8_lost_107_p135 a4 (lI (sumn v n n)) (lI (lbn v i n)) (1 : Int64) (z_up M1 107 1 (0 : Int32)) else f_X8_lost_107_p135 a4 (lI (sumn v n n)) (lI (lbn v i n)) (lI g) (z_up M1 107 1 (0 : Int32))) := by
          intro r
          induction r with
          | zero =>
            intro m hm fu hfu
            obtain ⟨fu, rfl⟩ : ∃ x, fu = x + 1 := ⟨fu - 1, by omega⟩
            rw [show m = n by omega]
            unfold f_X8_lost_107_p78
            rw [if_pos (nI_le (Nat.le_refl _) (by omega)), LB i (by omega), z_bi_s, sb1, lb1]
            unfold f_X8_common
            rw [g2, z_bi_s]
          | succ r ih =>
            intro m hm fu hfu
            obtain ⟨fu, rfl⟩ : ∃ x, fu = x + 1 := ⟨fu - 1, by omega⟩
            have next := ih (m + 1) (by omega) fu (by omega)
            unfold f_X8_lost_107_p78
            rw [if_neg (nI_ge (by omega) (by omega)), LB m (by omega), z_bi_s, nI_1]
            exact next
        have hMod : ∀ r, (if lg_cmp (lI (sumn v n n)) (0 : Int64) = 0 then f_X8_lost_107_p135 a4 (lI (sumn v n n)) (lI (lbn v i n)) (1 : Int64) (z_up M1 107 1 (0 : Int32)) else f_X8_lost_107_p135 a4 (lI (sumn v n n)) (lI (lbn v i n)) (lI g) (z_up M1 107 1 (0 : Int32))) = r → f_X8_lost_107 (nI a) (nI b) (nI i) a4 M1 = r := by
          intro r hr
          refine mh M1 hf1 r ?_
          have ga : ¬ (a4 < 0 ∨ (1 : Int32) < a4) := by
            obtain ⟨x1, x2⟩ := pair_mq.mp gp
            exact fun z => z.elim x1 (fun y => Int32.not_lt.mpr x2 y)
          rw [if_neg ga, if_neg (show ¬ wd M a b = 1000000 by omega), hK, z_bi_s, e_isIn, if_neg z1, if_neg (fun z => hpred.mp z z2), z_bi_s, if_neg (by decide), hK, z_bi_s, ← hr]
          exact sumloop n 0 (by omega) z_fuel (by unfold z_fuel; omega)
        have hCls : ∀ r, (if lg_cmp (lI g) (0 : Int64) = 0 then (if a4 = 0 then some (.inl (0 : Int64), M1) else some (.inl (1 : Int64), M1)) else if a4 = 0 then (if ¬ lI g = 0 then some (.inl (lI (lbn v i n) / lI g), M1) else none) else if ¬ lI g = 0 then some (.inl (lI (sumn v n n) / lI g), M1) else none) = r → f_X7_lost_51 (nI a) (nI b) (nI i) a4 M = r := by
          intro r hr
          unfold f_X7_lost_51
          rw [hC, z_bt_l]
          unfold f_X7_checkClerk
          rw [if_neg z1, if_pos z2, z_bt_l, ep, z_bt_l, S1, z_bi_s, W1, z_bi_s, sb1, lb1]
          unfold f_X7_commonDivisor
          rw [show f_X7_commonDivisor_p3 z_fuel (lI (sumn v n n)) (lI (lbn v i n)) (0 : Int32) M1 = _ from g1, z_bi_s]
          exact hr
        have fin : ∀ x : Int64, f_X7_lost_51 (nI a) (nI b) (nI i) a4 M = some (.inl x, M1) → f_X8_lost_107 (nI a) (nI b) (nI i) a4 M1 = some (x, z_up M1 107 1 (0 : Int32)) → ∃ (o : Int64 ⊕ Nat) (M1 : zMM) (b' : Int64) (M2 : zMM), f_X7_lost_51 (nI a) (nI b) (nI i) a4 M = some (o, M1) ∧ f_X8_lost_107 (nI a) (nI b) (nI i) a4 M1 = some (b', M2) ∧ z_agL o b' (M2 107 1) (some 1) none ∧ z_I (k + 1) M2 :=
          fun x e1 e2 => ⟨.inl x, M1, x, _, e1, e2, ⟨rfl, rfl⟩, hI2.up⟩
        by_cases hs0 : sumn v n n = 0
        · have hb0 : lbn v i n = 0 := by omega
          have hg0 : g = 0 := by
            have := g1
            rw [hs0, hb0] at this
            have e0 : f_X7_commonDivisor_p3 z_fuel (lI 0) (lI 0) (nI 0) M1 = some (lI 0, M1) := rfl
            rw [e0] at this
            injection this with this
            injection this with this _
            have := congrArg Int64.toInt this
            rw [lI_toInt (by omega), lI_toInt (by omega)] at this
            omega
          have cg : lg_cmp (lI g) (0 : Int64) = 0 := by rw [hg0]; exact cmp0q.mpr rfl
          have cs : lg_cmp (lI (sumn v n n)) (0 : Int64) = 0 := by rw [hs0]; exact cmp0q.mpr rfl
          by_cases h40 : a4 = 0
          · refine fin 0 (hCls _ (by rw [if_pos cg, if_pos h40])) (hMod _ ?_)
            rw [if_pos cs]
            unfold f_X8_lost_107_p135
            rw [if_pos h40, if_pos (by decide), hb0]
            rfl
          · refine fin 1 (hCls _ (by rw [if_pos cg, if_neg h40])) (hMod _ ?_)
            rw [if_pos cs]
            unfold f_X8_lost_107_p135
            rw [if_neg h40, if_pos cs]
        · have hgn : ¬ lI g = 0 := fun z => hs0 (g4 ((lI_ne (by omega)).mp z)).1
          have cg : ¬ lg_cmp (lI g) (0 : Int64) = 0 := fun z => hgn (cmp0q.mp z)
          have cs : ¬ lg_cmp (lI (sumn v n n)) (0 : Int64) = 0 := fun z => hs0 ((lI_ne (by omega)).mp (cmp0q.mp z))
          by_cases h40 : a4 = 0
          · refine fin (lI (lbn v i n) / lI g) (hCls _ (by rw [if_neg cg, if_pos h40, if_pos hgn])) (hMod _ ?_)
            rw [if_neg cs]
            unfold f_X8_lost_107_p135
            rw [if_pos h40, if_pos hgn]
          · refine fin (lI (sumn v n n) / lI g) (hCls _ (by rw [if_neg cg, if_neg h40, if_pos hgn])) (hMod _ ?_)
            rw [if_neg cs]
            unfold f_X8_lost_107_p135
            rw [if_neg h40, if_neg cs, if_pos hgn]
      · refine hfail M1 hf1 ?_ (mh M1 hf1 _ (if_pos (hpair gp)))
        unfold f_X7_lost_51
        rw [hC, z_bt_l]
        unfold f_X7_checkClerk
        rw [if_neg z1, if_pos z2, z_bt_l, ep, z_bt_r]
  · have l0 := e_lay0 hI ha' hb' hw
    refine hfail M z_fr.refl ?_ (mh M z_fr.refl _ ?_)
    · unfold f_X7_lost_51 f_X7_clerksOf_51
      rw [e_pTown1 q h0 h1, z_bt_l, e_pTown1 q h2 h3, z_bt_l, l0, z_bi_s, if_pos rfl]
      rfl
    · by_cases ga : a4 < 0 ∨ (1 : Int32) < a4
      · rw [if_pos ga]
      · rw [if_neg ga, if_pos (show wd M a b = 1000000 by omega)]
