/-! ===== a tour: all choices, the largest ones, the first of the least ===== -/
def sn_ (σ : Nat → Nat) (n : Nat) : Nat → Nat
  | 0 => 0
  | t + 1 => sn_ σ n t ||| (if (σ t).testBit n = true then 2 ^ t else 0)
theorem sn_bit {σ : Nat → Nat} {n : Nat} : ∀ t u, (sn_ σ n t).testBit u = decide (u < t ∧ (σ u).testBit n = true) := by
  intro t
  induction t with
  | zero =>
    intro u
    show (0 : Nat).testBit u = _
    rw [Nat.zero_testBit, decide_eq_false (by omega)]
  | succ t ih =>
    intro u
    show (sn_ σ n t ||| _).testBit u = _
    rw [Nat.testBit_or, ih u]
    by_cases hb : (σ t).testBit n = true
    · rw [if_pos hb, Nat.testBit_two_pow]
      by_cases hu : u = t
      · rw [hu, decide_eq_true (rfl : t = t), Bool.or_true, decide_eq_true (p := t < t + 1 ∧ _) ⟨by omega, hb⟩]
      · rw [decide_eq_false (p := t = u) (fun q => hu q.symm), Bool.or_false]
        exact decide_eq_decide.mpr ⟨fun z => ⟨by omega, z.2⟩, fun z => ⟨by omega, z.2⟩⟩
    · rw [if_neg hb, Nat.zero_testBit, Bool.or_false]
      refine decide_eq_decide.mpr ⟨fun z => ⟨by omega, z.2⟩, fun z => ⟨?_, z.2⟩⟩
      by_cases hu : u = t
      · rw [hu] at z; exact absurd z.2 hb
      · omega
theorem sn_lt {σ : Nat → Nat} {n t : Nat} : sn_ σ n t < 2 ^ t := Nat.lt_pow_two_of_testBit _ (fun i hi => by rw [sn_bit]; exact decide_eq_false (by omega))
theorem sn_cg {σ σ' : Nat → Nat} {n : Nat} : ∀ t, (∀ u, u < t → σ u = σ' u) → sn_ σ n t = sn_ σ' n t := by
  intro t
  induction t with
  | zero => intro _; rfl
  | succ t ih =>
    intro h
    show sn_ σ n t ||| _ = sn_ σ' n t ||| _
    rw [ih (fun u hu => h u (by omega)), h t (by omega)]
def upq (σ : Nat → Nat) (t s : Nat) : Nat → Nat := fun u => if u = t then s else σ u
def pcq (M : zMM) (n S x : Nat) : Prop := x ≤ 400 ∧ z_ls (zP M (so_ M) (nP M n) (nT M n) (tL M S)) (nI x)
def tq (M : zMM) (st : Nat → Nat) : Nat → Nat → Nat → Prop
  | 0, _, v => v = 0
  | k + 1, n, v => ∃ x w, pcq M n (st n) x ∧ v = x + w ∧ tq M st k (n + 1) w
theorem tq_bd {M : zMM} {st : Nat → Nat} : ∀ k n v, tq M st k n v → v ≤ 400 * k := by
  intro k
  induction k with
  | zero => intro n v h; rw [show v = 0 from h]; omega
  | succ k ih =>
    intro n v h
    obtain ⟨x, w, h1, h2, h3⟩ := h
    have := ih (n + 1) w h3
    have := h1.1
    omega
theorem tq_cg {M : zMM} {st st' : Nat → Nat} : ∀ k n v, (∀ m, n ≤ m → m < n + k → st m = st' m) → tq M st k n v → tq M st' k n v := by
  intro k
  induction k with
  | zero => intro n v _ h; exact h
  | succ k ih =>
    intro n v hs h
    obtain ⟨x, w, h1, h2, h3⟩ := h
    exact ⟨x, w, by rw [← hs n (by omega) (by omega)]; exact h1, h2, ih (n + 1) w (fun m a b => hs m (by omega) (by omega)) h3⟩
theorem zP_bd {k0 : Nat} {M : zMM} (hI : z_I k0 M) {p t : Nat} {so : Nat → Nat} {L : Nat → Bool} {v : Nat} (hp : p < tp M) (ht : t < tw M) (h : zP M so p t L v) : v ≤ 400 := by
  obtain ⟨-, -, -, -, q4, -⟩ := e_play hI hp
  obtain ⟨-, -, -, -, -, -, w6⟩ := e_town hI ht
  have := zR_bd (show (M 113 t).toNatClampNeg < 100 by omega) h
  have e : (M 120 p).toNatClampNeg = nm_ M p := rfl
  omega
theorem pc_of {k0 : Nat} {M : zMM} (hI : z_I k0 M) {n S : Nat} {x : Int32} (hn : n < ni M) (h : z_ls (zP M (so_ M) (nP M n) (nT M n) (tL M S)) x) : (x = -1 ∧ ∀ v, ¬ pcq M n S v) ∨ ∃ v, x = nI v ∧ v ≤ 400 ∧ pcq M n S v ∧ ∀ w, pcq M n S w → w = v := by
  obtain ⟨-, -, -, -, -, -, c7, -, -, c10⟩ := e_night hI hn
  rcases h with ⟨h1, h2⟩ | ⟨v, h1, h2, h3, h4⟩
  · refine Or.inl ⟨h1, fun v hv => ?_⟩
    rcases hv.2 with ⟨z, -⟩ | ⟨w, -, -, z, -⟩
    · exact nI_m1 (by have := hv.1; omega) z
    · exact h2 w z
  · have hb := zP_bd hI c10 c7 h3
    refine Or.inr ⟨v, h1, hb, ⟨hb, Or.inr ⟨v, rfl, h2, h3, h4⟩⟩, fun w hw => ?_⟩
    have := hw.2.inj (Or.inr ⟨v, rfl, h2, h3, h4⟩)
    exact (nI_eq (by have := hw.1; omega) (by omega)).mp this
theorem tL_mono {M : zMM} {S S' : Nat} (h : ∀ u, u < 5 → S.testBit u = true → S'.testBit u = true) (hh : ∀ g, g < (M 109 2).toNatClampNeg → (M 117 g).toNatClampNeg < 5) (g : Nat) (hg : tL M S g = true) : tL M S' g = true := by
  unfold tL at hg ⊢
  rw [Bool.and_eq_true, decide_eq_true_eq] at hg ⊢
  exact ⟨hg.1, h _ (hh g hg.1) hg.2⟩
theorem pc_mono {k0 : Nat} {M : zMM} (hI : z_I k0 M) {n S S' x : Nat} (hn : n < ni M) (h : ∀ u, u < 5 → S.testBit u = true → S'.testBit u = true) (hx : pcq M n S x) : ∃ x', x' ≤ x ∧ pcq M n S' x' := by
  obtain ⟨-, -, -, -, -, -, c7, -, -, c10⟩ := e_night hI hn
  have hk5 := tk_le hI.j_cnt
  have hm : ∀ v, zP M (so_ M) (nP M n) (nT M n) (tL M S) v → zP M (so_ M) (nP M n) (nT M n) (tL M S') v := fun v hv =>
    zR_mono (fun g _ hg => tL_mono h (fun g hg => by
      have := (hI.j_thing g hg).2.2.2.2
      omega) g hg) hv
  obtain ⟨y, hy⟩ := z_ls.ex (p := zP M (so_ M) (nP M n) (nT M n) (tL M S')) (fun v hv => by have := zP_bd hI c10 c7 hv; omega)
  rcases hx.2 with ⟨z, -⟩ | ⟨v, z1, z2, z3, z4⟩
  · exact absurd z (nI_m1 (by have := hx.1; omega))
  · have hvx : x = v := (nI_eq (by have := hx.1; omega) (by omega)).mp z1
    rcases pc_of hI hn hy with ⟨y1, y2⟩ | ⟨w, y1, y2, y3, y4⟩
    · rcases hy with ⟨-, q⟩ | ⟨u, q, qb, -⟩
      · exact absurd (hm v z3) (q v)
      · rw [q] at y1; exact absurd y1 (nI_m1 (by omega))
    · refine ⟨w, ?_, y3⟩
      rcases y3.2 with ⟨q, -⟩ | ⟨u, q1, q2, q3, q4⟩
      · exact absurd q (nI_m1 (by omega))
      · have : w = u := (nI_eq (by omega) (by omega)).mp q1
        have := q4 v (hm v z3)
        omega
theorem tq_mono {k0 : Nat} {M : zMM} (hI : z_I k0 M) {st st' : Nat → Nat} (h : ∀ n, n < ni M → ∀ u, u < 5 → (st n).testBit u = true → (st' n).testBit u = true) : ∀ k n v, n + k = ni M → tq M st k n v → ∃ v', v' ≤ v ∧ tq M st' k n v' := by
  intro k
  induction k with
  | zero => intro n v _ hv; exact ⟨v, Nat.le_refl _, hv⟩
  | succ k ih =>
    intro n v hn hv
    obtain ⟨x, w, h1, h2, h3⟩ := hv
    obtain ⟨x', g1, g2⟩ := pc_mono hI (show n < ni M by omega) (h n (by omega)) h1
    obtain ⟨w', g3, g4⟩ := ih (n + 1) w (by omega) h3
    exact ⟨x' + w', by omega, x', w', g2, rfl, g4⟩
def TS (M : zMM) (ok : Nat → Nat → Prop) : Nat → Nat → (Nat → Nat) → Nat → Prop
  | 0, t, σ, v => tq M (fun n => sn_ σ n t) (ni M) 0 v
  | k + 1, t, σ, v => ∃ s, s < 16 ∧ ok t s ∧ TS M ok k (t + 1) (upq σ t s) v
theorem TS_bd {M : zMM} {ok : Nat → Nat → Prop} : ∀ k t σ v, TS M ok k t σ v → v ≤ 400 * ni M := by
  intro k
  induction k with
  | zero => intro t σ v h; exact tq_bd _ _ _ h
  | succ k ih => intro t σ v h; obtain ⟨s, -, -, h⟩ := h; exact ih _ _ _ h
def subq (a b : Nat) : Prop := ∀ n, n < 4 → a.testBit n = true → b.testBit n = true
theorem TS_mono {k0 : Nat} {M : zMM} (hI : z_I k0 M) {ok ok' : Nat → Nat → Prop} {K : Nat} (hok : ∀ t s, t < K → s < 16 → ok t s → ∃ s', s' < 16 ∧ ok' t s' ∧ subq s s') : ∀ k t σ σ' v, t + k = K → (∀ u, u < t → subq (σ u) (σ' u)) → TS M ok k t σ v → ∃ v', v' ≤ v ∧ TS M ok' k t σ' v' := by
  have n1 := (e_ni hI).1
  intro k
  induction k with
  | zero =>
    intro t σ σ' v ht hs h
    refine tq_mono hI (fun n hn u hu hb => ?_) _ 0 v (by omega) h
    show (sn_ σ' n t).testBit u = true
    have hb' : (sn_ σ n t).testBit u = true := hb
    rw [sn_bit, decide_eq_true_eq] at hb' ⊢
    exact ⟨hb'.1, hs u hb'.1 n (by omega) hb'.2⟩
  | succ k ih =>
    intro t σ σ' v ht hs h
    obtain ⟨s, h1, h2, h3⟩ := h
    obtain ⟨s', g1, g2, g3⟩ := hok t s (by omega) h1 h2
    obtain ⟨v', g4, g5⟩ := ih (t + 1) (upq σ t s) (upq σ' t s') v (by omega) (fun u hu => by
      show subq (if u = t then s else σ u) (if u = t then s' else σ' u)
      by_cases hut : u = t
      · rw [if_pos hut, if_pos hut]; exact g3
      · rw [if_neg hut, if_neg hut]; exact hs u (by omega)) h3
    exact ⟨v', g4, s', g1, g2, g5⟩
theorem TS_imp {M : zMM} {ok ok' : Nat → Nat → Prop} {K : Nat} (h : ∀ t s, t < K → ok t s → ok' t s) : ∀ k t σ v, t + k = K → TS M ok k t σ v → TS M ok' k t σ v := by
  intro k
  induction k with
  | zero => intro t σ v _ hv; exact hv
  | succ k ih => intro t σ v ht hv; obtain ⟨s, h1, h2, h3⟩ := hv; exact ⟨s, h1, h t s (by omega) h2, ih _ _ _ (by omega) h3⟩
/-- the choices, all and the largest; w is left out -/
def okq (M : zMM) (w : Nat) : Nat → Nat → Prop := fun t s => if t = w then s = 0 else ftq M t s
def omq (M : zMM) (w : Nat) : Nat → Nat → Prop := fun t s => if t = w then s = 0 else ftq M t s ∧ ∀ n, n < 4 → s.testBit n = false → ¬ ftq M t (s + 2 ^ n)
theorem b4_sub : ∀ s : Nat, s < 16 → ∀ n : Nat, n < 4 → ∀ m : Nat, m < 4 → (s.testBit n = true ∨ s.testBit m = false ∨ (s + 2 ^ n).testBit m = true) := by decide +kernel
theorem om_ex {M : zMM} {w t : Nat} (htw : t ≠ w) : ∀ r s, s < 16 → 16 ≤ s + r → ftq M t s → ∃ s', s' < 16 ∧ omq M w t s' ∧ subq s s' := by
  intro r
  induction r with
  | zero => intro s h1 h2; omega
  | succ r ih =>
    intro s h1 h2 h3
    by_cases h : ∃ n, n < 4 ∧ s.testBit n = false ∧ ftq M t (s + 2 ^ n)
    · obtain ⟨n, n1, n2, n3⟩ := h
      obtain ⟨l1, l2⟩ := (b4_add s h1 n n1).resolve_left (by rw [n2]; decide)
      obtain ⟨s', g1, g2, g3⟩ := ih (s + 2 ^ n) l2 (by omega) n3
      refine ⟨s', g1, g2, fun m hm hb => g3 m hm ?_⟩
      rcases b4_sub s h1 n n1 m hm with z | z | z
      · rw [n2] at z; exact absurd z (by decide)
      · rw [hb] at z; exact absurd z (by decide)
      · exact z
    · refine ⟨s, h1, ?_, fun _ _ z => z⟩
      show (if t = w then s = 0 else _)
      rw [if_neg htw]
      exact ⟨h3, fun n n1 n2 n3 => h ⟨n, n1, n2, n3⟩⟩
theorem TS_ls {k0 : Nat} {M : zMM} (hI : z_I k0 M) {w K k t : Nat} {σ : Nat → Nat} {x : Int32} (ht : t + k = K) (h : z_ls (TS M (omq M w) k t σ) x) : z_ls (TS M (okq M w) k t σ) x := by
  have imp : ∀ v, TS M (omq M w) k t σ v → TS M (okq M w) k t σ v := fun v hv => TS_imp (K := K) (fun t s _ z => by
    show (if t = w then s = 0 else ftq M t s)
    have z' : (if t = w then s = 0 else ftq M t s ∧ ∀ n, n < 4 → s.testBit n = false → ¬ ftq M t (s + 2 ^ n)) := z
    by_cases htw : t = w
    · rw [if_pos htw] at z' ⊢; exact z'
    · rw [if_neg htw] at z' ⊢; exact z'.1) k t σ v ht hv
  have mono : ∀ v, TS M (okq M w) k t σ v → ∃ v', v' ≤ v ∧ TS M (omq M w) k t σ v' := fun v hv => TS_mono hI (K := K) (fun t s _ hs z => by
    have z' : (if t = w then s = 0 else ftq M t s) := z
    by_cases htw : t = w
    · rw [if_pos htw] at z'
      refine ⟨s, hs, ?_, fun _ _ q => q⟩
      show (if t = w then s = 0 else _)
      rw [if_pos htw]; exact z'
    · rw [if_neg htw] at z'
      exact om_ex htw 16 s hs (by omega) z') k t σ σ v ht (fun u _ _ _ q => q) hv
  rcases h with ⟨h1, h2⟩ | ⟨v, h1, h2, h3, h4⟩
  · refine Or.inl ⟨h1, fun v hv => ?_⟩
    obtain ⟨v', -, z⟩ := mono v hv
    exact h2 v' z
  · refine Or.inr ⟨v, h1, h2, imp v h3, fun u hu => ?_⟩
    obtain ⟨v', z1, z2⟩ := mono u hu
    have := h4 v' z2
    omega
def FT (M : zMM) (ok : Nat → Nat → Prop) : Nat → Nat → (Nat → Nat) → Nat → (Nat → Int32) → Prop
  | 0, _, _, _, _ => True
  | k + 1, t, σ, v, g => ∃ s, s < 16 ∧ ok t s ∧ TS M ok k (t + 1) (upq σ t s) v ∧ (∀ s', s' < s → ¬ (ok t s' ∧ TS M ok k (t + 1) (upq σ t s') v)) ∧ g t = nI s ∧ FT M ok k (t + 1) (upq σ t s) v g
theorem FT_cgq {M : zMM} {ok : Nat → Nat → Prop} : ∀ k t σ v g g', (∀ u, t ≤ u → u < t + k → g u = g' u) → FT M ok k t σ v g → FT M ok k t σ v g' := by
  intro k
  induction k with
  | zero => intro t σ v g g' _ _; trivial
  | succ k ih =>
    intro t σ v g g' hg h
    obtain ⟨s, h1, h2, h3, h4, h5, h6⟩ := h
    exact ⟨s, h1, h2, h3, h4, by rw [← hg t (by omega) (by omega)]; exact h5, ih _ _ _ _ _ (fun u a b => hg u (by omega) (by omega)) h6⟩
theorem FT_uniq {M : zMM} {ok : Nat → Nat → Prop} : ∀ k t σ v g g', FT M ok k t σ v g → FT M ok k t σ v g' → ∀ u, t ≤ u → u < t + k → g u = g' u := by
  intro k
  induction k with
  | zero => intro t σ v g g' _ _ u h1 h2; omega
  | succ k ih =>
    intro t σ v g g' h h' u h1 h2
    obtain ⟨s, a1, a2, a3, a4, a5, a6⟩ := h
    obtain ⟨s', b1, b2, b3, b4, b5, b6⟩ := h'
    have hss : s = s' := by
      apply Nat.le_antisymm
      · exact Nat.not_lt.mp (fun z => a4 s' z ⟨b2, b3⟩)
      · exact Nat.not_lt.mp (fun z => b4 s z ⟨a2, a3⟩)
    by_cases hu : u = t
    · rw [hu, a5, b5, hss]
    · rw [← hss] at b6
      exact ih _ _ _ _ _ a6 b6 u (by omega) (by omega)
/-! sets of nights by trunks, eight bits a night -/
def ABq (t : Nat) (σ : Nat → Nat) (x : Int32) : Prop := ∀ n, n < 4 → ∀ u, u < 5 → gb x (8 * n + u) = decide (u < t ∧ (σ u).testBit n = true)
theorem AB_0 {σ : Nat → Nat} : ABq 0 σ 0 := fun n hn u hu => by rw [gb_0, decide_eq_false (by omega)]
theorem spr_gb : ∀ s : Nat, s < 16 → ∀ t : Nat, t < 5 → ∀ n : Nat, n < 4 → ∀ u : Nat, u < 5 → gb ((z_spr.getD s 0) <<< (nI t &&& 31)) (8 * n + u) = (decide (u = t) && s.testBit n) := by decide +kernel
theorem AB_step {t s : Nat} {σ : Nat → Nat} {x : Int32} (h : ABq t σ x) (ht : t < 5) (hs : s < 16) : ABq (t + 1) (upq σ t s) (x ||| ((z_spr.getD s 0) <<< (nI t &&& 31))) := by
  intro n hn u hu
  rw [gb_or, h n hn u hu, spr_gb s hs t ht n hn u hu]
  show _ = decide (u < t + 1 ∧ (if u = t then s else σ u).testBit n = true)
  by_cases hut : u = t
  · rw [if_pos hut, decide_eq_false (p := u < t ∧ _) (by omega), decide_eq_true hut, Bool.false_or, Bool.true_and]
    by_cases hb : s.testBit n = true
    · rw [hb, decide_eq_true (p := u < t + 1 ∧ _) ⟨by omega, rfl⟩]
    · rw [decide_eq_false (p := u < t + 1 ∧ _) (fun z => hb z.2)]; simpa using hb
  · rw [if_neg hut, decide_eq_false hut, Bool.false_and, Bool.or_false]
    exact decide_eq_decide.mpr ⟨fun z => ⟨by omega, z.2⟩, fun z => ⟨by omega, z.2⟩⟩
theorem AB_skip {t : Nat} {σ : Nat → Nat} {x : Int32} (h : ABq t σ x) : ABq (t + 1) (upq σ t 0) x := by
  intro n hn u hu
  rw [h n hn u hu]
  refine decide_eq_decide.mpr ⟨fun z => ⟨by omega, ?_⟩, fun z => ?_⟩
  · show (if u = t then 0 else σ u).testBit n = true
    rw [if_neg (by omega)]; exact z.2
  · have z2 : (if u = t then 0 else σ u).testBit n = true := z.2
    by_cases hut : u = t
    · rw [if_pos hut, Nat.zero_testBit] at z2; exact absurd z2 (by decide)
    · rw [if_neg hut] at z2; exact ⟨by omega, z2⟩
theorem AB_idx {t n : Nat} {σ : Nat → Nat} {x : Int32} (h : ABq t σ x) (ht : t ≤ 5) (hn : n < 4) : (z_ush x (nI n * (8 : Int32))) &&& (31 : Int32) = nI (sn_ σ n t) := by
  rw [show nI n * (8 : Int32) = nI (n * 8) from nI_mul n 8]
  apply gb_ext
  intro u hu
  rw [gb_and, show (31 : Int32) = nI (2 ^ 5 - 1) from rfl, gb_n hu, Nat.testBit_two_pow_sub_one, gb_n hu, sn_bit]
  by_cases h5 : u < 5
  · rw [decide_eq_true h5, Bool.and_true, gb_ushq (by omega), Nat.mul_comm n 8, h n hn u h5]
  · rw [decide_eq_false h5, Bool.and_false, decide_eq_false (by omega)]
