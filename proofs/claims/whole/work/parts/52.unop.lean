/-! ===== unopened ===== -/
def w_su : zWs := ([(107, 1), (107, 38), (116, 10)], [85, 86, 128, 129])
theorem su116 {M M' : zMM} (hf : z_fr w_su M M') {i : Nat} (hi : i ≠ 10) : M' 116 i = M 116 i := by
  apply hf
  show (!(([85, 86, 128, 129] : List Nat).contains 116) && !(([(107, 1), (107, 38), (116, 10)] : List (Nat × Nat)).contains (116, i))) = true
  simp [hi]
theorem z_Isuq {k : Nat} {M M' : zMM} (hI : z_I k M) (hf : z_fr w_su M M') : z_I k M' := by
  have h10 := tg_le hI.j_cnt
  have etg : tg M' = tg M := by unfold tg; rw [hf 109 2 rfl]
  have jt : j_thing M' := by
    intro i hi
    rw [etg] at hi
    rw [su116 hf (show i ≠ 10 by omega), hf 60 i rfl, hf 61 i rfl, hf 117 i rfl, show tk M' = tk M by unfold tk; rw [hf 109 1 rfl]]
    exact hI.j_thing i hi
  have jk : j_known M' := by
    intro p hp t ht s hs
    rw [show tp M' = tp M by unfold tp; rw [hf 109 3 rfl]] at hp
    rw [show tw M' = tw M by unfold tw; rw [hf 109 0 rfl]] at ht
    rw [hf 84 _ rfl]
    rcases hI.j_known p hp t ht s hs with h | h
    · exact Or.inl h
    · refine Or.inr (h.congr (fun v => ?_))
      have eL : tL M' s = tL M s := by
        unfold tL
        funext g
        rw [hf 109 2 rfl, hf 117 g rfl]
      have eq1 : ∀ u j, u < 10 → zq M' (so_ M') p u j = zq M (so_ M) p u j := by
        intro u j hu
        show sm_ M' (so_ M' u) (nd_ M' p j) = sm_ M (so_ M u) (nd_ M p j)
        have e1 : nd_ M' p j = nd_ M p j := by unfold nd_; rw [hf 119 _ rfl]
        have e2 : so_ M' u = so_ M u := by unfold so_; rw [su116 hf (by omega)]
        rw [e1, e2]
        unfold sm_
        rw [hf 121 _ rfl]
      unfold zP
      rw [eL, hf 113 t rfl, hf 120 p rfl, hf 112 t rfl]
      constructor
      · exact zR_cg (fun u _ => rfl) (fun u j _ hL _ _ => (eq1 u j (by have := tL_lt hL; omega)).symm)
      · exact zR_cg (fun u _ => rfl) (fun u j _ hL _ _ => eq1 u j (by have := tL_lt hL; omega))
  exact ⟨(hI.j_tape.fr (by decide) hf), (hI.j_fault.fr (by decide) hf), (hI.j_cnt.fr (by decide) hf), (hI.j_town.fr (by decide) hf), (hI.j_train.fr (by decide) hf), jt, (hI.j_play.fr (by decide) hf), (hI.j_like.fr (by decide) hf), (hI.j_day.fr (by decide) hf), (hI.j_seed.fr (by decide) hf), (hI.j_place.fr (by decide) hf), (hI.j_night.fr (by decide) hf), (hI.j_stat.fr (by decide) hf), (hI.j_plan.fr (by decide) hf), (hI.j_st1.fr (by decide) hf), (hI.j_st2.fr (by decide) hf), (hI.j_img.fr (by decide) hf), (hI.j_past.fr (by decide) hf), (hI.j_ways.fr (by decide) hf), jk⟩
def so1q (M : zMM) (e : Nat) : Nat → Nat := fun u => if u = 10 then e else so_ M u
def L1q (M : zMM) (s : Nat) : Nat → Bool := fun u => if u = 10 then true else tL M s u
/-- a price with one thing more, or 1000 -/
def PWq (M : zMM) (p t s e : Nat) (x : Int32) : Prop := ∃ z, z_ls (zP M (so1q M e) p t (L1q M s)) z ∧ x = (if z = -1 then 1000 else z)
def PW0q (M : zMM) (p t s : Nat) (x : Int32) : Prop := ∃ z, z_ls (zP M (so_ M) p t (tL M s)) z ∧ x = (if z = -1 then 1000 else z)
theorem PWinj {M : zMM} {p t s e : Nat} {x y : Int32} (h : PWq M p t s e x) (g : PWq M p t s e y) : x = y := by
  obtain ⟨a, a1, a2⟩ := h
  obtain ⟨b, b1, b2⟩ := g
  rw [a2, b2, a1.inj b1]
theorem PW0inj {M : zMM} {p t s : Nat} {x y : Int32} (h : PW0q M p t s x) (g : PW0q M p t s y) : x = y := by
  obtain ⟨a, a1, a2⟩ := h
  obtain ⟨b, b1, b2⟩ := g
  rw [a2, b2, a1.inj b1]
theorem e_orT {M : zMM} {z : Int32} : f_X7_orThousand z M = some (if z = -1 then 1000 else z, M) := by
  unfold f_X7_orThousand
  by_cases h : z = -1
  · rw [if_pos h, if_pos h]
  · rw [if_neg h, if_neg h]
theorem nI_divq {a b : Nat} (ha : a < 2 ^ 31) (hb : b < 2 ^ 31) : nI a / nI b = nI (a / b) := by
  have h1 : a / b ≤ a := Nat.div_le_self a b
  apply Int32.toInt_inj.mp
  rw [Int32.toInt_div, nI_toInt ha, nI_toInt hb, nI_toInt (by omega), ← Int.ofNat_tdiv]
  generalize a / b = d at h1
  exact Int.bmod_eq_of_le (by omega) (by omega)
theorem nI_modq {n : Nat} (h : n < 2 ^ 31) : nI n - nI n / (100 : Int32) * (100 : Int32) = nI (n % 100) := by
  rw [show nI n / (100 : Int32) = nI (n / 100) from nI_divq (b := 100) h (by decide), show nI (n / 100) * (100 : Int32) = nI (n / 100 * 100) from nI_mul _ 100, nI_subq (by omega) h, show n - n / 100 * 100 = n % 100 by omega]
/-- the class: with one thing more -/
theorem e_cw {k : Nat} {M0 M : zMM} (hI0 : z_I k M0) (hf : z_fr ([], [85, 86]) M0 M) {p t s e : Nat} {y : Int32} (hp : p < tp M0) (ht : t < tw M0) (he : e < 20) (hy : ∀ u, u < 32 → gb y u = tL M0 s u) : ∃ x M', (z_bi (f_X2_byThings_83 (nI p) (nI t) y (nI e) M) fun v3 M4 => f_X7_orThousand v3 M4) = some (x, M') ∧ PWq M0 p t s e x ∧ z_fr ([], [85, 86]) M0 M' := by
  have hI : z_I k M := hI0.sc (z_sub_sc hf (by decide))
  obtain ⟨c1, c2, c3, c4⟩ := cntfrq (z_sub_sk hf (by decide))
  have h10 := tg_le hI0.j_cnt
  obtain ⟨t5, w1, w2, w3, w4, w5, w6⟩ := e_town hI0 ht
  have fnm : nm_ M p = nm_ M0 p := by unfold nm_; rw [hf 120 p rfl]
  obtain ⟨z, M', a1, a2⟩ := e_least hI (p := p) (t := t) (i := 0) (l := (M0 112 t).toNatClampNeg) (y := y) (more := nI e) (L := L1q M0 s) (so := so1q M0 e) (by rw [c4]; exact hp) (by rw [c1]; exact ht) (by omega) (by omega) (fun u hu => by
    rw [hy u (by omega)]
    exact (if_neg (show ¬ u = 10 by omega)).symm) (fun u h1 h2 => by
    show (if u = 10 then true else tL M0 s u) = false
    rw [if_neg (by omega)]
    cases hLu : tL M0 s u with
    | false => rfl
    | true => have := tL_lt hLu; omega) (fun u hu => by
    show (if u = 10 then e else so_ M0 u) = so_ M u
    rw [if_neg (by omega)]
    unfold so_
    rw [hf 116 u rfl]) (Or.inr ⟨rfl, by show (if 10 = 10 then e else _) < 20; rw [if_pos rfl]; exact he, by rw [show so1q M0 e 10 = e from if_pos rfl]⟩)
  rw [zqfrq hf, hf 113 t rfl, fnm, Nat.sub_zero] at a2
  have hf2 : z_fr ([], [85, 86]) M0 M' := hf.sub (R_X2_leastPrice_83 a1) (by decide)
  refine ⟨_, M', ?_, ⟨z, a2, rfl⟩, hf2⟩
  unfold f_X2_byThings_83
  rw [z_at_nI (by decide) t5, hf 56 t rfl, w1, show f_X2_leastPrice_83 (nI p) (nI t) (0 : Int32) y (nI e) (nI (M0 112 t).toNatClampNeg) M = _ from a1, z_bi_s, z_bi_s, e_orT]
theorem e_c0 {k : Nat} {M0 M : zMM} (hI0 : z_I k M0) (hf : z_fr ([], [85, 86]) M0 M) {p t s : Nat} {y : Int32} (hp : p < tp M0) (ht : t < tw M0) (hy : ∀ u, u < 32 → gb y u = tL M0 s u) : ∃ z M', f_X2_byThings_83 (nI p) (nI t) y (-1) M = some (z, M') ∧ PW0q M0 p t s (if z = -1 then 1000 else z) ∧ z_fr ([], [85, 86]) M0 M' := by
  have hI : z_I k M := hI0.sc (z_sub_sc hf (by decide))
  obtain ⟨c1, c2, c3, c4⟩ := cntfrq (z_sub_sk hf (by decide))
  have h10 := tg_le hI0.j_cnt
  obtain ⟨t5, w1, w2, w3, w4, w5, w6⟩ := e_town hI0 ht
  have fnm : nm_ M p = nm_ M0 p := by unfold nm_; rw [hf 120 p rfl]
  have hLf : ∀ u, tg M0 ≤ u → tL M0 s u = false := by
    intro u hu
    cases hLu : tL M0 s u with
    | false => rfl
    | true => have := tL_lt hLu; omega
  obtain ⟨z, M', a1, a2⟩ := e_least hI (p := p) (t := t) (i := 0) (l := (M0 112 t).toNatClampNeg) (y := y) (more := -1) (L := tL M0 s) (so := so_ M0) (by rw [c4]; exact hp) (by rw [c1]; exact ht) (by omega) (by omega) (fun u hu => hy u (by omega)) (fun u h1 h2 => hLf u (by omega)) (fun u hu => by unfold so_; rw [hf 116 u rfl]) (Or.inl ⟨rfl, hLf 10 (by omega)⟩)
  rw [zqfrq hf, hf 113 t rfl, fnm, Nat.sub_zero] at a2
  have hf2 : z_fr ([], [85, 86]) M0 M' := hf.sub (R_X2_leastPrice_83 a1) (by decide)
  refine ⟨z, M', ?_, ⟨z, a2, rfl⟩, hf2⟩
  unfold f_X2_byThings_83
  rw [z_at_nI (by decide) t5, hf 56 t rfl, w1, show f_X2_leastPrice_83 (nI p) (nI t) (0 : Int32) y (-1 : Int32) (nI (M0 112 t).toNatClampNeg) M = _ from a1, z_bi_s]
/-- the model: with one thing more, or without -/
theorem e_mw {k : Nat} {M0 M : zMM} (hI0 : z_I k M0) (hf : z_fr w_su M0 M) {p t s : Nat} {y : Int32} (hp : p < tp M0) (ht : t < tw M0) (hs : f_X8_trunksAt_107 (nI t) M0 = some (nI s, M0)) (hy : ∀ u, u < 32 → gb y u = tL M0 s u) : f_X8_trunksAt_107 (nI t) M = some (nI s, M) ∧ f_X8_thingsOf_107 (nI s) M = some (y, M) := by
  have hI : z_I k M := z_Isuq hI0 hf
  have h5 := tw_le hI0.j_cnt
  have eL : tL M s = tL M0 s := by
    unfold tL
    funext g
    rw [hf 109 2 rfl, hf 117 g rfl]
  constructor
  · obtain ⟨N, -, hN, hNc, hN5⟩ := hI0.j_cnt.2.2.2.2.2.2.1.nI
    obtain ⟨z, hz, hc⟩ := e_tr8 (M := M0) (a := nI t) (N := N) hN (by omega) N 0 (by omega) z_fuel 0 (by unfold z_fuel; omega)
    obtain ⟨z', hz', hc'⟩ := e_tr8 (M := M) (a := nI t) (N := N) ((hf 109 1 rfl).trans hN) (by omega) N 0 (by omega) z_fuel 0 (by unfold z_fuel; omega)
    have f1 : ∀ u, M 124 u = M0 124 u := fun u => hf 124 u rfl
    have f2 : ∀ u, M 125 u = M0 125 u := fun u => hf 125 u rfl
    have f3 : M 107 29 = M0 107 29 := hf 107 29 rfl
    simp only [f1, f2, f3] at hc'
    have hzz : z' = z := gb_ext (fun u hu => by rw [hc u hu, hc' u hu])
    have hs' : z = nI s := by
      have : f_X8_trunksAt_107 (nI t) M0 = some (z, M0) := hz
      rw [hs] at this
      injection this with this
      injection this with this _
      exact this.symm
    rw [hzz, hs'] at hz'
    exact hz'
  · obtain ⟨y', -, y2, y3⟩ := e_things hI hI z_fr.refl s
    have : y' = y := gb_ext (fun u hu => by rw [y3 u hu, hy u hu, eL])
    rw [this] at y2
    exact y2
theorem zq_suq {M0 M : zMM} (hf : z_fr w_su M0 M) (so : Nat → Nat) (p : Nat) : zq M so p = zq M0 so p := by
  funext t j
  show sm_ M (so t) (nd_ M p j) = sm_ M0 (so t) (nd_ M0 p j)
  have e : nd_ M p j = nd_ M0 p j := by unfold nd_; rw [hf 119 _ rfl]
  rw [e]
  unfold sm_
  rw [hf 121 _ rfl]
theorem e_mw1 {k : Nat} {M0 M : zMM} (hI0 : z_I k M0) (hf : z_fr w_su M0 M) {p t s e : Nat} {y : Int32} (hp : p < tp M0) (ht : t < tw M0) (he : e < 20) (hs : f_X8_trunksAt_107 (nI t) M0 = some (nI s, M0)) (hy : ∀ u, u < 32 → gb y u = tL M0 s u) : ∃ x M', f_X8_priceWith_107 (nI p) (nI t) (nI e) M = some (x, M') ∧ PWq M0 p t s e x ∧ z_fr w_su M0 M' ∧ M' 107 1 = M 107 1 := by
  obtain ⟨s1, s2⟩ := e_mw hI0 hf hp ht hs hy
  have h10 := tg_le hI0.j_cnt
  have hf1 : z_fr w_su M0 (z_up M 116 10 (nI e)) := hf.up rfl
  have hI1 : z_I k (z_up M 116 10 (nI e)) := z_Isuq hI0 hf1
  have fnm : nm_ (z_up M 116 10 (nI e)) p = nm_ M0 p := by unfold nm_; rw [hf1 120 p rfl]
  obtain ⟨z, M', a1, a2, -⟩ := e_priceOf hI1 (p := p) (t := t) (so := so1q M0 e) (y := y ||| (1024 : Int32)) (L := L1q M0 s) (by unfold tp; rw [hf1 109 3 rfl]; exact hp) (by unfold tw; rw [hf1 109 0 rfl]; exact ht) (fun u hu => by
    rw [gb_or, hy u (by omega), show (1024 : Int32) = nI 1024 from rfl, gb_n (by omega), show (1024 : Nat) = 2 ^ 10 from rfl, Nat.testBit_two_pow]
    show _ = if u = 10 then true else tL M0 s u
    by_cases h : u = 10
    · rw [if_pos h, decide_eq_true h.symm, Bool.or_true]
    · rw [if_neg h, decide_eq_false (fun q => h q.symm), Bool.or_false]) (fun u hu hL => by
    by_cases h : u = 10
    · rw [h, z_up_s, show so1q M0 e 10 = e from if_pos rfl]
      exact ⟨rfl, he⟩
    · have hL' : tL M0 s u = true := by
        have : (if u = 10 then true else tL M0 s u) = true := hL
        rw [if_neg h] at this; exact this
      obtain ⟨-, -, g3, g4⟩ := e_thing hI0 (tL_lt hL')
      rw [su116 hf1 h, g3, show so1q M0 e u = so_ M0 u from if_neg h]
      exact ⟨rfl, g4⟩)
  have ez : zP (z_up M 116 10 (nI e)) (so1q M0 e) p t (L1q M0 s) = zP M0 (so1q M0 e) p t (L1q M0 s) := by
    unfold zP
    rw [zq_suq hf1, hf1 113 t rfl, hf1 120 p rfl, hf1 112 t rfl]
  rw [ez] at a2
  refine ⟨if z = -1 then 1000 else z, M', ?_, ⟨z, a2, rfl⟩, hf1.sub (R_X8_priceOf_107 a1) (by decide), R_X8_priceOf_107 a1 107 1 rfl⟩
  unfold f_X8_priceWith_107 f_X8_priceWith_107_p32
  rw [s1, z_bi_s, s2, z_bi_s, if_neg (nI_m1 (by omega)), a1, z_bi_s]
  by_cases h : z = -1
  · rw [if_pos h, if_pos h]
  · rw [if_neg h, if_neg h]
theorem e_mw0 {k : Nat} {M0 M : zMM} (hI0 : z_I k M0) (hf : z_fr w_su M0 M) {p t s : Nat} {y : Int32} (hp : p < tp M0) (ht : t < tw M0) (hs : f_X8_trunksAt_107 (nI t) M0 = some (nI s, M0)) (hy : ∀ u, u < 32 → gb y u = tL M0 s u) : ∃ x M', f_X8_priceWith_107 (nI p) (nI t) (-1) M = some (x, M') ∧ PW0q M0 p t s x ∧ z_fr w_su M0 M' ∧ M' 107 1 = M 107 1 := by
  obtain ⟨s1, s2⟩ := e_mw hI0 hf hp ht hs hy
  have h10 := tg_le hI0.j_cnt
  have hI1 : z_I k M := z_Isuq hI0 hf
  obtain ⟨z, M', a1, a2, -⟩ := e_priceOf hI1 (p := p) (t := t) (so := so_ M0) (y := y) (L := tL M0 s) (by unfold tp; rw [hf 109 3 rfl]; exact hp) (by unfold tw; rw [hf 109 0 rfl]; exact ht) (fun u hu => hy u (by omega)) (fun u hu hL => by
    have hu' := tL_lt hL
    obtain ⟨-, -, g3, g4⟩ := e_thing hI0 hu'
    rw [su116 hf (by omega), g3]
    exact ⟨rfl, g4⟩)
  have ez : zP M (so_ M0) p t (tL M0 s) = zP M0 (so_ M0) p t (tL M0 s) := by
    unfold zP
    rw [zq_suq hf, hf 113 t rfl, hf 120 p rfl, hf 112 t rfl]
  rw [ez] at a2
  refine ⟨if z = -1 then 1000 else z, M', ?_, ⟨z, a2, rfl⟩, hf.sub (R_X8_priceOf_107 a1) (by decide), R_X8_priceOf_107 a1 107 1 rfl⟩
  unfold f_X8_priceWith_107 f_X8_priceWith_107_p32
  rw [s1, z_bi_s, s2, z_bi_s, if_pos rfl, a1, z_bi_s]
  by_cases h : z = -1
  · rw [if_pos h, if_pos h]
  · rw [if_neg h, if_neg h]
/-- a guess: none, or a sort and its weight -/
theorem gs_cases (a : Int32) : a = -1 ∨ (∃ n, n < 2000 ∧ a = nI n) ∨ (a < -1 ∨ (1999 : Int32) < a) := by
  by_cases h : a = -1
  · exact Or.inl h
  · right
    by_cases h0 : a < 0
    · right; left
      rw [Int32.lt_iff_toInt_lt] at h0 ⊢
      have e0 : (0 : Int32).toInt = 0 := rfl
      have e1 : (-1 : Int32).toInt = -1 := rfl
      have : a.toInt ≠ -1 := fun q => h (Int32.toInt_inj.mp (q.trans e1.symm))
      omega
    · obtain ⟨n, hn, rfl⟩ := nI_of h0
      by_cases h2 : n < 2000
      · exact Or.inl ⟨n, h2, rfl⟩
      · right; right
        exact nI_lt (a := 1999) (by omega) hn
/-- weight, and weight by price, of a guess -/
def gwq (a : Int32) (w : Nat) : Prop := (a = -1 ∧ w = 0) ∨ ∃ n, n < 2000 ∧ a = nI n ∧ w = n % 100
def gvq (M : zMM) (p t s : Nat) (a v : Int32) : Prop := (a = -1 ∧ v = 0) ∨ ∃ n x, n < 2000 ∧ a = nI n ∧ PWq M p t s (n / 100) x ∧ v = nI (n % 100) * x
theorem gv_inj {M : zMM} {p t s : Nat} {a v w : Int32} (h : gvq M p t s a v) (g : gvq M p t s a w) : v = w := by
  rcases h with ⟨h1, h2⟩ | ⟨n, x, h1, h2, h3, h4⟩ <;> rcases g with ⟨g1, g2⟩ | ⟨m, y, g1, g2, g3, g4⟩
  · rw [h2, g2]
  · exact absurd (g2.symm.trans h1) (nI_m1 (by omega))
  · exact absurd (h2.symm.trans g1) (nI_m1 (by omega))
  · have e : n = m := (nI_eq (by omega) (by omega)).mp (h2.symm.trans g2)
    rw [← e] at g3 g4
    rw [h4, g4, PWinj h3 g3]
theorem e_wt {M : zMM} {a : Int32} : (∃ w, gwq a w ∧ f_X7_weightOf a M = some (.inl (nI w), M)) ∨ ((a < -1 ∨ (1999 : Int32) < a) ∧ f_X7_weightOf a M = some (.inr 1, M)) := by
  unfold f_X7_weightOf
  rcases gs_cases a with h | ⟨n, hn, h⟩ | h
  · left
    refine ⟨0, Or.inl ⟨h, rfl⟩, ?_⟩
    rw [h]; rfl
  · left
    refine ⟨n % 100, Or.inr ⟨n, hn, h, rfl⟩, ?_⟩
    rw [h, if_neg (show ¬ nI n < -1 by
      rw [Int32.lt_iff_toInt_lt, nI_toInt (by omega)]
      have e1 : (-1 : Int32).toInt = -1 := rfl
      omega), if_pos (show nI n < (2000 : Int32) from nI_lt (b := 2000) hn (by decide)), if_neg (nI_m1 (by omega)), nI_modq (by omega)]
  · right
    refine ⟨h, ?_⟩
    rcases h with h | h
    · rw [if_pos h]
    · by_cases h0 : a < -1
      · rw [if_pos h0]
      · rw [if_neg h0, if_neg (fun q => by
          rw [Int32.lt_iff_toInt_lt] at q h
          have e1 : (1999 : Int32).toInt = 1999 := rfl
          have e2 : (2000 : Int32).toInt = 2000 := rfl
          omega)]
theorem e_wd {k : Nat} {M0 M : zMM} (hI0 : z_I k M0) (hf : z_fr ([], [85, 86]) M0 M) {p t s w : Nat} {y a : Int32} (hp : p < tp M0) (ht : t < tw M0) (hy : ∀ u, u < 32 → gb y u = tL M0 s u) (hw : gwq a w) : ∃ v M', f_X7_weighed_51 (nI p) (nI t) y a M = some (v, M') ∧ gvq M0 p t s a v ∧ z_fr ([], [85, 86]) M0 M' := by
  rcases hw with ⟨h, -⟩ | ⟨n, hn, h, -⟩
  · refine ⟨0, M, ?_, Or.inl ⟨h, rfl⟩, hf⟩
    unfold f_X7_weighed_51
    rw [if_pos h]
  · obtain ⟨x, M', a1, a2, a3⟩ := e_cw hI0 hf (e := n / 100) hp ht (by omega) hy
    refine ⟨nI (n % 100) * x, M', ?_, Or.inr ⟨n, x, hn, h, a2, rfl⟩, a3⟩
    unfold f_X7_weighed_51
    rw [h, if_neg (nI_m1 (by omega)), show nI n / (100 : Int32) = nI (n / 100) from nI_divq (b := 100) (by omega) (by decide), show nI n - nI (n / 100) * (100 : Int32) = nI (n % 100) by
      rw [show nI (n / 100) * (100 : Int32) = nI (n / 100 * 100) from nI_mul _ 100, nI_subq (by omega) (by omega), show n - n / 100 * 100 = n % 100 by omega]]
    obtain ⟨z, Mz, b1, b2⟩ := z_bi_c a1
    rw [b1, z_bi_s, b2, z_bi_s]
theorem e_p64 {k : Nat} {M0 M : zMM} (hI0 : z_I k M0) (hf : z_fr w_su M0 M) {p t s w : Nat} {y a x3 x4 x5 x6 x7 x8 : Int32} {K : Int32 → Int32 → Int32 → Int32 → Int32 → Int32 → Int32 → Int32 → zMM → Option (Int32 × zMM)} (hp : p < tp M0) (ht : t < tw M0) (hs : f_X8_trunksAt_107 (nI t) M0 = some (nI s, M0)) (hy : ∀ u, u < 32 → gb y u = tL M0 s u) (hw : gwq a w) : ∃ v M', f_X8_unopened_107_p64 K (nI p) (nI t) x3 x4 x5 x6 x7 x8 a M = K (nI p) (nI t) x3 x4 x5 (x6 + nI w) (x7 + v) (x8 + 1) M' ∧ gvq M0 p t s a v ∧ z_fr w_su M0 M' ∧ M' 107 1 = M 107 1 := by
  unfold f_X8_unopened_107_p64
  rcases hw with ⟨h, h'⟩ | ⟨n, hn, h, h'⟩
  · refine ⟨0, M, ?_, Or.inl ⟨h, rfl⟩, hf, rfl⟩
    have e : f_X8_isIn a (-1 : Int32) (1999 : Int32) M = some ((1 : Int32), M) := by rw [h]; rfl
    rw [e, z_bi_s, if_neg (by decide), if_pos h, h', show nI 0 = (0 : Int32) from rfl, Int32.add_zero, Int32.add_zero]
  · obtain ⟨x, M', a1, a2, a3, a4⟩ := e_mw1 hI0 hf (e := n / 100) hp ht (by omega) hs hy
    refine ⟨nI (n % 100) * x, M', ?_, Or.inr ⟨n, x, hn, h, a2, rfl⟩, a3, a4⟩
    have e : f_X8_isIn (nI n) (-1 : Int32) (1999 : Int32) M = some ((1 : Int32), M) := by
      unfold f_X8_isIn
      rw [if_neg (show ¬ nI n < -1 by
        rw [Int32.lt_iff_toInt_lt, nI_toInt (by omega)]
        have e1 : (-1 : Int32).toInt = -1 := rfl
        omega), if_neg (show ¬ (1999 : Int32) < nI n from nI_nlt (a := 1999) (by omega) (by decide))]
    rw [h, e, z_bi_s, if_neg (by decide), if_neg (nI_m1 (by omega)), show nI n / (100 : Int32) = nI (n / 100) from nI_divq (b := 100) (by omega) (by decide), a1, z_bi_s, show nI n - nI (n / 100) * (100 : Int32) = nI (n % 100) by
      rw [show nI (n / 100) * (100 : Int32) = nI (n / 100 * 100) from nI_mul _ 100, nI_subq (by omega) (by omega), show n - n / 100 * 100 = n % 100 by omega], h']
theorem e_p64f {M : zMM} {x1 x2 a x3 x4 x5 x6 x7 x8 : Int32} {K : Int32 → Int32 → Int32 → Int32 → Int32 → Int32 → Int32 → Int32 → zMM → Option (Int32 × zMM)} (h : a < -1 ∨ (1999 : Int32) < a) : f_X8_unopened_107_p64 K x1 x2 x3 x4 x5 x6 x7 x8 a M = some ((0 : Int32), z_up M 107 1 (2 : Int32)) := by
  unfold f_X8_unopened_107_p64
  rw [e_isIn]
  rcases h with h | h
  · rw [if_pos h]; rfl
  · by_cases h0 : a < -1
    · rw [if_pos h0]; rfl
    · rw [if_neg h0, if_pos h]; rfl
theorem B_unopened : z_op_unopened := by
  intro k M a1 a2 a3 a4 a5 hk hI
  have qT := hI.j_cnt.1
  have bT := hI.j_cnt.2.2.2.2.2.1
  have qP := hI.j_cnt.2.2.2.1
  have bP := hI.j_cnt.2.2.2.2.2.2.2.2.1
  have h5 := tw_le hI.j_cnt
  have hfail : f_X7_unopened_51 a1 a2 a3 a4 a5 M = some (.inr 0, M) → f_X8_unopened_107 a1 a2 a3 a4 a5 M = some ((0 : Int32), z_up (z_up M 107 1 (0 : Int32)) 107 1 (1 : Int32)) → ∃ (o : Int32 ⊕ Nat) (M1 : zMM) (b : Int32) (M2 : zMM), f_X7_unopened_51 a1 a2 a3 a4 a5 M = some (o, M1) ∧ f_X8_unopened_107 a1 a2 a3 a4 a5 M1 = some (b, M2) ∧ z_ag o b (M2 107 1) (some 1) (some 2) ∧ z_I (k + 1) M2 :=
    fun h1 h3 => ⟨.inr 0, M, 0, _, h1, h3, ⟨1, rfl, rfl, by decide⟩, hI.code ((z_fr.refl.up rfl).up rfl)⟩
  have hM0 : a1 < 0 ∨ (¬ a1 < 0 ∧ ¬ a1 < M 109 3) → ∃ (o : Int32 ⊕ Nat) (M1 : zMM) (b : Int32) (M2 : zMM), f_X7_unopened_51 a1 a2 a3 a4 a5 M = some (o, M1) ∧ f_X8_unopened_107 a1 a2 a3 a4 a5 M1 = some (b, M2) ∧ z_ag o b (M2 107 1) (some 1) (some 2) ∧ z_I (k + 1) M2 := by
    intro h
    refine hfail ?_ ?_
    · unfold f_X7_unopened_51; rw [e_pPlay0 qP h]; rfl
    · unfold f_X8_unopened_107; rw [e_mPlay0 (M := z_up M 107 1 (0 : Int32)) bP h]; rfl
  rcases z_ix a1 bP with h | h | ⟨p, hp, rfl, h0, h1⟩
  · exact hM0 (Or.inl h)
  · exact hM0 (Or.inr h)
  have hM1 : a2 < 0 ∨ (¬ a2 < 0 ∧ ¬ a2 < M 109 0) → ∃ (o : Int32 ⊕ Nat) (M1 : zMM) (b : Int32) (M2 : zMM), f_X7_unopened_51 (nI p) a2 a3 a4 a5 M = some (o, M1) ∧ f_X8_unopened_107 (nI p) a2 a3 a4 a5 M1 = some (b, M2) ∧ z_ag o b (M2 107 1) (some 1) (some 2) ∧ z_I (k + 1) M2 := by
    intro h
    refine hfail ?_ ?_
    · unfold f_X7_unopened_51; rw [e_pPlay1 qP h0 h1, z_bt_l, e_pTown0 qT h]; rfl
    · unfold f_X8_unopened_107; rw [e_mPlay1 (M := z_up M 107 1 (0 : Int32)) bP h0 h1, z_bi_s, if_neg (by decide), e_mTown0 (M := z_up M 107 1 (0 : Int32)) bT h]; rfl
  rcases z_ix a2 bT with h | h | ⟨t, ht, rfl, h2, h3⟩
  · exact hM1 (Or.inl h)
  · exact hM1 (Or.inr h)
  have hp' : p < tp M := hp
  have ht' : t < tw M := ht
  obtain ⟨s, hs, s1, s2, -⟩ := e_trunks hI z_fr.refl (a := t) (by omega)
  obtain ⟨y, y1, -, y3⟩ := e_things hI hI z_fr.refl s
  -- both heads
  have eC : ∀ r, (z_bt (f_X7_weightOf a3 M) fun v10 M11 => z_bt (f_X7_weightOf a4 M11) fun v14 M15 => z_bt (f_X7_weightOf a5 M15) fun v18 M19 =>
            if 0 < ((v10 + v14) + v18) then
              z_bi (f_X4_trunksIn_87 (nI t) M19) fun v23 M24 =>
              z_bi (f_X5_thingsOf_53 v23 M24) fun v26 M27 =>
              z_bi (f_X2_byThings_83 (nI p) (nI t) v26 (-1 : Int32) M27) fun v29 M30 =>
              z_bi (f_X7_orThousand v29 M30) fun v32 M33 =>
              z_bi (f_X7_weighed_51 (nI p) (nI t) v26 a3 M33) fun v35 M36 =>
              z_bi (f_X7_weighed_51 (nI p) (nI t) v26 a4 M36) fun v38 M39 =>
              z_bi (f_X7_weighed_51 (nI p) (nI t) v26 a5 M39) fun v41 M42 =>
              if ¬ ((v10 + v14) + v18) = 0 then
                some (.inl (v32 - (((v35 + v38) + v41) / ((v10 + v14) + v18))), M42)
              else none
            else
              some (.inr 1, M19)) = r → f_X7_unopened_51 (nI p) (nI t) a3 a4 a5 M = r := by
    intro r hr
    unfold f_X7_unopened_51
    rw [e_pPlay1 qP h0 h1, z_bt_l, e_pTown1 qT h2 h3, z_bt_l]
    exact hr
  have eM : ∀ M1 r, z_fr ([], [85, 86]) M M1 → f_X8_unopened_107_p36 z_fuel (nI p) (nI t) a3 a4 a5 (0 : Int32) (0 : Int32) (0 : Int32) (z_up M1 107 1 (0 : Int32)) = r → f_X8_unopened_107 (nI p) (nI t) a3 a4 a5 M1 = r := by
    intro M1 r hf hr
    have hI1 : z_I k M1 := hI.sc (z_sub_sc hf (by decide))
    have bP1 : z_bd (M1 109 3) 0 4 := hI1.j_cnt.2.2.2.2.2.2.2.2.1
    have bT1 : z_bd (M1 109 0) 0 5 := hI1.j_cnt.2.2.2.2.2.1
    have g1 : nI p < M1 109 3 := by rw [hf 109 3 rfl]; exact h1
    have g3 : nI t < M1 109 0 := by rw [hf 109 0 rfl]; exact h3
    unfold f_X8_unopened_107
    rw [e_mPlay1 (M := z_up M1 107 1 (0 : Int32)) bP1 h0 g1, z_bi_s, if_neg (by decide), e_mTown1 (M := z_up M1 107 1 (0 : Int32)) bT1 h2 g3, z_bi_s, if_neg (by decide)]
    exact hr
  have bad : ∀ M2, f_X7_unopened_51 (nI p) (nI t) a3 a4 a5 M = some (.inr 1, M) → f_X8_unopened_107_p36 z_fuel (nI p) (nI t) a3 a4 a5 (0 : Int32) (0 : Int32) (0 : Int32) (z_up M 107 1 (0 : Int32)) = some ((0 : Int32), z_up M2 107 1 (2 : Int32)) → z_fr w_su M M2 → ∃ (o : Int32 ⊕ Nat) (M1 : zMM) (b : Int32) (M2 : zMM), f_X7_unopened_51 (nI p) (nI t) a3 a4 a5 M = some (o, M1) ∧ f_X8_unopened_107 (nI p) (nI t) a3 a4 a5 M1 = some (b, M2) ∧ z_ag o b (M2 107 1) (some 1) (some 2) ∧ z_I (k + 1) M2 :=
    fun M2 e1 e2 e3 => ⟨.inr 1, M, 0, _, e1, eM M _ z_fr.refl e2, ⟨2, rfl, z_up_s, by decide⟩, (z_Isuq hI (e3.up rfl)).up⟩
  have fu1 : z_fuel = 99996 + 1 + 1 + 1 + 1 := rfl
  have hf0 : z_fr w_su M (z_up M 107 1 (0 : Int32)) := z_fr.refl.up rfl
  have stepA : ∀ n M' x6 x7, f_X8_unopened_107_p36 (n + 1) (nI p) (nI t) a3 a4 a5 x6 x7 (0 : Int32) M' = f_X8_unopened_107_p64 (f_X8_unopened_107_p36 n) (nI p) (nI t) a3 a4 a5 x6 x7 (0 : Int32) a3 M' := fun n M' x6 x7 => rfl
  have stepB : ∀ n M' x6 x7, f_X8_unopened_107_p36 (n + 1) (nI p) (nI t) a3 a4 a5 x6 x7 ((0 : Int32) + 1) M' = f_X8_unopened_107_p64 (f_X8_unopened_107_p36 n) (nI p) (nI t) a3 a4 a5 x6 x7 ((0 : Int32) + 1) a4 M' := fun n M' x6 x7 => rfl
  have stepC : ∀ n M' x6 x7, f_X8_unopened_107_p36 (n + 1) (nI p) (nI t) a3 a4 a5 x6 x7 ((0 : Int32) + 1 + 1) M' = f_X8_unopened_107_p64 (f_X8_unopened_107_p36 n) (nI p) (nI t) a3 a4 a5 x6 x7 ((0 : Int32) + 1 + 1) a5 M' := fun n M' x6 x7 => rfl
  have PA := fun M' (hf : z_fr w_su M M') wa (ga : gwq a3 wa) => e_p64 (K := f_X8_unopened_107_p36 (99996 + 1 + 1 + 1)) (x3 := a3) (x4 := a4) (x5 := a5) (x6 := 0) (x7 := 0) (x8 := 0) (M := M') hI hf hp' ht' s2 y3 ga
  have PB := fun M' (hf : z_fr w_su M M') x6 x7 wb (gb' : gwq a4 wb) => e_p64 (K := f_X8_unopened_107_p36 (99996 + 1 + 1)) (x3 := a3) (x4 := a4) (x5 := a5) (x6 := x6) (x7 := x7) (x8 := (0 : Int32) + 1) (M := M') hI hf hp' ht' s2 y3 gb'
  have PC := fun M' (hf : z_fr w_su M M') x6 x7 wc (gc : gwq a5 wc) => e_p64 (K := f_X8_unopened_107_p36 (99996 + 1)) (x3 := a3) (x4 := a4) (x5 := a5) (x6 := x6) (x7 := x7) (x8 := (0 : Int32) + 1 + 1) (M := M') hI hf hp' ht' s2 y3 gc
  rcases e_wt (M := M) (a := a3) with ⟨wa, ga, ea⟩ | ⟨ga, ea⟩
  · rcases e_wt (M := M) (a := a4) with ⟨wb, gb', eb⟩ | ⟨gb', eb⟩
    · rcases e_wt (M := M) (a := a5) with ⟨wc, gc, ec⟩ | ⟨gc, ec⟩
      · have hwl : ∀ {a w}, gwq a w → w < 100 := by
          rintro a w (⟨-, h⟩ | ⟨n, -, -, h⟩) <;> omega
        have la := hwl ga
        have lb := hwl gb'
        have lc := hwl gc
        have eW : nI wa + nI wb + nI wc = nI (wa + wb + wc) := by rw [nI_add, nI_add]
        have run : ∀ M', z_fr w_su M M' → ∃ va vb vc M3, f_X8_unopened_107_p36 z_fuel (nI p) (nI t) a3 a4 a5 (0 : Int32) (0 : Int32) (0 : Int32) M' = f_X8_unopened_107_p36 (99996 + 1) (nI p) (nI t) a3 a4 a5 (nI (wa + wb + wc)) (va + vb + vc) (3 : Int32) M3 ∧ gvq M p t s a3 va ∧ gvq M p t s a4 vb ∧ gvq M p t s a5 vc ∧ z_fr w_su M M3 ∧ M3 107 1 = M' 107 1 := by
          intro M' hf
          obtain ⟨va, Ma, m1, n1, f1, r1⟩ := PA M' hf wa ga
          obtain ⟨vb, Mb, m2, n2, f2, r2⟩ := PB Ma f1 (0 + nI wa) (0 + va) wb gb'
          obtain ⟨vc, Mc, m3, n3, f3, r3⟩ := PC Mb f2 (0 + nI wa + nI wb) (0 + va + vb) wc gc
          refine ⟨va, vb, vc, Mc, ?_, n1, n2, n3, f3, r3.trans (r2.trans r1)⟩
          rw [fu1, stepA, m1, stepB, m2, stepC, m3, Int32.zero_add, Int32.zero_add, eW]
          rfl
        by_cases hW : wa + wb + wc = 0
        · obtain ⟨va, vb, vc, M3, e1, -, -, -, f3, r3⟩ := run (z_up M 107 1 (0 : Int32)) hf0
          refine bad M3 (eC _ ?_) ?_ f3
          · rw [ea, z_bt_l, eb, z_bt_l, ec, z_bt_l, eW, hW, if_neg (by decide)]
          · rw [e1, hW]
            rfl
        · -- the class
          obtain ⟨z0, M1, c1, c2, c3⟩ := e_c0 hI z_fr.refl hp' ht' y3
          obtain ⟨ua, M2, d1, d2, d3⟩ := e_wd hI c3 hp' ht' y3 ga
          obtain ⟨ub, M3, d4, d5, d6⟩ := e_wd hI d3 hp' ht' y3 gb'
          obtain ⟨uc, M4, d7, d8, d9⟩ := e_wd hI d6 hp' ht' y3 gc
          have hW0 : ¬ nI (wa + wb + wc) = (0 : Int32) := nI_ne0 (by omega) (by omega)
          have hcls : f_X7_unopened_51 (nI p) (nI t) a3 a4 a5 M = some (.inl ((if z0 = -1 then 1000 else z0) - (ua + ub + uc) / nI (wa + wb + wc)), M4) := by
            refine eC _ ?_
            rw [ea, z_bt_l, eb, z_bt_l, ec, z_bt_l, eW, if_pos (show (0 : Int32) < nI (wa + wb + wc) from nI_lt (a := 0) (by omega) (by omega)), s1, z_bi_s, y1, z_bi_s, c1, z_bi_s, e_orT, z_bi_s, d1, z_bi_s, d4, z_bi_s, d7, z_bi_s, if_pos hW0]
          have hf4 : z_fr w_su M (z_up M4 107 1 (0 : Int32)) := (z_fr.refl.sub d9 (by decide)).up rfl
          obtain ⟨va, vb, vc, M5, e1, n1, n2, n3, f5, r5⟩ := run (z_up M4 107 1 (0 : Int32)) hf4
          obtain ⟨x0, M6, e2, e3, e4, e5⟩ := e_mw0 hI f5 hp' ht' s2 y3
          rw [gv_inj n1 d2, gv_inj n2 d5, gv_inj n3 d8] at e1
          refine ⟨.inl ((if z0 = -1 then 1000 else z0) - (ua + ub + uc) / nI (wa + wb + wc)), M4, x0 - (ua + ub + uc) / nI (wa + wb + wc), M6, hcls, eM M4 _ d9 (e1.trans ?_), ⟨?_, ?_⟩, (z_Isuq hI e4).up⟩
          · unfold f_X8_unopened_107_p36
            rw [if_pos (by decide), if_neg hW0, e2, z_bi_s, if_pos hW0]
          · show M6 107 1 = 0
            rw [e5, r5]; exact z_up_s
          · rw [PW0inj c2 e3]
      · obtain ⟨va, Ma, m1, n1, f1, r1⟩ := PA (z_up M 107 1 (0 : Int32)) hf0 wa ga
        obtain ⟨vb, Mb, m2, n2, f2, r2⟩ := PB Ma f1 (0 + nI wa) (0 + va) wb gb'
        refine bad Mb (eC _ (by rw [ea, z_bt_l, eb, z_bt_l, ec, z_bt_r])) ?_ f2
        rw [fu1, stepA, m1, stepB, m2, stepC, e_p64f gc]
    · obtain ⟨va, Ma, m1, n1, f1, r1⟩ := PA (z_up M 107 1 (0 : Int32)) hf0 wa ga
      refine bad Ma (eC _ (by rw [ea, z_bt_l, eb, z_bt_r])) ?_ f1
      rw [fu1, stepA, m1, stepB, e_p64f gb']
  · refine bad (z_up M 107 1 (0 : Int32)) (eC _ (by rw [ea, z_bt_r])) ?_ hf0
    rw [fu1, stepA, e_p64f ga]
