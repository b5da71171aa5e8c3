/-! ===== the model's price: need by need, the first of the least ===== -/
def op1 (q : Nat → Nat → Nat) (c k i : Nat) (L : Nat → Bool) (l u v : Nat) : Prop := L u = true ∧ q u i < 100 ∧ ∃ w, v = q u i + w ∧ zR q c k (i + 1) (fun z => L z && !decide (z = u)) l w
def FF (q : Nat → Nat → Nat) (c : Nat) : Nat → Nat → (Nat → Bool) → Nat → Nat → (Nat → Int32) → Prop
  | 0, _, _, _, v, _ => v = 0
  | k + 1, i, L, l, v, g => (∃ t w, t < 11 ∧ L t = true ∧ q t i < 100 ∧ v = q t i + w ∧ (∀ u, u < t → ¬ op1 q c k i L l u v) ∧ g i = nI t ∧ FF q c k (i + 1) (fun z => L z && !decide (z = t)) l w g) ∨ ((∀ u, u < 11 → ¬ op1 q c k i L l u v) ∧ 0 < l ∧ ∃ w, v = c + w ∧ g i = 99 ∧ FF q c k (i + 1) L (l - 1) w g)
theorem FF_zRq {q : Nat → Nat → Nat} {c : Nat} : ∀ {k i : Nat} {L : Nat → Bool} {l v : Nat} {g : Nat → Int32}, FF q c k i L l v g → zR q c k i L l v := by
  intro k
  induction k with
  | zero => intro i L l v g h; exact h
  | succ k ih =>
    intro i L l v g h
    rcases h with ⟨t, w, h1, h2, h3, h4, -, -, h5⟩ | ⟨-, h1, w, h2, -, h3⟩
    · exact Or.inl ⟨t, w, h1, h2, h3, h4, ih h5⟩
    · exact Or.inr ⟨h1, w, h2, ih h3⟩
theorem FF_cgq {q : Nat → Nat → Nat} {c : Nat} : ∀ {k i : Nat} {L : Nat → Bool} {l v : Nat} {g g' : Nat → Int32}, (∀ j, i ≤ j → j < i + k → g j = g' j) → FF q c k i L l v g → FF q c k i L l v g' := by
  intro k
  induction k with
  | zero => intro i L l v g g' _ h; exact h
  | succ k ih =>
    intro i L l v g g' hg h
    rcases h with ⟨t, w, h1, h2, h3, h4, h5, h6, h7⟩ | ⟨h1, h2, w, h3, h4, h5⟩
    · exact Or.inl ⟨t, w, h1, h2, h3, h4, h5, by rw [← hg i (by omega) (by omega)]; exact h6, ih (fun j a b => hg j (by omega) (by omega)) h7⟩
    · exact Or.inr ⟨h1, h2, w, h3, by rw [← hg i (by omega) (by omega)]; exact h4, ih (fun j a b => hg j (by omega) (by omega)) h5⟩
theorem zR_opq {q : Nat → Nat → Nat} {c k i : Nat} {L : Nat → Bool} {l v : Nat} : zR q c (k + 1) i L l v ↔ ((∃ u, u < 11 ∧ op1 q c k i L l u v) ∨ (0 < l ∧ ∃ w, v = c + w ∧ zR q c k (i + 1) L (l - 1) w)) := by
  constructor
  · rintro (⟨t, w, h1, h2, h3, h4, h5⟩ | h)
    · exact Or.inl ⟨t, h1, h2, h3, w, h4, h5⟩
    · exact Or.inr h
  · rintro (⟨t, h1, h2, h3, w, h4, h5⟩ | h)
    · exact Or.inl ⟨t, w, h1, h2, h3, h4, h5⟩
    · exact Or.inr h
theorem e_p29 {S : Int32 → Int32 → Int32 → Int32 → Int32 → Int32 → zMM → Option zMM} {i : Nat} (hi : i ≤ 4) : ∀ k j, j + k = i → ∀ fu M, k < fu → ∃ M', f_X8_fillOn_107_p29 S fu (nI i) (nI j) M = some M' ∧ (∀ u, j ≤ u → u < i → M' 129 u = M 128 u) ∧ (∀ u, u < j ∨ i ≤ u → M' 129 u = M 129 u) ∧ ∀ a b, a ≠ 129 → M' a b = M a b := by
  intro k
  induction k with
  | zero =>
    intro j hj fu M hk
    obtain ⟨fu, rfl⟩ : ∃ m, fu = m + 1 := ⟨fu - 1, by omega⟩
    exact ⟨M, if_pos (nI_le (by omega) (by omega)), fun u h1 h2 => by omega, fun _ _ => rfl, fun _ _ _ => rfl⟩
  | succ k ih =>
    intro j hj fu M hk
    obtain ⟨fu, rfl⟩ : ∃ m, fu = m + 1 := ⟨fu - 1, by omega⟩
    have ib : z_ib (nI j) 4 = true := z_ib_n (by decide) (by omega)
    unfold f_X8_fillOn_107_p29
    rw [if_neg (nI_ge (by omega) (by omega)), if_pos ib, if_pos ib, nI_clamp (by omega), nI_1]
    obtain ⟨M', e1, e2, e3, e4⟩ := ih (j + 1) (by omega) fu (z_up M 129 j (M 128 j)) (by omega)
    refine ⟨M', e1, fun u h1 h2 => ?_, fun u hu => ?_, fun a b hab => (e4 a b hab).trans (z_up_o hab)⟩
    · by_cases hu : u = j
      · rw [e3 u (by omega), hu, z_up_s]
      · rw [e2 u (by omega) h2]; exact z_up_o (by decide)
    · rw [e3 u (by omega)]
      exact z_up_n (by omega)
/-- what fillOn leaves behind -/
def fo (q : Nat → Nat → Nat) (c k i : Nat) (L : Nat → Bool) (l price b : Nat) (M M' : zMM) : Prop :=
  (∀ j, j < i → M' 128 j = M 128 j) ∧ ∃ b', b' ≤ b ∧ M' 107 38 = nI b' ∧ (∀ u, zR q c k i L l u → b' ≤ price + u) ∧ ((b' = b ∧ ∀ j, M' 129 j = M 129 j) ∨ (b' < b ∧ ∃ v, b' = price + v ∧ (∀ j, j < i → M' 129 j = M 128 j) ∧ FF q c k i L l v (M' 129)))
theorem e_stands {k0 : Nat} {M0 M : zMM} (hI : z_I k0 M0) (hf : z_fr ([(107, 38)], [128, 129]) M0 M) (hp0 : 0 < tp M0) {t b : Nat} {so : Nat → Nat} (ht : t < 11) (hs : M0 116 t = nI (so t)) (hs2 : so t < 20) (hb : b < 20) : f_X8_standsFor_107 (nI t) (nI b) M = some (sv (sm_ M0 (so t) b), M) := by
  have ib : z_ib (nI t) 22 = true := z_ib_n (by decide) (by omega)
  obtain ⟨s1, s2, s3⟩ := sm_le (hI.j_like hp0) hs2 hb
  unfold f_X8_standsFor_107
  rw [if_pos ib, nI_clamp (by omega), hf 116 t rfl, hs]
  by_cases h : so t = b
  · rw [if_pos (by rw [h]), show sm_ M0 (so t) b = 0 from if_pos h]; rfl
  · rw [if_neg (fun z => h ((nI_eq (by omega) (by omega)).mp z)), if_pos ib, show (20 : Int32) * nI (so t) = nI (20 * so t) from nI_mul 20 _, nI_add, if_pos (z_ib_n (by decide) (by omega)), nI_clamp (by omega), hf 121 _ rfl, s3 h]
theorem e_fillOn {k0 : Nat} {M0 : zMM} (hI : z_I k0 M0) {p t : Nat} (hp : p < tp M0) (ht : t < tw M0) {so : Nat → Nat} :
    ∀ k i, i + k = nm_ M0 p → ∀ D, k < D → ∀ (y : Int32) (L : Nat → Bool) (lent price b : Nat) (M : zMM), z_fr ([(107, 38)], [128, 129]) M0 M → (∀ u, u < 11 → gb y u = L u) → (∀ u, u < 11 → L u = true → M0 116 u = nI (so u) ∧ so u < 20) → lent ≤ (M0 112 t).toNatClampNeg → price ≤ 99 * i → b ≤ 1000000 → M 107 38 = nI b →
    ∃ M', f_X8_fillOn_107 D (nI p) (nI t) (nI i) y (nI lent) (nI price) M = some M' ∧ fo (zq M0 so p) (M0 113 t).toNatClampNeg k i L ((M0 112 t).toNatClampNeg - lent) price b M M' := by
  obtain ⟨p4, q1, q2, q3, q4, q5⟩ := e_play hI hp
  obtain ⟨t5, w1, w2, w3, w4, w5, w6⟩ := e_town hI ht
  intro k
  induction k with
  | zero =>
    intro i hi D hD y L lent price b M hf hy hL hl hpr hb hM
    obtain ⟨D, rfl⟩ : ∃ m, D = m + 1 := ⟨D - 1, by omega⟩
    unfold f_X8_fillOn_107
    rw [hM]
    by_cases hlt : price < b
    · rw [if_pos (nI_lt hlt (by omega)), if_pos (z_ib_n (by decide) (by omega)), nI_clamp (by omega), hf 120 p rfl, q2, if_pos (by rw [show i = nm_ M0 p by omega])]
      obtain ⟨M', e1, e2, e3, e4⟩ := e_p29 (S := f_X8_fillOn_107 D) (i := i) (by omega) i 0 (by omega) z_fuel (z_up M 107 38 (nI price)) (by unfold z_fuel; omega)
      refine ⟨M', e1, fun j hj => (e4 128 j (by decide)).trans (z_up_o (by decide)), price, by omega, ?_, fun u hu => by omega, Or.inr ⟨hlt, 0, rfl, fun j hj => (e2 j (by omega) hj).trans (z_up_o (by decide)), rfl⟩⟩
      rw [e4 107 38 (by decide), z_up_s]
    · rw [if_neg (nI_nlt (by omega) (by omega))]
      exact ⟨M, rfl, fun _ _ => rfl, b, Nat.le_refl _, hM, fun u hu => by omega, Or.inl ⟨rfl, fun _ => rfl⟩⟩
  | succ k ih =>
    intro i hi D hD y L lent price b0 M hf hy hL hl hpr hb0 hM
    obtain ⟨D, rfl⟩ : ∃ m, D = m + 1 := ⟨D - 1, by omega⟩
    unfold f_X8_fillOn_107
    rw [hM]
    by_cases hlt : price < b0
    · rw [if_pos (nI_lt hlt (by omega)), if_pos (z_ib_n (by decide) (by omega)), nI_clamp (by omega), hf 120 p rfl, q2, if_neg (fun z => by
        have := (nI_eq (by omega) (by omega)).mp z
        omega)]
      obtain ⟨d1, d2, d3⟩ := q5 i (by omega)
      have hq : ∀ u, zq M0 so p u i = sm_ M0 (so u) (nd_ M0 p i) := fun u => rfl
      generalize hl' : (M0 112 t).toNatClampNeg - lent = l
      generalize hc' : (M0 113 t).toNatClampNeg = c at *
      have loop : ∀ r x, x + r = 11 → ∀ fu Mt, r < fu → z_fr ([(107, 38)], [128, 129]) M0 Mt → (∀ j, j < i → Mt 128 j = M 128 j) → (∃ b, b ≤ b0 ∧ Mt 107 38 = nI b ∧ (∀ u v, u < x → op1 (zq M0 so p) c k i L l u v → b ≤ price + v) ∧ ((b = b0 ∧ ∀ j, Mt 129 j = M 129 j) ∨ (b < b0 ∧ ∃ v, b = price + v ∧ (∀ j, j < i → Mt 129 j = M 128 j) ∧ ∃ t' w, t' < x ∧ L t' = true ∧ zq M0 so p t' i < 100 ∧ v = zq M0 so p t' i + w ∧ (∀ u, u < t' → ¬ op1 (zq M0 so p) c k i L l u v) ∧ Mt 129 i = nI t' ∧ FF (zq M0 so p) c k (i + 1) (fun z => L z && !decide (z = t')) l w (Mt 129)))) →
          ∃ M', f_X8_fillOn_107_p59 (f_X8_fillOn_107 D) fu (nI p) (nI t) (nI i) y (nI lent) (nI price) (nI x) Mt = some M' ∧ fo (zq M0 so p) c (k + 1) i L l price b0 M M' := by
        intro r
        induction r with
        | zero =>
          intro x hx fu Mt hr hft h128 hinv
          obtain ⟨fu, rfl⟩ : ∃ m, fu = m + 1 := ⟨fu - 1, by omega⟩
          have hx11 : x = 11 := by omega
          rw [hx11] at hinv ⊢
          obtain ⟨b, hb1, hb2, hb3, hb4⟩ := hinv
          unfold f_X8_fillOn_107_p59
          have ib : z_ib (nI t) 10 = true := z_ib_n (by decide) (by omega)
          rw [if_pos (show (10 : Int32) < nI 11 by decide), if_pos ib, nI_clamp (by omega), hft 112 t rfl, w2]
          by_cases hle : lent = (M0 112 t).toNatClampNeg
          · rw [if_pos (by rw [hle])]
            have hl0 : l = 0 := by omega
            refine ⟨Mt, rfl, h128, b, hb1, hb2, fun u hu => ?_, ?_⟩
            · rcases zR_opq.mp hu with ⟨u', h1, h2⟩ | ⟨h1, _⟩
              · exact hb3 u' u h1 h2
              · omega
            · rcases hb4 with h | ⟨h1, v, h2, h3, t', w, h4⟩
              · exact Or.inl h
              · exact Or.inr ⟨h1, v, h2, h3, Or.inl ⟨t', w, h4⟩⟩
          · rw [if_neg (fun z => hle ((nI_eq (by omega) (by omega)).mp z)), if_pos (z_ib_n (by decide) (by omega)), if_pos ib, nI_clamp (by omega), hft 113 t rfl, w5, nI_1, nI_1, nI_add]
            obtain ⟨M', e1, f1, b', f2, f3, f4, f5⟩ := ih (i + 1) (by omega) D (by omega) y L (lent + 1) (price + c) b (z_up Mt 128 i 99) (hft.up rfl) hy hL (by omega) (by omega) (by omega) ((z_up_o (by decide)).trans hb2)
            rw [Nat.sub_add_eq, hl'] at f4 f5
            rw [show f_X8_fillOn_107 D (nI p) (nI t) (nI (i + 1)) y (nI (lent + 1)) (nI (price + c)) (z_up Mt 128 i (99 : Int32)) = some M' from e1, z_bv_s]
            refine ⟨M', rfl, fun j hj => ?_, b', by omega, f3, fun u hu => ?_, ?_⟩
            · rw [f1 j (by omega), z_up_n (by omega)]; exact h128 j hj
            · rcases zR_opq.mp hu with ⟨u', h1, h2⟩ | ⟨h1, w, h2, h3⟩
              · have := hb3 u' u h1 h2; omega
              · have := f4 w h3; omega
            · rcases f5 with ⟨g1, g2⟩ | ⟨g1, v, g2, g3, g4⟩
              · have g2' : ∀ j, M' 129 j = Mt 129 j := fun j => (g2 j).trans (z_up_o (by decide))
                rw [g1]
                rcases hb4 with ⟨h1, h2⟩ | ⟨h1, v, h2, h3, t', w, h4, h5, h6, h7, h8, h9, h10⟩
                · exact Or.inl ⟨h1, fun j => (g2' j).trans (h2 j)⟩
                · exact Or.inr ⟨h1, v, h2, fun j hj => (g2' j).trans (h3 j hj), Or.inl ⟨t', w, h4, h5, h6, h7, h8, (g2' i).trans h9, FF_cgq (fun j _ _ => (g2' j).symm) h10⟩⟩
              · refine Or.inr ⟨by omega, c + v, by omega, fun j hj => ?_, Or.inr ⟨fun u hu hop => ?_, by omega, v, rfl, ?_, g4⟩⟩
                · rw [g3 j (by omega), z_up_n (by omega)]; exact h128 j hj
                · have := hb3 u _ hu hop; omega
                · rw [g3 i (by omega), z_up_s]
        | succ r ihr =>
          intro x hx fu Mt hr hft h128 hinv
          obtain ⟨fu, rfl⟩ : ∃ m, fu = m + 1 := ⟨fu - 1, by omega⟩
          obtain ⟨b, hb1, hb2, hb3, hb4⟩ := hinv
          unfold f_X8_fillOn_107_p59
          rw [if_neg (show ¬ (10 : Int32) < nI x from nI_nlt (a := 10) (by omega) (by decide)), nI_1]
          have skip : (L x = true → zq M0 so p x i < 100 → False) → ∃ M', f_X8_fillOn_107_p59 (f_X8_fillOn_107 D) fu (nI p) (nI t) (nI i) y (nI lent) (nI price) (nI (x + 1)) Mt = some M' ∧ fo (zq M0 so p) c (k + 1) i L l price b0 M M' := by
            intro hno
            refine ihr (x + 1) (by omega) fu Mt (by omega) hft h128 ⟨b, hb1, hb2, fun u v hu hop => ?_, ?_⟩
            · by_cases hux : u = x
              · rw [hux] at hop; exact (hno hop.1 hop.2.1).elim
              · exact hb3 u v (by omega) hop
            · rcases hb4 with h | ⟨h1, v, h2, h3, t', w, h4, h5⟩
              · exact Or.inl h
              · exact Or.inr ⟨h1, v, h2, h3, t', w, by omega, h5⟩
          by_cases hLx : L x = true
          · obtain ⟨sx1, sx2⟩ := hL x (by omega) hLx
            rw [if_neg (fun z => by rw [e_sar0 (by omega), hy x (by omega), hLx] at z; exact absurd z (by decide)), show (4 : Int32) * nI p = nI (4 * p) from nI_mul 4 p, nI_add, if_pos (z_ib_n (by decide) (by omega)), nI_clamp (by omega), hft 119 _ rfl, d2, e_stands hI hft (by omega) (by omega) sx1 sx2 d3, z_bi_s]
            by_cases hqx : sm_ M0 (so x) (nd_ M0 p i) < 100
            · rw [if_neg (fun z => by have := sv_m1.mp z; omega), sv_lt hqx, if_pos (z_ib_n (by decide) (by omega)), nI_clamp (by omega), nI_1, nI_add]
              obtain ⟨M', e1, f1, b', f2, f3, f4, f5⟩ := ih (i + 1) (by omega) D (by omega) (y &&& (((1 : Int32) <<< (nI x &&& 31)) ^^^ (-1 : Int32))) (fun z => L z && !decide (z = x)) lent (price + sm_ M0 (so x) (nd_ M0 p i)) b (z_up Mt 128 i (nI x)) (hft.up rfl) (fun u hu => by rw [gb_rem (by omega) (by omega), hy u hu]) (fun u hu hLu => hL u hu (by rw [Bool.and_eq_true] at hLu; exact hLu.1)) hl (by omega) (by omega) ((z_up_o (by decide)).trans hb2)
              rw [hl'] at f4 f5
              rw [show f_X8_fillOn_107 D (nI p) (nI t) (nI (i + 1)) (y &&& (((1 : Int32) <<< (nI x &&& 31)) ^^^ (-1 : Int32))) (nI lent) (nI (price + sm_ M0 (so x) (nd_ M0 p i))) (z_up Mt 128 i (nI x)) = some M' from e1, z_bv_s]
              have hf' : z_fr ([(107, 38)], [128, 129]) M0 M' := (hft.up rfl).sub (R_X8_fillOn_107 e1) (by decide)
              refine ihr (x + 1) (by omega) fu M' (by omega) hf' (fun j hj => by rw [f1 j (by omega), z_up_n (by omega)]; exact h128 j hj) ⟨b', by omega, f3, fun u v hu hop => ?_, ?_⟩
              · by_cases hux : u = x
                · obtain ⟨-, -, w, h2, h3⟩ := hop
                  rw [hux] at h2 h3
                  have := f4 w h3
                  rw [hq x] at h2
                  omega
                · have := hb3 u v (by omega) hop; omega
              · rcases f5 with ⟨g1, g2⟩ | ⟨g1, v, g2, g3, g4⟩
                · have g2' : ∀ j, M' 129 j = Mt 129 j := fun j => (g2 j).trans (z_up_o (by decide))
                  rw [g1]
                  rcases hb4 with ⟨h1, h2⟩ | ⟨h1, v, h2, h3, t', w, h4, h5, h6, h7, h8, h9, h10⟩
                  · exact Or.inl ⟨h1, fun j => (g2' j).trans (h2 j)⟩
                  · exact Or.inr ⟨h1, v, h2, fun j hj => (g2' j).trans (h3 j hj), t', w, by omega, h5, h6, h7, h8, (g2' i).trans h9, FF_cgq (fun j _ _ => (g2' j).symm) h10⟩
                · refine Or.inr ⟨by omega, sm_ M0 (so x) (nd_ M0 p i) + v, by omega, fun j hj => ?_, x, v, by omega, hLx, hqx, rfl, fun u hu hop => ?_, ?_, g4⟩
                  · rw [g3 j (by omega), z_up_n (by omega)]; exact h128 j hj
                  · have := hb3 u _ hu hop; omega
                  · rw [g3 i (by omega), z_up_s]
            · rw [if_pos (sv_m1.mpr (by omega))]
              exact skip (fun _ z => hqx z)
          · rw [if_pos ((e_sar0 (by omega)).mpr (by rw [hy x (by omega)]; simpa using hLx))]
            exact skip (fun z _ => hLx z)
      have h0 := loop 11 0 (by omega) z_fuel M (by unfold z_fuel; omega) hf (fun _ _ => rfl) ⟨b0, Nat.le_refl _, hM, fun u v hu => absurd hu (by omega), Or.inl ⟨rfl, fun _ => rfl⟩⟩
      exact h0
    · rw [if_neg (nI_nlt (by omega) (by omega))]
      exact ⟨M, rfl, fun _ _ => rfl, b0, Nat.le_refl _, hM, fun u hu => by omega, Or.inl ⟨rfl, fun _ => rfl⟩⟩
/-- the model's price, and by what -/
theorem e_priceOf {k0 : Nat} {M0 : zMM} (hI : z_I k0 M0) {p t : Nat} (hp : p < tp M0) (ht : t < tw M0) {so : Nat → Nat} {y : Int32} {L : Nat → Bool} (hy : ∀ u, u < 11 → gb y u = L u) (hL : ∀ u, u < 11 → L u = true → M0 116 u = nI (so u) ∧ so u < 20) :
    ∃ x M', f_X8_priceOf_107 (nI p) (nI t) y M0 = some (x, M') ∧ z_ls (zP M0 so p t L) x ∧ (∀ v, x = nI v → v < 10000 → FF (zq M0 so p) (M0 113 t).toNatClampNeg (nm_ M0 p) 0 L (M0 112 t).toNatClampNeg v (M' 129)) := by
  obtain ⟨p4, q1, q2, q3, q4, q5⟩ := e_play hI hp
  obtain ⟨t5, w1, w2, w3, w4, w5, w6⟩ := e_town hI ht
  have hI1 : z_I k0 (z_up M0 107 38 (1000000 : Int32)) := hI.sc (z_fr.refl.up rfl)
  have e1 : zq (z_up M0 107 38 (1000000 : Int32)) so p = zq M0 so p := rfl
  obtain ⟨M', a1, a2, b', a3, a4, a5, a6⟩ := e_fillOn hI1 (p := p) (t := t) hp ht (so := so) (nm_ M0 p) 0 (by show 0 + nm_ M0 p = nm_ M0 p; omega) 8 (by omega) y L 0 0 1000000 (z_up M0 107 38 (1000000 : Int32)) z_fr.refl hy hL (by omega) (by omega) (by omega) z_up_s
  unfold f_X8_priceOf_107
  rw [show f_X8_fillOn_107 8 (nI p) (nI t) (0 : Int32) y (0 : Int32) (0 : Int32) (z_up M0 107 38 (1000000 : Int32)) = some M' from a1, z_bv_s, a4]
  rcases a6 with ⟨h1, h2⟩ | ⟨h1, v, h2, h3, h4⟩
  · rw [h1, if_pos (show nI 1000000 = (1000000 : Int32) from rfl)]
    refine ⟨-1, M', rfl, z_ls.none (fun v hv => ?_), fun v hv hv2 => absurd hv.symm (nI_m1 (by omega))⟩
    have e := a5 v hv
    have := zR_bd (show (M0 113 t).toNatClampNeg < 100 by omega) hv
    have : (M0 120 p).toNatClampNeg = nm_ M0 p := rfl
    omega
  · have hz : zR (zq M0 so p) (M0 113 t).toNatClampNeg (nm_ M0 p) 0 L (M0 112 t).toNatClampNeg v := FF_zRq h4
    have := zR_bd (show (M0 113 t).toNatClampNeg < 100 by omega) hz
    rw [if_neg (show ¬ nI b' = (1000000 : Int32) from fun z => by
      have := (nI_eq (a := b') (b := 1000000) (by omega) (by decide)).mp z
      omega)]
    refine ⟨nI b', M', rfl, Or.inr ⟨v, by rw [h2, Nat.zero_add], by omega, hz, fun w hw => ?_⟩, fun v' e' hv' => ?_⟩
    · have := a5 w hw; omega
    · have := (nI_eq (by omega) (by omega)).mp e'
      have : v' = v := by omega
      rw [this]; exact h4
