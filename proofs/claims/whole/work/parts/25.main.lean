/-! ===== from the walk of the law to its claim ===== -/
theorem z_room_le {p : Program} {l : Launch} {e : Env} {R R' : Room} {s : State} {m : MethodId} {args : Array Value} {below : List Frame} {meth : Method} {c : Code} {T : State} {locs : List Loc} {cells slots : Nat} (X : Stand p l e R' s m args below meth c T locs cells slots) (h : s.hasRoom e.platform R = true) : Stand p l e R s m args below meth c T locs cells slots :=
  { X with room := h }
theorem z_room_mono {s : State} {pl : Platform} {r r' : Room} (hf : r.frames ≤ r'.frames) (hl : r.locals ≤ r'.locals) (hc : r.cells ≤ r'.cells) (hs : r.slots ≤ r'.slots) (h : s.hasRoom pl r' = true) : s.hasRoom pl r = true := by
  simp only [State.hasRoom, Bool.and_eq_true, decide_eq_true_eq] at h ⊢
  obtain ⟨⟨⟨⟨y, a, b, c, d, e⟩, f⟩, g⟩, i⟩ := h
  exact ⟨⟨⟨⟨by omega, by omega, by omega, by omega, by omega, e⟩, by omega⟩, by omega⟩, i⟩
theorem z_same_new {s t : State} {L : List Loc} {k n : Nat} (h : s.sameButNew t L k n) (hL : ∀ q ∈ L, s.heap.size ≤ q.base) : s.sameButNew t [] k n := by
  obtain ⟨h1, h2, h3, h4, h5, h6⟩ := h
  refine ⟨h1, h2, h3, h4, h5, fun a c hc => ?_⟩
  obtain ⟨c', g1, g2, g3, g4⟩ := h6 a c hc
  have ha : a < s.heap.size := (Array.getElem?_eq_some_iff.mp hc).1
  exact ⟨c', g1, g2, g3, fun i _ => g4 i (fun hq => absurd (hL _ hq) (Nat.not_le.mpr ha))⟩
/-- the law, as pure functions: to be shown for every script -/
def z_HB : Prop := ∀ (L : Nat) (xs : Nat → Int32), L ≤ 3072 → ∃ (M2 M' : zMM) (Lm' : zML), f_L_law_0 (z_Mst xs) = some M2 ∧ f_L_loop L 513 0 M2 (z_zL (fun _ _ => 0) 149) = some (1, M', Lm')
theorem whole_start0 (HB : z_HB) {p : Program} {e : Env} {s : State} {m : MethodId} {below : List Frame} {meth : Method} {c : Code} (l : Launch) (hl : l.stackTraces = false) {b L : Nat} {xs : Nat → Int32} (hL : L ≤ 3072) (C0 : lw_At p s m meth c b L xs) : W p l e room_1 s m #[Value.ref b] below meth c s.heap [] 0 0 (lw_Z below #[Value.ref b] s) (entryFrame m ([Value.ref b] : List Value).toArray 8) := by
  obtain ⟨M2, M', Lm', hP, hQ⟩ := HB L xs hL
  obtain ⟨D, ad, hT, hH, had⟩ := z_start C0
  obtain ⟨hx, hb, hr, hml, hown, -, -, -, hlk, -, htab, hnm⟩ := C0
  have key := A_L_pro (d := 1298) (n := 513) (Lm := fun _ _ => 0) hl hP (A_L_loop (d := 1298) hl 513 _ _ _ _ _ _ hQ)
  subst had
  have kk := key s.heap.size D ad p e { frames := 1312, cells := 601024, slots := 7293034, locals := 64 * 1312 } s m #[Value.ref (ad 0)] below meth c s.heap [] 0 0 601024 7293034 _ (fun _ _ o _ => o = .returned (some (.int 1))) (fun _ _ _ => False)
    ⟨⟨⟨hl, Nat.le_refl _⟩, hx, hb, hml, hr, hown, hlk, htab, hnm, rfl⟩, by decide, by decide, fun q hq => (by cases hq), hT, hH, z_ent_LR ad [.ref 0] (n := 8) (by decide)⟩
    (fun ad' t _ _ _ => ⟨fun v hv => by cases hv; rfl, fun E hE => by cases hE⟩)
  intro T hT1 X
  obtain ⟨t, h1, o, h2, h3, h4⟩ := kk T hT1 (z_room_le X (z_room_mono (r' := room_1) (by decide) (by decide) (by decide) (by decide) X.room))
  rw [show ([Value.ref (ad 0)] : List Value).toArray = ([Value.ref 0].map (z_cv ad)).toArray from rfl, lg_entry_eq]
  refine ⟨t, h1, o, h2, h3, ?_⟩
  rcases h4 with ⟨g1, LL, ⟨g2, g3, g4⟩, g5⟩ | ⟨q, -, w⟩
  · exact ⟨g1, g2, g3, z_same_new g4 g5⟩
  · obtain ⟨-, -, -, hF, -⟩ := w
    exact hF.elim
