/-! ===== the layout behind the prologue ===== -/
def z_L1 : List zEn := [(10, 16, []), (16, 0, []), (15, 27, []), (15, 28, []), (15, 29, []), (15, 30, []), (15, 31, []), (15, 32, []), (15, 33, []), (15, 34, []), (15, 35, []), (15, 36, []), (15, 37, []), (15, 38, []), (15, 39, []), (15, 40, []), (15, 41, []), (15, 42, []), (15, 43, []), (15, 44, []), (15, 45, []), (15, 46, []), (15, 47, []), (15, 48, []), (15, 49, []), (15, 50, []), (11, 4, []), (11, 7, []), (11, 5, []), (11, 4, []), (11, 4, []), (11, 5, []), (11, 5, []), (11, 5, []), (11, 5, []), (11, 4, []), (11, 4, []), (11, 6, []), (11, 7, []), (11, 5, []), (11, 4, []), (11, 4, []), (11, 4, []), (11, 5, []), (11, 5, []), (11, 5, []), (11, 5, []), (11, 4, []), (11, 4, []), (11, 6, []), (7, 13, [54, 0, 0, 55, 68, 81, 82, 85, 89, 96, 0, 103, 105]), (11, 700, []), (5, 17, [0, 56, 57, 58, 59, 60, 0, 61, 0, 62, 63, 0, 64, 65, 66, 67, 0]), (10, 5, []), (10, 5, []), (10, 5, []), (10, 5, []), (10, 25, []), (10, 5, []), (10, 10, []), (10, 10, []), (10, 4, []), (10, 4, []), (10, 16, []), (10, 400, []), (5, 17, [0, 69, 70, 71, 72, 73, 0, 74, 0, 75, 76, 0, 77, 78, 79, 80, 0]), (10, 5, []), (10, 5, []), (10, 5, []), (10, 5, []), (10, 25, []), (10, 5, []), (10, 10, []), (10, 10, []), (10, 4, []), (10, 4, []), (10, 16, []), (10, 400, []), (3, 11, [54, 68, 0, 0, 0, 0, 0, 0, 0, 0, 0]), (6, 3, [55, 83, 84]), (10, 25, []), (10, 5, []), (2, 4, [55, 86, 87, 88]), (10, 640, []), (10, 16, []), (10, 4, []), (4, 10, [90, 91, 0, 0, 0, 0, 92, 93, 94, 95]), (10, 5, []), (10, 5, []), (10, 4, []), (10, 4, []), (10, 4, []), (10, 3, []), (4, 10, [97, 98, 0, 0, 0, 0, 99, 100, 101, 102]), (10, 5, []), (10, 5, []), (10, 4, []), (10, 4, []), (10, 4, []), (10, 3, []), (0, 3, [104, 0, 0]), (10, 1300, []), (1, 10, [55, 82, 85, 89, 106, 107, 108, 0, 0, 0]), (10, 80, []), (10, 128, []), (10, 5, []), (8, 65, [110, 0, 111, 112, 113, 114, 115, 116, 117, 118, 119, 120, 121, 122, 123, 124, 125, 0, 0, 0, 0, 0, 0, 0, 0, 0, 0, 126, 127, 0, 0, 0, 0, 0, 128, 129, 130, 131, 0, 132, 133, 134, 135, 136, 137, 138, 139, 140, 141, 142, 143, 144, 0, 0, 0, 0, 0, 0, 0, 145, 146, 147, 148, 149, 150]), (14, 4, [17, 18, 19, 20]), (10, 10, []), (10, 10, []), (10, 10, []), (10, 10, []), (10, 10, []), (10, 50, []), (10, 5, []), (10, 22, []), (10, 22, []), (10, 8, []), (10, 32, []), (10, 8, []), (10, 800, []), (10, 3, []), (10, 700, []), (10, 5, []), (10, 5, []), (10, 25, []), (10, 25, []), (10, 4, []), (10, 4, []), (10, 100, []), (10, 100, []), (10, 100, []), (10, 100, []), (10, 100, []), (12, 100, []), (10, 4, []), (10, 4, []), (10, 4, []), (10, 128, []), (10, 5, []), (10, 5, []), (10, 5, []), (10, 5, []), (10, 5, []), (10, 4, []), (10, 4, []), (10, 4, []), (10, 3, []), (13, 1, [])]
def z_L0 (Ls : Nat) : List zEn := (10, Ls, []) :: z_L1
theorem z_L1_len : z_L1.length = 149 := by decide +kernel
theorem z_len {Ls : Nat} : (z_L0 Ls).length = 150 := by
  show z_L1.length + 1 = 150
  rw [z_L1_len]
theorem en_1 {Ls : Nat} : (z_L0 Ls)[1]? = some (10, 16, []) := rfl
theorem en_51 {Ls : Nat} : (z_L0 Ls)[51]? = some (7, 13, [54, 0, 0, 55, 68, 81, 82, 85, 89, 96, 0, 103, 105]) := rfl
theorem en_52 {Ls : Nat} : (z_L0 Ls)[52]? = some (11, 700, []) := rfl
theorem en_53 {Ls : Nat} : (z_L0 Ls)[53]? = some (5, 17, [0, 56, 57, 58, 59, 60, 0, 61, 0, 62, 63, 0, 64, 65, 66, 67, 0]) := rfl
theorem en_54 {Ls : Nat} : (z_L0 Ls)[54]? = some (10, 5, []) := rfl
theorem en_55 {Ls : Nat} : (z_L0 Ls)[55]? = some (10, 5, []) := rfl
theorem en_56 {Ls : Nat} : (z_L0 Ls)[56]? = some (10, 5, []) := rfl
theorem en_57 {Ls : Nat} : (z_L0 Ls)[57]? = some (10, 5, []) := rfl
theorem en_58 {Ls : Nat} : (z_L0 Ls)[58]? = some (10, 25, []) := rfl
theorem en_59 {Ls : Nat} : (z_L0 Ls)[59]? = some (10, 5, []) := rfl
theorem en_60 {Ls : Nat} : (z_L0 Ls)[60]? = some (10, 10, []) := rfl
theorem en_61 {Ls : Nat} : (z_L0 Ls)[61]? = some (10, 10, []) := rfl
theorem en_62 {Ls : Nat} : (z_L0 Ls)[62]? = some (10, 4, []) := rfl
theorem en_63 {Ls : Nat} : (z_L0 Ls)[63]? = some (10, 4, []) := rfl
theorem en_64 {Ls : Nat} : (z_L0 Ls)[64]? = some (10, 16, []) := rfl
theorem en_65 {Ls : Nat} : (z_L0 Ls)[65]? = some (10, 400, []) := rfl
theorem en_66 {Ls : Nat} : (z_L0 Ls)[66]? = some (5, 17, [0, 69, 70, 71, 72, 73, 0, 74, 0, 75, 76, 0, 77, 78, 79, 80, 0]) := rfl
theorem en_67 {Ls : Nat} : (z_L0 Ls)[67]? = some (10, 5, []) := rfl
theorem en_68 {Ls : Nat} : (z_L0 Ls)[68]? = some (10, 5, []) := rfl
theorem en_69 {Ls : Nat} : (z_L0 Ls)[69]? = some (10, 5, []) := rfl
theorem en_70 {Ls : Nat} : (z_L0 Ls)[70]? = some (10, 5, []) := rfl
theorem en_71 {Ls : Nat} : (z_L0 Ls)[71]? = some (10, 25, []) := rfl
theorem en_72 {Ls : Nat} : (z_L0 Ls)[72]? = some (10, 5, []) := rfl
theorem en_73 {Ls : Nat} : (z_L0 Ls)[73]? = some (10, 10, []) := rfl
theorem en_74 {Ls : Nat} : (z_L0 Ls)[74]? = some (10, 10, []) := rfl
theorem en_75 {Ls : Nat} : (z_L0 Ls)[75]? = some (10, 4, []) := rfl
theorem en_76 {Ls : Nat} : (z_L0 Ls)[76]? = some (10, 4, []) := rfl
theorem en_77 {Ls : Nat} : (z_L0 Ls)[77]? = some (10, 16, []) := rfl
theorem en_78 {Ls : Nat} : (z_L0 Ls)[78]? = some (10, 400, []) := rfl
theorem en_79 {Ls : Nat} : (z_L0 Ls)[79]? = some (3, 11, [54, 68, 0, 0, 0, 0, 0, 0, 0, 0, 0]) := rfl
theorem en_80 {Ls : Nat} : (z_L0 Ls)[80]? = some (6, 3, [55, 83, 84]) := rfl
theorem en_81 {Ls : Nat} : (z_L0 Ls)[81]? = some (10, 25, []) := rfl
theorem en_82 {Ls : Nat} : (z_L0 Ls)[82]? = some (10, 5, []) := rfl
theorem en_83 {Ls : Nat} : (z_L0 Ls)[83]? = some (2, 4, [55, 86, 87, 88]) := rfl
theorem en_84 {Ls : Nat} : (z_L0 Ls)[84]? = some (10, 640, []) := rfl
theorem en_85 {Ls : Nat} : (z_L0 Ls)[85]? = some (10, 16, []) := rfl
theorem en_86 {Ls : Nat} : (z_L0 Ls)[86]? = some (10, 4, []) := rfl
theorem en_87 {Ls : Nat} : (z_L0 Ls)[87]? = some (4, 10, [90, 91, 0, 0, 0, 0, 92, 93, 94, 95]) := rfl
theorem en_88 {Ls : Nat} : (z_L0 Ls)[88]? = some (10, 5, []) := rfl
theorem en_89 {Ls : Nat} : (z_L0 Ls)[89]? = some (10, 5, []) := rfl
theorem en_90 {Ls : Nat} : (z_L0 Ls)[90]? = some (10, 4, []) := rfl
theorem en_91 {Ls : Nat} : (z_L0 Ls)[91]? = some (10, 4, []) := rfl
theorem en_92 {Ls : Nat} : (z_L0 Ls)[92]? = some (10, 4, []) := rfl
theorem en_93 {Ls : Nat} : (z_L0 Ls)[93]? = some (10, 3, []) := rfl
theorem en_94 {Ls : Nat} : (z_L0 Ls)[94]? = some (4, 10, [97, 98, 0, 0, 0, 0, 99, 100, 101, 102]) := rfl
theorem en_95 {Ls : Nat} : (z_L0 Ls)[95]? = some (10, 5, []) := rfl
theorem en_96 {Ls : Nat} : (z_L0 Ls)[96]? = some (10, 5, []) := rfl
theorem en_97 {Ls : Nat} : (z_L0 Ls)[97]? = some (10, 4, []) := rfl
theorem en_98 {Ls : Nat} : (z_L0 Ls)[98]? = some (10, 4, []) := rfl
theorem en_99 {Ls : Nat} : (z_L0 Ls)[99]? = some (10, 4, []) := rfl
theorem en_100 {Ls : Nat} : (z_L0 Ls)[100]? = some (10, 3, []) := rfl
theorem en_101 {Ls : Nat} : (z_L0 Ls)[101]? = some (0, 3, [104, 0, 0]) := rfl
theorem en_102 {Ls : Nat} : (z_L0 Ls)[102]? = some (10, 1300, []) := rfl
theorem en_103 {Ls : Nat} : (z_L0 Ls)[103]? = some (1, 10, [55, 82, 85, 89, 106, 107, 108, 0, 0, 0]) := rfl
theorem en_104 {Ls : Nat} : (z_L0 Ls)[104]? = some (10, 80, []) := rfl
theorem en_105 {Ls : Nat} : (z_L0 Ls)[105]? = some (10, 128, []) := rfl
theorem en_106 {Ls : Nat} : (z_L0 Ls)[106]? = some (10, 5, []) := rfl
theorem en_107 {Ls : Nat} : (z_L0 Ls)[107]? = some (8, 65, [110, 0, 111, 112, 113, 114, 115, 116, 117, 118, 119, 120, 121, 122, 123, 124, 125, 0, 0, 0, 0, 0, 0, 0, 0, 0, 0, 126, 127, 0, 0, 0, 0, 0, 128, 129, 130, 131, 0, 132, 133, 134, 135, 136, 137, 138, 139, 140, 141, 142, 143, 144, 0, 0, 0, 0, 0, 0, 0, 145, 146, 147, 148, 149, 150]) := rfl
theorem en_108 {Ls : Nat} : (z_L0 Ls)[108]? = some (14, 4, [17, 18, 19, 20]) := rfl
theorem en_109 {Ls : Nat} : (z_L0 Ls)[109]? = some (10, 10, []) := rfl
theorem en_110 {Ls : Nat} : (z_L0 Ls)[110]? = some (10, 10, []) := rfl
theorem en_111 {Ls : Nat} : (z_L0 Ls)[111]? = some (10, 10, []) := rfl
theorem en_112 {Ls : Nat} : (z_L0 Ls)[112]? = some (10, 10, []) := rfl
theorem en_113 {Ls : Nat} : (z_L0 Ls)[113]? = some (10, 10, []) := rfl
theorem en_114 {Ls : Nat} : (z_L0 Ls)[114]? = some (10, 50, []) := rfl
theorem en_115 {Ls : Nat} : (z_L0 Ls)[115]? = some (10, 5, []) := rfl
theorem en_116 {Ls : Nat} : (z_L0 Ls)[116]? = some (10, 22, []) := rfl
theorem en_117 {Ls : Nat} : (z_L0 Ls)[117]? = some (10, 22, []) := rfl
theorem en_118 {Ls : Nat} : (z_L0 Ls)[118]? = some (10, 8, []) := rfl
theorem en_119 {Ls : Nat} : (z_L0 Ls)[119]? = some (10, 32, []) := rfl
theorem en_120 {Ls : Nat} : (z_L0 Ls)[120]? = some (10, 8, []) := rfl
theorem en_121 {Ls : Nat} : (z_L0 Ls)[121]? = some (10, 800, []) := rfl
theorem en_122 {Ls : Nat} : (z_L0 Ls)[122]? = some (10, 3, []) := rfl
theorem en_123 {Ls : Nat} : (z_L0 Ls)[123]? = some (10, 700, []) := rfl
theorem en_124 {Ls : Nat} : (z_L0 Ls)[124]? = some (10, 5, []) := rfl
theorem en_125 {Ls : Nat} : (z_L0 Ls)[125]? = some (10, 5, []) := rfl
theorem en_126 {Ls : Nat} : (z_L0 Ls)[126]? = some (10, 25, []) := rfl
theorem en_127 {Ls : Nat} : (z_L0 Ls)[127]? = some (10, 25, []) := rfl
theorem en_128 {Ls : Nat} : (z_L0 Ls)[128]? = some (10, 4, []) := rfl
theorem en_129 {Ls : Nat} : (z_L0 Ls)[129]? = some (10, 4, []) := rfl
theorem en_130 {Ls : Nat} : (z_L0 Ls)[130]? = some (10, 100, []) := rfl
theorem en_131 {Ls : Nat} : (z_L0 Ls)[131]? = some (10, 100, []) := rfl
theorem en_132 {Ls : Nat} : (z_L0 Ls)[132]? = some (10, 100, []) := rfl
theorem en_133 {Ls : Nat} : (z_L0 Ls)[133]? = some (10, 100, []) := rfl
theorem en_134 {Ls : Nat} : (z_L0 Ls)[134]? = some (10, 100, []) := rfl
theorem en_135 {Ls : Nat} : (z_L0 Ls)[135]? = some (12, 100, []) := rfl
theorem en_136 {Ls : Nat} : (z_L0 Ls)[136]? = some (10, 4, []) := rfl
theorem en_137 {Ls : Nat} : (z_L0 Ls)[137]? = some (10, 4, []) := rfl
theorem en_138 {Ls : Nat} : (z_L0 Ls)[138]? = some (10, 4, []) := rfl
theorem en_139 {Ls : Nat} : (z_L0 Ls)[139]? = some (10, 128, []) := rfl
theorem en_140 {Ls : Nat} : (z_L0 Ls)[140]? = some (10, 5, []) := rfl
theorem en_141 {Ls : Nat} : (z_L0 Ls)[141]? = some (10, 5, []) := rfl
theorem en_142 {Ls : Nat} : (z_L0 Ls)[142]? = some (10, 5, []) := rfl
theorem en_143 {Ls : Nat} : (z_L0 Ls)[143]? = some (10, 5, []) := rfl
theorem en_144 {Ls : Nat} : (z_L0 Ls)[144]? = some (10, 5, []) := rfl
theorem en_145 {Ls : Nat} : (z_L0 Ls)[145]? = some (10, 4, []) := rfl
theorem en_146 {Ls : Nat} : (z_L0 Ls)[146]? = some (10, 4, []) := rfl
theorem en_147 {Ls : Nat} : (z_L0 Ls)[147]? = some (10, 4, []) := rfl
theorem en_148 {Ls : Nat} : (z_L0 Ls)[148]? = some (10, 3, []) := rfl
theorem z_Ct.to {l : Launch} {mt : zMt} {d bc bs : Nat} {av : List Value} {h : zHP} {o : zO} {L : List zEn} {Lm : zML} {e M' : zMM} (hc : z_Ct l mt d bc bs av h o (L, e, Lm)) (q : some e = some M') : z_Ct l mt d bc bs av h o (L, M', Lm) := by cases q; exact hc
theorem z_ti {l : Launch} {mt : zMt} {d : Nat} {av : List Value} {h h' : zHP} {v : Int32} (hc : z_Ct l mt d (z_bo (.inl v : Int32 ⊕ Nat)) (6 * z_bo (.inl v : Int32 ⊕ Nat)) av h (z_oi (.inl v)) h') : z_Ct l mt d 0 0 av h (.inl (some (.int v))) h' := by
  rw [show z_bo (.inl v : Int32 ⊕ Nat) = 0 from rfl, Nat.mul_zero] at hc
  exact hc
theorem z_tl {l : Launch} {mt : zMt} {d : Nat} {av : List Value} {h h' : zHP} {v : Int64} (hc : z_Ct l mt d (z_bo (.inl v : Int64 ⊕ Nat)) (6 * z_bo (.inl v : Int64 ⊕ Nat)) av h (z_ol (.inl v)) h') : z_Ct l mt d 0 0 av h (.inl (some (.long v))) h' := by
  rw [show z_bo (.inl v : Int64 ⊕ Nat) = 0 from rfl, Nat.mul_zero] at hc
  exact hc
theorem z_tv {l : Launch} {mt : zMt} {d : Nat} {av : List Value} {h h' : zHP} {v : Unit} (hc : z_Ct l mt d (z_bo (.inl v : Unit ⊕ Nat)) (6 * z_bo (.inl v : Unit ⊕ Nat)) av h (z_ov (.inl v)) h') : z_Ct l mt d 0 0 av h (.inl (none)) h' := by
  rw [show z_bo (.inl v : Unit ⊕ Nat) = 0 from rfl, Nat.mul_zero] at hc
  exact hc
def z_sn (s : Nat) : Nat := [4, 7, 5, 4, 4, 5, 5, 5, 5, 4, 4, 6, 7, 5, 4, 4, 4, 5, 5, 5, 5, 4, 4, 6].getD (s - 3) 0
def z_sl (s : Nat) : Int32 := nI (z_sn s)
theorem z_s24 {s : Nat} (hs : 3 ≤ s ∧ s < 27) : s = 3 ∨ s = 4 ∨ s = 5 ∨ s = 6 ∨ s = 7 ∨ s = 8 ∨ s = 9 ∨ s = 10 ∨ s = 11 ∨ s = 12 ∨ s = 13 ∨ s = 14 ∨ s = 15 ∨ s = 16 ∨ s = 17 ∨ s = 18 ∨ s = 19 ∨ s = 20 ∨ s = 21 ∨ s = 22 ∨ s = 23 ∨ s = 24 ∨ s = 25 ∨ s = 26 := by omega
theorem z_se {Ls s : Nat} (hs : 3 ≤ s ∧ s < 27) : (z_L0 Ls)[s]? = some (15, s + 24, []) := by
  rcases z_s24 hs with rfl | rfl | rfl | rfl | rfl | rfl | rfl | rfl | rfl | rfl | rfl | rfl | rfl | rfl | rfl | rfl | rfl | rfl | rfl | rfl | rfl | rfl | rfl | rfl <;> rfl
theorem z_sw {Ls s : Nat} (hs : 3 ≤ s ∧ s < 27) : (z_L0 Ls)[s + 24]? = some (11, z_sn s, []) := by
  rcases z_s24 hs with rfl | rfl | rfl | rfl | rfl | rfl | rfl | rfl | rfl | rfl | rfl | rfl | rfl | rfl | rfl | rfl | rfl | rfl | rfl | rfl | rfl | rfl | rfl | rfl <;> rfl
theorem z_sl_ok {s : Nat} : nI (z_sn s) >>> ((0 : Int32) &&& 31) = z_sl s := by
  rw [show ((0 : Int32) &&& 31) = 0 from rfl]
  exact Int32.shiftRight_zero
theorem z_rb_c {v : Value} {ls : List Value} {N : Nat} (h : z_rbB [v] N = true) (k : z_rbB ls N = true) : z_rbB (v :: ls) N = true := by
  unfold z_rbB at h k ⊢
  rw [List.all_cons] at h ⊢
  rw [k]
  rw [List.all_nil] at h
  exact h
theorem z_sb1 {s : Nat} (hs : 3 ≤ s ∧ s < 27) : z_rbB [.ref s] 150 = true := by
  show (decide (s < 150) && true) = true
  rw [decide_eq_true (show s < 150 by omega)]
  rfl
theorem z_sb {Ls s : Nat} (hs : 3 ≤ s ∧ s < 27) : z_rbB [.ref s] (z_L0 Ls).length = true := by
  rw [z_len]
  exact z_sb1 hs
theorem z_sb2 {Ls s : Nat} (hs : 3 ≤ s ∧ s < 27) : z_rbB [.ref s, .ref (s + 24)] (z_L0 Ls).length = true := by
  rw [z_len]
  refine z_rb_c (z_sb1 hs) ?_
  show (decide (s + 24 < 150) && true) = true
  rw [decide_eq_true (show s + 24 < 150 by omega)]
  rfl
theorem z_sn_lt (s : Nat) : z_sn s < 2 ^ 31 := by
  by_cases hs : 3 ≤ s ∧ s < 27
  · rcases z_s24 hs with rfl | rfl | rfl | rfl | rfl | rfl | rfl | rfl | rfl | rfl | rfl | rfl | rfl | rfl | rfl | rfl | rfl | rfl | rfl | rfl | rfl | rfl | rfl | rfl <;> decide
  · have : z_sn s = 0 ∨ s < 3 := by
      by_cases h3 : s < 3
      · exact Or.inr h3
      · exact Or.inl (by unfold z_sn; rw [List.getD_eq_getElem?_getD, List.getElem?_eq_none (by simp; omega)]; rfl)
    rcases this with h | h
    · omega
    · have : s = 0 ∨ s = 1 ∨ s = 2 := by omega
      rcases this with rfl | rfl | rfl <;> decide
def z_kd (i : Int32) : Nat := [15, 16, 17, 18].getD i.toNatClampNeg 0
theorem z_kd_ok {i : Int32} (h : z_ib i 4 = true) : ([17, 18, 19, 20] : List Nat).getD i.toNatClampNeg 0 = z_kd i + 2 := by
  simp only [z_ib, Bool.and_eq_true, decide_eq_true_eq] at h
  unfold z_kd
  generalize i.toNatClampNeg = k at h
  have : k = 0 ∨ k = 1 ∨ k = 2 ∨ k = 3 := by omega
  rcases this with rfl | rfl | rfl | rfl <;> rfl
theorem ka_p4 : nI 4 = (4 : Int32) := rfl
theorem ka_p700 : nI 700 = (700 : Int32) := rfl
theorem kb_m2 : (Int8.ofInt (-2)).toInt32 = (-2 : Int32) := rfl
theorem kb_p6 : (Int8.ofInt (6)).toInt32 = (6 : Int32) := rfl
theorem kb_p7 : (Int8.ofInt (7)).toInt32 = (7 : Int32) := rfl
theorem kb_p8 : (Int8.ofInt (8)).toInt32 = (8 : Int32) := rfl
theorem kb_p9 : (Int8.ofInt (9)).toInt32 = (9 : Int32) := rfl
theorem kb_p10 : (Int8.ofInt (10)).toInt32 = (10 : Int32) := rfl
theorem kb_p11 : (Int8.ofInt (11)).toInt32 = (11 : Int32) := rfl
theorem kb_p12 : (Int8.ofInt (12)).toInt32 = (12 : Int32) := rfl
theorem kb_p13 : (Int8.ofInt (13)).toInt32 = (13 : Int32) := rfl
theorem kb_p15 : (Int8.ofInt (15)).toInt32 = (15 : Int32) := rfl
theorem kb_p16 : (Int8.ofInt (16)).toInt32 = (16 : Int32) := rfl
theorem kb_p19 : (Int8.ofInt (19)).toInt32 = (19 : Int32) := rfl
theorem kb_p20 : (Int8.ofInt (20)).toInt32 = (20 : Int32) := rfl
theorem kb_p22 : (Int8.ofInt (22)).toInt32 = (22 : Int32) := rfl
theorem kb_p24 : (Int8.ofInt (24)).toInt32 = (24 : Int32) := rfl
theorem kb_p25 : (Int8.ofInt (25)).toInt32 = (25 : Int32) := rfl
theorem kb_p31 : (Int8.ofInt (31)).toInt32 = (31 : Int32) := rfl
theorem kb_p32 : (Int8.ofInt (32)).toInt32 = (32 : Int32) := rfl
theorem kb_p40 : (Int8.ofInt (40)).toInt32 = (40 : Int32) := rfl
theorem kb_p48 : (Int8.ofInt (48)).toInt32 = (48 : Int32) := rfl
theorem kb_p50 : (Int8.ofInt (50)).toInt32 = (50 : Int32) := rfl
theorem kb_p57 : (Int8.ofInt (57)).toInt32 = (57 : Int32) := rfl
theorem kb_p59 : (Int8.ofInt (59)).toInt32 = (59 : Int32) := rfl
theorem kb_p63 : (Int8.ofInt (63)).toInt32 = (63 : Int32) := rfl
theorem kb_p80 : (Int8.ofInt (80)).toInt32 = (80 : Int32) := rfl
theorem kb_p97 : (Int8.ofInt (97)).toInt32 = (97 : Int32) := rfl
theorem kb_p99 : (Int8.ofInt (99)).toInt32 = (99 : Int32) := rfl
theorem kb_p100 : (Int8.ofInt (100)).toInt32 = (100 : Int32) := rfl
theorem kb_p122 : (Int8.ofInt (122)).toInt32 = (122 : Int32) := rfl
theorem kc_m8 : Int32.ofInt (-8) = (-8 : Int32) := rfl
theorem kc_m1 : Int32.ofInt (-1) = (-1 : Int32) := rfl
theorem kc_p0 : Int32.ofInt (0) = (0 : Int32) := rfl
theorem kc_p1 : Int32.ofInt (1) = (1 : Int32) := rfl
theorem kc_p2 : Int32.ofInt (2) = (2 : Int32) := rfl
theorem kc_p3 : Int32.ofInt (3) = (3 : Int32) := rfl
theorem kc_p4 : Int32.ofInt (4) = (4 : Int32) := rfl
theorem kc_p5 : Int32.ofInt (5) = (5 : Int32) := rfl
theorem kl_p0 : Int64.ofNat ((0 : Fin 2) : Nat) = (0 : Int64) := rfl
theorem kl_p1 : Int64.ofNat ((1 : Fin 2) : Nat) = (1 : Int64) := rfl
theorem kn_p0 : ((0 : Int32)).toNatClampNeg = 0 := rfl
theorem kn_p1 : ((1 : Int32)).toNatClampNeg = 1 := rfl
theorem kn_p2 : ((2 : Int32)).toNatClampNeg = 2 := rfl
theorem kn_p3 : ((3 : Int32)).toNatClampNeg = 3 := rfl
theorem kn_p4 : ((4 : Int32)).toNatClampNeg = 4 := rfl
theorem kn_p5 : ((5 : Int32)).toNatClampNeg = 5 := rfl
theorem kn_p6 : ((6 : Int32)).toNatClampNeg = 6 := rfl
theorem kn_p7 : ((7 : Int32)).toNatClampNeg = 7 := rfl
theorem kn_p8 : ((8 : Int32)).toNatClampNeg = 8 := rfl
theorem kn_p9 : ((9 : Int32)).toNatClampNeg = 9 := rfl
theorem kn_p10 : ((10 : Int32)).toNatClampNeg = 10 := rfl
theorem kn_p16 : ((16 : Int32)).toNatClampNeg = 16 := rfl
theorem kn_p22 : ((22 : Int32)).toNatClampNeg = 22 := rfl
theorem kn_p25 : ((25 : Int32)).toNatClampNeg = 25 := rfl
theorem kn_p32 : ((32 : Int32)).toNatClampNeg = 32 := rfl
theorem kn_p50 : ((50 : Int32)).toNatClampNeg = 50 := rfl
theorem kn_p80 : ((80 : Int32)).toNatClampNeg = 80 := rfl
theorem kn_p100 : ((100 : Int32)).toNatClampNeg = 100 := rfl
theorem kn_p128 : ((128 : Int32)).toNatClampNeg = 128 := rfl
theorem kn_p400 : ((400 : Int32)).toNatClampNeg = 400 := rfl
theorem kn_p640 : ((640 : Int32)).toNatClampNeg = 640 := rfl
theorem kn_p700 : ((700 : Int32)).toNatClampNeg = 700 := rfl
theorem kn_p800 : ((800 : Int32)).toNatClampNeg = 800 := rfl
theorem kn_p1300 : ((1300 : Int32)).toNatClampNeg = 1300 := rfl
theorem ks_p128 : (Int16.ofInt (128)).toInt32 = (128 : Int32) := rfl
theorem ks_p255 : (Int16.ofInt (255)).toInt32 = (255 : Int32) := rfl
theorem ks_p400 : (Int16.ofInt (400)).toInt32 = (400 : Int32) := rfl
theorem ks_p640 : (Int16.ofInt (640)).toInt32 = (640 : Int32) := rfl
theorem ks_p680 : (Int16.ofInt (680)).toInt32 = (680 : Int32) := rfl
theorem ks_p700 : (Int16.ofInt (700)).toInt32 = (700 : Int32) := rfl
theorem ks_p800 : (Int16.ofInt (800)).toInt32 = (800 : Int32) := rfl
theorem ks_p1000 : (Int16.ofInt (1000)).toInt32 = (1000 : Int32) := rfl
theorem ks_p1024 : (Int16.ofInt (1024)).toInt32 = (1024 : Int32) := rfl
theorem ks_p1300 : (Int16.ofInt (1300)).toInt32 = (1300 : Int32) := rfl
theorem ks_p1999 : (Int16.ofInt (1999)).toInt32 = (1999 : Int32) := rfl
theorem ks_p2000 : (Int16.ofInt (2000)).toInt32 = (2000 : Int32) := rfl
theorem ks_p9999 : (Int16.ofInt (9999)).toInt32 = (9999 : Int32) := rfl
theorem ks_p12345 : (Int16.ofInt (12345)).toInt32 = (12345 : Int32) := rfl
theorem ks_p32767 : (Int16.ofInt (32767)).toInt32 = (32767 : Int32) := rfl
