/-! ===== the heap behind the constructors: its shape and references stand; the two laws may change places ===== -/
def SH : List (Nat × Nat) := [(12, 11), (10, 6), (0, 260), (5, 7), (0, 64), (0, 8), (0, 64), (0, 64), (0, 8), (0, 8), (0, 8), (6, 3), (0, 108), (0, 9), (8, 6), (0, 16), (0, 16), (0, 16), (0, 241), (0, 26), (2, 5), (0, 20), (0, 20), (0, 20), (4, 2), (3, 8), (0, 16), (0, 16), (0, 16), (0, 16), (0, 240), (0, 240), (9, 8), (7, 3), (0, 10), (0, 64), (3, 8), (0, 16), (0, 16), (0, 16), (0, 16), (0, 240), (0, 240), (11, 20), (0, 16), (0, 16), (0, 16), (0, 16), (0, 16), (0, 20), (0, 20), (0, 20), (0, 20), (0, 20), (0, 160), (0, 64), (11, 20), (0, 16), (0, 16), (0, 16), (0, 16), (0, 16), (0, 20), (0, 20), (0, 20), (0, 20), (0, 20), (0, 160), (0, 64), (11, 20), (0, 16), (0, 16), (0, 16), (0, 16), (0, 16), (0, 20), (0, 20), (0, 20), (0, 20), (0, 20), (0, 160), (0, 64), (13, 48), (0, 391), (0, 391), (0, 391), (0, 64), (0, 8), (0, 8), (0, 8), (1, 260), (0, 260), (0, 260), (0, 16), (0, 16), (0, 16), (0, 16), (0, 260), (0, 16), (0, 16), (0, 16), (0, 16), (0, 260), (0, 10), (0, 64), (0, 8), (0, 10), (0, 10), (0, 241), (0, 1446), (0, 16), (0, 26), (1, 48), (0, 8)]
def RFS : List (List (Option Nat)) := [[some 1, some 3, some 11, some 14, some 20, some 24, some 32, some 43, some 56, some 69, none], [some 2, none, none, none, none, none], [], [some 4, some 5, some 6, some 7, some 8, some 9, some 10], [], [], [], [], [], [], [], [some 1, some 12, some 13], [], [], [some 1, some 15, some 16, some 17, some 18, some 19], [], [], [], [], [], [some 1, some 21, some 22, some 23, none], [], [], [], [some 1, some 25], [none, none, some 26, some 27, some 28, some 29, some 30, some 31], [], [], [], [], [], [], [some 3, some 33, some 36, none, none, none, none, none], [some 34, some 35, none], [], [], [none, none, some 37, some 38, some 39, some 40, some 41, some 42], [], [], [], [], [], [], [none, none, none, none, none, none, none, none, some 44, some 45, some 46, some 47, some 48, some 49, some 50, some 51, some 52, some 53, some 54, some 55], [], [], [], [], [], [], [], [], [], [], [], [], [none, none, none, none, none, none, none, none, some 57, some 58, some 59, some 60, some 61, some 62, some 63, some 64, some 65, some 66, some 67, some 68], [], [], [], [], [], [], [], [], [], [], [], [], [none, none, none, none, none, none, none, none, some 70, some 71, some 72, some 73, some 74, some 75, some 76, some 77, some 78, some 79, some 80, some 81], [], [], [], [], [], [], [], [], [], [], [], [], [some 83, some 84, some 85, some 86, none, none, some 87, some 88, some 89, some 90, none, none, none, none, none, none, none, none, none, none, some 91, some 92, some 93, some 94, some 95, some 96, some 97, some 98, some 99, some 100, some 101, some 102, some 103, none, none, none, none, some 104, some 105, some 106, some 107, some 108, some 109, some 110, some 111, some 112, some 113, none], [], [], [], [], [], [], [], [], [], [], [], [], [], [], [], [], [], [], [], [], [], [], [], [], [], [], [], [], [], [], []]
/-- the law of the board, the law of the reader -/
def lwB (sw : Bool) : Nat := if sw then 25 else 36
def lwR (sw : Bool) : Nat := if sw then 36 else 25
def GR (sw : Bool) (i j : Nat) : Option Nat := if i = 32 ∧ j = 2 then some (lwB sw) else if i = 24 ∧ j = 1 then some (lwR sw) else ((RFS[i]?).getD [])[j]?.getD none
abbrev FF : Type := Nat → Nat → Int32
abbrev QQ : Type := Option Value → Bool → FF → Prop
def hp (sw : Bool) (f : FF) : HP := (SH, GR sw, f)
abbrev XP (G : GC) (M : MR) (d pc : Nat) (ls st : List Value) (sw : Bool) (f : FF) (Q : QQ) : Prop := WP G M d 0 0 pc ls st (hp sw f) (fun v h' => ∃ (sw' : Bool) (f' : FF), h' = hp sw' f' ∧ Q v sw' f')
def retst (v : Option Value) (st : List Value) : List Value := match v with
  | none => st
  | some u => u :: st
theorem retst_eq (v : Option Value) (st : List Value) : v.toList ++ st = retst v st := by cases v <;> rfl
def b2i (c : Prop) [Decidable c] : Int32 := if c then 1 else 0
theorem b2i_01 (c : Prop) [Decidable c] : b2i c = 0 ∨ b2i c = 1 := by unfold b2i; split; exact Or.inr rfl; exact Or.inl rfl
theorem b2i_t {c : Prop} [Decidable c] (h : c) : b2i c = 1 := if_pos h
theorem b2i_f {c : Prop} [Decidable c] (h : ¬ c) : b2i c = 0 := if_neg h
def isW (q : Nat) : Prop := q = 43 ∨ q = 56 ∨ q = 69
def isLw (q : Nat) : Prop := q = 25 ∨ q = 36
theorem isLw_B (sw : Bool) : isLw (lwB sw) := by cases sw; exact Or.inr rfl; exact Or.inl rfl
theorem isLw_R (sw : Bool) : isLw (lwR sw) := by cases sw; exact Or.inl rfl; exact Or.inr rfl
theorem sh0 : SH[0]? = some (12, 11) := rfl
theorem gr0_0 (sw : Bool) : GR sw 0 0 = some 1 := rfl
theorem gr0_1 (sw : Bool) : GR sw 0 1 = some 3 := rfl
theorem gr0_2 (sw : Bool) : GR sw 0 2 = some 11 := rfl
theorem gr0_3 (sw : Bool) : GR sw 0 3 = some 14 := rfl
theorem gr0_4 (sw : Bool) : GR sw 0 4 = some 20 := rfl
theorem gr0_5 (sw : Bool) : GR sw 0 5 = some 24 := rfl
theorem gr0_6 (sw : Bool) : GR sw 0 6 = some 32 := rfl
theorem gr0_7 (sw : Bool) : GR sw 0 7 = some 43 := rfl
theorem gr0_8 (sw : Bool) : GR sw 0 8 = some 56 := rfl
theorem gr0_9 (sw : Bool) : GR sw 0 9 = some 69 := rfl
theorem sh1 : SH[1]? = some (10, 6) := rfl
theorem gr1_0 (sw : Bool) : GR sw 1 0 = some 2 := rfl
theorem sh2 : SH[2]? = some (0, 260) := rfl
theorem sh3 : SH[3]? = some (5, 7) := rfl
theorem gr3_0 (sw : Bool) : GR sw 3 0 = some 4 := rfl
theorem gr3_1 (sw : Bool) : GR sw 3 1 = some 5 := rfl
theorem gr3_2 (sw : Bool) : GR sw 3 2 = some 6 := rfl
theorem gr3_3 (sw : Bool) : GR sw 3 3 = some 7 := rfl
theorem gr3_4 (sw : Bool) : GR sw 3 4 = some 8 := rfl
theorem gr3_5 (sw : Bool) : GR sw 3 5 = some 9 := rfl
theorem gr3_6 (sw : Bool) : GR sw 3 6 = some 10 := rfl
theorem sh4 : SH[4]? = some (0, 64) := rfl
theorem sh5 : SH[5]? = some (0, 8) := rfl
theorem sh6 : SH[6]? = some (0, 64) := rfl
theorem sh7 : SH[7]? = some (0, 64) := rfl
theorem sh8 : SH[8]? = some (0, 8) := rfl
theorem sh9 : SH[9]? = some (0, 8) := rfl
theorem sh10 : SH[10]? = some (0, 8) := rfl
theorem sh11 : SH[11]? = some (6, 3) := rfl
theorem gr11_1 (sw : Bool) : GR sw 11 1 = some 12 := rfl
theorem gr11_2 (sw : Bool) : GR sw 11 2 = some 13 := rfl
theorem gr11_0 (sw : Bool) : GR sw 11 0 = some 1 := rfl
theorem sh12 : SH[12]? = some (0, 108) := rfl
theorem sh13 : SH[13]? = some (0, 9) := rfl
theorem sh14 : SH[14]? = some (8, 6) := rfl
theorem gr14_1 (sw : Bool) : GR sw 14 1 = some 15 := rfl
theorem gr14_2 (sw : Bool) : GR sw 14 2 = some 16 := rfl
theorem gr14_3 (sw : Bool) : GR sw 14 3 = some 17 := rfl
theorem gr14_4 (sw : Bool) : GR sw 14 4 = some 18 := rfl
theorem gr14_5 (sw : Bool) : GR sw 14 5 = some 19 := rfl
theorem gr14_0 (sw : Bool) : GR sw 14 0 = some 1 := rfl
theorem sh15 : SH[15]? = some (0, 16) := rfl
theorem sh16 : SH[16]? = some (0, 16) := rfl
theorem sh17 : SH[17]? = some (0, 16) := rfl
theorem sh18 : SH[18]? = some (0, 241) := rfl
theorem sh19 : SH[19]? = some (0, 26) := rfl
theorem sh20 : SH[20]? = some (2, 5) := rfl
theorem gr20_1 (sw : Bool) : GR sw 20 1 = some 21 := rfl
theorem gr20_2 (sw : Bool) : GR sw 20 2 = some 22 := rfl
theorem gr20_3 (sw : Bool) : GR sw 20 3 = some 23 := rfl
theorem gr20_0 (sw : Bool) : GR sw 20 0 = some 1 := rfl
theorem sh21 : SH[21]? = some (0, 20) := rfl
theorem sh22 : SH[22]? = some (0, 20) := rfl
theorem sh23 : SH[23]? = some (0, 20) := rfl
theorem sh24 : SH[24]? = some (4, 2) := rfl
theorem gr24_0 (sw : Bool) : GR sw 24 0 = some 1 := rfl
theorem sh25 : SH[25]? = some (3, 8) := rfl
theorem gr25_2 (sw : Bool) : GR sw 25 2 = some 26 := rfl
theorem gr25_3 (sw : Bool) : GR sw 25 3 = some 27 := rfl
theorem gr25_4 (sw : Bool) : GR sw 25 4 = some 28 := rfl
theorem gr25_5 (sw : Bool) : GR sw 25 5 = some 29 := rfl
theorem gr25_6 (sw : Bool) : GR sw 25 6 = some 30 := rfl
theorem gr25_7 (sw : Bool) : GR sw 25 7 = some 31 := rfl
theorem sh26 : SH[26]? = some (0, 16) := rfl
theorem sh27 : SH[27]? = some (0, 16) := rfl
theorem sh28 : SH[28]? = some (0, 16) := rfl
theorem sh29 : SH[29]? = some (0, 16) := rfl
theorem sh30 : SH[30]? = some (0, 240) := rfl
theorem sh31 : SH[31]? = some (0, 240) := rfl
theorem sh32 : SH[32]? = some (9, 8) := rfl
theorem gr32_1 (sw : Bool) : GR sw 32 1 = some 33 := rfl
theorem gr32_0 (sw : Bool) : GR sw 32 0 = some 3 := rfl
theorem sh33 : SH[33]? = some (7, 3) := rfl
theorem gr33_0 (sw : Bool) : GR sw 33 0 = some 34 := rfl
theorem gr33_1 (sw : Bool) : GR sw 33 1 = some 35 := rfl
theorem sh34 : SH[34]? = some (0, 10) := rfl
theorem sh35 : SH[35]? = some (0, 64) := rfl
theorem sh36 : SH[36]? = some (3, 8) := rfl
theorem gr36_2 (sw : Bool) : GR sw 36 2 = some 37 := rfl
theorem gr36_3 (sw : Bool) : GR sw 36 3 = some 38 := rfl
theorem gr36_4 (sw : Bool) : GR sw 36 4 = some 39 := rfl
theorem gr36_5 (sw : Bool) : GR sw 36 5 = some 40 := rfl
theorem gr36_6 (sw : Bool) : GR sw 36 6 = some 41 := rfl
theorem gr36_7 (sw : Bool) : GR sw 36 7 = some 42 := rfl
theorem sh37 : SH[37]? = some (0, 16) := rfl
theorem sh38 : SH[38]? = some (0, 16) := rfl
theorem sh39 : SH[39]? = some (0, 16) := rfl
theorem sh40 : SH[40]? = some (0, 16) := rfl
theorem sh41 : SH[41]? = some (0, 240) := rfl
theorem sh42 : SH[42]? = some (0, 240) := rfl
theorem sh43 : SH[43]? = some (11, 20) := rfl
theorem gr43_8 (sw : Bool) : GR sw 43 8 = some 44 := rfl
theorem gr43_9 (sw : Bool) : GR sw 43 9 = some 45 := rfl
theorem gr43_10 (sw : Bool) : GR sw 43 10 = some 46 := rfl
theorem gr43_11 (sw : Bool) : GR sw 43 11 = some 47 := rfl
theorem gr43_12 (sw : Bool) : GR sw 43 12 = some 48 := rfl
theorem gr43_13 (sw : Bool) : GR sw 43 13 = some 49 := rfl
theorem gr43_14 (sw : Bool) : GR sw 43 14 = some 50 := rfl
theorem gr43_15 (sw : Bool) : GR sw 43 15 = some 51 := rfl
theorem gr43_16 (sw : Bool) : GR sw 43 16 = some 52 := rfl
theorem gr43_17 (sw : Bool) : GR sw 43 17 = some 53 := rfl
theorem gr43_18 (sw : Bool) : GR sw 43 18 = some 54 := rfl
theorem gr43_19 (sw : Bool) : GR sw 43 19 = some 55 := rfl
theorem sh44 : SH[44]? = some (0, 16) := rfl
theorem sh45 : SH[45]? = some (0, 16) := rfl
theorem sh46 : SH[46]? = some (0, 16) := rfl
theorem sh47 : SH[47]? = some (0, 16) := rfl
theorem sh48 : SH[48]? = some (0, 16) := rfl
theorem sh49 : SH[49]? = some (0, 20) := rfl
theorem sh50 : SH[50]? = some (0, 20) := rfl
theorem sh51 : SH[51]? = some (0, 20) := rfl
theorem sh52 : SH[52]? = some (0, 20) := rfl
theorem sh53 : SH[53]? = some (0, 20) := rfl
theorem sh54 : SH[54]? = some (0, 160) := rfl
theorem sh55 : SH[55]? = some (0, 64) := rfl
theorem sh56 : SH[56]? = some (11, 20) := rfl
theorem gr56_8 (sw : Bool) : GR sw 56 8 = some 57 := rfl
theorem gr56_9 (sw : Bool) : GR sw 56 9 = some 58 := rfl
theorem gr56_10 (sw : Bool) : GR sw 56 10 = some 59 := rfl
theorem gr56_11 (sw : Bool) : GR sw 56 11 = some 60 := rfl
theorem gr56_12 (sw : Bool) : GR sw 56 12 = some 61 := rfl
theorem gr56_13 (sw : Bool) : GR sw 56 13 = some 62 := rfl
theorem gr56_14 (sw : Bool) : GR sw 56 14 = some 63 := rfl
theorem gr56_15 (sw : Bool) : GR sw 56 15 = some 64 := rfl
theorem gr56_16 (sw : Bool) : GR sw 56 16 = some 65 := rfl
theorem gr56_17 (sw : Bool) : GR sw 56 17 = some 66 := rfl
theorem gr56_18 (sw : Bool) : GR sw 56 18 = some 67 := rfl
theorem gr56_19 (sw : Bool) : GR sw 56 19 = some 68 := rfl
theorem sh57 : SH[57]? = some (0, 16) := rfl
theorem sh58 : SH[58]? = some (0, 16) := rfl
theorem sh59 : SH[59]? = some (0, 16) := rfl
theorem sh60 : SH[60]? = some (0, 16) := rfl
theorem sh61 : SH[61]? = some (0, 16) := rfl
theorem sh62 : SH[62]? = some (0, 20) := rfl
theorem sh63 : SH[63]? = some (0, 20) := rfl
theorem sh64 : SH[64]? = some (0, 20) := rfl
theorem sh65 : SH[65]? = some (0, 20) := rfl
theorem sh66 : SH[66]? = some (0, 20) := rfl
theorem sh67 : SH[67]? = some (0, 160) := rfl
theorem sh68 : SH[68]? = some (0, 64) := rfl
theorem sh69 : SH[69]? = some (11, 20) := rfl
theorem gr69_8 (sw : Bool) : GR sw 69 8 = some 70 := rfl
theorem gr69_9 (sw : Bool) : GR sw 69 9 = some 71 := rfl
theorem gr69_10 (sw : Bool) : GR sw 69 10 = some 72 := rfl
theorem gr69_11 (sw : Bool) : GR sw 69 11 = some 73 := rfl
theorem gr69_12 (sw : Bool) : GR sw 69 12 = some 74 := rfl
theorem gr69_13 (sw : Bool) : GR sw 69 13 = some 75 := rfl
theorem gr69_14 (sw : Bool) : GR sw 69 14 = some 76 := rfl
theorem gr69_15 (sw : Bool) : GR sw 69 15 = some 77 := rfl
theorem gr69_16 (sw : Bool) : GR sw 69 16 = some 78 := rfl
theorem gr69_17 (sw : Bool) : GR sw 69 17 = some 79 := rfl
theorem gr69_18 (sw : Bool) : GR sw 69 18 = some 80 := rfl
theorem gr69_19 (sw : Bool) : GR sw 69 19 = some 81 := rfl
theorem sh70 : SH[70]? = some (0, 16) := rfl
theorem sh71 : SH[71]? = some (0, 16) := rfl
theorem sh72 : SH[72]? = some (0, 16) := rfl
theorem sh73 : SH[73]? = some (0, 16) := rfl
theorem sh74 : SH[74]? = some (0, 16) := rfl
theorem sh75 : SH[75]? = some (0, 20) := rfl
theorem sh76 : SH[76]? = some (0, 20) := rfl
theorem sh77 : SH[77]? = some (0, 20) := rfl
theorem sh78 : SH[78]? = some (0, 20) := rfl
theorem sh79 : SH[79]? = some (0, 20) := rfl
theorem sh80 : SH[80]? = some (0, 160) := rfl
theorem sh81 : SH[81]? = some (0, 64) := rfl
theorem sh82 : SH[82]? = some (13, 48) := rfl
theorem gr82_0 (sw : Bool) : GR sw 82 0 = some 83 := rfl
theorem gr82_1 (sw : Bool) : GR sw 82 1 = some 84 := rfl
theorem gr82_2 (sw : Bool) : GR sw 82 2 = some 85 := rfl
theorem gr82_3 (sw : Bool) : GR sw 82 3 = some 86 := rfl
theorem gr82_6 (sw : Bool) : GR sw 82 6 = some 87 := rfl
theorem gr82_7 (sw : Bool) : GR sw 82 7 = some 88 := rfl
theorem gr82_8 (sw : Bool) : GR sw 82 8 = some 89 := rfl
theorem gr82_9 (sw : Bool) : GR sw 82 9 = some 90 := rfl
theorem gr82_20 (sw : Bool) : GR sw 82 20 = some 91 := rfl
theorem gr82_21 (sw : Bool) : GR sw 82 21 = some 92 := rfl
theorem gr82_22 (sw : Bool) : GR sw 82 22 = some 93 := rfl
theorem gr82_23 (sw : Bool) : GR sw 82 23 = some 94 := rfl
theorem gr82_24 (sw : Bool) : GR sw 82 24 = some 95 := rfl
theorem gr82_25 (sw : Bool) : GR sw 82 25 = some 96 := rfl
theorem gr82_26 (sw : Bool) : GR sw 82 26 = some 97 := rfl
theorem gr82_27 (sw : Bool) : GR sw 82 27 = some 98 := rfl
theorem gr82_28 (sw : Bool) : GR sw 82 28 = some 99 := rfl
theorem gr82_29 (sw : Bool) : GR sw 82 29 = some 100 := rfl
theorem gr82_30 (sw : Bool) : GR sw 82 30 = some 101 := rfl
theorem gr82_31 (sw : Bool) : GR sw 82 31 = some 102 := rfl
theorem gr82_32 (sw : Bool) : GR sw 82 32 = some 103 := rfl
theorem gr82_37 (sw : Bool) : GR sw 82 37 = some 104 := rfl
theorem gr82_38 (sw : Bool) : GR sw 82 38 = some 105 := rfl
theorem gr82_39 (sw : Bool) : GR sw 82 39 = some 106 := rfl
theorem gr82_40 (sw : Bool) : GR sw 82 40 = some 107 := rfl
theorem gr82_41 (sw : Bool) : GR sw 82 41 = some 108 := rfl
theorem gr82_42 (sw : Bool) : GR sw 82 42 = some 109 := rfl
theorem gr82_43 (sw : Bool) : GR sw 82 43 = some 110 := rfl
theorem gr82_44 (sw : Bool) : GR sw 82 44 = some 111 := rfl
theorem gr82_45 (sw : Bool) : GR sw 82 45 = some 112 := rfl
theorem gr82_46 (sw : Bool) : GR sw 82 46 = some 113 := rfl
theorem sh83 : SH[83]? = some (0, 391) := rfl
theorem sh84 : SH[84]? = some (0, 391) := rfl
theorem sh85 : SH[85]? = some (0, 391) := rfl
theorem sh86 : SH[86]? = some (0, 64) := rfl
theorem sh87 : SH[87]? = some (0, 8) := rfl
theorem sh88 : SH[88]? = some (0, 8) := rfl
theorem sh89 : SH[89]? = some (0, 8) := rfl
theorem sh90 : SH[90]? = some (1, 260) := rfl
theorem sh91 : SH[91]? = some (0, 260) := rfl
theorem sh92 : SH[92]? = some (0, 260) := rfl
theorem sh93 : SH[93]? = some (0, 16) := rfl
theorem sh94 : SH[94]? = some (0, 16) := rfl
theorem sh95 : SH[95]? = some (0, 16) := rfl
theorem sh96 : SH[96]? = some (0, 16) := rfl
theorem sh97 : SH[97]? = some (0, 260) := rfl
theorem sh98 : SH[98]? = some (0, 16) := rfl
theorem sh99 : SH[99]? = some (0, 16) := rfl
theorem sh100 : SH[100]? = some (0, 16) := rfl
theorem sh101 : SH[101]? = some (0, 16) := rfl
theorem sh102 : SH[102]? = some (0, 260) := rfl
theorem sh103 : SH[103]? = some (0, 10) := rfl
theorem sh104 : SH[104]? = some (0, 64) := rfl
theorem sh105 : SH[105]? = some (0, 8) := rfl
theorem sh106 : SH[106]? = some (0, 10) := rfl
theorem sh107 : SH[107]? = some (0, 10) := rfl
theorem sh108 : SH[108]? = some (0, 241) := rfl
theorem sh109 : SH[109]? = some (0, 1446) := rfl
theorem sh110 : SH[110]? = some (0, 16) := rfl
theorem sh111 : SH[111]? = some (0, 26) := rfl
theorem sh112 : SH[112]? = some (1, 48) := rfl
theorem sh113 : SH[113]? = some (0, 8) := rfl
theorem gr32_2 (sw : Bool) : GR sw 32 2 = some (lwB sw) := rfl
theorem gr24_1 (sw : Bool) : GR sw 24 1 = some (lwR sw) := rfl
theorem shW {q : Nat} (h : isW q) : SH[q]? = some (11, 20) := by rcases h with rfl | rfl | rfl <;> rfl
theorem shW_1 {q : Nat} (h : isW q) : SH[q + 1]? = some (0, 16) := by rcases h with rfl | rfl | rfl <;> rfl
theorem grW_8 {sw : Bool} {q : Nat} (h : isW q) : GR sw q 8 = some (q + 1) := by rcases h with rfl | rfl | rfl <;> rfl
theorem shW_2 {q : Nat} (h : isW q) : SH[q + 2]? = some (0, 16) := by rcases h with rfl | rfl | rfl <;> rfl
theorem grW_9 {sw : Bool} {q : Nat} (h : isW q) : GR sw q 9 = some (q + 2) := by rcases h with rfl | rfl | rfl <;> rfl
theorem shW_3 {q : Nat} (h : isW q) : SH[q + 3]? = some (0, 16) := by rcases h with rfl | rfl | rfl <;> rfl
theorem grW_10 {sw : Bool} {q : Nat} (h : isW q) : GR sw q 10 = some (q + 3) := by rcases h with rfl | rfl | rfl <;> rfl
theorem shW_4 {q : Nat} (h : isW q) : SH[q + 4]? = some (0, 16) := by rcases h with rfl | rfl | rfl <;> rfl
theorem grW_11 {sw : Bool} {q : Nat} (h : isW q) : GR sw q 11 = some (q + 4) := by rcases h with rfl | rfl | rfl <;> rfl
theorem shW_5 {q : Nat} (h : isW q) : SH[q + 5]? = some (0, 16) := by rcases h with rfl | rfl | rfl <;> rfl
theorem grW_12 {sw : Bool} {q : Nat} (h : isW q) : GR sw q 12 = some (q + 5) := by rcases h with rfl | rfl | rfl <;> rfl
theorem shW_6 {q : Nat} (h : isW q) : SH[q + 6]? = some (0, 20) := by rcases h with rfl | rfl | rfl <;> rfl
theorem grW_13 {sw : Bool} {q : Nat} (h : isW q) : GR sw q 13 = some (q + 6) := by rcases h with rfl | rfl | rfl <;> rfl
theorem shW_7 {q : Nat} (h : isW q) : SH[q + 7]? = some (0, 20) := by rcases h with rfl | rfl | rfl <;> rfl
theorem grW_14 {sw : Bool} {q : Nat} (h : isW q) : GR sw q 14 = some (q + 7) := by rcases h with rfl | rfl | rfl <;> rfl
theorem shW_8 {q : Nat} (h : isW q) : SH[q + 8]? = some (0, 20) := by rcases h with rfl | rfl | rfl <;> rfl
theorem grW_15 {sw : Bool} {q : Nat} (h : isW q) : GR sw q 15 = some (q + 8) := by rcases h with rfl | rfl | rfl <;> rfl
theorem shW_9 {q : Nat} (h : isW q) : SH[q + 9]? = some (0, 20) := by rcases h with rfl | rfl | rfl <;> rfl
theorem grW_16 {sw : Bool} {q : Nat} (h : isW q) : GR sw q 16 = some (q + 9) := by rcases h with rfl | rfl | rfl <;> rfl
theorem shW_10 {q : Nat} (h : isW q) : SH[q + 10]? = some (0, 20) := by rcases h with rfl | rfl | rfl <;> rfl
theorem grW_17 {sw : Bool} {q : Nat} (h : isW q) : GR sw q 17 = some (q + 10) := by rcases h with rfl | rfl | rfl <;> rfl
theorem shW_11 {q : Nat} (h : isW q) : SH[q + 11]? = some (0, 160) := by rcases h with rfl | rfl | rfl <;> rfl
theorem grW_18 {sw : Bool} {q : Nat} (h : isW q) : GR sw q 18 = some (q + 11) := by rcases h with rfl | rfl | rfl <;> rfl
theorem shW_12 {q : Nat} (h : isW q) : SH[q + 12]? = some (0, 64) := by rcases h with rfl | rfl | rfl <;> rfl
theorem grW_19 {sw : Bool} {q : Nat} (h : isW q) : GR sw q 19 = some (q + 12) := by rcases h with rfl | rfl | rfl <;> rfl
theorem shL {q : Nat} (h : isLw q) : SH[q]? = some (3, 8) := by rcases h with rfl | rfl <;> rfl
theorem shL_1 {q : Nat} (h : isLw q) : SH[q + 1]? = some (0, 16) := by rcases h with rfl | rfl <;> rfl
theorem grL_2 {sw : Bool} {q : Nat} (h : isLw q) : GR sw q 2 = some (q + 1) := by rcases h with rfl | rfl <;> rfl
theorem shL_2 {q : Nat} (h : isLw q) : SH[q + 2]? = some (0, 16) := by rcases h with rfl | rfl <;> rfl
theorem grL_3 {sw : Bool} {q : Nat} (h : isLw q) : GR sw q 3 = some (q + 2) := by rcases h with rfl | rfl <;> rfl
theorem shL_3 {q : Nat} (h : isLw q) : SH[q + 3]? = some (0, 16) := by rcases h with rfl | rfl <;> rfl
theorem grL_4 {sw : Bool} {q : Nat} (h : isLw q) : GR sw q 4 = some (q + 3) := by rcases h with rfl | rfl <;> rfl
theorem shL_4 {q : Nat} (h : isLw q) : SH[q + 4]? = some (0, 16) := by rcases h with rfl | rfl <;> rfl
theorem grL_5 {sw : Bool} {q : Nat} (h : isLw q) : GR sw q 5 = some (q + 4) := by rcases h with rfl | rfl <;> rfl
theorem shL_5 {q : Nat} (h : isLw q) : SH[q + 5]? = some (0, 240) := by rcases h with rfl | rfl <;> rfl
theorem grL_6 {sw : Bool} {q : Nat} (h : isLw q) : GR sw q 6 = some (q + 5) := by rcases h with rfl | rfl <;> rfl
theorem shL_6 {q : Nat} (h : isLw q) : SH[q + 6]? = some (0, 240) := by rcases h with rfl | rfl <;> rfl
theorem grL_7 {sw : Bool} {q : Nat} (h : isLw q) : GR sw q 7 = some (q + 6) := by rcases h with rfl | rfl <;> rfl
section XPS
variable {G : GC} {M M' : MR} {d pc : Nat} {ls ls' st st0 As : List Value} {sw : Bool} {f : FF} {Q : QQ}
theorem XP.mono {Q' : QQ} (hq : ∀ v s g, Q v s g → Q' v s g) (H : XP G M d pc ls st sw f Q) : XP G M d pc ls st sw f Q' := WP.mono (fun v h' ⟨s, g, e, q⟩ => ⟨s, g, e, hq v s g q⟩) H
theorem xs_geti {idx c j i : Nat} (hd : decode (mC M) pc = .ok (.getfield idx, 3)) (hl : FLk (mY M).cls idx c j) (hs : SH[i]? = some (c + 2, nF c)) (ht : tyAll c j = .int) (kk : XP G M d (pc + 3) ls (.int (f i j) :: st) sw f Q) : XP G M d pc ls (.ref i :: st) sw f Q := wp_geti hd hl hs ht kk
theorem xs_getz {idx c j i : Nat} (hd : decode (mC M) pc = .ok (.getfield idx, 3)) (hl : FLk (mY M).cls idx c j) (hs : SH[i]? = some (c + 2, nF c)) (ht : tyAll c j = .boolean) (kk : XP G M d (pc + 3) ls (.int (f i j) :: st) sw f Q) : XP G M d pc ls (.ref i :: st) sw f Q := wp_getz hd hl hs ht kk
theorem xs_getr {idx c j i r : Nat} (hd : decode (mC M) pc = .ok (.getfield idx, 3)) (hl : FLk (mY M).cls idx c j) (hs : SH[i]? = some (c + 2, nF c)) (ht : isR (tyAll c j) = true) (hr : GR sw i j = some r) (kk : XP G M d (pc + 3) ls (.ref r :: st) sw f Q) : XP G M d pc ls (.ref i :: st) sw f Q := wp_getr hd hl hs ht hr kk
theorem xs_puti {idx c j i : Nat} {x : Int32} (hd : decode (mC M) pc = .ok (.putfield idx, 3)) (hl : FLp (mY M).cls idx c j) (hs : SH[i]? = some (c + 2, nF c)) (ht : tyAll c j = .int) (kk : XP G M d (pc + 3) ls st sw (upd2 f i j x) Q) : XP G M d pc ls (.int x :: .ref i :: st) sw f Q := wp_puti hd hl hs ht kk
theorem xs_putz {idx c j i : Nat} {x : Int32} (hd : decode (mC M) pc = .ok (.putfield idx, 3)) (hl : FLp (mY M).cls idx c j) (hs : SH[i]? = some (c + 2, nF c)) (ht : tyAll c j = .boolean) (hx : x = 0 ∨ x = 1) (kk : XP G M d (pc + 3) ls st sw (upd2 f i j x) Q) : XP G M d pc ls (.int x :: .ref i :: st) sw f Q := wp_putz hd hl hs ht hx kk
theorem xs_iald {i N j : Nat} {x : Int32} (hd : decode (mC M) pc = .ok (.iaload, 1)) (hs : SH[i]? = some (0, N)) (hx : vp_in x N) (hj : x.toNatClampNeg = j) (kk : XP G M d (pc + 1) ls (.int (f i j) :: st) sw f Q) : XP G M d pc ls (.int x :: .ref i :: st) sw f Q := by subst hj; exact wp_iald hd hs hx kk
theorem xs_bald {i N j : Nat} {x : Int32} (hd : decode (mC M) pc = .ok (.baload, 1)) (hs : SH[i]? = some (1, N)) (hx : vp_in x N) (hj : x.toNatClampNeg = j) (kk : XP G M d (pc + 1) ls (.int (f i j) :: st) sw f Q) : XP G M d pc ls (.int x :: .ref i :: st) sw f Q := by subst hj; exact wp_bald hd hs hx kk
theorem xs_iast {i N j : Nat} {x z : Int32} (hd : decode (mC M) pc = .ok (.iastore, 1)) (hs : SH[i]? = some (0, N)) (hx : vp_in x N) (hj : x.toNatClampNeg = j) (kk : XP G M d (pc + 1) ls st sw (upd2 f i j z) Q) : XP G M d pc ls (.int z :: .int x :: .ref i :: st) sw f Q := by subst hj; exact wp_iast hd hs hx kk
theorem xs_bast {i N j : Nat} {x z : Int32} (hd : decode (mC M) pc = .ok (.bastore, 1)) (hs : SH[i]? = some (1, N)) (hx : vp_in x N) (hj : x.toNatClampNeg = j) (kk : XP G M d (pc + 1) ls st sw (upd2 f i j z.toInt8.toInt32) Q) : XP G M d pc ls (.int z :: .int x :: .ref i :: st) sw f Q := by subst hj; exact wp_bast hd hs hx kk
/-- an array copied: n ints of a from sp on into b from dp on -/
def cpy2 (f : FF) (a b sp dp n : Nat) : FF := fun c => if c = b then va_cpy (f a) (f b) sp dp n else f c
theorem xs_copy {idx i0 i1 n0 n1 sp' dp' x' : Nat} {sp dp x : Int32} (hd : decode (mC M) pc = .ok (.invokestatic idx, 3)) (hl : Cond.methodLink (mY M).cls idx arraycopyName ∈ Tg) (hs0 : SH[i0]? = some (0, n0)) (hs1 : SH[i1]? = some (0, n1)) (h1 : ¬ sp < 0) (h2 : ¬ dp < 0) (h3 : ¬ x < 0) (e1 : sp.toNatClampNeg = sp') (e2 : dp.toNatClampNeg = dp') (e3 : x.toNatClampNeg = x') (h4 : sp' + x' ≤ n0) (h5 : dp' + x' ≤ n1) (hr : st.length ≤ 8)
    (kk : XP G M d (pc + 3) ls st sw (cpy2 f i0 i1 sp' dp' x') Q) : XP G M d pc ls (.int x :: .int dp :: .ref i1 :: .int sp :: .ref i0 :: st) sw f Q := by
  subst e1; subst e2; subst e3
  exact wp_copy hd hl ac_n ac_t sys_z hs0 hs1 h1 h2 h3 h4 h5 hr kk
theorem xs_mmax {idx : Nat} {x y : Int32} (hd : decode (mC M) pc = .ok (.invokestatic idx, 3)) (hl : Cond.methodLink (mY M).cls idx Lib.Math.max.name ∈ Tg) (hr : st.length ≤ 8) (kk : XP G M d (pc + 3) ls (.int (if x < y then y else x) :: st) sw f Q) : XP G M d pc ls (.int y :: .int x :: st) sw f Q := wp_mmax hd hl mmax_t math_z mmax_c hr kk
theorem xs_mmin {idx : Nat} {x y : Int32} (hd : decode (mC M) pc = .ok (.invokestatic idx, 3)) (hl : Cond.methodLink (mY M).cls idx Lib.Math.min.name ∈ Tg) (hr : st.length ≤ 8) (kk : XP G M d (pc + 3) ls (.int (if y < x then y else x) :: st) sw f Q) : XP G M d pc ls (.int y :: .int x :: st) sw f Q := wp_mmin hd hl mmin_t math_z mmin_c hr kk
theorem xs_ret (hd : decode (mC M) pc = .ok (.return_, 1)) (hr : mR M = none) (hq : Q none sw f) : XP G M d pc ls [] sw f Q := wp_ret hd hr ⟨sw, f, rfl, hq⟩
theorem xs_iret {x : Int32} (hd : decode (mC M) pc = .ok (.ireturn, 1)) (hr : mR M = some .int) (hq : Q (some (.int x)) sw f) : XP G M d pc ls [.int x] sw f Q := wp_iret hd hr ⟨sw, f, rfl, hq⟩
theorem xs_zret {x : Int32} (hd : decode (mC M) pc = .ok (.ireturn, 1)) (hr : mR M = some .boolean) (hx : x = 0 ∨ x = 1) (hq : Q (some (.int x)) sw f) : XP G M d pc ls [.int x] sw f Q := wp_zret hd hr hx ⟨sw, f, rfl, hq⟩
theorem xs_ifb_eq {c : Prop} [Decidable c] {off : Int} {t : Nat} (hd : decode (mC M) pc = .ok (.ifCond .eq off, 3)) (ht : (pc : Int) + off = (t : Int)) (kt : ¬ c → XP G M d t ls st sw f Q) (kf : c → XP G M d (pc + 3) ls st sw f Q) : XP G M d pc ls (.int (b2i c) :: st) sw f Q :=
  wp_if_eq hd ht (fun q => kt (fun hc => by rw [b2i_t hc] at q; exact absurd q (by decide))) (fun q => kf (Classical.byContradiction fun hc => q (b2i_f hc)))
theorem xs_ifb_ne {c : Prop} [Decidable c] {off : Int} {t : Nat} (hd : decode (mC M) pc = .ok (.ifCond .ne off, 3)) (ht : (pc : Int) + off = (t : Int)) (kt : c → XP G M d t ls st sw f Q) (kf : ¬ c → XP G M d (pc + 3) ls st sw f Q) : XP G M d pc ls (.int (b2i c) :: st) sw f Q :=
  wp_if_ne hd ht (fun q => kt (Classical.byContradiction fun hc => q (b2i_f hc))) (fun q => kf (fun hc => by rw [b2i_t hc] at q; exact absurd q (by decide)))
theorem xs_callS {idx : Nat} (hd : decode (mC M) pc = .ok (.invokestatic idx, 3)) (hM : MOk M') (hna : nPar M' As.length) (hl : Cond.methodLink (mY M).cls idx (mY M') ∈ Tg) (hst : Cond.static (mY M') ∈ Tg) (hn : As.length ≤ mL M') (hls : ls' = As ++ List.replicate (mL M' - As.length) .null) (hr : st.length ≤ 8) (he : As.reverse ++ st = st0)
    (kk : XP G M' d 0 ls' [] sw f (fun v sw' f' => XP G M (d + 1) (pc + 3) ls (retst v st) sw' f' Q)) : XP G M (d + 1) pc ls st0 sw f Q := by
  subst he
  refine wp_callS (k := 0) (k' := 0) (n := 0) (n' := 0) hd hM hna hl hst hn hls hr (WP.mono (fun v h' ⟨s, g, e, q⟩ => ?_) kk)
  subst e
  rw [retst_eq]
  exact q
theorem xs_callSN {idx : Nat} {host : String} (hd : decode (mC M) pc = .ok (.invokestatic idx, 3)) (hM : MOk M') (hna : nPar M' As.length) (hl : Cond.methodLinkNest (mY M).cls idx (mY M') host ∈ lw_tbl) (hst : Cond.static (mY M') ∈ Tg) (hn : As.length ≤ mL M') (hls : ls' = As ++ List.replicate (mL M' - As.length) .null) (hr : st.length ≤ 8) (he : As.reverse ++ st = st0)
    (kk : XP G M' d 0 ls' [] sw f (fun v sw' f' => XP G M (d + 1) (pc + 3) ls (retst v st) sw' f' Q)) : XP G M (d + 1) pc ls st0 sw f Q := by
  subst he
  refine wp_callSN (k := 0) (k' := 0) (n := 0) (n' := 0) hd hM hna hl hst hn hls hr (WP.mono (fun v h' ⟨s, g, e, q⟩ => ?_) kk)
  subst e
  rw [retst_eq]
  exact q
theorem xs_callV {idx i c : Nat} {T : u_T} {N : Nat} (hd : decode (mC M) pc = .ok (.invokevirtual idx, 3)) (hM : MOk M') (hna : nPar M' As.length) (hl : Cond.methodLink (mY M).cls idx (mY M') ∈ Tg) (hin : Cond.instanceMethod (mY M') ∈ Tg) (hse : Cond.selects (mY M').cls (mY M') (mY M') ∈ Tg) (hc : vwCl[c]? = some ((mY M').cls, T, N)) (hs : SH[i]? = some (c + 2, nF c)) (hn : As.length + 1 ≤ mL M') (hls : ls' = (.ref i :: As) ++ List.replicate (mL M' - (As.length + 1)) .null) (hr : st.length ≤ 8) (he : As.reverse ++ .ref i :: st = st0)
    (kk : XP G M' d 0 ls' [] sw f (fun v sw' f' => XP G M (d + 1) (pc + 3) ls (retst v st) sw' f' Q)) : XP G M (d + 1) pc ls st0 sw f Q := by
  subst he
  refine wp_callV (k := 0) (k' := 0) (n := 0) (n' := 0) hd hM hna hl hin hse hc hs hn hls hr (WP.mono (fun v h' ⟨s, g, e, q⟩ => ?_) kk)
  subst e
  rw [retst_eq]
  exact q
end XPS

