/-! ===== helpers of the printed blocks ===== -/
theorem wp_iadd_0l {G : GC} {M : MR} {d k n pc : Nat} {ls st : List Value} {h : HP} {Q : Option Value → HP → Prop} {y : Int32} (hd : decode (mC M) pc = .ok (.iadd, 1)) (kk : WP G M d k n (pc + 1) ls (.int y :: st) h Q) : WP G M d k n pc ls (.int y :: .int 0 :: st) h Q := wp_iadd hd (by rw [Int32.zero_add]; exact kk)
theorem vin {x : Int32} {N : Nat} (h : ¬ (x < 0 ∨ N ≤ x.toNatClampNeg)) : vp_in x N := h
theorem tbl_out {x : Int32} {lo hi : Int} (h : ∀ q : Int, lo ≤ q → q ≤ hi → ¬ x.toInt = q) : x.toInt < lo ∨ hi < x.toInt := by
  rcases Int.lt_or_le x.toInt lo with h1 | h1
  · exact Or.inl h1
  · rcases Int.lt_or_le hi x.toInt with h2 | h2
    · exact Or.inr h2
    · exact absurd rfl (h x.toInt h1 h2)
theorem k_bipush_m4 : (Int8.ofInt (-4)).toInt32 = (-4) := by decide
theorem k_bipush_m2 : (Int8.ofInt (-2)).toInt32 = (-2) := by decide
theorem k_bipush_6 : (Int8.ofInt (6)).toInt32 = 6 := by decide
theorem k_bipush_7 : (Int8.ofInt (7)).toInt32 = 7 := by decide
theorem k_bipush_8 : (Int8.ofInt (8)).toInt32 = 8 := by decide
theorem k_bipush_9 : (Int8.ofInt (9)).toInt32 = 9 := by decide
theorem k_bipush_10 : (Int8.ofInt (10)).toInt32 = 10 := by decide
theorem k_bipush_11 : (Int8.ofInt (11)).toInt32 = 11 := by decide
theorem k_bipush_12 : (Int8.ofInt (12)).toInt32 = 12 := by decide
theorem k_bipush_13 : (Int8.ofInt (13)).toInt32 = 13 := by decide
theorem k_bipush_14 : (Int8.ofInt (14)).toInt32 = 14 := by decide
theorem k_bipush_15 : (Int8.ofInt (15)).toInt32 = 15 := by decide
theorem k_bipush_16 : (Int8.ofInt (16)).toInt32 = 16 := by decide
theorem k_bipush_17 : (Int8.ofInt (17)).toInt32 = 17 := by decide
theorem k_bipush_19 : (Int8.ofInt (19)).toInt32 = 19 := by decide
theorem k_bipush_20 : (Int8.ofInt (20)).toInt32 = 20 := by decide
theorem k_bipush_24 : (Int8.ofInt (24)).toInt32 = 24 := by decide
theorem k_bipush_25 : (Int8.ofInt (25)).toInt32 = 25 := by decide
theorem k_bipush_26 : (Int8.ofInt (26)).toInt32 = 26 := by decide
theorem k_bipush_30 : (Int8.ofInt (30)).toInt32 = 30 := by decide
theorem k_bipush_32 : (Int8.ofInt (32)).toInt32 = 32 := by decide
theorem k_bipush_33 : (Int8.ofInt (33)).toInt32 = 33 := by decide
theorem k_bipush_37 : (Int8.ofInt (37)).toInt32 = 37 := by decide
theorem k_bipush_38 : (Int8.ofInt (38)).toInt32 = 38 := by decide
theorem k_bipush_40 : (Int8.ofInt (40)).toInt32 = 40 := by decide
theorem k_bipush_41 : (Int8.ofInt (41)).toInt32 = 41 := by decide
theorem k_bipush_42 : (Int8.ofInt (42)).toInt32 = 42 := by decide
theorem k_bipush_43 : (Int8.ofInt (43)).toInt32 = 43 := by decide
theorem k_bipush_45 : (Int8.ofInt (45)).toInt32 = 45 := by decide
theorem k_bipush_47 : (Int8.ofInt (47)).toInt32 = 47 := by decide
theorem k_bipush_48 : (Int8.ofInt (48)).toInt32 = 48 := by decide
theorem k_bipush_57 : (Int8.ofInt (57)).toInt32 = 57 := by decide
theorem k_bipush_59 : (Int8.ofInt (59)).toInt32 = 59 := by decide
theorem k_bipush_60 : (Int8.ofInt (60)).toInt32 = 60 := by decide
theorem k_bipush_61 : (Int8.ofInt (61)).toInt32 = 61 := by decide
theorem k_bipush_62 : (Int8.ofInt (62)).toInt32 = 62 := by decide
theorem k_bipush_63 : (Int8.ofInt (63)).toInt32 = 63 := by decide
theorem k_bipush_64 : (Int8.ofInt (64)).toInt32 = 64 := by decide
theorem k_bipush_65 : (Int8.ofInt (65)).toInt32 = 65 := by decide
theorem k_bipush_70 : (Int8.ofInt (70)).toInt32 = 70 := by decide
theorem k_bipush_72 : (Int8.ofInt (72)).toInt32 = 72 := by decide
theorem k_bipush_80 : (Int8.ofInt (80)).toInt32 = 80 := by decide
theorem k_bipush_90 : (Int8.ofInt (90)).toInt32 = 90 := by decide
theorem k_bipush_91 : (Int8.ofInt (91)).toInt32 = 91 := by decide
theorem k_bipush_93 : (Int8.ofInt (93)).toInt32 = 93 := by decide
theorem k_bipush_94 : (Int8.ofInt (94)).toInt32 = 94 := by decide
theorem k_bipush_95 : (Int8.ofInt (95)).toInt32 = 95 := by decide
theorem k_bipush_96 : (Int8.ofInt (96)).toInt32 = 96 := by decide
theorem k_bipush_97 : (Int8.ofInt (97)).toInt32 = 97 := by decide
theorem k_bipush_99 : (Int8.ofInt (99)).toInt32 = 99 := by decide
theorem k_bipush_100 : (Int8.ofInt (100)).toInt32 = 100 := by decide
theorem k_bipush_108 : (Int8.ofInt (108)).toInt32 = 108 := by decide
theorem k_bipush_112 : (Int8.ofInt (112)).toInt32 = 112 := by decide
theorem k_bipush_114 : (Int8.ofInt (114)).toInt32 = 114 := by decide
theorem k_bipush_118 : (Int8.ofInt (118)).toInt32 = 118 := by decide
theorem k_bipush_119 : (Int8.ofInt (119)).toInt32 = 119 := by decide
theorem k_bipush_120 : (Int8.ofInt (120)).toInt32 = 120 := by decide
theorem k_bipush_124 : (Int8.ofInt (124)).toInt32 = 124 := by decide
theorem k_iconst_m8 : Int32.ofInt (-8) = (-8) := by decide
theorem k_iconst_m1 : Int32.ofInt (-1) = (-1) := by decide
theorem k_iconst_0 : Int32.ofInt (0) = 0 := by decide
theorem k_iconst_1 : Int32.ofInt (1) = 1 := by decide
theorem k_iconst_2 : Int32.ofInt (2) = 2 := by decide
theorem k_iconst_3 : Int32.ofInt (3) = 3 := by decide
theorem k_iconst_4 : Int32.ofInt (4) = 4 := by decide
theorem k_iconst_5 : Int32.ofInt (5) = 5 := by decide
theorem k_sipush_m1000 : (Int16.ofInt (-1000)).toInt32 = (-1000) := by decide
theorem k_sipush_128 : (Int16.ofInt (128)).toInt32 = 128 := by decide
theorem k_sipush_148 : (Int16.ofInt (148)).toInt32 = 148 := by decide
theorem k_sipush_160 : (Int16.ofInt (160)).toInt32 = 160 := by decide
theorem k_sipush_168 : (Int16.ofInt (168)).toInt32 = 168 := by decide
theorem k_sipush_188 : (Int16.ofInt (188)).toInt32 = 188 := by decide
theorem k_sipush_208 : (Int16.ofInt (208)).toInt32 = 208 := by decide
theorem k_sipush_228 : (Int16.ofInt (228)).toInt32 = 228 := by decide
theorem k_sipush_240 : (Int16.ofInt (240)).toInt32 = 240 := by decide
theorem k_sipush_241 : (Int16.ofInt (241)).toInt32 = 241 := by decide
theorem k_sipush_255 : (Int16.ofInt (255)).toInt32 = 255 := by decide
theorem k_sipush_256 : (Int16.ofInt (256)).toInt32 = 256 := by decide
theorem k_sipush_260 : (Int16.ofInt (260)).toInt32 = 260 := by decide
theorem k_sipush_388 : (Int16.ofInt (388)).toInt32 = 388 := by decide
theorem k_sipush_389 : (Int16.ofInt (389)).toInt32 = 389 := by decide
theorem k_sipush_390 : (Int16.ofInt (390)).toInt32 = 390 := by decide
theorem k_sipush_391 : (Int16.ofInt (391)).toInt32 = 391 := by decide
theorem k_sipush_512 : (Int16.ofInt (512)).toInt32 = 512 := by decide
theorem k_sipush_1000 : (Int16.ofInt (1000)).toInt32 = 1000 := by decide
theorem k_sipush_3060 : (Int16.ofInt (3060)).toInt32 = 3060 := by decide
theorem k_sipush_9999 : (Int16.ofInt (9999)).toInt32 = 9999 := by decide
theorem k_sipush_13849 : (Int16.ofInt (13849)).toInt32 = 13849 := by decide
theorem k_sipush_25173 : (Int16.ofInt (25173)).toInt32 = 25173 := by decide
