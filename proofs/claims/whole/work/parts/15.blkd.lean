theorem bX11_trunk_0 {G : GC} {d : Nat} {sw : Bool} {f : FF} {Q : QQ} {x1 : Int32} {x2 : Int32} {x3 : Int32} (p1 : (¬ (twoE x1 x2)) → Q (some (.int 0)) sw f) (p2 : (twoE x1 x2) → (0 ≤ x3 ∧ x3 ≤ 9) → vp_in ((8 * x1) + x2) 64) (p3 : (twoE x1 x2) → (0 ≤ x3 ∧ x3 ≤ 9) → vp_in ((8 * x2) + x1) 64) (p4 : (twoE x1 x2) → (0 ≤ x3 ∧ x3 ≤ 9) → Q (some (.int 1)) sw (upd2 (upd2 f 86 (((8 * x1) + x2).toNatClampNeg) x3) 86 (((8 * x2) + x1).toNatClampNeg) x3)) (p5 : (twoE x1 x2) → (¬ (0 ≤ x3 ∧ x3 ≤ 9)) → Q (some (.int 0)) sw f) : XP G mX11_trunk (d + 2) 0 [.ref 82, .int x1, .int x2, .int x3] [] sw f Q := by
  refine wp_iload_n (M := mX11_trunk) (pc := 0) dX11_trunk_0 rfl rfl ?_
  refine wp_iload_n (M := mX11_trunk) (pc := 1) dX11_trunk_1 rfl rfl ?_
  refine xs_callS (d := d + 1) (M := mX11_trunk) (pc := 2) (As := [.int x1, .int x2]) (st := []) (ls' := [.int x1, .int x2]) dX11_trunk_2 oX11_areTwo nX11_areTwo lX11_123 tX11_areTwo (Nat.le_of_ble_eq_true rfl) rfl (Nat.le_of_ble_eq_true rfl) rfl ?_
  refine sp_X11_areTwo   ?_
  refine xs_ifb_eq (M := mX11_trunk) (pc := 5) (t := 18) dX11_trunk_5 (by decide) (fun c1 => ?_) (fun c1 => ?_)
  · refine wp_iconst (M := mX11_trunk) (pc := 18) dX11_trunk_18 k_iconst_0 ?_
    exact xs_zret (M := mX11_trunk) (pc := 19) dX11_trunk_19 rfl (by decide) (p1 c1)
  · refine wp_iload_n (M := mX11_trunk) (pc := 8) dX11_trunk_8 rfl rfl ?_
    refine wp_iconst (M := mX11_trunk) (pc := 9) dX11_trunk_9 k_iconst_0 ?_
    refine wp_bipush (M := mX11_trunk) (pc := 10) dX11_trunk_10 k_bipush_9 ?_
    refine xs_callS (d := d + 1) (M := mX11_trunk) (pc := 12) (As := [.int x3, .int 0, .int 9]) (st := []) (ls' := [.int x3, .int 0, .int 9]) dX11_trunk_12 oX11_in nX11_in lX11_111 tX11_in (Nat.le_of_ble_eq_true rfl) rfl (Nat.le_of_ble_eq_true rfl) rfl ?_
    refine sp_X11_in   ?_
    refine xs_ifb_ne (M := mX11_trunk) (pc := 15) (t := 20) dX11_trunk_15 (by decide) (fun c2 => ?_) (fun c2 => ?_)
    · refine wp_aload_n (M := mX11_trunk) (pc := 20) dX11_trunk_20 rfl rfl ?_
      refine xs_getr (M := mX11_trunk) (pc := 21) (r := 86) dX11_trunk_21 fX11_19 sh82 rfl (gr82_3 sw) ?_
      refine wp_bipush (M := mX11_trunk) (pc := 24) dX11_trunk_24 k_bipush_8 ?_
      refine wp_iload_n (M := mX11_trunk) (pc := 26) dX11_trunk_26 rfl rfl ?_
      refine wp_imul (M := mX11_trunk) (pc := 27) dX11_trunk_27 ?_
      refine wp_iload_n (M := mX11_trunk) (pc := 28) dX11_trunk_28 rfl rfl ?_
      refine wp_iadd (M := mX11_trunk) (pc := 29) dX11_trunk_29 ?_
      refine wp_iload_n (M := mX11_trunk) (pc := 30) dX11_trunk_30 rfl rfl ?_
      refine xs_iast (M := mX11_trunk) (pc := 31) (j := ((8 * x1) + x2).toNatClampNeg) dX11_trunk_31 sh86 (p2 c1 c2) rfl ?_
      refine wp_aload_n (M := mX11_trunk) (pc := 32) dX11_trunk_32 rfl rfl ?_
      refine xs_getr (M := mX11_trunk) (pc := 33) (r := 86) dX11_trunk_33 fX11_19 sh82 rfl (gr82_3 sw) ?_
      refine wp_bipush (M := mX11_trunk) (pc := 36) dX11_trunk_36 k_bipush_8 ?_
      refine wp_iload_n (M := mX11_trunk) (pc := 38) dX11_trunk_38 rfl rfl ?_
      refine wp_imul (M := mX11_trunk) (pc := 39) dX11_trunk_39 ?_
      refine wp_iload_n (M := mX11_trunk) (pc := 40) dX11_trunk_40 rfl rfl ?_
      refine wp_iadd (M := mX11_trunk) (pc := 41) dX11_trunk_41 ?_
      refine wp_iload_n (M := mX11_trunk) (pc := 42) dX11_trunk_42 rfl rfl ?_
      refine xs_iast (M := mX11_trunk) (pc := 43) (j := ((8 * x2) + x1).toNatClampNeg) dX11_trunk_43 sh86 (p3 c1 c2) rfl ?_
      refine wp_iconst (M := mX11_trunk) (pc := 44) dX11_trunk_44 k_iconst_1 ?_
      exact xs_zret (M := mX11_trunk) (pc := 45) dX11_trunk_45 rfl (by decide) (p4 c1 c2)
    · refine wp_iconst (M := mX11_trunk) (pc := 18) dX11_trunk_18 k_iconst_0 ?_
      exact xs_zret (M := mX11_trunk) (pc := 19) dX11_trunk_19 rfl (by decide) (p5 c1 c2)
theorem bX11_subscriber_0 {G : GC} {d : Nat} {sw : Bool} {f : FF} {Q : QQ} {x1 : Int32} {x2 : Int32} {x3 : Int32} (p1 : (¬ (0 ≤ x1 ∧ x1 ≤ 15)) → Q (some (.int 0)) sw f) (p2 : (0 ≤ x1 ∧ x1 ≤ 15) → (0 ≤ x2 ∧ x2 ≤ 7) → (¬ (toldM f x1)) → vp_in x1 391) (p3 : (0 ≤ x1 ∧ x1 ≤ 15) → (0 ≤ x2 ∧ x2 ≤ 7) → (¬ (toldM f x1)) → vp_in (16 + x1) 391) (p4 : (0 ≤ x1 ∧ x1 ≤ 15) → (0 ≤ x2 ∧ x2 ≤ 7) → (¬ (toldM f x1)) → (x3 = 0) → vp_in (32 + x1) 391) (p5 : (0 ≤ x1 ∧ x1 ≤ 15) → (0 ≤ x2 ∧ x2 ≤ 7) → (¬ (toldM f x1)) → (x3 = 0) → vp_in (48 + x1) 391) (p6 : (0 ≤ x1 ∧ x1 ≤ 15) → (0 ≤ x2 ∧ x2 ≤ 7) → (¬ (toldM f x1)) → (x3 = 0) → vp_in (64 + x1) 391) (p7 : (0 ≤ x1 ∧ x1 ≤ 15) → (0 ≤ x2 ∧ x2 ≤ 7) → (¬ (toldM f x1)) → (x3 = 0) → vp_in (80 + x1) 391) (p8 : (0 ≤ x1 ∧ x1 ≤ 15) → (0 ≤ x2 ∧ x2 ≤ 7) → (¬ (toldM f x1)) → (x3 = 0) → vp_in (96 + x1) 391) (p9 : (0 ≤ x1 ∧ x1 ≤ 15) → (0 ≤ x2 ∧ x2 ≤ 7) → (¬ (toldM f x1)) → (x3 = 0) → vp_in (112 + x1) 391) (p10 : (0 ≤ x1 ∧ x1 ≤ 15) → (0 ≤ x2 ∧ x2 ≤ 7) → (¬ (toldM f x1)) → (x3 = 0) → Q (some (.int 1)) sw (upd2 (upd2 (upd2 (upd2 (upd2 (upd2 (upd2 (upd2 f 83 x1.toNatClampNeg 1) 83 ((16 + x1).toNatClampNeg) x2) 83 ((32 + x1).toNatClampNeg) 0) 83 ((48 + x1).toNatClampNeg) 1) 83 ((64 + x1).toNatClampNeg) 0) 83 ((80 + x1).toNatClampNeg) 0) 83 ((96 + x1).toNatClampNeg) 0) 83 ((112 + x1).toNatClampNeg) 0)) (p11 : (0 ≤ x1 ∧ x1 ≤ 15) → (0 ≤ x2 ∧ x2 ≤ 7) → (¬ (toldM f x1)) → (¬ x3 = 0) → vp_in (32 + x1) 391) (p12 : (0 ≤ x1 ∧ x1 ≤ 15) → (0 ≤ x2 ∧ x2 ≤ 7) → (¬ (toldM f x1)) → (¬ x3 = 0) → vp_in (48 + x1) 391) (p13 : (0 ≤ x1 ∧ x1 ≤ 15) → (0 ≤ x2 ∧ x2 ≤ 7) → (¬ (toldM f x1)) → (¬ x3 = 0) → vp_in (64 + x1) 391) (p14 : (0 ≤ x1 ∧ x1 ≤ 15) → (0 ≤ x2 ∧ x2 ≤ 7) → (¬ (toldM f x1)) → (¬ x3 = 0) → vp_in (80 + x1) 391) (p15 : (0 ≤ x1 ∧ x1 ≤ 15) → (0 ≤ x2 ∧ x2 ≤ 7) → (¬ (toldM f x1)) → (¬ x3 = 0) → vp_in (96 + x1) 391) (p16 : (0 ≤ x1 ∧ x1 ≤ 15) → (0 ≤ x2 ∧ x2 ≤ 7) → (¬ (toldM f x1)) → (¬ x3 = 0) → vp_in (112 + x1) 391) (p17 : (0 ≤ x1 ∧ x1 ≤ 15) → (0 ≤ x2 ∧ x2 ≤ 7) → (¬ (toldM f x1)) → (¬ x3 = 0) → Q (some (.int 1)) sw (upd2 (upd2 (upd2 (upd2 (upd2 (upd2 (upd2 (upd2 f 83 x1.toNatClampNeg 1) 83 ((16 + x1).toNatClampNeg) x2) 83 ((32 + x1).toNatClampNeg) 1) 83 ((48 + x1).toNatClampNeg) 1) 83 ((64 + x1).toNatClampNeg) 0) 83 ((80 + x1).toNatClampNeg) 0) 83 ((96 + x1).toNatClampNeg) 0) 83 ((112 + x1).toNatClampNeg) 0)) (p18 : (0 ≤ x1 ∧ x1 ≤ 15) → (0 ≤ x2 ∧ x2 ≤ 7) → (toldM f x1) → XP G mX11_endsCallOf (d + 1) 0 [.ref 82, .int x1, .null] [] sw f (fun v sw' f' => XP G mX11_subscriber (d + 2) 35 [.ref 82, .int x1, .int x2, .int x3] (retst v []) sw' f' Q)) (p19 : (0 ≤ x1 ∧ x1 ≤ 15) → (¬ (0 ≤ x2 ∧ x2 ≤ 7)) → Q (some (.int 0)) sw f) : XP G mX11_subscriber (d + 2) 0 [.ref 82, .int x1, .int x2, .int x3] [] sw f Q := by
  refine wp_iload_n (M := mX11_subscriber) (pc := 0) dX11_subscriber_0 rfl rfl ?_
  refine wp_iconst (M := mX11_subscriber) (pc := 1) dX11_subscriber_1 k_iconst_0 ?_
  refine wp_bipush (M := mX11_subscriber) (pc := 2) dX11_subscriber_2 k_bipush_15 ?_
  refine xs_callS (d := d + 1) (M := mX11_subscriber) (pc := 4) (As := [.int x1, .int 0, .int 15]) (st := []) (ls' := [.int x1, .int 0, .int 15]) dX11_subscriber_4 oX11_in nX11_in lX11_111 tX11_in (Nat.le_of_ble_eq_true rfl) rfl (Nat.le_of_ble_eq_true rfl) rfl ?_
  refine sp_X11_in   ?_
  refine xs_ifb_eq (M := mX11_subscriber) (pc := 7) (t := 20) dX11_subscriber_7 (by decide) (fun c1 => ?_) (fun c1 => ?_)
  · refine wp_iconst (M := mX11_subscriber) (pc := 20) dX11_subscriber_20 k_iconst_0 ?_
    exact xs_zret (M := mX11_subscriber) (pc := 21) dX11_subscriber_21 rfl (by decide) (p1 c1)
  · refine wp_iload_n (M := mX11_subscriber) (pc := 10) dX11_subscriber_10 rfl rfl ?_
    refine wp_iconst (M := mX11_subscriber) (pc := 11) dX11_subscriber_11 k_iconst_0 ?_
    refine wp_bipush (M := mX11_subscriber) (pc := 12) dX11_subscriber_12 k_bipush_7 ?_
    refine xs_callS (d := d + 1) (M := mX11_subscriber) (pc := 14) (As := [.int x2, .int 0, .int 7]) (st := []) (ls' := [.int x2, .int 0, .int 7]) dX11_subscriber_14 oX11_in nX11_in lX11_111 tX11_in (Nat.le_of_ble_eq_true rfl) rfl (Nat.le_of_ble_eq_true rfl) rfl ?_
    refine sp_X11_in   ?_
    refine xs_ifb_ne (M := mX11_subscriber) (pc := 17) (t := 22) dX11_subscriber_17 (by decide) (fun c2 => ?_) (fun c2 => ?_)
    · refine wp_aload_n (M := mX11_subscriber) (pc := 22) dX11_subscriber_22 rfl rfl ?_
      refine wp_iload_n (M := mX11_subscriber) (pc := 23) dX11_subscriber_23 rfl rfl ?_
      refine xs_callV (d := d + 1) (M := mX11_subscriber) (pc := 24) (As := [.int x1]) (st := []) (c := 11) (ls' := [.ref 82, .int x1]) dX11_subscriber_24 oX11_isTold nX11_isTold lX11_119 vX11_isTold sX11_isTold rfl sh82 (Nat.le_of_ble_eq_true rfl) rfl (Nat.le_of_ble_eq_true rfl) rfl ?_
      refine sp_X11_isTold   ?_
      refine xs_ifb_eq (M := mX11_subscriber) (pc := 27) (t := 35) dX11_subscriber_27 (by decide) (fun c3 => ?_) (fun c3 => ?_)
      · refine wp_aload_n (M := mX11_subscriber) (pc := 35) dX11_subscriber_35 rfl rfl ?_
        refine xs_getr (M := mX11_subscriber) (pc := 36) (r := 83) dX11_subscriber_36 fX11_7 sh82 rfl (gr82_0 sw) ?_
        refine wp_iconst (M := mX11_subscriber) (pc := 39) dX11_subscriber_39 k_iconst_0 ?_
        refine wp_iload_n (M := mX11_subscriber) (pc := 40) dX11_subscriber_40 rfl rfl ?_
        refine wp_iadd_0l (M := mX11_subscriber) (pc := 41) dX11_subscriber_41 ?_
        refine wp_iconst (M := mX11_subscriber) (pc := 42) dX11_subscriber_42 k_iconst_1 ?_
        refine xs_iast (M := mX11_subscriber) (pc := 43) (j := x1.toNatClampNeg) dX11_subscriber_43 sh83 (p2 c1 c2 c3) rfl ?_
        refine wp_aload_n (M := mX11_subscriber) (pc := 44) dX11_subscriber_44 rfl rfl ?_
        refine xs_getr (M := mX11_subscriber) (pc := 45) (r := 83) dX11_subscriber_45 fX11_7 sh82 rfl (gr82_0 sw) ?_
        refine wp_bipush (M := mX11_subscriber) (pc := 48) dX11_subscriber_48 k_bipush_16 ?_
        refine wp_iload_n (M := mX11_subscriber) (pc := 50) dX11_subscriber_50 rfl rfl ?_
        refine wp_iadd (M := mX11_subscriber) (pc := 51) dX11_subscriber_51 ?_
        refine wp_iload_n (M := mX11_subscriber) (pc := 52) dX11_subscriber_52 rfl rfl ?_
        refine xs_iast (M := mX11_subscriber) (pc := 53) (j := (16 + x1).toNatClampNeg) dX11_subscriber_53 sh83 (p3 c1 c2 c3) rfl ?_
        refine wp_aload_n (M := mX11_subscriber) (pc := 54) dX11_subscriber_54 rfl rfl ?_
        refine xs_getr (M := mX11_subscriber) (pc := 55) (r := 83) dX11_subscriber_55 fX11_7 sh82 rfl (gr82_0 sw) ?_
        refine wp_bipush (M := mX11_subscriber) (pc := 58) dX11_subscriber_58 k_bipush_32 ?_
        refine wp_iload_n (M := mX11_subscriber) (pc := 60) dX11_subscriber_60 rfl rfl ?_
        refine wp_iadd (M := mX11_subscriber) (pc := 61) dX11_subscriber_61 ?_
        refine wp_iload_n (M := mX11_subscriber) (pc := 62) dX11_subscriber_62 rfl rfl ?_
        refine wp_if_eq (M := mX11_subscriber) (pc := 63) (t := 70) dX11_subscriber_63 (by decide) (fun c4 => ?_) (fun c4 => ?_)
        · refine wp_iconst (M := mX11_subscriber) (pc := 70) dX11_subscriber_70 k_iconst_0 ?_
          refine xs_iast (M := mX11_subscriber) (pc := 71) (j := (32 + x1).toNatClampNeg) dX11_subscriber_71 sh83 (p4 c1 c2 c3 c4) rfl ?_
          refine wp_aload_n (M := mX11_subscriber) (pc := 72) dX11_subscriber_72 rfl rfl ?_
          refine xs_getr (M := mX11_subscriber) (pc := 73) (r := 83) dX11_subscriber_73 fX11_7 sh82 rfl (gr82_0 sw) ?_
          refine wp_bipush (M := mX11_subscriber) (pc := 76) dX11_subscriber_76 k_bipush_48 ?_
          refine wp_iload_n (M := mX11_subscriber) (pc := 78) dX11_subscriber_78 rfl rfl ?_
          refine wp_iadd (M := mX11_subscriber) (pc := 79) dX11_subscriber_79 ?_
          refine wp_iconst (M := mX11_subscriber) (pc := 80) dX11_subscriber_80 k_iconst_1 ?_
          refine xs_iast (M := mX11_subscriber) (pc := 81) (j := (48 + x1).toNatClampNeg) dX11_subscriber_81 sh83 (p5 c1 c2 c3 c4) rfl ?_
          refine wp_aload_n (M := mX11_subscriber) (pc := 82) dX11_subscriber_82 rfl rfl ?_
          refine xs_getr (M := mX11_subscriber) (pc := 83) (r := 83) dX11_subscriber_83 fX11_7 sh82 rfl (gr82_0 sw) ?_
          refine wp_bipush (M := mX11_subscriber) (pc := 86) dX11_subscriber_86 k_bipush_64 ?_
          refine wp_iload_n (M := mX11_subscriber) (pc := 88) dX11_subscriber_88 rfl rfl ?_
          refine wp_iadd (M := mX11_subscriber) (pc := 89) dX11_subscriber_89 ?_
          refine wp_iconst (M := mX11_subscriber) (pc := 90) dX11_subscriber_90 k_iconst_0 ?_
          refine xs_iast (M := mX11_subscriber) (pc := 91) (j := (64 + x1).toNatClampNeg) dX11_subscriber_91 sh83 (p6 c1 c2 c3 c4) rfl ?_
          refine wp_aload_n (M := mX11_subscriber) (pc := 92) dX11_subscriber_92 rfl rfl ?_
          refine xs_getr (M := mX11_subscriber) (pc := 93) (r := 83) dX11_subscriber_93 fX11_7 sh82 rfl (gr82_0 sw) ?_
          refine wp_bipush (M := mX11_subscriber) (pc := 96) dX11_subscriber_96 k_bipush_80 ?_
          refine wp_iload_n (M := mX11_subscriber) (pc := 98) dX11_subscriber_98 rfl rfl ?_
          refine wp_iadd (M := mX11_subscriber) (pc := 99) dX11_subscriber_99 ?_
          refine wp_iconst (M := mX11_subscriber) (pc := 100) dX11_subscriber_100 k_iconst_0 ?_
          refine xs_iast (M := mX11_subscriber) (pc := 101) (j := (80 + x1).toNatClampNeg) dX11_subscriber_101 sh83 (p7 c1 c2 c3 c4) rfl ?_
          refine wp_aload_n (M := mX11_subscriber) (pc := 102) dX11_subscriber_102 rfl rfl ?_
          refine xs_getr (M := mX11_subscriber) (pc := 103) (r := 83) dX11_subscriber_103 fX11_7 sh82 rfl (gr82_0 sw) ?_
          refine wp_bipush (M := mX11_subscriber) (pc := 106) dX11_subscriber_106 k_bipush_96 ?_
          refine wp_iload_n (M := mX11_subscriber) (pc := 108) dX11_subscriber_108 rfl rfl ?_
          refine wp_iadd (M := mX11_subscriber) (pc := 109) dX11_subscriber_109 ?_
          refine wp_iconst (M := mX11_subscriber) (pc := 110) dX11_subscriber_110 k_iconst_0 ?_
          refine xs_iast (M := mX11_subscriber) (pc := 111) (j := (96 + x1).toNatClampNeg) dX11_subscriber_111 sh83 (p8 c1 c2 c3 c4) rfl ?_
          refine wp_aload_n (M := mX11_subscriber) (pc := 112) dX11_subscriber_112 rfl rfl ?_
          refine xs_getr (M := mX11_subscriber) (pc := 113) (r := 83) dX11_subscriber_113 fX11_7 sh82 rfl (gr82_0 sw) ?_
          refine wp_bipush (M := mX11_subscriber) (pc := 116) dX11_subscriber_116 k_bipush_112 ?_
          refine wp_iload_n (M := mX11_subscriber) (pc := 118) dX11_subscriber_118 rfl rfl ?_
          refine wp_iadd (M := mX11_subscriber) (pc := 119) dX11_subscriber_119 ?_
          refine wp_iconst (M := mX11_subscriber) (pc := 120) dX11_subscriber_120 k_iconst_0 ?_
          refine xs_iast (M := mX11_subscriber) (pc := 121) (j := (112 + x1).toNatClampNeg) dX11_subscriber_121 sh83 (p9 c1 c2 c3 c4) rfl ?_
          refine wp_iconst (M := mX11_subscriber) (pc := 122) dX11_subscriber_122 k_iconst_1 ?_
          exact xs_zret (M := mX11_subscriber) (pc := 123) dX11_subscriber_123 rfl (by decide) (p10 c1 c2 c3 c4)
        · refine wp_iconst (M := mX11_subscriber) (pc := 66) dX11_subscriber_66 k_iconst_1 ?_
          refine wp_goto (M := mX11_subscriber) (pc := 67) (t := 71) dX11_subscriber_67 (by decide) ?_
          refine xs_iast (M := mX11_subscriber) (pc := 71) (j := (32 + x1).toNatClampNeg) dX11_subscriber_71 sh83 (p11 c1 c2 c3 c4) rfl ?_
          refine wp_aload_n (M := mX11_subscriber) (pc := 72) dX11_subscriber_72 rfl rfl ?_
          refine xs_getr (M := mX11_subscriber) (pc := 73) (r := 83) dX11_subscriber_73 fX11_7 sh82 rfl (gr82_0 sw) ?_
          refine wp_bipush (M := mX11_subscriber) (pc := 76) dX11_subscriber_76 k_bipush_48 ?_
          refine wp_iload_n (M := mX11_subscriber) (pc := 78) dX11_subscriber_78 rfl rfl ?_
          refine wp_iadd (M := mX11_subscriber) (pc := 79) dX11_subscriber_79 ?_
          refine wp_iconst (M := mX11_subscriber) (pc := 80) dX11_subscriber_80 k_iconst_1 ?_
          refine xs_iast (M := mX11_subscriber) (pc := 81) (j := (48 + x1).toNatClampNeg) dX11_subscriber_81 sh83 (p12 c1 c2 c3 c4) rfl ?_
          refine wp_aload_n (M := mX11_subscriber) (pc := 82) dX11_subscriber_82 rfl rfl ?_
          refine xs_getr (M := mX11_subscriber) (pc := 83) (r := 83) dX11_subscriber_83 fX11_7 sh82 rfl (gr82_0 sw) ?_
          refine wp_bipush (M := mX11_subscriber) (pc := 86) dX11_subscriber_86 k_bipush_64 ?_
          refine wp_iload_n (M := mX11_subscriber) (pc := 88) dX11_subscriber_88 rfl rfl ?_
          refine wp_iadd (M := mX11_subscriber) (pc := 89) dX11_subscriber_89 ?_
          refine wp_iconst (M := mX11_subscriber) (pc := 90) dX11_subscriber_90 k_iconst_0 ?_
          refine xs_iast (M := mX11_subscriber) (pc := 91) (j := (64 + x1).toNatClampNeg) dX11_subscriber_91 sh83 (p13 c1 c2 c3 c4) rfl ?_
          refine wp_aload_n (M := mX11_subscriber) (pc := 92) dX11_subscriber_92 rfl rfl ?_
          refine xs_getr (M := mX11_subscriber) (pc := 93) (r := 83) dX11_subscriber_93 fX11_7 sh82 rfl (gr82_0 sw) ?_
          refine wp_bipush (M := mX11_subscriber) (pc := 96) dX11_subscriber_96 k_bipush_80 ?_
          refine wp_iload_n (M := mX11_subscriber) (pc := 98) dX11_subscriber_98 rfl rfl ?_
          refine wp_iadd (M := mX11_subscriber) (pc := 99) dX11_subscriber_99 ?_
          refine wp_iconst (M := mX11_subscriber) (pc := 100) dX11_subscriber_100 k_iconst_0 ?_
          refine xs_iast (M := mX11_subscriber) (pc := 101) (j := (80 + x1).toNatClampNeg) dX11_subscriber_101 sh83 (p14 c1 c2 c3 c4) rfl ?_
          refine wp_aload_n (M := mX11_subscriber) (pc := 102) dX11_subscriber_102 rfl rfl ?_
          refine xs_getr (M := mX11_subscriber) (pc := 103) (r := 83) dX11_subscriber_103 fX11_7 sh82 rfl (gr82_0 sw) ?_
          refine wp_bipush (M := mX11_subscriber) (pc := 106) dX11_subscriber_106 k_bipush_96 ?_
          refine wp_iload_n (M := mX11_subscriber) (pc := 108) dX11_subscriber_108 rfl rfl ?_
          refine wp_iadd (M := mX11_subscriber) (pc := 109) dX11_subscriber_109 ?_
          refine wp_iconst (M := mX11_subscriber) (pc := 110) dX11_subscriber_110 k_iconst_0 ?_
          refine xs_iast (M := mX11_subscriber) (pc := 111) (j := (96 + x1).toNatClampNeg) dX11_subscriber_111 sh83 (p15 c1 c2 c3 c4) rfl ?_
          refine wp_aload_n (M := mX11_subscriber) (pc := 112) dX11_subscriber_112 rfl rfl ?_
          refine xs_getr (M := mX11_subscriber) (pc := 113) (r := 83) dX11_subscriber_113 fX11_7 sh82 rfl (gr82_0 sw) ?_
          refine wp_bipush (M := mX11_subscriber) (pc := 116) dX11_subscriber_116 k_bipush_112 ?_
          refine wp_iload_n (M := mX11_subscriber) (pc := 118) dX11_subscriber_118 rfl rfl ?_
          refine wp_iadd (M := mX11_subscriber) (pc := 119) dX11_subscriber_119 ?_
          refine wp_iconst (M := mX11_subscriber) (pc := 120) dX11_subscriber_120 k_iconst_0 ?_
          refine xs_iast (M := mX11_subscriber) (pc := 121) (j := (112 + x1).toNatClampNeg) dX11_subscriber_121 sh83 (p16 c1 c2 c3 c4) rfl ?_
          refine wp_iconst (M := mX11_subscriber) (pc := 122) dX11_subscriber_122 k_iconst_1 ?_
          exact xs_zret (M := mX11_subscriber) (pc := 123) dX11_subscriber_123 rfl (by decide) (p17 c1 c2 c3 c4)
      · refine wp_aload_n (M := mX11_subscriber) (pc := 30) dX11_subscriber_30 rfl rfl ?_
        refine wp_iload_n (M := mX11_subscriber) (pc := 31) dX11_subscriber_31 rfl rfl ?_
        refine xs_callV (d := d + 1) (M := mX11_subscriber) (pc := 32) (As := [.int x1]) (st := []) (c := 11) (ls' := [.ref 82, .int x1, .null]) dX11_subscriber_32 oX11_endsCallOf nX11_endsCallOf lX11_127 vX11_endsCallOf sX11_endsCallOf rfl sh82 (Nat.le_of_ble_eq_true rfl) rfl (Nat.le_of_ble_eq_true rfl) rfl ?_
        exact p18 c1 c2 c3
    · refine wp_iconst (M := mX11_subscriber) (pc := 20) dX11_subscriber_20 k_iconst_0 ?_
      exact xs_zret (M := mX11_subscriber) (pc := 21) dX11_subscriber_21 rfl (by decide) (p19 c1 c2)
theorem bX11_subscriber_35 {G : GC} {d : Nat} {sw : Bool} {f : FF} {Q : QQ} {x1 : Int32} {x2 : Int32} {x3 : Int32} (p1 : vp_in x1 391) (p2 : vp_in (16 + x1) 391) (p3 : (x3 = 0) → vp_in (32 + x1) 391) (p4 : (x3 = 0) → vp_in (48 + x1) 391) (p5 : (x3 = 0) → vp_in (64 + x1) 391) (p6 : (x3 = 0) → vp_in (80 + x1) 391) (p7 : (x3 = 0) → vp_in (96 + x1) 391) (p8 : (x3 = 0) → vp_in (112 + x1) 391) (p9 : (x3 = 0) → Q (some (.int 1)) sw (upd2 (upd2 (upd2 (upd2 (upd2 (upd2 (upd2 (upd2 f 83 x1.toNatClampNeg 1) 83 ((16 + x1).toNatClampNeg) x2) 83 ((32 + x1).toNatClampNeg) 0) 83 ((48 + x1).toNatClampNeg) 1) 83 ((64 + x1).toNatClampNeg) 0) 83 ((80 + x1).toNatClampNeg) 0) 83 ((96 + x1).toNatClampNeg) 0) 83 ((112 + x1).toNatClampNeg) 0)) (p10 : (¬ x3 = 0) → vp_in (32 + x1) 391) (p11 : (¬ x3 = 0) → vp_in (48 + x1) 391) (p12 : (¬ x3 = 0) → vp_in (64 + x1) 391) (p13 : (¬ x3 = 0) → vp_in (80 + x1) 391) (p14 : (¬ x3 = 0) → vp_in (96 + x1) 391) (p15 : (¬ x3 = 0) → vp_in (112 + x1) 391) (p16 : (¬ x3 = 0) → Q (some (.int 1)) sw (upd2 (upd2 (upd2 (upd2 (upd2 (upd2 (upd2 (upd2 f 83 x1.toNatClampNeg 1) 83 ((16 + x1).toNatClampNeg) x2) 83 ((32 + x1).toNatClampNeg) 1) 83 ((48 + x1).toNatClampNeg) 1) 83 ((64 + x1).toNatClampNeg) 0) 83 ((80 + x1).toNatClampNeg) 0) 83 ((96 + x1).toNatClampNeg) 0) 83 ((112 + x1).toNatClampNeg) 0)) : XP G mX11_subscriber (d + 2) 35 [.ref 82, .int x1, .int x2, .int x3] [] sw f Q := by
  refine wp_aload_n (M := mX11_subscriber) (pc := 35) dX11_subscriber_35 rfl rfl ?_
  refine xs_getr (M := mX11_subscriber) (pc := 36) (r := 83) dX11_subscriber_36 fX11_7 sh82 rfl (gr82_0 sw) ?_
  refine wp_iconst (M := mX11_subscriber) (pc := 39) dX11_subscriber_39 k_iconst_0 ?_
  refine wp_iload_n (M := mX11_subscriber) (pc := 40) dX11_subscriber_40 rfl rfl ?_
  refine wp_iadd_0l (M := mX11_subscriber) (pc := 41) dX11_subscriber_41 ?_
  refine wp_iconst (M := mX11_subscriber) (pc := 42) dX11_subscriber_42 k_iconst_1 ?_
  refine xs_iast (M := mX11_subscriber) (pc := 43) (j := x1.toNatClampNeg) dX11_subscriber_43 sh83 (p1) rfl ?_
  refine wp_aload_n (M := mX11_subscriber) (pc := 44) dX11_subscriber_44 rfl rfl ?_
  refine xs_getr (M := mX11_subscriber) (pc := 45) (r := 83) dX11_subscriber_45 fX11_7 sh82 rfl (gr82_0 sw) ?_
  refine wp_bipush (M := mX11_subscriber) (pc := 48) dX11_subscriber_48 k_bipush_16 ?_
  refine wp_iload_n (M := mX11_subscriber) (pc := 50) dX11_subscriber_50 rfl rfl ?_
  refine wp_iadd (M := mX11_subscriber) (pc := 51) dX11_subscriber_51 ?_
  refine wp_iload_n (M := mX11_subscriber) (pc := 52) dX11_subscriber_52 rfl rfl ?_
  refine xs_iast (M := mX11_subscriber) (pc := 53) (j := (16 + x1).toNatClampNeg) dX11_subscriber_53 sh83 (p2) rfl ?_
  refine wp_aload_n (M := mX11_subscriber) (pc := 54) dX11_subscriber_54 rfl rfl ?_
  refine xs_getr (M := mX11_subscriber) (pc := 55) (r := 83) dX11_subscriber_55 fX11_7 sh82 rfl (gr82_0 sw) ?_
  refine wp_bipush (M := mX11_subscriber) (pc := 58) dX11_subscriber_58 k_bipush_32 ?_
  refine wp_iload_n (M := mX11_subscriber) (pc := 60) dX11_subscriber_60 rfl rfl ?_
  refine wp_iadd (M := mX11_subscriber) (pc := 61) dX11_subscriber_61 ?_
  refine wp_iload_n (M := mX11_subscriber) (pc := 62) dX11_subscriber_62 rfl rfl ?_
  refine wp_if_eq (M := mX11_subscriber) (pc := 63) (t := 70) dX11_subscriber_63 (by decide) (fun c1 => ?_) (fun c1 => ?_)
  · refine wp_iconst (M := mX11_subscriber) (pc := 70) dX11_subscriber_70 k_iconst_0 ?_
    refine xs_iast (M := mX11_subscriber) (pc := 71) (j := (32 + x1).toNatClampNeg) dX11_subscriber_71 sh83 (p3 c1) rfl ?_
    refine wp_aload_n (M := mX11_subscriber) (pc := 72) dX11_subscriber_72 rfl rfl ?_
    refine xs_getr (M := mX11_subscriber) (pc := 73) (r := 83) dX11_subscriber_73 fX11_7 sh82 rfl (gr82_0 sw) ?_
    refine wp_bipush (M := mX11_subscriber) (pc := 76) dX11_subscriber_76 k_bipush_48 ?_
    refine wp_iload_n (M := mX11_subscriber) (pc := 78) dX11_subscriber_78 rfl rfl ?_
    refine wp_iadd (M := mX11_subscriber) (pc := 79) dX11_subscriber_79 ?_
    refine wp_iconst (M := mX11_subscriber) (pc := 80) dX11_subscriber_80 k_iconst_1 ?_
    refine xs_iast (M := mX11_subscriber) (pc := 81) (j := (48 + x1).toNatClampNeg) dX11_subscriber_81 sh83 (p4 c1) rfl ?_
    refine wp_aload_n (M := mX11_subscriber) (pc := 82) dX11_subscriber_82 rfl rfl ?_
    refine xs_getr (M := mX11_subscriber) (pc := 83) (r := 83) dX11_subscriber_83 fX11_7 sh82 rfl (gr82_0 sw) ?_
    refine wp_bipush (M := mX11_subscriber) (pc := 86) dX11_subscriber_86 k_bipush_64 ?_
    refine wp_iload_n (M := mX11_subscriber) (pc := 88) dX11_subscriber_88 rfl rfl ?_
    refine wp_iadd (M := mX11_subscriber) (pc := 89) dX11_subscriber_89 ?_
    refine wp_iconst (M := mX11_subscriber) (pc := 90) dX11_subscriber_90 k_iconst_0 ?_
    refine xs_iast (M := mX11_subscriber) (pc := 91) (j := (64 + x1).toNatClampNeg) dX11_subscriber_91 sh83 (p5 c1) rfl ?_
    refine wp_aload_n (M := mX11_subscriber) (pc := 92) dX11_subscriber_92 rfl rfl ?_
    refine xs_getr (M := mX11_subscriber) (pc := 93) (r := 83) dX11_subscriber_93 fX11_7 sh82 rfl (gr82_0 sw) ?_
    refine wp_bipush (M := mX11_subscriber) (pc := 96) dX11_subscriber_96 k_bipush_80 ?_
    refine wp_iload_n (M := mX11_subscriber) (pc := 98) dX11_subscriber_98 rfl rfl ?_
    refine wp_iadd (M := mX11_subscriber) (pc := 99) dX11_subscriber_99 ?_
    refine wp_iconst (M := mX11_subscriber) (pc := 100) dX11_subscriber_100 k_iconst_0 ?_
    refine xs_iast (M := mX11_subscriber) (pc := 101) (j := (80 + x1).toNatClampNeg) dX11_subscriber_101 sh83 (p6 c1) rfl ?_
    refine wp_aload_n (M := mX11_subscriber) (pc := 102) dX11_subscriber_102 rfl rfl ?_
    refine xs_getr (M := mX11_subscriber) (pc := 103) (r := 83) dX11_subscriber_103 fX11_7 sh82 rfl (gr82_0 sw) ?_
    refine wp_bipush (M := mX11_subscriber) (pc := 106) dX11_subscriber_106 k_bipush_96 ?_
    refine wp_iload_n (M := mX11_subscriber) (pc := 108) dX11_subscriber_108 rfl rfl ?_
    refine wp_iadd (M := mX11_subscriber) (pc := 109) dX11_subscriber_109 ?_
    refine wp_iconst (M := mX11_subscriber) (pc := 110) dX11_subscriber_110 k_iconst_0 ?_
    refine xs_iast (M := mX11_subscriber) (pc := 111) (j := (96 + x1).toNatClampNeg) dX11_subscriber_111 sh83 (p7 c1) rfl ?_
    refine wp_aload_n (M := mX11_subscriber) (pc := 112) dX11_subscriber_112 rfl rfl ?_
    refine xs_getr (M := mX11_subscriber) (pc := 113) (r := 83) dX11_subscriber_113 fX11_7 sh82 rfl (gr82_0 sw) ?_
    refine wp_bipush (M := mX11_subscriber) (pc := 116) dX11_subscriber_116 k_bipush_112 ?_
    refine wp_iload_n (M := mX11_subscriber) (pc := 118) dX11_subscriber_118 rfl rfl ?_
    refine wp_iadd (M := mX11_subscriber) (pc := 119) dX11_subscriber_119 ?_
    refine wp_iconst (M := mX11_subscriber) (pc := 120) dX11_subscriber_120 k_iconst_0 ?_
    refine xs_iast (M := mX11_subscriber) (pc := 121) (j := (112 + x1).toNatClampNeg) dX11_subscriber_121 sh83 (p8 c1) rfl ?_
    refine wp_iconst (M := mX11_subscriber) (pc := 122) dX11_subscriber_122 k_iconst_1 ?_
    exact xs_zret (M := mX11_subscriber) (pc := 123) dX11_subscriber_123 rfl (by decide) (p9 c1)
  · refine wp_iconst (M := mX11_subscriber) (pc := 66) dX11_subscriber_66 k_iconst_1 ?_
    refine wp_goto (M := mX11_subscriber) (pc := 67) (t := 71) dX11_subscriber_67 (by decide) ?_
    refine xs_iast (M := mX11_subscriber) (pc := 71) (j := (32 + x1).toNatClampNeg) dX11_subscriber_71 sh83 (p10 c1) rfl ?_
    refine wp_aload_n (M := mX11_subscriber) (pc := 72) dX11_subscriber_72 rfl rfl ?_
    refine xs_getr (M := mX11_subscriber) (pc := 73) (r := 83) dX11_subscriber_73 fX11_7 sh82 rfl (gr82_0 sw) ?_
    refine wp_bipush (M := mX11_subscriber) (pc := 76) dX11_subscriber_76 k_bipush_48 ?_
    refine wp_iload_n (M := mX11_subscriber) (pc := 78) dX11_subscriber_78 rfl rfl ?_
    refine wp_iadd (M := mX11_subscriber) (pc := 79) dX11_subscriber_79 ?_
    refine wp_iconst (M := mX11_subscriber) (pc := 80) dX11_subscriber_80 k_iconst_1 ?_
    refine xs_iast (M := mX11_subscriber) (pc := 81) (j := (48 + x1).toNatClampNeg) dX11_subscriber_81 sh83 (p11 c1) rfl ?_
    refine wp_aload_n (M := mX11_subscriber) (pc := 82) dX11_subscriber_82 rfl rfl ?_
    refine xs_getr (M := mX11_subscriber) (pc := 83) (r := 83) dX11_subscriber_83 fX11_7 sh82 rfl (gr82_0 sw) ?_
    refine wp_bipush (M := mX11_subscriber) (pc := 86) dX11_subscriber_86 k_bipush_64 ?_
    refine wp_iload_n (M := mX11_subscriber) (pc := 88) dX11_subscriber_88 rfl rfl ?_
    refine wp_iadd (M := mX11_subscriber) (pc := 89) dX11_subscriber_89 ?_
    refine wp_iconst (M := mX11_subscriber) (pc := 90) dX11_subscriber_90 k_iconst_0 ?_
    refine xs_iast (M := mX11_subscriber) (pc := 91) (j := (64 + x1).toNatClampNeg) dX11_subscriber_91 sh83 (p12 c1) rfl ?_
    refine wp_aload_n (M := mX11_subscriber) (pc := 92) dX11_subscriber_92 rfl rfl ?_
    refine xs_getr (M := mX11_subscriber) (pc := 93) (r := 83) dX11_subscriber_93 fX11_7 sh82 rfl (gr82_0 sw) ?_
    refine wp_bipush (M := mX11_subscriber) (pc := 96) dX11_subscriber_96 k_bipush_80 ?_
    refine wp_iload_n (M := mX11_subscriber) (pc := 98) dX11_subscriber_98 rfl rfl ?_
    refine wp_iadd (M := mX11_subscriber) (pc := 99) dX11_subscriber_99 ?_
    refine wp_iconst (M := mX11_subscriber) (pc := 100) dX11_subscriber_100 k_iconst_0 ?_
    refine xs_iast (M := mX11_subscriber) (pc := 101) (j := (80 + x1).toNatClampNeg) dX11_subscriber_101 sh83 (p13 c1) rfl ?_
    refine wp_aload_n (M := mX11_subscriber) (pc := 102) dX11_subscriber_102 rfl rfl ?_
    refine xs_getr (M := mX11_subscriber) (pc := 103) (r := 83) dX11_subscriber_103 fX11_7 sh82 rfl (gr82_0 sw) ?_
    refine wp_bipush (M := mX11_subscriber) (pc := 106) dX11_subscriber_106 k_bipush_96 ?_
    refine wp_iload_n (M := mX11_subscriber) (pc := 108) dX11_subscriber_108 rfl rfl ?_
    refine wp_iadd (M := mX11_subscriber) (pc := 109) dX11_subscriber_109 ?_
    refine wp_iconst (M := mX11_subscriber) (pc := 110) dX11_subscriber_110 k_iconst_0 ?_
    refine xs_iast (M := mX11_subscriber) (pc := 111) (j := (96 + x1).toNatClampNeg) dX11_subscriber_111 sh83 (p14 c1) rfl ?_
    refine wp_aload_n (M := mX11_subscriber) (pc := 112) dX11_subscriber_112 rfl rfl ?_
    refine xs_getr (M := mX11_subscriber) (pc := 113) (r := 83) dX11_subscriber_113 fX11_7 sh82 rfl (gr82_0 sw) ?_
    refine wp_bipush (M := mX11_subscriber) (pc := 116) dX11_subscriber_116 k_bipush_112 ?_
    refine wp_iload_n (M := mX11_subscriber) (pc := 118) dX11_subscriber_118 rfl rfl ?_
    refine wp_iadd (M := mX11_subscriber) (pc := 119) dX11_subscriber_119 ?_
    refine wp_iconst (M := mX11_subscriber) (pc := 120) dX11_subscriber_120 k_iconst_0 ?_
    refine xs_iast (M := mX11_subscriber) (pc := 121) (j := (112 + x1).toNatClampNeg) dX11_subscriber_121 sh83 (p15 c1) rfl ?_
    refine wp_iconst (M := mX11_subscriber) (pc := 122) dX11_subscriber_122 k_iconst_1 ?_
    exact xs_zret (M := mX11_subscriber) (pc := 123) dX11_subscriber_123 rfl (by decide) (p16 c1)
theorem bX11_endsCallOf_0 {G : GC} {d : Nat} {sw : Bool} {f : FF} {Q : QQ} {x1 : Int32} (p1 : XP G mX11_callOf (d) 0 [.ref 82, .int x1, .null] [] sw f (fun v sw' f' => XP G mX11_endsCallOf (d + 1) 5 [.ref 82, .int x1, .null] (retst v []) sw' f' Q)) : XP G mX11_endsCallOf (d + 1) 0 [.ref 82, .int x1, .null] [] sw f Q := by
  refine wp_aload_n (M := mX11_endsCallOf) (pc := 0) dX11_endsCallOf_0 rfl rfl ?_
  refine wp_iload_n (M := mX11_endsCallOf) (pc := 1) dX11_endsCallOf_1 rfl rfl ?_
  refine xs_callV (d := d) (M := mX11_endsCallOf) (pc := 2) (As := [.int x1]) (st := []) (c := 11) (ls' := [.ref 82, .int x1, .null]) dX11_endsCallOf_2 oX11_callOf nX11_callOf lX11_115 vX11_callOf sX11_callOf rfl sh82 (Nat.le_of_ble_eq_true rfl) rfl (Nat.le_of_ble_eq_true rfl) rfl ?_
  exact p1
theorem bX11_endsCallOf_5 {G : GC} {d : Nat} {sw : Bool} {f : FF} {Q : QQ} {x1 : Int32} {v2 : Value} {s0 : Int32} (p1 : (s0 = (-1)) → Q none sw f) (p2 : (¬ s0 = (-1)) → vp_in (188 + s0) 391) (p3 : (¬ s0 = (-1)) → Q none sw (upd2 f 83 ((188 + s0).toNatClampNeg) 0)) : XP G mX11_endsCallOf (d + 1) 5 [.ref 82, .int x1, v2] [.int s0] sw f Q := by
  refine wp_istore_n (M := mX11_endsCallOf) (pc := 5) (ls' := [.ref 82, .int x1, .int s0]) dX11_endsCallOf_5 rfl (by decide) rfl ?_
  refine wp_iload_n (M := mX11_endsCallOf) (pc := 6) dX11_endsCallOf_6 rfl rfl ?_
  refine wp_iconst (M := mX11_endsCallOf) (pc := 7) dX11_endsCallOf_7 k_iconst_m1 ?_
  refine wp_icmp_eq (M := mX11_endsCallOf) (pc := 8) (t := 22) dX11_endsCallOf_8 (by decide) (fun c1 => ?_) (fun c1 => ?_)
  · exact xs_ret (M := mX11_endsCallOf) (pc := 22) dX11_endsCallOf_22 rfl (p1 c1)
  · refine wp_aload_n (M := mX11_endsCallOf) (pc := 11) dX11_endsCallOf_11 rfl rfl ?_
    refine xs_getr (M := mX11_endsCallOf) (pc := 12) (r := 83) dX11_endsCallOf_12 fX11_7 sh82 rfl (gr82_0 sw) ?_
    refine wp_sipush (M := mX11_endsCallOf) (pc := 15) dX11_endsCallOf_15 k_sipush_188 ?_
    refine wp_iload_n (M := mX11_endsCallOf) (pc := 18) dX11_endsCallOf_18 rfl rfl ?_
    refine wp_iadd (M := mX11_endsCallOf) (pc := 19) dX11_endsCallOf_19 ?_
    refine wp_iconst (M := mX11_endsCallOf) (pc := 20) dX11_endsCallOf_20 k_iconst_0 ?_
    refine xs_iast (M := mX11_endsCallOf) (pc := 21) (j := (188 + s0).toNatClampNeg) dX11_endsCallOf_21 sh83 (p2 c1) rfl ?_
    exact xs_ret (M := mX11_endsCallOf) (pc := 22) dX11_endsCallOf_22 rfl (p3 c1)
theorem bX11_callOf_0 {G : GC} {d : Nat} {sw : Bool} {f : FF} {Q : QQ} {x1 : Int32} (p1 : XP G mX11_callOf (d) 2 [.ref 82, .int x1, .int 0] [] sw f Q) : XP G mX11_callOf (d) 0 [.ref 82, .int x1, .null] [] sw f Q := by
  refine wp_iconst (M := mX11_callOf) (pc := 0) dX11_callOf_0 k_iconst_0 ?_
  refine wp_istore_n (M := mX11_callOf) (pc := 1) (ls' := [.ref 82, .int x1, .int 0]) dX11_callOf_1 rfl (by decide) rfl ?_
  exact p1
theorem bX11_callOf_2 {G : GC} {d : Nat} {sw : Bool} {f : FF} {Q : QQ} {x1 : Int32} {x2 : Int32} (p1 : (20 ≤ x2) → Q (some (.int (-1))) sw f) (p2 : (¬ 20 ≤ x2) → vp_in (188 + x2) 391) (p3 : (¬ 20 ≤ x2) → ((f 83 ((188 + x2).toNatClampNeg)) ≤ 0) → XP G mX11_callOf (d) 2 [.ref 82, .int x1, .int (x2 + 1)] [] sw f Q) (p4 : (¬ 20 ≤ x2) → (¬ (f 83 ((188 + x2).toNatClampNeg)) ≤ 0) → vp_in (128 + x2) 391) (p5 : (¬ 20 ≤ x2) → (¬ (f 83 ((188 + x2).toNatClampNeg)) ≤ 0) → ((f 83 ((128 + x2).toNatClampNeg)) = x1) → Q (some (.int x2)) sw f) (p6 : (¬ 20 ≤ x2) → (¬ (f 83 ((188 + x2).toNatClampNeg)) ≤ 0) → (¬ (f 83 ((128 + x2).toNatClampNeg)) = x1) → vp_in (148 + x2) 391) (p7 : (¬ 20 ≤ x2) → (¬ (f 83 ((188 + x2).toNatClampNeg)) ≤ 0) → (¬ (f 83 ((128 + x2).toNatClampNeg)) = x1) → (¬ (f 83 ((148 + x2).toNatClampNeg)) = x1) → XP G mX11_callOf (d) 2 [.ref 82, .int x1, .int (x2 + 1)] [] sw f Q) (p8 : (¬ 20 ≤ x2) → (¬ (f 83 ((188 + x2).toNatClampNeg)) ≤ 0) → (¬ (f 83 ((128 + x2).toNatClampNeg)) = x1) → ((f 83 ((148 + x2).toNatClampNeg)) = x1) → Q (some (.int x2)) sw f) : XP G mX11_callOf (d) 2 [.ref 82, .int x1, .int x2] [] sw f Q := by
  refine wp_iload_n (M := mX11_callOf) (pc := 2) dX11_callOf_2 rfl rfl ?_
  refine wp_bipush (M := mX11_callOf) (pc := 3) dX11_callOf_3 k_bipush_20 ?_
  refine wp_icmp_ge (M := mX11_callOf) (pc := 5) (t := 57) dX11_callOf_5 (by decide) (fun c1 => ?_) (fun c1 => ?_)
  · refine wp_iconst (M := mX11_callOf) (pc := 57) dX11_callOf_57 k_iconst_m1 ?_
    exact xs_iret (M := mX11_callOf) (pc := 58) dX11_callOf_58 rfl (p1 c1)
  · refine wp_aload_n (M := mX11_callOf) (pc := 8) dX11_callOf_8 rfl rfl ?_
    refine xs_getr (M := mX11_callOf) (pc := 9) (r := 83) dX11_callOf_9 fX11_7 sh82 rfl (gr82_0 sw) ?_
    refine wp_sipush (M := mX11_callOf) (pc := 12) dX11_callOf_12 k_sipush_188 ?_
    refine wp_iload_n (M := mX11_callOf) (pc := 15) dX11_callOf_15 rfl rfl ?_
    refine wp_iadd (M := mX11_callOf) (pc := 16) dX11_callOf_16 ?_
    refine xs_iald (M := mX11_callOf) (pc := 17) (j := (188 + x2).toNatClampNeg) dX11_callOf_17 sh83 (p2 c1) rfl ?_
    refine wp_if_le (M := mX11_callOf) (pc := 18) (t := 51) dX11_callOf_18 (by decide) (fun c2 => ?_) (fun c2 => ?_)
    · refine wp_iinc (M := mX11_callOf) (pc := 51) (v := x2 + 1) (ls' := [.ref 82, .int x1, .int (x2 + 1)]) dX11_callOf_51 rfl (congrArg (fun z => _ + z) k_iconst_1) (by decide) rfl ?_
      refine wp_goto (M := mX11_callOf) (pc := 54) (t := 2) dX11_callOf_54 (by decide) ?_
      exact p3 c1 c2
    · refine wp_aload_n (M := mX11_callOf) (pc := 21) dX11_callOf_21 rfl rfl ?_
      refine xs_getr (M := mX11_callOf) (pc := 22) (r := 83) dX11_callOf_22 fX11_7 sh82 rfl (gr82_0 sw) ?_
      refine wp_sipush (M := mX11_callOf) (pc := 25) dX11_callOf_25 k_sipush_128 ?_
      refine wp_iload_n (M := mX11_callOf) (pc := 28) dX11_callOf_28 rfl rfl ?_
      refine wp_iadd (M := mX11_callOf) (pc := 29) dX11_callOf_29 ?_
      refine xs_iald (M := mX11_callOf) (pc := 30) (j := (128 + x2).toNatClampNeg) dX11_callOf_30 sh83 (p4 c1 c2) rfl ?_
      refine wp_iload_n (M := mX11_callOf) (pc := 31) dX11_callOf_31 rfl rfl ?_
      refine wp_icmp_eq (M := mX11_callOf) (pc := 32) (t := 49) dX11_callOf_32 (by decide) (fun c3 => ?_) (fun c3 => ?_)
      · refine wp_iload_n (M := mX11_callOf) (pc := 49) dX11_callOf_49 rfl rfl ?_
        exact xs_iret (M := mX11_callOf) (pc := 50) dX11_callOf_50 rfl (p5 c1 c2 c3)
      · refine wp_aload_n (M := mX11_callOf) (pc := 35) dX11_callOf_35 rfl rfl ?_
        refine xs_getr (M := mX11_callOf) (pc := 36) (r := 83) dX11_callOf_36 fX11_7 sh82 rfl (gr82_0 sw) ?_
        refine wp_sipush (M := mX11_callOf) (pc := 39) dX11_callOf_39 k_sipush_148 ?_
        refine wp_iload_n (M := mX11_callOf) (pc := 42) dX11_callOf_42 rfl rfl ?_
        refine wp_iadd (M := mX11_callOf) (pc := 43) dX11_callOf_43 ?_
        refine xs_iald (M := mX11_callOf) (pc := 44) (j := (148 + x2).toNatClampNeg) dX11_callOf_44 sh83 (p6 c1 c2 c3) rfl ?_
        refine wp_iload_n (M := mX11_callOf) (pc := 45) dX11_callOf_45 rfl rfl ?_
        refine wp_icmp_ne (M := mX11_callOf) (pc := 46) (t := 51) dX11_callOf_46 (by decide) (fun c4 => ?_) (fun c4 => ?_)
        · refine wp_iinc (M := mX11_callOf) (pc := 51) (v := x2 + 1) (ls' := [.ref 82, .int x1, .int (x2 + 1)]) dX11_callOf_51 rfl (congrArg (fun z => _ + z) k_iconst_1) (by decide) rfl ?_
          refine wp_goto (M := mX11_callOf) (pc := 54) (t := 2) dX11_callOf_54 (by decide) ?_
          exact p7 c1 c2 c3 c4
        · refine wp_iload_n (M := mX11_callOf) (pc := 49) dX11_callOf_49 rfl rfl ?_
          exact xs_iret (M := mX11_callOf) (pc := 50) dX11_callOf_50 rfl (p8 c1 c2 c3 c4)
theorem bX11_fund_0 {G : GC} {d : Nat} {sw : Bool} {f : FF} {Q : QQ} {x1 : Int32} (p1 : (0 ≤ x1 ∧ x1 ≤ 999999) → Q (some (.int 1)) sw (upd2 f 83 388 x1)) (p2 : (¬ (0 ≤ x1 ∧ x1 ≤ 999999)) → Q (some (.int 0)) sw f) : XP G mX11_fund (d + 1) 0 [.ref 82, .int x1] [] sw f Q := by
  refine wp_iload_n (M := mX11_fund) (pc := 0) dX11_fund_0 rfl rfl ?_
  refine wp_iconst (M := mX11_fund) (pc := 1) dX11_fund_1 k_iconst_0 ?_
  refine wp_ldc (M := mX11_fund) (pc := 2) dX11_fund_2 kX11_131 ?_
  refine xs_callS (d := d) (M := mX11_fund) (pc := 4) (As := [.int x1, .int 0, .int 999999]) (st := []) (ls' := [.int x1, .int 0, .int 999999]) dX11_fund_4 oX11_in nX11_in lX11_111 tX11_in (Nat.le_of_ble_eq_true rfl) rfl (Nat.le_of_ble_eq_true rfl) rfl ?_
  refine sp_X11_in   ?_
  refine xs_ifb_ne (M := mX11_fund) (pc := 7) (t := 12) dX11_fund_7 (by decide) (fun c1 => ?_) (fun c1 => ?_)
  · refine wp_aload_n (M := mX11_fund) (pc := 12) dX11_fund_12 rfl rfl ?_
    refine xs_getr (M := mX11_fund) (pc := 13) (r := 83) dX11_fund_13 fX11_7 sh82 rfl (gr82_0 sw) ?_
    refine wp_sipush (M := mX11_fund) (pc := 16) dX11_fund_16 k_sipush_388 ?_
    refine wp_iload_n (M := mX11_fund) (pc := 19) dX11_fund_19 rfl rfl ?_
    refine xs_iast (M := mX11_fund) (pc := 20) (j := 388) dX11_fund_20 sh83 (vin (by decide)) rfl ?_
    refine wp_iconst (M := mX11_fund) (pc := 21) dX11_fund_21 k_iconst_1 ?_
    exact xs_zret (M := mX11_fund) (pc := 22) dX11_fund_22 rfl (by decide) (p1 c1)
  · refine wp_iconst (M := mX11_fund) (pc := 10) dX11_fund_10 k_iconst_0 ?_
    exact xs_zret (M := mX11_fund) (pc := 11) dX11_fund_11 rfl (by decide) (p2 c1)
theorem bX11_rate_0 {G : GC} {d : Nat} {sw : Bool} {f : FF} {Q : QQ} {x1 : Int32} {x2 : Int32} (p1 : (¬ (0 ≤ x1 ∧ x1 ≤ 99)) → Q (some (.int 0)) sw f) (p2 : (0 ≤ x1 ∧ x1 ≤ 99) → (0 ≤ x2 ∧ x2 ≤ 99) → Q (some (.int 1)) sw (upd2 (upd2 f 82 4 x1) 82 5 x2)) (p3 : (0 ≤ x1 ∧ x1 ≤ 99) → (¬ (0 ≤ x2 ∧ x2 ≤ 99)) → Q (some (.int 0)) sw f) : XP G mX11_rate (d + 1) 0 [.ref 82, .int x1, .int x2] [] sw f Q := by
  refine wp_iload_n (M := mX11_rate) (pc := 0) dX11_rate_0 rfl rfl ?_
  refine wp_iconst (M := mX11_rate) (pc := 1) dX11_rate_1 k_iconst_0 ?_
  refine wp_bipush (M := mX11_rate) (pc := 2) dX11_rate_2 k_bipush_99 ?_
  refine xs_callS (d := d) (M := mX11_rate) (pc := 4) (As := [.int x1, .int 0, .int 99]) (st := []) (ls' := [.int x1, .int 0, .int 99]) dX11_rate_4 oX11_in nX11_in lX11_111 tX11_in (Nat.le_of_ble_eq_true rfl) rfl (Nat.le_of_ble_eq_true rfl) rfl ?_
  refine sp_X11_in   ?_
  refine xs_ifb_eq (M := mX11_rate) (pc := 7) (t := 20) dX11_rate_7 (by decide) (fun c1 => ?_) (fun c1 => ?_)
  · refine wp_iconst (M := mX11_rate) (pc := 20) dX11_rate_20 k_iconst_0 ?_
    exact xs_zret (M := mX11_rate) (pc := 21) dX11_rate_21 rfl (by decide) (p1 c1)
  · refine wp_iload_n (M := mX11_rate) (pc := 10) dX11_rate_10 rfl rfl ?_
    refine wp_iconst (M := mX11_rate) (pc := 11) dX11_rate_11 k_iconst_0 ?_
    refine wp_bipush (M := mX11_rate) (pc := 12) dX11_rate_12 k_bipush_99 ?_
    refine xs_callS (d := d) (M := mX11_rate) (pc := 14) (As := [.int x2, .int 0, .int 99]) (st := []) (ls' := [.int x2, .int 0, .int 99]) dX11_rate_14 oX11_in nX11_in lX11_111 tX11_in (Nat.le_of_ble_eq_true rfl) rfl (Nat.le_of_ble_eq_true rfl) rfl ?_
    refine sp_X11_in   ?_
    refine xs_ifb_ne (M := mX11_rate) (pc := 17) (t := 22) dX11_rate_17 (by decide) (fun c2 => ?_) (fun c2 => ?_)
    · refine wp_aload_n (M := mX11_rate) (pc := 22) dX11_rate_22 rfl rfl ?_
      refine wp_iload_n (M := mX11_rate) (pc := 23) dX11_rate_23 rfl rfl ?_
      refine xs_puti (M := mX11_rate) (pc := 24) dX11_rate_24 pX11_104 sh82 rfl ?_
      refine wp_aload_n (M := mX11_rate) (pc := 27) dX11_rate_27 rfl rfl ?_
      refine wp_iload_n (M := mX11_rate) (pc := 28) dX11_rate_28 rfl rfl ?_
      refine xs_puti (M := mX11_rate) (pc := 29) dX11_rate_29 pX11_108 sh82 rfl ?_
      refine wp_iconst (M := mX11_rate) (pc := 32) dX11_rate_32 k_iconst_1 ?_
      exact xs_zret (M := mX11_rate) (pc := 33) dX11_rate_33 rfl (by decide) (p2 c1 c2)
    · refine wp_iconst (M := mX11_rate) (pc := 20) dX11_rate_20 k_iconst_0 ?_
      exact xs_zret (M := mX11_rate) (pc := 21) dX11_rate_21 rfl (by decide) (p3 c1 c2)
theorem bX11_feed_0 {G : GC} {d : Nat} {sw : Bool} {f : FF} {Q : QQ} {x1 : Int32} {x2 : Int32} {x3 : Int32} {x4 : Int32} {x5 : Int32} (p1 : (((f 82 10) + 20) ≤ 260) → XP G mX11_types (d) 0 [.ref 82, .int x1, .null] [] sw f (fun v sw' f' => XP G mX11_feed (d + 1) 20 [.ref 82, .int x1, .int x2, .int x3, .int x4, .int x5] (retst v []) sw' f' Q)) (p2 : (¬ ((f 82 10) + 20) ≤ 260) → Q (some (.int (-1))) sw f) : XP G mX11_feed (d + 1) 0 [.ref 82, .int x1, .int x2, .int x3, .int x4, .int x5] [] sw f Q := by
  refine wp_aload_n (M := mX11_feed) (pc := 0) dX11_feed_0 rfl rfl ?_
  refine xs_geti (M := mX11_feed) (pc := 1) dX11_feed_1 fX11_146 sh82 rfl ?_
  refine wp_bipush (M := mX11_feed) (pc := 4) dX11_feed_4 k_bipush_20 ?_
  refine wp_iadd (M := mX11_feed) (pc := 6) dX11_feed_6 ?_
  refine wp_sipush (M := mX11_feed) (pc := 7) dX11_feed_7 k_sipush_260 ?_
  refine wp_icmp_le (M := mX11_feed) (pc := 10) (t := 15) dX11_feed_10 (by decide) (fun c1 => ?_) (fun c1 => ?_)
  · refine wp_aload_n (M := mX11_feed) (pc := 15) dX11_feed_15 rfl rfl ?_
    refine wp_iload_n (M := mX11_feed) (pc := 16) dX11_feed_16 rfl rfl ?_
    refine xs_callV (d := d) (M := mX11_feed) (pc := 17) (As := [.int x1]) (st := []) (c := 11) (ls' := [.ref 82, .int x1, .null]) dX11_feed_17 oX11_types nX11_types lX11_149 vX11_types sX11_types rfl sh82 (Nat.le_of_ble_eq_true rfl) rfl (Nat.le_of_ble_eq_true rfl) rfl ?_
    exact p1 c1
  · refine wp_iconst (M := mX11_feed) (pc := 13) dX11_feed_13 k_iconst_m1 ?_
    exact xs_iret (M := mX11_feed) (pc := 14) dX11_feed_14 rfl (p2 c1)
theorem bX11_feed_20 {G : GC} {d : Nat} {sw : Bool} {f : FF} {Q : QQ} {x1 : Int32} {x2 : Int32} {x3 : Int32} {x4 : Int32} {x5 : Int32} (p1 : XP G mX11_types (d) 0 [.ref 82, .int x2, .null] [] sw f (fun v sw' f' => XP G mX11_feed (d + 1) 25 [.ref 82, .int x1, .int x2, .int x3, .int x4, .int x5] (retst v []) sw' f' Q)) : XP G mX11_feed (d + 1) 20 [.ref 82, .int x1, .int x2, .int x3, .int x4, .int x5] [] sw f Q := by
  refine wp_aload_n (M := mX11_feed) (pc := 20) dX11_feed_20 rfl rfl ?_
  refine wp_iload_n (M := mX11_feed) (pc := 21) dX11_feed_21 rfl rfl ?_
  refine xs_callV (d := d) (M := mX11_feed) (pc := 22) (As := [.int x2]) (st := []) (c := 11) (ls' := [.ref 82, .int x2, .null]) dX11_feed_22 oX11_types nX11_types lX11_149 vX11_types sX11_types rfl sh82 (Nat.le_of_ble_eq_true rfl) rfl (Nat.le_of_ble_eq_true rfl) rfl ?_
  exact p1
theorem bX11_feed_25 {G : GC} {d : Nat} {sw : Bool} {f : FF} {Q : QQ} {x1 : Int32} {x2 : Int32} {x3 : Int32} {x4 : Int32} {x5 : Int32} (p1 : XP G mX11_types (d) 0 [.ref 82, .int x3, .null] [] sw f (fun v sw' f' => XP G mX11_feed (d + 1) 30 [.ref 82, .int x1, .int x2, .int x3, .int x4, .int x5] (retst v []) sw' f' Q)) : XP G mX11_feed (d + 1) 25 [.ref 82, .int x1, .int x2, .int x3, .int x4, .int x5] [] sw f Q := by
  refine wp_aload_n (M := mX11_feed) (pc := 25) dX11_feed_25 rfl rfl ?_
  refine wp_iload_n (M := mX11_feed) (pc := 26) dX11_feed_26 rfl rfl ?_
  refine xs_callV (d := d) (M := mX11_feed) (pc := 27) (As := [.int x3]) (st := []) (c := 11) (ls' := [.ref 82, .int x3, .null]) dX11_feed_27 oX11_types nX11_types lX11_149 vX11_types sX11_types rfl sh82 (Nat.le_of_ble_eq_true rfl) rfl (Nat.le_of_ble_eq_true rfl) rfl ?_
  exact p1
theorem bX11_feed_30 {G : GC} {d : Nat} {sw : Bool} {f : FF} {Q : QQ} {x1 : Int32} {x2 : Int32} {x3 : Int32} {x4 : Int32} {x5 : Int32} (p1 : XP G mX11_types (d) 0 [.ref 82, .int x4, .null] [] sw f (fun v sw' f' => XP G mX11_feed (d + 1) 36 [.ref 82, .int x1, .int x2, .int x3, .int x4, .int x5] (retst v []) sw' f' Q)) : XP G mX11_feed (d + 1) 30 [.ref 82, .int x1, .int x2, .int x3, .int x4, .int x5] [] sw f Q := by
  refine wp_aload_n (M := mX11_feed) (pc := 30) dX11_feed_30 rfl rfl ?_
  refine wp_iload (M := mX11_feed) (pc := 31) dX11_feed_31 rfl ?_
  refine xs_callV (d := d) (M := mX11_feed) (pc := 33) (As := [.int x4]) (st := []) (c := 11) (ls' := [.ref 82, .int x4, .null]) dX11_feed_33 oX11_types nX11_types lX11_149 vX11_types sX11_types rfl sh82 (Nat.le_of_ble_eq_true rfl) rfl (Nat.le_of_ble_eq_true rfl) rfl ?_
  exact p1
theorem bX11_feed_36 {G : GC} {d : Nat} {sw : Bool} {f : FF} {Q : QQ} {x1 : Int32} {x2 : Int32} {x3 : Int32} {x4 : Int32} {x5 : Int32} (p1 : XP G mX11_types (d) 0 [.ref 82, .int x5, .null] [] sw f (fun v sw' f' => XP G mX11_feed (d + 1) 42 [.ref 82, .int x1, .int x2, .int x3, .int x4, .int x5] (retst v []) sw' f' Q)) : XP G mX11_feed (d + 1) 36 [.ref 82, .int x1, .int x2, .int x3, .int x4, .int x5] [] sw f Q := by
  refine wp_aload_n (M := mX11_feed) (pc := 36) dX11_feed_36 rfl rfl ?_
  refine wp_iload (M := mX11_feed) (pc := 37) dX11_feed_37 rfl ?_
  refine xs_callV (d := d) (M := mX11_feed) (pc := 39) (As := [.int x5]) (st := []) (c := 11) (ls' := [.ref 82, .int x5, .null]) dX11_feed_39 oX11_types nX11_types lX11_149 vX11_types sX11_types rfl sh82 (Nat.le_of_ble_eq_true rfl) rfl (Nat.le_of_ble_eq_true rfl) rfl ?_
  exact p1
theorem bX11_feed_42 {G : GC} {d : Nat} {sw : Bool} {f : FF} {Q : QQ} {x1 : Int32} {x2 : Int32} {x3 : Int32} {x4 : Int32} {x5 : Int32} (p1 : Q (some (.int (f 82 10))) sw f) : XP G mX11_feed (d + 1) 42 [.ref 82, .int x1, .int x2, .int x3, .int x4, .int x5] [] sw f Q := by
  refine wp_aload_n (M := mX11_feed) (pc := 42) dX11_feed_42 rfl rfl ?_
  refine xs_geti (M := mX11_feed) (pc := 43) dX11_feed_43 fX11_146 sh82 rfl ?_
  exact xs_iret (M := mX11_feed) (pc := 46) dX11_feed_46 rfl (p1)
theorem bX11_types_0 {G : GC} {d : Nat} {sw : Bool} {f : FF} {Q : QQ} {x1 : Int32} (p1 : XP G mX11_types (d) 2 [.ref 82, .int x1, .int 3] [] sw f Q) : XP G mX11_types (d) 0 [.ref 82, .int x1, .null] [] sw f Q := by
  refine wp_iconst (M := mX11_types) (pc := 0) dX11_types_0 k_iconst_3 ?_
  refine wp_istore_n (M := mX11_types) (pc := 1) (ls' := [.ref 82, .int x1, .int 3]) dX11_types_1 rfl (by decide) rfl ?_
  exact p1
theorem bX11_types_2 {G : GC} {d : Nat} {sw : Bool} {f : FF} {Q : QQ} {x1 : Int32} {x2 : Int32} (p1 : (x2 < 0) → Q none sw f) (p2 : (¬ x2 < 0) → vp_in (f 82 10) 260) (p3 : (¬ x2 < 0) → XP G mX11_types (d) 2 [.ref 82, .int x1, .int (x2 + (-1))] [] sw (upd2 (upd2 f 90 ((f 82 10).toNatClampNeg) (((x1 >>> ((8 * x2) &&& 31)).toInt8.toInt32).toInt8.toInt32)) 82 10 (((upd2 f 90 ((f 82 10).toNatClampNeg) (((x1 >>> ((8 * x2) &&& 31)).toInt8.toInt32).toInt8.toInt32)) 82 10) + 1)) Q) : XP G mX11_types (d) 2 [.ref 82, .int x1, .int x2] [] sw f Q := by
  refine wp_iload_n (M := mX11_types) (pc := 2) dX11_types_2 rfl rfl ?_
  refine wp_if_lt (M := mX11_types) (pc := 3) (t := 38) dX11_types_3 (by decide) (fun c1 => ?_) (fun c1 => ?_)
  · exact xs_ret (M := mX11_types) (pc := 38) dX11_types_38 rfl (p1 c1)
  · refine wp_aload_n (M := mX11_types) (pc := 6) dX11_types_6 rfl rfl ?_
    refine xs_getr (M := mX11_types) (pc := 7) (r := 90) dX11_types_7 fX11_31 sh82 rfl (gr82_9 sw) ?_
    refine wp_aload_n (M := mX11_types) (pc := 10) dX11_types_10 rfl rfl ?_
    refine xs_geti (M := mX11_types) (pc := 11) dX11_types_11 fX11_146 sh82 rfl ?_
    refine wp_iload_n (M := mX11_types) (pc := 14) dX11_types_14 rfl rfl ?_
    refine wp_bipush (M := mX11_types) (pc := 15) dX11_types_15 k_bipush_8 ?_
    refine wp_iload_n (M := mX11_types) (pc := 17) dX11_types_17 rfl rfl ?_
    refine wp_imul (M := mX11_types) (pc := 18) dX11_types_18 ?_
    refine wp_ishr (M := mX11_types) (pc := 19) dX11_types_19 ?_
    refine wp_i2b (M := mX11_types) (pc := 20) dX11_types_20 ?_
    refine xs_bast (M := mX11_types) (pc := 21) (j := (f 82 10).toNatClampNeg) dX11_types_21 sh90 (p2 c1) rfl ?_
    refine wp_aload_n (M := mX11_types) (pc := 22) dX11_types_22 rfl rfl ?_
    refine wp_aload_n (M := mX11_types) (pc := 23) dX11_types_23 rfl rfl ?_
    refine xs_geti (M := mX11_types) (pc := 24) dX11_types_24 fX11_146 sh82 rfl ?_
    refine wp_iconst (M := mX11_types) (pc := 27) dX11_types_27 k_iconst_1 ?_
    refine wp_iadd (M := mX11_types) (pc := 28) dX11_types_28 ?_
    refine xs_puti (M := mX11_types) (pc := 29) dX11_types_29 pX11_146 sh82 rfl ?_
    refine wp_iinc (M := mX11_types) (pc := 32) (v := x2 + (-1)) (ls' := [.ref 82, .int x1, .int (x2 + (-1))]) dX11_types_32 rfl (congrArg (fun z => _ + z) k_iconst_m1) (by decide) rfl ?_
    refine wp_goto (M := mX11_types) (pc := 35) (t := 2) dX11_types_35 (by decide) ?_
    exact p3 c1
theorem bX11_law_0 {G : GC} {d : Nat} {sw : Bool} {f : FF} {Q : QQ} {x1 : Int32} (p1 : (¬ (1 ≤ x1 ∧ x1 ≤ 240)) → Q (some (.int (-1))) sw f) (p2 : (1 ≤ x1 ∧ x1 ≤ 240) → (x1 ≤ (f 82 10)) → XP G mX11_beginsText (d + 7) 0 [.ref 82, .int x1] [] sw f (fun v sw' f' => XP G mX11_law (d + 8) 26 [.ref 82, .int x1, .null, .null] (retst v []) sw' f' Q)) (p3 : (1 ≤ x1 ∧ x1 ≤ 240) → (¬ x1 ≤ (f 82 10)) → Q (some (.int (-1))) sw f) : XP G mX11_law (d + 8) 0 [.ref 82, .int x1, .null, .null] [] sw f Q := by
  refine wp_iload_n (M := mX11_law) (pc := 0) dX11_law_0 rfl rfl ?_
  refine wp_iconst (M := mX11_law) (pc := 1) dX11_law_1 k_iconst_1 ?_
  refine wp_sipush (M := mX11_law) (pc := 2) dX11_law_2 k_sipush_240 ?_
  refine xs_callS (d := d + 7) (M := mX11_law) (pc := 5) (As := [.int x1, .int 1, .int 240]) (st := []) (ls' := [.int x1, .int 1, .int 240]) dX11_law_5 oX11_in nX11_in lX11_111 tX11_in (Nat.le_of_ble_eq_true rfl) rfl (Nat.le_of_ble_eq_true rfl) rfl ?_
  refine sp_X11_in   ?_
  refine xs_ifb_eq (M := mX11_law) (pc := 8) (t := 19) dX11_law_8 (by decide) (fun c1 => ?_) (fun c1 => ?_)
  · refine wp_iconst (M := mX11_law) (pc := 19) dX11_law_19 k_iconst_m1 ?_
    exact xs_iret (M := mX11_law) (pc := 20) dX11_law_20 rfl (p1 c1)
  · refine wp_iload_n (M := mX11_law) (pc := 11) dX11_law_11 rfl rfl ?_
    refine wp_aload_n (M := mX11_law) (pc := 12) dX11_law_12 rfl rfl ?_
    refine xs_geti (M := mX11_law) (pc := 13) dX11_law_13 fX11_146 sh82 rfl ?_
    refine wp_icmp_le (M := mX11_law) (pc := 16) (t := 21) dX11_law_16 (by decide) (fun c2 => ?_) (fun c2 => ?_)
    · refine wp_aload_n (M := mX11_law) (pc := 21) dX11_law_21 rfl rfl ?_
      refine wp_iload_n (M := mX11_law) (pc := 22) dX11_law_22 rfl rfl ?_
      refine xs_callV (d := d + 7) (M := mX11_law) (pc := 23) (As := [.int x1]) (st := []) (c := 11) (ls' := [.ref 82, .int x1]) dX11_law_23 oX11_beginsText nX11_beginsText lX11_235 vX11_beginsText sX11_beginsText rfl sh82 (Nat.le_of_ble_eq_true rfl) rfl (Nat.le_of_ble_eq_true rfl) rfl ?_
      exact p2 c1 c2
    · refine wp_iconst (M := mX11_law) (pc := 19) dX11_law_19 k_iconst_m1 ?_
      exact xs_iret (M := mX11_law) (pc := 20) dX11_law_20 rfl (p3 c1 c2)
theorem bX11_law_26 {G : GC} {d : Nat} {sw : Bool} {f : FF} {Q : QQ} {x1 : Int32} {v2 : Value} {v3 : Value} (p1 : XP G mX11_readsRule (d + 7) 0 [.ref 82, .null] [] sw f (fun v sw' f' => XP G mX11_law (d + 8) 30 [.ref 82, .int x1, v2, v3] (retst v []) sw' f' Q)) : XP G mX11_law (d + 8) 26 [.ref 82, .int x1, v2, v3] [] sw f Q := by
  refine wp_aload_n (M := mX11_law) (pc := 26) dX11_law_26 rfl rfl ?_
  refine xs_callV (d := d + 7) (M := mX11_law) (pc := 27) (As := []) (st := []) (c := 11) (ls' := [.ref 82, .null]) dX11_law_27 oX11_readsRule nX11_readsRule lX11_238 vX11_readsRule sX11_readsRule rfl sh82 (Nat.le_of_ble_eq_true rfl) rfl (Nat.le_of_ble_eq_true rfl) rfl ?_
  exact p1
theorem bX11_law_30 {G : GC} {d : Nat} {sw : Bool} {f : FF} {Q : QQ} {x1 : Int32} {v2 : Value} {v3 : Value} {s0 : Int32} (p1 : XP G mX11_law (d + 8) 31 [.ref 82, .int x1, .int s0, v3] [] sw f Q) : XP G mX11_law (d + 8) 30 [.ref 82, .int x1, v2, v3] [.int s0] sw f Q := by
  refine wp_istore_n (M := mX11_law) (pc := 30) (ls' := [.ref 82, .int x1, .int s0, v3]) dX11_law_30 rfl (by decide) rfl ?_
  exact p1
theorem bX11_law_31 {G : GC} {d : Nat} {sw : Bool} {f : FF} {Q : QQ} {x1 : Int32} {x2 : Int32} {v3 : Value} (p1 : (x2 = 0) → (¬ x2 = 0) → XP G mX11_law (d + 8) 95 [.ref 82, .int x1, .int x2, .int 0] [] sw (upd2 (upd2 f 82 10 0) 82 19 ((upd2 f 82 10 0) 82 18)) Q) (p2 : (x2 = 0) → (x2 = 0) → Q (some (.int ((upd2 f 82 10 0) 82 13))) sw (upd2 f 82 10 0)) (p3 : (¬ x2 = 0) → ((f 82 12) ≤ (f 82 11)) → (¬ x2 = 0) → XP G mX11_law (d + 8) 95 [.ref 82, .int x1, .int x2, .int 0] [] sw (upd2 (upd2 f 82 10 0) 82 19 ((upd2 f 82 10 0) 82 18)) Q) (p4 : (¬ x2 = 0) → ((f 82 12) ≤ (f 82 11)) → (x2 = 0) → Q (some (.int ((upd2 f 82 10 0) 82 13))) sw (upd2 f 82 10 0)) (p5 : (¬ x2 = 0) → (¬ (f 82 12) ≤ (f 82 11)) → XP G mX11_takes (d + 7) 0 [.ref 82, .int 59] [] sw f (fun v sw' f' => XP G mX11_law (d + 8) 52 [.ref 82, .int x1, .int x2, v3] (retst v []) sw' f' Q)) : XP G mX11_law (d + 8) 31 [.ref 82, .int x1, .int x2, v3] [] sw f Q := by
  refine wp_iload_n (M := mX11_law) (pc := 31) dX11_law_31 rfl rfl ?_
  refine wp_if_eq (M := mX11_law) (pc := 32) (t := 71) dX11_law_32 (by decide) (fun c1 => ?_) (fun c1 => ?_)
  · refine wp_aload_n (M := mX11_law) (pc := 71) dX11_law_71 rfl rfl ?_
    refine wp_iconst (M := mX11_law) (pc := 72) dX11_law_72 k_iconst_0 ?_
    refine xs_puti (M := mX11_law) (pc := 73) dX11_law_73 pX11_146 sh82 rfl ?_
    refine wp_iload_n (M := mX11_law) (pc := 76) dX11_law_76 rfl rfl ?_
    refine wp_if_ne (M := mX11_law) (pc := 77) (t := 85) dX11_law_77 (by decide) (fun c2 => ?_) (fun c2 => ?_)
    · refine wp_aload_n (M := mX11_law) (pc := 85) dX11_law_85 rfl rfl ?_
      refine wp_aload_n (M := mX11_law) (pc := 86) dX11_law_86 rfl rfl ?_
      refine xs_geti (M := mX11_law) (pc := 87) dX11_law_87 fX11_229 sh82 rfl ?_
      refine xs_puti (M := mX11_law) (pc := 90) dX11_law_90 pX11_244 sh82 rfl ?_
      refine wp_iconst (M := mX11_law) (pc := 93) dX11_law_93 k_iconst_0 ?_
      refine wp_istore_n (M := mX11_law) (pc := 94) (ls' := [.ref 82, .int x1, .int x2, .int 0]) dX11_law_94 rfl (by decide) rfl ?_
      exact p1 c1 c2
    · refine wp_aload_n (M := mX11_law) (pc := 80) dX11_law_80 rfl rfl ?_
      refine xs_geti (M := mX11_law) (pc := 81) dX11_law_81 fX11_162 sh82 rfl ?_
      exact xs_iret (M := mX11_law) (pc := 84) dX11_law_84 rfl (p2 c1 c2)
  · refine wp_aload_n (M := mX11_law) (pc := 35) dX11_law_35 rfl rfl ?_
    refine xs_geti (M := mX11_law) (pc := 36) dX11_law_36 fX11_152 sh82 rfl ?_
    refine wp_aload_n (M := mX11_law) (pc := 39) dX11_law_39 rfl rfl ?_
    refine xs_geti (M := mX11_law) (pc := 40) dX11_law_40 fX11_155 sh82 rfl ?_
    refine wp_icmp_ge (M := mX11_law) (pc := 43) (t := 71) dX11_law_43 (by decide) (fun c3 => ?_) (fun c3 => ?_)
    · refine wp_aload_n (M := mX11_law) (pc := 71) dX11_law_71 rfl rfl ?_
      refine wp_iconst (M := mX11_law) (pc := 72) dX11_law_72 k_iconst_0 ?_
      refine xs_puti (M := mX11_law) (pc := 73) dX11_law_73 pX11_146 sh82 rfl ?_
      refine wp_iload_n (M := mX11_law) (pc := 76) dX11_law_76 rfl rfl ?_
      refine wp_if_ne (M := mX11_law) (pc := 77) (t := 85) dX11_law_77 (by decide) (fun c4 => ?_) (fun c4 => ?_)
      · refine wp_aload_n (M := mX11_law) (pc := 85) dX11_law_85 rfl rfl ?_
        refine wp_aload_n (M := mX11_law) (pc := 86) dX11_law_86 rfl rfl ?_
        refine xs_geti (M := mX11_law) (pc := 87) dX11_law_87 fX11_229 sh82 rfl ?_
        refine xs_puti (M := mX11_law) (pc := 90) dX11_law_90 pX11_244 sh82 rfl ?_
        refine wp_iconst (M := mX11_law) (pc := 93) dX11_law_93 k_iconst_0 ?_
        refine wp_istore_n (M := mX11_law) (pc := 94) (ls' := [.ref 82, .int x1, .int x2, .int 0]) dX11_law_94 rfl (by decide) rfl ?_
        exact p3 c1 c3 c4
      · refine wp_aload_n (M := mX11_law) (pc := 80) dX11_law_80 rfl rfl ?_
        refine xs_geti (M := mX11_law) (pc := 81) dX11_law_81 fX11_162 sh82 rfl ?_
        exact xs_iret (M := mX11_law) (pc := 84) dX11_law_84 rfl (p4 c1 c3 c4)
    · refine wp_aload_n (M := mX11_law) (pc := 46) dX11_law_46 rfl rfl ?_
      refine wp_bipush (M := mX11_law) (pc := 47) dX11_law_47 k_bipush_59 ?_
      refine xs_callV (d := d + 7) (M := mX11_law) (pc := 49) (As := [.int 59]) (st := []) (c := 11) (ls' := [.ref 82, .int 59]) dX11_law_49 oX11_takes nX11_takes lX11_241 vX11_takes sX11_takes rfl sh82 (Nat.le_of_ble_eq_true rfl) rfl (Nat.le_of_ble_eq_true rfl) rfl ?_
      exact p5 c1 c3
theorem bX11_law_52 {G : GC} {d : Nat} {sw : Bool} {f : FF} {Q : QQ} {x1 : Int32} {x2 : Int32} {v3 : Value} {s0 : Int32} (p1 : (s0 = 0) → XP G mX11_law (d + 8) 31 [.ref 82, .int x1, .int 0, v3] [] sw f Q) (p2 : (¬ s0 = 0) → XP G mX11_readsRule (d + 7) 0 [.ref 82, .null] [] sw f (fun v sw' f' => XP G mX11_law (d + 8) 59 [.ref 82, .int x1, .int x2, v3] (retst v []) sw' f' Q)) : XP G mX11_law (d + 8) 52 [.ref 82, .int x1, .int x2, v3] [.int s0] sw f Q := by
  refine wp_if_eq (M := mX11_law) (pc := 52) (t := 66) dX11_law_52 (by decide) (fun c1 => ?_) (fun c1 => ?_)
  · refine wp_iconst (M := mX11_law) (pc := 66) dX11_law_66 k_iconst_0 ?_
    refine wp_istore_n (M := mX11_law) (pc := 67) (ls' := [.ref 82, .int x1, .int 0, v3]) dX11_law_67 rfl (by decide) rfl ?_
    refine wp_goto (M := mX11_law) (pc := 68) (t := 31) dX11_law_68 (by decide) ?_
    exact p1 c1
  · refine wp_aload_n (M := mX11_law) (pc := 55) dX11_law_55 rfl rfl ?_
    refine xs_callV (d := d + 7) (M := mX11_law) (pc := 56) (As := []) (st := []) (c := 11) (ls' := [.ref 82, .null]) dX11_law_56 oX11_readsRule nX11_readsRule lX11_238 vX11_readsRule sX11_readsRule rfl sh82 (Nat.le_of_ble_eq_true rfl) rfl (Nat.le_of_ble_eq_true rfl) rfl ?_
    exact p2 c1
theorem bX11_law_59 {G : GC} {d : Nat} {sw : Bool} {f : FF} {Q : QQ} {x1 : Int32} {x2 : Int32} {v3 : Value} {s0 : Int32} (p1 : (s0 = 0) → XP G mX11_law (d + 8) 31 [.ref 82, .int x1, .int 0, v3] [] sw f Q) (p2 : (¬ s0 = 0) → XP G mX11_law (d + 8) 31 [.ref 82, .int x1, .int 1, v3] [] sw f Q) : XP G mX11_law (d + 8) 59 [.ref 82, .int x1, .int x2, v3] [.int s0] sw f Q := by
  refine wp_if_eq (M := mX11_law) (pc := 59) (t := 66) dX11_law_59 (by decide) (fun c1 => ?_) (fun c1 => ?_)
  · refine wp_iconst (M := mX11_law) (pc := 66) dX11_law_66 k_iconst_0 ?_
    refine wp_istore_n (M := mX11_law) (pc := 67) (ls' := [.ref 82, .int x1, .int 0, v3]) dX11_law_67 rfl (by decide) rfl ?_
    refine wp_goto (M := mX11_law) (pc := 68) (t := 31) dX11_law_68 (by decide) ?_
    exact p1 c1
  · refine wp_iconst (M := mX11_law) (pc := 62) dX11_law_62 k_iconst_1 ?_
    refine wp_goto (M := mX11_law) (pc := 63) (t := 67) dX11_law_63 (by decide) ?_
    refine wp_istore_n (M := mX11_law) (pc := 67) (ls' := [.ref 82, .int x1, .int 1, v3]) dX11_law_67 rfl (by decide) rfl ?_
    refine wp_goto (M := mX11_law) (pc := 68) (t := 31) dX11_law_68 (by decide) ?_
    exact p2 c1
theorem bX11_law_95 {G : GC} {d : Nat} {sw : Bool} {f : FF} {Q : QQ} {x1 : Int32} {x2 : Int32} {x3 : Int32} (p1 : ((f 82 16) ≤ x3) → XP G mX11_law (d + 8) 123 [.ref 82, .int x1, .int x2, .int 0] [] sw f Q) (p2 : (¬ (f 82 16) ≤ x3) → vp_in x3 260) (p3 : (¬ (f 82 16) ≤ x3) → vp_in x3 260) (p4 : (¬ (f 82 16) ≤ x3) → XP G mX11_law (d + 8) 95 [.ref 82, .int x1, .int x2, .int (x3 + 1)] [] sw (upd2 f 97 x3.toNatClampNeg (f 91 x3.toNatClampNeg)) Q) : XP G mX11_law (d + 8) 95 [.ref 82, .int x1, .int x2, .int x3] [] sw f Q := by
  refine wp_iload_n (M := mX11_law) (pc := 95) dX11_law_95 rfl rfl ?_
  refine wp_aload_n (M := mX11_law) (pc := 96) dX11_law_96 rfl rfl ?_
  refine xs_geti (M := mX11_law) (pc := 97) dX11_law_97 fX11_175 sh82 rfl ?_
  refine wp_icmp_ge (M := mX11_law) (pc := 100) (t := 121) dX11_law_100 (by decide) (fun c1 => ?_) (fun c1 => ?_)
  · refine wp_iconst (M := mX11_law) (pc := 121) dX11_law_121 k_iconst_0 ?_
    refine wp_istore_n (M := mX11_law) (pc := 122) (ls' := [.ref 82, .int x1, .int x2, .int 0]) dX11_law_122 rfl (by decide) rfl ?_
    exact p1 c1
  · refine wp_aload_n (M := mX11_law) (pc := 103) dX11_law_103 rfl rfl ?_
    refine xs_getr (M := mX11_law) (pc := 104) (r := 97) dX11_law_104 fX11_53 sh82 rfl (gr82_26 sw) ?_
    refine wp_iload_n (M := mX11_law) (pc := 107) dX11_law_107 rfl rfl ?_
    refine wp_aload_n (M := mX11_law) (pc := 108) dX11_law_108 rfl rfl ?_
    refine xs_getr (M := mX11_law) (pc := 109) (r := 91) dX11_law_109 fX11_35 sh82 rfl (gr82_20 sw) ?_
    refine wp_iload_n (M := mX11_law) (pc := 112) dX11_law_112 rfl rfl ?_
    refine xs_iald (M := mX11_law) (pc := 113) (j := x3.toNatClampNeg) dX11_law_113 sh91 (p2 c1) rfl ?_
    refine xs_iast (M := mX11_law) (pc := 114) (j := x3.toNatClampNeg) dX11_law_114 sh97 (p3 c1) rfl ?_
    refine wp_iinc (M := mX11_law) (pc := 115) (v := x3 + 1) (ls' := [.ref 82, .int x1, .int x2, .int (x3 + 1)]) dX11_law_115 rfl (congrArg (fun z => _ + z) k_iconst_1) (by decide) rfl ?_
    refine wp_goto (M := mX11_law) (pc := 118) (t := 95) dX11_law_118 (by decide) ?_
    exact p4 c1
theorem bX11_law_123 {G : GC} {d : Nat} {sw : Bool} {f : FF} {Q : QQ} {x1 : Int32} {x2 : Int32} {x3 : Int32} (p1 : ((f 82 18) ≤ x3) → Q (some (.int (f 82 18))) sw f) (p2 : (¬ (f 82 18) ≤ x3) → vp_in x3 16) (p3 : (¬ (f 82 18) ≤ x3) → vp_in x3 16) (p4 : (¬ (f 82 18) ≤ x3) → vp_in x3 16) (p5 : (¬ (f 82 18) ≤ x3) → vp_in x3 16) (p6 : (¬ (f 82 18) ≤ x3) → vp_in x3 16) (p7 : (¬ (f 82 18) ≤ x3) → vp_in x3 16) (p8 : (¬ (f 82 18) ≤ x3) → vp_in x3 16) (p9 : (¬ (f 82 18) ≤ x3) → vp_in x3 16) (p10 : (¬ (f 82 18) ≤ x3) → XP G mX11_law (d + 8) 123 [.ref 82, .int x1, .int x2, .int (x3 + 1)] [] sw (upd2 (upd2 (upd2 (upd2 f 98 x3.toNatClampNeg (f 93 x3.toNatClampNeg)) 99 x3.toNatClampNeg ((upd2 f 98 x3.toNatClampNeg (f 93 x3.toNatClampNeg)) 94 x3.toNatClampNeg)) 100 x3.toNatClampNeg ((upd2 (upd2 f 98 x3.toNatClampNeg (f 93 x3.toNatClampNeg)) 99 x3.toNatClampNeg ((upd2 f 98 x3.toNatClampNeg (f 93 x3.toNatClampNeg)) 94 x3.toNatClampNeg)) 95 x3.toNatClampNeg)) 101 x3.toNatClampNeg ((upd2 (upd2 (upd2 f 98 x3.toNatClampNeg (f 93 x3.toNatClampNeg)) 99 x3.toNatClampNeg ((upd2 f 98 x3.toNatClampNeg (f 93 x3.toNatClampNeg)) 94 x3.toNatClampNeg)) 100 x3.toNatClampNeg ((upd2 (upd2 f 98 x3.toNatClampNeg (f 93 x3.toNatClampNeg)) 99 x3.toNatClampNeg ((upd2 f 98 x3.toNatClampNeg (f 93 x3.toNatClampNeg)) 94 x3.toNatClampNeg)) 95 x3.toNatClampNeg)) 96 x3.toNatClampNeg)) Q) : XP G mX11_law (d + 8) 123 [.ref 82, .int x1, .int x2, .int x3] [] sw f Q := by
  refine wp_iload_n (M := mX11_law) (pc := 123) dX11_law_123 rfl rfl ?_
  refine wp_aload_n (M := mX11_law) (pc := 124) dX11_law_124 rfl rfl ?_
  refine xs_geti (M := mX11_law) (pc := 125) dX11_law_125 fX11_229 sh82 rfl ?_
  refine wp_icmp_ge (M := mX11_law) (pc := 128) (t := 185) dX11_law_128 (by decide) (fun c1 => ?_) (fun c1 => ?_)
  · refine wp_aload_n (M := mX11_law) (pc := 185) dX11_law_185 rfl rfl ?_
    refine xs_geti (M := mX11_law) (pc := 186) dX11_law_186 fX11_229 sh82 rfl ?_
    exact xs_iret (M := mX11_law) (pc := 189) dX11_law_189 rfl (p1 c1)
  · refine wp_aload_n (M := mX11_law) (pc := 131) dX11_law_131 rfl rfl ?_
    refine xs_getr (M := mX11_law) (pc := 132) (r := 98) dX11_law_132 fX11_56 sh82 rfl (gr82_27 sw) ?_
    refine wp_iload_n (M := mX11_law) (pc := 135) dX11_law_135 rfl rfl ?_
    refine wp_aload_n (M := mX11_law) (pc := 136) dX11_law_136 rfl rfl ?_
    refine xs_getr (M := mX11_law) (pc := 137) (r := 93) dX11_law_137 fX11_41 sh82 rfl (gr82_22 sw) ?_
    refine wp_iload_n (M := mX11_law) (pc := 140) dX11_law_140 rfl rfl ?_
    refine xs_iald (M := mX11_law) (pc := 141) (j := x3.toNatClampNeg) dX11_law_141 sh93 (p2 c1) rfl ?_
    refine xs_iast (M := mX11_law) (pc := 142) (j := x3.toNatClampNeg) dX11_law_142 sh98 (p3 c1) rfl ?_
    refine wp_aload_n (M := mX11_law) (pc := 143) dX11_law_143 rfl rfl ?_
    refine xs_getr (M := mX11_law) (pc := 144) (r := 99) dX11_law_144 fX11_59 sh82 rfl (gr82_28 sw) ?_
    refine wp_iload_n (M := mX11_law) (pc := 147) dX11_law_147 rfl rfl ?_
    refine wp_aload_n (M := mX11_law) (pc := 148) dX11_law_148 rfl rfl ?_
    refine xs_getr (M := mX11_law) (pc := 149) (r := 94) dX11_law_149 fX11_44 sh82 rfl (gr82_23 sw) ?_
    refine wp_iload_n (M := mX11_law) (pc := 152) dX11_law_152 rfl rfl ?_
    refine xs_iald (M := mX11_law) (pc := 153) (j := x3.toNatClampNeg) dX11_law_153 sh94 (p4 c1) rfl ?_
    refine xs_iast (M := mX11_law) (pc := 154) (j := x3.toNatClampNeg) dX11_law_154 sh99 (p5 c1) rfl ?_
    refine wp_aload_n (M := mX11_law) (pc := 155) dX11_law_155 rfl rfl ?_
    refine xs_getr (M := mX11_law) (pc := 156) (r := 100) dX11_law_156 fX11_62 sh82 rfl (gr82_29 sw) ?_
    refine wp_iload_n (M := mX11_law) (pc := 159) dX11_law_159 rfl rfl ?_
    refine wp_aload_n (M := mX11_law) (pc := 160) dX11_law_160 rfl rfl ?_
    refine xs_getr (M := mX11_law) (pc := 161) (r := 95) dX11_law_161 fX11_47 sh82 rfl (gr82_24 sw) ?_
    refine wp_iload_n (M := mX11_law) (pc := 164) dX11_law_164 rfl rfl ?_
    refine xs_iald (M := mX11_law) (pc := 165) (j := x3.toNatClampNeg) dX11_law_165 sh95 (p6 c1) rfl ?_
    refine xs_iast (M := mX11_law) (pc := 166) (j := x3.toNatClampNeg) dX11_law_166 sh100 (p7 c1) rfl ?_
    refine wp_aload_n (M := mX11_law) (pc := 167) dX11_law_167 rfl rfl ?_
    refine xs_getr (M := mX11_law) (pc := 168) (r := 101) dX11_law_168 fX11_65 sh82 rfl (gr82_30 sw) ?_
    refine wp_iload_n (M := mX11_law) (pc := 171) dX11_law_171 rfl rfl ?_
    refine wp_aload_n (M := mX11_law) (pc := 172) dX11_law_172 rfl rfl ?_
    refine xs_getr (M := mX11_law) (pc := 173) (r := 96) dX11_law_173 fX11_50 sh82 rfl (gr82_25 sw) ?_
    refine wp_iload_n (M := mX11_law) (pc := 176) dX11_law_176 rfl rfl ?_
    refine xs_iald (M := mX11_law) (pc := 177) (j := x3.toNatClampNeg) dX11_law_177 sh96 (p8 c1) rfl ?_
    refine xs_iast (M := mX11_law) (pc := 178) (j := x3.toNatClampNeg) dX11_law_178 sh101 (p9 c1) rfl ?_
    refine wp_iinc (M := mX11_law) (pc := 179) (v := x3 + 1) (ls' := [.ref 82, .int x1, .int x2, .int (x3 + 1)]) dX11_law_179 rfl (congrArg (fun z => _ + z) k_iconst_1) (by decide) rfl ?_
    refine wp_goto (M := mX11_law) (pc := 182) (t := 123) dX11_law_182 (by decide) ?_
    exact p10 c1
theorem bX11_beginsText_0 {G : GC} {d : Nat} {sw : Bool} {f : FF} {Q : QQ} {x1 : Int32} (p1 : Q none sw (upd2 (upd2 (upd2 (upd2 f 82 11 0) 82 12 x1) 82 16 0) 82 18 0)) : XP G mX11_beginsText (d) 0 [.ref 82, .int x1] [] sw f Q := by
  refine wp_aload_n (M := mX11_beginsText) (pc := 0) dX11_beginsText_0 rfl rfl ?_
  refine wp_iconst (M := mX11_beginsText) (pc := 1) dX11_beginsText_1 k_iconst_0 ?_
  refine xs_puti (M := mX11_beginsText) (pc := 2) dX11_beginsText_2 pX11_152 sh82 rfl ?_
  refine wp_aload_n (M := mX11_beginsText) (pc := 5) dX11_beginsText_5 rfl rfl ?_
  refine wp_iload_n (M := mX11_beginsText) (pc := 6) dX11_beginsText_6 rfl rfl ?_
  refine xs_puti (M := mX11_beginsText) (pc := 7) dX11_beginsText_7 pX11_155 sh82 rfl ?_
  refine wp_aload_n (M := mX11_beginsText) (pc := 10) dX11_beginsText_10 rfl rfl ?_
  refine wp_iconst (M := mX11_beginsText) (pc := 11) dX11_beginsText_11 k_iconst_0 ?_
  refine xs_puti (M := mX11_beginsText) (pc := 12) dX11_beginsText_12 pX11_175 sh82 rfl ?_
  refine wp_aload_n (M := mX11_beginsText) (pc := 15) dX11_beginsText_15 rfl rfl ?_
  refine wp_iconst (M := mX11_beginsText) (pc := 16) dX11_beginsText_16 k_iconst_0 ?_
  refine xs_puti (M := mX11_beginsText) (pc := 17) dX11_beginsText_17 pX11_229 sh82 rfl ?_
  exact xs_ret (M := mX11_beginsText) (pc := 20) dX11_beginsText_20 rfl (p1)
theorem bX11_readsRule_0 {G : GC} {d : Nat} {sw : Bool} {f : FF} {Q : QQ}  (p1 : f 82 11 < f 82 12 → vp_in (f 82 11) 260) (p2 : ((hereF f) = 114) → (¬ (f 82 18) = 16) → vp_in (f 82 18) 16) (p3 : ((hereF f) = 114) → (¬ (f 82 18) = 16) → vp_in ((upd2 (upd2 f 93 ((f 82 18).toNatClampNeg) (hereF f)) 82 11 (((upd2 f 93 ((f 82 18).toNatClampNeg) (hereF f)) 82 11) + 1)) 82 18) 16) (p4 : ((hereF f) = 114) → (¬ (f 82 18) = 16) → ((hereF f) = 118) → vp_in ((upd2 (upd2 (upd2 (upd2 (upd2 f 93 ((f 82 18).toNatClampNeg) (hereF f)) 82 11 (((upd2 f 93 ((f 82 18).toNatClampNeg) (hereF f)) 82 11) + 1)) 94 (((upd2 (upd2 f 93 ((f 82 18).toNatClampNeg) (hereF f)) 82 11 (((upd2 f 93 ((f 82 18).toNatClampNeg) (hereF f)) 82 11) + 1)) 82 18).toNatClampNeg) ((upd2 (upd2 f 93 ((f 82 18).toNatClampNeg) (hereF f)) 82 11 (((upd2 f 93 ((f 82 18).toNatClampNeg) (hereF f)) 82 11) + 1)) 82 16)) 82 15 0) 82 17 0) 82 18) 16) (p5 : ((hereF f) = 114) → (¬ (f 82 18) = 16) → ((hereF f) = 118) → XP G mX11_readsCondition (d + 6) 0 [.ref 82] [] sw (upd2 (upd2 (upd2 (upd2 (upd2 (upd2 f 93 ((f 82 18).toNatClampNeg) (hereF f)) 82 11 (((upd2 f 93 ((f 82 18).toNatClampNeg) (hereF f)) 82 11) + 1)) 94 (((upd2 (upd2 f 93 ((f 82 18).toNatClampNeg) (hereF f)) 82 11 (((upd2 f 93 ((f 82 18).toNatClampNeg) (hereF f)) 82 11) + 1)) 82 18).toNatClampNeg) ((upd2 (upd2 f 93 ((f 82 18).toNatClampNeg) (hereF f)) 82 11 (((upd2 f 93 ((f 82 18).toNatClampNeg) (hereF f)) 82 11) + 1)) 82 16)) 82 15 0) 82 17 0) 95 (((upd2 (upd2 (upd2 (upd2 (upd2 f 93 ((f 82 18).toNatClampNeg) (hereF f)) 82 11 (((upd2 f 93 ((f 82 18).toNatClampNeg) (hereF f)) 82 11) + 1)) 94 (((upd2 (upd2 f 93 ((f 82 18).toNatClampNeg) (hereF f)) 82 11 (((upd2 f 93 ((f 82 18).toNatClampNeg) (hereF f)) 82 11) + 1)) 82 18).toNatClampNeg) ((upd2 (upd2 f 93 ((f 82 18).toNatClampNeg) (hereF f)) 82 11 (((upd2 f 93 ((f 82 18).toNatClampNeg) (hereF f)) 82 11) + 1)) 82 16)) 82 15 0) 82 17 0) 82 18).toNatClampNeg) ((upd2 (upd2 (upd2 (upd2 (upd2 f 93 ((f 82 18).toNatClampNeg) (hereF f)) 82 11 (((upd2 f 93 ((f 82 18).toNatClampNeg) (hereF f)) 82 11) + 1)) 94 (((upd2 (upd2 f 93 ((f 82 18).toNatClampNeg) (hereF f)) 82 11 (((upd2 f 93 ((f 82 18).toNatClampNeg) (hereF f)) 82 11) + 1)) 82 18).toNatClampNeg) ((upd2 (upd2 f 93 ((f 82 18).toNatClampNeg) (hereF f)) 82 11 (((upd2 f 93 ((f 82 18).toNatClampNeg) (hereF f)) 82 11) + 1)) 82 16)) 82 15 0) 82 17 0) 82 16)) (fun v sw' f' => XP G mX11_readsRule (d + 7) 145 [.ref 82, .int (hereF f)] (retst v []) sw' f' Q)) (p6 : ((hereF f) = 114) → (¬ (f 82 18) = 16) → (¬ (hereF f) = 118) → ((hereF f) = 120) → vp_in ((upd2 (upd2 (upd2 (upd2 (upd2 f 93 ((f 82 18).toNatClampNeg) (hereF f)) 82 11 (((upd2 f 93 ((f 82 18).toNatClampNeg) (hereF f)) 82 11) + 1)) 94 (((upd2 (upd2 f 93 ((f 82 18).toNatClampNeg) (hereF f)) 82 11 (((upd2 f 93 ((f 82 18).toNatClampNeg) (hereF f)) 82 11) + 1)) 82 18).toNatClampNeg) ((upd2 (upd2 f 93 ((f 82 18).toNatClampNeg) (hereF f)) 82 11 (((upd2 f 93 ((f 82 18).toNatClampNeg) (hereF f)) 82 11) + 1)) 82 16)) 82 15 0) 82 17 0) 82 18) 16) (p7 : ((hereF f) = 114) → (¬ (f 82 18) = 16) → (¬ (hereF f) = 118) → ((hereF f) = 120) → XP G mX11_readsCondition (d + 6) 0 [.ref 82] [] sw (upd2 (upd2 (upd2 (upd2 (upd2 (upd2 f 93 ((f 82 18).toNatClampNeg) (hereF f)) 82 11 (((upd2 f 93 ((f 82 18).toNatClampNeg) (hereF f)) 82 11) + 1)) 94 (((upd2 (upd2 f 93 ((f 82 18).toNatClampNeg) (hereF f)) 82 11 (((upd2 f 93 ((f 82 18).toNatClampNeg) (hereF f)) 82 11) + 1)) 82 18).toNatClampNeg) ((upd2 (upd2 f 93 ((f 82 18).toNatClampNeg) (hereF f)) 82 11 (((upd2 f 93 ((f 82 18).toNatClampNeg) (hereF f)) 82 11) + 1)) 82 16)) 82 15 0) 82 17 0) 95 (((upd2 (upd2 (upd2 (upd2 (upd2 f 93 ((f 82 18).toNatClampNeg) (hereF f)) 82 11 (((upd2 f 93 ((f 82 18).toNatClampNeg) (hereF f)) 82 11) + 1)) 94 (((upd2 (upd2 f 93 ((f 82 18).toNatClampNeg) (hereF f)) 82 11 (((upd2 f 93 ((f 82 18).toNatClampNeg) (hereF f)) 82 11) + 1)) 82 18).toNatClampNeg) ((upd2 (upd2 f 93 ((f 82 18).toNatClampNeg) (hereF f)) 82 11 (((upd2 f 93 ((f 82 18).toNatClampNeg) (hereF f)) 82 11) + 1)) 82 16)) 82 15 0) 82 17 0) 82 18).toNatClampNeg) ((upd2 (upd2 (upd2 (upd2 (upd2 f 93 ((f 82 18).toNatClampNeg) (hereF f)) 82 11 (((upd2 f 93 ((f 82 18).toNatClampNeg) (hereF f)) 82 11) + 1)) 94 (((upd2 (upd2 f 93 ((f 82 18).toNatClampNeg) (hereF f)) 82 11 (((upd2 f 93 ((f 82 18).toNatClampNeg) (hereF f)) 82 11) + 1)) 82 18).toNatClampNeg) ((upd2 (upd2 f 93 ((f 82 18).toNatClampNeg) (hereF f)) 82 11 (((upd2 f 93 ((f 82 18).toNatClampNeg) (hereF f)) 82 11) + 1)) 82 16)) 82 15 0) 82 17 0) 82 16)) (fun v sw' f' => XP G mX11_readsRule (d + 7) 145 [.ref 82, .int (hereF f)] (retst v []) sw' f' Q)) (p8 : ((hereF f) = 114) → (¬ (f 82 18) = 16) → (¬ (hereF f) = 118) → (¬ (hereF f) = 120) → XP G mX11_readsSum (d + 6) 0 [.ref 82, .null, .null] [] sw (upd2 (upd2 (upd2 (upd2 (upd2 f 93 ((f 82 18).toNatClampNeg) (hereF f)) 82 11 (((upd2 f 93 ((f 82 18).toNatClampNeg) (hereF f)) 82 11) + 1)) 94 (((upd2 (upd2 f 93 ((f 82 18).toNatClampNeg) (hereF f)) 82 11 (((upd2 f 93 ((f 82 18).toNatClampNeg) (hereF f)) 82 11) + 1)) 82 18).toNatClampNeg) ((upd2 (upd2 f 93 ((f 82 18).toNatClampNeg) (hereF f)) 82 11 (((upd2 f 93 ((f 82 18).toNatClampNeg) (hereF f)) 82 11) + 1)) 82 16)) 82 15 0) 82 17 0) (fun v sw' f' => XP G mX11_readsRule (d + 7) 123 [.ref 82, .int (hereF f)] (retst v []) sw' f' Q)) (p9 : ((hereF f) = 114) → ((f 82 18) = 16) → XP G mX11_wrongAt (d + 6) 0 [.ref 82, .int 4, .int (f 82 11)] [] sw f (fun v sw' f' => XP G mX11_readsRule (d + 7) 63 [.ref 82, .int (hereF f)] (retst v []) sw' f' Q)) (p10 : (¬ (hereF f) = 114) → ((hereF f) = 119) → (¬ (f 82 18) = 16) → vp_in (f 82 18) 16) (p11 : (¬ (hereF f) = 114) → ((hereF f) = 119) → (¬ (f 82 18) = 16) → vp_in ((upd2 (upd2 f 93 ((f 82 18).toNatClampNeg) (hereF f)) 82 11 (((upd2 f 93 ((f 82 18).toNatClampNeg) (hereF f)) 82 11) + 1)) 82 18) 16) (p12 : (¬ (hereF f) = 114) → ((hereF f) = 119) → (¬ (f 82 18) = 16) → ((hereF f) = 118) → vp_in ((upd2 (upd2 (upd2 (upd2 (upd2 f 93 ((f 82 18).toNatClampNeg) (hereF f)) 82 11 (((upd2 f 93 ((f 82 18).toNatClampNeg) (hereF f)) 82 11) + 1)) 94 (((upd2 (upd2 f 93 ((f 82 18).toNatClampNeg) (hereF f)) 82 11 (((upd2 f 93 ((f 82 18).toNatClampNeg) (hereF f)) 82 11) + 1)) 82 18).toNatClampNeg) ((upd2 (upd2 f 93 ((f 82 18).toNatClampNeg) (hereF f)) 82 11 (((upd2 f 93 ((f 82 18).toNatClampNeg) (hereF f)) 82 11) + 1)) 82 16)) 82 15 0) 82 17 0) 82 18) 16) (p13 : (¬ (hereF f) = 114) → ((hereF f) = 119) → (¬ (f 82 18) = 16) → ((hereF f) = 118) → XP G mX11_readsCondition (d + 6) 0 [.ref 82] [] sw (upd2 (upd2 (upd2 (upd2 (upd2 (upd2 f 93 ((f 82 18).toNatClampNeg) (hereF f)) 82 11 (((upd2 f 93 ((f 82 18).toNatClampNeg) (hereF f)) 82 11) + 1)) 94 (((upd2 (upd2 f 93 ((f 82 18).toNatClampNeg) (hereF f)) 82 11 (((upd2 f 93 ((f 82 18).toNatClampNeg) (hereF f)) 82 11) + 1)) 82 18).toNatClampNeg) ((upd2 (upd2 f 93 ((f 82 18).toNatClampNeg) (hereF f)) 82 11 (((upd2 f 93 ((f 82 18).toNatClampNeg) (hereF f)) 82 11) + 1)) 82 16)) 82 15 0) 82 17 0) 95 (((upd2 (upd2 (upd2 (upd2 (upd2 f 93 ((f 82 18).toNatClampNeg) (hereF f)) 82 11 (((upd2 f 93 ((f 82 18).toNatClampNeg) (hereF f)) 82 11) + 1)) 94 (((upd2 (upd2 f 93 ((f 82 18).toNatClampNeg) (hereF f)) 82 11 (((upd2 f 93 ((f 82 18).toNatClampNeg) (hereF f)) 82 11) + 1)) 82 18).toNatClampNeg) ((upd2 (upd2 f 93 ((f 82 18).toNatClampNeg) (hereF f)) 82 11 (((upd2 f 93 ((f 82 18).toNatClampNeg) (hereF f)) 82 11) + 1)) 82 16)) 82 15 0) 82 17 0) 82 18).toNatClampNeg) ((upd2 (upd2 (upd2 (upd2 (upd2 f 93 ((f 82 18).toNatClampNeg) (hereF f)) 82 11 (((upd2 f 93 ((f 82 18).toNatClampNeg) (hereF f)) 82 11) + 1)) 94 (((upd2 (upd2 f 93 ((f 82 18).toNatClampNeg) (hereF f)) 82 11 (((upd2 f 93 ((f 82 18).toNatClampNeg) (hereF f)) 82 11) + 1)) 82 18).toNatClampNeg) ((upd2 (upd2 f 93 ((f 82 18).toNatClampNeg) (hereF f)) 82 11 (((upd2 f 93 ((f 82 18).toNatClampNeg) (hereF f)) 82 11) + 1)) 82 16)) 82 15 0) 82 17 0) 82 16)) (fun v sw' f' => XP G mX11_readsRule (d + 7) 145 [.ref 82, .int (hereF f)] (retst v []) sw' f' Q)) (p14 : (¬ (hereF f) = 114) → ((hereF f) = 119) → (¬ (f 82 18) = 16) → (¬ (hereF f) = 118) → ((hereF f) = 120) → vp_in ((upd2 (upd2 (upd2 (upd2 (upd2 f 93 ((f 82 18).toNatClampNeg) (hereF f)) 82 11 (((upd2 f 93 ((f 82 18).toNatClampNeg) (hereF f)) 82 11) + 1)) 94 (((upd2 (upd2 f 93 ((f 82 18).toNatClampNeg) (hereF f)) 82 11 (((upd2 f 93 ((f 82 18).toNatClampNeg) (hereF f)) 82 11) + 1)) 82 18).toNatClampNeg) ((upd2 (upd2 f 93 ((f 82 18).toNatClampNeg) (hereF f)) 82 11 (((upd2 f 93 ((f 82 18).toNatClampNeg) (hereF f)) 82 11) + 1)) 82 16)) 82 15 0) 82 17 0) 82 18) 16) (p15 : (¬ (hereF f) = 114) → ((hereF f) = 119) → (¬ (f 82 18) = 16) → (¬ (hereF f) = 118) → ((hereF f) = 120) → XP G mX11_readsCondition (d + 6) 0 [.ref 82] [] sw (upd2 (upd2 (upd2 (upd2 (upd2 (upd2 f 93 ((f 82 18).toNatClampNeg) (hereF f)) 82 11 (((upd2 f 93 ((f 82 18).toNatClampNeg) (hereF f)) 82 11) + 1)) 94 (((upd2 (upd2 f 93 ((f 82 18).toNatClampNeg) (hereF f)) 82 11 (((upd2 f 93 ((f 82 18).toNatClampNeg) (hereF f)) 82 11) + 1)) 82 18).toNatClampNeg) ((upd2 (upd2 f 93 ((f 82 18).toNatClampNeg) (hereF f)) 82 11 (((upd2 f 93 ((f 82 18).toNatClampNeg) (hereF f)) 82 11) + 1)) 82 16)) 82 15 0) 82 17 0) 95 (((upd2 (upd2 (upd2 (upd2 (upd2 f 93 ((f 82 18).toNatClampNeg) (hereF f)) 82 11 (((upd2 f 93 ((f 82 18).toNatClampNeg) (hereF f)) 82 11) + 1)) 94 (((upd2 (upd2 f 93 ((f 82 18).toNatClampNeg) (hereF f)) 82 11 (((upd2 f 93 ((f 82 18).toNatClampNeg) (hereF f)) 82 11) + 1)) 82 18).toNatClampNeg) ((upd2 (upd2 f 93 ((f 82 18).toNatClampNeg) (hereF f)) 82 11 (((upd2 f 93 ((f 82 18).toNatClampNeg) (hereF f)) 82 11) + 1)) 82 16)) 82 15 0) 82 17 0) 82 18).toNatClampNeg) ((upd2 (upd2 (upd2 (upd2 (upd2 f 93 ((f 82 18).toNatClampNeg) (hereF f)) 82 11 (((upd2 f 93 ((f 82 18).toNatClampNeg) (hereF f)) 82 11) + 1)) 94 (((upd2 (upd2 f 93 ((f 82 18).toNatClampNeg) (hereF f)) 82 11 (((upd2 f 93 ((f 82 18).toNatClampNeg) (hereF f)) 82 11) + 1)) 82 18).toNatClampNeg) ((upd2 (upd2 f 93 ((f 82 18).toNatClampNeg) (hereF f)) 82 11 (((upd2 f 93 ((f 82 18).toNatClampNeg) (hereF f)) 82 11) + 1)) 82 16)) 82 15 0) 82 17 0) 82 16)) (fun v sw' f' => XP G mX11_readsRule (d + 7) 145 [.ref 82, .int (hereF f)] (retst v []) sw' f' Q)) (p16 : (¬ (hereF f) = 114) → ((hereF f) = 119) → (¬ (f 82 18) = 16) → (¬ (hereF f) = 118) → (¬ (hereF f) = 120) → XP G mX11_readsSum (d + 6) 0 [.ref 82, .null, .null] [] sw (upd2 (upd2 (upd2 (upd2 (upd2 f 93 ((f 82 18).toNatClampNeg) (hereF f)) 82 11 (((upd2 f 93 ((f 82 18).toNatClampNeg) (hereF f)) 82 11) + 1)) 94 (((upd2 (upd2 f 93 ((f 82 18).toNatClampNeg) (hereF f)) 82 11 (((upd2 f 93 ((f 82 18).toNatClampNeg) (hereF f)) 82 11) + 1)) 82 18).toNatClampNeg) ((upd2 (upd2 f 93 ((f 82 18).toNatClampNeg) (hereF f)) 82 11 (((upd2 f 93 ((f 82 18).toNatClampNeg) (hereF f)) 82 11) + 1)) 82 16)) 82 15 0) 82 17 0) (fun v sw' f' => XP G mX11_readsRule (d + 7) 123 [.ref 82, .int (hereF f)] (retst v []) sw' f' Q)) (p17 : (¬ (hereF f) = 114) → ((hereF f) = 119) → ((f 82 18) = 16) → XP G mX11_wrongAt (d + 6) 0 [.ref 82, .int 4, .int (f 82 11)] [] sw f (fun v sw' f' => XP G mX11_readsRule (d + 7) 63 [.ref 82, .int (hereF f)] (retst v []) sw' f' Q)) (p18 : (¬ (hereF f) = 114) → (¬ (hereF f) = 119) → ((hereF f) = 108) → (¬ (f 82 18) = 16) → vp_in (f 82 18) 16) (p19 : (¬ (hereF f) = 114) → (¬ (hereF f) = 119) → ((hereF f) = 108) → (¬ (f 82 18) = 16) → vp_in ((upd2 (upd2 f 93 ((f 82 18).toNatClampNeg) (hereF f)) 82 11 (((upd2 f 93 ((f 82 18).toNatClampNeg) (hereF f)) 82 11) + 1)) 82 18) 16) (p20 : (¬ (hereF f) = 114) → (¬ (hereF f) = 119) → ((hereF f) = 108) → (¬ (f 82 18) = 16) → ((hereF f) = 118) → vp_in ((upd2 (upd2 (upd2 (upd2 (upd2 f 93 ((f 82 18).toNatClampNeg) (hereF f)) 82 11 (((upd2 f 93 ((f 82 18).toNatClampNeg) (hereF f)) 82 11) + 1)) 94 (((upd2 (upd2 f 93 ((f 82 18).toNatClampNeg) (hereF f)) 82 11 (((upd2 f 93 ((f 82 18).toNatClampNeg) (hereF f)) 82 11) + 1)) 82 18).toNatClampNeg) ((upd2 (upd2 f 93 ((f 82 18).toNatClampNeg) (hereF f)) 82 11 (((upd2 f 93 ((f 82 18).toNatClampNeg) (hereF f)) 82 11) + 1)) 82 16)) 82 15 0) 82 17 0) 82 18) 16) (p21 : (¬ (hereF f) = 114) → (¬ (hereF f) = 119) → ((hereF f) = 108) → (¬ (f 82 18) = 16) → ((hereF f) = 118) → XP G mX11_readsCondition (d + 6) 0 [.ref 82] [] sw (upd2 (upd2 (upd2 (upd2 (upd2 (upd2 f 93 ((f 82 18).toNatClampNeg) (hereF f)) 82 11 (((upd2 f 93 ((f 82 18).toNatClampNeg) (hereF f)) 82 11) + 1)) 94 (((upd2 (upd2 f 93 ((f 82 18).toNatClampNeg) (hereF f)) 82 11 (((upd2 f 93 ((f 82 18).toNatClampNeg) (hereF f)) 82 11) + 1)) 82 18).toNatClampNeg) ((upd2 (upd2 f 93 ((f 82 18).toNatClampNeg) (hereF f)) 82 11 (((upd2 f 93 ((f 82 18).toNatClampNeg) (hereF f)) 82 11) + 1)) 82 16)) 82 15 0) 82 17 0) 95 (((upd2 (upd2 (upd2 (upd2 (upd2 f 93 ((f 82 18).toNatClampNeg) (hereF f)) 82 11 (((upd2 f 93 ((f 82 18).toNatClampNeg) (hereF f)) 82 11) + 1)) 94 (((upd2 (upd2 f 93 ((f 82 18).toNatClampNeg) (hereF f)) 82 11 (((upd2 f 93 ((f 82 18).toNatClampNeg) (hereF f)) 82 11) + 1)) 82 18).toNatClampNeg) ((upd2 (upd2 f 93 ((f 82 18).toNatClampNeg) (hereF f)) 82 11 (((upd2 f 93 ((f 82 18).toNatClampNeg) (hereF f)) 82 11) + 1)) 82 16)) 82 15 0) 82 17 0) 82 18).toNatClampNeg) ((upd2 (upd2 (upd2 (upd2 (upd2 f 93 ((f 82 18).toNatClampNeg) (hereF f)) 82 11 (((upd2 f 93 ((f 82 18).toNatClampNeg) (hereF f)) 82 11) + 1)) 94 (((upd2 (upd2 f 93 ((f 82 18).toNatClampNeg) (hereF f)) 82 11 (((upd2 f 93 ((f 82 18).toNatClampNeg) (hereF f)) 82 11) + 1)) 82 18).toNatClampNeg) ((upd2 (upd2 f 93 ((f 82 18).toNatClampNeg) (hereF f)) 82 11 (((upd2 f 93 ((f 82 18).toNatClampNeg) (hereF f)) 82 11) + 1)) 82 16)) 82 15 0) 82 17 0) 82 16)) (fun v sw' f' => XP G mX11_readsRule (d + 7) 145 [.ref 82, .int (hereF f)] (retst v []) sw' f' Q)) (p22 : (¬ (hereF f) = 114) → (¬ (hereF f) = 119) → ((hereF f) = 108) → (¬ (f 82 18) = 16) → (¬ (hereF f) = 118) → ((hereF f) = 120) → vp_in ((upd2 (upd2 (upd2 (upd2 (upd2 f 93 ((f 82 18).toNatClampNeg) (hereF f)) 82 11 (((upd2 f 93 ((f 82 18).toNatClampNeg) (hereF f)) 82 11) + 1)) 94 (((upd2 (upd2 f 93 ((f 82 18).toNatClampNeg) (hereF f)) 82 11 (((upd2 f 93 ((f 82 18).toNatClampNeg) (hereF f)) 82 11) + 1)) 82 18).toNatClampNeg) ((upd2 (upd2 f 93 ((f 82 18).toNatClampNeg) (hereF f)) 82 11 (((upd2 f 93 ((f 82 18).toNatClampNeg) (hereF f)) 82 11) + 1)) 82 16)) 82 15 0) 82 17 0) 82 18) 16) (p23 : (¬ (hereF f) = 114) → (¬ (hereF f) = 119) → ((hereF f) = 108) → (¬ (f 82 18) = 16) → (¬ (hereF f) = 118) → ((hereF f) = 120) → XP G mX11_readsCondition (d + 6) 0 [.ref 82] [] sw (upd2 (upd2 (upd2 (upd2 (upd2 (upd2 f 93 ((f 82 18).toNatClampNeg) (hereF f)) 82 11 (((upd2 f 93 ((f 82 18).toNatClampNeg) (hereF f)) 82 11) + 1)) 94 (((upd2 (upd2 f 93 ((f 82 18).toNatClampNeg) (hereF f)) 82 11 (((upd2 f 93 ((f 82 18).toNatClampNeg) (hereF f)) 82 11) + 1)) 82 18).toNatClampNeg) ((upd2 (upd2 f 93 ((f 82 18).toNatClampNeg) (hereF f)) 82 11 (((upd2 f 93 ((f 82 18).toNatClampNeg) (hereF f)) 82 11) + 1)) 82 16)) 82 15 0) 82 17 0) 95 (((upd2 (upd2 (upd2 (upd2 (upd2 f 93 ((f 82 18).toNatClampNeg) (hereF f)) 82 11 (((upd2 f 93 ((f 82 18).toNatClampNeg) (hereF f)) 82 11) + 1)) 94 (((upd2 (upd2 f 93 ((f 82 18).toNatClampNeg) (hereF f)) 82 11 (((upd2 f 93 ((f 82 18).toNatClampNeg) (hereF f)) 82 11) + 1)) 82 18).toNatClampNeg) ((upd2 (upd2 f 93 ((f 82 18).toNatClampNeg) (hereF f)) 82 11 (((upd2 f 93 ((f 82 18).toNatClampNeg) (hereF f)) 82 11) + 1)) 82 16)) 82 15 0) 82 17 0) 82 18).toNatClampNeg) ((upd2 (upd2 (upd2 (upd2 (upd2 f 93 ((f 82 18).toNatClampNeg) (hereF f)) 82 11 (((upd2 f 93 ((f 82 18).toNatClampNeg) (hereF f)) 82 11) + 1)) 94 (((upd2 (upd2 f 93 ((f 82 18).toNatClampNeg) (hereF f)) 82 11 (((upd2 f 93 ((f 82 18).toNatClampNeg) (hereF f)) 82 11) + 1)) 82 18).toNatClampNeg) ((upd2 (upd2 f 93 ((f 82 18).toNatClampNeg) (hereF f)) 82 11 (((upd2 f 93 ((f 82 18).toNatClampNeg) (hereF f)) 82 11) + 1)) 82 16)) 82 15 0) 82 17 0) 82 16)) (fun v sw' f' => XP G mX11_readsRule (d + 7) 145 [.ref 82, .int (hereF f)] (retst v []) sw' f' Q)) (p24 : (¬ (hereF f) = 114) → (¬ (hereF f) = 119) → ((hereF f) = 108) → (¬ (f 82 18) = 16) → (¬ (hereF f) = 118) → (¬ (hereF f) = 120) → XP G mX11_readsSum (d + 6) 0 [.ref 82, .null, .null] [] sw (upd2 (upd2 (upd2 (upd2 (upd2 f 93 ((f 82 18).toNatClampNeg) (hereF f)) 82 11 (((upd2 f 93 ((f 82 18).toNatClampNeg) (hereF f)) 82 11) + 1)) 94 (((upd2 (upd2 f 93 ((f 82 18).toNatClampNeg) (hereF f)) 82 11 (((upd2 f 93 ((f 82 18).toNatClampNeg) (hereF f)) 82 11) + 1)) 82 18).toNatClampNeg) ((upd2 (upd2 f 93 ((f 82 18).toNatClampNeg) (hereF f)) 82 11 (((upd2 f 93 ((f 82 18).toNatClampNeg) (hereF f)) 82 11) + 1)) 82 16)) 82 15 0) 82 17 0) (fun v sw' f' => XP G mX11_readsRule (d + 7) 123 [.ref 82, .int (hereF f)] (retst v []) sw' f' Q)) (p25 : (¬ (hereF f) = 114) → (¬ (hereF f) = 119) → ((hereF f) = 108) → ((f 82 18) = 16) → XP G mX11_wrongAt (d + 6) 0 [.ref 82, .int 4, .int (f 82 11)] [] sw f (fun v sw' f' => XP G mX11_readsRule (d + 7) 63 [.ref 82, .int (hereF f)] (retst v []) sw' f' Q)) (p26 : (¬ (hereF f) = 114) → (¬ (hereF f) = 119) → (¬ (hereF f) = 108) → ((hereF f) = 118) → (¬ (f 82 18) = 16) → vp_in (f 82 18) 16) (p27 : (¬ (hereF f) = 114) → (¬ (hereF f) = 119) → (¬ (hereF f) = 108) → ((hereF f) = 118) → (¬ (f 82 18) = 16) → vp_in ((upd2 (upd2 f 93 ((f 82 18).toNatClampNeg) (hereF f)) 82 11 (((upd2 f 93 ((f 82 18).toNatClampNeg) (hereF f)) 82 11) + 1)) 82 18) 16) (p28 : (¬ (hereF f) = 114) → (¬ (hereF f) = 119) → (¬ (hereF f) = 108) → ((hereF f) = 118) → (¬ (f 82 18) = 16) → ((hereF f) = 118) → vp_in ((upd2 (upd2 (upd2 (upd2 (upd2 f 93 ((f 82 18).toNatClampNeg) (hereF f)) 82 11 (((upd2 f 93 ((f 82 18).toNatClampNeg) (hereF f)) 82 11) + 1)) 94 (((upd2 (upd2 f 93 ((f 82 18).toNatClampNeg) (hereF f)) 82 11 (((upd2 f 93 ((f 82 18).toNatClampNeg) (hereF f)) 82 11) + 1)) 82 18).toNatClampNeg) ((upd2 (upd2 f 93 ((f 82 18).toNatClampNeg) (hereF f)) 82 11 (((upd2 f 93 ((f 82 18).toNatClampNeg) (hereF f)) 82 11) + 1)) 82 16)) 82 15 0) 82 17 0) 82 18) 16) (p29 : (¬ (hereF f) = 114) → (¬ (hereF f) = 119) → (¬ (hereF f) = 108) → ((hereF f) = 118) → (¬ (f 82 18) = 16) → ((hereF f) = 118) → XP G mX11_readsCondition (d + 6) 0 [.ref 82] [] sw (upd2 (upd2 (upd2 (upd2 (upd2 (upd2 f 93 ((f 82 18).toNatClampNeg) (hereF f)) 82 11 (((upd2 f 93 ((f 82 18).toNatClampNeg) (hereF f)) 82 11) + 1)) 94 (((upd2 (upd2 f 93 ((f 82 18).toNatClampNeg) (hereF f)) 82 11 (((upd2 f 93 ((f 82 18).toNatClampNeg) (hereF f)) 82 11) + 1)) 82 18).toNatClampNeg) ((upd2 (upd2 f 93 ((f 82 18).toNatClampNeg) (hereF f)) 82 11 (((upd2 f 93 ((f 82 18).toNatClampNeg) (hereF f)) 82 11) + 1)) 82 16)) 82 15 0) 82 17 0) 95 (((upd2 (upd2 (upd2 (upd2 (upd2 f 93 ((f 82 18).toNatClampNeg) (hereF f)) 82 11 (((upd2 f 93 ((f 82 18).toNatClampNeg) (hereF f)) 82 11) + 1)) 94 (((upd2 (upd2 f 93 ((f 82 18).toNatClampNeg) (hereF f)) 82 11 (((upd2 f 93 ((f 82 18).toNatClampNeg) (hereF f)) 82 11) + 1)) 82 18).toNatClampNeg) ((upd2 (upd2 f 93 ((f 82 18).toNatClampNeg) (hereF f)) 82 11 (((upd2 f 93 ((f 82 18).toNatClampNeg) (hereF f)) 82 11) + 1)) 82 16)) 82 15 0) 82 17 0) 82 18).toNatClampNeg) ((upd2 (upd2 (upd2 (upd2 (upd2 f 93 ((f 82 18).toNatClampNeg) (hereF f)) 82 11 (((upd2 f 93 ((f 82 18).toNatClampNeg) (hereF f)) 82 11) + 1)) 94 (((upd2 (upd2 f 93 ((f 82 18).toNatClampNeg) (hereF f)) 82 11 (((upd2 f 93 ((f 82 18).toNatClampNeg) (hereF f)) 82 11) + 1)) 82 18).toNatClampNeg) ((upd2 (upd2 f 93 ((f 82 18).toNatClampNeg) (hereF f)) 82 11 (((upd2 f 93 ((f 82 18).toNatClampNeg) (hereF f)) 82 11) + 1)) 82 16)) 82 15 0) 82 17 0) 82 16)) (fun v sw' f' => XP G mX11_readsRule (d + 7) 145 [.ref 82, .int (hereF f)] (retst v []) sw' f' Q)) (p30 : (¬ (hereF f) = 114) → (¬ (hereF f) = 119) → (¬ (hereF f) = 108) → ((hereF f) = 118) → (¬ (f 82 18) = 16) → (¬ (hereF f) = 118) → ((hereF f) = 120) → vp_in ((upd2 (upd2 (upd2 (upd2 (upd2 f 93 ((f 82 18).toNatClampNeg) (hereF f)) 82 11 (((upd2 f 93 ((f 82 18).toNatClampNeg) (hereF f)) 82 11) + 1)) 94 (((upd2 (upd2 f 93 ((f 82 18).toNatClampNeg) (hereF f)) 82 11 (((upd2 f 93 ((f 82 18).toNatClampNeg) (hereF f)) 82 11) + 1)) 82 18).toNatClampNeg) ((upd2 (upd2 f 93 ((f 82 18).toNatClampNeg) (hereF f)) 82 11 (((upd2 f 93 ((f 82 18).toNatClampNeg) (hereF f)) 82 11) + 1)) 82 16)) 82 15 0) 82 17 0) 82 18) 16) (p31 : (¬ (hereF f) = 114) → (¬ (hereF f) = 119) → (¬ (hereF f) = 108) → ((hereF f) = 118) → (¬ (f 82 18) = 16) → (¬ (hereF f) = 118) → ((hereF f) = 120) → XP G mX11_readsCondition (d + 6) 0 [.ref 82] [] sw (upd2 (upd2 (upd2 (upd2 (upd2 (upd2 f 93 ((f 82 18).toNatClampNeg) (hereF f)) 82 11 (((upd2 f 93 ((f 82 18).toNatClampNeg) (hereF f)) 82 11) + 1)) 94 (((upd2 (upd2 f 93 ((f 82 18).toNatClampNeg) (hereF f)) 82 11 (((upd2 f 93 ((f 82 18).toNatClampNeg) (hereF f)) 82 11) + 1)) 82 18).toNatClampNeg) ((upd2 (upd2 f 93 ((f 82 18).toNatClampNeg) (hereF f)) 82 11 (((upd2 f 93 ((f 82 18).toNatClampNeg) (hereF f)) 82 11) + 1)) 82 16)) 82 15 0) 82 17 0) 95 (((upd2 (upd2 (upd2 (upd2 (upd2 f 93 ((f 82 18).toNatClampNeg) (hereF f)) 82 11 (((upd2 f 93 ((f 82 18).toNatClampNeg) (hereF f)) 82 11) + 1)) 94 (((upd2 (upd2 f 93 ((f 82 18).toNatClampNeg) (hereF f)) 82 11 (((upd2 f 93 ((f 82 18).toNatClampNeg) (hereF f)) 82 11) + 1)) 82 18).toNatClampNeg) ((upd2 (upd2 f 93 ((f 82 18).toNatClampNeg) (hereF f)) 82 11 (((upd2 f 93 ((f 82 18).toNatClampNeg) (hereF f)) 82 11) + 1)) 82 16)) 82 15 0) 82 17 0) 82 18).toNatClampNeg) ((upd2 (upd2 (upd2 (upd2 (upd2 f 93 ((f 82 18).toNatClampNeg) (hereF f)) 82 11 (((upd2 f 93 ((f 82 18).toNatClampNeg) (hereF f)) 82 11) + 1)) 94 (((upd2 (upd2 f 93 ((f 82 18).toNatClampNeg) (hereF f)) 82 11 (((upd2 f 93 ((f 82 18).toNatClampNeg) (hereF f)) 82 11) + 1)) 82 18).toNatClampNeg) ((upd2 (upd2 f 93 ((f 82 18).toNatClampNeg) (hereF f)) 82 11 (((upd2 f 93 ((f 82 18).toNatClampNeg) (hereF f)) 82 11) + 1)) 82 16)) 82 15 0) 82 17 0) 82 16)) (fun v sw' f' => XP G mX11_readsRule (d + 7) 145 [.ref 82, .int (hereF f)] (retst v []) sw' f' Q)) (p32 : (¬ (hereF f) = 114) → (¬ (hereF f) = 119) → (¬ (hereF f) = 108) → ((hereF f) = 118) → (¬ (f 82 18) = 16) → (¬ (hereF f) = 118) → (¬ (hereF f) = 120) → XP G mX11_readsSum (d + 6) 0 [.ref 82, .null, .null] [] sw (upd2 (upd2 (upd2 (upd2 (upd2 f 93 ((f 82 18).toNatClampNeg) (hereF f)) 82 11 (((upd2 f 93 ((f 82 18).toNatClampNeg) (hereF f)) 82 11) + 1)) 94 (((upd2 (upd2 f 93 ((f 82 18).toNatClampNeg) (hereF f)) 82 11 (((upd2 f 93 ((f 82 18).toNatClampNeg) (hereF f)) 82 11) + 1)) 82 18).toNatClampNeg) ((upd2 (upd2 f 93 ((f 82 18).toNatClampNeg) (hereF f)) 82 11 (((upd2 f 93 ((f 82 18).toNatClampNeg) (hereF f)) 82 11) + 1)) 82 16)) 82 15 0) 82 17 0) (fun v sw' f' => XP G mX11_readsRule (d + 7) 123 [.ref 82, .int (hereF f)] (retst v []) sw' f' Q)) (p33 : (¬ (hereF f) = 114) → (¬ (hereF f) = 119) → (¬ (hereF f) = 108) → ((hereF f) = 118) → ((f 82 18) = 16) → XP G mX11_wrongAt (d + 6) 0 [.ref 82, .int 4, .int (f 82 11)] [] sw f (fun v sw' f' => XP G mX11_readsRule (d + 7) 63 [.ref 82, .int (hereF f)] (retst v []) sw' f' Q)) (p34 : (¬ (hereF f) = 114) → (¬ (hereF f) = 119) → (¬ (hereF f) = 108) → (¬ (hereF f) = 118) → ((hereF f) = 120) → (¬ (f 82 18) = 16) → vp_in (f 82 18) 16) (p35 : (¬ (hereF f) = 114) → (¬ (hereF f) = 119) → (¬ (hereF f) = 108) → (¬ (hereF f) = 118) → ((hereF f) = 120) → (¬ (f 82 18) = 16) → vp_in ((upd2 (upd2 f 93 ((f 82 18).toNatClampNeg) (hereF f)) 82 11 (((upd2 f 93 ((f 82 18).toNatClampNeg) (hereF f)) 82 11) + 1)) 82 18) 16) (p36 : (¬ (hereF f) = 114) → (¬ (hereF f) = 119) → (¬ (hereF f) = 108) → (¬ (hereF f) = 118) → ((hereF f) = 120) → (¬ (f 82 18) = 16) → ((hereF f) = 118) → vp_in ((upd2 (upd2 (upd2 (upd2 (upd2 f 93 ((f 82 18).toNatClampNeg) (hereF f)) 82 11 (((upd2 f 93 ((f 82 18).toNatClampNeg) (hereF f)) 82 11) + 1)) 94 (((upd2 (upd2 f 93 ((f 82 18).toNatClampNeg) (hereF f)) 82 11 (((upd2 f 93 ((f 82 18).toNatClampNeg) (hereF f)) 82 11) + 1)) 82 18).toNatClampNeg) ((upd2 (upd2 f 93 ((f 82 18).toNatClampNeg) (hereF f)) 82 11 (((upd2 f 93 ((f 82 18).toNatClampNeg) (hereF f)) 82 11) + 1)) 82 16)) 82 15 0) 82 17 0) 82 18) 16) (p37 : (¬ (hereF f) = 114) → (¬ (hereF f) = 119) → (¬ (hereF f) = 108) → (¬ (hereF f) = 118) → ((hereF f) = 120) → (¬ (f 82 18) = 16) → ((hereF f) = 118) → XP G mX11_readsCondition (d + 6) 0 [.ref 82] [] sw (upd2 (upd2 (upd2 (upd2 (upd2 (upd2 f 93 ((f 82 18).toNatClampNeg) (hereF f)) 82 11 (((upd2 f 93 ((f 82 18).toNatClampNeg) (hereF f)) 82 11) + 1)) 94 (((upd2 (upd2 f 93 ((f 82 18).toNatClampNeg) (hereF f)) 82 11 (((upd2 f 93 ((f 82 18).toNatClampNeg) (hereF f)) 82 11) + 1)) 82 18).toNatClampNeg) ((upd2 (upd2 f 93 ((f 82 18).toNatClampNeg) (hereF f)) 82 11 (((upd2 f 93 ((f 82 18).toNatClampNeg) (hereF f)) 82 11) + 1)) 82 16)) 82 15 0) 82 17 0) 95 (((upd2 (upd2 (upd2 (upd2 (upd2 f 93 ((f 82 18).toNatClampNeg) (hereF f)) 82 11 (((upd2 f 93 ((f 82 18).toNatClampNeg) (hereF f)) 82 11) + 1)) 94 (((upd2 (upd2 f 93 ((f 82 18).toNatClampNeg) (hereF f)) 82 11 (((upd2 f 93 ((f 82 18).toNatClampNeg) (hereF f)) 82 11) + 1)) 82 18).toNatClampNeg) ((upd2 (upd2 f 93 ((f 82 18).toNatClampNeg) (hereF f)) 82 11 (((upd2 f 93 ((f 82 18).toNatClampNeg) (hereF f)) 82 11) + 1)) 82 16)) 82 15 0) 82 17 0) 82 18).toNatClampNeg) ((upd2 (upd2 (upd2 (upd2 (upd2 f 93 ((f 82 18).toNatClampNeg) (hereF f)) 82 11 (((upd2 f 93 ((f 82 18).toNatClampNeg) (hereF f)) 82 11) + 1)) 94 (((upd2 (upd2 f 93 ((f 82 18).toNatClampNeg) (hereF f)) 82 11 (((upd2 f 93 ((f 82 18).toNatClampNeg) (hereF f)) 82 11) + 1)) 82 18).toNatClampNeg) ((upd2 (upd2 f 93 ((f 82 18).toNatClampNeg) (hereF f)) 82 11 (((upd2 f 93 ((f 82 18).toNatClampNeg) (hereF f)) 82 11) + 1)) 82 16)) 82 15 0) 82 17 0) 82 16)) (fun v sw' f' => XP G mX11_readsRule (d + 7) 145 [.ref 82, .int (hereF f)] (retst v []) sw' f' Q)) (p38 : (¬ (hereF f) = 114) → (¬ (hereF f) = 119) → (¬ (hereF f) = 108) → (¬ (hereF f) = 118) → ((hereF f) = 120) → (¬ (f 82 18) = 16) → (¬ (hereF f) = 118) → ((hereF f) = 120) → vp_in ((upd2 (upd2 (upd2 (upd2 (upd2 f 93 ((f 82 18).toNatClampNeg) (hereF f)) 82 11 (((upd2 f 93 ((f 82 18).toNatClampNeg) (hereF f)) 82 11) + 1)) 94 (((upd2 (upd2 f 93 ((f 82 18).toNatClampNeg) (hereF f)) 82 11 (((upd2 f 93 ((f 82 18).toNatClampNeg) (hereF f)) 82 11) + 1)) 82 18).toNatClampNeg) ((upd2 (upd2 f 93 ((f 82 18).toNatClampNeg) (hereF f)) 82 11 (((upd2 f 93 ((f 82 18).toNatClampNeg) (hereF f)) 82 11) + 1)) 82 16)) 82 15 0) 82 17 0) 82 18) 16) (p39 : (¬ (hereF f) = 114) → (¬ (hereF f) = 119) → (¬ (hereF f) = 108) → (¬ (hereF f) = 118) → ((hereF f) = 120) → (¬ (f 82 18) = 16) → (¬ (hereF f) = 118) → ((hereF f) = 120) → XP G mX11_readsCondition (d + 6) 0 [.ref 82] [] sw (upd2 (upd2 (upd2 (upd2 (upd2 (upd2 f 93 ((f 82 18).toNatClampNeg) (hereF f)) 82 11 (((upd2 f 93 ((f 82 18).toNatClampNeg) (hereF f)) 82 11) + 1)) 94 (((upd2 (upd2 f 93 ((f 82 18).toNatClampNeg) (hereF f)) 82 11 (((upd2 f 93 ((f 82 18).toNatClampNeg) (hereF f)) 82 11) + 1)) 82 18).toNatClampNeg) ((upd2 (upd2 f 93 ((f 82 18).toNatClampNeg) (hereF f)) 82 11 (((upd2 f 93 ((f 82 18).toNatClampNeg) (hereF f)) 82 11) + 1)) 82 16)) 82 15 0) 82 17 0) 95 (((upd2 (upd2 (upd2 (upd2 (upd2 f 93 ((f 82 18).toNatClampNeg) (hereF f)) 82 11 (((upd2 f 93 ((f 82 18).toNatClampNeg) (hereF f)) 82 11) + 1)) 94 (((upd2 (upd2 f 93 ((f 82 18).toNatClampNeg) (hereF f)) 82 11 (((upd2 f 93 ((f 82 18).toNatClampNeg) (hereF f)) 82 11) + 1)) 82 18).toNatClampNeg) ((upd2 (upd2 f 93 ((f 82 18).toNatClampNeg) (hereF f)) 82 11 (((upd2 f 93 ((f 82 18).toNatClampNeg) (hereF f)) 82 11) + 1)) 82 16)) 82 15 0) 82 17 0) 82 18).toNatClampNeg) ((upd2 (upd2 (upd2 (upd2 (upd2 f 93 ((f 82 18).toNatClampNeg) (hereF f)) 82 11 (((upd2 f 93 ((f 82 18).toNatClampNeg) (hereF f)) 82 11) + 1)) 94 (((upd2 (upd2 f 93 ((f 82 18).toNatClampNeg) (hereF f)) 82 11 (((upd2 f 93 ((f 82 18).toNatClampNeg) (hereF f)) 82 11) + 1)) 82 18).toNatClampNeg) ((upd2 (upd2 f 93 ((f 82 18).toNatClampNeg) (hereF f)) 82 11 (((upd2 f 93 ((f 82 18).toNatClampNeg) (hereF f)) 82 11) + 1)) 82 16)) 82 15 0) 82 17 0) 82 16)) (fun v sw' f' => XP G mX11_readsRule (d + 7) 145 [.ref 82, .int (hereF f)] (retst v []) sw' f' Q)) (p40 : (¬ (hereF f) = 114) → (¬ (hereF f) = 119) → (¬ (hereF f) = 108) → (¬ (hereF f) = 118) → ((hereF f) = 120) → (¬ (f 82 18) = 16) → (¬ (hereF f) = 118) → (¬ (hereF f) = 120) → XP G mX11_readsSum (d + 6) 0 [.ref 82, .null, .null] [] sw (upd2 (upd2 (upd2 (upd2 (upd2 f 93 ((f 82 18).toNatClampNeg) (hereF f)) 82 11 (((upd2 f 93 ((f 82 18).toNatClampNeg) (hereF f)) 82 11) + 1)) 94 (((upd2 (upd2 f 93 ((f 82 18).toNatClampNeg) (hereF f)) 82 11 (((upd2 f 93 ((f 82 18).toNatClampNeg) (hereF f)) 82 11) + 1)) 82 18).toNatClampNeg) ((upd2 (upd2 f 93 ((f 82 18).toNatClampNeg) (hereF f)) 82 11 (((upd2 f 93 ((f 82 18).toNatClampNeg) (hereF f)) 82 11) + 1)) 82 16)) 82 15 0) 82 17 0) (fun v sw' f' => XP G mX11_readsRule (d + 7) 123 [.ref 82, .int (hereF f)] (retst v []) sw' f' Q)) (p41 : (¬ (hereF f) = 114) → (¬ (hereF f) = 119) → (¬ (hereF f) = 108) → (¬ (hereF f) = 118) → ((hereF f) = 120) → ((f 82 18) = 16) → XP G mX11_wrongAt (d + 6) 0 [.ref 82, .int 4, .int (f 82 11)] [] sw f (fun v sw' f' => XP G mX11_readsRule (d + 7) 63 [.ref 82, .int (hereF f)] (retst v []) sw' f' Q)) (p42 : (¬ (hereF f) = 114) → (¬ (hereF f) = 119) → (¬ (hereF f) = 108) → (¬ (hereF f) = 118) → (¬ (hereF f) = 120) → XP G mX11_wrongAt (d + 6) 0 [.ref 82, .int 1, .int (f 82 11)] [] sw f (fun v sw' f' => XP G mX11_readsRule (d + 7) 44 [.ref 82, .int (hereF f)] (retst v []) sw' f' Q)) : XP G mX11_readsRule (d + 7) 0 [.ref 82, .null] [] sw f Q := by
  refine wp_aload_n (M := mX11_readsRule) (pc := 0) dX11_readsRule_0 rfl rfl ?_
  refine xs_callV (d := d + 6) (M := mX11_readsRule) (pc := 1) (As := []) (st := []) (c := 11) (ls' := [.ref 82]) dX11_readsRule_1 oX11_here nX11_here lX11_158 vX11_here sX11_here rfl sh82 (Nat.le_of_ble_eq_true rfl) rfl (Nat.le_of_ble_eq_true rfl) rfl ?_
  refine sp_X11_here  (p1) ?_
  refine wp_istore_n (M := mX11_readsRule) (pc := 4) (ls' := [.ref 82, .int (hereF f)]) dX11_readsRule_4 rfl (by decide) rfl ?_
  refine wp_iload_n (M := mX11_readsRule) (pc := 5) dX11_readsRule_5 rfl rfl ?_
  refine wp_bipush (M := mX11_readsRule) (pc := 6) dX11_readsRule_6 k_bipush_114 ?_
  refine wp_icmp_eq (M := mX11_readsRule) (pc := 8) (t := 45) dX11_readsRule_8 (by decide) (fun c1 => ?_) (fun c1 => ?_)
  · refine wp_aload_n (M := mX11_readsRule) (pc := 45) dX11_readsRule_45 rfl rfl ?_
    refine xs_geti (M := mX11_readsRule) (pc := 46) dX11_readsRule_46 fX11_229 sh82 rfl ?_
    refine wp_bipush (M := mX11_readsRule) (pc := 49) dX11_readsRule_49 k_bipush_16 ?_
    refine wp_icmp_ne (M := mX11_readsRule) (pc := 51) (t := 64) dX11_readsRule_51 (by decide) (fun c2 => ?_) (fun c2 => ?_)
    · refine wp_aload_n (M := mX11_readsRule) (pc := 64) dX11_readsRule_64 rfl rfl ?_
      refine xs_getr (M := mX11_readsRule) (pc := 65) (r := 93) dX11_readsRule_65 fX11_41 sh82 rfl (gr82_22 sw) ?_
      refine wp_aload_n (M := mX11_readsRule) (pc := 68) dX11_readsRule_68 rfl rfl ?_
      refine xs_geti (M := mX11_readsRule) (pc := 69) dX11_readsRule_69 fX11_229 sh82 rfl ?_
      refine wp_iload_n (M := mX11_readsRule) (pc := 72) dX11_readsRule_72 rfl rfl ?_
      refine xs_iast (M := mX11_readsRule) (pc := 73) (j := (f 82 18).toNatClampNeg) dX11_readsRule_73 sh93 (p2 c1 c2) rfl ?_
      refine wp_aload_n (M := mX11_readsRule) (pc := 74) dX11_readsRule_74 rfl rfl ?_
      refine wp_aload_n (M := mX11_readsRule) (pc := 75) dX11_readsRule_75 rfl rfl ?_
      refine xs_geti (M := mX11_readsRule) (pc := 76) dX11_readsRule_76 fX11_152 sh82 rfl ?_
      refine wp_iconst (M := mX11_readsRule) (pc := 79) dX11_readsRule_79 k_iconst_1 ?_
      refine wp_iadd (M := mX11_readsRule) (pc := 80) dX11_readsRule_80 ?_
      refine xs_puti (M := mX11_readsRule) (pc := 81) dX11_readsRule_81 pX11_152 sh82 rfl ?_
      refine wp_aload_n (M := mX11_readsRule) (pc := 84) dX11_readsRule_84 rfl rfl ?_
      refine xs_getr (M := mX11_readsRule) (pc := 85) (r := 94) dX11_readsRule_85 fX11_44 sh82 rfl (gr82_23 sw) ?_
      refine wp_aload_n (M := mX11_readsRule) (pc := 88) dX11_readsRule_88 rfl rfl ?_
      refine xs_geti (M := mX11_readsRule) (pc := 89) dX11_readsRule_89 fX11_229 sh82 rfl ?_
      refine wp_aload_n (M := mX11_readsRule) (pc := 92) dX11_readsRule_92 rfl rfl ?_
      refine xs_geti (M := mX11_readsRule) (pc := 93) dX11_readsRule_93 fX11_175 sh82 rfl ?_
      refine xs_iast (M := mX11_readsRule) (pc := 96) (j := ((upd2 (upd2 f 93 ((f 82 18).toNatClampNeg) (hereF f)) 82 11 (((upd2 f 93 ((f 82 18).toNatClampNeg) (hereF f)) 82 11) + 1)) 82 18).toNatClampNeg) dX11_readsRule_96 sh94 (p3 c1 c2) rfl ?_
      refine wp_aload_n (M := mX11_readsRule) (pc := 97) dX11_readsRule_97 rfl rfl ?_
      refine wp_iconst (M := mX11_readsRule) (pc := 98) dX11_readsRule_98 k_iconst_0 ?_
      refine xs_puti (M := mX11_readsRule) (pc := 99) dX11_readsRule_99 pX11_179 sh82 rfl ?_
      refine wp_aload_n (M := mX11_readsRule) (pc := 102) dX11_readsRule_102 rfl rfl ?_
      refine wp_iconst (M := mX11_readsRule) (pc := 103) dX11_readsRule_103 k_iconst_0 ?_
      refine xs_puti (M := mX11_readsRule) (pc := 104) dX11_readsRule_104 pX11_182 sh82 rfl ?_
      refine wp_iload_n (M := mX11_readsRule) (pc := 107) dX11_readsRule_107 rfl rfl ?_
      refine wp_bipush (M := mX11_readsRule) (pc := 108) dX11_readsRule_108 k_bipush_118 ?_
      refine wp_icmp_eq (M := mX11_readsRule) (pc := 110) (t := 128) dX11_readsRule_110 (by decide) (fun c3 => ?_) (fun c3 => ?_)
      · refine wp_aload_n (M := mX11_readsRule) (pc := 128) dX11_readsRule_128 rfl rfl ?_
        refine xs_getr (M := mX11_readsRule) (pc := 129) (r := 95) dX11_readsRule_129 fX11_47 sh82 rfl (gr82_24 sw) ?_
        refine wp_aload_n (M := mX11_readsRule) (pc := 132) dX11_readsRule_132 rfl rfl ?_
        refine xs_geti (M := mX11_readsRule) (pc := 133) dX11_readsRule_133 fX11_229 sh82 rfl ?_
        refine wp_aload_n (M := mX11_readsRule) (pc := 136) dX11_readsRule_136 rfl rfl ?_
        refine xs_geti (M := mX11_readsRule) (pc := 137) dX11_readsRule_137 fX11_175 sh82 rfl ?_
        refine xs_iast (M := mX11_readsRule) (pc := 140) (j := ((upd2 (upd2 (upd2 (upd2 (upd2 f 93 ((f 82 18).toNatClampNeg) (hereF f)) 82 11 (((upd2 f 93 ((f 82 18).toNatClampNeg) (hereF f)) 82 11) + 1)) 94 (((upd2 (upd2 f 93 ((f 82 18).toNatClampNeg) (hereF f)) 82 11 (((upd2 f 93 ((f 82 18).toNatClampNeg) (hereF f)) 82 11) + 1)) 82 18).toNatClampNeg) ((upd2 (upd2 f 93 ((f 82 18).toNatClampNeg) (hereF f)) 82 11 (((upd2 f 93 ((f 82 18).toNatClampNeg) (hereF f)) 82 11) + 1)) 82 16)) 82 15 0) 82 17 0) 82 18).toNatClampNeg) dX11_readsRule_140 sh95 (p4 c1 c2 c3) rfl ?_
        refine wp_aload_n (M := mX11_readsRule) (pc := 141) dX11_readsRule_141 rfl rfl ?_
        refine xs_callV (d := d + 6) (M := mX11_readsRule) (pc := 142) (As := []) (st := []) (c := 11) (ls' := [.ref 82]) dX11_readsRule_142 oX11_readsCondition nX11_readsCondition lX11_232 vX11_readsCondition sX11_readsCondition rfl sh82 (Nat.le_of_ble_eq_true rfl) rfl (Nat.le_of_ble_eq_true rfl) rfl ?_
        exact p5 c1 c2 c3
      · refine wp_iload_n (M := mX11_readsRule) (pc := 113) dX11_readsRule_113 rfl rfl ?_
        refine wp_bipush (M := mX11_readsRule) (pc := 114) dX11_readsRule_114 k_bipush_120 ?_
        refine wp_icmp_eq (M := mX11_readsRule) (pc := 116) (t := 128) dX11_readsRule_116 (by decide) (fun c4 => ?_) (fun c4 => ?_)
        · refine wp_aload_n (M := mX11_readsRule) (pc := 128) dX11_readsRule_128 rfl rfl ?_
          refine xs_getr (M := mX11_readsRule) (pc := 129) (r := 95) dX11_readsRule_129 fX11_47 sh82 rfl (gr82_24 sw) ?_
          refine wp_aload_n (M := mX11_readsRule) (pc := 132) dX11_readsRule_132 rfl rfl ?_
          refine xs_geti (M := mX11_readsRule) (pc := 133) dX11_readsRule_133 fX11_229 sh82 rfl ?_
          refine wp_aload_n (M := mX11_readsRule) (pc := 136) dX11_readsRule_136 rfl rfl ?_
          refine xs_geti (M := mX11_readsRule) (pc := 137) dX11_readsRule_137 fX11_175 sh82 rfl ?_
          refine xs_iast (M := mX11_readsRule) (pc := 140) (j := ((upd2 (upd2 (upd2 (upd2 (upd2 f 93 ((f 82 18).toNatClampNeg) (hereF f)) 82 11 (((upd2 f 93 ((f 82 18).toNatClampNeg) (hereF f)) 82 11) + 1)) 94 (((upd2 (upd2 f 93 ((f 82 18).toNatClampNeg) (hereF f)) 82 11 (((upd2 f 93 ((f 82 18).toNatClampNeg) (hereF f)) 82 11) + 1)) 82 18).toNatClampNeg) ((upd2 (upd2 f 93 ((f 82 18).toNatClampNeg) (hereF f)) 82 11 (((upd2 f 93 ((f 82 18).toNatClampNeg) (hereF f)) 82 11) + 1)) 82 16)) 82 15 0) 82 17 0) 82 18).toNatClampNeg) dX11_readsRule_140 sh95 (p6 c1 c2 c3 c4) rfl ?_
          refine wp_aload_n (M := mX11_readsRule) (pc := 141) dX11_readsRule_141 rfl rfl ?_
          refine xs_callV (d := d + 6) (M := mX11_readsRule) (pc := 142) (As := []) (st := []) (c := 11) (ls' := [.ref 82]) dX11_readsRule_142 oX11_readsCondition nX11_readsCondition lX11_232 vX11_readsCondition sX11_readsCondition rfl sh82 (Nat.le_of_ble_eq_true rfl) rfl (Nat.le_of_ble_eq_true rfl) rfl ?_
          exact p7 c1 c2 c3 c4
        · refine wp_aload_n (M := mX11_readsRule) (pc := 119) dX11_readsRule_119 rfl rfl ?_
          refine xs_callV (d := d + 6) (M := mX11_readsRule) (pc := 120) (As := []) (st := []) (c := 11) (ls' := [.ref 82, .null, .null]) dX11_readsRule_120 oX11_readsSum nX11_readsSum lX11_214 vX11_readsSum sX11_readsSum rfl sh82 (Nat.le_of_ble_eq_true rfl) rfl (Nat.le_of_ble_eq_true rfl) rfl ?_
          exact p8 c1 c2 c3 c4
    · refine wp_aload_n (M := mX11_readsRule) (pc := 54) dX11_readsRule_54 rfl rfl ?_
      refine wp_iconst (M := mX11_readsRule) (pc := 55) dX11_readsRule_55 k_iconst_4 ?_
      refine wp_aload_n (M := mX11_readsRule) (pc := 56) dX11_readsRule_56 rfl rfl ?_
      refine xs_geti (M := mX11_readsRule) (pc := 57) dX11_readsRule_57 fX11_152 sh82 rfl ?_
      refine xs_callV (d := d + 6) (M := mX11_readsRule) (pc := 60) (As := [.int 4, .int (f 82 11)]) (st := []) (c := 11) (ls' := [.ref 82, .int 4, .int (f 82 11)]) dX11_readsRule_60 oX11_wrongAt nX11_wrongAt lX11_165 vX11_wrongAt sX11_wrongAt rfl sh82 (Nat.le_of_ble_eq_true rfl) rfl (Nat.le_of_ble_eq_true rfl) rfl ?_
      exact p9 c1 c2
  · refine wp_iload_n (M := mX11_readsRule) (pc := 11) dX11_readsRule_11 rfl rfl ?_
    refine wp_bipush (M := mX11_readsRule) (pc := 12) dX11_readsRule_12 k_bipush_119 ?_
    refine wp_icmp_eq (M := mX11_readsRule) (pc := 14) (t := 45) dX11_readsRule_14 (by decide) (fun c5 => ?_) (fun c5 => ?_)
    · refine wp_aload_n (M := mX11_readsRule) (pc := 45) dX11_readsRule_45 rfl rfl ?_
      refine xs_geti (M := mX11_readsRule) (pc := 46) dX11_readsRule_46 fX11_229 sh82 rfl ?_
      refine wp_bipush (M := mX11_readsRule) (pc := 49) dX11_readsRule_49 k_bipush_16 ?_
      refine wp_icmp_ne (M := mX11_readsRule) (pc := 51) (t := 64) dX11_readsRule_51 (by decide) (fun c6 => ?_) (fun c6 => ?_)
      · refine wp_aload_n (M := mX11_readsRule) (pc := 64) dX11_readsRule_64 rfl rfl ?_
        refine xs_getr (M := mX11_readsRule) (pc := 65) (r := 93) dX11_readsRule_65 fX11_41 sh82 rfl (gr82_22 sw) ?_
        refine wp_aload_n (M := mX11_readsRule) (pc := 68) dX11_readsRule_68 rfl rfl ?_
        refine xs_geti (M := mX11_readsRule) (pc := 69) dX11_readsRule_69 fX11_229 sh82 rfl ?_
        refine wp_iload_n (M := mX11_readsRule) (pc := 72) dX11_readsRule_72 rfl rfl ?_
        refine xs_iast (M := mX11_readsRule) (pc := 73) (j := (f 82 18).toNatClampNeg) dX11_readsRule_73 sh93 (p10 c1 c5 c6) rfl ?_
        refine wp_aload_n (M := mX11_readsRule) (pc := 74) dX11_readsRule_74 rfl rfl ?_
        refine wp_aload_n (M := mX11_readsRule) (pc := 75) dX11_readsRule_75 rfl rfl ?_
        refine xs_geti (M := mX11_readsRule) (pc := 76) dX11_readsRule_76 fX11_152 sh82 rfl ?_
        refine wp_iconst (M := mX11_readsRule) (pc := 79) dX11_readsRule_79 k_iconst_1 ?_
        refine wp_iadd (M := mX11_readsRule) (pc := 80) dX11_readsRule_80 ?_
        refine xs_puti (M := mX11_readsRule) (pc := 81) dX11_readsRule_81 pX11_152 sh82 rfl ?_
        refine wp_aload_n (M := mX11_readsRule) (pc := 84) dX11_readsRule_84 rfl rfl ?_
        refine xs_getr (M := mX11_readsRule) (pc := 85) (r := 94) dX11_readsRule_85 fX11_44 sh82 rfl (gr82_23 sw) ?_
        refine wp_aload_n (M := mX11_readsRule) (pc := 88) dX11_readsRule_88 rfl rfl ?_
        refine xs_geti (M := mX11_readsRule) (pc := 89) dX11_readsRule_89 fX11_229 sh82 rfl ?_
        refine wp_aload_n (M := mX11_readsRule) (pc := 92) dX11_readsRule_92 rfl rfl ?_
        refine xs_geti (M := mX11_readsRule) (pc := 93) dX11_readsRule_93 fX11_175 sh82 rfl ?_
        refine xs_iast (M := mX11_readsRule) (pc := 96) (j := ((upd2 (upd2 f 93 ((f 82 18).toNatClampNeg) (hereF f)) 82 11 (((upd2 f 93 ((f 82 18).toNatClampNeg) (hereF f)) 82 11) + 1)) 82 18).toNatClampNeg) dX11_readsRule_96 sh94 (p11 c1 c5 c6) rfl ?_
        refine wp_aload_n (M := mX11_readsRule) (pc := 97) dX11_readsRule_97 rfl rfl ?_
        refine wp_iconst (M := mX11_readsRule) (pc := 98) dX11_readsRule_98 k_iconst_0 ?_
        refine xs_puti (M := mX11_readsRule) (pc := 99) dX11_readsRule_99 pX11_179 sh82 rfl ?_
        refine wp_aload_n (M := mX11_readsRule) (pc := 102) dX11_readsRule_102 rfl rfl ?_
        refine wp_iconst (M := mX11_readsRule) (pc := 103) dX11_readsRule_103 k_iconst_0 ?_
        refine xs_puti (M := mX11_readsRule) (pc := 104) dX11_readsRule_104 pX11_182 sh82 rfl ?_
        refine wp_iload_n (M := mX11_readsRule) (pc := 107) dX11_readsRule_107 rfl rfl ?_
        refine wp_bipush (M := mX11_readsRule) (pc := 108) dX11_readsRule_108 k_bipush_118 ?_
        refine wp_icmp_eq (M := mX11_readsRule) (pc := 110) (t := 128) dX11_readsRule_110 (by decide) (fun c7 => ?_) (fun c7 => ?_)
        · refine wp_aload_n (M := mX11_readsRule) (pc := 128) dX11_readsRule_128 rfl rfl ?_
          refine xs_getr (M := mX11_readsRule) (pc := 129) (r := 95) dX11_readsRule_129 fX11_47 sh82 rfl (gr82_24 sw) ?_
          refine wp_aload_n (M := mX11_readsRule) (pc := 132) dX11_readsRule_132 rfl rfl ?_
          refine xs_geti (M := mX11_readsRule) (pc := 133) dX11_readsRule_133 fX11_229 sh82 rfl ?_
          refine wp_aload_n (M := mX11_readsRule) (pc := 136) dX11_readsRule_136 rfl rfl ?_
          refine xs_geti (M := mX11_readsRule) (pc := 137) dX11_readsRule_137 fX11_175 sh82 rfl ?_
          refine xs_iast (M := mX11_readsRule) (pc := 140) (j := ((upd2 (upd2 (upd2 (upd2 (upd2 f 93 ((f 82 18).toNatClampNeg) (hereF f)) 82 11 (((upd2 f 93 ((f 82 18).toNatClampNeg) (hereF f)) 82 11) + 1)) 94 (((upd2 (upd2 f 93 ((f 82 18).toNatClampNeg) (hereF f)) 82 11 (((upd2 f 93 ((f 82 18).toNatClampNeg) (hereF f)) 82 11) + 1)) 82 18).toNatClampNeg) ((upd2 (upd2 f 93 ((f 82 18).toNatClampNeg) (hereF f)) 82 11 (((upd2 f 93 ((f 82 18).toNatClampNeg) (hereF f)) 82 11) + 1)) 82 16)) 82 15 0) 82 17 0) 82 18).toNatClampNeg) dX11_readsRule_140 sh95 (p12 c1 c5 c6 c7) rfl ?_
          refine wp_aload_n (M := mX11_readsRule) (pc := 141) dX11_readsRule_141 rfl rfl ?_
          refine xs_callV (d := d + 6) (M := mX11_readsRule) (pc := 142) (As := []) (st := []) (c := 11) (ls' := [.ref 82]) dX11_readsRule_142 oX11_readsCondition nX11_readsCondition lX11_232 vX11_readsCondition sX11_readsCondition rfl sh82 (Nat.le_of_ble_eq_true rfl) rfl (Nat.le_of_ble_eq_true rfl) rfl ?_
          exact p13 c1 c5 c6 c7
        · refine wp_iload_n (M := mX11_readsRule) (pc := 113) dX11_readsRule_113 rfl rfl ?_
          refine wp_bipush (M := mX11_readsRule) (pc := 114) dX11_readsRule_114 k_bipush_120 ?_
          refine wp_icmp_eq (M := mX11_readsRule) (pc := 116) (t := 128) dX11_readsRule_116 (by decide) (fun c8 => ?_) (fun c8 => ?_)
          · refine wp_aload_n (M := mX11_readsRule) (pc := 128) dX11_readsRule_128 rfl rfl ?_
            refine xs_getr (M := mX11_readsRule) (pc := 129) (r := 95) dX11_readsRule_129 fX11_47 sh82 rfl (gr82_24 sw) ?_
            refine wp_aload_n (M := mX11_readsRule) (pc := 132) dX11_readsRule_132 rfl rfl ?_
            refine xs_geti (M := mX11_readsRule) (pc := 133) dX11_readsRule_133 fX11_229 sh82 rfl ?_
            refine wp_aload_n (M := mX11_readsRule) (pc := 136) dX11_readsRule_136 rfl rfl ?_
            refine xs_geti (M := mX11_readsRule) (pc := 137) dX11_readsRule_137 fX11_175 sh82 rfl ?_
            refine xs_iast (M := mX11_readsRule) (pc := 140) (j := ((upd2 (upd2 (upd2 (upd2 (upd2 f 93 ((f 82 18).toNatClampNeg) (hereF f)) 82 11 (((upd2 f 93 ((f 82 18).toNatClampNeg) (hereF f)) 82 11) + 1)) 94 (((upd2 (upd2 f 93 ((f 82 18).toNatClampNeg) (hereF f)) 82 11 (((upd2 f 93 ((f 82 18).toNatClampNeg) (hereF f)) 82 11) + 1)) 82 18).toNatClampNeg) ((upd2 (upd2 f 93 ((f 82 18).toNatClampNeg) (hereF f)) 82 11 (((upd2 f 93 ((f 82 18).toNatClampNeg) (hereF f)) 82 11) + 1)) 82 16)) 82 15 0) 82 17 0) 82 18).toNatClampNeg) dX11_readsRule_140 sh95 (p14 c1 c5 c6 c7 c8) rfl ?_
            refine wp_aload_n (M := mX11_readsRule) (pc := 141) dX11_readsRule_141 rfl rfl ?_
            refine xs_callV (d := d + 6) (M := mX11_readsRule) (pc := 142) (As := []) (st := []) (c := 11) (ls' := [.ref 82]) dX11_readsRule_142 oX11_readsCondition nX11_readsCondition lX11_232 vX11_readsCondition sX11_readsCondition rfl sh82 (Nat.le_of_ble_eq_true rfl) rfl (Nat.le_of_ble_eq_true rfl) rfl ?_
            exact p15 c1 c5 c6 c7 c8
          · refine wp_aload_n (M := mX11_readsRule) (pc := 119) dX11_readsRule_119 rfl rfl ?_
            refine xs_callV (d := d + 6) (M := mX11_readsRule) (pc := 120) (As := []) (st := []) (c := 11) (ls' := [.ref 82, .null, .null]) dX11_readsRule_120 oX11_readsSum nX11_readsSum lX11_214 vX11_readsSum sX11_readsSum rfl sh82 (Nat.le_of_ble_eq_true rfl) rfl (Nat.le_of_ble_eq_true rfl) rfl ?_
            exact p16 c1 c5 c6 c7 c8
      · refine wp_aload_n (M := mX11_readsRule) (pc := 54) dX11_readsRule_54 rfl rfl ?_
        refine wp_iconst (M := mX11_readsRule) (pc := 55) dX11_readsRule_55 k_iconst_4 ?_
        refine wp_aload_n (M := mX11_readsRule) (pc := 56) dX11_readsRule_56 rfl rfl ?_
        refine xs_geti (M := mX11_readsRule) (pc := 57) dX11_readsRule_57 fX11_152 sh82 rfl ?_
        refine xs_callV (d := d + 6) (M := mX11_readsRule) (pc := 60) (As := [.int 4, .int (f 82 11)]) (st := []) (c := 11) (ls' := [.ref 82, .int 4, .int (f 82 11)]) dX11_readsRule_60 oX11_wrongAt nX11_wrongAt lX11_165 vX11_wrongAt sX11_wrongAt rfl sh82 (Nat.le_of_ble_eq_true rfl) rfl (Nat.le_of_ble_eq_true rfl) rfl ?_
        exact p17 c1 c5 c6
    · refine wp_iload_n (M := mX11_readsRule) (pc := 17) dX11_readsRule_17 rfl rfl ?_
      refine wp_bipush (M := mX11_readsRule) (pc := 18) dX11_readsRule_18 k_bipush_108 ?_
      refine wp_icmp_eq (M := mX11_readsRule) (pc := 20) (t := 45) dX11_readsRule_20 (by decide) (fun c9 => ?_) (fun c9 => ?_)
      · refine wp_aload_n (M := mX11_readsRule) (pc := 45) dX11_readsRule_45 rfl rfl ?_
        refine xs_geti (M := mX11_readsRule) (pc := 46) dX11_readsRule_46 fX11_229 sh82 rfl ?_
        refine wp_bipush (M := mX11_readsRule) (pc := 49) dX11_readsRule_49 k_bipush_16 ?_
        refine wp_icmp_ne (M := mX11_readsRule) (pc := 51) (t := 64) dX11_readsRule_51 (by decide) (fun c10 => ?_) (fun c10 => ?_)
        · refine wp_aload_n (M := mX11_readsRule) (pc := 64) dX11_readsRule_64 rfl rfl ?_
          refine xs_getr (M := mX11_readsRule) (pc := 65) (r := 93) dX11_readsRule_65 fX11_41 sh82 rfl (gr82_22 sw) ?_
          refine wp_aload_n (M := mX11_readsRule) (pc := 68) dX11_readsRule_68 rfl rfl ?_
          refine xs_geti (M := mX11_readsRule) (pc := 69) dX11_readsRule_69 fX11_229 sh82 rfl ?_
          refine wp_iload_n (M := mX11_readsRule) (pc := 72) dX11_readsRule_72 rfl rfl ?_
          refine xs_iast (M := mX11_readsRule) (pc := 73) (j := (f 82 18).toNatClampNeg) dX11_readsRule_73 sh93 (p18 c1 c5 c9 c10) rfl ?_
          refine wp_aload_n (M := mX11_readsRule) (pc := 74) dX11_readsRule_74 rfl rfl ?_
          refine wp_aload_n (M := mX11_readsRule) (pc := 75) dX11_readsRule_75 rfl rfl ?_
          refine xs_geti (M := mX11_readsRule) (pc := 76) dX11_readsRule_76 fX11_152 sh82 rfl ?_
          refine wp_iconst (M := mX11_readsRule) (pc := 79) dX11_readsRule_79 k_iconst_1 ?_
          refine wp_iadd (M := mX11_readsRule) (pc := 80) dX11_readsRule_80 ?_
          refine xs_puti (M := mX11_readsRule) (pc := 81) dX11_readsRule_81 pX11_152 sh82 rfl ?_
          refine wp_aload_n (M := mX11_readsRule) (pc := 84) dX11_readsRule_84 rfl rfl ?_
          refine xs_getr (M := mX11_readsRule) (pc := 85) (r := 94) dX11_readsRule_85 fX11_44 sh82 rfl (gr82_23 sw) ?_
          refine wp_aload_n (M := mX11_readsRule) (pc := 88) dX11_readsRule_88 rfl rfl ?_
          refine xs_geti (M := mX11_readsRule) (pc := 89) dX11_readsRule_89 fX11_229 sh82 rfl ?_
          refine wp_aload_n (M := mX11_readsRule) (pc := 92) dX11_readsRule_92 rfl rfl ?_
          refine xs_geti (M := mX11_readsRule) (pc := 93) dX11_readsRule_93 fX11_175 sh82 rfl ?_
          refine xs_iast (M := mX11_readsRule) (pc := 96) (j := ((upd2 (upd2 f 93 ((f 82 18).toNatClampNeg) (hereF f)) 82 11 (((upd2 f 93 ((f 82 18).toNatClampNeg) (hereF f)) 82 11) + 1)) 82 18).toNatClampNeg) dX11_readsRule_96 sh94 (p19 c1 c5 c9 c10) rfl ?_
          refine wp_aload_n (M := mX11_readsRule) (pc := 97) dX11_readsRule_97 rfl rfl ?_
          refine wp_iconst (M := mX11_readsRule) (pc := 98) dX11_readsRule_98 k_iconst_0 ?_
          refine xs_puti (M := mX11_readsRule) (pc := 99) dX11_readsRule_99 pX11_179 sh82 rfl ?_
          refine wp_aload_n (M := mX11_readsRule) (pc := 102) dX11_readsRule_102 rfl rfl ?_
          refine wp_iconst (M := mX11_readsRule) (pc := 103) dX11_readsRule_103 k_iconst_0 ?_
          refine xs_puti (M := mX11_readsRule) (pc := 104) dX11_readsRule_104 pX11_182 sh82 rfl ?_
          refine wp_iload_n (M := mX11_readsRule) (pc := 107) dX11_readsRule_107 rfl rfl ?_
          refine wp_bipush (M := mX11_readsRule) (pc := 108) dX11_readsRule_108 k_bipush_118 ?_
          refine wp_icmp_eq (M := mX11_readsRule) (pc := 110) (t := 128) dX11_readsRule_110 (by decide) (fun c11 => ?_) (fun c11 => ?_)
          · refine wp_aload_n (M := mX11_readsRule) (pc := 128) dX11_readsRule_128 rfl rfl ?_
            refine xs_getr (M := mX11_readsRule) (pc := 129) (r := 95) dX11_readsRule_129 fX11_47 sh82 rfl (gr82_24 sw) ?_
            refine wp_aload_n (M := mX11_readsRule) (pc := 132) dX11_readsRule_132 rfl rfl ?_
            refine xs_geti (M := mX11_readsRule) (pc := 133) dX11_readsRule_133 fX11_229 sh82 rfl ?_
            refine wp_aload_n (M := mX11_readsRule) (pc := 136) dX11_readsRule_136 rfl rfl ?_
            refine xs_geti (M := mX11_readsRule) (pc := 137) dX11_readsRule_137 fX11_175 sh82 rfl ?_
            refine xs_iast (M := mX11_readsRule) (pc := 140) (j := ((upd2 (upd2 (upd2 (upd2 (upd2 f 93 ((f 82 18).toNatClampNeg) (hereF f)) 82 11 (((upd2 f 93 ((f 82 18).toNatClampNeg) (hereF f)) 82 11) + 1)) 94 (((upd2 (upd2 f 93 ((f 82 18).toNatClampNeg) (hereF f)) 82 11 (((upd2 f 93 ((f 82 18).toNatClampNeg) (hereF f)) 82 11) + 1)) 82 18).toNatClampNeg) ((upd2 (upd2 f 93 ((f 82 18).toNatClampNeg) (hereF f)) 82 11 (((upd2 f 93 ((f 82 18).toNatClampNeg) (hereF f)) 82 11) + 1)) 82 16)) 82 15 0) 82 17 0) 82 18).toNatClampNeg) dX11_readsRule_140 sh95 (p20 c1 c5 c9 c10 c11) rfl ?_
            refine wp_aload_n (M := mX11_readsRule) (pc := 141) dX11_readsRule_141 rfl rfl ?_
            refine xs_callV (d := d + 6) (M := mX11_readsRule) (pc := 142) (As := []) (st := []) (c := 11) (ls' := [.ref 82]) dX11_readsRule_142 oX11_readsCondition nX11_readsCondition lX11_232 vX11_readsCondition sX11_readsCondition rfl sh82 (Nat.le_of_ble_eq_true rfl) rfl (Nat.le_of_ble_eq_true rfl) rfl ?_
            exact p21 c1 c5 c9 c10 c11
          · refine wp_iload_n (M := mX11_readsRule) (pc := 113) dX11_readsRule_113 rfl rfl ?_
            refine wp_bipush (M := mX11_readsRule) (pc := 114) dX11_readsRule_114 k_bipush_120 ?_
            refine wp_icmp_eq (M := mX11_readsRule) (pc := 116) (t := 128) dX11_readsRule_116 (by decide) (fun c12 => ?_) (fun c12 => ?_)
            · refine wp_aload_n (M := mX11_readsRule) (pc := 128) dX11_readsRule_128 rfl rfl ?_
              refine xs_getr (M := mX11_readsRule) (pc := 129) (r := 95) dX11_readsRule_129 fX11_47 sh82 rfl (gr82_24 sw) ?_
              refine wp_aload_n (M := mX11_readsRule) (pc := 132) dX11_readsRule_132 rfl rfl ?_
              refine xs_geti (M := mX11_readsRule) (pc := 133) dX11_readsRule_133 fX11_229 sh82 rfl ?_
              refine wp_aload_n (M := mX11_readsRule) (pc := 136) dX11_readsRule_136 rfl rfl ?_
              refine xs_geti (M := mX11_readsRule) (pc := 137) dX11_readsRule_137 fX11_175 sh82 rfl ?_
              refine xs_iast (M := mX11_readsRule) (pc := 140) (j := ((upd2 (upd2 (upd2 (upd2 (upd2 f 93 ((f 82 18).toNatClampNeg) (hereF f)) 82 11 (((upd2 f 93 ((f 82 18).toNatClampNeg) (hereF f)) 82 11) + 1)) 94 (((upd2 (upd2 f 93 ((f 82 18).toNatClampNeg) (hereF f)) 82 11 (((upd2 f 93 ((f 82 18).toNatClampNeg) (hereF f)) 82 11) + 1)) 82 18).toNatClampNeg) ((upd2 (upd2 f 93 ((f 82 18).toNatClampNeg) (hereF f)) 82 11 (((upd2 f 93 ((f 82 18).toNatClampNeg) (hereF f)) 82 11) + 1)) 82 16)) 82 15 0) 82 17 0) 82 18).toNatClampNeg) dX11_readsRule_140 sh95 (p22 c1 c5 c9 c10 c11 c12) rfl ?_
              refine wp_aload_n (M := mX11_readsRule) (pc := 141) dX11_readsRule_141 rfl rfl ?_
              refine xs_callV (d := d + 6) (M := mX11_readsRule) (pc := 142) (As := []) (st := []) (c := 11) (ls' := [.ref 82]) dX11_readsRule_142 oX11_readsCondition nX11_readsCondition lX11_232 vX11_readsCondition sX11_readsCondition rfl sh82 (Nat.le_of_ble_eq_true rfl) rfl (Nat.le_of_ble_eq_true rfl) rfl ?_
              exact p23 c1 c5 c9 c10 c11 c12
            · refine wp_aload_n (M := mX11_readsRule) (pc := 119) dX11_readsRule_119 rfl rfl ?_
              refine xs_callV (d := d + 6) (M := mX11_readsRule) (pc := 120) (As := []) (st := []) (c := 11) (ls' := [.ref 82, .null, .null]) dX11_readsRule_120 oX11_readsSum nX11_readsSum lX11_214 vX11_readsSum sX11_readsSum rfl sh82 (Nat.le_of_ble_eq_true rfl) rfl (Nat.le_of_ble_eq_true rfl) rfl ?_
              exact p24 c1 c5 c9 c10 c11 c12
        · refine wp_aload_n (M := mX11_readsRule) (pc := 54) dX11_readsRule_54 rfl rfl ?_
          refine wp_iconst (M := mX11_readsRule) (pc := 55) dX11_readsRule_55 k_iconst_4 ?_
          refine wp_aload_n (M := mX11_readsRule) (pc := 56) dX11_readsRule_56 rfl rfl ?_
          refine xs_geti (M := mX11_readsRule) (pc := 57) dX11_readsRule_57 fX11_152 sh82 rfl ?_
          refine xs_callV (d := d + 6) (M := mX11_readsRule) (pc := 60) (As := [.int 4, .int (f 82 11)]) (st := []) (c := 11) (ls' := [.ref 82, .int 4, .int (f 82 11)]) dX11_readsRule_60 oX11_wrongAt nX11_wrongAt lX11_165 vX11_wrongAt sX11_wrongAt rfl sh82 (Nat.le_of_ble_eq_true rfl) rfl (Nat.le_of_ble_eq_true rfl) rfl ?_
          exact p25 c1 c5 c9 c10
      · refine wp_iload_n (M := mX11_readsRule) (pc := 23) dX11_readsRule_23 rfl rfl ?_
        refine wp_bipush (M := mX11_readsRule) (pc := 24) dX11_readsRule_24 k_bipush_118 ?_
        refine wp_icmp_eq (M := mX11_readsRule) (pc := 26) (t := 45) dX11_readsRule_26 (by decide) (fun c13 => ?_) (fun c13 => ?_)
        · refine wp_aload_n (M := mX11_readsRule) (pc := 45) dX11_readsRule_45 rfl rfl ?_
          refine xs_geti (M := mX11_readsRule) (pc := 46) dX11_readsRule_46 fX11_229 sh82 rfl ?_
          refine wp_bipush (M := mX11_readsRule) (pc := 49) dX11_readsRule_49 k_bipush_16 ?_
          refine wp_icmp_ne (M := mX11_readsRule) (pc := 51) (t := 64) dX11_readsRule_51 (by decide) (fun c14 => ?_) (fun c14 => ?_)
          · refine wp_aload_n (M := mX11_readsRule) (pc := 64) dX11_readsRule_64 rfl rfl ?_
            refine xs_getr (M := mX11_readsRule) (pc := 65) (r := 93) dX11_readsRule_65 fX11_41 sh82 rfl (gr82_22 sw) ?_
            refine wp_aload_n (M := mX11_readsRule) (pc := 68) dX11_readsRule_68 rfl rfl ?_
            refine xs_geti (M := mX11_readsRule) (pc := 69) dX11_readsRule_69 fX11_229 sh82 rfl ?_
            refine wp_iload_n (M := mX11_readsRule) (pc := 72) dX11_readsRule_72 rfl rfl ?_
            refine xs_iast (M := mX11_readsRule) (pc := 73) (j := (f 82 18).toNatClampNeg) dX11_readsRule_73 sh93 (p26 c1 c5 c9 c13 c14) rfl ?_
            refine wp_aload_n (M := mX11_readsRule) (pc := 74) dX11_readsRule_74 rfl rfl ?_
            refine wp_aload_n (M := mX11_readsRule) (pc := 75) dX11_readsRule_75 rfl rfl ?_
            refine xs_geti (M := mX11_readsRule) (pc := 76) dX11_readsRule_76 fX11_152 sh82 rfl ?_
            refine wp_iconst (M := mX11_readsRule) (pc := 79) dX11_readsRule_79 k_iconst_1 ?_
            refine wp_iadd (M := mX11_readsRule) (pc := 80) dX11_readsRule_80 ?_
            refine xs_puti (M := mX11_readsRule) (pc := 81) dX11_readsRule_81 pX11_152 sh82 rfl ?_
            refine wp_aload_n (M := mX11_readsRule) (pc := 84) dX11_readsRule_84 rfl rfl ?_
            refine xs_getr (M := mX11_readsRule) (pc := 85) (r := 94) dX11_readsRule_85 fX11_44 sh82 rfl (gr82_23 sw) ?_
            refine wp_aload_n (M := mX11_readsRule) (pc := 88) dX11_readsRule_88 rfl rfl ?_
            refine xs_geti (M := mX11_readsRule) (pc := 89) dX11_readsRule_89 fX11_229 sh82 rfl ?_
            refine wp_aload_n (M := mX11_readsRule) (pc := 92) dX11_readsRule_92 rfl rfl ?_
            refine xs_geti (M := mX11_readsRule) (pc := 93) dX11_readsRule_93 fX11_175 sh82 rfl ?_
            refine xs_iast (M := mX11_readsRule) (pc := 96) (j := ((upd2 (upd2 f 93 ((f 82 18).toNatClampNeg) (hereF f)) 82 11 (((upd2 f 93 ((f 82 18).toNatClampNeg) (hereF f)) 82 11) + 1)) 82 18).toNatClampNeg) dX11_readsRule_96 sh94 (p27 c1 c5 c9 c13 c14) rfl ?_
            refine wp_aload_n (M := mX11_readsRule) (pc := 97) dX11_readsRule_97 rfl rfl ?_
            refine wp_iconst (M := mX11_readsRule) (pc := 98) dX11_readsRule_98 k_iconst_0 ?_
            refine xs_puti (M := mX11_readsRule) (pc := 99) dX11_readsRule_99 pX11_179 sh82 rfl ?_
            refine wp_aload_n (M := mX11_readsRule) (pc := 102) dX11_readsRule_102 rfl rfl ?_
            refine wp_iconst (M := mX11_readsRule) (pc := 103) dX11_readsRule_103 k_iconst_0 ?_
            refine xs_puti (M := mX11_readsRule) (pc := 104) dX11_readsRule_104 pX11_182 sh82 rfl ?_
            refine wp_iload_n (M := mX11_readsRule) (pc := 107) dX11_readsRule_107 rfl rfl ?_
            refine wp_bipush (M := mX11_readsRule) (pc := 108) dX11_readsRule_108 k_bipush_118 ?_
            refine wp_icmp_eq (M := mX11_readsRule) (pc := 110) (t := 128) dX11_readsRule_110 (by decide) (fun c15 => ?_) (fun c15 => ?_)
            · refine wp_aload_n (M := mX11_readsRule) (pc := 128) dX11_readsRule_128 rfl rfl ?_
              refine xs_getr (M := mX11_readsRule) (pc := 129) (r := 95) dX11_readsRule_129 fX11_47 sh82 rfl (gr82_24 sw) ?_
              refine wp_aload_n (M := mX11_readsRule) (pc := 132) dX11_readsRule_132 rfl rfl ?_
              refine xs_geti (M := mX11_readsRule) (pc := 133) dX11_readsRule_133 fX11_229 sh82 rfl ?_
              refine wp_aload_n (M := mX11_readsRule) (pc := 136) dX11_readsRule_136 rfl rfl ?_
              refine xs_geti (M := mX11_readsRule) (pc := 137) dX11_readsRule_137 fX11_175 sh82 rfl ?_
              refine xs_iast (M := mX11_readsRule) (pc := 140) (j := ((upd2 (upd2 (upd2 (upd2 (upd2 f 93 ((f 82 18).toNatClampNeg) (hereF f)) 82 11 (((upd2 f 93 ((f 82 18).toNatClampNeg) (hereF f)) 82 11) + 1)) 94 (((upd2 (upd2 f 93 ((f 82 18).toNatClampNeg) (hereF f)) 82 11 (((upd2 f 93 ((f 82 18).toNatClampNeg) (hereF f)) 82 11) + 1)) 82 18).toNatClampNeg) ((upd2 (upd2 f 93 ((f 82 18).toNatClampNeg) (hereF f)) 82 11 (((upd2 f 93 ((f 82 18).toNatClampNeg) (hereF f)) 82 11) + 1)) 82 16)) 82 15 0) 82 17 0) 82 18).toNatClampNeg) dX11_readsRule_140 sh95 (p28 c1 c5 c9 c13 c14 c15) rfl ?_
              refine wp_aload_n (M := mX11_readsRule) (pc := 141) dX11_readsRule_141 rfl rfl ?_
              refine xs_callV (d := d + 6) (M := mX11_readsRule) (pc := 142) (As := []) (st := []) (c := 11) (ls' := [.ref 82]) dX11_readsRule_142 oX11_readsCondition nX11_readsCondition lX11_232 vX11_readsCondition sX11_readsCondition rfl sh82 (Nat.le_of_ble_eq_true rfl) rfl (Nat.le_of_ble_eq_true rfl) rfl ?_
              exact p29 c1 c5 c9 c13 c14 c15
            · refine wp_iload_n (M := mX11_readsRule) (pc := 113) dX11_readsRule_113 rfl rfl ?_
              refine wp_bipush (M := mX11_readsRule) (pc := 114) dX11_readsRule_114 k_bipush_120 ?_
              refine wp_icmp_eq (M := mX11_readsRule) (pc := 116) (t := 128) dX11_readsRule_116 (by decide) (fun c16 => ?_) (fun c16 => ?_)
              · refine wp_aload_n (M := mX11_readsRule) (pc := 128) dX11_readsRule_128 rfl rfl ?_
                refine xs_getr (M := mX11_readsRule) (pc := 129) (r := 95) dX11_readsRule_129 fX11_47 sh82 rfl (gr82_24 sw) ?_
                refine wp_aload_n (M := mX11_readsRule) (pc := 132) dX11_readsRule_132 rfl rfl ?_
                refine xs_geti (M := mX11_readsRule) (pc := 133) dX11_readsRule_133 fX11_229 sh82 rfl ?_
                refine wp_aload_n (M := mX11_readsRule) (pc := 136) dX11_readsRule_136 rfl rfl ?_
                refine xs_geti (M := mX11_readsRule) (pc := 137) dX11_readsRule_137 fX11_175 sh82 rfl ?_
                refine xs_iast (M := mX11_readsRule) (pc := 140) (j := ((upd2 (upd2 (upd2 (upd2 (upd2 f 93 ((f 82 18).toNatClampNeg) (hereF f)) 82 11 (((upd2 f 93 ((f 82 18).toNatClampNeg) (hereF f)) 82 11) + 1)) 94 (((upd2 (upd2 f 93 ((f 82 18).toNatClampNeg) (hereF f)) 82 11 (((upd2 f 93 ((f 82 18).toNatClampNeg) (hereF f)) 82 11) + 1)) 82 18).toNatClampNeg) ((upd2 (upd2 f 93 ((f 82 18).toNatClampNeg) (hereF f)) 82 11 (((upd2 f 93 ((f 82 18).toNatClampNeg) (hereF f)) 82 11) + 1)) 82 16)) 82 15 0) 82 17 0) 82 18).toNatClampNeg) dX11_readsRule_140 sh95 (p30 c1 c5 c9 c13 c14 c15 c16) rfl ?_
                refine wp_aload_n (M := mX11_readsRule) (pc := 141) dX11_readsRule_141 rfl rfl ?_
                refine xs_callV (d := d + 6) (M := mX11_readsRule) (pc := 142) (As := []) (st := []) (c := 11) (ls' := [.ref 82]) dX11_readsRule_142 oX11_readsCondition nX11_readsCondition lX11_232 vX11_readsCondition sX11_readsCondition rfl sh82 (Nat.le_of_ble_eq_true rfl) rfl (Nat.le_of_ble_eq_true rfl) rfl ?_
                exact p31 c1 c5 c9 c13 c14 c15 c16
              · refine wp_aload_n (M := mX11_readsRule) (pc := 119) dX11_readsRule_119 rfl rfl ?_
                refine xs_callV (d := d + 6) (M := mX11_readsRule) (pc := 120) (As := []) (st := []) (c := 11) (ls' := [.ref 82, .null, .null]) dX11_readsRule_120 oX11_readsSum nX11_readsSum lX11_214 vX11_readsSum sX11_readsSum rfl sh82 (Nat.le_of_ble_eq_true rfl) rfl (Nat.le_of_ble_eq_true rfl) rfl ?_
                exact p32 c1 c5 c9 c13 c14 c15 c16
          · refine wp_aload_n (M := mX11_readsRule) (pc := 54) dX11_readsRule_54 rfl rfl ?_
            refine wp_iconst (M := mX11_readsRule) (pc := 55) dX11_readsRule_55 k_iconst_4 ?_
            refine wp_aload_n (M := mX11_readsRule) (pc := 56) dX11_readsRule_56 rfl rfl ?_
            refine xs_geti (M := mX11_readsRule) (pc := 57) dX11_readsRule_57 fX11_152 sh82 rfl ?_
            refine xs_callV (d := d + 6) (M := mX11_readsRule) (pc := 60) (As := [.int 4, .int (f 82 11)]) (st := []) (c := 11) (ls' := [.ref 82, .int 4, .int (f 82 11)]) dX11_readsRule_60 oX11_wrongAt nX11_wrongAt lX11_165 vX11_wrongAt sX11_wrongAt rfl sh82 (Nat.le_of_ble_eq_true rfl) rfl (Nat.le_of_ble_eq_true rfl) rfl ?_
            exact p33 c1 c5 c9 c13 c14
        · refine wp_iload_n (M := mX11_readsRule) (pc := 29) dX11_readsRule_29 rfl rfl ?_
          refine wp_bipush (M := mX11_readsRule) (pc := 30) dX11_readsRule_30 k_bipush_120 ?_
          refine wp_icmp_eq (M := mX11_readsRule) (pc := 32) (t := 45) dX11_readsRule_32 (by decide) (fun c17 => ?_) (fun c17 => ?_)
          · refine wp_aload_n (M := mX11_readsRule) (pc := 45) dX11_readsRule_45 rfl rfl ?_
            refine xs_geti (M := mX11_readsRule) (pc := 46) dX11_readsRule_46 fX11_229 sh82 rfl ?_
            refine wp_bipush (M := mX11_readsRule) (pc := 49) dX11_readsRule_49 k_bipush_16 ?_
            refine wp_icmp_ne (M := mX11_readsRule) (pc := 51) (t := 64) dX11_readsRule_51 (by decide) (fun c18 => ?_) (fun c18 => ?_)
            · refine wp_aload_n (M := mX11_readsRule) (pc := 64) dX11_readsRule_64 rfl rfl ?_
              refine xs_getr (M := mX11_readsRule) (pc := 65) (r := 93) dX11_readsRule_65 fX11_41 sh82 rfl (gr82_22 sw) ?_
              refine wp_aload_n (M := mX11_readsRule) (pc := 68) dX11_readsRule_68 rfl rfl ?_
              refine xs_geti (M := mX11_readsRule) (pc := 69) dX11_readsRule_69 fX11_229 sh82 rfl ?_
              refine wp_iload_n (M := mX11_readsRule) (pc := 72) dX11_readsRule_72 rfl rfl ?_
              refine xs_iast (M := mX11_readsRule) (pc := 73) (j := (f 82 18).toNatClampNeg) dX11_readsRule_73 sh93 (p34 c1 c5 c9 c13 c17 c18) rfl ?_
              refine wp_aload_n (M := mX11_readsRule) (pc := 74) dX11_readsRule_74 rfl rfl ?_
              refine wp_aload_n (M := mX11_readsRule) (pc := 75) dX11_readsRule_75 rfl rfl ?_
              refine xs_geti (M := mX11_readsRule) (pc := 76) dX11_readsRule_76 fX11_152 sh82 rfl ?_
              refine wp_iconst (M := mX11_readsRule) (pc := 79) dX11_readsRule_79 k_iconst_1 ?_
              refine wp_iadd (M := mX11_readsRule) (pc := 80) dX11_readsRule_80 ?_
              refine xs_puti (M := mX11_readsRule) (pc := 81) dX11_readsRule_81 pX11_152 sh82 rfl ?_
              refine wp_aload_n (M := mX11_readsRule) (pc := 84) dX11_readsRule_84 rfl rfl ?_
              refine xs_getr (M := mX11_readsRule) (pc := 85) (r := 94) dX11_readsRule_85 fX11_44 sh82 rfl (gr82_23 sw) ?_
              refine wp_aload_n (M := mX11_readsRule) (pc := 88) dX11_readsRule_88 rfl rfl ?_
              refine xs_geti (M := mX11_readsRule) (pc := 89) dX11_readsRule_89 fX11_229 sh82 rfl ?_
              refine wp_aload_n (M := mX11_readsRule) (pc := 92) dX11_readsRule_92 rfl rfl ?_
              refine xs_geti (M := mX11_readsRule) (pc := 93) dX11_readsRule_93 fX11_175 sh82 rfl ?_
              refine xs_iast (M := mX11_readsRule) (pc := 96) (j := ((upd2 (upd2 f 93 ((f 82 18).toNatClampNeg) (hereF f)) 82 11 (((upd2 f 93 ((f 82 18).toNatClampNeg) (hereF f)) 82 11) + 1)) 82 18).toNatClampNeg) dX11_readsRule_96 sh94 (p35 c1 c5 c9 c13 c17 c18) rfl ?_
              refine wp_aload_n (M := mX11_readsRule) (pc := 97) dX11_readsRule_97 rfl rfl ?_
              refine wp_iconst (M := mX11_readsRule) (pc := 98) dX11_readsRule_98 k_iconst_0 ?_
              refine xs_puti (M := mX11_readsRule) (pc := 99) dX11_readsRule_99 pX11_179 sh82 rfl ?_
              refine wp_aload_n (M := mX11_readsRule) (pc := 102) dX11_readsRule_102 rfl rfl ?_
              refine wp_iconst (M := mX11_readsRule) (pc := 103) dX11_readsRule_103 k_iconst_0 ?_
              refine xs_puti (M := mX11_readsRule) (pc := 104) dX11_readsRule_104 pX11_182 sh82 rfl ?_
              refine wp_iload_n (M := mX11_readsRule) (pc := 107) dX11_readsRule_107 rfl rfl ?_
              refine wp_bipush (M := mX11_readsRule) (pc := 108) dX11_readsRule_108 k_bipush_118 ?_
              refine wp_icmp_eq (M := mX11_readsRule) (pc := 110) (t := 128) dX11_readsRule_110 (by decide) (fun c19 => ?_) (fun c19 => ?_)
              · refine wp_aload_n (M := mX11_readsRule) (pc := 128) dX11_readsRule_128 rfl rfl ?_
                refine xs_getr (M := mX11_readsRule) (pc := 129) (r := 95) dX11_readsRule_129 fX11_47 sh82 rfl (gr82_24 sw) ?_
                refine wp_aload_n (M := mX11_readsRule) (pc := 132) dX11_readsRule_132 rfl rfl ?_
                refine xs_geti (M := mX11_readsRule) (pc := 133) dX11_readsRule_133 fX11_229 sh82 rfl ?_
                refine wp_aload_n (M := mX11_readsRule) (pc := 136) dX11_readsRule_136 rfl rfl ?_
                refine xs_geti (M := mX11_readsRule) (pc := 137) dX11_readsRule_137 fX11_175 sh82 rfl ?_
                refine xs_iast (M := mX11_readsRule) (pc := 140) (j := ((upd2 (upd2 (upd2 (upd2 (upd2 f 93 ((f 82 18).toNatClampNeg) (hereF f)) 82 11 (((upd2 f 93 ((f 82 18).toNatClampNeg) (hereF f)) 82 11) + 1)) 94 (((upd2 (upd2 f 93 ((f 82 18).toNatClampNeg) (hereF f)) 82 11 (((upd2 f 93 ((f 82 18).toNatClampNeg) (hereF f)) 82 11) + 1)) 82 18).toNatClampNeg) ((upd2 (upd2 f 93 ((f 82 18).toNatClampNeg) (hereF f)) 82 11 (((upd2 f 93 ((f 82 18).toNatClampNeg) (hereF f)) 82 11) + 1)) 82 16)) 82 15 0) 82 17 0) 82 18).toNatClampNeg) dX11_readsRule_140 sh95 (p36 c1 c5 c9 c13 c17 c18 c19) rfl ?_
                refine wp_aload_n (M := mX11_readsRule) (pc := 141) dX11_readsRule_141 rfl rfl ?_
                refine xs_callV (d := d + 6) (M := mX11_readsRule) (pc := 142) (As := []) (st := []) (c := 11) (ls' := [.ref 82]) dX11_readsRule_142 oX11_readsCondition nX11_readsCondition lX11_232 vX11_readsCondition sX11_readsCondition rfl sh82 (Nat.le_of_ble_eq_true rfl) rfl (Nat.le_of_ble_eq_true rfl) rfl ?_
                exact p37 c1 c5 c9 c13 c17 c18 c19
              · refine wp_iload_n (M := mX11_readsRule) (pc := 113) dX11_readsRule_113 rfl rfl ?_
                refine wp_bipush (M := mX11_readsRule) (pc := 114) dX11_readsRule_114 k_bipush_120 ?_
                refine wp_icmp_eq (M := mX11_readsRule) (pc := 116) (t := 128) dX11_readsRule_116 (by decide) (fun c20 => ?_) (fun c20 => ?_)
                · refine wp_aload_n (M := mX11_readsRule) (pc := 128) dX11_readsRule_128 rfl rfl ?_
                  refine xs_getr (M := mX11_readsRule) (pc := 129) (r := 95) dX11_readsRule_129 fX11_47 sh82 rfl (gr82_24 sw) ?_
                  refine wp_aload_n (M := mX11_readsRule) (pc := 132) dX11_readsRule_132 rfl rfl ?_
                  refine xs_geti (M := mX11_readsRule) (pc := 133) dX11_readsRule_133 fX11_229 sh82 rfl ?_
                  refine wp_aload_n (M := mX11_readsRule) (pc := 136) dX11_readsRule_136 rfl rfl ?_
                  refine xs_geti (M := mX11_readsRule) (pc := 137) dX11_readsRule_137 fX11_175 sh82 rfl ?_
                  refine xs_iast (M := mX11_readsRule) (pc := 140) (j := ((upd2 (upd2 (upd2 (upd2 (upd2 f 93 ((f 82 18).toNatClampNeg) (hereF f)) 82 11 (((upd2 f 93 ((f 82 18).toNatClampNeg) (hereF f)) 82 11) + 1)) 94 (((upd2 (upd2 f 93 ((f 82 18).toNatClampNeg) (hereF f)) 82 11 (((upd2 f 93 ((f 82 18).toNatClampNeg) (hereF f)) 82 11) + 1)) 82 18).toNatClampNeg) ((upd2 (upd2 f 93 ((f 82 18).toNatClampNeg) (hereF f)) 82 11 (((upd2 f 93 ((f 82 18).toNatClampNeg) (hereF f)) 82 11) + 1)) 82 16)) 82 15 0) 82 17 0) 82 18).toNatClampNeg) dX11_readsRule_140 sh95 (p38 c1 c5 c9 c13 c17 c18 c19 c20) rfl ?_
                  refine wp_aload_n (M := mX11_readsRule) (pc := 141) dX11_readsRule_141 rfl rfl ?_
                  refine xs_callV (d := d + 6) (M := mX11_readsRule) (pc := 142) (As := []) (st := []) (c := 11) (ls' := [.ref 82]) dX11_readsRule_142 oX11_readsCondition nX11_readsCondition lX11_232 vX11_readsCondition sX11_readsCondition rfl sh82 (Nat.le_of_ble_eq_true rfl) rfl (Nat.le_of_ble_eq_true rfl) rfl ?_
                  exact p39 c1 c5 c9 c13 c17 c18 c19 c20
                · refine wp_aload_n (M := mX11_readsRule) (pc := 119) dX11_readsRule_119 rfl rfl ?_
                  refine xs_callV (d := d + 6) (M := mX11_readsRule) (pc := 120) (As := []) (st := []) (c := 11) (ls' := [.ref 82, .null, .null]) dX11_readsRule_120 oX11_readsSum nX11_readsSum lX11_214 vX11_readsSum sX11_readsSum rfl sh82 (Nat.le_of_ble_eq_true rfl) rfl (Nat.le_of_ble_eq_true rfl) rfl ?_
                  exact p40 c1 c5 c9 c13 c17 c18 c19 c20
            · refine wp_aload_n (M := mX11_readsRule) (pc := 54) dX11_readsRule_54 rfl rfl ?_
              refine wp_iconst (M := mX11_readsRule) (pc := 55) dX11_readsRule_55 k_iconst_4 ?_
              refine wp_aload_n (M := mX11_readsRule) (pc := 56) dX11_readsRule_56 rfl rfl ?_
              refine xs_geti (M := mX11_readsRule) (pc := 57) dX11_readsRule_57 fX11_152 sh82 rfl ?_
              refine xs_callV (d := d + 6) (M := mX11_readsRule) (pc := 60) (As := [.int 4, .int (f 82 11)]) (st := []) (c := 11) (ls' := [.ref 82, .int 4, .int (f 82 11)]) dX11_readsRule_60 oX11_wrongAt nX11_wrongAt lX11_165 vX11_wrongAt sX11_wrongAt rfl sh82 (Nat.le_of_ble_eq_true rfl) rfl (Nat.le_of_ble_eq_true rfl) rfl ?_
              exact p41 c1 c5 c9 c13 c17 c18
          · refine wp_aload_n (M := mX11_readsRule) (pc := 35) dX11_readsRule_35 rfl rfl ?_
            refine wp_iconst (M := mX11_readsRule) (pc := 36) dX11_readsRule_36 k_iconst_1 ?_
            refine wp_aload_n (M := mX11_readsRule) (pc := 37) dX11_readsRule_37 rfl rfl ?_
            refine xs_geti (M := mX11_readsRule) (pc := 38) dX11_readsRule_38 fX11_152 sh82 rfl ?_
            refine xs_callV (d := d + 6) (M := mX11_readsRule) (pc := 41) (As := [.int 1, .int (f 82 11)]) (st := []) (c := 11) (ls' := [.ref 82, .int 1, .int (f 82 11)]) dX11_readsRule_41 oX11_wrongAt nX11_wrongAt lX11_165 vX11_wrongAt sX11_wrongAt rfl sh82 (Nat.le_of_ble_eq_true rfl) rfl (Nat.le_of_ble_eq_true rfl) rfl ?_
            exact p42 c1 c5 c9 c13 c17
theorem bX11_readsRule_44 {G : GC} {d : Nat} {sw : Bool} {f : FF} {Q : QQ} {x1 : Int32} {s0 : Int32} (p1 : s0 = 0 ∨ s0 = 1) (p2 : Q (some (.int s0)) sw f) : XP G mX11_readsRule (d + 7) 44 [.ref 82, .int x1] [.int s0] sw f Q := by
  exact xs_zret (M := mX11_readsRule) (pc := 44) dX11_readsRule_44 rfl (p1) (p2)
theorem bX11_readsRule_63 {G : GC} {d : Nat} {sw : Bool} {f : FF} {Q : QQ} {x1 : Int32} {s0 : Int32} (p1 : s0 = 0 ∨ s0 = 1) (p2 : Q (some (.int s0)) sw f) : XP G mX11_readsRule (d + 7) 63 [.ref 82, .int x1] [.int s0] sw f Q := by
  exact xs_zret (M := mX11_readsRule) (pc := 63) dX11_readsRule_63 rfl (p1) (p2)
theorem bX11_readsRule_123 {G : GC} {d : Nat} {sw : Bool} {f : FF} {Q : QQ} {x1 : Int32} {s0 : Int32} (p1 : (¬ s0 = 0) → vp_in (f 82 18) 16) (p2 : (¬ s0 = 0) → XP G mX11_readsCondition (d + 6) 0 [.ref 82] [] sw (upd2 f 95 ((f 82 18).toNatClampNeg) (f 82 16)) (fun v sw' f' => XP G mX11_readsRule (d + 7) 145 [.ref 82, .int x1] (retst v []) sw' f' Q)) (p3 : (s0 = 0) → Q (some (.int 0)) sw f) : XP G mX11_readsRule (d + 7) 123 [.ref 82, .int x1] [.int s0] sw f Q := by
  refine wp_if_ne (M := mX11_readsRule) (pc := 123) (t := 128) dX11_readsRule_123 (by decide) (fun c1 => ?_) (fun c1 => ?_)
  · refine wp_aload_n (M := mX11_readsRule) (pc := 128) dX11_readsRule_128 rfl rfl ?_
    refine xs_getr (M := mX11_readsRule) (pc := 129) (r := 95) dX11_readsRule_129 fX11_47 sh82 rfl (gr82_24 sw) ?_
    refine wp_aload_n (M := mX11_readsRule) (pc := 132) dX11_readsRule_132 rfl rfl ?_
    refine xs_geti (M := mX11_readsRule) (pc := 133) dX11_readsRule_133 fX11_229 sh82 rfl ?_
    refine wp_aload_n (M := mX11_readsRule) (pc := 136) dX11_readsRule_136 rfl rfl ?_
    refine xs_geti (M := mX11_readsRule) (pc := 137) dX11_readsRule_137 fX11_175 sh82 rfl ?_
    refine xs_iast (M := mX11_readsRule) (pc := 140) (j := (f 82 18).toNatClampNeg) dX11_readsRule_140 sh95 (p1 c1) rfl ?_
    refine wp_aload_n (M := mX11_readsRule) (pc := 141) dX11_readsRule_141 rfl rfl ?_
    refine xs_callV (d := d + 6) (M := mX11_readsRule) (pc := 142) (As := []) (st := []) (c := 11) (ls' := [.ref 82]) dX11_readsRule_142 oX11_readsCondition nX11_readsCondition lX11_232 vX11_readsCondition sX11_readsCondition rfl sh82 (Nat.le_of_ble_eq_true rfl) rfl (Nat.le_of_ble_eq_true rfl) rfl ?_
    exact p2 c1
  · refine wp_iconst (M := mX11_readsRule) (pc := 126) dX11_readsRule_126 k_iconst_0 ?_
    exact xs_zret (M := mX11_readsRule) (pc := 127) dX11_readsRule_127 rfl (by decide) (p3 c1)
theorem bX11_readsRule_145 {G : GC} {d : Nat} {sw : Bool} {f : FF} {Q : QQ} {x1 : Int32} {s0 : Int32} (p1 : (¬ s0 = 0) → vp_in (f 82 18) 16) (p2 : (¬ s0 = 0) → Q (some (.int 1)) sw (upd2 (upd2 f 96 ((f 82 18).toNatClampNeg) (f 82 16)) 82 18 (((upd2 f 96 ((f 82 18).toNatClampNeg) (f 82 16)) 82 18) + 1))) (p3 : (s0 = 0) → Q (some (.int 0)) sw f) : XP G mX11_readsRule (d + 7) 145 [.ref 82, .int x1] [.int s0] sw f Q := by
  refine wp_if_ne (M := mX11_readsRule) (pc := 145) (t := 150) dX11_readsRule_145 (by decide) (fun c1 => ?_) (fun c1 => ?_)
  · refine wp_aload_n (M := mX11_readsRule) (pc := 150) dX11_readsRule_150 rfl rfl ?_
    refine xs_getr (M := mX11_readsRule) (pc := 151) (r := 96) dX11_readsRule_151 fX11_50 sh82 rfl (gr82_25 sw) ?_
    refine wp_aload_n (M := mX11_readsRule) (pc := 154) dX11_readsRule_154 rfl rfl ?_
    refine xs_geti (M := mX11_readsRule) (pc := 155) dX11_readsRule_155 fX11_229 sh82 rfl ?_
    refine wp_aload_n (M := mX11_readsRule) (pc := 158) dX11_readsRule_158 rfl rfl ?_
    refine xs_geti (M := mX11_readsRule) (pc := 159) dX11_readsRule_159 fX11_175 sh82 rfl ?_
    refine xs_iast (M := mX11_readsRule) (pc := 162) (j := (f 82 18).toNatClampNeg) dX11_readsRule_162 sh96 (p1 c1) rfl ?_
    refine wp_aload_n (M := mX11_readsRule) (pc := 163) dX11_readsRule_163 rfl rfl ?_
    refine wp_aload_n (M := mX11_readsRule) (pc := 164) dX11_readsRule_164 rfl rfl ?_
    refine xs_geti (M := mX11_readsRule) (pc := 165) dX11_readsRule_165 fX11_229 sh82 rfl ?_
    refine wp_iconst (M := mX11_readsRule) (pc := 168) dX11_readsRule_168 k_iconst_1 ?_
    refine wp_iadd (M := mX11_readsRule) (pc := 169) dX11_readsRule_169 ?_
    refine xs_puti (M := mX11_readsRule) (pc := 170) dX11_readsRule_170 pX11_229 sh82 rfl ?_
    refine wp_iconst (M := mX11_readsRule) (pc := 173) dX11_readsRule_173 k_iconst_1 ?_
    exact xs_zret (M := mX11_readsRule) (pc := 174) dX11_readsRule_174 rfl (by decide) (p2 c1)
  · refine wp_iconst (M := mX11_readsRule) (pc := 148) dX11_readsRule_148 k_iconst_0 ?_
    exact xs_zret (M := mX11_readsRule) (pc := 149) dX11_readsRule_149 rfl (by decide) (p3 c1)
theorem bX11_wrongAt_0 {G : GC} {d : Nat} {sw : Bool} {f : FF} {Q : QQ} {x1 : Int32} {x2 : Int32} (p1 : Q (some (.int 0)) sw (upd2 f 82 13 (((-1000) * x1) - x2))) : XP G mX11_wrongAt (d) 0 [.ref 82, .int x1, .int x2] [] sw f Q := by
  refine wp_aload_n (M := mX11_wrongAt) (pc := 0) dX11_wrongAt_0 rfl rfl ?_
  refine wp_sipush (M := mX11_wrongAt) (pc := 1) dX11_wrongAt_1 k_sipush_m1000 ?_
  refine wp_iload_n (M := mX11_wrongAt) (pc := 4) dX11_wrongAt_4 rfl rfl ?_
  refine wp_imul (M := mX11_wrongAt) (pc := 5) dX11_wrongAt_5 ?_
  refine wp_iload_n (M := mX11_wrongAt) (pc := 6) dX11_wrongAt_6 rfl rfl ?_
  refine wp_isub (M := mX11_wrongAt) (pc := 7) dX11_wrongAt_7 ?_
  refine xs_puti (M := mX11_wrongAt) (pc := 8) dX11_wrongAt_8 pX11_162 sh82 rfl ?_
  refine wp_iconst (M := mX11_wrongAt) (pc := 11) dX11_wrongAt_11 k_iconst_0 ?_
  exact xs_zret (M := mX11_wrongAt) (pc := 12) dX11_wrongAt_12 rfl (by decide) (p1)
theorem bX11_readsSum_0 {G : GC} {d : Nat} {sw : Bool} {f : FF} {Q : QQ}  (p1 : XP G mX11_readsFactor (d + 3) 0 [.ref 82, .null] [] sw f (fun v sw' f' => XP G mX11_readsSum (d + 4) 9 [.ref 82, .int (f 82 17), .null] (retst v []) sw' f' Q)) : XP G mX11_readsSum (d + 4) 0 [.ref 82, .null, .null] [] sw f Q := by
  refine wp_aload_n (M := mX11_readsSum) (pc := 0) dX11_readsSum_0 rfl rfl ?_
  refine xs_geti (M := mX11_readsSum) (pc := 1) dX11_readsSum_1 fX11_182 sh82 rfl ?_
  refine wp_istore_n (M := mX11_readsSum) (pc := 4) (ls' := [.ref 82, .int (f 82 17), .null]) dX11_readsSum_4 rfl (by decide) rfl ?_
  refine wp_aload_n (M := mX11_readsSum) (pc := 5) dX11_readsSum_5 rfl rfl ?_
  refine xs_callV (d := d + 3) (M := mX11_readsSum) (pc := 6) (As := []) (st := []) (c := 11) (ls' := [.ref 82, .null]) dX11_readsSum_6 oX11_readsFactor nX11_readsFactor lX11_201 vX11_readsFactor sX11_readsFactor rfl sh82 (Nat.le_of_ble_eq_true rfl) rfl (Nat.le_of_ble_eq_true rfl) rfl ?_
  exact p1
theorem bX11_readsSum_9 {G : GC} {d : Nat} {sw : Bool} {f : FF} {Q : QQ} {x1 : Int32} {v2 : Value} {s0 : Int32} (p1 : (¬ s0 = 0) → XP G mX11_readsSum (d + 4) 14 [.ref 82, .int x1, v2] [] sw f Q) (p2 : (s0 = 0) → Q (some (.int 0)) sw f) : XP G mX11_readsSum (d + 4) 9 [.ref 82, .int x1, v2] [.int s0] sw f Q := by
  refine wp_if_ne (M := mX11_readsSum) (pc := 9) (t := 14) dX11_readsSum_9 (by decide) (fun c1 => ?_) (fun c1 => ?_)
  · exact p1 c1
  · refine wp_iconst (M := mX11_readsSum) (pc := 12) dX11_readsSum_12 k_iconst_0 ?_
    exact xs_zret (M := mX11_readsSum) (pc := 13) dX11_readsSum_13 rfl (by decide) (p2 c1)
theorem bX11_readsSum_14 {G : GC} {d : Nat} {sw : Bool} {f : FF} {Q : QQ} {x1 : Int32} {v2 : Value} (p1 : f 82 11 < f 82 12 → vp_in (f 82 11) 260) (p2 : XP G mX11_sumSign (d + 3) 0 [.int (hereF f)] [] sw f (fun v sw' f' => XP G mX11_readsSum (d + 4) 21 [.ref 82, .int x1, v2] (retst v []) sw' f' Q)) : XP G mX11_readsSum (d + 4) 14 [.ref 82, .int x1, v2] [] sw f Q := by
  refine wp_aload_n (M := mX11_readsSum) (pc := 14) dX11_readsSum_14 rfl rfl ?_
  refine xs_callV (d := d + 3) (M := mX11_readsSum) (pc := 15) (As := []) (st := []) (c := 11) (ls' := [.ref 82]) dX11_readsSum_15 oX11_here nX11_here lX11_158 vX11_here sX11_here rfl sh82 (Nat.le_of_ble_eq_true rfl) rfl (Nat.le_of_ble_eq_true rfl) rfl ?_
  refine sp_X11_here  (p1) ?_
  refine xs_callS (d := d + 3) (M := mX11_readsSum) (pc := 18) (As := [.int (hereF f)]) (st := []) (ls' := [.int (hereF f)]) dX11_readsSum_18 oX11_sumSign nX11_sumSign lX11_204 tX11_sumSign (Nat.le_of_ble_eq_true rfl) rfl (Nat.le_of_ble_eq_true rfl) rfl ?_
  exact p2
theorem bX11_readsSum_21 {G : GC} {d : Nat} {sw : Bool} {f : FF} {Q : QQ} {x1 : Int32} {v2 : Value} {s0 : Int32} (p1 : (s0 = (-1)) → f 82 11 < f 82 12 → vp_in (f 82 11) 260) (p2 : (s0 = (-1)) → (¬ (hereF f) = 93) → XP G mX11_hasOpenSum (d + 3) 0 [.ref 82, .int x1, .null] [] sw f (fun v sw' f' => XP G mX11_readsSum (d + 4) 143 [.ref 82, .int x1, .int s0] (retst v []) sw' f' Q)) (p3 : (s0 = (-1)) → ((hereF f) = 93) → XP G mX11_hasOpenSum (d + 3) 0 [.ref 82, .int x1, .null] [] sw f (fun v sw' f' => XP G mX11_readsSum (d + 4) 97 [.ref 82, .int x1, .int s0] (retst v []) sw' f' Q)) (p4 : (¬ s0 = (-1)) → (4 ≤ s0) → XP G mX11_closesSums (d + 3) 0 [.ref 82, .int 0] [] sw f (fun v sw' f' => XP G mX11_readsSum (d + 4) 41 [.ref 82, .int x1, .int s0] (retst v []) sw' f' Q)) (p5 : (¬ s0 = (-1)) → (¬ 4 ≤ s0) → XP G mX11_closesSums (d + 3) 0 [.ref 82, .int 1] [] sw f (fun v sw' f' => XP G mX11_readsSum (d + 4) 41 [.ref 82, .int x1, .int s0] (retst v []) sw' f' Q)) : XP G mX11_readsSum (d + 4) 21 [.ref 82, .int x1, v2] [.int s0] sw f Q := by
  refine wp_istore_n (M := mX11_readsSum) (pc := 21) (ls' := [.ref 82, .int x1, .int s0]) dX11_readsSum_21 rfl (by decide) rfl ?_
  refine wp_iload_n (M := mX11_readsSum) (pc := 22) dX11_readsSum_22 rfl rfl ?_
  refine wp_iconst (M := mX11_readsSum) (pc := 23) dX11_readsSum_23 k_iconst_m1 ?_
  refine wp_icmp_eq (M := mX11_readsSum) (pc := 24) (t := 83) dX11_readsSum_24 (by decide) (fun c1 => ?_) (fun c1 => ?_)
  · refine wp_aload_n (M := mX11_readsSum) (pc := 83) dX11_readsSum_83 rfl rfl ?_
    refine xs_callV (d := d + 3) (M := mX11_readsSum) (pc := 84) (As := []) (st := []) (c := 11) (ls' := [.ref 82]) dX11_readsSum_84 oX11_here nX11_here lX11_158 vX11_here sX11_here rfl sh82 (Nat.le_of_ble_eq_true rfl) rfl (Nat.le_of_ble_eq_true rfl) rfl ?_
    refine sp_X11_here  (p1 c1) ?_
    refine wp_bipush (M := mX11_readsSum) (pc := 87) dX11_readsSum_87 k_bipush_93 ?_
    refine wp_icmp_ne (M := mX11_readsSum) (pc := 89) (t := 138) dX11_readsSum_89 (by decide) (fun c2 => ?_) (fun c2 => ?_)
    · refine wp_aload_n (M := mX11_readsSum) (pc := 138) dX11_readsSum_138 rfl rfl ?_
      refine wp_iload_n (M := mX11_readsSum) (pc := 139) dX11_readsSum_139 rfl rfl ?_
      refine xs_callV (d := d + 3) (M := mX11_readsSum) (pc := 140) (As := [.int x1]) (st := []) (c := 11) (ls' := [.ref 82, .int x1, .null]) dX11_readsSum_140 oX11_hasOpenSum nX11_hasOpenSum lX11_211 vX11_hasOpenSum sX11_hasOpenSum rfl sh82 (Nat.le_of_ble_eq_true rfl) rfl (Nat.le_of_ble_eq_true rfl) rfl ?_
      exact p2 c1 c2
    · refine wp_aload_n (M := mX11_readsSum) (pc := 92) dX11_readsSum_92 rfl rfl ?_
      refine wp_iload_n (M := mX11_readsSum) (pc := 93) dX11_readsSum_93 rfl rfl ?_
      refine xs_callV (d := d + 3) (M := mX11_readsSum) (pc := 94) (As := [.int x1]) (st := []) (c := 11) (ls' := [.ref 82, .int x1, .null]) dX11_readsSum_94 oX11_hasOpenSum nX11_hasOpenSum lX11_211 vX11_hasOpenSum sX11_hasOpenSum rfl sh82 (Nat.le_of_ble_eq_true rfl) rfl (Nat.le_of_ble_eq_true rfl) rfl ?_
      exact p3 c1 c2
  · refine wp_aload_n (M := mX11_readsSum) (pc := 27) dX11_readsSum_27 rfl rfl ?_
    refine wp_iload_n (M := mX11_readsSum) (pc := 28) dX11_readsSum_28 rfl rfl ?_
    refine wp_iconst (M := mX11_readsSum) (pc := 29) dX11_readsSum_29 k_iconst_4 ?_
    refine wp_icmp_ge (M := mX11_readsSum) (pc := 30) (t := 37) dX11_readsSum_30 (by decide) (fun c3 => ?_) (fun c3 => ?_)
    · refine wp_iconst (M := mX11_readsSum) (pc := 37) dX11_readsSum_37 k_iconst_0 ?_
      refine xs_callV (d := d + 3) (M := mX11_readsSum) (pc := 38) (As := [.int 0]) (st := []) (c := 11) (ls' := [.ref 82, .int 0]) dX11_readsSum_38 oX11_closesSums nX11_closesSums lX11_207 vX11_closesSums sX11_closesSums rfl sh82 (Nat.le_of_ble_eq_true rfl) rfl (Nat.le_of_ble_eq_true rfl) rfl ?_
      exact p4 c1 c3
    · refine wp_iconst (M := mX11_readsSum) (pc := 33) dX11_readsSum_33 k_iconst_1 ?_
      refine wp_goto (M := mX11_readsSum) (pc := 34) (t := 38) dX11_readsSum_34 (by decide) ?_
      refine xs_callV (d := d + 3) (M := mX11_readsSum) (pc := 38) (As := [.int 1]) (st := []) (c := 11) (ls' := [.ref 82, .int 1]) dX11_readsSum_38 oX11_closesSums nX11_closesSums lX11_207 vX11_closesSums sX11_closesSums rfl sh82 (Nat.le_of_ble_eq_true rfl) rfl (Nat.le_of_ble_eq_true rfl) rfl ?_
      exact p5 c1 c3
theorem bX11_readsSum_41 {G : GC} {d : Nat} {sw : Bool} {f : FF} {Q : QQ} {x1 : Int32} {x2 : Int32} (p1 : vp_in (f 82 17) 260) (p2 : XP G mX11_readsFactor (d + 3) 0 [.ref 82, .null] [] sw (upd2 (upd2 (upd2 f 92 ((f 82 17).toNatClampNeg) (1048576 * x2)) 82 17 (((upd2 f 92 ((f 82 17).toNatClampNeg) (1048576 * x2)) 82 17) + 1)) 82 11 (((upd2 (upd2 f 92 ((f 82 17).toNatClampNeg) (1048576 * x2)) 82 17 (((upd2 f 92 ((f 82 17).toNatClampNeg) (1048576 * x2)) 82 17) + 1)) 82 11) + 1)) (fun v sw' f' => XP G mX11_readsSum (d + 4) 78 [.ref 82, .int x1, .int x2] (retst v []) sw' f' Q)) : XP G mX11_readsSum (d + 4) 41 [.ref 82, .int x1, .int x2] [] sw f Q := by
  refine wp_aload_n (M := mX11_readsSum) (pc := 41) dX11_readsSum_41 rfl rfl ?_
  refine xs_getr (M := mX11_readsSum) (pc := 42) (r := 92) dX11_readsSum_42 fX11_38 sh82 rfl (gr82_21 sw) ?_
  refine wp_aload_n (M := mX11_readsSum) (pc := 45) dX11_readsSum_45 rfl rfl ?_
  refine xs_geti (M := mX11_readsSum) (pc := 46) dX11_readsSum_46 fX11_182 sh82 rfl ?_
  refine wp_ldc (M := mX11_readsSum) (pc := 49) dX11_readsSum_49 kX11_178 ?_
  refine wp_iload_n (M := mX11_readsSum) (pc := 51) dX11_readsSum_51 rfl rfl ?_
  refine wp_imul (M := mX11_readsSum) (pc := 52) dX11_readsSum_52 ?_
  refine xs_iast (M := mX11_readsSum) (pc := 53) (j := (f 82 17).toNatClampNeg) dX11_readsSum_53 sh92 (p1) rfl ?_
  refine wp_aload_n (M := mX11_readsSum) (pc := 54) dX11_readsSum_54 rfl rfl ?_
  refine wp_aload_n (M := mX11_readsSum) (pc := 55) dX11_readsSum_55 rfl rfl ?_
  refine xs_geti (M := mX11_readsSum) (pc := 56) dX11_readsSum_56 fX11_182 sh82 rfl ?_
  refine wp_iconst (M := mX11_readsSum) (pc := 59) dX11_readsSum_59 k_iconst_1 ?_
  refine wp_iadd (M := mX11_readsSum) (pc := 60) dX11_readsSum_60 ?_
  refine xs_puti (M := mX11_readsSum) (pc := 61) dX11_readsSum_61 pX11_182 sh82 rfl ?_
  refine wp_aload_n (M := mX11_readsSum) (pc := 64) dX11_readsSum_64 rfl rfl ?_
  refine wp_aload_n (M := mX11_readsSum) (pc := 65) dX11_readsSum_65 rfl rfl ?_
  refine xs_geti (M := mX11_readsSum) (pc := 66) dX11_readsSum_66 fX11_152 sh82 rfl ?_
  refine wp_iconst (M := mX11_readsSum) (pc := 69) dX11_readsSum_69 k_iconst_1 ?_
  refine wp_iadd (M := mX11_readsSum) (pc := 70) dX11_readsSum_70 ?_
  refine xs_puti (M := mX11_readsSum) (pc := 71) dX11_readsSum_71 pX11_152 sh82 rfl ?_
  refine wp_aload_n (M := mX11_readsSum) (pc := 74) dX11_readsSum_74 rfl rfl ?_
  refine xs_callV (d := d + 3) (M := mX11_readsSum) (pc := 75) (As := []) (st := []) (c := 11) (ls' := [.ref 82, .null]) dX11_readsSum_75 oX11_readsFactor nX11_readsFactor lX11_201 vX11_readsFactor sX11_readsFactor rfl sh82 (Nat.le_of_ble_eq_true rfl) rfl (Nat.le_of_ble_eq_true rfl) rfl ?_
  exact p2
theorem bX11_readsSum_78 {G : GC} {d : Nat} {sw : Bool} {f : FF} {Q : QQ} {x1 : Int32} {x2 : Int32} {s0 : Int32} (p1 : (¬ s0 = 0) → XP G mX11_readsSum (d + 4) 14 [.ref 82, .int x1, .int x2] [] sw f Q) (p2 : (s0 = 0) → Q (some (.int 0)) sw f) : XP G mX11_readsSum (d + 4) 78 [.ref 82, .int x1, .int x2] [.int s0] sw f Q := by
  refine wp_if_ne (M := mX11_readsSum) (pc := 78) (t := 163) dX11_readsSum_78 (by decide) (fun c1 => ?_) (fun c1 => ?_)
  · refine wp_goto (M := mX11_readsSum) (pc := 163) (t := 14) dX11_readsSum_163 (by decide) ?_
    exact p1 c1
  · refine wp_iconst (M := mX11_readsSum) (pc := 81) dX11_readsSum_81 k_iconst_0 ?_
    exact xs_zret (M := mX11_readsSum) (pc := 82) dX11_readsSum_82 rfl (by decide) (p2 c1)
theorem bX11_readsSum_97 {G : GC} {d : Nat} {sw : Bool} {f : FF} {Q : QQ} {x1 : Int32} {x2 : Int32} {s0 : Int32} (p1 : (s0 = 0) → XP G mX11_hasOpenSum (d + 3) 0 [.ref 82, .int x1, .null] [] sw f (fun v sw' f' => XP G mX11_readsSum (d + 4) 143 [.ref 82, .int x1, .int x2] (retst v []) sw' f' Q)) (p2 : (¬ s0 = 0) → XP G mX11_closesSums (d + 3) 0 [.ref 82, .int 1] [] sw f (fun v sw' f' => XP G mX11_readsSum (d + 4) 105 [.ref 82, .int x1, .int x2] (retst v []) sw' f' Q)) : XP G mX11_readsSum (d + 4) 97 [.ref 82, .int x1, .int x2] [.int s0] sw f Q := by
  refine wp_if_eq (M := mX11_readsSum) (pc := 97) (t := 138) dX11_readsSum_97 (by decide) (fun c1 => ?_) (fun c1 => ?_)
  · refine wp_aload_n (M := mX11_readsSum) (pc := 138) dX11_readsSum_138 rfl rfl ?_
    refine wp_iload_n (M := mX11_readsSum) (pc := 139) dX11_readsSum_139 rfl rfl ?_
    refine xs_callV (d := d + 3) (M := mX11_readsSum) (pc := 140) (As := [.int x1]) (st := []) (c := 11) (ls' := [.ref 82, .int x1, .null]) dX11_readsSum_140 oX11_hasOpenSum nX11_hasOpenSum lX11_211 vX11_hasOpenSum sX11_hasOpenSum rfl sh82 (Nat.le_of_ble_eq_true rfl) rfl (Nat.le_of_ble_eq_true rfl) rfl ?_
    exact p1 c1
  · refine wp_aload_n (M := mX11_readsSum) (pc := 100) dX11_readsSum_100 rfl rfl ?_
    refine wp_iconst (M := mX11_readsSum) (pc := 101) dX11_readsSum_101 k_iconst_1 ?_
    refine xs_callV (d := d + 3) (M := mX11_readsSum) (pc := 102) (As := [.int 1]) (st := []) (c := 11) (ls' := [.ref 82, .int 1]) dX11_readsSum_102 oX11_closesSums nX11_closesSums lX11_207 vX11_closesSums sX11_closesSums rfl sh82 (Nat.le_of_ble_eq_true rfl) rfl (Nat.le_of_ble_eq_true rfl) rfl ?_
    exact p2 c1
theorem bX11_readsSum_105 {G : GC} {d : Nat} {sw : Bool} {f : FF} {Q : QQ} {x1 : Int32} {x2 : Int32} (p1 : XP G mX11_readsSum (d + 4) 14 [.ref 82, .int x1, .int x2] [] sw (upd2 (upd2 (upd2 f 82 17 ((f 82 17) - 1)) 82 15 (((upd2 f 82 17 ((f 82 17) - 1)) 82 15) - 1)) 82 11 (((upd2 (upd2 f 82 17 ((f 82 17) - 1)) 82 15 (((upd2 f 82 17 ((f 82 17) - 1)) 82 15) - 1)) 82 11) + 1)) Q) : XP G mX11_readsSum (d + 4) 105 [.ref 82, .int x1, .int x2] [] sw f Q := by
  refine wp_aload_n (M := mX11_readsSum) (pc := 105) dX11_readsSum_105 rfl rfl ?_
  refine wp_aload_n (M := mX11_readsSum) (pc := 106) dX11_readsSum_106 rfl rfl ?_
  refine xs_geti (M := mX11_readsSum) (pc := 107) dX11_readsSum_107 fX11_182 sh82 rfl ?_
  refine wp_iconst (M := mX11_readsSum) (pc := 110) dX11_readsSum_110 k_iconst_1 ?_
  refine wp_isub (M := mX11_readsSum) (pc := 111) dX11_readsSum_111 ?_
  refine xs_puti (M := mX11_readsSum) (pc := 112) dX11_readsSum_112 pX11_182 sh82 rfl ?_
  refine wp_aload_n (M := mX11_readsSum) (pc := 115) dX11_readsSum_115 rfl rfl ?_
  refine wp_aload_n (M := mX11_readsSum) (pc := 116) dX11_readsSum_116 rfl rfl ?_
  refine xs_geti (M := mX11_readsSum) (pc := 117) dX11_readsSum_117 fX11_179 sh82 rfl ?_
  refine wp_iconst (M := mX11_readsSum) (pc := 120) dX11_readsSum_120 k_iconst_1 ?_
  refine wp_isub (M := mX11_readsSum) (pc := 121) dX11_readsSum_121 ?_
  refine xs_puti (M := mX11_readsSum) (pc := 122) dX11_readsSum_122 pX11_179 sh82 rfl ?_
  refine wp_aload_n (M := mX11_readsSum) (pc := 125) dX11_readsSum_125 rfl rfl ?_
  refine wp_aload_n (M := mX11_readsSum) (pc := 126) dX11_readsSum_126 rfl rfl ?_
  refine xs_geti (M := mX11_readsSum) (pc := 127) dX11_readsSum_127 fX11_152 sh82 rfl ?_
  refine wp_iconst (M := mX11_readsSum) (pc := 130) dX11_readsSum_130 k_iconst_1 ?_
  refine wp_iadd (M := mX11_readsSum) (pc := 131) dX11_readsSum_131 ?_
  refine xs_puti (M := mX11_readsSum) (pc := 132) dX11_readsSum_132 pX11_152 sh82 rfl ?_
  refine wp_goto (M := mX11_readsSum) (pc := 135) (t := 163) dX11_readsSum_135 (by decide) ?_
  refine wp_goto (M := mX11_readsSum) (pc := 163) (t := 14) dX11_readsSum_163 (by decide) ?_
  exact p1
theorem bX11_readsSum_143 {G : GC} {d : Nat} {sw : Bool} {f : FF} {Q : QQ} {x1 : Int32} {x2 : Int32} {s0 : Int32} (p1 : (s0 = 0) → XP G mX11_closesSums (d + 3) 0 [.ref 82, .int 1] [] sw f (fun v sw' f' => XP G mX11_readsSum (d + 4) 161 [.ref 82, .int x1, .int x2] (retst v []) sw' f' Q)) (p2 : (¬ s0 = 0) → XP G mX11_wrongAt (d + 3) 0 [.ref 82, .int 1, .int (f 82 11)] [] sw f (fun v sw' f' => XP G mX11_readsSum (d + 4) 155 [.ref 82, .int x1, .int x2] (retst v []) sw' f' Q)) : XP G mX11_readsSum (d + 4) 143 [.ref 82, .int x1, .int x2] [.int s0] sw f Q := by
  refine wp_if_eq (M := mX11_readsSum) (pc := 143) (t := 156) dX11_readsSum_143 (by decide) (fun c1 => ?_) (fun c1 => ?_)
  · refine wp_aload_n (M := mX11_readsSum) (pc := 156) dX11_readsSum_156 rfl rfl ?_
    refine wp_iconst (M := mX11_readsSum) (pc := 157) dX11_readsSum_157 k_iconst_1 ?_
    refine xs_callV (d := d + 3) (M := mX11_readsSum) (pc := 158) (As := [.int 1]) (st := []) (c := 11) (ls' := [.ref 82, .int 1]) dX11_readsSum_158 oX11_closesSums nX11_closesSums lX11_207 vX11_closesSums sX11_closesSums rfl sh82 (Nat.le_of_ble_eq_true rfl) rfl (Nat.le_of_ble_eq_true rfl) rfl ?_
    exact p1 c1
  · refine wp_aload_n (M := mX11_readsSum) (pc := 146) dX11_readsSum_146 rfl rfl ?_
    refine wp_iconst (M := mX11_readsSum) (pc := 147) dX11_readsSum_147 k_iconst_1 ?_
    refine wp_aload_n (M := mX11_readsSum) (pc := 148) dX11_readsSum_148 rfl rfl ?_
    refine xs_geti (M := mX11_readsSum) (pc := 149) dX11_readsSum_149 fX11_152 sh82 rfl ?_
    refine xs_callV (d := d + 3) (M := mX11_readsSum) (pc := 152) (As := [.int 1, .int (f 82 11)]) (st := []) (c := 11) (ls' := [.ref 82, .int 1, .int (f 82 11)]) dX11_readsSum_152 oX11_wrongAt nX11_wrongAt lX11_165 vX11_wrongAt sX11_wrongAt rfl sh82 (Nat.le_of_ble_eq_true rfl) rfl (Nat.le_of_ble_eq_true rfl) rfl ?_
    exact p2 c1
theorem bX11_readsSum_155 {G : GC} {d : Nat} {sw : Bool} {f : FF} {Q : QQ} {x1 : Int32} {x2 : Int32} {s0 : Int32} (p1 : s0 = 0 ∨ s0 = 1) (p2 : Q (some (.int s0)) sw f) : XP G mX11_readsSum (d + 4) 155 [.ref 82, .int x1, .int x2] [.int s0] sw f Q := by
  exact xs_zret (M := mX11_readsSum) (pc := 155) dX11_readsSum_155 rfl (p1) (p2)
theorem bX11_readsSum_161 {G : GC} {d : Nat} {sw : Bool} {f : FF} {Q : QQ} {x1 : Int32} {x2 : Int32} (p1 : Q (some (.int 1)) sw f) : XP G mX11_readsSum (d + 4) 161 [.ref 82, .int x1, .int x2] [] sw f Q := by
  refine wp_iconst (M := mX11_readsSum) (pc := 161) dX11_readsSum_161 k_iconst_1 ?_
  exact xs_zret (M := mX11_readsSum) (pc := 162) dX11_readsSum_162 rfl (by decide) (p1)
theorem bX11_readsFactor_0 {G : GC} {d : Nat} {sw : Bool} {f : FF} {Q : QQ} {v1 : Value} (p1 : f 82 11 < f 82 12 → vp_in (f 82 11) 260) (p2 : (¬ (hereF f) = 91) → f 82 11 < f 82 12 → vp_in (f 82 11) 260) (p3 : (¬ (hereF f) = 91) → (¬ (48 ≤ hereF f ∧ hereF f ≤ 57)) → f 82 11 < f 82 12 → vp_in (f 82 11) 260) (p4 : (¬ (hereF f) = 91) → (¬ (48 ≤ hereF f ∧ hereF f ≤ 57)) → XP G mX11_factOf (d + 2) 0 [.int (hereF f)] [] sw f (fun v sw' f' => XP G mX11_readsFactor (d + 3) 54 [.ref 82, v1] (retst v []) sw' f' Q)) (p5 : (¬ (hereF f) = 91) → (48 ≤ hereF f ∧ hereF f ≤ 57) → XP G mX11_readsNumber (d + 2) 0 [.ref 82, .null] [] sw f (fun v sw' f' => XP G mX11_readsFactor (d + 3) 31 [.ref 82, v1] (retst v []) sw' f' Q)) (p6 : ((hereF f) = 91) → XP G mX11_opens (d + 2) 0 [.ref 82, .int 14] [] sw f (fun v sw' f' => XP G mX11_readsFactor (d + 3) 15 [.ref 82, v1] (retst v []) sw' f' Q)) : XP G mX11_readsFactor (d + 3) 0 [.ref 82, v1] [] sw f Q := by
  refine wp_aload_n (M := mX11_readsFactor) (pc := 0) dX11_readsFactor_0 rfl rfl ?_
  refine xs_callV (d := d + 2) (M := mX11_readsFactor) (pc := 1) (As := []) (st := []) (c := 11) (ls' := [.ref 82]) dX11_readsFactor_1 oX11_here nX11_here lX11_158 vX11_here sX11_here rfl sh82 (Nat.le_of_ble_eq_true rfl) rfl (Nat.le_of_ble_eq_true rfl) rfl ?_
  refine sp_X11_here  (p1) ?_
  refine wp_bipush (M := mX11_readsFactor) (pc := 4) dX11_readsFactor_4 k_bipush_91 ?_
  refine wp_icmp_ne (M := mX11_readsFactor) (pc := 6) (t := 20) dX11_readsFactor_6 (by decide) (fun c1 => ?_) (fun c1 => ?_)
  · refine wp_aload_n (M := mX11_readsFactor) (pc := 20) dX11_readsFactor_20 rfl rfl ?_
    refine xs_callV (d := d + 2) (M := mX11_readsFactor) (pc := 21) (As := []) (st := []) (c := 11) (ls' := [.ref 82]) dX11_readsFactor_21 oX11_isDigit nX11_isDigit lX11_171 vX11_isDigit sX11_isDigit rfl sh82 (Nat.le_of_ble_eq_true rfl) rfl (Nat.le_of_ble_eq_true rfl) rfl ?_
    refine sp_X11_isDigit  (p2 c1) ?_
    refine xs_ifb_eq (M := mX11_readsFactor) (pc := 24) (t := 47) dX11_readsFactor_24 (by decide) (fun c2 => ?_) (fun c2 => ?_)
    · refine wp_aload_n (M := mX11_readsFactor) (pc := 47) dX11_readsFactor_47 rfl rfl ?_
      refine xs_callV (d := d + 2) (M := mX11_readsFactor) (pc := 48) (As := []) (st := []) (c := 11) (ls' := [.ref 82]) dX11_readsFactor_48 oX11_here nX11_here lX11_158 vX11_here sX11_here rfl sh82 (Nat.le_of_ble_eq_true rfl) rfl (Nat.le_of_ble_eq_true rfl) rfl ?_
      refine sp_X11_here  (p3 c1 c2) ?_
      refine xs_callS (d := d + 2) (M := mX11_readsFactor) (pc := 51) (As := [.int (hereF f)]) (st := []) (ls' := [.int (hereF f)]) dX11_readsFactor_51 oX11_factOf nX11_factOf lX11_198 tX11_factOf (Nat.le_of_ble_eq_true rfl) rfl (Nat.le_of_ble_eq_true rfl) rfl ?_
      exact p4 c1 c2
    · refine wp_aload_n (M := mX11_readsFactor) (pc := 27) dX11_readsFactor_27 rfl rfl ?_
      refine xs_callV (d := d + 2) (M := mX11_readsFactor) (pc := 28) (As := []) (st := []) (c := 11) (ls' := [.ref 82, .null]) dX11_readsFactor_28 oX11_readsNumber nX11_readsNumber lX11_195 vX11_readsNumber sX11_readsNumber rfl sh82 (Nat.le_of_ble_eq_true rfl) rfl (Nat.le_of_ble_eq_true rfl) rfl ?_
      exact p5 c1 c2
  · refine wp_aload_n (M := mX11_readsFactor) (pc := 9) dX11_readsFactor_9 rfl rfl ?_
    refine wp_bipush (M := mX11_readsFactor) (pc := 10) dX11_readsFactor_10 k_bipush_14 ?_
    refine xs_callV (d := d + 2) (M := mX11_readsFactor) (pc := 12) (As := [.int 14]) (st := []) (c := 11) (ls' := [.ref 82, .int 14]) dX11_readsFactor_12 oX11_opens nX11_opens lX11_192 vX11_opens sX11_opens rfl sh82 (Nat.le_of_ble_eq_true rfl) rfl (Nat.le_of_ble_eq_true rfl) rfl ?_
    exact p6 c1
theorem bX11_readsFactor_15 {G : GC} {d : Nat} {sw : Bool} {f : FF} {Q : QQ} {v1 : Value} {s0 : Int32} (p1 : (¬ s0 = 0) → XP G mX11_readsFactor (d + 3) 0 [.ref 82, v1] [] sw f Q) (p2 : (s0 = 0) → Q (some (.int 0)) sw f) : XP G mX11_readsFactor (d + 3) 15 [.ref 82, v1] [.int s0] sw f Q := by
  refine wp_if_ne (M := mX11_readsFactor) (pc := 15) (t := 0) dX11_readsFactor_15 (by decide) (fun c1 => ?_) (fun c1 => ?_)
  · exact p1 c1
  · refine wp_iconst (M := mX11_readsFactor) (pc := 18) dX11_readsFactor_18 k_iconst_0 ?_
    exact xs_zret (M := mX11_readsFactor) (pc := 19) dX11_readsFactor_19 rfl (by decide) (p2 c1)
theorem bX11_readsFactor_31 {G : GC} {d : Nat} {sw : Bool} {f : FF} {Q : QQ} {v1 : Value} {s0 : Int32} (p1 : (¬ s0 = 0) → XP G mX11_notes (d + 2) 0 [.ref 82, .int 0, .int (f 82 14)] [] sw f (fun v sw' f' => XP G mX11_readsFactor (d + 3) 45 [.ref 82, v1] (retst v []) sw' f' Q)) (p2 : (s0 = 0) → Q (some (.int 0)) sw f) : XP G mX11_readsFactor (d + 3) 31 [.ref 82, v1] [.int s0] sw f Q := by
  refine wp_if_ne (M := mX11_readsFactor) (pc := 31) (t := 36) dX11_readsFactor_31 (by decide) (fun c1 => ?_) (fun c1 => ?_)
  · refine wp_aload_n (M := mX11_readsFactor) (pc := 36) dX11_readsFactor_36 rfl rfl ?_
    refine wp_iconst (M := mX11_readsFactor) (pc := 37) dX11_readsFactor_37 k_iconst_0 ?_
    refine wp_aload_n (M := mX11_readsFactor) (pc := 38) dX11_readsFactor_38 rfl rfl ?_
    refine xs_geti (M := mX11_readsFactor) (pc := 39) dX11_readsFactor_39 fX11_168 sh82 rfl ?_
    refine xs_callV (d := d + 2) (M := mX11_readsFactor) (pc := 42) (As := [.int 0, .int (f 82 14)]) (st := []) (c := 11) (ls' := [.ref 82, .int 0, .int (f 82 14)]) dX11_readsFactor_42 oX11_notes nX11_notes lX11_188 vX11_notes sX11_notes rfl sh82 (Nat.le_of_ble_eq_true rfl) rfl (Nat.le_of_ble_eq_true rfl) rfl ?_
    exact p1 c1
  · refine wp_iconst (M := mX11_readsFactor) (pc := 34) dX11_readsFactor_34 k_iconst_0 ?_
    exact xs_zret (M := mX11_readsFactor) (pc := 35) dX11_readsFactor_35 rfl (by decide) (p2 c1)
theorem bX11_readsFactor_45 {G : GC} {d : Nat} {sw : Bool} {f : FF} {Q : QQ} {v1 : Value} (p1 : Q (some (.int 1)) sw f) : XP G mX11_readsFactor (d + 3) 45 [.ref 82, v1] [] sw f Q := by
  refine wp_iconst (M := mX11_readsFactor) (pc := 45) dX11_readsFactor_45 k_iconst_1 ?_
  exact xs_zret (M := mX11_readsFactor) (pc := 46) dX11_readsFactor_46 rfl (by decide) (p1)
theorem bX11_readsFactor_54 {G : GC} {d : Nat} {sw : Bool} {f : FF} {Q : QQ} {v1 : Value} {s0 : Int32} (p1 : (¬ s0 = (-1)) → XP G mX11_notes (d + 2) 0 [.ref 82, .int 1, .int s0] [] sw f (fun v sw' f' => XP G mX11_readsFactor (d + 3) 76 [.ref 82, .int s0] (retst v []) sw' f' Q)) (p2 : (s0 = (-1)) → XP G mX11_wrongAt (d + 2) 0 [.ref 82, .int 1, .int (f 82 11)] [] sw f (fun v sw' f' => XP G mX11_readsFactor (d + 3) 69 [.ref 82, .int s0] (retst v []) sw' f' Q)) : XP G mX11_readsFactor (d + 3) 54 [.ref 82, v1] [.int s0] sw f Q := by
  refine wp_istore_n (M := mX11_readsFactor) (pc := 54) (ls' := [.ref 82, .int s0]) dX11_readsFactor_54 rfl (by decide) rfl ?_
  refine wp_iload_n (M := mX11_readsFactor) (pc := 55) dX11_readsFactor_55 rfl rfl ?_
  refine wp_iconst (M := mX11_readsFactor) (pc := 56) dX11_readsFactor_56 k_iconst_m1 ?_
  refine wp_icmp_ne (M := mX11_readsFactor) (pc := 57) (t := 70) dX11_readsFactor_57 (by decide) (fun c1 => ?_) (fun c1 => ?_)
  · refine wp_aload_n (M := mX11_readsFactor) (pc := 70) dX11_readsFactor_70 rfl rfl ?_
    refine wp_iconst (M := mX11_readsFactor) (pc := 71) dX11_readsFactor_71 k_iconst_1 ?_
    refine wp_iload_n (M := mX11_readsFactor) (pc := 72) dX11_readsFactor_72 rfl rfl ?_
    refine xs_callV (d := d + 2) (M := mX11_readsFactor) (pc := 73) (As := [.int 1, .int s0]) (st := []) (c := 11) (ls' := [.ref 82, .int 1, .int s0]) dX11_readsFactor_73 oX11_notes nX11_notes lX11_188 vX11_notes sX11_notes rfl sh82 (Nat.le_of_ble_eq_true rfl) rfl (Nat.le_of_ble_eq_true rfl) rfl ?_
    exact p1 c1
  · refine wp_aload_n (M := mX11_readsFactor) (pc := 60) dX11_readsFactor_60 rfl rfl ?_
    refine wp_iconst (M := mX11_readsFactor) (pc := 61) dX11_readsFactor_61 k_iconst_1 ?_
    refine wp_aload_n (M := mX11_readsFactor) (pc := 62) dX11_readsFactor_62 rfl rfl ?_
    refine xs_geti (M := mX11_readsFactor) (pc := 63) dX11_readsFactor_63 fX11_152 sh82 rfl ?_
    refine xs_callV (d := d + 2) (M := mX11_readsFactor) (pc := 66) (As := [.int 1, .int (f 82 11)]) (st := []) (c := 11) (ls' := [.ref 82, .int 1, .int (f 82 11)]) dX11_readsFactor_66 oX11_wrongAt nX11_wrongAt lX11_165 vX11_wrongAt sX11_wrongAt rfl sh82 (Nat.le_of_ble_eq_true rfl) rfl (Nat.le_of_ble_eq_true rfl) rfl ?_
    exact p2 c1
theorem bX11_readsFactor_69 {G : GC} {d : Nat} {sw : Bool} {f : FF} {Q : QQ} {x1 : Int32} {s0 : Int32} (p1 : s0 = 0 ∨ s0 = 1) (p2 : Q (some (.int s0)) sw f) : XP G mX11_readsFactor (d + 3) 69 [.ref 82, .int x1] [.int s0] sw f Q := by
  exact xs_zret (M := mX11_readsFactor) (pc := 69) dX11_readsFactor_69 rfl (p1) (p2)
theorem bX11_readsFactor_76 {G : GC} {d : Nat} {sw : Bool} {f : FF} {Q : QQ} {x1 : Int32} (p1 : Q (some (.int 1)) sw (upd2 f 82 11 ((f 82 11) + 1))) : XP G mX11_readsFactor (d + 3) 76 [.ref 82, .int x1] [] sw f Q := by
  refine wp_aload_n (M := mX11_readsFactor) (pc := 76) dX11_readsFactor_76 rfl rfl ?_
  refine wp_aload_n (M := mX11_readsFactor) (pc := 77) dX11_readsFactor_77 rfl rfl ?_
  refine xs_geti (M := mX11_readsFactor) (pc := 78) dX11_readsFactor_78 fX11_152 sh82 rfl ?_
  refine wp_iconst (M := mX11_readsFactor) (pc := 81) dX11_readsFactor_81 k_iconst_1 ?_
  refine wp_iadd (M := mX11_readsFactor) (pc := 82) dX11_readsFactor_82 ?_
  refine xs_puti (M := mX11_readsFactor) (pc := 83) dX11_readsFactor_83 pX11_152 sh82 rfl ?_
  refine wp_iconst (M := mX11_readsFactor) (pc := 86) dX11_readsFactor_86 k_iconst_1 ?_
  exact xs_zret (M := mX11_readsFactor) (pc := 87) dX11_readsFactor_87 rfl (by decide) (p1)
theorem bX11_opens_0 {G : GC} {d : Nat} {sw : Bool} {f : FF} {Q : QQ} {x1 : Int32} (p1 : (¬ (f 82 15) = 6) → vp_in ((upd2 f 82 15 ((f 82 15) + 1)) 82 17) 260) (p2 : (¬ (f 82 15) = 6) → Q (some (.int 1)) sw (upd2 (upd2 (upd2 (upd2 f 82 15 ((f 82 15) + 1)) 92 (((upd2 f 82 15 ((f 82 15) + 1)) 82 17).toNatClampNeg) (1048576 * x1)) 82 17 (((upd2 (upd2 f 82 15 ((f 82 15) + 1)) 92 (((upd2 f 82 15 ((f 82 15) + 1)) 82 17).toNatClampNeg) (1048576 * x1)) 82 17) + 1)) 82 11 (((upd2 (upd2 (upd2 f 82 15 ((f 82 15) + 1)) 92 (((upd2 f 82 15 ((f 82 15) + 1)) 82 17).toNatClampNeg) (1048576 * x1)) 82 17 (((upd2 (upd2 f 82 15 ((f 82 15) + 1)) 92 (((upd2 f 82 15 ((f 82 15) + 1)) 82 17).toNatClampNeg) (1048576 * x1)) 82 17) + 1)) 82 11) + 1))) (p3 : ((f 82 15) = 6) → XP G mX11_wrongAt (d) 0 [.ref 82, .int 5, .int (f 82 11)] [] sw f (fun v sw' f' => XP G mX11_opens (d + 1) 18 [.ref 82, .int x1] (retst v []) sw' f' Q)) : XP G mX11_opens (d + 1) 0 [.ref 82, .int x1] [] sw f Q := by
  refine wp_aload_n (M := mX11_opens) (pc := 0) dX11_opens_0 rfl rfl ?_
  refine xs_geti (M := mX11_opens) (pc := 1) dX11_opens_1 fX11_179 sh82 rfl ?_
  refine wp_bipush (M := mX11_opens) (pc := 4) dX11_opens_4 k_bipush_6 ?_
  refine wp_icmp_ne (M := mX11_opens) (pc := 6) (t := 19) dX11_opens_6 (by decide) (fun c1 => ?_) (fun c1 => ?_)
  · refine wp_aload_n (M := mX11_opens) (pc := 19) dX11_opens_19 rfl rfl ?_
    refine wp_aload_n (M := mX11_opens) (pc := 20) dX11_opens_20 rfl rfl ?_
    refine xs_geti (M := mX11_opens) (pc := 21) dX11_opens_21 fX11_179 sh82 rfl ?_
    refine wp_iconst (M := mX11_opens) (pc := 24) dX11_opens_24 k_iconst_1 ?_
    refine wp_iadd (M := mX11_opens) (pc := 25) dX11_opens_25 ?_
    refine xs_puti (M := mX11_opens) (pc := 26) dX11_opens_26 pX11_179 sh82 rfl ?_
    refine wp_aload_n (M := mX11_opens) (pc := 29) dX11_opens_29 rfl rfl ?_
    refine xs_getr (M := mX11_opens) (pc := 30) (r := 92) dX11_opens_30 fX11_38 sh82 rfl (gr82_21 sw) ?_
    refine wp_aload_n (M := mX11_opens) (pc := 33) dX11_opens_33 rfl rfl ?_
    refine xs_geti (M := mX11_opens) (pc := 34) dX11_opens_34 fX11_182 sh82 rfl ?_
    refine wp_ldc (M := mX11_opens) (pc := 37) dX11_opens_37 kX11_178 ?_
    refine wp_iload_n (M := mX11_opens) (pc := 39) dX11_opens_39 rfl rfl ?_
    refine wp_imul (M := mX11_opens) (pc := 40) dX11_opens_40 ?_
    refine xs_iast (M := mX11_opens) (pc := 41) (j := ((upd2 f 82 15 ((f 82 15) + 1)) 82 17).toNatClampNeg) dX11_opens_41 sh92 (p1 c1) rfl ?_
    refine wp_aload_n (M := mX11_opens) (pc := 42) dX11_opens_42 rfl rfl ?_
    refine wp_aload_n (M := mX11_opens) (pc := 43) dX11_opens_43 rfl rfl ?_
    refine xs_geti (M := mX11_opens) (pc := 44) dX11_opens_44 fX11_182 sh82 rfl ?_
    refine wp_iconst (M := mX11_opens) (pc := 47) dX11_opens_47 k_iconst_1 ?_
    refine wp_iadd (M := mX11_opens) (pc := 48) dX11_opens_48 ?_
    refine xs_puti (M := mX11_opens) (pc := 49) dX11_opens_49 pX11_182 sh82 rfl ?_
    refine wp_aload_n (M := mX11_opens) (pc := 52) dX11_opens_52 rfl rfl ?_
    refine wp_aload_n (M := mX11_opens) (pc := 53) dX11_opens_53 rfl rfl ?_
    refine xs_geti (M := mX11_opens) (pc := 54) dX11_opens_54 fX11_152 sh82 rfl ?_
    refine wp_iconst (M := mX11_opens) (pc := 57) dX11_opens_57 k_iconst_1 ?_
    refine wp_iadd (M := mX11_opens) (pc := 58) dX11_opens_58 ?_
    refine xs_puti (M := mX11_opens) (pc := 59) dX11_opens_59 pX11_152 sh82 rfl ?_
    refine wp_iconst (M := mX11_opens) (pc := 62) dX11_opens_62 k_iconst_1 ?_
    exact xs_zret (M := mX11_opens) (pc := 63) dX11_opens_63 rfl (by decide) (p2 c1)
  · refine wp_aload_n (M := mX11_opens) (pc := 9) dX11_opens_9 rfl rfl ?_
    refine wp_iconst (M := mX11_opens) (pc := 10) dX11_opens_10 k_iconst_5 ?_
    refine wp_aload_n (M := mX11_opens) (pc := 11) dX11_opens_11 rfl rfl ?_
    refine xs_geti (M := mX11_opens) (pc := 12) dX11_opens_12 fX11_152 sh82 rfl ?_
    refine xs_callV (d := d) (M := mX11_opens) (pc := 15) (As := [.int 5, .int (f 82 11)]) (st := []) (c := 11) (ls' := [.ref 82, .int 5, .int (f 82 11)]) dX11_opens_15 oX11_wrongAt nX11_wrongAt lX11_165 vX11_wrongAt sX11_wrongAt rfl sh82 (Nat.le_of_ble_eq_true rfl) rfl (Nat.le_of_ble_eq_true rfl) rfl ?_
    exact p3 c1
theorem bX11_opens_18 {G : GC} {d : Nat} {sw : Bool} {f : FF} {Q : QQ} {x1 : Int32} {s0 : Int32} (p1 : s0 = 0 ∨ s0 = 1) (p2 : Q (some (.int s0)) sw f) : XP G mX11_opens (d + 1) 18 [.ref 82, .int x1] [.int s0] sw f Q := by
  exact xs_zret (M := mX11_opens) (pc := 18) dX11_opens_18 rfl (p1) (p2)
theorem bX11_readsNumber_0 {G : GC} {d : Nat} {sw : Bool} {f : FF} {Q : QQ}  (p1 : XP G mX11_readsNumber (d + 2) 10 [.ref 82, .int (f 82 11)] [] sw (upd2 f 82 14 0) Q) : XP G mX11_readsNumber (d + 2) 0 [.ref 82, .null] [] sw f Q := by
  refine wp_aload_n (M := mX11_readsNumber) (pc := 0) dX11_readsNumber_0 rfl rfl ?_
  refine xs_geti (M := mX11_readsNumber) (pc := 1) dX11_readsNumber_1 fX11_152 sh82 rfl ?_
  refine wp_istore_n (M := mX11_readsNumber) (pc := 4) (ls' := [.ref 82, .int (f 82 11)]) dX11_readsNumber_4 rfl (by decide) rfl ?_
  refine wp_aload_n (M := mX11_readsNumber) (pc := 5) dX11_readsNumber_5 rfl rfl ?_
  refine wp_iconst (M := mX11_readsNumber) (pc := 6) dX11_readsNumber_6 k_iconst_0 ?_
  refine xs_puti (M := mX11_readsNumber) (pc := 7) dX11_readsNumber_7 pX11_168 sh82 rfl ?_
  exact p1
theorem bX11_readsNumber_10 {G : GC} {d : Nat} {sw : Bool} {f : FF} {Q : QQ} {x1 : Int32} (p1 : f 82 11 < f 82 12 → vp_in (f 82 11) 260) (p2 : (¬ (48 ≤ hereF f ∧ hereF f ≤ 57)) → Q (some (.int 1)) sw f) (p3 : (48 ≤ hereF f ∧ hereF f ≤ 57) → (¬ (f 82 11) = (x1 + 5)) → f 82 11 < f 82 12 → vp_in (f 82 11) 260) (p4 : (48 ≤ hereF f ∧ hereF f ≤ 57) → (¬ (f 82 11) = (x1 + 5)) → XP G mX11_readsNumber (d + 2) 10 [.ref 82, .int x1] [] sw (upd2 (upd2 f 82 14 (((10 * (f 82 14)) + (hereF f)) - 48)) 82 11 (((upd2 f 82 14 (((10 * (f 82 14)) + (hereF f)) - 48)) 82 11) + 1)) Q) (p5 : (48 ≤ hereF f ∧ hereF f ≤ 57) → ((f 82 11) = (x1 + 5)) → XP G mX11_wrongAt (d + 1) 0 [.ref 82, .int 2, .int (f 82 11)] [] sw f (fun v sw' f' => XP G mX11_readsNumber (d + 2) 36 [.ref 82, .int x1] (retst v []) sw' f' Q)) : XP G mX11_readsNumber (d + 2) 10 [.ref 82, .int x1] [] sw f Q := by
  refine wp_aload_n (M := mX11_readsNumber) (pc := 10) dX11_readsNumber_10 rfl rfl ?_
  refine xs_callV (d := d + 1) (M := mX11_readsNumber) (pc := 11) (As := []) (st := []) (c := 11) (ls' := [.ref 82]) dX11_readsNumber_11 oX11_isDigit nX11_isDigit lX11_171 vX11_isDigit sX11_isDigit rfl sh82 (Nat.le_of_ble_eq_true rfl) rfl (Nat.le_of_ble_eq_true rfl) rfl ?_
  refine sp_X11_isDigit  (p1) ?_
  refine xs_ifb_eq (M := mX11_readsNumber) (pc := 14) (t := 69) dX11_readsNumber_14 (by decide) (fun c1 => ?_) (fun c1 => ?_)
  · refine wp_iconst (M := mX11_readsNumber) (pc := 69) dX11_readsNumber_69 k_iconst_1 ?_
    exact xs_zret (M := mX11_readsNumber) (pc := 70) dX11_readsNumber_70 rfl (by decide) (p2 c1)
  · refine wp_aload_n (M := mX11_readsNumber) (pc := 17) dX11_readsNumber_17 rfl rfl ?_
    refine xs_geti (M := mX11_readsNumber) (pc := 18) dX11_readsNumber_18 fX11_152 sh82 rfl ?_
    refine wp_iload_n (M := mX11_readsNumber) (pc := 21) dX11_readsNumber_21 rfl rfl ?_
    refine wp_iconst (M := mX11_readsNumber) (pc := 22) dX11_readsNumber_22 k_iconst_5 ?_
    refine wp_iadd (M := mX11_readsNumber) (pc := 23) dX11_readsNumber_23 ?_
    refine wp_icmp_ne (M := mX11_readsNumber) (pc := 24) (t := 37) dX11_readsNumber_24 (by decide) (fun c2 => ?_) (fun c2 => ?_)
    · refine wp_aload_n (M := mX11_readsNumber) (pc := 37) dX11_readsNumber_37 rfl rfl ?_
      refine wp_bipush (M := mX11_readsNumber) (pc := 38) dX11_readsNumber_38 k_bipush_10 ?_
      refine wp_aload_n (M := mX11_readsNumber) (pc := 40) dX11_readsNumber_40 rfl rfl ?_
      refine xs_geti (M := mX11_readsNumber) (pc := 41) dX11_readsNumber_41 fX11_168 sh82 rfl ?_
      refine wp_imul (M := mX11_readsNumber) (pc := 44) dX11_readsNumber_44 ?_
      refine wp_aload_n (M := mX11_readsNumber) (pc := 45) dX11_readsNumber_45 rfl rfl ?_
      refine xs_callV (d := d + 1) (M := mX11_readsNumber) (pc := 46) (As := []) (st := [.int (10 * (f 82 14)), .ref 82]) (c := 11) (ls' := [.ref 82]) dX11_readsNumber_46 oX11_here nX11_here lX11_158 vX11_here sX11_here rfl sh82 (Nat.le_of_ble_eq_true rfl) rfl (Nat.le_of_ble_eq_true rfl) rfl ?_
      refine sp_X11_here  (p3 c1 c2) ?_
      refine wp_iadd (M := mX11_readsNumber) (pc := 49) dX11_readsNumber_49 ?_
      refine wp_bipush (M := mX11_readsNumber) (pc := 50) dX11_readsNumber_50 k_bipush_48 ?_
      refine wp_isub (M := mX11_readsNumber) (pc := 52) dX11_readsNumber_52 ?_
      refine xs_puti (M := mX11_readsNumber) (pc := 53) dX11_readsNumber_53 pX11_168 sh82 rfl ?_
      refine wp_aload_n (M := mX11_readsNumber) (pc := 56) dX11_readsNumber_56 rfl rfl ?_
      refine wp_aload_n (M := mX11_readsNumber) (pc := 57) dX11_readsNumber_57 rfl rfl ?_
      refine xs_geti (M := mX11_readsNumber) (pc := 58) dX11_readsNumber_58 fX11_152 sh82 rfl ?_
      refine wp_iconst (M := mX11_readsNumber) (pc := 61) dX11_readsNumber_61 k_iconst_1 ?_
      refine wp_iadd (M := mX11_readsNumber) (pc := 62) dX11_readsNumber_62 ?_
      refine xs_puti (M := mX11_readsNumber) (pc := 63) dX11_readsNumber_63 pX11_152 sh82 rfl ?_
      refine wp_goto (M := mX11_readsNumber) (pc := 66) (t := 10) dX11_readsNumber_66 (by decide) ?_
      exact p4 c1 c2
    · refine wp_aload_n (M := mX11_readsNumber) (pc := 27) dX11_readsNumber_27 rfl rfl ?_
      refine wp_iconst (M := mX11_readsNumber) (pc := 28) dX11_readsNumber_28 k_iconst_2 ?_
      refine wp_aload_n (M := mX11_readsNumber) (pc := 29) dX11_readsNumber_29 rfl rfl ?_
      refine xs_geti (M := mX11_readsNumber) (pc := 30) dX11_readsNumber_30 fX11_152 sh82 rfl ?_
      refine xs_callV (d := d + 1) (M := mX11_readsNumber) (pc := 33) (As := [.int 2, .int (f 82 11)]) (st := []) (c := 11) (ls' := [.ref 82, .int 2, .int (f 82 11)]) dX11_readsNumber_33 oX11_wrongAt nX11_wrongAt lX11_165 vX11_wrongAt sX11_wrongAt rfl sh82 (Nat.le_of_ble_eq_true rfl) rfl (Nat.le_of_ble_eq_true rfl) rfl ?_
      exact p5 c1 c2
theorem bX11_readsNumber_36 {G : GC} {d : Nat} {sw : Bool} {f : FF} {Q : QQ} {x1 : Int32} {s0 : Int32} (p1 : s0 = 0 ∨ s0 = 1) (p2 : Q (some (.int s0)) sw f) : XP G mX11_readsNumber (d + 2) 36 [.ref 82, .int x1] [.int s0] sw f Q := by
  exact xs_zret (M := mX11_readsNumber) (pc := 36) dX11_readsNumber_36 rfl (p1) (p2)
theorem bX11_notes_0 {G : GC} {d : Nat} {sw : Bool} {f : FF} {Q : QQ} {x1 : Int32} {x2 : Int32} (p1 : vp_in (f 82 16) 260) (p2 : Q none sw (upd2 (upd2 f 91 ((f 82 16).toNatClampNeg) ((1048576 * x1) + x2)) 82 16 (((upd2 f 91 ((f 82 16).toNatClampNeg) ((1048576 * x1) + x2)) 82 16) + 1))) : XP G mX11_notes (d) 0 [.ref 82, .int x1, .int x2] [] sw f Q := by
  refine wp_aload_n (M := mX11_notes) (pc := 0) dX11_notes_0 rfl rfl ?_
  refine xs_getr (M := mX11_notes) (pc := 1) (r := 91) dX11_notes_1 fX11_35 sh82 rfl (gr82_20 sw) ?_
  refine wp_aload_n (M := mX11_notes) (pc := 4) dX11_notes_4 rfl rfl ?_
  refine xs_geti (M := mX11_notes) (pc := 5) dX11_notes_5 fX11_175 sh82 rfl ?_
  refine wp_ldc (M := mX11_notes) (pc := 8) dX11_notes_8 kX11_178 ?_
  refine wp_iload_n (M := mX11_notes) (pc := 10) dX11_notes_10 rfl rfl ?_
  refine wp_imul (M := mX11_notes) (pc := 11) dX11_notes_11 ?_
  refine wp_iload_n (M := mX11_notes) (pc := 12) dX11_notes_12 rfl rfl ?_
  refine wp_iadd (M := mX11_notes) (pc := 13) dX11_notes_13 ?_
  refine xs_iast (M := mX11_notes) (pc := 14) (j := (f 82 16).toNatClampNeg) dX11_notes_14 sh91 (p1) rfl ?_
  refine wp_aload_n (M := mX11_notes) (pc := 15) dX11_notes_15 rfl rfl ?_
  refine wp_aload_n (M := mX11_notes) (pc := 16) dX11_notes_16 rfl rfl ?_
  refine xs_geti (M := mX11_notes) (pc := 17) dX11_notes_17 fX11_175 sh82 rfl ?_
  refine wp_iconst (M := mX11_notes) (pc := 20) dX11_notes_20 k_iconst_1 ?_
  refine wp_iadd (M := mX11_notes) (pc := 21) dX11_notes_21 ?_
  refine xs_puti (M := mX11_notes) (pc := 22) dX11_notes_22 pX11_175 sh82 rfl ?_
  exact xs_ret (M := mX11_notes) (pc := 25) dX11_notes_25 rfl (p2)
theorem bX11_factOf_0 {G : GC} {d : Nat} {sw : Bool} {f : FF} {Q : QQ} {x0 : Int32} (p1 : (x0 = 97) → Q (some (.int 2)) sw f) (p2 : (x0 = 98) → Q (some (.int (-1))) sw f) (p3 : (x0 = 99) → Q (some (.int (-1))) sw f) (p4 : (x0 = 100) → Q (some (.int 8)) sw f) (p5 : (x0 = 101) → Q (some (.int 1)) sw f) (p6 : (x0 = 102) → Q (some (.int 4)) sw f) (p7 : (x0 = 103) → Q (some (.int (-1))) sw f) (p8 : (x0 = 104) → Q (some (.int 6)) sw f) (p9 : (x0 = 105) → Q (some (.int (-1))) sw f) (p10 : (x0 = 106) → Q (some (.int (-1))) sw f) (p11 : (x0 = 107) → Q (some (.int 7)) sw f) (p12 : (x0 = 108) → Q (some (.int (-1))) sw f) (p13 : (x0 = 109) → Q (some (.int (-1))) sw f) (p14 : (x0 = 110) → Q (some (.int 9)) sw f) (p15 : (x0 = 111) → Q (some (.int 3)) sw f) (p16 : (x0 = 112) → Q (some (.int (-1))) sw f) (p17 : (x0 = 113) → Q (some (.int (-1))) sw f) (p18 : (x0 = 114) → Q (some (.int (-1))) sw f) (p19 : (x0 = 115) → Q (some (.int 0)) sw f) (p20 : (x0 = 116) → Q (some (.int 5)) sw f) (p21 : (¬ x0 = 97) → (¬ x0 = 98) → (¬ x0 = 99) → (¬ x0 = 100) → (¬ x0 = 101) → (¬ x0 = 102) → (¬ x0 = 103) → (¬ x0 = 104) → (¬ x0 = 105) → (¬ x0 = 106) → (¬ x0 = 107) → (¬ x0 = 108) → (¬ x0 = 109) → (¬ x0 = 110) → (¬ x0 = 111) → (¬ x0 = 112) → (¬ x0 = 113) → (¬ x0 = 114) → (¬ x0 = 115) → (¬ x0 = 116) → Q (some (.int (-1))) sw f) : XP G mX11_factOf (d) 0 [.int x0] [] sw f Q := by
  refine wp_iload_n (M := mX11_factOf) (pc := 0) dX11_factOf_0 rfl rfl ?_
  by_cases c1 : x0 = 97
  · refine wp_tableIn (M := mX11_factOf) (pc := 1) (t := 100) (off := 99) dX11_factOf_1 (by rw [c1] <;> decide) (by rw [c1] <;> decide) (by rw [c1] <;> rfl) (by decide) ?_
    refine wp_iconst (M := mX11_factOf) (pc := 100) dX11_factOf_100 k_iconst_2 ?_
    exact xs_iret (M := mX11_factOf) (pc := 101) dX11_factOf_101 rfl (p1 c1)
  by_cases c2 : x0 = 98
  · refine wp_tableIn (M := mX11_factOf) (pc := 1) (t := 120) (off := 119) dX11_factOf_1 (by rw [c2] <;> decide) (by rw [c2] <;> decide) (by rw [c2] <;> rfl) (by decide) ?_
    refine wp_iconst (M := mX11_factOf) (pc := 120) dX11_factOf_120 k_iconst_m1 ?_
    exact xs_iret (M := mX11_factOf) (pc := 121) dX11_factOf_121 rfl (p2 c2)
  by_cases c3 : x0 = 99
  · refine wp_tableIn (M := mX11_factOf) (pc := 1) (t := 120) (off := 119) dX11_factOf_1 (by rw [c3] <;> decide) (by rw [c3] <;> decide) (by rw [c3] <;> rfl) (by decide) ?_
    refine wp_iconst (M := mX11_factOf) (pc := 120) dX11_factOf_120 k_iconst_m1 ?_
    exact xs_iret (M := mX11_factOf) (pc := 121) dX11_factOf_121 rfl (p3 c3)
  by_cases c4 : x0 = 100
  · refine wp_tableIn (M := mX11_factOf) (pc := 1) (t := 114) (off := 113) dX11_factOf_1 (by rw [c4] <;> decide) (by rw [c4] <;> decide) (by rw [c4] <;> rfl) (by decide) ?_
    refine wp_bipush (M := mX11_factOf) (pc := 114) dX11_factOf_114 k_bipush_8 ?_
    exact xs_iret (M := mX11_factOf) (pc := 116) dX11_factOf_116 rfl (p4 c4)
  by_cases c5 : x0 = 101
  · refine wp_tableIn (M := mX11_factOf) (pc := 1) (t := 98) (off := 97) dX11_factOf_1 (by rw [c5] <;> decide) (by rw [c5] <;> decide) (by rw [c5] <;> rfl) (by decide) ?_
    refine wp_iconst (M := mX11_factOf) (pc := 98) dX11_factOf_98 k_iconst_1 ?_
    exact xs_iret (M := mX11_factOf) (pc := 99) dX11_factOf_99 rfl (p5 c5)
  by_cases c6 : x0 = 102
  · refine wp_tableIn (M := mX11_factOf) (pc := 1) (t := 104) (off := 103) dX11_factOf_1 (by rw [c6] <;> decide) (by rw [c6] <;> decide) (by rw [c6] <;> rfl) (by decide) ?_
    refine wp_iconst (M := mX11_factOf) (pc := 104) dX11_factOf_104 k_iconst_4 ?_
    exact xs_iret (M := mX11_factOf) (pc := 105) dX11_factOf_105 rfl (p6 c6)
  by_cases c7 : x0 = 103
  · refine wp_tableIn (M := mX11_factOf) (pc := 1) (t := 120) (off := 119) dX11_factOf_1 (by rw [c7] <;> decide) (by rw [c7] <;> decide) (by rw [c7] <;> rfl) (by decide) ?_
    refine wp_iconst (M := mX11_factOf) (pc := 120) dX11_factOf_120 k_iconst_m1 ?_
    exact xs_iret (M := mX11_factOf) (pc := 121) dX11_factOf_121 rfl (p7 c7)
  by_cases c8 : x0 = 104
  · refine wp_tableIn (M := mX11_factOf) (pc := 1) (t := 108) (off := 107) dX11_factOf_1 (by rw [c8] <;> decide) (by rw [c8] <;> decide) (by rw [c8] <;> rfl) (by decide) ?_
    refine wp_bipush (M := mX11_factOf) (pc := 108) dX11_factOf_108 k_bipush_6 ?_
    exact xs_iret (M := mX11_factOf) (pc := 110) dX11_factOf_110 rfl (p8 c8)
  by_cases c9 : x0 = 105
  · refine wp_tableIn (M := mX11_factOf) (pc := 1) (t := 120) (off := 119) dX11_factOf_1 (by rw [c9] <;> decide) (by rw [c9] <;> decide) (by rw [c9] <;> rfl) (by decide) ?_
    refine wp_iconst (M := mX11_factOf) (pc := 120) dX11_factOf_120 k_iconst_m1 ?_
    exact xs_iret (M := mX11_factOf) (pc := 121) dX11_factOf_121 rfl (p9 c9)
  by_cases c10 : x0 = 106
  · refine wp_tableIn (M := mX11_factOf) (pc := 1) (t := 120) (off := 119) dX11_factOf_1 (by rw [c10] <;> decide) (by rw [c10] <;> decide) (by rw [c10] <;> rfl) (by decide) ?_
    refine wp_iconst (M := mX11_factOf) (pc := 120) dX11_factOf_120 k_iconst_m1 ?_
    exact xs_iret (M := mX11_factOf) (pc := 121) dX11_factOf_121 rfl (p10 c10)
  by_cases c11 : x0 = 107
  · refine wp_tableIn (M := mX11_factOf) (pc := 1) (t := 111) (off := 110) dX11_factOf_1 (by rw [c11] <;> decide) (by rw [c11] <;> decide) (by rw [c11] <;> rfl) (by decide) ?_
    refine wp_bipush (M := mX11_factOf) (pc := 111) dX11_factOf_111 k_bipush_7 ?_
    exact xs_iret (M := mX11_factOf) (pc := 113) dX11_factOf_113 rfl (p11 c11)
  by_cases c12 : x0 = 108
  · refine wp_tableIn (M := mX11_factOf) (pc := 1) (t := 120) (off := 119) dX11_factOf_1 (by rw [c12] <;> decide) (by rw [c12] <;> decide) (by rw [c12] <;> rfl) (by decide) ?_
    refine wp_iconst (M := mX11_factOf) (pc := 120) dX11_factOf_120 k_iconst_m1 ?_
    exact xs_iret (M := mX11_factOf) (pc := 121) dX11_factOf_121 rfl (p12 c12)
  by_cases c13 : x0 = 109
  · refine wp_tableIn (M := mX11_factOf) (pc := 1) (t := 120) (off := 119) dX11_factOf_1 (by rw [c13] <;> decide) (by rw [c13] <;> decide) (by rw [c13] <;> rfl) (by decide) ?_
    refine wp_iconst (M := mX11_factOf) (pc := 120) dX11_factOf_120 k_iconst_m1 ?_
    exact xs_iret (M := mX11_factOf) (pc := 121) dX11_factOf_121 rfl (p13 c13)
  by_cases c14 : x0 = 110
  · refine wp_tableIn (M := mX11_factOf) (pc := 1) (t := 117) (off := 116) dX11_factOf_1 (by rw [c14] <;> decide) (by rw [c14] <;> decide) (by rw [c14] <;> rfl) (by decide) ?_
    refine wp_bipush (M := mX11_factOf) (pc := 117) dX11_factOf_117 k_bipush_9 ?_
    exact xs_iret (M := mX11_factOf) (pc := 119) dX11_factOf_119 rfl (p14 c14)
  by_cases c15 : x0 = 111
  · refine wp_tableIn (M := mX11_factOf) (pc := 1) (t := 102) (off := 101) dX11_factOf_1 (by rw [c15] <;> decide) (by rw [c15] <;> decide) (by rw [c15] <;> rfl) (by decide) ?_
    refine wp_iconst (M := mX11_factOf) (pc := 102) dX11_factOf_102 k_iconst_3 ?_
    exact xs_iret (M := mX11_factOf) (pc := 103) dX11_factOf_103 rfl (p15 c15)
  by_cases c16 : x0 = 112
  · refine wp_tableIn (M := mX11_factOf) (pc := 1) (t := 120) (off := 119) dX11_factOf_1 (by rw [c16] <;> decide) (by rw [c16] <;> decide) (by rw [c16] <;> rfl) (by decide) ?_
    refine wp_iconst (M := mX11_factOf) (pc := 120) dX11_factOf_120 k_iconst_m1 ?_
    exact xs_iret (M := mX11_factOf) (pc := 121) dX11_factOf_121 rfl (p16 c16)
  by_cases c17 : x0 = 113
  · refine wp_tableIn (M := mX11_factOf) (pc := 1) (t := 120) (off := 119) dX11_factOf_1 (by rw [c17] <;> decide) (by rw [c17] <;> decide) (by rw [c17] <;> rfl) (by decide) ?_
    refine wp_iconst (M := mX11_factOf) (pc := 120) dX11_factOf_120 k_iconst_m1 ?_
    exact xs_iret (M := mX11_factOf) (pc := 121) dX11_factOf_121 rfl (p17 c17)
  by_cases c18 : x0 = 114
  · refine wp_tableIn (M := mX11_factOf) (pc := 1) (t := 120) (off := 119) dX11_factOf_1 (by rw [c18] <;> decide) (by rw [c18] <;> decide) (by rw [c18] <;> rfl) (by decide) ?_
    refine wp_iconst (M := mX11_factOf) (pc := 120) dX11_factOf_120 k_iconst_m1 ?_
    exact xs_iret (M := mX11_factOf) (pc := 121) dX11_factOf_121 rfl (p18 c18)
  by_cases c19 : x0 = 115
  · refine wp_tableIn (M := mX11_factOf) (pc := 1) (t := 96) (off := 95) dX11_factOf_1 (by rw [c19] <;> decide) (by rw [c19] <;> decide) (by rw [c19] <;> rfl) (by decide) ?_
    refine wp_iconst (M := mX11_factOf) (pc := 96) dX11_factOf_96 k_iconst_0 ?_
    exact xs_iret (M := mX11_factOf) (pc := 97) dX11_factOf_97 rfl (p19 c19)
  by_cases c20 : x0 = 116
  · refine wp_tableIn (M := mX11_factOf) (pc := 1) (t := 106) (off := 105) dX11_factOf_1 (by rw [c20] <;> decide) (by rw [c20] <;> decide) (by rw [c20] <;> rfl) (by decide) ?_
    refine wp_iconst (M := mX11_factOf) (pc := 106) dX11_factOf_106 k_iconst_5 ?_
    exact xs_iret (M := mX11_factOf) (pc := 107) dX11_factOf_107 rfl (p20 c20)
  refine wp_tableOut (M := mX11_factOf) (pc := 1) (t := 120) dX11_factOf_1 (tbl_out (fun q h1 h2 z => by
      have hq : q = 97 ∨ q = 98 ∨ q = 99 ∨ q = 100 ∨ q = 101 ∨ q = 102 ∨ q = 103 ∨ q = 104 ∨ q = 105 ∨ q = 106 ∨ q = 107 ∨ q = 108 ∨ q = 109 ∨ q = 110 ∨ q = 111 ∨ q = 112 ∨ q = 113 ∨ q = 114 ∨ q = 115 ∨ q = 116 := by omega
      rcases hq with rfl | rfl | rfl | rfl | rfl | rfl | rfl | rfl | rfl | rfl | rfl | rfl | rfl | rfl | rfl | rfl | rfl | rfl | rfl | rfl
      · exact c1 (Int32.toInt_inj.mp (by rw [z]; rfl))
      · exact c2 (Int32.toInt_inj.mp (by rw [z]; rfl))
      · exact c3 (Int32.toInt_inj.mp (by rw [z]; rfl))
      · exact c4 (Int32.toInt_inj.mp (by rw [z]; rfl))
      · exact c5 (Int32.toInt_inj.mp (by rw [z]; rfl))
      · exact c6 (Int32.toInt_inj.mp (by rw [z]; rfl))
      · exact c7 (Int32.toInt_inj.mp (by rw [z]; rfl))
      · exact c8 (Int32.toInt_inj.mp (by rw [z]; rfl))
      · exact c9 (Int32.toInt_inj.mp (by rw [z]; rfl))
      · exact c10 (Int32.toInt_inj.mp (by rw [z]; rfl))
      · exact c11 (Int32.toInt_inj.mp (by rw [z]; rfl))
      · exact c12 (Int32.toInt_inj.mp (by rw [z]; rfl))
      · exact c13 (Int32.toInt_inj.mp (by rw [z]; rfl))
      · exact c14 (Int32.toInt_inj.mp (by rw [z]; rfl))
      · exact c15 (Int32.toInt_inj.mp (by rw [z]; rfl))
      · exact c16 (Int32.toInt_inj.mp (by rw [z]; rfl))
      · exact c17 (Int32.toInt_inj.mp (by rw [z]; rfl))
      · exact c18 (Int32.toInt_inj.mp (by rw [z]; rfl))
      · exact c19 (Int32.toInt_inj.mp (by rw [z]; rfl))
      · exact c20 (Int32.toInt_inj.mp (by rw [z]; rfl))
      )) (by decide) ?_
  refine wp_iconst (M := mX11_factOf) (pc := 120) dX11_factOf_120 k_iconst_m1 ?_
  exact xs_iret (M := mX11_factOf) (pc := 121) dX11_factOf_121 rfl (p21 c1 c2 c3 c4 c5 c6 c7 c8 c9 c10 c11 c12 c13 c14 c15 c16 c17 c18 c19 c20)
theorem bX11_sumSign_0 {G : GC} {d : Nat} {sw : Bool} {f : FF} {Q : QQ} {x0 : Int32} (p1 : (¬ x0 = 43) → (¬ x0 = 45) → (¬ x0 = 42) → (¬ x0 = 47) → (¬ x0 = 37) → Q (some (.int (-1))) sw f) (p2 : (¬ x0 = 43) → (¬ x0 = 45) → (¬ x0 = 42) → (¬ x0 = 47) → (x0 = 37) → Q (some (.int 6)) sw f) (p3 : (¬ x0 = 43) → (¬ x0 = 45) → (¬ x0 = 42) → (x0 = 47) → Q (some (.int 5)) sw f) (p4 : (¬ x0 = 43) → (¬ x0 = 45) → (x0 = 42) → Q (some (.int 4)) sw f) (p5 : (¬ x0 = 43) → (x0 = 45) → Q (some (.int 3)) sw f) (p6 : (x0 = 43) → Q (some (.int 2)) sw f) : XP G mX11_sumSign (d) 0 [.int x0] [] sw f Q := by
  refine wp_iload_n (M := mX11_sumSign) (pc := 0) dX11_sumSign_0 rfl rfl ?_
  refine wp_bipush (M := mX11_sumSign) (pc := 1) dX11_sumSign_1 k_bipush_43 ?_
  refine wp_icmp_ne (M := mX11_sumSign) (pc := 3) (t := 10) dX11_sumSign_3 (by decide) (fun c1 => ?_) (fun c1 => ?_)
  · refine wp_iload_n (M := mX11_sumSign) (pc := 10) dX11_sumSign_10 rfl rfl ?_
    refine wp_bipush (M := mX11_sumSign) (pc := 11) dX11_sumSign_11 k_bipush_45 ?_
    refine wp_icmp_ne (M := mX11_sumSign) (pc := 13) (t := 20) dX11_sumSign_13 (by decide) (fun c2 => ?_) (fun c2 => ?_)
    · refine wp_iload_n (M := mX11_sumSign) (pc := 20) dX11_sumSign_20 rfl rfl ?_
      refine wp_bipush (M := mX11_sumSign) (pc := 21) dX11_sumSign_21 k_bipush_42 ?_
      refine wp_icmp_ne (M := mX11_sumSign) (pc := 23) (t := 30) dX11_sumSign_23 (by decide) (fun c3 => ?_) (fun c3 => ?_)
      · refine wp_iload_n (M := mX11_sumSign) (pc := 30) dX11_sumSign_30 rfl rfl ?_
        refine wp_bipush (M := mX11_sumSign) (pc := 31) dX11_sumSign_31 k_bipush_47 ?_
        refine wp_icmp_ne (M := mX11_sumSign) (pc := 33) (t := 40) dX11_sumSign_33 (by decide) (fun c4 => ?_) (fun c4 => ?_)
        · refine wp_iload_n (M := mX11_sumSign) (pc := 40) dX11_sumSign_40 rfl rfl ?_
          refine wp_bipush (M := mX11_sumSign) (pc := 41) dX11_sumSign_41 k_bipush_37 ?_
          refine wp_icmp_ne (M := mX11_sumSign) (pc := 43) (t := 51) dX11_sumSign_43 (by decide) (fun c5 => ?_) (fun c5 => ?_)
          · refine wp_iconst (M := mX11_sumSign) (pc := 51) dX11_sumSign_51 k_iconst_m1 ?_
            exact xs_iret (M := mX11_sumSign) (pc := 52) dX11_sumSign_52 rfl (p1 c1 c2 c3 c4 c5)
          · refine wp_bipush (M := mX11_sumSign) (pc := 46) dX11_sumSign_46 k_bipush_6 ?_
            refine wp_goto (M := mX11_sumSign) (pc := 48) (t := 52) dX11_sumSign_48 (by decide) ?_
            exact xs_iret (M := mX11_sumSign) (pc := 52) dX11_sumSign_52 rfl (p2 c1 c2 c3 c4 c5)
        · refine wp_iconst (M := mX11_sumSign) (pc := 36) dX11_sumSign_36 k_iconst_5 ?_
          refine wp_goto (M := mX11_sumSign) (pc := 37) (t := 52) dX11_sumSign_37 (by decide) ?_
          exact xs_iret (M := mX11_sumSign) (pc := 52) dX11_sumSign_52 rfl (p3 c1 c2 c3 c4)
      · refine wp_iconst (M := mX11_sumSign) (pc := 26) dX11_sumSign_26 k_iconst_4 ?_
        refine wp_goto (M := mX11_sumSign) (pc := 27) (t := 52) dX11_sumSign_27 (by decide) ?_
        exact xs_iret (M := mX11_sumSign) (pc := 52) dX11_sumSign_52 rfl (p4 c1 c2 c3)
    · refine wp_iconst (M := mX11_sumSign) (pc := 16) dX11_sumSign_16 k_iconst_3 ?_
      refine wp_goto (M := mX11_sumSign) (pc := 17) (t := 52) dX11_sumSign_17 (by decide) ?_
      exact xs_iret (M := mX11_sumSign) (pc := 52) dX11_sumSign_52 rfl (p5 c1 c2)
  · refine wp_iconst (M := mX11_sumSign) (pc := 6) dX11_sumSign_6 k_iconst_2 ?_
    refine wp_goto (M := mX11_sumSign) (pc := 7) (t := 52) dX11_sumSign_7 (by decide) ?_
    exact xs_iret (M := mX11_sumSign) (pc := 52) dX11_sumSign_52 rfl (p6 c1)
theorem bX11_closesSums_0 {G : GC} {d : Nat} {sw : Bool} {f : FF} {Q : QQ} {x1 : Int32} (p1 : XP G mX11_waitTop (d) 0 [.ref 82] [] sw f (fun v sw' f' => XP G mX11_closesSums (d + 1) 4 [.ref 82, .int x1] (retst v []) sw' f' Q)) : XP G mX11_closesSums (d + 1) 0 [.ref 82, .int x1] [] sw f Q := by
  refine wp_aload_n (M := mX11_closesSums) (pc := 0) dX11_closesSums_0 rfl rfl ?_
  refine xs_callV (d := d) (M := mX11_closesSums) (pc := 1) (As := []) (st := []) (c := 11) (ls' := [.ref 82]) dX11_closesSums_1 oX11_waitTop nX11_waitTop lX11_185 vX11_waitTop sX11_waitTop rfl sh82 (Nat.le_of_ble_eq_true rfl) rfl (Nat.le_of_ble_eq_true rfl) rfl ?_
  exact p1
theorem bX11_closesSums_4 {G : GC} {d : Nat} {sw : Bool} {f : FF} {Q : QQ} {x1 : Int32} {s0 : Int32} (p1 : (s0 < 4) → (x1 = 0) → Q none sw f) (p2 : (s0 < 4) → (¬ x1 = 0) → XP G mX11_waitTop (d) 0 [.ref 82] [] sw f (fun v sw' f' => XP G mX11_closesSums (d + 1) 25 [.ref 82, .int x1] (retst v []) sw' f' Q)) (p3 : (¬ s0 < 4) → XP G mX11_waitTop (d) 0 [.ref 82] [] sw f (fun v sw' f' => XP G mX11_closesSums (d + 1) 12 [.ref 82, .int x1] (retst v []) sw' f' Q)) : XP G mX11_closesSums (d + 1) 4 [.ref 82, .int x1] [.int s0] sw f Q := by
  refine wp_iconst (M := mX11_closesSums) (pc := 4) dX11_closesSums_4 k_iconst_4 ?_
  refine wp_icmp_lt (M := mX11_closesSums) (pc := 5) (t := 17) dX11_closesSums_5 (by decide) (fun c1 => ?_) (fun c1 => ?_)
  · refine wp_iload_n (M := mX11_closesSums) (pc := 17) dX11_closesSums_17 rfl rfl ?_
    refine wp_if_eq (M := mX11_closesSums) (pc := 18) (t := 59) dX11_closesSums_18 (by decide) (fun c2 => ?_) (fun c2 => ?_)
    · exact xs_ret (M := mX11_closesSums) (pc := 59) dX11_closesSums_59 rfl (p1 c1 c2)
    · refine wp_aload_n (M := mX11_closesSums) (pc := 21) dX11_closesSums_21 rfl rfl ?_
      refine xs_callV (d := d) (M := mX11_closesSums) (pc := 22) (As := []) (st := []) (c := 11) (ls' := [.ref 82]) dX11_closesSums_22 oX11_waitTop nX11_waitTop lX11_185 vX11_waitTop sX11_waitTop rfl sh82 (Nat.le_of_ble_eq_true rfl) rfl (Nat.le_of_ble_eq_true rfl) rfl ?_
      exact p2 c1 c2
  · refine wp_aload_n (M := mX11_closesSums) (pc := 8) dX11_closesSums_8 rfl rfl ?_
    refine xs_callV (d := d) (M := mX11_closesSums) (pc := 9) (As := []) (st := []) (c := 11) (ls' := [.ref 82]) dX11_closesSums_9 oX11_waitTop nX11_waitTop lX11_185 vX11_waitTop sX11_waitTop rfl sh82 (Nat.le_of_ble_eq_true rfl) rfl (Nat.le_of_ble_eq_true rfl) rfl ?_
    exact p3 c1
theorem bX11_closesSums_12 {G : GC} {d : Nat} {sw : Bool} {f : FF} {Q : QQ} {x1 : Int32} {s0 : Int32} (p1 : (s0 ≤ 6) → XP G mX11_waitTop (d) 0 [.ref 82] [] sw f (fun v sw' f' => XP G mX11_closesSums (d + 1) 42 [.ref 82, .int x1] (retst v [.ref 82]) sw' f' Q)) (p2 : (¬ s0 ≤ 6) → (x1 = 0) → Q none sw f) (p3 : (¬ s0 ≤ 6) → (¬ x1 = 0) → XP G mX11_waitTop (d) 0 [.ref 82] [] sw f (fun v sw' f' => XP G mX11_closesSums (d + 1) 25 [.ref 82, .int x1] (retst v []) sw' f' Q)) : XP G mX11_closesSums (d + 1) 12 [.ref 82, .int x1] [.int s0] sw f Q := by
  refine wp_bipush (M := mX11_closesSums) (pc := 12) dX11_closesSums_12 k_bipush_6 ?_
  refine wp_icmp_le (M := mX11_closesSums) (pc := 14) (t := 37) dX11_closesSums_14 (by decide) (fun c1 => ?_) (fun c1 => ?_)
  · refine wp_aload_n (M := mX11_closesSums) (pc := 37) dX11_closesSums_37 rfl rfl ?_
    refine wp_aload_n (M := mX11_closesSums) (pc := 38) dX11_closesSums_38 rfl rfl ?_
    refine xs_callV (d := d) (M := mX11_closesSums) (pc := 39) (As := []) (st := [.ref 82]) (c := 11) (ls' := [.ref 82]) dX11_closesSums_39 oX11_waitTop nX11_waitTop lX11_185 vX11_waitTop sX11_waitTop rfl sh82 (Nat.le_of_ble_eq_true rfl) rfl (Nat.le_of_ble_eq_true rfl) rfl ?_
    exact p1 c1
  · refine wp_iload_n (M := mX11_closesSums) (pc := 17) dX11_closesSums_17 rfl rfl ?_
    refine wp_if_eq (M := mX11_closesSums) (pc := 18) (t := 59) dX11_closesSums_18 (by decide) (fun c2 => ?_) (fun c2 => ?_)
    · exact xs_ret (M := mX11_closesSums) (pc := 59) dX11_closesSums_59 rfl (p2 c1 c2)
    · refine wp_aload_n (M := mX11_closesSums) (pc := 21) dX11_closesSums_21 rfl rfl ?_
      refine xs_callV (d := d) (M := mX11_closesSums) (pc := 22) (As := []) (st := []) (c := 11) (ls' := [.ref 82]) dX11_closesSums_22 oX11_waitTop nX11_waitTop lX11_185 vX11_waitTop sX11_waitTop rfl sh82 (Nat.le_of_ble_eq_true rfl) rfl (Nat.le_of_ble_eq_true rfl) rfl ?_
      exact p3 c1 c2
theorem bX11_closesSums_25 {G : GC} {d : Nat} {sw : Bool} {f : FF} {Q : QQ} {x1 : Int32} {s0 : Int32} (p1 : (s0 = 2) → XP G mX11_waitTop (d) 0 [.ref 82] [] sw f (fun v sw' f' => XP G mX11_closesSums (d + 1) 42 [.ref 82, .int x1] (retst v [.ref 82]) sw' f' Q)) (p2 : (¬ s0 = 2) → XP G mX11_waitTop (d) 0 [.ref 82] [] sw f (fun v sw' f' => XP G mX11_closesSums (d + 1) 33 [.ref 82, .int x1] (retst v []) sw' f' Q)) : XP G mX11_closesSums (d + 1) 25 [.ref 82, .int x1] [.int s0] sw f Q := by
  refine wp_iconst (M := mX11_closesSums) (pc := 25) dX11_closesSums_25 k_iconst_2 ?_
  refine wp_icmp_eq (M := mX11_closesSums) (pc := 26) (t := 37) dX11_closesSums_26 (by decide) (fun c1 => ?_) (fun c1 => ?_)
  · refine wp_aload_n (M := mX11_closesSums) (pc := 37) dX11_closesSums_37 rfl rfl ?_
    refine wp_aload_n (M := mX11_closesSums) (pc := 38) dX11_closesSums_38 rfl rfl ?_
    refine xs_callV (d := d) (M := mX11_closesSums) (pc := 39) (As := []) (st := [.ref 82]) (c := 11) (ls' := [.ref 82]) dX11_closesSums_39 oX11_waitTop nX11_waitTop lX11_185 vX11_waitTop sX11_waitTop rfl sh82 (Nat.le_of_ble_eq_true rfl) rfl (Nat.le_of_ble_eq_true rfl) rfl ?_
    exact p1 c1
  · refine wp_aload_n (M := mX11_closesSums) (pc := 29) dX11_closesSums_29 rfl rfl ?_
    refine xs_callV (d := d) (M := mX11_closesSums) (pc := 30) (As := []) (st := []) (c := 11) (ls' := [.ref 82]) dX11_closesSums_30 oX11_waitTop nX11_waitTop lX11_185 vX11_waitTop sX11_waitTop rfl sh82 (Nat.le_of_ble_eq_true rfl) rfl (Nat.le_of_ble_eq_true rfl) rfl ?_
    exact p2 c1
theorem bX11_closesSums_33 {G : GC} {d : Nat} {sw : Bool} {f : FF} {Q : QQ} {x1 : Int32} {s0 : Int32} (p1 : (¬ s0 = 3) → Q none sw f) (p2 : (s0 = 3) → XP G mX11_waitTop (d) 0 [.ref 82] [] sw f (fun v sw' f' => XP G mX11_closesSums (d + 1) 42 [.ref 82, .int x1] (retst v [.ref 82]) sw' f' Q)) : XP G mX11_closesSums (d + 1) 33 [.ref 82, .int x1] [.int s0] sw f Q := by
  refine wp_iconst (M := mX11_closesSums) (pc := 33) dX11_closesSums_33 k_iconst_3 ?_
  refine wp_icmp_ne (M := mX11_closesSums) (pc := 34) (t := 59) dX11_closesSums_34 (by decide) (fun c1 => ?_) (fun c1 => ?_)
  · exact xs_ret (M := mX11_closesSums) (pc := 59) dX11_closesSums_59 rfl (p1 c1)
  · refine wp_aload_n (M := mX11_closesSums) (pc := 37) dX11_closesSums_37 rfl rfl ?_
    refine wp_aload_n (M := mX11_closesSums) (pc := 38) dX11_closesSums_38 rfl rfl ?_
    refine xs_callV (d := d) (M := mX11_closesSums) (pc := 39) (As := []) (st := [.ref 82]) (c := 11) (ls' := [.ref 82]) dX11_closesSums_39 oX11_waitTop nX11_waitTop lX11_185 vX11_waitTop sX11_waitTop rfl sh82 (Nat.le_of_ble_eq_true rfl) rfl (Nat.le_of_ble_eq_true rfl) rfl ?_
    exact p2 c1
theorem bX11_closesSums_42 {G : GC} {d : Nat} {sw : Bool} {f : FF} {Q : QQ} {x1 : Int32} {s0 : Int32} (p1 : XP G mX11_notes (d) 0 [.ref 82, .int s0, .int 0] [] sw f (fun v sw' f' => XP G mX11_closesSums (d + 1) 46 [.ref 82, .int x1] (retst v []) sw' f' Q)) : XP G mX11_closesSums (d + 1) 42 [.ref 82, .int x1] [.int s0, .ref 82] sw f Q := by
  refine wp_iconst (M := mX11_closesSums) (pc := 42) dX11_closesSums_42 k_iconst_0 ?_
  refine xs_callV (d := d) (M := mX11_closesSums) (pc := 43) (As := [.int s0, .int 0]) (st := []) (c := 11) (ls' := [.ref 82, .int s0, .int 0]) dX11_closesSums_43 oX11_notes nX11_notes lX11_188 vX11_notes sX11_notes rfl sh82 (Nat.le_of_ble_eq_true rfl) rfl (Nat.le_of_ble_eq_true rfl) rfl ?_
  exact p1
theorem bX11_closesSums_46 {G : GC} {d : Nat} {sw : Bool} {f : FF} {Q : QQ} {x1 : Int32} (p1 : XP G mX11_closesSums (d + 1) 0 [.ref 82, .int x1] [] sw (upd2 f 82 17 ((f 82 17) - 1)) Q) : XP G mX11_closesSums (d + 1) 46 [.ref 82, .int x1] [] sw f Q := by
  refine wp_aload_n (M := mX11_closesSums) (pc := 46) dX11_closesSums_46 rfl rfl ?_
  refine wp_aload_n (M := mX11_closesSums) (pc := 47) dX11_closesSums_47 rfl rfl ?_
  refine xs_geti (M := mX11_closesSums) (pc := 48) dX11_closesSums_48 fX11_182 sh82 rfl ?_
  refine wp_iconst (M := mX11_closesSums) (pc := 51) dX11_closesSums_51 k_iconst_1 ?_
  refine wp_isub (M := mX11_closesSums) (pc := 52) dX11_closesSums_52 ?_
  refine xs_puti (M := mX11_closesSums) (pc := 53) dX11_closesSums_53 pX11_182 sh82 rfl ?_
  refine wp_goto (M := mX11_closesSums) (pc := 56) (t := 0) dX11_closesSums_56 (by decide) ?_
  exact p1
theorem bX11_waitTop_0 {G : GC} {d : Nat} {sw : Bool} {f : FF} {Q : QQ}  (p1 : (¬ (f 82 17) = 0) → vp_in ((f 82 17) - 1) 260) (p2 : (¬ (f 82 17) = 0) → Q (some (.int ((f 92 (((f 82 17) - 1).toNatClampNeg)) / 1048576))) sw f) (p3 : ((f 82 17) = 0) → Q (some (.int (-1))) sw f) : XP G mX11_waitTop (d) 0 [.ref 82] [] sw f Q := by
  refine wp_aload_n (M := mX11_waitTop) (pc := 0) dX11_waitTop_0 rfl rfl ?_
  refine xs_geti (M := mX11_waitTop) (pc := 1) dX11_waitTop_1 fX11_182 sh82 rfl ?_
  refine wp_if_ne (M := mX11_waitTop) (pc := 4) (t := 11) dX11_waitTop_4 (by decide) (fun c1 => ?_) (fun c1 => ?_)
  · refine wp_aload_n (M := mX11_waitTop) (pc := 11) dX11_waitTop_11 rfl rfl ?_
    refine xs_getr (M := mX11_waitTop) (pc := 12) (r := 92) dX11_waitTop_12 fX11_38 sh82 rfl (gr82_21 sw) ?_
    refine wp_aload_n (M := mX11_waitTop) (pc := 15) dX11_waitTop_15 rfl rfl ?_
    refine xs_geti (M := mX11_waitTop) (pc := 16) dX11_waitTop_16 fX11_182 sh82 rfl ?_
    refine wp_iconst (M := mX11_waitTop) (pc := 19) dX11_waitTop_19 k_iconst_1 ?_
    refine wp_isub (M := mX11_waitTop) (pc := 20) dX11_waitTop_20 ?_
    refine xs_iald (M := mX11_waitTop) (pc := 21) (j := ((f 82 17) - 1).toNatClampNeg) dX11_waitTop_21 sh92 (p1 c1) rfl ?_
    refine wp_ldc (M := mX11_waitTop) (pc := 22) dX11_waitTop_22 kX11_178 ?_
    refine wp_idiv (M := mX11_waitTop) (pc := 24) dX11_waitTop_24 (by decide) ?_
    exact xs_iret (M := mX11_waitTop) (pc := 25) dX11_waitTop_25 rfl (p2 c1)
  · refine wp_iconst (M := mX11_waitTop) (pc := 7) dX11_waitTop_7 k_iconst_m1 ?_
    refine wp_goto (M := mX11_waitTop) (pc := 8) (t := 25) dX11_waitTop_8 (by decide) ?_
    exact xs_iret (M := mX11_waitTop) (pc := 25) dX11_waitTop_25 rfl (p3 c1)
theorem bX11_hasOpenSum_0 {G : GC} {d : Nat} {sw : Bool} {f : FF} {Q : QQ} {x1 : Int32} (p1 : XP G mX11_hasOpenSum (d) 2 [.ref 82, .int x1, .int x1] [] sw f Q) : XP G mX11_hasOpenSum (d) 0 [.ref 82, .int x1, .null] [] sw f Q := by
  refine wp_iload_n (M := mX11_hasOpenSum) (pc := 0) dX11_hasOpenSum_0 rfl rfl ?_
  refine wp_istore_n (M := mX11_hasOpenSum) (pc := 1) (ls' := [.ref 82, .int x1, .int x1]) dX11_hasOpenSum_1 rfl (by decide) rfl ?_
  exact p1
theorem bX11_hasOpenSum_2 {G : GC} {d : Nat} {sw : Bool} {f : FF} {Q : QQ} {x1 : Int32} {x2 : Int32} (p1 : ((f 82 17) ≤ x2) → Q (some (.int 0)) sw f) (p2 : (¬ (f 82 17) ≤ x2) → vp_in x2 260) (p3 : (¬ (f 82 17) ≤ x2) → (¬ ((f 92 x2.toNatClampNeg) / 1048576) = 14) → XP G mX11_hasOpenSum (d) 2 [.ref 82, .int x1, .int (x2 + 1)] [] sw f Q) (p4 : (¬ (f 82 17) ≤ x2) → (((f 92 x2.toNatClampNeg) / 1048576) = 14) → Q (some (.int 1)) sw f) : XP G mX11_hasOpenSum (d) 2 [.ref 82, .int x1, .int x2] [] sw f Q := by
  refine wp_iload_n (M := mX11_hasOpenSum) (pc := 2) dX11_hasOpenSum_2 rfl rfl ?_
  refine wp_aload_n (M := mX11_hasOpenSum) (pc := 3) dX11_hasOpenSum_3 rfl rfl ?_
  refine xs_geti (M := mX11_hasOpenSum) (pc := 4) dX11_hasOpenSum_4 fX11_182 sh82 rfl ?_
  refine wp_icmp_ge (M := mX11_hasOpenSum) (pc := 7) (t := 32) dX11_hasOpenSum_7 (by decide) (fun c1 => ?_) (fun c1 => ?_)
  · refine wp_iconst (M := mX11_hasOpenSum) (pc := 32) dX11_hasOpenSum_32 k_iconst_0 ?_
    exact xs_zret (M := mX11_hasOpenSum) (pc := 33) dX11_hasOpenSum_33 rfl (by decide) (p1 c1)
  · refine wp_aload_n (M := mX11_hasOpenSum) (pc := 10) dX11_hasOpenSum_10 rfl rfl ?_
    refine xs_getr (M := mX11_hasOpenSum) (pc := 11) (r := 92) dX11_hasOpenSum_11 fX11_38 sh82 rfl (gr82_21 sw) ?_
    refine wp_iload_n (M := mX11_hasOpenSum) (pc := 14) dX11_hasOpenSum_14 rfl rfl ?_
    refine xs_iald (M := mX11_hasOpenSum) (pc := 15) (j := x2.toNatClampNeg) dX11_hasOpenSum_15 sh92 (p2 c1) rfl ?_
    refine wp_ldc (M := mX11_hasOpenSum) (pc := 16) dX11_hasOpenSum_16 kX11_178 ?_
    refine wp_idiv (M := mX11_hasOpenSum) (pc := 18) dX11_hasOpenSum_18 (by decide) ?_
    refine wp_bipush (M := mX11_hasOpenSum) (pc := 19) dX11_hasOpenSum_19 k_bipush_14 ?_
    refine wp_icmp_ne (M := mX11_hasOpenSum) (pc := 21) (t := 26) dX11_hasOpenSum_21 (by decide) (fun c2 => ?_) (fun c2 => ?_)
    · refine wp_iinc (M := mX11_hasOpenSum) (pc := 26) (v := x2 + 1) (ls' := [.ref 82, .int x1, .int (x2 + 1)]) dX11_hasOpenSum_26 rfl (congrArg (fun z => _ + z) k_iconst_1) (by decide) rfl ?_
      refine wp_goto (M := mX11_hasOpenSum) (pc := 29) (t := 2) dX11_hasOpenSum_29 (by decide) ?_
      exact p3 c1 c2
    · refine wp_iconst (M := mX11_hasOpenSum) (pc := 24) dX11_hasOpenSum_24 k_iconst_1 ?_
      exact xs_zret (M := mX11_hasOpenSum) (pc := 25) dX11_hasOpenSum_25 rfl (by decide) (p4 c1 c2)
theorem bX11_readsCondition_0 {G : GC} {d : Nat} {sw : Bool} {f : FF} {Q : QQ}  (p1 : f 82 11 < f 82 12 → vp_in (f 82 11) 260) (p2 : ((hereF f) = 40) → XP G mX11_opens (d + 5) 0 [.ref 82, .int 13] [] sw (upd2 (upd2 f 82 15 0) 82 17 0) (fun v sw' f' => XP G mX11_readsCondition (d + 6) 35 [.ref 82] (retst v []) sw' f' Q)) (p3 : (¬ (hereF f) = 40) → XP G mX11_wrongAt (d + 5) 0 [.ref 82, .int 1, .int (f 82 11)] [] sw f (fun v sw' f' => XP G mX11_readsCondition (d + 6) 18 [.ref 82] (retst v []) sw' f' Q)) : XP G mX11_readsCondition (d + 6) 0 [.ref 82] [] sw f Q := by
  refine wp_aload_n (M := mX11_readsCondition) (pc := 0) dX11_readsCondition_0 rfl rfl ?_
  refine xs_callV (d := d + 5) (M := mX11_readsCondition) (pc := 1) (As := []) (st := []) (c := 11) (ls' := [.ref 82]) dX11_readsCondition_1 oX11_here nX11_here lX11_158 vX11_here sX11_here rfl sh82 (Nat.le_of_ble_eq_true rfl) rfl (Nat.le_of_ble_eq_true rfl) rfl ?_
  refine sp_X11_here  (p1) ?_
  refine wp_bipush (M := mX11_readsCondition) (pc := 4) dX11_readsCondition_4 k_bipush_40 ?_
  refine wp_icmp_eq (M := mX11_readsCondition) (pc := 6) (t := 19) dX11_readsCondition_6 (by decide) (fun c1 => ?_) (fun c1 => ?_)
  · refine wp_aload_n (M := mX11_readsCondition) (pc := 19) dX11_readsCondition_19 rfl rfl ?_
    refine wp_iconst (M := mX11_readsCondition) (pc := 20) dX11_readsCondition_20 k_iconst_0 ?_
    refine xs_puti (M := mX11_readsCondition) (pc := 21) dX11_readsCondition_21 pX11_179 sh82 rfl ?_
    refine wp_aload_n (M := mX11_readsCondition) (pc := 24) dX11_readsCondition_24 rfl rfl ?_
    refine wp_iconst (M := mX11_readsCondition) (pc := 25) dX11_readsCondition_25 k_iconst_0 ?_
    refine xs_puti (M := mX11_readsCondition) (pc := 26) dX11_readsCondition_26 pX11_182 sh82 rfl ?_
    refine wp_aload_n (M := mX11_readsCondition) (pc := 29) dX11_readsCondition_29 rfl rfl ?_
    refine wp_bipush (M := mX11_readsCondition) (pc := 30) dX11_readsCondition_30 k_bipush_13 ?_
    refine xs_callV (d := d + 5) (M := mX11_readsCondition) (pc := 32) (As := [.int 13]) (st := []) (c := 11) (ls' := [.ref 82, .int 13]) dX11_readsCondition_32 oX11_opens nX11_opens lX11_192 vX11_opens sX11_opens rfl sh82 (Nat.le_of_ble_eq_true rfl) rfl (Nat.le_of_ble_eq_true rfl) rfl ?_
    exact p2 c1
  · refine wp_aload_n (M := mX11_readsCondition) (pc := 9) dX11_readsCondition_9 rfl rfl ?_
    refine wp_iconst (M := mX11_readsCondition) (pc := 10) dX11_readsCondition_10 k_iconst_1 ?_
    refine wp_aload_n (M := mX11_readsCondition) (pc := 11) dX11_readsCondition_11 rfl rfl ?_
    refine xs_geti (M := mX11_readsCondition) (pc := 12) dX11_readsCondition_12 fX11_152 sh82 rfl ?_
    refine xs_callV (d := d + 5) (M := mX11_readsCondition) (pc := 15) (As := [.int 1, .int (f 82 11)]) (st := []) (c := 11) (ls' := [.ref 82, .int 1, .int (f 82 11)]) dX11_readsCondition_15 oX11_wrongAt nX11_wrongAt lX11_165 vX11_wrongAt sX11_wrongAt rfl sh82 (Nat.le_of_ble_eq_true rfl) rfl (Nat.le_of_ble_eq_true rfl) rfl ?_
    exact p3 c1
theorem bX11_readsCondition_18 {G : GC} {d : Nat} {sw : Bool} {f : FF} {Q : QQ} {s0 : Int32} (p1 : s0 = 0 ∨ s0 = 1) (p2 : Q (some (.int s0)) sw f) : XP G mX11_readsCondition (d + 6) 18 [.ref 82] [.int s0] sw f Q := by
  exact xs_zret (M := mX11_readsCondition) (pc := 18) dX11_readsCondition_18 rfl (p1) (p2)
theorem bX11_readsCondition_35 {G : GC} {d : Nat} {sw : Bool} {f : FF} {Q : QQ} {s0 : Int32} (p1 : (¬ s0 = 0) → XP G mX11_readsCondition (d + 6) 40 [.ref 82] [] sw f Q) (p2 : (s0 = 0) → Q (some (.int 0)) sw f) : XP G mX11_readsCondition (d + 6) 35 [.ref 82] [.int s0] sw f Q := by
  refine wp_if_ne (M := mX11_readsCondition) (pc := 35) (t := 40) dX11_readsCondition_35 (by decide) (fun c1 => ?_) (fun c1 => ?_)
  · exact p1 c1
  · refine wp_iconst (M := mX11_readsCondition) (pc := 38) dX11_readsCondition_38 k_iconst_0 ?_
    exact xs_zret (M := mX11_readsCondition) (pc := 39) dX11_readsCondition_39 rfl (by decide) (p2 c1)
theorem bX11_readsCondition_40 {G : GC} {d : Nat} {sw : Bool} {f : FF} {Q : QQ}  (p1 : f 82 11 < f 82 12 → vp_in (f 82 11) 260) (p2 : ((hereF f) = 33) → f 82 11 < f 82 12 → vp_in (f 82 11) 260) (p3 : ((hereF f) = 33) → (¬ (hereF f) = 33) → XP G mX11_opens (d + 5) 0 [.ref 82, .int 13] [] sw f (fun v sw' f' => XP G mX11_readsCondition (d + 6) 78 [.ref 82] (retst v []) sw' f' Q)) (p4 : ((hereF f) = 33) → ((hereF f) = 33) → XP G mX11_opens (d + 5) 0 [.ref 82, .int 10] [] sw f (fun v sw' f' => XP G mX11_readsCondition (d + 6) 78 [.ref 82] (retst v []) sw' f' Q)) (p5 : (¬ (hereF f) = 33) → f 82 11 < f 82 12 → vp_in (f 82 11) 260) (p6 : (¬ (hereF f) = 33) → (¬ (hereF f) = 40) → XP G mX11_readsCompared (d + 5) 0 [.ref 82, .null] [] sw f (fun v sw' f' => XP G mX11_readsCondition (d + 6) 87 [.ref 82] (retst v []) sw' f' Q)) (p7 : (¬ (hereF f) = 33) → ((hereF f) = 40) → f 82 11 < f 82 12 → vp_in (f 82 11) 260) (p8 : (¬ (hereF f) = 33) → ((hereF f) = 40) → (¬ (hereF f) = 33) → XP G mX11_opens (d + 5) 0 [.ref 82, .int 13] [] sw f (fun v sw' f' => XP G mX11_readsCondition (d + 6) 78 [.ref 82] (retst v []) sw' f' Q)) (p9 : (¬ (hereF f) = 33) → ((hereF f) = 40) → ((hereF f) = 33) → XP G mX11_opens (d + 5) 0 [.ref 82, .int 10] [] sw f (fun v sw' f' => XP G mX11_readsCondition (d + 6) 78 [.ref 82] (retst v []) sw' f' Q)) : XP G mX11_readsCondition (d + 6) 40 [.ref 82] [] sw f Q := by
  refine wp_aload_n (M := mX11_readsCondition) (pc := 40) dX11_readsCondition_40 rfl rfl ?_
  refine xs_callV (d := d + 5) (M := mX11_readsCondition) (pc := 41) (As := []) (st := []) (c := 11) (ls' := [.ref 82]) dX11_readsCondition_41 oX11_here nX11_here lX11_158 vX11_here sX11_here rfl sh82 (Nat.le_of_ble_eq_true rfl) rfl (Nat.le_of_ble_eq_true rfl) rfl ?_
  refine sp_X11_here  (p1) ?_
  refine wp_bipush (M := mX11_readsCondition) (pc := 44) dX11_readsCondition_44 k_bipush_33 ?_
  refine wp_icmp_eq (M := mX11_readsCondition) (pc := 46) (t := 58) dX11_readsCondition_46 (by decide) (fun c1 => ?_) (fun c1 => ?_)
  · refine wp_aload_n (M := mX11_readsCondition) (pc := 58) dX11_readsCondition_58 rfl rfl ?_
    refine wp_aload_n (M := mX11_readsCondition) (pc := 59) dX11_readsCondition_59 rfl rfl ?_
    refine xs_callV (d := d + 5) (M := mX11_readsCondition) (pc := 60) (As := []) (st := [.ref 82]) (c := 11) (ls' := [.ref 82]) dX11_readsCondition_60 oX11_here nX11_here lX11_158 vX11_here sX11_here rfl sh82 (Nat.le_of_ble_eq_true rfl) rfl (Nat.le_of_ble_eq_true rfl) rfl ?_
    refine sp_X11_here  (p2 c1) ?_
    refine wp_bipush (M := mX11_readsCondition) (pc := 63) dX11_readsCondition_63 k_bipush_33 ?_
    refine wp_icmp_ne (M := mX11_readsCondition) (pc := 65) (t := 73) dX11_readsCondition_65 (by decide) (fun c2 => ?_) (fun c2 => ?_)
    · refine wp_bipush (M := mX11_readsCondition) (pc := 73) dX11_readsCondition_73 k_bipush_13 ?_
      refine xs_callV (d := d + 5) (M := mX11_readsCondition) (pc := 75) (As := [.int 13]) (st := []) (c := 11) (ls' := [.ref 82, .int 13]) dX11_readsCondition_75 oX11_opens nX11_opens lX11_192 vX11_opens sX11_opens rfl sh82 (Nat.le_of_ble_eq_true rfl) rfl (Nat.le_of_ble_eq_true rfl) rfl ?_
      exact p3 c1 c2
    · refine wp_bipush (M := mX11_readsCondition) (pc := 68) dX11_readsCondition_68 k_bipush_10 ?_
      refine wp_goto (M := mX11_readsCondition) (pc := 70) (t := 75) dX11_readsCondition_70 (by decide) ?_
      refine xs_callV (d := d + 5) (M := mX11_readsCondition) (pc := 75) (As := [.int 10]) (st := []) (c := 11) (ls' := [.ref 82, .int 10]) dX11_readsCondition_75 oX11_opens nX11_opens lX11_192 vX11_opens sX11_opens rfl sh82 (Nat.le_of_ble_eq_true rfl) rfl (Nat.le_of_ble_eq_true rfl) rfl ?_
      exact p4 c1 c2
  · refine wp_aload_n (M := mX11_readsCondition) (pc := 49) dX11_readsCondition_49 rfl rfl ?_
    refine xs_callV (d := d + 5) (M := mX11_readsCondition) (pc := 50) (As := []) (st := []) (c := 11) (ls' := [.ref 82]) dX11_readsCondition_50 oX11_here nX11_here lX11_158 vX11_here sX11_here rfl sh82 (Nat.le_of_ble_eq_true rfl) rfl (Nat.le_of_ble_eq_true rfl) rfl ?_
    refine sp_X11_here  (p5 c1) ?_
    refine wp_bipush (M := mX11_readsCondition) (pc := 53) dX11_readsCondition_53 k_bipush_40 ?_
    refine wp_icmp_ne (M := mX11_readsCondition) (pc := 55) (t := 83) dX11_readsCondition_55 (by decide) (fun c3 => ?_) (fun c3 => ?_)
    · refine wp_aload_n (M := mX11_readsCondition) (pc := 83) dX11_readsCondition_83 rfl rfl ?_
      refine xs_callV (d := d + 5) (M := mX11_readsCondition) (pc := 84) (As := []) (st := []) (c := 11) (ls' := [.ref 82, .null]) dX11_readsCondition_84 oX11_readsCompared nX11_readsCompared lX11_220 vX11_readsCompared sX11_readsCompared rfl sh82 (Nat.le_of_ble_eq_true rfl) rfl (Nat.le_of_ble_eq_true rfl) rfl ?_
      exact p6 c1 c3
    · refine wp_aload_n (M := mX11_readsCondition) (pc := 58) dX11_readsCondition_58 rfl rfl ?_
      refine wp_aload_n (M := mX11_readsCondition) (pc := 59) dX11_readsCondition_59 rfl rfl ?_
      refine xs_callV (d := d + 5) (M := mX11_readsCondition) (pc := 60) (As := []) (st := [.ref 82]) (c := 11) (ls' := [.ref 82]) dX11_readsCondition_60 oX11_here nX11_here lX11_158 vX11_here sX11_here rfl sh82 (Nat.le_of_ble_eq_true rfl) rfl (Nat.le_of_ble_eq_true rfl) rfl ?_
      refine sp_X11_here  (p7 c1 c3) ?_
      refine wp_bipush (M := mX11_readsCondition) (pc := 63) dX11_readsCondition_63 k_bipush_33 ?_
      refine wp_icmp_ne (M := mX11_readsCondition) (pc := 65) (t := 73) dX11_readsCondition_65 (by decide) (fun c4 => ?_) (fun c4 => ?_)
      · refine wp_bipush (M := mX11_readsCondition) (pc := 73) dX11_readsCondition_73 k_bipush_13 ?_
        refine xs_callV (d := d + 5) (M := mX11_readsCondition) (pc := 75) (As := [.int 13]) (st := []) (c := 11) (ls' := [.ref 82, .int 13]) dX11_readsCondition_75 oX11_opens nX11_opens lX11_192 vX11_opens sX11_opens rfl sh82 (Nat.le_of_ble_eq_true rfl) rfl (Nat.le_of_ble_eq_true rfl) rfl ?_
        exact p8 c1 c3 c4
      · refine wp_bipush (M := mX11_readsCondition) (pc := 68) dX11_readsCondition_68 k_bipush_10 ?_
        refine wp_goto (M := mX11_readsCondition) (pc := 70) (t := 75) dX11_readsCondition_70 (by decide) ?_
        refine xs_callV (d := d + 5) (M := mX11_readsCondition) (pc := 75) (As := [.int 10]) (st := []) (c := 11) (ls' := [.ref 82, .int 10]) dX11_readsCondition_75 oX11_opens nX11_opens lX11_192 vX11_opens sX11_opens rfl sh82 (Nat.le_of_ble_eq_true rfl) rfl (Nat.le_of_ble_eq_true rfl) rfl ?_
        exact p9 c1 c3 c4
theorem bX11_readsCondition_78 {G : GC} {d : Nat} {sw : Bool} {f : FF} {Q : QQ} {s0 : Int32} (p1 : (¬ s0 = 0) → XP G mX11_readsCondition (d + 6) 40 [.ref 82] [] sw f Q) (p2 : (s0 = 0) → Q (some (.int 0)) sw f) : XP G mX11_readsCondition (d + 6) 78 [.ref 82] [.int s0] sw f Q := by
  refine wp_if_ne (M := mX11_readsCondition) (pc := 78) (t := 40) dX11_readsCondition_78 (by decide) (fun c1 => ?_) (fun c1 => ?_)
  · exact p1 c1
  · refine wp_iconst (M := mX11_readsCondition) (pc := 81) dX11_readsCondition_81 k_iconst_0 ?_
    exact xs_zret (M := mX11_readsCondition) (pc := 82) dX11_readsCondition_82 rfl (by decide) (p2 c1)
theorem bX11_readsCondition_87 {G : GC} {d : Nat} {sw : Bool} {f : FF} {Q : QQ} {s0 : Int32} (p1 : (¬ s0 = 0) → XP G mX11_readsCondition (d + 6) 92 [.ref 82] [] sw f Q) (p2 : (s0 = 0) → Q (some (.int 0)) sw f) : XP G mX11_readsCondition (d + 6) 87 [.ref 82] [.int s0] sw f Q := by
  refine wp_if_ne (M := mX11_readsCondition) (pc := 87) (t := 92) dX11_readsCondition_87 (by decide) (fun c1 => ?_) (fun c1 => ?_)
  · exact p1 c1
  · refine wp_iconst (M := mX11_readsCondition) (pc := 90) dX11_readsCondition_90 k_iconst_0 ?_
    exact xs_zret (M := mX11_readsCondition) (pc := 91) dX11_readsCondition_91 rfl (by decide) (p2 c1)
theorem bX11_readsCondition_92 {G : GC} {d : Nat} {sw : Bool} {f : FF} {Q : QQ}  (p1 : f 82 11 < f 82 12 → vp_in (f 82 11) 260) (p2 : (¬ (hereF f) = 41) → f 82 11 < f 82 12 → vp_in (f 82 11) 260) (p3 : (¬ (hereF f) = 41) → ((hereF f) = 38) → f 82 11 < f 82 12 → vp_in (f 82 11) 260) (p4 : (¬ (hereF f) = 41) → ((hereF f) = 38) → (¬ (hereF f) = 124) → XP G mX11_lands (d + 5) 0 [.ref 82, .int 0, .null] [] sw f (fun v sw' f' => XP G mX11_readsCondition (d + 6) 198 [.ref 82] (retst v []) sw' f' Q)) (p5 : (¬ (hereF f) = 41) → ((hereF f) = 38) → ((hereF f) = 124) → XP G mX11_lands (d + 5) 0 [.ref 82, .int 1, .null] [] sw f (fun v sw' f' => XP G mX11_readsCondition (d + 6) 198 [.ref 82] (retst v []) sw' f' Q)) (p6 : (¬ (hereF f) = 41) → (¬ (hereF f) = 38) → f 82 11 < f 82 12 → vp_in (f 82 11) 260) (p7 : (¬ (hereF f) = 41) → (¬ (hereF f) = 38) → ((hereF f) = 124) → f 82 11 < f 82 12 → vp_in (f 82 11) 260) (p8 : (¬ (hereF f) = 41) → (¬ (hereF f) = 38) → ((hereF f) = 124) → (¬ (hereF f) = 124) → XP G mX11_lands (d + 5) 0 [.ref 82, .int 0, .null] [] sw f (fun v sw' f' => XP G mX11_readsCondition (d + 6) 198 [.ref 82] (retst v []) sw' f' Q)) (p9 : (¬ (hereF f) = 41) → (¬ (hereF f) = 38) → ((hereF f) = 124) → ((hereF f) = 124) → XP G mX11_lands (d + 5) 0 [.ref 82, .int 1, .null] [] sw f (fun v sw' f' => XP G mX11_readsCondition (d + 6) 198 [.ref 82] (retst v []) sw' f' Q)) (p10 : (¬ (hereF f) = 41) → (¬ (hereF f) = 38) → (¬ (hereF f) = 124) → XP G mX11_wrongAt (d + 5) 0 [.ref 82, .int 1, .int (f 82 11)] [] sw f (fun v sw' f' => XP G mX11_readsCondition (d + 6) 179 [.ref 82] (retst v []) sw' f' Q)) (p11 : ((hereF f) = 41) → XP G mX11_lands (d + 5) 0 [.ref 82, .int 1, .null] [] sw f (fun v sw' f' => XP G mX11_readsCondition (d + 6) 106 [.ref 82] (retst v []) sw' f' Q)) : XP G mX11_readsCondition (d + 6) 92 [.ref 82] [] sw f Q := by
  refine wp_aload_n (M := mX11_readsCondition) (pc := 92) dX11_readsCondition_92 rfl rfl ?_
  refine xs_callV (d := d + 5) (M := mX11_readsCondition) (pc := 93) (As := []) (st := []) (c := 11) (ls' := [.ref 82]) dX11_readsCondition_93 oX11_here nX11_here lX11_158 vX11_here sX11_here rfl sh82 (Nat.le_of_ble_eq_true rfl) rfl (Nat.le_of_ble_eq_true rfl) rfl ?_
  refine sp_X11_here  (p1) ?_
  refine wp_bipush (M := mX11_readsCondition) (pc := 96) dX11_readsCondition_96 k_bipush_41 ?_
  refine wp_icmp_ne (M := mX11_readsCondition) (pc := 98) (t := 152) dX11_readsCondition_98 (by decide) (fun c1 => ?_) (fun c1 => ?_)
  · refine wp_aload_n (M := mX11_readsCondition) (pc := 152) dX11_readsCondition_152 rfl rfl ?_
    refine xs_callV (d := d + 5) (M := mX11_readsCondition) (pc := 153) (As := []) (st := []) (c := 11) (ls' := [.ref 82]) dX11_readsCondition_153 oX11_here nX11_here lX11_158 vX11_here sX11_here rfl sh82 (Nat.le_of_ble_eq_true rfl) rfl (Nat.le_of_ble_eq_true rfl) rfl ?_
    refine sp_X11_here  (p2 c1) ?_
    refine wp_bipush (M := mX11_readsCondition) (pc := 156) dX11_readsCondition_156 k_bipush_38 ?_
    refine wp_icmp_eq (M := mX11_readsCondition) (pc := 158) (t := 180) dX11_readsCondition_158 (by decide) (fun c2 => ?_) (fun c2 => ?_)
    · refine wp_aload_n (M := mX11_readsCondition) (pc := 180) dX11_readsCondition_180 rfl rfl ?_
      refine wp_aload_n (M := mX11_readsCondition) (pc := 181) dX11_readsCondition_181 rfl rfl ?_
      refine xs_callV (d := d + 5) (M := mX11_readsCondition) (pc := 182) (As := []) (st := [.ref 82]) (c := 11) (ls' := [.ref 82]) dX11_readsCondition_182 oX11_here nX11_here lX11_158 vX11_here sX11_here rfl sh82 (Nat.le_of_ble_eq_true rfl) rfl (Nat.le_of_ble_eq_true rfl) rfl ?_
      refine sp_X11_here  (p3 c1 c2) ?_
      refine wp_bipush (M := mX11_readsCondition) (pc := 185) dX11_readsCondition_185 k_bipush_124 ?_
      refine wp_icmp_ne (M := mX11_readsCondition) (pc := 187) (t := 194) dX11_readsCondition_187 (by decide) (fun c3 => ?_) (fun c3 => ?_)
      · refine wp_iconst (M := mX11_readsCondition) (pc := 194) dX11_readsCondition_194 k_iconst_0 ?_
        refine xs_callV (d := d + 5) (M := mX11_readsCondition) (pc := 195) (As := [.int 0]) (st := []) (c := 11) (ls' := [.ref 82, .int 0, .null]) dX11_readsCondition_195 oX11_lands nX11_lands lX11_223 vX11_lands sX11_lands rfl sh82 (Nat.le_of_ble_eq_true rfl) rfl (Nat.le_of_ble_eq_true rfl) rfl ?_
        exact p4 c1 c2 c3
      · refine wp_iconst (M := mX11_readsCondition) (pc := 190) dX11_readsCondition_190 k_iconst_1 ?_
        refine wp_goto (M := mX11_readsCondition) (pc := 191) (t := 195) dX11_readsCondition_191 (by decide) ?_
        refine xs_callV (d := d + 5) (M := mX11_readsCondition) (pc := 195) (As := [.int 1]) (st := []) (c := 11) (ls' := [.ref 82, .int 1, .null]) dX11_readsCondition_195 oX11_lands nX11_lands lX11_223 vX11_lands sX11_lands rfl sh82 (Nat.le_of_ble_eq_true rfl) rfl (Nat.le_of_ble_eq_true rfl) rfl ?_
        exact p5 c1 c2 c3
    · refine wp_aload_n (M := mX11_readsCondition) (pc := 161) dX11_readsCondition_161 rfl rfl ?_
      refine xs_callV (d := d + 5) (M := mX11_readsCondition) (pc := 162) (As := []) (st := []) (c := 11) (ls' := [.ref 82]) dX11_readsCondition_162 oX11_here nX11_here lX11_158 vX11_here sX11_here rfl sh82 (Nat.le_of_ble_eq_true rfl) rfl (Nat.le_of_ble_eq_true rfl) rfl ?_
      refine sp_X11_here  (p6 c1 c2) ?_
      refine wp_bipush (M := mX11_readsCondition) (pc := 165) dX11_readsCondition_165 k_bipush_124 ?_
      refine wp_icmp_eq (M := mX11_readsCondition) (pc := 167) (t := 180) dX11_readsCondition_167 (by decide) (fun c4 => ?_) (fun c4 => ?_)
      · refine wp_aload_n (M := mX11_readsCondition) (pc := 180) dX11_readsCondition_180 rfl rfl ?_
        refine wp_aload_n (M := mX11_readsCondition) (pc := 181) dX11_readsCondition_181 rfl rfl ?_
        refine xs_callV (d := d + 5) (M := mX11_readsCondition) (pc := 182) (As := []) (st := [.ref 82]) (c := 11) (ls' := [.ref 82]) dX11_readsCondition_182 oX11_here nX11_here lX11_158 vX11_here sX11_here rfl sh82 (Nat.le_of_ble_eq_true rfl) rfl (Nat.le_of_ble_eq_true rfl) rfl ?_
        refine sp_X11_here  (p7 c1 c2 c4) ?_
        refine wp_bipush (M := mX11_readsCondition) (pc := 185) dX11_readsCondition_185 k_bipush_124 ?_
        refine wp_icmp_ne (M := mX11_readsCondition) (pc := 187) (t := 194) dX11_readsCondition_187 (by decide) (fun c5 => ?_) (fun c5 => ?_)
        · refine wp_iconst (M := mX11_readsCondition) (pc := 194) dX11_readsCondition_194 k_iconst_0 ?_
          refine xs_callV (d := d + 5) (M := mX11_readsCondition) (pc := 195) (As := [.int 0]) (st := []) (c := 11) (ls' := [.ref 82, .int 0, .null]) dX11_readsCondition_195 oX11_lands nX11_lands lX11_223 vX11_lands sX11_lands rfl sh82 (Nat.le_of_ble_eq_true rfl) rfl (Nat.le_of_ble_eq_true rfl) rfl ?_
          exact p8 c1 c2 c4 c5
        · refine wp_iconst (M := mX11_readsCondition) (pc := 190) dX11_readsCondition_190 k_iconst_1 ?_
          refine wp_goto (M := mX11_readsCondition) (pc := 191) (t := 195) dX11_readsCondition_191 (by decide) ?_
          refine xs_callV (d := d + 5) (M := mX11_readsCondition) (pc := 195) (As := [.int 1]) (st := []) (c := 11) (ls' := [.ref 82, .int 1, .null]) dX11_readsCondition_195 oX11_lands nX11_lands lX11_223 vX11_lands sX11_lands rfl sh82 (Nat.le_of_ble_eq_true rfl) rfl (Nat.le_of_ble_eq_true rfl) rfl ?_
          exact p9 c1 c2 c4 c5
      · refine wp_aload_n (M := mX11_readsCondition) (pc := 170) dX11_readsCondition_170 rfl rfl ?_
        refine wp_iconst (M := mX11_readsCondition) (pc := 171) dX11_readsCondition_171 k_iconst_1 ?_
        refine wp_aload_n (M := mX11_readsCondition) (pc := 172) dX11_readsCondition_172 rfl rfl ?_
        refine xs_geti (M := mX11_readsCondition) (pc := 173) dX11_readsCondition_173 fX11_152 sh82 rfl ?_
        refine xs_callV (d := d + 5) (M := mX11_readsCondition) (pc := 176) (As := [.int 1, .int (f 82 11)]) (st := []) (c := 11) (ls' := [.ref 82, .int 1, .int (f 82 11)]) dX11_readsCondition_176 oX11_wrongAt nX11_wrongAt lX11_165 vX11_wrongAt sX11_wrongAt rfl sh82 (Nat.le_of_ble_eq_true rfl) rfl (Nat.le_of_ble_eq_true rfl) rfl ?_
        exact p10 c1 c2 c4
  · refine wp_aload_n (M := mX11_readsCondition) (pc := 101) dX11_readsCondition_101 rfl rfl ?_
    refine wp_iconst (M := mX11_readsCondition) (pc := 102) dX11_readsCondition_102 k_iconst_1 ?_
    refine xs_callV (d := d + 5) (M := mX11_readsCondition) (pc := 103) (As := [.int 1]) (st := []) (c := 11) (ls' := [.ref 82, .int 1, .null]) dX11_readsCondition_103 oX11_lands nX11_lands lX11_223 vX11_lands sX11_lands rfl sh82 (Nat.le_of_ble_eq_true rfl) rfl (Nat.le_of_ble_eq_true rfl) rfl ?_
    exact p11 c1
theorem bX11_readsCondition_106 {G : GC} {d : Nat} {sw : Bool} {f : FF} {Q : QQ}  (p1 : (¬ ((upd2 (upd2 (upd2 f 82 17 ((f 82 17) - 1)) 82 15 (((upd2 f 82 17 ((f 82 17) - 1)) 82 15) - 1)) 82 11 (((upd2 (upd2 f 82 17 ((f 82 17) - 1)) 82 15 (((upd2 f 82 17 ((f 82 17) - 1)) 82 15) - 1)) 82 11) + 1)) 82 17) = 0) → XP G mX11_endsPiece (d + 5) 0 [.ref 82] [] sw (upd2 (upd2 (upd2 f 82 17 ((f 82 17) - 1)) 82 15 (((upd2 f 82 17 ((f 82 17) - 1)) 82 15) - 1)) 82 11 (((upd2 (upd2 f 82 17 ((f 82 17) - 1)) 82 15 (((upd2 f 82 17 ((f 82 17) - 1)) 82 15) - 1)) 82 11) + 1)) (fun v sw' f' => XP G mX11_readsCondition (d + 6) 149 [.ref 82] (retst v []) sw' f' Q)) (p2 : (((upd2 (upd2 (upd2 f 82 17 ((f 82 17) - 1)) 82 15 (((upd2 f 82 17 ((f 82 17) - 1)) 82 15) - 1)) 82 11 (((upd2 (upd2 f 82 17 ((f 82 17) - 1)) 82 15 (((upd2 f 82 17 ((f 82 17) - 1)) 82 15) - 1)) 82 11) + 1)) 82 17) = 0) → Q (some (.int 1)) sw (upd2 (upd2 (upd2 f 82 17 ((f 82 17) - 1)) 82 15 (((upd2 f 82 17 ((f 82 17) - 1)) 82 15) - 1)) 82 11 (((upd2 (upd2 f 82 17 ((f 82 17) - 1)) 82 15 (((upd2 f 82 17 ((f 82 17) - 1)) 82 15) - 1)) 82 11) + 1))) : XP G mX11_readsCondition (d + 6) 106 [.ref 82] [] sw f Q := by
  refine wp_aload_n (M := mX11_readsCondition) (pc := 106) dX11_readsCondition_106 rfl rfl ?_
  refine wp_aload_n (M := mX11_readsCondition) (pc := 107) dX11_readsCondition_107 rfl rfl ?_
  refine xs_geti (M := mX11_readsCondition) (pc := 108) dX11_readsCondition_108 fX11_182 sh82 rfl ?_
  refine wp_iconst (M := mX11_readsCondition) (pc := 111) dX11_readsCondition_111 k_iconst_1 ?_
  refine wp_isub (M := mX11_readsCondition) (pc := 112) dX11_readsCondition_112 ?_
  refine xs_puti (M := mX11_readsCondition) (pc := 113) dX11_readsCondition_113 pX11_182 sh82 rfl ?_
  refine wp_aload_n (M := mX11_readsCondition) (pc := 116) dX11_readsCondition_116 rfl rfl ?_
  refine wp_aload_n (M := mX11_readsCondition) (pc := 117) dX11_readsCondition_117 rfl rfl ?_
  refine xs_geti (M := mX11_readsCondition) (pc := 118) dX11_readsCondition_118 fX11_179 sh82 rfl ?_
  refine wp_iconst (M := mX11_readsCondition) (pc := 121) dX11_readsCondition_121 k_iconst_1 ?_
  refine wp_isub (M := mX11_readsCondition) (pc := 122) dX11_readsCondition_122 ?_
  refine xs_puti (M := mX11_readsCondition) (pc := 123) dX11_readsCondition_123 pX11_179 sh82 rfl ?_
  refine wp_aload_n (M := mX11_readsCondition) (pc := 126) dX11_readsCondition_126 rfl rfl ?_
  refine wp_aload_n (M := mX11_readsCondition) (pc := 127) dX11_readsCondition_127 rfl rfl ?_
  refine xs_geti (M := mX11_readsCondition) (pc := 128) dX11_readsCondition_128 fX11_152 sh82 rfl ?_
  refine wp_iconst (M := mX11_readsCondition) (pc := 131) dX11_readsCondition_131 k_iconst_1 ?_
  refine wp_iadd (M := mX11_readsCondition) (pc := 132) dX11_readsCondition_132 ?_
  refine xs_puti (M := mX11_readsCondition) (pc := 133) dX11_readsCondition_133 pX11_152 sh82 rfl ?_
  refine wp_aload_n (M := mX11_readsCondition) (pc := 136) dX11_readsCondition_136 rfl rfl ?_
  refine xs_geti (M := mX11_readsCondition) (pc := 137) dX11_readsCondition_137 fX11_182 sh82 rfl ?_
  refine wp_if_ne (M := mX11_readsCondition) (pc := 140) (t := 145) dX11_readsCondition_140 (by decide) (fun c1 => ?_) (fun c1 => ?_)
  · refine wp_aload_n (M := mX11_readsCondition) (pc := 145) dX11_readsCondition_145 rfl rfl ?_
    refine xs_callV (d := d + 5) (M := mX11_readsCondition) (pc := 146) (As := []) (st := []) (c := 11) (ls' := [.ref 82]) dX11_readsCondition_146 oX11_endsPiece nX11_endsPiece lX11_217 vX11_endsPiece sX11_endsPiece rfl sh82 (Nat.le_of_ble_eq_true rfl) rfl (Nat.le_of_ble_eq_true rfl) rfl ?_
    exact p1 c1
  · refine wp_iconst (M := mX11_readsCondition) (pc := 143) dX11_readsCondition_143 k_iconst_1 ?_
    exact xs_zret (M := mX11_readsCondition) (pc := 144) dX11_readsCondition_144 rfl (by decide) (p2 c1)
theorem bX11_readsCondition_149 {G : GC} {d : Nat} {sw : Bool} {f : FF} {Q : QQ}  (p1 : XP G mX11_readsCondition (d + 6) 92 [.ref 82] [] sw f Q) : XP G mX11_readsCondition (d + 6) 149 [.ref 82] [] sw f Q := by
  refine wp_goto (M := mX11_readsCondition) (pc := 149) (t := 92) dX11_readsCondition_149 (by decide) ?_
  exact p1
theorem bX11_readsCondition_179 {G : GC} {d : Nat} {sw : Bool} {f : FF} {Q : QQ} {s0 : Int32} (p1 : s0 = 0 ∨ s0 = 1) (p2 : Q (some (.int s0)) sw f) : XP G mX11_readsCondition (d + 6) 179 [.ref 82] [.int s0] sw f Q := by
  exact xs_zret (M := mX11_readsCondition) (pc := 179) dX11_readsCondition_179 rfl (p1) (p2)
theorem bX11_readsCondition_198 {G : GC} {d : Nat} {sw : Bool} {f : FF} {Q : QQ}  (p1 : f 82 11 < f 82 12 → vp_in (f 82 11) 260) (p2 : (¬ (hereF f) = 38) → XP G mX11_jumps (d + 5) 0 [.ref 82, .int 12] [] sw f (fun v sw' f' => XP G mX11_readsCondition (d + 6) 218 [.ref 82] (retst v []) sw' f' Q)) (p3 : ((hereF f) = 38) → XP G mX11_jumps (d + 5) 0 [.ref 82, .int 11] [] sw f (fun v sw' f' => XP G mX11_readsCondition (d + 6) 218 [.ref 82] (retst v []) sw' f' Q)) : XP G mX11_readsCondition (d + 6) 198 [.ref 82] [] sw f Q := by
  refine wp_aload_n (M := mX11_readsCondition) (pc := 198) dX11_readsCondition_198 rfl rfl ?_
  refine wp_aload_n (M := mX11_readsCondition) (pc := 199) dX11_readsCondition_199 rfl rfl ?_
  refine xs_callV (d := d + 5) (M := mX11_readsCondition) (pc := 200) (As := []) (st := [.ref 82]) (c := 11) (ls' := [.ref 82]) dX11_readsCondition_200 oX11_here nX11_here lX11_158 vX11_here sX11_here rfl sh82 (Nat.le_of_ble_eq_true rfl) rfl (Nat.le_of_ble_eq_true rfl) rfl ?_
  refine sp_X11_here  (p1) ?_
  refine wp_bipush (M := mX11_readsCondition) (pc := 203) dX11_readsCondition_203 k_bipush_38 ?_
  refine wp_icmp_ne (M := mX11_readsCondition) (pc := 205) (t := 213) dX11_readsCondition_205 (by decide) (fun c1 => ?_) (fun c1 => ?_)
  · refine wp_bipush (M := mX11_readsCondition) (pc := 213) dX11_readsCondition_213 k_bipush_12 ?_
    refine xs_callV (d := d + 5) (M := mX11_readsCondition) (pc := 215) (As := [.int 12]) (st := []) (c := 11) (ls' := [.ref 82, .int 12]) dX11_readsCondition_215 oX11_jumps nX11_jumps lX11_226 vX11_jumps sX11_jumps rfl sh82 (Nat.le_of_ble_eq_true rfl) rfl (Nat.le_of_ble_eq_true rfl) rfl ?_
    exact p2 c1
  · refine wp_bipush (M := mX11_readsCondition) (pc := 208) dX11_readsCondition_208 k_bipush_11 ?_
    refine wp_goto (M := mX11_readsCondition) (pc := 210) (t := 215) dX11_readsCondition_210 (by decide) ?_
    refine xs_callV (d := d + 5) (M := mX11_readsCondition) (pc := 215) (As := [.int 11]) (st := []) (c := 11) (ls' := [.ref 82, .int 11]) dX11_readsCondition_215 oX11_jumps nX11_jumps lX11_226 vX11_jumps sX11_jumps rfl sh82 (Nat.le_of_ble_eq_true rfl) rfl (Nat.le_of_ble_eq_true rfl) rfl ?_
    exact p3 c1
theorem bX11_readsCondition_218 {G : GC} {d : Nat} {sw : Bool} {f : FF} {Q : QQ}  (p1 : XP G mX11_readsCondition (d + 6) 40 [.ref 82] [] sw f Q) : XP G mX11_readsCondition (d + 6) 218 [.ref 82] [] sw f Q := by
  refine wp_goto (M := mX11_readsCondition) (pc := 218) (t := 40) dX11_readsCondition_218 (by decide) ?_
  exact p1
theorem bX11_readsCompared_0 {G : GC} {d : Nat} {sw : Bool} {f : FF} {Q : QQ}  (p1 : XP G mX11_readsSum (d + 4) 0 [.ref 82, .null, .null] [] sw f (fun v sw' f' => XP G mX11_readsCompared (d + 5) 4 [.ref 82, .null] (retst v []) sw' f' Q)) : XP G mX11_readsCompared (d + 5) 0 [.ref 82, .null] [] sw f Q := by
  refine wp_aload_n (M := mX11_readsCompared) (pc := 0) dX11_readsCompared_0 rfl rfl ?_
  refine xs_callV (d := d + 4) (M := mX11_readsCompared) (pc := 1) (As := []) (st := []) (c := 11) (ls' := [.ref 82, .null, .null]) dX11_readsCompared_1 oX11_readsSum nX11_readsSum lX11_214 vX11_readsSum sX11_readsSum rfl sh82 (Nat.le_of_ble_eq_true rfl) rfl (Nat.le_of_ble_eq_true rfl) rfl ?_
  exact p1
theorem bX11_readsCompared_4 {G : GC} {d : Nat} {sw : Bool} {f : FF} {Q : QQ} {v1 : Value} {s0 : Int32} (p1 : (¬ s0 = 0) → f 82 11 < f 82 12 → vp_in (f 82 11) 260) (p2 : (¬ s0 = 0) → (¬ (hereF f) = 60) → f 82 11 < f 82 12 → vp_in (f 82 11) 260) (p3 : (¬ s0 = 0) → (¬ (hereF f) = 60) → (¬ (hereF f) = 62) → f 82 11 < f 82 12 → vp_in (f 82 11) 260) (p4 : (¬ s0 = 0) → (¬ (hereF f) = 60) → (¬ (hereF f) = 62) → (¬ (hereF f) = 61) → XP G mX11_wrongAt (d + 4) 0 [.ref 82, .int 1, .int (f 82 11)] [] sw f (fun v sw' f' => XP G mX11_readsCompared (d + 5) 67 [.ref 82, .int (-1)] (retst v []) sw' f' Q)) (p5 : (¬ s0 = 0) → (¬ (hereF f) = 60) → (¬ (hereF f) = 62) → ((hereF f) = 61) → XP G mX11_readsSum (d + 4) 0 [.ref 82, .null, .null] [] sw (upd2 f 82 11 ((f 82 11) + 1)) (fun v sw' f' => XP G mX11_readsCompared (d + 5) 82 [.ref 82, .int 9] (retst v []) sw' f' Q)) (p6 : (¬ s0 = 0) → (¬ (hereF f) = 60) → ((hereF f) = 62) → XP G mX11_readsSum (d + 4) 0 [.ref 82, .null, .null] [] sw (upd2 f 82 11 ((f 82 11) + 1)) (fun v sw' f' => XP G mX11_readsCompared (d + 5) 82 [.ref 82, .int 8] (retst v []) sw' f' Q)) (p7 : (¬ s0 = 0) → ((hereF f) = 60) → XP G mX11_readsSum (d + 4) 0 [.ref 82, .null, .null] [] sw (upd2 f 82 11 ((f 82 11) + 1)) (fun v sw' f' => XP G mX11_readsCompared (d + 5) 82 [.ref 82, .int 7] (retst v []) sw' f' Q)) (p8 : (s0 = 0) → Q (some (.int 0)) sw f) : XP G mX11_readsCompared (d + 5) 4 [.ref 82, v1] [.int s0] sw f Q := by
  refine wp_if_ne (M := mX11_readsCompared) (pc := 4) (t := 9) dX11_readsCompared_4 (by decide) (fun c1 => ?_) (fun c1 => ?_)
  · refine wp_aload_n (M := mX11_readsCompared) (pc := 9) dX11_readsCompared_9 rfl rfl ?_
    refine xs_callV (d := d + 4) (M := mX11_readsCompared) (pc := 10) (As := []) (st := []) (c := 11) (ls' := [.ref 82]) dX11_readsCompared_10 oX11_here nX11_here lX11_158 vX11_here sX11_here rfl sh82 (Nat.le_of_ble_eq_true rfl) rfl (Nat.le_of_ble_eq_true rfl) rfl ?_
    refine sp_X11_here  (p1 c1) ?_
    refine wp_bipush (M := mX11_readsCompared) (pc := 13) dX11_readsCompared_13 k_bipush_60 ?_
    refine wp_icmp_ne (M := mX11_readsCompared) (pc := 15) (t := 23) dX11_readsCompared_15 (by decide) (fun c2 => ?_) (fun c2 => ?_)
    · refine wp_aload_n (M := mX11_readsCompared) (pc := 23) dX11_readsCompared_23 rfl rfl ?_
      refine xs_callV (d := d + 4) (M := mX11_readsCompared) (pc := 24) (As := []) (st := []) (c := 11) (ls' := [.ref 82]) dX11_readsCompared_24 oX11_here nX11_here lX11_158 vX11_here sX11_here rfl sh82 (Nat.le_of_ble_eq_true rfl) rfl (Nat.le_of_ble_eq_true rfl) rfl ?_
      refine sp_X11_here  (p2 c1 c2) ?_
      refine wp_bipush (M := mX11_readsCompared) (pc := 27) dX11_readsCompared_27 k_bipush_62 ?_
      refine wp_icmp_ne (M := mX11_readsCompared) (pc := 29) (t := 37) dX11_readsCompared_29 (by decide) (fun c3 => ?_) (fun c3 => ?_)
      · refine wp_aload_n (M := mX11_readsCompared) (pc := 37) dX11_readsCompared_37 rfl rfl ?_
        refine xs_callV (d := d + 4) (M := mX11_readsCompared) (pc := 38) (As := []) (st := []) (c := 11) (ls' := [.ref 82]) dX11_readsCompared_38 oX11_here nX11_here lX11_158 vX11_here sX11_here rfl sh82 (Nat.le_of_ble_eq_true rfl) rfl (Nat.le_of_ble_eq_true rfl) rfl ?_
        refine sp_X11_here  (p3 c1 c2 c3) ?_
        refine wp_bipush (M := mX11_readsCompared) (pc := 41) dX11_readsCompared_41 k_bipush_61 ?_
        refine wp_icmp_ne (M := mX11_readsCompared) (pc := 43) (t := 51) dX11_readsCompared_43 (by decide) (fun c4 => ?_) (fun c4 => ?_)
        · refine wp_iconst (M := mX11_readsCompared) (pc := 51) dX11_readsCompared_51 k_iconst_m1 ?_
          refine wp_istore_n (M := mX11_readsCompared) (pc := 52) (ls' := [.ref 82, .int (-1)]) dX11_readsCompared_52 rfl (by decide) rfl ?_
          refine wp_iload_n (M := mX11_readsCompared) (pc := 53) dX11_readsCompared_53 rfl rfl ?_
          refine wp_iconst (M := mX11_readsCompared) (pc := 54) dX11_readsCompared_54 k_iconst_m1 ?_
          refine wp_icmp_ne (M := mX11_readsCompared) (pc := 55) (t := 68) dX11_readsCompared_55 (by decide) (fun c => absurd c (by decide)) (fun _ => ?_)
          refine wp_aload_n (M := mX11_readsCompared) (pc := 58) dX11_readsCompared_58 rfl rfl ?_
          refine wp_iconst (M := mX11_readsCompared) (pc := 59) dX11_readsCompared_59 k_iconst_1 ?_
          refine wp_aload_n (M := mX11_readsCompared) (pc := 60) dX11_readsCompared_60 rfl rfl ?_
          refine xs_geti (M := mX11_readsCompared) (pc := 61) dX11_readsCompared_61 fX11_152 sh82 rfl ?_
          refine xs_callV (d := d + 4) (M := mX11_readsCompared) (pc := 64) (As := [.int 1, .int (f 82 11)]) (st := []) (c := 11) (ls' := [.ref 82, .int 1, .int (f 82 11)]) dX11_readsCompared_64 oX11_wrongAt nX11_wrongAt lX11_165 vX11_wrongAt sX11_wrongAt rfl sh82 (Nat.le_of_ble_eq_true rfl) rfl (Nat.le_of_ble_eq_true rfl) rfl ?_
          exact p4 c1 c2 c3 c4
        · refine wp_bipush (M := mX11_readsCompared) (pc := 46) dX11_readsCompared_46 k_bipush_9 ?_
          refine wp_goto (M := mX11_readsCompared) (pc := 48) (t := 52) dX11_readsCompared_48 (by decide) ?_
          refine wp_istore_n (M := mX11_readsCompared) (pc := 52) (ls' := [.ref 82, .int 9]) dX11_readsCompared_52 rfl (by decide) rfl ?_
          refine wp_iload_n (M := mX11_readsCompared) (pc := 53) dX11_readsCompared_53 rfl rfl ?_
          refine wp_iconst (M := mX11_readsCompared) (pc := 54) dX11_readsCompared_54 k_iconst_m1 ?_
          refine wp_icmp_ne (M := mX11_readsCompared) (pc := 55) (t := 68) dX11_readsCompared_55 (by decide) (fun _ => ?_) (fun c => absurd c (by decide))
          refine wp_aload_n (M := mX11_readsCompared) (pc := 68) dX11_readsCompared_68 rfl rfl ?_
          refine wp_aload_n (M := mX11_readsCompared) (pc := 69) dX11_readsCompared_69 rfl rfl ?_
          refine xs_geti (M := mX11_readsCompared) (pc := 70) dX11_readsCompared_70 fX11_152 sh82 rfl ?_
          refine wp_iconst (M := mX11_readsCompared) (pc := 73) dX11_readsCompared_73 k_iconst_1 ?_
          refine wp_iadd (M := mX11_readsCompared) (pc := 74) dX11_readsCompared_74 ?_
          refine xs_puti (M := mX11_readsCompared) (pc := 75) dX11_readsCompared_75 pX11_152 sh82 rfl ?_
          refine wp_aload_n (M := mX11_readsCompared) (pc := 78) dX11_readsCompared_78 rfl rfl ?_
          refine xs_callV (d := d + 4) (M := mX11_readsCompared) (pc := 79) (As := []) (st := []) (c := 11) (ls' := [.ref 82, .null, .null]) dX11_readsCompared_79 oX11_readsSum nX11_readsSum lX11_214 vX11_readsSum sX11_readsSum rfl sh82 (Nat.le_of_ble_eq_true rfl) rfl (Nat.le_of_ble_eq_true rfl) rfl ?_
          exact p5 c1 c2 c3 c4
      · refine wp_bipush (M := mX11_readsCompared) (pc := 32) dX11_readsCompared_32 k_bipush_8 ?_
        refine wp_goto (M := mX11_readsCompared) (pc := 34) (t := 52) dX11_readsCompared_34 (by decide) ?_
        refine wp_istore_n (M := mX11_readsCompared) (pc := 52) (ls' := [.ref 82, .int 8]) dX11_readsCompared_52 rfl (by decide) rfl ?_
        refine wp_iload_n (M := mX11_readsCompared) (pc := 53) dX11_readsCompared_53 rfl rfl ?_
        refine wp_iconst (M := mX11_readsCompared) (pc := 54) dX11_readsCompared_54 k_iconst_m1 ?_
        refine wp_icmp_ne (M := mX11_readsCompared) (pc := 55) (t := 68) dX11_readsCompared_55 (by decide) (fun _ => ?_) (fun c => absurd c (by decide))
        refine wp_aload_n (M := mX11_readsCompared) (pc := 68) dX11_readsCompared_68 rfl rfl ?_
        refine wp_aload_n (M := mX11_readsCompared) (pc := 69) dX11_readsCompared_69 rfl rfl ?_
        refine xs_geti (M := mX11_readsCompared) (pc := 70) dX11_readsCompared_70 fX11_152 sh82 rfl ?_
        refine wp_iconst (M := mX11_readsCompared) (pc := 73) dX11_readsCompared_73 k_iconst_1 ?_
        refine wp_iadd (M := mX11_readsCompared) (pc := 74) dX11_readsCompared_74 ?_
        refine xs_puti (M := mX11_readsCompared) (pc := 75) dX11_readsCompared_75 pX11_152 sh82 rfl ?_
        refine wp_aload_n (M := mX11_readsCompared) (pc := 78) dX11_readsCompared_78 rfl rfl ?_
        refine xs_callV (d := d + 4) (M := mX11_readsCompared) (pc := 79) (As := []) (st := []) (c := 11) (ls' := [.ref 82, .null, .null]) dX11_readsCompared_79 oX11_readsSum nX11_readsSum lX11_214 vX11_readsSum sX11_readsSum rfl sh82 (Nat.le_of_ble_eq_true rfl) rfl (Nat.le_of_ble_eq_true rfl) rfl ?_
        exact p6 c1 c2 c3
    · refine wp_bipush (M := mX11_readsCompared) (pc := 18) dX11_readsCompared_18 k_bipush_7 ?_
      refine wp_goto (M := mX11_readsCompared) (pc := 20) (t := 52) dX11_readsCompared_20 (by decide) ?_
      refine wp_istore_n (M := mX11_readsCompared) (pc := 52) (ls' := [.ref 82, .int 7]) dX11_readsCompared_52 rfl (by decide) rfl ?_
      refine wp_iload_n (M := mX11_readsCompared) (pc := 53) dX11_readsCompared_53 rfl rfl ?_
      refine wp_iconst (M := mX11_readsCompared) (pc := 54) dX11_readsCompared_54 k_iconst_m1 ?_
      refine wp_icmp_ne (M := mX11_readsCompared) (pc := 55) (t := 68) dX11_readsCompared_55 (by decide) (fun _ => ?_) (fun c => absurd c (by decide))
      refine wp_aload_n (M := mX11_readsCompared) (pc := 68) dX11_readsCompared_68 rfl rfl ?_
      refine wp_aload_n (M := mX11_readsCompared) (pc := 69) dX11_readsCompared_69 rfl rfl ?_
      refine xs_geti (M := mX11_readsCompared) (pc := 70) dX11_readsCompared_70 fX11_152 sh82 rfl ?_
      refine wp_iconst (M := mX11_readsCompared) (pc := 73) dX11_readsCompared_73 k_iconst_1 ?_
      refine wp_iadd (M := mX11_readsCompared) (pc := 74) dX11_readsCompared_74 ?_
      refine xs_puti (M := mX11_readsCompared) (pc := 75) dX11_readsCompared_75 pX11_152 sh82 rfl ?_
      refine wp_aload_n (M := mX11_readsCompared) (pc := 78) dX11_readsCompared_78 rfl rfl ?_
      refine xs_callV (d := d + 4) (M := mX11_readsCompared) (pc := 79) (As := []) (st := []) (c := 11) (ls' := [.ref 82, .null, .null]) dX11_readsCompared_79 oX11_readsSum nX11_readsSum lX11_214 vX11_readsSum sX11_readsSum rfl sh82 (Nat.le_of_ble_eq_true rfl) rfl (Nat.le_of_ble_eq_true rfl) rfl ?_
      exact p7 c1 c2
  · refine wp_iconst (M := mX11_readsCompared) (pc := 7) dX11_readsCompared_7 k_iconst_0 ?_
    exact xs_zret (M := mX11_readsCompared) (pc := 8) dX11_readsCompared_8 rfl (by decide) (p8 c1)
theorem bX11_readsCompared_67 {G : GC} {d : Nat} {sw : Bool} {f : FF} {Q : QQ} {x1 : Int32} {s0 : Int32} (p1 : s0 = 0 ∨ s0 = 1) (p2 : Q (some (.int s0)) sw f) : XP G mX11_readsCompared (d + 5) 67 [.ref 82, .int x1] [.int s0] sw f Q := by
  exact xs_zret (M := mX11_readsCompared) (pc := 67) dX11_readsCompared_67 rfl (p1) (p2)
theorem bX11_readsCompared_82 {G : GC} {d : Nat} {sw : Bool} {f : FF} {Q : QQ} {x1 : Int32} {s0 : Int32} (p1 : (¬ s0 = 0) → XP G mX11_notes (d + 4) 0 [.ref 82, .int x1, .int 0] [] sw f (fun v sw' f' => XP G mX11_readsCompared (d + 5) 93 [.ref 82, .int x1] (retst v []) sw' f' Q)) (p2 : (s0 = 0) → Q (some (.int 0)) sw f) : XP G mX11_readsCompared (d + 5) 82 [.ref 82, .int x1] [.int s0] sw f Q := by
  refine wp_if_ne (M := mX11_readsCompared) (pc := 82) (t := 87) dX11_readsCompared_82 (by decide) (fun c1 => ?_) (fun c1 => ?_)
  · refine wp_aload_n (M := mX11_readsCompared) (pc := 87) dX11_readsCompared_87 rfl rfl ?_
    refine wp_iload_n (M := mX11_readsCompared) (pc := 88) dX11_readsCompared_88 rfl rfl ?_
    refine wp_iconst (M := mX11_readsCompared) (pc := 89) dX11_readsCompared_89 k_iconst_0 ?_
    refine xs_callV (d := d + 4) (M := mX11_readsCompared) (pc := 90) (As := [.int x1, .int 0]) (st := []) (c := 11) (ls' := [.ref 82, .int x1, .int 0]) dX11_readsCompared_90 oX11_notes nX11_notes lX11_188 vX11_notes sX11_notes rfl sh82 (Nat.le_of_ble_eq_true rfl) rfl (Nat.le_of_ble_eq_true rfl) rfl ?_
    exact p1 c1
  · refine wp_iconst (M := mX11_readsCompared) (pc := 85) dX11_readsCompared_85 k_iconst_0 ?_
    exact xs_zret (M := mX11_readsCompared) (pc := 86) dX11_readsCompared_86 rfl (by decide) (p2 c1)
theorem bX11_readsCompared_93 {G : GC} {d : Nat} {sw : Bool} {f : FF} {Q : QQ} {x1 : Int32} (p1 : XP G mX11_endsPiece (d + 4) 0 [.ref 82] [] sw f (fun v sw' f' => XP G mX11_readsCompared (d + 5) 97 [.ref 82, .int x1] (retst v []) sw' f' Q)) : XP G mX11_readsCompared (d + 5) 93 [.ref 82, .int x1] [] sw f Q := by
  refine wp_aload_n (M := mX11_readsCompared) (pc := 93) dX11_readsCompared_93 rfl rfl ?_
  refine xs_callV (d := d + 4) (M := mX11_readsCompared) (pc := 94) (As := []) (st := []) (c := 11) (ls' := [.ref 82]) dX11_readsCompared_94 oX11_endsPiece nX11_endsPiece lX11_217 vX11_endsPiece sX11_endsPiece rfl sh82 (Nat.le_of_ble_eq_true rfl) rfl (Nat.le_of_ble_eq_true rfl) rfl ?_
  exact p1
theorem bX11_readsCompared_97 {G : GC} {d : Nat} {sw : Bool} {f : FF} {Q : QQ} {x1 : Int32} (p1 : Q (some (.int 1)) sw f) : XP G mX11_readsCompared (d + 5) 97 [.ref 82, .int x1] [] sw f Q := by
  refine wp_iconst (M := mX11_readsCompared) (pc := 97) dX11_readsCompared_97 k_iconst_1 ?_
  exact xs_zret (M := mX11_readsCompared) (pc := 98) dX11_readsCompared_98 rfl (by decide) (p1)
theorem bX11_endsPiece_0 {G : GC} {d : Nat} {sw : Bool} {f : FF} {Q : QQ}  (p1 : XP G mX11_waitTop (d) 0 [.ref 82] [] sw f (fun v sw' f' => XP G mX11_endsPiece (d + 1) 4 [.ref 82] (retst v []) sw' f' Q)) : XP G mX11_endsPiece (d + 1) 0 [.ref 82] [] sw f Q := by
  refine wp_aload_n (M := mX11_endsPiece) (pc := 0) dX11_endsPiece_0 rfl rfl ?_
  refine xs_callV (d := d) (M := mX11_endsPiece) (pc := 1) (As := []) (st := []) (c := 11) (ls' := [.ref 82]) dX11_endsPiece_1 oX11_waitTop nX11_waitTop lX11_185 vX11_waitTop sX11_waitTop rfl sh82 (Nat.le_of_ble_eq_true rfl) rfl (Nat.le_of_ble_eq_true rfl) rfl ?_
  exact p1
theorem bX11_endsPiece_4 {G : GC} {d : Nat} {sw : Bool} {f : FF} {Q : QQ} {s0 : Int32} (p1 : (¬ s0 = 10) → Q none sw f) (p2 : (s0 = 10) → XP G mX11_notes (d) 0 [.ref 82, .int 10, .int 0] [] sw f (fun v sw' f' => XP G mX11_endsPiece (d + 1) 16 [.ref 82] (retst v []) sw' f' Q)) : XP G mX11_endsPiece (d + 1) 4 [.ref 82] [.int s0] sw f Q := by
  refine wp_bipush (M := mX11_endsPiece) (pc := 4) dX11_endsPiece_4 k_bipush_10 ?_
  refine wp_icmp_ne (M := mX11_endsPiece) (pc := 6) (t := 39) dX11_endsPiece_6 (by decide) (fun c1 => ?_) (fun c1 => ?_)
  · exact xs_ret (M := mX11_endsPiece) (pc := 39) dX11_endsPiece_39 rfl (p1 c1)
  · refine wp_aload_n (M := mX11_endsPiece) (pc := 9) dX11_endsPiece_9 rfl rfl ?_
    refine wp_bipush (M := mX11_endsPiece) (pc := 10) dX11_endsPiece_10 k_bipush_10 ?_
    refine wp_iconst (M := mX11_endsPiece) (pc := 12) dX11_endsPiece_12 k_iconst_0 ?_
    refine xs_callV (d := d) (M := mX11_endsPiece) (pc := 13) (As := [.int 10, .int 0]) (st := []) (c := 11) (ls' := [.ref 82, .int 10, .int 0]) dX11_endsPiece_13 oX11_notes nX11_notes lX11_188 vX11_notes sX11_notes rfl sh82 (Nat.le_of_ble_eq_true rfl) rfl (Nat.le_of_ble_eq_true rfl) rfl ?_
    exact p2 c1
theorem bX11_endsPiece_16 {G : GC} {d : Nat} {sw : Bool} {f : FF} {Q : QQ}  (p1 : XP G mX11_endsPiece (d + 1) 0 [.ref 82] [] sw (upd2 (upd2 f 82 17 ((f 82 17) - 1)) 82 15 (((upd2 f 82 17 ((f 82 17) - 1)) 82 15) - 1)) Q) : XP G mX11_endsPiece (d + 1) 16 [.ref 82] [] sw f Q := by
  refine wp_aload_n (M := mX11_endsPiece) (pc := 16) dX11_endsPiece_16 rfl rfl ?_
  refine wp_aload_n (M := mX11_endsPiece) (pc := 17) dX11_endsPiece_17 rfl rfl ?_
  refine xs_geti (M := mX11_endsPiece) (pc := 18) dX11_endsPiece_18 fX11_182 sh82 rfl ?_
  refine wp_iconst (M := mX11_endsPiece) (pc := 21) dX11_endsPiece_21 k_iconst_1 ?_
  refine wp_isub (M := mX11_endsPiece) (pc := 22) dX11_endsPiece_22 ?_
  refine xs_puti (M := mX11_endsPiece) (pc := 23) dX11_endsPiece_23 pX11_182 sh82 rfl ?_
  refine wp_aload_n (M := mX11_endsPiece) (pc := 26) dX11_endsPiece_26 rfl rfl ?_
  refine wp_aload_n (M := mX11_endsPiece) (pc := 27) dX11_endsPiece_27 rfl rfl ?_
  refine xs_geti (M := mX11_endsPiece) (pc := 28) dX11_endsPiece_28 fX11_179 sh82 rfl ?_
  refine wp_iconst (M := mX11_endsPiece) (pc := 31) dX11_endsPiece_31 k_iconst_1 ?_
  refine wp_isub (M := mX11_endsPiece) (pc := 32) dX11_endsPiece_32 ?_
  refine xs_puti (M := mX11_endsPiece) (pc := 33) dX11_endsPiece_33 pX11_179 sh82 rfl ?_
  refine wp_goto (M := mX11_endsPiece) (pc := 36) (t := 0) dX11_endsPiece_36 (by decide) ?_
  exact p1
theorem bX11_lands_0 {G : GC} {d : Nat} {sw : Bool} {f : FF} {Q : QQ} {x1 : Int32} {v2 : Value} (p1 : XP G mX11_waitTop (d) 0 [.ref 82] [] sw f (fun v sw' f' => XP G mX11_lands (d + 1) 4 [.ref 82, .int x1, v2] (retst v []) sw' f' Q)) : XP G mX11_lands (d + 1) 0 [.ref 82, .int x1, v2] [] sw f Q := by
  refine wp_aload_n (M := mX11_lands) (pc := 0) dX11_lands_0 rfl rfl ?_
  refine xs_callV (d := d) (M := mX11_lands) (pc := 1) (As := []) (st := []) (c := 11) (ls' := [.ref 82]) dX11_lands_1 oX11_waitTop nX11_waitTop lX11_185 vX11_waitTop sX11_waitTop rfl sh82 (Nat.le_of_ble_eq_true rfl) rfl (Nat.le_of_ble_eq_true rfl) rfl ?_
  exact p1
theorem bX11_lands_4 {G : GC} {d : Nat} {sw : Bool} {f : FF} {Q : QQ} {x1 : Int32} {v2 : Value} {s0 : Int32} (p1 : (s0 = 11) → vp_in ((f 82 17) - 1) 260) (p2 : (s0 = 11) → vp_in ((f 92 (((f 82 17) - 1).toNatClampNeg)) - (f 92 (((f 82 17) - 1).toNatClampNeg)) / 1048576 * 1048576) 260) (p3 : (s0 = 11) → vp_in ((f 92 (((f 82 17) - 1).toNatClampNeg)) - (f 92 (((f 82 17) - 1).toNatClampNeg)) / 1048576 * 1048576) 260) (p4 : (s0 = 11) → XP G mX11_lands (d + 1) 0 [.ref 82, .int x1, .int ((f 92 (((f 82 17) - 1).toNatClampNeg)) - (f 92 (((f 82 17) - 1).toNatClampNeg)) / 1048576 * 1048576)] [] sw (upd2 (upd2 f 91 (((f 92 (((f 82 17) - 1).toNatClampNeg)) - (f 92 (((f 82 17) - 1).toNatClampNeg)) / 1048576 * 1048576).toNatClampNeg) ((1048576 * ((f 91 (((f 92 (((f 82 17) - 1).toNatClampNeg)) - (f 92 (((f 82 17) - 1).toNatClampNeg)) / 1048576 * 1048576).toNatClampNeg)) / 1048576)) + (f 82 16))) 82 17 (((upd2 f 91 (((f 92 (((f 82 17) - 1).toNatClampNeg)) - (f 92 (((f 82 17) - 1).toNatClampNeg)) / 1048576 * 1048576).toNatClampNeg) ((1048576 * ((f 91 (((f 92 (((f 82 17) - 1).toNatClampNeg)) - (f 92 (((f 82 17) - 1).toNatClampNeg)) / 1048576 * 1048576).toNatClampNeg)) / 1048576)) + (f 82 16))) 82 17) - 1)) Q) (p5 : (¬ s0 = 11) → (x1 = 0) → Q none sw f) (p6 : (¬ s0 = 11) → (¬ x1 = 0) → XP G mX11_waitTop (d) 0 [.ref 82] [] sw f (fun v sw' f' => XP G mX11_lands (d + 1) 17 [.ref 82, .int x1, v2] (retst v []) sw' f' Q)) : XP G mX11_lands (d + 1) 4 [.ref 82, .int x1, v2] [.int s0] sw f Q := by
  refine wp_bipush (M := mX11_lands) (pc := 4) dX11_lands_4 k_bipush_11 ?_
  refine wp_icmp_eq (M := mX11_lands) (pc := 6) (t := 22) dX11_lands_6 (by decide) (fun c1 => ?_) (fun c1 => ?_)
  · refine wp_aload_n (M := mX11_lands) (pc := 22) dX11_lands_22 rfl rfl ?_
    refine xs_getr (M := mX11_lands) (pc := 23) (r := 92) dX11_lands_23 fX11_38 sh82 rfl (gr82_21 sw) ?_
    refine wp_aload_n (M := mX11_lands) (pc := 26) dX11_lands_26 rfl rfl ?_
    refine xs_geti (M := mX11_lands) (pc := 27) dX11_lands_27 fX11_182 sh82 rfl ?_
    refine wp_iconst (M := mX11_lands) (pc := 30) dX11_lands_30 k_iconst_1 ?_
    refine wp_isub (M := mX11_lands) (pc := 31) dX11_lands_31 ?_
    refine xs_iald (M := mX11_lands) (pc := 32) (j := ((f 82 17) - 1).toNatClampNeg) dX11_lands_32 sh92 (p1 c1) rfl ?_
    refine wp_ldc (M := mX11_lands) (pc := 33) dX11_lands_33 kX11_178 ?_
    refine wp_irem (M := mX11_lands) (pc := 35) dX11_lands_35 (by decide) ?_
    refine wp_istore_n (M := mX11_lands) (pc := 36) (ls' := [.ref 82, .int x1, .int ((f 92 (((f 82 17) - 1).toNatClampNeg)) - (f 92 (((f 82 17) - 1).toNatClampNeg)) / 1048576 * 1048576)]) dX11_lands_36 rfl (by decide) rfl ?_
    refine wp_aload_n (M := mX11_lands) (pc := 37) dX11_lands_37 rfl rfl ?_
    refine xs_getr (M := mX11_lands) (pc := 38) (r := 91) dX11_lands_38 fX11_35 sh82 rfl (gr82_20 sw) ?_
    refine wp_iload_n (M := mX11_lands) (pc := 41) dX11_lands_41 rfl rfl ?_
    refine wp_ldc (M := mX11_lands) (pc := 42) dX11_lands_42 kX11_178 ?_
    refine wp_aload_n (M := mX11_lands) (pc := 44) dX11_lands_44 rfl rfl ?_
    refine xs_getr (M := mX11_lands) (pc := 45) (r := 91) dX11_lands_45 fX11_35 sh82 rfl (gr82_20 sw) ?_
    refine wp_iload_n (M := mX11_lands) (pc := 48) dX11_lands_48 rfl rfl ?_
    refine xs_iald (M := mX11_lands) (pc := 49) (j := ((f 92 (((f 82 17) - 1).toNatClampNeg)) - (f 92 (((f 82 17) - 1).toNatClampNeg)) / 1048576 * 1048576).toNatClampNeg) dX11_lands_49 sh91 (p2 c1) rfl ?_
    refine wp_ldc (M := mX11_lands) (pc := 50) dX11_lands_50 kX11_178 ?_
    refine wp_idiv (M := mX11_lands) (pc := 52) dX11_lands_52 (by decide) ?_
    refine wp_imul (M := mX11_lands) (pc := 53) dX11_lands_53 ?_
    refine wp_aload_n (M := mX11_lands) (pc := 54) dX11_lands_54 rfl rfl ?_
    refine xs_geti (M := mX11_lands) (pc := 55) dX11_lands_55 fX11_175 sh82 rfl ?_
    refine wp_iadd (M := mX11_lands) (pc := 58) dX11_lands_58 ?_
    refine xs_iast (M := mX11_lands) (pc := 59) (j := ((f 92 (((f 82 17) - 1).toNatClampNeg)) - (f 92 (((f 82 17) - 1).toNatClampNeg)) / 1048576 * 1048576).toNatClampNeg) dX11_lands_59 sh91 (p3 c1) rfl ?_
    refine wp_aload_n (M := mX11_lands) (pc := 60) dX11_lands_60 rfl rfl ?_
    refine wp_aload_n (M := mX11_lands) (pc := 61) dX11_lands_61 rfl rfl ?_
    refine xs_geti (M := mX11_lands) (pc := 62) dX11_lands_62 fX11_182 sh82 rfl ?_
    refine wp_iconst (M := mX11_lands) (pc := 65) dX11_lands_65 k_iconst_1 ?_
    refine wp_isub (M := mX11_lands) (pc := 66) dX11_lands_66 ?_
    refine xs_puti (M := mX11_lands) (pc := 67) dX11_lands_67 pX11_182 sh82 rfl ?_
    refine wp_goto (M := mX11_lands) (pc := 70) (t := 0) dX11_lands_70 (by decide) ?_
    exact p4 c1
  · refine wp_iload_n (M := mX11_lands) (pc := 9) dX11_lands_9 rfl rfl ?_
    refine wp_if_eq (M := mX11_lands) (pc := 10) (t := 73) dX11_lands_10 (by decide) (fun c2 => ?_) (fun c2 => ?_)
    · exact xs_ret (M := mX11_lands) (pc := 73) dX11_lands_73 rfl (p5 c1 c2)
    · refine wp_aload_n (M := mX11_lands) (pc := 13) dX11_lands_13 rfl rfl ?_
      refine xs_callV (d := d) (M := mX11_lands) (pc := 14) (As := []) (st := []) (c := 11) (ls' := [.ref 82]) dX11_lands_14 oX11_waitTop nX11_waitTop lX11_185 vX11_waitTop sX11_waitTop rfl sh82 (Nat.le_of_ble_eq_true rfl) rfl (Nat.le_of_ble_eq_true rfl) rfl ?_
      exact p6 c1 c2
theorem bX11_lands_17 {G : GC} {d : Nat} {sw : Bool} {f : FF} {Q : QQ} {x1 : Int32} {v2 : Value} {s0 : Int32} (p1 : (¬ s0 = 12) → Q none sw f) (p2 : (s0 = 12) → vp_in ((f 82 17) - 1) 260) (p3 : (s0 = 12) → vp_in ((f 92 (((f 82 17) - 1).toNatClampNeg)) - (f 92 (((f 82 17) - 1).toNatClampNeg)) / 1048576 * 1048576) 260) (p4 : (s0 = 12) → vp_in ((f 92 (((f 82 17) - 1).toNatClampNeg)) - (f 92 (((f 82 17) - 1).toNatClampNeg)) / 1048576 * 1048576) 260) (p5 : (s0 = 12) → XP G mX11_lands (d + 1) 0 [.ref 82, .int x1, .int ((f 92 (((f 82 17) - 1).toNatClampNeg)) - (f 92 (((f 82 17) - 1).toNatClampNeg)) / 1048576 * 1048576)] [] sw (upd2 (upd2 f 91 (((f 92 (((f 82 17) - 1).toNatClampNeg)) - (f 92 (((f 82 17) - 1).toNatClampNeg)) / 1048576 * 1048576).toNatClampNeg) ((1048576 * ((f 91 (((f 92 (((f 82 17) - 1).toNatClampNeg)) - (f 92 (((f 82 17) - 1).toNatClampNeg)) / 1048576 * 1048576).toNatClampNeg)) / 1048576)) + (f 82 16))) 82 17 (((upd2 f 91 (((f 92 (((f 82 17) - 1).toNatClampNeg)) - (f 92 (((f 82 17) - 1).toNatClampNeg)) / 1048576 * 1048576).toNatClampNeg) ((1048576 * ((f 91 (((f 92 (((f 82 17) - 1).toNatClampNeg)) - (f 92 (((f 82 17) - 1).toNatClampNeg)) / 1048576 * 1048576).toNatClampNeg)) / 1048576)) + (f 82 16))) 82 17) - 1)) Q) : XP G mX11_lands (d + 1) 17 [.ref 82, .int x1, v2] [.int s0] sw f Q := by
  refine wp_bipush (M := mX11_lands) (pc := 17) dX11_lands_17 k_bipush_12 ?_
  refine wp_icmp_ne (M := mX11_lands) (pc := 19) (t := 73) dX11_lands_19 (by decide) (fun c1 => ?_) (fun c1 => ?_)
  · exact xs_ret (M := mX11_lands) (pc := 73) dX11_lands_73 rfl (p1 c1)
  · refine wp_aload_n (M := mX11_lands) (pc := 22) dX11_lands_22 rfl rfl ?_
    refine xs_getr (M := mX11_lands) (pc := 23) (r := 92) dX11_lands_23 fX11_38 sh82 rfl (gr82_21 sw) ?_
    refine wp_aload_n (M := mX11_lands) (pc := 26) dX11_lands_26 rfl rfl ?_
    refine xs_geti (M := mX11_lands) (pc := 27) dX11_lands_27 fX11_182 sh82 rfl ?_
    refine wp_iconst (M := mX11_lands) (pc := 30) dX11_lands_30 k_iconst_1 ?_
    refine wp_isub (M := mX11_lands) (pc := 31) dX11_lands_31 ?_
    refine xs_iald (M := mX11_lands) (pc := 32) (j := ((f 82 17) - 1).toNatClampNeg) dX11_lands_32 sh92 (p2 c1) rfl ?_
    refine wp_ldc (M := mX11_lands) (pc := 33) dX11_lands_33 kX11_178 ?_
    refine wp_irem (M := mX11_lands) (pc := 35) dX11_lands_35 (by decide) ?_
    refine wp_istore_n (M := mX11_lands) (pc := 36) (ls' := [.ref 82, .int x1, .int ((f 92 (((f 82 17) - 1).toNatClampNeg)) - (f 92 (((f 82 17) - 1).toNatClampNeg)) / 1048576 * 1048576)]) dX11_lands_36 rfl (by decide) rfl ?_
    refine wp_aload_n (M := mX11_lands) (pc := 37) dX11_lands_37 rfl rfl ?_
    refine xs_getr (M := mX11_lands) (pc := 38) (r := 91) dX11_lands_38 fX11_35 sh82 rfl (gr82_20 sw) ?_
    refine wp_iload_n (M := mX11_lands) (pc := 41) dX11_lands_41 rfl rfl ?_
    refine wp_ldc (M := mX11_lands) (pc := 42) dX11_lands_42 kX11_178 ?_
    refine wp_aload_n (M := mX11_lands) (pc := 44) dX11_lands_44 rfl rfl ?_
    refine xs_getr (M := mX11_lands) (pc := 45) (r := 91) dX11_lands_45 fX11_35 sh82 rfl (gr82_20 sw) ?_
    refine wp_iload_n (M := mX11_lands) (pc := 48) dX11_lands_48 rfl rfl ?_
    refine xs_iald (M := mX11_lands) (pc := 49) (j := ((f 92 (((f 82 17) - 1).toNatClampNeg)) - (f 92 (((f 82 17) - 1).toNatClampNeg)) / 1048576 * 1048576).toNatClampNeg) dX11_lands_49 sh91 (p3 c1) rfl ?_
    refine wp_ldc (M := mX11_lands) (pc := 50) dX11_lands_50 kX11_178 ?_
    refine wp_idiv (M := mX11_lands) (pc := 52) dX11_lands_52 (by decide) ?_
    refine wp_imul (M := mX11_lands) (pc := 53) dX11_lands_53 ?_
    refine wp_aload_n (M := mX11_lands) (pc := 54) dX11_lands_54 rfl rfl ?_
    refine xs_geti (M := mX11_lands) (pc := 55) dX11_lands_55 fX11_175 sh82 rfl ?_
    refine wp_iadd (M := mX11_lands) (pc := 58) dX11_lands_58 ?_
    refine xs_iast (M := mX11_lands) (pc := 59) (j := ((f 92 (((f 82 17) - 1).toNatClampNeg)) - (f 92 (((f 82 17) - 1).toNatClampNeg)) / 1048576 * 1048576).toNatClampNeg) dX11_lands_59 sh91 (p4 c1) rfl ?_
    refine wp_aload_n (M := mX11_lands) (pc := 60) dX11_lands_60 rfl rfl ?_
    refine wp_aload_n (M := mX11_lands) (pc := 61) dX11_lands_61 rfl rfl ?_
    refine xs_geti (M := mX11_lands) (pc := 62) dX11_lands_62 fX11_182 sh82 rfl ?_
    refine wp_iconst (M := mX11_lands) (pc := 65) dX11_lands_65 k_iconst_1 ?_
    refine wp_isub (M := mX11_lands) (pc := 66) dX11_lands_66 ?_
    refine xs_puti (M := mX11_lands) (pc := 67) dX11_lands_67 pX11_182 sh82 rfl ?_
    refine wp_goto (M := mX11_lands) (pc := 70) (t := 0) dX11_lands_70 (by decide) ?_
    exact p5 c1
theorem bX11_jumps_0 {G : GC} {d : Nat} {sw : Bool} {f : FF} {Q : QQ} {x1 : Int32} (p1 : vp_in (f 82 17) 260) (p2 : XP G mX11_notes (d) 0 [.ref 82, .int x1, .int 0] [] sw (upd2 (upd2 f 92 ((f 82 17).toNatClampNeg) ((1048576 * x1) + (f 82 16))) 82 17 (((upd2 f 92 ((f 82 17).toNatClampNeg) ((1048576 * x1) + (f 82 16))) 82 17) + 1)) (fun v sw' f' => XP G mX11_jumps (d + 1) 34 [.ref 82, .int x1] (retst v []) sw' f' Q)) : XP G mX11_jumps (d + 1) 0 [.ref 82, .int x1] [] sw f Q := by
  refine wp_aload_n (M := mX11_jumps) (pc := 0) dX11_jumps_0 rfl rfl ?_
  refine xs_getr (M := mX11_jumps) (pc := 1) (r := 92) dX11_jumps_1 fX11_38 sh82 rfl (gr82_21 sw) ?_
  refine wp_aload_n (M := mX11_jumps) (pc := 4) dX11_jumps_4 rfl rfl ?_
  refine xs_geti (M := mX11_jumps) (pc := 5) dX11_jumps_5 fX11_182 sh82 rfl ?_
  refine wp_ldc (M := mX11_jumps) (pc := 8) dX11_jumps_8 kX11_178 ?_
  refine wp_iload_n (M := mX11_jumps) (pc := 10) dX11_jumps_10 rfl rfl ?_
  refine wp_imul (M := mX11_jumps) (pc := 11) dX11_jumps_11 ?_
  refine wp_aload_n (M := mX11_jumps) (pc := 12) dX11_jumps_12 rfl rfl ?_
  refine xs_geti (M := mX11_jumps) (pc := 13) dX11_jumps_13 fX11_175 sh82 rfl ?_
  refine wp_iadd (M := mX11_jumps) (pc := 16) dX11_jumps_16 ?_
  refine xs_iast (M := mX11_jumps) (pc := 17) (j := (f 82 17).toNatClampNeg) dX11_jumps_17 sh92 (p1) rfl ?_
  refine wp_aload_n (M := mX11_jumps) (pc := 18) dX11_jumps_18 rfl rfl ?_
  refine wp_aload_n (M := mX11_jumps) (pc := 19) dX11_jumps_19 rfl rfl ?_
  refine xs_geti (M := mX11_jumps) (pc := 20) dX11_jumps_20 fX11_182 sh82 rfl ?_
  refine wp_iconst (M := mX11_jumps) (pc := 23) dX11_jumps_23 k_iconst_1 ?_
  refine wp_iadd (M := mX11_jumps) (pc := 24) dX11_jumps_24 ?_
  refine xs_puti (M := mX11_jumps) (pc := 25) dX11_jumps_25 pX11_182 sh82 rfl ?_
  refine wp_aload_n (M := mX11_jumps) (pc := 28) dX11_jumps_28 rfl rfl ?_
  refine wp_iload_n (M := mX11_jumps) (pc := 29) dX11_jumps_29 rfl rfl ?_
  refine wp_iconst (M := mX11_jumps) (pc := 30) dX11_jumps_30 k_iconst_0 ?_
  refine xs_callV (d := d) (M := mX11_jumps) (pc := 31) (As := [.int x1, .int 0]) (st := []) (c := 11) (ls' := [.ref 82, .int x1, .int 0]) dX11_jumps_31 oX11_notes nX11_notes lX11_188 vX11_notes sX11_notes rfl sh82 (Nat.le_of_ble_eq_true rfl) rfl (Nat.le_of_ble_eq_true rfl) rfl ?_
  exact p2
theorem bX11_jumps_34 {G : GC} {d : Nat} {sw : Bool} {f : FF} {Q : QQ} {x1 : Int32} (p1 : Q none sw (upd2 f 82 11 ((f 82 11) + 1))) : XP G mX11_jumps (d + 1) 34 [.ref 82, .int x1] [] sw f Q := by
  refine wp_aload_n (M := mX11_jumps) (pc := 34) dX11_jumps_34 rfl rfl ?_
  refine wp_aload_n (M := mX11_jumps) (pc := 35) dX11_jumps_35 rfl rfl ?_
  refine xs_geti (M := mX11_jumps) (pc := 36) dX11_jumps_36 fX11_152 sh82 rfl ?_
  refine wp_iconst (M := mX11_jumps) (pc := 39) dX11_jumps_39 k_iconst_1 ?_
  refine wp_iadd (M := mX11_jumps) (pc := 40) dX11_jumps_40 ?_
  refine xs_puti (M := mX11_jumps) (pc := 41) dX11_jumps_41 pX11_152 sh82 rfl ?_
  exact xs_ret (M := mX11_jumps) (pc := 44) dX11_jumps_44 rfl (p1)
theorem bX11_takes_0 {G : GC} {d : Nat} {sw : Bool} {f : FF} {Q : QQ} {x1 : Int32} (p1 : f 82 11 < f 82 12 → vp_in (f 82 11) 260) (p2 : ((hereF f) = x1) → Q (some (.int 1)) sw (upd2 f 82 11 ((f 82 11) + 1))) (p3 : (¬ (hereF f) = x1) → XP G mX11_wrongAt (d) 0 [.ref 82, .int 1, .int (f 82 11)] [] sw f (fun v sw' f' => XP G mX11_takes (d + 1) 17 [.ref 82, .int x1] (retst v []) sw' f' Q)) : XP G mX11_takes (d + 1) 0 [.ref 82, .int x1] [] sw f Q := by
  refine wp_aload_n (M := mX11_takes) (pc := 0) dX11_takes_0 rfl rfl ?_
  refine xs_callV (d := d) (M := mX11_takes) (pc := 1) (As := []) (st := []) (c := 11) (ls' := [.ref 82]) dX11_takes_1 oX11_here nX11_here lX11_158 vX11_here sX11_here rfl sh82 (Nat.le_of_ble_eq_true rfl) rfl (Nat.le_of_ble_eq_true rfl) rfl ?_
  refine sp_X11_here  (p1) ?_
  refine wp_iload_n (M := mX11_takes) (pc := 4) dX11_takes_4 rfl rfl ?_
  refine wp_icmp_eq (M := mX11_takes) (pc := 5) (t := 18) dX11_takes_5 (by decide) (fun c1 => ?_) (fun c1 => ?_)
  · refine wp_aload_n (M := mX11_takes) (pc := 18) dX11_takes_18 rfl rfl ?_
    refine wp_aload_n (M := mX11_takes) (pc := 19) dX11_takes_19 rfl rfl ?_
    refine xs_geti (M := mX11_takes) (pc := 20) dX11_takes_20 fX11_152 sh82 rfl ?_
    refine wp_iconst (M := mX11_takes) (pc := 23) dX11_takes_23 k_iconst_1 ?_
    refine wp_iadd (M := mX11_takes) (pc := 24) dX11_takes_24 ?_
    refine xs_puti (M := mX11_takes) (pc := 25) dX11_takes_25 pX11_152 sh82 rfl ?_
    refine wp_iconst (M := mX11_takes) (pc := 28) dX11_takes_28 k_iconst_1 ?_
    exact xs_zret (M := mX11_takes) (pc := 29) dX11_takes_29 rfl (by decide) (p2 c1)
  · refine wp_aload_n (M := mX11_takes) (pc := 8) dX11_takes_8 rfl rfl ?_
    refine wp_iconst (M := mX11_takes) (pc := 9) dX11_takes_9 k_iconst_1 ?_
    refine wp_aload_n (M := mX11_takes) (pc := 10) dX11_takes_10 rfl rfl ?_
    refine xs_geti (M := mX11_takes) (pc := 11) dX11_takes_11 fX11_152 sh82 rfl ?_
    refine xs_callV (d := d) (M := mX11_takes) (pc := 14) (As := [.int 1, .int (f 82 11)]) (st := []) (c := 11) (ls' := [.ref 82, .int 1, .int (f 82 11)]) dX11_takes_14 oX11_wrongAt nX11_wrongAt lX11_165 vX11_wrongAt sX11_wrongAt rfl sh82 (Nat.le_of_ble_eq_true rfl) rfl (Nat.le_of_ble_eq_true rfl) rfl ?_
    exact p3 c1
theorem bX11_takes_17 {G : GC} {d : Nat} {sw : Bool} {f : FF} {Q : QQ} {x1 : Int32} {s0 : Int32} (p1 : s0 = 0 ∨ s0 = 1) (p2 : Q (some (.int s0)) sw f) : XP G mX11_takes (d + 1) 17 [.ref 82, .int x1] [.int s0] sw f Q := by
  exact xs_zret (M := mX11_takes) (pc := 17) dX11_takes_17 rfl (p1) (p2)
theorem bX11_bill_0 {G : GC} {d : Nat} {sw : Bool} {f : FF} {Q : QQ} {x1 : Int32} (p1 : (¬ (1 ≤ x1 ∧ x1 ≤ 120)) → Q (some (.int (-1))) sw f) (p2 : (1 ≤ x1 ∧ x1 ≤ 120) → (x1 ≤ (f 82 10)) → XP G mX11_beginsText (d + 4) 0 [.ref 82, .int x1] [] sw f (fun v sw' f' => XP G mX11_bill (d + 5) 25 [.ref 82, .int x1, .null] (retst v []) sw' f' Q)) (p3 : (1 ≤ x1 ∧ x1 ≤ 120) → (¬ x1 ≤ (f 82 10)) → Q (some (.int (-1))) sw f) : XP G mX11_bill (d + 5) 0 [.ref 82, .int x1, .null] [] sw f Q := by
  refine wp_iload_n (M := mX11_bill) (pc := 0) dX11_bill_0 rfl rfl ?_
  refine wp_iconst (M := mX11_bill) (pc := 1) dX11_bill_1 k_iconst_1 ?_
  refine wp_bipush (M := mX11_bill) (pc := 2) dX11_bill_2 k_bipush_120 ?_
  refine xs_callS (d := d + 4) (M := mX11_bill) (pc := 4) (As := [.int x1, .int 1, .int 120]) (st := []) (ls' := [.int x1, .int 1, .int 120]) dX11_bill_4 oX11_in nX11_in lX11_111 tX11_in (Nat.le_of_ble_eq_true rfl) rfl (Nat.le_of_ble_eq_true rfl) rfl ?_
  refine sp_X11_in   ?_
  refine xs_ifb_eq (M := mX11_bill) (pc := 7) (t := 18) dX11_bill_7 (by decide) (fun c1 => ?_) (fun c1 => ?_)
  · refine wp_iconst (M := mX11_bill) (pc := 18) dX11_bill_18 k_iconst_m1 ?_
    exact xs_iret (M := mX11_bill) (pc := 19) dX11_bill_19 rfl (p1 c1)
  · refine wp_iload_n (M := mX11_bill) (pc := 10) dX11_bill_10 rfl rfl ?_
    refine wp_aload_n (M := mX11_bill) (pc := 11) dX11_bill_11 rfl rfl ?_
    refine xs_geti (M := mX11_bill) (pc := 12) dX11_bill_12 fX11_146 sh82 rfl ?_
    refine wp_icmp_le (M := mX11_bill) (pc := 15) (t := 20) dX11_bill_15 (by decide) (fun c2 => ?_) (fun c2 => ?_)
    · refine wp_aload_n (M := mX11_bill) (pc := 20) dX11_bill_20 rfl rfl ?_
      refine wp_iload_n (M := mX11_bill) (pc := 21) dX11_bill_21 rfl rfl ?_
      refine xs_callV (d := d + 4) (M := mX11_bill) (pc := 22) (As := [.int x1]) (st := []) (c := 11) (ls' := [.ref 82, .int x1]) dX11_bill_22 oX11_beginsText nX11_beginsText lX11_235 vX11_beginsText sX11_beginsText rfl sh82 (Nat.le_of_ble_eq_true rfl) rfl (Nat.le_of_ble_eq_true rfl) rfl ?_
      exact p2 c1 c2
    · refine wp_iconst (M := mX11_bill) (pc := 18) dX11_bill_18 k_iconst_m1 ?_
      exact xs_iret (M := mX11_bill) (pc := 19) dX11_bill_19 rfl (p3 c1 c2)
theorem bX11_bill_25 {G : GC} {d : Nat} {sw : Bool} {f : FF} {Q : QQ} {x1 : Int32} {v2 : Value} (p1 : XP G mX11_copies (d + 4) 0 [.ref 83, .ref 84, .null] [] sw (upd2 f 82 33 0) (fun v sw' f' => XP G mX11_bill (d + 5) 41 [.ref 82, .int x1, v2] (retst v []) sw' f' Q)) : XP G mX11_bill (d + 5) 25 [.ref 82, .int x1, v2] [] sw f Q := by
  refine wp_aload_n (M := mX11_bill) (pc := 25) dX11_bill_25 rfl rfl ?_
  refine wp_iconst (M := mX11_bill) (pc := 26) dX11_bill_26 k_iconst_0 ?_
  refine xs_puti (M := mX11_bill) (pc := 27) dX11_bill_27 pX11_260 sh82 rfl ?_
  refine wp_aload_n (M := mX11_bill) (pc := 30) dX11_bill_30 rfl rfl ?_
  refine xs_getr (M := mX11_bill) (pc := 31) (r := 83) dX11_bill_31 fX11_7 sh82 rfl (gr82_0 sw) ?_
  refine wp_aload_n (M := mX11_bill) (pc := 34) dX11_bill_34 rfl rfl ?_
  refine xs_getr (M := mX11_bill) (pc := 35) (r := 84) dX11_bill_35 fX11_13 sh82 rfl (gr82_1 sw) ?_
  refine xs_callS (d := d + 4) (M := mX11_bill) (pc := 38) (As := [.ref 83, .ref 84]) (st := []) (ls' := [.ref 83, .ref 84, .null]) dX11_bill_38 oX11_copies nX11_copies lX11_266 tX11_copies (Nat.le_of_ble_eq_true rfl) rfl (Nat.le_of_ble_eq_true rfl) rfl ?_
  exact p1
theorem bX11_bill_41 {G : GC} {d : Nat} {sw : Bool} {f : FF} {Q : QQ} {x1 : Int32} {v2 : Value} (p1 : XP G mX11_readsLine (d + 4) 0 [.ref 82, .null, .null] [] sw f (fun v sw' f' => XP G mX11_bill (d + 5) 45 [.ref 82, .int x1, v2] (retst v []) sw' f' Q)) : XP G mX11_bill (d + 5) 41 [.ref 82, .int x1, v2] [] sw f Q := by
  refine wp_aload_n (M := mX11_bill) (pc := 41) dX11_bill_41 rfl rfl ?_
  refine xs_callV (d := d + 4) (M := mX11_bill) (pc := 42) (As := []) (st := []) (c := 11) (ls' := [.ref 82, .null, .null]) dX11_bill_42 oX11_readsLine nX11_readsLine lX11_270 vX11_readsLine sX11_readsLine rfl sh82 (Nat.le_of_ble_eq_true rfl) rfl (Nat.le_of_ble_eq_true rfl) rfl ?_
  exact p1
theorem bX11_bill_45 {G : GC} {d : Nat} {sw : Bool} {f : FF} {Q : QQ} {x1 : Int32} {v2 : Value} {s0 : Int32} (p1 : XP G mX11_bill (d + 5) 46 [.ref 82, .int x1, .int s0] [] sw f Q) : XP G mX11_bill (d + 5) 45 [.ref 82, .int x1, v2] [.int s0] sw f Q := by
  refine wp_istore_n (M := mX11_bill) (pc := 45) (ls' := [.ref 82, .int x1, .int s0]) dX11_bill_45 rfl (by decide) rfl ?_
  exact p1
theorem bX11_bill_46 {G : GC} {d : Nat} {sw : Bool} {f : FF} {Q : QQ} {x1 : Int32} {x2 : Int32} (p1 : (x2 = 0) → (x2 = 0) → XP G mX11_copies (d + 4) 0 [.ref 84, .ref 83, .null] [] sw (upd2 f 82 10 0) (fun v sw' f' => XP G mX11_bill (d + 5) 111 [.ref 82, .int x1, .int x2] (retst v []) sw' f' Q)) (p2 : (x2 = 0) → (¬ x2 = 0) → Q (some (.int ((upd2 f 82 10 0) 82 33))) sw (upd2 f 82 10 0)) (p3 : (¬ x2 = 0) → ((f 82 12) ≤ (f 82 11)) → (x2 = 0) → XP G mX11_copies (d + 4) 0 [.ref 84, .ref 83, .null] [] sw (upd2 f 82 10 0) (fun v sw' f' => XP G mX11_bill (d + 5) 111 [.ref 82, .int x1, .int x2] (retst v []) sw' f' Q)) (p4 : (¬ x2 = 0) → ((f 82 12) ≤ (f 82 11)) → (¬ x2 = 0) → Q (some (.int ((upd2 f 82 10 0) 82 33))) sw (upd2 f 82 10 0)) (p5 : (¬ x2 = 0) → (¬ (f 82 12) ≤ (f 82 11)) → XP G mX11_takes (d + 4) 0 [.ref 82, .int 59] [] sw f (fun v sw' f' => XP G mX11_bill (d + 5) 67 [.ref 82, .int x1, .int x2] (retst v []) sw' f' Q)) : XP G mX11_bill (d + 5) 46 [.ref 82, .int x1, .int x2] [] sw f Q := by
  refine wp_iload_n (M := mX11_bill) (pc := 46) dX11_bill_46 rfl rfl ?_
  refine wp_if_eq (M := mX11_bill) (pc := 47) (t := 86) dX11_bill_47 (by decide) (fun c1 => ?_) (fun c1 => ?_)
  · refine wp_aload_n (M := mX11_bill) (pc := 86) dX11_bill_86 rfl rfl ?_
    refine wp_iconst (M := mX11_bill) (pc := 87) dX11_bill_87 k_iconst_0 ?_
    refine xs_puti (M := mX11_bill) (pc := 88) dX11_bill_88 pX11_146 sh82 rfl ?_
    refine wp_iload_n (M := mX11_bill) (pc := 91) dX11_bill_91 rfl rfl ?_
    refine wp_if_eq (M := mX11_bill) (pc := 92) (t := 100) dX11_bill_92 (by decide) (fun c2 => ?_) (fun c2 => ?_)
    · refine wp_aload_n (M := mX11_bill) (pc := 100) dX11_bill_100 rfl rfl ?_
      refine xs_getr (M := mX11_bill) (pc := 101) (r := 84) dX11_bill_101 fX11_13 sh82 rfl (gr82_1 sw) ?_
      refine wp_aload_n (M := mX11_bill) (pc := 104) dX11_bill_104 rfl rfl ?_
      refine xs_getr (M := mX11_bill) (pc := 105) (r := 83) dX11_bill_105 fX11_7 sh82 rfl (gr82_0 sw) ?_
      refine xs_callS (d := d + 4) (M := mX11_bill) (pc := 108) (As := [.ref 84, .ref 83]) (st := []) (ls' := [.ref 84, .ref 83, .null]) dX11_bill_108 oX11_copies nX11_copies lX11_266 tX11_copies (Nat.le_of_ble_eq_true rfl) rfl (Nat.le_of_ble_eq_true rfl) rfl ?_
      exact p1 c1 c2
    · refine wp_aload_n (M := mX11_bill) (pc := 95) dX11_bill_95 rfl rfl ?_
      refine xs_geti (M := mX11_bill) (pc := 96) dX11_bill_96 fX11_260 sh82 rfl ?_
      exact xs_iret (M := mX11_bill) (pc := 99) dX11_bill_99 rfl (p2 c1 c2)
  · refine wp_aload_n (M := mX11_bill) (pc := 50) dX11_bill_50 rfl rfl ?_
    refine xs_geti (M := mX11_bill) (pc := 51) dX11_bill_51 fX11_152 sh82 rfl ?_
    refine wp_aload_n (M := mX11_bill) (pc := 54) dX11_bill_54 rfl rfl ?_
    refine xs_geti (M := mX11_bill) (pc := 55) dX11_bill_55 fX11_155 sh82 rfl ?_
    refine wp_icmp_ge (M := mX11_bill) (pc := 58) (t := 86) dX11_bill_58 (by decide) (fun c3 => ?_) (fun c3 => ?_)
    · refine wp_aload_n (M := mX11_bill) (pc := 86) dX11_bill_86 rfl rfl ?_
      refine wp_iconst (M := mX11_bill) (pc := 87) dX11_bill_87 k_iconst_0 ?_
      refine xs_puti (M := mX11_bill) (pc := 88) dX11_bill_88 pX11_146 sh82 rfl ?_
      refine wp_iload_n (M := mX11_bill) (pc := 91) dX11_bill_91 rfl rfl ?_
      refine wp_if_eq (M := mX11_bill) (pc := 92) (t := 100) dX11_bill_92 (by decide) (fun c4 => ?_) (fun c4 => ?_)
      · refine wp_aload_n (M := mX11_bill) (pc := 100) dX11_bill_100 rfl rfl ?_
        refine xs_getr (M := mX11_bill) (pc := 101) (r := 84) dX11_bill_101 fX11_13 sh82 rfl (gr82_1 sw) ?_
        refine wp_aload_n (M := mX11_bill) (pc := 104) dX11_bill_104 rfl rfl ?_
        refine xs_getr (M := mX11_bill) (pc := 105) (r := 83) dX11_bill_105 fX11_7 sh82 rfl (gr82_0 sw) ?_
        refine xs_callS (d := d + 4) (M := mX11_bill) (pc := 108) (As := [.ref 84, .ref 83]) (st := []) (ls' := [.ref 84, .ref 83, .null]) dX11_bill_108 oX11_copies nX11_copies lX11_266 tX11_copies (Nat.le_of_ble_eq_true rfl) rfl (Nat.le_of_ble_eq_true rfl) rfl ?_
        exact p3 c1 c3 c4
      · refine wp_aload_n (M := mX11_bill) (pc := 95) dX11_bill_95 rfl rfl ?_
        refine xs_geti (M := mX11_bill) (pc := 96) dX11_bill_96 fX11_260 sh82 rfl ?_
        exact xs_iret (M := mX11_bill) (pc := 99) dX11_bill_99 rfl (p4 c1 c3 c4)
    · refine wp_aload_n (M := mX11_bill) (pc := 61) dX11_bill_61 rfl rfl ?_
      refine wp_bipush (M := mX11_bill) (pc := 62) dX11_bill_62 k_bipush_59 ?_
      refine xs_callV (d := d + 4) (M := mX11_bill) (pc := 64) (As := [.int 59]) (st := []) (c := 11) (ls' := [.ref 82, .int 59]) dX11_bill_64 oX11_takes nX11_takes lX11_241 vX11_takes sX11_takes rfl sh82 (Nat.le_of_ble_eq_true rfl) rfl (Nat.le_of_ble_eq_true rfl) rfl ?_
      exact p5 c1 c3
theorem bX11_bill_67 {G : GC} {d : Nat} {sw : Bool} {f : FF} {Q : QQ} {x1 : Int32} {x2 : Int32} {s0 : Int32} (p1 : (s0 = 0) → XP G mX11_bill (d + 5) 46 [.ref 82, .int x1, .int 0] [] sw f Q) (p2 : (¬ s0 = 0) → XP G mX11_readsLine (d + 4) 0 [.ref 82, .null, .null] [] sw f (fun v sw' f' => XP G mX11_bill (d + 5) 74 [.ref 82, .int x1, .int x2] (retst v []) sw' f' Q)) : XP G mX11_bill (d + 5) 67 [.ref 82, .int x1, .int x2] [.int s0] sw f Q := by
  refine wp_if_eq (M := mX11_bill) (pc := 67) (t := 81) dX11_bill_67 (by decide) (fun c1 => ?_) (fun c1 => ?_)
  · refine wp_iconst (M := mX11_bill) (pc := 81) dX11_bill_81 k_iconst_0 ?_
    refine wp_istore_n (M := mX11_bill) (pc := 82) (ls' := [.ref 82, .int x1, .int 0]) dX11_bill_82 rfl (by decide) rfl ?_
    refine wp_goto (M := mX11_bill) (pc := 83) (t := 46) dX11_bill_83 (by decide) ?_
    exact p1 c1
  · refine wp_aload_n (M := mX11_bill) (pc := 70) dX11_bill_70 rfl rfl ?_
    refine xs_callV (d := d + 4) (M := mX11_bill) (pc := 71) (As := []) (st := []) (c := 11) (ls' := [.ref 82, .null, .null]) dX11_bill_71 oX11_readsLine nX11_readsLine lX11_270 vX11_readsLine sX11_readsLine rfl sh82 (Nat.le_of_ble_eq_true rfl) rfl (Nat.le_of_ble_eq_true rfl) rfl ?_
    exact p2 c1
theorem bX11_bill_74 {G : GC} {d : Nat} {sw : Bool} {f : FF} {Q : QQ} {x1 : Int32} {x2 : Int32} {s0 : Int32} (p1 : (s0 = 0) → XP G mX11_bill (d + 5) 46 [.ref 82, .int x1, .int 0] [] sw f Q) (p2 : (¬ s0 = 0) → XP G mX11_bill (d + 5) 46 [.ref 82, .int x1, .int 1] [] sw f Q) : XP G mX11_bill (d + 5) 74 [.ref 82, .int x1, .int x2] [.int s0] sw f Q := by
  refine wp_if_eq (M := mX11_bill) (pc := 74) (t := 81) dX11_bill_74 (by decide) (fun c1 => ?_) (fun c1 => ?_)
  · refine wp_iconst (M := mX11_bill) (pc := 81) dX11_bill_81 k_iconst_0 ?_
    refine wp_istore_n (M := mX11_bill) (pc := 82) (ls' := [.ref 82, .int x1, .int 0]) dX11_bill_82 rfl (by decide) rfl ?_
    refine wp_goto (M := mX11_bill) (pc := 83) (t := 46) dX11_bill_83 (by decide) ?_
    exact p1 c1
  · refine wp_iconst (M := mX11_bill) (pc := 77) dX11_bill_77 k_iconst_1 ?_
    refine wp_goto (M := mX11_bill) (pc := 78) (t := 82) dX11_bill_78 (by decide) ?_
    refine wp_istore_n (M := mX11_bill) (pc := 82) (ls' := [.ref 82, .int x1, .int 1]) dX11_bill_82 rfl (by decide) rfl ?_
    refine wp_goto (M := mX11_bill) (pc := 83) (t := 46) dX11_bill_83 (by decide) ?_
    exact p2 c1
theorem bX11_bill_111 {G : GC} {d : Nat} {sw : Bool} {f : FF} {Q : QQ} {x1 : Int32} {x2 : Int32} (p1 : Q (some (.int (f 82 13))) sw f) : XP G mX11_bill (d + 5) 111 [.ref 82, .int x1, .int x2] [] sw f Q := by
  refine wp_aload_n (M := mX11_bill) (pc := 111) dX11_bill_111 rfl rfl ?_
  refine xs_geti (M := mX11_bill) (pc := 112) dX11_bill_112 fX11_162 sh82 rfl ?_
  exact xs_iret (M := mX11_bill) (pc := 115) dX11_bill_115 rfl (p1)
theorem bX11_copies_0 {G : GC} {d : Nat} {sw : Bool} {f : FF} {Q : QQ} {a0 : Nat} (ha0 : SH[a0]? = some (0, 391)) {a1 : Nat} (ha1 : SH[a1]? = some (0, 391)) (p1 : XP G mX11_copies (d) 2 [.ref a0, .ref a1, .int 0] [] sw f Q) : XP G mX11_copies (d) 0 [.ref a0, .ref a1, .null] [] sw f Q := by
  refine wp_iconst (M := mX11_copies) (pc := 0) dX11_copies_0 k_iconst_0 ?_
  refine wp_istore_n (M := mX11_copies) (pc := 1) (ls' := [.ref a0, .ref a1, .int 0]) dX11_copies_1 rfl (by decide) rfl ?_
  exact p1
theorem bX11_copies_2 {G : GC} {d : Nat} {sw : Bool} {f : FF} {Q : QQ} {a0 : Nat} (ha0 : SH[a0]? = some (0, 391)) {a1 : Nat} (ha1 : SH[a1]? = some (0, 391)) {x2 : Int32} (p1 : (391 ≤ x2) → Q none sw f) (p2 : (¬ 391 ≤ x2) → vp_in x2 391) (p3 : (¬ 391 ≤ x2) → vp_in x2 391) (p4 : (¬ 391 ≤ x2) → XP G mX11_copies (d) 2 [.ref a0, .ref a1, .int (x2 + 1)] [] sw (upd2 f a1 x2.toNatClampNeg (f a0 x2.toNatClampNeg)) Q) : XP G mX11_copies (d) 2 [.ref a0, .ref a1, .int x2] [] sw f Q := by
  refine wp_iload_n (M := mX11_copies) (pc := 2) dX11_copies_2 rfl rfl ?_
  refine wp_sipush (M := mX11_copies) (pc := 3) dX11_copies_3 k_sipush_391 ?_
  refine wp_icmp_ge (M := mX11_copies) (pc := 6) (t := 21) dX11_copies_6 (by decide) (fun c1 => ?_) (fun c1 => ?_)
  · exact xs_ret (M := mX11_copies) (pc := 21) dX11_copies_21 rfl (p1 c1)
  · refine wp_aload_n (M := mX11_copies) (pc := 9) dX11_copies_9 rfl rfl ?_
    refine wp_iload_n (M := mX11_copies) (pc := 10) dX11_copies_10 rfl rfl ?_
    refine wp_aload_n (M := mX11_copies) (pc := 11) dX11_copies_11 rfl rfl ?_
    refine wp_iload_n (M := mX11_copies) (pc := 12) dX11_copies_12 rfl rfl ?_
    refine xs_iald (M := mX11_copies) (pc := 13) (j := x2.toNatClampNeg) dX11_copies_13 ha0 (p2 c1) rfl ?_
    refine xs_iast (M := mX11_copies) (pc := 14) (j := x2.toNatClampNeg) dX11_copies_14 ha1 (p3 c1) rfl ?_
    refine wp_iinc (M := mX11_copies) (pc := 15) (v := x2 + 1) (ls' := [.ref a0, .ref a1, .int (x2 + 1)]) dX11_copies_15 rfl (congrArg (fun z => _ + z) k_iconst_1) (by decide) rfl ?_
    refine wp_goto (M := mX11_copies) (pc := 18) (t := 2) dX11_copies_18 (by decide) ?_
    exact p4 c1
theorem bX11_readsLine_0 {G : GC} {d : Nat} {sw : Bool} {f : FF} {Q : QQ}  (p1 : f 82 11 < f 82 12 → vp_in (f 82 11) 260) (p2 : ((hereF f) = 70) → (¬ (f 82 33) = 20) → ((hereF f) = 70) → (¬ (hereF f) = 70) → (upd2 (upd2 f 82 33 ((f 82 33) + 1)) 82 11 (((upd2 f 82 33 ((f 82 33) + 1)) 82 11) + 1)) 82 11 < (upd2 (upd2 f 82 33 ((f 82 33) + 1)) 82 11 (((upd2 f 82 33 ((f 82 33) + 1)) 82 11) + 1)) 82 12 → vp_in ((upd2 (upd2 f 82 33 ((f 82 33) + 1)) 82 11 (((upd2 f 82 33 ((f 82 33) + 1)) 82 11) + 1)) 82 11) 260) (p3 : ((hereF f) = 70) → (¬ (f 82 33) = 20) → ((hereF f) = 70) → (¬ (hereF f) = 70) → ((hereF (upd2 (upd2 f 82 33 ((f 82 33) + 1)) 82 11 (((upd2 f 82 33 ((f 82 33) + 1)) 82 11) + 1))) = 33) → vp_in (48 + ((hereF f) - 97)) 391) (p4 : ((hereF f) = 70) → (¬ (f 82 33) = 20) → ((hereF f) = 70) → (¬ (hereF f) = 70) → ((hereF (upd2 (upd2 f 82 33 ((f 82 33) + 1)) 82 11 (((upd2 f 82 33 ((f 82 33) + 1)) 82 11) + 1))) = 33) → XP G mX11_endsCallOf (d + 3) 0 [.ref 82, .int ((hereF f) - 97), .null] [] sw (upd2 (upd2 (upd2 f 82 33 ((f 82 33) + 1)) 82 11 (((upd2 f 82 33 ((f 82 33) + 1)) 82 11) + 1)) 83 ((48 + ((hereF f) - 97)).toNatClampNeg) 0) (fun v sw' f' => XP G mX11_readsLine (d + 4) 183 [.ref 82, .int (hereF f), .int ((hereF f) - 97)] (retst v []) sw' f' Q)) (p5 : ((hereF f) = 70) → (¬ (f 82 33) = 20) → ((hereF f) = 70) → (¬ (hereF f) = 70) → ((hereF (upd2 (upd2 f 82 33 ((f 82 33) + 1)) 82 11 (((upd2 f 82 33 ((f 82 33) + 1)) 82 11) + 1))) = 42) → vp_in (32 + ((hereF f) - 97)) 391) (p6 : ((hereF f) = 70) → (¬ (f 82 33) = 20) → ((hereF f) = 70) → (¬ (hereF f) = 70) → ((hereF (upd2 (upd2 f 82 33 ((f 82 33) + 1)) 82 11 (((upd2 f 82 33 ((f 82 33) + 1)) 82 11) + 1))) = 42) → Q (some (.int 1)) sw (upd2 (upd2 (upd2 (upd2 f 82 33 ((f 82 33) + 1)) 82 11 (((upd2 f 82 33 ((f 82 33) + 1)) 82 11) + 1)) 83 ((32 + ((hereF f) - 97)).toNatClampNeg) 0) 82 11 (((upd2 (upd2 (upd2 f 82 33 ((f 82 33) + 1)) 82 11 (((upd2 f 82 33 ((f 82 33) + 1)) 82 11) + 1)) 83 ((32 + ((hereF f) - 97)).toNatClampNeg) 0) 82 11) + 1))) (p7 : ((hereF f) = 70) → (¬ (f 82 33) = 20) → ((hereF f) = 70) → (¬ (hereF f) = 70) → ((hereF (upd2 (upd2 f 82 33 ((f 82 33) + 1)) 82 11 (((upd2 f 82 33 ((f 82 33) + 1)) 82 11) + 1))) = 63) → vp_in (48 + ((hereF f) - 97)) 391) (p8 : ((hereF f) = 70) → (¬ (f 82 33) = 20) → ((hereF f) = 70) → (¬ (hereF f) = 70) → ((hereF (upd2 (upd2 f 82 33 ((f 82 33) + 1)) 82 11 (((upd2 f 82 33 ((f 82 33) + 1)) 82 11) + 1))) = 63) → Q (some (.int 1)) sw (upd2 (upd2 (upd2 (upd2 f 82 33 ((f 82 33) + 1)) 82 11 (((upd2 f 82 33 ((f 82 33) + 1)) 82 11) + 1)) 83 ((48 + ((hereF f) - 97)).toNatClampNeg) 1) 82 11 (((upd2 (upd2 (upd2 f 82 33 ((f 82 33) + 1)) 82 11 (((upd2 f 82 33 ((f 82 33) + 1)) 82 11) + 1)) 83 ((48 + ((hereF f) - 97)).toNatClampNeg) 1) 82 11) + 1))) (p9 : ((hereF f) = 70) → (¬ (f 82 33) = 20) → ((hereF f) = 70) → (¬ (hereF f) = 70) → ((hereF (upd2 (upd2 f 82 33 ((f 82 33) + 1)) 82 11 (((upd2 f 82 33 ((f 82 33) + 1)) 82 11) + 1))) = 94) → vp_in (64 + ((hereF f) - 97)) 391) (p10 : ((hereF f) = 70) → (¬ (f 82 33) = 20) → ((hereF f) = 70) → (¬ (hereF f) = 70) → ((hereF (upd2 (upd2 f 82 33 ((f 82 33) + 1)) 82 11 (((upd2 f 82 33 ((f 82 33) + 1)) 82 11) + 1))) = 94) → Q (some (.int 1)) sw (upd2 (upd2 (upd2 (upd2 f 82 33 ((f 82 33) + 1)) 82 11 (((upd2 f 82 33 ((f 82 33) + 1)) 82 11) + 1)) 83 ((64 + ((hereF f) - 97)).toNatClampNeg) 1) 82 11 (((upd2 (upd2 (upd2 f 82 33 ((f 82 33) + 1)) 82 11 (((upd2 f 82 33 ((f 82 33) + 1)) 82 11) + 1)) 83 ((64 + ((hereF f) - 97)).toNatClampNeg) 1) 82 11) + 1))) (p11 : ((hereF f) = 70) → (¬ (f 82 33) = 20) → ((hereF f) = 70) → (¬ (hereF f) = 70) → ((hereF (upd2 (upd2 f 82 33 ((f 82 33) + 1)) 82 11 (((upd2 f 82 33 ((f 82 33) + 1)) 82 11) + 1))) = 95) → vp_in (64 + ((hereF f) - 97)) 391) (p12 : ((hereF f) = 70) → (¬ (f 82 33) = 20) → ((hereF f) = 70) → (¬ (hereF f) = 70) → ((hereF (upd2 (upd2 f 82 33 ((f 82 33) + 1)) 82 11 (((upd2 f 82 33 ((f 82 33) + 1)) 82 11) + 1))) = 95) → Q (some (.int 1)) sw (upd2 (upd2 (upd2 (upd2 f 82 33 ((f 82 33) + 1)) 82 11 (((upd2 f 82 33 ((f 82 33) + 1)) 82 11) + 1)) 83 ((64 + ((hereF f) - 97)).toNatClampNeg) 0) 82 11 (((upd2 (upd2 (upd2 f 82 33 ((f 82 33) + 1)) 82 11 (((upd2 f 82 33 ((f 82 33) + 1)) 82 11) + 1)) 83 ((64 + ((hereF f) - 97)).toNatClampNeg) 0) 82 11) + 1))) (p13 : ((hereF f) = 70) → (¬ (f 82 33) = 20) → ((hereF f) = 70) → (¬ (hereF f) = 70) → (¬ (hereF (upd2 (upd2 f 82 33 ((f 82 33) + 1)) 82 11 (((upd2 f 82 33 ((f 82 33) + 1)) 82 11) + 1))) = 33) → (¬ (hereF (upd2 (upd2 f 82 33 ((f 82 33) + 1)) 82 11 (((upd2 f 82 33 ((f 82 33) + 1)) 82 11) + 1))) = 42) → (¬ (hereF (upd2 (upd2 f 82 33 ((f 82 33) + 1)) 82 11 (((upd2 f 82 33 ((f 82 33) + 1)) 82 11) + 1))) = 63) → (¬ (hereF (upd2 (upd2 f 82 33 ((f 82 33) + 1)) 82 11 (((upd2 f 82 33 ((f 82 33) + 1)) 82 11) + 1))) = 94) → (¬ (hereF (upd2 (upd2 f 82 33 ((f 82 33) + 1)) 82 11 (((upd2 f 82 33 ((f 82 33) + 1)) 82 11) + 1))) = 95) → XP G mX11_readsMore (d + 3) 0 [.ref 82, .int (80 + ((hereF f) - 97)), .null] [] sw (upd2 (upd2 f 82 33 ((f 82 33) + 1)) 82 11 (((upd2 f 82 33 ((f 82 33) + 1)) 82 11) + 1)) (fun v sw' f' => XP G mX11_readsLine (d + 4) 246 [.ref 82, .int (hereF f), .int ((hereF f) - 97)] (retst v []) sw' f' Q)) (p14 : ((hereF f) = 70) → (¬ (f 82 33) = 20) → ((hereF f) = 70) → ((hereF f) = 70) → XP G mX11_readsMore (d + 3) 0 [.ref 82, .int 388, .null] [] sw (upd2 (upd2 f 82 33 ((f 82 33) + 1)) 82 11 (((upd2 f 82 33 ((f 82 33) + 1)) 82 11) + 1)) (fun v sw' f' => XP G mX11_readsLine (d + 4) 113 [.ref 82, .int (hereF f), .int ((hereF f) - 97)] (retst v []) sw' f' Q)) (p15 : ((hereF f) = 70) → (¬ (f 82 33) = 20) → (¬ (hereF f) = 70) → (toldM (upd2 f 82 33 ((f 82 33) + 1)) ((hereF f) - 97)) → (¬ (hereF f) = 70) → (upd2 (upd2 f 82 33 ((f 82 33) + 1)) 82 11 (((upd2 f 82 33 ((f 82 33) + 1)) 82 11) + 1)) 82 11 < (upd2 (upd2 f 82 33 ((f 82 33) + 1)) 82 11 (((upd2 f 82 33 ((f 82 33) + 1)) 82 11) + 1)) 82 12 → vp_in ((upd2 (upd2 f 82 33 ((f 82 33) + 1)) 82 11 (((upd2 f 82 33 ((f 82 33) + 1)) 82 11) + 1)) 82 11) 260) (p16 : ((hereF f) = 70) → (¬ (f 82 33) = 20) → (¬ (hereF f) = 70) → (toldM (upd2 f 82 33 ((f 82 33) + 1)) ((hereF f) - 97)) → (¬ (hereF f) = 70) → ((hereF (upd2 (upd2 f 82 33 ((f 82 33) + 1)) 82 11 (((upd2 f 82 33 ((f 82 33) + 1)) 82 11) + 1))) = 33) → vp_in (48 + ((hereF f) - 97)) 391) (p17 : ((hereF f) = 70) → (¬ (f 82 33) = 20) → (¬ (hereF f) = 70) → (toldM (upd2 f 82 33 ((f 82 33) + 1)) ((hereF f) - 97)) → (¬ (hereF f) = 70) → ((hereF (upd2 (upd2 f 82 33 ((f 82 33) + 1)) 82 11 (((upd2 f 82 33 ((f 82 33) + 1)) 82 11) + 1))) = 33) → XP G mX11_endsCallOf (d + 3) 0 [.ref 82, .int ((hereF f) - 97), .null] [] sw (upd2 (upd2 (upd2 f 82 33 ((f 82 33) + 1)) 82 11 (((upd2 f 82 33 ((f 82 33) + 1)) 82 11) + 1)) 83 ((48 + ((hereF f) - 97)).toNatClampNeg) 0) (fun v sw' f' => XP G mX11_readsLine (d + 4) 183 [.ref 82, .int (hereF f), .int ((hereF f) - 97)] (retst v []) sw' f' Q)) (p18 : ((hereF f) = 70) → (¬ (f 82 33) = 20) → (¬ (hereF f) = 70) → (toldM (upd2 f 82 33 ((f 82 33) + 1)) ((hereF f) - 97)) → (¬ (hereF f) = 70) → ((hereF (upd2 (upd2 f 82 33 ((f 82 33) + 1)) 82 11 (((upd2 f 82 33 ((f 82 33) + 1)) 82 11) + 1))) = 42) → vp_in (32 + ((hereF f) - 97)) 391) (p19 : ((hereF f) = 70) → (¬ (f 82 33) = 20) → (¬ (hereF f) = 70) → (toldM (upd2 f 82 33 ((f 82 33) + 1)) ((hereF f) - 97)) → (¬ (hereF f) = 70) → ((hereF (upd2 (upd2 f 82 33 ((f 82 33) + 1)) 82 11 (((upd2 f 82 33 ((f 82 33) + 1)) 82 11) + 1))) = 42) → Q (some (.int 1)) sw (upd2 (upd2 (upd2 (upd2 f 82 33 ((f 82 33) + 1)) 82 11 (((upd2 f 82 33 ((f 82 33) + 1)) 82 11) + 1)) 83 ((32 + ((hereF f) - 97)).toNatClampNeg) 0) 82 11 (((upd2 (upd2 (upd2 f 82 33 ((f 82 33) + 1)) 82 11 (((upd2 f 82 33 ((f 82 33) + 1)) 82 11) + 1)) 83 ((32 + ((hereF f) - 97)).toNatClampNeg) 0) 82 11) + 1))) (p20 : ((hereF f) = 70) → (¬ (f 82 33) = 20) → (¬ (hereF f) = 70) → (toldM (upd2 f 82 33 ((f 82 33) + 1)) ((hereF f) - 97)) → (¬ (hereF f) = 70) → ((hereF (upd2 (upd2 f 82 33 ((f 82 33) + 1)) 82 11 (((upd2 f 82 33 ((f 82 33) + 1)) 82 11) + 1))) = 63) → vp_in (48 + ((hereF f) - 97)) 391) (p21 : ((hereF f) = 70) → (¬ (f 82 33) = 20) → (¬ (hereF f) = 70) → (toldM (upd2 f 82 33 ((f 82 33) + 1)) ((hereF f) - 97)) → (¬ (hereF f) = 70) → ((hereF (upd2 (upd2 f 82 33 ((f 82 33) + 1)) 82 11 (((upd2 f 82 33 ((f 82 33) + 1)) 82 11) + 1))) = 63) → Q (some (.int 1)) sw (upd2 (upd2 (upd2 (upd2 f 82 33 ((f 82 33) + 1)) 82 11 (((upd2 f 82 33 ((f 82 33) + 1)) 82 11) + 1)) 83 ((48 + ((hereF f) - 97)).toNatClampNeg) 1) 82 11 (((upd2 (upd2 (upd2 f 82 33 ((f 82 33) + 1)) 82 11 (((upd2 f 82 33 ((f 82 33) + 1)) 82 11) + 1)) 83 ((48 + ((hereF f) - 97)).toNatClampNeg) 1) 82 11) + 1))) (p22 : ((hereF f) = 70) → (¬ (f 82 33) = 20) → (¬ (hereF f) = 70) → (toldM (upd2 f 82 33 ((f 82 33) + 1)) ((hereF f) - 97)) → (¬ (hereF f) = 70) → ((hereF (upd2 (upd2 f 82 33 ((f 82 33) + 1)) 82 11 (((upd2 f 82 33 ((f 82 33) + 1)) 82 11) + 1))) = 94) → vp_in (64 + ((hereF f) - 97)) 391) (p23 : ((hereF f) = 70) → (¬ (f 82 33) = 20) → (¬ (hereF f) = 70) → (toldM (upd2 f 82 33 ((f 82 33) + 1)) ((hereF f) - 97)) → (¬ (hereF f) = 70) → ((hereF (upd2 (upd2 f 82 33 ((f 82 33) + 1)) 82 11 (((upd2 f 82 33 ((f 82 33) + 1)) 82 11) + 1))) = 94) → Q (some (.int 1)) sw (upd2 (upd2 (upd2 (upd2 f 82 33 ((f 82 33) + 1)) 82 11 (((upd2 f 82 33 ((f 82 33) + 1)) 82 11) + 1)) 83 ((64 + ((hereF f) - 97)).toNatClampNeg) 1) 82 11 (((upd2 (upd2 (upd2 f 82 33 ((f 82 33) + 1)) 82 11 (((upd2 f 82 33 ((f 82 33) + 1)) 82 11) + 1)) 83 ((64 + ((hereF f) - 97)).toNatClampNeg) 1) 82 11) + 1))) (p24 : ((hereF f) = 70) → (¬ (f 82 33) = 20) → (¬ (hereF f) = 70) → (toldM (upd2 f 82 33 ((f 82 33) + 1)) ((hereF f) - 97)) → (¬ (hereF f) = 70) → ((hereF (upd2 (upd2 f 82 33 ((f 82 33) + 1)) 82 11 (((upd2 f 82 33 ((f 82 33) + 1)) 82 11) + 1))) = 95) → vp_in (64 + ((hereF f) - 97)) 391) (p25 : ((hereF f) = 70) → (¬ (f 82 33) = 20) → (¬ (hereF f) = 70) → (toldM (upd2 f 82 33 ((f 82 33) + 1)) ((hereF f) - 97)) → (¬ (hereF f) = 70) → ((hereF (upd2 (upd2 f 82 33 ((f 82 33) + 1)) 82 11 (((upd2 f 82 33 ((f 82 33) + 1)) 82 11) + 1))) = 95) → Q (some (.int 1)) sw (upd2 (upd2 (upd2 (upd2 f 82 33 ((f 82 33) + 1)) 82 11 (((upd2 f 82 33 ((f 82 33) + 1)) 82 11) + 1)) 83 ((64 + ((hereF f) - 97)).toNatClampNeg) 0) 82 11 (((upd2 (upd2 (upd2 f 82 33 ((f 82 33) + 1)) 82 11 (((upd2 f 82 33 ((f 82 33) + 1)) 82 11) + 1)) 83 ((64 + ((hereF f) - 97)).toNatClampNeg) 0) 82 11) + 1))) (p26 : ((hereF f) = 70) → (¬ (f 82 33) = 20) → (¬ (hereF f) = 70) → (toldM (upd2 f 82 33 ((f 82 33) + 1)) ((hereF f) - 97)) → (¬ (hereF f) = 70) → (¬ (hereF (upd2 (upd2 f 82 33 ((f 82 33) + 1)) 82 11 (((upd2 f 82 33 ((f 82 33) + 1)) 82 11) + 1))) = 33) → (¬ (hereF (upd2 (upd2 f 82 33 ((f 82 33) + 1)) 82 11 (((upd2 f 82 33 ((f 82 33) + 1)) 82 11) + 1))) = 42) → (¬ (hereF (upd2 (upd2 f 82 33 ((f 82 33) + 1)) 82 11 (((upd2 f 82 33 ((f 82 33) + 1)) 82 11) + 1))) = 63) → (¬ (hereF (upd2 (upd2 f 82 33 ((f 82 33) + 1)) 82 11 (((upd2 f 82 33 ((f 82 33) + 1)) 82 11) + 1))) = 94) → (¬ (hereF (upd2 (upd2 f 82 33 ((f 82 33) + 1)) 82 11 (((upd2 f 82 33 ((f 82 33) + 1)) 82 11) + 1))) = 95) → XP G mX11_readsMore (d + 3) 0 [.ref 82, .int (80 + ((hereF f) - 97)), .null] [] sw (upd2 (upd2 f 82 33 ((f 82 33) + 1)) 82 11 (((upd2 f 82 33 ((f 82 33) + 1)) 82 11) + 1)) (fun v sw' f' => XP G mX11_readsLine (d + 4) 246 [.ref 82, .int (hereF f), .int ((hereF f) - 97)] (retst v []) sw' f' Q)) (p27 : ((hereF f) = 70) → (¬ (f 82 33) = 20) → (¬ (hereF f) = 70) → (toldM (upd2 f 82 33 ((f 82 33) + 1)) ((hereF f) - 97)) → ((hereF f) = 70) → XP G mX11_readsMore (d + 3) 0 [.ref 82, .int 388, .null] [] sw (upd2 (upd2 f 82 33 ((f 82 33) + 1)) 82 11 (((upd2 f 82 33 ((f 82 33) + 1)) 82 11) + 1)) (fun v sw' f' => XP G mX11_readsLine (d + 4) 113 [.ref 82, .int (hereF f), .int ((hereF f) - 97)] (retst v []) sw' f' Q)) (p28 : ((hereF f) = 70) → (¬ (f 82 33) = 20) → (¬ (hereF f) = 70) → (¬ (toldM (upd2 f 82 33 ((f 82 33) + 1)) ((hereF f) - 97))) → XP G mX11_wrongAt (d + 3) 0 [.ref 82, .int 7, .int ((upd2 f 82 33 ((f 82 33) + 1)) 82 11)] [] sw (upd2 f 82 33 ((f 82 33) + 1)) (fun v sw' f' => XP G mX11_readsLine (d + 4) 89 [.ref 82, .int (hereF f), .int ((hereF f) - 97)] (retst v []) sw' f' Q)) (p29 : ((hereF f) = 70) → ((f 82 33) = 20) → XP G mX11_wrongAt (d + 3) 0 [.ref 82, .int 4, .int (f 82 11)] [] sw f (fun v sw' f' => XP G mX11_readsLine (d + 4) 54 [.ref 82, .int (hereF f), .int ((hereF f) - 97)] (retst v []) sw' f' Q)) (p30 : (¬ (hereF f) = 70) → (0 ≤ ((hereF f) - 97) ∧ ((hereF f) - 97) ≤ 15) → (¬ (f 82 33) = 20) → ((hereF f) = 70) → (¬ (hereF f) = 70) → (upd2 (upd2 f 82 33 ((f 82 33) + 1)) 82 11 (((upd2 f 82 33 ((f 82 33) + 1)) 82 11) + 1)) 82 11 < (upd2 (upd2 f 82 33 ((f 82 33) + 1)) 82 11 (((upd2 f 82 33 ((f 82 33) + 1)) 82 11) + 1)) 82 12 → vp_in ((upd2 (upd2 f 82 33 ((f 82 33) + 1)) 82 11 (((upd2 f 82 33 ((f 82 33) + 1)) 82 11) + 1)) 82 11) 260) (p31 : (¬ (hereF f) = 70) → (0 ≤ ((hereF f) - 97) ∧ ((hereF f) - 97) ≤ 15) → (¬ (f 82 33) = 20) → ((hereF f) = 70) → (¬ (hereF f) = 70) → ((hereF (upd2 (upd2 f 82 33 ((f 82 33) + 1)) 82 11 (((upd2 f 82 33 ((f 82 33) + 1)) 82 11) + 1))) = 33) → vp_in (48 + ((hereF f) - 97)) 391) (p32 : (¬ (hereF f) = 70) → (0 ≤ ((hereF f) - 97) ∧ ((hereF f) - 97) ≤ 15) → (¬ (f 82 33) = 20) → ((hereF f) = 70) → (¬ (hereF f) = 70) → ((hereF (upd2 (upd2 f 82 33 ((f 82 33) + 1)) 82 11 (((upd2 f 82 33 ((f 82 33) + 1)) 82 11) + 1))) = 33) → XP G mX11_endsCallOf (d + 3) 0 [.ref 82, .int ((hereF f) - 97), .null] [] sw (upd2 (upd2 (upd2 f 82 33 ((f 82 33) + 1)) 82 11 (((upd2 f 82 33 ((f 82 33) + 1)) 82 11) + 1)) 83 ((48 + ((hereF f) - 97)).toNatClampNeg) 0) (fun v sw' f' => XP G mX11_readsLine (d + 4) 183 [.ref 82, .int (hereF f), .int ((hereF f) - 97)] (retst v []) sw' f' Q)) (p33 : (¬ (hereF f) = 70) → (0 ≤ ((hereF f) - 97) ∧ ((hereF f) - 97) ≤ 15) → (¬ (f 82 33) = 20) → ((hereF f) = 70) → (¬ (hereF f) = 70) → ((hereF (upd2 (upd2 f 82 33 ((f 82 33) + 1)) 82 11 (((upd2 f 82 33 ((f 82 33) + 1)) 82 11) + 1))) = 42) → vp_in (32 + ((hereF f) - 97)) 391) (p34 : (¬ (hereF f) = 70) → (0 ≤ ((hereF f) - 97) ∧ ((hereF f) - 97) ≤ 15) → (¬ (f 82 33) = 20) → ((hereF f) = 70) → (¬ (hereF f) = 70) → ((hereF (upd2 (upd2 f 82 33 ((f 82 33) + 1)) 82 11 (((upd2 f 82 33 ((f 82 33) + 1)) 82 11) + 1))) = 42) → Q (some (.int 1)) sw (upd2 (upd2 (upd2 (upd2 f 82 33 ((f 82 33) + 1)) 82 11 (((upd2 f 82 33 ((f 82 33) + 1)) 82 11) + 1)) 83 ((32 + ((hereF f) - 97)).toNatClampNeg) 0) 82 11 (((upd2 (upd2 (upd2 f 82 33 ((f 82 33) + 1)) 82 11 (((upd2 f 82 33 ((f 82 33) + 1)) 82 11) + 1)) 83 ((32 + ((hereF f) - 97)).toNatClampNeg) 0) 82 11) + 1))) (p35 : (¬ (hereF f) = 70) → (0 ≤ ((hereF f) - 97) ∧ ((hereF f) - 97) ≤ 15) → (¬ (f 82 33) = 20) → ((hereF f) = 70) → (¬ (hereF f) = 70) → ((hereF (upd2 (upd2 f 82 33 ((f 82 33) + 1)) 82 11 (((upd2 f 82 33 ((f 82 33) + 1)) 82 11) + 1))) = 63) → vp_in (48 + ((hereF f) - 97)) 391) (p36 : (¬ (hereF f) = 70) → (0 ≤ ((hereF f) - 97) ∧ ((hereF f) - 97) ≤ 15) → (¬ (f 82 33) = 20) → ((hereF f) = 70) → (¬ (hereF f) = 70) → ((hereF (upd2 (upd2 f 82 33 ((f 82 33) + 1)) 82 11 (((upd2 f 82 33 ((f 82 33) + 1)) 82 11) + 1))) = 63) → Q (some (.int 1)) sw (upd2 (upd2 (upd2 (upd2 f 82 33 ((f 82 33) + 1)) 82 11 (((upd2 f 82 33 ((f 82 33) + 1)) 82 11) + 1)) 83 ((48 + ((hereF f) - 97)).toNatClampNeg) 1) 82 11 (((upd2 (upd2 (upd2 f 82 33 ((f 82 33) + 1)) 82 11 (((upd2 f 82 33 ((f 82 33) + 1)) 82 11) + 1)) 83 ((48 + ((hereF f) - 97)).toNatClampNeg) 1) 82 11) + 1))) (p37 : (¬ (hereF f) = 70) → (0 ≤ ((hereF f) - 97) ∧ ((hereF f) - 97) ≤ 15) → (¬ (f 82 33) = 20) → ((hereF f) = 70) → (¬ (hereF f) = 70) → ((hereF (upd2 (upd2 f 82 33 ((f 82 33) + 1)) 82 11 (((upd2 f 82 33 ((f 82 33) + 1)) 82 11) + 1))) = 94) → vp_in (64 + ((hereF f) - 97)) 391) (p38 : (¬ (hereF f) = 70) → (0 ≤ ((hereF f) - 97) ∧ ((hereF f) - 97) ≤ 15) → (¬ (f 82 33) = 20) → ((hereF f) = 70) → (¬ (hereF f) = 70) → ((hereF (upd2 (upd2 f 82 33 ((f 82 33) + 1)) 82 11 (((upd2 f 82 33 ((f 82 33) + 1)) 82 11) + 1))) = 94) → Q (some (.int 1)) sw (upd2 (upd2 (upd2 (upd2 f 82 33 ((f 82 33) + 1)) 82 11 (((upd2 f 82 33 ((f 82 33) + 1)) 82 11) + 1)) 83 ((64 + ((hereF f) - 97)).toNatClampNeg) 1) 82 11 (((upd2 (upd2 (upd2 f 82 33 ((f 82 33) + 1)) 82 11 (((upd2 f 82 33 ((f 82 33) + 1)) 82 11) + 1)) 83 ((64 + ((hereF f) - 97)).toNatClampNeg) 1) 82 11) + 1))) (p39 : (¬ (hereF f) = 70) → (0 ≤ ((hereF f) - 97) ∧ ((hereF f) - 97) ≤ 15) → (¬ (f 82 33) = 20) → ((hereF f) = 70) → (¬ (hereF f) = 70) → ((hereF (upd2 (upd2 f 82 33 ((f 82 33) + 1)) 82 11 (((upd2 f 82 33 ((f 82 33) + 1)) 82 11) + 1))) = 95) → vp_in (64 + ((hereF f) - 97)) 391) (p40 : (¬ (hereF f) = 70) → (0 ≤ ((hereF f) - 97) ∧ ((hereF f) - 97) ≤ 15) → (¬ (f 82 33) = 20) → ((hereF f) = 70) → (¬ (hereF f) = 70) → ((hereF (upd2 (upd2 f 82 33 ((f 82 33) + 1)) 82 11 (((upd2 f 82 33 ((f 82 33) + 1)) 82 11) + 1))) = 95) → Q (some (.int 1)) sw (upd2 (upd2 (upd2 (upd2 f 82 33 ((f 82 33) + 1)) 82 11 (((upd2 f 82 33 ((f 82 33) + 1)) 82 11) + 1)) 83 ((64 + ((hereF f) - 97)).toNatClampNeg) 0) 82 11 (((upd2 (upd2 (upd2 f 82 33 ((f 82 33) + 1)) 82 11 (((upd2 f 82 33 ((f 82 33) + 1)) 82 11) + 1)) 83 ((64 + ((hereF f) - 97)).toNatClampNeg) 0) 82 11) + 1))) (p41 : (¬ (hereF f) = 70) → (0 ≤ ((hereF f) - 97) ∧ ((hereF f) - 97) ≤ 15) → (¬ (f 82 33) = 20) → ((hereF f) = 70) → (¬ (hereF f) = 70) → (¬ (hereF (upd2 (upd2 f 82 33 ((f 82 33) + 1)) 82 11 (((upd2 f 82 33 ((f 82 33) + 1)) 82 11) + 1))) = 33) → (¬ (hereF (upd2 (upd2 f 82 33 ((f 82 33) + 1)) 82 11 (((upd2 f 82 33 ((f 82 33) + 1)) 82 11) + 1))) = 42) → (¬ (hereF (upd2 (upd2 f 82 33 ((f 82 33) + 1)) 82 11 (((upd2 f 82 33 ((f 82 33) + 1)) 82 11) + 1))) = 63) → (¬ (hereF (upd2 (upd2 f 82 33 ((f 82 33) + 1)) 82 11 (((upd2 f 82 33 ((f 82 33) + 1)) 82 11) + 1))) = 94) → (¬ (hereF (upd2 (upd2 f 82 33 ((f 82 33) + 1)) 82 11 (((upd2 f 82 33 ((f 82 33) + 1)) 82 11) + 1))) = 95) → XP G mX11_readsMore (d + 3) 0 [.ref 82, .int (80 + ((hereF f) - 97)), .null] [] sw (upd2 (upd2 f 82 33 ((f 82 33) + 1)) 82 11 (((upd2 f 82 33 ((f 82 33) + 1)) 82 11) + 1)) (fun v sw' f' => XP G mX11_readsLine (d + 4) 246 [.ref 82, .int (hereF f), .int ((hereF f) - 97)] (retst v []) sw' f' Q)) (p42 : (¬ (hereF f) = 70) → (0 ≤ ((hereF f) - 97) ∧ ((hereF f) - 97) ≤ 15) → (¬ (f 82 33) = 20) → ((hereF f) = 70) → ((hereF f) = 70) → XP G mX11_readsMore (d + 3) 0 [.ref 82, .int 388, .null] [] sw (upd2 (upd2 f 82 33 ((f 82 33) + 1)) 82 11 (((upd2 f 82 33 ((f 82 33) + 1)) 82 11) + 1)) (fun v sw' f' => XP G mX11_readsLine (d + 4) 113 [.ref 82, .int (hereF f), .int ((hereF f) - 97)] (retst v []) sw' f' Q)) (p43 : (¬ (hereF f) = 70) → (0 ≤ ((hereF f) - 97) ∧ ((hereF f) - 97) ≤ 15) → (¬ (f 82 33) = 20) → (¬ (hereF f) = 70) → (toldM (upd2 f 82 33 ((f 82 33) + 1)) ((hereF f) - 97)) → (¬ (hereF f) = 70) → (upd2 (upd2 f 82 33 ((f 82 33) + 1)) 82 11 (((upd2 f 82 33 ((f 82 33) + 1)) 82 11) + 1)) 82 11 < (upd2 (upd2 f 82 33 ((f 82 33) + 1)) 82 11 (((upd2 f 82 33 ((f 82 33) + 1)) 82 11) + 1)) 82 12 → vp_in ((upd2 (upd2 f 82 33 ((f 82 33) + 1)) 82 11 (((upd2 f 82 33 ((f 82 33) + 1)) 82 11) + 1)) 82 11) 260) (p44 : (¬ (hereF f) = 70) → (0 ≤ ((hereF f) - 97) ∧ ((hereF f) - 97) ≤ 15) → (¬ (f 82 33) = 20) → (¬ (hereF f) = 70) → (toldM (upd2 f 82 33 ((f 82 33) + 1)) ((hereF f) - 97)) → (¬ (hereF f) = 70) → ((hereF (upd2 (upd2 f 82 33 ((f 82 33) + 1)) 82 11 (((upd2 f 82 33 ((f 82 33) + 1)) 82 11) + 1))) = 33) → vp_in (48 + ((hereF f) - 97)) 391) (p45 : (¬ (hereF f) = 70) → (0 ≤ ((hereF f) - 97) ∧ ((hereF f) - 97) ≤ 15) → (¬ (f 82 33) = 20) → (¬ (hereF f) = 70) → (toldM (upd2 f 82 33 ((f 82 33) + 1)) ((hereF f) - 97)) → (¬ (hereF f) = 70) → ((hereF (upd2 (upd2 f 82 33 ((f 82 33) + 1)) 82 11 (((upd2 f 82 33 ((f 82 33) + 1)) 82 11) + 1))) = 33) → XP G mX11_endsCallOf (d + 3) 0 [.ref 82, .int ((hereF f) - 97), .null] [] sw (upd2 (upd2 (upd2 f 82 33 ((f 82 33) + 1)) 82 11 (((upd2 f 82 33 ((f 82 33) + 1)) 82 11) + 1)) 83 ((48 + ((hereF f) - 97)).toNatClampNeg) 0) (fun v sw' f' => XP G mX11_readsLine (d + 4) 183 [.ref 82, .int (hereF f), .int ((hereF f) - 97)] (retst v []) sw' f' Q)) (p46 : (¬ (hereF f) = 70) → (0 ≤ ((hereF f) - 97) ∧ ((hereF f) - 97) ≤ 15) → (¬ (f 82 33) = 20) → (¬ (hereF f) = 70) → (toldM (upd2 f 82 33 ((f 82 33) + 1)) ((hereF f) - 97)) → (¬ (hereF f) = 70) → ((hereF (upd2 (upd2 f 82 33 ((f 82 33) + 1)) 82 11 (((upd2 f 82 33 ((f 82 33) + 1)) 82 11) + 1))) = 42) → vp_in (32 + ((hereF f) - 97)) 391) (p47 : (¬ (hereF f) = 70) → (0 ≤ ((hereF f) - 97) ∧ ((hereF f) - 97) ≤ 15) → (¬ (f 82 33) = 20) → (¬ (hereF f) = 70) → (toldM (upd2 f 82 33 ((f 82 33) + 1)) ((hereF f) - 97)) → (¬ (hereF f) = 70) → ((hereF (upd2 (upd2 f 82 33 ((f 82 33) + 1)) 82 11 (((upd2 f 82 33 ((f 82 33) + 1)) 82 11) + 1))) = 42) → Q (some (.int 1)) sw (upd2 (upd2 (upd2 (upd2 f 82 33 ((f 82 33) + 1)) 82 11 (((upd2 f 82 33 ((f 82 33) + 1)) 82 11) + 1)) 83 ((32 + ((hereF f) - 97)).toNatClampNeg) 0) 82 11 (((upd2 (upd2 (upd2 f 82 33 ((f 82 33) + 1)) 82 11 (((upd2 f 82 33 ((f 82 33) + 1)) 82 11) + 1)) 83 ((32 + ((hereF f) - 97)).toNatClampNeg) 0) 82 11) + 1))) (p48 : (¬ (hereF f) = 70) → (0 ≤ ((hereF f) - 97) ∧ ((hereF f) - 97) ≤ 15) → (¬ (f 82 33) = 20) → (¬ (hereF f) = 70) → (toldM (upd2 f 82 33 ((f 82 33) + 1)) ((hereF f) - 97)) → (¬ (hereF f) = 70) → ((hereF (upd2 (upd2 f 82 33 ((f 82 33) + 1)) 82 11 (((upd2 f 82 33 ((f 82 33) + 1)) 82 11) + 1))) = 63) → vp_in (48 + ((hereF f) - 97)) 391) (p49 : (¬ (hereF f) = 70) → (0 ≤ ((hereF f) - 97) ∧ ((hereF f) - 97) ≤ 15) → (¬ (f 82 33) = 20) → (¬ (hereF f) = 70) → (toldM (upd2 f 82 33 ((f 82 33) + 1)) ((hereF f) - 97)) → (¬ (hereF f) = 70) → ((hereF (upd2 (upd2 f 82 33 ((f 82 33) + 1)) 82 11 (((upd2 f 82 33 ((f 82 33) + 1)) 82 11) + 1))) = 63) → Q (some (.int 1)) sw (upd2 (upd2 (upd2 (upd2 f 82 33 ((f 82 33) + 1)) 82 11 (((upd2 f 82 33 ((f 82 33) + 1)) 82 11) + 1)) 83 ((48 + ((hereF f) - 97)).toNatClampNeg) 1) 82 11 (((upd2 (upd2 (upd2 f 82 33 ((f 82 33) + 1)) 82 11 (((upd2 f 82 33 ((f 82 33) + 1)) 82 11) + 1)) 83 ((48 + ((hereF f) - 97)).toNatClampNeg) 1) 82 11) + 1))) (p50 : (¬ (hereF f) = 70) → (0 ≤ ((hereF f) - 97) ∧ ((hereF f) - 97) ≤ 15) → (¬ (f 82 33) = 20) → (¬ (hereF f) = 70) → (toldM (upd2 f 82 33 ((f 82 33) + 1)) ((hereF f) - 97)) → (¬ (hereF f) = 70) → ((hereF (upd2 (upd2 f 82 33 ((f 82 33) + 1)) 82 11 (((upd2 f 82 33 ((f 82 33) + 1)) 82 11) + 1))) = 94) → vp_in (64 + ((hereF f) - 97)) 391) (p51 : (¬ (hereF f) = 70) → (0 ≤ ((hereF f) - 97) ∧ ((hereF f) - 97) ≤ 15) → (¬ (f 82 33) = 20) → (¬ (hereF f) = 70) → (toldM (upd2 f 82 33 ((f 82 33) + 1)) ((hereF f) - 97)) → (¬ (hereF f) = 70) → ((hereF (upd2 (upd2 f 82 33 ((f 82 33) + 1)) 82 11 (((upd2 f 82 33 ((f 82 33) + 1)) 82 11) + 1))) = 94) → Q (some (.int 1)) sw (upd2 (upd2 (upd2 (upd2 f 82 33 ((f 82 33) + 1)) 82 11 (((upd2 f 82 33 ((f 82 33) + 1)) 82 11) + 1)) 83 ((64 + ((hereF f) - 97)).toNatClampNeg) 1) 82 11 (((upd2 (upd2 (upd2 f 82 33 ((f 82 33) + 1)) 82 11 (((upd2 f 82 33 ((f 82 33) + 1)) 82 11) + 1)) 83 ((64 + ((hereF f) - 97)).toNatClampNeg) 1) 82 11) + 1))) (p52 : (¬ (hereF f) = 70) → (0 ≤ ((hereF f) - 97) ∧ ((hereF f) - 97) ≤ 15) → (¬ (f 82 33) = 20) → (¬ (hereF f) = 70) → (toldM (upd2 f 82 33 ((f 82 33) + 1)) ((hereF f) - 97)) → (¬ (hereF f) = 70) → ((hereF (upd2 (upd2 f 82 33 ((f 82 33) + 1)) 82 11 (((upd2 f 82 33 ((f 82 33) + 1)) 82 11) + 1))) = 95) → vp_in (64 + ((hereF f) - 97)) 391) (p53 : (¬ (hereF f) = 70) → (0 ≤ ((hereF f) - 97) ∧ ((hereF f) - 97) ≤ 15) → (¬ (f 82 33) = 20) → (¬ (hereF f) = 70) → (toldM (upd2 f 82 33 ((f 82 33) + 1)) ((hereF f) - 97)) → (¬ (hereF f) = 70) → ((hereF (upd2 (upd2 f 82 33 ((f 82 33) + 1)) 82 11 (((upd2 f 82 33 ((f 82 33) + 1)) 82 11) + 1))) = 95) → Q (some (.int 1)) sw (upd2 (upd2 (upd2 (upd2 f 82 33 ((f 82 33) + 1)) 82 11 (((upd2 f 82 33 ((f 82 33) + 1)) 82 11) + 1)) 83 ((64 + ((hereF f) - 97)).toNatClampNeg) 0) 82 11 (((upd2 (upd2 (upd2 f 82 33 ((f 82 33) + 1)) 82 11 (((upd2 f 82 33 ((f 82 33) + 1)) 82 11) + 1)) 83 ((64 + ((hereF f) - 97)).toNatClampNeg) 0) 82 11) + 1))) (p54 : (¬ (hereF f) = 70) → (0 ≤ ((hereF f) - 97) ∧ ((hereF f) - 97) ≤ 15) → (¬ (f 82 33) = 20) → (¬ (hereF f) = 70) → (toldM (upd2 f 82 33 ((f 82 33) + 1)) ((hereF f) - 97)) → (¬ (hereF f) = 70) → (¬ (hereF (upd2 (upd2 f 82 33 ((f 82 33) + 1)) 82 11 (((upd2 f 82 33 ((f 82 33) + 1)) 82 11) + 1))) = 33) → (¬ (hereF (upd2 (upd2 f 82 33 ((f 82 33) + 1)) 82 11 (((upd2 f 82 33 ((f 82 33) + 1)) 82 11) + 1))) = 42) → (¬ (hereF (upd2 (upd2 f 82 33 ((f 82 33) + 1)) 82 11 (((upd2 f 82 33 ((f 82 33) + 1)) 82 11) + 1))) = 63) → (¬ (hereF (upd2 (upd2 f 82 33 ((f 82 33) + 1)) 82 11 (((upd2 f 82 33 ((f 82 33) + 1)) 82 11) + 1))) = 94) → (¬ (hereF (upd2 (upd2 f 82 33 ((f 82 33) + 1)) 82 11 (((upd2 f 82 33 ((f 82 33) + 1)) 82 11) + 1))) = 95) → XP G mX11_readsMore (d + 3) 0 [.ref 82, .int (80 + ((hereF f) - 97)), .null] [] sw (upd2 (upd2 f 82 33 ((f 82 33) + 1)) 82 11 (((upd2 f 82 33 ((f 82 33) + 1)) 82 11) + 1)) (fun v sw' f' => XP G mX11_readsLine (d + 4) 246 [.ref 82, .int (hereF f), .int ((hereF f) - 97)] (retst v []) sw' f' Q)) (p55 : (¬ (hereF f) = 70) → (0 ≤ ((hereF f) - 97) ∧ ((hereF f) - 97) ≤ 15) → (¬ (f 82 33) = 20) → (¬ (hereF f) = 70) → (toldM (upd2 f 82 33 ((f 82 33) + 1)) ((hereF f) - 97)) → ((hereF f) = 70) → XP G mX11_readsMore (d + 3) 0 [.ref 82, .int 388, .null] [] sw (upd2 (upd2 f 82 33 ((f 82 33) + 1)) 82 11 (((upd2 f 82 33 ((f 82 33) + 1)) 82 11) + 1)) (fun v sw' f' => XP G mX11_readsLine (d + 4) 113 [.ref 82, .int (hereF f), .int ((hereF f) - 97)] (retst v []) sw' f' Q)) (p56 : (¬ (hereF f) = 70) → (0 ≤ ((hereF f) - 97) ∧ ((hereF f) - 97) ≤ 15) → (¬ (f 82 33) = 20) → (¬ (hereF f) = 70) → (¬ (toldM (upd2 f 82 33 ((f 82 33) + 1)) ((hereF f) - 97))) → XP G mX11_wrongAt (d + 3) 0 [.ref 82, .int 7, .int ((upd2 f 82 33 ((f 82 33) + 1)) 82 11)] [] sw (upd2 f 82 33 ((f 82 33) + 1)) (fun v sw' f' => XP G mX11_readsLine (d + 4) 89 [.ref 82, .int (hereF f), .int ((hereF f) - 97)] (retst v []) sw' f' Q)) (p57 : (¬ (hereF f) = 70) → (0 ≤ ((hereF f) - 97) ∧ ((hereF f) - 97) ≤ 15) → ((f 82 33) = 20) → XP G mX11_wrongAt (d + 3) 0 [.ref 82, .int 4, .int (f 82 11)] [] sw f (fun v sw' f' => XP G mX11_readsLine (d + 4) 54 [.ref 82, .int (hereF f), .int ((hereF f) - 97)] (retst v []) sw' f' Q)) (p58 : (¬ (hereF f) = 70) → (¬ (0 ≤ ((hereF f) - 97) ∧ ((hereF f) - 97) ≤ 15)) → XP G mX11_wrongAt (d + 3) 0 [.ref 82, .int 1, .int (f 82 11)] [] sw f (fun v sw' f' => XP G mX11_readsLine (d + 4) 35 [.ref 82, .int (hereF f), .int ((hereF f) - 97)] (retst v []) sw' f' Q)) : XP G mX11_readsLine (d + 4) 0 [.ref 82, .null, .null] [] sw f Q := by
  refine wp_aload_n (M := mX11_readsLine) (pc := 0) dX11_readsLine_0 rfl rfl ?_
  refine xs_callV (d := d + 3) (M := mX11_readsLine) (pc := 1) (As := []) (st := []) (c := 11) (ls' := [.ref 82]) dX11_readsLine_1 oX11_here nX11_here lX11_158 vX11_here sX11_here rfl sh82 (Nat.le_of_ble_eq_true rfl) rfl (Nat.le_of_ble_eq_true rfl) rfl ?_
  refine sp_X11_here  (p1) ?_
  refine wp_istore_n (M := mX11_readsLine) (pc := 4) (ls' := [.ref 82, .int (hereF f), .null]) dX11_readsLine_4 rfl (by decide) rfl ?_
  refine wp_iload_n (M := mX11_readsLine) (pc := 5) dX11_readsLine_5 rfl rfl ?_
  refine wp_bipush (M := mX11_readsLine) (pc := 6) dX11_readsLine_6 k_bipush_97 ?_
  refine wp_isub (M := mX11_readsLine) (pc := 8) dX11_readsLine_8 ?_
  refine wp_istore_n (M := mX11_readsLine) (pc := 9) (ls' := [.ref 82, .int (hereF f), .int ((hereF f) - 97)]) dX11_readsLine_9 rfl (by decide) rfl ?_
  refine wp_iload_n (M := mX11_readsLine) (pc := 10) dX11_readsLine_10 rfl rfl ?_
  refine wp_bipush (M := mX11_readsLine) (pc := 11) dX11_readsLine_11 k_bipush_70 ?_
  refine wp_icmp_eq (M := mX11_readsLine) (pc := 13) (t := 36) dX11_readsLine_13 (by decide) (fun c1 => ?_) (fun c1 => ?_)
  · refine wp_aload_n (M := mX11_readsLine) (pc := 36) dX11_readsLine_36 rfl rfl ?_
    refine xs_geti (M := mX11_readsLine) (pc := 37) dX11_readsLine_37 fX11_260 sh82 rfl ?_
    refine wp_bipush (M := mX11_readsLine) (pc := 40) dX11_readsLine_40 k_bipush_20 ?_
    refine wp_icmp_ne (M := mX11_readsLine) (pc := 42) (t := 55) dX11_readsLine_42 (by decide) (fun c2 => ?_) (fun c2 => ?_)
    · refine wp_aload_n (M := mX11_readsLine) (pc := 55) dX11_readsLine_55 rfl rfl ?_
      refine wp_aload_n (M := mX11_readsLine) (pc := 56) dX11_readsLine_56 rfl rfl ?_
      refine xs_geti (M := mX11_readsLine) (pc := 57) dX11_readsLine_57 fX11_260 sh82 rfl ?_
      refine wp_iconst (M := mX11_readsLine) (pc := 60) dX11_readsLine_60 k_iconst_1 ?_
      refine wp_iadd (M := mX11_readsLine) (pc := 61) dX11_readsLine_61 ?_
      refine xs_puti (M := mX11_readsLine) (pc := 62) dX11_readsLine_62 pX11_260 sh82 rfl ?_
      refine wp_iload_n (M := mX11_readsLine) (pc := 65) dX11_readsLine_65 rfl rfl ?_
      refine wp_bipush (M := mX11_readsLine) (pc := 66) dX11_readsLine_66 k_bipush_70 ?_
      refine wp_icmp_eq (M := mX11_readsLine) (pc := 68) (t := 90) dX11_readsLine_68 (by decide) (fun c3 => ?_) (fun c3 => ?_)
      · refine wp_aload_n (M := mX11_readsLine) (pc := 90) dX11_readsLine_90 rfl rfl ?_
        refine wp_aload_n (M := mX11_readsLine) (pc := 91) dX11_readsLine_91 rfl rfl ?_
        refine xs_geti (M := mX11_readsLine) (pc := 92) dX11_readsLine_92 fX11_152 sh82 rfl ?_
        refine wp_iconst (M := mX11_readsLine) (pc := 95) dX11_readsLine_95 k_iconst_1 ?_
        refine wp_iadd (M := mX11_readsLine) (pc := 96) dX11_readsLine_96 ?_
        refine xs_puti (M := mX11_readsLine) (pc := 97) dX11_readsLine_97 pX11_152 sh82 rfl ?_
        refine wp_iload_n (M := mX11_readsLine) (pc := 100) dX11_readsLine_100 rfl rfl ?_
        refine wp_bipush (M := mX11_readsLine) (pc := 101) dX11_readsLine_101 k_bipush_70 ?_
        refine wp_icmp_ne (M := mX11_readsLine) (pc := 103) (t := 114) dX11_readsLine_103 (by decide) (fun c4 => ?_) (fun c4 => ?_)
        · refine wp_aload_n (M := mX11_readsLine) (pc := 114) dX11_readsLine_114 rfl rfl ?_
          refine xs_callV (d := d + 3) (M := mX11_readsLine) (pc := 115) (As := []) (st := []) (c := 11) (ls' := [.ref 82]) dX11_readsLine_115 oX11_here nX11_here lX11_158 vX11_here sX11_here rfl sh82 (Nat.le_of_ble_eq_true rfl) rfl (Nat.le_of_ble_eq_true rfl) rfl ?_
          refine sp_X11_here  (p2 c1 c2 c3 c4) ?_
          by_cases c5 : (hereF (upd2 (upd2 f 82 33 ((f 82 33) + 1)) 82 11 (((upd2 f 82 33 ((f 82 33) + 1)) 82 11) + 1))) = 33
          · refine wp_lookup (M := mX11_readsLine) (pc := 118) (t := 168) (off := 50) dX11_readsLine_118 (by decide) (by rw [c5] <;> rfl) (by decide) ?_
            refine wp_aload_n (M := mX11_readsLine) (pc := 168) dX11_readsLine_168 rfl rfl ?_
            refine xs_getr (M := mX11_readsLine) (pc := 169) (r := 83) dX11_readsLine_169 fX11_7 sh82 rfl (gr82_0 sw) ?_
            refine wp_bipush (M := mX11_readsLine) (pc := 172) dX11_readsLine_172 k_bipush_48 ?_
            refine wp_iload_n (M := mX11_readsLine) (pc := 174) dX11_readsLine_174 rfl rfl ?_
            refine wp_iadd (M := mX11_readsLine) (pc := 175) dX11_readsLine_175 ?_
            refine wp_iconst (M := mX11_readsLine) (pc := 176) dX11_readsLine_176 k_iconst_0 ?_
            refine xs_iast (M := mX11_readsLine) (pc := 177) (j := (48 + ((hereF f) - 97)).toNatClampNeg) dX11_readsLine_177 sh83 (p3 c1 c2 c3 c4 c5) rfl ?_
            refine wp_aload_n (M := mX11_readsLine) (pc := 178) dX11_readsLine_178 rfl rfl ?_
            refine wp_iload_n (M := mX11_readsLine) (pc := 179) dX11_readsLine_179 rfl rfl ?_
            refine xs_callV (d := d + 3) (M := mX11_readsLine) (pc := 180) (As := [.int ((hereF f) - 97)]) (st := []) (c := 11) (ls' := [.ref 82, .int ((hereF f) - 97), .null]) dX11_readsLine_180 oX11_endsCallOf nX11_endsCallOf lX11_127 vX11_endsCallOf sX11_endsCallOf rfl sh82 (Nat.le_of_ble_eq_true rfl) rfl (Nat.le_of_ble_eq_true rfl) rfl ?_
            exact p4 c1 c2 c3 c4 c5
          by_cases c6 : (hereF (upd2 (upd2 f 82 33 ((f 82 33) + 1)) 82 11 (((upd2 f 82 33 ((f 82 33) + 1)) 82 11) + 1))) = 42
          · refine wp_lookup (M := mX11_readsLine) (pc := 118) (t := 199) (off := 81) dX11_readsLine_118 (by decide) (by rw [c6] <;> rfl) (by decide) ?_
            refine wp_aload_n (M := mX11_readsLine) (pc := 199) dX11_readsLine_199 rfl rfl ?_
            refine xs_getr (M := mX11_readsLine) (pc := 200) (r := 83) dX11_readsLine_200 fX11_7 sh82 rfl (gr82_0 sw) ?_
            refine wp_bipush (M := mX11_readsLine) (pc := 203) dX11_readsLine_203 k_bipush_32 ?_
            refine wp_iload_n (M := mX11_readsLine) (pc := 205) dX11_readsLine_205 rfl rfl ?_
            refine wp_iadd (M := mX11_readsLine) (pc := 206) dX11_readsLine_206 ?_
            refine wp_iconst (M := mX11_readsLine) (pc := 207) dX11_readsLine_207 k_iconst_0 ?_
            refine xs_iast (M := mX11_readsLine) (pc := 208) (j := (32 + ((hereF f) - 97)).toNatClampNeg) dX11_readsLine_208 sh83 (p5 c1 c2 c3 c4 c6) rfl ?_
            refine wp_goto (M := mX11_readsLine) (pc := 209) (t := 247) dX11_readsLine_209 (by decide) ?_
            refine wp_aload_n (M := mX11_readsLine) (pc := 247) dX11_readsLine_247 rfl rfl ?_
            refine wp_aload_n (M := mX11_readsLine) (pc := 248) dX11_readsLine_248 rfl rfl ?_
            refine xs_geti (M := mX11_readsLine) (pc := 249) dX11_readsLine_249 fX11_152 sh82 rfl ?_
            refine wp_iconst (M := mX11_readsLine) (pc := 252) dX11_readsLine_252 k_iconst_1 ?_
            refine wp_iadd (M := mX11_readsLine) (pc := 253) dX11_readsLine_253 ?_
            refine xs_puti (M := mX11_readsLine) (pc := 254) dX11_readsLine_254 pX11_152 sh82 rfl ?_
            refine wp_iconst (M := mX11_readsLine) (pc := 257) dX11_readsLine_257 k_iconst_1 ?_
            exact xs_zret (M := mX11_readsLine) (pc := 258) dX11_readsLine_258 rfl (by decide) (p6 c1 c2 c3 c4 c6)
          by_cases c7 : (hereF (upd2 (upd2 f 82 33 ((f 82 33) + 1)) 82 11 (((upd2 f 82 33 ((f 82 33) + 1)) 82 11) + 1))) = 63
          · refine wp_lookup (M := mX11_readsLine) (pc := 118) (t := 186) (off := 68) dX11_readsLine_118 (by decide) (by rw [c7] <;> rfl) (by decide) ?_
            refine wp_aload_n (M := mX11_readsLine) (pc := 186) dX11_readsLine_186 rfl rfl ?_
            refine xs_getr (M := mX11_readsLine) (pc := 187) (r := 83) dX11_readsLine_187 fX11_7 sh82 rfl (gr82_0 sw) ?_
            refine wp_bipush (M := mX11_readsLine) (pc := 190) dX11_readsLine_190 k_bipush_48 ?_
            refine wp_iload_n (M := mX11_readsLine) (pc := 192) dX11_readsLine_192 rfl rfl ?_
            refine wp_iadd (M := mX11_readsLine) (pc := 193) dX11_readsLine_193 ?_
            refine wp_iconst (M := mX11_readsLine) (pc := 194) dX11_readsLine_194 k_iconst_1 ?_
            refine xs_iast (M := mX11_readsLine) (pc := 195) (j := (48 + ((hereF f) - 97)).toNatClampNeg) dX11_readsLine_195 sh83 (p7 c1 c2 c3 c4 c7) rfl ?_
            refine wp_goto (M := mX11_readsLine) (pc := 196) (t := 247) dX11_readsLine_196 (by decide) ?_
            refine wp_aload_n (M := mX11_readsLine) (pc := 247) dX11_readsLine_247 rfl rfl ?_
            refine wp_aload_n (M := mX11_readsLine) (pc := 248) dX11_readsLine_248 rfl rfl ?_
            refine xs_geti (M := mX11_readsLine) (pc := 249) dX11_readsLine_249 fX11_152 sh82 rfl ?_
            refine wp_iconst (M := mX11_readsLine) (pc := 252) dX11_readsLine_252 k_iconst_1 ?_
            refine wp_iadd (M := mX11_readsLine) (pc := 253) dX11_readsLine_253 ?_
            refine xs_puti (M := mX11_readsLine) (pc := 254) dX11_readsLine_254 pX11_152 sh82 rfl ?_
            refine wp_iconst (M := mX11_readsLine) (pc := 257) dX11_readsLine_257 k_iconst_1 ?_
            exact xs_zret (M := mX11_readsLine) (pc := 258) dX11_readsLine_258 rfl (by decide) (p8 c1 c2 c3 c4 c7)
          by_cases c8 : (hereF (upd2 (upd2 f 82 33 ((f 82 33) + 1)) 82 11 (((upd2 f 82 33 ((f 82 33) + 1)) 82 11) + 1))) = 94
          · refine wp_lookup (M := mX11_readsLine) (pc := 118) (t := 212) (off := 94) dX11_readsLine_118 (by decide) (by rw [c8] <;> rfl) (by decide) ?_
            refine wp_aload_n (M := mX11_readsLine) (pc := 212) dX11_readsLine_212 rfl rfl ?_
            refine xs_getr (M := mX11_readsLine) (pc := 213) (r := 83) dX11_readsLine_213 fX11_7 sh82 rfl (gr82_0 sw) ?_
            refine wp_bipush (M := mX11_readsLine) (pc := 216) dX11_readsLine_216 k_bipush_64 ?_
            refine wp_iload_n (M := mX11_readsLine) (pc := 218) dX11_readsLine_218 rfl rfl ?_
            refine wp_iadd (M := mX11_readsLine) (pc := 219) dX11_readsLine_219 ?_
            refine wp_iconst (M := mX11_readsLine) (pc := 220) dX11_readsLine_220 k_iconst_1 ?_
            refine xs_iast (M := mX11_readsLine) (pc := 221) (j := (64 + ((hereF f) - 97)).toNatClampNeg) dX11_readsLine_221 sh83 (p9 c1 c2 c3 c4 c8) rfl ?_
            refine wp_goto (M := mX11_readsLine) (pc := 222) (t := 247) dX11_readsLine_222 (by decide) ?_
            refine wp_aload_n (M := mX11_readsLine) (pc := 247) dX11_readsLine_247 rfl rfl ?_
            refine wp_aload_n (M := mX11_readsLine) (pc := 248) dX11_readsLine_248 rfl rfl ?_
            refine xs_geti (M := mX11_readsLine) (pc := 249) dX11_readsLine_249 fX11_152 sh82 rfl ?_
            refine wp_iconst (M := mX11_readsLine) (pc := 252) dX11_readsLine_252 k_iconst_1 ?_
            refine wp_iadd (M := mX11_readsLine) (pc := 253) dX11_readsLine_253 ?_
            refine xs_puti (M := mX11_readsLine) (pc := 254) dX11_readsLine_254 pX11_152 sh82 rfl ?_
            refine wp_iconst (M := mX11_readsLine) (pc := 257) dX11_readsLine_257 k_iconst_1 ?_
            exact xs_zret (M := mX11_readsLine) (pc := 258) dX11_readsLine_258 rfl (by decide) (p10 c1 c2 c3 c4 c8)
          by_cases c9 : (hereF (upd2 (upd2 f 82 33 ((f 82 33) + 1)) 82 11 (((upd2 f 82 33 ((f 82 33) + 1)) 82 11) + 1))) = 95
          · refine wp_lookup (M := mX11_readsLine) (pc := 118) (t := 225) (off := 107) dX11_readsLine_118 (by decide) (by rw [c9] <;> rfl) (by decide) ?_
            refine wp_aload_n (M := mX11_readsLine) (pc := 225) dX11_readsLine_225 rfl rfl ?_
            refine xs_getr (M := mX11_readsLine) (pc := 226) (r := 83) dX11_readsLine_226 fX11_7 sh82 rfl (gr82_0 sw) ?_
            refine wp_bipush (M := mX11_readsLine) (pc := 229) dX11_readsLine_229 k_bipush_64 ?_
            refine wp_iload_n (M := mX11_readsLine) (pc := 231) dX11_readsLine_231 rfl rfl ?_
            refine wp_iadd (M := mX11_readsLine) (pc := 232) dX11_readsLine_232 ?_
            refine wp_iconst (M := mX11_readsLine) (pc := 233) dX11_readsLine_233 k_iconst_0 ?_
            refine xs_iast (M := mX11_readsLine) (pc := 234) (j := (64 + ((hereF f) - 97)).toNatClampNeg) dX11_readsLine_234 sh83 (p11 c1 c2 c3 c4 c9) rfl ?_
            refine wp_goto (M := mX11_readsLine) (pc := 235) (t := 247) dX11_readsLine_235 (by decide) ?_
            refine wp_aload_n (M := mX11_readsLine) (pc := 247) dX11_readsLine_247 rfl rfl ?_
            refine wp_aload_n (M := mX11_readsLine) (pc := 248) dX11_readsLine_248 rfl rfl ?_
            refine xs_geti (M := mX11_readsLine) (pc := 249) dX11_readsLine_249 fX11_152 sh82 rfl ?_
            refine wp_iconst (M := mX11_readsLine) (pc := 252) dX11_readsLine_252 k_iconst_1 ?_
            refine wp_iadd (M := mX11_readsLine) (pc := 253) dX11_readsLine_253 ?_
            refine xs_puti (M := mX11_readsLine) (pc := 254) dX11_readsLine_254 pX11_152 sh82 rfl ?_
            refine wp_iconst (M := mX11_readsLine) (pc := 257) dX11_readsLine_257 k_iconst_1 ?_
            exact xs_zret (M := mX11_readsLine) (pc := 258) dX11_readsLine_258 rfl (by decide) (p12 c1 c2 c3 c4 c9)
          refine wp_lookup (M := mX11_readsLine) (pc := 118) (t := 238) (off := 120) dX11_readsLine_118 (by decide) ((lv_osw c5 rfl).trans ((lv_osw c6 rfl).trans ((lv_osw c7 rfl).trans ((lv_osw c8 rfl).trans ((lv_osw c9 rfl).trans rfl))))) (by decide) ?_
          refine wp_aload_n (M := mX11_readsLine) (pc := 238) dX11_readsLine_238 rfl rfl ?_
          refine wp_bipush (M := mX11_readsLine) (pc := 239) dX11_readsLine_239 k_bipush_80 ?_
          refine wp_iload_n (M := mX11_readsLine) (pc := 241) dX11_readsLine_241 rfl rfl ?_
          refine wp_iadd (M := mX11_readsLine) (pc := 242) dX11_readsLine_242 ?_
          refine xs_callV (d := d + 3) (M := mX11_readsLine) (pc := 243) (As := [.int (80 + ((hereF f) - 97))]) (st := []) (c := 11) (ls' := [.ref 82, .int (80 + ((hereF f) - 97)), .null]) dX11_readsLine_243 oX11_readsMore nX11_readsMore lX11_263 vX11_readsMore sX11_readsMore rfl sh82 (Nat.le_of_ble_eq_true rfl) rfl (Nat.le_of_ble_eq_true rfl) rfl ?_
          exact p13 c1 c2 c3 c4 c5 c6 c7 c8 c9
        · refine wp_aload_n (M := mX11_readsLine) (pc := 106) dX11_readsLine_106 rfl rfl ?_
          refine wp_sipush (M := mX11_readsLine) (pc := 107) dX11_readsLine_107 k_sipush_388 ?_
          refine xs_callV (d := d + 3) (M := mX11_readsLine) (pc := 110) (As := [.int 388]) (st := []) (c := 11) (ls' := [.ref 82, .int 388, .null]) dX11_readsLine_110 oX11_readsMore nX11_readsMore lX11_263 vX11_readsMore sX11_readsMore rfl sh82 (Nat.le_of_ble_eq_true rfl) rfl (Nat.le_of_ble_eq_true rfl) rfl ?_
          exact p14 c1 c2 c3 c4
      · refine wp_aload_n (M := mX11_readsLine) (pc := 71) dX11_readsLine_71 rfl rfl ?_
        refine wp_iload_n (M := mX11_readsLine) (pc := 72) dX11_readsLine_72 rfl rfl ?_
        refine xs_callV (d := d + 3) (M := mX11_readsLine) (pc := 73) (As := [.int ((hereF f) - 97)]) (st := []) (c := 11) (ls' := [.ref 82, .int ((hereF f) - 97)]) dX11_readsLine_73 oX11_isTold nX11_isTold lX11_119 vX11_isTold sX11_isTold rfl sh82 (Nat.le_of_ble_eq_true rfl) rfl (Nat.le_of_ble_eq_true rfl) rfl ?_
        refine sp_X11_isTold   ?_
        refine xs_ifb_ne (M := mX11_readsLine) (pc := 76) (t := 90) dX11_readsLine_76 (by decide) (fun c10 => ?_) (fun c10 => ?_)
        · refine wp_aload_n (M := mX11_readsLine) (pc := 90) dX11_readsLine_90 rfl rfl ?_
          refine wp_aload_n (M := mX11_readsLine) (pc := 91) dX11_readsLine_91 rfl rfl ?_
          refine xs_geti (M := mX11_readsLine) (pc := 92) dX11_readsLine_92 fX11_152 sh82 rfl ?_
          refine wp_iconst (M := mX11_readsLine) (pc := 95) dX11_readsLine_95 k_iconst_1 ?_
          refine wp_iadd (M := mX11_readsLine) (pc := 96) dX11_readsLine_96 ?_
          refine xs_puti (M := mX11_readsLine) (pc := 97) dX11_readsLine_97 pX11_152 sh82 rfl ?_
          refine wp_iload_n (M := mX11_readsLine) (pc := 100) dX11_readsLine_100 rfl rfl ?_
          refine wp_bipush (M := mX11_readsLine) (pc := 101) dX11_readsLine_101 k_bipush_70 ?_
          refine wp_icmp_ne (M := mX11_readsLine) (pc := 103) (t := 114) dX11_readsLine_103 (by decide) (fun c11 => ?_) (fun c11 => ?_)
          · refine wp_aload_n (M := mX11_readsLine) (pc := 114) dX11_readsLine_114 rfl rfl ?_
            refine xs_callV (d := d + 3) (M := mX11_readsLine) (pc := 115) (As := []) (st := []) (c := 11) (ls' := [.ref 82]) dX11_readsLine_115 oX11_here nX11_here lX11_158 vX11_here sX11_here rfl sh82 (Nat.le_of_ble_eq_true rfl) rfl (Nat.le_of_ble_eq_true rfl) rfl ?_
            refine sp_X11_here  (p15 c1 c2 c3 c10 c11) ?_
            by_cases c12 : (hereF (upd2 (upd2 f 82 33 ((f 82 33) + 1)) 82 11 (((upd2 f 82 33 ((f 82 33) + 1)) 82 11) + 1))) = 33
            · refine wp_lookup (M := mX11_readsLine) (pc := 118) (t := 168) (off := 50) dX11_readsLine_118 (by decide) (by rw [c12] <;> rfl) (by decide) ?_
              refine wp_aload_n (M := mX11_readsLine) (pc := 168) dX11_readsLine_168 rfl rfl ?_
              refine xs_getr (M := mX11_readsLine) (pc := 169) (r := 83) dX11_readsLine_169 fX11_7 sh82 rfl (gr82_0 sw) ?_
              refine wp_bipush (M := mX11_readsLine) (pc := 172) dX11_readsLine_172 k_bipush_48 ?_
              refine wp_iload_n (M := mX11_readsLine) (pc := 174) dX11_readsLine_174 rfl rfl ?_
              refine wp_iadd (M := mX11_readsLine) (pc := 175) dX11_readsLine_175 ?_
              refine wp_iconst (M := mX11_readsLine) (pc := 176) dX11_readsLine_176 k_iconst_0 ?_
              refine xs_iast (M := mX11_readsLine) (pc := 177) (j := (48 + ((hereF f) - 97)).toNatClampNeg) dX11_readsLine_177 sh83 (p16 c1 c2 c3 c10 c11 c12) rfl ?_
              refine wp_aload_n (M := mX11_readsLine) (pc := 178) dX11_readsLine_178 rfl rfl ?_
              refine wp_iload_n (M := mX11_readsLine) (pc := 179) dX11_readsLine_179 rfl rfl ?_
              refine xs_callV (d := d + 3) (M := mX11_readsLine) (pc := 180) (As := [.int ((hereF f) - 97)]) (st := []) (c := 11) (ls' := [.ref 82, .int ((hereF f) - 97), .null]) dX11_readsLine_180 oX11_endsCallOf nX11_endsCallOf lX11_127 vX11_endsCallOf sX11_endsCallOf rfl sh82 (Nat.le_of_ble_eq_true rfl) rfl (Nat.le_of_ble_eq_true rfl) rfl ?_
              exact p17 c1 c2 c3 c10 c11 c12
            by_cases c13 : (hereF (upd2 (upd2 f 82 33 ((f 82 33) + 1)) 82 11 (((upd2 f 82 33 ((f 82 33) + 1)) 82 11) + 1))) = 42
            · refine wp_lookup (M := mX11_readsLine) (pc := 118) (t := 199) (off := 81) dX11_readsLine_118 (by decide) (by rw [c13] <;> rfl) (by decide) ?_
              refine wp_aload_n (M := mX11_readsLine) (pc := 199) dX11_readsLine_199 rfl rfl ?_
              refine xs_getr (M := mX11_readsLine) (pc := 200) (r := 83) dX11_readsLine_200 fX11_7 sh82 rfl (gr82_0 sw) ?_
              refine wp_bipush (M := mX11_readsLine) (pc := 203) dX11_readsLine_203 k_bipush_32 ?_
              refine wp_iload_n (M := mX11_readsLine) (pc := 205) dX11_readsLine_205 rfl rfl ?_
              refine wp_iadd (M := mX11_readsLine) (pc := 206) dX11_readsLine_206 ?_
              refine wp_iconst (M := mX11_readsLine) (pc := 207) dX11_readsLine_207 k_iconst_0 ?_
              refine xs_iast (M := mX11_readsLine) (pc := 208) (j := (32 + ((hereF f) - 97)).toNatClampNeg) dX11_readsLine_208 sh83 (p18 c1 c2 c3 c10 c11 c13) rfl ?_
              refine wp_goto (M := mX11_readsLine) (pc := 209) (t := 247) dX11_readsLine_209 (by decide) ?_
              refine wp_aload_n (M := mX11_readsLine) (pc := 247) dX11_readsLine_247 rfl rfl ?_
              refine wp_aload_n (M := mX11_readsLine) (pc := 248) dX11_readsLine_248 rfl rfl ?_
              refine xs_geti (M := mX11_readsLine) (pc := 249) dX11_readsLine_249 fX11_152 sh82 rfl ?_
              refine wp_iconst (M := mX11_readsLine) (pc := 252) dX11_readsLine_252 k_iconst_1 ?_
              refine wp_iadd (M := mX11_readsLine) (pc := 253) dX11_readsLine_253 ?_
              refine xs_puti (M := mX11_readsLine) (pc := 254) dX11_readsLine_254 pX11_152 sh82 rfl ?_
              refine wp_iconst (M := mX11_readsLine) (pc := 257) dX11_readsLine_257 k_iconst_1 ?_
              exact xs_zret (M := mX11_readsLine) (pc := 258) dX11_readsLine_258 rfl (by decide) (p19 c1 c2 c3 c10 c11 c13)
            by_cases c14 : (hereF (upd2 (upd2 f 82 33 ((f 82 33) + 1)) 82 11 (((upd2 f 82 33 ((f 82 33) + 1)) 82 11) + 1))) = 63
            · refine wp_lookup (M := mX11_readsLine) (pc := 118) (t := 186) (off := 68) dX11_readsLine_118 (by decide) (by rw [c14] <;> rfl) (by decide) ?_
              refine wp_aload_n (M := mX11_readsLine) (pc := 186) dX11_readsLine_186 rfl rfl ?_
              refine xs_getr (M := mX11_readsLine) (pc := 187) (r := 83) dX11_readsLine_187 fX11_7 sh82 rfl (gr82_0 sw) ?_
              refine wp_bipush (M := mX11_readsLine) (pc := 190) dX11_readsLine_190 k_bipush_48 ?_
              refine wp_iload_n (M := mX11_readsLine) (pc := 192) dX11_readsLine_192 rfl rfl ?_
              refine wp_iadd (M := mX11_readsLine) (pc := 193) dX11_readsLine_193 ?_
              refine wp_iconst (M := mX11_readsLine) (pc := 194) dX11_readsLine_194 k_iconst_1 ?_
              refine xs_iast (M := mX11_readsLine) (pc := 195) (j := (48 + ((hereF f) - 97)).toNatClampNeg) dX11_readsLine_195 sh83 (p20 c1 c2 c3 c10 c11 c14) rfl ?_
              refine wp_goto (M := mX11_readsLine) (pc := 196) (t := 247) dX11_readsLine_196 (by decide) ?_
              refine wp_aload_n (M := mX11_readsLine) (pc := 247) dX11_readsLine_247 rfl rfl ?_
              refine wp_aload_n (M := mX11_readsLine) (pc := 248) dX11_readsLine_248 rfl rfl ?_
              refine xs_geti (M := mX11_readsLine) (pc := 249) dX11_readsLine_249 fX11_152 sh82 rfl ?_
              refine wp_iconst (M := mX11_readsLine) (pc := 252) dX11_readsLine_252 k_iconst_1 ?_
              refine wp_iadd (M := mX11_readsLine) (pc := 253) dX11_readsLine_253 ?_
              refine xs_puti (M := mX11_readsLine) (pc := 254) dX11_readsLine_254 pX11_152 sh82 rfl ?_
              refine wp_iconst (M := mX11_readsLine) (pc := 257) dX11_readsLine_257 k_iconst_1 ?_
              exact xs_zret (M := mX11_readsLine) (pc := 258) dX11_readsLine_258 rfl (by decide) (p21 c1 c2 c3 c10 c11 c14)
            by_cases c15 : (hereF (upd2 (upd2 f 82 33 ((f 82 33) + 1)) 82 11 (((upd2 f 82 33 ((f 82 33) + 1)) 82 11) + 1))) = 94
            · refine wp_lookup (M := mX11_readsLine) (pc := 118) (t := 212) (off := 94) dX11_readsLine_118 (by decide) (by rw [c15] <;> rfl) (by decide) ?_
              refine wp_aload_n (M := mX11_readsLine) (pc := 212) dX11_readsLine_212 rfl rfl ?_
              refine xs_getr (M := mX11_readsLine) (pc := 213) (r := 83) dX11_readsLine_213 fX11_7 sh82 rfl (gr82_0 sw) ?_
              refine wp_bipush (M := mX11_readsLine) (pc := 216) dX11_readsLine_216 k_bipush_64 ?_
              refine wp_iload_n (M := mX11_readsLine) (pc := 218) dX11_readsLine_218 rfl rfl ?_
              refine wp_iadd (M := mX11_readsLine) (pc := 219) dX11_readsLine_219 ?_
              refine wp_iconst (M := mX11_readsLine) (pc := 220) dX11_readsLine_220 k_iconst_1 ?_
              refine xs_iast (M := mX11_readsLine) (pc := 221) (j := (64 + ((hereF f) - 97)).toNatClampNeg) dX11_readsLine_221 sh83 (p22 c1 c2 c3 c10 c11 c15) rfl ?_
              refine wp_goto (M := mX11_readsLine) (pc := 222) (t := 247) dX11_readsLine_222 (by decide) ?_
              refine wp_aload_n (M := mX11_readsLine) (pc := 247) dX11_readsLine_247 rfl rfl ?_
              refine wp_aload_n (M := mX11_readsLine) (pc := 248) dX11_readsLine_248 rfl rfl ?_
              refine xs_geti (M := mX11_readsLine) (pc := 249) dX11_readsLine_249 fX11_152 sh82 rfl ?_
              refine wp_iconst (M := mX11_readsLine) (pc := 252) dX11_readsLine_252 k_iconst_1 ?_
              refine wp_iadd (M := mX11_readsLine) (pc := 253) dX11_readsLine_253 ?_
              refine xs_puti (M := mX11_readsLine) (pc := 254) dX11_readsLine_254 pX11_152 sh82 rfl ?_
              refine wp_iconst (M := mX11_readsLine) (pc := 257) dX11_readsLine_257 k_iconst_1 ?_
              exact xs_zret (M := mX11_readsLine) (pc := 258) dX11_readsLine_258 rfl (by decide) (p23 c1 c2 c3 c10 c11 c15)
            by_cases c16 : (hereF (upd2 (upd2 f 82 33 ((f 82 33) + 1)) 82 11 (((upd2 f 82 33 ((f 82 33) + 1)) 82 11) + 1))) = 95
            · refine wp_lookup (M := mX11_readsLine) (pc := 118) (t := 225) (off := 107) dX11_readsLine_118 (by decide) (by rw [c16] <;> rfl) (by decide) ?_
              refine wp_aload_n (M := mX11_readsLine) (pc := 225) dX11_readsLine_225 rfl rfl ?_
              refine xs_getr (M := mX11_readsLine) (pc := 226) (r := 83) dX11_readsLine_226 fX11_7 sh82 rfl (gr82_0 sw) ?_
              refine wp_bipush (M := mX11_readsLine) (pc := 229) dX11_readsLine_229 k_bipush_64 ?_
              refine wp_iload_n (M := mX11_readsLine) (pc := 231) dX11_readsLine_231 rfl rfl ?_
              refine wp_iadd (M := mX11_readsLine) (pc := 232) dX11_readsLine_232 ?_
              refine wp_iconst (M := mX11_readsLine) (pc := 233) dX11_readsLine_233 k_iconst_0 ?_
              refine xs_iast (M := mX11_readsLine) (pc := 234) (j := (64 + ((hereF f) - 97)).toNatClampNeg) dX11_readsLine_234 sh83 (p24 c1 c2 c3 c10 c11 c16) rfl ?_
              refine wp_goto (M := mX11_readsLine) (pc := 235) (t := 247) dX11_readsLine_235 (by decide) ?_
              refine wp_aload_n (M := mX11_readsLine) (pc := 247) dX11_readsLine_247 rfl rfl ?_
              refine wp_aload_n (M := mX11_readsLine) (pc := 248) dX11_readsLine_248 rfl rfl ?_
              refine xs_geti (M := mX11_readsLine) (pc := 249) dX11_readsLine_249 fX11_152 sh82 rfl ?_
              refine wp_iconst (M := mX11_readsLine) (pc := 252) dX11_readsLine_252 k_iconst_1 ?_
              refine wp_iadd (M := mX11_readsLine) (pc := 253) dX11_readsLine_253 ?_
              refine xs_puti (M := mX11_readsLine) (pc := 254) dX11_readsLine_254 pX11_152 sh82 rfl ?_
              refine wp_iconst (M := mX11_readsLine) (pc := 257) dX11_readsLine_257 k_iconst_1 ?_
              exact xs_zret (M := mX11_readsLine) (pc := 258) dX11_readsLine_258 rfl (by decide) (p25 c1 c2 c3 c10 c11 c16)
            refine wp_lookup (M := mX11_readsLine) (pc := 118) (t := 238) (off := 120) dX11_readsLine_118 (by decide) ((lv_osw c12 rfl).trans ((lv_osw c13 rfl).trans ((lv_osw c14 rfl).trans ((lv_osw c15 rfl).trans ((lv_osw c16 rfl).trans rfl))))) (by decide) ?_
            refine wp_aload_n (M := mX11_readsLine) (pc := 238) dX11_readsLine_238 rfl rfl ?_
            refine wp_bipush (M := mX11_readsLine) (pc := 239) dX11_readsLine_239 k_bipush_80 ?_
            refine wp_iload_n (M := mX11_readsLine) (pc := 241) dX11_readsLine_241 rfl rfl ?_
            refine wp_iadd (M := mX11_readsLine) (pc := 242) dX11_readsLine_242 ?_
            refine xs_callV (d := d + 3) (M := mX11_readsLine) (pc := 243) (As := [.int (80 + ((hereF f) - 97))]) (st := []) (c := 11) (ls' := [.ref 82, .int (80 + ((hereF f) - 97)), .null]) dX11_readsLine_243 oX11_readsMore nX11_readsMore lX11_263 vX11_readsMore sX11_readsMore rfl sh82 (Nat.le_of_ble_eq_true rfl) rfl (Nat.le_of_ble_eq_true rfl) rfl ?_
            exact p26 c1 c2 c3 c10 c11 c12 c13 c14 c15 c16
          · refine wp_aload_n (M := mX11_readsLine) (pc := 106) dX11_readsLine_106 rfl rfl ?_
            refine wp_sipush (M := mX11_readsLine) (pc := 107) dX11_readsLine_107 k_sipush_388 ?_
            refine xs_callV (d := d + 3) (M := mX11_readsLine) (pc := 110) (As := [.int 388]) (st := []) (c := 11) (ls' := [.ref 82, .int 388, .null]) dX11_readsLine_110 oX11_readsMore nX11_readsMore lX11_263 vX11_readsMore sX11_readsMore rfl sh82 (Nat.le_of_ble_eq_true rfl) rfl (Nat.le_of_ble_eq_true rfl) rfl ?_
            exact p27 c1 c2 c3 c10 c11
        · refine wp_aload_n (M := mX11_readsLine) (pc := 79) dX11_readsLine_79 rfl rfl ?_
          refine wp_bipush (M := mX11_readsLine) (pc := 80) dX11_readsLine_80 k_bipush_7 ?_
          refine wp_aload_n (M := mX11_readsLine) (pc := 82) dX11_readsLine_82 rfl rfl ?_
          refine xs_geti (M := mX11_readsLine) (pc := 83) dX11_readsLine_83 fX11_152 sh82 rfl ?_
          refine xs_callV (d := d + 3) (M := mX11_readsLine) (pc := 86) (As := [.int 7, .int ((upd2 f 82 33 ((f 82 33) + 1)) 82 11)]) (st := []) (c := 11) (ls' := [.ref 82, .int 7, .int ((upd2 f 82 33 ((f 82 33) + 1)) 82 11)]) dX11_readsLine_86 oX11_wrongAt nX11_wrongAt lX11_165 vX11_wrongAt sX11_wrongAt rfl sh82 (Nat.le_of_ble_eq_true rfl) rfl (Nat.le_of_ble_eq_true rfl) rfl ?_
          exact p28 c1 c2 c3 c10
    · refine wp_aload_n (M := mX11_readsLine) (pc := 45) dX11_readsLine_45 rfl rfl ?_
      refine wp_iconst (M := mX11_readsLine) (pc := 46) dX11_readsLine_46 k_iconst_4 ?_
      refine wp_aload_n (M := mX11_readsLine) (pc := 47) dX11_readsLine_47 rfl rfl ?_
      refine xs_geti (M := mX11_readsLine) (pc := 48) dX11_readsLine_48 fX11_152 sh82 rfl ?_
      refine xs_callV (d := d + 3) (M := mX11_readsLine) (pc := 51) (As := [.int 4, .int (f 82 11)]) (st := []) (c := 11) (ls' := [.ref 82, .int 4, .int (f 82 11)]) dX11_readsLine_51 oX11_wrongAt nX11_wrongAt lX11_165 vX11_wrongAt sX11_wrongAt rfl sh82 (Nat.le_of_ble_eq_true rfl) rfl (Nat.le_of_ble_eq_true rfl) rfl ?_
      exact p29 c1 c2
  · refine wp_iload_n (M := mX11_readsLine) (pc := 16) dX11_readsLine_16 rfl rfl ?_
    refine wp_iconst (M := mX11_readsLine) (pc := 17) dX11_readsLine_17 k_iconst_0 ?_
    refine wp_bipush (M := mX11_readsLine) (pc := 18) dX11_readsLine_18 k_bipush_15 ?_
    refine xs_callS (d := d + 3) (M := mX11_readsLine) (pc := 20) (As := [.int ((hereF f) - 97), .int 0, .int 15]) (st := []) (ls' := [.int ((hereF f) - 97), .int 0, .int 15]) dX11_readsLine_20 oX11_in nX11_in lX11_111 tX11_in (Nat.le_of_ble_eq_true rfl) rfl (Nat.le_of_ble_eq_true rfl) rfl ?_
    refine sp_X11_in   ?_
    refine xs_ifb_ne (M := mX11_readsLine) (pc := 23) (t := 36) dX11_readsLine_23 (by decide) (fun c17 => ?_) (fun c17 => ?_)
    · refine wp_aload_n (M := mX11_readsLine) (pc := 36) dX11_readsLine_36 rfl rfl ?_
      refine xs_geti (M := mX11_readsLine) (pc := 37) dX11_readsLine_37 fX11_260 sh82 rfl ?_
      refine wp_bipush (M := mX11_readsLine) (pc := 40) dX11_readsLine_40 k_bipush_20 ?_
      refine wp_icmp_ne (M := mX11_readsLine) (pc := 42) (t := 55) dX11_readsLine_42 (by decide) (fun c18 => ?_) (fun c18 => ?_)
      · refine wp_aload_n (M := mX11_readsLine) (pc := 55) dX11_readsLine_55 rfl rfl ?_
        refine wp_aload_n (M := mX11_readsLine) (pc := 56) dX11_readsLine_56 rfl rfl ?_
        refine xs_geti (M := mX11_readsLine) (pc := 57) dX11_readsLine_57 fX11_260 sh82 rfl ?_
        refine wp_iconst (M := mX11_readsLine) (pc := 60) dX11_readsLine_60 k_iconst_1 ?_
        refine wp_iadd (M := mX11_readsLine) (pc := 61) dX11_readsLine_61 ?_
        refine xs_puti (M := mX11_readsLine) (pc := 62) dX11_readsLine_62 pX11_260 sh82 rfl ?_
        refine wp_iload_n (M := mX11_readsLine) (pc := 65) dX11_readsLine_65 rfl rfl ?_
        refine wp_bipush (M := mX11_readsLine) (pc := 66) dX11_readsLine_66 k_bipush_70 ?_
        refine wp_icmp_eq (M := mX11_readsLine) (pc := 68) (t := 90) dX11_readsLine_68 (by decide) (fun c19 => ?_) (fun c19 => ?_)
        · refine wp_aload_n (M := mX11_readsLine) (pc := 90) dX11_readsLine_90 rfl rfl ?_
          refine wp_aload_n (M := mX11_readsLine) (pc := 91) dX11_readsLine_91 rfl rfl ?_
          refine xs_geti (M := mX11_readsLine) (pc := 92) dX11_readsLine_92 fX11_152 sh82 rfl ?_
          refine wp_iconst (M := mX11_readsLine) (pc := 95) dX11_readsLine_95 k_iconst_1 ?_
          refine wp_iadd (M := mX11_readsLine) (pc := 96) dX11_readsLine_96 ?_
          refine xs_puti (M := mX11_readsLine) (pc := 97) dX11_readsLine_97 pX11_152 sh82 rfl ?_
          refine wp_iload_n (M := mX11_readsLine) (pc := 100) dX11_readsLine_100 rfl rfl ?_
          refine wp_bipush (M := mX11_readsLine) (pc := 101) dX11_readsLine_101 k_bipush_70 ?_
          refine wp_icmp_ne (M := mX11_readsLine) (pc := 103) (t := 114) dX11_readsLine_103 (by decide) (fun c20 => ?_) (fun c20 => ?_)
          · refine wp_aload_n (M := mX11_readsLine) (pc := 114) dX11_readsLine_114 rfl rfl ?_
            refine xs_callV (d := d + 3) (M := mX11_readsLine) (pc := 115) (As := []) (st := []) (c := 11) (ls' := [.ref 82]) dX11_readsLine_115 oX11_here nX11_here lX11_158 vX11_here sX11_here rfl sh82 (Nat.le_of_ble_eq_true rfl) rfl (Nat.le_of_ble_eq_true rfl) rfl ?_
            refine sp_X11_here  (p30 c1 c17 c18 c19 c20) ?_
            by_cases c21 : (hereF (upd2 (upd2 f 82 33 ((f 82 33) + 1)) 82 11 (((upd2 f 82 33 ((f 82 33) + 1)) 82 11) + 1))) = 33
            · refine wp_lookup (M := mX11_readsLine) (pc := 118) (t := 168) (off := 50) dX11_readsLine_118 (by decide) (by rw [c21] <;> rfl) (by decide) ?_
              refine wp_aload_n (M := mX11_readsLine) (pc := 168) dX11_readsLine_168 rfl rfl ?_
              refine xs_getr (M := mX11_readsLine) (pc := 169) (r := 83) dX11_readsLine_169 fX11_7 sh82 rfl (gr82_0 sw) ?_
              refine wp_bipush (M := mX11_readsLine) (pc := 172) dX11_readsLine_172 k_bipush_48 ?_
              refine wp_iload_n (M := mX11_readsLine) (pc := 174) dX11_readsLine_174 rfl rfl ?_
              refine wp_iadd (M := mX11_readsLine) (pc := 175) dX11_readsLine_175 ?_
              refine wp_iconst (M := mX11_readsLine) (pc := 176) dX11_readsLine_176 k_iconst_0 ?_
              refine xs_iast (M := mX11_readsLine) (pc := 177) (j := (48 + ((hereF f) - 97)).toNatClampNeg) dX11_readsLine_177 sh83 (p31 c1 c17 c18 c19 c20 c21) rfl ?_
              refine wp_aload_n (M := mX11_readsLine) (pc := 178) dX11_readsLine_178 rfl rfl ?_
              refine wp_iload_n (M := mX11_readsLine) (pc := 179) dX11_readsLine_179 rfl rfl ?_
              refine xs_callV (d := d + 3) (M := mX11_readsLine) (pc := 180) (As := [.int ((hereF f) - 97)]) (st := []) (c := 11) (ls' := [.ref 82, .int ((hereF f) - 97), .null]) dX11_readsLine_180 oX11_endsCallOf nX11_endsCallOf lX11_127 vX11_endsCallOf sX11_endsCallOf rfl sh82 (Nat.le_of_ble_eq_true rfl) rfl (Nat.le_of_ble_eq_true rfl) rfl ?_
              exact p32 c1 c17 c18 c19 c20 c21
            by_cases c22 : (hereF (upd2 (upd2 f 82 33 ((f 82 33) + 1)) 82 11 (((upd2 f 82 33 ((f 82 33) + 1)) 82 11) + 1))) = 42
            · refine wp_lookup (M := mX11_readsLine) (pc := 118) (t := 199) (off := 81) dX11_readsLine_118 (by decide) (by rw [c22] <;> rfl) (by decide) ?_
              refine wp_aload_n (M := mX11_readsLine) (pc := 199) dX11_readsLine_199 rfl rfl ?_
              refine xs_getr (M := mX11_readsLine) (pc := 200) (r := 83) dX11_readsLine_200 fX11_7 sh82 rfl (gr82_0 sw) ?_
              refine wp_bipush (M := mX11_readsLine) (pc := 203) dX11_readsLine_203 k_bipush_32 ?_
              refine wp_iload_n (M := mX11_readsLine) (pc := 205) dX11_readsLine_205 rfl rfl ?_
              refine wp_iadd (M := mX11_readsLine) (pc := 206) dX11_readsLine_206 ?_
              refine wp_iconst (M := mX11_readsLine) (pc := 207) dX11_readsLine_207 k_iconst_0 ?_
              refine xs_iast (M := mX11_readsLine) (pc := 208) (j := (32 + ((hereF f) - 97)).toNatClampNeg) dX11_readsLine_208 sh83 (p33 c1 c17 c18 c19 c20 c22) rfl ?_
              refine wp_goto (M := mX11_readsLine) (pc := 209) (t := 247) dX11_readsLine_209 (by decide) ?_
              refine wp_aload_n (M := mX11_readsLine) (pc := 247) dX11_readsLine_247 rfl rfl ?_
              refine wp_aload_n (M := mX11_readsLine) (pc := 248) dX11_readsLine_248 rfl rfl ?_
              refine xs_geti (M := mX11_readsLine) (pc := 249) dX11_readsLine_249 fX11_152 sh82 rfl ?_
              refine wp_iconst (M := mX11_readsLine) (pc := 252) dX11_readsLine_252 k_iconst_1 ?_
              refine wp_iadd (M := mX11_readsLine) (pc := 253) dX11_readsLine_253 ?_
              refine xs_puti (M := mX11_readsLine) (pc := 254) dX11_readsLine_254 pX11_152 sh82 rfl ?_
              refine wp_iconst (M := mX11_readsLine) (pc := 257) dX11_readsLine_257 k_iconst_1 ?_
              exact xs_zret (M := mX11_readsLine) (pc := 258) dX11_readsLine_258 rfl (by decide) (p34 c1 c17 c18 c19 c20 c22)
            by_cases c23 : (hereF (upd2 (upd2 f 82 33 ((f 82 33) + 1)) 82 11 (((upd2 f 82 33 ((f 82 33) + 1)) 82 11) + 1))) = 63
            · refine wp_lookup (M := mX11_readsLine) (pc := 118) (t := 186) (off := 68) dX11_readsLine_118 (by decide) (by rw [c23] <;> rfl) (by decide) ?_
              refine wp_aload_n (M := mX11_readsLine) (pc := 186) dX11_readsLine_186 rfl rfl ?_
              refine xs_getr (M := mX11_readsLine) (pc := 187) (r := 83) dX11_readsLine_187 fX11_7 sh82 rfl (gr82_0 sw) ?_
              refine wp_bipush (M := mX11_readsLine) (pc := 190) dX11_readsLine_190 k_bipush_48 ?_
              refine wp_iload_n (M := mX11_readsLine) (pc := 192) dX11_readsLine_192 rfl rfl ?_
              refine wp_iadd (M := mX11_readsLine) (pc := 193) dX11_readsLine_193 ?_
              refine wp_iconst (M := mX11_readsLine) (pc := 194) dX11_readsLine_194 k_iconst_1 ?_
              refine xs_iast (M := mX11_readsLine) (pc := 195) (j := (48 + ((hereF f) - 97)).toNatClampNeg) dX11_readsLine_195 sh83 (p35 c1 c17 c18 c19 c20 c23) rfl ?_
              refine wp_goto (M := mX11_readsLine) (pc := 196) (t := 247) dX11_readsLine_196 (by decide) ?_
              refine wp_aload_n (M := mX11_readsLine) (pc := 247) dX11_readsLine_247 rfl rfl ?_
              refine wp_aload_n (M := mX11_readsLine) (pc := 248) dX11_readsLine_248 rfl rfl ?_
              refine xs_geti (M := mX11_readsLine) (pc := 249) dX11_readsLine_249 fX11_152 sh82 rfl ?_
              refine wp_iconst (M := mX11_readsLine) (pc := 252) dX11_readsLine_252 k_iconst_1 ?_
              refine wp_iadd (M := mX11_readsLine) (pc := 253) dX11_readsLine_253 ?_
              refine xs_puti (M := mX11_readsLine) (pc := 254) dX11_readsLine_254 pX11_152 sh82 rfl ?_
              refine wp_iconst (M := mX11_readsLine) (pc := 257) dX11_readsLine_257 k_iconst_1 ?_
              exact xs_zret (M := mX11_readsLine) (pc := 258) dX11_readsLine_258 rfl (by decide) (p36 c1 c17 c18 c19 c20 c23)
            by_cases c24 : (hereF (upd2 (upd2 f 82 33 ((f 82 33) + 1)) 82 11 (((upd2 f 82 33 ((f 82 33) + 1)) 82 11) + 1))) = 94
            · refine wp_lookup (M := mX11_readsLine) (pc := 118) (t := 212) (off := 94) dX11_readsLine_118 (by decide) (by rw [c24] <;> rfl) (by decide) ?_
              refine wp_aload_n (M := mX11_readsLine) (pc := 212) dX11_readsLine_212 rfl rfl ?_
              refine xs_getr (M := mX11_readsLine) (pc := 213) (r := 83) dX11_readsLine_213 fX11_7 sh82 rfl (gr82_0 sw) ?_
              refine wp_bipush (M := mX11_readsLine) (pc := 216) dX11_readsLine_216 k_bipush_64 ?_
              refine wp_iload_n (M := mX11_readsLine) (pc := 218) dX11_readsLine_218 rfl rfl ?_
              refine wp_iadd (M := mX11_readsLine) (pc := 219) dX11_readsLine_219 ?_
              refine wp_iconst (M := mX11_readsLine) (pc := 220) dX11_readsLine_220 k_iconst_1 ?_
              refine xs_iast (M := mX11_readsLine) (pc := 221) (j := (64 + ((hereF f) - 97)).toNatClampNeg) dX11_readsLine_221 sh83 (p37 c1 c17 c18 c19 c20 c24) rfl ?_
              refine wp_goto (M := mX11_readsLine) (pc := 222) (t := 247) dX11_readsLine_222 (by decide) ?_
              refine wp_aload_n (M := mX11_readsLine) (pc := 247) dX11_readsLine_247 rfl rfl ?_
              refine wp_aload_n (M := mX11_readsLine) (pc := 248) dX11_readsLine_248 rfl rfl ?_
              refine xs_geti (M := mX11_readsLine) (pc := 249) dX11_readsLine_249 fX11_152 sh82 rfl ?_
              refine wp_iconst (M := mX11_readsLine) (pc := 252) dX11_readsLine_252 k_iconst_1 ?_
              refine wp_iadd (M := mX11_readsLine) (pc := 253) dX11_readsLine_253 ?_
              refine xs_puti (M := mX11_readsLine) (pc := 254) dX11_readsLine_254 pX11_152 sh82 rfl ?_
              refine wp_iconst (M := mX11_readsLine) (pc := 257) dX11_readsLine_257 k_iconst_1 ?_
              exact xs_zret (M := mX11_readsLine) (pc := 258) dX11_readsLine_258 rfl (by decide) (p38 c1 c17 c18 c19 c20 c24)
            by_cases c25 : (hereF (upd2 (upd2 f 82 33 ((f 82 33) + 1)) 82 11 (((upd2 f 82 33 ((f 82 33) + 1)) 82 11) + 1))) = 95
            · refine wp_lookup (M := mX11_readsLine) (pc := 118) (t := 225) (off := 107) dX11_readsLine_118 (by decide) (by rw [c25] <;> rfl) (by decide) ?_
              refine wp_aload_n (M := mX11_readsLine) (pc := 225) dX11_readsLine_225 rfl rfl ?_
              refine xs_getr (M := mX11_readsLine) (pc := 226) (r := 83) dX11_readsLine_226 fX11_7 sh82 rfl (gr82_0 sw) ?_
              refine wp_bipush (M := mX11_readsLine) (pc := 229) dX11_readsLine_229 k_bipush_64 ?_
              refine wp_iload_n (M := mX11_readsLine) (pc := 231) dX11_readsLine_231 rfl rfl ?_
              refine wp_iadd (M := mX11_readsLine) (pc := 232) dX11_readsLine_232 ?_
              refine wp_iconst (M := mX11_readsLine) (pc := 233) dX11_readsLine_233 k_iconst_0 ?_
              refine xs_iast (M := mX11_readsLine) (pc := 234) (j := (64 + ((hereF f) - 97)).toNatClampNeg) dX11_readsLine_234 sh83 (p39 c1 c17 c18 c19 c20 c25) rfl ?_
              refine wp_goto (M := mX11_readsLine) (pc := 235) (t := 247) dX11_readsLine_235 (by decide) ?_
              refine wp_aload_n (M := mX11_readsLine) (pc := 247) dX11_readsLine_247 rfl rfl ?_
              refine wp_aload_n (M := mX11_readsLine) (pc := 248) dX11_readsLine_248 rfl rfl ?_
              refine xs_geti (M := mX11_readsLine) (pc := 249) dX11_readsLine_249 fX11_152 sh82 rfl ?_
              refine wp_iconst (M := mX11_readsLine) (pc := 252) dX11_readsLine_252 k_iconst_1 ?_
              refine wp_iadd (M := mX11_readsLine) (pc := 253) dX11_readsLine_253 ?_
              refine xs_puti (M := mX11_readsLine) (pc := 254) dX11_readsLine_254 pX11_152 sh82 rfl ?_
              refine wp_iconst (M := mX11_readsLine) (pc := 257) dX11_readsLine_257 k_iconst_1 ?_
              exact xs_zret (M := mX11_readsLine) (pc := 258) dX11_readsLine_258 rfl (by decide) (p40 c1 c17 c18 c19 c20 c25)
            refine wp_lookup (M := mX11_readsLine) (pc := 118) (t := 238) (off := 120) dX11_readsLine_118 (by decide) ((lv_osw c21 rfl).trans ((lv_osw c22 rfl).trans ((lv_osw c23 rfl).trans ((lv_osw c24 rfl).trans ((lv_osw c25 rfl).trans rfl))))) (by decide) ?_
            refine wp_aload_n (M := mX11_readsLine) (pc := 238) dX11_readsLine_238 rfl rfl ?_
            refine wp_bipush (M := mX11_readsLine) (pc := 239) dX11_readsLine_239 k_bipush_80 ?_
            refine wp_iload_n (M := mX11_readsLine) (pc := 241) dX11_readsLine_241 rfl rfl ?_
            refine wp_iadd (M := mX11_readsLine) (pc := 242) dX11_readsLine_242 ?_
            refine xs_callV (d := d + 3) (M := mX11_readsLine) (pc := 243) (As := [.int (80 + ((hereF f) - 97))]) (st := []) (c := 11) (ls' := [.ref 82, .int (80 + ((hereF f) - 97)), .null]) dX11_readsLine_243 oX11_readsMore nX11_readsMore lX11_263 vX11_readsMore sX11_readsMore rfl sh82 (Nat.le_of_ble_eq_true rfl) rfl (Nat.le_of_ble_eq_true rfl) rfl ?_
            exact p41 c1 c17 c18 c19 c20 c21 c22 c23 c24 c25
          · refine wp_aload_n (M := mX11_readsLine) (pc := 106) dX11_readsLine_106 rfl rfl ?_
            refine wp_sipush (M := mX11_readsLine) (pc := 107) dX11_readsLine_107 k_sipush_388 ?_
            refine xs_callV (d := d + 3) (M := mX11_readsLine) (pc := 110) (As := [.int 388]) (st := []) (c := 11) (ls' := [.ref 82, .int 388, .null]) dX11_readsLine_110 oX11_readsMore nX11_readsMore lX11_263 vX11_readsMore sX11_readsMore rfl sh82 (Nat.le_of_ble_eq_true rfl) rfl (Nat.le_of_ble_eq_true rfl) rfl ?_
            exact p42 c1 c17 c18 c19 c20
        · refine wp_aload_n (M := mX11_readsLine) (pc := 71) dX11_readsLine_71 rfl rfl ?_
          refine wp_iload_n (M := mX11_readsLine) (pc := 72) dX11_readsLine_72 rfl rfl ?_
          refine xs_callV (d := d + 3) (M := mX11_readsLine) (pc := 73) (As := [.int ((hereF f) - 97)]) (st := []) (c := 11) (ls' := [.ref 82, .int ((hereF f) - 97)]) dX11_readsLine_73 oX11_isTold nX11_isTold lX11_119 vX11_isTold sX11_isTold rfl sh82 (Nat.le_of_ble_eq_true rfl) rfl (Nat.le_of_ble_eq_true rfl) rfl ?_
          refine sp_X11_isTold   ?_
          refine xs_ifb_ne (M := mX11_readsLine) (pc := 76) (t := 90) dX11_readsLine_76 (by decide) (fun c26 => ?_) (fun c26 => ?_)
          · refine wp_aload_n (M := mX11_readsLine) (pc := 90) dX11_readsLine_90 rfl rfl ?_
            refine wp_aload_n (M := mX11_readsLine) (pc := 91) dX11_readsLine_91 rfl rfl ?_
            refine xs_geti (M := mX11_readsLine) (pc := 92) dX11_readsLine_92 fX11_152 sh82 rfl ?_
            refine wp_iconst (M := mX11_readsLine) (pc := 95) dX11_readsLine_95 k_iconst_1 ?_
            refine wp_iadd (M := mX11_readsLine) (pc := 96) dX11_readsLine_96 ?_
            refine xs_puti (M := mX11_readsLine) (pc := 97) dX11_readsLine_97 pX11_152 sh82 rfl ?_
            refine wp_iload_n (M := mX11_readsLine) (pc := 100) dX11_readsLine_100 rfl rfl ?_
            refine wp_bipush (M := mX11_readsLine) (pc := 101) dX11_readsLine_101 k_bipush_70 ?_
            refine wp_icmp_ne (M := mX11_readsLine) (pc := 103) (t := 114) dX11_readsLine_103 (by decide) (fun c27 => ?_) (fun c27 => ?_)
            · refine wp_aload_n (M := mX11_readsLine) (pc := 114) dX11_readsLine_114 rfl rfl ?_
              refine xs_callV (d := d + 3) (M := mX11_readsLine) (pc := 115) (As := []) (st := []) (c := 11) (ls' := [.ref 82]) dX11_readsLine_115 oX11_here nX11_here lX11_158 vX11_here sX11_here rfl sh82 (Nat.le_of_ble_eq_true rfl) rfl (Nat.le_of_ble_eq_true rfl) rfl ?_
              refine sp_X11_here  (p43 c1 c17 c18 c19 c26 c27) ?_
              by_cases c28 : (hereF (upd2 (upd2 f 82 33 ((f 82 33) + 1)) 82 11 (((upd2 f 82 33 ((f 82 33) + 1)) 82 11) + 1))) = 33
              · refine wp_lookup (M := mX11_readsLine) (pc := 118) (t := 168) (off := 50) dX11_readsLine_118 (by decide) (by rw [c28] <;> rfl) (by decide) ?_
                refine wp_aload_n (M := mX11_readsLine) (pc := 168) dX11_readsLine_168 rfl rfl ?_
                refine xs_getr (M := mX11_readsLine) (pc := 169) (r := 83) dX11_readsLine_169 fX11_7 sh82 rfl (gr82_0 sw) ?_
                refine wp_bipush (M := mX11_readsLine) (pc := 172) dX11_readsLine_172 k_bipush_48 ?_
                refine wp_iload_n (M := mX11_readsLine) (pc := 174) dX11_readsLine_174 rfl rfl ?_
                refine wp_iadd (M := mX11_readsLine) (pc := 175) dX11_readsLine_175 ?_
                refine wp_iconst (M := mX11_readsLine) (pc := 176) dX11_readsLine_176 k_iconst_0 ?_
                refine xs_iast (M := mX11_readsLine) (pc := 177) (j := (48 + ((hereF f) - 97)).toNatClampNeg) dX11_readsLine_177 sh83 (p44 c1 c17 c18 c19 c26 c27 c28) rfl ?_
                refine wp_aload_n (M := mX11_readsLine) (pc := 178) dX11_readsLine_178 rfl rfl ?_
                refine wp_iload_n (M := mX11_readsLine) (pc := 179) dX11_readsLine_179 rfl rfl ?_
                refine xs_callV (d := d + 3) (M := mX11_readsLine) (pc := 180) (As := [.int ((hereF f) - 97)]) (st := []) (c := 11) (ls' := [.ref 82, .int ((hereF f) - 97), .null]) dX11_readsLine_180 oX11_endsCallOf nX11_endsCallOf lX11_127 vX11_endsCallOf sX11_endsCallOf rfl sh82 (Nat.le_of_ble_eq_true rfl) rfl (Nat.le_of_ble_eq_true rfl) rfl ?_
                exact p45 c1 c17 c18 c19 c26 c27 c28
              by_cases c29 : (hereF (upd2 (upd2 f 82 33 ((f 82 33) + 1)) 82 11 (((upd2 f 82 33 ((f 82 33) + 1)) 82 11) + 1))) = 42
              · refine wp_lookup (M := mX11_readsLine) (pc := 118) (t := 199) (off := 81) dX11_readsLine_118 (by decide) (by rw [c29] <;> rfl) (by decide) ?_
                refine wp_aload_n (M := mX11_readsLine) (pc := 199) dX11_readsLine_199 rfl rfl ?_
                refine xs_getr (M := mX11_readsLine) (pc := 200) (r := 83) dX11_readsLine_200 fX11_7 sh82 rfl (gr82_0 sw) ?_
                refine wp_bipush (M := mX11_readsLine) (pc := 203) dX11_readsLine_203 k_bipush_32 ?_
                refine wp_iload_n (M := mX11_readsLine) (pc := 205) dX11_readsLine_205 rfl rfl ?_
                refine wp_iadd (M := mX11_readsLine) (pc := 206) dX11_readsLine_206 ?_
                refine wp_iconst (M := mX11_readsLine) (pc := 207) dX11_readsLine_207 k_iconst_0 ?_
                refine xs_iast (M := mX11_readsLine) (pc := 208) (j := (32 + ((hereF f) - 97)).toNatClampNeg) dX11_readsLine_208 sh83 (p46 c1 c17 c18 c19 c26 c27 c29) rfl ?_
                refine wp_goto (M := mX11_readsLine) (pc := 209) (t := 247) dX11_readsLine_209 (by decide) ?_
                refine wp_aload_n (M := mX11_readsLine) (pc := 247) dX11_readsLine_247 rfl rfl ?_
                refine wp_aload_n (M := mX11_readsLine) (pc := 248) dX11_readsLine_248 rfl rfl ?_
                refine xs_geti (M := mX11_readsLine) (pc := 249) dX11_readsLine_249 fX11_152 sh82 rfl ?_
                refine wp_iconst (M := mX11_readsLine) (pc := 252) dX11_readsLine_252 k_iconst_1 ?_
                refine wp_iadd (M := mX11_readsLine) (pc := 253) dX11_readsLine_253 ?_
                refine xs_puti (M := mX11_readsLine) (pc := 254) dX11_readsLine_254 pX11_152 sh82 rfl ?_
                refine wp_iconst (M := mX11_readsLine) (pc := 257) dX11_readsLine_257 k_iconst_1 ?_
                exact xs_zret (M := mX11_readsLine) (pc := 258) dX11_readsLine_258 rfl (by decide) (p47 c1 c17 c18 c19 c26 c27 c29)
              by_cases c30 : (hereF (upd2 (upd2 f 82 33 ((f 82 33) + 1)) 82 11 (((upd2 f 82 33 ((f 82 33) + 1)) 82 11) + 1))) = 63
              · refine wp_lookup (M := mX11_readsLine) (pc := 118) (t := 186) (off := 68) dX11_readsLine_118 (by decide) (by rw [c30] <;> rfl) (by decide) ?_
                refine wp_aload_n (M := mX11_readsLine) (pc := 186) dX11_readsLine_186 rfl rfl ?_
                refine xs_getr (M := mX11_readsLine) (pc := 187) (r := 83) dX11_readsLine_187 fX11_7 sh82 rfl (gr82_0 sw) ?_
                refine wp_bipush (M := mX11_readsLine) (pc := 190) dX11_readsLine_190 k_bipush_48 ?_
                refine wp_iload_n (M := mX11_readsLine) (pc := 192) dX11_readsLine_192 rfl rfl ?_
                refine wp_iadd (M := mX11_readsLine) (pc := 193) dX11_readsLine_193 ?_
                refine wp_iconst (M := mX11_readsLine) (pc := 194) dX11_readsLine_194 k_iconst_1 ?_
                refine xs_iast (M := mX11_readsLine) (pc := 195) (j := (48 + ((hereF f) - 97)).toNatClampNeg) dX11_readsLine_195 sh83 (p48 c1 c17 c18 c19 c26 c27 c30) rfl ?_
                refine wp_goto (M := mX11_readsLine) (pc := 196) (t := 247) dX11_readsLine_196 (by decide) ?_
                refine wp_aload_n (M := mX11_readsLine) (pc := 247) dX11_readsLine_247 rfl rfl ?_
                refine wp_aload_n (M := mX11_readsLine) (pc := 248) dX11_readsLine_248 rfl rfl ?_
                refine xs_geti (M := mX11_readsLine) (pc := 249) dX11_readsLine_249 fX11_152 sh82 rfl ?_
                refine wp_iconst (M := mX11_readsLine) (pc := 252) dX11_readsLine_252 k_iconst_1 ?_
                refine wp_iadd (M := mX11_readsLine) (pc := 253) dX11_readsLine_253 ?_
                refine xs_puti (M := mX11_readsLine) (pc := 254) dX11_readsLine_254 pX11_152 sh82 rfl ?_
                refine wp_iconst (M := mX11_readsLine) (pc := 257) dX11_readsLine_257 k_iconst_1 ?_
                exact xs_zret (M := mX11_readsLine) (pc := 258) dX11_readsLine_258 rfl (by decide) (p49 c1 c17 c18 c19 c26 c27 c30)
              by_cases c31 : (hereF (upd2 (upd2 f 82 33 ((f 82 33) + 1)) 82 11 (((upd2 f 82 33 ((f 82 33) + 1)) 82 11) + 1))) = 94
              · refine wp_lookup (M := mX11_readsLine) (pc := 118) (t := 212) (off := 94) dX11_readsLine_118 (by decide) (by rw [c31] <;> rfl) (by decide) ?_
                refine wp_aload_n (M := mX11_readsLine) (pc := 212) dX11_readsLine_212 rfl rfl ?_
                refine xs_getr (M := mX11_readsLine) (pc := 213) (r := 83) dX11_readsLine_213 fX11_7 sh82 rfl (gr82_0 sw) ?_
                refine wp_bipush (M := mX11_readsLine) (pc := 216) dX11_readsLine_216 k_bipush_64 ?_
                refine wp_iload_n (M := mX11_readsLine) (pc := 218) dX11_readsLine_218 rfl rfl ?_
                refine wp_iadd (M := mX11_readsLine) (pc := 219) dX11_readsLine_219 ?_
                refine wp_iconst (M := mX11_readsLine) (pc := 220) dX11_readsLine_220 k_iconst_1 ?_
                refine xs_iast (M := mX11_readsLine) (pc := 221) (j := (64 + ((hereF f) - 97)).toNatClampNeg) dX11_readsLine_221 sh83 (p50 c1 c17 c18 c19 c26 c27 c31) rfl ?_
                refine wp_goto (M := mX11_readsLine) (pc := 222) (t := 247) dX11_readsLine_222 (by decide) ?_
                refine wp_aload_n (M := mX11_readsLine) (pc := 247) dX11_readsLine_247 rfl rfl ?_
                refine wp_aload_n (M := mX11_readsLine) (pc := 248) dX11_readsLine_248 rfl rfl ?_
                refine xs_geti (M := mX11_readsLine) (pc := 249) dX11_readsLine_249 fX11_152 sh82 rfl ?_
                refine wp_iconst (M := mX11_readsLine) (pc := 252) dX11_readsLine_252 k_iconst_1 ?_
                refine wp_iadd (M := mX11_readsLine) (pc := 253) dX11_readsLine_253 ?_
                refine xs_puti (M := mX11_readsLine) (pc := 254) dX11_readsLine_254 pX11_152 sh82 rfl ?_
                refine wp_iconst (M := mX11_readsLine) (pc := 257) dX11_readsLine_257 k_iconst_1 ?_
                exact xs_zret (M := mX11_readsLine) (pc := 258) dX11_readsLine_258 rfl (by decide) (p51 c1 c17 c18 c19 c26 c27 c31)
              by_cases c32 : (hereF (upd2 (upd2 f 82 33 ((f 82 33) + 1)) 82 11 (((upd2 f 82 33 ((f 82 33) + 1)) 82 11) + 1))) = 95
              · refine wp_lookup (M := mX11_readsLine) (pc := 118) (t := 225) (off := 107) dX11_readsLine_118 (by decide) (by rw [c32] <;> rfl) (by decide) ?_
                refine wp_aload_n (M := mX11_readsLine) (pc := 225) dX11_readsLine_225 rfl rfl ?_
                refine xs_getr (M := mX11_readsLine) (pc := 226) (r := 83) dX11_readsLine_226 fX11_7 sh82 rfl (gr82_0 sw) ?_
                refine wp_bipush (M := mX11_readsLine) (pc := 229) dX11_readsLine_229 k_bipush_64 ?_
                refine wp_iload_n (M := mX11_readsLine) (pc := 231) dX11_readsLine_231 rfl rfl ?_
                refine wp_iadd (M := mX11_readsLine) (pc := 232) dX11_readsLine_232 ?_
                refine wp_iconst (M := mX11_readsLine) (pc := 233) dX11_readsLine_233 k_iconst_0 ?_
                refine xs_iast (M := mX11_readsLine) (pc := 234) (j := (64 + ((hereF f) - 97)).toNatClampNeg) dX11_readsLine_234 sh83 (p52 c1 c17 c18 c19 c26 c27 c32) rfl ?_
                refine wp_goto (M := mX11_readsLine) (pc := 235) (t := 247) dX11_readsLine_235 (by decide) ?_
                refine wp_aload_n (M := mX11_readsLine) (pc := 247) dX11_readsLine_247 rfl rfl ?_
                refine wp_aload_n (M := mX11_readsLine) (pc := 248) dX11_readsLine_248 rfl rfl ?_
                refine xs_geti (M := mX11_readsLine) (pc := 249) dX11_readsLine_249 fX11_152 sh82 rfl ?_
                refine wp_iconst (M := mX11_readsLine) (pc := 252) dX11_readsLine_252 k_iconst_1 ?_
                refine wp_iadd (M := mX11_readsLine) (pc := 253) dX11_readsLine_253 ?_
                refine xs_puti (M := mX11_readsLine) (pc := 254) dX11_readsLine_254 pX11_152 sh82 rfl ?_
                refine wp_iconst (M := mX11_readsLine) (pc := 257) dX11_readsLine_257 k_iconst_1 ?_
                exact xs_zret (M := mX11_readsLine) (pc := 258) dX11_readsLine_258 rfl (by decide) (p53 c1 c17 c18 c19 c26 c27 c32)
              refine wp_lookup (M := mX11_readsLine) (pc := 118) (t := 238) (off := 120) dX11_readsLine_118 (by decide) ((lv_osw c28 rfl).trans ((lv_osw c29 rfl).trans ((lv_osw c30 rfl).trans ((lv_osw c31 rfl).trans ((lv_osw c32 rfl).trans rfl))))) (by decide) ?_
              refine wp_aload_n (M := mX11_readsLine) (pc := 238) dX11_readsLine_238 rfl rfl ?_
              refine wp_bipush (M := mX11_readsLine) (pc := 239) dX11_readsLine_239 k_bipush_80 ?_
              refine wp_iload_n (M := mX11_readsLine) (pc := 241) dX11_readsLine_241 rfl rfl ?_
              refine wp_iadd (M := mX11_readsLine) (pc := 242) dX11_readsLine_242 ?_
              refine xs_callV (d := d + 3) (M := mX11_readsLine) (pc := 243) (As := [.int (80 + ((hereF f) - 97))]) (st := []) (c := 11) (ls' := [.ref 82, .int (80 + ((hereF f) - 97)), .null]) dX11_readsLine_243 oX11_readsMore nX11_readsMore lX11_263 vX11_readsMore sX11_readsMore rfl sh82 (Nat.le_of_ble_eq_true rfl) rfl (Nat.le_of_ble_eq_true rfl) rfl ?_
              exact p54 c1 c17 c18 c19 c26 c27 c28 c29 c30 c31 c32
            · refine wp_aload_n (M := mX11_readsLine) (pc := 106) dX11_readsLine_106 rfl rfl ?_
              refine wp_sipush (M := mX11_readsLine) (pc := 107) dX11_readsLine_107 k_sipush_388 ?_
              refine xs_callV (d := d + 3) (M := mX11_readsLine) (pc := 110) (As := [.int 388]) (st := []) (c := 11) (ls' := [.ref 82, .int 388, .null]) dX11_readsLine_110 oX11_readsMore nX11_readsMore lX11_263 vX11_readsMore sX11_readsMore rfl sh82 (Nat.le_of_ble_eq_true rfl) rfl (Nat.le_of_ble_eq_true rfl) rfl ?_
              exact p55 c1 c17 c18 c19 c26 c27
          · refine wp_aload_n (M := mX11_readsLine) (pc := 79) dX11_readsLine_79 rfl rfl ?_
            refine wp_bipush (M := mX11_readsLine) (pc := 80) dX11_readsLine_80 k_bipush_7 ?_
            refine wp_aload_n (M := mX11_readsLine) (pc := 82) dX11_readsLine_82 rfl rfl ?_
            refine xs_geti (M := mX11_readsLine) (pc := 83) dX11_readsLine_83 fX11_152 sh82 rfl ?_
            refine xs_callV (d := d + 3) (M := mX11_readsLine) (pc := 86) (As := [.int 7, .int ((upd2 f 82 33 ((f 82 33) + 1)) 82 11)]) (st := []) (c := 11) (ls' := [.ref 82, .int 7, .int ((upd2 f 82 33 ((f 82 33) + 1)) 82 11)]) dX11_readsLine_86 oX11_wrongAt nX11_wrongAt lX11_165 vX11_wrongAt sX11_wrongAt rfl sh82 (Nat.le_of_ble_eq_true rfl) rfl (Nat.le_of_ble_eq_true rfl) rfl ?_
            exact p56 c1 c17 c18 c19 c26
      · refine wp_aload_n (M := mX11_readsLine) (pc := 45) dX11_readsLine_45 rfl rfl ?_
        refine wp_iconst (M := mX11_readsLine) (pc := 46) dX11_readsLine_46 k_iconst_4 ?_
        refine wp_aload_n (M := mX11_readsLine) (pc := 47) dX11_readsLine_47 rfl rfl ?_
        refine xs_geti (M := mX11_readsLine) (pc := 48) dX11_readsLine_48 fX11_152 sh82 rfl ?_
        refine xs_callV (d := d + 3) (M := mX11_readsLine) (pc := 51) (As := [.int 4, .int (f 82 11)]) (st := []) (c := 11) (ls' := [.ref 82, .int 4, .int (f 82 11)]) dX11_readsLine_51 oX11_wrongAt nX11_wrongAt lX11_165 vX11_wrongAt sX11_wrongAt rfl sh82 (Nat.le_of_ble_eq_true rfl) rfl (Nat.le_of_ble_eq_true rfl) rfl ?_
        exact p57 c1 c17 c18
    · refine wp_aload_n (M := mX11_readsLine) (pc := 26) dX11_readsLine_26 rfl rfl ?_
      refine wp_iconst (M := mX11_readsLine) (pc := 27) dX11_readsLine_27 k_iconst_1 ?_
      refine wp_aload_n (M := mX11_readsLine) (pc := 28) dX11_readsLine_28 rfl rfl ?_
      refine xs_geti (M := mX11_readsLine) (pc := 29) dX11_readsLine_29 fX11_152 sh82 rfl ?_
      refine xs_callV (d := d + 3) (M := mX11_readsLine) (pc := 32) (As := [.int 1, .int (f 82 11)]) (st := []) (c := 11) (ls' := [.ref 82, .int 1, .int (f 82 11)]) dX11_readsLine_32 oX11_wrongAt nX11_wrongAt lX11_165 vX11_wrongAt sX11_wrongAt rfl sh82 (Nat.le_of_ble_eq_true rfl) rfl (Nat.le_of_ble_eq_true rfl) rfl ?_
      exact p58 c1 c17
theorem bX11_readsLine_35 {G : GC} {d : Nat} {sw : Bool} {f : FF} {Q : QQ} {x1 : Int32} {x2 : Int32} {s0 : Int32} (p1 : s0 = 0 ∨ s0 = 1) (p2 : Q (some (.int s0)) sw f) : XP G mX11_readsLine (d + 4) 35 [.ref 82, .int x1, .int x2] [.int s0] sw f Q := by
  exact xs_zret (M := mX11_readsLine) (pc := 35) dX11_readsLine_35 rfl (p1) (p2)
theorem bX11_readsLine_54 {G : GC} {d : Nat} {sw : Bool} {f : FF} {Q : QQ} {x1 : Int32} {x2 : Int32} {s0 : Int32} (p1 : s0 = 0 ∨ s0 = 1) (p2 : Q (some (.int s0)) sw f) : XP G mX11_readsLine (d + 4) 54 [.ref 82, .int x1, .int x2] [.int s0] sw f Q := by
  exact xs_zret (M := mX11_readsLine) (pc := 54) dX11_readsLine_54 rfl (p1) (p2)
theorem bX11_readsLine_89 {G : GC} {d : Nat} {sw : Bool} {f : FF} {Q : QQ} {x1 : Int32} {x2 : Int32} {s0 : Int32} (p1 : s0 = 0 ∨ s0 = 1) (p2 : Q (some (.int s0)) sw f) : XP G mX11_readsLine (d + 4) 89 [.ref 82, .int x1, .int x2] [.int s0] sw f Q := by
  exact xs_zret (M := mX11_readsLine) (pc := 89) dX11_readsLine_89 rfl (p1) (p2)
theorem bX11_readsLine_113 {G : GC} {d : Nat} {sw : Bool} {f : FF} {Q : QQ} {x1 : Int32} {x2 : Int32} {s0 : Int32} (p1 : s0 = 0 ∨ s0 = 1) (p2 : Q (some (.int s0)) sw f) : XP G mX11_readsLine (d + 4) 113 [.ref 82, .int x1, .int x2] [.int s0] sw f Q := by
  exact xs_zret (M := mX11_readsLine) (pc := 113) dX11_readsLine_113 rfl (p1) (p2)
theorem bX11_readsLine_183 {G : GC} {d : Nat} {sw : Bool} {f : FF} {Q : QQ} {x1 : Int32} {x2 : Int32} (p1 : Q (some (.int 1)) sw (upd2 f 82 11 ((f 82 11) + 1))) : XP G mX11_readsLine (d + 4) 183 [.ref 82, .int x1, .int x2] [] sw f Q := by
  refine wp_goto (M := mX11_readsLine) (pc := 183) (t := 247) dX11_readsLine_183 (by decide) ?_
  refine wp_aload_n (M := mX11_readsLine) (pc := 247) dX11_readsLine_247 rfl rfl ?_
  refine wp_aload_n (M := mX11_readsLine) (pc := 248) dX11_readsLine_248 rfl rfl ?_
  refine xs_geti (M := mX11_readsLine) (pc := 249) dX11_readsLine_249 fX11_152 sh82 rfl ?_
  refine wp_iconst (M := mX11_readsLine) (pc := 252) dX11_readsLine_252 k_iconst_1 ?_
  refine wp_iadd (M := mX11_readsLine) (pc := 253) dX11_readsLine_253 ?_
  refine xs_puti (M := mX11_readsLine) (pc := 254) dX11_readsLine_254 pX11_152 sh82 rfl ?_
  refine wp_iconst (M := mX11_readsLine) (pc := 257) dX11_readsLine_257 k_iconst_1 ?_
  exact xs_zret (M := mX11_readsLine) (pc := 258) dX11_readsLine_258 rfl (by decide) (p1)
theorem bX11_readsLine_246 {G : GC} {d : Nat} {sw : Bool} {f : FF} {Q : QQ} {x1 : Int32} {x2 : Int32} {s0 : Int32} (p1 : s0 = 0 ∨ s0 = 1) (p2 : Q (some (.int s0)) sw f) : XP G mX11_readsLine (d + 4) 246 [.ref 82, .int x1, .int x2] [.int s0] sw f Q := by
  exact xs_zret (M := mX11_readsLine) (pc := 246) dX11_readsLine_246 rfl (p1) (p2)
theorem bX11_readsMore_0 {G : GC} {d : Nat} {sw : Bool} {f : FF} {Q : QQ} {x1 : Int32} (p1 : f 82 11 < f 82 12 → vp_in (f 82 11) 260) (p2 : ((hereF f) = 43) → XP G mX11_readsPence (d + 2) 0 [.ref 82, .null] [] sw (upd2 f 82 11 ((f 82 11) + 1)) (fun v sw' f' => XP G mX11_readsMore (d + 3) 41 [.ref 82, .int x1, .int (hereF f)] (retst v []) sw' f' Q)) (p3 : (¬ (hereF f) = 43) → ((hereF f) = 45) → XP G mX11_readsPence (d + 2) 0 [.ref 82, .null] [] sw (upd2 f 82 11 ((f 82 11) + 1)) (fun v sw' f' => XP G mX11_readsMore (d + 3) 41 [.ref 82, .int x1, .int (hereF f)] (retst v []) sw' f' Q)) (p4 : (¬ (hereF f) = 43) → (¬ (hereF f) = 45) → XP G mX11_wrongAt (d + 2) 0 [.ref 82, .int 1, .int (f 82 11)] [] sw f (fun v sw' f' => XP G mX11_readsMore (d + 3) 26 [.ref 82, .int x1, .int (hereF f)] (retst v []) sw' f' Q)) : XP G mX11_readsMore (d + 3) 0 [.ref 82, .int x1, .null] [] sw f Q := by
  refine wp_aload_n (M := mX11_readsMore) (pc := 0) dX11_readsMore_0 rfl rfl ?_
  refine xs_callV (d := d + 2) (M := mX11_readsMore) (pc := 1) (As := []) (st := []) (c := 11) (ls' := [.ref 82]) dX11_readsMore_1 oX11_here nX11_here lX11_158 vX11_here sX11_here rfl sh82 (Nat.le_of_ble_eq_true rfl) rfl (Nat.le_of_ble_eq_true rfl) rfl ?_
  refine sp_X11_here  (p1) ?_
  refine wp_istore_n (M := mX11_readsMore) (pc := 4) (ls' := [.ref 82, .int x1, .int (hereF f)]) dX11_readsMore_4 rfl (by decide) rfl ?_
  refine wp_iload_n (M := mX11_readsMore) (pc := 5) dX11_readsMore_5 rfl rfl ?_
  refine wp_bipush (M := mX11_readsMore) (pc := 6) dX11_readsMore_6 k_bipush_43 ?_
  refine wp_icmp_eq (M := mX11_readsMore) (pc := 8) (t := 27) dX11_readsMore_8 (by decide) (fun c1 => ?_) (fun c1 => ?_)
  · refine wp_aload_n (M := mX11_readsMore) (pc := 27) dX11_readsMore_27 rfl rfl ?_
    refine wp_aload_n (M := mX11_readsMore) (pc := 28) dX11_readsMore_28 rfl rfl ?_
    refine xs_geti (M := mX11_readsMore) (pc := 29) dX11_readsMore_29 fX11_152 sh82 rfl ?_
    refine wp_iconst (M := mX11_readsMore) (pc := 32) dX11_readsMore_32 k_iconst_1 ?_
    refine wp_iadd (M := mX11_readsMore) (pc := 33) dX11_readsMore_33 ?_
    refine xs_puti (M := mX11_readsMore) (pc := 34) dX11_readsMore_34 pX11_152 sh82 rfl ?_
    refine wp_aload_n (M := mX11_readsMore) (pc := 37) dX11_readsMore_37 rfl rfl ?_
    refine xs_callV (d := d + 2) (M := mX11_readsMore) (pc := 38) (As := []) (st := []) (c := 11) (ls' := [.ref 82, .null]) dX11_readsMore_38 oX11_readsPence nX11_readsPence lX11_254 vX11_readsPence sX11_readsPence rfl sh82 (Nat.le_of_ble_eq_true rfl) rfl (Nat.le_of_ble_eq_true rfl) rfl ?_
    exact p2 c1
  · refine wp_iload_n (M := mX11_readsMore) (pc := 11) dX11_readsMore_11 rfl rfl ?_
    refine wp_bipush (M := mX11_readsMore) (pc := 12) dX11_readsMore_12 k_bipush_45 ?_
    refine wp_icmp_eq (M := mX11_readsMore) (pc := 14) (t := 27) dX11_readsMore_14 (by decide) (fun c2 => ?_) (fun c2 => ?_)
    · refine wp_aload_n (M := mX11_readsMore) (pc := 27) dX11_readsMore_27 rfl rfl ?_
      refine wp_aload_n (M := mX11_readsMore) (pc := 28) dX11_readsMore_28 rfl rfl ?_
      refine xs_geti (M := mX11_readsMore) (pc := 29) dX11_readsMore_29 fX11_152 sh82 rfl ?_
      refine wp_iconst (M := mX11_readsMore) (pc := 32) dX11_readsMore_32 k_iconst_1 ?_
      refine wp_iadd (M := mX11_readsMore) (pc := 33) dX11_readsMore_33 ?_
      refine xs_puti (M := mX11_readsMore) (pc := 34) dX11_readsMore_34 pX11_152 sh82 rfl ?_
      refine wp_aload_n (M := mX11_readsMore) (pc := 37) dX11_readsMore_37 rfl rfl ?_
      refine xs_callV (d := d + 2) (M := mX11_readsMore) (pc := 38) (As := []) (st := []) (c := 11) (ls' := [.ref 82, .null]) dX11_readsMore_38 oX11_readsPence nX11_readsPence lX11_254 vX11_readsPence sX11_readsPence rfl sh82 (Nat.le_of_ble_eq_true rfl) rfl (Nat.le_of_ble_eq_true rfl) rfl ?_
      exact p3 c1 c2
    · refine wp_aload_n (M := mX11_readsMore) (pc := 17) dX11_readsMore_17 rfl rfl ?_
      refine wp_iconst (M := mX11_readsMore) (pc := 18) dX11_readsMore_18 k_iconst_1 ?_
      refine wp_aload_n (M := mX11_readsMore) (pc := 19) dX11_readsMore_19 rfl rfl ?_
      refine xs_geti (M := mX11_readsMore) (pc := 20) dX11_readsMore_20 fX11_152 sh82 rfl ?_
      refine xs_callV (d := d + 2) (M := mX11_readsMore) (pc := 23) (As := [.int 1, .int (f 82 11)]) (st := []) (c := 11) (ls' := [.ref 82, .int 1, .int (f 82 11)]) dX11_readsMore_23 oX11_wrongAt nX11_wrongAt lX11_165 vX11_wrongAt sX11_wrongAt rfl sh82 (Nat.le_of_ble_eq_true rfl) rfl (Nat.le_of_ble_eq_true rfl) rfl ?_
      exact p4 c1 c2
theorem bX11_readsMore_26 {G : GC} {d : Nat} {sw : Bool} {f : FF} {Q : QQ} {x1 : Int32} {x2 : Int32} {s0 : Int32} (p1 : s0 = 0 ∨ s0 = 1) (p2 : Q (some (.int s0)) sw f) : XP G mX11_readsMore (d + 3) 26 [.ref 82, .int x1, .int x2] [.int s0] sw f Q := by
  exact xs_zret (M := mX11_readsMore) (pc := 26) dX11_readsMore_26 rfl (p1) (p2)
theorem bX11_readsMore_41 {G : GC} {d : Nat} {sw : Bool} {f : FF} {Q : QQ} {x1 : Int32} {x2 : Int32} {s0 : Int32} (p1 : (¬ s0 = 0) → vp_in x1 391) (p2 : (¬ s0 = 0) → (¬ x2 = 43) → vp_in x1 391) (p3 : (¬ s0 = 0) → (¬ x2 = 43) → Q (some (.int 1)) sw (upd2 f 83 x1.toNatClampNeg (mxI 0 (mnI 999999 ((f 83 x1.toNatClampNeg) + (-(f 82 14))))))) (p4 : (¬ s0 = 0) → (x2 = 43) → vp_in x1 391) (p5 : (¬ s0 = 0) → (x2 = 43) → Q (some (.int 1)) sw (upd2 f 83 x1.toNatClampNeg (mxI 0 (mnI 999999 ((f 83 x1.toNatClampNeg) + (f 82 14)))))) (p6 : (s0 = 0) → Q (some (.int 0)) sw f) : XP G mX11_readsMore (d + 3) 41 [.ref 82, .int x1, .int x2] [.int s0] sw f Q := by
  refine wp_if_ne (M := mX11_readsMore) (pc := 41) (t := 46) dX11_readsMore_41 (by decide) (fun c1 => ?_) (fun c1 => ?_)
  · refine wp_aload_n (M := mX11_readsMore) (pc := 46) dX11_readsMore_46 rfl rfl ?_
    refine xs_getr (M := mX11_readsMore) (pc := 47) (r := 83) dX11_readsMore_47 fX11_7 sh82 rfl (gr82_0 sw) ?_
    refine wp_iload_n (M := mX11_readsMore) (pc := 50) dX11_readsMore_50 rfl rfl ?_
    refine wp_iconst (M := mX11_readsMore) (pc := 51) dX11_readsMore_51 k_iconst_0 ?_
    refine wp_ldc (M := mX11_readsMore) (pc := 52) dX11_readsMore_52 kX11_131 ?_
    refine wp_aload_n (M := mX11_readsMore) (pc := 54) dX11_readsMore_54 rfl rfl ?_
    refine xs_getr (M := mX11_readsMore) (pc := 55) (r := 83) dX11_readsMore_55 fX11_7 sh82 rfl (gr82_0 sw) ?_
    refine wp_iload_n (M := mX11_readsMore) (pc := 58) dX11_readsMore_58 rfl rfl ?_
    refine xs_iald (M := mX11_readsMore) (pc := 59) (j := x1.toNatClampNeg) dX11_readsMore_59 sh83 (p1 c1) rfl ?_
    refine wp_iload_n (M := mX11_readsMore) (pc := 60) dX11_readsMore_60 rfl rfl ?_
    refine wp_bipush (M := mX11_readsMore) (pc := 61) dX11_readsMore_61 k_bipush_43 ?_
    refine wp_icmp_ne (M := mX11_readsMore) (pc := 63) (t := 73) dX11_readsMore_63 (by decide) (fun c2 => ?_) (fun c2 => ?_)
    · refine wp_aload_n (M := mX11_readsMore) (pc := 73) dX11_readsMore_73 rfl rfl ?_
      refine xs_geti (M := mX11_readsMore) (pc := 74) dX11_readsMore_74 fX11_168 sh82 rfl ?_
      refine wp_ineg (M := mX11_readsMore) (pc := 77) dX11_readsMore_77 ?_
      refine wp_iadd (M := mX11_readsMore) (pc := 78) dX11_readsMore_78 ?_
      refine xs_callS (d := d + 2) (M := mX11_readsMore) (pc := 79) (As := [.int 999999, .int ((f 83 x1.toNatClampNeg) + (-(f 82 14)))]) (st := [.int 0, .int x1, .ref 83]) (ls' := [.int 999999, .int ((f 83 x1.toNatClampNeg) + (-(f 82 14)))]) dX11_readsMore_79 oX11_min nX11_min lX11_257 tX11_min (Nat.le_of_ble_eq_true rfl) rfl (Nat.le_of_ble_eq_true rfl) rfl ?_
      refine sp_X11_min   ?_
      refine xs_callS (d := d + 2) (M := mX11_readsMore) (pc := 82) (As := [.int 0, .int (mnI 999999 ((f 83 x1.toNatClampNeg) + (-(f 82 14))))]) (st := [.int x1, .ref 83]) (ls' := [.int 0, .int (mnI 999999 ((f 83 x1.toNatClampNeg) + (-(f 82 14))))]) dX11_readsMore_82 oX11_max nX11_max lX11_136 tX11_max (Nat.le_of_ble_eq_true rfl) rfl (Nat.le_of_ble_eq_true rfl) rfl ?_
      refine sp_X11_max   ?_
      refine xs_iast (M := mX11_readsMore) (pc := 85) (j := x1.toNatClampNeg) dX11_readsMore_85 sh83 (p2 c1 c2) rfl ?_
      refine wp_iconst (M := mX11_readsMore) (pc := 86) dX11_readsMore_86 k_iconst_1 ?_
      exact xs_zret (M := mX11_readsMore) (pc := 87) dX11_readsMore_87 rfl (by decide) (p3 c1 c2)
    · refine wp_aload_n (M := mX11_readsMore) (pc := 66) dX11_readsMore_66 rfl rfl ?_
      refine xs_geti (M := mX11_readsMore) (pc := 67) dX11_readsMore_67 fX11_168 sh82 rfl ?_
      refine wp_goto (M := mX11_readsMore) (pc := 70) (t := 78) dX11_readsMore_70 (by decide) ?_
      refine wp_iadd (M := mX11_readsMore) (pc := 78) dX11_readsMore_78 ?_
      refine xs_callS (d := d + 2) (M := mX11_readsMore) (pc := 79) (As := [.int 999999, .int ((f 83 x1.toNatClampNeg) + (f 82 14))]) (st := [.int 0, .int x1, .ref 83]) (ls' := [.int 999999, .int ((f 83 x1.toNatClampNeg) + (f 82 14))]) dX11_readsMore_79 oX11_min nX11_min lX11_257 tX11_min (Nat.le_of_ble_eq_true rfl) rfl (Nat.le_of_ble_eq_true rfl) rfl ?_
      refine sp_X11_min   ?_
      refine xs_callS (d := d + 2) (M := mX11_readsMore) (pc := 82) (As := [.int 0, .int (mnI 999999 ((f 83 x1.toNatClampNeg) + (f 82 14)))]) (st := [.int x1, .ref 83]) (ls' := [.int 0, .int (mnI 999999 ((f 83 x1.toNatClampNeg) + (f 82 14)))]) dX11_readsMore_82 oX11_max nX11_max lX11_136 tX11_max (Nat.le_of_ble_eq_true rfl) rfl (Nat.le_of_ble_eq_true rfl) rfl ?_
      refine sp_X11_max   ?_
      refine xs_iast (M := mX11_readsMore) (pc := 85) (j := x1.toNatClampNeg) dX11_readsMore_85 sh83 (p4 c1 c2) rfl ?_
      refine wp_iconst (M := mX11_readsMore) (pc := 86) dX11_readsMore_86 k_iconst_1 ?_
      exact xs_zret (M := mX11_readsMore) (pc := 87) dX11_readsMore_87 rfl (by decide) (p5 c1 c2)
  · refine wp_iconst (M := mX11_readsMore) (pc := 44) dX11_readsMore_44 k_iconst_0 ?_
    exact xs_zret (M := mX11_readsMore) (pc := 45) dX11_readsMore_45 rfl (by decide) (p6 c1)
theorem bX11_readsPence_0 {G : GC} {d : Nat} {sw : Bool} {f : FF} {Q : QQ}  (p1 : f 82 11 < f 82 12 → vp_in (f 82 11) 260) (p2 : (48 ≤ hereF f ∧ hereF f ≤ 57) → XP G mX11_readsPence (d + 2) 27 [.ref 82, .int (f 82 11)] [] sw (upd2 f 82 14 0) Q) (p3 : (¬ (48 ≤ hereF f ∧ hereF f ≤ 57)) → XP G mX11_wrongAt (d + 1) 0 [.ref 82, .int 1, .int (f 82 11)] [] sw f (fun v sw' f' => XP G mX11_readsPence (d + 2) 21 [.ref 82, .int (f 82 11)] (retst v []) sw' f' Q)) : XP G mX11_readsPence (d + 2) 0 [.ref 82, .null] [] sw f Q := by
  refine wp_aload_n (M := mX11_readsPence) (pc := 0) dX11_readsPence_0 rfl rfl ?_
  refine xs_geti (M := mX11_readsPence) (pc := 1) dX11_readsPence_1 fX11_152 sh82 rfl ?_
  refine wp_istore_n (M := mX11_readsPence) (pc := 4) (ls' := [.ref 82, .int (f 82 11)]) dX11_readsPence_4 rfl (by decide) rfl ?_
  refine wp_aload_n (M := mX11_readsPence) (pc := 5) dX11_readsPence_5 rfl rfl ?_
  refine xs_callV (d := d + 1) (M := mX11_readsPence) (pc := 6) (As := []) (st := []) (c := 11) (ls' := [.ref 82]) dX11_readsPence_6 oX11_isDigit nX11_isDigit lX11_171 vX11_isDigit sX11_isDigit rfl sh82 (Nat.le_of_ble_eq_true rfl) rfl (Nat.le_of_ble_eq_true rfl) rfl ?_
  refine sp_X11_isDigit  (p1) ?_
  refine xs_ifb_ne (M := mX11_readsPence) (pc := 9) (t := 22) dX11_readsPence_9 (by decide) (fun c1 => ?_) (fun c1 => ?_)
  · refine wp_aload_n (M := mX11_readsPence) (pc := 22) dX11_readsPence_22 rfl rfl ?_
    refine wp_iconst (M := mX11_readsPence) (pc := 23) dX11_readsPence_23 k_iconst_0 ?_
    refine xs_puti (M := mX11_readsPence) (pc := 24) dX11_readsPence_24 pX11_168 sh82 rfl ?_
    exact p2 c1
  · refine wp_aload_n (M := mX11_readsPence) (pc := 12) dX11_readsPence_12 rfl rfl ?_
    refine wp_iconst (M := mX11_readsPence) (pc := 13) dX11_readsPence_13 k_iconst_1 ?_
    refine wp_aload_n (M := mX11_readsPence) (pc := 14) dX11_readsPence_14 rfl rfl ?_
    refine xs_geti (M := mX11_readsPence) (pc := 15) dX11_readsPence_15 fX11_152 sh82 rfl ?_
    refine xs_callV (d := d + 1) (M := mX11_readsPence) (pc := 18) (As := [.int 1, .int (f 82 11)]) (st := []) (c := 11) (ls' := [.ref 82, .int 1, .int (f 82 11)]) dX11_readsPence_18 oX11_wrongAt nX11_wrongAt lX11_165 vX11_wrongAt sX11_wrongAt rfl sh82 (Nat.le_of_ble_eq_true rfl) rfl (Nat.le_of_ble_eq_true rfl) rfl ?_
    exact p3 c1
theorem bX11_readsPence_21 {G : GC} {d : Nat} {sw : Bool} {f : FF} {Q : QQ} {x1 : Int32} {s0 : Int32} (p1 : s0 = 0 ∨ s0 = 1) (p2 : Q (some (.int s0)) sw f) : XP G mX11_readsPence (d + 2) 21 [.ref 82, .int x1] [.int s0] sw f Q := by
  exact xs_zret (M := mX11_readsPence) (pc := 21) dX11_readsPence_21 rfl (p1) (p2)
theorem bX11_readsPence_27 {G : GC} {d : Nat} {sw : Bool} {f : FF} {Q : QQ} {x1 : Int32} (p1 : f 82 11 < f 82 12 → vp_in (f 82 11) 260) (p2 : (¬ (48 ≤ hereF f ∧ hereF f ≤ 57)) → Q (some (.int 1)) sw f) (p3 : (48 ≤ hereF f ∧ hereF f ≤ 57) → (¬ (f 82 11) = (x1 + 5)) → f 82 11 < f 82 12 → vp_in (f 82 11) 260) (p4 : (48 ≤ hereF f ∧ hereF f ≤ 57) → (¬ (f 82 11) = (x1 + 5)) → XP G mX11_readsPence (d + 2) 27 [.ref 82, .int x1] [] sw (upd2 (upd2 f 82 14 (((10 * (f 82 14)) + (hereF f)) - 48)) 82 11 (((upd2 f 82 14 (((10 * (f 82 14)) + (hereF f)) - 48)) 82 11) + 1)) Q) (p5 : (48 ≤ hereF f ∧ hereF f ≤ 57) → ((f 82 11) = (x1 + 5)) → XP G mX11_wrongAt (d + 1) 0 [.ref 82, .int 2, .int (f 82 11)] [] sw f (fun v sw' f' => XP G mX11_readsPence (d + 2) 53 [.ref 82, .int x1] (retst v []) sw' f' Q)) : XP G mX11_readsPence (d + 2) 27 [.ref 82, .int x1] [] sw f Q := by
  refine wp_aload_n (M := mX11_readsPence) (pc := 27) dX11_readsPence_27 rfl rfl ?_
  refine xs_callV (d := d + 1) (M := mX11_readsPence) (pc := 28) (As := []) (st := []) (c := 11) (ls' := [.ref 82]) dX11_readsPence_28 oX11_isDigit nX11_isDigit lX11_171 vX11_isDigit sX11_isDigit rfl sh82 (Nat.le_of_ble_eq_true rfl) rfl (Nat.le_of_ble_eq_true rfl) rfl ?_
  refine sp_X11_isDigit  (p1) ?_
  refine xs_ifb_eq (M := mX11_readsPence) (pc := 31) (t := 86) dX11_readsPence_31 (by decide) (fun c1 => ?_) (fun c1 => ?_)
  · refine wp_iconst (M := mX11_readsPence) (pc := 86) dX11_readsPence_86 k_iconst_1 ?_
    exact xs_zret (M := mX11_readsPence) (pc := 87) dX11_readsPence_87 rfl (by decide) (p2 c1)
  · refine wp_aload_n (M := mX11_readsPence) (pc := 34) dX11_readsPence_34 rfl rfl ?_
    refine xs_geti (M := mX11_readsPence) (pc := 35) dX11_readsPence_35 fX11_152 sh82 rfl ?_
    refine wp_iload_n (M := mX11_readsPence) (pc := 38) dX11_readsPence_38 rfl rfl ?_
    refine wp_iconst (M := mX11_readsPence) (pc := 39) dX11_readsPence_39 k_iconst_5 ?_
    refine wp_iadd (M := mX11_readsPence) (pc := 40) dX11_readsPence_40 ?_
    refine wp_icmp_ne (M := mX11_readsPence) (pc := 41) (t := 54) dX11_readsPence_41 (by decide) (fun c2 => ?_) (fun c2 => ?_)
    · refine wp_aload_n (M := mX11_readsPence) (pc := 54) dX11_readsPence_54 rfl rfl ?_
      refine wp_bipush (M := mX11_readsPence) (pc := 55) dX11_readsPence_55 k_bipush_10 ?_
      refine wp_aload_n (M := mX11_readsPence) (pc := 57) dX11_readsPence_57 rfl rfl ?_
      refine xs_geti (M := mX11_readsPence) (pc := 58) dX11_readsPence_58 fX11_168 sh82 rfl ?_
      refine wp_imul (M := mX11_readsPence) (pc := 61) dX11_readsPence_61 ?_
      refine wp_aload_n (M := mX11_readsPence) (pc := 62) dX11_readsPence_62 rfl rfl ?_
      refine xs_callV (d := d + 1) (M := mX11_readsPence) (pc := 63) (As := []) (st := [.int (10 * (f 82 14)), .ref 82]) (c := 11) (ls' := [.ref 82]) dX11_readsPence_63 oX11_here nX11_here lX11_158 vX11_here sX11_here rfl sh82 (Nat.le_of_ble_eq_true rfl) rfl (Nat.le_of_ble_eq_true rfl) rfl ?_
      refine sp_X11_here  (p3 c1 c2) ?_
      refine wp_iadd (M := mX11_readsPence) (pc := 66) dX11_readsPence_66 ?_
      refine wp_bipush (M := mX11_readsPence) (pc := 67) dX11_readsPence_67 k_bipush_48 ?_
      refine wp_isub (M := mX11_readsPence) (pc := 69) dX11_readsPence_69 ?_
      refine xs_puti (M := mX11_readsPence) (pc := 70) dX11_readsPence_70 pX11_168 sh82 rfl ?_
      refine wp_aload_n (M := mX11_readsPence) (pc := 73) dX11_readsPence_73 rfl rfl ?_
      refine wp_aload_n (M := mX11_readsPence) (pc := 74) dX11_readsPence_74 rfl rfl ?_
      refine xs_geti (M := mX11_readsPence) (pc := 75) dX11_readsPence_75 fX11_152 sh82 rfl ?_
      refine wp_iconst (M := mX11_readsPence) (pc := 78) dX11_readsPence_78 k_iconst_1 ?_
      refine wp_iadd (M := mX11_readsPence) (pc := 79) dX11_readsPence_79 ?_
      refine xs_puti (M := mX11_readsPence) (pc := 80) dX11_readsPence_80 pX11_152 sh82 rfl ?_
      refine wp_goto (M := mX11_readsPence) (pc := 83) (t := 27) dX11_readsPence_83 (by decide) ?_
      exact p4 c1 c2
    · refine wp_aload_n (M := mX11_readsPence) (pc := 44) dX11_readsPence_44 rfl rfl ?_
      refine wp_iconst (M := mX11_readsPence) (pc := 45) dX11_readsPence_45 k_iconst_2 ?_
      refine wp_aload_n (M := mX11_readsPence) (pc := 46) dX11_readsPence_46 rfl rfl ?_
      refine xs_geti (M := mX11_readsPence) (pc := 47) dX11_readsPence_47 fX11_152 sh82 rfl ?_
      refine xs_callV (d := d + 1) (M := mX11_readsPence) (pc := 50) (As := [.int 2, .int (f 82 11)]) (st := []) (c := 11) (ls' := [.ref 82, .int 2, .int (f 82 11)]) dX11_readsPence_50 oX11_wrongAt nX11_wrongAt lX11_165 vX11_wrongAt sX11_wrongAt rfl sh82 (Nat.le_of_ble_eq_true rfl) rfl (Nat.le_of_ble_eq_true rfl) rfl ?_
      exact p5 c1 c2
theorem bX11_readsPence_53 {G : GC} {d : Nat} {sw : Bool} {f : FF} {Q : QQ} {x1 : Int32} {s0 : Int32} (p1 : s0 = 0 ∨ s0 = 1) (p2 : Q (some (.int s0)) sw f) : XP G mX11_readsPence (d + 2) 53 [.ref 82, .int x1] [.int s0] sw f Q := by
  exact xs_zret (M := mX11_readsPence) (pc := 53) dX11_readsPence_53 rfl (p1) (p2)
theorem bX11_minutes_0 {G : GC} {d : Nat} {sw : Bool} {f : FF} {Q : QQ} {x1 : Int32} (p1 : (1 ≤ x1 ∧ x1 ≤ 240) → XP G mX11_minutesGo (d + 7) 0 [.ref 82, .int x1, .null] [] sw f (fun v sw' f' => XP G mX11_minutes (d + 8) 18 [.ref 82, .int x1] (retst v []) sw' f' Q)) (p2 : (¬ (1 ≤ x1 ∧ x1 ≤ 240)) → Q (some (.int (-1))) sw f) : XP G mX11_minutes (d + 8) 0 [.ref 82, .int x1] [] sw f Q := by
  refine wp_iload_n (M := mX11_minutes) (pc := 0) dX11_minutes_0 rfl rfl ?_
  refine wp_iconst (M := mX11_minutes) (pc := 1) dX11_minutes_1 k_iconst_1 ?_
  refine wp_sipush (M := mX11_minutes) (pc := 2) dX11_minutes_2 k_sipush_240 ?_
  refine xs_callS (d := d + 7) (M := mX11_minutes) (pc := 5) (As := [.int x1, .int 1, .int 240]) (st := []) (ls' := [.int x1, .int 1, .int 240]) dX11_minutes_5 oX11_in nX11_in lX11_111 tX11_in (Nat.le_of_ble_eq_true rfl) rfl (Nat.le_of_ble_eq_true rfl) rfl ?_
  refine sp_X11_in   ?_
  refine xs_ifb_ne (M := mX11_minutes) (pc := 8) (t := 13) dX11_minutes_8 (by decide) (fun c1 => ?_) (fun c1 => ?_)
  · refine wp_aload_n (M := mX11_minutes) (pc := 13) dX11_minutes_13 rfl rfl ?_
    refine wp_iload_n (M := mX11_minutes) (pc := 14) dX11_minutes_14 rfl rfl ?_
    refine xs_callV (d := d + 7) (M := mX11_minutes) (pc := 15) (As := [.int x1]) (st := []) (c := 11) (ls' := [.ref 82, .int x1, .null]) dX11_minutes_15 oX11_minutesGo nX11_minutesGo lX11_320 vX11_minutesGo sX11_minutesGo rfl sh82 (Nat.le_of_ble_eq_true rfl) rfl (Nat.le_of_ble_eq_true rfl) rfl ?_
    exact p1 c1
  · refine wp_iconst (M := mX11_minutes) (pc := 11) dX11_minutes_11 k_iconst_m1 ?_
    exact xs_iret (M := mX11_minutes) (pc := 12) dX11_minutes_12 rfl (p2 c1)
theorem bX11_minutes_18 {G : GC} {d : Nat} {sw : Bool} {f : FF} {Q : QQ} {x1 : Int32} (p1 : Q (some (.int (f 82 34))) sw f) : XP G mX11_minutes (d + 8) 18 [.ref 82, .int x1] [] sw f Q := by
  refine wp_aload_n (M := mX11_minutes) (pc := 18) dX11_minutes_18 rfl rfl ?_
  refine xs_geti (M := mX11_minutes) (pc := 19) dX11_minutes_19 fX11_294 sh82 rfl ?_
  exact xs_iret (M := mX11_minutes) (pc := 22) dX11_minutes_22 rfl (p1)
theorem bX11_minutesGo_0 {G : GC} {d : Nat} {sw : Bool} {f : FF} {Q : QQ} {x1 : Int32} (p1 : XP G mX11_beginsMinutes (d + 6) 0 [.ref 82] [] sw f (fun v sw' f' => XP G mX11_minutesGo (d + 7) 4 [.ref 82, .int x1, .null] (retst v []) sw' f' Q)) : XP G mX11_minutesGo (d + 7) 0 [.ref 82, .int x1, .null] [] sw f Q := by
  refine wp_aload_n (M := mX11_minutesGo) (pc := 0) dX11_minutesGo_0 rfl rfl ?_
  refine xs_callV (d := d + 6) (M := mX11_minutesGo) (pc := 1) (As := []) (st := []) (c := 11) (ls' := [.ref 82]) dX11_minutesGo_1 oX11_beginsMinutes nX11_beginsMinutes lX11_313 vX11_beginsMinutes sX11_beginsMinutes rfl sh82 (Nat.le_of_ble_eq_true rfl) rfl (Nat.le_of_ble_eq_true rfl) rfl ?_
  exact p1
theorem bX11_minutesGo_4 {G : GC} {d : Nat} {sw : Bool} {f : FF} {Q : QQ} {x1 : Int32} {v2 : Value} (p1 : XP G mX11_minutesGo (d + 7) 6 [.ref 82, .int x1, .int 0] [] sw f Q) : XP G mX11_minutesGo (d + 7) 4 [.ref 82, .int x1, v2] [] sw f Q := by
  refine wp_iconst (M := mX11_minutesGo) (pc := 4) dX11_minutesGo_4 k_iconst_0 ?_
  refine wp_istore_n (M := mX11_minutesGo) (pc := 5) (ls' := [.ref 82, .int x1, .int 0]) dX11_minutesGo_5 rfl (by decide) rfl ?_
  exact p1
theorem bX11_minutesGo_6 {G : GC} {d : Nat} {sw : Bool} {f : FF} {Q : QQ} {x1 : Int32} {x2 : Int32} (p1 : (x1 ≤ x2) → Q none sw f) (p2 : (¬ x1 ≤ x2) → (99999 ≤ (f 83 389)) → Q none sw f) (p3 : (¬ x1 ≤ x2) → (¬ 99999 ≤ (f 83 389)) → XP G mX11_minuteGoes (d + 6) 0 [.ref 82, .null] [] sw f (fun v sw' f' => XP G mX11_minutesGo (d + 7) 29 [.ref 82, .int x1, .int x2] (retst v []) sw' f' Q)) : XP G mX11_minutesGo (d + 7) 6 [.ref 82, .int x1, .int x2] [] sw f Q := by
  refine wp_iload_n (M := mX11_minutesGo) (pc := 6) dX11_minutesGo_6 rfl rfl ?_
  refine wp_iload_n (M := mX11_minutesGo) (pc := 7) dX11_minutesGo_7 rfl rfl ?_
  refine wp_icmp_ge (M := mX11_minutesGo) (pc := 8) (t := 35) dX11_minutesGo_8 (by decide) (fun c1 => ?_) (fun c1 => ?_)
  · exact xs_ret (M := mX11_minutesGo) (pc := 35) dX11_minutesGo_35 rfl (p1 c1)
  · refine wp_aload_n (M := mX11_minutesGo) (pc := 11) dX11_minutesGo_11 rfl rfl ?_
    refine xs_getr (M := mX11_minutesGo) (pc := 12) (r := 83) dX11_minutesGo_12 fX11_7 sh82 rfl (gr82_0 sw) ?_
    refine wp_sipush (M := mX11_minutesGo) (pc := 15) dX11_minutesGo_15 k_sipush_389 ?_
    refine xs_iald (M := mX11_minutesGo) (pc := 18) (j := 389) dX11_minutesGo_18 sh83 (vin (by decide)) rfl ?_
    refine wp_ldcw (M := mX11_minutesGo) (pc := 19) dX11_minutesGo_19 kX11_316 ?_
    refine wp_icmp_ge (M := mX11_minutesGo) (pc := 22) (t := 35) dX11_minutesGo_22 (by decide) (fun c2 => ?_) (fun c2 => ?_)
    · exact xs_ret (M := mX11_minutesGo) (pc := 35) dX11_minutesGo_35 rfl (p2 c1 c2)
    · refine wp_aload_n (M := mX11_minutesGo) (pc := 25) dX11_minutesGo_25 rfl rfl ?_
      refine xs_callV (d := d + 6) (M := mX11_minutesGo) (pc := 26) (As := []) (st := []) (c := 11) (ls' := [.ref 82, .null]) dX11_minutesGo_26 oX11_minuteGoes nX11_minuteGoes lX11_317 vX11_minuteGoes sX11_minuteGoes rfl sh82 (Nat.le_of_ble_eq_true rfl) rfl (Nat.le_of_ble_eq_true rfl) rfl ?_
      exact p3 c1 c2
theorem bX11_minutesGo_29 {G : GC} {d : Nat} {sw : Bool} {f : FF} {Q : QQ} {x1 : Int32} {x2 : Int32} (p1 : XP G mX11_minutesGo (d + 7) 6 [.ref 82, .int x1, .int (x2 + 1)] [] sw f Q) : XP G mX11_minutesGo (d + 7) 29 [.ref 82, .int x1, .int x2] [] sw f Q := by
  refine wp_iinc (M := mX11_minutesGo) (pc := 29) (v := x2 + 1) (ls' := [.ref 82, .int x1, .int (x2 + 1)]) dX11_minutesGo_29 rfl (congrArg (fun z => _ + z) k_iconst_1) (by decide) rfl ?_
  refine wp_goto (M := mX11_minutesGo) (pc := 32) (t := 6) dX11_minutesGo_32 (by decide) ?_
  exact p1
theorem bX11_beginsMinutes_0 {G : GC} {d : Nat} {sw : Bool} {f : FF} {Q : QQ}  (p1 : Q none sw (upd2 (upd2 (upd2 f 82 34 0) 82 35 0) 82 36 0)) : XP G mX11_beginsMinutes (d) 0 [.ref 82] [] sw f Q := by
  refine wp_aload_n (M := mX11_beginsMinutes) (pc := 0) dX11_beginsMinutes_0 rfl rfl ?_
  refine wp_iconst (M := mX11_beginsMinutes) (pc := 1) dX11_beginsMinutes_1 k_iconst_0 ?_
  refine xs_puti (M := mX11_beginsMinutes) (pc := 2) dX11_beginsMinutes_2 pX11_294 sh82 rfl ?_
  refine wp_aload_n (M := mX11_beginsMinutes) (pc := 5) dX11_beginsMinutes_5 rfl rfl ?_
  refine wp_iconst (M := mX11_beginsMinutes) (pc := 6) dX11_beginsMinutes_6 k_iconst_0 ?_
  refine xs_puti (M := mX11_beginsMinutes) (pc := 7) dX11_beginsMinutes_7 pX11_282 sh82 rfl ?_
  refine wp_aload_n (M := mX11_beginsMinutes) (pc := 10) dX11_beginsMinutes_10 rfl rfl ?_
  refine wp_iconst (M := mX11_beginsMinutes) (pc := 11) dX11_beginsMinutes_11 k_iconst_0 ?_
  refine xs_puti (M := mX11_beginsMinutes) (pc := 12) dX11_beginsMinutes_12 pX11_301 sh82 rfl ?_
  exact xs_ret (M := mX11_beginsMinutes) (pc := 15) dX11_beginsMinutes_15 rfl (p1)
theorem bX11_minuteGoes_0 {G : GC} {d : Nat} {sw : Bool} {f : FF} {Q : QQ}  (p1 : XP G mX11_minuteGoes (d + 6) 2 [.ref 82, .int 0] [] sw f Q) : XP G mX11_minuteGoes (d + 6) 0 [.ref 82, .null] [] sw f Q := by
  refine wp_iconst (M := mX11_minuteGoes) (pc := 0) dX11_minuteGoes_0 k_iconst_0 ?_
  refine wp_istore_n (M := mX11_minuteGoes) (pc := 1) (ls' := [.ref 82, .int 0]) dX11_minuteGoes_1 rfl (by decide) rfl ?_
  exact p1
theorem bX11_minuteGoes_2 {G : GC} {d : Nat} {sw : Bool} {f : FF} {Q : QQ} {x1 : Int32} (p1 : (20 ≤ x1) → XP G mX11_minuteGoes (d + 6) 34 [.ref 82, .int 0] [] sw f Q) (p2 : (¬ 20 ≤ x1) → vp_in (188 + x1) 391) (p3 : (¬ 20 ≤ x1) → ((f 83 ((188 + x1).toNatClampNeg)) ≤ 0) → XP G mX11_minuteGoes (d + 6) 2 [.ref 82, .int (x1 + 1)] [] sw f Q) (p4 : (¬ 20 ≤ x1) → (¬ (f 83 ((188 + x1).toNatClampNeg)) ≤ 0) → XP G mX11_charges (d + 5) 0 [.ref 82, .int x1, .null, .null] [] sw f (fun v sw' f' => XP G mX11_minuteGoes (d + 6) 26 [.ref 82, .int x1] (retst v []) sw' f' Q)) : XP G mX11_minuteGoes (d + 6) 2 [.ref 82, .int x1] [] sw f Q := by
  refine wp_iload_n (M := mX11_minuteGoes) (pc := 2) dX11_minuteGoes_2 rfl rfl ?_
  refine wp_bipush (M := mX11_minuteGoes) (pc := 3) dX11_minuteGoes_3 k_bipush_20 ?_
  refine wp_icmp_ge (M := mX11_minuteGoes) (pc := 5) (t := 32) dX11_minuteGoes_5 (by decide) (fun c1 => ?_) (fun c1 => ?_)
  · refine wp_iconst (M := mX11_minuteGoes) (pc := 32) dX11_minuteGoes_32 k_iconst_0 ?_
    refine wp_istore_n (M := mX11_minuteGoes) (pc := 33) (ls' := [.ref 82, .int 0]) dX11_minuteGoes_33 rfl (by decide) rfl ?_
    exact p1 c1
  · refine wp_aload_n (M := mX11_minuteGoes) (pc := 8) dX11_minuteGoes_8 rfl rfl ?_
    refine xs_getr (M := mX11_minuteGoes) (pc := 9) (r := 83) dX11_minuteGoes_9 fX11_7 sh82 rfl (gr82_0 sw) ?_
    refine wp_sipush (M := mX11_minuteGoes) (pc := 12) dX11_minuteGoes_12 k_sipush_188 ?_
    refine wp_iload_n (M := mX11_minuteGoes) (pc := 15) dX11_minuteGoes_15 rfl rfl ?_
    refine wp_iadd (M := mX11_minuteGoes) (pc := 16) dX11_minuteGoes_16 ?_
    refine xs_iald (M := mX11_minuteGoes) (pc := 17) (j := (188 + x1).toNatClampNeg) dX11_minuteGoes_17 sh83 (p2 c1) rfl ?_
    refine wp_if_le (M := mX11_minuteGoes) (pc := 18) (t := 26) dX11_minuteGoes_18 (by decide) (fun c2 => ?_) (fun c2 => ?_)
    · refine wp_iinc (M := mX11_minuteGoes) (pc := 26) (v := x1 + 1) (ls' := [.ref 82, .int (x1 + 1)]) dX11_minuteGoes_26 rfl (congrArg (fun z => _ + z) k_iconst_1) (by decide) rfl ?_
      refine wp_goto (M := mX11_minuteGoes) (pc := 29) (t := 2) dX11_minuteGoes_29 (by decide) ?_
      exact p3 c1 c2
    · refine wp_aload_n (M := mX11_minuteGoes) (pc := 21) dX11_minuteGoes_21 rfl rfl ?_
      refine wp_iload_n (M := mX11_minuteGoes) (pc := 22) dX11_minuteGoes_22 rfl rfl ?_
      refine xs_callV (d := d + 5) (M := mX11_minuteGoes) (pc := 23) (As := [.int x1]) (st := []) (c := 11) (ls' := [.ref 82, .int x1, .null, .null]) dX11_minuteGoes_23 oX11_charges nX11_charges lX11_304 vX11_charges sX11_charges rfl sh82 (Nat.le_of_ble_eq_true rfl) rfl (Nat.le_of_ble_eq_true rfl) rfl ?_
      exact p4 c1 c2
theorem bX11_minuteGoes_26 {G : GC} {d : Nat} {sw : Bool} {f : FF} {Q : QQ} {x1 : Int32} (p1 : XP G mX11_minuteGoes (d + 6) 2 [.ref 82, .int (x1 + 1)] [] sw f Q) : XP G mX11_minuteGoes (d + 6) 26 [.ref 82, .int x1] [] sw f Q := by
  refine wp_iinc (M := mX11_minuteGoes) (pc := 26) (v := x1 + 1) (ls' := [.ref 82, .int (x1 + 1)]) dX11_minuteGoes_26 rfl (congrArg (fun z => _ + z) k_iconst_1) (by decide) rfl ?_
  refine wp_goto (M := mX11_minuteGoes) (pc := 29) (t := 2) dX11_minuteGoes_29 (by decide) ?_
  exact p1
theorem bX11_minuteGoes_34 {G : GC} {d : Nat} {sw : Bool} {f : FF} {Q : QQ} {x1 : Int32} (p1 : (16 ≤ x1) → XP G mX11_minuteGoes (d + 6) 61 [.ref 82, .int 0] [] sw f Q) (p2 : (¬ 16 ≤ x1) → XP G mX11_isFree (d + 5) 0 [.ref 82, .int x1] [] sw f (fun v sw' f' => XP G mX11_minuteGoes (d + 6) 45 [.ref 82, .int x1] (retst v []) sw' f' Q)) : XP G mX11_minuteGoes (d + 6) 34 [.ref 82, .int x1] [] sw f Q := by
  refine wp_iload_n (M := mX11_minuteGoes) (pc := 34) dX11_minuteGoes_34 rfl rfl ?_
  refine wp_bipush (M := mX11_minuteGoes) (pc := 35) dX11_minuteGoes_35 k_bipush_16 ?_
  refine wp_icmp_ge (M := mX11_minuteGoes) (pc := 37) (t := 59) dX11_minuteGoes_37 (by decide) (fun c1 => ?_) (fun c1 => ?_)
  · refine wp_iconst (M := mX11_minuteGoes) (pc := 59) dX11_minuteGoes_59 k_iconst_0 ?_
    refine wp_istore_n (M := mX11_minuteGoes) (pc := 60) (ls' := [.ref 82, .int 0]) dX11_minuteGoes_60 rfl (by decide) rfl ?_
    exact p1 c1
  · refine wp_aload_n (M := mX11_minuteGoes) (pc := 40) dX11_minuteGoes_40 rfl rfl ?_
    refine wp_iload_n (M := mX11_minuteGoes) (pc := 41) dX11_minuteGoes_41 rfl rfl ?_
    refine xs_callV (d := d + 5) (M := mX11_minuteGoes) (pc := 42) (As := [.int x1]) (st := []) (c := 11) (ls' := [.ref 82, .int x1]) dX11_minuteGoes_42 oX11_isFree nX11_isFree lX11_273 vX11_isFree sX11_isFree rfl sh82 (Nat.le_of_ble_eq_true rfl) rfl (Nat.le_of_ble_eq_true rfl) rfl ?_
    exact p2 c1
theorem bX11_minuteGoes_45 {G : GC} {d : Nat} {sw : Bool} {f : FF} {Q : QQ} {x1 : Int32} {s0 : Int32} (p1 : (s0 = 0) → XP G mX11_minuteGoes (d + 6) 34 [.ref 82, .int (x1 + 1)] [] sw f Q) (p2 : (¬ s0 = 0) → XP G mX11_turnOf (d + 5) 0 [.ref 82, .int x1, .null, .null] [] sw f (fun v sw' f' => XP G mX11_minuteGoes (d + 6) 53 [.ref 82, .int x1] (retst v []) sw' f' Q)) : XP G mX11_minuteGoes (d + 6) 45 [.ref 82, .int x1] [.int s0] sw f Q := by
  refine wp_if_eq (M := mX11_minuteGoes) (pc := 45) (t := 53) dX11_minuteGoes_45 (by decide) (fun c1 => ?_) (fun c1 => ?_)
  · refine wp_iinc (M := mX11_minuteGoes) (pc := 53) (v := x1 + 1) (ls' := [.ref 82, .int (x1 + 1)]) dX11_minuteGoes_53 rfl (congrArg (fun z => _ + z) k_iconst_1) (by decide) rfl ?_
    refine wp_goto (M := mX11_minuteGoes) (pc := 56) (t := 34) dX11_minuteGoes_56 (by decide) ?_
    exact p1 c1
  · refine wp_aload_n (M := mX11_minuteGoes) (pc := 48) dX11_minuteGoes_48 rfl rfl ?_
    refine wp_iload_n (M := mX11_minuteGoes) (pc := 49) dX11_minuteGoes_49 rfl rfl ?_
    refine xs_callV (d := d + 5) (M := mX11_minuteGoes) (pc := 50) (As := [.int x1]) (st := []) (c := 11) (ls' := [.ref 82, .int x1, .null, .null]) dX11_minuteGoes_50 oX11_turnOf nX11_turnOf lX11_307 vX11_turnOf sX11_turnOf rfl sh82 (Nat.le_of_ble_eq_true rfl) rfl (Nat.le_of_ble_eq_true rfl) rfl ?_
    exact p2 c1
theorem bX11_minuteGoes_53 {G : GC} {d : Nat} {sw : Bool} {f : FF} {Q : QQ} {x1 : Int32} (p1 : XP G mX11_minuteGoes (d + 6) 34 [.ref 82, .int (x1 + 1)] [] sw f Q) : XP G mX11_minuteGoes (d + 6) 53 [.ref 82, .int x1] [] sw f Q := by
  refine wp_iinc (M := mX11_minuteGoes) (pc := 53) (v := x1 + 1) (ls' := [.ref 82, .int (x1 + 1)]) dX11_minuteGoes_53 rfl (congrArg (fun z => _ + z) k_iconst_1) (by decide) rfl ?_
  refine wp_goto (M := mX11_minuteGoes) (pc := 56) (t := 34) dX11_minuteGoes_56 (by decide) ?_
  exact p1
theorem bX11_minuteGoes_61 {G : GC} {d : Nat} {sw : Bool} {f : FF} {Q : QQ} {x1 : Int32} (p1 : (16 ≤ x1) → Q none sw (upd2 f 83 389 ((f 83 389) + 1))) (p2 : (¬ 16 ≤ x1) → (¬ (toldM f x1)) → XP G mX11_minuteGoes (d + 6) 61 [.ref 82, .int (x1 + 1)] [] sw f Q) (p3 : (¬ 16 ≤ x1) → (toldM f x1) → vp_in (48 + x1) 391) (p4 : (¬ 16 ≤ x1) → (toldM f x1) → (¬ (f 83 ((48 + x1).toNatClampNeg)) = 1) → XP G mX11_minuteGoes (d + 6) 61 [.ref 82, .int (x1 + 1)] [] sw f Q) (p5 : (¬ 16 ≤ x1) → (toldM f x1) → ((f 83 ((48 + x1).toNatClampNeg)) = 1) → XP G mX11_mayBeCut (d + 5) 0 [.ref 82, .int x1] [] sw f (fun v sw' f' => XP G mX11_minuteGoes (d + 6) 93 [.ref 82, .int x1] (retst v []) sw' f' Q)) : XP G mX11_minuteGoes (d + 6) 61 [.ref 82, .int x1] [] sw f Q := by
  refine wp_iload_n (M := mX11_minuteGoes) (pc := 61) dX11_minuteGoes_61 rfl rfl ?_
  refine wp_bipush (M := mX11_minuteGoes) (pc := 62) dX11_minuteGoes_62 k_bipush_16 ?_
  refine wp_icmp_ge (M := mX11_minuteGoes) (pc := 64) (t := 99) dX11_minuteGoes_64 (by decide) (fun c1 => ?_) (fun c1 => ?_)
  · refine wp_aload_n (M := mX11_minuteGoes) (pc := 99) dX11_minuteGoes_99 rfl rfl ?_
    refine xs_getr (M := mX11_minuteGoes) (pc := 100) (r := 83) dX11_minuteGoes_100 fX11_7 sh82 rfl (gr82_0 sw) ?_
    refine wp_sipush (M := mX11_minuteGoes) (pc := 103) dX11_minuteGoes_103 k_sipush_389 ?_
    refine wp_aload_n (M := mX11_minuteGoes) (pc := 106) dX11_minuteGoes_106 rfl rfl ?_
    refine xs_getr (M := mX11_minuteGoes) (pc := 107) (r := 83) dX11_minuteGoes_107 fX11_7 sh82 rfl (gr82_0 sw) ?_
    refine wp_sipush (M := mX11_minuteGoes) (pc := 110) dX11_minuteGoes_110 k_sipush_389 ?_
    refine xs_iald (M := mX11_minuteGoes) (pc := 113) (j := 389) dX11_minuteGoes_113 sh83 (vin (by decide)) rfl ?_
    refine wp_iconst (M := mX11_minuteGoes) (pc := 114) dX11_minuteGoes_114 k_iconst_1 ?_
    refine wp_iadd (M := mX11_minuteGoes) (pc := 115) dX11_minuteGoes_115 ?_
    refine xs_iast (M := mX11_minuteGoes) (pc := 116) (j := 389) dX11_minuteGoes_116 sh83 (vin (by decide)) rfl ?_
    exact xs_ret (M := mX11_minuteGoes) (pc := 117) dX11_minuteGoes_117 rfl (p1 c1)
  · refine wp_aload_n (M := mX11_minuteGoes) (pc := 67) dX11_minuteGoes_67 rfl rfl ?_
    refine wp_iload_n (M := mX11_minuteGoes) (pc := 68) dX11_minuteGoes_68 rfl rfl ?_
    refine xs_callV (d := d + 5) (M := mX11_minuteGoes) (pc := 69) (As := [.int x1]) (st := []) (c := 11) (ls' := [.ref 82, .int x1]) dX11_minuteGoes_69 oX11_isTold nX11_isTold lX11_119 vX11_isTold sX11_isTold rfl sh82 (Nat.le_of_ble_eq_true rfl) rfl (Nat.le_of_ble_eq_true rfl) rfl ?_
    refine sp_X11_isTold   ?_
    refine xs_ifb_eq (M := mX11_minuteGoes) (pc := 72) (t := 93) dX11_minuteGoes_72 (by decide) (fun c2 => ?_) (fun c2 => ?_)
    · refine wp_iinc (M := mX11_minuteGoes) (pc := 93) (v := x1 + 1) (ls' := [.ref 82, .int (x1 + 1)]) dX11_minuteGoes_93 rfl (congrArg (fun z => _ + z) k_iconst_1) (by decide) rfl ?_
      refine wp_goto (M := mX11_minuteGoes) (pc := 96) (t := 61) dX11_minuteGoes_96 (by decide) ?_
      exact p2 c1 c2
    · refine wp_aload_n (M := mX11_minuteGoes) (pc := 75) dX11_minuteGoes_75 rfl rfl ?_
      refine xs_getr (M := mX11_minuteGoes) (pc := 76) (r := 83) dX11_minuteGoes_76 fX11_7 sh82 rfl (gr82_0 sw) ?_
      refine wp_bipush (M := mX11_minuteGoes) (pc := 79) dX11_minuteGoes_79 k_bipush_48 ?_
      refine wp_iload_n (M := mX11_minuteGoes) (pc := 81) dX11_minuteGoes_81 rfl rfl ?_
      refine wp_iadd (M := mX11_minuteGoes) (pc := 82) dX11_minuteGoes_82 ?_
      refine xs_iald (M := mX11_minuteGoes) (pc := 83) (j := (48 + x1).toNatClampNeg) dX11_minuteGoes_83 sh83 (p3 c1 c2) rfl ?_
      refine wp_iconst (M := mX11_minuteGoes) (pc := 84) dX11_minuteGoes_84 k_iconst_1 ?_
      refine wp_icmp_ne (M := mX11_minuteGoes) (pc := 85) (t := 93) dX11_minuteGoes_85 (by decide) (fun c3 => ?_) (fun c3 => ?_)
      · refine wp_iinc (M := mX11_minuteGoes) (pc := 93) (v := x1 + 1) (ls' := [.ref 82, .int (x1 + 1)]) dX11_minuteGoes_93 rfl (congrArg (fun z => _ + z) k_iconst_1) (by decide) rfl ?_
        refine wp_goto (M := mX11_minuteGoes) (pc := 96) (t := 61) dX11_minuteGoes_96 (by decide) ?_
        exact p4 c1 c2 c3
      · refine wp_aload_n (M := mX11_minuteGoes) (pc := 88) dX11_minuteGoes_88 rfl rfl ?_
        refine wp_iload_n (M := mX11_minuteGoes) (pc := 89) dX11_minuteGoes_89 rfl rfl ?_
        refine xs_callV (d := d + 5) (M := mX11_minuteGoes) (pc := 90) (As := [.int x1]) (st := []) (c := 11) (ls' := [.ref 82, .int x1]) dX11_minuteGoes_90 oX11_mayBeCut nX11_mayBeCut lX11_310 vX11_mayBeCut sX11_mayBeCut rfl sh82 (Nat.le_of_ble_eq_true rfl) rfl (Nat.le_of_ble_eq_true rfl) rfl ?_
        exact p5 c1 c2 c3
theorem bX11_minuteGoes_93 {G : GC} {d : Nat} {sw : Bool} {f : FF} {Q : QQ} {x1 : Int32} (p1 : XP G mX11_minuteGoes (d + 6) 61 [.ref 82, .int (x1 + 1)] [] sw f Q) : XP G mX11_minuteGoes (d + 6) 93 [.ref 82, .int x1] [] sw f Q := by
  refine wp_iinc (M := mX11_minuteGoes) (pc := 93) (v := x1 + 1) (ls' := [.ref 82, .int (x1 + 1)]) dX11_minuteGoes_93 rfl (congrArg (fun z => _ + z) k_iconst_1) (by decide) rfl ?_
  refine wp_goto (M := mX11_minuteGoes) (pc := 96) (t := 61) dX11_minuteGoes_96 (by decide) ?_
  exact p1
theorem bX11_charges_0 {G : GC} {d : Nat} {sw : Bool} {f : FF} {Q : QQ} {x1 : Int32} (p1 : vp_in (208 + x1) 391) (p2 : vp_in (168 + x1) 391) (p3 : vp_in (32 + (f 83 ((168 + x1).toNatClampNeg))) 391) (p4 : (¬ (f 83 ((32 + (f 83 ((168 + x1).toNatClampNeg))).toNatClampNeg)) = 1) → vp_in (188 + x1) 391) (p5 : (¬ (f 83 ((32 + (f 83 ((168 + x1).toNatClampNeg))).toNatClampNeg)) = 1) → vp_in (188 + x1) 391) (p6 : (¬ (f 83 ((32 + (f 83 ((168 + x1).toNatClampNeg))).toNatClampNeg)) = 1) → Q none sw (upd2 (upd2 f 83 388 (mxI 0 ((f 83 388) - ((f 82 5) + ((f 82 4) * (f 83 ((208 + x1).toNatClampNeg))))))) 83 ((188 + x1).toNatClampNeg) (((upd2 f 83 388 (mxI 0 ((f 83 388) - ((f 82 5) + ((f 82 4) * (f 83 ((208 + x1).toNatClampNeg))))))) 83 ((188 + x1).toNatClampNeg)) - 1))) (p7 : ((f 83 ((32 + (f 83 ((168 + x1).toNatClampNeg))).toNatClampNeg)) = 1) → vp_in (80 + (f 83 ((168 + x1).toNatClampNeg))) 391) (p8 : ((f 83 ((32 + (f 83 ((168 + x1).toNatClampNeg))).toNatClampNeg)) = 1) → vp_in (80 + (f 83 ((168 + x1).toNatClampNeg))) 391) (p9 : ((f 83 ((32 + (f 83 ((168 + x1).toNatClampNeg))).toNatClampNeg)) = 1) → vp_in (188 + x1) 391) (p10 : ((f 83 ((32 + (f 83 ((168 + x1).toNatClampNeg))).toNatClampNeg)) = 1) → vp_in (188 + x1) 391) (p11 : ((f 83 ((32 + (f 83 ((168 + x1).toNatClampNeg))).toNatClampNeg)) = 1) → Q none sw (upd2 (upd2 f 83 ((80 + (f 83 ((168 + x1).toNatClampNeg))).toNatClampNeg) (mnI 999999 ((f 83 ((80 + (f 83 ((168 + x1).toNatClampNeg))).toNatClampNeg)) + ((f 82 5) + ((f 82 4) * (f 83 ((208 + x1).toNatClampNeg))))))) 83 ((188 + x1).toNatClampNeg) (((upd2 f 83 ((80 + (f 83 ((168 + x1).toNatClampNeg))).toNatClampNeg) (mnI 999999 ((f 83 ((80 + (f 83 ((168 + x1).toNatClampNeg))).toNatClampNeg)) + ((f 82 5) + ((f 82 4) * (f 83 ((208 + x1).toNatClampNeg))))))) 83 ((188 + x1).toNatClampNeg)) - 1))) : XP G mX11_charges (d + 1) 0 [.ref 82, .int x1, .null, .null] [] sw f Q := by
  refine wp_aload_n (M := mX11_charges) (pc := 0) dX11_charges_0 rfl rfl ?_
  refine xs_geti (M := mX11_charges) (pc := 1) dX11_charges_1 fX11_108 sh82 rfl ?_
  refine wp_aload_n (M := mX11_charges) (pc := 4) dX11_charges_4 rfl rfl ?_
  refine xs_geti (M := mX11_charges) (pc := 5) dX11_charges_5 fX11_104 sh82 rfl ?_
  refine wp_aload_n (M := mX11_charges) (pc := 8) dX11_charges_8 rfl rfl ?_
  refine xs_getr (M := mX11_charges) (pc := 9) (r := 83) dX11_charges_9 fX11_7 sh82 rfl (gr82_0 sw) ?_
  refine wp_sipush (M := mX11_charges) (pc := 12) dX11_charges_12 k_sipush_208 ?_
  refine wp_iload_n (M := mX11_charges) (pc := 15) dX11_charges_15 rfl rfl ?_
  refine wp_iadd (M := mX11_charges) (pc := 16) dX11_charges_16 ?_
  refine xs_iald (M := mX11_charges) (pc := 17) (j := (208 + x1).toNatClampNeg) dX11_charges_17 sh83 (p1) rfl ?_
  refine wp_imul (M := mX11_charges) (pc := 18) dX11_charges_18 ?_
  refine wp_iadd (M := mX11_charges) (pc := 19) dX11_charges_19 ?_
  refine wp_istore_n (M := mX11_charges) (pc := 20) (ls' := [.ref 82, .int x1, .int ((f 82 5) + ((f 82 4) * (f 83 ((208 + x1).toNatClampNeg)))), .null]) dX11_charges_20 rfl (by decide) rfl ?_
  refine wp_aload_n (M := mX11_charges) (pc := 21) dX11_charges_21 rfl rfl ?_
  refine xs_getr (M := mX11_charges) (pc := 22) (r := 83) dX11_charges_22 fX11_7 sh82 rfl (gr82_0 sw) ?_
  refine wp_sipush (M := mX11_charges) (pc := 25) dX11_charges_25 k_sipush_168 ?_
  refine wp_iload_n (M := mX11_charges) (pc := 28) dX11_charges_28 rfl rfl ?_
  refine wp_iadd (M := mX11_charges) (pc := 29) dX11_charges_29 ?_
  refine xs_iald (M := mX11_charges) (pc := 30) (j := (168 + x1).toNatClampNeg) dX11_charges_30 sh83 (p2) rfl ?_
  refine wp_istore_n (M := mX11_charges) (pc := 31) (ls' := [.ref 82, .int x1, .int ((f 82 5) + ((f 82 4) * (f 83 ((208 + x1).toNatClampNeg)))), .int (f 83 ((168 + x1).toNatClampNeg))]) dX11_charges_31 rfl (by decide) rfl ?_
  refine wp_aload_n (M := mX11_charges) (pc := 32) dX11_charges_32 rfl rfl ?_
  refine xs_getr (M := mX11_charges) (pc := 33) (r := 83) dX11_charges_33 fX11_7 sh82 rfl (gr82_0 sw) ?_
  refine wp_bipush (M := mX11_charges) (pc := 36) dX11_charges_36 k_bipush_32 ?_
  refine wp_iload_n (M := mX11_charges) (pc := 38) dX11_charges_38 rfl rfl ?_
  refine wp_iadd (M := mX11_charges) (pc := 39) dX11_charges_39 ?_
  refine xs_iald (M := mX11_charges) (pc := 40) (j := (32 + (f 83 ((168 + x1).toNatClampNeg))).toNatClampNeg) dX11_charges_40 sh83 (p3) rfl ?_
  refine wp_iconst (M := mX11_charges) (pc := 41) dX11_charges_41 k_iconst_1 ?_
  refine wp_icmp_ne (M := mX11_charges) (pc := 42) (t := 73) dX11_charges_42 (by decide) (fun c1 => ?_) (fun c1 => ?_)
  · refine wp_aload_n (M := mX11_charges) (pc := 73) dX11_charges_73 rfl rfl ?_
    refine xs_getr (M := mX11_charges) (pc := 74) (r := 83) dX11_charges_74 fX11_7 sh82 rfl (gr82_0 sw) ?_
    refine wp_sipush (M := mX11_charges) (pc := 77) dX11_charges_77 k_sipush_388 ?_
    refine wp_iconst (M := mX11_charges) (pc := 80) dX11_charges_80 k_iconst_0 ?_
    refine wp_aload_n (M := mX11_charges) (pc := 81) dX11_charges_81 rfl rfl ?_
    refine xs_getr (M := mX11_charges) (pc := 82) (r := 83) dX11_charges_82 fX11_7 sh82 rfl (gr82_0 sw) ?_
    refine wp_sipush (M := mX11_charges) (pc := 85) dX11_charges_85 k_sipush_388 ?_
    refine xs_iald (M := mX11_charges) (pc := 88) (j := 388) dX11_charges_88 sh83 (vin (by decide)) rfl ?_
    refine wp_iload_n (M := mX11_charges) (pc := 89) dX11_charges_89 rfl rfl ?_
    refine wp_isub (M := mX11_charges) (pc := 90) dX11_charges_90 ?_
    refine xs_callS (d := d) (M := mX11_charges) (pc := 91) (As := [.int 0, .int ((f 83 388) - ((f 82 5) + ((f 82 4) * (f 83 ((208 + x1).toNatClampNeg)))))]) (st := [.int 388, .ref 83]) (ls' := [.int 0, .int ((f 83 388) - ((f 82 5) + ((f 82 4) * (f 83 ((208 + x1).toNatClampNeg)))))]) dX11_charges_91 oX11_max nX11_max lX11_136 tX11_max (Nat.le_of_ble_eq_true rfl) rfl (Nat.le_of_ble_eq_true rfl) rfl ?_
    refine sp_X11_max   ?_
    refine xs_iast (M := mX11_charges) (pc := 94) (j := 388) dX11_charges_94 sh83 (vin (by decide)) rfl ?_
    refine wp_aload_n (M := mX11_charges) (pc := 95) dX11_charges_95 rfl rfl ?_
    refine xs_getr (M := mX11_charges) (pc := 96) (r := 83) dX11_charges_96 fX11_7 sh82 rfl (gr82_0 sw) ?_
    refine wp_sipush (M := mX11_charges) (pc := 99) dX11_charges_99 k_sipush_188 ?_
    refine wp_iload_n (M := mX11_charges) (pc := 102) dX11_charges_102 rfl rfl ?_
    refine wp_iadd (M := mX11_charges) (pc := 103) dX11_charges_103 ?_
    refine wp_aload_n (M := mX11_charges) (pc := 104) dX11_charges_104 rfl rfl ?_
    refine xs_getr (M := mX11_charges) (pc := 105) (r := 83) dX11_charges_105 fX11_7 sh82 rfl (gr82_0 sw) ?_
    refine wp_sipush (M := mX11_charges) (pc := 108) dX11_charges_108 k_sipush_188 ?_
    refine wp_iload_n (M := mX11_charges) (pc := 111) dX11_charges_111 rfl rfl ?_
    refine wp_iadd (M := mX11_charges) (pc := 112) dX11_charges_112 ?_
    refine xs_iald (M := mX11_charges) (pc := 113) (j := (188 + x1).toNatClampNeg) dX11_charges_113 sh83 (p4 c1) rfl ?_
    refine wp_iconst (M := mX11_charges) (pc := 114) dX11_charges_114 k_iconst_1 ?_
    refine wp_isub (M := mX11_charges) (pc := 115) dX11_charges_115 ?_
    refine xs_iast (M := mX11_charges) (pc := 116) (j := (188 + x1).toNatClampNeg) dX11_charges_116 sh83 (p5 c1) rfl ?_
    exact xs_ret (M := mX11_charges) (pc := 117) dX11_charges_117 rfl (p6 c1)
  · refine wp_aload_n (M := mX11_charges) (pc := 45) dX11_charges_45 rfl rfl ?_
    refine xs_getr (M := mX11_charges) (pc := 46) (r := 83) dX11_charges_46 fX11_7 sh82 rfl (gr82_0 sw) ?_
    refine wp_bipush (M := mX11_charges) (pc := 49) dX11_charges_49 k_bipush_80 ?_
    refine wp_iload_n (M := mX11_charges) (pc := 51) dX11_charges_51 rfl rfl ?_
    refine wp_iadd (M := mX11_charges) (pc := 52) dX11_charges_52 ?_
    refine wp_ldc (M := mX11_charges) (pc := 53) dX11_charges_53 kX11_131 ?_
    refine wp_aload_n (M := mX11_charges) (pc := 55) dX11_charges_55 rfl rfl ?_
    refine xs_getr (M := mX11_charges) (pc := 56) (r := 83) dX11_charges_56 fX11_7 sh82 rfl (gr82_0 sw) ?_
    refine wp_bipush (M := mX11_charges) (pc := 59) dX11_charges_59 k_bipush_80 ?_
    refine wp_iload_n (M := mX11_charges) (pc := 61) dX11_charges_61 rfl rfl ?_
    refine wp_iadd (M := mX11_charges) (pc := 62) dX11_charges_62 ?_
    refine xs_iald (M := mX11_charges) (pc := 63) (j := (80 + (f 83 ((168 + x1).toNatClampNeg))).toNatClampNeg) dX11_charges_63 sh83 (p7 c1) rfl ?_
    refine wp_iload_n (M := mX11_charges) (pc := 64) dX11_charges_64 rfl rfl ?_
    refine wp_iadd (M := mX11_charges) (pc := 65) dX11_charges_65 ?_
    refine xs_callS (d := d) (M := mX11_charges) (pc := 66) (As := [.int 999999, .int ((f 83 ((80 + (f 83 ((168 + x1).toNatClampNeg))).toNatClampNeg)) + ((f 82 5) + ((f 82 4) * (f 83 ((208 + x1).toNatClampNeg)))))]) (st := [.int (80 + (f 83 ((168 + x1).toNatClampNeg))), .ref 83]) (ls' := [.int 999999, .int ((f 83 ((80 + (f 83 ((168 + x1).toNatClampNeg))).toNatClampNeg)) + ((f 82 5) + ((f 82 4) * (f 83 ((208 + x1).toNatClampNeg)))))]) dX11_charges_66 oX11_min nX11_min lX11_257 tX11_min (Nat.le_of_ble_eq_true rfl) rfl (Nat.le_of_ble_eq_true rfl) rfl ?_
    refine sp_X11_min   ?_
    refine xs_iast (M := mX11_charges) (pc := 69) (j := (80 + (f 83 ((168 + x1).toNatClampNeg))).toNatClampNeg) dX11_charges_69 sh83 (p8 c1) rfl ?_
    refine wp_goto (M := mX11_charges) (pc := 70) (t := 95) dX11_charges_70 (by decide) ?_
    refine wp_aload_n (M := mX11_charges) (pc := 95) dX11_charges_95 rfl rfl ?_
    refine xs_getr (M := mX11_charges) (pc := 96) (r := 83) dX11_charges_96 fX11_7 sh82 rfl (gr82_0 sw) ?_
    refine wp_sipush (M := mX11_charges) (pc := 99) dX11_charges_99 k_sipush_188 ?_
    refine wp_iload_n (M := mX11_charges) (pc := 102) dX11_charges_102 rfl rfl ?_
    refine wp_iadd (M := mX11_charges) (pc := 103) dX11_charges_103 ?_
    refine wp_aload_n (M := mX11_charges) (pc := 104) dX11_charges_104 rfl rfl ?_
    refine xs_getr (M := mX11_charges) (pc := 105) (r := 83) dX11_charges_105 fX11_7 sh82 rfl (gr82_0 sw) ?_
    refine wp_sipush (M := mX11_charges) (pc := 108) dX11_charges_108 k_sipush_188 ?_
    refine wp_iload_n (M := mX11_charges) (pc := 111) dX11_charges_111 rfl rfl ?_
    refine wp_iadd (M := mX11_charges) (pc := 112) dX11_charges_112 ?_
    refine xs_iald (M := mX11_charges) (pc := 113) (j := (188 + x1).toNatClampNeg) dX11_charges_113 sh83 (p9 c1) rfl ?_
    refine wp_iconst (M := mX11_charges) (pc := 114) dX11_charges_114 k_iconst_1 ?_
    refine wp_isub (M := mX11_charges) (pc := 115) dX11_charges_115 ?_
    refine xs_iast (M := mX11_charges) (pc := 116) (j := (188 + x1).toNatClampNeg) dX11_charges_116 sh83 (p10 c1) rfl ?_
    exact xs_ret (M := mX11_charges) (pc := 117) dX11_charges_117 rfl (p11 c1)
theorem bX11_isFree_0 {G : GC} {d : Nat} {sw : Bool} {f : FF} {Q : QQ} {x1 : Int32} (p1 : (¬ (toldM f x1)) → Q (some (.int 0)) sw f) (p2 : (toldM f x1) → vp_in (48 + x1) 391) (p3 : (toldM f x1) → (¬ (f 83 ((48 + x1).toNatClampNeg)) = 1) → Q (some (.int 0)) sw f) (p4 : (toldM f x1) → ((f 83 ((48 + x1).toNatClampNeg)) = 1) → vp_in (64 + x1) 391) (p5 : (toldM f x1) → ((f 83 ((48 + x1).toNatClampNeg)) = 1) → (¬ (f 83 ((64 + x1).toNatClampNeg)) = 0) → Q (some (.int 0)) sw f) (p6 : (toldM f x1) → ((f 83 ((48 + x1).toNatClampNeg)) = 1) → ((f 83 ((64 + x1).toNatClampNeg)) = 0) → XP G mX11_callOf (d + 1) 0 [.ref 82, .int x1, .null] [] sw f (fun v sw' f' => XP G mX11_isFree (d + 2) 38 [.ref 82, .int x1] (retst v []) sw' f' Q)) : XP G mX11_isFree (d + 2) 0 [.ref 82, .int x1] [] sw f Q := by
  refine wp_aload_n (M := mX11_isFree) (pc := 0) dX11_isFree_0 rfl rfl ?_
  refine wp_iload_n (M := mX11_isFree) (pc := 1) dX11_isFree_1 rfl rfl ?_
  refine xs_callV (d := d + 1) (M := mX11_isFree) (pc := 2) (As := [.int x1]) (st := []) (c := 11) (ls' := [.ref 82, .int x1]) dX11_isFree_2 oX11_isTold nX11_isTold lX11_119 vX11_isTold sX11_isTold rfl sh82 (Nat.le_of_ble_eq_true rfl) rfl (Nat.le_of_ble_eq_true rfl) rfl ?_
  refine sp_X11_isTold   ?_
  refine xs_ifb_eq (M := mX11_isFree) (pc := 5) (t := 46) dX11_isFree_5 (by decide) (fun c1 => ?_) (fun c1 => ?_)
  · refine wp_iconst (M := mX11_isFree) (pc := 46) dX11_isFree_46 k_iconst_0 ?_
    exact xs_zret (M := mX11_isFree) (pc := 47) dX11_isFree_47 rfl (by decide) (p1 c1)
  · refine wp_aload_n (M := mX11_isFree) (pc := 8) dX11_isFree_8 rfl rfl ?_
    refine xs_getr (M := mX11_isFree) (pc := 9) (r := 83) dX11_isFree_9 fX11_7 sh82 rfl (gr82_0 sw) ?_
    refine wp_bipush (M := mX11_isFree) (pc := 12) dX11_isFree_12 k_bipush_48 ?_
    refine wp_iload_n (M := mX11_isFree) (pc := 14) dX11_isFree_14 rfl rfl ?_
    refine wp_iadd (M := mX11_isFree) (pc := 15) dX11_isFree_15 ?_
    refine xs_iald (M := mX11_isFree) (pc := 16) (j := (48 + x1).toNatClampNeg) dX11_isFree_16 sh83 (p2 c1) rfl ?_
    refine wp_iconst (M := mX11_isFree) (pc := 17) dX11_isFree_17 k_iconst_1 ?_
    refine wp_icmp_ne (M := mX11_isFree) (pc := 18) (t := 46) dX11_isFree_18 (by decide) (fun c2 => ?_) (fun c2 => ?_)
    · refine wp_iconst (M := mX11_isFree) (pc := 46) dX11_isFree_46 k_iconst_0 ?_
      exact xs_zret (M := mX11_isFree) (pc := 47) dX11_isFree_47 rfl (by decide) (p3 c1 c2)
    · refine wp_aload_n (M := mX11_isFree) (pc := 21) dX11_isFree_21 rfl rfl ?_
      refine xs_getr (M := mX11_isFree) (pc := 22) (r := 83) dX11_isFree_22 fX11_7 sh82 rfl (gr82_0 sw) ?_
      refine wp_bipush (M := mX11_isFree) (pc := 25) dX11_isFree_25 k_bipush_64 ?_
      refine wp_iload_n (M := mX11_isFree) (pc := 27) dX11_isFree_27 rfl rfl ?_
      refine wp_iadd (M := mX11_isFree) (pc := 28) dX11_isFree_28 ?_
      refine xs_iald (M := mX11_isFree) (pc := 29) (j := (64 + x1).toNatClampNeg) dX11_isFree_29 sh83 (p4 c1 c2) rfl ?_
      refine wp_if_ne (M := mX11_isFree) (pc := 30) (t := 46) dX11_isFree_30 (by decide) (fun c3 => ?_) (fun c3 => ?_)
      · refine wp_iconst (M := mX11_isFree) (pc := 46) dX11_isFree_46 k_iconst_0 ?_
        exact xs_zret (M := mX11_isFree) (pc := 47) dX11_isFree_47 rfl (by decide) (p5 c1 c2 c3)
      · refine wp_aload_n (M := mX11_isFree) (pc := 33) dX11_isFree_33 rfl rfl ?_
        refine wp_iload_n (M := mX11_isFree) (pc := 34) dX11_isFree_34 rfl rfl ?_
        refine xs_callV (d := d + 1) (M := mX11_isFree) (pc := 35) (As := [.int x1]) (st := []) (c := 11) (ls' := [.ref 82, .int x1, .null]) dX11_isFree_35 oX11_callOf nX11_callOf lX11_115 vX11_callOf sX11_callOf rfl sh82 (Nat.le_of_ble_eq_true rfl) rfl (Nat.le_of_ble_eq_true rfl) rfl ?_
        exact p6 c1 c2 c3
theorem bX11_isFree_38 {G : GC} {d : Nat} {sw : Bool} {f : FF} {Q : QQ} {x1 : Int32} {s0 : Int32} (p1 : (¬ s0 = (-1)) → Q (some (.int 0)) sw f) (p2 : (s0 = (-1)) → Q (some (.int 1)) sw f) : XP G mX11_isFree (d + 2) 38 [.ref 82, .int x1] [.int s0] sw f Q := by
  refine wp_iconst (M := mX11_isFree) (pc := 38) dX11_isFree_38 k_iconst_m1 ?_
  refine wp_icmp_ne (M := mX11_isFree) (pc := 39) (t := 46) dX11_isFree_39 (by decide) (fun c1 => ?_) (fun c1 => ?_)
  · refine wp_iconst (M := mX11_isFree) (pc := 46) dX11_isFree_46 k_iconst_0 ?_
    exact xs_zret (M := mX11_isFree) (pc := 47) dX11_isFree_47 rfl (by decide) (p1 c1)
  · refine wp_iconst (M := mX11_isFree) (pc := 42) dX11_isFree_42 k_iconst_1 ?_
    refine wp_goto (M := mX11_isFree) (pc := 43) (t := 47) dX11_isFree_43 (by decide) ?_
    exact xs_zret (M := mX11_isFree) (pc := 47) dX11_isFree_47 rfl (by decide) (p2 c1)
theorem bX11_turnOf_0 {G : GC} {d : Nat} {sw : Bool} {f : FF} {Q : QQ} {x1 : Int32} (p1 : XP G mX11_feels (d + 4) 0 [.ref 82, .int x1] [] sw f (fun v sw' f' => XP G mX11_turnOf (d + 5) 5 [.ref 82, .int x1, .null, .null] (retst v []) sw' f' Q)) : XP G mX11_turnOf (d + 5) 0 [.ref 82, .int x1, .null, .null] [] sw f Q := by
  refine wp_aload_n (M := mX11_turnOf) (pc := 0) dX11_turnOf_0 rfl rfl ?_
  refine wp_iload_n (M := mX11_turnOf) (pc := 1) dX11_turnOf_1 rfl rfl ?_
  refine xs_callV (d := d + 4) (M := mX11_turnOf) (pc := 2) (As := [.int x1]) (st := []) (c := 11) (ls' := [.ref 82, .int x1]) dX11_turnOf_2 oX11_feels nX11_feels lX11_285 vX11_feels sX11_feels rfl sh82 (Nat.le_of_ble_eq_true rfl) rfl (Nat.le_of_ble_eq_true rfl) rfl ?_
  exact p1
theorem bX11_turnOf_5 {G : GC} {d : Nat} {sw : Bool} {f : FF} {Q : QQ} {x1 : Int32} {v2 : Value} {v3 : Value} (p1 : XP G mX11_byLaw (d + 4) 0 [.ref 82, .int 114, .int 10, .null, .null] [] sw f (fun v sw' f' => XP G mX11_turnOf (d + 5) 13 [.ref 82, .int x1, v2, v3] (retst v []) sw' f' Q)) : XP G mX11_turnOf (d + 5) 5 [.ref 82, .int x1, v2, v3] [] sw f Q := by
  refine wp_aload_n (M := mX11_turnOf) (pc := 5) dX11_turnOf_5 rfl rfl ?_
  refine wp_bipush (M := mX11_turnOf) (pc := 6) dX11_turnOf_6 k_bipush_114 ?_
  refine wp_bipush (M := mX11_turnOf) (pc := 8) dX11_turnOf_8 k_bipush_10 ?_
  refine xs_callV (d := d + 4) (M := mX11_turnOf) (pc := 10) (As := [.int 114, .int 10]) (st := []) (c := 11) (ls' := [.ref 82, .int 114, .int 10, .null, .null]) dX11_turnOf_10 oX11_byLaw nX11_byLaw lX11_288 vX11_byLaw sX11_byLaw rfl sh82 (Nat.le_of_ble_eq_true rfl) rfl (Nat.le_of_ble_eq_true rfl) rfl ?_
  exact p1
theorem bX11_turnOf_13 {G : GC} {d : Nat} {sw : Bool} {f : FF} {Q : QQ} {x1 : Int32} {v2 : Value} {v3 : Value} {s0 : Int32} (p1 : XP G mX11_byLaw (d + 4) 0 [.ref 82, .int 119, .int 15, .null, .null] [] sw f (fun v sw' f' => XP G mX11_turnOf (d + 5) 22 [.ref 82, .int x1, .int s0, v3] (retst v []) sw' f' Q)) : XP G mX11_turnOf (d + 5) 13 [.ref 82, .int x1, v2, v3] [.int s0] sw f Q := by
  refine wp_istore_n (M := mX11_turnOf) (pc := 13) (ls' := [.ref 82, .int x1, .int s0, v3]) dX11_turnOf_13 rfl (by decide) rfl ?_
  refine wp_aload_n (M := mX11_turnOf) (pc := 14) dX11_turnOf_14 rfl rfl ?_
  refine wp_bipush (M := mX11_turnOf) (pc := 15) dX11_turnOf_15 k_bipush_119 ?_
  refine wp_bipush (M := mX11_turnOf) (pc := 17) dX11_turnOf_17 k_bipush_15 ?_
  refine xs_callV (d := d + 4) (M := mX11_turnOf) (pc := 19) (As := [.int 119, .int 15]) (st := []) (c := 11) (ls' := [.ref 82, .int 119, .int 15, .null, .null]) dX11_turnOf_19 oX11_byLaw nX11_byLaw lX11_288 vX11_byLaw sX11_byLaw rfl sh82 (Nat.le_of_ble_eq_true rfl) rfl (Nat.le_of_ble_eq_true rfl) rfl ?_
  exact p1
theorem bX11_turnOf_22 {G : GC} {d : Nat} {sw : Bool} {f : FF} {Q : QQ} {x1 : Int32} {x2 : Int32} {v3 : Value} {s0 : Int32} (p1 : (x2 ≤ (((upd2 f 83 390 (((25173 * (f 83 390)) + 13849) - ((25173 * (f 83 390)) + 13849) / 65536 * 65536)) 83 390) - ((upd2 f 83 390 (((25173 * (f 83 390)) + 13849) - ((25173 * (f 83 390)) + 13849) / 65536 * 65536)) 83 390) / 10 * 10)) → Q none sw (upd2 f 83 390 (((25173 * (f 83 390)) + 13849) - ((25173 * (f 83 390)) + 13849) / 65536 * 65536))) (p2 : (¬ x2 ≤ (((upd2 f 83 390 (((25173 * (f 83 390)) + 13849) - ((25173 * (f 83 390)) + 13849) / 65536 * 65536)) 83 390) - ((upd2 f 83 390 (((25173 * (f 83 390)) + 13849) - ((25173 * (f 83 390)) + 13849) / 65536 * 65536)) 83 390) / 10 * 10)) → XP G mX11_rings (d + 4) 0 [.ref 82, .int x1, .int s0, .null, .null, .null, .null] [] sw (upd2 f 83 390 (((25173 * (f 83 390)) + 13849) - ((25173 * (f 83 390)) + 13849) / 65536 * 65536)) (fun v sw' f' => XP G mX11_turnOf (d + 5) 72 [.ref 82, .int x1, .int x2, .int s0] (retst v []) sw' f' Q)) : XP G mX11_turnOf (d + 5) 22 [.ref 82, .int x1, .int x2, v3] [.int s0] sw f Q := by
  refine wp_istore_n (M := mX11_turnOf) (pc := 22) (ls' := [.ref 82, .int x1, .int x2, .int s0]) dX11_turnOf_22 rfl (by decide) rfl ?_
  refine wp_aload_n (M := mX11_turnOf) (pc := 23) dX11_turnOf_23 rfl rfl ?_
  refine xs_getr (M := mX11_turnOf) (pc := 24) (r := 83) dX11_turnOf_24 fX11_7 sh82 rfl (gr82_0 sw) ?_
  refine wp_sipush (M := mX11_turnOf) (pc := 27) dX11_turnOf_27 k_sipush_390 ?_
  refine wp_sipush (M := mX11_turnOf) (pc := 30) dX11_turnOf_30 k_sipush_25173 ?_
  refine wp_aload_n (M := mX11_turnOf) (pc := 33) dX11_turnOf_33 rfl rfl ?_
  refine xs_getr (M := mX11_turnOf) (pc := 34) (r := 83) dX11_turnOf_34 fX11_7 sh82 rfl (gr82_0 sw) ?_
  refine wp_sipush (M := mX11_turnOf) (pc := 37) dX11_turnOf_37 k_sipush_390 ?_
  refine xs_iald (M := mX11_turnOf) (pc := 40) (j := 390) dX11_turnOf_40 sh83 (vin (by decide)) rfl ?_
  refine wp_imul (M := mX11_turnOf) (pc := 41) dX11_turnOf_41 ?_
  refine wp_sipush (M := mX11_turnOf) (pc := 42) dX11_turnOf_42 k_sipush_13849 ?_
  refine wp_iadd (M := mX11_turnOf) (pc := 45) dX11_turnOf_45 ?_
  refine wp_ldcw (M := mX11_turnOf) (pc := 46) dX11_turnOf_46 kX11_297 ?_
  refine wp_irem (M := mX11_turnOf) (pc := 49) dX11_turnOf_49 (by decide) ?_
  refine xs_iast (M := mX11_turnOf) (pc := 50) (j := 390) dX11_turnOf_50 sh83 (vin (by decide)) rfl ?_
  refine wp_aload_n (M := mX11_turnOf) (pc := 51) dX11_turnOf_51 rfl rfl ?_
  refine xs_getr (M := mX11_turnOf) (pc := 52) (r := 83) dX11_turnOf_52 fX11_7 sh82 rfl (gr82_0 sw) ?_
  refine wp_sipush (M := mX11_turnOf) (pc := 55) dX11_turnOf_55 k_sipush_390 ?_
  refine xs_iald (M := mX11_turnOf) (pc := 58) (j := 390) dX11_turnOf_58 sh83 (vin (by decide)) rfl ?_
  refine wp_bipush (M := mX11_turnOf) (pc := 59) dX11_turnOf_59 k_bipush_10 ?_
  refine wp_irem (M := mX11_turnOf) (pc := 61) dX11_turnOf_61 (by decide) ?_
  refine wp_iload_n (M := mX11_turnOf) (pc := 62) dX11_turnOf_62 rfl rfl ?_
  refine wp_icmp_ge (M := mX11_turnOf) (pc := 63) (t := 72) dX11_turnOf_63 (by decide) (fun c1 => ?_) (fun c1 => ?_)
  · exact xs_ret (M := mX11_turnOf) (pc := 72) dX11_turnOf_72 rfl (p1 c1)
  · refine wp_aload_n (M := mX11_turnOf) (pc := 66) dX11_turnOf_66 rfl rfl ?_
    refine wp_iload_n (M := mX11_turnOf) (pc := 67) dX11_turnOf_67 rfl rfl ?_
    refine wp_iload_n (M := mX11_turnOf) (pc := 68) dX11_turnOf_68 rfl rfl ?_
    refine xs_callV (d := d + 4) (M := mX11_turnOf) (pc := 69) (As := [.int x1, .int s0]) (st := []) (c := 11) (ls' := [.ref 82, .int x1, .int s0, .null, .null, .null, .null]) dX11_turnOf_69 oX11_rings nX11_rings lX11_298 vX11_rings sX11_rings rfl sh82 (Nat.le_of_ble_eq_true rfl) rfl (Nat.le_of_ble_eq_true rfl) rfl ?_
    exact p2 c1
theorem bX11_turnOf_72 {G : GC} {d : Nat} {sw : Bool} {f : FF} {Q : QQ} {x1 : Int32} {x2 : Int32} {x3 : Int32} (p1 : Q none sw f) : XP G mX11_turnOf (d + 5) 72 [.ref 82, .int x1, .int x2, .int x3] [] sw f Q := by
  exact xs_ret (M := mX11_turnOf) (pc := 72) dX11_turnOf_72 rfl (p1)
theorem bX11_feels_0 {G : GC} {d : Nat} {sw : Bool} {f : FF} {Q : QQ} {x1 : Int32} (p1 : vp_in (16 + x1) 391) (p2 : vp_in (32 + x1) 391) (p3 : vp_in (80 + x1) 391) (p4 : Q none sw (upd2 (upd2 (upd2 (upd2 (upd2 (upd2 (upd2 (upd2 (upd2 (upd2 f 103 0 x1) 103 1 ((upd2 f 103 0 x1) 83 ((16 + x1).toNatClampNeg))) 103 2 ((upd2 (upd2 f 103 0 x1) 103 1 ((upd2 f 103 0 x1) 83 ((16 + x1).toNatClampNeg))) 83 ((32 + x1).toNatClampNeg))) 103 3 ((upd2 (upd2 (upd2 f 103 0 x1) 103 1 ((upd2 f 103 0 x1) 83 ((16 + x1).toNatClampNeg))) 103 2 ((upd2 (upd2 f 103 0 x1) 103 1 ((upd2 f 103 0 x1) 83 ((16 + x1).toNatClampNeg))) 83 ((32 + x1).toNatClampNeg))) 83 ((80 + x1).toNatClampNeg))) 103 4 (((upd2 (upd2 (upd2 (upd2 f 103 0 x1) 103 1 ((upd2 f 103 0 x1) 83 ((16 + x1).toNatClampNeg))) 103 2 ((upd2 (upd2 f 103 0 x1) 103 1 ((upd2 f 103 0 x1) 83 ((16 + x1).toNatClampNeg))) 83 ((32 + x1).toNatClampNeg))) 103 3 ((upd2 (upd2 (upd2 f 103 0 x1) 103 1 ((upd2 f 103 0 x1) 83 ((16 + x1).toNatClampNeg))) 103 2 ((upd2 (upd2 f 103 0 x1) 103 1 ((upd2 f 103 0 x1) 83 ((16 + x1).toNatClampNeg))) 83 ((32 + x1).toNatClampNeg))) 83 ((80 + x1).toNatClampNeg))) 83 388) / 100)) 103 5 (((upd2 (upd2 (upd2 (upd2 (upd2 f 103 0 x1) 103 1 ((upd2 f 103 0 x1) 83 ((16 + x1).toNatClampNeg))) 103 2 ((upd2 (upd2 f 103 0 x1) 103 1 ((upd2 f 103 0 x1) 83 ((16 + x1).toNatClampNeg))) 83 ((32 + x1).toNatClampNeg))) 103 3 ((upd2 (upd2 (upd2 f 103 0 x1) 103 1 ((upd2 f 103 0 x1) 83 ((16 + x1).toNatClampNeg))) 103 2 ((upd2 (upd2 f 103 0 x1) 103 1 ((upd2 f 103 0 x1) 83 ((16 + x1).toNatClampNeg))) 83 ((32 + x1).toNatClampNeg))) 83 ((80 + x1).toNatClampNeg))) 103 4 (((upd2 (upd2 (upd2 (upd2 f 103 0 x1) 103 1 ((upd2 f 103 0 x1) 83 ((16 + x1).toNatClampNeg))) 103 2 ((upd2 (upd2 f 103 0 x1) 103 1 ((upd2 f 103 0 x1) 83 ((16 + x1).toNatClampNeg))) 83 ((32 + x1).toNatClampNeg))) 103 3 ((upd2 (upd2 (upd2 f 103 0 x1) 103 1 ((upd2 f 103 0 x1) 83 ((16 + x1).toNatClampNeg))) 103 2 ((upd2 (upd2 f 103 0 x1) 103 1 ((upd2 f 103 0 x1) 83 ((16 + x1).toNatClampNeg))) 83 ((32 + x1).toNatClampNeg))) 83 ((80 + x1).toNatClampNeg))) 83 388) / 100)) 83 389) - ((upd2 (upd2 (upd2 (upd2 (upd2 f 103 0 x1) 103 1 ((upd2 f 103 0 x1) 83 ((16 + x1).toNatClampNeg))) 103 2 ((upd2 (upd2 f 103 0 x1) 103 1 ((upd2 f 103 0 x1) 83 ((16 + x1).toNatClampNeg))) 83 ((32 + x1).toNatClampNeg))) 103 3 ((upd2 (upd2 (upd2 f 103 0 x1) 103 1 ((upd2 f 103 0 x1) 83 ((16 + x1).toNatClampNeg))) 103 2 ((upd2 (upd2 f 103 0 x1) 103 1 ((upd2 f 103 0 x1) 83 ((16 + x1).toNatClampNeg))) 83 ((32 + x1).toNatClampNeg))) 83 ((80 + x1).toNatClampNeg))) 103 4 (((upd2 (upd2 (upd2 (upd2 f 103 0 x1) 103 1 ((upd2 f 103 0 x1) 83 ((16 + x1).toNatClampNeg))) 103 2 ((upd2 (upd2 f 103 0 x1) 103 1 ((upd2 f 103 0 x1) 83 ((16 + x1).toNatClampNeg))) 83 ((32 + x1).toNatClampNeg))) 103 3 ((upd2 (upd2 (upd2 f 103 0 x1) 103 1 ((upd2 f 103 0 x1) 83 ((16 + x1).toNatClampNeg))) 103 2 ((upd2 (upd2 f 103 0 x1) 103 1 ((upd2 f 103 0 x1) 83 ((16 + x1).toNatClampNeg))) 83 ((32 + x1).toNatClampNeg))) 83 ((80 + x1).toNatClampNeg))) 83 388) / 100)) 83 389) / 60 * 60)) 103 6 ((((upd2 (upd2 (upd2 (upd2 (upd2 (upd2 f 103 0 x1) 103 1 ((upd2 f 103 0 x1) 83 ((16 + x1).toNatClampNeg))) 103 2 ((upd2 (upd2 f 103 0 x1) 103 1 ((upd2 f 103 0 x1) 83 ((16 + x1).toNatClampNeg))) 83 ((32 + x1).toNatClampNeg))) 103 3 ((upd2 (upd2 (upd2 f 103 0 x1) 103 1 ((upd2 f 103 0 x1) 83 ((16 + x1).toNatClampNeg))) 103 2 ((upd2 (upd2 f 103 0 x1) 103 1 ((upd2 f 103 0 x1) 83 ((16 + x1).toNatClampNeg))) 83 ((32 + x1).toNatClampNeg))) 83 ((80 + x1).toNatClampNeg))) 103 4 (((upd2 (upd2 (upd2 (upd2 f 103 0 x1) 103 1 ((upd2 f 103 0 x1) 83 ((16 + x1).toNatClampNeg))) 103 2 ((upd2 (upd2 f 103 0 x1) 103 1 ((upd2 f 103 0 x1) 83 ((16 + x1).toNatClampNeg))) 83 ((32 + x1).toNatClampNeg))) 103 3 ((upd2 (upd2 (upd2 f 103 0 x1) 103 1 ((upd2 f 103 0 x1) 83 ((16 + x1).toNatClampNeg))) 103 2 ((upd2 (upd2 f 103 0 x1) 103 1 ((upd2 f 103 0 x1) 83 ((16 + x1).toNatClampNeg))) 83 ((32 + x1).toNatClampNeg))) 83 ((80 + x1).toNatClampNeg))) 83 388) / 100)) 103 5 (((upd2 (upd2 (upd2 (upd2 (upd2 f 103 0 x1) 103 1 ((upd2 f 103 0 x1) 83 ((16 + x1).toNatClampNeg))) 103 2 ((upd2 (upd2 f 103 0 x1) 103 1 ((upd2 f 103 0 x1) 83 ((16 + x1).toNatClampNeg))) 83 ((32 + x1).toNatClampNeg))) 103 3 ((upd2 (upd2 (upd2 f 103 0 x1) 103 1 ((upd2 f 103 0 x1) 83 ((16 + x1).toNatClampNeg))) 103 2 ((upd2 (upd2 f 103 0 x1) 103 1 ((upd2 f 103 0 x1) 83 ((16 + x1).toNatClampNeg))) 83 ((32 + x1).toNatClampNeg))) 83 ((80 + x1).toNatClampNeg))) 103 4 (((upd2 (upd2 (upd2 (upd2 f 103 0 x1) 103 1 ((upd2 f 103 0 x1) 83 ((16 + x1).toNatClampNeg))) 103 2 ((upd2 (upd2 f 103 0 x1) 103 1 ((upd2 f 103 0 x1) 83 ((16 + x1).toNatClampNeg))) 83 ((32 + x1).toNatClampNeg))) 103 3 ((upd2 (upd2 (upd2 f 103 0 x1) 103 1 ((upd2 f 103 0 x1) 83 ((16 + x1).toNatClampNeg))) 103 2 ((upd2 (upd2 f 103 0 x1) 103 1 ((upd2 f 103 0 x1) 83 ((16 + x1).toNatClampNeg))) 83 ((32 + x1).toNatClampNeg))) 83 ((80 + x1).toNatClampNeg))) 83 388) / 100)) 83 389) - ((upd2 (upd2 (upd2 (upd2 (upd2 f 103 0 x1) 103 1 ((upd2 f 103 0 x1) 83 ((16 + x1).toNatClampNeg))) 103 2 ((upd2 (upd2 f 103 0 x1) 103 1 ((upd2 f 103 0 x1) 83 ((16 + x1).toNatClampNeg))) 83 ((32 + x1).toNatClampNeg))) 103 3 ((upd2 (upd2 (upd2 f 103 0 x1) 103 1 ((upd2 f 103 0 x1) 83 ((16 + x1).toNatClampNeg))) 103 2 ((upd2 (upd2 f 103 0 x1) 103 1 ((upd2 f 103 0 x1) 83 ((16 + x1).toNatClampNeg))) 83 ((32 + x1).toNatClampNeg))) 83 ((80 + x1).toNatClampNeg))) 103 4 (((upd2 (upd2 (upd2 (upd2 f 103 0 x1) 103 1 ((upd2 f 103 0 x1) 83 ((16 + x1).toNatClampNeg))) 103 2 ((upd2 (upd2 f 103 0 x1) 103 1 ((upd2 f 103 0 x1) 83 ((16 + x1).toNatClampNeg))) 83 ((32 + x1).toNatClampNeg))) 103 3 ((upd2 (upd2 (upd2 f 103 0 x1) 103 1 ((upd2 f 103 0 x1) 83 ((16 + x1).toNatClampNeg))) 103 2 ((upd2 (upd2 f 103 0 x1) 103 1 ((upd2 f 103 0 x1) 83 ((16 + x1).toNatClampNeg))) 83 ((32 + x1).toNatClampNeg))) 83 ((80 + x1).toNatClampNeg))) 83 388) / 100)) 83 389) / 60 * 60)) 83 389) / 60) - (((upd2 (upd2 (upd2 (upd2 (upd2 (upd2 f 103 0 x1) 103 1 ((upd2 f 103 0 x1) 83 ((16 + x1).toNatClampNeg))) 103 2 ((upd2 (upd2 f 103 0 x1) 103 1 ((upd2 f 103 0 x1) 83 ((16 + x1).toNatClampNeg))) 83 ((32 + x1).toNatClampNeg))) 103 3 ((upd2 (upd2 (upd2 f 103 0 x1) 103 1 ((upd2 f 103 0 x1) 83 ((16 + x1).toNatClampNeg))) 103 2 ((upd2 (upd2 f 103 0 x1) 103 1 ((upd2 f 103 0 x1) 83 ((16 + x1).toNatClampNeg))) 83 ((32 + x1).toNatClampNeg))) 83 ((80 + x1).toNatClampNeg))) 103 4 (((upd2 (upd2 (upd2 (upd2 f 103 0 x1) 103 1 ((upd2 f 103 0 x1) 83 ((16 + x1).toNatClampNeg))) 103 2 ((upd2 (upd2 f 103 0 x1) 103 1 ((upd2 f 103 0 x1) 83 ((16 + x1).toNatClampNeg))) 83 ((32 + x1).toNatClampNeg))) 103 3 ((upd2 (upd2 (upd2 f 103 0 x1) 103 1 ((upd2 f 103 0 x1) 83 ((16 + x1).toNatClampNeg))) 103 2 ((upd2 (upd2 f 103 0 x1) 103 1 ((upd2 f 103 0 x1) 83 ((16 + x1).toNatClampNeg))) 83 ((32 + x1).toNatClampNeg))) 83 ((80 + x1).toNatClampNeg))) 83 388) / 100)) 103 5 (((upd2 (upd2 (upd2 (upd2 (upd2 f 103 0 x1) 103 1 ((upd2 f 103 0 x1) 83 ((16 + x1).toNatClampNeg))) 103 2 ((upd2 (upd2 f 103 0 x1) 103 1 ((upd2 f 103 0 x1) 83 ((16 + x1).toNatClampNeg))) 83 ((32 + x1).toNatClampNeg))) 103 3 ((upd2 (upd2 (upd2 f 103 0 x1) 103 1 ((upd2 f 103 0 x1) 83 ((16 + x1).toNatClampNeg))) 103 2 ((upd2 (upd2 f 103 0 x1) 103 1 ((upd2 f 103 0 x1) 83 ((16 + x1).toNatClampNeg))) 83 ((32 + x1).toNatClampNeg))) 83 ((80 + x1).toNatClampNeg))) 103 4 (((upd2 (upd2 (upd2 (upd2 f 103 0 x1) 103 1 ((upd2 f 103 0 x1) 83 ((16 + x1).toNatClampNeg))) 103 2 ((upd2 (upd2 f 103 0 x1) 103 1 ((upd2 f 103 0 x1) 83 ((16 + x1).toNatClampNeg))) 83 ((32 + x1).toNatClampNeg))) 103 3 ((upd2 (upd2 (upd2 f 103 0 x1) 103 1 ((upd2 f 103 0 x1) 83 ((16 + x1).toNatClampNeg))) 103 2 ((upd2 (upd2 f 103 0 x1) 103 1 ((upd2 f 103 0 x1) 83 ((16 + x1).toNatClampNeg))) 83 ((32 + x1).toNatClampNeg))) 83 ((80 + x1).toNatClampNeg))) 83 388) / 100)) 83 389) - ((upd2 (upd2 (upd2 (upd2 (upd2 f 103 0 x1) 103 1 ((upd2 f 103 0 x1) 83 ((16 + x1).toNatClampNeg))) 103 2 ((upd2 (upd2 f 103 0 x1) 103 1 ((upd2 f 103 0 x1) 83 ((16 + x1).toNatClampNeg))) 83 ((32 + x1).toNatClampNeg))) 103 3 ((upd2 (upd2 (upd2 f 103 0 x1) 103 1 ((upd2 f 103 0 x1) 83 ((16 + x1).toNatClampNeg))) 103 2 ((upd2 (upd2 f 103 0 x1) 103 1 ((upd2 f 103 0 x1) 83 ((16 + x1).toNatClampNeg))) 83 ((32 + x1).toNatClampNeg))) 83 ((80 + x1).toNatClampNeg))) 103 4 (((upd2 (upd2 (upd2 (upd2 f 103 0 x1) 103 1 ((upd2 f 103 0 x1) 83 ((16 + x1).toNatClampNeg))) 103 2 ((upd2 (upd2 f 103 0 x1) 103 1 ((upd2 f 103 0 x1) 83 ((16 + x1).toNatClampNeg))) 83 ((32 + x1).toNatClampNeg))) 103 3 ((upd2 (upd2 (upd2 f 103 0 x1) 103 1 ((upd2 f 103 0 x1) 83 ((16 + x1).toNatClampNeg))) 103 2 ((upd2 (upd2 f 103 0 x1) 103 1 ((upd2 f 103 0 x1) 83 ((16 + x1).toNatClampNeg))) 83 ((32 + x1).toNatClampNeg))) 83 ((80 + x1).toNatClampNeg))) 83 388) / 100)) 83 389) / 60 * 60)) 83 389) / 60) / 24 * 24)) 103 7 0) 103 8 0) 103 9 0)) : XP G mX11_feels (d) 0 [.ref 82, .int x1] [] sw f Q := by
  refine wp_aload_n (M := mX11_feels) (pc := 0) dX11_feels_0 rfl rfl ?_
  refine xs_getr (M := mX11_feels) (pc := 1) (r := 103) dX11_feels_1 fX11_71 sh82 rfl (gr82_32 sw) ?_
  refine wp_iconst (M := mX11_feels) (pc := 4) dX11_feels_4 k_iconst_0 ?_
  refine wp_iload_n (M := mX11_feels) (pc := 5) dX11_feels_5 rfl rfl ?_
  refine xs_iast (M := mX11_feels) (pc := 6) (j := 0) dX11_feels_6 sh103 (vin (by decide)) rfl ?_
  refine wp_aload_n (M := mX11_feels) (pc := 7) dX11_feels_7 rfl rfl ?_
  refine xs_getr (M := mX11_feels) (pc := 8) (r := 103) dX11_feels_8 fX11_71 sh82 rfl (gr82_32 sw) ?_
  refine wp_iconst (M := mX11_feels) (pc := 11) dX11_feels_11 k_iconst_1 ?_
  refine wp_aload_n (M := mX11_feels) (pc := 12) dX11_feels_12 rfl rfl ?_
  refine xs_getr (M := mX11_feels) (pc := 13) (r := 83) dX11_feels_13 fX11_7 sh82 rfl (gr82_0 sw) ?_
  refine wp_bipush (M := mX11_feels) (pc := 16) dX11_feels_16 k_bipush_16 ?_
  refine wp_iload_n (M := mX11_feels) (pc := 18) dX11_feels_18 rfl rfl ?_
  refine wp_iadd (M := mX11_feels) (pc := 19) dX11_feels_19 ?_
  refine xs_iald (M := mX11_feels) (pc := 20) (j := (16 + x1).toNatClampNeg) dX11_feels_20 sh83 (p1) rfl ?_
  refine xs_iast (M := mX11_feels) (pc := 21) (j := 1) dX11_feels_21 sh103 (vin (by decide)) rfl ?_
  refine wp_aload_n (M := mX11_feels) (pc := 22) dX11_feels_22 rfl rfl ?_
  refine xs_getr (M := mX11_feels) (pc := 23) (r := 103) dX11_feels_23 fX11_71 sh82 rfl (gr82_32 sw) ?_
  refine wp_iconst (M := mX11_feels) (pc := 26) dX11_feels_26 k_iconst_2 ?_
  refine wp_aload_n (M := mX11_feels) (pc := 27) dX11_feels_27 rfl rfl ?_
  refine xs_getr (M := mX11_feels) (pc := 28) (r := 83) dX11_feels_28 fX11_7 sh82 rfl (gr82_0 sw) ?_
  refine wp_bipush (M := mX11_feels) (pc := 31) dX11_feels_31 k_bipush_32 ?_
  refine wp_iload_n (M := mX11_feels) (pc := 33) dX11_feels_33 rfl rfl ?_
  refine wp_iadd (M := mX11_feels) (pc := 34) dX11_feels_34 ?_
  refine xs_iald (M := mX11_feels) (pc := 35) (j := (32 + x1).toNatClampNeg) dX11_feels_35 sh83 (p2) rfl ?_
  refine xs_iast (M := mX11_feels) (pc := 36) (j := 2) dX11_feels_36 sh103 (vin (by decide)) rfl ?_
  refine wp_aload_n (M := mX11_feels) (pc := 37) dX11_feels_37 rfl rfl ?_
  refine xs_getr (M := mX11_feels) (pc := 38) (r := 103) dX11_feels_38 fX11_71 sh82 rfl (gr82_32 sw) ?_
  refine wp_iconst (M := mX11_feels) (pc := 41) dX11_feels_41 k_iconst_3 ?_
  refine wp_aload_n (M := mX11_feels) (pc := 42) dX11_feels_42 rfl rfl ?_
  refine xs_getr (M := mX11_feels) (pc := 43) (r := 83) dX11_feels_43 fX11_7 sh82 rfl (gr82_0 sw) ?_
  refine wp_bipush (M := mX11_feels) (pc := 46) dX11_feels_46 k_bipush_80 ?_
  refine wp_iload_n (M := mX11_feels) (pc := 48) dX11_feels_48 rfl rfl ?_
  refine wp_iadd (M := mX11_feels) (pc := 49) dX11_feels_49 ?_
  refine xs_iald (M := mX11_feels) (pc := 50) (j := (80 + x1).toNatClampNeg) dX11_feels_50 sh83 (p3) rfl ?_
  refine xs_iast (M := mX11_feels) (pc := 51) (j := 3) dX11_feels_51 sh103 (vin (by decide)) rfl ?_
  refine wp_aload_n (M := mX11_feels) (pc := 52) dX11_feels_52 rfl rfl ?_
  refine xs_getr (M := mX11_feels) (pc := 53) (r := 103) dX11_feels_53 fX11_71 sh82 rfl (gr82_32 sw) ?_
  refine wp_iconst (M := mX11_feels) (pc := 56) dX11_feels_56 k_iconst_4 ?_
  refine wp_aload_n (M := mX11_feels) (pc := 57) dX11_feels_57 rfl rfl ?_
  refine xs_getr (M := mX11_feels) (pc := 58) (r := 83) dX11_feels_58 fX11_7 sh82 rfl (gr82_0 sw) ?_
  refine wp_sipush (M := mX11_feels) (pc := 61) dX11_feels_61 k_sipush_388 ?_
  refine xs_iald (M := mX11_feels) (pc := 64) (j := 388) dX11_feels_64 sh83 (vin (by decide)) rfl ?_
  refine wp_bipush (M := mX11_feels) (pc := 65) dX11_feels_65 k_bipush_100 ?_
  refine wp_idiv (M := mX11_feels) (pc := 67) dX11_feels_67 (by decide) ?_
  refine xs_iast (M := mX11_feels) (pc := 68) (j := 4) dX11_feels_68 sh103 (vin (by decide)) rfl ?_
  refine wp_aload_n (M := mX11_feels) (pc := 69) dX11_feels_69 rfl rfl ?_
  refine xs_getr (M := mX11_feels) (pc := 70) (r := 103) dX11_feels_70 fX11_71 sh82 rfl (gr82_32 sw) ?_
  refine wp_iconst (M := mX11_feels) (pc := 73) dX11_feels_73 k_iconst_5 ?_
  refine wp_aload_n (M := mX11_feels) (pc := 74) dX11_feels_74 rfl rfl ?_
  refine xs_getr (M := mX11_feels) (pc := 75) (r := 83) dX11_feels_75 fX11_7 sh82 rfl (gr82_0 sw) ?_
  refine wp_sipush (M := mX11_feels) (pc := 78) dX11_feels_78 k_sipush_389 ?_
  refine xs_iald (M := mX11_feels) (pc := 81) (j := 389) dX11_feels_81 sh83 (vin (by decide)) rfl ?_
  refine wp_bipush (M := mX11_feels) (pc := 82) dX11_feels_82 k_bipush_60 ?_
  refine wp_irem (M := mX11_feels) (pc := 84) dX11_feels_84 (by decide) ?_
  refine xs_iast (M := mX11_feels) (pc := 85) (j := 5) dX11_feels_85 sh103 (vin (by decide)) rfl ?_
  refine wp_aload_n (M := mX11_feels) (pc := 86) dX11_feels_86 rfl rfl ?_
  refine xs_getr (M := mX11_feels) (pc := 87) (r := 103) dX11_feels_87 fX11_71 sh82 rfl (gr82_32 sw) ?_
  refine wp_bipush (M := mX11_feels) (pc := 90) dX11_feels_90 k_bipush_6 ?_
  refine wp_aload_n (M := mX11_feels) (pc := 92) dX11_feels_92 rfl rfl ?_
  refine xs_getr (M := mX11_feels) (pc := 93) (r := 83) dX11_feels_93 fX11_7 sh82 rfl (gr82_0 sw) ?_
  refine wp_sipush (M := mX11_feels) (pc := 96) dX11_feels_96 k_sipush_389 ?_
  refine xs_iald (M := mX11_feels) (pc := 99) (j := 389) dX11_feels_99 sh83 (vin (by decide)) rfl ?_
  refine wp_bipush (M := mX11_feels) (pc := 100) dX11_feels_100 k_bipush_60 ?_
  refine wp_idiv (M := mX11_feels) (pc := 102) dX11_feels_102 (by decide) ?_
  refine wp_bipush (M := mX11_feels) (pc := 103) dX11_feels_103 k_bipush_24 ?_
  refine wp_irem (M := mX11_feels) (pc := 105) dX11_feels_105 (by decide) ?_
  refine xs_iast (M := mX11_feels) (pc := 106) (j := 6) dX11_feels_106 sh103 (vin (by decide)) rfl ?_
  refine wp_aload_n (M := mX11_feels) (pc := 107) dX11_feels_107 rfl rfl ?_
  refine xs_getr (M := mX11_feels) (pc := 108) (r := 103) dX11_feels_108 fX11_71 sh82 rfl (gr82_32 sw) ?_
  refine wp_bipush (M := mX11_feels) (pc := 111) dX11_feels_111 k_bipush_7 ?_
  refine wp_iconst (M := mX11_feels) (pc := 113) dX11_feels_113 k_iconst_0 ?_
  refine xs_iast (M := mX11_feels) (pc := 114) (j := 7) dX11_feels_114 sh103 (vin (by decide)) rfl ?_
  refine wp_aload_n (M := mX11_feels) (pc := 115) dX11_feels_115 rfl rfl ?_
  refine xs_getr (M := mX11_feels) (pc := 116) (r := 103) dX11_feels_116 fX11_71 sh82 rfl (gr82_32 sw) ?_
  refine wp_bipush (M := mX11_feels) (pc := 119) dX11_feels_119 k_bipush_8 ?_
  refine wp_iconst (M := mX11_feels) (pc := 121) dX11_feels_121 k_iconst_0 ?_
  refine xs_iast (M := mX11_feels) (pc := 122) (j := 8) dX11_feels_122 sh103 (vin (by decide)) rfl ?_
  refine wp_aload_n (M := mX11_feels) (pc := 123) dX11_feels_123 rfl rfl ?_
  refine xs_getr (M := mX11_feels) (pc := 124) (r := 103) dX11_feels_124 fX11_71 sh82 rfl (gr82_32 sw) ?_
  refine wp_bipush (M := mX11_feels) (pc := 127) dX11_feels_127 k_bipush_9 ?_
  refine wp_iconst (M := mX11_feels) (pc := 129) dX11_feels_129 k_iconst_0 ?_
  refine xs_iast (M := mX11_feels) (pc := 130) (j := 9) dX11_feels_130 sh103 (vin (by decide)) rfl ?_
  exact xs_ret (M := mX11_feels) (pc := 131) dX11_feels_131 rfl (p4)
theorem bX11_byLaw_0 {G : GC} {d : Nat} {sw : Bool} {f : FF} {Q : QQ} {x1 : Int32} {x2 : Int32} (p1 : XP G mX11_byLaw (d + 2) 2 [.ref 82, .int x1, .int x2, .int 0, .null] [] sw f Q) : XP G mX11_byLaw (d + 2) 0 [.ref 82, .int x1, .int x2, .null, .null] [] sw f Q := by
  refine wp_iconst (M := mX11_byLaw) (pc := 0) dX11_byLaw_0 k_iconst_0 ?_
  refine wp_istore_n (M := mX11_byLaw) (pc := 1) (ls' := [.ref 82, .int x1, .int x2, .int 0, .null]) dX11_byLaw_1 rfl (by decide) rfl ?_
  exact p1
theorem bX11_byLaw_2 {G : GC} {d : Nat} {sw : Bool} {f : FF} {Q : QQ} {x1 : Int32} {x2 : Int32} {x3 : Int32} {v4 : Value} (p1 : ((f 82 19) ≤ x3) → Q (some (.int 0)) sw f) (p2 : (¬ (f 82 19) ≤ x3) → vp_in x3 16) (p3 : (¬ (f 82 19) ≤ x3) → (¬ (f 98 x3.toNatClampNeg) = x1) → XP G mX11_byLaw (d + 2) 2 [.ref 82, .int x1, .int x2, .int (x3 + 1), v4] [] sw f Q) (p4 : (¬ (f 82 19) ≤ x3) → ((f 98 x3.toNatClampNeg) = x1) → vp_in x3 16) (p5 : (¬ (f 82 19) ≤ x3) → ((f 98 x3.toNatClampNeg) = x1) → vp_in x3 16) (p6 : (¬ (f 82 19) ≤ x3) → ((f 98 x3.toNatClampNeg) = x1) → XP G mX11_comesTo (d + 1) 0 [.ref 82, .int (f 100 x3.toNatClampNeg), .int (f 101 x3.toNatClampNeg), .null, .null, .null, .null, .null] [] sw f (fun v sw' f' => XP G mX11_byLaw (d + 2) 36 [.ref 82, .int x1, .int x2, .int x3, v4] (retst v []) sw' f' Q)) : XP G mX11_byLaw (d + 2) 2 [.ref 82, .int x1, .int x2, .int x3, v4] [] sw f Q := by
  refine wp_iload_n (M := mX11_byLaw) (pc := 2) dX11_byLaw_2 rfl rfl ?_
  refine wp_aload_n (M := mX11_byLaw) (pc := 3) dX11_byLaw_3 rfl rfl ?_
  refine xs_geti (M := mX11_byLaw) (pc := 4) dX11_byLaw_4 fX11_244 sh82 rfl ?_
  refine wp_icmp_ge (M := mX11_byLaw) (pc := 7) (t := 89) dX11_byLaw_7 (by decide) (fun c1 => ?_) (fun c1 => ?_)
  · refine wp_iconst (M := mX11_byLaw) (pc := 89) dX11_byLaw_89 k_iconst_0 ?_
    exact xs_iret (M := mX11_byLaw) (pc := 90) dX11_byLaw_90 rfl (p1 c1)
  · refine wp_aload_n (M := mX11_byLaw) (pc := 10) dX11_byLaw_10 rfl rfl ?_
    refine xs_getr (M := mX11_byLaw) (pc := 11) (r := 98) dX11_byLaw_11 fX11_56 sh82 rfl (gr82_27 sw) ?_
    refine wp_iload_n (M := mX11_byLaw) (pc := 14) dX11_byLaw_14 rfl rfl ?_
    refine xs_iald (M := mX11_byLaw) (pc := 15) (j := x3.toNatClampNeg) dX11_byLaw_15 sh98 (p2 c1) rfl ?_
    refine wp_iload_n (M := mX11_byLaw) (pc := 16) dX11_byLaw_16 rfl rfl ?_
    refine wp_icmp_ne (M := mX11_byLaw) (pc := 17) (t := 83) dX11_byLaw_17 (by decide) (fun c2 => ?_) (fun c2 => ?_)
    · refine wp_iinc (M := mX11_byLaw) (pc := 83) (v := x3 + 1) (ls' := [.ref 82, .int x1, .int x2, .int (x3 + 1), v4]) dX11_byLaw_83 rfl (congrArg (fun z => _ + z) k_iconst_1) (by decide) rfl ?_
      refine wp_goto (M := mX11_byLaw) (pc := 86) (t := 2) dX11_byLaw_86 (by decide) ?_
      exact p3 c1 c2
    · refine wp_aload_n (M := mX11_byLaw) (pc := 20) dX11_byLaw_20 rfl rfl ?_
      refine wp_aload_n (M := mX11_byLaw) (pc := 21) dX11_byLaw_21 rfl rfl ?_
      refine xs_getr (M := mX11_byLaw) (pc := 22) (r := 100) dX11_byLaw_22 fX11_62 sh82 rfl (gr82_29 sw) ?_
      refine wp_iload_n (M := mX11_byLaw) (pc := 25) dX11_byLaw_25 rfl rfl ?_
      refine xs_iald (M := mX11_byLaw) (pc := 26) (j := x3.toNatClampNeg) dX11_byLaw_26 sh100 (p4 c1 c2) rfl ?_
      refine wp_aload_n (M := mX11_byLaw) (pc := 27) dX11_byLaw_27 rfl rfl ?_
      refine xs_getr (M := mX11_byLaw) (pc := 28) (r := 101) dX11_byLaw_28 fX11_65 sh82 rfl (gr82_30 sw) ?_
      refine wp_iload_n (M := mX11_byLaw) (pc := 31) dX11_byLaw_31 rfl rfl ?_
      refine xs_iald (M := mX11_byLaw) (pc := 32) (j := x3.toNatClampNeg) dX11_byLaw_32 sh101 (p5 c1 c2) rfl ?_
      refine xs_callV (d := d + 1) (M := mX11_byLaw) (pc := 33) (As := [.int (f 100 x3.toNatClampNeg), .int (f 101 x3.toNatClampNeg)]) (st := []) (c := 11) (ls' := [.ref 82, .int (f 100 x3.toNatClampNeg), .int (f 101 x3.toNatClampNeg), .null, .null, .null, .null, .null]) dX11_byLaw_33 oX11_comesTo nX11_comesTo lX11_251 vX11_comesTo sX11_comesTo rfl sh82 (Nat.le_of_ble_eq_true rfl) rfl (Nat.le_of_ble_eq_true rfl) rfl ?_
      exact p6 c1 c2
theorem bX11_byLaw_36 {G : GC} {d : Nat} {sw : Bool} {f : FF} {Q : QQ} {x1 : Int32} {x2 : Int32} {x3 : Int32} {v4 : Value} {s0 : Int32} (p1 : (s0 = 1) → vp_in x3 16) (p2 : (s0 = 1) → vp_in x3 16) (p3 : (s0 = 1) → XP G mX11_comesTo (d + 1) 0 [.ref 82, .int (f 99 x3.toNatClampNeg), .int (f 100 x3.toNatClampNeg), .null, .null, .null, .null, .null] [] sw f (fun v sw' f' => XP G mX11_byLaw (d + 2) 59 [.ref 82, .int x1, .int x2, .int x3, v4] (retst v []) sw' f' Q)) (p4 : (¬ s0 = 1) → XP G mX11_byLaw (d + 2) 2 [.ref 82, .int x1, .int x2, .int (x3 + 1), v4] [] sw f Q) : XP G mX11_byLaw (d + 2) 36 [.ref 82, .int x1, .int x2, .int x3, v4] [.int s0] sw f Q := by
  refine wp_iconst (M := mX11_byLaw) (pc := 36) dX11_byLaw_36 k_iconst_1 ?_
  refine wp_icmp_eq (M := mX11_byLaw) (pc := 37) (t := 43) dX11_byLaw_37 (by decide) (fun c1 => ?_) (fun c1 => ?_)
  · refine wp_aload_n (M := mX11_byLaw) (pc := 43) dX11_byLaw_43 rfl rfl ?_
    refine wp_aload_n (M := mX11_byLaw) (pc := 44) dX11_byLaw_44 rfl rfl ?_
    refine xs_getr (M := mX11_byLaw) (pc := 45) (r := 99) dX11_byLaw_45 fX11_59 sh82 rfl (gr82_28 sw) ?_
    refine wp_iload_n (M := mX11_byLaw) (pc := 48) dX11_byLaw_48 rfl rfl ?_
    refine xs_iald (M := mX11_byLaw) (pc := 49) (j := x3.toNatClampNeg) dX11_byLaw_49 sh99 (p1 c1) rfl ?_
    refine wp_aload_n (M := mX11_byLaw) (pc := 50) dX11_byLaw_50 rfl rfl ?_
    refine xs_getr (M := mX11_byLaw) (pc := 51) (r := 100) dX11_byLaw_51 fX11_62 sh82 rfl (gr82_29 sw) ?_
    refine wp_iload_n (M := mX11_byLaw) (pc := 54) dX11_byLaw_54 rfl rfl ?_
    refine xs_iald (M := mX11_byLaw) (pc := 55) (j := x3.toNatClampNeg) dX11_byLaw_55 sh100 (p2 c1) rfl ?_
    refine xs_callV (d := d + 1) (M := mX11_byLaw) (pc := 56) (As := [.int (f 99 x3.toNatClampNeg), .int (f 100 x3.toNatClampNeg)]) (st := []) (c := 11) (ls' := [.ref 82, .int (f 99 x3.toNatClampNeg), .int (f 100 x3.toNatClampNeg), .null, .null, .null, .null, .null]) dX11_byLaw_56 oX11_comesTo nX11_comesTo lX11_251 vX11_comesTo sX11_comesTo rfl sh82 (Nat.le_of_ble_eq_true rfl) rfl (Nat.le_of_ble_eq_true rfl) rfl ?_
    exact p3 c1
  · refine wp_goto (M := mX11_byLaw) (pc := 40) (t := 83) dX11_byLaw_40 (by decide) ?_
    refine wp_iinc (M := mX11_byLaw) (pc := 83) (v := x3 + 1) (ls' := [.ref 82, .int x1, .int x2, .int (x3 + 1), v4]) dX11_byLaw_83 rfl (congrArg (fun z => _ + z) k_iconst_1) (by decide) rfl ?_
    refine wp_goto (M := mX11_byLaw) (pc := 86) (t := 2) dX11_byLaw_86 (by decide) ?_
    exact p4 c1
theorem bX11_byLaw_59 {G : GC} {d : Nat} {sw : Bool} {f : FF} {Q : QQ} {x1 : Int32} {x2 : Int32} {x3 : Int32} {v4 : Value} {s0 : Int32} (p1 : (0 ≤ s0) → (s0 ≤ x2) → Q (some (.int s0)) sw f) (p2 : (0 ≤ s0) → (¬ s0 ≤ x2) → Q (some (.int x2)) sw f) (p3 : (¬ 0 ≤ s0) → Q (some (.int 0)) sw f) : XP G mX11_byLaw (d + 2) 59 [.ref 82, .int x1, .int x2, .int x3, v4] [.int s0] sw f Q := by
  refine wp_istore (M := mX11_byLaw) (pc := 59) (ls' := [.ref 82, .int x1, .int x2, .int x3, .int s0]) dX11_byLaw_59 (by decide) rfl ?_
  refine wp_iload (M := mX11_byLaw) (pc := 61) dX11_byLaw_61 rfl ?_
  refine wp_if_ge (M := mX11_byLaw) (pc := 63) (t := 70) dX11_byLaw_63 (by decide) (fun c1 => ?_) (fun c1 => ?_)
  · refine wp_iload (M := mX11_byLaw) (pc := 70) dX11_byLaw_70 rfl ?_
    refine wp_iload_n (M := mX11_byLaw) (pc := 72) dX11_byLaw_72 rfl rfl ?_
    refine wp_icmp_le (M := mX11_byLaw) (pc := 73) (t := 80) dX11_byLaw_73 (by decide) (fun c2 => ?_) (fun c2 => ?_)
    · refine wp_iload (M := mX11_byLaw) (pc := 80) dX11_byLaw_80 rfl ?_
      exact xs_iret (M := mX11_byLaw) (pc := 82) dX11_byLaw_82 rfl (p1 c1 c2)
    · refine wp_iload_n (M := mX11_byLaw) (pc := 76) dX11_byLaw_76 rfl rfl ?_
      refine wp_goto (M := mX11_byLaw) (pc := 77) (t := 82) dX11_byLaw_77 (by decide) ?_
      exact xs_iret (M := mX11_byLaw) (pc := 82) dX11_byLaw_82 rfl (p2 c1 c2)
  · refine wp_iconst (M := mX11_byLaw) (pc := 66) dX11_byLaw_66 k_iconst_0 ?_
    refine wp_goto (M := mX11_byLaw) (pc := 67) (t := 82) dX11_byLaw_67 (by decide) ?_
    exact xs_iret (M := mX11_byLaw) (pc := 82) dX11_byLaw_82 rfl (p3 c1)
theorem bX11_comesTo_0 {G : GC} {d : Nat} {sw : Bool} {f : FF} {Q : QQ} {x1 : Int32} {x2 : Int32} (p1 : XP G mX11_comesTo (d + 1) 16 [.ref 82, .int x1, .int x2, .int 0, .int (260 * (x1 / 260)), .int x1, .null, .null] [] sw f Q) : XP G mX11_comesTo (d + 1) 0 [.ref 82, .int x1, .int x2, .null, .null, .null, .null, .null] [] sw f Q := by
  refine wp_iconst (M := mX11_comesTo) (pc := 0) dX11_comesTo_0 k_iconst_0 ?_
  refine wp_istore_n (M := mX11_comesTo) (pc := 1) (ls' := [.ref 82, .int x1, .int x2, .int 0, .null, .null, .null, .null]) dX11_comesTo_1 rfl (by decide) rfl ?_
  refine wp_sipush (M := mX11_comesTo) (pc := 2) dX11_comesTo_2 k_sipush_260 ?_
  refine wp_iload_n (M := mX11_comesTo) (pc := 5) dX11_comesTo_5 rfl rfl ?_
  refine wp_sipush (M := mX11_comesTo) (pc := 6) dX11_comesTo_6 k_sipush_260 ?_
  refine wp_idiv (M := mX11_comesTo) (pc := 9) dX11_comesTo_9 (by decide) ?_
  refine wp_imul (M := mX11_comesTo) (pc := 10) dX11_comesTo_10 ?_
  refine wp_istore (M := mX11_comesTo) (pc := 11) (ls' := [.ref 82, .int x1, .int x2, .int 0, .int (260 * (x1 / 260)), .null, .null, .null]) dX11_comesTo_11 (by decide) rfl ?_
  refine wp_iload_n (M := mX11_comesTo) (pc := 13) dX11_comesTo_13 rfl rfl ?_
  refine wp_istore (M := mX11_comesTo) (pc := 14) (ls' := [.ref 82, .int x1, .int x2, .int 0, .int (260 * (x1 / 260)), .int x1, .null, .null]) dX11_comesTo_14 (by decide) rfl ?_
  exact p1
theorem bX11_comesTo_16 {G : GC} {d : Nat} {sw : Bool} {f : FF} {Q : QQ} {x1 : Int32} {x2 : Int32} {x3 : Int32} {x4 : Int32} {x5 : Int32} {v6 : Value} {v7 : Value} (p1 : (x2 ≤ x5) → Q (some (.int (f 102 0))) sw f) (p2 : (¬ x2 ≤ x5) → vp_in x5 260) (p3 : (¬ x2 ≤ x5) → vp_in x5 260) (p4 : (¬ x2 ≤ x5) → (((f 97 x5.toNatClampNeg) / 1048576) = 0) → (¬ ((f 97 x5.toNatClampNeg) / 1048576) = 0) → vp_in ((f 97 x5.toNatClampNeg) - (f 97 x5.toNatClampNeg) / 1048576 * 1048576) 10) (p5 : (¬ x2 ≤ x5) → (((f 97 x5.toNatClampNeg) / 1048576) = 0) → (¬ ((f 97 x5.toNatClampNeg) / 1048576) = 0) → vp_in x3 260) (p6 : (¬ x2 ≤ x5) → (((f 97 x5.toNatClampNeg) / 1048576) = 0) → (¬ ((f 97 x5.toNatClampNeg) / 1048576) = 0) → XP G mX11_comesTo (d + 1) 16 [.ref 82, .int x1, .int x2, .int (x3 + 1), .int x4, .int (x5 + 1), .int ((f 97 x5.toNatClampNeg) / 1048576), .int ((f 97 x5.toNatClampNeg) - (f 97 x5.toNatClampNeg) / 1048576 * 1048576)] [] sw (upd2 f 102 x3.toNatClampNeg (f 103 (((f 97 x5.toNatClampNeg) - (f 97 x5.toNatClampNeg) / 1048576 * 1048576).toNatClampNeg))) Q) (p7 : (¬ x2 ≤ x5) → (((f 97 x5.toNatClampNeg) / 1048576) = 0) → (((f 97 x5.toNatClampNeg) / 1048576) = 0) → vp_in x3 260) (p8 : (¬ x2 ≤ x5) → (((f 97 x5.toNatClampNeg) / 1048576) = 0) → (((f 97 x5.toNatClampNeg) / 1048576) = 0) → XP G mX11_comesTo (d + 1) 16 [.ref 82, .int x1, .int x2, .int (x3 + 1), .int x4, .int (x5 + 1), .int ((f 97 x5.toNatClampNeg) / 1048576), .int ((f 97 x5.toNatClampNeg) - (f 97 x5.toNatClampNeg) / 1048576 * 1048576)] [] sw (upd2 f 102 x3.toNatClampNeg ((f 97 x5.toNatClampNeg) - (f 97 x5.toNatClampNeg) / 1048576 * 1048576)) Q) (p9 : (¬ x2 ≤ x5) → (¬ ((f 97 x5.toNatClampNeg) / 1048576) = 0) → (¬ ((f 97 x5.toNatClampNeg) / 1048576) = 1) → (¬ ((f 97 x5.toNatClampNeg) / 1048576) = 10) → (((f 97 x5.toNatClampNeg) / 1048576) = 11) → vp_in (x3 - 1) 260) (p10 : (¬ x2 ≤ x5) → (¬ ((f 97 x5.toNatClampNeg) / 1048576) = 0) → (¬ ((f 97 x5.toNatClampNeg) / 1048576) = 1) → (¬ ((f 97 x5.toNatClampNeg) / 1048576) = 10) → (((f 97 x5.toNatClampNeg) / 1048576) = 11) → (¬ ((f 97 x5.toNatClampNeg) / 1048576) = 12) → (¬ (f 102 ((x3 - 1).toNatClampNeg)) = 0) → XP G mX11_comesTo (d + 1) 16 [.ref 82, .int x1, .int x2, .int (x3 - 1), .int x4, .int (x5 + 1), .int ((f 97 x5.toNatClampNeg) / 1048576), .int ((f 97 x5.toNatClampNeg) - (f 97 x5.toNatClampNeg) / 1048576 * 1048576)] [] sw f Q) (p11 : (¬ x2 ≤ x5) → (¬ ((f 97 x5.toNatClampNeg) / 1048576) = 0) → (¬ ((f 97 x5.toNatClampNeg) / 1048576) = 1) → (¬ ((f 97 x5.toNatClampNeg) / 1048576) = 10) → (((f 97 x5.toNatClampNeg) / 1048576) = 11) → (¬ ((f 97 x5.toNatClampNeg) / 1048576) = 12) → ((f 102 ((x3 - 1).toNatClampNeg)) = 0) → XP G mX11_comesTo (d + 1) 16 [.ref 82, .int x1, .int x2, .int x3, .int x4, .int (x4 + ((f 97 x5.toNatClampNeg) - (f 97 x5.toNatClampNeg) / 1048576 * 1048576)), .int ((f 97 x5.toNatClampNeg) / 1048576), .int ((f 97 x5.toNatClampNeg) - (f 97 x5.toNatClampNeg) / 1048576 * 1048576)] [] sw f Q) (p12 : (¬ x2 ≤ x5) → (¬ ((f 97 x5.toNatClampNeg) / 1048576) = 0) → (¬ ((f 97 x5.toNatClampNeg) / 1048576) = 1) → (¬ ((f 97 x5.toNatClampNeg) / 1048576) = 10) → (((f 97 x5.toNatClampNeg) / 1048576) = 11) → (((f 97 x5.toNatClampNeg) / 1048576) = 12) → (¬ (f 102 ((x3 - 1).toNatClampNeg)) = 1) → XP G mX11_comesTo (d + 1) 16 [.ref 82, .int x1, .int x2, .int (x3 - 1), .int x4, .int (x5 + 1), .int ((f 97 x5.toNatClampNeg) / 1048576), .int ((f 97 x5.toNatClampNeg) - (f 97 x5.toNatClampNeg) / 1048576 * 1048576)] [] sw f Q) (p13 : (¬ x2 ≤ x5) → (¬ ((f 97 x5.toNatClampNeg) / 1048576) = 0) → (¬ ((f 97 x5.toNatClampNeg) / 1048576) = 1) → (¬ ((f 97 x5.toNatClampNeg) / 1048576) = 10) → (((f 97 x5.toNatClampNeg) / 1048576) = 11) → (((f 97 x5.toNatClampNeg) / 1048576) = 12) → ((f 102 ((x3 - 1).toNatClampNeg)) = 1) → XP G mX11_comesTo (d + 1) 16 [.ref 82, .int x1, .int x2, .int x3, .int x4, .int (x4 + ((f 97 x5.toNatClampNeg) - (f 97 x5.toNatClampNeg) / 1048576 * 1048576)), .int ((f 97 x5.toNatClampNeg) / 1048576), .int ((f 97 x5.toNatClampNeg) - (f 97 x5.toNatClampNeg) / 1048576 * 1048576)] [] sw f Q) (p14 : (¬ x2 ≤ x5) → (¬ ((f 97 x5.toNatClampNeg) / 1048576) = 0) → (¬ ((f 97 x5.toNatClampNeg) / 1048576) = 1) → (¬ ((f 97 x5.toNatClampNeg) / 1048576) = 10) → (¬ ((f 97 x5.toNatClampNeg) / 1048576) = 11) → (¬ ((f 97 x5.toNatClampNeg) / 1048576) = 12) → (((f 97 x5.toNatClampNeg) / 1048576) = 5) → vp_in (x3 - 1) 260) (p15 : (¬ x2 ≤ x5) → (¬ ((f 97 x5.toNatClampNeg) / 1048576) = 0) → (¬ ((f 97 x5.toNatClampNeg) / 1048576) = 1) → (¬ ((f 97 x5.toNatClampNeg) / 1048576) = 10) → (¬ ((f 97 x5.toNatClampNeg) / 1048576) = 11) → (¬ ((f 97 x5.toNatClampNeg) / 1048576) = 12) → (((f 97 x5.toNatClampNeg) / 1048576) = 5) → (¬ (f 102 ((x3 - 1).toNatClampNeg)) = 0) → vp_in ((x3 - 1) - 1) 260) (p16 : (¬ x2 ≤ x5) → (¬ ((f 97 x5.toNatClampNeg) / 1048576) = 0) → (¬ ((f 97 x5.toNatClampNeg) / 1048576) = 1) → (¬ ((f 97 x5.toNatClampNeg) / 1048576) = 10) → (¬ ((f 97 x5.toNatClampNeg) / 1048576) = 11) → (¬ ((f 97 x5.toNatClampNeg) / 1048576) = 12) → (((f 97 x5.toNatClampNeg) / 1048576) = 5) → (¬ (f 102 ((x3 - 1).toNatClampNeg)) = 0) → vp_in (x3 - 1) 260) (p17 : (¬ x2 ≤ x5) → (¬ ((f 97 x5.toNatClampNeg) / 1048576) = 0) → (¬ ((f 97 x5.toNatClampNeg) / 1048576) = 1) → (¬ ((f 97 x5.toNatClampNeg) / 1048576) = 10) → (¬ ((f 97 x5.toNatClampNeg) / 1048576) = 11) → (¬ ((f 97 x5.toNatClampNeg) / 1048576) = 12) → (((f 97 x5.toNatClampNeg) / 1048576) = 5) → (¬ (f 102 ((x3 - 1).toNatClampNeg)) = 0) → XP G mX11_reckon (d) 0 [.int ((f 97 x5.toNatClampNeg) / 1048576), .int (f 102 (((x3 - 1) - 1).toNatClampNeg)), .int (f 102 ((x3 - 1).toNatClampNeg))] [] sw f (fun v sw' f' => XP G mX11_comesTo (d + 1) 229 [.ref 82, .int x1, .int x2, .int (x3 - 1), .int x4, .int (x5 + 1), .int ((f 97 x5.toNatClampNeg) / 1048576), .int ((f 97 x5.toNatClampNeg) - (f 97 x5.toNatClampNeg) / 1048576 * 1048576)] (retst v [.int ((x3 - 1) - 1), .ref 102]) sw' f' Q)) (p18 : (¬ x2 ≤ x5) → (¬ ((f 97 x5.toNatClampNeg) / 1048576) = 0) → (¬ ((f 97 x5.toNatClampNeg) / 1048576) = 1) → (¬ ((f 97 x5.toNatClampNeg) / 1048576) = 10) → (¬ ((f 97 x5.toNatClampNeg) / 1048576) = 11) → (¬ ((f 97 x5.toNatClampNeg) / 1048576) = 12) → (((f 97 x5.toNatClampNeg) / 1048576) = 5) → ((f 102 ((x3 - 1).toNatClampNeg)) = 0) → Q (some (.int 0)) sw f) (p19 : (¬ x2 ≤ x5) → (¬ ((f 97 x5.toNatClampNeg) / 1048576) = 0) → (¬ ((f 97 x5.toNatClampNeg) / 1048576) = 1) → (¬ ((f 97 x5.toNatClampNeg) / 1048576) = 10) → (¬ ((f 97 x5.toNatClampNeg) / 1048576) = 11) → (¬ ((f 97 x5.toNatClampNeg) / 1048576) = 12) → (¬ ((f 97 x5.toNatClampNeg) / 1048576) = 5) → (¬ ((f 97 x5.toNatClampNeg) / 1048576) = 6) → vp_in ((x3 - 1) - 1) 260) (p20 : (¬ x2 ≤ x5) → (¬ ((f 97 x5.toNatClampNeg) / 1048576) = 0) → (¬ ((f 97 x5.toNatClampNeg) / 1048576) = 1) → (¬ ((f 97 x5.toNatClampNeg) / 1048576) = 10) → (¬ ((f 97 x5.toNatClampNeg) / 1048576) = 11) → (¬ ((f 97 x5.toNatClampNeg) / 1048576) = 12) → (¬ ((f 97 x5.toNatClampNeg) / 1048576) = 5) → (¬ ((f 97 x5.toNatClampNeg) / 1048576) = 6) → vp_in (x3 - 1) 260) (p21 : (¬ x2 ≤ x5) → (¬ ((f 97 x5.toNatClampNeg) / 1048576) = 0) → (¬ ((f 97 x5.toNatClampNeg) / 1048576) = 1) → (¬ ((f 97 x5.toNatClampNeg) / 1048576) = 10) → (¬ ((f 97 x5.toNatClampNeg) / 1048576) = 11) → (¬ ((f 97 x5.toNatClampNeg) / 1048576) = 12) → (¬ ((f 97 x5.toNatClampNeg) / 1048576) = 5) → (¬ ((f 97 x5.toNatClampNeg) / 1048576) = 6) → XP G mX11_reckon (d) 0 [.int ((f 97 x5.toNatClampNeg) / 1048576), .int (f 102 (((x3 - 1) - 1).toNatClampNeg)), .int (f 102 ((x3 - 1).toNatClampNeg))] [] sw f (fun v sw' f' => XP G mX11_comesTo (d + 1) 229 [.ref 82, .int x1, .int x2, .int (x3 - 1), .int x4, .int (x5 + 1), .int ((f 97 x5.toNatClampNeg) / 1048576), .int ((f 97 x5.toNatClampNeg) - (f 97 x5.toNatClampNeg) / 1048576 * 1048576)] (retst v [.int ((x3 - 1) - 1), .ref 102]) sw' f' Q)) (p22 : (¬ x2 ≤ x5) → (¬ ((f 97 x5.toNatClampNeg) / 1048576) = 0) → (¬ ((f 97 x5.toNatClampNeg) / 1048576) = 1) → (¬ ((f 97 x5.toNatClampNeg) / 1048576) = 10) → (¬ ((f 97 x5.toNatClampNeg) / 1048576) = 11) → (¬ ((f 97 x5.toNatClampNeg) / 1048576) = 12) → (¬ ((f 97 x5.toNatClampNeg) / 1048576) = 5) → (((f 97 x5.toNatClampNeg) / 1048576) = 6) → vp_in (x3 - 1) 260) (p23 : (¬ x2 ≤ x5) → (¬ ((f 97 x5.toNatClampNeg) / 1048576) = 0) → (¬ ((f 97 x5.toNatClampNeg) / 1048576) = 1) → (¬ ((f 97 x5.toNatClampNeg) / 1048576) = 10) → (¬ ((f 97 x5.toNatClampNeg) / 1048576) = 11) → (¬ ((f 97 x5.toNatClampNeg) / 1048576) = 12) → (¬ ((f 97 x5.toNatClampNeg) / 1048576) = 5) → (((f 97 x5.toNatClampNeg) / 1048576) = 6) → (¬ (f 102 ((x3 - 1).toNatClampNeg)) = 0) → vp_in ((x3 - 1) - 1) 260) (p24 : (¬ x2 ≤ x5) → (¬ ((f 97 x5.toNatClampNeg) / 1048576) = 0) → (¬ ((f 97 x5.toNatClampNeg) / 1048576) = 1) → (¬ ((f 97 x5.toNatClampNeg) / 1048576) = 10) → (¬ ((f 97 x5.toNatClampNeg) / 1048576) = 11) → (¬ ((f 97 x5.toNatClampNeg) / 1048576) = 12) → (¬ ((f 97 x5.toNatClampNeg) / 1048576) = 5) → (((f 97 x5.toNatClampNeg) / 1048576) = 6) → (¬ (f 102 ((x3 - 1).toNatClampNeg)) = 0) → vp_in (x3 - 1) 260) (p25 : (¬ x2 ≤ x5) → (¬ ((f 97 x5.toNatClampNeg) / 1048576) = 0) → (¬ ((f 97 x5.toNatClampNeg) / 1048576) = 1) → (¬ ((f 97 x5.toNatClampNeg) / 1048576) = 10) → (¬ ((f 97 x5.toNatClampNeg) / 1048576) = 11) → (¬ ((f 97 x5.toNatClampNeg) / 1048576) = 12) → (¬ ((f 97 x5.toNatClampNeg) / 1048576) = 5) → (((f 97 x5.toNatClampNeg) / 1048576) = 6) → (¬ (f 102 ((x3 - 1).toNatClampNeg)) = 0) → XP G mX11_reckon (d) 0 [.int ((f 97 x5.toNatClampNeg) / 1048576), .int (f 102 (((x3 - 1) - 1).toNatClampNeg)), .int (f 102 ((x3 - 1).toNatClampNeg))] [] sw f (fun v sw' f' => XP G mX11_comesTo (d + 1) 229 [.ref 82, .int x1, .int x2, .int (x3 - 1), .int x4, .int (x5 + 1), .int ((f 97 x5.toNatClampNeg) / 1048576), .int ((f 97 x5.toNatClampNeg) - (f 97 x5.toNatClampNeg) / 1048576 * 1048576)] (retst v [.int ((x3 - 1) - 1), .ref 102]) sw' f' Q)) (p26 : (¬ x2 ≤ x5) → (¬ ((f 97 x5.toNatClampNeg) / 1048576) = 0) → (¬ ((f 97 x5.toNatClampNeg) / 1048576) = 1) → (¬ ((f 97 x5.toNatClampNeg) / 1048576) = 10) → (¬ ((f 97 x5.toNatClampNeg) / 1048576) = 11) → (¬ ((f 97 x5.toNatClampNeg) / 1048576) = 12) → (¬ ((f 97 x5.toNatClampNeg) / 1048576) = 5) → (((f 97 x5.toNatClampNeg) / 1048576) = 6) → ((f 102 ((x3 - 1).toNatClampNeg)) = 0) → Q (some (.int 0)) sw f) (p27 : (¬ x2 ≤ x5) → (¬ ((f 97 x5.toNatClampNeg) / 1048576) = 0) → (¬ ((f 97 x5.toNatClampNeg) / 1048576) = 1) → (¬ ((f 97 x5.toNatClampNeg) / 1048576) = 10) → (¬ ((f 97 x5.toNatClampNeg) / 1048576) = 11) → (((f 97 x5.toNatClampNeg) / 1048576) = 12) → vp_in (x3 - 1) 260) (p28 : (¬ x2 ≤ x5) → (¬ ((f 97 x5.toNatClampNeg) / 1048576) = 0) → (¬ ((f 97 x5.toNatClampNeg) / 1048576) = 1) → (¬ ((f 97 x5.toNatClampNeg) / 1048576) = 10) → (¬ ((f 97 x5.toNatClampNeg) / 1048576) = 11) → (((f 97 x5.toNatClampNeg) / 1048576) = 12) → (¬ ((f 97 x5.toNatClampNeg) / 1048576) = 12) → (¬ (f 102 ((x3 - 1).toNatClampNeg)) = 0) → XP G mX11_comesTo (d + 1) 16 [.ref 82, .int x1, .int x2, .int (x3 - 1), .int x4, .int (x5 + 1), .int ((f 97 x5.toNatClampNeg) / 1048576), .int ((f 97 x5.toNatClampNeg) - (f 97 x5.toNatClampNeg) / 1048576 * 1048576)] [] sw f Q) (p29 : (¬ x2 ≤ x5) → (¬ ((f 97 x5.toNatClampNeg) / 1048576) = 0) → (¬ ((f 97 x5.toNatClampNeg) / 1048576) = 1) → (¬ ((f 97 x5.toNatClampNeg) / 1048576) = 10) → (¬ ((f 97 x5.toNatClampNeg) / 1048576) = 11) → (((f 97 x5.toNatClampNeg) / 1048576) = 12) → (¬ ((f 97 x5.toNatClampNeg) / 1048576) = 12) → ((f 102 ((x3 - 1).toNatClampNeg)) = 0) → XP G mX11_comesTo (d + 1) 16 [.ref 82, .int x1, .int x2, .int x3, .int x4, .int (x4 + ((f 97 x5.toNatClampNeg) - (f 97 x5.toNatClampNeg) / 1048576 * 1048576)), .int ((f 97 x5.toNatClampNeg) / 1048576), .int ((f 97 x5.toNatClampNeg) - (f 97 x5.toNatClampNeg) / 1048576 * 1048576)] [] sw f Q) (p30 : (¬ x2 ≤ x5) → (¬ ((f 97 x5.toNatClampNeg) / 1048576) = 0) → (¬ ((f 97 x5.toNatClampNeg) / 1048576) = 1) → (¬ ((f 97 x5.toNatClampNeg) / 1048576) = 10) → (¬ ((f 97 x5.toNatClampNeg) / 1048576) = 11) → (((f 97 x5.toNatClampNeg) / 1048576) = 12) → (((f 97 x5.toNatClampNeg) / 1048576) = 12) → (¬ (f 102 ((x3 - 1).toNatClampNeg)) = 1) → XP G mX11_comesTo (d + 1) 16 [.ref 82, .int x1, .int x2, .int (x3 - 1), .int x4, .int (x5 + 1), .int ((f 97 x5.toNatClampNeg) / 1048576), .int ((f 97 x5.toNatClampNeg) - (f 97 x5.toNatClampNeg) / 1048576 * 1048576)] [] sw f Q) (p31 : (¬ x2 ≤ x5) → (¬ ((f 97 x5.toNatClampNeg) / 1048576) = 0) → (¬ ((f 97 x5.toNatClampNeg) / 1048576) = 1) → (¬ ((f 97 x5.toNatClampNeg) / 1048576) = 10) → (¬ ((f 97 x5.toNatClampNeg) / 1048576) = 11) → (((f 97 x5.toNatClampNeg) / 1048576) = 12) → (((f 97 x5.toNatClampNeg) / 1048576) = 12) → ((f 102 ((x3 - 1).toNatClampNeg)) = 1) → XP G mX11_comesTo (d + 1) 16 [.ref 82, .int x1, .int x2, .int x3, .int x4, .int (x4 + ((f 97 x5.toNatClampNeg) - (f 97 x5.toNatClampNeg) / 1048576 * 1048576)), .int ((f 97 x5.toNatClampNeg) / 1048576), .int ((f 97 x5.toNatClampNeg) - (f 97 x5.toNatClampNeg) / 1048576 * 1048576)] [] sw f Q) (p32 : (¬ x2 ≤ x5) → (¬ ((f 97 x5.toNatClampNeg) / 1048576) = 0) → (¬ ((f 97 x5.toNatClampNeg) / 1048576) = 1) → (((f 97 x5.toNatClampNeg) / 1048576) = 10) → vp_in (x3 - 1) 260) (p33 : (¬ x2 ≤ x5) → (¬ ((f 97 x5.toNatClampNeg) / 1048576) = 0) → (¬ ((f 97 x5.toNatClampNeg) / 1048576) = 1) → (((f 97 x5.toNatClampNeg) / 1048576) = 10) → vp_in (x3 - 1) 260) (p34 : (¬ x2 ≤ x5) → (¬ ((f 97 x5.toNatClampNeg) / 1048576) = 0) → (¬ ((f 97 x5.toNatClampNeg) / 1048576) = 1) → (((f 97 x5.toNatClampNeg) / 1048576) = 10) → XP G mX11_comesTo (d + 1) 16 [.ref 82, .int x1, .int x2, .int x3, .int x4, .int (x5 + 1), .int ((f 97 x5.toNatClampNeg) / 1048576), .int ((f 97 x5.toNatClampNeg) - (f 97 x5.toNatClampNeg) / 1048576 * 1048576)] [] sw (upd2 f 102 ((x3 - 1).toNatClampNeg) (1 - (f 102 ((x3 - 1).toNatClampNeg)))) Q) (p35 : (¬ x2 ≤ x5) → (¬ ((f 97 x5.toNatClampNeg) / 1048576) = 0) → (((f 97 x5.toNatClampNeg) / 1048576) = 1) → (¬ ((f 97 x5.toNatClampNeg) / 1048576) = 0) → vp_in ((f 97 x5.toNatClampNeg) - (f 97 x5.toNatClampNeg) / 1048576 * 1048576) 10) (p36 : (¬ x2 ≤ x5) → (¬ ((f 97 x5.toNatClampNeg) / 1048576) = 0) → (((f 97 x5.toNatClampNeg) / 1048576) = 1) → (¬ ((f 97 x5.toNatClampNeg) / 1048576) = 0) → vp_in x3 260) (p37 : (¬ x2 ≤ x5) → (¬ ((f 97 x5.toNatClampNeg) / 1048576) = 0) → (((f 97 x5.toNatClampNeg) / 1048576) = 1) → (¬ ((f 97 x5.toNatClampNeg) / 1048576) = 0) → XP G mX11_comesTo (d + 1) 16 [.ref 82, .int x1, .int x2, .int (x3 + 1), .int x4, .int (x5 + 1), .int ((f 97 x5.toNatClampNeg) / 1048576), .int ((f 97 x5.toNatClampNeg) - (f 97 x5.toNatClampNeg) / 1048576 * 1048576)] [] sw (upd2 f 102 x3.toNatClampNeg (f 103 (((f 97 x5.toNatClampNeg) - (f 97 x5.toNatClampNeg) / 1048576 * 1048576).toNatClampNeg))) Q) (p38 : (¬ x2 ≤ x5) → (¬ ((f 97 x5.toNatClampNeg) / 1048576) = 0) → (((f 97 x5.toNatClampNeg) / 1048576) = 1) → (((f 97 x5.toNatClampNeg) / 1048576) = 0) → vp_in x3 260) (p39 : (¬ x2 ≤ x5) → (¬ ((f 97 x5.toNatClampNeg) / 1048576) = 0) → (((f 97 x5.toNatClampNeg) / 1048576) = 1) → (((f 97 x5.toNatClampNeg) / 1048576) = 0) → XP G mX11_comesTo (d + 1) 16 [.ref 82, .int x1, .int x2, .int (x3 + 1), .int x4, .int (x5 + 1), .int ((f 97 x5.toNatClampNeg) / 1048576), .int ((f 97 x5.toNatClampNeg) - (f 97 x5.toNatClampNeg) / 1048576 * 1048576)] [] sw (upd2 f 102 x3.toNatClampNeg ((f 97 x5.toNatClampNeg) - (f 97 x5.toNatClampNeg) / 1048576 * 1048576)) Q) : XP G mX11_comesTo (d + 1) 16 [.ref 82, .int x1, .int x2, .int x3, .int x4, .int x5, v6, v7] [] sw f Q := by
  refine wp_iload (M := mX11_comesTo) (pc := 16) dX11_comesTo_16 rfl ?_
  refine wp_iload_n (M := mX11_comesTo) (pc := 18) dX11_comesTo_18 rfl rfl ?_
  refine wp_icmp_ge (M := mX11_comesTo) (pc := 19) (t := 233) dX11_comesTo_19 (by decide) (fun c1 => ?_) (fun c1 => ?_)
  · refine wp_aload_n (M := mX11_comesTo) (pc := 233) dX11_comesTo_233 rfl rfl ?_
    refine xs_getr (M := mX11_comesTo) (pc := 234) (r := 102) dX11_comesTo_234 fX11_68 sh82 rfl (gr82_31 sw) ?_
    refine wp_iconst (M := mX11_comesTo) (pc := 237) dX11_comesTo_237 k_iconst_0 ?_
    refine xs_iald (M := mX11_comesTo) (pc := 238) (j := 0) dX11_comesTo_238 sh102 (vin (by decide)) rfl ?_
    exact xs_iret (M := mX11_comesTo) (pc := 239) dX11_comesTo_239 rfl (p1 c1)
  · refine wp_aload_n (M := mX11_comesTo) (pc := 22) dX11_comesTo_22 rfl rfl ?_
    refine xs_getr (M := mX11_comesTo) (pc := 23) (r := 97) dX11_comesTo_23 fX11_53 sh82 rfl (gr82_26 sw) ?_
    refine wp_iload (M := mX11_comesTo) (pc := 26) dX11_comesTo_26 rfl ?_
    refine xs_iald (M := mX11_comesTo) (pc := 28) (j := x5.toNatClampNeg) dX11_comesTo_28 sh97 (p2 c1) rfl ?_
    refine wp_ldc (M := mX11_comesTo) (pc := 29) dX11_comesTo_29 kX11_178 ?_
    refine wp_idiv (M := mX11_comesTo) (pc := 31) dX11_comesTo_31 (by decide) ?_
    refine wp_istore (M := mX11_comesTo) (pc := 32) (ls' := [.ref 82, .int x1, .int x2, .int x3, .int x4, .int x5, .int ((f 97 x5.toNatClampNeg) / 1048576), v7]) dX11_comesTo_32 (by decide) rfl ?_
    refine wp_aload_n (M := mX11_comesTo) (pc := 34) dX11_comesTo_34 rfl rfl ?_
    refine xs_getr (M := mX11_comesTo) (pc := 35) (r := 97) dX11_comesTo_35 fX11_53 sh82 rfl (gr82_26 sw) ?_
    refine wp_iload (M := mX11_comesTo) (pc := 38) dX11_comesTo_38 rfl ?_
    refine xs_iald (M := mX11_comesTo) (pc := 40) (j := x5.toNatClampNeg) dX11_comesTo_40 sh97 (p3 c1) rfl ?_
    refine wp_ldc (M := mX11_comesTo) (pc := 41) dX11_comesTo_41 kX11_178 ?_
    refine wp_irem (M := mX11_comesTo) (pc := 43) dX11_comesTo_43 (by decide) ?_
    refine wp_istore (M := mX11_comesTo) (pc := 44) (ls' := [.ref 82, .int x1, .int x2, .int x3, .int x4, .int x5, .int ((f 97 x5.toNatClampNeg) / 1048576), .int ((f 97 x5.toNatClampNeg) - (f 97 x5.toNatClampNeg) / 1048576 * 1048576)]) dX11_comesTo_44 (by decide) rfl ?_
    refine wp_iload (M := mX11_comesTo) (pc := 46) dX11_comesTo_46 rfl ?_
    refine wp_iconst (M := mX11_comesTo) (pc := 48) dX11_comesTo_48 k_iconst_1 ?_
    refine wp_iadd (M := mX11_comesTo) (pc := 49) dX11_comesTo_49 ?_
    refine wp_istore (M := mX11_comesTo) (pc := 50) (ls' := [.ref 82, .int x1, .int x2, .int x3, .int x4, .int (x5 + 1), .int ((f 97 x5.toNatClampNeg) / 1048576), .int ((f 97 x5.toNatClampNeg) - (f 97 x5.toNatClampNeg) / 1048576 * 1048576)]) dX11_comesTo_50 (by decide) rfl ?_
    refine wp_iload (M := mX11_comesTo) (pc := 52) dX11_comesTo_52 rfl ?_
    refine wp_if_eq (M := mX11_comesTo) (pc := 54) (t := 63) dX11_comesTo_54 (by decide) (fun c2 => ?_) (fun c2 => ?_)
    · refine wp_aload_n (M := mX11_comesTo) (pc := 63) dX11_comesTo_63 rfl rfl ?_
      refine xs_getr (M := mX11_comesTo) (pc := 64) (r := 102) dX11_comesTo_64 fX11_68 sh82 rfl (gr82_31 sw) ?_
      refine wp_iload_n (M := mX11_comesTo) (pc := 67) dX11_comesTo_67 rfl rfl ?_
      refine wp_iload (M := mX11_comesTo) (pc := 68) dX11_comesTo_68 rfl ?_
      refine wp_if_ne (M := mX11_comesTo) (pc := 70) (t := 78) dX11_comesTo_70 (by decide) (fun c3 => ?_) (fun c3 => ?_)
      · refine wp_aload_n (M := mX11_comesTo) (pc := 78) dX11_comesTo_78 rfl rfl ?_
        refine xs_getr (M := mX11_comesTo) (pc := 79) (r := 103) dX11_comesTo_79 fX11_71 sh82 rfl (gr82_32 sw) ?_
        refine wp_iload (M := mX11_comesTo) (pc := 82) dX11_comesTo_82 rfl ?_
        refine xs_iald (M := mX11_comesTo) (pc := 84) (j := ((f 97 x5.toNatClampNeg) - (f 97 x5.toNatClampNeg) / 1048576 * 1048576).toNatClampNeg) dX11_comesTo_84 sh103 (p4 c1 c2 c3) rfl ?_
        refine xs_iast (M := mX11_comesTo) (pc := 85) (j := x3.toNatClampNeg) dX11_comesTo_85 sh102 (p5 c1 c2 c3) rfl ?_
        refine wp_iload_n (M := mX11_comesTo) (pc := 86) dX11_comesTo_86 rfl rfl ?_
        refine wp_iconst (M := mX11_comesTo) (pc := 87) dX11_comesTo_87 k_iconst_1 ?_
        refine wp_iadd (M := mX11_comesTo) (pc := 88) dX11_comesTo_88 ?_
        refine wp_istore_n (M := mX11_comesTo) (pc := 89) (ls' := [.ref 82, .int x1, .int x2, .int (x3 + 1), .int x4, .int (x5 + 1), .int ((f 97 x5.toNatClampNeg) / 1048576), .int ((f 97 x5.toNatClampNeg) - (f 97 x5.toNatClampNeg) / 1048576 * 1048576)]) dX11_comesTo_89 rfl (by decide) rfl ?_
        refine wp_goto (M := mX11_comesTo) (pc := 90) (t := 230) dX11_comesTo_90 (by decide) ?_
        refine wp_goto (M := mX11_comesTo) (pc := 230) (t := 16) dX11_comesTo_230 (by decide) ?_
        exact p6 c1 c2 c3
      · refine wp_iload (M := mX11_comesTo) (pc := 73) dX11_comesTo_73 rfl ?_
        refine wp_goto (M := mX11_comesTo) (pc := 75) (t := 85) dX11_comesTo_75 (by decide) ?_
        refine xs_iast (M := mX11_comesTo) (pc := 85) (j := x3.toNatClampNeg) dX11_comesTo_85 sh102 (p7 c1 c2 c3) rfl ?_
        refine wp_iload_n (M := mX11_comesTo) (pc := 86) dX11_comesTo_86 rfl rfl ?_
        refine wp_iconst (M := mX11_comesTo) (pc := 87) dX11_comesTo_87 k_iconst_1 ?_
        refine wp_iadd (M := mX11_comesTo) (pc := 88) dX11_comesTo_88 ?_
        refine wp_istore_n (M := mX11_comesTo) (pc := 89) (ls' := [.ref 82, .int x1, .int x2, .int (x3 + 1), .int x4, .int (x5 + 1), .int ((f 97 x5.toNatClampNeg) / 1048576), .int ((f 97 x5.toNatClampNeg) - (f 97 x5.toNatClampNeg) / 1048576 * 1048576)]) dX11_comesTo_89 rfl (by decide) rfl ?_
        refine wp_goto (M := mX11_comesTo) (pc := 90) (t := 230) dX11_comesTo_90 (by decide) ?_
        refine wp_goto (M := mX11_comesTo) (pc := 230) (t := 16) dX11_comesTo_230 (by decide) ?_
        exact p8 c1 c2 c3
    · refine wp_iload (M := mX11_comesTo) (pc := 57) dX11_comesTo_57 rfl ?_
      refine wp_iconst (M := mX11_comesTo) (pc := 59) dX11_comesTo_59 k_iconst_1 ?_
      refine wp_icmp_ne (M := mX11_comesTo) (pc := 60) (t := 93) dX11_comesTo_60 (by decide) (fun c4 => ?_) (fun c4 => ?_)
      · refine wp_iload (M := mX11_comesTo) (pc := 93) dX11_comesTo_93 rfl ?_
        refine wp_bipush (M := mX11_comesTo) (pc := 95) dX11_comesTo_95 k_bipush_10 ?_
        refine wp_icmp_ne (M := mX11_comesTo) (pc := 97) (t := 121) dX11_comesTo_97 (by decide) (fun c5 => ?_) (fun c5 => ?_)
        · refine wp_iload (M := mX11_comesTo) (pc := 121) dX11_comesTo_121 rfl ?_
          refine wp_bipush (M := mX11_comesTo) (pc := 123) dX11_comesTo_123 k_bipush_11 ?_
          refine wp_icmp_eq (M := mX11_comesTo) (pc := 125) (t := 135) dX11_comesTo_125 (by decide) (fun c6 => ?_) (fun c6 => ?_)
          · refine wp_aload_n (M := mX11_comesTo) (pc := 135) dX11_comesTo_135 rfl rfl ?_
            refine xs_getr (M := mX11_comesTo) (pc := 136) (r := 102) dX11_comesTo_136 fX11_68 sh82 rfl (gr82_31 sw) ?_
            refine wp_iload_n (M := mX11_comesTo) (pc := 139) dX11_comesTo_139 rfl rfl ?_
            refine wp_iconst (M := mX11_comesTo) (pc := 140) dX11_comesTo_140 k_iconst_1 ?_
            refine wp_isub (M := mX11_comesTo) (pc := 141) dX11_comesTo_141 ?_
            refine xs_iald (M := mX11_comesTo) (pc := 142) (j := (x3 - 1).toNatClampNeg) dX11_comesTo_142 sh102 (p9 c1 c2 c4 c5 c6) rfl ?_
            refine wp_iload (M := mX11_comesTo) (pc := 143) dX11_comesTo_143 rfl ?_
            refine wp_bipush (M := mX11_comesTo) (pc := 145) dX11_comesTo_145 k_bipush_12 ?_
            refine wp_icmp_ne (M := mX11_comesTo) (pc := 147) (t := 154) dX11_comesTo_147 (by decide) (fun c7 => ?_) (fun c7 => ?_)
            · refine wp_iconst (M := mX11_comesTo) (pc := 154) dX11_comesTo_154 k_iconst_0 ?_
              refine wp_icmp_ne (M := mX11_comesTo) (pc := 155) (t := 168) dX11_comesTo_155 (by decide) (fun c8 => ?_) (fun c8 => ?_)
              · refine wp_iload_n (M := mX11_comesTo) (pc := 168) dX11_comesTo_168 rfl rfl ?_
                refine wp_iconst (M := mX11_comesTo) (pc := 169) dX11_comesTo_169 k_iconst_1 ?_
                refine wp_isub (M := mX11_comesTo) (pc := 170) dX11_comesTo_170 ?_
                refine wp_istore_n (M := mX11_comesTo) (pc := 171) (ls' := [.ref 82, .int x1, .int x2, .int (x3 - 1), .int x4, .int (x5 + 1), .int ((f 97 x5.toNatClampNeg) / 1048576), .int ((f 97 x5.toNatClampNeg) - (f 97 x5.toNatClampNeg) / 1048576 * 1048576)]) dX11_comesTo_171 rfl (by decide) rfl ?_
                refine wp_goto (M := mX11_comesTo) (pc := 172) (t := 230) dX11_comesTo_172 (by decide) ?_
                refine wp_goto (M := mX11_comesTo) (pc := 230) (t := 16) dX11_comesTo_230 (by decide) ?_
                exact p10 c1 c2 c4 c5 c6 c7 c8
              · refine wp_iload (M := mX11_comesTo) (pc := 158) dX11_comesTo_158 rfl ?_
                refine wp_iload (M := mX11_comesTo) (pc := 160) dX11_comesTo_160 rfl ?_
                refine wp_iadd (M := mX11_comesTo) (pc := 162) dX11_comesTo_162 ?_
                refine wp_istore (M := mX11_comesTo) (pc := 163) (ls' := [.ref 82, .int x1, .int x2, .int x3, .int x4, .int (x4 + ((f 97 x5.toNatClampNeg) - (f 97 x5.toNatClampNeg) / 1048576 * 1048576)), .int ((f 97 x5.toNatClampNeg) / 1048576), .int ((f 97 x5.toNatClampNeg) - (f 97 x5.toNatClampNeg) / 1048576 * 1048576)]) dX11_comesTo_163 (by decide) rfl ?_
                refine wp_goto (M := mX11_comesTo) (pc := 165) (t := 230) dX11_comesTo_165 (by decide) ?_
                refine wp_goto (M := mX11_comesTo) (pc := 230) (t := 16) dX11_comesTo_230 (by decide) ?_
                exact p11 c1 c2 c4 c5 c6 c7 c8
            · refine wp_iconst (M := mX11_comesTo) (pc := 150) dX11_comesTo_150 k_iconst_1 ?_
              refine wp_goto (M := mX11_comesTo) (pc := 151) (t := 155) dX11_comesTo_151 (by decide) ?_
              refine wp_icmp_ne (M := mX11_comesTo) (pc := 155) (t := 168) dX11_comesTo_155 (by decide) (fun c9 => ?_) (fun c9 => ?_)
              · refine wp_iload_n (M := mX11_comesTo) (pc := 168) dX11_comesTo_168 rfl rfl ?_
                refine wp_iconst (M := mX11_comesTo) (pc := 169) dX11_comesTo_169 k_iconst_1 ?_
                refine wp_isub (M := mX11_comesTo) (pc := 170) dX11_comesTo_170 ?_
                refine wp_istore_n (M := mX11_comesTo) (pc := 171) (ls' := [.ref 82, .int x1, .int x2, .int (x3 - 1), .int x4, .int (x5 + 1), .int ((f 97 x5.toNatClampNeg) / 1048576), .int ((f 97 x5.toNatClampNeg) - (f 97 x5.toNatClampNeg) / 1048576 * 1048576)]) dX11_comesTo_171 rfl (by decide) rfl ?_
                refine wp_goto (M := mX11_comesTo) (pc := 172) (t := 230) dX11_comesTo_172 (by decide) ?_
                refine wp_goto (M := mX11_comesTo) (pc := 230) (t := 16) dX11_comesTo_230 (by decide) ?_
                exact p12 c1 c2 c4 c5 c6 c7 c9
              · refine wp_iload (M := mX11_comesTo) (pc := 158) dX11_comesTo_158 rfl ?_
                refine wp_iload (M := mX11_comesTo) (pc := 160) dX11_comesTo_160 rfl ?_
                refine wp_iadd (M := mX11_comesTo) (pc := 162) dX11_comesTo_162 ?_
                refine wp_istore (M := mX11_comesTo) (pc := 163) (ls' := [.ref 82, .int x1, .int x2, .int x3, .int x4, .int (x4 + ((f 97 x5.toNatClampNeg) - (f 97 x5.toNatClampNeg) / 1048576 * 1048576)), .int ((f 97 x5.toNatClampNeg) / 1048576), .int ((f 97 x5.toNatClampNeg) - (f 97 x5.toNatClampNeg) / 1048576 * 1048576)]) dX11_comesTo_163 (by decide) rfl ?_
                refine wp_goto (M := mX11_comesTo) (pc := 165) (t := 230) dX11_comesTo_165 (by decide) ?_
                refine wp_goto (M := mX11_comesTo) (pc := 230) (t := 16) dX11_comesTo_230 (by decide) ?_
                exact p13 c1 c2 c4 c5 c6 c7 c9
          · refine wp_iload (M := mX11_comesTo) (pc := 128) dX11_comesTo_128 rfl ?_
            refine wp_bipush (M := mX11_comesTo) (pc := 130) dX11_comesTo_130 k_bipush_12 ?_
            refine wp_icmp_ne (M := mX11_comesTo) (pc := 132) (t := 175) dX11_comesTo_132 (by decide) (fun c10 => ?_) (fun c10 => ?_)
            · refine wp_iload_n (M := mX11_comesTo) (pc := 175) dX11_comesTo_175 rfl rfl ?_
              refine wp_iconst (M := mX11_comesTo) (pc := 176) dX11_comesTo_176 k_iconst_1 ?_
              refine wp_isub (M := mX11_comesTo) (pc := 177) dX11_comesTo_177 ?_
              refine wp_istore_n (M := mX11_comesTo) (pc := 178) (ls' := [.ref 82, .int x1, .int x2, .int (x3 - 1), .int x4, .int (x5 + 1), .int ((f 97 x5.toNatClampNeg) / 1048576), .int ((f 97 x5.toNatClampNeg) - (f 97 x5.toNatClampNeg) / 1048576 * 1048576)]) dX11_comesTo_178 rfl (by decide) rfl ?_
              refine wp_iload (M := mX11_comesTo) (pc := 179) dX11_comesTo_179 rfl ?_
              refine wp_iconst (M := mX11_comesTo) (pc := 181) dX11_comesTo_181 k_iconst_5 ?_
              refine wp_icmp_eq (M := mX11_comesTo) (pc := 182) (t := 192) dX11_comesTo_182 (by decide) (fun c11 => ?_) (fun c11 => ?_)
              · refine wp_aload_n (M := mX11_comesTo) (pc := 192) dX11_comesTo_192 rfl rfl ?_
                refine xs_getr (M := mX11_comesTo) (pc := 193) (r := 102) dX11_comesTo_193 fX11_68 sh82 rfl (gr82_31 sw) ?_
                refine wp_iload_n (M := mX11_comesTo) (pc := 196) dX11_comesTo_196 rfl rfl ?_
                refine xs_iald (M := mX11_comesTo) (pc := 197) (j := (x3 - 1).toNatClampNeg) dX11_comesTo_197 sh102 (p14 c1 c2 c4 c5 c6 c10 c11) rfl ?_
                refine wp_if_ne (M := mX11_comesTo) (pc := 198) (t := 203) dX11_comesTo_198 (by decide) (fun c12 => ?_) (fun c12 => ?_)
                · refine wp_aload_n (M := mX11_comesTo) (pc := 203) dX11_comesTo_203 rfl rfl ?_
                  refine xs_getr (M := mX11_comesTo) (pc := 204) (r := 102) dX11_comesTo_204 fX11_68 sh82 rfl (gr82_31 sw) ?_
                  refine wp_iload_n (M := mX11_comesTo) (pc := 207) dX11_comesTo_207 rfl rfl ?_
                  refine wp_iconst (M := mX11_comesTo) (pc := 208) dX11_comesTo_208 k_iconst_1 ?_
                  refine wp_isub (M := mX11_comesTo) (pc := 209) dX11_comesTo_209 ?_
                  refine wp_iload (M := mX11_comesTo) (pc := 210) dX11_comesTo_210 rfl ?_
                  refine wp_aload_n (M := mX11_comesTo) (pc := 212) dX11_comesTo_212 rfl rfl ?_
                  refine xs_getr (M := mX11_comesTo) (pc := 213) (r := 102) dX11_comesTo_213 fX11_68 sh82 rfl (gr82_31 sw) ?_
                  refine wp_iload_n (M := mX11_comesTo) (pc := 216) dX11_comesTo_216 rfl rfl ?_
                  refine wp_iconst (M := mX11_comesTo) (pc := 217) dX11_comesTo_217 k_iconst_1 ?_
                  refine wp_isub (M := mX11_comesTo) (pc := 218) dX11_comesTo_218 ?_
                  refine xs_iald (M := mX11_comesTo) (pc := 219) (j := ((x3 - 1) - 1).toNatClampNeg) dX11_comesTo_219 sh102 (p15 c1 c2 c4 c5 c6 c10 c11 c12) rfl ?_
                  refine wp_aload_n (M := mX11_comesTo) (pc := 220) dX11_comesTo_220 rfl rfl ?_
                  refine xs_getr (M := mX11_comesTo) (pc := 221) (r := 102) dX11_comesTo_221 fX11_68 sh82 rfl (gr82_31 sw) ?_
                  refine wp_iload_n (M := mX11_comesTo) (pc := 224) dX11_comesTo_224 rfl rfl ?_
                  refine xs_iald (M := mX11_comesTo) (pc := 225) (j := (x3 - 1).toNatClampNeg) dX11_comesTo_225 sh102 (p16 c1 c2 c4 c5 c6 c10 c11 c12) rfl ?_
                  refine xs_callS (d := d) (M := mX11_comesTo) (pc := 226) (As := [.int ((f 97 x5.toNatClampNeg) / 1048576), .int (f 102 (((x3 - 1) - 1).toNatClampNeg)), .int (f 102 ((x3 - 1).toNatClampNeg))]) (st := [.int ((x3 - 1) - 1), .ref 102]) (ls' := [.int ((f 97 x5.toNatClampNeg) / 1048576), .int (f 102 (((x3 - 1) - 1).toNatClampNeg)), .int (f 102 ((x3 - 1).toNatClampNeg))]) dX11_comesTo_226 oX11_reckon nX11_reckon lX11_247 tX11_reckon (Nat.le_of_ble_eq_true rfl) rfl (Nat.le_of_ble_eq_true rfl) rfl ?_
                  exact p17 c1 c2 c4 c5 c6 c10 c11 c12
                · refine wp_iconst (M := mX11_comesTo) (pc := 201) dX11_comesTo_201 k_iconst_0 ?_
                  exact xs_iret (M := mX11_comesTo) (pc := 202) dX11_comesTo_202 rfl (p18 c1 c2 c4 c5 c6 c10 c11 c12)
              · refine wp_iload (M := mX11_comesTo) (pc := 185) dX11_comesTo_185 rfl ?_
                refine wp_bipush (M := mX11_comesTo) (pc := 187) dX11_comesTo_187 k_bipush_6 ?_
                refine wp_icmp_ne (M := mX11_comesTo) (pc := 189) (t := 203) dX11_comesTo_189 (by decide) (fun c13 => ?_) (fun c13 => ?_)
                · refine wp_aload_n (M := mX11_comesTo) (pc := 203) dX11_comesTo_203 rfl rfl ?_
                  refine xs_getr (M := mX11_comesTo) (pc := 204) (r := 102) dX11_comesTo_204 fX11_68 sh82 rfl (gr82_31 sw) ?_
                  refine wp_iload_n (M := mX11_comesTo) (pc := 207) dX11_comesTo_207 rfl rfl ?_
                  refine wp_iconst (M := mX11_comesTo) (pc := 208) dX11_comesTo_208 k_iconst_1 ?_
                  refine wp_isub (M := mX11_comesTo) (pc := 209) dX11_comesTo_209 ?_
                  refine wp_iload (M := mX11_comesTo) (pc := 210) dX11_comesTo_210 rfl ?_
                  refine wp_aload_n (M := mX11_comesTo) (pc := 212) dX11_comesTo_212 rfl rfl ?_
                  refine xs_getr (M := mX11_comesTo) (pc := 213) (r := 102) dX11_comesTo_213 fX11_68 sh82 rfl (gr82_31 sw) ?_
                  refine wp_iload_n (M := mX11_comesTo) (pc := 216) dX11_comesTo_216 rfl rfl ?_
                  refine wp_iconst (M := mX11_comesTo) (pc := 217) dX11_comesTo_217 k_iconst_1 ?_
                  refine wp_isub (M := mX11_comesTo) (pc := 218) dX11_comesTo_218 ?_
                  refine xs_iald (M := mX11_comesTo) (pc := 219) (j := ((x3 - 1) - 1).toNatClampNeg) dX11_comesTo_219 sh102 (p19 c1 c2 c4 c5 c6 c10 c11 c13) rfl ?_
                  refine wp_aload_n (M := mX11_comesTo) (pc := 220) dX11_comesTo_220 rfl rfl ?_
                  refine xs_getr (M := mX11_comesTo) (pc := 221) (r := 102) dX11_comesTo_221 fX11_68 sh82 rfl (gr82_31 sw) ?_
                  refine wp_iload_n (M := mX11_comesTo) (pc := 224) dX11_comesTo_224 rfl rfl ?_
                  refine xs_iald (M := mX11_comesTo) (pc := 225) (j := (x3 - 1).toNatClampNeg) dX11_comesTo_225 sh102 (p20 c1 c2 c4 c5 c6 c10 c11 c13) rfl ?_
                  refine xs_callS (d := d) (M := mX11_comesTo) (pc := 226) (As := [.int ((f 97 x5.toNatClampNeg) / 1048576), .int (f 102 (((x3 - 1) - 1).toNatClampNeg)), .int (f 102 ((x3 - 1).toNatClampNeg))]) (st := [.int ((x3 - 1) - 1), .ref 102]) (ls' := [.int ((f 97 x5.toNatClampNeg) / 1048576), .int (f 102 (((x3 - 1) - 1).toNatClampNeg)), .int (f 102 ((x3 - 1).toNatClampNeg))]) dX11_comesTo_226 oX11_reckon nX11_reckon lX11_247 tX11_reckon (Nat.le_of_ble_eq_true rfl) rfl (Nat.le_of_ble_eq_true rfl) rfl ?_
                  exact p21 c1 c2 c4 c5 c6 c10 c11 c13
                · refine wp_aload_n (M := mX11_comesTo) (pc := 192) dX11_comesTo_192 rfl rfl ?_
                  refine xs_getr (M := mX11_comesTo) (pc := 193) (r := 102) dX11_comesTo_193 fX11_68 sh82 rfl (gr82_31 sw) ?_
                  refine wp_iload_n (M := mX11_comesTo) (pc := 196) dX11_comesTo_196 rfl rfl ?_
                  refine xs_iald (M := mX11_comesTo) (pc := 197) (j := (x3 - 1).toNatClampNeg) dX11_comesTo_197 sh102 (p22 c1 c2 c4 c5 c6 c10 c11 c13) rfl ?_
                  refine wp_if_ne (M := mX11_comesTo) (pc := 198) (t := 203) dX11_comesTo_198 (by decide) (fun c14 => ?_) (fun c14 => ?_)
                  · refine wp_aload_n (M := mX11_comesTo) (pc := 203) dX11_comesTo_203 rfl rfl ?_
                    refine xs_getr (M := mX11_comesTo) (pc := 204) (r := 102) dX11_comesTo_204 fX11_68 sh82 rfl (gr82_31 sw) ?_
                    refine wp_iload_n (M := mX11_comesTo) (pc := 207) dX11_comesTo_207 rfl rfl ?_
                    refine wp_iconst (M := mX11_comesTo) (pc := 208) dX11_comesTo_208 k_iconst_1 ?_
                    refine wp_isub (M := mX11_comesTo) (pc := 209) dX11_comesTo_209 ?_
                    refine wp_iload (M := mX11_comesTo) (pc := 210) dX11_comesTo_210 rfl ?_
                    refine wp_aload_n (M := mX11_comesTo) (pc := 212) dX11_comesTo_212 rfl rfl ?_
                    refine xs_getr (M := mX11_comesTo) (pc := 213) (r := 102) dX11_comesTo_213 fX11_68 sh82 rfl (gr82_31 sw) ?_
                    refine wp_iload_n (M := mX11_comesTo) (pc := 216) dX11_comesTo_216 rfl rfl ?_
                    refine wp_iconst (M := mX11_comesTo) (pc := 217) dX11_comesTo_217 k_iconst_1 ?_
                    refine wp_isub (M := mX11_comesTo) (pc := 218) dX11_comesTo_218 ?_
                    refine xs_iald (M := mX11_comesTo) (pc := 219) (j := ((x3 - 1) - 1).toNatClampNeg) dX11_comesTo_219 sh102 (p23 c1 c2 c4 c5 c6 c10 c11 c13 c14) rfl ?_
                    refine wp_aload_n (M := mX11_comesTo) (pc := 220) dX11_comesTo_220 rfl rfl ?_
                    refine xs_getr (M := mX11_comesTo) (pc := 221) (r := 102) dX11_comesTo_221 fX11_68 sh82 rfl (gr82_31 sw) ?_
                    refine wp_iload_n (M := mX11_comesTo) (pc := 224) dX11_comesTo_224 rfl rfl ?_
                    refine xs_iald (M := mX11_comesTo) (pc := 225) (j := (x3 - 1).toNatClampNeg) dX11_comesTo_225 sh102 (p24 c1 c2 c4 c5 c6 c10 c11 c13 c14) rfl ?_
                    refine xs_callS (d := d) (M := mX11_comesTo) (pc := 226) (As := [.int ((f 97 x5.toNatClampNeg) / 1048576), .int (f 102 (((x3 - 1) - 1).toNatClampNeg)), .int (f 102 ((x3 - 1).toNatClampNeg))]) (st := [.int ((x3 - 1) - 1), .ref 102]) (ls' := [.int ((f 97 x5.toNatClampNeg) / 1048576), .int (f 102 (((x3 - 1) - 1).toNatClampNeg)), .int (f 102 ((x3 - 1).toNatClampNeg))]) dX11_comesTo_226 oX11_reckon nX11_reckon lX11_247 tX11_reckon (Nat.le_of_ble_eq_true rfl) rfl (Nat.le_of_ble_eq_true rfl) rfl ?_
                    exact p25 c1 c2 c4 c5 c6 c10 c11 c13 c14
                  · refine wp_iconst (M := mX11_comesTo) (pc := 201) dX11_comesTo_201 k_iconst_0 ?_
                    exact xs_iret (M := mX11_comesTo) (pc := 202) dX11_comesTo_202 rfl (p26 c1 c2 c4 c5 c6 c10 c11 c13 c14)
            · refine wp_aload_n (M := mX11_comesTo) (pc := 135) dX11_comesTo_135 rfl rfl ?_
              refine xs_getr (M := mX11_comesTo) (pc := 136) (r := 102) dX11_comesTo_136 fX11_68 sh82 rfl (gr82_31 sw) ?_
              refine wp_iload_n (M := mX11_comesTo) (pc := 139) dX11_comesTo_139 rfl rfl ?_
              refine wp_iconst (M := mX11_comesTo) (pc := 140) dX11_comesTo_140 k_iconst_1 ?_
              refine wp_isub (M := mX11_comesTo) (pc := 141) dX11_comesTo_141 ?_
              refine xs_iald (M := mX11_comesTo) (pc := 142) (j := (x3 - 1).toNatClampNeg) dX11_comesTo_142 sh102 (p27 c1 c2 c4 c5 c6 c10) rfl ?_
              refine wp_iload (M := mX11_comesTo) (pc := 143) dX11_comesTo_143 rfl ?_
              refine wp_bipush (M := mX11_comesTo) (pc := 145) dX11_comesTo_145 k_bipush_12 ?_
              refine wp_icmp_ne (M := mX11_comesTo) (pc := 147) (t := 154) dX11_comesTo_147 (by decide) (fun c15 => ?_) (fun c15 => ?_)
              · refine wp_iconst (M := mX11_comesTo) (pc := 154) dX11_comesTo_154 k_iconst_0 ?_
                refine wp_icmp_ne (M := mX11_comesTo) (pc := 155) (t := 168) dX11_comesTo_155 (by decide) (fun c16 => ?_) (fun c16 => ?_)
                · refine wp_iload_n (M := mX11_comesTo) (pc := 168) dX11_comesTo_168 rfl rfl ?_
                  refine wp_iconst (M := mX11_comesTo) (pc := 169) dX11_comesTo_169 k_iconst_1 ?_
                  refine wp_isub (M := mX11_comesTo) (pc := 170) dX11_comesTo_170 ?_
                  refine wp_istore_n (M := mX11_comesTo) (pc := 171) (ls' := [.ref 82, .int x1, .int x2, .int (x3 - 1), .int x4, .int (x5 + 1), .int ((f 97 x5.toNatClampNeg) / 1048576), .int ((f 97 x5.toNatClampNeg) - (f 97 x5.toNatClampNeg) / 1048576 * 1048576)]) dX11_comesTo_171 rfl (by decide) rfl ?_
                  refine wp_goto (M := mX11_comesTo) (pc := 172) (t := 230) dX11_comesTo_172 (by decide) ?_
                  refine wp_goto (M := mX11_comesTo) (pc := 230) (t := 16) dX11_comesTo_230 (by decide) ?_
                  exact p28 c1 c2 c4 c5 c6 c10 c15 c16
                · refine wp_iload (M := mX11_comesTo) (pc := 158) dX11_comesTo_158 rfl ?_
                  refine wp_iload (M := mX11_comesTo) (pc := 160) dX11_comesTo_160 rfl ?_
                  refine wp_iadd (M := mX11_comesTo) (pc := 162) dX11_comesTo_162 ?_
                  refine wp_istore (M := mX11_comesTo) (pc := 163) (ls' := [.ref 82, .int x1, .int x2, .int x3, .int x4, .int (x4 + ((f 97 x5.toNatClampNeg) - (f 97 x5.toNatClampNeg) / 1048576 * 1048576)), .int ((f 97 x5.toNatClampNeg) / 1048576), .int ((f 97 x5.toNatClampNeg) - (f 97 x5.toNatClampNeg) / 1048576 * 1048576)]) dX11_comesTo_163 (by decide) rfl ?_
                  refine wp_goto (M := mX11_comesTo) (pc := 165) (t := 230) dX11_comesTo_165 (by decide) ?_
                  refine wp_goto (M := mX11_comesTo) (pc := 230) (t := 16) dX11_comesTo_230 (by decide) ?_
                  exact p29 c1 c2 c4 c5 c6 c10 c15 c16
              · refine wp_iconst (M := mX11_comesTo) (pc := 150) dX11_comesTo_150 k_iconst_1 ?_
                refine wp_goto (M := mX11_comesTo) (pc := 151) (t := 155) dX11_comesTo_151 (by decide) ?_
                refine wp_icmp_ne (M := mX11_comesTo) (pc := 155) (t := 168) dX11_comesTo_155 (by decide) (fun c17 => ?_) (fun c17 => ?_)
                · refine wp_iload_n (M := mX11_comesTo) (pc := 168) dX11_comesTo_168 rfl rfl ?_
                  refine wp_iconst (M := mX11_comesTo) (pc := 169) dX11_comesTo_169 k_iconst_1 ?_
                  refine wp_isub (M := mX11_comesTo) (pc := 170) dX11_comesTo_170 ?_
                  refine wp_istore_n (M := mX11_comesTo) (pc := 171) (ls' := [.ref 82, .int x1, .int x2, .int (x3 - 1), .int x4, .int (x5 + 1), .int ((f 97 x5.toNatClampNeg) / 1048576), .int ((f 97 x5.toNatClampNeg) - (f 97 x5.toNatClampNeg) / 1048576 * 1048576)]) dX11_comesTo_171 rfl (by decide) rfl ?_
                  refine wp_goto (M := mX11_comesTo) (pc := 172) (t := 230) dX11_comesTo_172 (by decide) ?_
                  refine wp_goto (M := mX11_comesTo) (pc := 230) (t := 16) dX11_comesTo_230 (by decide) ?_
                  exact p30 c1 c2 c4 c5 c6 c10 c15 c17
                · refine wp_iload (M := mX11_comesTo) (pc := 158) dX11_comesTo_158 rfl ?_
                  refine wp_iload (M := mX11_comesTo) (pc := 160) dX11_comesTo_160 rfl ?_
                  refine wp_iadd (M := mX11_comesTo) (pc := 162) dX11_comesTo_162 ?_
                  refine wp_istore (M := mX11_comesTo) (pc := 163) (ls' := [.ref 82, .int x1, .int x2, .int x3, .int x4, .int (x4 + ((f 97 x5.toNatClampNeg) - (f 97 x5.toNatClampNeg) / 1048576 * 1048576)), .int ((f 97 x5.toNatClampNeg) / 1048576), .int ((f 97 x5.toNatClampNeg) - (f 97 x5.toNatClampNeg) / 1048576 * 1048576)]) dX11_comesTo_163 (by decide) rfl ?_
                  refine wp_goto (M := mX11_comesTo) (pc := 165) (t := 230) dX11_comesTo_165 (by decide) ?_
                  refine wp_goto (M := mX11_comesTo) (pc := 230) (t := 16) dX11_comesTo_230 (by decide) ?_
                  exact p31 c1 c2 c4 c5 c6 c10 c15 c17
        · refine wp_aload_n (M := mX11_comesTo) (pc := 100) dX11_comesTo_100 rfl rfl ?_
          refine xs_getr (M := mX11_comesTo) (pc := 101) (r := 102) dX11_comesTo_101 fX11_68 sh82 rfl (gr82_31 sw) ?_
          refine wp_iload_n (M := mX11_comesTo) (pc := 104) dX11_comesTo_104 rfl rfl ?_
          refine wp_iconst (M := mX11_comesTo) (pc := 105) dX11_comesTo_105 k_iconst_1 ?_
          refine wp_isub (M := mX11_comesTo) (pc := 106) dX11_comesTo_106 ?_
          refine wp_iconst (M := mX11_comesTo) (pc := 107) dX11_comesTo_107 k_iconst_1 ?_
          refine wp_aload_n (M := mX11_comesTo) (pc := 108) dX11_comesTo_108 rfl rfl ?_
          refine xs_getr (M := mX11_comesTo) (pc := 109) (r := 102) dX11_comesTo_109 fX11_68 sh82 rfl (gr82_31 sw) ?_
          refine wp_iload_n (M := mX11_comesTo) (pc := 112) dX11_comesTo_112 rfl rfl ?_
          refine wp_iconst (M := mX11_comesTo) (pc := 113) dX11_comesTo_113 k_iconst_1 ?_
          refine wp_isub (M := mX11_comesTo) (pc := 114) dX11_comesTo_114 ?_
          refine xs_iald (M := mX11_comesTo) (pc := 115) (j := (x3 - 1).toNatClampNeg) dX11_comesTo_115 sh102 (p32 c1 c2 c4 c5) rfl ?_
          refine wp_isub (M := mX11_comesTo) (pc := 116) dX11_comesTo_116 ?_
          refine xs_iast (M := mX11_comesTo) (pc := 117) (j := (x3 - 1).toNatClampNeg) dX11_comesTo_117 sh102 (p33 c1 c2 c4 c5) rfl ?_
          refine wp_goto (M := mX11_comesTo) (pc := 118) (t := 230) dX11_comesTo_118 (by decide) ?_
          refine wp_goto (M := mX11_comesTo) (pc := 230) (t := 16) dX11_comesTo_230 (by decide) ?_
          exact p34 c1 c2 c4 c5
      · refine wp_aload_n (M := mX11_comesTo) (pc := 63) dX11_comesTo_63 rfl rfl ?_
        refine xs_getr (M := mX11_comesTo) (pc := 64) (r := 102) dX11_comesTo_64 fX11_68 sh82 rfl (gr82_31 sw) ?_
        refine wp_iload_n (M := mX11_comesTo) (pc := 67) dX11_comesTo_67 rfl rfl ?_
        refine wp_iload (M := mX11_comesTo) (pc := 68) dX11_comesTo_68 rfl ?_
        refine wp_if_ne (M := mX11_comesTo) (pc := 70) (t := 78) dX11_comesTo_70 (by decide) (fun c18 => ?_) (fun c18 => ?_)
        · refine wp_aload_n (M := mX11_comesTo) (pc := 78) dX11_comesTo_78 rfl rfl ?_
          refine xs_getr (M := mX11_comesTo) (pc := 79) (r := 103) dX11_comesTo_79 fX11_71 sh82 rfl (gr82_32 sw) ?_
          refine wp_iload (M := mX11_comesTo) (pc := 82) dX11_comesTo_82 rfl ?_
          refine xs_iald (M := mX11_comesTo) (pc := 84) (j := ((f 97 x5.toNatClampNeg) - (f 97 x5.toNatClampNeg) / 1048576 * 1048576).toNatClampNeg) dX11_comesTo_84 sh103 (p35 c1 c2 c4 c18) rfl ?_
          refine xs_iast (M := mX11_comesTo) (pc := 85) (j := x3.toNatClampNeg) dX11_comesTo_85 sh102 (p36 c1 c2 c4 c18) rfl ?_
          refine wp_iload_n (M := mX11_comesTo) (pc := 86) dX11_comesTo_86 rfl rfl ?_
          refine wp_iconst (M := mX11_comesTo) (pc := 87) dX11_comesTo_87 k_iconst_1 ?_
          refine wp_iadd (M := mX11_comesTo) (pc := 88) dX11_comesTo_88 ?_
          refine wp_istore_n (M := mX11_comesTo) (pc := 89) (ls' := [.ref 82, .int x1, .int x2, .int (x3 + 1), .int x4, .int (x5 + 1), .int ((f 97 x5.toNatClampNeg) / 1048576), .int ((f 97 x5.toNatClampNeg) - (f 97 x5.toNatClampNeg) / 1048576 * 1048576)]) dX11_comesTo_89 rfl (by decide) rfl ?_
          refine wp_goto (M := mX11_comesTo) (pc := 90) (t := 230) dX11_comesTo_90 (by decide) ?_
          refine wp_goto (M := mX11_comesTo) (pc := 230) (t := 16) dX11_comesTo_230 (by decide) ?_
          exact p37 c1 c2 c4 c18
        · refine wp_iload (M := mX11_comesTo) (pc := 73) dX11_comesTo_73 rfl ?_
          refine wp_goto (M := mX11_comesTo) (pc := 75) (t := 85) dX11_comesTo_75 (by decide) ?_
          refine xs_iast (M := mX11_comesTo) (pc := 85) (j := x3.toNatClampNeg) dX11_comesTo_85 sh102 (p38 c1 c2 c4 c18) rfl ?_
          refine wp_iload_n (M := mX11_comesTo) (pc := 86) dX11_comesTo_86 rfl rfl ?_
          refine wp_iconst (M := mX11_comesTo) (pc := 87) dX11_comesTo_87 k_iconst_1 ?_
          refine wp_iadd (M := mX11_comesTo) (pc := 88) dX11_comesTo_88 ?_
          refine wp_istore_n (M := mX11_comesTo) (pc := 89) (ls' := [.ref 82, .int x1, .int x2, .int (x3 + 1), .int x4, .int (x5 + 1), .int ((f 97 x5.toNatClampNeg) / 1048576), .int ((f 97 x5.toNatClampNeg) - (f 97 x5.toNatClampNeg) / 1048576 * 1048576)]) dX11_comesTo_89 rfl (by decide) rfl ?_
          refine wp_goto (M := mX11_comesTo) (pc := 90) (t := 230) dX11_comesTo_90 (by decide) ?_
          refine wp_goto (M := mX11_comesTo) (pc := 230) (t := 16) dX11_comesTo_230 (by decide) ?_
          exact p39 c1 c2 c4 c18
theorem bX11_comesTo_229 {G : GC} {d : Nat} {sw : Bool} {f : FF} {Q : QQ} {x1 : Int32} {x2 : Int32} {x3 : Int32} {x4 : Int32} {x5 : Int32} {x6 : Int32} {x7 : Int32} {s0 : Int32} {s1 : Int32} (p1 : vp_in s1 260) (p2 : XP G mX11_comesTo (d + 1) 16 [.ref 82, .int x1, .int x2, .int x3, .int x4, .int x5, .int x6, .int x7] [] sw (upd2 f 102 s1.toNatClampNeg s0) Q) : XP G mX11_comesTo (d + 1) 229 [.ref 82, .int x1, .int x2, .int x3, .int x4, .int x5, .int x6, .int x7] [.int s0, .int s1, .ref 102] sw f Q := by
  refine xs_iast (M := mX11_comesTo) (pc := 229) (j := s1.toNatClampNeg) dX11_comesTo_229 sh102 (p1) rfl ?_
  refine wp_goto (M := mX11_comesTo) (pc := 230) (t := 16) dX11_comesTo_230 (by decide) ?_
  exact p2
theorem bX11_reckon_0 {G : GC} {d : Nat} {sw : Bool} {f : FF} {Q : QQ} {x0 : Int32} {x1 : Int32} {x2 : Int32} (p1 : (x0 = 2) → Q (some (.int (x1 + x2))) sw f) (p2 : (x0 = 3) → Q (some (.int (x1 - x2))) sw f) (p3 : (x0 = 4) → Q (some (.int (x1 * x2))) sw f) (p4 : (x0 = 5) → ¬ x2 = 0) (p5 : (x0 = 5) → Q (some (.int (x1 / x2))) sw f) (p6 : (x0 = 6) → ¬ x2 = 0) (p7 : (x0 = 6) → Q (some (.int (x1 - x1 / x2 * x2))) sw f) (p8 : (x0 = 7) → (x2 ≤ x1) → Q (some (.int 0)) sw f) (p9 : (x0 = 7) → (¬ x2 ≤ x1) → Q (some (.int 1)) sw f) (p10 : (x0 = 8) → (x1 ≤ x2) → Q (some (.int 0)) sw f) (p11 : (x0 = 8) → (¬ x1 ≤ x2) → Q (some (.int 1)) sw f) (p12 : (¬ x0 = 2) → (¬ x0 = 3) → (¬ x0 = 4) → (¬ x0 = 5) → (¬ x0 = 6) → (¬ x0 = 7) → (¬ x0 = 8) → (¬ x1 = x2) → Q (some (.int 0)) sw f) (p13 : (¬ x0 = 2) → (¬ x0 = 3) → (¬ x0 = 4) → (¬ x0 = 5) → (¬ x0 = 6) → (¬ x0 = 7) → (¬ x0 = 8) → (x1 = x2) → Q (some (.int 1)) sw f) : XP G mX11_reckon (d) 0 [.int x0, .int x1, .int x2] [] sw f Q := by
  refine wp_iload_n (M := mX11_reckon) (pc := 0) dX11_reckon_0 rfl rfl ?_
  by_cases c1 : x0 = 2
  · refine wp_tableIn (M := mX11_reckon) (pc := 1) (t := 44) (off := 43) dX11_reckon_1 (by rw [c1] <;> decide) (by rw [c1] <;> decide) (by rw [c1] <;> rfl) (by decide) ?_
    refine wp_iload_n (M := mX11_reckon) (pc := 44) dX11_reckon_44 rfl rfl ?_
    refine wp_iload_n (M := mX11_reckon) (pc := 45) dX11_reckon_45 rfl rfl ?_
    refine wp_iadd (M := mX11_reckon) (pc := 46) dX11_reckon_46 ?_
    exact xs_iret (M := mX11_reckon) (pc := 47) dX11_reckon_47 rfl (p1 c1)
  by_cases c2 : x0 = 3
  · refine wp_tableIn (M := mX11_reckon) (pc := 1) (t := 48) (off := 47) dX11_reckon_1 (by rw [c2] <;> decide) (by rw [c2] <;> decide) (by rw [c2] <;> rfl) (by decide) ?_
    refine wp_iload_n (M := mX11_reckon) (pc := 48) dX11_reckon_48 rfl rfl ?_
    refine wp_iload_n (M := mX11_reckon) (pc := 49) dX11_reckon_49 rfl rfl ?_
    refine wp_isub (M := mX11_reckon) (pc := 50) dX11_reckon_50 ?_
    exact xs_iret (M := mX11_reckon) (pc := 51) dX11_reckon_51 rfl (p2 c2)
  by_cases c3 : x0 = 4
  · refine wp_tableIn (M := mX11_reckon) (pc := 1) (t := 52) (off := 51) dX11_reckon_1 (by rw [c3] <;> decide) (by rw [c3] <;> decide) (by rw [c3] <;> rfl) (by decide) ?_
    refine wp_iload_n (M := mX11_reckon) (pc := 52) dX11_reckon_52 rfl rfl ?_
    refine wp_iload_n (M := mX11_reckon) (pc := 53) dX11_reckon_53 rfl rfl ?_
    refine wp_imul (M := mX11_reckon) (pc := 54) dX11_reckon_54 ?_
    exact xs_iret (M := mX11_reckon) (pc := 55) dX11_reckon_55 rfl (p3 c3)
  by_cases c4 : x0 = 5
  · refine wp_tableIn (M := mX11_reckon) (pc := 1) (t := 56) (off := 55) dX11_reckon_1 (by rw [c4] <;> decide) (by rw [c4] <;> decide) (by rw [c4] <;> rfl) (by decide) ?_
    refine wp_iload_n (M := mX11_reckon) (pc := 56) dX11_reckon_56 rfl rfl ?_
    refine wp_iload_n (M := mX11_reckon) (pc := 57) dX11_reckon_57 rfl rfl ?_
    refine wp_idiv (M := mX11_reckon) (pc := 58) dX11_reckon_58 (p4 c4) ?_
    exact xs_iret (M := mX11_reckon) (pc := 59) dX11_reckon_59 rfl (p5 c4)
  by_cases c5 : x0 = 6
  · refine wp_tableIn (M := mX11_reckon) (pc := 1) (t := 60) (off := 59) dX11_reckon_1 (by rw [c5] <;> decide) (by rw [c5] <;> decide) (by rw [c5] <;> rfl) (by decide) ?_
    refine wp_iload_n (M := mX11_reckon) (pc := 60) dX11_reckon_60 rfl rfl ?_
    refine wp_iload_n (M := mX11_reckon) (pc := 61) dX11_reckon_61 rfl rfl ?_
    refine wp_irem (M := mX11_reckon) (pc := 62) dX11_reckon_62 (p6 c5) ?_
    exact xs_iret (M := mX11_reckon) (pc := 63) dX11_reckon_63 rfl (p7 c5)
  by_cases c6 : x0 = 7
  · refine wp_tableIn (M := mX11_reckon) (pc := 1) (t := 64) (off := 63) dX11_reckon_1 (by rw [c6] <;> decide) (by rw [c6] <;> decide) (by rw [c6] <;> rfl) (by decide) ?_
    refine wp_iload_n (M := mX11_reckon) (pc := 64) dX11_reckon_64 rfl rfl ?_
    refine wp_iload_n (M := mX11_reckon) (pc := 65) dX11_reckon_65 rfl rfl ?_
    refine wp_icmp_ge (M := mX11_reckon) (pc := 66) (t := 73) dX11_reckon_66 (by decide) (fun c7 => ?_) (fun c7 => ?_)
    · refine wp_iconst (M := mX11_reckon) (pc := 73) dX11_reckon_73 k_iconst_0 ?_
      exact xs_iret (M := mX11_reckon) (pc := 74) dX11_reckon_74 rfl (p8 c6 c7)
    · refine wp_iconst (M := mX11_reckon) (pc := 69) dX11_reckon_69 k_iconst_1 ?_
      refine wp_goto (M := mX11_reckon) (pc := 70) (t := 74) dX11_reckon_70 (by decide) ?_
      exact xs_iret (M := mX11_reckon) (pc := 74) dX11_reckon_74 rfl (p9 c6 c7)
  by_cases c8 : x0 = 8
  · refine wp_tableIn (M := mX11_reckon) (pc := 1) (t := 75) (off := 74) dX11_reckon_1 (by rw [c8] <;> decide) (by rw [c8] <;> decide) (by rw [c8] <;> rfl) (by decide) ?_
    refine wp_iload_n (M := mX11_reckon) (pc := 75) dX11_reckon_75 rfl rfl ?_
    refine wp_iload_n (M := mX11_reckon) (pc := 76) dX11_reckon_76 rfl rfl ?_
    refine wp_icmp_le (M := mX11_reckon) (pc := 77) (t := 84) dX11_reckon_77 (by decide) (fun c9 => ?_) (fun c9 => ?_)
    · refine wp_iconst (M := mX11_reckon) (pc := 84) dX11_reckon_84 k_iconst_0 ?_
      exact xs_iret (M := mX11_reckon) (pc := 85) dX11_reckon_85 rfl (p10 c8 c9)
    · refine wp_iconst (M := mX11_reckon) (pc := 80) dX11_reckon_80 k_iconst_1 ?_
      refine wp_goto (M := mX11_reckon) (pc := 81) (t := 85) dX11_reckon_81 (by decide) ?_
      exact xs_iret (M := mX11_reckon) (pc := 85) dX11_reckon_85 rfl (p11 c8 c9)
  refine wp_tableOut (M := mX11_reckon) (pc := 1) (t := 86) dX11_reckon_1 (tbl_out (fun q h1 h2 z => by
      have hq : q = 2 ∨ q = 3 ∨ q = 4 ∨ q = 5 ∨ q = 6 ∨ q = 7 ∨ q = 8 := by omega
      rcases hq with rfl | rfl | rfl | rfl | rfl | rfl | rfl
      · exact c1 (Int32.toInt_inj.mp (by rw [z]; rfl))
      · exact c2 (Int32.toInt_inj.mp (by rw [z]; rfl))
      · exact c3 (Int32.toInt_inj.mp (by rw [z]; rfl))
      · exact c4 (Int32.toInt_inj.mp (by rw [z]; rfl))
      · exact c5 (Int32.toInt_inj.mp (by rw [z]; rfl))
      · exact c6 (Int32.toInt_inj.mp (by rw [z]; rfl))
      · exact c8 (Int32.toInt_inj.mp (by rw [z]; rfl))
      )) (by decide) ?_
  refine wp_iload_n (M := mX11_reckon) (pc := 86) dX11_reckon_86 rfl rfl ?_
  refine wp_iload_n (M := mX11_reckon) (pc := 87) dX11_reckon_87 rfl rfl ?_
  refine wp_icmp_ne (M := mX11_reckon) (pc := 88) (t := 95) dX11_reckon_88 (by decide) (fun c10 => ?_) (fun c10 => ?_)
  · refine wp_iconst (M := mX11_reckon) (pc := 95) dX11_reckon_95 k_iconst_0 ?_
    exact xs_iret (M := mX11_reckon) (pc := 96) dX11_reckon_96 rfl (p12 c1 c2 c3 c4 c5 c6 c8 c10)
  · refine wp_iconst (M := mX11_reckon) (pc := 91) dX11_reckon_91 k_iconst_1 ?_
    refine wp_goto (M := mX11_reckon) (pc := 92) (t := 96) dX11_reckon_92 (by decide) ?_
    exact xs_iret (M := mX11_reckon) (pc := 96) dX11_reckon_96 rfl (p13 c1 c2 c3 c4 c5 c6 c8 c10)
theorem bX11_rings_0 {G : GC} {d : Nat} {sw : Bool} {f : FF} {Q : QQ} {x1 : Int32} {x2 : Int32} (p1 : (x1 = x2) → XP G mX11_freePlace (d + 3) 0 [.ref 82, .null] [] sw f (fun v sw' f' => XP G mX11_rings (d + 4) 44 [.ref 82, .int x1, .int x2, .int (-1), .null, .null, .null] (retst v []) sw' f' Q)) (p2 : (¬ x1 = x2) → XP G mX11_isFree (d + 3) 0 [.ref 82, .int x2] [] sw f (fun v sw' f' => XP G mX11_rings (d + 4) 10 [.ref 82, .int x1, .int x2, .null, .null, .null, .null] (retst v []) sw' f' Q)) : XP G mX11_rings (d + 4) 0 [.ref 82, .int x1, .int x2, .null, .null, .null, .null] [] sw f Q := by
  refine wp_iload_n (M := mX11_rings) (pc := 0) dX11_rings_0 rfl rfl ?_
  refine wp_iload_n (M := mX11_rings) (pc := 1) dX11_rings_1 rfl rfl ?_
  refine wp_icmp_eq (M := mX11_rings) (pc := 2) (t := 13) dX11_rings_2 (by decide) (fun c1 => ?_) (fun c1 => ?_)
  · refine wp_iconst (M := mX11_rings) (pc := 13) dX11_rings_13 k_iconst_m1 ?_
    refine wp_goto (M := mX11_rings) (pc := 14) (t := 39) dX11_rings_14 (by decide) ?_
    refine wp_istore_n (M := mX11_rings) (pc := 39) (ls' := [.ref 82, .int x1, .int x2, .int (-1), .null, .null, .null]) dX11_rings_39 rfl (by decide) rfl ?_
    refine wp_aload_n (M := mX11_rings) (pc := 40) dX11_rings_40 rfl rfl ?_
    refine xs_callV (d := d + 3) (M := mX11_rings) (pc := 41) (As := []) (st := []) (c := 11) (ls' := [.ref 82, .null]) dX11_rings_41 oX11_freePlace nX11_freePlace lX11_279 vX11_freePlace sX11_freePlace rfl sh82 (Nat.le_of_ble_eq_true rfl) rfl (Nat.le_of_ble_eq_true rfl) rfl ?_
    exact p1 c1
  · refine wp_aload_n (M := mX11_rings) (pc := 5) dX11_rings_5 rfl rfl ?_
    refine wp_iload_n (M := mX11_rings) (pc := 6) dX11_rings_6 rfl rfl ?_
    refine xs_callV (d := d + 3) (M := mX11_rings) (pc := 7) (As := [.int x2]) (st := []) (c := 11) (ls' := [.ref 82, .int x2]) dX11_rings_7 oX11_isFree nX11_isFree lX11_273 vX11_isFree sX11_isFree rfl sh82 (Nat.le_of_ble_eq_true rfl) rfl (Nat.le_of_ble_eq_true rfl) rfl ?_
    exact p2 c1
theorem bX11_rings_10 {G : GC} {d : Nat} {sw : Bool} {f : FF} {Q : QQ} {x1 : Int32} {x2 : Int32} {v3 : Value} {v4 : Value} {v5 : Value} {v6 : Value} {s0 : Int32} (p1 : (¬ s0 = 0) → vp_in (16 + x1) 391) (p2 : (¬ s0 = 0) → vp_in (16 + x2) 391) (p3 : (¬ s0 = 0) → XP G mX11_laysRoute (d + 3) 0 [.ref 82, .int (f 83 ((16 + x1).toNatClampNeg)), .int (f 83 ((16 + x2).toNatClampNeg)), .null, .null, .null] [] sw f (fun v sw' f' => XP G mX11_rings (d + 4) 39 [.ref 82, .int x1, .int x2, v3, v4, v5, v6] (retst v []) sw' f' Q)) (p4 : (s0 = 0) → XP G mX11_freePlace (d + 3) 0 [.ref 82, .null] [] sw f (fun v sw' f' => XP G mX11_rings (d + 4) 44 [.ref 82, .int x1, .int x2, .int (-1), v4, v5, v6] (retst v []) sw' f' Q)) : XP G mX11_rings (d + 4) 10 [.ref 82, .int x1, .int x2, v3, v4, v5, v6] [.int s0] sw f Q := by
  refine wp_if_ne (M := mX11_rings) (pc := 10) (t := 17) dX11_rings_10 (by decide) (fun c1 => ?_) (fun c1 => ?_)
  · refine wp_aload_n (M := mX11_rings) (pc := 17) dX11_rings_17 rfl rfl ?_
    refine wp_aload_n (M := mX11_rings) (pc := 18) dX11_rings_18 rfl rfl ?_
    refine xs_getr (M := mX11_rings) (pc := 19) (r := 83) dX11_rings_19 fX11_7 sh82 rfl (gr82_0 sw) ?_
    refine wp_bipush (M := mX11_rings) (pc := 22) dX11_rings_22 k_bipush_16 ?_
    refine wp_iload_n (M := mX11_rings) (pc := 24) dX11_rings_24 rfl rfl ?_
    refine wp_iadd (M := mX11_rings) (pc := 25) dX11_rings_25 ?_
    refine xs_iald (M := mX11_rings) (pc := 26) (j := (16 + x1).toNatClampNeg) dX11_rings_26 sh83 (p1 c1) rfl ?_
    refine wp_aload_n (M := mX11_rings) (pc := 27) dX11_rings_27 rfl rfl ?_
    refine xs_getr (M := mX11_rings) (pc := 28) (r := 83) dX11_rings_28 fX11_7 sh82 rfl (gr82_0 sw) ?_
    refine wp_bipush (M := mX11_rings) (pc := 31) dX11_rings_31 k_bipush_16 ?_
    refine wp_iload_n (M := mX11_rings) (pc := 33) dX11_rings_33 rfl rfl ?_
    refine wp_iadd (M := mX11_rings) (pc := 34) dX11_rings_34 ?_
    refine xs_iald (M := mX11_rings) (pc := 35) (j := (16 + x2).toNatClampNeg) dX11_rings_35 sh83 (p2 c1) rfl ?_
    refine xs_callV (d := d + 3) (M := mX11_rings) (pc := 36) (As := [.int (f 83 ((16 + x1).toNatClampNeg)), .int (f 83 ((16 + x2).toNatClampNeg))]) (st := []) (c := 11) (ls' := [.ref 82, .int (f 83 ((16 + x1).toNatClampNeg)), .int (f 83 ((16 + x2).toNatClampNeg)), .null, .null, .null]) dX11_rings_36 oX11_laysRoute nX11_laysRoute lX11_276 vX11_laysRoute sX11_laysRoute rfl sh82 (Nat.le_of_ble_eq_true rfl) rfl (Nat.le_of_ble_eq_true rfl) rfl ?_
    exact p3 c1
  · refine wp_iconst (M := mX11_rings) (pc := 13) dX11_rings_13 k_iconst_m1 ?_
    refine wp_goto (M := mX11_rings) (pc := 14) (t := 39) dX11_rings_14 (by decide) ?_
    refine wp_istore_n (M := mX11_rings) (pc := 39) (ls' := [.ref 82, .int x1, .int x2, .int (-1), v4, v5, v6]) dX11_rings_39 rfl (by decide) rfl ?_
    refine wp_aload_n (M := mX11_rings) (pc := 40) dX11_rings_40 rfl rfl ?_
    refine xs_callV (d := d + 3) (M := mX11_rings) (pc := 41) (As := []) (st := []) (c := 11) (ls' := [.ref 82, .null]) dX11_rings_41 oX11_freePlace nX11_freePlace lX11_279 vX11_freePlace sX11_freePlace rfl sh82 (Nat.le_of_ble_eq_true rfl) rfl (Nat.le_of_ble_eq_true rfl) rfl ?_
    exact p4 c1
theorem bX11_rings_39 {G : GC} {d : Nat} {sw : Bool} {f : FF} {Q : QQ} {x1 : Int32} {x2 : Int32} {v3 : Value} {v4 : Value} {v5 : Value} {v6 : Value} {s0 : Int32} (p1 : XP G mX11_freePlace (d + 3) 0 [.ref 82, .null] [] sw f (fun v sw' f' => XP G mX11_rings (d + 4) 44 [.ref 82, .int x1, .int x2, .int s0, v4, v5, v6] (retst v []) sw' f' Q)) : XP G mX11_rings (d + 4) 39 [.ref 82, .int x1, .int x2, v3, v4, v5, v6] [.int s0] sw f Q := by
  refine wp_istore_n (M := mX11_rings) (pc := 39) (ls' := [.ref 82, .int x1, .int x2, .int s0, v4, v5, v6]) dX11_rings_39 rfl (by decide) rfl ?_
  refine wp_aload_n (M := mX11_rings) (pc := 40) dX11_rings_40 rfl rfl ?_
  refine xs_callV (d := d + 3) (M := mX11_rings) (pc := 41) (As := []) (st := []) (c := 11) (ls' := [.ref 82, .null]) dX11_rings_41 oX11_freePlace nX11_freePlace lX11_279 vX11_freePlace sX11_freePlace rfl sh82 (Nat.le_of_ble_eq_true rfl) rfl (Nat.le_of_ble_eq_true rfl) rfl ?_
  exact p1
theorem bX11_rings_44 {G : GC} {d : Nat} {sw : Bool} {f : FF} {Q : QQ} {x1 : Int32} {x2 : Int32} {x3 : Int32} {v4 : Value} {v5 : Value} {v6 : Value} {s0 : Int32} (p1 : (x3 = (-1)) → Q none sw (upd2 f 82 35 ((f 82 35) + 1))) (p2 : (¬ x3 = (-1)) → (¬ s0 = 20) → XP G mX11_feels (d + 3) 0 [.ref 82, .int x1] [] sw f (fun v sw' f' => XP G mX11_rings (d + 4) 74 [.ref 82, .int x1, .int x2, .int x3, .int s0, v5, v6] (retst v []) sw' f' Q)) (p3 : (¬ x3 = (-1)) → (s0 = 20) → Q none sw (upd2 f 82 35 ((f 82 35) + 1))) : XP G mX11_rings (d + 4) 44 [.ref 82, .int x1, .int x2, .int x3, v4, v5, v6] [.int s0] sw f Q := by
  refine wp_istore (M := mX11_rings) (pc := 44) (ls' := [.ref 82, .int x1, .int x2, .int x3, .int s0, v5, v6]) dX11_rings_44 (by decide) rfl ?_
  refine wp_iload_n (M := mX11_rings) (pc := 46) dX11_rings_46 rfl rfl ?_
  refine wp_iconst (M := mX11_rings) (pc := 47) dX11_rings_47 k_iconst_m1 ?_
  refine wp_icmp_eq (M := mX11_rings) (pc := 48) (t := 58) dX11_rings_48 (by decide) (fun c1 => ?_) (fun c1 => ?_)
  · refine wp_aload_n (M := mX11_rings) (pc := 58) dX11_rings_58 rfl rfl ?_
    refine wp_aload_n (M := mX11_rings) (pc := 59) dX11_rings_59 rfl rfl ?_
    refine xs_geti (M := mX11_rings) (pc := 60) dX11_rings_60 fX11_282 sh82 rfl ?_
    refine wp_iconst (M := mX11_rings) (pc := 63) dX11_rings_63 k_iconst_1 ?_
    refine wp_iadd (M := mX11_rings) (pc := 64) dX11_rings_64 ?_
    refine xs_puti (M := mX11_rings) (pc := 65) dX11_rings_65 pX11_282 sh82 rfl ?_
    exact xs_ret (M := mX11_rings) (pc := 68) dX11_rings_68 rfl (p1 c1)
  · refine wp_iload (M := mX11_rings) (pc := 51) dX11_rings_51 rfl ?_
    refine wp_bipush (M := mX11_rings) (pc := 53) dX11_rings_53 k_bipush_20 ?_
    refine wp_icmp_ne (M := mX11_rings) (pc := 55) (t := 69) dX11_rings_55 (by decide) (fun c2 => ?_) (fun c2 => ?_)
    · refine wp_aload_n (M := mX11_rings) (pc := 69) dX11_rings_69 rfl rfl ?_
      refine wp_iload_n (M := mX11_rings) (pc := 70) dX11_rings_70 rfl rfl ?_
      refine xs_callV (d := d + 3) (M := mX11_rings) (pc := 71) (As := [.int x1]) (st := []) (c := 11) (ls' := [.ref 82, .int x1]) dX11_rings_71 oX11_feels nX11_feels lX11_285 vX11_feels sX11_feels rfl sh82 (Nat.le_of_ble_eq_true rfl) rfl (Nat.le_of_ble_eq_true rfl) rfl ?_
      exact p2 c1 c2
    · refine wp_aload_n (M := mX11_rings) (pc := 58) dX11_rings_58 rfl rfl ?_
      refine wp_aload_n (M := mX11_rings) (pc := 59) dX11_rings_59 rfl rfl ?_
      refine xs_geti (M := mX11_rings) (pc := 60) dX11_rings_60 fX11_282 sh82 rfl ?_
      refine wp_iconst (M := mX11_rings) (pc := 63) dX11_rings_63 k_iconst_1 ?_
      refine wp_iadd (M := mX11_rings) (pc := 64) dX11_rings_64 ?_
      refine xs_puti (M := mX11_rings) (pc := 65) dX11_rings_65 pX11_282 sh82 rfl ?_
      exact xs_ret (M := mX11_rings) (pc := 68) dX11_rings_68 rfl (p3 c1 c2)
theorem bX11_rings_74 {G : GC} {d : Nat} {sw : Bool} {f : FF} {Q : QQ} {x1 : Int32} {x2 : Int32} {x3 : Int32} {x4 : Int32} {v5 : Value} {v6 : Value} (p1 : vp_in (32 + x2) 391) (p2 : (¬ ((upd2 f 103 7 x2) 83 ((32 + x2).toNatClampNeg)) = 1) → XP G mX11_byLaw (d + 3) 0 [.ref 82, .int 108, .int 99, .null, .null] [] sw (upd2 (upd2 (upd2 f 103 7 x2) 103 8 1) 103 9 x3) (fun v sw' f' => XP G mX11_rings (d + 4) 123 [.ref 82, .int x1, .int x2, .int x3, .int x4, v5, v6] (retst v []) sw' f' Q)) (p3 : (((upd2 f 103 7 x2) 83 ((32 + x2).toNatClampNeg)) = 1) → XP G mX11_byLaw (d + 3) 0 [.ref 82, .int 108, .int 99, .null, .null] [] sw (upd2 (upd2 (upd2 f 103 7 x2) 103 8 0) 103 9 x3) (fun v sw' f' => XP G mX11_rings (d + 4) 123 [.ref 82, .int x1, .int x2, .int x3, .int x4, v5, v6] (retst v []) sw' f' Q)) : XP G mX11_rings (d + 4) 74 [.ref 82, .int x1, .int x2, .int x3, .int x4, v5, v6] [] sw f Q := by
  refine wp_aload_n (M := mX11_rings) (pc := 74) dX11_rings_74 rfl rfl ?_
  refine xs_getr (M := mX11_rings) (pc := 75) (r := 103) dX11_rings_75 fX11_71 sh82 rfl (gr82_32 sw) ?_
  refine wp_bipush (M := mX11_rings) (pc := 78) dX11_rings_78 k_bipush_7 ?_
  refine wp_iload_n (M := mX11_rings) (pc := 80) dX11_rings_80 rfl rfl ?_
  refine xs_iast (M := mX11_rings) (pc := 81) (j := 7) dX11_rings_81 sh103 (vin (by decide)) rfl ?_
  refine wp_aload_n (M := mX11_rings) (pc := 82) dX11_rings_82 rfl rfl ?_
  refine xs_getr (M := mX11_rings) (pc := 83) (r := 103) dX11_rings_83 fX11_71 sh82 rfl (gr82_32 sw) ?_
  refine wp_bipush (M := mX11_rings) (pc := 86) dX11_rings_86 k_bipush_8 ?_
  refine wp_aload_n (M := mX11_rings) (pc := 88) dX11_rings_88 rfl rfl ?_
  refine xs_getr (M := mX11_rings) (pc := 89) (r := 83) dX11_rings_89 fX11_7 sh82 rfl (gr82_0 sw) ?_
  refine wp_bipush (M := mX11_rings) (pc := 92) dX11_rings_92 k_bipush_32 ?_
  refine wp_iload_n (M := mX11_rings) (pc := 94) dX11_rings_94 rfl rfl ?_
  refine wp_iadd (M := mX11_rings) (pc := 95) dX11_rings_95 ?_
  refine xs_iald (M := mX11_rings) (pc := 96) (j := (32 + x2).toNatClampNeg) dX11_rings_96 sh83 (p1) rfl ?_
  refine wp_iconst (M := mX11_rings) (pc := 97) dX11_rings_97 k_iconst_1 ?_
  refine wp_icmp_ne (M := mX11_rings) (pc := 98) (t := 105) dX11_rings_98 (by decide) (fun c1 => ?_) (fun c1 => ?_)
  · refine wp_iconst (M := mX11_rings) (pc := 105) dX11_rings_105 k_iconst_1 ?_
    refine xs_iast (M := mX11_rings) (pc := 106) (j := 8) dX11_rings_106 sh103 (vin (by decide)) rfl ?_
    refine wp_aload_n (M := mX11_rings) (pc := 107) dX11_rings_107 rfl rfl ?_
    refine xs_getr (M := mX11_rings) (pc := 108) (r := 103) dX11_rings_108 fX11_71 sh82 rfl (gr82_32 sw) ?_
    refine wp_bipush (M := mX11_rings) (pc := 111) dX11_rings_111 k_bipush_9 ?_
    refine wp_iload_n (M := mX11_rings) (pc := 113) dX11_rings_113 rfl rfl ?_
    refine xs_iast (M := mX11_rings) (pc := 114) (j := 9) dX11_rings_114 sh103 (vin (by decide)) rfl ?_
    refine wp_aload_n (M := mX11_rings) (pc := 115) dX11_rings_115 rfl rfl ?_
    refine wp_bipush (M := mX11_rings) (pc := 116) dX11_rings_116 k_bipush_108 ?_
    refine wp_bipush (M := mX11_rings) (pc := 118) dX11_rings_118 k_bipush_99 ?_
    refine xs_callV (d := d + 3) (M := mX11_rings) (pc := 120) (As := [.int 108, .int 99]) (st := []) (c := 11) (ls' := [.ref 82, .int 108, .int 99, .null, .null]) dX11_rings_120 oX11_byLaw nX11_byLaw lX11_288 vX11_byLaw sX11_byLaw rfl sh82 (Nat.le_of_ble_eq_true rfl) rfl (Nat.le_of_ble_eq_true rfl) rfl ?_
    exact p2 c1
  · refine wp_iconst (M := mX11_rings) (pc := 101) dX11_rings_101 k_iconst_0 ?_
    refine wp_goto (M := mX11_rings) (pc := 102) (t := 106) dX11_rings_102 (by decide) ?_
    refine xs_iast (M := mX11_rings) (pc := 106) (j := 8) dX11_rings_106 sh103 (vin (by decide)) rfl ?_
    refine wp_aload_n (M := mX11_rings) (pc := 107) dX11_rings_107 rfl rfl ?_
    refine xs_getr (M := mX11_rings) (pc := 108) (r := 103) dX11_rings_108 fX11_71 sh82 rfl (gr82_32 sw) ?_
    refine wp_bipush (M := mX11_rings) (pc := 111) dX11_rings_111 k_bipush_9 ?_
    refine wp_iload_n (M := mX11_rings) (pc := 113) dX11_rings_113 rfl rfl ?_
    refine xs_iast (M := mX11_rings) (pc := 114) (j := 9) dX11_rings_114 sh103 (vin (by decide)) rfl ?_
    refine wp_aload_n (M := mX11_rings) (pc := 115) dX11_rings_115 rfl rfl ?_
    refine wp_bipush (M := mX11_rings) (pc := 116) dX11_rings_116 k_bipush_108 ?_
    refine wp_bipush (M := mX11_rings) (pc := 118) dX11_rings_118 k_bipush_99 ?_
    refine xs_callV (d := d + 3) (M := mX11_rings) (pc := 120) (As := [.int 108, .int 99]) (st := []) (c := 11) (ls' := [.ref 82, .int 108, .int 99, .null, .null]) dX11_rings_120 oX11_byLaw nX11_byLaw lX11_288 vX11_byLaw sX11_byLaw rfl sh82 (Nat.le_of_ble_eq_true rfl) rfl (Nat.le_of_ble_eq_true rfl) rfl ?_
    exact p3 c1
theorem bX11_rings_123 {G : GC} {d : Nat} {sw : Bool} {f : FF} {Q : QQ} {x1 : Int32} {x2 : Int32} {x3 : Int32} {x4 : Int32} {v5 : Value} {v6 : Value} {s0 : Int32} (p1 : (¬ s0 = 0) → vp_in (128 + x4) 391) (p2 : (¬ s0 = 0) → vp_in (148 + x4) 391) (p3 : (¬ s0 = 0) → XP G mX11_holdsAny (d + 3) 0 [.ref 82, .int 118, .null] [] sw (upd2 (upd2 f 83 ((128 + x4).toNatClampNeg) x1) 83 ((148 + x4).toNatClampNeg) x2) (fun v sw' f' => XP G mX11_rings (d + 4) 171 [.ref 82, .int x1, .int x2, .int x3, .int x4, .int s0, v6] (retst v [.int (168 + x4), .ref 83]) sw' f' Q)) (p4 : (s0 = 0) → Q none sw f) : XP G mX11_rings (d + 4) 123 [.ref 82, .int x1, .int x2, .int x3, .int x4, v5, v6] [.int s0] sw f Q := by
  refine wp_istore (M := mX11_rings) (pc := 123) (ls' := [.ref 82, .int x1, .int x2, .int x3, .int x4, .int s0, v6]) dX11_rings_123 (by decide) rfl ?_
  refine wp_iload (M := mX11_rings) (pc := 125) dX11_rings_125 rfl ?_
  refine wp_if_ne (M := mX11_rings) (pc := 127) (t := 131) dX11_rings_127 (by decide) (fun c1 => ?_) (fun c1 => ?_)
  · refine wp_aload_n (M := mX11_rings) (pc := 131) dX11_rings_131 rfl rfl ?_
    refine xs_getr (M := mX11_rings) (pc := 132) (r := 83) dX11_rings_132 fX11_7 sh82 rfl (gr82_0 sw) ?_
    refine wp_sipush (M := mX11_rings) (pc := 135) dX11_rings_135 k_sipush_128 ?_
    refine wp_iload (M := mX11_rings) (pc := 138) dX11_rings_138 rfl ?_
    refine wp_iadd (M := mX11_rings) (pc := 140) dX11_rings_140 ?_
    refine wp_iload_n (M := mX11_rings) (pc := 141) dX11_rings_141 rfl rfl ?_
    refine xs_iast (M := mX11_rings) (pc := 142) (j := (128 + x4).toNatClampNeg) dX11_rings_142 sh83 (p1 c1) rfl ?_
    refine wp_aload_n (M := mX11_rings) (pc := 143) dX11_rings_143 rfl rfl ?_
    refine xs_getr (M := mX11_rings) (pc := 144) (r := 83) dX11_rings_144 fX11_7 sh82 rfl (gr82_0 sw) ?_
    refine wp_sipush (M := mX11_rings) (pc := 147) dX11_rings_147 k_sipush_148 ?_
    refine wp_iload (M := mX11_rings) (pc := 150) dX11_rings_150 rfl ?_
    refine wp_iadd (M := mX11_rings) (pc := 152) dX11_rings_152 ?_
    refine wp_iload_n (M := mX11_rings) (pc := 153) dX11_rings_153 rfl rfl ?_
    refine xs_iast (M := mX11_rings) (pc := 154) (j := (148 + x4).toNatClampNeg) dX11_rings_154 sh83 (p2 c1) rfl ?_
    refine wp_aload_n (M := mX11_rings) (pc := 155) dX11_rings_155 rfl rfl ?_
    refine xs_getr (M := mX11_rings) (pc := 156) (r := 83) dX11_rings_156 fX11_7 sh82 rfl (gr82_0 sw) ?_
    refine wp_sipush (M := mX11_rings) (pc := 159) dX11_rings_159 k_sipush_168 ?_
    refine wp_iload (M := mX11_rings) (pc := 162) dX11_rings_162 rfl ?_
    refine wp_iadd (M := mX11_rings) (pc := 164) dX11_rings_164 ?_
    refine wp_aload_n (M := mX11_rings) (pc := 165) dX11_rings_165 rfl rfl ?_
    refine wp_bipush (M := mX11_rings) (pc := 166) dX11_rings_166 k_bipush_118 ?_
    refine xs_callV (d := d + 3) (M := mX11_rings) (pc := 168) (As := [.int 118]) (st := [.int (168 + x4), .ref 83]) (c := 11) (ls' := [.ref 82, .int 118, .null]) dX11_rings_168 oX11_holdsAny nX11_holdsAny lX11_291 vX11_holdsAny sX11_holdsAny rfl sh82 (Nat.le_of_ble_eq_true rfl) rfl (Nat.le_of_ble_eq_true rfl) rfl ?_
    exact p3 c1
  · exact xs_ret (M := mX11_rings) (pc := 130) dX11_rings_130 rfl (p4 c1)
theorem bX11_rings_171 {G : GC} {d : Nat} {sw : Bool} {f : FF} {Q : QQ} {x1 : Int32} {x2 : Int32} {x3 : Int32} {x4 : Int32} {x5 : Int32} {v6 : Value} {s0 : Int32} {s1 : Int32} (p1 : (s0 = 0) → vp_in s1 391) (p2 : (s0 = 0) → vp_in (188 + x4) 391) (p3 : (s0 = 0) → vp_in (208 + x4) 391) (p4 : (s0 = 0) → XP G mX11_rings (d + 4) 208 [.ref 82, .int x1, .int x2, .int x3, .int x4, .int x5, .int 0] [] sw (upd2 (upd2 (upd2 f 83 s1.toNatClampNeg x1) 83 ((188 + x4).toNatClampNeg) x5) 83 ((208 + x4).toNatClampNeg) x3) Q) (p5 : (¬ s0 = 0) → vp_in s1 391) (p6 : (¬ s0 = 0) → vp_in (188 + x4) 391) (p7 : (¬ s0 = 0) → vp_in (208 + x4) 391) (p8 : (¬ s0 = 0) → XP G mX11_rings (d + 4) 208 [.ref 82, .int x1, .int x2, .int x3, .int x4, .int x5, .int 0] [] sw (upd2 (upd2 (upd2 f 83 s1.toNatClampNeg x2) 83 ((188 + x4).toNatClampNeg) x5) 83 ((208 + x4).toNatClampNeg) x3) Q) : XP G mX11_rings (d + 4) 171 [.ref 82, .int x1, .int x2, .int x3, .int x4, .int x5, v6] [.int s0, .int s1, .ref 83] sw f Q := by
  refine wp_if_eq (M := mX11_rings) (pc := 171) (t := 178) dX11_rings_171 (by decide) (fun c1 => ?_) (fun c1 => ?_)
  · refine wp_iload_n (M := mX11_rings) (pc := 178) dX11_rings_178 rfl rfl ?_
    refine xs_iast (M := mX11_rings) (pc := 179) (j := s1.toNatClampNeg) dX11_rings_179 sh83 (p1 c1) rfl ?_
    refine wp_aload_n (M := mX11_rings) (pc := 180) dX11_rings_180 rfl rfl ?_
    refine xs_getr (M := mX11_rings) (pc := 181) (r := 83) dX11_rings_181 fX11_7 sh82 rfl (gr82_0 sw) ?_
    refine wp_sipush (M := mX11_rings) (pc := 184) dX11_rings_184 k_sipush_188 ?_
    refine wp_iload (M := mX11_rings) (pc := 187) dX11_rings_187 rfl ?_
    refine wp_iadd (M := mX11_rings) (pc := 189) dX11_rings_189 ?_
    refine wp_iload (M := mX11_rings) (pc := 190) dX11_rings_190 rfl ?_
    refine xs_iast (M := mX11_rings) (pc := 192) (j := (188 + x4).toNatClampNeg) dX11_rings_192 sh83 (p2 c1) rfl ?_
    refine wp_aload_n (M := mX11_rings) (pc := 193) dX11_rings_193 rfl rfl ?_
    refine xs_getr (M := mX11_rings) (pc := 194) (r := 83) dX11_rings_194 fX11_7 sh82 rfl (gr82_0 sw) ?_
    refine wp_sipush (M := mX11_rings) (pc := 197) dX11_rings_197 k_sipush_208 ?_
    refine wp_iload (M := mX11_rings) (pc := 200) dX11_rings_200 rfl ?_
    refine wp_iadd (M := mX11_rings) (pc := 202) dX11_rings_202 ?_
    refine wp_iload_n (M := mX11_rings) (pc := 203) dX11_rings_203 rfl rfl ?_
    refine xs_iast (M := mX11_rings) (pc := 204) (j := (208 + x4).toNatClampNeg) dX11_rings_204 sh83 (p3 c1) rfl ?_
    refine wp_iconst (M := mX11_rings) (pc := 205) dX11_rings_205 k_iconst_0 ?_
    refine wp_istore (M := mX11_rings) (pc := 206) (ls' := [.ref 82, .int x1, .int x2, .int x3, .int x4, .int x5, .int 0]) dX11_rings_206 (by decide) rfl ?_
    exact p4 c1
  · refine wp_iload_n (M := mX11_rings) (pc := 174) dX11_rings_174 rfl rfl ?_
    refine wp_goto (M := mX11_rings) (pc := 175) (t := 179) dX11_rings_175 (by decide) ?_
    refine xs_iast (M := mX11_rings) (pc := 179) (j := s1.toNatClampNeg) dX11_rings_179 sh83 (p5 c1) rfl ?_
    refine wp_aload_n (M := mX11_rings) (pc := 180) dX11_rings_180 rfl rfl ?_
    refine xs_getr (M := mX11_rings) (pc := 181) (r := 83) dX11_rings_181 fX11_7 sh82 rfl (gr82_0 sw) ?_
    refine wp_sipush (M := mX11_rings) (pc := 184) dX11_rings_184 k_sipush_188 ?_
    refine wp_iload (M := mX11_rings) (pc := 187) dX11_rings_187 rfl ?_
    refine wp_iadd (M := mX11_rings) (pc := 189) dX11_rings_189 ?_
    refine wp_iload (M := mX11_rings) (pc := 190) dX11_rings_190 rfl ?_
    refine xs_iast (M := mX11_rings) (pc := 192) (j := (188 + x4).toNatClampNeg) dX11_rings_192 sh83 (p6 c1) rfl ?_
    refine wp_aload_n (M := mX11_rings) (pc := 193) dX11_rings_193 rfl rfl ?_
    refine xs_getr (M := mX11_rings) (pc := 194) (r := 83) dX11_rings_194 fX11_7 sh82 rfl (gr82_0 sw) ?_
    refine wp_sipush (M := mX11_rings) (pc := 197) dX11_rings_197 k_sipush_208 ?_
    refine wp_iload (M := mX11_rings) (pc := 200) dX11_rings_200 rfl ?_
    refine wp_iadd (M := mX11_rings) (pc := 202) dX11_rings_202 ?_
    refine wp_iload_n (M := mX11_rings) (pc := 203) dX11_rings_203 rfl rfl ?_
    refine xs_iast (M := mX11_rings) (pc := 204) (j := (208 + x4).toNatClampNeg) dX11_rings_204 sh83 (p7 c1) rfl ?_
    refine wp_iconst (M := mX11_rings) (pc := 205) dX11_rings_205 k_iconst_0 ?_
    refine wp_istore (M := mX11_rings) (pc := 206) (ls' := [.ref 82, .int x1, .int x2, .int x3, .int x4, .int x5, .int 0]) dX11_rings_206 (by decide) rfl ?_
    exact p8 c1
theorem bX11_rings_208 {G : GC} {d : Nat} {sw : Bool} {f : FF} {Q : QQ} {x1 : Int32} {x2 : Int32} {x3 : Int32} {x4 : Int32} {x5 : Int32} {x6 : Int32} (p1 : (x3 < x6) → vp_in (96 + x1) 391) (p2 : (x3 < x6) → vp_in (96 + x1) 391) (p3 : (x3 < x6) → vp_in (112 + x2) 391) (p4 : (x3 < x6) → vp_in (112 + x2) 391) (p5 : (x3 < x6) → Q none sw (upd2 (upd2 (upd2 f 83 ((96 + x1).toNatClampNeg) (mnI 9999 ((f 83 ((96 + x1).toNatClampNeg)) + 1))) 83 ((112 + x2).toNatClampNeg) (mnI 9999 (((upd2 f 83 ((96 + x1).toNatClampNeg) (mnI 9999 ((f 83 ((96 + x1).toNatClampNeg)) + 1))) 83 ((112 + x2).toNatClampNeg)) + 1))) 82 34 (((upd2 (upd2 f 83 ((96 + x1).toNatClampNeg) (mnI 9999 ((f 83 ((96 + x1).toNatClampNeg)) + 1))) 83 ((112 + x2).toNatClampNeg) (mnI 9999 (((upd2 f 83 ((96 + x1).toNatClampNeg) (mnI 9999 ((f 83 ((96 + x1).toNatClampNeg)) + 1))) 83 ((112 + x2).toNatClampNeg)) + 1))) 82 34) + 1))) (p6 : (¬ x3 < x6) → vp_in x6 8) (p7 : (¬ x3 < x6) → vp_in ((228 + (8 * x4)) + x6) 391) (p8 : (¬ x3 < x6) → XP G mX11_rings (d + 4) 208 [.ref 82, .int x1, .int x2, .int x3, .int x4, .int x5, .int (x6 + 1)] [] sw (upd2 f 83 (((228 + (8 * x4)) + x6).toNatClampNeg) (f 89 x6.toNatClampNeg)) Q) : XP G mX11_rings (d + 4) 208 [.ref 82, .int x1, .int x2, .int x3, .int x4, .int x5, .int x6] [] sw f Q := by
  refine wp_iload (M := mX11_rings) (pc := 208) dX11_rings_208 rfl ?_
  refine wp_iload_n (M := mX11_rings) (pc := 210) dX11_rings_210 rfl rfl ?_
  refine wp_icmp_gt (M := mX11_rings) (pc := 211) (t := 244) dX11_rings_211 (by decide) (fun c1 => ?_) (fun c1 => ?_)
  · refine wp_aload_n (M := mX11_rings) (pc := 244) dX11_rings_244 rfl rfl ?_
    refine xs_getr (M := mX11_rings) (pc := 245) (r := 83) dX11_rings_245 fX11_7 sh82 rfl (gr82_0 sw) ?_
    refine wp_bipush (M := mX11_rings) (pc := 248) dX11_rings_248 k_bipush_96 ?_
    refine wp_iload_n (M := mX11_rings) (pc := 250) dX11_rings_250 rfl rfl ?_
    refine wp_iadd (M := mX11_rings) (pc := 251) dX11_rings_251 ?_
    refine wp_sipush (M := mX11_rings) (pc := 252) dX11_rings_252 k_sipush_9999 ?_
    refine wp_aload_n (M := mX11_rings) (pc := 255) dX11_rings_255 rfl rfl ?_
    refine xs_getr (M := mX11_rings) (pc := 256) (r := 83) dX11_rings_256 fX11_7 sh82 rfl (gr82_0 sw) ?_
    refine wp_bipush (M := mX11_rings) (pc := 259) dX11_rings_259 k_bipush_96 ?_
    refine wp_iload_n (M := mX11_rings) (pc := 261) dX11_rings_261 rfl rfl ?_
    refine wp_iadd (M := mX11_rings) (pc := 262) dX11_rings_262 ?_
    refine xs_iald (M := mX11_rings) (pc := 263) (j := (96 + x1).toNatClampNeg) dX11_rings_263 sh83 (p1 c1) rfl ?_
    refine wp_iconst (M := mX11_rings) (pc := 264) dX11_rings_264 k_iconst_1 ?_
    refine wp_iadd (M := mX11_rings) (pc := 265) dX11_rings_265 ?_
    refine xs_callS (d := d + 3) (M := mX11_rings) (pc := 266) (As := [.int 9999, .int ((f 83 ((96 + x1).toNatClampNeg)) + 1)]) (st := [.int (96 + x1), .ref 83]) (ls' := [.int 9999, .int ((f 83 ((96 + x1).toNatClampNeg)) + 1)]) dX11_rings_266 oX11_min nX11_min lX11_257 tX11_min (Nat.le_of_ble_eq_true rfl) rfl (Nat.le_of_ble_eq_true rfl) rfl ?_
    refine sp_X11_min   ?_
    refine xs_iast (M := mX11_rings) (pc := 269) (j := (96 + x1).toNatClampNeg) dX11_rings_269 sh83 (p2 c1) rfl ?_
    refine wp_aload_n (M := mX11_rings) (pc := 270) dX11_rings_270 rfl rfl ?_
    refine xs_getr (M := mX11_rings) (pc := 271) (r := 83) dX11_rings_271 fX11_7 sh82 rfl (gr82_0 sw) ?_
    refine wp_bipush (M := mX11_rings) (pc := 274) dX11_rings_274 k_bipush_112 ?_
    refine wp_iload_n (M := mX11_rings) (pc := 276) dX11_rings_276 rfl rfl ?_
    refine wp_iadd (M := mX11_rings) (pc := 277) dX11_rings_277 ?_
    refine wp_sipush (M := mX11_rings) (pc := 278) dX11_rings_278 k_sipush_9999 ?_
    refine wp_aload_n (M := mX11_rings) (pc := 281) dX11_rings_281 rfl rfl ?_
    refine xs_getr (M := mX11_rings) (pc := 282) (r := 83) dX11_rings_282 fX11_7 sh82 rfl (gr82_0 sw) ?_
    refine wp_bipush (M := mX11_rings) (pc := 285) dX11_rings_285 k_bipush_112 ?_
    refine wp_iload_n (M := mX11_rings) (pc := 287) dX11_rings_287 rfl rfl ?_
    refine wp_iadd (M := mX11_rings) (pc := 288) dX11_rings_288 ?_
    refine xs_iald (M := mX11_rings) (pc := 289) (j := (112 + x2).toNatClampNeg) dX11_rings_289 sh83 (p3 c1) rfl ?_
    refine wp_iconst (M := mX11_rings) (pc := 290) dX11_rings_290 k_iconst_1 ?_
    refine wp_iadd (M := mX11_rings) (pc := 291) dX11_rings_291 ?_
    refine xs_callS (d := d + 3) (M := mX11_rings) (pc := 292) (As := [.int 9999, .int (((upd2 f 83 ((96 + x1).toNatClampNeg) (mnI 9999 ((f 83 ((96 + x1).toNatClampNeg)) + 1))) 83 ((112 + x2).toNatClampNeg)) + 1)]) (st := [.int (112 + x2), .ref 83]) (ls' := [.int 9999, .int (((upd2 f 83 ((96 + x1).toNatClampNeg) (mnI 9999 ((f 83 ((96 + x1).toNatClampNeg)) + 1))) 83 ((112 + x2).toNatClampNeg)) + 1)]) dX11_rings_292 oX11_min nX11_min lX11_257 tX11_min (Nat.le_of_ble_eq_true rfl) rfl (Nat.le_of_ble_eq_true rfl) rfl ?_
    refine sp_X11_min   ?_
    refine xs_iast (M := mX11_rings) (pc := 295) (j := (112 + x2).toNatClampNeg) dX11_rings_295 sh83 (p4 c1) rfl ?_
    refine wp_aload_n (M := mX11_rings) (pc := 296) dX11_rings_296 rfl rfl ?_
    refine wp_aload_n (M := mX11_rings) (pc := 297) dX11_rings_297 rfl rfl ?_
    refine xs_geti (M := mX11_rings) (pc := 298) dX11_rings_298 fX11_294 sh82 rfl ?_
    refine wp_iconst (M := mX11_rings) (pc := 301) dX11_rings_301 k_iconst_1 ?_
    refine wp_iadd (M := mX11_rings) (pc := 302) dX11_rings_302 ?_
    refine xs_puti (M := mX11_rings) (pc := 303) dX11_rings_303 pX11_294 sh82 rfl ?_
    exact xs_ret (M := mX11_rings) (pc := 306) dX11_rings_306 rfl (p5 c1)
  · refine wp_aload_n (M := mX11_rings) (pc := 214) dX11_rings_214 rfl rfl ?_
    refine xs_getr (M := mX11_rings) (pc := 215) (r := 83) dX11_rings_215 fX11_7 sh82 rfl (gr82_0 sw) ?_
    refine wp_sipush (M := mX11_rings) (pc := 218) dX11_rings_218 k_sipush_228 ?_
    refine wp_bipush (M := mX11_rings) (pc := 221) dX11_rings_221 k_bipush_8 ?_
    refine wp_iload (M := mX11_rings) (pc := 223) dX11_rings_223 rfl ?_
    refine wp_imul (M := mX11_rings) (pc := 225) dX11_rings_225 ?_
    refine wp_iadd (M := mX11_rings) (pc := 226) dX11_rings_226 ?_
    refine wp_iload (M := mX11_rings) (pc := 227) dX11_rings_227 rfl ?_
    refine wp_iadd (M := mX11_rings) (pc := 229) dX11_rings_229 ?_
    refine wp_aload_n (M := mX11_rings) (pc := 230) dX11_rings_230 rfl rfl ?_
    refine xs_getr (M := mX11_rings) (pc := 231) (r := 89) dX11_rings_231 fX11_28 sh82 rfl (gr82_8 sw) ?_
    refine wp_iload (M := mX11_rings) (pc := 234) dX11_rings_234 rfl ?_
    refine xs_iald (M := mX11_rings) (pc := 236) (j := x6.toNatClampNeg) dX11_rings_236 sh89 (p6 c1) rfl ?_
    refine xs_iast (M := mX11_rings) (pc := 237) (j := ((228 + (8 * x4)) + x6).toNatClampNeg) dX11_rings_237 sh83 (p7 c1) rfl ?_
    refine wp_iinc (M := mX11_rings) (pc := 238) (v := x6 + 1) (ls' := [.ref 82, .int x1, .int x2, .int x3, .int x4, .int x5, .int (x6 + 1)]) dX11_rings_238 rfl (congrArg (fun z => _ + z) k_iconst_1) (by decide) rfl ?_
    refine wp_goto (M := mX11_rings) (pc := 241) (t := 208) dX11_rings_241 (by decide) ?_
    exact p8 c1
theorem bX11_laysRoute_0 {G : GC} {d : Nat} {sw : Bool} {f : FF} {Q : QQ} {x1 : Int32} {x2 : Int32} (p1 : XP G mX11_laysTrunks (d + 2) 0 [.ref 82, .int x2, .int 1, .null, .null, .null] [] sw f (fun v sw' f' => XP G mX11_laysRoute (d + 3) 6 [.ref 82, .int x1, .int x2, .null, .null, .null] (retst v []) sw' f' Q)) : XP G mX11_laysRoute (d + 3) 0 [.ref 82, .int x1, .int x2, .null, .null, .null] [] sw f Q := by
  refine wp_aload_n (M := mX11_laysRoute) (pc := 0) dX11_laysRoute_0 rfl rfl ?_
  refine wp_iload_n (M := mX11_laysRoute) (pc := 1) dX11_laysRoute_1 rfl rfl ?_
  refine wp_iconst (M := mX11_laysRoute) (pc := 2) dX11_laysRoute_2 k_iconst_1 ?_
  refine xs_callV (d := d + 2) (M := mX11_laysRoute) (pc := 3) (As := [.int x2, .int 1]) (st := []) (c := 11) (ls' := [.ref 82, .int x2, .int 1, .null, .null, .null]) dX11_laysRoute_3 oX11_laysTrunks nX11_laysTrunks lX11_142 vX11_laysTrunks sX11_laysTrunks rfl sh82 (Nat.le_of_ble_eq_true rfl) rfl (Nat.le_of_ble_eq_true rfl) rfl ?_
  exact p1
theorem bX11_laysRoute_6 {G : GC} {d : Nat} {sw : Bool} {f : FF} {Q : QQ} {x1 : Int32} {x2 : Int32} {v3 : Value} {v4 : Value} {v5 : Value} (p1 : vp_in x1 8) (p2 : (¬ (f 87 x1.toNatClampNeg) = (-1)) → XP G mX11_laysRoute (d + 3) 30 [.ref 82, .int x1, .int x2, .int (f 87 x1.toNatClampNeg), .int 1, v5] [] sw (upd2 f 89 0 x1) Q) (p3 : ((f 87 x1.toNatClampNeg) = (-1)) → Q (some (.int (-1))) sw f) : XP G mX11_laysRoute (d + 3) 6 [.ref 82, .int x1, .int x2, v3, v4, v5] [] sw f Q := by
  refine wp_aload_n (M := mX11_laysRoute) (pc := 6) dX11_laysRoute_6 rfl rfl ?_
  refine xs_getr (M := mX11_laysRoute) (pc := 7) (r := 87) dX11_laysRoute_7 fX11_22 sh82 rfl (gr82_6 sw) ?_
  refine wp_iload_n (M := mX11_laysRoute) (pc := 10) dX11_laysRoute_10 rfl rfl ?_
  refine xs_iald (M := mX11_laysRoute) (pc := 11) (j := x1.toNatClampNeg) dX11_laysRoute_11 sh87 (p1) rfl ?_
  refine wp_istore_n (M := mX11_laysRoute) (pc := 12) (ls' := [.ref 82, .int x1, .int x2, .int (f 87 x1.toNatClampNeg), v4, v5]) dX11_laysRoute_12 rfl (by decide) rfl ?_
  refine wp_iload_n (M := mX11_laysRoute) (pc := 13) dX11_laysRoute_13 rfl rfl ?_
  refine wp_iconst (M := mX11_laysRoute) (pc := 14) dX11_laysRoute_14 k_iconst_m1 ?_
  refine wp_icmp_ne (M := mX11_laysRoute) (pc := 15) (t := 20) dX11_laysRoute_15 (by decide) (fun c1 => ?_) (fun c1 => ?_)
  · refine wp_aload_n (M := mX11_laysRoute) (pc := 20) dX11_laysRoute_20 rfl rfl ?_
    refine xs_getr (M := mX11_laysRoute) (pc := 21) (r := 89) dX11_laysRoute_21 fX11_28 sh82 rfl (gr82_8 sw) ?_
    refine wp_iconst (M := mX11_laysRoute) (pc := 24) dX11_laysRoute_24 k_iconst_0 ?_
    refine wp_iload_n (M := mX11_laysRoute) (pc := 25) dX11_laysRoute_25 rfl rfl ?_
    refine xs_iast (M := mX11_laysRoute) (pc := 26) (j := 0) dX11_laysRoute_26 sh89 (vin (by decide)) rfl ?_
    refine wp_iconst (M := mX11_laysRoute) (pc := 27) dX11_laysRoute_27 k_iconst_1 ?_
    refine wp_istore (M := mX11_laysRoute) (pc := 28) (ls' := [.ref 82, .int x1, .int x2, .int (f 87 x1.toNatClampNeg), .int 1, v5]) dX11_laysRoute_28 (by decide) rfl ?_
    exact p2 c1
  · refine wp_iconst (M := mX11_laysRoute) (pc := 18) dX11_laysRoute_18 k_iconst_m1 ?_
    exact xs_iret (M := mX11_laysRoute) (pc := 19) dX11_laysRoute_19 rfl (p3 c1)
theorem bX11_laysRoute_30 {G : GC} {d : Nat} {sw : Bool} {f : FF} {Q : QQ} {x1 : Int32} {x2 : Int32} {x3 : Int32} {x4 : Int32} {v5 : Value} (p1 : (x3 < x4) → Q (some (.int x3)) sw f) (p2 : (¬ x3 < x4) → XP G mX11_laysRoute (d + 3) 39 [.ref 82, .int x1, .int x2, .int x3, .int x4, .int 0] [] sw f Q) : XP G mX11_laysRoute (d + 3) 30 [.ref 82, .int x1, .int x2, .int x3, .int x4, v5] [] sw f Q := by
  refine wp_iload (M := mX11_laysRoute) (pc := 30) dX11_laysRoute_30 rfl ?_
  refine wp_iload_n (M := mX11_laysRoute) (pc := 32) dX11_laysRoute_32 rfl rfl ?_
  refine wp_icmp_gt (M := mX11_laysRoute) (pc := 33) (t := 95) dX11_laysRoute_33 (by decide) (fun c1 => ?_) (fun c1 => ?_)
  · refine wp_iload_n (M := mX11_laysRoute) (pc := 95) dX11_laysRoute_95 rfl rfl ?_
    exact xs_iret (M := mX11_laysRoute) (pc := 96) dX11_laysRoute_96 rfl (p1 c1)
  · refine wp_iconst (M := mX11_laysRoute) (pc := 36) dX11_laysRoute_36 k_iconst_0 ?_
    refine wp_istore (M := mX11_laysRoute) (pc := 37) (ls' := [.ref 82, .int x1, .int x2, .int x3, .int x4, .int 0]) dX11_laysRoute_37 (by decide) rfl ?_
    exact p2 c1
theorem bX11_laysRoute_39 {G : GC} {d : Nat} {sw : Bool} {f : FF} {Q : QQ} {x1 : Int32} {x2 : Int32} {x3 : Int32} {x4 : Int32} {x5 : Int32} (p1 : vp_in x5 8) (p2 : (¬ (f 87 x5.toNatClampNeg) = (x3 - x4)) → XP G mX11_laysRoute (d + 3) 39 [.ref 82, .int x1, .int x2, .int x3, .int x4, .int (x5 + 1)] [] sw f Q) (p3 : ((f 87 x5.toNatClampNeg) = (x3 - x4)) → vp_in (x4 - 1) 8) (p4 : ((f 87 x5.toNatClampNeg) = (x3 - x4)) → XP G mX11_freeBetween (d + 2) 0 [.ref 82, .int (f 89 ((x4 - 1).toNatClampNeg)), .int x5] [] sw f (fun v sw' f' => XP G mX11_laysRoute (d + 3) 68 [.ref 82, .int x1, .int x2, .int x3, .int x4, .int x5] (retst v []) sw' f' Q)) : XP G mX11_laysRoute (d + 3) 39 [.ref 82, .int x1, .int x2, .int x3, .int x4, .int x5] [] sw f Q := by
  refine wp_aload_n (M := mX11_laysRoute) (pc := 39) dX11_laysRoute_39 rfl rfl ?_
  refine xs_getr (M := mX11_laysRoute) (pc := 40) (r := 87) dX11_laysRoute_40 fX11_22 sh82 rfl (gr82_6 sw) ?_
  refine wp_iload (M := mX11_laysRoute) (pc := 43) dX11_laysRoute_43 rfl ?_
  refine xs_iald (M := mX11_laysRoute) (pc := 45) (j := x5.toNatClampNeg) dX11_laysRoute_45 sh87 (p1) rfl ?_
  refine wp_iload_n (M := mX11_laysRoute) (pc := 46) dX11_laysRoute_46 rfl rfl ?_
  refine wp_iload (M := mX11_laysRoute) (pc := 47) dX11_laysRoute_47 rfl ?_
  refine wp_isub (M := mX11_laysRoute) (pc := 49) dX11_laysRoute_49 ?_
  refine wp_icmp_ne (M := mX11_laysRoute) (pc := 50) (t := 71) dX11_laysRoute_50 (by decide) (fun c1 => ?_) (fun c1 => ?_)
  · refine wp_iload (M := mX11_laysRoute) (pc := 71) dX11_laysRoute_71 rfl ?_
    refine wp_iconst (M := mX11_laysRoute) (pc := 73) dX11_laysRoute_73 k_iconst_1 ?_
    refine wp_iadd (M := mX11_laysRoute) (pc := 74) dX11_laysRoute_74 ?_
    refine wp_istore (M := mX11_laysRoute) (pc := 75) (ls' := [.ref 82, .int x1, .int x2, .int x3, .int x4, .int (x5 + 1)]) dX11_laysRoute_75 (by decide) rfl ?_
    refine wp_goto (M := mX11_laysRoute) (pc := 77) (t := 39) dX11_laysRoute_77 (by decide) ?_
    exact p2 c1
  · refine wp_aload_n (M := mX11_laysRoute) (pc := 53) dX11_laysRoute_53 rfl rfl ?_
    refine wp_aload_n (M := mX11_laysRoute) (pc := 54) dX11_laysRoute_54 rfl rfl ?_
    refine xs_getr (M := mX11_laysRoute) (pc := 55) (r := 89) dX11_laysRoute_55 fX11_28 sh82 rfl (gr82_8 sw) ?_
    refine wp_iload (M := mX11_laysRoute) (pc := 58) dX11_laysRoute_58 rfl ?_
    refine wp_iconst (M := mX11_laysRoute) (pc := 60) dX11_laysRoute_60 k_iconst_1 ?_
    refine wp_isub (M := mX11_laysRoute) (pc := 61) dX11_laysRoute_61 ?_
    refine xs_iald (M := mX11_laysRoute) (pc := 62) (j := (x4 - 1).toNatClampNeg) dX11_laysRoute_62 sh89 (p3 c1) rfl ?_
    refine wp_iload (M := mX11_laysRoute) (pc := 63) dX11_laysRoute_63 rfl ?_
    refine xs_callV (d := d + 2) (M := mX11_laysRoute) (pc := 65) (As := [.int (f 89 ((x4 - 1).toNatClampNeg)), .int x5]) (st := []) (c := 11) (ls' := [.ref 82, .int (f 89 ((x4 - 1).toNatClampNeg)), .int x5]) dX11_laysRoute_65 oX11_freeBetween nX11_freeBetween lX11_139 vX11_freeBetween sX11_freeBetween rfl sh82 (Nat.le_of_ble_eq_true rfl) rfl (Nat.le_of_ble_eq_true rfl) rfl ?_
    exact p4 c1
theorem bX11_laysRoute_68 {G : GC} {d : Nat} {sw : Bool} {f : FF} {Q : QQ} {x1 : Int32} {x2 : Int32} {x3 : Int32} {x4 : Int32} {x5 : Int32} {s0 : Int32} (p1 : (¬ s0 = 0) → vp_in x4 8) (p2 : (¬ s0 = 0) → XP G mX11_laysRoute (d + 3) 30 [.ref 82, .int x1, .int x2, .int x3, .int (x4 + 1), .int x5] [] sw (upd2 f 89 x4.toNatClampNeg x5) Q) (p3 : (s0 = 0) → XP G mX11_laysRoute (d + 3) 39 [.ref 82, .int x1, .int x2, .int x3, .int x4, .int (x5 + 1)] [] sw f Q) : XP G mX11_laysRoute (d + 3) 68 [.ref 82, .int x1, .int x2, .int x3, .int x4, .int x5] [.int s0] sw f Q := by
  refine wp_if_ne (M := mX11_laysRoute) (pc := 68) (t := 80) dX11_laysRoute_68 (by decide) (fun c1 => ?_) (fun c1 => ?_)
  · refine wp_aload_n (M := mX11_laysRoute) (pc := 80) dX11_laysRoute_80 rfl rfl ?_
    refine xs_getr (M := mX11_laysRoute) (pc := 81) (r := 89) dX11_laysRoute_81 fX11_28 sh82 rfl (gr82_8 sw) ?_
    refine wp_iload (M := mX11_laysRoute) (pc := 84) dX11_laysRoute_84 rfl ?_
    refine wp_iload (M := mX11_laysRoute) (pc := 86) dX11_laysRoute_86 rfl ?_
    refine xs_iast (M := mX11_laysRoute) (pc := 88) (j := x4.toNatClampNeg) dX11_laysRoute_88 sh89 (p1 c1) rfl ?_
    refine wp_iinc (M := mX11_laysRoute) (pc := 89) (v := x4 + 1) (ls' := [.ref 82, .int x1, .int x2, .int x3, .int (x4 + 1), .int x5]) dX11_laysRoute_89 rfl (congrArg (fun z => _ + z) k_iconst_1) (by decide) rfl ?_
    refine wp_goto (M := mX11_laysRoute) (pc := 92) (t := 30) dX11_laysRoute_92 (by decide) ?_
    exact p2 c1
  · refine wp_iload (M := mX11_laysRoute) (pc := 71) dX11_laysRoute_71 rfl ?_
    refine wp_iconst (M := mX11_laysRoute) (pc := 73) dX11_laysRoute_73 k_iconst_1 ?_
    refine wp_iadd (M := mX11_laysRoute) (pc := 74) dX11_laysRoute_74 ?_
    refine wp_istore (M := mX11_laysRoute) (pc := 75) (ls' := [.ref 82, .int x1, .int x2, .int x3, .int x4, .int (x5 + 1)]) dX11_laysRoute_75 (by decide) rfl ?_
    refine wp_goto (M := mX11_laysRoute) (pc := 77) (t := 39) dX11_laysRoute_77 (by decide) ?_
    exact p3 c1
theorem bX11_laysTrunks_0 {G : GC} {d : Nat} {sw : Bool} {f : FF} {Q : QQ} {x1 : Int32} {x2 : Int32} (p1 : XP G mX11_laysTrunks (d + 2) 2 [.ref 82, .int x1, .int x2, .int 0, .null, .null] [] sw f Q) : XP G mX11_laysTrunks (d + 2) 0 [.ref 82, .int x1, .int x2, .null, .null, .null] [] sw f Q := by
  refine wp_iconst (M := mX11_laysTrunks) (pc := 0) dX11_laysTrunks_0 k_iconst_0 ?_
  refine wp_istore_n (M := mX11_laysTrunks) (pc := 1) (ls' := [.ref 82, .int x1, .int x2, .int 0, .null, .null]) dX11_laysTrunks_1 rfl (by decide) rfl ?_
  exact p1
theorem bX11_laysTrunks_2 {G : GC} {d : Nat} {sw : Bool} {f : FF} {Q : QQ} {x1 : Int32} {x2 : Int32} {x3 : Int32} {v4 : Value} {v5 : Value} (p1 : (8 ≤ x3) → vp_in x1 8) (p2 : (8 ≤ x3) → XP G mX11_laysTrunks (d + 2) 40 [.ref 82, .int x1, .int x2, .int 1, .int 0, v5] [] sw (upd2 (upd2 f 87 x1.toNatClampNeg 0) 88 0 x1) Q) (p3 : (¬ 8 ≤ x3) → vp_in x3 8) (p4 : (¬ 8 ≤ x3) → XP G mX11_laysTrunks (d + 2) 2 [.ref 82, .int x1, .int x2, .int (x3 + 1), v4, v5] [] sw (upd2 f 87 x3.toNatClampNeg (-1)) Q) : XP G mX11_laysTrunks (d + 2) 2 [.ref 82, .int x1, .int x2, .int x3, v4, v5] [] sw f Q := by
  refine wp_iload_n (M := mX11_laysTrunks) (pc := 2) dX11_laysTrunks_2 rfl rfl ?_
  refine wp_bipush (M := mX11_laysTrunks) (pc := 3) dX11_laysTrunks_3 k_bipush_8 ?_
  refine wp_icmp_ge (M := mX11_laysTrunks) (pc := 5) (t := 21) dX11_laysTrunks_5 (by decide) (fun c1 => ?_) (fun c1 => ?_)
  · refine wp_aload_n (M := mX11_laysTrunks) (pc := 21) dX11_laysTrunks_21 rfl rfl ?_
    refine xs_getr (M := mX11_laysTrunks) (pc := 22) (r := 87) dX11_laysTrunks_22 fX11_22 sh82 rfl (gr82_6 sw) ?_
    refine wp_iload_n (M := mX11_laysTrunks) (pc := 25) dX11_laysTrunks_25 rfl rfl ?_
    refine wp_iconst (M := mX11_laysTrunks) (pc := 26) dX11_laysTrunks_26 k_iconst_0 ?_
    refine xs_iast (M := mX11_laysTrunks) (pc := 27) (j := x1.toNatClampNeg) dX11_laysTrunks_27 sh87 (p1 c1) rfl ?_
    refine wp_aload_n (M := mX11_laysTrunks) (pc := 28) dX11_laysTrunks_28 rfl rfl ?_
    refine xs_getr (M := mX11_laysTrunks) (pc := 29) (r := 88) dX11_laysTrunks_29 fX11_25 sh82 rfl (gr82_7 sw) ?_
    refine wp_iconst (M := mX11_laysTrunks) (pc := 32) dX11_laysTrunks_32 k_iconst_0 ?_
    refine wp_iload_n (M := mX11_laysTrunks) (pc := 33) dX11_laysTrunks_33 rfl rfl ?_
    refine xs_iast (M := mX11_laysTrunks) (pc := 34) (j := 0) dX11_laysTrunks_34 sh88 (vin (by decide)) rfl ?_
    refine wp_iconst (M := mX11_laysTrunks) (pc := 35) dX11_laysTrunks_35 k_iconst_1 ?_
    refine wp_istore_n (M := mX11_laysTrunks) (pc := 36) (ls' := [.ref 82, .int x1, .int x2, .int 1, v4, v5]) dX11_laysTrunks_36 rfl (by decide) rfl ?_
    refine wp_iconst (M := mX11_laysTrunks) (pc := 37) dX11_laysTrunks_37 k_iconst_0 ?_
    refine wp_istore (M := mX11_laysTrunks) (pc := 38) (ls' := [.ref 82, .int x1, .int x2, .int 1, .int 0, v5]) dX11_laysTrunks_38 (by decide) rfl ?_
    exact p2 c1
  · refine wp_aload_n (M := mX11_laysTrunks) (pc := 8) dX11_laysTrunks_8 rfl rfl ?_
    refine xs_getr (M := mX11_laysTrunks) (pc := 9) (r := 87) dX11_laysTrunks_9 fX11_22 sh82 rfl (gr82_6 sw) ?_
    refine wp_iload_n (M := mX11_laysTrunks) (pc := 12) dX11_laysTrunks_12 rfl rfl ?_
    refine wp_iconst (M := mX11_laysTrunks) (pc := 13) dX11_laysTrunks_13 k_iconst_m1 ?_
    refine xs_iast (M := mX11_laysTrunks) (pc := 14) (j := x3.toNatClampNeg) dX11_laysTrunks_14 sh87 (p3 c1) rfl ?_
    refine wp_iinc (M := mX11_laysTrunks) (pc := 15) (v := x3 + 1) (ls' := [.ref 82, .int x1, .int x2, .int (x3 + 1), v4, v5]) dX11_laysTrunks_15 rfl (congrArg (fun z => _ + z) k_iconst_1) (by decide) rfl ?_
    refine wp_goto (M := mX11_laysTrunks) (pc := 18) (t := 2) dX11_laysTrunks_18 (by decide) ?_
    exact p4 c1
theorem bX11_laysTrunks_40 {G : GC} {d : Nat} {sw : Bool} {f : FF} {Q : QQ} {x1 : Int32} {x2 : Int32} {x3 : Int32} {x4 : Int32} {v5 : Value} (p1 : (x3 ≤ x4) → Q none sw f) (p2 : (¬ x3 ≤ x4) → XP G mX11_laysTrunks (d + 2) 49 [.ref 82, .int x1, .int x2, .int x3, .int x4, .int 0] [] sw f Q) : XP G mX11_laysTrunks (d + 2) 40 [.ref 82, .int x1, .int x2, .int x3, .int x4, v5] [] sw f Q := by
  refine wp_iload (M := mX11_laysTrunks) (pc := 40) dX11_laysTrunks_40 rfl ?_
  refine wp_iload_n (M := mX11_laysTrunks) (pc := 42) dX11_laysTrunks_42 rfl rfl ?_
  refine wp_icmp_ge (M := mX11_laysTrunks) (pc := 43) (t := 156) dX11_laysTrunks_43 (by decide) (fun c1 => ?_) (fun c1 => ?_)
  · exact xs_ret (M := mX11_laysTrunks) (pc := 156) dX11_laysTrunks_156 rfl (p1 c1)
  · refine wp_iconst (M := mX11_laysTrunks) (pc := 46) dX11_laysTrunks_46 k_iconst_0 ?_
    refine wp_istore (M := mX11_laysTrunks) (pc := 47) (ls' := [.ref 82, .int x1, .int x2, .int x3, .int x4, .int 0]) dX11_laysTrunks_47 (by decide) rfl ?_
    exact p2 c1
theorem bX11_laysTrunks_49 {G : GC} {d : Nat} {sw : Bool} {f : FF} {Q : QQ} {x1 : Int32} {x2 : Int32} {x3 : Int32} {x4 : Int32} {x5 : Int32} (p1 : (8 ≤ x5) → XP G mX11_laysTrunks (d + 2) 40 [.ref 82, .int x1, .int x2, .int x3, .int (x4 + 1), .int x5] [] sw f Q) (p2 : (¬ 8 ≤ x5) → vp_in x5 8) (p3 : (¬ 8 ≤ x5) → (¬ (f 87 x5.toNatClampNeg) = (-1)) → XP G mX11_laysTrunks (d + 2) 49 [.ref 82, .int x1, .int x2, .int x3, .int x4, .int (x5 + 1)] [] sw f Q) (p4 : (¬ 8 ≤ x5) → ((f 87 x5.toNatClampNeg) = (-1)) → (x2 = 0) → vp_in x4 8) (p5 : (¬ 8 ≤ x5) → ((f 87 x5.toNatClampNeg) = (-1)) → (x2 = 0) → vp_in ((8 * (f 88 x4.toNatClampNeg)) + x5) 64) (p6 : (¬ 8 ≤ x5) → ((f 87 x5.toNatClampNeg) = (-1)) → (x2 = 0) → (¬ (f 86 (((8 * (f 88 x4.toNatClampNeg)) + x5).toNatClampNeg)) = 0) → vp_in x4 8) (p7 : (¬ 8 ≤ x5) → ((f 87 x5.toNatClampNeg) = (-1)) → (x2 = 0) → (¬ (f 86 (((8 * (f 88 x4.toNatClampNeg)) + x5).toNatClampNeg)) = 0) → vp_in (f 88 x4.toNatClampNeg) 8) (p8 : (¬ 8 ≤ x5) → ((f 87 x5.toNatClampNeg) = (-1)) → (x2 = 0) → (¬ (f 86 (((8 * (f 88 x4.toNatClampNeg)) + x5).toNatClampNeg)) = 0) → vp_in x5 8) (p9 : (¬ 8 ≤ x5) → ((f 87 x5.toNatClampNeg) = (-1)) → (x2 = 0) → (¬ (f 86 (((8 * (f 88 x4.toNatClampNeg)) + x5).toNatClampNeg)) = 0) → vp_in x3 8) (p10 : (¬ 8 ≤ x5) → ((f 87 x5.toNatClampNeg) = (-1)) → (x2 = 0) → (¬ (f 86 (((8 * (f 88 x4.toNatClampNeg)) + x5).toNatClampNeg)) = 0) → XP G mX11_laysTrunks (d + 2) 49 [.ref 82, .int x1, .int x2, .int (x3 + 1), .int x4, .int (x5 + 1)] [] sw (upd2 (upd2 f 87 x5.toNatClampNeg ((f 87 ((f 88 x4.toNatClampNeg).toNatClampNeg)) + 1)) 88 x3.toNatClampNeg x5) Q) (p11 : (¬ 8 ≤ x5) → ((f 87 x5.toNatClampNeg) = (-1)) → (x2 = 0) → ((f 86 (((8 * (f 88 x4.toNatClampNeg)) + x5).toNatClampNeg)) = 0) → XP G mX11_laysTrunks (d + 2) 49 [.ref 82, .int x1, .int x2, .int x3, .int x4, .int (x5 + 1)] [] sw f Q) (p12 : (¬ 8 ≤ x5) → ((f 87 x5.toNatClampNeg) = (-1)) → (¬ x2 = 0) → vp_in x4 8) (p13 : (¬ 8 ≤ x5) → ((f 87 x5.toNatClampNeg) = (-1)) → (¬ x2 = 0) → XP G mX11_freeBetween (d + 1) 0 [.ref 82, .int (f 88 x4.toNatClampNeg), .int x5] [] sw f (fun v sw' f' => XP G mX11_laysTrunks (d + 2) 84 [.ref 82, .int x1, .int x2, .int x3, .int x4, .int x5] (retst v []) sw' f' Q)) : XP G mX11_laysTrunks (d + 2) 49 [.ref 82, .int x1, .int x2, .int x3, .int x4, .int x5] [] sw f Q := by
  refine wp_iload (M := mX11_laysTrunks) (pc := 49) dX11_laysTrunks_49 rfl ?_
  refine wp_bipush (M := mX11_laysTrunks) (pc := 51) dX11_laysTrunks_51 k_bipush_8 ?_
  refine wp_icmp_ge (M := mX11_laysTrunks) (pc := 53) (t := 150) dX11_laysTrunks_53 (by decide) (fun c1 => ?_) (fun c1 => ?_)
  · refine wp_iinc (M := mX11_laysTrunks) (pc := 150) (v := x4 + 1) (ls' := [.ref 82, .int x1, .int x2, .int x3, .int (x4 + 1), .int x5]) dX11_laysTrunks_150 rfl (congrArg (fun z => _ + z) k_iconst_1) (by decide) rfl ?_
    refine wp_goto (M := mX11_laysTrunks) (pc := 153) (t := 40) dX11_laysTrunks_153 (by decide) ?_
    exact p1 c1
  · refine wp_aload_n (M := mX11_laysTrunks) (pc := 56) dX11_laysTrunks_56 rfl rfl ?_
    refine xs_getr (M := mX11_laysTrunks) (pc := 57) (r := 87) dX11_laysTrunks_57 fX11_22 sh82 rfl (gr82_6 sw) ?_
    refine wp_iload (M := mX11_laysTrunks) (pc := 60) dX11_laysTrunks_60 rfl ?_
    refine xs_iald (M := mX11_laysTrunks) (pc := 62) (j := x5.toNatClampNeg) dX11_laysTrunks_62 sh87 (p2 c1) rfl ?_
    refine wp_iconst (M := mX11_laysTrunks) (pc := 63) dX11_laysTrunks_63 k_iconst_m1 ?_
    refine wp_icmp_ne (M := mX11_laysTrunks) (pc := 64) (t := 144) dX11_laysTrunks_64 (by decide) (fun c2 => ?_) (fun c2 => ?_)
    · refine wp_iinc (M := mX11_laysTrunks) (pc := 144) (v := x5 + 1) (ls' := [.ref 82, .int x1, .int x2, .int x3, .int x4, .int (x5 + 1)]) dX11_laysTrunks_144 rfl (congrArg (fun z => _ + z) k_iconst_1) (by decide) rfl ?_
      refine wp_goto (M := mX11_laysTrunks) (pc := 147) (t := 49) dX11_laysTrunks_147 (by decide) ?_
      exact p3 c1 c2
    · refine wp_iload_n (M := mX11_laysTrunks) (pc := 67) dX11_laysTrunks_67 rfl rfl ?_
      refine wp_if_eq (M := mX11_laysTrunks) (pc := 68) (t := 87) dX11_laysTrunks_68 (by decide) (fun c3 => ?_) (fun c3 => ?_)
      · refine wp_aload_n (M := mX11_laysTrunks) (pc := 87) dX11_laysTrunks_87 rfl rfl ?_
        refine xs_getr (M := mX11_laysTrunks) (pc := 88) (r := 86) dX11_laysTrunks_88 fX11_19 sh82 rfl (gr82_3 sw) ?_
        refine wp_bipush (M := mX11_laysTrunks) (pc := 91) dX11_laysTrunks_91 k_bipush_8 ?_
        refine wp_aload_n (M := mX11_laysTrunks) (pc := 93) dX11_laysTrunks_93 rfl rfl ?_
        refine xs_getr (M := mX11_laysTrunks) (pc := 94) (r := 88) dX11_laysTrunks_94 fX11_25 sh82 rfl (gr82_7 sw) ?_
        refine wp_iload (M := mX11_laysTrunks) (pc := 97) dX11_laysTrunks_97 rfl ?_
        refine xs_iald (M := mX11_laysTrunks) (pc := 99) (j := x4.toNatClampNeg) dX11_laysTrunks_99 sh88 (p4 c1 c2 c3) rfl ?_
        refine wp_imul (M := mX11_laysTrunks) (pc := 100) dX11_laysTrunks_100 ?_
        refine wp_iload (M := mX11_laysTrunks) (pc := 101) dX11_laysTrunks_101 rfl ?_
        refine wp_iadd (M := mX11_laysTrunks) (pc := 103) dX11_laysTrunks_103 ?_
        refine xs_iald (M := mX11_laysTrunks) (pc := 104) (j := ((8 * (f 88 x4.toNatClampNeg)) + x5).toNatClampNeg) dX11_laysTrunks_104 sh86 (p5 c1 c2 c3) rfl ?_
        refine wp_if_ne (M := mX11_laysTrunks) (pc := 105) (t := 111) dX11_laysTrunks_105 (by decide) (fun c4 => ?_) (fun c4 => ?_)
        · refine wp_aload_n (M := mX11_laysTrunks) (pc := 111) dX11_laysTrunks_111 rfl rfl ?_
          refine xs_getr (M := mX11_laysTrunks) (pc := 112) (r := 87) dX11_laysTrunks_112 fX11_22 sh82 rfl (gr82_6 sw) ?_
          refine wp_iload (M := mX11_laysTrunks) (pc := 115) dX11_laysTrunks_115 rfl ?_
          refine wp_aload_n (M := mX11_laysTrunks) (pc := 117) dX11_laysTrunks_117 rfl rfl ?_
          refine xs_getr (M := mX11_laysTrunks) (pc := 118) (r := 87) dX11_laysTrunks_118 fX11_22 sh82 rfl (gr82_6 sw) ?_
          refine wp_aload_n (M := mX11_laysTrunks) (pc := 121) dX11_laysTrunks_121 rfl rfl ?_
          refine xs_getr (M := mX11_laysTrunks) (pc := 122) (r := 88) dX11_laysTrunks_122 fX11_25 sh82 rfl (gr82_7 sw) ?_
          refine wp_iload (M := mX11_laysTrunks) (pc := 125) dX11_laysTrunks_125 rfl ?_
          refine xs_iald (M := mX11_laysTrunks) (pc := 127) (j := x4.toNatClampNeg) dX11_laysTrunks_127 sh88 (p6 c1 c2 c3 c4) rfl ?_
          refine xs_iald (M := mX11_laysTrunks) (pc := 128) (j := (f 88 x4.toNatClampNeg).toNatClampNeg) dX11_laysTrunks_128 sh87 (p7 c1 c2 c3 c4) rfl ?_
          refine wp_iconst (M := mX11_laysTrunks) (pc := 129) dX11_laysTrunks_129 k_iconst_1 ?_
          refine wp_iadd (M := mX11_laysTrunks) (pc := 130) dX11_laysTrunks_130 ?_
          refine xs_iast (M := mX11_laysTrunks) (pc := 131) (j := x5.toNatClampNeg) dX11_laysTrunks_131 sh87 (p8 c1 c2 c3 c4) rfl ?_
          refine wp_aload_n (M := mX11_laysTrunks) (pc := 132) dX11_laysTrunks_132 rfl rfl ?_
          refine xs_getr (M := mX11_laysTrunks) (pc := 133) (r := 88) dX11_laysTrunks_133 fX11_25 sh82 rfl (gr82_7 sw) ?_
          refine wp_iload_n (M := mX11_laysTrunks) (pc := 136) dX11_laysTrunks_136 rfl rfl ?_
          refine wp_iload (M := mX11_laysTrunks) (pc := 137) dX11_laysTrunks_137 rfl ?_
          refine xs_iast (M := mX11_laysTrunks) (pc := 139) (j := x3.toNatClampNeg) dX11_laysTrunks_139 sh88 (p9 c1 c2 c3 c4) rfl ?_
          refine wp_iload_n (M := mX11_laysTrunks) (pc := 140) dX11_laysTrunks_140 rfl rfl ?_
          refine wp_iconst (M := mX11_laysTrunks) (pc := 141) dX11_laysTrunks_141 k_iconst_1 ?_
          refine wp_iadd (M := mX11_laysTrunks) (pc := 142) dX11_laysTrunks_142 ?_
          refine wp_istore_n (M := mX11_laysTrunks) (pc := 143) (ls' := [.ref 82, .int x1, .int x2, .int (x3 + 1), .int x4, .int x5]) dX11_laysTrunks_143 rfl (by decide) rfl ?_
          refine wp_iinc (M := mX11_laysTrunks) (pc := 144) (v := x5 + 1) (ls' := [.ref 82, .int x1, .int x2, .int (x3 + 1), .int x4, .int (x5 + 1)]) dX11_laysTrunks_144 rfl (congrArg (fun z => _ + z) k_iconst_1) (by decide) rfl ?_
          refine wp_goto (M := mX11_laysTrunks) (pc := 147) (t := 49) dX11_laysTrunks_147 (by decide) ?_
          exact p10 c1 c2 c3 c4
        · refine wp_goto (M := mX11_laysTrunks) (pc := 108) (t := 144) dX11_laysTrunks_108 (by decide) ?_
          refine wp_iinc (M := mX11_laysTrunks) (pc := 144) (v := x5 + 1) (ls' := [.ref 82, .int x1, .int x2, .int x3, .int x4, .int (x5 + 1)]) dX11_laysTrunks_144 rfl (congrArg (fun z => _ + z) k_iconst_1) (by decide) rfl ?_
          refine wp_goto (M := mX11_laysTrunks) (pc := 147) (t := 49) dX11_laysTrunks_147 (by decide) ?_
          exact p11 c1 c2 c3 c4
      · refine wp_aload_n (M := mX11_laysTrunks) (pc := 71) dX11_laysTrunks_71 rfl rfl ?_
        refine wp_aload_n (M := mX11_laysTrunks) (pc := 72) dX11_laysTrunks_72 rfl rfl ?_
        refine xs_getr (M := mX11_laysTrunks) (pc := 73) (r := 88) dX11_laysTrunks_73 fX11_25 sh82 rfl (gr82_7 sw) ?_
        refine wp_iload (M := mX11_laysTrunks) (pc := 76) dX11_laysTrunks_76 rfl ?_
        refine xs_iald (M := mX11_laysTrunks) (pc := 78) (j := x4.toNatClampNeg) dX11_laysTrunks_78 sh88 (p12 c1 c2 c3) rfl ?_
        refine wp_iload (M := mX11_laysTrunks) (pc := 79) dX11_laysTrunks_79 rfl ?_
        refine xs_callV (d := d + 1) (M := mX11_laysTrunks) (pc := 81) (As := [.int (f 88 x4.toNatClampNeg), .int x5]) (st := []) (c := 11) (ls' := [.ref 82, .int (f 88 x4.toNatClampNeg), .int x5]) dX11_laysTrunks_81 oX11_freeBetween nX11_freeBetween lX11_139 vX11_freeBetween sX11_freeBetween rfl sh82 (Nat.le_of_ble_eq_true rfl) rfl (Nat.le_of_ble_eq_true rfl) rfl ?_
        exact p13 c1 c2 c3
theorem bX11_laysTrunks_84 {G : GC} {d : Nat} {sw : Bool} {f : FF} {Q : QQ} {x1 : Int32} {x2 : Int32} {x3 : Int32} {x4 : Int32} {x5 : Int32} {s0 : Int32} (p1 : (¬ s0 = 0) → vp_in x4 8) (p2 : (¬ s0 = 0) → vp_in (f 88 x4.toNatClampNeg) 8) (p3 : (¬ s0 = 0) → vp_in x5 8) (p4 : (¬ s0 = 0) → vp_in x3 8) (p5 : (¬ s0 = 0) → XP G mX11_laysTrunks (d + 2) 49 [.ref 82, .int x1, .int x2, .int (x3 + 1), .int x4, .int (x5 + 1)] [] sw (upd2 (upd2 f 87 x5.toNatClampNeg ((f 87 ((f 88 x4.toNatClampNeg).toNatClampNeg)) + 1)) 88 x3.toNatClampNeg x5) Q) (p6 : (s0 = 0) → XP G mX11_laysTrunks (d + 2) 49 [.ref 82, .int x1, .int x2, .int x3, .int x4, .int (x5 + 1)] [] sw f Q) : XP G mX11_laysTrunks (d + 2) 84 [.ref 82, .int x1, .int x2, .int x3, .int x4, .int x5] [.int s0] sw f Q := by
  refine wp_goto (M := mX11_laysTrunks) (pc := 84) (t := 105) dX11_laysTrunks_84 (by decide) ?_
  refine wp_if_ne (M := mX11_laysTrunks) (pc := 105) (t := 111) dX11_laysTrunks_105 (by decide) (fun c1 => ?_) (fun c1 => ?_)
  · refine wp_aload_n (M := mX11_laysTrunks) (pc := 111) dX11_laysTrunks_111 rfl rfl ?_
    refine xs_getr (M := mX11_laysTrunks) (pc := 112) (r := 87) dX11_laysTrunks_112 fX11_22 sh82 rfl (gr82_6 sw) ?_
    refine wp_iload (M := mX11_laysTrunks) (pc := 115) dX11_laysTrunks_115 rfl ?_
    refine wp_aload_n (M := mX11_laysTrunks) (pc := 117) dX11_laysTrunks_117 rfl rfl ?_
    refine xs_getr (M := mX11_laysTrunks) (pc := 118) (r := 87) dX11_laysTrunks_118 fX11_22 sh82 rfl (gr82_6 sw) ?_
    refine wp_aload_n (M := mX11_laysTrunks) (pc := 121) dX11_laysTrunks_121 rfl rfl ?_
    refine xs_getr (M := mX11_laysTrunks) (pc := 122) (r := 88) dX11_laysTrunks_122 fX11_25 sh82 rfl (gr82_7 sw) ?_
    refine wp_iload (M := mX11_laysTrunks) (pc := 125) dX11_laysTrunks_125 rfl ?_
    refine xs_iald (M := mX11_laysTrunks) (pc := 127) (j := x4.toNatClampNeg) dX11_laysTrunks_127 sh88 (p1 c1) rfl ?_
    refine xs_iald (M := mX11_laysTrunks) (pc := 128) (j := (f 88 x4.toNatClampNeg).toNatClampNeg) dX11_laysTrunks_128 sh87 (p2 c1) rfl ?_
    refine wp_iconst (M := mX11_laysTrunks) (pc := 129) dX11_laysTrunks_129 k_iconst_1 ?_
    refine wp_iadd (M := mX11_laysTrunks) (pc := 130) dX11_laysTrunks_130 ?_
    refine xs_iast (M := mX11_laysTrunks) (pc := 131) (j := x5.toNatClampNeg) dX11_laysTrunks_131 sh87 (p3 c1) rfl ?_
    refine wp_aload_n (M := mX11_laysTrunks) (pc := 132) dX11_laysTrunks_132 rfl rfl ?_
    refine xs_getr (M := mX11_laysTrunks) (pc := 133) (r := 88) dX11_laysTrunks_133 fX11_25 sh82 rfl (gr82_7 sw) ?_
    refine wp_iload_n (M := mX11_laysTrunks) (pc := 136) dX11_laysTrunks_136 rfl rfl ?_
    refine wp_iload (M := mX11_laysTrunks) (pc := 137) dX11_laysTrunks_137 rfl ?_
    refine xs_iast (M := mX11_laysTrunks) (pc := 139) (j := x3.toNatClampNeg) dX11_laysTrunks_139 sh88 (p4 c1) rfl ?_
    refine wp_iload_n (M := mX11_laysTrunks) (pc := 140) dX11_laysTrunks_140 rfl rfl ?_
    refine wp_iconst (M := mX11_laysTrunks) (pc := 141) dX11_laysTrunks_141 k_iconst_1 ?_
    refine wp_iadd (M := mX11_laysTrunks) (pc := 142) dX11_laysTrunks_142 ?_
    refine wp_istore_n (M := mX11_laysTrunks) (pc := 143) (ls' := [.ref 82, .int x1, .int x2, .int (x3 + 1), .int x4, .int x5]) dX11_laysTrunks_143 rfl (by decide) rfl ?_
    refine wp_iinc (M := mX11_laysTrunks) (pc := 144) (v := x5 + 1) (ls' := [.ref 82, .int x1, .int x2, .int (x3 + 1), .int x4, .int (x5 + 1)]) dX11_laysTrunks_144 rfl (congrArg (fun z => _ + z) k_iconst_1) (by decide) rfl ?_
    refine wp_goto (M := mX11_laysTrunks) (pc := 147) (t := 49) dX11_laysTrunks_147 (by decide) ?_
    exact p5 c1
  · refine wp_goto (M := mX11_laysTrunks) (pc := 108) (t := 144) dX11_laysTrunks_108 (by decide) ?_
    refine wp_iinc (M := mX11_laysTrunks) (pc := 144) (v := x5 + 1) (ls' := [.ref 82, .int x1, .int x2, .int x3, .int x4, .int (x5 + 1)]) dX11_laysTrunks_144 rfl (congrArg (fun z => _ + z) k_iconst_1) (by decide) rfl ?_
    refine wp_goto (M := mX11_laysTrunks) (pc := 147) (t := 49) dX11_laysTrunks_147 (by decide) ?_
    exact p6 c1
theorem bX11_freeBetween_0 {G : GC} {d : Nat} {sw : Bool} {f : FF} {Q : QQ} {x1 : Int32} {x2 : Int32} (p1 : vp_in ((8 * x1) + x2) 64) (p2 : XP G mX11_usedBetween (d) 0 [.ref 82, .int x1, .int x2, .null, .null, .null, .null, .null] [] sw f (fun v sw' f' => XP G mX11_freeBetween (d + 1) 18 [.ref 82, .int x1, .int x2] (retst v [.int (f 86 (((8 * x1) + x2).toNatClampNeg)), .int 0]) sw' f' Q)) : XP G mX11_freeBetween (d + 1) 0 [.ref 82, .int x1, .int x2] [] sw f Q := by
  refine wp_iconst (M := mX11_freeBetween) (pc := 0) dX11_freeBetween_0 k_iconst_0 ?_
  refine wp_aload_n (M := mX11_freeBetween) (pc := 1) dX11_freeBetween_1 rfl rfl ?_
  refine xs_getr (M := mX11_freeBetween) (pc := 2) (r := 86) dX11_freeBetween_2 fX11_19 sh82 rfl (gr82_3 sw) ?_
  refine wp_bipush (M := mX11_freeBetween) (pc := 5) dX11_freeBetween_5 k_bipush_8 ?_
  refine wp_iload_n (M := mX11_freeBetween) (pc := 7) dX11_freeBetween_7 rfl rfl ?_
  refine wp_imul (M := mX11_freeBetween) (pc := 8) dX11_freeBetween_8 ?_
  refine wp_iload_n (M := mX11_freeBetween) (pc := 9) dX11_freeBetween_9 rfl rfl ?_
  refine wp_iadd (M := mX11_freeBetween) (pc := 10) dX11_freeBetween_10 ?_
  refine xs_iald (M := mX11_freeBetween) (pc := 11) (j := ((8 * x1) + x2).toNatClampNeg) dX11_freeBetween_11 sh86 (p1) rfl ?_
  refine wp_aload_n (M := mX11_freeBetween) (pc := 12) dX11_freeBetween_12 rfl rfl ?_
  refine wp_iload_n (M := mX11_freeBetween) (pc := 13) dX11_freeBetween_13 rfl rfl ?_
  refine wp_iload_n (M := mX11_freeBetween) (pc := 14) dX11_freeBetween_14 rfl rfl ?_
  refine xs_callV (d := d) (M := mX11_freeBetween) (pc := 15) (As := [.int x1, .int x2]) (st := [.int (f 86 (((8 * x1) + x2).toNatClampNeg)), .int 0]) (c := 11) (ls' := [.ref 82, .int x1, .int x2, .null, .null, .null, .null, .null]) dX11_freeBetween_15 oX11_usedBetween nX11_usedBetween lX11_132 vX11_usedBetween sX11_usedBetween rfl sh82 (Nat.le_of_ble_eq_true rfl) rfl (Nat.le_of_ble_eq_true rfl) rfl ?_
  exact p2
theorem bX11_freeBetween_18 {G : GC} {d : Nat} {sw : Bool} {f : FF} {Q : QQ} {x1 : Int32} {x2 : Int32} {s0 : Int32} {s1 : Int32} {s2 : Int32} (p1 : Q (some (.int (mxI s2 (s1 - s0)))) sw f) : XP G mX11_freeBetween (d + 1) 18 [.ref 82, .int x1, .int x2] [.int s0, .int s1, .int s2] sw f Q := by
  refine wp_isub (M := mX11_freeBetween) (pc := 18) dX11_freeBetween_18 ?_
  refine xs_callS (d := d) (M := mX11_freeBetween) (pc := 19) (As := [.int s2, .int (s1 - s0)]) (st := []) (ls' := [.int s2, .int (s1 - s0)]) dX11_freeBetween_19 oX11_max nX11_max lX11_136 tX11_max (Nat.le_of_ble_eq_true rfl) rfl (Nat.le_of_ble_eq_true rfl) rfl ?_
  refine sp_X11_max   ?_
  exact xs_iret (M := mX11_freeBetween) (pc := 22) dX11_freeBetween_22 rfl (p1)
theorem bX11_usedBetween_0 {G : GC} {d : Nat} {sw : Bool} {f : FF} {Q : QQ} {x1 : Int32} {x2 : Int32} (p1 : XP G mX11_usedBetween (d) 5 [.ref 82, .int x1, .int x2, .int 0, .int 0, .null, .null, .null] [] sw f Q) : XP G mX11_usedBetween (d) 0 [.ref 82, .int x1, .int x2, .null, .null, .null, .null, .null] [] sw f Q := by
  refine wp_iconst (M := mX11_usedBetween) (pc := 0) dX11_usedBetween_0 k_iconst_0 ?_
  refine wp_istore_n (M := mX11_usedBetween) (pc := 1) (ls' := [.ref 82, .int x1, .int x2, .int 0, .null, .null, .null, .null]) dX11_usedBetween_1 rfl (by decide) rfl ?_
  refine wp_iconst (M := mX11_usedBetween) (pc := 2) dX11_usedBetween_2 k_iconst_0 ?_
  refine wp_istore (M := mX11_usedBetween) (pc := 3) (ls' := [.ref 82, .int x1, .int x2, .int 0, .int 0, .null, .null, .null]) dX11_usedBetween_3 (by decide) rfl ?_
  exact p1
theorem bX11_usedBetween_5 {G : GC} {d : Nat} {sw : Bool} {f : FF} {Q : QQ} {x1 : Int32} {x2 : Int32} {x3 : Int32} {x4 : Int32} {v5 : Value} {v6 : Value} {v7 : Value} (p1 : (20 ≤ x4) → Q (some (.int x3)) sw f) (p2 : (¬ 20 ≤ x4) → XP G mX11_usedBetween (d) 15 [.ref 82, .int x1, .int x2, .int x3, .int x4, .int 0, v6, v7] [] sw f Q) : XP G mX11_usedBetween (d) 5 [.ref 82, .int x1, .int x2, .int x3, .int x4, v5, v6, v7] [] sw f Q := by
  refine wp_iload (M := mX11_usedBetween) (pc := 5) dX11_usedBetween_5 rfl ?_
  refine wp_bipush (M := mX11_usedBetween) (pc := 7) dX11_usedBetween_7 k_bipush_20 ?_
  refine wp_icmp_ge (M := mX11_usedBetween) (pc := 9) (t := 125) dX11_usedBetween_9 (by decide) (fun c1 => ?_) (fun c1 => ?_)
  · refine wp_iload_n (M := mX11_usedBetween) (pc := 125) dX11_usedBetween_125 rfl rfl ?_
    exact xs_iret (M := mX11_usedBetween) (pc := 126) dX11_usedBetween_126 rfl (p1 c1)
  · refine wp_iconst (M := mX11_usedBetween) (pc := 12) dX11_usedBetween_12 k_iconst_0 ?_
    refine wp_istore (M := mX11_usedBetween) (pc := 13) (ls' := [.ref 82, .int x1, .int x2, .int x3, .int x4, .int 0, v6, v7]) dX11_usedBetween_13 (by decide) rfl ?_
    exact p2 c1
theorem bX11_usedBetween_15 {G : GC} {d : Nat} {sw : Bool} {f : FF} {Q : QQ} {x1 : Int32} {x2 : Int32} {x3 : Int32} {x4 : Int32} {x5 : Int32} {v6 : Value} {v7 : Value} (p1 : vp_in (208 + x4) 391) (p2 : ((f 83 ((208 + x4).toNatClampNeg)) ≤ x5) → XP G mX11_usedBetween (d) 5 [.ref 82, .int x1, .int x2, .int x3, .int (x4 + 1), .int x5, v6, v7] [] sw f Q) (p3 : (¬ (f 83 ((208 + x4).toNatClampNeg)) ≤ x5) → vp_in (188 + x4) 391) (p4 : (¬ (f 83 ((208 + x4).toNatClampNeg)) ≤ x5) → ((f 83 ((188 + x4).toNatClampNeg)) ≤ 0) → XP G mX11_usedBetween (d) 5 [.ref 82, .int x1, .int x2, .int x3, .int (x4 + 1), .int x5, v6, v7] [] sw f Q) (p5 : (¬ (f 83 ((208 + x4).toNatClampNeg)) ≤ x5) → (¬ (f 83 ((188 + x4).toNatClampNeg)) ≤ 0) → vp_in ((228 + (8 * x4)) + x5) 391) (p6 : (¬ (f 83 ((208 + x4).toNatClampNeg)) ≤ x5) → (¬ (f 83 ((188 + x4).toNatClampNeg)) ≤ 0) → vp_in (((228 + (8 * x4)) + x5) + 1) 391) (p7 : (¬ (f 83 ((208 + x4).toNatClampNeg)) ≤ x5) → (¬ (f 83 ((188 + x4).toNatClampNeg)) ≤ 0) → (¬ (f 83 (((228 + (8 * x4)) + x5).toNatClampNeg)) = x1) → (¬ (f 83 (((228 + (8 * x4)) + x5).toNatClampNeg)) = x2) → XP G mX11_usedBetween (d) 15 [.ref 82, .int x1, .int x2, .int x3, .int x4, .int (x5 + 1), .int (f 83 (((228 + (8 * x4)) + x5).toNatClampNeg)), .int (f 83 ((((228 + (8 * x4)) + x5) + 1).toNatClampNeg))] [] sw f Q) (p8 : (¬ (f 83 ((208 + x4).toNatClampNeg)) ≤ x5) → (¬ (f 83 ((188 + x4).toNatClampNeg)) ≤ 0) → (¬ (f 83 (((228 + (8 * x4)) + x5).toNatClampNeg)) = x1) → ((f 83 (((228 + (8 * x4)) + x5).toNatClampNeg)) = x2) → (¬ (f 83 ((((228 + (8 * x4)) + x5) + 1).toNatClampNeg)) = x1) → XP G mX11_usedBetween (d) 15 [.ref 82, .int x1, .int x2, .int x3, .int x4, .int (x5 + 1), .int (f 83 (((228 + (8 * x4)) + x5).toNatClampNeg)), .int (f 83 ((((228 + (8 * x4)) + x5) + 1).toNatClampNeg))] [] sw f Q) (p9 : (¬ (f 83 ((208 + x4).toNatClampNeg)) ≤ x5) → (¬ (f 83 ((188 + x4).toNatClampNeg)) ≤ 0) → (¬ (f 83 (((228 + (8 * x4)) + x5).toNatClampNeg)) = x1) → ((f 83 (((228 + (8 * x4)) + x5).toNatClampNeg)) = x2) → ((f 83 ((((228 + (8 * x4)) + x5) + 1).toNatClampNeg)) = x1) → XP G mX11_usedBetween (d) 15 [.ref 82, .int x1, .int x2, .int (x3 + 1), .int x4, .int (x5 + 1), .int (f 83 (((228 + (8 * x4)) + x5).toNatClampNeg)), .int (f 83 ((((228 + (8 * x4)) + x5) + 1).toNatClampNeg))] [] sw f Q) (p10 : (¬ (f 83 ((208 + x4).toNatClampNeg)) ≤ x5) → (¬ (f 83 ((188 + x4).toNatClampNeg)) ≤ 0) → ((f 83 (((228 + (8 * x4)) + x5).toNatClampNeg)) = x1) → ((f 83 ((((228 + (8 * x4)) + x5) + 1).toNatClampNeg)) = x2) → XP G mX11_usedBetween (d) 15 [.ref 82, .int x1, .int x2, .int (x3 + 1), .int x4, .int (x5 + 1), .int (f 83 (((228 + (8 * x4)) + x5).toNatClampNeg)), .int (f 83 ((((228 + (8 * x4)) + x5) + 1).toNatClampNeg))] [] sw f Q) (p11 : (¬ (f 83 ((208 + x4).toNatClampNeg)) ≤ x5) → (¬ (f 83 ((188 + x4).toNatClampNeg)) ≤ 0) → ((f 83 (((228 + (8 * x4)) + x5).toNatClampNeg)) = x1) → (¬ (f 83 ((((228 + (8 * x4)) + x5) + 1).toNatClampNeg)) = x2) → (¬ (f 83 (((228 + (8 * x4)) + x5).toNatClampNeg)) = x2) → XP G mX11_usedBetween (d) 15 [.ref 82, .int x1, .int x2, .int x3, .int x4, .int (x5 + 1), .int (f 83 (((228 + (8 * x4)) + x5).toNatClampNeg)), .int (f 83 ((((228 + (8 * x4)) + x5) + 1).toNatClampNeg))] [] sw f Q) (p12 : (¬ (f 83 ((208 + x4).toNatClampNeg)) ≤ x5) → (¬ (f 83 ((188 + x4).toNatClampNeg)) ≤ 0) → ((f 83 (((228 + (8 * x4)) + x5).toNatClampNeg)) = x1) → (¬ (f 83 ((((228 + (8 * x4)) + x5) + 1).toNatClampNeg)) = x2) → ((f 83 (((228 + (8 * x4)) + x5).toNatClampNeg)) = x2) → (¬ (f 83 ((((228 + (8 * x4)) + x5) + 1).toNatClampNeg)) = x1) → XP G mX11_usedBetween (d) 15 [.ref 82, .int x1, .int x2, .int x3, .int x4, .int (x5 + 1), .int (f 83 (((228 + (8 * x4)) + x5).toNatClampNeg)), .int (f 83 ((((228 + (8 * x4)) + x5) + 1).toNatClampNeg))] [] sw f Q) (p13 : (¬ (f 83 ((208 + x4).toNatClampNeg)) ≤ x5) → (¬ (f 83 ((188 + x4).toNatClampNeg)) ≤ 0) → ((f 83 (((228 + (8 * x4)) + x5).toNatClampNeg)) = x1) → (¬ (f 83 ((((228 + (8 * x4)) + x5) + 1).toNatClampNeg)) = x2) → ((f 83 (((228 + (8 * x4)) + x5).toNatClampNeg)) = x2) → ((f 83 ((((228 + (8 * x4)) + x5) + 1).toNatClampNeg)) = x1) → XP G mX11_usedBetween (d) 15 [.ref 82, .int x1, .int x2, .int (x3 + 1), .int x4, .int (x5 + 1), .int (f 83 (((228 + (8 * x4)) + x5).toNatClampNeg)), .int (f 83 ((((228 + (8 * x4)) + x5) + 1).toNatClampNeg))] [] sw f Q) : XP G mX11_usedBetween (d) 15 [.ref 82, .int x1, .int x2, .int x3, .int x4, .int x5, v6, v7] [] sw f Q := by
  refine wp_iload (M := mX11_usedBetween) (pc := 15) dX11_usedBetween_15 rfl ?_
  refine wp_aload_n (M := mX11_usedBetween) (pc := 17) dX11_usedBetween_17 rfl rfl ?_
  refine xs_getr (M := mX11_usedBetween) (pc := 18) (r := 83) dX11_usedBetween_18 fX11_7 sh82 rfl (gr82_0 sw) ?_
  refine wp_sipush (M := mX11_usedBetween) (pc := 21) dX11_usedBetween_21 k_sipush_208 ?_
  refine wp_iload (M := mX11_usedBetween) (pc := 24) dX11_usedBetween_24 rfl ?_
  refine wp_iadd (M := mX11_usedBetween) (pc := 26) dX11_usedBetween_26 ?_
  refine xs_iald (M := mX11_usedBetween) (pc := 27) (j := (208 + x4).toNatClampNeg) dX11_usedBetween_27 sh83 (p1) rfl ?_
  refine wp_icmp_ge (M := mX11_usedBetween) (pc := 28) (t := 119) dX11_usedBetween_28 (by decide) (fun c1 => ?_) (fun c1 => ?_)
  · refine wp_iinc (M := mX11_usedBetween) (pc := 119) (v := x4 + 1) (ls' := [.ref 82, .int x1, .int x2, .int x3, .int (x4 + 1), .int x5, v6, v7]) dX11_usedBetween_119 rfl (congrArg (fun z => _ + z) k_iconst_1) (by decide) rfl ?_
    refine wp_goto (M := mX11_usedBetween) (pc := 122) (t := 5) dX11_usedBetween_122 (by decide) ?_
    exact p2 c1
  · refine wp_aload_n (M := mX11_usedBetween) (pc := 31) dX11_usedBetween_31 rfl rfl ?_
    refine xs_getr (M := mX11_usedBetween) (pc := 32) (r := 83) dX11_usedBetween_32 fX11_7 sh82 rfl (gr82_0 sw) ?_
    refine wp_sipush (M := mX11_usedBetween) (pc := 35) dX11_usedBetween_35 k_sipush_188 ?_
    refine wp_iload (M := mX11_usedBetween) (pc := 38) dX11_usedBetween_38 rfl ?_
    refine wp_iadd (M := mX11_usedBetween) (pc := 40) dX11_usedBetween_40 ?_
    refine xs_iald (M := mX11_usedBetween) (pc := 41) (j := (188 + x4).toNatClampNeg) dX11_usedBetween_41 sh83 (p3 c1) rfl ?_
    refine wp_if_le (M := mX11_usedBetween) (pc := 42) (t := 119) dX11_usedBetween_42 (by decide) (fun c2 => ?_) (fun c2 => ?_)
    · refine wp_iinc (M := mX11_usedBetween) (pc := 119) (v := x4 + 1) (ls' := [.ref 82, .int x1, .int x2, .int x3, .int (x4 + 1), .int x5, v6, v7]) dX11_usedBetween_119 rfl (congrArg (fun z => _ + z) k_iconst_1) (by decide) rfl ?_
      refine wp_goto (M := mX11_usedBetween) (pc := 122) (t := 5) dX11_usedBetween_122 (by decide) ?_
      exact p4 c1 c2
    · refine wp_aload_n (M := mX11_usedBetween) (pc := 45) dX11_usedBetween_45 rfl rfl ?_
      refine xs_getr (M := mX11_usedBetween) (pc := 46) (r := 83) dX11_usedBetween_46 fX11_7 sh82 rfl (gr82_0 sw) ?_
      refine wp_sipush (M := mX11_usedBetween) (pc := 49) dX11_usedBetween_49 k_sipush_228 ?_
      refine wp_bipush (M := mX11_usedBetween) (pc := 52) dX11_usedBetween_52 k_bipush_8 ?_
      refine wp_iload (M := mX11_usedBetween) (pc := 54) dX11_usedBetween_54 rfl ?_
      refine wp_imul (M := mX11_usedBetween) (pc := 56) dX11_usedBetween_56 ?_
      refine wp_iadd (M := mX11_usedBetween) (pc := 57) dX11_usedBetween_57 ?_
      refine wp_iload (M := mX11_usedBetween) (pc := 58) dX11_usedBetween_58 rfl ?_
      refine wp_iadd (M := mX11_usedBetween) (pc := 60) dX11_usedBetween_60 ?_
      refine xs_iald (M := mX11_usedBetween) (pc := 61) (j := ((228 + (8 * x4)) + x5).toNatClampNeg) dX11_usedBetween_61 sh83 (p5 c1 c2) rfl ?_
      refine wp_istore (M := mX11_usedBetween) (pc := 62) (ls' := [.ref 82, .int x1, .int x2, .int x3, .int x4, .int x5, .int (f 83 (((228 + (8 * x4)) + x5).toNatClampNeg)), v7]) dX11_usedBetween_62 (by decide) rfl ?_
      refine wp_aload_n (M := mX11_usedBetween) (pc := 64) dX11_usedBetween_64 rfl rfl ?_
      refine xs_getr (M := mX11_usedBetween) (pc := 65) (r := 83) dX11_usedBetween_65 fX11_7 sh82 rfl (gr82_0 sw) ?_
      refine wp_sipush (M := mX11_usedBetween) (pc := 68) dX11_usedBetween_68 k_sipush_228 ?_
      refine wp_bipush (M := mX11_usedBetween) (pc := 71) dX11_usedBetween_71 k_bipush_8 ?_
      refine wp_iload (M := mX11_usedBetween) (pc := 73) dX11_usedBetween_73 rfl ?_
      refine wp_imul (M := mX11_usedBetween) (pc := 75) dX11_usedBetween_75 ?_
      refine wp_iadd (M := mX11_usedBetween) (pc := 76) dX11_usedBetween_76 ?_
      refine wp_iload (M := mX11_usedBetween) (pc := 77) dX11_usedBetween_77 rfl ?_
      refine wp_iadd (M := mX11_usedBetween) (pc := 79) dX11_usedBetween_79 ?_
      refine wp_iconst (M := mX11_usedBetween) (pc := 80) dX11_usedBetween_80 k_iconst_1 ?_
      refine wp_iadd (M := mX11_usedBetween) (pc := 81) dX11_usedBetween_81 ?_
      refine xs_iald (M := mX11_usedBetween) (pc := 82) (j := (((228 + (8 * x4)) + x5) + 1).toNatClampNeg) dX11_usedBetween_82 sh83 (p6 c1 c2) rfl ?_
      refine wp_istore (M := mX11_usedBetween) (pc := 83) (ls' := [.ref 82, .int x1, .int x2, .int x3, .int x4, .int x5, .int (f 83 (((228 + (8 * x4)) + x5).toNatClampNeg)), .int (f 83 ((((228 + (8 * x4)) + x5) + 1).toNatClampNeg))]) dX11_usedBetween_83 (by decide) rfl ?_
      refine wp_iload (M := mX11_usedBetween) (pc := 85) dX11_usedBetween_85 rfl ?_
      refine wp_iload_n (M := mX11_usedBetween) (pc := 87) dX11_usedBetween_87 rfl rfl ?_
      refine wp_icmp_ne (M := mX11_usedBetween) (pc := 88) (t := 97) dX11_usedBetween_88 (by decide) (fun c3 => ?_) (fun c3 => ?_)
      · refine wp_iload (M := mX11_usedBetween) (pc := 97) dX11_usedBetween_97 rfl ?_
        refine wp_iload_n (M := mX11_usedBetween) (pc := 99) dX11_usedBetween_99 rfl rfl ?_
        refine wp_icmp_ne (M := mX11_usedBetween) (pc := 100) (t := 113) dX11_usedBetween_100 (by decide) (fun c4 => ?_) (fun c4 => ?_)
        · refine wp_iinc (M := mX11_usedBetween) (pc := 113) (v := x5 + 1) (ls' := [.ref 82, .int x1, .int x2, .int x3, .int x4, .int (x5 + 1), .int (f 83 (((228 + (8 * x4)) + x5).toNatClampNeg)), .int (f 83 ((((228 + (8 * x4)) + x5) + 1).toNatClampNeg))]) dX11_usedBetween_113 rfl (congrArg (fun z => _ + z) k_iconst_1) (by decide) rfl ?_
          refine wp_goto (M := mX11_usedBetween) (pc := 116) (t := 15) dX11_usedBetween_116 (by decide) ?_
          exact p7 c1 c2 c3 c4
        · refine wp_iload (M := mX11_usedBetween) (pc := 103) dX11_usedBetween_103 rfl ?_
          refine wp_iload_n (M := mX11_usedBetween) (pc := 105) dX11_usedBetween_105 rfl rfl ?_
          refine wp_icmp_ne (M := mX11_usedBetween) (pc := 106) (t := 113) dX11_usedBetween_106 (by decide) (fun c5 => ?_) (fun c5 => ?_)
          · refine wp_iinc (M := mX11_usedBetween) (pc := 113) (v := x5 + 1) (ls' := [.ref 82, .int x1, .int x2, .int x3, .int x4, .int (x5 + 1), .int (f 83 (((228 + (8 * x4)) + x5).toNatClampNeg)), .int (f 83 ((((228 + (8 * x4)) + x5) + 1).toNatClampNeg))]) dX11_usedBetween_113 rfl (congrArg (fun z => _ + z) k_iconst_1) (by decide) rfl ?_
            refine wp_goto (M := mX11_usedBetween) (pc := 116) (t := 15) dX11_usedBetween_116 (by decide) ?_
            exact p8 c1 c2 c3 c4 c5
          · refine wp_iload_n (M := mX11_usedBetween) (pc := 109) dX11_usedBetween_109 rfl rfl ?_
            refine wp_iconst (M := mX11_usedBetween) (pc := 110) dX11_usedBetween_110 k_iconst_1 ?_
            refine wp_iadd (M := mX11_usedBetween) (pc := 111) dX11_usedBetween_111 ?_
            refine wp_istore_n (M := mX11_usedBetween) (pc := 112) (ls' := [.ref 82, .int x1, .int x2, .int (x3 + 1), .int x4, .int x5, .int (f 83 (((228 + (8 * x4)) + x5).toNatClampNeg)), .int (f 83 ((((228 + (8 * x4)) + x5) + 1).toNatClampNeg))]) dX11_usedBetween_112 rfl (by decide) rfl ?_
            refine wp_iinc (M := mX11_usedBetween) (pc := 113) (v := x5 + 1) (ls' := [.ref 82, .int x1, .int x2, .int (x3 + 1), .int x4, .int (x5 + 1), .int (f 83 (((228 + (8 * x4)) + x5).toNatClampNeg)), .int (f 83 ((((228 + (8 * x4)) + x5) + 1).toNatClampNeg))]) dX11_usedBetween_113 rfl (congrArg (fun z => _ + z) k_iconst_1) (by decide) rfl ?_
            refine wp_goto (M := mX11_usedBetween) (pc := 116) (t := 15) dX11_usedBetween_116 (by decide) ?_
            exact p9 c1 c2 c3 c4 c5
      · refine wp_iload (M := mX11_usedBetween) (pc := 91) dX11_usedBetween_91 rfl ?_
        refine wp_iload_n (M := mX11_usedBetween) (pc := 93) dX11_usedBetween_93 rfl rfl ?_
        refine wp_icmp_eq (M := mX11_usedBetween) (pc := 94) (t := 109) dX11_usedBetween_94 (by decide) (fun c6 => ?_) (fun c6 => ?_)
        · refine wp_iload_n (M := mX11_usedBetween) (pc := 109) dX11_usedBetween_109 rfl rfl ?_
          refine wp_iconst (M := mX11_usedBetween) (pc := 110) dX11_usedBetween_110 k_iconst_1 ?_
          refine wp_iadd (M := mX11_usedBetween) (pc := 111) dX11_usedBetween_111 ?_
          refine wp_istore_n (M := mX11_usedBetween) (pc := 112) (ls' := [.ref 82, .int x1, .int x2, .int (x3 + 1), .int x4, .int x5, .int (f 83 (((228 + (8 * x4)) + x5).toNatClampNeg)), .int (f 83 ((((228 + (8 * x4)) + x5) + 1).toNatClampNeg))]) dX11_usedBetween_112 rfl (by decide) rfl ?_
          refine wp_iinc (M := mX11_usedBetween) (pc := 113) (v := x5 + 1) (ls' := [.ref 82, .int x1, .int x2, .int (x3 + 1), .int x4, .int (x5 + 1), .int (f 83 (((228 + (8 * x4)) + x5).toNatClampNeg)), .int (f 83 ((((228 + (8 * x4)) + x5) + 1).toNatClampNeg))]) dX11_usedBetween_113 rfl (congrArg (fun z => _ + z) k_iconst_1) (by decide) rfl ?_
          refine wp_goto (M := mX11_usedBetween) (pc := 116) (t := 15) dX11_usedBetween_116 (by decide) ?_
          exact p10 c1 c2 c3 c6
        · refine wp_iload (M := mX11_usedBetween) (pc := 97) dX11_usedBetween_97 rfl ?_
          refine wp_iload_n (M := mX11_usedBetween) (pc := 99) dX11_usedBetween_99 rfl rfl ?_
          refine wp_icmp_ne (M := mX11_usedBetween) (pc := 100) (t := 113) dX11_usedBetween_100 (by decide) (fun c7 => ?_) (fun c7 => ?_)
          · refine wp_iinc (M := mX11_usedBetween) (pc := 113) (v := x5 + 1) (ls' := [.ref 82, .int x1, .int x2, .int x3, .int x4, .int (x5 + 1), .int (f 83 (((228 + (8 * x4)) + x5).toNatClampNeg)), .int (f 83 ((((228 + (8 * x4)) + x5) + 1).toNatClampNeg))]) dX11_usedBetween_113 rfl (congrArg (fun z => _ + z) k_iconst_1) (by decide) rfl ?_
            refine wp_goto (M := mX11_usedBetween) (pc := 116) (t := 15) dX11_usedBetween_116 (by decide) ?_
            exact p11 c1 c2 c3 c6 c7
          · refine wp_iload (M := mX11_usedBetween) (pc := 103) dX11_usedBetween_103 rfl ?_
            refine wp_iload_n (M := mX11_usedBetween) (pc := 105) dX11_usedBetween_105 rfl rfl ?_
            refine wp_icmp_ne (M := mX11_usedBetween) (pc := 106) (t := 113) dX11_usedBetween_106 (by decide) (fun c8 => ?_) (fun c8 => ?_)
            · refine wp_iinc (M := mX11_usedBetween) (pc := 113) (v := x5 + 1) (ls' := [.ref 82, .int x1, .int x2, .int x3, .int x4, .int (x5 + 1), .int (f 83 (((228 + (8 * x4)) + x5).toNatClampNeg)), .int (f 83 ((((228 + (8 * x4)) + x5) + 1).toNatClampNeg))]) dX11_usedBetween_113 rfl (congrArg (fun z => _ + z) k_iconst_1) (by decide) rfl ?_
              refine wp_goto (M := mX11_usedBetween) (pc := 116) (t := 15) dX11_usedBetween_116 (by decide) ?_
              exact p12 c1 c2 c3 c6 c7 c8
            · refine wp_iload_n (M := mX11_usedBetween) (pc := 109) dX11_usedBetween_109 rfl rfl ?_
              refine wp_iconst (M := mX11_usedBetween) (pc := 110) dX11_usedBetween_110 k_iconst_1 ?_
              refine wp_iadd (M := mX11_usedBetween) (pc := 111) dX11_usedBetween_111 ?_
              refine wp_istore_n (M := mX11_usedBetween) (pc := 112) (ls' := [.ref 82, .int x1, .int x2, .int (x3 + 1), .int x4, .int x5, .int (f 83 (((228 + (8 * x4)) + x5).toNatClampNeg)), .int (f 83 ((((228 + (8 * x4)) + x5) + 1).toNatClampNeg))]) dX11_usedBetween_112 rfl (by decide) rfl ?_
              refine wp_iinc (M := mX11_usedBetween) (pc := 113) (v := x5 + 1) (ls' := [.ref 82, .int x1, .int x2, .int (x3 + 1), .int x4, .int (x5 + 1), .int (f 83 (((228 + (8 * x4)) + x5).toNatClampNeg)), .int (f 83 ((((228 + (8 * x4)) + x5) + 1).toNatClampNeg))]) dX11_usedBetween_113 rfl (congrArg (fun z => _ + z) k_iconst_1) (by decide) rfl ?_
              refine wp_goto (M := mX11_usedBetween) (pc := 116) (t := 15) dX11_usedBetween_116 (by decide) ?_
              exact p13 c1 c2 c3 c6 c7 c8
theorem bX11_freePlace_0 {G : GC} {d : Nat} {sw : Bool} {f : FF} {Q : QQ}  (p1 : XP G mX11_freePlace (d) 2 [.ref 82, .int 0] [] sw f Q) : XP G mX11_freePlace (d) 0 [.ref 82, .null] [] sw f Q := by
  refine wp_iconst (M := mX11_freePlace) (pc := 0) dX11_freePlace_0 k_iconst_0 ?_
  refine wp_istore_n (M := mX11_freePlace) (pc := 1) (ls' := [.ref 82, .int 0]) dX11_freePlace_1 rfl (by decide) rfl ?_
  exact p1
theorem bX11_freePlace_2 {G : GC} {d : Nat} {sw : Bool} {f : FF} {Q : QQ} {x1 : Int32} (p1 : (20 ≤ x1) → Q (some (.int x1)) sw f) (p2 : (¬ 20 ≤ x1) → vp_in (188 + x1) 391) (p3 : (¬ 20 ≤ x1) → ((f 83 ((188 + x1).toNatClampNeg)) ≤ 0) → Q (some (.int x1)) sw f) (p4 : (¬ 20 ≤ x1) → (¬ (f 83 ((188 + x1).toNatClampNeg)) ≤ 0) → XP G mX11_freePlace (d) 2 [.ref 82, .int (x1 + 1)] [] sw f Q) : XP G mX11_freePlace (d) 2 [.ref 82, .int x1] [] sw f Q := by
  refine wp_iload_n (M := mX11_freePlace) (pc := 2) dX11_freePlace_2 rfl rfl ?_
  refine wp_bipush (M := mX11_freePlace) (pc := 3) dX11_freePlace_3 k_bipush_20 ?_
  refine wp_icmp_ge (M := mX11_freePlace) (pc := 5) (t := 28) dX11_freePlace_5 (by decide) (fun c1 => ?_) (fun c1 => ?_)
  · refine wp_iload_n (M := mX11_freePlace) (pc := 28) dX11_freePlace_28 rfl rfl ?_
    exact xs_iret (M := mX11_freePlace) (pc := 29) dX11_freePlace_29 rfl (p1 c1)
  · refine wp_aload_n (M := mX11_freePlace) (pc := 8) dX11_freePlace_8 rfl rfl ?_
    refine xs_getr (M := mX11_freePlace) (pc := 9) (r := 83) dX11_freePlace_9 fX11_7 sh82 rfl (gr82_0 sw) ?_
    refine wp_sipush (M := mX11_freePlace) (pc := 12) dX11_freePlace_12 k_sipush_188 ?_
    refine wp_iload_n (M := mX11_freePlace) (pc := 15) dX11_freePlace_15 rfl rfl ?_
    refine wp_iadd (M := mX11_freePlace) (pc := 16) dX11_freePlace_16 ?_
    refine xs_iald (M := mX11_freePlace) (pc := 17) (j := (188 + x1).toNatClampNeg) dX11_freePlace_17 sh83 (p2 c1) rfl ?_
    refine wp_if_le (M := mX11_freePlace) (pc := 18) (t := 28) dX11_freePlace_18 (by decide) (fun c2 => ?_) (fun c2 => ?_)
    · refine wp_iload_n (M := mX11_freePlace) (pc := 28) dX11_freePlace_28 rfl rfl ?_
      exact xs_iret (M := mX11_freePlace) (pc := 29) dX11_freePlace_29 rfl (p3 c1 c2)
    · refine wp_iload_n (M := mX11_freePlace) (pc := 21) dX11_freePlace_21 rfl rfl ?_
      refine wp_iconst (M := mX11_freePlace) (pc := 22) dX11_freePlace_22 k_iconst_1 ?_
      refine wp_iadd (M := mX11_freePlace) (pc := 23) dX11_freePlace_23 ?_
      refine wp_istore_n (M := mX11_freePlace) (pc := 24) (ls' := [.ref 82, .int (x1 + 1)]) dX11_freePlace_24 rfl (by decide) rfl ?_
      refine wp_goto (M := mX11_freePlace) (pc := 25) (t := 2) dX11_freePlace_25 (by decide) ?_
      exact p4 c1 c2
theorem bX11_holdsAny_0 {G : GC} {d : Nat} {sw : Bool} {f : FF} {Q : QQ} {x1 : Int32} (p1 : XP G mX11_holdsAny (d + 2) 2 [.ref 82, .int x1, .int 0] [] sw f Q) : XP G mX11_holdsAny (d + 2) 0 [.ref 82, .int x1, .null] [] sw f Q := by
  refine wp_iconst (M := mX11_holdsAny) (pc := 0) dX11_holdsAny_0 k_iconst_0 ?_
  refine wp_istore_n (M := mX11_holdsAny) (pc := 1) (ls' := [.ref 82, .int x1, .int 0]) dX11_holdsAny_1 rfl (by decide) rfl ?_
  exact p1
theorem bX11_holdsAny_2 {G : GC} {d : Nat} {sw : Bool} {f : FF} {Q : QQ} {x1 : Int32} {x2 : Int32} (p1 : ((f 82 19) ≤ x2) → Q (some (.int 0)) sw f) (p2 : (¬ (f 82 19) ≤ x2) → vp_in x2 16) (p3 : (¬ (f 82 19) ≤ x2) → (¬ (f 98 x2.toNatClampNeg) = x1) → XP G mX11_holdsAny (d + 2) 2 [.ref 82, .int x1, .int (x2 + 1)] [] sw f Q) (p4 : (¬ (f 82 19) ≤ x2) → ((f 98 x2.toNatClampNeg) = x1) → vp_in x2 16) (p5 : (¬ (f 82 19) ≤ x2) → ((f 98 x2.toNatClampNeg) = x1) → vp_in x2 16) (p6 : (¬ (f 82 19) ≤ x2) → ((f 98 x2.toNatClampNeg) = x1) → XP G mX11_comesTo (d + 1) 0 [.ref 82, .int (f 100 x2.toNatClampNeg), .int (f 101 x2.toNatClampNeg), .null, .null, .null, .null, .null] [] sw f (fun v sw' f' => XP G mX11_holdsAny (d + 2) 36 [.ref 82, .int x1, .int x2] (retst v []) sw' f' Q)) : XP G mX11_holdsAny (d + 2) 2 [.ref 82, .int x1, .int x2] [] sw f Q := by
  refine wp_iload_n (M := mX11_holdsAny) (pc := 2) dX11_holdsAny_2 rfl rfl ?_
  refine wp_aload_n (M := mX11_holdsAny) (pc := 3) dX11_holdsAny_3 rfl rfl ?_
  refine xs_geti (M := mX11_holdsAny) (pc := 4) dX11_holdsAny_4 fX11_244 sh82 rfl ?_
  refine wp_icmp_ge (M := mX11_holdsAny) (pc := 7) (t := 48) dX11_holdsAny_7 (by decide) (fun c1 => ?_) (fun c1 => ?_)
  · refine wp_iconst (M := mX11_holdsAny) (pc := 48) dX11_holdsAny_48 k_iconst_0 ?_
    exact xs_zret (M := mX11_holdsAny) (pc := 49) dX11_holdsAny_49 rfl (by decide) (p1 c1)
  · refine wp_aload_n (M := mX11_holdsAny) (pc := 10) dX11_holdsAny_10 rfl rfl ?_
    refine xs_getr (M := mX11_holdsAny) (pc := 11) (r := 98) dX11_holdsAny_11 fX11_56 sh82 rfl (gr82_27 sw) ?_
    refine wp_iload_n (M := mX11_holdsAny) (pc := 14) dX11_holdsAny_14 rfl rfl ?_
    refine xs_iald (M := mX11_holdsAny) (pc := 15) (j := x2.toNatClampNeg) dX11_holdsAny_15 sh98 (p2 c1) rfl ?_
    refine wp_iload_n (M := mX11_holdsAny) (pc := 16) dX11_holdsAny_16 rfl rfl ?_
    refine wp_icmp_ne (M := mX11_holdsAny) (pc := 17) (t := 42) dX11_holdsAny_17 (by decide) (fun c2 => ?_) (fun c2 => ?_)
    · refine wp_iinc (M := mX11_holdsAny) (pc := 42) (v := x2 + 1) (ls' := [.ref 82, .int x1, .int (x2 + 1)]) dX11_holdsAny_42 rfl (congrArg (fun z => _ + z) k_iconst_1) (by decide) rfl ?_
      refine wp_goto (M := mX11_holdsAny) (pc := 45) (t := 2) dX11_holdsAny_45 (by decide) ?_
      exact p3 c1 c2
    · refine wp_aload_n (M := mX11_holdsAny) (pc := 20) dX11_holdsAny_20 rfl rfl ?_
      refine wp_aload_n (M := mX11_holdsAny) (pc := 21) dX11_holdsAny_21 rfl rfl ?_
      refine xs_getr (M := mX11_holdsAny) (pc := 22) (r := 100) dX11_holdsAny_22 fX11_62 sh82 rfl (gr82_29 sw) ?_
      refine wp_iload_n (M := mX11_holdsAny) (pc := 25) dX11_holdsAny_25 rfl rfl ?_
      refine xs_iald (M := mX11_holdsAny) (pc := 26) (j := x2.toNatClampNeg) dX11_holdsAny_26 sh100 (p4 c1 c2) rfl ?_
      refine wp_aload_n (M := mX11_holdsAny) (pc := 27) dX11_holdsAny_27 rfl rfl ?_
      refine xs_getr (M := mX11_holdsAny) (pc := 28) (r := 101) dX11_holdsAny_28 fX11_65 sh82 rfl (gr82_30 sw) ?_
      refine wp_iload_n (M := mX11_holdsAny) (pc := 31) dX11_holdsAny_31 rfl rfl ?_
      refine xs_iald (M := mX11_holdsAny) (pc := 32) (j := x2.toNatClampNeg) dX11_holdsAny_32 sh101 (p5 c1 c2) rfl ?_
      refine xs_callV (d := d + 1) (M := mX11_holdsAny) (pc := 33) (As := [.int (f 100 x2.toNatClampNeg), .int (f 101 x2.toNatClampNeg)]) (st := []) (c := 11) (ls' := [.ref 82, .int (f 100 x2.toNatClampNeg), .int (f 101 x2.toNatClampNeg), .null, .null, .null, .null, .null]) dX11_holdsAny_33 oX11_comesTo nX11_comesTo lX11_251 vX11_comesTo sX11_comesTo rfl sh82 (Nat.le_of_ble_eq_true rfl) rfl (Nat.le_of_ble_eq_true rfl) rfl ?_
      exact p6 c1 c2
theorem bX11_holdsAny_36 {G : GC} {d : Nat} {sw : Bool} {f : FF} {Q : QQ} {x1 : Int32} {x2 : Int32} {s0 : Int32} (p1 : (¬ s0 = 1) → XP G mX11_holdsAny (d + 2) 2 [.ref 82, .int x1, .int (x2 + 1)] [] sw f Q) (p2 : (s0 = 1) → Q (some (.int 1)) sw f) : XP G mX11_holdsAny (d + 2) 36 [.ref 82, .int x1, .int x2] [.int s0] sw f Q := by
  refine wp_iconst (M := mX11_holdsAny) (pc := 36) dX11_holdsAny_36 k_iconst_1 ?_
  refine wp_icmp_ne (M := mX11_holdsAny) (pc := 37) (t := 42) dX11_holdsAny_37 (by decide) (fun c1 => ?_) (fun c1 => ?_)
  · refine wp_iinc (M := mX11_holdsAny) (pc := 42) (v := x2 + 1) (ls' := [.ref 82, .int x1, .int (x2 + 1)]) dX11_holdsAny_42 rfl (congrArg (fun z => _ + z) k_iconst_1) (by decide) rfl ?_
    refine wp_goto (M := mX11_holdsAny) (pc := 45) (t := 2) dX11_holdsAny_45 (by decide) ?_
    exact p1 c1
  · refine wp_iconst (M := mX11_holdsAny) (pc := 40) dX11_holdsAny_40 k_iconst_1 ?_
    exact xs_zret (M := mX11_holdsAny) (pc := 41) dX11_holdsAny_41 rfl (by decide) (p2 c1)
theorem bX11_mayBeCut_0 {G : GC} {d : Nat} {sw : Bool} {f : FF} {Q : QQ} {x1 : Int32} (p1 : XP G mX11_feels (d + 2) 0 [.ref 82, .int x1] [] sw f (fun v sw' f' => XP G mX11_mayBeCut (d + 3) 5 [.ref 82, .int x1] (retst v []) sw' f' Q)) : XP G mX11_mayBeCut (d + 3) 0 [.ref 82, .int x1] [] sw f Q := by
  refine wp_aload_n (M := mX11_mayBeCut) (pc := 0) dX11_mayBeCut_0 rfl rfl ?_
  refine wp_iload_n (M := mX11_mayBeCut) (pc := 1) dX11_mayBeCut_1 rfl rfl ?_
  refine xs_callV (d := d + 2) (M := mX11_mayBeCut) (pc := 2) (As := [.int x1]) (st := []) (c := 11) (ls' := [.ref 82, .int x1]) dX11_mayBeCut_2 oX11_feels nX11_feels lX11_285 vX11_feels sX11_feels rfl sh82 (Nat.le_of_ble_eq_true rfl) rfl (Nat.le_of_ble_eq_true rfl) rfl ?_
  exact p1
theorem bX11_mayBeCut_5 {G : GC} {d : Nat} {sw : Bool} {f : FF} {Q : QQ} {x1 : Int32} (p1 : XP G mX11_holdsAny (d + 2) 0 [.ref 82, .int 120, .null] [] sw f (fun v sw' f' => XP G mX11_mayBeCut (d + 3) 11 [.ref 82, .int x1] (retst v []) sw' f' Q)) : XP G mX11_mayBeCut (d + 3) 5 [.ref 82, .int x1] [] sw f Q := by
  refine wp_aload_n (M := mX11_mayBeCut) (pc := 5) dX11_mayBeCut_5 rfl rfl ?_
  refine wp_bipush (M := mX11_mayBeCut) (pc := 6) dX11_mayBeCut_6 k_bipush_120 ?_
  refine xs_callV (d := d + 2) (M := mX11_mayBeCut) (pc := 8) (As := [.int 120]) (st := []) (c := 11) (ls' := [.ref 82, .int 120, .null]) dX11_mayBeCut_8 oX11_holdsAny nX11_holdsAny lX11_291 vX11_holdsAny sX11_holdsAny rfl sh82 (Nat.le_of_ble_eq_true rfl) rfl (Nat.le_of_ble_eq_true rfl) rfl ?_
  exact p1
theorem bX11_mayBeCut_11 {G : GC} {d : Nat} {sw : Bool} {f : FF} {Q : QQ} {x1 : Int32} {s0 : Int32} (p1 : (¬ s0 = 0) → vp_in (48 + x1) 391) (p2 : (¬ s0 = 0) → XP G mX11_endsCallOf (d + 2) 0 [.ref 82, .int x1, .null] [] sw (upd2 f 83 ((48 + x1).toNatClampNeg) 0) (fun v sw' f' => XP G mX11_mayBeCut (d + 3) 30 [.ref 82, .int x1] (retst v []) sw' f' Q)) (p3 : (s0 = 0) → Q none sw f) : XP G mX11_mayBeCut (d + 3) 11 [.ref 82, .int x1] [.int s0] sw f Q := by
  refine wp_if_ne (M := mX11_mayBeCut) (pc := 11) (t := 15) dX11_mayBeCut_11 (by decide) (fun c1 => ?_) (fun c1 => ?_)
  · refine wp_aload_n (M := mX11_mayBeCut) (pc := 15) dX11_mayBeCut_15 rfl rfl ?_
    refine xs_getr (M := mX11_mayBeCut) (pc := 16) (r := 83) dX11_mayBeCut_16 fX11_7 sh82 rfl (gr82_0 sw) ?_
    refine wp_bipush (M := mX11_mayBeCut) (pc := 19) dX11_mayBeCut_19 k_bipush_48 ?_
    refine wp_iload_n (M := mX11_mayBeCut) (pc := 21) dX11_mayBeCut_21 rfl rfl ?_
    refine wp_iadd (M := mX11_mayBeCut) (pc := 22) dX11_mayBeCut_22 ?_
    refine wp_iconst (M := mX11_mayBeCut) (pc := 23) dX11_mayBeCut_23 k_iconst_0 ?_
    refine xs_iast (M := mX11_mayBeCut) (pc := 24) (j := (48 + x1).toNatClampNeg) dX11_mayBeCut_24 sh83 (p1 c1) rfl ?_
    refine wp_aload_n (M := mX11_mayBeCut) (pc := 25) dX11_mayBeCut_25 rfl rfl ?_
    refine wp_iload_n (M := mX11_mayBeCut) (pc := 26) dX11_mayBeCut_26 rfl rfl ?_
    refine xs_callV (d := d + 2) (M := mX11_mayBeCut) (pc := 27) (As := [.int x1]) (st := []) (c := 11) (ls' := [.ref 82, .int x1, .null]) dX11_mayBeCut_27 oX11_endsCallOf nX11_endsCallOf lX11_127 vX11_endsCallOf sX11_endsCallOf rfl sh82 (Nat.le_of_ble_eq_true rfl) rfl (Nat.le_of_ble_eq_true rfl) rfl ?_
    exact p2 c1
  · exact xs_ret (M := mX11_mayBeCut) (pc := 14) dX11_mayBeCut_14 rfl (p3 c1)
theorem bX11_mayBeCut_30 {G : GC} {d : Nat} {sw : Bool} {f : FF} {Q : QQ} {x1 : Int32} (p1 : Q none sw (upd2 f 82 36 ((f 82 36) + 1))) : XP G mX11_mayBeCut (d + 3) 30 [.ref 82, .int x1] [] sw f Q := by
  refine wp_aload_n (M := mX11_mayBeCut) (pc := 30) dX11_mayBeCut_30 rfl rfl ?_
  refine wp_aload_n (M := mX11_mayBeCut) (pc := 31) dX11_mayBeCut_31 rfl rfl ?_
  refine xs_geti (M := mX11_mayBeCut) (pc := 32) dX11_mayBeCut_32 fX11_301 sh82 rfl ?_
  refine wp_iconst (M := mX11_mayBeCut) (pc := 35) dX11_mayBeCut_35 k_iconst_1 ?_
  refine wp_iadd (M := mX11_mayBeCut) (pc := 36) dX11_mayBeCut_36 ?_
  refine xs_puti (M := mX11_mayBeCut) (pc := 37) dX11_mayBeCut_37 pX11_301 sh82 rfl ?_
  exact xs_ret (M := mX11_mayBeCut) (pc := 40) dX11_mayBeCut_40 rfl (p1)
theorem bX11_tried_0 {G : GC} {d : Nat} {sw : Bool} {f : FF} {Q : QQ} {x1 : Int32} {x2 : Int32} (p1 : (¬ (1 ≤ x1 ∧ x1 ≤ 240)) → Q (some (.int (-1))) sw f) (p2 : (1 ≤ x1 ∧ x1 ≤ 240) → (0 ≤ x2 ∧ x2 ≤ 4) → XP G mX11_copies (d + 7) 0 [.ref 83, .ref 84, .null] [] sw f (fun v sw' f' => XP G mX11_tried (d + 8) 44 [.ref 82, .int x1, .int x2, .null] (retst v []) sw' f' Q)) (p3 : (1 ≤ x1 ∧ x1 ≤ 240) → (¬ (0 ≤ x2 ∧ x2 ≤ 4)) → (toldM f (x2 - 100)) → XP G mX11_copies (d + 7) 0 [.ref 83, .ref 84, .null] [] sw f (fun v sw' f' => XP G mX11_tried (d + 8) 44 [.ref 82, .int x1, .int x2, .null] (retst v []) sw' f' Q)) (p4 : (1 ≤ x1 ∧ x1 ≤ 240) → (¬ (0 ≤ x2 ∧ x2 ≤ 4)) → (¬ (toldM f (x2 - 100))) → Q (some (.int (-1))) sw f) : XP G mX11_tried (d + 8) 0 [.ref 82, .int x1, .int x2, .null] [] sw f Q := by
  refine wp_iload_n (M := mX11_tried) (pc := 0) dX11_tried_0 rfl rfl ?_
  refine wp_iconst (M := mX11_tried) (pc := 1) dX11_tried_1 k_iconst_1 ?_
  refine wp_sipush (M := mX11_tried) (pc := 2) dX11_tried_2 k_sipush_240 ?_
  refine xs_callS (d := d + 7) (M := mX11_tried) (pc := 5) (As := [.int x1, .int 1, .int 240]) (st := []) (ls' := [.int x1, .int 1, .int 240]) dX11_tried_5 oX11_in nX11_in lX11_111 tX11_in (Nat.le_of_ble_eq_true rfl) rfl (Nat.le_of_ble_eq_true rfl) rfl ?_
  refine sp_X11_in   ?_
  refine xs_ifb_eq (M := mX11_tried) (pc := 8) (t := 31) dX11_tried_8 (by decide) (fun c1 => ?_) (fun c1 => ?_)
  · refine wp_iconst (M := mX11_tried) (pc := 31) dX11_tried_31 k_iconst_m1 ?_
    exact xs_iret (M := mX11_tried) (pc := 32) dX11_tried_32 rfl (p1 c1)
  · refine wp_iload_n (M := mX11_tried) (pc := 11) dX11_tried_11 rfl rfl ?_
    refine wp_iconst (M := mX11_tried) (pc := 12) dX11_tried_12 k_iconst_0 ?_
    refine wp_iconst (M := mX11_tried) (pc := 13) dX11_tried_13 k_iconst_4 ?_
    refine xs_callS (d := d + 7) (M := mX11_tried) (pc := 14) (As := [.int x2, .int 0, .int 4]) (st := []) (ls' := [.int x2, .int 0, .int 4]) dX11_tried_14 oX11_in nX11_in lX11_111 tX11_in (Nat.le_of_ble_eq_true rfl) rfl (Nat.le_of_ble_eq_true rfl) rfl ?_
    refine sp_X11_in   ?_
    refine xs_ifb_ne (M := mX11_tried) (pc := 17) (t := 33) dX11_tried_17 (by decide) (fun c2 => ?_) (fun c2 => ?_)
    · refine wp_aload_n (M := mX11_tried) (pc := 33) dX11_tried_33 rfl rfl ?_
      refine xs_getr (M := mX11_tried) (pc := 34) (r := 83) dX11_tried_34 fX11_7 sh82 rfl (gr82_0 sw) ?_
      refine wp_aload_n (M := mX11_tried) (pc := 37) dX11_tried_37 rfl rfl ?_
      refine xs_getr (M := mX11_tried) (pc := 38) (r := 84) dX11_tried_38 fX11_13 sh82 rfl (gr82_1 sw) ?_
      refine xs_callS (d := d + 7) (M := mX11_tried) (pc := 41) (As := [.ref 83, .ref 84]) (st := []) (ls' := [.ref 83, .ref 84, .null]) dX11_tried_41 oX11_copies nX11_copies lX11_266 tX11_copies (Nat.le_of_ble_eq_true rfl) rfl (Nat.le_of_ble_eq_true rfl) rfl ?_
      exact p2 c1 c2
    · refine wp_aload_n (M := mX11_tried) (pc := 20) dX11_tried_20 rfl rfl ?_
      refine wp_iload_n (M := mX11_tried) (pc := 21) dX11_tried_21 rfl rfl ?_
      refine wp_bipush (M := mX11_tried) (pc := 22) dX11_tried_22 k_bipush_100 ?_
      refine wp_isub (M := mX11_tried) (pc := 24) dX11_tried_24 ?_
      refine xs_callV (d := d + 7) (M := mX11_tried) (pc := 25) (As := [.int (x2 - 100)]) (st := []) (c := 11) (ls' := [.ref 82, .int (x2 - 100)]) dX11_tried_25 oX11_isTold nX11_isTold lX11_119 vX11_isTold sX11_isTold rfl sh82 (Nat.le_of_ble_eq_true rfl) rfl (Nat.le_of_ble_eq_true rfl) rfl ?_
      refine sp_X11_isTold   ?_
      refine xs_ifb_ne (M := mX11_tried) (pc := 28) (t := 33) dX11_tried_28 (by decide) (fun c3 => ?_) (fun c3 => ?_)
      · refine wp_aload_n (M := mX11_tried) (pc := 33) dX11_tried_33 rfl rfl ?_
        refine xs_getr (M := mX11_tried) (pc := 34) (r := 83) dX11_tried_34 fX11_7 sh82 rfl (gr82_0 sw) ?_
        refine wp_aload_n (M := mX11_tried) (pc := 37) dX11_tried_37 rfl rfl ?_
        refine xs_getr (M := mX11_tried) (pc := 38) (r := 84) dX11_tried_38 fX11_13 sh82 rfl (gr82_1 sw) ?_
        refine xs_callS (d := d + 7) (M := mX11_tried) (pc := 41) (As := [.ref 83, .ref 84]) (st := []) (ls' := [.ref 83, .ref 84, .null]) dX11_tried_41 oX11_copies nX11_copies lX11_266 tX11_copies (Nat.le_of_ble_eq_true rfl) rfl (Nat.le_of_ble_eq_true rfl) rfl ?_
        exact p3 c1 c2 c3
      · refine wp_iconst (M := mX11_tried) (pc := 31) dX11_tried_31 k_iconst_m1 ?_
        exact xs_iret (M := mX11_tried) (pc := 32) dX11_tried_32 rfl (p4 c1 c2 c3)
theorem bX11_tried_44 {G : GC} {d : Nat} {sw : Bool} {f : FF} {Q : QQ} {x1 : Int32} {x2 : Int32} {v3 : Value} (p1 : XP G mX11_minutesGo (d + 7) 0 [.ref 82, .int x1, .null] [] sw f (fun v sw' f' => XP G mX11_tried (d + 8) 49 [.ref 82, .int x1, .int x2, v3] (retst v []) sw' f' Q)) : XP G mX11_tried (d + 8) 44 [.ref 82, .int x1, .int x2, v3] [] sw f Q := by
  refine wp_aload_n (M := mX11_tried) (pc := 44) dX11_tried_44 rfl rfl ?_
  refine wp_iload_n (M := mX11_tried) (pc := 45) dX11_tried_45 rfl rfl ?_
  refine xs_callV (d := d + 7) (M := mX11_tried) (pc := 46) (As := [.int x1]) (st := []) (c := 11) (ls' := [.ref 82, .int x1, .null]) dX11_tried_46 oX11_minutesGo nX11_minutesGo lX11_320 vX11_minutesGo sX11_minutesGo rfl sh82 (Nat.le_of_ble_eq_true rfl) rfl (Nat.le_of_ble_eq_true rfl) rfl ?_
  exact p1
theorem bX11_tried_49 {G : GC} {d : Nat} {sw : Bool} {f : FF} {Q : QQ} {x1 : Int32} {x2 : Int32} {v3 : Value} (p1 : (x2 = 0) → XP G mX11_copies (d + 7) 0 [.ref 84, .ref 83, .null] [] sw f (fun v sw' f' => XP G mX11_tried (d + 8) 161 [.ref 82, .int x1, .int x2, .int (f 82 34)] (retst v []) sw' f' Q)) (p2 : (x2 = 1) → XP G mX11_copies (d + 7) 0 [.ref 84, .ref 83, .null] [] sw f (fun v sw' f' => XP G mX11_tried (d + 8) 161 [.ref 82, .int x1, .int x2, .int (f 82 35)] (retst v []) sw' f' Q)) (p3 : (x2 = 2) → XP G mX11_copies (d + 7) 0 [.ref 84, .ref 83, .null] [] sw f (fun v sw' f' => XP G mX11_tried (d + 8) 161 [.ref 82, .int x1, .int x2, .int ((f 84 388) - (f 83 388))] (retst v []) sw' f' Q)) (p4 : (x2 = 3) → XP G mX11_copies (d + 7) 0 [.ref 84, .ref 83, .null] [] sw f (fun v sw' f' => XP G mX11_tried (d + 8) 161 [.ref 82, .int x1, .int x2, .int (f 82 36)] (retst v []) sw' f' Q)) (p5 : (x2 = 4) → XP G mX11_callsNow (d + 7) 0 [.ref 82, .null, .null] [] sw f (fun v sw' f' => XP G mX11_tried (d + 8) 133 [.ref 82, .int x1, .int x2, v3] (retst v []) sw' f' Q)) (p6 : (¬ x2 = 0) → (¬ x2 = 1) → (¬ x2 = 2) → (¬ x2 = 3) → (¬ x2 = 4) → vp_in ((80 + x2) - 100) 391) (p7 : (¬ x2 = 0) → (¬ x2 = 1) → (¬ x2 = 2) → (¬ x2 = 3) → (¬ x2 = 4) → XP G mX11_copies (d + 7) 0 [.ref 84, .ref 83, .null] [] sw f (fun v sw' f' => XP G mX11_tried (d + 8) 161 [.ref 82, .int x1, .int x2, .int (f 83 (((80 + x2) - 100).toNatClampNeg))] (retst v []) sw' f' Q)) : XP G mX11_tried (d + 8) 49 [.ref 82, .int x1, .int x2, v3] [] sw f Q := by
  refine wp_iload_n (M := mX11_tried) (pc := 49) dX11_tried_49 rfl rfl ?_
  by_cases c1 : x2 = 0
  · refine wp_tableIn (M := mX11_tried) (pc := 50) (t := 84) (off := 34) dX11_tried_50 (by rw [c1] <;> decide) (by rw [c1] <;> decide) (by rw [c1] <;> rfl) (by decide) ?_
    refine wp_aload_n (M := mX11_tried) (pc := 84) dX11_tried_84 rfl rfl ?_
    refine xs_geti (M := mX11_tried) (pc := 85) dX11_tried_85 fX11_294 sh82 rfl ?_
    refine wp_istore_n (M := mX11_tried) (pc := 88) (ls' := [.ref 82, .int x1, .int x2, .int (f 82 34)]) dX11_tried_88 rfl (by decide) rfl ?_
    refine wp_goto (M := mX11_tried) (pc := 89) (t := 150) dX11_tried_89 (by decide) ?_
    refine wp_aload_n (M := mX11_tried) (pc := 150) dX11_tried_150 rfl rfl ?_
    refine xs_getr (M := mX11_tried) (pc := 151) (r := 84) dX11_tried_151 fX11_13 sh82 rfl (gr82_1 sw) ?_
    refine wp_aload_n (M := mX11_tried) (pc := 154) dX11_tried_154 rfl rfl ?_
    refine xs_getr (M := mX11_tried) (pc := 155) (r := 83) dX11_tried_155 fX11_7 sh82 rfl (gr82_0 sw) ?_
    refine xs_callS (d := d + 7) (M := mX11_tried) (pc := 158) (As := [.ref 84, .ref 83]) (st := []) (ls' := [.ref 84, .ref 83, .null]) dX11_tried_158 oX11_copies nX11_copies lX11_266 tX11_copies (Nat.le_of_ble_eq_true rfl) rfl (Nat.le_of_ble_eq_true rfl) rfl ?_
    exact p1 c1
  by_cases c2 : x2 = 1
  · refine wp_tableIn (M := mX11_tried) (pc := 50) (t := 92) (off := 42) dX11_tried_50 (by rw [c2] <;> decide) (by rw [c2] <;> decide) (by rw [c2] <;> rfl) (by decide) ?_
    refine wp_aload_n (M := mX11_tried) (pc := 92) dX11_tried_92 rfl rfl ?_
    refine xs_geti (M := mX11_tried) (pc := 93) dX11_tried_93 fX11_282 sh82 rfl ?_
    refine wp_istore_n (M := mX11_tried) (pc := 96) (ls' := [.ref 82, .int x1, .int x2, .int (f 82 35)]) dX11_tried_96 rfl (by decide) rfl ?_
    refine wp_goto (M := mX11_tried) (pc := 97) (t := 150) dX11_tried_97 (by decide) ?_
    refine wp_aload_n (M := mX11_tried) (pc := 150) dX11_tried_150 rfl rfl ?_
    refine xs_getr (M := mX11_tried) (pc := 151) (r := 84) dX11_tried_151 fX11_13 sh82 rfl (gr82_1 sw) ?_
    refine wp_aload_n (M := mX11_tried) (pc := 154) dX11_tried_154 rfl rfl ?_
    refine xs_getr (M := mX11_tried) (pc := 155) (r := 83) dX11_tried_155 fX11_7 sh82 rfl (gr82_0 sw) ?_
    refine xs_callS (d := d + 7) (M := mX11_tried) (pc := 158) (As := [.ref 84, .ref 83]) (st := []) (ls' := [.ref 84, .ref 83, .null]) dX11_tried_158 oX11_copies nX11_copies lX11_266 tX11_copies (Nat.le_of_ble_eq_true rfl) rfl (Nat.le_of_ble_eq_true rfl) rfl ?_
    exact p2 c2
  by_cases c3 : x2 = 2
  · refine wp_tableIn (M := mX11_tried) (pc := 50) (t := 100) (off := 50) dX11_tried_50 (by rw [c3] <;> decide) (by rw [c3] <;> decide) (by rw [c3] <;> rfl) (by decide) ?_
    refine wp_aload_n (M := mX11_tried) (pc := 100) dX11_tried_100 rfl rfl ?_
    refine xs_getr (M := mX11_tried) (pc := 101) (r := 84) dX11_tried_101 fX11_13 sh82 rfl (gr82_1 sw) ?_
    refine wp_sipush (M := mX11_tried) (pc := 104) dX11_tried_104 k_sipush_388 ?_
    refine xs_iald (M := mX11_tried) (pc := 107) (j := 388) dX11_tried_107 sh84 (vin (by decide)) rfl ?_
    refine wp_aload_n (M := mX11_tried) (pc := 108) dX11_tried_108 rfl rfl ?_
    refine xs_getr (M := mX11_tried) (pc := 109) (r := 83) dX11_tried_109 fX11_7 sh82 rfl (gr82_0 sw) ?_
    refine wp_sipush (M := mX11_tried) (pc := 112) dX11_tried_112 k_sipush_388 ?_
    refine xs_iald (M := mX11_tried) (pc := 115) (j := 388) dX11_tried_115 sh83 (vin (by decide)) rfl ?_
    refine wp_isub (M := mX11_tried) (pc := 116) dX11_tried_116 ?_
    refine wp_istore_n (M := mX11_tried) (pc := 117) (ls' := [.ref 82, .int x1, .int x2, .int ((f 84 388) - (f 83 388))]) dX11_tried_117 rfl (by decide) rfl ?_
    refine wp_goto (M := mX11_tried) (pc := 118) (t := 150) dX11_tried_118 (by decide) ?_
    refine wp_aload_n (M := mX11_tried) (pc := 150) dX11_tried_150 rfl rfl ?_
    refine xs_getr (M := mX11_tried) (pc := 151) (r := 84) dX11_tried_151 fX11_13 sh82 rfl (gr82_1 sw) ?_
    refine wp_aload_n (M := mX11_tried) (pc := 154) dX11_tried_154 rfl rfl ?_
    refine xs_getr (M := mX11_tried) (pc := 155) (r := 83) dX11_tried_155 fX11_7 sh82 rfl (gr82_0 sw) ?_
    refine xs_callS (d := d + 7) (M := mX11_tried) (pc := 158) (As := [.ref 84, .ref 83]) (st := []) (ls' := [.ref 84, .ref 83, .null]) dX11_tried_158 oX11_copies nX11_copies lX11_266 tX11_copies (Nat.le_of_ble_eq_true rfl) rfl (Nat.le_of_ble_eq_true rfl) rfl ?_
    exact p3 c3
  by_cases c4 : x2 = 3
  · refine wp_tableIn (M := mX11_tried) (pc := 50) (t := 121) (off := 71) dX11_tried_50 (by rw [c4] <;> decide) (by rw [c4] <;> decide) (by rw [c4] <;> rfl) (by decide) ?_
    refine wp_aload_n (M := mX11_tried) (pc := 121) dX11_tried_121 rfl rfl ?_
    refine xs_geti (M := mX11_tried) (pc := 122) dX11_tried_122 fX11_301 sh82 rfl ?_
    refine wp_istore_n (M := mX11_tried) (pc := 125) (ls' := [.ref 82, .int x1, .int x2, .int (f 82 36)]) dX11_tried_125 rfl (by decide) rfl ?_
    refine wp_goto (M := mX11_tried) (pc := 126) (t := 150) dX11_tried_126 (by decide) ?_
    refine wp_aload_n (M := mX11_tried) (pc := 150) dX11_tried_150 rfl rfl ?_
    refine xs_getr (M := mX11_tried) (pc := 151) (r := 84) dX11_tried_151 fX11_13 sh82 rfl (gr82_1 sw) ?_
    refine wp_aload_n (M := mX11_tried) (pc := 154) dX11_tried_154 rfl rfl ?_
    refine xs_getr (M := mX11_tried) (pc := 155) (r := 83) dX11_tried_155 fX11_7 sh82 rfl (gr82_0 sw) ?_
    refine xs_callS (d := d + 7) (M := mX11_tried) (pc := 158) (As := [.ref 84, .ref 83]) (st := []) (ls' := [.ref 84, .ref 83, .null]) dX11_tried_158 oX11_copies nX11_copies lX11_266 tX11_copies (Nat.le_of_ble_eq_true rfl) rfl (Nat.le_of_ble_eq_true rfl) rfl ?_
    exact p4 c4
  by_cases c5 : x2 = 4
  · refine wp_tableIn (M := mX11_tried) (pc := 50) (t := 129) (off := 79) dX11_tried_50 (by rw [c5] <;> decide) (by rw [c5] <;> decide) (by rw [c5] <;> rfl) (by decide) ?_
    refine wp_aload_n (M := mX11_tried) (pc := 129) dX11_tried_129 rfl rfl ?_
    refine xs_callV (d := d + 7) (M := mX11_tried) (pc := 130) (As := []) (st := []) (c := 11) (ls' := [.ref 82, .null, .null]) dX11_tried_130 oX11_callsNow nX11_callsNow lX11_323 vX11_callsNow sX11_callsNow rfl sh82 (Nat.le_of_ble_eq_true rfl) rfl (Nat.le_of_ble_eq_true rfl) rfl ?_
    exact p5 c5
  refine wp_tableOut (M := mX11_tried) (pc := 50) (t := 137) dX11_tried_50 (tbl_out (fun q h1 h2 z => by
      have hq : q = 0 ∨ q = 1 ∨ q = 2 ∨ q = 3 ∨ q = 4 := by omega
      rcases hq with rfl | rfl | rfl | rfl | rfl
      · exact c1 (Int32.toInt_inj.mp (by rw [z]; rfl))
      · exact c2 (Int32.toInt_inj.mp (by rw [z]; rfl))
      · exact c3 (Int32.toInt_inj.mp (by rw [z]; rfl))
      · exact c4 (Int32.toInt_inj.mp (by rw [z]; rfl))
      · exact c5 (Int32.toInt_inj.mp (by rw [z]; rfl))
      )) (by decide) ?_
  refine wp_aload_n (M := mX11_tried) (pc := 137) dX11_tried_137 rfl rfl ?_
  refine xs_getr (M := mX11_tried) (pc := 138) (r := 83) dX11_tried_138 fX11_7 sh82 rfl (gr82_0 sw) ?_
  refine wp_bipush (M := mX11_tried) (pc := 141) dX11_tried_141 k_bipush_80 ?_
  refine wp_iload_n (M := mX11_tried) (pc := 143) dX11_tried_143 rfl rfl ?_
  refine wp_iadd (M := mX11_tried) (pc := 144) dX11_tried_144 ?_
  refine wp_bipush (M := mX11_tried) (pc := 145) dX11_tried_145 k_bipush_100 ?_
  refine wp_isub (M := mX11_tried) (pc := 147) dX11_tried_147 ?_
  refine xs_iald (M := mX11_tried) (pc := 148) (j := ((80 + x2) - 100).toNatClampNeg) dX11_tried_148 sh83 (p6 c1 c2 c3 c4 c5) rfl ?_
  refine wp_istore_n (M := mX11_tried) (pc := 149) (ls' := [.ref 82, .int x1, .int x2, .int (f 83 (((80 + x2) - 100).toNatClampNeg))]) dX11_tried_149 rfl (by decide) rfl ?_
  refine wp_aload_n (M := mX11_tried) (pc := 150) dX11_tried_150 rfl rfl ?_
  refine xs_getr (M := mX11_tried) (pc := 151) (r := 84) dX11_tried_151 fX11_13 sh82 rfl (gr82_1 sw) ?_
  refine wp_aload_n (M := mX11_tried) (pc := 154) dX11_tried_154 rfl rfl ?_
  refine xs_getr (M := mX11_tried) (pc := 155) (r := 83) dX11_tried_155 fX11_7 sh82 rfl (gr82_0 sw) ?_
  refine xs_callS (d := d + 7) (M := mX11_tried) (pc := 158) (As := [.ref 84, .ref 83]) (st := []) (ls' := [.ref 84, .ref 83, .null]) dX11_tried_158 oX11_copies nX11_copies lX11_266 tX11_copies (Nat.le_of_ble_eq_true rfl) rfl (Nat.le_of_ble_eq_true rfl) rfl ?_
  exact p7 c1 c2 c3 c4 c5
theorem bX11_tried_133 {G : GC} {d : Nat} {sw : Bool} {f : FF} {Q : QQ} {x1 : Int32} {x2 : Int32} {v3 : Value} {s0 : Int32} (p1 : XP G mX11_copies (d + 7) 0 [.ref 84, .ref 83, .null] [] sw f (fun v sw' f' => XP G mX11_tried (d + 8) 161 [.ref 82, .int x1, .int x2, .int s0] (retst v []) sw' f' Q)) : XP G mX11_tried (d + 8) 133 [.ref 82, .int x1, .int x2, v3] [.int s0] sw f Q := by
  refine wp_istore_n (M := mX11_tried) (pc := 133) (ls' := [.ref 82, .int x1, .int x2, .int s0]) dX11_tried_133 rfl (by decide) rfl ?_
  refine wp_goto (M := mX11_tried) (pc := 134) (t := 150) dX11_tried_134 (by decide) ?_
  refine wp_aload_n (M := mX11_tried) (pc := 150) dX11_tried_150 rfl rfl ?_
  refine xs_getr (M := mX11_tried) (pc := 151) (r := 84) dX11_tried_151 fX11_13 sh82 rfl (gr82_1 sw) ?_
  refine wp_aload_n (M := mX11_tried) (pc := 154) dX11_tried_154 rfl rfl ?_
  refine xs_getr (M := mX11_tried) (pc := 155) (r := 83) dX11_tried_155 fX11_7 sh82 rfl (gr82_0 sw) ?_
  refine xs_callS (d := d + 7) (M := mX11_tried) (pc := 158) (As := [.ref 84, .ref 83]) (st := []) (ls' := [.ref 84, .ref 83, .null]) dX11_tried_158 oX11_copies nX11_copies lX11_266 tX11_copies (Nat.le_of_ble_eq_true rfl) rfl (Nat.le_of_ble_eq_true rfl) rfl ?_
  exact p1
theorem bX11_tried_161 {G : GC} {d : Nat} {sw : Bool} {f : FF} {Q : QQ} {x1 : Int32} {x2 : Int32} {x3 : Int32} (p1 : Q (some (.int x3)) sw f) : XP G mX11_tried (d + 8) 161 [.ref 82, .int x1, .int x2, .int x3] [] sw f Q := by
  refine wp_iload_n (M := mX11_tried) (pc := 161) dX11_tried_161 rfl rfl ?_
  exact xs_iret (M := mX11_tried) (pc := 162) dX11_tried_162 rfl (p1)
theorem bX11_callsNow_0 {G : GC} {d : Nat} {sw : Bool} {f : FF} {Q : QQ}  (p1 : XP G mX11_callsNow (d) 4 [.ref 82, .int 0, .int 0] [] sw f Q) : XP G mX11_callsNow (d) 0 [.ref 82, .null, .null] [] sw f Q := by
  refine wp_iconst (M := mX11_callsNow) (pc := 0) dX11_callsNow_0 k_iconst_0 ?_
  refine wp_istore_n (M := mX11_callsNow) (pc := 1) (ls' := [.ref 82, .int 0, .null]) dX11_callsNow_1 rfl (by decide) rfl ?_
  refine wp_iconst (M := mX11_callsNow) (pc := 2) dX11_callsNow_2 k_iconst_0 ?_
  refine wp_istore_n (M := mX11_callsNow) (pc := 3) (ls' := [.ref 82, .int 0, .int 0]) dX11_callsNow_3 rfl (by decide) rfl ?_
  exact p1
theorem bX11_callsNow_4 {G : GC} {d : Nat} {sw : Bool} {f : FF} {Q : QQ} {x1 : Int32} {x2 : Int32} (p1 : (20 ≤ x2) → Q (some (.int x1)) sw f) (p2 : (¬ 20 ≤ x2) → vp_in (188 + x2) 391) (p3 : (¬ 20 ≤ x2) → ((f 83 ((188 + x2).toNatClampNeg)) ≤ 0) → XP G mX11_callsNow (d) 4 [.ref 82, .int x1, .int (x2 + 1)] [] sw f Q) (p4 : (¬ 20 ≤ x2) → (¬ (f 83 ((188 + x2).toNatClampNeg)) ≤ 0) → XP G mX11_callsNow (d) 4 [.ref 82, .int (x1 + 1), .int (x2 + 1)] [] sw f Q) : XP G mX11_callsNow (d) 4 [.ref 82, .int x1, .int x2] [] sw f Q := by
  refine wp_iload_n (M := mX11_callsNow) (pc := 4) dX11_callsNow_4 rfl rfl ?_
  refine wp_bipush (M := mX11_callsNow) (pc := 5) dX11_callsNow_5 k_bipush_20 ?_
  refine wp_icmp_ge (M := mX11_callsNow) (pc := 7) (t := 33) dX11_callsNow_7 (by decide) (fun c1 => ?_) (fun c1 => ?_)
  · refine wp_iload_n (M := mX11_callsNow) (pc := 33) dX11_callsNow_33 rfl rfl ?_
    exact xs_iret (M := mX11_callsNow) (pc := 34) dX11_callsNow_34 rfl (p1 c1)
  · refine wp_aload_n (M := mX11_callsNow) (pc := 10) dX11_callsNow_10 rfl rfl ?_
    refine xs_getr (M := mX11_callsNow) (pc := 11) (r := 83) dX11_callsNow_11 fX11_7 sh82 rfl (gr82_0 sw) ?_
    refine wp_sipush (M := mX11_callsNow) (pc := 14) dX11_callsNow_14 k_sipush_188 ?_
    refine wp_iload_n (M := mX11_callsNow) (pc := 17) dX11_callsNow_17 rfl rfl ?_
    refine wp_iadd (M := mX11_callsNow) (pc := 18) dX11_callsNow_18 ?_
    refine xs_iald (M := mX11_callsNow) (pc := 19) (j := (188 + x2).toNatClampNeg) dX11_callsNow_19 sh83 (p2 c1) rfl ?_
    refine wp_if_le (M := mX11_callsNow) (pc := 20) (t := 27) dX11_callsNow_20 (by decide) (fun c2 => ?_) (fun c2 => ?_)
    · refine wp_iinc (M := mX11_callsNow) (pc := 27) (v := x2 + 1) (ls' := [.ref 82, .int x1, .int (x2 + 1)]) dX11_callsNow_27 rfl (congrArg (fun z => _ + z) k_iconst_1) (by decide) rfl ?_
      refine wp_goto (M := mX11_callsNow) (pc := 30) (t := 4) dX11_callsNow_30 (by decide) ?_
      exact p3 c1 c2
    · refine wp_iload_n (M := mX11_callsNow) (pc := 23) dX11_callsNow_23 rfl rfl ?_
      refine wp_iconst (M := mX11_callsNow) (pc := 24) dX11_callsNow_24 k_iconst_1 ?_
      refine wp_iadd (M := mX11_callsNow) (pc := 25) dX11_callsNow_25 ?_
      refine wp_istore_n (M := mX11_callsNow) (pc := 26) (ls' := [.ref 82, .int (x1 + 1), .int x2]) dX11_callsNow_26 rfl (by decide) rfl ?_
      refine wp_iinc (M := mX11_callsNow) (pc := 27) (v := x2 + 1) (ls' := [.ref 82, .int (x1 + 1), .int (x2 + 1)]) dX11_callsNow_27 rfl (congrArg (fun z => _ + z) k_iconst_1) (by decide) rfl ?_
      refine wp_goto (M := mX11_callsNow) (pc := 30) (t := 4) dX11_callsNow_30 (by decide) ?_
      exact p4 c1 c2
theorem bX11_subscriberIs_0 {G : GC} {d : Nat} {sw : Bool} {f : FF} {Q : QQ} {x1 : Int32} {x2 : Int32} (p1 : (toldM f x1) → (x2 = 0) → vp_in (16 + x1) 391) (p2 : (toldM f x1) → (x2 = 0) → Q (some (.int (f 83 ((16 + x1).toNatClampNeg)))) sw f) (p3 : (toldM f x1) → (x2 = 1) → vp_in (32 + x1) 391) (p4 : (toldM f x1) → (x2 = 1) → Q (some (.int (f 83 ((32 + x1).toNatClampNeg)))) sw f) (p5 : (toldM f x1) → (x2 = 2) → vp_in (48 + x1) 391) (p6 : (toldM f x1) → (x2 = 2) → Q (some (.int (f 83 ((48 + x1).toNatClampNeg)))) sw f) (p7 : (toldM f x1) → (x2 = 3) → vp_in (64 + x1) 391) (p8 : (toldM f x1) → (x2 = 3) → Q (some (.int (f 83 ((64 + x1).toNatClampNeg)))) sw f) (p9 : (toldM f x1) → (x2 = 4) → vp_in (80 + x1) 391) (p10 : (toldM f x1) → (x2 = 4) → Q (some (.int (f 83 ((80 + x1).toNatClampNeg)))) sw f) (p11 : (toldM f x1) → (x2 = 5) → XP G mX11_talksWith (d + 1) 0 [.ref 82, .int x1, .null] [] sw f (fun v sw' f' => XP G mX11_subscriberIs (d + 2) 111 [.ref 82, .int x1, .int x2] (retst v []) sw' f' Q)) (p12 : (toldM f x1) → (x2 = 6) → vp_in (96 + x1) 391) (p13 : (toldM f x1) → (x2 = 6) → Q (some (.int (f 83 ((96 + x1).toNatClampNeg)))) sw f) (p14 : (toldM f x1) → (x2 = 7) → vp_in (112 + x1) 391) (p15 : (toldM f x1) → (x2 = 7) → Q (some (.int (f 83 ((112 + x1).toNatClampNeg)))) sw f) (p16 : (toldM f x1) → (¬ x2 = 0) → (¬ x2 = 1) → (¬ x2 = 2) → (¬ x2 = 3) → (¬ x2 = 4) → (¬ x2 = 5) → (¬ x2 = 6) → (¬ x2 = 7) → Q (some (.int (-1))) sw f) (p17 : (¬ (toldM f x1)) → Q (some (.int (-1))) sw f) : XP G mX11_subscriberIs (d + 2) 0 [.ref 82, .int x1, .int x2] [] sw f Q := by
  refine wp_aload_n (M := mX11_subscriberIs) (pc := 0) dX11_subscriberIs_0 rfl rfl ?_
  refine wp_iload_n (M := mX11_subscriberIs) (pc := 1) dX11_subscriberIs_1 rfl rfl ?_
  refine xs_callV (d := d + 1) (M := mX11_subscriberIs) (pc := 2) (As := [.int x1]) (st := []) (c := 11) (ls' := [.ref 82, .int x1]) dX11_subscriberIs_2 oX11_isTold nX11_isTold lX11_119 vX11_isTold sX11_isTold rfl sh82 (Nat.le_of_ble_eq_true rfl) rfl (Nat.le_of_ble_eq_true rfl) rfl ?_
  refine sp_X11_isTold   ?_
  refine xs_ifb_ne (M := mX11_subscriberIs) (pc := 5) (t := 10) dX11_subscriberIs_5 (by decide) (fun c1 => ?_) (fun c1 => ?_)
  · refine wp_iload_n (M := mX11_subscriberIs) (pc := 10) dX11_subscriberIs_10 rfl rfl ?_
    by_cases c2 : x2 = 0
    · refine wp_tableIn (M := mX11_subscriberIs) (pc := 11) (t := 56) (off := 45) dX11_subscriberIs_11 (by rw [c2] <;> decide) (by rw [c2] <;> decide) (by rw [c2] <;> rfl) (by decide) ?_
      refine wp_aload_n (M := mX11_subscriberIs) (pc := 56) dX11_subscriberIs_56 rfl rfl ?_
      refine xs_getr (M := mX11_subscriberIs) (pc := 57) (r := 83) dX11_subscriberIs_57 fX11_7 sh82 rfl (gr82_0 sw) ?_
      refine wp_bipush (M := mX11_subscriberIs) (pc := 60) dX11_subscriberIs_60 k_bipush_16 ?_
      refine wp_iload_n (M := mX11_subscriberIs) (pc := 62) dX11_subscriberIs_62 rfl rfl ?_
      refine wp_iadd (M := mX11_subscriberIs) (pc := 63) dX11_subscriberIs_63 ?_
      refine xs_iald (M := mX11_subscriberIs) (pc := 64) (j := (16 + x1).toNatClampNeg) dX11_subscriberIs_64 sh83 (p1 c1 c2) rfl ?_
      exact xs_iret (M := mX11_subscriberIs) (pc := 65) dX11_subscriberIs_65 rfl (p2 c1 c2)
    by_cases c3 : x2 = 1
    · refine wp_tableIn (M := mX11_subscriberIs) (pc := 11) (t := 66) (off := 55) dX11_subscriberIs_11 (by rw [c3] <;> decide) (by rw [c3] <;> decide) (by rw [c3] <;> rfl) (by decide) ?_
      refine wp_aload_n (M := mX11_subscriberIs) (pc := 66) dX11_subscriberIs_66 rfl rfl ?_
      refine xs_getr (M := mX11_subscriberIs) (pc := 67) (r := 83) dX11_subscriberIs_67 fX11_7 sh82 rfl (gr82_0 sw) ?_
      refine wp_bipush (M := mX11_subscriberIs) (pc := 70) dX11_subscriberIs_70 k_bipush_32 ?_
      refine wp_iload_n (M := mX11_subscriberIs) (pc := 72) dX11_subscriberIs_72 rfl rfl ?_
      refine wp_iadd (M := mX11_subscriberIs) (pc := 73) dX11_subscriberIs_73 ?_
      refine xs_iald (M := mX11_subscriberIs) (pc := 74) (j := (32 + x1).toNatClampNeg) dX11_subscriberIs_74 sh83 (p3 c1 c3) rfl ?_
      exact xs_iret (M := mX11_subscriberIs) (pc := 75) dX11_subscriberIs_75 rfl (p4 c1 c3)
    by_cases c4 : x2 = 2
    · refine wp_tableIn (M := mX11_subscriberIs) (pc := 11) (t := 76) (off := 65) dX11_subscriberIs_11 (by rw [c4] <;> decide) (by rw [c4] <;> decide) (by rw [c4] <;> rfl) (by decide) ?_
      refine wp_aload_n (M := mX11_subscriberIs) (pc := 76) dX11_subscriberIs_76 rfl rfl ?_
      refine xs_getr (M := mX11_subscriberIs) (pc := 77) (r := 83) dX11_subscriberIs_77 fX11_7 sh82 rfl (gr82_0 sw) ?_
      refine wp_bipush (M := mX11_subscriberIs) (pc := 80) dX11_subscriberIs_80 k_bipush_48 ?_
      refine wp_iload_n (M := mX11_subscriberIs) (pc := 82) dX11_subscriberIs_82 rfl rfl ?_
      refine wp_iadd (M := mX11_subscriberIs) (pc := 83) dX11_subscriberIs_83 ?_
      refine xs_iald (M := mX11_subscriberIs) (pc := 84) (j := (48 + x1).toNatClampNeg) dX11_subscriberIs_84 sh83 (p5 c1 c4) rfl ?_
      exact xs_iret (M := mX11_subscriberIs) (pc := 85) dX11_subscriberIs_85 rfl (p6 c1 c4)
    by_cases c5 : x2 = 3
    · refine wp_tableIn (M := mX11_subscriberIs) (pc := 11) (t := 86) (off := 75) dX11_subscriberIs_11 (by rw [c5] <;> decide) (by rw [c5] <;> decide) (by rw [c5] <;> rfl) (by decide) ?_
      refine wp_aload_n (M := mX11_subscriberIs) (pc := 86) dX11_subscriberIs_86 rfl rfl ?_
      refine xs_getr (M := mX11_subscriberIs) (pc := 87) (r := 83) dX11_subscriberIs_87 fX11_7 sh82 rfl (gr82_0 sw) ?_
      refine wp_bipush (M := mX11_subscriberIs) (pc := 90) dX11_subscriberIs_90 k_bipush_64 ?_
      refine wp_iload_n (M := mX11_subscriberIs) (pc := 92) dX11_subscriberIs_92 rfl rfl ?_
      refine wp_iadd (M := mX11_subscriberIs) (pc := 93) dX11_subscriberIs_93 ?_
      refine xs_iald (M := mX11_subscriberIs) (pc := 94) (j := (64 + x1).toNatClampNeg) dX11_subscriberIs_94 sh83 (p7 c1 c5) rfl ?_
      exact xs_iret (M := mX11_subscriberIs) (pc := 95) dX11_subscriberIs_95 rfl (p8 c1 c5)
    by_cases c6 : x2 = 4
    · refine wp_tableIn (M := mX11_subscriberIs) (pc := 11) (t := 96) (off := 85) dX11_subscriberIs_11 (by rw [c6] <;> decide) (by rw [c6] <;> decide) (by rw [c6] <;> rfl) (by decide) ?_
      refine wp_aload_n (M := mX11_subscriberIs) (pc := 96) dX11_subscriberIs_96 rfl rfl ?_
      refine xs_getr (M := mX11_subscriberIs) (pc := 97) (r := 83) dX11_subscriberIs_97 fX11_7 sh82 rfl (gr82_0 sw) ?_
      refine wp_bipush (M := mX11_subscriberIs) (pc := 100) dX11_subscriberIs_100 k_bipush_80 ?_
      refine wp_iload_n (M := mX11_subscriberIs) (pc := 102) dX11_subscriberIs_102 rfl rfl ?_
      refine wp_iadd (M := mX11_subscriberIs) (pc := 103) dX11_subscriberIs_103 ?_
      refine xs_iald (M := mX11_subscriberIs) (pc := 104) (j := (80 + x1).toNatClampNeg) dX11_subscriberIs_104 sh83 (p9 c1 c6) rfl ?_
      exact xs_iret (M := mX11_subscriberIs) (pc := 105) dX11_subscriberIs_105 rfl (p10 c1 c6)
    by_cases c7 : x2 = 5
    · refine wp_tableIn (M := mX11_subscriberIs) (pc := 11) (t := 106) (off := 95) dX11_subscriberIs_11 (by rw [c7] <;> decide) (by rw [c7] <;> decide) (by rw [c7] <;> rfl) (by decide) ?_
      refine wp_aload_n (M := mX11_subscriberIs) (pc := 106) dX11_subscriberIs_106 rfl rfl ?_
      refine wp_iload_n (M := mX11_subscriberIs) (pc := 107) dX11_subscriberIs_107 rfl rfl ?_
      refine xs_callV (d := d + 1) (M := mX11_subscriberIs) (pc := 108) (As := [.int x1]) (st := []) (c := 11) (ls' := [.ref 82, .int x1, .null]) dX11_subscriberIs_108 oX11_talksWith nX11_talksWith lX11_326 vX11_talksWith sX11_talksWith rfl sh82 (Nat.le_of_ble_eq_true rfl) rfl (Nat.le_of_ble_eq_true rfl) rfl ?_
      exact p11 c1 c7
    by_cases c8 : x2 = 6
    · refine wp_tableIn (M := mX11_subscriberIs) (pc := 11) (t := 112) (off := 101) dX11_subscriberIs_11 (by rw [c8] <;> decide) (by rw [c8] <;> decide) (by rw [c8] <;> rfl) (by decide) ?_
      refine wp_aload_n (M := mX11_subscriberIs) (pc := 112) dX11_subscriberIs_112 rfl rfl ?_
      refine xs_getr (M := mX11_subscriberIs) (pc := 113) (r := 83) dX11_subscriberIs_113 fX11_7 sh82 rfl (gr82_0 sw) ?_
      refine wp_bipush (M := mX11_subscriberIs) (pc := 116) dX11_subscriberIs_116 k_bipush_96 ?_
      refine wp_iload_n (M := mX11_subscriberIs) (pc := 118) dX11_subscriberIs_118 rfl rfl ?_
      refine wp_iadd (M := mX11_subscriberIs) (pc := 119) dX11_subscriberIs_119 ?_
      refine xs_iald (M := mX11_subscriberIs) (pc := 120) (j := (96 + x1).toNatClampNeg) dX11_subscriberIs_120 sh83 (p12 c1 c8) rfl ?_
      exact xs_iret (M := mX11_subscriberIs) (pc := 121) dX11_subscriberIs_121 rfl (p13 c1 c8)
    by_cases c9 : x2 = 7
    · refine wp_tableIn (M := mX11_subscriberIs) (pc := 11) (t := 122) (off := 111) dX11_subscriberIs_11 (by rw [c9] <;> decide) (by rw [c9] <;> decide) (by rw [c9] <;> rfl) (by decide) ?_
      refine wp_aload_n (M := mX11_subscriberIs) (pc := 122) dX11_subscriberIs_122 rfl rfl ?_
      refine xs_getr (M := mX11_subscriberIs) (pc := 123) (r := 83) dX11_subscriberIs_123 fX11_7 sh82 rfl (gr82_0 sw) ?_
      refine wp_bipush (M := mX11_subscriberIs) (pc := 126) dX11_subscriberIs_126 k_bipush_112 ?_
      refine wp_iload_n (M := mX11_subscriberIs) (pc := 128) dX11_subscriberIs_128 rfl rfl ?_
      refine wp_iadd (M := mX11_subscriberIs) (pc := 129) dX11_subscriberIs_129 ?_
      refine xs_iald (M := mX11_subscriberIs) (pc := 130) (j := (112 + x1).toNatClampNeg) dX11_subscriberIs_130 sh83 (p14 c1 c9) rfl ?_
      exact xs_iret (M := mX11_subscriberIs) (pc := 131) dX11_subscriberIs_131 rfl (p15 c1 c9)
    refine wp_tableOut (M := mX11_subscriberIs) (pc := 11) (t := 132) dX11_subscriberIs_11 (tbl_out (fun q h1 h2 z => by
        have hq : q = 0 ∨ q = 1 ∨ q = 2 ∨ q = 3 ∨ q = 4 ∨ q = 5 ∨ q = 6 ∨ q = 7 := by omega
        rcases hq with rfl | rfl | rfl | rfl | rfl | rfl | rfl | rfl
        · exact c2 (Int32.toInt_inj.mp (by rw [z]; rfl))
        · exact c3 (Int32.toInt_inj.mp (by rw [z]; rfl))
        · exact c4 (Int32.toInt_inj.mp (by rw [z]; rfl))
        · exact c5 (Int32.toInt_inj.mp (by rw [z]; rfl))
        · exact c6 (Int32.toInt_inj.mp (by rw [z]; rfl))
        · exact c7 (Int32.toInt_inj.mp (by rw [z]; rfl))
        · exact c8 (Int32.toInt_inj.mp (by rw [z]; rfl))
        · exact c9 (Int32.toInt_inj.mp (by rw [z]; rfl))
        )) (by decide) ?_
    refine wp_iconst (M := mX11_subscriberIs) (pc := 132) dX11_subscriberIs_132 k_iconst_m1 ?_
    exact xs_iret (M := mX11_subscriberIs) (pc := 133) dX11_subscriberIs_133 rfl (p16 c1 c2 c3 c4 c5 c6 c7 c8 c9)
  · refine wp_iconst (M := mX11_subscriberIs) (pc := 8) dX11_subscriberIs_8 k_iconst_m1 ?_
    exact xs_iret (M := mX11_subscriberIs) (pc := 9) dX11_subscriberIs_9 rfl (p17 c1)
theorem bX11_subscriberIs_111 {G : GC} {d : Nat} {sw : Bool} {f : FF} {Q : QQ} {x1 : Int32} {x2 : Int32} {s0 : Int32} (p1 : Q (some (.int s0)) sw f) : XP G mX11_subscriberIs (d + 2) 111 [.ref 82, .int x1, .int x2] [.int s0] sw f Q := by
  exact xs_iret (M := mX11_subscriberIs) (pc := 111) dX11_subscriberIs_111 rfl (p1)
theorem bX11_talksWith_0 {G : GC} {d : Nat} {sw : Bool} {f : FF} {Q : QQ} {x1 : Int32} (p1 : XP G mX11_callOf (d) 0 [.ref 82, .int x1, .null] [] sw f (fun v sw' f' => XP G mX11_talksWith (d + 1) 5 [.ref 82, .int x1, .null] (retst v []) sw' f' Q)) : XP G mX11_talksWith (d + 1) 0 [.ref 82, .int x1, .null] [] sw f Q := by
  refine wp_aload_n (M := mX11_talksWith) (pc := 0) dX11_talksWith_0 rfl rfl ?_
  refine wp_iload_n (M := mX11_talksWith) (pc := 1) dX11_talksWith_1 rfl rfl ?_
  refine xs_callV (d := d) (M := mX11_talksWith) (pc := 2) (As := [.int x1]) (st := []) (c := 11) (ls' := [.ref 82, .int x1, .null]) dX11_talksWith_2 oX11_callOf nX11_callOf lX11_115 vX11_callOf sX11_callOf rfl sh82 (Nat.le_of_ble_eq_true rfl) rfl (Nat.le_of_ble_eq_true rfl) rfl ?_
  exact p1
theorem bX11_talksWith_5 {G : GC} {d : Nat} {sw : Bool} {f : FF} {Q : QQ} {x1 : Int32} {v2 : Value} {s0 : Int32} (p1 : (¬ s0 = (-1)) → vp_in (128 + s0) 391) (p2 : (¬ s0 = (-1)) → (¬ (f 83 ((128 + s0).toNatClampNeg)) = x1) → vp_in (128 + s0) 391) (p3 : (¬ s0 = (-1)) → (¬ (f 83 ((128 + s0).toNatClampNeg)) = x1) → Q (some (.int (f 83 ((128 + s0).toNatClampNeg)))) sw f) (p4 : (¬ s0 = (-1)) → ((f 83 ((128 + s0).toNatClampNeg)) = x1) → vp_in (148 + s0) 391) (p5 : (¬ s0 = (-1)) → ((f 83 ((128 + s0).toNatClampNeg)) = x1) → Q (some (.int (f 83 ((148 + s0).toNatClampNeg)))) sw f) (p6 : (s0 = (-1)) → Q (some (.int (-2))) sw f) : XP G mX11_talksWith (d + 1) 5 [.ref 82, .int x1, v2] [.int s0] sw f Q := by
  refine wp_istore_n (M := mX11_talksWith) (pc := 5) (ls' := [.ref 82, .int x1, .int s0]) dX11_talksWith_5 rfl (by decide) rfl ?_
  refine wp_iload_n (M := mX11_talksWith) (pc := 6) dX11_talksWith_6 rfl rfl ?_
  refine wp_iconst (M := mX11_talksWith) (pc := 7) dX11_talksWith_7 k_iconst_m1 ?_
  refine wp_icmp_ne (M := mX11_talksWith) (pc := 8) (t := 14) dX11_talksWith_8 (by decide) (fun c1 => ?_) (fun c1 => ?_)
  · refine wp_aload_n (M := mX11_talksWith) (pc := 14) dX11_talksWith_14 rfl rfl ?_
    refine xs_getr (M := mX11_talksWith) (pc := 15) (r := 83) dX11_talksWith_15 fX11_7 sh82 rfl (gr82_0 sw) ?_
    refine wp_sipush (M := mX11_talksWith) (pc := 18) dX11_talksWith_18 k_sipush_128 ?_
    refine wp_iload_n (M := mX11_talksWith) (pc := 21) dX11_talksWith_21 rfl rfl ?_
    refine wp_iadd (M := mX11_talksWith) (pc := 22) dX11_talksWith_22 ?_
    refine xs_iald (M := mX11_talksWith) (pc := 23) (j := (128 + s0).toNatClampNeg) dX11_talksWith_23 sh83 (p1 c1) rfl ?_
    refine wp_iload_n (M := mX11_talksWith) (pc := 24) dX11_talksWith_24 rfl rfl ?_
    refine wp_icmp_ne (M := mX11_talksWith) (pc := 25) (t := 41) dX11_talksWith_25 (by decide) (fun c2 => ?_) (fun c2 => ?_)
    · refine wp_aload_n (M := mX11_talksWith) (pc := 41) dX11_talksWith_41 rfl rfl ?_
      refine xs_getr (M := mX11_talksWith) (pc := 42) (r := 83) dX11_talksWith_42 fX11_7 sh82 rfl (gr82_0 sw) ?_
      refine wp_sipush (M := mX11_talksWith) (pc := 45) dX11_talksWith_45 k_sipush_128 ?_
      refine wp_iload_n (M := mX11_talksWith) (pc := 48) dX11_talksWith_48 rfl rfl ?_
      refine wp_iadd (M := mX11_talksWith) (pc := 49) dX11_talksWith_49 ?_
      refine xs_iald (M := mX11_talksWith) (pc := 50) (j := (128 + s0).toNatClampNeg) dX11_talksWith_50 sh83 (p2 c1 c2) rfl ?_
      exact xs_iret (M := mX11_talksWith) (pc := 51) dX11_talksWith_51 rfl (p3 c1 c2)
    · refine wp_aload_n (M := mX11_talksWith) (pc := 28) dX11_talksWith_28 rfl rfl ?_
      refine xs_getr (M := mX11_talksWith) (pc := 29) (r := 83) dX11_talksWith_29 fX11_7 sh82 rfl (gr82_0 sw) ?_
      refine wp_sipush (M := mX11_talksWith) (pc := 32) dX11_talksWith_32 k_sipush_148 ?_
      refine wp_iload_n (M := mX11_talksWith) (pc := 35) dX11_talksWith_35 rfl rfl ?_
      refine wp_iadd (M := mX11_talksWith) (pc := 36) dX11_talksWith_36 ?_
      refine xs_iald (M := mX11_talksWith) (pc := 37) (j := (148 + s0).toNatClampNeg) dX11_talksWith_37 sh83 (p4 c1 c2) rfl ?_
      refine wp_goto (M := mX11_talksWith) (pc := 38) (t := 51) dX11_talksWith_38 (by decide) ?_
      exact xs_iret (M := mX11_talksWith) (pc := 51) dX11_talksWith_51 rfl (p5 c1 c2)
  · refine wp_bipush (M := mX11_talksWith) (pc := 11) dX11_talksWith_11 k_bipush_m2 ?_
    exact xs_iret (M := mX11_talksWith) (pc := 13) dX11_talksWith_13 rfl (p6 c1)
theorem bX11_callIs_0 {G : GC} {d : Nat} {sw : Bool} {f : FF} {Q : QQ} {x1 : Int32} {x2 : Int32} (p1 : (¬ (0 ≤ x1 ∧ x1 ≤ 19)) → Q (some (.int (-1))) sw f) (p2 : (0 ≤ x1 ∧ x1 ≤ 19) → (0 ≤ x2 ∧ x2 ≤ 4) → vp_in (188 + x1) 391) (p3 : (0 ≤ x1 ∧ x1 ≤ 19) → (0 ≤ x2 ∧ x2 ≤ 4) → (¬ (f 83 ((188 + x1).toNatClampNeg)) = 0) → vp_in ((128 + (20 * x2)) + x1) 391) (p4 : (0 ≤ x1 ∧ x1 ≤ 19) → (0 ≤ x2 ∧ x2 ≤ 4) → (¬ (f 83 ((188 + x1).toNatClampNeg)) = 0) → Q (some (.int (f 83 (((128 + (20 * x2)) + x1).toNatClampNeg)))) sw f) (p5 : (0 ≤ x1 ∧ x1 ≤ 19) → (0 ≤ x2 ∧ x2 ≤ 4) → ((f 83 ((188 + x1).toNatClampNeg)) = 0) → Q (some (.int (-2))) sw f) (p6 : (0 ≤ x1 ∧ x1 ≤ 19) → (¬ (0 ≤ x2 ∧ x2 ≤ 4)) → Q (some (.int (-1))) sw f) : XP G mX11_callIs (d + 1) 0 [.ref 82, .int x1, .int x2] [] sw f Q := by
  refine wp_iload_n (M := mX11_callIs) (pc := 0) dX11_callIs_0 rfl rfl ?_
  refine wp_iconst (M := mX11_callIs) (pc := 1) dX11_callIs_1 k_iconst_0 ?_
  refine wp_bipush (M := mX11_callIs) (pc := 2) dX11_callIs_2 k_bipush_19 ?_
  refine xs_callS (d := d) (M := mX11_callIs) (pc := 4) (As := [.int x1, .int 0, .int 19]) (st := []) (ls' := [.int x1, .int 0, .int 19]) dX11_callIs_4 oX11_in nX11_in lX11_111 tX11_in (Nat.le_of_ble_eq_true rfl) rfl (Nat.le_of_ble_eq_true rfl) rfl ?_
  refine sp_X11_in   ?_
  refine xs_ifb_eq (M := mX11_callIs) (pc := 7) (t := 19) dX11_callIs_7 (by decide) (fun c1 => ?_) (fun c1 => ?_)
  · refine wp_iconst (M := mX11_callIs) (pc := 19) dX11_callIs_19 k_iconst_m1 ?_
    exact xs_iret (M := mX11_callIs) (pc := 20) dX11_callIs_20 rfl (p1 c1)
  · refine wp_iload_n (M := mX11_callIs) (pc := 10) dX11_callIs_10 rfl rfl ?_
    refine wp_iconst (M := mX11_callIs) (pc := 11) dX11_callIs_11 k_iconst_0 ?_
    refine wp_iconst (M := mX11_callIs) (pc := 12) dX11_callIs_12 k_iconst_4 ?_
    refine xs_callS (d := d) (M := mX11_callIs) (pc := 13) (As := [.int x2, .int 0, .int 4]) (st := []) (ls' := [.int x2, .int 0, .int 4]) dX11_callIs_13 oX11_in nX11_in lX11_111 tX11_in (Nat.le_of_ble_eq_true rfl) rfl (Nat.le_of_ble_eq_true rfl) rfl ?_
    refine sp_X11_in   ?_
    refine xs_ifb_ne (M := mX11_callIs) (pc := 16) (t := 21) dX11_callIs_16 (by decide) (fun c2 => ?_) (fun c2 => ?_)
    · refine wp_aload_n (M := mX11_callIs) (pc := 21) dX11_callIs_21 rfl rfl ?_
      refine xs_getr (M := mX11_callIs) (pc := 22) (r := 83) dX11_callIs_22 fX11_7 sh82 rfl (gr82_0 sw) ?_
      refine wp_sipush (M := mX11_callIs) (pc := 25) dX11_callIs_25 k_sipush_188 ?_
      refine wp_iload_n (M := mX11_callIs) (pc := 28) dX11_callIs_28 rfl rfl ?_
      refine wp_iadd (M := mX11_callIs) (pc := 29) dX11_callIs_29 ?_
      refine xs_iald (M := mX11_callIs) (pc := 30) (j := (188 + x1).toNatClampNeg) dX11_callIs_30 sh83 (p2 c1 c2) rfl ?_
      refine wp_if_ne (M := mX11_callIs) (pc := 31) (t := 39) dX11_callIs_31 (by decide) (fun c3 => ?_) (fun c3 => ?_)
      · refine wp_aload_n (M := mX11_callIs) (pc := 39) dX11_callIs_39 rfl rfl ?_
        refine xs_getr (M := mX11_callIs) (pc := 40) (r := 83) dX11_callIs_40 fX11_7 sh82 rfl (gr82_0 sw) ?_
        refine wp_sipush (M := mX11_callIs) (pc := 43) dX11_callIs_43 k_sipush_128 ?_
        refine wp_bipush (M := mX11_callIs) (pc := 46) dX11_callIs_46 k_bipush_20 ?_
        refine wp_iload_n (M := mX11_callIs) (pc := 48) dX11_callIs_48 rfl rfl ?_
        refine wp_imul (M := mX11_callIs) (pc := 49) dX11_callIs_49 ?_
        refine wp_iadd (M := mX11_callIs) (pc := 50) dX11_callIs_50 ?_
        refine wp_iload_n (M := mX11_callIs) (pc := 51) dX11_callIs_51 rfl rfl ?_
        refine wp_iadd (M := mX11_callIs) (pc := 52) dX11_callIs_52 ?_
        refine xs_iald (M := mX11_callIs) (pc := 53) (j := ((128 + (20 * x2)) + x1).toNatClampNeg) dX11_callIs_53 sh83 (p3 c1 c2 c3) rfl ?_
        exact xs_iret (M := mX11_callIs) (pc := 54) dX11_callIs_54 rfl (p4 c1 c2 c3)
      · refine wp_bipush (M := mX11_callIs) (pc := 34) dX11_callIs_34 k_bipush_m2 ?_
        refine wp_goto (M := mX11_callIs) (pc := 36) (t := 54) dX11_callIs_36 (by decide) ?_
        exact xs_iret (M := mX11_callIs) (pc := 54) dX11_callIs_54 rfl (p5 c1 c2 c3)
    · refine wp_iconst (M := mX11_callIs) (pc := 19) dX11_callIs_19 k_iconst_m1 ?_
      exact xs_iret (M := mX11_callIs) (pc := 20) dX11_callIs_20 rfl (p6 c1 c2)
theorem bX11_circuits_0 {G : GC} {d : Nat} {sw : Bool} {f : FF} {Q : QQ} {x1 : Int32} {x2 : Int32} {x3 : Int32} (p1 : (¬ (twoE x1 x2)) → Q (some (.int (-1))) sw f) (p2 : (twoE x1 x2) → (0 ≤ x3 ∧ x3 ≤ 1) → (¬ x3 = 0) → XP G mX11_freeBetween (d + 1) 0 [.ref 82, .int x1, .int x2] [] sw f (fun v sw' f' => XP G mX11_circuits (d + 2) 43 [.ref 82, .int x1, .int x2, .int x3] (retst v []) sw' f' Q)) (p3 : (twoE x1 x2) → (0 ≤ x3 ∧ x3 ≤ 1) → (x3 = 0) → vp_in ((8 * x1) + x2) 64) (p4 : (twoE x1 x2) → (0 ≤ x3 ∧ x3 ≤ 1) → (x3 = 0) → Q (some (.int (f 86 (((8 * x1) + x2).toNatClampNeg)))) sw f) (p5 : (twoE x1 x2) → (¬ (0 ≤ x3 ∧ x3 ≤ 1)) → Q (some (.int (-1))) sw f) : XP G mX11_circuits (d + 2) 0 [.ref 82, .int x1, .int x2, .int x3] [] sw f Q := by
  refine wp_iload_n (M := mX11_circuits) (pc := 0) dX11_circuits_0 rfl rfl ?_
  refine wp_iload_n (M := mX11_circuits) (pc := 1) dX11_circuits_1 rfl rfl ?_
  refine xs_callS (d := d + 1) (M := mX11_circuits) (pc := 2) (As := [.int x1, .int x2]) (st := []) (ls' := [.int x1, .int x2]) dX11_circuits_2 oX11_areTwo nX11_areTwo lX11_123 tX11_areTwo (Nat.le_of_ble_eq_true rfl) rfl (Nat.le_of_ble_eq_true rfl) rfl ?_
  refine sp_X11_areTwo   ?_
  refine xs_ifb_eq (M := mX11_circuits) (pc := 5) (t := 17) dX11_circuits_5 (by decide) (fun c1 => ?_) (fun c1 => ?_)
  · refine wp_iconst (M := mX11_circuits) (pc := 17) dX11_circuits_17 k_iconst_m1 ?_
    exact xs_iret (M := mX11_circuits) (pc := 18) dX11_circuits_18 rfl (p1 c1)
  · refine wp_iload_n (M := mX11_circuits) (pc := 8) dX11_circuits_8 rfl rfl ?_
    refine wp_iconst (M := mX11_circuits) (pc := 9) dX11_circuits_9 k_iconst_0 ?_
    refine wp_iconst (M := mX11_circuits) (pc := 10) dX11_circuits_10 k_iconst_1 ?_
    refine xs_callS (d := d + 1) (M := mX11_circuits) (pc := 11) (As := [.int x3, .int 0, .int 1]) (st := []) (ls' := [.int x3, .int 0, .int 1]) dX11_circuits_11 oX11_in nX11_in lX11_111 tX11_in (Nat.le_of_ble_eq_true rfl) rfl (Nat.le_of_ble_eq_true rfl) rfl ?_
    refine sp_X11_in   ?_
    refine xs_ifb_ne (M := mX11_circuits) (pc := 14) (t := 19) dX11_circuits_14 (by decide) (fun c2 => ?_) (fun c2 => ?_)
    · refine wp_iload_n (M := mX11_circuits) (pc := 19) dX11_circuits_19 rfl rfl ?_
      refine wp_if_ne (M := mX11_circuits) (pc := 20) (t := 37) dX11_circuits_20 (by decide) (fun c3 => ?_) (fun c3 => ?_)
      · refine wp_aload_n (M := mX11_circuits) (pc := 37) dX11_circuits_37 rfl rfl ?_
        refine wp_iload_n (M := mX11_circuits) (pc := 38) dX11_circuits_38 rfl rfl ?_
        refine wp_iload_n (M := mX11_circuits) (pc := 39) dX11_circuits_39 rfl rfl ?_
        refine xs_callV (d := d + 1) (M := mX11_circuits) (pc := 40) (As := [.int x1, .int x2]) (st := []) (c := 11) (ls' := [.ref 82, .int x1, .int x2]) dX11_circuits_40 oX11_freeBetween nX11_freeBetween lX11_139 vX11_freeBetween sX11_freeBetween rfl sh82 (Nat.le_of_ble_eq_true rfl) rfl (Nat.le_of_ble_eq_true rfl) rfl ?_
        exact p2 c1 c2 c3
      · refine wp_aload_n (M := mX11_circuits) (pc := 23) dX11_circuits_23 rfl rfl ?_
        refine xs_getr (M := mX11_circuits) (pc := 24) (r := 86) dX11_circuits_24 fX11_19 sh82 rfl (gr82_3 sw) ?_
        refine wp_bipush (M := mX11_circuits) (pc := 27) dX11_circuits_27 k_bipush_8 ?_
        refine wp_iload_n (M := mX11_circuits) (pc := 29) dX11_circuits_29 rfl rfl ?_
        refine wp_imul (M := mX11_circuits) (pc := 30) dX11_circuits_30 ?_
        refine wp_iload_n (M := mX11_circuits) (pc := 31) dX11_circuits_31 rfl rfl ?_
        refine wp_iadd (M := mX11_circuits) (pc := 32) dX11_circuits_32 ?_
        refine xs_iald (M := mX11_circuits) (pc := 33) (j := ((8 * x1) + x2).toNatClampNeg) dX11_circuits_33 sh86 (p3 c1 c2 c3) rfl ?_
        refine wp_goto (M := mX11_circuits) (pc := 34) (t := 43) dX11_circuits_34 (by decide) ?_
        exact xs_iret (M := mX11_circuits) (pc := 43) dX11_circuits_43 rfl (p4 c1 c2 c3)
    · refine wp_iconst (M := mX11_circuits) (pc := 17) dX11_circuits_17 k_iconst_m1 ?_
      exact xs_iret (M := mX11_circuits) (pc := 18) dX11_circuits_18 rfl (p5 c1 c2)
theorem bX11_circuits_43 {G : GC} {d : Nat} {sw : Bool} {f : FF} {Q : QQ} {x1 : Int32} {x2 : Int32} {x3 : Int32} {s0 : Int32} (p1 : Q (some (.int s0)) sw f) : XP G mX11_circuits (d + 2) 43 [.ref 82, .int x1, .int x2, .int x3] [.int s0] sw f Q := by
  exact xs_iret (M := mX11_circuits) (pc := 43) dX11_circuits_43 rfl (p1)
theorem bX11_route_0 {G : GC} {d : Nat} {sw : Bool} {f : FF} {Q : QQ} {x1 : Int32} {x2 : Int32} {x3 : Int32} (p1 : (¬ (0 ≤ x1 ∧ x1 ≤ 7)) → Q (some (.int (-1))) sw f) (p2 : (0 ≤ x1 ∧ x1 ≤ 7) → (¬ (0 ≤ x2 ∧ x2 ≤ 7)) → Q (some (.int (-1))) sw f) (p3 : (0 ≤ x1 ∧ x1 ≤ 7) → (0 ≤ x2 ∧ x2 ≤ 7) → (0 ≤ x3 ∧ x3 ≤ 7) → XP G mX11_laysRoute (d + 3) 0 [.ref 82, .int x1, .int x2, .null, .null, .null] [] sw f (fun v sw' f' => XP G mX11_route (d + 4) 44 [.ref 82, .int x1, .int x2, .int x3, .null] (retst v []) sw' f' Q)) (p4 : (0 ≤ x1 ∧ x1 ≤ 7) → (0 ≤ x2 ∧ x2 ≤ 7) → (¬ (0 ≤ x3 ∧ x3 ≤ 7)) → (x3 = 100) → XP G mX11_laysRoute (d + 3) 0 [.ref 82, .int x1, .int x2, .null, .null, .null] [] sw f (fun v sw' f' => XP G mX11_route (d + 4) 44 [.ref 82, .int x1, .int x2, .int x3, .null] (retst v []) sw' f' Q)) (p5 : (0 ≤ x1 ∧ x1 ≤ 7) → (0 ≤ x2 ∧ x2 ≤ 7) → (¬ (0 ≤ x3 ∧ x3 ≤ 7)) → (¬ x3 = 100) → Q (some (.int (-1))) sw f) : XP G mX11_route (d + 4) 0 [.ref 82, .int x1, .int x2, .int x3, .null] [] sw f Q := by
  refine wp_iload_n (M := mX11_route) (pc := 0) dX11_route_0 rfl rfl ?_
  refine wp_iconst (M := mX11_route) (pc := 1) dX11_route_1 k_iconst_0 ?_
  refine wp_bipush (M := mX11_route) (pc := 2) dX11_route_2 k_bipush_7 ?_
  refine xs_callS (d := d + 3) (M := mX11_route) (pc := 4) (As := [.int x1, .int 0, .int 7]) (st := []) (ls' := [.int x1, .int 0, .int 7]) dX11_route_4 oX11_in nX11_in lX11_111 tX11_in (Nat.le_of_ble_eq_true rfl) rfl (Nat.le_of_ble_eq_true rfl) rfl ?_
  refine sp_X11_in   ?_
  refine xs_ifb_eq (M := mX11_route) (pc := 7) (t := 36) dX11_route_7 (by decide) (fun c1 => ?_) (fun c1 => ?_)
  · refine wp_iconst (M := mX11_route) (pc := 36) dX11_route_36 k_iconst_m1 ?_
    exact xs_iret (M := mX11_route) (pc := 37) dX11_route_37 rfl (p1 c1)
  · refine wp_iload_n (M := mX11_route) (pc := 10) dX11_route_10 rfl rfl ?_
    refine wp_iconst (M := mX11_route) (pc := 11) dX11_route_11 k_iconst_0 ?_
    refine wp_bipush (M := mX11_route) (pc := 12) dX11_route_12 k_bipush_7 ?_
    refine xs_callS (d := d + 3) (M := mX11_route) (pc := 14) (As := [.int x2, .int 0, .int 7]) (st := []) (ls' := [.int x2, .int 0, .int 7]) dX11_route_14 oX11_in nX11_in lX11_111 tX11_in (Nat.le_of_ble_eq_true rfl) rfl (Nat.le_of_ble_eq_true rfl) rfl ?_
    refine sp_X11_in   ?_
    refine xs_ifb_eq (M := mX11_route) (pc := 17) (t := 36) dX11_route_17 (by decide) (fun c2 => ?_) (fun c2 => ?_)
    · refine wp_iconst (M := mX11_route) (pc := 36) dX11_route_36 k_iconst_m1 ?_
      exact xs_iret (M := mX11_route) (pc := 37) dX11_route_37 rfl (p2 c1 c2)
    · refine wp_iload_n (M := mX11_route) (pc := 20) dX11_route_20 rfl rfl ?_
      refine wp_iconst (M := mX11_route) (pc := 21) dX11_route_21 k_iconst_0 ?_
      refine wp_bipush (M := mX11_route) (pc := 22) dX11_route_22 k_bipush_7 ?_
      refine xs_callS (d := d + 3) (M := mX11_route) (pc := 24) (As := [.int x3, .int 0, .int 7]) (st := []) (ls' := [.int x3, .int 0, .int 7]) dX11_route_24 oX11_in nX11_in lX11_111 tX11_in (Nat.le_of_ble_eq_true rfl) rfl (Nat.le_of_ble_eq_true rfl) rfl ?_
      refine sp_X11_in   ?_
      refine xs_ifb_ne (M := mX11_route) (pc := 27) (t := 38) dX11_route_27 (by decide) (fun c3 => ?_) (fun c3 => ?_)
      · refine wp_aload_n (M := mX11_route) (pc := 38) dX11_route_38 rfl rfl ?_
        refine wp_iload_n (M := mX11_route) (pc := 39) dX11_route_39 rfl rfl ?_
        refine wp_iload_n (M := mX11_route) (pc := 40) dX11_route_40 rfl rfl ?_
        refine xs_callV (d := d + 3) (M := mX11_route) (pc := 41) (As := [.int x1, .int x2]) (st := []) (c := 11) (ls' := [.ref 82, .int x1, .int x2, .null, .null, .null]) dX11_route_41 oX11_laysRoute nX11_laysRoute lX11_276 vX11_laysRoute sX11_laysRoute rfl sh82 (Nat.le_of_ble_eq_true rfl) rfl (Nat.le_of_ble_eq_true rfl) rfl ?_
        exact p3 c1 c2 c3
      · refine wp_iload_n (M := mX11_route) (pc := 30) dX11_route_30 rfl rfl ?_
        refine wp_bipush (M := mX11_route) (pc := 31) dX11_route_31 k_bipush_100 ?_
        refine wp_icmp_eq (M := mX11_route) (pc := 33) (t := 38) dX11_route_33 (by decide) (fun c4 => ?_) (fun c4 => ?_)
        · refine wp_aload_n (M := mX11_route) (pc := 38) dX11_route_38 rfl rfl ?_
          refine wp_iload_n (M := mX11_route) (pc := 39) dX11_route_39 rfl rfl ?_
          refine wp_iload_n (M := mX11_route) (pc := 40) dX11_route_40 rfl rfl ?_
          refine xs_callV (d := d + 3) (M := mX11_route) (pc := 41) (As := [.int x1, .int x2]) (st := []) (c := 11) (ls' := [.ref 82, .int x1, .int x2, .null, .null, .null]) dX11_route_41 oX11_laysRoute nX11_laysRoute lX11_276 vX11_laysRoute sX11_laysRoute rfl sh82 (Nat.le_of_ble_eq_true rfl) rfl (Nat.le_of_ble_eq_true rfl) rfl ?_
          exact p4 c1 c2 c3 c4
        · refine wp_iconst (M := mX11_route) (pc := 36) dX11_route_36 k_iconst_m1 ?_
          exact xs_iret (M := mX11_route) (pc := 37) dX11_route_37 rfl (p5 c1 c2 c3 c4)
theorem bX11_route_44 {G : GC} {d : Nat} {sw : Bool} {f : FF} {Q : QQ} {x1 : Int32} {x2 : Int32} {x3 : Int32} {v4 : Value} {s0 : Int32} (p1 : (¬ s0 = (-1)) → (¬ x3 = 100) → (s0 < x3) → Q (some (.int (-4))) sw f) (p2 : (¬ s0 = (-1)) → (¬ x3 = 100) → (¬ s0 < x3) → vp_in x3 8) (p3 : (¬ s0 = (-1)) → (¬ x3 = 100) → (¬ s0 < x3) → Q (some (.int (f 89 x3.toNatClampNeg))) sw f) (p4 : (¬ s0 = (-1)) → (x3 = 100) → Q (some (.int s0)) sw f) (p5 : (s0 = (-1)) → Q (some (.int (-2))) sw f) : XP G mX11_route (d + 4) 44 [.ref 82, .int x1, .int x2, .int x3, v4] [.int s0] sw f Q := by
  refine wp_istore (M := mX11_route) (pc := 44) (ls' := [.ref 82, .int x1, .int x2, .int x3, .int s0]) dX11_route_44 (by decide) rfl ?_
  refine wp_iload (M := mX11_route) (pc := 46) dX11_route_46 rfl ?_
  refine wp_iconst (M := mX11_route) (pc := 48) dX11_route_48 k_iconst_m1 ?_
  refine wp_icmp_ne (M := mX11_route) (pc := 49) (t := 55) dX11_route_49 (by decide) (fun c1 => ?_) (fun c1 => ?_)
  · refine wp_iload_n (M := mX11_route) (pc := 55) dX11_route_55 rfl rfl ?_
    refine wp_bipush (M := mX11_route) (pc := 56) dX11_route_56 k_bipush_100 ?_
    refine wp_icmp_ne (M := mX11_route) (pc := 58) (t := 66) dX11_route_58 (by decide) (fun c2 => ?_) (fun c2 => ?_)
    · refine wp_iload_n (M := mX11_route) (pc := 66) dX11_route_66 rfl rfl ?_
      refine wp_iload (M := mX11_route) (pc := 67) dX11_route_67 rfl ?_
      refine wp_icmp_gt (M := mX11_route) (pc := 69) (t := 81) dX11_route_69 (by decide) (fun c3 => ?_) (fun c3 => ?_)
      · refine wp_bipush (M := mX11_route) (pc := 81) dX11_route_81 k_bipush_m4 ?_
        exact xs_iret (M := mX11_route) (pc := 83) dX11_route_83 rfl (p1 c1 c2 c3)
      · refine wp_aload_n (M := mX11_route) (pc := 72) dX11_route_72 rfl rfl ?_
        refine xs_getr (M := mX11_route) (pc := 73) (r := 89) dX11_route_73 fX11_28 sh82 rfl (gr82_8 sw) ?_
        refine wp_iload_n (M := mX11_route) (pc := 76) dX11_route_76 rfl rfl ?_
        refine xs_iald (M := mX11_route) (pc := 77) (j := x3.toNatClampNeg) dX11_route_77 sh89 (p2 c1 c2 c3) rfl ?_
        refine wp_goto (M := mX11_route) (pc := 78) (t := 83) dX11_route_78 (by decide) ?_
        exact xs_iret (M := mX11_route) (pc := 83) dX11_route_83 rfl (p3 c1 c2 c3)
    · refine wp_iload (M := mX11_route) (pc := 61) dX11_route_61 rfl ?_
      refine wp_goto (M := mX11_route) (pc := 63) (t := 83) dX11_route_63 (by decide) ?_
      exact xs_iret (M := mX11_route) (pc := 83) dX11_route_83 rfl (p4 c1 c2)
  · refine wp_bipush (M := mX11_route) (pc := 52) dX11_route_52 k_bipush_m2 ?_
    exact xs_iret (M := mX11_route) (pc := 54) dX11_route_54 rfl (p5 c1)
theorem bX11_fundLasts_0 {G : GC} {d : Nat} {sw : Bool} {f : FF} {Q : QQ} {x1 : Int32} (p1 : (1 ≤ x1 ∧ x1 ≤ 240) → (¬ (f 83 388) = 0) → XP G mX11_copies (d + 6) 0 [.ref 83, .ref 84, .null] [] sw f (fun v sw' f' => XP G mX11_fundLasts (d + 7) 37 [.ref 82, .int x1, .null, .null] (retst v []) sw' f' Q)) (p2 : (1 ≤ x1 ∧ x1 ≤ 240) → ((f 83 388) = 0) → Q (some (.int 0)) sw f) (p3 : (¬ (1 ≤ x1 ∧ x1 ≤ 240)) → Q (some (.int (-1))) sw f) : XP G mX11_fundLasts (d + 7) 0 [.ref 82, .int x1, .null, .null] [] sw f Q := by
  refine wp_iload_n (M := mX11_fundLasts) (pc := 0) dX11_fundLasts_0 rfl rfl ?_
  refine wp_iconst (M := mX11_fundLasts) (pc := 1) dX11_fundLasts_1 k_iconst_1 ?_
  refine wp_sipush (M := mX11_fundLasts) (pc := 2) dX11_fundLasts_2 k_sipush_240 ?_
  refine xs_callS (d := d + 6) (M := mX11_fundLasts) (pc := 5) (As := [.int x1, .int 1, .int 240]) (st := []) (ls' := [.int x1, .int 1, .int 240]) dX11_fundLasts_5 oX11_in nX11_in lX11_111 tX11_in (Nat.le_of_ble_eq_true rfl) rfl (Nat.le_of_ble_eq_true rfl) rfl ?_
  refine sp_X11_in   ?_
  refine xs_ifb_ne (M := mX11_fundLasts) (pc := 8) (t := 13) dX11_fundLasts_8 (by decide) (fun c1 => ?_) (fun c1 => ?_)
  · refine wp_aload_n (M := mX11_fundLasts) (pc := 13) dX11_fundLasts_13 rfl rfl ?_
    refine xs_getr (M := mX11_fundLasts) (pc := 14) (r := 83) dX11_fundLasts_14 fX11_7 sh82 rfl (gr82_0 sw) ?_
    refine wp_sipush (M := mX11_fundLasts) (pc := 17) dX11_fundLasts_17 k_sipush_388 ?_
    refine xs_iald (M := mX11_fundLasts) (pc := 20) (j := 388) dX11_fundLasts_20 sh83 (vin (by decide)) rfl ?_
    refine wp_if_ne (M := mX11_fundLasts) (pc := 21) (t := 26) dX11_fundLasts_21 (by decide) (fun c2 => ?_) (fun c2 => ?_)
    · refine wp_aload_n (M := mX11_fundLasts) (pc := 26) dX11_fundLasts_26 rfl rfl ?_
      refine xs_getr (M := mX11_fundLasts) (pc := 27) (r := 83) dX11_fundLasts_27 fX11_7 sh82 rfl (gr82_0 sw) ?_
      refine wp_aload_n (M := mX11_fundLasts) (pc := 30) dX11_fundLasts_30 rfl rfl ?_
      refine xs_getr (M := mX11_fundLasts) (pc := 31) (r := 84) dX11_fundLasts_31 fX11_13 sh82 rfl (gr82_1 sw) ?_
      refine xs_callS (d := d + 6) (M := mX11_fundLasts) (pc := 34) (As := [.ref 83, .ref 84]) (st := []) (ls' := [.ref 83, .ref 84, .null]) dX11_fundLasts_34 oX11_copies nX11_copies lX11_266 tX11_copies (Nat.le_of_ble_eq_true rfl) rfl (Nat.le_of_ble_eq_true rfl) rfl ?_
      exact p1 c1 c2
    · refine wp_iconst (M := mX11_fundLasts) (pc := 24) dX11_fundLasts_24 k_iconst_0 ?_
      exact xs_iret (M := mX11_fundLasts) (pc := 25) dX11_fundLasts_25 rfl (p2 c1 c2)
  · refine wp_iconst (M := mX11_fundLasts) (pc := 11) dX11_fundLasts_11 k_iconst_m1 ?_
    exact xs_iret (M := mX11_fundLasts) (pc := 12) dX11_fundLasts_12 rfl (p3 c1)
theorem bX11_fundLasts_37 {G : GC} {d : Nat} {sw : Bool} {f : FF} {Q : QQ} {x1 : Int32} {v2 : Value} {v3 : Value} (p1 : XP G mX11_beginsMinutes (d + 6) 0 [.ref 82] [] sw f (fun v sw' f' => XP G mX11_fundLasts (d + 7) 41 [.ref 82, .int x1, v2, v3] (retst v []) sw' f' Q)) : XP G mX11_fundLasts (d + 7) 37 [.ref 82, .int x1, v2, v3] [] sw f Q := by
  refine wp_aload_n (M := mX11_fundLasts) (pc := 37) dX11_fundLasts_37 rfl rfl ?_
  refine xs_callV (d := d + 6) (M := mX11_fundLasts) (pc := 38) (As := []) (st := []) (c := 11) (ls' := [.ref 82]) dX11_fundLasts_38 oX11_beginsMinutes nX11_beginsMinutes lX11_313 vX11_beginsMinutes sX11_beginsMinutes rfl sh82 (Nat.le_of_ble_eq_true rfl) rfl (Nat.le_of_ble_eq_true rfl) rfl ?_
  exact p1
theorem bX11_fundLasts_41 {G : GC} {d : Nat} {sw : Bool} {f : FF} {Q : QQ} {x1 : Int32} {v2 : Value} {v3 : Value} (p1 : XP G mX11_fundLasts (d + 7) 46 [.ref 82, .int x1, .int (-2), .int 1] [] sw f Q) : XP G mX11_fundLasts (d + 7) 41 [.ref 82, .int x1, v2, v3] [] sw f Q := by
  refine wp_bipush (M := mX11_fundLasts) (pc := 41) dX11_fundLasts_41 k_bipush_m2 ?_
  refine wp_istore_n (M := mX11_fundLasts) (pc := 43) (ls' := [.ref 82, .int x1, .int (-2), v3]) dX11_fundLasts_43 rfl (by decide) rfl ?_
  refine wp_iconst (M := mX11_fundLasts) (pc := 44) dX11_fundLasts_44 k_iconst_1 ?_
  refine wp_istore_n (M := mX11_fundLasts) (pc := 45) (ls' := [.ref 82, .int x1, .int (-2), .int 1]) dX11_fundLasts_45 rfl (by decide) rfl ?_
  exact p1
theorem bX11_fundLasts_46 {G : GC} {d : Nat} {sw : Bool} {f : FF} {Q : QQ} {x1 : Int32} {x2 : Int32} {x3 : Int32} (p1 : (x1 < x3) → XP G mX11_copies (d + 6) 0 [.ref 84, .ref 83, .null] [] sw f (fun v sw' f' => XP G mX11_fundLasts (d + 7) 105 [.ref 82, .int x1, .int x2, .int x3] (retst v []) sw' f' Q)) (p2 : (¬ x1 < x3) → (¬ x2 = (-2)) → XP G mX11_copies (d + 6) 0 [.ref 84, .ref 83, .null] [] sw f (fun v sw' f' => XP G mX11_fundLasts (d + 7) 105 [.ref 82, .int x1, .int x2, .int x3] (retst v []) sw' f' Q)) (p3 : (¬ x1 < x3) → (x2 = (-2)) → (99999 ≤ (f 83 389)) → XP G mX11_copies (d + 6) 0 [.ref 84, .ref 83, .null] [] sw f (fun v sw' f' => XP G mX11_fundLasts (d + 7) 105 [.ref 82, .int x1, .int x2, .int x3] (retst v []) sw' f' Q)) (p4 : (¬ x1 < x3) → (x2 = (-2)) → (¬ 99999 ≤ (f 83 389)) → XP G mX11_minuteGoes (d + 6) 0 [.ref 82, .null] [] sw f (fun v sw' f' => XP G mX11_fundLasts (d + 7) 75 [.ref 82, .int x1, .int x2, .int x3] (retst v []) sw' f' Q)) : XP G mX11_fundLasts (d + 7) 46 [.ref 82, .int x1, .int x2, .int x3] [] sw f Q := by
  refine wp_iload_n (M := mX11_fundLasts) (pc := 46) dX11_fundLasts_46 rfl rfl ?_
  refine wp_iload_n (M := mX11_fundLasts) (pc := 47) dX11_fundLasts_47 rfl rfl ?_
  refine wp_icmp_gt (M := mX11_fundLasts) (pc := 48) (t := 94) dX11_fundLasts_48 (by decide) (fun c1 => ?_) (fun c1 => ?_)
  · refine wp_aload_n (M := mX11_fundLasts) (pc := 94) dX11_fundLasts_94 rfl rfl ?_
    refine xs_getr (M := mX11_fundLasts) (pc := 95) (r := 84) dX11_fundLasts_95 fX11_13 sh82 rfl (gr82_1 sw) ?_
    refine wp_aload_n (M := mX11_fundLasts) (pc := 98) dX11_fundLasts_98 rfl rfl ?_
    refine xs_getr (M := mX11_fundLasts) (pc := 99) (r := 83) dX11_fundLasts_99 fX11_7 sh82 rfl (gr82_0 sw) ?_
    refine xs_callS (d := d + 6) (M := mX11_fundLasts) (pc := 102) (As := [.ref 84, .ref 83]) (st := []) (ls' := [.ref 84, .ref 83, .null]) dX11_fundLasts_102 oX11_copies nX11_copies lX11_266 tX11_copies (Nat.le_of_ble_eq_true rfl) rfl (Nat.le_of_ble_eq_true rfl) rfl ?_
    exact p1 c1
  · refine wp_iload_n (M := mX11_fundLasts) (pc := 51) dX11_fundLasts_51 rfl rfl ?_
    refine wp_bipush (M := mX11_fundLasts) (pc := 52) dX11_fundLasts_52 k_bipush_m2 ?_
    refine wp_icmp_ne (M := mX11_fundLasts) (pc := 54) (t := 94) dX11_fundLasts_54 (by decide) (fun c2 => ?_) (fun c2 => ?_)
    · refine wp_aload_n (M := mX11_fundLasts) (pc := 94) dX11_fundLasts_94 rfl rfl ?_
      refine xs_getr (M := mX11_fundLasts) (pc := 95) (r := 84) dX11_fundLasts_95 fX11_13 sh82 rfl (gr82_1 sw) ?_
      refine wp_aload_n (M := mX11_fundLasts) (pc := 98) dX11_fundLasts_98 rfl rfl ?_
      refine xs_getr (M := mX11_fundLasts) (pc := 99) (r := 83) dX11_fundLasts_99 fX11_7 sh82 rfl (gr82_0 sw) ?_
      refine xs_callS (d := d + 6) (M := mX11_fundLasts) (pc := 102) (As := [.ref 84, .ref 83]) (st := []) (ls' := [.ref 84, .ref 83, .null]) dX11_fundLasts_102 oX11_copies nX11_copies lX11_266 tX11_copies (Nat.le_of_ble_eq_true rfl) rfl (Nat.le_of_ble_eq_true rfl) rfl ?_
      exact p2 c1 c2
    · refine wp_aload_n (M := mX11_fundLasts) (pc := 57) dX11_fundLasts_57 rfl rfl ?_
      refine xs_getr (M := mX11_fundLasts) (pc := 58) (r := 83) dX11_fundLasts_58 fX11_7 sh82 rfl (gr82_0 sw) ?_
      refine wp_sipush (M := mX11_fundLasts) (pc := 61) dX11_fundLasts_61 k_sipush_389 ?_
      refine xs_iald (M := mX11_fundLasts) (pc := 64) (j := 389) dX11_fundLasts_64 sh83 (vin (by decide)) rfl ?_
      refine wp_ldcw (M := mX11_fundLasts) (pc := 65) dX11_fundLasts_65 kX11_316 ?_
      refine wp_icmp_ge (M := mX11_fundLasts) (pc := 68) (t := 94) dX11_fundLasts_68 (by decide) (fun c3 => ?_) (fun c3 => ?_)
      · refine wp_aload_n (M := mX11_fundLasts) (pc := 94) dX11_fundLasts_94 rfl rfl ?_
        refine xs_getr (M := mX11_fundLasts) (pc := 95) (r := 84) dX11_fundLasts_95 fX11_13 sh82 rfl (gr82_1 sw) ?_
        refine wp_aload_n (M := mX11_fundLasts) (pc := 98) dX11_fundLasts_98 rfl rfl ?_
        refine xs_getr (M := mX11_fundLasts) (pc := 99) (r := 83) dX11_fundLasts_99 fX11_7 sh82 rfl (gr82_0 sw) ?_
        refine xs_callS (d := d + 6) (M := mX11_fundLasts) (pc := 102) (As := [.ref 84, .ref 83]) (st := []) (ls' := [.ref 84, .ref 83, .null]) dX11_fundLasts_102 oX11_copies nX11_copies lX11_266 tX11_copies (Nat.le_of_ble_eq_true rfl) rfl (Nat.le_of_ble_eq_true rfl) rfl ?_
        exact p3 c1 c2 c3
      · refine wp_aload_n (M := mX11_fundLasts) (pc := 71) dX11_fundLasts_71 rfl rfl ?_
        refine xs_callV (d := d + 6) (M := mX11_fundLasts) (pc := 72) (As := []) (st := []) (c := 11) (ls' := [.ref 82, .null]) dX11_fundLasts_72 oX11_minuteGoes nX11_minuteGoes lX11_317 vX11_minuteGoes sX11_minuteGoes rfl sh82 (Nat.le_of_ble_eq_true rfl) rfl (Nat.le_of_ble_eq_true rfl) rfl ?_
        exact p4 c1 c2 c3
theorem bX11_fundLasts_75 {G : GC} {d : Nat} {sw : Bool} {f : FF} {Q : QQ} {x1 : Int32} {x2 : Int32} {x3 : Int32} (p1 : (¬ (f 83 388) = 0) → XP G mX11_fundLasts (d + 7) 46 [.ref 82, .int x1, .int x2, .int (x3 + 1)] [] sw f Q) (p2 : ((f 83 388) = 0) → XP G mX11_fundLasts (d + 7) 46 [.ref 82, .int x1, .int x3, .int (x3 + 1)] [] sw f Q) : XP G mX11_fundLasts (d + 7) 75 [.ref 82, .int x1, .int x2, .int x3] [] sw f Q := by
  refine wp_aload_n (M := mX11_fundLasts) (pc := 75) dX11_fundLasts_75 rfl rfl ?_
  refine xs_getr (M := mX11_fundLasts) (pc := 76) (r := 83) dX11_fundLasts_76 fX11_7 sh82 rfl (gr82_0 sw) ?_
  refine wp_sipush (M := mX11_fundLasts) (pc := 79) dX11_fundLasts_79 k_sipush_388 ?_
  refine xs_iald (M := mX11_fundLasts) (pc := 82) (j := 388) dX11_fundLasts_82 sh83 (vin (by decide)) rfl ?_
  refine wp_if_ne (M := mX11_fundLasts) (pc := 83) (t := 88) dX11_fundLasts_83 (by decide) (fun c1 => ?_) (fun c1 => ?_)
  · refine wp_iinc (M := mX11_fundLasts) (pc := 88) (v := x3 + 1) (ls' := [.ref 82, .int x1, .int x2, .int (x3 + 1)]) dX11_fundLasts_88 rfl (congrArg (fun z => _ + z) k_iconst_1) (by decide) rfl ?_
    refine wp_goto (M := mX11_fundLasts) (pc := 91) (t := 46) dX11_fundLasts_91 (by decide) ?_
    exact p1 c1
  · refine wp_iload_n (M := mX11_fundLasts) (pc := 86) dX11_fundLasts_86 rfl rfl ?_
    refine wp_istore_n (M := mX11_fundLasts) (pc := 87) (ls' := [.ref 82, .int x1, .int x3, .int x3]) dX11_fundLasts_87 rfl (by decide) rfl ?_
    refine wp_iinc (M := mX11_fundLasts) (pc := 88) (v := x3 + 1) (ls' := [.ref 82, .int x1, .int x3, .int (x3 + 1)]) dX11_fundLasts_88 rfl (congrArg (fun z => _ + z) k_iconst_1) (by decide) rfl ?_
    refine wp_goto (M := mX11_fundLasts) (pc := 91) (t := 46) dX11_fundLasts_91 (by decide) ?_
    exact p2 c1
theorem bX11_fundLasts_105 {G : GC} {d : Nat} {sw : Bool} {f : FF} {Q : QQ} {x1 : Int32} {x2 : Int32} {x3 : Int32} (p1 : Q (some (.int x2)) sw f) : XP G mX11_fundLasts (d + 7) 105 [.ref 82, .int x1, .int x2, .int x3] [] sw f Q := by
  refine wp_iload_n (M := mX11_fundLasts) (pc := 105) dX11_fundLasts_105 rfl rfl ?_
  exact xs_iret (M := mX11_fundLasts) (pc := 106) dX11_fundLasts_106 rfl (p1)
theorem bX11_atOnce_0 {G : GC} {d : Nat} {sw : Bool} {f : FF} {Q : QQ} {x1 : Int32} {x2 : Int32} (p1 : (¬ (twoE x1 x2)) → Q (some (.int (-1))) sw f) (p2 : (twoE x1 x2) → XP G mX11_flowBetween (d + 1) 0 [.ref 82, .int x1, .int x2, .int 9, .null] [] sw f (fun v sw' f' => XP G mX11_atOnce (d + 2) 16 [.ref 82, .int x1, .int x2] (retst v []) sw' f' Q)) : XP G mX11_atOnce (d + 2) 0 [.ref 82, .int x1, .int x2] [] sw f Q := by
  refine wp_iload_n (M := mX11_atOnce) (pc := 0) dX11_atOnce_0 rfl rfl ?_
  refine wp_iload_n (M := mX11_atOnce) (pc := 1) dX11_atOnce_1 rfl rfl ?_
  refine xs_callS (d := d + 1) (M := mX11_atOnce) (pc := 2) (As := [.int x1, .int x2]) (st := []) (ls' := [.int x1, .int x2]) dX11_atOnce_2 oX11_areTwo nX11_areTwo lX11_123 tX11_areTwo (Nat.le_of_ble_eq_true rfl) rfl (Nat.le_of_ble_eq_true rfl) rfl ?_
  refine sp_X11_areTwo   ?_
  refine xs_ifb_eq (M := mX11_atOnce) (pc := 5) (t := 19) dX11_atOnce_5 (by decide) (fun c1 => ?_) (fun c1 => ?_)
  · refine wp_iconst (M := mX11_atOnce) (pc := 19) dX11_atOnce_19 k_iconst_m1 ?_
    exact xs_iret (M := mX11_atOnce) (pc := 20) dX11_atOnce_20 rfl (p1 c1)
  · refine wp_aload_n (M := mX11_atOnce) (pc := 8) dX11_atOnce_8 rfl rfl ?_
    refine wp_iload_n (M := mX11_atOnce) (pc := 9) dX11_atOnce_9 rfl rfl ?_
    refine wp_iload_n (M := mX11_atOnce) (pc := 10) dX11_atOnce_10 rfl rfl ?_
    refine wp_bipush (M := mX11_atOnce) (pc := 11) dX11_atOnce_11 k_bipush_9 ?_
    refine xs_callV (d := d + 1) (M := mX11_atOnce) (pc := 13) (As := [.int x1, .int x2, .int 9]) (st := []) (c := 11) (ls' := [.ref 82, .int x1, .int x2, .int 9, .null]) dX11_atOnce_13 oX11_flowBetween nX11_flowBetween lX11_332 vX11_flowBetween sX11_flowBetween rfl sh82 (Nat.le_of_ble_eq_true rfl) rfl (Nat.le_of_ble_eq_true rfl) rfl ?_
    exact p2 c1
theorem bX11_atOnce_16 {G : GC} {d : Nat} {sw : Bool} {f : FF} {Q : QQ} {x1 : Int32} {x2 : Int32} {s0 : Int32} (p1 : Q (some (.int s0)) sw f) : XP G mX11_atOnce (d + 2) 16 [.ref 82, .int x1, .int x2] [.int s0] sw f Q := by
  refine wp_goto (M := mX11_atOnce) (pc := 16) (t := 20) dX11_atOnce_16 (by decide) ?_
  exact xs_iret (M := mX11_atOnce) (pc := 20) dX11_atOnce_20 rfl (p1)
theorem bX11_flowBetween_0 {G : GC} {d : Nat} {sw : Bool} {f : FF} {Q : QQ} {x1 : Int32} {x2 : Int32} {x3 : Int32} (p1 : XP G mX11_flowBetween (d + 1) 3 [.ref 82, .int x1, .int x2, .int x3, .int 0] [] sw f Q) : XP G mX11_flowBetween (d + 1) 0 [.ref 82, .int x1, .int x2, .int x3, .null] [] sw f Q := by
  refine wp_iconst (M := mX11_flowBetween) (pc := 0) dX11_flowBetween_0 k_iconst_0 ?_
  refine wp_istore (M := mX11_flowBetween) (pc := 1) (ls' := [.ref 82, .int x1, .int x2, .int x3, .int 0]) dX11_flowBetween_1 (by decide) rfl ?_
  exact p1
theorem bX11_flowBetween_3 {G : GC} {d : Nat} {sw : Bool} {f : FF} {Q : QQ} {x1 : Int32} {x2 : Int32} {x3 : Int32} {x4 : Int32} (p1 : (64 ≤ x4) → XP G mX11_flowBetween (d + 1) 37 [.ref 82, .int x1, .int x2, .int x3, .int 0] [] sw f Q) (p2 : (¬ 64 ≤ x4) → vp_in x4 64) (p3 : (¬ 64 ≤ x4) → vp_in x4 64) (p4 : (¬ 64 ≤ x4) → XP G mX11_flowBetween (d + 1) 3 [.ref 82, .int x1, .int x2, .int x3, .int (x4 + 1)] [] sw (upd2 f 104 x4.toNatClampNeg (mnI x3 (f 86 x4.toNatClampNeg))) Q) : XP G mX11_flowBetween (d + 1) 3 [.ref 82, .int x1, .int x2, .int x3, .int x4] [] sw f Q := by
  refine wp_iload (M := mX11_flowBetween) (pc := 3) dX11_flowBetween_3 rfl ?_
  refine wp_bipush (M := mX11_flowBetween) (pc := 5) dX11_flowBetween_5 k_bipush_64 ?_
  refine wp_icmp_ge (M := mX11_flowBetween) (pc := 7) (t := 34) dX11_flowBetween_7 (by decide) (fun c1 => ?_) (fun c1 => ?_)
  · refine wp_iconst (M := mX11_flowBetween) (pc := 34) dX11_flowBetween_34 k_iconst_0 ?_
    refine wp_istore (M := mX11_flowBetween) (pc := 35) (ls' := [.ref 82, .int x1, .int x2, .int x3, .int 0]) dX11_flowBetween_35 (by decide) rfl ?_
    exact p1 c1
  · refine wp_aload_n (M := mX11_flowBetween) (pc := 10) dX11_flowBetween_10 rfl rfl ?_
    refine xs_getr (M := mX11_flowBetween) (pc := 11) (r := 104) dX11_flowBetween_11 fX11_74 sh82 rfl (gr82_37 sw) ?_
    refine wp_iload (M := mX11_flowBetween) (pc := 14) dX11_flowBetween_14 rfl ?_
    refine wp_iload_n (M := mX11_flowBetween) (pc := 16) dX11_flowBetween_16 rfl rfl ?_
    refine wp_aload_n (M := mX11_flowBetween) (pc := 17) dX11_flowBetween_17 rfl rfl ?_
    refine xs_getr (M := mX11_flowBetween) (pc := 18) (r := 86) dX11_flowBetween_18 fX11_19 sh82 rfl (gr82_3 sw) ?_
    refine wp_iload (M := mX11_flowBetween) (pc := 21) dX11_flowBetween_21 rfl ?_
    refine xs_iald (M := mX11_flowBetween) (pc := 23) (j := x4.toNatClampNeg) dX11_flowBetween_23 sh86 (p2 c1) rfl ?_
    refine xs_callS (d := d) (M := mX11_flowBetween) (pc := 24) (As := [.int x3, .int (f 86 x4.toNatClampNeg)]) (st := [.int x4, .ref 104]) (ls' := [.int x3, .int (f 86 x4.toNatClampNeg)]) dX11_flowBetween_24 oX11_min nX11_min lX11_257 tX11_min (Nat.le_of_ble_eq_true rfl) rfl (Nat.le_of_ble_eq_true rfl) rfl ?_
    refine sp_X11_min   ?_
    refine xs_iast (M := mX11_flowBetween) (pc := 27) (j := x4.toNatClampNeg) dX11_flowBetween_27 sh104 (p3 c1) rfl ?_
    refine wp_iinc (M := mX11_flowBetween) (pc := 28) (v := x4 + 1) (ls' := [.ref 82, .int x1, .int x2, .int x3, .int (x4 + 1)]) dX11_flowBetween_28 rfl (congrArg (fun z => _ + z) k_iconst_1) (by decide) rfl ?_
    refine wp_goto (M := mX11_flowBetween) (pc := 31) (t := 3) dX11_flowBetween_31 (by decide) ?_
    exact p4 c1
theorem bX11_flowBetween_37 {G : GC} {d : Nat} {sw : Bool} {f : FF} {Q : QQ} {x1 : Int32} {x2 : Int32} {x3 : Int32} {x4 : Int32} (p1 : XP G mX11_oneMore (d) 0 [.ref 82, .int x1, .int x2, .null, .null, .null] [] sw f (fun v sw' f' => XP G mX11_flowBetween (d + 1) 43 [.ref 82, .int x1, .int x2, .int x3, .int x4] (retst v []) sw' f' Q)) : XP G mX11_flowBetween (d + 1) 37 [.ref 82, .int x1, .int x2, .int x3, .int x4] [] sw f Q := by
  refine wp_aload_n (M := mX11_flowBetween) (pc := 37) dX11_flowBetween_37 rfl rfl ?_
  refine wp_iload_n (M := mX11_flowBetween) (pc := 38) dX11_flowBetween_38 rfl rfl ?_
  refine wp_iload_n (M := mX11_flowBetween) (pc := 39) dX11_flowBetween_39 rfl rfl ?_
  refine xs_callV (d := d) (M := mX11_flowBetween) (pc := 40) (As := [.int x1, .int x2]) (st := []) (c := 11) (ls' := [.ref 82, .int x1, .int x2, .null, .null, .null]) dX11_flowBetween_40 oX11_oneMore nX11_oneMore lX11_329 vX11_oneMore sX11_oneMore rfl sh82 (Nat.le_of_ble_eq_true rfl) rfl (Nat.le_of_ble_eq_true rfl) rfl ?_
  exact p1
theorem bX11_flowBetween_43 {G : GC} {d : Nat} {sw : Bool} {f : FF} {Q : QQ} {x1 : Int32} {x2 : Int32} {x3 : Int32} {x4 : Int32} {s0 : Int32} (p1 : (s0 = 0) → Q (some (.int x4)) sw f) (p2 : (¬ s0 = 0) → XP G mX11_flowBetween (d + 1) 37 [.ref 82, .int x1, .int x2, .int x3, .int (x4 + 1)] [] sw f Q) : XP G mX11_flowBetween (d + 1) 43 [.ref 82, .int x1, .int x2, .int x3, .int x4] [.int s0] sw f Q := by
  refine wp_if_eq (M := mX11_flowBetween) (pc := 43) (t := 55) dX11_flowBetween_43 (by decide) (fun c1 => ?_) (fun c1 => ?_)
  · refine wp_iload (M := mX11_flowBetween) (pc := 55) dX11_flowBetween_55 rfl ?_
    exact xs_iret (M := mX11_flowBetween) (pc := 57) dX11_flowBetween_57 rfl (p1 c1)
  · refine wp_iload (M := mX11_flowBetween) (pc := 46) dX11_flowBetween_46 rfl ?_
    refine wp_iconst (M := mX11_flowBetween) (pc := 48) dX11_flowBetween_48 k_iconst_1 ?_
    refine wp_iadd (M := mX11_flowBetween) (pc := 49) dX11_flowBetween_49 ?_
    refine wp_istore (M := mX11_flowBetween) (pc := 50) (ls' := [.ref 82, .int x1, .int x2, .int x3, .int (x4 + 1)]) dX11_flowBetween_50 (by decide) rfl ?_
    refine wp_goto (M := mX11_flowBetween) (pc := 52) (t := 37) dX11_flowBetween_52 (by decide) ?_
    exact p2 c1
theorem bX11_oneMore_0 {G : GC} {d : Nat} {sw : Bool} {f : FF} {Q : QQ} {x1 : Int32} {x2 : Int32} (p1 : XP G mX11_oneMore (d) 2 [.ref 82, .int x1, .int x2, .int 0, .null, .null] [] sw f Q) : XP G mX11_oneMore (d) 0 [.ref 82, .int x1, .int x2, .null, .null, .null] [] sw f Q := by
  refine wp_iconst (M := mX11_oneMore) (pc := 0) dX11_oneMore_0 k_iconst_0 ?_
  refine wp_istore_n (M := mX11_oneMore) (pc := 1) (ls' := [.ref 82, .int x1, .int x2, .int 0, .null, .null]) dX11_oneMore_1 rfl (by decide) rfl ?_
  exact p1
theorem bX11_oneMore_2 {G : GC} {d : Nat} {sw : Bool} {f : FF} {Q : QQ} {x1 : Int32} {x2 : Int32} {x3 : Int32} {v4 : Value} {v5 : Value} (p1 : (8 ≤ x3) → vp_in x1 8) (p2 : (8 ≤ x3) → XP G mX11_oneMore (d) 40 [.ref 82, .int x1, .int x2, .int 1, .int 0, v5] [] sw (upd2 (upd2 f 105 x1.toNatClampNeg x1) 88 0 x1) Q) (p3 : (¬ 8 ≤ x3) → vp_in x3 8) (p4 : (¬ 8 ≤ x3) → XP G mX11_oneMore (d) 2 [.ref 82, .int x1, .int x2, .int (x3 + 1), v4, v5] [] sw (upd2 f 105 x3.toNatClampNeg (-1)) Q) : XP G mX11_oneMore (d) 2 [.ref 82, .int x1, .int x2, .int x3, v4, v5] [] sw f Q := by
  refine wp_iload_n (M := mX11_oneMore) (pc := 2) dX11_oneMore_2 rfl rfl ?_
  refine wp_bipush (M := mX11_oneMore) (pc := 3) dX11_oneMore_3 k_bipush_8 ?_
  refine wp_icmp_ge (M := mX11_oneMore) (pc := 5) (t := 21) dX11_oneMore_5 (by decide) (fun c1 => ?_) (fun c1 => ?_)
  · refine wp_aload_n (M := mX11_oneMore) (pc := 21) dX11_oneMore_21 rfl rfl ?_
    refine xs_getr (M := mX11_oneMore) (pc := 22) (r := 105) dX11_oneMore_22 fX11_77 sh82 rfl (gr82_38 sw) ?_
    refine wp_iload_n (M := mX11_oneMore) (pc := 25) dX11_oneMore_25 rfl rfl ?_
    refine wp_iload_n (M := mX11_oneMore) (pc := 26) dX11_oneMore_26 rfl rfl ?_
    refine xs_iast (M := mX11_oneMore) (pc := 27) (j := x1.toNatClampNeg) dX11_oneMore_27 sh105 (p1 c1) rfl ?_
    refine wp_aload_n (M := mX11_oneMore) (pc := 28) dX11_oneMore_28 rfl rfl ?_
    refine xs_getr (M := mX11_oneMore) (pc := 29) (r := 88) dX11_oneMore_29 fX11_25 sh82 rfl (gr82_7 sw) ?_
    refine wp_iconst (M := mX11_oneMore) (pc := 32) dX11_oneMore_32 k_iconst_0 ?_
    refine wp_iload_n (M := mX11_oneMore) (pc := 33) dX11_oneMore_33 rfl rfl ?_
    refine xs_iast (M := mX11_oneMore) (pc := 34) (j := 0) dX11_oneMore_34 sh88 (vin (by decide)) rfl ?_
    refine wp_iconst (M := mX11_oneMore) (pc := 35) dX11_oneMore_35 k_iconst_1 ?_
    refine wp_istore_n (M := mX11_oneMore) (pc := 36) (ls' := [.ref 82, .int x1, .int x2, .int 1, v4, v5]) dX11_oneMore_36 rfl (by decide) rfl ?_
    refine wp_iconst (M := mX11_oneMore) (pc := 37) dX11_oneMore_37 k_iconst_0 ?_
    refine wp_istore (M := mX11_oneMore) (pc := 38) (ls' := [.ref 82, .int x1, .int x2, .int 1, .int 0, v5]) dX11_oneMore_38 (by decide) rfl ?_
    exact p2 c1
  · refine wp_aload_n (M := mX11_oneMore) (pc := 8) dX11_oneMore_8 rfl rfl ?_
    refine xs_getr (M := mX11_oneMore) (pc := 9) (r := 105) dX11_oneMore_9 fX11_77 sh82 rfl (gr82_38 sw) ?_
    refine wp_iload_n (M := mX11_oneMore) (pc := 12) dX11_oneMore_12 rfl rfl ?_
    refine wp_iconst (M := mX11_oneMore) (pc := 13) dX11_oneMore_13 k_iconst_m1 ?_
    refine xs_iast (M := mX11_oneMore) (pc := 14) (j := x3.toNatClampNeg) dX11_oneMore_14 sh105 (p3 c1) rfl ?_
    refine wp_iinc (M := mX11_oneMore) (pc := 15) (v := x3 + 1) (ls' := [.ref 82, .int x1, .int x2, .int (x3 + 1), v4, v5]) dX11_oneMore_15 rfl (congrArg (fun z => _ + z) k_iconst_1) (by decide) rfl ?_
    refine wp_goto (M := mX11_oneMore) (pc := 18) (t := 2) dX11_oneMore_18 (by decide) ?_
    exact p4 c1
theorem bX11_oneMore_40 {G : GC} {d : Nat} {sw : Bool} {f : FF} {Q : QQ} {x1 : Int32} {x2 : Int32} {x3 : Int32} {x4 : Int32} {v5 : Value} (p1 : (x3 ≤ x4) → vp_in x2 8) (p2 : (x3 ≤ x4) → (¬ (f 105 x2.toNatClampNeg) = (-1)) → XP G mX11_oneMore (d) 144 [.ref 82, .int x1, .int x2, .int x3, .int x2, v5] [] sw f Q) (p3 : (x3 ≤ x4) → ((f 105 x2.toNatClampNeg) = (-1)) → Q (some (.int 0)) sw f) (p4 : (¬ x3 ≤ x4) → XP G mX11_oneMore (d) 49 [.ref 82, .int x1, .int x2, .int x3, .int x4, .int 0] [] sw f Q) : XP G mX11_oneMore (d) 40 [.ref 82, .int x1, .int x2, .int x3, .int x4, v5] [] sw f Q := by
  refine wp_iload (M := mX11_oneMore) (pc := 40) dX11_oneMore_40 rfl ?_
  refine wp_iload_n (M := mX11_oneMore) (pc := 42) dX11_oneMore_42 rfl rfl ?_
  refine wp_icmp_ge (M := mX11_oneMore) (pc := 43) (t := 129) dX11_oneMore_43 (by decide) (fun c1 => ?_) (fun c1 => ?_)
  · refine wp_aload_n (M := mX11_oneMore) (pc := 129) dX11_oneMore_129 rfl rfl ?_
    refine xs_getr (M := mX11_oneMore) (pc := 130) (r := 105) dX11_oneMore_130 fX11_77 sh82 rfl (gr82_38 sw) ?_
    refine wp_iload_n (M := mX11_oneMore) (pc := 133) dX11_oneMore_133 rfl rfl ?_
    refine xs_iald (M := mX11_oneMore) (pc := 134) (j := x2.toNatClampNeg) dX11_oneMore_134 sh105 (p1 c1) rfl ?_
    refine wp_iconst (M := mX11_oneMore) (pc := 135) dX11_oneMore_135 k_iconst_m1 ?_
    refine wp_icmp_ne (M := mX11_oneMore) (pc := 136) (t := 141) dX11_oneMore_136 (by decide) (fun c2 => ?_) (fun c2 => ?_)
    · refine wp_iload_n (M := mX11_oneMore) (pc := 141) dX11_oneMore_141 rfl rfl ?_
      refine wp_istore (M := mX11_oneMore) (pc := 142) (ls' := [.ref 82, .int x1, .int x2, .int x3, .int x2, v5]) dX11_oneMore_142 (by decide) rfl ?_
      exact p2 c1 c2
    · refine wp_iconst (M := mX11_oneMore) (pc := 139) dX11_oneMore_139 k_iconst_0 ?_
      exact xs_zret (M := mX11_oneMore) (pc := 140) dX11_oneMore_140 rfl (by decide) (p3 c1 c2)
  · refine wp_iconst (M := mX11_oneMore) (pc := 46) dX11_oneMore_46 k_iconst_0 ?_
    refine wp_istore (M := mX11_oneMore) (pc := 47) (ls' := [.ref 82, .int x1, .int x2, .int x3, .int x4, .int 0]) dX11_oneMore_47 (by decide) rfl ?_
    exact p4 c1
theorem bX11_oneMore_49 {G : GC} {d : Nat} {sw : Bool} {f : FF} {Q : QQ} {x1 : Int32} {x2 : Int32} {x3 : Int32} {x4 : Int32} {x5 : Int32} (p1 : (8 ≤ x5) → XP G mX11_oneMore (d) 40 [.ref 82, .int x1, .int x2, .int x3, .int (x4 + 1), .int x5] [] sw f Q) (p2 : (¬ 8 ≤ x5) → vp_in x5 8) (p3 : (¬ 8 ≤ x5) → (¬ (f 105 x5.toNatClampNeg) = (-1)) → XP G mX11_oneMore (d) 49 [.ref 82, .int x1, .int x2, .int x3, .int x4, .int (x5 + 1)] [] sw f Q) (p4 : (¬ 8 ≤ x5) → ((f 105 x5.toNatClampNeg) = (-1)) → vp_in x4 8) (p5 : (¬ 8 ≤ x5) → ((f 105 x5.toNatClampNeg) = (-1)) → vp_in ((8 * (f 88 x4.toNatClampNeg)) + x5) 64) (p6 : (¬ 8 ≤ x5) → ((f 105 x5.toNatClampNeg) = (-1)) → (¬ (f 104 (((8 * (f 88 x4.toNatClampNeg)) + x5).toNatClampNeg)) = 0) → vp_in x4 8) (p7 : (¬ 8 ≤ x5) → ((f 105 x5.toNatClampNeg) = (-1)) → (¬ (f 104 (((8 * (f 88 x4.toNatClampNeg)) + x5).toNatClampNeg)) = 0) → vp_in x5 8) (p8 : (¬ 8 ≤ x5) → ((f 105 x5.toNatClampNeg) = (-1)) → (¬ (f 104 (((8 * (f 88 x4.toNatClampNeg)) + x5).toNatClampNeg)) = 0) → vp_in x3 8) (p9 : (¬ 8 ≤ x5) → ((f 105 x5.toNatClampNeg) = (-1)) → (¬ (f 104 (((8 * (f 88 x4.toNatClampNeg)) + x5).toNatClampNeg)) = 0) → XP G mX11_oneMore (d) 49 [.ref 82, .int x1, .int x2, .int (x3 + 1), .int x4, .int (x5 + 1)] [] sw (upd2 (upd2 f 105 x5.toNatClampNeg (f 88 x4.toNatClampNeg)) 88 x3.toNatClampNeg x5) Q) (p10 : (¬ 8 ≤ x5) → ((f 105 x5.toNatClampNeg) = (-1)) → ((f 104 (((8 * (f 88 x4.toNatClampNeg)) + x5).toNatClampNeg)) = 0) → XP G mX11_oneMore (d) 49 [.ref 82, .int x1, .int x2, .int x3, .int x4, .int (x5 + 1)] [] sw f Q) : XP G mX11_oneMore (d) 49 [.ref 82, .int x1, .int x2, .int x3, .int x4, .int x5] [] sw f Q := by
  refine wp_iload (M := mX11_oneMore) (pc := 49) dX11_oneMore_49 rfl ?_
  refine wp_bipush (M := mX11_oneMore) (pc := 51) dX11_oneMore_51 k_bipush_8 ?_
  refine wp_icmp_ge (M := mX11_oneMore) (pc := 53) (t := 123) dX11_oneMore_53 (by decide) (fun c1 => ?_) (fun c1 => ?_)
  · refine wp_iinc (M := mX11_oneMore) (pc := 123) (v := x4 + 1) (ls' := [.ref 82, .int x1, .int x2, .int x3, .int (x4 + 1), .int x5]) dX11_oneMore_123 rfl (congrArg (fun z => _ + z) k_iconst_1) (by decide) rfl ?_
    refine wp_goto (M := mX11_oneMore) (pc := 126) (t := 40) dX11_oneMore_126 (by decide) ?_
    exact p1 c1
  · refine wp_aload_n (M := mX11_oneMore) (pc := 56) dX11_oneMore_56 rfl rfl ?_
    refine xs_getr (M := mX11_oneMore) (pc := 57) (r := 105) dX11_oneMore_57 fX11_77 sh82 rfl (gr82_38 sw) ?_
    refine wp_iload (M := mX11_oneMore) (pc := 60) dX11_oneMore_60 rfl ?_
    refine xs_iald (M := mX11_oneMore) (pc := 62) (j := x5.toNatClampNeg) dX11_oneMore_62 sh105 (p2 c1) rfl ?_
    refine wp_iconst (M := mX11_oneMore) (pc := 63) dX11_oneMore_63 k_iconst_m1 ?_
    refine wp_icmp_ne (M := mX11_oneMore) (pc := 64) (t := 117) dX11_oneMore_64 (by decide) (fun c2 => ?_) (fun c2 => ?_)
    · refine wp_iinc (M := mX11_oneMore) (pc := 117) (v := x5 + 1) (ls' := [.ref 82, .int x1, .int x2, .int x3, .int x4, .int (x5 + 1)]) dX11_oneMore_117 rfl (congrArg (fun z => _ + z) k_iconst_1) (by decide) rfl ?_
      refine wp_goto (M := mX11_oneMore) (pc := 120) (t := 49) dX11_oneMore_120 (by decide) ?_
      exact p3 c1 c2
    · refine wp_aload_n (M := mX11_oneMore) (pc := 67) dX11_oneMore_67 rfl rfl ?_
      refine xs_getr (M := mX11_oneMore) (pc := 68) (r := 104) dX11_oneMore_68 fX11_74 sh82 rfl (gr82_37 sw) ?_
      refine wp_bipush (M := mX11_oneMore) (pc := 71) dX11_oneMore_71 k_bipush_8 ?_
      refine wp_aload_n (M := mX11_oneMore) (pc := 73) dX11_oneMore_73 rfl rfl ?_
      refine xs_getr (M := mX11_oneMore) (pc := 74) (r := 88) dX11_oneMore_74 fX11_25 sh82 rfl (gr82_7 sw) ?_
      refine wp_iload (M := mX11_oneMore) (pc := 77) dX11_oneMore_77 rfl ?_
      refine xs_iald (M := mX11_oneMore) (pc := 79) (j := x4.toNatClampNeg) dX11_oneMore_79 sh88 (p4 c1 c2) rfl ?_
      refine wp_imul (M := mX11_oneMore) (pc := 80) dX11_oneMore_80 ?_
      refine wp_iload (M := mX11_oneMore) (pc := 81) dX11_oneMore_81 rfl ?_
      refine wp_iadd (M := mX11_oneMore) (pc := 83) dX11_oneMore_83 ?_
      refine xs_iald (M := mX11_oneMore) (pc := 84) (j := ((8 * (f 88 x4.toNatClampNeg)) + x5).toNatClampNeg) dX11_oneMore_84 sh104 (p5 c1 c2) rfl ?_
      refine wp_if_ne (M := mX11_oneMore) (pc := 85) (t := 91) dX11_oneMore_85 (by decide) (fun c3 => ?_) (fun c3 => ?_)
      · refine wp_aload_n (M := mX11_oneMore) (pc := 91) dX11_oneMore_91 rfl rfl ?_
        refine xs_getr (M := mX11_oneMore) (pc := 92) (r := 105) dX11_oneMore_92 fX11_77 sh82 rfl (gr82_38 sw) ?_
        refine wp_iload (M := mX11_oneMore) (pc := 95) dX11_oneMore_95 rfl ?_
        refine wp_aload_n (M := mX11_oneMore) (pc := 97) dX11_oneMore_97 rfl rfl ?_
        refine xs_getr (M := mX11_oneMore) (pc := 98) (r := 88) dX11_oneMore_98 fX11_25 sh82 rfl (gr82_7 sw) ?_
        refine wp_iload (M := mX11_oneMore) (pc := 101) dX11_oneMore_101 rfl ?_
        refine xs_iald (M := mX11_oneMore) (pc := 103) (j := x4.toNatClampNeg) dX11_oneMore_103 sh88 (p6 c1 c2 c3) rfl ?_
        refine xs_iast (M := mX11_oneMore) (pc := 104) (j := x5.toNatClampNeg) dX11_oneMore_104 sh105 (p7 c1 c2 c3) rfl ?_
        refine wp_aload_n (M := mX11_oneMore) (pc := 105) dX11_oneMore_105 rfl rfl ?_
        refine xs_getr (M := mX11_oneMore) (pc := 106) (r := 88) dX11_oneMore_106 fX11_25 sh82 rfl (gr82_7 sw) ?_
        refine wp_iload_n (M := mX11_oneMore) (pc := 109) dX11_oneMore_109 rfl rfl ?_
        refine wp_iload (M := mX11_oneMore) (pc := 110) dX11_oneMore_110 rfl ?_
        refine xs_iast (M := mX11_oneMore) (pc := 112) (j := x3.toNatClampNeg) dX11_oneMore_112 sh88 (p8 c1 c2 c3) rfl ?_
        refine wp_iload_n (M := mX11_oneMore) (pc := 113) dX11_oneMore_113 rfl rfl ?_
        refine wp_iconst (M := mX11_oneMore) (pc := 114) dX11_oneMore_114 k_iconst_1 ?_
        refine wp_iadd (M := mX11_oneMore) (pc := 115) dX11_oneMore_115 ?_
        refine wp_istore_n (M := mX11_oneMore) (pc := 116) (ls' := [.ref 82, .int x1, .int x2, .int (x3 + 1), .int x4, .int x5]) dX11_oneMore_116 rfl (by decide) rfl ?_
        refine wp_iinc (M := mX11_oneMore) (pc := 117) (v := x5 + 1) (ls' := [.ref 82, .int x1, .int x2, .int (x3 + 1), .int x4, .int (x5 + 1)]) dX11_oneMore_117 rfl (congrArg (fun z => _ + z) k_iconst_1) (by decide) rfl ?_
        refine wp_goto (M := mX11_oneMore) (pc := 120) (t := 49) dX11_oneMore_120 (by decide) ?_
        exact p9 c1 c2 c3
      · refine wp_goto (M := mX11_oneMore) (pc := 88) (t := 117) dX11_oneMore_88 (by decide) ?_
        refine wp_iinc (M := mX11_oneMore) (pc := 117) (v := x5 + 1) (ls' := [.ref 82, .int x1, .int x2, .int x3, .int x4, .int (x5 + 1)]) dX11_oneMore_117 rfl (congrArg (fun z => _ + z) k_iconst_1) (by decide) rfl ?_
        refine wp_goto (M := mX11_oneMore) (pc := 120) (t := 49) dX11_oneMore_120 (by decide) ?_
        exact p10 c1 c2 c3
theorem bX11_oneMore_144 {G : GC} {d : Nat} {sw : Bool} {f : FF} {Q : QQ} {x1 : Int32} {x2 : Int32} {x3 : Int32} {x4 : Int32} {v5 : Value} (p1 : (x4 = x1) → Q (some (.int 1)) sw f) (p2 : (¬ x4 = x1) → vp_in x4 8) (p3 : (¬ x4 = x1) → vp_in ((8 * (f 105 x4.toNatClampNeg)) + x4) 64) (p4 : (¬ x4 = x1) → vp_in ((8 * (f 105 x4.toNatClampNeg)) + x4) 64) (p5 : (¬ x4 = x1) → vp_in ((8 * x4) + (f 105 x4.toNatClampNeg)) 64) (p6 : (¬ x4 = x1) → vp_in ((8 * x4) + (f 105 x4.toNatClampNeg)) 64) (p7 : (¬ x4 = x1) → XP G mX11_oneMore (d) 144 [.ref 82, .int x1, .int x2, .int x3, .int (f 105 x4.toNatClampNeg), .int (f 105 x4.toNatClampNeg)] [] sw (upd2 (upd2 f 104 (((8 * (f 105 x4.toNatClampNeg)) + x4).toNatClampNeg) ((f 104 (((8 * (f 105 x4.toNatClampNeg)) + x4).toNatClampNeg)) - 1)) 104 (((8 * x4) + (f 105 x4.toNatClampNeg)).toNatClampNeg) (((upd2 f 104 (((8 * (f 105 x4.toNatClampNeg)) + x4).toNatClampNeg) ((f 104 (((8 * (f 105 x4.toNatClampNeg)) + x4).toNatClampNeg)) - 1)) 104 (((8 * x4) + (f 105 x4.toNatClampNeg)).toNatClampNeg)) + 1)) Q) : XP G mX11_oneMore (d) 144 [.ref 82, .int x1, .int x2, .int x3, .int x4, v5] [] sw f Q := by
  refine wp_iload (M := mX11_oneMore) (pc := 144) dX11_oneMore_144 rfl ?_
  refine wp_iload_n (M := mX11_oneMore) (pc := 146) dX11_oneMore_146 rfl rfl ?_
  refine wp_icmp_eq (M := mX11_oneMore) (pc := 147) (t := 222) dX11_oneMore_147 (by decide) (fun c1 => ?_) (fun c1 => ?_)
  · refine wp_iconst (M := mX11_oneMore) (pc := 222) dX11_oneMore_222 k_iconst_1 ?_
    exact xs_zret (M := mX11_oneMore) (pc := 223) dX11_oneMore_223 rfl (by decide) (p1 c1)
  · refine wp_aload_n (M := mX11_oneMore) (pc := 150) dX11_oneMore_150 rfl rfl ?_
    refine xs_getr (M := mX11_oneMore) (pc := 151) (r := 105) dX11_oneMore_151 fX11_77 sh82 rfl (gr82_38 sw) ?_
    refine wp_iload (M := mX11_oneMore) (pc := 154) dX11_oneMore_154 rfl ?_
    refine xs_iald (M := mX11_oneMore) (pc := 156) (j := x4.toNatClampNeg) dX11_oneMore_156 sh105 (p2 c1) rfl ?_
    refine wp_istore (M := mX11_oneMore) (pc := 157) (ls' := [.ref 82, .int x1, .int x2, .int x3, .int x4, .int (f 105 x4.toNatClampNeg)]) dX11_oneMore_157 (by decide) rfl ?_
    refine wp_aload_n (M := mX11_oneMore) (pc := 159) dX11_oneMore_159 rfl rfl ?_
    refine xs_getr (M := mX11_oneMore) (pc := 160) (r := 104) dX11_oneMore_160 fX11_74 sh82 rfl (gr82_37 sw) ?_
    refine wp_bipush (M := mX11_oneMore) (pc := 163) dX11_oneMore_163 k_bipush_8 ?_
    refine wp_iload (M := mX11_oneMore) (pc := 165) dX11_oneMore_165 rfl ?_
    refine wp_imul (M := mX11_oneMore) (pc := 167) dX11_oneMore_167 ?_
    refine wp_iload (M := mX11_oneMore) (pc := 168) dX11_oneMore_168 rfl ?_
    refine wp_iadd (M := mX11_oneMore) (pc := 170) dX11_oneMore_170 ?_
    refine wp_aload_n (M := mX11_oneMore) (pc := 171) dX11_oneMore_171 rfl rfl ?_
    refine xs_getr (M := mX11_oneMore) (pc := 172) (r := 104) dX11_oneMore_172 fX11_74 sh82 rfl (gr82_37 sw) ?_
    refine wp_bipush (M := mX11_oneMore) (pc := 175) dX11_oneMore_175 k_bipush_8 ?_
    refine wp_iload (M := mX11_oneMore) (pc := 177) dX11_oneMore_177 rfl ?_
    refine wp_imul (M := mX11_oneMore) (pc := 179) dX11_oneMore_179 ?_
    refine wp_iload (M := mX11_oneMore) (pc := 180) dX11_oneMore_180 rfl ?_
    refine wp_iadd (M := mX11_oneMore) (pc := 182) dX11_oneMore_182 ?_
    refine xs_iald (M := mX11_oneMore) (pc := 183) (j := ((8 * (f 105 x4.toNatClampNeg)) + x4).toNatClampNeg) dX11_oneMore_183 sh104 (p3 c1) rfl ?_
    refine wp_iconst (M := mX11_oneMore) (pc := 184) dX11_oneMore_184 k_iconst_1 ?_
    refine wp_isub (M := mX11_oneMore) (pc := 185) dX11_oneMore_185 ?_
    refine xs_iast (M := mX11_oneMore) (pc := 186) (j := ((8 * (f 105 x4.toNatClampNeg)) + x4).toNatClampNeg) dX11_oneMore_186 sh104 (p4 c1) rfl ?_
    refine wp_aload_n (M := mX11_oneMore) (pc := 187) dX11_oneMore_187 rfl rfl ?_
    refine xs_getr (M := mX11_oneMore) (pc := 188) (r := 104) dX11_oneMore_188 fX11_74 sh82 rfl (gr82_37 sw) ?_
    refine wp_bipush (M := mX11_oneMore) (pc := 191) dX11_oneMore_191 k_bipush_8 ?_
    refine wp_iload (M := mX11_oneMore) (pc := 193) dX11_oneMore_193 rfl ?_
    refine wp_imul (M := mX11_oneMore) (pc := 195) dX11_oneMore_195 ?_
    refine wp_iload (M := mX11_oneMore) (pc := 196) dX11_oneMore_196 rfl ?_
    refine wp_iadd (M := mX11_oneMore) (pc := 198) dX11_oneMore_198 ?_
    refine wp_aload_n (M := mX11_oneMore) (pc := 199) dX11_oneMore_199 rfl rfl ?_
    refine xs_getr (M := mX11_oneMore) (pc := 200) (r := 104) dX11_oneMore_200 fX11_74 sh82 rfl (gr82_37 sw) ?_
    refine wp_bipush (M := mX11_oneMore) (pc := 203) dX11_oneMore_203 k_bipush_8 ?_
    refine wp_iload (M := mX11_oneMore) (pc := 205) dX11_oneMore_205 rfl ?_
    refine wp_imul (M := mX11_oneMore) (pc := 207) dX11_oneMore_207 ?_
    refine wp_iload (M := mX11_oneMore) (pc := 208) dX11_oneMore_208 rfl ?_
    refine wp_iadd (M := mX11_oneMore) (pc := 210) dX11_oneMore_210 ?_
    refine xs_iald (M := mX11_oneMore) (pc := 211) (j := ((8 * x4) + (f 105 x4.toNatClampNeg)).toNatClampNeg) dX11_oneMore_211 sh104 (p5 c1) rfl ?_
    refine wp_iconst (M := mX11_oneMore) (pc := 212) dX11_oneMore_212 k_iconst_1 ?_
    refine wp_iadd (M := mX11_oneMore) (pc := 213) dX11_oneMore_213 ?_
    refine xs_iast (M := mX11_oneMore) (pc := 214) (j := ((8 * x4) + (f 105 x4.toNatClampNeg)).toNatClampNeg) dX11_oneMore_214 sh104 (p6 c1) rfl ?_
    refine wp_iload (M := mX11_oneMore) (pc := 215) dX11_oneMore_215 rfl ?_
    refine wp_istore (M := mX11_oneMore) (pc := 217) (ls' := [.ref 82, .int x1, .int x2, .int x3, .int (f 105 x4.toNatClampNeg), .int (f 105 x4.toNatClampNeg)]) dX11_oneMore_217 (by decide) rfl ?_
    refine wp_goto (M := mX11_oneMore) (pc := 219) (t := 144) dX11_oneMore_219 (by decide) ?_
    exact p7 c1
theorem bX11_stops_0 {G : GC} {d : Nat} {sw : Bool} {f : FF} {Q : QQ} {x1 : Int32} {x2 : Int32} (p1 : (¬ (twoE x1 x2)) → Q (some (.int (-1))) sw f) (p2 : (twoE x1 x2) → XP G mX11_flowBetween (d + 1) 0 [.ref 82, .int x1, .int x2, .int 1, .null] [] sw f (fun v sw' f' => XP G mX11_stops (d + 2) 15 [.ref 82, .int x1, .int x2] (retst v []) sw' f' Q)) : XP G mX11_stops (d + 2) 0 [.ref 82, .int x1, .int x2] [] sw f Q := by
  refine wp_iload_n (M := mX11_stops) (pc := 0) dX11_stops_0 rfl rfl ?_
  refine wp_iload_n (M := mX11_stops) (pc := 1) dX11_stops_1 rfl rfl ?_
  refine xs_callS (d := d + 1) (M := mX11_stops) (pc := 2) (As := [.int x1, .int x2]) (st := []) (ls' := [.int x1, .int x2]) dX11_stops_2 oX11_areTwo nX11_areTwo lX11_123 tX11_areTwo (Nat.le_of_ble_eq_true rfl) rfl (Nat.le_of_ble_eq_true rfl) rfl ?_
  refine sp_X11_areTwo   ?_
  refine xs_ifb_eq (M := mX11_stops) (pc := 5) (t := 18) dX11_stops_5 (by decide) (fun c1 => ?_) (fun c1 => ?_)
  · refine wp_iconst (M := mX11_stops) (pc := 18) dX11_stops_18 k_iconst_m1 ?_
    exact xs_iret (M := mX11_stops) (pc := 19) dX11_stops_19 rfl (p1 c1)
  · refine wp_aload_n (M := mX11_stops) (pc := 8) dX11_stops_8 rfl rfl ?_
    refine wp_iload_n (M := mX11_stops) (pc := 9) dX11_stops_9 rfl rfl ?_
    refine wp_iload_n (M := mX11_stops) (pc := 10) dX11_stops_10 rfl rfl ?_
    refine wp_iconst (M := mX11_stops) (pc := 11) dX11_stops_11 k_iconst_1 ?_
    refine xs_callV (d := d + 1) (M := mX11_stops) (pc := 12) (As := [.int x1, .int x2, .int 1]) (st := []) (c := 11) (ls' := [.ref 82, .int x1, .int x2, .int 1, .null]) dX11_stops_12 oX11_flowBetween nX11_flowBetween lX11_332 vX11_flowBetween sX11_flowBetween rfl sh82 (Nat.le_of_ble_eq_true rfl) rfl (Nat.le_of_ble_eq_true rfl) rfl ?_
    exact p2 c1
theorem bX11_stops_15 {G : GC} {d : Nat} {sw : Bool} {f : FF} {Q : QQ} {x1 : Int32} {x2 : Int32} {s0 : Int32} (p1 : Q (some (.int s0)) sw f) : XP G mX11_stops (d + 2) 15 [.ref 82, .int x1, .int x2] [.int s0] sw f Q := by
  refine wp_goto (M := mX11_stops) (pc := 15) (t := 19) dX11_stops_15 (by decide) ?_
  exact xs_iret (M := mX11_stops) (pc := 19) dX11_stops_19 rfl (p1)
theorem bX11_inTheMiddle_0 {G : GC} {d : Nat} {sw : Bool} {f : FF} {Q : QQ}  (p1 : XP G mX11_inTheMiddle (d + 3) 9 [.ref 82, .int (-1), .int 0, .int 0, .int 0, .null, .null, .null] [] sw f Q) : XP G mX11_inTheMiddle (d + 3) 0 [.ref 82, .null, .null, .null, .null, .null, .null, .null] [] sw f Q := by
  refine wp_iconst (M := mX11_inTheMiddle) (pc := 0) dX11_inTheMiddle_0 k_iconst_m1 ?_
  refine wp_istore_n (M := mX11_inTheMiddle) (pc := 1) (ls' := [.ref 82, .int (-1), .null, .null, .null, .null, .null, .null]) dX11_inTheMiddle_1 rfl (by decide) rfl ?_
  refine wp_iconst (M := mX11_inTheMiddle) (pc := 2) dX11_inTheMiddle_2 k_iconst_0 ?_
  refine wp_istore_n (M := mX11_inTheMiddle) (pc := 3) (ls' := [.ref 82, .int (-1), .int 0, .null, .null, .null, .null, .null]) dX11_inTheMiddle_3 rfl (by decide) rfl ?_
  refine wp_iconst (M := mX11_inTheMiddle) (pc := 4) dX11_inTheMiddle_4 k_iconst_0 ?_
  refine wp_istore_n (M := mX11_inTheMiddle) (pc := 5) (ls' := [.ref 82, .int (-1), .int 0, .int 0, .null, .null, .null, .null]) dX11_inTheMiddle_5 rfl (by decide) rfl ?_
  refine wp_iconst (M := mX11_inTheMiddle) (pc := 6) dX11_inTheMiddle_6 k_iconst_0 ?_
  refine wp_istore (M := mX11_inTheMiddle) (pc := 7) (ls' := [.ref 82, .int (-1), .int 0, .int 0, .int 0, .null, .null, .null]) dX11_inTheMiddle_7 (by decide) rfl ?_
  exact p1
theorem bX11_inTheMiddle_9 {G : GC} {d : Nat} {sw : Bool} {f : FF} {Q : QQ} {x1 : Int32} {x2 : Int32} {x3 : Int32} {x4 : Int32} {v5 : Value} {v6 : Value} {v7 : Value} (p1 : (8 ≤ x4) → Q (some (.int x1)) sw f) (p2 : (¬ 8 ≤ x4) → XP G mX11_laysTrunks (d + 2) 0 [.ref 82, .int x4, .int 0, .null, .null, .null] [] sw f (fun v sw' f' => XP G mX11_inTheMiddle (d + 3) 23 [.ref 82, .int x1, .int x2, .int x3, .int x4, v5, v6, v7] (retst v []) sw' f' Q)) : XP G mX11_inTheMiddle (d + 3) 9 [.ref 82, .int x1, .int x2, .int x3, .int x4, v5, v6, v7] [] sw f Q := by
  refine wp_iload (M := mX11_inTheMiddle) (pc := 9) dX11_inTheMiddle_9 rfl ?_
  refine wp_bipush (M := mX11_inTheMiddle) (pc := 11) dX11_inTheMiddle_11 k_bipush_8 ?_
  refine wp_icmp_ge (M := mX11_inTheMiddle) (pc := 13) (t := 113) dX11_inTheMiddle_13 (by decide) (fun c1 => ?_) (fun c1 => ?_)
  · refine wp_iload_n (M := mX11_inTheMiddle) (pc := 113) dX11_inTheMiddle_113 rfl rfl ?_
    exact xs_iret (M := mX11_inTheMiddle) (pc := 114) dX11_inTheMiddle_114 rfl (p1 c1)
  · refine wp_aload_n (M := mX11_inTheMiddle) (pc := 16) dX11_inTheMiddle_16 rfl rfl ?_
    refine wp_iload (M := mX11_inTheMiddle) (pc := 17) dX11_inTheMiddle_17 rfl ?_
    refine wp_iconst (M := mX11_inTheMiddle) (pc := 19) dX11_inTheMiddle_19 k_iconst_0 ?_
    refine xs_callV (d := d + 2) (M := mX11_inTheMiddle) (pc := 20) (As := [.int x4, .int 0]) (st := []) (c := 11) (ls' := [.ref 82, .int x4, .int 0, .null, .null, .null]) dX11_inTheMiddle_20 oX11_laysTrunks nX11_laysTrunks lX11_142 vX11_laysTrunks sX11_laysTrunks rfl sh82 (Nat.le_of_ble_eq_true rfl) rfl (Nat.le_of_ble_eq_true rfl) rfl ?_
    exact p2 c1
theorem bX11_inTheMiddle_23 {G : GC} {d : Nat} {sw : Bool} {f : FF} {Q : QQ} {x1 : Int32} {x2 : Int32} {x3 : Int32} {x4 : Int32} {v5 : Value} {v6 : Value} {v7 : Value} (p1 : XP G mX11_inTheMiddle (d + 3) 32 [.ref 82, .int x1, .int x2, .int x3, .int x4, .int 0, .int 0, .int 0] [] sw f Q) : XP G mX11_inTheMiddle (d + 3) 23 [.ref 82, .int x1, .int x2, .int x3, .int x4, v5, v6, v7] [] sw f Q := by
  refine wp_iconst (M := mX11_inTheMiddle) (pc := 23) dX11_inTheMiddle_23 k_iconst_0 ?_
  refine wp_istore (M := mX11_inTheMiddle) (pc := 24) (ls' := [.ref 82, .int x1, .int x2, .int x3, .int x4, .int 0, v6, v7]) dX11_inTheMiddle_24 (by decide) rfl ?_
  refine wp_iconst (M := mX11_inTheMiddle) (pc := 26) dX11_inTheMiddle_26 k_iconst_0 ?_
  refine wp_istore (M := mX11_inTheMiddle) (pc := 27) (ls' := [.ref 82, .int x1, .int x2, .int x3, .int x4, .int 0, .int 0, v7]) dX11_inTheMiddle_27 (by decide) rfl ?_
  refine wp_iconst (M := mX11_inTheMiddle) (pc := 29) dX11_inTheMiddle_29 k_iconst_0 ?_
  refine wp_istore (M := mX11_inTheMiddle) (pc := 30) (ls' := [.ref 82, .int x1, .int x2, .int x3, .int x4, .int 0, .int 0, .int 0]) dX11_inTheMiddle_30 (by decide) rfl ?_
  exact p1
theorem bX11_inTheMiddle_32 {G : GC} {d : Nat} {sw : Bool} {f : FF} {Q : QQ} {x1 : Int32} {x2 : Int32} {x3 : Int32} {x4 : Int32} {x5 : Int32} {x6 : Int32} {x7 : Int32} (p1 : (8 ≤ x7) → (x5 < x2) → XP G mX11_inTheMiddle (d + 3) 9 [.ref 82, .int x1, .int x2, .int x3, .int (x4 + 1), .int x5, .int x6, .int x7] [] sw f Q) (p2 : (8 ≤ x7) → (¬ x5 < x2) → (¬ x5 = x2) → XP G mX11_inTheMiddle (d + 3) 9 [.ref 82, .int x4, .int x5, .int x6, .int (x4 + 1), .int x5, .int x6, .int x7] [] sw f Q) (p3 : (8 ≤ x7) → (¬ x5 < x2) → (x5 = x2) → (x6 < x3) → XP G mX11_inTheMiddle (d + 3) 9 [.ref 82, .int x4, .int x5, .int x6, .int (x4 + 1), .int x5, .int x6, .int x7] [] sw f Q) (p4 : (8 ≤ x7) → (¬ x5 < x2) → (x5 = x2) → (¬ x6 < x3) → XP G mX11_inTheMiddle (d + 3) 9 [.ref 82, .int x1, .int x2, .int x3, .int (x4 + 1), .int x5, .int x6, .int x7] [] sw f Q) (p5 : (¬ 8 ≤ x7) → vp_in x7 8) (p6 : (¬ 8 ≤ x7) → (¬ (f 87 x7.toNatClampNeg) = (-1)) → vp_in x7 8) (p7 : (¬ 8 ≤ x7) → (¬ (f 87 x7.toNatClampNeg) = (-1)) → XP G mX11_inTheMiddle (d + 3) 32 [.ref 82, .int x1, .int x2, .int x3, .int x4, .int (x5 + 1), .int (x6 + (f 87 x7.toNatClampNeg)), .int (x7 + 1)] [] sw f Q) (p8 : (¬ 8 ≤ x7) → ((f 87 x7.toNatClampNeg) = (-1)) → XP G mX11_inTheMiddle (d + 3) 32 [.ref 82, .int x1, .int x2, .int x3, .int x4, .int x5, .int x6, .int (x7 + 1)] [] sw f Q) : XP G mX11_inTheMiddle (d + 3) 32 [.ref 82, .int x1, .int x2, .int x3, .int x4, .int x5, .int x6, .int x7] [] sw f Q := by
  refine wp_iload (M := mX11_inTheMiddle) (pc := 32) dX11_inTheMiddle_32 rfl ?_
  refine wp_bipush (M := mX11_inTheMiddle) (pc := 34) dX11_inTheMiddle_34 k_bipush_8 ?_
  refine wp_icmp_ge (M := mX11_inTheMiddle) (pc := 36) (t := 77) dX11_inTheMiddle_36 (by decide) (fun c1 => ?_) (fun c1 => ?_)
  · refine wp_iload (M := mX11_inTheMiddle) (pc := 77) dX11_inTheMiddle_77 rfl ?_
    refine wp_iload_n (M := mX11_inTheMiddle) (pc := 79) dX11_inTheMiddle_79 rfl rfl ?_
    refine wp_icmp_lt (M := mX11_inTheMiddle) (pc := 80) (t := 107) dX11_inTheMiddle_80 (by decide) (fun c2 => ?_) (fun c2 => ?_)
    · refine wp_iinc (M := mX11_inTheMiddle) (pc := 107) (v := x4 + 1) (ls' := [.ref 82, .int x1, .int x2, .int x3, .int (x4 + 1), .int x5, .int x6, .int x7]) dX11_inTheMiddle_107 rfl (congrArg (fun z => _ + z) k_iconst_1) (by decide) rfl ?_
      refine wp_goto (M := mX11_inTheMiddle) (pc := 110) (t := 9) dX11_inTheMiddle_110 (by decide) ?_
      exact p1 c1 c2
    · refine wp_iload (M := mX11_inTheMiddle) (pc := 83) dX11_inTheMiddle_83 rfl ?_
      refine wp_iload_n (M := mX11_inTheMiddle) (pc := 85) dX11_inTheMiddle_85 rfl rfl ?_
      refine wp_icmp_ne (M := mX11_inTheMiddle) (pc := 86) (t := 98) dX11_inTheMiddle_86 (by decide) (fun c3 => ?_) (fun c3 => ?_)
      · refine wp_iload (M := mX11_inTheMiddle) (pc := 98) dX11_inTheMiddle_98 rfl ?_
        refine wp_istore_n (M := mX11_inTheMiddle) (pc := 100) (ls' := [.ref 82, .int x4, .int x2, .int x3, .int x4, .int x5, .int x6, .int x7]) dX11_inTheMiddle_100 rfl (by decide) rfl ?_
        refine wp_iload (M := mX11_inTheMiddle) (pc := 101) dX11_inTheMiddle_101 rfl ?_
        refine wp_istore_n (M := mX11_inTheMiddle) (pc := 103) (ls' := [.ref 82, .int x4, .int x5, .int x3, .int x4, .int x5, .int x6, .int x7]) dX11_inTheMiddle_103 rfl (by decide) rfl ?_
        refine wp_iload (M := mX11_inTheMiddle) (pc := 104) dX11_inTheMiddle_104 rfl ?_
        refine wp_istore_n (M := mX11_inTheMiddle) (pc := 106) (ls' := [.ref 82, .int x4, .int x5, .int x6, .int x4, .int x5, .int x6, .int x7]) dX11_inTheMiddle_106 rfl (by decide) rfl ?_
        refine wp_iinc (M := mX11_inTheMiddle) (pc := 107) (v := x4 + 1) (ls' := [.ref 82, .int x4, .int x5, .int x6, .int (x4 + 1), .int x5, .int x6, .int x7]) dX11_inTheMiddle_107 rfl (congrArg (fun z => _ + z) k_iconst_1) (by decide) rfl ?_
        refine wp_goto (M := mX11_inTheMiddle) (pc := 110) (t := 9) dX11_inTheMiddle_110 (by decide) ?_
        exact p2 c1 c2 c3
      · refine wp_iload (M := mX11_inTheMiddle) (pc := 89) dX11_inTheMiddle_89 rfl ?_
        refine wp_iload_n (M := mX11_inTheMiddle) (pc := 91) dX11_inTheMiddle_91 rfl rfl ?_
        refine wp_icmp_lt (M := mX11_inTheMiddle) (pc := 92) (t := 98) dX11_inTheMiddle_92 (by decide) (fun c4 => ?_) (fun c4 => ?_)
        · refine wp_iload (M := mX11_inTheMiddle) (pc := 98) dX11_inTheMiddle_98 rfl ?_
          refine wp_istore_n (M := mX11_inTheMiddle) (pc := 100) (ls' := [.ref 82, .int x4, .int x2, .int x3, .int x4, .int x5, .int x6, .int x7]) dX11_inTheMiddle_100 rfl (by decide) rfl ?_
          refine wp_iload (M := mX11_inTheMiddle) (pc := 101) dX11_inTheMiddle_101 rfl ?_
          refine wp_istore_n (M := mX11_inTheMiddle) (pc := 103) (ls' := [.ref 82, .int x4, .int x5, .int x3, .int x4, .int x5, .int x6, .int x7]) dX11_inTheMiddle_103 rfl (by decide) rfl ?_
          refine wp_iload (M := mX11_inTheMiddle) (pc := 104) dX11_inTheMiddle_104 rfl ?_
          refine wp_istore_n (M := mX11_inTheMiddle) (pc := 106) (ls' := [.ref 82, .int x4, .int x5, .int x6, .int x4, .int x5, .int x6, .int x7]) dX11_inTheMiddle_106 rfl (by decide) rfl ?_
          refine wp_iinc (M := mX11_inTheMiddle) (pc := 107) (v := x4 + 1) (ls' := [.ref 82, .int x4, .int x5, .int x6, .int (x4 + 1), .int x5, .int x6, .int x7]) dX11_inTheMiddle_107 rfl (congrArg (fun z => _ + z) k_iconst_1) (by decide) rfl ?_
          refine wp_goto (M := mX11_inTheMiddle) (pc := 110) (t := 9) dX11_inTheMiddle_110 (by decide) ?_
          exact p3 c1 c2 c3 c4
        · refine wp_goto (M := mX11_inTheMiddle) (pc := 95) (t := 107) dX11_inTheMiddle_95 (by decide) ?_
          refine wp_iinc (M := mX11_inTheMiddle) (pc := 107) (v := x4 + 1) (ls' := [.ref 82, .int x1, .int x2, .int x3, .int (x4 + 1), .int x5, .int x6, .int x7]) dX11_inTheMiddle_107 rfl (congrArg (fun z => _ + z) k_iconst_1) (by decide) rfl ?_
          refine wp_goto (M := mX11_inTheMiddle) (pc := 110) (t := 9) dX11_inTheMiddle_110 (by decide) ?_
          exact p4 c1 c2 c3 c4
  · refine wp_aload_n (M := mX11_inTheMiddle) (pc := 39) dX11_inTheMiddle_39 rfl rfl ?_
    refine xs_getr (M := mX11_inTheMiddle) (pc := 40) (r := 87) dX11_inTheMiddle_40 fX11_22 sh82 rfl (gr82_6 sw) ?_
    refine wp_iload (M := mX11_inTheMiddle) (pc := 43) dX11_inTheMiddle_43 rfl ?_
    refine xs_iald (M := mX11_inTheMiddle) (pc := 45) (j := x7.toNatClampNeg) dX11_inTheMiddle_45 sh87 (p5 c1) rfl ?_
    refine wp_iconst (M := mX11_inTheMiddle) (pc := 46) dX11_inTheMiddle_46 k_iconst_m1 ?_
    refine wp_icmp_ne (M := mX11_inTheMiddle) (pc := 47) (t := 53) dX11_inTheMiddle_47 (by decide) (fun c5 => ?_) (fun c5 => ?_)
    · refine wp_iload (M := mX11_inTheMiddle) (pc := 53) dX11_inTheMiddle_53 rfl ?_
      refine wp_iconst (M := mX11_inTheMiddle) (pc := 55) dX11_inTheMiddle_55 k_iconst_1 ?_
      refine wp_iadd (M := mX11_inTheMiddle) (pc := 56) dX11_inTheMiddle_56 ?_
      refine wp_istore (M := mX11_inTheMiddle) (pc := 57) (ls' := [.ref 82, .int x1, .int x2, .int x3, .int x4, .int (x5 + 1), .int x6, .int x7]) dX11_inTheMiddle_57 (by decide) rfl ?_
      refine wp_iload (M := mX11_inTheMiddle) (pc := 59) dX11_inTheMiddle_59 rfl ?_
      refine wp_aload_n (M := mX11_inTheMiddle) (pc := 61) dX11_inTheMiddle_61 rfl rfl ?_
      refine xs_getr (M := mX11_inTheMiddle) (pc := 62) (r := 87) dX11_inTheMiddle_62 fX11_22 sh82 rfl (gr82_6 sw) ?_
      refine wp_iload (M := mX11_inTheMiddle) (pc := 65) dX11_inTheMiddle_65 rfl ?_
      refine xs_iald (M := mX11_inTheMiddle) (pc := 67) (j := x7.toNatClampNeg) dX11_inTheMiddle_67 sh87 (p6 c1 c5) rfl ?_
      refine wp_iadd (M := mX11_inTheMiddle) (pc := 68) dX11_inTheMiddle_68 ?_
      refine wp_istore (M := mX11_inTheMiddle) (pc := 69) (ls' := [.ref 82, .int x1, .int x2, .int x3, .int x4, .int (x5 + 1), .int (x6 + (f 87 x7.toNatClampNeg)), .int x7]) dX11_inTheMiddle_69 (by decide) rfl ?_
      refine wp_iinc (M := mX11_inTheMiddle) (pc := 71) (v := x7 + 1) (ls' := [.ref 82, .int x1, .int x2, .int x3, .int x4, .int (x5 + 1), .int (x6 + (f 87 x7.toNatClampNeg)), .int (x7 + 1)]) dX11_inTheMiddle_71 rfl (congrArg (fun z => _ + z) k_iconst_1) (by decide) rfl ?_
      refine wp_goto (M := mX11_inTheMiddle) (pc := 74) (t := 32) dX11_inTheMiddle_74 (by decide) ?_
      exact p7 c1 c5
    · refine wp_goto (M := mX11_inTheMiddle) (pc := 50) (t := 71) dX11_inTheMiddle_50 (by decide) ?_
      refine wp_iinc (M := mX11_inTheMiddle) (pc := 71) (v := x7 + 1) (ls' := [.ref 82, .int x1, .int x2, .int x3, .int x4, .int x5, .int x6, .int (x7 + 1)]) dX11_inTheMiddle_71 rfl (congrArg (fun z => _ + z) k_iconst_1) (by decide) rfl ?_
      refine wp_goto (M := mX11_inTheMiddle) (pc := 74) (t := 32) dX11_inTheMiddle_74 (by decide) ?_
      exact p8 c1 c5
theorem bX11_cut_0 {G : GC} {d : Nat} {sw : Bool} {f : FF} {Q : QQ} {x1 : Int32} {x2 : Int32} {x3 : Int32} (p1 : (¬ (1 ≤ x1 ∧ x1 ≤ 12)) → Q (some (.int (-1))) sw f) (p2 : (1 ≤ x1 ∧ x1 ≤ 12) → (¬ (0 ≤ x2 ∧ x2 ≤ 3060)) → Q (some (.int (-1))) sw f) (p3 : (1 ≤ x1 ∧ x1 ≤ 12) → (0 ≤ x2 ∧ x2 ≤ 3060) → (¬ (0 ≤ x3 ∧ x3 ≤ 1)) → Q (some (.int (-1))) sw f) (p4 : (1 ≤ x1 ∧ x1 ≤ 12) → (0 ≤ x2 ∧ x2 ≤ 3060) → (0 ≤ x3 ∧ x3 ≤ 1) → ((2 * x1) ≤ (f 82 10)) → XP G mX11_cut (d + 2) 56 [.ref 82, .int x1, .int x2, .int x3, .int 0, .int 0, .int 1, .null] [] sw (upd2 f 82 10 0) Q) (p5 : (1 ≤ x1 ∧ x1 ≤ 12) → (0 ≤ x2 ∧ x2 ≤ 3060) → (0 ≤ x3 ∧ x3 ≤ 1) → (¬ (2 * x1) ≤ (f 82 10)) → Q (some (.int (-1))) sw f) : XP G mX11_cut (d + 2) 0 [.ref 82, .int x1, .int x2, .int x3, .null, .null, .null, .null] [] sw f Q := by
  refine wp_iload_n (M := mX11_cut) (pc := 0) dX11_cut_0 rfl rfl ?_
  refine wp_iconst (M := mX11_cut) (pc := 1) dX11_cut_1 k_iconst_1 ?_
  refine wp_bipush (M := mX11_cut) (pc := 2) dX11_cut_2 k_bipush_12 ?_
  refine xs_callS (d := d + 1) (M := mX11_cut) (pc := 4) (As := [.int x1, .int 1, .int 12]) (st := []) (ls' := [.int x1, .int 1, .int 12]) dX11_cut_4 oX11_in nX11_in lX11_111 tX11_in (Nat.le_of_ble_eq_true rfl) rfl (Nat.le_of_ble_eq_true rfl) rfl ?_
  refine sp_X11_in   ?_
  refine xs_ifb_eq (M := mX11_cut) (pc := 7) (t := 40) dX11_cut_7 (by decide) (fun c1 => ?_) (fun c1 => ?_)
  · refine wp_iconst (M := mX11_cut) (pc := 40) dX11_cut_40 k_iconst_m1 ?_
    exact xs_iret (M := mX11_cut) (pc := 41) dX11_cut_41 rfl (p1 c1)
  · refine wp_iload_n (M := mX11_cut) (pc := 10) dX11_cut_10 rfl rfl ?_
    refine wp_iconst (M := mX11_cut) (pc := 11) dX11_cut_11 k_iconst_0 ?_
    refine wp_sipush (M := mX11_cut) (pc := 12) dX11_cut_12 k_sipush_3060 ?_
    refine xs_callS (d := d + 1) (M := mX11_cut) (pc := 15) (As := [.int x2, .int 0, .int 3060]) (st := []) (ls' := [.int x2, .int 0, .int 3060]) dX11_cut_15 oX11_in nX11_in lX11_111 tX11_in (Nat.le_of_ble_eq_true rfl) rfl (Nat.le_of_ble_eq_true rfl) rfl ?_
    refine sp_X11_in   ?_
    refine xs_ifb_eq (M := mX11_cut) (pc := 18) (t := 40) dX11_cut_18 (by decide) (fun c2 => ?_) (fun c2 => ?_)
    · refine wp_iconst (M := mX11_cut) (pc := 40) dX11_cut_40 k_iconst_m1 ?_
      exact xs_iret (M := mX11_cut) (pc := 41) dX11_cut_41 rfl (p2 c1 c2)
    · refine wp_iload_n (M := mX11_cut) (pc := 21) dX11_cut_21 rfl rfl ?_
      refine wp_iconst (M := mX11_cut) (pc := 22) dX11_cut_22 k_iconst_0 ?_
      refine wp_iconst (M := mX11_cut) (pc := 23) dX11_cut_23 k_iconst_1 ?_
      refine xs_callS (d := d + 1) (M := mX11_cut) (pc := 24) (As := [.int x3, .int 0, .int 1]) (st := []) (ls' := [.int x3, .int 0, .int 1]) dX11_cut_24 oX11_in nX11_in lX11_111 tX11_in (Nat.le_of_ble_eq_true rfl) rfl (Nat.le_of_ble_eq_true rfl) rfl ?_
      refine sp_X11_in   ?_
      refine xs_ifb_eq (M := mX11_cut) (pc := 27) (t := 40) dX11_cut_27 (by decide) (fun c3 => ?_) (fun c3 => ?_)
      · refine wp_iconst (M := mX11_cut) (pc := 40) dX11_cut_40 k_iconst_m1 ?_
        exact xs_iret (M := mX11_cut) (pc := 41) dX11_cut_41 rfl (p3 c1 c2 c3)
      · refine wp_iconst (M := mX11_cut) (pc := 30) dX11_cut_30 k_iconst_2 ?_
        refine wp_iload_n (M := mX11_cut) (pc := 31) dX11_cut_31 rfl rfl ?_
        refine wp_imul (M := mX11_cut) (pc := 32) dX11_cut_32 ?_
        refine wp_aload_n (M := mX11_cut) (pc := 33) dX11_cut_33 rfl rfl ?_
        refine xs_geti (M := mX11_cut) (pc := 34) dX11_cut_34 fX11_146 sh82 rfl ?_
        refine wp_icmp_le (M := mX11_cut) (pc := 37) (t := 42) dX11_cut_37 (by decide) (fun c4 => ?_) (fun c4 => ?_)
        · refine wp_aload_n (M := mX11_cut) (pc := 42) dX11_cut_42 rfl rfl ?_
          refine wp_iconst (M := mX11_cut) (pc := 43) dX11_cut_43 k_iconst_0 ?_
          refine xs_puti (M := mX11_cut) (pc := 44) dX11_cut_44 pX11_146 sh82 rfl ?_
          refine wp_iconst (M := mX11_cut) (pc := 47) dX11_cut_47 k_iconst_0 ?_
          refine wp_istore (M := mX11_cut) (pc := 48) (ls' := [.ref 82, .int x1, .int x2, .int x3, .int 0, .null, .null, .null]) dX11_cut_48 (by decide) rfl ?_
          refine wp_iconst (M := mX11_cut) (pc := 50) dX11_cut_50 k_iconst_0 ?_
          refine wp_istore (M := mX11_cut) (pc := 51) (ls' := [.ref 82, .int x1, .int x2, .int x3, .int 0, .int 0, .null, .null]) dX11_cut_51 (by decide) rfl ?_
          refine wp_iconst (M := mX11_cut) (pc := 53) dX11_cut_53 k_iconst_1 ?_
          refine wp_istore (M := mX11_cut) (pc := 54) (ls' := [.ref 82, .int x1, .int x2, .int x3, .int 0, .int 0, .int 1, .null]) dX11_cut_54 (by decide) rfl ?_
          exact p4 c1 c2 c3 c4
        · refine wp_iconst (M := mX11_cut) (pc := 40) dX11_cut_40 k_iconst_m1 ?_
          exact xs_iret (M := mX11_cut) (pc := 41) dX11_cut_41 rfl (p5 c1 c2 c3 c4)
theorem bX11_cut_56 {G : GC} {d : Nat} {sw : Bool} {f : FF} {Q : QQ} {x1 : Int32} {x2 : Int32} {x3 : Int32} {x4 : Int32} {x5 : Int32} {x6 : Int32} {v7 : Value} (p1 : (((1 : Int32) <<< (x1 &&& 31)) ≤ x6) → (¬ x3 = 0) → Q (some (.int x4)) sw f) (p2 : (((1 : Int32) <<< (x1 &&& 31)) ≤ x6) → (x3 = 0) → Q (some (.int x5)) sw f) (p3 : (¬ ((1 : Int32) <<< (x1 &&& 31)) ≤ x6) → XP G mX11_sumOf (d + 1) 0 [.ref 82, .int x6, .int x1, .int 0, .int 2, .null, .null] [] sw f (fun v sw' f' => XP G mX11_cut (d + 2) 73 [.ref 82, .int x1, .int x2, .int x3, .int x4, .int x5, .int x6, v7] (retst v []) sw' f' Q)) : XP G mX11_cut (d + 2) 56 [.ref 82, .int x1, .int x2, .int x3, .int x4, .int x5, .int x6, v7] [] sw f Q := by
  refine wp_iload (M := mX11_cut) (pc := 56) dX11_cut_56 rfl ?_
  refine wp_iconst (M := mX11_cut) (pc := 58) dX11_cut_58 k_iconst_1 ?_
  refine wp_iload_n (M := mX11_cut) (pc := 59) dX11_cut_59 rfl rfl ?_
  refine wp_ishl (M := mX11_cut) (pc := 60) dX11_cut_60 ?_
  refine wp_icmp_ge (M := mX11_cut) (pc := 61) (t := 112) dX11_cut_61 (by decide) (fun c1 => ?_) (fun c1 => ?_)
  · refine wp_iload_n (M := mX11_cut) (pc := 112) dX11_cut_112 rfl rfl ?_
    refine wp_if_ne (M := mX11_cut) (pc := 113) (t := 121) dX11_cut_113 (by decide) (fun c2 => ?_) (fun c2 => ?_)
    · refine wp_iload (M := mX11_cut) (pc := 121) dX11_cut_121 rfl ?_
      exact xs_iret (M := mX11_cut) (pc := 123) dX11_cut_123 rfl (p1 c1 c2)
    · refine wp_iload (M := mX11_cut) (pc := 116) dX11_cut_116 rfl ?_
      refine wp_goto (M := mX11_cut) (pc := 118) (t := 123) dX11_cut_118 (by decide) ?_
      exact xs_iret (M := mX11_cut) (pc := 123) dX11_cut_123 rfl (p2 c1 c2)
  · refine wp_aload_n (M := mX11_cut) (pc := 64) dX11_cut_64 rfl rfl ?_
    refine wp_iload (M := mX11_cut) (pc := 65) dX11_cut_65 rfl ?_
    refine wp_iload_n (M := mX11_cut) (pc := 67) dX11_cut_67 rfl rfl ?_
    refine wp_iconst (M := mX11_cut) (pc := 68) dX11_cut_68 k_iconst_0 ?_
    refine wp_iconst (M := mX11_cut) (pc := 69) dX11_cut_69 k_iconst_2 ?_
    refine xs_callV (d := d + 1) (M := mX11_cut) (pc := 70) (As := [.int x6, .int x1, .int 0, .int 2]) (st := []) (c := 11) (ls' := [.ref 82, .int x6, .int x1, .int 0, .int 2, .null, .null]) dX11_cut_70 oX11_sumOf nX11_sumOf lX11_341 vX11_sumOf sX11_sumOf rfl sh82 (Nat.le_of_ble_eq_true rfl) rfl (Nat.le_of_ble_eq_true rfl) rfl ?_
    exact p3 c1
theorem bX11_cut_73 {G : GC} {d : Nat} {sw : Bool} {f : FF} {Q : QQ} {x1 : Int32} {x2 : Int32} {x3 : Int32} {x4 : Int32} {x5 : Int32} {x6 : Int32} {v7 : Value} {s0 : Int32} (p1 : (s0 ≤ x5) → XP G mX11_cut (d + 2) 56 [.ref 82, .int x1, .int x2, .int x3, .int x4, .int x5, .int (x6 + 1), .int s0] [] sw f Q) (p2 : (¬ s0 ≤ x5) → XP G mX11_sumOf (d + 1) 0 [.ref 82, .int x6, .int x1, .int 1, .int 2, .null, .null] [] sw f (fun v sw' f' => XP G mX11_cut (d + 2) 91 [.ref 82, .int x1, .int x2, .int x3, .int x4, .int x5, .int x6, .int s0] (retst v []) sw' f' Q)) : XP G mX11_cut (d + 2) 73 [.ref 82, .int x1, .int x2, .int x3, .int x4, .int x5, .int x6, v7] [.int s0] sw f Q := by
  refine wp_istore (M := mX11_cut) (pc := 73) (ls' := [.ref 82, .int x1, .int x2, .int x3, .int x4, .int x5, .int x6, .int s0]) dX11_cut_73 (by decide) rfl ?_
  refine wp_iload (M := mX11_cut) (pc := 75) dX11_cut_75 rfl ?_
  refine wp_iload (M := mX11_cut) (pc := 77) dX11_cut_77 rfl ?_
  refine wp_icmp_le (M := mX11_cut) (pc := 79) (t := 106) dX11_cut_79 (by decide) (fun c1 => ?_) (fun c1 => ?_)
  · refine wp_iinc (M := mX11_cut) (pc := 106) (v := x6 + 1) (ls' := [.ref 82, .int x1, .int x2, .int x3, .int x4, .int x5, .int (x6 + 1), .int s0]) dX11_cut_106 rfl (congrArg (fun z => _ + z) k_iconst_1) (by decide) rfl ?_
    refine wp_goto (M := mX11_cut) (pc := 109) (t := 56) dX11_cut_109 (by decide) ?_
    exact p1 c1
  · refine wp_aload_n (M := mX11_cut) (pc := 82) dX11_cut_82 rfl rfl ?_
    refine wp_iload (M := mX11_cut) (pc := 83) dX11_cut_83 rfl ?_
    refine wp_iload_n (M := mX11_cut) (pc := 85) dX11_cut_85 rfl rfl ?_
    refine wp_iconst (M := mX11_cut) (pc := 86) dX11_cut_86 k_iconst_1 ?_
    refine wp_iconst (M := mX11_cut) (pc := 87) dX11_cut_87 k_iconst_2 ?_
    refine xs_callV (d := d + 1) (M := mX11_cut) (pc := 88) (As := [.int x6, .int x1, .int 1, .int 2]) (st := []) (c := 11) (ls' := [.ref 82, .int x6, .int x1, .int 1, .int 2, .null, .null]) dX11_cut_88 oX11_sumOf nX11_sumOf lX11_341 vX11_sumOf sX11_sumOf rfl sh82 (Nat.le_of_ble_eq_true rfl) rfl (Nat.le_of_ble_eq_true rfl) rfl ?_
    exact p2 c1
theorem bX11_cut_91 {G : GC} {d : Nat} {sw : Bool} {f : FF} {Q : QQ} {x1 : Int32} {x2 : Int32} {x3 : Int32} {x4 : Int32} {x5 : Int32} {x6 : Int32} {x7 : Int32} {s0 : Int32} (p1 : (s0 ≤ x2) → XP G mX11_cut (d + 2) 56 [.ref 82, .int x1, .int x2, .int x3, .int x6, .int x7, .int (x6 + 1), .int x7] [] sw f Q) (p2 : (¬ s0 ≤ x2) → XP G mX11_cut (d + 2) 56 [.ref 82, .int x1, .int x2, .int x3, .int x4, .int x5, .int (x6 + 1), .int x7] [] sw f Q) : XP G mX11_cut (d + 2) 91 [.ref 82, .int x1, .int x2, .int x3, .int x4, .int x5, .int x6, .int x7] [.int s0] sw f Q := by
  refine wp_iload_n (M := mX11_cut) (pc := 91) dX11_cut_91 rfl rfl ?_
  refine wp_icmp_le (M := mX11_cut) (pc := 92) (t := 98) dX11_cut_92 (by decide) (fun c1 => ?_) (fun c1 => ?_)
  · refine wp_iload (M := mX11_cut) (pc := 98) dX11_cut_98 rfl ?_
    refine wp_istore (M := mX11_cut) (pc := 100) (ls' := [.ref 82, .int x1, .int x2, .int x3, .int x4, .int x7, .int x6, .int x7]) dX11_cut_100 (by decide) rfl ?_
    refine wp_iload (M := mX11_cut) (pc := 102) dX11_cut_102 rfl ?_
    refine wp_istore (M := mX11_cut) (pc := 104) (ls' := [.ref 82, .int x1, .int x2, .int x3, .int x6, .int x7, .int x6, .int x7]) dX11_cut_104 (by decide) rfl ?_
    refine wp_iinc (M := mX11_cut) (pc := 106) (v := x6 + 1) (ls' := [.ref 82, .int x1, .int x2, .int x3, .int x6, .int x7, .int (x6 + 1), .int x7]) dX11_cut_106 rfl (congrArg (fun z => _ + z) k_iconst_1) (by decide) rfl ?_
    refine wp_goto (M := mX11_cut) (pc := 109) (t := 56) dX11_cut_109 (by decide) ?_
    exact p1 c1
  · refine wp_goto (M := mX11_cut) (pc := 95) (t := 106) dX11_cut_95 (by decide) ?_
    refine wp_iinc (M := mX11_cut) (pc := 106) (v := x6 + 1) (ls' := [.ref 82, .int x1, .int x2, .int x3, .int x4, .int x5, .int (x6 + 1), .int x7]) dX11_cut_106 rfl (congrArg (fun z => _ + z) k_iconst_1) (by decide) rfl ?_
    refine wp_goto (M := mX11_cut) (pc := 109) (t := 56) dX11_cut_109 (by decide) ?_
    exact p2 c1
theorem bX11_sumOf_0 {G : GC} {d : Nat} {sw : Bool} {f : FF} {Q : QQ} {x1 : Int32} {x2 : Int32} {x3 : Int32} {x4 : Int32} (p1 : XP G mX11_sumOf (d + 1) 6 [.ref 82, .int x1, .int x2, .int x3, .int x4, .int 0, .int 0] [] sw f Q) : XP G mX11_sumOf (d + 1) 0 [.ref 82, .int x1, .int x2, .int x3, .int x4, .null, .null] [] sw f Q := by
  refine wp_iconst (M := mX11_sumOf) (pc := 0) dX11_sumOf_0 k_iconst_0 ?_
  refine wp_istore (M := mX11_sumOf) (pc := 1) (ls' := [.ref 82, .int x1, .int x2, .int x3, .int x4, .int 0, .null]) dX11_sumOf_1 (by decide) rfl ?_
  refine wp_iconst (M := mX11_sumOf) (pc := 3) dX11_sumOf_3 k_iconst_0 ?_
  refine wp_istore (M := mX11_sumOf) (pc := 4) (ls' := [.ref 82, .int x1, .int x2, .int x3, .int x4, .int 0, .int 0]) dX11_sumOf_4 (by decide) rfl ?_
  exact p1
theorem bX11_sumOf_6 {G : GC} {d : Nat} {sw : Bool} {f : FF} {Q : QQ} {x1 : Int32} {x2 : Int32} {x3 : Int32} {x4 : Int32} {x5 : Int32} {x6 : Int32} (p1 : (x2 ≤ x6) → Q (some (.int x5)) sw f) (p2 : (¬ x2 ≤ x6) → (¬ (hasB x1 x6)) → XP G mX11_sumOf (d + 1) 6 [.ref 82, .int x1, .int x2, .int x3, .int x4, .int x5, .int (x6 + 1)] [] sw f Q) (p3 : (¬ x2 ≤ x6) → (hasB x1 x6) → vp_in (x3 + (x4 * x6)) 260) (p4 : (¬ x2 ≤ x6) → (hasB x1 x6) → XP G mX11_sumOf (d + 1) 6 [.ref 82, .int x1, .int x2, .int x3, .int x4, .int (x5 + (oct f (x3 + (x4 * x6)))), .int (x6 + 1)] [] sw f Q) : XP G mX11_sumOf (d + 1) 6 [.ref 82, .int x1, .int x2, .int x3, .int x4, .int x5, .int x6] [] sw f Q := by
  refine wp_iload (M := mX11_sumOf) (pc := 6) dX11_sumOf_6 rfl ?_
  refine wp_iload_n (M := mX11_sumOf) (pc := 8) dX11_sumOf_8 rfl rfl ?_
  refine wp_icmp_ge (M := mX11_sumOf) (pc := 9) (t := 43) dX11_sumOf_9 (by decide) (fun c1 => ?_) (fun c1 => ?_)
  · refine wp_iload (M := mX11_sumOf) (pc := 43) dX11_sumOf_43 rfl ?_
    exact xs_iret (M := mX11_sumOf) (pc := 45) dX11_sumOf_45 rfl (p1 c1)
  · refine wp_iload_n (M := mX11_sumOf) (pc := 12) dX11_sumOf_12 rfl rfl ?_
    refine wp_iload (M := mX11_sumOf) (pc := 13) dX11_sumOf_13 rfl ?_
    refine xs_callS (d := d) (M := mX11_sumOf) (pc := 15) (As := [.int x1, .int x6]) (st := []) (ls' := [.int x1, .int x6]) dX11_sumOf_15 oX11_has nX11_has lX11_335 tX11_has (Nat.le_of_ble_eq_true rfl) rfl (Nat.le_of_ble_eq_true rfl) rfl ?_
    refine sp_X11_has   ?_
    refine xs_ifb_eq (M := mX11_sumOf) (pc := 18) (t := 37) dX11_sumOf_18 (by decide) (fun c2 => ?_) (fun c2 => ?_)
    · refine wp_iinc (M := mX11_sumOf) (pc := 37) (v := x6 + 1) (ls' := [.ref 82, .int x1, .int x2, .int x3, .int x4, .int x5, .int (x6 + 1)]) dX11_sumOf_37 rfl (congrArg (fun z => _ + z) k_iconst_1) (by decide) rfl ?_
      refine wp_goto (M := mX11_sumOf) (pc := 40) (t := 6) dX11_sumOf_40 (by decide) ?_
      exact p2 c1 c2
    · refine wp_iload (M := mX11_sumOf) (pc := 21) dX11_sumOf_21 rfl ?_
      refine wp_aload_n (M := mX11_sumOf) (pc := 23) dX11_sumOf_23 rfl rfl ?_
      refine wp_iload_n (M := mX11_sumOf) (pc := 24) dX11_sumOf_24 rfl rfl ?_
      refine wp_iload (M := mX11_sumOf) (pc := 25) dX11_sumOf_25 rfl ?_
      refine wp_iload (M := mX11_sumOf) (pc := 27) dX11_sumOf_27 rfl ?_
      refine wp_imul (M := mX11_sumOf) (pc := 29) dX11_sumOf_29 ?_
      refine wp_iadd (M := mX11_sumOf) (pc := 30) dX11_sumOf_30 ?_
      refine xs_callV (d := d) (M := mX11_sumOf) (pc := 31) (As := [.int (x3 + (x4 * x6))]) (st := [.int x5]) (c := 11) (ls' := [.ref 82, .int (x3 + (x4 * x6))]) dX11_sumOf_31 oX11_octet nX11_octet lX11_338 vX11_octet sX11_octet rfl sh82 (Nat.le_of_ble_eq_true rfl) rfl (Nat.le_of_ble_eq_true rfl) rfl ?_
      refine sp_X11_octet  (p3 c1 c2) ?_
      refine wp_iadd (M := mX11_sumOf) (pc := 34) dX11_sumOf_34 ?_
      refine wp_istore (M := mX11_sumOf) (pc := 35) (ls' := [.ref 82, .int x1, .int x2, .int x3, .int x4, .int (x5 + (oct f (x3 + (x4 * x6)))), .int x6]) dX11_sumOf_35 (by decide) rfl ?_
      refine wp_iinc (M := mX11_sumOf) (pc := 37) (v := x6 + 1) (ls' := [.ref 82, .int x1, .int x2, .int x3, .int x4, .int (x5 + (oct f (x3 + (x4 * x6)))), .int (x6 + 1)]) dX11_sumOf_37 rfl (congrArg (fun z => _ + z) k_iconst_1) (by decide) rfl ?_
      refine wp_goto (M := mX11_sumOf) (pc := 40) (t := 6) dX11_sumOf_40 (by decide) ?_
      exact p4 c1 c2
theorem bX11_heir_0 {G : GC} {d : Nat} {sw : Bool} {f : FF} {Q : QQ} {x1 : Int32} {x2 : Int32} {x3 : Int32} (p1 : (¬ (1 ≤ x1 ∧ x1 ≤ 12)) → Q (some (.int (-1))) sw f) (p2 : (1 ≤ x1 ∧ x1 ≤ 12) → (¬ (0 ≤ x2 ∧ x2 ≤ 3060)) → Q (some (.int (-1))) sw f) (p3 : (1 ≤ x1 ∧ x1 ≤ 12) → (0 ≤ x2 ∧ x2 ≤ 3060) → (¬ (0 ≤ x3 ∧ x3 ≤ 1)) → Q (some (.int (-1))) sw f) (p4 : (1 ≤ x1 ∧ x1 ≤ 12) → (0 ≤ x2 ∧ x2 ≤ 3060) → (0 ≤ x3 ∧ x3 ≤ 1) → (x1 ≤ (f 82 10)) → XP G mX11_heir (d + 2) 55 [.ref 82, .int x1, .int x2, .int x3, .int 0, .int (-2), .int 0] [] sw (upd2 f 82 10 0) Q) (p5 : (1 ≤ x1 ∧ x1 ≤ 12) → (0 ≤ x2 ∧ x2 ≤ 3060) → (0 ≤ x3 ∧ x3 ≤ 1) → (¬ x1 ≤ (f 82 10)) → Q (some (.int (-1))) sw f) : XP G mX11_heir (d + 2) 0 [.ref 82, .int x1, .int x2, .int x3, .null, .null, .null] [] sw f Q := by
  refine wp_iload_n (M := mX11_heir) (pc := 0) dX11_heir_0 rfl rfl ?_
  refine wp_iconst (M := mX11_heir) (pc := 1) dX11_heir_1 k_iconst_1 ?_
  refine wp_bipush (M := mX11_heir) (pc := 2) dX11_heir_2 k_bipush_12 ?_
  refine xs_callS (d := d + 1) (M := mX11_heir) (pc := 4) (As := [.int x1, .int 1, .int 12]) (st := []) (ls' := [.int x1, .int 1, .int 12]) dX11_heir_4 oX11_in nX11_in lX11_111 tX11_in (Nat.le_of_ble_eq_true rfl) rfl (Nat.le_of_ble_eq_true rfl) rfl ?_
  refine sp_X11_in   ?_
  refine xs_ifb_eq (M := mX11_heir) (pc := 7) (t := 38) dX11_heir_7 (by decide) (fun c1 => ?_) (fun c1 => ?_)
  · refine wp_iconst (M := mX11_heir) (pc := 38) dX11_heir_38 k_iconst_m1 ?_
    exact xs_iret (M := mX11_heir) (pc := 39) dX11_heir_39 rfl (p1 c1)
  · refine wp_iload_n (M := mX11_heir) (pc := 10) dX11_heir_10 rfl rfl ?_
    refine wp_iconst (M := mX11_heir) (pc := 11) dX11_heir_11 k_iconst_0 ?_
    refine wp_sipush (M := mX11_heir) (pc := 12) dX11_heir_12 k_sipush_3060 ?_
    refine xs_callS (d := d + 1) (M := mX11_heir) (pc := 15) (As := [.int x2, .int 0, .int 3060]) (st := []) (ls' := [.int x2, .int 0, .int 3060]) dX11_heir_15 oX11_in nX11_in lX11_111 tX11_in (Nat.le_of_ble_eq_true rfl) rfl (Nat.le_of_ble_eq_true rfl) rfl ?_
    refine sp_X11_in   ?_
    refine xs_ifb_eq (M := mX11_heir) (pc := 18) (t := 38) dX11_heir_18 (by decide) (fun c2 => ?_) (fun c2 => ?_)
    · refine wp_iconst (M := mX11_heir) (pc := 38) dX11_heir_38 k_iconst_m1 ?_
      exact xs_iret (M := mX11_heir) (pc := 39) dX11_heir_39 rfl (p2 c1 c2)
    · refine wp_iload_n (M := mX11_heir) (pc := 21) dX11_heir_21 rfl rfl ?_
      refine wp_iconst (M := mX11_heir) (pc := 22) dX11_heir_22 k_iconst_0 ?_
      refine wp_iconst (M := mX11_heir) (pc := 23) dX11_heir_23 k_iconst_1 ?_
      refine xs_callS (d := d + 1) (M := mX11_heir) (pc := 24) (As := [.int x3, .int 0, .int 1]) (st := []) (ls' := [.int x3, .int 0, .int 1]) dX11_heir_24 oX11_in nX11_in lX11_111 tX11_in (Nat.le_of_ble_eq_true rfl) rfl (Nat.le_of_ble_eq_true rfl) rfl ?_
      refine sp_X11_in   ?_
      refine xs_ifb_eq (M := mX11_heir) (pc := 27) (t := 38) dX11_heir_27 (by decide) (fun c3 => ?_) (fun c3 => ?_)
      · refine wp_iconst (M := mX11_heir) (pc := 38) dX11_heir_38 k_iconst_m1 ?_
        exact xs_iret (M := mX11_heir) (pc := 39) dX11_heir_39 rfl (p3 c1 c2 c3)
      · refine wp_iload_n (M := mX11_heir) (pc := 30) dX11_heir_30 rfl rfl ?_
        refine wp_aload_n (M := mX11_heir) (pc := 31) dX11_heir_31 rfl rfl ?_
        refine xs_geti (M := mX11_heir) (pc := 32) dX11_heir_32 fX11_146 sh82 rfl ?_
        refine wp_icmp_le (M := mX11_heir) (pc := 35) (t := 40) dX11_heir_35 (by decide) (fun c4 => ?_) (fun c4 => ?_)
        · refine wp_aload_n (M := mX11_heir) (pc := 40) dX11_heir_40 rfl rfl ?_
          refine wp_iconst (M := mX11_heir) (pc := 41) dX11_heir_41 k_iconst_0 ?_
          refine xs_puti (M := mX11_heir) (pc := 42) dX11_heir_42 pX11_146 sh82 rfl ?_
          refine wp_iconst (M := mX11_heir) (pc := 45) dX11_heir_45 k_iconst_0 ?_
          refine wp_istore (M := mX11_heir) (pc := 46) (ls' := [.ref 82, .int x1, .int x2, .int x3, .int 0, .null, .null]) dX11_heir_46 (by decide) rfl ?_
          refine wp_bipush (M := mX11_heir) (pc := 48) dX11_heir_48 k_bipush_m2 ?_
          refine wp_istore (M := mX11_heir) (pc := 50) (ls' := [.ref 82, .int x1, .int x2, .int x3, .int 0, .int (-2), .null]) dX11_heir_50 (by decide) rfl ?_
          refine wp_iconst (M := mX11_heir) (pc := 52) dX11_heir_52 k_iconst_0 ?_
          refine wp_istore (M := mX11_heir) (pc := 53) (ls' := [.ref 82, .int x1, .int x2, .int x3, .int 0, .int (-2), .int 0]) dX11_heir_53 (by decide) rfl ?_
          exact p4 c1 c2 c3 c4
        · refine wp_iconst (M := mX11_heir) (pc := 38) dX11_heir_38 k_iconst_m1 ?_
          exact xs_iret (M := mX11_heir) (pc := 39) dX11_heir_39 rfl (p5 c1 c2 c3 c4)
theorem bX11_heir_55 {G : GC} {d : Nat} {sw : Bool} {f : FF} {Q : QQ} {x1 : Int32} {x2 : Int32} {x3 : Int32} {x4 : Int32} {x5 : Int32} {x6 : Int32} (p1 : (((1 : Int32) <<< (x1 &&& 31)) ≤ x6) → (¬ x3 = 0) → Q (some (.int x5)) sw f) (p2 : (((1 : Int32) <<< (x1 &&& 31)) ≤ x6) → (x3 = 0) → Q (some (.int x4)) sw f) (p3 : (¬ ((1 : Int32) <<< (x1 &&& 31)) ≤ x6) → XP G mX11_sumOf (d + 1) 0 [.ref 82, .int x6, .int x1, .int 0, .int 1, .null, .null] [] sw f (fun v sw' f' => XP G mX11_heir (d + 2) 72 [.ref 82, .int x1, .int x2, .int x3, .int x4, .int x5, .int x6] (retst v []) sw' f' Q)) : XP G mX11_heir (d + 2) 55 [.ref 82, .int x1, .int x2, .int x3, .int x4, .int x5, .int x6] [] sw f Q := by
  refine wp_iload (M := mX11_heir) (pc := 55) dX11_heir_55 rfl ?_
  refine wp_iconst (M := mX11_heir) (pc := 57) dX11_heir_57 k_iconst_1 ?_
  refine wp_iload_n (M := mX11_heir) (pc := 58) dX11_heir_58 rfl rfl ?_
  refine wp_ishl (M := mX11_heir) (pc := 59) dX11_heir_59 ?_
  refine wp_icmp_ge (M := mX11_heir) (pc := 60) (t := 115) dX11_heir_60 (by decide) (fun c1 => ?_) (fun c1 => ?_)
  · refine wp_iload_n (M := mX11_heir) (pc := 115) dX11_heir_115 rfl rfl ?_
    refine wp_if_ne (M := mX11_heir) (pc := 116) (t := 124) dX11_heir_116 (by decide) (fun c2 => ?_) (fun c2 => ?_)
    · refine wp_iload (M := mX11_heir) (pc := 124) dX11_heir_124 rfl ?_
      exact xs_iret (M := mX11_heir) (pc := 126) dX11_heir_126 rfl (p1 c1 c2)
    · refine wp_iload (M := mX11_heir) (pc := 119) dX11_heir_119 rfl ?_
      refine wp_goto (M := mX11_heir) (pc := 121) (t := 126) dX11_heir_121 (by decide) ?_
      exact xs_iret (M := mX11_heir) (pc := 126) dX11_heir_126 rfl (p2 c1 c2)
  · refine wp_aload_n (M := mX11_heir) (pc := 63) dX11_heir_63 rfl rfl ?_
    refine wp_iload (M := mX11_heir) (pc := 64) dX11_heir_64 rfl ?_
    refine wp_iload_n (M := mX11_heir) (pc := 66) dX11_heir_66 rfl rfl ?_
    refine wp_iconst (M := mX11_heir) (pc := 67) dX11_heir_67 k_iconst_0 ?_
    refine wp_iconst (M := mX11_heir) (pc := 68) dX11_heir_68 k_iconst_1 ?_
    refine xs_callV (d := d + 1) (M := mX11_heir) (pc := 69) (As := [.int x6, .int x1, .int 0, .int 1]) (st := []) (c := 11) (ls' := [.ref 82, .int x6, .int x1, .int 0, .int 1, .null, .null]) dX11_heir_69 oX11_sumOf nX11_sumOf lX11_341 vX11_sumOf sX11_sumOf rfl sh82 (Nat.le_of_ble_eq_true rfl) rfl (Nat.le_of_ble_eq_true rfl) rfl ?_
    exact p3 c1
theorem bX11_heir_72 {G : GC} {d : Nat} {sw : Bool} {f : FF} {Q : QQ} {x1 : Int32} {x2 : Int32} {x3 : Int32} {x4 : Int32} {x5 : Int32} {x6 : Int32} {s0 : Int32} (p1 : (s0 = x2) → (x5 = (-2)) → XP G mX11_heir (d + 2) 55 [.ref 82, .int x1, .int x2, .int x3, .int (x4 + 1), .int x6, .int (x6 + 1)] [] sw f Q) (p2 : (s0 = x2) → (¬ x5 = (-2)) → XP G mX11_bits (d + 1) 0 [.int x6, .null, .null] [] sw f (fun v sw' f' => XP G mX11_heir (d + 2) 97 [.ref 82, .int x1, .int x2, .int x3, .int (x4 + 1), .int x5, .int x6] (retst v []) sw' f' Q)) (p3 : (¬ s0 = x2) → XP G mX11_heir (d + 2) 55 [.ref 82, .int x1, .int x2, .int x3, .int x4, .int x5, .int (x6 + 1)] [] sw f Q) : XP G mX11_heir (d + 2) 72 [.ref 82, .int x1, .int x2, .int x3, .int x4, .int x5, .int x6] [.int s0] sw f Q := by
  refine wp_iload_n (M := mX11_heir) (pc := 72) dX11_heir_72 rfl rfl ?_
  refine wp_icmp_eq (M := mX11_heir) (pc := 73) (t := 79) dX11_heir_73 (by decide) (fun c1 => ?_) (fun c1 => ?_)
  · refine wp_iload (M := mX11_heir) (pc := 79) dX11_heir_79 rfl ?_
    refine wp_iconst (M := mX11_heir) (pc := 81) dX11_heir_81 k_iconst_1 ?_
    refine wp_iadd (M := mX11_heir) (pc := 82) dX11_heir_82 ?_
    refine wp_istore (M := mX11_heir) (pc := 83) (ls' := [.ref 82, .int x1, .int x2, .int x3, .int (x4 + 1), .int x5, .int x6]) dX11_heir_83 (by decide) rfl ?_
    refine wp_iload (M := mX11_heir) (pc := 85) dX11_heir_85 rfl ?_
    refine wp_bipush (M := mX11_heir) (pc := 87) dX11_heir_87 k_bipush_m2 ?_
    refine wp_icmp_eq (M := mX11_heir) (pc := 89) (t := 105) dX11_heir_89 (by decide) (fun c2 => ?_) (fun c2 => ?_)
    · refine wp_iload (M := mX11_heir) (pc := 105) dX11_heir_105 rfl ?_
      refine wp_istore (M := mX11_heir) (pc := 107) (ls' := [.ref 82, .int x1, .int x2, .int x3, .int (x4 + 1), .int x6, .int x6]) dX11_heir_107 (by decide) rfl ?_
      refine wp_iinc (M := mX11_heir) (pc := 109) (v := x6 + 1) (ls' := [.ref 82, .int x1, .int x2, .int x3, .int (x4 + 1), .int x6, .int (x6 + 1)]) dX11_heir_109 rfl (congrArg (fun z => _ + z) k_iconst_1) (by decide) rfl ?_
      refine wp_goto (M := mX11_heir) (pc := 112) (t := 55) dX11_heir_112 (by decide) ?_
      exact p1 c1 c2
    · refine wp_iload (M := mX11_heir) (pc := 92) dX11_heir_92 rfl ?_
      refine xs_callS (d := d + 1) (M := mX11_heir) (pc := 94) (As := [.int x6]) (st := []) (ls' := [.int x6, .null, .null]) dX11_heir_94 oX11_bits nX11_bits lX11_345 tX11_bits (Nat.le_of_ble_eq_true rfl) rfl (Nat.le_of_ble_eq_true rfl) rfl ?_
      exact p2 c1 c2
  · refine wp_goto (M := mX11_heir) (pc := 76) (t := 109) dX11_heir_76 (by decide) ?_
    refine wp_iinc (M := mX11_heir) (pc := 109) (v := x6 + 1) (ls' := [.ref 82, .int x1, .int x2, .int x3, .int x4, .int x5, .int (x6 + 1)]) dX11_heir_109 rfl (congrArg (fun z => _ + z) k_iconst_1) (by decide) rfl ?_
    refine wp_goto (M := mX11_heir) (pc := 112) (t := 55) dX11_heir_112 (by decide) ?_
    exact p3 c1
theorem bX11_heir_97 {G : GC} {d : Nat} {sw : Bool} {f : FF} {Q : QQ} {x1 : Int32} {x2 : Int32} {x3 : Int32} {x4 : Int32} {x5 : Int32} {x6 : Int32} {s0 : Int32} (p1 : XP G mX11_bits (d + 1) 0 [.int x5, .null, .null] [] sw f (fun v sw' f' => XP G mX11_heir (d + 2) 102 [.ref 82, .int x1, .int x2, .int x3, .int x4, .int x5, .int x6] (retst v [.int s0]) sw' f' Q)) : XP G mX11_heir (d + 2) 97 [.ref 82, .int x1, .int x2, .int x3, .int x4, .int x5, .int x6] [.int s0] sw f Q := by
  refine wp_iload (M := mX11_heir) (pc := 97) dX11_heir_97 rfl ?_
  refine xs_callS (d := d + 1) (M := mX11_heir) (pc := 99) (As := [.int x5]) (st := [.int s0]) (ls' := [.int x5, .null, .null]) dX11_heir_99 oX11_bits nX11_bits lX11_345 tX11_bits (Nat.le_of_ble_eq_true rfl) rfl (Nat.le_of_ble_eq_true rfl) rfl ?_
  exact p1
theorem bX11_heir_102 {G : GC} {d : Nat} {sw : Bool} {f : FF} {Q : QQ} {x1 : Int32} {x2 : Int32} {x3 : Int32} {x4 : Int32} {x5 : Int32} {x6 : Int32} {s0 : Int32} {s1 : Int32} (p1 : (s0 ≤ s1) → XP G mX11_heir (d + 2) 55 [.ref 82, .int x1, .int x2, .int x3, .int x4, .int x5, .int (x6 + 1)] [] sw f Q) (p2 : (¬ s0 ≤ s1) → XP G mX11_heir (d + 2) 55 [.ref 82, .int x1, .int x2, .int x3, .int x4, .int x6, .int (x6 + 1)] [] sw f Q) : XP G mX11_heir (d + 2) 102 [.ref 82, .int x1, .int x2, .int x3, .int x4, .int x5, .int x6] [.int s0, .int s1] sw f Q := by
  refine wp_icmp_ge (M := mX11_heir) (pc := 102) (t := 109) dX11_heir_102 (by decide) (fun c1 => ?_) (fun c1 => ?_)
  · refine wp_iinc (M := mX11_heir) (pc := 109) (v := x6 + 1) (ls' := [.ref 82, .int x1, .int x2, .int x3, .int x4, .int x5, .int (x6 + 1)]) dX11_heir_109 rfl (congrArg (fun z => _ + z) k_iconst_1) (by decide) rfl ?_
    refine wp_goto (M := mX11_heir) (pc := 112) (t := 55) dX11_heir_112 (by decide) ?_
    exact p1 c1
  · refine wp_iload (M := mX11_heir) (pc := 105) dX11_heir_105 rfl ?_
    refine wp_istore (M := mX11_heir) (pc := 107) (ls' := [.ref 82, .int x1, .int x2, .int x3, .int x4, .int x6, .int x6]) dX11_heir_107 (by decide) rfl ?_
    refine wp_iinc (M := mX11_heir) (pc := 109) (v := x6 + 1) (ls' := [.ref 82, .int x1, .int x2, .int x3, .int x4, .int x6, .int (x6 + 1)]) dX11_heir_109 rfl (congrArg (fun z => _ + z) k_iconst_1) (by decide) rfl ?_
    refine wp_goto (M := mX11_heir) (pc := 112) (t := 55) dX11_heir_112 (by decide) ?_
    exact p2 c1
theorem bX11_bits_0 {G : GC} {d : Nat} {sw : Bool} {f : FF} {Q : QQ} {x0 : Int32} (p1 : XP G mX11_bits (d) 4 [.int x0, .int 0, .int 0] [] sw f Q) : XP G mX11_bits (d) 0 [.int x0, .null, .null] [] sw f Q := by
  refine wp_iconst (M := mX11_bits) (pc := 0) dX11_bits_0 k_iconst_0 ?_
  refine wp_istore_n (M := mX11_bits) (pc := 1) (ls' := [.int x0, .int 0, .null]) dX11_bits_1 rfl (by decide) rfl ?_
  refine wp_iconst (M := mX11_bits) (pc := 2) dX11_bits_2 k_iconst_0 ?_
  refine wp_istore_n (M := mX11_bits) (pc := 3) (ls' := [.int x0, .int 0, .int 0]) dX11_bits_3 rfl (by decide) rfl ?_
  exact p1
theorem bX11_bits_4 {G : GC} {d : Nat} {sw : Bool} {f : FF} {Q : QQ} {x0 : Int32} {x1 : Int32} {x2 : Int32} (p1 : (16 ≤ x2) → Q (some (.int x1)) sw f) (p2 : (¬ 16 ≤ x2) → XP G mX11_bits (d) 4 [.int x0, .int (x1 + ((x0 >>> (x2 &&& 31)) &&& 1)), .int (x2 + 1)] [] sw f Q) : XP G mX11_bits (d) 4 [.int x0, .int x1, .int x2] [] sw f Q := by
  refine wp_iload_n (M := mX11_bits) (pc := 4) dX11_bits_4 rfl rfl ?_
  refine wp_bipush (M := mX11_bits) (pc := 5) dX11_bits_5 k_bipush_16 ?_
  refine wp_icmp_ge (M := mX11_bits) (pc := 7) (t := 24) dX11_bits_7 (by decide) (fun c1 => ?_) (fun c1 => ?_)
  · refine wp_iload_n (M := mX11_bits) (pc := 24) dX11_bits_24 rfl rfl ?_
    exact xs_iret (M := mX11_bits) (pc := 25) dX11_bits_25 rfl (p1 c1)
  · refine wp_iload_n (M := mX11_bits) (pc := 10) dX11_bits_10 rfl rfl ?_
    refine wp_iload_n (M := mX11_bits) (pc := 11) dX11_bits_11 rfl rfl ?_
    refine wp_iload_n (M := mX11_bits) (pc := 12) dX11_bits_12 rfl rfl ?_
    refine wp_ishr (M := mX11_bits) (pc := 13) dX11_bits_13 ?_
    refine wp_iconst (M := mX11_bits) (pc := 14) dX11_bits_14 k_iconst_1 ?_
    refine wp_iand (M := mX11_bits) (pc := 15) dX11_bits_15 ?_
    refine wp_iadd (M := mX11_bits) (pc := 16) dX11_bits_16 ?_
    refine wp_istore_n (M := mX11_bits) (pc := 17) (ls' := [.int x0, .int (x1 + ((x0 >>> (x2 &&& 31)) &&& 1)), .int x2]) dX11_bits_17 rfl (by decide) rfl ?_
    refine wp_iinc (M := mX11_bits) (pc := 18) (v := x2 + 1) (ls' := [.int x0, .int (x1 + ((x0 >>> (x2 &&& 31)) &&& 1)), .int (x2 + 1)]) dX11_bits_18 rfl (congrArg (fun z => _ + z) k_iconst_1) (by decide) rfl ?_
    refine wp_goto (M := mX11_bits) (pc := 21) (t := 4) dX11_bits_21 (by decide) ?_
    exact p2 c1
theorem bX11_busy_0 {G : GC} {d : Nat} {sw : Bool} {f : FF} {Q : QQ} {x1 : Int32} {x2 : Int32} (p1 : (¬ (1 ≤ x1 ∧ x1 ≤ 10)) → Q (some (.int (-1))) sw f) (p2 : (1 ≤ x1 ∧ x1 ≤ 10) → (0 ≤ x2 ∧ x2 ≤ 1) → ((2 * x1) ≤ (f 82 10)) → XP G mX11_busy (d + 2) 49 [.ref 82, .int x1, .int x2, .int 0, .null, .null] [] sw (upd2 f 82 10 0) Q) (p3 : (1 ≤ x1 ∧ x1 ≤ 10) → (0 ≤ x2 ∧ x2 ≤ 1) → (¬ (2 * x1) ≤ (f 82 10)) → Q (some (.int (-1))) sw f) (p4 : (1 ≤ x1 ∧ x1 ≤ 10) → (¬ (0 ≤ x2 ∧ x2 ≤ 1)) → (¬ (100 ≤ x2 ∧ x2 ≤ 120)) → Q (some (.int (-1))) sw f) (p5 : (1 ≤ x1 ∧ x1 ≤ 10) → (¬ (0 ≤ x2 ∧ x2 ≤ 1)) → (100 ≤ x2 ∧ x2 ≤ 120) → ((2 * x1) ≤ (f 82 10)) → XP G mX11_busy (d + 2) 49 [.ref 82, .int x1, .int x2, .int 0, .null, .null] [] sw (upd2 f 82 10 0) Q) (p6 : (1 ≤ x1 ∧ x1 ≤ 10) → (¬ (0 ≤ x2 ∧ x2 ≤ 1)) → (100 ≤ x2 ∧ x2 ≤ 120) → (¬ (2 * x1) ≤ (f 82 10)) → Q (some (.int (-1))) sw f) : XP G mX11_busy (d + 2) 0 [.ref 82, .int x1, .int x2, .null, .null, .null] [] sw f Q := by
  refine wp_iload_n (M := mX11_busy) (pc := 0) dX11_busy_0 rfl rfl ?_
  refine wp_iconst (M := mX11_busy) (pc := 1) dX11_busy_1 k_iconst_1 ?_
  refine wp_bipush (M := mX11_busy) (pc := 2) dX11_busy_2 k_bipush_10 ?_
  refine xs_callS (d := d + 1) (M := mX11_busy) (pc := 4) (As := [.int x1, .int 1, .int 10]) (st := []) (ls' := [.int x1, .int 1, .int 10]) dX11_busy_4 oX11_in nX11_in lX11_111 tX11_in (Nat.le_of_ble_eq_true rfl) rfl (Nat.le_of_ble_eq_true rfl) rfl ?_
  refine sp_X11_in   ?_
  refine xs_ifb_eq (M := mX11_busy) (pc := 7) (t := 40) dX11_busy_7 (by decide) (fun c1 => ?_) (fun c1 => ?_)
  · refine wp_iconst (M := mX11_busy) (pc := 40) dX11_busy_40 k_iconst_m1 ?_
    exact xs_iret (M := mX11_busy) (pc := 41) dX11_busy_41 rfl (p1 c1)
  · refine wp_iload_n (M := mX11_busy) (pc := 10) dX11_busy_10 rfl rfl ?_
    refine wp_iconst (M := mX11_busy) (pc := 11) dX11_busy_11 k_iconst_0 ?_
    refine wp_iconst (M := mX11_busy) (pc := 12) dX11_busy_12 k_iconst_1 ?_
    refine xs_callS (d := d + 1) (M := mX11_busy) (pc := 13) (As := [.int x2, .int 0, .int 1]) (st := []) (ls' := [.int x2, .int 0, .int 1]) dX11_busy_13 oX11_in nX11_in lX11_111 tX11_in (Nat.le_of_ble_eq_true rfl) rfl (Nat.le_of_ble_eq_true rfl) rfl ?_
    refine sp_X11_in   ?_
    refine xs_ifb_ne (M := mX11_busy) (pc := 16) (t := 30) dX11_busy_16 (by decide) (fun c2 => ?_) (fun c2 => ?_)
    · refine wp_iconst (M := mX11_busy) (pc := 30) dX11_busy_30 k_iconst_2 ?_
      refine wp_iload_n (M := mX11_busy) (pc := 31) dX11_busy_31 rfl rfl ?_
      refine wp_imul (M := mX11_busy) (pc := 32) dX11_busy_32 ?_
      refine wp_aload_n (M := mX11_busy) (pc := 33) dX11_busy_33 rfl rfl ?_
      refine xs_geti (M := mX11_busy) (pc := 34) dX11_busy_34 fX11_146 sh82 rfl ?_
      refine wp_icmp_le (M := mX11_busy) (pc := 37) (t := 42) dX11_busy_37 (by decide) (fun c3 => ?_) (fun c3 => ?_)
      · refine wp_aload_n (M := mX11_busy) (pc := 42) dX11_busy_42 rfl rfl ?_
        refine wp_iconst (M := mX11_busy) (pc := 43) dX11_busy_43 k_iconst_0 ?_
        refine xs_puti (M := mX11_busy) (pc := 44) dX11_busy_44 pX11_146 sh82 rfl ?_
        refine wp_iconst (M := mX11_busy) (pc := 47) dX11_busy_47 k_iconst_0 ?_
        refine wp_istore_n (M := mX11_busy) (pc := 48) (ls' := [.ref 82, .int x1, .int x2, .int 0, .null, .null]) dX11_busy_48 rfl (by decide) rfl ?_
        exact p2 c1 c2 c3
      · refine wp_iconst (M := mX11_busy) (pc := 40) dX11_busy_40 k_iconst_m1 ?_
        exact xs_iret (M := mX11_busy) (pc := 41) dX11_busy_41 rfl (p3 c1 c2 c3)
    · refine wp_iload_n (M := mX11_busy) (pc := 19) dX11_busy_19 rfl rfl ?_
      refine wp_bipush (M := mX11_busy) (pc := 20) dX11_busy_20 k_bipush_100 ?_
      refine wp_bipush (M := mX11_busy) (pc := 22) dX11_busy_22 k_bipush_120 ?_
      refine xs_callS (d := d + 1) (M := mX11_busy) (pc := 24) (As := [.int x2, .int 100, .int 120]) (st := []) (ls' := [.int x2, .int 100, .int 120]) dX11_busy_24 oX11_in nX11_in lX11_111 tX11_in (Nat.le_of_ble_eq_true rfl) rfl (Nat.le_of_ble_eq_true rfl) rfl ?_
      refine sp_X11_in   ?_
      refine xs_ifb_eq (M := mX11_busy) (pc := 27) (t := 40) dX11_busy_27 (by decide) (fun c4 => ?_) (fun c4 => ?_)
      · refine wp_iconst (M := mX11_busy) (pc := 40) dX11_busy_40 k_iconst_m1 ?_
        exact xs_iret (M := mX11_busy) (pc := 41) dX11_busy_41 rfl (p4 c1 c2 c4)
      · refine wp_iconst (M := mX11_busy) (pc := 30) dX11_busy_30 k_iconst_2 ?_
        refine wp_iload_n (M := mX11_busy) (pc := 31) dX11_busy_31 rfl rfl ?_
        refine wp_imul (M := mX11_busy) (pc := 32) dX11_busy_32 ?_
        refine wp_aload_n (M := mX11_busy) (pc := 33) dX11_busy_33 rfl rfl ?_
        refine xs_geti (M := mX11_busy) (pc := 34) dX11_busy_34 fX11_146 sh82 rfl ?_
        refine wp_icmp_le (M := mX11_busy) (pc := 37) (t := 42) dX11_busy_37 (by decide) (fun c5 => ?_) (fun c5 => ?_)
        · refine wp_aload_n (M := mX11_busy) (pc := 42) dX11_busy_42 rfl rfl ?_
          refine wp_iconst (M := mX11_busy) (pc := 43) dX11_busy_43 k_iconst_0 ?_
          refine xs_puti (M := mX11_busy) (pc := 44) dX11_busy_44 pX11_146 sh82 rfl ?_
          refine wp_iconst (M := mX11_busy) (pc := 47) dX11_busy_47 k_iconst_0 ?_
          refine wp_istore_n (M := mX11_busy) (pc := 48) (ls' := [.ref 82, .int x1, .int x2, .int 0, .null, .null]) dX11_busy_48 rfl (by decide) rfl ?_
          exact p5 c1 c2 c4 c5
        · refine wp_iconst (M := mX11_busy) (pc := 40) dX11_busy_40 k_iconst_m1 ?_
          exact xs_iret (M := mX11_busy) (pc := 41) dX11_busy_41 rfl (p6 c1 c2 c4 c5)
theorem bX11_busy_49 {G : GC} {d : Nat} {sw : Bool} {f : FF} {Q : QQ} {x1 : Int32} {x2 : Int32} {x3 : Int32} {v4 : Value} {v5 : Value} (p1 : (x1 ≤ x3) → (x2 < 100) → XP G mX11_busy (d + 2) 118 [.ref 82, .int x1, .int x2, .int 0, .int 0, .int 0] [] sw f Q) (p2 : (x1 ≤ x3) → (¬ x2 < 100) → XP G mX11_laysRow (d + 1) 0 [.ref 82, .int x1, .null, .null] [] sw f (fun v sw' f' => XP G mX11_busy (d + 2) 86 [.ref 82, .int x1, .int x2, .int x3, v4, v5] (retst v []) sw' f' Q)) (p3 : (¬ x1 ≤ x3) → vp_in ((2 * x3) + 1) 260) (p4 : (¬ x1 ≤ x3) → (¬ (oct f ((2 * x3) + 1)) = 0) → XP G mX11_busy (d + 2) 49 [.ref 82, .int x1, .int x2, .int (x3 + 1), v4, v5] [] sw f Q) (p5 : (¬ x1 ≤ x3) → ((oct f ((2 * x3) + 1)) = 0) → Q (some (.int (-2))) sw f) : XP G mX11_busy (d + 2) 49 [.ref 82, .int x1, .int x2, .int x3, v4, v5] [] sw f Q := by
  refine wp_iload_n (M := mX11_busy) (pc := 49) dX11_busy_49 rfl rfl ?_
  refine wp_iload_n (M := mX11_busy) (pc := 50) dX11_busy_50 rfl rfl ?_
  refine wp_icmp_ge (M := mX11_busy) (pc := 51) (t := 75) dX11_busy_51 (by decide) (fun c1 => ?_) (fun c1 => ?_)
  · refine wp_iload_n (M := mX11_busy) (pc := 75) dX11_busy_75 rfl rfl ?_
    refine wp_bipush (M := mX11_busy) (pc := 76) dX11_busy_76 k_bipush_100 ?_
    refine wp_icmp_lt (M := mX11_busy) (pc := 78) (t := 110) dX11_busy_78 (by decide) (fun c2 => ?_) (fun c2 => ?_)
    · refine wp_iconst (M := mX11_busy) (pc := 110) dX11_busy_110 k_iconst_0 ?_
      refine wp_istore_n (M := mX11_busy) (pc := 111) (ls' := [.ref 82, .int x1, .int x2, .int 0, v4, v5]) dX11_busy_111 rfl (by decide) rfl ?_
      refine wp_iconst (M := mX11_busy) (pc := 112) dX11_busy_112 k_iconst_0 ?_
      refine wp_istore (M := mX11_busy) (pc := 113) (ls' := [.ref 82, .int x1, .int x2, .int 0, .int 0, v5]) dX11_busy_113 (by decide) rfl ?_
      refine wp_iconst (M := mX11_busy) (pc := 115) dX11_busy_115 k_iconst_0 ?_
      refine wp_istore (M := mX11_busy) (pc := 116) (ls' := [.ref 82, .int x1, .int x2, .int 0, .int 0, .int 0]) dX11_busy_116 (by decide) rfl ?_
      exact p1 c1 c2
    · refine wp_aload_n (M := mX11_busy) (pc := 81) dX11_busy_81 rfl rfl ?_
      refine wp_iload_n (M := mX11_busy) (pc := 82) dX11_busy_82 rfl rfl ?_
      refine xs_callV (d := d + 1) (M := mX11_busy) (pc := 83) (As := [.int x1]) (st := []) (c := 11) (ls' := [.ref 82, .int x1, .null, .null]) dX11_busy_83 oX11_laysRow nX11_laysRow lX11_348 vX11_laysRow sX11_laysRow rfl sh82 (Nat.le_of_ble_eq_true rfl) rfl (Nat.le_of_ble_eq_true rfl) rfl ?_
      exact p2 c1 c2
  · refine wp_aload_n (M := mX11_busy) (pc := 54) dX11_busy_54 rfl rfl ?_
    refine wp_iconst (M := mX11_busy) (pc := 55) dX11_busy_55 k_iconst_2 ?_
    refine wp_iload_n (M := mX11_busy) (pc := 56) dX11_busy_56 rfl rfl ?_
    refine wp_imul (M := mX11_busy) (pc := 57) dX11_busy_57 ?_
    refine wp_iconst (M := mX11_busy) (pc := 58) dX11_busy_58 k_iconst_1 ?_
    refine wp_iadd (M := mX11_busy) (pc := 59) dX11_busy_59 ?_
    refine xs_callV (d := d + 1) (M := mX11_busy) (pc := 60) (As := [.int ((2 * x3) + 1)]) (st := []) (c := 11) (ls' := [.ref 82, .int ((2 * x3) + 1)]) dX11_busy_60 oX11_octet nX11_octet lX11_338 vX11_octet sX11_octet rfl sh82 (Nat.le_of_ble_eq_true rfl) rfl (Nat.le_of_ble_eq_true rfl) rfl ?_
    refine sp_X11_octet  (p3 c1) ?_
    refine wp_if_ne (M := mX11_busy) (pc := 63) (t := 69) dX11_busy_63 (by decide) (fun c3 => ?_) (fun c3 => ?_)
    · refine wp_iinc (M := mX11_busy) (pc := 69) (v := x3 + 1) (ls' := [.ref 82, .int x1, .int x2, .int (x3 + 1), v4, v5]) dX11_busy_69 rfl (congrArg (fun z => _ + z) k_iconst_1) (by decide) rfl ?_
      refine wp_goto (M := mX11_busy) (pc := 72) (t := 49) dX11_busy_72 (by decide) ?_
      exact p4 c1 c3
    · refine wp_bipush (M := mX11_busy) (pc := 66) dX11_busy_66 k_bipush_m2 ?_
      exact xs_iret (M := mX11_busy) (pc := 68) dX11_busy_68 rfl (p5 c1 c3)
theorem bX11_busy_86 {G : GC} {d : Nat} {sw : Bool} {f : FF} {Q : QQ} {x1 : Int32} {x2 : Int32} {x3 : Int32} {v4 : Value} {v5 : Value} (p1 : XP G mX11_busy (d + 2) 88 [.ref 82, .int x1, .int x2, .int 1, v4, v5] [] sw f Q) : XP G mX11_busy (d + 2) 86 [.ref 82, .int x1, .int x2, .int x3, v4, v5] [] sw f Q := by
  refine wp_iconst (M := mX11_busy) (pc := 86) dX11_busy_86 k_iconst_1 ?_
  refine wp_istore_n (M := mX11_busy) (pc := 87) (ls' := [.ref 82, .int x1, .int x2, .int 1, v4, v5]) dX11_busy_87 rfl (by decide) rfl ?_
  exact p1
theorem bX11_busy_88 {G : GC} {d : Nat} {sw : Bool} {f : FF} {Q : QQ} {x1 : Int32} {x2 : Int32} {x3 : Int32} {v4 : Value} {v5 : Value} (p1 : XP G mX11_areEnough (d + 1) 0 [.ref 82, .int x1, .int x3, .int (x2 - 100), .null, .null, .null, .null] [] sw f (fun v sw' f' => XP G mX11_busy (d + 2) 98 [.ref 82, .int x1, .int x2, .int x3, v4, v5] (retst v []) sw' f' Q)) : XP G mX11_busy (d + 2) 88 [.ref 82, .int x1, .int x2, .int x3, v4, v5] [] sw f Q := by
  refine wp_aload_n (M := mX11_busy) (pc := 88) dX11_busy_88 rfl rfl ?_
  refine wp_iload_n (M := mX11_busy) (pc := 89) dX11_busy_89 rfl rfl ?_
  refine wp_iload_n (M := mX11_busy) (pc := 90) dX11_busy_90 rfl rfl ?_
  refine wp_iload_n (M := mX11_busy) (pc := 91) dX11_busy_91 rfl rfl ?_
  refine wp_bipush (M := mX11_busy) (pc := 92) dX11_busy_92 k_bipush_100 ?_
  refine wp_isub (M := mX11_busy) (pc := 94) dX11_busy_94 ?_
  refine xs_callV (d := d + 1) (M := mX11_busy) (pc := 95) (As := [.int x1, .int x3, .int (x2 - 100)]) (st := []) (c := 11) (ls' := [.ref 82, .int x1, .int x3, .int (x2 - 100), .null, .null, .null, .null]) dX11_busy_95 oX11_areEnough nX11_areEnough lX11_351 vX11_areEnough sX11_areEnough rfl sh82 (Nat.le_of_ble_eq_true rfl) rfl (Nat.le_of_ble_eq_true rfl) rfl ?_
  exact p1
theorem bX11_busy_98 {G : GC} {d : Nat} {sw : Bool} {f : FF} {Q : QQ} {x1 : Int32} {x2 : Int32} {x3 : Int32} {v4 : Value} {v5 : Value} {s0 : Int32} (p1 : (¬ s0 = 0) → Q (some (.int x3)) sw f) (p2 : (s0 = 0) → XP G mX11_busy (d + 2) 88 [.ref 82, .int x1, .int x2, .int (x3 + 1), v4, v5] [] sw f Q) : XP G mX11_busy (d + 2) 98 [.ref 82, .int x1, .int x2, .int x3, v4, v5] [.int s0] sw f Q := by
  refine wp_if_ne (M := mX11_busy) (pc := 98) (t := 108) dX11_busy_98 (by decide) (fun c1 => ?_) (fun c1 => ?_)
  · refine wp_iload_n (M := mX11_busy) (pc := 108) dX11_busy_108 rfl rfl ?_
    exact xs_iret (M := mX11_busy) (pc := 109) dX11_busy_109 rfl (p1 c1)
  · refine wp_iload_n (M := mX11_busy) (pc := 101) dX11_busy_101 rfl rfl ?_
    refine wp_iconst (M := mX11_busy) (pc := 102) dX11_busy_102 k_iconst_1 ?_
    refine wp_iadd (M := mX11_busy) (pc := 103) dX11_busy_103 ?_
    refine wp_istore_n (M := mX11_busy) (pc := 104) (ls' := [.ref 82, .int x1, .int x2, .int (x3 + 1), v4, v5]) dX11_busy_104 rfl (by decide) rfl ?_
    refine wp_goto (M := mX11_busy) (pc := 105) (t := 88) dX11_busy_105 (by decide) ?_
    exact p2 c1
theorem bX11_busy_118 {G : GC} {d : Nat} {sw : Bool} {f : FF} {Q : QQ} {x1 : Int32} {x2 : Int32} {x3 : Int32} {x4 : Int32} {x5 : Int32} (p1 : (512 ≤ x5) → (¬ x2 = 0) → Q (some (.int x4)) sw f) (p2 : (512 ≤ x5) → (x2 = 0) → Q (some (.int x3)) sw f) (p3 : (¬ 512 ≤ x5) → XP G mX11_atOnceIn (d + 1) 0 [.ref 82, .int x1, .int x5, .null, .null] [] sw f (fun v sw' f' => XP G mX11_busy (d + 2) 133 [.ref 82, .int x1, .int x2, .int x3, .int x4, .int x5] (retst v []) sw' f' Q)) : XP G mX11_busy (d + 2) 118 [.ref 82, .int x1, .int x2, .int x3, .int x4, .int x5] [] sw f Q := by
  refine wp_iload (M := mX11_busy) (pc := 118) dX11_busy_118 rfl ?_
  refine wp_sipush (M := mX11_busy) (pc := 120) dX11_busy_120 k_sipush_512 ?_
  refine wp_icmp_ge (M := mX11_busy) (pc := 123) (t := 158) dX11_busy_123 (by decide) (fun c1 => ?_) (fun c1 => ?_)
  · refine wp_iload_n (M := mX11_busy) (pc := 158) dX11_busy_158 rfl rfl ?_
    refine wp_if_ne (M := mX11_busy) (pc := 159) (t := 166) dX11_busy_159 (by decide) (fun c2 => ?_) (fun c2 => ?_)
    · refine wp_iload (M := mX11_busy) (pc := 166) dX11_busy_166 rfl ?_
      exact xs_iret (M := mX11_busy) (pc := 168) dX11_busy_168 rfl (p1 c1 c2)
    · refine wp_iload_n (M := mX11_busy) (pc := 162) dX11_busy_162 rfl rfl ?_
      refine wp_goto (M := mX11_busy) (pc := 163) (t := 168) dX11_busy_163 (by decide) ?_
      exact xs_iret (M := mX11_busy) (pc := 168) dX11_busy_168 rfl (p2 c1 c2)
  · refine wp_aload_n (M := mX11_busy) (pc := 126) dX11_busy_126 rfl rfl ?_
    refine wp_iload_n (M := mX11_busy) (pc := 127) dX11_busy_127 rfl rfl ?_
    refine wp_iload (M := mX11_busy) (pc := 128) dX11_busy_128 rfl ?_
    refine xs_callV (d := d + 1) (M := mX11_busy) (pc := 130) (As := [.int x1, .int x5]) (st := []) (c := 11) (ls' := [.ref 82, .int x1, .int x5, .null, .null]) dX11_busy_130 oX11_atOnceIn nX11_atOnceIn lX11_354 vX11_atOnceIn sX11_atOnceIn rfl sh82 (Nat.le_of_ble_eq_true rfl) rfl (Nat.le_of_ble_eq_true rfl) rfl ?_
    exact p3 c1
theorem bX11_busy_133 {G : GC} {d : Nat} {sw : Bool} {f : FF} {Q : QQ} {x1 : Int32} {x2 : Int32} {x3 : Int32} {x4 : Int32} {x5 : Int32} {s0 : Int32} (p1 : (x3 < s0) → XP G mX11_atOnceIn (d + 1) 0 [.ref 82, .int x1, .int x5, .null, .null] [] sw f (fun v sw' f' => XP G mX11_busy (d + 2) 147 [.ref 82, .int x1, .int x2, .int x3, .int x4, .int x5] (retst v []) sw' f' Q)) (p2 : (¬ x3 < s0) → XP G mX11_busy (d + 2) 118 [.ref 82, .int x1, .int x2, .int x3, .int x4, .int (x5 + 1)] [] sw f Q) : XP G mX11_busy (d + 2) 133 [.ref 82, .int x1, .int x2, .int x3, .int x4, .int x5] [.int s0] sw f Q := by
  refine wp_iload_n (M := mX11_busy) (pc := 133) dX11_busy_133 rfl rfl ?_
  refine wp_icmp_gt (M := mX11_busy) (pc := 134) (t := 140) dX11_busy_134 (by decide) (fun c1 => ?_) (fun c1 => ?_)
  · refine wp_aload_n (M := mX11_busy) (pc := 140) dX11_busy_140 rfl rfl ?_
    refine wp_iload_n (M := mX11_busy) (pc := 141) dX11_busy_141 rfl rfl ?_
    refine wp_iload (M := mX11_busy) (pc := 142) dX11_busy_142 rfl ?_
    refine xs_callV (d := d + 1) (M := mX11_busy) (pc := 144) (As := [.int x1, .int x5]) (st := []) (c := 11) (ls' := [.ref 82, .int x1, .int x5, .null, .null]) dX11_busy_144 oX11_atOnceIn nX11_atOnceIn lX11_354 vX11_atOnceIn sX11_atOnceIn rfl sh82 (Nat.le_of_ble_eq_true rfl) rfl (Nat.le_of_ble_eq_true rfl) rfl ?_
    exact p1 c1
  · refine wp_goto (M := mX11_busy) (pc := 137) (t := 152) dX11_busy_137 (by decide) ?_
    refine wp_iinc (M := mX11_busy) (pc := 152) (v := x5 + 1) (ls' := [.ref 82, .int x1, .int x2, .int x3, .int x4, .int (x5 + 1)]) dX11_busy_152 rfl (congrArg (fun z => _ + z) k_iconst_1) (by decide) rfl ?_
    refine wp_goto (M := mX11_busy) (pc := 155) (t := 118) dX11_busy_155 (by decide) ?_
    exact p2 c1
theorem bX11_busy_147 {G : GC} {d : Nat} {sw : Bool} {f : FF} {Q : QQ} {x1 : Int32} {x2 : Int32} {x3 : Int32} {x4 : Int32} {x5 : Int32} {s0 : Int32} (p1 : XP G mX11_busy (d + 2) 118 [.ref 82, .int x1, .int x2, .int s0, .int x5, .int (x5 + 1)] [] sw f Q) : XP G mX11_busy (d + 2) 147 [.ref 82, .int x1, .int x2, .int x3, .int x4, .int x5] [.int s0] sw f Q := by
  refine wp_istore_n (M := mX11_busy) (pc := 147) (ls' := [.ref 82, .int x1, .int x2, .int s0, .int x4, .int x5]) dX11_busy_147 rfl (by decide) rfl ?_
  refine wp_iload (M := mX11_busy) (pc := 148) dX11_busy_148 rfl ?_
  refine wp_istore (M := mX11_busy) (pc := 150) (ls' := [.ref 82, .int x1, .int x2, .int s0, .int x5, .int x5]) dX11_busy_150 (by decide) rfl ?_
  refine wp_iinc (M := mX11_busy) (pc := 152) (v := x5 + 1) (ls' := [.ref 82, .int x1, .int x2, .int s0, .int x5, .int (x5 + 1)]) dX11_busy_152 rfl (congrArg (fun z => _ + z) k_iconst_1) (by decide) rfl ?_
  refine wp_goto (M := mX11_busy) (pc := 155) (t := 118) dX11_busy_155 (by decide) ?_
  exact p1
theorem bX11_laysRow_0 {G : GC} {d : Nat} {sw : Bool} {f : FF} {Q : QQ} {x1 : Int32} (p1 : XP G mX11_laysRow (d + 1) 2 [.ref 82, .int x1, .int 0, .null] [] sw f Q) : XP G mX11_laysRow (d + 1) 0 [.ref 82, .int x1, .null, .null] [] sw f Q := by
  refine wp_iconst (M := mX11_laysRow) (pc := 0) dX11_laysRow_0 k_iconst_0 ?_
  refine wp_istore_n (M := mX11_laysRow) (pc := 1) (ls' := [.ref 82, .int x1, .int 0, .null]) dX11_laysRow_1 rfl (by decide) rfl ?_
  exact p1
theorem bX11_laysRow_2 {G : GC} {d : Nat} {sw : Bool} {f : FF} {Q : QQ} {x1 : Int32} {x2 : Int32} {v3 : Value} (p1 : (x1 ≤ x2) → Q none sw f) (p2 : (¬ x1 ≤ x2) → XP G mX11_laysRow (d + 1) 9 [.ref 82, .int x1, .int x2, .int x2] [] sw f Q) : XP G mX11_laysRow (d + 1) 2 [.ref 82, .int x1, .int x2, v3] [] sw f Q := by
  refine wp_iload_n (M := mX11_laysRow) (pc := 2) dX11_laysRow_2 rfl rfl ?_
  refine wp_iload_n (M := mX11_laysRow) (pc := 3) dX11_laysRow_3 rfl rfl ?_
  refine wp_icmp_ge (M := mX11_laysRow) (pc := 4) (t := 71) dX11_laysRow_4 (by decide) (fun c1 => ?_) (fun c1 => ?_)
  · exact xs_ret (M := mX11_laysRow) (pc := 71) dX11_laysRow_71 rfl (p1 c1)
  · refine wp_iload_n (M := mX11_laysRow) (pc := 7) dX11_laysRow_7 rfl rfl ?_
    refine wp_istore_n (M := mX11_laysRow) (pc := 8) (ls' := [.ref 82, .int x1, .int x2, .int x2]) dX11_laysRow_8 rfl (by decide) rfl ?_
    exact p2 c1
theorem bX11_laysRow_9 {G : GC} {d : Nat} {sw : Bool} {f : FF} {Q : QQ} {x1 : Int32} {x2 : Int32} {x3 : Int32} (p1 : (x3 ≤ 0) → vp_in x3 10) (p2 : (x3 ≤ 0) → XP G mX11_laysRow (d + 1) 2 [.ref 82, .int x1, .int (x2 + 1), .int x3] [] sw (upd2 f 106 x3.toNatClampNeg x2) Q) (p3 : (¬ x3 ≤ 0) → vp_in (x3 - 1) 10) (p4 : (¬ x3 ≤ 0) → vp_in (2 * (f 106 ((x3 - 1).toNatClampNeg))) 260) (p5 : (¬ x3 ≤ 0) → vp_in (2 * x2) 260) (p6 : (¬ x3 ≤ 0) → ((oct f (2 * (f 106 ((x3 - 1).toNatClampNeg)))) ≤ (oct f (2 * x2))) → vp_in x3 10) (p7 : (¬ x3 ≤ 0) → ((oct f (2 * (f 106 ((x3 - 1).toNatClampNeg)))) ≤ (oct f (2 * x2))) → XP G mX11_laysRow (d + 1) 2 [.ref 82, .int x1, .int (x2 + 1), .int x3] [] sw (upd2 f 106 x3.toNatClampNeg x2) Q) (p8 : (¬ x3 ≤ 0) → (¬ (oct f (2 * (f 106 ((x3 - 1).toNatClampNeg)))) ≤ (oct f (2 * x2))) → vp_in (x3 - 1) 10) (p9 : (¬ x3 ≤ 0) → (¬ (oct f (2 * (f 106 ((x3 - 1).toNatClampNeg)))) ≤ (oct f (2 * x2))) → vp_in x3 10) (p10 : (¬ x3 ≤ 0) → (¬ (oct f (2 * (f 106 ((x3 - 1).toNatClampNeg)))) ≤ (oct f (2 * x2))) → XP G mX11_laysRow (d + 1) 9 [.ref 82, .int x1, .int x2, .int (x3 - 1)] [] sw (upd2 f 106 x3.toNatClampNeg (f 106 ((x3 - 1).toNatClampNeg))) Q) : XP G mX11_laysRow (d + 1) 9 [.ref 82, .int x1, .int x2, .int x3] [] sw f Q := by
  refine wp_iload_n (M := mX11_laysRow) (pc := 9) dX11_laysRow_9 rfl rfl ?_
  refine wp_if_le (M := mX11_laysRow) (pc := 10) (t := 58) dX11_laysRow_10 (by decide) (fun c1 => ?_) (fun c1 => ?_)
  · refine wp_aload_n (M := mX11_laysRow) (pc := 58) dX11_laysRow_58 rfl rfl ?_
    refine xs_getr (M := mX11_laysRow) (pc := 59) (r := 106) dX11_laysRow_59 fX11_80 sh82 rfl (gr82_39 sw) ?_
    refine wp_iload_n (M := mX11_laysRow) (pc := 62) dX11_laysRow_62 rfl rfl ?_
    refine wp_iload_n (M := mX11_laysRow) (pc := 63) dX11_laysRow_63 rfl rfl ?_
    refine xs_iast (M := mX11_laysRow) (pc := 64) (j := x3.toNatClampNeg) dX11_laysRow_64 sh106 (p1 c1) rfl ?_
    refine wp_iinc (M := mX11_laysRow) (pc := 65) (v := x2 + 1) (ls' := [.ref 82, .int x1, .int (x2 + 1), .int x3]) dX11_laysRow_65 rfl (congrArg (fun z => _ + z) k_iconst_1) (by decide) rfl ?_
    refine wp_goto (M := mX11_laysRow) (pc := 68) (t := 2) dX11_laysRow_68 (by decide) ?_
    exact p2 c1
  · refine wp_aload_n (M := mX11_laysRow) (pc := 13) dX11_laysRow_13 rfl rfl ?_
    refine wp_iconst (M := mX11_laysRow) (pc := 14) dX11_laysRow_14 k_iconst_2 ?_
    refine wp_aload_n (M := mX11_laysRow) (pc := 15) dX11_laysRow_15 rfl rfl ?_
    refine xs_getr (M := mX11_laysRow) (pc := 16) (r := 106) dX11_laysRow_16 fX11_80 sh82 rfl (gr82_39 sw) ?_
    refine wp_iload_n (M := mX11_laysRow) (pc := 19) dX11_laysRow_19 rfl rfl ?_
    refine wp_iconst (M := mX11_laysRow) (pc := 20) dX11_laysRow_20 k_iconst_1 ?_
    refine wp_isub (M := mX11_laysRow) (pc := 21) dX11_laysRow_21 ?_
    refine xs_iald (M := mX11_laysRow) (pc := 22) (j := (x3 - 1).toNatClampNeg) dX11_laysRow_22 sh106 (p3 c1) rfl ?_
    refine wp_imul (M := mX11_laysRow) (pc := 23) dX11_laysRow_23 ?_
    refine xs_callV (d := d) (M := mX11_laysRow) (pc := 24) (As := [.int (2 * (f 106 ((x3 - 1).toNatClampNeg)))]) (st := []) (c := 11) (ls' := [.ref 82, .int (2 * (f 106 ((x3 - 1).toNatClampNeg)))]) dX11_laysRow_24 oX11_octet nX11_octet lX11_338 vX11_octet sX11_octet rfl sh82 (Nat.le_of_ble_eq_true rfl) rfl (Nat.le_of_ble_eq_true rfl) rfl ?_
    refine sp_X11_octet  (p4 c1) ?_
    refine wp_aload_n (M := mX11_laysRow) (pc := 27) dX11_laysRow_27 rfl rfl ?_
    refine wp_iconst (M := mX11_laysRow) (pc := 28) dX11_laysRow_28 k_iconst_2 ?_
    refine wp_iload_n (M := mX11_laysRow) (pc := 29) dX11_laysRow_29 rfl rfl ?_
    refine wp_imul (M := mX11_laysRow) (pc := 30) dX11_laysRow_30 ?_
    refine xs_callV (d := d) (M := mX11_laysRow) (pc := 31) (As := [.int (2 * x2)]) (st := [.int (oct f (2 * (f 106 ((x3 - 1).toNatClampNeg))))]) (c := 11) (ls' := [.ref 82, .int (2 * x2)]) dX11_laysRow_31 oX11_octet nX11_octet lX11_338 vX11_octet sX11_octet rfl sh82 (Nat.le_of_ble_eq_true rfl) rfl (Nat.le_of_ble_eq_true rfl) rfl ?_
    refine sp_X11_octet  (p5 c1) ?_
    refine wp_icmp_le (M := mX11_laysRow) (pc := 34) (t := 58) dX11_laysRow_34 (by decide) (fun c2 => ?_) (fun c2 => ?_)
    · refine wp_aload_n (M := mX11_laysRow) (pc := 58) dX11_laysRow_58 rfl rfl ?_
      refine xs_getr (M := mX11_laysRow) (pc := 59) (r := 106) dX11_laysRow_59 fX11_80 sh82 rfl (gr82_39 sw) ?_
      refine wp_iload_n (M := mX11_laysRow) (pc := 62) dX11_laysRow_62 rfl rfl ?_
      refine wp_iload_n (M := mX11_laysRow) (pc := 63) dX11_laysRow_63 rfl rfl ?_
      refine xs_iast (M := mX11_laysRow) (pc := 64) (j := x3.toNatClampNeg) dX11_laysRow_64 sh106 (p6 c1 c2) rfl ?_
      refine wp_iinc (M := mX11_laysRow) (pc := 65) (v := x2 + 1) (ls' := [.ref 82, .int x1, .int (x2 + 1), .int x3]) dX11_laysRow_65 rfl (congrArg (fun z => _ + z) k_iconst_1) (by decide) rfl ?_
      refine wp_goto (M := mX11_laysRow) (pc := 68) (t := 2) dX11_laysRow_68 (by decide) ?_
      exact p7 c1 c2
    · refine wp_aload_n (M := mX11_laysRow) (pc := 37) dX11_laysRow_37 rfl rfl ?_
      refine xs_getr (M := mX11_laysRow) (pc := 38) (r := 106) dX11_laysRow_38 fX11_80 sh82 rfl (gr82_39 sw) ?_
      refine wp_iload_n (M := mX11_laysRow) (pc := 41) dX11_laysRow_41 rfl rfl ?_
      refine wp_aload_n (M := mX11_laysRow) (pc := 42) dX11_laysRow_42 rfl rfl ?_
      refine xs_getr (M := mX11_laysRow) (pc := 43) (r := 106) dX11_laysRow_43 fX11_80 sh82 rfl (gr82_39 sw) ?_
      refine wp_iload_n (M := mX11_laysRow) (pc := 46) dX11_laysRow_46 rfl rfl ?_
      refine wp_iconst (M := mX11_laysRow) (pc := 47) dX11_laysRow_47 k_iconst_1 ?_
      refine wp_isub (M := mX11_laysRow) (pc := 48) dX11_laysRow_48 ?_
      refine xs_iald (M := mX11_laysRow) (pc := 49) (j := (x3 - 1).toNatClampNeg) dX11_laysRow_49 sh106 (p8 c1 c2) rfl ?_
      refine xs_iast (M := mX11_laysRow) (pc := 50) (j := x3.toNatClampNeg) dX11_laysRow_50 sh106 (p9 c1 c2) rfl ?_
      refine wp_iload_n (M := mX11_laysRow) (pc := 51) dX11_laysRow_51 rfl rfl ?_
      refine wp_iconst (M := mX11_laysRow) (pc := 52) dX11_laysRow_52 k_iconst_1 ?_
      refine wp_isub (M := mX11_laysRow) (pc := 53) dX11_laysRow_53 ?_
      refine wp_istore_n (M := mX11_laysRow) (pc := 54) (ls' := [.ref 82, .int x1, .int x2, .int (x3 - 1)]) dX11_laysRow_54 rfl (by decide) rfl ?_
      refine wp_goto (M := mX11_laysRow) (pc := 55) (t := 9) dX11_laysRow_55 (by decide) ?_
      exact p10 c1 c2
theorem bX11_areEnough_0 {G : GC} {d : Nat} {sw : Bool} {f : FF} {Q : QQ} {x1 : Int32} {x2 : Int32} {x3 : Int32} (p1 : XP G mX11_areEnough (d + 1) 3 [.ref 82, .int x1, .int x2, .int x3, .int 0, .null, .null, .null] [] sw f Q) : XP G mX11_areEnough (d + 1) 0 [.ref 82, .int x1, .int x2, .int x3, .null, .null, .null, .null] [] sw f Q := by
  refine wp_iconst (M := mX11_areEnough) (pc := 0) dX11_areEnough_0 k_iconst_0 ?_
  refine wp_istore (M := mX11_areEnough) (pc := 1) (ls' := [.ref 82, .int x1, .int x2, .int x3, .int 0, .null, .null, .null]) dX11_areEnough_1 (by decide) rfl ?_
  exact p1
theorem bX11_areEnough_3 {G : GC} {d : Nat} {sw : Bool} {f : FF} {Q : QQ} {x1 : Int32} {x2 : Int32} {x3 : Int32} {x4 : Int32} {v5 : Value} {v6 : Value} {v7 : Value} (p1 : (x2 ≤ x4) → XP G mX11_areEnough (d + 1) 26 [.ref 82, .int x1, .int x2, .int x3, .int 0, v5, v6, v7] [] sw f Q) (p2 : (¬ x2 ≤ x4) → vp_in x4 10) (p3 : (¬ x2 ≤ x4) → XP G mX11_areEnough (d + 1) 3 [.ref 82, .int x1, .int x2, .int x3, .int (x4 + 1), v5, v6, v7] [] sw (upd2 f 107 x4.toNatClampNeg 0) Q) : XP G mX11_areEnough (d + 1) 3 [.ref 82, .int x1, .int x2, .int x3, .int x4, v5, v6, v7] [] sw f Q := by
  refine wp_iload (M := mX11_areEnough) (pc := 3) dX11_areEnough_3 rfl ?_
  refine wp_iload_n (M := mX11_areEnough) (pc := 5) dX11_areEnough_5 rfl rfl ?_
  refine wp_icmp_ge (M := mX11_areEnough) (pc := 6) (t := 23) dX11_areEnough_6 (by decide) (fun c1 => ?_) (fun c1 => ?_)
  · refine wp_iconst (M := mX11_areEnough) (pc := 23) dX11_areEnough_23 k_iconst_0 ?_
    refine wp_istore (M := mX11_areEnough) (pc := 24) (ls' := [.ref 82, .int x1, .int x2, .int x3, .int 0, v5, v6, v7]) dX11_areEnough_24 (by decide) rfl ?_
    exact p1 c1
  · refine wp_aload_n (M := mX11_areEnough) (pc := 9) dX11_areEnough_9 rfl rfl ?_
    refine xs_getr (M := mX11_areEnough) (pc := 10) (r := 107) dX11_areEnough_10 fX11_83 sh82 rfl (gr82_40 sw) ?_
    refine wp_iload (M := mX11_areEnough) (pc := 13) dX11_areEnough_13 rfl ?_
    refine wp_iconst (M := mX11_areEnough) (pc := 15) dX11_areEnough_15 k_iconst_0 ?_
    refine xs_iast (M := mX11_areEnough) (pc := 16) (j := x4.toNatClampNeg) dX11_areEnough_16 sh107 (p2 c1) rfl ?_
    refine wp_iinc (M := mX11_areEnough) (pc := 17) (v := x4 + 1) (ls' := [.ref 82, .int x1, .int x2, .int x3, .int (x4 + 1), v5, v6, v7]) dX11_areEnough_17 rfl (congrArg (fun z => _ + z) k_iconst_1) (by decide) rfl ?_
    refine wp_goto (M := mX11_areEnough) (pc := 20) (t := 3) dX11_areEnough_20 (by decide) ?_
    exact p3 c1
theorem bX11_areEnough_26 {G : GC} {d : Nat} {sw : Bool} {f : FF} {Q : QQ} {x1 : Int32} {x2 : Int32} {x3 : Int32} {x4 : Int32} {v5 : Value} {v6 : Value} {v7 : Value} (p1 : (x1 ≤ x4) → Q (some (.int 1)) sw f) (p2 : (¬ x1 ≤ x4) → XP G mX11_areEnough (d + 1) 38 [.ref 82, .int x1, .int x2, .int x3, .int x4, .int 0, .int 1, v7] [] sw f Q) : XP G mX11_areEnough (d + 1) 26 [.ref 82, .int x1, .int x2, .int x3, .int x4, v5, v6, v7] [] sw f Q := by
  refine wp_iload (M := mX11_areEnough) (pc := 26) dX11_areEnough_26 rfl ?_
  refine wp_iload_n (M := mX11_areEnough) (pc := 28) dX11_areEnough_28 rfl rfl ?_
  refine wp_icmp_ge (M := mX11_areEnough) (pc := 29) (t := 142) dX11_areEnough_29 (by decide) (fun c1 => ?_) (fun c1 => ?_)
  · refine wp_iconst (M := mX11_areEnough) (pc := 142) dX11_areEnough_142 k_iconst_1 ?_
    exact xs_zret (M := mX11_areEnough) (pc := 143) dX11_areEnough_143 rfl (by decide) (p1 c1)
  · refine wp_iconst (M := mX11_areEnough) (pc := 32) dX11_areEnough_32 k_iconst_0 ?_
    refine wp_istore (M := mX11_areEnough) (pc := 33) (ls' := [.ref 82, .int x1, .int x2, .int x3, .int x4, .int 0, v6, v7]) dX11_areEnough_33 (by decide) rfl ?_
    refine wp_iconst (M := mX11_areEnough) (pc := 35) dX11_areEnough_35 k_iconst_1 ?_
    refine wp_istore (M := mX11_areEnough) (pc := 36) (ls' := [.ref 82, .int x1, .int x2, .int x3, .int x4, .int 0, .int 1, v7]) dX11_areEnough_36 (by decide) rfl ?_
    exact p2 c1
theorem bX11_areEnough_38 {G : GC} {d : Nat} {sw : Bool} {f : FF} {Q : QQ} {x1 : Int32} {x2 : Int32} {x3 : Int32} {x4 : Int32} {x5 : Int32} {x6 : Int32} {v7 : Value} (p1 : (x2 ≤ x6) → vp_in x4 10) (p2 : (x2 ≤ x6) → vp_in (2 * (f 106 x4.toNatClampNeg)) 260) (p3 : (x2 ≤ x6) → vp_in x5 10) (p4 : (x2 ≤ x6) → (((mxI (oct f (2 * (f 106 x4.toNatClampNeg))) (f 107 x5.toNatClampNeg)) - (oct f (2 * (f 106 x4.toNatClampNeg)))) ≤ x3) → vp_in x4 10) (p5 : (x2 ≤ x6) → (((mxI (oct f (2 * (f 106 x4.toNatClampNeg))) (f 107 x5.toNatClampNeg)) - (oct f (2 * (f 106 x4.toNatClampNeg)))) ≤ x3) → vp_in ((2 * (f 106 x4.toNatClampNeg)) + 1) 260) (p6 : (x2 ≤ x6) → (((mxI (oct f (2 * (f 106 x4.toNatClampNeg))) (f 107 x5.toNatClampNeg)) - (oct f (2 * (f 106 x4.toNatClampNeg)))) ≤ x3) → vp_in x5 10) (p7 : (x2 ≤ x6) → (((mxI (oct f (2 * (f 106 x4.toNatClampNeg))) (f 107 x5.toNatClampNeg)) - (oct f (2 * (f 106 x4.toNatClampNeg)))) ≤ x3) → XP G mX11_areEnough (d + 1) 26 [.ref 82, .int x1, .int x2, .int x3, .int (x4 + 1), .int x5, .int (oct f (2 * (f 106 x4.toNatClampNeg))), .int (mxI (oct f (2 * (f 106 x4.toNatClampNeg))) (f 107 x5.toNatClampNeg))] [] sw (upd2 f 107 x5.toNatClampNeg ((mxI (oct f (2 * (f 106 x4.toNatClampNeg))) (f 107 x5.toNatClampNeg)) + (oct f ((2 * (f 106 x4.toNatClampNeg)) + 1)))) Q) (p8 : (x2 ≤ x6) → (¬ ((mxI (oct f (2 * (f 106 x4.toNatClampNeg))) (f 107 x5.toNatClampNeg)) - (oct f (2 * (f 106 x4.toNatClampNeg)))) ≤ x3) → Q (some (.int 0)) sw f) (p9 : (¬ x2 ≤ x6) → vp_in x6 10) (p10 : (¬ x2 ≤ x6) → vp_in x5 10) (p11 : (¬ x2 ≤ x6) → ((f 107 x5.toNatClampNeg) ≤ (f 107 x6.toNatClampNeg)) → XP G mX11_areEnough (d + 1) 38 [.ref 82, .int x1, .int x2, .int x3, .int x4, .int x5, .int (x6 + 1), v7] [] sw f Q) (p12 : (¬ x2 ≤ x6) → (¬ (f 107 x5.toNatClampNeg) ≤ (f 107 x6.toNatClampNeg)) → XP G mX11_areEnough (d + 1) 38 [.ref 82, .int x1, .int x2, .int x3, .int x4, .int x6, .int (x6 + 1), v7] [] sw f Q) : XP G mX11_areEnough (d + 1) 38 [.ref 82, .int x1, .int x2, .int x3, .int x4, .int x5, .int x6, v7] [] sw f Q := by
  refine wp_iload (M := mX11_areEnough) (pc := 38) dX11_areEnough_38 rfl ?_
  refine wp_iload_n (M := mX11_areEnough) (pc := 40) dX11_areEnough_40 rfl rfl ?_
  refine wp_icmp_ge (M := mX11_areEnough) (pc := 41) (t := 71) dX11_areEnough_41 (by decide) (fun c1 => ?_) (fun c1 => ?_)
  · refine wp_aload_n (M := mX11_areEnough) (pc := 71) dX11_areEnough_71 rfl rfl ?_
    refine wp_iconst (M := mX11_areEnough) (pc := 72) dX11_areEnough_72 k_iconst_2 ?_
    refine wp_aload_n (M := mX11_areEnough) (pc := 73) dX11_areEnough_73 rfl rfl ?_
    refine xs_getr (M := mX11_areEnough) (pc := 74) (r := 106) dX11_areEnough_74 fX11_80 sh82 rfl (gr82_39 sw) ?_
    refine wp_iload (M := mX11_areEnough) (pc := 77) dX11_areEnough_77 rfl ?_
    refine xs_iald (M := mX11_areEnough) (pc := 79) (j := x4.toNatClampNeg) dX11_areEnough_79 sh106 (p1 c1) rfl ?_
    refine wp_imul (M := mX11_areEnough) (pc := 80) dX11_areEnough_80 ?_
    refine xs_callV (d := d) (M := mX11_areEnough) (pc := 81) (As := [.int (2 * (f 106 x4.toNatClampNeg))]) (st := []) (c := 11) (ls' := [.ref 82, .int (2 * (f 106 x4.toNatClampNeg))]) dX11_areEnough_81 oX11_octet nX11_octet lX11_338 vX11_octet sX11_octet rfl sh82 (Nat.le_of_ble_eq_true rfl) rfl (Nat.le_of_ble_eq_true rfl) rfl ?_
    refine sp_X11_octet  (p2 c1) ?_
    refine wp_istore (M := mX11_areEnough) (pc := 84) (ls' := [.ref 82, .int x1, .int x2, .int x3, .int x4, .int x5, .int (oct f (2 * (f 106 x4.toNatClampNeg))), v7]) dX11_areEnough_84 (by decide) rfl ?_
    refine wp_iload (M := mX11_areEnough) (pc := 86) dX11_areEnough_86 rfl ?_
    refine wp_aload_n (M := mX11_areEnough) (pc := 88) dX11_areEnough_88 rfl rfl ?_
    refine xs_getr (M := mX11_areEnough) (pc := 89) (r := 107) dX11_areEnough_89 fX11_83 sh82 rfl (gr82_40 sw) ?_
    refine wp_iload (M := mX11_areEnough) (pc := 92) dX11_areEnough_92 rfl ?_
    refine xs_iald (M := mX11_areEnough) (pc := 94) (j := x5.toNatClampNeg) dX11_areEnough_94 sh107 (p3 c1) rfl ?_
    refine xs_callS (d := d) (M := mX11_areEnough) (pc := 95) (As := [.int (oct f (2 * (f 106 x4.toNatClampNeg))), .int (f 107 x5.toNatClampNeg)]) (st := []) (ls' := [.int (oct f (2 * (f 106 x4.toNatClampNeg))), .int (f 107 x5.toNatClampNeg)]) dX11_areEnough_95 oX11_max nX11_max lX11_136 tX11_max (Nat.le_of_ble_eq_true rfl) rfl (Nat.le_of_ble_eq_true rfl) rfl ?_
    refine sp_X11_max   ?_
    refine wp_istore (M := mX11_areEnough) (pc := 98) (ls' := [.ref 82, .int x1, .int x2, .int x3, .int x4, .int x5, .int (oct f (2 * (f 106 x4.toNatClampNeg))), .int (mxI (oct f (2 * (f 106 x4.toNatClampNeg))) (f 107 x5.toNatClampNeg))]) dX11_areEnough_98 (by decide) rfl ?_
    refine wp_iload (M := mX11_areEnough) (pc := 100) dX11_areEnough_100 rfl ?_
    refine wp_iload (M := mX11_areEnough) (pc := 102) dX11_areEnough_102 rfl ?_
    refine wp_isub (M := mX11_areEnough) (pc := 104) dX11_areEnough_104 ?_
    refine wp_iload_n (M := mX11_areEnough) (pc := 105) dX11_areEnough_105 rfl rfl ?_
    refine wp_icmp_le (M := mX11_areEnough) (pc := 106) (t := 111) dX11_areEnough_106 (by decide) (fun c2 => ?_) (fun c2 => ?_)
    · refine wp_aload_n (M := mX11_areEnough) (pc := 111) dX11_areEnough_111 rfl rfl ?_
      refine xs_getr (M := mX11_areEnough) (pc := 112) (r := 107) dX11_areEnough_112 fX11_83 sh82 rfl (gr82_40 sw) ?_
      refine wp_iload (M := mX11_areEnough) (pc := 115) dX11_areEnough_115 rfl ?_
      refine wp_iload (M := mX11_areEnough) (pc := 117) dX11_areEnough_117 rfl ?_
      refine wp_aload_n (M := mX11_areEnough) (pc := 119) dX11_areEnough_119 rfl rfl ?_
      refine wp_iconst (M := mX11_areEnough) (pc := 120) dX11_areEnough_120 k_iconst_2 ?_
      refine wp_aload_n (M := mX11_areEnough) (pc := 121) dX11_areEnough_121 rfl rfl ?_
      refine xs_getr (M := mX11_areEnough) (pc := 122) (r := 106) dX11_areEnough_122 fX11_80 sh82 rfl (gr82_39 sw) ?_
      refine wp_iload (M := mX11_areEnough) (pc := 125) dX11_areEnough_125 rfl ?_
      refine xs_iald (M := mX11_areEnough) (pc := 127) (j := x4.toNatClampNeg) dX11_areEnough_127 sh106 (p4 c1 c2) rfl ?_
      refine wp_imul (M := mX11_areEnough) (pc := 128) dX11_areEnough_128 ?_
      refine wp_iconst (M := mX11_areEnough) (pc := 129) dX11_areEnough_129 k_iconst_1 ?_
      refine wp_iadd (M := mX11_areEnough) (pc := 130) dX11_areEnough_130 ?_
      refine xs_callV (d := d) (M := mX11_areEnough) (pc := 131) (As := [.int ((2 * (f 106 x4.toNatClampNeg)) + 1)]) (st := [.int (mxI (oct f (2 * (f 106 x4.toNatClampNeg))) (f 107 x5.toNatClampNeg)), .int x5, .ref 107]) (c := 11) (ls' := [.ref 82, .int ((2 * (f 106 x4.toNatClampNeg)) + 1)]) dX11_areEnough_131 oX11_octet nX11_octet lX11_338 vX11_octet sX11_octet rfl sh82 (Nat.le_of_ble_eq_true rfl) rfl (Nat.le_of_ble_eq_true rfl) rfl ?_
      refine sp_X11_octet  (p5 c1 c2) ?_
      refine wp_iadd (M := mX11_areEnough) (pc := 134) dX11_areEnough_134 ?_
      refine xs_iast (M := mX11_areEnough) (pc := 135) (j := x5.toNatClampNeg) dX11_areEnough_135 sh107 (p6 c1 c2) rfl ?_
      refine wp_iinc (M := mX11_areEnough) (pc := 136) (v := x4 + 1) (ls' := [.ref 82, .int x1, .int x2, .int x3, .int (x4 + 1), .int x5, .int (oct f (2 * (f 106 x4.toNatClampNeg))), .int (mxI (oct f (2 * (f 106 x4.toNatClampNeg))) (f 107 x5.toNatClampNeg))]) dX11_areEnough_136 rfl (congrArg (fun z => _ + z) k_iconst_1) (by decide) rfl ?_
      refine wp_goto (M := mX11_areEnough) (pc := 139) (t := 26) dX11_areEnough_139 (by decide) ?_
      exact p7 c1 c2
    · refine wp_iconst (M := mX11_areEnough) (pc := 109) dX11_areEnough_109 k_iconst_0 ?_
      exact xs_zret (M := mX11_areEnough) (pc := 110) dX11_areEnough_110 rfl (by decide) (p8 c1 c2)
  · refine wp_aload_n (M := mX11_areEnough) (pc := 44) dX11_areEnough_44 rfl rfl ?_
    refine xs_getr (M := mX11_areEnough) (pc := 45) (r := 107) dX11_areEnough_45 fX11_83 sh82 rfl (gr82_40 sw) ?_
    refine wp_iload (M := mX11_areEnough) (pc := 48) dX11_areEnough_48 rfl ?_
    refine xs_iald (M := mX11_areEnough) (pc := 50) (j := x6.toNatClampNeg) dX11_areEnough_50 sh107 (p9 c1) rfl ?_
    refine wp_aload_n (M := mX11_areEnough) (pc := 51) dX11_areEnough_51 rfl rfl ?_
    refine xs_getr (M := mX11_areEnough) (pc := 52) (r := 107) dX11_areEnough_52 fX11_83 sh82 rfl (gr82_40 sw) ?_
    refine wp_iload (M := mX11_areEnough) (pc := 55) dX11_areEnough_55 rfl ?_
    refine xs_iald (M := mX11_areEnough) (pc := 57) (j := x5.toNatClampNeg) dX11_areEnough_57 sh107 (p10 c1) rfl ?_
    refine wp_icmp_ge (M := mX11_areEnough) (pc := 58) (t := 65) dX11_areEnough_58 (by decide) (fun c3 => ?_) (fun c3 => ?_)
    · refine wp_iinc (M := mX11_areEnough) (pc := 65) (v := x6 + 1) (ls' := [.ref 82, .int x1, .int x2, .int x3, .int x4, .int x5, .int (x6 + 1), v7]) dX11_areEnough_65 rfl (congrArg (fun z => _ + z) k_iconst_1) (by decide) rfl ?_
      refine wp_goto (M := mX11_areEnough) (pc := 68) (t := 38) dX11_areEnough_68 (by decide) ?_
      exact p11 c1 c3
    · refine wp_iload (M := mX11_areEnough) (pc := 61) dX11_areEnough_61 rfl ?_
      refine wp_istore (M := mX11_areEnough) (pc := 63) (ls' := [.ref 82, .int x1, .int x2, .int x3, .int x4, .int x6, .int x6, v7]) dX11_areEnough_63 (by decide) rfl ?_
      refine wp_iinc (M := mX11_areEnough) (pc := 65) (v := x6 + 1) (ls' := [.ref 82, .int x1, .int x2, .int x3, .int x4, .int x6, .int (x6 + 1), v7]) dX11_areEnough_65 rfl (congrArg (fun z => _ + z) k_iconst_1) (by decide) rfl ?_
      refine wp_goto (M := mX11_areEnough) (pc := 68) (t := 38) dX11_areEnough_68 (by decide) ?_
      exact p12 c1 c3
theorem bX11_atOnceIn_0 {G : GC} {d : Nat} {sw : Bool} {f : FF} {Q : QQ} {x1 : Int32} {x2 : Int32} (p1 : XP G mX11_atOnceIn (d + 1) 5 [.ref 82, .int x1, .int x2, .int 0, .int 0] [] sw f Q) : XP G mX11_atOnceIn (d + 1) 0 [.ref 82, .int x1, .int x2, .null, .null] [] sw f Q := by
  refine wp_iconst (M := mX11_atOnceIn) (pc := 0) dX11_atOnceIn_0 k_iconst_0 ?_
  refine wp_istore_n (M := mX11_atOnceIn) (pc := 1) (ls' := [.ref 82, .int x1, .int x2, .int 0, .null]) dX11_atOnceIn_1 rfl (by decide) rfl ?_
  refine wp_iconst (M := mX11_atOnceIn) (pc := 2) dX11_atOnceIn_2 k_iconst_0 ?_
  refine wp_istore (M := mX11_atOnceIn) (pc := 3) (ls' := [.ref 82, .int x1, .int x2, .int 0, .int 0]) dX11_atOnceIn_3 (by decide) rfl ?_
  exact p1
theorem bX11_atOnceIn_5 {G : GC} {d : Nat} {sw : Bool} {f : FF} {Q : QQ} {x1 : Int32} {x2 : Int32} {x3 : Int32} {x4 : Int32} (p1 : (x1 ≤ x4) → Q (some (.int x3)) sw f) (p2 : (¬ x1 ≤ x4) → vp_in (2 * x4) 260) (p3 : (¬ x1 ≤ x4) → (x2 < (oct f (2 * x4))) → XP G mX11_atOnceIn (d + 1) 5 [.ref 82, .int x1, .int x2, .int x3, .int (x4 + 1)] [] sw f Q) (p4 : (¬ x1 ≤ x4) → (¬ x2 < (oct f (2 * x4))) → vp_in (2 * x4) 260) (p5 : (¬ x1 ≤ x4) → (¬ x2 < (oct f (2 * x4))) → vp_in ((2 * x4) + 1) 260) (p6 : (¬ x1 ≤ x4) → (¬ x2 < (oct f (2 * x4))) → (((oct f (2 * x4)) + (oct f ((2 * x4) + 1))) ≤ x2) → XP G mX11_atOnceIn (d + 1) 5 [.ref 82, .int x1, .int x2, .int x3, .int (x4 + 1)] [] sw f Q) (p7 : (¬ x1 ≤ x4) → (¬ x2 < (oct f (2 * x4))) → (¬ ((oct f (2 * x4)) + (oct f ((2 * x4) + 1))) ≤ x2) → XP G mX11_atOnceIn (d + 1) 5 [.ref 82, .int x1, .int x2, .int (x3 + 1), .int (x4 + 1)] [] sw f Q) : XP G mX11_atOnceIn (d + 1) 5 [.ref 82, .int x1, .int x2, .int x3, .int x4] [] sw f Q := by
  refine wp_iload (M := mX11_atOnceIn) (pc := 5) dX11_atOnceIn_5 rfl ?_
  refine wp_iload_n (M := mX11_atOnceIn) (pc := 7) dX11_atOnceIn_7 rfl rfl ?_
  refine wp_icmp_ge (M := mX11_atOnceIn) (pc := 8) (t := 56) dX11_atOnceIn_8 (by decide) (fun c1 => ?_) (fun c1 => ?_)
  · refine wp_iload_n (M := mX11_atOnceIn) (pc := 56) dX11_atOnceIn_56 rfl rfl ?_
    exact xs_iret (M := mX11_atOnceIn) (pc := 57) dX11_atOnceIn_57 rfl (p1 c1)
  · refine wp_aload_n (M := mX11_atOnceIn) (pc := 11) dX11_atOnceIn_11 rfl rfl ?_
    refine wp_iconst (M := mX11_atOnceIn) (pc := 12) dX11_atOnceIn_12 k_iconst_2 ?_
    refine wp_iload (M := mX11_atOnceIn) (pc := 13) dX11_atOnceIn_13 rfl ?_
    refine wp_imul (M := mX11_atOnceIn) (pc := 15) dX11_atOnceIn_15 ?_
    refine xs_callV (d := d) (M := mX11_atOnceIn) (pc := 16) (As := [.int (2 * x4)]) (st := []) (c := 11) (ls' := [.ref 82, .int (2 * x4)]) dX11_atOnceIn_16 oX11_octet nX11_octet lX11_338 vX11_octet sX11_octet rfl sh82 (Nat.le_of_ble_eq_true rfl) rfl (Nat.le_of_ble_eq_true rfl) rfl ?_
    refine sp_X11_octet  (p2 c1) ?_
    refine wp_iload_n (M := mX11_atOnceIn) (pc := 19) dX11_atOnceIn_19 rfl rfl ?_
    refine wp_icmp_gt (M := mX11_atOnceIn) (pc := 20) (t := 50) dX11_atOnceIn_20 (by decide) (fun c2 => ?_) (fun c2 => ?_)
    · refine wp_iinc (M := mX11_atOnceIn) (pc := 50) (v := x4 + 1) (ls' := [.ref 82, .int x1, .int x2, .int x3, .int (x4 + 1)]) dX11_atOnceIn_50 rfl (congrArg (fun z => _ + z) k_iconst_1) (by decide) rfl ?_
      refine wp_goto (M := mX11_atOnceIn) (pc := 53) (t := 5) dX11_atOnceIn_53 (by decide) ?_
      exact p3 c1 c2
    · refine wp_iload_n (M := mX11_atOnceIn) (pc := 23) dX11_atOnceIn_23 rfl rfl ?_
      refine wp_aload_n (M := mX11_atOnceIn) (pc := 24) dX11_atOnceIn_24 rfl rfl ?_
      refine wp_iconst (M := mX11_atOnceIn) (pc := 25) dX11_atOnceIn_25 k_iconst_2 ?_
      refine wp_iload (M := mX11_atOnceIn) (pc := 26) dX11_atOnceIn_26 rfl ?_
      refine wp_imul (M := mX11_atOnceIn) (pc := 28) dX11_atOnceIn_28 ?_
      refine xs_callV (d := d) (M := mX11_atOnceIn) (pc := 29) (As := [.int (2 * x4)]) (st := [.int x2]) (c := 11) (ls' := [.ref 82, .int (2 * x4)]) dX11_atOnceIn_29 oX11_octet nX11_octet lX11_338 vX11_octet sX11_octet rfl sh82 (Nat.le_of_ble_eq_true rfl) rfl (Nat.le_of_ble_eq_true rfl) rfl ?_
      refine sp_X11_octet  (p4 c1 c2) ?_
      refine wp_aload_n (M := mX11_atOnceIn) (pc := 32) dX11_atOnceIn_32 rfl rfl ?_
      refine wp_iconst (M := mX11_atOnceIn) (pc := 33) dX11_atOnceIn_33 k_iconst_2 ?_
      refine wp_iload (M := mX11_atOnceIn) (pc := 34) dX11_atOnceIn_34 rfl ?_
      refine wp_imul (M := mX11_atOnceIn) (pc := 36) dX11_atOnceIn_36 ?_
      refine wp_iconst (M := mX11_atOnceIn) (pc := 37) dX11_atOnceIn_37 k_iconst_1 ?_
      refine wp_iadd (M := mX11_atOnceIn) (pc := 38) dX11_atOnceIn_38 ?_
      refine xs_callV (d := d) (M := mX11_atOnceIn) (pc := 39) (As := [.int ((2 * x4) + 1)]) (st := [.int (oct f (2 * x4)), .int x2]) (c := 11) (ls' := [.ref 82, .int ((2 * x4) + 1)]) dX11_atOnceIn_39 oX11_octet nX11_octet lX11_338 vX11_octet sX11_octet rfl sh82 (Nat.le_of_ble_eq_true rfl) rfl (Nat.le_of_ble_eq_true rfl) rfl ?_
      refine sp_X11_octet  (p5 c1 c2) ?_
      refine wp_iadd (M := mX11_atOnceIn) (pc := 42) dX11_atOnceIn_42 ?_
      refine wp_icmp_ge (M := mX11_atOnceIn) (pc := 43) (t := 50) dX11_atOnceIn_43 (by decide) (fun c3 => ?_) (fun c3 => ?_)
      · refine wp_iinc (M := mX11_atOnceIn) (pc := 50) (v := x4 + 1) (ls' := [.ref 82, .int x1, .int x2, .int x3, .int (x4 + 1)]) dX11_atOnceIn_50 rfl (congrArg (fun z => _ + z) k_iconst_1) (by decide) rfl ?_
        refine wp_goto (M := mX11_atOnceIn) (pc := 53) (t := 5) dX11_atOnceIn_53 (by decide) ?_
        exact p6 c1 c2 c3
      · refine wp_iload_n (M := mX11_atOnceIn) (pc := 46) dX11_atOnceIn_46 rfl rfl ?_
        refine wp_iconst (M := mX11_atOnceIn) (pc := 47) dX11_atOnceIn_47 k_iconst_1 ?_
        refine wp_iadd (M := mX11_atOnceIn) (pc := 48) dX11_atOnceIn_48 ?_
        refine wp_istore_n (M := mX11_atOnceIn) (pc := 49) (ls' := [.ref 82, .int x1, .int x2, .int (x3 + 1), .int x4]) dX11_atOnceIn_49 rfl (by decide) rfl ?_
        refine wp_iinc (M := mX11_atOnceIn) (pc := 50) (v := x4 + 1) (ls' := [.ref 82, .int x1, .int x2, .int (x3 + 1), .int (x4 + 1)]) dX11_atOnceIn_50 rfl (congrArg (fun z => _ + z) k_iconst_1) (by decide) rfl ?_
        refine wp_goto (M := mX11_atOnceIn) (pc := 53) (t := 5) dX11_atOnceIn_53 (by decide) ?_
        exact p7 c1 c2 c3
theorem bX11_cheapest_0 {G : GC} {d : Nat} {sw : Bool} {f : FF} {Q : QQ} {x1 : Int32} {x2 : Int32} {x3 : Int32} (p1 : (¬ (1 ≤ x1 ∧ x1 ≤ 5)) → Q (some (.int (-1))) sw f) (p2 : (1 ≤ x1 ∧ x1 ≤ 5) → (¬ (1 ≤ x2 ∧ x2 ≤ 240)) → Q (some (.int (-1))) sw f) (p3 : (1 ≤ x1 ∧ x1 ≤ 5) → (1 ≤ x2 ∧ x2 ≤ 240) → (0 ≤ x3 ∧ x3 ≤ (x1 - 1)) → ((2 * x1) ≤ (f 82 10)) → XP G mX11_cheapest (d + 3) 57 [.ref 82, .int x1, .int x2, .int x3, .int 0, .null] [] sw (upd2 f 82 10 0) Q) (p4 : (1 ≤ x1 ∧ x1 ≤ 5) → (1 ≤ x2 ∧ x2 ≤ 240) → (0 ≤ x3 ∧ x3 ≤ (x1 - 1)) → (¬ (2 * x1) ≤ (f 82 10)) → Q (some (.int (-1))) sw f) (p5 : (1 ≤ x1 ∧ x1 ≤ 5) → (1 ≤ x2 ∧ x2 ≤ 240) → (¬ (0 ≤ x3 ∧ x3 ≤ (x1 - 1))) → (¬ x3 = 100) → Q (some (.int (-1))) sw f) (p6 : (1 ≤ x1 ∧ x1 ≤ 5) → (1 ≤ x2 ∧ x2 ≤ 240) → (¬ (0 ≤ x3 ∧ x3 ≤ (x1 - 1))) → (x3 = 100) → ((2 * x1) ≤ (f 82 10)) → XP G mX11_cheapest (d + 3) 57 [.ref 82, .int x1, .int x2, .int x3, .int 0, .null] [] sw (upd2 f 82 10 0) Q) (p7 : (1 ≤ x1 ∧ x1 ≤ 5) → (1 ≤ x2 ∧ x2 ≤ 240) → (¬ (0 ≤ x3 ∧ x3 ≤ (x1 - 1))) → (x3 = 100) → (¬ (2 * x1) ≤ (f 82 10)) → Q (some (.int (-1))) sw f) : XP G mX11_cheapest (d + 3) 0 [.ref 82, .int x1, .int x2, .int x3, .null, .null] [] sw f Q := by
  refine wp_iload_n (M := mX11_cheapest) (pc := 0) dX11_cheapest_0 rfl rfl ?_
  refine wp_iconst (M := mX11_cheapest) (pc := 1) dX11_cheapest_1 k_iconst_1 ?_
  refine wp_iconst (M := mX11_cheapest) (pc := 2) dX11_cheapest_2 k_iconst_5 ?_
  refine xs_callS (d := d + 2) (M := mX11_cheapest) (pc := 3) (As := [.int x1, .int 1, .int 5]) (st := []) (ls' := [.int x1, .int 1, .int 5]) dX11_cheapest_3 oX11_in nX11_in lX11_111 tX11_in (Nat.le_of_ble_eq_true rfl) rfl (Nat.le_of_ble_eq_true rfl) rfl ?_
  refine sp_X11_in   ?_
  refine xs_ifb_eq (M := mX11_cheapest) (pc := 6) (t := 47) dX11_cheapest_6 (by decide) (fun c1 => ?_) (fun c1 => ?_)
  · refine wp_iconst (M := mX11_cheapest) (pc := 47) dX11_cheapest_47 k_iconst_m1 ?_
    exact xs_iret (M := mX11_cheapest) (pc := 48) dX11_cheapest_48 rfl (p1 c1)
  · refine wp_iload_n (M := mX11_cheapest) (pc := 9) dX11_cheapest_9 rfl rfl ?_
    refine wp_iconst (M := mX11_cheapest) (pc := 10) dX11_cheapest_10 k_iconst_1 ?_
    refine wp_sipush (M := mX11_cheapest) (pc := 11) dX11_cheapest_11 k_sipush_240 ?_
    refine xs_callS (d := d + 2) (M := mX11_cheapest) (pc := 14) (As := [.int x2, .int 1, .int 240]) (st := []) (ls' := [.int x2, .int 1, .int 240]) dX11_cheapest_14 oX11_in nX11_in lX11_111 tX11_in (Nat.le_of_ble_eq_true rfl) rfl (Nat.le_of_ble_eq_true rfl) rfl ?_
    refine sp_X11_in   ?_
    refine xs_ifb_eq (M := mX11_cheapest) (pc := 17) (t := 47) dX11_cheapest_17 (by decide) (fun c2 => ?_) (fun c2 => ?_)
    · refine wp_iconst (M := mX11_cheapest) (pc := 47) dX11_cheapest_47 k_iconst_m1 ?_
      exact xs_iret (M := mX11_cheapest) (pc := 48) dX11_cheapest_48 rfl (p2 c1 c2)
    · refine wp_iload_n (M := mX11_cheapest) (pc := 20) dX11_cheapest_20 rfl rfl ?_
      refine wp_iconst (M := mX11_cheapest) (pc := 21) dX11_cheapest_21 k_iconst_0 ?_
      refine wp_iload_n (M := mX11_cheapest) (pc := 22) dX11_cheapest_22 rfl rfl ?_
      refine wp_iconst (M := mX11_cheapest) (pc := 23) dX11_cheapest_23 k_iconst_1 ?_
      refine wp_isub (M := mX11_cheapest) (pc := 24) dX11_cheapest_24 ?_
      refine xs_callS (d := d + 2) (M := mX11_cheapest) (pc := 25) (As := [.int x3, .int 0, .int (x1 - 1)]) (st := []) (ls' := [.int x3, .int 0, .int (x1 - 1)]) dX11_cheapest_25 oX11_in nX11_in lX11_111 tX11_in (Nat.le_of_ble_eq_true rfl) rfl (Nat.le_of_ble_eq_true rfl) rfl ?_
      refine sp_X11_in   ?_
      refine xs_ifb_ne (M := mX11_cheapest) (pc := 28) (t := 37) dX11_cheapest_28 (by decide) (fun c3 => ?_) (fun c3 => ?_)
      · refine wp_iconst (M := mX11_cheapest) (pc := 37) dX11_cheapest_37 k_iconst_2 ?_
        refine wp_iload_n (M := mX11_cheapest) (pc := 38) dX11_cheapest_38 rfl rfl ?_
        refine wp_imul (M := mX11_cheapest) (pc := 39) dX11_cheapest_39 ?_
        refine wp_aload_n (M := mX11_cheapest) (pc := 40) dX11_cheapest_40 rfl rfl ?_
        refine xs_geti (M := mX11_cheapest) (pc := 41) dX11_cheapest_41 fX11_146 sh82 rfl ?_
        refine wp_icmp_le (M := mX11_cheapest) (pc := 44) (t := 49) dX11_cheapest_44 (by decide) (fun c4 => ?_) (fun c4 => ?_)
        · refine wp_aload_n (M := mX11_cheapest) (pc := 49) dX11_cheapest_49 rfl rfl ?_
          refine wp_iconst (M := mX11_cheapest) (pc := 50) dX11_cheapest_50 k_iconst_0 ?_
          refine xs_puti (M := mX11_cheapest) (pc := 51) dX11_cheapest_51 pX11_146 sh82 rfl ?_
          refine wp_iconst (M := mX11_cheapest) (pc := 54) dX11_cheapest_54 k_iconst_0 ?_
          refine wp_istore (M := mX11_cheapest) (pc := 55) (ls' := [.ref 82, .int x1, .int x2, .int x3, .int 0, .null]) dX11_cheapest_55 (by decide) rfl ?_
          exact p3 c1 c2 c3 c4
        · refine wp_iconst (M := mX11_cheapest) (pc := 47) dX11_cheapest_47 k_iconst_m1 ?_
          exact xs_iret (M := mX11_cheapest) (pc := 48) dX11_cheapest_48 rfl (p4 c1 c2 c3 c4)
      · refine wp_iload_n (M := mX11_cheapest) (pc := 31) dX11_cheapest_31 rfl rfl ?_
        refine wp_bipush (M := mX11_cheapest) (pc := 32) dX11_cheapest_32 k_bipush_100 ?_
        refine wp_icmp_ne (M := mX11_cheapest) (pc := 34) (t := 47) dX11_cheapest_34 (by decide) (fun c5 => ?_) (fun c5 => ?_)
        · refine wp_iconst (M := mX11_cheapest) (pc := 47) dX11_cheapest_47 k_iconst_m1 ?_
          exact xs_iret (M := mX11_cheapest) (pc := 48) dX11_cheapest_48 rfl (p5 c1 c2 c3 c5)
        · refine wp_iconst (M := mX11_cheapest) (pc := 37) dX11_cheapest_37 k_iconst_2 ?_
          refine wp_iload_n (M := mX11_cheapest) (pc := 38) dX11_cheapest_38 rfl rfl ?_
          refine wp_imul (M := mX11_cheapest) (pc := 39) dX11_cheapest_39 ?_
          refine wp_aload_n (M := mX11_cheapest) (pc := 40) dX11_cheapest_40 rfl rfl ?_
          refine xs_geti (M := mX11_cheapest) (pc := 41) dX11_cheapest_41 fX11_146 sh82 rfl ?_
          refine wp_icmp_le (M := mX11_cheapest) (pc := 44) (t := 49) dX11_cheapest_44 (by decide) (fun c6 => ?_) (fun c6 => ?_)
          · refine wp_aload_n (M := mX11_cheapest) (pc := 49) dX11_cheapest_49 rfl rfl ?_
            refine wp_iconst (M := mX11_cheapest) (pc := 50) dX11_cheapest_50 k_iconst_0 ?_
            refine xs_puti (M := mX11_cheapest) (pc := 51) dX11_cheapest_51 pX11_146 sh82 rfl ?_
            refine wp_iconst (M := mX11_cheapest) (pc := 54) dX11_cheapest_54 k_iconst_0 ?_
            refine wp_istore (M := mX11_cheapest) (pc := 55) (ls' := [.ref 82, .int x1, .int x2, .int x3, .int 0, .null]) dX11_cheapest_55 (by decide) rfl ?_
            exact p6 c1 c2 c3 c5 c6
          · refine wp_iconst (M := mX11_cheapest) (pc := 47) dX11_cheapest_47 k_iconst_m1 ?_
            exact xs_iret (M := mX11_cheapest) (pc := 48) dX11_cheapest_48 rfl (p7 c1 c2 c3 c5 c6)
theorem bX11_cheapest_57 {G : GC} {d : Nat} {sw : Bool} {f : FF} {Q : QQ} {x1 : Int32} {x2 : Int32} {x3 : Int32} {x4 : Int32} {v5 : Value} (p1 : (x1 ≤ x4) → XP G mX11_cheapest (d + 3) 112 [.ref 82, .int x1, .int x2, .int x3, .int 1, v5] [] sw (upd2 f 108 0 0) Q) (p2 : (¬ x1 ≤ x4) → vp_in (2 * x4) 260) (p3 : (¬ x1 ≤ x4) → (¬ (1 ≤ (oct f (2 * x4)) ∧ (oct f (2 * x4)) ≤ 60)) → Q (some (.int (-2))) sw f) (p4 : (¬ x1 ≤ x4) → (1 ≤ (oct f (2 * x4)) ∧ (oct f (2 * x4)) ≤ 60) → vp_in ((2 * x4) + 1) 260) (p5 : (¬ x1 ≤ x4) → (1 ≤ (oct f (2 * x4)) ∧ (oct f (2 * x4)) ≤ 60) → (¬ (oct f ((2 * x4) + 1)) = 0) → XP G mX11_cheapest (d + 3) 57 [.ref 82, .int x1, .int x2, .int x3, .int (x4 + 1), v5] [] sw f Q) (p6 : (¬ x1 ≤ x4) → (1 ≤ (oct f (2 * x4)) ∧ (oct f (2 * x4)) ≤ 60) → ((oct f ((2 * x4) + 1)) = 0) → Q (some (.int (-2))) sw f) : XP G mX11_cheapest (d + 3) 57 [.ref 82, .int x1, .int x2, .int x3, .int x4, v5] [] sw f Q := by
  refine wp_iload (M := mX11_cheapest) (pc := 57) dX11_cheapest_57 rfl ?_
  refine wp_iload_n (M := mX11_cheapest) (pc := 59) dX11_cheapest_59 rfl rfl ?_
  refine wp_icmp_ge (M := mX11_cheapest) (pc := 60) (t := 102) dX11_cheapest_60 (by decide) (fun c1 => ?_) (fun c1 => ?_)
  · refine wp_aload_n (M := mX11_cheapest) (pc := 102) dX11_cheapest_102 rfl rfl ?_
    refine xs_getr (M := mX11_cheapest) (pc := 103) (r := 108) dX11_cheapest_103 fX11_86 sh82 rfl (gr82_41 sw) ?_
    refine wp_iconst (M := mX11_cheapest) (pc := 106) dX11_cheapest_106 k_iconst_0 ?_
    refine wp_iconst (M := mX11_cheapest) (pc := 107) dX11_cheapest_107 k_iconst_0 ?_
    refine xs_iast (M := mX11_cheapest) (pc := 108) (j := 0) dX11_cheapest_108 sh108 (vin (by decide)) rfl ?_
    refine wp_iconst (M := mX11_cheapest) (pc := 109) dX11_cheapest_109 k_iconst_1 ?_
    refine wp_istore (M := mX11_cheapest) (pc := 110) (ls' := [.ref 82, .int x1, .int x2, .int x3, .int 1, v5]) dX11_cheapest_110 (by decide) rfl ?_
    exact p1 c1
  · refine wp_aload_n (M := mX11_cheapest) (pc := 63) dX11_cheapest_63 rfl rfl ?_
    refine wp_iconst (M := mX11_cheapest) (pc := 64) dX11_cheapest_64 k_iconst_2 ?_
    refine wp_iload (M := mX11_cheapest) (pc := 65) dX11_cheapest_65 rfl ?_
    refine wp_imul (M := mX11_cheapest) (pc := 67) dX11_cheapest_67 ?_
    refine xs_callV (d := d + 2) (M := mX11_cheapest) (pc := 68) (As := [.int (2 * x4)]) (st := []) (c := 11) (ls' := [.ref 82, .int (2 * x4)]) dX11_cheapest_68 oX11_octet nX11_octet lX11_338 vX11_octet sX11_octet rfl sh82 (Nat.le_of_ble_eq_true rfl) rfl (Nat.le_of_ble_eq_true rfl) rfl ?_
    refine sp_X11_octet  (p2 c1) ?_
    refine wp_iconst (M := mX11_cheapest) (pc := 71) dX11_cheapest_71 k_iconst_1 ?_
    refine wp_bipush (M := mX11_cheapest) (pc := 72) dX11_cheapest_72 k_bipush_60 ?_
    refine xs_callS (d := d + 2) (M := mX11_cheapest) (pc := 74) (As := [.int (oct f (2 * x4)), .int 1, .int 60]) (st := []) (ls' := [.int (oct f (2 * x4)), .int 1, .int 60]) dX11_cheapest_74 oX11_in nX11_in lX11_111 tX11_in (Nat.le_of_ble_eq_true rfl) rfl (Nat.le_of_ble_eq_true rfl) rfl ?_
    refine sp_X11_in   ?_
    refine xs_ifb_eq (M := mX11_cheapest) (pc := 77) (t := 93) dX11_cheapest_77 (by decide) (fun c2 => ?_) (fun c2 => ?_)
    · refine wp_bipush (M := mX11_cheapest) (pc := 93) dX11_cheapest_93 k_bipush_m2 ?_
      exact xs_iret (M := mX11_cheapest) (pc := 95) dX11_cheapest_95 rfl (p3 c1 c2)
    · refine wp_aload_n (M := mX11_cheapest) (pc := 80) dX11_cheapest_80 rfl rfl ?_
      refine wp_iconst (M := mX11_cheapest) (pc := 81) dX11_cheapest_81 k_iconst_2 ?_
      refine wp_iload (M := mX11_cheapest) (pc := 82) dX11_cheapest_82 rfl ?_
      refine wp_imul (M := mX11_cheapest) (pc := 84) dX11_cheapest_84 ?_
      refine wp_iconst (M := mX11_cheapest) (pc := 85) dX11_cheapest_85 k_iconst_1 ?_
      refine wp_iadd (M := mX11_cheapest) (pc := 86) dX11_cheapest_86 ?_
      refine xs_callV (d := d + 2) (M := mX11_cheapest) (pc := 87) (As := [.int ((2 * x4) + 1)]) (st := []) (c := 11) (ls' := [.ref 82, .int ((2 * x4) + 1)]) dX11_cheapest_87 oX11_octet nX11_octet lX11_338 vX11_octet sX11_octet rfl sh82 (Nat.le_of_ble_eq_true rfl) rfl (Nat.le_of_ble_eq_true rfl) rfl ?_
      refine sp_X11_octet  (p4 c1 c2) ?_
      refine wp_if_ne (M := mX11_cheapest) (pc := 90) (t := 96) dX11_cheapest_90 (by decide) (fun c3 => ?_) (fun c3 => ?_)
      · refine wp_iinc (M := mX11_cheapest) (pc := 96) (v := x4 + 1) (ls' := [.ref 82, .int x1, .int x2, .int x3, .int (x4 + 1), v5]) dX11_cheapest_96 rfl (congrArg (fun z => _ + z) k_iconst_1) (by decide) rfl ?_
        refine wp_goto (M := mX11_cheapest) (pc := 99) (t := 57) dX11_cheapest_99 (by decide) ?_
        exact p5 c1 c2 c3
      · refine wp_bipush (M := mX11_cheapest) (pc := 93) dX11_cheapest_93 k_bipush_m2 ?_
        exact xs_iret (M := mX11_cheapest) (pc := 95) dX11_cheapest_95 rfl (p6 c1 c2 c3)
theorem bX11_cheapest_112 {G : GC} {d : Nat} {sw : Bool} {f : FF} {Q : QQ} {x1 : Int32} {x2 : Int32} {x3 : Int32} {x4 : Int32} {v5 : Value} (p1 : (x2 < x4) → (¬ x3 = 100) → XP G mX11_timesOf (d + 2) 0 [.ref 82, .int x1, .int x2, .int x3, .null, .null, .null, .null, .null, .null] [] sw f (fun v sw' f' => XP G mX11_cheapest (d + 3) 217 [.ref 82, .int x1, .int x2, .int x3, .int x4, v5] (retst v []) sw' f' Q)) (p2 : (x2 < x4) → (x3 = 100) → vp_in x2 241) (p3 : (x2 < x4) → (x3 = 100) → Q (some (.int (f 108 x2.toNatClampNeg))) sw f) (p4 : (¬ x2 < x4) → vp_in x4 241) (p5 : (¬ x2 < x4) → XP G mX11_cheapest (d + 3) 131 [.ref 82, .int x1, .int x2, .int x3, .int x4, .int 0] [] sw (upd2 f 108 x4.toNatClampNeg 1000000) Q) : XP G mX11_cheapest (d + 3) 112 [.ref 82, .int x1, .int x2, .int x3, .int x4, v5] [] sw f Q := by
  refine wp_iload (M := mX11_cheapest) (pc := 112) dX11_cheapest_112 rfl ?_
  refine wp_iload_n (M := mX11_cheapest) (pc := 114) dX11_cheapest_114 rfl rfl ?_
  refine wp_icmp_gt (M := mX11_cheapest) (pc := 115) (t := 197) dX11_cheapest_115 (by decide) (fun c1 => ?_) (fun c1 => ?_)
  · refine wp_iload_n (M := mX11_cheapest) (pc := 197) dX11_cheapest_197 rfl rfl ?_
    refine wp_bipush (M := mX11_cheapest) (pc := 198) dX11_cheapest_198 k_bipush_100 ?_
    refine wp_icmp_ne (M := mX11_cheapest) (pc := 200) (t := 210) dX11_cheapest_200 (by decide) (fun c2 => ?_) (fun c2 => ?_)
    · refine wp_aload_n (M := mX11_cheapest) (pc := 210) dX11_cheapest_210 rfl rfl ?_
      refine wp_iload_n (M := mX11_cheapest) (pc := 211) dX11_cheapest_211 rfl rfl ?_
      refine wp_iload_n (M := mX11_cheapest) (pc := 212) dX11_cheapest_212 rfl rfl ?_
      refine wp_iload_n (M := mX11_cheapest) (pc := 213) dX11_cheapest_213 rfl rfl ?_
      refine xs_callV (d := d + 2) (M := mX11_cheapest) (pc := 214) (As := [.int x1, .int x2, .int x3]) (st := []) (c := 11) (ls' := [.ref 82, .int x1, .int x2, .int x3, .null, .null, .null, .null, .null, .null]) dX11_cheapest_214 oX11_timesOf nX11_timesOf lX11_358 vX11_timesOf sX11_timesOf rfl sh82 (Nat.le_of_ble_eq_true rfl) rfl (Nat.le_of_ble_eq_true rfl) rfl ?_
      exact p1 c1 c2
    · refine wp_aload_n (M := mX11_cheapest) (pc := 203) dX11_cheapest_203 rfl rfl ?_
      refine xs_getr (M := mX11_cheapest) (pc := 204) (r := 108) dX11_cheapest_204 fX11_86 sh82 rfl (gr82_41 sw) ?_
      refine wp_iload_n (M := mX11_cheapest) (pc := 207) dX11_cheapest_207 rfl rfl ?_
      refine xs_iald (M := mX11_cheapest) (pc := 208) (j := x2.toNatClampNeg) dX11_cheapest_208 sh108 (p2 c1 c2) rfl ?_
      exact xs_iret (M := mX11_cheapest) (pc := 209) dX11_cheapest_209 rfl (p3 c1 c2)
  · refine wp_aload_n (M := mX11_cheapest) (pc := 118) dX11_cheapest_118 rfl rfl ?_
    refine xs_getr (M := mX11_cheapest) (pc := 119) (r := 108) dX11_cheapest_119 fX11_86 sh82 rfl (gr82_41 sw) ?_
    refine wp_iload (M := mX11_cheapest) (pc := 122) dX11_cheapest_122 rfl ?_
    refine wp_ldcw (M := mX11_cheapest) (pc := 124) dX11_cheapest_124 kX11_357 ?_
    refine xs_iast (M := mX11_cheapest) (pc := 127) (j := x4.toNatClampNeg) dX11_cheapest_127 sh108 (p4 c1) rfl ?_
    refine wp_iconst (M := mX11_cheapest) (pc := 128) dX11_cheapest_128 k_iconst_0 ?_
    refine wp_istore (M := mX11_cheapest) (pc := 129) (ls' := [.ref 82, .int x1, .int x2, .int x3, .int x4, .int 0]) dX11_cheapest_129 (by decide) rfl ?_
    exact p5 c1
theorem bX11_cheapest_131 {G : GC} {d : Nat} {sw : Bool} {f : FF} {Q : QQ} {x1 : Int32} {x2 : Int32} {x3 : Int32} {x4 : Int32} {x5 : Int32} (p1 : (x1 ≤ x5) → XP G mX11_cheapest (d + 3) 112 [.ref 82, .int x1, .int x2, .int x3, .int (x4 + 1), .int x5] [] sw f Q) (p2 : (¬ x1 ≤ x5) → vp_in x4 241) (p3 : (¬ x1 ≤ x5) → vp_in ((2 * x5) + 1) 260) (p4 : (¬ x1 ≤ x5) → vp_in (2 * x5) 260) (p5 : (¬ x1 ≤ x5) → vp_in (mxI 0 (x4 - (oct f (2 * x5)))) 241) (p6 : (¬ x1 ≤ x5) → vp_in x4 241) (p7 : (¬ x1 ≤ x5) → XP G mX11_cheapest (d + 3) 131 [.ref 82, .int x1, .int x2, .int x3, .int x4, .int (x5 + 1)] [] sw (upd2 f 108 x4.toNatClampNeg (mnI (f 108 x4.toNatClampNeg) ((oct f ((2 * x5) + 1)) + (f 108 ((mxI 0 (x4 - (oct f (2 * x5)))).toNatClampNeg))))) Q) : XP G mX11_cheapest (d + 3) 131 [.ref 82, .int x1, .int x2, .int x3, .int x4, .int x5] [] sw f Q := by
  refine wp_iload (M := mX11_cheapest) (pc := 131) dX11_cheapest_131 rfl ?_
  refine wp_iload_n (M := mX11_cheapest) (pc := 133) dX11_cheapest_133 rfl rfl ?_
  refine wp_icmp_ge (M := mX11_cheapest) (pc := 134) (t := 191) dX11_cheapest_134 (by decide) (fun c1 => ?_) (fun c1 => ?_)
  · refine wp_iinc (M := mX11_cheapest) (pc := 191) (v := x4 + 1) (ls' := [.ref 82, .int x1, .int x2, .int x3, .int (x4 + 1), .int x5]) dX11_cheapest_191 rfl (congrArg (fun z => _ + z) k_iconst_1) (by decide) rfl ?_
    refine wp_goto (M := mX11_cheapest) (pc := 194) (t := 112) dX11_cheapest_194 (by decide) ?_
    exact p1 c1
  · refine wp_aload_n (M := mX11_cheapest) (pc := 137) dX11_cheapest_137 rfl rfl ?_
    refine xs_getr (M := mX11_cheapest) (pc := 138) (r := 108) dX11_cheapest_138 fX11_86 sh82 rfl (gr82_41 sw) ?_
    refine wp_iload (M := mX11_cheapest) (pc := 141) dX11_cheapest_141 rfl ?_
    refine wp_aload_n (M := mX11_cheapest) (pc := 143) dX11_cheapest_143 rfl rfl ?_
    refine xs_getr (M := mX11_cheapest) (pc := 144) (r := 108) dX11_cheapest_144 fX11_86 sh82 rfl (gr82_41 sw) ?_
    refine wp_iload (M := mX11_cheapest) (pc := 147) dX11_cheapest_147 rfl ?_
    refine xs_iald (M := mX11_cheapest) (pc := 149) (j := x4.toNatClampNeg) dX11_cheapest_149 sh108 (p2 c1) rfl ?_
    refine wp_aload_n (M := mX11_cheapest) (pc := 150) dX11_cheapest_150 rfl rfl ?_
    refine wp_iconst (M := mX11_cheapest) (pc := 151) dX11_cheapest_151 k_iconst_2 ?_
    refine wp_iload (M := mX11_cheapest) (pc := 152) dX11_cheapest_152 rfl ?_
    refine wp_imul (M := mX11_cheapest) (pc := 154) dX11_cheapest_154 ?_
    refine wp_iconst (M := mX11_cheapest) (pc := 155) dX11_cheapest_155 k_iconst_1 ?_
    refine wp_iadd (M := mX11_cheapest) (pc := 156) dX11_cheapest_156 ?_
    refine xs_callV (d := d + 2) (M := mX11_cheapest) (pc := 157) (As := [.int ((2 * x5) + 1)]) (st := [.int (f 108 x4.toNatClampNeg), .int x4, .ref 108]) (c := 11) (ls' := [.ref 82, .int ((2 * x5) + 1)]) dX11_cheapest_157 oX11_octet nX11_octet lX11_338 vX11_octet sX11_octet rfl sh82 (Nat.le_of_ble_eq_true rfl) rfl (Nat.le_of_ble_eq_true rfl) rfl ?_
    refine sp_X11_octet  (p3 c1) ?_
    refine wp_aload_n (M := mX11_cheapest) (pc := 160) dX11_cheapest_160 rfl rfl ?_
    refine xs_getr (M := mX11_cheapest) (pc := 161) (r := 108) dX11_cheapest_161 fX11_86 sh82 rfl (gr82_41 sw) ?_
    refine wp_iconst (M := mX11_cheapest) (pc := 164) dX11_cheapest_164 k_iconst_0 ?_
    refine wp_iload (M := mX11_cheapest) (pc := 165) dX11_cheapest_165 rfl ?_
    refine wp_aload_n (M := mX11_cheapest) (pc := 167) dX11_cheapest_167 rfl rfl ?_
    refine wp_iconst (M := mX11_cheapest) (pc := 168) dX11_cheapest_168 k_iconst_2 ?_
    refine wp_iload (M := mX11_cheapest) (pc := 169) dX11_cheapest_169 rfl ?_
    refine wp_imul (M := mX11_cheapest) (pc := 171) dX11_cheapest_171 ?_
    refine xs_callV (d := d + 2) (M := mX11_cheapest) (pc := 172) (As := [.int (2 * x5)]) (st := [.int x4, .int 0, .ref 108, .int (oct f ((2 * x5) + 1)), .int (f 108 x4.toNatClampNeg), .int x4, .ref 108]) (c := 11) (ls' := [.ref 82, .int (2 * x5)]) dX11_cheapest_172 oX11_octet nX11_octet lX11_338 vX11_octet sX11_octet rfl sh82 (Nat.le_of_ble_eq_true rfl) rfl (Nat.le_of_ble_eq_true rfl) rfl ?_
    refine sp_X11_octet  (p4 c1) ?_
    refine wp_isub (M := mX11_cheapest) (pc := 175) dX11_cheapest_175 ?_
    refine xs_callS (d := d + 2) (M := mX11_cheapest) (pc := 176) (As := [.int 0, .int (x4 - (oct f (2 * x5)))]) (st := [.ref 108, .int (oct f ((2 * x5) + 1)), .int (f 108 x4.toNatClampNeg), .int x4, .ref 108]) (ls' := [.int 0, .int (x4 - (oct f (2 * x5)))]) dX11_cheapest_176 oX11_max nX11_max lX11_136 tX11_max (Nat.le_of_ble_eq_true rfl) rfl (Nat.le_of_ble_eq_true rfl) rfl ?_
    refine sp_X11_max   ?_
    refine xs_iald (M := mX11_cheapest) (pc := 179) (j := (mxI 0 (x4 - (oct f (2 * x5)))).toNatClampNeg) dX11_cheapest_179 sh108 (p5 c1) rfl ?_
    refine wp_iadd (M := mX11_cheapest) (pc := 180) dX11_cheapest_180 ?_
    refine xs_callS (d := d + 2) (M := mX11_cheapest) (pc := 181) (As := [.int (f 108 x4.toNatClampNeg), .int ((oct f ((2 * x5) + 1)) + (f 108 ((mxI 0 (x4 - (oct f (2 * x5)))).toNatClampNeg)))]) (st := [.int x4, .ref 108]) (ls' := [.int (f 108 x4.toNatClampNeg), .int ((oct f ((2 * x5) + 1)) + (f 108 ((mxI 0 (x4 - (oct f (2 * x5)))).toNatClampNeg)))]) dX11_cheapest_181 oX11_min nX11_min lX11_257 tX11_min (Nat.le_of_ble_eq_true rfl) rfl (Nat.le_of_ble_eq_true rfl) rfl ?_
    refine sp_X11_min   ?_
    refine xs_iast (M := mX11_cheapest) (pc := 184) (j := x4.toNatClampNeg) dX11_cheapest_184 sh108 (p6 c1) rfl ?_
    refine wp_iinc (M := mX11_cheapest) (pc := 185) (v := x5 + 1) (ls' := [.ref 82, .int x1, .int x2, .int x3, .int x4, .int (x5 + 1)]) dX11_cheapest_185 rfl (congrArg (fun z => _ + z) k_iconst_1) (by decide) rfl ?_
    refine wp_goto (M := mX11_cheapest) (pc := 188) (t := 131) dX11_cheapest_188 (by decide) ?_
    exact p7 c1
theorem bX11_cheapest_217 {G : GC} {d : Nat} {sw : Bool} {f : FF} {Q : QQ} {x1 : Int32} {x2 : Int32} {x3 : Int32} {x4 : Int32} {v5 : Value} {s0 : Int32} (p1 : Q (some (.int s0)) sw f) : XP G mX11_cheapest (d + 3) 217 [.ref 82, .int x1, .int x2, .int x3, .int x4, v5] [.int s0] sw f Q := by
  exact xs_iret (M := mX11_cheapest) (pc := 217) dX11_cheapest_217 rfl (p1)
theorem bX11_timesOf_0 {G : GC} {d : Nat} {sw : Bool} {f : FF} {Q : QQ} {x1 : Int32} {x2 : Int32} {x3 : Int32} (p1 : XP G mX11_laysPence (d + 1) 0 [.ref 82, .int x1, .int x2, .null, .null, .null] [] sw f (fun v sw' f' => XP G mX11_timesOf (d + 2) 6 [.ref 82, .int x1, .int x2, .int x3, .null, .null, .null, .null, .null, .null] (retst v []) sw' f' Q)) : XP G mX11_timesOf (d + 2) 0 [.ref 82, .int x1, .int x2, .int x3, .null, .null, .null, .null, .null, .null] [] sw f Q := by
  refine wp_aload_n (M := mX11_timesOf) (pc := 0) dX11_timesOf_0 rfl rfl ?_
  refine wp_iload_n (M := mX11_timesOf) (pc := 1) dX11_timesOf_1 rfl rfl ?_
  refine wp_iload_n (M := mX11_timesOf) (pc := 2) dX11_timesOf_2 rfl rfl ?_
  refine xs_callV (d := d + 1) (M := mX11_timesOf) (pc := 3) (As := [.int x1, .int x2]) (st := []) (c := 11) (ls' := [.ref 82, .int x1, .int x2, .null, .null, .null]) dX11_timesOf_3 oX11_laysPence nX11_laysPence lX11_361 vX11_laysPence sX11_laysPence rfl sh82 (Nat.le_of_ble_eq_true rfl) rfl (Nat.le_of_ble_eq_true rfl) rfl ?_
  exact p1
theorem bX11_timesOf_6 {G : GC} {d : Nat} {sw : Bool} {f : FF} {Q : QQ} {x1 : Int32} {x2 : Int32} {x3 : Int32} {v4 : Value} {v5 : Value} {v6 : Value} {v7 : Value} {v8 : Value} {v9 : Value} (p1 : vp_in x2 1446) (p2 : XP G mX11_timesOf (d + 2) 23 [.ref 82, .int x1, .int x2, .int x3, .int x2, .int (f 109 x2.toNatClampNeg), .int 0, .int 0, v8, v9] [] sw f Q) : XP G mX11_timesOf (d + 2) 6 [.ref 82, .int x1, .int x2, .int x3, v4, v5, v6, v7, v8, v9] [] sw f Q := by
  refine wp_iload_n (M := mX11_timesOf) (pc := 6) dX11_timesOf_6 rfl rfl ?_
  refine wp_istore (M := mX11_timesOf) (pc := 7) (ls' := [.ref 82, .int x1, .int x2, .int x3, .int x2, v5, v6, v7, v8, v9]) dX11_timesOf_7 (by decide) rfl ?_
  refine wp_aload_n (M := mX11_timesOf) (pc := 9) dX11_timesOf_9 rfl rfl ?_
  refine xs_getr (M := mX11_timesOf) (pc := 10) (r := 109) dX11_timesOf_10 fX11_89 sh82 rfl (gr82_42 sw) ?_
  refine wp_iload_n (M := mX11_timesOf) (pc := 13) dX11_timesOf_13 rfl rfl ?_
  refine xs_iald (M := mX11_timesOf) (pc := 14) (j := x2.toNatClampNeg) dX11_timesOf_14 sh109 (p1) rfl ?_
  refine wp_istore (M := mX11_timesOf) (pc := 15) (ls' := [.ref 82, .int x1, .int x2, .int x3, .int x2, .int (f 109 x2.toNatClampNeg), v6, v7, v8, v9]) dX11_timesOf_15 (by decide) rfl ?_
  refine wp_iconst (M := mX11_timesOf) (pc := 17) dX11_timesOf_17 k_iconst_0 ?_
  refine wp_istore (M := mX11_timesOf) (pc := 18) (ls' := [.ref 82, .int x1, .int x2, .int x3, .int x2, .int (f 109 x2.toNatClampNeg), .int 0, v7, v8, v9]) dX11_timesOf_18 (by decide) rfl ?_
  refine wp_iconst (M := mX11_timesOf) (pc := 20) dX11_timesOf_20 k_iconst_0 ?_
  refine wp_istore (M := mX11_timesOf) (pc := 21) (ls' := [.ref 82, .int x1, .int x2, .int x3, .int x2, .int (f 109 x2.toNatClampNeg), .int 0, .int 0, v8, v9]) dX11_timesOf_21 (by decide) rfl ?_
  exact p2
theorem bX11_timesOf_23 {G : GC} {d : Nat} {sw : Bool} {f : FF} {Q : QQ} {x1 : Int32} {x2 : Int32} {x3 : Int32} {x4 : Int32} {x5 : Int32} {x6 : Int32} {x7 : Int32} {v8 : Value} {v9 : Value} (p1 : (x3 < x7) → Q (some (.int x6)) sw f) (p2 : (¬ x3 < x7) → XP G mX11_timesOf (d + 2) 35 [.ref 82, .int x1, .int x2, .int x3, .int x4, .int x5, .int 0, .int x7, .int 1, v9] [] sw f Q) : XP G mX11_timesOf (d + 2) 23 [.ref 82, .int x1, .int x2, .int x3, .int x4, .int x5, .int x6, .int x7, v8, v9] [] sw f Q := by
  refine wp_iload (M := mX11_timesOf) (pc := 23) dX11_timesOf_23 rfl ?_
  refine wp_iload_n (M := mX11_timesOf) (pc := 25) dX11_timesOf_25 rfl rfl ?_
  refine wp_icmp_gt (M := mX11_timesOf) (pc := 26) (t := 141) dX11_timesOf_26 (by decide) (fun c1 => ?_) (fun c1 => ?_)
  · refine wp_iload (M := mX11_timesOf) (pc := 141) dX11_timesOf_141 rfl ?_
    exact xs_iret (M := mX11_timesOf) (pc := 143) dX11_timesOf_143 rfl (p1 c1)
  · refine wp_iconst (M := mX11_timesOf) (pc := 29) dX11_timesOf_29 k_iconst_0 ?_
    refine wp_istore (M := mX11_timesOf) (pc := 30) (ls' := [.ref 82, .int x1, .int x2, .int x3, .int x4, .int x5, .int 0, .int x7, v8, v9]) dX11_timesOf_30 (by decide) rfl ?_
    refine wp_iconst (M := mX11_timesOf) (pc := 32) dX11_timesOf_32 k_iconst_1 ?_
    refine wp_istore (M := mX11_timesOf) (pc := 33) (ls' := [.ref 82, .int x1, .int x2, .int x3, .int x4, .int x5, .int 0, .int x7, .int 1, v9]) dX11_timesOf_33 (by decide) rfl ?_
    exact p2 c1
theorem bX11_timesOf_35 {G : GC} {d : Nat} {sw : Bool} {f : FF} {Q : QQ} {x1 : Int32} {x2 : Int32} {x3 : Int32} {x4 : Int32} {x5 : Int32} {x6 : Int32} {x7 : Int32} {x8 : Int32} {v9 : Value} (p1 : (x8 = 0) → XP G mX11_timesOf (d + 2) 23 [.ref 82, .int x1, .int x2, .int x3, .int x4, .int x5, .int x6, .int (x7 + 1), .int x8, v9] [] sw f Q) (p2 : (¬ x8 = 0) → vp_in (2 * x7) 260) (p3 : (¬ x8 = 0) → (x4 ≤ 0) → XP G mX11_timesOf (d + 2) 35 [.ref 82, .int x1, .int x2, .int x3, .int x4, .int x5, .int x6, .int x7, .int 0, .int (mxI 0 (x4 - (oct f (2 * x7))))] [] sw f Q) (p4 : (¬ x8 = 0) → (¬ x4 ≤ 0) → vp_in ((2 * x7) + 1) 260) (p5 : (¬ x8 = 0) → (¬ x4 ≤ 0) → vp_in ((241 * x7) + (mxI 0 (x4 - (oct f (2 * x7))))) 1446) (p6 : (¬ x8 = 0) → (¬ x4 ≤ 0) → (¬ ((oct f ((2 * x7) + 1)) + (f 109 (((241 * x7) + (mxI 0 (x4 - (oct f (2 * x7))))).toNatClampNeg))) = x5) → XP G mX11_timesOf (d + 2) 35 [.ref 82, .int x1, .int x2, .int x3, .int x4, .int x5, .int x6, .int x7, .int 0, .int (mxI 0 (x4 - (oct f (2 * x7))))] [] sw f Q) (p7 : (¬ x8 = 0) → (¬ x4 ≤ 0) → (((oct f ((2 * x7) + 1)) + (f 109 (((241 * x7) + (mxI 0 (x4 - (oct f (2 * x7))))).toNatClampNeg))) = x5) → vp_in ((2 * x7) + 1) 260) (p8 : (¬ x8 = 0) → (¬ x4 ≤ 0) → (((oct f ((2 * x7) + 1)) + (f 109 (((241 * x7) + (mxI 0 (x4 - (oct f (2 * x7))))).toNatClampNeg))) = x5) → XP G mX11_timesOf (d + 2) 35 [.ref 82, .int x1, .int x2, .int x3, .int (mxI 0 (x4 - (oct f (2 * x7)))), .int (x5 - (oct f ((2 * x7) + 1))), .int (x6 + 1), .int x7, .int 1, .int (mxI 0 (x4 - (oct f (2 * x7))))] [] sw f Q) : XP G mX11_timesOf (d + 2) 35 [.ref 82, .int x1, .int x2, .int x3, .int x4, .int x5, .int x6, .int x7, .int x8, v9] [] sw f Q := by
  refine wp_iload (M := mX11_timesOf) (pc := 35) dX11_timesOf_35 rfl ?_
  refine wp_if_eq (M := mX11_timesOf) (pc := 37) (t := 135) dX11_timesOf_37 (by decide) (fun c1 => ?_) (fun c1 => ?_)
  · refine wp_iinc (M := mX11_timesOf) (pc := 135) (v := x7 + 1) (ls' := [.ref 82, .int x1, .int x2, .int x3, .int x4, .int x5, .int x6, .int (x7 + 1), .int x8, v9]) dX11_timesOf_135 rfl (congrArg (fun z => _ + z) k_iconst_1) (by decide) rfl ?_
    refine wp_goto (M := mX11_timesOf) (pc := 138) (t := 23) dX11_timesOf_138 (by decide) ?_
    exact p1 c1
  · refine wp_iconst (M := mX11_timesOf) (pc := 40) dX11_timesOf_40 k_iconst_0 ?_
    refine wp_iload (M := mX11_timesOf) (pc := 41) dX11_timesOf_41 rfl ?_
    refine wp_aload_n (M := mX11_timesOf) (pc := 43) dX11_timesOf_43 rfl rfl ?_
    refine wp_iconst (M := mX11_timesOf) (pc := 44) dX11_timesOf_44 k_iconst_2 ?_
    refine wp_iload (M := mX11_timesOf) (pc := 45) dX11_timesOf_45 rfl ?_
    refine wp_imul (M := mX11_timesOf) (pc := 47) dX11_timesOf_47 ?_
    refine xs_callV (d := d + 1) (M := mX11_timesOf) (pc := 48) (As := [.int (2 * x7)]) (st := [.int x4, .int 0]) (c := 11) (ls' := [.ref 82, .int (2 * x7)]) dX11_timesOf_48 oX11_octet nX11_octet lX11_338 vX11_octet sX11_octet rfl sh82 (Nat.le_of_ble_eq_true rfl) rfl (Nat.le_of_ble_eq_true rfl) rfl ?_
    refine sp_X11_octet  (p2 c1) ?_
    refine wp_isub (M := mX11_timesOf) (pc := 51) dX11_timesOf_51 ?_
    refine xs_callS (d := d + 1) (M := mX11_timesOf) (pc := 52) (As := [.int 0, .int (x4 - (oct f (2 * x7)))]) (st := []) (ls' := [.int 0, .int (x4 - (oct f (2 * x7)))]) dX11_timesOf_52 oX11_max nX11_max lX11_136 tX11_max (Nat.le_of_ble_eq_true rfl) rfl (Nat.le_of_ble_eq_true rfl) rfl ?_
    refine sp_X11_max   ?_
    refine wp_istore (M := mX11_timesOf) (pc := 55) (ls' := [.ref 82, .int x1, .int x2, .int x3, .int x4, .int x5, .int x6, .int x7, .int x8, .int (mxI 0 (x4 - (oct f (2 * x7))))]) dX11_timesOf_55 (by decide) rfl ?_
    refine wp_iload (M := mX11_timesOf) (pc := 57) dX11_timesOf_57 rfl ?_
    refine wp_if_le (M := mX11_timesOf) (pc := 59) (t := 96) dX11_timesOf_59 (by decide) (fun c2 => ?_) (fun c2 => ?_)
    · refine wp_iconst (M := mX11_timesOf) (pc := 96) dX11_timesOf_96 k_iconst_0 ?_
      refine wp_istore (M := mX11_timesOf) (pc := 97) (ls' := [.ref 82, .int x1, .int x2, .int x3, .int x4, .int x5, .int x6, .int x7, .int 0, .int (mxI 0 (x4 - (oct f (2 * x7))))]) dX11_timesOf_97 (by decide) rfl ?_
      refine wp_iload (M := mX11_timesOf) (pc := 99) dX11_timesOf_99 rfl ?_
      refine wp_if_ne (M := mX11_timesOf) (pc := 101) (t := 107) dX11_timesOf_101 (by decide) (fun c => absurd c (by decide)) (fun _ => ?_)
      refine wp_goto (M := mX11_timesOf) (pc := 104) (t := 35) dX11_timesOf_104 (by decide) ?_
      exact p3 c1 c2
    · refine wp_aload_n (M := mX11_timesOf) (pc := 62) dX11_timesOf_62 rfl rfl ?_
      refine wp_iconst (M := mX11_timesOf) (pc := 63) dX11_timesOf_63 k_iconst_2 ?_
      refine wp_iload (M := mX11_timesOf) (pc := 64) dX11_timesOf_64 rfl ?_
      refine wp_imul (M := mX11_timesOf) (pc := 66) dX11_timesOf_66 ?_
      refine wp_iconst (M := mX11_timesOf) (pc := 67) dX11_timesOf_67 k_iconst_1 ?_
      refine wp_iadd (M := mX11_timesOf) (pc := 68) dX11_timesOf_68 ?_
      refine xs_callV (d := d + 1) (M := mX11_timesOf) (pc := 69) (As := [.int ((2 * x7) + 1)]) (st := []) (c := 11) (ls' := [.ref 82, .int ((2 * x7) + 1)]) dX11_timesOf_69 oX11_octet nX11_octet lX11_338 vX11_octet sX11_octet rfl sh82 (Nat.le_of_ble_eq_true rfl) rfl (Nat.le_of_ble_eq_true rfl) rfl ?_
      refine sp_X11_octet  (p4 c1 c2) ?_
      refine wp_aload_n (M := mX11_timesOf) (pc := 72) dX11_timesOf_72 rfl rfl ?_
      refine xs_getr (M := mX11_timesOf) (pc := 73) (r := 109) dX11_timesOf_73 fX11_89 sh82 rfl (gr82_42 sw) ?_
      refine wp_sipush (M := mX11_timesOf) (pc := 76) dX11_timesOf_76 k_sipush_241 ?_
      refine wp_iload (M := mX11_timesOf) (pc := 79) dX11_timesOf_79 rfl ?_
      refine wp_imul (M := mX11_timesOf) (pc := 81) dX11_timesOf_81 ?_
      refine wp_iload (M := mX11_timesOf) (pc := 82) dX11_timesOf_82 rfl ?_
      refine wp_iadd (M := mX11_timesOf) (pc := 84) dX11_timesOf_84 ?_
      refine xs_iald (M := mX11_timesOf) (pc := 85) (j := ((241 * x7) + (mxI 0 (x4 - (oct f (2 * x7))))).toNatClampNeg) dX11_timesOf_85 sh109 (p5 c1 c2) rfl ?_
      refine wp_iadd (M := mX11_timesOf) (pc := 86) dX11_timesOf_86 ?_
      refine wp_iload (M := mX11_timesOf) (pc := 87) dX11_timesOf_87 rfl ?_
      refine wp_icmp_ne (M := mX11_timesOf) (pc := 89) (t := 96) dX11_timesOf_89 (by decide) (fun c3 => ?_) (fun c3 => ?_)
      · refine wp_iconst (M := mX11_timesOf) (pc := 96) dX11_timesOf_96 k_iconst_0 ?_
        refine wp_istore (M := mX11_timesOf) (pc := 97) (ls' := [.ref 82, .int x1, .int x2, .int x3, .int x4, .int x5, .int x6, .int x7, .int 0, .int (mxI 0 (x4 - (oct f (2 * x7))))]) dX11_timesOf_97 (by decide) rfl ?_
        refine wp_iload (M := mX11_timesOf) (pc := 99) dX11_timesOf_99 rfl ?_
        refine wp_if_ne (M := mX11_timesOf) (pc := 101) (t := 107) dX11_timesOf_101 (by decide) (fun c => absurd c (by decide)) (fun _ => ?_)
        refine wp_goto (M := mX11_timesOf) (pc := 104) (t := 35) dX11_timesOf_104 (by decide) ?_
        exact p6 c1 c2 c3
      · refine wp_iconst (M := mX11_timesOf) (pc := 92) dX11_timesOf_92 k_iconst_1 ?_
        refine wp_goto (M := mX11_timesOf) (pc := 93) (t := 97) dX11_timesOf_93 (by decide) ?_
        refine wp_istore (M := mX11_timesOf) (pc := 97) (ls' := [.ref 82, .int x1, .int x2, .int x3, .int x4, .int x5, .int x6, .int x7, .int 1, .int (mxI 0 (x4 - (oct f (2 * x7))))]) dX11_timesOf_97 (by decide) rfl ?_
        refine wp_iload (M := mX11_timesOf) (pc := 99) dX11_timesOf_99 rfl ?_
        refine wp_if_ne (M := mX11_timesOf) (pc := 101) (t := 107) dX11_timesOf_101 (by decide) (fun _ => ?_) (fun c => absurd c (by decide))
        refine wp_iload (M := mX11_timesOf) (pc := 107) dX11_timesOf_107 rfl ?_
        refine wp_iconst (M := mX11_timesOf) (pc := 109) dX11_timesOf_109 k_iconst_1 ?_
        refine wp_iadd (M := mX11_timesOf) (pc := 110) dX11_timesOf_110 ?_
        refine wp_istore (M := mX11_timesOf) (pc := 111) (ls' := [.ref 82, .int x1, .int x2, .int x3, .int x4, .int x5, .int (x6 + 1), .int x7, .int 1, .int (mxI 0 (x4 - (oct f (2 * x7))))]) dX11_timesOf_111 (by decide) rfl ?_
        refine wp_iload (M := mX11_timesOf) (pc := 113) dX11_timesOf_113 rfl ?_
        refine wp_istore (M := mX11_timesOf) (pc := 115) (ls' := [.ref 82, .int x1, .int x2, .int x3, .int (mxI 0 (x4 - (oct f (2 * x7)))), .int x5, .int (x6 + 1), .int x7, .int 1, .int (mxI 0 (x4 - (oct f (2 * x7))))]) dX11_timesOf_115 (by decide) rfl ?_
        refine wp_iload (M := mX11_timesOf) (pc := 117) dX11_timesOf_117 rfl ?_
        refine wp_aload_n (M := mX11_timesOf) (pc := 119) dX11_timesOf_119 rfl rfl ?_
        refine wp_iconst (M := mX11_timesOf) (pc := 120) dX11_timesOf_120 k_iconst_2 ?_
        refine wp_iload (M := mX11_timesOf) (pc := 121) dX11_timesOf_121 rfl ?_
        refine wp_imul (M := mX11_timesOf) (pc := 123) dX11_timesOf_123 ?_
        refine wp_iconst (M := mX11_timesOf) (pc := 124) dX11_timesOf_124 k_iconst_1 ?_
        refine wp_iadd (M := mX11_timesOf) (pc := 125) dX11_timesOf_125 ?_
        refine xs_callV (d := d + 1) (M := mX11_timesOf) (pc := 126) (As := [.int ((2 * x7) + 1)]) (st := [.int x5]) (c := 11) (ls' := [.ref 82, .int ((2 * x7) + 1)]) dX11_timesOf_126 oX11_octet nX11_octet lX11_338 vX11_octet sX11_octet rfl sh82 (Nat.le_of_ble_eq_true rfl) rfl (Nat.le_of_ble_eq_true rfl) rfl ?_
        refine sp_X11_octet  (p7 c1 c2 c3) ?_
        refine wp_isub (M := mX11_timesOf) (pc := 129) dX11_timesOf_129 ?_
        refine wp_istore (M := mX11_timesOf) (pc := 130) (ls' := [.ref 82, .int x1, .int x2, .int x3, .int (mxI 0 (x4 - (oct f (2 * x7)))), .int (x5 - (oct f ((2 * x7) + 1))), .int (x6 + 1), .int x7, .int 1, .int (mxI 0 (x4 - (oct f (2 * x7))))]) dX11_timesOf_130 (by decide) rfl ?_
        refine wp_goto (M := mX11_timesOf) (pc := 132) (t := 35) dX11_timesOf_132 (by decide) ?_
        exact p8 c1 c2 c3
theorem bX11_laysPence_0 {G : GC} {d : Nat} {sw : Bool} {f : FF} {Q : QQ} {x1 : Int32} {x2 : Int32} (p1 : XP G mX11_laysPence (d + 1) 2 [.ref 82, .int x1, .int x2, .int 0, .null, .null] [] sw f Q) : XP G mX11_laysPence (d + 1) 0 [.ref 82, .int x1, .int x2, .null, .null, .null] [] sw f Q := by
  refine wp_iconst (M := mX11_laysPence) (pc := 0) dX11_laysPence_0 k_iconst_0 ?_
  refine wp_istore_n (M := mX11_laysPence) (pc := 1) (ls' := [.ref 82, .int x1, .int x2, .int 0, .null, .null]) dX11_laysPence_1 rfl (by decide) rfl ?_
  exact p1
theorem bX11_laysPence_2 {G : GC} {d : Nat} {sw : Bool} {f : FF} {Q : QQ} {x1 : Int32} {x2 : Int32} {x3 : Int32} {v4 : Value} {v5 : Value} (p1 : (x2 < x3) → XP G mX11_laysPence (d + 1) 40 [.ref 82, .int x1, .int x2, .int (x1 - 1), v4, v5] [] sw f Q) (p2 : (¬ x2 < x3) → (¬ x3 = 0) → vp_in ((241 * x1) + x3) 1446) (p3 : (¬ x2 < x3) → (¬ x3 = 0) → XP G mX11_laysPence (d + 1) 2 [.ref 82, .int x1, .int x2, .int (x3 + 1), v4, v5] [] sw (upd2 f 109 (((241 * x1) + x3).toNatClampNeg) 1000000) Q) (p4 : (¬ x2 < x3) → (x3 = 0) → vp_in ((241 * x1) + x3) 1446) (p5 : (¬ x2 < x3) → (x3 = 0) → XP G mX11_laysPence (d + 1) 2 [.ref 82, .int x1, .int x2, .int (x3 + 1), v4, v5] [] sw (upd2 f 109 (((241 * x1) + x3).toNatClampNeg) 0) Q) : XP G mX11_laysPence (d + 1) 2 [.ref 82, .int x1, .int x2, .int x3, v4, v5] [] sw f Q := by
  refine wp_iload_n (M := mX11_laysPence) (pc := 2) dX11_laysPence_2 rfl rfl ?_
  refine wp_iload_n (M := mX11_laysPence) (pc := 3) dX11_laysPence_3 rfl rfl ?_
  refine wp_icmp_gt (M := mX11_laysPence) (pc := 4) (t := 36) dX11_laysPence_4 (by decide) (fun c1 => ?_) (fun c1 => ?_)
  · refine wp_iload_n (M := mX11_laysPence) (pc := 36) dX11_laysPence_36 rfl rfl ?_
    refine wp_iconst (M := mX11_laysPence) (pc := 37) dX11_laysPence_37 k_iconst_1 ?_
    refine wp_isub (M := mX11_laysPence) (pc := 38) dX11_laysPence_38 ?_
    refine wp_istore_n (M := mX11_laysPence) (pc := 39) (ls' := [.ref 82, .int x1, .int x2, .int (x1 - 1), v4, v5]) dX11_laysPence_39 rfl (by decide) rfl ?_
    exact p1 c1
  · refine wp_aload_n (M := mX11_laysPence) (pc := 7) dX11_laysPence_7 rfl rfl ?_
    refine xs_getr (M := mX11_laysPence) (pc := 8) (r := 109) dX11_laysPence_8 fX11_89 sh82 rfl (gr82_42 sw) ?_
    refine wp_sipush (M := mX11_laysPence) (pc := 11) dX11_laysPence_11 k_sipush_241 ?_
    refine wp_iload_n (M := mX11_laysPence) (pc := 14) dX11_laysPence_14 rfl rfl ?_
    refine wp_imul (M := mX11_laysPence) (pc := 15) dX11_laysPence_15 ?_
    refine wp_iload_n (M := mX11_laysPence) (pc := 16) dX11_laysPence_16 rfl rfl ?_
    refine wp_iadd (M := mX11_laysPence) (pc := 17) dX11_laysPence_17 ?_
    refine wp_iload_n (M := mX11_laysPence) (pc := 18) dX11_laysPence_18 rfl rfl ?_
    refine wp_if_ne (M := mX11_laysPence) (pc := 19) (t := 26) dX11_laysPence_19 (by decide) (fun c2 => ?_) (fun c2 => ?_)
    · refine wp_ldcw (M := mX11_laysPence) (pc := 26) dX11_laysPence_26 kX11_357 ?_
      refine xs_iast (M := mX11_laysPence) (pc := 29) (j := ((241 * x1) + x3).toNatClampNeg) dX11_laysPence_29 sh109 (p2 c1 c2) rfl ?_
      refine wp_iinc (M := mX11_laysPence) (pc := 30) (v := x3 + 1) (ls' := [.ref 82, .int x1, .int x2, .int (x3 + 1), v4, v5]) dX11_laysPence_30 rfl (congrArg (fun z => _ + z) k_iconst_1) (by decide) rfl ?_
      refine wp_goto (M := mX11_laysPence) (pc := 33) (t := 2) dX11_laysPence_33 (by decide) ?_
      exact p3 c1 c2
    · refine wp_iconst (M := mX11_laysPence) (pc := 22) dX11_laysPence_22 k_iconst_0 ?_
      refine wp_goto (M := mX11_laysPence) (pc := 23) (t := 29) dX11_laysPence_23 (by decide) ?_
      refine xs_iast (M := mX11_laysPence) (pc := 29) (j := ((241 * x1) + x3).toNatClampNeg) dX11_laysPence_29 sh109 (p4 c1 c2) rfl ?_
      refine wp_iinc (M := mX11_laysPence) (pc := 30) (v := x3 + 1) (ls' := [.ref 82, .int x1, .int x2, .int (x3 + 1), v4, v5]) dX11_laysPence_30 rfl (congrArg (fun z => _ + z) k_iconst_1) (by decide) rfl ?_
      refine wp_goto (M := mX11_laysPence) (pc := 33) (t := 2) dX11_laysPence_33 (by decide) ?_
      exact p5 c1 c2
theorem bX11_laysPence_40 {G : GC} {d : Nat} {sw : Bool} {f : FF} {Q : QQ} {x1 : Int32} {x2 : Int32} {x3 : Int32} {v4 : Value} {v5 : Value} (p1 : (x3 < 0) → Q none sw f) (p2 : (¬ x3 < 0) → XP G mX11_laysPence (d + 1) 47 [.ref 82, .int x1, .int x2, .int x3, .int 0, v5] [] sw f Q) : XP G mX11_laysPence (d + 1) 40 [.ref 82, .int x1, .int x2, .int x3, v4, v5] [] sw f Q := by
  refine wp_iload_n (M := mX11_laysPence) (pc := 40) dX11_laysPence_40 rfl rfl ?_
  refine wp_if_lt (M := mX11_laysPence) (pc := 41) (t := 144) dX11_laysPence_41 (by decide) (fun c1 => ?_) (fun c1 => ?_)
  · exact xs_ret (M := mX11_laysPence) (pc := 144) dX11_laysPence_144 rfl (p1 c1)
  · refine wp_iconst (M := mX11_laysPence) (pc := 44) dX11_laysPence_44 k_iconst_0 ?_
    refine wp_istore (M := mX11_laysPence) (pc := 45) (ls' := [.ref 82, .int x1, .int x2, .int x3, .int 0, v5]) dX11_laysPence_45 (by decide) rfl ?_
    exact p2 c1
theorem bX11_laysPence_47 {G : GC} {d : Nat} {sw : Bool} {f : FF} {Q : QQ} {x1 : Int32} {x2 : Int32} {x3 : Int32} {x4 : Int32} {v5 : Value} (p1 : (x2 < x4) → XP G mX11_laysPence (d + 1) 40 [.ref 82, .int x1, .int x2, .int (x3 + (-1)), .int x4, v5] [] sw f Q) (p2 : (¬ x2 < x4) → vp_in ((241 * (x3 + 1)) + x4) 1446) (p3 : (¬ x2 < x4) → (x4 ≤ 0) → vp_in ((241 * x3) + x4) 1446) (p4 : (¬ x2 < x4) → (x4 ≤ 0) → XP G mX11_laysPence (d + 1) 47 [.ref 82, .int x1, .int x2, .int x3, .int (x4 + 1), .int (f 109 (((241 * (x3 + 1)) + x4).toNatClampNeg))] [] sw (upd2 f 109 (((241 * x3) + x4).toNatClampNeg) (f 109 (((241 * (x3 + 1)) + x4).toNatClampNeg))) Q) (p5 : (¬ x2 < x4) → (¬ x4 ≤ 0) → vp_in ((2 * x3) + 1) 260) (p6 : (¬ x2 < x4) → (¬ x4 ≤ 0) → vp_in (2 * x3) 260) (p7 : (¬ x2 < x4) → (¬ x4 ≤ 0) → vp_in ((241 * x3) + (mxI 0 (x4 - (oct f (2 * x3))))) 1446) (p8 : (¬ x2 < x4) → (¬ x4 ≤ 0) → vp_in ((241 * x3) + x4) 1446) (p9 : (¬ x2 < x4) → (¬ x4 ≤ 0) → XP G mX11_laysPence (d + 1) 47 [.ref 82, .int x1, .int x2, .int x3, .int (x4 + 1), .int (mnI (f 109 (((241 * (x3 + 1)) + x4).toNatClampNeg)) ((oct f ((2 * x3) + 1)) + (f 109 (((241 * x3) + (mxI 0 (x4 - (oct f (2 * x3))))).toNatClampNeg))))] [] sw (upd2 f 109 (((241 * x3) + x4).toNatClampNeg) (mnI (f 109 (((241 * (x3 + 1)) + x4).toNatClampNeg)) ((oct f ((2 * x3) + 1)) + (f 109 (((241 * x3) + (mxI 0 (x4 - (oct f (2 * x3))))).toNatClampNeg))))) Q) : XP G mX11_laysPence (d + 1) 47 [.ref 82, .int x1, .int x2, .int x3, .int x4, v5] [] sw f Q := by
  refine wp_iload (M := mX11_laysPence) (pc := 47) dX11_laysPence_47 rfl ?_
  refine wp_iload_n (M := mX11_laysPence) (pc := 49) dX11_laysPence_49 rfl rfl ?_
  refine wp_icmp_gt (M := mX11_laysPence) (pc := 50) (t := 138) dX11_laysPence_50 (by decide) (fun c1 => ?_) (fun c1 => ?_)
  · refine wp_iinc (M := mX11_laysPence) (pc := 138) (v := x3 + (-1)) (ls' := [.ref 82, .int x1, .int x2, .int (x3 + (-1)), .int x4, v5]) dX11_laysPence_138 rfl (congrArg (fun z => _ + z) k_iconst_m1) (by decide) rfl ?_
    refine wp_goto (M := mX11_laysPence) (pc := 141) (t := 40) dX11_laysPence_141 (by decide) ?_
    exact p1 c1
  · refine wp_aload_n (M := mX11_laysPence) (pc := 53) dX11_laysPence_53 rfl rfl ?_
    refine xs_getr (M := mX11_laysPence) (pc := 54) (r := 109) dX11_laysPence_54 fX11_89 sh82 rfl (gr82_42 sw) ?_
    refine wp_sipush (M := mX11_laysPence) (pc := 57) dX11_laysPence_57 k_sipush_241 ?_
    refine wp_iload_n (M := mX11_laysPence) (pc := 60) dX11_laysPence_60 rfl rfl ?_
    refine wp_iconst (M := mX11_laysPence) (pc := 61) dX11_laysPence_61 k_iconst_1 ?_
    refine wp_iadd (M := mX11_laysPence) (pc := 62) dX11_laysPence_62 ?_
    refine wp_imul (M := mX11_laysPence) (pc := 63) dX11_laysPence_63 ?_
    refine wp_iload (M := mX11_laysPence) (pc := 64) dX11_laysPence_64 rfl ?_
    refine wp_iadd (M := mX11_laysPence) (pc := 66) dX11_laysPence_66 ?_
    refine xs_iald (M := mX11_laysPence) (pc := 67) (j := ((241 * (x3 + 1)) + x4).toNatClampNeg) dX11_laysPence_67 sh109 (p2 c1) rfl ?_
    refine wp_istore (M := mX11_laysPence) (pc := 68) (ls' := [.ref 82, .int x1, .int x2, .int x3, .int x4, .int (f 109 (((241 * (x3 + 1)) + x4).toNatClampNeg))]) dX11_laysPence_68 (by decide) rfl ?_
    refine wp_iload (M := mX11_laysPence) (pc := 70) dX11_laysPence_70 rfl ?_
    refine wp_if_le (M := mX11_laysPence) (pc := 72) (t := 117) dX11_laysPence_72 (by decide) (fun c2 => ?_) (fun c2 => ?_)
    · refine wp_aload_n (M := mX11_laysPence) (pc := 117) dX11_laysPence_117 rfl rfl ?_
      refine xs_getr (M := mX11_laysPence) (pc := 118) (r := 109) dX11_laysPence_118 fX11_89 sh82 rfl (gr82_42 sw) ?_
      refine wp_sipush (M := mX11_laysPence) (pc := 121) dX11_laysPence_121 k_sipush_241 ?_
      refine wp_iload_n (M := mX11_laysPence) (pc := 124) dX11_laysPence_124 rfl rfl ?_
      refine wp_imul (M := mX11_laysPence) (pc := 125) dX11_laysPence_125 ?_
      refine wp_iload (M := mX11_laysPence) (pc := 126) dX11_laysPence_126 rfl ?_
      refine wp_iadd (M := mX11_laysPence) (pc := 128) dX11_laysPence_128 ?_
      refine wp_iload (M := mX11_laysPence) (pc := 129) dX11_laysPence_129 rfl ?_
      refine xs_iast (M := mX11_laysPence) (pc := 131) (j := ((241 * x3) + x4).toNatClampNeg) dX11_laysPence_131 sh109 (p3 c1 c2) rfl ?_
      refine wp_iinc (M := mX11_laysPence) (pc := 132) (v := x4 + 1) (ls' := [.ref 82, .int x1, .int x2, .int x3, .int (x4 + 1), .int (f 109 (((241 * (x3 + 1)) + x4).toNatClampNeg))]) dX11_laysPence_132 rfl (congrArg (fun z => _ + z) k_iconst_1) (by decide) rfl ?_
      refine wp_goto (M := mX11_laysPence) (pc := 135) (t := 47) dX11_laysPence_135 (by decide) ?_
      exact p4 c1 c2
    · refine wp_iload (M := mX11_laysPence) (pc := 75) dX11_laysPence_75 rfl ?_
      refine wp_aload_n (M := mX11_laysPence) (pc := 77) dX11_laysPence_77 rfl rfl ?_
      refine wp_iconst (M := mX11_laysPence) (pc := 78) dX11_laysPence_78 k_iconst_2 ?_
      refine wp_iload_n (M := mX11_laysPence) (pc := 79) dX11_laysPence_79 rfl rfl ?_
      refine wp_imul (M := mX11_laysPence) (pc := 80) dX11_laysPence_80 ?_
      refine wp_iconst (M := mX11_laysPence) (pc := 81) dX11_laysPence_81 k_iconst_1 ?_
      refine wp_iadd (M := mX11_laysPence) (pc := 82) dX11_laysPence_82 ?_
      refine xs_callV (d := d) (M := mX11_laysPence) (pc := 83) (As := [.int ((2 * x3) + 1)]) (st := [.int (f 109 (((241 * (x3 + 1)) + x4).toNatClampNeg))]) (c := 11) (ls' := [.ref 82, .int ((2 * x3) + 1)]) dX11_laysPence_83 oX11_octet nX11_octet lX11_338 vX11_octet sX11_octet rfl sh82 (Nat.le_of_ble_eq_true rfl) rfl (Nat.le_of_ble_eq_true rfl) rfl ?_
      refine sp_X11_octet  (p5 c1 c2) ?_
      refine wp_aload_n (M := mX11_laysPence) (pc := 86) dX11_laysPence_86 rfl rfl ?_
      refine xs_getr (M := mX11_laysPence) (pc := 87) (r := 109) dX11_laysPence_87 fX11_89 sh82 rfl (gr82_42 sw) ?_
      refine wp_sipush (M := mX11_laysPence) (pc := 90) dX11_laysPence_90 k_sipush_241 ?_
      refine wp_iload_n (M := mX11_laysPence) (pc := 93) dX11_laysPence_93 rfl rfl ?_
      refine wp_imul (M := mX11_laysPence) (pc := 94) dX11_laysPence_94 ?_
      refine wp_iconst (M := mX11_laysPence) (pc := 95) dX11_laysPence_95 k_iconst_0 ?_
      refine wp_iload (M := mX11_laysPence) (pc := 96) dX11_laysPence_96 rfl ?_
      refine wp_aload_n (M := mX11_laysPence) (pc := 98) dX11_laysPence_98 rfl rfl ?_
      refine wp_iconst (M := mX11_laysPence) (pc := 99) dX11_laysPence_99 k_iconst_2 ?_
      refine wp_iload_n (M := mX11_laysPence) (pc := 100) dX11_laysPence_100 rfl rfl ?_
      refine wp_imul (M := mX11_laysPence) (pc := 101) dX11_laysPence_101 ?_
      refine xs_callV (d := d) (M := mX11_laysPence) (pc := 102) (As := [.int (2 * x3)]) (st := [.int x4, .int 0, .int (241 * x3), .ref 109, .int (oct f ((2 * x3) + 1)), .int (f 109 (((241 * (x3 + 1)) + x4).toNatClampNeg))]) (c := 11) (ls' := [.ref 82, .int (2 * x3)]) dX11_laysPence_102 oX11_octet nX11_octet lX11_338 vX11_octet sX11_octet rfl sh82 (Nat.le_of_ble_eq_true rfl) rfl (Nat.le_of_ble_eq_true rfl) rfl ?_
      refine sp_X11_octet  (p6 c1 c2) ?_
      refine wp_isub (M := mX11_laysPence) (pc := 105) dX11_laysPence_105 ?_
      refine xs_callS (d := d) (M := mX11_laysPence) (pc := 106) (As := [.int 0, .int (x4 - (oct f (2 * x3)))]) (st := [.int (241 * x3), .ref 109, .int (oct f ((2 * x3) + 1)), .int (f 109 (((241 * (x3 + 1)) + x4).toNatClampNeg))]) (ls' := [.int 0, .int (x4 - (oct f (2 * x3)))]) dX11_laysPence_106 oX11_max nX11_max lX11_136 tX11_max (Nat.le_of_ble_eq_true rfl) rfl (Nat.le_of_ble_eq_true rfl) rfl ?_
      refine sp_X11_max   ?_
      refine wp_iadd (M := mX11_laysPence) (pc := 109) dX11_laysPence_109 ?_
      refine xs_iald (M := mX11_laysPence) (pc := 110) (j := ((241 * x3) + (mxI 0 (x4 - (oct f (2 * x3))))).toNatClampNeg) dX11_laysPence_110 sh109 (p7 c1 c2) rfl ?_
      refine wp_iadd (M := mX11_laysPence) (pc := 111) dX11_laysPence_111 ?_
      refine xs_callS (d := d) (M := mX11_laysPence) (pc := 112) (As := [.int (f 109 (((241 * (x3 + 1)) + x4).toNatClampNeg)), .int ((oct f ((2 * x3) + 1)) + (f 109 (((241 * x3) + (mxI 0 (x4 - (oct f (2 * x3))))).toNatClampNeg)))]) (st := []) (ls' := [.int (f 109 (((241 * (x3 + 1)) + x4).toNatClampNeg)), .int ((oct f ((2 * x3) + 1)) + (f 109 (((241 * x3) + (mxI 0 (x4 - (oct f (2 * x3))))).toNatClampNeg)))]) dX11_laysPence_112 oX11_min nX11_min lX11_257 tX11_min (Nat.le_of_ble_eq_true rfl) rfl (Nat.le_of_ble_eq_true rfl) rfl ?_
      refine sp_X11_min   ?_
      refine wp_istore (M := mX11_laysPence) (pc := 115) (ls' := [.ref 82, .int x1, .int x2, .int x3, .int x4, .int (mnI (f 109 (((241 * (x3 + 1)) + x4).toNatClampNeg)) ((oct f ((2 * x3) + 1)) + (f 109 (((241 * x3) + (mxI 0 (x4 - (oct f (2 * x3))))).toNatClampNeg))))]) dX11_laysPence_115 (by decide) rfl ?_
      refine wp_aload_n (M := mX11_laysPence) (pc := 117) dX11_laysPence_117 rfl rfl ?_
      refine xs_getr (M := mX11_laysPence) (pc := 118) (r := 109) dX11_laysPence_118 fX11_89 sh82 rfl (gr82_42 sw) ?_
      refine wp_sipush (M := mX11_laysPence) (pc := 121) dX11_laysPence_121 k_sipush_241 ?_
      refine wp_iload_n (M := mX11_laysPence) (pc := 124) dX11_laysPence_124 rfl rfl ?_
      refine wp_imul (M := mX11_laysPence) (pc := 125) dX11_laysPence_125 ?_
      refine wp_iload (M := mX11_laysPence) (pc := 126) dX11_laysPence_126 rfl ?_
      refine wp_iadd (M := mX11_laysPence) (pc := 128) dX11_laysPence_128 ?_
      refine wp_iload (M := mX11_laysPence) (pc := 129) dX11_laysPence_129 rfl ?_
      refine xs_iast (M := mX11_laysPence) (pc := 131) (j := ((241 * x3) + x4).toNatClampNeg) dX11_laysPence_131 sh109 (p8 c1 c2) rfl ?_
      refine wp_iinc (M := mX11_laysPence) (pc := 132) (v := x4 + 1) (ls' := [.ref 82, .int x1, .int x2, .int x3, .int (x4 + 1), .int (mnI (f 109 (((241 * (x3 + 1)) + x4).toNatClampNeg)) ((oct f ((2 * x3) + 1)) + (f 109 (((241 * x3) + (mxI 0 (x4 - (oct f (2 * x3))))).toNatClampNeg))))]) dX11_laysPence_132 rfl (congrArg (fun z => _ + z) k_iconst_1) (by decide) rfl ?_
      refine wp_goto (M := mX11_laysPence) (pc := 135) (t := 47) dX11_laysPence_135 (by decide) ?_
      exact p9 c1 c2
theorem bX11_told_0 {G : GC} {d : Nat} {sw : Bool} {f : FF} {Q : QQ} {x1 : Int32} {x2 : Int32} (p1 : (¬ (2 ≤ x1 ∧ x1 ≤ 16)) → Q (some (.int (-1))) sw f) (p2 : (2 ≤ x1 ∧ x1 ≤ 16) → (¬ (0 ≤ x2 ∧ x2 ≤ 1)) → Q (some (.int (-1))) sw f) (p3 : (2 ≤ x1 ∧ x1 ≤ 16) → (0 ≤ x2 ∧ x2 ≤ 1) → (x1 ≤ (f 82 10)) → XP G mX11_told (d + 2) 36 [.ref 82, .int x1, .int x2, .int 1, .null] [] sw (upd2 f 82 10 0) Q) (p4 : (2 ≤ x1 ∧ x1 ≤ 16) → (0 ≤ x2 ∧ x2 ≤ 1) → (¬ x1 ≤ (f 82 10)) → Q (some (.int (-1))) sw f) : XP G mX11_told (d + 2) 0 [.ref 82, .int x1, .int x2, .null, .null] [] sw f Q := by
  refine wp_iload_n (M := mX11_told) (pc := 0) dX11_told_0 rfl rfl ?_
  refine wp_iconst (M := mX11_told) (pc := 1) dX11_told_1 k_iconst_2 ?_
  refine wp_bipush (M := mX11_told) (pc := 2) dX11_told_2 k_bipush_16 ?_
  refine xs_callS (d := d + 1) (M := mX11_told) (pc := 4) (As := [.int x1, .int 2, .int 16]) (st := []) (ls' := [.int x1, .int 2, .int 16]) dX11_told_4 oX11_in nX11_in lX11_111 tX11_in (Nat.le_of_ble_eq_true rfl) rfl (Nat.le_of_ble_eq_true rfl) rfl ?_
  refine sp_X11_in   ?_
  refine xs_ifb_eq (M := mX11_told) (pc := 7) (t := 27) dX11_told_7 (by decide) (fun c1 => ?_) (fun c1 => ?_)
  · refine wp_iconst (M := mX11_told) (pc := 27) dX11_told_27 k_iconst_m1 ?_
    exact xs_iret (M := mX11_told) (pc := 28) dX11_told_28 rfl (p1 c1)
  · refine wp_iload_n (M := mX11_told) (pc := 10) dX11_told_10 rfl rfl ?_
    refine wp_iconst (M := mX11_told) (pc := 11) dX11_told_11 k_iconst_0 ?_
    refine wp_iconst (M := mX11_told) (pc := 12) dX11_told_12 k_iconst_1 ?_
    refine xs_callS (d := d + 1) (M := mX11_told) (pc := 13) (As := [.int x2, .int 0, .int 1]) (st := []) (ls' := [.int x2, .int 0, .int 1]) dX11_told_13 oX11_in nX11_in lX11_111 tX11_in (Nat.le_of_ble_eq_true rfl) rfl (Nat.le_of_ble_eq_true rfl) rfl ?_
    refine sp_X11_in   ?_
    refine xs_ifb_eq (M := mX11_told) (pc := 16) (t := 27) dX11_told_16 (by decide) (fun c2 => ?_) (fun c2 => ?_)
    · refine wp_iconst (M := mX11_told) (pc := 27) dX11_told_27 k_iconst_m1 ?_
      exact xs_iret (M := mX11_told) (pc := 28) dX11_told_28 rfl (p2 c1 c2)
    · refine wp_iload_n (M := mX11_told) (pc := 19) dX11_told_19 rfl rfl ?_
      refine wp_aload_n (M := mX11_told) (pc := 20) dX11_told_20 rfl rfl ?_
      refine xs_geti (M := mX11_told) (pc := 21) dX11_told_21 fX11_146 sh82 rfl ?_
      refine wp_icmp_le (M := mX11_told) (pc := 24) (t := 29) dX11_told_24 (by decide) (fun c3 => ?_) (fun c3 => ?_)
      · refine wp_aload_n (M := mX11_told) (pc := 29) dX11_told_29 rfl rfl ?_
        refine wp_iconst (M := mX11_told) (pc := 30) dX11_told_30 k_iconst_0 ?_
        refine xs_puti (M := mX11_told) (pc := 31) dX11_told_31 pX11_146 sh82 rfl ?_
        refine wp_iconst (M := mX11_told) (pc := 34) dX11_told_34 k_iconst_1 ?_
        refine wp_istore_n (M := mX11_told) (pc := 35) (ls' := [.ref 82, .int x1, .int x2, .int 1, .null]) dX11_told_35 rfl (by decide) rfl ?_
        exact p3 c1 c2 c3
      · refine wp_iconst (M := mX11_told) (pc := 27) dX11_told_27 k_iconst_m1 ?_
        exact xs_iret (M := mX11_told) (pc := 28) dX11_told_28 rfl (p4 c1 c2 c3)
theorem bX11_told_36 {G : GC} {d : Nat} {sw : Bool} {f : FF} {Q : QQ} {x1 : Int32} {x2 : Int32} {x3 : Int32} {v4 : Value} (p1 : (x1 ≤ x3) → XP G mX11_told (d + 2) 70 [.ref 82, .int x1, .int x2, .int (x1 - 1), v4] [] sw (upd2 f 90 0 ((-1).toInt8.toInt32)) Q) (p2 : (¬ x1 ≤ x3) → vp_in x3 260) (p3 : (¬ x1 ≤ x3) → ((oct f x3) < x3) → XP G mX11_told (d + 2) 36 [.ref 82, .int x1, .int x2, .int (x3 + 1), v4] [] sw f Q) (p4 : (¬ x1 ≤ x3) → (¬ (oct f x3) < x3) → Q (some (.int (-2))) sw f) : XP G mX11_told (d + 2) 36 [.ref 82, .int x1, .int x2, .int x3, v4] [] sw f Q := by
  refine wp_iload_n (M := mX11_told) (pc := 36) dX11_told_36 rfl rfl ?_
  refine wp_iload_n (M := mX11_told) (pc := 37) dX11_told_37 rfl rfl ?_
  refine wp_icmp_ge (M := mX11_told) (pc := 38) (t := 59) dX11_told_38 (by decide) (fun c1 => ?_) (fun c1 => ?_)
  · refine wp_aload_n (M := mX11_told) (pc := 59) dX11_told_59 rfl rfl ?_
    refine xs_getr (M := mX11_told) (pc := 60) (r := 90) dX11_told_60 fX11_31 sh82 rfl (gr82_9 sw) ?_
    refine wp_iconst (M := mX11_told) (pc := 63) dX11_told_63 k_iconst_0 ?_
    refine wp_iconst (M := mX11_told) (pc := 64) dX11_told_64 k_iconst_m1 ?_
    refine xs_bast (M := mX11_told) (pc := 65) (j := 0) dX11_told_65 sh90 (vin (by decide)) rfl ?_
    refine wp_iload_n (M := mX11_told) (pc := 66) dX11_told_66 rfl rfl ?_
    refine wp_iconst (M := mX11_told) (pc := 67) dX11_told_67 k_iconst_1 ?_
    refine wp_isub (M := mX11_told) (pc := 68) dX11_told_68 ?_
    refine wp_istore_n (M := mX11_told) (pc := 69) (ls' := [.ref 82, .int x1, .int x2, .int (x1 - 1), v4]) dX11_told_69 rfl (by decide) rfl ?_
    exact p1 c1
  · refine wp_aload_n (M := mX11_told) (pc := 41) dX11_told_41 rfl rfl ?_
    refine wp_iload_n (M := mX11_told) (pc := 42) dX11_told_42 rfl rfl ?_
    refine xs_callV (d := d + 1) (M := mX11_told) (pc := 43) (As := [.int x3]) (st := []) (c := 11) (ls' := [.ref 82, .int x3]) dX11_told_43 oX11_octet nX11_octet lX11_338 vX11_octet sX11_octet rfl sh82 (Nat.le_of_ble_eq_true rfl) rfl (Nat.le_of_ble_eq_true rfl) rfl ?_
    refine sp_X11_octet  (p2 c1) ?_
    refine wp_iload_n (M := mX11_told) (pc := 46) dX11_told_46 rfl rfl ?_
    refine wp_icmp_lt (M := mX11_told) (pc := 47) (t := 53) dX11_told_47 (by decide) (fun c2 => ?_) (fun c2 => ?_)
    · refine wp_iinc (M := mX11_told) (pc := 53) (v := x3 + 1) (ls' := [.ref 82, .int x1, .int x2, .int (x3 + 1), v4]) dX11_told_53 rfl (congrArg (fun z => _ + z) k_iconst_1) (by decide) rfl ?_
      refine wp_goto (M := mX11_told) (pc := 56) (t := 36) dX11_told_56 (by decide) ?_
      exact p3 c1 c2
    · refine wp_bipush (M := mX11_told) (pc := 50) dX11_told_50 k_bipush_m2 ?_
      exact xs_iret (M := mX11_told) (pc := 52) dX11_told_52 rfl (p4 c1 c2)
theorem bX11_told_70 {G : GC} {d : Nat} {sw : Bool} {f : FF} {Q : QQ} {x1 : Int32} {x2 : Int32} {x3 : Int32} {v4 : Value} (p1 : (x3 < 0) → (¬ x2 = 0) → XP G mX11_told (d + 2) 108 [.ref 82, .int x1, .int x2, .int (-1), .int 1] [] sw f Q) (p2 : (x3 < 0) → (x2 = 0) → Q (some (.int (f 110 0))) sw f) (p3 : (¬ x3 < 0) → XP G mX11_longFor (d + 1) 0 [.ref 82, .int x3, .int x1, .null, .null, .null, .null] [] sw f (fun v sw' f' => XP G mX11_told (d + 2) 85 [.ref 82, .int x1, .int x2, .int x3, v4] (retst v [.int x3, .ref 110]) sw' f' Q)) : XP G mX11_told (d + 2) 70 [.ref 82, .int x1, .int x2, .int x3, v4] [] sw f Q := by
  refine wp_iload_n (M := mX11_told) (pc := 70) dX11_told_70 rfl rfl ?_
  refine wp_if_lt (M := mX11_told) (pc := 71) (t := 92) dX11_told_71 (by decide) (fun c1 => ?_) (fun c1 => ?_)
  · refine wp_iload_n (M := mX11_told) (pc := 92) dX11_told_92 rfl rfl ?_
    refine wp_if_ne (M := mX11_told) (pc := 93) (t := 103) dX11_told_93 (by decide) (fun c2 => ?_) (fun c2 => ?_)
    · refine wp_iconst (M := mX11_told) (pc := 103) dX11_told_103 k_iconst_m1 ?_
      refine wp_istore_n (M := mX11_told) (pc := 104) (ls' := [.ref 82, .int x1, .int x2, .int (-1), v4]) dX11_told_104 rfl (by decide) rfl ?_
      refine wp_iconst (M := mX11_told) (pc := 105) dX11_told_105 k_iconst_1 ?_
      refine wp_istore (M := mX11_told) (pc := 106) (ls' := [.ref 82, .int x1, .int x2, .int (-1), .int 1]) dX11_told_106 (by decide) rfl ?_
      exact p1 c1 c2
    · refine wp_aload_n (M := mX11_told) (pc := 96) dX11_told_96 rfl rfl ?_
      refine xs_getr (M := mX11_told) (pc := 97) (r := 110) dX11_told_97 fX11_92 sh82 rfl (gr82_43 sw) ?_
      refine wp_iconst (M := mX11_told) (pc := 100) dX11_told_100 k_iconst_0 ?_
      refine xs_iald (M := mX11_told) (pc := 101) (j := 0) dX11_told_101 sh110 (vin (by decide)) rfl ?_
      exact xs_iret (M := mX11_told) (pc := 102) dX11_told_102 rfl (p2 c1 c2)
  · refine wp_aload_n (M := mX11_told) (pc := 74) dX11_told_74 rfl rfl ?_
    refine xs_getr (M := mX11_told) (pc := 75) (r := 110) dX11_told_75 fX11_92 sh82 rfl (gr82_43 sw) ?_
    refine wp_iload_n (M := mX11_told) (pc := 78) dX11_told_78 rfl rfl ?_
    refine wp_aload_n (M := mX11_told) (pc := 79) dX11_told_79 rfl rfl ?_
    refine wp_iload_n (M := mX11_told) (pc := 80) dX11_told_80 rfl rfl ?_
    refine wp_iload_n (M := mX11_told) (pc := 81) dX11_told_81 rfl rfl ?_
    refine xs_callV (d := d + 1) (M := mX11_told) (pc := 82) (As := [.int x3, .int x1]) (st := [.int x3, .ref 110]) (c := 11) (ls' := [.ref 82, .int x3, .int x1, .null, .null, .null, .null]) dX11_told_82 oX11_longFor nX11_longFor lX11_364 vX11_longFor sX11_longFor rfl sh82 (Nat.le_of_ble_eq_true rfl) rfl (Nat.le_of_ble_eq_true rfl) rfl ?_
    exact p3 c1
theorem bX11_told_85 {G : GC} {d : Nat} {sw : Bool} {f : FF} {Q : QQ} {x1 : Int32} {x2 : Int32} {x3 : Int32} {v4 : Value} {s0 : Int32} {s1 : Int32} (p1 : vp_in s1 16) (p2 : XP G mX11_told (d + 2) 70 [.ref 82, .int x1, .int x2, .int (x3 + (-1)), v4] [] sw (upd2 f 110 s1.toNatClampNeg s0) Q) : XP G mX11_told (d + 2) 85 [.ref 82, .int x1, .int x2, .int x3, v4] [.int s0, .int s1, .ref 110] sw f Q := by
  refine xs_iast (M := mX11_told) (pc := 85) (j := s1.toNatClampNeg) dX11_told_85 sh110 (p1) rfl ?_
  refine wp_iinc (M := mX11_told) (pc := 86) (v := x3 + (-1)) (ls' := [.ref 82, .int x1, .int x2, .int (x3 + (-1)), v4]) dX11_told_86 rfl (congrArg (fun z => _ + z) k_iconst_m1) (by decide) rfl ?_
  refine wp_goto (M := mX11_told) (pc := 89) (t := 70) dX11_told_89 (by decide) ?_
  exact p2
theorem bX11_told_108 {G : GC} {d : Nat} {sw : Bool} {f : FF} {Q : QQ} {x1 : Int32} {x2 : Int32} {x3 : Int32} {x4 : Int32} (p1 : (x1 ≤ x4) → Q (some (.int x3)) sw f) (p2 : (¬ x1 ≤ x4) → vp_in x4 260) (p3 : (¬ x1 ≤ x4) → (¬ (oct f x4) = 0) → XP G mX11_told (d + 2) 108 [.ref 82, .int x1, .int x2, .int x3, .int (x4 + 1)] [] sw f Q) (p4 : (¬ x1 ≤ x4) → ((oct f x4) = 0) → (x3 = (-1)) → XP G mX11_told (d + 2) 108 [.ref 82, .int x1, .int x2, .int x4, .int (x4 + 1)] [] sw f Q) (p5 : (¬ x1 ≤ x4) → ((oct f x4) = 0) → (¬ x3 = (-1)) → vp_in x4 16) (p6 : (¬ x1 ≤ x4) → ((oct f x4) = 0) → (¬ x3 = (-1)) → vp_in x3 16) (p7 : (¬ x1 ≤ x4) → ((oct f x4) = 0) → (¬ x3 = (-1)) → ((f 110 x4.toNatClampNeg) ≤ (f 110 x3.toNatClampNeg)) → XP G mX11_told (d + 2) 108 [.ref 82, .int x1, .int x2, .int x3, .int (x4 + 1)] [] sw f Q) (p8 : (¬ x1 ≤ x4) → ((oct f x4) = 0) → (¬ x3 = (-1)) → (¬ (f 110 x4.toNatClampNeg) ≤ (f 110 x3.toNatClampNeg)) → XP G mX11_told (d + 2) 108 [.ref 82, .int x1, .int x2, .int x4, .int (x4 + 1)] [] sw f Q) : XP G mX11_told (d + 2) 108 [.ref 82, .int x1, .int x2, .int x3, .int x4] [] sw f Q := by
  refine wp_iload (M := mX11_told) (pc := 108) dX11_told_108 rfl ?_
  refine wp_iload_n (M := mX11_told) (pc := 110) dX11_told_110 rfl rfl ?_
  refine wp_icmp_ge (M := mX11_told) (pc := 111) (t := 153) dX11_told_111 (by decide) (fun c1 => ?_) (fun c1 => ?_)
  · refine wp_iload_n (M := mX11_told) (pc := 153) dX11_told_153 rfl rfl ?_
    exact xs_iret (M := mX11_told) (pc := 154) dX11_told_154 rfl (p1 c1)
  · refine wp_aload_n (M := mX11_told) (pc := 114) dX11_told_114 rfl rfl ?_
    refine wp_iload (M := mX11_told) (pc := 115) dX11_told_115 rfl ?_
    refine xs_callV (d := d + 1) (M := mX11_told) (pc := 117) (As := [.int x4]) (st := []) (c := 11) (ls' := [.ref 82, .int x4]) dX11_told_117 oX11_octet nX11_octet lX11_338 vX11_octet sX11_octet rfl sh82 (Nat.le_of_ble_eq_true rfl) rfl (Nat.le_of_ble_eq_true rfl) rfl ?_
    refine sp_X11_octet  (p2 c1) ?_
    refine wp_if_ne (M := mX11_told) (pc := 120) (t := 147) dX11_told_120 (by decide) (fun c2 => ?_) (fun c2 => ?_)
    · refine wp_iinc (M := mX11_told) (pc := 147) (v := x4 + 1) (ls' := [.ref 82, .int x1, .int x2, .int x3, .int (x4 + 1)]) dX11_told_147 rfl (congrArg (fun z => _ + z) k_iconst_1) (by decide) rfl ?_
      refine wp_goto (M := mX11_told) (pc := 150) (t := 108) dX11_told_150 (by decide) ?_
      exact p3 c1 c2
    · refine wp_iload_n (M := mX11_told) (pc := 123) dX11_told_123 rfl rfl ?_
      refine wp_iconst (M := mX11_told) (pc := 124) dX11_told_124 k_iconst_m1 ?_
      refine wp_icmp_eq (M := mX11_told) (pc := 125) (t := 144) dX11_told_125 (by decide) (fun c3 => ?_) (fun c3 => ?_)
      · refine wp_iload (M := mX11_told) (pc := 144) dX11_told_144 rfl ?_
        refine wp_istore_n (M := mX11_told) (pc := 146) (ls' := [.ref 82, .int x1, .int x2, .int x4, .int x4]) dX11_told_146 rfl (by decide) rfl ?_
        refine wp_iinc (M := mX11_told) (pc := 147) (v := x4 + 1) (ls' := [.ref 82, .int x1, .int x2, .int x4, .int (x4 + 1)]) dX11_told_147 rfl (congrArg (fun z => _ + z) k_iconst_1) (by decide) rfl ?_
        refine wp_goto (M := mX11_told) (pc := 150) (t := 108) dX11_told_150 (by decide) ?_
        exact p4 c1 c2 c3
      · refine wp_aload_n (M := mX11_told) (pc := 128) dX11_told_128 rfl rfl ?_
        refine xs_getr (M := mX11_told) (pc := 129) (r := 110) dX11_told_129 fX11_92 sh82 rfl (gr82_43 sw) ?_
        refine wp_iload (M := mX11_told) (pc := 132) dX11_told_132 rfl ?_
        refine xs_iald (M := mX11_told) (pc := 134) (j := x4.toNatClampNeg) dX11_told_134 sh110 (p5 c1 c2 c3) rfl ?_
        refine wp_aload_n (M := mX11_told) (pc := 135) dX11_told_135 rfl rfl ?_
        refine xs_getr (M := mX11_told) (pc := 136) (r := 110) dX11_told_136 fX11_92 sh82 rfl (gr82_43 sw) ?_
        refine wp_iload_n (M := mX11_told) (pc := 139) dX11_told_139 rfl rfl ?_
        refine xs_iald (M := mX11_told) (pc := 140) (j := x3.toNatClampNeg) dX11_told_140 sh110 (p6 c1 c2 c3) rfl ?_
        refine wp_icmp_le (M := mX11_told) (pc := 141) (t := 147) dX11_told_141 (by decide) (fun c4 => ?_) (fun c4 => ?_)
        · refine wp_iinc (M := mX11_told) (pc := 147) (v := x4 + 1) (ls' := [.ref 82, .int x1, .int x2, .int x3, .int (x4 + 1)]) dX11_told_147 rfl (congrArg (fun z => _ + z) k_iconst_1) (by decide) rfl ?_
          refine wp_goto (M := mX11_told) (pc := 150) (t := 108) dX11_told_150 (by decide) ?_
          exact p7 c1 c2 c3 c4
        · refine wp_iload (M := mX11_told) (pc := 144) dX11_told_144 rfl ?_
          refine wp_istore_n (M := mX11_told) (pc := 146) (ls' := [.ref 82, .int x1, .int x2, .int x4, .int x4]) dX11_told_146 rfl (by decide) rfl ?_
          refine wp_iinc (M := mX11_told) (pc := 147) (v := x4 + 1) (ls' := [.ref 82, .int x1, .int x2, .int x4, .int (x4 + 1)]) dX11_told_147 rfl (congrArg (fun z => _ + z) k_iconst_1) (by decide) rfl ?_
          refine wp_goto (M := mX11_told) (pc := 150) (t := 108) dX11_told_150 (by decide) ?_
          exact p8 c1 c2 c3 c4
theorem bX11_longFor_0 {G : GC} {d : Nat} {sw : Bool} {f : FF} {Q : QQ} {x1 : Int32} {x2 : Int32} (p1 : XP G mX11_longFor (d + 1) 7 [.ref 82, .int x1, .int x2, .int 0, .int (x1 + 1), .null, .null] [] sw f Q) : XP G mX11_longFor (d + 1) 0 [.ref 82, .int x1, .int x2, .null, .null, .null, .null] [] sw f Q := by
  refine wp_iconst (M := mX11_longFor) (pc := 0) dX11_longFor_0 k_iconst_0 ?_
  refine wp_istore_n (M := mX11_longFor) (pc := 1) (ls' := [.ref 82, .int x1, .int x2, .int 0, .null, .null, .null]) dX11_longFor_1 rfl (by decide) rfl ?_
  refine wp_iload_n (M := mX11_longFor) (pc := 2) dX11_longFor_2 rfl rfl ?_
  refine wp_iconst (M := mX11_longFor) (pc := 3) dX11_longFor_3 k_iconst_1 ?_
  refine wp_iadd (M := mX11_longFor) (pc := 4) dX11_longFor_4 ?_
  refine wp_istore (M := mX11_longFor) (pc := 5) (ls' := [.ref 82, .int x1, .int x2, .int 0, .int (x1 + 1), .null, .null]) dX11_longFor_5 (by decide) rfl ?_
  exact p1
theorem bX11_longFor_7 {G : GC} {d : Nat} {sw : Bool} {f : FF} {Q : QQ} {x1 : Int32} {x2 : Int32} {x3 : Int32} {x4 : Int32} {v5 : Value} {v6 : Value} (p1 : (x2 ≤ x4) → Q (some (.int x3)) sw f) (p2 : (¬ x2 ≤ x4) → vp_in x4 260) (p3 : (¬ x2 ≤ x4) → ((oct f x4) = x1) → XP G mX11_longFor (d + 1) 34 [.ref 82, .int x1, .int x2, .int x3, .int x4, .int 1, .int (x1 + 1)] [] sw f Q) (p4 : (¬ x2 ≤ x4) → (¬ (oct f x4) = x1) → XP G mX11_longFor (d + 1) 7 [.ref 82, .int x1, .int x2, .int x3, .int (x4 + 1), v5, v6] [] sw f Q) : XP G mX11_longFor (d + 1) 7 [.ref 82, .int x1, .int x2, .int x3, .int x4, v5, v6] [] sw f Q := by
  refine wp_iload (M := mX11_longFor) (pc := 7) dX11_longFor_7 rfl ?_
  refine wp_iload_n (M := mX11_longFor) (pc := 9) dX11_longFor_9 rfl rfl ?_
  refine wp_icmp_ge (M := mX11_longFor) (pc := 10) (t := 124) dX11_longFor_10 (by decide) (fun c1 => ?_) (fun c1 => ?_)
  · refine wp_iload_n (M := mX11_longFor) (pc := 124) dX11_longFor_124 rfl rfl ?_
    exact xs_iret (M := mX11_longFor) (pc := 125) dX11_longFor_125 rfl (p1 c1)
  · refine wp_aload_n (M := mX11_longFor) (pc := 13) dX11_longFor_13 rfl rfl ?_
    refine wp_iload (M := mX11_longFor) (pc := 14) dX11_longFor_14 rfl ?_
    refine xs_callV (d := d) (M := mX11_longFor) (pc := 16) (As := [.int x4]) (st := []) (c := 11) (ls' := [.ref 82, .int x4]) dX11_longFor_16 oX11_octet nX11_octet lX11_338 vX11_octet sX11_octet rfl sh82 (Nat.le_of_ble_eq_true rfl) rfl (Nat.le_of_ble_eq_true rfl) rfl ?_
    refine sp_X11_octet  (p2 c1) ?_
    refine wp_iload_n (M := mX11_longFor) (pc := 19) dX11_longFor_19 rfl rfl ?_
    refine wp_icmp_eq (M := mX11_longFor) (pc := 20) (t := 26) dX11_longFor_20 (by decide) (fun c2 => ?_) (fun c2 => ?_)
    · refine wp_iconst (M := mX11_longFor) (pc := 26) dX11_longFor_26 k_iconst_1 ?_
      refine wp_istore (M := mX11_longFor) (pc := 27) (ls' := [.ref 82, .int x1, .int x2, .int x3, .int x4, .int 1, v6]) dX11_longFor_27 (by decide) rfl ?_
      refine wp_iload_n (M := mX11_longFor) (pc := 29) dX11_longFor_29 rfl rfl ?_
      refine wp_iconst (M := mX11_longFor) (pc := 30) dX11_longFor_30 k_iconst_1 ?_
      refine wp_iadd (M := mX11_longFor) (pc := 31) dX11_longFor_31 ?_
      refine wp_istore (M := mX11_longFor) (pc := 32) (ls' := [.ref 82, .int x1, .int x2, .int x3, .int x4, .int 1, .int (x1 + 1)]) dX11_longFor_32 (by decide) rfl ?_
      exact p3 c1 c2
    · refine wp_goto (M := mX11_longFor) (pc := 23) (t := 118) dX11_longFor_23 (by decide) ?_
      refine wp_iinc (M := mX11_longFor) (pc := 118) (v := x4 + 1) (ls' := [.ref 82, .int x1, .int x2, .int x3, .int (x4 + 1), v5, v6]) dX11_longFor_118 rfl (congrArg (fun z => _ + z) k_iconst_1) (by decide) rfl ?_
      refine wp_goto (M := mX11_longFor) (pc := 121) (t := 7) dX11_longFor_121 (by decide) ?_
      exact p4 c1 c2
theorem bX11_longFor_34 {G : GC} {d : Nat} {sw : Bool} {f : FF} {Q : QQ} {x1 : Int32} {x2 : Int32} {x3 : Int32} {x4 : Int32} {x5 : Int32} {x6 : Int32} (p1 : (x2 ≤ x6) → vp_in x4 16) (p2 : (x2 ≤ x6) → XP G mX11_longFor (d + 1) 7 [.ref 82, .int x1, .int x2, .int (mxI x3 (x5 + (f 110 x4.toNatClampNeg))), .int (x4 + 1), .int x5, .int x6] [] sw f Q) (p3 : (¬ x2 ≤ x6) → vp_in x6 260) (p4 : (¬ x2 ≤ x6) → (¬ (oct f x6) = x1) → XP G mX11_longFor (d + 1) 34 [.ref 82, .int x1, .int x2, .int x3, .int x4, .int x5, .int (x6 + 1)] [] sw f Q) (p5 : (¬ x2 ≤ x6) → ((oct f x6) = x1) → vp_in x6 16) (p6 : (¬ x2 ≤ x6) → ((oct f x6) = x1) → vp_in x4 16) (p7 : (¬ x2 ≤ x6) → ((oct f x6) = x1) → ((f 110 x4.toNatClampNeg) < (f 110 x6.toNatClampNeg)) → XP G mX11_longFor (d + 1) 34 [.ref 82, .int x1, .int x2, .int x3, .int x4, .int (x5 + 1), .int (x6 + 1)] [] sw f Q) (p8 : (¬ x2 ≤ x6) → ((oct f x6) = x1) → (¬ (f 110 x4.toNatClampNeg) < (f 110 x6.toNatClampNeg)) → vp_in x6 16) (p9 : (¬ x2 ≤ x6) → ((oct f x6) = x1) → (¬ (f 110 x4.toNatClampNeg) < (f 110 x6.toNatClampNeg)) → vp_in x4 16) (p10 : (¬ x2 ≤ x6) → ((oct f x6) = x1) → (¬ (f 110 x4.toNatClampNeg) < (f 110 x6.toNatClampNeg)) → (¬ (f 110 x6.toNatClampNeg) = (f 110 x4.toNatClampNeg)) → XP G mX11_longFor (d + 1) 34 [.ref 82, .int x1, .int x2, .int x3, .int x4, .int x5, .int (x6 + 1)] [] sw f Q) (p11 : (¬ x2 ≤ x6) → ((oct f x6) = x1) → (¬ (f 110 x4.toNatClampNeg) < (f 110 x6.toNatClampNeg)) → ((f 110 x6.toNatClampNeg) = (f 110 x4.toNatClampNeg)) → (x4 ≤ x6) → XP G mX11_longFor (d + 1) 34 [.ref 82, .int x1, .int x2, .int x3, .int x4, .int x5, .int (x6 + 1)] [] sw f Q) (p12 : (¬ x2 ≤ x6) → ((oct f x6) = x1) → (¬ (f 110 x4.toNatClampNeg) < (f 110 x6.toNatClampNeg)) → ((f 110 x6.toNatClampNeg) = (f 110 x4.toNatClampNeg)) → (¬ x4 ≤ x6) → XP G mX11_longFor (d + 1) 34 [.ref 82, .int x1, .int x2, .int x3, .int x4, .int (x5 + 1), .int (x6 + 1)] [] sw f Q) : XP G mX11_longFor (d + 1) 34 [.ref 82, .int x1, .int x2, .int x3, .int x4, .int x5, .int x6] [] sw f Q := by
  refine wp_iload (M := mX11_longFor) (pc := 34) dX11_longFor_34 rfl ?_
  refine wp_iload_n (M := mX11_longFor) (pc := 36) dX11_longFor_36 rfl rfl ?_
  refine wp_icmp_ge (M := mX11_longFor) (pc := 37) (t := 103) dX11_longFor_37 (by decide) (fun c1 => ?_) (fun c1 => ?_)
  · refine wp_iload_n (M := mX11_longFor) (pc := 103) dX11_longFor_103 rfl rfl ?_
    refine wp_iload (M := mX11_longFor) (pc := 104) dX11_longFor_104 rfl ?_
    refine wp_aload_n (M := mX11_longFor) (pc := 106) dX11_longFor_106 rfl rfl ?_
    refine xs_getr (M := mX11_longFor) (pc := 107) (r := 110) dX11_longFor_107 fX11_92 sh82 rfl (gr82_43 sw) ?_
    refine wp_iload (M := mX11_longFor) (pc := 110) dX11_longFor_110 rfl ?_
    refine xs_iald (M := mX11_longFor) (pc := 112) (j := x4.toNatClampNeg) dX11_longFor_112 sh110 (p1 c1) rfl ?_
    refine wp_iadd (M := mX11_longFor) (pc := 113) dX11_longFor_113 ?_
    refine xs_callS (d := d) (M := mX11_longFor) (pc := 114) (As := [.int x3, .int (x5 + (f 110 x4.toNatClampNeg))]) (st := []) (ls' := [.int x3, .int (x5 + (f 110 x4.toNatClampNeg))]) dX11_longFor_114 oX11_max nX11_max lX11_136 tX11_max (Nat.le_of_ble_eq_true rfl) rfl (Nat.le_of_ble_eq_true rfl) rfl ?_
    refine sp_X11_max   ?_
    refine wp_istore_n (M := mX11_longFor) (pc := 117) (ls' := [.ref 82, .int x1, .int x2, .int (mxI x3 (x5 + (f 110 x4.toNatClampNeg))), .int x4, .int x5, .int x6]) dX11_longFor_117 rfl (by decide) rfl ?_
    refine wp_iinc (M := mX11_longFor) (pc := 118) (v := x4 + 1) (ls' := [.ref 82, .int x1, .int x2, .int (mxI x3 (x5 + (f 110 x4.toNatClampNeg))), .int (x4 + 1), .int x5, .int x6]) dX11_longFor_118 rfl (congrArg (fun z => _ + z) k_iconst_1) (by decide) rfl ?_
    refine wp_goto (M := mX11_longFor) (pc := 121) (t := 7) dX11_longFor_121 (by decide) ?_
    exact p2 c1
  · refine wp_aload_n (M := mX11_longFor) (pc := 40) dX11_longFor_40 rfl rfl ?_
    refine wp_iload (M := mX11_longFor) (pc := 41) dX11_longFor_41 rfl ?_
    refine xs_callV (d := d) (M := mX11_longFor) (pc := 43) (As := [.int x6]) (st := []) (c := 11) (ls' := [.ref 82, .int x6]) dX11_longFor_43 oX11_octet nX11_octet lX11_338 vX11_octet sX11_octet rfl sh82 (Nat.le_of_ble_eq_true rfl) rfl (Nat.le_of_ble_eq_true rfl) rfl ?_
    refine sp_X11_octet  (p3 c1) ?_
    refine wp_iload_n (M := mX11_longFor) (pc := 46) dX11_longFor_46 rfl rfl ?_
    refine wp_icmp_ne (M := mX11_longFor) (pc := 47) (t := 97) dX11_longFor_47 (by decide) (fun c2 => ?_) (fun c2 => ?_)
    · refine wp_iinc (M := mX11_longFor) (pc := 97) (v := x6 + 1) (ls' := [.ref 82, .int x1, .int x2, .int x3, .int x4, .int x5, .int (x6 + 1)]) dX11_longFor_97 rfl (congrArg (fun z => _ + z) k_iconst_1) (by decide) rfl ?_
      refine wp_goto (M := mX11_longFor) (pc := 100) (t := 34) dX11_longFor_100 (by decide) ?_
      exact p4 c1 c2
    · refine wp_aload_n (M := mX11_longFor) (pc := 50) dX11_longFor_50 rfl rfl ?_
      refine xs_getr (M := mX11_longFor) (pc := 51) (r := 110) dX11_longFor_51 fX11_92 sh82 rfl (gr82_43 sw) ?_
      refine wp_iload (M := mX11_longFor) (pc := 54) dX11_longFor_54 rfl ?_
      refine xs_iald (M := mX11_longFor) (pc := 56) (j := x6.toNatClampNeg) dX11_longFor_56 sh110 (p5 c1 c2) rfl ?_
      refine wp_aload_n (M := mX11_longFor) (pc := 57) dX11_longFor_57 rfl rfl ?_
      refine xs_getr (M := mX11_longFor) (pc := 58) (r := 110) dX11_longFor_58 fX11_92 sh82 rfl (gr82_43 sw) ?_
      refine wp_iload (M := mX11_longFor) (pc := 61) dX11_longFor_61 rfl ?_
      refine xs_iald (M := mX11_longFor) (pc := 63) (j := x4.toNatClampNeg) dX11_longFor_63 sh110 (p6 c1 c2) rfl ?_
      refine wp_icmp_gt (M := mX11_longFor) (pc := 64) (t := 91) dX11_longFor_64 (by decide) (fun c3 => ?_) (fun c3 => ?_)
      · refine wp_iload (M := mX11_longFor) (pc := 91) dX11_longFor_91 rfl ?_
        refine wp_iconst (M := mX11_longFor) (pc := 93) dX11_longFor_93 k_iconst_1 ?_
        refine wp_iadd (M := mX11_longFor) (pc := 94) dX11_longFor_94 ?_
        refine wp_istore (M := mX11_longFor) (pc := 95) (ls' := [.ref 82, .int x1, .int x2, .int x3, .int x4, .int (x5 + 1), .int x6]) dX11_longFor_95 (by decide) rfl ?_
        refine wp_iinc (M := mX11_longFor) (pc := 97) (v := x6 + 1) (ls' := [.ref 82, .int x1, .int x2, .int x3, .int x4, .int (x5 + 1), .int (x6 + 1)]) dX11_longFor_97 rfl (congrArg (fun z => _ + z) k_iconst_1) (by decide) rfl ?_
        refine wp_goto (M := mX11_longFor) (pc := 100) (t := 34) dX11_longFor_100 (by decide) ?_
        exact p7 c1 c2 c3
      · refine wp_aload_n (M := mX11_longFor) (pc := 67) dX11_longFor_67 rfl rfl ?_
        refine xs_getr (M := mX11_longFor) (pc := 68) (r := 110) dX11_longFor_68 fX11_92 sh82 rfl (gr82_43 sw) ?_
        refine wp_iload (M := mX11_longFor) (pc := 71) dX11_longFor_71 rfl ?_
        refine xs_iald (M := mX11_longFor) (pc := 73) (j := x6.toNatClampNeg) dX11_longFor_73 sh110 (p8 c1 c2 c3) rfl ?_
        refine wp_aload_n (M := mX11_longFor) (pc := 74) dX11_longFor_74 rfl rfl ?_
        refine xs_getr (M := mX11_longFor) (pc := 75) (r := 110) dX11_longFor_75 fX11_92 sh82 rfl (gr82_43 sw) ?_
        refine wp_iload (M := mX11_longFor) (pc := 78) dX11_longFor_78 rfl ?_
        refine xs_iald (M := mX11_longFor) (pc := 80) (j := x4.toNatClampNeg) dX11_longFor_80 sh110 (p9 c1 c2 c3) rfl ?_
        refine wp_icmp_ne (M := mX11_longFor) (pc := 81) (t := 97) dX11_longFor_81 (by decide) (fun c4 => ?_) (fun c4 => ?_)
        · refine wp_iinc (M := mX11_longFor) (pc := 97) (v := x6 + 1) (ls' := [.ref 82, .int x1, .int x2, .int x3, .int x4, .int x5, .int (x6 + 1)]) dX11_longFor_97 rfl (congrArg (fun z => _ + z) k_iconst_1) (by decide) rfl ?_
          refine wp_goto (M := mX11_longFor) (pc := 100) (t := 34) dX11_longFor_100 (by decide) ?_
          exact p10 c1 c2 c3 c4
        · refine wp_iload (M := mX11_longFor) (pc := 84) dX11_longFor_84 rfl ?_
          refine wp_iload (M := mX11_longFor) (pc := 86) dX11_longFor_86 rfl ?_
          refine wp_icmp_ge (M := mX11_longFor) (pc := 88) (t := 97) dX11_longFor_88 (by decide) (fun c5 => ?_) (fun c5 => ?_)
          · refine wp_iinc (M := mX11_longFor) (pc := 97) (v := x6 + 1) (ls' := [.ref 82, .int x1, .int x2, .int x3, .int x4, .int x5, .int (x6 + 1)]) dX11_longFor_97 rfl (congrArg (fun z => _ + z) k_iconst_1) (by decide) rfl ?_
            refine wp_goto (M := mX11_longFor) (pc := 100) (t := 34) dX11_longFor_100 (by decide) ?_
            exact p11 c1 c2 c3 c4 c5
          · refine wp_iload (M := mX11_longFor) (pc := 91) dX11_longFor_91 rfl ?_
            refine wp_iconst (M := mX11_longFor) (pc := 93) dX11_longFor_93 k_iconst_1 ?_
            refine wp_iadd (M := mX11_longFor) (pc := 94) dX11_longFor_94 ?_
            refine wp_istore (M := mX11_longFor) (pc := 95) (ls' := [.ref 82, .int x1, .int x2, .int x3, .int x4, .int (x5 + 1), .int x6]) dX11_longFor_95 (by decide) rfl ?_
            refine wp_iinc (M := mX11_longFor) (pc := 97) (v := x6 + 1) (ls' := [.ref 82, .int x1, .int x2, .int x3, .int x4, .int (x5 + 1), .int (x6 + 1)]) dX11_longFor_97 rfl (congrArg (fun z => _ + z) k_iconst_1) (by decide) rfl ?_
            refine wp_goto (M := mX11_longFor) (pc := 100) (t := 34) dX11_longFor_100 (by decide) ?_
            exact p12 c1 c2 c3 c4 c5
theorem bX11_epitaph_0 {G : GC} {d : Nat} {sw : Bool} {f : FF} {Q : QQ} {x1 : Int32} {x2 : Int32} {x3 : Int32} {x4 : Int32} (p1 : (¬ (1 ≤ x1 ∧ x1 ≤ 30)) → Q (some (.int (-1))) sw f) (p2 : (1 ≤ x1 ∧ x1 ≤ 30) → (¬ (1 ≤ x2 ∧ x2 ≤ 30)) → Q (some (.int (-1))) sw f) (p3 : (1 ≤ x1 ∧ x1 ≤ 30) → (1 ≤ x2 ∧ x2 ≤ 30) → (¬ (0 ≤ x4 ∧ x4 ≤ (x2 - 1))) → Q (some (.int (-1))) sw f) (p4 : (1 ≤ x1 ∧ x1 ≤ 30) → (1 ≤ x2 ∧ x2 ≤ 30) → (0 ≤ x4 ∧ x4 ≤ (x2 - 1)) → ((x1 + x2) ≤ (f 82 10)) → XP G mX11_epitaph (d + 2) 52 [.ref 82, .int x1, .int x2, .int x3, .int x4, .int 0, .null] [] sw (upd2 f 82 10 0) Q) (p5 : (1 ≤ x1 ∧ x1 ≤ 30) → (1 ≤ x2 ∧ x2 ≤ 30) → (0 ≤ x4 ∧ x4 ≤ (x2 - 1)) → (¬ (x1 + x2) ≤ (f 82 10)) → Q (some (.int (-1))) sw f) : XP G mX11_epitaph (d + 2) 0 [.ref 82, .int x1, .int x2, .int x3, .int x4, .null, .null] [] sw f Q := by
  refine wp_iload_n (M := mX11_epitaph) (pc := 0) dX11_epitaph_0 rfl rfl ?_
  refine wp_iconst (M := mX11_epitaph) (pc := 1) dX11_epitaph_1 k_iconst_1 ?_
  refine wp_bipush (M := mX11_epitaph) (pc := 2) dX11_epitaph_2 k_bipush_30 ?_
  refine xs_callS (d := d + 1) (M := mX11_epitaph) (pc := 4) (As := [.int x1, .int 1, .int 30]) (st := []) (ls' := [.int x1, .int 1, .int 30]) dX11_epitaph_4 oX11_in nX11_in lX11_111 tX11_in (Nat.le_of_ble_eq_true rfl) rfl (Nat.le_of_ble_eq_true rfl) rfl ?_
  refine sp_X11_in   ?_
  refine xs_ifb_eq (M := mX11_epitaph) (pc := 7) (t := 42) dX11_epitaph_7 (by decide) (fun c1 => ?_) (fun c1 => ?_)
  · refine wp_iconst (M := mX11_epitaph) (pc := 42) dX11_epitaph_42 k_iconst_m1 ?_
    exact xs_iret (M := mX11_epitaph) (pc := 43) dX11_epitaph_43 rfl (p1 c1)
  · refine wp_iload_n (M := mX11_epitaph) (pc := 10) dX11_epitaph_10 rfl rfl ?_
    refine wp_iconst (M := mX11_epitaph) (pc := 11) dX11_epitaph_11 k_iconst_1 ?_
    refine wp_bipush (M := mX11_epitaph) (pc := 12) dX11_epitaph_12 k_bipush_30 ?_
    refine xs_callS (d := d + 1) (M := mX11_epitaph) (pc := 14) (As := [.int x2, .int 1, .int 30]) (st := []) (ls' := [.int x2, .int 1, .int 30]) dX11_epitaph_14 oX11_in nX11_in lX11_111 tX11_in (Nat.le_of_ble_eq_true rfl) rfl (Nat.le_of_ble_eq_true rfl) rfl ?_
    refine sp_X11_in   ?_
    refine xs_ifb_eq (M := mX11_epitaph) (pc := 17) (t := 42) dX11_epitaph_17 (by decide) (fun c2 => ?_) (fun c2 => ?_)
    · refine wp_iconst (M := mX11_epitaph) (pc := 42) dX11_epitaph_42 k_iconst_m1 ?_
      exact xs_iret (M := mX11_epitaph) (pc := 43) dX11_epitaph_43 rfl (p2 c1 c2)
    · refine wp_iload (M := mX11_epitaph) (pc := 20) dX11_epitaph_20 rfl ?_
      refine wp_iconst (M := mX11_epitaph) (pc := 22) dX11_epitaph_22 k_iconst_0 ?_
      refine wp_iload_n (M := mX11_epitaph) (pc := 23) dX11_epitaph_23 rfl rfl ?_
      refine wp_iconst (M := mX11_epitaph) (pc := 24) dX11_epitaph_24 k_iconst_1 ?_
      refine wp_isub (M := mX11_epitaph) (pc := 25) dX11_epitaph_25 ?_
      refine xs_callS (d := d + 1) (M := mX11_epitaph) (pc := 26) (As := [.int x4, .int 0, .int (x2 - 1)]) (st := []) (ls' := [.int x4, .int 0, .int (x2 - 1)]) dX11_epitaph_26 oX11_in nX11_in lX11_111 tX11_in (Nat.le_of_ble_eq_true rfl) rfl (Nat.le_of_ble_eq_true rfl) rfl ?_
      refine sp_X11_in   ?_
      refine xs_ifb_eq (M := mX11_epitaph) (pc := 29) (t := 42) dX11_epitaph_29 (by decide) (fun c3 => ?_) (fun c3 => ?_)
      · refine wp_iconst (M := mX11_epitaph) (pc := 42) dX11_epitaph_42 k_iconst_m1 ?_
        exact xs_iret (M := mX11_epitaph) (pc := 43) dX11_epitaph_43 rfl (p3 c1 c2 c3)
      · refine wp_iload_n (M := mX11_epitaph) (pc := 32) dX11_epitaph_32 rfl rfl ?_
        refine wp_iload_n (M := mX11_epitaph) (pc := 33) dX11_epitaph_33 rfl rfl ?_
        refine wp_iadd (M := mX11_epitaph) (pc := 34) dX11_epitaph_34 ?_
        refine wp_aload_n (M := mX11_epitaph) (pc := 35) dX11_epitaph_35 rfl rfl ?_
        refine xs_geti (M := mX11_epitaph) (pc := 36) dX11_epitaph_36 fX11_146 sh82 rfl ?_
        refine wp_icmp_le (M := mX11_epitaph) (pc := 39) (t := 44) dX11_epitaph_39 (by decide) (fun c4 => ?_) (fun c4 => ?_)
        · refine wp_aload_n (M := mX11_epitaph) (pc := 44) dX11_epitaph_44 rfl rfl ?_
          refine wp_iconst (M := mX11_epitaph) (pc := 45) dX11_epitaph_45 k_iconst_0 ?_
          refine xs_puti (M := mX11_epitaph) (pc := 46) dX11_epitaph_46 pX11_146 sh82 rfl ?_
          refine wp_iconst (M := mX11_epitaph) (pc := 49) dX11_epitaph_49 k_iconst_0 ?_
          refine wp_istore (M := mX11_epitaph) (pc := 50) (ls' := [.ref 82, .int x1, .int x2, .int x3, .int x4, .int 0, .null]) dX11_epitaph_50 (by decide) rfl ?_
          exact p4 c1 c2 c3 c4
        · refine wp_iconst (M := mX11_epitaph) (pc := 42) dX11_epitaph_42 k_iconst_m1 ?_
          exact xs_iret (M := mX11_epitaph) (pc := 43) dX11_epitaph_43 rfl (p5 c1 c2 c3 c4)
theorem bX11_epitaph_52 {G : GC} {d : Nat} {sw : Bool} {f : FF} {Q : QQ} {x1 : Int32} {x2 : Int32} {x3 : Int32} {x4 : Int32} {x5 : Int32} {v6 : Value} (p1 : ((x1 + x2) ≤ x5) → XP G mX11_laysAlphabet (d + 1) 0 [.ref 82, .int x1, .null, .null, .null, .null] [] sw f (fun v sw' f' => XP G mX11_epitaph (d + 2) 94 [.ref 82, .int x1, .int x2, .int x3, .int x4, .int x5, v6] (retst v []) sw' f' Q)) (p2 : (¬ (x1 + x2) ≤ x5) → vp_in x5 260) (p3 : (¬ (x1 + x2) ≤ x5) → (65 ≤ (oct f x5) ∧ (oct f x5) ≤ 90) → XP G mX11_epitaph (d + 2) 52 [.ref 82, .int x1, .int x2, .int x3, .int x4, .int (x5 + 1), v6] [] sw f Q) (p4 : (¬ (x1 + x2) ≤ x5) → (¬ (65 ≤ (oct f x5) ∧ (oct f x5) ≤ 90)) → Q (some (.int ((-1000) - x5))) sw f) : XP G mX11_epitaph (d + 2) 52 [.ref 82, .int x1, .int x2, .int x3, .int x4, .int x5, v6] [] sw f Q := by
  refine wp_iload (M := mX11_epitaph) (pc := 52) dX11_epitaph_52 rfl ?_
  refine wp_iload_n (M := mX11_epitaph) (pc := 54) dX11_epitaph_54 rfl rfl ?_
  refine wp_iload_n (M := mX11_epitaph) (pc := 55) dX11_epitaph_55 rfl rfl ?_
  refine wp_iadd (M := mX11_epitaph) (pc := 56) dX11_epitaph_56 ?_
  refine wp_icmp_ge (M := mX11_epitaph) (pc := 57) (t := 89) dX11_epitaph_57 (by decide) (fun c1 => ?_) (fun c1 => ?_)
  · refine wp_aload_n (M := mX11_epitaph) (pc := 89) dX11_epitaph_89 rfl rfl ?_
    refine wp_iload_n (M := mX11_epitaph) (pc := 90) dX11_epitaph_90 rfl rfl ?_
    refine xs_callV (d := d + 1) (M := mX11_epitaph) (pc := 91) (As := [.int x1]) (st := []) (c := 11) (ls' := [.ref 82, .int x1, .null, .null, .null, .null]) dX11_epitaph_91 oX11_laysAlphabet nX11_laysAlphabet lX11_367 vX11_laysAlphabet sX11_laysAlphabet rfl sh82 (Nat.le_of_ble_eq_true rfl) rfl (Nat.le_of_ble_eq_true rfl) rfl ?_
    exact p1 c1
  · refine wp_aload_n (M := mX11_epitaph) (pc := 60) dX11_epitaph_60 rfl rfl ?_
    refine wp_iload (M := mX11_epitaph) (pc := 61) dX11_epitaph_61 rfl ?_
    refine xs_callV (d := d + 1) (M := mX11_epitaph) (pc := 63) (As := [.int x5]) (st := []) (c := 11) (ls' := [.ref 82, .int x5]) dX11_epitaph_63 oX11_octet nX11_octet lX11_338 vX11_octet sX11_octet rfl sh82 (Nat.le_of_ble_eq_true rfl) rfl (Nat.le_of_ble_eq_true rfl) rfl ?_
    refine sp_X11_octet  (p2 c1) ?_
    refine wp_bipush (M := mX11_epitaph) (pc := 66) dX11_epitaph_66 k_bipush_65 ?_
    refine wp_bipush (M := mX11_epitaph) (pc := 68) dX11_epitaph_68 k_bipush_90 ?_
    refine xs_callS (d := d + 1) (M := mX11_epitaph) (pc := 70) (As := [.int (oct f x5), .int 65, .int 90]) (st := []) (ls' := [.int (oct f x5), .int 65, .int 90]) dX11_epitaph_70 oX11_in nX11_in lX11_111 tX11_in (Nat.le_of_ble_eq_true rfl) rfl (Nat.le_of_ble_eq_true rfl) rfl ?_
    refine sp_X11_in   ?_
    refine xs_ifb_ne (M := mX11_epitaph) (pc := 73) (t := 83) dX11_epitaph_73 (by decide) (fun c2 => ?_) (fun c2 => ?_)
    · refine wp_iinc (M := mX11_epitaph) (pc := 83) (v := x5 + 1) (ls' := [.ref 82, .int x1, .int x2, .int x3, .int x4, .int (x5 + 1), v6]) dX11_epitaph_83 rfl (congrArg (fun z => _ + z) k_iconst_1) (by decide) rfl ?_
      refine wp_goto (M := mX11_epitaph) (pc := 86) (t := 52) dX11_epitaph_86 (by decide) ?_
      exact p3 c1 c2
    · refine wp_sipush (M := mX11_epitaph) (pc := 76) dX11_epitaph_76 k_sipush_m1000 ?_
      refine wp_iload (M := mX11_epitaph) (pc := 79) dX11_epitaph_79 rfl ?_
      refine wp_isub (M := mX11_epitaph) (pc := 81) dX11_epitaph_81 ?_
      exact xs_iret (M := mX11_epitaph) (pc := 82) dX11_epitaph_82 rfl (p4 c1 c2)
theorem bX11_epitaph_94 {G : GC} {d : Nat} {sw : Bool} {f : FF} {Q : QQ} {x1 : Int32} {x2 : Int32} {x3 : Int32} {x4 : Int32} {x5 : Int32} {v6 : Value} (p1 : vp_in (x1 + x4) 260) (p2 : (¬ x3 = 0) → XP G mX11_epitaph (d + 2) 122 [.ref 82, .int x1, .int x2, .int x3, .int x4, .int ((oct f (x1 + x4)) - 65), .int 0] [] sw f Q) (p3 : (x3 = 0) → vp_in ((oct f (x1 + x4)) - 65) 26) (p4 : (x3 = 0) → Q (some (.int (f 111 (((oct f (x1 + x4)) - 65).toNatClampNeg)))) sw f) : XP G mX11_epitaph (d + 2) 94 [.ref 82, .int x1, .int x2, .int x3, .int x4, .int x5, v6] [] sw f Q := by
  refine wp_aload_n (M := mX11_epitaph) (pc := 94) dX11_epitaph_94 rfl rfl ?_
  refine wp_iload_n (M := mX11_epitaph) (pc := 95) dX11_epitaph_95 rfl rfl ?_
  refine wp_iload (M := mX11_epitaph) (pc := 96) dX11_epitaph_96 rfl ?_
  refine wp_iadd (M := mX11_epitaph) (pc := 98) dX11_epitaph_98 ?_
  refine xs_callV (d := d + 1) (M := mX11_epitaph) (pc := 99) (As := [.int (x1 + x4)]) (st := []) (c := 11) (ls' := [.ref 82, .int (x1 + x4)]) dX11_epitaph_99 oX11_octet nX11_octet lX11_338 vX11_octet sX11_octet rfl sh82 (Nat.le_of_ble_eq_true rfl) rfl (Nat.le_of_ble_eq_true rfl) rfl ?_
  refine sp_X11_octet  (p1) ?_
  refine wp_bipush (M := mX11_epitaph) (pc := 102) dX11_epitaph_102 k_bipush_65 ?_
  refine wp_isub (M := mX11_epitaph) (pc := 104) dX11_epitaph_104 ?_
  refine wp_istore (M := mX11_epitaph) (pc := 105) (ls' := [.ref 82, .int x1, .int x2, .int x3, .int x4, .int ((oct f (x1 + x4)) - 65), v6]) dX11_epitaph_105 (by decide) rfl ?_
  refine wp_iload_n (M := mX11_epitaph) (pc := 107) dX11_epitaph_107 rfl rfl ?_
  refine wp_if_ne (M := mX11_epitaph) (pc := 108) (t := 119) dX11_epitaph_108 (by decide) (fun c1 => ?_) (fun c1 => ?_)
  · refine wp_iconst (M := mX11_epitaph) (pc := 119) dX11_epitaph_119 k_iconst_0 ?_
    refine wp_istore (M := mX11_epitaph) (pc := 120) (ls' := [.ref 82, .int x1, .int x2, .int x3, .int x4, .int ((oct f (x1 + x4)) - 65), .int 0]) dX11_epitaph_120 (by decide) rfl ?_
    exact p2 c1
  · refine wp_aload_n (M := mX11_epitaph) (pc := 111) dX11_epitaph_111 rfl rfl ?_
    refine xs_getr (M := mX11_epitaph) (pc := 112) (r := 111) dX11_epitaph_112 fX11_95 sh82 rfl (gr82_44 sw) ?_
    refine wp_iload (M := mX11_epitaph) (pc := 115) dX11_epitaph_115 rfl ?_
    refine xs_iald (M := mX11_epitaph) (pc := 117) (j := ((oct f (x1 + x4)) - 65).toNatClampNeg) dX11_epitaph_117 sh111 (p3 c1) rfl ?_
    exact xs_iret (M := mX11_epitaph) (pc := 118) dX11_epitaph_118 rfl (p4 c1)
theorem bX11_epitaph_122 {G : GC} {d : Nat} {sw : Bool} {f : FF} {Q : QQ} {x1 : Int32} {x2 : Int32} {x3 : Int32} {x4 : Int32} {x5 : Int32} {x6 : Int32} (p1 : vp_in x6 26) (p2 : ((f 111 x6.toNatClampNeg) = x5) → Q (some (.int x6)) sw f) (p3 : (¬ (f 111 x6.toNatClampNeg) = x5) → XP G mX11_epitaph (d + 2) 122 [.ref 82, .int x1, .int x2, .int x3, .int x4, .int x5, .int (x6 + 1)] [] sw f Q) : XP G mX11_epitaph (d + 2) 122 [.ref 82, .int x1, .int x2, .int x3, .int x4, .int x5, .int x6] [] sw f Q := by
  refine wp_aload_n (M := mX11_epitaph) (pc := 122) dX11_epitaph_122 rfl rfl ?_
  refine xs_getr (M := mX11_epitaph) (pc := 123) (r := 111) dX11_epitaph_123 fX11_95 sh82 rfl (gr82_44 sw) ?_
  refine wp_iload (M := mX11_epitaph) (pc := 126) dX11_epitaph_126 rfl ?_
  refine xs_iald (M := mX11_epitaph) (pc := 128) (j := x6.toNatClampNeg) dX11_epitaph_128 sh111 (p1) rfl ?_
  refine wp_iload (M := mX11_epitaph) (pc := 129) dX11_epitaph_129 rfl ?_
  refine wp_icmp_eq (M := mX11_epitaph) (pc := 131) (t := 143) dX11_epitaph_131 (by decide) (fun c1 => ?_) (fun c1 => ?_)
  · refine wp_iload (M := mX11_epitaph) (pc := 143) dX11_epitaph_143 rfl ?_
    exact xs_iret (M := mX11_epitaph) (pc := 145) dX11_epitaph_145 rfl (p2 c1)
  · refine wp_iload (M := mX11_epitaph) (pc := 134) dX11_epitaph_134 rfl ?_
    refine wp_iconst (M := mX11_epitaph) (pc := 136) dX11_epitaph_136 k_iconst_1 ?_
    refine wp_iadd (M := mX11_epitaph) (pc := 137) dX11_epitaph_137 ?_
    refine wp_istore (M := mX11_epitaph) (pc := 138) (ls' := [.ref 82, .int x1, .int x2, .int x3, .int x4, .int x5, .int (x6 + 1)]) dX11_epitaph_138 (by decide) rfl ?_
    refine wp_goto (M := mX11_epitaph) (pc := 140) (t := 122) dX11_epitaph_140 (by decide) ?_
    exact p3 c1
theorem bX11_laysAlphabet_0 {G : GC} {d : Nat} {sw : Bool} {f : FF} {Q : QQ} {x1 : Int32} (p1 : XP G mX11_laysAlphabet (d + 1) 7 [.ref 82, .int x1, .int 0, .int 0, .int 0, .null] [] sw f Q) : XP G mX11_laysAlphabet (d + 1) 0 [.ref 82, .int x1, .null, .null, .null, .null] [] sw f Q := by
  refine wp_iconst (M := mX11_laysAlphabet) (pc := 0) dX11_laysAlphabet_0 k_iconst_0 ?_
  refine wp_istore_n (M := mX11_laysAlphabet) (pc := 1) (ls' := [.ref 82, .int x1, .int 0, .null, .null, .null]) dX11_laysAlphabet_1 rfl (by decide) rfl ?_
  refine wp_iconst (M := mX11_laysAlphabet) (pc := 2) dX11_laysAlphabet_2 k_iconst_0 ?_
  refine wp_istore_n (M := mX11_laysAlphabet) (pc := 3) (ls' := [.ref 82, .int x1, .int 0, .int 0, .null, .null]) dX11_laysAlphabet_3 rfl (by decide) rfl ?_
  refine wp_iconst (M := mX11_laysAlphabet) (pc := 4) dX11_laysAlphabet_4 k_iconst_0 ?_
  refine wp_istore (M := mX11_laysAlphabet) (pc := 5) (ls' := [.ref 82, .int x1, .int 0, .int 0, .int 0, .null]) dX11_laysAlphabet_5 (by decide) rfl ?_
  exact p1
theorem bX11_laysAlphabet_7 {G : GC} {d : Nat} {sw : Bool} {f : FF} {Q : QQ} {x1 : Int32} {x2 : Int32} {x3 : Int32} {x4 : Int32} {v5 : Value} (p1 : ((x1 + 26) ≤ x4) → Q none sw f) (p2 : (¬ (x1 + 26) ≤ x4) → (x1 ≤ x4) → (¬ (hasB x2 (x4 - x1))) → vp_in x3 26) (p3 : (¬ (x1 + 26) ≤ x4) → (x1 ≤ x4) → (¬ (hasB x2 (x4 - x1))) → XP G mX11_laysAlphabet (d + 1) 7 [.ref 82, .int x1, .int (x2 ||| ((1 : Int32) <<< ((x4 - x1) &&& 31))), .int (x3 + 1), .int (x4 + 1), .int (x4 - x1)] [] sw (upd2 f 111 x3.toNatClampNeg (x4 - x1)) Q) (p4 : (¬ (x1 + 26) ≤ x4) → (x1 ≤ x4) → (hasB x2 (x4 - x1)) → XP G mX11_laysAlphabet (d + 1) 7 [.ref 82, .int x1, .int x2, .int x3, .int (x4 + 1), .int (x4 - x1)] [] sw f Q) (p5 : (¬ (x1 + 26) ≤ x4) → (¬ x1 ≤ x4) → vp_in x4 260) (p6 : (¬ (x1 + 26) ≤ x4) → (¬ x1 ≤ x4) → (¬ (hasB x2 ((oct f x4) - 65))) → vp_in x3 26) (p7 : (¬ (x1 + 26) ≤ x4) → (¬ x1 ≤ x4) → (¬ (hasB x2 ((oct f x4) - 65))) → XP G mX11_laysAlphabet (d + 1) 7 [.ref 82, .int x1, .int (x2 ||| ((1 : Int32) <<< (((oct f x4) - 65) &&& 31))), .int (x3 + 1), .int (x4 + 1), .int ((oct f x4) - 65)] [] sw (upd2 f 111 x3.toNatClampNeg ((oct f x4) - 65)) Q) (p8 : (¬ (x1 + 26) ≤ x4) → (¬ x1 ≤ x4) → (hasB x2 ((oct f x4) - 65)) → XP G mX11_laysAlphabet (d + 1) 7 [.ref 82, .int x1, .int x2, .int x3, .int (x4 + 1), .int ((oct f x4) - 65)] [] sw f Q) : XP G mX11_laysAlphabet (d + 1) 7 [.ref 82, .int x1, .int x2, .int x3, .int x4, v5] [] sw f Q := by
  refine wp_iload (M := mX11_laysAlphabet) (pc := 7) dX11_laysAlphabet_7 rfl ?_
  refine wp_iload_n (M := mX11_laysAlphabet) (pc := 9) dX11_laysAlphabet_9 rfl rfl ?_
  refine wp_bipush (M := mX11_laysAlphabet) (pc := 10) dX11_laysAlphabet_10 k_bipush_26 ?_
  refine wp_iadd (M := mX11_laysAlphabet) (pc := 12) dX11_laysAlphabet_12 ?_
  refine wp_icmp_ge (M := mX11_laysAlphabet) (pc := 13) (t := 77) dX11_laysAlphabet_13 (by decide) (fun c1 => ?_) (fun c1 => ?_)
  · exact xs_ret (M := mX11_laysAlphabet) (pc := 77) dX11_laysAlphabet_77 rfl (p1 c1)
  · refine wp_iload (M := mX11_laysAlphabet) (pc := 16) dX11_laysAlphabet_16 rfl ?_
    refine wp_iload_n (M := mX11_laysAlphabet) (pc := 18) dX11_laysAlphabet_18 rfl rfl ?_
    refine wp_icmp_ge (M := mX11_laysAlphabet) (pc := 19) (t := 34) dX11_laysAlphabet_19 (by decide) (fun c2 => ?_) (fun c2 => ?_)
    · refine wp_iload (M := mX11_laysAlphabet) (pc := 34) dX11_laysAlphabet_34 rfl ?_
      refine wp_iload_n (M := mX11_laysAlphabet) (pc := 36) dX11_laysAlphabet_36 rfl rfl ?_
      refine wp_isub (M := mX11_laysAlphabet) (pc := 37) dX11_laysAlphabet_37 ?_
      refine wp_istore (M := mX11_laysAlphabet) (pc := 38) (ls' := [.ref 82, .int x1, .int x2, .int x3, .int x4, .int (x4 - x1)]) dX11_laysAlphabet_38 (by decide) rfl ?_
      refine wp_iload_n (M := mX11_laysAlphabet) (pc := 40) dX11_laysAlphabet_40 rfl rfl ?_
      refine wp_iload (M := mX11_laysAlphabet) (pc := 41) dX11_laysAlphabet_41 rfl ?_
      refine xs_callS (d := d) (M := mX11_laysAlphabet) (pc := 43) (As := [.int x2, .int (x4 - x1)]) (st := []) (ls' := [.int x2, .int (x4 - x1)]) dX11_laysAlphabet_43 oX11_has nX11_has lX11_335 tX11_has (Nat.le_of_ble_eq_true rfl) rfl (Nat.le_of_ble_eq_true rfl) rfl ?_
      refine sp_X11_has   ?_
      refine xs_ifb_eq (M := mX11_laysAlphabet) (pc := 46) (t := 52) dX11_laysAlphabet_46 (by decide) (fun c3 => ?_) (fun c3 => ?_)
      · refine wp_iload_n (M := mX11_laysAlphabet) (pc := 52) dX11_laysAlphabet_52 rfl rfl ?_
        refine wp_iconst (M := mX11_laysAlphabet) (pc := 53) dX11_laysAlphabet_53 k_iconst_1 ?_
        refine wp_iload (M := mX11_laysAlphabet) (pc := 54) dX11_laysAlphabet_54 rfl ?_
        refine wp_ishl (M := mX11_laysAlphabet) (pc := 56) dX11_laysAlphabet_56 ?_
        refine wp_ior (M := mX11_laysAlphabet) (pc := 57) dX11_laysAlphabet_57 ?_
        refine wp_istore_n (M := mX11_laysAlphabet) (pc := 58) (ls' := [.ref 82, .int x1, .int (x2 ||| ((1 : Int32) <<< ((x4 - x1) &&& 31))), .int x3, .int x4, .int (x4 - x1)]) dX11_laysAlphabet_58 rfl (by decide) rfl ?_
        refine wp_aload_n (M := mX11_laysAlphabet) (pc := 59) dX11_laysAlphabet_59 rfl rfl ?_
        refine xs_getr (M := mX11_laysAlphabet) (pc := 60) (r := 111) dX11_laysAlphabet_60 fX11_95 sh82 rfl (gr82_44 sw) ?_
        refine wp_iload_n (M := mX11_laysAlphabet) (pc := 63) dX11_laysAlphabet_63 rfl rfl ?_
        refine wp_iload (M := mX11_laysAlphabet) (pc := 64) dX11_laysAlphabet_64 rfl ?_
        refine xs_iast (M := mX11_laysAlphabet) (pc := 66) (j := x3.toNatClampNeg) dX11_laysAlphabet_66 sh111 (p2 c1 c2 c3) rfl ?_
        refine wp_iload_n (M := mX11_laysAlphabet) (pc := 67) dX11_laysAlphabet_67 rfl rfl ?_
        refine wp_iconst (M := mX11_laysAlphabet) (pc := 68) dX11_laysAlphabet_68 k_iconst_1 ?_
        refine wp_iadd (M := mX11_laysAlphabet) (pc := 69) dX11_laysAlphabet_69 ?_
        refine wp_istore_n (M := mX11_laysAlphabet) (pc := 70) (ls' := [.ref 82, .int x1, .int (x2 ||| ((1 : Int32) <<< ((x4 - x1) &&& 31))), .int (x3 + 1), .int x4, .int (x4 - x1)]) dX11_laysAlphabet_70 rfl (by decide) rfl ?_
        refine wp_iinc (M := mX11_laysAlphabet) (pc := 71) (v := x4 + 1) (ls' := [.ref 82, .int x1, .int (x2 ||| ((1 : Int32) <<< ((x4 - x1) &&& 31))), .int (x3 + 1), .int (x4 + 1), .int (x4 - x1)]) dX11_laysAlphabet_71 rfl (congrArg (fun z => _ + z) k_iconst_1) (by decide) rfl ?_
        refine wp_goto (M := mX11_laysAlphabet) (pc := 74) (t := 7) dX11_laysAlphabet_74 (by decide) ?_
        exact p3 c1 c2 c3
      · refine wp_goto (M := mX11_laysAlphabet) (pc := 49) (t := 71) dX11_laysAlphabet_49 (by decide) ?_
        refine wp_iinc (M := mX11_laysAlphabet) (pc := 71) (v := x4 + 1) (ls' := [.ref 82, .int x1, .int x2, .int x3, .int (x4 + 1), .int (x4 - x1)]) dX11_laysAlphabet_71 rfl (congrArg (fun z => _ + z) k_iconst_1) (by decide) rfl ?_
        refine wp_goto (M := mX11_laysAlphabet) (pc := 74) (t := 7) dX11_laysAlphabet_74 (by decide) ?_
        exact p4 c1 c2 c3
    · refine wp_aload_n (M := mX11_laysAlphabet) (pc := 22) dX11_laysAlphabet_22 rfl rfl ?_
      refine wp_iload (M := mX11_laysAlphabet) (pc := 23) dX11_laysAlphabet_23 rfl ?_
      refine xs_callV (d := d) (M := mX11_laysAlphabet) (pc := 25) (As := [.int x4]) (st := []) (c := 11) (ls' := [.ref 82, .int x4]) dX11_laysAlphabet_25 oX11_octet nX11_octet lX11_338 vX11_octet sX11_octet rfl sh82 (Nat.le_of_ble_eq_true rfl) rfl (Nat.le_of_ble_eq_true rfl) rfl ?_
      refine sp_X11_octet  (p5 c1 c2) ?_
      refine wp_bipush (M := mX11_laysAlphabet) (pc := 28) dX11_laysAlphabet_28 k_bipush_65 ?_
      refine wp_isub (M := mX11_laysAlphabet) (pc := 30) dX11_laysAlphabet_30 ?_
      refine wp_goto (M := mX11_laysAlphabet) (pc := 31) (t := 38) dX11_laysAlphabet_31 (by decide) ?_
      refine wp_istore (M := mX11_laysAlphabet) (pc := 38) (ls' := [.ref 82, .int x1, .int x2, .int x3, .int x4, .int ((oct f x4) - 65)]) dX11_laysAlphabet_38 (by decide) rfl ?_
      refine wp_iload_n (M := mX11_laysAlphabet) (pc := 40) dX11_laysAlphabet_40 rfl rfl ?_
      refine wp_iload (M := mX11_laysAlphabet) (pc := 41) dX11_laysAlphabet_41 rfl ?_
      refine xs_callS (d := d) (M := mX11_laysAlphabet) (pc := 43) (As := [.int x2, .int ((oct f x4) - 65)]) (st := []) (ls' := [.int x2, .int ((oct f x4) - 65)]) dX11_laysAlphabet_43 oX11_has nX11_has lX11_335 tX11_has (Nat.le_of_ble_eq_true rfl) rfl (Nat.le_of_ble_eq_true rfl) rfl ?_
      refine sp_X11_has   ?_
      refine xs_ifb_eq (M := mX11_laysAlphabet) (pc := 46) (t := 52) dX11_laysAlphabet_46 (by decide) (fun c4 => ?_) (fun c4 => ?_)
      · refine wp_iload_n (M := mX11_laysAlphabet) (pc := 52) dX11_laysAlphabet_52 rfl rfl ?_
        refine wp_iconst (M := mX11_laysAlphabet) (pc := 53) dX11_laysAlphabet_53 k_iconst_1 ?_
        refine wp_iload (M := mX11_laysAlphabet) (pc := 54) dX11_laysAlphabet_54 rfl ?_
        refine wp_ishl (M := mX11_laysAlphabet) (pc := 56) dX11_laysAlphabet_56 ?_
        refine wp_ior (M := mX11_laysAlphabet) (pc := 57) dX11_laysAlphabet_57 ?_
        refine wp_istore_n (M := mX11_laysAlphabet) (pc := 58) (ls' := [.ref 82, .int x1, .int (x2 ||| ((1 : Int32) <<< (((oct f x4) - 65) &&& 31))), .int x3, .int x4, .int ((oct f x4) - 65)]) dX11_laysAlphabet_58 rfl (by decide) rfl ?_
        refine wp_aload_n (M := mX11_laysAlphabet) (pc := 59) dX11_laysAlphabet_59 rfl rfl ?_
        refine xs_getr (M := mX11_laysAlphabet) (pc := 60) (r := 111) dX11_laysAlphabet_60 fX11_95 sh82 rfl (gr82_44 sw) ?_
        refine wp_iload_n (M := mX11_laysAlphabet) (pc := 63) dX11_laysAlphabet_63 rfl rfl ?_
        refine wp_iload (M := mX11_laysAlphabet) (pc := 64) dX11_laysAlphabet_64 rfl ?_
        refine xs_iast (M := mX11_laysAlphabet) (pc := 66) (j := x3.toNatClampNeg) dX11_laysAlphabet_66 sh111 (p6 c1 c2 c4) rfl ?_
        refine wp_iload_n (M := mX11_laysAlphabet) (pc := 67) dX11_laysAlphabet_67 rfl rfl ?_
        refine wp_iconst (M := mX11_laysAlphabet) (pc := 68) dX11_laysAlphabet_68 k_iconst_1 ?_
        refine wp_iadd (M := mX11_laysAlphabet) (pc := 69) dX11_laysAlphabet_69 ?_
        refine wp_istore_n (M := mX11_laysAlphabet) (pc := 70) (ls' := [.ref 82, .int x1, .int (x2 ||| ((1 : Int32) <<< (((oct f x4) - 65) &&& 31))), .int (x3 + 1), .int x4, .int ((oct f x4) - 65)]) dX11_laysAlphabet_70 rfl (by decide) rfl ?_
        refine wp_iinc (M := mX11_laysAlphabet) (pc := 71) (v := x4 + 1) (ls' := [.ref 82, .int x1, .int (x2 ||| ((1 : Int32) <<< (((oct f x4) - 65) &&& 31))), .int (x3 + 1), .int (x4 + 1), .int ((oct f x4) - 65)]) dX11_laysAlphabet_71 rfl (congrArg (fun z => _ + z) k_iconst_1) (by decide) rfl ?_
        refine wp_goto (M := mX11_laysAlphabet) (pc := 74) (t := 7) dX11_laysAlphabet_74 (by decide) ?_
        exact p7 c1 c2 c4
      · refine wp_goto (M := mX11_laysAlphabet) (pc := 49) (t := 71) dX11_laysAlphabet_49 (by decide) ?_
        refine wp_iinc (M := mX11_laysAlphabet) (pc := 71) (v := x4 + 1) (ls' := [.ref 82, .int x1, .int x2, .int x3, .int (x4 + 1), .int ((oct f x4) - 65)]) dX11_laysAlphabet_71 rfl (congrArg (fun z => _ + z) k_iconst_1) (by decide) rfl ?_
        refine wp_goto (M := mX11_laysAlphabet) (pc := 74) (t := 7) dX11_laysAlphabet_74 (by decide) ?_
        exact p8 c1 c2 c4
theorem bX11_code_0 {G : GC} {d : Nat} {sw : Bool} {f : FF} {Q : QQ} {x1 : Int32} {x2 : Int32} (p1 : (¬ (0 ≤ x1 ∧ x1 ≤ 7)) → Q (some (.int (-1))) sw f) (p2 : (0 ≤ x1 ∧ x1 ≤ 7) → (¬ (1 ≤ x2 ∧ x2 ≤ 6)) → Q (some (.int (-1))) sw f) (p3 : (0 ≤ x1 ∧ x1 ≤ 7) → (1 ≤ x2 ∧ x2 ≤ 6) → (x2 ≤ (f 82 10)) → XP G mX11_faultOfDigits (d + 1) 0 [.ref 82, .int x2, .null] [] sw (upd2 f 82 10 0) (fun v sw' f' => XP G mX11_code (d + 2) 40 [.ref 82, .int x1, .int x2, .null, .null] (retst v []) sw' f' Q)) (p4 : (0 ≤ x1 ∧ x1 ≤ 7) → (1 ≤ x2 ∧ x2 ≤ 6) → (¬ x2 ≤ (f 82 10)) → Q (some (.int (-1))) sw f) : XP G mX11_code (d + 2) 0 [.ref 82, .int x1, .int x2, .null, .null] [] sw f Q := by
  refine wp_iload_n (M := mX11_code) (pc := 0) dX11_code_0 rfl rfl ?_
  refine wp_iconst (M := mX11_code) (pc := 1) dX11_code_1 k_iconst_0 ?_
  refine wp_bipush (M := mX11_code) (pc := 2) dX11_code_2 k_bipush_7 ?_
  refine xs_callS (d := d + 1) (M := mX11_code) (pc := 4) (As := [.int x1, .int 0, .int 7]) (st := []) (ls' := [.int x1, .int 0, .int 7]) dX11_code_4 oX11_in nX11_in lX11_111 tX11_in (Nat.le_of_ble_eq_true rfl) rfl (Nat.le_of_ble_eq_true rfl) rfl ?_
  refine sp_X11_in   ?_
  refine xs_ifb_eq (M := mX11_code) (pc := 7) (t := 28) dX11_code_7 (by decide) (fun c1 => ?_) (fun c1 => ?_)
  · refine wp_iconst (M := mX11_code) (pc := 28) dX11_code_28 k_iconst_m1 ?_
    exact xs_iret (M := mX11_code) (pc := 29) dX11_code_29 rfl (p1 c1)
  · refine wp_iload_n (M := mX11_code) (pc := 10) dX11_code_10 rfl rfl ?_
    refine wp_iconst (M := mX11_code) (pc := 11) dX11_code_11 k_iconst_1 ?_
    refine wp_bipush (M := mX11_code) (pc := 12) dX11_code_12 k_bipush_6 ?_
    refine xs_callS (d := d + 1) (M := mX11_code) (pc := 14) (As := [.int x2, .int 1, .int 6]) (st := []) (ls' := [.int x2, .int 1, .int 6]) dX11_code_14 oX11_in nX11_in lX11_111 tX11_in (Nat.le_of_ble_eq_true rfl) rfl (Nat.le_of_ble_eq_true rfl) rfl ?_
    refine sp_X11_in   ?_
    refine xs_ifb_eq (M := mX11_code) (pc := 17) (t := 28) dX11_code_17 (by decide) (fun c2 => ?_) (fun c2 => ?_)
    · refine wp_iconst (M := mX11_code) (pc := 28) dX11_code_28 k_iconst_m1 ?_
      exact xs_iret (M := mX11_code) (pc := 29) dX11_code_29 rfl (p2 c1 c2)
    · refine wp_iload_n (M := mX11_code) (pc := 20) dX11_code_20 rfl rfl ?_
      refine wp_aload_n (M := mX11_code) (pc := 21) dX11_code_21 rfl rfl ?_
      refine xs_geti (M := mX11_code) (pc := 22) dX11_code_22 fX11_146 sh82 rfl ?_
      refine wp_icmp_le (M := mX11_code) (pc := 25) (t := 30) dX11_code_25 (by decide) (fun c3 => ?_) (fun c3 => ?_)
      · refine wp_aload_n (M := mX11_code) (pc := 30) dX11_code_30 rfl rfl ?_
        refine wp_iconst (M := mX11_code) (pc := 31) dX11_code_31 k_iconst_0 ?_
        refine xs_puti (M := mX11_code) (pc := 32) dX11_code_32 pX11_146 sh82 rfl ?_
        refine wp_aload_n (M := mX11_code) (pc := 35) dX11_code_35 rfl rfl ?_
        refine wp_iload_n (M := mX11_code) (pc := 36) dX11_code_36 rfl rfl ?_
        refine xs_callV (d := d + 1) (M := mX11_code) (pc := 37) (As := [.int x2]) (st := []) (c := 11) (ls' := [.ref 82, .int x2, .null]) dX11_code_37 oX11_faultOfDigits nX11_faultOfDigits lX11_370 vX11_faultOfDigits sX11_faultOfDigits rfl sh82 (Nat.le_of_ble_eq_true rfl) rfl (Nat.le_of_ble_eq_true rfl) rfl ?_
        exact p3 c1 c2 c3
      · refine wp_iconst (M := mX11_code) (pc := 28) dX11_code_28 k_iconst_m1 ?_
        exact xs_iret (M := mX11_code) (pc := 29) dX11_code_29 rfl (p4 c1 c2 c3)
theorem bX11_code_40 {G : GC} {d : Nat} {sw : Bool} {f : FF} {Q : QQ} {x1 : Int32} {x2 : Int32} {v3 : Value} {v4 : Value} {s0 : Int32} (p1 : (s0 = 0) → vp_in x1 8) (p2 : (s0 = 0) → XP G mX11_code (d + 2) 57 [.ref 82, .int x1, .int x2, .int s0, .int 0] [] sw (upd2 f 113 x1.toNatClampNeg x2) Q) (p3 : (¬ s0 = 0) → Q (some (.int s0)) sw f) : XP G mX11_code (d + 2) 40 [.ref 82, .int x1, .int x2, v3, v4] [.int s0] sw f Q := by
  refine wp_istore_n (M := mX11_code) (pc := 40) (ls' := [.ref 82, .int x1, .int x2, .int s0, v4]) dX11_code_40 rfl (by decide) rfl ?_
  refine wp_iload_n (M := mX11_code) (pc := 41) dX11_code_41 rfl rfl ?_
  refine wp_if_eq (M := mX11_code) (pc := 42) (t := 47) dX11_code_42 (by decide) (fun c1 => ?_) (fun c1 => ?_)
  · refine wp_aload_n (M := mX11_code) (pc := 47) dX11_code_47 rfl rfl ?_
    refine xs_getr (M := mX11_code) (pc := 48) (r := 113) dX11_code_48 fX11_101 sh82 rfl (gr82_46 sw) ?_
    refine wp_iload_n (M := mX11_code) (pc := 51) dX11_code_51 rfl rfl ?_
    refine wp_iload_n (M := mX11_code) (pc := 52) dX11_code_52 rfl rfl ?_
    refine xs_iast (M := mX11_code) (pc := 53) (j := x1.toNatClampNeg) dX11_code_53 sh113 (p1 c1) rfl ?_
    refine wp_iconst (M := mX11_code) (pc := 54) dX11_code_54 k_iconst_0 ?_
    refine wp_istore (M := mX11_code) (pc := 55) (ls' := [.ref 82, .int x1, .int x2, .int s0, .int 0]) dX11_code_55 (by decide) rfl ?_
    exact p2 c1
  · refine wp_iload_n (M := mX11_code) (pc := 45) dX11_code_45 rfl rfl ?_
    exact xs_iret (M := mX11_code) (pc := 46) dX11_code_46 rfl (p3 c1)
theorem bX11_code_57 {G : GC} {d : Nat} {sw : Bool} {f : FF} {Q : QQ} {x1 : Int32} {x2 : Int32} {x3 : Int32} {x4 : Int32} (p1 : (x2 ≤ x4) → Q (some (.int x2)) sw f) (p2 : (¬ x2 ≤ x4) → vp_in x4 260) (p3 : (¬ x2 ≤ x4) → vp_in ((6 * x1) + x4) 48) (p4 : (¬ x2 ≤ x4) → XP G mX11_code (d + 2) 57 [.ref 82, .int x1, .int x2, .int x3, .int (x4 + 1)] [] sw (upd2 f 112 (((6 * x1) + x4).toNatClampNeg) ((f 90 x4.toNatClampNeg).toInt8.toInt32)) Q) : XP G mX11_code (d + 2) 57 [.ref 82, .int x1, .int x2, .int x3, .int x4] [] sw f Q := by
  refine wp_iload (M := mX11_code) (pc := 57) dX11_code_57 rfl ?_
  refine wp_iload_n (M := mX11_code) (pc := 59) dX11_code_59 rfl rfl ?_
  refine wp_icmp_ge (M := mX11_code) (pc := 60) (t := 88) dX11_code_60 (by decide) (fun c1 => ?_) (fun c1 => ?_)
  · refine wp_iload_n (M := mX11_code) (pc := 88) dX11_code_88 rfl rfl ?_
    exact xs_iret (M := mX11_code) (pc := 89) dX11_code_89 rfl (p1 c1)
  · refine wp_aload_n (M := mX11_code) (pc := 63) dX11_code_63 rfl rfl ?_
    refine xs_getr (M := mX11_code) (pc := 64) (r := 112) dX11_code_64 fX11_98 sh82 rfl (gr82_45 sw) ?_
    refine wp_bipush (M := mX11_code) (pc := 67) dX11_code_67 k_bipush_6 ?_
    refine wp_iload_n (M := mX11_code) (pc := 69) dX11_code_69 rfl rfl ?_
    refine wp_imul (M := mX11_code) (pc := 70) dX11_code_70 ?_
    refine wp_iload (M := mX11_code) (pc := 71) dX11_code_71 rfl ?_
    refine wp_iadd (M := mX11_code) (pc := 73) dX11_code_73 ?_
    refine wp_aload_n (M := mX11_code) (pc := 74) dX11_code_74 rfl rfl ?_
    refine xs_getr (M := mX11_code) (pc := 75) (r := 90) dX11_code_75 fX11_31 sh82 rfl (gr82_9 sw) ?_
    refine wp_iload (M := mX11_code) (pc := 78) dX11_code_78 rfl ?_
    refine xs_bald (M := mX11_code) (pc := 80) (j := x4.toNatClampNeg) dX11_code_80 sh90 (p2 c1) rfl ?_
    refine xs_bast (M := mX11_code) (pc := 81) (j := ((6 * x1) + x4).toNatClampNeg) dX11_code_81 sh112 (p3 c1) rfl ?_
    refine wp_iinc (M := mX11_code) (pc := 82) (v := x4 + 1) (ls' := [.ref 82, .int x1, .int x2, .int x3, .int (x4 + 1)]) dX11_code_82 rfl (congrArg (fun z => _ + z) k_iconst_1) (by decide) rfl ?_
    refine wp_goto (M := mX11_code) (pc := 85) (t := 57) dX11_code_85 (by decide) ?_
    exact p4 c1
theorem bX11_faultOfDigits_0 {G : GC} {d : Nat} {sw : Bool} {f : FF} {Q : QQ} {x1 : Int32} (p1 : XP G mX11_faultOfDigits (d + 1) 2 [.ref 82, .int x1, .int 0] [] sw f Q) : XP G mX11_faultOfDigits (d + 1) 0 [.ref 82, .int x1, .null] [] sw f Q := by
  refine wp_iconst (M := mX11_faultOfDigits) (pc := 0) dX11_faultOfDigits_0 k_iconst_0 ?_
  refine wp_istore_n (M := mX11_faultOfDigits) (pc := 1) (ls' := [.ref 82, .int x1, .int 0]) dX11_faultOfDigits_1 rfl (by decide) rfl ?_
  exact p1
theorem bX11_faultOfDigits_2 {G : GC} {d : Nat} {sw : Bool} {f : FF} {Q : QQ} {x1 : Int32} {x2 : Int32} (p1 : (x1 ≤ x2) → Q (some (.int 0)) sw f) (p2 : (¬ x1 ≤ x2) → vp_in x2 260) (p3 : (¬ x1 ≤ x2) → (48 ≤ (oct f x2) ∧ (oct f x2) ≤ 57) → XP G mX11_faultOfDigits (d + 1) 2 [.ref 82, .int x1, .int (x2 + 1)] [] sw f Q) (p4 : (¬ x1 ≤ x2) → (¬ (48 ≤ (oct f x2) ∧ (oct f x2) ≤ 57)) → Q (some (.int ((-1000) - x2))) sw f) : XP G mX11_faultOfDigits (d + 1) 2 [.ref 82, .int x1, .int x2] [] sw f Q := by
  refine wp_iload_n (M := mX11_faultOfDigits) (pc := 2) dX11_faultOfDigits_2 rfl rfl ?_
  refine wp_iload_n (M := mX11_faultOfDigits) (pc := 3) dX11_faultOfDigits_3 rfl rfl ?_
  refine wp_icmp_ge (M := mX11_faultOfDigits) (pc := 4) (t := 34) dX11_faultOfDigits_4 (by decide) (fun c1 => ?_) (fun c1 => ?_)
  · refine wp_iconst (M := mX11_faultOfDigits) (pc := 34) dX11_faultOfDigits_34 k_iconst_0 ?_
    exact xs_iret (M := mX11_faultOfDigits) (pc := 35) dX11_faultOfDigits_35 rfl (p1 c1)
  · refine wp_aload_n (M := mX11_faultOfDigits) (pc := 7) dX11_faultOfDigits_7 rfl rfl ?_
    refine wp_iload_n (M := mX11_faultOfDigits) (pc := 8) dX11_faultOfDigits_8 rfl rfl ?_
    refine xs_callV (d := d) (M := mX11_faultOfDigits) (pc := 9) (As := [.int x2]) (st := []) (c := 11) (ls' := [.ref 82, .int x2]) dX11_faultOfDigits_9 oX11_octet nX11_octet lX11_338 vX11_octet sX11_octet rfl sh82 (Nat.le_of_ble_eq_true rfl) rfl (Nat.le_of_ble_eq_true rfl) rfl ?_
    refine sp_X11_octet  (p2 c1) ?_
    refine wp_bipush (M := mX11_faultOfDigits) (pc := 12) dX11_faultOfDigits_12 k_bipush_48 ?_
    refine wp_bipush (M := mX11_faultOfDigits) (pc := 14) dX11_faultOfDigits_14 k_bipush_57 ?_
    refine xs_callS (d := d) (M := mX11_faultOfDigits) (pc := 16) (As := [.int (oct f x2), .int 48, .int 57]) (st := []) (ls' := [.int (oct f x2), .int 48, .int 57]) dX11_faultOfDigits_16 oX11_in nX11_in lX11_111 tX11_in (Nat.le_of_ble_eq_true rfl) rfl (Nat.le_of_ble_eq_true rfl) rfl ?_
    refine sp_X11_in   ?_
    refine xs_ifb_ne (M := mX11_faultOfDigits) (pc := 19) (t := 28) dX11_faultOfDigits_19 (by decide) (fun c2 => ?_) (fun c2 => ?_)
    · refine wp_iinc (M := mX11_faultOfDigits) (pc := 28) (v := x2 + 1) (ls' := [.ref 82, .int x1, .int (x2 + 1)]) dX11_faultOfDigits_28 rfl (congrArg (fun z => _ + z) k_iconst_1) (by decide) rfl ?_
      refine wp_goto (M := mX11_faultOfDigits) (pc := 31) (t := 2) dX11_faultOfDigits_31 (by decide) ?_
      exact p3 c1 c2
    · refine wp_sipush (M := mX11_faultOfDigits) (pc := 22) dX11_faultOfDigits_22 k_sipush_m1000 ?_
      refine wp_iload_n (M := mX11_faultOfDigits) (pc := 25) dX11_faultOfDigits_25 rfl rfl ?_
      refine wp_isub (M := mX11_faultOfDigits) (pc := 26) dX11_faultOfDigits_26 ?_
      exact xs_iret (M := mX11_faultOfDigits) (pc := 27) dX11_faultOfDigits_27 rfl (p4 c1 c2)
theorem bX11_dialled_0 {G : GC} {d : Nat} {sw : Bool} {f : FF} {Q : QQ} {x1 : Int32} {x2 : Int32} (p1 : (¬ (1 ≤ x1 ∧ x1 ≤ 12)) → Q (some (.int (-1))) sw f) (p2 : (1 ≤ x1 ∧ x1 ≤ 12) → (¬ (0 ≤ x2 ∧ x2 ≤ 1)) → Q (some (.int (-1))) sw f) (p3 : (1 ≤ x1 ∧ x1 ≤ 12) → (0 ≤ x2 ∧ x2 ≤ 1) → (x1 ≤ (f 82 10)) → XP G mX11_faultOfDigits (d + 1) 0 [.ref 82, .int x1, .null] [] sw (upd2 f 82 10 0) (fun v sw' f' => XP G mX11_dialled (d + 2) 39 [.ref 82, .int x1, .int x2, .null, .null, .null] (retst v []) sw' f' Q)) (p4 : (1 ≤ x1 ∧ x1 ≤ 12) → (0 ≤ x2 ∧ x2 ≤ 1) → (¬ x1 ≤ (f 82 10)) → Q (some (.int (-1))) sw f) : XP G mX11_dialled (d + 2) 0 [.ref 82, .int x1, .int x2, .null, .null, .null] [] sw f Q := by
  refine wp_iload_n (M := mX11_dialled) (pc := 0) dX11_dialled_0 rfl rfl ?_
  refine wp_iconst (M := mX11_dialled) (pc := 1) dX11_dialled_1 k_iconst_1 ?_
  refine wp_bipush (M := mX11_dialled) (pc := 2) dX11_dialled_2 k_bipush_12 ?_
  refine xs_callS (d := d + 1) (M := mX11_dialled) (pc := 4) (As := [.int x1, .int 1, .int 12]) (st := []) (ls' := [.int x1, .int 1, .int 12]) dX11_dialled_4 oX11_in nX11_in lX11_111 tX11_in (Nat.le_of_ble_eq_true rfl) rfl (Nat.le_of_ble_eq_true rfl) rfl ?_
  refine sp_X11_in   ?_
  refine xs_ifb_eq (M := mX11_dialled) (pc := 7) (t := 27) dX11_dialled_7 (by decide) (fun c1 => ?_) (fun c1 => ?_)
  · refine wp_iconst (M := mX11_dialled) (pc := 27) dX11_dialled_27 k_iconst_m1 ?_
    exact xs_iret (M := mX11_dialled) (pc := 28) dX11_dialled_28 rfl (p1 c1)
  · refine wp_iload_n (M := mX11_dialled) (pc := 10) dX11_dialled_10 rfl rfl ?_
    refine wp_iconst (M := mX11_dialled) (pc := 11) dX11_dialled_11 k_iconst_0 ?_
    refine wp_iconst (M := mX11_dialled) (pc := 12) dX11_dialled_12 k_iconst_1 ?_
    refine xs_callS (d := d + 1) (M := mX11_dialled) (pc := 13) (As := [.int x2, .int 0, .int 1]) (st := []) (ls' := [.int x2, .int 0, .int 1]) dX11_dialled_13 oX11_in nX11_in lX11_111 tX11_in (Nat.le_of_ble_eq_true rfl) rfl (Nat.le_of_ble_eq_true rfl) rfl ?_
    refine sp_X11_in   ?_
    refine xs_ifb_eq (M := mX11_dialled) (pc := 16) (t := 27) dX11_dialled_16 (by decide) (fun c2 => ?_) (fun c2 => ?_)
    · refine wp_iconst (M := mX11_dialled) (pc := 27) dX11_dialled_27 k_iconst_m1 ?_
      exact xs_iret (M := mX11_dialled) (pc := 28) dX11_dialled_28 rfl (p2 c1 c2)
    · refine wp_iload_n (M := mX11_dialled) (pc := 19) dX11_dialled_19 rfl rfl ?_
      refine wp_aload_n (M := mX11_dialled) (pc := 20) dX11_dialled_20 rfl rfl ?_
      refine xs_geti (M := mX11_dialled) (pc := 21) dX11_dialled_21 fX11_146 sh82 rfl ?_
      refine wp_icmp_le (M := mX11_dialled) (pc := 24) (t := 29) dX11_dialled_24 (by decide) (fun c3 => ?_) (fun c3 => ?_)
      · refine wp_aload_n (M := mX11_dialled) (pc := 29) dX11_dialled_29 rfl rfl ?_
        refine wp_iconst (M := mX11_dialled) (pc := 30) dX11_dialled_30 k_iconst_0 ?_
        refine xs_puti (M := mX11_dialled) (pc := 31) dX11_dialled_31 pX11_146 sh82 rfl ?_
        refine wp_aload_n (M := mX11_dialled) (pc := 34) dX11_dialled_34 rfl rfl ?_
        refine wp_iload_n (M := mX11_dialled) (pc := 35) dX11_dialled_35 rfl rfl ?_
        refine xs_callV (d := d + 1) (M := mX11_dialled) (pc := 36) (As := [.int x1]) (st := []) (c := 11) (ls' := [.ref 82, .int x1, .null]) dX11_dialled_36 oX11_faultOfDigits nX11_faultOfDigits lX11_370 vX11_faultOfDigits sX11_faultOfDigits rfl sh82 (Nat.le_of_ble_eq_true rfl) rfl (Nat.le_of_ble_eq_true rfl) rfl ?_
        exact p3 c1 c2 c3
      · refine wp_iconst (M := mX11_dialled) (pc := 27) dX11_dialled_27 k_iconst_m1 ?_
        exact xs_iret (M := mX11_dialled) (pc := 28) dX11_dialled_28 rfl (p4 c1 c2 c3)
theorem bX11_dialled_39 {G : GC} {d : Nat} {sw : Bool} {f : FF} {Q : QQ} {x1 : Int32} {x2 : Int32} {v3 : Value} {v4 : Value} {v5 : Value} {s0 : Int32} (p1 : (s0 = 0) → XP G mX11_dialled (d + 2) 53 [.ref 82, .int x1, .int x2, .int s0, .int (-2), .int 0] [] sw f Q) (p2 : (¬ s0 = 0) → Q (some (.int s0)) sw f) : XP G mX11_dialled (d + 2) 39 [.ref 82, .int x1, .int x2, v3, v4, v5] [.int s0] sw f Q := by
  refine wp_istore_n (M := mX11_dialled) (pc := 39) (ls' := [.ref 82, .int x1, .int x2, .int s0, v4, v5]) dX11_dialled_39 rfl (by decide) rfl ?_
  refine wp_iload_n (M := mX11_dialled) (pc := 40) dX11_dialled_40 rfl rfl ?_
  refine wp_if_eq (M := mX11_dialled) (pc := 41) (t := 46) dX11_dialled_41 (by decide) (fun c1 => ?_) (fun c1 => ?_)
  · refine wp_bipush (M := mX11_dialled) (pc := 46) dX11_dialled_46 k_bipush_m2 ?_
    refine wp_istore (M := mX11_dialled) (pc := 48) (ls' := [.ref 82, .int x1, .int x2, .int s0, .int (-2), v5]) dX11_dialled_48 (by decide) rfl ?_
    refine wp_iconst (M := mX11_dialled) (pc := 50) dX11_dialled_50 k_iconst_0 ?_
    refine wp_istore (M := mX11_dialled) (pc := 51) (ls' := [.ref 82, .int x1, .int x2, .int s0, .int (-2), .int 0]) dX11_dialled_51 (by decide) rfl ?_
    exact p1 c1
  · refine wp_iload_n (M := mX11_dialled) (pc := 44) dX11_dialled_44 rfl rfl ?_
    exact xs_iret (M := mX11_dialled) (pc := 45) dX11_dialled_45 rfl (p2 c1)
theorem bX11_dialled_53 {G : GC} {d : Nat} {sw : Bool} {f : FF} {Q : QQ} {x1 : Int32} {x2 : Int32} {x3 : Int32} {x4 : Int32} {x5 : Int32} (p1 : (8 ≤ x5) → (x2 = 0) → Q (some (.int x4)) sw f) (p2 : (8 ≤ x5) → (¬ x2 = 0) → (¬ x4 = (-2)) → vp_in x4 8) (p3 : (8 ≤ x5) → (¬ x2 = 0) → (¬ x4 = (-2)) → Q (some (.int (x1 - (f 113 x4.toNatClampNeg)))) sw f) (p4 : (8 ≤ x5) → (¬ x2 = 0) → (x4 = (-2)) → Q (some (.int x4)) sw f) (p5 : (¬ 8 ≤ x5) → XP G mX11_beginsWith (d + 1) 0 [.ref 82, .int x5, .int x1, .null] [] sw f (fun v sw' f' => XP G mX11_dialled (d + 2) 67 [.ref 82, .int x1, .int x2, .int x3, .int x4, .int x5] (retst v []) sw' f' Q)) : XP G mX11_dialled (d + 2) 53 [.ref 82, .int x1, .int x2, .int x3, .int x4, .int x5] [] sw f Q := by
  refine wp_iload (M := mX11_dialled) (pc := 53) dX11_dialled_53 rfl ?_
  refine wp_bipush (M := mX11_dialled) (pc := 55) dX11_dialled_55 k_bipush_8 ?_
  refine wp_icmp_ge (M := mX11_dialled) (pc := 57) (t := 104) dX11_dialled_57 (by decide) (fun c1 => ?_) (fun c1 => ?_)
  · refine wp_iload_n (M := mX11_dialled) (pc := 104) dX11_dialled_104 rfl rfl ?_
    refine wp_if_eq (M := mX11_dialled) (pc := 105) (t := 115) dX11_dialled_105 (by decide) (fun c2 => ?_) (fun c2 => ?_)
    · refine wp_iload (M := mX11_dialled) (pc := 115) dX11_dialled_115 rfl ?_
      refine wp_goto (M := mX11_dialled) (pc := 117) (t := 129) dX11_dialled_117 (by decide) ?_
      exact xs_iret (M := mX11_dialled) (pc := 129) dX11_dialled_129 rfl (p1 c1 c2)
    · refine wp_iload (M := mX11_dialled) (pc := 108) dX11_dialled_108 rfl ?_
      refine wp_bipush (M := mX11_dialled) (pc := 110) dX11_dialled_110 k_bipush_m2 ?_
      refine wp_icmp_ne (M := mX11_dialled) (pc := 112) (t := 120) dX11_dialled_112 (by decide) (fun c3 => ?_) (fun c3 => ?_)
      · refine wp_iload_n (M := mX11_dialled) (pc := 120) dX11_dialled_120 rfl rfl ?_
        refine wp_aload_n (M := mX11_dialled) (pc := 121) dX11_dialled_121 rfl rfl ?_
        refine xs_getr (M := mX11_dialled) (pc := 122) (r := 113) dX11_dialled_122 fX11_101 sh82 rfl (gr82_46 sw) ?_
        refine wp_iload (M := mX11_dialled) (pc := 125) dX11_dialled_125 rfl ?_
        refine xs_iald (M := mX11_dialled) (pc := 127) (j := x4.toNatClampNeg) dX11_dialled_127 sh113 (p2 c1 c2 c3) rfl ?_
        refine wp_isub (M := mX11_dialled) (pc := 128) dX11_dialled_128 ?_
        exact xs_iret (M := mX11_dialled) (pc := 129) dX11_dialled_129 rfl (p3 c1 c2 c3)
      · refine wp_iload (M := mX11_dialled) (pc := 115) dX11_dialled_115 rfl ?_
        refine wp_goto (M := mX11_dialled) (pc := 117) (t := 129) dX11_dialled_117 (by decide) ?_
        exact xs_iret (M := mX11_dialled) (pc := 129) dX11_dialled_129 rfl (p4 c1 c2 c3)
  · refine wp_aload_n (M := mX11_dialled) (pc := 60) dX11_dialled_60 rfl rfl ?_
    refine wp_iload (M := mX11_dialled) (pc := 61) dX11_dialled_61 rfl ?_
    refine wp_iload_n (M := mX11_dialled) (pc := 63) dX11_dialled_63 rfl rfl ?_
    refine xs_callV (d := d + 1) (M := mX11_dialled) (pc := 64) (As := [.int x5, .int x1]) (st := []) (c := 11) (ls' := [.ref 82, .int x5, .int x1, .null]) dX11_dialled_64 oX11_beginsWith nX11_beginsWith lX11_373 vX11_beginsWith sX11_beginsWith rfl sh82 (Nat.le_of_ble_eq_true rfl) rfl (Nat.le_of_ble_eq_true rfl) rfl ?_
    exact p5 c1
theorem bX11_dialled_67 {G : GC} {d : Nat} {sw : Bool} {f : FF} {Q : QQ} {x1 : Int32} {x2 : Int32} {x3 : Int32} {x4 : Int32} {x5 : Int32} {s0 : Int32} (p1 : (s0 = 0) → XP G mX11_dialled (d + 2) 53 [.ref 82, .int x1, .int x2, .int x3, .int x4, .int (x5 + 1)] [] sw f Q) (p2 : (¬ s0 = 0) → (x4 = (-2)) → XP G mX11_dialled (d + 2) 53 [.ref 82, .int x1, .int x2, .int x3, .int x5, .int (x5 + 1)] [] sw f Q) (p3 : (¬ s0 = 0) → (¬ x4 = (-2)) → vp_in x5 8) (p4 : (¬ s0 = 0) → (¬ x4 = (-2)) → vp_in x4 8) (p5 : (¬ s0 = 0) → (¬ x4 = (-2)) → ((f 113 x5.toNatClampNeg) ≤ (f 113 x4.toNatClampNeg)) → XP G mX11_dialled (d + 2) 53 [.ref 82, .int x1, .int x2, .int x3, .int x4, .int (x5 + 1)] [] sw f Q) (p6 : (¬ s0 = 0) → (¬ x4 = (-2)) → (¬ (f 113 x5.toNatClampNeg) ≤ (f 113 x4.toNatClampNeg)) → XP G mX11_dialled (d + 2) 53 [.ref 82, .int x1, .int x2, .int x3, .int x5, .int (x5 + 1)] [] sw f Q) : XP G mX11_dialled (d + 2) 67 [.ref 82, .int x1, .int x2, .int x3, .int x4, .int x5] [.int s0] sw f Q := by
  refine wp_if_eq (M := mX11_dialled) (pc := 67) (t := 98) dX11_dialled_67 (by decide) (fun c1 => ?_) (fun c1 => ?_)
  · refine wp_iinc (M := mX11_dialled) (pc := 98) (v := x5 + 1) (ls' := [.ref 82, .int x1, .int x2, .int x3, .int x4, .int (x5 + 1)]) dX11_dialled_98 rfl (congrArg (fun z => _ + z) k_iconst_1) (by decide) rfl ?_
    refine wp_goto (M := mX11_dialled) (pc := 101) (t := 53) dX11_dialled_101 (by decide) ?_
    exact p1 c1
  · refine wp_iload (M := mX11_dialled) (pc := 70) dX11_dialled_70 rfl ?_
    refine wp_bipush (M := mX11_dialled) (pc := 72) dX11_dialled_72 k_bipush_m2 ?_
    refine wp_icmp_eq (M := mX11_dialled) (pc := 74) (t := 94) dX11_dialled_74 (by decide) (fun c2 => ?_) (fun c2 => ?_)
    · refine wp_iload (M := mX11_dialled) (pc := 94) dX11_dialled_94 rfl ?_
      refine wp_istore (M := mX11_dialled) (pc := 96) (ls' := [.ref 82, .int x1, .int x2, .int x3, .int x5, .int x5]) dX11_dialled_96 (by decide) rfl ?_
      refine wp_iinc (M := mX11_dialled) (pc := 98) (v := x5 + 1) (ls' := [.ref 82, .int x1, .int x2, .int x3, .int x5, .int (x5 + 1)]) dX11_dialled_98 rfl (congrArg (fun z => _ + z) k_iconst_1) (by decide) rfl ?_
      refine wp_goto (M := mX11_dialled) (pc := 101) (t := 53) dX11_dialled_101 (by decide) ?_
      exact p2 c1 c2
    · refine wp_aload_n (M := mX11_dialled) (pc := 77) dX11_dialled_77 rfl rfl ?_
      refine xs_getr (M := mX11_dialled) (pc := 78) (r := 113) dX11_dialled_78 fX11_101 sh82 rfl (gr82_46 sw) ?_
      refine wp_iload (M := mX11_dialled) (pc := 81) dX11_dialled_81 rfl ?_
      refine xs_iald (M := mX11_dialled) (pc := 83) (j := x5.toNatClampNeg) dX11_dialled_83 sh113 (p3 c1 c2) rfl ?_
      refine wp_aload_n (M := mX11_dialled) (pc := 84) dX11_dialled_84 rfl rfl ?_
      refine xs_getr (M := mX11_dialled) (pc := 85) (r := 113) dX11_dialled_85 fX11_101 sh82 rfl (gr82_46 sw) ?_
      refine wp_iload (M := mX11_dialled) (pc := 88) dX11_dialled_88 rfl ?_
      refine xs_iald (M := mX11_dialled) (pc := 90) (j := x4.toNatClampNeg) dX11_dialled_90 sh113 (p4 c1 c2) rfl ?_
      refine wp_icmp_le (M := mX11_dialled) (pc := 91) (t := 98) dX11_dialled_91 (by decide) (fun c3 => ?_) (fun c3 => ?_)
      · refine wp_iinc (M := mX11_dialled) (pc := 98) (v := x5 + 1) (ls' := [.ref 82, .int x1, .int x2, .int x3, .int x4, .int (x5 + 1)]) dX11_dialled_98 rfl (congrArg (fun z => _ + z) k_iconst_1) (by decide) rfl ?_
        refine wp_goto (M := mX11_dialled) (pc := 101) (t := 53) dX11_dialled_101 (by decide) ?_
        exact p5 c1 c2 c3
      · refine wp_iload (M := mX11_dialled) (pc := 94) dX11_dialled_94 rfl ?_
        refine wp_istore (M := mX11_dialled) (pc := 96) (ls' := [.ref 82, .int x1, .int x2, .int x3, .int x5, .int x5]) dX11_dialled_96 (by decide) rfl ?_
        refine wp_iinc (M := mX11_dialled) (pc := 98) (v := x5 + 1) (ls' := [.ref 82, .int x1, .int x2, .int x3, .int x5, .int (x5 + 1)]) dX11_dialled_98 rfl (congrArg (fun z => _ + z) k_iconst_1) (by decide) rfl ?_
        refine wp_goto (M := mX11_dialled) (pc := 101) (t := 53) dX11_dialled_101 (by decide) ?_
        exact p6 c1 c2 c3
theorem bX11_beginsWith_0 {G : GC} {d : Nat} {sw : Bool} {f : FF} {Q : QQ} {x1 : Int32} {x2 : Int32} (p1 : vp_in x1 8) (p2 : ((f 113 x1.toNatClampNeg) = 0) → Q (some (.int 0)) sw f) (p3 : (¬ (f 113 x1.toNatClampNeg) = 0) → vp_in x1 8) (p4 : (¬ (f 113 x1.toNatClampNeg) = 0) → ((f 113 x1.toNatClampNeg) ≤ x2) → XP G mX11_beginsWith (d) 23 [.ref 82, .int x1, .int x2, .int 0] [] sw f Q) (p5 : (¬ (f 113 x1.toNatClampNeg) = 0) → (¬ (f 113 x1.toNatClampNeg) ≤ x2) → Q (some (.int 0)) sw f) : XP G mX11_beginsWith (d) 0 [.ref 82, .int x1, .int x2, .null] [] sw f Q := by
  refine wp_aload_n (M := mX11_beginsWith) (pc := 0) dX11_beginsWith_0 rfl rfl ?_
  refine xs_getr (M := mX11_beginsWith) (pc := 1) (r := 113) dX11_beginsWith_1 fX11_101 sh82 rfl (gr82_46 sw) ?_
  refine wp_iload_n (M := mX11_beginsWith) (pc := 4) dX11_beginsWith_4 rfl rfl ?_
  refine xs_iald (M := mX11_beginsWith) (pc := 5) (j := x1.toNatClampNeg) dX11_beginsWith_5 sh113 (p1) rfl ?_
  refine wp_if_eq (M := mX11_beginsWith) (pc := 6) (t := 19) dX11_beginsWith_6 (by decide) (fun c1 => ?_) (fun c1 => ?_)
  · refine wp_iconst (M := mX11_beginsWith) (pc := 19) dX11_beginsWith_19 k_iconst_0 ?_
    exact xs_zret (M := mX11_beginsWith) (pc := 20) dX11_beginsWith_20 rfl (by decide) (p2 c1)
  · refine wp_aload_n (M := mX11_beginsWith) (pc := 9) dX11_beginsWith_9 rfl rfl ?_
    refine xs_getr (M := mX11_beginsWith) (pc := 10) (r := 113) dX11_beginsWith_10 fX11_101 sh82 rfl (gr82_46 sw) ?_
    refine wp_iload_n (M := mX11_beginsWith) (pc := 13) dX11_beginsWith_13 rfl rfl ?_
    refine xs_iald (M := mX11_beginsWith) (pc := 14) (j := x1.toNatClampNeg) dX11_beginsWith_14 sh113 (p3 c1) rfl ?_
    refine wp_iload_n (M := mX11_beginsWith) (pc := 15) dX11_beginsWith_15 rfl rfl ?_
    refine wp_icmp_le (M := mX11_beginsWith) (pc := 16) (t := 21) dX11_beginsWith_16 (by decide) (fun c2 => ?_) (fun c2 => ?_)
    · refine wp_iconst (M := mX11_beginsWith) (pc := 21) dX11_beginsWith_21 k_iconst_0 ?_
      refine wp_istore_n (M := mX11_beginsWith) (pc := 22) (ls' := [.ref 82, .int x1, .int x2, .int 0]) dX11_beginsWith_22 rfl (by decide) rfl ?_
      exact p4 c1 c2
    · refine wp_iconst (M := mX11_beginsWith) (pc := 19) dX11_beginsWith_19 k_iconst_0 ?_
      exact xs_zret (M := mX11_beginsWith) (pc := 20) dX11_beginsWith_20 rfl (by decide) (p5 c1 c2)
theorem bX11_beginsWith_23 {G : GC} {d : Nat} {sw : Bool} {f : FF} {Q : QQ} {x1 : Int32} {x2 : Int32} {x3 : Int32} (p1 : vp_in x1 8) (p2 : ((f 113 x1.toNatClampNeg) ≤ x3) → Q (some (.int 1)) sw f) (p3 : (¬ (f 113 x1.toNatClampNeg) ≤ x3) → vp_in ((6 * x1) + x3) 48) (p4 : (¬ (f 113 x1.toNatClampNeg) ≤ x3) → vp_in x3 260) (p5 : (¬ (f 113 x1.toNatClampNeg) ≤ x3) → ((f 112 (((6 * x1) + x3).toNatClampNeg)) = (f 90 x3.toNatClampNeg)) → XP G mX11_beginsWith (d) 23 [.ref 82, .int x1, .int x2, .int (x3 + 1)] [] sw f Q) (p6 : (¬ (f 113 x1.toNatClampNeg) ≤ x3) → (¬ (f 112 (((6 * x1) + x3).toNatClampNeg)) = (f 90 x3.toNatClampNeg)) → Q (some (.int 0)) sw f) : XP G mX11_beginsWith (d) 23 [.ref 82, .int x1, .int x2, .int x3] [] sw f Q := by
  refine wp_iload_n (M := mX11_beginsWith) (pc := 23) dX11_beginsWith_23 rfl rfl ?_
  refine wp_aload_n (M := mX11_beginsWith) (pc := 24) dX11_beginsWith_24 rfl rfl ?_
  refine xs_getr (M := mX11_beginsWith) (pc := 25) (r := 113) dX11_beginsWith_25 fX11_101 sh82 rfl (gr82_46 sw) ?_
  refine wp_iload_n (M := mX11_beginsWith) (pc := 28) dX11_beginsWith_28 rfl rfl ?_
  refine xs_iald (M := mX11_beginsWith) (pc := 29) (j := x1.toNatClampNeg) dX11_beginsWith_29 sh113 (p1) rfl ?_
  refine wp_icmp_ge (M := mX11_beginsWith) (pc := 30) (t := 61) dX11_beginsWith_30 (by decide) (fun c1 => ?_) (fun c1 => ?_)
  · refine wp_iconst (M := mX11_beginsWith) (pc := 61) dX11_beginsWith_61 k_iconst_1 ?_
    exact xs_zret (M := mX11_beginsWith) (pc := 62) dX11_beginsWith_62 rfl (by decide) (p2 c1)
  · refine wp_aload_n (M := mX11_beginsWith) (pc := 33) dX11_beginsWith_33 rfl rfl ?_
    refine xs_getr (M := mX11_beginsWith) (pc := 34) (r := 112) dX11_beginsWith_34 fX11_98 sh82 rfl (gr82_45 sw) ?_
    refine wp_bipush (M := mX11_beginsWith) (pc := 37) dX11_beginsWith_37 k_bipush_6 ?_
    refine wp_iload_n (M := mX11_beginsWith) (pc := 39) dX11_beginsWith_39 rfl rfl ?_
    refine wp_imul (M := mX11_beginsWith) (pc := 40) dX11_beginsWith_40 ?_
    refine wp_iload_n (M := mX11_beginsWith) (pc := 41) dX11_beginsWith_41 rfl rfl ?_
    refine wp_iadd (M := mX11_beginsWith) (pc := 42) dX11_beginsWith_42 ?_
    refine xs_bald (M := mX11_beginsWith) (pc := 43) (j := ((6 * x1) + x3).toNatClampNeg) dX11_beginsWith_43 sh112 (p3 c1) rfl ?_
    refine wp_aload_n (M := mX11_beginsWith) (pc := 44) dX11_beginsWith_44 rfl rfl ?_
    refine xs_getr (M := mX11_beginsWith) (pc := 45) (r := 90) dX11_beginsWith_45 fX11_31 sh82 rfl (gr82_9 sw) ?_
    refine wp_iload_n (M := mX11_beginsWith) (pc := 48) dX11_beginsWith_48 rfl rfl ?_
    refine xs_bald (M := mX11_beginsWith) (pc := 49) (j := x3.toNatClampNeg) dX11_beginsWith_49 sh90 (p4 c1) rfl ?_
    refine wp_icmp_eq (M := mX11_beginsWith) (pc := 50) (t := 55) dX11_beginsWith_50 (by decide) (fun c2 => ?_) (fun c2 => ?_)
    · refine wp_iinc (M := mX11_beginsWith) (pc := 55) (v := x3 + 1) (ls' := [.ref 82, .int x1, .int x2, .int (x3 + 1)]) dX11_beginsWith_55 rfl (congrArg (fun z => _ + z) k_iconst_1) (by decide) rfl ?_
      refine wp_goto (M := mX11_beginsWith) (pc := 58) (t := 23) dX11_beginsWith_58 (by decide) ?_
      exact p5 c1 c2
    · refine wp_iconst (M := mX11_beginsWith) (pc := 53) dX11_beginsWith_53 k_iconst_0 ?_
      exact xs_zret (M := mX11_beginsWith) (pc := 54) dX11_beginsWith_54 rfl (by decide) (p6 c1 c2)
theorem bX11_clear_0 {G : GC} {d : Nat} {sw : Bool} {f : FF} {Q : QQ}  (p1 : XP G mX11_clear (d + 1) 2 [.ref 82, .int 0, .null] [] sw f Q) : XP G mX11_clear (d + 1) 0 [.ref 82, .null, .null] [] sw f Q := by
  refine wp_iconst (M := mX11_clear) (pc := 0) dX11_clear_0 k_iconst_0 ?_
  refine wp_istore_n (M := mX11_clear) (pc := 1) (ls' := [.ref 82, .int 0, .null]) dX11_clear_1 rfl (by decide) rfl ?_
  exact p1
theorem bX11_clear_2 {G : GC} {d : Nat} {sw : Bool} {f : FF} {Q : QQ} {x1 : Int32} {v2 : Value} (p1 : (8 ≤ x1) → Q (some (.int 1)) sw f) (p2 : (¬ 8 ≤ x1) → XP G mX11_clear (d + 1) 10 [.ref 82, .int x1, .int 0] [] sw f Q) : XP G mX11_clear (d + 1) 2 [.ref 82, .int x1, v2] [] sw f Q := by
  refine wp_iload_n (M := mX11_clear) (pc := 2) dX11_clear_2 rfl rfl ?_
  refine wp_bipush (M := mX11_clear) (pc := 3) dX11_clear_3 k_bipush_8 ?_
  refine wp_icmp_ge (M := mX11_clear) (pc := 5) (t := 44) dX11_clear_5 (by decide) (fun c1 => ?_) (fun c1 => ?_)
  · refine wp_iconst (M := mX11_clear) (pc := 44) dX11_clear_44 k_iconst_1 ?_
    exact xs_iret (M := mX11_clear) (pc := 45) dX11_clear_45 rfl (p1 c1)
  · refine wp_iconst (M := mX11_clear) (pc := 8) dX11_clear_8 k_iconst_0 ?_
    refine wp_istore_n (M := mX11_clear) (pc := 9) (ls' := [.ref 82, .int x1, .int 0]) dX11_clear_9 rfl (by decide) rfl ?_
    exact p2 c1
theorem bX11_clear_10 {G : GC} {d : Nat} {sw : Bool} {f : FF} {Q : QQ} {x1 : Int32} {x2 : Int32} (p1 : (8 ≤ x2) → XP G mX11_clear (d + 1) 2 [.ref 82, .int (x1 + 1), .int x2] [] sw f Q) (p2 : (¬ 8 ≤ x2) → (x1 = x2) → XP G mX11_clear (d + 1) 10 [.ref 82, .int x1, .int (x2 + 1)] [] sw f Q) (p3 : (¬ 8 ≤ x2) → (¬ x1 = x2) → XP G mX11_isWithin (d) 0 [.ref 82, .int x1, .int x2, .null] [] sw f (fun v sw' f' => XP G mX11_clear (d + 1) 27 [.ref 82, .int x1, .int x2] (retst v []) sw' f' Q)) : XP G mX11_clear (d + 1) 10 [.ref 82, .int x1, .int x2] [] sw f Q := by
  refine wp_iload_n (M := mX11_clear) (pc := 10) dX11_clear_10 rfl rfl ?_
  refine wp_bipush (M := mX11_clear) (pc := 11) dX11_clear_11 k_bipush_8 ?_
  refine wp_icmp_ge (M := mX11_clear) (pc := 13) (t := 38) dX11_clear_13 (by decide) (fun c1 => ?_) (fun c1 => ?_)
  · refine wp_iinc (M := mX11_clear) (pc := 38) (v := x1 + 1) (ls' := [.ref 82, .int (x1 + 1), .int x2]) dX11_clear_38 rfl (congrArg (fun z => _ + z) k_iconst_1) (by decide) rfl ?_
    refine wp_goto (M := mX11_clear) (pc := 41) (t := 2) dX11_clear_41 (by decide) ?_
    exact p1 c1
  · refine wp_iload_n (M := mX11_clear) (pc := 16) dX11_clear_16 rfl rfl ?_
    refine wp_iload_n (M := mX11_clear) (pc := 17) dX11_clear_17 rfl rfl ?_
    refine wp_icmp_eq (M := mX11_clear) (pc := 18) (t := 32) dX11_clear_18 (by decide) (fun c2 => ?_) (fun c2 => ?_)
    · refine wp_iinc (M := mX11_clear) (pc := 32) (v := x2 + 1) (ls' := [.ref 82, .int x1, .int (x2 + 1)]) dX11_clear_32 rfl (congrArg (fun z => _ + z) k_iconst_1) (by decide) rfl ?_
      refine wp_goto (M := mX11_clear) (pc := 35) (t := 10) dX11_clear_35 (by decide) ?_
      exact p2 c1 c2
    · refine wp_aload_n (M := mX11_clear) (pc := 21) dX11_clear_21 rfl rfl ?_
      refine wp_iload_n (M := mX11_clear) (pc := 22) dX11_clear_22 rfl rfl ?_
      refine wp_iload_n (M := mX11_clear) (pc := 23) dX11_clear_23 rfl rfl ?_
      refine xs_callV (d := d) (M := mX11_clear) (pc := 24) (As := [.int x1, .int x2]) (st := []) (c := 11) (ls' := [.ref 82, .int x1, .int x2, .null]) dX11_clear_24 oX11_isWithin nX11_isWithin lX11_376 vX11_isWithin sX11_isWithin rfl sh82 (Nat.le_of_ble_eq_true rfl) rfl (Nat.le_of_ble_eq_true rfl) rfl ?_
      exact p3 c1 c2
theorem bX11_clear_27 {G : GC} {d : Nat} {sw : Bool} {f : FF} {Q : QQ} {x1 : Int32} {x2 : Int32} {s0 : Int32} (p1 : (s0 = 0) → XP G mX11_clear (d + 1) 10 [.ref 82, .int x1, .int (x2 + 1)] [] sw f Q) (p2 : (¬ s0 = 0) → Q (some (.int 0)) sw f) : XP G mX11_clear (d + 1) 27 [.ref 82, .int x1, .int x2] [.int s0] sw f Q := by
  refine wp_if_eq (M := mX11_clear) (pc := 27) (t := 32) dX11_clear_27 (by decide) (fun c1 => ?_) (fun c1 => ?_)
  · refine wp_iinc (M := mX11_clear) (pc := 32) (v := x2 + 1) (ls' := [.ref 82, .int x1, .int (x2 + 1)]) dX11_clear_32 rfl (congrArg (fun z => _ + z) k_iconst_1) (by decide) rfl ?_
    refine wp_goto (M := mX11_clear) (pc := 35) (t := 10) dX11_clear_35 (by decide) ?_
    exact p1 c1
  · refine wp_iconst (M := mX11_clear) (pc := 30) dX11_clear_30 k_iconst_0 ?_
    exact xs_iret (M := mX11_clear) (pc := 31) dX11_clear_31 rfl (p2 c1)
theorem bX11_isWithin_0 {G : GC} {d : Nat} {sw : Bool} {f : FF} {Q : QQ} {x1 : Int32} {x2 : Int32} (p1 : vp_in x1 8) (p2 : ((f 113 x1.toNatClampNeg) = 0) → Q (some (.int 0)) sw f) (p3 : (¬ (f 113 x1.toNatClampNeg) = 0) → vp_in x1 8) (p4 : (¬ (f 113 x1.toNatClampNeg) = 0) → vp_in x2 8) (p5 : (¬ (f 113 x1.toNatClampNeg) = 0) → ((f 113 x1.toNatClampNeg) ≤ (f 113 x2.toNatClampNeg)) → XP G mX11_isWithin (d) 28 [.ref 82, .int x1, .int x2, .int 0] [] sw f Q) (p6 : (¬ (f 113 x1.toNatClampNeg) = 0) → (¬ (f 113 x1.toNatClampNeg) ≤ (f 113 x2.toNatClampNeg)) → Q (some (.int 0)) sw f) : XP G mX11_isWithin (d) 0 [.ref 82, .int x1, .int x2, .null] [] sw f Q := by
  refine wp_aload_n (M := mX11_isWithin) (pc := 0) dX11_isWithin_0 rfl rfl ?_
  refine xs_getr (M := mX11_isWithin) (pc := 1) (r := 113) dX11_isWithin_1 fX11_101 sh82 rfl (gr82_46 sw) ?_
  refine wp_iload_n (M := mX11_isWithin) (pc := 4) dX11_isWithin_4 rfl rfl ?_
  refine xs_iald (M := mX11_isWithin) (pc := 5) (j := x1.toNatClampNeg) dX11_isWithin_5 sh113 (p1) rfl ?_
  refine wp_if_eq (M := mX11_isWithin) (pc := 6) (t := 24) dX11_isWithin_6 (by decide) (fun c1 => ?_) (fun c1 => ?_)
  · refine wp_iconst (M := mX11_isWithin) (pc := 24) dX11_isWithin_24 k_iconst_0 ?_
    exact xs_zret (M := mX11_isWithin) (pc := 25) dX11_isWithin_25 rfl (by decide) (p2 c1)
  · refine wp_aload_n (M := mX11_isWithin) (pc := 9) dX11_isWithin_9 rfl rfl ?_
    refine xs_getr (M := mX11_isWithin) (pc := 10) (r := 113) dX11_isWithin_10 fX11_101 sh82 rfl (gr82_46 sw) ?_
    refine wp_iload_n (M := mX11_isWithin) (pc := 13) dX11_isWithin_13 rfl rfl ?_
    refine xs_iald (M := mX11_isWithin) (pc := 14) (j := x1.toNatClampNeg) dX11_isWithin_14 sh113 (p3 c1) rfl ?_
    refine wp_aload_n (M := mX11_isWithin) (pc := 15) dX11_isWithin_15 rfl rfl ?_
    refine xs_getr (M := mX11_isWithin) (pc := 16) (r := 113) dX11_isWithin_16 fX11_101 sh82 rfl (gr82_46 sw) ?_
    refine wp_iload_n (M := mX11_isWithin) (pc := 19) dX11_isWithin_19 rfl rfl ?_
    refine xs_iald (M := mX11_isWithin) (pc := 20) (j := x2.toNatClampNeg) dX11_isWithin_20 sh113 (p4 c1) rfl ?_
    refine wp_icmp_le (M := mX11_isWithin) (pc := 21) (t := 26) dX11_isWithin_21 (by decide) (fun c2 => ?_) (fun c2 => ?_)
    · refine wp_iconst (M := mX11_isWithin) (pc := 26) dX11_isWithin_26 k_iconst_0 ?_
      refine wp_istore_n (M := mX11_isWithin) (pc := 27) (ls' := [.ref 82, .int x1, .int x2, .int 0]) dX11_isWithin_27 rfl (by decide) rfl ?_
      exact p5 c1 c2
    · refine wp_iconst (M := mX11_isWithin) (pc := 24) dX11_isWithin_24 k_iconst_0 ?_
      exact xs_zret (M := mX11_isWithin) (pc := 25) dX11_isWithin_25 rfl (by decide) (p6 c1 c2)
theorem bX11_isWithin_28 {G : GC} {d : Nat} {sw : Bool} {f : FF} {Q : QQ} {x1 : Int32} {x2 : Int32} {x3 : Int32} (p1 : vp_in x1 8) (p2 : ((f 113 x1.toNatClampNeg) ≤ x3) → Q (some (.int 1)) sw f) (p3 : (¬ (f 113 x1.toNatClampNeg) ≤ x3) → vp_in ((6 * x1) + x3) 48) (p4 : (¬ (f 113 x1.toNatClampNeg) ≤ x3) → vp_in ((6 * x2) + x3) 48) (p5 : (¬ (f 113 x1.toNatClampNeg) ≤ x3) → ((f 112 (((6 * x1) + x3).toNatClampNeg)) = (f 112 (((6 * x2) + x3).toNatClampNeg))) → XP G mX11_isWithin (d) 28 [.ref 82, .int x1, .int x2, .int (x3 + 1)] [] sw f Q) (p6 : (¬ (f 113 x1.toNatClampNeg) ≤ x3) → (¬ (f 112 (((6 * x1) + x3).toNatClampNeg)) = (f 112 (((6 * x2) + x3).toNatClampNeg))) → Q (some (.int 0)) sw f) : XP G mX11_isWithin (d) 28 [.ref 82, .int x1, .int x2, .int x3] [] sw f Q := by
  refine wp_iload_n (M := mX11_isWithin) (pc := 28) dX11_isWithin_28 rfl rfl ?_
  refine wp_aload_n (M := mX11_isWithin) (pc := 29) dX11_isWithin_29 rfl rfl ?_
  refine xs_getr (M := mX11_isWithin) (pc := 30) (r := 113) dX11_isWithin_30 fX11_101 sh82 rfl (gr82_46 sw) ?_
  refine wp_iload_n (M := mX11_isWithin) (pc := 33) dX11_isWithin_33 rfl rfl ?_
  refine xs_iald (M := mX11_isWithin) (pc := 34) (j := x1.toNatClampNeg) dX11_isWithin_34 sh113 (p1) rfl ?_
  refine wp_icmp_ge (M := mX11_isWithin) (pc := 35) (t := 71) dX11_isWithin_35 (by decide) (fun c1 => ?_) (fun c1 => ?_)
  · refine wp_iconst (M := mX11_isWithin) (pc := 71) dX11_isWithin_71 k_iconst_1 ?_
    exact xs_zret (M := mX11_isWithin) (pc := 72) dX11_isWithin_72 rfl (by decide) (p2 c1)
  · refine wp_aload_n (M := mX11_isWithin) (pc := 38) dX11_isWithin_38 rfl rfl ?_
    refine xs_getr (M := mX11_isWithin) (pc := 39) (r := 112) dX11_isWithin_39 fX11_98 sh82 rfl (gr82_45 sw) ?_
    refine wp_bipush (M := mX11_isWithin) (pc := 42) dX11_isWithin_42 k_bipush_6 ?_
    refine wp_iload_n (M := mX11_isWithin) (pc := 44) dX11_isWithin_44 rfl rfl ?_
    refine wp_imul (M := mX11_isWithin) (pc := 45) dX11_isWithin_45 ?_
    refine wp_iload_n (M := mX11_isWithin) (pc := 46) dX11_isWithin_46 rfl rfl ?_
    refine wp_iadd (M := mX11_isWithin) (pc := 47) dX11_isWithin_47 ?_
    refine xs_bald (M := mX11_isWithin) (pc := 48) (j := ((6 * x1) + x3).toNatClampNeg) dX11_isWithin_48 sh112 (p3 c1) rfl ?_
    refine wp_aload_n (M := mX11_isWithin) (pc := 49) dX11_isWithin_49 rfl rfl ?_
    refine xs_getr (M := mX11_isWithin) (pc := 50) (r := 112) dX11_isWithin_50 fX11_98 sh82 rfl (gr82_45 sw) ?_
    refine wp_bipush (M := mX11_isWithin) (pc := 53) dX11_isWithin_53 k_bipush_6 ?_
    refine wp_iload_n (M := mX11_isWithin) (pc := 55) dX11_isWithin_55 rfl rfl ?_
    refine wp_imul (M := mX11_isWithin) (pc := 56) dX11_isWithin_56 ?_
    refine wp_iload_n (M := mX11_isWithin) (pc := 57) dX11_isWithin_57 rfl rfl ?_
    refine wp_iadd (M := mX11_isWithin) (pc := 58) dX11_isWithin_58 ?_
    refine xs_bald (M := mX11_isWithin) (pc := 59) (j := ((6 * x2) + x3).toNatClampNeg) dX11_isWithin_59 sh112 (p4 c1) rfl ?_
    refine wp_icmp_eq (M := mX11_isWithin) (pc := 60) (t := 65) dX11_isWithin_60 (by decide) (fun c2 => ?_) (fun c2 => ?_)
    · refine wp_iinc (M := mX11_isWithin) (pc := 65) (v := x3 + 1) (ls' := [.ref 82, .int x1, .int x2, .int (x3 + 1)]) dX11_isWithin_65 rfl (congrArg (fun z => _ + z) k_iconst_1) (by decide) rfl ?_
      refine wp_goto (M := mX11_isWithin) (pc := 68) (t := 28) dX11_isWithin_68 (by decide) ?_
      exact p5 c1 c2
    · refine wp_iconst (M := mX11_isWithin) (pc := 63) dX11_isWithin_63 k_iconst_0 ?_
      exact xs_zret (M := mX11_isWithin) (pc := 64) dX11_isWithin_64 rfl (by decide) (p6 c1 c2)
theorem bX11_freeCode_0 {G : GC} {d : Nat} {sw : Bool} {f : FF} {Q : QQ} {x1 : Int32} (p1 : (1 ≤ x1 ∧ x1 ≤ 3) → XP G mX11_clear (d + 1) 0 [.ref 82, .null, .null] [] sw f (fun v sw' f' => XP G mX11_freeCode (d + 2) 15 [.ref 82, .int x1, .null, .null, .null, .null] (retst v []) sw' f' Q)) (p2 : (¬ (1 ≤ x1 ∧ x1 ≤ 3)) → Q (some (.int (-1))) sw f) : XP G mX11_freeCode (d + 2) 0 [.ref 82, .int x1, .null, .null, .null, .null] [] sw f Q := by
  refine wp_iload_n (M := mX11_freeCode) (pc := 0) dX11_freeCode_0 rfl rfl ?_
  refine wp_iconst (M := mX11_freeCode) (pc := 1) dX11_freeCode_1 k_iconst_1 ?_
  refine wp_iconst (M := mX11_freeCode) (pc := 2) dX11_freeCode_2 k_iconst_3 ?_
  refine xs_callS (d := d + 1) (M := mX11_freeCode) (pc := 3) (As := [.int x1, .int 1, .int 3]) (st := []) (ls' := [.int x1, .int 1, .int 3]) dX11_freeCode_3 oX11_in nX11_in lX11_111 tX11_in (Nat.le_of_ble_eq_true rfl) rfl (Nat.le_of_ble_eq_true rfl) rfl ?_
  refine sp_X11_in   ?_
  refine xs_ifb_ne (M := mX11_freeCode) (pc := 6) (t := 11) dX11_freeCode_6 (by decide) (fun c1 => ?_) (fun c1 => ?_)
  · refine wp_aload_n (M := mX11_freeCode) (pc := 11) dX11_freeCode_11 rfl rfl ?_
    refine xs_callV (d := d + 1) (M := mX11_freeCode) (pc := 12) (As := []) (st := []) (c := 11) (ls' := [.ref 82, .null, .null]) dX11_freeCode_12 oX11_clear nX11_clear lX11_382 vX11_clear sX11_clear rfl sh82 (Nat.le_of_ble_eq_true rfl) rfl (Nat.le_of_ble_eq_true rfl) rfl ?_
    exact p1 c1
  · refine wp_iconst (M := mX11_freeCode) (pc := 9) dX11_freeCode_9 k_iconst_m1 ?_
    exact xs_iret (M := mX11_freeCode) (pc := 10) dX11_freeCode_10 rfl (p2 c1)
theorem bX11_freeCode_15 {G : GC} {d : Nat} {sw : Bool} {f : FF} {Q : QQ} {x1 : Int32} {v2 : Value} {v3 : Value} {v4 : Value} {v5 : Value} {s0 : Int32} (p1 : (¬ s0 = 0) → (¬ x1 = 1) → (¬ x1 = 2) → XP G mX11_freeCode (d + 2) 47 [.ref 82, .int x1, .int 1000, .int 0, v4, v5] [] sw f Q) (p2 : (¬ s0 = 0) → (¬ x1 = 1) → (x1 = 2) → XP G mX11_freeCode (d + 2) 47 [.ref 82, .int x1, .int 100, .int 0, v4, v5] [] sw f Q) (p3 : (¬ s0 = 0) → (x1 = 1) → XP G mX11_freeCode (d + 2) 47 [.ref 82, .int x1, .int 10, .int 0, v4, v5] [] sw f Q) (p4 : (s0 = 0) → Q (some (.int (-2))) sw f) : XP G mX11_freeCode (d + 2) 15 [.ref 82, .int x1, v2, v3, v4, v5] [.int s0] sw f Q := by
  refine wp_if_ne (M := mX11_freeCode) (pc := 15) (t := 21) dX11_freeCode_15 (by decide) (fun c1 => ?_) (fun c1 => ?_)
  · refine wp_iload_n (M := mX11_freeCode) (pc := 21) dX11_freeCode_21 rfl rfl ?_
    refine wp_iconst (M := mX11_freeCode) (pc := 22) dX11_freeCode_22 k_iconst_1 ?_
    refine wp_icmp_ne (M := mX11_freeCode) (pc := 23) (t := 31) dX11_freeCode_23 (by decide) (fun c2 => ?_) (fun c2 => ?_)
    · refine wp_iload_n (M := mX11_freeCode) (pc := 31) dX11_freeCode_31 rfl rfl ?_
      refine wp_iconst (M := mX11_freeCode) (pc := 32) dX11_freeCode_32 k_iconst_2 ?_
      refine wp_icmp_ne (M := mX11_freeCode) (pc := 33) (t := 41) dX11_freeCode_33 (by decide) (fun c3 => ?_) (fun c3 => ?_)
      · refine wp_sipush (M := mX11_freeCode) (pc := 41) dX11_freeCode_41 k_sipush_1000 ?_
        refine wp_istore_n (M := mX11_freeCode) (pc := 44) (ls' := [.ref 82, .int x1, .int 1000, v3, v4, v5]) dX11_freeCode_44 rfl (by decide) rfl ?_
        refine wp_iconst (M := mX11_freeCode) (pc := 45) dX11_freeCode_45 k_iconst_0 ?_
        refine wp_istore_n (M := mX11_freeCode) (pc := 46) (ls' := [.ref 82, .int x1, .int 1000, .int 0, v4, v5]) dX11_freeCode_46 rfl (by decide) rfl ?_
        exact p1 c1 c2 c3
      · refine wp_bipush (M := mX11_freeCode) (pc := 36) dX11_freeCode_36 k_bipush_100 ?_
        refine wp_goto (M := mX11_freeCode) (pc := 38) (t := 44) dX11_freeCode_38 (by decide) ?_
        refine wp_istore_n (M := mX11_freeCode) (pc := 44) (ls' := [.ref 82, .int x1, .int 100, v3, v4, v5]) dX11_freeCode_44 rfl (by decide) rfl ?_
        refine wp_iconst (M := mX11_freeCode) (pc := 45) dX11_freeCode_45 k_iconst_0 ?_
        refine wp_istore_n (M := mX11_freeCode) (pc := 46) (ls' := [.ref 82, .int x1, .int 100, .int 0, v4, v5]) dX11_freeCode_46 rfl (by decide) rfl ?_
        exact p2 c1 c2 c3
    · refine wp_bipush (M := mX11_freeCode) (pc := 26) dX11_freeCode_26 k_bipush_10 ?_
      refine wp_goto (M := mX11_freeCode) (pc := 28) (t := 44) dX11_freeCode_28 (by decide) ?_
      refine wp_istore_n (M := mX11_freeCode) (pc := 44) (ls' := [.ref 82, .int x1, .int 10, v3, v4, v5]) dX11_freeCode_44 rfl (by decide) rfl ?_
      refine wp_iconst (M := mX11_freeCode) (pc := 45) dX11_freeCode_45 k_iconst_0 ?_
      refine wp_istore_n (M := mX11_freeCode) (pc := 46) (ls' := [.ref 82, .int x1, .int 10, .int 0, v4, v5]) dX11_freeCode_46 rfl (by decide) rfl ?_
      exact p3 c1 c2
  · refine wp_bipush (M := mX11_freeCode) (pc := 18) dX11_freeCode_18 k_bipush_m2 ?_
    exact xs_iret (M := mX11_freeCode) (pc := 20) dX11_freeCode_20 rfl (p4 c1)
theorem bX11_freeCode_47 {G : GC} {d : Nat} {sw : Bool} {f : FF} {Q : QQ} {x1 : Int32} {x2 : Int32} {x3 : Int32} {v4 : Value} {v5 : Value} (p1 : (x2 ≤ x3) → Q (some (.int (-2))) sw f) (p2 : (¬ x2 ≤ x3) → XP G mX11_freeCode (d + 2) 58 [.ref 82, .int x1, .int x2, .int x3, .int 1, .int 0] [] sw f Q) : XP G mX11_freeCode (d + 2) 47 [.ref 82, .int x1, .int x2, .int x3, v4, v5] [] sw f Q := by
  refine wp_iload_n (M := mX11_freeCode) (pc := 47) dX11_freeCode_47 rfl rfl ?_
  refine wp_iload_n (M := mX11_freeCode) (pc := 48) dX11_freeCode_48 rfl rfl ?_
  refine wp_icmp_ge (M := mX11_freeCode) (pc := 49) (t := 98) dX11_freeCode_49 (by decide) (fun c1 => ?_) (fun c1 => ?_)
  · refine wp_bipush (M := mX11_freeCode) (pc := 98) dX11_freeCode_98 k_bipush_m2 ?_
    exact xs_iret (M := mX11_freeCode) (pc := 100) dX11_freeCode_100 rfl (p1 c1)
  · refine wp_iconst (M := mX11_freeCode) (pc := 52) dX11_freeCode_52 k_iconst_1 ?_
    refine wp_istore (M := mX11_freeCode) (pc := 53) (ls' := [.ref 82, .int x1, .int x2, .int x3, .int 1, v5]) dX11_freeCode_53 (by decide) rfl ?_
    refine wp_iconst (M := mX11_freeCode) (pc := 55) dX11_freeCode_55 k_iconst_0 ?_
    refine wp_istore (M := mX11_freeCode) (pc := 56) (ls' := [.ref 82, .int x1, .int x2, .int x3, .int 1, .int 0]) dX11_freeCode_56 (by decide) rfl ?_
    exact p2 c1
theorem bX11_freeCode_58 {G : GC} {d : Nat} {sw : Bool} {f : FF} {Q : QQ} {x1 : Int32} {x2 : Int32} {x3 : Int32} {x4 : Int32} {x5 : Int32} (p1 : (8 ≤ x5) → (x4 = 0) → XP G mX11_freeCode (d + 2) 47 [.ref 82, .int x1, .int x2, .int (x3 + 1), .int x4, .int x5] [] sw f Q) (p2 : (8 ≤ x5) → (¬ x4 = 0) → Q (some (.int x3)) sw f) (p3 : (¬ 8 ≤ x5) → XP G mX11_clashes (d + 1) 0 [.ref 82, .int x3, .int x1, .int x5, .null] [] sw f (fun v sw' f' => XP G mX11_freeCode (d + 2) 73 [.ref 82, .int x1, .int x2, .int x3, .int x4, .int x5] (retst v []) sw' f' Q)) : XP G mX11_freeCode (d + 2) 58 [.ref 82, .int x1, .int x2, .int x3, .int x4, .int x5] [] sw f Q := by
  refine wp_iload (M := mX11_freeCode) (pc := 58) dX11_freeCode_58 rfl ?_
  refine wp_bipush (M := mX11_freeCode) (pc := 60) dX11_freeCode_60 k_bipush_8 ?_
  refine wp_icmp_ge (M := mX11_freeCode) (pc := 62) (t := 85) dX11_freeCode_62 (by decide) (fun c1 => ?_) (fun c1 => ?_)
  · refine wp_iload (M := mX11_freeCode) (pc := 85) dX11_freeCode_85 rfl ?_
    refine wp_if_eq (M := mX11_freeCode) (pc := 87) (t := 92) dX11_freeCode_87 (by decide) (fun c2 => ?_) (fun c2 => ?_)
    · refine wp_iinc (M := mX11_freeCode) (pc := 92) (v := x3 + 1) (ls' := [.ref 82, .int x1, .int x2, .int (x3 + 1), .int x4, .int x5]) dX11_freeCode_92 rfl (congrArg (fun z => _ + z) k_iconst_1) (by decide) rfl ?_
      refine wp_goto (M := mX11_freeCode) (pc := 95) (t := 47) dX11_freeCode_95 (by decide) ?_
      exact p1 c1 c2
    · refine wp_iload_n (M := mX11_freeCode) (pc := 90) dX11_freeCode_90 rfl rfl ?_
      exact xs_iret (M := mX11_freeCode) (pc := 91) dX11_freeCode_91 rfl (p2 c1 c2)
  · refine wp_aload_n (M := mX11_freeCode) (pc := 65) dX11_freeCode_65 rfl rfl ?_
    refine wp_iload_n (M := mX11_freeCode) (pc := 66) dX11_freeCode_66 rfl rfl ?_
    refine wp_iload_n (M := mX11_freeCode) (pc := 67) dX11_freeCode_67 rfl rfl ?_
    refine wp_iload (M := mX11_freeCode) (pc := 68) dX11_freeCode_68 rfl ?_
    refine xs_callV (d := d + 1) (M := mX11_freeCode) (pc := 70) (As := [.int x3, .int x1, .int x5]) (st := []) (c := 11) (ls' := [.ref 82, .int x3, .int x1, .int x5, .null]) dX11_freeCode_70 oX11_clashes nX11_clashes lX11_385 vX11_clashes sX11_clashes rfl sh82 (Nat.le_of_ble_eq_true rfl) rfl (Nat.le_of_ble_eq_true rfl) rfl ?_
    exact p3 c1
theorem bX11_freeCode_73 {G : GC} {d : Nat} {sw : Bool} {f : FF} {Q : QQ} {x1 : Int32} {x2 : Int32} {x3 : Int32} {x4 : Int32} {x5 : Int32} {s0 : Int32} (p1 : (s0 = 0) → XP G mX11_freeCode (d + 2) 58 [.ref 82, .int x1, .int x2, .int x3, .int x4, .int (x5 + 1)] [] sw f Q) (p2 : (¬ s0 = 0) → XP G mX11_freeCode (d + 2) 58 [.ref 82, .int x1, .int x2, .int x3, .int 0, .int (x5 + 1)] [] sw f Q) : XP G mX11_freeCode (d + 2) 73 [.ref 82, .int x1, .int x2, .int x3, .int x4, .int x5] [.int s0] sw f Q := by
  refine wp_if_eq (M := mX11_freeCode) (pc := 73) (t := 79) dX11_freeCode_73 (by decide) (fun c1 => ?_) (fun c1 => ?_)
  · refine wp_iinc (M := mX11_freeCode) (pc := 79) (v := x5 + 1) (ls' := [.ref 82, .int x1, .int x2, .int x3, .int x4, .int (x5 + 1)]) dX11_freeCode_79 rfl (congrArg (fun z => _ + z) k_iconst_1) (by decide) rfl ?_
    refine wp_goto (M := mX11_freeCode) (pc := 82) (t := 58) dX11_freeCode_82 (by decide) ?_
    exact p1 c1
  · refine wp_iconst (M := mX11_freeCode) (pc := 76) dX11_freeCode_76 k_iconst_0 ?_
    refine wp_istore (M := mX11_freeCode) (pc := 77) (ls' := [.ref 82, .int x1, .int x2, .int x3, .int 0, .int x5]) dX11_freeCode_77 (by decide) rfl ?_
    refine wp_iinc (M := mX11_freeCode) (pc := 79) (v := x5 + 1) (ls' := [.ref 82, .int x1, .int x2, .int x3, .int 0, .int (x5 + 1)]) dX11_freeCode_79 rfl (congrArg (fun z => _ + z) k_iconst_1) (by decide) rfl ?_
    refine wp_goto (M := mX11_freeCode) (pc := 82) (t := 58) dX11_freeCode_82 (by decide) ?_
    exact p2 c1
theorem bX11_clashes_0 {G : GC} {d : Nat} {sw : Bool} {f : FF} {Q : QQ} {x1 : Int32} {x2 : Int32} {x3 : Int32} (p1 : vp_in x3 8) (p2 : (¬ (f 113 x3.toNatClampNeg) = 0) → XP G mX11_clashes (d + 1) 14 [.ref 82, .int x1, .int x2, .int x3, .int 0] [] sw f Q) (p3 : ((f 113 x3.toNatClampNeg) = 0) → Q (some (.int 0)) sw f) : XP G mX11_clashes (d + 1) 0 [.ref 82, .int x1, .int x2, .int x3, .null] [] sw f Q := by
  refine wp_aload_n (M := mX11_clashes) (pc := 0) dX11_clashes_0 rfl rfl ?_
  refine xs_getr (M := mX11_clashes) (pc := 1) (r := 113) dX11_clashes_1 fX11_101 sh82 rfl (gr82_46 sw) ?_
  refine wp_iload_n (M := mX11_clashes) (pc := 4) dX11_clashes_4 rfl rfl ?_
  refine xs_iald (M := mX11_clashes) (pc := 5) (j := x3.toNatClampNeg) dX11_clashes_5 sh113 (p1) rfl ?_
  refine wp_if_ne (M := mX11_clashes) (pc := 6) (t := 11) dX11_clashes_6 (by decide) (fun c1 => ?_) (fun c1 => ?_)
  · refine wp_iconst (M := mX11_clashes) (pc := 11) dX11_clashes_11 k_iconst_0 ?_
    refine wp_istore (M := mX11_clashes) (pc := 12) (ls' := [.ref 82, .int x1, .int x2, .int x3, .int 0]) dX11_clashes_12 (by decide) rfl ?_
    exact p2 c1
  · refine wp_iconst (M := mX11_clashes) (pc := 9) dX11_clashes_9 k_iconst_0 ?_
    exact xs_zret (M := mX11_clashes) (pc := 10) dX11_clashes_10 rfl (by decide) (p3 c1)
theorem bX11_clashes_14 {G : GC} {d : Nat} {sw : Bool} {f : FF} {Q : QQ} {x1 : Int32} {x2 : Int32} {x3 : Int32} {x4 : Int32} (p1 : (x2 ≤ x4) → Q (some (.int 1)) sw f) (p2 : (¬ x2 ≤ x4) → vp_in x3 8) (p3 : (¬ x2 ≤ x4) → ((f 113 x3.toNatClampNeg) ≤ x4) → Q (some (.int 1)) sw f) (p4 : (¬ x2 ≤ x4) → (¬ (f 113 x3.toNatClampNeg) ≤ x4) → vp_in ((6 * x3) + x4) 48) (p5 : (¬ x2 ≤ x4) → (¬ (f 113 x3.toNatClampNeg) ≤ x4) → XP G mX11_digitOf (d) 0 [.int x1, .int x2, .int x4, .null, .null] [] sw f (fun v sw' f' => XP G mX11_clashes (d + 1) 50 [.ref 82, .int x1, .int x2, .int x3, .int x4] (retst v [.int (f 112 (((6 * x3) + x4).toNatClampNeg))]) sw' f' Q)) : XP G mX11_clashes (d + 1) 14 [.ref 82, .int x1, .int x2, .int x3, .int x4] [] sw f Q := by
  refine wp_iload (M := mX11_clashes) (pc := 14) dX11_clashes_14 rfl ?_
  refine wp_iload_n (M := mX11_clashes) (pc := 16) dX11_clashes_16 rfl rfl ?_
  refine wp_icmp_ge (M := mX11_clashes) (pc := 17) (t := 61) dX11_clashes_17 (by decide) (fun c1 => ?_) (fun c1 => ?_)
  · refine wp_iconst (M := mX11_clashes) (pc := 61) dX11_clashes_61 k_iconst_1 ?_
    exact xs_zret (M := mX11_clashes) (pc := 62) dX11_clashes_62 rfl (by decide) (p1 c1)
  · refine wp_iload (M := mX11_clashes) (pc := 20) dX11_clashes_20 rfl ?_
    refine wp_aload_n (M := mX11_clashes) (pc := 22) dX11_clashes_22 rfl rfl ?_
    refine xs_getr (M := mX11_clashes) (pc := 23) (r := 113) dX11_clashes_23 fX11_101 sh82 rfl (gr82_46 sw) ?_
    refine wp_iload_n (M := mX11_clashes) (pc := 26) dX11_clashes_26 rfl rfl ?_
    refine xs_iald (M := mX11_clashes) (pc := 27) (j := x3.toNatClampNeg) dX11_clashes_27 sh113 (p2 c1) rfl ?_
    refine wp_icmp_ge (M := mX11_clashes) (pc := 28) (t := 61) dX11_clashes_28 (by decide) (fun c2 => ?_) (fun c2 => ?_)
    · refine wp_iconst (M := mX11_clashes) (pc := 61) dX11_clashes_61 k_iconst_1 ?_
      exact xs_zret (M := mX11_clashes) (pc := 62) dX11_clashes_62 rfl (by decide) (p3 c1 c2)
    · refine wp_aload_n (M := mX11_clashes) (pc := 31) dX11_clashes_31 rfl rfl ?_
      refine xs_getr (M := mX11_clashes) (pc := 32) (r := 112) dX11_clashes_32 fX11_98 sh82 rfl (gr82_45 sw) ?_
      refine wp_bipush (M := mX11_clashes) (pc := 35) dX11_clashes_35 k_bipush_6 ?_
      refine wp_iload_n (M := mX11_clashes) (pc := 37) dX11_clashes_37 rfl rfl ?_
      refine wp_imul (M := mX11_clashes) (pc := 38) dX11_clashes_38 ?_
      refine wp_iload (M := mX11_clashes) (pc := 39) dX11_clashes_39 rfl ?_
      refine wp_iadd (M := mX11_clashes) (pc := 41) dX11_clashes_41 ?_
      refine xs_bald (M := mX11_clashes) (pc := 42) (j := ((6 * x3) + x4).toNatClampNeg) dX11_clashes_42 sh112 (p4 c1 c2) rfl ?_
      refine wp_iload_n (M := mX11_clashes) (pc := 43) dX11_clashes_43 rfl rfl ?_
      refine wp_iload_n (M := mX11_clashes) (pc := 44) dX11_clashes_44 rfl rfl ?_
      refine wp_iload (M := mX11_clashes) (pc := 45) dX11_clashes_45 rfl ?_
      refine xs_callS (d := d) (M := mX11_clashes) (pc := 47) (As := [.int x1, .int x2, .int x4]) (st := [.int (f 112 (((6 * x3) + x4).toNatClampNeg))]) (ls' := [.int x1, .int x2, .int x4, .null, .null]) dX11_clashes_47 oX11_digitOf nX11_digitOf lX11_379 tX11_digitOf (Nat.le_of_ble_eq_true rfl) rfl (Nat.le_of_ble_eq_true rfl) rfl ?_
      exact p5 c1 c2
theorem bX11_clashes_50 {G : GC} {d : Nat} {sw : Bool} {f : FF} {Q : QQ} {x1 : Int32} {x2 : Int32} {x3 : Int32} {x4 : Int32} {s0 : Int32} {s1 : Int32} (p1 : (s1 = s0) → XP G mX11_clashes (d + 1) 14 [.ref 82, .int x1, .int x2, .int x3, .int (x4 + 1)] [] sw f Q) (p2 : (¬ s1 = s0) → Q (some (.int 0)) sw f) : XP G mX11_clashes (d + 1) 50 [.ref 82, .int x1, .int x2, .int x3, .int x4] [.int s0, .int s1] sw f Q := by
  refine wp_icmp_eq (M := mX11_clashes) (pc := 50) (t := 55) dX11_clashes_50 (by decide) (fun c1 => ?_) (fun c1 => ?_)
  · refine wp_iinc (M := mX11_clashes) (pc := 55) (v := x4 + 1) (ls' := [.ref 82, .int x1, .int x2, .int x3, .int (x4 + 1)]) dX11_clashes_55 rfl (congrArg (fun z => _ + z) k_iconst_1) (by decide) rfl ?_
    refine wp_goto (M := mX11_clashes) (pc := 58) (t := 14) dX11_clashes_58 (by decide) ?_
    exact p1 c1
  · refine wp_iconst (M := mX11_clashes) (pc := 53) dX11_clashes_53 k_iconst_0 ?_
    exact xs_zret (M := mX11_clashes) (pc := 54) dX11_clashes_54 rfl (by decide) (p2 c1)
theorem bX11_digitOf_0 {G : GC} {d : Nat} {sw : Bool} {f : FF} {Q : QQ} {x0 : Int32} {x1 : Int32} {x2 : Int32} (p1 : XP G mX11_digitOf (d) 7 [.int x0, .int x1, .int x2, .int x0, .int (x1 - 1)] [] sw f Q) : XP G mX11_digitOf (d) 0 [.int x0, .int x1, .int x2, .null, .null] [] sw f Q := by
  refine wp_iload_n (M := mX11_digitOf) (pc := 0) dX11_digitOf_0 rfl rfl ?_
  refine wp_istore_n (M := mX11_digitOf) (pc := 1) (ls' := [.int x0, .int x1, .int x2, .int x0, .null]) dX11_digitOf_1 rfl (by decide) rfl ?_
  refine wp_iload_n (M := mX11_digitOf) (pc := 2) dX11_digitOf_2 rfl rfl ?_
  refine wp_iconst (M := mX11_digitOf) (pc := 3) dX11_digitOf_3 k_iconst_1 ?_
  refine wp_isub (M := mX11_digitOf) (pc := 4) dX11_digitOf_4 ?_
  refine wp_istore (M := mX11_digitOf) (pc := 5) (ls' := [.int x0, .int x1, .int x2, .int x0, .int (x1 - 1)]) dX11_digitOf_5 (by decide) rfl ?_
  exact p1
theorem bX11_digitOf_7 {G : GC} {d : Nat} {sw : Bool} {f : FF} {Q : QQ} {x0 : Int32} {x1 : Int32} {x2 : Int32} {x3 : Int32} {x4 : Int32} (p1 : (x4 ≤ x2) → Q (some (.int (48 + (x3 - x3 / 10 * 10)))) sw f) (p2 : (¬ x4 ≤ x2) → XP G mX11_digitOf (d) 7 [.int x0, .int x1, .int x2, .int (x3 / 10), .int (x4 + (-1))] [] sw f Q) : XP G mX11_digitOf (d) 7 [.int x0, .int x1, .int x2, .int x3, .int x4] [] sw f Q := by
  refine wp_iload (M := mX11_digitOf) (pc := 7) dX11_digitOf_7 rfl ?_
  refine wp_iload_n (M := mX11_digitOf) (pc := 9) dX11_digitOf_9 rfl rfl ?_
  refine wp_icmp_le (M := mX11_digitOf) (pc := 10) (t := 24) dX11_digitOf_10 (by decide) (fun c1 => ?_) (fun c1 => ?_)
  · refine wp_bipush (M := mX11_digitOf) (pc := 24) dX11_digitOf_24 k_bipush_48 ?_
    refine wp_iload_n (M := mX11_digitOf) (pc := 26) dX11_digitOf_26 rfl rfl ?_
    refine wp_bipush (M := mX11_digitOf) (pc := 27) dX11_digitOf_27 k_bipush_10 ?_
    refine wp_irem (M := mX11_digitOf) (pc := 29) dX11_digitOf_29 (by decide) ?_
    refine wp_iadd (M := mX11_digitOf) (pc := 30) dX11_digitOf_30 ?_
    exact xs_iret (M := mX11_digitOf) (pc := 31) dX11_digitOf_31 rfl (p1 c1)
  · refine wp_iload_n (M := mX11_digitOf) (pc := 13) dX11_digitOf_13 rfl rfl ?_
    refine wp_bipush (M := mX11_digitOf) (pc := 14) dX11_digitOf_14 k_bipush_10 ?_
    refine wp_idiv (M := mX11_digitOf) (pc := 16) dX11_digitOf_16 (by decide) ?_
    refine wp_istore_n (M := mX11_digitOf) (pc := 17) (ls' := [.int x0, .int x1, .int x2, .int (x3 / 10), .int x4]) dX11_digitOf_17 rfl (by decide) rfl ?_
    refine wp_iinc (M := mX11_digitOf) (pc := 18) (v := x4 + (-1)) (ls' := [.int x0, .int x1, .int x2, .int (x3 / 10), .int (x4 + (-1))]) dX11_digitOf_18 rfl (congrArg (fun z => _ + z) k_iconst_m1) (by decide) rfl ?_
    refine wp_goto (M := mX11_digitOf) (pc := 21) (t := 7) dX11_digitOf_21 (by decide) ?_
    exact p2 c1
theorem bX11_seed_0 {G : GC} {d : Nat} {sw : Bool} {f : FF} {Q : QQ} {x1 : Int32} (p1 : (0 ≤ x1 ∧ x1 ≤ 65535) → Q (some (.int 1)) sw (upd2 f 83 390 x1)) (p2 : (¬ (0 ≤ x1 ∧ x1 ≤ 65535)) → Q (some (.int 0)) sw f) : XP G mX11_seed (d + 1) 0 [.ref 82, .int x1] [] sw f Q := by
  refine wp_iload_n (M := mX11_seed) (pc := 0) dX11_seed_0 rfl rfl ?_
  refine wp_iconst (M := mX11_seed) (pc := 1) dX11_seed_1 k_iconst_0 ?_
  refine wp_ldcw (M := mX11_seed) (pc := 2) dX11_seed_2 kX11_388 ?_
  refine xs_callS (d := d) (M := mX11_seed) (pc := 5) (As := [.int x1, .int 0, .int 65535]) (st := []) (ls' := [.int x1, .int 0, .int 65535]) dX11_seed_5 oX11_in nX11_in lX11_111 tX11_in (Nat.le_of_ble_eq_true rfl) rfl (Nat.le_of_ble_eq_true rfl) rfl ?_
  refine sp_X11_in   ?_
  refine xs_ifb_ne (M := mX11_seed) (pc := 8) (t := 13) dX11_seed_8 (by decide) (fun c1 => ?_) (fun c1 => ?_)
  · refine wp_aload_n (M := mX11_seed) (pc := 13) dX11_seed_13 rfl rfl ?_
    refine xs_getr (M := mX11_seed) (pc := 14) (r := 83) dX11_seed_14 fX11_7 sh82 rfl (gr82_0 sw) ?_
    refine wp_sipush (M := mX11_seed) (pc := 17) dX11_seed_17 k_sipush_390 ?_
    refine wp_iload_n (M := mX11_seed) (pc := 20) dX11_seed_20 rfl rfl ?_
    refine xs_iast (M := mX11_seed) (pc := 21) (j := 390) dX11_seed_21 sh83 (vin (by decide)) rfl ?_
    refine wp_iconst (M := mX11_seed) (pc := 22) dX11_seed_22 k_iconst_1 ?_
    exact xs_zret (M := mX11_seed) (pc := 23) dX11_seed_23 rfl (by decide) (p1 c1)
  · refine wp_iconst (M := mX11_seed) (pc := 11) dX11_seed_11 k_iconst_0 ?_
    exact xs_zret (M := mX11_seed) (pc := 12) dX11_seed_12 rfl (by decide) (p2 c1)
theorem bX11_keep_0 {G : GC} {d : Nat} {sw : Bool} {f : FF} {Q : QQ}  (p1 : XP G mX11_copies (d) 0 [.ref 83, .ref 85, .null] [] sw (upd2 f 82 47 1) (fun v sw' f' => XP G mX11_keep (d + 1) 16 [.ref 82] (retst v []) sw' f' Q)) : XP G mX11_keep (d + 1) 0 [.ref 82] [] sw f Q := by
  refine wp_aload_n (M := mX11_keep) (pc := 0) dX11_keep_0 rfl rfl ?_
  refine wp_iconst (M := mX11_keep) (pc := 1) dX11_keep_1 k_iconst_1 ?_
  refine xs_putz (M := mX11_keep) (pc := 2) dX11_keep_2 pX11_389 sh82 rfl (by decide) ?_
  refine wp_aload_n (M := mX11_keep) (pc := 5) dX11_keep_5 rfl rfl ?_
  refine xs_getr (M := mX11_keep) (pc := 6) (r := 83) dX11_keep_6 fX11_7 sh82 rfl (gr82_0 sw) ?_
  refine wp_aload_n (M := mX11_keep) (pc := 9) dX11_keep_9 rfl rfl ?_
  refine xs_getr (M := mX11_keep) (pc := 10) (r := 85) dX11_keep_10 fX11_16 sh82 rfl (gr82_2 sw) ?_
  refine xs_callS (d := d) (M := mX11_keep) (pc := 13) (As := [.ref 83, .ref 85]) (st := []) (ls' := [.ref 83, .ref 85, .null]) dX11_keep_13 oX11_copies nX11_copies lX11_266 tX11_copies (Nat.le_of_ble_eq_true rfl) rfl (Nat.le_of_ble_eq_true rfl) rfl ?_
  exact p1
theorem bX11_keep_16 {G : GC} {d : Nat} {sw : Bool} {f : FF} {Q : QQ}  (p1 : Q (some (.int (f 83 389))) sw f) : XP G mX11_keep (d + 1) 16 [.ref 82] [] sw f Q := by
  refine wp_aload_n (M := mX11_keep) (pc := 16) dX11_keep_16 rfl rfl ?_
  refine xs_getr (M := mX11_keep) (pc := 17) (r := 83) dX11_keep_17 fX11_7 sh82 rfl (gr82_0 sw) ?_
  refine wp_sipush (M := mX11_keep) (pc := 20) dX11_keep_20 k_sipush_389 ?_
  refine xs_iald (M := mX11_keep) (pc := 23) (j := 389) dX11_keep_23 sh83 (vin (by decide)) rfl ?_
  exact xs_iret (M := mX11_keep) (pc := 24) dX11_keep_24 rfl (p1)
theorem bX11_undo_0 {G : GC} {d : Nat} {sw : Bool} {f : FF} {Q : QQ}  (p1 : (¬ (f 82 47) = 0) → XP G mX11_copies (d) 0 [.ref 85, .ref 83, .null] [] sw f (fun v sw' f' => XP G mX11_undo (d + 1) 20 [.ref 82] (retst v []) sw' f' Q)) (p2 : ((f 82 47) = 0) → Q (some (.int 0)) sw f) : XP G mX11_undo (d + 1) 0 [.ref 82] [] sw f Q := by
  refine wp_aload_n (M := mX11_undo) (pc := 0) dX11_undo_0 rfl rfl ?_
  refine xs_getz (M := mX11_undo) (pc := 1) dX11_undo_1 fX11_389 sh82 rfl ?_
  refine wp_if_ne (M := mX11_undo) (pc := 4) (t := 9) dX11_undo_4 (by decide) (fun c1 => ?_) (fun c1 => ?_)
  · refine wp_aload_n (M := mX11_undo) (pc := 9) dX11_undo_9 rfl rfl ?_
    refine xs_getr (M := mX11_undo) (pc := 10) (r := 85) dX11_undo_10 fX11_16 sh82 rfl (gr82_2 sw) ?_
    refine wp_aload_n (M := mX11_undo) (pc := 13) dX11_undo_13 rfl rfl ?_
    refine xs_getr (M := mX11_undo) (pc := 14) (r := 83) dX11_undo_14 fX11_7 sh82 rfl (gr82_0 sw) ?_
    refine xs_callS (d := d) (M := mX11_undo) (pc := 17) (As := [.ref 85, .ref 83]) (st := []) (ls' := [.ref 85, .ref 83, .null]) dX11_undo_17 oX11_copies nX11_copies lX11_266 tX11_copies (Nat.le_of_ble_eq_true rfl) rfl (Nat.le_of_ble_eq_true rfl) rfl ?_
    exact p1 c1
  · refine wp_iconst (M := mX11_undo) (pc := 7) dX11_undo_7 k_iconst_0 ?_
    exact xs_zret (M := mX11_undo) (pc := 8) dX11_undo_8 rfl (by decide) (p2 c1)
theorem bX11_undo_20 {G : GC} {d : Nat} {sw : Bool} {f : FF} {Q : QQ}  (p1 : Q (some (.int 1)) sw f) : XP G mX11_undo (d + 1) 20 [.ref 82] [] sw f Q := by
  refine wp_iconst (M := mX11_undo) (pc := 20) dX11_undo_20 k_iconst_1 ?_
  exact xs_zret (M := mX11_undo) (pc := 21) dX11_undo_21 rfl (by decide) (p1)
theorem bX11_check_0 {G : GC} {d : Nat} {sw : Bool} {f : FF} {Q : QQ} {x1 : Int32} (p1 : (¬ (0 ≤ x1 ∧ x1 ≤ 16)) → Q (some (.int (-2))) sw f) (p2 : (0 ≤ x1 ∧ x1 ≤ 16) → (x1 ≤ (f 82 10)) → XP G mX11_check (d + 2) 28 [.ref 82, .int x1, .int 0] [] sw (upd2 f 82 10 0) Q) (p3 : (0 ≤ x1 ∧ x1 ≤ 16) → (¬ x1 ≤ (f 82 10)) → Q (some (.int (-2))) sw f) : XP G mX11_check (d + 2) 0 [.ref 82, .int x1, .null] [] sw f Q := by
  refine wp_iload_n (M := mX11_check) (pc := 0) dX11_check_0 rfl rfl ?_
  refine wp_iconst (M := mX11_check) (pc := 1) dX11_check_1 k_iconst_0 ?_
  refine wp_bipush (M := mX11_check) (pc := 2) dX11_check_2 k_bipush_16 ?_
  refine xs_callS (d := d + 1) (M := mX11_check) (pc := 4) (As := [.int x1, .int 0, .int 16]) (st := []) (ls' := [.int x1, .int 0, .int 16]) dX11_check_4 oX11_in nX11_in lX11_111 tX11_in (Nat.le_of_ble_eq_true rfl) rfl (Nat.le_of_ble_eq_true rfl) rfl ?_
  refine sp_X11_in   ?_
  refine xs_ifb_eq (M := mX11_check) (pc := 7) (t := 18) dX11_check_7 (by decide) (fun c1 => ?_) (fun c1 => ?_)
  · refine wp_bipush (M := mX11_check) (pc := 18) dX11_check_18 k_bipush_m2 ?_
    exact xs_iret (M := mX11_check) (pc := 20) dX11_check_20 rfl (p1 c1)
  · refine wp_iload_n (M := mX11_check) (pc := 10) dX11_check_10 rfl rfl ?_
    refine wp_aload_n (M := mX11_check) (pc := 11) dX11_check_11 rfl rfl ?_
    refine xs_geti (M := mX11_check) (pc := 12) dX11_check_12 fX11_146 sh82 rfl ?_
    refine wp_icmp_le (M := mX11_check) (pc := 15) (t := 21) dX11_check_15 (by decide) (fun c2 => ?_) (fun c2 => ?_)
    · refine wp_aload_n (M := mX11_check) (pc := 21) dX11_check_21 rfl rfl ?_
      refine wp_iconst (M := mX11_check) (pc := 22) dX11_check_22 k_iconst_0 ?_
      refine xs_puti (M := mX11_check) (pc := 23) dX11_check_23 pX11_146 sh82 rfl ?_
      refine wp_iconst (M := mX11_check) (pc := 26) dX11_check_26 k_iconst_0 ?_
      refine wp_istore_n (M := mX11_check) (pc := 27) (ls' := [.ref 82, .int x1, .int 0]) dX11_check_27 rfl (by decide) rfl ?_
      exact p2 c1 c2
    · refine wp_bipush (M := mX11_check) (pc := 18) dX11_check_18 k_bipush_m2 ?_
      exact xs_iret (M := mX11_check) (pc := 20) dX11_check_20 rfl (p3 c1 c2)
theorem bX11_check_28 {G : GC} {d : Nat} {sw : Bool} {f : FF} {Q : QQ} {x1 : Int32} {x2 : Int32} (p1 : (x1 ≤ x2) → Q (some (.int (-1))) sw f) (p2 : (¬ x1 ≤ x2) → vp_in x2 260) (p3 : (¬ x1 ≤ x2) → (¬ (toldM f x2)) → ((oct f x2) = 0) → XP G mX11_check (d + 2) 28 [.ref 82, .int x1, .int (x2 + 1)] [] sw f Q) (p4 : (¬ x1 ≤ x2) → (¬ (toldM f x2)) → (¬ (oct f x2) = 0) → Q (some (.int x2)) sw f) (p5 : (¬ x1 ≤ x2) → (toldM f x2) → vp_in (80 + x2) 391) (p6 : (¬ x1 ≤ x2) → (toldM f x2) → ((oct f x2) = ((f 83 ((80 + x2).toNatClampNeg)) - (f 83 ((80 + x2).toNatClampNeg)) / 256 * 256)) → XP G mX11_check (d + 2) 28 [.ref 82, .int x1, .int (x2 + 1)] [] sw f Q) (p7 : (¬ x1 ≤ x2) → (toldM f x2) → (¬ (oct f x2) = ((f 83 ((80 + x2).toNatClampNeg)) - (f 83 ((80 + x2).toNatClampNeg)) / 256 * 256)) → Q (some (.int x2)) sw f) : XP G mX11_check (d + 2) 28 [.ref 82, .int x1, .int x2] [] sw f Q := by
  refine wp_iload_n (M := mX11_check) (pc := 28) dX11_check_28 rfl rfl ?_
  refine wp_iload_n (M := mX11_check) (pc := 29) dX11_check_29 rfl rfl ?_
  refine wp_icmp_ge (M := mX11_check) (pc := 30) (t := 74) dX11_check_30 (by decide) (fun c1 => ?_) (fun c1 => ?_)
  · refine wp_iconst (M := mX11_check) (pc := 74) dX11_check_74 k_iconst_m1 ?_
    exact xs_iret (M := mX11_check) (pc := 75) dX11_check_75 rfl (p1 c1)
  · refine wp_aload_n (M := mX11_check) (pc := 33) dX11_check_33 rfl rfl ?_
    refine wp_iload_n (M := mX11_check) (pc := 34) dX11_check_34 rfl rfl ?_
    refine xs_callV (d := d + 1) (M := mX11_check) (pc := 35) (As := [.int x2]) (st := []) (c := 11) (ls' := [.ref 82, .int x2]) dX11_check_35 oX11_octet nX11_octet lX11_338 vX11_octet sX11_octet rfl sh82 (Nat.le_of_ble_eq_true rfl) rfl (Nat.le_of_ble_eq_true rfl) rfl ?_
    refine sp_X11_octet  (p2 c1) ?_
    refine wp_aload_n (M := mX11_check) (pc := 38) dX11_check_38 rfl rfl ?_
    refine wp_iload_n (M := mX11_check) (pc := 39) dX11_check_39 rfl rfl ?_
    refine xs_callV (d := d + 1) (M := mX11_check) (pc := 40) (As := [.int x2]) (st := [.int (oct f x2)]) (c := 11) (ls' := [.ref 82, .int x2]) dX11_check_40 oX11_isTold nX11_isTold lX11_119 vX11_isTold sX11_isTold rfl sh82 (Nat.le_of_ble_eq_true rfl) rfl (Nat.le_of_ble_eq_true rfl) rfl ?_
    refine sp_X11_isTold   ?_
    refine xs_ifb_eq (M := mX11_check) (pc := 43) (t := 62) dX11_check_43 (by decide) (fun c2 => ?_) (fun c2 => ?_)
    · refine wp_iconst (M := mX11_check) (pc := 62) dX11_check_62 k_iconst_0 ?_
      refine wp_icmp_eq (M := mX11_check) (pc := 63) (t := 68) dX11_check_63 (by decide) (fun c3 => ?_) (fun c3 => ?_)
      · refine wp_iinc (M := mX11_check) (pc := 68) (v := x2 + 1) (ls' := [.ref 82, .int x1, .int (x2 + 1)]) dX11_check_68 rfl (congrArg (fun z => _ + z) k_iconst_1) (by decide) rfl ?_
        refine wp_goto (M := mX11_check) (pc := 71) (t := 28) dX11_check_71 (by decide) ?_
        exact p3 c1 c2 c3
      · refine wp_iload_n (M := mX11_check) (pc := 66) dX11_check_66 rfl rfl ?_
        exact xs_iret (M := mX11_check) (pc := 67) dX11_check_67 rfl (p4 c1 c2 c3)
    · refine wp_aload_n (M := mX11_check) (pc := 46) dX11_check_46 rfl rfl ?_
      refine xs_getr (M := mX11_check) (pc := 47) (r := 83) dX11_check_47 fX11_7 sh82 rfl (gr82_0 sw) ?_
      refine wp_bipush (M := mX11_check) (pc := 50) dX11_check_50 k_bipush_80 ?_
      refine wp_iload_n (M := mX11_check) (pc := 52) dX11_check_52 rfl rfl ?_
      refine wp_iadd (M := mX11_check) (pc := 53) dX11_check_53 ?_
      refine xs_iald (M := mX11_check) (pc := 54) (j := (80 + x2).toNatClampNeg) dX11_check_54 sh83 (p5 c1 c2) rfl ?_
      refine wp_sipush (M := mX11_check) (pc := 55) dX11_check_55 k_sipush_256 ?_
      refine wp_irem (M := mX11_check) (pc := 58) dX11_check_58 (by decide) ?_
      refine wp_goto (M := mX11_check) (pc := 59) (t := 63) dX11_check_59 (by decide) ?_
      refine wp_icmp_eq (M := mX11_check) (pc := 63) (t := 68) dX11_check_63 (by decide) (fun c4 => ?_) (fun c4 => ?_)
      · refine wp_iinc (M := mX11_check) (pc := 68) (v := x2 + 1) (ls' := [.ref 82, .int x1, .int (x2 + 1)]) dX11_check_68 rfl (congrArg (fun z => _ + z) k_iconst_1) (by decide) rfl ?_
        refine wp_goto (M := mX11_check) (pc := 71) (t := 28) dX11_check_71 (by decide) ?_
        exact p6 c1 c2 c4
      · refine wp_iload_n (M := mX11_check) (pc := 66) dX11_check_66 rfl rfl ?_
        exact xs_iret (M := mX11_check) (pc := 67) dX11_check_67 rfl (p7 c1 c2 c4)
theorem bX11_count_0 {G : GC} {d : Nat} {sw : Bool} {f : FF} {Q : QQ} {x1 : Int32} (p1 : (x1 = 0) → Q (some (.int (f 83 389))) sw f) (p2 : (x1 = 1) → Q (some (.int (f 83 388))) sw f) (p3 : (x1 = 2) → XP G mX11_setOf (d + 2) 0 [.ref 82, .int 0, .int 1, .null, .null] [] sw f (fun v sw' f' => XP G mX11_count (d + 3) 80 [.ref 82, .int x1, .int 0, .null] (retst v []) sw' f' Q)) (p4 : (x1 = 3) → XP G mX11_setOf (d + 2) 0 [.ref 82, .int 32, .int 0, .null, .null] [] sw f (fun v sw' f' => XP G mX11_count (d + 3) 88 [.ref 82, .int x1, .int 0, .null] (retst v []) sw' f' Q)) (p5 : (x1 = 4) → XP G mX11_setOf (d + 2) 0 [.ref 82, .int 48, .int 0, .null, .null] [] sw f (fun v sw' f' => XP G mX11_count (d + 3) 96 [.ref 82, .int x1, .int 0, .null] (retst v []) sw' f' Q)) (p6 : (x1 = 5) → XP G mX11_count (d + 3) 99 [.ref 82, .int x1, .int 0, .int 0] [] sw f Q) (p7 : (x1 = 6) → XP G mX11_callsNow (d + 2) 0 [.ref 82, .null, .null] [] sw f (fun v sw' f' => XP G mX11_count (d + 3) 135 [.ref 82, .int x1, .int 0, .null] (retst v []) sw' f' Q)) (p8 : (x1 = 7) → Q (some (.int (f 82 19))) sw f) (p9 : (x1 = 8) → Q (some (.int (f 82 10))) sw f) (p10 : (x1 = 9) → Q (some (.int (f 83 390))) sw f) (p11 : (¬ x1 = 0) → (¬ x1 = 1) → (¬ x1 = 2) → (¬ x1 = 3) → (¬ x1 = 4) → (¬ x1 = 5) → (¬ x1 = 6) → (¬ x1 = 7) → (¬ x1 = 8) → (¬ x1 = 9) → (¬ (10 ≤ x1 ∧ x1 ≤ 17)) → Q (some (.int (-1))) sw f) (p12 : (¬ x1 = 0) → (¬ x1 = 1) → (¬ x1 = 2) → (¬ x1 = 3) → (¬ x1 = 4) → (¬ x1 = 5) → (¬ x1 = 6) → (¬ x1 = 7) → (¬ x1 = 8) → (¬ x1 = 9) → (10 ≤ x1 ∧ x1 ≤ 17) → vp_in (x1 - 10) 8) (p13 : (¬ x1 = 0) → (¬ x1 = 1) → (¬ x1 = 2) → (¬ x1 = 3) → (¬ x1 = 4) → (¬ x1 = 5) → (¬ x1 = 6) → (¬ x1 = 7) → (¬ x1 = 8) → (¬ x1 = 9) → (10 ≤ x1 ∧ x1 ≤ 17) → ((f 113 ((x1 - 10).toNatClampNeg)) ≤ 0) → Q (some (.int (-1))) sw f) (p14 : (¬ x1 = 0) → (¬ x1 = 1) → (¬ x1 = 2) → (¬ x1 = 3) → (¬ x1 = 4) → (¬ x1 = 5) → (¬ x1 = 6) → (¬ x1 = 7) → (¬ x1 = 8) → (¬ x1 = 9) → (10 ≤ x1 ∧ x1 ≤ 17) → (¬ (f 113 ((x1 - 10).toNatClampNeg)) ≤ 0) → vp_in (x1 - 10) 8) (p15 : (¬ x1 = 0) → (¬ x1 = 1) → (¬ x1 = 2) → (¬ x1 = 3) → (¬ x1 = 4) → (¬ x1 = 5) → (¬ x1 = 6) → (¬ x1 = 7) → (¬ x1 = 8) → (¬ x1 = 9) → (10 ≤ x1 ∧ x1 ≤ 17) → (¬ (f 113 ((x1 - 10).toNatClampNeg)) ≤ 0) → Q (some (.int (f 113 ((x1 - 10).toNatClampNeg)))) sw f) : XP G mX11_count (d + 3) 0 [.ref 82, .int x1, .null, .null] [] sw f Q := by
  refine wp_iconst (M := mX11_count) (pc := 0) dX11_count_0 k_iconst_0 ?_
  refine wp_istore_n (M := mX11_count) (pc := 1) (ls' := [.ref 82, .int x1, .int 0, .null]) dX11_count_1 rfl (by decide) rfl ?_
  refine wp_iload_n (M := mX11_count) (pc := 2) dX11_count_2 rfl rfl ?_
  by_cases c1 : x1 = 0
  · refine wp_tableIn (M := mX11_count) (pc := 3) (t := 56) (off := 53) dX11_count_3 (by rw [c1] <;> decide) (by rw [c1] <;> decide) (by rw [c1] <;> rfl) (by decide) ?_
    refine wp_aload_n (M := mX11_count) (pc := 56) dX11_count_56 rfl rfl ?_
    refine xs_getr (M := mX11_count) (pc := 57) (r := 83) dX11_count_57 fX11_7 sh82 rfl (gr82_0 sw) ?_
    refine wp_sipush (M := mX11_count) (pc := 60) dX11_count_60 k_sipush_389 ?_
    refine xs_iald (M := mX11_count) (pc := 63) (j := 389) dX11_count_63 sh83 (vin (by decide)) rfl ?_
    exact xs_iret (M := mX11_count) (pc := 64) dX11_count_64 rfl (p1 c1)
  by_cases c2 : x1 = 1
  · refine wp_tableIn (M := mX11_count) (pc := 3) (t := 65) (off := 62) dX11_count_3 (by rw [c2] <;> decide) (by rw [c2] <;> decide) (by rw [c2] <;> rfl) (by decide) ?_
    refine wp_aload_n (M := mX11_count) (pc := 65) dX11_count_65 rfl rfl ?_
    refine xs_getr (M := mX11_count) (pc := 66) (r := 83) dX11_count_66 fX11_7 sh82 rfl (gr82_0 sw) ?_
    refine wp_sipush (M := mX11_count) (pc := 69) dX11_count_69 k_sipush_388 ?_
    refine xs_iald (M := mX11_count) (pc := 72) (j := 388) dX11_count_72 sh83 (vin (by decide)) rfl ?_
    exact xs_iret (M := mX11_count) (pc := 73) dX11_count_73 rfl (p2 c2)
  by_cases c3 : x1 = 2
  · refine wp_tableIn (M := mX11_count) (pc := 3) (t := 74) (off := 71) dX11_count_3 (by rw [c3] <;> decide) (by rw [c3] <;> decide) (by rw [c3] <;> rfl) (by decide) ?_
    refine wp_aload_n (M := mX11_count) (pc := 74) dX11_count_74 rfl rfl ?_
    refine wp_iconst (M := mX11_count) (pc := 75) dX11_count_75 k_iconst_0 ?_
    refine wp_iconst (M := mX11_count) (pc := 76) dX11_count_76 k_iconst_1 ?_
    refine xs_callV (d := d + 2) (M := mX11_count) (pc := 77) (As := [.int 0, .int 1]) (st := []) (c := 11) (ls' := [.ref 82, .int 0, .int 1, .null, .null]) dX11_count_77 oX11_setOf nX11_setOf lX11_393 vX11_setOf sX11_setOf rfl sh82 (Nat.le_of_ble_eq_true rfl) rfl (Nat.le_of_ble_eq_true rfl) rfl ?_
    exact p3 c3
  by_cases c4 : x1 = 3
  · refine wp_tableIn (M := mX11_count) (pc := 3) (t := 81) (off := 78) dX11_count_3 (by rw [c4] <;> decide) (by rw [c4] <;> decide) (by rw [c4] <;> rfl) (by decide) ?_
    refine wp_aload_n (M := mX11_count) (pc := 81) dX11_count_81 rfl rfl ?_
    refine wp_bipush (M := mX11_count) (pc := 82) dX11_count_82 k_bipush_32 ?_
    refine wp_iconst (M := mX11_count) (pc := 84) dX11_count_84 k_iconst_0 ?_
    refine xs_callV (d := d + 2) (M := mX11_count) (pc := 85) (As := [.int 32, .int 0]) (st := []) (c := 11) (ls' := [.ref 82, .int 32, .int 0, .null, .null]) dX11_count_85 oX11_setOf nX11_setOf lX11_393 vX11_setOf sX11_setOf rfl sh82 (Nat.le_of_ble_eq_true rfl) rfl (Nat.le_of_ble_eq_true rfl) rfl ?_
    exact p4 c4
  by_cases c5 : x1 = 4
  · refine wp_tableIn (M := mX11_count) (pc := 3) (t := 89) (off := 86) dX11_count_3 (by rw [c5] <;> decide) (by rw [c5] <;> decide) (by rw [c5] <;> rfl) (by decide) ?_
    refine wp_aload_n (M := mX11_count) (pc := 89) dX11_count_89 rfl rfl ?_
    refine wp_bipush (M := mX11_count) (pc := 90) dX11_count_90 k_bipush_48 ?_
    refine wp_iconst (M := mX11_count) (pc := 92) dX11_count_92 k_iconst_0 ?_
    refine xs_callV (d := d + 2) (M := mX11_count) (pc := 93) (As := [.int 48, .int 0]) (st := []) (c := 11) (ls' := [.ref 82, .int 48, .int 0, .null, .null]) dX11_count_93 oX11_setOf nX11_setOf lX11_393 vX11_setOf sX11_setOf rfl sh82 (Nat.le_of_ble_eq_true rfl) rfl (Nat.le_of_ble_eq_true rfl) rfl ?_
    exact p5 c5
  by_cases c6 : x1 = 5
  · refine wp_tableIn (M := mX11_count) (pc := 3) (t := 97) (off := 94) dX11_count_3 (by rw [c6] <;> decide) (by rw [c6] <;> decide) (by rw [c6] <;> rfl) (by decide) ?_
    refine wp_iconst (M := mX11_count) (pc := 97) dX11_count_97 k_iconst_0 ?_
    refine wp_istore_n (M := mX11_count) (pc := 98) (ls' := [.ref 82, .int x1, .int 0, .int 0]) dX11_count_98 rfl (by decide) rfl ?_
    exact p6 c6
  by_cases c7 : x1 = 6
  · refine wp_tableIn (M := mX11_count) (pc := 3) (t := 131) (off := 128) dX11_count_3 (by rw [c7] <;> decide) (by rw [c7] <;> decide) (by rw [c7] <;> rfl) (by decide) ?_
    refine wp_aload_n (M := mX11_count) (pc := 131) dX11_count_131 rfl rfl ?_
    refine xs_callV (d := d + 2) (M := mX11_count) (pc := 132) (As := []) (st := []) (c := 11) (ls' := [.ref 82, .null, .null]) dX11_count_132 oX11_callsNow nX11_callsNow lX11_323 vX11_callsNow sX11_callsNow rfl sh82 (Nat.le_of_ble_eq_true rfl) rfl (Nat.le_of_ble_eq_true rfl) rfl ?_
    exact p7 c7
  by_cases c8 : x1 = 7
  · refine wp_tableIn (M := mX11_count) (pc := 3) (t := 136) (off := 133) dX11_count_3 (by rw [c8] <;> decide) (by rw [c8] <;> decide) (by rw [c8] <;> rfl) (by decide) ?_
    refine wp_aload_n (M := mX11_count) (pc := 136) dX11_count_136 rfl rfl ?_
    refine xs_geti (M := mX11_count) (pc := 137) dX11_count_137 fX11_244 sh82 rfl ?_
    exact xs_iret (M := mX11_count) (pc := 140) dX11_count_140 rfl (p8 c8)
  by_cases c9 : x1 = 8
  · refine wp_tableIn (M := mX11_count) (pc := 3) (t := 141) (off := 138) dX11_count_3 (by rw [c9] <;> decide) (by rw [c9] <;> decide) (by rw [c9] <;> rfl) (by decide) ?_
    refine wp_aload_n (M := mX11_count) (pc := 141) dX11_count_141 rfl rfl ?_
    refine xs_geti (M := mX11_count) (pc := 142) dX11_count_142 fX11_146 sh82 rfl ?_
    exact xs_iret (M := mX11_count) (pc := 145) dX11_count_145 rfl (p9 c9)
  by_cases c10 : x1 = 9
  · refine wp_tableIn (M := mX11_count) (pc := 3) (t := 146) (off := 143) dX11_count_3 (by rw [c10] <;> decide) (by rw [c10] <;> decide) (by rw [c10] <;> rfl) (by decide) ?_
    refine wp_aload_n (M := mX11_count) (pc := 146) dX11_count_146 rfl rfl ?_
    refine xs_getr (M := mX11_count) (pc := 147) (r := 83) dX11_count_147 fX11_7 sh82 rfl (gr82_0 sw) ?_
    refine wp_sipush (M := mX11_count) (pc := 150) dX11_count_150 k_sipush_390 ?_
    refine xs_iald (M := mX11_count) (pc := 153) (j := 390) dX11_count_153 sh83 (vin (by decide)) rfl ?_
    exact xs_iret (M := mX11_count) (pc := 154) dX11_count_154 rfl (p10 c10)
  refine wp_tableOut (M := mX11_count) (pc := 3) (t := 155) dX11_count_3 (tbl_out (fun q h1 h2 z => by
      have hq : q = 0 ∨ q = 1 ∨ q = 2 ∨ q = 3 ∨ q = 4 ∨ q = 5 ∨ q = 6 ∨ q = 7 ∨ q = 8 ∨ q = 9 := by omega
      rcases hq with rfl | rfl | rfl | rfl | rfl | rfl | rfl | rfl | rfl | rfl
      · exact c1 (Int32.toInt_inj.mp (by rw [z]; rfl))
      · exact c2 (Int32.toInt_inj.mp (by rw [z]; rfl))
      · exact c3 (Int32.toInt_inj.mp (by rw [z]; rfl))
      · exact c4 (Int32.toInt_inj.mp (by rw [z]; rfl))
      · exact c5 (Int32.toInt_inj.mp (by rw [z]; rfl))
      · exact c6 (Int32.toInt_inj.mp (by rw [z]; rfl))
      · exact c7 (Int32.toInt_inj.mp (by rw [z]; rfl))
      · exact c8 (Int32.toInt_inj.mp (by rw [z]; rfl))
      · exact c9 (Int32.toInt_inj.mp (by rw [z]; rfl))
      · exact c10 (Int32.toInt_inj.mp (by rw [z]; rfl))
      )) (by decide) ?_
  refine wp_iload_n (M := mX11_count) (pc := 155) dX11_count_155 rfl rfl ?_
  refine wp_bipush (M := mX11_count) (pc := 156) dX11_count_156 k_bipush_10 ?_
  refine wp_bipush (M := mX11_count) (pc := 158) dX11_count_158 k_bipush_17 ?_
  refine xs_callS (d := d + 2) (M := mX11_count) (pc := 160) (As := [.int x1, .int 10, .int 17]) (st := []) (ls' := [.int x1, .int 10, .int 17]) dX11_count_160 oX11_in nX11_in lX11_111 tX11_in (Nat.le_of_ble_eq_true rfl) rfl (Nat.le_of_ble_eq_true rfl) rfl ?_
  refine sp_X11_in   ?_
  refine xs_ifb_eq (M := mX11_count) (pc := 163) (t := 190) dX11_count_163 (by decide) (fun c11 => ?_) (fun c11 => ?_)
  · refine wp_iconst (M := mX11_count) (pc := 190) dX11_count_190 k_iconst_m1 ?_
    exact xs_iret (M := mX11_count) (pc := 191) dX11_count_191 rfl (p11 c1 c2 c3 c4 c5 c6 c7 c8 c9 c10 c11)
  · refine wp_aload_n (M := mX11_count) (pc := 166) dX11_count_166 rfl rfl ?_
    refine xs_getr (M := mX11_count) (pc := 167) (r := 113) dX11_count_167 fX11_101 sh82 rfl (gr82_46 sw) ?_
    refine wp_iload_n (M := mX11_count) (pc := 170) dX11_count_170 rfl rfl ?_
    refine wp_bipush (M := mX11_count) (pc := 171) dX11_count_171 k_bipush_10 ?_
    refine wp_isub (M := mX11_count) (pc := 173) dX11_count_173 ?_
    refine xs_iald (M := mX11_count) (pc := 174) (j := (x1 - 10).toNatClampNeg) dX11_count_174 sh113 (p12 c1 c2 c3 c4 c5 c6 c7 c8 c9 c10 c11) rfl ?_
    refine wp_if_le (M := mX11_count) (pc := 175) (t := 190) dX11_count_175 (by decide) (fun c12 => ?_) (fun c12 => ?_)
    · refine wp_iconst (M := mX11_count) (pc := 190) dX11_count_190 k_iconst_m1 ?_
      exact xs_iret (M := mX11_count) (pc := 191) dX11_count_191 rfl (p13 c1 c2 c3 c4 c5 c6 c7 c8 c9 c10 c11 c12)
    · refine wp_aload_n (M := mX11_count) (pc := 178) dX11_count_178 rfl rfl ?_
      refine xs_getr (M := mX11_count) (pc := 179) (r := 113) dX11_count_179 fX11_101 sh82 rfl (gr82_46 sw) ?_
      refine wp_iload_n (M := mX11_count) (pc := 182) dX11_count_182 rfl rfl ?_
      refine wp_bipush (M := mX11_count) (pc := 183) dX11_count_183 k_bipush_10 ?_
      refine wp_isub (M := mX11_count) (pc := 185) dX11_count_185 ?_
      refine xs_iald (M := mX11_count) (pc := 186) (j := (x1 - 10).toNatClampNeg) dX11_count_186 sh113 (p14 c1 c2 c3 c4 c5 c6 c7 c8 c9 c10 c11 c12) rfl ?_
      refine wp_goto (M := mX11_count) (pc := 187) (t := 191) dX11_count_187 (by decide) ?_
      exact xs_iret (M := mX11_count) (pc := 191) dX11_count_191 rfl (p15 c1 c2 c3 c4 c5 c6 c7 c8 c9 c10 c11 c12)
theorem bX11_count_80 {G : GC} {d : Nat} {sw : Bool} {f : FF} {Q : QQ} {x1 : Int32} {x2 : Int32} {v3 : Value} {s0 : Int32} (p1 : Q (some (.int s0)) sw f) : XP G mX11_count (d + 3) 80 [.ref 82, .int x1, .int x2, v3] [.int s0] sw f Q := by
  exact xs_iret (M := mX11_count) (pc := 80) dX11_count_80 rfl (p1)
theorem bX11_count_88 {G : GC} {d : Nat} {sw : Bool} {f : FF} {Q : QQ} {x1 : Int32} {x2 : Int32} {v3 : Value} {s0 : Int32} (p1 : Q (some (.int s0)) sw f) : XP G mX11_count (d + 3) 88 [.ref 82, .int x1, .int x2, v3] [.int s0] sw f Q := by
  exact xs_iret (M := mX11_count) (pc := 88) dX11_count_88 rfl (p1)
theorem bX11_count_96 {G : GC} {d : Nat} {sw : Bool} {f : FF} {Q : QQ} {x1 : Int32} {x2 : Int32} {v3 : Value} {s0 : Int32} (p1 : Q (some (.int s0)) sw f) : XP G mX11_count (d + 3) 96 [.ref 82, .int x1, .int x2, v3] [.int s0] sw f Q := by
  exact xs_iret (M := mX11_count) (pc := 96) dX11_count_96 rfl (p1)
theorem bX11_count_99 {G : GC} {d : Nat} {sw : Bool} {f : FF} {Q : QQ} {x1 : Int32} {x2 : Int32} {x3 : Int32} (p1 : (16 ≤ x3) → Q (some (.int x2)) sw f) (p2 : (¬ 16 ≤ x3) → XP G mX11_isFree (d + 2) 0 [.ref 82, .int x3] [] sw f (fun v sw' f' => XP G mX11_count (d + 3) 111 [.ref 82, .int x1, .int x2, .int x3] (retst v [.int x2]) sw' f' Q)) : XP G mX11_count (d + 3) 99 [.ref 82, .int x1, .int x2, .int x3] [] sw f Q := by
  refine wp_iload_n (M := mX11_count) (pc := 99) dX11_count_99 rfl rfl ?_
  refine wp_bipush (M := mX11_count) (pc := 100) dX11_count_100 k_bipush_16 ?_
  refine wp_icmp_ge (M := mX11_count) (pc := 102) (t := 129) dX11_count_102 (by decide) (fun c1 => ?_) (fun c1 => ?_)
  · refine wp_iload_n (M := mX11_count) (pc := 129) dX11_count_129 rfl rfl ?_
    exact xs_iret (M := mX11_count) (pc := 130) dX11_count_130 rfl (p1 c1)
  · refine wp_iload_n (M := mX11_count) (pc := 105) dX11_count_105 rfl rfl ?_
    refine wp_aload_n (M := mX11_count) (pc := 106) dX11_count_106 rfl rfl ?_
    refine wp_iload_n (M := mX11_count) (pc := 107) dX11_count_107 rfl rfl ?_
    refine xs_callV (d := d + 2) (M := mX11_count) (pc := 108) (As := [.int x3]) (st := [.int x2]) (c := 11) (ls' := [.ref 82, .int x3]) dX11_count_108 oX11_isFree nX11_isFree lX11_273 vX11_isFree sX11_isFree rfl sh82 (Nat.le_of_ble_eq_true rfl) rfl (Nat.le_of_ble_eq_true rfl) rfl ?_
    exact p2 c1
theorem bX11_count_111 {G : GC} {d : Nat} {sw : Bool} {f : FF} {Q : QQ} {x1 : Int32} {x2 : Int32} {x3 : Int32} {s0 : Int32} {s1 : Int32} (p1 : (s0 = 0) → XP G mX11_count (d + 3) 99 [.ref 82, .int x1, .int (s1 ||| 0), .int (x3 + 1)] [] sw f Q) (p2 : (¬ s0 = 0) → XP G mX11_count (d + 3) 99 [.ref 82, .int x1, .int (s1 ||| ((1 : Int32) <<< (x3 &&& 31))), .int (x3 + 1)] [] sw f Q) : XP G mX11_count (d + 3) 111 [.ref 82, .int x1, .int x2, .int x3] [.int s0, .int s1] sw f Q := by
  refine wp_if_eq (M := mX11_count) (pc := 111) (t := 120) dX11_count_111 (by decide) (fun c1 => ?_) (fun c1 => ?_)
  · refine wp_iconst (M := mX11_count) (pc := 120) dX11_count_120 k_iconst_0 ?_
    refine wp_ior (M := mX11_count) (pc := 121) dX11_count_121 ?_
    refine wp_istore_n (M := mX11_count) (pc := 122) (ls' := [.ref 82, .int x1, .int (s1 ||| 0), .int x3]) dX11_count_122 rfl (by decide) rfl ?_
    refine wp_iinc (M := mX11_count) (pc := 123) (v := x3 + 1) (ls' := [.ref 82, .int x1, .int (s1 ||| 0), .int (x3 + 1)]) dX11_count_123 rfl (congrArg (fun z => _ + z) k_iconst_1) (by decide) rfl ?_
    refine wp_goto (M := mX11_count) (pc := 126) (t := 99) dX11_count_126 (by decide) ?_
    exact p1 c1
  · refine wp_iconst (M := mX11_count) (pc := 114) dX11_count_114 k_iconst_1 ?_
    refine wp_iload_n (M := mX11_count) (pc := 115) dX11_count_115 rfl rfl ?_
    refine wp_ishl (M := mX11_count) (pc := 116) dX11_count_116 ?_
    refine wp_goto (M := mX11_count) (pc := 117) (t := 121) dX11_count_117 (by decide) ?_
    refine wp_ior (M := mX11_count) (pc := 121) dX11_count_121 ?_
    refine wp_istore_n (M := mX11_count) (pc := 122) (ls' := [.ref 82, .int x1, .int (s1 ||| ((1 : Int32) <<< (x3 &&& 31))), .int x3]) dX11_count_122 rfl (by decide) rfl ?_
    refine wp_iinc (M := mX11_count) (pc := 123) (v := x3 + 1) (ls' := [.ref 82, .int x1, .int (s1 ||| ((1 : Int32) <<< (x3 &&& 31))), .int (x3 + 1)]) dX11_count_123 rfl (congrArg (fun z => _ + z) k_iconst_1) (by decide) rfl ?_
    refine wp_goto (M := mX11_count) (pc := 126) (t := 99) dX11_count_126 (by decide) ?_
    exact p2 c1
theorem bX11_count_135 {G : GC} {d : Nat} {sw : Bool} {f : FF} {Q : QQ} {x1 : Int32} {x2 : Int32} {v3 : Value} {s0 : Int32} (p1 : Q (some (.int s0)) sw f) : XP G mX11_count (d + 3) 135 [.ref 82, .int x1, .int x2, v3] [.int s0] sw f Q := by
  exact xs_iret (M := mX11_count) (pc := 135) dX11_count_135 rfl (p1)
theorem bX11_setOf_0 {G : GC} {d : Nat} {sw : Bool} {f : FF} {Q : QQ} {x1 : Int32} {x2 : Int32} (p1 : XP G mX11_setOf (d + 2) 5 [.ref 82, .int x1, .int x2, .int 0, .int 0] [] sw f Q) : XP G mX11_setOf (d + 2) 0 [.ref 82, .int x1, .int x2, .null, .null] [] sw f Q := by
  refine wp_iconst (M := mX11_setOf) (pc := 0) dX11_setOf_0 k_iconst_0 ?_
  refine wp_istore_n (M := mX11_setOf) (pc := 1) (ls' := [.ref 82, .int x1, .int x2, .int 0, .null]) dX11_setOf_1 rfl (by decide) rfl ?_
  refine wp_iconst (M := mX11_setOf) (pc := 2) dX11_setOf_2 k_iconst_0 ?_
  refine wp_istore (M := mX11_setOf) (pc := 3) (ls' := [.ref 82, .int x1, .int x2, .int 0, .int 0]) dX11_setOf_3 (by decide) rfl ?_
  exact p1
theorem bX11_setOf_5 {G : GC} {d : Nat} {sw : Bool} {f : FF} {Q : QQ} {x1 : Int32} {x2 : Int32} {x3 : Int32} {x4 : Int32} (p1 : (16 ≤ x4) → Q (some (.int x3)) sw f) (p2 : (¬ 16 ≤ x4) → (¬ (toldM f x4)) → XP G mX11_setOf (d + 2) 5 [.ref 82, .int x1, .int x2, .int x3, .int (x4 + 1)] [] sw f Q) (p3 : (¬ 16 ≤ x4) → (toldM f x4) → vp_in (x1 + x4) 391) (p4 : (¬ 16 ≤ x4) → (toldM f x4) → (¬ (f 83 ((x1 + x4).toNatClampNeg)) = x2) → XP G mX11_setOf (d + 2) 5 [.ref 82, .int x1, .int x2, .int x3, .int (x4 + 1)] [] sw f Q) (p5 : (¬ 16 ≤ x4) → (toldM f x4) → ((f 83 ((x1 + x4).toNatClampNeg)) = x2) → XP G mX11_setOf (d + 2) 5 [.ref 82, .int x1, .int x2, .int (x3 ||| ((1 : Int32) <<< (x4 &&& 31))), .int (x4 + 1)] [] sw f Q) : XP G mX11_setOf (d + 2) 5 [.ref 82, .int x1, .int x2, .int x3, .int x4] [] sw f Q := by
  refine wp_iload (M := mX11_setOf) (pc := 5) dX11_setOf_5 rfl ?_
  refine wp_bipush (M := mX11_setOf) (pc := 7) dX11_setOf_7 k_bipush_16 ?_
  refine wp_icmp_ge (M := mX11_setOf) (pc := 9) (t := 47) dX11_setOf_9 (by decide) (fun c1 => ?_) (fun c1 => ?_)
  · refine wp_iload_n (M := mX11_setOf) (pc := 47) dX11_setOf_47 rfl rfl ?_
    exact xs_iret (M := mX11_setOf) (pc := 48) dX11_setOf_48 rfl (p1 c1)
  · refine wp_aload_n (M := mX11_setOf) (pc := 12) dX11_setOf_12 rfl rfl ?_
    refine wp_iload (M := mX11_setOf) (pc := 13) dX11_setOf_13 rfl ?_
    refine xs_callV (d := d + 1) (M := mX11_setOf) (pc := 15) (As := [.int x4]) (st := []) (c := 11) (ls' := [.ref 82, .int x4]) dX11_setOf_15 oX11_isTold nX11_isTold lX11_119 vX11_isTold sX11_isTold rfl sh82 (Nat.le_of_ble_eq_true rfl) rfl (Nat.le_of_ble_eq_true rfl) rfl ?_
    refine sp_X11_isTold   ?_
    refine xs_ifb_eq (M := mX11_setOf) (pc := 18) (t := 41) dX11_setOf_18 (by decide) (fun c2 => ?_) (fun c2 => ?_)
    · refine wp_iinc (M := mX11_setOf) (pc := 41) (v := x4 + 1) (ls' := [.ref 82, .int x1, .int x2, .int x3, .int (x4 + 1)]) dX11_setOf_41 rfl (congrArg (fun z => _ + z) k_iconst_1) (by decide) rfl ?_
      refine wp_goto (M := mX11_setOf) (pc := 44) (t := 5) dX11_setOf_44 (by decide) ?_
      exact p2 c1 c2
    · refine wp_aload_n (M := mX11_setOf) (pc := 21) dX11_setOf_21 rfl rfl ?_
      refine xs_getr (M := mX11_setOf) (pc := 22) (r := 83) dX11_setOf_22 fX11_7 sh82 rfl (gr82_0 sw) ?_
      refine wp_iload_n (M := mX11_setOf) (pc := 25) dX11_setOf_25 rfl rfl ?_
      refine wp_iload (M := mX11_setOf) (pc := 26) dX11_setOf_26 rfl ?_
      refine wp_iadd (M := mX11_setOf) (pc := 28) dX11_setOf_28 ?_
      refine xs_iald (M := mX11_setOf) (pc := 29) (j := (x1 + x4).toNatClampNeg) dX11_setOf_29 sh83 (p3 c1 c2) rfl ?_
      refine wp_iload_n (M := mX11_setOf) (pc := 30) dX11_setOf_30 rfl rfl ?_
      refine wp_icmp_ne (M := mX11_setOf) (pc := 31) (t := 41) dX11_setOf_31 (by decide) (fun c3 => ?_) (fun c3 => ?_)
      · refine wp_iinc (M := mX11_setOf) (pc := 41) (v := x4 + 1) (ls' := [.ref 82, .int x1, .int x2, .int x3, .int (x4 + 1)]) dX11_setOf_41 rfl (congrArg (fun z => _ + z) k_iconst_1) (by decide) rfl ?_
        refine wp_goto (M := mX11_setOf) (pc := 44) (t := 5) dX11_setOf_44 (by decide) ?_
        exact p4 c1 c2 c3
      · refine wp_iload_n (M := mX11_setOf) (pc := 34) dX11_setOf_34 rfl rfl ?_
        refine wp_iconst (M := mX11_setOf) (pc := 35) dX11_setOf_35 k_iconst_1 ?_
        refine wp_iload (M := mX11_setOf) (pc := 36) dX11_setOf_36 rfl ?_
        refine wp_ishl (M := mX11_setOf) (pc := 38) dX11_setOf_38 ?_
        refine wp_ior (M := mX11_setOf) (pc := 39) dX11_setOf_39 ?_
        refine wp_istore_n (M := mX11_setOf) (pc := 40) (ls' := [.ref 82, .int x1, .int x2, .int (x3 ||| ((1 : Int32) <<< (x4 &&& 31))), .int x4]) dX11_setOf_40 rfl (by decide) rfl ?_
        refine wp_iinc (M := mX11_setOf) (pc := 41) (v := x4 + 1) (ls' := [.ref 82, .int x1, .int x2, .int (x3 ||| ((1 : Int32) <<< (x4 &&& 31))), .int (x4 + 1)]) dX11_setOf_41 rfl (congrArg (fun z => _ + z) k_iconst_1) (by decide) rfl ?_
        refine wp_goto (M := mX11_setOf) (pc := 44) (t := 5) dX11_setOf_44 (by decide) ?_
        exact p5 c1 c2 c3
