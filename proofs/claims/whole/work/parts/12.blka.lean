theorem bX3_lay_0 {G : GC} {d : Nat} {sw : Bool} {f : FF} {Q : QQ} {x1 : Int32} {x2 : Int32} {x3 : Int32} (p1 : vp_in ((x1 * 8) + x2) 64) (p2 : vp_in ((x2 * 8) + x1) 64) (p3 : Q none sw (upd2 (upd2 f 4 (((x1 * 8) + x2).toNatClampNeg) x3) 4 (((x2 * 8) + x1).toNatClampNeg) x3)) : XP G mX3_lay (d) 0 [.ref 3, .int x1, .int x2, .int x3] [] sw f Q := by
  refine wp_aload_n (M := mX3_lay) (pc := 0) dX3_lay_0 rfl rfl ?_
  refine xs_getr (M := mX3_lay) (pc := 1) (r := 4) dX3_lay_1 fX3_9 sh3 rfl (gr3_0 sw) ?_
  refine wp_iload_n (M := mX3_lay) (pc := 4) dX3_lay_4 rfl rfl ?_
  refine wp_bipush (M := mX3_lay) (pc := 5) dX3_lay_5 k_bipush_8 ?_
  refine wp_imul (M := mX3_lay) (pc := 7) dX3_lay_7 ?_
  refine wp_iload_n (M := mX3_lay) (pc := 8) dX3_lay_8 rfl rfl ?_
  refine wp_iadd (M := mX3_lay) (pc := 9) dX3_lay_9 ?_
  refine wp_iload_n (M := mX3_lay) (pc := 10) dX3_lay_10 rfl rfl ?_
  refine xs_iast (M := mX3_lay) (pc := 11) (j := ((x1 * 8) + x2).toNatClampNeg) dX3_lay_11 sh4 (p1) rfl ?_
  refine wp_aload_n (M := mX3_lay) (pc := 12) dX3_lay_12 rfl rfl ?_
  refine xs_getr (M := mX3_lay) (pc := 13) (r := 4) dX3_lay_13 fX3_9 sh3 rfl (gr3_0 sw) ?_
  refine wp_iload_n (M := mX3_lay) (pc := 16) dX3_lay_16 rfl rfl ?_
  refine wp_bipush (M := mX3_lay) (pc := 17) dX3_lay_17 k_bipush_8 ?_
  refine wp_imul (M := mX3_lay) (pc := 19) dX3_lay_19 ?_
  refine wp_iload_n (M := mX3_lay) (pc := 20) dX3_lay_20 rfl rfl ?_
  refine wp_iadd (M := mX3_lay) (pc := 21) dX3_lay_21 ?_
  refine wp_iload_n (M := mX3_lay) (pc := 22) dX3_lay_22 rfl rfl ?_
  refine xs_iast (M := mX3_lay) (pc := 23) (j := ((x2 * 8) + x1).toNatClampNeg) dX3_lay_23 sh4 (p2) rfl ?_
  exact xs_ret (M := mX3_lay) (pc := 24) dX3_lay_24 rfl (p3)
theorem bX9_enter_0 {G : GC} {d : Nat} {sw : Bool} {f : FF} {Q : QQ} {w : Nat} (hw : isW w) {x1 : Int32} {x2 : Int32} {x3 : Int32} (p1 : XP G mX9_endCallOf (d + 2) 0 [.ref w, .int x1] [] sw f (fun v sw' f' => XP G mX9_enter (d + 3) 5 [.ref w, .int x1, .int x2, .int x3, .null] (retst v []) sw' f' Q)) : XP G mX9_enter (d + 3) 0 [.ref w, .int x1, .int x2, .int x3, .null] [] sw f Q := by
  refine wp_aload_n (M := mX9_enter) (pc := 0) dX9_enter_0 rfl rfl ?_
  refine wp_iload_n (M := mX9_enter) (pc := 1) dX9_enter_1 rfl rfl ?_
  refine xs_callV (d := d + 2) (M := mX9_enter) (pc := 2) (As := [.int x1]) (st := []) (c := 9) (ls' := [.ref w, .int x1]) dX9_enter_2 oX9_endCallOf nX9_endCallOf lX9_93 vX9_endCallOf sX9_endCallOf rfl (shW hw) (Nat.le_of_ble_eq_true rfl) rfl (Nat.le_of_ble_eq_true rfl) rfl ?_
  exact p1
theorem bX9_enter_5 {G : GC} {d : Nat} {sw : Bool} {f : FF} {Q : QQ} {w : Nat} (hw : isW w) {x1 : Int32} {x2 : Int32} {x3 : Int32} {v4 : Value} (p1 : (x3 = 0) → vp_in x1 16) (p2 : (x3 = 0) → vp_in x1 16) (p3 : (x3 = 0) → vp_in x1 16) (p4 : (x3 = 0) → vp_in x1 16) (p5 : (x3 = 0) → Q none sw (upd2 (upd2 (upd2 (upd2 (upd2 (upd2 (upd2 (upd2 f w 0 ((f w 0) ||| ((1 : Int32) <<< (x1 &&& 31)))) w 1 (((upd2 f w 0 ((f w 0) ||| ((1 : Int32) <<< (x1 &&& 31)))) w 1) ||| ((1 : Int32) <<< (x1 &&& 31)))) w 2 (((upd2 (upd2 f w 0 ((f w 0) ||| ((1 : Int32) <<< (x1 &&& 31)))) w 1 (((upd2 f w 0 ((f w 0) ||| ((1 : Int32) <<< (x1 &&& 31)))) w 1) ||| ((1 : Int32) <<< (x1 &&& 31)))) w 2) &&& (((1 : Int32) <<< (x1 &&& 31)) ^^^ (-1)))) w 3 (((upd2 (upd2 (upd2 f w 0 ((f w 0) ||| ((1 : Int32) <<< (x1 &&& 31)))) w 1 (((upd2 f w 0 ((f w 0) ||| ((1 : Int32) <<< (x1 &&& 31)))) w 1) ||| ((1 : Int32) <<< (x1 &&& 31)))) w 2 (((upd2 (upd2 f w 0 ((f w 0) ||| ((1 : Int32) <<< (x1 &&& 31)))) w 1 (((upd2 f w 0 ((f w 0) ||| ((1 : Int32) <<< (x1 &&& 31)))) w 1) ||| ((1 : Int32) <<< (x1 &&& 31)))) w 2) &&& (((1 : Int32) <<< (x1 &&& 31)) ^^^ (-1)))) w 3) &&& (((1 : Int32) <<< (x1 &&& 31)) ^^^ (-1)))) (w + 1) x1.toNatClampNeg x2) (w + 2) x1.toNatClampNeg 0) (w + 3) x1.toNatClampNeg 0) (w + 4) x1.toNatClampNeg 0)) (p6 : (¬ x3 = 0) → vp_in x1 16) (p7 : (¬ x3 = 0) → vp_in x1 16) (p8 : (¬ x3 = 0) → vp_in x1 16) (p9 : (¬ x3 = 0) → vp_in x1 16) (p10 : (¬ x3 = 0) → Q none sw (upd2 (upd2 (upd2 (upd2 (upd2 (upd2 (upd2 (upd2 f w 0 ((f w 0) ||| ((1 : Int32) <<< (x1 &&& 31)))) w 1 (((upd2 f w 0 ((f w 0) ||| ((1 : Int32) <<< (x1 &&& 31)))) w 1) &&& (((1 : Int32) <<< (x1 &&& 31)) ^^^ (-1)))) w 2 (((upd2 (upd2 f w 0 ((f w 0) ||| ((1 : Int32) <<< (x1 &&& 31)))) w 1 (((upd2 f w 0 ((f w 0) ||| ((1 : Int32) <<< (x1 &&& 31)))) w 1) &&& (((1 : Int32) <<< (x1 &&& 31)) ^^^ (-1)))) w 2) &&& (((1 : Int32) <<< (x1 &&& 31)) ^^^ (-1)))) w 3 (((upd2 (upd2 (upd2 f w 0 ((f w 0) ||| ((1 : Int32) <<< (x1 &&& 31)))) w 1 (((upd2 f w 0 ((f w 0) ||| ((1 : Int32) <<< (x1 &&& 31)))) w 1) &&& (((1 : Int32) <<< (x1 &&& 31)) ^^^ (-1)))) w 2 (((upd2 (upd2 f w 0 ((f w 0) ||| ((1 : Int32) <<< (x1 &&& 31)))) w 1 (((upd2 f w 0 ((f w 0) ||| ((1 : Int32) <<< (x1 &&& 31)))) w 1) &&& (((1 : Int32) <<< (x1 &&& 31)) ^^^ (-1)))) w 2) &&& (((1 : Int32) <<< (x1 &&& 31)) ^^^ (-1)))) w 3) &&& (((1 : Int32) <<< (x1 &&& 31)) ^^^ (-1)))) (w + 1) x1.toNatClampNeg x2) (w + 2) x1.toNatClampNeg 0) (w + 3) x1.toNatClampNeg 0) (w + 4) x1.toNatClampNeg 0)) : XP G mX9_enter (d + 3) 5 [.ref w, .int x1, .int x2, .int x3, v4] [] sw f Q := by
  refine wp_iconst (M := mX9_enter) (pc := 5) dX9_enter_5 k_iconst_1 ?_
  refine wp_iload_n (M := mX9_enter) (pc := 6) dX9_enter_6 rfl rfl ?_
  refine wp_ishl (M := mX9_enter) (pc := 7) dX9_enter_7 ?_
  refine wp_istore (M := mX9_enter) (pc := 8) (ls' := [.ref w, .int x1, .int x2, .int x3, .int ((1 : Int32) <<< (x1 &&& 31))]) dX9_enter_8 (by decide) rfl ?_
  refine wp_aload_n (M := mX9_enter) (pc := 10) dX9_enter_10 rfl rfl ?_
  refine wp_dup (M := mX9_enter) (pc := 11) dX9_enter_11 ?_
  refine xs_geti (M := mX9_enter) (pc := 12) dX9_enter_12 fX9_52 (shW hw) rfl ?_
  refine wp_iload (M := mX9_enter) (pc := 15) dX9_enter_15 rfl ?_
  refine wp_ior (M := mX9_enter) (pc := 17) dX9_enter_17 ?_
  refine xs_puti (M := mX9_enter) (pc := 18) dX9_enter_18 pX9_52 (shW hw) rfl ?_
  refine wp_aload_n (M := mX9_enter) (pc := 21) dX9_enter_21 rfl rfl ?_
  refine wp_iload_n (M := mX9_enter) (pc := 22) dX9_enter_22 rfl rfl ?_
  refine wp_if_eq (M := mX9_enter) (pc := 23) (t := 38) dX9_enter_23 (by decide) (fun c1 => ?_) (fun c1 => ?_)
  · refine wp_aload_n (M := mX9_enter) (pc := 38) dX9_enter_38 rfl rfl ?_
    refine xs_geti (M := mX9_enter) (pc := 39) dX9_enter_39 fX9_55 (shW hw) rfl ?_
    refine wp_iload (M := mX9_enter) (pc := 42) dX9_enter_42 rfl ?_
    refine wp_ior (M := mX9_enter) (pc := 44) dX9_enter_44 ?_
    refine xs_puti (M := mX9_enter) (pc := 45) dX9_enter_45 pX9_55 (shW hw) rfl ?_
    refine wp_aload_n (M := mX9_enter) (pc := 48) dX9_enter_48 rfl rfl ?_
    refine wp_dup (M := mX9_enter) (pc := 49) dX9_enter_49 ?_
    refine xs_geti (M := mX9_enter) (pc := 50) dX9_enter_50 fX9_58 (shW hw) rfl ?_
    refine wp_iload (M := mX9_enter) (pc := 53) dX9_enter_53 rfl ?_
    refine wp_iconst (M := mX9_enter) (pc := 55) dX9_enter_55 k_iconst_m1 ?_
    refine wp_ixor (M := mX9_enter) (pc := 56) dX9_enter_56 ?_
    refine wp_iand (M := mX9_enter) (pc := 57) dX9_enter_57 ?_
    refine xs_puti (M := mX9_enter) (pc := 58) dX9_enter_58 pX9_58 (shW hw) rfl ?_
    refine wp_aload_n (M := mX9_enter) (pc := 61) dX9_enter_61 rfl rfl ?_
    refine wp_dup (M := mX9_enter) (pc := 62) dX9_enter_62 ?_
    refine xs_geti (M := mX9_enter) (pc := 63) dX9_enter_63 fX9_61 (shW hw) rfl ?_
    refine wp_iload (M := mX9_enter) (pc := 66) dX9_enter_66 rfl ?_
    refine wp_iconst (M := mX9_enter) (pc := 68) dX9_enter_68 k_iconst_m1 ?_
    refine wp_ixor (M := mX9_enter) (pc := 69) dX9_enter_69 ?_
    refine wp_iand (M := mX9_enter) (pc := 70) dX9_enter_70 ?_
    refine xs_puti (M := mX9_enter) (pc := 71) dX9_enter_71 pX9_61 (shW hw) rfl ?_
    refine wp_aload_n (M := mX9_enter) (pc := 74) dX9_enter_74 rfl rfl ?_
    refine xs_getr (M := mX9_enter) (pc := 75) (r := w + 1) dX9_enter_75 fX9_15 (shW hw) rfl (grW_8 hw) ?_
    refine wp_iload_n (M := mX9_enter) (pc := 78) dX9_enter_78 rfl rfl ?_
    refine wp_iload_n (M := mX9_enter) (pc := 79) dX9_enter_79 rfl rfl ?_
    refine xs_iast (M := mX9_enter) (pc := 80) (j := x1.toNatClampNeg) dX9_enter_80 (shW_1 hw) (p1 c1) rfl ?_
    refine wp_aload_n (M := mX9_enter) (pc := 81) dX9_enter_81 rfl rfl ?_
    refine xs_getr (M := mX9_enter) (pc := 82) (r := w + 2) dX9_enter_82 fX9_19 (shW hw) rfl (grW_9 hw) ?_
    refine wp_iload_n (M := mX9_enter) (pc := 85) dX9_enter_85 rfl rfl ?_
    refine wp_iconst (M := mX9_enter) (pc := 86) dX9_enter_86 k_iconst_0 ?_
    refine xs_iast (M := mX9_enter) (pc := 87) (j := x1.toNatClampNeg) dX9_enter_87 (shW_2 hw) (p2 c1) rfl ?_
    refine wp_aload_n (M := mX9_enter) (pc := 88) dX9_enter_88 rfl rfl ?_
    refine xs_getr (M := mX9_enter) (pc := 89) (r := w + 3) dX9_enter_89 fX9_22 (shW hw) rfl (grW_10 hw) ?_
    refine wp_iload_n (M := mX9_enter) (pc := 92) dX9_enter_92 rfl rfl ?_
    refine wp_iconst (M := mX9_enter) (pc := 93) dX9_enter_93 k_iconst_0 ?_
    refine xs_iast (M := mX9_enter) (pc := 94) (j := x1.toNatClampNeg) dX9_enter_94 (shW_3 hw) (p3 c1) rfl ?_
    refine wp_aload_n (M := mX9_enter) (pc := 95) dX9_enter_95 rfl rfl ?_
    refine xs_getr (M := mX9_enter) (pc := 96) (r := w + 4) dX9_enter_96 fX9_25 (shW hw) rfl (grW_11 hw) ?_
    refine wp_iload_n (M := mX9_enter) (pc := 99) dX9_enter_99 rfl rfl ?_
    refine wp_iconst (M := mX9_enter) (pc := 100) dX9_enter_100 k_iconst_0 ?_
    refine xs_iast (M := mX9_enter) (pc := 101) (j := x1.toNatClampNeg) dX9_enter_101 (shW_4 hw) (p4 c1) rfl ?_
    exact xs_ret (M := mX9_enter) (pc := 102) dX9_enter_102 rfl (p5 c1)
  · refine wp_aload_n (M := mX9_enter) (pc := 26) dX9_enter_26 rfl rfl ?_
    refine xs_geti (M := mX9_enter) (pc := 27) dX9_enter_27 fX9_55 (shW hw) rfl ?_
    refine wp_iload (M := mX9_enter) (pc := 30) dX9_enter_30 rfl ?_
    refine wp_iconst (M := mX9_enter) (pc := 32) dX9_enter_32 k_iconst_m1 ?_
    refine wp_ixor (M := mX9_enter) (pc := 33) dX9_enter_33 ?_
    refine wp_iand (M := mX9_enter) (pc := 34) dX9_enter_34 ?_
    refine wp_goto (M := mX9_enter) (pc := 35) (t := 45) dX9_enter_35 (by decide) ?_
    refine xs_puti (M := mX9_enter) (pc := 45) dX9_enter_45 pX9_55 (shW hw) rfl ?_
    refine wp_aload_n (M := mX9_enter) (pc := 48) dX9_enter_48 rfl rfl ?_
    refine wp_dup (M := mX9_enter) (pc := 49) dX9_enter_49 ?_
    refine xs_geti (M := mX9_enter) (pc := 50) dX9_enter_50 fX9_58 (shW hw) rfl ?_
    refine wp_iload (M := mX9_enter) (pc := 53) dX9_enter_53 rfl ?_
    refine wp_iconst (M := mX9_enter) (pc := 55) dX9_enter_55 k_iconst_m1 ?_
    refine wp_ixor (M := mX9_enter) (pc := 56) dX9_enter_56 ?_
    refine wp_iand (M := mX9_enter) (pc := 57) dX9_enter_57 ?_
    refine xs_puti (M := mX9_enter) (pc := 58) dX9_enter_58 pX9_58 (shW hw) rfl ?_
    refine wp_aload_n (M := mX9_enter) (pc := 61) dX9_enter_61 rfl rfl ?_
    refine wp_dup (M := mX9_enter) (pc := 62) dX9_enter_62 ?_
    refine xs_geti (M := mX9_enter) (pc := 63) dX9_enter_63 fX9_61 (shW hw) rfl ?_
    refine wp_iload (M := mX9_enter) (pc := 66) dX9_enter_66 rfl ?_
    refine wp_iconst (M := mX9_enter) (pc := 68) dX9_enter_68 k_iconst_m1 ?_
    refine wp_ixor (M := mX9_enter) (pc := 69) dX9_enter_69 ?_
    refine wp_iand (M := mX9_enter) (pc := 70) dX9_enter_70 ?_
    refine xs_puti (M := mX9_enter) (pc := 71) dX9_enter_71 pX9_61 (shW hw) rfl ?_
    refine wp_aload_n (M := mX9_enter) (pc := 74) dX9_enter_74 rfl rfl ?_
    refine xs_getr (M := mX9_enter) (pc := 75) (r := w + 1) dX9_enter_75 fX9_15 (shW hw) rfl (grW_8 hw) ?_
    refine wp_iload_n (M := mX9_enter) (pc := 78) dX9_enter_78 rfl rfl ?_
    refine wp_iload_n (M := mX9_enter) (pc := 79) dX9_enter_79 rfl rfl ?_
    refine xs_iast (M := mX9_enter) (pc := 80) (j := x1.toNatClampNeg) dX9_enter_80 (shW_1 hw) (p6 c1) rfl ?_
    refine wp_aload_n (M := mX9_enter) (pc := 81) dX9_enter_81 rfl rfl ?_
    refine xs_getr (M := mX9_enter) (pc := 82) (r := w + 2) dX9_enter_82 fX9_19 (shW hw) rfl (grW_9 hw) ?_
    refine wp_iload_n (M := mX9_enter) (pc := 85) dX9_enter_85 rfl rfl ?_
    refine wp_iconst (M := mX9_enter) (pc := 86) dX9_enter_86 k_iconst_0 ?_
    refine xs_iast (M := mX9_enter) (pc := 87) (j := x1.toNatClampNeg) dX9_enter_87 (shW_2 hw) (p7 c1) rfl ?_
    refine wp_aload_n (M := mX9_enter) (pc := 88) dX9_enter_88 rfl rfl ?_
    refine xs_getr (M := mX9_enter) (pc := 89) (r := w + 3) dX9_enter_89 fX9_22 (shW hw) rfl (grW_10 hw) ?_
    refine wp_iload_n (M := mX9_enter) (pc := 92) dX9_enter_92 rfl rfl ?_
    refine wp_iconst (M := mX9_enter) (pc := 93) dX9_enter_93 k_iconst_0 ?_
    refine xs_iast (M := mX9_enter) (pc := 94) (j := x1.toNatClampNeg) dX9_enter_94 (shW_3 hw) (p8 c1) rfl ?_
    refine wp_aload_n (M := mX9_enter) (pc := 95) dX9_enter_95 rfl rfl ?_
    refine xs_getr (M := mX9_enter) (pc := 96) (r := w + 4) dX9_enter_96 fX9_25 (shW hw) rfl (grW_11 hw) ?_
    refine wp_iload_n (M := mX9_enter) (pc := 99) dX9_enter_99 rfl rfl ?_
    refine wp_iconst (M := mX9_enter) (pc := 100) dX9_enter_100 k_iconst_0 ?_
    refine xs_iast (M := mX9_enter) (pc := 101) (j := x1.toNatClampNeg) dX9_enter_101 (shW_4 hw) (p9 c1) rfl ?_
    exact xs_ret (M := mX9_enter) (pc := 102) dX9_enter_102 rfl (p10 c1)
theorem bX9_endCallOf_0 {G : GC} {d : Nat} {sw : Bool} {f : FF} {Q : QQ} {w : Nat} (hw : isW w) {x1 : Int32} (p1 : (¬ (((f w 4) >>> (x1 &&& 31)) &&& 1) = 1) → Q none sw f) (p2 : ((((f w 4) >>> (x1 &&& 31)) &&& 1) = 1) → vp_in x1 16) (p3 : ((((f w 4) >>> (x1 &&& 31)) &&& 1) = 1) → XP G mX9_endCallAt (d + 1) 0 [.ref w, .int (f (w + 5) x1.toNatClampNeg)] [] sw f (fun v sw' f' => XP G mX9_endCallOf (d + 2) 22 [.ref w, .int x1] (retst v []) sw' f' Q)) : XP G mX9_endCallOf (d + 2) 0 [.ref w, .int x1] [] sw f Q := by
  refine wp_aload_n (M := mX9_endCallOf) (pc := 0) dX9_endCallOf_0 rfl rfl ?_
  refine xs_geti (M := mX9_endCallOf) (pc := 1) dX9_endCallOf_1 fX9_64 (shW hw) rfl ?_
  refine wp_iload_n (M := mX9_endCallOf) (pc := 4) dX9_endCallOf_4 rfl rfl ?_
  refine wp_ishr (M := mX9_endCallOf) (pc := 5) dX9_endCallOf_5 ?_
  refine wp_iconst (M := mX9_endCallOf) (pc := 6) dX9_endCallOf_6 k_iconst_1 ?_
  refine wp_iand (M := mX9_endCallOf) (pc := 7) dX9_endCallOf_7 ?_
  refine wp_iconst (M := mX9_endCallOf) (pc := 8) dX9_endCallOf_8 k_iconst_1 ?_
  refine wp_icmp_ne (M := mX9_endCallOf) (pc := 9) (t := 22) dX9_endCallOf_9 (by decide) (fun c1 => ?_) (fun c1 => ?_)
  · exact xs_ret (M := mX9_endCallOf) (pc := 22) dX9_endCallOf_22 rfl (p1 c1)
  · refine wp_aload_n (M := mX9_endCallOf) (pc := 12) dX9_endCallOf_12 rfl rfl ?_
    refine wp_aload_n (M := mX9_endCallOf) (pc := 13) dX9_endCallOf_13 rfl rfl ?_
    refine xs_getr (M := mX9_endCallOf) (pc := 14) (r := w + 5) dX9_endCallOf_14 fX9_28 (shW hw) rfl (grW_12 hw) ?_
    refine wp_iload_n (M := mX9_endCallOf) (pc := 17) dX9_endCallOf_17 rfl rfl ?_
    refine xs_iald (M := mX9_endCallOf) (pc := 18) (j := x1.toNatClampNeg) dX9_endCallOf_18 (shW_5 hw) (p2 c1) rfl ?_
    refine xs_callV (d := d + 1) (M := mX9_endCallOf) (pc := 19) (As := [.int (f (w + 5) x1.toNatClampNeg)]) (st := []) (c := 9) (ls' := [.ref w, .int (f (w + 5) x1.toNatClampNeg)]) dX9_endCallOf_19 oX9_endCallAt nX9_endCallAt lX9_112 vX9_endCallAt sX9_endCallAt rfl (shW hw) (Nat.le_of_ble_eq_true rfl) rfl (Nat.le_of_ble_eq_true rfl) rfl ?_
    exact p3 c1
theorem bX9_endCallOf_22 {G : GC} {d : Nat} {sw : Bool} {f : FF} {Q : QQ} {w : Nat} (hw : isW w) {x1 : Int32} (p1 : Q none sw f) : XP G mX9_endCallOf (d + 2) 22 [.ref w, .int x1] [] sw f Q := by
  exact xs_ret (M := mX9_endCallOf) (pc := 22) dX9_endCallOf_22 rfl (p1)
theorem bX9_endCallAt_0 {G : GC} {d : Nat} {sw : Bool} {f : FF} {Q : QQ} {w : Nat} (hw : isW w) {x1 : Int32} (p1 : vp_in x1 20) (p2 : vp_in x1 20) (p3 : vp_in x1 20) (p4 : XP G mX9_addUsed (d) 0 [.ref w, .int x1, .int (-1), .null, .null, .null] [] sw (upd2 (upd2 f (w + 9) x1.toNatClampNeg 0) w 4 (((upd2 f (w + 9) x1.toNatClampNeg 0) w 4) &&& ((((1 : Int32) <<< (((upd2 f (w + 9) x1.toNatClampNeg 0) (w + 6) x1.toNatClampNeg) &&& 31)) ||| ((1 : Int32) <<< (((upd2 f (w + 9) x1.toNatClampNeg 0) (w + 7) x1.toNatClampNeg) &&& 31))) ^^^ (-1)))) (fun v sw' f' => XP G mX9_endCallAt (d + 1) 41 [.ref w, .int x1] (retst v []) sw' f' Q)) : XP G mX9_endCallAt (d + 1) 0 [.ref w, .int x1] [] sw f Q := by
  refine wp_aload_n (M := mX9_endCallAt) (pc := 0) dX9_endCallAt_0 rfl rfl ?_
  refine xs_getr (M := mX9_endCallAt) (pc := 1) (r := w + 9) dX9_endCallAt_1 fX9_40 (shW hw) rfl (grW_16 hw) ?_
  refine wp_iload_n (M := mX9_endCallAt) (pc := 4) dX9_endCallAt_4 rfl rfl ?_
  refine wp_iconst (M := mX9_endCallAt) (pc := 5) dX9_endCallAt_5 k_iconst_0 ?_
  refine xs_iast (M := mX9_endCallAt) (pc := 6) (j := x1.toNatClampNeg) dX9_endCallAt_6 (shW_9 hw) (p1) rfl ?_
  refine wp_aload_n (M := mX9_endCallAt) (pc := 7) dX9_endCallAt_7 rfl rfl ?_
  refine wp_dup (M := mX9_endCallAt) (pc := 8) dX9_endCallAt_8 ?_
  refine xs_geti (M := mX9_endCallAt) (pc := 9) dX9_endCallAt_9 fX9_64 (shW hw) rfl ?_
  refine wp_iconst (M := mX9_endCallAt) (pc := 12) dX9_endCallAt_12 k_iconst_1 ?_
  refine wp_aload_n (M := mX9_endCallAt) (pc := 13) dX9_endCallAt_13 rfl rfl ?_
  refine xs_getr (M := mX9_endCallAt) (pc := 14) (r := w + 6) dX9_endCallAt_14 fX9_31 (shW hw) rfl (grW_13 hw) ?_
  refine wp_iload_n (M := mX9_endCallAt) (pc := 17) dX9_endCallAt_17 rfl rfl ?_
  refine xs_iald (M := mX9_endCallAt) (pc := 18) (j := x1.toNatClampNeg) dX9_endCallAt_18 (shW_6 hw) (p2) rfl ?_
  refine wp_ishl (M := mX9_endCallAt) (pc := 19) dX9_endCallAt_19 ?_
  refine wp_iconst (M := mX9_endCallAt) (pc := 20) dX9_endCallAt_20 k_iconst_1 ?_
  refine wp_aload_n (M := mX9_endCallAt) (pc := 21) dX9_endCallAt_21 rfl rfl ?_
  refine xs_getr (M := mX9_endCallAt) (pc := 22) (r := w + 7) dX9_endCallAt_22 fX9_34 (shW hw) rfl (grW_14 hw) ?_
  refine wp_iload_n (M := mX9_endCallAt) (pc := 25) dX9_endCallAt_25 rfl rfl ?_
  refine xs_iald (M := mX9_endCallAt) (pc := 26) (j := x1.toNatClampNeg) dX9_endCallAt_26 (shW_7 hw) (p3) rfl ?_
  refine wp_ishl (M := mX9_endCallAt) (pc := 27) dX9_endCallAt_27 ?_
  refine wp_ior (M := mX9_endCallAt) (pc := 28) dX9_endCallAt_28 ?_
  refine wp_iconst (M := mX9_endCallAt) (pc := 29) dX9_endCallAt_29 k_iconst_m1 ?_
  refine wp_ixor (M := mX9_endCallAt) (pc := 30) dX9_endCallAt_30 ?_
  refine wp_iand (M := mX9_endCallAt) (pc := 31) dX9_endCallAt_31 ?_
  refine xs_puti (M := mX9_endCallAt) (pc := 32) dX9_endCallAt_32 pX9_64 (shW hw) rfl ?_
  refine wp_aload_n (M := mX9_endCallAt) (pc := 35) dX9_endCallAt_35 rfl rfl ?_
  refine wp_iload_n (M := mX9_endCallAt) (pc := 36) dX9_endCallAt_36 rfl rfl ?_
  refine wp_iconst (M := mX9_endCallAt) (pc := 37) dX9_endCallAt_37 k_iconst_m1 ?_
  refine xs_callV (d := d) (M := mX9_endCallAt) (pc := 38) (As := [.int x1, .int (-1)]) (st := []) (c := 9) (ls' := [.ref w, .int x1, .int (-1), .null, .null, .null]) dX9_endCallAt_38 oX9_addUsed nX9_addUsed lX9_108 vX9_addUsed sX9_addUsed rfl (shW hw) (Nat.le_of_ble_eq_true rfl) rfl (Nat.le_of_ble_eq_true rfl) rfl ?_
  exact p4
theorem bX9_endCallAt_41 {G : GC} {d : Nat} {sw : Bool} {f : FF} {Q : QQ} {w : Nat} (hw : isW w) {x1 : Int32} (p1 : Q none sw f) : XP G mX9_endCallAt (d + 1) 41 [.ref w, .int x1] [] sw f Q := by
  exact xs_ret (M := mX9_endCallAt) (pc := 41) dX9_endCallAt_41 rfl (p1)
theorem bX9_addUsed_0 {G : GC} {d : Nat} {sw : Bool} {f : FF} {Q : QQ} {w : Nat} (hw : isW w) {x1 : Int32} {x2 : Int32} (p1 : XP G mX9_addUsed (d) 2 [.ref w, .int x1, .int x2, .int 0, .null, .null] [] sw f Q) : XP G mX9_addUsed (d) 0 [.ref w, .int x1, .int x2, .null, .null, .null] [] sw f Q := by
  refine wp_iconst (M := mX9_addUsed) (pc := 0) dX9_addUsed_0 k_iconst_0 ?_
  refine wp_istore_n (M := mX9_addUsed) (pc := 1) (ls' := [.ref w, .int x1, .int x2, .int 0, .null, .null]) dX9_addUsed_1 rfl (by decide) rfl ?_
  exact p1
theorem bX9_addUsed_2 {G : GC} {d : Nat} {sw : Bool} {f : FF} {Q : QQ} {w : Nat} (hw : isW w) {x1 : Int32} {x2 : Int32} {x3 : Int32} {v4 : Value} {v5 : Value} (p1 : vp_in x1 20) (p2 : ((f (w + 10) x1.toNatClampNeg) ≤ x3) → Q none sw f) (p3 : (¬ (f (w + 10) x1.toNatClampNeg) ≤ x3) → vp_in ((x1 * 8) + x3) 160) (p4 : (¬ (f (w + 10) x1.toNatClampNeg) ≤ x3) → vp_in (((x1 * 8) + x3) + 1) 160) (p5 : (¬ (f (w + 10) x1.toNatClampNeg) ≤ x3) → vp_in (((f (w + 11) (((x1 * 8) + x3).toNatClampNeg)) * 8) + (f (w + 11) ((((x1 * 8) + x3) + 1).toNatClampNeg))) 64) (p6 : (¬ (f (w + 10) x1.toNatClampNeg) ≤ x3) → vp_in (((f (w + 11) (((x1 * 8) + x3).toNatClampNeg)) * 8) + (f (w + 11) ((((x1 * 8) + x3) + 1).toNatClampNeg))) 64) (p7 : (¬ (f (w + 10) x1.toNatClampNeg) ≤ x3) → vp_in (((f (w + 11) ((((x1 * 8) + x3) + 1).toNatClampNeg)) * 8) + (f (w + 11) (((x1 * 8) + x3).toNatClampNeg))) 64) (p8 : (¬ (f (w + 10) x1.toNatClampNeg) ≤ x3) → vp_in (((f (w + 11) ((((x1 * 8) + x3) + 1).toNatClampNeg)) * 8) + (f (w + 11) (((x1 * 8) + x3).toNatClampNeg))) 64) (p9 : (¬ (f (w + 10) x1.toNatClampNeg) ≤ x3) → XP G mX9_addUsed (d) 2 [.ref w, .int x1, .int x2, .int (x3 + 1), .int (f (w + 11) (((x1 * 8) + x3).toNatClampNeg)), .int (f (w + 11) ((((x1 * 8) + x3) + 1).toNatClampNeg))] [] sw (upd2 (upd2 f (w + 12) ((((f (w + 11) (((x1 * 8) + x3).toNatClampNeg)) * 8) + (f (w + 11) ((((x1 * 8) + x3) + 1).toNatClampNeg))).toNatClampNeg) ((f (w + 12) ((((f (w + 11) (((x1 * 8) + x3).toNatClampNeg)) * 8) + (f (w + 11) ((((x1 * 8) + x3) + 1).toNatClampNeg))).toNatClampNeg)) + x2)) (w + 12) ((((f (w + 11) ((((x1 * 8) + x3) + 1).toNatClampNeg)) * 8) + (f (w + 11) (((x1 * 8) + x3).toNatClampNeg))).toNatClampNeg) (((upd2 f (w + 12) ((((f (w + 11) (((x1 * 8) + x3).toNatClampNeg)) * 8) + (f (w + 11) ((((x1 * 8) + x3) + 1).toNatClampNeg))).toNatClampNeg) ((f (w + 12) ((((f (w + 11) (((x1 * 8) + x3).toNatClampNeg)) * 8) + (f (w + 11) ((((x1 * 8) + x3) + 1).toNatClampNeg))).toNatClampNeg)) + x2)) (w + 12) ((((f (w + 11) ((((x1 * 8) + x3) + 1).toNatClampNeg)) * 8) + (f (w + 11) (((x1 * 8) + x3).toNatClampNeg))).toNatClampNeg)) + x2)) Q) : XP G mX9_addUsed (d) 2 [.ref w, .int x1, .int x2, .int x3, v4, v5] [] sw f Q := by
  refine wp_iload_n (M := mX9_addUsed) (pc := 2) dX9_addUsed_2 rfl rfl ?_
  refine wp_aload_n (M := mX9_addUsed) (pc := 3) dX9_addUsed_3 rfl rfl ?_
  refine xs_getr (M := mX9_addUsed) (pc := 4) (r := w + 10) dX9_addUsed_4 fX9_43 (shW hw) rfl (grW_17 hw) ?_
  refine wp_iload_n (M := mX9_addUsed) (pc := 7) dX9_addUsed_7 rfl rfl ?_
  refine xs_iald (M := mX9_addUsed) (pc := 8) (j := x1.toNatClampNeg) dX9_addUsed_8 (shW_10 hw) (p1) rfl ?_
  refine wp_icmp_ge (M := mX9_addUsed) (pc := 9) (t := 80) dX9_addUsed_9 (by decide) (fun c1 => ?_) (fun c1 => ?_)
  · exact xs_ret (M := mX9_addUsed) (pc := 80) dX9_addUsed_80 rfl (p2 c1)
  · refine wp_aload_n (M := mX9_addUsed) (pc := 12) dX9_addUsed_12 rfl rfl ?_
    refine xs_getr (M := mX9_addUsed) (pc := 13) (r := w + 11) dX9_addUsed_13 fX9_46 (shW hw) rfl (grW_18 hw) ?_
    refine wp_iload_n (M := mX9_addUsed) (pc := 16) dX9_addUsed_16 rfl rfl ?_
    refine wp_bipush (M := mX9_addUsed) (pc := 17) dX9_addUsed_17 k_bipush_8 ?_
    refine wp_imul (M := mX9_addUsed) (pc := 19) dX9_addUsed_19 ?_
    refine wp_iload_n (M := mX9_addUsed) (pc := 20) dX9_addUsed_20 rfl rfl ?_
    refine wp_iadd (M := mX9_addUsed) (pc := 21) dX9_addUsed_21 ?_
    refine xs_iald (M := mX9_addUsed) (pc := 22) (j := ((x1 * 8) + x3).toNatClampNeg) dX9_addUsed_22 (shW_11 hw) (p3 c1) rfl ?_
    refine wp_istore (M := mX9_addUsed) (pc := 23) (ls' := [.ref w, .int x1, .int x2, .int x3, .int (f (w + 11) (((x1 * 8) + x3).toNatClampNeg)), v5]) dX9_addUsed_23 (by decide) rfl ?_
    refine wp_aload_n (M := mX9_addUsed) (pc := 25) dX9_addUsed_25 rfl rfl ?_
    refine xs_getr (M := mX9_addUsed) (pc := 26) (r := w + 11) dX9_addUsed_26 fX9_46 (shW hw) rfl (grW_18 hw) ?_
    refine wp_iload_n (M := mX9_addUsed) (pc := 29) dX9_addUsed_29 rfl rfl ?_
    refine wp_bipush (M := mX9_addUsed) (pc := 30) dX9_addUsed_30 k_bipush_8 ?_
    refine wp_imul (M := mX9_addUsed) (pc := 32) dX9_addUsed_32 ?_
    refine wp_iload_n (M := mX9_addUsed) (pc := 33) dX9_addUsed_33 rfl rfl ?_
    refine wp_iadd (M := mX9_addUsed) (pc := 34) dX9_addUsed_34 ?_
    refine wp_iconst (M := mX9_addUsed) (pc := 35) dX9_addUsed_35 k_iconst_1 ?_
    refine wp_iadd (M := mX9_addUsed) (pc := 36) dX9_addUsed_36 ?_
    refine xs_iald (M := mX9_addUsed) (pc := 37) (j := (((x1 * 8) + x3) + 1).toNatClampNeg) dX9_addUsed_37 (shW_11 hw) (p4 c1) rfl ?_
    refine wp_istore (M := mX9_addUsed) (pc := 38) (ls' := [.ref w, .int x1, .int x2, .int x3, .int (f (w + 11) (((x1 * 8) + x3).toNatClampNeg)), .int (f (w + 11) ((((x1 * 8) + x3) + 1).toNatClampNeg))]) dX9_addUsed_38 (by decide) rfl ?_
    refine wp_aload_n (M := mX9_addUsed) (pc := 40) dX9_addUsed_40 rfl rfl ?_
    refine xs_getr (M := mX9_addUsed) (pc := 41) (r := w + 12) dX9_addUsed_41 fX9_49 (shW hw) rfl (grW_19 hw) ?_
    refine wp_iload (M := mX9_addUsed) (pc := 44) dX9_addUsed_44 rfl ?_
    refine wp_bipush (M := mX9_addUsed) (pc := 46) dX9_addUsed_46 k_bipush_8 ?_
    refine wp_imul (M := mX9_addUsed) (pc := 48) dX9_addUsed_48 ?_
    refine wp_iload (M := mX9_addUsed) (pc := 49) dX9_addUsed_49 rfl ?_
    refine wp_iadd (M := mX9_addUsed) (pc := 51) dX9_addUsed_51 ?_
    refine wp_dup2 (M := mX9_addUsed) (pc := 52) dX9_addUsed_52 ?_
    refine xs_iald (M := mX9_addUsed) (pc := 53) (j := (((f (w + 11) (((x1 * 8) + x3).toNatClampNeg)) * 8) + (f (w + 11) ((((x1 * 8) + x3) + 1).toNatClampNeg))).toNatClampNeg) dX9_addUsed_53 (shW_12 hw) (p5 c1) rfl ?_
    refine wp_iload_n (M := mX9_addUsed) (pc := 54) dX9_addUsed_54 rfl rfl ?_
    refine wp_iadd (M := mX9_addUsed) (pc := 55) dX9_addUsed_55 ?_
    refine xs_iast (M := mX9_addUsed) (pc := 56) (j := (((f (w + 11) (((x1 * 8) + x3).toNatClampNeg)) * 8) + (f (w + 11) ((((x1 * 8) + x3) + 1).toNatClampNeg))).toNatClampNeg) dX9_addUsed_56 (shW_12 hw) (p6 c1) rfl ?_
    refine wp_aload_n (M := mX9_addUsed) (pc := 57) dX9_addUsed_57 rfl rfl ?_
    refine xs_getr (M := mX9_addUsed) (pc := 58) (r := w + 12) dX9_addUsed_58 fX9_49 (shW hw) rfl (grW_19 hw) ?_
    refine wp_iload (M := mX9_addUsed) (pc := 61) dX9_addUsed_61 rfl ?_
    refine wp_bipush (M := mX9_addUsed) (pc := 63) dX9_addUsed_63 k_bipush_8 ?_
    refine wp_imul (M := mX9_addUsed) (pc := 65) dX9_addUsed_65 ?_
    refine wp_iload (M := mX9_addUsed) (pc := 66) dX9_addUsed_66 rfl ?_
    refine wp_iadd (M := mX9_addUsed) (pc := 68) dX9_addUsed_68 ?_
    refine wp_dup2 (M := mX9_addUsed) (pc := 69) dX9_addUsed_69 ?_
    refine xs_iald (M := mX9_addUsed) (pc := 70) (j := (((f (w + 11) ((((x1 * 8) + x3) + 1).toNatClampNeg)) * 8) + (f (w + 11) (((x1 * 8) + x3).toNatClampNeg))).toNatClampNeg) dX9_addUsed_70 (shW_12 hw) (p7 c1) rfl ?_
    refine wp_iload_n (M := mX9_addUsed) (pc := 71) dX9_addUsed_71 rfl rfl ?_
    refine wp_iadd (M := mX9_addUsed) (pc := 72) dX9_addUsed_72 ?_
    refine xs_iast (M := mX9_addUsed) (pc := 73) (j := (((f (w + 11) ((((x1 * 8) + x3) + 1).toNatClampNeg)) * 8) + (f (w + 11) (((x1 * 8) + x3).toNatClampNeg))).toNatClampNeg) dX9_addUsed_73 (shW_12 hw) (p8 c1) rfl ?_
    refine wp_iinc (M := mX9_addUsed) (pc := 74) (v := x3 + 1) (ls' := [.ref w, .int x1, .int x2, .int (x3 + 1), .int (f (w + 11) (((x1 * 8) + x3).toNatClampNeg)), .int (f (w + 11) ((((x1 * 8) + x3) + 1).toNatClampNeg))]) dX9_addUsed_74 rfl (congrArg (fun z => _ + z) k_iconst_1) (by decide) rfl ?_
    refine wp_goto (M := mX9_addUsed) (pc := 77) (t := 2) dX9_addUsed_77 (by decide) ?_
    exact p9 c1
theorem bX8_add_0 {G : GC} {d : Nat} {sw : Bool} {f : FF} {Q : QQ} {x1 : Int32} (p1 : XP G mX8_add (d) 3 [.ref 1, .int x1, .int 24] [] sw f Q) : XP G mX8_add (d) 0 [.ref 1, .int x1, .null] [] sw f Q := by
  refine wp_bipush (M := mX8_add) (pc := 0) dX8_add_0 k_bipush_24 ?_
  refine wp_istore_n (M := mX8_add) (pc := 2) (ls' := [.ref 1, .int x1, .int 24]) dX8_add_2 rfl (by decide) rfl ?_
  exact p1
theorem bX8_add_3 {G : GC} {d : Nat} {sw : Bool} {f : FF} {Q : QQ} {x1 : Int32} {x2 : Int32} (p1 : (x2 < 0) → Q none sw f) (p2 : (¬ x2 < 0) → (260 ≤ (f 1 1)) → Q none sw f) (p3 : (¬ x2 < 0) → (¬ 260 ≤ (f 1 1)) → vp_in (f 1 1) 260) (p4 : (¬ x2 < 0) → (¬ 260 ≤ (f 1 1)) → XP G mX8_add (d) 3 [.ref 1, .int x1, .int (x2 + (-8))] [] sw (upd2 (upd2 f 2 ((f 1 1).toNatClampNeg) (((x1.toUInt32 >>> ((x2 : Int32).toUInt32 &&& Int32.toUInt32 31)).toInt32) &&& 255)) 1 1 (((upd2 f 2 ((f 1 1).toNatClampNeg) (((x1.toUInt32 >>> ((x2 : Int32).toUInt32 &&& Int32.toUInt32 31)).toInt32) &&& 255)) 1 1) + 1)) Q) : XP G mX8_add (d) 3 [.ref 1, .int x1, .int x2] [] sw f Q := by
  refine wp_iload_n (M := mX8_add) (pc := 3) dX8_add_3 rfl rfl ?_
  refine wp_if_lt (M := mX8_add) (pc := 4) (t := 49) dX8_add_4 (by decide) (fun c1 => ?_) (fun c1 => ?_)
  · exact xs_ret (M := mX8_add) (pc := 49) dX8_add_49 rfl (p1 c1)
  · refine wp_aload_n (M := mX8_add) (pc := 7) dX8_add_7 rfl rfl ?_
    refine xs_geti (M := mX8_add) (pc := 8) dX8_add_8 fX8_15 sh1 rfl ?_
    refine wp_sipush (M := mX8_add) (pc := 11) dX8_add_11 k_sipush_260 ?_
    refine wp_icmp_ge (M := mX8_add) (pc := 14) (t := 49) dX8_add_14 (by decide) (fun c2 => ?_) (fun c2 => ?_)
    · exact xs_ret (M := mX8_add) (pc := 49) dX8_add_49 rfl (p2 c1 c2)
    · refine wp_aload_n (M := mX8_add) (pc := 17) dX8_add_17 rfl rfl ?_
      refine xs_getr (M := mX8_add) (pc := 18) (r := 2) dX8_add_18 fX8_9 sh1 rfl (gr1_0 sw) ?_
      refine wp_aload_n (M := mX8_add) (pc := 21) dX8_add_21 rfl rfl ?_
      refine xs_geti (M := mX8_add) (pc := 22) dX8_add_22 fX8_15 sh1 rfl ?_
      refine wp_iload_n (M := mX8_add) (pc := 25) dX8_add_25 rfl rfl ?_
      refine wp_iload_n (M := mX8_add) (pc := 26) dX8_add_26 rfl rfl ?_
      refine wp_iushr (M := mX8_add) (pc := 27) dX8_add_27 ?_
      refine wp_sipush (M := mX8_add) (pc := 28) dX8_add_28 k_sipush_255 ?_
      refine wp_iand (M := mX8_add) (pc := 31) dX8_add_31 ?_
      refine xs_iast (M := mX8_add) (pc := 32) (j := (f 1 1).toNatClampNeg) dX8_add_32 sh2 (p3 c1 c2) rfl ?_
      refine wp_aload_n (M := mX8_add) (pc := 33) dX8_add_33 rfl rfl ?_
      refine wp_dup (M := mX8_add) (pc := 34) dX8_add_34 ?_
      refine xs_geti (M := mX8_add) (pc := 35) dX8_add_35 fX8_15 sh1 rfl ?_
      refine wp_iconst (M := mX8_add) (pc := 38) dX8_add_38 k_iconst_1 ?_
      refine wp_iadd (M := mX8_add) (pc := 39) dX8_add_39 ?_
      refine xs_puti (M := mX8_add) (pc := 40) dX8_add_40 pX8_15 sh1 rfl ?_
      refine wp_iinc (M := mX8_add) (pc := 43) (v := x2 + (-8)) (ls' := [.ref 1, .int x1, .int (x2 + (-8))]) dX8_add_43 rfl (congrArg (fun z => _ + z) k_iconst_m8) (by decide) rfl ?_
      refine wp_goto (M := mX8_add) (pc := 46) (t := 3) dX8_add_46 (by decide) ?_
      exact p4 c1 c2
theorem bX8_take_0 {G : GC} {d : Nat} {sw : Bool} {f : FF} {Q : QQ} {x1 : Int32} (p1 : (x1 ≤ (f 1 1)) → Q (some (.int 1)) sw (upd2 (upd2 (upd2 (upd2 f 1 2 x1) 1 1 0) 1 3 0) 1 5 0)) (p2 : (¬ x1 ≤ (f 1 1)) → Q (some (.int 0)) sw f) : XP G mX8_take (d) 0 [.ref 1, .int x1] [] sw f Q := by
  refine wp_iload_n (M := mX8_take) (pc := 0) dX8_take_0 rfl rfl ?_
  refine wp_aload_n (M := mX8_take) (pc := 1) dX8_take_1 rfl rfl ?_
  refine xs_geti (M := mX8_take) (pc := 2) dX8_take_2 fX8_15 sh1 rfl ?_
  refine wp_icmp_le (M := mX8_take) (pc := 5) (t := 10) dX8_take_5 (by decide) (fun c1 => ?_) (fun c1 => ?_)
  · refine wp_aload_n (M := mX8_take) (pc := 10) dX8_take_10 rfl rfl ?_
    refine wp_iload_n (M := mX8_take) (pc := 11) dX8_take_11 rfl rfl ?_
    refine xs_puti (M := mX8_take) (pc := 12) dX8_take_12 pX8_19 sh1 rfl ?_
    refine wp_aload_n (M := mX8_take) (pc := 15) dX8_take_15 rfl rfl ?_
    refine wp_iconst (M := mX8_take) (pc := 16) dX8_take_16 k_iconst_0 ?_
    refine xs_puti (M := mX8_take) (pc := 17) dX8_take_17 pX8_15 sh1 rfl ?_
    refine wp_aload_n (M := mX8_take) (pc := 20) dX8_take_20 rfl rfl ?_
    refine wp_iconst (M := mX8_take) (pc := 21) dX8_take_21 k_iconst_0 ?_
    refine xs_puti (M := mX8_take) (pc := 22) dX8_take_22 pX8_22 sh1 rfl ?_
    refine wp_aload_n (M := mX8_take) (pc := 25) dX8_take_25 rfl rfl ?_
    refine wp_iconst (M := mX8_take) (pc := 26) dX8_take_26 k_iconst_0 ?_
    refine xs_puti (M := mX8_take) (pc := 27) dX8_take_27 pX8_25 sh1 rfl ?_
    refine wp_iconst (M := mX8_take) (pc := 30) dX8_take_30 k_iconst_1 ?_
    exact xs_zret (M := mX8_take) (pc := 31) dX8_take_31 rfl (by decide) (p1 c1)
  · refine wp_iconst (M := mX8_take) (pc := 8) dX8_take_8 k_iconst_0 ?_
    exact xs_zret (M := mX8_take) (pc := 9) dX8_take_9 rfl (by decide) (p2 c1)
theorem bX8_fails_0 {G : GC} {d : Nat} {sw : Bool} {f : FF} {Q : QQ} {x1 : Int32} (p1 : Q (some (.int 0)) sw (upd2 f 1 5 (((-1000) * x1) - (f 1 3)))) : XP G mX8_fails (d) 0 [.ref 1, .int x1] [] sw f Q := by
  refine wp_aload_n (M := mX8_fails) (pc := 0) dX8_fails_0 rfl rfl ?_
  refine wp_sipush (M := mX8_fails) (pc := 1) dX8_fails_1 k_sipush_m1000 ?_
  refine wp_iload_n (M := mX8_fails) (pc := 4) dX8_fails_4 rfl rfl ?_
  refine wp_imul (M := mX8_fails) (pc := 5) dX8_fails_5 ?_
  refine wp_aload_n (M := mX8_fails) (pc := 6) dX8_fails_6 rfl rfl ?_
  refine xs_geti (M := mX8_fails) (pc := 7) dX8_fails_7 fX8_22 sh1 rfl ?_
  refine wp_isub (M := mX8_fails) (pc := 10) dX8_fails_10 ?_
  refine xs_puti (M := mX8_fails) (pc := 11) dX8_fails_11 pX8_25 sh1 rfl ?_
  refine wp_iconst (M := mX8_fails) (pc := 14) dX8_fails_14 k_iconst_0 ?_
  exact xs_zret (M := mX8_fails) (pc := 15) dX8_fails_15 rfl (by decide) (p1)
theorem bX8_passes_0 {G : GC} {d : Nat} {sw : Bool} {f : FF} {Q : QQ} {x1 : Int32} (p1 : ((tAt f (f 1 3)) = x1) → Q (some (.int 1)) sw (upd2 f 1 3 ((f 1 3) + 1))) (p2 : (¬ (tAt f (f 1 3)) = x1) → XP G mX8_fails (d) 0 [.ref 1, .int 1] [] sw f (fun v sw' f' => XP G mX8_passes (d + 1) 17 [.ref 1, .int x1] (retst v []) sw' f' Q)) : XP G mX8_passes (d + 1) 0 [.ref 1, .int x1] [] sw f Q := by
  refine wp_aload_n (M := mX8_passes) (pc := 0) dX8_passes_0 rfl rfl ?_
  refine wp_aload_n (M := mX8_passes) (pc := 1) dX8_passes_1 rfl rfl ?_
  refine xs_geti (M := mX8_passes) (pc := 2) dX8_passes_2 fX8_22 sh1 rfl ?_
  refine xs_callV (d := d) (M := mX8_passes) (pc := 5) (As := [.int (f 1 3)]) (st := []) (c := 8) (ls' := [.ref 1, .int (f 1 3)]) dX8_passes_5 oX8_at nX8_at lX8_28 vX8_at sX8_at rfl sh1 (Nat.le_of_ble_eq_true rfl) rfl (Nat.le_of_ble_eq_true rfl) rfl ?_
  refine sp_X8_at   ?_
  refine wp_iload_n (M := mX8_passes) (pc := 8) dX8_passes_8 rfl rfl ?_
  refine wp_icmp_eq (M := mX8_passes) (pc := 9) (t := 18) dX8_passes_9 (by decide) (fun c1 => ?_) (fun c1 => ?_)
  · refine wp_aload_n (M := mX8_passes) (pc := 18) dX8_passes_18 rfl rfl ?_
    refine wp_dup (M := mX8_passes) (pc := 19) dX8_passes_19 ?_
    refine xs_geti (M := mX8_passes) (pc := 20) dX8_passes_20 fX8_22 sh1 rfl ?_
    refine wp_iconst (M := mX8_passes) (pc := 23) dX8_passes_23 k_iconst_1 ?_
    refine wp_iadd (M := mX8_passes) (pc := 24) dX8_passes_24 ?_
    refine xs_puti (M := mX8_passes) (pc := 25) dX8_passes_25 pX8_22 sh1 rfl ?_
    refine wp_iconst (M := mX8_passes) (pc := 28) dX8_passes_28 k_iconst_1 ?_
    exact xs_zret (M := mX8_passes) (pc := 29) dX8_passes_29 rfl (by decide) (p1 c1)
  · refine wp_aload_n (M := mX8_passes) (pc := 12) dX8_passes_12 rfl rfl ?_
    refine wp_iconst (M := mX8_passes) (pc := 13) dX8_passes_13 k_iconst_1 ?_
    refine xs_callV (d := d) (M := mX8_passes) (pc := 14) (As := [.int 1]) (st := []) (c := 8) (ls' := [.ref 1, .int 1]) dX8_passes_14 oX8_fails nX8_fails lX8_32 vX8_fails sX8_fails rfl sh1 (Nat.le_of_ble_eq_true rfl) rfl (Nat.le_of_ble_eq_true rfl) rfl ?_
    exact p2 c1
theorem bX8_passes_17 {G : GC} {d : Nat} {sw : Bool} {f : FF} {Q : QQ} {x1 : Int32} {s0 : Int32} (p1 : s0 = 0 ∨ s0 = 1) (p2 : Q (some (.int s0)) sw f) : XP G mX8_passes (d + 1) 17 [.ref 1, .int x1] [.int s0] sw f Q := by
  exact xs_zret (M := mX8_passes) (pc := 17) dX8_passes_17 rfl (p1) (p2)
theorem bX1_put_0 {G : GC} {d : Nat} {sw : Bool} {f : FF} {Q : QQ} {q : Nat} (hq : isLw q) {x1 : Int32} {x2 : Int32} (p1 : (240 ≤ (f q 1)) → Q (some (.int ((f q 1) - 1))) sw f) (p2 : (¬ 240 ≤ (f q 1)) → vp_in (f q 1) 240) (p3 : (¬ 240 ≤ (f q 1)) → vp_in ((upd2 f (q + 5) ((f q 1).toNatClampNeg) x1) q 1) 240) (p4 : (¬ 240 ≤ (f q 1)) → Q (some (.int (((upd2 (upd2 (upd2 f (q + 5) ((f q 1).toNatClampNeg) x1) (q + 6) (((upd2 f (q + 5) ((f q 1).toNatClampNeg) x1) q 1).toNatClampNeg) x2) q 1 (((upd2 (upd2 f (q + 5) ((f q 1).toNatClampNeg) x1) (q + 6) (((upd2 f (q + 5) ((f q 1).toNatClampNeg) x1) q 1).toNatClampNeg) x2) q 1) + 1)) q 1) - 1))) sw (upd2 (upd2 (upd2 f (q + 5) ((f q 1).toNatClampNeg) x1) (q + 6) (((upd2 f (q + 5) ((f q 1).toNatClampNeg) x1) q 1).toNatClampNeg) x2) q 1 (((upd2 (upd2 f (q + 5) ((f q 1).toNatClampNeg) x1) (q + 6) (((upd2 f (q + 5) ((f q 1).toNatClampNeg) x1) q 1).toNatClampNeg) x2) q 1) + 1))) : XP G mX1_put (d) 0 [.ref q, .int x1, .int x2] [] sw f Q := by
  refine wp_aload_n (M := mX1_put) (pc := 0) dX1_put_0 rfl rfl ?_
  refine xs_geti (M := mX1_put) (pc := 1) dX1_put_1 fX1_30 (shL hq) rfl ?_
  refine wp_sipush (M := mX1_put) (pc := 4) dX1_put_4 k_sipush_240 ?_
  refine wp_icmp_ge (M := mX1_put) (pc := 7) (t := 40) dX1_put_7 (by decide) (fun c1 => ?_) (fun c1 => ?_)
  · refine wp_aload_n (M := mX1_put) (pc := 40) dX1_put_40 rfl rfl ?_
    refine xs_geti (M := mX1_put) (pc := 41) dX1_put_41 fX1_30 (shL hq) rfl ?_
    refine wp_iconst (M := mX1_put) (pc := 44) dX1_put_44 k_iconst_1 ?_
    refine wp_isub (M := mX1_put) (pc := 45) dX1_put_45 ?_
    exact xs_iret (M := mX1_put) (pc := 46) dX1_put_46 rfl (p1 c1)
  · refine wp_aload_n (M := mX1_put) (pc := 10) dX1_put_10 rfl rfl ?_
    refine xs_getr (M := mX1_put) (pc := 11) (r := q + 5) dX1_put_11 fX1_24 (shL hq) rfl (grL_6 hq) ?_
    refine wp_aload_n (M := mX1_put) (pc := 14) dX1_put_14 rfl rfl ?_
    refine xs_geti (M := mX1_put) (pc := 15) dX1_put_15 fX1_30 (shL hq) rfl ?_
    refine wp_iload_n (M := mX1_put) (pc := 18) dX1_put_18 rfl rfl ?_
    refine xs_iast (M := mX1_put) (pc := 19) (j := (f q 1).toNatClampNeg) dX1_put_19 (shL_5 hq) (p2 c1) rfl ?_
    refine wp_aload_n (M := mX1_put) (pc := 20) dX1_put_20 rfl rfl ?_
    refine xs_getr (M := mX1_put) (pc := 21) (r := q + 6) dX1_put_21 fX1_27 (shL hq) rfl (grL_7 hq) ?_
    refine wp_aload_n (M := mX1_put) (pc := 24) dX1_put_24 rfl rfl ?_
    refine xs_geti (M := mX1_put) (pc := 25) dX1_put_25 fX1_30 (shL hq) rfl ?_
    refine wp_iload_n (M := mX1_put) (pc := 28) dX1_put_28 rfl rfl ?_
    refine xs_iast (M := mX1_put) (pc := 29) (j := ((upd2 f (q + 5) ((f q 1).toNatClampNeg) x1) q 1).toNatClampNeg) dX1_put_29 (shL_6 hq) (p3 c1) rfl ?_
    refine wp_aload_n (M := mX1_put) (pc := 30) dX1_put_30 rfl rfl ?_
    refine wp_dup (M := mX1_put) (pc := 31) dX1_put_31 ?_
    refine xs_geti (M := mX1_put) (pc := 32) dX1_put_32 fX1_30 (shL hq) rfl ?_
    refine wp_iconst (M := mX1_put) (pc := 35) dX1_put_35 k_iconst_1 ?_
    refine wp_iadd (M := mX1_put) (pc := 36) dX1_put_36 ?_
    refine xs_puti (M := mX1_put) (pc := 37) dX1_put_37 pX1_30 (shL hq) rfl ?_
    refine wp_aload_n (M := mX1_put) (pc := 40) dX1_put_40 rfl rfl ?_
    refine xs_geti (M := mX1_put) (pc := 41) dX1_put_41 fX1_30 (shL hq) rfl ?_
    refine wp_iconst (M := mX1_put) (pc := 44) dX1_put_44 k_iconst_1 ?_
    refine wp_isub (M := mX1_put) (pc := 45) dX1_put_45 ?_
    exact xs_iret (M := mX1_put) (pc := 46) dX1_put_46 rfl (p4 c1)
theorem bX8_readNumber_0 {G : GC} {d : Nat} {sw : Bool} {f : FF} {Q : QQ}  (p1 : (48 ≤ (tAt f (f 1 3)) ∧ (tAt f (f 1 3)) ≤ 57) → XP G mX8_readNumber (d + 1) 27 [.ref 1, .int 0] [] sw (upd2 f 1 4 0) Q) (p2 : (¬ (48 ≤ (tAt f (f 1 3)) ∧ (tAt f (f 1 3)) ≤ 57)) → XP G mX8_fails (d) 0 [.ref 1, .int 1] [] sw f (fun v sw' f' => XP G mX8_readNumber (d + 1) 19 [.ref 1, .null] (retst v []) sw' f' Q)) : XP G mX8_readNumber (d + 1) 0 [.ref 1, .null] [] sw f Q := by
  refine wp_aload_n (M := mX8_readNumber) (pc := 0) dX8_readNumber_0 rfl rfl ?_
  refine wp_aload_n (M := mX8_readNumber) (pc := 1) dX8_readNumber_1 rfl rfl ?_
  refine xs_geti (M := mX8_readNumber) (pc := 2) dX8_readNumber_2 fX8_22 sh1 rfl ?_
  refine xs_callV (d := d) (M := mX8_readNumber) (pc := 5) (As := [.int (f 1 3)]) (st := []) (c := 8) (ls' := [.ref 1, .int (f 1 3)]) dX8_readNumber_5 oX8_at nX8_at lX8_28 vX8_at sX8_at rfl sh1 (Nat.le_of_ble_eq_true rfl) rfl (Nat.le_of_ble_eq_true rfl) rfl ?_
  refine sp_X8_at   ?_
  refine xs_callSN (d := d) (M := mX8_readNumber) (pc := 8) (As := [.int (tAt f (f 1 3))]) (st := []) (ls' := [.int (tAt f (f 1 3))]) dX8_readNumber_8 oX10_isDigit nX10_isDigit hX8_36 tX10_isDigit (Nat.le_of_ble_eq_true rfl) rfl (Nat.le_of_ble_eq_true rfl) rfl ?_
  refine sp_X10_isDigit   ?_
  refine xs_ifb_ne (M := mX8_readNumber) (pc := 11) (t := 20) dX8_readNumber_11 (by decide) (fun c1 => ?_) (fun c1 => ?_)
  · refine wp_aload_n (M := mX8_readNumber) (pc := 20) dX8_readNumber_20 rfl rfl ?_
    refine wp_iconst (M := mX8_readNumber) (pc := 21) dX8_readNumber_21 k_iconst_0 ?_
    refine xs_puti (M := mX8_readNumber) (pc := 22) dX8_readNumber_22 pX8_39 sh1 rfl ?_
    refine wp_iconst (M := mX8_readNumber) (pc := 25) dX8_readNumber_25 k_iconst_0 ?_
    refine wp_istore_n (M := mX8_readNumber) (pc := 26) (ls' := [.ref 1, .int 0]) dX8_readNumber_26 rfl (by decide) rfl ?_
    exact p1 c1
  · refine wp_aload_n (M := mX8_readNumber) (pc := 14) dX8_readNumber_14 rfl rfl ?_
    refine wp_iconst (M := mX8_readNumber) (pc := 15) dX8_readNumber_15 k_iconst_1 ?_
    refine xs_callV (d := d) (M := mX8_readNumber) (pc := 16) (As := [.int 1]) (st := []) (c := 8) (ls' := [.ref 1, .int 1]) dX8_readNumber_16 oX8_fails nX8_fails lX8_32 vX8_fails sX8_fails rfl sh1 (Nat.le_of_ble_eq_true rfl) rfl (Nat.le_of_ble_eq_true rfl) rfl ?_
    exact p2 c1
theorem bX8_readNumber_19 {G : GC} {d : Nat} {sw : Bool} {f : FF} {Q : QQ} {v1 : Value} {s0 : Int32} (p1 : s0 = 0 ∨ s0 = 1) (p2 : Q (some (.int s0)) sw f) : XP G mX8_readNumber (d + 1) 19 [.ref 1, v1] [.int s0] sw f Q := by
  exact xs_zret (M := mX8_readNumber) (pc := 19) dX8_readNumber_19 rfl (p1) (p2)
theorem bX8_readNumber_27 {G : GC} {d : Nat} {sw : Bool} {f : FF} {Q : QQ} {x1 : Int32} (p1 : (5 ≤ x1) → (¬ (48 ≤ (tAt f (f 1 3)) ∧ (tAt f (f 1 3)) ≤ 57)) → Q (some (.int 1)) sw f) (p2 : (5 ≤ x1) → (48 ≤ (tAt f (f 1 3)) ∧ (tAt f (f 1 3)) ≤ 57) → XP G mX8_fails (d) 0 [.ref 1, .int 2] [] sw f (fun v sw' f' => XP G mX8_readNumber (d + 1) 104 [.ref 1, .int x1] (retst v []) sw' f' Q)) (p3 : (¬ 5 ≤ x1) → (¬ (48 ≤ (tAt f (f 1 3)) ∧ (tAt f (f 1 3)) ≤ 57)) → (¬ (48 ≤ (tAt f (f 1 3)) ∧ (tAt f (f 1 3)) ≤ 57)) → Q (some (.int 1)) sw f) (p4 : (¬ 5 ≤ x1) → (¬ (48 ≤ (tAt f (f 1 3)) ∧ (tAt f (f 1 3)) ≤ 57)) → (48 ≤ (tAt f (f 1 3)) ∧ (tAt f (f 1 3)) ≤ 57) → XP G mX8_fails (d) 0 [.ref 1, .int 2] [] sw f (fun v sw' f' => XP G mX8_readNumber (d + 1) 104 [.ref 1, .int x1] (retst v []) sw' f' Q)) (p5 : (¬ 5 ≤ x1) → (48 ≤ (tAt f (f 1 3)) ∧ (tAt f (f 1 3)) ≤ 57) → XP G mX8_readNumber (d + 1) 27 [.ref 1, .int (x1 + 1)] [] sw (upd2 (upd2 f 1 4 ((((f 1 4) * 10) + (tAt f (f 1 3))) - 48)) 1 3 (((upd2 f 1 4 ((((f 1 4) * 10) + (tAt f (f 1 3))) - 48)) 1 3) + 1)) Q) : XP G mX8_readNumber (d + 1) 27 [.ref 1, .int x1] [] sw f Q := by
  refine wp_iload_n (M := mX8_readNumber) (pc := 27) dX8_readNumber_27 rfl rfl ?_
  refine wp_iconst (M := mX8_readNumber) (pc := 28) dX8_readNumber_28 k_iconst_5 ?_
  refine wp_icmp_ge (M := mX8_readNumber) (pc := 29) (t := 85) dX8_readNumber_29 (by decide) (fun c1 => ?_) (fun c1 => ?_)
  · refine wp_aload_n (M := mX8_readNumber) (pc := 85) dX8_readNumber_85 rfl rfl ?_
    refine wp_aload_n (M := mX8_readNumber) (pc := 86) dX8_readNumber_86 rfl rfl ?_
    refine xs_geti (M := mX8_readNumber) (pc := 87) dX8_readNumber_87 fX8_22 sh1 rfl ?_
    refine xs_callV (d := d) (M := mX8_readNumber) (pc := 90) (As := [.int (f 1 3)]) (st := []) (c := 8) (ls' := [.ref 1, .int (f 1 3)]) dX8_readNumber_90 oX8_at nX8_at lX8_28 vX8_at sX8_at rfl sh1 (Nat.le_of_ble_eq_true rfl) rfl (Nat.le_of_ble_eq_true rfl) rfl ?_
    refine sp_X8_at   ?_
    refine xs_callSN (d := d) (M := mX8_readNumber) (pc := 93) (As := [.int (tAt f (f 1 3))]) (st := []) (ls' := [.int (tAt f (f 1 3))]) dX8_readNumber_93 oX10_isDigit nX10_isDigit hX8_36 tX10_isDigit (Nat.le_of_ble_eq_true rfl) rfl (Nat.le_of_ble_eq_true rfl) rfl ?_
    refine sp_X10_isDigit   ?_
    refine xs_ifb_eq (M := mX8_readNumber) (pc := 96) (t := 107) dX8_readNumber_96 (by decide) (fun c2 => ?_) (fun c2 => ?_)
    · refine wp_iconst (M := mX8_readNumber) (pc := 107) dX8_readNumber_107 k_iconst_1 ?_
      exact xs_zret (M := mX8_readNumber) (pc := 108) dX8_readNumber_108 rfl (by decide) (p1 c1 c2)
    · refine wp_aload_n (M := mX8_readNumber) (pc := 99) dX8_readNumber_99 rfl rfl ?_
      refine wp_iconst (M := mX8_readNumber) (pc := 100) dX8_readNumber_100 k_iconst_2 ?_
      refine xs_callV (d := d) (M := mX8_readNumber) (pc := 101) (As := [.int 2]) (st := []) (c := 8) (ls' := [.ref 1, .int 2]) dX8_readNumber_101 oX8_fails nX8_fails lX8_32 vX8_fails sX8_fails rfl sh1 (Nat.le_of_ble_eq_true rfl) rfl (Nat.le_of_ble_eq_true rfl) rfl ?_
      exact p2 c1 c2
  · refine wp_aload_n (M := mX8_readNumber) (pc := 32) dX8_readNumber_32 rfl rfl ?_
    refine wp_aload_n (M := mX8_readNumber) (pc := 33) dX8_readNumber_33 rfl rfl ?_
    refine xs_geti (M := mX8_readNumber) (pc := 34) dX8_readNumber_34 fX8_22 sh1 rfl ?_
    refine xs_callV (d := d) (M := mX8_readNumber) (pc := 37) (As := [.int (f 1 3)]) (st := []) (c := 8) (ls' := [.ref 1, .int (f 1 3)]) dX8_readNumber_37 oX8_at nX8_at lX8_28 vX8_at sX8_at rfl sh1 (Nat.le_of_ble_eq_true rfl) rfl (Nat.le_of_ble_eq_true rfl) rfl ?_
    refine sp_X8_at   ?_
    refine xs_callSN (d := d) (M := mX8_readNumber) (pc := 40) (As := [.int (tAt f (f 1 3))]) (st := []) (ls' := [.int (tAt f (f 1 3))]) dX8_readNumber_40 oX10_isDigit nX10_isDigit hX8_36 tX10_isDigit (Nat.le_of_ble_eq_true rfl) rfl (Nat.le_of_ble_eq_true rfl) rfl ?_
    refine sp_X10_isDigit   ?_
    refine xs_ifb_eq (M := mX8_readNumber) (pc := 43) (t := 85) dX8_readNumber_43 (by decide) (fun c3 => ?_) (fun c3 => ?_)
    · refine wp_aload_n (M := mX8_readNumber) (pc := 85) dX8_readNumber_85 rfl rfl ?_
      refine wp_aload_n (M := mX8_readNumber) (pc := 86) dX8_readNumber_86 rfl rfl ?_
      refine xs_geti (M := mX8_readNumber) (pc := 87) dX8_readNumber_87 fX8_22 sh1 rfl ?_
      refine xs_callV (d := d) (M := mX8_readNumber) (pc := 90) (As := [.int (f 1 3)]) (st := []) (c := 8) (ls' := [.ref 1, .int (f 1 3)]) dX8_readNumber_90 oX8_at nX8_at lX8_28 vX8_at sX8_at rfl sh1 (Nat.le_of_ble_eq_true rfl) rfl (Nat.le_of_ble_eq_true rfl) rfl ?_
      refine sp_X8_at   ?_
      refine xs_callSN (d := d) (M := mX8_readNumber) (pc := 93) (As := [.int (tAt f (f 1 3))]) (st := []) (ls' := [.int (tAt f (f 1 3))]) dX8_readNumber_93 oX10_isDigit nX10_isDigit hX8_36 tX10_isDigit (Nat.le_of_ble_eq_true rfl) rfl (Nat.le_of_ble_eq_true rfl) rfl ?_
      refine sp_X10_isDigit   ?_
      refine xs_ifb_eq (M := mX8_readNumber) (pc := 96) (t := 107) dX8_readNumber_96 (by decide) (fun c4 => ?_) (fun c4 => ?_)
      · refine wp_iconst (M := mX8_readNumber) (pc := 107) dX8_readNumber_107 k_iconst_1 ?_
        exact xs_zret (M := mX8_readNumber) (pc := 108) dX8_readNumber_108 rfl (by decide) (p3 c1 c3 c4)
      · refine wp_aload_n (M := mX8_readNumber) (pc := 99) dX8_readNumber_99 rfl rfl ?_
        refine wp_iconst (M := mX8_readNumber) (pc := 100) dX8_readNumber_100 k_iconst_2 ?_
        refine xs_callV (d := d) (M := mX8_readNumber) (pc := 101) (As := [.int 2]) (st := []) (c := 8) (ls' := [.ref 1, .int 2]) dX8_readNumber_101 oX8_fails nX8_fails lX8_32 vX8_fails sX8_fails rfl sh1 (Nat.le_of_ble_eq_true rfl) rfl (Nat.le_of_ble_eq_true rfl) rfl ?_
        exact p4 c1 c3 c4
    · refine wp_aload_n (M := mX8_readNumber) (pc := 46) dX8_readNumber_46 rfl rfl ?_
      refine wp_aload_n (M := mX8_readNumber) (pc := 47) dX8_readNumber_47 rfl rfl ?_
      refine xs_geti (M := mX8_readNumber) (pc := 48) dX8_readNumber_48 fX8_39 sh1 rfl ?_
      refine wp_bipush (M := mX8_readNumber) (pc := 51) dX8_readNumber_51 k_bipush_10 ?_
      refine wp_imul (M := mX8_readNumber) (pc := 53) dX8_readNumber_53 ?_
      refine wp_aload_n (M := mX8_readNumber) (pc := 54) dX8_readNumber_54 rfl rfl ?_
      refine wp_aload_n (M := mX8_readNumber) (pc := 55) dX8_readNumber_55 rfl rfl ?_
      refine xs_geti (M := mX8_readNumber) (pc := 56) dX8_readNumber_56 fX8_22 sh1 rfl ?_
      refine xs_callV (d := d) (M := mX8_readNumber) (pc := 59) (As := [.int (f 1 3)]) (st := [.int ((f 1 4) * 10), .ref 1]) (c := 8) (ls' := [.ref 1, .int (f 1 3)]) dX8_readNumber_59 oX8_at nX8_at lX8_28 vX8_at sX8_at rfl sh1 (Nat.le_of_ble_eq_true rfl) rfl (Nat.le_of_ble_eq_true rfl) rfl ?_
      refine sp_X8_at   ?_
      refine wp_iadd (M := mX8_readNumber) (pc := 62) dX8_readNumber_62 ?_
      refine wp_bipush (M := mX8_readNumber) (pc := 63) dX8_readNumber_63 k_bipush_48 ?_
      refine wp_isub (M := mX8_readNumber) (pc := 65) dX8_readNumber_65 ?_
      refine xs_puti (M := mX8_readNumber) (pc := 66) dX8_readNumber_66 pX8_39 sh1 rfl ?_
      refine wp_aload_n (M := mX8_readNumber) (pc := 69) dX8_readNumber_69 rfl rfl ?_
      refine wp_dup (M := mX8_readNumber) (pc := 70) dX8_readNumber_70 ?_
      refine xs_geti (M := mX8_readNumber) (pc := 71) dX8_readNumber_71 fX8_22 sh1 rfl ?_
      refine wp_iconst (M := mX8_readNumber) (pc := 74) dX8_readNumber_74 k_iconst_1 ?_
      refine wp_iadd (M := mX8_readNumber) (pc := 75) dX8_readNumber_75 ?_
      refine xs_puti (M := mX8_readNumber) (pc := 76) dX8_readNumber_76 pX8_22 sh1 rfl ?_
      refine wp_iinc (M := mX8_readNumber) (pc := 79) (v := x1 + 1) (ls' := [.ref 1, .int (x1 + 1)]) dX8_readNumber_79 rfl (congrArg (fun z => _ + z) k_iconst_1) (by decide) rfl ?_
      refine wp_goto (M := mX8_readNumber) (pc := 82) (t := 27) dX8_readNumber_82 (by decide) ?_
      exact p5 c1 c3
theorem bX8_readNumber_104 {G : GC} {d : Nat} {sw : Bool} {f : FF} {Q : QQ} {x1 : Int32} {s0 : Int32} (p1 : s0 = 0 ∨ s0 = 1) (p2 : Q (some (.int s0)) sw f) : XP G mX8_readNumber (d + 1) 104 [.ref 1, .int x1] [.int s0] sw f Q := by
  refine wp_goto (M := mX8_readNumber) (pc := 104) (t := 108) dX8_readNumber_104 (by decide) ?_
  exact xs_zret (M := mX8_readNumber) (pc := 108) dX8_readNumber_108 rfl (p1) (p2)
theorem bX1_land_0 {G : GC} {d : Nat} {sw : Bool} {f : FF} {Q : QQ} {q : Nat} (hq : isLw q) {x1 : Int32} (p1 : (x1 < 0) → Q none sw f) (p2 : (¬ x1 < 0) → vp_in x1 240) (p3 : (¬ x1 < 0) → Q none sw (upd2 f (q + 6) x1.toNatClampNeg (f q 1))) : XP G mX1_land (d) 0 [.ref q, .int x1] [] sw f Q := by
  refine wp_iload_n (M := mX1_land) (pc := 0) dX1_land_0 rfl rfl ?_
  refine wp_if_lt (M := mX1_land) (pc := 1) (t := 14) dX1_land_1 (by decide) (fun c1 => ?_) (fun c1 => ?_)
  · exact xs_ret (M := mX1_land) (pc := 14) dX1_land_14 rfl (p1 c1)
  · refine wp_aload_n (M := mX1_land) (pc := 4) dX1_land_4 rfl rfl ?_
    refine xs_getr (M := mX1_land) (pc := 5) (r := q + 6) dX1_land_5 fX1_27 (shL hq) rfl (grL_7 hq) ?_
    refine wp_iload_n (M := mX1_land) (pc := 8) dX1_land_8 rfl rfl ?_
    refine wp_aload_n (M := mX1_land) (pc := 9) dX1_land_9 rfl rfl ?_
    refine xs_geti (M := mX1_land) (pc := 10) dX1_land_10 fX1_30 (shL hq) rfl ?_
    refine xs_iast (M := mX1_land) (pc := 13) (j := x1.toNatClampNeg) dX1_land_13 (shL_6 hq) (p2 c1) rfl ?_
    exact xs_ret (M := mX1_land) (pc := 14) dX1_land_14 rfl (p3 c1)
theorem bX0_readLines_0 {G : GC} {d : Nat} {sw : Bool} {f : FF} {Q : QQ} {x1 : Int32} (p1 : XP G mX0_readLines (d + 3) 2 [.ref 20, .int x1, .int 0] [] sw f Q) : XP G mX0_readLines (d + 3) 0 [.ref 20, .int x1, .null] [] sw f Q := by
  refine wp_iconst (M := mX0_readLines) (pc := 0) dX0_readLines_0 k_iconst_0 ?_
  refine wp_istore_n (M := mX0_readLines) (pc := 1) (ls' := [.ref 20, .int x1, .int 0]) dX0_readLines_1 rfl (by decide) rfl ?_
  exact p1
theorem bX0_readLines_2 {G : GC} {d : Nat} {sw : Bool} {f : FF} {Q : QQ} {x1 : Int32} {x2 : Int32} (p1 : (20 < x2) → Q (some (.int (f 1 5))) sw f) (p2 : (¬ 20 < x2) → XP G mX0_readWhose (d + 2) 0 [.ref 20, .int x2, .int x1, .null, .null, .null] [] sw f (fun v sw' f' => XP G mX0_readLines (d + 3) 14 [.ref 20, .int x1, .int x2] (retst v []) sw' f' Q)) : XP G mX0_readLines (d + 3) 2 [.ref 20, .int x1, .int x2] [] sw f Q := by
  refine wp_iload_n (M := mX0_readLines) (pc := 2) dX0_readLines_2 rfl rfl ?_
  refine wp_bipush (M := mX0_readLines) (pc := 3) dX0_readLines_3 k_bipush_20 ?_
  refine wp_icmp_gt (M := mX0_readLines) (pc := 5) (t := 82) dX0_readLines_5 (by decide) (fun c1 => ?_) (fun c1 => ?_)
  · refine wp_aload_n (M := mX0_readLines) (pc := 82) dX0_readLines_82 rfl rfl ?_
    refine xs_getr (M := mX0_readLines) (pc := 83) (r := 1) dX0_readLines_83 fX0_21 sh20 rfl (gr20_0 sw) ?_
    refine xs_geti (M := mX0_readLines) (pc := 86) dX0_readLines_86 fX0_33 sh1 rfl ?_
    exact xs_iret (M := mX0_readLines) (pc := 89) dX0_readLines_89 rfl (p1 c1)
  · refine wp_aload_n (M := mX0_readLines) (pc := 8) dX0_readLines_8 rfl rfl ?_
    refine wp_iload_n (M := mX0_readLines) (pc := 9) dX0_readLines_9 rfl rfl ?_
    refine wp_iload_n (M := mX0_readLines) (pc := 10) dX0_readLines_10 rfl rfl ?_
    refine xs_callV (d := d + 2) (M := mX0_readLines) (pc := 11) (As := [.int x2, .int x1]) (st := []) (c := 0) (ls' := [.ref 20, .int x2, .int x1, .null, .null, .null]) dX0_readLines_11 oX0_readWhose nX0_readWhose lX0_25 vX0_readWhose sX0_readWhose rfl sh20 (Nat.le_of_ble_eq_true rfl) rfl (Nat.le_of_ble_eq_true rfl) rfl ?_
    exact p2 c1
theorem bX0_readLines_14 {G : GC} {d : Nat} {sw : Bool} {f : FF} {Q : QQ} {x1 : Int32} {x2 : Int32} {s0 : Int32} (p1 : (s0 = 0) → Q (some (.int (f 1 5))) sw f) (p2 : (¬ s0 = 0) → XP G mX0_readWhat (d + 2) 0 [.ref 20, .int x2, .null, .null] [] sw f (fun v sw' f' => XP G mX0_readLines (d + 3) 22 [.ref 20, .int x1, .int x2] (retst v []) sw' f' Q)) : XP G mX0_readLines (d + 3) 14 [.ref 20, .int x1, .int x2] [.int s0] sw f Q := by
  refine wp_if_eq (M := mX0_readLines) (pc := 14) (t := 25) dX0_readLines_14 (by decide) (fun c1 => ?_) (fun c1 => ?_)
  · refine wp_aload_n (M := mX0_readLines) (pc := 25) dX0_readLines_25 rfl rfl ?_
    refine xs_getr (M := mX0_readLines) (pc := 26) (r := 1) dX0_readLines_26 fX0_21 sh20 rfl (gr20_0 sw) ?_
    refine xs_geti (M := mX0_readLines) (pc := 29) dX0_readLines_29 fX0_33 sh1 rfl ?_
    exact xs_iret (M := mX0_readLines) (pc := 32) dX0_readLines_32 rfl (p1 c1)
  · refine wp_aload_n (M := mX0_readLines) (pc := 17) dX0_readLines_17 rfl rfl ?_
    refine wp_iload_n (M := mX0_readLines) (pc := 18) dX0_readLines_18 rfl rfl ?_
    refine xs_callV (d := d + 2) (M := mX0_readLines) (pc := 19) (As := [.int x2]) (st := []) (c := 0) (ls' := [.ref 20, .int x2, .null, .null]) dX0_readLines_19 oX0_readWhat nX0_readWhat lX0_29 vX0_readWhat sX0_readWhat rfl sh20 (Nat.le_of_ble_eq_true rfl) rfl (Nat.le_of_ble_eq_true rfl) rfl ?_
    exact p2 c1
theorem bX0_readLines_22 {G : GC} {d : Nat} {sw : Bool} {f : FF} {Q : QQ} {x1 : Int32} {x2 : Int32} {s0 : Int32} (p1 : (¬ s0 = 0) → (¬ (tAt (upd2 f 20 4 (x2 + 1)) ((upd2 f 20 4 (x2 + 1)) 1 3)) = (-1)) → XP G mX8_passes (d + 2) 0 [.ref 1, .int 59] [] sw (upd2 f 20 4 (x2 + 1)) (fun v sw' f' => XP G mX0_readLines (d + 3) 65 [.ref 20, .int x1, .int x2] (retst v []) sw' f' Q)) (p2 : (¬ s0 = 0) → ((tAt (upd2 f 20 4 (x2 + 1)) ((upd2 f 20 4 (x2 + 1)) 1 3)) = (-1)) → Q (some (.int ((upd2 f 20 4 (x2 + 1)) 20 4))) sw (upd2 f 20 4 (x2 + 1))) (p3 : (s0 = 0) → Q (some (.int (f 1 5))) sw f) : XP G mX0_readLines (d + 3) 22 [.ref 20, .int x1, .int x2] [.int s0] sw f Q := by
  refine wp_if_ne (M := mX0_readLines) (pc := 22) (t := 33) dX0_readLines_22 (by decide) (fun c1 => ?_) (fun c1 => ?_)
  · refine wp_aload_n (M := mX0_readLines) (pc := 33) dX0_readLines_33 rfl rfl ?_
    refine wp_iload_n (M := mX0_readLines) (pc := 34) dX0_readLines_34 rfl rfl ?_
    refine wp_iconst (M := mX0_readLines) (pc := 35) dX0_readLines_35 k_iconst_1 ?_
    refine wp_iadd (M := mX0_readLines) (pc := 36) dX0_readLines_36 ?_
    refine xs_puti (M := mX0_readLines) (pc := 37) dX0_readLines_37 pX0_39 sh20 rfl ?_
    refine wp_aload_n (M := mX0_readLines) (pc := 40) dX0_readLines_40 rfl rfl ?_
    refine xs_getr (M := mX0_readLines) (pc := 41) (r := 1) dX0_readLines_41 fX0_21 sh20 rfl (gr20_0 sw) ?_
    refine xs_callV (d := d + 2) (M := mX0_readLines) (pc := 44) (As := []) (st := []) (c := 8) (ls' := [.ref 1]) dX0_readLines_44 oX8_sign nX8_sign lX0_42 vX8_sign sX8_sign rfl sh1 (Nat.le_of_ble_eq_true rfl) rfl (Nat.le_of_ble_eq_true rfl) rfl ?_
    refine sp_X8_sign   ?_
    refine wp_iconst (M := mX0_readLines) (pc := 47) dX0_readLines_47 k_iconst_m1 ?_
    refine wp_icmp_ne (M := mX0_readLines) (pc := 48) (t := 56) dX0_readLines_48 (by decide) (fun c2 => ?_) (fun c2 => ?_)
    · refine wp_aload_n (M := mX0_readLines) (pc := 56) dX0_readLines_56 rfl rfl ?_
      refine xs_getr (M := mX0_readLines) (pc := 57) (r := 1) dX0_readLines_57 fX0_21 sh20 rfl (gr20_0 sw) ?_
      refine wp_bipush (M := mX0_readLines) (pc := 60) dX0_readLines_60 k_bipush_59 ?_
      refine xs_callV (d := d + 2) (M := mX0_readLines) (pc := 62) (As := [.int 59]) (st := []) (c := 8) (ls' := [.ref 1, .int 59]) dX0_readLines_62 oX8_passes nX8_passes lX0_45 vX8_passes sX8_passes rfl sh1 (Nat.le_of_ble_eq_true rfl) rfl (Nat.le_of_ble_eq_true rfl) rfl ?_
      exact p1 c1 c2
    · refine wp_aload_n (M := mX0_readLines) (pc := 51) dX0_readLines_51 rfl rfl ?_
      refine xs_geti (M := mX0_readLines) (pc := 52) dX0_readLines_52 fX0_39 sh20 rfl ?_
      exact xs_iret (M := mX0_readLines) (pc := 55) dX0_readLines_55 rfl (p2 c1 c2)
  · refine wp_aload_n (M := mX0_readLines) (pc := 25) dX0_readLines_25 rfl rfl ?_
    refine xs_getr (M := mX0_readLines) (pc := 26) (r := 1) dX0_readLines_26 fX0_21 sh20 rfl (gr20_0 sw) ?_
    refine xs_geti (M := mX0_readLines) (pc := 29) dX0_readLines_29 fX0_33 sh1 rfl ?_
    exact xs_iret (M := mX0_readLines) (pc := 32) dX0_readLines_32 rfl (p3 c1)
theorem bX0_readLines_65 {G : GC} {d : Nat} {sw : Bool} {f : FF} {Q : QQ} {x1 : Int32} {x2 : Int32} {s0 : Int32} (p1 : (¬ s0 = 0) → XP G mX0_readLines (d + 3) 2 [.ref 20, .int x1, .int (x2 + 1)] [] sw f Q) (p2 : (s0 = 0) → Q (some (.int (f 1 5))) sw f) : XP G mX0_readLines (d + 3) 65 [.ref 20, .int x1, .int x2] [.int s0] sw f Q := by
  refine wp_if_ne (M := mX0_readLines) (pc := 65) (t := 76) dX0_readLines_65 (by decide) (fun c1 => ?_) (fun c1 => ?_)
  · refine wp_iinc (M := mX0_readLines) (pc := 76) (v := x2 + 1) (ls' := [.ref 20, .int x1, .int (x2 + 1)]) dX0_readLines_76 rfl (congrArg (fun z => _ + z) k_iconst_1) (by decide) rfl ?_
    refine wp_goto (M := mX0_readLines) (pc := 79) (t := 2) dX0_readLines_79 (by decide) ?_
    exact p1 c1
  · refine wp_aload_n (M := mX0_readLines) (pc := 68) dX0_readLines_68 rfl rfl ?_
    refine xs_getr (M := mX0_readLines) (pc := 69) (r := 1) dX0_readLines_69 fX0_21 sh20 rfl (gr20_0 sw) ?_
    refine xs_geti (M := mX0_readLines) (pc := 72) dX0_readLines_72 fX0_33 sh1 rfl ?_
    exact xs_iret (M := mX0_readLines) (pc := 75) dX0_readLines_75 rfl (p2 c1)
theorem bX0_readWhose_0 {G : GC} {d : Nat} {sw : Bool} {f : FF} {Q : QQ} {x1 : Int32} {x2 : Int32} (p1 : (¬ (tAt f (f 1 3)) = 70) → (97 ≤ (tAt f (f 1 3)) ∧ (tAt f (f 1 3)) ≤ 112) → (x1 < 20) → (¬ ((x2 >>> (((tAt f (f 1 3)) - 97) &&& 31)) &&& 1) = 0) → vp_in x1 20) (p2 : (¬ (tAt f (f 1 3)) = 70) → (97 ≤ (tAt f (f 1 3)) ∧ (tAt f (f 1 3)) ≤ 112) → (x1 < 20) → (¬ ((x2 >>> (((tAt f (f 1 3)) - 97) &&& 31)) &&& 1) = 0) → Q (some (.int 1)) sw (upd2 (upd2 f 1 3 ((f 1 3) + 1)) 21 x1.toNatClampNeg ((tAt f (f 1 3)) - 97))) (p3 : (¬ (tAt f (f 1 3)) = 70) → (97 ≤ (tAt f (f 1 3)) ∧ (tAt f (f 1 3)) ≤ 112) → (x1 < 20) → (((x2 >>> (((tAt f (f 1 3)) - 97) &&& 31)) &&& 1) = 0) → XP G mX8_fails (d + 1) 0 [.ref 1, .int 7] [] sw f (fun v sw' f' => XP G mX0_readWhose (d + 2) 100 [.ref 20, .int x1, .int x2, .int (tAt f (f 1 3)), .int 0, .int ((tAt f (f 1 3)) - 97)] (retst v []) sw' f' Q)) (p4 : (¬ (tAt f (f 1 3)) = 70) → (97 ≤ (tAt f (f 1 3)) ∧ (tAt f (f 1 3)) ≤ 112) → (¬ x1 < 20) → XP G mX8_fails (d + 1) 0 [.ref 1, .int 4] [] sw f (fun v sw' f' => XP G mX0_readWhose (d + 2) 60 [.ref 20, .int x1, .int x2, .int (tAt f (f 1 3)), .int 0, .null] (retst v []) sw' f' Q)) (p5 : (¬ (tAt f (f 1 3)) = 70) → (¬ (97 ≤ (tAt f (f 1 3)) ∧ (tAt f (f 1 3)) ≤ 112)) → XP G mX8_fails (d + 1) 0 [.ref 1, .int 1] [] sw f (fun v sw' f' => XP G mX0_readWhose (d + 2) 45 [.ref 20, .int x1, .int x2, .int (tAt f (f 1 3)), .int 0, .null] (retst v []) sw' f' Q)) (p6 : ((tAt f (f 1 3)) = 70) → (x1 < 20) → vp_in x1 20) (p7 : ((tAt f (f 1 3)) = 70) → (x1 < 20) → Q (some (.int 1)) sw (upd2 (upd2 f 1 3 ((f 1 3) + 1)) 21 x1.toNatClampNeg 16)) (p8 : ((tAt f (f 1 3)) = 70) → (¬ x1 < 20) → XP G mX8_fails (d + 1) 0 [.ref 1, .int 4] [] sw f (fun v sw' f' => XP G mX0_readWhose (d + 2) 60 [.ref 20, .int x1, .int x2, .int (tAt f (f 1 3)), .int 1, .null] (retst v []) sw' f' Q)) : XP G mX0_readWhose (d + 2) 0 [.ref 20, .int x1, .int x2, .null, .null, .null] [] sw f Q := by
  refine wp_aload_n (M := mX0_readWhose) (pc := 0) dX0_readWhose_0 rfl rfl ?_
  refine xs_getr (M := mX0_readWhose) (pc := 1) (r := 1) dX0_readWhose_1 fX0_21 sh20 rfl (gr20_0 sw) ?_
  refine xs_callV (d := d + 1) (M := mX0_readWhose) (pc := 4) (As := []) (st := []) (c := 8) (ls' := [.ref 1]) dX0_readWhose_4 oX8_sign nX8_sign lX0_42 vX8_sign sX8_sign rfl sh1 (Nat.le_of_ble_eq_true rfl) rfl (Nat.le_of_ble_eq_true rfl) rfl ?_
  refine sp_X8_sign   ?_
  refine wp_istore_n (M := mX0_readWhose) (pc := 7) (ls' := [.ref 20, .int x1, .int x2, .int (tAt f (f 1 3)), .null, .null]) dX0_readWhose_7 rfl (by decide) rfl ?_
  refine wp_iload_n (M := mX0_readWhose) (pc := 8) dX0_readWhose_8 rfl rfl ?_
  refine wp_bipush (M := mX0_readWhose) (pc := 9) dX0_readWhose_9 k_bipush_70 ?_
  refine wp_icmp_ne (M := mX0_readWhose) (pc := 11) (t := 18) dX0_readWhose_11 (by decide) (fun c1 => ?_) (fun c1 => ?_)
  · refine wp_iconst (M := mX0_readWhose) (pc := 18) dX0_readWhose_18 k_iconst_0 ?_
    refine wp_istore (M := mX0_readWhose) (pc := 19) (ls' := [.ref 20, .int x1, .int x2, .int (tAt f (f 1 3)), .int 0, .null]) dX0_readWhose_19 (by decide) rfl ?_
    refine wp_iload (M := mX0_readWhose) (pc := 21) dX0_readWhose_21 rfl ?_
    refine wp_if_ne (M := mX0_readWhose) (pc := 23) (t := 46) dX0_readWhose_23 (by decide) (fun c => absurd c (by decide)) (fun _ => ?_)
    refine wp_iload_n (M := mX0_readWhose) (pc := 26) dX0_readWhose_26 rfl rfl ?_
    refine wp_bipush (M := mX0_readWhose) (pc := 27) dX0_readWhose_27 k_bipush_97 ?_
    refine wp_bipush (M := mX0_readWhose) (pc := 29) dX0_readWhose_29 k_bipush_112 ?_
    refine xs_callSN (d := d + 1) (M := mX0_readWhose) (pc := 31) (As := [.int (tAt f (f 1 3)), .int 97, .int 112]) (st := []) (ls' := [.int (tAt f (f 1 3)), .int 97, .int 112]) dX0_readWhose_31 oX10_within nX10_within hX0_48 tX10_within (Nat.le_of_ble_eq_true rfl) rfl (Nat.le_of_ble_eq_true rfl) rfl ?_
    refine sp_X10_within   ?_
    refine xs_ifb_ne (M := mX0_readWhose) (pc := 34) (t := 46) dX0_readWhose_34 (by decide) (fun c2 => ?_) (fun c2 => ?_)
    · refine wp_iload_n (M := mX0_readWhose) (pc := 46) dX0_readWhose_46 rfl rfl ?_
      refine wp_bipush (M := mX0_readWhose) (pc := 47) dX0_readWhose_47 k_bipush_20 ?_
      refine wp_icmp_lt (M := mX0_readWhose) (pc := 49) (t := 61) dX0_readWhose_49 (by decide) (fun c3 => ?_) (fun c3 => ?_)
      · refine wp_iload (M := mX0_readWhose) (pc := 61) dX0_readWhose_61 rfl ?_
        refine wp_if_eq (M := mX0_readWhose) (pc := 63) (t := 71) dX0_readWhose_63 (by decide) (fun _ => ?_) (fun c => absurd c (by decide))
        refine wp_iload_n (M := mX0_readWhose) (pc := 71) dX0_readWhose_71 rfl rfl ?_
        refine wp_bipush (M := mX0_readWhose) (pc := 72) dX0_readWhose_72 k_bipush_97 ?_
        refine wp_isub (M := mX0_readWhose) (pc := 74) dX0_readWhose_74 ?_
        refine wp_istore (M := mX0_readWhose) (pc := 75) (ls' := [.ref 20, .int x1, .int x2, .int (tAt f (f 1 3)), .int 0, .int ((tAt f (f 1 3)) - 97)]) dX0_readWhose_75 (by decide) rfl ?_
        refine wp_iload (M := mX0_readWhose) (pc := 77) dX0_readWhose_77 rfl ?_
        refine wp_if_ne (M := mX0_readWhose) (pc := 79) (t := 101) dX0_readWhose_79 (by decide) (fun c => absurd c (by decide)) (fun _ => ?_)
        refine wp_iload_n (M := mX0_readWhose) (pc := 82) dX0_readWhose_82 rfl rfl ?_
        refine wp_iload (M := mX0_readWhose) (pc := 83) dX0_readWhose_83 rfl ?_
        refine wp_ishr (M := mX0_readWhose) (pc := 85) dX0_readWhose_85 ?_
        refine wp_iconst (M := mX0_readWhose) (pc := 86) dX0_readWhose_86 k_iconst_1 ?_
        refine wp_iand (M := mX0_readWhose) (pc := 87) dX0_readWhose_87 ?_
        refine wp_if_ne (M := mX0_readWhose) (pc := 88) (t := 101) dX0_readWhose_88 (by decide) (fun c4 => ?_) (fun c4 => ?_)
        · refine wp_aload_n (M := mX0_readWhose) (pc := 101) dX0_readWhose_101 rfl rfl ?_
          refine xs_getr (M := mX0_readWhose) (pc := 102) (r := 1) dX0_readWhose_102 fX0_21 sh20 rfl (gr20_0 sw) ?_
          refine wp_dup (M := mX0_readWhose) (pc := 105) dX0_readWhose_105 ?_
          refine xs_geti (M := mX0_readWhose) (pc := 106) dX0_readWhose_106 fX0_55 sh1 rfl ?_
          refine wp_iconst (M := mX0_readWhose) (pc := 109) dX0_readWhose_109 k_iconst_1 ?_
          refine wp_iadd (M := mX0_readWhose) (pc := 110) dX0_readWhose_110 ?_
          refine xs_puti (M := mX0_readWhose) (pc := 111) dX0_readWhose_111 pX0_55 sh1 rfl ?_
          refine wp_aload_n (M := mX0_readWhose) (pc := 114) dX0_readWhose_114 rfl rfl ?_
          refine xs_getr (M := mX0_readWhose) (pc := 115) (r := 21) dX0_readWhose_115 fX0_9 sh20 rfl (gr20_1 sw) ?_
          refine wp_iload_n (M := mX0_readWhose) (pc := 118) dX0_readWhose_118 rfl rfl ?_
          refine wp_iload (M := mX0_readWhose) (pc := 119) dX0_readWhose_119 rfl ?_
          refine xs_iast (M := mX0_readWhose) (pc := 121) (j := x1.toNatClampNeg) dX0_readWhose_121 sh21 (p1 c1 c2 c3 c4) rfl ?_
          refine wp_iconst (M := mX0_readWhose) (pc := 122) dX0_readWhose_122 k_iconst_1 ?_
          exact xs_zret (M := mX0_readWhose) (pc := 123) dX0_readWhose_123 rfl (by decide) (p2 c1 c2 c3 c4)
        · refine wp_aload_n (M := mX0_readWhose) (pc := 91) dX0_readWhose_91 rfl rfl ?_
          refine xs_getr (M := mX0_readWhose) (pc := 92) (r := 1) dX0_readWhose_92 fX0_21 sh20 rfl (gr20_0 sw) ?_
          refine wp_bipush (M := mX0_readWhose) (pc := 95) dX0_readWhose_95 k_bipush_7 ?_
          refine xs_callV (d := d + 1) (M := mX0_readWhose) (pc := 97) (As := [.int 7]) (st := []) (c := 8) (ls' := [.ref 1, .int 7]) dX0_readWhose_97 oX8_fails nX8_fails lX0_52 vX8_fails sX8_fails rfl sh1 (Nat.le_of_ble_eq_true rfl) rfl (Nat.le_of_ble_eq_true rfl) rfl ?_
          exact p3 c1 c2 c3 c4
      · refine wp_aload_n (M := mX0_readWhose) (pc := 52) dX0_readWhose_52 rfl rfl ?_
        refine xs_getr (M := mX0_readWhose) (pc := 53) (r := 1) dX0_readWhose_53 fX0_21 sh20 rfl (gr20_0 sw) ?_
        refine wp_iconst (M := mX0_readWhose) (pc := 56) dX0_readWhose_56 k_iconst_4 ?_
        refine xs_callV (d := d + 1) (M := mX0_readWhose) (pc := 57) (As := [.int 4]) (st := []) (c := 8) (ls' := [.ref 1, .int 4]) dX0_readWhose_57 oX8_fails nX8_fails lX0_52 vX8_fails sX8_fails rfl sh1 (Nat.le_of_ble_eq_true rfl) rfl (Nat.le_of_ble_eq_true rfl) rfl ?_
        exact p4 c1 c2 c3
    · refine wp_aload_n (M := mX0_readWhose) (pc := 37) dX0_readWhose_37 rfl rfl ?_
      refine xs_getr (M := mX0_readWhose) (pc := 38) (r := 1) dX0_readWhose_38 fX0_21 sh20 rfl (gr20_0 sw) ?_
      refine wp_iconst (M := mX0_readWhose) (pc := 41) dX0_readWhose_41 k_iconst_1 ?_
      refine xs_callV (d := d + 1) (M := mX0_readWhose) (pc := 42) (As := [.int 1]) (st := []) (c := 8) (ls' := [.ref 1, .int 1]) dX0_readWhose_42 oX8_fails nX8_fails lX0_52 vX8_fails sX8_fails rfl sh1 (Nat.le_of_ble_eq_true rfl) rfl (Nat.le_of_ble_eq_true rfl) rfl ?_
      exact p5 c1 c2
  · refine wp_iconst (M := mX0_readWhose) (pc := 14) dX0_readWhose_14 k_iconst_1 ?_
    refine wp_goto (M := mX0_readWhose) (pc := 15) (t := 19) dX0_readWhose_15 (by decide) ?_
    refine wp_istore (M := mX0_readWhose) (pc := 19) (ls' := [.ref 20, .int x1, .int x2, .int (tAt f (f 1 3)), .int 1, .null]) dX0_readWhose_19 (by decide) rfl ?_
    refine wp_iload (M := mX0_readWhose) (pc := 21) dX0_readWhose_21 rfl ?_
    refine wp_if_ne (M := mX0_readWhose) (pc := 23) (t := 46) dX0_readWhose_23 (by decide) (fun _ => ?_) (fun c => absurd c (by decide))
    refine wp_iload_n (M := mX0_readWhose) (pc := 46) dX0_readWhose_46 rfl rfl ?_
    refine wp_bipush (M := mX0_readWhose) (pc := 47) dX0_readWhose_47 k_bipush_20 ?_
    refine wp_icmp_lt (M := mX0_readWhose) (pc := 49) (t := 61) dX0_readWhose_49 (by decide) (fun c5 => ?_) (fun c5 => ?_)
    · refine wp_iload (M := mX0_readWhose) (pc := 61) dX0_readWhose_61 rfl ?_
      refine wp_if_eq (M := mX0_readWhose) (pc := 63) (t := 71) dX0_readWhose_63 (by decide) (fun c => absurd c (by decide)) (fun _ => ?_)
      refine wp_bipush (M := mX0_readWhose) (pc := 66) dX0_readWhose_66 k_bipush_16 ?_
      refine wp_goto (M := mX0_readWhose) (pc := 68) (t := 75) dX0_readWhose_68 (by decide) ?_
      refine wp_istore (M := mX0_readWhose) (pc := 75) (ls' := [.ref 20, .int x1, .int x2, .int (tAt f (f 1 3)), .int 1, .int 16]) dX0_readWhose_75 (by decide) rfl ?_
      refine wp_iload (M := mX0_readWhose) (pc := 77) dX0_readWhose_77 rfl ?_
      refine wp_if_ne (M := mX0_readWhose) (pc := 79) (t := 101) dX0_readWhose_79 (by decide) (fun _ => ?_) (fun c => absurd c (by decide))
      refine wp_aload_n (M := mX0_readWhose) (pc := 101) dX0_readWhose_101 rfl rfl ?_
      refine xs_getr (M := mX0_readWhose) (pc := 102) (r := 1) dX0_readWhose_102 fX0_21 sh20 rfl (gr20_0 sw) ?_
      refine wp_dup (M := mX0_readWhose) (pc := 105) dX0_readWhose_105 ?_
      refine xs_geti (M := mX0_readWhose) (pc := 106) dX0_readWhose_106 fX0_55 sh1 rfl ?_
      refine wp_iconst (M := mX0_readWhose) (pc := 109) dX0_readWhose_109 k_iconst_1 ?_
      refine wp_iadd (M := mX0_readWhose) (pc := 110) dX0_readWhose_110 ?_
      refine xs_puti (M := mX0_readWhose) (pc := 111) dX0_readWhose_111 pX0_55 sh1 rfl ?_
      refine wp_aload_n (M := mX0_readWhose) (pc := 114) dX0_readWhose_114 rfl rfl ?_
      refine xs_getr (M := mX0_readWhose) (pc := 115) (r := 21) dX0_readWhose_115 fX0_9 sh20 rfl (gr20_1 sw) ?_
      refine wp_iload_n (M := mX0_readWhose) (pc := 118) dX0_readWhose_118 rfl rfl ?_
      refine wp_iload (M := mX0_readWhose) (pc := 119) dX0_readWhose_119 rfl ?_
      refine xs_iast (M := mX0_readWhose) (pc := 121) (j := x1.toNatClampNeg) dX0_readWhose_121 sh21 (p6 c1 c5) rfl ?_
      refine wp_iconst (M := mX0_readWhose) (pc := 122) dX0_readWhose_122 k_iconst_1 ?_
      exact xs_zret (M := mX0_readWhose) (pc := 123) dX0_readWhose_123 rfl (by decide) (p7 c1 c5)
    · refine wp_aload_n (M := mX0_readWhose) (pc := 52) dX0_readWhose_52 rfl rfl ?_
      refine xs_getr (M := mX0_readWhose) (pc := 53) (r := 1) dX0_readWhose_53 fX0_21 sh20 rfl (gr20_0 sw) ?_
      refine wp_iconst (M := mX0_readWhose) (pc := 56) dX0_readWhose_56 k_iconst_4 ?_
      refine xs_callV (d := d + 1) (M := mX0_readWhose) (pc := 57) (As := [.int 4]) (st := []) (c := 8) (ls' := [.ref 1, .int 4]) dX0_readWhose_57 oX8_fails nX8_fails lX0_52 vX8_fails sX8_fails rfl sh1 (Nat.le_of_ble_eq_true rfl) rfl (Nat.le_of_ble_eq_true rfl) rfl ?_
      exact p8 c1 c5
theorem bX0_readWhose_45 {G : GC} {d : Nat} {sw : Bool} {f : FF} {Q : QQ} {x1 : Int32} {x2 : Int32} {x3 : Int32} {x4 : Int32} {v5 : Value} {s0 : Int32} (p1 : s0 = 0 ∨ s0 = 1) (p2 : Q (some (.int s0)) sw f) : XP G mX0_readWhose (d + 2) 45 [.ref 20, .int x1, .int x2, .int x3, .int x4, v5] [.int s0] sw f Q := by
  exact xs_zret (M := mX0_readWhose) (pc := 45) dX0_readWhose_45 rfl (p1) (p2)
theorem bX0_readWhose_60 {G : GC} {d : Nat} {sw : Bool} {f : FF} {Q : QQ} {x1 : Int32} {x2 : Int32} {x3 : Int32} {x4 : Int32} {v5 : Value} {s0 : Int32} (p1 : s0 = 0 ∨ s0 = 1) (p2 : Q (some (.int s0)) sw f) : XP G mX0_readWhose (d + 2) 60 [.ref 20, .int x1, .int x2, .int x3, .int x4, v5] [.int s0] sw f Q := by
  exact xs_zret (M := mX0_readWhose) (pc := 60) dX0_readWhose_60 rfl (p1) (p2)
theorem bX0_readWhose_100 {G : GC} {d : Nat} {sw : Bool} {f : FF} {Q : QQ} {x1 : Int32} {x2 : Int32} {x3 : Int32} {x4 : Int32} {x5 : Int32} {s0 : Int32} (p1 : s0 = 0 ∨ s0 = 1) (p2 : Q (some (.int s0)) sw f) : XP G mX0_readWhose (d + 2) 100 [.ref 20, .int x1, .int x2, .int x3, .int x4, .int x5] [.int s0] sw f Q := by
  exact xs_zret (M := mX0_readWhose) (pc := 100) dX0_readWhose_100 rfl (p1) (p2)
theorem bX0_readWhat_0 {G : GC} {d : Nat} {sw : Bool} {f : FF} {Q : QQ} {x1 : Int32} (p1 : vp_in x1 20) (p2 : ((tAt f (f 1 3)) = 43) → XP G mX8_readNumber (d + 1) 0 [.ref 1, .null] [] sw (upd2 (upd2 f 22 x1.toNatClampNeg (tAt f (f 1 3))) 1 3 (((upd2 f 22 x1.toNatClampNeg (tAt f (f 1 3))) 1 3) + 1)) (fun v sw' f' => XP G mX0_readWhat (d + 2) 47 [.ref 20, .int x1, .int (tAt f (f 1 3)), .null] (retst v []) sw' f' Q)) (p3 : (¬ (tAt f (f 1 3)) = 43) → (¬ (tAt f (f 1 3)) = 45) → ((tAt f (f 1 3)) = 33) → vp_in x1 20) (p4 : (¬ (tAt f (f 1 3)) = 43) → (¬ (tAt f (f 1 3)) = 45) → ((tAt f (f 1 3)) = 33) → (¬ ((upd2 f 22 x1.toNatClampNeg (tAt f (f 1 3))) 21 x1.toNatClampNeg) = 16) → Q (some (.int 1)) sw (upd2 (upd2 f 22 x1.toNatClampNeg (tAt f (f 1 3))) 1 3 (((upd2 f 22 x1.toNatClampNeg (tAt f (f 1 3))) 1 3) + 1))) (p5 : (¬ (tAt f (f 1 3)) = 43) → (¬ (tAt f (f 1 3)) = 45) → ((tAt f (f 1 3)) = 33) → (((upd2 f 22 x1.toNatClampNeg (tAt f (f 1 3))) 21 x1.toNatClampNeg) = 16) → XP G mX8_fails (d + 1) 0 [.ref 1, .int 1] [] sw (upd2 f 22 x1.toNatClampNeg (tAt f (f 1 3))) (fun v sw' f' => XP G mX0_readWhat (d + 2) 143 [.ref 20, .int x1, .int (tAt f (f 1 3)), .int 1] (retst v []) sw' f' Q)) (p6 : (¬ (tAt f (f 1 3)) = 43) → (¬ (tAt f (f 1 3)) = 45) → (¬ (tAt f (f 1 3)) = 33) → ((tAt f (f 1 3)) = 63) → vp_in x1 20) (p7 : (¬ (tAt f (f 1 3)) = 43) → (¬ (tAt f (f 1 3)) = 45) → (¬ (tAt f (f 1 3)) = 33) → ((tAt f (f 1 3)) = 63) → (¬ ((upd2 f 22 x1.toNatClampNeg (tAt f (f 1 3))) 21 x1.toNatClampNeg) = 16) → Q (some (.int 1)) sw (upd2 (upd2 f 22 x1.toNatClampNeg (tAt f (f 1 3))) 1 3 (((upd2 f 22 x1.toNatClampNeg (tAt f (f 1 3))) 1 3) + 1))) (p8 : (¬ (tAt f (f 1 3)) = 43) → (¬ (tAt f (f 1 3)) = 45) → (¬ (tAt f (f 1 3)) = 33) → ((tAt f (f 1 3)) = 63) → (((upd2 f 22 x1.toNatClampNeg (tAt f (f 1 3))) 21 x1.toNatClampNeg) = 16) → XP G mX8_fails (d + 1) 0 [.ref 1, .int 1] [] sw (upd2 f 22 x1.toNatClampNeg (tAt f (f 1 3))) (fun v sw' f' => XP G mX0_readWhat (d + 2) 143 [.ref 20, .int x1, .int (tAt f (f 1 3)), .int 1] (retst v []) sw' f' Q)) (p9 : (¬ (tAt f (f 1 3)) = 43) → (¬ (tAt f (f 1 3)) = 45) → (¬ (tAt f (f 1 3)) = 33) → (¬ (tAt f (f 1 3)) = 63) → ((tAt f (f 1 3)) = 42) → vp_in x1 20) (p10 : (¬ (tAt f (f 1 3)) = 43) → (¬ (tAt f (f 1 3)) = 45) → (¬ (tAt f (f 1 3)) = 33) → (¬ (tAt f (f 1 3)) = 63) → ((tAt f (f 1 3)) = 42) → (¬ ((upd2 f 22 x1.toNatClampNeg (tAt f (f 1 3))) 21 x1.toNatClampNeg) = 16) → Q (some (.int 1)) sw (upd2 (upd2 f 22 x1.toNatClampNeg (tAt f (f 1 3))) 1 3 (((upd2 f 22 x1.toNatClampNeg (tAt f (f 1 3))) 1 3) + 1))) (p11 : (¬ (tAt f (f 1 3)) = 43) → (¬ (tAt f (f 1 3)) = 45) → (¬ (tAt f (f 1 3)) = 33) → (¬ (tAt f (f 1 3)) = 63) → ((tAt f (f 1 3)) = 42) → (((upd2 f 22 x1.toNatClampNeg (tAt f (f 1 3))) 21 x1.toNatClampNeg) = 16) → XP G mX8_fails (d + 1) 0 [.ref 1, .int 1] [] sw (upd2 f 22 x1.toNatClampNeg (tAt f (f 1 3))) (fun v sw' f' => XP G mX0_readWhat (d + 2) 143 [.ref 20, .int x1, .int (tAt f (f 1 3)), .int 1] (retst v []) sw' f' Q)) (p12 : (¬ (tAt f (f 1 3)) = 43) → (¬ (tAt f (f 1 3)) = 45) → (¬ (tAt f (f 1 3)) = 33) → (¬ (tAt f (f 1 3)) = 63) → (¬ (tAt f (f 1 3)) = 42) → ((tAt f (f 1 3)) = 94) → vp_in x1 20) (p13 : (¬ (tAt f (f 1 3)) = 43) → (¬ (tAt f (f 1 3)) = 45) → (¬ (tAt f (f 1 3)) = 33) → (¬ (tAt f (f 1 3)) = 63) → (¬ (tAt f (f 1 3)) = 42) → ((tAt f (f 1 3)) = 94) → (¬ ((upd2 f 22 x1.toNatClampNeg (tAt f (f 1 3))) 21 x1.toNatClampNeg) = 16) → Q (some (.int 1)) sw (upd2 (upd2 f 22 x1.toNatClampNeg (tAt f (f 1 3))) 1 3 (((upd2 f 22 x1.toNatClampNeg (tAt f (f 1 3))) 1 3) + 1))) (p14 : (¬ (tAt f (f 1 3)) = 43) → (¬ (tAt f (f 1 3)) = 45) → (¬ (tAt f (f 1 3)) = 33) → (¬ (tAt f (f 1 3)) = 63) → (¬ (tAt f (f 1 3)) = 42) → ((tAt f (f 1 3)) = 94) → (((upd2 f 22 x1.toNatClampNeg (tAt f (f 1 3))) 21 x1.toNatClampNeg) = 16) → XP G mX8_fails (d + 1) 0 [.ref 1, .int 1] [] sw (upd2 f 22 x1.toNatClampNeg (tAt f (f 1 3))) (fun v sw' f' => XP G mX0_readWhat (d + 2) 143 [.ref 20, .int x1, .int (tAt f (f 1 3)), .int 1] (retst v []) sw' f' Q)) (p15 : (¬ (tAt f (f 1 3)) = 43) → (¬ (tAt f (f 1 3)) = 45) → (¬ (tAt f (f 1 3)) = 33) → (¬ (tAt f (f 1 3)) = 63) → (¬ (tAt f (f 1 3)) = 42) → (¬ (tAt f (f 1 3)) = 94) → (¬ (tAt f (f 1 3)) = 95) → XP G mX8_fails (d + 1) 0 [.ref 1, .int 1] [] sw (upd2 f 22 x1.toNatClampNeg (tAt f (f 1 3))) (fun v sw' f' => XP G mX0_readWhat (d + 2) 143 [.ref 20, .int x1, .int (tAt f (f 1 3)), .int 0] (retst v []) sw' f' Q)) (p16 : (¬ (tAt f (f 1 3)) = 43) → (¬ (tAt f (f 1 3)) = 45) → (¬ (tAt f (f 1 3)) = 33) → (¬ (tAt f (f 1 3)) = 63) → (¬ (tAt f (f 1 3)) = 42) → (¬ (tAt f (f 1 3)) = 94) → ((tAt f (f 1 3)) = 95) → vp_in x1 20) (p17 : (¬ (tAt f (f 1 3)) = 43) → (¬ (tAt f (f 1 3)) = 45) → (¬ (tAt f (f 1 3)) = 33) → (¬ (tAt f (f 1 3)) = 63) → (¬ (tAt f (f 1 3)) = 42) → (¬ (tAt f (f 1 3)) = 94) → ((tAt f (f 1 3)) = 95) → (¬ ((upd2 f 22 x1.toNatClampNeg (tAt f (f 1 3))) 21 x1.toNatClampNeg) = 16) → Q (some (.int 1)) sw (upd2 (upd2 f 22 x1.toNatClampNeg (tAt f (f 1 3))) 1 3 (((upd2 f 22 x1.toNatClampNeg (tAt f (f 1 3))) 1 3) + 1))) (p18 : (¬ (tAt f (f 1 3)) = 43) → (¬ (tAt f (f 1 3)) = 45) → (¬ (tAt f (f 1 3)) = 33) → (¬ (tAt f (f 1 3)) = 63) → (¬ (tAt f (f 1 3)) = 42) → (¬ (tAt f (f 1 3)) = 94) → ((tAt f (f 1 3)) = 95) → (((upd2 f 22 x1.toNatClampNeg (tAt f (f 1 3))) 21 x1.toNatClampNeg) = 16) → XP G mX8_fails (d + 1) 0 [.ref 1, .int 1] [] sw (upd2 f 22 x1.toNatClampNeg (tAt f (f 1 3))) (fun v sw' f' => XP G mX0_readWhat (d + 2) 143 [.ref 20, .int x1, .int (tAt f (f 1 3)), .int 1] (retst v []) sw' f' Q)) (p19 : (¬ (tAt f (f 1 3)) = 43) → ((tAt f (f 1 3)) = 45) → XP G mX8_readNumber (d + 1) 0 [.ref 1, .null] [] sw (upd2 (upd2 f 22 x1.toNatClampNeg (tAt f (f 1 3))) 1 3 (((upd2 f 22 x1.toNatClampNeg (tAt f (f 1 3))) 1 3) + 1)) (fun v sw' f' => XP G mX0_readWhat (d + 2) 47 [.ref 20, .int x1, .int (tAt f (f 1 3)), .null] (retst v []) sw' f' Q)) : XP G mX0_readWhat (d + 2) 0 [.ref 20, .int x1, .null, .null] [] sw f Q := by
  refine wp_aload_n (M := mX0_readWhat) (pc := 0) dX0_readWhat_0 rfl rfl ?_
  refine xs_getr (M := mX0_readWhat) (pc := 1) (r := 1) dX0_readWhat_1 fX0_21 sh20 rfl (gr20_0 sw) ?_
  refine xs_callV (d := d + 1) (M := mX0_readWhat) (pc := 4) (As := []) (st := []) (c := 8) (ls' := [.ref 1]) dX0_readWhat_4 oX8_sign nX8_sign lX0_42 vX8_sign sX8_sign rfl sh1 (Nat.le_of_ble_eq_true rfl) rfl (Nat.le_of_ble_eq_true rfl) rfl ?_
  refine sp_X8_sign   ?_
  refine wp_istore_n (M := mX0_readWhat) (pc := 7) (ls' := [.ref 20, .int x1, .int (tAt f (f 1 3)), .null]) dX0_readWhat_7 rfl (by decide) rfl ?_
  refine wp_aload_n (M := mX0_readWhat) (pc := 8) dX0_readWhat_8 rfl rfl ?_
  refine xs_getr (M := mX0_readWhat) (pc := 9) (r := 22) dX0_readWhat_9 fX0_15 sh20 rfl (gr20_2 sw) ?_
  refine wp_iload_n (M := mX0_readWhat) (pc := 12) dX0_readWhat_12 rfl rfl ?_
  refine wp_iload_n (M := mX0_readWhat) (pc := 13) dX0_readWhat_13 rfl rfl ?_
  refine xs_iast (M := mX0_readWhat) (pc := 14) (j := x1.toNatClampNeg) dX0_readWhat_14 sh22 (p1) rfl ?_
  refine wp_iload_n (M := mX0_readWhat) (pc := 15) dX0_readWhat_15 rfl rfl ?_
  refine wp_bipush (M := mX0_readWhat) (pc := 16) dX0_readWhat_16 k_bipush_43 ?_
  refine wp_icmp_eq (M := mX0_readWhat) (pc := 18) (t := 27) dX0_readWhat_18 (by decide) (fun c1 => ?_) (fun c1 => ?_)
  · refine wp_aload_n (M := mX0_readWhat) (pc := 27) dX0_readWhat_27 rfl rfl ?_
    refine xs_getr (M := mX0_readWhat) (pc := 28) (r := 1) dX0_readWhat_28 fX0_21 sh20 rfl (gr20_0 sw) ?_
    refine wp_dup (M := mX0_readWhat) (pc := 31) dX0_readWhat_31 ?_
    refine xs_geti (M := mX0_readWhat) (pc := 32) dX0_readWhat_32 fX0_55 sh1 rfl ?_
    refine wp_iconst (M := mX0_readWhat) (pc := 35) dX0_readWhat_35 k_iconst_1 ?_
    refine wp_iadd (M := mX0_readWhat) (pc := 36) dX0_readWhat_36 ?_
    refine xs_puti (M := mX0_readWhat) (pc := 37) dX0_readWhat_37 pX0_55 sh1 rfl ?_
    refine wp_aload_n (M := mX0_readWhat) (pc := 40) dX0_readWhat_40 rfl rfl ?_
    refine xs_getr (M := mX0_readWhat) (pc := 41) (r := 1) dX0_readWhat_41 fX0_21 sh20 rfl (gr20_0 sw) ?_
    refine xs_callV (d := d + 1) (M := mX0_readWhat) (pc := 44) (As := []) (st := []) (c := 8) (ls' := [.ref 1, .null]) dX0_readWhat_44 oX8_readNumber nX8_readNumber lX0_58 vX8_readNumber sX8_readNumber rfl sh1 (Nat.le_of_ble_eq_true rfl) rfl (Nat.le_of_ble_eq_true rfl) rfl ?_
    exact p2 c1
  · refine wp_iload_n (M := mX0_readWhat) (pc := 21) dX0_readWhat_21 rfl rfl ?_
    refine wp_bipush (M := mX0_readWhat) (pc := 22) dX0_readWhat_22 k_bipush_45 ?_
    refine wp_icmp_ne (M := mX0_readWhat) (pc := 24) (t := 84) dX0_readWhat_24 (by decide) (fun c2 => ?_) (fun c2 => ?_)
    · refine wp_iload_n (M := mX0_readWhat) (pc := 84) dX0_readWhat_84 rfl rfl ?_
      refine wp_bipush (M := mX0_readWhat) (pc := 85) dX0_readWhat_85 k_bipush_33 ?_
      refine wp_icmp_eq (M := mX0_readWhat) (pc := 87) (t := 114) dX0_readWhat_87 (by decide) (fun c3 => ?_) (fun c3 => ?_)
      · refine wp_iconst (M := mX0_readWhat) (pc := 114) dX0_readWhat_114 k_iconst_1 ?_
        refine wp_goto (M := mX0_readWhat) (pc := 115) (t := 119) dX0_readWhat_115 (by decide) ?_
        refine wp_istore_n (M := mX0_readWhat) (pc := 119) (ls' := [.ref 20, .int x1, .int (tAt f (f 1 3)), .int 1]) dX0_readWhat_119 rfl (by decide) rfl ?_
        refine wp_iload_n (M := mX0_readWhat) (pc := 120) dX0_readWhat_120 rfl rfl ?_
        refine wp_if_eq (M := mX0_readWhat) (pc := 121) (t := 135) dX0_readWhat_121 (by decide) (fun c => absurd c (by decide)) (fun _ => ?_)
        refine wp_aload_n (M := mX0_readWhat) (pc := 124) dX0_readWhat_124 rfl rfl ?_
        refine xs_getr (M := mX0_readWhat) (pc := 125) (r := 21) dX0_readWhat_125 fX0_9 sh20 rfl (gr20_1 sw) ?_
        refine wp_iload_n (M := mX0_readWhat) (pc := 128) dX0_readWhat_128 rfl rfl ?_
        refine xs_iald (M := mX0_readWhat) (pc := 129) (j := x1.toNatClampNeg) dX0_readWhat_129 sh21 (p3 c1 c2 c3) rfl ?_
        refine wp_bipush (M := mX0_readWhat) (pc := 130) dX0_readWhat_130 k_bipush_16 ?_
        refine wp_icmp_ne (M := mX0_readWhat) (pc := 132) (t := 144) dX0_readWhat_132 (by decide) (fun c4 => ?_) (fun c4 => ?_)
        · refine wp_aload_n (M := mX0_readWhat) (pc := 144) dX0_readWhat_144 rfl rfl ?_
          refine xs_getr (M := mX0_readWhat) (pc := 145) (r := 1) dX0_readWhat_145 fX0_21 sh20 rfl (gr20_0 sw) ?_
          refine wp_dup (M := mX0_readWhat) (pc := 148) dX0_readWhat_148 ?_
          refine xs_geti (M := mX0_readWhat) (pc := 149) dX0_readWhat_149 fX0_55 sh1 rfl ?_
          refine wp_iconst (M := mX0_readWhat) (pc := 152) dX0_readWhat_152 k_iconst_1 ?_
          refine wp_iadd (M := mX0_readWhat) (pc := 153) dX0_readWhat_153 ?_
          refine xs_puti (M := mX0_readWhat) (pc := 154) dX0_readWhat_154 pX0_55 sh1 rfl ?_
          refine wp_iconst (M := mX0_readWhat) (pc := 157) dX0_readWhat_157 k_iconst_1 ?_
          exact xs_zret (M := mX0_readWhat) (pc := 158) dX0_readWhat_158 rfl (by decide) (p4 c1 c2 c3 c4)
        · refine wp_aload_n (M := mX0_readWhat) (pc := 135) dX0_readWhat_135 rfl rfl ?_
          refine xs_getr (M := mX0_readWhat) (pc := 136) (r := 1) dX0_readWhat_136 fX0_21 sh20 rfl (gr20_0 sw) ?_
          refine wp_iconst (M := mX0_readWhat) (pc := 139) dX0_readWhat_139 k_iconst_1 ?_
          refine xs_callV (d := d + 1) (M := mX0_readWhat) (pc := 140) (As := [.int 1]) (st := []) (c := 8) (ls' := [.ref 1, .int 1]) dX0_readWhat_140 oX8_fails nX8_fails lX0_52 vX8_fails sX8_fails rfl sh1 (Nat.le_of_ble_eq_true rfl) rfl (Nat.le_of_ble_eq_true rfl) rfl ?_
          exact p5 c1 c2 c3 c4
      · refine wp_iload_n (M := mX0_readWhat) (pc := 90) dX0_readWhat_90 rfl rfl ?_
        refine wp_bipush (M := mX0_readWhat) (pc := 91) dX0_readWhat_91 k_bipush_63 ?_
        refine wp_icmp_eq (M := mX0_readWhat) (pc := 93) (t := 114) dX0_readWhat_93 (by decide) (fun c5 => ?_) (fun c5 => ?_)
        · refine wp_iconst (M := mX0_readWhat) (pc := 114) dX0_readWhat_114 k_iconst_1 ?_
          refine wp_goto (M := mX0_readWhat) (pc := 115) (t := 119) dX0_readWhat_115 (by decide) ?_
          refine wp_istore_n (M := mX0_readWhat) (pc := 119) (ls' := [.ref 20, .int x1, .int (tAt f (f 1 3)), .int 1]) dX0_readWhat_119 rfl (by decide) rfl ?_
          refine wp_iload_n (M := mX0_readWhat) (pc := 120) dX0_readWhat_120 rfl rfl ?_
          refine wp_if_eq (M := mX0_readWhat) (pc := 121) (t := 135) dX0_readWhat_121 (by decide) (fun c => absurd c (by decide)) (fun _ => ?_)
          refine wp_aload_n (M := mX0_readWhat) (pc := 124) dX0_readWhat_124 rfl rfl ?_
          refine xs_getr (M := mX0_readWhat) (pc := 125) (r := 21) dX0_readWhat_125 fX0_9 sh20 rfl (gr20_1 sw) ?_
          refine wp_iload_n (M := mX0_readWhat) (pc := 128) dX0_readWhat_128 rfl rfl ?_
          refine xs_iald (M := mX0_readWhat) (pc := 129) (j := x1.toNatClampNeg) dX0_readWhat_129 sh21 (p6 c1 c2 c3 c5) rfl ?_
          refine wp_bipush (M := mX0_readWhat) (pc := 130) dX0_readWhat_130 k_bipush_16 ?_
          refine wp_icmp_ne (M := mX0_readWhat) (pc := 132) (t := 144) dX0_readWhat_132 (by decide) (fun c6 => ?_) (fun c6 => ?_)
          · refine wp_aload_n (M := mX0_readWhat) (pc := 144) dX0_readWhat_144 rfl rfl ?_
            refine xs_getr (M := mX0_readWhat) (pc := 145) (r := 1) dX0_readWhat_145 fX0_21 sh20 rfl (gr20_0 sw) ?_
            refine wp_dup (M := mX0_readWhat) (pc := 148) dX0_readWhat_148 ?_
            refine xs_geti (M := mX0_readWhat) (pc := 149) dX0_readWhat_149 fX0_55 sh1 rfl ?_
            refine wp_iconst (M := mX0_readWhat) (pc := 152) dX0_readWhat_152 k_iconst_1 ?_
            refine wp_iadd (M := mX0_readWhat) (pc := 153) dX0_readWhat_153 ?_
            refine xs_puti (M := mX0_readWhat) (pc := 154) dX0_readWhat_154 pX0_55 sh1 rfl ?_
            refine wp_iconst (M := mX0_readWhat) (pc := 157) dX0_readWhat_157 k_iconst_1 ?_
            exact xs_zret (M := mX0_readWhat) (pc := 158) dX0_readWhat_158 rfl (by decide) (p7 c1 c2 c3 c5 c6)
          · refine wp_aload_n (M := mX0_readWhat) (pc := 135) dX0_readWhat_135 rfl rfl ?_
            refine xs_getr (M := mX0_readWhat) (pc := 136) (r := 1) dX0_readWhat_136 fX0_21 sh20 rfl (gr20_0 sw) ?_
            refine wp_iconst (M := mX0_readWhat) (pc := 139) dX0_readWhat_139 k_iconst_1 ?_
            refine xs_callV (d := d + 1) (M := mX0_readWhat) (pc := 140) (As := [.int 1]) (st := []) (c := 8) (ls' := [.ref 1, .int 1]) dX0_readWhat_140 oX8_fails nX8_fails lX0_52 vX8_fails sX8_fails rfl sh1 (Nat.le_of_ble_eq_true rfl) rfl (Nat.le_of_ble_eq_true rfl) rfl ?_
            exact p8 c1 c2 c3 c5 c6
        · refine wp_iload_n (M := mX0_readWhat) (pc := 96) dX0_readWhat_96 rfl rfl ?_
          refine wp_bipush (M := mX0_readWhat) (pc := 97) dX0_readWhat_97 k_bipush_42 ?_
          refine wp_icmp_eq (M := mX0_readWhat) (pc := 99) (t := 114) dX0_readWhat_99 (by decide) (fun c7 => ?_) (fun c7 => ?_)
          · refine wp_iconst (M := mX0_readWhat) (pc := 114) dX0_readWhat_114 k_iconst_1 ?_
            refine wp_goto (M := mX0_readWhat) (pc := 115) (t := 119) dX0_readWhat_115 (by decide) ?_
            refine wp_istore_n (M := mX0_readWhat) (pc := 119) (ls' := [.ref 20, .int x1, .int (tAt f (f 1 3)), .int 1]) dX0_readWhat_119 rfl (by decide) rfl ?_
            refine wp_iload_n (M := mX0_readWhat) (pc := 120) dX0_readWhat_120 rfl rfl ?_
            refine wp_if_eq (M := mX0_readWhat) (pc := 121) (t := 135) dX0_readWhat_121 (by decide) (fun c => absurd c (by decide)) (fun _ => ?_)
            refine wp_aload_n (M := mX0_readWhat) (pc := 124) dX0_readWhat_124 rfl rfl ?_
            refine xs_getr (M := mX0_readWhat) (pc := 125) (r := 21) dX0_readWhat_125 fX0_9 sh20 rfl (gr20_1 sw) ?_
            refine wp_iload_n (M := mX0_readWhat) (pc := 128) dX0_readWhat_128 rfl rfl ?_
            refine xs_iald (M := mX0_readWhat) (pc := 129) (j := x1.toNatClampNeg) dX0_readWhat_129 sh21 (p9 c1 c2 c3 c5 c7) rfl ?_
            refine wp_bipush (M := mX0_readWhat) (pc := 130) dX0_readWhat_130 k_bipush_16 ?_
            refine wp_icmp_ne (M := mX0_readWhat) (pc := 132) (t := 144) dX0_readWhat_132 (by decide) (fun c8 => ?_) (fun c8 => ?_)
            · refine wp_aload_n (M := mX0_readWhat) (pc := 144) dX0_readWhat_144 rfl rfl ?_
              refine xs_getr (M := mX0_readWhat) (pc := 145) (r := 1) dX0_readWhat_145 fX0_21 sh20 rfl (gr20_0 sw) ?_
              refine wp_dup (M := mX0_readWhat) (pc := 148) dX0_readWhat_148 ?_
              refine xs_geti (M := mX0_readWhat) (pc := 149) dX0_readWhat_149 fX0_55 sh1 rfl ?_
              refine wp_iconst (M := mX0_readWhat) (pc := 152) dX0_readWhat_152 k_iconst_1 ?_
              refine wp_iadd (M := mX0_readWhat) (pc := 153) dX0_readWhat_153 ?_
              refine xs_puti (M := mX0_readWhat) (pc := 154) dX0_readWhat_154 pX0_55 sh1 rfl ?_
              refine wp_iconst (M := mX0_readWhat) (pc := 157) dX0_readWhat_157 k_iconst_1 ?_
              exact xs_zret (M := mX0_readWhat) (pc := 158) dX0_readWhat_158 rfl (by decide) (p10 c1 c2 c3 c5 c7 c8)
            · refine wp_aload_n (M := mX0_readWhat) (pc := 135) dX0_readWhat_135 rfl rfl ?_
              refine xs_getr (M := mX0_readWhat) (pc := 136) (r := 1) dX0_readWhat_136 fX0_21 sh20 rfl (gr20_0 sw) ?_
              refine wp_iconst (M := mX0_readWhat) (pc := 139) dX0_readWhat_139 k_iconst_1 ?_
              refine xs_callV (d := d + 1) (M := mX0_readWhat) (pc := 140) (As := [.int 1]) (st := []) (c := 8) (ls' := [.ref 1, .int 1]) dX0_readWhat_140 oX8_fails nX8_fails lX0_52 vX8_fails sX8_fails rfl sh1 (Nat.le_of_ble_eq_true rfl) rfl (Nat.le_of_ble_eq_true rfl) rfl ?_
              exact p11 c1 c2 c3 c5 c7 c8
          · refine wp_iload_n (M := mX0_readWhat) (pc := 102) dX0_readWhat_102 rfl rfl ?_
            refine wp_bipush (M := mX0_readWhat) (pc := 103) dX0_readWhat_103 k_bipush_94 ?_
            refine wp_icmp_eq (M := mX0_readWhat) (pc := 105) (t := 114) dX0_readWhat_105 (by decide) (fun c9 => ?_) (fun c9 => ?_)
            · refine wp_iconst (M := mX0_readWhat) (pc := 114) dX0_readWhat_114 k_iconst_1 ?_
              refine wp_goto (M := mX0_readWhat) (pc := 115) (t := 119) dX0_readWhat_115 (by decide) ?_
              refine wp_istore_n (M := mX0_readWhat) (pc := 119) (ls' := [.ref 20, .int x1, .int (tAt f (f 1 3)), .int 1]) dX0_readWhat_119 rfl (by decide) rfl ?_
              refine wp_iload_n (M := mX0_readWhat) (pc := 120) dX0_readWhat_120 rfl rfl ?_
              refine wp_if_eq (M := mX0_readWhat) (pc := 121) (t := 135) dX0_readWhat_121 (by decide) (fun c => absurd c (by decide)) (fun _ => ?_)
              refine wp_aload_n (M := mX0_readWhat) (pc := 124) dX0_readWhat_124 rfl rfl ?_
              refine xs_getr (M := mX0_readWhat) (pc := 125) (r := 21) dX0_readWhat_125 fX0_9 sh20 rfl (gr20_1 sw) ?_
              refine wp_iload_n (M := mX0_readWhat) (pc := 128) dX0_readWhat_128 rfl rfl ?_
              refine xs_iald (M := mX0_readWhat) (pc := 129) (j := x1.toNatClampNeg) dX0_readWhat_129 sh21 (p12 c1 c2 c3 c5 c7 c9) rfl ?_
              refine wp_bipush (M := mX0_readWhat) (pc := 130) dX0_readWhat_130 k_bipush_16 ?_
              refine wp_icmp_ne (M := mX0_readWhat) (pc := 132) (t := 144) dX0_readWhat_132 (by decide) (fun c10 => ?_) (fun c10 => ?_)
              · refine wp_aload_n (M := mX0_readWhat) (pc := 144) dX0_readWhat_144 rfl rfl ?_
                refine xs_getr (M := mX0_readWhat) (pc := 145) (r := 1) dX0_readWhat_145 fX0_21 sh20 rfl (gr20_0 sw) ?_
                refine wp_dup (M := mX0_readWhat) (pc := 148) dX0_readWhat_148 ?_
                refine xs_geti (M := mX0_readWhat) (pc := 149) dX0_readWhat_149 fX0_55 sh1 rfl ?_
                refine wp_iconst (M := mX0_readWhat) (pc := 152) dX0_readWhat_152 k_iconst_1 ?_
                refine wp_iadd (M := mX0_readWhat) (pc := 153) dX0_readWhat_153 ?_
                refine xs_puti (M := mX0_readWhat) (pc := 154) dX0_readWhat_154 pX0_55 sh1 rfl ?_
                refine wp_iconst (M := mX0_readWhat) (pc := 157) dX0_readWhat_157 k_iconst_1 ?_
                exact xs_zret (M := mX0_readWhat) (pc := 158) dX0_readWhat_158 rfl (by decide) (p13 c1 c2 c3 c5 c7 c9 c10)
              · refine wp_aload_n (M := mX0_readWhat) (pc := 135) dX0_readWhat_135 rfl rfl ?_
                refine xs_getr (M := mX0_readWhat) (pc := 136) (r := 1) dX0_readWhat_136 fX0_21 sh20 rfl (gr20_0 sw) ?_
                refine wp_iconst (M := mX0_readWhat) (pc := 139) dX0_readWhat_139 k_iconst_1 ?_
                refine xs_callV (d := d + 1) (M := mX0_readWhat) (pc := 140) (As := [.int 1]) (st := []) (c := 8) (ls' := [.ref 1, .int 1]) dX0_readWhat_140 oX8_fails nX8_fails lX0_52 vX8_fails sX8_fails rfl sh1 (Nat.le_of_ble_eq_true rfl) rfl (Nat.le_of_ble_eq_true rfl) rfl ?_
                exact p14 c1 c2 c3 c5 c7 c9 c10
            · refine wp_iload_n (M := mX0_readWhat) (pc := 108) dX0_readWhat_108 rfl rfl ?_
              refine wp_bipush (M := mX0_readWhat) (pc := 109) dX0_readWhat_109 k_bipush_95 ?_
              refine wp_icmp_ne (M := mX0_readWhat) (pc := 111) (t := 118) dX0_readWhat_111 (by decide) (fun c11 => ?_) (fun c11 => ?_)
              · refine wp_iconst (M := mX0_readWhat) (pc := 118) dX0_readWhat_118 k_iconst_0 ?_
                refine wp_istore_n (M := mX0_readWhat) (pc := 119) (ls' := [.ref 20, .int x1, .int (tAt f (f 1 3)), .int 0]) dX0_readWhat_119 rfl (by decide) rfl ?_
                refine wp_iload_n (M := mX0_readWhat) (pc := 120) dX0_readWhat_120 rfl rfl ?_
                refine wp_if_eq (M := mX0_readWhat) (pc := 121) (t := 135) dX0_readWhat_121 (by decide) (fun _ => ?_) (fun c => absurd c (by decide))
                refine wp_aload_n (M := mX0_readWhat) (pc := 135) dX0_readWhat_135 rfl rfl ?_
                refine xs_getr (M := mX0_readWhat) (pc := 136) (r := 1) dX0_readWhat_136 fX0_21 sh20 rfl (gr20_0 sw) ?_
                refine wp_iconst (M := mX0_readWhat) (pc := 139) dX0_readWhat_139 k_iconst_1 ?_
                refine xs_callV (d := d + 1) (M := mX0_readWhat) (pc := 140) (As := [.int 1]) (st := []) (c := 8) (ls' := [.ref 1, .int 1]) dX0_readWhat_140 oX8_fails nX8_fails lX0_52 vX8_fails sX8_fails rfl sh1 (Nat.le_of_ble_eq_true rfl) rfl (Nat.le_of_ble_eq_true rfl) rfl ?_
                exact p15 c1 c2 c3 c5 c7 c9 c11
              · refine wp_iconst (M := mX0_readWhat) (pc := 114) dX0_readWhat_114 k_iconst_1 ?_
                refine wp_goto (M := mX0_readWhat) (pc := 115) (t := 119) dX0_readWhat_115 (by decide) ?_
                refine wp_istore_n (M := mX0_readWhat) (pc := 119) (ls' := [.ref 20, .int x1, .int (tAt f (f 1 3)), .int 1]) dX0_readWhat_119 rfl (by decide) rfl ?_
                refine wp_iload_n (M := mX0_readWhat) (pc := 120) dX0_readWhat_120 rfl rfl ?_
                refine wp_if_eq (M := mX0_readWhat) (pc := 121) (t := 135) dX0_readWhat_121 (by decide) (fun c => absurd c (by decide)) (fun _ => ?_)
                refine wp_aload_n (M := mX0_readWhat) (pc := 124) dX0_readWhat_124 rfl rfl ?_
                refine xs_getr (M := mX0_readWhat) (pc := 125) (r := 21) dX0_readWhat_125 fX0_9 sh20 rfl (gr20_1 sw) ?_
                refine wp_iload_n (M := mX0_readWhat) (pc := 128) dX0_readWhat_128 rfl rfl ?_
                refine xs_iald (M := mX0_readWhat) (pc := 129) (j := x1.toNatClampNeg) dX0_readWhat_129 sh21 (p16 c1 c2 c3 c5 c7 c9 c11) rfl ?_
                refine wp_bipush (M := mX0_readWhat) (pc := 130) dX0_readWhat_130 k_bipush_16 ?_
                refine wp_icmp_ne (M := mX0_readWhat) (pc := 132) (t := 144) dX0_readWhat_132 (by decide) (fun c12 => ?_) (fun c12 => ?_)
                · refine wp_aload_n (M := mX0_readWhat) (pc := 144) dX0_readWhat_144 rfl rfl ?_
                  refine xs_getr (M := mX0_readWhat) (pc := 145) (r := 1) dX0_readWhat_145 fX0_21 sh20 rfl (gr20_0 sw) ?_
                  refine wp_dup (M := mX0_readWhat) (pc := 148) dX0_readWhat_148 ?_
                  refine xs_geti (M := mX0_readWhat) (pc := 149) dX0_readWhat_149 fX0_55 sh1 rfl ?_
                  refine wp_iconst (M := mX0_readWhat) (pc := 152) dX0_readWhat_152 k_iconst_1 ?_
                  refine wp_iadd (M := mX0_readWhat) (pc := 153) dX0_readWhat_153 ?_
                  refine xs_puti (M := mX0_readWhat) (pc := 154) dX0_readWhat_154 pX0_55 sh1 rfl ?_
                  refine wp_iconst (M := mX0_readWhat) (pc := 157) dX0_readWhat_157 k_iconst_1 ?_
                  exact xs_zret (M := mX0_readWhat) (pc := 158) dX0_readWhat_158 rfl (by decide) (p17 c1 c2 c3 c5 c7 c9 c11 c12)
                · refine wp_aload_n (M := mX0_readWhat) (pc := 135) dX0_readWhat_135 rfl rfl ?_
                  refine xs_getr (M := mX0_readWhat) (pc := 136) (r := 1) dX0_readWhat_136 fX0_21 sh20 rfl (gr20_0 sw) ?_
                  refine wp_iconst (M := mX0_readWhat) (pc := 139) dX0_readWhat_139 k_iconst_1 ?_
                  refine xs_callV (d := d + 1) (M := mX0_readWhat) (pc := 140) (As := [.int 1]) (st := []) (c := 8) (ls' := [.ref 1, .int 1]) dX0_readWhat_140 oX8_fails nX8_fails lX0_52 vX8_fails sX8_fails rfl sh1 (Nat.le_of_ble_eq_true rfl) rfl (Nat.le_of_ble_eq_true rfl) rfl ?_
                  exact p18 c1 c2 c3 c5 c7 c9 c11 c12
    · refine wp_aload_n (M := mX0_readWhat) (pc := 27) dX0_readWhat_27 rfl rfl ?_
      refine xs_getr (M := mX0_readWhat) (pc := 28) (r := 1) dX0_readWhat_28 fX0_21 sh20 rfl (gr20_0 sw) ?_
      refine wp_dup (M := mX0_readWhat) (pc := 31) dX0_readWhat_31 ?_
      refine xs_geti (M := mX0_readWhat) (pc := 32) dX0_readWhat_32 fX0_55 sh1 rfl ?_
      refine wp_iconst (M := mX0_readWhat) (pc := 35) dX0_readWhat_35 k_iconst_1 ?_
      refine wp_iadd (M := mX0_readWhat) (pc := 36) dX0_readWhat_36 ?_
      refine xs_puti (M := mX0_readWhat) (pc := 37) dX0_readWhat_37 pX0_55 sh1 rfl ?_
      refine wp_aload_n (M := mX0_readWhat) (pc := 40) dX0_readWhat_40 rfl rfl ?_
      refine xs_getr (M := mX0_readWhat) (pc := 41) (r := 1) dX0_readWhat_41 fX0_21 sh20 rfl (gr20_0 sw) ?_
      refine xs_callV (d := d + 1) (M := mX0_readWhat) (pc := 44) (As := []) (st := []) (c := 8) (ls' := [.ref 1, .null]) dX0_readWhat_44 oX8_readNumber nX8_readNumber lX0_58 vX8_readNumber sX8_readNumber rfl sh1 (Nat.le_of_ble_eq_true rfl) rfl (Nat.le_of_ble_eq_true rfl) rfl ?_
      exact p19 c1 c2
theorem bX0_readWhat_47 {G : GC} {d : Nat} {sw : Bool} {f : FF} {Q : QQ} {x1 : Int32} {x2 : Int32} {v3 : Value} {s0 : Int32} (p1 : (¬ s0 = 0) → (¬ x2 = 43) → vp_in x1 20) (p2 : (¬ s0 = 0) → (¬ x2 = 43) → Q (some (.int 1)) sw (upd2 f 23 x1.toNatClampNeg (-(f 1 4)))) (p3 : (¬ s0 = 0) → (x2 = 43) → vp_in x1 20) (p4 : (¬ s0 = 0) → (x2 = 43) → Q (some (.int 1)) sw (upd2 f 23 x1.toNatClampNeg (f 1 4))) (p5 : (s0 = 0) → Q (some (.int 0)) sw f) : XP G mX0_readWhat (d + 2) 47 [.ref 20, .int x1, .int x2, v3] [.int s0] sw f Q := by
  refine wp_if_ne (M := mX0_readWhat) (pc := 47) (t := 52) dX0_readWhat_47 (by decide) (fun c1 => ?_) (fun c1 => ?_)
  · refine wp_aload_n (M := mX0_readWhat) (pc := 52) dX0_readWhat_52 rfl rfl ?_
    refine xs_getr (M := mX0_readWhat) (pc := 53) (r := 23) dX0_readWhat_53 fX0_18 sh20 rfl (gr20_3 sw) ?_
    refine wp_iload_n (M := mX0_readWhat) (pc := 56) dX0_readWhat_56 rfl rfl ?_
    refine wp_iload_n (M := mX0_readWhat) (pc := 57) dX0_readWhat_57 rfl rfl ?_
    refine wp_bipush (M := mX0_readWhat) (pc := 58) dX0_readWhat_58 k_bipush_43 ?_
    refine wp_icmp_ne (M := mX0_readWhat) (pc := 60) (t := 73) dX0_readWhat_60 (by decide) (fun c2 => ?_) (fun c2 => ?_)
    · refine wp_aload_n (M := mX0_readWhat) (pc := 73) dX0_readWhat_73 rfl rfl ?_
      refine xs_getr (M := mX0_readWhat) (pc := 74) (r := 1) dX0_readWhat_74 fX0_21 sh20 rfl (gr20_0 sw) ?_
      refine xs_geti (M := mX0_readWhat) (pc := 77) dX0_readWhat_77 fX0_62 sh1 rfl ?_
      refine wp_ineg (M := mX0_readWhat) (pc := 80) dX0_readWhat_80 ?_
      refine xs_iast (M := mX0_readWhat) (pc := 81) (j := x1.toNatClampNeg) dX0_readWhat_81 sh23 (p1 c1 c2) rfl ?_
      refine wp_iconst (M := mX0_readWhat) (pc := 82) dX0_readWhat_82 k_iconst_1 ?_
      exact xs_zret (M := mX0_readWhat) (pc := 83) dX0_readWhat_83 rfl (by decide) (p2 c1 c2)
    · refine wp_aload_n (M := mX0_readWhat) (pc := 63) dX0_readWhat_63 rfl rfl ?_
      refine xs_getr (M := mX0_readWhat) (pc := 64) (r := 1) dX0_readWhat_64 fX0_21 sh20 rfl (gr20_0 sw) ?_
      refine xs_geti (M := mX0_readWhat) (pc := 67) dX0_readWhat_67 fX0_62 sh1 rfl ?_
      refine wp_goto (M := mX0_readWhat) (pc := 70) (t := 81) dX0_readWhat_70 (by decide) ?_
      refine xs_iast (M := mX0_readWhat) (pc := 81) (j := x1.toNatClampNeg) dX0_readWhat_81 sh23 (p3 c1 c2) rfl ?_
      refine wp_iconst (M := mX0_readWhat) (pc := 82) dX0_readWhat_82 k_iconst_1 ?_
      exact xs_zret (M := mX0_readWhat) (pc := 83) dX0_readWhat_83 rfl (by decide) (p4 c1 c2)
  · refine wp_iconst (M := mX0_readWhat) (pc := 50) dX0_readWhat_50 k_iconst_0 ?_
    exact xs_zret (M := mX0_readWhat) (pc := 51) dX0_readWhat_51 rfl (by decide) (p5 c1)
theorem bX0_readWhat_143 {G : GC} {d : Nat} {sw : Bool} {f : FF} {Q : QQ} {x1 : Int32} {x2 : Int32} {x3 : Int32} {s0 : Int32} (p1 : s0 = 0 ∨ s0 = 1) (p2 : Q (some (.int s0)) sw f) : XP G mX0_readWhat (d + 2) 143 [.ref 20, .int x1, .int x2, .int x3] [.int s0] sw f Q := by
  exact xs_zret (M := mX0_readWhat) (pc := 143) dX0_readWhat_143 rfl (p1) (p2)
theorem bX0_settle_0 {G : GC} {d : Nat} {sw : Bool} {f : FF} {Q : QQ} {w : Nat} (hw : isW w) (p1 : XP G mX0_settle (d + 5) 2 [.ref 20, .ref w, .int 0] [] sw f Q) : XP G mX0_settle (d + 5) 0 [.ref 20, .ref w, .null] [] sw f Q := by
  refine wp_iconst (M := mX0_settle) (pc := 0) dX0_settle_0 k_iconst_0 ?_
  refine wp_istore_n (M := mX0_settle) (pc := 1) (ls' := [.ref 20, .ref w, .int 0]) dX0_settle_1 rfl (by decide) rfl ?_
  exact p1
theorem bX0_settle_2 {G : GC} {d : Nat} {sw : Bool} {f : FF} {Q : QQ} {w : Nat} (hw : isW w) {x2 : Int32} (p1 : ((f 20 4) ≤ x2) → Q none sw f) (p2 : (¬ (f 20 4) ≤ x2) → (20 ≤ x2) → Q none sw f) (p3 : (¬ (f 20 4) ≤ x2) → (¬ 20 ≤ x2) → vp_in x2 20) (p4 : (¬ (f 20 4) ≤ x2) → (¬ 20 ≤ x2) → (¬ (f 21 x2.toNatClampNeg) = 16) → vp_in x2 20) (p5 : (¬ (f 20 4) ≤ x2) → (¬ 20 ≤ x2) → (¬ (f 21 x2.toNatClampNeg) = 16) → XP G mX0_settleLine (d + 4) 0 [.ref 20, .ref w, .int x2, .int (f 21 x2.toNatClampNeg)] [] sw f (fun v sw' f' => XP G mX0_settle (d + 5) 52 [.ref 20, .ref w, .int x2] (retst v []) sw' f' Q)) (p6 : (¬ (f 20 4) ≤ x2) → (¬ 20 ≤ x2) → ((f 21 x2.toNatClampNeg) = 16) → vp_in x2 20) (p7 : (¬ (f 20 4) ≤ x2) → (¬ 20 ≤ x2) → ((f 21 x2.toNatClampNeg) = 16) → XP G mX9_addFund (d + 4) 0 [.ref w, .int (f 23 x2.toNatClampNeg)] [] sw f (fun v sw' f' => XP G mX0_settle (d + 5) 37 [.ref 20, .ref w, .int x2] (retst v []) sw' f' Q)) : XP G mX0_settle (d + 5) 2 [.ref 20, .ref w, .int x2] [] sw f Q := by
  refine wp_iload_n (M := mX0_settle) (pc := 2) dX0_settle_2 rfl rfl ?_
  refine wp_aload_n (M := mX0_settle) (pc := 3) dX0_settle_3 rfl rfl ?_
  refine xs_geti (M := mX0_settle) (pc := 4) dX0_settle_4 fX0_39 sh20 rfl ?_
  refine wp_icmp_ge (M := mX0_settle) (pc := 7) (t := 58) dX0_settle_7 (by decide) (fun c1 => ?_) (fun c1 => ?_)
  · exact xs_ret (M := mX0_settle) (pc := 58) dX0_settle_58 rfl (p1 c1)
  · refine wp_iload_n (M := mX0_settle) (pc := 10) dX0_settle_10 rfl rfl ?_
    refine wp_bipush (M := mX0_settle) (pc := 11) dX0_settle_11 k_bipush_20 ?_
    refine wp_icmp_ge (M := mX0_settle) (pc := 13) (t := 58) dX0_settle_13 (by decide) (fun c2 => ?_) (fun c2 => ?_)
    · exact xs_ret (M := mX0_settle) (pc := 58) dX0_settle_58 rfl (p2 c1 c2)
    · refine wp_aload_n (M := mX0_settle) (pc := 16) dX0_settle_16 rfl rfl ?_
      refine xs_getr (M := mX0_settle) (pc := 17) (r := 21) dX0_settle_17 fX0_9 sh20 rfl (gr20_1 sw) ?_
      refine wp_iload_n (M := mX0_settle) (pc := 20) dX0_settle_20 rfl rfl ?_
      refine xs_iald (M := mX0_settle) (pc := 21) (j := x2.toNatClampNeg) dX0_settle_21 sh21 (p3 c1 c2) rfl ?_
      refine wp_bipush (M := mX0_settle) (pc := 22) dX0_settle_22 k_bipush_16 ?_
      refine wp_icmp_ne (M := mX0_settle) (pc := 24) (t := 40) dX0_settle_24 (by decide) (fun c3 => ?_) (fun c3 => ?_)
      · refine wp_aload_n (M := mX0_settle) (pc := 40) dX0_settle_40 rfl rfl ?_
        refine wp_aload_n (M := mX0_settle) (pc := 41) dX0_settle_41 rfl rfl ?_
        refine wp_iload_n (M := mX0_settle) (pc := 42) dX0_settle_42 rfl rfl ?_
        refine wp_aload_n (M := mX0_settle) (pc := 43) dX0_settle_43 rfl rfl ?_
        refine xs_getr (M := mX0_settle) (pc := 44) (r := 21) dX0_settle_44 fX0_9 sh20 rfl (gr20_1 sw) ?_
        refine wp_iload_n (M := mX0_settle) (pc := 47) dX0_settle_47 rfl rfl ?_
        refine xs_iald (M := mX0_settle) (pc := 48) (j := x2.toNatClampNeg) dX0_settle_48 sh21 (p4 c1 c2 c3) rfl ?_
        refine xs_callV (d := d + 4) (M := mX0_settle) (pc := 49) (As := [.ref w, .int x2, .int (f 21 x2.toNatClampNeg)]) (st := []) (c := 0) (ls' := [.ref 20, .ref w, .int x2, .int (f 21 x2.toNatClampNeg)]) dX0_settle_49 oX0_settleLine nX0_settleLine lX0_71 vX0_settleLine sX0_settleLine rfl sh20 (Nat.le_of_ble_eq_true rfl) rfl (Nat.le_of_ble_eq_true rfl) rfl ?_
        exact p5 c1 c2 c3
      · refine wp_aload_n (M := mX0_settle) (pc := 27) dX0_settle_27 rfl rfl ?_
        refine wp_aload_n (M := mX0_settle) (pc := 28) dX0_settle_28 rfl rfl ?_
        refine xs_getr (M := mX0_settle) (pc := 29) (r := 23) dX0_settle_29 fX0_18 sh20 rfl (gr20_3 sw) ?_
        refine wp_iload_n (M := mX0_settle) (pc := 32) dX0_settle_32 rfl rfl ?_
        refine xs_iald (M := mX0_settle) (pc := 33) (j := x2.toNatClampNeg) dX0_settle_33 sh23 (p6 c1 c2 c3) rfl ?_
        refine xs_callV (d := d + 4) (M := mX0_settle) (pc := 34) (As := [.int (f 23 x2.toNatClampNeg)]) (st := []) (c := 9) (ls' := [.ref w, .int (f 23 x2.toNatClampNeg)]) dX0_settle_34 oX9_addFund nX9_addFund lX0_65 vX9_addFund sX9_addFund rfl (shW hw) (Nat.le_of_ble_eq_true rfl) rfl (Nat.le_of_ble_eq_true rfl) rfl ?_
        exact p7 c1 c2 c3
theorem bX0_settle_37 {G : GC} {d : Nat} {sw : Bool} {f : FF} {Q : QQ} {w : Nat} (hw : isW w) {x2 : Int32} (p1 : XP G mX0_settle (d + 5) 2 [.ref 20, .ref w, .int (x2 + 1)] [] sw f Q) : XP G mX0_settle (d + 5) 37 [.ref 20, .ref w, .int x2] [] sw f Q := by
  refine wp_goto (M := mX0_settle) (pc := 37) (t := 52) dX0_settle_37 (by decide) ?_
  refine wp_iinc (M := mX0_settle) (pc := 52) (v := x2 + 1) (ls' := [.ref 20, .ref w, .int (x2 + 1)]) dX0_settle_52 rfl (congrArg (fun z => _ + z) k_iconst_1) (by decide) rfl ?_
  refine wp_goto (M := mX0_settle) (pc := 55) (t := 2) dX0_settle_55 (by decide) ?_
  exact p1
theorem bX0_settle_52 {G : GC} {d : Nat} {sw : Bool} {f : FF} {Q : QQ} {w : Nat} (hw : isW w) {x2 : Int32} (p1 : XP G mX0_settle (d + 5) 2 [.ref 20, .ref w, .int (x2 + 1)] [] sw f Q) : XP G mX0_settle (d + 5) 52 [.ref 20, .ref w, .int x2] [] sw f Q := by
  refine wp_iinc (M := mX0_settle) (pc := 52) (v := x2 + 1) (ls' := [.ref 20, .ref w, .int (x2 + 1)]) dX0_settle_52 rfl (congrArg (fun z => _ + z) k_iconst_1) (by decide) rfl ?_
  refine wp_goto (M := mX0_settle) (pc := 55) (t := 2) dX0_settle_55 (by decide) ?_
  exact p1
theorem bX9_addFund_0 {G : GC} {d : Nat} {sw : Bool} {f : FF} {Q : QQ} {w : Nat} (hw : isW w) {x1 : Int32} (p1 : Q none sw (upd2 f w 5 (bnd ((f w 5) + x1) 999999))) : XP G mX9_addFund (d + 1) 0 [.ref w, .int x1] [] sw f Q := by
  refine wp_aload_n (M := mX9_addFund) (pc := 0) dX9_addFund_0 rfl rfl ?_
  refine wp_aload_n (M := mX9_addFund) (pc := 1) dX9_addFund_1 rfl rfl ?_
  refine xs_geti (M := mX9_addFund) (pc := 2) dX9_addFund_2 fX9_67 (shW hw) rfl ?_
  refine wp_iload_n (M := mX9_addFund) (pc := 5) dX9_addFund_5 rfl rfl ?_
  refine wp_iadd (M := mX9_addFund) (pc := 6) dX9_addFund_6 ?_
  refine wp_ldc (M := mX9_addFund) (pc := 7) dX9_addFund_7 kX9_97 ?_
  refine xs_callSN (d := d) (M := mX9_addFund) (pc := 9) (As := [.int ((f w 5) + x1), .int 999999]) (st := [.ref w]) (ls' := [.int ((f w 5) + x1), .int 999999]) dX9_addFund_9 oX10_bounded nX10_bounded hX9_98 tX10_bounded (Nat.le_of_ble_eq_true rfl) rfl (Nat.le_of_ble_eq_true rfl) rfl ?_
  refine sp_X10_bounded   ?_
  refine xs_puti (M := mX9_addFund) (pc := 12) dX9_addFund_12 pX9_67 (shW hw) rfl ?_
  exact xs_ret (M := mX9_addFund) (pc := 15) dX9_addFund_15 rfl (p1)
theorem bX0_settleLine_0 {G : GC} {d : Nat} {sw : Bool} {f : FF} {Q : QQ} {w : Nat} (hw : isW w) {x2 : Int32} {x3 : Int32} (p1 : vp_in x2 20) (p2 : ((f 22 x2.toNatClampNeg) = 33) → XP G mX9_cutOffNow (d + 3) 0 [.ref w, .int x3] [] sw f (fun v sw' f' => XP G mX0_settleLine (d + 4) 61 [.ref 20, .ref w, .int x2, .int x3] (retst v []) sw' f' Q)) (p3 : ((f 22 x2.toNatClampNeg) = 42) → Q none sw (upd2 f w 1 ((f w 1) ||| ((1 : Int32) <<< (x3 &&& 31))))) (p4 : ((f 22 x2.toNatClampNeg) = 63) → Q none sw (upd2 f w 2 ((f w 2) &&& (((1 : Int32) <<< (x3 &&& 31)) ^^^ (-1))))) (p5 : ((f 22 x2.toNatClampNeg) = 94) → Q none sw (upd2 f w 3 ((f w 3) ||| ((1 : Int32) <<< (x3 &&& 31))))) (p6 : ((f 22 x2.toNatClampNeg) = 95) → Q none sw (upd2 f w 3 ((f w 3) &&& (((1 : Int32) <<< (x3 &&& 31)) ^^^ (-1))))) (p7 : (¬ (f 22 x2.toNatClampNeg) = 33) → (¬ (f 22 x2.toNatClampNeg) = 42) → (¬ (f 22 x2.toNatClampNeg) = 63) → (¬ (f 22 x2.toNatClampNeg) = 94) → (¬ (f 22 x2.toNatClampNeg) = 95) → vp_in x2 20) (p8 : (¬ (f 22 x2.toNatClampNeg) = 33) → (¬ (f 22 x2.toNatClampNeg) = 42) → (¬ (f 22 x2.toNatClampNeg) = 63) → (¬ (f 22 x2.toNatClampNeg) = 94) → (¬ (f 22 x2.toNatClampNeg) = 95) → XP G mX9_addArrears (d + 3) 0 [.ref w, .int x3, .int (f 23 x2.toNatClampNeg)] [] sw f (fun v sw' f' => XP G mX0_settleLine (d + 4) 139 [.ref 20, .ref w, .int x2, .int x3] (retst v []) sw' f' Q)) : XP G mX0_settleLine (d + 4) 0 [.ref 20, .ref w, .int x2, .int x3] [] sw f Q := by
  refine wp_aload_n (M := mX0_settleLine) (pc := 0) dX0_settleLine_0 rfl rfl ?_
  refine xs_getr (M := mX0_settleLine) (pc := 1) (r := 22) dX0_settleLine_1 fX0_15 sh20 rfl (gr20_2 sw) ?_
  refine wp_iload_n (M := mX0_settleLine) (pc := 4) dX0_settleLine_4 rfl rfl ?_
  refine xs_iald (M := mX0_settleLine) (pc := 5) (j := x2.toNatClampNeg) dX0_settleLine_5 sh22 (p1) rfl ?_
  by_cases c1 : (f 22 x2.toNatClampNeg) = 33
  · refine wp_lookup (M := mX0_settleLine) (pc := 6) (t := 56) (off := 50) dX0_settleLine_6 (by decide) (by rw [c1] <;> rfl) (by decide) ?_
    refine wp_aload_n (M := mX0_settleLine) (pc := 56) dX0_settleLine_56 rfl rfl ?_
    refine wp_iload_n (M := mX0_settleLine) (pc := 57) dX0_settleLine_57 rfl rfl ?_
    refine xs_callV (d := d + 3) (M := mX0_settleLine) (pc := 58) (As := [.int x3]) (st := []) (c := 9) (ls' := [.ref w, .int x3]) dX0_settleLine_58 oX9_cutOffNow nX9_cutOffNow lX0_75 vX9_cutOffNow sX9_cutOffNow rfl (shW hw) (Nat.le_of_ble_eq_true rfl) rfl (Nat.le_of_ble_eq_true rfl) rfl ?_
    exact p2 c1
  by_cases c2 : (f 22 x2.toNatClampNeg) = 42
  · refine wp_lookup (M := mX0_settleLine) (pc := 6) (t := 81) (off := 75) dX0_settleLine_6 (by decide) (by rw [c2] <;> rfl) (by decide) ?_
    refine wp_aload_n (M := mX0_settleLine) (pc := 81) dX0_settleLine_81 rfl rfl ?_
    refine wp_dup (M := mX0_settleLine) (pc := 82) dX0_settleLine_82 ?_
    refine xs_geti (M := mX0_settleLine) (pc := 83) dX0_settleLine_83 fX0_81 (shW hw) rfl ?_
    refine wp_iconst (M := mX0_settleLine) (pc := 86) dX0_settleLine_86 k_iconst_1 ?_
    refine wp_iload_n (M := mX0_settleLine) (pc := 87) dX0_settleLine_87 rfl rfl ?_
    refine wp_ishl (M := mX0_settleLine) (pc := 88) dX0_settleLine_88 ?_
    refine wp_ior (M := mX0_settleLine) (pc := 89) dX0_settleLine_89 ?_
    refine xs_puti (M := mX0_settleLine) (pc := 90) dX0_settleLine_90 pX0_81 (shW hw) rfl ?_
    refine wp_goto (M := mX0_settleLine) (pc := 93) (t := 139) dX0_settleLine_93 (by decide) ?_
    exact xs_ret (M := mX0_settleLine) (pc := 139) dX0_settleLine_139 rfl (p3 c2)
  by_cases c3 : (f 22 x2.toNatClampNeg) = 63
  · refine wp_lookup (M := mX0_settleLine) (pc := 6) (t := 64) (off := 58) dX0_settleLine_6 (by decide) (by rw [c3] <;> rfl) (by decide) ?_
    refine wp_aload_n (M := mX0_settleLine) (pc := 64) dX0_settleLine_64 rfl rfl ?_
    refine wp_dup (M := mX0_settleLine) (pc := 65) dX0_settleLine_65 ?_
    refine xs_geti (M := mX0_settleLine) (pc := 66) dX0_settleLine_66 fX0_78 (shW hw) rfl ?_
    refine wp_iconst (M := mX0_settleLine) (pc := 69) dX0_settleLine_69 k_iconst_1 ?_
    refine wp_iload_n (M := mX0_settleLine) (pc := 70) dX0_settleLine_70 rfl rfl ?_
    refine wp_ishl (M := mX0_settleLine) (pc := 71) dX0_settleLine_71 ?_
    refine wp_iconst (M := mX0_settleLine) (pc := 72) dX0_settleLine_72 k_iconst_m1 ?_
    refine wp_ixor (M := mX0_settleLine) (pc := 73) dX0_settleLine_73 ?_
    refine wp_iand (M := mX0_settleLine) (pc := 74) dX0_settleLine_74 ?_
    refine xs_puti (M := mX0_settleLine) (pc := 75) dX0_settleLine_75 pX0_78 (shW hw) rfl ?_
    refine wp_goto (M := mX0_settleLine) (pc := 78) (t := 139) dX0_settleLine_78 (by decide) ?_
    exact xs_ret (M := mX0_settleLine) (pc := 139) dX0_settleLine_139 rfl (p4 c3)
  by_cases c4 : (f 22 x2.toNatClampNeg) = 94
  · refine wp_lookup (M := mX0_settleLine) (pc := 6) (t := 96) (off := 90) dX0_settleLine_6 (by decide) (by rw [c4] <;> rfl) (by decide) ?_
    refine wp_aload_n (M := mX0_settleLine) (pc := 96) dX0_settleLine_96 rfl rfl ?_
    refine wp_dup (M := mX0_settleLine) (pc := 97) dX0_settleLine_97 ?_
    refine xs_geti (M := mX0_settleLine) (pc := 98) dX0_settleLine_98 fX0_84 (shW hw) rfl ?_
    refine wp_iconst (M := mX0_settleLine) (pc := 101) dX0_settleLine_101 k_iconst_1 ?_
    refine wp_iload_n (M := mX0_settleLine) (pc := 102) dX0_settleLine_102 rfl rfl ?_
    refine wp_ishl (M := mX0_settleLine) (pc := 103) dX0_settleLine_103 ?_
    refine wp_ior (M := mX0_settleLine) (pc := 104) dX0_settleLine_104 ?_
    refine xs_puti (M := mX0_settleLine) (pc := 105) dX0_settleLine_105 pX0_84 (shW hw) rfl ?_
    refine wp_goto (M := mX0_settleLine) (pc := 108) (t := 139) dX0_settleLine_108 (by decide) ?_
    exact xs_ret (M := mX0_settleLine) (pc := 139) dX0_settleLine_139 rfl (p5 c4)
  by_cases c5 : (f 22 x2.toNatClampNeg) = 95
  · refine wp_lookup (M := mX0_settleLine) (pc := 6) (t := 111) (off := 105) dX0_settleLine_6 (by decide) (by rw [c5] <;> rfl) (by decide) ?_
    refine wp_aload_n (M := mX0_settleLine) (pc := 111) dX0_settleLine_111 rfl rfl ?_
    refine wp_dup (M := mX0_settleLine) (pc := 112) dX0_settleLine_112 ?_
    refine xs_geti (M := mX0_settleLine) (pc := 113) dX0_settleLine_113 fX0_84 (shW hw) rfl ?_
    refine wp_iconst (M := mX0_settleLine) (pc := 116) dX0_settleLine_116 k_iconst_1 ?_
    refine wp_iload_n (M := mX0_settleLine) (pc := 117) dX0_settleLine_117 rfl rfl ?_
    refine wp_ishl (M := mX0_settleLine) (pc := 118) dX0_settleLine_118 ?_
    refine wp_iconst (M := mX0_settleLine) (pc := 119) dX0_settleLine_119 k_iconst_m1 ?_
    refine wp_ixor (M := mX0_settleLine) (pc := 120) dX0_settleLine_120 ?_
    refine wp_iand (M := mX0_settleLine) (pc := 121) dX0_settleLine_121 ?_
    refine xs_puti (M := mX0_settleLine) (pc := 122) dX0_settleLine_122 pX0_84 (shW hw) rfl ?_
    refine wp_goto (M := mX0_settleLine) (pc := 125) (t := 139) dX0_settleLine_125 (by decide) ?_
    exact xs_ret (M := mX0_settleLine) (pc := 139) dX0_settleLine_139 rfl (p6 c5)
  refine wp_lookup (M := mX0_settleLine) (pc := 6) (t := 128) (off := 122) dX0_settleLine_6 (by decide) ((lv_osw c1 rfl).trans ((lv_osw c2 rfl).trans ((lv_osw c3 rfl).trans ((lv_osw c4 rfl).trans ((lv_osw c5 rfl).trans rfl))))) (by decide) ?_
  refine wp_aload_n (M := mX0_settleLine) (pc := 128) dX0_settleLine_128 rfl rfl ?_
  refine wp_iload_n (M := mX0_settleLine) (pc := 129) dX0_settleLine_129 rfl rfl ?_
  refine wp_aload_n (M := mX0_settleLine) (pc := 130) dX0_settleLine_130 rfl rfl ?_
  refine xs_getr (M := mX0_settleLine) (pc := 131) (r := 23) dX0_settleLine_131 fX0_18 sh20 rfl (gr20_3 sw) ?_
  refine wp_iload_n (M := mX0_settleLine) (pc := 134) dX0_settleLine_134 rfl rfl ?_
  refine xs_iald (M := mX0_settleLine) (pc := 135) (j := x2.toNatClampNeg) dX0_settleLine_135 sh23 (p7 c1 c2 c3 c4 c5) rfl ?_
  refine xs_callV (d := d + 3) (M := mX0_settleLine) (pc := 136) (As := [.int x3, .int (f 23 x2.toNatClampNeg)]) (st := []) (c := 9) (ls' := [.ref w, .int x3, .int (f 23 x2.toNatClampNeg)]) dX0_settleLine_136 oX9_addArrears nX9_addArrears lX0_87 vX9_addArrears sX9_addArrears rfl (shW hw) (Nat.le_of_ble_eq_true rfl) rfl (Nat.le_of_ble_eq_true rfl) rfl ?_
  exact p8 c1 c2 c3 c4 c5
theorem bX0_settleLine_61 {G : GC} {d : Nat} {sw : Bool} {f : FF} {Q : QQ} {w : Nat} (hw : isW w) {x2 : Int32} {x3 : Int32} (p1 : Q none sw f) : XP G mX0_settleLine (d + 4) 61 [.ref 20, .ref w, .int x2, .int x3] [] sw f Q := by
  refine wp_goto (M := mX0_settleLine) (pc := 61) (t := 139) dX0_settleLine_61 (by decide) ?_
  exact xs_ret (M := mX0_settleLine) (pc := 139) dX0_settleLine_139 rfl (p1)
theorem bX0_settleLine_139 {G : GC} {d : Nat} {sw : Bool} {f : FF} {Q : QQ} {w : Nat} (hw : isW w) {x2 : Int32} {x3 : Int32} (p1 : Q none sw f) : XP G mX0_settleLine (d + 4) 139 [.ref 20, .ref w, .int x2, .int x3] [] sw f Q := by
  exact xs_ret (M := mX0_settleLine) (pc := 139) dX0_settleLine_139 rfl (p1)
theorem bX9_cutOffNow_0 {G : GC} {d : Nat} {sw : Bool} {f : FF} {Q : QQ} {w : Nat} (hw : isW w) {x1 : Int32} (p1 : XP G mX9_endCallOf (d + 2) 0 [.ref w, .int x1] [] sw (upd2 f w 2 ((f w 2) ||| ((1 : Int32) <<< (x1 &&& 31)))) (fun v sw' f' => XP G mX9_cutOffNow (d + 3) 17 [.ref w, .int x1] (retst v []) sw' f' Q)) : XP G mX9_cutOffNow (d + 3) 0 [.ref w, .int x1] [] sw f Q := by
  refine wp_aload_n (M := mX9_cutOffNow) (pc := 0) dX9_cutOffNow_0 rfl rfl ?_
  refine wp_dup (M := mX9_cutOffNow) (pc := 1) dX9_cutOffNow_1 ?_
  refine xs_geti (M := mX9_cutOffNow) (pc := 2) dX9_cutOffNow_2 fX9_58 (shW hw) rfl ?_
  refine wp_iconst (M := mX9_cutOffNow) (pc := 5) dX9_cutOffNow_5 k_iconst_1 ?_
  refine wp_iload_n (M := mX9_cutOffNow) (pc := 6) dX9_cutOffNow_6 rfl rfl ?_
  refine wp_ishl (M := mX9_cutOffNow) (pc := 7) dX9_cutOffNow_7 ?_
  refine wp_ior (M := mX9_cutOffNow) (pc := 8) dX9_cutOffNow_8 ?_
  refine xs_puti (M := mX9_cutOffNow) (pc := 9) dX9_cutOffNow_9 pX9_58 (shW hw) rfl ?_
  refine wp_aload_n (M := mX9_cutOffNow) (pc := 12) dX9_cutOffNow_12 rfl rfl ?_
  refine wp_iload_n (M := mX9_cutOffNow) (pc := 13) dX9_cutOffNow_13 rfl rfl ?_
  refine xs_callV (d := d + 2) (M := mX9_cutOffNow) (pc := 14) (As := [.int x1]) (st := []) (c := 9) (ls' := [.ref w, .int x1]) dX9_cutOffNow_14 oX9_endCallOf nX9_endCallOf lX9_93 vX9_endCallOf sX9_endCallOf rfl (shW hw) (Nat.le_of_ble_eq_true rfl) rfl (Nat.le_of_ble_eq_true rfl) rfl ?_
  exact p1
theorem bX9_cutOffNow_17 {G : GC} {d : Nat} {sw : Bool} {f : FF} {Q : QQ} {w : Nat} (hw : isW w) {x1 : Int32} (p1 : Q none sw f) : XP G mX9_cutOffNow (d + 3) 17 [.ref w, .int x1] [] sw f Q := by
  exact xs_ret (M := mX9_cutOffNow) (pc := 17) dX9_cutOffNow_17 rfl (p1)
theorem bX9_addArrears_0 {G : GC} {d : Nat} {sw : Bool} {f : FF} {Q : QQ} {w : Nat} (hw : isW w) {x1 : Int32} {x2 : Int32} (p1 : vp_in x1 16) (p2 : vp_in x1 16) (p3 : Q none sw (upd2 f (w + 2) x1.toNatClampNeg (bnd ((f (w + 2) x1.toNatClampNeg) + x2) 999999))) : XP G mX9_addArrears (d + 1) 0 [.ref w, .int x1, .int x2] [] sw f Q := by
  refine wp_aload_n (M := mX9_addArrears) (pc := 0) dX9_addArrears_0 rfl rfl ?_
  refine xs_getr (M := mX9_addArrears) (pc := 1) (r := w + 2) dX9_addArrears_1 fX9_19 (shW hw) rfl (grW_9 hw) ?_
  refine wp_iload_n (M := mX9_addArrears) (pc := 4) dX9_addArrears_4 rfl rfl ?_
  refine wp_aload_n (M := mX9_addArrears) (pc := 5) dX9_addArrears_5 rfl rfl ?_
  refine xs_getr (M := mX9_addArrears) (pc := 6) (r := w + 2) dX9_addArrears_6 fX9_19 (shW hw) rfl (grW_9 hw) ?_
  refine wp_iload_n (M := mX9_addArrears) (pc := 9) dX9_addArrears_9 rfl rfl ?_
  refine xs_iald (M := mX9_addArrears) (pc := 10) (j := x1.toNatClampNeg) dX9_addArrears_10 (shW_2 hw) (p1) rfl ?_
  refine wp_iload_n (M := mX9_addArrears) (pc := 11) dX9_addArrears_11 rfl rfl ?_
  refine wp_iadd (M := mX9_addArrears) (pc := 12) dX9_addArrears_12 ?_
  refine wp_ldc (M := mX9_addArrears) (pc := 13) dX9_addArrears_13 kX9_97 ?_
  refine xs_callSN (d := d) (M := mX9_addArrears) (pc := 15) (As := [.int ((f (w + 2) x1.toNatClampNeg) + x2), .int 999999]) (st := [.int x1, .ref (w + 2)]) (ls' := [.int ((f (w + 2) x1.toNatClampNeg) + x2), .int 999999]) dX9_addArrears_15 oX10_bounded nX10_bounded hX9_98 tX10_bounded (Nat.le_of_ble_eq_true rfl) rfl (Nat.le_of_ble_eq_true rfl) rfl ?_
  refine sp_X10_bounded   ?_
  refine xs_iast (M := mX9_addArrears) (pc := 18) (j := x1.toNatClampNeg) dX9_addArrears_18 (shW_2 hw) (p2) rfl ?_
  exact xs_ret (M := mX9_addArrears) (pc := 19) dX9_addArrears_19 rfl (p3)
theorem bX4_load_0 {G : GC} {d : Nat} {sw : Bool} {f : FF} {Q : QQ} {x1 : Int32} {x2 : Int32} (p1 : XP G mX8_holdsOnly (d + 1) 0 [.ref 1, .int 48, .int 57] [] sw f (fun v sw' f' => XP G mX4_load (d + 2) 11 [.ref 11, .int x1, .int x2, .null] (retst v []) sw' f' Q)) : XP G mX4_load (d + 2) 0 [.ref 11, .int x1, .int x2, .null] [] sw f Q := by
  refine wp_aload_n (M := mX4_load) (pc := 0) dX4_load_0 rfl rfl ?_
  refine xs_getr (M := mX4_load) (pc := 1) (r := 1) dX4_load_1 fX4_18 sh11 rfl (gr11_0 sw) ?_
  refine wp_bipush (M := mX4_load) (pc := 4) dX4_load_4 k_bipush_48 ?_
  refine wp_bipush (M := mX4_load) (pc := 6) dX4_load_6 k_bipush_57 ?_
  refine xs_callV (d := d + 1) (M := mX4_load) (pc := 8) (As := [.int 48, .int 57]) (st := []) (c := 8) (ls' := [.ref 1, .int 48, .int 57]) dX4_load_8 oX8_holdsOnly nX8_holdsOnly lX4_22 vX8_holdsOnly sX8_holdsOnly rfl sh1 (Nat.le_of_ble_eq_true rfl) rfl (Nat.le_of_ble_eq_true rfl) rfl ?_
  exact p1
theorem bX4_load_11 {G : GC} {d : Nat} {sw : Bool} {f : FF} {Q : QQ} {x1 : Int32} {x2 : Int32} {v3 : Value} {s0 : Int32} (p1 : (¬ s0 = 0) → XP G mX4_load (d + 2) 24 [.ref 11, .int x1, .int x2, .int 0] [] sw f Q) (p2 : (s0 = 0) → Q (some (.int (f 1 5))) sw f) : XP G mX4_load (d + 2) 11 [.ref 11, .int x1, .int x2, v3] [.int s0] sw f Q := by
  refine wp_if_ne (M := mX4_load) (pc := 11) (t := 22) dX4_load_11 (by decide) (fun c1 => ?_) (fun c1 => ?_)
  · refine wp_iconst (M := mX4_load) (pc := 22) dX4_load_22 k_iconst_0 ?_
    refine wp_istore_n (M := mX4_load) (pc := 23) (ls' := [.ref 11, .int x1, .int x2, .int 0]) dX4_load_23 rfl (by decide) rfl ?_
    exact p1 c1
  · refine wp_aload_n (M := mX4_load) (pc := 14) dX4_load_14 rfl rfl ?_
    refine xs_getr (M := mX4_load) (pc := 15) (r := 1) dX4_load_15 fX4_18 sh11 rfl (gr11_0 sw) ?_
    refine xs_geti (M := mX4_load) (pc := 18) dX4_load_18 fX4_28 sh1 rfl ?_
    exact xs_iret (M := mX4_load) (pc := 21) dX4_load_21 rfl (p2 c1)
theorem bX4_load_24 {G : GC} {d : Nat} {sw : Bool} {f : FF} {Q : QQ} {x1 : Int32} {x2 : Int32} {x3 : Int32} (p1 : (x2 ≤ x3) → vp_in x1 9) (p2 : (x2 ≤ x3) → Q (some (.int x2)) sw (upd2 f 13 x1.toNatClampNeg x2)) (p3 : (¬ x2 ≤ x3) → (12 ≤ x3) → vp_in x1 9) (p4 : (¬ x2 ≤ x3) → (12 ≤ x3) → Q (some (.int x2)) sw (upd2 f 13 x1.toNatClampNeg x2)) (p5 : (¬ x2 ≤ x3) → (¬ 12 ≤ x3) → vp_in ((x1 * 12) + x3) 108) (p6 : (¬ x2 ≤ x3) → (¬ 12 ≤ x3) → XP G mX4_load (d + 2) 24 [.ref 11, .int x1, .int x2, .int (x3 + 1)] [] sw (upd2 f 12 (((x1 * 12) + x3).toNatClampNeg) ((tAt f x3) - 48)) Q) : XP G mX4_load (d + 2) 24 [.ref 11, .int x1, .int x2, .int x3] [] sw f Q := by
  refine wp_iload_n (M := mX4_load) (pc := 24) dX4_load_24 rfl rfl ?_
  refine wp_iload_n (M := mX4_load) (pc := 25) dX4_load_25 rfl rfl ?_
  refine wp_icmp_ge (M := mX4_load) (pc := 26) (t := 63) dX4_load_26 (by decide) (fun c1 => ?_) (fun c1 => ?_)
  · refine wp_aload_n (M := mX4_load) (pc := 63) dX4_load_63 rfl rfl ?_
    refine xs_getr (M := mX4_load) (pc := 64) (r := 13) dX4_load_64 fX4_15 sh11 rfl (gr11_2 sw) ?_
    refine wp_iload_n (M := mX4_load) (pc := 67) dX4_load_67 rfl rfl ?_
    refine wp_iload_n (M := mX4_load) (pc := 68) dX4_load_68 rfl rfl ?_
    refine xs_iast (M := mX4_load) (pc := 69) (j := x1.toNatClampNeg) dX4_load_69 sh13 (p1 c1) rfl ?_
    refine wp_iload_n (M := mX4_load) (pc := 70) dX4_load_70 rfl rfl ?_
    exact xs_iret (M := mX4_load) (pc := 71) dX4_load_71 rfl (p2 c1)
  · refine wp_iload_n (M := mX4_load) (pc := 29) dX4_load_29 rfl rfl ?_
    refine wp_bipush (M := mX4_load) (pc := 30) dX4_load_30 k_bipush_12 ?_
    refine wp_icmp_ge (M := mX4_load) (pc := 32) (t := 63) dX4_load_32 (by decide) (fun c2 => ?_) (fun c2 => ?_)
    · refine wp_aload_n (M := mX4_load) (pc := 63) dX4_load_63 rfl rfl ?_
      refine xs_getr (M := mX4_load) (pc := 64) (r := 13) dX4_load_64 fX4_15 sh11 rfl (gr11_2 sw) ?_
      refine wp_iload_n (M := mX4_load) (pc := 67) dX4_load_67 rfl rfl ?_
      refine wp_iload_n (M := mX4_load) (pc := 68) dX4_load_68 rfl rfl ?_
      refine xs_iast (M := mX4_load) (pc := 69) (j := x1.toNatClampNeg) dX4_load_69 sh13 (p3 c1 c2) rfl ?_
      refine wp_iload_n (M := mX4_load) (pc := 70) dX4_load_70 rfl rfl ?_
      exact xs_iret (M := mX4_load) (pc := 71) dX4_load_71 rfl (p4 c1 c2)
    · refine wp_aload_n (M := mX4_load) (pc := 35) dX4_load_35 rfl rfl ?_
      refine xs_getr (M := mX4_load) (pc := 36) (r := 12) dX4_load_36 fX4_9 sh11 rfl (gr11_1 sw) ?_
      refine wp_iload_n (M := mX4_load) (pc := 39) dX4_load_39 rfl rfl ?_
      refine wp_bipush (M := mX4_load) (pc := 40) dX4_load_40 k_bipush_12 ?_
      refine wp_imul (M := mX4_load) (pc := 42) dX4_load_42 ?_
      refine wp_iload_n (M := mX4_load) (pc := 43) dX4_load_43 rfl rfl ?_
      refine wp_iadd (M := mX4_load) (pc := 44) dX4_load_44 ?_
      refine wp_aload_n (M := mX4_load) (pc := 45) dX4_load_45 rfl rfl ?_
      refine xs_getr (M := mX4_load) (pc := 46) (r := 1) dX4_load_46 fX4_18 sh11 rfl (gr11_0 sw) ?_
      refine wp_iload_n (M := mX4_load) (pc := 49) dX4_load_49 rfl rfl ?_
      refine xs_callV (d := d + 1) (M := mX4_load) (pc := 50) (As := [.int x3]) (st := [.int ((x1 * 12) + x3), .ref 12]) (c := 8) (ls' := [.ref 1, .int x3]) dX4_load_50 oX8_at nX8_at lX4_32 vX8_at sX8_at rfl sh1 (Nat.le_of_ble_eq_true rfl) rfl (Nat.le_of_ble_eq_true rfl) rfl ?_
      refine sp_X8_at   ?_
      refine wp_bipush (M := mX4_load) (pc := 53) dX4_load_53 k_bipush_48 ?_
      refine wp_isub (M := mX4_load) (pc := 55) dX4_load_55 ?_
      refine xs_iast (M := mX4_load) (pc := 56) (j := ((x1 * 12) + x3).toNatClampNeg) dX4_load_56 sh12 (p5 c1 c2) rfl ?_
      refine wp_iinc (M := mX4_load) (pc := 57) (v := x3 + 1) (ls' := [.ref 11, .int x1, .int x2, .int (x3 + 1)]) dX4_load_57 rfl (congrArg (fun z => _ + z) k_iconst_1) (by decide) rfl ?_
      refine wp_goto (M := mX4_load) (pc := 60) (t := 24) dX4_load_60 (by decide) ?_
      exact p6 c1 c2
theorem bX8_holdsOnly_0 {G : GC} {d : Nat} {sw : Bool} {f : FF} {Q : QQ} {x1 : Int32} {x2 : Int32} (p1 : XP G mX8_holdsOnly (d + 1) 5 [.ref 1, .int x1, .int x2] [] sw (upd2 f 1 3 0) Q) : XP G mX8_holdsOnly (d + 1) 0 [.ref 1, .int x1, .int x2] [] sw f Q := by
  refine wp_aload_n (M := mX8_holdsOnly) (pc := 0) dX8_holdsOnly_0 rfl rfl ?_
  refine wp_iconst (M := mX8_holdsOnly) (pc := 1) dX8_holdsOnly_1 k_iconst_0 ?_
  refine xs_puti (M := mX8_holdsOnly) (pc := 2) dX8_holdsOnly_2 pX8_22 sh1 rfl ?_
  exact p1
theorem bX8_holdsOnly_5 {G : GC} {d : Nat} {sw : Bool} {f : FF} {Q : QQ} {x1 : Int32} {x2 : Int32} (p1 : ((f 1 2) ≤ (f 1 3)) → Q (some (.int 1)) sw f) (p2 : (¬ (f 1 2) ≤ (f 1 3)) → (x1 ≤ (tAt f (f 1 3)) ∧ (tAt f (f 1 3)) ≤ x2) → XP G mX8_holdsOnly (d + 1) 5 [.ref 1, .int x1, .int x2] [] sw (upd2 f 1 3 ((f 1 3) + 1)) Q) (p3 : (¬ (f 1 2) ≤ (f 1 3)) → (¬ (x1 ≤ (tAt f (f 1 3)) ∧ (tAt f (f 1 3)) ≤ x2)) → XP G mX8_fails (d) 0 [.ref 1, .int 1] [] sw f (fun v sw' f' => XP G mX8_holdsOnly (d + 1) 37 [.ref 1, .int x1, .int x2] (retst v []) sw' f' Q)) : XP G mX8_holdsOnly (d + 1) 5 [.ref 1, .int x1, .int x2] [] sw f Q := by
  refine wp_aload_n (M := mX8_holdsOnly) (pc := 5) dX8_holdsOnly_5 rfl rfl ?_
  refine xs_geti (M := mX8_holdsOnly) (pc := 6) dX8_holdsOnly_6 fX8_22 sh1 rfl ?_
  refine wp_aload_n (M := mX8_holdsOnly) (pc := 9) dX8_holdsOnly_9 rfl rfl ?_
  refine xs_geti (M := mX8_holdsOnly) (pc := 10) dX8_holdsOnly_10 fX8_19 sh1 rfl ?_
  refine wp_icmp_ge (M := mX8_holdsOnly) (pc := 13) (t := 51) dX8_holdsOnly_13 (by decide) (fun c1 => ?_) (fun c1 => ?_)
  · refine wp_iconst (M := mX8_holdsOnly) (pc := 51) dX8_holdsOnly_51 k_iconst_1 ?_
    exact xs_zret (M := mX8_holdsOnly) (pc := 52) dX8_holdsOnly_52 rfl (by decide) (p1 c1)
  · refine wp_aload_n (M := mX8_holdsOnly) (pc := 16) dX8_holdsOnly_16 rfl rfl ?_
    refine wp_aload_n (M := mX8_holdsOnly) (pc := 17) dX8_holdsOnly_17 rfl rfl ?_
    refine xs_geti (M := mX8_holdsOnly) (pc := 18) dX8_holdsOnly_18 fX8_22 sh1 rfl ?_
    refine xs_callV (d := d) (M := mX8_holdsOnly) (pc := 21) (As := [.int (f 1 3)]) (st := []) (c := 8) (ls' := [.ref 1, .int (f 1 3)]) dX8_holdsOnly_21 oX8_at nX8_at lX8_28 vX8_at sX8_at rfl sh1 (Nat.le_of_ble_eq_true rfl) rfl (Nat.le_of_ble_eq_true rfl) rfl ?_
    refine sp_X8_at   ?_
    refine wp_iload_n (M := mX8_holdsOnly) (pc := 24) dX8_holdsOnly_24 rfl rfl ?_
    refine wp_iload_n (M := mX8_holdsOnly) (pc := 25) dX8_holdsOnly_25 rfl rfl ?_
    refine xs_callSN (d := d) (M := mX8_holdsOnly) (pc := 26) (As := [.int (tAt f (f 1 3)), .int x1, .int x2]) (st := []) (ls' := [.int (tAt f (f 1 3)), .int x1, .int x2]) dX8_holdsOnly_26 oX10_within nX10_within hX8_42 tX10_within (Nat.le_of_ble_eq_true rfl) rfl (Nat.le_of_ble_eq_true rfl) rfl ?_
    refine sp_X10_within   ?_
    refine xs_ifb_ne (M := mX8_holdsOnly) (pc := 29) (t := 38) dX8_holdsOnly_29 (by decide) (fun c2 => ?_) (fun c2 => ?_)
    · refine wp_aload_n (M := mX8_holdsOnly) (pc := 38) dX8_holdsOnly_38 rfl rfl ?_
      refine wp_dup (M := mX8_holdsOnly) (pc := 39) dX8_holdsOnly_39 ?_
      refine xs_geti (M := mX8_holdsOnly) (pc := 40) dX8_holdsOnly_40 fX8_22 sh1 rfl ?_
      refine wp_iconst (M := mX8_holdsOnly) (pc := 43) dX8_holdsOnly_43 k_iconst_1 ?_
      refine wp_iadd (M := mX8_holdsOnly) (pc := 44) dX8_holdsOnly_44 ?_
      refine xs_puti (M := mX8_holdsOnly) (pc := 45) dX8_holdsOnly_45 pX8_22 sh1 rfl ?_
      refine wp_goto (M := mX8_holdsOnly) (pc := 48) (t := 5) dX8_holdsOnly_48 (by decide) ?_
      exact p2 c1 c2
    · refine wp_aload_n (M := mX8_holdsOnly) (pc := 32) dX8_holdsOnly_32 rfl rfl ?_
      refine wp_iconst (M := mX8_holdsOnly) (pc := 33) dX8_holdsOnly_33 k_iconst_1 ?_
      refine xs_callV (d := d) (M := mX8_holdsOnly) (pc := 34) (As := [.int 1]) (st := []) (c := 8) (ls' := [.ref 1, .int 1]) dX8_holdsOnly_34 oX8_fails nX8_fails lX8_32 vX8_fails sX8_fails rfl sh1 (Nat.le_of_ble_eq_true rfl) rfl (Nat.le_of_ble_eq_true rfl) rfl ?_
      exact p3 c1 c2
theorem bX8_holdsOnly_37 {G : GC} {d : Nat} {sw : Bool} {f : FF} {Q : QQ} {x1 : Int32} {x2 : Int32} {s0 : Int32} (p1 : s0 = 0 ∨ s0 = 1) (p2 : Q (some (.int s0)) sw f) : XP G mX8_holdsOnly (d + 1) 37 [.ref 1, .int x1, .int x2] [.int s0] sw f Q := by
  exact xs_zret (M := mX8_holdsOnly) (pc := 37) dX8_holdsOnly_37 rfl (p1) (p2)
theorem bX7_run_0 {G : GC} {d : Nat} {sw : Bool} {f : FF} {Q : QQ} {w : Nat} (hw : isW w) {x2 : Int32} (p1 : XP G mX7_run (d + 6) 17 [.ref 32, .ref w, .int x2, .int 0] [] sw (upd2 (upd2 (upd2 f 32 5 0) 32 6 0) 32 7 0) Q) : XP G mX7_run (d + 6) 0 [.ref 32, .ref w, .int x2, .null] [] sw f Q := by
  refine wp_aload_n (M := mX7_run) (pc := 0) dX7_run_0 rfl rfl ?_
  refine wp_iconst (M := mX7_run) (pc := 1) dX7_run_1 k_iconst_0 ?_
  refine xs_puti (M := mX7_run) (pc := 2) dX7_run_2 pX7_36 sh32 rfl ?_
  refine wp_aload_n (M := mX7_run) (pc := 5) dX7_run_5 rfl rfl ?_
  refine wp_iconst (M := mX7_run) (pc := 6) dX7_run_6 k_iconst_0 ?_
  refine xs_puti (M := mX7_run) (pc := 7) dX7_run_7 pX7_39 sh32 rfl ?_
  refine wp_aload_n (M := mX7_run) (pc := 10) dX7_run_10 rfl rfl ?_
  refine wp_iconst (M := mX7_run) (pc := 11) dX7_run_11 k_iconst_0 ?_
  refine xs_puti (M := mX7_run) (pc := 12) dX7_run_12 pX7_42 sh32 rfl ?_
  refine wp_iconst (M := mX7_run) (pc := 15) dX7_run_15 k_iconst_0 ?_
  refine wp_istore_n (M := mX7_run) (pc := 16) (ls' := [.ref 32, .ref w, .int x2, .int 0]) dX7_run_16 rfl (by decide) rfl ?_
  exact p1
theorem bX7_run_17 {G : GC} {d : Nat} {sw : Bool} {f : FF} {Q : QQ} {w : Nat} (hw : isW w) {x2 : Int32} {x3 : Int32} (p1 : (x2 ≤ x3) → Q none sw f) (p2 : (¬ x2 ≤ x3) → (99999 ≤ (f w 6)) → Q none sw f) (p3 : (¬ x2 ≤ x3) → (¬ 99999 ≤ (f w 6)) → XP G mX7_goBy (d + 5) 0 [.ref 32, .ref w, .null] [] sw f (fun v sw' f' => XP G mX7_run (d + 6) 36 [.ref 32, .ref w, .int x2, .int x3] (retst v []) sw' f' Q)) : XP G mX7_run (d + 6) 17 [.ref 32, .ref w, .int x2, .int x3] [] sw f Q := by
  refine wp_iload_n (M := mX7_run) (pc := 17) dX7_run_17 rfl rfl ?_
  refine wp_iload_n (M := mX7_run) (pc := 18) dX7_run_18 rfl rfl ?_
  refine wp_icmp_ge (M := mX7_run) (pc := 19) (t := 42) dX7_run_19 (by decide) (fun c1 => ?_) (fun c1 => ?_)
  · exact xs_ret (M := mX7_run) (pc := 42) dX7_run_42 rfl (p1 c1)
  · refine wp_aload_n (M := mX7_run) (pc := 22) dX7_run_22 rfl rfl ?_
    refine xs_geti (M := mX7_run) (pc := 23) dX7_run_23 fX7_45 (shW hw) rfl ?_
    refine wp_ldc (M := mX7_run) (pc := 26) dX7_run_26 kX7_50 ?_
    refine wp_icmp_ge (M := mX7_run) (pc := 28) (t := 42) dX7_run_28 (by decide) (fun c2 => ?_) (fun c2 => ?_)
    · exact xs_ret (M := mX7_run) (pc := 42) dX7_run_42 rfl (p2 c1 c2)
    · refine wp_aload_n (M := mX7_run) (pc := 31) dX7_run_31 rfl rfl ?_
      refine wp_aload_n (M := mX7_run) (pc := 32) dX7_run_32 rfl rfl ?_
      refine xs_callV (d := d + 5) (M := mX7_run) (pc := 33) (As := [.ref w]) (st := []) (c := 7) (ls' := [.ref 32, .ref w, .null]) dX7_run_33 oX7_goBy nX7_goBy lX7_51 vX7_goBy sX7_goBy rfl sh32 (Nat.le_of_ble_eq_true rfl) rfl (Nat.le_of_ble_eq_true rfl) rfl ?_
      exact p3 c1 c2
theorem bX7_run_36 {G : GC} {d : Nat} {sw : Bool} {f : FF} {Q : QQ} {w : Nat} (hw : isW w) {x2 : Int32} {x3 : Int32} (p1 : XP G mX7_run (d + 6) 17 [.ref 32, .ref w, .int x2, .int (x3 + 1)] [] sw f Q) : XP G mX7_run (d + 6) 36 [.ref 32, .ref w, .int x2, .int x3] [] sw f Q := by
  refine wp_iinc (M := mX7_run) (pc := 36) (v := x3 + 1) (ls' := [.ref 32, .ref w, .int x2, .int (x3 + 1)]) dX7_run_36 rfl (congrArg (fun z => _ + z) k_iconst_1) (by decide) rfl ?_
  refine wp_goto (M := mX7_run) (pc := 39) (t := 17) dX7_run_39 (by decide) ?_
  exact p1
theorem bX7_goBy_0 {G : GC} {d : Nat} {sw : Bool} {f : FF} {Q : QQ} {w : Nat} (hw : isW w) (p1 : XP G mX7_goBy (d + 5) 2 [.ref 32, .ref w, .int 0] [] sw f Q) : XP G mX7_goBy (d + 5) 0 [.ref 32, .ref w, .null] [] sw f Q := by
  refine wp_iconst (M := mX7_goBy) (pc := 0) dX7_goBy_0 k_iconst_0 ?_
  refine wp_istore_n (M := mX7_goBy) (pc := 1) (ls' := [.ref 32, .ref w, .int 0]) dX7_goBy_1 rfl (by decide) rfl ?_
  exact p1
theorem bX7_goBy_2 {G : GC} {d : Nat} {sw : Bool} {f : FF} {Q : QQ} {w : Nat} (hw : isW w) {x2 : Int32} (p1 : (20 ≤ x2) → XP G mX7_goBy (d + 5) 31 [.ref 32, .ref w, .int 0] [] sw f Q) (p2 : (¬ 20 ≤ x2) → vp_in x2 20) (p3 : (¬ 20 ≤ x2) → ((f (w + 9) x2.toNatClampNeg) ≤ 0) → XP G mX7_goBy (d + 5) 2 [.ref 32, .ref w, .int (x2 + 1)] [] sw f Q) (p4 : (¬ 20 ≤ x2) → (¬ (f (w + 9) x2.toNatClampNeg) ≤ 0) → XP G mX7_charge (d + 4) 0 [.ref 32, .ref w, .int x2, .null, .null] [] sw f (fun v sw' f' => XP G mX7_goBy (d + 5) 23 [.ref 32, .ref w, .int x2] (retst v []) sw' f' Q)) : XP G mX7_goBy (d + 5) 2 [.ref 32, .ref w, .int x2] [] sw f Q := by
  refine wp_iload_n (M := mX7_goBy) (pc := 2) dX7_goBy_2 rfl rfl ?_
  refine wp_bipush (M := mX7_goBy) (pc := 3) dX7_goBy_3 k_bipush_20 ?_
  refine wp_icmp_ge (M := mX7_goBy) (pc := 5) (t := 29) dX7_goBy_5 (by decide) (fun c1 => ?_) (fun c1 => ?_)
  · refine wp_iconst (M := mX7_goBy) (pc := 29) dX7_goBy_29 k_iconst_0 ?_
    refine wp_istore_n (M := mX7_goBy) (pc := 30) (ls' := [.ref 32, .ref w, .int 0]) dX7_goBy_30 rfl (by decide) rfl ?_
    exact p1 c1
  · refine wp_aload_n (M := mX7_goBy) (pc := 8) dX7_goBy_8 rfl rfl ?_
    refine xs_getr (M := mX7_goBy) (pc := 9) (r := w + 9) dX7_goBy_9 fX7_58 (shW hw) rfl (grW_16 hw) ?_
    refine wp_iload_n (M := mX7_goBy) (pc := 12) dX7_goBy_12 rfl rfl ?_
    refine xs_iald (M := mX7_goBy) (pc := 13) (j := x2.toNatClampNeg) dX7_goBy_13 (shW_9 hw) (p2 c1) rfl ?_
    refine wp_if_le (M := mX7_goBy) (pc := 14) (t := 23) dX7_goBy_14 (by decide) (fun c2 => ?_) (fun c2 => ?_)
    · refine wp_iinc (M := mX7_goBy) (pc := 23) (v := x2 + 1) (ls' := [.ref 32, .ref w, .int (x2 + 1)]) dX7_goBy_23 rfl (congrArg (fun z => _ + z) k_iconst_1) (by decide) rfl ?_
      refine wp_goto (M := mX7_goBy) (pc := 26) (t := 2) dX7_goBy_26 (by decide) ?_
      exact p3 c1 c2
    · refine wp_aload_n (M := mX7_goBy) (pc := 17) dX7_goBy_17 rfl rfl ?_
      refine wp_aload_n (M := mX7_goBy) (pc := 18) dX7_goBy_18 rfl rfl ?_
      refine wp_iload_n (M := mX7_goBy) (pc := 19) dX7_goBy_19 rfl rfl ?_
      refine xs_callV (d := d + 4) (M := mX7_goBy) (pc := 20) (As := [.ref w, .int x2]) (st := []) (c := 7) (ls' := [.ref 32, .ref w, .int x2, .null, .null]) dX7_goBy_20 oX7_charge nX7_charge lX7_62 vX7_charge sX7_charge rfl sh32 (Nat.le_of_ble_eq_true rfl) rfl (Nat.le_of_ble_eq_true rfl) rfl ?_
      exact p4 c1 c2
theorem bX7_goBy_23 {G : GC} {d : Nat} {sw : Bool} {f : FF} {Q : QQ} {w : Nat} (hw : isW w) {x2 : Int32} (p1 : XP G mX7_goBy (d + 5) 2 [.ref 32, .ref w, .int (x2 + 1)] [] sw f Q) : XP G mX7_goBy (d + 5) 23 [.ref 32, .ref w, .int x2] [] sw f Q := by
  refine wp_iinc (M := mX7_goBy) (pc := 23) (v := x2 + 1) (ls' := [.ref 32, .ref w, .int (x2 + 1)]) dX7_goBy_23 rfl (congrArg (fun z => _ + z) k_iconst_1) (by decide) rfl ?_
  refine wp_goto (M := mX7_goBy) (pc := 26) (t := 2) dX7_goBy_26 (by decide) ?_
  exact p1
theorem bX7_goBy_31 {G : GC} {d : Nat} {sw : Bool} {f : FF} {Q : QQ} {w : Nat} (hw : isW w) {x2 : Int32} (p1 : (16 ≤ x2) → XP G mX7_goBy (d + 5) 63 [.ref 32, .ref w, .int 0] [] sw f Q) (p2 : (¬ 16 ≤ x2) → (¬ (((wFree f w) >>> (x2 &&& 31)) &&& 1) = 1) → XP G mX7_goBy (d + 5) 31 [.ref 32, .ref w, .int (x2 + 1)] [] sw f Q) (p3 : (¬ 16 ≤ x2) → ((((wFree f w) >>> (x2 &&& 31)) &&& 1) = 1) → XP G mX7_mayRing (d + 4) 0 [.ref 32, .ref w, .int x2, .null, .null, .null, .null, .null, .null] [] sw f (fun v sw' f' => XP G mX7_goBy (d + 5) 55 [.ref 32, .ref w, .int x2] (retst v []) sw' f' Q)) : XP G mX7_goBy (d + 5) 31 [.ref 32, .ref w, .int x2] [] sw f Q := by
  refine wp_iload_n (M := mX7_goBy) (pc := 31) dX7_goBy_31 rfl rfl ?_
  refine wp_bipush (M := mX7_goBy) (pc := 32) dX7_goBy_32 k_bipush_16 ?_
  refine wp_icmp_ge (M := mX7_goBy) (pc := 34) (t := 61) dX7_goBy_34 (by decide) (fun c1 => ?_) (fun c1 => ?_)
  · refine wp_iconst (M := mX7_goBy) (pc := 61) dX7_goBy_61 k_iconst_0 ?_
    refine wp_istore_n (M := mX7_goBy) (pc := 62) (ls' := [.ref 32, .ref w, .int 0]) dX7_goBy_62 rfl (by decide) rfl ?_
    exact p1 c1
  · refine wp_aload_n (M := mX7_goBy) (pc := 37) dX7_goBy_37 rfl rfl ?_
    refine xs_callV (d := d + 4) (M := mX7_goBy) (pc := 38) (As := []) (st := []) (c := 9) (ls' := [.ref w]) dX7_goBy_38 oX9_free nX9_free lX7_66 vX9_free sX9_free rfl (shW hw) (Nat.le_of_ble_eq_true rfl) rfl (Nat.le_of_ble_eq_true rfl) rfl ?_
    refine sp_X9_free hw  ?_
    refine wp_iload_n (M := mX7_goBy) (pc := 41) dX7_goBy_41 rfl rfl ?_
    refine wp_ishr (M := mX7_goBy) (pc := 42) dX7_goBy_42 ?_
    refine wp_iconst (M := mX7_goBy) (pc := 43) dX7_goBy_43 k_iconst_1 ?_
    refine wp_iand (M := mX7_goBy) (pc := 44) dX7_goBy_44 ?_
    refine wp_iconst (M := mX7_goBy) (pc := 45) dX7_goBy_45 k_iconst_1 ?_
    refine wp_icmp_ne (M := mX7_goBy) (pc := 46) (t := 55) dX7_goBy_46 (by decide) (fun c2 => ?_) (fun c2 => ?_)
    · refine wp_iinc (M := mX7_goBy) (pc := 55) (v := x2 + 1) (ls' := [.ref 32, .ref w, .int (x2 + 1)]) dX7_goBy_55 rfl (congrArg (fun z => _ + z) k_iconst_1) (by decide) rfl ?_
      refine wp_goto (M := mX7_goBy) (pc := 58) (t := 31) dX7_goBy_58 (by decide) ?_
      exact p2 c1 c2
    · refine wp_aload_n (M := mX7_goBy) (pc := 49) dX7_goBy_49 rfl rfl ?_
      refine wp_aload_n (M := mX7_goBy) (pc := 50) dX7_goBy_50 rfl rfl ?_
      refine wp_iload_n (M := mX7_goBy) (pc := 51) dX7_goBy_51 rfl rfl ?_
      refine xs_callV (d := d + 4) (M := mX7_goBy) (pc := 52) (As := [.ref w, .int x2]) (st := []) (c := 7) (ls' := [.ref 32, .ref w, .int x2, .null, .null, .null, .null, .null, .null]) dX7_goBy_52 oX7_mayRing nX7_mayRing lX7_70 vX7_mayRing sX7_mayRing rfl sh32 (Nat.le_of_ble_eq_true rfl) rfl (Nat.le_of_ble_eq_true rfl) rfl ?_
      exact p3 c1 c2
theorem bX7_goBy_55 {G : GC} {d : Nat} {sw : Bool} {f : FF} {Q : QQ} {w : Nat} (hw : isW w) {x2 : Int32} (p1 : XP G mX7_goBy (d + 5) 31 [.ref 32, .ref w, .int (x2 + 1)] [] sw f Q) : XP G mX7_goBy (d + 5) 55 [.ref 32, .ref w, .int x2] [] sw f Q := by
  refine wp_iinc (M := mX7_goBy) (pc := 55) (v := x2 + 1) (ls' := [.ref 32, .ref w, .int (x2 + 1)]) dX7_goBy_55 rfl (congrArg (fun z => _ + z) k_iconst_1) (by decide) rfl ?_
  refine wp_goto (M := mX7_goBy) (pc := 58) (t := 31) dX7_goBy_58 (by decide) ?_
  exact p1
theorem bX7_goBy_63 {G : GC} {d : Nat} {sw : Bool} {f : FF} {Q : QQ} {w : Nat} (hw : isW w) {x2 : Int32} (p1 : (16 ≤ x2) → Q none sw (upd2 f w 6 ((f w 6) + 1))) (p2 : (¬ 16 ≤ x2) → (¬ ((((f w 0) &&& ((f w 2) ^^^ (-1))) >>> (x2 &&& 31)) &&& 1) = 1) → XP G mX7_goBy (d + 5) 63 [.ref 32, .ref w, .int (x2 + 1)] [] sw f Q) (p3 : (¬ 16 ≤ x2) → (((((f w 0) &&& ((f w 2) ^^^ (-1))) >>> (x2 &&& 31)) &&& 1) = 1) → XP G mX7_mayStop (d + 4) 0 [.ref 32, .ref w, .int x2] [] sw f (fun v sw' f' => XP G mX7_goBy (d + 5) 94 [.ref 32, .ref w, .int x2] (retst v []) sw' f' Q)) : XP G mX7_goBy (d + 5) 63 [.ref 32, .ref w, .int x2] [] sw f Q := by
  refine wp_iload_n (M := mX7_goBy) (pc := 63) dX7_goBy_63 rfl rfl ?_
  refine wp_bipush (M := mX7_goBy) (pc := 64) dX7_goBy_64 k_bipush_16 ?_
  refine wp_icmp_ge (M := mX7_goBy) (pc := 66) (t := 100) dX7_goBy_66 (by decide) (fun c1 => ?_) (fun c1 => ?_)
  · refine wp_aload_n (M := mX7_goBy) (pc := 100) dX7_goBy_100 rfl rfl ?_
    refine wp_dup (M := mX7_goBy) (pc := 101) dX7_goBy_101 ?_
    refine xs_geti (M := mX7_goBy) (pc := 102) dX7_goBy_102 fX7_45 (shW hw) rfl ?_
    refine wp_iconst (M := mX7_goBy) (pc := 105) dX7_goBy_105 k_iconst_1 ?_
    refine wp_iadd (M := mX7_goBy) (pc := 106) dX7_goBy_106 ?_
    refine xs_puti (M := mX7_goBy) (pc := 107) dX7_goBy_107 pX7_45 (shW hw) rfl ?_
    exact xs_ret (M := mX7_goBy) (pc := 110) dX7_goBy_110 rfl (p1 c1)
  · refine wp_aload_n (M := mX7_goBy) (pc := 69) dX7_goBy_69 rfl rfl ?_
    refine xs_geti (M := mX7_goBy) (pc := 70) dX7_goBy_70 fX7_73 (shW hw) rfl ?_
    refine wp_aload_n (M := mX7_goBy) (pc := 73) dX7_goBy_73 rfl rfl ?_
    refine xs_geti (M := mX7_goBy) (pc := 74) dX7_goBy_74 fX7_76 (shW hw) rfl ?_
    refine wp_iconst (M := mX7_goBy) (pc := 77) dX7_goBy_77 k_iconst_m1 ?_
    refine wp_ixor (M := mX7_goBy) (pc := 78) dX7_goBy_78 ?_
    refine wp_iand (M := mX7_goBy) (pc := 79) dX7_goBy_79 ?_
    refine wp_iload_n (M := mX7_goBy) (pc := 80) dX7_goBy_80 rfl rfl ?_
    refine wp_ishr (M := mX7_goBy) (pc := 81) dX7_goBy_81 ?_
    refine wp_iconst (M := mX7_goBy) (pc := 82) dX7_goBy_82 k_iconst_1 ?_
    refine wp_iand (M := mX7_goBy) (pc := 83) dX7_goBy_83 ?_
    refine wp_iconst (M := mX7_goBy) (pc := 84) dX7_goBy_84 k_iconst_1 ?_
    refine wp_icmp_ne (M := mX7_goBy) (pc := 85) (t := 94) dX7_goBy_85 (by decide) (fun c2 => ?_) (fun c2 => ?_)
    · refine wp_iinc (M := mX7_goBy) (pc := 94) (v := x2 + 1) (ls' := [.ref 32, .ref w, .int (x2 + 1)]) dX7_goBy_94 rfl (congrArg (fun z => _ + z) k_iconst_1) (by decide) rfl ?_
      refine wp_goto (M := mX7_goBy) (pc := 97) (t := 63) dX7_goBy_97 (by decide) ?_
      exact p2 c1 c2
    · refine wp_aload_n (M := mX7_goBy) (pc := 88) dX7_goBy_88 rfl rfl ?_
      refine wp_aload_n (M := mX7_goBy) (pc := 89) dX7_goBy_89 rfl rfl ?_
      refine wp_iload_n (M := mX7_goBy) (pc := 90) dX7_goBy_90 rfl rfl ?_
      refine xs_callV (d := d + 4) (M := mX7_goBy) (pc := 91) (As := [.ref w, .int x2]) (st := []) (c := 7) (ls' := [.ref 32, .ref w, .int x2]) dX7_goBy_91 oX7_mayStop nX7_mayStop lX7_79 vX7_mayStop sX7_mayStop rfl sh32 (Nat.le_of_ble_eq_true rfl) rfl (Nat.le_of_ble_eq_true rfl) rfl ?_
      exact p3 c1 c2
theorem bX7_goBy_94 {G : GC} {d : Nat} {sw : Bool} {f : FF} {Q : QQ} {w : Nat} (hw : isW w) {x2 : Int32} (p1 : XP G mX7_goBy (d + 5) 63 [.ref 32, .ref w, .int (x2 + 1)] [] sw f Q) : XP G mX7_goBy (d + 5) 94 [.ref 32, .ref w, .int x2] [] sw f Q := by
  refine wp_iinc (M := mX7_goBy) (pc := 94) (v := x2 + 1) (ls' := [.ref 32, .ref w, .int (x2 + 1)]) dX7_goBy_94 rfl (congrArg (fun z => _ + z) k_iconst_1) (by decide) rfl ?_
  refine wp_goto (M := mX7_goBy) (pc := 97) (t := 63) dX7_goBy_97 (by decide) ?_
  exact p1
theorem bX7_charge_0 {G : GC} {d : Nat} {sw : Bool} {f : FF} {Q : QQ} {w : Nat} (hw : isW w) {x2 : Int32} (p1 : vp_in x2 20) (p2 : vp_in x2 20) (p3 : (¬ (((f w 1) >>> ((f (w + 8) x2.toNatClampNeg) &&& 31)) &&& 1) = 1) → XP G mX9_addArrears (d + 1) 0 [.ref w, .int (f (w + 8) x2.toNatClampNeg), .int ((f 32 4) + ((f 32 3) * (f (w + 10) x2.toNatClampNeg)))] [] sw f (fun v sw' f' => XP G mX7_charge (d + 2) 54 [.ref 32, .ref w, .int x2, .int ((f 32 4) + ((f 32 3) * (f (w + 10) x2.toNatClampNeg))), .int (f (w + 8) x2.toNatClampNeg)] (retst v []) sw' f' Q)) (p4 : ((((f w 1) >>> ((f (w + 8) x2.toNatClampNeg) &&& 31)) &&& 1) = 1) → XP G mX9_addFund (d + 1) 0 [.ref w, .int (-((f 32 4) + ((f 32 3) * (f (w + 10) x2.toNatClampNeg))))] [] sw f (fun v sw' f' => XP G mX7_charge (d + 2) 44 [.ref 32, .ref w, .int x2, .int ((f 32 4) + ((f 32 3) * (f (w + 10) x2.toNatClampNeg))), .int (f (w + 8) x2.toNatClampNeg)] (retst v []) sw' f' Q)) : XP G mX7_charge (d + 2) 0 [.ref 32, .ref w, .int x2, .null, .null] [] sw f Q := by
  refine wp_aload_n (M := mX7_charge) (pc := 0) dX7_charge_0 rfl rfl ?_
  refine xs_geti (M := mX7_charge) (pc := 1) dX7_charge_1 fX7_29 sh32 rfl ?_
  refine wp_aload_n (M := mX7_charge) (pc := 4) dX7_charge_4 rfl rfl ?_
  refine xs_geti (M := mX7_charge) (pc := 5) dX7_charge_5 fX7_25 sh32 rfl ?_
  refine wp_aload_n (M := mX7_charge) (pc := 8) dX7_charge_8 rfl rfl ?_
  refine xs_getr (M := mX7_charge) (pc := 9) (r := w + 10) dX7_charge_9 fX7_82 (shW hw) rfl (grW_17 hw) ?_
  refine wp_iload_n (M := mX7_charge) (pc := 12) dX7_charge_12 rfl rfl ?_
  refine xs_iald (M := mX7_charge) (pc := 13) (j := x2.toNatClampNeg) dX7_charge_13 (shW_10 hw) (p1) rfl ?_
  refine wp_imul (M := mX7_charge) (pc := 14) dX7_charge_14 ?_
  refine wp_iadd (M := mX7_charge) (pc := 15) dX7_charge_15 ?_
  refine wp_istore_n (M := mX7_charge) (pc := 16) (ls' := [.ref 32, .ref w, .int x2, .int ((f 32 4) + ((f 32 3) * (f (w + 10) x2.toNatClampNeg))), .null]) dX7_charge_16 rfl (by decide) rfl ?_
  refine wp_aload_n (M := mX7_charge) (pc := 17) dX7_charge_17 rfl rfl ?_
  refine xs_getr (M := mX7_charge) (pc := 18) (r := w + 8) dX7_charge_18 fX7_85 (shW hw) rfl (grW_15 hw) ?_
  refine wp_iload_n (M := mX7_charge) (pc := 21) dX7_charge_21 rfl rfl ?_
  refine xs_iald (M := mX7_charge) (pc := 22) (j := x2.toNatClampNeg) dX7_charge_22 (shW_8 hw) (p2) rfl ?_
  refine wp_istore (M := mX7_charge) (pc := 23) (ls' := [.ref 32, .ref w, .int x2, .int ((f 32 4) + ((f 32 3) * (f (w + 10) x2.toNatClampNeg))), .int (f (w + 8) x2.toNatClampNeg)]) dX7_charge_23 (by decide) rfl ?_
  refine wp_aload_n (M := mX7_charge) (pc := 25) dX7_charge_25 rfl rfl ?_
  refine xs_geti (M := mX7_charge) (pc := 26) dX7_charge_26 fX7_88 (shW hw) rfl ?_
  refine wp_iload (M := mX7_charge) (pc := 29) dX7_charge_29 rfl ?_
  refine wp_ishr (M := mX7_charge) (pc := 31) dX7_charge_31 ?_
  refine wp_iconst (M := mX7_charge) (pc := 32) dX7_charge_32 k_iconst_1 ?_
  refine wp_iand (M := mX7_charge) (pc := 33) dX7_charge_33 ?_
  refine wp_iconst (M := mX7_charge) (pc := 34) dX7_charge_34 k_iconst_1 ?_
  refine wp_icmp_ne (M := mX7_charge) (pc := 35) (t := 47) dX7_charge_35 (by decide) (fun c1 => ?_) (fun c1 => ?_)
  · refine wp_aload_n (M := mX7_charge) (pc := 47) dX7_charge_47 rfl rfl ?_
    refine wp_iload (M := mX7_charge) (pc := 48) dX7_charge_48 rfl ?_
    refine wp_iload_n (M := mX7_charge) (pc := 50) dX7_charge_50 rfl rfl ?_
    refine xs_callV (d := d + 1) (M := mX7_charge) (pc := 51) (As := [.int (f (w + 8) x2.toNatClampNeg), .int ((f 32 4) + ((f 32 3) * (f (w + 10) x2.toNatClampNeg)))]) (st := []) (c := 9) (ls' := [.ref w, .int (f (w + 8) x2.toNatClampNeg), .int ((f 32 4) + ((f 32 3) * (f (w + 10) x2.toNatClampNeg)))]) dX7_charge_51 oX9_addArrears nX9_addArrears lX7_95 vX9_addArrears sX9_addArrears rfl (shW hw) (Nat.le_of_ble_eq_true rfl) rfl (Nat.le_of_ble_eq_true rfl) rfl ?_
    exact p3 c1
  · refine wp_aload_n (M := mX7_charge) (pc := 38) dX7_charge_38 rfl rfl ?_
    refine wp_iload_n (M := mX7_charge) (pc := 39) dX7_charge_39 rfl rfl ?_
    refine wp_ineg (M := mX7_charge) (pc := 40) dX7_charge_40 ?_
    refine xs_callV (d := d + 1) (M := mX7_charge) (pc := 41) (As := [.int (-((f 32 4) + ((f 32 3) * (f (w + 10) x2.toNatClampNeg))))]) (st := []) (c := 9) (ls' := [.ref w, .int (-((f 32 4) + ((f 32 3) * (f (w + 10) x2.toNatClampNeg))))]) dX7_charge_41 oX9_addFund nX9_addFund lX7_91 vX9_addFund sX9_addFund rfl (shW hw) (Nat.le_of_ble_eq_true rfl) rfl (Nat.le_of_ble_eq_true rfl) rfl ?_
    exact p4 c1
theorem bX7_charge_44 {G : GC} {d : Nat} {sw : Bool} {f : FF} {Q : QQ} {w : Nat} (hw : isW w) {x2 : Int32} {x3 : Int32} {x4 : Int32} (p1 : vp_in x2 20) (p2 : vp_in x2 20) (p3 : vp_in x2 20) (p4 : (¬ ((upd2 f (w + 9) x2.toNatClampNeg ((f (w + 9) x2.toNatClampNeg) - 1)) (w + 9) x2.toNatClampNeg) = 0) → Q none sw (upd2 f (w + 9) x2.toNatClampNeg ((f (w + 9) x2.toNatClampNeg) - 1))) (p5 : (((upd2 f (w + 9) x2.toNatClampNeg ((f (w + 9) x2.toNatClampNeg) - 1)) (w + 9) x2.toNatClampNeg) = 0) → XP G mX9_endCallAt (d + 1) 0 [.ref w, .int x2] [] sw (upd2 f (w + 9) x2.toNatClampNeg ((f (w + 9) x2.toNatClampNeg) - 1)) (fun v sw' f' => XP G mX7_charge (d + 2) 78 [.ref 32, .ref w, .int x2, .int x3, .int x4] (retst v []) sw' f' Q)) : XP G mX7_charge (d + 2) 44 [.ref 32, .ref w, .int x2, .int x3, .int x4] [] sw f Q := by
  refine wp_goto (M := mX7_charge) (pc := 44) (t := 54) dX7_charge_44 (by decide) ?_
  refine wp_aload_n (M := mX7_charge) (pc := 54) dX7_charge_54 rfl rfl ?_
  refine xs_getr (M := mX7_charge) (pc := 55) (r := w + 9) dX7_charge_55 fX7_58 (shW hw) rfl (grW_16 hw) ?_
  refine wp_iload_n (M := mX7_charge) (pc := 58) dX7_charge_58 rfl rfl ?_
  refine wp_dup2 (M := mX7_charge) (pc := 59) dX7_charge_59 ?_
  refine xs_iald (M := mX7_charge) (pc := 60) (j := x2.toNatClampNeg) dX7_charge_60 (shW_9 hw) (p1) rfl ?_
  refine wp_iconst (M := mX7_charge) (pc := 61) dX7_charge_61 k_iconst_1 ?_
  refine wp_isub (M := mX7_charge) (pc := 62) dX7_charge_62 ?_
  refine xs_iast (M := mX7_charge) (pc := 63) (j := x2.toNatClampNeg) dX7_charge_63 (shW_9 hw) (p2) rfl ?_
  refine wp_aload_n (M := mX7_charge) (pc := 64) dX7_charge_64 rfl rfl ?_
  refine xs_getr (M := mX7_charge) (pc := 65) (r := w + 9) dX7_charge_65 fX7_58 (shW hw) rfl (grW_16 hw) ?_
  refine wp_iload_n (M := mX7_charge) (pc := 68) dX7_charge_68 rfl rfl ?_
  refine xs_iald (M := mX7_charge) (pc := 69) (j := x2.toNatClampNeg) dX7_charge_69 (shW_9 hw) (p3) rfl ?_
  refine wp_if_ne (M := mX7_charge) (pc := 70) (t := 78) dX7_charge_70 (by decide) (fun c1 => ?_) (fun c1 => ?_)
  · exact xs_ret (M := mX7_charge) (pc := 78) dX7_charge_78 rfl (p4 c1)
  · refine wp_aload_n (M := mX7_charge) (pc := 73) dX7_charge_73 rfl rfl ?_
    refine wp_iload_n (M := mX7_charge) (pc := 74) dX7_charge_74 rfl rfl ?_
    refine xs_callV (d := d + 1) (M := mX7_charge) (pc := 75) (As := [.int x2]) (st := []) (c := 9) (ls' := [.ref w, .int x2]) dX7_charge_75 oX9_endCallAt nX9_endCallAt lX7_99 vX9_endCallAt sX9_endCallAt rfl (shW hw) (Nat.le_of_ble_eq_true rfl) rfl (Nat.le_of_ble_eq_true rfl) rfl ?_
    exact p5 c1
theorem bX7_charge_54 {G : GC} {d : Nat} {sw : Bool} {f : FF} {Q : QQ} {w : Nat} (hw : isW w) {x2 : Int32} {x3 : Int32} {x4 : Int32} (p1 : vp_in x2 20) (p2 : vp_in x2 20) (p3 : vp_in x2 20) (p4 : (¬ ((upd2 f (w + 9) x2.toNatClampNeg ((f (w + 9) x2.toNatClampNeg) - 1)) (w + 9) x2.toNatClampNeg) = 0) → Q none sw (upd2 f (w + 9) x2.toNatClampNeg ((f (w + 9) x2.toNatClampNeg) - 1))) (p5 : (((upd2 f (w + 9) x2.toNatClampNeg ((f (w + 9) x2.toNatClampNeg) - 1)) (w + 9) x2.toNatClampNeg) = 0) → XP G mX9_endCallAt (d + 1) 0 [.ref w, .int x2] [] sw (upd2 f (w + 9) x2.toNatClampNeg ((f (w + 9) x2.toNatClampNeg) - 1)) (fun v sw' f' => XP G mX7_charge (d + 2) 78 [.ref 32, .ref w, .int x2, .int x3, .int x4] (retst v []) sw' f' Q)) : XP G mX7_charge (d + 2) 54 [.ref 32, .ref w, .int x2, .int x3, .int x4] [] sw f Q := by
  refine wp_aload_n (M := mX7_charge) (pc := 54) dX7_charge_54 rfl rfl ?_
  refine xs_getr (M := mX7_charge) (pc := 55) (r := w + 9) dX7_charge_55 fX7_58 (shW hw) rfl (grW_16 hw) ?_
  refine wp_iload_n (M := mX7_charge) (pc := 58) dX7_charge_58 rfl rfl ?_
  refine wp_dup2 (M := mX7_charge) (pc := 59) dX7_charge_59 ?_
  refine xs_iald (M := mX7_charge) (pc := 60) (j := x2.toNatClampNeg) dX7_charge_60 (shW_9 hw) (p1) rfl ?_
  refine wp_iconst (M := mX7_charge) (pc := 61) dX7_charge_61 k_iconst_1 ?_
  refine wp_isub (M := mX7_charge) (pc := 62) dX7_charge_62 ?_
  refine xs_iast (M := mX7_charge) (pc := 63) (j := x2.toNatClampNeg) dX7_charge_63 (shW_9 hw) (p2) rfl ?_
  refine wp_aload_n (M := mX7_charge) (pc := 64) dX7_charge_64 rfl rfl ?_
  refine xs_getr (M := mX7_charge) (pc := 65) (r := w + 9) dX7_charge_65 fX7_58 (shW hw) rfl (grW_16 hw) ?_
  refine wp_iload_n (M := mX7_charge) (pc := 68) dX7_charge_68 rfl rfl ?_
  refine xs_iald (M := mX7_charge) (pc := 69) (j := x2.toNatClampNeg) dX7_charge_69 (shW_9 hw) (p3) rfl ?_
  refine wp_if_ne (M := mX7_charge) (pc := 70) (t := 78) dX7_charge_70 (by decide) (fun c1 => ?_) (fun c1 => ?_)
  · exact xs_ret (M := mX7_charge) (pc := 78) dX7_charge_78 rfl (p4 c1)
  · refine wp_aload_n (M := mX7_charge) (pc := 73) dX7_charge_73 rfl rfl ?_
    refine wp_iload_n (M := mX7_charge) (pc := 74) dX7_charge_74 rfl rfl ?_
    refine xs_callV (d := d + 1) (M := mX7_charge) (pc := 75) (As := [.int x2]) (st := []) (c := 9) (ls' := [.ref w, .int x2]) dX7_charge_75 oX9_endCallAt nX9_endCallAt lX7_99 vX9_endCallAt sX9_endCallAt rfl (shW hw) (Nat.le_of_ble_eq_true rfl) rfl (Nat.le_of_ble_eq_true rfl) rfl ?_
    exact p5 c1
theorem bX7_charge_78 {G : GC} {d : Nat} {sw : Bool} {f : FF} {Q : QQ} {w : Nat} (hw : isW w) {x2 : Int32} {x3 : Int32} {x4 : Int32} (p1 : Q none sw f) : XP G mX7_charge (d + 2) 78 [.ref 32, .ref w, .int x2, .int x3, .int x4] [] sw f Q := by
  exact xs_ret (M := mX7_charge) (pc := 78) dX7_charge_78 rfl (p1)
theorem bX7_mayRing_0 {G : GC} {d : Nat} {sw : Bool} {f : FF} {Q : QQ} {w : Nat} (hw : isW w) {x2 : Int32} (p1 : XP G mX5_lookAt (d + 3) 0 [.ref 33, .ref w, .int x2] [] sw f (fun v sw' f' => XP G mX7_mayRing (d + 4) 9 [.ref 32, .ref w, .int x2, .null, .null, .null, .null, .null, .null] (retst v []) sw' f' Q)) : XP G mX7_mayRing (d + 4) 0 [.ref 32, .ref w, .int x2, .null, .null, .null, .null, .null, .null] [] sw f Q := by
  refine wp_aload_n (M := mX7_mayRing) (pc := 0) dX7_mayRing_0 rfl rfl ?_
  refine xs_getr (M := mX7_mayRing) (pc := 1) (r := 33) dX7_mayRing_1 fX7_12 sh32 rfl (gr32_1 sw) ?_
  refine wp_aload_n (M := mX7_mayRing) (pc := 4) dX7_mayRing_4 rfl rfl ?_
  refine wp_iload_n (M := mX7_mayRing) (pc := 5) dX7_mayRing_5 rfl rfl ?_
  refine xs_callV (d := d + 3) (M := mX7_mayRing) (pc := 6) (As := [.ref w, .int x2]) (st := []) (c := 5) (ls' := [.ref 33, .ref w, .int x2]) dX7_mayRing_6 oX5_lookAt nX5_lookAt lX7_102 vX5_lookAt sX5_lookAt rfl sh33 (Nat.le_of_ble_eq_true rfl) rfl (Nat.le_of_ble_eq_true rfl) rfl ?_
  exact p1
theorem bX7_mayRing_9 {G : GC} {d : Nat} {sw : Bool} {f : FF} {Q : QQ} {w : Nat} (hw : isW w) {x2 : Int32} {v3 : Value} {v4 : Value} {v5 : Value} {v6 : Value} {v7 : Value} {v8 : Value} (p1 : XP G mX5_valueOf (d + 3) 0 [.ref 33, .ref (lwB sw), .int 114, .int 10, .null] [] sw f (fun v sw' f' => XP G mX7_mayRing (d + 4) 24 [.ref 32, .ref w, .int x2, v3, v4, v5, v6, v7, v8] (retst v []) sw' f' Q)) : XP G mX7_mayRing (d + 4) 9 [.ref 32, .ref w, .int x2, v3, v4, v5, v6, v7, v8] [] sw f Q := by
  refine wp_aload_n (M := mX7_mayRing) (pc := 9) dX7_mayRing_9 rfl rfl ?_
  refine xs_getr (M := mX7_mayRing) (pc := 10) (r := 33) dX7_mayRing_10 fX7_12 sh32 rfl (gr32_1 sw) ?_
  refine wp_aload_n (M := mX7_mayRing) (pc := 13) dX7_mayRing_13 rfl rfl ?_
  refine xs_getr (M := mX7_mayRing) (pc := 14) (r := lwB sw) dX7_mayRing_14 fX7_21 sh32 rfl (gr32_2 sw) ?_
  refine wp_bipush (M := mX7_mayRing) (pc := 17) dX7_mayRing_17 k_bipush_114 ?_
  refine wp_bipush (M := mX7_mayRing) (pc := 19) dX7_mayRing_19 k_bipush_10 ?_
  refine xs_callV (d := d + 3) (M := mX7_mayRing) (pc := 21) (As := [.ref (lwB sw), .int 114, .int 10]) (st := []) (c := 5) (ls' := [.ref 33, .ref (lwB sw), .int 114, .int 10, .null]) dX7_mayRing_21 oX5_valueOf nX5_valueOf lX7_105 vX5_valueOf sX5_valueOf rfl sh33 (Nat.le_of_ble_eq_true rfl) rfl (Nat.le_of_ble_eq_true rfl) rfl ?_
  exact p1
theorem bX7_mayRing_24 {G : GC} {d : Nat} {sw : Bool} {f : FF} {Q : QQ} {w : Nat} (hw : isW w) {x2 : Int32} {v3 : Value} {v4 : Value} {v5 : Value} {v6 : Value} {v7 : Value} {v8 : Value} {s0 : Int32} (p1 : XP G mX9_draw (d + 3) 0 [.ref w] [] sw f (fun v sw' f' => XP G mX7_mayRing (d + 4) 29 [.ref 32, .ref w, .int x2, .int s0, v4, v5, v6, v7, v8] (retst v []) sw' f' Q)) : XP G mX7_mayRing (d + 4) 24 [.ref 32, .ref w, .int x2, v3, v4, v5, v6, v7, v8] [.int s0] sw f Q := by
  refine wp_istore_n (M := mX7_mayRing) (pc := 24) (ls' := [.ref 32, .ref w, .int x2, .int s0, v4, v5, v6, v7, v8]) dX7_mayRing_24 rfl (by decide) rfl ?_
  refine wp_aload_n (M := mX7_mayRing) (pc := 25) dX7_mayRing_25 rfl rfl ?_
  refine xs_callV (d := d + 3) (M := mX7_mayRing) (pc := 26) (As := []) (st := []) (c := 9) (ls' := [.ref w]) dX7_mayRing_26 oX9_draw nX9_draw lX7_109 vX9_draw sX9_draw rfl (shW hw) (Nat.le_of_ble_eq_true rfl) rfl (Nat.le_of_ble_eq_true rfl) rfl ?_
  exact p1
theorem bX7_mayRing_29 {G : GC} {d : Nat} {sw : Bool} {f : FF} {Q : QQ} {w : Nat} (hw : isW w) {x2 : Int32} {x3 : Int32} {v4 : Value} {v5 : Value} {v6 : Value} {v7 : Value} {v8 : Value} {s0 : Int32} (p1 : (s0 < x3) → XP G mX5_valueOf (d + 3) 0 [.ref 33, .ref (lwB sw), .int 119, .int 15, .null] [] sw f (fun v sw' f' => XP G mX7_mayRing (d + 4) 49 [.ref 32, .ref w, .int x2, .int x3, v4, v5, v6, v7, v8] (retst v []) sw' f' Q)) (p2 : (¬ s0 < x3) → Q none sw f) : XP G mX7_mayRing (d + 4) 29 [.ref 32, .ref w, .int x2, .int x3, v4, v5, v6, v7, v8] [.int s0] sw f Q := by
  refine wp_iload_n (M := mX7_mayRing) (pc := 29) dX7_mayRing_29 rfl rfl ?_
  refine wp_icmp_lt (M := mX7_mayRing) (pc := 30) (t := 34) dX7_mayRing_30 (by decide) (fun c1 => ?_) (fun c1 => ?_)
  · refine wp_aload_n (M := mX7_mayRing) (pc := 34) dX7_mayRing_34 rfl rfl ?_
    refine xs_getr (M := mX7_mayRing) (pc := 35) (r := 33) dX7_mayRing_35 fX7_12 sh32 rfl (gr32_1 sw) ?_
    refine wp_aload_n (M := mX7_mayRing) (pc := 38) dX7_mayRing_38 rfl rfl ?_
    refine xs_getr (M := mX7_mayRing) (pc := 39) (r := lwB sw) dX7_mayRing_39 fX7_21 sh32 rfl (gr32_2 sw) ?_
    refine wp_bipush (M := mX7_mayRing) (pc := 42) dX7_mayRing_42 k_bipush_119 ?_
    refine wp_bipush (M := mX7_mayRing) (pc := 44) dX7_mayRing_44 k_bipush_15 ?_
    refine xs_callV (d := d + 3) (M := mX7_mayRing) (pc := 46) (As := [.ref (lwB sw), .int 119, .int 15]) (st := []) (c := 5) (ls' := [.ref 33, .ref (lwB sw), .int 119, .int 15, .null]) dX7_mayRing_46 oX5_valueOf nX5_valueOf lX7_105 vX5_valueOf sX5_valueOf rfl sh33 (Nat.le_of_ble_eq_true rfl) rfl (Nat.le_of_ble_eq_true rfl) rfl ?_
    exact p1 c1
  · exact xs_ret (M := mX7_mayRing) (pc := 33) dX7_mayRing_33 rfl (p2 c1)
theorem bX7_mayRing_49 {G : GC} {d : Nat} {sw : Bool} {f : FF} {Q : QQ} {w : Nat} (hw : isW w) {x2 : Int32} {x3 : Int32} {v4 : Value} {v5 : Value} {v6 : Value} {v7 : Value} {v8 : Value} {s0 : Int32} (p1 : (s0 = x2) → XP G mX9_lowestFreePlace (d + 3) 0 [.ref w, .null] [] sw f (fun v sw' f' => XP G mX7_mayRing (d + 4) 116 [.ref 32, .ref w, .int x2, .int x3, .int s0, .int 0, .int (-1), v7, v8] (retst v []) sw' f' Q)) (p2 : (¬ s0 = x2) → (¬ (((wFree f w) >>> (s0 &&& 31)) &&& 1) = 1) → XP G mX9_lowestFreePlace (d + 3) 0 [.ref w, .null] [] sw f (fun v sw' f' => XP G mX7_mayRing (d + 4) 116 [.ref 32, .ref w, .int x2, .int x3, .int s0, .int 0, .int (-1), v7, v8] (retst v []) sw' f' Q)) (p3 : (¬ s0 = x2) → ((((wFree f w) >>> (s0 &&& 31)) &&& 1) = 1) → vp_in x2 16) (p4 : (¬ s0 = x2) → ((((wFree f w) >>> (s0 &&& 31)) &&& 1) = 1) → vp_in s0 16) (p5 : (¬ s0 = x2) → ((((wFree f w) >>> (s0 &&& 31)) &&& 1) = 1) → XP G mX3_findRoute (d + 3) 0 [.ref 3, .int (f (w + 1) x2.toNatClampNeg), .int (f (w + 1) s0.toNatClampNeg), .ref (w + 12), .null] [] sw f (fun v sw' f' => XP G mX7_mayRing (d + 4) 106 [.ref 32, .ref w, .int x2, .int x3, .int s0, .int 1, v6, v7, v8] (retst v []) sw' f' Q)) : XP G mX7_mayRing (d + 4) 49 [.ref 32, .ref w, .int x2, .int x3, v4, v5, v6, v7, v8] [.int s0] sw f Q := by
  refine wp_istore (M := mX7_mayRing) (pc := 49) (ls' := [.ref 32, .ref w, .int x2, .int x3, .int s0, v5, v6, v7, v8]) dX7_mayRing_49 (by decide) rfl ?_
  refine wp_iload (M := mX7_mayRing) (pc := 51) dX7_mayRing_51 rfl ?_
  refine wp_iload_n (M := mX7_mayRing) (pc := 53) dX7_mayRing_53 rfl rfl ?_
  refine wp_icmp_eq (M := mX7_mayRing) (pc := 54) (t := 74) dX7_mayRing_54 (by decide) (fun c1 => ?_) (fun c1 => ?_)
  · refine wp_iconst (M := mX7_mayRing) (pc := 74) dX7_mayRing_74 k_iconst_0 ?_
    refine wp_istore (M := mX7_mayRing) (pc := 75) (ls' := [.ref 32, .ref w, .int x2, .int x3, .int s0, .int 0, v6, v7, v8]) dX7_mayRing_75 (by decide) rfl ?_
    refine wp_iload (M := mX7_mayRing) (pc := 77) dX7_mayRing_77 rfl ?_
    refine wp_if_eq (M := mX7_mayRing) (pc := 79) (t := 109) dX7_mayRing_79 (by decide) (fun _ => ?_) (fun c => absurd c (by decide))
    refine wp_iconst (M := mX7_mayRing) (pc := 109) dX7_mayRing_109 k_iconst_m1 ?_
    refine wp_istore (M := mX7_mayRing) (pc := 110) (ls' := [.ref 32, .ref w, .int x2, .int x3, .int s0, .int 0, .int (-1), v7, v8]) dX7_mayRing_110 (by decide) rfl ?_
    refine wp_aload_n (M := mX7_mayRing) (pc := 112) dX7_mayRing_112 rfl rfl ?_
    refine xs_callV (d := d + 3) (M := mX7_mayRing) (pc := 113) (As := []) (st := []) (c := 9) (ls' := [.ref w, .null]) dX7_mayRing_113 oX9_lowestFreePlace nX9_lowestFreePlace lX7_124 vX9_lowestFreePlace sX9_lowestFreePlace rfl (shW hw) (Nat.le_of_ble_eq_true rfl) rfl (Nat.le_of_ble_eq_true rfl) rfl ?_
    exact p1 c1
  · refine wp_aload_n (M := mX7_mayRing) (pc := 57) dX7_mayRing_57 rfl rfl ?_
    refine xs_callV (d := d + 3) (M := mX7_mayRing) (pc := 58) (As := []) (st := []) (c := 9) (ls' := [.ref w]) dX7_mayRing_58 oX9_free nX9_free lX7_66 vX9_free sX9_free rfl (shW hw) (Nat.le_of_ble_eq_true rfl) rfl (Nat.le_of_ble_eq_true rfl) rfl ?_
    refine sp_X9_free hw  ?_
    refine wp_iload (M := mX7_mayRing) (pc := 61) dX7_mayRing_61 rfl ?_
    refine wp_ishr (M := mX7_mayRing) (pc := 63) dX7_mayRing_63 ?_
    refine wp_iconst (M := mX7_mayRing) (pc := 64) dX7_mayRing_64 k_iconst_1 ?_
    refine wp_iand (M := mX7_mayRing) (pc := 65) dX7_mayRing_65 ?_
    refine wp_iconst (M := mX7_mayRing) (pc := 66) dX7_mayRing_66 k_iconst_1 ?_
    refine wp_icmp_ne (M := mX7_mayRing) (pc := 67) (t := 74) dX7_mayRing_67 (by decide) (fun c2 => ?_) (fun c2 => ?_)
    · refine wp_iconst (M := mX7_mayRing) (pc := 74) dX7_mayRing_74 k_iconst_0 ?_
      refine wp_istore (M := mX7_mayRing) (pc := 75) (ls' := [.ref 32, .ref w, .int x2, .int x3, .int s0, .int 0, v6, v7, v8]) dX7_mayRing_75 (by decide) rfl ?_
      refine wp_iload (M := mX7_mayRing) (pc := 77) dX7_mayRing_77 rfl ?_
      refine wp_if_eq (M := mX7_mayRing) (pc := 79) (t := 109) dX7_mayRing_79 (by decide) (fun _ => ?_) (fun c => absurd c (by decide))
      refine wp_iconst (M := mX7_mayRing) (pc := 109) dX7_mayRing_109 k_iconst_m1 ?_
      refine wp_istore (M := mX7_mayRing) (pc := 110) (ls' := [.ref 32, .ref w, .int x2, .int x3, .int s0, .int 0, .int (-1), v7, v8]) dX7_mayRing_110 (by decide) rfl ?_
      refine wp_aload_n (M := mX7_mayRing) (pc := 112) dX7_mayRing_112 rfl rfl ?_
      refine xs_callV (d := d + 3) (M := mX7_mayRing) (pc := 113) (As := []) (st := []) (c := 9) (ls' := [.ref w, .null]) dX7_mayRing_113 oX9_lowestFreePlace nX9_lowestFreePlace lX7_124 vX9_lowestFreePlace sX9_lowestFreePlace rfl (shW hw) (Nat.le_of_ble_eq_true rfl) rfl (Nat.le_of_ble_eq_true rfl) rfl ?_
      exact p2 c1 c2
    · refine wp_iconst (M := mX7_mayRing) (pc := 70) dX7_mayRing_70 k_iconst_1 ?_
      refine wp_goto (M := mX7_mayRing) (pc := 71) (t := 75) dX7_mayRing_71 (by decide) ?_
      refine wp_istore (M := mX7_mayRing) (pc := 75) (ls' := [.ref 32, .ref w, .int x2, .int x3, .int s0, .int 1, v6, v7, v8]) dX7_mayRing_75 (by decide) rfl ?_
      refine wp_iload (M := mX7_mayRing) (pc := 77) dX7_mayRing_77 rfl ?_
      refine wp_if_eq (M := mX7_mayRing) (pc := 79) (t := 109) dX7_mayRing_79 (by decide) (fun c => absurd c (by decide)) (fun _ => ?_)
      refine wp_aload_n (M := mX7_mayRing) (pc := 82) dX7_mayRing_82 rfl rfl ?_
      refine xs_getr (M := mX7_mayRing) (pc := 83) (r := 3) dX7_mayRing_83 fX7_32 sh32 rfl (gr32_0 sw) ?_
      refine wp_aload_n (M := mX7_mayRing) (pc := 86) dX7_mayRing_86 rfl rfl ?_
      refine xs_getr (M := mX7_mayRing) (pc := 87) (r := w + 1) dX7_mayRing_87 fX7_112 (shW hw) rfl (grW_8 hw) ?_
      refine wp_iload_n (M := mX7_mayRing) (pc := 90) dX7_mayRing_90 rfl rfl ?_
      refine xs_iald (M := mX7_mayRing) (pc := 91) (j := x2.toNatClampNeg) dX7_mayRing_91 (shW_1 hw) (p3 c1 c2) rfl ?_
      refine wp_aload_n (M := mX7_mayRing) (pc := 92) dX7_mayRing_92 rfl rfl ?_
      refine xs_getr (M := mX7_mayRing) (pc := 93) (r := w + 1) dX7_mayRing_93 fX7_112 (shW hw) rfl (grW_8 hw) ?_
      refine wp_iload (M := mX7_mayRing) (pc := 96) dX7_mayRing_96 rfl ?_
      refine xs_iald (M := mX7_mayRing) (pc := 98) (j := s0.toNatClampNeg) dX7_mayRing_98 (shW_1 hw) (p4 c1 c2) rfl ?_
      refine wp_aload_n (M := mX7_mayRing) (pc := 99) dX7_mayRing_99 rfl rfl ?_
      refine xs_getr (M := mX7_mayRing) (pc := 100) (r := w + 12) dX7_mayRing_100 fX7_115 (shW hw) rfl (grW_19 hw) ?_
      refine xs_callV (d := d + 3) (M := mX7_mayRing) (pc := 103) (As := [.int (f (w + 1) x2.toNatClampNeg), .int (f (w + 1) s0.toNatClampNeg), .ref (w + 12)]) (st := []) (c := 3) (ls' := [.ref 3, .int (f (w + 1) x2.toNatClampNeg), .int (f (w + 1) s0.toNatClampNeg), .ref (w + 12), .null]) dX7_mayRing_103 oX3_findRoute nX3_findRoute lX7_118 vX3_findRoute sX3_findRoute rfl sh3 (Nat.le_of_ble_eq_true rfl) rfl (Nat.le_of_ble_eq_true rfl) rfl ?_
      exact p5 c1 c2
theorem bX7_mayRing_106 {G : GC} {d : Nat} {sw : Bool} {f : FF} {Q : QQ} {w : Nat} (hw : isW w) {x2 : Int32} {x3 : Int32} {x4 : Int32} {x5 : Int32} {v6 : Value} {v7 : Value} {v8 : Value} {s0 : Int32} (p1 : XP G mX9_lowestFreePlace (d + 3) 0 [.ref w, .null] [] sw f (fun v sw' f' => XP G mX7_mayRing (d + 4) 116 [.ref 32, .ref w, .int x2, .int x3, .int x4, .int x5, .int s0, v7, v8] (retst v []) sw' f' Q)) : XP G mX7_mayRing (d + 4) 106 [.ref 32, .ref w, .int x2, .int x3, .int x4, .int x5, v6, v7, v8] [.int s0] sw f Q := by
  refine wp_goto (M := mX7_mayRing) (pc := 106) (t := 110) dX7_mayRing_106 (by decide) ?_
  refine wp_istore (M := mX7_mayRing) (pc := 110) (ls' := [.ref 32, .ref w, .int x2, .int x3, .int x4, .int x5, .int s0, v7, v8]) dX7_mayRing_110 (by decide) rfl ?_
  refine wp_aload_n (M := mX7_mayRing) (pc := 112) dX7_mayRing_112 rfl rfl ?_
  refine xs_callV (d := d + 3) (M := mX7_mayRing) (pc := 113) (As := []) (st := []) (c := 9) (ls' := [.ref w, .null]) dX7_mayRing_113 oX9_lowestFreePlace nX9_lowestFreePlace lX7_124 vX9_lowestFreePlace sX9_lowestFreePlace rfl (shW hw) (Nat.le_of_ble_eq_true rfl) rfl (Nat.le_of_ble_eq_true rfl) rfl ?_
  exact p1
theorem bX7_mayRing_116 {G : GC} {d : Nat} {sw : Bool} {f : FF} {Q : QQ} {w : Nat} (hw : isW w) {x2 : Int32} {x3 : Int32} {x4 : Int32} {x5 : Int32} {x6 : Int32} {v7 : Value} {v8 : Value} {s0 : Int32} (p1 : (x6 = (-1)) → Q none sw (upd2 f 32 6 ((f 32 6) + 1))) (p2 : (¬ x6 = (-1)) → (¬ s0 = (-1)) → XP G mX5_lookAtCall (d + 3) 0 [.ref 33, .ref w, .int x4, .int x6] [] sw f (fun v sw' f' => XP G mX7_mayRing (d + 4) 153 [.ref 32, .ref w, .int x2, .int x3, .int x4, .int x5, .int x6, .int s0, v8] (retst v []) sw' f' Q)) (p3 : (¬ x6 = (-1)) → (s0 = (-1)) → Q none sw (upd2 f 32 6 ((f 32 6) + 1))) : XP G mX7_mayRing (d + 4) 116 [.ref 32, .ref w, .int x2, .int x3, .int x4, .int x5, .int x6, v7, v8] [.int s0] sw f Q := by
  refine wp_istore (M := mX7_mayRing) (pc := 116) (ls' := [.ref 32, .ref w, .int x2, .int x3, .int x4, .int x5, .int x6, .int s0, v8]) dX7_mayRing_116 (by decide) rfl ?_
  refine wp_iload (M := mX7_mayRing) (pc := 118) dX7_mayRing_118 rfl ?_
  refine wp_iconst (M := mX7_mayRing) (pc := 120) dX7_mayRing_120 k_iconst_m1 ?_
  refine wp_icmp_eq (M := mX7_mayRing) (pc := 121) (t := 130) dX7_mayRing_121 (by decide) (fun c1 => ?_) (fun c1 => ?_)
  · refine wp_aload_n (M := mX7_mayRing) (pc := 130) dX7_mayRing_130 rfl rfl ?_
    refine wp_dup (M := mX7_mayRing) (pc := 131) dX7_mayRing_131 ?_
    refine xs_geti (M := mX7_mayRing) (pc := 132) dX7_mayRing_132 fX7_39 sh32 rfl ?_
    refine wp_iconst (M := mX7_mayRing) (pc := 135) dX7_mayRing_135 k_iconst_1 ?_
    refine wp_iadd (M := mX7_mayRing) (pc := 136) dX7_mayRing_136 ?_
    refine xs_puti (M := mX7_mayRing) (pc := 137) dX7_mayRing_137 pX7_39 sh32 rfl ?_
    exact xs_ret (M := mX7_mayRing) (pc := 140) dX7_mayRing_140 rfl (p1 c1)
  · refine wp_iload (M := mX7_mayRing) (pc := 124) dX7_mayRing_124 rfl ?_
    refine wp_iconst (M := mX7_mayRing) (pc := 126) dX7_mayRing_126 k_iconst_m1 ?_
    refine wp_icmp_ne (M := mX7_mayRing) (pc := 127) (t := 141) dX7_mayRing_127 (by decide) (fun c2 => ?_) (fun c2 => ?_)
    · refine wp_aload_n (M := mX7_mayRing) (pc := 141) dX7_mayRing_141 rfl rfl ?_
      refine xs_getr (M := mX7_mayRing) (pc := 142) (r := 33) dX7_mayRing_142 fX7_12 sh32 rfl (gr32_1 sw) ?_
      refine wp_aload_n (M := mX7_mayRing) (pc := 145) dX7_mayRing_145 rfl rfl ?_
      refine wp_iload (M := mX7_mayRing) (pc := 146) dX7_mayRing_146 rfl ?_
      refine wp_iload (M := mX7_mayRing) (pc := 148) dX7_mayRing_148 rfl ?_
      refine xs_callV (d := d + 3) (M := mX7_mayRing) (pc := 150) (As := [.ref w, .int x4, .int x6]) (st := []) (c := 5) (ls' := [.ref 33, .ref w, .int x4, .int x6]) dX7_mayRing_150 oX5_lookAtCall nX5_lookAtCall lX7_127 vX5_lookAtCall sX5_lookAtCall rfl sh33 (Nat.le_of_ble_eq_true rfl) rfl (Nat.le_of_ble_eq_true rfl) rfl ?_
      exact p2 c1 c2
    · refine wp_aload_n (M := mX7_mayRing) (pc := 130) dX7_mayRing_130 rfl rfl ?_
      refine wp_dup (M := mX7_mayRing) (pc := 131) dX7_mayRing_131 ?_
      refine xs_geti (M := mX7_mayRing) (pc := 132) dX7_mayRing_132 fX7_39 sh32 rfl ?_
      refine wp_iconst (M := mX7_mayRing) (pc := 135) dX7_mayRing_135 k_iconst_1 ?_
      refine wp_iadd (M := mX7_mayRing) (pc := 136) dX7_mayRing_136 ?_
      refine xs_puti (M := mX7_mayRing) (pc := 137) dX7_mayRing_137 pX7_39 sh32 rfl ?_
      exact xs_ret (M := mX7_mayRing) (pc := 140) dX7_mayRing_140 rfl (p3 c1 c2)
theorem bX7_mayRing_153 {G : GC} {d : Nat} {sw : Bool} {f : FF} {Q : QQ} {w : Nat} (hw : isW w) {x2 : Int32} {x3 : Int32} {x4 : Int32} {x5 : Int32} {x6 : Int32} {x7 : Int32} {v8 : Value} (p1 : XP G mX5_valueOf (d + 3) 0 [.ref 33, .ref (lwB sw), .int 108, .int 99, .null] [] sw f (fun v sw' f' => XP G mX7_mayRing (d + 4) 168 [.ref 32, .ref w, .int x2, .int x3, .int x4, .int x5, .int x6, .int x7, v8] (retst v []) sw' f' Q)) : XP G mX7_mayRing (d + 4) 153 [.ref 32, .ref w, .int x2, .int x3, .int x4, .int x5, .int x6, .int x7, v8] [] sw f Q := by
  refine wp_aload_n (M := mX7_mayRing) (pc := 153) dX7_mayRing_153 rfl rfl ?_
  refine xs_getr (M := mX7_mayRing) (pc := 154) (r := 33) dX7_mayRing_154 fX7_12 sh32 rfl (gr32_1 sw) ?_
  refine wp_aload_n (M := mX7_mayRing) (pc := 157) dX7_mayRing_157 rfl rfl ?_
  refine xs_getr (M := mX7_mayRing) (pc := 158) (r := lwB sw) dX7_mayRing_158 fX7_21 sh32 rfl (gr32_2 sw) ?_
  refine wp_bipush (M := mX7_mayRing) (pc := 161) dX7_mayRing_161 k_bipush_108 ?_
  refine wp_bipush (M := mX7_mayRing) (pc := 163) dX7_mayRing_163 k_bipush_99 ?_
  refine xs_callV (d := d + 3) (M := mX7_mayRing) (pc := 165) (As := [.ref (lwB sw), .int 108, .int 99]) (st := []) (c := 5) (ls' := [.ref 33, .ref (lwB sw), .int 108, .int 99, .null]) dX7_mayRing_165 oX5_valueOf nX5_valueOf lX7_105 vX5_valueOf sX5_valueOf rfl sh33 (Nat.le_of_ble_eq_true rfl) rfl (Nat.le_of_ble_eq_true rfl) rfl ?_
  exact p1
theorem bX7_mayRing_168 {G : GC} {d : Nat} {sw : Bool} {f : FF} {Q : QQ} {w : Nat} (hw : isW w) {x2 : Int32} {x3 : Int32} {x4 : Int32} {x5 : Int32} {x6 : Int32} {x7 : Int32} {v8 : Value} {s0 : Int32} (p1 : (¬ s0 = 0) → XP G mX5_firstHolding (d + 3) 0 [.ref 33, .ref (lwB sw), .int 118, .null] [] sw f (fun v sw' f' => XP G mX7_mayRing (d + 4) 195 [.ref 32, .ref w, .int x2, .int x3, .int x4, .int x5, .int x6, .int x7, .int s0] (retst v [.int x7, .ref (w + 8)]) sw' f' Q)) (p2 : (s0 = 0) → Q none sw f) : XP G mX7_mayRing (d + 4) 168 [.ref 32, .ref w, .int x2, .int x3, .int x4, .int x5, .int x6, .int x7, v8] [.int s0] sw f Q := by
  refine wp_istore (M := mX7_mayRing) (pc := 168) (ls' := [.ref 32, .ref w, .int x2, .int x3, .int x4, .int x5, .int x6, .int x7, .int s0]) dX7_mayRing_168 (by decide) rfl ?_
  refine wp_iload (M := mX7_mayRing) (pc := 170) dX7_mayRing_170 rfl ?_
  refine wp_if_ne (M := mX7_mayRing) (pc := 172) (t := 176) dX7_mayRing_172 (by decide) (fun c1 => ?_) (fun c1 => ?_)
  · refine wp_aload_n (M := mX7_mayRing) (pc := 176) dX7_mayRing_176 rfl rfl ?_
    refine xs_getr (M := mX7_mayRing) (pc := 177) (r := w + 8) dX7_mayRing_177 fX7_85 (shW hw) rfl (grW_15 hw) ?_
    refine wp_iload (M := mX7_mayRing) (pc := 180) dX7_mayRing_180 rfl ?_
    refine wp_aload_n (M := mX7_mayRing) (pc := 182) dX7_mayRing_182 rfl rfl ?_
    refine xs_getr (M := mX7_mayRing) (pc := 183) (r := 33) dX7_mayRing_183 fX7_12 sh32 rfl (gr32_1 sw) ?_
    refine wp_aload_n (M := mX7_mayRing) (pc := 186) dX7_mayRing_186 rfl rfl ?_
    refine xs_getr (M := mX7_mayRing) (pc := 187) (r := lwB sw) dX7_mayRing_187 fX7_21 sh32 rfl (gr32_2 sw) ?_
    refine wp_bipush (M := mX7_mayRing) (pc := 190) dX7_mayRing_190 k_bipush_118 ?_
    refine xs_callV (d := d + 3) (M := mX7_mayRing) (pc := 192) (As := [.ref (lwB sw), .int 118]) (st := [.int x7, .ref (w + 8)]) (c := 5) (ls' := [.ref 33, .ref (lwB sw), .int 118, .null]) dX7_mayRing_192 oX5_firstHolding nX5_firstHolding lX7_131 vX5_firstHolding sX5_firstHolding rfl sh33 (Nat.le_of_ble_eq_true rfl) rfl (Nat.le_of_ble_eq_true rfl) rfl ?_
    exact p1 c1
  · exact xs_ret (M := mX7_mayRing) (pc := 175) dX7_mayRing_175 rfl (p2 c1)
theorem bX7_mayRing_195 {G : GC} {d : Nat} {sw : Bool} {f : FF} {Q : QQ} {w : Nat} (hw : isW w) {x2 : Int32} {x3 : Int32} {x4 : Int32} {x5 : Int32} {x6 : Int32} {x7 : Int32} {x8 : Int32} {s0 : Int32} {s1 : Int32} (p1 : (¬ s0 = (-1)) → vp_in s1 20) (p2 : (¬ s0 = (-1)) → XP G mX9_begin (d + 3) 0 [.ref w, .int x7, .int x2, .int x4, .int x8] [] sw (upd2 f (w + 8) s1.toNatClampNeg x4) (fun v sw' f' => XP G mX7_mayRing (d + 4) 217 [.ref 32, .ref w, .int x2, .int x3, .int x4, .int x5, .int x6, .int x7, .int x8] (retst v []) sw' f' Q)) (p3 : (s0 = (-1)) → vp_in s1 20) (p4 : (s0 = (-1)) → XP G mX9_begin (d + 3) 0 [.ref w, .int x7, .int x2, .int x4, .int x8] [] sw (upd2 f (w + 8) s1.toNatClampNeg x2) (fun v sw' f' => XP G mX7_mayRing (d + 4) 217 [.ref 32, .ref w, .int x2, .int x3, .int x4, .int x5, .int x6, .int x7, .int x8] (retst v []) sw' f' Q)) : XP G mX7_mayRing (d + 4) 195 [.ref 32, .ref w, .int x2, .int x3, .int x4, .int x5, .int x6, .int x7, .int x8] [.int s0, .int s1, .ref (w + 8)] sw f Q := by
  refine wp_iconst (M := mX7_mayRing) (pc := 195) dX7_mayRing_195 k_iconst_m1 ?_
  refine wp_icmp_ne (M := mX7_mayRing) (pc := 196) (t := 203) dX7_mayRing_196 (by decide) (fun c1 => ?_) (fun c1 => ?_)
  · refine wp_iload (M := mX7_mayRing) (pc := 203) dX7_mayRing_203 rfl ?_
    refine xs_iast (M := mX7_mayRing) (pc := 205) (j := s1.toNatClampNeg) dX7_mayRing_205 (shW_8 hw) (p1 c1) rfl ?_
    refine wp_aload_n (M := mX7_mayRing) (pc := 206) dX7_mayRing_206 rfl rfl ?_
    refine wp_iload (M := mX7_mayRing) (pc := 207) dX7_mayRing_207 rfl ?_
    refine wp_iload_n (M := mX7_mayRing) (pc := 209) dX7_mayRing_209 rfl rfl ?_
    refine wp_iload (M := mX7_mayRing) (pc := 210) dX7_mayRing_210 rfl ?_
    refine wp_iload (M := mX7_mayRing) (pc := 212) dX7_mayRing_212 rfl ?_
    refine xs_callV (d := d + 3) (M := mX7_mayRing) (pc := 214) (As := [.int x7, .int x2, .int x4, .int x8]) (st := []) (c := 9) (ls' := [.ref w, .int x7, .int x2, .int x4, .int x8]) dX7_mayRing_214 oX9_begin nX9_begin lX7_135 vX9_begin sX9_begin rfl (shW hw) (Nat.le_of_ble_eq_true rfl) rfl (Nat.le_of_ble_eq_true rfl) rfl ?_
    exact p2 c1
  · refine wp_iload_n (M := mX7_mayRing) (pc := 199) dX7_mayRing_199 rfl rfl ?_
    refine wp_goto (M := mX7_mayRing) (pc := 200) (t := 205) dX7_mayRing_200 (by decide) ?_
    refine xs_iast (M := mX7_mayRing) (pc := 205) (j := s1.toNatClampNeg) dX7_mayRing_205 (shW_8 hw) (p3 c1) rfl ?_
    refine wp_aload_n (M := mX7_mayRing) (pc := 206) dX7_mayRing_206 rfl rfl ?_
    refine wp_iload (M := mX7_mayRing) (pc := 207) dX7_mayRing_207 rfl ?_
    refine wp_iload_n (M := mX7_mayRing) (pc := 209) dX7_mayRing_209 rfl rfl ?_
    refine wp_iload (M := mX7_mayRing) (pc := 210) dX7_mayRing_210 rfl ?_
    refine wp_iload (M := mX7_mayRing) (pc := 212) dX7_mayRing_212 rfl ?_
    refine xs_callV (d := d + 3) (M := mX7_mayRing) (pc := 214) (As := [.int x7, .int x2, .int x4, .int x8]) (st := []) (c := 9) (ls' := [.ref w, .int x7, .int x2, .int x4, .int x8]) dX7_mayRing_214 oX9_begin nX9_begin lX7_135 vX9_begin sX9_begin rfl (shW hw) (Nat.le_of_ble_eq_true rfl) rfl (Nat.le_of_ble_eq_true rfl) rfl ?_
    exact p4 c1
theorem bX7_mayRing_217 {G : GC} {d : Nat} {sw : Bool} {f : FF} {Q : QQ} {w : Nat} (hw : isW w) {x2 : Int32} {x3 : Int32} {x4 : Int32} {x5 : Int32} {x6 : Int32} {x7 : Int32} {x8 : Int32} (p1 : XP G mX9_seize (d + 3) 0 [.ref w, .int x7, .ref 5, .int x6] [] sw f (fun v sw' f' => XP G mX7_mayRing (d + 4) 232 [.ref 32, .ref w, .int x2, .int x3, .int x4, .int x5, .int x6, .int x7, .int x8] (retst v []) sw' f' Q)) : XP G mX7_mayRing (d + 4) 217 [.ref 32, .ref w, .int x2, .int x3, .int x4, .int x5, .int x6, .int x7, .int x8] [] sw f Q := by
  refine wp_aload_n (M := mX7_mayRing) (pc := 217) dX7_mayRing_217 rfl rfl ?_
  refine wp_iload (M := mX7_mayRing) (pc := 218) dX7_mayRing_218 rfl ?_
  refine wp_aload_n (M := mX7_mayRing) (pc := 220) dX7_mayRing_220 rfl rfl ?_
  refine xs_getr (M := mX7_mayRing) (pc := 221) (r := 3) dX7_mayRing_221 fX7_32 sh32 rfl (gr32_0 sw) ?_
  refine xs_getr (M := mX7_mayRing) (pc := 224) (r := 5) dX7_mayRing_224 fX7_139 sh3 rfl (gr3_1 sw) ?_
  refine wp_iload (M := mX7_mayRing) (pc := 227) dX7_mayRing_227 rfl ?_
  refine xs_callV (d := d + 3) (M := mX7_mayRing) (pc := 229) (As := [.int x7, .ref 5, .int x6]) (st := []) (c := 9) (ls' := [.ref w, .int x7, .ref 5, .int x6]) dX7_mayRing_229 oX9_seize nX9_seize lX7_142 vX9_seize sX9_seize rfl (shW hw) (Nat.le_of_ble_eq_true rfl) rfl (Nat.le_of_ble_eq_true rfl) rfl ?_
  exact p1
theorem bX7_mayRing_232 {G : GC} {d : Nat} {sw : Bool} {f : FF} {Q : QQ} {w : Nat} (hw : isW w) {x2 : Int32} {x3 : Int32} {x4 : Int32} {x5 : Int32} {x6 : Int32} {x7 : Int32} {x8 : Int32} (p1 : Q none sw (upd2 f 32 5 ((f 32 5) + 1))) : XP G mX7_mayRing (d + 4) 232 [.ref 32, .ref w, .int x2, .int x3, .int x4, .int x5, .int x6, .int x7, .int x8] [] sw f Q := by
  refine wp_aload_n (M := mX7_mayRing) (pc := 232) dX7_mayRing_232 rfl rfl ?_
  refine wp_dup (M := mX7_mayRing) (pc := 233) dX7_mayRing_233 ?_
  refine xs_geti (M := mX7_mayRing) (pc := 234) dX7_mayRing_234 fX7_36 sh32 rfl ?_
  refine wp_iconst (M := mX7_mayRing) (pc := 237) dX7_mayRing_237 k_iconst_1 ?_
  refine wp_iadd (M := mX7_mayRing) (pc := 238) dX7_mayRing_238 ?_
  refine xs_puti (M := mX7_mayRing) (pc := 239) dX7_mayRing_239 pX7_36 sh32 rfl ?_
  exact xs_ret (M := mX7_mayRing) (pc := 242) dX7_mayRing_242 rfl (p1)
theorem bX5_lookAt_0 {G : GC} {d : Nat} {sw : Bool} {f : FF} {Q : QQ} {w : Nat} (hw : isW w) {x2 : Int32} (p1 : vp_in x2 16) (p2 : (¬ ((((upd2 (upd2 f 34 0 x2) 34 1 ((upd2 f 34 0 x2) (w + 1) x2.toNatClampNeg)) w 1) >>> (x2 &&& 31)) &&& 1) = 0) → vp_in x2 16) (p3 : (¬ ((((upd2 (upd2 f 34 0 x2) 34 1 ((upd2 f 34 0 x2) (w + 1) x2.toNatClampNeg)) w 1) >>> (x2 &&& 31)) &&& 1) = 0) → Q none sw (upd2 (upd2 (upd2 (upd2 (upd2 (upd2 (upd2 (upd2 (upd2 (upd2 f 34 0 x2) 34 1 ((upd2 f 34 0 x2) (w + 1) x2.toNatClampNeg)) 34 2 0) 34 3 ((upd2 (upd2 (upd2 f 34 0 x2) 34 1 ((upd2 f 34 0 x2) (w + 1) x2.toNatClampNeg)) 34 2 0) (w + 2) x2.toNatClampNeg)) 34 4 (((upd2 (upd2 (upd2 (upd2 f 34 0 x2) 34 1 ((upd2 f 34 0 x2) (w + 1) x2.toNatClampNeg)) 34 2 0) 34 3 ((upd2 (upd2 (upd2 f 34 0 x2) 34 1 ((upd2 f 34 0 x2) (w + 1) x2.toNatClampNeg)) 34 2 0) (w + 2) x2.toNatClampNeg)) w 5) / 100)) 34 5 (((upd2 (upd2 (upd2 (upd2 (upd2 f 34 0 x2) 34 1 ((upd2 f 34 0 x2) (w + 1) x2.toNatClampNeg)) 34 2 0) 34 3 ((upd2 (upd2 (upd2 f 34 0 x2) 34 1 ((upd2 f 34 0 x2) (w + 1) x2.toNatClampNeg)) 34 2 0) (w + 2) x2.toNatClampNeg)) 34 4 (((upd2 (upd2 (upd2 (upd2 f 34 0 x2) 34 1 ((upd2 f 34 0 x2) (w + 1) x2.toNatClampNeg)) 34 2 0) 34 3 ((upd2 (upd2 (upd2 f 34 0 x2) 34 1 ((upd2 f 34 0 x2) (w + 1) x2.toNatClampNeg)) 34 2 0) (w + 2) x2.toNatClampNeg)) w 5) / 100)) w 6) - ((upd2 (upd2 (upd2 (upd2 (upd2 f 34 0 x2) 34 1 ((upd2 f 34 0 x2) (w + 1) x2.toNatClampNeg)) 34 2 0) 34 3 ((upd2 (upd2 (upd2 f 34 0 x2) 34 1 ((upd2 f 34 0 x2) (w + 1) x2.toNatClampNeg)) 34 2 0) (w + 2) x2.toNatClampNeg)) 34 4 (((upd2 (upd2 (upd2 (upd2 f 34 0 x2) 34 1 ((upd2 f 34 0 x2) (w + 1) x2.toNatClampNeg)) 34 2 0) 34 3 ((upd2 (upd2 (upd2 f 34 0 x2) 34 1 ((upd2 f 34 0 x2) (w + 1) x2.toNatClampNeg)) 34 2 0) (w + 2) x2.toNatClampNeg)) w 5) / 100)) w 6) / 60 * 60)) 34 6 ((((upd2 (upd2 (upd2 (upd2 (upd2 (upd2 f 34 0 x2) 34 1 ((upd2 f 34 0 x2) (w + 1) x2.toNatClampNeg)) 34 2 0) 34 3 ((upd2 (upd2 (upd2 f 34 0 x2) 34 1 ((upd2 f 34 0 x2) (w + 1) x2.toNatClampNeg)) 34 2 0) (w + 2) x2.toNatClampNeg)) 34 4 (((upd2 (upd2 (upd2 (upd2 f 34 0 x2) 34 1 ((upd2 f 34 0 x2) (w + 1) x2.toNatClampNeg)) 34 2 0) 34 3 ((upd2 (upd2 (upd2 f 34 0 x2) 34 1 ((upd2 f 34 0 x2) (w + 1) x2.toNatClampNeg)) 34 2 0) (w + 2) x2.toNatClampNeg)) w 5) / 100)) 34 5 (((upd2 (upd2 (upd2 (upd2 (upd2 f 34 0 x2) 34 1 ((upd2 f 34 0 x2) (w + 1) x2.toNatClampNeg)) 34 2 0) 34 3 ((upd2 (upd2 (upd2 f 34 0 x2) 34 1 ((upd2 f 34 0 x2) (w + 1) x2.toNatClampNeg)) 34 2 0) (w + 2) x2.toNatClampNeg)) 34 4 (((upd2 (upd2 (upd2 (upd2 f 34 0 x2) 34 1 ((upd2 f 34 0 x2) (w + 1) x2.toNatClampNeg)) 34 2 0) 34 3 ((upd2 (upd2 (upd2 f 34 0 x2) 34 1 ((upd2 f 34 0 x2) (w + 1) x2.toNatClampNeg)) 34 2 0) (w + 2) x2.toNatClampNeg)) w 5) / 100)) w 6) - ((upd2 (upd2 (upd2 (upd2 (upd2 f 34 0 x2) 34 1 ((upd2 f 34 0 x2) (w + 1) x2.toNatClampNeg)) 34 2 0) 34 3 ((upd2 (upd2 (upd2 f 34 0 x2) 34 1 ((upd2 f 34 0 x2) (w + 1) x2.toNatClampNeg)) 34 2 0) (w + 2) x2.toNatClampNeg)) 34 4 (((upd2 (upd2 (upd2 (upd2 f 34 0 x2) 34 1 ((upd2 f 34 0 x2) (w + 1) x2.toNatClampNeg)) 34 2 0) 34 3 ((upd2 (upd2 (upd2 f 34 0 x2) 34 1 ((upd2 f 34 0 x2) (w + 1) x2.toNatClampNeg)) 34 2 0) (w + 2) x2.toNatClampNeg)) w 5) / 100)) w 6) / 60 * 60)) w 6) / 60) - (((upd2 (upd2 (upd2 (upd2 (upd2 (upd2 f 34 0 x2) 34 1 ((upd2 f 34 0 x2) (w + 1) x2.toNatClampNeg)) 34 2 0) 34 3 ((upd2 (upd2 (upd2 f 34 0 x2) 34 1 ((upd2 f 34 0 x2) (w + 1) x2.toNatClampNeg)) 34 2 0) (w + 2) x2.toNatClampNeg)) 34 4 (((upd2 (upd2 (upd2 (upd2 f 34 0 x2) 34 1 ((upd2 f 34 0 x2) (w + 1) x2.toNatClampNeg)) 34 2 0) 34 3 ((upd2 (upd2 (upd2 f 34 0 x2) 34 1 ((upd2 f 34 0 x2) (w + 1) x2.toNatClampNeg)) 34 2 0) (w + 2) x2.toNatClampNeg)) w 5) / 100)) 34 5 (((upd2 (upd2 (upd2 (upd2 (upd2 f 34 0 x2) 34 1 ((upd2 f 34 0 x2) (w + 1) x2.toNatClampNeg)) 34 2 0) 34 3 ((upd2 (upd2 (upd2 f 34 0 x2) 34 1 ((upd2 f 34 0 x2) (w + 1) x2.toNatClampNeg)) 34 2 0) (w + 2) x2.toNatClampNeg)) 34 4 (((upd2 (upd2 (upd2 (upd2 f 34 0 x2) 34 1 ((upd2 f 34 0 x2) (w + 1) x2.toNatClampNeg)) 34 2 0) 34 3 ((upd2 (upd2 (upd2 f 34 0 x2) 34 1 ((upd2 f 34 0 x2) (w + 1) x2.toNatClampNeg)) 34 2 0) (w + 2) x2.toNatClampNeg)) w 5) / 100)) w 6) - ((upd2 (upd2 (upd2 (upd2 (upd2 f 34 0 x2) 34 1 ((upd2 f 34 0 x2) (w + 1) x2.toNatClampNeg)) 34 2 0) 34 3 ((upd2 (upd2 (upd2 f 34 0 x2) 34 1 ((upd2 f 34 0 x2) (w + 1) x2.toNatClampNeg)) 34 2 0) (w + 2) x2.toNatClampNeg)) 34 4 (((upd2 (upd2 (upd2 (upd2 f 34 0 x2) 34 1 ((upd2 f 34 0 x2) (w + 1) x2.toNatClampNeg)) 34 2 0) 34 3 ((upd2 (upd2 (upd2 f 34 0 x2) 34 1 ((upd2 f 34 0 x2) (w + 1) x2.toNatClampNeg)) 34 2 0) (w + 2) x2.toNatClampNeg)) w 5) / 100)) w 6) / 60 * 60)) w 6) / 60) / 24 * 24)) 34 7 0) 34 8 0) 34 9 0)) (p4 : (((((upd2 (upd2 f 34 0 x2) 34 1 ((upd2 f 34 0 x2) (w + 1) x2.toNatClampNeg)) w 1) >>> (x2 &&& 31)) &&& 1) = 0) → vp_in x2 16) (p5 : (((((upd2 (upd2 f 34 0 x2) 34 1 ((upd2 f 34 0 x2) (w + 1) x2.toNatClampNeg)) w 1) >>> (x2 &&& 31)) &&& 1) = 0) → Q none sw (upd2 (upd2 (upd2 (upd2 (upd2 (upd2 (upd2 (upd2 (upd2 (upd2 f 34 0 x2) 34 1 ((upd2 f 34 0 x2) (w + 1) x2.toNatClampNeg)) 34 2 1) 34 3 ((upd2 (upd2 (upd2 f 34 0 x2) 34 1 ((upd2 f 34 0 x2) (w + 1) x2.toNatClampNeg)) 34 2 1) (w + 2) x2.toNatClampNeg)) 34 4 (((upd2 (upd2 (upd2 (upd2 f 34 0 x2) 34 1 ((upd2 f 34 0 x2) (w + 1) x2.toNatClampNeg)) 34 2 1) 34 3 ((upd2 (upd2 (upd2 f 34 0 x2) 34 1 ((upd2 f 34 0 x2) (w + 1) x2.toNatClampNeg)) 34 2 1) (w + 2) x2.toNatClampNeg)) w 5) / 100)) 34 5 (((upd2 (upd2 (upd2 (upd2 (upd2 f 34 0 x2) 34 1 ((upd2 f 34 0 x2) (w + 1) x2.toNatClampNeg)) 34 2 1) 34 3 ((upd2 (upd2 (upd2 f 34 0 x2) 34 1 ((upd2 f 34 0 x2) (w + 1) x2.toNatClampNeg)) 34 2 1) (w + 2) x2.toNatClampNeg)) 34 4 (((upd2 (upd2 (upd2 (upd2 f 34 0 x2) 34 1 ((upd2 f 34 0 x2) (w + 1) x2.toNatClampNeg)) 34 2 1) 34 3 ((upd2 (upd2 (upd2 f 34 0 x2) 34 1 ((upd2 f 34 0 x2) (w + 1) x2.toNatClampNeg)) 34 2 1) (w + 2) x2.toNatClampNeg)) w 5) / 100)) w 6) - ((upd2 (upd2 (upd2 (upd2 (upd2 f 34 0 x2) 34 1 ((upd2 f 34 0 x2) (w + 1) x2.toNatClampNeg)) 34 2 1) 34 3 ((upd2 (upd2 (upd2 f 34 0 x2) 34 1 ((upd2 f 34 0 x2) (w + 1) x2.toNatClampNeg)) 34 2 1) (w + 2) x2.toNatClampNeg)) 34 4 (((upd2 (upd2 (upd2 (upd2 f 34 0 x2) 34 1 ((upd2 f 34 0 x2) (w + 1) x2.toNatClampNeg)) 34 2 1) 34 3 ((upd2 (upd2 (upd2 f 34 0 x2) 34 1 ((upd2 f 34 0 x2) (w + 1) x2.toNatClampNeg)) 34 2 1) (w + 2) x2.toNatClampNeg)) w 5) / 100)) w 6) / 60 * 60)) 34 6 ((((upd2 (upd2 (upd2 (upd2 (upd2 (upd2 f 34 0 x2) 34 1 ((upd2 f 34 0 x2) (w + 1) x2.toNatClampNeg)) 34 2 1) 34 3 ((upd2 (upd2 (upd2 f 34 0 x2) 34 1 ((upd2 f 34 0 x2) (w + 1) x2.toNatClampNeg)) 34 2 1) (w + 2) x2.toNatClampNeg)) 34 4 (((upd2 (upd2 (upd2 (upd2 f 34 0 x2) 34 1 ((upd2 f 34 0 x2) (w + 1) x2.toNatClampNeg)) 34 2 1) 34 3 ((upd2 (upd2 (upd2 f 34 0 x2) 34 1 ((upd2 f 34 0 x2) (w + 1) x2.toNatClampNeg)) 34 2 1) (w + 2) x2.toNatClampNeg)) w 5) / 100)) 34 5 (((upd2 (upd2 (upd2 (upd2 (upd2 f 34 0 x2) 34 1 ((upd2 f 34 0 x2) (w + 1) x2.toNatClampNeg)) 34 2 1) 34 3 ((upd2 (upd2 (upd2 f 34 0 x2) 34 1 ((upd2 f 34 0 x2) (w + 1) x2.toNatClampNeg)) 34 2 1) (w + 2) x2.toNatClampNeg)) 34 4 (((upd2 (upd2 (upd2 (upd2 f 34 0 x2) 34 1 ((upd2 f 34 0 x2) (w + 1) x2.toNatClampNeg)) 34 2 1) 34 3 ((upd2 (upd2 (upd2 f 34 0 x2) 34 1 ((upd2 f 34 0 x2) (w + 1) x2.toNatClampNeg)) 34 2 1) (w + 2) x2.toNatClampNeg)) w 5) / 100)) w 6) - ((upd2 (upd2 (upd2 (upd2 (upd2 f 34 0 x2) 34 1 ((upd2 f 34 0 x2) (w + 1) x2.toNatClampNeg)) 34 2 1) 34 3 ((upd2 (upd2 (upd2 f 34 0 x2) 34 1 ((upd2 f 34 0 x2) (w + 1) x2.toNatClampNeg)) 34 2 1) (w + 2) x2.toNatClampNeg)) 34 4 (((upd2 (upd2 (upd2 (upd2 f 34 0 x2) 34 1 ((upd2 f 34 0 x2) (w + 1) x2.toNatClampNeg)) 34 2 1) 34 3 ((upd2 (upd2 (upd2 f 34 0 x2) 34 1 ((upd2 f 34 0 x2) (w + 1) x2.toNatClampNeg)) 34 2 1) (w + 2) x2.toNatClampNeg)) w 5) / 100)) w 6) / 60 * 60)) w 6) / 60) - (((upd2 (upd2 (upd2 (upd2 (upd2 (upd2 f 34 0 x2) 34 1 ((upd2 f 34 0 x2) (w + 1) x2.toNatClampNeg)) 34 2 1) 34 3 ((upd2 (upd2 (upd2 f 34 0 x2) 34 1 ((upd2 f 34 0 x2) (w + 1) x2.toNatClampNeg)) 34 2 1) (w + 2) x2.toNatClampNeg)) 34 4 (((upd2 (upd2 (upd2 (upd2 f 34 0 x2) 34 1 ((upd2 f 34 0 x2) (w + 1) x2.toNatClampNeg)) 34 2 1) 34 3 ((upd2 (upd2 (upd2 f 34 0 x2) 34 1 ((upd2 f 34 0 x2) (w + 1) x2.toNatClampNeg)) 34 2 1) (w + 2) x2.toNatClampNeg)) w 5) / 100)) 34 5 (((upd2 (upd2 (upd2 (upd2 (upd2 f 34 0 x2) 34 1 ((upd2 f 34 0 x2) (w + 1) x2.toNatClampNeg)) 34 2 1) 34 3 ((upd2 (upd2 (upd2 f 34 0 x2) 34 1 ((upd2 f 34 0 x2) (w + 1) x2.toNatClampNeg)) 34 2 1) (w + 2) x2.toNatClampNeg)) 34 4 (((upd2 (upd2 (upd2 (upd2 f 34 0 x2) 34 1 ((upd2 f 34 0 x2) (w + 1) x2.toNatClampNeg)) 34 2 1) 34 3 ((upd2 (upd2 (upd2 f 34 0 x2) 34 1 ((upd2 f 34 0 x2) (w + 1) x2.toNatClampNeg)) 34 2 1) (w + 2) x2.toNatClampNeg)) w 5) / 100)) w 6) - ((upd2 (upd2 (upd2 (upd2 (upd2 f 34 0 x2) 34 1 ((upd2 f 34 0 x2) (w + 1) x2.toNatClampNeg)) 34 2 1) 34 3 ((upd2 (upd2 (upd2 f 34 0 x2) 34 1 ((upd2 f 34 0 x2) (w + 1) x2.toNatClampNeg)) 34 2 1) (w + 2) x2.toNatClampNeg)) 34 4 (((upd2 (upd2 (upd2 (upd2 f 34 0 x2) 34 1 ((upd2 f 34 0 x2) (w + 1) x2.toNatClampNeg)) 34 2 1) 34 3 ((upd2 (upd2 (upd2 f 34 0 x2) 34 1 ((upd2 f 34 0 x2) (w + 1) x2.toNatClampNeg)) 34 2 1) (w + 2) x2.toNatClampNeg)) w 5) / 100)) w 6) / 60 * 60)) w 6) / 60) / 24 * 24)) 34 7 0) 34 8 0) 34 9 0)) : XP G mX5_lookAt (d) 0 [.ref 33, .ref w, .int x2] [] sw f Q := by
  refine wp_aload_n (M := mX5_lookAt) (pc := 0) dX5_lookAt_0 rfl rfl ?_
  refine xs_getr (M := mX5_lookAt) (pc := 1) (r := 34) dX5_lookAt_1 fX5_11 sh33 rfl (gr33_0 sw) ?_
  refine wp_iconst (M := mX5_lookAt) (pc := 4) dX5_lookAt_4 k_iconst_0 ?_
  refine wp_iload_n (M := mX5_lookAt) (pc := 5) dX5_lookAt_5 rfl rfl ?_
  refine xs_iast (M := mX5_lookAt) (pc := 6) (j := 0) dX5_lookAt_6 sh34 (vin (by decide)) rfl ?_
  refine wp_aload_n (M := mX5_lookAt) (pc := 7) dX5_lookAt_7 rfl rfl ?_
  refine xs_getr (M := mX5_lookAt) (pc := 8) (r := 34) dX5_lookAt_8 fX5_11 sh33 rfl (gr33_0 sw) ?_
  refine wp_iconst (M := mX5_lookAt) (pc := 11) dX5_lookAt_11 k_iconst_1 ?_
  refine wp_aload_n (M := mX5_lookAt) (pc := 12) dX5_lookAt_12 rfl rfl ?_
  refine xs_getr (M := mX5_lookAt) (pc := 13) (r := w + 1) dX5_lookAt_13 fX5_18 (shW hw) rfl (grW_8 hw) ?_
  refine wp_iload_n (M := mX5_lookAt) (pc := 16) dX5_lookAt_16 rfl rfl ?_
  refine xs_iald (M := mX5_lookAt) (pc := 17) (j := x2.toNatClampNeg) dX5_lookAt_17 (shW_1 hw) (p1) rfl ?_
  refine xs_iast (M := mX5_lookAt) (pc := 18) (j := 1) dX5_lookAt_18 sh34 (vin (by decide)) rfl ?_
  refine wp_aload_n (M := mX5_lookAt) (pc := 19) dX5_lookAt_19 rfl rfl ?_
  refine xs_getr (M := mX5_lookAt) (pc := 20) (r := 34) dX5_lookAt_20 fX5_11 sh33 rfl (gr33_0 sw) ?_
  refine wp_iconst (M := mX5_lookAt) (pc := 23) dX5_lookAt_23 k_iconst_2 ?_
  refine wp_aload_n (M := mX5_lookAt) (pc := 24) dX5_lookAt_24 rfl rfl ?_
  refine xs_geti (M := mX5_lookAt) (pc := 25) dX5_lookAt_25 fX5_23 (shW hw) rfl ?_
  refine wp_iload_n (M := mX5_lookAt) (pc := 28) dX5_lookAt_28 rfl rfl ?_
  refine wp_ishr (M := mX5_lookAt) (pc := 29) dX5_lookAt_29 ?_
  refine wp_iconst (M := mX5_lookAt) (pc := 30) dX5_lookAt_30 k_iconst_1 ?_
  refine wp_iand (M := mX5_lookAt) (pc := 31) dX5_lookAt_31 ?_
  refine wp_if_ne (M := mX5_lookAt) (pc := 32) (t := 39) dX5_lookAt_32 (by decide) (fun c1 => ?_) (fun c1 => ?_)
  · refine wp_iconst (M := mX5_lookAt) (pc := 39) dX5_lookAt_39 k_iconst_0 ?_
    refine xs_iast (M := mX5_lookAt) (pc := 40) (j := 2) dX5_lookAt_40 sh34 (vin (by decide)) rfl ?_
    refine wp_aload_n (M := mX5_lookAt) (pc := 41) dX5_lookAt_41 rfl rfl ?_
    refine xs_getr (M := mX5_lookAt) (pc := 42) (r := 34) dX5_lookAt_42 fX5_11 sh33 rfl (gr33_0 sw) ?_
    refine wp_iconst (M := mX5_lookAt) (pc := 45) dX5_lookAt_45 k_iconst_3 ?_
    refine wp_aload_n (M := mX5_lookAt) (pc := 46) dX5_lookAt_46 rfl rfl ?_
    refine xs_getr (M := mX5_lookAt) (pc := 47) (r := w + 2) dX5_lookAt_47 fX5_27 (shW hw) rfl (grW_9 hw) ?_
    refine wp_iload_n (M := mX5_lookAt) (pc := 50) dX5_lookAt_50 rfl rfl ?_
    refine xs_iald (M := mX5_lookAt) (pc := 51) (j := x2.toNatClampNeg) dX5_lookAt_51 (shW_2 hw) (p2 c1) rfl ?_
    refine xs_iast (M := mX5_lookAt) (pc := 52) (j := 3) dX5_lookAt_52 sh34 (vin (by decide)) rfl ?_
    refine wp_aload_n (M := mX5_lookAt) (pc := 53) dX5_lookAt_53 rfl rfl ?_
    refine xs_getr (M := mX5_lookAt) (pc := 54) (r := 34) dX5_lookAt_54 fX5_11 sh33 rfl (gr33_0 sw) ?_
    refine wp_iconst (M := mX5_lookAt) (pc := 57) dX5_lookAt_57 k_iconst_4 ?_
    refine wp_aload_n (M := mX5_lookAt) (pc := 58) dX5_lookAt_58 rfl rfl ?_
    refine xs_geti (M := mX5_lookAt) (pc := 59) dX5_lookAt_59 fX5_30 (shW hw) rfl ?_
    refine wp_bipush (M := mX5_lookAt) (pc := 62) dX5_lookAt_62 k_bipush_100 ?_
    refine wp_idiv (M := mX5_lookAt) (pc := 64) dX5_lookAt_64 (by decide) ?_
    refine xs_iast (M := mX5_lookAt) (pc := 65) (j := 4) dX5_lookAt_65 sh34 (vin (by decide)) rfl ?_
    refine wp_aload_n (M := mX5_lookAt) (pc := 66) dX5_lookAt_66 rfl rfl ?_
    refine xs_getr (M := mX5_lookAt) (pc := 67) (r := 34) dX5_lookAt_67 fX5_11 sh33 rfl (gr33_0 sw) ?_
    refine wp_iconst (M := mX5_lookAt) (pc := 70) dX5_lookAt_70 k_iconst_5 ?_
    refine wp_aload_n (M := mX5_lookAt) (pc := 71) dX5_lookAt_71 rfl rfl ?_
    refine xs_geti (M := mX5_lookAt) (pc := 72) dX5_lookAt_72 fX5_33 (shW hw) rfl ?_
    refine wp_bipush (M := mX5_lookAt) (pc := 75) dX5_lookAt_75 k_bipush_60 ?_
    refine wp_irem (M := mX5_lookAt) (pc := 77) dX5_lookAt_77 (by decide) ?_
    refine xs_iast (M := mX5_lookAt) (pc := 78) (j := 5) dX5_lookAt_78 sh34 (vin (by decide)) rfl ?_
    refine wp_aload_n (M := mX5_lookAt) (pc := 79) dX5_lookAt_79 rfl rfl ?_
    refine xs_getr (M := mX5_lookAt) (pc := 80) (r := 34) dX5_lookAt_80 fX5_11 sh33 rfl (gr33_0 sw) ?_
    refine wp_bipush (M := mX5_lookAt) (pc := 83) dX5_lookAt_83 k_bipush_6 ?_
    refine wp_aload_n (M := mX5_lookAt) (pc := 85) dX5_lookAt_85 rfl rfl ?_
    refine xs_geti (M := mX5_lookAt) (pc := 86) dX5_lookAt_86 fX5_33 (shW hw) rfl ?_
    refine wp_bipush (M := mX5_lookAt) (pc := 89) dX5_lookAt_89 k_bipush_60 ?_
    refine wp_idiv (M := mX5_lookAt) (pc := 91) dX5_lookAt_91 (by decide) ?_
    refine wp_bipush (M := mX5_lookAt) (pc := 92) dX5_lookAt_92 k_bipush_24 ?_
    refine wp_irem (M := mX5_lookAt) (pc := 94) dX5_lookAt_94 (by decide) ?_
    refine xs_iast (M := mX5_lookAt) (pc := 95) (j := 6) dX5_lookAt_95 sh34 (vin (by decide)) rfl ?_
    refine wp_aload_n (M := mX5_lookAt) (pc := 96) dX5_lookAt_96 rfl rfl ?_
    refine xs_getr (M := mX5_lookAt) (pc := 97) (r := 34) dX5_lookAt_97 fX5_11 sh33 rfl (gr33_0 sw) ?_
    refine wp_bipush (M := mX5_lookAt) (pc := 100) dX5_lookAt_100 k_bipush_7 ?_
    refine wp_iconst (M := mX5_lookAt) (pc := 102) dX5_lookAt_102 k_iconst_0 ?_
    refine xs_iast (M := mX5_lookAt) (pc := 103) (j := 7) dX5_lookAt_103 sh34 (vin (by decide)) rfl ?_
    refine wp_aload_n (M := mX5_lookAt) (pc := 104) dX5_lookAt_104 rfl rfl ?_
    refine xs_getr (M := mX5_lookAt) (pc := 105) (r := 34) dX5_lookAt_105 fX5_11 sh33 rfl (gr33_0 sw) ?_
    refine wp_bipush (M := mX5_lookAt) (pc := 108) dX5_lookAt_108 k_bipush_8 ?_
    refine wp_iconst (M := mX5_lookAt) (pc := 110) dX5_lookAt_110 k_iconst_0 ?_
    refine xs_iast (M := mX5_lookAt) (pc := 111) (j := 8) dX5_lookAt_111 sh34 (vin (by decide)) rfl ?_
    refine wp_aload_n (M := mX5_lookAt) (pc := 112) dX5_lookAt_112 rfl rfl ?_
    refine xs_getr (M := mX5_lookAt) (pc := 113) (r := 34) dX5_lookAt_113 fX5_11 sh33 rfl (gr33_0 sw) ?_
    refine wp_bipush (M := mX5_lookAt) (pc := 116) dX5_lookAt_116 k_bipush_9 ?_
    refine wp_iconst (M := mX5_lookAt) (pc := 118) dX5_lookAt_118 k_iconst_0 ?_
    refine xs_iast (M := mX5_lookAt) (pc := 119) (j := 9) dX5_lookAt_119 sh34 (vin (by decide)) rfl ?_
    exact xs_ret (M := mX5_lookAt) (pc := 120) dX5_lookAt_120 rfl (p3 c1)
  · refine wp_iconst (M := mX5_lookAt) (pc := 35) dX5_lookAt_35 k_iconst_1 ?_
    refine wp_goto (M := mX5_lookAt) (pc := 36) (t := 40) dX5_lookAt_36 (by decide) ?_
    refine xs_iast (M := mX5_lookAt) (pc := 40) (j := 2) dX5_lookAt_40 sh34 (vin (by decide)) rfl ?_
    refine wp_aload_n (M := mX5_lookAt) (pc := 41) dX5_lookAt_41 rfl rfl ?_
    refine xs_getr (M := mX5_lookAt) (pc := 42) (r := 34) dX5_lookAt_42 fX5_11 sh33 rfl (gr33_0 sw) ?_
    refine wp_iconst (M := mX5_lookAt) (pc := 45) dX5_lookAt_45 k_iconst_3 ?_
    refine wp_aload_n (M := mX5_lookAt) (pc := 46) dX5_lookAt_46 rfl rfl ?_
    refine xs_getr (M := mX5_lookAt) (pc := 47) (r := w + 2) dX5_lookAt_47 fX5_27 (shW hw) rfl (grW_9 hw) ?_
    refine wp_iload_n (M := mX5_lookAt) (pc := 50) dX5_lookAt_50 rfl rfl ?_
    refine xs_iald (M := mX5_lookAt) (pc := 51) (j := x2.toNatClampNeg) dX5_lookAt_51 (shW_2 hw) (p4 c1) rfl ?_
    refine xs_iast (M := mX5_lookAt) (pc := 52) (j := 3) dX5_lookAt_52 sh34 (vin (by decide)) rfl ?_
    refine wp_aload_n (M := mX5_lookAt) (pc := 53) dX5_lookAt_53 rfl rfl ?_
    refine xs_getr (M := mX5_lookAt) (pc := 54) (r := 34) dX5_lookAt_54 fX5_11 sh33 rfl (gr33_0 sw) ?_
    refine wp_iconst (M := mX5_lookAt) (pc := 57) dX5_lookAt_57 k_iconst_4 ?_
    refine wp_aload_n (M := mX5_lookAt) (pc := 58) dX5_lookAt_58 rfl rfl ?_
    refine xs_geti (M := mX5_lookAt) (pc := 59) dX5_lookAt_59 fX5_30 (shW hw) rfl ?_
    refine wp_bipush (M := mX5_lookAt) (pc := 62) dX5_lookAt_62 k_bipush_100 ?_
    refine wp_idiv (M := mX5_lookAt) (pc := 64) dX5_lookAt_64 (by decide) ?_
    refine xs_iast (M := mX5_lookAt) (pc := 65) (j := 4) dX5_lookAt_65 sh34 (vin (by decide)) rfl ?_
    refine wp_aload_n (M := mX5_lookAt) (pc := 66) dX5_lookAt_66 rfl rfl ?_
    refine xs_getr (M := mX5_lookAt) (pc := 67) (r := 34) dX5_lookAt_67 fX5_11 sh33 rfl (gr33_0 sw) ?_
    refine wp_iconst (M := mX5_lookAt) (pc := 70) dX5_lookAt_70 k_iconst_5 ?_
    refine wp_aload_n (M := mX5_lookAt) (pc := 71) dX5_lookAt_71 rfl rfl ?_
    refine xs_geti (M := mX5_lookAt) (pc := 72) dX5_lookAt_72 fX5_33 (shW hw) rfl ?_
    refine wp_bipush (M := mX5_lookAt) (pc := 75) dX5_lookAt_75 k_bipush_60 ?_
    refine wp_irem (M := mX5_lookAt) (pc := 77) dX5_lookAt_77 (by decide) ?_
    refine xs_iast (M := mX5_lookAt) (pc := 78) (j := 5) dX5_lookAt_78 sh34 (vin (by decide)) rfl ?_
    refine wp_aload_n (M := mX5_lookAt) (pc := 79) dX5_lookAt_79 rfl rfl ?_
    refine xs_getr (M := mX5_lookAt) (pc := 80) (r := 34) dX5_lookAt_80 fX5_11 sh33 rfl (gr33_0 sw) ?_
    refine wp_bipush (M := mX5_lookAt) (pc := 83) dX5_lookAt_83 k_bipush_6 ?_
    refine wp_aload_n (M := mX5_lookAt) (pc := 85) dX5_lookAt_85 rfl rfl ?_
    refine xs_geti (M := mX5_lookAt) (pc := 86) dX5_lookAt_86 fX5_33 (shW hw) rfl ?_
    refine wp_bipush (M := mX5_lookAt) (pc := 89) dX5_lookAt_89 k_bipush_60 ?_
    refine wp_idiv (M := mX5_lookAt) (pc := 91) dX5_lookAt_91 (by decide) ?_
    refine wp_bipush (M := mX5_lookAt) (pc := 92) dX5_lookAt_92 k_bipush_24 ?_
    refine wp_irem (M := mX5_lookAt) (pc := 94) dX5_lookAt_94 (by decide) ?_
    refine xs_iast (M := mX5_lookAt) (pc := 95) (j := 6) dX5_lookAt_95 sh34 (vin (by decide)) rfl ?_
    refine wp_aload_n (M := mX5_lookAt) (pc := 96) dX5_lookAt_96 rfl rfl ?_
    refine xs_getr (M := mX5_lookAt) (pc := 97) (r := 34) dX5_lookAt_97 fX5_11 sh33 rfl (gr33_0 sw) ?_
    refine wp_bipush (M := mX5_lookAt) (pc := 100) dX5_lookAt_100 k_bipush_7 ?_
    refine wp_iconst (M := mX5_lookAt) (pc := 102) dX5_lookAt_102 k_iconst_0 ?_
    refine xs_iast (M := mX5_lookAt) (pc := 103) (j := 7) dX5_lookAt_103 sh34 (vin (by decide)) rfl ?_
    refine wp_aload_n (M := mX5_lookAt) (pc := 104) dX5_lookAt_104 rfl rfl ?_
    refine xs_getr (M := mX5_lookAt) (pc := 105) (r := 34) dX5_lookAt_105 fX5_11 sh33 rfl (gr33_0 sw) ?_
    refine wp_bipush (M := mX5_lookAt) (pc := 108) dX5_lookAt_108 k_bipush_8 ?_
    refine wp_iconst (M := mX5_lookAt) (pc := 110) dX5_lookAt_110 k_iconst_0 ?_
    refine xs_iast (M := mX5_lookAt) (pc := 111) (j := 8) dX5_lookAt_111 sh34 (vin (by decide)) rfl ?_
    refine wp_aload_n (M := mX5_lookAt) (pc := 112) dX5_lookAt_112 rfl rfl ?_
    refine xs_getr (M := mX5_lookAt) (pc := 113) (r := 34) dX5_lookAt_113 fX5_11 sh33 rfl (gr33_0 sw) ?_
    refine wp_bipush (M := mX5_lookAt) (pc := 116) dX5_lookAt_116 k_bipush_9 ?_
    refine wp_iconst (M := mX5_lookAt) (pc := 118) dX5_lookAt_118 k_iconst_0 ?_
    refine xs_iast (M := mX5_lookAt) (pc := 119) (j := 9) dX5_lookAt_119 sh34 (vin (by decide)) rfl ?_
    exact xs_ret (M := mX5_lookAt) (pc := 120) dX5_lookAt_120 rfl (p5 c1)
theorem bX5_valueOf_0 {G : GC} {d : Nat} {sw : Bool} {f : FF} {Q : QQ} {q : Nat} (hq : isLw q) {x2 : Int32} {x3 : Int32} (p1 : XP G mX5_firstHolding (d + 2) 0 [.ref 33, .ref q, .int x2, .null] [] sw f (fun v sw' f' => XP G mX5_valueOf (d + 3) 6 [.ref 33, .ref q, .int x2, .int x3, .null] (retst v []) sw' f' Q)) : XP G mX5_valueOf (d + 3) 0 [.ref 33, .ref q, .int x2, .int x3, .null] [] sw f Q := by
  refine wp_aload_n (M := mX5_valueOf) (pc := 0) dX5_valueOf_0 rfl rfl ?_
  refine wp_aload_n (M := mX5_valueOf) (pc := 1) dX5_valueOf_1 rfl rfl ?_
  refine wp_iload_n (M := mX5_valueOf) (pc := 2) dX5_valueOf_2 rfl rfl ?_
  refine xs_callV (d := d + 2) (M := mX5_valueOf) (pc := 3) (As := [.ref q, .int x2]) (st := []) (c := 5) (ls' := [.ref 33, .ref q, .int x2, .null]) dX5_valueOf_3 oX5_firstHolding nX5_firstHolding lX5_36 vX5_firstHolding sX5_firstHolding rfl sh33 (Nat.le_of_ble_eq_true rfl) rfl (Nat.le_of_ble_eq_true rfl) rfl ?_
  exact p1
theorem bX5_valueOf_6 {G : GC} {d : Nat} {sw : Bool} {f : FF} {Q : QQ} {q : Nat} (hq : isLw q) {x2 : Int32} {x3 : Int32} {v4 : Value} {s0 : Int32} (p1 : (¬ s0 = (-1)) → vp_in s0 16) (p2 : (¬ s0 = (-1)) → vp_in s0 16) (p3 : (¬ s0 = (-1)) → XP G mX5_reckon (d + 2) 0 [.ref 33, .ref q, .int (f (q + 2) s0.toNatClampNeg), .int (f (q + 3) s0.toNatClampNeg), .null, .null, .null, .null, .null] [] sw f (fun v sw' f' => XP G mX5_valueOf (d + 3) 37 [.ref 33, .ref q, .int x2, .int x3, .int s0] (retst v []) sw' f' Q)) (p4 : (s0 = (-1)) → Q (some (.int 0)) sw f) : XP G mX5_valueOf (d + 3) 6 [.ref 33, .ref q, .int x2, .int x3, v4] [.int s0] sw f Q := by
  refine wp_istore (M := mX5_valueOf) (pc := 6) (ls' := [.ref 33, .ref q, .int x2, .int x3, .int s0]) dX5_valueOf_6 (by decide) rfl ?_
  refine wp_iload (M := mX5_valueOf) (pc := 8) dX5_valueOf_8 rfl ?_
  refine wp_iconst (M := mX5_valueOf) (pc := 10) dX5_valueOf_10 k_iconst_m1 ?_
  refine wp_icmp_ne (M := mX5_valueOf) (pc := 11) (t := 18) dX5_valueOf_11 (by decide) (fun c1 => ?_) (fun c1 => ?_)
  · refine wp_aload_n (M := mX5_valueOf) (pc := 18) dX5_valueOf_18 rfl rfl ?_
    refine wp_aload_n (M := mX5_valueOf) (pc := 19) dX5_valueOf_19 rfl rfl ?_
    refine wp_aload_n (M := mX5_valueOf) (pc := 20) dX5_valueOf_20 rfl rfl ?_
    refine xs_getr (M := mX5_valueOf) (pc := 21) (r := q + 2) dX5_valueOf_21 fX5_40 (shL hq) rfl (grL_3 hq) ?_
    refine wp_iload (M := mX5_valueOf) (pc := 24) dX5_valueOf_24 rfl ?_
    refine xs_iald (M := mX5_valueOf) (pc := 26) (j := s0.toNatClampNeg) dX5_valueOf_26 (shL_2 hq) (p1 c1) rfl ?_
    refine wp_aload_n (M := mX5_valueOf) (pc := 27) dX5_valueOf_27 rfl rfl ?_
    refine xs_getr (M := mX5_valueOf) (pc := 28) (r := q + 3) dX5_valueOf_28 fX5_45 (shL hq) rfl (grL_4 hq) ?_
    refine wp_iload (M := mX5_valueOf) (pc := 31) dX5_valueOf_31 rfl ?_
    refine xs_iald (M := mX5_valueOf) (pc := 33) (j := s0.toNatClampNeg) dX5_valueOf_33 (shL_3 hq) (p2 c1) rfl ?_
    refine xs_callV (d := d + 2) (M := mX5_valueOf) (pc := 34) (As := [.ref q, .int (f (q + 2) s0.toNatClampNeg), .int (f (q + 3) s0.toNatClampNeg)]) (st := []) (c := 5) (ls' := [.ref 33, .ref q, .int (f (q + 2) s0.toNatClampNeg), .int (f (q + 3) s0.toNatClampNeg), .null, .null, .null, .null, .null]) dX5_valueOf_34 oX5_reckon nX5_reckon lX5_48 vX5_reckon sX5_reckon rfl sh33 (Nat.le_of_ble_eq_true rfl) rfl (Nat.le_of_ble_eq_true rfl) rfl ?_
    exact p3 c1
  · refine wp_iconst (M := mX5_valueOf) (pc := 14) dX5_valueOf_14 k_iconst_0 ?_
    refine wp_goto (M := mX5_valueOf) (pc := 15) (t := 41) dX5_valueOf_15 (by decide) ?_
    exact xs_iret (M := mX5_valueOf) (pc := 41) dX5_valueOf_41 rfl (p4 c1)
theorem bX5_valueOf_37 {G : GC} {d : Nat} {sw : Bool} {f : FF} {Q : QQ} {q : Nat} (hq : isLw q) {x2 : Int32} {x3 : Int32} {x4 : Int32} {s0 : Int32} (p1 : Q (some (.int (bnd s0 x3))) sw f) : XP G mX5_valueOf (d + 3) 37 [.ref 33, .ref q, .int x2, .int x3, .int x4] [.int s0] sw f Q := by
  refine wp_iload_n (M := mX5_valueOf) (pc := 37) dX5_valueOf_37 rfl rfl ?_
  refine xs_callSN (d := d + 2) (M := mX5_valueOf) (pc := 38) (As := [.int s0, .int x3]) (st := []) (ls' := [.int s0, .int x3]) dX5_valueOf_38 oX10_bounded nX10_bounded hX5_52 tX10_bounded (Nat.le_of_ble_eq_true rfl) rfl (Nat.le_of_ble_eq_true rfl) rfl ?_
  refine sp_X10_bounded   ?_
  exact xs_iret (M := mX5_valueOf) (pc := 41) dX5_valueOf_41 rfl (p1)
theorem bX5_firstHolding_0 {G : GC} {d : Nat} {sw : Bool} {f : FF} {Q : QQ} {q : Nat} (hq : isLw q) {x2 : Int32} (p1 : XP G mX5_firstHolding (d + 2) 2 [.ref 33, .ref q, .int x2, .int 0] [] sw f Q) : XP G mX5_firstHolding (d + 2) 0 [.ref 33, .ref q, .int x2, .null] [] sw f Q := by
  refine wp_iconst (M := mX5_firstHolding) (pc := 0) dX5_firstHolding_0 k_iconst_0 ?_
  refine wp_istore_n (M := mX5_firstHolding) (pc := 1) (ls' := [.ref 33, .ref q, .int x2, .int 0]) dX5_firstHolding_1 rfl (by decide) rfl ?_
  exact p1
theorem bX5_firstHolding_2 {G : GC} {d : Nat} {sw : Bool} {f : FF} {Q : QQ} {q : Nat} (hq : isLw q) {x2 : Int32} {x3 : Int32} (p1 : ((f q 0) ≤ x3) → Q (some (.int (-1))) sw f) (p2 : (¬ (f q 0) ≤ x3) → (16 ≤ x3) → Q (some (.int (-1))) sw f) (p3 : (¬ (f q 0) ≤ x3) → (¬ 16 ≤ x3) → vp_in x3 16) (p4 : (¬ (f q 0) ≤ x3) → (¬ 16 ≤ x3) → (¬ (f (q + 1) x3.toNatClampNeg) = x2) → XP G mX5_firstHolding (d + 2) 2 [.ref 33, .ref q, .int x2, .int (x3 + 1)] [] sw f Q) (p5 : (¬ (f q 0) ≤ x3) → (¬ 16 ≤ x3) → ((f (q + 1) x3.toNatClampNeg) = x2) → vp_in x3 16) (p6 : (¬ (f q 0) ≤ x3) → (¬ 16 ≤ x3) → ((f (q + 1) x3.toNatClampNeg) = x2) → vp_in x3 16) (p7 : (¬ (f q 0) ≤ x3) → (¬ 16 ≤ x3) → ((f (q + 1) x3.toNatClampNeg) = x2) → XP G mX5_reckon (d + 1) 0 [.ref 33, .ref q, .int (f (q + 3) x3.toNatClampNeg), .int (f (q + 4) x3.toNatClampNeg), .null, .null, .null, .null, .null] [] sw f (fun v sw' f' => XP G mX5_firstHolding (d + 2) 43 [.ref 33, .ref q, .int x2, .int x3] (retst v []) sw' f' Q)) : XP G mX5_firstHolding (d + 2) 2 [.ref 33, .ref q, .int x2, .int x3] [] sw f Q := by
  refine wp_iload_n (M := mX5_firstHolding) (pc := 2) dX5_firstHolding_2 rfl rfl ?_
  refine wp_aload_n (M := mX5_firstHolding) (pc := 3) dX5_firstHolding_3 rfl rfl ?_
  refine xs_geti (M := mX5_firstHolding) (pc := 4) dX5_firstHolding_4 fX5_56 (shL hq) rfl ?_
  refine wp_icmp_ge (M := mX5_firstHolding) (pc := 7) (t := 54) dX5_firstHolding_7 (by decide) (fun c1 => ?_) (fun c1 => ?_)
  · refine wp_iconst (M := mX5_firstHolding) (pc := 54) dX5_firstHolding_54 k_iconst_m1 ?_
    exact xs_iret (M := mX5_firstHolding) (pc := 55) dX5_firstHolding_55 rfl (p1 c1)
  · refine wp_iload_n (M := mX5_firstHolding) (pc := 10) dX5_firstHolding_10 rfl rfl ?_
    refine wp_bipush (M := mX5_firstHolding) (pc := 11) dX5_firstHolding_11 k_bipush_16 ?_
    refine wp_icmp_ge (M := mX5_firstHolding) (pc := 13) (t := 54) dX5_firstHolding_13 (by decide) (fun c2 => ?_) (fun c2 => ?_)
    · refine wp_iconst (M := mX5_firstHolding) (pc := 54) dX5_firstHolding_54 k_iconst_m1 ?_
      exact xs_iret (M := mX5_firstHolding) (pc := 55) dX5_firstHolding_55 rfl (p2 c1 c2)
    · refine wp_aload_n (M := mX5_firstHolding) (pc := 16) dX5_firstHolding_16 rfl rfl ?_
      refine xs_getr (M := mX5_firstHolding) (pc := 17) (r := q + 1) dX5_firstHolding_17 fX5_59 (shL hq) rfl (grL_2 hq) ?_
      refine wp_iload_n (M := mX5_firstHolding) (pc := 20) dX5_firstHolding_20 rfl rfl ?_
      refine xs_iald (M := mX5_firstHolding) (pc := 21) (j := x3.toNatClampNeg) dX5_firstHolding_21 (shL_1 hq) (p3 c1 c2) rfl ?_
      refine wp_iload_n (M := mX5_firstHolding) (pc := 22) dX5_firstHolding_22 rfl rfl ?_
      refine wp_icmp_ne (M := mX5_firstHolding) (pc := 23) (t := 48) dX5_firstHolding_23 (by decide) (fun c3 => ?_) (fun c3 => ?_)
      · refine wp_iinc (M := mX5_firstHolding) (pc := 48) (v := x3 + 1) (ls' := [.ref 33, .ref q, .int x2, .int (x3 + 1)]) dX5_firstHolding_48 rfl (congrArg (fun z => _ + z) k_iconst_1) (by decide) rfl ?_
        refine wp_goto (M := mX5_firstHolding) (pc := 51) (t := 2) dX5_firstHolding_51 (by decide) ?_
        exact p4 c1 c2 c3
      · refine wp_aload_n (M := mX5_firstHolding) (pc := 26) dX5_firstHolding_26 rfl rfl ?_
        refine wp_aload_n (M := mX5_firstHolding) (pc := 27) dX5_firstHolding_27 rfl rfl ?_
        refine wp_aload_n (M := mX5_firstHolding) (pc := 28) dX5_firstHolding_28 rfl rfl ?_
        refine xs_getr (M := mX5_firstHolding) (pc := 29) (r := q + 3) dX5_firstHolding_29 fX5_45 (shL hq) rfl (grL_4 hq) ?_
        refine wp_iload_n (M := mX5_firstHolding) (pc := 32) dX5_firstHolding_32 rfl rfl ?_
        refine xs_iald (M := mX5_firstHolding) (pc := 33) (j := x3.toNatClampNeg) dX5_firstHolding_33 (shL_3 hq) (p5 c1 c2 c3) rfl ?_
        refine wp_aload_n (M := mX5_firstHolding) (pc := 34) dX5_firstHolding_34 rfl rfl ?_
        refine xs_getr (M := mX5_firstHolding) (pc := 35) (r := q + 4) dX5_firstHolding_35 fX5_62 (shL hq) rfl (grL_5 hq) ?_
        refine wp_iload_n (M := mX5_firstHolding) (pc := 38) dX5_firstHolding_38 rfl rfl ?_
        refine xs_iald (M := mX5_firstHolding) (pc := 39) (j := x3.toNatClampNeg) dX5_firstHolding_39 (shL_4 hq) (p6 c1 c2 c3) rfl ?_
        refine xs_callV (d := d + 1) (M := mX5_firstHolding) (pc := 40) (As := [.ref q, .int (f (q + 3) x3.toNatClampNeg), .int (f (q + 4) x3.toNatClampNeg)]) (st := []) (c := 5) (ls' := [.ref 33, .ref q, .int (f (q + 3) x3.toNatClampNeg), .int (f (q + 4) x3.toNatClampNeg), .null, .null, .null, .null, .null]) dX5_firstHolding_40 oX5_reckon nX5_reckon lX5_48 vX5_reckon sX5_reckon rfl sh33 (Nat.le_of_ble_eq_true rfl) rfl (Nat.le_of_ble_eq_true rfl) rfl ?_
        exact p7 c1 c2 c3
theorem bX5_firstHolding_43 {G : GC} {d : Nat} {sw : Bool} {f : FF} {Q : QQ} {q : Nat} (hq : isLw q) {x2 : Int32} {x3 : Int32} {s0 : Int32} (p1 : (s0 = 0) → XP G mX5_firstHolding (d + 2) 2 [.ref 33, .ref q, .int x2, .int (x3 + 1)] [] sw f Q) (p2 : (¬ s0 = 0) → Q (some (.int x3)) sw f) : XP G mX5_firstHolding (d + 2) 43 [.ref 33, .ref q, .int x2, .int x3] [.int s0] sw f Q := by
  refine wp_if_eq (M := mX5_firstHolding) (pc := 43) (t := 48) dX5_firstHolding_43 (by decide) (fun c1 => ?_) (fun c1 => ?_)
  · refine wp_iinc (M := mX5_firstHolding) (pc := 48) (v := x3 + 1) (ls' := [.ref 33, .ref q, .int x2, .int (x3 + 1)]) dX5_firstHolding_48 rfl (congrArg (fun z => _ + z) k_iconst_1) (by decide) rfl ?_
    refine wp_goto (M := mX5_firstHolding) (pc := 51) (t := 2) dX5_firstHolding_51 (by decide) ?_
    exact p1 c1
  · refine wp_iload_n (M := mX5_firstHolding) (pc := 46) dX5_firstHolding_46 rfl rfl ?_
    exact xs_iret (M := mX5_firstHolding) (pc := 47) dX5_firstHolding_47 rfl (p2 c1)
theorem bX5_reckon_0 {G : GC} {d : Nat} {sw : Bool} {f : FF} {Q : QQ} {q : Nat} (hq : isLw q) {x2 : Int32} {x3 : Int32} (p1 : XP G mX5_reckon (d + 1) 14 [.ref 33, .ref q, .int x2, .int x3, .int 0, .int x2, .int 0, .null, .null] [] sw (upd2 f 33 2 0) Q) : XP G mX5_reckon (d + 1) 0 [.ref 33, .ref q, .int x2, .int x3, .null, .null, .null, .null, .null] [] sw f Q := by
  refine wp_aload_n (M := mX5_reckon) (pc := 0) dX5_reckon_0 rfl rfl ?_
  refine wp_iconst (M := mX5_reckon) (pc := 1) dX5_reckon_1 k_iconst_0 ?_
  refine xs_putz (M := mX5_reckon) (pc := 2) dX5_reckon_2 pX5_65 sh33 rfl (by decide) ?_
  refine wp_iconst (M := mX5_reckon) (pc := 5) dX5_reckon_5 k_iconst_0 ?_
  refine wp_istore (M := mX5_reckon) (pc := 6) (ls' := [.ref 33, .ref q, .int x2, .int x3, .int 0, .null, .null, .null, .null]) dX5_reckon_6 (by decide) rfl ?_
  refine wp_iload_n (M := mX5_reckon) (pc := 8) dX5_reckon_8 rfl rfl ?_
  refine wp_istore (M := mX5_reckon) (pc := 9) (ls' := [.ref 33, .ref q, .int x2, .int x3, .int 0, .int x2, .null, .null, .null]) dX5_reckon_9 (by decide) rfl ?_
  refine wp_iconst (M := mX5_reckon) (pc := 11) dX5_reckon_11 k_iconst_0 ?_
  refine wp_istore (M := mX5_reckon) (pc := 12) (ls' := [.ref 33, .ref q, .int x2, .int x3, .int 0, .int x2, .int 0, .null, .null]) dX5_reckon_12 (by decide) rfl ?_
  exact p1
theorem bX5_reckon_14 {G : GC} {d : Nat} {sw : Bool} {f : FF} {Q : QQ} {q : Nat} (hq : isLw q) {x2 : Int32} {x3 : Int32} {x4 : Int32} {x5 : Int32} {x6 : Int32} {v7 : Value} {v8 : Value} (p1 : (240 ≤ x6) → (¬ (f 33 2) = 0) → Q (some (.int 0)) sw f) (p2 : (240 ≤ x6) → ((f 33 2) = 0) → (1 ≤ x4) → Q (some (.int (f 35 0))) sw f) (p3 : (240 ≤ x6) → ((f 33 2) = 0) → (¬ 1 ≤ x4) → Q (some (.int 0)) sw f) (p4 : (¬ 240 ≤ x6) → (x3 ≤ x5) → (¬ (f 33 2) = 0) → Q (some (.int 0)) sw f) (p5 : (¬ 240 ≤ x6) → (x3 ≤ x5) → ((f 33 2) = 0) → (1 ≤ x4) → Q (some (.int (f 35 0))) sw f) (p6 : (¬ 240 ≤ x6) → (x3 ≤ x5) → ((f 33 2) = 0) → (¬ 1 ≤ x4) → Q (some (.int 0)) sw f) (p7 : (¬ 240 ≤ x6) → (¬ x3 ≤ x5) → (240 ≤ x5) → (¬ (f 33 2) = 0) → Q (some (.int 0)) sw f) (p8 : (¬ 240 ≤ x6) → (¬ x3 ≤ x5) → (240 ≤ x5) → ((f 33 2) = 0) → (1 ≤ x4) → Q (some (.int (f 35 0))) sw f) (p9 : (¬ 240 ≤ x6) → (¬ x3 ≤ x5) → (240 ≤ x5) → ((f 33 2) = 0) → (¬ 1 ≤ x4) → Q (some (.int 0)) sw f) (p10 : (¬ 240 ≤ x6) → (¬ x3 ≤ x5) → (¬ 240 ≤ x5) → (¬ (f 33 2) = 0) → (¬ (f 33 2) = 0) → Q (some (.int 0)) sw f) (p11 : (¬ 240 ≤ x6) → (¬ x3 ≤ x5) → (¬ 240 ≤ x5) → (¬ (f 33 2) = 0) → ((f 33 2) = 0) → (1 ≤ x4) → Q (some (.int (f 35 0))) sw f) (p12 : (¬ 240 ≤ x6) → (¬ x3 ≤ x5) → (¬ 240 ≤ x5) → (¬ (f 33 2) = 0) → ((f 33 2) = 0) → (¬ 1 ≤ x4) → Q (some (.int 0)) sw f) (p13 : (¬ 240 ≤ x6) → (¬ x3 ≤ x5) → (¬ 240 ≤ x5) → ((f 33 2) = 0) → vp_in x5 240) (p14 : (¬ 240 ≤ x6) → (¬ x3 ≤ x5) → (¬ 240 ≤ x5) → ((f 33 2) = 0) → vp_in x5 240) (p15 : (¬ 240 ≤ x6) → (¬ x3 ≤ x5) → (¬ 240 ≤ x5) → ((f 33 2) = 0) → ((f (q + 5) x5.toNatClampNeg) = 48) → (64 ≤ x4) → XP G mX5_reckon (d + 1) 14 [.ref 33, .ref q, .int x2, .int x3, .int x4, .int (x5 + 1), .int (x6 + 1), .int (f (q + 5) x5.toNatClampNeg), .int (f (q + 6) x5.toNatClampNeg)] [] sw f Q) (p16 : (¬ 240 ≤ x6) → (¬ x3 ≤ x5) → (¬ 240 ≤ x5) → ((f 33 2) = 0) → ((f (q + 5) x5.toNatClampNeg) = 48) → (¬ 64 ≤ x4) → (¬ (f (q + 5) x5.toNatClampNeg) = 48) → vp_in (f (q + 6) x5.toNatClampNeg) 10) (p17 : (¬ 240 ≤ x6) → (¬ x3 ≤ x5) → (¬ 240 ≤ x5) → ((f 33 2) = 0) → ((f (q + 5) x5.toNatClampNeg) = 48) → (¬ 64 ≤ x4) → (¬ (f (q + 5) x5.toNatClampNeg) = 48) → vp_in x4 64) (p18 : (¬ 240 ≤ x6) → (¬ x3 ≤ x5) → (¬ 240 ≤ x5) → ((f 33 2) = 0) → ((f (q + 5) x5.toNatClampNeg) = 48) → (¬ 64 ≤ x4) → (¬ (f (q + 5) x5.toNatClampNeg) = 48) → XP G mX5_reckon (d + 1) 14 [.ref 33, .ref q, .int x2, .int x3, .int (x4 + 1), .int (x5 + 1), .int (x6 + 1), .int (f (q + 5) x5.toNatClampNeg), .int (f (q + 6) x5.toNatClampNeg)] [] sw (upd2 f 35 x4.toNatClampNeg (f 34 ((f (q + 6) x5.toNatClampNeg).toNatClampNeg))) Q) (p19 : (¬ 240 ≤ x6) → (¬ x3 ≤ x5) → (¬ 240 ≤ x5) → ((f 33 2) = 0) → ((f (q + 5) x5.toNatClampNeg) = 48) → (¬ 64 ≤ x4) → ((f (q + 5) x5.toNatClampNeg) = 48) → vp_in x4 64) (p20 : (¬ 240 ≤ x6) → (¬ x3 ≤ x5) → (¬ 240 ≤ x5) → ((f 33 2) = 0) → ((f (q + 5) x5.toNatClampNeg) = 48) → (¬ 64 ≤ x4) → ((f (q + 5) x5.toNatClampNeg) = 48) → XP G mX5_reckon (d + 1) 14 [.ref 33, .ref q, .int x2, .int x3, .int (x4 + 1), .int (x5 + 1), .int (x6 + 1), .int (f (q + 5) x5.toNatClampNeg), .int (f (q + 6) x5.toNatClampNeg)] [] sw (upd2 f 35 x4.toNatClampNeg (f (q + 6) x5.toNatClampNeg)) Q) (p21 : (¬ 240 ≤ x6) → (¬ x3 ≤ x5) → (¬ 240 ≤ x5) → ((f 33 2) = 0) → (¬ (f (q + 5) x5.toNatClampNeg) = 48) → (¬ (f (q + 5) x5.toNatClampNeg) = 97) → (¬ (f (q + 5) x5.toNatClampNeg) = 33) → ((f (q + 5) x5.toNatClampNeg) = 38) → (x4 < 1) → XP G mX5_reckon (d + 1) 14 [.ref 33, .ref q, .int x2, .int x3, .int (if 0 < (x4 - 1) then (x4 - 1) else 0), .int (x5 + 1), .int (x6 + 1), .int (f (q + 5) x5.toNatClampNeg), .int (f (q + 6) x5.toNatClampNeg)] [] sw f Q) (p22 : (¬ 240 ≤ x6) → (¬ x3 ≤ x5) → (¬ 240 ≤ x5) → ((f 33 2) = 0) → (¬ (f (q + 5) x5.toNatClampNeg) = 48) → (¬ (f (q + 5) x5.toNatClampNeg) = 97) → (¬ (f (q + 5) x5.toNatClampNeg) = 33) → ((f (q + 5) x5.toNatClampNeg) = 38) → (¬ x4 < 1) → vp_in (x4 - 1) 64) (p23 : (¬ 240 ≤ x6) → (¬ x3 ≤ x5) → (¬ 240 ≤ x5) → ((f 33 2) = 0) → (¬ (f (q + 5) x5.toNatClampNeg) = 48) → (¬ (f (q + 5) x5.toNatClampNeg) = 97) → (¬ (f (q + 5) x5.toNatClampNeg) = 33) → ((f (q + 5) x5.toNatClampNeg) = 38) → (¬ x4 < 1) → ((f 35 ((x4 - 1).toNatClampNeg)) = 0) → (¬ (f (q + 5) x5.toNatClampNeg) = 124) → XP G mX5_reckon (d + 1) 14 [.ref 33, .ref q, .int x2, .int x3, .int x4, .int (f (q + 6) x5.toNatClampNeg), .int (x6 + 1), .int (f (q + 5) x5.toNatClampNeg), .int (f (q + 6) x5.toNatClampNeg)] [] sw f Q) (p24 : (¬ 240 ≤ x6) → (¬ x3 ≤ x5) → (¬ 240 ≤ x5) → ((f 33 2) = 0) → (¬ (f (q + 5) x5.toNatClampNeg) = 48) → (¬ (f (q + 5) x5.toNatClampNeg) = 97) → (¬ (f (q + 5) x5.toNatClampNeg) = 33) → ((f (q + 5) x5.toNatClampNeg) = 38) → (¬ x4 < 1) → ((f 35 ((x4 - 1).toNatClampNeg)) = 0) → ((f (q + 5) x5.toNatClampNeg) = 124) → XP G mX5_reckon (d + 1) 14 [.ref 33, .ref q, .int x2, .int x3, .int (if 0 < (x4 - 1) then (x4 - 1) else 0), .int (x5 + 1), .int (x6 + 1), .int (f (q + 5) x5.toNatClampNeg), .int (f (q + 6) x5.toNatClampNeg)] [] sw f Q) (p25 : (¬ 240 ≤ x6) → (¬ x3 ≤ x5) → (¬ 240 ≤ x5) → ((f 33 2) = 0) → (¬ (f (q + 5) x5.toNatClampNeg) = 48) → (¬ (f (q + 5) x5.toNatClampNeg) = 97) → (¬ (f (q + 5) x5.toNatClampNeg) = 33) → ((f (q + 5) x5.toNatClampNeg) = 38) → (¬ x4 < 1) → (¬ (f 35 ((x4 - 1).toNatClampNeg)) = 0) → (¬ (f (q + 5) x5.toNatClampNeg) = 124) → XP G mX5_reckon (d + 1) 14 [.ref 33, .ref q, .int x2, .int x3, .int (if 0 < (x4 - 1) then (x4 - 1) else 0), .int (x5 + 1), .int (x6 + 1), .int (f (q + 5) x5.toNatClampNeg), .int (f (q + 6) x5.toNatClampNeg)] [] sw f Q) (p26 : (¬ 240 ≤ x6) → (¬ x3 ≤ x5) → (¬ 240 ≤ x5) → ((f 33 2) = 0) → (¬ (f (q + 5) x5.toNatClampNeg) = 48) → (¬ (f (q + 5) x5.toNatClampNeg) = 97) → (¬ (f (q + 5) x5.toNatClampNeg) = 33) → ((f (q + 5) x5.toNatClampNeg) = 38) → (¬ x4 < 1) → (¬ (f 35 ((x4 - 1).toNatClampNeg)) = 0) → ((f (q + 5) x5.toNatClampNeg) = 124) → XP G mX5_reckon (d + 1) 14 [.ref 33, .ref q, .int x2, .int x3, .int x4, .int (f (q + 6) x5.toNatClampNeg), .int (x6 + 1), .int (f (q + 5) x5.toNatClampNeg), .int (f (q + 6) x5.toNatClampNeg)] [] sw f Q) (p27 : (¬ 240 ≤ x6) → (¬ x3 ≤ x5) → (¬ 240 ≤ x5) → ((f 33 2) = 0) → (¬ (f (q + 5) x5.toNatClampNeg) = 48) → (¬ (f (q + 5) x5.toNatClampNeg) = 97) → (¬ (f (q + 5) x5.toNatClampNeg) = 33) → (¬ (f (q + 5) x5.toNatClampNeg) = 38) → (¬ (f (q + 5) x5.toNatClampNeg) = 124) → (x4 < 2) → XP G mX5_reckon (d + 1) 14 [.ref 33, .ref q, .int x2, .int x3, .int x4, .int (x5 + 1), .int (x6 + 1), .int (f (q + 5) x5.toNatClampNeg), .int (f (q + 6) x5.toNatClampNeg)] [] sw f Q) (p28 : (¬ 240 ≤ x6) → (¬ x3 ≤ x5) → (¬ 240 ≤ x5) → ((f 33 2) = 0) → (¬ (f (q + 5) x5.toNatClampNeg) = 48) → (¬ (f (q + 5) x5.toNatClampNeg) = 97) → (¬ (f (q + 5) x5.toNatClampNeg) = 33) → (¬ (f (q + 5) x5.toNatClampNeg) = 38) → (¬ (f (q + 5) x5.toNatClampNeg) = 124) → (¬ x4 < 2) → vp_in ((x4 + (-1)) - 1) 64) (p29 : (¬ 240 ≤ x6) → (¬ x3 ≤ x5) → (¬ 240 ≤ x5) → ((f 33 2) = 0) → (¬ (f (q + 5) x5.toNatClampNeg) = 48) → (¬ (f (q + 5) x5.toNatClampNeg) = 97) → (¬ (f (q + 5) x5.toNatClampNeg) = 33) → (¬ (f (q + 5) x5.toNatClampNeg) = 38) → (¬ (f (q + 5) x5.toNatClampNeg) = 124) → (¬ x4 < 2) → vp_in (x4 + (-1)) 64) (p30 : (¬ 240 ≤ x6) → (¬ x3 ≤ x5) → (¬ 240 ≤ x5) → ((f 33 2) = 0) → (¬ (f (q + 5) x5.toNatClampNeg) = 48) → (¬ (f (q + 5) x5.toNatClampNeg) = 97) → (¬ (f (q + 5) x5.toNatClampNeg) = 33) → (¬ (f (q + 5) x5.toNatClampNeg) = 38) → (¬ (f (q + 5) x5.toNatClampNeg) = 124) → (¬ x4 < 2) → XP G mX5_join (d) 0 [.ref 33, .int (f (q + 5) x5.toNatClampNeg), .int (f 35 (((x4 + (-1)) - 1).toNatClampNeg)), .int (f 35 ((x4 + (-1)).toNatClampNeg))] [] sw f (fun v sw' f' => XP G mX5_reckon (d + 1) 270 [.ref 33, .ref q, .int x2, .int x3, .int (x4 + (-1)), .int (x5 + 1), .int x6, .int (f (q + 5) x5.toNatClampNeg), .int (f (q + 6) x5.toNatClampNeg)] (retst v [.int ((x4 + (-1)) - 1), .ref 35]) sw' f' Q)) (p31 : (¬ 240 ≤ x6) → (¬ x3 ≤ x5) → (¬ 240 ≤ x5) → ((f 33 2) = 0) → (¬ (f (q + 5) x5.toNatClampNeg) = 48) → (¬ (f (q + 5) x5.toNatClampNeg) = 97) → (¬ (f (q + 5) x5.toNatClampNeg) = 33) → (¬ (f (q + 5) x5.toNatClampNeg) = 38) → ((f (q + 5) x5.toNatClampNeg) = 124) → (x4 < 1) → XP G mX5_reckon (d + 1) 14 [.ref 33, .ref q, .int x2, .int x3, .int (if 0 < (x4 - 1) then (x4 - 1) else 0), .int (x5 + 1), .int (x6 + 1), .int (f (q + 5) x5.toNatClampNeg), .int (f (q + 6) x5.toNatClampNeg)] [] sw f Q) (p32 : (¬ 240 ≤ x6) → (¬ x3 ≤ x5) → (¬ 240 ≤ x5) → ((f 33 2) = 0) → (¬ (f (q + 5) x5.toNatClampNeg) = 48) → (¬ (f (q + 5) x5.toNatClampNeg) = 97) → (¬ (f (q + 5) x5.toNatClampNeg) = 33) → (¬ (f (q + 5) x5.toNatClampNeg) = 38) → ((f (q + 5) x5.toNatClampNeg) = 124) → (¬ x4 < 1) → vp_in (x4 - 1) 64) (p33 : (¬ 240 ≤ x6) → (¬ x3 ≤ x5) → (¬ 240 ≤ x5) → ((f 33 2) = 0) → (¬ (f (q + 5) x5.toNatClampNeg) = 48) → (¬ (f (q + 5) x5.toNatClampNeg) = 97) → (¬ (f (q + 5) x5.toNatClampNeg) = 33) → (¬ (f (q + 5) x5.toNatClampNeg) = 38) → ((f (q + 5) x5.toNatClampNeg) = 124) → (¬ x4 < 1) → ((f 35 ((x4 - 1).toNatClampNeg)) = 0) → (¬ (f (q + 5) x5.toNatClampNeg) = 124) → XP G mX5_reckon (d + 1) 14 [.ref 33, .ref q, .int x2, .int x3, .int x4, .int (f (q + 6) x5.toNatClampNeg), .int (x6 + 1), .int (f (q + 5) x5.toNatClampNeg), .int (f (q + 6) x5.toNatClampNeg)] [] sw f Q) (p34 : (¬ 240 ≤ x6) → (¬ x3 ≤ x5) → (¬ 240 ≤ x5) → ((f 33 2) = 0) → (¬ (f (q + 5) x5.toNatClampNeg) = 48) → (¬ (f (q + 5) x5.toNatClampNeg) = 97) → (¬ (f (q + 5) x5.toNatClampNeg) = 33) → (¬ (f (q + 5) x5.toNatClampNeg) = 38) → ((f (q + 5) x5.toNatClampNeg) = 124) → (¬ x4 < 1) → ((f 35 ((x4 - 1).toNatClampNeg)) = 0) → ((f (q + 5) x5.toNatClampNeg) = 124) → XP G mX5_reckon (d + 1) 14 [.ref 33, .ref q, .int x2, .int x3, .int (if 0 < (x4 - 1) then (x4 - 1) else 0), .int (x5 + 1), .int (x6 + 1), .int (f (q + 5) x5.toNatClampNeg), .int (f (q + 6) x5.toNatClampNeg)] [] sw f Q) (p35 : (¬ 240 ≤ x6) → (¬ x3 ≤ x5) → (¬ 240 ≤ x5) → ((f 33 2) = 0) → (¬ (f (q + 5) x5.toNatClampNeg) = 48) → (¬ (f (q + 5) x5.toNatClampNeg) = 97) → (¬ (f (q + 5) x5.toNatClampNeg) = 33) → (¬ (f (q + 5) x5.toNatClampNeg) = 38) → ((f (q + 5) x5.toNatClampNeg) = 124) → (¬ x4 < 1) → (¬ (f 35 ((x4 - 1).toNatClampNeg)) = 0) → (¬ (f (q + 5) x5.toNatClampNeg) = 124) → XP G mX5_reckon (d + 1) 14 [.ref 33, .ref q, .int x2, .int x3, .int (if 0 < (x4 - 1) then (x4 - 1) else 0), .int (x5 + 1), .int (x6 + 1), .int (f (q + 5) x5.toNatClampNeg), .int (f (q + 6) x5.toNatClampNeg)] [] sw f Q) (p36 : (¬ 240 ≤ x6) → (¬ x3 ≤ x5) → (¬ 240 ≤ x5) → ((f 33 2) = 0) → (¬ (f (q + 5) x5.toNatClampNeg) = 48) → (¬ (f (q + 5) x5.toNatClampNeg) = 97) → (¬ (f (q + 5) x5.toNatClampNeg) = 33) → (¬ (f (q + 5) x5.toNatClampNeg) = 38) → ((f (q + 5) x5.toNatClampNeg) = 124) → (¬ x4 < 1) → (¬ (f 35 ((x4 - 1).toNatClampNeg)) = 0) → ((f (q + 5) x5.toNatClampNeg) = 124) → XP G mX5_reckon (d + 1) 14 [.ref 33, .ref q, .int x2, .int x3, .int x4, .int (f (q + 6) x5.toNatClampNeg), .int (x6 + 1), .int (f (q + 5) x5.toNatClampNeg), .int (f (q + 6) x5.toNatClampNeg)] [] sw f Q) (p37 : (¬ 240 ≤ x6) → (¬ x3 ≤ x5) → (¬ 240 ≤ x5) → ((f 33 2) = 0) → (¬ (f (q + 5) x5.toNatClampNeg) = 48) → (¬ (f (q + 5) x5.toNatClampNeg) = 97) → ((f (q + 5) x5.toNatClampNeg) = 33) → (x4 < 1) → XP G mX5_reckon (d + 1) 14 [.ref 33, .ref q, .int x2, .int x3, .int x4, .int (x5 + 1), .int (x6 + 1), .int (f (q + 5) x5.toNatClampNeg), .int (f (q + 6) x5.toNatClampNeg)] [] sw f Q) (p38 : (¬ 240 ≤ x6) → (¬ x3 ≤ x5) → (¬ 240 ≤ x5) → ((f 33 2) = 0) → (¬ (f (q + 5) x5.toNatClampNeg) = 48) → (¬ (f (q + 5) x5.toNatClampNeg) = 97) → ((f (q + 5) x5.toNatClampNeg) = 33) → (¬ x4 < 1) → vp_in (x4 - 1) 64) (p39 : (¬ 240 ≤ x6) → (¬ x3 ≤ x5) → (¬ 240 ≤ x5) → ((f 33 2) = 0) → (¬ (f (q + 5) x5.toNatClampNeg) = 48) → (¬ (f (q + 5) x5.toNatClampNeg) = 97) → ((f (q + 5) x5.toNatClampNeg) = 33) → (¬ x4 < 1) → (¬ (f 35 ((x4 - 1).toNatClampNeg)) = 0) → vp_in (x4 - 1) 64) (p40 : (¬ 240 ≤ x6) → (¬ x3 ≤ x5) → (¬ 240 ≤ x5) → ((f 33 2) = 0) → (¬ (f (q + 5) x5.toNatClampNeg) = 48) → (¬ (f (q + 5) x5.toNatClampNeg) = 97) → ((f (q + 5) x5.toNatClampNeg) = 33) → (¬ x4 < 1) → (¬ (f 35 ((x4 - 1).toNatClampNeg)) = 0) → XP G mX5_reckon (d + 1) 14 [.ref 33, .ref q, .int x2, .int x3, .int x4, .int (x5 + 1), .int (x6 + 1), .int (f (q + 5) x5.toNatClampNeg), .int (f (q + 6) x5.toNatClampNeg)] [] sw (upd2 f 35 ((x4 - 1).toNatClampNeg) 0) Q) (p41 : (¬ 240 ≤ x6) → (¬ x3 ≤ x5) → (¬ 240 ≤ x5) → ((f 33 2) = 0) → (¬ (f (q + 5) x5.toNatClampNeg) = 48) → (¬ (f (q + 5) x5.toNatClampNeg) = 97) → ((f (q + 5) x5.toNatClampNeg) = 33) → (¬ x4 < 1) → ((f 35 ((x4 - 1).toNatClampNeg)) = 0) → vp_in (x4 - 1) 64) (p42 : (¬ 240 ≤ x6) → (¬ x3 ≤ x5) → (¬ 240 ≤ x5) → ((f 33 2) = 0) → (¬ (f (q + 5) x5.toNatClampNeg) = 48) → (¬ (f (q + 5) x5.toNatClampNeg) = 97) → ((f (q + 5) x5.toNatClampNeg) = 33) → (¬ x4 < 1) → ((f 35 ((x4 - 1).toNatClampNeg)) = 0) → XP G mX5_reckon (d + 1) 14 [.ref 33, .ref q, .int x2, .int x3, .int x4, .int (x5 + 1), .int (x6 + 1), .int (f (q + 5) x5.toNatClampNeg), .int (f (q + 6) x5.toNatClampNeg)] [] sw (upd2 f 35 ((x4 - 1).toNatClampNeg) 1) Q) (p43 : (¬ 240 ≤ x6) → (¬ x3 ≤ x5) → (¬ 240 ≤ x5) → ((f 33 2) = 0) → (¬ (f (q + 5) x5.toNatClampNeg) = 48) → ((f (q + 5) x5.toNatClampNeg) = 97) → (64 ≤ x4) → XP G mX5_reckon (d + 1) 14 [.ref 33, .ref q, .int x2, .int x3, .int x4, .int (x5 + 1), .int (x6 + 1), .int (f (q + 5) x5.toNatClampNeg), .int (f (q + 6) x5.toNatClampNeg)] [] sw f Q) (p44 : (¬ 240 ≤ x6) → (¬ x3 ≤ x5) → (¬ 240 ≤ x5) → ((f 33 2) = 0) → (¬ (f (q + 5) x5.toNatClampNeg) = 48) → ((f (q + 5) x5.toNatClampNeg) = 97) → (¬ 64 ≤ x4) → (¬ (f (q + 5) x5.toNatClampNeg) = 48) → vp_in (f (q + 6) x5.toNatClampNeg) 10) (p45 : (¬ 240 ≤ x6) → (¬ x3 ≤ x5) → (¬ 240 ≤ x5) → ((f 33 2) = 0) → (¬ (f (q + 5) x5.toNatClampNeg) = 48) → ((f (q + 5) x5.toNatClampNeg) = 97) → (¬ 64 ≤ x4) → (¬ (f (q + 5) x5.toNatClampNeg) = 48) → vp_in x4 64) (p46 : (¬ 240 ≤ x6) → (¬ x3 ≤ x5) → (¬ 240 ≤ x5) → ((f 33 2) = 0) → (¬ (f (q + 5) x5.toNatClampNeg) = 48) → ((f (q + 5) x5.toNatClampNeg) = 97) → (¬ 64 ≤ x4) → (¬ (f (q + 5) x5.toNatClampNeg) = 48) → XP G mX5_reckon (d + 1) 14 [.ref 33, .ref q, .int x2, .int x3, .int (x4 + 1), .int (x5 + 1), .int (x6 + 1), .int (f (q + 5) x5.toNatClampNeg), .int (f (q + 6) x5.toNatClampNeg)] [] sw (upd2 f 35 x4.toNatClampNeg (f 34 ((f (q + 6) x5.toNatClampNeg).toNatClampNeg))) Q) (p47 : (¬ 240 ≤ x6) → (¬ x3 ≤ x5) → (¬ 240 ≤ x5) → ((f 33 2) = 0) → (¬ (f (q + 5) x5.toNatClampNeg) = 48) → ((f (q + 5) x5.toNatClampNeg) = 97) → (¬ 64 ≤ x4) → ((f (q + 5) x5.toNatClampNeg) = 48) → vp_in x4 64) (p48 : (¬ 240 ≤ x6) → (¬ x3 ≤ x5) → (¬ 240 ≤ x5) → ((f 33 2) = 0) → (¬ (f (q + 5) x5.toNatClampNeg) = 48) → ((f (q + 5) x5.toNatClampNeg) = 97) → (¬ 64 ≤ x4) → ((f (q + 5) x5.toNatClampNeg) = 48) → XP G mX5_reckon (d + 1) 14 [.ref 33, .ref q, .int x2, .int x3, .int (x4 + 1), .int (x5 + 1), .int (x6 + 1), .int (f (q + 5) x5.toNatClampNeg), .int (f (q + 6) x5.toNatClampNeg)] [] sw (upd2 f 35 x4.toNatClampNeg (f (q + 6) x5.toNatClampNeg)) Q) : XP G mX5_reckon (d + 1) 14 [.ref 33, .ref q, .int x2, .int x3, .int x4, .int x5, .int x6, v7, v8] [] sw f Q := by
  refine wp_iload (M := mX5_reckon) (pc := 14) dX5_reckon_14 rfl ?_
  refine wp_sipush (M := mX5_reckon) (pc := 16) dX5_reckon_16 k_sipush_240 ?_
  refine wp_icmp_ge (M := mX5_reckon) (pc := 19) (t := 277) dX5_reckon_19 (by decide) (fun c1 => ?_) (fun c1 => ?_)
  · refine wp_aload_n (M := mX5_reckon) (pc := 277) dX5_reckon_277 rfl rfl ?_
    refine xs_getz (M := mX5_reckon) (pc := 278) dX5_reckon_278 fX5_65 sh33 rfl ?_
    refine wp_if_ne (M := mX5_reckon) (pc := 281) (t := 290) dX5_reckon_281 (by decide) (fun c2 => ?_) (fun c2 => ?_)
    · refine wp_iconst (M := mX5_reckon) (pc := 290) dX5_reckon_290 k_iconst_0 ?_
      refine wp_goto (M := mX5_reckon) (pc := 291) (t := 300) dX5_reckon_291 (by decide) ?_
      exact xs_iret (M := mX5_reckon) (pc := 300) dX5_reckon_300 rfl (p1 c1 c2)
    · refine wp_iload (M := mX5_reckon) (pc := 284) dX5_reckon_284 rfl ?_
      refine wp_iconst (M := mX5_reckon) (pc := 286) dX5_reckon_286 k_iconst_1 ?_
      refine wp_icmp_ge (M := mX5_reckon) (pc := 287) (t := 294) dX5_reckon_287 (by decide) (fun c3 => ?_) (fun c3 => ?_)
      · refine wp_aload_n (M := mX5_reckon) (pc := 294) dX5_reckon_294 rfl rfl ?_
        refine xs_getr (M := mX5_reckon) (pc := 295) (r := 35) dX5_reckon_295 fX5_15 sh33 rfl (gr33_1 sw) ?_
        refine wp_iconst (M := mX5_reckon) (pc := 298) dX5_reckon_298 k_iconst_0 ?_
        refine xs_iald (M := mX5_reckon) (pc := 299) (j := 0) dX5_reckon_299 sh35 (vin (by decide)) rfl ?_
        exact xs_iret (M := mX5_reckon) (pc := 300) dX5_reckon_300 rfl (p2 c1 c2 c3)
      · refine wp_iconst (M := mX5_reckon) (pc := 290) dX5_reckon_290 k_iconst_0 ?_
        refine wp_goto (M := mX5_reckon) (pc := 291) (t := 300) dX5_reckon_291 (by decide) ?_
        exact xs_iret (M := mX5_reckon) (pc := 300) dX5_reckon_300 rfl (p3 c1 c2 c3)
  · refine wp_iload (M := mX5_reckon) (pc := 22) dX5_reckon_22 rfl ?_
    refine wp_iload_n (M := mX5_reckon) (pc := 24) dX5_reckon_24 rfl rfl ?_
    refine wp_icmp_ge (M := mX5_reckon) (pc := 25) (t := 277) dX5_reckon_25 (by decide) (fun c4 => ?_) (fun c4 => ?_)
    · refine wp_aload_n (M := mX5_reckon) (pc := 277) dX5_reckon_277 rfl rfl ?_
      refine xs_getz (M := mX5_reckon) (pc := 278) dX5_reckon_278 fX5_65 sh33 rfl ?_
      refine wp_if_ne (M := mX5_reckon) (pc := 281) (t := 290) dX5_reckon_281 (by decide) (fun c5 => ?_) (fun c5 => ?_)
      · refine wp_iconst (M := mX5_reckon) (pc := 290) dX5_reckon_290 k_iconst_0 ?_
        refine wp_goto (M := mX5_reckon) (pc := 291) (t := 300) dX5_reckon_291 (by decide) ?_
        exact xs_iret (M := mX5_reckon) (pc := 300) dX5_reckon_300 rfl (p4 c1 c4 c5)
      · refine wp_iload (M := mX5_reckon) (pc := 284) dX5_reckon_284 rfl ?_
        refine wp_iconst (M := mX5_reckon) (pc := 286) dX5_reckon_286 k_iconst_1 ?_
        refine wp_icmp_ge (M := mX5_reckon) (pc := 287) (t := 294) dX5_reckon_287 (by decide) (fun c6 => ?_) (fun c6 => ?_)
        · refine wp_aload_n (M := mX5_reckon) (pc := 294) dX5_reckon_294 rfl rfl ?_
          refine xs_getr (M := mX5_reckon) (pc := 295) (r := 35) dX5_reckon_295 fX5_15 sh33 rfl (gr33_1 sw) ?_
          refine wp_iconst (M := mX5_reckon) (pc := 298) dX5_reckon_298 k_iconst_0 ?_
          refine xs_iald (M := mX5_reckon) (pc := 299) (j := 0) dX5_reckon_299 sh35 (vin (by decide)) rfl ?_
          exact xs_iret (M := mX5_reckon) (pc := 300) dX5_reckon_300 rfl (p5 c1 c4 c5 c6)
        · refine wp_iconst (M := mX5_reckon) (pc := 290) dX5_reckon_290 k_iconst_0 ?_
          refine wp_goto (M := mX5_reckon) (pc := 291) (t := 300) dX5_reckon_291 (by decide) ?_
          exact xs_iret (M := mX5_reckon) (pc := 300) dX5_reckon_300 rfl (p6 c1 c4 c5 c6)
    · refine wp_iload (M := mX5_reckon) (pc := 28) dX5_reckon_28 rfl ?_
      refine wp_sipush (M := mX5_reckon) (pc := 30) dX5_reckon_30 k_sipush_240 ?_
      refine wp_icmp_ge (M := mX5_reckon) (pc := 33) (t := 277) dX5_reckon_33 (by decide) (fun c7 => ?_) (fun c7 => ?_)
      · refine wp_aload_n (M := mX5_reckon) (pc := 277) dX5_reckon_277 rfl rfl ?_
        refine xs_getz (M := mX5_reckon) (pc := 278) dX5_reckon_278 fX5_65 sh33 rfl ?_
        refine wp_if_ne (M := mX5_reckon) (pc := 281) (t := 290) dX5_reckon_281 (by decide) (fun c8 => ?_) (fun c8 => ?_)
        · refine wp_iconst (M := mX5_reckon) (pc := 290) dX5_reckon_290 k_iconst_0 ?_
          refine wp_goto (M := mX5_reckon) (pc := 291) (t := 300) dX5_reckon_291 (by decide) ?_
          exact xs_iret (M := mX5_reckon) (pc := 300) dX5_reckon_300 rfl (p7 c1 c4 c7 c8)
        · refine wp_iload (M := mX5_reckon) (pc := 284) dX5_reckon_284 rfl ?_
          refine wp_iconst (M := mX5_reckon) (pc := 286) dX5_reckon_286 k_iconst_1 ?_
          refine wp_icmp_ge (M := mX5_reckon) (pc := 287) (t := 294) dX5_reckon_287 (by decide) (fun c9 => ?_) (fun c9 => ?_)
          · refine wp_aload_n (M := mX5_reckon) (pc := 294) dX5_reckon_294 rfl rfl ?_
            refine xs_getr (M := mX5_reckon) (pc := 295) (r := 35) dX5_reckon_295 fX5_15 sh33 rfl (gr33_1 sw) ?_
            refine wp_iconst (M := mX5_reckon) (pc := 298) dX5_reckon_298 k_iconst_0 ?_
            refine xs_iald (M := mX5_reckon) (pc := 299) (j := 0) dX5_reckon_299 sh35 (vin (by decide)) rfl ?_
            exact xs_iret (M := mX5_reckon) (pc := 300) dX5_reckon_300 rfl (p8 c1 c4 c7 c8 c9)
          · refine wp_iconst (M := mX5_reckon) (pc := 290) dX5_reckon_290 k_iconst_0 ?_
            refine wp_goto (M := mX5_reckon) (pc := 291) (t := 300) dX5_reckon_291 (by decide) ?_
            exact xs_iret (M := mX5_reckon) (pc := 300) dX5_reckon_300 rfl (p9 c1 c4 c7 c8 c9)
      · refine wp_aload_n (M := mX5_reckon) (pc := 36) dX5_reckon_36 rfl rfl ?_
        refine xs_getz (M := mX5_reckon) (pc := 37) dX5_reckon_37 fX5_65 sh33 rfl ?_
        refine wp_if_ne (M := mX5_reckon) (pc := 40) (t := 277) dX5_reckon_40 (by decide) (fun c10 => ?_) (fun c10 => ?_)
        · refine wp_aload_n (M := mX5_reckon) (pc := 277) dX5_reckon_277 rfl rfl ?_
          refine xs_getz (M := mX5_reckon) (pc := 278) dX5_reckon_278 fX5_65 sh33 rfl ?_
          refine wp_if_ne (M := mX5_reckon) (pc := 281) (t := 290) dX5_reckon_281 (by decide) (fun c11 => ?_) (fun c11 => ?_)
          · refine wp_iconst (M := mX5_reckon) (pc := 290) dX5_reckon_290 k_iconst_0 ?_
            refine wp_goto (M := mX5_reckon) (pc := 291) (t := 300) dX5_reckon_291 (by decide) ?_
            exact xs_iret (M := mX5_reckon) (pc := 300) dX5_reckon_300 rfl (p10 c1 c4 c7 c10 c11)
          · refine wp_iload (M := mX5_reckon) (pc := 284) dX5_reckon_284 rfl ?_
            refine wp_iconst (M := mX5_reckon) (pc := 286) dX5_reckon_286 k_iconst_1 ?_
            refine wp_icmp_ge (M := mX5_reckon) (pc := 287) (t := 294) dX5_reckon_287 (by decide) (fun c12 => ?_) (fun c12 => ?_)
            · refine wp_aload_n (M := mX5_reckon) (pc := 294) dX5_reckon_294 rfl rfl ?_
              refine xs_getr (M := mX5_reckon) (pc := 295) (r := 35) dX5_reckon_295 fX5_15 sh33 rfl (gr33_1 sw) ?_
              refine wp_iconst (M := mX5_reckon) (pc := 298) dX5_reckon_298 k_iconst_0 ?_
              refine xs_iald (M := mX5_reckon) (pc := 299) (j := 0) dX5_reckon_299 sh35 (vin (by decide)) rfl ?_
              exact xs_iret (M := mX5_reckon) (pc := 300) dX5_reckon_300 rfl (p11 c1 c4 c7 c10 c11 c12)
            · refine wp_iconst (M := mX5_reckon) (pc := 290) dX5_reckon_290 k_iconst_0 ?_
              refine wp_goto (M := mX5_reckon) (pc := 291) (t := 300) dX5_reckon_291 (by decide) ?_
              exact xs_iret (M := mX5_reckon) (pc := 300) dX5_reckon_300 rfl (p12 c1 c4 c7 c10 c11 c12)
        · refine wp_aload_n (M := mX5_reckon) (pc := 43) dX5_reckon_43 rfl rfl ?_
          refine xs_getr (M := mX5_reckon) (pc := 44) (r := q + 5) dX5_reckon_44 fX5_69 (shL hq) rfl (grL_6 hq) ?_
          refine wp_iload (M := mX5_reckon) (pc := 47) dX5_reckon_47 rfl ?_
          refine xs_iald (M := mX5_reckon) (pc := 49) (j := x5.toNatClampNeg) dX5_reckon_49 (shL_5 hq) (p13 c1 c4 c7 c10) rfl ?_
          refine wp_istore (M := mX5_reckon) (pc := 50) (ls' := [.ref 33, .ref q, .int x2, .int x3, .int x4, .int x5, .int x6, .int (f (q + 5) x5.toNatClampNeg), v8]) dX5_reckon_50 (by decide) rfl ?_
          refine wp_aload_n (M := mX5_reckon) (pc := 52) dX5_reckon_52 rfl rfl ?_
          refine xs_getr (M := mX5_reckon) (pc := 53) (r := q + 6) dX5_reckon_53 fX5_72 (shL hq) rfl (grL_7 hq) ?_
          refine wp_iload (M := mX5_reckon) (pc := 56) dX5_reckon_56 rfl ?_
          refine xs_iald (M := mX5_reckon) (pc := 58) (j := x5.toNatClampNeg) dX5_reckon_58 (shL_6 hq) (p14 c1 c4 c7 c10) rfl ?_
          refine wp_istore (M := mX5_reckon) (pc := 59) (ls' := [.ref 33, .ref q, .int x2, .int x3, .int x4, .int x5, .int x6, .int (f (q + 5) x5.toNatClampNeg), .int (f (q + 6) x5.toNatClampNeg)]) dX5_reckon_59 (by decide) rfl ?_
          refine wp_iinc (M := mX5_reckon) (pc := 61) (v := x5 + 1) (ls' := [.ref 33, .ref q, .int x2, .int x3, .int x4, .int (x5 + 1), .int x6, .int (f (q + 5) x5.toNatClampNeg), .int (f (q + 6) x5.toNatClampNeg)]) dX5_reckon_61 rfl (congrArg (fun z => _ + z) k_iconst_1) (by decide) rfl ?_
          refine wp_iload (M := mX5_reckon) (pc := 64) dX5_reckon_64 rfl ?_
          refine wp_bipush (M := mX5_reckon) (pc := 66) dX5_reckon_66 k_bipush_48 ?_
          refine wp_icmp_eq (M := mX5_reckon) (pc := 68) (t := 78) dX5_reckon_68 (by decide) (fun c13 => ?_) (fun c13 => ?_)
          · refine wp_iload (M := mX5_reckon) (pc := 78) dX5_reckon_78 rfl ?_
            refine wp_bipush (M := mX5_reckon) (pc := 80) dX5_reckon_80 k_bipush_64 ?_
            refine wp_icmp_ge (M := mX5_reckon) (pc := 82) (t := 271) dX5_reckon_82 (by decide) (fun c14 => ?_) (fun c14 => ?_)
            · refine wp_iinc (M := mX5_reckon) (pc := 271) (v := x6 + 1) (ls' := [.ref 33, .ref q, .int x2, .int x3, .int x4, .int (x5 + 1), .int (x6 + 1), .int (f (q + 5) x5.toNatClampNeg), .int (f (q + 6) x5.toNatClampNeg)]) dX5_reckon_271 rfl (congrArg (fun z => _ + z) k_iconst_1) (by decide) rfl ?_
              refine wp_goto (M := mX5_reckon) (pc := 274) (t := 14) dX5_reckon_274 (by decide) ?_
              exact p15 c1 c4 c7 c10 c13 c14
            · refine wp_aload_n (M := mX5_reckon) (pc := 85) dX5_reckon_85 rfl rfl ?_
              refine xs_getr (M := mX5_reckon) (pc := 86) (r := 35) dX5_reckon_86 fX5_15 sh33 rfl (gr33_1 sw) ?_
              refine wp_iload (M := mX5_reckon) (pc := 89) dX5_reckon_89 rfl ?_
              refine wp_iload (M := mX5_reckon) (pc := 91) dX5_reckon_91 rfl ?_
              refine wp_bipush (M := mX5_reckon) (pc := 93) dX5_reckon_93 k_bipush_48 ?_
              refine wp_icmp_ne (M := mX5_reckon) (pc := 95) (t := 103) dX5_reckon_95 (by decide) (fun c15 => ?_) (fun c15 => ?_)
              · refine wp_aload_n (M := mX5_reckon) (pc := 103) dX5_reckon_103 rfl rfl ?_
                refine xs_getr (M := mX5_reckon) (pc := 104) (r := 34) dX5_reckon_104 fX5_11 sh33 rfl (gr33_0 sw) ?_
                refine wp_iload (M := mX5_reckon) (pc := 107) dX5_reckon_107 rfl ?_
                refine xs_iald (M := mX5_reckon) (pc := 109) (j := (f (q + 6) x5.toNatClampNeg).toNatClampNeg) dX5_reckon_109 sh34 (p16 c1 c4 c7 c10 c13 c14 c15) rfl ?_
                refine xs_iast (M := mX5_reckon) (pc := 110) (j := x4.toNatClampNeg) dX5_reckon_110 sh35 (p17 c1 c4 c7 c10 c13 c14 c15) rfl ?_
                refine wp_iinc (M := mX5_reckon) (pc := 111) (v := x4 + 1) (ls' := [.ref 33, .ref q, .int x2, .int x3, .int (x4 + 1), .int (x5 + 1), .int x6, .int (f (q + 5) x5.toNatClampNeg), .int (f (q + 6) x5.toNatClampNeg)]) dX5_reckon_111 rfl (congrArg (fun z => _ + z) k_iconst_1) (by decide) rfl ?_
                refine wp_goto (M := mX5_reckon) (pc := 114) (t := 271) dX5_reckon_114 (by decide) ?_
                refine wp_iinc (M := mX5_reckon) (pc := 271) (v := x6 + 1) (ls' := [.ref 33, .ref q, .int x2, .int x3, .int (x4 + 1), .int (x5 + 1), .int (x6 + 1), .int (f (q + 5) x5.toNatClampNeg), .int (f (q + 6) x5.toNatClampNeg)]) dX5_reckon_271 rfl (congrArg (fun z => _ + z) k_iconst_1) (by decide) rfl ?_
                refine wp_goto (M := mX5_reckon) (pc := 274) (t := 14) dX5_reckon_274 (by decide) ?_
                exact p18 c1 c4 c7 c10 c13 c14 c15
              · refine wp_iload (M := mX5_reckon) (pc := 98) dX5_reckon_98 rfl ?_
                refine wp_goto (M := mX5_reckon) (pc := 100) (t := 110) dX5_reckon_100 (by decide) ?_
                refine xs_iast (M := mX5_reckon) (pc := 110) (j := x4.toNatClampNeg) dX5_reckon_110 sh35 (p19 c1 c4 c7 c10 c13 c14 c15) rfl ?_
                refine wp_iinc (M := mX5_reckon) (pc := 111) (v := x4 + 1) (ls' := [.ref 33, .ref q, .int x2, .int x3, .int (x4 + 1), .int (x5 + 1), .int x6, .int (f (q + 5) x5.toNatClampNeg), .int (f (q + 6) x5.toNatClampNeg)]) dX5_reckon_111 rfl (congrArg (fun z => _ + z) k_iconst_1) (by decide) rfl ?_
                refine wp_goto (M := mX5_reckon) (pc := 114) (t := 271) dX5_reckon_114 (by decide) ?_
                refine wp_iinc (M := mX5_reckon) (pc := 271) (v := x6 + 1) (ls' := [.ref 33, .ref q, .int x2, .int x3, .int (x4 + 1), .int (x5 + 1), .int (x6 + 1), .int (f (q + 5) x5.toNatClampNeg), .int (f (q + 6) x5.toNatClampNeg)]) dX5_reckon_271 rfl (congrArg (fun z => _ + z) k_iconst_1) (by decide) rfl ?_
                refine wp_goto (M := mX5_reckon) (pc := 274) (t := 14) dX5_reckon_274 (by decide) ?_
                exact p20 c1 c4 c7 c10 c13 c14 c15
          · refine wp_iload (M := mX5_reckon) (pc := 71) dX5_reckon_71 rfl ?_
            refine wp_bipush (M := mX5_reckon) (pc := 73) dX5_reckon_73 k_bipush_97 ?_
            refine wp_icmp_ne (M := mX5_reckon) (pc := 75) (t := 117) dX5_reckon_75 (by decide) (fun c16 => ?_) (fun c16 => ?_)
            · refine wp_iload (M := mX5_reckon) (pc := 117) dX5_reckon_117 rfl ?_
              refine wp_bipush (M := mX5_reckon) (pc := 119) dX5_reckon_119 k_bipush_33 ?_
              refine wp_icmp_ne (M := mX5_reckon) (pc := 121) (t := 159) dX5_reckon_121 (by decide) (fun c17 => ?_) (fun c17 => ?_)
              · refine wp_iload (M := mX5_reckon) (pc := 159) dX5_reckon_159 rfl ?_
                refine wp_bipush (M := mX5_reckon) (pc := 161) dX5_reckon_161 k_bipush_38 ?_
                refine wp_icmp_eq (M := mX5_reckon) (pc := 163) (t := 173) dX5_reckon_163 (by decide) (fun c18 => ?_) (fun c18 => ?_)
                · refine wp_iload (M := mX5_reckon) (pc := 173) dX5_reckon_173 rfl ?_
                  refine wp_iconst (M := mX5_reckon) (pc := 175) dX5_reckon_175 k_iconst_1 ?_
                  refine wp_icmp_lt (M := mX5_reckon) (pc := 176) (t := 218) dX5_reckon_176 (by decide) (fun c19 => ?_) (fun c19 => ?_)
                  · refine wp_iconst (M := mX5_reckon) (pc := 218) dX5_reckon_218 k_iconst_0 ?_
                    refine wp_iload (M := mX5_reckon) (pc := 219) dX5_reckon_219 rfl ?_
                    refine wp_iconst (M := mX5_reckon) (pc := 221) dX5_reckon_221 k_iconst_1 ?_
                    refine wp_isub (M := mX5_reckon) (pc := 222) dX5_reckon_222 ?_
                    refine xs_mmax (M := mX5_reckon) (pc := 223) dX5_reckon_223 lX5_75 (Nat.le_of_ble_eq_true rfl) ?_
                    refine wp_istore (M := mX5_reckon) (pc := 226) (ls' := [.ref 33, .ref q, .int x2, .int x3, .int (if 0 < (x4 - 1) then (x4 - 1) else 0), .int (x5 + 1), .int x6, .int (f (q + 5) x5.toNatClampNeg), .int (f (q + 6) x5.toNatClampNeg)]) dX5_reckon_226 (by decide) rfl ?_
                    refine wp_goto (M := mX5_reckon) (pc := 228) (t := 271) dX5_reckon_228 (by decide) ?_
                    refine wp_iinc (M := mX5_reckon) (pc := 271) (v := x6 + 1) (ls' := [.ref 33, .ref q, .int x2, .int x3, .int (if 0 < (x4 - 1) then (x4 - 1) else 0), .int (x5 + 1), .int (x6 + 1), .int (f (q + 5) x5.toNatClampNeg), .int (f (q + 6) x5.toNatClampNeg)]) dX5_reckon_271 rfl (congrArg (fun z => _ + z) k_iconst_1) (by decide) rfl ?_
                    refine wp_goto (M := mX5_reckon) (pc := 274) (t := 14) dX5_reckon_274 (by decide) ?_
                    exact p21 c1 c4 c7 c10 c13 c16 c17 c18 c19
                  · refine wp_aload_n (M := mX5_reckon) (pc := 179) dX5_reckon_179 rfl rfl ?_
                    refine xs_getr (M := mX5_reckon) (pc := 180) (r := 35) dX5_reckon_180 fX5_15 sh33 rfl (gr33_1 sw) ?_
                    refine wp_iload (M := mX5_reckon) (pc := 183) dX5_reckon_183 rfl ?_
                    refine wp_iconst (M := mX5_reckon) (pc := 185) dX5_reckon_185 k_iconst_1 ?_
                    refine wp_isub (M := mX5_reckon) (pc := 186) dX5_reckon_186 ?_
                    refine xs_iald (M := mX5_reckon) (pc := 187) (j := (x4 - 1).toNatClampNeg) dX5_reckon_187 sh35 (p22 c1 c4 c7 c10 c13 c16 c17 c18 c19) rfl ?_
                    refine wp_if_eq (M := mX5_reckon) (pc := 188) (t := 195) dX5_reckon_188 (by decide) (fun c20 => ?_) (fun c20 => ?_)
                    · refine wp_iconst (M := mX5_reckon) (pc := 195) dX5_reckon_195 k_iconst_0 ?_
                      refine wp_iload (M := mX5_reckon) (pc := 196) dX5_reckon_196 rfl ?_
                      refine wp_bipush (M := mX5_reckon) (pc := 198) dX5_reckon_198 k_bipush_124 ?_
                      refine wp_icmp_ne (M := mX5_reckon) (pc := 200) (t := 207) dX5_reckon_200 (by decide) (fun c21 => ?_) (fun c21 => ?_)
                      · refine wp_iconst (M := mX5_reckon) (pc := 207) dX5_reckon_207 k_iconst_0 ?_
                        refine wp_icmp_ne (M := mX5_reckon) (pc := 208) (t := 218) dX5_reckon_208 (by decide) (fun c => absurd c (by decide)) (fun _ => ?_)
                        refine wp_iload (M := mX5_reckon) (pc := 211) dX5_reckon_211 rfl ?_
                        refine wp_istore (M := mX5_reckon) (pc := 213) (ls' := [.ref 33, .ref q, .int x2, .int x3, .int x4, .int (f (q + 6) x5.toNatClampNeg), .int x6, .int (f (q + 5) x5.toNatClampNeg), .int (f (q + 6) x5.toNatClampNeg)]) dX5_reckon_213 (by decide) rfl ?_
                        refine wp_goto (M := mX5_reckon) (pc := 215) (t := 271) dX5_reckon_215 (by decide) ?_
                        refine wp_iinc (M := mX5_reckon) (pc := 271) (v := x6 + 1) (ls' := [.ref 33, .ref q, .int x2, .int x3, .int x4, .int (f (q + 6) x5.toNatClampNeg), .int (x6 + 1), .int (f (q + 5) x5.toNatClampNeg), .int (f (q + 6) x5.toNatClampNeg)]) dX5_reckon_271 rfl (congrArg (fun z => _ + z) k_iconst_1) (by decide) rfl ?_
                        refine wp_goto (M := mX5_reckon) (pc := 274) (t := 14) dX5_reckon_274 (by decide) ?_
                        exact p23 c1 c4 c7 c10 c13 c16 c17 c18 c19 c20 c21
                      · refine wp_iconst (M := mX5_reckon) (pc := 203) dX5_reckon_203 k_iconst_1 ?_
                        refine wp_goto (M := mX5_reckon) (pc := 204) (t := 208) dX5_reckon_204 (by decide) ?_
                        refine wp_icmp_ne (M := mX5_reckon) (pc := 208) (t := 218) dX5_reckon_208 (by decide) (fun _ => ?_) (fun c => absurd c (by decide))
                        refine wp_iconst (M := mX5_reckon) (pc := 218) dX5_reckon_218 k_iconst_0 ?_
                        refine wp_iload (M := mX5_reckon) (pc := 219) dX5_reckon_219 rfl ?_
                        refine wp_iconst (M := mX5_reckon) (pc := 221) dX5_reckon_221 k_iconst_1 ?_
                        refine wp_isub (M := mX5_reckon) (pc := 222) dX5_reckon_222 ?_
                        refine xs_mmax (M := mX5_reckon) (pc := 223) dX5_reckon_223 lX5_75 (Nat.le_of_ble_eq_true rfl) ?_
                        refine wp_istore (M := mX5_reckon) (pc := 226) (ls' := [.ref 33, .ref q, .int x2, .int x3, .int (if 0 < (x4 - 1) then (x4 - 1) else 0), .int (x5 + 1), .int x6, .int (f (q + 5) x5.toNatClampNeg), .int (f (q + 6) x5.toNatClampNeg)]) dX5_reckon_226 (by decide) rfl ?_
                        refine wp_goto (M := mX5_reckon) (pc := 228) (t := 271) dX5_reckon_228 (by decide) ?_
                        refine wp_iinc (M := mX5_reckon) (pc := 271) (v := x6 + 1) (ls' := [.ref 33, .ref q, .int x2, .int x3, .int (if 0 < (x4 - 1) then (x4 - 1) else 0), .int (x5 + 1), .int (x6 + 1), .int (f (q + 5) x5.toNatClampNeg), .int (f (q + 6) x5.toNatClampNeg)]) dX5_reckon_271 rfl (congrArg (fun z => _ + z) k_iconst_1) (by decide) rfl ?_
                        refine wp_goto (M := mX5_reckon) (pc := 274) (t := 14) dX5_reckon_274 (by decide) ?_
                        exact p24 c1 c4 c7 c10 c13 c16 c17 c18 c19 c20 c21
                    · refine wp_iconst (M := mX5_reckon) (pc := 191) dX5_reckon_191 k_iconst_1 ?_
                      refine wp_goto (M := mX5_reckon) (pc := 192) (t := 196) dX5_reckon_192 (by decide) ?_
                      refine wp_iload (M := mX5_reckon) (pc := 196) dX5_reckon_196 rfl ?_
                      refine wp_bipush (M := mX5_reckon) (pc := 198) dX5_reckon_198 k_bipush_124 ?_
                      refine wp_icmp_ne (M := mX5_reckon) (pc := 200) (t := 207) dX5_reckon_200 (by decide) (fun c22 => ?_) (fun c22 => ?_)
                      · refine wp_iconst (M := mX5_reckon) (pc := 207) dX5_reckon_207 k_iconst_0 ?_
                        refine wp_icmp_ne (M := mX5_reckon) (pc := 208) (t := 218) dX5_reckon_208 (by decide) (fun _ => ?_) (fun c => absurd c (by decide))
                        refine wp_iconst (M := mX5_reckon) (pc := 218) dX5_reckon_218 k_iconst_0 ?_
                        refine wp_iload (M := mX5_reckon) (pc := 219) dX5_reckon_219 rfl ?_
                        refine wp_iconst (M := mX5_reckon) (pc := 221) dX5_reckon_221 k_iconst_1 ?_
                        refine wp_isub (M := mX5_reckon) (pc := 222) dX5_reckon_222 ?_
                        refine xs_mmax (M := mX5_reckon) (pc := 223) dX5_reckon_223 lX5_75 (Nat.le_of_ble_eq_true rfl) ?_
                        refine wp_istore (M := mX5_reckon) (pc := 226) (ls' := [.ref 33, .ref q, .int x2, .int x3, .int (if 0 < (x4 - 1) then (x4 - 1) else 0), .int (x5 + 1), .int x6, .int (f (q + 5) x5.toNatClampNeg), .int (f (q + 6) x5.toNatClampNeg)]) dX5_reckon_226 (by decide) rfl ?_
                        refine wp_goto (M := mX5_reckon) (pc := 228) (t := 271) dX5_reckon_228 (by decide) ?_
                        refine wp_iinc (M := mX5_reckon) (pc := 271) (v := x6 + 1) (ls' := [.ref 33, .ref q, .int x2, .int x3, .int (if 0 < (x4 - 1) then (x4 - 1) else 0), .int (x5 + 1), .int (x6 + 1), .int (f (q + 5) x5.toNatClampNeg), .int (f (q + 6) x5.toNatClampNeg)]) dX5_reckon_271 rfl (congrArg (fun z => _ + z) k_iconst_1) (by decide) rfl ?_
                        refine wp_goto (M := mX5_reckon) (pc := 274) (t := 14) dX5_reckon_274 (by decide) ?_
                        exact p25 c1 c4 c7 c10 c13 c16 c17 c18 c19 c20 c22
                      · refine wp_iconst (M := mX5_reckon) (pc := 203) dX5_reckon_203 k_iconst_1 ?_
                        refine wp_goto (M := mX5_reckon) (pc := 204) (t := 208) dX5_reckon_204 (by decide) ?_
                        refine wp_icmp_ne (M := mX5_reckon) (pc := 208) (t := 218) dX5_reckon_208 (by decide) (fun c => absurd c (by decide)) (fun _ => ?_)
                        refine wp_iload (M := mX5_reckon) (pc := 211) dX5_reckon_211 rfl ?_
                        refine wp_istore (M := mX5_reckon) (pc := 213) (ls' := [.ref 33, .ref q, .int x2, .int x3, .int x4, .int (f (q + 6) x5.toNatClampNeg), .int x6, .int (f (q + 5) x5.toNatClampNeg), .int (f (q + 6) x5.toNatClampNeg)]) dX5_reckon_213 (by decide) rfl ?_
                        refine wp_goto (M := mX5_reckon) (pc := 215) (t := 271) dX5_reckon_215 (by decide) ?_
                        refine wp_iinc (M := mX5_reckon) (pc := 271) (v := x6 + 1) (ls' := [.ref 33, .ref q, .int x2, .int x3, .int x4, .int (f (q + 6) x5.toNatClampNeg), .int (x6 + 1), .int (f (q + 5) x5.toNatClampNeg), .int (f (q + 6) x5.toNatClampNeg)]) dX5_reckon_271 rfl (congrArg (fun z => _ + z) k_iconst_1) (by decide) rfl ?_
                        refine wp_goto (M := mX5_reckon) (pc := 274) (t := 14) dX5_reckon_274 (by decide) ?_
                        exact p26 c1 c4 c7 c10 c13 c16 c17 c18 c19 c20 c22
                · refine wp_iload (M := mX5_reckon) (pc := 166) dX5_reckon_166 rfl ?_
                  refine wp_bipush (M := mX5_reckon) (pc := 168) dX5_reckon_168 k_bipush_124 ?_
                  refine wp_icmp_ne (M := mX5_reckon) (pc := 170) (t := 231) dX5_reckon_170 (by decide) (fun c23 => ?_) (fun c23 => ?_)
                  · refine wp_iload (M := mX5_reckon) (pc := 231) dX5_reckon_231 rfl ?_
                    refine wp_iconst (M := mX5_reckon) (pc := 233) dX5_reckon_233 k_iconst_2 ?_
                    refine wp_icmp_lt (M := mX5_reckon) (pc := 234) (t := 271) dX5_reckon_234 (by decide) (fun c24 => ?_) (fun c24 => ?_)
                    · refine wp_iinc (M := mX5_reckon) (pc := 271) (v := x6 + 1) (ls' := [.ref 33, .ref q, .int x2, .int x3, .int x4, .int (x5 + 1), .int (x6 + 1), .int (f (q + 5) x5.toNatClampNeg), .int (f (q + 6) x5.toNatClampNeg)]) dX5_reckon_271 rfl (congrArg (fun z => _ + z) k_iconst_1) (by decide) rfl ?_
                      refine wp_goto (M := mX5_reckon) (pc := 274) (t := 14) dX5_reckon_274 (by decide) ?_
                      exact p27 c1 c4 c7 c10 c13 c16 c17 c18 c23 c24
                    · refine wp_iinc (M := mX5_reckon) (pc := 237) (v := x4 + (-1)) (ls' := [.ref 33, .ref q, .int x2, .int x3, .int (x4 + (-1)), .int (x5 + 1), .int x6, .int (f (q + 5) x5.toNatClampNeg), .int (f (q + 6) x5.toNatClampNeg)]) dX5_reckon_237 rfl (congrArg (fun z => _ + z) k_iconst_m1) (by decide) rfl ?_
                      refine wp_aload_n (M := mX5_reckon) (pc := 240) dX5_reckon_240 rfl rfl ?_
                      refine xs_getr (M := mX5_reckon) (pc := 241) (r := 35) dX5_reckon_241 fX5_15 sh33 rfl (gr33_1 sw) ?_
                      refine wp_iload (M := mX5_reckon) (pc := 244) dX5_reckon_244 rfl ?_
                      refine wp_iconst (M := mX5_reckon) (pc := 246) dX5_reckon_246 k_iconst_1 ?_
                      refine wp_isub (M := mX5_reckon) (pc := 247) dX5_reckon_247 ?_
                      refine wp_aload_n (M := mX5_reckon) (pc := 248) dX5_reckon_248 rfl rfl ?_
                      refine wp_iload (M := mX5_reckon) (pc := 249) dX5_reckon_249 rfl ?_
                      refine wp_aload_n (M := mX5_reckon) (pc := 251) dX5_reckon_251 rfl rfl ?_
                      refine xs_getr (M := mX5_reckon) (pc := 252) (r := 35) dX5_reckon_252 fX5_15 sh33 rfl (gr33_1 sw) ?_
                      refine wp_iload (M := mX5_reckon) (pc := 255) dX5_reckon_255 rfl ?_
                      refine wp_iconst (M := mX5_reckon) (pc := 257) dX5_reckon_257 k_iconst_1 ?_
                      refine wp_isub (M := mX5_reckon) (pc := 258) dX5_reckon_258 ?_
                      refine xs_iald (M := mX5_reckon) (pc := 259) (j := ((x4 + (-1)) - 1).toNatClampNeg) dX5_reckon_259 sh35 (p28 c1 c4 c7 c10 c13 c16 c17 c18 c23 c24) rfl ?_
                      refine wp_aload_n (M := mX5_reckon) (pc := 260) dX5_reckon_260 rfl rfl ?_
                      refine xs_getr (M := mX5_reckon) (pc := 261) (r := 35) dX5_reckon_261 fX5_15 sh33 rfl (gr33_1 sw) ?_
                      refine wp_iload (M := mX5_reckon) (pc := 264) dX5_reckon_264 rfl ?_
                      refine xs_iald (M := mX5_reckon) (pc := 266) (j := (x4 + (-1)).toNatClampNeg) dX5_reckon_266 sh35 (p29 c1 c4 c7 c10 c13 c16 c17 c18 c23 c24) rfl ?_
                      refine xs_callV (d := d) (M := mX5_reckon) (pc := 267) (As := [.int (f (q + 5) x5.toNatClampNeg), .int (f 35 (((x4 + (-1)) - 1).toNatClampNeg)), .int (f 35 ((x4 + (-1)).toNatClampNeg))]) (st := [.int ((x4 + (-1)) - 1), .ref 35]) (c := 5) (ls' := [.ref 33, .int (f (q + 5) x5.toNatClampNeg), .int (f 35 (((x4 + (-1)) - 1).toNatClampNeg)), .int (f 35 ((x4 + (-1)).toNatClampNeg))]) dX5_reckon_267 oX5_join nX5_join lX5_80 vX5_join sX5_join rfl sh33 (Nat.le_of_ble_eq_true rfl) rfl (Nat.le_of_ble_eq_true rfl) rfl ?_
                      exact p30 c1 c4 c7 c10 c13 c16 c17 c18 c23 c24
                  · refine wp_iload (M := mX5_reckon) (pc := 173) dX5_reckon_173 rfl ?_
                    refine wp_iconst (M := mX5_reckon) (pc := 175) dX5_reckon_175 k_iconst_1 ?_
                    refine wp_icmp_lt (M := mX5_reckon) (pc := 176) (t := 218) dX5_reckon_176 (by decide) (fun c25 => ?_) (fun c25 => ?_)
                    · refine wp_iconst (M := mX5_reckon) (pc := 218) dX5_reckon_218 k_iconst_0 ?_
                      refine wp_iload (M := mX5_reckon) (pc := 219) dX5_reckon_219 rfl ?_
                      refine wp_iconst (M := mX5_reckon) (pc := 221) dX5_reckon_221 k_iconst_1 ?_
                      refine wp_isub (M := mX5_reckon) (pc := 222) dX5_reckon_222 ?_
                      refine xs_mmax (M := mX5_reckon) (pc := 223) dX5_reckon_223 lX5_75 (Nat.le_of_ble_eq_true rfl) ?_
                      refine wp_istore (M := mX5_reckon) (pc := 226) (ls' := [.ref 33, .ref q, .int x2, .int x3, .int (if 0 < (x4 - 1) then (x4 - 1) else 0), .int (x5 + 1), .int x6, .int (f (q + 5) x5.toNatClampNeg), .int (f (q + 6) x5.toNatClampNeg)]) dX5_reckon_226 (by decide) rfl ?_
                      refine wp_goto (M := mX5_reckon) (pc := 228) (t := 271) dX5_reckon_228 (by decide) ?_
                      refine wp_iinc (M := mX5_reckon) (pc := 271) (v := x6 + 1) (ls' := [.ref 33, .ref q, .int x2, .int x3, .int (if 0 < (x4 - 1) then (x4 - 1) else 0), .int (x5 + 1), .int (x6 + 1), .int (f (q + 5) x5.toNatClampNeg), .int (f (q + 6) x5.toNatClampNeg)]) dX5_reckon_271 rfl (congrArg (fun z => _ + z) k_iconst_1) (by decide) rfl ?_
                      refine wp_goto (M := mX5_reckon) (pc := 274) (t := 14) dX5_reckon_274 (by decide) ?_
                      exact p31 c1 c4 c7 c10 c13 c16 c17 c18 c23 c25
                    · refine wp_aload_n (M := mX5_reckon) (pc := 179) dX5_reckon_179 rfl rfl ?_
                      refine xs_getr (M := mX5_reckon) (pc := 180) (r := 35) dX5_reckon_180 fX5_15 sh33 rfl (gr33_1 sw) ?_
                      refine wp_iload (M := mX5_reckon) (pc := 183) dX5_reckon_183 rfl ?_
                      refine wp_iconst (M := mX5_reckon) (pc := 185) dX5_reckon_185 k_iconst_1 ?_
                      refine wp_isub (M := mX5_reckon) (pc := 186) dX5_reckon_186 ?_
                      refine xs_iald (M := mX5_reckon) (pc := 187) (j := (x4 - 1).toNatClampNeg) dX5_reckon_187 sh35 (p32 c1 c4 c7 c10 c13 c16 c17 c18 c23 c25) rfl ?_
                      refine wp_if_eq (M := mX5_reckon) (pc := 188) (t := 195) dX5_reckon_188 (by decide) (fun c26 => ?_) (fun c26 => ?_)
                      · refine wp_iconst (M := mX5_reckon) (pc := 195) dX5_reckon_195 k_iconst_0 ?_
                        refine wp_iload (M := mX5_reckon) (pc := 196) dX5_reckon_196 rfl ?_
                        refine wp_bipush (M := mX5_reckon) (pc := 198) dX5_reckon_198 k_bipush_124 ?_
                        refine wp_icmp_ne (M := mX5_reckon) (pc := 200) (t := 207) dX5_reckon_200 (by decide) (fun c27 => ?_) (fun c27 => ?_)
                        · refine wp_iconst (M := mX5_reckon) (pc := 207) dX5_reckon_207 k_iconst_0 ?_
                          refine wp_icmp_ne (M := mX5_reckon) (pc := 208) (t := 218) dX5_reckon_208 (by decide) (fun c => absurd c (by decide)) (fun _ => ?_)
                          refine wp_iload (M := mX5_reckon) (pc := 211) dX5_reckon_211 rfl ?_
                          refine wp_istore (M := mX5_reckon) (pc := 213) (ls' := [.ref 33, .ref q, .int x2, .int x3, .int x4, .int (f (q + 6) x5.toNatClampNeg), .int x6, .int (f (q + 5) x5.toNatClampNeg), .int (f (q + 6) x5.toNatClampNeg)]) dX5_reckon_213 (by decide) rfl ?_
                          refine wp_goto (M := mX5_reckon) (pc := 215) (t := 271) dX5_reckon_215 (by decide) ?_
                          refine wp_iinc (M := mX5_reckon) (pc := 271) (v := x6 + 1) (ls' := [.ref 33, .ref q, .int x2, .int x3, .int x4, .int (f (q + 6) x5.toNatClampNeg), .int (x6 + 1), .int (f (q + 5) x5.toNatClampNeg), .int (f (q + 6) x5.toNatClampNeg)]) dX5_reckon_271 rfl (congrArg (fun z => _ + z) k_iconst_1) (by decide) rfl ?_
                          refine wp_goto (M := mX5_reckon) (pc := 274) (t := 14) dX5_reckon_274 (by decide) ?_
                          exact p33 c1 c4 c7 c10 c13 c16 c17 c18 c23 c25 c26 c27
                        · refine wp_iconst (M := mX5_reckon) (pc := 203) dX5_reckon_203 k_iconst_1 ?_
                          refine wp_goto (M := mX5_reckon) (pc := 204) (t := 208) dX5_reckon_204 (by decide) ?_
                          refine wp_icmp_ne (M := mX5_reckon) (pc := 208) (t := 218) dX5_reckon_208 (by decide) (fun _ => ?_) (fun c => absurd c (by decide))
                          refine wp_iconst (M := mX5_reckon) (pc := 218) dX5_reckon_218 k_iconst_0 ?_
                          refine wp_iload (M := mX5_reckon) (pc := 219) dX5_reckon_219 rfl ?_
                          refine wp_iconst (M := mX5_reckon) (pc := 221) dX5_reckon_221 k_iconst_1 ?_
                          refine wp_isub (M := mX5_reckon) (pc := 222) dX5_reckon_222 ?_
                          refine xs_mmax (M := mX5_reckon) (pc := 223) dX5_reckon_223 lX5_75 (Nat.le_of_ble_eq_true rfl) ?_
                          refine wp_istore (M := mX5_reckon) (pc := 226) (ls' := [.ref 33, .ref q, .int x2, .int x3, .int (if 0 < (x4 - 1) then (x4 - 1) else 0), .int (x5 + 1), .int x6, .int (f (q + 5) x5.toNatClampNeg), .int (f (q + 6) x5.toNatClampNeg)]) dX5_reckon_226 (by decide) rfl ?_
                          refine wp_goto (M := mX5_reckon) (pc := 228) (t := 271) dX5_reckon_228 (by decide) ?_
                          refine wp_iinc (M := mX5_reckon) (pc := 271) (v := x6 + 1) (ls' := [.ref 33, .ref q, .int x2, .int x3, .int (if 0 < (x4 - 1) then (x4 - 1) else 0), .int (x5 + 1), .int (x6 + 1), .int (f (q + 5) x5.toNatClampNeg), .int (f (q + 6) x5.toNatClampNeg)]) dX5_reckon_271 rfl (congrArg (fun z => _ + z) k_iconst_1) (by decide) rfl ?_
                          refine wp_goto (M := mX5_reckon) (pc := 274) (t := 14) dX5_reckon_274 (by decide) ?_
                          exact p34 c1 c4 c7 c10 c13 c16 c17 c18 c23 c25 c26 c27
                      · refine wp_iconst (M := mX5_reckon) (pc := 191) dX5_reckon_191 k_iconst_1 ?_
                        refine wp_goto (M := mX5_reckon) (pc := 192) (t := 196) dX5_reckon_192 (by decide) ?_
                        refine wp_iload (M := mX5_reckon) (pc := 196) dX5_reckon_196 rfl ?_
                        refine wp_bipush (M := mX5_reckon) (pc := 198) dX5_reckon_198 k_bipush_124 ?_
                        refine wp_icmp_ne (M := mX5_reckon) (pc := 200) (t := 207) dX5_reckon_200 (by decide) (fun c28 => ?_) (fun c28 => ?_)
                        · refine wp_iconst (M := mX5_reckon) (pc := 207) dX5_reckon_207 k_iconst_0 ?_
                          refine wp_icmp_ne (M := mX5_reckon) (pc := 208) (t := 218) dX5_reckon_208 (by decide) (fun _ => ?_) (fun c => absurd c (by decide))
                          refine wp_iconst (M := mX5_reckon) (pc := 218) dX5_reckon_218 k_iconst_0 ?_
                          refine wp_iload (M := mX5_reckon) (pc := 219) dX5_reckon_219 rfl ?_
                          refine wp_iconst (M := mX5_reckon) (pc := 221) dX5_reckon_221 k_iconst_1 ?_
                          refine wp_isub (M := mX5_reckon) (pc := 222) dX5_reckon_222 ?_
                          refine xs_mmax (M := mX5_reckon) (pc := 223) dX5_reckon_223 lX5_75 (Nat.le_of_ble_eq_true rfl) ?_
                          refine wp_istore (M := mX5_reckon) (pc := 226) (ls' := [.ref 33, .ref q, .int x2, .int x3, .int (if 0 < (x4 - 1) then (x4 - 1) else 0), .int (x5 + 1), .int x6, .int (f (q + 5) x5.toNatClampNeg), .int (f (q + 6) x5.toNatClampNeg)]) dX5_reckon_226 (by decide) rfl ?_
                          refine wp_goto (M := mX5_reckon) (pc := 228) (t := 271) dX5_reckon_228 (by decide) ?_
                          refine wp_iinc (M := mX5_reckon) (pc := 271) (v := x6 + 1) (ls' := [.ref 33, .ref q, .int x2, .int x3, .int (if 0 < (x4 - 1) then (x4 - 1) else 0), .int (x5 + 1), .int (x6 + 1), .int (f (q + 5) x5.toNatClampNeg), .int (f (q + 6) x5.toNatClampNeg)]) dX5_reckon_271 rfl (congrArg (fun z => _ + z) k_iconst_1) (by decide) rfl ?_
                          refine wp_goto (M := mX5_reckon) (pc := 274) (t := 14) dX5_reckon_274 (by decide) ?_
                          exact p35 c1 c4 c7 c10 c13 c16 c17 c18 c23 c25 c26 c28
                        · refine wp_iconst (M := mX5_reckon) (pc := 203) dX5_reckon_203 k_iconst_1 ?_
                          refine wp_goto (M := mX5_reckon) (pc := 204) (t := 208) dX5_reckon_204 (by decide) ?_
                          refine wp_icmp_ne (M := mX5_reckon) (pc := 208) (t := 218) dX5_reckon_208 (by decide) (fun c => absurd c (by decide)) (fun _ => ?_)
                          refine wp_iload (M := mX5_reckon) (pc := 211) dX5_reckon_211 rfl ?_
                          refine wp_istore (M := mX5_reckon) (pc := 213) (ls' := [.ref 33, .ref q, .int x2, .int x3, .int x4, .int (f (q + 6) x5.toNatClampNeg), .int x6, .int (f (q + 5) x5.toNatClampNeg), .int (f (q + 6) x5.toNatClampNeg)]) dX5_reckon_213 (by decide) rfl ?_
                          refine wp_goto (M := mX5_reckon) (pc := 215) (t := 271) dX5_reckon_215 (by decide) ?_
                          refine wp_iinc (M := mX5_reckon) (pc := 271) (v := x6 + 1) (ls' := [.ref 33, .ref q, .int x2, .int x3, .int x4, .int (f (q + 6) x5.toNatClampNeg), .int (x6 + 1), .int (f (q + 5) x5.toNatClampNeg), .int (f (q + 6) x5.toNatClampNeg)]) dX5_reckon_271 rfl (congrArg (fun z => _ + z) k_iconst_1) (by decide) rfl ?_
                          refine wp_goto (M := mX5_reckon) (pc := 274) (t := 14) dX5_reckon_274 (by decide) ?_
                          exact p36 c1 c4 c7 c10 c13 c16 c17 c18 c23 c25 c26 c28
              · refine wp_iload (M := mX5_reckon) (pc := 124) dX5_reckon_124 rfl ?_
                refine wp_iconst (M := mX5_reckon) (pc := 126) dX5_reckon_126 k_iconst_1 ?_
                refine wp_icmp_lt (M := mX5_reckon) (pc := 127) (t := 271) dX5_reckon_127 (by decide) (fun c29 => ?_) (fun c29 => ?_)
                · refine wp_iinc (M := mX5_reckon) (pc := 271) (v := x6 + 1) (ls' := [.ref 33, .ref q, .int x2, .int x3, .int x4, .int (x5 + 1), .int (x6 + 1), .int (f (q + 5) x5.toNatClampNeg), .int (f (q + 6) x5.toNatClampNeg)]) dX5_reckon_271 rfl (congrArg (fun z => _ + z) k_iconst_1) (by decide) rfl ?_
                  refine wp_goto (M := mX5_reckon) (pc := 274) (t := 14) dX5_reckon_274 (by decide) ?_
                  exact p37 c1 c4 c7 c10 c13 c16 c17 c29
                · refine wp_aload_n (M := mX5_reckon) (pc := 130) dX5_reckon_130 rfl rfl ?_
                  refine xs_getr (M := mX5_reckon) (pc := 131) (r := 35) dX5_reckon_131 fX5_15 sh33 rfl (gr33_1 sw) ?_
                  refine wp_iload (M := mX5_reckon) (pc := 134) dX5_reckon_134 rfl ?_
                  refine wp_iconst (M := mX5_reckon) (pc := 136) dX5_reckon_136 k_iconst_1 ?_
                  refine wp_isub (M := mX5_reckon) (pc := 137) dX5_reckon_137 ?_
                  refine wp_aload_n (M := mX5_reckon) (pc := 138) dX5_reckon_138 rfl rfl ?_
                  refine xs_getr (M := mX5_reckon) (pc := 139) (r := 35) dX5_reckon_139 fX5_15 sh33 rfl (gr33_1 sw) ?_
                  refine wp_iload (M := mX5_reckon) (pc := 142) dX5_reckon_142 rfl ?_
                  refine wp_iconst (M := mX5_reckon) (pc := 144) dX5_reckon_144 k_iconst_1 ?_
                  refine wp_isub (M := mX5_reckon) (pc := 145) dX5_reckon_145 ?_
                  refine xs_iald (M := mX5_reckon) (pc := 146) (j := (x4 - 1).toNatClampNeg) dX5_reckon_146 sh35 (p38 c1 c4 c7 c10 c13 c16 c17 c29) rfl ?_
                  refine wp_if_ne (M := mX5_reckon) (pc := 147) (t := 154) dX5_reckon_147 (by decide) (fun c30 => ?_) (fun c30 => ?_)
                  · refine wp_iconst (M := mX5_reckon) (pc := 154) dX5_reckon_154 k_iconst_0 ?_
                    refine xs_iast (M := mX5_reckon) (pc := 155) (j := (x4 - 1).toNatClampNeg) dX5_reckon_155 sh35 (p39 c1 c4 c7 c10 c13 c16 c17 c29 c30) rfl ?_
                    refine wp_goto (M := mX5_reckon) (pc := 156) (t := 271) dX5_reckon_156 (by decide) ?_
                    refine wp_iinc (M := mX5_reckon) (pc := 271) (v := x6 + 1) (ls' := [.ref 33, .ref q, .int x2, .int x3, .int x4, .int (x5 + 1), .int (x6 + 1), .int (f (q + 5) x5.toNatClampNeg), .int (f (q + 6) x5.toNatClampNeg)]) dX5_reckon_271 rfl (congrArg (fun z => _ + z) k_iconst_1) (by decide) rfl ?_
                    refine wp_goto (M := mX5_reckon) (pc := 274) (t := 14) dX5_reckon_274 (by decide) ?_
                    exact p40 c1 c4 c7 c10 c13 c16 c17 c29 c30
                  · refine wp_iconst (M := mX5_reckon) (pc := 150) dX5_reckon_150 k_iconst_1 ?_
                    refine wp_goto (M := mX5_reckon) (pc := 151) (t := 155) dX5_reckon_151 (by decide) ?_
                    refine xs_iast (M := mX5_reckon) (pc := 155) (j := (x4 - 1).toNatClampNeg) dX5_reckon_155 sh35 (p41 c1 c4 c7 c10 c13 c16 c17 c29 c30) rfl ?_
                    refine wp_goto (M := mX5_reckon) (pc := 156) (t := 271) dX5_reckon_156 (by decide) ?_
                    refine wp_iinc (M := mX5_reckon) (pc := 271) (v := x6 + 1) (ls' := [.ref 33, .ref q, .int x2, .int x3, .int x4, .int (x5 + 1), .int (x6 + 1), .int (f (q + 5) x5.toNatClampNeg), .int (f (q + 6) x5.toNatClampNeg)]) dX5_reckon_271 rfl (congrArg (fun z => _ + z) k_iconst_1) (by decide) rfl ?_
                    refine wp_goto (M := mX5_reckon) (pc := 274) (t := 14) dX5_reckon_274 (by decide) ?_
                    exact p42 c1 c4 c7 c10 c13 c16 c17 c29 c30
            · refine wp_iload (M := mX5_reckon) (pc := 78) dX5_reckon_78 rfl ?_
              refine wp_bipush (M := mX5_reckon) (pc := 80) dX5_reckon_80 k_bipush_64 ?_
              refine wp_icmp_ge (M := mX5_reckon) (pc := 82) (t := 271) dX5_reckon_82 (by decide) (fun c31 => ?_) (fun c31 => ?_)
              · refine wp_iinc (M := mX5_reckon) (pc := 271) (v := x6 + 1) (ls' := [.ref 33, .ref q, .int x2, .int x3, .int x4, .int (x5 + 1), .int (x6 + 1), .int (f (q + 5) x5.toNatClampNeg), .int (f (q + 6) x5.toNatClampNeg)]) dX5_reckon_271 rfl (congrArg (fun z => _ + z) k_iconst_1) (by decide) rfl ?_
                refine wp_goto (M := mX5_reckon) (pc := 274) (t := 14) dX5_reckon_274 (by decide) ?_
                exact p43 c1 c4 c7 c10 c13 c16 c31
              · refine wp_aload_n (M := mX5_reckon) (pc := 85) dX5_reckon_85 rfl rfl ?_
                refine xs_getr (M := mX5_reckon) (pc := 86) (r := 35) dX5_reckon_86 fX5_15 sh33 rfl (gr33_1 sw) ?_
                refine wp_iload (M := mX5_reckon) (pc := 89) dX5_reckon_89 rfl ?_
                refine wp_iload (M := mX5_reckon) (pc := 91) dX5_reckon_91 rfl ?_
                refine wp_bipush (M := mX5_reckon) (pc := 93) dX5_reckon_93 k_bipush_48 ?_
                refine wp_icmp_ne (M := mX5_reckon) (pc := 95) (t := 103) dX5_reckon_95 (by decide) (fun c32 => ?_) (fun c32 => ?_)
                · refine wp_aload_n (M := mX5_reckon) (pc := 103) dX5_reckon_103 rfl rfl ?_
                  refine xs_getr (M := mX5_reckon) (pc := 104) (r := 34) dX5_reckon_104 fX5_11 sh33 rfl (gr33_0 sw) ?_
                  refine wp_iload (M := mX5_reckon) (pc := 107) dX5_reckon_107 rfl ?_
                  refine xs_iald (M := mX5_reckon) (pc := 109) (j := (f (q + 6) x5.toNatClampNeg).toNatClampNeg) dX5_reckon_109 sh34 (p44 c1 c4 c7 c10 c13 c16 c31 c32) rfl ?_
                  refine xs_iast (M := mX5_reckon) (pc := 110) (j := x4.toNatClampNeg) dX5_reckon_110 sh35 (p45 c1 c4 c7 c10 c13 c16 c31 c32) rfl ?_
                  refine wp_iinc (M := mX5_reckon) (pc := 111) (v := x4 + 1) (ls' := [.ref 33, .ref q, .int x2, .int x3, .int (x4 + 1), .int (x5 + 1), .int x6, .int (f (q + 5) x5.toNatClampNeg), .int (f (q + 6) x5.toNatClampNeg)]) dX5_reckon_111 rfl (congrArg (fun z => _ + z) k_iconst_1) (by decide) rfl ?_
                  refine wp_goto (M := mX5_reckon) (pc := 114) (t := 271) dX5_reckon_114 (by decide) ?_
                  refine wp_iinc (M := mX5_reckon) (pc := 271) (v := x6 + 1) (ls' := [.ref 33, .ref q, .int x2, .int x3, .int (x4 + 1), .int (x5 + 1), .int (x6 + 1), .int (f (q + 5) x5.toNatClampNeg), .int (f (q + 6) x5.toNatClampNeg)]) dX5_reckon_271 rfl (congrArg (fun z => _ + z) k_iconst_1) (by decide) rfl ?_
                  refine wp_goto (M := mX5_reckon) (pc := 274) (t := 14) dX5_reckon_274 (by decide) ?_
                  exact p46 c1 c4 c7 c10 c13 c16 c31 c32
                · refine wp_iload (M := mX5_reckon) (pc := 98) dX5_reckon_98 rfl ?_
                  refine wp_goto (M := mX5_reckon) (pc := 100) (t := 110) dX5_reckon_100 (by decide) ?_
                  refine xs_iast (M := mX5_reckon) (pc := 110) (j := x4.toNatClampNeg) dX5_reckon_110 sh35 (p47 c1 c4 c7 c10 c13 c16 c31 c32) rfl ?_
                  refine wp_iinc (M := mX5_reckon) (pc := 111) (v := x4 + 1) (ls' := [.ref 33, .ref q, .int x2, .int x3, .int (x4 + 1), .int (x5 + 1), .int x6, .int (f (q + 5) x5.toNatClampNeg), .int (f (q + 6) x5.toNatClampNeg)]) dX5_reckon_111 rfl (congrArg (fun z => _ + z) k_iconst_1) (by decide) rfl ?_
                  refine wp_goto (M := mX5_reckon) (pc := 114) (t := 271) dX5_reckon_114 (by decide) ?_
                  refine wp_iinc (M := mX5_reckon) (pc := 271) (v := x6 + 1) (ls' := [.ref 33, .ref q, .int x2, .int x3, .int (x4 + 1), .int (x5 + 1), .int (x6 + 1), .int (f (q + 5) x5.toNatClampNeg), .int (f (q + 6) x5.toNatClampNeg)]) dX5_reckon_271 rfl (congrArg (fun z => _ + z) k_iconst_1) (by decide) rfl ?_
                  refine wp_goto (M := mX5_reckon) (pc := 274) (t := 14) dX5_reckon_274 (by decide) ?_
                  exact p48 c1 c4 c7 c10 c13 c16 c31 c32
theorem bX5_reckon_270 {G : GC} {d : Nat} {sw : Bool} {f : FF} {Q : QQ} {q : Nat} (hq : isLw q) {x2 : Int32} {x3 : Int32} {x4 : Int32} {x5 : Int32} {x6 : Int32} {x7 : Int32} {x8 : Int32} {s0 : Int32} {s1 : Int32} (p1 : vp_in s1 64) (p2 : XP G mX5_reckon (d + 1) 14 [.ref 33, .ref q, .int x2, .int x3, .int x4, .int x5, .int (x6 + 1), .int x7, .int x8] [] sw (upd2 f 35 s1.toNatClampNeg s0) Q) : XP G mX5_reckon (d + 1) 270 [.ref 33, .ref q, .int x2, .int x3, .int x4, .int x5, .int x6, .int x7, .int x8] [.int s0, .int s1, .ref 35] sw f Q := by
  refine xs_iast (M := mX5_reckon) (pc := 270) (j := s1.toNatClampNeg) dX5_reckon_270 sh35 (p1) rfl ?_
  refine wp_iinc (M := mX5_reckon) (pc := 271) (v := x6 + 1) (ls' := [.ref 33, .ref q, .int x2, .int x3, .int x4, .int x5, .int (x6 + 1), .int x7, .int x8]) dX5_reckon_271 rfl (congrArg (fun z => _ + z) k_iconst_1) (by decide) rfl ?_
  refine wp_goto (M := mX5_reckon) (pc := 274) (t := 14) dX5_reckon_274 (by decide) ?_
  exact p2
theorem bX5_join_0 {G : GC} {d : Nat} {sw : Bool} {f : FF} {Q : QQ} {x1 : Int32} {x2 : Int32} {x3 : Int32} (p1 : (x1 = 42) → Q (some (.int (x2 * x3))) sw f) (p2 : (x1 = 43) → Q (some (.int (x2 + x3))) sw f) (p3 : (x1 = 45) → Q (some (.int (x2 - x3))) sw f) (p4 : (x1 = 60) → (x3 ≤ x2) → Q (some (.int 0)) sw f) (p5 : (x1 = 60) → (¬ x3 ≤ x2) → Q (some (.int 1)) sw f) (p6 : (x1 = 61) → (¬ x2 = x3) → Q (some (.int 0)) sw f) (p7 : (x1 = 61) → (x2 = x3) → Q (some (.int 1)) sw f) (p8 : (x1 = 62) → (x2 ≤ x3) → Q (some (.int 0)) sw f) (p9 : (x1 = 62) → (¬ x2 ≤ x3) → Q (some (.int 1)) sw f) (p10 : (¬ x1 = 42) → (¬ x1 = 43) → (¬ x1 = 45) → (¬ x1 = 60) → (¬ x1 = 61) → (¬ x1 = 62) → (¬ x3 = 0) → (¬ x1 = 47) → ¬ x3 = 0) (p11 : (¬ x1 = 42) → (¬ x1 = 43) → (¬ x1 = 45) → (¬ x1 = 60) → (¬ x1 = 61) → (¬ x1 = 62) → (¬ x3 = 0) → (¬ x1 = 47) → Q (some (.int (x2 - x2 / x3 * x3))) sw f) (p12 : (¬ x1 = 42) → (¬ x1 = 43) → (¬ x1 = 45) → (¬ x1 = 60) → (¬ x1 = 61) → (¬ x1 = 62) → (¬ x3 = 0) → (x1 = 47) → ¬ x3 = 0) (p13 : (¬ x1 = 42) → (¬ x1 = 43) → (¬ x1 = 45) → (¬ x1 = 60) → (¬ x1 = 61) → (¬ x1 = 62) → (¬ x3 = 0) → (x1 = 47) → Q (some (.int (x2 / x3))) sw f) (p14 : (¬ x1 = 42) → (¬ x1 = 43) → (¬ x1 = 45) → (¬ x1 = 60) → (¬ x1 = 61) → (¬ x1 = 62) → (x3 = 0) → Q (some (.int 0)) sw (upd2 f 33 2 1)) : XP G mX5_join (d) 0 [.ref 33, .int x1, .int x2, .int x3] [] sw f Q := by
  refine wp_iload_n (M := mX5_join) (pc := 0) dX5_join_0 rfl rfl ?_
  by_cases c1 : x1 = 42
  · refine wp_lookup (M := mX5_join) (pc := 1) (t := 68) (off := 67) dX5_join_1 (by decide) (by rw [c1] <;> rfl) (by decide) ?_
    refine wp_iload_n (M := mX5_join) (pc := 68) dX5_join_68 rfl rfl ?_
    refine wp_iload_n (M := mX5_join) (pc := 69) dX5_join_69 rfl rfl ?_
    refine wp_imul (M := mX5_join) (pc := 70) dX5_join_70 ?_
    exact xs_iret (M := mX5_join) (pc := 71) dX5_join_71 rfl (p1 c1)
  by_cases c2 : x1 = 43
  · refine wp_lookup (M := mX5_join) (pc := 1) (t := 60) (off := 59) dX5_join_1 (by decide) (by rw [c2] <;> rfl) (by decide) ?_
    refine wp_iload_n (M := mX5_join) (pc := 60) dX5_join_60 rfl rfl ?_
    refine wp_iload_n (M := mX5_join) (pc := 61) dX5_join_61 rfl rfl ?_
    refine wp_iadd (M := mX5_join) (pc := 62) dX5_join_62 ?_
    exact xs_iret (M := mX5_join) (pc := 63) dX5_join_63 rfl (p2 c2)
  by_cases c3 : x1 = 45
  · refine wp_lookup (M := mX5_join) (pc := 1) (t := 64) (off := 63) dX5_join_1 (by decide) (by rw [c3] <;> rfl) (by decide) ?_
    refine wp_iload_n (M := mX5_join) (pc := 64) dX5_join_64 rfl rfl ?_
    refine wp_iload_n (M := mX5_join) (pc := 65) dX5_join_65 rfl rfl ?_
    refine wp_isub (M := mX5_join) (pc := 66) dX5_join_66 ?_
    exact xs_iret (M := mX5_join) (pc := 67) dX5_join_67 rfl (p3 c3)
  by_cases c4 : x1 = 60
  · refine wp_lookup (M := mX5_join) (pc := 1) (t := 72) (off := 71) dX5_join_1 (by decide) (by rw [c4] <;> rfl) (by decide) ?_
    refine wp_iload_n (M := mX5_join) (pc := 72) dX5_join_72 rfl rfl ?_
    refine wp_iload_n (M := mX5_join) (pc := 73) dX5_join_73 rfl rfl ?_
    refine wp_icmp_ge (M := mX5_join) (pc := 74) (t := 81) dX5_join_74 (by decide) (fun c5 => ?_) (fun c5 => ?_)
    · refine wp_iconst (M := mX5_join) (pc := 81) dX5_join_81 k_iconst_0 ?_
      exact xs_iret (M := mX5_join) (pc := 82) dX5_join_82 rfl (p4 c4 c5)
    · refine wp_iconst (M := mX5_join) (pc := 77) dX5_join_77 k_iconst_1 ?_
      refine wp_goto (M := mX5_join) (pc := 78) (t := 82) dX5_join_78 (by decide) ?_
      exact xs_iret (M := mX5_join) (pc := 82) dX5_join_82 rfl (p5 c4 c5)
  by_cases c6 : x1 = 61
  · refine wp_lookup (M := mX5_join) (pc := 1) (t := 94) (off := 93) dX5_join_1 (by decide) (by rw [c6] <;> rfl) (by decide) ?_
    refine wp_iload_n (M := mX5_join) (pc := 94) dX5_join_94 rfl rfl ?_
    refine wp_iload_n (M := mX5_join) (pc := 95) dX5_join_95 rfl rfl ?_
    refine wp_icmp_ne (M := mX5_join) (pc := 96) (t := 103) dX5_join_96 (by decide) (fun c7 => ?_) (fun c7 => ?_)
    · refine wp_iconst (M := mX5_join) (pc := 103) dX5_join_103 k_iconst_0 ?_
      exact xs_iret (M := mX5_join) (pc := 104) dX5_join_104 rfl (p6 c6 c7)
    · refine wp_iconst (M := mX5_join) (pc := 99) dX5_join_99 k_iconst_1 ?_
      refine wp_goto (M := mX5_join) (pc := 100) (t := 104) dX5_join_100 (by decide) ?_
      exact xs_iret (M := mX5_join) (pc := 104) dX5_join_104 rfl (p7 c6 c7)
  by_cases c8 : x1 = 62
  · refine wp_lookup (M := mX5_join) (pc := 1) (t := 83) (off := 82) dX5_join_1 (by decide) (by rw [c8] <;> rfl) (by decide) ?_
    refine wp_iload_n (M := mX5_join) (pc := 83) dX5_join_83 rfl rfl ?_
    refine wp_iload_n (M := mX5_join) (pc := 84) dX5_join_84 rfl rfl ?_
    refine wp_icmp_le (M := mX5_join) (pc := 85) (t := 92) dX5_join_85 (by decide) (fun c9 => ?_) (fun c9 => ?_)
    · refine wp_iconst (M := mX5_join) (pc := 92) dX5_join_92 k_iconst_0 ?_
      exact xs_iret (M := mX5_join) (pc := 93) dX5_join_93 rfl (p8 c8 c9)
    · refine wp_iconst (M := mX5_join) (pc := 88) dX5_join_88 k_iconst_1 ?_
      refine wp_goto (M := mX5_join) (pc := 89) (t := 93) dX5_join_89 (by decide) ?_
      exact xs_iret (M := mX5_join) (pc := 93) dX5_join_93 rfl (p9 c8 c9)
  refine wp_lookup (M := mX5_join) (pc := 1) (t := 105) (off := 104) dX5_join_1 (by decide) ((lv_osw c1 rfl).trans ((lv_osw c2 rfl).trans ((lv_osw c3 rfl).trans ((lv_osw c4 rfl).trans ((lv_osw c6 rfl).trans ((lv_osw c8 rfl).trans rfl)))))) (by decide) ?_
  refine wp_iload_n (M := mX5_join) (pc := 105) dX5_join_105 rfl rfl ?_
  refine wp_if_ne (M := mX5_join) (pc := 106) (t := 116) dX5_join_106 (by decide) (fun c10 => ?_) (fun c10 => ?_)
  · refine wp_iload_n (M := mX5_join) (pc := 116) dX5_join_116 rfl rfl ?_
    refine wp_bipush (M := mX5_join) (pc := 117) dX5_join_117 k_bipush_47 ?_
    refine wp_icmp_ne (M := mX5_join) (pc := 119) (t := 128) dX5_join_119 (by decide) (fun c11 => ?_) (fun c11 => ?_)
    · refine wp_iload_n (M := mX5_join) (pc := 128) dX5_join_128 rfl rfl ?_
      refine wp_iload_n (M := mX5_join) (pc := 129) dX5_join_129 rfl rfl ?_
      refine wp_irem (M := mX5_join) (pc := 130) dX5_join_130 (p10 c1 c2 c3 c4 c6 c8 c10 c11) ?_
      exact xs_iret (M := mX5_join) (pc := 131) dX5_join_131 rfl (p11 c1 c2 c3 c4 c6 c8 c10 c11)
    · refine wp_iload_n (M := mX5_join) (pc := 122) dX5_join_122 rfl rfl ?_
      refine wp_iload_n (M := mX5_join) (pc := 123) dX5_join_123 rfl rfl ?_
      refine wp_idiv (M := mX5_join) (pc := 124) dX5_join_124 (p12 c1 c2 c3 c4 c6 c8 c10 c11) ?_
      refine wp_goto (M := mX5_join) (pc := 125) (t := 131) dX5_join_125 (by decide) ?_
      exact xs_iret (M := mX5_join) (pc := 131) dX5_join_131 rfl (p13 c1 c2 c3 c4 c6 c8 c10 c11)
  · refine wp_aload_n (M := mX5_join) (pc := 109) dX5_join_109 rfl rfl ?_
    refine wp_iconst (M := mX5_join) (pc := 110) dX5_join_110 k_iconst_1 ?_
    refine xs_putz (M := mX5_join) (pc := 111) dX5_join_111 pX5_65 sh33 rfl (by decide) ?_
    refine wp_iconst (M := mX5_join) (pc := 114) dX5_join_114 k_iconst_0 ?_
    exact xs_iret (M := mX5_join) (pc := 115) dX5_join_115 rfl (p14 c1 c2 c3 c4 c6 c8 c10)
theorem bX9_draw_0 {G : GC} {d : Nat} {sw : Bool} {f : FF} {Q : QQ} {w : Nat} (hw : isW w) (p1 : Q (some (.int (((upd2 f w 7 (((25173 * (f w 7)) + 13849) &&& 65535)) w 7) - ((upd2 f w 7 (((25173 * (f w 7)) + 13849) &&& 65535)) w 7) / 10 * 10))) sw (upd2 f w 7 (((25173 * (f w 7)) + 13849) &&& 65535))) : XP G mX9_draw (d) 0 [.ref w] [] sw f Q := by
  refine wp_aload_n (M := mX9_draw) (pc := 0) dX9_draw_0 rfl rfl ?_
  refine wp_sipush (M := mX9_draw) (pc := 1) dX9_draw_1 k_sipush_25173 ?_
  refine wp_aload_n (M := mX9_draw) (pc := 4) dX9_draw_4 rfl rfl ?_
  refine xs_geti (M := mX9_draw) (pc := 5) dX9_draw_5 fX9_9 (shW hw) rfl ?_
  refine wp_imul (M := mX9_draw) (pc := 8) dX9_draw_8 ?_
  refine wp_sipush (M := mX9_draw) (pc := 9) dX9_draw_9 k_sipush_13849 ?_
  refine wp_iadd (M := mX9_draw) (pc := 12) dX9_draw_12 ?_
  refine wp_ldc (M := mX9_draw) (pc := 13) dX9_draw_13 kX9_102 ?_
  refine wp_iand (M := mX9_draw) (pc := 15) dX9_draw_15 ?_
  refine xs_puti (M := mX9_draw) (pc := 16) dX9_draw_16 pX9_9 (shW hw) rfl ?_
  refine wp_aload_n (M := mX9_draw) (pc := 19) dX9_draw_19 rfl rfl ?_
  refine xs_geti (M := mX9_draw) (pc := 20) dX9_draw_20 fX9_9 (shW hw) rfl ?_
  refine wp_bipush (M := mX9_draw) (pc := 23) dX9_draw_23 k_bipush_10 ?_
  refine wp_irem (M := mX9_draw) (pc := 25) dX9_draw_25 (by decide) ?_
  exact xs_iret (M := mX9_draw) (pc := 26) dX9_draw_26 rfl (p1)
theorem bX3_findRoute_0 {G : GC} {d : Nat} {sw : Bool} {f : FF} {Q : QQ} {a3 : Nat} (ha3 : SH[a3]? = some (0, 64)) {x1 : Int32} {x2 : Int32} (p1 : XP G mX3_leaveRoom (d + 1) 0 [.ref 3, .ref a3, .int 9, .null] [] sw f (fun v sw' f' => XP G mX3_findRoute (d + 2) 7 [.ref 3, .int x1, .int x2, .ref a3, .null] (retst v []) sw' f' Q)) : XP G mX3_findRoute (d + 2) 0 [.ref 3, .int x1, .int x2, .ref a3, .null] [] sw f Q := by
  refine wp_aload_n (M := mX3_findRoute) (pc := 0) dX3_findRoute_0 rfl rfl ?_
  refine wp_aload_n (M := mX3_findRoute) (pc := 1) dX3_findRoute_1 rfl rfl ?_
  refine wp_bipush (M := mX3_findRoute) (pc := 2) dX3_findRoute_2 k_bipush_9 ?_
  refine xs_callV (d := d + 1) (M := mX3_findRoute) (pc := 4) (As := [.ref a3, .int 9]) (st := []) (c := 3) (ls' := [.ref 3, .ref a3, .int 9, .null]) dX3_findRoute_4 oX3_leaveRoom nX3_leaveRoom lX3_33 vX3_leaveRoom sX3_leaveRoom rfl sh3 (Nat.le_of_ble_eq_true rfl) rfl (Nat.le_of_ble_eq_true rfl) rfl ?_
  exact p1
theorem bX3_findRoute_7 {G : GC} {d : Nat} {sw : Bool} {f : FF} {Q : QQ} {a3 : Nat} (ha3 : SH[a3]? = some (0, 64)) {x1 : Int32} {x2 : Int32} {v4 : Value} (p1 : XP G mX3_spread (d + 1) 0 [.ref 3, .int x2, .null, .null, .null, .null] [] sw f (fun v sw' f' => XP G mX3_findRoute (d + 2) 12 [.ref 3, .int x1, .int x2, .ref a3, v4] (retst v []) sw' f' Q)) : XP G mX3_findRoute (d + 2) 7 [.ref 3, .int x1, .int x2, .ref a3, v4] [] sw f Q := by
  refine wp_aload_n (M := mX3_findRoute) (pc := 7) dX3_findRoute_7 rfl rfl ?_
  refine wp_iload_n (M := mX3_findRoute) (pc := 8) dX3_findRoute_8 rfl rfl ?_
  refine xs_callV (d := d + 1) (M := mX3_findRoute) (pc := 9) (As := [.int x2]) (st := []) (c := 3) (ls' := [.ref 3, .int x2, .null, .null, .null, .null]) dX3_findRoute_9 oX3_spread nX3_spread lX3_37 vX3_spread sX3_spread rfl sh3 (Nat.le_of_ble_eq_true rfl) rfl (Nat.le_of_ble_eq_true rfl) rfl ?_
  exact p1
theorem bX3_findRoute_12 {G : GC} {d : Nat} {sw : Bool} {f : FF} {Q : QQ} {a3 : Nat} (ha3 : SH[a3]? = some (0, 64)) {x1 : Int32} {x2 : Int32} {v4 : Value} {s0 : Int32} (p1 : vp_in x1 8) (p2 : (¬ (f 8 x1.toNatClampNeg) = (-1)) → XP G mX3_findRoute (d + 2) 35 [.ref 3, .int x1, .int x2, .ref a3, .int 1] [] sw (upd2 f 5 0 x1) Q) (p3 : ((f 8 x1.toNatClampNeg) = (-1)) → Q (some (.int (-1))) sw f) : XP G mX3_findRoute (d + 2) 12 [.ref 3, .int x1, .int x2, .ref a3, v4] [.int s0] sw f Q := by
  refine wp_pop (M := mX3_findRoute) (pc := 12) dX3_findRoute_12 ?_
  refine wp_aload_n (M := mX3_findRoute) (pc := 13) dX3_findRoute_13 rfl rfl ?_
  refine xs_getr (M := mX3_findRoute) (pc := 14) (r := 8) dX3_findRoute_14 fX3_24 sh3 rfl (gr3_4 sw) ?_
  refine wp_iload_n (M := mX3_findRoute) (pc := 17) dX3_findRoute_17 rfl rfl ?_
  refine xs_iald (M := mX3_findRoute) (pc := 18) (j := x1.toNatClampNeg) dX3_findRoute_18 sh8 (p1) rfl ?_
  refine wp_iconst (M := mX3_findRoute) (pc := 19) dX3_findRoute_19 k_iconst_m1 ?_
  refine wp_icmp_ne (M := mX3_findRoute) (pc := 20) (t := 25) dX3_findRoute_20 (by decide) (fun c1 => ?_) (fun c1 => ?_)
  · refine wp_aload_n (M := mX3_findRoute) (pc := 25) dX3_findRoute_25 rfl rfl ?_
    refine xs_getr (M := mX3_findRoute) (pc := 26) (r := 5) dX3_findRoute_26 fX3_15 sh3 rfl (gr3_1 sw) ?_
    refine wp_iconst (M := mX3_findRoute) (pc := 29) dX3_findRoute_29 k_iconst_0 ?_
    refine wp_iload_n (M := mX3_findRoute) (pc := 30) dX3_findRoute_30 rfl rfl ?_
    refine xs_iast (M := mX3_findRoute) (pc := 31) (j := 0) dX3_findRoute_31 sh5 (vin (by decide)) rfl ?_
    refine wp_iconst (M := mX3_findRoute) (pc := 32) dX3_findRoute_32 k_iconst_1 ?_
    refine wp_istore (M := mX3_findRoute) (pc := 33) (ls' := [.ref 3, .int x1, .int x2, .ref a3, .int 1]) dX3_findRoute_33 (by decide) rfl ?_
    exact p2 c1
  · refine wp_iconst (M := mX3_findRoute) (pc := 23) dX3_findRoute_23 k_iconst_m1 ?_
    exact xs_iret (M := mX3_findRoute) (pc := 24) dX3_findRoute_24 rfl (p3 c1)
theorem bX3_findRoute_35 {G : GC} {d : Nat} {sw : Bool} {f : FF} {Q : QQ} {a3 : Nat} (ha3 : SH[a3]? = some (0, 64)) {x1 : Int32} {x2 : Int32} {x4 : Int32} (p1 : vp_in x1 8) (p2 : ((f 8 x1.toNatClampNeg) < x4) → vp_in x1 8) (p3 : ((f 8 x1.toNatClampNeg) < x4) → Q (some (.int (f 8 x1.toNatClampNeg))) sw f) (p4 : (¬ (f 8 x1.toNatClampNeg) < x4) → vp_in (x4 - 1) 8) (p5 : (¬ (f 8 x1.toNatClampNeg) < x4) → XP G mX3_nearer (d + 1) 0 [.ref 3, .int (f 5 ((x4 - 1).toNatClampNeg)), .null] [] sw f (fun v sw' f' => XP G mX3_findRoute (d + 2) 65 [.ref 3, .int x1, .int x2, .ref a3, .int x4] (retst v [.int x4, .ref 5]) sw' f' Q)) : XP G mX3_findRoute (d + 2) 35 [.ref 3, .int x1, .int x2, .ref a3, .int x4] [] sw f Q := by
  refine wp_iload (M := mX3_findRoute) (pc := 35) dX3_findRoute_35 rfl ?_
  refine wp_aload_n (M := mX3_findRoute) (pc := 37) dX3_findRoute_37 rfl rfl ?_
  refine xs_getr (M := mX3_findRoute) (pc := 38) (r := 8) dX3_findRoute_38 fX3_24 sh3 rfl (gr3_4 sw) ?_
  refine wp_iload_n (M := mX3_findRoute) (pc := 41) dX3_findRoute_41 rfl rfl ?_
  refine xs_iald (M := mX3_findRoute) (pc := 42) (j := x1.toNatClampNeg) dX3_findRoute_42 sh8 (p1) rfl ?_
  refine wp_icmp_gt (M := mX3_findRoute) (pc := 43) (t := 72) dX3_findRoute_43 (by decide) (fun c1 => ?_) (fun c1 => ?_)
  · refine wp_aload_n (M := mX3_findRoute) (pc := 72) dX3_findRoute_72 rfl rfl ?_
    refine xs_getr (M := mX3_findRoute) (pc := 73) (r := 8) dX3_findRoute_73 fX3_24 sh3 rfl (gr3_4 sw) ?_
    refine wp_iload_n (M := mX3_findRoute) (pc := 76) dX3_findRoute_76 rfl rfl ?_
    refine xs_iald (M := mX3_findRoute) (pc := 77) (j := x1.toNatClampNeg) dX3_findRoute_77 sh8 (p2 c1) rfl ?_
    exact xs_iret (M := mX3_findRoute) (pc := 78) dX3_findRoute_78 rfl (p3 c1)
  · refine wp_aload_n (M := mX3_findRoute) (pc := 46) dX3_findRoute_46 rfl rfl ?_
    refine xs_getr (M := mX3_findRoute) (pc := 47) (r := 5) dX3_findRoute_47 fX3_15 sh3 rfl (gr3_1 sw) ?_
    refine wp_iload (M := mX3_findRoute) (pc := 50) dX3_findRoute_50 rfl ?_
    refine wp_aload_n (M := mX3_findRoute) (pc := 52) dX3_findRoute_52 rfl rfl ?_
    refine wp_aload_n (M := mX3_findRoute) (pc := 53) dX3_findRoute_53 rfl rfl ?_
    refine xs_getr (M := mX3_findRoute) (pc := 54) (r := 5) dX3_findRoute_54 fX3_15 sh3 rfl (gr3_1 sw) ?_
    refine wp_iload (M := mX3_findRoute) (pc := 57) dX3_findRoute_57 rfl ?_
    refine wp_iconst (M := mX3_findRoute) (pc := 59) dX3_findRoute_59 k_iconst_1 ?_
    refine wp_isub (M := mX3_findRoute) (pc := 60) dX3_findRoute_60 ?_
    refine xs_iald (M := mX3_findRoute) (pc := 61) (j := (x4 - 1).toNatClampNeg) dX3_findRoute_61 sh5 (p4 c1) rfl ?_
    refine xs_callV (d := d + 1) (M := mX3_findRoute) (pc := 62) (As := [.int (f 5 ((x4 - 1).toNatClampNeg))]) (st := [.int x4, .ref 5]) (c := 3) (ls' := [.ref 3, .int (f 5 ((x4 - 1).toNatClampNeg)), .null]) dX3_findRoute_62 oX3_nearer nX3_nearer lX3_41 vX3_nearer sX3_nearer rfl sh3 (Nat.le_of_ble_eq_true rfl) rfl (Nat.le_of_ble_eq_true rfl) rfl ?_
    exact p5 c1
theorem bX3_findRoute_65 {G : GC} {d : Nat} {sw : Bool} {f : FF} {Q : QQ} {a3 : Nat} (ha3 : SH[a3]? = some (0, 64)) {x1 : Int32} {x2 : Int32} {x4 : Int32} {s0 : Int32} {s1 : Int32} (p1 : vp_in s1 8) (p2 : XP G mX3_findRoute (d + 2) 35 [.ref 3, .int x1, .int x2, .ref a3, .int (x4 + 1)] [] sw (upd2 f 5 s1.toNatClampNeg s0) Q) : XP G mX3_findRoute (d + 2) 65 [.ref 3, .int x1, .int x2, .ref a3, .int x4] [.int s0, .int s1, .ref 5] sw f Q := by
  refine xs_iast (M := mX3_findRoute) (pc := 65) (j := s1.toNatClampNeg) dX3_findRoute_65 sh5 (p1) rfl ?_
  refine wp_iinc (M := mX3_findRoute) (pc := 66) (v := x4 + 1) (ls' := [.ref 3, .int x1, .int x2, .ref a3, .int (x4 + 1)]) dX3_findRoute_66 rfl (congrArg (fun z => _ + z) k_iconst_1) (by decide) rfl ?_
  refine wp_goto (M := mX3_findRoute) (pc := 69) (t := 35) dX3_findRoute_69 (by decide) ?_
  exact p2
theorem bX3_leaveRoom_0 {G : GC} {d : Nat} {sw : Bool} {f : FF} {Q : QQ} {a1 : Nat} (ha1 : SH[a1]? = some (0, 64)) {x2 : Int32} (p1 : XP G mX3_leaveRoom (d + 1) 2 [.ref 3, .ref a1, .int x2, .int 0] [] sw f Q) : XP G mX3_leaveRoom (d + 1) 0 [.ref 3, .ref a1, .int x2, .null] [] sw f Q := by
  refine wp_iconst (M := mX3_leaveRoom) (pc := 0) dX3_leaveRoom_0 k_iconst_0 ?_
  refine wp_istore_n (M := mX3_leaveRoom) (pc := 1) (ls' := [.ref 3, .ref a1, .int x2, .int 0]) dX3_leaveRoom_1 rfl (by decide) rfl ?_
  exact p1
theorem bX3_leaveRoom_2 {G : GC} {d : Nat} {sw : Bool} {f : FF} {Q : QQ} {a1 : Nat} (ha1 : SH[a1]? = some (0, 64)) {x2 : Int32} {x3 : Int32} (p1 : (64 ≤ x3) → Q none sw f) (p2 : (¬ 64 ≤ x3) → vp_in x3 64) (p3 : (¬ 64 ≤ x3) → vp_in x3 64) (p4 : (¬ 64 ≤ x3) → vp_in x3 64) (p5 : (¬ 64 ≤ x3) → XP G mX3_leaveRoom (d + 1) 2 [.ref 3, .ref a1, .int x2, .int (x3 + 1)] [] sw (upd2 f 7 x3.toNatClampNeg (bnd ((f 4 x3.toNatClampNeg) - (f a1 x3.toNatClampNeg)) x2)) Q) : XP G mX3_leaveRoom (d + 1) 2 [.ref 3, .ref a1, .int x2, .int x3] [] sw f Q := by
  refine wp_iload_n (M := mX3_leaveRoom) (pc := 2) dX3_leaveRoom_2 rfl rfl ?_
  refine wp_bipush (M := mX3_leaveRoom) (pc := 3) dX3_leaveRoom_3 k_bipush_64 ?_
  refine wp_icmp_ge (M := mX3_leaveRoom) (pc := 5) (t := 34) dX3_leaveRoom_5 (by decide) (fun c1 => ?_) (fun c1 => ?_)
  · exact xs_ret (M := mX3_leaveRoom) (pc := 34) dX3_leaveRoom_34 rfl (p1 c1)
  · refine wp_aload_n (M := mX3_leaveRoom) (pc := 8) dX3_leaveRoom_8 rfl rfl ?_
    refine xs_getr (M := mX3_leaveRoom) (pc := 9) (r := 7) dX3_leaveRoom_9 fX3_21 sh3 rfl (gr3_3 sw) ?_
    refine wp_iload_n (M := mX3_leaveRoom) (pc := 12) dX3_leaveRoom_12 rfl rfl ?_
    refine wp_aload_n (M := mX3_leaveRoom) (pc := 13) dX3_leaveRoom_13 rfl rfl ?_
    refine xs_getr (M := mX3_leaveRoom) (pc := 14) (r := 4) dX3_leaveRoom_14 fX3_9 sh3 rfl (gr3_0 sw) ?_
    refine wp_iload_n (M := mX3_leaveRoom) (pc := 17) dX3_leaveRoom_17 rfl rfl ?_
    refine xs_iald (M := mX3_leaveRoom) (pc := 18) (j := x3.toNatClampNeg) dX3_leaveRoom_18 sh4 (p2 c1) rfl ?_
    refine wp_aload_n (M := mX3_leaveRoom) (pc := 19) dX3_leaveRoom_19 rfl rfl ?_
    refine wp_iload_n (M := mX3_leaveRoom) (pc := 20) dX3_leaveRoom_20 rfl rfl ?_
    refine xs_iald (M := mX3_leaveRoom) (pc := 21) (j := x3.toNatClampNeg) dX3_leaveRoom_21 ha1 (p3 c1) rfl ?_
    refine wp_isub (M := mX3_leaveRoom) (pc := 22) dX3_leaveRoom_22 ?_
    refine wp_iload_n (M := mX3_leaveRoom) (pc := 23) dX3_leaveRoom_23 rfl rfl ?_
    refine xs_callSN (d := d) (M := mX3_leaveRoom) (pc := 24) (As := [.int ((f 4 x3.toNatClampNeg) - (f a1 x3.toNatClampNeg)), .int x2]) (st := [.int x3, .ref 7]) (ls' := [.int ((f 4 x3.toNatClampNeg) - (f a1 x3.toNatClampNeg)), .int x2]) dX3_leaveRoom_24 oX10_bounded nX10_bounded hX3_53 tX10_bounded (Nat.le_of_ble_eq_true rfl) rfl (Nat.le_of_ble_eq_true rfl) rfl ?_
    refine sp_X10_bounded   ?_
    refine xs_iast (M := mX3_leaveRoom) (pc := 27) (j := x3.toNatClampNeg) dX3_leaveRoom_27 sh7 (p4 c1) rfl ?_
    refine wp_iinc (M := mX3_leaveRoom) (pc := 28) (v := x3 + 1) (ls' := [.ref 3, .ref a1, .int x2, .int (x3 + 1)]) dX3_leaveRoom_28 rfl (congrArg (fun z => _ + z) k_iconst_1) (by decide) rfl ?_
    refine wp_goto (M := mX3_leaveRoom) (pc := 31) (t := 2) dX3_leaveRoom_31 (by decide) ?_
    exact p5 c1
theorem bX3_spread_0 {G : GC} {d : Nat} {sw : Bool} {f : FF} {Q : QQ} {x1 : Int32} (p1 : XP G mX3_spread (d) 2 [.ref 3, .int x1, .int 0, .null, .null, .null] [] sw f Q) : XP G mX3_spread (d) 0 [.ref 3, .int x1, .null, .null, .null, .null] [] sw f Q := by
  refine wp_iconst (M := mX3_spread) (pc := 0) dX3_spread_0 k_iconst_0 ?_
  refine wp_istore_n (M := mX3_spread) (pc := 1) (ls' := [.ref 3, .int x1, .int 0, .null, .null, .null]) dX3_spread_1 rfl (by decide) rfl ?_
  exact p1
theorem bX3_spread_2 {G : GC} {d : Nat} {sw : Bool} {f : FF} {Q : QQ} {x1 : Int32} {x2 : Int32} {v3 : Value} {v4 : Value} {v5 : Value} (p1 : (8 ≤ x2) → vp_in x1 8) (p2 : (8 ≤ x2) → vp_in x1 8) (p3 : (8 ≤ x2) → XP G mX3_spread (d) 46 [.ref 3, .int x1, .int 1, .int 0, v4, v5] [] sw (upd2 (upd2 (upd2 f 8 x1.toNatClampNeg 0) 9 x1.toNatClampNeg x1) 10 0 x1) Q) (p4 : (¬ 8 ≤ x2) → vp_in x2 8) (p5 : (¬ 8 ≤ x2) → XP G mX3_spread (d) 2 [.ref 3, .int x1, .int (x2 + 1), v3, v4, v5] [] sw (upd2 f 8 x2.toNatClampNeg (-1)) Q) : XP G mX3_spread (d) 2 [.ref 3, .int x1, .int x2, v3, v4, v5] [] sw f Q := by
  refine wp_iload_n (M := mX3_spread) (pc := 2) dX3_spread_2 rfl rfl ?_
  refine wp_bipush (M := mX3_spread) (pc := 3) dX3_spread_3 k_bipush_8 ?_
  refine wp_icmp_ge (M := mX3_spread) (pc := 5) (t := 21) dX3_spread_5 (by decide) (fun c1 => ?_) (fun c1 => ?_)
  · refine wp_aload_n (M := mX3_spread) (pc := 21) dX3_spread_21 rfl rfl ?_
    refine xs_getr (M := mX3_spread) (pc := 22) (r := 8) dX3_spread_22 fX3_24 sh3 rfl (gr3_4 sw) ?_
    refine wp_iload_n (M := mX3_spread) (pc := 25) dX3_spread_25 rfl rfl ?_
    refine wp_iconst (M := mX3_spread) (pc := 26) dX3_spread_26 k_iconst_0 ?_
    refine xs_iast (M := mX3_spread) (pc := 27) (j := x1.toNatClampNeg) dX3_spread_27 sh8 (p1 c1) rfl ?_
    refine wp_aload_n (M := mX3_spread) (pc := 28) dX3_spread_28 rfl rfl ?_
    refine xs_getr (M := mX3_spread) (pc := 29) (r := 9) dX3_spread_29 fX3_27 sh3 rfl (gr3_5 sw) ?_
    refine wp_iload_n (M := mX3_spread) (pc := 32) dX3_spread_32 rfl rfl ?_
    refine wp_iload_n (M := mX3_spread) (pc := 33) dX3_spread_33 rfl rfl ?_
    refine xs_iast (M := mX3_spread) (pc := 34) (j := x1.toNatClampNeg) dX3_spread_34 sh9 (p2 c1) rfl ?_
    refine wp_aload_n (M := mX3_spread) (pc := 35) dX3_spread_35 rfl rfl ?_
    refine xs_getr (M := mX3_spread) (pc := 36) (r := 10) dX3_spread_36 fX3_30 sh3 rfl (gr3_6 sw) ?_
    refine wp_iconst (M := mX3_spread) (pc := 39) dX3_spread_39 k_iconst_0 ?_
    refine wp_iload_n (M := mX3_spread) (pc := 40) dX3_spread_40 rfl rfl ?_
    refine xs_iast (M := mX3_spread) (pc := 41) (j := 0) dX3_spread_41 sh10 (vin (by decide)) rfl ?_
    refine wp_iconst (M := mX3_spread) (pc := 42) dX3_spread_42 k_iconst_1 ?_
    refine wp_istore_n (M := mX3_spread) (pc := 43) (ls' := [.ref 3, .int x1, .int 1, v3, v4, v5]) dX3_spread_43 rfl (by decide) rfl ?_
    refine wp_iconst (M := mX3_spread) (pc := 44) dX3_spread_44 k_iconst_0 ?_
    refine wp_istore_n (M := mX3_spread) (pc := 45) (ls' := [.ref 3, .int x1, .int 1, .int 0, v4, v5]) dX3_spread_45 rfl (by decide) rfl ?_
    exact p3 c1
  · refine wp_aload_n (M := mX3_spread) (pc := 8) dX3_spread_8 rfl rfl ?_
    refine xs_getr (M := mX3_spread) (pc := 9) (r := 8) dX3_spread_9 fX3_24 sh3 rfl (gr3_4 sw) ?_
    refine wp_iload_n (M := mX3_spread) (pc := 12) dX3_spread_12 rfl rfl ?_
    refine wp_iconst (M := mX3_spread) (pc := 13) dX3_spread_13 k_iconst_m1 ?_
    refine xs_iast (M := mX3_spread) (pc := 14) (j := x2.toNatClampNeg) dX3_spread_14 sh8 (p4 c1) rfl ?_
    refine wp_iinc (M := mX3_spread) (pc := 15) (v := x2 + 1) (ls' := [.ref 3, .int x1, .int (x2 + 1), v3, v4, v5]) dX3_spread_15 rfl (congrArg (fun z => _ + z) k_iconst_1) (by decide) rfl ?_
    refine wp_goto (M := mX3_spread) (pc := 18) (t := 2) dX3_spread_18 (by decide) ?_
    exact p5 c1
theorem bX3_spread_46 {G : GC} {d : Nat} {sw : Bool} {f : FF} {Q : QQ} {x1 : Int32} {x2 : Int32} {x3 : Int32} {v4 : Value} {v5 : Value} (p1 : (x2 ≤ x3) → Q (some (.int x2)) sw f) (p2 : (¬ x2 ≤ x3) → (8 ≤ x3) → Q (some (.int x2)) sw f) (p3 : (¬ x2 ≤ x3) → (¬ 8 ≤ x3) → vp_in x3 8) (p4 : (¬ x2 ≤ x3) → (¬ 8 ≤ x3) → XP G mX3_spread (d) 68 [.ref 3, .int x1, .int x2, .int x3, .int (f 10 x3.toNatClampNeg), .int 0] [] sw f Q) : XP G mX3_spread (d) 46 [.ref 3, .int x1, .int x2, .int x3, v4, v5] [] sw f Q := by
  refine wp_iload_n (M := mX3_spread) (pc := 46) dX3_spread_46 rfl rfl ?_
  refine wp_iload_n (M := mX3_spread) (pc := 47) dX3_spread_47 rfl rfl ?_
  refine wp_icmp_ge (M := mX3_spread) (pc := 48) (t := 156) dX3_spread_48 (by decide) (fun c1 => ?_) (fun c1 => ?_)
  · refine wp_iload_n (M := mX3_spread) (pc := 156) dX3_spread_156 rfl rfl ?_
    exact xs_iret (M := mX3_spread) (pc := 157) dX3_spread_157 rfl (p1 c1)
  · refine wp_iload_n (M := mX3_spread) (pc := 51) dX3_spread_51 rfl rfl ?_
    refine wp_bipush (M := mX3_spread) (pc := 52) dX3_spread_52 k_bipush_8 ?_
    refine wp_icmp_ge (M := mX3_spread) (pc := 54) (t := 156) dX3_spread_54 (by decide) (fun c2 => ?_) (fun c2 => ?_)
    · refine wp_iload_n (M := mX3_spread) (pc := 156) dX3_spread_156 rfl rfl ?_
      exact xs_iret (M := mX3_spread) (pc := 157) dX3_spread_157 rfl (p2 c1 c2)
    · refine wp_aload_n (M := mX3_spread) (pc := 57) dX3_spread_57 rfl rfl ?_
      refine xs_getr (M := mX3_spread) (pc := 58) (r := 10) dX3_spread_58 fX3_30 sh3 rfl (gr3_6 sw) ?_
      refine wp_iload_n (M := mX3_spread) (pc := 61) dX3_spread_61 rfl rfl ?_
      refine xs_iald (M := mX3_spread) (pc := 62) (j := x3.toNatClampNeg) dX3_spread_62 sh10 (p3 c1 c2) rfl ?_
      refine wp_istore (M := mX3_spread) (pc := 63) (ls' := [.ref 3, .int x1, .int x2, .int x3, .int (f 10 x3.toNatClampNeg), v5]) dX3_spread_63 (by decide) rfl ?_
      refine wp_iconst (M := mX3_spread) (pc := 65) dX3_spread_65 k_iconst_0 ?_
      refine wp_istore (M := mX3_spread) (pc := 66) (ls' := [.ref 3, .int x1, .int x2, .int x3, .int (f 10 x3.toNatClampNeg), .int 0]) dX3_spread_66 (by decide) rfl ?_
      exact p4 c1 c2
theorem bX3_spread_68 {G : GC} {d : Nat} {sw : Bool} {f : FF} {Q : QQ} {x1 : Int32} {x2 : Int32} {x3 : Int32} {x4 : Int32} {x5 : Int32} (p1 : (8 ≤ x5) → XP G mX3_spread (d) 46 [.ref 3, .int x1, .int x2, .int (x3 + 1), .int x4, .int x5] [] sw f Q) (p2 : (¬ 8 ≤ x5) → vp_in x5 8) (p3 : (¬ 8 ≤ x5) → (¬ (f 8 x5.toNatClampNeg) = (-1)) → XP G mX3_spread (d) 68 [.ref 3, .int x1, .int x2, .int x3, .int x4, .int (x5 + 1)] [] sw f Q) (p4 : (¬ 8 ≤ x5) → ((f 8 x5.toNatClampNeg) = (-1)) → vp_in ((x4 * 8) + x5) 64) (p5 : (¬ 8 ≤ x5) → ((f 8 x5.toNatClampNeg) = (-1)) → ((f 7 (((x4 * 8) + x5).toNatClampNeg)) ≤ 0) → XP G mX3_spread (d) 68 [.ref 3, .int x1, .int x2, .int x3, .int x4, .int (x5 + 1)] [] sw f Q) (p6 : (¬ 8 ≤ x5) → ((f 8 x5.toNatClampNeg) = (-1)) → (¬ (f 7 (((x4 * 8) + x5).toNatClampNeg)) ≤ 0) → (8 ≤ x2) → XP G mX3_spread (d) 68 [.ref 3, .int x1, .int x2, .int x3, .int x4, .int (x5 + 1)] [] sw f Q) (p7 : (¬ 8 ≤ x5) → ((f 8 x5.toNatClampNeg) = (-1)) → (¬ (f 7 (((x4 * 8) + x5).toNatClampNeg)) ≤ 0) → (¬ 8 ≤ x2) → vp_in x4 8) (p8 : (¬ 8 ≤ x5) → ((f 8 x5.toNatClampNeg) = (-1)) → (¬ (f 7 (((x4 * 8) + x5).toNatClampNeg)) ≤ 0) → (¬ 8 ≤ x2) → vp_in x5 8) (p9 : (¬ 8 ≤ x5) → ((f 8 x5.toNatClampNeg) = (-1)) → (¬ (f 7 (((x4 * 8) + x5).toNatClampNeg)) ≤ 0) → (¬ 8 ≤ x2) → vp_in x5 8) (p10 : (¬ 8 ≤ x5) → ((f 8 x5.toNatClampNeg) = (-1)) → (¬ (f 7 (((x4 * 8) + x5).toNatClampNeg)) ≤ 0) → (¬ 8 ≤ x2) → vp_in x2 8) (p11 : (¬ 8 ≤ x5) → ((f 8 x5.toNatClampNeg) = (-1)) → (¬ (f 7 (((x4 * 8) + x5).toNatClampNeg)) ≤ 0) → (¬ 8 ≤ x2) → XP G mX3_spread (d) 68 [.ref 3, .int x1, .int (x2 + 1), .int x3, .int x4, .int (x5 + 1)] [] sw (upd2 (upd2 (upd2 f 8 x5.toNatClampNeg ((f 8 x4.toNatClampNeg) + 1)) 9 x5.toNatClampNeg x4) 10 x2.toNatClampNeg x5) Q) : XP G mX3_spread (d) 68 [.ref 3, .int x1, .int x2, .int x3, .int x4, .int x5] [] sw f Q := by
  refine wp_iload (M := mX3_spread) (pc := 68) dX3_spread_68 rfl ?_
  refine wp_bipush (M := mX3_spread) (pc := 70) dX3_spread_70 k_bipush_8 ?_
  refine wp_icmp_ge (M := mX3_spread) (pc := 72) (t := 150) dX3_spread_72 (by decide) (fun c1 => ?_) (fun c1 => ?_)
  · refine wp_iinc (M := mX3_spread) (pc := 150) (v := x3 + 1) (ls' := [.ref 3, .int x1, .int x2, .int (x3 + 1), .int x4, .int x5]) dX3_spread_150 rfl (congrArg (fun z => _ + z) k_iconst_1) (by decide) rfl ?_
    refine wp_goto (M := mX3_spread) (pc := 153) (t := 46) dX3_spread_153 (by decide) ?_
    exact p1 c1
  · refine wp_aload_n (M := mX3_spread) (pc := 75) dX3_spread_75 rfl rfl ?_
    refine xs_getr (M := mX3_spread) (pc := 76) (r := 8) dX3_spread_76 fX3_24 sh3 rfl (gr3_4 sw) ?_
    refine wp_iload (M := mX3_spread) (pc := 79) dX3_spread_79 rfl ?_
    refine xs_iald (M := mX3_spread) (pc := 81) (j := x5.toNatClampNeg) dX3_spread_81 sh8 (p2 c1) rfl ?_
    refine wp_iconst (M := mX3_spread) (pc := 82) dX3_spread_82 k_iconst_m1 ?_
    refine wp_icmp_ne (M := mX3_spread) (pc := 83) (t := 144) dX3_spread_83 (by decide) (fun c2 => ?_) (fun c2 => ?_)
    · refine wp_iinc (M := mX3_spread) (pc := 144) (v := x5 + 1) (ls' := [.ref 3, .int x1, .int x2, .int x3, .int x4, .int (x5 + 1)]) dX3_spread_144 rfl (congrArg (fun z => _ + z) k_iconst_1) (by decide) rfl ?_
      refine wp_goto (M := mX3_spread) (pc := 147) (t := 68) dX3_spread_147 (by decide) ?_
      exact p3 c1 c2
    · refine wp_aload_n (M := mX3_spread) (pc := 86) dX3_spread_86 rfl rfl ?_
      refine xs_getr (M := mX3_spread) (pc := 87) (r := 7) dX3_spread_87 fX3_21 sh3 rfl (gr3_3 sw) ?_
      refine wp_iload (M := mX3_spread) (pc := 90) dX3_spread_90 rfl ?_
      refine wp_bipush (M := mX3_spread) (pc := 92) dX3_spread_92 k_bipush_8 ?_
      refine wp_imul (M := mX3_spread) (pc := 94) dX3_spread_94 ?_
      refine wp_iload (M := mX3_spread) (pc := 95) dX3_spread_95 rfl ?_
      refine wp_iadd (M := mX3_spread) (pc := 97) dX3_spread_97 ?_
      refine xs_iald (M := mX3_spread) (pc := 98) (j := ((x4 * 8) + x5).toNatClampNeg) dX3_spread_98 sh7 (p4 c1 c2) rfl ?_
      refine wp_if_le (M := mX3_spread) (pc := 99) (t := 144) dX3_spread_99 (by decide) (fun c3 => ?_) (fun c3 => ?_)
      · refine wp_iinc (M := mX3_spread) (pc := 144) (v := x5 + 1) (ls' := [.ref 3, .int x1, .int x2, .int x3, .int x4, .int (x5 + 1)]) dX3_spread_144 rfl (congrArg (fun z => _ + z) k_iconst_1) (by decide) rfl ?_
        refine wp_goto (M := mX3_spread) (pc := 147) (t := 68) dX3_spread_147 (by decide) ?_
        exact p5 c1 c2 c3
      · refine wp_iload_n (M := mX3_spread) (pc := 102) dX3_spread_102 rfl rfl ?_
        refine wp_bipush (M := mX3_spread) (pc := 103) dX3_spread_103 k_bipush_8 ?_
        refine wp_icmp_ge (M := mX3_spread) (pc := 105) (t := 144) dX3_spread_105 (by decide) (fun c4 => ?_) (fun c4 => ?_)
        · refine wp_iinc (M := mX3_spread) (pc := 144) (v := x5 + 1) (ls' := [.ref 3, .int x1, .int x2, .int x3, .int x4, .int (x5 + 1)]) dX3_spread_144 rfl (congrArg (fun z => _ + z) k_iconst_1) (by decide) rfl ?_
          refine wp_goto (M := mX3_spread) (pc := 147) (t := 68) dX3_spread_147 (by decide) ?_
          exact p6 c1 c2 c3 c4
        · refine wp_aload_n (M := mX3_spread) (pc := 108) dX3_spread_108 rfl rfl ?_
          refine xs_getr (M := mX3_spread) (pc := 109) (r := 8) dX3_spread_109 fX3_24 sh3 rfl (gr3_4 sw) ?_
          refine wp_iload (M := mX3_spread) (pc := 112) dX3_spread_112 rfl ?_
          refine wp_aload_n (M := mX3_spread) (pc := 114) dX3_spread_114 rfl rfl ?_
          refine xs_getr (M := mX3_spread) (pc := 115) (r := 8) dX3_spread_115 fX3_24 sh3 rfl (gr3_4 sw) ?_
          refine wp_iload (M := mX3_spread) (pc := 118) dX3_spread_118 rfl ?_
          refine xs_iald (M := mX3_spread) (pc := 120) (j := x4.toNatClampNeg) dX3_spread_120 sh8 (p7 c1 c2 c3 c4) rfl ?_
          refine wp_iconst (M := mX3_spread) (pc := 121) dX3_spread_121 k_iconst_1 ?_
          refine wp_iadd (M := mX3_spread) (pc := 122) dX3_spread_122 ?_
          refine xs_iast (M := mX3_spread) (pc := 123) (j := x5.toNatClampNeg) dX3_spread_123 sh8 (p8 c1 c2 c3 c4) rfl ?_
          refine wp_aload_n (M := mX3_spread) (pc := 124) dX3_spread_124 rfl rfl ?_
          refine xs_getr (M := mX3_spread) (pc := 125) (r := 9) dX3_spread_125 fX3_27 sh3 rfl (gr3_5 sw) ?_
          refine wp_iload (M := mX3_spread) (pc := 128) dX3_spread_128 rfl ?_
          refine wp_iload (M := mX3_spread) (pc := 130) dX3_spread_130 rfl ?_
          refine xs_iast (M := mX3_spread) (pc := 132) (j := x5.toNatClampNeg) dX3_spread_132 sh9 (p9 c1 c2 c3 c4) rfl ?_
          refine wp_aload_n (M := mX3_spread) (pc := 133) dX3_spread_133 rfl rfl ?_
          refine xs_getr (M := mX3_spread) (pc := 134) (r := 10) dX3_spread_134 fX3_30 sh3 rfl (gr3_6 sw) ?_
          refine wp_iload_n (M := mX3_spread) (pc := 137) dX3_spread_137 rfl rfl ?_
          refine wp_iload (M := mX3_spread) (pc := 138) dX3_spread_138 rfl ?_
          refine xs_iast (M := mX3_spread) (pc := 140) (j := x2.toNatClampNeg) dX3_spread_140 sh10 (p10 c1 c2 c3 c4) rfl ?_
          refine wp_iinc (M := mX3_spread) (pc := 141) (v := x2 + 1) (ls' := [.ref 3, .int x1, .int (x2 + 1), .int x3, .int x4, .int x5]) dX3_spread_141 rfl (congrArg (fun z => _ + z) k_iconst_1) (by decide) rfl ?_
          refine wp_iinc (M := mX3_spread) (pc := 144) (v := x5 + 1) (ls' := [.ref 3, .int x1, .int (x2 + 1), .int x3, .int x4, .int (x5 + 1)]) dX3_spread_144 rfl (congrArg (fun z => _ + z) k_iconst_1) (by decide) rfl ?_
          refine wp_goto (M := mX3_spread) (pc := 147) (t := 68) dX3_spread_147 (by decide) ?_
          exact p11 c1 c2 c3 c4
theorem bX3_nearer_0 {G : GC} {d : Nat} {sw : Bool} {f : FF} {Q : QQ} {x1 : Int32} (p1 : XP G mX3_nearer (d) 2 [.ref 3, .int x1, .int 0] [] sw f Q) : XP G mX3_nearer (d) 0 [.ref 3, .int x1, .null] [] sw f Q := by
  refine wp_iconst (M := mX3_nearer) (pc := 0) dX3_nearer_0 k_iconst_0 ?_
  refine wp_istore_n (M := mX3_nearer) (pc := 1) (ls' := [.ref 3, .int x1, .int 0]) dX3_nearer_1 rfl (by decide) rfl ?_
  exact p1
theorem bX3_nearer_2 {G : GC} {d : Nat} {sw : Bool} {f : FF} {Q : QQ} {x1 : Int32} {x2 : Int32} (p1 : (8 ≤ x2) → Q (some (.int x1)) sw f) (p2 : (¬ 8 ≤ x2) → vp_in ((x1 * 8) + x2) 64) (p3 : (¬ 8 ≤ x2) → ((f 7 (((x1 * 8) + x2).toNatClampNeg)) ≤ 0) → XP G mX3_nearer (d) 2 [.ref 3, .int x1, .int (x2 + 1)] [] sw f Q) (p4 : (¬ 8 ≤ x2) → (¬ (f 7 (((x1 * 8) + x2).toNatClampNeg)) ≤ 0) → vp_in x2 8) (p5 : (¬ 8 ≤ x2) → (¬ (f 7 (((x1 * 8) + x2).toNatClampNeg)) ≤ 0) → vp_in x1 8) (p6 : (¬ 8 ≤ x2) → (¬ (f 7 (((x1 * 8) + x2).toNatClampNeg)) ≤ 0) → (¬ (f 8 x2.toNatClampNeg) = ((f 8 x1.toNatClampNeg) - 1)) → XP G mX3_nearer (d) 2 [.ref 3, .int x1, .int (x2 + 1)] [] sw f Q) (p7 : (¬ 8 ≤ x2) → (¬ (f 7 (((x1 * 8) + x2).toNatClampNeg)) ≤ 0) → ((f 8 x2.toNatClampNeg) = ((f 8 x1.toNatClampNeg) - 1)) → Q (some (.int x2)) sw f) : XP G mX3_nearer (d) 2 [.ref 3, .int x1, .int x2] [] sw f Q := by
  refine wp_iload_n (M := mX3_nearer) (pc := 2) dX3_nearer_2 rfl rfl ?_
  refine wp_bipush (M := mX3_nearer) (pc := 3) dX3_nearer_3 k_bipush_8 ?_
  refine wp_icmp_ge (M := mX3_nearer) (pc := 5) (t := 47) dX3_nearer_5 (by decide) (fun c1 => ?_) (fun c1 => ?_)
  · refine wp_iload_n (M := mX3_nearer) (pc := 47) dX3_nearer_47 rfl rfl ?_
    exact xs_iret (M := mX3_nearer) (pc := 48) dX3_nearer_48 rfl (p1 c1)
  · refine wp_aload_n (M := mX3_nearer) (pc := 8) dX3_nearer_8 rfl rfl ?_
    refine xs_getr (M := mX3_nearer) (pc := 9) (r := 7) dX3_nearer_9 fX3_21 sh3 rfl (gr3_3 sw) ?_
    refine wp_iload_n (M := mX3_nearer) (pc := 12) dX3_nearer_12 rfl rfl ?_
    refine wp_bipush (M := mX3_nearer) (pc := 13) dX3_nearer_13 k_bipush_8 ?_
    refine wp_imul (M := mX3_nearer) (pc := 15) dX3_nearer_15 ?_
    refine wp_iload_n (M := mX3_nearer) (pc := 16) dX3_nearer_16 rfl rfl ?_
    refine wp_iadd (M := mX3_nearer) (pc := 17) dX3_nearer_17 ?_
    refine xs_iald (M := mX3_nearer) (pc := 18) (j := ((x1 * 8) + x2).toNatClampNeg) dX3_nearer_18 sh7 (p2 c1) rfl ?_
    refine wp_if_le (M := mX3_nearer) (pc := 19) (t := 41) dX3_nearer_19 (by decide) (fun c2 => ?_) (fun c2 => ?_)
    · refine wp_iinc (M := mX3_nearer) (pc := 41) (v := x2 + 1) (ls' := [.ref 3, .int x1, .int (x2 + 1)]) dX3_nearer_41 rfl (congrArg (fun z => _ + z) k_iconst_1) (by decide) rfl ?_
      refine wp_goto (M := mX3_nearer) (pc := 44) (t := 2) dX3_nearer_44 (by decide) ?_
      exact p3 c1 c2
    · refine wp_aload_n (M := mX3_nearer) (pc := 22) dX3_nearer_22 rfl rfl ?_
      refine xs_getr (M := mX3_nearer) (pc := 23) (r := 8) dX3_nearer_23 fX3_24 sh3 rfl (gr3_4 sw) ?_
      refine wp_iload_n (M := mX3_nearer) (pc := 26) dX3_nearer_26 rfl rfl ?_
      refine xs_iald (M := mX3_nearer) (pc := 27) (j := x2.toNatClampNeg) dX3_nearer_27 sh8 (p4 c1 c2) rfl ?_
      refine wp_aload_n (M := mX3_nearer) (pc := 28) dX3_nearer_28 rfl rfl ?_
      refine xs_getr (M := mX3_nearer) (pc := 29) (r := 8) dX3_nearer_29 fX3_24 sh3 rfl (gr3_4 sw) ?_
      refine wp_iload_n (M := mX3_nearer) (pc := 32) dX3_nearer_32 rfl rfl ?_
      refine xs_iald (M := mX3_nearer) (pc := 33) (j := x1.toNatClampNeg) dX3_nearer_33 sh8 (p5 c1 c2) rfl ?_
      refine wp_iconst (M := mX3_nearer) (pc := 34) dX3_nearer_34 k_iconst_1 ?_
      refine wp_isub (M := mX3_nearer) (pc := 35) dX3_nearer_35 ?_
      refine wp_icmp_ne (M := mX3_nearer) (pc := 36) (t := 41) dX3_nearer_36 (by decide) (fun c3 => ?_) (fun c3 => ?_)
      · refine wp_iinc (M := mX3_nearer) (pc := 41) (v := x2 + 1) (ls' := [.ref 3, .int x1, .int (x2 + 1)]) dX3_nearer_41 rfl (congrArg (fun z => _ + z) k_iconst_1) (by decide) rfl ?_
        refine wp_goto (M := mX3_nearer) (pc := 44) (t := 2) dX3_nearer_44 (by decide) ?_
        exact p6 c1 c2 c3
      · refine wp_iload_n (M := mX3_nearer) (pc := 39) dX3_nearer_39 rfl rfl ?_
        exact xs_iret (M := mX3_nearer) (pc := 40) dX3_nearer_40 rfl (p7 c1 c2 c3)
theorem bX9_lowestFreePlace_0 {G : GC} {d : Nat} {sw : Bool} {f : FF} {Q : QQ} {w : Nat} (hw : isW w) (p1 : XP G mX9_lowestFreePlace (d) 2 [.ref w, .int 0] [] sw f Q) : XP G mX9_lowestFreePlace (d) 0 [.ref w, .null] [] sw f Q := by
  refine wp_iconst (M := mX9_lowestFreePlace) (pc := 0) dX9_lowestFreePlace_0 k_iconst_0 ?_
  refine wp_istore_n (M := mX9_lowestFreePlace) (pc := 1) (ls' := [.ref w, .int 0]) dX9_lowestFreePlace_1 rfl (by decide) rfl ?_
  exact p1
theorem bX9_lowestFreePlace_2 {G : GC} {d : Nat} {sw : Bool} {f : FF} {Q : QQ} {w : Nat} (hw : isW w) {x1 : Int32} (p1 : (20 ≤ x1) → Q (some (.int (-1))) sw f) (p2 : (¬ 20 ≤ x1) → vp_in x1 20) (p3 : (¬ 20 ≤ x1) → (¬ (f (w + 9) x1.toNatClampNeg) = 0) → XP G mX9_lowestFreePlace (d) 2 [.ref w, .int (x1 + 1)] [] sw f Q) (p4 : (¬ 20 ≤ x1) → ((f (w + 9) x1.toNatClampNeg) = 0) → Q (some (.int x1)) sw f) : XP G mX9_lowestFreePlace (d) 2 [.ref w, .int x1] [] sw f Q := by
  refine wp_iload_n (M := mX9_lowestFreePlace) (pc := 2) dX9_lowestFreePlace_2 rfl rfl ?_
  refine wp_bipush (M := mX9_lowestFreePlace) (pc := 3) dX9_lowestFreePlace_3 k_bipush_20 ?_
  refine wp_icmp_ge (M := mX9_lowestFreePlace) (pc := 5) (t := 25) dX9_lowestFreePlace_5 (by decide) (fun c1 => ?_) (fun c1 => ?_)
  · refine wp_iconst (M := mX9_lowestFreePlace) (pc := 25) dX9_lowestFreePlace_25 k_iconst_m1 ?_
    exact xs_iret (M := mX9_lowestFreePlace) (pc := 26) dX9_lowestFreePlace_26 rfl (p1 c1)
  · refine wp_aload_n (M := mX9_lowestFreePlace) (pc := 8) dX9_lowestFreePlace_8 rfl rfl ?_
    refine xs_getr (M := mX9_lowestFreePlace) (pc := 9) (r := w + 9) dX9_lowestFreePlace_9 fX9_40 (shW hw) rfl (grW_16 hw) ?_
    refine wp_iload_n (M := mX9_lowestFreePlace) (pc := 12) dX9_lowestFreePlace_12 rfl rfl ?_
    refine xs_iald (M := mX9_lowestFreePlace) (pc := 13) (j := x1.toNatClampNeg) dX9_lowestFreePlace_13 (shW_9 hw) (p2 c1) rfl ?_
    refine wp_if_ne (M := mX9_lowestFreePlace) (pc := 14) (t := 19) dX9_lowestFreePlace_14 (by decide) (fun c2 => ?_) (fun c2 => ?_)
    · refine wp_iinc (M := mX9_lowestFreePlace) (pc := 19) (v := x1 + 1) (ls' := [.ref w, .int (x1 + 1)]) dX9_lowestFreePlace_19 rfl (congrArg (fun z => _ + z) k_iconst_1) (by decide) rfl ?_
      refine wp_goto (M := mX9_lowestFreePlace) (pc := 22) (t := 2) dX9_lowestFreePlace_22 (by decide) ?_
      exact p3 c1 c2
    · refine wp_iload_n (M := mX9_lowestFreePlace) (pc := 17) dX9_lowestFreePlace_17 rfl rfl ?_
      exact xs_iret (M := mX9_lowestFreePlace) (pc := 18) dX9_lowestFreePlace_18 rfl (p4 c1 c2)
theorem bX5_lookAtCall_0 {G : GC} {d : Nat} {sw : Bool} {f : FF} {Q : QQ} {w : Nat} (hw : isW w) {x2 : Int32} {x3 : Int32} (p1 : Q none sw (upd2 (upd2 (upd2 f 34 7 x2) 34 8 ((((upd2 f 34 7 x2) w 1) >>> (x2 &&& 31)) &&& 1)) 34 9 x3)) : XP G mX5_lookAtCall (d) 0 [.ref 33, .ref w, .int x2, .int x3] [] sw f Q := by
  refine wp_aload_n (M := mX5_lookAtCall) (pc := 0) dX5_lookAtCall_0 rfl rfl ?_
  refine xs_getr (M := mX5_lookAtCall) (pc := 1) (r := 34) dX5_lookAtCall_1 fX5_11 sh33 rfl (gr33_0 sw) ?_
  refine wp_bipush (M := mX5_lookAtCall) (pc := 4) dX5_lookAtCall_4 k_bipush_7 ?_
  refine wp_iload_n (M := mX5_lookAtCall) (pc := 6) dX5_lookAtCall_6 rfl rfl ?_
  refine xs_iast (M := mX5_lookAtCall) (pc := 7) (j := 7) dX5_lookAtCall_7 sh34 (vin (by decide)) rfl ?_
  refine wp_aload_n (M := mX5_lookAtCall) (pc := 8) dX5_lookAtCall_8 rfl rfl ?_
  refine xs_getr (M := mX5_lookAtCall) (pc := 9) (r := 34) dX5_lookAtCall_9 fX5_11 sh33 rfl (gr33_0 sw) ?_
  refine wp_bipush (M := mX5_lookAtCall) (pc := 12) dX5_lookAtCall_12 k_bipush_8 ?_
  refine wp_aload_n (M := mX5_lookAtCall) (pc := 14) dX5_lookAtCall_14 rfl rfl ?_
  refine xs_geti (M := mX5_lookAtCall) (pc := 15) dX5_lookAtCall_15 fX5_23 (shW hw) rfl ?_
  refine wp_iload_n (M := mX5_lookAtCall) (pc := 18) dX5_lookAtCall_18 rfl rfl ?_
  refine wp_ishr (M := mX5_lookAtCall) (pc := 19) dX5_lookAtCall_19 ?_
  refine wp_iconst (M := mX5_lookAtCall) (pc := 20) dX5_lookAtCall_20 k_iconst_1 ?_
  refine wp_iand (M := mX5_lookAtCall) (pc := 21) dX5_lookAtCall_21 ?_
  refine xs_iast (M := mX5_lookAtCall) (pc := 22) (j := 8) dX5_lookAtCall_22 sh34 (vin (by decide)) rfl ?_
  refine wp_aload_n (M := mX5_lookAtCall) (pc := 23) dX5_lookAtCall_23 rfl rfl ?_
  refine xs_getr (M := mX5_lookAtCall) (pc := 24) (r := 34) dX5_lookAtCall_24 fX5_11 sh33 rfl (gr33_0 sw) ?_
  refine wp_bipush (M := mX5_lookAtCall) (pc := 27) dX5_lookAtCall_27 k_bipush_9 ?_
  refine wp_iload_n (M := mX5_lookAtCall) (pc := 29) dX5_lookAtCall_29 rfl rfl ?_
  refine xs_iast (M := mX5_lookAtCall) (pc := 30) (j := 9) dX5_lookAtCall_30 sh34 (vin (by decide)) rfl ?_
  exact xs_ret (M := mX5_lookAtCall) (pc := 31) dX5_lookAtCall_31 rfl (p1)
theorem bX9_begin_0 {G : GC} {d : Nat} {sw : Bool} {f : FF} {Q : QQ} {w : Nat} (hw : isW w) {x1 : Int32} {x2 : Int32} {x3 : Int32} {x4 : Int32} (p1 : vp_in x1 20) (p2 : vp_in x1 20) (p3 : vp_in x1 20) (p4 : vp_in x2 16) (p5 : vp_in x3 16) (p6 : vp_in x2 16) (p7 : vp_in x2 16) (p8 : vp_in x3 16) (p9 : vp_in x3 16) (p10 : Q none sw (upd2 (upd2 (upd2 (upd2 (upd2 (upd2 (upd2 (upd2 f (w + 6) x1.toNatClampNeg x2) (w + 7) x1.toNatClampNeg x3) (w + 9) x1.toNatClampNeg x4) (w + 5) x2.toNatClampNeg x1) (w + 5) x3.toNatClampNeg x1) w 4 (((upd2 (upd2 (upd2 (upd2 (upd2 f (w + 6) x1.toNatClampNeg x2) (w + 7) x1.toNatClampNeg x3) (w + 9) x1.toNatClampNeg x4) (w + 5) x2.toNatClampNeg x1) (w + 5) x3.toNatClampNeg x1) w 4) ||| (((1 : Int32) <<< (x2 &&& 31)) ||| ((1 : Int32) <<< (x3 &&& 31))))) (w + 3) x2.toNatClampNeg (if 9999 < (((upd2 (upd2 (upd2 (upd2 (upd2 (upd2 f (w + 6) x1.toNatClampNeg x2) (w + 7) x1.toNatClampNeg x3) (w + 9) x1.toNatClampNeg x4) (w + 5) x2.toNatClampNeg x1) (w + 5) x3.toNatClampNeg x1) w 4 (((upd2 (upd2 (upd2 (upd2 (upd2 f (w + 6) x1.toNatClampNeg x2) (w + 7) x1.toNatClampNeg x3) (w + 9) x1.toNatClampNeg x4) (w + 5) x2.toNatClampNeg x1) (w + 5) x3.toNatClampNeg x1) w 4) ||| (((1 : Int32) <<< (x2 &&& 31)) ||| ((1 : Int32) <<< (x3 &&& 31))))) (w + 3) x2.toNatClampNeg) + 1) then 9999 else (((upd2 (upd2 (upd2 (upd2 (upd2 (upd2 f (w + 6) x1.toNatClampNeg x2) (w + 7) x1.toNatClampNeg x3) (w + 9) x1.toNatClampNeg x4) (w + 5) x2.toNatClampNeg x1) (w + 5) x3.toNatClampNeg x1) w 4 (((upd2 (upd2 (upd2 (upd2 (upd2 f (w + 6) x1.toNatClampNeg x2) (w + 7) x1.toNatClampNeg x3) (w + 9) x1.toNatClampNeg x4) (w + 5) x2.toNatClampNeg x1) (w + 5) x3.toNatClampNeg x1) w 4) ||| (((1 : Int32) <<< (x2 &&& 31)) ||| ((1 : Int32) <<< (x3 &&& 31))))) (w + 3) x2.toNatClampNeg) + 1))) (w + 4) x3.toNatClampNeg (if 9999 < (((upd2 (upd2 (upd2 (upd2 (upd2 (upd2 (upd2 f (w + 6) x1.toNatClampNeg x2) (w + 7) x1.toNatClampNeg x3) (w + 9) x1.toNatClampNeg x4) (w + 5) x2.toNatClampNeg x1) (w + 5) x3.toNatClampNeg x1) w 4 (((upd2 (upd2 (upd2 (upd2 (upd2 f (w + 6) x1.toNatClampNeg x2) (w + 7) x1.toNatClampNeg x3) (w + 9) x1.toNatClampNeg x4) (w + 5) x2.toNatClampNeg x1) (w + 5) x3.toNatClampNeg x1) w 4) ||| (((1 : Int32) <<< (x2 &&& 31)) ||| ((1 : Int32) <<< (x3 &&& 31))))) (w + 3) x2.toNatClampNeg (if 9999 < (((upd2 (upd2 (upd2 (upd2 (upd2 (upd2 f (w + 6) x1.toNatClampNeg x2) (w + 7) x1.toNatClampNeg x3) (w + 9) x1.toNatClampNeg x4) (w + 5) x2.toNatClampNeg x1) (w + 5) x3.toNatClampNeg x1) w 4 (((upd2 (upd2 (upd2 (upd2 (upd2 f (w + 6) x1.toNatClampNeg x2) (w + 7) x1.toNatClampNeg x3) (w + 9) x1.toNatClampNeg x4) (w + 5) x2.toNatClampNeg x1) (w + 5) x3.toNatClampNeg x1) w 4) ||| (((1 : Int32) <<< (x2 &&& 31)) ||| ((1 : Int32) <<< (x3 &&& 31))))) (w + 3) x2.toNatClampNeg) + 1) then 9999 else (((upd2 (upd2 (upd2 (upd2 (upd2 (upd2 f (w + 6) x1.toNatClampNeg x2) (w + 7) x1.toNatClampNeg x3) (w + 9) x1.toNatClampNeg x4) (w + 5) x2.toNatClampNeg x1) (w + 5) x3.toNatClampNeg x1) w 4 (((upd2 (upd2 (upd2 (upd2 (upd2 f (w + 6) x1.toNatClampNeg x2) (w + 7) x1.toNatClampNeg x3) (w + 9) x1.toNatClampNeg x4) (w + 5) x2.toNatClampNeg x1) (w + 5) x3.toNatClampNeg x1) w 4) ||| (((1 : Int32) <<< (x2 &&& 31)) ||| ((1 : Int32) <<< (x3 &&& 31))))) (w + 3) x2.toNatClampNeg) + 1))) (w + 4) x3.toNatClampNeg) + 1) then 9999 else (((upd2 (upd2 (upd2 (upd2 (upd2 (upd2 (upd2 f (w + 6) x1.toNatClampNeg x2) (w + 7) x1.toNatClampNeg x3) (w + 9) x1.toNatClampNeg x4) (w + 5) x2.toNatClampNeg x1) (w + 5) x3.toNatClampNeg x1) w 4 (((upd2 (upd2 (upd2 (upd2 (upd2 f (w + 6) x1.toNatClampNeg x2) (w + 7) x1.toNatClampNeg x3) (w + 9) x1.toNatClampNeg x4) (w + 5) x2.toNatClampNeg x1) (w + 5) x3.toNatClampNeg x1) w 4) ||| (((1 : Int32) <<< (x2 &&& 31)) ||| ((1 : Int32) <<< (x3 &&& 31))))) (w + 3) x2.toNatClampNeg (if 9999 < (((upd2 (upd2 (upd2 (upd2 (upd2 (upd2 f (w + 6) x1.toNatClampNeg x2) (w + 7) x1.toNatClampNeg x3) (w + 9) x1.toNatClampNeg x4) (w + 5) x2.toNatClampNeg x1) (w + 5) x3.toNatClampNeg x1) w 4 (((upd2 (upd2 (upd2 (upd2 (upd2 f (w + 6) x1.toNatClampNeg x2) (w + 7) x1.toNatClampNeg x3) (w + 9) x1.toNatClampNeg x4) (w + 5) x2.toNatClampNeg x1) (w + 5) x3.toNatClampNeg x1) w 4) ||| (((1 : Int32) <<< (x2 &&& 31)) ||| ((1 : Int32) <<< (x3 &&& 31))))) (w + 3) x2.toNatClampNeg) + 1) then 9999 else (((upd2 (upd2 (upd2 (upd2 (upd2 (upd2 f (w + 6) x1.toNatClampNeg x2) (w + 7) x1.toNatClampNeg x3) (w + 9) x1.toNatClampNeg x4) (w + 5) x2.toNatClampNeg x1) (w + 5) x3.toNatClampNeg x1) w 4 (((upd2 (upd2 (upd2 (upd2 (upd2 f (w + 6) x1.toNatClampNeg x2) (w + 7) x1.toNatClampNeg x3) (w + 9) x1.toNatClampNeg x4) (w + 5) x2.toNatClampNeg x1) (w + 5) x3.toNatClampNeg x1) w 4) ||| (((1 : Int32) <<< (x2 &&& 31)) ||| ((1 : Int32) <<< (x3 &&& 31))))) (w + 3) x2.toNatClampNeg) + 1))) (w + 4) x3.toNatClampNeg) + 1)))) : XP G mX9_begin (d) 0 [.ref w, .int x1, .int x2, .int x3, .int x4] [] sw f Q := by
  refine wp_aload_n (M := mX9_begin) (pc := 0) dX9_begin_0 rfl rfl ?_
  refine xs_getr (M := mX9_begin) (pc := 1) (r := w + 6) dX9_begin_1 fX9_31 (shW hw) rfl (grW_13 hw) ?_
  refine wp_iload_n (M := mX9_begin) (pc := 4) dX9_begin_4 rfl rfl ?_
  refine wp_iload_n (M := mX9_begin) (pc := 5) dX9_begin_5 rfl rfl ?_
  refine xs_iast (M := mX9_begin) (pc := 6) (j := x1.toNatClampNeg) dX9_begin_6 (shW_6 hw) (p1) rfl ?_
  refine wp_aload_n (M := mX9_begin) (pc := 7) dX9_begin_7 rfl rfl ?_
  refine xs_getr (M := mX9_begin) (pc := 8) (r := w + 7) dX9_begin_8 fX9_34 (shW hw) rfl (grW_14 hw) ?_
  refine wp_iload_n (M := mX9_begin) (pc := 11) dX9_begin_11 rfl rfl ?_
  refine wp_iload_n (M := mX9_begin) (pc := 12) dX9_begin_12 rfl rfl ?_
  refine xs_iast (M := mX9_begin) (pc := 13) (j := x1.toNatClampNeg) dX9_begin_13 (shW_7 hw) (p2) rfl ?_
  refine wp_aload_n (M := mX9_begin) (pc := 14) dX9_begin_14 rfl rfl ?_
  refine xs_getr (M := mX9_begin) (pc := 15) (r := w + 9) dX9_begin_15 fX9_40 (shW hw) rfl (grW_16 hw) ?_
  refine wp_iload_n (M := mX9_begin) (pc := 18) dX9_begin_18 rfl rfl ?_
  refine wp_iload (M := mX9_begin) (pc := 19) dX9_begin_19 rfl ?_
  refine xs_iast (M := mX9_begin) (pc := 21) (j := x1.toNatClampNeg) dX9_begin_21 (shW_9 hw) (p3) rfl ?_
  refine wp_aload_n (M := mX9_begin) (pc := 22) dX9_begin_22 rfl rfl ?_
  refine xs_getr (M := mX9_begin) (pc := 23) (r := w + 5) dX9_begin_23 fX9_28 (shW hw) rfl (grW_12 hw) ?_
  refine wp_iload_n (M := mX9_begin) (pc := 26) dX9_begin_26 rfl rfl ?_
  refine wp_iload_n (M := mX9_begin) (pc := 27) dX9_begin_27 rfl rfl ?_
  refine xs_iast (M := mX9_begin) (pc := 28) (j := x2.toNatClampNeg) dX9_begin_28 (shW_5 hw) (p4) rfl ?_
  refine wp_aload_n (M := mX9_begin) (pc := 29) dX9_begin_29 rfl rfl ?_
  refine xs_getr (M := mX9_begin) (pc := 30) (r := w + 5) dX9_begin_30 fX9_28 (shW hw) rfl (grW_12 hw) ?_
  refine wp_iload_n (M := mX9_begin) (pc := 33) dX9_begin_33 rfl rfl ?_
  refine wp_iload_n (M := mX9_begin) (pc := 34) dX9_begin_34 rfl rfl ?_
  refine xs_iast (M := mX9_begin) (pc := 35) (j := x3.toNatClampNeg) dX9_begin_35 (shW_5 hw) (p5) rfl ?_
  refine wp_aload_n (M := mX9_begin) (pc := 36) dX9_begin_36 rfl rfl ?_
  refine wp_dup (M := mX9_begin) (pc := 37) dX9_begin_37 ?_
  refine xs_geti (M := mX9_begin) (pc := 38) dX9_begin_38 fX9_64 (shW hw) rfl ?_
  refine wp_iconst (M := mX9_begin) (pc := 41) dX9_begin_41 k_iconst_1 ?_
  refine wp_iload_n (M := mX9_begin) (pc := 42) dX9_begin_42 rfl rfl ?_
  refine wp_ishl (M := mX9_begin) (pc := 43) dX9_begin_43 ?_
  refine wp_iconst (M := mX9_begin) (pc := 44) dX9_begin_44 k_iconst_1 ?_
  refine wp_iload_n (M := mX9_begin) (pc := 45) dX9_begin_45 rfl rfl ?_
  refine wp_ishl (M := mX9_begin) (pc := 46) dX9_begin_46 ?_
  refine wp_ior (M := mX9_begin) (pc := 47) dX9_begin_47 ?_
  refine wp_ior (M := mX9_begin) (pc := 48) dX9_begin_48 ?_
  refine xs_puti (M := mX9_begin) (pc := 49) dX9_begin_49 pX9_64 (shW hw) rfl ?_
  refine wp_aload_n (M := mX9_begin) (pc := 52) dX9_begin_52 rfl rfl ?_
  refine xs_getr (M := mX9_begin) (pc := 53) (r := w + 3) dX9_begin_53 fX9_22 (shW hw) rfl (grW_10 hw) ?_
  refine wp_iload_n (M := mX9_begin) (pc := 56) dX9_begin_56 rfl rfl ?_
  refine wp_aload_n (M := mX9_begin) (pc := 57) dX9_begin_57 rfl rfl ?_
  refine xs_getr (M := mX9_begin) (pc := 58) (r := w + 3) dX9_begin_58 fX9_22 (shW hw) rfl (grW_10 hw) ?_
  refine wp_iload_n (M := mX9_begin) (pc := 61) dX9_begin_61 rfl rfl ?_
  refine xs_iald (M := mX9_begin) (pc := 62) (j := x2.toNatClampNeg) dX9_begin_62 (shW_3 hw) (p6) rfl ?_
  refine wp_iconst (M := mX9_begin) (pc := 63) dX9_begin_63 k_iconst_1 ?_
  refine wp_iadd (M := mX9_begin) (pc := 64) dX9_begin_64 ?_
  refine wp_sipush (M := mX9_begin) (pc := 65) dX9_begin_65 k_sipush_9999 ?_
  refine xs_mmin (M := mX9_begin) (pc := 68) dX9_begin_68 lX9_103 (Nat.le_of_ble_eq_true rfl) ?_
  refine xs_iast (M := mX9_begin) (pc := 71) (j := x2.toNatClampNeg) dX9_begin_71 (shW_3 hw) (p7) rfl ?_
  refine wp_aload_n (M := mX9_begin) (pc := 72) dX9_begin_72 rfl rfl ?_
  refine xs_getr (M := mX9_begin) (pc := 73) (r := w + 4) dX9_begin_73 fX9_25 (shW hw) rfl (grW_11 hw) ?_
  refine wp_iload_n (M := mX9_begin) (pc := 76) dX9_begin_76 rfl rfl ?_
  refine wp_aload_n (M := mX9_begin) (pc := 77) dX9_begin_77 rfl rfl ?_
  refine xs_getr (M := mX9_begin) (pc := 78) (r := w + 4) dX9_begin_78 fX9_25 (shW hw) rfl (grW_11 hw) ?_
  refine wp_iload_n (M := mX9_begin) (pc := 81) dX9_begin_81 rfl rfl ?_
  refine xs_iald (M := mX9_begin) (pc := 82) (j := x3.toNatClampNeg) dX9_begin_82 (shW_4 hw) (p8) rfl ?_
  refine wp_iconst (M := mX9_begin) (pc := 83) dX9_begin_83 k_iconst_1 ?_
  refine wp_iadd (M := mX9_begin) (pc := 84) dX9_begin_84 ?_
  refine wp_sipush (M := mX9_begin) (pc := 85) dX9_begin_85 k_sipush_9999 ?_
  refine xs_mmin (M := mX9_begin) (pc := 88) dX9_begin_88 lX9_103 (Nat.le_of_ble_eq_true rfl) ?_
  refine xs_iast (M := mX9_begin) (pc := 91) (j := x3.toNatClampNeg) dX9_begin_91 (shW_4 hw) (p9) rfl ?_
  exact xs_ret (M := mX9_begin) (pc := 92) dX9_begin_92 rfl (p10)
theorem bX9_seize_0 {G : GC} {d : Nat} {sw : Bool} {f : FF} {Q : QQ} {w : Nat} (hw : isW w) {a2 : Nat} (ha2 : SH[a2]? = some (0, 8)) {x1 : Int32} {x3 : Int32} (p1 : vp_in x1 20) (p2 : ¬ (x1 * 8) < 0) (p3 : (x1 * 8).toNatClampNeg + 8 ≤ 160) (p4 : XP G mX9_addUsed (d) 0 [.ref w, .int x1, .int 1, .null, .null, .null] [] sw (cpy2 (upd2 f (w + 10) x1.toNatClampNeg x3) a2 (w + 11) 0 ((x1 * 8).toNatClampNeg) 8) (fun v sw' f' => XP G mX9_seize (d + 1) 28 [.ref w, .int x1, .ref a2, .int x3] (retst v []) sw' f' Q)) : XP G mX9_seize (d + 1) 0 [.ref w, .int x1, .ref a2, .int x3] [] sw f Q := by
  refine wp_aload_n (M := mX9_seize) (pc := 0) dX9_seize_0 rfl rfl ?_
  refine xs_getr (M := mX9_seize) (pc := 1) (r := w + 10) dX9_seize_1 fX9_43 (shW hw) rfl (grW_17 hw) ?_
  refine wp_iload_n (M := mX9_seize) (pc := 4) dX9_seize_4 rfl rfl ?_
  refine wp_iload_n (M := mX9_seize) (pc := 5) dX9_seize_5 rfl rfl ?_
  refine xs_iast (M := mX9_seize) (pc := 6) (j := x1.toNatClampNeg) dX9_seize_6 (shW_10 hw) (p1) rfl ?_
  refine wp_aload_n (M := mX9_seize) (pc := 7) dX9_seize_7 rfl rfl ?_
  refine wp_iconst (M := mX9_seize) (pc := 8) dX9_seize_8 k_iconst_0 ?_
  refine wp_aload_n (M := mX9_seize) (pc := 9) dX9_seize_9 rfl rfl ?_
  refine xs_getr (M := mX9_seize) (pc := 10) (r := w + 11) dX9_seize_10 fX9_46 (shW hw) rfl (grW_18 hw) ?_
  refine wp_iload_n (M := mX9_seize) (pc := 13) dX9_seize_13 rfl rfl ?_
  refine wp_bipush (M := mX9_seize) (pc := 14) dX9_seize_14 k_bipush_8 ?_
  refine wp_imul (M := mX9_seize) (pc := 16) dX9_seize_16 ?_
  refine wp_bipush (M := mX9_seize) (pc := 17) dX9_seize_17 k_bipush_8 ?_
  refine xs_copy (M := mX9_seize) (pc := 19) (sp' := 0) (dp' := (x1 * 8).toNatClampNeg) (x' := 8) dX9_seize_19 lX9_73 ha2 (shW_11 hw) (by decide) (p2) (by decide) rfl rfl rfl (by decide) (p3) (Nat.le_of_ble_eq_true rfl) ?_
  refine wp_aload_n (M := mX9_seize) (pc := 22) dX9_seize_22 rfl rfl ?_
  refine wp_iload_n (M := mX9_seize) (pc := 23) dX9_seize_23 rfl rfl ?_
  refine wp_iconst (M := mX9_seize) (pc := 24) dX9_seize_24 k_iconst_1 ?_
  refine xs_callV (d := d) (M := mX9_seize) (pc := 25) (As := [.int x1, .int 1]) (st := []) (c := 9) (ls' := [.ref w, .int x1, .int 1, .null, .null, .null]) dX9_seize_25 oX9_addUsed nX9_addUsed lX9_108 vX9_addUsed sX9_addUsed rfl (shW hw) (Nat.le_of_ble_eq_true rfl) rfl (Nat.le_of_ble_eq_true rfl) rfl ?_
  exact p4
theorem bX9_seize_28 {G : GC} {d : Nat} {sw : Bool} {f : FF} {Q : QQ} {w : Nat} (hw : isW w) {a2 : Nat} (ha2 : SH[a2]? = some (0, 8)) {x1 : Int32} {x3 : Int32} (p1 : Q none sw f) : XP G mX9_seize (d + 1) 28 [.ref w, .int x1, .ref a2, .int x3] [] sw f Q := by
  exact xs_ret (M := mX9_seize) (pc := 28) dX9_seize_28 rfl (p1)
theorem bX7_mayStop_0 {G : GC} {d : Nat} {sw : Bool} {f : FF} {Q : QQ} {w : Nat} (hw : isW w) {x2 : Int32} (p1 : XP G mX5_lookAt (d + 3) 0 [.ref 33, .ref w, .int x2] [] sw f (fun v sw' f' => XP G mX7_mayStop (d + 4) 9 [.ref 32, .ref w, .int x2] (retst v []) sw' f' Q)) : XP G mX7_mayStop (d + 4) 0 [.ref 32, .ref w, .int x2] [] sw f Q := by
  refine wp_aload_n (M := mX7_mayStop) (pc := 0) dX7_mayStop_0 rfl rfl ?_
  refine xs_getr (M := mX7_mayStop) (pc := 1) (r := 33) dX7_mayStop_1 fX7_12 sh32 rfl (gr32_1 sw) ?_
  refine wp_aload_n (M := mX7_mayStop) (pc := 4) dX7_mayStop_4 rfl rfl ?_
  refine wp_iload_n (M := mX7_mayStop) (pc := 5) dX7_mayStop_5 rfl rfl ?_
  refine xs_callV (d := d + 3) (M := mX7_mayStop) (pc := 6) (As := [.ref w, .int x2]) (st := []) (c := 5) (ls' := [.ref 33, .ref w, .int x2]) dX7_mayStop_6 oX5_lookAt nX5_lookAt lX7_102 vX5_lookAt sX5_lookAt rfl sh33 (Nat.le_of_ble_eq_true rfl) rfl (Nat.le_of_ble_eq_true rfl) rfl ?_
  exact p1
theorem bX7_mayStop_9 {G : GC} {d : Nat} {sw : Bool} {f : FF} {Q : QQ} {w : Nat} (hw : isW w) {x2 : Int32} (p1 : XP G mX5_firstHolding (d + 3) 0 [.ref 33, .ref (lwB sw), .int 120, .null] [] sw f (fun v sw' f' => XP G mX7_mayStop (d + 4) 22 [.ref 32, .ref w, .int x2] (retst v []) sw' f' Q)) : XP G mX7_mayStop (d + 4) 9 [.ref 32, .ref w, .int x2] [] sw f Q := by
  refine wp_aload_n (M := mX7_mayStop) (pc := 9) dX7_mayStop_9 rfl rfl ?_
  refine xs_getr (M := mX7_mayStop) (pc := 10) (r := 33) dX7_mayStop_10 fX7_12 sh32 rfl (gr32_1 sw) ?_
  refine wp_aload_n (M := mX7_mayStop) (pc := 13) dX7_mayStop_13 rfl rfl ?_
  refine xs_getr (M := mX7_mayStop) (pc := 14) (r := lwB sw) dX7_mayStop_14 fX7_21 sh32 rfl (gr32_2 sw) ?_
  refine wp_bipush (M := mX7_mayStop) (pc := 17) dX7_mayStop_17 k_bipush_120 ?_
  refine xs_callV (d := d + 3) (M := mX7_mayStop) (pc := 19) (As := [.ref (lwB sw), .int 120]) (st := []) (c := 5) (ls' := [.ref 33, .ref (lwB sw), .int 120, .null]) dX7_mayStop_19 oX5_firstHolding nX5_firstHolding lX7_131 vX5_firstHolding sX5_firstHolding rfl sh33 (Nat.le_of_ble_eq_true rfl) rfl (Nat.le_of_ble_eq_true rfl) rfl ?_
  exact p1
theorem bX7_mayStop_22 {G : GC} {d : Nat} {sw : Bool} {f : FF} {Q : QQ} {w : Nat} (hw : isW w) {x2 : Int32} {s0 : Int32} (p1 : (s0 = (-1)) → Q none sw f) (p2 : (¬ s0 = (-1)) → XP G mX9_cutOffNow (d + 3) 0 [.ref w, .int x2] [] sw f (fun v sw' f' => XP G mX7_mayStop (d + 4) 31 [.ref 32, .ref w, .int x2] (retst v []) sw' f' Q)) : XP G mX7_mayStop (d + 4) 22 [.ref 32, .ref w, .int x2] [.int s0] sw f Q := by
  refine wp_iconst (M := mX7_mayStop) (pc := 22) dX7_mayStop_22 k_iconst_m1 ?_
  refine wp_icmp_eq (M := mX7_mayStop) (pc := 23) (t := 41) dX7_mayStop_23 (by decide) (fun c1 => ?_) (fun c1 => ?_)
  · exact xs_ret (M := mX7_mayStop) (pc := 41) dX7_mayStop_41 rfl (p1 c1)
  · refine wp_aload_n (M := mX7_mayStop) (pc := 26) dX7_mayStop_26 rfl rfl ?_
    refine wp_iload_n (M := mX7_mayStop) (pc := 27) dX7_mayStop_27 rfl rfl ?_
    refine xs_callV (d := d + 3) (M := mX7_mayStop) (pc := 28) (As := [.int x2]) (st := []) (c := 9) (ls' := [.ref w, .int x2]) dX7_mayStop_28 oX9_cutOffNow nX9_cutOffNow lX7_146 vX9_cutOffNow sX9_cutOffNow rfl (shW hw) (Nat.le_of_ble_eq_true rfl) rfl (Nat.le_of_ble_eq_true rfl) rfl ?_
    exact p2 c1
theorem bX7_mayStop_31 {G : GC} {d : Nat} {sw : Bool} {f : FF} {Q : QQ} {w : Nat} (hw : isW w) {x2 : Int32} (p1 : Q none sw (upd2 f 32 7 ((f 32 7) + 1))) : XP G mX7_mayStop (d + 4) 31 [.ref 32, .ref w, .int x2] [] sw f Q := by
  refine wp_aload_n (M := mX7_mayStop) (pc := 31) dX7_mayStop_31 rfl rfl ?_
  refine wp_dup (M := mX7_mayStop) (pc := 32) dX7_mayStop_32 ?_
  refine xs_geti (M := mX7_mayStop) (pc := 33) dX7_mayStop_33 fX7_42 sh32 rfl ?_
  refine wp_iconst (M := mX7_mayStop) (pc := 36) dX7_mayStop_36 k_iconst_1 ?_
  refine wp_iadd (M := mX7_mayStop) (pc := 37) dX7_mayStop_37 ?_
  refine xs_puti (M := mX7_mayStop) (pc := 38) dX7_mayStop_38 pX7_42 sh32 rfl ?_
  exact xs_ret (M := mX7_mayStop) (pc := 41) dX7_mayStop_41 rfl (p1)
theorem bX9_copyFrom_0 {G : GC} {d : Nat} {sw : Bool} {f : FF} {Q : QQ} {w : Nat} (hw : isW w) {u : Nat} (hu : isW u) (p1 : Q none sw (cpy2 (cpy2 (cpy2 (cpy2 (cpy2 (cpy2 (cpy2 (cpy2 (cpy2 (cpy2 (cpy2 (cpy2 (upd2 (upd2 (upd2 (upd2 (upd2 (upd2 (upd2 (upd2 f w 0 (f u 0)) w 1 ((upd2 f w 0 (f u 0)) u 1)) w 2 ((upd2 (upd2 f w 0 (f u 0)) w 1 ((upd2 f w 0 (f u 0)) u 1)) u 2)) w 3 ((upd2 (upd2 (upd2 f w 0 (f u 0)) w 1 ((upd2 f w 0 (f u 0)) u 1)) w 2 ((upd2 (upd2 f w 0 (f u 0)) w 1 ((upd2 f w 0 (f u 0)) u 1)) u 2)) u 3)) w 4 ((upd2 (upd2 (upd2 (upd2 f w 0 (f u 0)) w 1 ((upd2 f w 0 (f u 0)) u 1)) w 2 ((upd2 (upd2 f w 0 (f u 0)) w 1 ((upd2 f w 0 (f u 0)) u 1)) u 2)) w 3 ((upd2 (upd2 (upd2 f w 0 (f u 0)) w 1 ((upd2 f w 0 (f u 0)) u 1)) w 2 ((upd2 (upd2 f w 0 (f u 0)) w 1 ((upd2 f w 0 (f u 0)) u 1)) u 2)) u 3)) u 4)) w 5 ((upd2 (upd2 (upd2 (upd2 (upd2 f w 0 (f u 0)) w 1 ((upd2 f w 0 (f u 0)) u 1)) w 2 ((upd2 (upd2 f w 0 (f u 0)) w 1 ((upd2 f w 0 (f u 0)) u 1)) u 2)) w 3 ((upd2 (upd2 (upd2 f w 0 (f u 0)) w 1 ((upd2 f w 0 (f u 0)) u 1)) w 2 ((upd2 (upd2 f w 0 (f u 0)) w 1 ((upd2 f w 0 (f u 0)) u 1)) u 2)) u 3)) w 4 ((upd2 (upd2 (upd2 (upd2 f w 0 (f u 0)) w 1 ((upd2 f w 0 (f u 0)) u 1)) w 2 ((upd2 (upd2 f w 0 (f u 0)) w 1 ((upd2 f w 0 (f u 0)) u 1)) u 2)) w 3 ((upd2 (upd2 (upd2 f w 0 (f u 0)) w 1 ((upd2 f w 0 (f u 0)) u 1)) w 2 ((upd2 (upd2 f w 0 (f u 0)) w 1 ((upd2 f w 0 (f u 0)) u 1)) u 2)) u 3)) u 4)) u 5)) w 6 ((upd2 (upd2 (upd2 (upd2 (upd2 (upd2 f w 0 (f u 0)) w 1 ((upd2 f w 0 (f u 0)) u 1)) w 2 ((upd2 (upd2 f w 0 (f u 0)) w 1 ((upd2 f w 0 (f u 0)) u 1)) u 2)) w 3 ((upd2 (upd2 (upd2 f w 0 (f u 0)) w 1 ((upd2 f w 0 (f u 0)) u 1)) w 2 ((upd2 (upd2 f w 0 (f u 0)) w 1 ((upd2 f w 0 (f u 0)) u 1)) u 2)) u 3)) w 4 ((upd2 (upd2 (upd2 (upd2 f w 0 (f u 0)) w 1 ((upd2 f w 0 (f u 0)) u 1)) w 2 ((upd2 (upd2 f w 0 (f u 0)) w 1 ((upd2 f w 0 (f u 0)) u 1)) u 2)) w 3 ((upd2 (upd2 (upd2 f w 0 (f u 0)) w 1 ((upd2 f w 0 (f u 0)) u 1)) w 2 ((upd2 (upd2 f w 0 (f u 0)) w 1 ((upd2 f w 0 (f u 0)) u 1)) u 2)) u 3)) u 4)) w 5 ((upd2 (upd2 (upd2 (upd2 (upd2 f w 0 (f u 0)) w 1 ((upd2 f w 0 (f u 0)) u 1)) w 2 ((upd2 (upd2 f w 0 (f u 0)) w 1 ((upd2 f w 0 (f u 0)) u 1)) u 2)) w 3 ((upd2 (upd2 (upd2 f w 0 (f u 0)) w 1 ((upd2 f w 0 (f u 0)) u 1)) w 2 ((upd2 (upd2 f w 0 (f u 0)) w 1 ((upd2 f w 0 (f u 0)) u 1)) u 2)) u 3)) w 4 ((upd2 (upd2 (upd2 (upd2 f w 0 (f u 0)) w 1 ((upd2 f w 0 (f u 0)) u 1)) w 2 ((upd2 (upd2 f w 0 (f u 0)) w 1 ((upd2 f w 0 (f u 0)) u 1)) u 2)) w 3 ((upd2 (upd2 (upd2 f w 0 (f u 0)) w 1 ((upd2 f w 0 (f u 0)) u 1)) w 2 ((upd2 (upd2 f w 0 (f u 0)) w 1 ((upd2 f w 0 (f u 0)) u 1)) u 2)) u 3)) u 4)) u 5)) u 6)) w 7 ((upd2 (upd2 (upd2 (upd2 (upd2 (upd2 (upd2 f w 0 (f u 0)) w 1 ((upd2 f w 0 (f u 0)) u 1)) w 2 ((upd2 (upd2 f w 0 (f u 0)) w 1 ((upd2 f w 0 (f u 0)) u 1)) u 2)) w 3 ((upd2 (upd2 (upd2 f w 0 (f u 0)) w 1 ((upd2 f w 0 (f u 0)) u 1)) w 2 ((upd2 (upd2 f w 0 (f u 0)) w 1 ((upd2 f w 0 (f u 0)) u 1)) u 2)) u 3)) w 4 ((upd2 (upd2 (upd2 (upd2 f w 0 (f u 0)) w 1 ((upd2 f w 0 (f u 0)) u 1)) w 2 ((upd2 (upd2 f w 0 (f u 0)) w 1 ((upd2 f w 0 (f u 0)) u 1)) u 2)) w 3 ((upd2 (upd2 (upd2 f w 0 (f u 0)) w 1 ((upd2 f w 0 (f u 0)) u 1)) w 2 ((upd2 (upd2 f w 0 (f u 0)) w 1 ((upd2 f w 0 (f u 0)) u 1)) u 2)) u 3)) u 4)) w 5 ((upd2 (upd2 (upd2 (upd2 (upd2 f w 0 (f u 0)) w 1 ((upd2 f w 0 (f u 0)) u 1)) w 2 ((upd2 (upd2 f w 0 (f u 0)) w 1 ((upd2 f w 0 (f u 0)) u 1)) u 2)) w 3 ((upd2 (upd2 (upd2 f w 0 (f u 0)) w 1 ((upd2 f w 0 (f u 0)) u 1)) w 2 ((upd2 (upd2 f w 0 (f u 0)) w 1 ((upd2 f w 0 (f u 0)) u 1)) u 2)) u 3)) w 4 ((upd2 (upd2 (upd2 (upd2 f w 0 (f u 0)) w 1 ((upd2 f w 0 (f u 0)) u 1)) w 2 ((upd2 (upd2 f w 0 (f u 0)) w 1 ((upd2 f w 0 (f u 0)) u 1)) u 2)) w 3 ((upd2 (upd2 (upd2 f w 0 (f u 0)) w 1 ((upd2 f w 0 (f u 0)) u 1)) w 2 ((upd2 (upd2 f w 0 (f u 0)) w 1 ((upd2 f w 0 (f u 0)) u 1)) u 2)) u 3)) u 4)) u 5)) w 6 ((upd2 (upd2 (upd2 (upd2 (upd2 (upd2 f w 0 (f u 0)) w 1 ((upd2 f w 0 (f u 0)) u 1)) w 2 ((upd2 (upd2 f w 0 (f u 0)) w 1 ((upd2 f w 0 (f u 0)) u 1)) u 2)) w 3 ((upd2 (upd2 (upd2 f w 0 (f u 0)) w 1 ((upd2 f w 0 (f u 0)) u 1)) w 2 ((upd2 (upd2 f w 0 (f u 0)) w 1 ((upd2 f w 0 (f u 0)) u 1)) u 2)) u 3)) w 4 ((upd2 (upd2 (upd2 (upd2 f w 0 (f u 0)) w 1 ((upd2 f w 0 (f u 0)) u 1)) w 2 ((upd2 (upd2 f w 0 (f u 0)) w 1 ((upd2 f w 0 (f u 0)) u 1)) u 2)) w 3 ((upd2 (upd2 (upd2 f w 0 (f u 0)) w 1 ((upd2 f w 0 (f u 0)) u 1)) w 2 ((upd2 (upd2 f w 0 (f u 0)) w 1 ((upd2 f w 0 (f u 0)) u 1)) u 2)) u 3)) u 4)) w 5 ((upd2 (upd2 (upd2 (upd2 (upd2 f w 0 (f u 0)) w 1 ((upd2 f w 0 (f u 0)) u 1)) w 2 ((upd2 (upd2 f w 0 (f u 0)) w 1 ((upd2 f w 0 (f u 0)) u 1)) u 2)) w 3 ((upd2 (upd2 (upd2 f w 0 (f u 0)) w 1 ((upd2 f w 0 (f u 0)) u 1)) w 2 ((upd2 (upd2 f w 0 (f u 0)) w 1 ((upd2 f w 0 (f u 0)) u 1)) u 2)) u 3)) w 4 ((upd2 (upd2 (upd2 (upd2 f w 0 (f u 0)) w 1 ((upd2 f w 0 (f u 0)) u 1)) w 2 ((upd2 (upd2 f w 0 (f u 0)) w 1 ((upd2 f w 0 (f u 0)) u 1)) u 2)) w 3 ((upd2 (upd2 (upd2 f w 0 (f u 0)) w 1 ((upd2 f w 0 (f u 0)) u 1)) w 2 ((upd2 (upd2 f w 0 (f u 0)) w 1 ((upd2 f w 0 (f u 0)) u 1)) u 2)) u 3)) u 4)) u 5)) u 6)) u 7)) (u + 1) (w + 1) 0 0 16) (u + 2) (w + 2) 0 0 16) (u + 3) (w + 3) 0 0 16) (u + 4) (w + 4) 0 0 16) (u + 5) (w + 5) 0 0 16) (u + 6) (w + 6) 0 0 20) (u + 7) (w + 7) 0 0 20) (u + 8) (w + 8) 0 0 20) (u + 9) (w + 9) 0 0 20) (u + 10) (w + 10) 0 0 20) (u + 11) (w + 11) 0 0 160) (u + 12) (w + 12) 0 0 64)) : XP G mX9_copyFrom (d) 0 [.ref w, .ref u] [] sw f Q := by
  refine wp_aload_n (M := mX9_copyFrom) (pc := 0) dX9_copyFrom_0 rfl rfl ?_
  refine wp_aload_n (M := mX9_copyFrom) (pc := 1) dX9_copyFrom_1 rfl rfl ?_
  refine xs_geti (M := mX9_copyFrom) (pc := 2) dX9_copyFrom_2 fX9_52 (shW hu) rfl ?_
  refine xs_puti (M := mX9_copyFrom) (pc := 5) dX9_copyFrom_5 pX9_52 (shW hw) rfl ?_
  refine wp_aload_n (M := mX9_copyFrom) (pc := 8) dX9_copyFrom_8 rfl rfl ?_
  refine wp_aload_n (M := mX9_copyFrom) (pc := 9) dX9_copyFrom_9 rfl rfl ?_
  refine xs_geti (M := mX9_copyFrom) (pc := 10) dX9_copyFrom_10 fX9_55 (shW hu) rfl ?_
  refine xs_puti (M := mX9_copyFrom) (pc := 13) dX9_copyFrom_13 pX9_55 (shW hw) rfl ?_
  refine wp_aload_n (M := mX9_copyFrom) (pc := 16) dX9_copyFrom_16 rfl rfl ?_
  refine wp_aload_n (M := mX9_copyFrom) (pc := 17) dX9_copyFrom_17 rfl rfl ?_
  refine xs_geti (M := mX9_copyFrom) (pc := 18) dX9_copyFrom_18 fX9_58 (shW hu) rfl ?_
  refine xs_puti (M := mX9_copyFrom) (pc := 21) dX9_copyFrom_21 pX9_58 (shW hw) rfl ?_
  refine wp_aload_n (M := mX9_copyFrom) (pc := 24) dX9_copyFrom_24 rfl rfl ?_
  refine wp_aload_n (M := mX9_copyFrom) (pc := 25) dX9_copyFrom_25 rfl rfl ?_
  refine xs_geti (M := mX9_copyFrom) (pc := 26) dX9_copyFrom_26 fX9_61 (shW hu) rfl ?_
  refine xs_puti (M := mX9_copyFrom) (pc := 29) dX9_copyFrom_29 pX9_61 (shW hw) rfl ?_
  refine wp_aload_n (M := mX9_copyFrom) (pc := 32) dX9_copyFrom_32 rfl rfl ?_
  refine wp_aload_n (M := mX9_copyFrom) (pc := 33) dX9_copyFrom_33 rfl rfl ?_
  refine xs_geti (M := mX9_copyFrom) (pc := 34) dX9_copyFrom_34 fX9_64 (shW hu) rfl ?_
  refine xs_puti (M := mX9_copyFrom) (pc := 37) dX9_copyFrom_37 pX9_64 (shW hw) rfl ?_
  refine wp_aload_n (M := mX9_copyFrom) (pc := 40) dX9_copyFrom_40 rfl rfl ?_
  refine wp_aload_n (M := mX9_copyFrom) (pc := 41) dX9_copyFrom_41 rfl rfl ?_
  refine xs_geti (M := mX9_copyFrom) (pc := 42) dX9_copyFrom_42 fX9_67 (shW hu) rfl ?_
  refine xs_puti (M := mX9_copyFrom) (pc := 45) dX9_copyFrom_45 pX9_67 (shW hw) rfl ?_
  refine wp_aload_n (M := mX9_copyFrom) (pc := 48) dX9_copyFrom_48 rfl rfl ?_
  refine wp_aload_n (M := mX9_copyFrom) (pc := 49) dX9_copyFrom_49 rfl rfl ?_
  refine xs_geti (M := mX9_copyFrom) (pc := 50) dX9_copyFrom_50 fX9_70 (shW hu) rfl ?_
  refine xs_puti (M := mX9_copyFrom) (pc := 53) dX9_copyFrom_53 pX9_70 (shW hw) rfl ?_
  refine wp_aload_n (M := mX9_copyFrom) (pc := 56) dX9_copyFrom_56 rfl rfl ?_
  refine wp_aload_n (M := mX9_copyFrom) (pc := 57) dX9_copyFrom_57 rfl rfl ?_
  refine xs_geti (M := mX9_copyFrom) (pc := 58) dX9_copyFrom_58 fX9_9 (shW hu) rfl ?_
  refine xs_puti (M := mX9_copyFrom) (pc := 61) dX9_copyFrom_61 pX9_9 (shW hw) rfl ?_
  refine wp_aload_n (M := mX9_copyFrom) (pc := 64) dX9_copyFrom_64 rfl rfl ?_
  refine xs_getr (M := mX9_copyFrom) (pc := 65) (r := u + 1) dX9_copyFrom_65 fX9_15 (shW hu) rfl (grW_8 hu) ?_
  refine wp_iconst (M := mX9_copyFrom) (pc := 68) dX9_copyFrom_68 k_iconst_0 ?_
  refine wp_aload_n (M := mX9_copyFrom) (pc := 69) dX9_copyFrom_69 rfl rfl ?_
  refine xs_getr (M := mX9_copyFrom) (pc := 70) (r := w + 1) dX9_copyFrom_70 fX9_15 (shW hw) rfl (grW_8 hw) ?_
  refine wp_iconst (M := mX9_copyFrom) (pc := 73) dX9_copyFrom_73 k_iconst_0 ?_
  refine wp_bipush (M := mX9_copyFrom) (pc := 74) dX9_copyFrom_74 k_bipush_16 ?_
  refine xs_copy (M := mX9_copyFrom) (pc := 76) (sp' := 0) (dp' := 0) (x' := 16) dX9_copyFrom_76 lX9_73 (shW_1 hu) (shW_1 hw) (by decide) (by decide) (by decide) rfl rfl rfl (by decide) (by decide) (Nat.le_of_ble_eq_true rfl) ?_
  refine wp_aload_n (M := mX9_copyFrom) (pc := 79) dX9_copyFrom_79 rfl rfl ?_
  refine xs_getr (M := mX9_copyFrom) (pc := 80) (r := u + 2) dX9_copyFrom_80 fX9_19 (shW hu) rfl (grW_9 hu) ?_
  refine wp_iconst (M := mX9_copyFrom) (pc := 83) dX9_copyFrom_83 k_iconst_0 ?_
  refine wp_aload_n (M := mX9_copyFrom) (pc := 84) dX9_copyFrom_84 rfl rfl ?_
  refine xs_getr (M := mX9_copyFrom) (pc := 85) (r := w + 2) dX9_copyFrom_85 fX9_19 (shW hw) rfl (grW_9 hw) ?_
  refine wp_iconst (M := mX9_copyFrom) (pc := 88) dX9_copyFrom_88 k_iconst_0 ?_
  refine wp_bipush (M := mX9_copyFrom) (pc := 89) dX9_copyFrom_89 k_bipush_16 ?_
  refine xs_copy (M := mX9_copyFrom) (pc := 91) (sp' := 0) (dp' := 0) (x' := 16) dX9_copyFrom_91 lX9_73 (shW_2 hu) (shW_2 hw) (by decide) (by decide) (by decide) rfl rfl rfl (by decide) (by decide) (Nat.le_of_ble_eq_true rfl) ?_
  refine wp_aload_n (M := mX9_copyFrom) (pc := 94) dX9_copyFrom_94 rfl rfl ?_
  refine xs_getr (M := mX9_copyFrom) (pc := 95) (r := u + 3) dX9_copyFrom_95 fX9_22 (shW hu) rfl (grW_10 hu) ?_
  refine wp_iconst (M := mX9_copyFrom) (pc := 98) dX9_copyFrom_98 k_iconst_0 ?_
  refine wp_aload_n (M := mX9_copyFrom) (pc := 99) dX9_copyFrom_99 rfl rfl ?_
  refine xs_getr (M := mX9_copyFrom) (pc := 100) (r := w + 3) dX9_copyFrom_100 fX9_22 (shW hw) rfl (grW_10 hw) ?_
  refine wp_iconst (M := mX9_copyFrom) (pc := 103) dX9_copyFrom_103 k_iconst_0 ?_
  refine wp_bipush (M := mX9_copyFrom) (pc := 104) dX9_copyFrom_104 k_bipush_16 ?_
  refine xs_copy (M := mX9_copyFrom) (pc := 106) (sp' := 0) (dp' := 0) (x' := 16) dX9_copyFrom_106 lX9_73 (shW_3 hu) (shW_3 hw) (by decide) (by decide) (by decide) rfl rfl rfl (by decide) (by decide) (Nat.le_of_ble_eq_true rfl) ?_
  refine wp_aload_n (M := mX9_copyFrom) (pc := 109) dX9_copyFrom_109 rfl rfl ?_
  refine xs_getr (M := mX9_copyFrom) (pc := 110) (r := u + 4) dX9_copyFrom_110 fX9_25 (shW hu) rfl (grW_11 hu) ?_
  refine wp_iconst (M := mX9_copyFrom) (pc := 113) dX9_copyFrom_113 k_iconst_0 ?_
  refine wp_aload_n (M := mX9_copyFrom) (pc := 114) dX9_copyFrom_114 rfl rfl ?_
  refine xs_getr (M := mX9_copyFrom) (pc := 115) (r := w + 4) dX9_copyFrom_115 fX9_25 (shW hw) rfl (grW_11 hw) ?_
  refine wp_iconst (M := mX9_copyFrom) (pc := 118) dX9_copyFrom_118 k_iconst_0 ?_
  refine wp_bipush (M := mX9_copyFrom) (pc := 119) dX9_copyFrom_119 k_bipush_16 ?_
  refine xs_copy (M := mX9_copyFrom) (pc := 121) (sp' := 0) (dp' := 0) (x' := 16) dX9_copyFrom_121 lX9_73 (shW_4 hu) (shW_4 hw) (by decide) (by decide) (by decide) rfl rfl rfl (by decide) (by decide) (Nat.le_of_ble_eq_true rfl) ?_
  refine wp_aload_n (M := mX9_copyFrom) (pc := 124) dX9_copyFrom_124 rfl rfl ?_
  refine xs_getr (M := mX9_copyFrom) (pc := 125) (r := u + 5) dX9_copyFrom_125 fX9_28 (shW hu) rfl (grW_12 hu) ?_
  refine wp_iconst (M := mX9_copyFrom) (pc := 128) dX9_copyFrom_128 k_iconst_0 ?_
  refine wp_aload_n (M := mX9_copyFrom) (pc := 129) dX9_copyFrom_129 rfl rfl ?_
  refine xs_getr (M := mX9_copyFrom) (pc := 130) (r := w + 5) dX9_copyFrom_130 fX9_28 (shW hw) rfl (grW_12 hw) ?_
  refine wp_iconst (M := mX9_copyFrom) (pc := 133) dX9_copyFrom_133 k_iconst_0 ?_
  refine wp_bipush (M := mX9_copyFrom) (pc := 134) dX9_copyFrom_134 k_bipush_16 ?_
  refine xs_copy (M := mX9_copyFrom) (pc := 136) (sp' := 0) (dp' := 0) (x' := 16) dX9_copyFrom_136 lX9_73 (shW_5 hu) (shW_5 hw) (by decide) (by decide) (by decide) rfl rfl rfl (by decide) (by decide) (Nat.le_of_ble_eq_true rfl) ?_
  refine wp_aload_n (M := mX9_copyFrom) (pc := 139) dX9_copyFrom_139 rfl rfl ?_
  refine xs_getr (M := mX9_copyFrom) (pc := 140) (r := u + 6) dX9_copyFrom_140 fX9_31 (shW hu) rfl (grW_13 hu) ?_
  refine wp_iconst (M := mX9_copyFrom) (pc := 143) dX9_copyFrom_143 k_iconst_0 ?_
  refine wp_aload_n (M := mX9_copyFrom) (pc := 144) dX9_copyFrom_144 rfl rfl ?_
  refine xs_getr (M := mX9_copyFrom) (pc := 145) (r := w + 6) dX9_copyFrom_145 fX9_31 (shW hw) rfl (grW_13 hw) ?_
  refine wp_iconst (M := mX9_copyFrom) (pc := 148) dX9_copyFrom_148 k_iconst_0 ?_
  refine wp_bipush (M := mX9_copyFrom) (pc := 149) dX9_copyFrom_149 k_bipush_20 ?_
  refine xs_copy (M := mX9_copyFrom) (pc := 151) (sp' := 0) (dp' := 0) (x' := 20) dX9_copyFrom_151 lX9_73 (shW_6 hu) (shW_6 hw) (by decide) (by decide) (by decide) rfl rfl rfl (by decide) (by decide) (Nat.le_of_ble_eq_true rfl) ?_
  refine wp_aload_n (M := mX9_copyFrom) (pc := 154) dX9_copyFrom_154 rfl rfl ?_
  refine xs_getr (M := mX9_copyFrom) (pc := 155) (r := u + 7) dX9_copyFrom_155 fX9_34 (shW hu) rfl (grW_14 hu) ?_
  refine wp_iconst (M := mX9_copyFrom) (pc := 158) dX9_copyFrom_158 k_iconst_0 ?_
  refine wp_aload_n (M := mX9_copyFrom) (pc := 159) dX9_copyFrom_159 rfl rfl ?_
  refine xs_getr (M := mX9_copyFrom) (pc := 160) (r := w + 7) dX9_copyFrom_160 fX9_34 (shW hw) rfl (grW_14 hw) ?_
  refine wp_iconst (M := mX9_copyFrom) (pc := 163) dX9_copyFrom_163 k_iconst_0 ?_
  refine wp_bipush (M := mX9_copyFrom) (pc := 164) dX9_copyFrom_164 k_bipush_20 ?_
  refine xs_copy (M := mX9_copyFrom) (pc := 166) (sp' := 0) (dp' := 0) (x' := 20) dX9_copyFrom_166 lX9_73 (shW_7 hu) (shW_7 hw) (by decide) (by decide) (by decide) rfl rfl rfl (by decide) (by decide) (Nat.le_of_ble_eq_true rfl) ?_
  refine wp_aload_n (M := mX9_copyFrom) (pc := 169) dX9_copyFrom_169 rfl rfl ?_
  refine xs_getr (M := mX9_copyFrom) (pc := 170) (r := u + 8) dX9_copyFrom_170 fX9_37 (shW hu) rfl (grW_15 hu) ?_
  refine wp_iconst (M := mX9_copyFrom) (pc := 173) dX9_copyFrom_173 k_iconst_0 ?_
  refine wp_aload_n (M := mX9_copyFrom) (pc := 174) dX9_copyFrom_174 rfl rfl ?_
  refine xs_getr (M := mX9_copyFrom) (pc := 175) (r := w + 8) dX9_copyFrom_175 fX9_37 (shW hw) rfl (grW_15 hw) ?_
  refine wp_iconst (M := mX9_copyFrom) (pc := 178) dX9_copyFrom_178 k_iconst_0 ?_
  refine wp_bipush (M := mX9_copyFrom) (pc := 179) dX9_copyFrom_179 k_bipush_20 ?_
  refine xs_copy (M := mX9_copyFrom) (pc := 181) (sp' := 0) (dp' := 0) (x' := 20) dX9_copyFrom_181 lX9_73 (shW_8 hu) (shW_8 hw) (by decide) (by decide) (by decide) rfl rfl rfl (by decide) (by decide) (Nat.le_of_ble_eq_true rfl) ?_
  refine wp_aload_n (M := mX9_copyFrom) (pc := 184) dX9_copyFrom_184 rfl rfl ?_
  refine xs_getr (M := mX9_copyFrom) (pc := 185) (r := u + 9) dX9_copyFrom_185 fX9_40 (shW hu) rfl (grW_16 hu) ?_
  refine wp_iconst (M := mX9_copyFrom) (pc := 188) dX9_copyFrom_188 k_iconst_0 ?_
  refine wp_aload_n (M := mX9_copyFrom) (pc := 189) dX9_copyFrom_189 rfl rfl ?_
  refine xs_getr (M := mX9_copyFrom) (pc := 190) (r := w + 9) dX9_copyFrom_190 fX9_40 (shW hw) rfl (grW_16 hw) ?_
  refine wp_iconst (M := mX9_copyFrom) (pc := 193) dX9_copyFrom_193 k_iconst_0 ?_
  refine wp_bipush (M := mX9_copyFrom) (pc := 194) dX9_copyFrom_194 k_bipush_20 ?_
  refine xs_copy (M := mX9_copyFrom) (pc := 196) (sp' := 0) (dp' := 0) (x' := 20) dX9_copyFrom_196 lX9_73 (shW_9 hu) (shW_9 hw) (by decide) (by decide) (by decide) rfl rfl rfl (by decide) (by decide) (Nat.le_of_ble_eq_true rfl) ?_
  refine wp_aload_n (M := mX9_copyFrom) (pc := 199) dX9_copyFrom_199 rfl rfl ?_
  refine xs_getr (M := mX9_copyFrom) (pc := 200) (r := u + 10) dX9_copyFrom_200 fX9_43 (shW hu) rfl (grW_17 hu) ?_
  refine wp_iconst (M := mX9_copyFrom) (pc := 203) dX9_copyFrom_203 k_iconst_0 ?_
  refine wp_aload_n (M := mX9_copyFrom) (pc := 204) dX9_copyFrom_204 rfl rfl ?_
  refine xs_getr (M := mX9_copyFrom) (pc := 205) (r := w + 10) dX9_copyFrom_205 fX9_43 (shW hw) rfl (grW_17 hw) ?_
  refine wp_iconst (M := mX9_copyFrom) (pc := 208) dX9_copyFrom_208 k_iconst_0 ?_
  refine wp_bipush (M := mX9_copyFrom) (pc := 209) dX9_copyFrom_209 k_bipush_20 ?_
  refine xs_copy (M := mX9_copyFrom) (pc := 211) (sp' := 0) (dp' := 0) (x' := 20) dX9_copyFrom_211 lX9_73 (shW_10 hu) (shW_10 hw) (by decide) (by decide) (by decide) rfl rfl rfl (by decide) (by decide) (Nat.le_of_ble_eq_true rfl) ?_
  refine wp_aload_n (M := mX9_copyFrom) (pc := 214) dX9_copyFrom_214 rfl rfl ?_
  refine xs_getr (M := mX9_copyFrom) (pc := 215) (r := u + 11) dX9_copyFrom_215 fX9_46 (shW hu) rfl (grW_18 hu) ?_
  refine wp_iconst (M := mX9_copyFrom) (pc := 218) dX9_copyFrom_218 k_iconst_0 ?_
  refine wp_aload_n (M := mX9_copyFrom) (pc := 219) dX9_copyFrom_219 rfl rfl ?_
  refine xs_getr (M := mX9_copyFrom) (pc := 220) (r := w + 11) dX9_copyFrom_220 fX9_46 (shW hw) rfl (grW_18 hw) ?_
  refine wp_iconst (M := mX9_copyFrom) (pc := 223) dX9_copyFrom_223 k_iconst_0 ?_
  refine wp_sipush (M := mX9_copyFrom) (pc := 224) dX9_copyFrom_224 k_sipush_160 ?_
  refine xs_copy (M := mX9_copyFrom) (pc := 227) (sp' := 0) (dp' := 0) (x' := 160) dX9_copyFrom_227 lX9_73 (shW_11 hu) (shW_11 hw) (by decide) (by decide) (by decide) rfl rfl rfl (by decide) (by decide) (Nat.le_of_ble_eq_true rfl) ?_
  refine wp_aload_n (M := mX9_copyFrom) (pc := 230) dX9_copyFrom_230 rfl rfl ?_
  refine xs_getr (M := mX9_copyFrom) (pc := 231) (r := u + 12) dX9_copyFrom_231 fX9_49 (shW hu) rfl (grW_19 hu) ?_
  refine wp_iconst (M := mX9_copyFrom) (pc := 234) dX9_copyFrom_234 k_iconst_0 ?_
  refine wp_aload_n (M := mX9_copyFrom) (pc := 235) dX9_copyFrom_235 rfl rfl ?_
  refine xs_getr (M := mX9_copyFrom) (pc := 236) (r := w + 12) dX9_copyFrom_236 fX9_49 (shW hw) rfl (grW_19 hw) ?_
  refine wp_iconst (M := mX9_copyFrom) (pc := 239) dX9_copyFrom_239 k_iconst_0 ?_
  refine wp_bipush (M := mX9_copyFrom) (pc := 240) dX9_copyFrom_240 k_bipush_64 ?_
  refine xs_copy (M := mX9_copyFrom) (pc := 242) (sp' := 0) (dp' := 0) (x' := 64) dX9_copyFrom_242 lX9_73 (shW_12 hu) (shW_12 hw) (by decide) (by decide) (by decide) rfl rfl rfl (by decide) (by decide) (Nat.le_of_ble_eq_true rfl) ?_
  exact xs_ret (M := mX9_copyFrom) (pc := 245) dX9_copyFrom_245 rfl (p1)
theorem bX9_calls_0 {G : GC} {d : Nat} {sw : Bool} {f : FF} {Q : QQ} {w : Nat} (hw : isW w) (p1 : XP G mJ6_bitCount_0f7a4 (d) 0 [.int (f w 4)] [] sw f (fun v sw' f' => XP G mX9_calls (d + 1) 7 [.ref w] (retst v []) sw' f' Q)) : XP G mX9_calls (d + 1) 0 [.ref w] [] sw f Q := by
  refine wp_aload_n (M := mX9_calls) (pc := 0) dX9_calls_0 rfl rfl ?_
  refine xs_geti (M := mX9_calls) (pc := 1) dX9_calls_1 fX9_64 (shW hw) rfl ?_
  refine xs_callS (d := d) (M := mX9_calls) (pc := 4) (As := [.int (f w 4)]) (st := []) (ls' := [.int (f w 4)]) dX9_calls_4 oJ6_bitCount_0f7a4 nJ6_bitCount_0f7a4 lX9_83 tJ6_bitCount_0f7a4 (Nat.le_of_ble_eq_true rfl) rfl (Nat.le_of_ble_eq_true rfl) rfl ?_
  exact p1
theorem bX9_calls_7 {G : GC} {d : Nat} {sw : Bool} {f : FF} {Q : QQ} {w : Nat} (hw : isW w) {s0 : Int32} (p1 : Q (some (.int (s0 / 2))) sw f) : XP G mX9_calls (d + 1) 7 [.ref w] [.int s0] sw f Q := by
  refine wp_iconst (M := mX9_calls) (pc := 7) dX9_calls_7 k_iconst_2 ?_
  refine wp_idiv (M := mX9_calls) (pc := 8) dX9_calls_8 (by decide) ?_
  exact xs_iret (M := mX9_calls) (pc := 9) dX9_calls_9 rfl (p1)
theorem bJ6_bitCount_0f7a4_0 {G : GC} {d : Nat} {sw : Bool} {f : FF} {Q : QQ} {x0 : Int32} (p1 : Q (some (.int ((((((((x0 - (((x0.toUInt32 >>> ((1 : Int32).toUInt32 &&& Int32.toUInt32 31)).toInt32) &&& 1431655765)) &&& 858993459) + ((((x0 - (((x0.toUInt32 >>> ((1 : Int32).toUInt32 &&& Int32.toUInt32 31)).toInt32) &&& 1431655765)).toUInt32 >>> ((2 : Int32).toUInt32 &&& Int32.toUInt32 31)).toInt32) &&& 858993459)) + (((((x0 - (((x0.toUInt32 >>> ((1 : Int32).toUInt32 &&& Int32.toUInt32 31)).toInt32) &&& 1431655765)) &&& 858993459) + ((((x0 - (((x0.toUInt32 >>> ((1 : Int32).toUInt32 &&& Int32.toUInt32 31)).toInt32) &&& 1431655765)).toUInt32 >>> ((2 : Int32).toUInt32 &&& Int32.toUInt32 31)).toInt32) &&& 858993459)).toUInt32 >>> ((4 : Int32).toUInt32 &&& Int32.toUInt32 31)).toInt32)) &&& 252645135) + (((((((x0 - (((x0.toUInt32 >>> ((1 : Int32).toUInt32 &&& Int32.toUInt32 31)).toInt32) &&& 1431655765)) &&& 858993459) + ((((x0 - (((x0.toUInt32 >>> ((1 : Int32).toUInt32 &&& Int32.toUInt32 31)).toInt32) &&& 1431655765)).toUInt32 >>> ((2 : Int32).toUInt32 &&& Int32.toUInt32 31)).toInt32) &&& 858993459)) + (((((x0 - (((x0.toUInt32 >>> ((1 : Int32).toUInt32 &&& Int32.toUInt32 31)).toInt32) &&& 1431655765)) &&& 858993459) + ((((x0 - (((x0.toUInt32 >>> ((1 : Int32).toUInt32 &&& Int32.toUInt32 31)).toInt32) &&& 1431655765)).toUInt32 >>> ((2 : Int32).toUInt32 &&& Int32.toUInt32 31)).toInt32) &&& 858993459)).toUInt32 >>> ((4 : Int32).toUInt32 &&& Int32.toUInt32 31)).toInt32)) &&& 252645135).toUInt32 >>> ((8 : Int32).toUInt32 &&& Int32.toUInt32 31)).toInt32)) + ((((((((x0 - (((x0.toUInt32 >>> ((1 : Int32).toUInt32 &&& Int32.toUInt32 31)).toInt32) &&& 1431655765)) &&& 858993459) + ((((x0 - (((x0.toUInt32 >>> ((1 : Int32).toUInt32 &&& Int32.toUInt32 31)).toInt32) &&& 1431655765)).toUInt32 >>> ((2 : Int32).toUInt32 &&& Int32.toUInt32 31)).toInt32) &&& 858993459)) + (((((x0 - (((x0.toUInt32 >>> ((1 : Int32).toUInt32 &&& Int32.toUInt32 31)).toInt32) &&& 1431655765)) &&& 858993459) + ((((x0 - (((x0.toUInt32 >>> ((1 : Int32).toUInt32 &&& Int32.toUInt32 31)).toInt32) &&& 1431655765)).toUInt32 >>> ((2 : Int32).toUInt32 &&& Int32.toUInt32 31)).toInt32) &&& 858993459)).toUInt32 >>> ((4 : Int32).toUInt32 &&& Int32.toUInt32 31)).toInt32)) &&& 252645135) + (((((((x0 - (((x0.toUInt32 >>> ((1 : Int32).toUInt32 &&& Int32.toUInt32 31)).toInt32) &&& 1431655765)) &&& 858993459) + ((((x0 - (((x0.toUInt32 >>> ((1 : Int32).toUInt32 &&& Int32.toUInt32 31)).toInt32) &&& 1431655765)).toUInt32 >>> ((2 : Int32).toUInt32 &&& Int32.toUInt32 31)).toInt32) &&& 858993459)) + (((((x0 - (((x0.toUInt32 >>> ((1 : Int32).toUInt32 &&& Int32.toUInt32 31)).toInt32) &&& 1431655765)) &&& 858993459) + ((((x0 - (((x0.toUInt32 >>> ((1 : Int32).toUInt32 &&& Int32.toUInt32 31)).toInt32) &&& 1431655765)).toUInt32 >>> ((2 : Int32).toUInt32 &&& Int32.toUInt32 31)).toInt32) &&& 858993459)).toUInt32 >>> ((4 : Int32).toUInt32 &&& Int32.toUInt32 31)).toInt32)) &&& 252645135).toUInt32 >>> ((8 : Int32).toUInt32 &&& Int32.toUInt32 31)).toInt32)).toUInt32 >>> ((16 : Int32).toUInt32 &&& Int32.toUInt32 31)).toInt32)) &&& 63))) sw f) : XP G mJ6_bitCount_0f7a4 (d) 0 [.int x0] [] sw f Q := by
  refine wp_iload_n (M := mJ6_bitCount_0f7a4) (pc := 0) dJ6_bitCount_0f7a4_0 rfl rfl ?_
  refine wp_iload_n (M := mJ6_bitCount_0f7a4) (pc := 1) dJ6_bitCount_0f7a4_1 rfl rfl ?_
  refine wp_iconst (M := mJ6_bitCount_0f7a4) (pc := 2) dJ6_bitCount_0f7a4_2 k_iconst_1 ?_
  refine wp_iushr (M := mJ6_bitCount_0f7a4) (pc := 3) dJ6_bitCount_0f7a4_3 ?_
  refine wp_ldcw (M := mJ6_bitCount_0f7a4) (pc := 4) dJ6_bitCount_0f7a4_4 kJ6_265 ?_
  refine wp_iand (M := mJ6_bitCount_0f7a4) (pc := 7) dJ6_bitCount_0f7a4_7 ?_
  refine wp_isub (M := mJ6_bitCount_0f7a4) (pc := 8) dJ6_bitCount_0f7a4_8 ?_
  refine wp_istore_n (M := mJ6_bitCount_0f7a4) (pc := 9) (ls' := [.int (x0 - (((x0.toUInt32 >>> ((1 : Int32).toUInt32 &&& Int32.toUInt32 31)).toInt32) &&& 1431655765))]) dJ6_bitCount_0f7a4_9 rfl (by decide) rfl ?_
  refine wp_iload_n (M := mJ6_bitCount_0f7a4) (pc := 10) dJ6_bitCount_0f7a4_10 rfl rfl ?_
  refine wp_ldcw (M := mJ6_bitCount_0f7a4) (pc := 11) dJ6_bitCount_0f7a4_11 kJ6_266 ?_
  refine wp_iand (M := mJ6_bitCount_0f7a4) (pc := 14) dJ6_bitCount_0f7a4_14 ?_
  refine wp_iload_n (M := mJ6_bitCount_0f7a4) (pc := 15) dJ6_bitCount_0f7a4_15 rfl rfl ?_
  refine wp_iconst (M := mJ6_bitCount_0f7a4) (pc := 16) dJ6_bitCount_0f7a4_16 k_iconst_2 ?_
  refine wp_iushr (M := mJ6_bitCount_0f7a4) (pc := 17) dJ6_bitCount_0f7a4_17 ?_
  refine wp_ldcw (M := mJ6_bitCount_0f7a4) (pc := 18) dJ6_bitCount_0f7a4_18 kJ6_266 ?_
  refine wp_iand (M := mJ6_bitCount_0f7a4) (pc := 21) dJ6_bitCount_0f7a4_21 ?_
  refine wp_iadd (M := mJ6_bitCount_0f7a4) (pc := 22) dJ6_bitCount_0f7a4_22 ?_
  refine wp_istore_n (M := mJ6_bitCount_0f7a4) (pc := 23) (ls' := [.int (((x0 - (((x0.toUInt32 >>> ((1 : Int32).toUInt32 &&& Int32.toUInt32 31)).toInt32) &&& 1431655765)) &&& 858993459) + ((((x0 - (((x0.toUInt32 >>> ((1 : Int32).toUInt32 &&& Int32.toUInt32 31)).toInt32) &&& 1431655765)).toUInt32 >>> ((2 : Int32).toUInt32 &&& Int32.toUInt32 31)).toInt32) &&& 858993459))]) dJ6_bitCount_0f7a4_23 rfl (by decide) rfl ?_
  refine wp_iload_n (M := mJ6_bitCount_0f7a4) (pc := 24) dJ6_bitCount_0f7a4_24 rfl rfl ?_
  refine wp_iload_n (M := mJ6_bitCount_0f7a4) (pc := 25) dJ6_bitCount_0f7a4_25 rfl rfl ?_
  refine wp_iconst (M := mJ6_bitCount_0f7a4) (pc := 26) dJ6_bitCount_0f7a4_26 k_iconst_4 ?_
  refine wp_iushr (M := mJ6_bitCount_0f7a4) (pc := 27) dJ6_bitCount_0f7a4_27 ?_
  refine wp_iadd (M := mJ6_bitCount_0f7a4) (pc := 28) dJ6_bitCount_0f7a4_28 ?_
  refine wp_ldcw (M := mJ6_bitCount_0f7a4) (pc := 29) dJ6_bitCount_0f7a4_29 kJ6_267 ?_
  refine wp_iand (M := mJ6_bitCount_0f7a4) (pc := 32) dJ6_bitCount_0f7a4_32 ?_
  refine wp_istore_n (M := mJ6_bitCount_0f7a4) (pc := 33) (ls' := [.int (((((x0 - (((x0.toUInt32 >>> ((1 : Int32).toUInt32 &&& Int32.toUInt32 31)).toInt32) &&& 1431655765)) &&& 858993459) + ((((x0 - (((x0.toUInt32 >>> ((1 : Int32).toUInt32 &&& Int32.toUInt32 31)).toInt32) &&& 1431655765)).toUInt32 >>> ((2 : Int32).toUInt32 &&& Int32.toUInt32 31)).toInt32) &&& 858993459)) + (((((x0 - (((x0.toUInt32 >>> ((1 : Int32).toUInt32 &&& Int32.toUInt32 31)).toInt32) &&& 1431655765)) &&& 858993459) + ((((x0 - (((x0.toUInt32 >>> ((1 : Int32).toUInt32 &&& Int32.toUInt32 31)).toInt32) &&& 1431655765)).toUInt32 >>> ((2 : Int32).toUInt32 &&& Int32.toUInt32 31)).toInt32) &&& 858993459)).toUInt32 >>> ((4 : Int32).toUInt32 &&& Int32.toUInt32 31)).toInt32)) &&& 252645135)]) dJ6_bitCount_0f7a4_33 rfl (by decide) rfl ?_
  refine wp_iload_n (M := mJ6_bitCount_0f7a4) (pc := 34) dJ6_bitCount_0f7a4_34 rfl rfl ?_
  refine wp_iload_n (M := mJ6_bitCount_0f7a4) (pc := 35) dJ6_bitCount_0f7a4_35 rfl rfl ?_
  refine wp_bipush (M := mJ6_bitCount_0f7a4) (pc := 36) dJ6_bitCount_0f7a4_36 k_bipush_8 ?_
  refine wp_iushr (M := mJ6_bitCount_0f7a4) (pc := 38) dJ6_bitCount_0f7a4_38 ?_
  refine wp_iadd (M := mJ6_bitCount_0f7a4) (pc := 39) dJ6_bitCount_0f7a4_39 ?_
  refine wp_istore_n (M := mJ6_bitCount_0f7a4) (pc := 40) (ls' := [.int ((((((x0 - (((x0.toUInt32 >>> ((1 : Int32).toUInt32 &&& Int32.toUInt32 31)).toInt32) &&& 1431655765)) &&& 858993459) + ((((x0 - (((x0.toUInt32 >>> ((1 : Int32).toUInt32 &&& Int32.toUInt32 31)).toInt32) &&& 1431655765)).toUInt32 >>> ((2 : Int32).toUInt32 &&& Int32.toUInt32 31)).toInt32) &&& 858993459)) + (((((x0 - (((x0.toUInt32 >>> ((1 : Int32).toUInt32 &&& Int32.toUInt32 31)).toInt32) &&& 1431655765)) &&& 858993459) + ((((x0 - (((x0.toUInt32 >>> ((1 : Int32).toUInt32 &&& Int32.toUInt32 31)).toInt32) &&& 1431655765)).toUInt32 >>> ((2 : Int32).toUInt32 &&& Int32.toUInt32 31)).toInt32) &&& 858993459)).toUInt32 >>> ((4 : Int32).toUInt32 &&& Int32.toUInt32 31)).toInt32)) &&& 252645135) + (((((((x0 - (((x0.toUInt32 >>> ((1 : Int32).toUInt32 &&& Int32.toUInt32 31)).toInt32) &&& 1431655765)) &&& 858993459) + ((((x0 - (((x0.toUInt32 >>> ((1 : Int32).toUInt32 &&& Int32.toUInt32 31)).toInt32) &&& 1431655765)).toUInt32 >>> ((2 : Int32).toUInt32 &&& Int32.toUInt32 31)).toInt32) &&& 858993459)) + (((((x0 - (((x0.toUInt32 >>> ((1 : Int32).toUInt32 &&& Int32.toUInt32 31)).toInt32) &&& 1431655765)) &&& 858993459) + ((((x0 - (((x0.toUInt32 >>> ((1 : Int32).toUInt32 &&& Int32.toUInt32 31)).toInt32) &&& 1431655765)).toUInt32 >>> ((2 : Int32).toUInt32 &&& Int32.toUInt32 31)).toInt32) &&& 858993459)).toUInt32 >>> ((4 : Int32).toUInt32 &&& Int32.toUInt32 31)).toInt32)) &&& 252645135).toUInt32 >>> ((8 : Int32).toUInt32 &&& Int32.toUInt32 31)).toInt32))]) dJ6_bitCount_0f7a4_40 rfl (by decide) rfl ?_
  refine wp_iload_n (M := mJ6_bitCount_0f7a4) (pc := 41) dJ6_bitCount_0f7a4_41 rfl rfl ?_
  refine wp_iload_n (M := mJ6_bitCount_0f7a4) (pc := 42) dJ6_bitCount_0f7a4_42 rfl rfl ?_
  refine wp_bipush (M := mJ6_bitCount_0f7a4) (pc := 43) dJ6_bitCount_0f7a4_43 k_bipush_16 ?_
  refine wp_iushr (M := mJ6_bitCount_0f7a4) (pc := 45) dJ6_bitCount_0f7a4_45 ?_
  refine wp_iadd (M := mJ6_bitCount_0f7a4) (pc := 46) dJ6_bitCount_0f7a4_46 ?_
  refine wp_istore_n (M := mJ6_bitCount_0f7a4) (pc := 47) (ls' := [.int (((((((x0 - (((x0.toUInt32 >>> ((1 : Int32).toUInt32 &&& Int32.toUInt32 31)).toInt32) &&& 1431655765)) &&& 858993459) + ((((x0 - (((x0.toUInt32 >>> ((1 : Int32).toUInt32 &&& Int32.toUInt32 31)).toInt32) &&& 1431655765)).toUInt32 >>> ((2 : Int32).toUInt32 &&& Int32.toUInt32 31)).toInt32) &&& 858993459)) + (((((x0 - (((x0.toUInt32 >>> ((1 : Int32).toUInt32 &&& Int32.toUInt32 31)).toInt32) &&& 1431655765)) &&& 858993459) + ((((x0 - (((x0.toUInt32 >>> ((1 : Int32).toUInt32 &&& Int32.toUInt32 31)).toInt32) &&& 1431655765)).toUInt32 >>> ((2 : Int32).toUInt32 &&& Int32.toUInt32 31)).toInt32) &&& 858993459)).toUInt32 >>> ((4 : Int32).toUInt32 &&& Int32.toUInt32 31)).toInt32)) &&& 252645135) + (((((((x0 - (((x0.toUInt32 >>> ((1 : Int32).toUInt32 &&& Int32.toUInt32 31)).toInt32) &&& 1431655765)) &&& 858993459) + ((((x0 - (((x0.toUInt32 >>> ((1 : Int32).toUInt32 &&& Int32.toUInt32 31)).toInt32) &&& 1431655765)).toUInt32 >>> ((2 : Int32).toUInt32 &&& Int32.toUInt32 31)).toInt32) &&& 858993459)) + (((((x0 - (((x0.toUInt32 >>> ((1 : Int32).toUInt32 &&& Int32.toUInt32 31)).toInt32) &&& 1431655765)) &&& 858993459) + ((((x0 - (((x0.toUInt32 >>> ((1 : Int32).toUInt32 &&& Int32.toUInt32 31)).toInt32) &&& 1431655765)).toUInt32 >>> ((2 : Int32).toUInt32 &&& Int32.toUInt32 31)).toInt32) &&& 858993459)).toUInt32 >>> ((4 : Int32).toUInt32 &&& Int32.toUInt32 31)).toInt32)) &&& 252645135).toUInt32 >>> ((8 : Int32).toUInt32 &&& Int32.toUInt32 31)).toInt32)) + ((((((((x0 - (((x0.toUInt32 >>> ((1 : Int32).toUInt32 &&& Int32.toUInt32 31)).toInt32) &&& 1431655765)) &&& 858993459) + ((((x0 - (((x0.toUInt32 >>> ((1 : Int32).toUInt32 &&& Int32.toUInt32 31)).toInt32) &&& 1431655765)).toUInt32 >>> ((2 : Int32).toUInt32 &&& Int32.toUInt32 31)).toInt32) &&& 858993459)) + (((((x0 - (((x0.toUInt32 >>> ((1 : Int32).toUInt32 &&& Int32.toUInt32 31)).toInt32) &&& 1431655765)) &&& 858993459) + ((((x0 - (((x0.toUInt32 >>> ((1 : Int32).toUInt32 &&& Int32.toUInt32 31)).toInt32) &&& 1431655765)).toUInt32 >>> ((2 : Int32).toUInt32 &&& Int32.toUInt32 31)).toInt32) &&& 858993459)).toUInt32 >>> ((4 : Int32).toUInt32 &&& Int32.toUInt32 31)).toInt32)) &&& 252645135) + (((((((x0 - (((x0.toUInt32 >>> ((1 : Int32).toUInt32 &&& Int32.toUInt32 31)).toInt32) &&& 1431655765)) &&& 858993459) + ((((x0 - (((x0.toUInt32 >>> ((1 : Int32).toUInt32 &&& Int32.toUInt32 31)).toInt32) &&& 1431655765)).toUInt32 >>> ((2 : Int32).toUInt32 &&& Int32.toUInt32 31)).toInt32) &&& 858993459)) + (((((x0 - (((x0.toUInt32 >>> ((1 : Int32).toUInt32 &&& Int32.toUInt32 31)).toInt32) &&& 1431655765)) &&& 858993459) + ((((x0 - (((x0.toUInt32 >>> ((1 : Int32).toUInt32 &&& Int32.toUInt32 31)).toInt32) &&& 1431655765)).toUInt32 >>> ((2 : Int32).toUInt32 &&& Int32.toUInt32 31)).toInt32) &&& 858993459)).toUInt32 >>> ((4 : Int32).toUInt32 &&& Int32.toUInt32 31)).toInt32)) &&& 252645135).toUInt32 >>> ((8 : Int32).toUInt32 &&& Int32.toUInt32 31)).toInt32)).toUInt32 >>> ((16 : Int32).toUInt32 &&& Int32.toUInt32 31)).toInt32))]) dJ6_bitCount_0f7a4_47 rfl (by decide) rfl ?_
  refine wp_iload_n (M := mJ6_bitCount_0f7a4) (pc := 48) dJ6_bitCount_0f7a4_48 rfl rfl ?_
  refine wp_bipush (M := mJ6_bitCount_0f7a4) (pc := 49) dJ6_bitCount_0f7a4_49 k_bipush_63 ?_
  refine wp_iand (M := mJ6_bitCount_0f7a4) (pc := 51) dJ6_bitCount_0f7a4_51 ?_
  exact xs_iret (M := mJ6_bitCount_0f7a4) (pc := 52) dJ6_bitCount_0f7a4_52 rfl (p1)
theorem bX9_arrearsOf_0 {G : GC} {d : Nat} {sw : Bool} {f : FF} {Q : QQ} {w : Nat} (hw : isW w) {x1 : Int32} (p1 : (¬ ((0 ≤ x1 ∧ x1 ≤ 15) ∧ bitI (f w 0) x1)) → Q (some (.int 0)) sw f) (p2 : ((0 ≤ x1 ∧ x1 ≤ 15) ∧ bitI (f w 0) x1) → vp_in x1 16) (p3 : ((0 ≤ x1 ∧ x1 ≤ 15) ∧ bitI (f w 0) x1) → Q (some (.int (f (w + 2) x1.toNatClampNeg))) sw f) : XP G mX9_arrearsOf (d + 2) 0 [.ref w, .int x1] [] sw f Q := by
  refine wp_aload_n (M := mX9_arrearsOf) (pc := 0) dX9_arrearsOf_0 rfl rfl ?_
  refine wp_iload_n (M := mX9_arrearsOf) (pc := 1) dX9_arrearsOf_1 rfl rfl ?_
  refine xs_callV (d := d + 1) (M := mX9_arrearsOf) (pc := 2) (As := [.int x1]) (st := []) (c := 9) (ls' := [.ref w, .int x1]) dX9_arrearsOf_2 oX9_isTold nX9_isTold lX9_89 vX9_isTold sX9_isTold rfl (shW hw) (Nat.le_of_ble_eq_true rfl) rfl (Nat.le_of_ble_eq_true rfl) rfl ?_
  refine sp_X9_isTold hw  ?_
  refine xs_ifb_eq (M := mX9_arrearsOf) (pc := 5) (t := 17) dX9_arrearsOf_5 (by decide) (fun c1 => ?_) (fun c1 => ?_)
  · refine wp_iconst (M := mX9_arrearsOf) (pc := 17) dX9_arrearsOf_17 k_iconst_0 ?_
    exact xs_iret (M := mX9_arrearsOf) (pc := 18) dX9_arrearsOf_18 rfl (p1 c1)
  · refine wp_aload_n (M := mX9_arrearsOf) (pc := 8) dX9_arrearsOf_8 rfl rfl ?_
    refine xs_getr (M := mX9_arrearsOf) (pc := 9) (r := w + 2) dX9_arrearsOf_9 fX9_19 (shW hw) rfl (grW_9 hw) ?_
    refine wp_iload_n (M := mX9_arrearsOf) (pc := 12) dX9_arrearsOf_12 rfl rfl ?_
    refine xs_iald (M := mX9_arrearsOf) (pc := 13) (j := x1.toNatClampNeg) dX9_arrearsOf_13 (shW_2 hw) (p2 c1) rfl ?_
    refine wp_goto (M := mX9_arrearsOf) (pc := 14) (t := 18) dX9_arrearsOf_14 (by decide) ?_
    exact xs_iret (M := mX9_arrearsOf) (pc := 18) dX9_arrearsOf_18 rfl (p3 c1)
theorem bX9_partnerOf_0 {G : GC} {d : Nat} {sw : Bool} {f : FF} {Q : QQ} {w : Nat} (hw : isW w) {x1 : Int32} (p1 : (¬ (((f w 4) >>> (x1 &&& 31)) &&& 1) = 0) → vp_in x1 16) (p2 : (¬ (((f w 4) >>> (x1 &&& 31)) &&& 1) = 0) → vp_in (f (w + 5) x1.toNatClampNeg) 20) (p3 : (¬ (((f w 4) >>> (x1 &&& 31)) &&& 1) = 0) → (¬ (f (w + 6) ((f (w + 5) x1.toNatClampNeg).toNatClampNeg)) = x1) → vp_in (f (w + 5) x1.toNatClampNeg) 20) (p4 : (¬ (((f w 4) >>> (x1 &&& 31)) &&& 1) = 0) → (¬ (f (w + 6) ((f (w + 5) x1.toNatClampNeg).toNatClampNeg)) = x1) → Q (some (.int (f (w + 6) ((f (w + 5) x1.toNatClampNeg).toNatClampNeg)))) sw f) (p5 : (¬ (((f w 4) >>> (x1 &&& 31)) &&& 1) = 0) → ((f (w + 6) ((f (w + 5) x1.toNatClampNeg).toNatClampNeg)) = x1) → vp_in (f (w + 5) x1.toNatClampNeg) 20) (p6 : (¬ (((f w 4) >>> (x1 &&& 31)) &&& 1) = 0) → ((f (w + 6) ((f (w + 5) x1.toNatClampNeg).toNatClampNeg)) = x1) → Q (some (.int (f (w + 7) ((f (w + 5) x1.toNatClampNeg).toNatClampNeg)))) sw f) (p7 : ((((f w 4) >>> (x1 &&& 31)) &&& 1) = 0) → Q (some (.int (-2))) sw f) : XP G mX9_partnerOf (d) 0 [.ref w, .int x1, .null] [] sw f Q := by
  refine wp_aload_n (M := mX9_partnerOf) (pc := 0) dX9_partnerOf_0 rfl rfl ?_
  refine xs_geti (M := mX9_partnerOf) (pc := 1) dX9_partnerOf_1 fX9_64 (shW hw) rfl ?_
  refine wp_iload_n (M := mX9_partnerOf) (pc := 4) dX9_partnerOf_4 rfl rfl ?_
  refine wp_ishr (M := mX9_partnerOf) (pc := 5) dX9_partnerOf_5 ?_
  refine wp_iconst (M := mX9_partnerOf) (pc := 6) dX9_partnerOf_6 k_iconst_1 ?_
  refine wp_iand (M := mX9_partnerOf) (pc := 7) dX9_partnerOf_7 ?_
  refine wp_if_ne (M := mX9_partnerOf) (pc := 8) (t := 14) dX9_partnerOf_8 (by decide) (fun c1 => ?_) (fun c1 => ?_)
  · refine wp_aload_n (M := mX9_partnerOf) (pc := 14) dX9_partnerOf_14 rfl rfl ?_
    refine xs_getr (M := mX9_partnerOf) (pc := 15) (r := w + 5) dX9_partnerOf_15 fX9_28 (shW hw) rfl (grW_12 hw) ?_
    refine wp_iload_n (M := mX9_partnerOf) (pc := 18) dX9_partnerOf_18 rfl rfl ?_
    refine xs_iald (M := mX9_partnerOf) (pc := 19) (j := x1.toNatClampNeg) dX9_partnerOf_19 (shW_5 hw) (p1 c1) rfl ?_
    refine wp_istore_n (M := mX9_partnerOf) (pc := 20) (ls' := [.ref w, .int x1, .int (f (w + 5) x1.toNatClampNeg)]) dX9_partnerOf_20 rfl (by decide) rfl ?_
    refine wp_aload_n (M := mX9_partnerOf) (pc := 21) dX9_partnerOf_21 rfl rfl ?_
    refine xs_getr (M := mX9_partnerOf) (pc := 22) (r := w + 6) dX9_partnerOf_22 fX9_31 (shW hw) rfl (grW_13 hw) ?_
    refine wp_iload_n (M := mX9_partnerOf) (pc := 25) dX9_partnerOf_25 rfl rfl ?_
    refine xs_iald (M := mX9_partnerOf) (pc := 26) (j := (f (w + 5) x1.toNatClampNeg).toNatClampNeg) dX9_partnerOf_26 (shW_6 hw) (p2 c1) rfl ?_
    refine wp_iload_n (M := mX9_partnerOf) (pc := 27) dX9_partnerOf_27 rfl rfl ?_
    refine wp_icmp_ne (M := mX9_partnerOf) (pc := 28) (t := 40) dX9_partnerOf_28 (by decide) (fun c2 => ?_) (fun c2 => ?_)
    · refine wp_aload_n (M := mX9_partnerOf) (pc := 40) dX9_partnerOf_40 rfl rfl ?_
      refine xs_getr (M := mX9_partnerOf) (pc := 41) (r := w + 6) dX9_partnerOf_41 fX9_31 (shW hw) rfl (grW_13 hw) ?_
      refine wp_iload_n (M := mX9_partnerOf) (pc := 44) dX9_partnerOf_44 rfl rfl ?_
      refine xs_iald (M := mX9_partnerOf) (pc := 45) (j := (f (w + 5) x1.toNatClampNeg).toNatClampNeg) dX9_partnerOf_45 (shW_6 hw) (p3 c1 c2) rfl ?_
      exact xs_iret (M := mX9_partnerOf) (pc := 46) dX9_partnerOf_46 rfl (p4 c1 c2)
    · refine wp_aload_n (M := mX9_partnerOf) (pc := 31) dX9_partnerOf_31 rfl rfl ?_
      refine xs_getr (M := mX9_partnerOf) (pc := 32) (r := w + 7) dX9_partnerOf_32 fX9_34 (shW hw) rfl (grW_14 hw) ?_
      refine wp_iload_n (M := mX9_partnerOf) (pc := 35) dX9_partnerOf_35 rfl rfl ?_
      refine xs_iald (M := mX9_partnerOf) (pc := 36) (j := (f (w + 5) x1.toNatClampNeg).toNatClampNeg) dX9_partnerOf_36 (shW_7 hw) (p5 c1 c2) rfl ?_
      refine wp_goto (M := mX9_partnerOf) (pc := 37) (t := 46) dX9_partnerOf_37 (by decide) ?_
      exact xs_iret (M := mX9_partnerOf) (pc := 46) dX9_partnerOf_46 rfl (p6 c1 c2)
  · refine wp_bipush (M := mX9_partnerOf) (pc := 11) dX9_partnerOf_11 k_bipush_m2 ?_
    exact xs_iret (M := mX9_partnerOf) (pc := 13) dX9_partnerOf_13 rfl (p7 c1)
theorem bX7_minutesTillPoor_0 {G : GC} {d : Nat} {sw : Bool} {f : FF} {Q : QQ} {w : Nat} (hw : isW w) {x2 : Int32} (p1 : (¬ (f w 5) = 0) → XP G mX7_minutesTillPoor (d + 6) 11 [.ref 32, .ref w, .int x2, .int 1] [] sw f Q) (p2 : ((f w 5) = 0) → Q (some (.int 0)) sw f) : XP G mX7_minutesTillPoor (d + 6) 0 [.ref 32, .ref w, .int x2, .null] [] sw f Q := by
  refine wp_aload_n (M := mX7_minutesTillPoor) (pc := 0) dX7_minutesTillPoor_0 rfl rfl ?_
  refine xs_geti (M := mX7_minutesTillPoor) (pc := 1) dX7_minutesTillPoor_1 fX7_55 (shW hw) rfl ?_
  refine wp_if_ne (M := mX7_minutesTillPoor) (pc := 4) (t := 9) dX7_minutesTillPoor_4 (by decide) (fun c1 => ?_) (fun c1 => ?_)
  · refine wp_iconst (M := mX7_minutesTillPoor) (pc := 9) dX7_minutesTillPoor_9 k_iconst_1 ?_
    refine wp_istore_n (M := mX7_minutesTillPoor) (pc := 10) (ls' := [.ref 32, .ref w, .int x2, .int 1]) dX7_minutesTillPoor_10 rfl (by decide) rfl ?_
    exact p1 c1
  · refine wp_iconst (M := mX7_minutesTillPoor) (pc := 7) dX7_minutesTillPoor_7 k_iconst_0 ?_
    exact xs_iret (M := mX7_minutesTillPoor) (pc := 8) dX7_minutesTillPoor_8 rfl (p2 c1)
theorem bX7_minutesTillPoor_11 {G : GC} {d : Nat} {sw : Bool} {f : FF} {Q : QQ} {w : Nat} (hw : isW w) {x2 : Int32} {x3 : Int32} (p1 : (x2 < x3) → Q (some (.int (-2))) sw f) (p2 : (¬ x2 < x3) → (99999 ≤ (f w 6)) → Q (some (.int (-2))) sw f) (p3 : (¬ x2 < x3) → (¬ 99999 ≤ (f w 6)) → XP G mX7_goBy (d + 5) 0 [.ref 32, .ref w, .null] [] sw f (fun v sw' f' => XP G mX7_minutesTillPoor (d + 6) 30 [.ref 32, .ref w, .int x2, .int x3] (retst v []) sw' f' Q)) : XP G mX7_minutesTillPoor (d + 6) 11 [.ref 32, .ref w, .int x2, .int x3] [] sw f Q := by
  refine wp_iload_n (M := mX7_minutesTillPoor) (pc := 11) dX7_minutesTillPoor_11 rfl rfl ?_
  refine wp_iload_n (M := mX7_minutesTillPoor) (pc := 12) dX7_minutesTillPoor_12 rfl rfl ?_
  refine wp_icmp_gt (M := mX7_minutesTillPoor) (pc := 13) (t := 45) dX7_minutesTillPoor_13 (by decide) (fun c1 => ?_) (fun c1 => ?_)
  · refine wp_bipush (M := mX7_minutesTillPoor) (pc := 45) dX7_minutesTillPoor_45 k_bipush_m2 ?_
    exact xs_iret (M := mX7_minutesTillPoor) (pc := 47) dX7_minutesTillPoor_47 rfl (p1 c1)
  · refine wp_aload_n (M := mX7_minutesTillPoor) (pc := 16) dX7_minutesTillPoor_16 rfl rfl ?_
    refine xs_geti (M := mX7_minutesTillPoor) (pc := 17) dX7_minutesTillPoor_17 fX7_45 (shW hw) rfl ?_
    refine wp_ldc (M := mX7_minutesTillPoor) (pc := 20) dX7_minutesTillPoor_20 kX7_50 ?_
    refine wp_icmp_ge (M := mX7_minutesTillPoor) (pc := 22) (t := 45) dX7_minutesTillPoor_22 (by decide) (fun c2 => ?_) (fun c2 => ?_)
    · refine wp_bipush (M := mX7_minutesTillPoor) (pc := 45) dX7_minutesTillPoor_45 k_bipush_m2 ?_
      exact xs_iret (M := mX7_minutesTillPoor) (pc := 47) dX7_minutesTillPoor_47 rfl (p2 c1 c2)
    · refine wp_aload_n (M := mX7_minutesTillPoor) (pc := 25) dX7_minutesTillPoor_25 rfl rfl ?_
      refine wp_aload_n (M := mX7_minutesTillPoor) (pc := 26) dX7_minutesTillPoor_26 rfl rfl ?_
      refine xs_callV (d := d + 5) (M := mX7_minutesTillPoor) (pc := 27) (As := [.ref w]) (st := []) (c := 7) (ls' := [.ref 32, .ref w, .null]) dX7_minutesTillPoor_27 oX7_goBy nX7_goBy lX7_51 vX7_goBy sX7_goBy rfl sh32 (Nat.le_of_ble_eq_true rfl) rfl (Nat.le_of_ble_eq_true rfl) rfl ?_
      exact p3 c1 c2
theorem bX7_minutesTillPoor_30 {G : GC} {d : Nat} {sw : Bool} {f : FF} {Q : QQ} {w : Nat} (hw : isW w) {x2 : Int32} {x3 : Int32} (p1 : (¬ (f w 5) = 0) → XP G mX7_minutesTillPoor (d + 6) 11 [.ref 32, .ref w, .int x2, .int (x3 + 1)] [] sw f Q) (p2 : ((f w 5) = 0) → Q (some (.int x3)) sw f) : XP G mX7_minutesTillPoor (d + 6) 30 [.ref 32, .ref w, .int x2, .int x3] [] sw f Q := by
  refine wp_aload_n (M := mX7_minutesTillPoor) (pc := 30) dX7_minutesTillPoor_30 rfl rfl ?_
  refine xs_geti (M := mX7_minutesTillPoor) (pc := 31) dX7_minutesTillPoor_31 fX7_55 (shW hw) rfl ?_
  refine wp_if_ne (M := mX7_minutesTillPoor) (pc := 34) (t := 39) dX7_minutesTillPoor_34 (by decide) (fun c1 => ?_) (fun c1 => ?_)
  · refine wp_iinc (M := mX7_minutesTillPoor) (pc := 39) (v := x3 + 1) (ls' := [.ref 32, .ref w, .int x2, .int (x3 + 1)]) dX7_minutesTillPoor_39 rfl (congrArg (fun z => _ + z) k_iconst_1) (by decide) rfl ?_
    refine wp_goto (M := mX7_minutesTillPoor) (pc := 42) (t := 11) dX7_minutesTillPoor_42 (by decide) ?_
    exact p1 c1
  · refine wp_iload_n (M := mX7_minutesTillPoor) (pc := 37) dX7_minutesTillPoor_37 rfl rfl ?_
    exact xs_iret (M := mX7_minutesTillPoor) (pc := 38) dX7_minutesTillPoor_38 rfl (p2 c1)
theorem bX3_flow_0 {G : GC} {d : Nat} {sw : Bool} {f : FF} {Q : QQ} {x1 : Int32} {x2 : Int32} {x3 : Int32} (p1 : XP G mX3_leaveRoom (d + 1) 0 [.ref 3, .ref 6, .int x3, .null] [] sw f (fun v sw' f' => XP G mX3_flow (d + 2) 9 [.ref 3, .int x1, .int x2, .int x3, .null, .null] (retst v []) sw' f' Q)) : XP G mX3_flow (d + 2) 0 [.ref 3, .int x1, .int x2, .int x3, .null, .null] [] sw f Q := by
  refine wp_aload_n (M := mX3_flow) (pc := 0) dX3_flow_0 rfl rfl ?_
  refine wp_aload_n (M := mX3_flow) (pc := 1) dX3_flow_1 rfl rfl ?_
  refine xs_getr (M := mX3_flow) (pc := 2) (r := 6) dX3_flow_2 fX3_18 sh3 rfl (gr3_2 sw) ?_
  refine wp_iload_n (M := mX3_flow) (pc := 5) dX3_flow_5 rfl rfl ?_
  refine xs_callV (d := d + 1) (M := mX3_flow) (pc := 6) (As := [.ref 6, .int x3]) (st := []) (c := 3) (ls' := [.ref 3, .ref 6, .int x3, .null]) dX3_flow_6 oX3_leaveRoom nX3_leaveRoom lX3_33 vX3_leaveRoom sX3_leaveRoom rfl sh3 (Nat.le_of_ble_eq_true rfl) rfl (Nat.le_of_ble_eq_true rfl) rfl ?_
  exact p1
theorem bX3_flow_9 {G : GC} {d : Nat} {sw : Bool} {f : FF} {Q : QQ} {x1 : Int32} {x2 : Int32} {x3 : Int32} {v4 : Value} {v5 : Value} (p1 : XP G mX3_flow (d + 2) 15 [.ref 3, .int x1, .int x2, .int x3, .int 0, .int 0] [] sw f Q) : XP G mX3_flow (d + 2) 9 [.ref 3, .int x1, .int x2, .int x3, v4, v5] [] sw f Q := by
  refine wp_iconst (M := mX3_flow) (pc := 9) dX3_flow_9 k_iconst_0 ?_
  refine wp_istore (M := mX3_flow) (pc := 10) (ls' := [.ref 3, .int x1, .int x2, .int x3, .int 0, v5]) dX3_flow_10 (by decide) rfl ?_
  refine wp_iconst (M := mX3_flow) (pc := 12) dX3_flow_12 k_iconst_0 ?_
  refine wp_istore (M := mX3_flow) (pc := 13) (ls' := [.ref 3, .int x1, .int x2, .int x3, .int 0, .int 0]) dX3_flow_13 (by decide) rfl ?_
  exact p1
theorem bX3_flow_15 {G : GC} {d : Nat} {sw : Bool} {f : FF} {Q : QQ} {x1 : Int32} {x2 : Int32} {x3 : Int32} {x4 : Int32} {x5 : Int32} (p1 : (72 ≤ x5) → Q (some (.int x4)) sw f) (p2 : (¬ 72 ≤ x5) → XP G mX3_spread (d + 1) 0 [.ref 3, .int x1, .null, .null, .null, .null] [] sw f (fun v sw' f' => XP G mX3_flow (d + 2) 27 [.ref 3, .int x1, .int x2, .int x3, .int x4, .int x5] (retst v []) sw' f' Q)) : XP G mX3_flow (d + 2) 15 [.ref 3, .int x1, .int x2, .int x3, .int x4, .int x5] [] sw f Q := by
  refine wp_iload (M := mX3_flow) (pc := 15) dX3_flow_15 rfl ?_
  refine wp_bipush (M := mX3_flow) (pc := 17) dX3_flow_17 k_bipush_72 ?_
  refine wp_icmp_ge (M := mX3_flow) (pc := 19) (t := 57) dX3_flow_19 (by decide) (fun c1 => ?_) (fun c1 => ?_)
  · refine wp_iload (M := mX3_flow) (pc := 57) dX3_flow_57 rfl ?_
    exact xs_iret (M := mX3_flow) (pc := 59) dX3_flow_59 rfl (p1 c1)
  · refine wp_aload_n (M := mX3_flow) (pc := 22) dX3_flow_22 rfl rfl ?_
    refine wp_iload_n (M := mX3_flow) (pc := 23) dX3_flow_23 rfl rfl ?_
    refine xs_callV (d := d + 1) (M := mX3_flow) (pc := 24) (As := [.int x1]) (st := []) (c := 3) (ls' := [.ref 3, .int x1, .null, .null, .null, .null]) dX3_flow_24 oX3_spread nX3_spread lX3_37 vX3_spread sX3_spread rfl sh3 (Nat.le_of_ble_eq_true rfl) rfl (Nat.le_of_ble_eq_true rfl) rfl ?_
    exact p2 c1
theorem bX3_flow_27 {G : GC} {d : Nat} {sw : Bool} {f : FF} {Q : QQ} {x1 : Int32} {x2 : Int32} {x3 : Int32} {x4 : Int32} {x5 : Int32} {s0 : Int32} (p1 : vp_in x2 8) (p2 : (¬ (f 8 x2.toNatClampNeg) = (-1)) → XP G mX3_push (d + 1) 0 [.ref 3, .int x2, .null, .null, .null] [] sw f (fun v sw' f' => XP G mX3_flow (d + 2) 48 [.ref 3, .int x1, .int x2, .int x3, .int x4, .int x5] (retst v [.int x4]) sw' f' Q)) (p3 : ((f 8 x2.toNatClampNeg) = (-1)) → Q (some (.int x4)) sw f) : XP G mX3_flow (d + 2) 27 [.ref 3, .int x1, .int x2, .int x3, .int x4, .int x5] [.int s0] sw f Q := by
  refine wp_pop (M := mX3_flow) (pc := 27) dX3_flow_27 ?_
  refine wp_aload_n (M := mX3_flow) (pc := 28) dX3_flow_28 rfl rfl ?_
  refine xs_getr (M := mX3_flow) (pc := 29) (r := 8) dX3_flow_29 fX3_24 sh3 rfl (gr3_4 sw) ?_
  refine wp_iload_n (M := mX3_flow) (pc := 32) dX3_flow_32 rfl rfl ?_
  refine xs_iald (M := mX3_flow) (pc := 33) (j := x2.toNatClampNeg) dX3_flow_33 sh8 (p1) rfl ?_
  refine wp_iconst (M := mX3_flow) (pc := 34) dX3_flow_34 k_iconst_m1 ?_
  refine wp_icmp_ne (M := mX3_flow) (pc := 35) (t := 41) dX3_flow_35 (by decide) (fun c1 => ?_) (fun c1 => ?_)
  · refine wp_iload (M := mX3_flow) (pc := 41) dX3_flow_41 rfl ?_
    refine wp_aload_n (M := mX3_flow) (pc := 43) dX3_flow_43 rfl rfl ?_
    refine wp_iload_n (M := mX3_flow) (pc := 44) dX3_flow_44 rfl rfl ?_
    refine xs_callV (d := d + 1) (M := mX3_flow) (pc := 45) (As := [.int x2]) (st := [.int x4]) (c := 3) (ls' := [.ref 3, .int x2, .null, .null, .null]) dX3_flow_45 oX3_push nX3_push lX3_44 vX3_push sX3_push rfl sh3 (Nat.le_of_ble_eq_true rfl) rfl (Nat.le_of_ble_eq_true rfl) rfl ?_
    exact p2 c1
  · refine wp_iload (M := mX3_flow) (pc := 38) dX3_flow_38 rfl ?_
    exact xs_iret (M := mX3_flow) (pc := 40) dX3_flow_40 rfl (p3 c1)
theorem bX3_flow_48 {G : GC} {d : Nat} {sw : Bool} {f : FF} {Q : QQ} {x1 : Int32} {x2 : Int32} {x3 : Int32} {x4 : Int32} {x5 : Int32} {s0 : Int32} {s1 : Int32} (p1 : XP G mX3_flow (d + 2) 15 [.ref 3, .int x1, .int x2, .int x3, .int (s1 + s0), .int (x5 + 1)] [] sw f Q) : XP G mX3_flow (d + 2) 48 [.ref 3, .int x1, .int x2, .int x3, .int x4, .int x5] [.int s0, .int s1] sw f Q := by
  refine wp_iadd (M := mX3_flow) (pc := 48) dX3_flow_48 ?_
  refine wp_istore (M := mX3_flow) (pc := 49) (ls' := [.ref 3, .int x1, .int x2, .int x3, .int (s1 + s0), .int x5]) dX3_flow_49 (by decide) rfl ?_
  refine wp_iinc (M := mX3_flow) (pc := 51) (v := x5 + 1) (ls' := [.ref 3, .int x1, .int x2, .int x3, .int (s1 + s0), .int (x5 + 1)]) dX3_flow_51 rfl (congrArg (fun z => _ + z) k_iconst_1) (by decide) rfl ?_
  refine wp_goto (M := mX3_flow) (pc := 54) (t := 15) dX3_flow_54 (by decide) ?_
  exact p1
theorem bX3_push_0 {G : GC} {d : Nat} {sw : Bool} {f : FF} {Q : QQ} {x1 : Int32} (p1 : XP G mX3_push (d) 8 [.ref 3, .int x1, .int 72, .int x1, .int 0] [] sw f Q) : XP G mX3_push (d) 0 [.ref 3, .int x1, .null, .null, .null] [] sw f Q := by
  refine wp_bipush (M := mX3_push) (pc := 0) dX3_push_0 k_bipush_72 ?_
  refine wp_istore_n (M := mX3_push) (pc := 2) (ls' := [.ref 3, .int x1, .int 72, .null, .null]) dX3_push_2 rfl (by decide) rfl ?_
  refine wp_iload_n (M := mX3_push) (pc := 3) dX3_push_3 rfl rfl ?_
  refine wp_istore_n (M := mX3_push) (pc := 4) (ls' := [.ref 3, .int x1, .int 72, .int x1, .null]) dX3_push_4 rfl (by decide) rfl ?_
  refine wp_iconst (M := mX3_push) (pc := 5) dX3_push_5 k_iconst_0 ?_
  refine wp_istore (M := mX3_push) (pc := 6) (ls' := [.ref 3, .int x1, .int 72, .int x1, .int 0]) dX3_push_6 (by decide) rfl ?_
  exact p1
theorem bX3_push_8 {G : GC} {d : Nat} {sw : Bool} {f : FF} {Q : QQ} {x1 : Int32} {x2 : Int32} {x3 : Int32} {x4 : Int32} (p1 : vp_in x1 8) (p2 : ((f 8 x1.toNatClampNeg) ≤ x4) → XP G mX3_push (d) 58 [.ref 3, .int x1, .int x2, .int x1, .int 0] [] sw f Q) (p3 : (¬ (f 8 x1.toNatClampNeg) ≤ x4) → vp_in x3 8) (p4 : (¬ (f 8 x1.toNatClampNeg) ≤ x4) → vp_in (((f 9 x3.toNatClampNeg) * 8) + x3) 64) (p5 : (¬ (f 8 x1.toNatClampNeg) ≤ x4) → vp_in x3 8) (p6 : (¬ (f 8 x1.toNatClampNeg) ≤ x4) → XP G mX3_push (d) 8 [.ref 3, .int x1, .int (if (f 7 ((((f 9 x3.toNatClampNeg) * 8) + x3).toNatClampNeg)) < x2 then (f 7 ((((f 9 x3.toNatClampNeg) * 8) + x3).toNatClampNeg)) else x2), .int (f 9 x3.toNatClampNeg), .int (x4 + 1)] [] sw f Q) : XP G mX3_push (d) 8 [.ref 3, .int x1, .int x2, .int x3, .int x4] [] sw f Q := by
  refine wp_iload (M := mX3_push) (pc := 8) dX3_push_8 rfl ?_
  refine wp_aload_n (M := mX3_push) (pc := 10) dX3_push_10 rfl rfl ?_
  refine xs_getr (M := mX3_push) (pc := 11) (r := 8) dX3_push_11 fX3_24 sh3 rfl (gr3_4 sw) ?_
  refine wp_iload_n (M := mX3_push) (pc := 14) dX3_push_14 rfl rfl ?_
  refine xs_iald (M := mX3_push) (pc := 15) (j := x1.toNatClampNeg) dX3_push_15 sh8 (p1) rfl ?_
  refine wp_icmp_ge (M := mX3_push) (pc := 16) (t := 53) dX3_push_16 (by decide) (fun c1 => ?_) (fun c1 => ?_)
  · refine wp_iload_n (M := mX3_push) (pc := 53) dX3_push_53 rfl rfl ?_
    refine wp_istore_n (M := mX3_push) (pc := 54) (ls' := [.ref 3, .int x1, .int x2, .int x1, .int x4]) dX3_push_54 rfl (by decide) rfl ?_
    refine wp_iconst (M := mX3_push) (pc := 55) dX3_push_55 k_iconst_0 ?_
    refine wp_istore (M := mX3_push) (pc := 56) (ls' := [.ref 3, .int x1, .int x2, .int x1, .int 0]) dX3_push_56 (by decide) rfl ?_
    exact p2 c1
  · refine wp_iload_n (M := mX3_push) (pc := 19) dX3_push_19 rfl rfl ?_
    refine wp_aload_n (M := mX3_push) (pc := 20) dX3_push_20 rfl rfl ?_
    refine xs_getr (M := mX3_push) (pc := 21) (r := 7) dX3_push_21 fX3_21 sh3 rfl (gr3_3 sw) ?_
    refine wp_aload_n (M := mX3_push) (pc := 24) dX3_push_24 rfl rfl ?_
    refine xs_getr (M := mX3_push) (pc := 25) (r := 9) dX3_push_25 fX3_27 sh3 rfl (gr3_5 sw) ?_
    refine wp_iload_n (M := mX3_push) (pc := 28) dX3_push_28 rfl rfl ?_
    refine xs_iald (M := mX3_push) (pc := 29) (j := x3.toNatClampNeg) dX3_push_29 sh9 (p3 c1) rfl ?_
    refine wp_bipush (M := mX3_push) (pc := 30) dX3_push_30 k_bipush_8 ?_
    refine wp_imul (M := mX3_push) (pc := 32) dX3_push_32 ?_
    refine wp_iload_n (M := mX3_push) (pc := 33) dX3_push_33 rfl rfl ?_
    refine wp_iadd (M := mX3_push) (pc := 34) dX3_push_34 ?_
    refine xs_iald (M := mX3_push) (pc := 35) (j := (((f 9 x3.toNatClampNeg) * 8) + x3).toNatClampNeg) dX3_push_35 sh7 (p4 c1) rfl ?_
    refine xs_mmin (M := mX3_push) (pc := 36) dX3_push_36 lX3_56 (Nat.le_of_ble_eq_true rfl) ?_
    refine wp_istore_n (M := mX3_push) (pc := 39) (ls' := [.ref 3, .int x1, .int (if (f 7 ((((f 9 x3.toNatClampNeg) * 8) + x3).toNatClampNeg)) < x2 then (f 7 ((((f 9 x3.toNatClampNeg) * 8) + x3).toNatClampNeg)) else x2), .int x3, .int x4]) dX3_push_39 rfl (by decide) rfl ?_
    refine wp_aload_n (M := mX3_push) (pc := 40) dX3_push_40 rfl rfl ?_
    refine xs_getr (M := mX3_push) (pc := 41) (r := 9) dX3_push_41 fX3_27 sh3 rfl (gr3_5 sw) ?_
    refine wp_iload_n (M := mX3_push) (pc := 44) dX3_push_44 rfl rfl ?_
    refine xs_iald (M := mX3_push) (pc := 45) (j := x3.toNatClampNeg) dX3_push_45 sh9 (p5 c1) rfl ?_
    refine wp_istore_n (M := mX3_push) (pc := 46) (ls' := [.ref 3, .int x1, .int (if (f 7 ((((f 9 x3.toNatClampNeg) * 8) + x3).toNatClampNeg)) < x2 then (f 7 ((((f 9 x3.toNatClampNeg) * 8) + x3).toNatClampNeg)) else x2), .int (f 9 x3.toNatClampNeg), .int x4]) dX3_push_46 rfl (by decide) rfl ?_
    refine wp_iinc (M := mX3_push) (pc := 47) (v := x4 + 1) (ls' := [.ref 3, .int x1, .int (if (f 7 ((((f 9 x3.toNatClampNeg) * 8) + x3).toNatClampNeg)) < x2 then (f 7 ((((f 9 x3.toNatClampNeg) * 8) + x3).toNatClampNeg)) else x2), .int (f 9 x3.toNatClampNeg), .int (x4 + 1)]) dX3_push_47 rfl (congrArg (fun z => _ + z) k_iconst_1) (by decide) rfl ?_
    refine wp_goto (M := mX3_push) (pc := 50) (t := 8) dX3_push_50 (by decide) ?_
    exact p6 c1
theorem bX3_push_58 {G : GC} {d : Nat} {sw : Bool} {f : FF} {Q : QQ} {x1 : Int32} {x2 : Int32} {x3 : Int32} {x4 : Int32} (p1 : vp_in x1 8) (p2 : ((f 8 x1.toNatClampNeg) ≤ x4) → Q (some (.int x2)) sw f) (p3 : (¬ (f 8 x1.toNatClampNeg) ≤ x4) → vp_in x3 8) (p4 : (¬ (f 8 x1.toNatClampNeg) ≤ x4) → vp_in (((f 9 x3.toNatClampNeg) * 8) + x3) 64) (p5 : (¬ (f 8 x1.toNatClampNeg) ≤ x4) → vp_in (((f 9 x3.toNatClampNeg) * 8) + x3) 64) (p6 : (¬ (f 8 x1.toNatClampNeg) ≤ x4) → vp_in x3 8) (p7 : (¬ (f 8 x1.toNatClampNeg) ≤ x4) → vp_in ((x3 * 8) + ((upd2 f 7 ((((f 9 x3.toNatClampNeg) * 8) + x3).toNatClampNeg) ((f 7 ((((f 9 x3.toNatClampNeg) * 8) + x3).toNatClampNeg)) - x2)) 9 x3.toNatClampNeg)) 64) (p8 : (¬ (f 8 x1.toNatClampNeg) ≤ x4) → vp_in ((x3 * 8) + ((upd2 f 7 ((((f 9 x3.toNatClampNeg) * 8) + x3).toNatClampNeg) ((f 7 ((((f 9 x3.toNatClampNeg) * 8) + x3).toNatClampNeg)) - x2)) 9 x3.toNatClampNeg)) 64) (p9 : (¬ (f 8 x1.toNatClampNeg) ≤ x4) → vp_in x3 8) (p10 : (¬ (f 8 x1.toNatClampNeg) ≤ x4) → XP G mX3_push (d) 58 [.ref 3, .int x1, .int x2, .int ((upd2 (upd2 f 7 ((((f 9 x3.toNatClampNeg) * 8) + x3).toNatClampNeg) ((f 7 ((((f 9 x3.toNatClampNeg) * 8) + x3).toNatClampNeg)) - x2)) 7 (((x3 * 8) + ((upd2 f 7 ((((f 9 x3.toNatClampNeg) * 8) + x3).toNatClampNeg) ((f 7 ((((f 9 x3.toNatClampNeg) * 8) + x3).toNatClampNeg)) - x2)) 9 x3.toNatClampNeg)).toNatClampNeg) (((upd2 f 7 ((((f 9 x3.toNatClampNeg) * 8) + x3).toNatClampNeg) ((f 7 ((((f 9 x3.toNatClampNeg) * 8) + x3).toNatClampNeg)) - x2)) 7 (((x3 * 8) + ((upd2 f 7 ((((f 9 x3.toNatClampNeg) * 8) + x3).toNatClampNeg) ((f 7 ((((f 9 x3.toNatClampNeg) * 8) + x3).toNatClampNeg)) - x2)) 9 x3.toNatClampNeg)).toNatClampNeg)) + x2)) 9 x3.toNatClampNeg), .int (x4 + 1)] [] sw (upd2 (upd2 f 7 ((((f 9 x3.toNatClampNeg) * 8) + x3).toNatClampNeg) ((f 7 ((((f 9 x3.toNatClampNeg) * 8) + x3).toNatClampNeg)) - x2)) 7 (((x3 * 8) + ((upd2 f 7 ((((f 9 x3.toNatClampNeg) * 8) + x3).toNatClampNeg) ((f 7 ((((f 9 x3.toNatClampNeg) * 8) + x3).toNatClampNeg)) - x2)) 9 x3.toNatClampNeg)).toNatClampNeg) (((upd2 f 7 ((((f 9 x3.toNatClampNeg) * 8) + x3).toNatClampNeg) ((f 7 ((((f 9 x3.toNatClampNeg) * 8) + x3).toNatClampNeg)) - x2)) 7 (((x3 * 8) + ((upd2 f 7 ((((f 9 x3.toNatClampNeg) * 8) + x3).toNatClampNeg) ((f 7 ((((f 9 x3.toNatClampNeg) * 8) + x3).toNatClampNeg)) - x2)) 9 x3.toNatClampNeg)).toNatClampNeg)) + x2)) Q) : XP G mX3_push (d) 58 [.ref 3, .int x1, .int x2, .int x3, .int x4] [] sw f Q := by
  refine wp_iload (M := mX3_push) (pc := 58) dX3_push_58 rfl ?_
  refine wp_aload_n (M := mX3_push) (pc := 60) dX3_push_60 rfl rfl ?_
  refine xs_getr (M := mX3_push) (pc := 61) (r := 8) dX3_push_61 fX3_24 sh3 rfl (gr3_4 sw) ?_
  refine wp_iload_n (M := mX3_push) (pc := 64) dX3_push_64 rfl rfl ?_
  refine xs_iald (M := mX3_push) (pc := 65) (j := x1.toNatClampNeg) dX3_push_65 sh8 (p1) rfl ?_
  refine wp_icmp_ge (M := mX3_push) (pc := 66) (t := 122) dX3_push_66 (by decide) (fun c1 => ?_) (fun c1 => ?_)
  · refine wp_iload_n (M := mX3_push) (pc := 122) dX3_push_122 rfl rfl ?_
    exact xs_iret (M := mX3_push) (pc := 123) dX3_push_123 rfl (p2 c1)
  · refine wp_aload_n (M := mX3_push) (pc := 69) dX3_push_69 rfl rfl ?_
    refine xs_getr (M := mX3_push) (pc := 70) (r := 7) dX3_push_70 fX3_21 sh3 rfl (gr3_3 sw) ?_
    refine wp_aload_n (M := mX3_push) (pc := 73) dX3_push_73 rfl rfl ?_
    refine xs_getr (M := mX3_push) (pc := 74) (r := 9) dX3_push_74 fX3_27 sh3 rfl (gr3_5 sw) ?_
    refine wp_iload_n (M := mX3_push) (pc := 77) dX3_push_77 rfl rfl ?_
    refine xs_iald (M := mX3_push) (pc := 78) (j := x3.toNatClampNeg) dX3_push_78 sh9 (p3 c1) rfl ?_
    refine wp_bipush (M := mX3_push) (pc := 79) dX3_push_79 k_bipush_8 ?_
    refine wp_imul (M := mX3_push) (pc := 81) dX3_push_81 ?_
    refine wp_iload_n (M := mX3_push) (pc := 82) dX3_push_82 rfl rfl ?_
    refine wp_iadd (M := mX3_push) (pc := 83) dX3_push_83 ?_
    refine wp_dup2 (M := mX3_push) (pc := 84) dX3_push_84 ?_
    refine xs_iald (M := mX3_push) (pc := 85) (j := (((f 9 x3.toNatClampNeg) * 8) + x3).toNatClampNeg) dX3_push_85 sh7 (p4 c1) rfl ?_
    refine wp_iload_n (M := mX3_push) (pc := 86) dX3_push_86 rfl rfl ?_
    refine wp_isub (M := mX3_push) (pc := 87) dX3_push_87 ?_
    refine xs_iast (M := mX3_push) (pc := 88) (j := (((f 9 x3.toNatClampNeg) * 8) + x3).toNatClampNeg) dX3_push_88 sh7 (p5 c1) rfl ?_
    refine wp_aload_n (M := mX3_push) (pc := 89) dX3_push_89 rfl rfl ?_
    refine xs_getr (M := mX3_push) (pc := 90) (r := 7) dX3_push_90 fX3_21 sh3 rfl (gr3_3 sw) ?_
    refine wp_iload_n (M := mX3_push) (pc := 93) dX3_push_93 rfl rfl ?_
    refine wp_bipush (M := mX3_push) (pc := 94) dX3_push_94 k_bipush_8 ?_
    refine wp_imul (M := mX3_push) (pc := 96) dX3_push_96 ?_
    refine wp_aload_n (M := mX3_push) (pc := 97) dX3_push_97 rfl rfl ?_
    refine xs_getr (M := mX3_push) (pc := 98) (r := 9) dX3_push_98 fX3_27 sh3 rfl (gr3_5 sw) ?_
    refine wp_iload_n (M := mX3_push) (pc := 101) dX3_push_101 rfl rfl ?_
    refine xs_iald (M := mX3_push) (pc := 102) (j := x3.toNatClampNeg) dX3_push_102 sh9 (p6 c1) rfl ?_
    refine wp_iadd (M := mX3_push) (pc := 103) dX3_push_103 ?_
    refine wp_dup2 (M := mX3_push) (pc := 104) dX3_push_104 ?_
    refine xs_iald (M := mX3_push) (pc := 105) (j := ((x3 * 8) + ((upd2 f 7 ((((f 9 x3.toNatClampNeg) * 8) + x3).toNatClampNeg) ((f 7 ((((f 9 x3.toNatClampNeg) * 8) + x3).toNatClampNeg)) - x2)) 9 x3.toNatClampNeg)).toNatClampNeg) dX3_push_105 sh7 (p7 c1) rfl ?_
    refine wp_iload_n (M := mX3_push) (pc := 106) dX3_push_106 rfl rfl ?_
    refine wp_iadd (M := mX3_push) (pc := 107) dX3_push_107 ?_
    refine xs_iast (M := mX3_push) (pc := 108) (j := ((x3 * 8) + ((upd2 f 7 ((((f 9 x3.toNatClampNeg) * 8) + x3).toNatClampNeg) ((f 7 ((((f 9 x3.toNatClampNeg) * 8) + x3).toNatClampNeg)) - x2)) 9 x3.toNatClampNeg)).toNatClampNeg) dX3_push_108 sh7 (p8 c1) rfl ?_
    refine wp_aload_n (M := mX3_push) (pc := 109) dX3_push_109 rfl rfl ?_
    refine xs_getr (M := mX3_push) (pc := 110) (r := 9) dX3_push_110 fX3_27 sh3 rfl (gr3_5 sw) ?_
    refine wp_iload_n (M := mX3_push) (pc := 113) dX3_push_113 rfl rfl ?_
    refine xs_iald (M := mX3_push) (pc := 114) (j := x3.toNatClampNeg) dX3_push_114 sh9 (p9 c1) rfl ?_
    refine wp_istore_n (M := mX3_push) (pc := 115) (ls' := [.ref 3, .int x1, .int x2, .int ((upd2 (upd2 f 7 ((((f 9 x3.toNatClampNeg) * 8) + x3).toNatClampNeg) ((f 7 ((((f 9 x3.toNatClampNeg) * 8) + x3).toNatClampNeg)) - x2)) 7 (((x3 * 8) + ((upd2 f 7 ((((f 9 x3.toNatClampNeg) * 8) + x3).toNatClampNeg) ((f 7 ((((f 9 x3.toNatClampNeg) * 8) + x3).toNatClampNeg)) - x2)) 9 x3.toNatClampNeg)).toNatClampNeg) (((upd2 f 7 ((((f 9 x3.toNatClampNeg) * 8) + x3).toNatClampNeg) ((f 7 ((((f 9 x3.toNatClampNeg) * 8) + x3).toNatClampNeg)) - x2)) 7 (((x3 * 8) + ((upd2 f 7 ((((f 9 x3.toNatClampNeg) * 8) + x3).toNatClampNeg) ((f 7 ((((f 9 x3.toNatClampNeg) * 8) + x3).toNatClampNeg)) - x2)) 9 x3.toNatClampNeg)).toNatClampNeg)) + x2)) 9 x3.toNatClampNeg), .int x4]) dX3_push_115 rfl (by decide) rfl ?_
    refine wp_iinc (M := mX3_push) (pc := 116) (v := x4 + 1) (ls' := [.ref 3, .int x1, .int x2, .int ((upd2 (upd2 f 7 ((((f 9 x3.toNatClampNeg) * 8) + x3).toNatClampNeg) ((f 7 ((((f 9 x3.toNatClampNeg) * 8) + x3).toNatClampNeg)) - x2)) 7 (((x3 * 8) + ((upd2 f 7 ((((f 9 x3.toNatClampNeg) * 8) + x3).toNatClampNeg) ((f 7 ((((f 9 x3.toNatClampNeg) * 8) + x3).toNatClampNeg)) - x2)) 9 x3.toNatClampNeg)).toNatClampNeg) (((upd2 f 7 ((((f 9 x3.toNatClampNeg) * 8) + x3).toNatClampNeg) ((f 7 ((((f 9 x3.toNatClampNeg) * 8) + x3).toNatClampNeg)) - x2)) 7 (((x3 * 8) + ((upd2 f 7 ((((f 9 x3.toNatClampNeg) * 8) + x3).toNatClampNeg) ((f 7 ((((f 9 x3.toNatClampNeg) * 8) + x3).toNatClampNeg)) - x2)) 9 x3.toNatClampNeg)).toNatClampNeg)) + x2)) 9 x3.toNatClampNeg), .int (x4 + 1)]) dX3_push_116 rfl (congrArg (fun z => _ + z) k_iconst_1) (by decide) rfl ?_
    refine wp_goto (M := mX3_push) (pc := 119) (t := 58) dX3_push_119 (by decide) ?_
    exact p10 c1
theorem bX3_middle_0 {G : GC} {d : Nat} {sw : Bool} {f : FF} {Q : QQ}  (p1 : XP G mX3_leaveRoom (d + 1) 0 [.ref 3, .ref 6, .int 9, .null] [] sw f (fun v sw' f' => XP G mX3_middle (d + 2) 10 [.ref 3, .null, .null, .null, .null, .null, .null, .null] (retst v []) sw' f' Q)) : XP G mX3_middle (d + 2) 0 [.ref 3, .null, .null, .null, .null, .null, .null, .null] [] sw f Q := by
  refine wp_aload_n (M := mX3_middle) (pc := 0) dX3_middle_0 rfl rfl ?_
  refine wp_aload_n (M := mX3_middle) (pc := 1) dX3_middle_1 rfl rfl ?_
  refine xs_getr (M := mX3_middle) (pc := 2) (r := 6) dX3_middle_2 fX3_18 sh3 rfl (gr3_2 sw) ?_
  refine wp_bipush (M := mX3_middle) (pc := 5) dX3_middle_5 k_bipush_9 ?_
  refine xs_callV (d := d + 1) (M := mX3_middle) (pc := 7) (As := [.ref 6, .int 9]) (st := []) (c := 3) (ls' := [.ref 3, .ref 6, .int 9, .null]) dX3_middle_7 oX3_leaveRoom nX3_leaveRoom lX3_33 vX3_leaveRoom sX3_leaveRoom rfl sh3 (Nat.le_of_ble_eq_true rfl) rfl (Nat.le_of_ble_eq_true rfl) rfl ?_
  exact p1
theorem bX3_middle_10 {G : GC} {d : Nat} {sw : Bool} {f : FF} {Q : QQ} {v1 : Value} {v2 : Value} {v3 : Value} {v4 : Value} {v5 : Value} {v6 : Value} {v7 : Value} (p1 : XP G mX3_middle (d + 2) 19 [.ref 3, .int 0, .int 0, .int 0, .int 0, v5, v6, v7] [] sw f Q) : XP G mX3_middle (d + 2) 10 [.ref 3, v1, v2, v3, v4, v5, v6, v7] [] sw f Q := by
  refine wp_iconst (M := mX3_middle) (pc := 10) dX3_middle_10 k_iconst_0 ?_
  refine wp_istore_n (M := mX3_middle) (pc := 11) (ls' := [.ref 3, .int 0, v2, v3, v4, v5, v6, v7]) dX3_middle_11 rfl (by decide) rfl ?_
  refine wp_iconst (M := mX3_middle) (pc := 12) dX3_middle_12 k_iconst_0 ?_
  refine wp_istore_n (M := mX3_middle) (pc := 13) (ls' := [.ref 3, .int 0, .int 0, v3, v4, v5, v6, v7]) dX3_middle_13 rfl (by decide) rfl ?_
  refine wp_iconst (M := mX3_middle) (pc := 14) dX3_middle_14 k_iconst_0 ?_
  refine wp_istore_n (M := mX3_middle) (pc := 15) (ls' := [.ref 3, .int 0, .int 0, .int 0, v4, v5, v6, v7]) dX3_middle_15 rfl (by decide) rfl ?_
  refine wp_iconst (M := mX3_middle) (pc := 16) dX3_middle_16 k_iconst_0 ?_
  refine wp_istore (M := mX3_middle) (pc := 17) (ls' := [.ref 3, .int 0, .int 0, .int 0, .int 0, v5, v6, v7]) dX3_middle_17 (by decide) rfl ?_
  exact p1
theorem bX3_middle_19 {G : GC} {d : Nat} {sw : Bool} {f : FF} {Q : QQ} {x1 : Int32} {x2 : Int32} {x3 : Int32} {x4 : Int32} {v5 : Value} {v6 : Value} {v7 : Value} (p1 : (8 ≤ x4) → Q (some (.int x1)) sw f) (p2 : (¬ 8 ≤ x4) → XP G mX3_spread (d + 1) 0 [.ref 3, .int x4, .null, .null, .null, .null] [] sw f (fun v sw' f' => XP G mX3_middle (d + 2) 32 [.ref 3, .int x1, .int x2, .int x3, .int x4, v5, v6, v7] (retst v []) sw' f' Q)) : XP G mX3_middle (d + 2) 19 [.ref 3, .int x1, .int x2, .int x3, .int x4, v5, v6, v7] [] sw f Q := by
  refine wp_iload (M := mX3_middle) (pc := 19) dX3_middle_19 rfl ?_
  refine wp_bipush (M := mX3_middle) (pc := 21) dX3_middle_21 k_bipush_8 ?_
  refine wp_icmp_ge (M := mX3_middle) (pc := 23) (t := 102) dX3_middle_23 (by decide) (fun c1 => ?_) (fun c1 => ?_)
  · refine wp_iload_n (M := mX3_middle) (pc := 102) dX3_middle_102 rfl rfl ?_
    exact xs_iret (M := mX3_middle) (pc := 103) dX3_middle_103 rfl (p1 c1)
  · refine wp_aload_n (M := mX3_middle) (pc := 26) dX3_middle_26 rfl rfl ?_
    refine wp_iload (M := mX3_middle) (pc := 27) dX3_middle_27 rfl ?_
    refine xs_callV (d := d + 1) (M := mX3_middle) (pc := 29) (As := [.int x4]) (st := []) (c := 3) (ls' := [.ref 3, .int x4, .null, .null, .null, .null]) dX3_middle_29 oX3_spread nX3_spread lX3_37 vX3_spread sX3_spread rfl sh3 (Nat.le_of_ble_eq_true rfl) rfl (Nat.le_of_ble_eq_true rfl) rfl ?_
    exact p2 c1
theorem bX3_middle_32 {G : GC} {d : Nat} {sw : Bool} {f : FF} {Q : QQ} {x1 : Int32} {x2 : Int32} {x3 : Int32} {x4 : Int32} {v5 : Value} {v6 : Value} {v7 : Value} {s0 : Int32} (p1 : XP G mX3_middle (d + 2) 40 [.ref 3, .int x1, .int x2, .int x3, .int x4, .int s0, .int 0, .int 0] [] sw f Q) : XP G mX3_middle (d + 2) 32 [.ref 3, .int x1, .int x2, .int x3, .int x4, v5, v6, v7] [.int s0] sw f Q := by
  refine wp_istore (M := mX3_middle) (pc := 32) (ls' := [.ref 3, .int x1, .int x2, .int x3, .int x4, .int s0, v6, v7]) dX3_middle_32 (by decide) rfl ?_
  refine wp_iconst (M := mX3_middle) (pc := 34) dX3_middle_34 k_iconst_0 ?_
  refine wp_istore (M := mX3_middle) (pc := 35) (ls' := [.ref 3, .int x1, .int x2, .int x3, .int x4, .int s0, .int 0, v7]) dX3_middle_35 (by decide) rfl ?_
  refine wp_iconst (M := mX3_middle) (pc := 37) dX3_middle_37 k_iconst_0 ?_
  refine wp_istore (M := mX3_middle) (pc := 38) (ls' := [.ref 3, .int x1, .int x2, .int x3, .int x4, .int s0, .int 0, .int 0]) dX3_middle_38 (by decide) rfl ?_
  exact p1
theorem bX3_middle_40 {G : GC} {d : Nat} {sw : Bool} {f : FF} {Q : QQ} {x1 : Int32} {x2 : Int32} {x3 : Int32} {x4 : Int32} {x5 : Int32} {x6 : Int32} {x7 : Int32} (p1 : (8 ≤ x7) → (x2 < x5) → XP G mX3_middle (d + 2) 19 [.ref 3, .int x4, .int x5, .int x6, .int (x4 + 1), .int x5, .int x6, .int x7] [] sw f Q) (p2 : (8 ≤ x7) → (¬ x2 < x5) → (¬ x5 = x2) → XP G mX3_middle (d + 2) 19 [.ref 3, .int x1, .int x2, .int x3, .int (x4 + 1), .int x5, .int x6, .int x7] [] sw f Q) (p3 : (8 ≤ x7) → (¬ x2 < x5) → (x5 = x2) → (x3 ≤ x6) → XP G mX3_middle (d + 2) 19 [.ref 3, .int x1, .int x2, .int x3, .int (x4 + 1), .int x5, .int x6, .int x7] [] sw f Q) (p4 : (8 ≤ x7) → (¬ x2 < x5) → (x5 = x2) → (¬ x3 ≤ x6) → XP G mX3_middle (d + 2) 19 [.ref 3, .int x4, .int x5, .int x6, .int (x4 + 1), .int x5, .int x6, .int x7] [] sw f Q) (p5 : (¬ 8 ≤ x7) → vp_in x7 8) (p6 : (¬ 8 ≤ x7) → XP G mX3_middle (d + 2) 40 [.ref 3, .int x1, .int x2, .int x3, .int x4, .int x5, .int (x6 + (if 0 < (f 8 x7.toNatClampNeg) then (f 8 x7.toNatClampNeg) else 0)), .int (x7 + 1)] [] sw f Q) : XP G mX3_middle (d + 2) 40 [.ref 3, .int x1, .int x2, .int x3, .int x4, .int x5, .int x6, .int x7] [] sw f Q := by
  refine wp_iload (M := mX3_middle) (pc := 40) dX3_middle_40 rfl ?_
  refine wp_bipush (M := mX3_middle) (pc := 42) dX3_middle_42 k_bipush_8 ?_
  refine wp_icmp_ge (M := mX3_middle) (pc := 44) (t := 69) dX3_middle_44 (by decide) (fun c1 => ?_) (fun c1 => ?_)
  · refine wp_iload (M := mX3_middle) (pc := 69) dX3_middle_69 rfl ?_
    refine wp_iload_n (M := mX3_middle) (pc := 71) dX3_middle_71 rfl rfl ?_
    refine wp_icmp_gt (M := mX3_middle) (pc := 72) (t := 87) dX3_middle_72 (by decide) (fun c2 => ?_) (fun c2 => ?_)
    · refine wp_iload (M := mX3_middle) (pc := 87) dX3_middle_87 rfl ?_
      refine wp_istore_n (M := mX3_middle) (pc := 89) (ls' := [.ref 3, .int x4, .int x2, .int x3, .int x4, .int x5, .int x6, .int x7]) dX3_middle_89 rfl (by decide) rfl ?_
      refine wp_iload (M := mX3_middle) (pc := 90) dX3_middle_90 rfl ?_
      refine wp_istore_n (M := mX3_middle) (pc := 92) (ls' := [.ref 3, .int x4, .int x5, .int x3, .int x4, .int x5, .int x6, .int x7]) dX3_middle_92 rfl (by decide) rfl ?_
      refine wp_iload (M := mX3_middle) (pc := 93) dX3_middle_93 rfl ?_
      refine wp_istore_n (M := mX3_middle) (pc := 95) (ls' := [.ref 3, .int x4, .int x5, .int x6, .int x4, .int x5, .int x6, .int x7]) dX3_middle_95 rfl (by decide) rfl ?_
      refine wp_iinc (M := mX3_middle) (pc := 96) (v := x4 + 1) (ls' := [.ref 3, .int x4, .int x5, .int x6, .int (x4 + 1), .int x5, .int x6, .int x7]) dX3_middle_96 rfl (congrArg (fun z => _ + z) k_iconst_1) (by decide) rfl ?_
      refine wp_goto (M := mX3_middle) (pc := 99) (t := 19) dX3_middle_99 (by decide) ?_
      exact p1 c1 c2
    · refine wp_iload (M := mX3_middle) (pc := 75) dX3_middle_75 rfl ?_
      refine wp_iload_n (M := mX3_middle) (pc := 77) dX3_middle_77 rfl rfl ?_
      refine wp_icmp_ne (M := mX3_middle) (pc := 78) (t := 96) dX3_middle_78 (by decide) (fun c3 => ?_) (fun c3 => ?_)
      · refine wp_iinc (M := mX3_middle) (pc := 96) (v := x4 + 1) (ls' := [.ref 3, .int x1, .int x2, .int x3, .int (x4 + 1), .int x5, .int x6, .int x7]) dX3_middle_96 rfl (congrArg (fun z => _ + z) k_iconst_1) (by decide) rfl ?_
        refine wp_goto (M := mX3_middle) (pc := 99) (t := 19) dX3_middle_99 (by decide) ?_
        exact p2 c1 c2 c3
      · refine wp_iload (M := mX3_middle) (pc := 81) dX3_middle_81 rfl ?_
        refine wp_iload_n (M := mX3_middle) (pc := 83) dX3_middle_83 rfl rfl ?_
        refine wp_icmp_ge (M := mX3_middle) (pc := 84) (t := 96) dX3_middle_84 (by decide) (fun c4 => ?_) (fun c4 => ?_)
        · refine wp_iinc (M := mX3_middle) (pc := 96) (v := x4 + 1) (ls' := [.ref 3, .int x1, .int x2, .int x3, .int (x4 + 1), .int x5, .int x6, .int x7]) dX3_middle_96 rfl (congrArg (fun z => _ + z) k_iconst_1) (by decide) rfl ?_
          refine wp_goto (M := mX3_middle) (pc := 99) (t := 19) dX3_middle_99 (by decide) ?_
          exact p3 c1 c2 c3 c4
        · refine wp_iload (M := mX3_middle) (pc := 87) dX3_middle_87 rfl ?_
          refine wp_istore_n (M := mX3_middle) (pc := 89) (ls' := [.ref 3, .int x4, .int x2, .int x3, .int x4, .int x5, .int x6, .int x7]) dX3_middle_89 rfl (by decide) rfl ?_
          refine wp_iload (M := mX3_middle) (pc := 90) dX3_middle_90 rfl ?_
          refine wp_istore_n (M := mX3_middle) (pc := 92) (ls' := [.ref 3, .int x4, .int x5, .int x3, .int x4, .int x5, .int x6, .int x7]) dX3_middle_92 rfl (by decide) rfl ?_
          refine wp_iload (M := mX3_middle) (pc := 93) dX3_middle_93 rfl ?_
          refine wp_istore_n (M := mX3_middle) (pc := 95) (ls' := [.ref 3, .int x4, .int x5, .int x6, .int x4, .int x5, .int x6, .int x7]) dX3_middle_95 rfl (by decide) rfl ?_
          refine wp_iinc (M := mX3_middle) (pc := 96) (v := x4 + 1) (ls' := [.ref 3, .int x4, .int x5, .int x6, .int (x4 + 1), .int x5, .int x6, .int x7]) dX3_middle_96 rfl (congrArg (fun z => _ + z) k_iconst_1) (by decide) rfl ?_
          refine wp_goto (M := mX3_middle) (pc := 99) (t := 19) dX3_middle_99 (by decide) ?_
          exact p4 c1 c2 c3 c4
  · refine wp_iload (M := mX3_middle) (pc := 47) dX3_middle_47 rfl ?_
    refine wp_iconst (M := mX3_middle) (pc := 49) dX3_middle_49 k_iconst_0 ?_
    refine wp_aload_n (M := mX3_middle) (pc := 50) dX3_middle_50 rfl rfl ?_
    refine xs_getr (M := mX3_middle) (pc := 51) (r := 8) dX3_middle_51 fX3_24 sh3 rfl (gr3_4 sw) ?_
    refine wp_iload (M := mX3_middle) (pc := 54) dX3_middle_54 rfl ?_
    refine xs_iald (M := mX3_middle) (pc := 56) (j := x7.toNatClampNeg) dX3_middle_56 sh8 (p5 c1) rfl ?_
    refine xs_mmax (M := mX3_middle) (pc := 57) dX3_middle_57 lX3_47 (Nat.le_of_ble_eq_true rfl) ?_
    refine wp_iadd (M := mX3_middle) (pc := 60) dX3_middle_60 ?_
    refine wp_istore (M := mX3_middle) (pc := 61) (ls' := [.ref 3, .int x1, .int x2, .int x3, .int x4, .int x5, .int (x6 + (if 0 < (f 8 x7.toNatClampNeg) then (f 8 x7.toNatClampNeg) else 0)), .int x7]) dX3_middle_61 (by decide) rfl ?_
    refine wp_iinc (M := mX3_middle) (pc := 63) (v := x7 + 1) (ls' := [.ref 3, .int x1, .int x2, .int x3, .int x4, .int x5, .int (x6 + (if 0 < (f 8 x7.toNatClampNeg) then (f 8 x7.toNatClampNeg) else 0)), .int (x7 + 1)]) dX3_middle_63 rfl (congrArg (fun z => _ + z) k_iconst_1) (by decide) rfl ?_
    refine wp_goto (M := mX3_middle) (pc := 66) (t := 40) dX3_middle_66 (by decide) ?_
    exact p6 c1
theorem bX6_savedMost_0 {G : GC} {d : Nat} {sw : Bool} {f : FF} {Q : QQ} {x1 : Int32} {x2 : Int32} {x3 : Int32} (p1 : XP G mX6_readSteps (d + 1) 0 [.ref 14, .ref 15, .int x1, .int 0, .int 2, .null, .null, .null] [] sw f (fun v sw' f' => XP G mX6_savedMost (d + 2) 11 [.ref 14, .int x1, .int x2, .int x3, .null, .null, .null, .null, .null, .null] (retst v []) sw' f' Q)) : XP G mX6_savedMost (d + 2) 0 [.ref 14, .int x1, .int x2, .int x3, .null, .null, .null, .null, .null, .null] [] sw f Q := by
  refine wp_aload_n (M := mX6_savedMost) (pc := 0) dX6_savedMost_0 rfl rfl ?_
  refine wp_aload_n (M := mX6_savedMost) (pc := 1) dX6_savedMost_1 rfl rfl ?_
  refine xs_getr (M := mX6_savedMost) (pc := 2) (r := 15) dX6_savedMost_2 fX6_9 sh14 rfl (gr14_1 sw) ?_
  refine wp_iload_n (M := mX6_savedMost) (pc := 5) dX6_savedMost_5 rfl rfl ?_
  refine wp_iconst (M := mX6_savedMost) (pc := 6) dX6_savedMost_6 k_iconst_0 ?_
  refine wp_iconst (M := mX6_savedMost) (pc := 7) dX6_savedMost_7 k_iconst_2 ?_
  refine xs_callV (d := d + 1) (M := mX6_savedMost) (pc := 8) (As := [.ref 15, .int x1, .int 0, .int 2]) (st := []) (c := 6) (ls' := [.ref 14, .ref 15, .int x1, .int 0, .int 2, .null, .null, .null]) dX6_savedMost_8 oX6_readSteps nX6_readSteps lX6_37 vX6_readSteps sX6_readSteps rfl sh14 (Nat.le_of_ble_eq_true rfl) rfl (Nat.le_of_ble_eq_true rfl) rfl ?_
  exact p1
theorem bX6_savedMost_11 {G : GC} {d : Nat} {sw : Bool} {f : FF} {Q : QQ} {x1 : Int32} {x2 : Int32} {x3 : Int32} {v4 : Value} {v5 : Value} {v6 : Value} {v7 : Value} {v8 : Value} {v9 : Value} (p1 : XP G mX6_readSteps (d + 1) 0 [.ref 14, .ref 16, .int x1, .int 1, .int 2, .null, .null, .null] [] sw f (fun v sw' f' => XP G mX6_savedMost (d + 2) 22 [.ref 14, .int x1, .int x2, .int x3, v4, v5, v6, v7, v8, v9] (retst v []) sw' f' Q)) : XP G mX6_savedMost (d + 2) 11 [.ref 14, .int x1, .int x2, .int x3, v4, v5, v6, v7, v8, v9] [] sw f Q := by
  refine wp_aload_n (M := mX6_savedMost) (pc := 11) dX6_savedMost_11 rfl rfl ?_
  refine wp_aload_n (M := mX6_savedMost) (pc := 12) dX6_savedMost_12 rfl rfl ?_
  refine xs_getr (M := mX6_savedMost) (pc := 13) (r := 16) dX6_savedMost_13 fX6_15 sh14 rfl (gr14_2 sw) ?_
  refine wp_iload_n (M := mX6_savedMost) (pc := 16) dX6_savedMost_16 rfl rfl ?_
  refine wp_iconst (M := mX6_savedMost) (pc := 17) dX6_savedMost_17 k_iconst_1 ?_
  refine wp_iconst (M := mX6_savedMost) (pc := 18) dX6_savedMost_18 k_iconst_2 ?_
  refine xs_callV (d := d + 1) (M := mX6_savedMost) (pc := 19) (As := [.ref 16, .int x1, .int 1, .int 2]) (st := []) (c := 6) (ls' := [.ref 14, .ref 16, .int x1, .int 1, .int 2, .null, .null, .null]) dX6_savedMost_19 oX6_readSteps nX6_readSteps lX6_37 vX6_readSteps sX6_readSteps rfl sh14 (Nat.le_of_ble_eq_true rfl) rfl (Nat.le_of_ble_eq_true rfl) rfl ?_
  exact p1
theorem bX6_savedMost_22 {G : GC} {d : Nat} {sw : Bool} {f : FF} {Q : QQ} {x1 : Int32} {x2 : Int32} {x3 : Int32} {v4 : Value} {v5 : Value} {v6 : Value} {v7 : Value} {v8 : Value} {v9 : Value} (p1 : XP G mX6_savedMost (d + 2) 37 [.ref 14, .int x1, .int x2, .int x3, .int 0, .int 0, .int 0, .int 0, .int 1, v9] [] sw f Q) : XP G mX6_savedMost (d + 2) 22 [.ref 14, .int x1, .int x2, .int x3, v4, v5, v6, v7, v8, v9] [] sw f Q := by
  refine wp_iconst (M := mX6_savedMost) (pc := 22) dX6_savedMost_22 k_iconst_0 ?_
  refine wp_istore (M := mX6_savedMost) (pc := 23) (ls' := [.ref 14, .int x1, .int x2, .int x3, .int 0, v5, v6, v7, v8, v9]) dX6_savedMost_23 (by decide) rfl ?_
  refine wp_iconst (M := mX6_savedMost) (pc := 25) dX6_savedMost_25 k_iconst_0 ?_
  refine wp_istore (M := mX6_savedMost) (pc := 26) (ls' := [.ref 14, .int x1, .int x2, .int x3, .int 0, .int 0, v6, v7, v8, v9]) dX6_savedMost_26 (by decide) rfl ?_
  refine wp_iconst (M := mX6_savedMost) (pc := 28) dX6_savedMost_28 k_iconst_0 ?_
  refine wp_istore (M := mX6_savedMost) (pc := 29) (ls' := [.ref 14, .int x1, .int x2, .int x3, .int 0, .int 0, .int 0, v7, v8, v9]) dX6_savedMost_29 (by decide) rfl ?_
  refine wp_iconst (M := mX6_savedMost) (pc := 31) dX6_savedMost_31 k_iconst_0 ?_
  refine wp_istore (M := mX6_savedMost) (pc := 32) (ls' := [.ref 14, .int x1, .int x2, .int x3, .int 0, .int 0, .int 0, .int 0, v8, v9]) dX6_savedMost_32 (by decide) rfl ?_
  refine wp_iconst (M := mX6_savedMost) (pc := 34) dX6_savedMost_34 k_iconst_1 ?_
  refine wp_istore (M := mX6_savedMost) (pc := 35) (ls' := [.ref 14, .int x1, .int x2, .int x3, .int 0, .int 0, .int 0, .int 0, .int 1, v9]) dX6_savedMost_35 (by decide) rfl ?_
  exact p1
theorem bX6_savedMost_37 {G : GC} {d : Nat} {sw : Bool} {f : FF} {Q : QQ} {x1 : Int32} {x2 : Int32} {x3 : Int32} {x4 : Int32} {x5 : Int32} {x6 : Int32} {x7 : Int32} {x8 : Int32} {v9 : Value} (p1 : (((1 : Int32) <<< (x1 &&& 31)) ≤ x8) → (x3 = 0) → Q (some (.int x6)) sw f) (p2 : (((1 : Int32) <<< (x1 &&& 31)) ≤ x8) → (¬ x3 = 0) → Q (some (.int x7)) sw f) (p3 : (¬ ((1 : Int32) <<< (x1 &&& 31)) ≤ x8) → XP G mX6_lowestOf (d + 1) 0 [.int x8, .null] [] sw f (fun v sw' f' => XP G mX6_savedMost (d + 2) 50 [.ref 14, .int x1, .int x2, .int x3, .int x4, .int x5, .int x6, .int x7, .int x8, v9] (retst v []) sw' f' Q)) : XP G mX6_savedMost (d + 2) 37 [.ref 14, .int x1, .int x2, .int x3, .int x4, .int x5, .int x6, .int x7, .int x8, v9] [] sw f Q := by
  refine wp_iload (M := mX6_savedMost) (pc := 37) dX6_savedMost_37 rfl ?_
  refine wp_iconst (M := mX6_savedMost) (pc := 39) dX6_savedMost_39 k_iconst_1 ?_
  refine wp_iload_n (M := mX6_savedMost) (pc := 40) dX6_savedMost_40 rfl rfl ?_
  refine wp_ishl (M := mX6_savedMost) (pc := 41) dX6_savedMost_41 ?_
  refine wp_icmp_ge (M := mX6_savedMost) (pc := 42) (t := 103) dX6_savedMost_42 (by decide) (fun c1 => ?_) (fun c1 => ?_)
  · refine wp_iload_n (M := mX6_savedMost) (pc := 103) dX6_savedMost_103 rfl rfl ?_
    refine wp_if_eq (M := mX6_savedMost) (pc := 104) (t := 112) dX6_savedMost_104 (by decide) (fun c2 => ?_) (fun c2 => ?_)
    · refine wp_iload (M := mX6_savedMost) (pc := 112) dX6_savedMost_112 rfl ?_
      exact xs_iret (M := mX6_savedMost) (pc := 114) dX6_savedMost_114 rfl (p1 c1 c2)
    · refine wp_iload (M := mX6_savedMost) (pc := 107) dX6_savedMost_107 rfl ?_
      refine wp_goto (M := mX6_savedMost) (pc := 109) (t := 114) dX6_savedMost_109 (by decide) ?_
      exact xs_iret (M := mX6_savedMost) (pc := 114) dX6_savedMost_114 rfl (p2 c1 c2)
  · refine wp_iload (M := mX6_savedMost) (pc := 45) dX6_savedMost_45 rfl ?_
    refine xs_callS (d := d + 1) (M := mX6_savedMost) (pc := 47) (As := [.int x8]) (st := []) (ls' := [.int x8, .null]) dX6_savedMost_47 oX6_lowestOf nX6_lowestOf lX6_41 tX6_lowestOf (Nat.le_of_ble_eq_true rfl) rfl (Nat.le_of_ble_eq_true rfl) rfl ?_
    exact p3 c1
theorem bX6_savedMost_50 {G : GC} {d : Nat} {sw : Bool} {f : FF} {Q : QQ} {x1 : Int32} {x2 : Int32} {x3 : Int32} {x4 : Int32} {x5 : Int32} {x6 : Int32} {x7 : Int32} {x8 : Int32} {v9 : Value} {s0 : Int32} (p1 : vp_in s0 16) (p2 : vp_in s0 16) (p3 : (x2 < (x5 + (f 16 s0.toNatClampNeg))) → XP G mX6_savedMost (d + 2) 37 [.ref 14, .int x1, .int x2, .int x3, .int (x4 + (f 15 s0.toNatClampNeg)), .int (x5 + (f 16 s0.toNatClampNeg)), .int x6, .int x7, .int (x8 + 1), .int s0] [] sw f Q) (p4 : (¬ x2 < (x5 + (f 16 s0.toNatClampNeg))) → ((x4 + (f 15 s0.toNatClampNeg)) ≤ x6) → XP G mX6_savedMost (d + 2) 37 [.ref 14, .int x1, .int x2, .int x3, .int (x4 + (f 15 s0.toNatClampNeg)), .int (x5 + (f 16 s0.toNatClampNeg)), .int x6, .int x7, .int (x8 + 1), .int s0] [] sw f Q) (p5 : (¬ x2 < (x5 + (f 16 s0.toNatClampNeg))) → (¬ (x4 + (f 15 s0.toNatClampNeg)) ≤ x6) → XP G mX6_savedMost (d + 2) 37 [.ref 14, .int x1, .int x2, .int x3, .int (x4 + (f 15 s0.toNatClampNeg)), .int (x5 + (f 16 s0.toNatClampNeg)), .int (x4 + (f 15 s0.toNatClampNeg)), .int x8, .int (x8 + 1), .int s0] [] sw f Q) : XP G mX6_savedMost (d + 2) 50 [.ref 14, .int x1, .int x2, .int x3, .int x4, .int x5, .int x6, .int x7, .int x8, v9] [.int s0] sw f Q := by
  refine wp_istore (M := mX6_savedMost) (pc := 50) (ls' := [.ref 14, .int x1, .int x2, .int x3, .int x4, .int x5, .int x6, .int x7, .int x8, .int s0]) dX6_savedMost_50 (by decide) rfl ?_
  refine wp_iload (M := mX6_savedMost) (pc := 52) dX6_savedMost_52 rfl ?_
  refine wp_aload_n (M := mX6_savedMost) (pc := 54) dX6_savedMost_54 rfl rfl ?_
  refine xs_getr (M := mX6_savedMost) (pc := 55) (r := 15) dX6_savedMost_55 fX6_9 sh14 rfl (gr14_1 sw) ?_
  refine wp_iload (M := mX6_savedMost) (pc := 58) dX6_savedMost_58 rfl ?_
  refine xs_iald (M := mX6_savedMost) (pc := 60) (j := s0.toNatClampNeg) dX6_savedMost_60 sh15 (p1) rfl ?_
  refine wp_iadd (M := mX6_savedMost) (pc := 61) dX6_savedMost_61 ?_
  refine wp_istore (M := mX6_savedMost) (pc := 62) (ls' := [.ref 14, .int x1, .int x2, .int x3, .int (x4 + (f 15 s0.toNatClampNeg)), .int x5, .int x6, .int x7, .int x8, .int s0]) dX6_savedMost_62 (by decide) rfl ?_
  refine wp_iload (M := mX6_savedMost) (pc := 64) dX6_savedMost_64 rfl ?_
  refine wp_aload_n (M := mX6_savedMost) (pc := 66) dX6_savedMost_66 rfl rfl ?_
  refine xs_getr (M := mX6_savedMost) (pc := 67) (r := 16) dX6_savedMost_67 fX6_15 sh14 rfl (gr14_2 sw) ?_
  refine wp_iload (M := mX6_savedMost) (pc := 70) dX6_savedMost_70 rfl ?_
  refine xs_iald (M := mX6_savedMost) (pc := 72) (j := s0.toNatClampNeg) dX6_savedMost_72 sh16 (p2) rfl ?_
  refine wp_iadd (M := mX6_savedMost) (pc := 73) dX6_savedMost_73 ?_
  refine wp_istore (M := mX6_savedMost) (pc := 74) (ls' := [.ref 14, .int x1, .int x2, .int x3, .int (x4 + (f 15 s0.toNatClampNeg)), .int (x5 + (f 16 s0.toNatClampNeg)), .int x6, .int x7, .int x8, .int s0]) dX6_savedMost_74 (by decide) rfl ?_
  refine wp_iload (M := mX6_savedMost) (pc := 76) dX6_savedMost_76 rfl ?_
  refine wp_iload_n (M := mX6_savedMost) (pc := 78) dX6_savedMost_78 rfl rfl ?_
  refine wp_icmp_gt (M := mX6_savedMost) (pc := 79) (t := 97) dX6_savedMost_79 (by decide) (fun c1 => ?_) (fun c1 => ?_)
  · refine wp_iinc (M := mX6_savedMost) (pc := 97) (v := x8 + 1) (ls' := [.ref 14, .int x1, .int x2, .int x3, .int (x4 + (f 15 s0.toNatClampNeg)), .int (x5 + (f 16 s0.toNatClampNeg)), .int x6, .int x7, .int (x8 + 1), .int s0]) dX6_savedMost_97 rfl (congrArg (fun z => _ + z) k_iconst_1) (by decide) rfl ?_
    refine wp_goto (M := mX6_savedMost) (pc := 100) (t := 37) dX6_savedMost_100 (by decide) ?_
    exact p3 c1
  · refine wp_iload (M := mX6_savedMost) (pc := 82) dX6_savedMost_82 rfl ?_
    refine wp_iload (M := mX6_savedMost) (pc := 84) dX6_savedMost_84 rfl ?_
    refine wp_icmp_le (M := mX6_savedMost) (pc := 86) (t := 97) dX6_savedMost_86 (by decide) (fun c2 => ?_) (fun c2 => ?_)
    · refine wp_iinc (M := mX6_savedMost) (pc := 97) (v := x8 + 1) (ls' := [.ref 14, .int x1, .int x2, .int x3, .int (x4 + (f 15 s0.toNatClampNeg)), .int (x5 + (f 16 s0.toNatClampNeg)), .int x6, .int x7, .int (x8 + 1), .int s0]) dX6_savedMost_97 rfl (congrArg (fun z => _ + z) k_iconst_1) (by decide) rfl ?_
      refine wp_goto (M := mX6_savedMost) (pc := 100) (t := 37) dX6_savedMost_100 (by decide) ?_
      exact p4 c1 c2
    · refine wp_iload (M := mX6_savedMost) (pc := 89) dX6_savedMost_89 rfl ?_
      refine wp_istore (M := mX6_savedMost) (pc := 91) (ls' := [.ref 14, .int x1, .int x2, .int x3, .int (x4 + (f 15 s0.toNatClampNeg)), .int (x5 + (f 16 s0.toNatClampNeg)), .int (x4 + (f 15 s0.toNatClampNeg)), .int x7, .int x8, .int s0]) dX6_savedMost_91 (by decide) rfl ?_
      refine wp_iload (M := mX6_savedMost) (pc := 93) dX6_savedMost_93 rfl ?_
      refine wp_istore (M := mX6_savedMost) (pc := 95) (ls' := [.ref 14, .int x1, .int x2, .int x3, .int (x4 + (f 15 s0.toNatClampNeg)), .int (x5 + (f 16 s0.toNatClampNeg)), .int (x4 + (f 15 s0.toNatClampNeg)), .int x8, .int x8, .int s0]) dX6_savedMost_95 (by decide) rfl ?_
      refine wp_iinc (M := mX6_savedMost) (pc := 97) (v := x8 + 1) (ls' := [.ref 14, .int x1, .int x2, .int x3, .int (x4 + (f 15 s0.toNatClampNeg)), .int (x5 + (f 16 s0.toNatClampNeg)), .int (x4 + (f 15 s0.toNatClampNeg)), .int x8, .int (x8 + 1), .int s0]) dX6_savedMost_97 rfl (congrArg (fun z => _ + z) k_iconst_1) (by decide) rfl ?_
      refine wp_goto (M := mX6_savedMost) (pc := 100) (t := 37) dX6_savedMost_100 (by decide) ?_
      exact p5 c1 c2
theorem bX6_readSteps_0 {G : GC} {d : Nat} {sw : Bool} {f : FF} {Q : QQ} {a1 : Nat} (ha1 : SH[a1]? = some (0, 16)) {x2 : Int32} {x3 : Int32} {x4 : Int32} (p1 : XP G mX6_readSteps (d + 1) 6 [.ref 14, .ref a1, .int x2, .int x3, .int x4, .int 0, .int 0, .null] [] sw f Q) : XP G mX6_readSteps (d + 1) 0 [.ref 14, .ref a1, .int x2, .int x3, .int x4, .null, .null, .null] [] sw f Q := by
  refine wp_iconst (M := mX6_readSteps) (pc := 0) dX6_readSteps_0 k_iconst_0 ?_
  refine wp_istore (M := mX6_readSteps) (pc := 1) (ls' := [.ref 14, .ref a1, .int x2, .int x3, .int x4, .int 0, .null, .null]) dX6_readSteps_1 (by decide) rfl ?_
  refine wp_iconst (M := mX6_readSteps) (pc := 3) dX6_readSteps_3 k_iconst_0 ?_
  refine wp_istore (M := mX6_readSteps) (pc := 4) (ls' := [.ref 14, .ref a1, .int x2, .int x3, .int x4, .int 0, .int 0, .null]) dX6_readSteps_4 (by decide) rfl ?_
  exact p1
theorem bX6_readSteps_6 {G : GC} {d : Nat} {sw : Bool} {f : FF} {Q : QQ} {a1 : Nat} (ha1 : SH[a1]? = some (0, 16)) {x2 : Int32} {x3 : Int32} {x4 : Int32} {x5 : Int32} {x6 : Int32} {v7 : Value} (p1 : (x2 ≤ x6) → Q none sw f) (p2 : (¬ x2 ≤ x6) → (12 ≤ x6) → Q none sw f) (p3 : (¬ x2 ≤ x6) → (¬ 12 ≤ x6) → vp_in x6 16) (p4 : (¬ x2 ≤ x6) → (¬ 12 ≤ x6) → XP G mX6_readSteps (d + 1) 6 [.ref 14, .ref a1, .int x2, .int x3, .int x4, .int (x5 + (tAt f (x3 + (x6 * x4)))), .int (x6 + 1), .int (tAt f (x3 + (x6 * x4)))] [] sw (upd2 f a1 x6.toNatClampNeg ((tAt f (x3 + (x6 * x4))) - x5)) Q) : XP G mX6_readSteps (d + 1) 6 [.ref 14, .ref a1, .int x2, .int x3, .int x4, .int x5, .int x6, v7] [] sw f Q := by
  refine wp_iload (M := mX6_readSteps) (pc := 6) dX6_readSteps_6 rfl ?_
  refine wp_iload_n (M := mX6_readSteps) (pc := 8) dX6_readSteps_8 rfl rfl ?_
  refine wp_icmp_ge (M := mX6_readSteps) (pc := 9) (t := 57) dX6_readSteps_9 (by decide) (fun c1 => ?_) (fun c1 => ?_)
  · exact xs_ret (M := mX6_readSteps) (pc := 57) dX6_readSteps_57 rfl (p1 c1)
  · refine wp_iload (M := mX6_readSteps) (pc := 12) dX6_readSteps_12 rfl ?_
    refine wp_bipush (M := mX6_readSteps) (pc := 14) dX6_readSteps_14 k_bipush_12 ?_
    refine wp_icmp_ge (M := mX6_readSteps) (pc := 16) (t := 57) dX6_readSteps_16 (by decide) (fun c2 => ?_) (fun c2 => ?_)
    · exact xs_ret (M := mX6_readSteps) (pc := 57) dX6_readSteps_57 rfl (p2 c1 c2)
    · refine wp_aload_n (M := mX6_readSteps) (pc := 19) dX6_readSteps_19 rfl rfl ?_
      refine xs_getr (M := mX6_readSteps) (pc := 20) (r := 1) dX6_readSteps_20 fX6_27 sh14 rfl (gr14_0 sw) ?_
      refine wp_iload_n (M := mX6_readSteps) (pc := 23) dX6_readSteps_23 rfl rfl ?_
      refine wp_iload (M := mX6_readSteps) (pc := 24) dX6_readSteps_24 rfl ?_
      refine wp_iload (M := mX6_readSteps) (pc := 26) dX6_readSteps_26 rfl ?_
      refine wp_imul (M := mX6_readSteps) (pc := 28) dX6_readSteps_28 ?_
      refine wp_iadd (M := mX6_readSteps) (pc := 29) dX6_readSteps_29 ?_
      refine xs_callV (d := d) (M := mX6_readSteps) (pc := 30) (As := [.int (x3 + (x6 * x4))]) (st := []) (c := 8) (ls' := [.ref 1, .int (x3 + (x6 * x4))]) dX6_readSteps_30 oX8_at nX8_at lX6_31 vX8_at sX8_at rfl sh1 (Nat.le_of_ble_eq_true rfl) rfl (Nat.le_of_ble_eq_true rfl) rfl ?_
      refine sp_X8_at   ?_
      refine wp_istore (M := mX6_readSteps) (pc := 33) (ls' := [.ref 14, .ref a1, .int x2, .int x3, .int x4, .int x5, .int x6, .int (tAt f (x3 + (x6 * x4)))]) dX6_readSteps_33 (by decide) rfl ?_
      refine wp_aload_n (M := mX6_readSteps) (pc := 35) dX6_readSteps_35 rfl rfl ?_
      refine wp_iload (M := mX6_readSteps) (pc := 36) dX6_readSteps_36 rfl ?_
      refine wp_iload (M := mX6_readSteps) (pc := 38) dX6_readSteps_38 rfl ?_
      refine wp_iload (M := mX6_readSteps) (pc := 40) dX6_readSteps_40 rfl ?_
      refine wp_isub (M := mX6_readSteps) (pc := 42) dX6_readSteps_42 ?_
      refine xs_iast (M := mX6_readSteps) (pc := 43) (j := x6.toNatClampNeg) dX6_readSteps_43 ha1 (p3 c1 c2) rfl ?_
      refine wp_iload (M := mX6_readSteps) (pc := 44) dX6_readSteps_44 rfl ?_
      refine wp_iload (M := mX6_readSteps) (pc := 46) dX6_readSteps_46 rfl ?_
      refine wp_iadd (M := mX6_readSteps) (pc := 48) dX6_readSteps_48 ?_
      refine wp_istore (M := mX6_readSteps) (pc := 49) (ls' := [.ref 14, .ref a1, .int x2, .int x3, .int x4, .int (x5 + (tAt f (x3 + (x6 * x4)))), .int x6, .int (tAt f (x3 + (x6 * x4)))]) dX6_readSteps_49 (by decide) rfl ?_
      refine wp_iinc (M := mX6_readSteps) (pc := 51) (v := x6 + 1) (ls' := [.ref 14, .ref a1, .int x2, .int x3, .int x4, .int (x5 + (tAt f (x3 + (x6 * x4)))), .int (x6 + 1), .int (tAt f (x3 + (x6 * x4)))]) dX6_readSteps_51 rfl (congrArg (fun z => _ + z) k_iconst_1) (by decide) rfl ?_
      refine wp_goto (M := mX6_readSteps) (pc := 54) (t := 6) dX6_readSteps_54 (by decide) ?_
      exact p4 c1 c2
theorem bX6_lowestOf_0 {G : GC} {d : Nat} {sw : Bool} {f : FF} {Q : QQ} {x0 : Int32} (p1 : XP G mX6_lowestOf (d) 2 [.int x0, .int 0] [] sw f Q) : XP G mX6_lowestOf (d) 0 [.int x0, .null] [] sw f Q := by
  refine wp_iconst (M := mX6_lowestOf) (pc := 0) dX6_lowestOf_0 k_iconst_0 ?_
  refine wp_istore_n (M := mX6_lowestOf) (pc := 1) (ls' := [.int x0, .int 0]) dX6_lowestOf_1 rfl (by decide) rfl ?_
  exact p1
theorem bX6_lowestOf_2 {G : GC} {d : Nat} {sw : Bool} {f : FF} {Q : QQ} {x0 : Int32} {x1 : Int32} (p1 : (11 ≤ x1) → Q (some (.int x1)) sw f) (p2 : (¬ 11 ≤ x1) → (¬ ((x0 >>> (x1 &&& 31)) &&& 1) = 0) → Q (some (.int x1)) sw f) (p3 : (¬ 11 ≤ x1) → (((x0 >>> (x1 &&& 31)) &&& 1) = 0) → XP G mX6_lowestOf (d) 2 [.int x0, .int (x1 + 1)] [] sw f Q) : XP G mX6_lowestOf (d) 2 [.int x0, .int x1] [] sw f Q := by
  refine wp_iload_n (M := mX6_lowestOf) (pc := 2) dX6_lowestOf_2 rfl rfl ?_
  refine wp_bipush (M := mX6_lowestOf) (pc := 3) dX6_lowestOf_3 k_bipush_11 ?_
  refine wp_icmp_ge (M := mX6_lowestOf) (pc := 5) (t := 22) dX6_lowestOf_5 (by decide) (fun c1 => ?_) (fun c1 => ?_)
  · refine wp_iload_n (M := mX6_lowestOf) (pc := 22) dX6_lowestOf_22 rfl rfl ?_
    exact xs_iret (M := mX6_lowestOf) (pc := 23) dX6_lowestOf_23 rfl (p1 c1)
  · refine wp_iload_n (M := mX6_lowestOf) (pc := 8) dX6_lowestOf_8 rfl rfl ?_
    refine wp_iload_n (M := mX6_lowestOf) (pc := 9) dX6_lowestOf_9 rfl rfl ?_
    refine wp_ishr (M := mX6_lowestOf) (pc := 10) dX6_lowestOf_10 ?_
    refine wp_iconst (M := mX6_lowestOf) (pc := 11) dX6_lowestOf_11 k_iconst_1 ?_
    refine wp_iand (M := mX6_lowestOf) (pc := 12) dX6_lowestOf_12 ?_
    refine wp_if_ne (M := mX6_lowestOf) (pc := 13) (t := 22) dX6_lowestOf_13 (by decide) (fun c2 => ?_) (fun c2 => ?_)
    · refine wp_iload_n (M := mX6_lowestOf) (pc := 22) dX6_lowestOf_22 rfl rfl ?_
      exact xs_iret (M := mX6_lowestOf) (pc := 23) dX6_lowestOf_23 rfl (p2 c1 c2)
    · refine wp_iinc (M := mX6_lowestOf) (pc := 16) (v := x1 + 1) (ls' := [.int x0, .int (x1 + 1)]) dX6_lowestOf_16 rfl (congrArg (fun z => _ + z) k_iconst_1) (by decide) rfl ?_
      refine wp_goto (M := mX6_lowestOf) (pc := 19) (t := 2) dX6_lowestOf_19 (by decide) ?_
      exact p3 c1 c2
theorem bX6_tracedBy_0 {G : GC} {d : Nat} {sw : Bool} {f : FF} {Q : QQ} {x1 : Int32} {x2 : Int32} {x3 : Int32} (p1 : XP G mX6_readSteps (d + 1) 0 [.ref 14, .ref 15, .int x1, .int 0, .int 1, .null, .null, .null] [] sw f (fun v sw' f' => XP G mX6_tracedBy (d + 2) 11 [.ref 14, .int x1, .int x2, .int x3, .null, .null, .null, .null, .null] (retst v []) sw' f' Q)) : XP G mX6_tracedBy (d + 2) 0 [.ref 14, .int x1, .int x2, .int x3, .null, .null, .null, .null, .null] [] sw f Q := by
  refine wp_aload_n (M := mX6_tracedBy) (pc := 0) dX6_tracedBy_0 rfl rfl ?_
  refine wp_aload_n (M := mX6_tracedBy) (pc := 1) dX6_tracedBy_1 rfl rfl ?_
  refine xs_getr (M := mX6_tracedBy) (pc := 2) (r := 15) dX6_tracedBy_2 fX6_9 sh14 rfl (gr14_1 sw) ?_
  refine wp_iload_n (M := mX6_tracedBy) (pc := 5) dX6_tracedBy_5 rfl rfl ?_
  refine wp_iconst (M := mX6_tracedBy) (pc := 6) dX6_tracedBy_6 k_iconst_0 ?_
  refine wp_iconst (M := mX6_tracedBy) (pc := 7) dX6_tracedBy_7 k_iconst_1 ?_
  refine xs_callV (d := d + 1) (M := mX6_tracedBy) (pc := 8) (As := [.ref 15, .int x1, .int 0, .int 1]) (st := []) (c := 6) (ls' := [.ref 14, .ref 15, .int x1, .int 0, .int 1, .null, .null, .null]) dX6_tracedBy_8 oX6_readSteps nX6_readSteps lX6_37 vX6_readSteps sX6_readSteps rfl sh14 (Nat.le_of_ble_eq_true rfl) rfl (Nat.le_of_ble_eq_true rfl) rfl ?_
  exact p1
theorem bX6_tracedBy_11 {G : GC} {d : Nat} {sw : Bool} {f : FF} {Q : QQ} {x1 : Int32} {x2 : Int32} {x3 : Int32} {v4 : Value} {v5 : Value} {v6 : Value} {v7 : Value} {v8 : Value} (p1 : (¬ x2 = 0) → (¬ x2 = 0) → (¬ x2 = 0) → XP G mX6_tracedBy (d + 2) 52 [.ref 14, .int x1, .int x2, .int x3, .int 0, .int 0, .int (-2), .int 13, .int 1] [] sw f Q) (p2 : (¬ x2 = 0) → (¬ x2 = 0) → (x2 = 0) → XP G mX6_tracedBy (d + 2) 52 [.ref 14, .int x1, .int x2, .int x3, .int 0, .int 0, .int (-2), .int 0, .int 1] [] sw f Q) (p3 : (¬ x2 = 0) → (x2 = 0) → (¬ x2 = 0) → XP G mX6_tracedBy (d + 2) 52 [.ref 14, .int x1, .int x2, .int x3, .int 0, .int 0, .int 0, .int 13, .int 1] [] sw f Q) (p4 : (¬ x2 = 0) → (x2 = 0) → (x2 = 0) → XP G mX6_tracedBy (d + 2) 52 [.ref 14, .int x1, .int x2, .int x3, .int 0, .int 0, .int 0, .int 0, .int 1] [] sw f Q) (p5 : (x2 = 0) → (¬ x2 = 0) → (¬ x2 = 0) → XP G mX6_tracedBy (d + 2) 52 [.ref 14, .int x1, .int x2, .int x3, .int 0, .int 1, .int (-2), .int 13, .int 1] [] sw f Q) (p6 : (x2 = 0) → (¬ x2 = 0) → (x2 = 0) → XP G mX6_tracedBy (d + 2) 52 [.ref 14, .int x1, .int x2, .int x3, .int 0, .int 1, .int (-2), .int 0, .int 1] [] sw f Q) (p7 : (x2 = 0) → (x2 = 0) → (¬ x2 = 0) → XP G mX6_tracedBy (d + 2) 52 [.ref 14, .int x1, .int x2, .int x3, .int 0, .int 1, .int 0, .int 13, .int 1] [] sw f Q) (p8 : (x2 = 0) → (x2 = 0) → (x2 = 0) → XP G mX6_tracedBy (d + 2) 52 [.ref 14, .int x1, .int x2, .int x3, .int 0, .int 1, .int 0, .int 0, .int 1] [] sw f Q) : XP G mX6_tracedBy (d + 2) 11 [.ref 14, .int x1, .int x2, .int x3, v4, v5, v6, v7, v8] [] sw f Q := by
  refine wp_iconst (M := mX6_tracedBy) (pc := 11) dX6_tracedBy_11 k_iconst_0 ?_
  refine wp_istore (M := mX6_tracedBy) (pc := 12) (ls' := [.ref 14, .int x1, .int x2, .int x3, .int 0, v5, v6, v7, v8]) dX6_tracedBy_12 (by decide) rfl ?_
  refine wp_iload_n (M := mX6_tracedBy) (pc := 14) dX6_tracedBy_14 rfl rfl ?_
  refine wp_if_ne (M := mX6_tracedBy) (pc := 15) (t := 22) dX6_tracedBy_15 (by decide) (fun c1 => ?_) (fun c1 => ?_)
  · refine wp_iconst (M := mX6_tracedBy) (pc := 22) dX6_tracedBy_22 k_iconst_0 ?_
    refine wp_istore (M := mX6_tracedBy) (pc := 23) (ls' := [.ref 14, .int x1, .int x2, .int x3, .int 0, .int 0, v6, v7, v8]) dX6_tracedBy_23 (by decide) rfl ?_
    refine wp_iload_n (M := mX6_tracedBy) (pc := 25) dX6_tracedBy_25 rfl rfl ?_
    refine wp_if_ne (M := mX6_tracedBy) (pc := 26) (t := 33) dX6_tracedBy_26 (by decide) (fun c2 => ?_) (fun c2 => ?_)
    · refine wp_bipush (M := mX6_tracedBy) (pc := 33) dX6_tracedBy_33 k_bipush_m2 ?_
      refine wp_istore (M := mX6_tracedBy) (pc := 35) (ls' := [.ref 14, .int x1, .int x2, .int x3, .int 0, .int 0, .int (-2), v7, v8]) dX6_tracedBy_35 (by decide) rfl ?_
      refine wp_iload_n (M := mX6_tracedBy) (pc := 37) dX6_tracedBy_37 rfl rfl ?_
      refine wp_if_ne (M := mX6_tracedBy) (pc := 38) (t := 45) dX6_tracedBy_38 (by decide) (fun c3 => ?_) (fun c3 => ?_)
      · refine wp_bipush (M := mX6_tracedBy) (pc := 45) dX6_tracedBy_45 k_bipush_13 ?_
        refine wp_istore (M := mX6_tracedBy) (pc := 47) (ls' := [.ref 14, .int x1, .int x2, .int x3, .int 0, .int 0, .int (-2), .int 13, v8]) dX6_tracedBy_47 (by decide) rfl ?_
        refine wp_iconst (M := mX6_tracedBy) (pc := 49) dX6_tracedBy_49 k_iconst_1 ?_
        refine wp_istore (M := mX6_tracedBy) (pc := 50) (ls' := [.ref 14, .int x1, .int x2, .int x3, .int 0, .int 0, .int (-2), .int 13, .int 1]) dX6_tracedBy_50 (by decide) rfl ?_
        exact p1 c1 c2 c3
      · refine wp_iconst (M := mX6_tracedBy) (pc := 41) dX6_tracedBy_41 k_iconst_0 ?_
        refine wp_goto (M := mX6_tracedBy) (pc := 42) (t := 47) dX6_tracedBy_42 (by decide) ?_
        refine wp_istore (M := mX6_tracedBy) (pc := 47) (ls' := [.ref 14, .int x1, .int x2, .int x3, .int 0, .int 0, .int (-2), .int 0, v8]) dX6_tracedBy_47 (by decide) rfl ?_
        refine wp_iconst (M := mX6_tracedBy) (pc := 49) dX6_tracedBy_49 k_iconst_1 ?_
        refine wp_istore (M := mX6_tracedBy) (pc := 50) (ls' := [.ref 14, .int x1, .int x2, .int x3, .int 0, .int 0, .int (-2), .int 0, .int 1]) dX6_tracedBy_50 (by decide) rfl ?_
        exact p2 c1 c2 c3
    · refine wp_iconst (M := mX6_tracedBy) (pc := 29) dX6_tracedBy_29 k_iconst_0 ?_
      refine wp_goto (M := mX6_tracedBy) (pc := 30) (t := 35) dX6_tracedBy_30 (by decide) ?_
      refine wp_istore (M := mX6_tracedBy) (pc := 35) (ls' := [.ref 14, .int x1, .int x2, .int x3, .int 0, .int 0, .int 0, v7, v8]) dX6_tracedBy_35 (by decide) rfl ?_
      refine wp_iload_n (M := mX6_tracedBy) (pc := 37) dX6_tracedBy_37 rfl rfl ?_
      refine wp_if_ne (M := mX6_tracedBy) (pc := 38) (t := 45) dX6_tracedBy_38 (by decide) (fun c4 => ?_) (fun c4 => ?_)
      · refine wp_bipush (M := mX6_tracedBy) (pc := 45) dX6_tracedBy_45 k_bipush_13 ?_
        refine wp_istore (M := mX6_tracedBy) (pc := 47) (ls' := [.ref 14, .int x1, .int x2, .int x3, .int 0, .int 0, .int 0, .int 13, v8]) dX6_tracedBy_47 (by decide) rfl ?_
        refine wp_iconst (M := mX6_tracedBy) (pc := 49) dX6_tracedBy_49 k_iconst_1 ?_
        refine wp_istore (M := mX6_tracedBy) (pc := 50) (ls' := [.ref 14, .int x1, .int x2, .int x3, .int 0, .int 0, .int 0, .int 13, .int 1]) dX6_tracedBy_50 (by decide) rfl ?_
        exact p3 c1 c2 c4
      · refine wp_iconst (M := mX6_tracedBy) (pc := 41) dX6_tracedBy_41 k_iconst_0 ?_
        refine wp_goto (M := mX6_tracedBy) (pc := 42) (t := 47) dX6_tracedBy_42 (by decide) ?_
        refine wp_istore (M := mX6_tracedBy) (pc := 47) (ls' := [.ref 14, .int x1, .int x2, .int x3, .int 0, .int 0, .int 0, .int 0, v8]) dX6_tracedBy_47 (by decide) rfl ?_
        refine wp_iconst (M := mX6_tracedBy) (pc := 49) dX6_tracedBy_49 k_iconst_1 ?_
        refine wp_istore (M := mX6_tracedBy) (pc := 50) (ls' := [.ref 14, .int x1, .int x2, .int x3, .int 0, .int 0, .int 0, .int 0, .int 1]) dX6_tracedBy_50 (by decide) rfl ?_
        exact p4 c1 c2 c4
  · refine wp_iconst (M := mX6_tracedBy) (pc := 18) dX6_tracedBy_18 k_iconst_1 ?_
    refine wp_goto (M := mX6_tracedBy) (pc := 19) (t := 23) dX6_tracedBy_19 (by decide) ?_
    refine wp_istore (M := mX6_tracedBy) (pc := 23) (ls' := [.ref 14, .int x1, .int x2, .int x3, .int 0, .int 1, v6, v7, v8]) dX6_tracedBy_23 (by decide) rfl ?_
    refine wp_iload_n (M := mX6_tracedBy) (pc := 25) dX6_tracedBy_25 rfl rfl ?_
    refine wp_if_ne (M := mX6_tracedBy) (pc := 26) (t := 33) dX6_tracedBy_26 (by decide) (fun c5 => ?_) (fun c5 => ?_)
    · refine wp_bipush (M := mX6_tracedBy) (pc := 33) dX6_tracedBy_33 k_bipush_m2 ?_
      refine wp_istore (M := mX6_tracedBy) (pc := 35) (ls' := [.ref 14, .int x1, .int x2, .int x3, .int 0, .int 1, .int (-2), v7, v8]) dX6_tracedBy_35 (by decide) rfl ?_
      refine wp_iload_n (M := mX6_tracedBy) (pc := 37) dX6_tracedBy_37 rfl rfl ?_
      refine wp_if_ne (M := mX6_tracedBy) (pc := 38) (t := 45) dX6_tracedBy_38 (by decide) (fun c6 => ?_) (fun c6 => ?_)
      · refine wp_bipush (M := mX6_tracedBy) (pc := 45) dX6_tracedBy_45 k_bipush_13 ?_
        refine wp_istore (M := mX6_tracedBy) (pc := 47) (ls' := [.ref 14, .int x1, .int x2, .int x3, .int 0, .int 1, .int (-2), .int 13, v8]) dX6_tracedBy_47 (by decide) rfl ?_
        refine wp_iconst (M := mX6_tracedBy) (pc := 49) dX6_tracedBy_49 k_iconst_1 ?_
        refine wp_istore (M := mX6_tracedBy) (pc := 50) (ls' := [.ref 14, .int x1, .int x2, .int x3, .int 0, .int 1, .int (-2), .int 13, .int 1]) dX6_tracedBy_50 (by decide) rfl ?_
        exact p5 c1 c5 c6
      · refine wp_iconst (M := mX6_tracedBy) (pc := 41) dX6_tracedBy_41 k_iconst_0 ?_
        refine wp_goto (M := mX6_tracedBy) (pc := 42) (t := 47) dX6_tracedBy_42 (by decide) ?_
        refine wp_istore (M := mX6_tracedBy) (pc := 47) (ls' := [.ref 14, .int x1, .int x2, .int x3, .int 0, .int 1, .int (-2), .int 0, v8]) dX6_tracedBy_47 (by decide) rfl ?_
        refine wp_iconst (M := mX6_tracedBy) (pc := 49) dX6_tracedBy_49 k_iconst_1 ?_
        refine wp_istore (M := mX6_tracedBy) (pc := 50) (ls' := [.ref 14, .int x1, .int x2, .int x3, .int 0, .int 1, .int (-2), .int 0, .int 1]) dX6_tracedBy_50 (by decide) rfl ?_
        exact p6 c1 c5 c6
    · refine wp_iconst (M := mX6_tracedBy) (pc := 29) dX6_tracedBy_29 k_iconst_0 ?_
      refine wp_goto (M := mX6_tracedBy) (pc := 30) (t := 35) dX6_tracedBy_30 (by decide) ?_
      refine wp_istore (M := mX6_tracedBy) (pc := 35) (ls' := [.ref 14, .int x1, .int x2, .int x3, .int 0, .int 1, .int 0, v7, v8]) dX6_tracedBy_35 (by decide) rfl ?_
      refine wp_iload_n (M := mX6_tracedBy) (pc := 37) dX6_tracedBy_37 rfl rfl ?_
      refine wp_if_ne (M := mX6_tracedBy) (pc := 38) (t := 45) dX6_tracedBy_38 (by decide) (fun c7 => ?_) (fun c7 => ?_)
      · refine wp_bipush (M := mX6_tracedBy) (pc := 45) dX6_tracedBy_45 k_bipush_13 ?_
        refine wp_istore (M := mX6_tracedBy) (pc := 47) (ls' := [.ref 14, .int x1, .int x2, .int x3, .int 0, .int 1, .int 0, .int 13, v8]) dX6_tracedBy_47 (by decide) rfl ?_
        refine wp_iconst (M := mX6_tracedBy) (pc := 49) dX6_tracedBy_49 k_iconst_1 ?_
        refine wp_istore (M := mX6_tracedBy) (pc := 50) (ls' := [.ref 14, .int x1, .int x2, .int x3, .int 0, .int 1, .int 0, .int 13, .int 1]) dX6_tracedBy_50 (by decide) rfl ?_
        exact p7 c1 c5 c7
      · refine wp_iconst (M := mX6_tracedBy) (pc := 41) dX6_tracedBy_41 k_iconst_0 ?_
        refine wp_goto (M := mX6_tracedBy) (pc := 42) (t := 47) dX6_tracedBy_42 (by decide) ?_
        refine wp_istore (M := mX6_tracedBy) (pc := 47) (ls' := [.ref 14, .int x1, .int x2, .int x3, .int 0, .int 1, .int 0, .int 0, v8]) dX6_tracedBy_47 (by decide) rfl ?_
        refine wp_iconst (M := mX6_tracedBy) (pc := 49) dX6_tracedBy_49 k_iconst_1 ?_
        refine wp_istore (M := mX6_tracedBy) (pc := 50) (ls' := [.ref 14, .int x1, .int x2, .int x3, .int 0, .int 1, .int 0, .int 0, .int 1]) dX6_tracedBy_50 (by decide) rfl ?_
        exact p8 c1 c5 c7
theorem bX6_tracedBy_52 {G : GC} {d : Nat} {sw : Bool} {f : FF} {Q : QQ} {x1 : Int32} {x2 : Int32} {x3 : Int32} {x4 : Int32} {x5 : Int32} {x6 : Int32} {x7 : Int32} {x8 : Int32} (p1 : (((1 : Int32) <<< (x1 &&& 31)) ≤ x8) → (x3 = 0) → Q (some (.int x5)) sw f) (p2 : (((1 : Int32) <<< (x1 &&& 31)) ≤ x8) → (¬ x3 = 0) → Q (some (.int x6)) sw f) (p3 : (¬ ((1 : Int32) <<< (x1 &&& 31)) ≤ x8) → XP G mX6_lowestOf (d + 1) 0 [.int x8, .null] [] sw f (fun v sw' f' => XP G mX6_tracedBy (d + 2) 71 [.ref 14, .int x1, .int x2, .int x3, .int x4, .int x5, .int x6, .int x7, .int x8] (retst v [.ref 15, .int x4]) sw' f' Q)) : XP G mX6_tracedBy (d + 2) 52 [.ref 14, .int x1, .int x2, .int x3, .int x4, .int x5, .int x6, .int x7, .int x8] [] sw f Q := by
  refine wp_iload (M := mX6_tracedBy) (pc := 52) dX6_tracedBy_52 rfl ?_
  refine wp_iconst (M := mX6_tracedBy) (pc := 54) dX6_tracedBy_54 k_iconst_1 ?_
  refine wp_iload_n (M := mX6_tracedBy) (pc := 55) dX6_tracedBy_55 rfl rfl ?_
  refine wp_ishl (M := mX6_tracedBy) (pc := 56) dX6_tracedBy_56 ?_
  refine wp_icmp_ge (M := mX6_tracedBy) (pc := 57) (t := 111) dX6_tracedBy_57 (by decide) (fun c1 => ?_) (fun c1 => ?_)
  · refine wp_iload_n (M := mX6_tracedBy) (pc := 111) dX6_tracedBy_111 rfl rfl ?_
    refine wp_if_eq (M := mX6_tracedBy) (pc := 112) (t := 120) dX6_tracedBy_112 (by decide) (fun c2 => ?_) (fun c2 => ?_)
    · refine wp_iload (M := mX6_tracedBy) (pc := 120) dX6_tracedBy_120 rfl ?_
      exact xs_iret (M := mX6_tracedBy) (pc := 122) dX6_tracedBy_122 rfl (p1 c1 c2)
    · refine wp_iload (M := mX6_tracedBy) (pc := 115) dX6_tracedBy_115 rfl ?_
      refine wp_goto (M := mX6_tracedBy) (pc := 117) (t := 122) dX6_tracedBy_117 (by decide) ?_
      exact xs_iret (M := mX6_tracedBy) (pc := 122) dX6_tracedBy_122 rfl (p2 c1 c2)
  · refine wp_iload (M := mX6_tracedBy) (pc := 60) dX6_tracedBy_60 rfl ?_
    refine wp_aload_n (M := mX6_tracedBy) (pc := 62) dX6_tracedBy_62 rfl rfl ?_
    refine xs_getr (M := mX6_tracedBy) (pc := 63) (r := 15) dX6_tracedBy_63 fX6_9 sh14 rfl (gr14_1 sw) ?_
    refine wp_iload (M := mX6_tracedBy) (pc := 66) dX6_tracedBy_66 rfl ?_
    refine xs_callS (d := d + 1) (M := mX6_tracedBy) (pc := 68) (As := [.int x8]) (st := [.ref 15, .int x4]) (ls' := [.int x8, .null]) dX6_tracedBy_68 oX6_lowestOf nX6_lowestOf lX6_41 tX6_lowestOf (Nat.le_of_ble_eq_true rfl) rfl (Nat.le_of_ble_eq_true rfl) rfl ?_
    exact p3 c1
theorem bX6_tracedBy_71 {G : GC} {d : Nat} {sw : Bool} {f : FF} {Q : QQ} {x1 : Int32} {x2 : Int32} {x3 : Int32} {x4 : Int32} {x5 : Int32} {x6 : Int32} {x7 : Int32} {x8 : Int32} {s0 : Int32} {s2 : Int32} (p1 : vp_in s0 16) (p2 : (¬ (s2 + (f 15 s0.toNatClampNeg)) = x2) → XP G mX6_tracedBy (d + 2) 52 [.ref 14, .int x1, .int x2, .int x3, .int (s2 + (f 15 s0.toNatClampNeg)), .int x5, .int x6, .int x7, .int (x8 + 1)] [] sw f Q) (p3 : ((s2 + (f 15 s0.toNatClampNeg)) = x2) → XP G mJ6_bitCount_0f7a4 (d + 1) 0 [.int x8] [] sw f (fun v sw' f' => XP G mX6_tracedBy (d + 2) 89 [.ref 14, .int x1, .int x2, .int x3, .int (s2 + (f 15 s0.toNatClampNeg)), .int (x5 + 1), .int x6, .int x7, .int x8] (retst v []) sw' f' Q)) : XP G mX6_tracedBy (d + 2) 71 [.ref 14, .int x1, .int x2, .int x3, .int x4, .int x5, .int x6, .int x7, .int x8] [.int s0, .ref 15, .int s2] sw f Q := by
  refine xs_iald (M := mX6_tracedBy) (pc := 71) (j := s0.toNatClampNeg) dX6_tracedBy_71 sh15 (p1) rfl ?_
  refine wp_iadd (M := mX6_tracedBy) (pc := 72) dX6_tracedBy_72 ?_
  refine wp_istore (M := mX6_tracedBy) (pc := 73) (ls' := [.ref 14, .int x1, .int x2, .int x3, .int (s2 + (f 15 s0.toNatClampNeg)), .int x5, .int x6, .int x7, .int x8]) dX6_tracedBy_73 (by decide) rfl ?_
  refine wp_iload (M := mX6_tracedBy) (pc := 75) dX6_tracedBy_75 rfl ?_
  refine wp_iload_n (M := mX6_tracedBy) (pc := 77) dX6_tracedBy_77 rfl rfl ?_
  refine wp_icmp_ne (M := mX6_tracedBy) (pc := 78) (t := 105) dX6_tracedBy_78 (by decide) (fun c1 => ?_) (fun c1 => ?_)
  · refine wp_iinc (M := mX6_tracedBy) (pc := 105) (v := x8 + 1) (ls' := [.ref 14, .int x1, .int x2, .int x3, .int (s2 + (f 15 s0.toNatClampNeg)), .int x5, .int x6, .int x7, .int (x8 + 1)]) dX6_tracedBy_105 rfl (congrArg (fun z => _ + z) k_iconst_1) (by decide) rfl ?_
    refine wp_goto (M := mX6_tracedBy) (pc := 108) (t := 52) dX6_tracedBy_108 (by decide) ?_
    exact p2 c1
  · refine wp_iinc (M := mX6_tracedBy) (pc := 81) (v := x5 + 1) (ls' := [.ref 14, .int x1, .int x2, .int x3, .int (s2 + (f 15 s0.toNatClampNeg)), .int (x5 + 1), .int x6, .int x7, .int x8]) dX6_tracedBy_81 rfl (congrArg (fun z => _ + z) k_iconst_1) (by decide) rfl ?_
    refine wp_iload (M := mX6_tracedBy) (pc := 84) dX6_tracedBy_84 rfl ?_
    refine xs_callS (d := d + 1) (M := mX6_tracedBy) (pc := 86) (As := [.int x8]) (st := []) (ls' := [.int x8]) dX6_tracedBy_86 oJ6_bitCount_0f7a4 nJ6_bitCount_0f7a4 lX6_44 tJ6_bitCount_0f7a4 (Nat.le_of_ble_eq_true rfl) rfl (Nat.le_of_ble_eq_true rfl) rfl ?_
    exact p3 c1
theorem bX6_tracedBy_89 {G : GC} {d : Nat} {sw : Bool} {f : FF} {Q : QQ} {x1 : Int32} {x2 : Int32} {x3 : Int32} {x4 : Int32} {x5 : Int32} {x6 : Int32} {x7 : Int32} {x8 : Int32} {s0 : Int32} (p1 : (x7 ≤ s0) → XP G mX6_tracedBy (d + 2) 52 [.ref 14, .int x1, .int x2, .int x3, .int x4, .int x5, .int x6, .int x7, .int (x8 + 1)] [] sw f Q) (p2 : (¬ x7 ≤ s0) → XP G mJ6_bitCount_0f7a4 (d + 1) 0 [.int x8] [] sw f (fun v sw' f' => XP G mX6_tracedBy (d + 2) 99 [.ref 14, .int x1, .int x2, .int x3, .int x4, .int x5, .int x6, .int x7, .int x8] (retst v []) sw' f' Q)) : XP G mX6_tracedBy (d + 2) 89 [.ref 14, .int x1, .int x2, .int x3, .int x4, .int x5, .int x6, .int x7, .int x8] [.int s0] sw f Q := by
  refine wp_iload (M := mX6_tracedBy) (pc := 89) dX6_tracedBy_89 rfl ?_
  refine wp_icmp_ge (M := mX6_tracedBy) (pc := 91) (t := 105) dX6_tracedBy_91 (by decide) (fun c1 => ?_) (fun c1 => ?_)
  · refine wp_iinc (M := mX6_tracedBy) (pc := 105) (v := x8 + 1) (ls' := [.ref 14, .int x1, .int x2, .int x3, .int x4, .int x5, .int x6, .int x7, .int (x8 + 1)]) dX6_tracedBy_105 rfl (congrArg (fun z => _ + z) k_iconst_1) (by decide) rfl ?_
    refine wp_goto (M := mX6_tracedBy) (pc := 108) (t := 52) dX6_tracedBy_108 (by decide) ?_
    exact p1 c1
  · refine wp_iload (M := mX6_tracedBy) (pc := 94) dX6_tracedBy_94 rfl ?_
    refine xs_callS (d := d + 1) (M := mX6_tracedBy) (pc := 96) (As := [.int x8]) (st := []) (ls' := [.int x8]) dX6_tracedBy_96 oJ6_bitCount_0f7a4 nJ6_bitCount_0f7a4 lX6_44 tJ6_bitCount_0f7a4 (Nat.le_of_ble_eq_true rfl) rfl (Nat.le_of_ble_eq_true rfl) rfl ?_
    exact p2 c1
theorem bX6_tracedBy_99 {G : GC} {d : Nat} {sw : Bool} {f : FF} {Q : QQ} {x1 : Int32} {x2 : Int32} {x3 : Int32} {x4 : Int32} {x5 : Int32} {x6 : Int32} {x7 : Int32} {x8 : Int32} {s0 : Int32} (p1 : XP G mX6_tracedBy (d + 2) 52 [.ref 14, .int x1, .int x2, .int x3, .int x4, .int x5, .int x8, .int s0, .int (x8 + 1)] [] sw f Q) : XP G mX6_tracedBy (d + 2) 99 [.ref 14, .int x1, .int x2, .int x3, .int x4, .int x5, .int x6, .int x7, .int x8] [.int s0] sw f Q := by
  refine wp_istore (M := mX6_tracedBy) (pc := 99) (ls' := [.ref 14, .int x1, .int x2, .int x3, .int x4, .int x5, .int x6, .int s0, .int x8]) dX6_tracedBy_99 (by decide) rfl ?_
  refine wp_iload (M := mX6_tracedBy) (pc := 101) dX6_tracedBy_101 rfl ?_
  refine wp_istore (M := mX6_tracedBy) (pc := 103) (ls' := [.ref 14, .int x1, .int x2, .int x3, .int x4, .int x5, .int x8, .int s0, .int x8]) dX6_tracedBy_103 (by decide) rfl ?_
  refine wp_iinc (M := mX6_tracedBy) (pc := 105) (v := x8 + 1) (ls' := [.ref 14, .int x1, .int x2, .int x3, .int x4, .int x5, .int x8, .int s0, .int (x8 + 1)]) dX6_tracedBy_105 rfl (congrArg (fun z => _ + z) k_iconst_1) (by decide) rfl ?_
  refine wp_goto (M := mX6_tracedBy) (pc := 108) (t := 52) dX6_tracedBy_108 (by decide) ?_
  exact p1
theorem bX6_readHours_0 {G : GC} {d : Nat} {sw : Bool} {f : FF} {Q : QQ} {x1 : Int32} (p1 : XP G mX6_readPairs (d + 1) 0 [.ref 14, .int x1, .null] [] sw f (fun v sw' f' => XP G mX6_readHours (d + 2) 5 [.ref 14, .int x1, .null] (retst v []) sw' f' Q)) : XP G mX6_readHours (d + 2) 0 [.ref 14, .int x1, .null] [] sw f Q := by
  refine wp_aload_n (M := mX6_readHours) (pc := 0) dX6_readHours_0 rfl rfl ?_
  refine wp_iload_n (M := mX6_readHours) (pc := 1) dX6_readHours_1 rfl rfl ?_
  refine xs_callV (d := d + 1) (M := mX6_readHours) (pc := 2) (As := [.int x1]) (st := []) (c := 6) (ls' := [.ref 14, .int x1, .null]) dX6_readHours_2 oX6_readPairs nX6_readPairs lX6_49 vX6_readPairs sX6_readPairs rfl sh14 (Nat.le_of_ble_eq_true rfl) rfl (Nat.le_of_ble_eq_true rfl) rfl ?_
  exact p1
theorem bX6_readHours_5 {G : GC} {d : Nat} {sw : Bool} {f : FF} {Q : QQ} {x1 : Int32} {v2 : Value} (p1 : XP G mX6_readHours (d + 2) 7 [.ref 14, .int x1, .int 0] [] sw f Q) : XP G mX6_readHours (d + 2) 5 [.ref 14, .int x1, v2] [] sw f Q := by
  refine wp_iconst (M := mX6_readHours) (pc := 5) dX6_readHours_5 k_iconst_0 ?_
  refine wp_istore_n (M := mX6_readHours) (pc := 6) (ls' := [.ref 14, .int x1, .int 0]) dX6_readHours_6 rfl (by decide) rfl ?_
  exact p1
theorem bX6_readHours_7 {G : GC} {d : Nat} {sw : Bool} {f : FF} {Q : QQ} {x1 : Int32} {x2 : Int32} (p1 : (x1 ≤ x2) → Q (some (.int 1)) sw f) (p2 : (¬ x1 ≤ x2) → vp_in x2 16) (p3 : (¬ x1 ≤ x2) → (¬ (f 16 x2.toNatClampNeg) = 0) → XP G mX6_readHours (d + 2) 7 [.ref 14, .int x1, .int (x2 + 1)] [] sw f Q) (p4 : (¬ x1 ≤ x2) → ((f 16 x2.toNatClampNeg) = 0) → Q (some (.int 0)) sw f) : XP G mX6_readHours (d + 2) 7 [.ref 14, .int x1, .int x2] [] sw f Q := by
  refine wp_iload_n (M := mX6_readHours) (pc := 7) dX6_readHours_7 rfl rfl ?_
  refine wp_iload_n (M := mX6_readHours) (pc := 8) dX6_readHours_8 rfl rfl ?_
  refine wp_icmp_ge (M := mX6_readHours) (pc := 9) (t := 29) dX6_readHours_9 (by decide) (fun c1 => ?_) (fun c1 => ?_)
  · refine wp_iconst (M := mX6_readHours) (pc := 29) dX6_readHours_29 k_iconst_1 ?_
    exact xs_zret (M := mX6_readHours) (pc := 30) dX6_readHours_30 rfl (by decide) (p1 c1)
  · refine wp_aload_n (M := mX6_readHours) (pc := 12) dX6_readHours_12 rfl rfl ?_
    refine xs_getr (M := mX6_readHours) (pc := 13) (r := 16) dX6_readHours_13 fX6_15 sh14 rfl (gr14_2 sw) ?_
    refine wp_iload_n (M := mX6_readHours) (pc := 16) dX6_readHours_16 rfl rfl ?_
    refine xs_iald (M := mX6_readHours) (pc := 17) (j := x2.toNatClampNeg) dX6_readHours_17 sh16 (p2 c1) rfl ?_
    refine wp_if_ne (M := mX6_readHours) (pc := 18) (t := 23) dX6_readHours_18 (by decide) (fun c2 => ?_) (fun c2 => ?_)
    · refine wp_iinc (M := mX6_readHours) (pc := 23) (v := x2 + 1) (ls' := [.ref 14, .int x1, .int (x2 + 1)]) dX6_readHours_23 rfl (congrArg (fun z => _ + z) k_iconst_1) (by decide) rfl ?_
      refine wp_goto (M := mX6_readHours) (pc := 26) (t := 7) dX6_readHours_26 (by decide) ?_
      exact p3 c1 c2
    · refine wp_iconst (M := mX6_readHours) (pc := 21) dX6_readHours_21 k_iconst_0 ?_
      exact xs_zret (M := mX6_readHours) (pc := 22) dX6_readHours_22 rfl (by decide) (p4 c1 c2)
theorem bX6_readPairs_0 {G : GC} {d : Nat} {sw : Bool} {f : FF} {Q : QQ} {x1 : Int32} (p1 : XP G mX6_readPairs (d + 1) 2 [.ref 14, .int x1, .int 0] [] sw f Q) : XP G mX6_readPairs (d + 1) 0 [.ref 14, .int x1, .null] [] sw f Q := by
  refine wp_iconst (M := mX6_readPairs) (pc := 0) dX6_readPairs_0 k_iconst_0 ?_
  refine wp_istore_n (M := mX6_readPairs) (pc := 1) (ls' := [.ref 14, .int x1, .int 0]) dX6_readPairs_1 rfl (by decide) rfl ?_
  exact p1
theorem bX6_readPairs_2 {G : GC} {d : Nat} {sw : Bool} {f : FF} {Q : QQ} {x1 : Int32} {x2 : Int32} (p1 : (x1 ≤ x2) → Q none sw f) (p2 : (¬ x1 ≤ x2) → (16 ≤ x2) → Q none sw f) (p3 : (¬ x1 ≤ x2) → (¬ 16 ≤ x2) → vp_in x2 16) (p4 : (¬ x1 ≤ x2) → (¬ 16 ≤ x2) → vp_in x2 16) (p5 : (¬ x1 ≤ x2) → (¬ 16 ≤ x2) → XP G mX6_readPairs (d + 1) 2 [.ref 14, .int x1, .int (x2 + 1)] [] sw (upd2 (upd2 f 15 x2.toNatClampNeg (tAt f (2 * x2))) 16 x2.toNatClampNeg (tAt (upd2 f 15 x2.toNatClampNeg (tAt f (2 * x2))) ((2 * x2) + 1))) Q) : XP G mX6_readPairs (d + 1) 2 [.ref 14, .int x1, .int x2] [] sw f Q := by
  refine wp_iload_n (M := mX6_readPairs) (pc := 2) dX6_readPairs_2 rfl rfl ?_
  refine wp_iload_n (M := mX6_readPairs) (pc := 3) dX6_readPairs_3 rfl rfl ?_
  refine wp_icmp_ge (M := mX6_readPairs) (pc := 4) (t := 53) dX6_readPairs_4 (by decide) (fun c1 => ?_) (fun c1 => ?_)
  · exact xs_ret (M := mX6_readPairs) (pc := 53) dX6_readPairs_53 rfl (p1 c1)
  · refine wp_iload_n (M := mX6_readPairs) (pc := 7) dX6_readPairs_7 rfl rfl ?_
    refine wp_bipush (M := mX6_readPairs) (pc := 8) dX6_readPairs_8 k_bipush_16 ?_
    refine wp_icmp_ge (M := mX6_readPairs) (pc := 10) (t := 53) dX6_readPairs_10 (by decide) (fun c2 => ?_) (fun c2 => ?_)
    · exact xs_ret (M := mX6_readPairs) (pc := 53) dX6_readPairs_53 rfl (p2 c1 c2)
    · refine wp_aload_n (M := mX6_readPairs) (pc := 13) dX6_readPairs_13 rfl rfl ?_
      refine xs_getr (M := mX6_readPairs) (pc := 14) (r := 15) dX6_readPairs_14 fX6_9 sh14 rfl (gr14_1 sw) ?_
      refine wp_iload_n (M := mX6_readPairs) (pc := 17) dX6_readPairs_17 rfl rfl ?_
      refine wp_aload_n (M := mX6_readPairs) (pc := 18) dX6_readPairs_18 rfl rfl ?_
      refine xs_getr (M := mX6_readPairs) (pc := 19) (r := 1) dX6_readPairs_19 fX6_27 sh14 rfl (gr14_0 sw) ?_
      refine wp_iconst (M := mX6_readPairs) (pc := 22) dX6_readPairs_22 k_iconst_2 ?_
      refine wp_iload_n (M := mX6_readPairs) (pc := 23) dX6_readPairs_23 rfl rfl ?_
      refine wp_imul (M := mX6_readPairs) (pc := 24) dX6_readPairs_24 ?_
      refine xs_callV (d := d) (M := mX6_readPairs) (pc := 25) (As := [.int (2 * x2)]) (st := [.int x2, .ref 15]) (c := 8) (ls' := [.ref 1, .int (2 * x2)]) dX6_readPairs_25 oX8_at nX8_at lX6_31 vX8_at sX8_at rfl sh1 (Nat.le_of_ble_eq_true rfl) rfl (Nat.le_of_ble_eq_true rfl) rfl ?_
      refine sp_X8_at   ?_
      refine xs_iast (M := mX6_readPairs) (pc := 28) (j := x2.toNatClampNeg) dX6_readPairs_28 sh15 (p3 c1 c2) rfl ?_
      refine wp_aload_n (M := mX6_readPairs) (pc := 29) dX6_readPairs_29 rfl rfl ?_
      refine xs_getr (M := mX6_readPairs) (pc := 30) (r := 16) dX6_readPairs_30 fX6_15 sh14 rfl (gr14_2 sw) ?_
      refine wp_iload_n (M := mX6_readPairs) (pc := 33) dX6_readPairs_33 rfl rfl ?_
      refine wp_aload_n (M := mX6_readPairs) (pc := 34) dX6_readPairs_34 rfl rfl ?_
      refine xs_getr (M := mX6_readPairs) (pc := 35) (r := 1) dX6_readPairs_35 fX6_27 sh14 rfl (gr14_0 sw) ?_
      refine wp_iconst (M := mX6_readPairs) (pc := 38) dX6_readPairs_38 k_iconst_2 ?_
      refine wp_iload_n (M := mX6_readPairs) (pc := 39) dX6_readPairs_39 rfl rfl ?_
      refine wp_imul (M := mX6_readPairs) (pc := 40) dX6_readPairs_40 ?_
      refine wp_iconst (M := mX6_readPairs) (pc := 41) dX6_readPairs_41 k_iconst_1 ?_
      refine wp_iadd (M := mX6_readPairs) (pc := 42) dX6_readPairs_42 ?_
      refine xs_callV (d := d) (M := mX6_readPairs) (pc := 43) (As := [.int ((2 * x2) + 1)]) (st := [.int x2, .ref 16]) (c := 8) (ls' := [.ref 1, .int ((2 * x2) + 1)]) dX6_readPairs_43 oX8_at nX8_at lX6_31 vX8_at sX8_at rfl sh1 (Nat.le_of_ble_eq_true rfl) rfl (Nat.le_of_ble_eq_true rfl) rfl ?_
      refine sp_X8_at   ?_
      refine xs_iast (M := mX6_readPairs) (pc := 46) (j := x2.toNatClampNeg) dX6_readPairs_46 sh16 (p4 c1 c2) rfl ?_
      refine wp_iinc (M := mX6_readPairs) (pc := 47) (v := x2 + 1) (ls' := [.ref 14, .int x1, .int (x2 + 1)]) dX6_readPairs_47 rfl (congrArg (fun z => _ + z) k_iconst_1) (by decide) rfl ?_
      refine wp_goto (M := mX6_readPairs) (pc := 50) (t := 2) dX6_readPairs_50 (by decide) ?_
      exact p5 c1 c2
theorem bX6_fewestCircuits_0 {G : GC} {d : Nat} {sw : Bool} {f : FF} {Q : QQ} {x1 : Int32} {x2 : Int32} (p1 : XP G mX6_sortByBeginning (d) 0 [.ref 14, .int x1, .null, .null, .null, .null] [] sw f (fun v sw' f' => XP G mX6_fewestCircuits (d + 1) 5 [.ref 14, .int x1, .int x2, .null] (retst v []) sw' f' Q)) : XP G mX6_fewestCircuits (d + 1) 0 [.ref 14, .int x1, .int x2, .null] [] sw f Q := by
  refine wp_aload_n (M := mX6_fewestCircuits) (pc := 0) dX6_fewestCircuits_0 rfl rfl ?_
  refine wp_iload_n (M := mX6_fewestCircuits) (pc := 1) dX6_fewestCircuits_1 rfl rfl ?_
  refine xs_callV (d := d) (M := mX6_fewestCircuits) (pc := 2) (As := [.int x1]) (st := []) (c := 6) (ls' := [.ref 14, .int x1, .null, .null, .null, .null]) dX6_fewestCircuits_2 oX6_sortByBeginning nX6_sortByBeginning lX6_53 vX6_sortByBeginning sX6_sortByBeginning rfl sh14 (Nat.le_of_ble_eq_true rfl) rfl (Nat.le_of_ble_eq_true rfl) rfl ?_
  exact p1
theorem bX6_fewestCircuits_5 {G : GC} {d : Nat} {sw : Bool} {f : FF} {Q : QQ} {x1 : Int32} {x2 : Int32} {v3 : Value} (p1 : XP G mX6_fewestCircuits (d + 1) 7 [.ref 14, .int x1, .int x2, .int 1] [] sw f Q) : XP G mX6_fewestCircuits (d + 1) 5 [.ref 14, .int x1, .int x2, v3] [] sw f Q := by
  refine wp_iconst (M := mX6_fewestCircuits) (pc := 5) dX6_fewestCircuits_5 k_iconst_1 ?_
  refine wp_istore_n (M := mX6_fewestCircuits) (pc := 6) (ls' := [.ref 14, .int x1, .int x2, .int 1]) dX6_fewestCircuits_6 rfl (by decide) rfl ?_
  exact p1
theorem bX6_fewestCircuits_7 {G : GC} {d : Nat} {sw : Bool} {f : FF} {Q : QQ} {x1 : Int32} {x2 : Int32} {x3 : Int32} (p1 : (x1 ≤ x3) → Q (some (.int x1)) sw f) (p2 : (¬ x1 ≤ x3) → XP G mX6_suffices (d) 0 [.ref 14, .int x3, .int x1, .int x2, .null, .null, .null] [] sw f (fun v sw' f' => XP G mX6_fewestCircuits (d + 1) 19 [.ref 14, .int x1, .int x2, .int x3] (retst v []) sw' f' Q)) : XP G mX6_fewestCircuits (d + 1) 7 [.ref 14, .int x1, .int x2, .int x3] [] sw f Q := by
  refine wp_iload_n (M := mX6_fewestCircuits) (pc := 7) dX6_fewestCircuits_7 rfl rfl ?_
  refine wp_iload_n (M := mX6_fewestCircuits) (pc := 8) dX6_fewestCircuits_8 rfl rfl ?_
  refine wp_icmp_ge (M := mX6_fewestCircuits) (pc := 9) (t := 30) dX6_fewestCircuits_9 (by decide) (fun c1 => ?_) (fun c1 => ?_)
  · refine wp_iload_n (M := mX6_fewestCircuits) (pc := 30) dX6_fewestCircuits_30 rfl rfl ?_
    exact xs_iret (M := mX6_fewestCircuits) (pc := 31) dX6_fewestCircuits_31 rfl (p1 c1)
  · refine wp_aload_n (M := mX6_fewestCircuits) (pc := 12) dX6_fewestCircuits_12 rfl rfl ?_
    refine wp_iload_n (M := mX6_fewestCircuits) (pc := 13) dX6_fewestCircuits_13 rfl rfl ?_
    refine wp_iload_n (M := mX6_fewestCircuits) (pc := 14) dX6_fewestCircuits_14 rfl rfl ?_
    refine wp_iload_n (M := mX6_fewestCircuits) (pc := 15) dX6_fewestCircuits_15 rfl rfl ?_
    refine xs_callV (d := d) (M := mX6_fewestCircuits) (pc := 16) (As := [.int x3, .int x1, .int x2]) (st := []) (c := 6) (ls' := [.ref 14, .int x3, .int x1, .int x2, .null, .null, .null]) dX6_fewestCircuits_16 oX6_suffices nX6_suffices lX6_56 vX6_suffices sX6_suffices rfl sh14 (Nat.le_of_ble_eq_true rfl) rfl (Nat.le_of_ble_eq_true rfl) rfl ?_
    exact p2 c1
theorem bX6_fewestCircuits_19 {G : GC} {d : Nat} {sw : Bool} {f : FF} {Q : QQ} {x1 : Int32} {x2 : Int32} {x3 : Int32} {s0 : Int32} (p1 : (s0 = 0) → XP G mX6_fewestCircuits (d + 1) 7 [.ref 14, .int x1, .int x2, .int (x3 + 1)] [] sw f Q) (p2 : (¬ s0 = 0) → Q (some (.int x3)) sw f) : XP G mX6_fewestCircuits (d + 1) 19 [.ref 14, .int x1, .int x2, .int x3] [.int s0] sw f Q := by
  refine wp_if_eq (M := mX6_fewestCircuits) (pc := 19) (t := 24) dX6_fewestCircuits_19 (by decide) (fun c1 => ?_) (fun c1 => ?_)
  · refine wp_iinc (M := mX6_fewestCircuits) (pc := 24) (v := x3 + 1) (ls' := [.ref 14, .int x1, .int x2, .int (x3 + 1)]) dX6_fewestCircuits_24 rfl (congrArg (fun z => _ + z) k_iconst_1) (by decide) rfl ?_
    refine wp_goto (M := mX6_fewestCircuits) (pc := 27) (t := 7) dX6_fewestCircuits_27 (by decide) ?_
    exact p1 c1
  · refine wp_iload_n (M := mX6_fewestCircuits) (pc := 22) dX6_fewestCircuits_22 rfl rfl ?_
    exact xs_iret (M := mX6_fewestCircuits) (pc := 23) dX6_fewestCircuits_23 rfl (p2 c1)
theorem bX6_sortByBeginning_0 {G : GC} {d : Nat} {sw : Bool} {f : FF} {Q : QQ} {x1 : Int32} (p1 : XP G mX6_sortByBeginning (d) 2 [.ref 14, .int x1, .int 1, .null, .null, .null] [] sw f Q) : XP G mX6_sortByBeginning (d) 0 [.ref 14, .int x1, .null, .null, .null, .null] [] sw f Q := by
  refine wp_iconst (M := mX6_sortByBeginning) (pc := 0) dX6_sortByBeginning_0 k_iconst_1 ?_
  refine wp_istore_n (M := mX6_sortByBeginning) (pc := 1) (ls' := [.ref 14, .int x1, .int 1, .null, .null, .null]) dX6_sortByBeginning_1 rfl (by decide) rfl ?_
  exact p1
theorem bX6_sortByBeginning_2 {G : GC} {d : Nat} {sw : Bool} {f : FF} {Q : QQ} {x1 : Int32} {x2 : Int32} {v3 : Value} {v4 : Value} {v5 : Value} (p1 : (x1 ≤ x2) → Q none sw f) (p2 : (¬ x1 ≤ x2) → vp_in x2 16) (p3 : (¬ x1 ≤ x2) → vp_in x2 16) (p4 : (¬ x1 ≤ x2) → XP G mX6_sortByBeginning (d) 25 [.ref 14, .int x1, .int x2, .int (f 15 x2.toNatClampNeg), .int (f 16 x2.toNatClampNeg), .int x2] [] sw f Q) : XP G mX6_sortByBeginning (d) 2 [.ref 14, .int x1, .int x2, v3, v4, v5] [] sw f Q := by
  refine wp_iload_n (M := mX6_sortByBeginning) (pc := 2) dX6_sortByBeginning_2 rfl rfl ?_
  refine wp_iload_n (M := mX6_sortByBeginning) (pc := 3) dX6_sortByBeginning_3 rfl rfl ?_
  refine wp_icmp_ge (M := mX6_sortByBeginning) (pc := 4) (t := 104) dX6_sortByBeginning_4 (by decide) (fun c1 => ?_) (fun c1 => ?_)
  · exact xs_ret (M := mX6_sortByBeginning) (pc := 104) dX6_sortByBeginning_104 rfl (p1 c1)
  · refine wp_aload_n (M := mX6_sortByBeginning) (pc := 7) dX6_sortByBeginning_7 rfl rfl ?_
    refine xs_getr (M := mX6_sortByBeginning) (pc := 8) (r := 15) dX6_sortByBeginning_8 fX6_9 sh14 rfl (gr14_1 sw) ?_
    refine wp_iload_n (M := mX6_sortByBeginning) (pc := 11) dX6_sortByBeginning_11 rfl rfl ?_
    refine xs_iald (M := mX6_sortByBeginning) (pc := 12) (j := x2.toNatClampNeg) dX6_sortByBeginning_12 sh15 (p2 c1) rfl ?_
    refine wp_istore_n (M := mX6_sortByBeginning) (pc := 13) (ls' := [.ref 14, .int x1, .int x2, .int (f 15 x2.toNatClampNeg), v4, v5]) dX6_sortByBeginning_13 rfl (by decide) rfl ?_
    refine wp_aload_n (M := mX6_sortByBeginning) (pc := 14) dX6_sortByBeginning_14 rfl rfl ?_
    refine xs_getr (M := mX6_sortByBeginning) (pc := 15) (r := 16) dX6_sortByBeginning_15 fX6_15 sh14 rfl (gr14_2 sw) ?_
    refine wp_iload_n (M := mX6_sortByBeginning) (pc := 18) dX6_sortByBeginning_18 rfl rfl ?_
    refine xs_iald (M := mX6_sortByBeginning) (pc := 19) (j := x2.toNatClampNeg) dX6_sortByBeginning_19 sh16 (p3 c1) rfl ?_
    refine wp_istore (M := mX6_sortByBeginning) (pc := 20) (ls' := [.ref 14, .int x1, .int x2, .int (f 15 x2.toNatClampNeg), .int (f 16 x2.toNatClampNeg), v5]) dX6_sortByBeginning_20 (by decide) rfl ?_
    refine wp_iload_n (M := mX6_sortByBeginning) (pc := 22) dX6_sortByBeginning_22 rfl rfl ?_
    refine wp_istore (M := mX6_sortByBeginning) (pc := 23) (ls' := [.ref 14, .int x1, .int x2, .int (f 15 x2.toNatClampNeg), .int (f 16 x2.toNatClampNeg), .int x2]) dX6_sortByBeginning_23 (by decide) rfl ?_
    exact p4 c1
theorem bX6_sortByBeginning_25 {G : GC} {d : Nat} {sw : Bool} {f : FF} {Q : QQ} {x1 : Int32} {x2 : Int32} {x3 : Int32} {x4 : Int32} {x5 : Int32} (p1 : (x5 ≤ 0) → vp_in x5 16) (p2 : (x5 ≤ 0) → vp_in x5 16) (p3 : (x5 ≤ 0) → XP G mX6_sortByBeginning (d) 2 [.ref 14, .int x1, .int (x2 + 1), .int x3, .int x4, .int x5] [] sw (upd2 (upd2 f 15 x5.toNatClampNeg x3) 16 x5.toNatClampNeg x4) Q) (p4 : (¬ x5 ≤ 0) → vp_in (x5 - 1) 16) (p5 : (¬ x5 ≤ 0) → ((f 15 ((x5 - 1).toNatClampNeg)) ≤ x3) → vp_in x5 16) (p6 : (¬ x5 ≤ 0) → ((f 15 ((x5 - 1).toNatClampNeg)) ≤ x3) → vp_in x5 16) (p7 : (¬ x5 ≤ 0) → ((f 15 ((x5 - 1).toNatClampNeg)) ≤ x3) → XP G mX6_sortByBeginning (d) 2 [.ref 14, .int x1, .int (x2 + 1), .int x3, .int x4, .int x5] [] sw (upd2 (upd2 f 15 x5.toNatClampNeg x3) 16 x5.toNatClampNeg x4) Q) (p8 : (¬ x5 ≤ 0) → (¬ (f 15 ((x5 - 1).toNatClampNeg)) ≤ x3) → vp_in (x5 - 1) 16) (p9 : (¬ x5 ≤ 0) → (¬ (f 15 ((x5 - 1).toNatClampNeg)) ≤ x3) → vp_in x5 16) (p10 : (¬ x5 ≤ 0) → (¬ (f 15 ((x5 - 1).toNatClampNeg)) ≤ x3) → vp_in (x5 - 1) 16) (p11 : (¬ x5 ≤ 0) → (¬ (f 15 ((x5 - 1).toNatClampNeg)) ≤ x3) → vp_in x5 16) (p12 : (¬ x5 ≤ 0) → (¬ (f 15 ((x5 - 1).toNatClampNeg)) ≤ x3) → XP G mX6_sortByBeginning (d) 25 [.ref 14, .int x1, .int x2, .int x3, .int x4, .int (x5 + (-1))] [] sw (upd2 (upd2 f 15 x5.toNatClampNeg (f 15 ((x5 - 1).toNatClampNeg))) 16 x5.toNatClampNeg ((upd2 f 15 x5.toNatClampNeg (f 15 ((x5 - 1).toNatClampNeg))) 16 ((x5 - 1).toNatClampNeg))) Q) : XP G mX6_sortByBeginning (d) 25 [.ref 14, .int x1, .int x2, .int x3, .int x4, .int x5] [] sw f Q := by
  refine wp_iload (M := mX6_sortByBeginning) (pc := 25) dX6_sortByBeginning_25 rfl ?_
  refine wp_if_le (M := mX6_sortByBeginning) (pc := 27) (t := 81) dX6_sortByBeginning_27 (by decide) (fun c1 => ?_) (fun c1 => ?_)
  · refine wp_aload_n (M := mX6_sortByBeginning) (pc := 81) dX6_sortByBeginning_81 rfl rfl ?_
    refine xs_getr (M := mX6_sortByBeginning) (pc := 82) (r := 15) dX6_sortByBeginning_82 fX6_9 sh14 rfl (gr14_1 sw) ?_
    refine wp_iload (M := mX6_sortByBeginning) (pc := 85) dX6_sortByBeginning_85 rfl ?_
    refine wp_iload_n (M := mX6_sortByBeginning) (pc := 87) dX6_sortByBeginning_87 rfl rfl ?_
    refine xs_iast (M := mX6_sortByBeginning) (pc := 88) (j := x5.toNatClampNeg) dX6_sortByBeginning_88 sh15 (p1 c1) rfl ?_
    refine wp_aload_n (M := mX6_sortByBeginning) (pc := 89) dX6_sortByBeginning_89 rfl rfl ?_
    refine xs_getr (M := mX6_sortByBeginning) (pc := 90) (r := 16) dX6_sortByBeginning_90 fX6_15 sh14 rfl (gr14_2 sw) ?_
    refine wp_iload (M := mX6_sortByBeginning) (pc := 93) dX6_sortByBeginning_93 rfl ?_
    refine wp_iload (M := mX6_sortByBeginning) (pc := 95) dX6_sortByBeginning_95 rfl ?_
    refine xs_iast (M := mX6_sortByBeginning) (pc := 97) (j := x5.toNatClampNeg) dX6_sortByBeginning_97 sh16 (p2 c1) rfl ?_
    refine wp_iinc (M := mX6_sortByBeginning) (pc := 98) (v := x2 + 1) (ls' := [.ref 14, .int x1, .int (x2 + 1), .int x3, .int x4, .int x5]) dX6_sortByBeginning_98 rfl (congrArg (fun z => _ + z) k_iconst_1) (by decide) rfl ?_
    refine wp_goto (M := mX6_sortByBeginning) (pc := 101) (t := 2) dX6_sortByBeginning_101 (by decide) ?_
    exact p3 c1
  · refine wp_aload_n (M := mX6_sortByBeginning) (pc := 30) dX6_sortByBeginning_30 rfl rfl ?_
    refine xs_getr (M := mX6_sortByBeginning) (pc := 31) (r := 15) dX6_sortByBeginning_31 fX6_9 sh14 rfl (gr14_1 sw) ?_
    refine wp_iload (M := mX6_sortByBeginning) (pc := 34) dX6_sortByBeginning_34 rfl ?_
    refine wp_iconst (M := mX6_sortByBeginning) (pc := 36) dX6_sortByBeginning_36 k_iconst_1 ?_
    refine wp_isub (M := mX6_sortByBeginning) (pc := 37) dX6_sortByBeginning_37 ?_
    refine xs_iald (M := mX6_sortByBeginning) (pc := 38) (j := (x5 - 1).toNatClampNeg) dX6_sortByBeginning_38 sh15 (p4 c1) rfl ?_
    refine wp_iload_n (M := mX6_sortByBeginning) (pc := 39) dX6_sortByBeginning_39 rfl rfl ?_
    refine wp_icmp_le (M := mX6_sortByBeginning) (pc := 40) (t := 81) dX6_sortByBeginning_40 (by decide) (fun c2 => ?_) (fun c2 => ?_)
    · refine wp_aload_n (M := mX6_sortByBeginning) (pc := 81) dX6_sortByBeginning_81 rfl rfl ?_
      refine xs_getr (M := mX6_sortByBeginning) (pc := 82) (r := 15) dX6_sortByBeginning_82 fX6_9 sh14 rfl (gr14_1 sw) ?_
      refine wp_iload (M := mX6_sortByBeginning) (pc := 85) dX6_sortByBeginning_85 rfl ?_
      refine wp_iload_n (M := mX6_sortByBeginning) (pc := 87) dX6_sortByBeginning_87 rfl rfl ?_
      refine xs_iast (M := mX6_sortByBeginning) (pc := 88) (j := x5.toNatClampNeg) dX6_sortByBeginning_88 sh15 (p5 c1 c2) rfl ?_
      refine wp_aload_n (M := mX6_sortByBeginning) (pc := 89) dX6_sortByBeginning_89 rfl rfl ?_
      refine xs_getr (M := mX6_sortByBeginning) (pc := 90) (r := 16) dX6_sortByBeginning_90 fX6_15 sh14 rfl (gr14_2 sw) ?_
      refine wp_iload (M := mX6_sortByBeginning) (pc := 93) dX6_sortByBeginning_93 rfl ?_
      refine wp_iload (M := mX6_sortByBeginning) (pc := 95) dX6_sortByBeginning_95 rfl ?_
      refine xs_iast (M := mX6_sortByBeginning) (pc := 97) (j := x5.toNatClampNeg) dX6_sortByBeginning_97 sh16 (p6 c1 c2) rfl ?_
      refine wp_iinc (M := mX6_sortByBeginning) (pc := 98) (v := x2 + 1) (ls' := [.ref 14, .int x1, .int (x2 + 1), .int x3, .int x4, .int x5]) dX6_sortByBeginning_98 rfl (congrArg (fun z => _ + z) k_iconst_1) (by decide) rfl ?_
      refine wp_goto (M := mX6_sortByBeginning) (pc := 101) (t := 2) dX6_sortByBeginning_101 (by decide) ?_
      exact p7 c1 c2
    · refine wp_aload_n (M := mX6_sortByBeginning) (pc := 43) dX6_sortByBeginning_43 rfl rfl ?_
      refine xs_getr (M := mX6_sortByBeginning) (pc := 44) (r := 15) dX6_sortByBeginning_44 fX6_9 sh14 rfl (gr14_1 sw) ?_
      refine wp_iload (M := mX6_sortByBeginning) (pc := 47) dX6_sortByBeginning_47 rfl ?_
      refine wp_aload_n (M := mX6_sortByBeginning) (pc := 49) dX6_sortByBeginning_49 rfl rfl ?_
      refine xs_getr (M := mX6_sortByBeginning) (pc := 50) (r := 15) dX6_sortByBeginning_50 fX6_9 sh14 rfl (gr14_1 sw) ?_
      refine wp_iload (M := mX6_sortByBeginning) (pc := 53) dX6_sortByBeginning_53 rfl ?_
      refine wp_iconst (M := mX6_sortByBeginning) (pc := 55) dX6_sortByBeginning_55 k_iconst_1 ?_
      refine wp_isub (M := mX6_sortByBeginning) (pc := 56) dX6_sortByBeginning_56 ?_
      refine xs_iald (M := mX6_sortByBeginning) (pc := 57) (j := (x5 - 1).toNatClampNeg) dX6_sortByBeginning_57 sh15 (p8 c1 c2) rfl ?_
      refine xs_iast (M := mX6_sortByBeginning) (pc := 58) (j := x5.toNatClampNeg) dX6_sortByBeginning_58 sh15 (p9 c1 c2) rfl ?_
      refine wp_aload_n (M := mX6_sortByBeginning) (pc := 59) dX6_sortByBeginning_59 rfl rfl ?_
      refine xs_getr (M := mX6_sortByBeginning) (pc := 60) (r := 16) dX6_sortByBeginning_60 fX6_15 sh14 rfl (gr14_2 sw) ?_
      refine wp_iload (M := mX6_sortByBeginning) (pc := 63) dX6_sortByBeginning_63 rfl ?_
      refine wp_aload_n (M := mX6_sortByBeginning) (pc := 65) dX6_sortByBeginning_65 rfl rfl ?_
      refine xs_getr (M := mX6_sortByBeginning) (pc := 66) (r := 16) dX6_sortByBeginning_66 fX6_15 sh14 rfl (gr14_2 sw) ?_
      refine wp_iload (M := mX6_sortByBeginning) (pc := 69) dX6_sortByBeginning_69 rfl ?_
      refine wp_iconst (M := mX6_sortByBeginning) (pc := 71) dX6_sortByBeginning_71 k_iconst_1 ?_
      refine wp_isub (M := mX6_sortByBeginning) (pc := 72) dX6_sortByBeginning_72 ?_
      refine xs_iald (M := mX6_sortByBeginning) (pc := 73) (j := (x5 - 1).toNatClampNeg) dX6_sortByBeginning_73 sh16 (p10 c1 c2) rfl ?_
      refine xs_iast (M := mX6_sortByBeginning) (pc := 74) (j := x5.toNatClampNeg) dX6_sortByBeginning_74 sh16 (p11 c1 c2) rfl ?_
      refine wp_iinc (M := mX6_sortByBeginning) (pc := 75) (v := x5 + (-1)) (ls' := [.ref 14, .int x1, .int x2, .int x3, .int x4, .int (x5 + (-1))]) dX6_sortByBeginning_75 rfl (congrArg (fun z => _ + z) k_iconst_m1) (by decide) rfl ?_
      refine wp_goto (M := mX6_sortByBeginning) (pc := 78) (t := 25) dX6_sortByBeginning_78 (by decide) ?_
      exact p12 c1 c2
theorem bX6_suffices_0 {G : GC} {d : Nat} {sw : Bool} {f : FF} {Q : QQ} {x1 : Int32} {x2 : Int32} {x3 : Int32} (p1 : XP G mX6_suffices (d) 3 [.ref 14, .int x1, .int x2, .int x3, .int 0, .null, .null] [] sw f Q) : XP G mX6_suffices (d) 0 [.ref 14, .int x1, .int x2, .int x3, .null, .null, .null] [] sw f Q := by
  refine wp_iconst (M := mX6_suffices) (pc := 0) dX6_suffices_0 k_iconst_0 ?_
  refine wp_istore (M := mX6_suffices) (pc := 1) (ls' := [.ref 14, .int x1, .int x2, .int x3, .int 0, .null, .null]) dX6_suffices_1 (by decide) rfl ?_
  exact p1
theorem bX6_suffices_3 {G : GC} {d : Nat} {sw : Bool} {f : FF} {Q : QQ} {x1 : Int32} {x2 : Int32} {x3 : Int32} {x4 : Int32} {v5 : Value} {v6 : Value} (p1 : (x1 ≤ x4) → XP G mX6_suffices (d) 26 [.ref 14, .int x1, .int x2, .int x3, .int 0, v5, v6] [] sw f Q) (p2 : (¬ x1 ≤ x4) → vp_in x4 16) (p3 : (¬ x1 ≤ x4) → XP G mX6_suffices (d) 3 [.ref 14, .int x1, .int x2, .int x3, .int (x4 + 1), v5, v6] [] sw (upd2 f 17 x4.toNatClampNeg 0) Q) : XP G mX6_suffices (d) 3 [.ref 14, .int x1, .int x2, .int x3, .int x4, v5, v6] [] sw f Q := by
  refine wp_iload (M := mX6_suffices) (pc := 3) dX6_suffices_3 rfl ?_
  refine wp_iload_n (M := mX6_suffices) (pc := 5) dX6_suffices_5 rfl rfl ?_
  refine wp_icmp_ge (M := mX6_suffices) (pc := 6) (t := 23) dX6_suffices_6 (by decide) (fun c1 => ?_) (fun c1 => ?_)
  · refine wp_iconst (M := mX6_suffices) (pc := 23) dX6_suffices_23 k_iconst_0 ?_
    refine wp_istore (M := mX6_suffices) (pc := 24) (ls' := [.ref 14, .int x1, .int x2, .int x3, .int 0, v5, v6]) dX6_suffices_24 (by decide) rfl ?_
    exact p1 c1
  · refine wp_aload_n (M := mX6_suffices) (pc := 9) dX6_suffices_9 rfl rfl ?_
    refine xs_getr (M := mX6_suffices) (pc := 10) (r := 17) dX6_suffices_10 fX6_18 sh14 rfl (gr14_3 sw) ?_
    refine wp_iload (M := mX6_suffices) (pc := 13) dX6_suffices_13 rfl ?_
    refine wp_iconst (M := mX6_suffices) (pc := 15) dX6_suffices_15 k_iconst_0 ?_
    refine xs_iast (M := mX6_suffices) (pc := 16) (j := x4.toNatClampNeg) dX6_suffices_16 sh17 (p2 c1) rfl ?_
    refine wp_iinc (M := mX6_suffices) (pc := 17) (v := x4 + 1) (ls' := [.ref 14, .int x1, .int x2, .int x3, .int (x4 + 1), v5, v6]) dX6_suffices_17 rfl (congrArg (fun z => _ + z) k_iconst_1) (by decide) rfl ?_
    refine wp_goto (M := mX6_suffices) (pc := 20) (t := 3) dX6_suffices_20 (by decide) ?_
    exact p3 c1
theorem bX6_suffices_26 {G : GC} {d : Nat} {sw : Bool} {f : FF} {Q : QQ} {x1 : Int32} {x2 : Int32} {x3 : Int32} {x4 : Int32} {v5 : Value} {v6 : Value} (p1 : (x2 ≤ x4) → Q (some (.int 1)) sw f) (p2 : (¬ x2 ≤ x4) → XP G mX6_suffices (d) 38 [.ref 14, .int x1, .int x2, .int x3, .int x4, .int 0, .int 1] [] sw f Q) : XP G mX6_suffices (d) 26 [.ref 14, .int x1, .int x2, .int x3, .int x4, v5, v6] [] sw f Q := by
  refine wp_iload (M := mX6_suffices) (pc := 26) dX6_suffices_26 rfl ?_
  refine wp_iload_n (M := mX6_suffices) (pc := 28) dX6_suffices_28 rfl rfl ?_
  refine wp_icmp_ge (M := mX6_suffices) (pc := 29) (t := 129) dX6_suffices_29 (by decide) (fun c1 => ?_) (fun c1 => ?_)
  · refine wp_iconst (M := mX6_suffices) (pc := 129) dX6_suffices_129 k_iconst_1 ?_
    exact xs_zret (M := mX6_suffices) (pc := 130) dX6_suffices_130 rfl (by decide) (p1 c1)
  · refine wp_iconst (M := mX6_suffices) (pc := 32) dX6_suffices_32 k_iconst_0 ?_
    refine wp_istore (M := mX6_suffices) (pc := 33) (ls' := [.ref 14, .int x1, .int x2, .int x3, .int x4, .int 0, v6]) dX6_suffices_33 (by decide) rfl ?_
    refine wp_iconst (M := mX6_suffices) (pc := 35) dX6_suffices_35 k_iconst_1 ?_
    refine wp_istore (M := mX6_suffices) (pc := 36) (ls' := [.ref 14, .int x1, .int x2, .int x3, .int x4, .int 0, .int 1]) dX6_suffices_36 (by decide) rfl ?_
    exact p2 c1
theorem bX6_suffices_38 {G : GC} {d : Nat} {sw : Bool} {f : FF} {Q : QQ} {x1 : Int32} {x2 : Int32} {x3 : Int32} {x4 : Int32} {x5 : Int32} {x6 : Int32} (p1 : (x1 ≤ x6) → vp_in x4 16) (p2 : (x1 ≤ x6) → vp_in x5 16) (p3 : (x1 ≤ x6) → vp_in x4 16) (p4 : (x1 ≤ x6) → ((if (f 15 x4.toNatClampNeg) < (f 17 x5.toNatClampNeg) then (f 17 x5.toNatClampNeg) else (f 15 x4.toNatClampNeg)) ≤ ((f 15 x4.toNatClampNeg) + x3)) → vp_in x4 16) (p5 : (x1 ≤ x6) → ((if (f 15 x4.toNatClampNeg) < (f 17 x5.toNatClampNeg) then (f 17 x5.toNatClampNeg) else (f 15 x4.toNatClampNeg)) ≤ ((f 15 x4.toNatClampNeg) + x3)) → vp_in x5 16) (p6 : (x1 ≤ x6) → ((if (f 15 x4.toNatClampNeg) < (f 17 x5.toNatClampNeg) then (f 17 x5.toNatClampNeg) else (f 15 x4.toNatClampNeg)) ≤ ((f 15 x4.toNatClampNeg) + x3)) → XP G mX6_suffices (d) 26 [.ref 14, .int x1, .int x2, .int x3, .int (x4 + 1), .int x5, .int (if (f 15 x4.toNatClampNeg) < (f 17 x5.toNatClampNeg) then (f 17 x5.toNatClampNeg) else (f 15 x4.toNatClampNeg))] [] sw (upd2 f 17 x5.toNatClampNeg ((if (f 15 x4.toNatClampNeg) < (f 17 x5.toNatClampNeg) then (f 17 x5.toNatClampNeg) else (f 15 x4.toNatClampNeg)) + (f 16 x4.toNatClampNeg))) Q) (p7 : (x1 ≤ x6) → (¬ (if (f 15 x4.toNatClampNeg) < (f 17 x5.toNatClampNeg) then (f 17 x5.toNatClampNeg) else (f 15 x4.toNatClampNeg)) ≤ ((f 15 x4.toNatClampNeg) + x3)) → Q (some (.int 0)) sw f) (p8 : (¬ x1 ≤ x6) → vp_in x6 16) (p9 : (¬ x1 ≤ x6) → vp_in x5 16) (p10 : (¬ x1 ≤ x6) → ((f 17 x5.toNatClampNeg) ≤ (f 17 x6.toNatClampNeg)) → XP G mX6_suffices (d) 38 [.ref 14, .int x1, .int x2, .int x3, .int x4, .int x5, .int (x6 + 1)] [] sw f Q) (p11 : (¬ x1 ≤ x6) → (¬ (f 17 x5.toNatClampNeg) ≤ (f 17 x6.toNatClampNeg)) → XP G mX6_suffices (d) 38 [.ref 14, .int x1, .int x2, .int x3, .int x4, .int x6, .int (x6 + 1)] [] sw f Q) : XP G mX6_suffices (d) 38 [.ref 14, .int x1, .int x2, .int x3, .int x4, .int x5, .int x6] [] sw f Q := by
  refine wp_iload (M := mX6_suffices) (pc := 38) dX6_suffices_38 rfl ?_
  refine wp_iload_n (M := mX6_suffices) (pc := 40) dX6_suffices_40 rfl rfl ?_
  refine wp_icmp_ge (M := mX6_suffices) (pc := 41) (t := 71) dX6_suffices_41 (by decide) (fun c1 => ?_) (fun c1 => ?_)
  · refine wp_aload_n (M := mX6_suffices) (pc := 71) dX6_suffices_71 rfl rfl ?_
    refine xs_getr (M := mX6_suffices) (pc := 72) (r := 15) dX6_suffices_72 fX6_9 sh14 rfl (gr14_1 sw) ?_
    refine wp_iload (M := mX6_suffices) (pc := 75) dX6_suffices_75 rfl ?_
    refine xs_iald (M := mX6_suffices) (pc := 77) (j := x4.toNatClampNeg) dX6_suffices_77 sh15 (p1 c1) rfl ?_
    refine wp_aload_n (M := mX6_suffices) (pc := 78) dX6_suffices_78 rfl rfl ?_
    refine xs_getr (M := mX6_suffices) (pc := 79) (r := 17) dX6_suffices_79 fX6_18 sh14 rfl (gr14_3 sw) ?_
    refine wp_iload (M := mX6_suffices) (pc := 82) dX6_suffices_82 rfl ?_
    refine xs_iald (M := mX6_suffices) (pc := 84) (j := x5.toNatClampNeg) dX6_suffices_84 sh17 (p2 c1) rfl ?_
    refine xs_mmax (M := mX6_suffices) (pc := 85) dX6_suffices_85 lX6_60 (Nat.le_of_ble_eq_true rfl) ?_
    refine wp_istore (M := mX6_suffices) (pc := 88) (ls' := [.ref 14, .int x1, .int x2, .int x3, .int x4, .int x5, .int (if (f 15 x4.toNatClampNeg) < (f 17 x5.toNatClampNeg) then (f 17 x5.toNatClampNeg) else (f 15 x4.toNatClampNeg))]) dX6_suffices_88 (by decide) rfl ?_
    refine wp_iload (M := mX6_suffices) (pc := 90) dX6_suffices_90 rfl ?_
    refine wp_aload_n (M := mX6_suffices) (pc := 92) dX6_suffices_92 rfl rfl ?_
    refine xs_getr (M := mX6_suffices) (pc := 93) (r := 15) dX6_suffices_93 fX6_9 sh14 rfl (gr14_1 sw) ?_
    refine wp_iload (M := mX6_suffices) (pc := 96) dX6_suffices_96 rfl ?_
    refine xs_iald (M := mX6_suffices) (pc := 98) (j := x4.toNatClampNeg) dX6_suffices_98 sh15 (p3 c1) rfl ?_
    refine wp_iload_n (M := mX6_suffices) (pc := 99) dX6_suffices_99 rfl rfl ?_
    refine wp_iadd (M := mX6_suffices) (pc := 100) dX6_suffices_100 ?_
    refine wp_icmp_le (M := mX6_suffices) (pc := 101) (t := 106) dX6_suffices_101 (by decide) (fun c2 => ?_) (fun c2 => ?_)
    · refine wp_aload_n (M := mX6_suffices) (pc := 106) dX6_suffices_106 rfl rfl ?_
      refine xs_getr (M := mX6_suffices) (pc := 107) (r := 17) dX6_suffices_107 fX6_18 sh14 rfl (gr14_3 sw) ?_
      refine wp_iload (M := mX6_suffices) (pc := 110) dX6_suffices_110 rfl ?_
      refine wp_iload (M := mX6_suffices) (pc := 112) dX6_suffices_112 rfl ?_
      refine wp_aload_n (M := mX6_suffices) (pc := 114) dX6_suffices_114 rfl rfl ?_
      refine xs_getr (M := mX6_suffices) (pc := 115) (r := 16) dX6_suffices_115 fX6_15 sh14 rfl (gr14_2 sw) ?_
      refine wp_iload (M := mX6_suffices) (pc := 118) dX6_suffices_118 rfl ?_
      refine xs_iald (M := mX6_suffices) (pc := 120) (j := x4.toNatClampNeg) dX6_suffices_120 sh16 (p4 c1 c2) rfl ?_
      refine wp_iadd (M := mX6_suffices) (pc := 121) dX6_suffices_121 ?_
      refine xs_iast (M := mX6_suffices) (pc := 122) (j := x5.toNatClampNeg) dX6_suffices_122 sh17 (p5 c1 c2) rfl ?_
      refine wp_iinc (M := mX6_suffices) (pc := 123) (v := x4 + 1) (ls' := [.ref 14, .int x1, .int x2, .int x3, .int (x4 + 1), .int x5, .int (if (f 15 x4.toNatClampNeg) < (f 17 x5.toNatClampNeg) then (f 17 x5.toNatClampNeg) else (f 15 x4.toNatClampNeg))]) dX6_suffices_123 rfl (congrArg (fun z => _ + z) k_iconst_1) (by decide) rfl ?_
      refine wp_goto (M := mX6_suffices) (pc := 126) (t := 26) dX6_suffices_126 (by decide) ?_
      exact p6 c1 c2
    · refine wp_iconst (M := mX6_suffices) (pc := 104) dX6_suffices_104 k_iconst_0 ?_
      exact xs_zret (M := mX6_suffices) (pc := 105) dX6_suffices_105 rfl (by decide) (p7 c1 c2)
  · refine wp_aload_n (M := mX6_suffices) (pc := 44) dX6_suffices_44 rfl rfl ?_
    refine xs_getr (M := mX6_suffices) (pc := 45) (r := 17) dX6_suffices_45 fX6_18 sh14 rfl (gr14_3 sw) ?_
    refine wp_iload (M := mX6_suffices) (pc := 48) dX6_suffices_48 rfl ?_
    refine xs_iald (M := mX6_suffices) (pc := 50) (j := x6.toNatClampNeg) dX6_suffices_50 sh17 (p8 c1) rfl ?_
    refine wp_aload_n (M := mX6_suffices) (pc := 51) dX6_suffices_51 rfl rfl ?_
    refine xs_getr (M := mX6_suffices) (pc := 52) (r := 17) dX6_suffices_52 fX6_18 sh14 rfl (gr14_3 sw) ?_
    refine wp_iload (M := mX6_suffices) (pc := 55) dX6_suffices_55 rfl ?_
    refine xs_iald (M := mX6_suffices) (pc := 57) (j := x5.toNatClampNeg) dX6_suffices_57 sh17 (p9 c1) rfl ?_
    refine wp_icmp_ge (M := mX6_suffices) (pc := 58) (t := 65) dX6_suffices_58 (by decide) (fun c3 => ?_) (fun c3 => ?_)
    · refine wp_iinc (M := mX6_suffices) (pc := 65) (v := x6 + 1) (ls' := [.ref 14, .int x1, .int x2, .int x3, .int x4, .int x5, .int (x6 + 1)]) dX6_suffices_65 rfl (congrArg (fun z => _ + z) k_iconst_1) (by decide) rfl ?_
      refine wp_goto (M := mX6_suffices) (pc := 68) (t := 38) dX6_suffices_68 (by decide) ?_
      exact p10 c1 c3
    · refine wp_iload (M := mX6_suffices) (pc := 61) dX6_suffices_61 rfl ?_
      refine wp_istore (M := mX6_suffices) (pc := 63) (ls' := [.ref 14, .int x1, .int x2, .int x3, .int x4, .int x6, .int x6]) dX6_suffices_63 (by decide) rfl ?_
      refine wp_iinc (M := mX6_suffices) (pc := 65) (v := x6 + 1) (ls' := [.ref 14, .int x1, .int x2, .int x3, .int x4, .int x6, .int (x6 + 1)]) dX6_suffices_65 rfl (congrArg (fun z => _ + z) k_iconst_1) (by decide) rfl ?_
      refine wp_goto (M := mX6_suffices) (pc := 68) (t := 38) dX6_suffices_68 (by decide) ?_
      exact p11 c1 c3
theorem bX6_busiest_0 {G : GC} {d : Nat} {sw : Bool} {f : FF} {Q : QQ} {x1 : Int32} {x2 : Int32} (p1 : XP G mX6_busiest (d) 8 [.ref 14, .int x1, .int x2, .int 0, .int 0, .int 0, .null, .null] [] sw f Q) : XP G mX6_busiest (d) 0 [.ref 14, .int x1, .int x2, .null, .null, .null, .null, .null] [] sw f Q := by
  refine wp_iconst (M := mX6_busiest) (pc := 0) dX6_busiest_0 k_iconst_0 ?_
  refine wp_istore_n (M := mX6_busiest) (pc := 1) (ls' := [.ref 14, .int x1, .int x2, .int 0, .null, .null, .null, .null]) dX6_busiest_1 rfl (by decide) rfl ?_
  refine wp_iconst (M := mX6_busiest) (pc := 2) dX6_busiest_2 k_iconst_0 ?_
  refine wp_istore (M := mX6_busiest) (pc := 3) (ls' := [.ref 14, .int x1, .int x2, .int 0, .int 0, .null, .null, .null]) dX6_busiest_3 (by decide) rfl ?_
  refine wp_iconst (M := mX6_busiest) (pc := 5) dX6_busiest_5 k_iconst_0 ?_
  refine wp_istore (M := mX6_busiest) (pc := 6) (ls' := [.ref 14, .int x1, .int x2, .int 0, .int 0, .int 0, .null, .null]) dX6_busiest_6 (by decide) rfl ?_
  exact p1
theorem bX6_busiest_8 {G : GC} {d : Nat} {sw : Bool} {f : FF} {Q : QQ} {x1 : Int32} {x2 : Int32} {x3 : Int32} {x4 : Int32} {x5 : Int32} {v6 : Value} {v7 : Value} (p1 : (x1 ≤ x5) → (x2 = 0) → Q (some (.int x3)) sw f) (p2 : (x1 ≤ x5) → (¬ x2 = 0) → Q (some (.int x4)) sw f) (p3 : (¬ x1 ≤ x5) → XP G mX6_busiest (d) 20 [.ref 14, .int x1, .int x2, .int x3, .int x4, .int x5, .int 0, .int 0] [] sw f Q) : XP G mX6_busiest (d) 8 [.ref 14, .int x1, .int x2, .int x3, .int x4, .int x5, v6, v7] [] sw f Q := by
  refine wp_iload (M := mX6_busiest) (pc := 8) dX6_busiest_8 rfl ?_
  refine wp_iload_n (M := mX6_busiest) (pc := 10) dX6_busiest_10 rfl rfl ?_
  refine wp_icmp_ge (M := mX6_busiest) (pc := 11) (t := 119) dX6_busiest_11 (by decide) (fun c1 => ?_) (fun c1 => ?_)
  · refine wp_iload_n (M := mX6_busiest) (pc := 119) dX6_busiest_119 rfl rfl ?_
    refine wp_if_eq (M := mX6_busiest) (pc := 120) (t := 128) dX6_busiest_120 (by decide) (fun c2 => ?_) (fun c2 => ?_)
    · refine wp_iload_n (M := mX6_busiest) (pc := 128) dX6_busiest_128 rfl rfl ?_
      exact xs_iret (M := mX6_busiest) (pc := 129) dX6_busiest_129 rfl (p1 c1 c2)
    · refine wp_iload (M := mX6_busiest) (pc := 123) dX6_busiest_123 rfl ?_
      refine wp_goto (M := mX6_busiest) (pc := 125) (t := 129) dX6_busiest_125 (by decide) ?_
      exact xs_iret (M := mX6_busiest) (pc := 129) dX6_busiest_129 rfl (p2 c1 c2)
  · refine wp_iconst (M := mX6_busiest) (pc := 14) dX6_busiest_14 k_iconst_0 ?_
    refine wp_istore (M := mX6_busiest) (pc := 15) (ls' := [.ref 14, .int x1, .int x2, .int x3, .int x4, .int x5, .int 0, v7]) dX6_busiest_15 (by decide) rfl ?_
    refine wp_iconst (M := mX6_busiest) (pc := 17) dX6_busiest_17 k_iconst_0 ?_
    refine wp_istore (M := mX6_busiest) (pc := 18) (ls' := [.ref 14, .int x1, .int x2, .int x3, .int x4, .int x5, .int 0, .int 0]) dX6_busiest_18 (by decide) rfl ?_
    exact p3 c1
theorem bX6_busiest_20 {G : GC} {d : Nat} {sw : Bool} {f : FF} {Q : QQ} {x1 : Int32} {x2 : Int32} {x3 : Int32} {x4 : Int32} {x5 : Int32} {x6 : Int32} {x7 : Int32} (p1 : (x1 ≤ x7) → (x3 < x6) → vp_in x5 16) (p2 : (x1 ≤ x7) → (x3 < x6) → XP G mX6_busiest (d) 8 [.ref 14, .int x1, .int x2, .int x6, .int (f 15 x5.toNatClampNeg), .int (x5 + 1), .int x6, .int x7] [] sw f Q) (p3 : (x1 ≤ x7) → (¬ x3 < x6) → (¬ x6 = x3) → XP G mX6_busiest (d) 8 [.ref 14, .int x1, .int x2, .int x3, .int x4, .int (x5 + 1), .int x6, .int x7] [] sw f Q) (p4 : (x1 ≤ x7) → (¬ x3 < x6) → (x6 = x3) → vp_in x5 16) (p5 : (x1 ≤ x7) → (¬ x3 < x6) → (x6 = x3) → (x4 ≤ (f 15 x5.toNatClampNeg)) → XP G mX6_busiest (d) 8 [.ref 14, .int x1, .int x2, .int x3, .int x4, .int (x5 + 1), .int x6, .int x7] [] sw f Q) (p6 : (x1 ≤ x7) → (¬ x3 < x6) → (x6 = x3) → (¬ x4 ≤ (f 15 x5.toNatClampNeg)) → vp_in x5 16) (p7 : (x1 ≤ x7) → (¬ x3 < x6) → (x6 = x3) → (¬ x4 ≤ (f 15 x5.toNatClampNeg)) → XP G mX6_busiest (d) 8 [.ref 14, .int x1, .int x2, .int x6, .int (f 15 x5.toNatClampNeg), .int (x5 + 1), .int x6, .int x7] [] sw f Q) (p8 : (¬ x1 ≤ x7) → vp_in x7 16) (p9 : (¬ x1 ≤ x7) → vp_in x5 16) (p10 : (¬ x1 ≤ x7) → ((f 15 x5.toNatClampNeg) < (f 15 x7.toNatClampNeg)) → XP G mX6_busiest (d) 20 [.ref 14, .int x1, .int x2, .int x3, .int x4, .int x5, .int x6, .int (x7 + 1)] [] sw f Q) (p11 : (¬ x1 ≤ x7) → (¬ (f 15 x5.toNatClampNeg) < (f 15 x7.toNatClampNeg)) → vp_in x5 16) (p12 : (¬ x1 ≤ x7) → (¬ (f 15 x5.toNatClampNeg) < (f 15 x7.toNatClampNeg)) → vp_in x7 16) (p13 : (¬ x1 ≤ x7) → (¬ (f 15 x5.toNatClampNeg) < (f 15 x7.toNatClampNeg)) → vp_in x7 16) (p14 : (¬ x1 ≤ x7) → (¬ (f 15 x5.toNatClampNeg) < (f 15 x7.toNatClampNeg)) → (((f 15 x7.toNatClampNeg) + (f 16 x7.toNatClampNeg)) ≤ (f 15 x5.toNatClampNeg)) → XP G mX6_busiest (d) 20 [.ref 14, .int x1, .int x2, .int x3, .int x4, .int x5, .int x6, .int (x7 + 1)] [] sw f Q) (p15 : (¬ x1 ≤ x7) → (¬ (f 15 x5.toNatClampNeg) < (f 15 x7.toNatClampNeg)) → (¬ ((f 15 x7.toNatClampNeg) + (f 16 x7.toNatClampNeg)) ≤ (f 15 x5.toNatClampNeg)) → XP G mX6_busiest (d) 20 [.ref 14, .int x1, .int x2, .int x3, .int x4, .int x5, .int (x6 + 1), .int (x7 + 1)] [] sw f Q) : XP G mX6_busiest (d) 20 [.ref 14, .int x1, .int x2, .int x3, .int x4, .int x5, .int x6, .int x7] [] sw f Q := by
  refine wp_iload (M := mX6_busiest) (pc := 20) dX6_busiest_20 rfl ?_
  refine wp_iload_n (M := mX6_busiest) (pc := 22) dX6_busiest_22 rfl rfl ?_
  refine wp_icmp_ge (M := mX6_busiest) (pc := 23) (t := 77) dX6_busiest_23 (by decide) (fun c1 => ?_) (fun c1 => ?_)
  · refine wp_iload (M := mX6_busiest) (pc := 77) dX6_busiest_77 rfl ?_
    refine wp_iload_n (M := mX6_busiest) (pc := 79) dX6_busiest_79 rfl rfl ?_
    refine wp_icmp_gt (M := mX6_busiest) (pc := 80) (t := 101) dX6_busiest_80 (by decide) (fun c2 => ?_) (fun c2 => ?_)
    · refine wp_iload (M := mX6_busiest) (pc := 101) dX6_busiest_101 rfl ?_
      refine wp_istore_n (M := mX6_busiest) (pc := 103) (ls' := [.ref 14, .int x1, .int x2, .int x6, .int x4, .int x5, .int x6, .int x7]) dX6_busiest_103 rfl (by decide) rfl ?_
      refine wp_aload_n (M := mX6_busiest) (pc := 104) dX6_busiest_104 rfl rfl ?_
      refine xs_getr (M := mX6_busiest) (pc := 105) (r := 15) dX6_busiest_105 fX6_9 sh14 rfl (gr14_1 sw) ?_
      refine wp_iload (M := mX6_busiest) (pc := 108) dX6_busiest_108 rfl ?_
      refine xs_iald (M := mX6_busiest) (pc := 110) (j := x5.toNatClampNeg) dX6_busiest_110 sh15 (p1 c1 c2) rfl ?_
      refine wp_istore (M := mX6_busiest) (pc := 111) (ls' := [.ref 14, .int x1, .int x2, .int x6, .int (f 15 x5.toNatClampNeg), .int x5, .int x6, .int x7]) dX6_busiest_111 (by decide) rfl ?_
      refine wp_iinc (M := mX6_busiest) (pc := 113) (v := x5 + 1) (ls' := [.ref 14, .int x1, .int x2, .int x6, .int (f 15 x5.toNatClampNeg), .int (x5 + 1), .int x6, .int x7]) dX6_busiest_113 rfl (congrArg (fun z => _ + z) k_iconst_1) (by decide) rfl ?_
      refine wp_goto (M := mX6_busiest) (pc := 116) (t := 8) dX6_busiest_116 (by decide) ?_
      exact p2 c1 c2
    · refine wp_iload (M := mX6_busiest) (pc := 83) dX6_busiest_83 rfl ?_
      refine wp_iload_n (M := mX6_busiest) (pc := 85) dX6_busiest_85 rfl rfl ?_
      refine wp_icmp_ne (M := mX6_busiest) (pc := 86) (t := 113) dX6_busiest_86 (by decide) (fun c3 => ?_) (fun c3 => ?_)
      · refine wp_iinc (M := mX6_busiest) (pc := 113) (v := x5 + 1) (ls' := [.ref 14, .int x1, .int x2, .int x3, .int x4, .int (x5 + 1), .int x6, .int x7]) dX6_busiest_113 rfl (congrArg (fun z => _ + z) k_iconst_1) (by decide) rfl ?_
        refine wp_goto (M := mX6_busiest) (pc := 116) (t := 8) dX6_busiest_116 (by decide) ?_
        exact p3 c1 c2 c3
      · refine wp_aload_n (M := mX6_busiest) (pc := 89) dX6_busiest_89 rfl rfl ?_
        refine xs_getr (M := mX6_busiest) (pc := 90) (r := 15) dX6_busiest_90 fX6_9 sh14 rfl (gr14_1 sw) ?_
        refine wp_iload (M := mX6_busiest) (pc := 93) dX6_busiest_93 rfl ?_
        refine xs_iald (M := mX6_busiest) (pc := 95) (j := x5.toNatClampNeg) dX6_busiest_95 sh15 (p4 c1 c2 c3) rfl ?_
        refine wp_iload (M := mX6_busiest) (pc := 96) dX6_busiest_96 rfl ?_
        refine wp_icmp_ge (M := mX6_busiest) (pc := 98) (t := 113) dX6_busiest_98 (by decide) (fun c4 => ?_) (fun c4 => ?_)
        · refine wp_iinc (M := mX6_busiest) (pc := 113) (v := x5 + 1) (ls' := [.ref 14, .int x1, .int x2, .int x3, .int x4, .int (x5 + 1), .int x6, .int x7]) dX6_busiest_113 rfl (congrArg (fun z => _ + z) k_iconst_1) (by decide) rfl ?_
          refine wp_goto (M := mX6_busiest) (pc := 116) (t := 8) dX6_busiest_116 (by decide) ?_
          exact p5 c1 c2 c3 c4
        · refine wp_iload (M := mX6_busiest) (pc := 101) dX6_busiest_101 rfl ?_
          refine wp_istore_n (M := mX6_busiest) (pc := 103) (ls' := [.ref 14, .int x1, .int x2, .int x6, .int x4, .int x5, .int x6, .int x7]) dX6_busiest_103 rfl (by decide) rfl ?_
          refine wp_aload_n (M := mX6_busiest) (pc := 104) dX6_busiest_104 rfl rfl ?_
          refine xs_getr (M := mX6_busiest) (pc := 105) (r := 15) dX6_busiest_105 fX6_9 sh14 rfl (gr14_1 sw) ?_
          refine wp_iload (M := mX6_busiest) (pc := 108) dX6_busiest_108 rfl ?_
          refine xs_iald (M := mX6_busiest) (pc := 110) (j := x5.toNatClampNeg) dX6_busiest_110 sh15 (p6 c1 c2 c3 c4) rfl ?_
          refine wp_istore (M := mX6_busiest) (pc := 111) (ls' := [.ref 14, .int x1, .int x2, .int x6, .int (f 15 x5.toNatClampNeg), .int x5, .int x6, .int x7]) dX6_busiest_111 (by decide) rfl ?_
          refine wp_iinc (M := mX6_busiest) (pc := 113) (v := x5 + 1) (ls' := [.ref 14, .int x1, .int x2, .int x6, .int (f 15 x5.toNatClampNeg), .int (x5 + 1), .int x6, .int x7]) dX6_busiest_113 rfl (congrArg (fun z => _ + z) k_iconst_1) (by decide) rfl ?_
          refine wp_goto (M := mX6_busiest) (pc := 116) (t := 8) dX6_busiest_116 (by decide) ?_
          exact p7 c1 c2 c3 c4
  · refine wp_aload_n (M := mX6_busiest) (pc := 26) dX6_busiest_26 rfl rfl ?_
    refine xs_getr (M := mX6_busiest) (pc := 27) (r := 15) dX6_busiest_27 fX6_9 sh14 rfl (gr14_1 sw) ?_
    refine wp_iload (M := mX6_busiest) (pc := 30) dX6_busiest_30 rfl ?_
    refine xs_iald (M := mX6_busiest) (pc := 32) (j := x7.toNatClampNeg) dX6_busiest_32 sh15 (p8 c1) rfl ?_
    refine wp_aload_n (M := mX6_busiest) (pc := 33) dX6_busiest_33 rfl rfl ?_
    refine xs_getr (M := mX6_busiest) (pc := 34) (r := 15) dX6_busiest_34 fX6_9 sh14 rfl (gr14_1 sw) ?_
    refine wp_iload (M := mX6_busiest) (pc := 37) dX6_busiest_37 rfl ?_
    refine xs_iald (M := mX6_busiest) (pc := 39) (j := x5.toNatClampNeg) dX6_busiest_39 sh15 (p9 c1) rfl ?_
    refine wp_icmp_gt (M := mX6_busiest) (pc := 40) (t := 71) dX6_busiest_40 (by decide) (fun c5 => ?_) (fun c5 => ?_)
    · refine wp_iinc (M := mX6_busiest) (pc := 71) (v := x7 + 1) (ls' := [.ref 14, .int x1, .int x2, .int x3, .int x4, .int x5, .int x6, .int (x7 + 1)]) dX6_busiest_71 rfl (congrArg (fun z => _ + z) k_iconst_1) (by decide) rfl ?_
      refine wp_goto (M := mX6_busiest) (pc := 74) (t := 20) dX6_busiest_74 (by decide) ?_
      exact p10 c1 c5
    · refine wp_aload_n (M := mX6_busiest) (pc := 43) dX6_busiest_43 rfl rfl ?_
      refine xs_getr (M := mX6_busiest) (pc := 44) (r := 15) dX6_busiest_44 fX6_9 sh14 rfl (gr14_1 sw) ?_
      refine wp_iload (M := mX6_busiest) (pc := 47) dX6_busiest_47 rfl ?_
      refine xs_iald (M := mX6_busiest) (pc := 49) (j := x5.toNatClampNeg) dX6_busiest_49 sh15 (p11 c1 c5) rfl ?_
      refine wp_aload_n (M := mX6_busiest) (pc := 50) dX6_busiest_50 rfl rfl ?_
      refine xs_getr (M := mX6_busiest) (pc := 51) (r := 15) dX6_busiest_51 fX6_9 sh14 rfl (gr14_1 sw) ?_
      refine wp_iload (M := mX6_busiest) (pc := 54) dX6_busiest_54 rfl ?_
      refine xs_iald (M := mX6_busiest) (pc := 56) (j := x7.toNatClampNeg) dX6_busiest_56 sh15 (p12 c1 c5) rfl ?_
      refine wp_aload_n (M := mX6_busiest) (pc := 57) dX6_busiest_57 rfl rfl ?_
      refine xs_getr (M := mX6_busiest) (pc := 58) (r := 16) dX6_busiest_58 fX6_15 sh14 rfl (gr14_2 sw) ?_
      refine wp_iload (M := mX6_busiest) (pc := 61) dX6_busiest_61 rfl ?_
      refine xs_iald (M := mX6_busiest) (pc := 63) (j := x7.toNatClampNeg) dX6_busiest_63 sh16 (p13 c1 c5) rfl ?_
      refine wp_iadd (M := mX6_busiest) (pc := 64) dX6_busiest_64 ?_
      refine wp_icmp_ge (M := mX6_busiest) (pc := 65) (t := 71) dX6_busiest_65 (by decide) (fun c6 => ?_) (fun c6 => ?_)
      · refine wp_iinc (M := mX6_busiest) (pc := 71) (v := x7 + 1) (ls' := [.ref 14, .int x1, .int x2, .int x3, .int x4, .int x5, .int x6, .int (x7 + 1)]) dX6_busiest_71 rfl (congrArg (fun z => _ + z) k_iconst_1) (by decide) rfl ?_
        refine wp_goto (M := mX6_busiest) (pc := 74) (t := 20) dX6_busiest_74 (by decide) ?_
        exact p14 c1 c5 c6
      · refine wp_iinc (M := mX6_busiest) (pc := 68) (v := x6 + 1) (ls' := [.ref 14, .int x1, .int x2, .int x3, .int x4, .int x5, .int (x6 + 1), .int x7]) dX6_busiest_68 rfl (congrArg (fun z => _ + z) k_iconst_1) (by decide) rfl ?_
        refine wp_iinc (M := mX6_busiest) (pc := 71) (v := x7 + 1) (ls' := [.ref 14, .int x1, .int x2, .int x3, .int x4, .int x5, .int (x6 + 1), .int (x7 + 1)]) dX6_busiest_71 rfl (congrArg (fun z => _ + z) k_iconst_1) (by decide) rfl ?_
        refine wp_goto (M := mX6_busiest) (pc := 74) (t := 20) dX6_busiest_74 (by decide) ?_
        exact p15 c1 c5 c6
theorem bX6_readTariffs_0 {G : GC} {d : Nat} {sw : Bool} {f : FF} {Q : QQ} {x1 : Int32} (p1 : XP G mX6_readPairs (d + 1) 0 [.ref 14, .int x1, .null] [] sw f (fun v sw' f' => XP G mX6_readTariffs (d + 2) 5 [.ref 14, .int x1, .null] (retst v []) sw' f' Q)) : XP G mX6_readTariffs (d + 2) 0 [.ref 14, .int x1, .null] [] sw f Q := by
  refine wp_aload_n (M := mX6_readTariffs) (pc := 0) dX6_readTariffs_0 rfl rfl ?_
  refine wp_iload_n (M := mX6_readTariffs) (pc := 1) dX6_readTariffs_1 rfl rfl ?_
  refine xs_callV (d := d + 1) (M := mX6_readTariffs) (pc := 2) (As := [.int x1]) (st := []) (c := 6) (ls' := [.ref 14, .int x1, .null]) dX6_readTariffs_2 oX6_readPairs nX6_readPairs lX6_49 vX6_readPairs sX6_readPairs rfl sh14 (Nat.le_of_ble_eq_true rfl) rfl (Nat.le_of_ble_eq_true rfl) rfl ?_
  exact p1
theorem bX6_readTariffs_5 {G : GC} {d : Nat} {sw : Bool} {f : FF} {Q : QQ} {x1 : Int32} {v2 : Value} (p1 : XP G mX6_readTariffs (d + 2) 7 [.ref 14, .int x1, .int 0] [] sw f Q) : XP G mX6_readTariffs (d + 2) 5 [.ref 14, .int x1, v2] [] sw f Q := by
  refine wp_iconst (M := mX6_readTariffs) (pc := 5) dX6_readTariffs_5 k_iconst_0 ?_
  refine wp_istore_n (M := mX6_readTariffs) (pc := 6) (ls' := [.ref 14, .int x1, .int 0]) dX6_readTariffs_6 rfl (by decide) rfl ?_
  exact p1
theorem bX6_readTariffs_7 {G : GC} {d : Nat} {sw : Bool} {f : FF} {Q : QQ} {x1 : Int32} {x2 : Int32} (p1 : (x1 ≤ x2) → Q (some (.int 1)) sw f) (p2 : (¬ x1 ≤ x2) → vp_in x2 16) (p3 : (¬ x1 ≤ x2) → (¬ (1 ≤ (f 15 x2.toNatClampNeg) ∧ (f 15 x2.toNatClampNeg) ≤ 60)) → Q (some (.int 0)) sw f) (p4 : (¬ x1 ≤ x2) → (1 ≤ (f 15 x2.toNatClampNeg) ∧ (f 15 x2.toNatClampNeg) ≤ 60) → vp_in x2 16) (p5 : (¬ x1 ≤ x2) → (1 ≤ (f 15 x2.toNatClampNeg) ∧ (f 15 x2.toNatClampNeg) ≤ 60) → (¬ (f 16 x2.toNatClampNeg) = 0) → XP G mX6_readTariffs (d + 2) 7 [.ref 14, .int x1, .int (x2 + 1)] [] sw f Q) (p6 : (¬ x1 ≤ x2) → (1 ≤ (f 15 x2.toNatClampNeg) ∧ (f 15 x2.toNatClampNeg) ≤ 60) → ((f 16 x2.toNatClampNeg) = 0) → Q (some (.int 0)) sw f) : XP G mX6_readTariffs (d + 2) 7 [.ref 14, .int x1, .int x2] [] sw f Q := by
  refine wp_iload_n (M := mX6_readTariffs) (pc := 7) dX6_readTariffs_7 rfl rfl ?_
  refine wp_iload_n (M := mX6_readTariffs) (pc := 8) dX6_readTariffs_8 rfl rfl ?_
  refine wp_icmp_ge (M := mX6_readTariffs) (pc := 9) (t := 44) dX6_readTariffs_9 (by decide) (fun c1 => ?_) (fun c1 => ?_)
  · refine wp_iconst (M := mX6_readTariffs) (pc := 44) dX6_readTariffs_44 k_iconst_1 ?_
    exact xs_zret (M := mX6_readTariffs) (pc := 45) dX6_readTariffs_45 rfl (by decide) (p1 c1)
  · refine wp_aload_n (M := mX6_readTariffs) (pc := 12) dX6_readTariffs_12 rfl rfl ?_
    refine xs_getr (M := mX6_readTariffs) (pc := 13) (r := 15) dX6_readTariffs_13 fX6_9 sh14 rfl (gr14_1 sw) ?_
    refine wp_iload_n (M := mX6_readTariffs) (pc := 16) dX6_readTariffs_16 rfl rfl ?_
    refine xs_iald (M := mX6_readTariffs) (pc := 17) (j := x2.toNatClampNeg) dX6_readTariffs_17 sh15 (p2 c1) rfl ?_
    refine wp_iconst (M := mX6_readTariffs) (pc := 18) dX6_readTariffs_18 k_iconst_1 ?_
    refine wp_bipush (M := mX6_readTariffs) (pc := 19) dX6_readTariffs_19 k_bipush_60 ?_
    refine xs_callSN (d := d + 1) (M := mX6_readTariffs) (pc := 21) (As := [.int (f 15 x2.toNatClampNeg), .int 1, .int 60]) (st := []) (ls' := [.int (f 15 x2.toNatClampNeg), .int 1, .int 60]) dX6_readTariffs_21 oX10_within nX10_within hX6_66 tX10_within (Nat.le_of_ble_eq_true rfl) rfl (Nat.le_of_ble_eq_true rfl) rfl ?_
    refine sp_X10_within   ?_
    refine xs_ifb_eq (M := mX6_readTariffs) (pc := 24) (t := 36) dX6_readTariffs_24 (by decide) (fun c2 => ?_) (fun c2 => ?_)
    · refine wp_iconst (M := mX6_readTariffs) (pc := 36) dX6_readTariffs_36 k_iconst_0 ?_
      exact xs_zret (M := mX6_readTariffs) (pc := 37) dX6_readTariffs_37 rfl (by decide) (p3 c1 c2)
    · refine wp_aload_n (M := mX6_readTariffs) (pc := 27) dX6_readTariffs_27 rfl rfl ?_
      refine xs_getr (M := mX6_readTariffs) (pc := 28) (r := 16) dX6_readTariffs_28 fX6_15 sh14 rfl (gr14_2 sw) ?_
      refine wp_iload_n (M := mX6_readTariffs) (pc := 31) dX6_readTariffs_31 rfl rfl ?_
      refine xs_iald (M := mX6_readTariffs) (pc := 32) (j := x2.toNatClampNeg) dX6_readTariffs_32 sh16 (p4 c1 c2) rfl ?_
      refine wp_if_ne (M := mX6_readTariffs) (pc := 33) (t := 38) dX6_readTariffs_33 (by decide) (fun c3 => ?_) (fun c3 => ?_)
      · refine wp_iinc (M := mX6_readTariffs) (pc := 38) (v := x2 + 1) (ls' := [.ref 14, .int x1, .int (x2 + 1)]) dX6_readTariffs_38 rfl (congrArg (fun z => _ + z) k_iconst_1) (by decide) rfl ?_
        refine wp_goto (M := mX6_readTariffs) (pc := 41) (t := 7) dX6_readTariffs_41 (by decide) ?_
        exact p5 c1 c2 c3
      · refine wp_iconst (M := mX6_readTariffs) (pc := 36) dX6_readTariffs_36 k_iconst_0 ?_
        exact xs_zret (M := mX6_readTariffs) (pc := 37) dX6_readTariffs_37 rfl (by decide) (p6 c1 c2 c3)
theorem bX6_leastPence_0 {G : GC} {d : Nat} {sw : Bool} {f : FF} {Q : QQ} {x1 : Int32} {x2 : Int32} {x3 : Int32} (p1 : XP G mX6_leastPence (d) 10 [.ref 14, .int x1, .int x2, .int x3, .int 1, .null] [] sw (upd2 f 18 0 0) Q) : XP G mX6_leastPence (d) 0 [.ref 14, .int x1, .int x2, .int x3, .null, .null] [] sw f Q := by
  refine wp_aload_n (M := mX6_leastPence) (pc := 0) dX6_leastPence_0 rfl rfl ?_
  refine xs_getr (M := mX6_leastPence) (pc := 1) (r := 18) dX6_leastPence_1 fX6_21 sh14 rfl (gr14_4 sw) ?_
  refine wp_iconst (M := mX6_leastPence) (pc := 4) dX6_leastPence_4 k_iconst_0 ?_
  refine wp_iconst (M := mX6_leastPence) (pc := 5) dX6_leastPence_5 k_iconst_0 ?_
  refine xs_iast (M := mX6_leastPence) (pc := 6) (j := 0) dX6_leastPence_6 sh18 (vin (by decide)) rfl ?_
  refine wp_iconst (M := mX6_leastPence) (pc := 7) dX6_leastPence_7 k_iconst_1 ?_
  refine wp_istore (M := mX6_leastPence) (pc := 8) (ls' := [.ref 14, .int x1, .int x2, .int x3, .int 1, .null]) dX6_leastPence_8 (by decide) rfl ?_
  exact p1
theorem bX6_leastPence_10 {G : GC} {d : Nat} {sw : Bool} {f : FF} {Q : QQ} {x1 : Int32} {x2 : Int32} {x3 : Int32} {x4 : Int32} {v5 : Value} (p1 : (x3 < x4) → vp_in x3 241) (p2 : (x3 < x4) → Q (some (.int (f 18 x3.toNatClampNeg))) sw f) (p3 : (¬ x3 < x4) → vp_in x4 241) (p4 : (¬ x3 < x4) → XP G mX6_leastPence (d) 28 [.ref 14, .int x1, .int x2, .int x3, .int x4, .int x1] [] sw (upd2 f 18 x4.toNatClampNeg 1000000) Q) : XP G mX6_leastPence (d) 10 [.ref 14, .int x1, .int x2, .int x3, .int x4, v5] [] sw f Q := by
  refine wp_iload (M := mX6_leastPence) (pc := 10) dX6_leastPence_10 rfl ?_
  refine wp_iload_n (M := mX6_leastPence) (pc := 12) dX6_leastPence_12 rfl rfl ?_
  refine wp_icmp_gt (M := mX6_leastPence) (pc := 13) (t := 90) dX6_leastPence_13 (by decide) (fun c1 => ?_) (fun c1 => ?_)
  · refine wp_aload_n (M := mX6_leastPence) (pc := 90) dX6_leastPence_90 rfl rfl ?_
    refine xs_getr (M := mX6_leastPence) (pc := 91) (r := 18) dX6_leastPence_91 fX6_21 sh14 rfl (gr14_4 sw) ?_
    refine wp_iload_n (M := mX6_leastPence) (pc := 94) dX6_leastPence_94 rfl rfl ?_
    refine xs_iald (M := mX6_leastPence) (pc := 95) (j := x3.toNatClampNeg) dX6_leastPence_95 sh18 (p1 c1) rfl ?_
    exact xs_iret (M := mX6_leastPence) (pc := 96) dX6_leastPence_96 rfl (p2 c1)
  · refine wp_aload_n (M := mX6_leastPence) (pc := 16) dX6_leastPence_16 rfl rfl ?_
    refine xs_getr (M := mX6_leastPence) (pc := 17) (r := 18) dX6_leastPence_17 fX6_21 sh14 rfl (gr14_4 sw) ?_
    refine wp_iload (M := mX6_leastPence) (pc := 20) dX6_leastPence_20 rfl ?_
    refine wp_ldc (M := mX6_leastPence) (pc := 22) dX6_leastPence_22 kX6_69 ?_
    refine xs_iast (M := mX6_leastPence) (pc := 24) (j := x4.toNatClampNeg) dX6_leastPence_24 sh18 (p3 c1) rfl ?_
    refine wp_iload_n (M := mX6_leastPence) (pc := 25) dX6_leastPence_25 rfl rfl ?_
    refine wp_istore (M := mX6_leastPence) (pc := 26) (ls' := [.ref 14, .int x1, .int x2, .int x3, .int x4, .int x1]) dX6_leastPence_26 (by decide) rfl ?_
    exact p4 c1
theorem bX6_leastPence_28 {G : GC} {d : Nat} {sw : Bool} {f : FF} {Q : QQ} {x1 : Int32} {x2 : Int32} {x3 : Int32} {x4 : Int32} {x5 : Int32} (p1 : (x2 ≤ x5) → XP G mX6_leastPence (d) 10 [.ref 14, .int x1, .int x2, .int x3, .int (x4 + 1), .int x5] [] sw f Q) (p2 : (¬ x2 ≤ x5) → vp_in x4 241) (p3 : (¬ x2 ≤ x5) → vp_in x5 16) (p4 : (¬ x2 ≤ x5) → vp_in (if 0 < (x4 - (f 15 x5.toNatClampNeg)) then (x4 - (f 15 x5.toNatClampNeg)) else 0) 241) (p5 : (¬ x2 ≤ x5) → vp_in x5 16) (p6 : (¬ x2 ≤ x5) → vp_in x4 241) (p7 : (¬ x2 ≤ x5) → XP G mX6_leastPence (d) 28 [.ref 14, .int x1, .int x2, .int x3, .int x4, .int (x5 + 1)] [] sw (upd2 f 18 x4.toNatClampNeg (if ((f 18 ((if 0 < (x4 - (f 15 x5.toNatClampNeg)) then (x4 - (f 15 x5.toNatClampNeg)) else 0).toNatClampNeg)) + (f 16 x5.toNatClampNeg)) < (f 18 x4.toNatClampNeg) then ((f 18 ((if 0 < (x4 - (f 15 x5.toNatClampNeg)) then (x4 - (f 15 x5.toNatClampNeg)) else 0).toNatClampNeg)) + (f 16 x5.toNatClampNeg)) else (f 18 x4.toNatClampNeg))) Q) : XP G mX6_leastPence (d) 28 [.ref 14, .int x1, .int x2, .int x3, .int x4, .int x5] [] sw f Q := by
  refine wp_iload (M := mX6_leastPence) (pc := 28) dX6_leastPence_28 rfl ?_
  refine wp_iload_n (M := mX6_leastPence) (pc := 30) dX6_leastPence_30 rfl rfl ?_
  refine wp_icmp_ge (M := mX6_leastPence) (pc := 31) (t := 84) dX6_leastPence_31 (by decide) (fun c1 => ?_) (fun c1 => ?_)
  · refine wp_iinc (M := mX6_leastPence) (pc := 84) (v := x4 + 1) (ls' := [.ref 14, .int x1, .int x2, .int x3, .int (x4 + 1), .int x5]) dX6_leastPence_84 rfl (congrArg (fun z => _ + z) k_iconst_1) (by decide) rfl ?_
    refine wp_goto (M := mX6_leastPence) (pc := 87) (t := 10) dX6_leastPence_87 (by decide) ?_
    exact p1 c1
  · refine wp_aload_n (M := mX6_leastPence) (pc := 34) dX6_leastPence_34 rfl rfl ?_
    refine xs_getr (M := mX6_leastPence) (pc := 35) (r := 18) dX6_leastPence_35 fX6_21 sh14 rfl (gr14_4 sw) ?_
    refine wp_iload (M := mX6_leastPence) (pc := 38) dX6_leastPence_38 rfl ?_
    refine wp_aload_n (M := mX6_leastPence) (pc := 40) dX6_leastPence_40 rfl rfl ?_
    refine xs_getr (M := mX6_leastPence) (pc := 41) (r := 18) dX6_leastPence_41 fX6_21 sh14 rfl (gr14_4 sw) ?_
    refine wp_iload (M := mX6_leastPence) (pc := 44) dX6_leastPence_44 rfl ?_
    refine xs_iald (M := mX6_leastPence) (pc := 46) (j := x4.toNatClampNeg) dX6_leastPence_46 sh18 (p2 c1) rfl ?_
    refine wp_aload_n (M := mX6_leastPence) (pc := 47) dX6_leastPence_47 rfl rfl ?_
    refine xs_getr (M := mX6_leastPence) (pc := 48) (r := 18) dX6_leastPence_48 fX6_21 sh14 rfl (gr14_4 sw) ?_
    refine wp_iconst (M := mX6_leastPence) (pc := 51) dX6_leastPence_51 k_iconst_0 ?_
    refine wp_iload (M := mX6_leastPence) (pc := 52) dX6_leastPence_52 rfl ?_
    refine wp_aload_n (M := mX6_leastPence) (pc := 54) dX6_leastPence_54 rfl rfl ?_
    refine xs_getr (M := mX6_leastPence) (pc := 55) (r := 15) dX6_leastPence_55 fX6_9 sh14 rfl (gr14_1 sw) ?_
    refine wp_iload (M := mX6_leastPence) (pc := 58) dX6_leastPence_58 rfl ?_
    refine xs_iald (M := mX6_leastPence) (pc := 60) (j := x5.toNatClampNeg) dX6_leastPence_60 sh15 (p3 c1) rfl ?_
    refine wp_isub (M := mX6_leastPence) (pc := 61) dX6_leastPence_61 ?_
    refine xs_mmax (M := mX6_leastPence) (pc := 62) dX6_leastPence_62 lX6_60 (Nat.le_of_ble_eq_true rfl) ?_
    refine xs_iald (M := mX6_leastPence) (pc := 65) (j := (if 0 < (x4 - (f 15 x5.toNatClampNeg)) then (x4 - (f 15 x5.toNatClampNeg)) else 0).toNatClampNeg) dX6_leastPence_65 sh18 (p4 c1) rfl ?_
    refine wp_aload_n (M := mX6_leastPence) (pc := 66) dX6_leastPence_66 rfl rfl ?_
    refine xs_getr (M := mX6_leastPence) (pc := 67) (r := 16) dX6_leastPence_67 fX6_15 sh14 rfl (gr14_2 sw) ?_
    refine wp_iload (M := mX6_leastPence) (pc := 70) dX6_leastPence_70 rfl ?_
    refine xs_iald (M := mX6_leastPence) (pc := 72) (j := x5.toNatClampNeg) dX6_leastPence_72 sh16 (p5 c1) rfl ?_
    refine wp_iadd (M := mX6_leastPence) (pc := 73) dX6_leastPence_73 ?_
    refine xs_mmin (M := mX6_leastPence) (pc := 74) dX6_leastPence_74 lX6_70 (Nat.le_of_ble_eq_true rfl) ?_
    refine xs_iast (M := mX6_leastPence) (pc := 77) (j := x4.toNatClampNeg) dX6_leastPence_77 sh18 (p6 c1) rfl ?_
    refine wp_iinc (M := mX6_leastPence) (pc := 78) (v := x5 + 1) (ls' := [.ref 14, .int x1, .int x2, .int x3, .int x4, .int (x5 + 1)]) dX6_leastPence_78 rfl (congrArg (fun z => _ + z) k_iconst_1) (by decide) rfl ?_
    refine wp_goto (M := mX6_leastPence) (pc := 81) (t := 28) dX6_leastPence_81 (by decide) ?_
    exact p7 c1
theorem bX6_howOften_0 {G : GC} {d : Nat} {sw : Bool} {f : FF} {Q : QQ} {x1 : Int32} {x2 : Int32} {x3 : Int32} (p1 : XP G mX6_howOften (d + 1) 9 [.ref 14, .int x1, .int x2, .int x3, .int x2, .int 0, .int 0, .null] [] sw f Q) : XP G mX6_howOften (d + 1) 0 [.ref 14, .int x1, .int x2, .int x3, .null, .null, .null, .null] [] sw f Q := by
  refine wp_iload_n (M := mX6_howOften) (pc := 0) dX6_howOften_0 rfl rfl ?_
  refine wp_istore (M := mX6_howOften) (pc := 1) (ls' := [.ref 14, .int x1, .int x2, .int x3, .int x2, .null, .null, .null]) dX6_howOften_1 (by decide) rfl ?_
  refine wp_iconst (M := mX6_howOften) (pc := 3) dX6_howOften_3 k_iconst_0 ?_
  refine wp_istore (M := mX6_howOften) (pc := 4) (ls' := [.ref 14, .int x1, .int x2, .int x3, .int x2, .int 0, .null, .null]) dX6_howOften_4 (by decide) rfl ?_
  refine wp_iconst (M := mX6_howOften) (pc := 6) dX6_howOften_6 k_iconst_0 ?_
  refine wp_istore (M := mX6_howOften) (pc := 7) (ls' := [.ref 14, .int x1, .int x2, .int x3, .int x2, .int 0, .int 0, .null]) dX6_howOften_7 (by decide) rfl ?_
  exact p1
theorem bX6_howOften_9 {G : GC} {d : Nat} {sw : Bool} {f : FF} {Q : QQ} {x1 : Int32} {x2 : Int32} {x3 : Int32} {x4 : Int32} {x5 : Int32} {x6 : Int32} {v7 : Value} (p1 : (x3 < x6) → Q (some (.int x5)) sw f) (p2 : (¬ x3 < x6) → XP G mX6_leastPence (d) 0 [.ref 14, .int x6, .int x1, .int x4, .null, .null] [] sw f (fun v sw' f' => XP G mX6_howOften (d + 1) 24 [.ref 14, .int x1, .int x2, .int x3, .int x4, .int x5, .int x6, v7] (retst v []) sw' f' Q)) : XP G mX6_howOften (d + 1) 9 [.ref 14, .int x1, .int x2, .int x3, .int x4, .int x5, .int x6, v7] [] sw f Q := by
  refine wp_iload (M := mX6_howOften) (pc := 9) dX6_howOften_9 rfl ?_
  refine wp_iload_n (M := mX6_howOften) (pc := 11) dX6_howOften_11 rfl rfl ?_
  refine wp_icmp_gt (M := mX6_howOften) (pc := 12) (t := 75) dX6_howOften_12 (by decide) (fun c1 => ?_) (fun c1 => ?_)
  · refine wp_iload (M := mX6_howOften) (pc := 75) dX6_howOften_75 rfl ?_
    exact xs_iret (M := mX6_howOften) (pc := 77) dX6_howOften_77 rfl (p1 c1)
  · refine wp_aload_n (M := mX6_howOften) (pc := 15) dX6_howOften_15 rfl rfl ?_
    refine wp_iload (M := mX6_howOften) (pc := 16) dX6_howOften_16 rfl ?_
    refine wp_iload_n (M := mX6_howOften) (pc := 18) dX6_howOften_18 rfl rfl ?_
    refine wp_iload (M := mX6_howOften) (pc := 19) dX6_howOften_19 rfl ?_
    refine xs_callV (d := d) (M := mX6_howOften) (pc := 21) (As := [.int x6, .int x1, .int x4]) (st := []) (c := 6) (ls' := [.ref 14, .int x6, .int x1, .int x4, .null, .null]) dX6_howOften_21 oX6_leastPence nX6_leastPence lX6_73 vX6_leastPence sX6_leastPence rfl sh14 (Nat.le_of_ble_eq_true rfl) rfl (Nat.le_of_ble_eq_true rfl) rfl ?_
    exact p2 c1
theorem bX6_howOften_24 {G : GC} {d : Nat} {sw : Bool} {f : FF} {Q : QQ} {x1 : Int32} {x2 : Int32} {x3 : Int32} {x4 : Int32} {x5 : Int32} {x6 : Int32} {v7 : Value} {s0 : Int32} (p1 : XP G mX6_leastPence (d) 0 [.ref 14, .int (x6 + 1), .int x1, .int x4, .null, .null] [] sw f (fun v sw' f' => XP G mX6_howOften (d + 1) 37 [.ref 14, .int x1, .int x2, .int x3, .int x4, .int x5, .int x6, .int s0] (retst v []) sw' f' Q)) : XP G mX6_howOften (d + 1) 24 [.ref 14, .int x1, .int x2, .int x3, .int x4, .int x5, .int x6, v7] [.int s0] sw f Q := by
  refine wp_istore (M := mX6_howOften) (pc := 24) (ls' := [.ref 14, .int x1, .int x2, .int x3, .int x4, .int x5, .int x6, .int s0]) dX6_howOften_24 (by decide) rfl ?_
  refine wp_aload_n (M := mX6_howOften) (pc := 26) dX6_howOften_26 rfl rfl ?_
  refine wp_iload (M := mX6_howOften) (pc := 27) dX6_howOften_27 rfl ?_
  refine wp_iconst (M := mX6_howOften) (pc := 29) dX6_howOften_29 k_iconst_1 ?_
  refine wp_iadd (M := mX6_howOften) (pc := 30) dX6_howOften_30 ?_
  refine wp_iload_n (M := mX6_howOften) (pc := 31) dX6_howOften_31 rfl rfl ?_
  refine wp_iload (M := mX6_howOften) (pc := 32) dX6_howOften_32 rfl ?_
  refine xs_callV (d := d) (M := mX6_howOften) (pc := 34) (As := [.int (x6 + 1), .int x1, .int x4]) (st := []) (c := 6) (ls' := [.ref 14, .int (x6 + 1), .int x1, .int x4, .null, .null]) dX6_howOften_34 oX6_leastPence nX6_leastPence lX6_73 vX6_leastPence sX6_leastPence rfl sh14 (Nat.le_of_ble_eq_true rfl) rfl (Nat.le_of_ble_eq_true rfl) rfl ?_
  exact p1
theorem bX6_howOften_37 {G : GC} {d : Nat} {sw : Bool} {f : FF} {Q : QQ} {x1 : Int32} {x2 : Int32} {x3 : Int32} {x4 : Int32} {x5 : Int32} {x6 : Int32} {x7 : Int32} {s0 : Int32} (p1 : XP G mX6_mostOf (d) 0 [.ref 14, .int x6, .int x4, .int x7, .null, .null] [] sw f (fun v sw' f' => XP G mX6_howOften (d + 1) 48 [.ref 14, .int x1, .int x2, .int x3, .int x4, .int x5, .int x6, .int x7] (retst v []) sw' f' Q)) : XP G mX6_howOften (d + 1) 37 [.ref 14, .int x1, .int x2, .int x3, .int x4, .int x5, .int x6, .int x7] [.int s0] sw f Q := by
  refine wp_pop (M := mX6_howOften) (pc := 37) dX6_howOften_37 ?_
  refine wp_aload_n (M := mX6_howOften) (pc := 38) dX6_howOften_38 rfl rfl ?_
  refine wp_iload (M := mX6_howOften) (pc := 39) dX6_howOften_39 rfl ?_
  refine wp_iload (M := mX6_howOften) (pc := 41) dX6_howOften_41 rfl ?_
  refine wp_iload (M := mX6_howOften) (pc := 43) dX6_howOften_43 rfl ?_
  refine xs_callV (d := d) (M := mX6_howOften) (pc := 45) (As := [.int x6, .int x4, .int x7]) (st := []) (c := 6) (ls' := [.ref 14, .int x6, .int x4, .int x7, .null, .null]) dX6_howOften_45 oX6_mostOf nX6_mostOf lX6_77 vX6_mostOf sX6_mostOf rfl sh14 (Nat.le_of_ble_eq_true rfl) rfl (Nat.le_of_ble_eq_true rfl) rfl ?_
  exact p1
theorem bX6_howOften_48 {G : GC} {d : Nat} {sw : Bool} {f : FF} {Q : QQ} {x1 : Int32} {x2 : Int32} {x3 : Int32} {x4 : Int32} {x5 : Int32} {x6 : Int32} {x7 : Int32} {s0 : Int32} (p1 : vp_in x6 16) (p2 : XP G mX6_howOften (d + 1) 9 [.ref 14, .int x1, .int x2, .int x3, .int (if 0 < (x4 - (s0 * (f 15 x6.toNatClampNeg))) then (x4 - (s0 * (f 15 x6.toNatClampNeg))) else 0), .int s0, .int (x6 + 1), .int x7] [] sw f Q) : XP G mX6_howOften (d + 1) 48 [.ref 14, .int x1, .int x2, .int x3, .int x4, .int x5, .int x6, .int x7] [.int s0] sw f Q := by
  refine wp_istore (M := mX6_howOften) (pc := 48) (ls' := [.ref 14, .int x1, .int x2, .int x3, .int x4, .int s0, .int x6, .int x7]) dX6_howOften_48 (by decide) rfl ?_
  refine wp_iconst (M := mX6_howOften) (pc := 50) dX6_howOften_50 k_iconst_0 ?_
  refine wp_iload (M := mX6_howOften) (pc := 51) dX6_howOften_51 rfl ?_
  refine wp_iload (M := mX6_howOften) (pc := 53) dX6_howOften_53 rfl ?_
  refine wp_aload_n (M := mX6_howOften) (pc := 55) dX6_howOften_55 rfl rfl ?_
  refine xs_getr (M := mX6_howOften) (pc := 56) (r := 15) dX6_howOften_56 fX6_9 sh14 rfl (gr14_1 sw) ?_
  refine wp_iload (M := mX6_howOften) (pc := 59) dX6_howOften_59 rfl ?_
  refine xs_iald (M := mX6_howOften) (pc := 61) (j := x6.toNatClampNeg) dX6_howOften_61 sh15 (p1) rfl ?_
  refine wp_imul (M := mX6_howOften) (pc := 62) dX6_howOften_62 ?_
  refine wp_isub (M := mX6_howOften) (pc := 63) dX6_howOften_63 ?_
  refine xs_mmax (M := mX6_howOften) (pc := 64) dX6_howOften_64 lX6_60 (Nat.le_of_ble_eq_true rfl) ?_
  refine wp_istore (M := mX6_howOften) (pc := 67) (ls' := [.ref 14, .int x1, .int x2, .int x3, .int (if 0 < (x4 - (s0 * (f 15 x6.toNatClampNeg))) then (x4 - (s0 * (f 15 x6.toNatClampNeg))) else 0), .int s0, .int x6, .int x7]) dX6_howOften_67 (by decide) rfl ?_
  refine wp_iinc (M := mX6_howOften) (pc := 69) (v := x6 + 1) (ls' := [.ref 14, .int x1, .int x2, .int x3, .int (if 0 < (x4 - (s0 * (f 15 x6.toNatClampNeg))) then (x4 - (s0 * (f 15 x6.toNatClampNeg))) else 0), .int s0, .int (x6 + 1), .int x7]) dX6_howOften_69 rfl (congrArg (fun z => _ + z) k_iconst_1) (by decide) rfl ?_
  refine wp_goto (M := mX6_howOften) (pc := 72) (t := 9) dX6_howOften_72 (by decide) ?_
  exact p2
theorem bX6_mostOf_0 {G : GC} {d : Nat} {sw : Bool} {f : FF} {Q : QQ} {x1 : Int32} {x2 : Int32} {x3 : Int32} (p1 : XP G mX6_mostOf (d) 3 [.ref 14, .int x1, .int x2, .int x3, .int x2, .null] [] sw f Q) : XP G mX6_mostOf (d) 0 [.ref 14, .int x1, .int x2, .int x3, .null, .null] [] sw f Q := by
  refine wp_iload_n (M := mX6_mostOf) (pc := 0) dX6_mostOf_0 rfl rfl ?_
  refine wp_istore (M := mX6_mostOf) (pc := 1) (ls' := [.ref 14, .int x1, .int x2, .int x3, .int x2, .null]) dX6_mostOf_1 (by decide) rfl ?_
  exact p1
theorem bX6_mostOf_3 {G : GC} {d : Nat} {sw : Bool} {f : FF} {Q : QQ} {x1 : Int32} {x2 : Int32} {x3 : Int32} {x4 : Int32} {v5 : Value} (p1 : (x4 ≤ 0) → Q (some (.int 0)) sw f) (p2 : (¬ x4 ≤ 0) → vp_in x1 16) (p3 : (¬ x4 ≤ 0) → vp_in x1 16) (p4 : (¬ x4 ≤ 0) → vp_in (if 0 < (x2 - (x4 * (f 15 x1.toNatClampNeg))) then (x2 - (x4 * (f 15 x1.toNatClampNeg))) else 0) 241) (p5 : (¬ x4 ≤ 0) → (¬ ((x4 * (f 16 x1.toNatClampNeg)) + (f 18 ((if 0 < (x2 - (x4 * (f 15 x1.toNatClampNeg))) then (x2 - (x4 * (f 15 x1.toNatClampNeg))) else 0).toNatClampNeg))) = x3) → XP G mX6_mostOf (d) 3 [.ref 14, .int x1, .int x2, .int x3, .int (x4 + (-1)), .int (if 0 < (x2 - (x4 * (f 15 x1.toNatClampNeg))) then (x2 - (x4 * (f 15 x1.toNatClampNeg))) else 0)] [] sw f Q) (p6 : (¬ x4 ≤ 0) → (((x4 * (f 16 x1.toNatClampNeg)) + (f 18 ((if 0 < (x2 - (x4 * (f 15 x1.toNatClampNeg))) then (x2 - (x4 * (f 15 x1.toNatClampNeg))) else 0).toNatClampNeg))) = x3) → Q (some (.int x4)) sw f) : XP G mX6_mostOf (d) 3 [.ref 14, .int x1, .int x2, .int x3, .int x4, v5] [] sw f Q := by
  refine wp_iload (M := mX6_mostOf) (pc := 3) dX6_mostOf_3 rfl ?_
  refine wp_if_le (M := mX6_mostOf) (pc := 5) (t := 55) dX6_mostOf_5 (by decide) (fun c1 => ?_) (fun c1 => ?_)
  · refine wp_iconst (M := mX6_mostOf) (pc := 55) dX6_mostOf_55 k_iconst_0 ?_
    exact xs_iret (M := mX6_mostOf) (pc := 56) dX6_mostOf_56 rfl (p1 c1)
  · refine wp_iconst (M := mX6_mostOf) (pc := 8) dX6_mostOf_8 k_iconst_0 ?_
    refine wp_iload_n (M := mX6_mostOf) (pc := 9) dX6_mostOf_9 rfl rfl ?_
    refine wp_iload (M := mX6_mostOf) (pc := 10) dX6_mostOf_10 rfl ?_
    refine wp_aload_n (M := mX6_mostOf) (pc := 12) dX6_mostOf_12 rfl rfl ?_
    refine xs_getr (M := mX6_mostOf) (pc := 13) (r := 15) dX6_mostOf_13 fX6_9 sh14 rfl (gr14_1 sw) ?_
    refine wp_iload_n (M := mX6_mostOf) (pc := 16) dX6_mostOf_16 rfl rfl ?_
    refine xs_iald (M := mX6_mostOf) (pc := 17) (j := x1.toNatClampNeg) dX6_mostOf_17 sh15 (p2 c1) rfl ?_
    refine wp_imul (M := mX6_mostOf) (pc := 18) dX6_mostOf_18 ?_
    refine wp_isub (M := mX6_mostOf) (pc := 19) dX6_mostOf_19 ?_
    refine xs_mmax (M := mX6_mostOf) (pc := 20) dX6_mostOf_20 lX6_60 (Nat.le_of_ble_eq_true rfl) ?_
    refine wp_istore (M := mX6_mostOf) (pc := 23) (ls' := [.ref 14, .int x1, .int x2, .int x3, .int x4, .int (if 0 < (x2 - (x4 * (f 15 x1.toNatClampNeg))) then (x2 - (x4 * (f 15 x1.toNatClampNeg))) else 0)]) dX6_mostOf_23 (by decide) rfl ?_
    refine wp_iload (M := mX6_mostOf) (pc := 25) dX6_mostOf_25 rfl ?_
    refine wp_aload_n (M := mX6_mostOf) (pc := 27) dX6_mostOf_27 rfl rfl ?_
    refine xs_getr (M := mX6_mostOf) (pc := 28) (r := 16) dX6_mostOf_28 fX6_15 sh14 rfl (gr14_2 sw) ?_
    refine wp_iload_n (M := mX6_mostOf) (pc := 31) dX6_mostOf_31 rfl rfl ?_
    refine xs_iald (M := mX6_mostOf) (pc := 32) (j := x1.toNatClampNeg) dX6_mostOf_32 sh16 (p3 c1) rfl ?_
    refine wp_imul (M := mX6_mostOf) (pc := 33) dX6_mostOf_33 ?_
    refine wp_aload_n (M := mX6_mostOf) (pc := 34) dX6_mostOf_34 rfl rfl ?_
    refine xs_getr (M := mX6_mostOf) (pc := 35) (r := 18) dX6_mostOf_35 fX6_21 sh14 rfl (gr14_4 sw) ?_
    refine wp_iload (M := mX6_mostOf) (pc := 38) dX6_mostOf_38 rfl ?_
    refine xs_iald (M := mX6_mostOf) (pc := 40) (j := (if 0 < (x2 - (x4 * (f 15 x1.toNatClampNeg))) then (x2 - (x4 * (f 15 x1.toNatClampNeg))) else 0).toNatClampNeg) dX6_mostOf_40 sh18 (p4 c1) rfl ?_
    refine wp_iadd (M := mX6_mostOf) (pc := 41) dX6_mostOf_41 ?_
    refine wp_iload_n (M := mX6_mostOf) (pc := 42) dX6_mostOf_42 rfl rfl ?_
    refine wp_icmp_ne (M := mX6_mostOf) (pc := 43) (t := 49) dX6_mostOf_43 (by decide) (fun c2 => ?_) (fun c2 => ?_)
    · refine wp_iinc (M := mX6_mostOf) (pc := 49) (v := x4 + (-1)) (ls' := [.ref 14, .int x1, .int x2, .int x3, .int (x4 + (-1)), .int (if 0 < (x2 - (x4 * (f 15 x1.toNatClampNeg))) then (x2 - (x4 * (f 15 x1.toNatClampNeg))) else 0)]) dX6_mostOf_49 rfl (congrArg (fun z => _ + z) k_iconst_m1) (by decide) rfl ?_
      refine wp_goto (M := mX6_mostOf) (pc := 52) (t := 3) dX6_mostOf_52 (by decide) ?_
      exact p5 c1 c2
    · refine wp_iload (M := mX6_mostOf) (pc := 46) dX6_mostOf_46 rfl ?_
      exact xs_iret (M := mX6_mostOf) (pc := 48) dX6_mostOf_48 rfl (p6 c1 c2)
theorem bX6_readTellers_0 {G : GC} {d : Nat} {sw : Bool} {f : FF} {Q : QQ} {x1 : Int32} (p1 : XP G mX6_readTellers (d + 1) 9 [.ref 14, .int x1, .int 1] [] sw (upd2 f 15 0 (-1)) Q) : XP G mX6_readTellers (d + 1) 0 [.ref 14, .int x1, .null] [] sw f Q := by
  refine wp_aload_n (M := mX6_readTellers) (pc := 0) dX6_readTellers_0 rfl rfl ?_
  refine xs_getr (M := mX6_readTellers) (pc := 1) (r := 15) dX6_readTellers_1 fX6_9 sh14 rfl (gr14_1 sw) ?_
  refine wp_iconst (M := mX6_readTellers) (pc := 4) dX6_readTellers_4 k_iconst_0 ?_
  refine wp_iconst (M := mX6_readTellers) (pc := 5) dX6_readTellers_5 k_iconst_m1 ?_
  refine xs_iast (M := mX6_readTellers) (pc := 6) (j := 0) dX6_readTellers_6 sh15 (vin (by decide)) rfl ?_
  refine wp_iconst (M := mX6_readTellers) (pc := 7) dX6_readTellers_7 k_iconst_1 ?_
  refine wp_istore_n (M := mX6_readTellers) (pc := 8) (ls' := [.ref 14, .int x1, .int 1]) dX6_readTellers_8 rfl (by decide) rfl ?_
  exact p1
theorem bX6_readTellers_9 {G : GC} {d : Nat} {sw : Bool} {f : FF} {Q : QQ} {x1 : Int32} {x2 : Int32} (p1 : (x1 ≤ x2) → Q (some (.int 1)) sw f) (p2 : (¬ x1 ≤ x2) → vp_in x2 16) (p3 : (¬ x1 ≤ x2) → vp_in x2 16) (p4 : (¬ x1 ≤ x2) → (((upd2 f 15 x2.toNatClampNeg (tAt f x2)) 15 x2.toNatClampNeg) < x2) → XP G mX6_readTellers (d + 1) 9 [.ref 14, .int x1, .int (x2 + 1)] [] sw (upd2 f 15 x2.toNatClampNeg (tAt f x2)) Q) (p5 : (¬ x1 ≤ x2) → (¬ ((upd2 f 15 x2.toNatClampNeg (tAt f x2)) 15 x2.toNatClampNeg) < x2) → Q (some (.int 0)) sw (upd2 f 15 x2.toNatClampNeg (tAt f x2))) : XP G mX6_readTellers (d + 1) 9 [.ref 14, .int x1, .int x2] [] sw f Q := by
  refine wp_iload_n (M := mX6_readTellers) (pc := 9) dX6_readTellers_9 rfl rfl ?_
  refine wp_iload_n (M := mX6_readTellers) (pc := 10) dX6_readTellers_10 rfl rfl ?_
  refine wp_icmp_ge (M := mX6_readTellers) (pc := 11) (t := 46) dX6_readTellers_11 (by decide) (fun c1 => ?_) (fun c1 => ?_)
  · refine wp_iconst (M := mX6_readTellers) (pc := 46) dX6_readTellers_46 k_iconst_1 ?_
    exact xs_zret (M := mX6_readTellers) (pc := 47) dX6_readTellers_47 rfl (by decide) (p1 c1)
  · refine wp_aload_n (M := mX6_readTellers) (pc := 14) dX6_readTellers_14 rfl rfl ?_
    refine xs_getr (M := mX6_readTellers) (pc := 15) (r := 15) dX6_readTellers_15 fX6_9 sh14 rfl (gr14_1 sw) ?_
    refine wp_iload_n (M := mX6_readTellers) (pc := 18) dX6_readTellers_18 rfl rfl ?_
    refine wp_aload_n (M := mX6_readTellers) (pc := 19) dX6_readTellers_19 rfl rfl ?_
    refine xs_getr (M := mX6_readTellers) (pc := 20) (r := 1) dX6_readTellers_20 fX6_27 sh14 rfl (gr14_0 sw) ?_
    refine wp_iload_n (M := mX6_readTellers) (pc := 23) dX6_readTellers_23 rfl rfl ?_
    refine xs_callV (d := d) (M := mX6_readTellers) (pc := 24) (As := [.int x2]) (st := [.int x2, .ref 15]) (c := 8) (ls' := [.ref 1, .int x2]) dX6_readTellers_24 oX8_at nX8_at lX6_31 vX8_at sX8_at rfl sh1 (Nat.le_of_ble_eq_true rfl) rfl (Nat.le_of_ble_eq_true rfl) rfl ?_
    refine sp_X8_at   ?_
    refine xs_iast (M := mX6_readTellers) (pc := 27) (j := x2.toNatClampNeg) dX6_readTellers_27 sh15 (p2 c1) rfl ?_
    refine wp_aload_n (M := mX6_readTellers) (pc := 28) dX6_readTellers_28 rfl rfl ?_
    refine xs_getr (M := mX6_readTellers) (pc := 29) (r := 15) dX6_readTellers_29 fX6_9 sh14 rfl (gr14_1 sw) ?_
    refine wp_iload_n (M := mX6_readTellers) (pc := 32) dX6_readTellers_32 rfl rfl ?_
    refine xs_iald (M := mX6_readTellers) (pc := 33) (j := x2.toNatClampNeg) dX6_readTellers_33 sh15 (p3 c1) rfl ?_
    refine wp_iload_n (M := mX6_readTellers) (pc := 34) dX6_readTellers_34 rfl rfl ?_
    refine wp_icmp_lt (M := mX6_readTellers) (pc := 35) (t := 40) dX6_readTellers_35 (by decide) (fun c2 => ?_) (fun c2 => ?_)
    · refine wp_iinc (M := mX6_readTellers) (pc := 40) (v := x2 + 1) (ls' := [.ref 14, .int x1, .int (x2 + 1)]) dX6_readTellers_40 rfl (congrArg (fun z => _ + z) k_iconst_1) (by decide) rfl ?_
      refine wp_goto (M := mX6_readTellers) (pc := 43) (t := 9) dX6_readTellers_43 (by decide) ?_
      exact p4 c1 c2
    · refine wp_iconst (M := mX6_readTellers) (pc := 38) dX6_readTellers_38 k_iconst_0 ?_
      exact xs_zret (M := mX6_readTellers) (pc := 39) dX6_readTellers_39 rfl (by decide) (p5 c1 c2)
theorem bX6_soonest_0 {G : GC} {d : Nat} {sw : Bool} {f : FF} {Q : QQ} {x1 : Int32} (p1 : XP G mX6_soonest (d + 1) 4 [.ref 14, .int x1, .int (x1 - 1), .null] [] sw f Q) : XP G mX6_soonest (d + 1) 0 [.ref 14, .int x1, .null, .null] [] sw f Q := by
  refine wp_iload_n (M := mX6_soonest) (pc := 0) dX6_soonest_0 rfl rfl ?_
  refine wp_iconst (M := mX6_soonest) (pc := 1) dX6_soonest_1 k_iconst_1 ?_
  refine wp_isub (M := mX6_soonest) (pc := 2) dX6_soonest_2 ?_
  refine wp_istore_n (M := mX6_soonest) (pc := 3) (ls' := [.ref 14, .int x1, .int (x1 - 1), .null]) dX6_soonest_3 rfl (by decide) rfl ?_
  exact p1
theorem bX6_soonest_4 {G : GC} {d : Nat} {sw : Bool} {f : FF} {Q : QQ} {x1 : Int32} {x2 : Int32} {v3 : Value} (p1 : (x2 < 0) → Q (some (.int (f 16 0))) sw f) (p2 : (¬ x2 < 0) → vp_in x2 16) (p3 : (¬ x2 < 0) → XP G mX6_soonest (d + 1) 19 [.ref 14, .int x1, .int x2, .int (x2 + 1)] [] sw (upd2 f 16 x2.toNatClampNeg 0) Q) : XP G mX6_soonest (d + 1) 4 [.ref 14, .int x1, .int x2, v3] [] sw f Q := by
  refine wp_iload_n (M := mX6_soonest) (pc := 4) dX6_soonest_4 rfl rfl ?_
  refine wp_if_lt (M := mX6_soonest) (pc := 5) (t := 74) dX6_soonest_5 (by decide) (fun c1 => ?_) (fun c1 => ?_)
  · refine wp_aload_n (M := mX6_soonest) (pc := 74) dX6_soonest_74 rfl rfl ?_
    refine xs_getr (M := mX6_soonest) (pc := 75) (r := 16) dX6_soonest_75 fX6_15 sh14 rfl (gr14_2 sw) ?_
    refine wp_iconst (M := mX6_soonest) (pc := 78) dX6_soonest_78 k_iconst_0 ?_
    refine xs_iald (M := mX6_soonest) (pc := 79) (j := 0) dX6_soonest_79 sh16 (vin (by decide)) rfl ?_
    exact xs_iret (M := mX6_soonest) (pc := 80) dX6_soonest_80 rfl (p1 c1)
  · refine wp_aload_n (M := mX6_soonest) (pc := 8) dX6_soonest_8 rfl rfl ?_
    refine xs_getr (M := mX6_soonest) (pc := 9) (r := 16) dX6_soonest_9 fX6_15 sh14 rfl (gr14_2 sw) ?_
    refine wp_iload_n (M := mX6_soonest) (pc := 12) dX6_soonest_12 rfl rfl ?_
    refine wp_iconst (M := mX6_soonest) (pc := 13) dX6_soonest_13 k_iconst_0 ?_
    refine xs_iast (M := mX6_soonest) (pc := 14) (j := x2.toNatClampNeg) dX6_soonest_14 sh16 (p2 c1) rfl ?_
    refine wp_iload_n (M := mX6_soonest) (pc := 15) dX6_soonest_15 rfl rfl ?_
    refine wp_iconst (M := mX6_soonest) (pc := 16) dX6_soonest_16 k_iconst_1 ?_
    refine wp_iadd (M := mX6_soonest) (pc := 17) dX6_soonest_17 ?_
    refine wp_istore_n (M := mX6_soonest) (pc := 18) (ls' := [.ref 14, .int x1, .int x2, .int (x2 + 1)]) dX6_soonest_18 rfl (by decide) rfl ?_
    exact p3 c1
theorem bX6_soonest_19 {G : GC} {d : Nat} {sw : Bool} {f : FF} {Q : QQ} {x1 : Int32} {x2 : Int32} {x3 : Int32} (p1 : (x1 ≤ x3) → XP G mX6_soonest (d + 1) 4 [.ref 14, .int x1, .int (x2 + (-1)), .int x3] [] sw f Q) (p2 : (¬ x1 ≤ x3) → vp_in x3 16) (p3 : (¬ x1 ≤ x3) → (¬ (f 15 x3.toNatClampNeg) = x2) → XP G mX6_soonest (d + 1) 19 [.ref 14, .int x1, .int x2, .int (x3 + 1)] [] sw f Q) (p4 : (¬ x1 ≤ x3) → ((f 15 x3.toNatClampNeg) = x2) → vp_in x2 16) (p5 : (¬ x1 ≤ x3) → ((f 15 x3.toNatClampNeg) = x2) → XP G mX6_turnOf (d) 0 [.ref 14, .int x3, .int x1, .null, .null, .null] [] sw f (fun v sw' f' => XP G mX6_soonest (d + 1) 51 [.ref 14, .int x1, .int x2, .int x3] (retst v [.int (f 16 x2.toNatClampNeg), .int x2, .ref 16]) sw' f' Q)) : XP G mX6_soonest (d + 1) 19 [.ref 14, .int x1, .int x2, .int x3] [] sw f Q := by
  refine wp_iload_n (M := mX6_soonest) (pc := 19) dX6_soonest_19 rfl rfl ?_
  refine wp_iload_n (M := mX6_soonest) (pc := 20) dX6_soonest_20 rfl rfl ?_
  refine wp_icmp_ge (M := mX6_soonest) (pc := 21) (t := 68) dX6_soonest_21 (by decide) (fun c1 => ?_) (fun c1 => ?_)
  · refine wp_iinc (M := mX6_soonest) (pc := 68) (v := x2 + (-1)) (ls' := [.ref 14, .int x1, .int (x2 + (-1)), .int x3]) dX6_soonest_68 rfl (congrArg (fun z => _ + z) k_iconst_m1) (by decide) rfl ?_
    refine wp_goto (M := mX6_soonest) (pc := 71) (t := 4) dX6_soonest_71 (by decide) ?_
    exact p1 c1
  · refine wp_aload_n (M := mX6_soonest) (pc := 24) dX6_soonest_24 rfl rfl ?_
    refine xs_getr (M := mX6_soonest) (pc := 25) (r := 15) dX6_soonest_25 fX6_9 sh14 rfl (gr14_1 sw) ?_
    refine wp_iload_n (M := mX6_soonest) (pc := 28) dX6_soonest_28 rfl rfl ?_
    refine xs_iald (M := mX6_soonest) (pc := 29) (j := x3.toNatClampNeg) dX6_soonest_29 sh15 (p2 c1) rfl ?_
    refine wp_iload_n (M := mX6_soonest) (pc := 30) dX6_soonest_30 rfl rfl ?_
    refine wp_icmp_ne (M := mX6_soonest) (pc := 31) (t := 62) dX6_soonest_31 (by decide) (fun c2 => ?_) (fun c2 => ?_)
    · refine wp_iinc (M := mX6_soonest) (pc := 62) (v := x3 + 1) (ls' := [.ref 14, .int x1, .int x2, .int (x3 + 1)]) dX6_soonest_62 rfl (congrArg (fun z => _ + z) k_iconst_1) (by decide) rfl ?_
      refine wp_goto (M := mX6_soonest) (pc := 65) (t := 19) dX6_soonest_65 (by decide) ?_
      exact p3 c1 c2
    · refine wp_aload_n (M := mX6_soonest) (pc := 34) dX6_soonest_34 rfl rfl ?_
      refine xs_getr (M := mX6_soonest) (pc := 35) (r := 16) dX6_soonest_35 fX6_15 sh14 rfl (gr14_2 sw) ?_
      refine wp_iload_n (M := mX6_soonest) (pc := 38) dX6_soonest_38 rfl rfl ?_
      refine wp_aload_n (M := mX6_soonest) (pc := 39) dX6_soonest_39 rfl rfl ?_
      refine xs_getr (M := mX6_soonest) (pc := 40) (r := 16) dX6_soonest_40 fX6_15 sh14 rfl (gr14_2 sw) ?_
      refine wp_iload_n (M := mX6_soonest) (pc := 43) dX6_soonest_43 rfl rfl ?_
      refine xs_iald (M := mX6_soonest) (pc := 44) (j := x2.toNatClampNeg) dX6_soonest_44 sh16 (p4 c1 c2) rfl ?_
      refine wp_aload_n (M := mX6_soonest) (pc := 45) dX6_soonest_45 rfl rfl ?_
      refine wp_iload_n (M := mX6_soonest) (pc := 46) dX6_soonest_46 rfl rfl ?_
      refine wp_iload_n (M := mX6_soonest) (pc := 47) dX6_soonest_47 rfl rfl ?_
      refine xs_callV (d := d) (M := mX6_soonest) (pc := 48) (As := [.int x3, .int x1]) (st := [.int (f 16 x2.toNatClampNeg), .int x2, .ref 16]) (c := 6) (ls' := [.ref 14, .int x3, .int x1, .null, .null, .null]) dX6_soonest_48 oX6_turnOf nX6_turnOf lX6_80 vX6_turnOf sX6_turnOf rfl sh14 (Nat.le_of_ble_eq_true rfl) rfl (Nat.le_of_ble_eq_true rfl) rfl ?_
      exact p5 c1 c2
theorem bX6_soonest_51 {G : GC} {d : Nat} {sw : Bool} {f : FF} {Q : QQ} {x1 : Int32} {x2 : Int32} {x3 : Int32} {s0 : Int32} {s1 : Int32} {s2 : Int32} (p1 : vp_in x3 16) (p2 : vp_in s2 16) (p3 : XP G mX6_soonest (d + 1) 19 [.ref 14, .int x1, .int x2, .int (x3 + 1)] [] sw (upd2 f 16 s2.toNatClampNeg (if s1 < (s0 + (f 16 x3.toNatClampNeg)) then (s0 + (f 16 x3.toNatClampNeg)) else s1)) Q) : XP G mX6_soonest (d + 1) 51 [.ref 14, .int x1, .int x2, .int x3] [.int s0, .int s1, .int s2, .ref 16] sw f Q := by
  refine wp_aload_n (M := mX6_soonest) (pc := 51) dX6_soonest_51 rfl rfl ?_
  refine xs_getr (M := mX6_soonest) (pc := 52) (r := 16) dX6_soonest_52 fX6_15 sh14 rfl (gr14_2 sw) ?_
  refine wp_iload_n (M := mX6_soonest) (pc := 55) dX6_soonest_55 rfl rfl ?_
  refine xs_iald (M := mX6_soonest) (pc := 56) (j := x3.toNatClampNeg) dX6_soonest_56 sh16 (p1) rfl ?_
  refine wp_iadd (M := mX6_soonest) (pc := 57) dX6_soonest_57 ?_
  refine xs_mmax (M := mX6_soonest) (pc := 58) dX6_soonest_58 lX6_60 (Nat.le_of_ble_eq_true rfl) ?_
  refine xs_iast (M := mX6_soonest) (pc := 61) (j := s2.toNatClampNeg) dX6_soonest_61 sh16 (p2) rfl ?_
  refine wp_iinc (M := mX6_soonest) (pc := 62) (v := x3 + 1) (ls' := [.ref 14, .int x1, .int x2, .int (x3 + 1)]) dX6_soonest_62 rfl (congrArg (fun z => _ + z) k_iconst_1) (by decide) rfl ?_
  refine wp_goto (M := mX6_soonest) (pc := 65) (t := 19) dX6_soonest_65 (by decide) ?_
  exact p3
theorem bX6_turnOf_0 {G : GC} {d : Nat} {sw : Bool} {f : FF} {Q : QQ} {x1 : Int32} {x2 : Int32} (p1 : XP G mX6_turnOf (d) 5 [.ref 14, .int x1, .int x2, .int 1, .int 1, .null] [] sw f Q) : XP G mX6_turnOf (d) 0 [.ref 14, .int x1, .int x2, .null, .null, .null] [] sw f Q := by
  refine wp_iconst (M := mX6_turnOf) (pc := 0) dX6_turnOf_0 k_iconst_1 ?_
  refine wp_istore_n (M := mX6_turnOf) (pc := 1) (ls' := [.ref 14, .int x1, .int x2, .int 1, .null, .null]) dX6_turnOf_1 rfl (by decide) rfl ?_
  refine wp_iconst (M := mX6_turnOf) (pc := 2) dX6_turnOf_2 k_iconst_1 ?_
  refine wp_istore (M := mX6_turnOf) (pc := 3) (ls' := [.ref 14, .int x1, .int x2, .int 1, .int 1, .null]) dX6_turnOf_3 (by decide) rfl ?_
  exact p1
theorem bX6_turnOf_5 {G : GC} {d : Nat} {sw : Bool} {f : FF} {Q : QQ} {x1 : Int32} {x2 : Int32} {x3 : Int32} {x4 : Int32} {v5 : Value} (p1 : (x2 ≤ x4) → Q (some (.int x3)) sw f) (p2 : (¬ x2 ≤ x4) → vp_in x4 16) (p3 : (¬ x2 ≤ x4) → vp_in x1 16) (p4 : (¬ x2 ≤ x4) → ((f 16 x1.toNatClampNeg) < (f 16 x4.toNatClampNeg)) → vp_in x4 16) (p5 : (¬ x2 ≤ x4) → ((f 16 x1.toNatClampNeg) < (f 16 x4.toNatClampNeg)) → vp_in x1 16) (p6 : (¬ x2 ≤ x4) → ((f 16 x1.toNatClampNeg) < (f 16 x4.toNatClampNeg)) → (¬ (f 15 x4.toNatClampNeg) = (f 15 x1.toNatClampNeg)) → XP G mX6_turnOf (d) 5 [.ref 14, .int x1, .int x2, .int x3, .int (x4 + 1), .int 1] [] sw f Q) (p7 : (¬ x2 ≤ x4) → ((f 16 x1.toNatClampNeg) < (f 16 x4.toNatClampNeg)) → ((f 15 x4.toNatClampNeg) = (f 15 x1.toNatClampNeg)) → XP G mX6_turnOf (d) 5 [.ref 14, .int x1, .int x2, .int (x3 + 1), .int (x4 + 1), .int 1] [] sw f Q) (p8 : (¬ x2 ≤ x4) → (¬ (f 16 x1.toNatClampNeg) < (f 16 x4.toNatClampNeg)) → vp_in x4 16) (p9 : (¬ x2 ≤ x4) → (¬ (f 16 x1.toNatClampNeg) < (f 16 x4.toNatClampNeg)) → vp_in x1 16) (p10 : (¬ x2 ≤ x4) → (¬ (f 16 x1.toNatClampNeg) < (f 16 x4.toNatClampNeg)) → (¬ (f 16 x4.toNatClampNeg) = (f 16 x1.toNatClampNeg)) → vp_in x4 16) (p11 : (¬ x2 ≤ x4) → (¬ (f 16 x1.toNatClampNeg) < (f 16 x4.toNatClampNeg)) → (¬ (f 16 x4.toNatClampNeg) = (f 16 x1.toNatClampNeg)) → vp_in x1 16) (p12 : (¬ x2 ≤ x4) → (¬ (f 16 x1.toNatClampNeg) < (f 16 x4.toNatClampNeg)) → (¬ (f 16 x4.toNatClampNeg) = (f 16 x1.toNatClampNeg)) → (¬ (f 15 x4.toNatClampNeg) = (f 15 x1.toNatClampNeg)) → XP G mX6_turnOf (d) 5 [.ref 14, .int x1, .int x2, .int x3, .int (x4 + 1), .int 0] [] sw f Q) (p13 : (¬ x2 ≤ x4) → (¬ (f 16 x1.toNatClampNeg) < (f 16 x4.toNatClampNeg)) → (¬ (f 16 x4.toNatClampNeg) = (f 16 x1.toNatClampNeg)) → ((f 15 x4.toNatClampNeg) = (f 15 x1.toNatClampNeg)) → XP G mX6_turnOf (d) 5 [.ref 14, .int x1, .int x2, .int x3, .int (x4 + 1), .int 0] [] sw f Q) (p14 : (¬ x2 ≤ x4) → (¬ (f 16 x1.toNatClampNeg) < (f 16 x4.toNatClampNeg)) → ((f 16 x4.toNatClampNeg) = (f 16 x1.toNatClampNeg)) → (x1 ≤ x4) → vp_in x4 16) (p15 : (¬ x2 ≤ x4) → (¬ (f 16 x1.toNatClampNeg) < (f 16 x4.toNatClampNeg)) → ((f 16 x4.toNatClampNeg) = (f 16 x1.toNatClampNeg)) → (x1 ≤ x4) → vp_in x1 16) (p16 : (¬ x2 ≤ x4) → (¬ (f 16 x1.toNatClampNeg) < (f 16 x4.toNatClampNeg)) → ((f 16 x4.toNatClampNeg) = (f 16 x1.toNatClampNeg)) → (x1 ≤ x4) → (¬ (f 15 x4.toNatClampNeg) = (f 15 x1.toNatClampNeg)) → XP G mX6_turnOf (d) 5 [.ref 14, .int x1, .int x2, .int x3, .int (x4 + 1), .int 0] [] sw f Q) (p17 : (¬ x2 ≤ x4) → (¬ (f 16 x1.toNatClampNeg) < (f 16 x4.toNatClampNeg)) → ((f 16 x4.toNatClampNeg) = (f 16 x1.toNatClampNeg)) → (x1 ≤ x4) → ((f 15 x4.toNatClampNeg) = (f 15 x1.toNatClampNeg)) → XP G mX6_turnOf (d) 5 [.ref 14, .int x1, .int x2, .int x3, .int (x4 + 1), .int 0] [] sw f Q) (p18 : (¬ x2 ≤ x4) → (¬ (f 16 x1.toNatClampNeg) < (f 16 x4.toNatClampNeg)) → ((f 16 x4.toNatClampNeg) = (f 16 x1.toNatClampNeg)) → (¬ x1 ≤ x4) → vp_in x4 16) (p19 : (¬ x2 ≤ x4) → (¬ (f 16 x1.toNatClampNeg) < (f 16 x4.toNatClampNeg)) → ((f 16 x4.toNatClampNeg) = (f 16 x1.toNatClampNeg)) → (¬ x1 ≤ x4) → vp_in x1 16) (p20 : (¬ x2 ≤ x4) → (¬ (f 16 x1.toNatClampNeg) < (f 16 x4.toNatClampNeg)) → ((f 16 x4.toNatClampNeg) = (f 16 x1.toNatClampNeg)) → (¬ x1 ≤ x4) → (¬ (f 15 x4.toNatClampNeg) = (f 15 x1.toNatClampNeg)) → XP G mX6_turnOf (d) 5 [.ref 14, .int x1, .int x2, .int x3, .int (x4 + 1), .int 1] [] sw f Q) (p21 : (¬ x2 ≤ x4) → (¬ (f 16 x1.toNatClampNeg) < (f 16 x4.toNatClampNeg)) → ((f 16 x4.toNatClampNeg) = (f 16 x1.toNatClampNeg)) → (¬ x1 ≤ x4) → ((f 15 x4.toNatClampNeg) = (f 15 x1.toNatClampNeg)) → XP G mX6_turnOf (d) 5 [.ref 14, .int x1, .int x2, .int (x3 + 1), .int (x4 + 1), .int 1] [] sw f Q) : XP G mX6_turnOf (d) 5 [.ref 14, .int x1, .int x2, .int x3, .int x4, v5] [] sw f Q := by
  refine wp_iload (M := mX6_turnOf) (pc := 5) dX6_turnOf_5 rfl ?_
  refine wp_iload_n (M := mX6_turnOf) (pc := 7) dX6_turnOf_7 rfl rfl ?_
  refine wp_icmp_ge (M := mX6_turnOf) (pc := 8) (t := 86) dX6_turnOf_8 (by decide) (fun c1 => ?_) (fun c1 => ?_)
  · refine wp_iload_n (M := mX6_turnOf) (pc := 86) dX6_turnOf_86 rfl rfl ?_
    exact xs_iret (M := mX6_turnOf) (pc := 87) dX6_turnOf_87 rfl (p1 c1)
  · refine wp_aload_n (M := mX6_turnOf) (pc := 11) dX6_turnOf_11 rfl rfl ?_
    refine xs_getr (M := mX6_turnOf) (pc := 12) (r := 16) dX6_turnOf_12 fX6_15 sh14 rfl (gr14_2 sw) ?_
    refine wp_iload (M := mX6_turnOf) (pc := 15) dX6_turnOf_15 rfl ?_
    refine xs_iald (M := mX6_turnOf) (pc := 17) (j := x4.toNatClampNeg) dX6_turnOf_17 sh16 (p2 c1) rfl ?_
    refine wp_aload_n (M := mX6_turnOf) (pc := 18) dX6_turnOf_18 rfl rfl ?_
    refine xs_getr (M := mX6_turnOf) (pc := 19) (r := 16) dX6_turnOf_19 fX6_15 sh14 rfl (gr14_2 sw) ?_
    refine wp_iload_n (M := mX6_turnOf) (pc := 22) dX6_turnOf_22 rfl rfl ?_
    refine xs_iald (M := mX6_turnOf) (pc := 23) (j := x1.toNatClampNeg) dX6_turnOf_23 sh16 (p3 c1) rfl ?_
    refine wp_icmp_gt (M := mX6_turnOf) (pc := 24) (t := 49) dX6_turnOf_24 (by decide) (fun c2 => ?_) (fun c2 => ?_)
    · refine wp_iconst (M := mX6_turnOf) (pc := 49) dX6_turnOf_49 k_iconst_1 ?_
      refine wp_goto (M := mX6_turnOf) (pc := 50) (t := 54) dX6_turnOf_50 (by decide) ?_
      refine wp_istore (M := mX6_turnOf) (pc := 54) (ls' := [.ref 14, .int x1, .int x2, .int x3, .int x4, .int 1]) dX6_turnOf_54 (by decide) rfl ?_
      refine wp_aload_n (M := mX6_turnOf) (pc := 56) dX6_turnOf_56 rfl rfl ?_
      refine xs_getr (M := mX6_turnOf) (pc := 57) (r := 15) dX6_turnOf_57 fX6_9 sh14 rfl (gr14_1 sw) ?_
      refine wp_iload (M := mX6_turnOf) (pc := 60) dX6_turnOf_60 rfl ?_
      refine xs_iald (M := mX6_turnOf) (pc := 62) (j := x4.toNatClampNeg) dX6_turnOf_62 sh15 (p4 c1 c2) rfl ?_
      refine wp_aload_n (M := mX6_turnOf) (pc := 63) dX6_turnOf_63 rfl rfl ?_
      refine xs_getr (M := mX6_turnOf) (pc := 64) (r := 15) dX6_turnOf_64 fX6_9 sh14 rfl (gr14_1 sw) ?_
      refine wp_iload_n (M := mX6_turnOf) (pc := 67) dX6_turnOf_67 rfl rfl ?_
      refine xs_iald (M := mX6_turnOf) (pc := 68) (j := x1.toNatClampNeg) dX6_turnOf_68 sh15 (p5 c1 c2) rfl ?_
      refine wp_icmp_ne (M := mX6_turnOf) (pc := 69) (t := 80) dX6_turnOf_69 (by decide) (fun c3 => ?_) (fun c3 => ?_)
      · refine wp_iinc (M := mX6_turnOf) (pc := 80) (v := x4 + 1) (ls' := [.ref 14, .int x1, .int x2, .int x3, .int (x4 + 1), .int 1]) dX6_turnOf_80 rfl (congrArg (fun z => _ + z) k_iconst_1) (by decide) rfl ?_
        refine wp_goto (M := mX6_turnOf) (pc := 83) (t := 5) dX6_turnOf_83 (by decide) ?_
        exact p6 c1 c2 c3
      · refine wp_iload (M := mX6_turnOf) (pc := 72) dX6_turnOf_72 rfl ?_
        refine wp_if_eq (M := mX6_turnOf) (pc := 74) (t := 80) dX6_turnOf_74 (by decide) (fun c => absurd c (by decide)) (fun _ => ?_)
        refine wp_iinc (M := mX6_turnOf) (pc := 77) (v := x3 + 1) (ls' := [.ref 14, .int x1, .int x2, .int (x3 + 1), .int x4, .int 1]) dX6_turnOf_77 rfl (congrArg (fun z => _ + z) k_iconst_1) (by decide) rfl ?_
        refine wp_iinc (M := mX6_turnOf) (pc := 80) (v := x4 + 1) (ls' := [.ref 14, .int x1, .int x2, .int (x3 + 1), .int (x4 + 1), .int 1]) dX6_turnOf_80 rfl (congrArg (fun z => _ + z) k_iconst_1) (by decide) rfl ?_
        refine wp_goto (M := mX6_turnOf) (pc := 83) (t := 5) dX6_turnOf_83 (by decide) ?_
        exact p7 c1 c2 c3
    · refine wp_aload_n (M := mX6_turnOf) (pc := 27) dX6_turnOf_27 rfl rfl ?_
      refine xs_getr (M := mX6_turnOf) (pc := 28) (r := 16) dX6_turnOf_28 fX6_15 sh14 rfl (gr14_2 sw) ?_
      refine wp_iload (M := mX6_turnOf) (pc := 31) dX6_turnOf_31 rfl ?_
      refine xs_iald (M := mX6_turnOf) (pc := 33) (j := x4.toNatClampNeg) dX6_turnOf_33 sh16 (p8 c1 c2) rfl ?_
      refine wp_aload_n (M := mX6_turnOf) (pc := 34) dX6_turnOf_34 rfl rfl ?_
      refine xs_getr (M := mX6_turnOf) (pc := 35) (r := 16) dX6_turnOf_35 fX6_15 sh14 rfl (gr14_2 sw) ?_
      refine wp_iload_n (M := mX6_turnOf) (pc := 38) dX6_turnOf_38 rfl rfl ?_
      refine xs_iald (M := mX6_turnOf) (pc := 39) (j := x1.toNatClampNeg) dX6_turnOf_39 sh16 (p9 c1 c2) rfl ?_
      refine wp_icmp_ne (M := mX6_turnOf) (pc := 40) (t := 53) dX6_turnOf_40 (by decide) (fun c4 => ?_) (fun c4 => ?_)
      · refine wp_iconst (M := mX6_turnOf) (pc := 53) dX6_turnOf_53 k_iconst_0 ?_
        refine wp_istore (M := mX6_turnOf) (pc := 54) (ls' := [.ref 14, .int x1, .int x2, .int x3, .int x4, .int 0]) dX6_turnOf_54 (by decide) rfl ?_
        refine wp_aload_n (M := mX6_turnOf) (pc := 56) dX6_turnOf_56 rfl rfl ?_
        refine xs_getr (M := mX6_turnOf) (pc := 57) (r := 15) dX6_turnOf_57 fX6_9 sh14 rfl (gr14_1 sw) ?_
        refine wp_iload (M := mX6_turnOf) (pc := 60) dX6_turnOf_60 rfl ?_
        refine xs_iald (M := mX6_turnOf) (pc := 62) (j := x4.toNatClampNeg) dX6_turnOf_62 sh15 (p10 c1 c2 c4) rfl ?_
        refine wp_aload_n (M := mX6_turnOf) (pc := 63) dX6_turnOf_63 rfl rfl ?_
        refine xs_getr (M := mX6_turnOf) (pc := 64) (r := 15) dX6_turnOf_64 fX6_9 sh14 rfl (gr14_1 sw) ?_
        refine wp_iload_n (M := mX6_turnOf) (pc := 67) dX6_turnOf_67 rfl rfl ?_
        refine xs_iald (M := mX6_turnOf) (pc := 68) (j := x1.toNatClampNeg) dX6_turnOf_68 sh15 (p11 c1 c2 c4) rfl ?_
        refine wp_icmp_ne (M := mX6_turnOf) (pc := 69) (t := 80) dX6_turnOf_69 (by decide) (fun c5 => ?_) (fun c5 => ?_)
        · refine wp_iinc (M := mX6_turnOf) (pc := 80) (v := x4 + 1) (ls' := [.ref 14, .int x1, .int x2, .int x3, .int (x4 + 1), .int 0]) dX6_turnOf_80 rfl (congrArg (fun z => _ + z) k_iconst_1) (by decide) rfl ?_
          refine wp_goto (M := mX6_turnOf) (pc := 83) (t := 5) dX6_turnOf_83 (by decide) ?_
          exact p12 c1 c2 c4 c5
        · refine wp_iload (M := mX6_turnOf) (pc := 72) dX6_turnOf_72 rfl ?_
          refine wp_if_eq (M := mX6_turnOf) (pc := 74) (t := 80) dX6_turnOf_74 (by decide) (fun _ => ?_) (fun c => absurd c (by decide))
          refine wp_iinc (M := mX6_turnOf) (pc := 80) (v := x4 + 1) (ls' := [.ref 14, .int x1, .int x2, .int x3, .int (x4 + 1), .int 0]) dX6_turnOf_80 rfl (congrArg (fun z => _ + z) k_iconst_1) (by decide) rfl ?_
          refine wp_goto (M := mX6_turnOf) (pc := 83) (t := 5) dX6_turnOf_83 (by decide) ?_
          exact p13 c1 c2 c4 c5
      · refine wp_iload (M := mX6_turnOf) (pc := 43) dX6_turnOf_43 rfl ?_
        refine wp_iload_n (M := mX6_turnOf) (pc := 45) dX6_turnOf_45 rfl rfl ?_
        refine wp_icmp_ge (M := mX6_turnOf) (pc := 46) (t := 53) dX6_turnOf_46 (by decide) (fun c6 => ?_) (fun c6 => ?_)
        · refine wp_iconst (M := mX6_turnOf) (pc := 53) dX6_turnOf_53 k_iconst_0 ?_
          refine wp_istore (M := mX6_turnOf) (pc := 54) (ls' := [.ref 14, .int x1, .int x2, .int x3, .int x4, .int 0]) dX6_turnOf_54 (by decide) rfl ?_
          refine wp_aload_n (M := mX6_turnOf) (pc := 56) dX6_turnOf_56 rfl rfl ?_
          refine xs_getr (M := mX6_turnOf) (pc := 57) (r := 15) dX6_turnOf_57 fX6_9 sh14 rfl (gr14_1 sw) ?_
          refine wp_iload (M := mX6_turnOf) (pc := 60) dX6_turnOf_60 rfl ?_
          refine xs_iald (M := mX6_turnOf) (pc := 62) (j := x4.toNatClampNeg) dX6_turnOf_62 sh15 (p14 c1 c2 c4 c6) rfl ?_
          refine wp_aload_n (M := mX6_turnOf) (pc := 63) dX6_turnOf_63 rfl rfl ?_
          refine xs_getr (M := mX6_turnOf) (pc := 64) (r := 15) dX6_turnOf_64 fX6_9 sh14 rfl (gr14_1 sw) ?_
          refine wp_iload_n (M := mX6_turnOf) (pc := 67) dX6_turnOf_67 rfl rfl ?_
          refine xs_iald (M := mX6_turnOf) (pc := 68) (j := x1.toNatClampNeg) dX6_turnOf_68 sh15 (p15 c1 c2 c4 c6) rfl ?_
          refine wp_icmp_ne (M := mX6_turnOf) (pc := 69) (t := 80) dX6_turnOf_69 (by decide) (fun c7 => ?_) (fun c7 => ?_)
          · refine wp_iinc (M := mX6_turnOf) (pc := 80) (v := x4 + 1) (ls' := [.ref 14, .int x1, .int x2, .int x3, .int (x4 + 1), .int 0]) dX6_turnOf_80 rfl (congrArg (fun z => _ + z) k_iconst_1) (by decide) rfl ?_
            refine wp_goto (M := mX6_turnOf) (pc := 83) (t := 5) dX6_turnOf_83 (by decide) ?_
            exact p16 c1 c2 c4 c6 c7
          · refine wp_iload (M := mX6_turnOf) (pc := 72) dX6_turnOf_72 rfl ?_
            refine wp_if_eq (M := mX6_turnOf) (pc := 74) (t := 80) dX6_turnOf_74 (by decide) (fun _ => ?_) (fun c => absurd c (by decide))
            refine wp_iinc (M := mX6_turnOf) (pc := 80) (v := x4 + 1) (ls' := [.ref 14, .int x1, .int x2, .int x3, .int (x4 + 1), .int 0]) dX6_turnOf_80 rfl (congrArg (fun z => _ + z) k_iconst_1) (by decide) rfl ?_
            refine wp_goto (M := mX6_turnOf) (pc := 83) (t := 5) dX6_turnOf_83 (by decide) ?_
            exact p17 c1 c2 c4 c6 c7
        · refine wp_iconst (M := mX6_turnOf) (pc := 49) dX6_turnOf_49 k_iconst_1 ?_
          refine wp_goto (M := mX6_turnOf) (pc := 50) (t := 54) dX6_turnOf_50 (by decide) ?_
          refine wp_istore (M := mX6_turnOf) (pc := 54) (ls' := [.ref 14, .int x1, .int x2, .int x3, .int x4, .int 1]) dX6_turnOf_54 (by decide) rfl ?_
          refine wp_aload_n (M := mX6_turnOf) (pc := 56) dX6_turnOf_56 rfl rfl ?_
          refine xs_getr (M := mX6_turnOf) (pc := 57) (r := 15) dX6_turnOf_57 fX6_9 sh14 rfl (gr14_1 sw) ?_
          refine wp_iload (M := mX6_turnOf) (pc := 60) dX6_turnOf_60 rfl ?_
          refine xs_iald (M := mX6_turnOf) (pc := 62) (j := x4.toNatClampNeg) dX6_turnOf_62 sh15 (p18 c1 c2 c4 c6) rfl ?_
          refine wp_aload_n (M := mX6_turnOf) (pc := 63) dX6_turnOf_63 rfl rfl ?_
          refine xs_getr (M := mX6_turnOf) (pc := 64) (r := 15) dX6_turnOf_64 fX6_9 sh14 rfl (gr14_1 sw) ?_
          refine wp_iload_n (M := mX6_turnOf) (pc := 67) dX6_turnOf_67 rfl rfl ?_
          refine xs_iald (M := mX6_turnOf) (pc := 68) (j := x1.toNatClampNeg) dX6_turnOf_68 sh15 (p19 c1 c2 c4 c6) rfl ?_
          refine wp_icmp_ne (M := mX6_turnOf) (pc := 69) (t := 80) dX6_turnOf_69 (by decide) (fun c8 => ?_) (fun c8 => ?_)
          · refine wp_iinc (M := mX6_turnOf) (pc := 80) (v := x4 + 1) (ls' := [.ref 14, .int x1, .int x2, .int x3, .int (x4 + 1), .int 1]) dX6_turnOf_80 rfl (congrArg (fun z => _ + z) k_iconst_1) (by decide) rfl ?_
            refine wp_goto (M := mX6_turnOf) (pc := 83) (t := 5) dX6_turnOf_83 (by decide) ?_
            exact p20 c1 c2 c4 c6 c8
          · refine wp_iload (M := mX6_turnOf) (pc := 72) dX6_turnOf_72 rfl ?_
            refine wp_if_eq (M := mX6_turnOf) (pc := 74) (t := 80) dX6_turnOf_74 (by decide) (fun c => absurd c (by decide)) (fun _ => ?_)
            refine wp_iinc (M := mX6_turnOf) (pc := 77) (v := x3 + 1) (ls' := [.ref 14, .int x1, .int x2, .int (x3 + 1), .int x4, .int 1]) dX6_turnOf_77 rfl (congrArg (fun z => _ + z) k_iconst_1) (by decide) rfl ?_
            refine wp_iinc (M := mX6_turnOf) (pc := 80) (v := x4 + 1) (ls' := [.ref 14, .int x1, .int x2, .int (x3 + 1), .int (x4 + 1), .int 1]) dX6_turnOf_80 rfl (congrArg (fun z => _ + z) k_iconst_1) (by decide) rfl ?_
            refine wp_goto (M := mX6_turnOf) (pc := 83) (t := 5) dX6_turnOf_83 (by decide) ?_
            exact p21 c1 c2 c4 c6 c8
theorem bX6_firstRung_0 {G : GC} {d : Nat} {sw : Bool} {f : FF} {Q : QQ} {x1 : Int32} (p1 : XP G mX6_soonest (d + 1) 0 [.ref 14, .int x1, .null, .null] [] sw f (fun v sw' f' => XP G mX6_firstRung (d + 2) 5 [.ref 14, .int x1, .null] (retst v []) sw' f' Q)) : XP G mX6_firstRung (d + 2) 0 [.ref 14, .int x1, .null] [] sw f Q := by
  refine wp_aload_n (M := mX6_firstRung) (pc := 0) dX6_firstRung_0 rfl rfl ?_
  refine wp_iload_n (M := mX6_firstRung) (pc := 1) dX6_firstRung_1 rfl rfl ?_
  refine xs_callV (d := d + 1) (M := mX6_firstRung) (pc := 2) (As := [.int x1]) (st := []) (c := 6) (ls' := [.ref 14, .int x1, .null, .null]) dX6_firstRung_2 oX6_soonest nX6_soonest lX6_83 vX6_soonest sX6_soonest rfl sh14 (Nat.le_of_ble_eq_true rfl) rfl (Nat.le_of_ble_eq_true rfl) rfl ?_
  exact p1
theorem bX6_firstRung_5 {G : GC} {d : Nat} {sw : Bool} {f : FF} {Q : QQ} {x1 : Int32} {v2 : Value} {s0 : Int32} (p1 : XP G mX6_firstRung (d + 2) 8 [.ref 14, .int x1, .int 1] [] sw f Q) : XP G mX6_firstRung (d + 2) 5 [.ref 14, .int x1, v2] [.int s0] sw f Q := by
  refine wp_pop (M := mX6_firstRung) (pc := 5) dX6_firstRung_5 ?_
  refine wp_iconst (M := mX6_firstRung) (pc := 6) dX6_firstRung_6 k_iconst_1 ?_
  refine wp_istore_n (M := mX6_firstRung) (pc := 7) (ls' := [.ref 14, .int x1, .int 1]) dX6_firstRung_7 rfl (by decide) rfl ?_
  exact p1
theorem bX6_firstRung_8 {G : GC} {d : Nat} {sw : Bool} {f : FF} {Q : QQ} {x1 : Int32} {x2 : Int32} (p1 : (x1 ≤ x2) → Q (some (.int (-2))) sw f) (p2 : (¬ x1 ≤ x2) → vp_in x2 16) (p3 : (¬ x1 ≤ x2) → (¬ (f 15 x2.toNatClampNeg) = 0) → XP G mX6_firstRung (d + 2) 8 [.ref 14, .int x1, .int (x2 + 1)] [] sw f Q) (p4 : (¬ x1 ≤ x2) → ((f 15 x2.toNatClampNeg) = 0) → XP G mX6_turnOf (d + 1) 0 [.ref 14, .int x2, .int x1, .null, .null, .null] [] sw f (fun v sw' f' => XP G mX6_firstRung (d + 2) 28 [.ref 14, .int x1, .int x2] (retst v []) sw' f' Q)) : XP G mX6_firstRung (d + 2) 8 [.ref 14, .int x1, .int x2] [] sw f Q := by
  refine wp_iload_n (M := mX6_firstRung) (pc := 8) dX6_firstRung_8 rfl rfl ?_
  refine wp_iload_n (M := mX6_firstRung) (pc := 9) dX6_firstRung_9 rfl rfl ?_
  refine wp_icmp_ge (M := mX6_firstRung) (pc := 10) (t := 40) dX6_firstRung_10 (by decide) (fun c1 => ?_) (fun c1 => ?_)
  · refine wp_bipush (M := mX6_firstRung) (pc := 40) dX6_firstRung_40 k_bipush_m2 ?_
    exact xs_iret (M := mX6_firstRung) (pc := 42) dX6_firstRung_42 rfl (p1 c1)
  · refine wp_aload_n (M := mX6_firstRung) (pc := 13) dX6_firstRung_13 rfl rfl ?_
    refine xs_getr (M := mX6_firstRung) (pc := 14) (r := 15) dX6_firstRung_14 fX6_9 sh14 rfl (gr14_1 sw) ?_
    refine wp_iload_n (M := mX6_firstRung) (pc := 17) dX6_firstRung_17 rfl rfl ?_
    refine xs_iald (M := mX6_firstRung) (pc := 18) (j := x2.toNatClampNeg) dX6_firstRung_18 sh15 (p2 c1) rfl ?_
    refine wp_if_ne (M := mX6_firstRung) (pc := 19) (t := 34) dX6_firstRung_19 (by decide) (fun c2 => ?_) (fun c2 => ?_)
    · refine wp_iinc (M := mX6_firstRung) (pc := 34) (v := x2 + 1) (ls' := [.ref 14, .int x1, .int (x2 + 1)]) dX6_firstRung_34 rfl (congrArg (fun z => _ + z) k_iconst_1) (by decide) rfl ?_
      refine wp_goto (M := mX6_firstRung) (pc := 37) (t := 8) dX6_firstRung_37 (by decide) ?_
      exact p3 c1 c2
    · refine wp_aload_n (M := mX6_firstRung) (pc := 22) dX6_firstRung_22 rfl rfl ?_
      refine wp_iload_n (M := mX6_firstRung) (pc := 23) dX6_firstRung_23 rfl rfl ?_
      refine wp_iload_n (M := mX6_firstRung) (pc := 24) dX6_firstRung_24 rfl rfl ?_
      refine xs_callV (d := d + 1) (M := mX6_firstRung) (pc := 25) (As := [.int x2, .int x1]) (st := []) (c := 6) (ls' := [.ref 14, .int x2, .int x1, .null, .null, .null]) dX6_firstRung_25 oX6_turnOf nX6_turnOf lX6_80 vX6_turnOf sX6_turnOf rfl sh14 (Nat.le_of_ble_eq_true rfl) rfl (Nat.le_of_ble_eq_true rfl) rfl ?_
      exact p4 c1 c2
theorem bX6_firstRung_28 {G : GC} {d : Nat} {sw : Bool} {f : FF} {Q : QQ} {x1 : Int32} {x2 : Int32} {s0 : Int32} (p1 : (¬ s0 = 1) → XP G mX6_firstRung (d + 2) 8 [.ref 14, .int x1, .int (x2 + 1)] [] sw f Q) (p2 : (s0 = 1) → Q (some (.int x2)) sw f) : XP G mX6_firstRung (d + 2) 28 [.ref 14, .int x1, .int x2] [.int s0] sw f Q := by
  refine wp_iconst (M := mX6_firstRung) (pc := 28) dX6_firstRung_28 k_iconst_1 ?_
  refine wp_icmp_ne (M := mX6_firstRung) (pc := 29) (t := 34) dX6_firstRung_29 (by decide) (fun c1 => ?_) (fun c1 => ?_)
  · refine wp_iinc (M := mX6_firstRung) (pc := 34) (v := x2 + 1) (ls' := [.ref 14, .int x1, .int (x2 + 1)]) dX6_firstRung_34 rfl (congrArg (fun z => _ + z) k_iconst_1) (by decide) rfl ?_
    refine wp_goto (M := mX6_firstRung) (pc := 37) (t := 8) dX6_firstRung_37 (by decide) ?_
    exact p1 c1
  · refine wp_iload_n (M := mX6_firstRung) (pc := 32) dX6_firstRung_32 rfl rfl ?_
    exact xs_iret (M := mX6_firstRung) (pc := 33) dX6_firstRung_33 rfl (p2 c1)
theorem bX6_cipher_0 {G : GC} {d : Nat} {sw : Bool} {f : FF} {Q : QQ} {x1 : Int32} {x2 : Int32} {x3 : Int32} (p1 : XP G mX6_layAlphabet (d + 1) 0 [.ref 14, .int x1, .null, .null, .null, .null] [] sw f (fun v sw' f' => XP G mX6_cipher (d + 2) 5 [.ref 14, .int x1, .int x2, .int x3, .null, .null] (retst v []) sw' f' Q)) : XP G mX6_cipher (d + 2) 0 [.ref 14, .int x1, .int x2, .int x3, .null, .null] [] sw f Q := by
  refine wp_aload_n (M := mX6_cipher) (pc := 0) dX6_cipher_0 rfl rfl ?_
  refine wp_iload_n (M := mX6_cipher) (pc := 1) dX6_cipher_1 rfl rfl ?_
  refine xs_callV (d := d + 1) (M := mX6_cipher) (pc := 2) (As := [.int x1]) (st := []) (c := 6) (ls' := [.ref 14, .int x1, .null, .null, .null, .null]) dX6_cipher_2 oX6_layAlphabet nX6_layAlphabet lX6_86 vX6_layAlphabet sX6_layAlphabet rfl sh14 (Nat.le_of_ble_eq_true rfl) rfl (Nat.le_of_ble_eq_true rfl) rfl ?_
  exact p1
theorem bX6_cipher_5 {G : GC} {d : Nat} {sw : Bool} {f : FF} {Q : QQ} {x1 : Int32} {x2 : Int32} {x3 : Int32} {v4 : Value} {v5 : Value} (p1 : (¬ x2 = 0) → XP G mX6_cipher (d + 2) 48 [.ref 14, .int x1, .int x2, .int x3, .int ((tAt f x3) - 65), .int 0] [] sw f Q) (p2 : (x2 = 0) → (¬ (0 ≤ ((tAt f x3) - 65) ∧ ((tAt f x3) - 65) ≤ 25)) → Q (some (.int (-1))) sw f) (p3 : (x2 = 0) → (0 ≤ ((tAt f x3) - 65) ∧ ((tAt f x3) - 65) ≤ 25) → vp_in ((tAt f x3) - 65) 26) (p4 : (x2 = 0) → (0 ≤ ((tAt f x3) - 65) ∧ ((tAt f x3) - 65) ≤ 25) → Q (some (.int (f 19 (((tAt f x3) - 65).toNatClampNeg)))) sw f) : XP G mX6_cipher (d + 2) 5 [.ref 14, .int x1, .int x2, .int x3, v4, v5] [] sw f Q := by
  refine wp_aload_n (M := mX6_cipher) (pc := 5) dX6_cipher_5 rfl rfl ?_
  refine xs_getr (M := mX6_cipher) (pc := 6) (r := 1) dX6_cipher_6 fX6_27 sh14 rfl (gr14_0 sw) ?_
  refine wp_iload_n (M := mX6_cipher) (pc := 9) dX6_cipher_9 rfl rfl ?_
  refine xs_callV (d := d + 1) (M := mX6_cipher) (pc := 10) (As := [.int x3]) (st := []) (c := 8) (ls' := [.ref 1, .int x3]) dX6_cipher_10 oX8_at nX8_at lX6_31 vX8_at sX8_at rfl sh1 (Nat.le_of_ble_eq_true rfl) rfl (Nat.le_of_ble_eq_true rfl) rfl ?_
  refine sp_X8_at   ?_
  refine wp_bipush (M := mX6_cipher) (pc := 13) dX6_cipher_13 k_bipush_65 ?_
  refine wp_isub (M := mX6_cipher) (pc := 15) dX6_cipher_15 ?_
  refine wp_istore (M := mX6_cipher) (pc := 16) (ls' := [.ref 14, .int x1, .int x2, .int x3, .int ((tAt f x3) - 65), v5]) dX6_cipher_16 (by decide) rfl ?_
  refine wp_iload_n (M := mX6_cipher) (pc := 18) dX6_cipher_18 rfl rfl ?_
  refine wp_if_ne (M := mX6_cipher) (pc := 19) (t := 45) dX6_cipher_19 (by decide) (fun c1 => ?_) (fun c1 => ?_)
  · refine wp_iconst (M := mX6_cipher) (pc := 45) dX6_cipher_45 k_iconst_0 ?_
    refine wp_istore (M := mX6_cipher) (pc := 46) (ls' := [.ref 14, .int x1, .int x2, .int x3, .int ((tAt f x3) - 65), .int 0]) dX6_cipher_46 (by decide) rfl ?_
    exact p1 c1
  · refine wp_iload (M := mX6_cipher) (pc := 22) dX6_cipher_22 rfl ?_
    refine wp_iconst (M := mX6_cipher) (pc := 24) dX6_cipher_24 k_iconst_0 ?_
    refine wp_bipush (M := mX6_cipher) (pc := 25) dX6_cipher_25 k_bipush_25 ?_
    refine xs_callSN (d := d + 1) (M := mX6_cipher) (pc := 27) (As := [.int ((tAt f x3) - 65), .int 0, .int 25]) (st := []) (ls' := [.int ((tAt f x3) - 65), .int 0, .int 25]) dX6_cipher_27 oX10_within nX10_within hX6_66 tX10_within (Nat.le_of_ble_eq_true rfl) rfl (Nat.le_of_ble_eq_true rfl) rfl ?_
    refine sp_X10_within   ?_
    refine xs_ifb_eq (M := mX6_cipher) (pc := 30) (t := 43) dX6_cipher_30 (by decide) (fun c2 => ?_) (fun c2 => ?_)
    · refine wp_iconst (M := mX6_cipher) (pc := 43) dX6_cipher_43 k_iconst_m1 ?_
      exact xs_iret (M := mX6_cipher) (pc := 44) dX6_cipher_44 rfl (p2 c1 c2)
    · refine wp_aload_n (M := mX6_cipher) (pc := 33) dX6_cipher_33 rfl rfl ?_
      refine xs_getr (M := mX6_cipher) (pc := 34) (r := 19) dX6_cipher_34 fX6_24 sh14 rfl (gr14_5 sw) ?_
      refine wp_iload (M := mX6_cipher) (pc := 37) dX6_cipher_37 rfl ?_
      refine xs_iald (M := mX6_cipher) (pc := 39) (j := ((tAt f x3) - 65).toNatClampNeg) dX6_cipher_39 sh19 (p3 c1 c2) rfl ?_
      refine wp_goto (M := mX6_cipher) (pc := 40) (t := 44) dX6_cipher_40 (by decide) ?_
      exact xs_iret (M := mX6_cipher) (pc := 44) dX6_cipher_44 rfl (p4 c1 c2)
theorem bX6_cipher_48 {G : GC} {d : Nat} {sw : Bool} {f : FF} {Q : QQ} {x1 : Int32} {x2 : Int32} {x3 : Int32} {x4 : Int32} {x5 : Int32} (p1 : (26 ≤ x5) → Q (some (.int (-1))) sw f) (p2 : (¬ 26 ≤ x5) → vp_in x5 26) (p3 : (¬ 26 ≤ x5) → (¬ (f 19 x5.toNatClampNeg) = x4) → XP G mX6_cipher (d + 2) 48 [.ref 14, .int x1, .int x2, .int x3, .int x4, .int (x5 + 1)] [] sw f Q) (p4 : (¬ 26 ≤ x5) → ((f 19 x5.toNatClampNeg) = x4) → Q (some (.int x5)) sw f) : XP G mX6_cipher (d + 2) 48 [.ref 14, .int x1, .int x2, .int x3, .int x4, .int x5] [] sw f Q := by
  refine wp_iload (M := mX6_cipher) (pc := 48) dX6_cipher_48 rfl ?_
  refine wp_bipush (M := mX6_cipher) (pc := 50) dX6_cipher_50 k_bipush_26 ?_
  refine wp_icmp_ge (M := mX6_cipher) (pc := 52) (t := 76) dX6_cipher_52 (by decide) (fun c1 => ?_) (fun c1 => ?_)
  · refine wp_iconst (M := mX6_cipher) (pc := 76) dX6_cipher_76 k_iconst_m1 ?_
    exact xs_iret (M := mX6_cipher) (pc := 77) dX6_cipher_77 rfl (p1 c1)
  · refine wp_aload_n (M := mX6_cipher) (pc := 55) dX6_cipher_55 rfl rfl ?_
    refine xs_getr (M := mX6_cipher) (pc := 56) (r := 19) dX6_cipher_56 fX6_24 sh14 rfl (gr14_5 sw) ?_
    refine wp_iload (M := mX6_cipher) (pc := 59) dX6_cipher_59 rfl ?_
    refine xs_iald (M := mX6_cipher) (pc := 61) (j := x5.toNatClampNeg) dX6_cipher_61 sh19 (p2 c1) rfl ?_
    refine wp_iload (M := mX6_cipher) (pc := 62) dX6_cipher_62 rfl ?_
    refine wp_icmp_ne (M := mX6_cipher) (pc := 64) (t := 70) dX6_cipher_64 (by decide) (fun c2 => ?_) (fun c2 => ?_)
    · refine wp_iinc (M := mX6_cipher) (pc := 70) (v := x5 + 1) (ls' := [.ref 14, .int x1, .int x2, .int x3, .int x4, .int (x5 + 1)]) dX6_cipher_70 rfl (congrArg (fun z => _ + z) k_iconst_1) (by decide) rfl ?_
      refine wp_goto (M := mX6_cipher) (pc := 73) (t := 48) dX6_cipher_73 (by decide) ?_
      exact p3 c1 c2
    · refine wp_iload (M := mX6_cipher) (pc := 67) dX6_cipher_67 rfl ?_
      exact xs_iret (M := mX6_cipher) (pc := 69) dX6_cipher_69 rfl (p4 c1 c2)
theorem bX6_layAlphabet_0 {G : GC} {d : Nat} {sw : Bool} {f : FF} {Q : QQ} {x1 : Int32} (p1 : XP G mX6_layAlphabet (d + 1) 7 [.ref 14, .int x1, .int 0, .int 0, .int 0, .null] [] sw f Q) : XP G mX6_layAlphabet (d + 1) 0 [.ref 14, .int x1, .null, .null, .null, .null] [] sw f Q := by
  refine wp_iconst (M := mX6_layAlphabet) (pc := 0) dX6_layAlphabet_0 k_iconst_0 ?_
  refine wp_istore_n (M := mX6_layAlphabet) (pc := 1) (ls' := [.ref 14, .int x1, .int 0, .null, .null, .null]) dX6_layAlphabet_1 rfl (by decide) rfl ?_
  refine wp_iconst (M := mX6_layAlphabet) (pc := 2) dX6_layAlphabet_2 k_iconst_0 ?_
  refine wp_istore_n (M := mX6_layAlphabet) (pc := 3) (ls' := [.ref 14, .int x1, .int 0, .int 0, .null, .null]) dX6_layAlphabet_3 rfl (by decide) rfl ?_
  refine wp_iconst (M := mX6_layAlphabet) (pc := 4) dX6_layAlphabet_4 k_iconst_0 ?_
  refine wp_istore (M := mX6_layAlphabet) (pc := 5) (ls' := [.ref 14, .int x1, .int 0, .int 0, .int 0, .null]) dX6_layAlphabet_5 (by decide) rfl ?_
  exact p1
theorem bX6_layAlphabet_7 {G : GC} {d : Nat} {sw : Bool} {f : FF} {Q : QQ} {x1 : Int32} {x2 : Int32} {x3 : Int32} {x4 : Int32} {v5 : Value} (p1 : ((x1 + 26) ≤ x4) → Q none sw f) (p2 : (¬ (x1 + 26) ≤ x4) → (x1 ≤ x4) → (¬ ((x2 >>> ((x4 - x1) &&& 31)) &&& 1) = 0) → XP G mX6_layAlphabet (d + 1) 7 [.ref 14, .int x1, .int x2, .int x3, .int (x4 + 1), .int (x4 - x1)] [] sw f Q) (p3 : (¬ (x1 + 26) ≤ x4) → (x1 ≤ x4) → (((x2 >>> ((x4 - x1) &&& 31)) &&& 1) = 0) → (26 ≤ x3) → XP G mX6_layAlphabet (d + 1) 7 [.ref 14, .int x1, .int x2, .int x3, .int (x4 + 1), .int (x4 - x1)] [] sw f Q) (p4 : (¬ (x1 + 26) ≤ x4) → (x1 ≤ x4) → (((x2 >>> ((x4 - x1) &&& 31)) &&& 1) = 0) → (¬ 26 ≤ x3) → vp_in x3 26) (p5 : (¬ (x1 + 26) ≤ x4) → (x1 ≤ x4) → (((x2 >>> ((x4 - x1) &&& 31)) &&& 1) = 0) → (¬ 26 ≤ x3) → XP G mX6_layAlphabet (d + 1) 7 [.ref 14, .int x1, .int (x2 ||| ((1 : Int32) <<< ((x4 - x1) &&& 31))), .int (x3 + 1), .int (x4 + 1), .int (x4 - x1)] [] sw (upd2 f 19 x3.toNatClampNeg (x4 - x1)) Q) (p6 : (¬ (x1 + 26) ≤ x4) → (¬ x1 ≤ x4) → (¬ ((x2 >>> (((tAt f x4) - 65) &&& 31)) &&& 1) = 0) → XP G mX6_layAlphabet (d + 1) 7 [.ref 14, .int x1, .int x2, .int x3, .int (x4 + 1), .int ((tAt f x4) - 65)] [] sw f Q) (p7 : (¬ (x1 + 26) ≤ x4) → (¬ x1 ≤ x4) → (((x2 >>> (((tAt f x4) - 65) &&& 31)) &&& 1) = 0) → (26 ≤ x3) → XP G mX6_layAlphabet (d + 1) 7 [.ref 14, .int x1, .int x2, .int x3, .int (x4 + 1), .int ((tAt f x4) - 65)] [] sw f Q) (p8 : (¬ (x1 + 26) ≤ x4) → (¬ x1 ≤ x4) → (((x2 >>> (((tAt f x4) - 65) &&& 31)) &&& 1) = 0) → (¬ 26 ≤ x3) → vp_in x3 26) (p9 : (¬ (x1 + 26) ≤ x4) → (¬ x1 ≤ x4) → (((x2 >>> (((tAt f x4) - 65) &&& 31)) &&& 1) = 0) → (¬ 26 ≤ x3) → XP G mX6_layAlphabet (d + 1) 7 [.ref 14, .int x1, .int (x2 ||| ((1 : Int32) <<< (((tAt f x4) - 65) &&& 31))), .int (x3 + 1), .int (x4 + 1), .int ((tAt f x4) - 65)] [] sw (upd2 f 19 x3.toNatClampNeg ((tAt f x4) - 65)) Q) : XP G mX6_layAlphabet (d + 1) 7 [.ref 14, .int x1, .int x2, .int x3, .int x4, v5] [] sw f Q := by
  refine wp_iload (M := mX6_layAlphabet) (pc := 7) dX6_layAlphabet_7 rfl ?_
  refine wp_iload_n (M := mX6_layAlphabet) (pc := 9) dX6_layAlphabet_9 rfl rfl ?_
  refine wp_bipush (M := mX6_layAlphabet) (pc := 10) dX6_layAlphabet_10 k_bipush_26 ?_
  refine wp_iadd (M := mX6_layAlphabet) (pc := 12) dX6_layAlphabet_12 ?_
  refine wp_icmp_ge (M := mX6_layAlphabet) (pc := 13) (t := 82) dX6_layAlphabet_13 (by decide) (fun c1 => ?_) (fun c1 => ?_)
  · exact xs_ret (M := mX6_layAlphabet) (pc := 82) dX6_layAlphabet_82 rfl (p1 c1)
  · refine wp_iload (M := mX6_layAlphabet) (pc := 16) dX6_layAlphabet_16 rfl ?_
    refine wp_iload_n (M := mX6_layAlphabet) (pc := 18) dX6_layAlphabet_18 rfl rfl ?_
    refine wp_icmp_ge (M := mX6_layAlphabet) (pc := 19) (t := 37) dX6_layAlphabet_19 (by decide) (fun c2 => ?_) (fun c2 => ?_)
    · refine wp_iload (M := mX6_layAlphabet) (pc := 37) dX6_layAlphabet_37 rfl ?_
      refine wp_iload_n (M := mX6_layAlphabet) (pc := 39) dX6_layAlphabet_39 rfl rfl ?_
      refine wp_isub (M := mX6_layAlphabet) (pc := 40) dX6_layAlphabet_40 ?_
      refine wp_istore (M := mX6_layAlphabet) (pc := 41) (ls' := [.ref 14, .int x1, .int x2, .int x3, .int x4, .int (x4 - x1)]) dX6_layAlphabet_41 (by decide) rfl ?_
      refine wp_iload_n (M := mX6_layAlphabet) (pc := 43) dX6_layAlphabet_43 rfl rfl ?_
      refine wp_iload (M := mX6_layAlphabet) (pc := 44) dX6_layAlphabet_44 rfl ?_
      refine wp_ishr (M := mX6_layAlphabet) (pc := 46) dX6_layAlphabet_46 ?_
      refine wp_iconst (M := mX6_layAlphabet) (pc := 47) dX6_layAlphabet_47 k_iconst_1 ?_
      refine wp_iand (M := mX6_layAlphabet) (pc := 48) dX6_layAlphabet_48 ?_
      refine wp_if_ne (M := mX6_layAlphabet) (pc := 49) (t := 76) dX6_layAlphabet_49 (by decide) (fun c3 => ?_) (fun c3 => ?_)
      · refine wp_iinc (M := mX6_layAlphabet) (pc := 76) (v := x4 + 1) (ls' := [.ref 14, .int x1, .int x2, .int x3, .int (x4 + 1), .int (x4 - x1)]) dX6_layAlphabet_76 rfl (congrArg (fun z => _ + z) k_iconst_1) (by decide) rfl ?_
        refine wp_goto (M := mX6_layAlphabet) (pc := 79) (t := 7) dX6_layAlphabet_79 (by decide) ?_
        exact p2 c1 c2 c3
      · refine wp_iload_n (M := mX6_layAlphabet) (pc := 52) dX6_layAlphabet_52 rfl rfl ?_
        refine wp_bipush (M := mX6_layAlphabet) (pc := 53) dX6_layAlphabet_53 k_bipush_26 ?_
        refine wp_icmp_ge (M := mX6_layAlphabet) (pc := 55) (t := 76) dX6_layAlphabet_55 (by decide) (fun c4 => ?_) (fun c4 => ?_)
        · refine wp_iinc (M := mX6_layAlphabet) (pc := 76) (v := x4 + 1) (ls' := [.ref 14, .int x1, .int x2, .int x3, .int (x4 + 1), .int (x4 - x1)]) dX6_layAlphabet_76 rfl (congrArg (fun z => _ + z) k_iconst_1) (by decide) rfl ?_
          refine wp_goto (M := mX6_layAlphabet) (pc := 79) (t := 7) dX6_layAlphabet_79 (by decide) ?_
          exact p3 c1 c2 c3 c4
        · refine wp_aload_n (M := mX6_layAlphabet) (pc := 58) dX6_layAlphabet_58 rfl rfl ?_
          refine xs_getr (M := mX6_layAlphabet) (pc := 59) (r := 19) dX6_layAlphabet_59 fX6_24 sh14 rfl (gr14_5 sw) ?_
          refine wp_iload_n (M := mX6_layAlphabet) (pc := 62) dX6_layAlphabet_62 rfl rfl ?_
          refine wp_iload (M := mX6_layAlphabet) (pc := 63) dX6_layAlphabet_63 rfl ?_
          refine xs_iast (M := mX6_layAlphabet) (pc := 65) (j := x3.toNatClampNeg) dX6_layAlphabet_65 sh19 (p4 c1 c2 c3 c4) rfl ?_
          refine wp_iinc (M := mX6_layAlphabet) (pc := 66) (v := x3 + 1) (ls' := [.ref 14, .int x1, .int x2, .int (x3 + 1), .int x4, .int (x4 - x1)]) dX6_layAlphabet_66 rfl (congrArg (fun z => _ + z) k_iconst_1) (by decide) rfl ?_
          refine wp_iload_n (M := mX6_layAlphabet) (pc := 69) dX6_layAlphabet_69 rfl rfl ?_
          refine wp_iconst (M := mX6_layAlphabet) (pc := 70) dX6_layAlphabet_70 k_iconst_1 ?_
          refine wp_iload (M := mX6_layAlphabet) (pc := 71) dX6_layAlphabet_71 rfl ?_
          refine wp_ishl (M := mX6_layAlphabet) (pc := 73) dX6_layAlphabet_73 ?_
          refine wp_ior (M := mX6_layAlphabet) (pc := 74) dX6_layAlphabet_74 ?_
          refine wp_istore_n (M := mX6_layAlphabet) (pc := 75) (ls' := [.ref 14, .int x1, .int (x2 ||| ((1 : Int32) <<< ((x4 - x1) &&& 31))), .int (x3 + 1), .int x4, .int (x4 - x1)]) dX6_layAlphabet_75 rfl (by decide) rfl ?_
          refine wp_iinc (M := mX6_layAlphabet) (pc := 76) (v := x4 + 1) (ls' := [.ref 14, .int x1, .int (x2 ||| ((1 : Int32) <<< ((x4 - x1) &&& 31))), .int (x3 + 1), .int (x4 + 1), .int (x4 - x1)]) dX6_layAlphabet_76 rfl (congrArg (fun z => _ + z) k_iconst_1) (by decide) rfl ?_
          refine wp_goto (M := mX6_layAlphabet) (pc := 79) (t := 7) dX6_layAlphabet_79 (by decide) ?_
          exact p5 c1 c2 c3 c4
    · refine wp_aload_n (M := mX6_layAlphabet) (pc := 22) dX6_layAlphabet_22 rfl rfl ?_
      refine xs_getr (M := mX6_layAlphabet) (pc := 23) (r := 1) dX6_layAlphabet_23 fX6_27 sh14 rfl (gr14_0 sw) ?_
      refine wp_iload (M := mX6_layAlphabet) (pc := 26) dX6_layAlphabet_26 rfl ?_
      refine xs_callV (d := d) (M := mX6_layAlphabet) (pc := 28) (As := [.int x4]) (st := []) (c := 8) (ls' := [.ref 1, .int x4]) dX6_layAlphabet_28 oX8_at nX8_at lX6_31 vX8_at sX8_at rfl sh1 (Nat.le_of_ble_eq_true rfl) rfl (Nat.le_of_ble_eq_true rfl) rfl ?_
      refine sp_X8_at   ?_
      refine wp_bipush (M := mX6_layAlphabet) (pc := 31) dX6_layAlphabet_31 k_bipush_65 ?_
      refine wp_isub (M := mX6_layAlphabet) (pc := 33) dX6_layAlphabet_33 ?_
      refine wp_goto (M := mX6_layAlphabet) (pc := 34) (t := 41) dX6_layAlphabet_34 (by decide) ?_
      refine wp_istore (M := mX6_layAlphabet) (pc := 41) (ls' := [.ref 14, .int x1, .int x2, .int x3, .int x4, .int ((tAt f x4) - 65)]) dX6_layAlphabet_41 (by decide) rfl ?_
      refine wp_iload_n (M := mX6_layAlphabet) (pc := 43) dX6_layAlphabet_43 rfl rfl ?_
      refine wp_iload (M := mX6_layAlphabet) (pc := 44) dX6_layAlphabet_44 rfl ?_
      refine wp_ishr (M := mX6_layAlphabet) (pc := 46) dX6_layAlphabet_46 ?_
      refine wp_iconst (M := mX6_layAlphabet) (pc := 47) dX6_layAlphabet_47 k_iconst_1 ?_
      refine wp_iand (M := mX6_layAlphabet) (pc := 48) dX6_layAlphabet_48 ?_
      refine wp_if_ne (M := mX6_layAlphabet) (pc := 49) (t := 76) dX6_layAlphabet_49 (by decide) (fun c5 => ?_) (fun c5 => ?_)
      · refine wp_iinc (M := mX6_layAlphabet) (pc := 76) (v := x4 + 1) (ls' := [.ref 14, .int x1, .int x2, .int x3, .int (x4 + 1), .int ((tAt f x4) - 65)]) dX6_layAlphabet_76 rfl (congrArg (fun z => _ + z) k_iconst_1) (by decide) rfl ?_
        refine wp_goto (M := mX6_layAlphabet) (pc := 79) (t := 7) dX6_layAlphabet_79 (by decide) ?_
        exact p6 c1 c2 c5
      · refine wp_iload_n (M := mX6_layAlphabet) (pc := 52) dX6_layAlphabet_52 rfl rfl ?_
        refine wp_bipush (M := mX6_layAlphabet) (pc := 53) dX6_layAlphabet_53 k_bipush_26 ?_
        refine wp_icmp_ge (M := mX6_layAlphabet) (pc := 55) (t := 76) dX6_layAlphabet_55 (by decide) (fun c6 => ?_) (fun c6 => ?_)
        · refine wp_iinc (M := mX6_layAlphabet) (pc := 76) (v := x4 + 1) (ls' := [.ref 14, .int x1, .int x2, .int x3, .int (x4 + 1), .int ((tAt f x4) - 65)]) dX6_layAlphabet_76 rfl (congrArg (fun z => _ + z) k_iconst_1) (by decide) rfl ?_
          refine wp_goto (M := mX6_layAlphabet) (pc := 79) (t := 7) dX6_layAlphabet_79 (by decide) ?_
          exact p7 c1 c2 c5 c6
        · refine wp_aload_n (M := mX6_layAlphabet) (pc := 58) dX6_layAlphabet_58 rfl rfl ?_
          refine xs_getr (M := mX6_layAlphabet) (pc := 59) (r := 19) dX6_layAlphabet_59 fX6_24 sh14 rfl (gr14_5 sw) ?_
          refine wp_iload_n (M := mX6_layAlphabet) (pc := 62) dX6_layAlphabet_62 rfl rfl ?_
          refine wp_iload (M := mX6_layAlphabet) (pc := 63) dX6_layAlphabet_63 rfl ?_
          refine xs_iast (M := mX6_layAlphabet) (pc := 65) (j := x3.toNatClampNeg) dX6_layAlphabet_65 sh19 (p8 c1 c2 c5 c6) rfl ?_
          refine wp_iinc (M := mX6_layAlphabet) (pc := 66) (v := x3 + 1) (ls' := [.ref 14, .int x1, .int x2, .int (x3 + 1), .int x4, .int ((tAt f x4) - 65)]) dX6_layAlphabet_66 rfl (congrArg (fun z => _ + z) k_iconst_1) (by decide) rfl ?_
          refine wp_iload_n (M := mX6_layAlphabet) (pc := 69) dX6_layAlphabet_69 rfl rfl ?_
          refine wp_iconst (M := mX6_layAlphabet) (pc := 70) dX6_layAlphabet_70 k_iconst_1 ?_
          refine wp_iload (M := mX6_layAlphabet) (pc := 71) dX6_layAlphabet_71 rfl ?_
          refine wp_ishl (M := mX6_layAlphabet) (pc := 73) dX6_layAlphabet_73 ?_
          refine wp_ior (M := mX6_layAlphabet) (pc := 74) dX6_layAlphabet_74 ?_
          refine wp_istore_n (M := mX6_layAlphabet) (pc := 75) (ls' := [.ref 14, .int x1, .int (x2 ||| ((1 : Int32) <<< (((tAt f x4) - 65) &&& 31))), .int (x3 + 1), .int x4, .int ((tAt f x4) - 65)]) dX6_layAlphabet_75 rfl (by decide) rfl ?_
          refine wp_iinc (M := mX6_layAlphabet) (pc := 76) (v := x4 + 1) (ls' := [.ref 14, .int x1, .int (x2 ||| ((1 : Int32) <<< (((tAt f x4) - 65) &&& 31))), .int (x3 + 1), .int (x4 + 1), .int ((tAt f x4) - 65)]) dX6_layAlphabet_76 rfl (congrArg (fun z => _ + z) k_iconst_1) (by decide) rfl ?_
          refine wp_goto (M := mX6_layAlphabet) (pc := 79) (t := 7) dX6_layAlphabet_79 (by decide) ?_
          exact p9 c1 c2 c5 c6
theorem bX4_reached_0 {G : GC} {d : Nat} {sw : Bool} {f : FF} {Q : QQ}  (p1 : XP G mX4_reached (d + 1) 4 [.ref 11, .int (-1), .int 0] [] sw f Q) : XP G mX4_reached (d + 1) 0 [.ref 11, .null, .null] [] sw f Q := by
  refine wp_iconst (M := mX4_reached) (pc := 0) dX4_reached_0 k_iconst_m1 ?_
  refine wp_istore_n (M := mX4_reached) (pc := 1) (ls' := [.ref 11, .int (-1), .null]) dX4_reached_1 rfl (by decide) rfl ?_
  refine wp_iconst (M := mX4_reached) (pc := 2) dX4_reached_2 k_iconst_0 ?_
  refine wp_istore_n (M := mX4_reached) (pc := 3) (ls' := [.ref 11, .int (-1), .int 0]) dX4_reached_3 rfl (by decide) rfl ?_
  exact p1
theorem bX4_reached_4 {G : GC} {d : Nat} {sw : Bool} {f : FF} {Q : QQ} {x1 : Int32} {x2 : Int32} (p1 : (8 ≤ x2) → Q (some (.int x1)) sw f) (p2 : (¬ 8 ≤ x2) → XP G mX4_begins (d) 0 [.ref 11, .int 8, .int x2, .null] [] sw f (fun v sw' f' => XP G mX4_reached (d + 1) 17 [.ref 11, .int x1, .int x2] (retst v []) sw' f' Q)) : XP G mX4_reached (d + 1) 4 [.ref 11, .int x1, .int x2] [] sw f Q := by
  refine wp_iload_n (M := mX4_reached) (pc := 4) dX4_reached_4 rfl rfl ?_
  refine wp_bipush (M := mX4_reached) (pc := 5) dX4_reached_5 k_bipush_8 ?_
  refine wp_icmp_ge (M := mX4_reached) (pc := 7) (t := 48) dX4_reached_7 (by decide) (fun c1 => ?_) (fun c1 => ?_)
  · refine wp_iload_n (M := mX4_reached) (pc := 48) dX4_reached_48 rfl rfl ?_
    exact xs_iret (M := mX4_reached) (pc := 49) dX4_reached_49 rfl (p1 c1)
  · refine wp_aload_n (M := mX4_reached) (pc := 10) dX4_reached_10 rfl rfl ?_
    refine wp_bipush (M := mX4_reached) (pc := 11) dX4_reached_11 k_bipush_8 ?_
    refine wp_iload_n (M := mX4_reached) (pc := 13) dX4_reached_13 rfl rfl ?_
    refine xs_callV (d := d) (M := mX4_reached) (pc := 14) (As := [.int 8, .int x2]) (st := []) (c := 4) (ls' := [.ref 11, .int 8, .int x2, .null]) dX4_reached_14 oX4_begins nX4_begins lX4_36 vX4_begins sX4_begins rfl sh11 (Nat.le_of_ble_eq_true rfl) rfl (Nat.le_of_ble_eq_true rfl) rfl ?_
    exact p2 c1
theorem bX4_reached_17 {G : GC} {d : Nat} {sw : Bool} {f : FF} {Q : QQ} {x1 : Int32} {x2 : Int32} {s0 : Int32} (p1 : (s0 = 0) → XP G mX4_reached (d + 1) 4 [.ref 11, .int x1, .int (x2 + 1)] [] sw f Q) (p2 : (¬ s0 = 0) → (x1 = (-1)) → XP G mX4_reached (d + 1) 4 [.ref 11, .int x2, .int (x2 + 1)] [] sw f Q) (p3 : (¬ s0 = 0) → (¬ x1 = (-1)) → vp_in x2 9) (p4 : (¬ s0 = 0) → (¬ x1 = (-1)) → vp_in x1 9) (p5 : (¬ s0 = 0) → (¬ x1 = (-1)) → ((f 13 x2.toNatClampNeg) ≤ (f 13 x1.toNatClampNeg)) → XP G mX4_reached (d + 1) 4 [.ref 11, .int x1, .int (x2 + 1)] [] sw f Q) (p6 : (¬ s0 = 0) → (¬ x1 = (-1)) → (¬ (f 13 x2.toNatClampNeg) ≤ (f 13 x1.toNatClampNeg)) → XP G mX4_reached (d + 1) 4 [.ref 11, .int x2, .int (x2 + 1)] [] sw f Q) : XP G mX4_reached (d + 1) 17 [.ref 11, .int x1, .int x2] [.int s0] sw f Q := by
  refine wp_if_eq (M := mX4_reached) (pc := 17) (t := 42) dX4_reached_17 (by decide) (fun c1 => ?_) (fun c1 => ?_)
  · refine wp_iinc (M := mX4_reached) (pc := 42) (v := x2 + 1) (ls' := [.ref 11, .int x1, .int (x2 + 1)]) dX4_reached_42 rfl (congrArg (fun z => _ + z) k_iconst_1) (by decide) rfl ?_
    refine wp_goto (M := mX4_reached) (pc := 45) (t := 4) dX4_reached_45 (by decide) ?_
    exact p1 c1
  · refine wp_iload_n (M := mX4_reached) (pc := 20) dX4_reached_20 rfl rfl ?_
    refine wp_iconst (M := mX4_reached) (pc := 21) dX4_reached_21 k_iconst_m1 ?_
    refine wp_icmp_eq (M := mX4_reached) (pc := 22) (t := 40) dX4_reached_22 (by decide) (fun c2 => ?_) (fun c2 => ?_)
    · refine wp_iload_n (M := mX4_reached) (pc := 40) dX4_reached_40 rfl rfl ?_
      refine wp_istore_n (M := mX4_reached) (pc := 41) (ls' := [.ref 11, .int x2, .int x2]) dX4_reached_41 rfl (by decide) rfl ?_
      refine wp_iinc (M := mX4_reached) (pc := 42) (v := x2 + 1) (ls' := [.ref 11, .int x2, .int (x2 + 1)]) dX4_reached_42 rfl (congrArg (fun z => _ + z) k_iconst_1) (by decide) rfl ?_
      refine wp_goto (M := mX4_reached) (pc := 45) (t := 4) dX4_reached_45 (by decide) ?_
      exact p2 c1 c2
    · refine wp_aload_n (M := mX4_reached) (pc := 25) dX4_reached_25 rfl rfl ?_
      refine xs_getr (M := mX4_reached) (pc := 26) (r := 13) dX4_reached_26 fX4_15 sh11 rfl (gr11_2 sw) ?_
      refine wp_iload_n (M := mX4_reached) (pc := 29) dX4_reached_29 rfl rfl ?_
      refine xs_iald (M := mX4_reached) (pc := 30) (j := x2.toNatClampNeg) dX4_reached_30 sh13 (p3 c1 c2) rfl ?_
      refine wp_aload_n (M := mX4_reached) (pc := 31) dX4_reached_31 rfl rfl ?_
      refine xs_getr (M := mX4_reached) (pc := 32) (r := 13) dX4_reached_32 fX4_15 sh11 rfl (gr11_2 sw) ?_
      refine wp_iload_n (M := mX4_reached) (pc := 35) dX4_reached_35 rfl rfl ?_
      refine xs_iald (M := mX4_reached) (pc := 36) (j := x1.toNatClampNeg) dX4_reached_36 sh13 (p4 c1 c2) rfl ?_
      refine wp_icmp_le (M := mX4_reached) (pc := 37) (t := 42) dX4_reached_37 (by decide) (fun c3 => ?_) (fun c3 => ?_)
      · refine wp_iinc (M := mX4_reached) (pc := 42) (v := x2 + 1) (ls' := [.ref 11, .int x1, .int (x2 + 1)]) dX4_reached_42 rfl (congrArg (fun z => _ + z) k_iconst_1) (by decide) rfl ?_
        refine wp_goto (M := mX4_reached) (pc := 45) (t := 4) dX4_reached_45 (by decide) ?_
        exact p5 c1 c2 c3
      · refine wp_iload_n (M := mX4_reached) (pc := 40) dX4_reached_40 rfl rfl ?_
        refine wp_istore_n (M := mX4_reached) (pc := 41) (ls' := [.ref 11, .int x2, .int x2]) dX4_reached_41 rfl (by decide) rfl ?_
        refine wp_iinc (M := mX4_reached) (pc := 42) (v := x2 + 1) (ls' := [.ref 11, .int x2, .int (x2 + 1)]) dX4_reached_42 rfl (congrArg (fun z => _ + z) k_iconst_1) (by decide) rfl ?_
        refine wp_goto (M := mX4_reached) (pc := 45) (t := 4) dX4_reached_45 (by decide) ?_
        exact p6 c1 c2 c3
theorem bX4_begins_0 {G : GC} {d : Nat} {sw : Bool} {f : FF} {Q : QQ} {x1 : Int32} {x2 : Int32} (p1 : vp_in x2 9) (p2 : ((f 13 x2.toNatClampNeg) = 0) → Q (some (.int 0)) sw f) (p3 : (¬ (f 13 x2.toNatClampNeg) = 0) → vp_in x2 9) (p4 : (¬ (f 13 x2.toNatClampNeg) = 0) → vp_in x1 9) (p5 : (¬ (f 13 x2.toNatClampNeg) = 0) → ((f 13 x2.toNatClampNeg) ≤ (f 13 x1.toNatClampNeg)) → XP G mX4_begins (d) 28 [.ref 11, .int x1, .int x2, .int 0] [] sw f Q) (p6 : (¬ (f 13 x2.toNatClampNeg) = 0) → (¬ (f 13 x2.toNatClampNeg) ≤ (f 13 x1.toNatClampNeg)) → Q (some (.int 0)) sw f) : XP G mX4_begins (d) 0 [.ref 11, .int x1, .int x2, .null] [] sw f Q := by
  refine wp_aload_n (M := mX4_begins) (pc := 0) dX4_begins_0 rfl rfl ?_
  refine xs_getr (M := mX4_begins) (pc := 1) (r := 13) dX4_begins_1 fX4_15 sh11 rfl (gr11_2 sw) ?_
  refine wp_iload_n (M := mX4_begins) (pc := 4) dX4_begins_4 rfl rfl ?_
  refine xs_iald (M := mX4_begins) (pc := 5) (j := x2.toNatClampNeg) dX4_begins_5 sh13 (p1) rfl ?_
  refine wp_if_eq (M := mX4_begins) (pc := 6) (t := 24) dX4_begins_6 (by decide) (fun c1 => ?_) (fun c1 => ?_)
  · refine wp_iconst (M := mX4_begins) (pc := 24) dX4_begins_24 k_iconst_0 ?_
    exact xs_zret (M := mX4_begins) (pc := 25) dX4_begins_25 rfl (by decide) (p2 c1)
  · refine wp_aload_n (M := mX4_begins) (pc := 9) dX4_begins_9 rfl rfl ?_
    refine xs_getr (M := mX4_begins) (pc := 10) (r := 13) dX4_begins_10 fX4_15 sh11 rfl (gr11_2 sw) ?_
    refine wp_iload_n (M := mX4_begins) (pc := 13) dX4_begins_13 rfl rfl ?_
    refine xs_iald (M := mX4_begins) (pc := 14) (j := x2.toNatClampNeg) dX4_begins_14 sh13 (p3 c1) rfl ?_
    refine wp_aload_n (M := mX4_begins) (pc := 15) dX4_begins_15 rfl rfl ?_
    refine xs_getr (M := mX4_begins) (pc := 16) (r := 13) dX4_begins_16 fX4_15 sh11 rfl (gr11_2 sw) ?_
    refine wp_iload_n (M := mX4_begins) (pc := 19) dX4_begins_19 rfl rfl ?_
    refine xs_iald (M := mX4_begins) (pc := 20) (j := x1.toNatClampNeg) dX4_begins_20 sh13 (p4 c1) rfl ?_
    refine wp_icmp_le (M := mX4_begins) (pc := 21) (t := 26) dX4_begins_21 (by decide) (fun c2 => ?_) (fun c2 => ?_)
    · refine wp_iconst (M := mX4_begins) (pc := 26) dX4_begins_26 k_iconst_0 ?_
      refine wp_istore_n (M := mX4_begins) (pc := 27) (ls' := [.ref 11, .int x1, .int x2, .int 0]) dX4_begins_27 rfl (by decide) rfl ?_
      exact p5 c1 c2
    · refine wp_iconst (M := mX4_begins) (pc := 24) dX4_begins_24 k_iconst_0 ?_
      exact xs_zret (M := mX4_begins) (pc := 25) dX4_begins_25 rfl (by decide) (p6 c1 c2)
theorem bX4_begins_28 {G : GC} {d : Nat} {sw : Bool} {f : FF} {Q : QQ} {x1 : Int32} {x2 : Int32} {x3 : Int32} (p1 : vp_in x2 9) (p2 : ((f 13 x2.toNatClampNeg) ≤ x3) → Q (some (.int 1)) sw f) (p3 : (¬ (f 13 x2.toNatClampNeg) ≤ x3) → vp_in ((x1 * 12) + x3) 108) (p4 : (¬ (f 13 x2.toNatClampNeg) ≤ x3) → vp_in ((x2 * 12) + x3) 108) (p5 : (¬ (f 13 x2.toNatClampNeg) ≤ x3) → ((f 12 (((x1 * 12) + x3).toNatClampNeg)) = (f 12 (((x2 * 12) + x3).toNatClampNeg))) → XP G mX4_begins (d) 28 [.ref 11, .int x1, .int x2, .int (x3 + 1)] [] sw f Q) (p6 : (¬ (f 13 x2.toNatClampNeg) ≤ x3) → (¬ (f 12 (((x1 * 12) + x3).toNatClampNeg)) = (f 12 (((x2 * 12) + x3).toNatClampNeg))) → Q (some (.int 0)) sw f) : XP G mX4_begins (d) 28 [.ref 11, .int x1, .int x2, .int x3] [] sw f Q := by
  refine wp_iload_n (M := mX4_begins) (pc := 28) dX4_begins_28 rfl rfl ?_
  refine wp_aload_n (M := mX4_begins) (pc := 29) dX4_begins_29 rfl rfl ?_
  refine xs_getr (M := mX4_begins) (pc := 30) (r := 13) dX4_begins_30 fX4_15 sh11 rfl (gr11_2 sw) ?_
  refine wp_iload_n (M := mX4_begins) (pc := 33) dX4_begins_33 rfl rfl ?_
  refine xs_iald (M := mX4_begins) (pc := 34) (j := x2.toNatClampNeg) dX4_begins_34 sh13 (p1) rfl ?_
  refine wp_icmp_ge (M := mX4_begins) (pc := 35) (t := 71) dX4_begins_35 (by decide) (fun c1 => ?_) (fun c1 => ?_)
  · refine wp_iconst (M := mX4_begins) (pc := 71) dX4_begins_71 k_iconst_1 ?_
    exact xs_zret (M := mX4_begins) (pc := 72) dX4_begins_72 rfl (by decide) (p2 c1)
  · refine wp_aload_n (M := mX4_begins) (pc := 38) dX4_begins_38 rfl rfl ?_
    refine xs_getr (M := mX4_begins) (pc := 39) (r := 12) dX4_begins_39 fX4_9 sh11 rfl (gr11_1 sw) ?_
    refine wp_iload_n (M := mX4_begins) (pc := 42) dX4_begins_42 rfl rfl ?_
    refine wp_bipush (M := mX4_begins) (pc := 43) dX4_begins_43 k_bipush_12 ?_
    refine wp_imul (M := mX4_begins) (pc := 45) dX4_begins_45 ?_
    refine wp_iload_n (M := mX4_begins) (pc := 46) dX4_begins_46 rfl rfl ?_
    refine wp_iadd (M := mX4_begins) (pc := 47) dX4_begins_47 ?_
    refine xs_iald (M := mX4_begins) (pc := 48) (j := ((x1 * 12) + x3).toNatClampNeg) dX4_begins_48 sh12 (p3 c1) rfl ?_
    refine wp_aload_n (M := mX4_begins) (pc := 49) dX4_begins_49 rfl rfl ?_
    refine xs_getr (M := mX4_begins) (pc := 50) (r := 12) dX4_begins_50 fX4_9 sh11 rfl (gr11_1 sw) ?_
    refine wp_iload_n (M := mX4_begins) (pc := 53) dX4_begins_53 rfl rfl ?_
    refine wp_bipush (M := mX4_begins) (pc := 54) dX4_begins_54 k_bipush_12 ?_
    refine wp_imul (M := mX4_begins) (pc := 56) dX4_begins_56 ?_
    refine wp_iload_n (M := mX4_begins) (pc := 57) dX4_begins_57 rfl rfl ?_
    refine wp_iadd (M := mX4_begins) (pc := 58) dX4_begins_58 ?_
    refine xs_iald (M := mX4_begins) (pc := 59) (j := ((x2 * 12) + x3).toNatClampNeg) dX4_begins_59 sh12 (p4 c1) rfl ?_
    refine wp_icmp_eq (M := mX4_begins) (pc := 60) (t := 65) dX4_begins_60 (by decide) (fun c2 => ?_) (fun c2 => ?_)
    · refine wp_iinc (M := mX4_begins) (pc := 65) (v := x3 + 1) (ls' := [.ref 11, .int x1, .int x2, .int (x3 + 1)]) dX4_begins_65 rfl (congrArg (fun z => _ + z) k_iconst_1) (by decide) rfl ?_
      refine wp_goto (M := mX4_begins) (pc := 68) (t := 28) dX4_begins_68 (by decide) ?_
      exact p5 c1 c2
    · refine wp_iconst (M := mX4_begins) (pc := 63) dX4_begins_63 k_iconst_0 ?_
      exact xs_zret (M := mX4_begins) (pc := 64) dX4_begins_64 rfl (by decide) (p6 c1 c2)
theorem bX4_isClear_0 {G : GC} {d : Nat} {sw : Bool} {f : FF} {Q : QQ}  (p1 : XP G mX4_isClear (d + 1) 2 [.ref 11, .int 0, .null] [] sw f Q) : XP G mX4_isClear (d + 1) 0 [.ref 11, .null, .null] [] sw f Q := by
  refine wp_iconst (M := mX4_isClear) (pc := 0) dX4_isClear_0 k_iconst_0 ?_
  refine wp_istore_n (M := mX4_isClear) (pc := 1) (ls' := [.ref 11, .int 0, .null]) dX4_isClear_1 rfl (by decide) rfl ?_
  exact p1
theorem bX4_isClear_2 {G : GC} {d : Nat} {sw : Bool} {f : FF} {Q : QQ} {x1 : Int32} {v2 : Value} (p1 : (8 ≤ x1) → Q (some (.int 1)) sw f) (p2 : (¬ 8 ≤ x1) → XP G mX4_isClear (d + 1) 10 [.ref 11, .int x1, .int 0] [] sw f Q) : XP G mX4_isClear (d + 1) 2 [.ref 11, .int x1, v2] [] sw f Q := by
  refine wp_iload_n (M := mX4_isClear) (pc := 2) dX4_isClear_2 rfl rfl ?_
  refine wp_bipush (M := mX4_isClear) (pc := 3) dX4_isClear_3 k_bipush_8 ?_
  refine wp_icmp_ge (M := mX4_isClear) (pc := 5) (t := 44) dX4_isClear_5 (by decide) (fun c1 => ?_) (fun c1 => ?_)
  · refine wp_iconst (M := mX4_isClear) (pc := 44) dX4_isClear_44 k_iconst_1 ?_
    exact xs_zret (M := mX4_isClear) (pc := 45) dX4_isClear_45 rfl (by decide) (p1 c1)
  · refine wp_iconst (M := mX4_isClear) (pc := 8) dX4_isClear_8 k_iconst_0 ?_
    refine wp_istore_n (M := mX4_isClear) (pc := 9) (ls' := [.ref 11, .int x1, .int 0]) dX4_isClear_9 rfl (by decide) rfl ?_
    exact p2 c1
theorem bX4_isClear_10 {G : GC} {d : Nat} {sw : Bool} {f : FF} {Q : QQ} {x1 : Int32} {x2 : Int32} (p1 : (8 ≤ x2) → XP G mX4_isClear (d + 1) 2 [.ref 11, .int (x1 + 1), .int x2] [] sw f Q) (p2 : (¬ 8 ≤ x2) → (x1 = x2) → XP G mX4_isClear (d + 1) 10 [.ref 11, .int x1, .int (x2 + 1)] [] sw f Q) (p3 : (¬ 8 ≤ x2) → (¬ x1 = x2) → XP G mX4_begins (d) 0 [.ref 11, .int x1, .int x2, .null] [] sw f (fun v sw' f' => XP G mX4_isClear (d + 1) 27 [.ref 11, .int x1, .int x2] (retst v []) sw' f' Q)) : XP G mX4_isClear (d + 1) 10 [.ref 11, .int x1, .int x2] [] sw f Q := by
  refine wp_iload_n (M := mX4_isClear) (pc := 10) dX4_isClear_10 rfl rfl ?_
  refine wp_bipush (M := mX4_isClear) (pc := 11) dX4_isClear_11 k_bipush_8 ?_
  refine wp_icmp_ge (M := mX4_isClear) (pc := 13) (t := 38) dX4_isClear_13 (by decide) (fun c1 => ?_) (fun c1 => ?_)
  · refine wp_iinc (M := mX4_isClear) (pc := 38) (v := x1 + 1) (ls' := [.ref 11, .int (x1 + 1), .int x2]) dX4_isClear_38 rfl (congrArg (fun z => _ + z) k_iconst_1) (by decide) rfl ?_
    refine wp_goto (M := mX4_isClear) (pc := 41) (t := 2) dX4_isClear_41 (by decide) ?_
    exact p1 c1
  · refine wp_iload_n (M := mX4_isClear) (pc := 16) dX4_isClear_16 rfl rfl ?_
    refine wp_iload_n (M := mX4_isClear) (pc := 17) dX4_isClear_17 rfl rfl ?_
    refine wp_icmp_eq (M := mX4_isClear) (pc := 18) (t := 32) dX4_isClear_18 (by decide) (fun c2 => ?_) (fun c2 => ?_)
    · refine wp_iinc (M := mX4_isClear) (pc := 32) (v := x2 + 1) (ls' := [.ref 11, .int x1, .int (x2 + 1)]) dX4_isClear_32 rfl (congrArg (fun z => _ + z) k_iconst_1) (by decide) rfl ?_
      refine wp_goto (M := mX4_isClear) (pc := 35) (t := 10) dX4_isClear_35 (by decide) ?_
      exact p2 c1 c2
    · refine wp_aload_n (M := mX4_isClear) (pc := 21) dX4_isClear_21 rfl rfl ?_
      refine wp_iload_n (M := mX4_isClear) (pc := 22) dX4_isClear_22 rfl rfl ?_
      refine wp_iload_n (M := mX4_isClear) (pc := 23) dX4_isClear_23 rfl rfl ?_
      refine xs_callV (d := d) (M := mX4_isClear) (pc := 24) (As := [.int x1, .int x2]) (st := []) (c := 4) (ls' := [.ref 11, .int x1, .int x2, .null]) dX4_isClear_24 oX4_begins nX4_begins lX4_36 vX4_begins sX4_begins rfl sh11 (Nat.le_of_ble_eq_true rfl) rfl (Nat.le_of_ble_eq_true rfl) rfl ?_
      exact p3 c1 c2
theorem bX4_isClear_27 {G : GC} {d : Nat} {sw : Bool} {f : FF} {Q : QQ} {x1 : Int32} {x2 : Int32} {s0 : Int32} (p1 : (s0 = 0) → XP G mX4_isClear (d + 1) 10 [.ref 11, .int x1, .int (x2 + 1)] [] sw f Q) (p2 : (¬ s0 = 0) → Q (some (.int 0)) sw f) : XP G mX4_isClear (d + 1) 27 [.ref 11, .int x1, .int x2] [.int s0] sw f Q := by
  refine wp_if_eq (M := mX4_isClear) (pc := 27) (t := 32) dX4_isClear_27 (by decide) (fun c1 => ?_) (fun c1 => ?_)
  · refine wp_iinc (M := mX4_isClear) (pc := 32) (v := x2 + 1) (ls' := [.ref 11, .int x1, .int (x2 + 1)]) dX4_isClear_32 rfl (congrArg (fun z => _ + z) k_iconst_1) (by decide) rfl ?_
    refine wp_goto (M := mX4_isClear) (pc := 35) (t := 10) dX4_isClear_35 (by decide) ?_
    exact p1 c1
  · refine wp_iconst (M := mX4_isClear) (pc := 30) dX4_isClear_30 k_iconst_0 ?_
    exact xs_zret (M := mX4_isClear) (pc := 31) dX4_isClear_31 rfl (by decide) (p2 c1)
theorem bX4_leastFree_0 {G : GC} {d : Nat} {sw : Bool} {f : FF} {Q : QQ} {x1 : Int32} (p1 : (¬ x1 = 1) → (¬ x1 = 2) → XP G mX4_leastFree (d + 2) 26 [.ref 11, .int x1, .int 1000, .int 0] [] sw f Q) (p2 : (¬ x1 = 1) → (x1 = 2) → XP G mX4_leastFree (d + 2) 26 [.ref 11, .int x1, .int 100, .int 0] [] sw f Q) (p3 : (x1 = 1) → XP G mX4_leastFree (d + 2) 26 [.ref 11, .int x1, .int 10, .int 0] [] sw f Q) : XP G mX4_leastFree (d + 2) 0 [.ref 11, .int x1, .null, .null] [] sw f Q := by
  refine wp_iload_n (M := mX4_leastFree) (pc := 0) dX4_leastFree_0 rfl rfl ?_
  refine wp_iconst (M := mX4_leastFree) (pc := 1) dX4_leastFree_1 k_iconst_1 ?_
  refine wp_icmp_ne (M := mX4_leastFree) (pc := 2) (t := 10) dX4_leastFree_2 (by decide) (fun c1 => ?_) (fun c1 => ?_)
  · refine wp_iload_n (M := mX4_leastFree) (pc := 10) dX4_leastFree_10 rfl rfl ?_
    refine wp_iconst (M := mX4_leastFree) (pc := 11) dX4_leastFree_11 k_iconst_2 ?_
    refine wp_icmp_ne (M := mX4_leastFree) (pc := 12) (t := 20) dX4_leastFree_12 (by decide) (fun c2 => ?_) (fun c2 => ?_)
    · refine wp_sipush (M := mX4_leastFree) (pc := 20) dX4_leastFree_20 k_sipush_1000 ?_
      refine wp_istore_n (M := mX4_leastFree) (pc := 23) (ls' := [.ref 11, .int x1, .int 1000, .null]) dX4_leastFree_23 rfl (by decide) rfl ?_
      refine wp_iconst (M := mX4_leastFree) (pc := 24) dX4_leastFree_24 k_iconst_0 ?_
      refine wp_istore_n (M := mX4_leastFree) (pc := 25) (ls' := [.ref 11, .int x1, .int 1000, .int 0]) dX4_leastFree_25 rfl (by decide) rfl ?_
      exact p1 c1 c2
    · refine wp_bipush (M := mX4_leastFree) (pc := 15) dX4_leastFree_15 k_bipush_100 ?_
      refine wp_goto (M := mX4_leastFree) (pc := 17) (t := 23) dX4_leastFree_17 (by decide) ?_
      refine wp_istore_n (M := mX4_leastFree) (pc := 23) (ls' := [.ref 11, .int x1, .int 100, .null]) dX4_leastFree_23 rfl (by decide) rfl ?_
      refine wp_iconst (M := mX4_leastFree) (pc := 24) dX4_leastFree_24 k_iconst_0 ?_
      refine wp_istore_n (M := mX4_leastFree) (pc := 25) (ls' := [.ref 11, .int x1, .int 100, .int 0]) dX4_leastFree_25 rfl (by decide) rfl ?_
      exact p2 c1 c2
  · refine wp_bipush (M := mX4_leastFree) (pc := 5) dX4_leastFree_5 k_bipush_10 ?_
    refine wp_goto (M := mX4_leastFree) (pc := 7) (t := 23) dX4_leastFree_7 (by decide) ?_
    refine wp_istore_n (M := mX4_leastFree) (pc := 23) (ls' := [.ref 11, .int x1, .int 10, .null]) dX4_leastFree_23 rfl (by decide) rfl ?_
    refine wp_iconst (M := mX4_leastFree) (pc := 24) dX4_leastFree_24 k_iconst_0 ?_
    refine wp_istore_n (M := mX4_leastFree) (pc := 25) (ls' := [.ref 11, .int x1, .int 10, .int 0]) dX4_leastFree_25 rfl (by decide) rfl ?_
    exact p3 c1
theorem bX4_leastFree_26 {G : GC} {d : Nat} {sw : Bool} {f : FF} {Q : QQ} {x1 : Int32} {x2 : Int32} {x3 : Int32} (p1 : (x2 ≤ x3) → Q (some (.int (-2))) sw f) (p2 : (¬ x2 ≤ x3) → XP G mX4_staysClear (d + 1) 0 [.ref 11, .int x3, .int x1, .null, .null] [] sw f (fun v sw' f' => XP G mX4_leastFree (d + 2) 37 [.ref 11, .int x1, .int x2, .int x3] (retst v []) sw' f' Q)) : XP G mX4_leastFree (d + 2) 26 [.ref 11, .int x1, .int x2, .int x3] [] sw f Q := by
  refine wp_iload_n (M := mX4_leastFree) (pc := 26) dX4_leastFree_26 rfl rfl ?_
  refine wp_iload_n (M := mX4_leastFree) (pc := 27) dX4_leastFree_27 rfl rfl ?_
  refine wp_icmp_ge (M := mX4_leastFree) (pc := 28) (t := 48) dX4_leastFree_28 (by decide) (fun c1 => ?_) (fun c1 => ?_)
  · refine wp_bipush (M := mX4_leastFree) (pc := 48) dX4_leastFree_48 k_bipush_m2 ?_
    exact xs_iret (M := mX4_leastFree) (pc := 50) dX4_leastFree_50 rfl (p1 c1)
  · refine wp_aload_n (M := mX4_leastFree) (pc := 31) dX4_leastFree_31 rfl rfl ?_
    refine wp_iload_n (M := mX4_leastFree) (pc := 32) dX4_leastFree_32 rfl rfl ?_
    refine wp_iload_n (M := mX4_leastFree) (pc := 33) dX4_leastFree_33 rfl rfl ?_
    refine xs_callV (d := d + 1) (M := mX4_leastFree) (pc := 34) (As := [.int x3, .int x1]) (st := []) (c := 4) (ls' := [.ref 11, .int x3, .int x1, .null, .null]) dX4_leastFree_34 oX4_staysClear nX4_staysClear lX4_39 vX4_staysClear sX4_staysClear rfl sh11 (Nat.le_of_ble_eq_true rfl) rfl (Nat.le_of_ble_eq_true rfl) rfl ?_
    exact p2 c1
theorem bX4_leastFree_37 {G : GC} {d : Nat} {sw : Bool} {f : FF} {Q : QQ} {x1 : Int32} {x2 : Int32} {x3 : Int32} {s0 : Int32} (p1 : (s0 = 0) → XP G mX4_leastFree (d + 2) 26 [.ref 11, .int x1, .int x2, .int (x3 + 1)] [] sw f Q) (p2 : (¬ s0 = 0) → Q (some (.int x3)) sw f) : XP G mX4_leastFree (d + 2) 37 [.ref 11, .int x1, .int x2, .int x3] [.int s0] sw f Q := by
  refine wp_if_eq (M := mX4_leastFree) (pc := 37) (t := 42) dX4_leastFree_37 (by decide) (fun c1 => ?_) (fun c1 => ?_)
  · refine wp_iinc (M := mX4_leastFree) (pc := 42) (v := x3 + 1) (ls' := [.ref 11, .int x1, .int x2, .int (x3 + 1)]) dX4_leastFree_42 rfl (congrArg (fun z => _ + z) k_iconst_1) (by decide) rfl ?_
    refine wp_goto (M := mX4_leastFree) (pc := 45) (t := 26) dX4_leastFree_45 (by decide) ?_
    exact p1 c1
  · refine wp_iload_n (M := mX4_leastFree) (pc := 40) dX4_leastFree_40 rfl rfl ?_
    exact xs_iret (M := mX4_leastFree) (pc := 41) dX4_leastFree_41 rfl (p2 c1)
theorem bX4_staysClear_0 {G : GC} {d : Nat} {sw : Bool} {f : FF} {Q : QQ} {x1 : Int32} {x2 : Int32} (p1 : XP G mX4_staysClear (d + 1) 7 [.ref 11, .int x1, .int x2, .int x1, .int (x2 - 1)] [] sw f Q) : XP G mX4_staysClear (d + 1) 0 [.ref 11, .int x1, .int x2, .null, .null] [] sw f Q := by
  refine wp_iload_n (M := mX4_staysClear) (pc := 0) dX4_staysClear_0 rfl rfl ?_
  refine wp_istore_n (M := mX4_staysClear) (pc := 1) (ls' := [.ref 11, .int x1, .int x2, .int x1, .null]) dX4_staysClear_1 rfl (by decide) rfl ?_
  refine wp_iload_n (M := mX4_staysClear) (pc := 2) dX4_staysClear_2 rfl rfl ?_
  refine wp_iconst (M := mX4_staysClear) (pc := 3) dX4_staysClear_3 k_iconst_1 ?_
  refine wp_isub (M := mX4_staysClear) (pc := 4) dX4_staysClear_4 ?_
  refine wp_istore (M := mX4_staysClear) (pc := 5) (ls' := [.ref 11, .int x1, .int x2, .int x1, .int (x2 - 1)]) dX4_staysClear_5 (by decide) rfl ?_
  exact p1
theorem bX4_staysClear_7 {G : GC} {d : Nat} {sw : Bool} {f : FF} {Q : QQ} {x1 : Int32} {x2 : Int32} {x3 : Int32} {x4 : Int32} (p1 : (x4 < 0) → XP G mX4_staysClear (d + 1) 48 [.ref 11, .int x1, .int x2, .int x3, .int 0] [] sw (upd2 f 13 8 x2) Q) (p2 : (¬ x4 < 0) → vp_in (96 + x4) 108) (p3 : (¬ x4 < 0) → XP G mX4_staysClear (d + 1) 7 [.ref 11, .int x1, .int x2, .int (x3 / 10), .int (x4 + (-1))] [] sw (upd2 f 12 ((96 + x4).toNatClampNeg) (x3 - x3 / 10 * 10)) Q) : XP G mX4_staysClear (d + 1) 7 [.ref 11, .int x1, .int x2, .int x3, .int x4] [] sw f Q := by
  refine wp_iload (M := mX4_staysClear) (pc := 7) dX4_staysClear_7 rfl ?_
  refine wp_if_lt (M := mX4_staysClear) (pc := 9) (t := 37) dX4_staysClear_9 (by decide) (fun c1 => ?_) (fun c1 => ?_)
  · refine wp_aload_n (M := mX4_staysClear) (pc := 37) dX4_staysClear_37 rfl rfl ?_
    refine xs_getr (M := mX4_staysClear) (pc := 38) (r := 13) dX4_staysClear_38 fX4_15 sh11 rfl (gr11_2 sw) ?_
    refine wp_bipush (M := mX4_staysClear) (pc := 41) dX4_staysClear_41 k_bipush_8 ?_
    refine wp_iload_n (M := mX4_staysClear) (pc := 43) dX4_staysClear_43 rfl rfl ?_
    refine xs_iast (M := mX4_staysClear) (pc := 44) (j := 8) dX4_staysClear_44 sh13 (vin (by decide)) rfl ?_
    refine wp_iconst (M := mX4_staysClear) (pc := 45) dX4_staysClear_45 k_iconst_0 ?_
    refine wp_istore (M := mX4_staysClear) (pc := 46) (ls' := [.ref 11, .int x1, .int x2, .int x3, .int 0]) dX4_staysClear_46 (by decide) rfl ?_
    exact p1 c1
  · refine wp_aload_n (M := mX4_staysClear) (pc := 12) dX4_staysClear_12 rfl rfl ?_
    refine xs_getr (M := mX4_staysClear) (pc := 13) (r := 12) dX4_staysClear_13 fX4_9 sh11 rfl (gr11_1 sw) ?_
    refine wp_bipush (M := mX4_staysClear) (pc := 16) dX4_staysClear_16 k_bipush_96 ?_
    refine wp_iload (M := mX4_staysClear) (pc := 18) dX4_staysClear_18 rfl ?_
    refine wp_iadd (M := mX4_staysClear) (pc := 20) dX4_staysClear_20 ?_
    refine wp_iload_n (M := mX4_staysClear) (pc := 21) dX4_staysClear_21 rfl rfl ?_
    refine wp_bipush (M := mX4_staysClear) (pc := 22) dX4_staysClear_22 k_bipush_10 ?_
    refine wp_irem (M := mX4_staysClear) (pc := 24) dX4_staysClear_24 (by decide) ?_
    refine xs_iast (M := mX4_staysClear) (pc := 25) (j := (96 + x4).toNatClampNeg) dX4_staysClear_25 sh12 (p2 c1) rfl ?_
    refine wp_iload_n (M := mX4_staysClear) (pc := 26) dX4_staysClear_26 rfl rfl ?_
    refine wp_bipush (M := mX4_staysClear) (pc := 27) dX4_staysClear_27 k_bipush_10 ?_
    refine wp_idiv (M := mX4_staysClear) (pc := 29) dX4_staysClear_29 (by decide) ?_
    refine wp_istore_n (M := mX4_staysClear) (pc := 30) (ls' := [.ref 11, .int x1, .int x2, .int (x3 / 10), .int x4]) dX4_staysClear_30 rfl (by decide) rfl ?_
    refine wp_iinc (M := mX4_staysClear) (pc := 31) (v := x4 + (-1)) (ls' := [.ref 11, .int x1, .int x2, .int (x3 / 10), .int (x4 + (-1))]) dX4_staysClear_31 rfl (congrArg (fun z => _ + z) k_iconst_m1) (by decide) rfl ?_
    refine wp_goto (M := mX4_staysClear) (pc := 34) (t := 7) dX4_staysClear_34 (by decide) ?_
    exact p3 c1
theorem bX4_staysClear_48 {G : GC} {d : Nat} {sw : Bool} {f : FF} {Q : QQ} {x1 : Int32} {x2 : Int32} {x3 : Int32} {x4 : Int32} (p1 : (8 ≤ x4) → Q (some (.int 1)) sw f) (p2 : (¬ 8 ≤ x4) → XP G mX4_begins (d) 0 [.ref 11, .int 8, .int x4, .null] [] sw f (fun v sw' f' => XP G mX4_staysClear (d + 1) 63 [.ref 11, .int x1, .int x2, .int x3, .int x4] (retst v []) sw' f' Q)) : XP G mX4_staysClear (d + 1) 48 [.ref 11, .int x1, .int x2, .int x3, .int x4] [] sw f Q := by
  refine wp_iload (M := mX4_staysClear) (pc := 48) dX4_staysClear_48 rfl ?_
  refine wp_bipush (M := mX4_staysClear) (pc := 50) dX4_staysClear_50 k_bipush_8 ?_
  refine wp_icmp_ge (M := mX4_staysClear) (pc := 52) (t := 85) dX4_staysClear_52 (by decide) (fun c1 => ?_) (fun c1 => ?_)
  · refine wp_iconst (M := mX4_staysClear) (pc := 85) dX4_staysClear_85 k_iconst_1 ?_
    exact xs_zret (M := mX4_staysClear) (pc := 86) dX4_staysClear_86 rfl (by decide) (p1 c1)
  · refine wp_aload_n (M := mX4_staysClear) (pc := 55) dX4_staysClear_55 rfl rfl ?_
    refine wp_bipush (M := mX4_staysClear) (pc := 56) dX4_staysClear_56 k_bipush_8 ?_
    refine wp_iload (M := mX4_staysClear) (pc := 58) dX4_staysClear_58 rfl ?_
    refine xs_callV (d := d) (M := mX4_staysClear) (pc := 60) (As := [.int 8, .int x4]) (st := []) (c := 4) (ls' := [.ref 11, .int 8, .int x4, .null]) dX4_staysClear_60 oX4_begins nX4_begins lX4_36 vX4_begins sX4_begins rfl sh11 (Nat.le_of_ble_eq_true rfl) rfl (Nat.le_of_ble_eq_true rfl) rfl ?_
    exact p2 c1
theorem bX4_staysClear_63 {G : GC} {d : Nat} {sw : Bool} {f : FF} {Q : QQ} {x1 : Int32} {x2 : Int32} {x3 : Int32} {x4 : Int32} {s0 : Int32} (p1 : (¬ s0 = 0) → Q (some (.int 0)) sw f) (p2 : (s0 = 0) → XP G mX4_begins (d) 0 [.ref 11, .int x4, .int 8, .null] [] sw f (fun v sw' f' => XP G mX4_staysClear (d + 1) 74 [.ref 11, .int x1, .int x2, .int x3, .int x4] (retst v []) sw' f' Q)) : XP G mX4_staysClear (d + 1) 63 [.ref 11, .int x1, .int x2, .int x3, .int x4] [.int s0] sw f Q := by
  refine wp_if_ne (M := mX4_staysClear) (pc := 63) (t := 77) dX4_staysClear_63 (by decide) (fun c1 => ?_) (fun c1 => ?_)
  · refine wp_iconst (M := mX4_staysClear) (pc := 77) dX4_staysClear_77 k_iconst_0 ?_
    exact xs_zret (M := mX4_staysClear) (pc := 78) dX4_staysClear_78 rfl (by decide) (p1 c1)
  · refine wp_aload_n (M := mX4_staysClear) (pc := 66) dX4_staysClear_66 rfl rfl ?_
    refine wp_iload (M := mX4_staysClear) (pc := 67) dX4_staysClear_67 rfl ?_
    refine wp_bipush (M := mX4_staysClear) (pc := 69) dX4_staysClear_69 k_bipush_8 ?_
    refine xs_callV (d := d) (M := mX4_staysClear) (pc := 71) (As := [.int x4, .int 8]) (st := []) (c := 4) (ls' := [.ref 11, .int x4, .int 8, .null]) dX4_staysClear_71 oX4_begins nX4_begins lX4_36 vX4_begins sX4_begins rfl sh11 (Nat.le_of_ble_eq_true rfl) rfl (Nat.le_of_ble_eq_true rfl) rfl ?_
    exact p2 c1
theorem bX4_staysClear_74 {G : GC} {d : Nat} {sw : Bool} {f : FF} {Q : QQ} {x1 : Int32} {x2 : Int32} {x3 : Int32} {x4 : Int32} {s0 : Int32} (p1 : (s0 = 0) → XP G mX4_staysClear (d + 1) 48 [.ref 11, .int x1, .int x2, .int x3, .int (x4 + 1)] [] sw f Q) (p2 : (¬ s0 = 0) → Q (some (.int 0)) sw f) : XP G mX4_staysClear (d + 1) 74 [.ref 11, .int x1, .int x2, .int x3, .int x4] [.int s0] sw f Q := by
  refine wp_if_eq (M := mX4_staysClear) (pc := 74) (t := 79) dX4_staysClear_74 (by decide) (fun c1 => ?_) (fun c1 => ?_)
  · refine wp_iinc (M := mX4_staysClear) (pc := 79) (v := x4 + 1) (ls' := [.ref 11, .int x1, .int x2, .int x3, .int (x4 + 1)]) dX4_staysClear_79 rfl (congrArg (fun z => _ + z) k_iconst_1) (by decide) rfl ?_
    refine wp_goto (M := mX4_staysClear) (pc := 82) (t := 48) dX4_staysClear_82 (by decide) ?_
    exact p1 c1
  · refine wp_iconst (M := mX4_staysClear) (pc := 77) dX4_staysClear_77 k_iconst_0 ?_
    exact xs_zret (M := mX4_staysClear) (pc := 78) dX4_staysClear_78 rfl (by decide) (p2 c1)
