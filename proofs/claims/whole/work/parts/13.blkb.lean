theorem bX2_readLaw_0 {G : GC} {d : Nat} {sw : Bool} {f : FF} {Q : QQ}  (p1 : XP G mX2_readLaw (d + 6) 18 [.ref 24, .int 0] [] sw (upd2 (upd2 f (lwR sw) 0 0) (lwR sw) 1 0) Q) : XP G mX2_readLaw (d + 6) 0 [.ref 24, .null] [] sw f Q := by
  refine wp_aload_n (M := mX2_readLaw) (pc := 0) dX2_readLaw_0 rfl rfl ?_
  refine xs_getr (M := mX2_readLaw) (pc := 1) (r := lwR sw) dX2_readLaw_1 fX2_12 sh24 rfl (gr24_1 sw) ?_
  refine wp_iconst (M := mX2_readLaw) (pc := 4) dX2_readLaw_4 k_iconst_0 ?_
  refine xs_puti (M := mX2_readLaw) (pc := 5) dX2_readLaw_5 pX2_22 (shL (isLw_R sw)) rfl ?_
  refine wp_aload_n (M := mX2_readLaw) (pc := 8) dX2_readLaw_8 rfl rfl ?_
  refine xs_getr (M := mX2_readLaw) (pc := 9) (r := lwR sw) dX2_readLaw_9 fX2_12 sh24 rfl (gr24_1 sw) ?_
  refine wp_iconst (M := mX2_readLaw) (pc := 12) dX2_readLaw_12 k_iconst_0 ?_
  refine xs_puti (M := mX2_readLaw) (pc := 13) dX2_readLaw_13 pX2_26 (shL (isLw_R sw)) rfl ?_
  refine wp_iconst (M := mX2_readLaw) (pc := 16) dX2_readLaw_16 k_iconst_0 ?_
  refine wp_istore_n (M := mX2_readLaw) (pc := 17) (ls' := [.ref 24, .int 0]) dX2_readLaw_17 rfl (by decide) rfl ?_
  exact p1
theorem bX2_readLaw_18 {G : GC} {d : Nat} {sw : Bool} {f : FF} {Q : QQ} {x1 : Int32} (p1 : (16 < x1) → Q (some (.int (f 1 5))) sw f) (p2 : (¬ 16 < x1) → XP G mX2_readRule (d + 5) 0 [.ref 24, .int x1, .null, .null] [] sw f (fun v sw' f' => XP G mX2_readLaw (d + 6) 29 [.ref 24, .int x1] (retst v []) sw' f' Q)) : XP G mX2_readLaw (d + 6) 18 [.ref 24, .int x1] [] sw f Q := by
  refine wp_iload_n (M := mX2_readLaw) (pc := 18) dX2_readLaw_18 rfl rfl ?_
  refine wp_bipush (M := mX2_readLaw) (pc := 19) dX2_readLaw_19 k_bipush_16 ?_
  refine wp_icmp_gt (M := mX2_readLaw) (pc := 21) (t := 95) dX2_readLaw_21 (by decide) (fun c1 => ?_) (fun c1 => ?_)
  · refine wp_aload_n (M := mX2_readLaw) (pc := 95) dX2_readLaw_95 rfl rfl ?_
    refine xs_getr (M := mX2_readLaw) (pc := 96) (r := 1) dX2_readLaw_96 fX2_18 sh24 rfl (gr24_0 sw) ?_
    refine xs_geti (M := mX2_readLaw) (pc := 99) dX2_readLaw_99 fX2_33 sh1 rfl ?_
    exact xs_iret (M := mX2_readLaw) (pc := 102) dX2_readLaw_102 rfl (p1 c1)
  · refine wp_aload_n (M := mX2_readLaw) (pc := 24) dX2_readLaw_24 rfl rfl ?_
    refine wp_iload_n (M := mX2_readLaw) (pc := 25) dX2_readLaw_25 rfl rfl ?_
    refine xs_callV (d := d + 5) (M := mX2_readLaw) (pc := 26) (As := [.int x1]) (st := []) (c := 2) (ls' := [.ref 24, .int x1, .null, .null]) dX2_readLaw_26 oX2_readRule nX2_readRule lX2_29 vX2_readRule sX2_readRule rfl sh24 (Nat.le_of_ble_eq_true rfl) rfl (Nat.le_of_ble_eq_true rfl) rfl ?_
    exact p2 c1
theorem bX2_readLaw_29 {G : GC} {d : Nat} {sw : Bool} {f : FF} {Q : QQ} {x1 : Int32} {s0 : Int32} (p1 : (¬ s0 = 0) → (¬ (tAt (upd2 f (lwR sw) 0 (x1 + 1)) ((upd2 f (lwR sw) 0 (x1 + 1)) 1 3)) = (-1)) → XP G mX8_passes (d + 5) 0 [.ref 1, .int 59] [] sw (upd2 f (lwR sw) 0 (x1 + 1)) (fun v sw' f' => XP G mX2_readLaw (d + 6) 78 [.ref 24, .int x1] (retst v []) sw' f' Q)) (p2 : (¬ s0 = 0) → ((tAt (upd2 f (lwR sw) 0 (x1 + 1)) ((upd2 f (lwR sw) 0 (x1 + 1)) 1 3)) = (-1)) → Q (some (.int ((upd2 f (lwR sw) 0 (x1 + 1)) (lwR sw) 0))) sw (upd2 f (lwR sw) 0 (x1 + 1))) (p3 : (s0 = 0) → Q (some (.int (f 1 5))) sw f) : XP G mX2_readLaw (d + 6) 29 [.ref 24, .int x1] [.int s0] sw f Q := by
  refine wp_if_ne (M := mX2_readLaw) (pc := 29) (t := 40) dX2_readLaw_29 (by decide) (fun c1 => ?_) (fun c1 => ?_)
  · refine wp_aload_n (M := mX2_readLaw) (pc := 40) dX2_readLaw_40 rfl rfl ?_
    refine xs_getr (M := mX2_readLaw) (pc := 41) (r := lwR sw) dX2_readLaw_41 fX2_12 sh24 rfl (gr24_1 sw) ?_
    refine wp_iload_n (M := mX2_readLaw) (pc := 44) dX2_readLaw_44 rfl rfl ?_
    refine wp_iconst (M := mX2_readLaw) (pc := 45) dX2_readLaw_45 k_iconst_1 ?_
    refine wp_iadd (M := mX2_readLaw) (pc := 46) dX2_readLaw_46 ?_
    refine xs_puti (M := mX2_readLaw) (pc := 47) dX2_readLaw_47 pX2_22 (shL (isLw_R sw)) rfl ?_
    refine wp_aload_n (M := mX2_readLaw) (pc := 50) dX2_readLaw_50 rfl rfl ?_
    refine xs_getr (M := mX2_readLaw) (pc := 51) (r := 1) dX2_readLaw_51 fX2_18 sh24 rfl (gr24_0 sw) ?_
    refine xs_callV (d := d + 5) (M := mX2_readLaw) (pc := 54) (As := []) (st := []) (c := 8) (ls' := [.ref 1]) dX2_readLaw_54 oX8_sign nX8_sign lX2_38 vX8_sign sX8_sign rfl sh1 (Nat.le_of_ble_eq_true rfl) rfl (Nat.le_of_ble_eq_true rfl) rfl ?_
    refine sp_X8_sign   ?_
    refine wp_iconst (M := mX2_readLaw) (pc := 57) dX2_readLaw_57 k_iconst_m1 ?_
    refine wp_icmp_ne (M := mX2_readLaw) (pc := 58) (t := 69) dX2_readLaw_58 (by decide) (fun c2 => ?_) (fun c2 => ?_)
    · refine wp_aload_n (M := mX2_readLaw) (pc := 69) dX2_readLaw_69 rfl rfl ?_
      refine xs_getr (M := mX2_readLaw) (pc := 70) (r := 1) dX2_readLaw_70 fX2_18 sh24 rfl (gr24_0 sw) ?_
      refine wp_bipush (M := mX2_readLaw) (pc := 73) dX2_readLaw_73 k_bipush_59 ?_
      refine xs_callV (d := d + 5) (M := mX2_readLaw) (pc := 75) (As := [.int 59]) (st := []) (c := 8) (ls' := [.ref 1, .int 59]) dX2_readLaw_75 oX8_passes nX8_passes lX2_42 vX8_passes sX8_passes rfl sh1 (Nat.le_of_ble_eq_true rfl) rfl (Nat.le_of_ble_eq_true rfl) rfl ?_
      exact p1 c1 c2
    · refine wp_aload_n (M := mX2_readLaw) (pc := 61) dX2_readLaw_61 rfl rfl ?_
      refine xs_getr (M := mX2_readLaw) (pc := 62) (r := lwR sw) dX2_readLaw_62 fX2_12 sh24 rfl (gr24_1 sw) ?_
      refine xs_geti (M := mX2_readLaw) (pc := 65) dX2_readLaw_65 fX2_22 (shL (isLw_R sw)) rfl ?_
      exact xs_iret (M := mX2_readLaw) (pc := 68) dX2_readLaw_68 rfl (p2 c1 c2)
  · refine wp_aload_n (M := mX2_readLaw) (pc := 32) dX2_readLaw_32 rfl rfl ?_
    refine xs_getr (M := mX2_readLaw) (pc := 33) (r := 1) dX2_readLaw_33 fX2_18 sh24 rfl (gr24_0 sw) ?_
    refine xs_geti (M := mX2_readLaw) (pc := 36) dX2_readLaw_36 fX2_33 sh1 rfl ?_
    exact xs_iret (M := mX2_readLaw) (pc := 39) dX2_readLaw_39 rfl (p3 c1)
theorem bX2_readLaw_78 {G : GC} {d : Nat} {sw : Bool} {f : FF} {Q : QQ} {x1 : Int32} {s0 : Int32} (p1 : (¬ s0 = 0) → XP G mX2_readLaw (d + 6) 18 [.ref 24, .int (x1 + 1)] [] sw f Q) (p2 : (s0 = 0) → Q (some (.int (f 1 5))) sw f) : XP G mX2_readLaw (d + 6) 78 [.ref 24, .int x1] [.int s0] sw f Q := by
  refine wp_if_ne (M := mX2_readLaw) (pc := 78) (t := 89) dX2_readLaw_78 (by decide) (fun c1 => ?_) (fun c1 => ?_)
  · refine wp_iinc (M := mX2_readLaw) (pc := 89) (v := x1 + 1) (ls' := [.ref 24, .int (x1 + 1)]) dX2_readLaw_89 rfl (congrArg (fun z => _ + z) k_iconst_1) (by decide) rfl ?_
    refine wp_goto (M := mX2_readLaw) (pc := 92) (t := 18) dX2_readLaw_92 (by decide) ?_
    exact p1 c1
  · refine wp_aload_n (M := mX2_readLaw) (pc := 81) dX2_readLaw_81 rfl rfl ?_
    refine xs_getr (M := mX2_readLaw) (pc := 82) (r := 1) dX2_readLaw_82 fX2_18 sh24 rfl (gr24_0 sw) ?_
    refine xs_geti (M := mX2_readLaw) (pc := 85) dX2_readLaw_85 fX2_33 sh1 rfl ?_
    exact xs_iret (M := mX2_readLaw) (pc := 88) dX2_readLaw_88 rfl (p2 c1)
theorem bX2_readRule_0 {G : GC} {d : Nat} {sw : Bool} {f : FF} {Q : QQ} {x1 : Int32} (p1 : ((tAt f (f 1 3)) = 114) → (x1 < 16) → vp_in x1 16) (p2 : ((tAt f (f 1 3)) = 114) → (x1 < 16) → vp_in x1 16) (p3 : ((tAt f (f 1 3)) = 114) → (x1 < 16) → XP G mX2_readSum (d + 4) 0 [.ref 24, .int 0, .null, .null] [] sw (upd2 (upd2 (upd2 f 1 3 ((f 1 3) + 1)) ((lwR sw) + 1) x1.toNatClampNeg (tAt f (f 1 3))) ((lwR sw) + 2) x1.toNatClampNeg ((upd2 (upd2 f 1 3 ((f 1 3) + 1)) ((lwR sw) + 1) x1.toNatClampNeg (tAt f (f 1 3))) (lwR sw) 1)) (fun v sw' f' => XP G mX2_readRule (d + 5) 120 [.ref 24, .int x1, .int (tAt f (f 1 3)), .int 1] (retst v []) sw' f' Q)) (p4 : ((tAt f (f 1 3)) = 114) → (¬ x1 < 16) → XP G mX8_fails (d + 4) 0 [.ref 1, .int 4] [] sw f (fun v sw' f' => XP G mX2_readRule (d + 5) 71 [.ref 24, .int x1, .int (tAt f (f 1 3)), .int 1] (retst v []) sw' f' Q)) (p5 : (¬ (tAt f (f 1 3)) = 114) → ((tAt f (f 1 3)) = 119) → (x1 < 16) → vp_in x1 16) (p6 : (¬ (tAt f (f 1 3)) = 114) → ((tAt f (f 1 3)) = 119) → (x1 < 16) → vp_in x1 16) (p7 : (¬ (tAt f (f 1 3)) = 114) → ((tAt f (f 1 3)) = 119) → (x1 < 16) → XP G mX2_readSum (d + 4) 0 [.ref 24, .int 0, .null, .null] [] sw (upd2 (upd2 (upd2 f 1 3 ((f 1 3) + 1)) ((lwR sw) + 1) x1.toNatClampNeg (tAt f (f 1 3))) ((lwR sw) + 2) x1.toNatClampNeg ((upd2 (upd2 f 1 3 ((f 1 3) + 1)) ((lwR sw) + 1) x1.toNatClampNeg (tAt f (f 1 3))) (lwR sw) 1)) (fun v sw' f' => XP G mX2_readRule (d + 5) 120 [.ref 24, .int x1, .int (tAt f (f 1 3)), .int 1] (retst v []) sw' f' Q)) (p8 : (¬ (tAt f (f 1 3)) = 114) → ((tAt f (f 1 3)) = 119) → (¬ x1 < 16) → XP G mX8_fails (d + 4) 0 [.ref 1, .int 4] [] sw f (fun v sw' f' => XP G mX2_readRule (d + 5) 71 [.ref 24, .int x1, .int (tAt f (f 1 3)), .int 1] (retst v []) sw' f' Q)) (p9 : (¬ (tAt f (f 1 3)) = 114) → (¬ (tAt f (f 1 3)) = 119) → (¬ (tAt f (f 1 3)) = 108) → ((tAt f (f 1 3)) = 118) → (x1 < 16) → vp_in x1 16) (p10 : (¬ (tAt f (f 1 3)) = 114) → (¬ (tAt f (f 1 3)) = 119) → (¬ (tAt f (f 1 3)) = 108) → ((tAt f (f 1 3)) = 118) → (x1 < 16) → vp_in x1 16) (p11 : (¬ (tAt f (f 1 3)) = 114) → (¬ (tAt f (f 1 3)) = 119) → (¬ (tAt f (f 1 3)) = 108) → ((tAt f (f 1 3)) = 118) → (x1 < 16) → vp_in x1 16) (p12 : (¬ (tAt f (f 1 3)) = 114) → (¬ (tAt f (f 1 3)) = 119) → (¬ (tAt f (f 1 3)) = 108) → ((tAt f (f 1 3)) = 118) → (x1 < 16) → XP G mX2_readBracket (d + 4) 0 [.ref 24, .int 0] [] sw (upd2 (upd2 (upd2 (upd2 f 1 3 ((f 1 3) + 1)) ((lwR sw) + 1) x1.toNatClampNeg (tAt f (f 1 3))) ((lwR sw) + 2) x1.toNatClampNeg ((upd2 (upd2 f 1 3 ((f 1 3) + 1)) ((lwR sw) + 1) x1.toNatClampNeg (tAt f (f 1 3))) (lwR sw) 1)) ((lwR sw) + 3) x1.toNatClampNeg ((upd2 (upd2 (upd2 f 1 3 ((f 1 3) + 1)) ((lwR sw) + 1) x1.toNatClampNeg (tAt f (f 1 3))) ((lwR sw) + 2) x1.toNatClampNeg ((upd2 (upd2 f 1 3 ((f 1 3) + 1)) ((lwR sw) + 1) x1.toNatClampNeg (tAt f (f 1 3))) (lwR sw) 1)) (lwR sw) 1)) (fun v sw' f' => XP G mX2_readRule (d + 5) 146 [.ref 24, .int x1, .int (tAt f (f 1 3)), .int 0] (retst v []) sw' f' Q)) (p13 : (¬ (tAt f (f 1 3)) = 114) → (¬ (tAt f (f 1 3)) = 119) → (¬ (tAt f (f 1 3)) = 108) → ((tAt f (f 1 3)) = 118) → (¬ x1 < 16) → XP G mX8_fails (d + 4) 0 [.ref 1, .int 4] [] sw f (fun v sw' f' => XP G mX2_readRule (d + 5) 71 [.ref 24, .int x1, .int (tAt f (f 1 3)), .int 0] (retst v []) sw' f' Q)) (p14 : (¬ (tAt f (f 1 3)) = 114) → (¬ (tAt f (f 1 3)) = 119) → (¬ (tAt f (f 1 3)) = 108) → (¬ (tAt f (f 1 3)) = 118) → ((tAt f (f 1 3)) = 120) → (x1 < 16) → vp_in x1 16) (p15 : (¬ (tAt f (f 1 3)) = 114) → (¬ (tAt f (f 1 3)) = 119) → (¬ (tAt f (f 1 3)) = 108) → (¬ (tAt f (f 1 3)) = 118) → ((tAt f (f 1 3)) = 120) → (x1 < 16) → vp_in x1 16) (p16 : (¬ (tAt f (f 1 3)) = 114) → (¬ (tAt f (f 1 3)) = 119) → (¬ (tAt f (f 1 3)) = 108) → (¬ (tAt f (f 1 3)) = 118) → ((tAt f (f 1 3)) = 120) → (x1 < 16) → vp_in x1 16) (p17 : (¬ (tAt f (f 1 3)) = 114) → (¬ (tAt f (f 1 3)) = 119) → (¬ (tAt f (f 1 3)) = 108) → (¬ (tAt f (f 1 3)) = 118) → ((tAt f (f 1 3)) = 120) → (x1 < 16) → XP G mX2_readBracket (d + 4) 0 [.ref 24, .int 0] [] sw (upd2 (upd2 (upd2 (upd2 f 1 3 ((f 1 3) + 1)) ((lwR sw) + 1) x1.toNatClampNeg (tAt f (f 1 3))) ((lwR sw) + 2) x1.toNatClampNeg ((upd2 (upd2 f 1 3 ((f 1 3) + 1)) ((lwR sw) + 1) x1.toNatClampNeg (tAt f (f 1 3))) (lwR sw) 1)) ((lwR sw) + 3) x1.toNatClampNeg ((upd2 (upd2 (upd2 f 1 3 ((f 1 3) + 1)) ((lwR sw) + 1) x1.toNatClampNeg (tAt f (f 1 3))) ((lwR sw) + 2) x1.toNatClampNeg ((upd2 (upd2 f 1 3 ((f 1 3) + 1)) ((lwR sw) + 1) x1.toNatClampNeg (tAt f (f 1 3))) (lwR sw) 1)) (lwR sw) 1)) (fun v sw' f' => XP G mX2_readRule (d + 5) 146 [.ref 24, .int x1, .int (tAt f (f 1 3)), .int 0] (retst v []) sw' f' Q)) (p18 : (¬ (tAt f (f 1 3)) = 114) → (¬ (tAt f (f 1 3)) = 119) → (¬ (tAt f (f 1 3)) = 108) → (¬ (tAt f (f 1 3)) = 118) → ((tAt f (f 1 3)) = 120) → (¬ x1 < 16) → XP G mX8_fails (d + 4) 0 [.ref 1, .int 4] [] sw f (fun v sw' f' => XP G mX2_readRule (d + 5) 71 [.ref 24, .int x1, .int (tAt f (f 1 3)), .int 0] (retst v []) sw' f' Q)) (p19 : (¬ (tAt f (f 1 3)) = 114) → (¬ (tAt f (f 1 3)) = 119) → (¬ (tAt f (f 1 3)) = 108) → (¬ (tAt f (f 1 3)) = 118) → (¬ (tAt f (f 1 3)) = 120) → XP G mX8_fails (d + 4) 0 [.ref 1, .int 1] [] sw f (fun v sw' f' => XP G mX2_readRule (d + 5) 56 [.ref 24, .int x1, .int (tAt f (f 1 3)), .int 0] (retst v []) sw' f' Q)) (p20 : (¬ (tAt f (f 1 3)) = 114) → (¬ (tAt f (f 1 3)) = 119) → ((tAt f (f 1 3)) = 108) → (x1 < 16) → vp_in x1 16) (p21 : (¬ (tAt f (f 1 3)) = 114) → (¬ (tAt f (f 1 3)) = 119) → ((tAt f (f 1 3)) = 108) → (x1 < 16) → vp_in x1 16) (p22 : (¬ (tAt f (f 1 3)) = 114) → (¬ (tAt f (f 1 3)) = 119) → ((tAt f (f 1 3)) = 108) → (x1 < 16) → XP G mX2_readSum (d + 4) 0 [.ref 24, .int 0, .null, .null] [] sw (upd2 (upd2 (upd2 f 1 3 ((f 1 3) + 1)) ((lwR sw) + 1) x1.toNatClampNeg (tAt f (f 1 3))) ((lwR sw) + 2) x1.toNatClampNeg ((upd2 (upd2 f 1 3 ((f 1 3) + 1)) ((lwR sw) + 1) x1.toNatClampNeg (tAt f (f 1 3))) (lwR sw) 1)) (fun v sw' f' => XP G mX2_readRule (d + 5) 120 [.ref 24, .int x1, .int (tAt f (f 1 3)), .int 1] (retst v []) sw' f' Q)) (p23 : (¬ (tAt f (f 1 3)) = 114) → (¬ (tAt f (f 1 3)) = 119) → ((tAt f (f 1 3)) = 108) → (¬ x1 < 16) → XP G mX8_fails (d + 4) 0 [.ref 1, .int 4] [] sw f (fun v sw' f' => XP G mX2_readRule (d + 5) 71 [.ref 24, .int x1, .int (tAt f (f 1 3)), .int 1] (retst v []) sw' f' Q)) : XP G mX2_readRule (d + 5) 0 [.ref 24, .int x1, .null, .null] [] sw f Q := by
  refine wp_aload_n (M := mX2_readRule) (pc := 0) dX2_readRule_0 rfl rfl ?_
  refine xs_getr (M := mX2_readRule) (pc := 1) (r := 1) dX2_readRule_1 fX2_18 sh24 rfl (gr24_0 sw) ?_
  refine xs_callV (d := d + 4) (M := mX2_readRule) (pc := 4) (As := []) (st := []) (c := 8) (ls' := [.ref 1]) dX2_readRule_4 oX8_sign nX8_sign lX2_38 vX8_sign sX8_sign rfl sh1 (Nat.le_of_ble_eq_true rfl) rfl (Nat.le_of_ble_eq_true rfl) rfl ?_
  refine sp_X8_sign   ?_
  refine wp_istore_n (M := mX2_readRule) (pc := 7) (ls' := [.ref 24, .int x1, .int (tAt f (f 1 3)), .null]) dX2_readRule_7 rfl (by decide) rfl ?_
  refine wp_iload_n (M := mX2_readRule) (pc := 8) dX2_readRule_8 rfl rfl ?_
  refine wp_bipush (M := mX2_readRule) (pc := 9) dX2_readRule_9 k_bipush_114 ?_
  refine wp_icmp_eq (M := mX2_readRule) (pc := 11) (t := 26) dX2_readRule_11 (by decide) (fun c1 => ?_) (fun c1 => ?_)
  · refine wp_iconst (M := mX2_readRule) (pc := 26) dX2_readRule_26 k_iconst_1 ?_
    refine wp_goto (M := mX2_readRule) (pc := 27) (t := 31) dX2_readRule_27 (by decide) ?_
    refine wp_istore_n (M := mX2_readRule) (pc := 31) (ls' := [.ref 24, .int x1, .int (tAt f (f 1 3)), .int 1]) dX2_readRule_31 rfl (by decide) rfl ?_
    refine wp_iload_n (M := mX2_readRule) (pc := 32) dX2_readRule_32 rfl rfl ?_
    refine wp_if_ne (M := mX2_readRule) (pc := 33) (t := 57) dX2_readRule_33 (by decide) (fun _ => ?_) (fun c => absurd c (by decide))
    refine wp_iload_n (M := mX2_readRule) (pc := 57) dX2_readRule_57 rfl rfl ?_
    refine wp_bipush (M := mX2_readRule) (pc := 58) dX2_readRule_58 k_bipush_16 ?_
    refine wp_icmp_lt (M := mX2_readRule) (pc := 60) (t := 72) dX2_readRule_60 (by decide) (fun c2 => ?_) (fun c2 => ?_)
    · refine wp_aload_n (M := mX2_readRule) (pc := 72) dX2_readRule_72 rfl rfl ?_
      refine xs_getr (M := mX2_readRule) (pc := 73) (r := 1) dX2_readRule_73 fX2_18 sh24 rfl (gr24_0 sw) ?_
      refine wp_dup (M := mX2_readRule) (pc := 76) dX2_readRule_76 ?_
      refine xs_geti (M := mX2_readRule) (pc := 77) dX2_readRule_77 fX2_48 sh1 rfl ?_
      refine wp_iconst (M := mX2_readRule) (pc := 80) dX2_readRule_80 k_iconst_1 ?_
      refine wp_iadd (M := mX2_readRule) (pc := 81) dX2_readRule_81 ?_
      refine xs_puti (M := mX2_readRule) (pc := 82) dX2_readRule_82 pX2_48 sh1 rfl ?_
      refine wp_aload_n (M := mX2_readRule) (pc := 85) dX2_readRule_85 rfl rfl ?_
      refine xs_getr (M := mX2_readRule) (pc := 86) (r := lwR sw) dX2_readRule_86 fX2_12 sh24 rfl (gr24_1 sw) ?_
      refine xs_getr (M := mX2_readRule) (pc := 89) (r := (lwR sw) + 1) dX2_readRule_89 fX2_51 (shL (isLw_R sw)) rfl (grL_2 (isLw_R sw)) ?_
      refine wp_iload_n (M := mX2_readRule) (pc := 92) dX2_readRule_92 rfl rfl ?_
      refine wp_iload_n (M := mX2_readRule) (pc := 93) dX2_readRule_93 rfl rfl ?_
      refine xs_iast (M := mX2_readRule) (pc := 94) (j := x1.toNatClampNeg) dX2_readRule_94 (shL_1 (isLw_R sw)) (p1 c1 c2) rfl ?_
      refine wp_aload_n (M := mX2_readRule) (pc := 95) dX2_readRule_95 rfl rfl ?_
      refine xs_getr (M := mX2_readRule) (pc := 96) (r := lwR sw) dX2_readRule_96 fX2_12 sh24 rfl (gr24_1 sw) ?_
      refine xs_getr (M := mX2_readRule) (pc := 99) (r := (lwR sw) + 2) dX2_readRule_99 fX2_55 (shL (isLw_R sw)) rfl (grL_3 (isLw_R sw)) ?_
      refine wp_iload_n (M := mX2_readRule) (pc := 102) dX2_readRule_102 rfl rfl ?_
      refine wp_aload_n (M := mX2_readRule) (pc := 103) dX2_readRule_103 rfl rfl ?_
      refine xs_getr (M := mX2_readRule) (pc := 104) (r := lwR sw) dX2_readRule_104 fX2_12 sh24 rfl (gr24_1 sw) ?_
      refine xs_geti (M := mX2_readRule) (pc := 107) dX2_readRule_107 fX2_26 (shL (isLw_R sw)) rfl ?_
      refine xs_iast (M := mX2_readRule) (pc := 110) (j := x1.toNatClampNeg) dX2_readRule_110 (shL_2 (isLw_R sw)) (p2 c1 c2) rfl ?_
      refine wp_iload_n (M := mX2_readRule) (pc := 111) dX2_readRule_111 rfl rfl ?_
      refine wp_if_eq (M := mX2_readRule) (pc := 112) (t := 125) dX2_readRule_112 (by decide) (fun c => absurd c (by decide)) (fun _ => ?_)
      refine wp_aload_n (M := mX2_readRule) (pc := 115) dX2_readRule_115 rfl rfl ?_
      refine wp_iconst (M := mX2_readRule) (pc := 116) dX2_readRule_116 k_iconst_0 ?_
      refine xs_callV (d := d + 4) (M := mX2_readRule) (pc := 117) (As := [.int 0]) (st := []) (c := 2) (ls' := [.ref 24, .int 0, .null, .null]) dX2_readRule_117 oX2_readSum nX2_readSum lX2_58 vX2_readSum sX2_readSum rfl sh24 (Nat.le_of_ble_eq_true rfl) rfl (Nat.le_of_ble_eq_true rfl) rfl ?_
      exact p3 c1 c2
    · refine wp_aload_n (M := mX2_readRule) (pc := 63) dX2_readRule_63 rfl rfl ?_
      refine xs_getr (M := mX2_readRule) (pc := 64) (r := 1) dX2_readRule_64 fX2_18 sh24 rfl (gr24_0 sw) ?_
      refine wp_iconst (M := mX2_readRule) (pc := 67) dX2_readRule_67 k_iconst_4 ?_
      refine xs_callV (d := d + 4) (M := mX2_readRule) (pc := 68) (As := [.int 4]) (st := []) (c := 8) (ls' := [.ref 1, .int 4]) dX2_readRule_68 oX8_fails nX8_fails lX2_45 vX8_fails sX8_fails rfl sh1 (Nat.le_of_ble_eq_true rfl) rfl (Nat.le_of_ble_eq_true rfl) rfl ?_
      exact p4 c1 c2
  · refine wp_iload_n (M := mX2_readRule) (pc := 14) dX2_readRule_14 rfl rfl ?_
    refine wp_bipush (M := mX2_readRule) (pc := 15) dX2_readRule_15 k_bipush_119 ?_
    refine wp_icmp_eq (M := mX2_readRule) (pc := 17) (t := 26) dX2_readRule_17 (by decide) (fun c3 => ?_) (fun c3 => ?_)
    · refine wp_iconst (M := mX2_readRule) (pc := 26) dX2_readRule_26 k_iconst_1 ?_
      refine wp_goto (M := mX2_readRule) (pc := 27) (t := 31) dX2_readRule_27 (by decide) ?_
      refine wp_istore_n (M := mX2_readRule) (pc := 31) (ls' := [.ref 24, .int x1, .int (tAt f (f 1 3)), .int 1]) dX2_readRule_31 rfl (by decide) rfl ?_
      refine wp_iload_n (M := mX2_readRule) (pc := 32) dX2_readRule_32 rfl rfl ?_
      refine wp_if_ne (M := mX2_readRule) (pc := 33) (t := 57) dX2_readRule_33 (by decide) (fun _ => ?_) (fun c => absurd c (by decide))
      refine wp_iload_n (M := mX2_readRule) (pc := 57) dX2_readRule_57 rfl rfl ?_
      refine wp_bipush (M := mX2_readRule) (pc := 58) dX2_readRule_58 k_bipush_16 ?_
      refine wp_icmp_lt (M := mX2_readRule) (pc := 60) (t := 72) dX2_readRule_60 (by decide) (fun c4 => ?_) (fun c4 => ?_)
      · refine wp_aload_n (M := mX2_readRule) (pc := 72) dX2_readRule_72 rfl rfl ?_
        refine xs_getr (M := mX2_readRule) (pc := 73) (r := 1) dX2_readRule_73 fX2_18 sh24 rfl (gr24_0 sw) ?_
        refine wp_dup (M := mX2_readRule) (pc := 76) dX2_readRule_76 ?_
        refine xs_geti (M := mX2_readRule) (pc := 77) dX2_readRule_77 fX2_48 sh1 rfl ?_
        refine wp_iconst (M := mX2_readRule) (pc := 80) dX2_readRule_80 k_iconst_1 ?_
        refine wp_iadd (M := mX2_readRule) (pc := 81) dX2_readRule_81 ?_
        refine xs_puti (M := mX2_readRule) (pc := 82) dX2_readRule_82 pX2_48 sh1 rfl ?_
        refine wp_aload_n (M := mX2_readRule) (pc := 85) dX2_readRule_85 rfl rfl ?_
        refine xs_getr (M := mX2_readRule) (pc := 86) (r := lwR sw) dX2_readRule_86 fX2_12 sh24 rfl (gr24_1 sw) ?_
        refine xs_getr (M := mX2_readRule) (pc := 89) (r := (lwR sw) + 1) dX2_readRule_89 fX2_51 (shL (isLw_R sw)) rfl (grL_2 (isLw_R sw)) ?_
        refine wp_iload_n (M := mX2_readRule) (pc := 92) dX2_readRule_92 rfl rfl ?_
        refine wp_iload_n (M := mX2_readRule) (pc := 93) dX2_readRule_93 rfl rfl ?_
        refine xs_iast (M := mX2_readRule) (pc := 94) (j := x1.toNatClampNeg) dX2_readRule_94 (shL_1 (isLw_R sw)) (p5 c1 c3 c4) rfl ?_
        refine wp_aload_n (M := mX2_readRule) (pc := 95) dX2_readRule_95 rfl rfl ?_
        refine xs_getr (M := mX2_readRule) (pc := 96) (r := lwR sw) dX2_readRule_96 fX2_12 sh24 rfl (gr24_1 sw) ?_
        refine xs_getr (M := mX2_readRule) (pc := 99) (r := (lwR sw) + 2) dX2_readRule_99 fX2_55 (shL (isLw_R sw)) rfl (grL_3 (isLw_R sw)) ?_
        refine wp_iload_n (M := mX2_readRule) (pc := 102) dX2_readRule_102 rfl rfl ?_
        refine wp_aload_n (M := mX2_readRule) (pc := 103) dX2_readRule_103 rfl rfl ?_
        refine xs_getr (M := mX2_readRule) (pc := 104) (r := lwR sw) dX2_readRule_104 fX2_12 sh24 rfl (gr24_1 sw) ?_
        refine xs_geti (M := mX2_readRule) (pc := 107) dX2_readRule_107 fX2_26 (shL (isLw_R sw)) rfl ?_
        refine xs_iast (M := mX2_readRule) (pc := 110) (j := x1.toNatClampNeg) dX2_readRule_110 (shL_2 (isLw_R sw)) (p6 c1 c3 c4) rfl ?_
        refine wp_iload_n (M := mX2_readRule) (pc := 111) dX2_readRule_111 rfl rfl ?_
        refine wp_if_eq (M := mX2_readRule) (pc := 112) (t := 125) dX2_readRule_112 (by decide) (fun c => absurd c (by decide)) (fun _ => ?_)
        refine wp_aload_n (M := mX2_readRule) (pc := 115) dX2_readRule_115 rfl rfl ?_
        refine wp_iconst (M := mX2_readRule) (pc := 116) dX2_readRule_116 k_iconst_0 ?_
        refine xs_callV (d := d + 4) (M := mX2_readRule) (pc := 117) (As := [.int 0]) (st := []) (c := 2) (ls' := [.ref 24, .int 0, .null, .null]) dX2_readRule_117 oX2_readSum nX2_readSum lX2_58 vX2_readSum sX2_readSum rfl sh24 (Nat.le_of_ble_eq_true rfl) rfl (Nat.le_of_ble_eq_true rfl) rfl ?_
        exact p7 c1 c3 c4
      · refine wp_aload_n (M := mX2_readRule) (pc := 63) dX2_readRule_63 rfl rfl ?_
        refine xs_getr (M := mX2_readRule) (pc := 64) (r := 1) dX2_readRule_64 fX2_18 sh24 rfl (gr24_0 sw) ?_
        refine wp_iconst (M := mX2_readRule) (pc := 67) dX2_readRule_67 k_iconst_4 ?_
        refine xs_callV (d := d + 4) (M := mX2_readRule) (pc := 68) (As := [.int 4]) (st := []) (c := 8) (ls' := [.ref 1, .int 4]) dX2_readRule_68 oX8_fails nX8_fails lX2_45 vX8_fails sX8_fails rfl sh1 (Nat.le_of_ble_eq_true rfl) rfl (Nat.le_of_ble_eq_true rfl) rfl ?_
        exact p8 c1 c3 c4
    · refine wp_iload_n (M := mX2_readRule) (pc := 20) dX2_readRule_20 rfl rfl ?_
      refine wp_bipush (M := mX2_readRule) (pc := 21) dX2_readRule_21 k_bipush_108 ?_
      refine wp_icmp_ne (M := mX2_readRule) (pc := 23) (t := 30) dX2_readRule_23 (by decide) (fun c5 => ?_) (fun c5 => ?_)
      · refine wp_iconst (M := mX2_readRule) (pc := 30) dX2_readRule_30 k_iconst_0 ?_
        refine wp_istore_n (M := mX2_readRule) (pc := 31) (ls' := [.ref 24, .int x1, .int (tAt f (f 1 3)), .int 0]) dX2_readRule_31 rfl (by decide) rfl ?_
        refine wp_iload_n (M := mX2_readRule) (pc := 32) dX2_readRule_32 rfl rfl ?_
        refine wp_if_ne (M := mX2_readRule) (pc := 33) (t := 57) dX2_readRule_33 (by decide) (fun c => absurd c (by decide)) (fun _ => ?_)
        refine wp_iload_n (M := mX2_readRule) (pc := 36) dX2_readRule_36 rfl rfl ?_
        refine wp_bipush (M := mX2_readRule) (pc := 37) dX2_readRule_37 k_bipush_118 ?_
        refine wp_icmp_eq (M := mX2_readRule) (pc := 39) (t := 57) dX2_readRule_39 (by decide) (fun c6 => ?_) (fun c6 => ?_)
        · refine wp_iload_n (M := mX2_readRule) (pc := 57) dX2_readRule_57 rfl rfl ?_
          refine wp_bipush (M := mX2_readRule) (pc := 58) dX2_readRule_58 k_bipush_16 ?_
          refine wp_icmp_lt (M := mX2_readRule) (pc := 60) (t := 72) dX2_readRule_60 (by decide) (fun c7 => ?_) (fun c7 => ?_)
          · refine wp_aload_n (M := mX2_readRule) (pc := 72) dX2_readRule_72 rfl rfl ?_
            refine xs_getr (M := mX2_readRule) (pc := 73) (r := 1) dX2_readRule_73 fX2_18 sh24 rfl (gr24_0 sw) ?_
            refine wp_dup (M := mX2_readRule) (pc := 76) dX2_readRule_76 ?_
            refine xs_geti (M := mX2_readRule) (pc := 77) dX2_readRule_77 fX2_48 sh1 rfl ?_
            refine wp_iconst (M := mX2_readRule) (pc := 80) dX2_readRule_80 k_iconst_1 ?_
            refine wp_iadd (M := mX2_readRule) (pc := 81) dX2_readRule_81 ?_
            refine xs_puti (M := mX2_readRule) (pc := 82) dX2_readRule_82 pX2_48 sh1 rfl ?_
            refine wp_aload_n (M := mX2_readRule) (pc := 85) dX2_readRule_85 rfl rfl ?_
            refine xs_getr (M := mX2_readRule) (pc := 86) (r := lwR sw) dX2_readRule_86 fX2_12 sh24 rfl (gr24_1 sw) ?_
            refine xs_getr (M := mX2_readRule) (pc := 89) (r := (lwR sw) + 1) dX2_readRule_89 fX2_51 (shL (isLw_R sw)) rfl (grL_2 (isLw_R sw)) ?_
            refine wp_iload_n (M := mX2_readRule) (pc := 92) dX2_readRule_92 rfl rfl ?_
            refine wp_iload_n (M := mX2_readRule) (pc := 93) dX2_readRule_93 rfl rfl ?_
            refine xs_iast (M := mX2_readRule) (pc := 94) (j := x1.toNatClampNeg) dX2_readRule_94 (shL_1 (isLw_R sw)) (p9 c1 c3 c5 c6 c7) rfl ?_
            refine wp_aload_n (M := mX2_readRule) (pc := 95) dX2_readRule_95 rfl rfl ?_
            refine xs_getr (M := mX2_readRule) (pc := 96) (r := lwR sw) dX2_readRule_96 fX2_12 sh24 rfl (gr24_1 sw) ?_
            refine xs_getr (M := mX2_readRule) (pc := 99) (r := (lwR sw) + 2) dX2_readRule_99 fX2_55 (shL (isLw_R sw)) rfl (grL_3 (isLw_R sw)) ?_
            refine wp_iload_n (M := mX2_readRule) (pc := 102) dX2_readRule_102 rfl rfl ?_
            refine wp_aload_n (M := mX2_readRule) (pc := 103) dX2_readRule_103 rfl rfl ?_
            refine xs_getr (M := mX2_readRule) (pc := 104) (r := lwR sw) dX2_readRule_104 fX2_12 sh24 rfl (gr24_1 sw) ?_
            refine xs_geti (M := mX2_readRule) (pc := 107) dX2_readRule_107 fX2_26 (shL (isLw_R sw)) rfl ?_
            refine xs_iast (M := mX2_readRule) (pc := 110) (j := x1.toNatClampNeg) dX2_readRule_110 (shL_2 (isLw_R sw)) (p10 c1 c3 c5 c6 c7) rfl ?_
            refine wp_iload_n (M := mX2_readRule) (pc := 111) dX2_readRule_111 rfl rfl ?_
            refine wp_if_eq (M := mX2_readRule) (pc := 112) (t := 125) dX2_readRule_112 (by decide) (fun _ => ?_) (fun c => absurd c (by decide))
            refine wp_aload_n (M := mX2_readRule) (pc := 125) dX2_readRule_125 rfl rfl ?_
            refine xs_getr (M := mX2_readRule) (pc := 126) (r := lwR sw) dX2_readRule_126 fX2_12 sh24 rfl (gr24_1 sw) ?_
            refine xs_getr (M := mX2_readRule) (pc := 129) (r := (lwR sw) + 3) dX2_readRule_129 fX2_61 (shL (isLw_R sw)) rfl (grL_4 (isLw_R sw)) ?_
            refine wp_iload_n (M := mX2_readRule) (pc := 132) dX2_readRule_132 rfl rfl ?_
            refine wp_aload_n (M := mX2_readRule) (pc := 133) dX2_readRule_133 rfl rfl ?_
            refine xs_getr (M := mX2_readRule) (pc := 134) (r := lwR sw) dX2_readRule_134 fX2_12 sh24 rfl (gr24_1 sw) ?_
            refine xs_geti (M := mX2_readRule) (pc := 137) dX2_readRule_137 fX2_26 (shL (isLw_R sw)) rfl ?_
            refine xs_iast (M := mX2_readRule) (pc := 140) (j := x1.toNatClampNeg) dX2_readRule_140 (shL_3 (isLw_R sw)) (p11 c1 c3 c5 c6 c7) rfl ?_
            refine wp_aload_n (M := mX2_readRule) (pc := 141) dX2_readRule_141 rfl rfl ?_
            refine wp_iconst (M := mX2_readRule) (pc := 142) dX2_readRule_142 k_iconst_0 ?_
            refine xs_callV (d := d + 4) (M := mX2_readRule) (pc := 143) (As := [.int 0]) (st := []) (c := 2) (ls' := [.ref 24, .int 0]) dX2_readRule_143 oX2_readBracket nX2_readBracket lX2_64 vX2_readBracket sX2_readBracket rfl sh24 (Nat.le_of_ble_eq_true rfl) rfl (Nat.le_of_ble_eq_true rfl) rfl ?_
            exact p12 c1 c3 c5 c6 c7
          · refine wp_aload_n (M := mX2_readRule) (pc := 63) dX2_readRule_63 rfl rfl ?_
            refine xs_getr (M := mX2_readRule) (pc := 64) (r := 1) dX2_readRule_64 fX2_18 sh24 rfl (gr24_0 sw) ?_
            refine wp_iconst (M := mX2_readRule) (pc := 67) dX2_readRule_67 k_iconst_4 ?_
            refine xs_callV (d := d + 4) (M := mX2_readRule) (pc := 68) (As := [.int 4]) (st := []) (c := 8) (ls' := [.ref 1, .int 4]) dX2_readRule_68 oX8_fails nX8_fails lX2_45 vX8_fails sX8_fails rfl sh1 (Nat.le_of_ble_eq_true rfl) rfl (Nat.le_of_ble_eq_true rfl) rfl ?_
            exact p13 c1 c3 c5 c6 c7
        · refine wp_iload_n (M := mX2_readRule) (pc := 42) dX2_readRule_42 rfl rfl ?_
          refine wp_bipush (M := mX2_readRule) (pc := 43) dX2_readRule_43 k_bipush_120 ?_
          refine wp_icmp_eq (M := mX2_readRule) (pc := 45) (t := 57) dX2_readRule_45 (by decide) (fun c8 => ?_) (fun c8 => ?_)
          · refine wp_iload_n (M := mX2_readRule) (pc := 57) dX2_readRule_57 rfl rfl ?_
            refine wp_bipush (M := mX2_readRule) (pc := 58) dX2_readRule_58 k_bipush_16 ?_
            refine wp_icmp_lt (M := mX2_readRule) (pc := 60) (t := 72) dX2_readRule_60 (by decide) (fun c9 => ?_) (fun c9 => ?_)
            · refine wp_aload_n (M := mX2_readRule) (pc := 72) dX2_readRule_72 rfl rfl ?_
              refine xs_getr (M := mX2_readRule) (pc := 73) (r := 1) dX2_readRule_73 fX2_18 sh24 rfl (gr24_0 sw) ?_
              refine wp_dup (M := mX2_readRule) (pc := 76) dX2_readRule_76 ?_
              refine xs_geti (M := mX2_readRule) (pc := 77) dX2_readRule_77 fX2_48 sh1 rfl ?_
              refine wp_iconst (M := mX2_readRule) (pc := 80) dX2_readRule_80 k_iconst_1 ?_
              refine wp_iadd (M := mX2_readRule) (pc := 81) dX2_readRule_81 ?_
              refine xs_puti (M := mX2_readRule) (pc := 82) dX2_readRule_82 pX2_48 sh1 rfl ?_
              refine wp_aload_n (M := mX2_readRule) (pc := 85) dX2_readRule_85 rfl rfl ?_
              refine xs_getr (M := mX2_readRule) (pc := 86) (r := lwR sw) dX2_readRule_86 fX2_12 sh24 rfl (gr24_1 sw) ?_
              refine xs_getr (M := mX2_readRule) (pc := 89) (r := (lwR sw) + 1) dX2_readRule_89 fX2_51 (shL (isLw_R sw)) rfl (grL_2 (isLw_R sw)) ?_
              refine wp_iload_n (M := mX2_readRule) (pc := 92) dX2_readRule_92 rfl rfl ?_
              refine wp_iload_n (M := mX2_readRule) (pc := 93) dX2_readRule_93 rfl rfl ?_
              refine xs_iast (M := mX2_readRule) (pc := 94) (j := x1.toNatClampNeg) dX2_readRule_94 (shL_1 (isLw_R sw)) (p14 c1 c3 c5 c6 c8 c9) rfl ?_
              refine wp_aload_n (M := mX2_readRule) (pc := 95) dX2_readRule_95 rfl rfl ?_
              refine xs_getr (M := mX2_readRule) (pc := 96) (r := lwR sw) dX2_readRule_96 fX2_12 sh24 rfl (gr24_1 sw) ?_
              refine xs_getr (M := mX2_readRule) (pc := 99) (r := (lwR sw) + 2) dX2_readRule_99 fX2_55 (shL (isLw_R sw)) rfl (grL_3 (isLw_R sw)) ?_
              refine wp_iload_n (M := mX2_readRule) (pc := 102) dX2_readRule_102 rfl rfl ?_
              refine wp_aload_n (M := mX2_readRule) (pc := 103) dX2_readRule_103 rfl rfl ?_
              refine xs_getr (M := mX2_readRule) (pc := 104) (r := lwR sw) dX2_readRule_104 fX2_12 sh24 rfl (gr24_1 sw) ?_
              refine xs_geti (M := mX2_readRule) (pc := 107) dX2_readRule_107 fX2_26 (shL (isLw_R sw)) rfl ?_
              refine xs_iast (M := mX2_readRule) (pc := 110) (j := x1.toNatClampNeg) dX2_readRule_110 (shL_2 (isLw_R sw)) (p15 c1 c3 c5 c6 c8 c9) rfl ?_
              refine wp_iload_n (M := mX2_readRule) (pc := 111) dX2_readRule_111 rfl rfl ?_
              refine wp_if_eq (M := mX2_readRule) (pc := 112) (t := 125) dX2_readRule_112 (by decide) (fun _ => ?_) (fun c => absurd c (by decide))
              refine wp_aload_n (M := mX2_readRule) (pc := 125) dX2_readRule_125 rfl rfl ?_
              refine xs_getr (M := mX2_readRule) (pc := 126) (r := lwR sw) dX2_readRule_126 fX2_12 sh24 rfl (gr24_1 sw) ?_
              refine xs_getr (M := mX2_readRule) (pc := 129) (r := (lwR sw) + 3) dX2_readRule_129 fX2_61 (shL (isLw_R sw)) rfl (grL_4 (isLw_R sw)) ?_
              refine wp_iload_n (M := mX2_readRule) (pc := 132) dX2_readRule_132 rfl rfl ?_
              refine wp_aload_n (M := mX2_readRule) (pc := 133) dX2_readRule_133 rfl rfl ?_
              refine xs_getr (M := mX2_readRule) (pc := 134) (r := lwR sw) dX2_readRule_134 fX2_12 sh24 rfl (gr24_1 sw) ?_
              refine xs_geti (M := mX2_readRule) (pc := 137) dX2_readRule_137 fX2_26 (shL (isLw_R sw)) rfl ?_
              refine xs_iast (M := mX2_readRule) (pc := 140) (j := x1.toNatClampNeg) dX2_readRule_140 (shL_3 (isLw_R sw)) (p16 c1 c3 c5 c6 c8 c9) rfl ?_
              refine wp_aload_n (M := mX2_readRule) (pc := 141) dX2_readRule_141 rfl rfl ?_
              refine wp_iconst (M := mX2_readRule) (pc := 142) dX2_readRule_142 k_iconst_0 ?_
              refine xs_callV (d := d + 4) (M := mX2_readRule) (pc := 143) (As := [.int 0]) (st := []) (c := 2) (ls' := [.ref 24, .int 0]) dX2_readRule_143 oX2_readBracket nX2_readBracket lX2_64 vX2_readBracket sX2_readBracket rfl sh24 (Nat.le_of_ble_eq_true rfl) rfl (Nat.le_of_ble_eq_true rfl) rfl ?_
              exact p17 c1 c3 c5 c6 c8 c9
            · refine wp_aload_n (M := mX2_readRule) (pc := 63) dX2_readRule_63 rfl rfl ?_
              refine xs_getr (M := mX2_readRule) (pc := 64) (r := 1) dX2_readRule_64 fX2_18 sh24 rfl (gr24_0 sw) ?_
              refine wp_iconst (M := mX2_readRule) (pc := 67) dX2_readRule_67 k_iconst_4 ?_
              refine xs_callV (d := d + 4) (M := mX2_readRule) (pc := 68) (As := [.int 4]) (st := []) (c := 8) (ls' := [.ref 1, .int 4]) dX2_readRule_68 oX8_fails nX8_fails lX2_45 vX8_fails sX8_fails rfl sh1 (Nat.le_of_ble_eq_true rfl) rfl (Nat.le_of_ble_eq_true rfl) rfl ?_
              exact p18 c1 c3 c5 c6 c8 c9
          · refine wp_aload_n (M := mX2_readRule) (pc := 48) dX2_readRule_48 rfl rfl ?_
            refine xs_getr (M := mX2_readRule) (pc := 49) (r := 1) dX2_readRule_49 fX2_18 sh24 rfl (gr24_0 sw) ?_
            refine wp_iconst (M := mX2_readRule) (pc := 52) dX2_readRule_52 k_iconst_1 ?_
            refine xs_callV (d := d + 4) (M := mX2_readRule) (pc := 53) (As := [.int 1]) (st := []) (c := 8) (ls' := [.ref 1, .int 1]) dX2_readRule_53 oX8_fails nX8_fails lX2_45 vX8_fails sX8_fails rfl sh1 (Nat.le_of_ble_eq_true rfl) rfl (Nat.le_of_ble_eq_true rfl) rfl ?_
            exact p19 c1 c3 c5 c6 c8
      · refine wp_iconst (M := mX2_readRule) (pc := 26) dX2_readRule_26 k_iconst_1 ?_
        refine wp_goto (M := mX2_readRule) (pc := 27) (t := 31) dX2_readRule_27 (by decide) ?_
        refine wp_istore_n (M := mX2_readRule) (pc := 31) (ls' := [.ref 24, .int x1, .int (tAt f (f 1 3)), .int 1]) dX2_readRule_31 rfl (by decide) rfl ?_
        refine wp_iload_n (M := mX2_readRule) (pc := 32) dX2_readRule_32 rfl rfl ?_
        refine wp_if_ne (M := mX2_readRule) (pc := 33) (t := 57) dX2_readRule_33 (by decide) (fun _ => ?_) (fun c => absurd c (by decide))
        refine wp_iload_n (M := mX2_readRule) (pc := 57) dX2_readRule_57 rfl rfl ?_
        refine wp_bipush (M := mX2_readRule) (pc := 58) dX2_readRule_58 k_bipush_16 ?_
        refine wp_icmp_lt (M := mX2_readRule) (pc := 60) (t := 72) dX2_readRule_60 (by decide) (fun c10 => ?_) (fun c10 => ?_)
        · refine wp_aload_n (M := mX2_readRule) (pc := 72) dX2_readRule_72 rfl rfl ?_
          refine xs_getr (M := mX2_readRule) (pc := 73) (r := 1) dX2_readRule_73 fX2_18 sh24 rfl (gr24_0 sw) ?_
          refine wp_dup (M := mX2_readRule) (pc := 76) dX2_readRule_76 ?_
          refine xs_geti (M := mX2_readRule) (pc := 77) dX2_readRule_77 fX2_48 sh1 rfl ?_
          refine wp_iconst (M := mX2_readRule) (pc := 80) dX2_readRule_80 k_iconst_1 ?_
          refine wp_iadd (M := mX2_readRule) (pc := 81) dX2_readRule_81 ?_
          refine xs_puti (M := mX2_readRule) (pc := 82) dX2_readRule_82 pX2_48 sh1 rfl ?_
          refine wp_aload_n (M := mX2_readRule) (pc := 85) dX2_readRule_85 rfl rfl ?_
          refine xs_getr (M := mX2_readRule) (pc := 86) (r := lwR sw) dX2_readRule_86 fX2_12 sh24 rfl (gr24_1 sw) ?_
          refine xs_getr (M := mX2_readRule) (pc := 89) (r := (lwR sw) + 1) dX2_readRule_89 fX2_51 (shL (isLw_R sw)) rfl (grL_2 (isLw_R sw)) ?_
          refine wp_iload_n (M := mX2_readRule) (pc := 92) dX2_readRule_92 rfl rfl ?_
          refine wp_iload_n (M := mX2_readRule) (pc := 93) dX2_readRule_93 rfl rfl ?_
          refine xs_iast (M := mX2_readRule) (pc := 94) (j := x1.toNatClampNeg) dX2_readRule_94 (shL_1 (isLw_R sw)) (p20 c1 c3 c5 c10) rfl ?_
          refine wp_aload_n (M := mX2_readRule) (pc := 95) dX2_readRule_95 rfl rfl ?_
          refine xs_getr (M := mX2_readRule) (pc := 96) (r := lwR sw) dX2_readRule_96 fX2_12 sh24 rfl (gr24_1 sw) ?_
          refine xs_getr (M := mX2_readRule) (pc := 99) (r := (lwR sw) + 2) dX2_readRule_99 fX2_55 (shL (isLw_R sw)) rfl (grL_3 (isLw_R sw)) ?_
          refine wp_iload_n (M := mX2_readRule) (pc := 102) dX2_readRule_102 rfl rfl ?_
          refine wp_aload_n (M := mX2_readRule) (pc := 103) dX2_readRule_103 rfl rfl ?_
          refine xs_getr (M := mX2_readRule) (pc := 104) (r := lwR sw) dX2_readRule_104 fX2_12 sh24 rfl (gr24_1 sw) ?_
          refine xs_geti (M := mX2_readRule) (pc := 107) dX2_readRule_107 fX2_26 (shL (isLw_R sw)) rfl ?_
          refine xs_iast (M := mX2_readRule) (pc := 110) (j := x1.toNatClampNeg) dX2_readRule_110 (shL_2 (isLw_R sw)) (p21 c1 c3 c5 c10) rfl ?_
          refine wp_iload_n (M := mX2_readRule) (pc := 111) dX2_readRule_111 rfl rfl ?_
          refine wp_if_eq (M := mX2_readRule) (pc := 112) (t := 125) dX2_readRule_112 (by decide) (fun c => absurd c (by decide)) (fun _ => ?_)
          refine wp_aload_n (M := mX2_readRule) (pc := 115) dX2_readRule_115 rfl rfl ?_
          refine wp_iconst (M := mX2_readRule) (pc := 116) dX2_readRule_116 k_iconst_0 ?_
          refine xs_callV (d := d + 4) (M := mX2_readRule) (pc := 117) (As := [.int 0]) (st := []) (c := 2) (ls' := [.ref 24, .int 0, .null, .null]) dX2_readRule_117 oX2_readSum nX2_readSum lX2_58 vX2_readSum sX2_readSum rfl sh24 (Nat.le_of_ble_eq_true rfl) rfl (Nat.le_of_ble_eq_true rfl) rfl ?_
          exact p22 c1 c3 c5 c10
        · refine wp_aload_n (M := mX2_readRule) (pc := 63) dX2_readRule_63 rfl rfl ?_
          refine xs_getr (M := mX2_readRule) (pc := 64) (r := 1) dX2_readRule_64 fX2_18 sh24 rfl (gr24_0 sw) ?_
          refine wp_iconst (M := mX2_readRule) (pc := 67) dX2_readRule_67 k_iconst_4 ?_
          refine xs_callV (d := d + 4) (M := mX2_readRule) (pc := 68) (As := [.int 4]) (st := []) (c := 8) (ls' := [.ref 1, .int 4]) dX2_readRule_68 oX8_fails nX8_fails lX2_45 vX8_fails sX8_fails rfl sh1 (Nat.le_of_ble_eq_true rfl) rfl (Nat.le_of_ble_eq_true rfl) rfl ?_
          exact p23 c1 c3 c5 c10
theorem bX2_readRule_56 {G : GC} {d : Nat} {sw : Bool} {f : FF} {Q : QQ} {x1 : Int32} {x2 : Int32} {x3 : Int32} {s0 : Int32} (p1 : s0 = 0 ∨ s0 = 1) (p2 : Q (some (.int s0)) sw f) : XP G mX2_readRule (d + 5) 56 [.ref 24, .int x1, .int x2, .int x3] [.int s0] sw f Q := by
  exact xs_zret (M := mX2_readRule) (pc := 56) dX2_readRule_56 rfl (p1) (p2)
theorem bX2_readRule_71 {G : GC} {d : Nat} {sw : Bool} {f : FF} {Q : QQ} {x1 : Int32} {x2 : Int32} {x3 : Int32} {s0 : Int32} (p1 : s0 = 0 ∨ s0 = 1) (p2 : Q (some (.int s0)) sw f) : XP G mX2_readRule (d + 5) 71 [.ref 24, .int x1, .int x2, .int x3] [.int s0] sw f Q := by
  exact xs_zret (M := mX2_readRule) (pc := 71) dX2_readRule_71 rfl (p1) (p2)
theorem bX2_readRule_120 {G : GC} {d : Nat} {sw : Bool} {f : FF} {Q : QQ} {x1 : Int32} {x2 : Int32} {x3 : Int32} {s0 : Int32} (p1 : (¬ s0 = 0) → vp_in x1 16) (p2 : (¬ s0 = 0) → XP G mX2_readBracket (d + 4) 0 [.ref 24, .int 0] [] sw (upd2 f ((lwR sw) + 3) x1.toNatClampNeg (f (lwR sw) 1)) (fun v sw' f' => XP G mX2_readRule (d + 5) 146 [.ref 24, .int x1, .int x2, .int x3] (retst v []) sw' f' Q)) (p3 : (s0 = 0) → Q (some (.int 0)) sw f) : XP G mX2_readRule (d + 5) 120 [.ref 24, .int x1, .int x2, .int x3] [.int s0] sw f Q := by
  refine wp_if_ne (M := mX2_readRule) (pc := 120) (t := 125) dX2_readRule_120 (by decide) (fun c1 => ?_) (fun c1 => ?_)
  · refine wp_aload_n (M := mX2_readRule) (pc := 125) dX2_readRule_125 rfl rfl ?_
    refine xs_getr (M := mX2_readRule) (pc := 126) (r := lwR sw) dX2_readRule_126 fX2_12 sh24 rfl (gr24_1 sw) ?_
    refine xs_getr (M := mX2_readRule) (pc := 129) (r := (lwR sw) + 3) dX2_readRule_129 fX2_61 (shL (isLw_R sw)) rfl (grL_4 (isLw_R sw)) ?_
    refine wp_iload_n (M := mX2_readRule) (pc := 132) dX2_readRule_132 rfl rfl ?_
    refine wp_aload_n (M := mX2_readRule) (pc := 133) dX2_readRule_133 rfl rfl ?_
    refine xs_getr (M := mX2_readRule) (pc := 134) (r := lwR sw) dX2_readRule_134 fX2_12 sh24 rfl (gr24_1 sw) ?_
    refine xs_geti (M := mX2_readRule) (pc := 137) dX2_readRule_137 fX2_26 (shL (isLw_R sw)) rfl ?_
    refine xs_iast (M := mX2_readRule) (pc := 140) (j := x1.toNatClampNeg) dX2_readRule_140 (shL_3 (isLw_R sw)) (p1 c1) rfl ?_
    refine wp_aload_n (M := mX2_readRule) (pc := 141) dX2_readRule_141 rfl rfl ?_
    refine wp_iconst (M := mX2_readRule) (pc := 142) dX2_readRule_142 k_iconst_0 ?_
    refine xs_callV (d := d + 4) (M := mX2_readRule) (pc := 143) (As := [.int 0]) (st := []) (c := 2) (ls' := [.ref 24, .int 0]) dX2_readRule_143 oX2_readBracket nX2_readBracket lX2_64 vX2_readBracket sX2_readBracket rfl sh24 (Nat.le_of_ble_eq_true rfl) rfl (Nat.le_of_ble_eq_true rfl) rfl ?_
    exact p2 c1
  · refine wp_iconst (M := mX2_readRule) (pc := 123) dX2_readRule_123 k_iconst_0 ?_
    exact xs_zret (M := mX2_readRule) (pc := 124) dX2_readRule_124 rfl (by decide) (p3 c1)
theorem bX2_readRule_146 {G : GC} {d : Nat} {sw : Bool} {f : FF} {Q : QQ} {x1 : Int32} {x2 : Int32} {x3 : Int32} {s0 : Int32} (p1 : (¬ s0 = 0) → vp_in x1 16) (p2 : (¬ s0 = 0) → Q (some (.int 1)) sw (upd2 f ((lwR sw) + 4) x1.toNatClampNeg (f (lwR sw) 1))) (p3 : (s0 = 0) → Q (some (.int 0)) sw f) : XP G mX2_readRule (d + 5) 146 [.ref 24, .int x1, .int x2, .int x3] [.int s0] sw f Q := by
  refine wp_if_ne (M := mX2_readRule) (pc := 146) (t := 151) dX2_readRule_146 (by decide) (fun c1 => ?_) (fun c1 => ?_)
  · refine wp_aload_n (M := mX2_readRule) (pc := 151) dX2_readRule_151 rfl rfl ?_
    refine xs_getr (M := mX2_readRule) (pc := 152) (r := lwR sw) dX2_readRule_152 fX2_12 sh24 rfl (gr24_1 sw) ?_
    refine xs_getr (M := mX2_readRule) (pc := 155) (r := (lwR sw) + 4) dX2_readRule_155 fX2_67 (shL (isLw_R sw)) rfl (grL_5 (isLw_R sw)) ?_
    refine wp_iload_n (M := mX2_readRule) (pc := 158) dX2_readRule_158 rfl rfl ?_
    refine wp_aload_n (M := mX2_readRule) (pc := 159) dX2_readRule_159 rfl rfl ?_
    refine xs_getr (M := mX2_readRule) (pc := 160) (r := lwR sw) dX2_readRule_160 fX2_12 sh24 rfl (gr24_1 sw) ?_
    refine xs_geti (M := mX2_readRule) (pc := 163) dX2_readRule_163 fX2_26 (shL (isLw_R sw)) rfl ?_
    refine xs_iast (M := mX2_readRule) (pc := 166) (j := x1.toNatClampNeg) dX2_readRule_166 (shL_4 (isLw_R sw)) (p1 c1) rfl ?_
    refine wp_iconst (M := mX2_readRule) (pc := 167) dX2_readRule_167 k_iconst_1 ?_
    exact xs_zret (M := mX2_readRule) (pc := 168) dX2_readRule_168 rfl (by decide) (p2 c1)
  · refine wp_iconst (M := mX2_readRule) (pc := 149) dX2_readRule_149 k_iconst_0 ?_
    exact xs_zret (M := mX2_readRule) (pc := 150) dX2_readRule_150 rfl (by decide) (p3 c1)
theorem bX2_readSum_0 {G : GC} {d : Nat} {sw : Bool} {f : FF} {Q : QQ} {x1 : Int32} (p1 : XP G mX2_readProduct (d + 3) 0 [.ref 24, .int x1, .null, .null] [] sw f (fun v sw' f' => XP G mX2_readSum (d + 4) 5 [.ref 24, .int x1, .null, .null] (retst v []) sw' f' Q)) : XP G mX2_readSum (d + 4) 0 [.ref 24, .int x1, .null, .null] [] sw f Q := by
  refine wp_aload_n (M := mX2_readSum) (pc := 0) dX2_readSum_0 rfl rfl ?_
  refine wp_iload_n (M := mX2_readSum) (pc := 1) dX2_readSum_1 rfl rfl ?_
  refine xs_callV (d := d + 3) (M := mX2_readSum) (pc := 2) (As := [.int x1]) (st := []) (c := 2) (ls' := [.ref 24, .int x1, .null, .null]) dX2_readSum_2 oX2_readProduct nX2_readProduct lX2_90 vX2_readProduct sX2_readProduct rfl sh24 (Nat.le_of_ble_eq_true rfl) rfl (Nat.le_of_ble_eq_true rfl) rfl ?_
  exact p1
theorem bX2_readSum_5 {G : GC} {d : Nat} {sw : Bool} {f : FF} {Q : QQ} {x1 : Int32} {v2 : Value} {v3 : Value} {s0 : Int32} (p1 : (¬ s0 = 0) → XP G mX2_readSum (d + 4) 12 [.ref 24, .int x1, .int 0, v3] [] sw f Q) (p2 : (s0 = 0) → Q (some (.int 0)) sw f) : XP G mX2_readSum (d + 4) 5 [.ref 24, .int x1, v2, v3] [.int s0] sw f Q := by
  refine wp_if_ne (M := mX2_readSum) (pc := 5) (t := 10) dX2_readSum_5 (by decide) (fun c1 => ?_) (fun c1 => ?_)
  · refine wp_iconst (M := mX2_readSum) (pc := 10) dX2_readSum_10 k_iconst_0 ?_
    refine wp_istore_n (M := mX2_readSum) (pc := 11) (ls' := [.ref 24, .int x1, .int 0, v3]) dX2_readSum_11 rfl (by decide) rfl ?_
    exact p1 c1
  · refine wp_iconst (M := mX2_readSum) (pc := 8) dX2_readSum_8 k_iconst_0 ?_
    exact xs_zret (M := mX2_readSum) (pc := 9) dX2_readSum_9 rfl (by decide) (p2 c1)
theorem bX2_readSum_12 {G : GC} {d : Nat} {sw : Bool} {f : FF} {Q : QQ} {x1 : Int32} {x2 : Int32} {v3 : Value} (p1 : (240 ≤ x2) → Q (some (.int 1)) sw f) (p2 : (¬ 240 ≤ x2) → ((tAt f (f 1 3)) = 43) → XP G mX2_readProduct (d + 3) 0 [.ref 24, .int x1, .null, .null] [] sw (upd2 f 1 3 ((f 1 3) + 1)) (fun v sw' f' => XP G mX2_readSum (d + 4) 69 [.ref 24, .int x1, .int x2, .int (tAt f (f 1 3))] (retst v []) sw' f' Q)) (p3 : (¬ 240 ≤ x2) → (¬ (tAt f (f 1 3)) = 43) → (¬ (tAt f (f 1 3)) = 45) → Q (some (.int 1)) sw f) (p4 : (¬ 240 ≤ x2) → (¬ (tAt f (f 1 3)) = 43) → ((tAt f (f 1 3)) = 45) → XP G mX2_readProduct (d + 3) 0 [.ref 24, .int x1, .null, .null] [] sw (upd2 f 1 3 ((f 1 3) + 1)) (fun v sw' f' => XP G mX2_readSum (d + 4) 69 [.ref 24, .int x1, .int x2, .int (tAt f (f 1 3))] (retst v []) sw' f' Q)) : XP G mX2_readSum (d + 4) 12 [.ref 24, .int x1, .int x2, v3] [] sw f Q := by
  refine wp_iload_n (M := mX2_readSum) (pc := 12) dX2_readSum_12 rfl rfl ?_
  refine wp_sipush (M := mX2_readSum) (pc := 13) dX2_readSum_13 k_sipush_240 ?_
  refine wp_icmp_ge (M := mX2_readSum) (pc := 16) (t := 90) dX2_readSum_16 (by decide) (fun c1 => ?_) (fun c1 => ?_)
  · refine wp_iconst (M := mX2_readSum) (pc := 90) dX2_readSum_90 k_iconst_1 ?_
    exact xs_zret (M := mX2_readSum) (pc := 91) dX2_readSum_91 rfl (by decide) (p1 c1)
  · refine wp_aload_n (M := mX2_readSum) (pc := 19) dX2_readSum_19 rfl rfl ?_
    refine xs_getr (M := mX2_readSum) (pc := 20) (r := 1) dX2_readSum_20 fX2_18 sh24 rfl (gr24_0 sw) ?_
    refine xs_callV (d := d + 3) (M := mX2_readSum) (pc := 23) (As := []) (st := []) (c := 8) (ls' := [.ref 1]) dX2_readSum_23 oX8_sign nX8_sign lX2_38 vX8_sign sX8_sign rfl sh1 (Nat.le_of_ble_eq_true rfl) rfl (Nat.le_of_ble_eq_true rfl) rfl ?_
    refine sp_X8_sign   ?_
    refine wp_bipush (M := mX2_readSum) (pc := 26) dX2_readSum_26 k_bipush_43 ?_
    refine wp_icmp_eq (M := mX2_readSum) (pc := 28) (t := 43) dX2_readSum_28 (by decide) (fun c2 => ?_) (fun c2 => ?_)
    · refine wp_aload_n (M := mX2_readSum) (pc := 43) dX2_readSum_43 rfl rfl ?_
      refine xs_getr (M := mX2_readSum) (pc := 44) (r := 1) dX2_readSum_44 fX2_18 sh24 rfl (gr24_0 sw) ?_
      refine xs_callV (d := d + 3) (M := mX2_readSum) (pc := 47) (As := []) (st := []) (c := 8) (ls' := [.ref 1]) dX2_readSum_47 oX8_sign nX8_sign lX2_38 vX8_sign sX8_sign rfl sh1 (Nat.le_of_ble_eq_true rfl) rfl (Nat.le_of_ble_eq_true rfl) rfl ?_
      refine sp_X8_sign   ?_
      refine wp_istore_n (M := mX2_readSum) (pc := 50) (ls' := [.ref 24, .int x1, .int x2, .int (tAt f (f 1 3))]) dX2_readSum_50 rfl (by decide) rfl ?_
      refine wp_aload_n (M := mX2_readSum) (pc := 51) dX2_readSum_51 rfl rfl ?_
      refine xs_getr (M := mX2_readSum) (pc := 52) (r := 1) dX2_readSum_52 fX2_18 sh24 rfl (gr24_0 sw) ?_
      refine wp_dup (M := mX2_readSum) (pc := 55) dX2_readSum_55 ?_
      refine xs_geti (M := mX2_readSum) (pc := 56) dX2_readSum_56 fX2_48 sh1 rfl ?_
      refine wp_iconst (M := mX2_readSum) (pc := 59) dX2_readSum_59 k_iconst_1 ?_
      refine wp_iadd (M := mX2_readSum) (pc := 60) dX2_readSum_60 ?_
      refine xs_puti (M := mX2_readSum) (pc := 61) dX2_readSum_61 pX2_48 sh1 rfl ?_
      refine wp_aload_n (M := mX2_readSum) (pc := 64) dX2_readSum_64 rfl rfl ?_
      refine wp_iload_n (M := mX2_readSum) (pc := 65) dX2_readSum_65 rfl rfl ?_
      refine xs_callV (d := d + 3) (M := mX2_readSum) (pc := 66) (As := [.int x1]) (st := []) (c := 2) (ls' := [.ref 24, .int x1, .null, .null]) dX2_readSum_66 oX2_readProduct nX2_readProduct lX2_90 vX2_readProduct sX2_readProduct rfl sh24 (Nat.le_of_ble_eq_true rfl) rfl (Nat.le_of_ble_eq_true rfl) rfl ?_
      exact p2 c1 c2
    · refine wp_aload_n (M := mX2_readSum) (pc := 31) dX2_readSum_31 rfl rfl ?_
      refine xs_getr (M := mX2_readSum) (pc := 32) (r := 1) dX2_readSum_32 fX2_18 sh24 rfl (gr24_0 sw) ?_
      refine xs_callV (d := d + 3) (M := mX2_readSum) (pc := 35) (As := []) (st := []) (c := 8) (ls' := [.ref 1]) dX2_readSum_35 oX8_sign nX8_sign lX2_38 vX8_sign sX8_sign rfl sh1 (Nat.le_of_ble_eq_true rfl) rfl (Nat.le_of_ble_eq_true rfl) rfl ?_
      refine sp_X8_sign   ?_
      refine wp_bipush (M := mX2_readSum) (pc := 38) dX2_readSum_38 k_bipush_45 ?_
      refine wp_icmp_ne (M := mX2_readSum) (pc := 40) (t := 90) dX2_readSum_40 (by decide) (fun c3 => ?_) (fun c3 => ?_)
      · refine wp_iconst (M := mX2_readSum) (pc := 90) dX2_readSum_90 k_iconst_1 ?_
        exact xs_zret (M := mX2_readSum) (pc := 91) dX2_readSum_91 rfl (by decide) (p3 c1 c2 c3)
      · refine wp_aload_n (M := mX2_readSum) (pc := 43) dX2_readSum_43 rfl rfl ?_
        refine xs_getr (M := mX2_readSum) (pc := 44) (r := 1) dX2_readSum_44 fX2_18 sh24 rfl (gr24_0 sw) ?_
        refine xs_callV (d := d + 3) (M := mX2_readSum) (pc := 47) (As := []) (st := []) (c := 8) (ls' := [.ref 1]) dX2_readSum_47 oX8_sign nX8_sign lX2_38 vX8_sign sX8_sign rfl sh1 (Nat.le_of_ble_eq_true rfl) rfl (Nat.le_of_ble_eq_true rfl) rfl ?_
        refine sp_X8_sign   ?_
        refine wp_istore_n (M := mX2_readSum) (pc := 50) (ls' := [.ref 24, .int x1, .int x2, .int (tAt f (f 1 3))]) dX2_readSum_50 rfl (by decide) rfl ?_
        refine wp_aload_n (M := mX2_readSum) (pc := 51) dX2_readSum_51 rfl rfl ?_
        refine xs_getr (M := mX2_readSum) (pc := 52) (r := 1) dX2_readSum_52 fX2_18 sh24 rfl (gr24_0 sw) ?_
        refine wp_dup (M := mX2_readSum) (pc := 55) dX2_readSum_55 ?_
        refine xs_geti (M := mX2_readSum) (pc := 56) dX2_readSum_56 fX2_48 sh1 rfl ?_
        refine wp_iconst (M := mX2_readSum) (pc := 59) dX2_readSum_59 k_iconst_1 ?_
        refine wp_iadd (M := mX2_readSum) (pc := 60) dX2_readSum_60 ?_
        refine xs_puti (M := mX2_readSum) (pc := 61) dX2_readSum_61 pX2_48 sh1 rfl ?_
        refine wp_aload_n (M := mX2_readSum) (pc := 64) dX2_readSum_64 rfl rfl ?_
        refine wp_iload_n (M := mX2_readSum) (pc := 65) dX2_readSum_65 rfl rfl ?_
        refine xs_callV (d := d + 3) (M := mX2_readSum) (pc := 66) (As := [.int x1]) (st := []) (c := 2) (ls' := [.ref 24, .int x1, .null, .null]) dX2_readSum_66 oX2_readProduct nX2_readProduct lX2_90 vX2_readProduct sX2_readProduct rfl sh24 (Nat.le_of_ble_eq_true rfl) rfl (Nat.le_of_ble_eq_true rfl) rfl ?_
        exact p4 c1 c2 c3
theorem bX2_readSum_69 {G : GC} {d : Nat} {sw : Bool} {f : FF} {Q : QQ} {x1 : Int32} {x2 : Int32} {x3 : Int32} {s0 : Int32} (p1 : (¬ s0 = 0) → XP G mX1_put (d + 3) 0 [.ref (lwR sw), .int x3, .int 0] [] sw f (fun v sw' f' => XP G mX2_readSum (d + 4) 83 [.ref 24, .int x1, .int x2, .int x3] (retst v []) sw' f' Q)) (p2 : (s0 = 0) → Q (some (.int 0)) sw f) : XP G mX2_readSum (d + 4) 69 [.ref 24, .int x1, .int x2, .int x3] [.int s0] sw f Q := by
  refine wp_if_ne (M := mX2_readSum) (pc := 69) (t := 74) dX2_readSum_69 (by decide) (fun c1 => ?_) (fun c1 => ?_)
  · refine wp_aload_n (M := mX2_readSum) (pc := 74) dX2_readSum_74 rfl rfl ?_
    refine xs_getr (M := mX2_readSum) (pc := 75) (r := lwR sw) dX2_readSum_75 fX2_12 sh24 rfl (gr24_1 sw) ?_
    refine wp_iload_n (M := mX2_readSum) (pc := 78) dX2_readSum_78 rfl rfl ?_
    refine wp_iconst (M := mX2_readSum) (pc := 79) dX2_readSum_79 k_iconst_0 ?_
    refine xs_callV (d := d + 3) (M := mX2_readSum) (pc := 80) (As := [.int x3, .int 0]) (st := []) (c := 1) (ls' := [.ref (lwR sw), .int x3, .int 0]) dX2_readSum_80 oX1_put nX1_put lX2_80 vX1_put sX1_put rfl (shL (isLw_R sw)) (Nat.le_of_ble_eq_true rfl) rfl (Nat.le_of_ble_eq_true rfl) rfl ?_
    exact p1 c1
  · refine wp_iconst (M := mX2_readSum) (pc := 72) dX2_readSum_72 k_iconst_0 ?_
    exact xs_zret (M := mX2_readSum) (pc := 73) dX2_readSum_73 rfl (by decide) (p2 c1)
theorem bX2_readSum_83 {G : GC} {d : Nat} {sw : Bool} {f : FF} {Q : QQ} {x1 : Int32} {x2 : Int32} {x3 : Int32} {s0 : Int32} (p1 : XP G mX2_readSum (d + 4) 12 [.ref 24, .int x1, .int (x2 + 1), .int x3] [] sw f Q) : XP G mX2_readSum (d + 4) 83 [.ref 24, .int x1, .int x2, .int x3] [.int s0] sw f Q := by
  refine wp_pop (M := mX2_readSum) (pc := 83) dX2_readSum_83 ?_
  refine wp_iinc (M := mX2_readSum) (pc := 84) (v := x2 + 1) (ls' := [.ref 24, .int x1, .int (x2 + 1), .int x3]) dX2_readSum_84 rfl (congrArg (fun z => _ + z) k_iconst_1) (by decide) rfl ?_
  refine wp_goto (M := mX2_readSum) (pc := 87) (t := 12) dX2_readSum_87 (by decide) ?_
  exact p1
theorem bX2_readProduct_0 {G : GC} {d : Nat} {sw : Bool} {f : FF} {Q : QQ} {x1 : Int32} (p1 : XP G mX2_readFactor (d + 3) 0 [.ref 24, .int x1, .null, .null] [] sw f (fun v sw' f' => XP G mX2_readProduct (d + 4) 5 [.ref 24, .int x1, .null, .null] (retst v []) sw' f' Q)) : XP G mX2_readProduct (d + 4) 0 [.ref 24, .int x1, .null, .null] [] sw f Q := by
  refine wp_aload_n (M := mX2_readProduct) (pc := 0) dX2_readProduct_0 rfl rfl ?_
  refine wp_iload_n (M := mX2_readProduct) (pc := 1) dX2_readProduct_1 rfl rfl ?_
  refine xs_callV (d := d + 3) (M := mX2_readProduct) (pc := 2) (As := [.int x1]) (st := []) (c := 2) (ls' := [.ref 24, .int x1, .null, .null]) dX2_readProduct_2 oX2_readFactor nX2_readFactor lX2_93 vX2_readFactor sX2_readFactor rfl sh24 (Nat.le_of_ble_eq_true rfl) rfl (Nat.le_of_ble_eq_true rfl) rfl ?_
  exact p1
theorem bX2_readProduct_5 {G : GC} {d : Nat} {sw : Bool} {f : FF} {Q : QQ} {x1 : Int32} {v2 : Value} {v3 : Value} {s0 : Int32} (p1 : (¬ s0 = 0) → XP G mX2_readProduct (d + 4) 12 [.ref 24, .int x1, .int 0, v3] [] sw f Q) (p2 : (s0 = 0) → Q (some (.int 0)) sw f) : XP G mX2_readProduct (d + 4) 5 [.ref 24, .int x1, v2, v3] [.int s0] sw f Q := by
  refine wp_if_ne (M := mX2_readProduct) (pc := 5) (t := 10) dX2_readProduct_5 (by decide) (fun c1 => ?_) (fun c1 => ?_)
  · refine wp_iconst (M := mX2_readProduct) (pc := 10) dX2_readProduct_10 k_iconst_0 ?_
    refine wp_istore_n (M := mX2_readProduct) (pc := 11) (ls' := [.ref 24, .int x1, .int 0, v3]) dX2_readProduct_11 rfl (by decide) rfl ?_
    exact p1 c1
  · refine wp_iconst (M := mX2_readProduct) (pc := 8) dX2_readProduct_8 k_iconst_0 ?_
    exact xs_zret (M := mX2_readProduct) (pc := 9) dX2_readProduct_9 rfl (by decide) (p2 c1)
theorem bX2_readProduct_12 {G : GC} {d : Nat} {sw : Bool} {f : FF} {Q : QQ} {x1 : Int32} {x2 : Int32} {v3 : Value} (p1 : (240 ≤ x2) → Q (some (.int 1)) sw f) (p2 : (¬ 240 ≤ x2) → (¬ ((tAt f (f 1 3)) = 42 ∨ (tAt f (f 1 3)) = 47 ∨ (tAt f (f 1 3)) = 37)) → Q (some (.int 1)) sw f) (p3 : (¬ 240 ≤ x2) → ((tAt f (f 1 3)) = 42 ∨ (tAt f (f 1 3)) = 47 ∨ (tAt f (f 1 3)) = 37) → XP G mX2_readFactor (d + 3) 0 [.ref 24, .int x1, .null, .null] [] sw (upd2 f 1 3 ((f 1 3) + 1)) (fun v sw' f' => XP G mX2_readProduct (d + 4) 58 [.ref 24, .int x1, .int x2, .int (tAt f (f 1 3))] (retst v []) sw' f' Q)) : XP G mX2_readProduct (d + 4) 12 [.ref 24, .int x1, .int x2, v3] [] sw f Q := by
  refine wp_iload_n (M := mX2_readProduct) (pc := 12) dX2_readProduct_12 rfl rfl ?_
  refine wp_sipush (M := mX2_readProduct) (pc := 13) dX2_readProduct_13 k_sipush_240 ?_
  refine wp_icmp_ge (M := mX2_readProduct) (pc := 16) (t := 79) dX2_readProduct_16 (by decide) (fun c1 => ?_) (fun c1 => ?_)
  · refine wp_iconst (M := mX2_readProduct) (pc := 79) dX2_readProduct_79 k_iconst_1 ?_
    exact xs_zret (M := mX2_readProduct) (pc := 80) dX2_readProduct_80 rfl (by decide) (p1 c1)
  · refine wp_aload_n (M := mX2_readProduct) (pc := 19) dX2_readProduct_19 rfl rfl ?_
    refine xs_getr (M := mX2_readProduct) (pc := 20) (r := 1) dX2_readProduct_20 fX2_18 sh24 rfl (gr24_0 sw) ?_
    refine xs_callV (d := d + 3) (M := mX2_readProduct) (pc := 23) (As := []) (st := []) (c := 8) (ls' := [.ref 1]) dX2_readProduct_23 oX8_sign nX8_sign lX2_38 vX8_sign sX8_sign rfl sh1 (Nat.le_of_ble_eq_true rfl) rfl (Nat.le_of_ble_eq_true rfl) rfl ?_
    refine sp_X8_sign   ?_
    refine xs_callS (d := d + 3) (M := mX2_readProduct) (pc := 26) (As := [.int (tAt f (f 1 3))]) (st := []) (ls' := [.int (tAt f (f 1 3))]) dX2_readProduct_26 oX2_isTimes nX2_isTimes lX2_96 tX2_isTimes (Nat.le_of_ble_eq_true rfl) rfl (Nat.le_of_ble_eq_true rfl) rfl ?_
    refine sp_X2_isTimes   ?_
    refine xs_ifb_eq (M := mX2_readProduct) (pc := 29) (t := 79) dX2_readProduct_29 (by decide) (fun c2 => ?_) (fun c2 => ?_)
    · refine wp_iconst (M := mX2_readProduct) (pc := 79) dX2_readProduct_79 k_iconst_1 ?_
      exact xs_zret (M := mX2_readProduct) (pc := 80) dX2_readProduct_80 rfl (by decide) (p2 c1 c2)
    · refine wp_aload_n (M := mX2_readProduct) (pc := 32) dX2_readProduct_32 rfl rfl ?_
      refine xs_getr (M := mX2_readProduct) (pc := 33) (r := 1) dX2_readProduct_33 fX2_18 sh24 rfl (gr24_0 sw) ?_
      refine xs_callV (d := d + 3) (M := mX2_readProduct) (pc := 36) (As := []) (st := []) (c := 8) (ls' := [.ref 1]) dX2_readProduct_36 oX8_sign nX8_sign lX2_38 vX8_sign sX8_sign rfl sh1 (Nat.le_of_ble_eq_true rfl) rfl (Nat.le_of_ble_eq_true rfl) rfl ?_
      refine sp_X8_sign   ?_
      refine wp_istore_n (M := mX2_readProduct) (pc := 39) (ls' := [.ref 24, .int x1, .int x2, .int (tAt f (f 1 3))]) dX2_readProduct_39 rfl (by decide) rfl ?_
      refine wp_aload_n (M := mX2_readProduct) (pc := 40) dX2_readProduct_40 rfl rfl ?_
      refine xs_getr (M := mX2_readProduct) (pc := 41) (r := 1) dX2_readProduct_41 fX2_18 sh24 rfl (gr24_0 sw) ?_
      refine wp_dup (M := mX2_readProduct) (pc := 44) dX2_readProduct_44 ?_
      refine xs_geti (M := mX2_readProduct) (pc := 45) dX2_readProduct_45 fX2_48 sh1 rfl ?_
      refine wp_iconst (M := mX2_readProduct) (pc := 48) dX2_readProduct_48 k_iconst_1 ?_
      refine wp_iadd (M := mX2_readProduct) (pc := 49) dX2_readProduct_49 ?_
      refine xs_puti (M := mX2_readProduct) (pc := 50) dX2_readProduct_50 pX2_48 sh1 rfl ?_
      refine wp_aload_n (M := mX2_readProduct) (pc := 53) dX2_readProduct_53 rfl rfl ?_
      refine wp_iload_n (M := mX2_readProduct) (pc := 54) dX2_readProduct_54 rfl rfl ?_
      refine xs_callV (d := d + 3) (M := mX2_readProduct) (pc := 55) (As := [.int x1]) (st := []) (c := 2) (ls' := [.ref 24, .int x1, .null, .null]) dX2_readProduct_55 oX2_readFactor nX2_readFactor lX2_93 vX2_readFactor sX2_readFactor rfl sh24 (Nat.le_of_ble_eq_true rfl) rfl (Nat.le_of_ble_eq_true rfl) rfl ?_
      exact p3 c1 c2
theorem bX2_readProduct_58 {G : GC} {d : Nat} {sw : Bool} {f : FF} {Q : QQ} {x1 : Int32} {x2 : Int32} {x3 : Int32} {s0 : Int32} (p1 : (¬ s0 = 0) → XP G mX1_put (d + 3) 0 [.ref (lwR sw), .int x3, .int 0] [] sw f (fun v sw' f' => XP G mX2_readProduct (d + 4) 72 [.ref 24, .int x1, .int x2, .int x3] (retst v []) sw' f' Q)) (p2 : (s0 = 0) → Q (some (.int 0)) sw f) : XP G mX2_readProduct (d + 4) 58 [.ref 24, .int x1, .int x2, .int x3] [.int s0] sw f Q := by
  refine wp_if_ne (M := mX2_readProduct) (pc := 58) (t := 63) dX2_readProduct_58 (by decide) (fun c1 => ?_) (fun c1 => ?_)
  · refine wp_aload_n (M := mX2_readProduct) (pc := 63) dX2_readProduct_63 rfl rfl ?_
    refine xs_getr (M := mX2_readProduct) (pc := 64) (r := lwR sw) dX2_readProduct_64 fX2_12 sh24 rfl (gr24_1 sw) ?_
    refine wp_iload_n (M := mX2_readProduct) (pc := 67) dX2_readProduct_67 rfl rfl ?_
    refine wp_iconst (M := mX2_readProduct) (pc := 68) dX2_readProduct_68 k_iconst_0 ?_
    refine xs_callV (d := d + 3) (M := mX2_readProduct) (pc := 69) (As := [.int x3, .int 0]) (st := []) (c := 1) (ls' := [.ref (lwR sw), .int x3, .int 0]) dX2_readProduct_69 oX1_put nX1_put lX2_80 vX1_put sX1_put rfl (shL (isLw_R sw)) (Nat.le_of_ble_eq_true rfl) rfl (Nat.le_of_ble_eq_true rfl) rfl ?_
    exact p1 c1
  · refine wp_iconst (M := mX2_readProduct) (pc := 61) dX2_readProduct_61 k_iconst_0 ?_
    exact xs_zret (M := mX2_readProduct) (pc := 62) dX2_readProduct_62 rfl (by decide) (p2 c1)
theorem bX2_readProduct_72 {G : GC} {d : Nat} {sw : Bool} {f : FF} {Q : QQ} {x1 : Int32} {x2 : Int32} {x3 : Int32} {s0 : Int32} (p1 : XP G mX2_readProduct (d + 4) 12 [.ref 24, .int x1, .int (x2 + 1), .int x3] [] sw f Q) : XP G mX2_readProduct (d + 4) 72 [.ref 24, .int x1, .int x2, .int x3] [.int s0] sw f Q := by
  refine wp_pop (M := mX2_readProduct) (pc := 72) dX2_readProduct_72 ?_
  refine wp_iinc (M := mX2_readProduct) (pc := 73) (v := x2 + 1) (ls' := [.ref 24, .int x1, .int (x2 + 1), .int x3]) dX2_readProduct_73 rfl (congrArg (fun z => _ + z) k_iconst_1) (by decide) rfl ?_
  refine wp_goto (M := mX2_readProduct) (pc := 76) (t := 12) dX2_readProduct_76 (by decide) ?_
  exact p1
theorem bX2_readBracket_0 {G : GC} {d : Nat} {sw : Bool} {f : FF} {Q : QQ} {x1 : Int32} (p1 : ((tAt f (f 1 3)) = 40) → (x1 < 6) → XP G mX2_readCondition (d + 3) 0 [.ref 24, .int (x1 + 1), .null, .null] [] sw (upd2 f 1 3 ((f 1 3) + 1)) (fun v sw' f' => XP G mX2_readBracket (d + 4) 56 [.ref 24, .int x1] (retst v []) sw' f' Q)) (p2 : ((tAt f (f 1 3)) = 40) → (¬ x1 < 6) → XP G mX8_fails (d + 3) 0 [.ref 1, .int 5] [] sw f (fun v sw' f' => XP G mX2_readBracket (d + 4) 35 [.ref 24, .int x1] (retst v []) sw' f' Q)) (p3 : (¬ (tAt f (f 1 3)) = 40) → XP G mX8_fails (d + 3) 0 [.ref 1, .int 1] [] sw f (fun v sw' f' => XP G mX2_readBracket (d + 4) 20 [.ref 24, .int x1] (retst v []) sw' f' Q)) : XP G mX2_readBracket (d + 4) 0 [.ref 24, .int x1] [] sw f Q := by
  refine wp_aload_n (M := mX2_readBracket) (pc := 0) dX2_readBracket_0 rfl rfl ?_
  refine xs_getr (M := mX2_readBracket) (pc := 1) (r := 1) dX2_readBracket_1 fX2_18 sh24 rfl (gr24_0 sw) ?_
  refine xs_callV (d := d + 3) (M := mX2_readBracket) (pc := 4) (As := []) (st := []) (c := 8) (ls' := [.ref 1]) dX2_readBracket_4 oX8_sign nX8_sign lX2_38 vX8_sign sX8_sign rfl sh1 (Nat.le_of_ble_eq_true rfl) rfl (Nat.le_of_ble_eq_true rfl) rfl ?_
  refine sp_X8_sign   ?_
  refine wp_bipush (M := mX2_readBracket) (pc := 7) dX2_readBracket_7 k_bipush_40 ?_
  refine wp_icmp_eq (M := mX2_readBracket) (pc := 9) (t := 21) dX2_readBracket_9 (by decide) (fun c1 => ?_) (fun c1 => ?_)
  · refine wp_iload_n (M := mX2_readBracket) (pc := 21) dX2_readBracket_21 rfl rfl ?_
    refine wp_bipush (M := mX2_readBracket) (pc := 22) dX2_readBracket_22 k_bipush_6 ?_
    refine wp_icmp_lt (M := mX2_readBracket) (pc := 24) (t := 36) dX2_readBracket_24 (by decide) (fun c2 => ?_) (fun c2 => ?_)
    · refine wp_aload_n (M := mX2_readBracket) (pc := 36) dX2_readBracket_36 rfl rfl ?_
      refine xs_getr (M := mX2_readBracket) (pc := 37) (r := 1) dX2_readBracket_37 fX2_18 sh24 rfl (gr24_0 sw) ?_
      refine wp_dup (M := mX2_readBracket) (pc := 40) dX2_readBracket_40 ?_
      refine xs_geti (M := mX2_readBracket) (pc := 41) dX2_readBracket_41 fX2_48 sh1 rfl ?_
      refine wp_iconst (M := mX2_readBracket) (pc := 44) dX2_readBracket_44 k_iconst_1 ?_
      refine wp_iadd (M := mX2_readBracket) (pc := 45) dX2_readBracket_45 ?_
      refine xs_puti (M := mX2_readBracket) (pc := 46) dX2_readBracket_46 pX2_48 sh1 rfl ?_
      refine wp_aload_n (M := mX2_readBracket) (pc := 49) dX2_readBracket_49 rfl rfl ?_
      refine wp_iload_n (M := mX2_readBracket) (pc := 50) dX2_readBracket_50 rfl rfl ?_
      refine wp_iconst (M := mX2_readBracket) (pc := 51) dX2_readBracket_51 k_iconst_1 ?_
      refine wp_iadd (M := mX2_readBracket) (pc := 52) dX2_readBracket_52 ?_
      refine xs_callV (d := d + 3) (M := mX2_readBracket) (pc := 53) (As := [.int (x1 + 1)]) (st := []) (c := 2) (ls' := [.ref 24, .int (x1 + 1), .null, .null]) dX2_readBracket_53 oX2_readCondition nX2_readCondition lX2_70 vX2_readCondition sX2_readCondition rfl sh24 (Nat.le_of_ble_eq_true rfl) rfl (Nat.le_of_ble_eq_true rfl) rfl ?_
      exact p1 c1 c2
    · refine wp_aload_n (M := mX2_readBracket) (pc := 27) dX2_readBracket_27 rfl rfl ?_
      refine xs_getr (M := mX2_readBracket) (pc := 28) (r := 1) dX2_readBracket_28 fX2_18 sh24 rfl (gr24_0 sw) ?_
      refine wp_iconst (M := mX2_readBracket) (pc := 31) dX2_readBracket_31 k_iconst_5 ?_
      refine xs_callV (d := d + 3) (M := mX2_readBracket) (pc := 32) (As := [.int 5]) (st := []) (c := 8) (ls' := [.ref 1, .int 5]) dX2_readBracket_32 oX8_fails nX8_fails lX2_45 vX8_fails sX8_fails rfl sh1 (Nat.le_of_ble_eq_true rfl) rfl (Nat.le_of_ble_eq_true rfl) rfl ?_
      exact p2 c1 c2
  · refine wp_aload_n (M := mX2_readBracket) (pc := 12) dX2_readBracket_12 rfl rfl ?_
    refine xs_getr (M := mX2_readBracket) (pc := 13) (r := 1) dX2_readBracket_13 fX2_18 sh24 rfl (gr24_0 sw) ?_
    refine wp_iconst (M := mX2_readBracket) (pc := 16) dX2_readBracket_16 k_iconst_1 ?_
    refine xs_callV (d := d + 3) (M := mX2_readBracket) (pc := 17) (As := [.int 1]) (st := []) (c := 8) (ls' := [.ref 1, .int 1]) dX2_readBracket_17 oX8_fails nX8_fails lX2_45 vX8_fails sX8_fails rfl sh1 (Nat.le_of_ble_eq_true rfl) rfl (Nat.le_of_ble_eq_true rfl) rfl ?_
    exact p3 c1
theorem bX2_readBracket_20 {G : GC} {d : Nat} {sw : Bool} {f : FF} {Q : QQ} {x1 : Int32} {s0 : Int32} (p1 : s0 = 0 ∨ s0 = 1) (p2 : Q (some (.int s0)) sw f) : XP G mX2_readBracket (d + 4) 20 [.ref 24, .int x1] [.int s0] sw f Q := by
  exact xs_zret (M := mX2_readBracket) (pc := 20) dX2_readBracket_20 rfl (p1) (p2)
theorem bX2_readBracket_35 {G : GC} {d : Nat} {sw : Bool} {f : FF} {Q : QQ} {x1 : Int32} {s0 : Int32} (p1 : s0 = 0 ∨ s0 = 1) (p2 : Q (some (.int s0)) sw f) : XP G mX2_readBracket (d + 4) 35 [.ref 24, .int x1] [.int s0] sw f Q := by
  exact xs_zret (M := mX2_readBracket) (pc := 35) dX2_readBracket_35 rfl (p1) (p2)
theorem bX2_readBracket_56 {G : GC} {d : Nat} {sw : Bool} {f : FF} {Q : QQ} {x1 : Int32} {s0 : Int32} (p1 : (s0 = 0) → Q (some (.int 0)) sw f) (p2 : (¬ s0 = 0) → XP G mX8_passes (d + 3) 0 [.ref 1, .int 41] [] sw f (fun v sw' f' => XP G mX2_readBracket (d + 4) 68 [.ref 24, .int x1] (retst v []) sw' f' Q)) : XP G mX2_readBracket (d + 4) 56 [.ref 24, .int x1] [.int s0] sw f Q := by
  refine wp_if_eq (M := mX2_readBracket) (pc := 56) (t := 75) dX2_readBracket_56 (by decide) (fun c1 => ?_) (fun c1 => ?_)
  · refine wp_iconst (M := mX2_readBracket) (pc := 75) dX2_readBracket_75 k_iconst_0 ?_
    exact xs_zret (M := mX2_readBracket) (pc := 76) dX2_readBracket_76 rfl (by decide) (p1 c1)
  · refine wp_aload_n (M := mX2_readBracket) (pc := 59) dX2_readBracket_59 rfl rfl ?_
    refine xs_getr (M := mX2_readBracket) (pc := 60) (r := 1) dX2_readBracket_60 fX2_18 sh24 rfl (gr24_0 sw) ?_
    refine wp_bipush (M := mX2_readBracket) (pc := 63) dX2_readBracket_63 k_bipush_41 ?_
    refine xs_callV (d := d + 3) (M := mX2_readBracket) (pc := 65) (As := [.int 41]) (st := []) (c := 8) (ls' := [.ref 1, .int 41]) dX2_readBracket_65 oX8_passes nX8_passes lX2_42 vX8_passes sX8_passes rfl sh1 (Nat.le_of_ble_eq_true rfl) rfl (Nat.le_of_ble_eq_true rfl) rfl ?_
    exact p2 c1
theorem bX2_readBracket_68 {G : GC} {d : Nat} {sw : Bool} {f : FF} {Q : QQ} {x1 : Int32} {s0 : Int32} (p1 : (s0 = 0) → Q (some (.int 0)) sw f) (p2 : (¬ s0 = 0) → Q (some (.int 1)) sw f) : XP G mX2_readBracket (d + 4) 68 [.ref 24, .int x1] [.int s0] sw f Q := by
  refine wp_if_eq (M := mX2_readBracket) (pc := 68) (t := 75) dX2_readBracket_68 (by decide) (fun c1 => ?_) (fun c1 => ?_)
  · refine wp_iconst (M := mX2_readBracket) (pc := 75) dX2_readBracket_75 k_iconst_0 ?_
    exact xs_zret (M := mX2_readBracket) (pc := 76) dX2_readBracket_76 rfl (by decide) (p1 c1)
  · refine wp_iconst (M := mX2_readBracket) (pc := 71) dX2_readBracket_71 k_iconst_1 ?_
    refine wp_goto (M := mX2_readBracket) (pc := 72) (t := 76) dX2_readBracket_72 (by decide) ?_
    exact xs_zret (M := mX2_readBracket) (pc := 76) dX2_readBracket_76 rfl (by decide) (p2 c1)
theorem bX2_readCondition_0 {G : GC} {d : Nat} {sw : Bool} {f : FF} {Q : QQ} {x1 : Int32} (p1 : XP G mX2_readPart (d + 3) 0 [.ref 24, .int x1, .null, .null] [] sw f (fun v sw' f' => XP G mX2_readCondition (d + 4) 5 [.ref 24, .int x1, .null, .null] (retst v []) sw' f' Q)) : XP G mX2_readCondition (d + 4) 0 [.ref 24, .int x1, .null, .null] [] sw f Q := by
  refine wp_aload_n (M := mX2_readCondition) (pc := 0) dX2_readCondition_0 rfl rfl ?_
  refine wp_iload_n (M := mX2_readCondition) (pc := 1) dX2_readCondition_1 rfl rfl ?_
  refine xs_callV (d := d + 3) (M := mX2_readCondition) (pc := 2) (As := [.int x1]) (st := []) (c := 2) (ls' := [.ref 24, .int x1, .null, .null]) dX2_readCondition_2 oX2_readPart nX2_readPart lX2_73 vX2_readPart sX2_readPart rfl sh24 (Nat.le_of_ble_eq_true rfl) rfl (Nat.le_of_ble_eq_true rfl) rfl ?_
  exact p1
theorem bX2_readCondition_5 {G : GC} {d : Nat} {sw : Bool} {f : FF} {Q : QQ} {x1 : Int32} {v2 : Value} {v3 : Value} {s0 : Int32} (p1 : (¬ s0 = 0) → XP G mX2_readCondition (d + 4) 14 [.ref 24, .int x1, .int (-1), .int 0] [] sw f Q) (p2 : (s0 = 0) → Q (some (.int 0)) sw f) : XP G mX2_readCondition (d + 4) 5 [.ref 24, .int x1, v2, v3] [.int s0] sw f Q := by
  refine wp_if_ne (M := mX2_readCondition) (pc := 5) (t := 10) dX2_readCondition_5 (by decide) (fun c1 => ?_) (fun c1 => ?_)
  · refine wp_iconst (M := mX2_readCondition) (pc := 10) dX2_readCondition_10 k_iconst_m1 ?_
    refine wp_istore_n (M := mX2_readCondition) (pc := 11) (ls' := [.ref 24, .int x1, .int (-1), v3]) dX2_readCondition_11 rfl (by decide) rfl ?_
    refine wp_iconst (M := mX2_readCondition) (pc := 12) dX2_readCondition_12 k_iconst_0 ?_
    refine wp_istore_n (M := mX2_readCondition) (pc := 13) (ls' := [.ref 24, .int x1, .int (-1), .int 0]) dX2_readCondition_13 rfl (by decide) rfl ?_
    exact p1 c1
  · refine wp_iconst (M := mX2_readCondition) (pc := 8) dX2_readCondition_8 k_iconst_0 ?_
    exact xs_zret (M := mX2_readCondition) (pc := 9) dX2_readCondition_9 rfl (by decide) (p2 c1)
theorem bX2_readCondition_14 {G : GC} {d : Nat} {sw : Bool} {f : FF} {Q : QQ} {x1 : Int32} {x2 : Int32} {x3 : Int32} (p1 : (240 ≤ x3) → XP G mX1_land (d + 3) 0 [.ref (lwR sw), .int x2] [] sw f (fun v sw' f' => XP G mX2_readCondition (d + 4) 89 [.ref 24, .int x1, .int x2, .int x3] (retst v []) sw' f' Q)) (p2 : (¬ 240 ≤ x3) → (¬ (tAt f (f 1 3)) = 124) → XP G mX1_land (d + 3) 0 [.ref (lwR sw), .int x2] [] sw f (fun v sw' f' => XP G mX2_readCondition (d + 4) 89 [.ref 24, .int x1, .int x2, .int x3] (retst v []) sw' f' Q)) (p3 : (¬ 240 ≤ x3) → ((tAt f (f 1 3)) = 124) → XP G mX1_land (d + 3) 0 [.ref (lwR sw), .int x2] [] sw (upd2 f 1 3 ((f 1 3) + 1)) (fun v sw' f' => XP G mX2_readCondition (d + 4) 54 [.ref 24, .int x1, .int x2, .int x3] (retst v []) sw' f' Q)) : XP G mX2_readCondition (d + 4) 14 [.ref 24, .int x1, .int x2, .int x3] [] sw f Q := by
  refine wp_iload_n (M := mX2_readCondition) (pc := 14) dX2_readCondition_14 rfl rfl ?_
  refine wp_sipush (M := mX2_readCondition) (pc := 15) dX2_readCondition_15 k_sipush_240 ?_
  refine wp_icmp_ge (M := mX2_readCondition) (pc := 18) (t := 81) dX2_readCondition_18 (by decide) (fun c1 => ?_) (fun c1 => ?_)
  · refine wp_aload_n (M := mX2_readCondition) (pc := 81) dX2_readCondition_81 rfl rfl ?_
    refine xs_getr (M := mX2_readCondition) (pc := 82) (r := lwR sw) dX2_readCondition_82 fX2_12 sh24 rfl (gr24_1 sw) ?_
    refine wp_iload_n (M := mX2_readCondition) (pc := 85) dX2_readCondition_85 rfl rfl ?_
    refine xs_callV (d := d + 3) (M := mX2_readCondition) (pc := 86) (As := [.int x2]) (st := []) (c := 1) (ls' := [.ref (lwR sw), .int x2]) dX2_readCondition_86 oX1_land nX1_land lX2_76 vX1_land sX1_land rfl (shL (isLw_R sw)) (Nat.le_of_ble_eq_true rfl) rfl (Nat.le_of_ble_eq_true rfl) rfl ?_
    exact p1 c1
  · refine wp_aload_n (M := mX2_readCondition) (pc := 21) dX2_readCondition_21 rfl rfl ?_
    refine xs_getr (M := mX2_readCondition) (pc := 22) (r := 1) dX2_readCondition_22 fX2_18 sh24 rfl (gr24_0 sw) ?_
    refine xs_callV (d := d + 3) (M := mX2_readCondition) (pc := 25) (As := []) (st := []) (c := 8) (ls' := [.ref 1]) dX2_readCondition_25 oX8_sign nX8_sign lX2_38 vX8_sign sX8_sign rfl sh1 (Nat.le_of_ble_eq_true rfl) rfl (Nat.le_of_ble_eq_true rfl) rfl ?_
    refine sp_X8_sign   ?_
    refine wp_bipush (M := mX2_readCondition) (pc := 28) dX2_readCondition_28 k_bipush_124 ?_
    refine wp_icmp_ne (M := mX2_readCondition) (pc := 30) (t := 81) dX2_readCondition_30 (by decide) (fun c2 => ?_) (fun c2 => ?_)
    · refine wp_aload_n (M := mX2_readCondition) (pc := 81) dX2_readCondition_81 rfl rfl ?_
      refine xs_getr (M := mX2_readCondition) (pc := 82) (r := lwR sw) dX2_readCondition_82 fX2_12 sh24 rfl (gr24_1 sw) ?_
      refine wp_iload_n (M := mX2_readCondition) (pc := 85) dX2_readCondition_85 rfl rfl ?_
      refine xs_callV (d := d + 3) (M := mX2_readCondition) (pc := 86) (As := [.int x2]) (st := []) (c := 1) (ls' := [.ref (lwR sw), .int x2]) dX2_readCondition_86 oX1_land nX1_land lX2_76 vX1_land sX1_land rfl (shL (isLw_R sw)) (Nat.le_of_ble_eq_true rfl) rfl (Nat.le_of_ble_eq_true rfl) rfl ?_
      exact p2 c1 c2
    · refine wp_aload_n (M := mX2_readCondition) (pc := 33) dX2_readCondition_33 rfl rfl ?_
      refine xs_getr (M := mX2_readCondition) (pc := 34) (r := 1) dX2_readCondition_34 fX2_18 sh24 rfl (gr24_0 sw) ?_
      refine wp_dup (M := mX2_readCondition) (pc := 37) dX2_readCondition_37 ?_
      refine xs_geti (M := mX2_readCondition) (pc := 38) dX2_readCondition_38 fX2_48 sh1 rfl ?_
      refine wp_iconst (M := mX2_readCondition) (pc := 41) dX2_readCondition_41 k_iconst_1 ?_
      refine wp_iadd (M := mX2_readCondition) (pc := 42) dX2_readCondition_42 ?_
      refine xs_puti (M := mX2_readCondition) (pc := 43) dX2_readCondition_43 pX2_48 sh1 rfl ?_
      refine wp_aload_n (M := mX2_readCondition) (pc := 46) dX2_readCondition_46 rfl rfl ?_
      refine xs_getr (M := mX2_readCondition) (pc := 47) (r := lwR sw) dX2_readCondition_47 fX2_12 sh24 rfl (gr24_1 sw) ?_
      refine wp_iload_n (M := mX2_readCondition) (pc := 50) dX2_readCondition_50 rfl rfl ?_
      refine xs_callV (d := d + 3) (M := mX2_readCondition) (pc := 51) (As := [.int x2]) (st := []) (c := 1) (ls' := [.ref (lwR sw), .int x2]) dX2_readCondition_51 oX1_land nX1_land lX2_76 vX1_land sX1_land rfl (shL (isLw_R sw)) (Nat.le_of_ble_eq_true rfl) rfl (Nat.le_of_ble_eq_true rfl) rfl ?_
      exact p3 c1 c2
theorem bX2_readCondition_54 {G : GC} {d : Nat} {sw : Bool} {f : FF} {Q : QQ} {x1 : Int32} {x2 : Int32} {x3 : Int32} (p1 : XP G mX1_put (d + 3) 0 [.ref (lwR sw), .int 124, .int 0] [] sw f (fun v sw' f' => XP G mX2_readCondition (d + 4) 64 [.ref 24, .int x1, .int x2, .int x3] (retst v []) sw' f' Q)) : XP G mX2_readCondition (d + 4) 54 [.ref 24, .int x1, .int x2, .int x3] [] sw f Q := by
  refine wp_aload_n (M := mX2_readCondition) (pc := 54) dX2_readCondition_54 rfl rfl ?_
  refine xs_getr (M := mX2_readCondition) (pc := 55) (r := lwR sw) dX2_readCondition_55 fX2_12 sh24 rfl (gr24_1 sw) ?_
  refine wp_bipush (M := mX2_readCondition) (pc := 58) dX2_readCondition_58 k_bipush_124 ?_
  refine wp_iconst (M := mX2_readCondition) (pc := 60) dX2_readCondition_60 k_iconst_0 ?_
  refine xs_callV (d := d + 3) (M := mX2_readCondition) (pc := 61) (As := [.int 124, .int 0]) (st := []) (c := 1) (ls' := [.ref (lwR sw), .int 124, .int 0]) dX2_readCondition_61 oX1_put nX1_put lX2_80 vX1_put sX1_put rfl (shL (isLw_R sw)) (Nat.le_of_ble_eq_true rfl) rfl (Nat.le_of_ble_eq_true rfl) rfl ?_
  exact p1
theorem bX2_readCondition_64 {G : GC} {d : Nat} {sw : Bool} {f : FF} {Q : QQ} {x1 : Int32} {x2 : Int32} {x3 : Int32} {s0 : Int32} (p1 : XP G mX2_readPart (d + 3) 0 [.ref 24, .int x1, .null, .null] [] sw f (fun v sw' f' => XP G mX2_readCondition (d + 4) 70 [.ref 24, .int x1, .int s0, .int x3] (retst v []) sw' f' Q)) : XP G mX2_readCondition (d + 4) 64 [.ref 24, .int x1, .int x2, .int x3] [.int s0] sw f Q := by
  refine wp_istore_n (M := mX2_readCondition) (pc := 64) (ls' := [.ref 24, .int x1, .int s0, .int x3]) dX2_readCondition_64 rfl (by decide) rfl ?_
  refine wp_aload_n (M := mX2_readCondition) (pc := 65) dX2_readCondition_65 rfl rfl ?_
  refine wp_iload_n (M := mX2_readCondition) (pc := 66) dX2_readCondition_66 rfl rfl ?_
  refine xs_callV (d := d + 3) (M := mX2_readCondition) (pc := 67) (As := [.int x1]) (st := []) (c := 2) (ls' := [.ref 24, .int x1, .null, .null]) dX2_readCondition_67 oX2_readPart nX2_readPart lX2_73 vX2_readPart sX2_readPart rfl sh24 (Nat.le_of_ble_eq_true rfl) rfl (Nat.le_of_ble_eq_true rfl) rfl ?_
  exact p1
theorem bX2_readCondition_70 {G : GC} {d : Nat} {sw : Bool} {f : FF} {Q : QQ} {x1 : Int32} {x2 : Int32} {x3 : Int32} {s0 : Int32} (p1 : (¬ s0 = 0) → XP G mX2_readCondition (d + 4) 14 [.ref 24, .int x1, .int x2, .int (x3 + 1)] [] sw f Q) (p2 : (s0 = 0) → Q (some (.int 0)) sw f) : XP G mX2_readCondition (d + 4) 70 [.ref 24, .int x1, .int x2, .int x3] [.int s0] sw f Q := by
  refine wp_if_ne (M := mX2_readCondition) (pc := 70) (t := 75) dX2_readCondition_70 (by decide) (fun c1 => ?_) (fun c1 => ?_)
  · refine wp_iinc (M := mX2_readCondition) (pc := 75) (v := x3 + 1) (ls' := [.ref 24, .int x1, .int x2, .int (x3 + 1)]) dX2_readCondition_75 rfl (congrArg (fun z => _ + z) k_iconst_1) (by decide) rfl ?_
    refine wp_goto (M := mX2_readCondition) (pc := 78) (t := 14) dX2_readCondition_78 (by decide) ?_
    exact p1 c1
  · refine wp_iconst (M := mX2_readCondition) (pc := 73) dX2_readCondition_73 k_iconst_0 ?_
    exact xs_zret (M := mX2_readCondition) (pc := 74) dX2_readCondition_74 rfl (by decide) (p2 c1)
theorem bX2_readCondition_89 {G : GC} {d : Nat} {sw : Bool} {f : FF} {Q : QQ} {x1 : Int32} {x2 : Int32} {x3 : Int32} (p1 : Q (some (.int 1)) sw f) : XP G mX2_readCondition (d + 4) 89 [.ref 24, .int x1, .int x2, .int x3] [] sw f Q := by
  refine wp_iconst (M := mX2_readCondition) (pc := 89) dX2_readCondition_89 k_iconst_1 ?_
  exact xs_zret (M := mX2_readCondition) (pc := 90) dX2_readCondition_90 rfl (by decide) (p1)
theorem bX2_readPart_0 {G : GC} {d : Nat} {sw : Bool} {f : FF} {Q : QQ} {x1 : Int32} (p1 : XP G mX2_readTest (d + 3) 0 [.ref 24, .int x1] [] sw f (fun v sw' f' => XP G mX2_readPart (d + 4) 5 [.ref 24, .int x1, .null, .null] (retst v []) sw' f' Q)) : XP G mX2_readPart (d + 4) 0 [.ref 24, .int x1, .null, .null] [] sw f Q := by
  refine wp_aload_n (M := mX2_readPart) (pc := 0) dX2_readPart_0 rfl rfl ?_
  refine wp_iload_n (M := mX2_readPart) (pc := 1) dX2_readPart_1 rfl rfl ?_
  refine xs_callV (d := d + 3) (M := mX2_readPart) (pc := 2) (As := [.int x1]) (st := []) (c := 2) (ls' := [.ref 24, .int x1]) dX2_readPart_2 oX2_readTest nX2_readTest lX2_84 vX2_readTest sX2_readTest rfl sh24 (Nat.le_of_ble_eq_true rfl) rfl (Nat.le_of_ble_eq_true rfl) rfl ?_
  exact p1
theorem bX2_readPart_5 {G : GC} {d : Nat} {sw : Bool} {f : FF} {Q : QQ} {x1 : Int32} {v2 : Value} {v3 : Value} {s0 : Int32} (p1 : (¬ s0 = 0) → XP G mX2_readPart (d + 4) 14 [.ref 24, .int x1, .int (-1), .int 0] [] sw f Q) (p2 : (s0 = 0) → Q (some (.int 0)) sw f) : XP G mX2_readPart (d + 4) 5 [.ref 24, .int x1, v2, v3] [.int s0] sw f Q := by
  refine wp_if_ne (M := mX2_readPart) (pc := 5) (t := 10) dX2_readPart_5 (by decide) (fun c1 => ?_) (fun c1 => ?_)
  · refine wp_iconst (M := mX2_readPart) (pc := 10) dX2_readPart_10 k_iconst_m1 ?_
    refine wp_istore_n (M := mX2_readPart) (pc := 11) (ls' := [.ref 24, .int x1, .int (-1), v3]) dX2_readPart_11 rfl (by decide) rfl ?_
    refine wp_iconst (M := mX2_readPart) (pc := 12) dX2_readPart_12 k_iconst_0 ?_
    refine wp_istore_n (M := mX2_readPart) (pc := 13) (ls' := [.ref 24, .int x1, .int (-1), .int 0]) dX2_readPart_13 rfl (by decide) rfl ?_
    exact p1 c1
  · refine wp_iconst (M := mX2_readPart) (pc := 8) dX2_readPart_8 k_iconst_0 ?_
    exact xs_zret (M := mX2_readPart) (pc := 9) dX2_readPart_9 rfl (by decide) (p2 c1)
theorem bX2_readPart_14 {G : GC} {d : Nat} {sw : Bool} {f : FF} {Q : QQ} {x1 : Int32} {x2 : Int32} {x3 : Int32} (p1 : (240 ≤ x3) → XP G mX1_land (d + 3) 0 [.ref (lwR sw), .int x2] [] sw f (fun v sw' f' => XP G mX2_readPart (d + 4) 89 [.ref 24, .int x1, .int x2, .int x3] (retst v []) sw' f' Q)) (p2 : (¬ 240 ≤ x3) → (¬ (tAt f (f 1 3)) = 38) → XP G mX1_land (d + 3) 0 [.ref (lwR sw), .int x2] [] sw f (fun v sw' f' => XP G mX2_readPart (d + 4) 89 [.ref 24, .int x1, .int x2, .int x3] (retst v []) sw' f' Q)) (p3 : (¬ 240 ≤ x3) → ((tAt f (f 1 3)) = 38) → XP G mX1_land (d + 3) 0 [.ref (lwR sw), .int x2] [] sw (upd2 f 1 3 ((f 1 3) + 1)) (fun v sw' f' => XP G mX2_readPart (d + 4) 54 [.ref 24, .int x1, .int x2, .int x3] (retst v []) sw' f' Q)) : XP G mX2_readPart (d + 4) 14 [.ref 24, .int x1, .int x2, .int x3] [] sw f Q := by
  refine wp_iload_n (M := mX2_readPart) (pc := 14) dX2_readPart_14 rfl rfl ?_
  refine wp_sipush (M := mX2_readPart) (pc := 15) dX2_readPart_15 k_sipush_240 ?_
  refine wp_icmp_ge (M := mX2_readPart) (pc := 18) (t := 81) dX2_readPart_18 (by decide) (fun c1 => ?_) (fun c1 => ?_)
  · refine wp_aload_n (M := mX2_readPart) (pc := 81) dX2_readPart_81 rfl rfl ?_
    refine xs_getr (M := mX2_readPart) (pc := 82) (r := lwR sw) dX2_readPart_82 fX2_12 sh24 rfl (gr24_1 sw) ?_
    refine wp_iload_n (M := mX2_readPart) (pc := 85) dX2_readPart_85 rfl rfl ?_
    refine xs_callV (d := d + 3) (M := mX2_readPart) (pc := 86) (As := [.int x2]) (st := []) (c := 1) (ls' := [.ref (lwR sw), .int x2]) dX2_readPart_86 oX1_land nX1_land lX2_76 vX1_land sX1_land rfl (shL (isLw_R sw)) (Nat.le_of_ble_eq_true rfl) rfl (Nat.le_of_ble_eq_true rfl) rfl ?_
    exact p1 c1
  · refine wp_aload_n (M := mX2_readPart) (pc := 21) dX2_readPart_21 rfl rfl ?_
    refine xs_getr (M := mX2_readPart) (pc := 22) (r := 1) dX2_readPart_22 fX2_18 sh24 rfl (gr24_0 sw) ?_
    refine xs_callV (d := d + 3) (M := mX2_readPart) (pc := 25) (As := []) (st := []) (c := 8) (ls' := [.ref 1]) dX2_readPart_25 oX8_sign nX8_sign lX2_38 vX8_sign sX8_sign rfl sh1 (Nat.le_of_ble_eq_true rfl) rfl (Nat.le_of_ble_eq_true rfl) rfl ?_
    refine sp_X8_sign   ?_
    refine wp_bipush (M := mX2_readPart) (pc := 28) dX2_readPart_28 k_bipush_38 ?_
    refine wp_icmp_ne (M := mX2_readPart) (pc := 30) (t := 81) dX2_readPart_30 (by decide) (fun c2 => ?_) (fun c2 => ?_)
    · refine wp_aload_n (M := mX2_readPart) (pc := 81) dX2_readPart_81 rfl rfl ?_
      refine xs_getr (M := mX2_readPart) (pc := 82) (r := lwR sw) dX2_readPart_82 fX2_12 sh24 rfl (gr24_1 sw) ?_
      refine wp_iload_n (M := mX2_readPart) (pc := 85) dX2_readPart_85 rfl rfl ?_
      refine xs_callV (d := d + 3) (M := mX2_readPart) (pc := 86) (As := [.int x2]) (st := []) (c := 1) (ls' := [.ref (lwR sw), .int x2]) dX2_readPart_86 oX1_land nX1_land lX2_76 vX1_land sX1_land rfl (shL (isLw_R sw)) (Nat.le_of_ble_eq_true rfl) rfl (Nat.le_of_ble_eq_true rfl) rfl ?_
      exact p2 c1 c2
    · refine wp_aload_n (M := mX2_readPart) (pc := 33) dX2_readPart_33 rfl rfl ?_
      refine xs_getr (M := mX2_readPart) (pc := 34) (r := 1) dX2_readPart_34 fX2_18 sh24 rfl (gr24_0 sw) ?_
      refine wp_dup (M := mX2_readPart) (pc := 37) dX2_readPart_37 ?_
      refine xs_geti (M := mX2_readPart) (pc := 38) dX2_readPart_38 fX2_48 sh1 rfl ?_
      refine wp_iconst (M := mX2_readPart) (pc := 41) dX2_readPart_41 k_iconst_1 ?_
      refine wp_iadd (M := mX2_readPart) (pc := 42) dX2_readPart_42 ?_
      refine xs_puti (M := mX2_readPart) (pc := 43) dX2_readPart_43 pX2_48 sh1 rfl ?_
      refine wp_aload_n (M := mX2_readPart) (pc := 46) dX2_readPart_46 rfl rfl ?_
      refine xs_getr (M := mX2_readPart) (pc := 47) (r := lwR sw) dX2_readPart_47 fX2_12 sh24 rfl (gr24_1 sw) ?_
      refine wp_iload_n (M := mX2_readPart) (pc := 50) dX2_readPart_50 rfl rfl ?_
      refine xs_callV (d := d + 3) (M := mX2_readPart) (pc := 51) (As := [.int x2]) (st := []) (c := 1) (ls' := [.ref (lwR sw), .int x2]) dX2_readPart_51 oX1_land nX1_land lX2_76 vX1_land sX1_land rfl (shL (isLw_R sw)) (Nat.le_of_ble_eq_true rfl) rfl (Nat.le_of_ble_eq_true rfl) rfl ?_
      exact p3 c1 c2
theorem bX2_readPart_54 {G : GC} {d : Nat} {sw : Bool} {f : FF} {Q : QQ} {x1 : Int32} {x2 : Int32} {x3 : Int32} (p1 : XP G mX1_put (d + 3) 0 [.ref (lwR sw), .int 38, .int 0] [] sw f (fun v sw' f' => XP G mX2_readPart (d + 4) 64 [.ref 24, .int x1, .int x2, .int x3] (retst v []) sw' f' Q)) : XP G mX2_readPart (d + 4) 54 [.ref 24, .int x1, .int x2, .int x3] [] sw f Q := by
  refine wp_aload_n (M := mX2_readPart) (pc := 54) dX2_readPart_54 rfl rfl ?_
  refine xs_getr (M := mX2_readPart) (pc := 55) (r := lwR sw) dX2_readPart_55 fX2_12 sh24 rfl (gr24_1 sw) ?_
  refine wp_bipush (M := mX2_readPart) (pc := 58) dX2_readPart_58 k_bipush_38 ?_
  refine wp_iconst (M := mX2_readPart) (pc := 60) dX2_readPart_60 k_iconst_0 ?_
  refine xs_callV (d := d + 3) (M := mX2_readPart) (pc := 61) (As := [.int 38, .int 0]) (st := []) (c := 1) (ls' := [.ref (lwR sw), .int 38, .int 0]) dX2_readPart_61 oX1_put nX1_put lX2_80 vX1_put sX1_put rfl (shL (isLw_R sw)) (Nat.le_of_ble_eq_true rfl) rfl (Nat.le_of_ble_eq_true rfl) rfl ?_
  exact p1
theorem bX2_readPart_64 {G : GC} {d : Nat} {sw : Bool} {f : FF} {Q : QQ} {x1 : Int32} {x2 : Int32} {x3 : Int32} {s0 : Int32} (p1 : XP G mX2_readTest (d + 3) 0 [.ref 24, .int x1] [] sw f (fun v sw' f' => XP G mX2_readPart (d + 4) 70 [.ref 24, .int x1, .int s0, .int x3] (retst v []) sw' f' Q)) : XP G mX2_readPart (d + 4) 64 [.ref 24, .int x1, .int x2, .int x3] [.int s0] sw f Q := by
  refine wp_istore_n (M := mX2_readPart) (pc := 64) (ls' := [.ref 24, .int x1, .int s0, .int x3]) dX2_readPart_64 rfl (by decide) rfl ?_
  refine wp_aload_n (M := mX2_readPart) (pc := 65) dX2_readPart_65 rfl rfl ?_
  refine wp_iload_n (M := mX2_readPart) (pc := 66) dX2_readPart_66 rfl rfl ?_
  refine xs_callV (d := d + 3) (M := mX2_readPart) (pc := 67) (As := [.int x1]) (st := []) (c := 2) (ls' := [.ref 24, .int x1]) dX2_readPart_67 oX2_readTest nX2_readTest lX2_84 vX2_readTest sX2_readTest rfl sh24 (Nat.le_of_ble_eq_true rfl) rfl (Nat.le_of_ble_eq_true rfl) rfl ?_
  exact p1
theorem bX2_readPart_70 {G : GC} {d : Nat} {sw : Bool} {f : FF} {Q : QQ} {x1 : Int32} {x2 : Int32} {x3 : Int32} {s0 : Int32} (p1 : (¬ s0 = 0) → XP G mX2_readPart (d + 4) 14 [.ref 24, .int x1, .int x2, .int (x3 + 1)] [] sw f Q) (p2 : (s0 = 0) → Q (some (.int 0)) sw f) : XP G mX2_readPart (d + 4) 70 [.ref 24, .int x1, .int x2, .int x3] [.int s0] sw f Q := by
  refine wp_if_ne (M := mX2_readPart) (pc := 70) (t := 75) dX2_readPart_70 (by decide) (fun c1 => ?_) (fun c1 => ?_)
  · refine wp_iinc (M := mX2_readPart) (pc := 75) (v := x3 + 1) (ls' := [.ref 24, .int x1, .int x2, .int (x3 + 1)]) dX2_readPart_75 rfl (congrArg (fun z => _ + z) k_iconst_1) (by decide) rfl ?_
    refine wp_goto (M := mX2_readPart) (pc := 78) (t := 14) dX2_readPart_78 (by decide) ?_
    exact p1 c1
  · refine wp_iconst (M := mX2_readPart) (pc := 73) dX2_readPart_73 k_iconst_0 ?_
    exact xs_zret (M := mX2_readPart) (pc := 74) dX2_readPart_74 rfl (by decide) (p2 c1)
theorem bX2_readPart_89 {G : GC} {d : Nat} {sw : Bool} {f : FF} {Q : QQ} {x1 : Int32} {x2 : Int32} {x3 : Int32} (p1 : Q (some (.int 1)) sw f) : XP G mX2_readPart (d + 4) 89 [.ref 24, .int x1, .int x2, .int x3] [] sw f Q := by
  refine wp_iconst (M := mX2_readPart) (pc := 89) dX2_readPart_89 k_iconst_1 ?_
  exact xs_zret (M := mX2_readPart) (pc := 90) dX2_readPart_90 rfl (by decide) (p1)
theorem bX2_readTest_0 {G : GC} {d : Nat} {sw : Bool} {f : FF} {Q : QQ} {x1 : Int32} (p1 : (¬ (tAt f (f 1 3)) = 40) → ((tAt f (f 1 3)) = 33) → (x1 < 6) → XP G mX2_readTest (d + 3) 0 [.ref 24, .int (x1 + 1)] [] sw (upd2 f 1 3 ((f 1 3) + 1)) (fun v sw' f' => XP G mX2_readTest (d + 4) 71 [.ref 24, .int x1] (retst v []) sw' f' Q)) (p2 : (¬ (tAt f (f 1 3)) = 40) → ((tAt f (f 1 3)) = 33) → (¬ x1 < 6) → XP G mX8_fails (d + 3) 0 [.ref 1, .int 5] [] sw f (fun v sw' f' => XP G mX2_readTest (d + 4) 50 [.ref 24, .int x1] (retst v []) sw' f' Q)) (p3 : (¬ (tAt f (f 1 3)) = 40) → (¬ (tAt f (f 1 3)) = 33) → XP G mX2_readComparison (d + 3) 0 [.ref 24, .int x1, .null] [] sw f (fun v sw' f' => XP G mX2_readTest (d + 4) 35 [.ref 24, .int x1] (retst v []) sw' f' Q)) (p4 : ((tAt f (f 1 3)) = 40) → XP G mX2_readBracket (d + 3) 0 [.ref 24, .int x1] [] sw f (fun v sw' f' => XP G mX2_readTest (d + 4) 17 [.ref 24, .int x1] (retst v []) sw' f' Q)) : XP G mX2_readTest (d + 4) 0 [.ref 24, .int x1] [] sw f Q := by
  refine wp_aload_n (M := mX2_readTest) (pc := 0) dX2_readTest_0 rfl rfl ?_
  refine xs_getr (M := mX2_readTest) (pc := 1) (r := 1) dX2_readTest_1 fX2_18 sh24 rfl (gr24_0 sw) ?_
  refine xs_callV (d := d + 3) (M := mX2_readTest) (pc := 4) (As := []) (st := []) (c := 8) (ls' := [.ref 1]) dX2_readTest_4 oX8_sign nX8_sign lX2_38 vX8_sign sX8_sign rfl sh1 (Nat.le_of_ble_eq_true rfl) rfl (Nat.le_of_ble_eq_true rfl) rfl ?_
  refine sp_X8_sign   ?_
  refine wp_bipush (M := mX2_readTest) (pc := 7) dX2_readTest_7 k_bipush_40 ?_
  refine wp_icmp_ne (M := mX2_readTest) (pc := 9) (t := 18) dX2_readTest_9 (by decide) (fun c1 => ?_) (fun c1 => ?_)
  · refine wp_aload_n (M := mX2_readTest) (pc := 18) dX2_readTest_18 rfl rfl ?_
    refine xs_getr (M := mX2_readTest) (pc := 19) (r := 1) dX2_readTest_19 fX2_18 sh24 rfl (gr24_0 sw) ?_
    refine xs_callV (d := d + 3) (M := mX2_readTest) (pc := 22) (As := []) (st := []) (c := 8) (ls' := [.ref 1]) dX2_readTest_22 oX8_sign nX8_sign lX2_38 vX8_sign sX8_sign rfl sh1 (Nat.le_of_ble_eq_true rfl) rfl (Nat.le_of_ble_eq_true rfl) rfl ?_
    refine sp_X8_sign   ?_
    refine wp_bipush (M := mX2_readTest) (pc := 25) dX2_readTest_25 k_bipush_33 ?_
    refine wp_icmp_eq (M := mX2_readTest) (pc := 27) (t := 36) dX2_readTest_27 (by decide) (fun c2 => ?_) (fun c2 => ?_)
    · refine wp_iload_n (M := mX2_readTest) (pc := 36) dX2_readTest_36 rfl rfl ?_
      refine wp_bipush (M := mX2_readTest) (pc := 37) dX2_readTest_37 k_bipush_6 ?_
      refine wp_icmp_lt (M := mX2_readTest) (pc := 39) (t := 51) dX2_readTest_39 (by decide) (fun c3 => ?_) (fun c3 => ?_)
      · refine wp_aload_n (M := mX2_readTest) (pc := 51) dX2_readTest_51 rfl rfl ?_
        refine xs_getr (M := mX2_readTest) (pc := 52) (r := 1) dX2_readTest_52 fX2_18 sh24 rfl (gr24_0 sw) ?_
        refine wp_dup (M := mX2_readTest) (pc := 55) dX2_readTest_55 ?_
        refine xs_geti (M := mX2_readTest) (pc := 56) dX2_readTest_56 fX2_48 sh1 rfl ?_
        refine wp_iconst (M := mX2_readTest) (pc := 59) dX2_readTest_59 k_iconst_1 ?_
        refine wp_iadd (M := mX2_readTest) (pc := 60) dX2_readTest_60 ?_
        refine xs_puti (M := mX2_readTest) (pc := 61) dX2_readTest_61 pX2_48 sh1 rfl ?_
        refine wp_aload_n (M := mX2_readTest) (pc := 64) dX2_readTest_64 rfl rfl ?_
        refine wp_iload_n (M := mX2_readTest) (pc := 65) dX2_readTest_65 rfl rfl ?_
        refine wp_iconst (M := mX2_readTest) (pc := 66) dX2_readTest_66 k_iconst_1 ?_
        refine wp_iadd (M := mX2_readTest) (pc := 67) dX2_readTest_67 ?_
        refine xs_callV (d := d + 3) (M := mX2_readTest) (pc := 68) (As := [.int (x1 + 1)]) (st := []) (c := 2) (ls' := [.ref 24, .int (x1 + 1)]) dX2_readTest_68 oX2_readTest nX2_readTest lX2_84 vX2_readTest sX2_readTest rfl sh24 (Nat.le_of_ble_eq_true rfl) rfl (Nat.le_of_ble_eq_true rfl) rfl ?_
        exact p1 c1 c2 c3
      · refine wp_aload_n (M := mX2_readTest) (pc := 42) dX2_readTest_42 rfl rfl ?_
        refine xs_getr (M := mX2_readTest) (pc := 43) (r := 1) dX2_readTest_43 fX2_18 sh24 rfl (gr24_0 sw) ?_
        refine wp_iconst (M := mX2_readTest) (pc := 46) dX2_readTest_46 k_iconst_5 ?_
        refine xs_callV (d := d + 3) (M := mX2_readTest) (pc := 47) (As := [.int 5]) (st := []) (c := 8) (ls' := [.ref 1, .int 5]) dX2_readTest_47 oX8_fails nX8_fails lX2_45 vX8_fails sX8_fails rfl sh1 (Nat.le_of_ble_eq_true rfl) rfl (Nat.le_of_ble_eq_true rfl) rfl ?_
        exact p2 c1 c2 c3
    · refine wp_aload_n (M := mX2_readTest) (pc := 30) dX2_readTest_30 rfl rfl ?_
      refine wp_iload_n (M := mX2_readTest) (pc := 31) dX2_readTest_31 rfl rfl ?_
      refine xs_callV (d := d + 3) (M := mX2_readTest) (pc := 32) (As := [.int x1]) (st := []) (c := 2) (ls' := [.ref 24, .int x1, .null]) dX2_readTest_32 oX2_readComparison nX2_readComparison lX2_87 vX2_readComparison sX2_readComparison rfl sh24 (Nat.le_of_ble_eq_true rfl) rfl (Nat.le_of_ble_eq_true rfl) rfl ?_
      exact p3 c1 c2
  · refine wp_aload_n (M := mX2_readTest) (pc := 12) dX2_readTest_12 rfl rfl ?_
    refine wp_iload_n (M := mX2_readTest) (pc := 13) dX2_readTest_13 rfl rfl ?_
    refine xs_callV (d := d + 3) (M := mX2_readTest) (pc := 14) (As := [.int x1]) (st := []) (c := 2) (ls' := [.ref 24, .int x1]) dX2_readTest_14 oX2_readBracket nX2_readBracket lX2_64 vX2_readBracket sX2_readBracket rfl sh24 (Nat.le_of_ble_eq_true rfl) rfl (Nat.le_of_ble_eq_true rfl) rfl ?_
    exact p4 c1
theorem bX2_readTest_17 {G : GC} {d : Nat} {sw : Bool} {f : FF} {Q : QQ} {x1 : Int32} {s0 : Int32} (p1 : s0 = 0 ∨ s0 = 1) (p2 : Q (some (.int s0)) sw f) : XP G mX2_readTest (d + 4) 17 [.ref 24, .int x1] [.int s0] sw f Q := by
  exact xs_zret (M := mX2_readTest) (pc := 17) dX2_readTest_17 rfl (p1) (p2)
theorem bX2_readTest_35 {G : GC} {d : Nat} {sw : Bool} {f : FF} {Q : QQ} {x1 : Int32} {s0 : Int32} (p1 : s0 = 0 ∨ s0 = 1) (p2 : Q (some (.int s0)) sw f) : XP G mX2_readTest (d + 4) 35 [.ref 24, .int x1] [.int s0] sw f Q := by
  exact xs_zret (M := mX2_readTest) (pc := 35) dX2_readTest_35 rfl (p1) (p2)
theorem bX2_readTest_50 {G : GC} {d : Nat} {sw : Bool} {f : FF} {Q : QQ} {x1 : Int32} {s0 : Int32} (p1 : s0 = 0 ∨ s0 = 1) (p2 : Q (some (.int s0)) sw f) : XP G mX2_readTest (d + 4) 50 [.ref 24, .int x1] [.int s0] sw f Q := by
  exact xs_zret (M := mX2_readTest) (pc := 50) dX2_readTest_50 rfl (p1) (p2)
theorem bX2_readTest_71 {G : GC} {d : Nat} {sw : Bool} {f : FF} {Q : QQ} {x1 : Int32} {s0 : Int32} (p1 : (¬ s0 = 0) → XP G mX1_put (d + 3) 0 [.ref (lwR sw), .int 33, .int 0] [] sw f (fun v sw' f' => XP G mX2_readTest (d + 4) 86 [.ref 24, .int x1] (retst v []) sw' f' Q)) (p2 : (s0 = 0) → Q (some (.int 0)) sw f) : XP G mX2_readTest (d + 4) 71 [.ref 24, .int x1] [.int s0] sw f Q := by
  refine wp_if_ne (M := mX2_readTest) (pc := 71) (t := 76) dX2_readTest_71 (by decide) (fun c1 => ?_) (fun c1 => ?_)
  · refine wp_aload_n (M := mX2_readTest) (pc := 76) dX2_readTest_76 rfl rfl ?_
    refine xs_getr (M := mX2_readTest) (pc := 77) (r := lwR sw) dX2_readTest_77 fX2_12 sh24 rfl (gr24_1 sw) ?_
    refine wp_bipush (M := mX2_readTest) (pc := 80) dX2_readTest_80 k_bipush_33 ?_
    refine wp_iconst (M := mX2_readTest) (pc := 82) dX2_readTest_82 k_iconst_0 ?_
    refine xs_callV (d := d + 3) (M := mX2_readTest) (pc := 83) (As := [.int 33, .int 0]) (st := []) (c := 1) (ls' := [.ref (lwR sw), .int 33, .int 0]) dX2_readTest_83 oX1_put nX1_put lX2_80 vX1_put sX1_put rfl (shL (isLw_R sw)) (Nat.le_of_ble_eq_true rfl) rfl (Nat.le_of_ble_eq_true rfl) rfl ?_
    exact p1 c1
  · refine wp_iconst (M := mX2_readTest) (pc := 74) dX2_readTest_74 k_iconst_0 ?_
    exact xs_zret (M := mX2_readTest) (pc := 75) dX2_readTest_75 rfl (by decide) (p2 c1)
theorem bX2_readTest_86 {G : GC} {d : Nat} {sw : Bool} {f : FF} {Q : QQ} {x1 : Int32} {s0 : Int32} (p1 : Q (some (.int 1)) sw f) : XP G mX2_readTest (d + 4) 86 [.ref 24, .int x1] [.int s0] sw f Q := by
  refine wp_pop (M := mX2_readTest) (pc := 86) dX2_readTest_86 ?_
  refine wp_iconst (M := mX2_readTest) (pc := 87) dX2_readTest_87 k_iconst_1 ?_
  exact xs_zret (M := mX2_readTest) (pc := 88) dX2_readTest_88 rfl (by decide) (p1)
theorem bX2_readComparison_0 {G : GC} {d : Nat} {sw : Bool} {f : FF} {Q : QQ} {x1 : Int32} (p1 : XP G mX2_readSum (d + 3) 0 [.ref 24, .int x1, .null, .null] [] sw f (fun v sw' f' => XP G mX2_readComparison (d + 4) 5 [.ref 24, .int x1, .null] (retst v []) sw' f' Q)) : XP G mX2_readComparison (d + 4) 0 [.ref 24, .int x1, .null] [] sw f Q := by
  refine wp_aload_n (M := mX2_readComparison) (pc := 0) dX2_readComparison_0 rfl rfl ?_
  refine wp_iload_n (M := mX2_readComparison) (pc := 1) dX2_readComparison_1 rfl rfl ?_
  refine xs_callV (d := d + 3) (M := mX2_readComparison) (pc := 2) (As := [.int x1]) (st := []) (c := 2) (ls' := [.ref 24, .int x1, .null, .null]) dX2_readComparison_2 oX2_readSum nX2_readSum lX2_58 vX2_readSum sX2_readSum rfl sh24 (Nat.le_of_ble_eq_true rfl) rfl (Nat.le_of_ble_eq_true rfl) rfl ?_
  exact p1
theorem bX2_readComparison_5 {G : GC} {d : Nat} {sw : Bool} {f : FF} {Q : QQ} {x1 : Int32} {v2 : Value} {s0 : Int32} (p1 : (¬ s0 = 0) → ((tAt f (f 1 3)) = 60) → XP G mX2_readSum (d + 3) 0 [.ref 24, .int x1, .null, .null] [] sw (upd2 f 1 3 ((f 1 3) + 1)) (fun v sw' f' => XP G mX2_readComparison (d + 4) 63 [.ref 24, .int x1, .int (tAt f (f 1 3))] (retst v []) sw' f' Q)) (p2 : (¬ s0 = 0) → (¬ (tAt f (f 1 3)) = 60) → ((tAt f (f 1 3)) = 62) → XP G mX2_readSum (d + 3) 0 [.ref 24, .int x1, .null, .null] [] sw (upd2 f 1 3 ((f 1 3) + 1)) (fun v sw' f' => XP G mX2_readComparison (d + 4) 63 [.ref 24, .int x1, .int (tAt f (f 1 3))] (retst v []) sw' f' Q)) (p3 : (¬ s0 = 0) → (¬ (tAt f (f 1 3)) = 60) → (¬ (tAt f (f 1 3)) = 62) → ((tAt f (f 1 3)) = 61) → XP G mX2_readSum (d + 3) 0 [.ref 24, .int x1, .null, .null] [] sw (upd2 f 1 3 ((f 1 3) + 1)) (fun v sw' f' => XP G mX2_readComparison (d + 4) 63 [.ref 24, .int x1, .int (tAt f (f 1 3))] (retst v []) sw' f' Q)) (p4 : (¬ s0 = 0) → (¬ (tAt f (f 1 3)) = 60) → (¬ (tAt f (f 1 3)) = 62) → (¬ (tAt f (f 1 3)) = 61) → XP G mX8_fails (d + 3) 0 [.ref 1, .int 1] [] sw f (fun v sw' f' => XP G mX2_readComparison (d + 4) 44 [.ref 24, .int x1, .int (tAt f (f 1 3))] (retst v []) sw' f' Q)) (p5 : (s0 = 0) → Q (some (.int 0)) sw f) : XP G mX2_readComparison (d + 4) 5 [.ref 24, .int x1, v2] [.int s0] sw f Q := by
  refine wp_if_ne (M := mX2_readComparison) (pc := 5) (t := 10) dX2_readComparison_5 (by decide) (fun c1 => ?_) (fun c1 => ?_)
  · refine wp_aload_n (M := mX2_readComparison) (pc := 10) dX2_readComparison_10 rfl rfl ?_
    refine xs_getr (M := mX2_readComparison) (pc := 11) (r := 1) dX2_readComparison_11 fX2_18 sh24 rfl (gr24_0 sw) ?_
    refine xs_callV (d := d + 3) (M := mX2_readComparison) (pc := 14) (As := []) (st := []) (c := 8) (ls' := [.ref 1]) dX2_readComparison_14 oX8_sign nX8_sign lX2_38 vX8_sign sX8_sign rfl sh1 (Nat.le_of_ble_eq_true rfl) rfl (Nat.le_of_ble_eq_true rfl) rfl ?_
    refine sp_X8_sign   ?_
    refine wp_istore_n (M := mX2_readComparison) (pc := 17) (ls' := [.ref 24, .int x1, .int (tAt f (f 1 3))]) dX2_readComparison_17 rfl (by decide) rfl ?_
    refine wp_iload_n (M := mX2_readComparison) (pc := 18) dX2_readComparison_18 rfl rfl ?_
    refine wp_bipush (M := mX2_readComparison) (pc := 19) dX2_readComparison_19 k_bipush_60 ?_
    refine wp_icmp_eq (M := mX2_readComparison) (pc := 21) (t := 45) dX2_readComparison_21 (by decide) (fun c2 => ?_) (fun c2 => ?_)
    · refine wp_aload_n (M := mX2_readComparison) (pc := 45) dX2_readComparison_45 rfl rfl ?_
      refine xs_getr (M := mX2_readComparison) (pc := 46) (r := 1) dX2_readComparison_46 fX2_18 sh24 rfl (gr24_0 sw) ?_
      refine wp_dup (M := mX2_readComparison) (pc := 49) dX2_readComparison_49 ?_
      refine xs_geti (M := mX2_readComparison) (pc := 50) dX2_readComparison_50 fX2_48 sh1 rfl ?_
      refine wp_iconst (M := mX2_readComparison) (pc := 53) dX2_readComparison_53 k_iconst_1 ?_
      refine wp_iadd (M := mX2_readComparison) (pc := 54) dX2_readComparison_54 ?_
      refine xs_puti (M := mX2_readComparison) (pc := 55) dX2_readComparison_55 pX2_48 sh1 rfl ?_
      refine wp_aload_n (M := mX2_readComparison) (pc := 58) dX2_readComparison_58 rfl rfl ?_
      refine wp_iload_n (M := mX2_readComparison) (pc := 59) dX2_readComparison_59 rfl rfl ?_
      refine xs_callV (d := d + 3) (M := mX2_readComparison) (pc := 60) (As := [.int x1]) (st := []) (c := 2) (ls' := [.ref 24, .int x1, .null, .null]) dX2_readComparison_60 oX2_readSum nX2_readSum lX2_58 vX2_readSum sX2_readSum rfl sh24 (Nat.le_of_ble_eq_true rfl) rfl (Nat.le_of_ble_eq_true rfl) rfl ?_
      exact p1 c1 c2
    · refine wp_iload_n (M := mX2_readComparison) (pc := 24) dX2_readComparison_24 rfl rfl ?_
      refine wp_bipush (M := mX2_readComparison) (pc := 25) dX2_readComparison_25 k_bipush_62 ?_
      refine wp_icmp_eq (M := mX2_readComparison) (pc := 27) (t := 45) dX2_readComparison_27 (by decide) (fun c3 => ?_) (fun c3 => ?_)
      · refine wp_aload_n (M := mX2_readComparison) (pc := 45) dX2_readComparison_45 rfl rfl ?_
        refine xs_getr (M := mX2_readComparison) (pc := 46) (r := 1) dX2_readComparison_46 fX2_18 sh24 rfl (gr24_0 sw) ?_
        refine wp_dup (M := mX2_readComparison) (pc := 49) dX2_readComparison_49 ?_
        refine xs_geti (M := mX2_readComparison) (pc := 50) dX2_readComparison_50 fX2_48 sh1 rfl ?_
        refine wp_iconst (M := mX2_readComparison) (pc := 53) dX2_readComparison_53 k_iconst_1 ?_
        refine wp_iadd (M := mX2_readComparison) (pc := 54) dX2_readComparison_54 ?_
        refine xs_puti (M := mX2_readComparison) (pc := 55) dX2_readComparison_55 pX2_48 sh1 rfl ?_
        refine wp_aload_n (M := mX2_readComparison) (pc := 58) dX2_readComparison_58 rfl rfl ?_
        refine wp_iload_n (M := mX2_readComparison) (pc := 59) dX2_readComparison_59 rfl rfl ?_
        refine xs_callV (d := d + 3) (M := mX2_readComparison) (pc := 60) (As := [.int x1]) (st := []) (c := 2) (ls' := [.ref 24, .int x1, .null, .null]) dX2_readComparison_60 oX2_readSum nX2_readSum lX2_58 vX2_readSum sX2_readSum rfl sh24 (Nat.le_of_ble_eq_true rfl) rfl (Nat.le_of_ble_eq_true rfl) rfl ?_
        exact p2 c1 c2 c3
      · refine wp_iload_n (M := mX2_readComparison) (pc := 30) dX2_readComparison_30 rfl rfl ?_
        refine wp_bipush (M := mX2_readComparison) (pc := 31) dX2_readComparison_31 k_bipush_61 ?_
        refine wp_icmp_eq (M := mX2_readComparison) (pc := 33) (t := 45) dX2_readComparison_33 (by decide) (fun c4 => ?_) (fun c4 => ?_)
        · refine wp_aload_n (M := mX2_readComparison) (pc := 45) dX2_readComparison_45 rfl rfl ?_
          refine xs_getr (M := mX2_readComparison) (pc := 46) (r := 1) dX2_readComparison_46 fX2_18 sh24 rfl (gr24_0 sw) ?_
          refine wp_dup (M := mX2_readComparison) (pc := 49) dX2_readComparison_49 ?_
          refine xs_geti (M := mX2_readComparison) (pc := 50) dX2_readComparison_50 fX2_48 sh1 rfl ?_
          refine wp_iconst (M := mX2_readComparison) (pc := 53) dX2_readComparison_53 k_iconst_1 ?_
          refine wp_iadd (M := mX2_readComparison) (pc := 54) dX2_readComparison_54 ?_
          refine xs_puti (M := mX2_readComparison) (pc := 55) dX2_readComparison_55 pX2_48 sh1 rfl ?_
          refine wp_aload_n (M := mX2_readComparison) (pc := 58) dX2_readComparison_58 rfl rfl ?_
          refine wp_iload_n (M := mX2_readComparison) (pc := 59) dX2_readComparison_59 rfl rfl ?_
          refine xs_callV (d := d + 3) (M := mX2_readComparison) (pc := 60) (As := [.int x1]) (st := []) (c := 2) (ls' := [.ref 24, .int x1, .null, .null]) dX2_readComparison_60 oX2_readSum nX2_readSum lX2_58 vX2_readSum sX2_readSum rfl sh24 (Nat.le_of_ble_eq_true rfl) rfl (Nat.le_of_ble_eq_true rfl) rfl ?_
          exact p3 c1 c2 c3 c4
        · refine wp_aload_n (M := mX2_readComparison) (pc := 36) dX2_readComparison_36 rfl rfl ?_
          refine xs_getr (M := mX2_readComparison) (pc := 37) (r := 1) dX2_readComparison_37 fX2_18 sh24 rfl (gr24_0 sw) ?_
          refine wp_iconst (M := mX2_readComparison) (pc := 40) dX2_readComparison_40 k_iconst_1 ?_
          refine xs_callV (d := d + 3) (M := mX2_readComparison) (pc := 41) (As := [.int 1]) (st := []) (c := 8) (ls' := [.ref 1, .int 1]) dX2_readComparison_41 oX8_fails nX8_fails lX2_45 vX8_fails sX8_fails rfl sh1 (Nat.le_of_ble_eq_true rfl) rfl (Nat.le_of_ble_eq_true rfl) rfl ?_
          exact p4 c1 c2 c3 c4
  · refine wp_iconst (M := mX2_readComparison) (pc := 8) dX2_readComparison_8 k_iconst_0 ?_
    exact xs_zret (M := mX2_readComparison) (pc := 9) dX2_readComparison_9 rfl (by decide) (p5 c1)
theorem bX2_readComparison_44 {G : GC} {d : Nat} {sw : Bool} {f : FF} {Q : QQ} {x1 : Int32} {x2 : Int32} {s0 : Int32} (p1 : s0 = 0 ∨ s0 = 1) (p2 : Q (some (.int s0)) sw f) : XP G mX2_readComparison (d + 4) 44 [.ref 24, .int x1, .int x2] [.int s0] sw f Q := by
  exact xs_zret (M := mX2_readComparison) (pc := 44) dX2_readComparison_44 rfl (p1) (p2)
theorem bX2_readComparison_63 {G : GC} {d : Nat} {sw : Bool} {f : FF} {Q : QQ} {x1 : Int32} {x2 : Int32} {s0 : Int32} (p1 : (¬ s0 = 0) → XP G mX1_put (d + 3) 0 [.ref (lwR sw), .int x2, .int 0] [] sw f (fun v sw' f' => XP G mX2_readComparison (d + 4) 77 [.ref 24, .int x1, .int x2] (retst v []) sw' f' Q)) (p2 : (s0 = 0) → Q (some (.int 0)) sw f) : XP G mX2_readComparison (d + 4) 63 [.ref 24, .int x1, .int x2] [.int s0] sw f Q := by
  refine wp_if_ne (M := mX2_readComparison) (pc := 63) (t := 68) dX2_readComparison_63 (by decide) (fun c1 => ?_) (fun c1 => ?_)
  · refine wp_aload_n (M := mX2_readComparison) (pc := 68) dX2_readComparison_68 rfl rfl ?_
    refine xs_getr (M := mX2_readComparison) (pc := 69) (r := lwR sw) dX2_readComparison_69 fX2_12 sh24 rfl (gr24_1 sw) ?_
    refine wp_iload_n (M := mX2_readComparison) (pc := 72) dX2_readComparison_72 rfl rfl ?_
    refine wp_iconst (M := mX2_readComparison) (pc := 73) dX2_readComparison_73 k_iconst_0 ?_
    refine xs_callV (d := d + 3) (M := mX2_readComparison) (pc := 74) (As := [.int x2, .int 0]) (st := []) (c := 1) (ls' := [.ref (lwR sw), .int x2, .int 0]) dX2_readComparison_74 oX1_put nX1_put lX2_80 vX1_put sX1_put rfl (shL (isLw_R sw)) (Nat.le_of_ble_eq_true rfl) rfl (Nat.le_of_ble_eq_true rfl) rfl ?_
    exact p1 c1
  · refine wp_iconst (M := mX2_readComparison) (pc := 66) dX2_readComparison_66 k_iconst_0 ?_
    exact xs_zret (M := mX2_readComparison) (pc := 67) dX2_readComparison_67 rfl (by decide) (p2 c1)
theorem bX2_readComparison_77 {G : GC} {d : Nat} {sw : Bool} {f : FF} {Q : QQ} {x1 : Int32} {x2 : Int32} {s0 : Int32} (p1 : Q (some (.int 1)) sw f) : XP G mX2_readComparison (d + 4) 77 [.ref 24, .int x1, .int x2] [.int s0] sw f Q := by
  refine wp_pop (M := mX2_readComparison) (pc := 77) dX2_readComparison_77 ?_
  refine wp_iconst (M := mX2_readComparison) (pc := 78) dX2_readComparison_78 k_iconst_1 ?_
  exact xs_zret (M := mX2_readComparison) (pc := 79) dX2_readComparison_79 rfl (by decide) (p1)
