theorem bX10_trunk_0 {G : GC} {d : Nat} {sw : Bool} {f : FF} {Q : QQ} {x1 : Int32} {x2 : Int32} {x3 : Int32} (p1 : (¬ (twoE x1 x2)) → Q (some (.int 0)) sw f) (p2 : (twoE x1 x2) → (0 ≤ x3 ∧ x3 ≤ 9) → XP G mX3_lay (d + 2) 0 [.ref 3, .int x1, .int x2, .int x3] [] sw f (fun v sw' f' => XP G mX10_trunk (d + 3) 30 [.ref 0, .int x1, .int x2, .int x3] (retst v []) sw' f' Q)) (p3 : (twoE x1 x2) → (¬ (0 ≤ x3 ∧ x3 ≤ 9)) → Q (some (.int 0)) sw f) : XP G mX10_trunk (d + 3) 0 [.ref 0, .int x1, .int x2, .int x3] [] sw f Q := by
  refine wp_iload_n (M := mX10_trunk) (pc := 0) dX10_trunk_0 rfl rfl ?_
  refine wp_iload_n (M := mX10_trunk) (pc := 1) dX10_trunk_1 rfl rfl ?_
  refine xs_callS (d := d + 2) (M := mX10_trunk) (pc := 2) (As := [.int x1, .int x2]) (st := []) (ls' := [.int x1, .int x2]) dX10_trunk_2 oX10_areTwo nX10_areTwo lX10_75 tX10_areTwo (Nat.le_of_ble_eq_true rfl) rfl (Nat.le_of_ble_eq_true rfl) rfl ?_
  refine sp_X10_areTwo   ?_
  refine xs_ifb_eq (M := mX10_trunk) (pc := 5) (t := 18) dX10_trunk_5 (by decide) (fun c1 => ?_) (fun c1 => ?_)
  · refine wp_iconst (M := mX10_trunk) (pc := 18) dX10_trunk_18 k_iconst_0 ?_
    exact xs_zret (M := mX10_trunk) (pc := 19) dX10_trunk_19 rfl (by decide) (p1 c1)
  · refine wp_iload_n (M := mX10_trunk) (pc := 8) dX10_trunk_8 rfl rfl ?_
    refine wp_iconst (M := mX10_trunk) (pc := 9) dX10_trunk_9 k_iconst_0 ?_
    refine wp_bipush (M := mX10_trunk) (pc := 10) dX10_trunk_10 k_bipush_9 ?_
    refine xs_callS (d := d + 2) (M := mX10_trunk) (pc := 12) (As := [.int x3, .int 0, .int 9]) (st := []) (ls' := [.int x3, .int 0, .int 9]) dX10_trunk_12 oX10_within nX10_within lX10_79 tX10_within (Nat.le_of_ble_eq_true rfl) rfl (Nat.le_of_ble_eq_true rfl) rfl ?_
    refine sp_X10_within   ?_
    refine xs_ifb_ne (M := mX10_trunk) (pc := 15) (t := 20) dX10_trunk_15 (by decide) (fun c2 => ?_) (fun c2 => ?_)
    · refine wp_aload_n (M := mX10_trunk) (pc := 20) dX10_trunk_20 rfl rfl ?_
      refine xs_getr (M := mX10_trunk) (pc := 21) (r := 3) dX10_trunk_21 fX10_19 sh0 rfl (gr0_1 sw) ?_
      refine wp_iload_n (M := mX10_trunk) (pc := 24) dX10_trunk_24 rfl rfl ?_
      refine wp_iload_n (M := mX10_trunk) (pc := 25) dX10_trunk_25 rfl rfl ?_
      refine wp_iload_n (M := mX10_trunk) (pc := 26) dX10_trunk_26 rfl rfl ?_
      refine xs_callV (d := d + 2) (M := mX10_trunk) (pc := 27) (As := [.int x1, .int x2, .int x3]) (st := []) (c := 3) (ls' := [.ref 3, .int x1, .int x2, .int x3]) dX10_trunk_27 oX3_lay nX3_lay lX10_83 vX3_lay sX3_lay rfl sh3 (Nat.le_of_ble_eq_true rfl) rfl (Nat.le_of_ble_eq_true rfl) rfl ?_
      exact p2 c1 c2
    · refine wp_iconst (M := mX10_trunk) (pc := 18) dX10_trunk_18 k_iconst_0 ?_
      exact xs_zret (M := mX10_trunk) (pc := 19) dX10_trunk_19 rfl (by decide) (p3 c1 c2)
theorem bX10_trunk_30 {G : GC} {d : Nat} {sw : Bool} {f : FF} {Q : QQ} {x1 : Int32} {x2 : Int32} {x3 : Int32} (p1 : Q (some (.int 1)) sw f) : XP G mX10_trunk (d + 3) 30 [.ref 0, .int x1, .int x2, .int x3] [] sw f Q := by
  refine wp_iconst (M := mX10_trunk) (pc := 30) dX10_trunk_30 k_iconst_1 ?_
  exact xs_zret (M := mX10_trunk) (pc := 31) dX10_trunk_31 rfl (by decide) (p1)
theorem bX10_subscriber_0 {G : GC} {d : Nat} {sw : Bool} {f : FF} {Q : QQ} {x1 : Int32} {x2 : Int32} {x3 : Int32} (p1 : (¬ (0 ≤ x1 ∧ x1 ≤ 15)) → Q (some (.int 0)) sw f) (p2 : (0 ≤ x1 ∧ x1 ≤ 15) → (0 ≤ x2 ∧ x2 ≤ 7) → XP G mX9_enter (d + 3) 0 [.ref 43, .int x1, .int x2, .int x3, .null] [] sw f (fun v sw' f' => XP G mX10_subscriber (d + 4) 29 [.ref 0, .int x1, .int x2, .int x3] (retst v []) sw' f' Q)) (p3 : (0 ≤ x1 ∧ x1 ≤ 15) → (¬ (0 ≤ x2 ∧ x2 ≤ 7)) → Q (some (.int 0)) sw f) : XP G mX10_subscriber (d + 4) 0 [.ref 0, .int x1, .int x2, .int x3] [] sw f Q := by
  refine wp_iload_n (M := mX10_subscriber) (pc := 0) dX10_subscriber_0 rfl rfl ?_
  refine wp_iconst (M := mX10_subscriber) (pc := 1) dX10_subscriber_1 k_iconst_0 ?_
  refine wp_bipush (M := mX10_subscriber) (pc := 2) dX10_subscriber_2 k_bipush_15 ?_
  refine xs_callS (d := d + 3) (M := mX10_subscriber) (pc := 4) (As := [.int x1, .int 0, .int 15]) (st := []) (ls' := [.int x1, .int 0, .int 15]) dX10_subscriber_4 oX10_within nX10_within lX10_79 tX10_within (Nat.le_of_ble_eq_true rfl) rfl (Nat.le_of_ble_eq_true rfl) rfl ?_
  refine sp_X10_within   ?_
  refine xs_ifb_eq (M := mX10_subscriber) (pc := 7) (t := 17) dX10_subscriber_7 (by decide) (fun c1 => ?_) (fun c1 => ?_)
  · refine wp_iconst (M := mX10_subscriber) (pc := 17) dX10_subscriber_17 k_iconst_0 ?_
    exact xs_zret (M := mX10_subscriber) (pc := 18) dX10_subscriber_18 rfl (by decide) (p1 c1)
  · refine wp_iload_n (M := mX10_subscriber) (pc := 10) dX10_subscriber_10 rfl rfl ?_
    refine xs_callS (d := d + 3) (M := mX10_subscriber) (pc := 11) (As := [.int x2]) (st := []) (ls' := [.int x2]) dX10_subscriber_11 oX10_isExchange nX10_isExchange lX10_87 tX10_isExchange (Nat.le_of_ble_eq_true rfl) rfl (Nat.le_of_ble_eq_true rfl) rfl ?_
    refine sp_X10_isExchange   ?_
    refine xs_ifb_ne (M := mX10_subscriber) (pc := 14) (t := 19) dX10_subscriber_14 (by decide) (fun c2 => ?_) (fun c2 => ?_)
    · refine wp_aload_n (M := mX10_subscriber) (pc := 19) dX10_subscriber_19 rfl rfl ?_
      refine xs_getr (M := mX10_subscriber) (pc := 20) (r := 43) dX10_subscriber_20 fX10_65 sh0 rfl (gr0_7 sw) ?_
      refine wp_iload_n (M := mX10_subscriber) (pc := 23) dX10_subscriber_23 rfl rfl ?_
      refine wp_iload_n (M := mX10_subscriber) (pc := 24) dX10_subscriber_24 rfl rfl ?_
      refine wp_iload_n (M := mX10_subscriber) (pc := 25) dX10_subscriber_25 rfl rfl ?_
      refine xs_callV (d := d + 3) (M := mX10_subscriber) (pc := 26) (As := [.int x1, .int x2, .int x3]) (st := []) (c := 9) (ls' := [.ref 43, .int x1, .int x2, .int x3, .null]) dX10_subscriber_26 oX9_enter nX9_enter lX10_91 vX9_enter sX9_enter rfl sh43 (Nat.le_of_ble_eq_true rfl) rfl (Nat.le_of_ble_eq_true rfl) rfl ?_
      exact p2 c1 c2
    · refine wp_iconst (M := mX10_subscriber) (pc := 17) dX10_subscriber_17 k_iconst_0 ?_
      exact xs_zret (M := mX10_subscriber) (pc := 18) dX10_subscriber_18 rfl (by decide) (p3 c1 c2)
theorem bX10_subscriber_29 {G : GC} {d : Nat} {sw : Bool} {f : FF} {Q : QQ} {x1 : Int32} {x2 : Int32} {x3 : Int32} (p1 : Q (some (.int 1)) sw f) : XP G mX10_subscriber (d + 4) 29 [.ref 0, .int x1, .int x2, .int x3] [] sw f Q := by
  refine wp_iconst (M := mX10_subscriber) (pc := 29) dX10_subscriber_29 k_iconst_1 ?_
  exact xs_zret (M := mX10_subscriber) (pc := 30) dX10_subscriber_30 rfl (by decide) (p1)
theorem bX10_fund_0 {G : GC} {d : Nat} {sw : Bool} {f : FF} {Q : QQ} {x1 : Int32} (p1 : (0 ≤ x1 ∧ x1 ≤ 999999) → Q (some (.int 1)) sw (upd2 f 43 5 x1)) (p2 : (¬ (0 ≤ x1 ∧ x1 ≤ 999999)) → Q (some (.int 0)) sw f) : XP G mX10_fund (d + 1) 0 [.ref 0, .int x1] [] sw f Q := by
  refine wp_iload_n (M := mX10_fund) (pc := 0) dX10_fund_0 rfl rfl ?_
  refine wp_iconst (M := mX10_fund) (pc := 1) dX10_fund_1 k_iconst_0 ?_
  refine wp_ldc (M := mX10_fund) (pc := 2) dX10_fund_2 kX10_95 ?_
  refine xs_callS (d := d) (M := mX10_fund) (pc := 4) (As := [.int x1, .int 0, .int 999999]) (st := []) (ls' := [.int x1, .int 0, .int 999999]) dX10_fund_4 oX10_within nX10_within lX10_79 tX10_within (Nat.le_of_ble_eq_true rfl) rfl (Nat.le_of_ble_eq_true rfl) rfl ?_
  refine sp_X10_within   ?_
  refine xs_ifb_ne (M := mX10_fund) (pc := 7) (t := 12) dX10_fund_7 (by decide) (fun c1 => ?_) (fun c1 => ?_)
  · refine wp_aload_n (M := mX10_fund) (pc := 12) dX10_fund_12 rfl rfl ?_
    refine xs_getr (M := mX10_fund) (pc := 13) (r := 43) dX10_fund_13 fX10_65 sh0 rfl (gr0_7 sw) ?_
    refine wp_iload_n (M := mX10_fund) (pc := 16) dX10_fund_16 rfl rfl ?_
    refine xs_puti (M := mX10_fund) (pc := 17) dX10_fund_17 pX10_96 sh43 rfl ?_
    refine wp_iconst (M := mX10_fund) (pc := 20) dX10_fund_20 k_iconst_1 ?_
    exact xs_zret (M := mX10_fund) (pc := 21) dX10_fund_21 rfl (by decide) (p1 c1)
  · refine wp_iconst (M := mX10_fund) (pc := 10) dX10_fund_10 k_iconst_0 ?_
    exact xs_zret (M := mX10_fund) (pc := 11) dX10_fund_11 rfl (by decide) (p2 c1)
theorem bX10_rate_0 {G : GC} {d : Nat} {sw : Bool} {f : FF} {Q : QQ} {x1 : Int32} {x2 : Int32} (p1 : (¬ (0 ≤ x1 ∧ x1 ≤ 99)) → Q (some (.int 0)) sw f) (p2 : (0 ≤ x1 ∧ x1 ≤ 99) → (0 ≤ x2 ∧ x2 ≤ 99) → Q (some (.int 1)) sw (upd2 (upd2 f 32 3 x1) 32 4 x2)) (p3 : (0 ≤ x1 ∧ x1 ≤ 99) → (¬ (0 ≤ x2 ∧ x2 ≤ 99)) → Q (some (.int 0)) sw f) : XP G mX10_rate (d + 1) 0 [.ref 0, .int x1, .int x2] [] sw f Q := by
  refine wp_iload_n (M := mX10_rate) (pc := 0) dX10_rate_0 rfl rfl ?_
  refine wp_iconst (M := mX10_rate) (pc := 1) dX10_rate_1 k_iconst_0 ?_
  refine wp_bipush (M := mX10_rate) (pc := 2) dX10_rate_2 k_bipush_99 ?_
  refine xs_callS (d := d) (M := mX10_rate) (pc := 4) (As := [.int x1, .int 0, .int 99]) (st := []) (ls' := [.int x1, .int 0, .int 99]) dX10_rate_4 oX10_within nX10_within lX10_79 tX10_within (Nat.le_of_ble_eq_true rfl) rfl (Nat.le_of_ble_eq_true rfl) rfl ?_
  refine sp_X10_within   ?_
  refine xs_ifb_eq (M := mX10_rate) (pc := 7) (t := 20) dX10_rate_7 (by decide) (fun c1 => ?_) (fun c1 => ?_)
  · refine wp_iconst (M := mX10_rate) (pc := 20) dX10_rate_20 k_iconst_0 ?_
    exact xs_zret (M := mX10_rate) (pc := 21) dX10_rate_21 rfl (by decide) (p1 c1)
  · refine wp_iload_n (M := mX10_rate) (pc := 10) dX10_rate_10 rfl rfl ?_
    refine wp_iconst (M := mX10_rate) (pc := 11) dX10_rate_11 k_iconst_0 ?_
    refine wp_bipush (M := mX10_rate) (pc := 12) dX10_rate_12 k_bipush_99 ?_
    refine xs_callS (d := d) (M := mX10_rate) (pc := 14) (As := [.int x2, .int 0, .int 99]) (st := []) (ls' := [.int x2, .int 0, .int 99]) dX10_rate_14 oX10_within nX10_within lX10_79 tX10_within (Nat.le_of_ble_eq_true rfl) rfl (Nat.le_of_ble_eq_true rfl) rfl ?_
    refine sp_X10_within   ?_
    refine xs_ifb_ne (M := mX10_rate) (pc := 17) (t := 22) dX10_rate_17 (by decide) (fun c2 => ?_) (fun c2 => ?_)
    · refine wp_aload_n (M := mX10_rate) (pc := 22) dX10_rate_22 rfl rfl ?_
      refine xs_getr (M := mX10_rate) (pc := 23) (r := 32) dX10_rate_23 fX10_58 sh0 rfl (gr0_6 sw) ?_
      refine wp_iload_n (M := mX10_rate) (pc := 26) dX10_rate_26 rfl rfl ?_
      refine xs_puti (M := mX10_rate) (pc := 27) dX10_rate_27 pX10_100 sh32 rfl ?_
      refine wp_aload_n (M := mX10_rate) (pc := 30) dX10_rate_30 rfl rfl ?_
      refine xs_getr (M := mX10_rate) (pc := 31) (r := 32) dX10_rate_31 fX10_58 sh0 rfl (gr0_6 sw) ?_
      refine wp_iload_n (M := mX10_rate) (pc := 34) dX10_rate_34 rfl rfl ?_
      refine xs_puti (M := mX10_rate) (pc := 35) dX10_rate_35 pX10_103 sh32 rfl ?_
      refine wp_iconst (M := mX10_rate) (pc := 38) dX10_rate_38 k_iconst_1 ?_
      exact xs_zret (M := mX10_rate) (pc := 39) dX10_rate_39 rfl (by decide) (p2 c1 c2)
    · refine wp_iconst (M := mX10_rate) (pc := 20) dX10_rate_20 k_iconst_0 ?_
      exact xs_zret (M := mX10_rate) (pc := 21) dX10_rate_21 rfl (by decide) (p3 c1 c2)
theorem bX10_feed_0 {G : GC} {d : Nat} {sw : Bool} {f : FF} {Q : QQ} {x1 : Int32} {x2 : Int32} {x3 : Int32} {x4 : Int32} {x5 : Int32} (p1 : (f 1 1 + 20 ≤ 260) → XP G mX8_add (d) 0 [.ref 1, .int x1, .null] [] sw f (fun v sw' f' => XP G mX10_feed (d + 1) 20 [.ref 0, .int x1, .int x2, .int x3, .int x4, .int x5] (retst v []) sw' f' Q)) (p2 : (¬ (f 1 1 + 20 ≤ 260)) → Q (some (.int (-1))) sw f) : XP G mX10_feed (d + 1) 0 [.ref 0, .int x1, .int x2, .int x3, .int x4, .int x5] [] sw f Q := by
  refine wp_aload_n (M := mX10_feed) (pc := 0) dX10_feed_0 rfl rfl ?_
  refine xs_getr (M := mX10_feed) (pc := 1) (r := 1) dX10_feed_1 fX10_10 sh0 rfl (gr0_0 sw) ?_
  refine xs_callV (d := d) (M := mX10_feed) (pc := 4) (As := []) (st := []) (c := 8) (ls' := [.ref 1]) dX10_feed_4 oX8_hasRoom nX8_hasRoom lX10_106 vX8_hasRoom sX8_hasRoom rfl sh1 (Nat.le_of_ble_eq_true rfl) rfl (Nat.le_of_ble_eq_true rfl) rfl ?_
  refine sp_X8_hasRoom   ?_
  refine xs_ifb_ne (M := mX10_feed) (pc := 7) (t := 12) dX10_feed_7 (by decide) (fun c1 => ?_) (fun c1 => ?_)
  · refine wp_aload_n (M := mX10_feed) (pc := 12) dX10_feed_12 rfl rfl ?_
    refine xs_getr (M := mX10_feed) (pc := 13) (r := 1) dX10_feed_13 fX10_10 sh0 rfl (gr0_0 sw) ?_
    refine wp_iload_n (M := mX10_feed) (pc := 16) dX10_feed_16 rfl rfl ?_
    refine xs_callV (d := d) (M := mX10_feed) (pc := 17) (As := [.int x1]) (st := []) (c := 8) (ls' := [.ref 1, .int x1, .null]) dX10_feed_17 oX8_add nX8_add lX10_110 vX8_add sX8_add rfl sh1 (Nat.le_of_ble_eq_true rfl) rfl (Nat.le_of_ble_eq_true rfl) rfl ?_
    exact p1 c1
  · refine wp_iconst (M := mX10_feed) (pc := 10) dX10_feed_10 k_iconst_m1 ?_
    exact xs_iret (M := mX10_feed) (pc := 11) dX10_feed_11 rfl (p2 c1)
theorem bX10_feed_20 {G : GC} {d : Nat} {sw : Bool} {f : FF} {Q : QQ} {x1 : Int32} {x2 : Int32} {x3 : Int32} {x4 : Int32} {x5 : Int32} (p1 : XP G mX8_add (d) 0 [.ref 1, .int x2, .null] [] sw f (fun v sw' f' => XP G mX10_feed (d + 1) 28 [.ref 0, .int x1, .int x2, .int x3, .int x4, .int x5] (retst v []) sw' f' Q)) : XP G mX10_feed (d + 1) 20 [.ref 0, .int x1, .int x2, .int x3, .int x4, .int x5] [] sw f Q := by
  refine wp_aload_n (M := mX10_feed) (pc := 20) dX10_feed_20 rfl rfl ?_
  refine xs_getr (M := mX10_feed) (pc := 21) (r := 1) dX10_feed_21 fX10_10 sh0 rfl (gr0_0 sw) ?_
  refine wp_iload_n (M := mX10_feed) (pc := 24) dX10_feed_24 rfl rfl ?_
  refine xs_callV (d := d) (M := mX10_feed) (pc := 25) (As := [.int x2]) (st := []) (c := 8) (ls' := [.ref 1, .int x2, .null]) dX10_feed_25 oX8_add nX8_add lX10_110 vX8_add sX8_add rfl sh1 (Nat.le_of_ble_eq_true rfl) rfl (Nat.le_of_ble_eq_true rfl) rfl ?_
  exact p1
theorem bX10_feed_28 {G : GC} {d : Nat} {sw : Bool} {f : FF} {Q : QQ} {x1 : Int32} {x2 : Int32} {x3 : Int32} {x4 : Int32} {x5 : Int32} (p1 : XP G mX8_add (d) 0 [.ref 1, .int x3, .null] [] sw f (fun v sw' f' => XP G mX10_feed (d + 1) 36 [.ref 0, .int x1, .int x2, .int x3, .int x4, .int x5] (retst v []) sw' f' Q)) : XP G mX10_feed (d + 1) 28 [.ref 0, .int x1, .int x2, .int x3, .int x4, .int x5] [] sw f Q := by
  refine wp_aload_n (M := mX10_feed) (pc := 28) dX10_feed_28 rfl rfl ?_
  refine xs_getr (M := mX10_feed) (pc := 29) (r := 1) dX10_feed_29 fX10_10 sh0 rfl (gr0_0 sw) ?_
  refine wp_iload_n (M := mX10_feed) (pc := 32) dX10_feed_32 rfl rfl ?_
  refine xs_callV (d := d) (M := mX10_feed) (pc := 33) (As := [.int x3]) (st := []) (c := 8) (ls' := [.ref 1, .int x3, .null]) dX10_feed_33 oX8_add nX8_add lX10_110 vX8_add sX8_add rfl sh1 (Nat.le_of_ble_eq_true rfl) rfl (Nat.le_of_ble_eq_true rfl) rfl ?_
  exact p1
theorem bX10_feed_36 {G : GC} {d : Nat} {sw : Bool} {f : FF} {Q : QQ} {x1 : Int32} {x2 : Int32} {x3 : Int32} {x4 : Int32} {x5 : Int32} (p1 : XP G mX8_add (d) 0 [.ref 1, .int x4, .null] [] sw f (fun v sw' f' => XP G mX10_feed (d + 1) 45 [.ref 0, .int x1, .int x2, .int x3, .int x4, .int x5] (retst v []) sw' f' Q)) : XP G mX10_feed (d + 1) 36 [.ref 0, .int x1, .int x2, .int x3, .int x4, .int x5] [] sw f Q := by
  refine wp_aload_n (M := mX10_feed) (pc := 36) dX10_feed_36 rfl rfl ?_
  refine xs_getr (M := mX10_feed) (pc := 37) (r := 1) dX10_feed_37 fX10_10 sh0 rfl (gr0_0 sw) ?_
  refine wp_iload (M := mX10_feed) (pc := 40) dX10_feed_40 rfl ?_
  refine xs_callV (d := d) (M := mX10_feed) (pc := 42) (As := [.int x4]) (st := []) (c := 8) (ls' := [.ref 1, .int x4, .null]) dX10_feed_42 oX8_add nX8_add lX10_110 vX8_add sX8_add rfl sh1 (Nat.le_of_ble_eq_true rfl) rfl (Nat.le_of_ble_eq_true rfl) rfl ?_
  exact p1
theorem bX10_feed_45 {G : GC} {d : Nat} {sw : Bool} {f : FF} {Q : QQ} {x1 : Int32} {x2 : Int32} {x3 : Int32} {x4 : Int32} {x5 : Int32} (p1 : XP G mX8_add (d) 0 [.ref 1, .int x5, .null] [] sw f (fun v sw' f' => XP G mX10_feed (d + 1) 54 [.ref 0, .int x1, .int x2, .int x3, .int x4, .int x5] (retst v []) sw' f' Q)) : XP G mX10_feed (d + 1) 45 [.ref 0, .int x1, .int x2, .int x3, .int x4, .int x5] [] sw f Q := by
  refine wp_aload_n (M := mX10_feed) (pc := 45) dX10_feed_45 rfl rfl ?_
  refine xs_getr (M := mX10_feed) (pc := 46) (r := 1) dX10_feed_46 fX10_10 sh0 rfl (gr0_0 sw) ?_
  refine wp_iload (M := mX10_feed) (pc := 49) dX10_feed_49 rfl ?_
  refine xs_callV (d := d) (M := mX10_feed) (pc := 51) (As := [.int x5]) (st := []) (c := 8) (ls' := [.ref 1, .int x5, .null]) dX10_feed_51 oX8_add nX8_add lX10_110 vX8_add sX8_add rfl sh1 (Nat.le_of_ble_eq_true rfl) rfl (Nat.le_of_ble_eq_true rfl) rfl ?_
  exact p1
theorem bX10_feed_54 {G : GC} {d : Nat} {sw : Bool} {f : FF} {Q : QQ} {x1 : Int32} {x2 : Int32} {x3 : Int32} {x4 : Int32} {x5 : Int32} (p1 : Q (some (.int (f 1 1))) sw f) : XP G mX10_feed (d + 1) 54 [.ref 0, .int x1, .int x2, .int x3, .int x4, .int x5] [] sw f Q := by
  refine wp_aload_n (M := mX10_feed) (pc := 54) dX10_feed_54 rfl rfl ?_
  refine xs_getr (M := mX10_feed) (pc := 55) (r := 1) dX10_feed_55 fX10_10 sh0 rfl (gr0_0 sw) ?_
  refine xs_geti (M := mX10_feed) (pc := 58) dX10_feed_58 fX10_114 sh1 rfl ?_
  exact xs_iret (M := mX10_feed) (pc := 61) dX10_feed_61 rfl (p1)
theorem bX10_bill_0 {G : GC} {d : Nat} {sw : Bool} {f : FF} {Q : QQ} {x1 : Int32} (p1 : (¬ (1 ≤ x1 ∧ x1 ≤ 120)) → Q (some (.int (-1))) sw f) (p2 : (1 ≤ x1 ∧ x1 ≤ 120) → XP G mX8_take (d + 5) 0 [.ref 1, .int x1] [] sw f (fun v sw' f' => XP G mX10_bill (d + 6) 18 [.ref 0, .int x1, .null] (retst v []) sw' f' Q)) : XP G mX10_bill (d + 6) 0 [.ref 0, .int x1, .null] [] sw f Q := by
  refine wp_iload_n (M := mX10_bill) (pc := 0) dX10_bill_0 rfl rfl ?_
  refine wp_iconst (M := mX10_bill) (pc := 1) dX10_bill_1 k_iconst_1 ?_
  refine wp_bipush (M := mX10_bill) (pc := 2) dX10_bill_2 k_bipush_120 ?_
  refine xs_callS (d := d + 5) (M := mX10_bill) (pc := 4) (As := [.int x1, .int 1, .int 120]) (st := []) (ls' := [.int x1, .int 1, .int 120]) dX10_bill_4 oX10_within nX10_within lX10_79 tX10_within (Nat.le_of_ble_eq_true rfl) rfl (Nat.le_of_ble_eq_true rfl) rfl ?_
  refine sp_X10_within   ?_
  refine xs_ifb_eq (M := mX10_bill) (pc := 7) (t := 21) dX10_bill_7 (by decide) (fun c1 => ?_) (fun c1 => ?_)
  · refine wp_iconst (M := mX10_bill) (pc := 21) dX10_bill_21 k_iconst_m1 ?_
    exact xs_iret (M := mX10_bill) (pc := 22) dX10_bill_22 rfl (p1 c1)
  · refine wp_aload_n (M := mX10_bill) (pc := 10) dX10_bill_10 rfl rfl ?_
    refine xs_getr (M := mX10_bill) (pc := 11) (r := 1) dX10_bill_11 fX10_10 sh0 rfl (gr0_0 sw) ?_
    refine wp_iload_n (M := mX10_bill) (pc := 14) dX10_bill_14 rfl rfl ?_
    refine xs_callV (d := d + 5) (M := mX10_bill) (pc := 15) (As := [.int x1]) (st := []) (c := 8) (ls' := [.ref 1, .int x1]) dX10_bill_15 oX8_take nX8_take lX10_117 vX8_take sX8_take rfl sh1 (Nat.le_of_ble_eq_true rfl) rfl (Nat.le_of_ble_eq_true rfl) rfl ?_
    exact p2 c1
theorem bX10_bill_18 {G : GC} {d : Nat} {sw : Bool} {f : FF} {Q : QQ} {x1 : Int32} {v2 : Value} {s0 : Int32} (p1 : (¬ s0 = 0) → XP G mX0_readLines (d + 5) 0 [.ref 20, .int (f 43 0), .null] [] sw f (fun v sw' f' => XP G mX10_bill (d + 6) 37 [.ref 0, .int x1, v2] (retst v []) sw' f' Q)) (p2 : (s0 = 0) → Q (some (.int (-1))) sw f) : XP G mX10_bill (d + 6) 18 [.ref 0, .int x1, v2] [.int s0] sw f Q := by
  refine wp_if_ne (M := mX10_bill) (pc := 18) (t := 23) dX10_bill_18 (by decide) (fun c1 => ?_) (fun c1 => ?_)
  · refine wp_aload_n (M := mX10_bill) (pc := 23) dX10_bill_23 rfl rfl ?_
    refine xs_getr (M := mX10_bill) (pc := 24) (r := 20) dX10_bill_24 fX10_42 sh0 rfl (gr0_4 sw) ?_
    refine wp_aload_n (M := mX10_bill) (pc := 27) dX10_bill_27 rfl rfl ?_
    refine xs_getr (M := mX10_bill) (pc := 28) (r := 43) dX10_bill_28 fX10_65 sh0 rfl (gr0_7 sw) ?_
    refine xs_geti (M := mX10_bill) (pc := 31) dX10_bill_31 fX10_129 sh43 rfl ?_
    refine xs_callV (d := d + 5) (M := mX10_bill) (pc := 34) (As := [.int (f 43 0)]) (st := []) (c := 0) (ls' := [.ref 20, .int (f 43 0), .null]) dX10_bill_34 oX0_readLines nX0_readLines lX10_132 vX0_readLines sX0_readLines rfl sh20 (Nat.le_of_ble_eq_true rfl) rfl (Nat.le_of_ble_eq_true rfl) rfl ?_
    exact p1 c1
  · refine wp_iconst (M := mX10_bill) (pc := 21) dX10_bill_21 k_iconst_m1 ?_
    exact xs_iret (M := mX10_bill) (pc := 22) dX10_bill_22 rfl (p2 c1)
theorem bX10_bill_37 {G : GC} {d : Nat} {sw : Bool} {f : FF} {Q : QQ} {x1 : Int32} {v2 : Value} {s0 : Int32} (p1 : (s0 ≤ 0) → Q (some (.int s0)) sw f) (p2 : (¬ s0 ≤ 0) → XP G mX0_settle (d + 5) 0 [.ref 20, .ref 43, .null] [] sw f (fun v sw' f' => XP G mX10_bill (d + 6) 53 [.ref 0, .int x1, .int s0] (retst v []) sw' f' Q)) : XP G mX10_bill (d + 6) 37 [.ref 0, .int x1, v2] [.int s0] sw f Q := by
  refine wp_istore_n (M := mX10_bill) (pc := 37) (ls' := [.ref 0, .int x1, .int s0]) dX10_bill_37 rfl (by decide) rfl ?_
  refine wp_iload_n (M := mX10_bill) (pc := 38) dX10_bill_38 rfl rfl ?_
  refine wp_if_le (M := mX10_bill) (pc := 39) (t := 53) dX10_bill_39 (by decide) (fun c1 => ?_) (fun c1 => ?_)
  · refine wp_iload_n (M := mX10_bill) (pc := 53) dX10_bill_53 rfl rfl ?_
    exact xs_iret (M := mX10_bill) (pc := 54) dX10_bill_54 rfl (p1 c1)
  · refine wp_aload_n (M := mX10_bill) (pc := 42) dX10_bill_42 rfl rfl ?_
    refine xs_getr (M := mX10_bill) (pc := 43) (r := 20) dX10_bill_43 fX10_42 sh0 rfl (gr0_4 sw) ?_
    refine wp_aload_n (M := mX10_bill) (pc := 46) dX10_bill_46 rfl rfl ?_
    refine xs_getr (M := mX10_bill) (pc := 47) (r := 43) dX10_bill_47 fX10_65 sh0 rfl (gr0_7 sw) ?_
    refine xs_callV (d := d + 5) (M := mX10_bill) (pc := 50) (As := [.ref 43]) (st := []) (c := 0) (ls' := [.ref 20, .ref 43, .null]) dX10_bill_50 oX0_settle nX0_settle lX10_136 vX0_settle sX0_settle rfl sh20 (Nat.le_of_ble_eq_true rfl) rfl (Nat.le_of_ble_eq_true rfl) rfl ?_
    exact p2 c1
theorem bX10_bill_53 {G : GC} {d : Nat} {sw : Bool} {f : FF} {Q : QQ} {x1 : Int32} {x2 : Int32} (p1 : Q (some (.int x2)) sw f) : XP G mX10_bill (d + 6) 53 [.ref 0, .int x1, .int x2] [] sw f Q := by
  refine wp_iload_n (M := mX10_bill) (pc := 53) dX10_bill_53 rfl rfl ?_
  exact xs_iret (M := mX10_bill) (pc := 54) dX10_bill_54 rfl (p1)
theorem bX10_code_0 {G : GC} {d : Nat} {sw : Bool} {f : FF} {Q : QQ} {x1 : Int32} {x2 : Int32} (p1 : (¬ (0 ≤ x1 ∧ x1 ≤ 7)) → Q (some (.int (-1))) sw f) (p2 : (0 ≤ x1 ∧ x1 ≤ 7) → (¬ (1 ≤ x2 ∧ x2 ≤ 6)) → Q (some (.int (-1))) sw f) (p3 : (0 ≤ x1 ∧ x1 ≤ 7) → (1 ≤ x2 ∧ x2 ≤ 6) → XP G mX8_take (d + 2) 0 [.ref 1, .int x2] [] sw f (fun v sw' f' => XP G mX10_code (d + 3) 25 [.ref 0, .int x1, .int x2] (retst v []) sw' f' Q)) : XP G mX10_code (d + 3) 0 [.ref 0, .int x1, .int x2] [] sw f Q := by
  refine wp_iload_n (M := mX10_code) (pc := 0) dX10_code_0 rfl rfl ?_
  refine xs_callS (d := d + 2) (M := mX10_code) (pc := 1) (As := [.int x1]) (st := []) (ls' := [.int x1]) dX10_code_1 oX10_isExchange nX10_isExchange lX10_87 tX10_isExchange (Nat.le_of_ble_eq_true rfl) rfl (Nat.le_of_ble_eq_true rfl) rfl ?_
  refine sp_X10_isExchange   ?_
  refine xs_ifb_eq (M := mX10_code) (pc := 4) (t := 28) dX10_code_4 (by decide) (fun c1 => ?_) (fun c1 => ?_)
  · refine wp_iconst (M := mX10_code) (pc := 28) dX10_code_28 k_iconst_m1 ?_
    exact xs_iret (M := mX10_code) (pc := 29) dX10_code_29 rfl (p1 c1)
  · refine wp_iload_n (M := mX10_code) (pc := 7) dX10_code_7 rfl rfl ?_
    refine wp_iconst (M := mX10_code) (pc := 8) dX10_code_8 k_iconst_1 ?_
    refine wp_bipush (M := mX10_code) (pc := 9) dX10_code_9 k_bipush_6 ?_
    refine xs_callS (d := d + 2) (M := mX10_code) (pc := 11) (As := [.int x2, .int 1, .int 6]) (st := []) (ls' := [.int x2, .int 1, .int 6]) dX10_code_11 oX10_within nX10_within lX10_79 tX10_within (Nat.le_of_ble_eq_true rfl) rfl (Nat.le_of_ble_eq_true rfl) rfl ?_
    refine sp_X10_within   ?_
    refine xs_ifb_eq (M := mX10_code) (pc := 14) (t := 28) dX10_code_14 (by decide) (fun c2 => ?_) (fun c2 => ?_)
    · refine wp_iconst (M := mX10_code) (pc := 28) dX10_code_28 k_iconst_m1 ?_
      exact xs_iret (M := mX10_code) (pc := 29) dX10_code_29 rfl (p2 c1 c2)
    · refine wp_aload_n (M := mX10_code) (pc := 17) dX10_code_17 rfl rfl ?_
      refine xs_getr (M := mX10_code) (pc := 18) (r := 1) dX10_code_18 fX10_10 sh0 rfl (gr0_0 sw) ?_
      refine wp_iload_n (M := mX10_code) (pc := 21) dX10_code_21 rfl rfl ?_
      refine xs_callV (d := d + 2) (M := mX10_code) (pc := 22) (As := [.int x2]) (st := []) (c := 8) (ls' := [.ref 1, .int x2]) dX10_code_22 oX8_take nX8_take lX10_117 vX8_take sX8_take rfl sh1 (Nat.le_of_ble_eq_true rfl) rfl (Nat.le_of_ble_eq_true rfl) rfl ?_
      exact p3 c1 c2
theorem bX10_code_25 {G : GC} {d : Nat} {sw : Bool} {f : FF} {Q : QQ} {x1 : Int32} {x2 : Int32} {s0 : Int32} (p1 : (¬ s0 = 0) → XP G mX4_load (d + 2) 0 [.ref 11, .int x1, .int x2, .null] [] sw f (fun v sw' f' => XP G mX10_code (d + 3) 39 [.ref 0, .int x1, .int x2] (retst v []) sw' f' Q)) (p2 : (s0 = 0) → Q (some (.int (-1))) sw f) : XP G mX10_code (d + 3) 25 [.ref 0, .int x1, .int x2] [.int s0] sw f Q := by
  refine wp_if_ne (M := mX10_code) (pc := 25) (t := 30) dX10_code_25 (by decide) (fun c1 => ?_) (fun c1 => ?_)
  · refine wp_aload_n (M := mX10_code) (pc := 30) dX10_code_30 rfl rfl ?_
    refine xs_getr (M := mX10_code) (pc := 31) (r := 11) dX10_code_31 fX10_28 sh0 rfl (gr0_2 sw) ?_
    refine wp_iload_n (M := mX10_code) (pc := 34) dX10_code_34 rfl rfl ?_
    refine wp_iload_n (M := mX10_code) (pc := 35) dX10_code_35 rfl rfl ?_
    refine xs_callV (d := d + 2) (M := mX10_code) (pc := 36) (As := [.int x1, .int x2]) (st := []) (c := 4) (ls' := [.ref 11, .int x1, .int x2, .null]) dX10_code_36 oX4_load nX4_load lX10_140 vX4_load sX4_load rfl sh11 (Nat.le_of_ble_eq_true rfl) rfl (Nat.le_of_ble_eq_true rfl) rfl ?_
    exact p1 c1
  · refine wp_iconst (M := mX10_code) (pc := 28) dX10_code_28 k_iconst_m1 ?_
    exact xs_iret (M := mX10_code) (pc := 29) dX10_code_29 rfl (p2 c1)
theorem bX10_code_39 {G : GC} {d : Nat} {sw : Bool} {f : FF} {Q : QQ} {x1 : Int32} {x2 : Int32} {s0 : Int32} (p1 : Q (some (.int s0)) sw f) : XP G mX10_code (d + 3) 39 [.ref 0, .int x1, .int x2] [.int s0] sw f Q := by
  exact xs_iret (M := mX10_code) (pc := 39) dX10_code_39 rfl (p1)
theorem bX10_minutes_0 {G : GC} {d : Nat} {sw : Bool} {f : FF} {Q : QQ} {x1 : Int32} (p1 : (1 ≤ x1 ∧ x1 ≤ 240) → XP G mX7_run (d + 6) 0 [.ref 32, .ref 43, .int x1, .null] [] sw f (fun v sw' f' => XP G mX10_minutes (d + 7) 25 [.ref 0, .int x1] (retst v []) sw' f' Q)) (p2 : (¬ (1 ≤ x1 ∧ x1 ≤ 240)) → Q (some (.int (-1))) sw f) : XP G mX10_minutes (d + 7) 0 [.ref 0, .int x1] [] sw f Q := by
  refine wp_iload_n (M := mX10_minutes) (pc := 0) dX10_minutes_0 rfl rfl ?_
  refine wp_iconst (M := mX10_minutes) (pc := 1) dX10_minutes_1 k_iconst_1 ?_
  refine wp_sipush (M := mX10_minutes) (pc := 2) dX10_minutes_2 k_sipush_240 ?_
  refine xs_callS (d := d + 6) (M := mX10_minutes) (pc := 5) (As := [.int x1, .int 1, .int 240]) (st := []) (ls' := [.int x1, .int 1, .int 240]) dX10_minutes_5 oX10_within nX10_within lX10_79 tX10_within (Nat.le_of_ble_eq_true rfl) rfl (Nat.le_of_ble_eq_true rfl) rfl ?_
  refine sp_X10_within   ?_
  refine xs_ifb_ne (M := mX10_minutes) (pc := 8) (t := 13) dX10_minutes_8 (by decide) (fun c1 => ?_) (fun c1 => ?_)
  · refine wp_aload_n (M := mX10_minutes) (pc := 13) dX10_minutes_13 rfl rfl ?_
    refine xs_getr (M := mX10_minutes) (pc := 14) (r := 32) dX10_minutes_14 fX10_58 sh0 rfl (gr0_6 sw) ?_
    refine wp_aload_n (M := mX10_minutes) (pc := 17) dX10_minutes_17 rfl rfl ?_
    refine xs_getr (M := mX10_minutes) (pc := 18) (r := 43) dX10_minutes_18 fX10_65 sh0 rfl (gr0_7 sw) ?_
    refine wp_iload_n (M := mX10_minutes) (pc := 21) dX10_minutes_21 rfl rfl ?_
    refine xs_callV (d := d + 6) (M := mX10_minutes) (pc := 22) (As := [.ref 43, .int x1]) (st := []) (c := 7) (ls' := [.ref 32, .ref 43, .int x1, .null]) dX10_minutes_22 oX7_run nX7_run lX10_144 vX7_run sX7_run rfl sh32 (Nat.le_of_ble_eq_true rfl) rfl (Nat.le_of_ble_eq_true rfl) rfl ?_
    exact p1 c1
  · refine wp_iconst (M := mX10_minutes) (pc := 11) dX10_minutes_11 k_iconst_m1 ?_
    exact xs_iret (M := mX10_minutes) (pc := 12) dX10_minutes_12 rfl (p2 c1)
theorem bX10_minutes_25 {G : GC} {d : Nat} {sw : Bool} {f : FF} {Q : QQ} {x1 : Int32} (p1 : Q (some (.int (f 32 5))) sw f) : XP G mX10_minutes (d + 7) 25 [.ref 0, .int x1] [] sw f Q := by
  refine wp_aload_n (M := mX10_minutes) (pc := 25) dX10_minutes_25 rfl rfl ?_
  refine xs_getr (M := mX10_minutes) (pc := 26) (r := 32) dX10_minutes_26 fX10_58 sh0 rfl (gr0_6 sw) ?_
  refine xs_geti (M := mX10_minutes) (pc := 29) dX10_minutes_29 fX10_148 sh32 rfl ?_
  exact xs_iret (M := mX10_minutes) (pc := 32) dX10_minutes_32 rfl (p1)
theorem bX10_tried_0 {G : GC} {d : Nat} {sw : Bool} {f : FF} {Q : QQ} {x1 : Int32} {x2 : Int32} (p1 : (¬ (1 ≤ x1 ∧ x1 ≤ 240)) → Q (some (.int (-1))) sw f) (p2 : (1 ≤ x1 ∧ x1 ≤ 240) → (0 ≤ x2 ∧ x2 ≤ 4) → XP G mX9_copyFrom (d + 6) 0 [.ref 69, .ref 43] [] sw f (fun v sw' f' => XP G mX10_tried (d + 7) 49 [.ref 0, .int x1, .int x2, .int (b2i ((0 ≤ (x2 - 100) ∧ (x2 - 100) ≤ 15) ∧ bitI (f 43 0) (x2 - 100)))] (retst v []) sw' f' Q)) (p3 : (1 ≤ x1 ∧ x1 ≤ 240) → (¬ (0 ≤ x2 ∧ x2 ≤ 4)) → ((0 ≤ (x2 - 100) ∧ (x2 - 100) ≤ 15) ∧ bitI (f 43 0) (x2 - 100)) → XP G mX9_copyFrom (d + 6) 0 [.ref 69, .ref 43] [] sw f (fun v sw' f' => XP G mX10_tried (d + 7) 49 [.ref 0, .int x1, .int x2, .int (b2i ((0 ≤ (x2 - 100) ∧ (x2 - 100) ≤ 15) ∧ bitI (f 43 0) (x2 - 100)))] (retst v []) sw' f' Q)) (p4 : (1 ≤ x1 ∧ x1 ≤ 240) → (¬ (0 ≤ x2 ∧ x2 ≤ 4)) → (¬ ((0 ≤ (x2 - 100) ∧ (x2 - 100) ≤ 15) ∧ bitI (f 43 0) (x2 - 100))) → Q (some (.int (-1))) sw f) : XP G mX10_tried (d + 7) 0 [.ref 0, .int x1, .int x2, .null] [] sw f Q := by
  refine wp_aload_n (M := mX10_tried) (pc := 0) dX10_tried_0 rfl rfl ?_
  refine xs_getr (M := mX10_tried) (pc := 1) (r := 43) dX10_tried_1 fX10_65 sh0 rfl (gr0_7 sw) ?_
  refine wp_iload_n (M := mX10_tried) (pc := 4) dX10_tried_4 rfl rfl ?_
  refine wp_bipush (M := mX10_tried) (pc := 5) dX10_tried_5 k_bipush_100 ?_
  refine wp_isub (M := mX10_tried) (pc := 7) dX10_tried_7 ?_
  refine xs_callV (d := d + 6) (M := mX10_tried) (pc := 8) (As := [.int (x2 - 100)]) (st := []) (c := 9) (ls' := [.ref 43, .int (x2 - 100)]) dX10_tried_8 oX9_isTold nX9_isTold lX10_151 vX9_isTold sX9_isTold rfl sh43 (Nat.le_of_ble_eq_true rfl) rfl (Nat.le_of_ble_eq_true rfl) rfl ?_
  refine sp_X9_isTold isW_43  ?_
  refine wp_istore_n (M := mX10_tried) (pc := 11) (ls' := [.ref 0, .int x1, .int x2, .int (b2i ((0 ≤ (x2 - 100) ∧ (x2 - 100) ≤ 15) ∧ bitI (f 43 0) (x2 - 100)))]) dX10_tried_11 rfl (by decide) rfl ?_
  refine wp_iload_n (M := mX10_tried) (pc := 12) dX10_tried_12 rfl rfl ?_
  refine wp_iconst (M := mX10_tried) (pc := 13) dX10_tried_13 k_iconst_1 ?_
  refine wp_sipush (M := mX10_tried) (pc := 14) dX10_tried_14 k_sipush_240 ?_
  refine xs_callS (d := d + 6) (M := mX10_tried) (pc := 17) (As := [.int x1, .int 1, .int 240]) (st := []) (ls' := [.int x1, .int 1, .int 240]) dX10_tried_17 oX10_within nX10_within lX10_79 tX10_within (Nat.le_of_ble_eq_true rfl) rfl (Nat.le_of_ble_eq_true rfl) rfl ?_
  refine sp_X10_within   ?_
  refine xs_ifb_eq (M := mX10_tried) (pc := 20) (t := 36) dX10_tried_20 (by decide) (fun c1 => ?_) (fun c1 => ?_)
  · refine wp_iconst (M := mX10_tried) (pc := 36) dX10_tried_36 k_iconst_m1 ?_
    exact xs_iret (M := mX10_tried) (pc := 37) dX10_tried_37 rfl (p1 c1)
  · refine wp_iload_n (M := mX10_tried) (pc := 23) dX10_tried_23 rfl rfl ?_
    refine wp_iconst (M := mX10_tried) (pc := 24) dX10_tried_24 k_iconst_0 ?_
    refine wp_iconst (M := mX10_tried) (pc := 25) dX10_tried_25 k_iconst_4 ?_
    refine xs_callS (d := d + 6) (M := mX10_tried) (pc := 26) (As := [.int x2, .int 0, .int 4]) (st := []) (ls' := [.int x2, .int 0, .int 4]) dX10_tried_26 oX10_within nX10_within lX10_79 tX10_within (Nat.le_of_ble_eq_true rfl) rfl (Nat.le_of_ble_eq_true rfl) rfl ?_
    refine sp_X10_within   ?_
    refine xs_ifb_ne (M := mX10_tried) (pc := 29) (t := 38) dX10_tried_29 (by decide) (fun c2 => ?_) (fun c2 => ?_)
    · refine wp_aload_n (M := mX10_tried) (pc := 38) dX10_tried_38 rfl rfl ?_
      refine xs_getr (M := mX10_tried) (pc := 39) (r := 69) dX10_tried_39 fX10_72 sh0 rfl (gr0_9 sw) ?_
      refine wp_aload_n (M := mX10_tried) (pc := 42) dX10_tried_42 rfl rfl ?_
      refine xs_getr (M := mX10_tried) (pc := 43) (r := 43) dX10_tried_43 fX10_65 sh0 rfl (gr0_7 sw) ?_
      refine xs_callV (d := d + 6) (M := mX10_tried) (pc := 46) (As := [.ref 43]) (st := []) (c := 9) (ls' := [.ref 69, .ref 43]) dX10_tried_46 oX9_copyFrom nX9_copyFrom lX10_154 vX9_copyFrom sX9_copyFrom rfl sh69 (Nat.le_of_ble_eq_true rfl) rfl (Nat.le_of_ble_eq_true rfl) rfl ?_
      exact p2 c1 c2
    · refine wp_iload_n (M := mX10_tried) (pc := 32) dX10_tried_32 rfl rfl ?_
      refine xs_ifb_ne (M := mX10_tried) (pc := 33) (t := 38) dX10_tried_33 (by decide) (fun c3 => ?_) (fun c3 => ?_)
      · refine wp_aload_n (M := mX10_tried) (pc := 38) dX10_tried_38 rfl rfl ?_
        refine xs_getr (M := mX10_tried) (pc := 39) (r := 69) dX10_tried_39 fX10_72 sh0 rfl (gr0_9 sw) ?_
        refine wp_aload_n (M := mX10_tried) (pc := 42) dX10_tried_42 rfl rfl ?_
        refine xs_getr (M := mX10_tried) (pc := 43) (r := 43) dX10_tried_43 fX10_65 sh0 rfl (gr0_7 sw) ?_
        refine xs_callV (d := d + 6) (M := mX10_tried) (pc := 46) (As := [.ref 43]) (st := []) (c := 9) (ls' := [.ref 69, .ref 43]) dX10_tried_46 oX9_copyFrom nX9_copyFrom lX10_154 vX9_copyFrom sX9_copyFrom rfl sh69 (Nat.le_of_ble_eq_true rfl) rfl (Nat.le_of_ble_eq_true rfl) rfl ?_
        exact p3 c1 c2 c3
      · refine wp_iconst (M := mX10_tried) (pc := 36) dX10_tried_36 k_iconst_m1 ?_
        exact xs_iret (M := mX10_tried) (pc := 37) dX10_tried_37 rfl (p4 c1 c2 c3)
theorem bX10_tried_49 {G : GC} {d : Nat} {sw : Bool} {f : FF} {Q : QQ} {x1 : Int32} {x2 : Int32} {x3 : Int32} (p1 : XP G mX7_run (d + 6) 0 [.ref 32, .ref 69, .int x1, .null] [] sw f (fun v sw' f' => XP G mX10_tried (d + 7) 61 [.ref 0, .int x1, .int x2, .int x3] (retst v []) sw' f' Q)) : XP G mX10_tried (d + 7) 49 [.ref 0, .int x1, .int x2, .int x3] [] sw f Q := by
  refine wp_aload_n (M := mX10_tried) (pc := 49) dX10_tried_49 rfl rfl ?_
  refine xs_getr (M := mX10_tried) (pc := 50) (r := 32) dX10_tried_50 fX10_58 sh0 rfl (gr0_6 sw) ?_
  refine wp_aload_n (M := mX10_tried) (pc := 53) dX10_tried_53 rfl rfl ?_
  refine xs_getr (M := mX10_tried) (pc := 54) (r := 69) dX10_tried_54 fX10_72 sh0 rfl (gr0_9 sw) ?_
  refine wp_iload_n (M := mX10_tried) (pc := 57) dX10_tried_57 rfl rfl ?_
  refine xs_callV (d := d + 6) (M := mX10_tried) (pc := 58) (As := [.ref 69, .int x1]) (st := []) (c := 7) (ls' := [.ref 32, .ref 69, .int x1, .null]) dX10_tried_58 oX7_run nX7_run lX10_144 vX7_run sX7_run rfl sh32 (Nat.le_of_ble_eq_true rfl) rfl (Nat.le_of_ble_eq_true rfl) rfl ?_
  exact p1
theorem bX10_tried_61 {G : GC} {d : Nat} {sw : Bool} {f : FF} {Q : QQ} {x1 : Int32} {x2 : Int32} {x3 : Int32} (p1 : (x2 = 0) → Q (some (.int (f 32 5))) sw f) (p2 : (x2 = 1) → Q (some (.int (f 32 6))) sw f) (p3 : (x2 = 2) → Q (some (.int ((f 43 5) - (f 69 5)))) sw f) (p4 : (x2 = 3) → Q (some (.int (f 32 7))) sw f) (p5 : (x2 = 4) → XP G mX9_calls (d + 6) 0 [.ref 69] [] sw f (fun v sw' f' => XP G mX10_tried (d + 7) 143 [.ref 0, .int x1, .int x2, .int x3] (retst v []) sw' f' Q)) (p6 : (¬ x2 = 0) → (¬ x2 = 1) → (¬ x2 = 2) → (¬ x2 = 3) → (¬ x2 = 4) → XP G mX9_arrearsOf (d + 6) 0 [.ref 69, .int (x2 - 100)] [] sw f (fun v sw' f' => XP G mX10_tried (d + 7) 155 [.ref 0, .int x1, .int x2, .int x3] (retst v []) sw' f' Q)) : XP G mX10_tried (d + 7) 61 [.ref 0, .int x1, .int x2, .int x3] [] sw f Q := by
  refine wp_iload_n (M := mX10_tried) (pc := 61) dX10_tried_61 rfl rfl ?_
  by_cases c1 : x2 = 0
  · refine wp_tableIn (M := mX10_tried) (pc := 62) (t := 96) (off := 34) dX10_tried_62 (by rw [c1] <;> decide) (by rw [c1] <;> decide) (by rw [c1] <;> rfl) (by decide) ?_
    refine wp_aload_n (M := mX10_tried) (pc := 96) dX10_tried_96 rfl rfl ?_
    refine xs_getr (M := mX10_tried) (pc := 97) (r := 32) dX10_tried_97 fX10_58 sh0 rfl (gr0_6 sw) ?_
    refine xs_geti (M := mX10_tried) (pc := 100) dX10_tried_100 fX10_148 sh32 rfl ?_
    exact xs_iret (M := mX10_tried) (pc := 103) dX10_tried_103 rfl (p1 c1)
  by_cases c2 : x2 = 1
  · refine wp_tableIn (M := mX10_tried) (pc := 62) (t := 104) (off := 42) dX10_tried_62 (by rw [c2] <;> decide) (by rw [c2] <;> decide) (by rw [c2] <;> rfl) (by decide) ?_
    refine wp_aload_n (M := mX10_tried) (pc := 104) dX10_tried_104 rfl rfl ?_
    refine xs_getr (M := mX10_tried) (pc := 105) (r := 32) dX10_tried_105 fX10_58 sh0 rfl (gr0_6 sw) ?_
    refine xs_geti (M := mX10_tried) (pc := 108) dX10_tried_108 fX10_157 sh32 rfl ?_
    exact xs_iret (M := mX10_tried) (pc := 111) dX10_tried_111 rfl (p2 c2)
  by_cases c3 : x2 = 2
  · refine wp_tableIn (M := mX10_tried) (pc := 62) (t := 112) (off := 50) dX10_tried_62 (by rw [c3] <;> decide) (by rw [c3] <;> decide) (by rw [c3] <;> rfl) (by decide) ?_
    refine wp_aload_n (M := mX10_tried) (pc := 112) dX10_tried_112 rfl rfl ?_
    refine xs_getr (M := mX10_tried) (pc := 113) (r := 43) dX10_tried_113 fX10_65 sh0 rfl (gr0_7 sw) ?_
    refine xs_geti (M := mX10_tried) (pc := 116) dX10_tried_116 fX10_96 sh43 rfl ?_
    refine wp_aload_n (M := mX10_tried) (pc := 119) dX10_tried_119 rfl rfl ?_
    refine xs_getr (M := mX10_tried) (pc := 120) (r := 69) dX10_tried_120 fX10_72 sh0 rfl (gr0_9 sw) ?_
    refine xs_geti (M := mX10_tried) (pc := 123) dX10_tried_123 fX10_96 sh69 rfl ?_
    refine wp_isub (M := mX10_tried) (pc := 126) dX10_tried_126 ?_
    exact xs_iret (M := mX10_tried) (pc := 127) dX10_tried_127 rfl (p3 c3)
  by_cases c4 : x2 = 3
  · refine wp_tableIn (M := mX10_tried) (pc := 62) (t := 128) (off := 66) dX10_tried_62 (by rw [c4] <;> decide) (by rw [c4] <;> decide) (by rw [c4] <;> rfl) (by decide) ?_
    refine wp_aload_n (M := mX10_tried) (pc := 128) dX10_tried_128 rfl rfl ?_
    refine xs_getr (M := mX10_tried) (pc := 129) (r := 32) dX10_tried_129 fX10_58 sh0 rfl (gr0_6 sw) ?_
    refine xs_geti (M := mX10_tried) (pc := 132) dX10_tried_132 fX10_160 sh32 rfl ?_
    exact xs_iret (M := mX10_tried) (pc := 135) dX10_tried_135 rfl (p4 c4)
  by_cases c5 : x2 = 4
  · refine wp_tableIn (M := mX10_tried) (pc := 62) (t := 136) (off := 74) dX10_tried_62 (by rw [c5] <;> decide) (by rw [c5] <;> decide) (by rw [c5] <;> rfl) (by decide) ?_
    refine wp_aload_n (M := mX10_tried) (pc := 136) dX10_tried_136 rfl rfl ?_
    refine xs_getr (M := mX10_tried) (pc := 137) (r := 69) dX10_tried_137 fX10_72 sh0 rfl (gr0_9 sw) ?_
    refine xs_callV (d := d + 6) (M := mX10_tried) (pc := 140) (As := []) (st := []) (c := 9) (ls' := [.ref 69]) dX10_tried_140 oX9_calls nX9_calls lX10_163 vX9_calls sX9_calls rfl sh69 (Nat.le_of_ble_eq_true rfl) rfl (Nat.le_of_ble_eq_true rfl) rfl ?_
    exact p5 c5
  refine wp_tableOut (M := mX10_tried) (pc := 62) (t := 144) dX10_tried_62 (tbl_out (fun q h1 h2 z => by
      have hq : q = 0 ∨ q = 1 ∨ q = 2 ∨ q = 3 ∨ q = 4 := by omega
      rcases hq with rfl | rfl | rfl | rfl | rfl
      · exact c1 (Int32.toInt_inj.mp (by rw [z]; rfl))
      · exact c2 (Int32.toInt_inj.mp (by rw [z]; rfl))
      · exact c3 (Int32.toInt_inj.mp (by rw [z]; rfl))
      · exact c4 (Int32.toInt_inj.mp (by rw [z]; rfl))
      · exact c5 (Int32.toInt_inj.mp (by rw [z]; rfl))
      )) (by decide) ?_
  refine wp_aload_n (M := mX10_tried) (pc := 144) dX10_tried_144 rfl rfl ?_
  refine xs_getr (M := mX10_tried) (pc := 145) (r := 69) dX10_tried_145 fX10_72 sh0 rfl (gr0_9 sw) ?_
  refine wp_iload_n (M := mX10_tried) (pc := 148) dX10_tried_148 rfl rfl ?_
  refine wp_bipush (M := mX10_tried) (pc := 149) dX10_tried_149 k_bipush_100 ?_
  refine wp_isub (M := mX10_tried) (pc := 151) dX10_tried_151 ?_
  refine xs_callV (d := d + 6) (M := mX10_tried) (pc := 152) (As := [.int (x2 - 100)]) (st := []) (c := 9) (ls' := [.ref 69, .int (x2 - 100)]) dX10_tried_152 oX9_arrearsOf nX9_arrearsOf lX10_166 vX9_arrearsOf sX9_arrearsOf rfl sh69 (Nat.le_of_ble_eq_true rfl) rfl (Nat.le_of_ble_eq_true rfl) rfl ?_
  exact p6 c1 c2 c3 c4 c5
theorem bX10_tried_143 {G : GC} {d : Nat} {sw : Bool} {f : FF} {Q : QQ} {x1 : Int32} {x2 : Int32} {x3 : Int32} {s0 : Int32} (p1 : Q (some (.int s0)) sw f) : XP G mX10_tried (d + 7) 143 [.ref 0, .int x1, .int x2, .int x3] [.int s0] sw f Q := by
  exact xs_iret (M := mX10_tried) (pc := 143) dX10_tried_143 rfl (p1)
theorem bX10_tried_155 {G : GC} {d : Nat} {sw : Bool} {f : FF} {Q : QQ} {x1 : Int32} {x2 : Int32} {x3 : Int32} {s0 : Int32} (p1 : Q (some (.int s0)) sw f) : XP G mX10_tried (d + 7) 155 [.ref 0, .int x1, .int x2, .int x3] [.int s0] sw f Q := by
  exact xs_iret (M := mX10_tried) (pc := 155) dX10_tried_155 rfl (p1)
theorem bX10_subscriberIs_0 {G : GC} {d : Nat} {sw : Bool} {f : FF} {Q : QQ} {x1 : Int32} {x2 : Int32} (p1 : ((0 ≤ x1 ∧ x1 ≤ 15) ∧ bitI (f 43 0) x1) → (x2 = 0) → vp_in x1 16) (p2 : ((0 ≤ x1 ∧ x1 ≤ 15) ∧ bitI (f 43 0) x1) → (x2 = 0) → Q (some (.int (f 44 x1.toNatClampNeg))) sw f) (p3 : ((0 ≤ x1 ∧ x1 ≤ 15) ∧ bitI (f 43 0) x1) → (x2 = 1) → (¬ ((f 43 1) &&& ((1 : Int32) <<< (x1 &&& 31))) = 0) → Q (some (.int 0)) sw f) (p4 : ((0 ≤ x1 ∧ x1 ≤ 15) ∧ bitI (f 43 0) x1) → (x2 = 1) → (((f 43 1) &&& ((1 : Int32) <<< (x1 &&& 31))) = 0) → Q (some (.int 1)) sw f) (p5 : ((0 ≤ x1 ∧ x1 ≤ 15) ∧ bitI (f 43 0) x1) → (x2 = 2) → (¬ ((f 43 2) &&& ((1 : Int32) <<< (x1 &&& 31))) = 0) → Q (some (.int 0)) sw f) (p6 : ((0 ≤ x1 ∧ x1 ≤ 15) ∧ bitI (f 43 0) x1) → (x2 = 2) → (((f 43 2) &&& ((1 : Int32) <<< (x1 &&& 31))) = 0) → Q (some (.int 1)) sw f) (p7 : ((0 ≤ x1 ∧ x1 ≤ 15) ∧ bitI (f 43 0) x1) → (x2 = 3) → (¬ ((f 43 3) &&& ((1 : Int32) <<< (x1 &&& 31))) = 0) → Q (some (.int 1)) sw f) (p8 : ((0 ≤ x1 ∧ x1 ≤ 15) ∧ bitI (f 43 0) x1) → (x2 = 3) → (((f 43 3) &&& ((1 : Int32) <<< (x1 &&& 31))) = 0) → Q (some (.int 0)) sw f) (p9 : ((0 ≤ x1 ∧ x1 ≤ 15) ∧ bitI (f 43 0) x1) → (x2 = 4) → vp_in x1 16) (p10 : ((0 ≤ x1 ∧ x1 ≤ 15) ∧ bitI (f 43 0) x1) → (x2 = 4) → Q (some (.int (f 45 x1.toNatClampNeg))) sw f) (p11 : ((0 ≤ x1 ∧ x1 ≤ 15) ∧ bitI (f 43 0) x1) → (x2 = 5) → XP G mX9_partnerOf (d + 1) 0 [.ref 43, .int x1, .null] [] sw f (fun v sw' f' => XP G mX10_subscriberIs (d + 2) 146 [.ref 0, .int x1, .int x2, .int ((1 : Int32) <<< (x1 &&& 31))] (retst v []) sw' f' Q)) (p12 : ((0 ≤ x1 ∧ x1 ≤ 15) ∧ bitI (f 43 0) x1) → (x2 = 6) → vp_in x1 16) (p13 : ((0 ≤ x1 ∧ x1 ≤ 15) ∧ bitI (f 43 0) x1) → (x2 = 6) → Q (some (.int (f 46 x1.toNatClampNeg))) sw f) (p14 : ((0 ≤ x1 ∧ x1 ≤ 15) ∧ bitI (f 43 0) x1) → (x2 = 7) → vp_in x1 16) (p15 : ((0 ≤ x1 ∧ x1 ≤ 15) ∧ bitI (f 43 0) x1) → (x2 = 7) → Q (some (.int (f 47 x1.toNatClampNeg))) sw f) (p16 : ((0 ≤ x1 ∧ x1 ≤ 15) ∧ bitI (f 43 0) x1) → (¬ x2 = 0) → (¬ x2 = 1) → (¬ x2 = 2) → (¬ x2 = 3) → (¬ x2 = 4) → (¬ x2 = 5) → (¬ x2 = 6) → (¬ x2 = 7) → Q (some (.int (-1))) sw f) (p17 : (¬ ((0 ≤ x1 ∧ x1 ≤ 15) ∧ bitI (f 43 0) x1)) → Q (some (.int (-1))) sw f) : XP G mX10_subscriberIs (d + 2) 0 [.ref 0, .int x1, .int x2, .null] [] sw f Q := by
  refine wp_aload_n (M := mX10_subscriberIs) (pc := 0) dX10_subscriberIs_0 rfl rfl ?_
  refine xs_getr (M := mX10_subscriberIs) (pc := 1) (r := 43) dX10_subscriberIs_1 fX10_65 sh0 rfl (gr0_7 sw) ?_
  refine wp_iload_n (M := mX10_subscriberIs) (pc := 4) dX10_subscriberIs_4 rfl rfl ?_
  refine xs_callV (d := d + 1) (M := mX10_subscriberIs) (pc := 5) (As := [.int x1]) (st := []) (c := 9) (ls' := [.ref 43, .int x1]) dX10_subscriberIs_5 oX9_isTold nX9_isTold lX10_151 vX9_isTold sX9_isTold rfl sh43 (Nat.le_of_ble_eq_true rfl) rfl (Nat.le_of_ble_eq_true rfl) rfl ?_
  refine sp_X9_isTold isW_43  ?_
  refine xs_ifb_ne (M := mX10_subscriberIs) (pc := 8) (t := 13) dX10_subscriberIs_8 (by decide) (fun c1 => ?_) (fun c1 => ?_)
  · refine wp_iconst (M := mX10_subscriberIs) (pc := 13) dX10_subscriberIs_13 k_iconst_1 ?_
    refine wp_iload_n (M := mX10_subscriberIs) (pc := 14) dX10_subscriberIs_14 rfl rfl ?_
    refine wp_ishl (M := mX10_subscriberIs) (pc := 15) dX10_subscriberIs_15 ?_
    refine wp_istore_n (M := mX10_subscriberIs) (pc := 16) (ls' := [.ref 0, .int x1, .int x2, .int ((1 : Int32) <<< (x1 &&& 31))]) dX10_subscriberIs_16 rfl (by decide) rfl ?_
    refine wp_iload_n (M := mX10_subscriberIs) (pc := 17) dX10_subscriberIs_17 rfl rfl ?_
    by_cases c2 : x2 = 0
    · refine wp_tableIn (M := mX10_subscriberIs) (pc := 18) (t := 64) (off := 46) dX10_subscriberIs_18 (by rw [c2] <;> decide) (by rw [c2] <;> decide) (by rw [c2] <;> rfl) (by decide) ?_
      refine wp_aload_n (M := mX10_subscriberIs) (pc := 64) dX10_subscriberIs_64 rfl rfl ?_
      refine xs_getr (M := mX10_subscriberIs) (pc := 65) (r := 43) dX10_subscriberIs_65 fX10_65 sh0 rfl (gr0_7 sw) ?_
      refine xs_getr (M := mX10_subscriberIs) (pc := 68) (r := 44) dX10_subscriberIs_68 fX10_169 sh43 rfl (gr43_8 sw) ?_
      refine wp_iload_n (M := mX10_subscriberIs) (pc := 71) dX10_subscriberIs_71 rfl rfl ?_
      refine xs_iald (M := mX10_subscriberIs) (pc := 72) (j := x1.toNatClampNeg) dX10_subscriberIs_72 sh44 (p1 c1 c2) rfl ?_
      exact xs_iret (M := mX10_subscriberIs) (pc := 73) dX10_subscriberIs_73 rfl (p2 c1 c2)
    by_cases c3 : x2 = 1
    · refine wp_tableIn (M := mX10_subscriberIs) (pc := 18) (t := 74) (off := 56) dX10_subscriberIs_18 (by rw [c3] <;> decide) (by rw [c3] <;> decide) (by rw [c3] <;> rfl) (by decide) ?_
      refine wp_aload_n (M := mX10_subscriberIs) (pc := 74) dX10_subscriberIs_74 rfl rfl ?_
      refine xs_getr (M := mX10_subscriberIs) (pc := 75) (r := 43) dX10_subscriberIs_75 fX10_65 sh0 rfl (gr0_7 sw) ?_
      refine xs_geti (M := mX10_subscriberIs) (pc := 78) dX10_subscriberIs_78 fX10_173 sh43 rfl ?_
      refine wp_iload_n (M := mX10_subscriberIs) (pc := 81) dX10_subscriberIs_81 rfl rfl ?_
      refine wp_iand (M := mX10_subscriberIs) (pc := 82) dX10_subscriberIs_82 ?_
      refine wp_if_ne (M := mX10_subscriberIs) (pc := 83) (t := 90) dX10_subscriberIs_83 (by decide) (fun c4 => ?_) (fun c4 => ?_)
      · refine wp_iconst (M := mX10_subscriberIs) (pc := 90) dX10_subscriberIs_90 k_iconst_0 ?_
        exact xs_iret (M := mX10_subscriberIs) (pc := 91) dX10_subscriberIs_91 rfl (p3 c1 c3 c4)
      · refine wp_iconst (M := mX10_subscriberIs) (pc := 86) dX10_subscriberIs_86 k_iconst_1 ?_
        refine wp_goto (M := mX10_subscriberIs) (pc := 87) (t := 91) dX10_subscriberIs_87 (by decide) ?_
        exact xs_iret (M := mX10_subscriberIs) (pc := 91) dX10_subscriberIs_91 rfl (p4 c1 c3 c4)
    by_cases c5 : x2 = 2
    · refine wp_tableIn (M := mX10_subscriberIs) (pc := 18) (t := 92) (off := 74) dX10_subscriberIs_18 (by rw [c5] <;> decide) (by rw [c5] <;> decide) (by rw [c5] <;> rfl) (by decide) ?_
      refine wp_aload_n (M := mX10_subscriberIs) (pc := 92) dX10_subscriberIs_92 rfl rfl ?_
      refine xs_getr (M := mX10_subscriberIs) (pc := 93) (r := 43) dX10_subscriberIs_93 fX10_65 sh0 rfl (gr0_7 sw) ?_
      refine xs_geti (M := mX10_subscriberIs) (pc := 96) dX10_subscriberIs_96 fX10_176 sh43 rfl ?_
      refine wp_iload_n (M := mX10_subscriberIs) (pc := 99) dX10_subscriberIs_99 rfl rfl ?_
      refine wp_iand (M := mX10_subscriberIs) (pc := 100) dX10_subscriberIs_100 ?_
      refine wp_if_ne (M := mX10_subscriberIs) (pc := 101) (t := 108) dX10_subscriberIs_101 (by decide) (fun c6 => ?_) (fun c6 => ?_)
      · refine wp_iconst (M := mX10_subscriberIs) (pc := 108) dX10_subscriberIs_108 k_iconst_0 ?_
        exact xs_iret (M := mX10_subscriberIs) (pc := 109) dX10_subscriberIs_109 rfl (p5 c1 c5 c6)
      · refine wp_iconst (M := mX10_subscriberIs) (pc := 104) dX10_subscriberIs_104 k_iconst_1 ?_
        refine wp_goto (M := mX10_subscriberIs) (pc := 105) (t := 109) dX10_subscriberIs_105 (by decide) ?_
        exact xs_iret (M := mX10_subscriberIs) (pc := 109) dX10_subscriberIs_109 rfl (p6 c1 c5 c6)
    by_cases c7 : x2 = 3
    · refine wp_tableIn (M := mX10_subscriberIs) (pc := 18) (t := 110) (off := 92) dX10_subscriberIs_18 (by rw [c7] <;> decide) (by rw [c7] <;> decide) (by rw [c7] <;> rfl) (by decide) ?_
      refine wp_aload_n (M := mX10_subscriberIs) (pc := 110) dX10_subscriberIs_110 rfl rfl ?_
      refine xs_getr (M := mX10_subscriberIs) (pc := 111) (r := 43) dX10_subscriberIs_111 fX10_65 sh0 rfl (gr0_7 sw) ?_
      refine xs_geti (M := mX10_subscriberIs) (pc := 114) dX10_subscriberIs_114 fX10_179 sh43 rfl ?_
      refine wp_iload_n (M := mX10_subscriberIs) (pc := 117) dX10_subscriberIs_117 rfl rfl ?_
      refine wp_iand (M := mX10_subscriberIs) (pc := 118) dX10_subscriberIs_118 ?_
      refine wp_if_ne (M := mX10_subscriberIs) (pc := 119) (t := 126) dX10_subscriberIs_119 (by decide) (fun c8 => ?_) (fun c8 => ?_)
      · refine wp_iconst (M := mX10_subscriberIs) (pc := 126) dX10_subscriberIs_126 k_iconst_1 ?_
        exact xs_iret (M := mX10_subscriberIs) (pc := 127) dX10_subscriberIs_127 rfl (p7 c1 c7 c8)
      · refine wp_iconst (M := mX10_subscriberIs) (pc := 122) dX10_subscriberIs_122 k_iconst_0 ?_
        refine wp_goto (M := mX10_subscriberIs) (pc := 123) (t := 127) dX10_subscriberIs_123 (by decide) ?_
        exact xs_iret (M := mX10_subscriberIs) (pc := 127) dX10_subscriberIs_127 rfl (p8 c1 c7 c8)
    by_cases c9 : x2 = 4
    · refine wp_tableIn (M := mX10_subscriberIs) (pc := 18) (t := 128) (off := 110) dX10_subscriberIs_18 (by rw [c9] <;> decide) (by rw [c9] <;> decide) (by rw [c9] <;> rfl) (by decide) ?_
      refine wp_aload_n (M := mX10_subscriberIs) (pc := 128) dX10_subscriberIs_128 rfl rfl ?_
      refine xs_getr (M := mX10_subscriberIs) (pc := 129) (r := 43) dX10_subscriberIs_129 fX10_65 sh0 rfl (gr0_7 sw) ?_
      refine xs_getr (M := mX10_subscriberIs) (pc := 132) (r := 45) dX10_subscriberIs_132 fX10_182 sh43 rfl (gr43_9 sw) ?_
      refine wp_iload_n (M := mX10_subscriberIs) (pc := 135) dX10_subscriberIs_135 rfl rfl ?_
      refine xs_iald (M := mX10_subscriberIs) (pc := 136) (j := x1.toNatClampNeg) dX10_subscriberIs_136 sh45 (p9 c1 c9) rfl ?_
      exact xs_iret (M := mX10_subscriberIs) (pc := 137) dX10_subscriberIs_137 rfl (p10 c1 c9)
    by_cases c10 : x2 = 5
    · refine wp_tableIn (M := mX10_subscriberIs) (pc := 18) (t := 138) (off := 120) dX10_subscriberIs_18 (by rw [c10] <;> decide) (by rw [c10] <;> decide) (by rw [c10] <;> rfl) (by decide) ?_
      refine wp_aload_n (M := mX10_subscriberIs) (pc := 138) dX10_subscriberIs_138 rfl rfl ?_
      refine xs_getr (M := mX10_subscriberIs) (pc := 139) (r := 43) dX10_subscriberIs_139 fX10_65 sh0 rfl (gr0_7 sw) ?_
      refine wp_iload_n (M := mX10_subscriberIs) (pc := 142) dX10_subscriberIs_142 rfl rfl ?_
      refine xs_callV (d := d + 1) (M := mX10_subscriberIs) (pc := 143) (As := [.int x1]) (st := []) (c := 9) (ls' := [.ref 43, .int x1, .null]) dX10_subscriberIs_143 oX9_partnerOf nX9_partnerOf lX10_185 vX9_partnerOf sX9_partnerOf rfl sh43 (Nat.le_of_ble_eq_true rfl) rfl (Nat.le_of_ble_eq_true rfl) rfl ?_
      exact p11 c1 c10
    by_cases c11 : x2 = 6
    · refine wp_tableIn (M := mX10_subscriberIs) (pc := 18) (t := 147) (off := 129) dX10_subscriberIs_18 (by rw [c11] <;> decide) (by rw [c11] <;> decide) (by rw [c11] <;> rfl) (by decide) ?_
      refine wp_aload_n (M := mX10_subscriberIs) (pc := 147) dX10_subscriberIs_147 rfl rfl ?_
      refine xs_getr (M := mX10_subscriberIs) (pc := 148) (r := 43) dX10_subscriberIs_148 fX10_65 sh0 rfl (gr0_7 sw) ?_
      refine xs_getr (M := mX10_subscriberIs) (pc := 151) (r := 46) dX10_subscriberIs_151 fX10_188 sh43 rfl (gr43_10 sw) ?_
      refine wp_iload_n (M := mX10_subscriberIs) (pc := 154) dX10_subscriberIs_154 rfl rfl ?_
      refine xs_iald (M := mX10_subscriberIs) (pc := 155) (j := x1.toNatClampNeg) dX10_subscriberIs_155 sh46 (p12 c1 c11) rfl ?_
      exact xs_iret (M := mX10_subscriberIs) (pc := 156) dX10_subscriberIs_156 rfl (p13 c1 c11)
    by_cases c12 : x2 = 7
    · refine wp_tableIn (M := mX10_subscriberIs) (pc := 18) (t := 157) (off := 139) dX10_subscriberIs_18 (by rw [c12] <;> decide) (by rw [c12] <;> decide) (by rw [c12] <;> rfl) (by decide) ?_
      refine wp_aload_n (M := mX10_subscriberIs) (pc := 157) dX10_subscriberIs_157 rfl rfl ?_
      refine xs_getr (M := mX10_subscriberIs) (pc := 158) (r := 43) dX10_subscriberIs_158 fX10_65 sh0 rfl (gr0_7 sw) ?_
      refine xs_getr (M := mX10_subscriberIs) (pc := 161) (r := 47) dX10_subscriberIs_161 fX10_191 sh43 rfl (gr43_11 sw) ?_
      refine wp_iload_n (M := mX10_subscriberIs) (pc := 164) dX10_subscriberIs_164 rfl rfl ?_
      refine xs_iald (M := mX10_subscriberIs) (pc := 165) (j := x1.toNatClampNeg) dX10_subscriberIs_165 sh47 (p14 c1 c12) rfl ?_
      exact xs_iret (M := mX10_subscriberIs) (pc := 166) dX10_subscriberIs_166 rfl (p15 c1 c12)
    refine wp_tableOut (M := mX10_subscriberIs) (pc := 18) (t := 167) dX10_subscriberIs_18 (tbl_out (fun q h1 h2 z => by
        have hq : q = 0 ∨ q = 1 ∨ q = 2 ∨ q = 3 ∨ q = 4 ∨ q = 5 ∨ q = 6 ∨ q = 7 := by omega
        rcases hq with rfl | rfl | rfl | rfl | rfl | rfl | rfl | rfl
        · exact c2 (Int32.toInt_inj.mp (by rw [z]; rfl))
        · exact c3 (Int32.toInt_inj.mp (by rw [z]; rfl))
        · exact c5 (Int32.toInt_inj.mp (by rw [z]; rfl))
        · exact c7 (Int32.toInt_inj.mp (by rw [z]; rfl))
        · exact c9 (Int32.toInt_inj.mp (by rw [z]; rfl))
        · exact c10 (Int32.toInt_inj.mp (by rw [z]; rfl))
        · exact c11 (Int32.toInt_inj.mp (by rw [z]; rfl))
        · exact c12 (Int32.toInt_inj.mp (by rw [z]; rfl))
        )) (by decide) ?_
    refine wp_iconst (M := mX10_subscriberIs) (pc := 167) dX10_subscriberIs_167 k_iconst_m1 ?_
    exact xs_iret (M := mX10_subscriberIs) (pc := 168) dX10_subscriberIs_168 rfl (p16 c1 c2 c3 c5 c7 c9 c10 c11 c12)
  · refine wp_iconst (M := mX10_subscriberIs) (pc := 11) dX10_subscriberIs_11 k_iconst_m1 ?_
    exact xs_iret (M := mX10_subscriberIs) (pc := 12) dX10_subscriberIs_12 rfl (p17 c1)
theorem bX10_subscriberIs_146 {G : GC} {d : Nat} {sw : Bool} {f : FF} {Q : QQ} {x1 : Int32} {x2 : Int32} {x3 : Int32} {s0 : Int32} (p1 : Q (some (.int s0)) sw f) : XP G mX10_subscriberIs (d + 2) 146 [.ref 0, .int x1, .int x2, .int x3] [.int s0] sw f Q := by
  exact xs_iret (M := mX10_subscriberIs) (pc := 146) dX10_subscriberIs_146 rfl (p1)
theorem bX10_callIs_0 {G : GC} {d : Nat} {sw : Bool} {f : FF} {Q : QQ} {x1 : Int32} {x2 : Int32} (p1 : (¬ (0 ≤ x1 ∧ x1 ≤ 19)) → Q (some (.int (-1))) sw f) (p2 : (0 ≤ x1 ∧ x1 ≤ 19) → (0 ≤ x2 ∧ x2 ≤ 4) → vp_in x1 20) (p3 : (0 ≤ x1 ∧ x1 ≤ 19) → (0 ≤ x2 ∧ x2 ≤ 4) → (¬ (f 52 x1.toNatClampNeg) = 0) → (x2 = 0) → vp_in x1 20) (p4 : (0 ≤ x1 ∧ x1 ≤ 19) → (0 ≤ x2 ∧ x2 ≤ 4) → (¬ (f 52 x1.toNatClampNeg) = 0) → (x2 = 0) → Q (some (.int (f 49 x1.toNatClampNeg))) sw f) (p5 : (0 ≤ x1 ∧ x1 ≤ 19) → (0 ≤ x2 ∧ x2 ≤ 4) → (¬ (f 52 x1.toNatClampNeg) = 0) → (x2 = 1) → vp_in x1 20) (p6 : (0 ≤ x1 ∧ x1 ≤ 19) → (0 ≤ x2 ∧ x2 ≤ 4) → (¬ (f 52 x1.toNatClampNeg) = 0) → (x2 = 1) → Q (some (.int (f 50 x1.toNatClampNeg))) sw f) (p7 : (0 ≤ x1 ∧ x1 ≤ 19) → (0 ≤ x2 ∧ x2 ≤ 4) → (¬ (f 52 x1.toNatClampNeg) = 0) → (x2 = 2) → vp_in x1 20) (p8 : (0 ≤ x1 ∧ x1 ≤ 19) → (0 ≤ x2 ∧ x2 ≤ 4) → (¬ (f 52 x1.toNatClampNeg) = 0) → (x2 = 2) → Q (some (.int (f 51 x1.toNatClampNeg))) sw f) (p9 : (0 ≤ x1 ∧ x1 ≤ 19) → (0 ≤ x2 ∧ x2 ≤ 4) → (¬ (f 52 x1.toNatClampNeg) = 0) → (x2 = 3) → vp_in x1 20) (p10 : (0 ≤ x1 ∧ x1 ≤ 19) → (0 ≤ x2 ∧ x2 ≤ 4) → (¬ (f 52 x1.toNatClampNeg) = 0) → (x2 = 3) → Q (some (.int (f 52 x1.toNatClampNeg))) sw f) (p11 : (0 ≤ x1 ∧ x1 ≤ 19) → (0 ≤ x2 ∧ x2 ≤ 4) → (¬ (f 52 x1.toNatClampNeg) = 0) → (¬ x2 = 0) → (¬ x2 = 1) → (¬ x2 = 2) → (¬ x2 = 3) → vp_in x1 20) (p12 : (0 ≤ x1 ∧ x1 ≤ 19) → (0 ≤ x2 ∧ x2 ≤ 4) → (¬ (f 52 x1.toNatClampNeg) = 0) → (¬ x2 = 0) → (¬ x2 = 1) → (¬ x2 = 2) → (¬ x2 = 3) → Q (some (.int (f 53 x1.toNatClampNeg))) sw f) (p13 : (0 ≤ x1 ∧ x1 ≤ 19) → (0 ≤ x2 ∧ x2 ≤ 4) → ((f 52 x1.toNatClampNeg) = 0) → Q (some (.int (-2))) sw f) (p14 : (0 ≤ x1 ∧ x1 ≤ 19) → (¬ (0 ≤ x2 ∧ x2 ≤ 4)) → Q (some (.int (-1))) sw f) : XP G mX10_callIs (d + 1) 0 [.ref 0, .int x1, .int x2] [] sw f Q := by
  refine wp_iload_n (M := mX10_callIs) (pc := 0) dX10_callIs_0 rfl rfl ?_
  refine wp_iconst (M := mX10_callIs) (pc := 1) dX10_callIs_1 k_iconst_0 ?_
  refine wp_bipush (M := mX10_callIs) (pc := 2) dX10_callIs_2 k_bipush_19 ?_
  refine xs_callS (d := d) (M := mX10_callIs) (pc := 4) (As := [.int x1, .int 0, .int 19]) (st := []) (ls' := [.int x1, .int 0, .int 19]) dX10_callIs_4 oX10_within nX10_within lX10_79 tX10_within (Nat.le_of_ble_eq_true rfl) rfl (Nat.le_of_ble_eq_true rfl) rfl ?_
  refine sp_X10_within   ?_
  refine xs_ifb_eq (M := mX10_callIs) (pc := 7) (t := 19) dX10_callIs_7 (by decide) (fun c1 => ?_) (fun c1 => ?_)
  · refine wp_iconst (M := mX10_callIs) (pc := 19) dX10_callIs_19 k_iconst_m1 ?_
    exact xs_iret (M := mX10_callIs) (pc := 20) dX10_callIs_20 rfl (p1 c1)
  · refine wp_iload_n (M := mX10_callIs) (pc := 10) dX10_callIs_10 rfl rfl ?_
    refine wp_iconst (M := mX10_callIs) (pc := 11) dX10_callIs_11 k_iconst_0 ?_
    refine wp_iconst (M := mX10_callIs) (pc := 12) dX10_callIs_12 k_iconst_4 ?_
    refine xs_callS (d := d) (M := mX10_callIs) (pc := 13) (As := [.int x2, .int 0, .int 4]) (st := []) (ls' := [.int x2, .int 0, .int 4]) dX10_callIs_13 oX10_within nX10_within lX10_79 tX10_within (Nat.le_of_ble_eq_true rfl) rfl (Nat.le_of_ble_eq_true rfl) rfl ?_
    refine sp_X10_within   ?_
    refine xs_ifb_ne (M := mX10_callIs) (pc := 16) (t := 21) dX10_callIs_16 (by decide) (fun c2 => ?_) (fun c2 => ?_)
    · refine wp_aload_n (M := mX10_callIs) (pc := 21) dX10_callIs_21 rfl rfl ?_
      refine xs_getr (M := mX10_callIs) (pc := 22) (r := 43) dX10_callIs_22 fX10_65 sh0 rfl (gr0_7 sw) ?_
      refine xs_getr (M := mX10_callIs) (pc := 25) (r := 52) dX10_callIs_25 fX10_194 sh43 rfl (gr43_16 sw) ?_
      refine wp_iload_n (M := mX10_callIs) (pc := 28) dX10_callIs_28 rfl rfl ?_
      refine xs_iald (M := mX10_callIs) (pc := 29) (j := x1.toNatClampNeg) dX10_callIs_29 sh52 (p2 c1 c2) rfl ?_
      refine wp_if_ne (M := mX10_callIs) (pc := 30) (t := 36) dX10_callIs_30 (by decide) (fun c3 => ?_) (fun c3 => ?_)
      · refine wp_iload_n (M := mX10_callIs) (pc := 36) dX10_callIs_36 rfl rfl ?_
        by_cases c4 : x2 = 0
        · refine wp_tableIn (M := mX10_callIs) (pc := 37) (t := 68) (off := 31) dX10_callIs_37 (by rw [c4] <;> decide) (by rw [c4] <;> decide) (by rw [c4] <;> rfl) (by decide) ?_
          refine wp_aload_n (M := mX10_callIs) (pc := 68) dX10_callIs_68 rfl rfl ?_
          refine xs_getr (M := mX10_callIs) (pc := 69) (r := 43) dX10_callIs_69 fX10_65 sh0 rfl (gr0_7 sw) ?_
          refine xs_getr (M := mX10_callIs) (pc := 72) (r := 49) dX10_callIs_72 fX10_197 sh43 rfl (gr43_13 sw) ?_
          refine wp_iload_n (M := mX10_callIs) (pc := 75) dX10_callIs_75 rfl rfl ?_
          refine xs_iald (M := mX10_callIs) (pc := 76) (j := x1.toNatClampNeg) dX10_callIs_76 sh49 (p3 c1 c2 c3 c4) rfl ?_
          exact xs_iret (M := mX10_callIs) (pc := 77) dX10_callIs_77 rfl (p4 c1 c2 c3 c4)
        by_cases c5 : x2 = 1
        · refine wp_tableIn (M := mX10_callIs) (pc := 37) (t := 78) (off := 41) dX10_callIs_37 (by rw [c5] <;> decide) (by rw [c5] <;> decide) (by rw [c5] <;> rfl) (by decide) ?_
          refine wp_aload_n (M := mX10_callIs) (pc := 78) dX10_callIs_78 rfl rfl ?_
          refine xs_getr (M := mX10_callIs) (pc := 79) (r := 43) dX10_callIs_79 fX10_65 sh0 rfl (gr0_7 sw) ?_
          refine xs_getr (M := mX10_callIs) (pc := 82) (r := 50) dX10_callIs_82 fX10_200 sh43 rfl (gr43_14 sw) ?_
          refine wp_iload_n (M := mX10_callIs) (pc := 85) dX10_callIs_85 rfl rfl ?_
          refine xs_iald (M := mX10_callIs) (pc := 86) (j := x1.toNatClampNeg) dX10_callIs_86 sh50 (p5 c1 c2 c3 c5) rfl ?_
          exact xs_iret (M := mX10_callIs) (pc := 87) dX10_callIs_87 rfl (p6 c1 c2 c3 c5)
        by_cases c6 : x2 = 2
        · refine wp_tableIn (M := mX10_callIs) (pc := 37) (t := 88) (off := 51) dX10_callIs_37 (by rw [c6] <;> decide) (by rw [c6] <;> decide) (by rw [c6] <;> rfl) (by decide) ?_
          refine wp_aload_n (M := mX10_callIs) (pc := 88) dX10_callIs_88 rfl rfl ?_
          refine xs_getr (M := mX10_callIs) (pc := 89) (r := 43) dX10_callIs_89 fX10_65 sh0 rfl (gr0_7 sw) ?_
          refine xs_getr (M := mX10_callIs) (pc := 92) (r := 51) dX10_callIs_92 fX10_203 sh43 rfl (gr43_15 sw) ?_
          refine wp_iload_n (M := mX10_callIs) (pc := 95) dX10_callIs_95 rfl rfl ?_
          refine xs_iald (M := mX10_callIs) (pc := 96) (j := x1.toNatClampNeg) dX10_callIs_96 sh51 (p7 c1 c2 c3 c6) rfl ?_
          exact xs_iret (M := mX10_callIs) (pc := 97) dX10_callIs_97 rfl (p8 c1 c2 c3 c6)
        by_cases c7 : x2 = 3
        · refine wp_tableIn (M := mX10_callIs) (pc := 37) (t := 98) (off := 61) dX10_callIs_37 (by rw [c7] <;> decide) (by rw [c7] <;> decide) (by rw [c7] <;> rfl) (by decide) ?_
          refine wp_aload_n (M := mX10_callIs) (pc := 98) dX10_callIs_98 rfl rfl ?_
          refine xs_getr (M := mX10_callIs) (pc := 99) (r := 43) dX10_callIs_99 fX10_65 sh0 rfl (gr0_7 sw) ?_
          refine xs_getr (M := mX10_callIs) (pc := 102) (r := 52) dX10_callIs_102 fX10_194 sh43 rfl (gr43_16 sw) ?_
          refine wp_iload_n (M := mX10_callIs) (pc := 105) dX10_callIs_105 rfl rfl ?_
          refine xs_iald (M := mX10_callIs) (pc := 106) (j := x1.toNatClampNeg) dX10_callIs_106 sh52 (p9 c1 c2 c3 c7) rfl ?_
          exact xs_iret (M := mX10_callIs) (pc := 107) dX10_callIs_107 rfl (p10 c1 c2 c3 c7)
        refine wp_tableOut (M := mX10_callIs) (pc := 37) (t := 108) dX10_callIs_37 (tbl_out (fun q h1 h2 z => by
            have hq : q = 0 ∨ q = 1 ∨ q = 2 ∨ q = 3 := by omega
            rcases hq with rfl | rfl | rfl | rfl
            · exact c4 (Int32.toInt_inj.mp (by rw [z]; rfl))
            · exact c5 (Int32.toInt_inj.mp (by rw [z]; rfl))
            · exact c6 (Int32.toInt_inj.mp (by rw [z]; rfl))
            · exact c7 (Int32.toInt_inj.mp (by rw [z]; rfl))
            )) (by decide) ?_
        refine wp_aload_n (M := mX10_callIs) (pc := 108) dX10_callIs_108 rfl rfl ?_
        refine xs_getr (M := mX10_callIs) (pc := 109) (r := 43) dX10_callIs_109 fX10_65 sh0 rfl (gr0_7 sw) ?_
        refine xs_getr (M := mX10_callIs) (pc := 112) (r := 53) dX10_callIs_112 fX10_206 sh43 rfl (gr43_17 sw) ?_
        refine wp_iload_n (M := mX10_callIs) (pc := 115) dX10_callIs_115 rfl rfl ?_
        refine xs_iald (M := mX10_callIs) (pc := 116) (j := x1.toNatClampNeg) dX10_callIs_116 sh53 (p11 c1 c2 c3 c4 c5 c6 c7) rfl ?_
        exact xs_iret (M := mX10_callIs) (pc := 117) dX10_callIs_117 rfl (p12 c1 c2 c3 c4 c5 c6 c7)
      · refine wp_bipush (M := mX10_callIs) (pc := 33) dX10_callIs_33 k_bipush_m2 ?_
        exact xs_iret (M := mX10_callIs) (pc := 35) dX10_callIs_35 rfl (p13 c1 c2 c3)
    · refine wp_iconst (M := mX10_callIs) (pc := 19) dX10_callIs_19 k_iconst_m1 ?_
      exact xs_iret (M := mX10_callIs) (pc := 20) dX10_callIs_20 rfl (p14 c1 c2)
theorem bX10_circuits_0 {G : GC} {d : Nat} {sw : Bool} {f : FF} {Q : QQ} {x1 : Int32} {x2 : Int32} {x3 : Int32} (p1 : (¬ (twoE x1 x2)) → Q (some (.int (-1))) sw f) (p2 : (twoE x1 x2) → (0 ≤ x3 ∧ x3 ≤ 1) → vp_in ((x1 * 8) + x2) 64) (p3 : (twoE x1 x2) → (0 ≤ x3 ∧ x3 ≤ 1) → (¬ x3 = 0) → vp_in ((x1 * 8) + x2) 64) (p4 : (twoE x1 x2) → (0 ≤ x3 ∧ x3 ≤ 1) → (¬ x3 = 0) → Q (some (.int (if 0 < ((f 4 (((x1 * 8) + x2).toNatClampNeg)) - (f 55 (((x1 * 8) + x2).toNatClampNeg))) then ((f 4 (((x1 * 8) + x2).toNatClampNeg)) - (f 55 (((x1 * 8) + x2).toNatClampNeg))) else 0))) sw f) (p5 : (twoE x1 x2) → (0 ≤ x3 ∧ x3 ≤ 1) → (x3 = 0) → Q (some (.int (f 4 (((x1 * 8) + x2).toNatClampNeg)))) sw f) (p6 : (twoE x1 x2) → (¬ (0 ≤ x3 ∧ x3 ≤ 1)) → Q (some (.int (-1))) sw f) : XP G mX10_circuits (d + 3) 0 [.ref 0, .int x1, .int x2, .int x3, .null] [] sw f Q := by
  refine wp_iload_n (M := mX10_circuits) (pc := 0) dX10_circuits_0 rfl rfl ?_
  refine wp_iload_n (M := mX10_circuits) (pc := 1) dX10_circuits_1 rfl rfl ?_
  refine xs_callS (d := d + 2) (M := mX10_circuits) (pc := 2) (As := [.int x1, .int x2]) (st := []) (ls' := [.int x1, .int x2]) dX10_circuits_2 oX10_areTwo nX10_areTwo lX10_75 tX10_areTwo (Nat.le_of_ble_eq_true rfl) rfl (Nat.le_of_ble_eq_true rfl) rfl ?_
  refine sp_X10_areTwo   ?_
  refine xs_ifb_eq (M := mX10_circuits) (pc := 5) (t := 17) dX10_circuits_5 (by decide) (fun c1 => ?_) (fun c1 => ?_)
  · refine wp_iconst (M := mX10_circuits) (pc := 17) dX10_circuits_17 k_iconst_m1 ?_
    exact xs_iret (M := mX10_circuits) (pc := 18) dX10_circuits_18 rfl (p1 c1)
  · refine wp_iload_n (M := mX10_circuits) (pc := 8) dX10_circuits_8 rfl rfl ?_
    refine wp_iconst (M := mX10_circuits) (pc := 9) dX10_circuits_9 k_iconst_0 ?_
    refine wp_iconst (M := mX10_circuits) (pc := 10) dX10_circuits_10 k_iconst_1 ?_
    refine xs_callS (d := d + 2) (M := mX10_circuits) (pc := 11) (As := [.int x3, .int 0, .int 1]) (st := []) (ls' := [.int x3, .int 0, .int 1]) dX10_circuits_11 oX10_within nX10_within lX10_79 tX10_within (Nat.le_of_ble_eq_true rfl) rfl (Nat.le_of_ble_eq_true rfl) rfl ?_
    refine sp_X10_within   ?_
    refine xs_ifb_ne (M := mX10_circuits) (pc := 14) (t := 19) dX10_circuits_14 (by decide) (fun c2 => ?_) (fun c2 => ?_)
    · refine wp_aload_n (M := mX10_circuits) (pc := 19) dX10_circuits_19 rfl rfl ?_
      refine xs_getr (M := mX10_circuits) (pc := 20) (r := 3) dX10_circuits_20 fX10_19 sh0 rfl (gr0_1 sw) ?_
      refine xs_getr (M := mX10_circuits) (pc := 23) (r := 4) dX10_circuits_23 fX10_209 sh3 rfl (gr3_0 sw) ?_
      refine wp_iload_n (M := mX10_circuits) (pc := 26) dX10_circuits_26 rfl rfl ?_
      refine wp_bipush (M := mX10_circuits) (pc := 27) dX10_circuits_27 k_bipush_8 ?_
      refine wp_imul (M := mX10_circuits) (pc := 29) dX10_circuits_29 ?_
      refine wp_iload_n (M := mX10_circuits) (pc := 30) dX10_circuits_30 rfl rfl ?_
      refine wp_iadd (M := mX10_circuits) (pc := 31) dX10_circuits_31 ?_
      refine xs_iald (M := mX10_circuits) (pc := 32) (j := ((x1 * 8) + x2).toNatClampNeg) dX10_circuits_32 sh4 (p2 c1 c2) rfl ?_
      refine wp_istore (M := mX10_circuits) (pc := 33) (ls' := [.ref 0, .int x1, .int x2, .int x3, .int (f 4 (((x1 * 8) + x2).toNatClampNeg))]) dX10_circuits_33 (by decide) rfl ?_
      refine wp_iload_n (M := mX10_circuits) (pc := 35) dX10_circuits_35 rfl rfl ?_
      refine wp_if_ne (M := mX10_circuits) (pc := 36) (t := 44) dX10_circuits_36 (by decide) (fun c3 => ?_) (fun c3 => ?_)
      · refine wp_iconst (M := mX10_circuits) (pc := 44) dX10_circuits_44 k_iconst_0 ?_
        refine wp_iload (M := mX10_circuits) (pc := 45) dX10_circuits_45 rfl ?_
        refine wp_aload_n (M := mX10_circuits) (pc := 47) dX10_circuits_47 rfl rfl ?_
        refine xs_getr (M := mX10_circuits) (pc := 48) (r := 43) dX10_circuits_48 fX10_65 sh0 rfl (gr0_7 sw) ?_
        refine xs_getr (M := mX10_circuits) (pc := 51) (r := 55) dX10_circuits_51 fX10_212 sh43 rfl (gr43_19 sw) ?_
        refine wp_iload_n (M := mX10_circuits) (pc := 54) dX10_circuits_54 rfl rfl ?_
        refine wp_bipush (M := mX10_circuits) (pc := 55) dX10_circuits_55 k_bipush_8 ?_
        refine wp_imul (M := mX10_circuits) (pc := 57) dX10_circuits_57 ?_
        refine wp_iload_n (M := mX10_circuits) (pc := 58) dX10_circuits_58 rfl rfl ?_
        refine wp_iadd (M := mX10_circuits) (pc := 59) dX10_circuits_59 ?_
        refine xs_iald (M := mX10_circuits) (pc := 60) (j := ((x1 * 8) + x2).toNatClampNeg) dX10_circuits_60 sh55 (p3 c1 c2 c3) rfl ?_
        refine wp_isub (M := mX10_circuits) (pc := 61) dX10_circuits_61 ?_
        refine xs_mmax (M := mX10_circuits) (pc := 62) dX10_circuits_62 lX10_215 (Nat.le_of_ble_eq_true rfl) ?_
        exact xs_iret (M := mX10_circuits) (pc := 65) dX10_circuits_65 rfl (p4 c1 c2 c3)
      · refine wp_iload (M := mX10_circuits) (pc := 39) dX10_circuits_39 rfl ?_
        refine wp_goto (M := mX10_circuits) (pc := 41) (t := 65) dX10_circuits_41 (by decide) ?_
        exact xs_iret (M := mX10_circuits) (pc := 65) dX10_circuits_65 rfl (p5 c1 c2 c3)
    · refine wp_iconst (M := mX10_circuits) (pc := 17) dX10_circuits_17 k_iconst_m1 ?_
      exact xs_iret (M := mX10_circuits) (pc := 18) dX10_circuits_18 rfl (p6 c1 c2)
theorem bX10_route_0 {G : GC} {d : Nat} {sw : Bool} {f : FF} {Q : QQ} {x1 : Int32} {x2 : Int32} {x3 : Int32} (p1 : (¬ (0 ≤ x1 ∧ x1 ≤ 7)) → Q (some (.int (-1))) sw f) (p2 : (0 ≤ x1 ∧ x1 ≤ 7) → (¬ (0 ≤ x2 ∧ x2 ≤ 7)) → Q (some (.int (-1))) sw f) (p3 : (0 ≤ x1 ∧ x1 ≤ 7) → (0 ≤ x2 ∧ x2 ≤ 7) → (0 ≤ x3 ∧ x3 ≤ 7) → XP G mX3_findRoute (d + 2) 0 [.ref 3, .int x1, .int x2, .ref 55, .null] [] sw f (fun v sw' f' => XP G mX10_route (d + 3) 45 [.ref 0, .int x1, .int x2, .int x3, .null] (retst v []) sw' f' Q)) (p4 : (0 ≤ x1 ∧ x1 ≤ 7) → (0 ≤ x2 ∧ x2 ≤ 7) → (¬ (0 ≤ x3 ∧ x3 ≤ 7)) → (x3 = 100) → XP G mX3_findRoute (d + 2) 0 [.ref 3, .int x1, .int x2, .ref 55, .null] [] sw f (fun v sw' f' => XP G mX10_route (d + 3) 45 [.ref 0, .int x1, .int x2, .int x3, .null] (retst v []) sw' f' Q)) (p5 : (0 ≤ x1 ∧ x1 ≤ 7) → (0 ≤ x2 ∧ x2 ≤ 7) → (¬ (0 ≤ x3 ∧ x3 ≤ 7)) → (¬ x3 = 100) → Q (some (.int (-1))) sw f) : XP G mX10_route (d + 3) 0 [.ref 0, .int x1, .int x2, .int x3, .null] [] sw f Q := by
  refine wp_iload_n (M := mX10_route) (pc := 0) dX10_route_0 rfl rfl ?_
  refine xs_callS (d := d + 2) (M := mX10_route) (pc := 1) (As := [.int x1]) (st := []) (ls' := [.int x1]) dX10_route_1 oX10_isExchange nX10_isExchange lX10_87 tX10_isExchange (Nat.le_of_ble_eq_true rfl) rfl (Nat.le_of_ble_eq_true rfl) rfl ?_
  refine sp_X10_isExchange   ?_
  refine xs_ifb_eq (M := mX10_route) (pc := 4) (t := 27) dX10_route_4 (by decide) (fun c1 => ?_) (fun c1 => ?_)
  · refine wp_iconst (M := mX10_route) (pc := 27) dX10_route_27 k_iconst_m1 ?_
    exact xs_iret (M := mX10_route) (pc := 28) dX10_route_28 rfl (p1 c1)
  · refine wp_iload_n (M := mX10_route) (pc := 7) dX10_route_7 rfl rfl ?_
    refine xs_callS (d := d + 2) (M := mX10_route) (pc := 8) (As := [.int x2]) (st := []) (ls' := [.int x2]) dX10_route_8 oX10_isExchange nX10_isExchange lX10_87 tX10_isExchange (Nat.le_of_ble_eq_true rfl) rfl (Nat.le_of_ble_eq_true rfl) rfl ?_
    refine sp_X10_isExchange   ?_
    refine xs_ifb_eq (M := mX10_route) (pc := 11) (t := 27) dX10_route_11 (by decide) (fun c2 => ?_) (fun c2 => ?_)
    · refine wp_iconst (M := mX10_route) (pc := 27) dX10_route_27 k_iconst_m1 ?_
      exact xs_iret (M := mX10_route) (pc := 28) dX10_route_28 rfl (p2 c1 c2)
    · refine wp_iload_n (M := mX10_route) (pc := 14) dX10_route_14 rfl rfl ?_
      refine xs_callS (d := d + 2) (M := mX10_route) (pc := 15) (As := [.int x3]) (st := []) (ls' := [.int x3]) dX10_route_15 oX10_isExchange nX10_isExchange lX10_87 tX10_isExchange (Nat.le_of_ble_eq_true rfl) rfl (Nat.le_of_ble_eq_true rfl) rfl ?_
      refine sp_X10_isExchange   ?_
      refine xs_ifb_ne (M := mX10_route) (pc := 18) (t := 29) dX10_route_18 (by decide) (fun c3 => ?_) (fun c3 => ?_)
      · refine wp_aload_n (M := mX10_route) (pc := 29) dX10_route_29 rfl rfl ?_
        refine xs_getr (M := mX10_route) (pc := 30) (r := 3) dX10_route_30 fX10_19 sh0 rfl (gr0_1 sw) ?_
        refine wp_iload_n (M := mX10_route) (pc := 33) dX10_route_33 rfl rfl ?_
        refine wp_iload_n (M := mX10_route) (pc := 34) dX10_route_34 rfl rfl ?_
        refine wp_aload_n (M := mX10_route) (pc := 35) dX10_route_35 rfl rfl ?_
        refine xs_getr (M := mX10_route) (pc := 36) (r := 43) dX10_route_36 fX10_65 sh0 rfl (gr0_7 sw) ?_
        refine xs_getr (M := mX10_route) (pc := 39) (r := 55) dX10_route_39 fX10_212 sh43 rfl (gr43_19 sw) ?_
        refine xs_callV (d := d + 2) (M := mX10_route) (pc := 42) (As := [.int x1, .int x2, .ref 55]) (st := []) (c := 3) (ls' := [.ref 3, .int x1, .int x2, .ref 55, .null]) dX10_route_42 oX3_findRoute nX3_findRoute lX10_220 vX3_findRoute sX3_findRoute rfl sh3 (Nat.le_of_ble_eq_true rfl) rfl (Nat.le_of_ble_eq_true rfl) rfl ?_
        exact p3 c1 c2 c3
      · refine wp_iload_n (M := mX10_route) (pc := 21) dX10_route_21 rfl rfl ?_
        refine wp_bipush (M := mX10_route) (pc := 22) dX10_route_22 k_bipush_100 ?_
        refine wp_icmp_eq (M := mX10_route) (pc := 24) (t := 29) dX10_route_24 (by decide) (fun c4 => ?_) (fun c4 => ?_)
        · refine wp_aload_n (M := mX10_route) (pc := 29) dX10_route_29 rfl rfl ?_
          refine xs_getr (M := mX10_route) (pc := 30) (r := 3) dX10_route_30 fX10_19 sh0 rfl (gr0_1 sw) ?_
          refine wp_iload_n (M := mX10_route) (pc := 33) dX10_route_33 rfl rfl ?_
          refine wp_iload_n (M := mX10_route) (pc := 34) dX10_route_34 rfl rfl ?_
          refine wp_aload_n (M := mX10_route) (pc := 35) dX10_route_35 rfl rfl ?_
          refine xs_getr (M := mX10_route) (pc := 36) (r := 43) dX10_route_36 fX10_65 sh0 rfl (gr0_7 sw) ?_
          refine xs_getr (M := mX10_route) (pc := 39) (r := 55) dX10_route_39 fX10_212 sh43 rfl (gr43_19 sw) ?_
          refine xs_callV (d := d + 2) (M := mX10_route) (pc := 42) (As := [.int x1, .int x2, .ref 55]) (st := []) (c := 3) (ls' := [.ref 3, .int x1, .int x2, .ref 55, .null]) dX10_route_42 oX3_findRoute nX3_findRoute lX10_220 vX3_findRoute sX3_findRoute rfl sh3 (Nat.le_of_ble_eq_true rfl) rfl (Nat.le_of_ble_eq_true rfl) rfl ?_
          exact p4 c1 c2 c3 c4
        · refine wp_iconst (M := mX10_route) (pc := 27) dX10_route_27 k_iconst_m1 ?_
          exact xs_iret (M := mX10_route) (pc := 28) dX10_route_28 rfl (p5 c1 c2 c3 c4)
theorem bX10_route_45 {G : GC} {d : Nat} {sw : Bool} {f : FF} {Q : QQ} {x1 : Int32} {x2 : Int32} {x3 : Int32} {v4 : Value} {s0 : Int32} (p1 : (¬ s0 = (-1)) → (¬ x3 = 100) → (s0 < x3) → Q (some (.int (-4))) sw f) (p2 : (¬ s0 = (-1)) → (¬ x3 = 100) → (¬ s0 < x3) → vp_in x3 8) (p3 : (¬ s0 = (-1)) → (¬ x3 = 100) → (¬ s0 < x3) → Q (some (.int (f 5 x3.toNatClampNeg))) sw f) (p4 : (¬ s0 = (-1)) → (x3 = 100) → Q (some (.int s0)) sw f) (p5 : (s0 = (-1)) → Q (some (.int (-2))) sw f) : XP G mX10_route (d + 3) 45 [.ref 0, .int x1, .int x2, .int x3, v4] [.int s0] sw f Q := by
  refine wp_istore (M := mX10_route) (pc := 45) (ls' := [.ref 0, .int x1, .int x2, .int x3, .int s0]) dX10_route_45 (by decide) rfl ?_
  refine wp_iload (M := mX10_route) (pc := 47) dX10_route_47 rfl ?_
  refine wp_iconst (M := mX10_route) (pc := 49) dX10_route_49 k_iconst_m1 ?_
  refine wp_icmp_ne (M := mX10_route) (pc := 50) (t := 56) dX10_route_50 (by decide) (fun c1 => ?_) (fun c1 => ?_)
  · refine wp_iload_n (M := mX10_route) (pc := 56) dX10_route_56 rfl rfl ?_
    refine wp_bipush (M := mX10_route) (pc := 57) dX10_route_57 k_bipush_100 ?_
    refine wp_icmp_ne (M := mX10_route) (pc := 59) (t := 65) dX10_route_59 (by decide) (fun c2 => ?_) (fun c2 => ?_)
    · refine wp_iload_n (M := mX10_route) (pc := 65) dX10_route_65 rfl rfl ?_
      refine wp_iload (M := mX10_route) (pc := 66) dX10_route_66 rfl ?_
      refine wp_icmp_gt (M := mX10_route) (pc := 68) (t := 83) dX10_route_68 (by decide) (fun c3 => ?_) (fun c3 => ?_)
      · refine wp_bipush (M := mX10_route) (pc := 83) dX10_route_83 k_bipush_m4 ?_
        exact xs_iret (M := mX10_route) (pc := 85) dX10_route_85 rfl (p1 c1 c2 c3)
      · refine wp_aload_n (M := mX10_route) (pc := 71) dX10_route_71 rfl rfl ?_
        refine xs_getr (M := mX10_route) (pc := 72) (r := 3) dX10_route_72 fX10_19 sh0 rfl (gr0_1 sw) ?_
        refine xs_getr (M := mX10_route) (pc := 75) (r := 5) dX10_route_75 fX10_224 sh3 rfl (gr3_1 sw) ?_
        refine wp_iload_n (M := mX10_route) (pc := 78) dX10_route_78 rfl rfl ?_
        refine xs_iald (M := mX10_route) (pc := 79) (j := x3.toNatClampNeg) dX10_route_79 sh5 (p2 c1 c2 c3) rfl ?_
        refine wp_goto (M := mX10_route) (pc := 80) (t := 85) dX10_route_80 (by decide) ?_
        exact xs_iret (M := mX10_route) (pc := 85) dX10_route_85 rfl (p3 c1 c2 c3)
    · refine wp_iload (M := mX10_route) (pc := 62) dX10_route_62 rfl ?_
      exact xs_iret (M := mX10_route) (pc := 64) dX10_route_64 rfl (p4 c1 c2)
  · refine wp_bipush (M := mX10_route) (pc := 53) dX10_route_53 k_bipush_m2 ?_
    exact xs_iret (M := mX10_route) (pc := 55) dX10_route_55 rfl (p5 c1)
theorem bX10_fundLasts_0 {G : GC} {d : Nat} {sw : Bool} {f : FF} {Q : QQ} {x1 : Int32} (p1 : (1 ≤ x1 ∧ x1 ≤ 240) → XP G mX9_copyFrom (d + 6) 0 [.ref 69, .ref 43] [] sw f (fun v sw' f' => XP G mX10_fundLasts (d + 7) 24 [.ref 0, .int x1] (retst v []) sw' f' Q)) (p2 : (¬ (1 ≤ x1 ∧ x1 ≤ 240)) → Q (some (.int (-1))) sw f) : XP G mX10_fundLasts (d + 7) 0 [.ref 0, .int x1] [] sw f Q := by
  refine wp_iload_n (M := mX10_fundLasts) (pc := 0) dX10_fundLasts_0 rfl rfl ?_
  refine wp_iconst (M := mX10_fundLasts) (pc := 1) dX10_fundLasts_1 k_iconst_1 ?_
  refine wp_sipush (M := mX10_fundLasts) (pc := 2) dX10_fundLasts_2 k_sipush_240 ?_
  refine xs_callS (d := d + 6) (M := mX10_fundLasts) (pc := 5) (As := [.int x1, .int 1, .int 240]) (st := []) (ls' := [.int x1, .int 1, .int 240]) dX10_fundLasts_5 oX10_within nX10_within lX10_79 tX10_within (Nat.le_of_ble_eq_true rfl) rfl (Nat.le_of_ble_eq_true rfl) rfl ?_
  refine sp_X10_within   ?_
  refine xs_ifb_ne (M := mX10_fundLasts) (pc := 8) (t := 13) dX10_fundLasts_8 (by decide) (fun c1 => ?_) (fun c1 => ?_)
  · refine wp_aload_n (M := mX10_fundLasts) (pc := 13) dX10_fundLasts_13 rfl rfl ?_
    refine xs_getr (M := mX10_fundLasts) (pc := 14) (r := 69) dX10_fundLasts_14 fX10_72 sh0 rfl (gr0_9 sw) ?_
    refine wp_aload_n (M := mX10_fundLasts) (pc := 17) dX10_fundLasts_17 rfl rfl ?_
    refine xs_getr (M := mX10_fundLasts) (pc := 18) (r := 43) dX10_fundLasts_18 fX10_65 sh0 rfl (gr0_7 sw) ?_
    refine xs_callV (d := d + 6) (M := mX10_fundLasts) (pc := 21) (As := [.ref 43]) (st := []) (c := 9) (ls' := [.ref 69, .ref 43]) dX10_fundLasts_21 oX9_copyFrom nX9_copyFrom lX10_154 vX9_copyFrom sX9_copyFrom rfl sh69 (Nat.le_of_ble_eq_true rfl) rfl (Nat.le_of_ble_eq_true rfl) rfl ?_
    exact p1 c1
  · refine wp_iconst (M := mX10_fundLasts) (pc := 11) dX10_fundLasts_11 k_iconst_m1 ?_
    exact xs_iret (M := mX10_fundLasts) (pc := 12) dX10_fundLasts_12 rfl (p2 c1)
theorem bX10_fundLasts_24 {G : GC} {d : Nat} {sw : Bool} {f : FF} {Q : QQ} {x1 : Int32} (p1 : XP G mX7_minutesTillPoor (d + 6) 0 [.ref 32, .ref 69, .int x1, .null] [] sw f (fun v sw' f' => XP G mX10_fundLasts (d + 7) 36 [.ref 0, .int x1] (retst v []) sw' f' Q)) : XP G mX10_fundLasts (d + 7) 24 [.ref 0, .int x1] [] sw f Q := by
  refine wp_aload_n (M := mX10_fundLasts) (pc := 24) dX10_fundLasts_24 rfl rfl ?_
  refine xs_getr (M := mX10_fundLasts) (pc := 25) (r := 32) dX10_fundLasts_25 fX10_58 sh0 rfl (gr0_6 sw) ?_
  refine wp_aload_n (M := mX10_fundLasts) (pc := 28) dX10_fundLasts_28 rfl rfl ?_
  refine xs_getr (M := mX10_fundLasts) (pc := 29) (r := 69) dX10_fundLasts_29 fX10_72 sh0 rfl (gr0_9 sw) ?_
  refine wp_iload_n (M := mX10_fundLasts) (pc := 32) dX10_fundLasts_32 rfl rfl ?_
  refine xs_callV (d := d + 6) (M := mX10_fundLasts) (pc := 33) (As := [.ref 69, .int x1]) (st := []) (c := 7) (ls' := [.ref 32, .ref 69, .int x1, .null]) dX10_fundLasts_33 oX7_minutesTillPoor nX7_minutesTillPoor lX10_227 vX7_minutesTillPoor sX7_minutesTillPoor rfl sh32 (Nat.le_of_ble_eq_true rfl) rfl (Nat.le_of_ble_eq_true rfl) rfl ?_
  exact p1
theorem bX10_fundLasts_36 {G : GC} {d : Nat} {sw : Bool} {f : FF} {Q : QQ} {x1 : Int32} {s0 : Int32} (p1 : Q (some (.int s0)) sw f) : XP G mX10_fundLasts (d + 7) 36 [.ref 0, .int x1] [.int s0] sw f Q := by
  exact xs_iret (M := mX10_fundLasts) (pc := 36) dX10_fundLasts_36 rfl (p1)
theorem bX10_atOnce_0 {G : GC} {d : Nat} {sw : Bool} {f : FF} {Q : QQ} {x1 : Int32} {x2 : Int32} (p1 : (¬ (twoE x1 x2)) → Q (some (.int (-1))) sw f) (p2 : (twoE x1 x2) → XP G mX3_flow (d + 2) 0 [.ref 3, .int x1, .int x2, .int 9, .null, .null] [] sw f (fun v sw' f' => XP G mX10_atOnce (d + 3) 19 [.ref 0, .int x1, .int x2] (retst v []) sw' f' Q)) : XP G mX10_atOnce (d + 3) 0 [.ref 0, .int x1, .int x2] [] sw f Q := by
  refine wp_iload_n (M := mX10_atOnce) (pc := 0) dX10_atOnce_0 rfl rfl ?_
  refine wp_iload_n (M := mX10_atOnce) (pc := 1) dX10_atOnce_1 rfl rfl ?_
  refine xs_callS (d := d + 2) (M := mX10_atOnce) (pc := 2) (As := [.int x1, .int x2]) (st := []) (ls' := [.int x1, .int x2]) dX10_atOnce_2 oX10_areTwo nX10_areTwo lX10_75 tX10_areTwo (Nat.le_of_ble_eq_true rfl) rfl (Nat.le_of_ble_eq_true rfl) rfl ?_
  refine sp_X10_areTwo   ?_
  refine xs_ifb_eq (M := mX10_atOnce) (pc := 5) (t := 22) dX10_atOnce_5 (by decide) (fun c1 => ?_) (fun c1 => ?_)
  · refine wp_iconst (M := mX10_atOnce) (pc := 22) dX10_atOnce_22 k_iconst_m1 ?_
    exact xs_iret (M := mX10_atOnce) (pc := 23) dX10_atOnce_23 rfl (p1 c1)
  · refine wp_aload_n (M := mX10_atOnce) (pc := 8) dX10_atOnce_8 rfl rfl ?_
    refine xs_getr (M := mX10_atOnce) (pc := 9) (r := 3) dX10_atOnce_9 fX10_19 sh0 rfl (gr0_1 sw) ?_
    refine wp_iload_n (M := mX10_atOnce) (pc := 12) dX10_atOnce_12 rfl rfl ?_
    refine wp_iload_n (M := mX10_atOnce) (pc := 13) dX10_atOnce_13 rfl rfl ?_
    refine wp_bipush (M := mX10_atOnce) (pc := 14) dX10_atOnce_14 k_bipush_9 ?_
    refine xs_callV (d := d + 2) (M := mX10_atOnce) (pc := 16) (As := [.int x1, .int x2, .int 9]) (st := []) (c := 3) (ls' := [.ref 3, .int x1, .int x2, .int 9, .null, .null]) dX10_atOnce_16 oX3_flow nX3_flow lX10_231 vX3_flow sX3_flow rfl sh3 (Nat.le_of_ble_eq_true rfl) rfl (Nat.le_of_ble_eq_true rfl) rfl ?_
    exact p2 c1
theorem bX10_atOnce_19 {G : GC} {d : Nat} {sw : Bool} {f : FF} {Q : QQ} {x1 : Int32} {x2 : Int32} {s0 : Int32} (p1 : Q (some (.int s0)) sw f) : XP G mX10_atOnce (d + 3) 19 [.ref 0, .int x1, .int x2] [.int s0] sw f Q := by
  refine wp_goto (M := mX10_atOnce) (pc := 19) (t := 23) dX10_atOnce_19 (by decide) ?_
  exact xs_iret (M := mX10_atOnce) (pc := 23) dX10_atOnce_23 rfl (p1)
theorem bX10_stops_0 {G : GC} {d : Nat} {sw : Bool} {f : FF} {Q : QQ} {x1 : Int32} {x2 : Int32} (p1 : (¬ (twoE x1 x2)) → Q (some (.int (-1))) sw f) (p2 : (twoE x1 x2) → XP G mX3_flow (d + 2) 0 [.ref 3, .int x1, .int x2, .int 1, .null, .null] [] sw f (fun v sw' f' => XP G mX10_stops (d + 3) 18 [.ref 0, .int x1, .int x2] (retst v []) sw' f' Q)) : XP G mX10_stops (d + 3) 0 [.ref 0, .int x1, .int x2] [] sw f Q := by
  refine wp_iload_n (M := mX10_stops) (pc := 0) dX10_stops_0 rfl rfl ?_
  refine wp_iload_n (M := mX10_stops) (pc := 1) dX10_stops_1 rfl rfl ?_
  refine xs_callS (d := d + 2) (M := mX10_stops) (pc := 2) (As := [.int x1, .int x2]) (st := []) (ls' := [.int x1, .int x2]) dX10_stops_2 oX10_areTwo nX10_areTwo lX10_75 tX10_areTwo (Nat.le_of_ble_eq_true rfl) rfl (Nat.le_of_ble_eq_true rfl) rfl ?_
  refine sp_X10_areTwo   ?_
  refine xs_ifb_eq (M := mX10_stops) (pc := 5) (t := 21) dX10_stops_5 (by decide) (fun c1 => ?_) (fun c1 => ?_)
  · refine wp_iconst (M := mX10_stops) (pc := 21) dX10_stops_21 k_iconst_m1 ?_
    exact xs_iret (M := mX10_stops) (pc := 22) dX10_stops_22 rfl (p1 c1)
  · refine wp_aload_n (M := mX10_stops) (pc := 8) dX10_stops_8 rfl rfl ?_
    refine xs_getr (M := mX10_stops) (pc := 9) (r := 3) dX10_stops_9 fX10_19 sh0 rfl (gr0_1 sw) ?_
    refine wp_iload_n (M := mX10_stops) (pc := 12) dX10_stops_12 rfl rfl ?_
    refine wp_iload_n (M := mX10_stops) (pc := 13) dX10_stops_13 rfl rfl ?_
    refine wp_iconst (M := mX10_stops) (pc := 14) dX10_stops_14 k_iconst_1 ?_
    refine xs_callV (d := d + 2) (M := mX10_stops) (pc := 15) (As := [.int x1, .int x2, .int 1]) (st := []) (c := 3) (ls' := [.ref 3, .int x1, .int x2, .int 1, .null, .null]) dX10_stops_15 oX3_flow nX3_flow lX10_231 vX3_flow sX3_flow rfl sh3 (Nat.le_of_ble_eq_true rfl) rfl (Nat.le_of_ble_eq_true rfl) rfl ?_
    exact p2 c1
theorem bX10_stops_18 {G : GC} {d : Nat} {sw : Bool} {f : FF} {Q : QQ} {x1 : Int32} {x2 : Int32} {s0 : Int32} (p1 : Q (some (.int s0)) sw f) : XP G mX10_stops (d + 3) 18 [.ref 0, .int x1, .int x2] [.int s0] sw f Q := by
  refine wp_goto (M := mX10_stops) (pc := 18) (t := 22) dX10_stops_18 (by decide) ?_
  exact xs_iret (M := mX10_stops) (pc := 22) dX10_stops_22 rfl (p1)
theorem bX10_inTheMiddle_0 {G : GC} {d : Nat} {sw : Bool} {f : FF} {Q : QQ}  (p1 : XP G mX3_middle (d + 2) 0 [.ref 3, .null, .null, .null, .null, .null, .null, .null] [] sw f (fun v sw' f' => XP G mX10_inTheMiddle (d + 3) 7 [.ref 0] (retst v []) sw' f' Q)) : XP G mX10_inTheMiddle (d + 3) 0 [.ref 0] [] sw f Q := by
  refine wp_aload_n (M := mX10_inTheMiddle) (pc := 0) dX10_inTheMiddle_0 rfl rfl ?_
  refine xs_getr (M := mX10_inTheMiddle) (pc := 1) (r := 3) dX10_inTheMiddle_1 fX10_19 sh0 rfl (gr0_1 sw) ?_
  refine xs_callV (d := d + 2) (M := mX10_inTheMiddle) (pc := 4) (As := []) (st := []) (c := 3) (ls' := [.ref 3, .null, .null, .null, .null, .null, .null, .null]) dX10_inTheMiddle_4 oX3_middle nX3_middle lX10_235 vX3_middle sX3_middle rfl sh3 (Nat.le_of_ble_eq_true rfl) rfl (Nat.le_of_ble_eq_true rfl) rfl ?_
  exact p1
theorem bX10_inTheMiddle_7 {G : GC} {d : Nat} {sw : Bool} {f : FF} {Q : QQ} {s0 : Int32} (p1 : Q (some (.int s0)) sw f) : XP G mX10_inTheMiddle (d + 3) 7 [.ref 0] [.int s0] sw f Q := by
  exact xs_iret (M := mX10_inTheMiddle) (pc := 7) dX10_inTheMiddle_7 rfl (p1)
theorem bX10_cut_0 {G : GC} {d : Nat} {sw : Bool} {f : FF} {Q : QQ} {x1 : Int32} {x2 : Int32} {x3 : Int32} (p1 : (¬ (1 ≤ x1 ∧ x1 ≤ 12)) → Q (some (.int (-1))) sw f) (p2 : (1 ≤ x1 ∧ x1 ≤ 12) → (¬ (0 ≤ x2 ∧ x2 ≤ 3060)) → Q (some (.int (-1))) sw f) (p3 : (1 ≤ x1 ∧ x1 ≤ 12) → (0 ≤ x2 ∧ x2 ≤ 3060) → (¬ (0 ≤ x3 ∧ x3 ≤ 1)) → Q (some (.int (-1))) sw f) (p4 : (1 ≤ x1 ∧ x1 ≤ 12) → (0 ≤ x2 ∧ x2 ≤ 3060) → (0 ≤ x3 ∧ x3 ≤ 1) → XP G mX8_take (d + 2) 0 [.ref 1, .int (2 * x1)] [] sw f (fun v sw' f' => XP G mX10_cut (d + 3) 40 [.ref 0, .int x1, .int x2, .int x3] (retst v []) sw' f' Q)) : XP G mX10_cut (d + 3) 0 [.ref 0, .int x1, .int x2, .int x3] [] sw f Q := by
  refine wp_iload_n (M := mX10_cut) (pc := 0) dX10_cut_0 rfl rfl ?_
  refine wp_iconst (M := mX10_cut) (pc := 1) dX10_cut_1 k_iconst_1 ?_
  refine wp_bipush (M := mX10_cut) (pc := 2) dX10_cut_2 k_bipush_12 ?_
  refine xs_callS (d := d + 2) (M := mX10_cut) (pc := 4) (As := [.int x1, .int 1, .int 12]) (st := []) (ls' := [.int x1, .int 1, .int 12]) dX10_cut_4 oX10_within nX10_within lX10_79 tX10_within (Nat.le_of_ble_eq_true rfl) rfl (Nat.le_of_ble_eq_true rfl) rfl ?_
  refine sp_X10_within   ?_
  refine xs_ifb_eq (M := mX10_cut) (pc := 7) (t := 43) dX10_cut_7 (by decide) (fun c1 => ?_) (fun c1 => ?_)
  · refine wp_iconst (M := mX10_cut) (pc := 43) dX10_cut_43 k_iconst_m1 ?_
    exact xs_iret (M := mX10_cut) (pc := 44) dX10_cut_44 rfl (p1 c1)
  · refine wp_iload_n (M := mX10_cut) (pc := 10) dX10_cut_10 rfl rfl ?_
    refine wp_iconst (M := mX10_cut) (pc := 11) dX10_cut_11 k_iconst_0 ?_
    refine wp_sipush (M := mX10_cut) (pc := 12) dX10_cut_12 k_sipush_3060 ?_
    refine xs_callS (d := d + 2) (M := mX10_cut) (pc := 15) (As := [.int x2, .int 0, .int 3060]) (st := []) (ls' := [.int x2, .int 0, .int 3060]) dX10_cut_15 oX10_within nX10_within lX10_79 tX10_within (Nat.le_of_ble_eq_true rfl) rfl (Nat.le_of_ble_eq_true rfl) rfl ?_
    refine sp_X10_within   ?_
    refine xs_ifb_eq (M := mX10_cut) (pc := 18) (t := 43) dX10_cut_18 (by decide) (fun c2 => ?_) (fun c2 => ?_)
    · refine wp_iconst (M := mX10_cut) (pc := 43) dX10_cut_43 k_iconst_m1 ?_
      exact xs_iret (M := mX10_cut) (pc := 44) dX10_cut_44 rfl (p2 c1 c2)
    · refine wp_iload_n (M := mX10_cut) (pc := 21) dX10_cut_21 rfl rfl ?_
      refine wp_iconst (M := mX10_cut) (pc := 22) dX10_cut_22 k_iconst_0 ?_
      refine wp_iconst (M := mX10_cut) (pc := 23) dX10_cut_23 k_iconst_1 ?_
      refine xs_callS (d := d + 2) (M := mX10_cut) (pc := 24) (As := [.int x3, .int 0, .int 1]) (st := []) (ls' := [.int x3, .int 0, .int 1]) dX10_cut_24 oX10_within nX10_within lX10_79 tX10_within (Nat.le_of_ble_eq_true rfl) rfl (Nat.le_of_ble_eq_true rfl) rfl ?_
      refine sp_X10_within   ?_
      refine xs_ifb_eq (M := mX10_cut) (pc := 27) (t := 43) dX10_cut_27 (by decide) (fun c3 => ?_) (fun c3 => ?_)
      · refine wp_iconst (M := mX10_cut) (pc := 43) dX10_cut_43 k_iconst_m1 ?_
        exact xs_iret (M := mX10_cut) (pc := 44) dX10_cut_44 rfl (p3 c1 c2 c3)
      · refine wp_aload_n (M := mX10_cut) (pc := 30) dX10_cut_30 rfl rfl ?_
        refine xs_getr (M := mX10_cut) (pc := 31) (r := 1) dX10_cut_31 fX10_10 sh0 rfl (gr0_0 sw) ?_
        refine wp_iconst (M := mX10_cut) (pc := 34) dX10_cut_34 k_iconst_2 ?_
        refine wp_iload_n (M := mX10_cut) (pc := 35) dX10_cut_35 rfl rfl ?_
        refine wp_imul (M := mX10_cut) (pc := 36) dX10_cut_36 ?_
        refine xs_callV (d := d + 2) (M := mX10_cut) (pc := 37) (As := [.int (2 * x1)]) (st := []) (c := 8) (ls' := [.ref 1, .int (2 * x1)]) dX10_cut_37 oX8_take nX8_take lX10_117 vX8_take sX8_take rfl sh1 (Nat.le_of_ble_eq_true rfl) rfl (Nat.le_of_ble_eq_true rfl) rfl ?_
        exact p4 c1 c2 c3
theorem bX10_cut_40 {G : GC} {d : Nat} {sw : Bool} {f : FF} {Q : QQ} {x1 : Int32} {x2 : Int32} {x3 : Int32} {s0 : Int32} (p1 : (¬ s0 = 0) → (¬ x3 = 1) → XP G mX6_savedMost (d + 2) 0 [.ref 14, .int x1, .int x2, .int 0, .null, .null, .null, .null, .null, .null] [] sw f (fun v sw' f' => XP G mX10_cut (d + 3) 64 [.ref 0, .int x1, .int x2, .int x3] (retst v []) sw' f' Q)) (p2 : (¬ s0 = 0) → (x3 = 1) → XP G mX6_savedMost (d + 2) 0 [.ref 14, .int x1, .int x2, .int 1, .null, .null, .null, .null, .null, .null] [] sw f (fun v sw' f' => XP G mX10_cut (d + 3) 64 [.ref 0, .int x1, .int x2, .int x3] (retst v []) sw' f' Q)) (p3 : (s0 = 0) → Q (some (.int (-1))) sw f) : XP G mX10_cut (d + 3) 40 [.ref 0, .int x1, .int x2, .int x3] [.int s0] sw f Q := by
  refine wp_if_ne (M := mX10_cut) (pc := 40) (t := 45) dX10_cut_40 (by decide) (fun c1 => ?_) (fun c1 => ?_)
  · refine wp_aload_n (M := mX10_cut) (pc := 45) dX10_cut_45 rfl rfl ?_
    refine xs_getr (M := mX10_cut) (pc := 46) (r := 14) dX10_cut_46 fX10_35 sh0 rfl (gr0_3 sw) ?_
    refine wp_iload_n (M := mX10_cut) (pc := 49) dX10_cut_49 rfl rfl ?_
    refine wp_iload_n (M := mX10_cut) (pc := 50) dX10_cut_50 rfl rfl ?_
    refine wp_iload_n (M := mX10_cut) (pc := 51) dX10_cut_51 rfl rfl ?_
    refine wp_iconst (M := mX10_cut) (pc := 52) dX10_cut_52 k_iconst_1 ?_
    refine wp_icmp_ne (M := mX10_cut) (pc := 53) (t := 60) dX10_cut_53 (by decide) (fun c2 => ?_) (fun c2 => ?_)
    · refine wp_iconst (M := mX10_cut) (pc := 60) dX10_cut_60 k_iconst_0 ?_
      refine xs_callV (d := d + 2) (M := mX10_cut) (pc := 61) (As := [.int x1, .int x2, .int 0]) (st := []) (c := 6) (ls' := [.ref 14, .int x1, .int x2, .int 0, .null, .null, .null, .null, .null, .null]) dX10_cut_61 oX6_savedMost nX6_savedMost lX10_238 vX6_savedMost sX6_savedMost rfl sh14 (Nat.le_of_ble_eq_true rfl) rfl (Nat.le_of_ble_eq_true rfl) rfl ?_
      exact p1 c1 c2
    · refine wp_iconst (M := mX10_cut) (pc := 56) dX10_cut_56 k_iconst_1 ?_
      refine wp_goto (M := mX10_cut) (pc := 57) (t := 61) dX10_cut_57 (by decide) ?_
      refine xs_callV (d := d + 2) (M := mX10_cut) (pc := 61) (As := [.int x1, .int x2, .int 1]) (st := []) (c := 6) (ls' := [.ref 14, .int x1, .int x2, .int 1, .null, .null, .null, .null, .null, .null]) dX10_cut_61 oX6_savedMost nX6_savedMost lX10_238 vX6_savedMost sX6_savedMost rfl sh14 (Nat.le_of_ble_eq_true rfl) rfl (Nat.le_of_ble_eq_true rfl) rfl ?_
      exact p2 c1 c2
  · refine wp_iconst (M := mX10_cut) (pc := 43) dX10_cut_43 k_iconst_m1 ?_
    exact xs_iret (M := mX10_cut) (pc := 44) dX10_cut_44 rfl (p3 c1)
theorem bX10_cut_64 {G : GC} {d : Nat} {sw : Bool} {f : FF} {Q : QQ} {x1 : Int32} {x2 : Int32} {x3 : Int32} {s0 : Int32} (p1 : Q (some (.int s0)) sw f) : XP G mX10_cut (d + 3) 64 [.ref 0, .int x1, .int x2, .int x3] [.int s0] sw f Q := by
  exact xs_iret (M := mX10_cut) (pc := 64) dX10_cut_64 rfl (p1)
theorem bX10_heir_0 {G : GC} {d : Nat} {sw : Bool} {f : FF} {Q : QQ} {x1 : Int32} {x2 : Int32} {x3 : Int32} (p1 : (¬ (1 ≤ x1 ∧ x1 ≤ 12)) → Q (some (.int (-1))) sw f) (p2 : (1 ≤ x1 ∧ x1 ≤ 12) → (¬ (0 ≤ x2 ∧ x2 ≤ 3060)) → Q (some (.int (-1))) sw f) (p3 : (1 ≤ x1 ∧ x1 ≤ 12) → (0 ≤ x2 ∧ x2 ≤ 3060) → (¬ (0 ≤ x3 ∧ x3 ≤ 1)) → Q (some (.int (-1))) sw f) (p4 : (1 ≤ x1 ∧ x1 ≤ 12) → (0 ≤ x2 ∧ x2 ≤ 3060) → (0 ≤ x3 ∧ x3 ≤ 1) → XP G mX8_take (d + 2) 0 [.ref 1, .int x1] [] sw f (fun v sw' f' => XP G mX10_heir (d + 3) 38 [.ref 0, .int x1, .int x2, .int x3] (retst v []) sw' f' Q)) : XP G mX10_heir (d + 3) 0 [.ref 0, .int x1, .int x2, .int x3] [] sw f Q := by
  refine wp_iload_n (M := mX10_heir) (pc := 0) dX10_heir_0 rfl rfl ?_
  refine wp_iconst (M := mX10_heir) (pc := 1) dX10_heir_1 k_iconst_1 ?_
  refine wp_bipush (M := mX10_heir) (pc := 2) dX10_heir_2 k_bipush_12 ?_
  refine xs_callS (d := d + 2) (M := mX10_heir) (pc := 4) (As := [.int x1, .int 1, .int 12]) (st := []) (ls' := [.int x1, .int 1, .int 12]) dX10_heir_4 oX10_within nX10_within lX10_79 tX10_within (Nat.le_of_ble_eq_true rfl) rfl (Nat.le_of_ble_eq_true rfl) rfl ?_
  refine sp_X10_within   ?_
  refine xs_ifb_eq (M := mX10_heir) (pc := 7) (t := 41) dX10_heir_7 (by decide) (fun c1 => ?_) (fun c1 => ?_)
  · refine wp_iconst (M := mX10_heir) (pc := 41) dX10_heir_41 k_iconst_m1 ?_
    exact xs_iret (M := mX10_heir) (pc := 42) dX10_heir_42 rfl (p1 c1)
  · refine wp_iload_n (M := mX10_heir) (pc := 10) dX10_heir_10 rfl rfl ?_
    refine wp_iconst (M := mX10_heir) (pc := 11) dX10_heir_11 k_iconst_0 ?_
    refine wp_sipush (M := mX10_heir) (pc := 12) dX10_heir_12 k_sipush_3060 ?_
    refine xs_callS (d := d + 2) (M := mX10_heir) (pc := 15) (As := [.int x2, .int 0, .int 3060]) (st := []) (ls' := [.int x2, .int 0, .int 3060]) dX10_heir_15 oX10_within nX10_within lX10_79 tX10_within (Nat.le_of_ble_eq_true rfl) rfl (Nat.le_of_ble_eq_true rfl) rfl ?_
    refine sp_X10_within   ?_
    refine xs_ifb_eq (M := mX10_heir) (pc := 18) (t := 41) dX10_heir_18 (by decide) (fun c2 => ?_) (fun c2 => ?_)
    · refine wp_iconst (M := mX10_heir) (pc := 41) dX10_heir_41 k_iconst_m1 ?_
      exact xs_iret (M := mX10_heir) (pc := 42) dX10_heir_42 rfl (p2 c1 c2)
    · refine wp_iload_n (M := mX10_heir) (pc := 21) dX10_heir_21 rfl rfl ?_
      refine wp_iconst (M := mX10_heir) (pc := 22) dX10_heir_22 k_iconst_0 ?_
      refine wp_iconst (M := mX10_heir) (pc := 23) dX10_heir_23 k_iconst_1 ?_
      refine xs_callS (d := d + 2) (M := mX10_heir) (pc := 24) (As := [.int x3, .int 0, .int 1]) (st := []) (ls' := [.int x3, .int 0, .int 1]) dX10_heir_24 oX10_within nX10_within lX10_79 tX10_within (Nat.le_of_ble_eq_true rfl) rfl (Nat.le_of_ble_eq_true rfl) rfl ?_
      refine sp_X10_within   ?_
      refine xs_ifb_eq (M := mX10_heir) (pc := 27) (t := 41) dX10_heir_27 (by decide) (fun c3 => ?_) (fun c3 => ?_)
      · refine wp_iconst (M := mX10_heir) (pc := 41) dX10_heir_41 k_iconst_m1 ?_
        exact xs_iret (M := mX10_heir) (pc := 42) dX10_heir_42 rfl (p3 c1 c2 c3)
      · refine wp_aload_n (M := mX10_heir) (pc := 30) dX10_heir_30 rfl rfl ?_
        refine xs_getr (M := mX10_heir) (pc := 31) (r := 1) dX10_heir_31 fX10_10 sh0 rfl (gr0_0 sw) ?_
        refine wp_iload_n (M := mX10_heir) (pc := 34) dX10_heir_34 rfl rfl ?_
        refine xs_callV (d := d + 2) (M := mX10_heir) (pc := 35) (As := [.int x1]) (st := []) (c := 8) (ls' := [.ref 1, .int x1]) dX10_heir_35 oX8_take nX8_take lX10_117 vX8_take sX8_take rfl sh1 (Nat.le_of_ble_eq_true rfl) rfl (Nat.le_of_ble_eq_true rfl) rfl ?_
        exact p4 c1 c2 c3
theorem bX10_heir_38 {G : GC} {d : Nat} {sw : Bool} {f : FF} {Q : QQ} {x1 : Int32} {x2 : Int32} {x3 : Int32} {s0 : Int32} (p1 : (¬ s0 = 0) → (¬ x3 = 1) → XP G mX6_tracedBy (d + 2) 0 [.ref 14, .int x1, .int x2, .int 0, .null, .null, .null, .null, .null] [] sw f (fun v sw' f' => XP G mX10_heir (d + 3) 62 [.ref 0, .int x1, .int x2, .int x3] (retst v []) sw' f' Q)) (p2 : (¬ s0 = 0) → (x3 = 1) → XP G mX6_tracedBy (d + 2) 0 [.ref 14, .int x1, .int x2, .int 1, .null, .null, .null, .null, .null] [] sw f (fun v sw' f' => XP G mX10_heir (d + 3) 62 [.ref 0, .int x1, .int x2, .int x3] (retst v []) sw' f' Q)) (p3 : (s0 = 0) → Q (some (.int (-1))) sw f) : XP G mX10_heir (d + 3) 38 [.ref 0, .int x1, .int x2, .int x3] [.int s0] sw f Q := by
  refine wp_if_ne (M := mX10_heir) (pc := 38) (t := 43) dX10_heir_38 (by decide) (fun c1 => ?_) (fun c1 => ?_)
  · refine wp_aload_n (M := mX10_heir) (pc := 43) dX10_heir_43 rfl rfl ?_
    refine xs_getr (M := mX10_heir) (pc := 44) (r := 14) dX10_heir_44 fX10_35 sh0 rfl (gr0_3 sw) ?_
    refine wp_iload_n (M := mX10_heir) (pc := 47) dX10_heir_47 rfl rfl ?_
    refine wp_iload_n (M := mX10_heir) (pc := 48) dX10_heir_48 rfl rfl ?_
    refine wp_iload_n (M := mX10_heir) (pc := 49) dX10_heir_49 rfl rfl ?_
    refine wp_iconst (M := mX10_heir) (pc := 50) dX10_heir_50 k_iconst_1 ?_
    refine wp_icmp_ne (M := mX10_heir) (pc := 51) (t := 58) dX10_heir_51 (by decide) (fun c2 => ?_) (fun c2 => ?_)
    · refine wp_iconst (M := mX10_heir) (pc := 58) dX10_heir_58 k_iconst_0 ?_
      refine xs_callV (d := d + 2) (M := mX10_heir) (pc := 59) (As := [.int x1, .int x2, .int 0]) (st := []) (c := 6) (ls' := [.ref 14, .int x1, .int x2, .int 0, .null, .null, .null, .null, .null]) dX10_heir_59 oX6_tracedBy nX6_tracedBy lX10_242 vX6_tracedBy sX6_tracedBy rfl sh14 (Nat.le_of_ble_eq_true rfl) rfl (Nat.le_of_ble_eq_true rfl) rfl ?_
      exact p1 c1 c2
    · refine wp_iconst (M := mX10_heir) (pc := 54) dX10_heir_54 k_iconst_1 ?_
      refine wp_goto (M := mX10_heir) (pc := 55) (t := 59) dX10_heir_55 (by decide) ?_
      refine xs_callV (d := d + 2) (M := mX10_heir) (pc := 59) (As := [.int x1, .int x2, .int 1]) (st := []) (c := 6) (ls' := [.ref 14, .int x1, .int x2, .int 1, .null, .null, .null, .null, .null]) dX10_heir_59 oX6_tracedBy nX6_tracedBy lX10_242 vX6_tracedBy sX6_tracedBy rfl sh14 (Nat.le_of_ble_eq_true rfl) rfl (Nat.le_of_ble_eq_true rfl) rfl ?_
      exact p2 c1 c2
  · refine wp_iconst (M := mX10_heir) (pc := 41) dX10_heir_41 k_iconst_m1 ?_
    exact xs_iret (M := mX10_heir) (pc := 42) dX10_heir_42 rfl (p3 c1)
theorem bX10_heir_62 {G : GC} {d : Nat} {sw : Bool} {f : FF} {Q : QQ} {x1 : Int32} {x2 : Int32} {x3 : Int32} {s0 : Int32} (p1 : Q (some (.int s0)) sw f) : XP G mX10_heir (d + 3) 62 [.ref 0, .int x1, .int x2, .int x3] [.int s0] sw f Q := by
  exact xs_iret (M := mX10_heir) (pc := 62) dX10_heir_62 rfl (p1)
theorem bX10_busy_0 {G : GC} {d : Nat} {sw : Bool} {f : FF} {Q : QQ} {x1 : Int32} {x2 : Int32} (p1 : (¬ (1 ≤ x1 ∧ x1 ≤ 10)) → Q (some (.int (-1))) sw f) (p2 : (1 ≤ x1 ∧ x1 ≤ 10) → (0 ≤ x2 ∧ x2 ≤ 1) → XP G mX8_take (d + 2) 0 [.ref 1, .int (2 * x1)] [] sw f (fun v sw' f' => XP G mX10_busy (d + 3) 42 [.ref 0, .int x1, .int x2, .int (b2i (100 ≤ x2 ∧ x2 ≤ 120))] (retst v []) sw' f' Q)) (p3 : (1 ≤ x1 ∧ x1 ≤ 10) → (¬ (0 ≤ x2 ∧ x2 ≤ 1)) → (¬ (100 ≤ x2 ∧ x2 ≤ 120)) → Q (some (.int (-1))) sw f) (p4 : (1 ≤ x1 ∧ x1 ≤ 10) → (¬ (0 ≤ x2 ∧ x2 ≤ 1)) → (100 ≤ x2 ∧ x2 ≤ 120) → XP G mX8_take (d + 2) 0 [.ref 1, .int (2 * x1)] [] sw f (fun v sw' f' => XP G mX10_busy (d + 3) 42 [.ref 0, .int x1, .int x2, .int (b2i (100 ≤ x2 ∧ x2 ≤ 120))] (retst v []) sw' f' Q)) : XP G mX10_busy (d + 3) 0 [.ref 0, .int x1, .int x2, .null] [] sw f Q := by
  refine wp_iload_n (M := mX10_busy) (pc := 0) dX10_busy_0 rfl rfl ?_
  refine wp_bipush (M := mX10_busy) (pc := 1) dX10_busy_1 k_bipush_100 ?_
  refine wp_bipush (M := mX10_busy) (pc := 3) dX10_busy_3 k_bipush_120 ?_
  refine xs_callS (d := d + 2) (M := mX10_busy) (pc := 5) (As := [.int x2, .int 100, .int 120]) (st := []) (ls' := [.int x2, .int 100, .int 120]) dX10_busy_5 oX10_within nX10_within lX10_79 tX10_within (Nat.le_of_ble_eq_true rfl) rfl (Nat.le_of_ble_eq_true rfl) rfl ?_
  refine sp_X10_within   ?_
  refine wp_istore_n (M := mX10_busy) (pc := 8) (ls' := [.ref 0, .int x1, .int x2, .int (b2i (100 ≤ x2 ∧ x2 ≤ 120))]) dX10_busy_8 rfl (by decide) rfl ?_
  refine wp_iload_n (M := mX10_busy) (pc := 9) dX10_busy_9 rfl rfl ?_
  refine wp_iconst (M := mX10_busy) (pc := 10) dX10_busy_10 k_iconst_1 ?_
  refine wp_bipush (M := mX10_busy) (pc := 11) dX10_busy_11 k_bipush_10 ?_
  refine xs_callS (d := d + 2) (M := mX10_busy) (pc := 13) (As := [.int x1, .int 1, .int 10]) (st := []) (ls' := [.int x1, .int 1, .int 10]) dX10_busy_13 oX10_within nX10_within lX10_79 tX10_within (Nat.le_of_ble_eq_true rfl) rfl (Nat.le_of_ble_eq_true rfl) rfl ?_
  refine sp_X10_within   ?_
  refine xs_ifb_eq (M := mX10_busy) (pc := 16) (t := 45) dX10_busy_16 (by decide) (fun c1 => ?_) (fun c1 => ?_)
  · refine wp_iconst (M := mX10_busy) (pc := 45) dX10_busy_45 k_iconst_m1 ?_
    exact xs_iret (M := mX10_busy) (pc := 46) dX10_busy_46 rfl (p1 c1)
  · refine wp_iload_n (M := mX10_busy) (pc := 19) dX10_busy_19 rfl rfl ?_
    refine wp_iconst (M := mX10_busy) (pc := 20) dX10_busy_20 k_iconst_0 ?_
    refine wp_iconst (M := mX10_busy) (pc := 21) dX10_busy_21 k_iconst_1 ?_
    refine xs_callS (d := d + 2) (M := mX10_busy) (pc := 22) (As := [.int x2, .int 0, .int 1]) (st := []) (ls' := [.int x2, .int 0, .int 1]) dX10_busy_22 oX10_within nX10_within lX10_79 tX10_within (Nat.le_of_ble_eq_true rfl) rfl (Nat.le_of_ble_eq_true rfl) rfl ?_
    refine sp_X10_within   ?_
    refine xs_ifb_ne (M := mX10_busy) (pc := 25) (t := 32) dX10_busy_25 (by decide) (fun c2 => ?_) (fun c2 => ?_)
    · refine wp_aload_n (M := mX10_busy) (pc := 32) dX10_busy_32 rfl rfl ?_
      refine xs_getr (M := mX10_busy) (pc := 33) (r := 1) dX10_busy_33 fX10_10 sh0 rfl (gr0_0 sw) ?_
      refine wp_iconst (M := mX10_busy) (pc := 36) dX10_busy_36 k_iconst_2 ?_
      refine wp_iload_n (M := mX10_busy) (pc := 37) dX10_busy_37 rfl rfl ?_
      refine wp_imul (M := mX10_busy) (pc := 38) dX10_busy_38 ?_
      refine xs_callV (d := d + 2) (M := mX10_busy) (pc := 39) (As := [.int (2 * x1)]) (st := []) (c := 8) (ls' := [.ref 1, .int (2 * x1)]) dX10_busy_39 oX8_take nX8_take lX10_117 vX8_take sX8_take rfl sh1 (Nat.le_of_ble_eq_true rfl) rfl (Nat.le_of_ble_eq_true rfl) rfl ?_
      exact p2 c1 c2
    · refine wp_iload_n (M := mX10_busy) (pc := 28) dX10_busy_28 rfl rfl ?_
      refine xs_ifb_eq (M := mX10_busy) (pc := 29) (t := 45) dX10_busy_29 (by decide) (fun c3 => ?_) (fun c3 => ?_)
      · refine wp_iconst (M := mX10_busy) (pc := 45) dX10_busy_45 k_iconst_m1 ?_
        exact xs_iret (M := mX10_busy) (pc := 46) dX10_busy_46 rfl (p3 c1 c2 c3)
      · refine wp_aload_n (M := mX10_busy) (pc := 32) dX10_busy_32 rfl rfl ?_
        refine xs_getr (M := mX10_busy) (pc := 33) (r := 1) dX10_busy_33 fX10_10 sh0 rfl (gr0_0 sw) ?_
        refine wp_iconst (M := mX10_busy) (pc := 36) dX10_busy_36 k_iconst_2 ?_
        refine wp_iload_n (M := mX10_busy) (pc := 37) dX10_busy_37 rfl rfl ?_
        refine wp_imul (M := mX10_busy) (pc := 38) dX10_busy_38 ?_
        refine xs_callV (d := d + 2) (M := mX10_busy) (pc := 39) (As := [.int (2 * x1)]) (st := []) (c := 8) (ls' := [.ref 1, .int (2 * x1)]) dX10_busy_39 oX8_take nX8_take lX10_117 vX8_take sX8_take rfl sh1 (Nat.le_of_ble_eq_true rfl) rfl (Nat.le_of_ble_eq_true rfl) rfl ?_
        exact p4 c1 c2 c3
theorem bX10_busy_42 {G : GC} {d : Nat} {sw : Bool} {f : FF} {Q : QQ} {x1 : Int32} {x2 : Int32} {x3 : Int32} {s0 : Int32} (p1 : (¬ s0 = 0) → XP G mX6_readHours (d + 2) 0 [.ref 14, .int x1, .null] [] sw f (fun v sw' f' => XP G mX10_busy (d + 3) 55 [.ref 0, .int x1, .int x2, .int x3] (retst v []) sw' f' Q)) (p2 : (s0 = 0) → Q (some (.int (-1))) sw f) : XP G mX10_busy (d + 3) 42 [.ref 0, .int x1, .int x2, .int x3] [.int s0] sw f Q := by
  refine wp_if_ne (M := mX10_busy) (pc := 42) (t := 47) dX10_busy_42 (by decide) (fun c1 => ?_) (fun c1 => ?_)
  · refine wp_aload_n (M := mX10_busy) (pc := 47) dX10_busy_47 rfl rfl ?_
    refine xs_getr (M := mX10_busy) (pc := 48) (r := 14) dX10_busy_48 fX10_35 sh0 rfl (gr0_3 sw) ?_
    refine wp_iload_n (M := mX10_busy) (pc := 51) dX10_busy_51 rfl rfl ?_
    refine xs_callV (d := d + 2) (M := mX10_busy) (pc := 52) (As := [.int x1]) (st := []) (c := 6) (ls' := [.ref 14, .int x1, .null]) dX10_busy_52 oX6_readHours nX6_readHours lX10_245 vX6_readHours sX6_readHours rfl sh14 (Nat.le_of_ble_eq_true rfl) rfl (Nat.le_of_ble_eq_true rfl) rfl ?_
    exact p1 c1
  · refine wp_iconst (M := mX10_busy) (pc := 45) dX10_busy_45 k_iconst_m1 ?_
    exact xs_iret (M := mX10_busy) (pc := 46) dX10_busy_46 rfl (p2 c1)
theorem bX10_busy_55 {G : GC} {d : Nat} {sw : Bool} {f : FF} {Q : QQ} {x1 : Int32} {x2 : Int32} {x3 : Int32} {s0 : Int32} (p1 : (¬ s0 = 0) → (x3 = 0) → (¬ x2 = 1) → XP G mX6_busiest (d + 2) 0 [.ref 14, .int x1, .int 0, .null, .null, .null, .null, .null] [] sw f (fun v sw' f' => XP G mX10_busy (d + 3) 98 [.ref 0, .int x1, .int x2, .int x3] (retst v []) sw' f' Q)) (p2 : (¬ s0 = 0) → (x3 = 0) → (x2 = 1) → XP G mX6_busiest (d + 2) 0 [.ref 14, .int x1, .int 1, .null, .null, .null, .null, .null] [] sw f (fun v sw' f' => XP G mX10_busy (d + 3) 98 [.ref 0, .int x1, .int x2, .int x3] (retst v []) sw' f' Q)) (p3 : (¬ s0 = 0) → (¬ x3 = 0) → XP G mX6_fewestCircuits (d + 2) 0 [.ref 14, .int x1, .int (x2 - 100), .null] [] sw f (fun v sw' f' => XP G mX10_busy (d + 3) 77 [.ref 0, .int x1, .int x2, .int x3] (retst v []) sw' f' Q)) (p4 : (s0 = 0) → Q (some (.int (-2))) sw f) : XP G mX10_busy (d + 3) 55 [.ref 0, .int x1, .int x2, .int x3] [.int s0] sw f Q := by
  refine wp_if_ne (M := mX10_busy) (pc := 55) (t := 61) dX10_busy_55 (by decide) (fun c1 => ?_) (fun c1 => ?_)
  · refine wp_iload_n (M := mX10_busy) (pc := 61) dX10_busy_61 rfl rfl ?_
    refine wp_if_eq (M := mX10_busy) (pc := 62) (t := 80) dX10_busy_62 (by decide) (fun c2 => ?_) (fun c2 => ?_)
    · refine wp_aload_n (M := mX10_busy) (pc := 80) dX10_busy_80 rfl rfl ?_
      refine xs_getr (M := mX10_busy) (pc := 81) (r := 14) dX10_busy_81 fX10_35 sh0 rfl (gr0_3 sw) ?_
      refine wp_iload_n (M := mX10_busy) (pc := 84) dX10_busy_84 rfl rfl ?_
      refine wp_iload_n (M := mX10_busy) (pc := 85) dX10_busy_85 rfl rfl ?_
      refine wp_iconst (M := mX10_busy) (pc := 86) dX10_busy_86 k_iconst_1 ?_
      refine wp_icmp_ne (M := mX10_busy) (pc := 87) (t := 94) dX10_busy_87 (by decide) (fun c3 => ?_) (fun c3 => ?_)
      · refine wp_iconst (M := mX10_busy) (pc := 94) dX10_busy_94 k_iconst_0 ?_
        refine xs_callV (d := d + 2) (M := mX10_busy) (pc := 95) (As := [.int x1, .int 0]) (st := []) (c := 6) (ls' := [.ref 14, .int x1, .int 0, .null, .null, .null, .null, .null]) dX10_busy_95 oX6_busiest nX6_busiest lX10_251 vX6_busiest sX6_busiest rfl sh14 (Nat.le_of_ble_eq_true rfl) rfl (Nat.le_of_ble_eq_true rfl) rfl ?_
        exact p1 c1 c2 c3
      · refine wp_iconst (M := mX10_busy) (pc := 90) dX10_busy_90 k_iconst_1 ?_
        refine wp_goto (M := mX10_busy) (pc := 91) (t := 95) dX10_busy_91 (by decide) ?_
        refine xs_callV (d := d + 2) (M := mX10_busy) (pc := 95) (As := [.int x1, .int 1]) (st := []) (c := 6) (ls' := [.ref 14, .int x1, .int 1, .null, .null, .null, .null, .null]) dX10_busy_95 oX6_busiest nX6_busiest lX10_251 vX6_busiest sX6_busiest rfl sh14 (Nat.le_of_ble_eq_true rfl) rfl (Nat.le_of_ble_eq_true rfl) rfl ?_
        exact p2 c1 c2 c3
    · refine wp_aload_n (M := mX10_busy) (pc := 65) dX10_busy_65 rfl rfl ?_
      refine xs_getr (M := mX10_busy) (pc := 66) (r := 14) dX10_busy_66 fX10_35 sh0 rfl (gr0_3 sw) ?_
      refine wp_iload_n (M := mX10_busy) (pc := 69) dX10_busy_69 rfl rfl ?_
      refine wp_iload_n (M := mX10_busy) (pc := 70) dX10_busy_70 rfl rfl ?_
      refine wp_bipush (M := mX10_busy) (pc := 71) dX10_busy_71 k_bipush_100 ?_
      refine wp_isub (M := mX10_busy) (pc := 73) dX10_busy_73 ?_
      refine xs_callV (d := d + 2) (M := mX10_busy) (pc := 74) (As := [.int x1, .int (x2 - 100)]) (st := []) (c := 6) (ls' := [.ref 14, .int x1, .int (x2 - 100), .null]) dX10_busy_74 oX6_fewestCircuits nX6_fewestCircuits lX10_248 vX6_fewestCircuits sX6_fewestCircuits rfl sh14 (Nat.le_of_ble_eq_true rfl) rfl (Nat.le_of_ble_eq_true rfl) rfl ?_
      exact p3 c1 c2
  · refine wp_bipush (M := mX10_busy) (pc := 58) dX10_busy_58 k_bipush_m2 ?_
    exact xs_iret (M := mX10_busy) (pc := 60) dX10_busy_60 rfl (p4 c1)
theorem bX10_busy_77 {G : GC} {d : Nat} {sw : Bool} {f : FF} {Q : QQ} {x1 : Int32} {x2 : Int32} {x3 : Int32} {s0 : Int32} (p1 : Q (some (.int s0)) sw f) : XP G mX10_busy (d + 3) 77 [.ref 0, .int x1, .int x2, .int x3] [.int s0] sw f Q := by
  refine wp_goto (M := mX10_busy) (pc := 77) (t := 98) dX10_busy_77 (by decide) ?_
  exact xs_iret (M := mX10_busy) (pc := 98) dX10_busy_98 rfl (p1)
theorem bX10_busy_98 {G : GC} {d : Nat} {sw : Bool} {f : FF} {Q : QQ} {x1 : Int32} {x2 : Int32} {x3 : Int32} {s0 : Int32} (p1 : Q (some (.int s0)) sw f) : XP G mX10_busy (d + 3) 98 [.ref 0, .int x1, .int x2, .int x3] [.int s0] sw f Q := by
  exact xs_iret (M := mX10_busy) (pc := 98) dX10_busy_98 rfl (p1)
theorem bX10_cheapest_0 {G : GC} {d : Nat} {sw : Bool} {f : FF} {Q : QQ} {x1 : Int32} {x2 : Int32} {x3 : Int32} (p1 : (x3 = 100) → (¬ (1 ≤ x1 ∧ x1 ≤ 5)) → Q (some (.int (-1))) sw f) (p2 : (x3 = 100) → (1 ≤ x1 ∧ x1 ≤ 5) → (¬ (1 ≤ x2 ∧ x2 ≤ 240)) → Q (some (.int (-1))) sw f) (p3 : (x3 = 100) → (1 ≤ x1 ∧ x1 ≤ 5) → (1 ≤ x2 ∧ x2 ≤ 240) → XP G mX8_take (d + 2) 0 [.ref 1, .int (2 * x1)] [] sw f (fun v sw' f' => XP G mX10_cheapest (d + 3) 59 [.ref 0, .int x1, .int x2, .int x3, .int 1] (retst v []) sw' f' Q)) (p4 : (¬ x3 = 100) → (¬ (0 ≤ x3 ∧ x3 ≤ (x1 - 1))) → (¬ (1 ≤ x1 ∧ x1 ≤ 5)) → Q (some (.int (-1))) sw f) (p5 : (¬ x3 = 100) → (¬ (0 ≤ x3 ∧ x3 ≤ (x1 - 1))) → (1 ≤ x1 ∧ x1 ≤ 5) → (¬ (1 ≤ x2 ∧ x2 ≤ 240)) → Q (some (.int (-1))) sw f) (p6 : (¬ x3 = 100) → (¬ (0 ≤ x3 ∧ x3 ≤ (x1 - 1))) → (1 ≤ x1 ∧ x1 ≤ 5) → (1 ≤ x2 ∧ x2 ≤ 240) → Q (some (.int (-1))) sw f) (p7 : (¬ x3 = 100) → (0 ≤ x3 ∧ x3 ≤ (x1 - 1)) → (¬ (1 ≤ x1 ∧ x1 ≤ 5)) → Q (some (.int (-1))) sw f) (p8 : (¬ x3 = 100) → (0 ≤ x3 ∧ x3 ≤ (x1 - 1)) → (1 ≤ x1 ∧ x1 ≤ 5) → (¬ (1 ≤ x2 ∧ x2 ≤ 240)) → Q (some (.int (-1))) sw f) (p9 : (¬ x3 = 100) → (0 ≤ x3 ∧ x3 ≤ (x1 - 1)) → (1 ≤ x1 ∧ x1 ≤ 5) → (1 ≤ x2 ∧ x2 ≤ 240) → XP G mX8_take (d + 2) 0 [.ref 1, .int (2 * x1)] [] sw f (fun v sw' f' => XP G mX10_cheapest (d + 3) 59 [.ref 0, .int x1, .int x2, .int x3, .int 1] (retst v []) sw' f' Q)) : XP G mX10_cheapest (d + 3) 0 [.ref 0, .int x1, .int x2, .int x3, .null] [] sw f Q := by
  refine wp_iload_n (M := mX10_cheapest) (pc := 0) dX10_cheapest_0 rfl rfl ?_
  refine wp_bipush (M := mX10_cheapest) (pc := 1) dX10_cheapest_1 k_bipush_100 ?_
  refine wp_icmp_eq (M := mX10_cheapest) (pc := 3) (t := 17) dX10_cheapest_3 (by decide) (fun c1 => ?_) (fun c1 => ?_)
  · refine wp_iconst (M := mX10_cheapest) (pc := 17) dX10_cheapest_17 k_iconst_1 ?_
    refine wp_goto (M := mX10_cheapest) (pc := 18) (t := 22) dX10_cheapest_18 (by decide) ?_
    refine wp_istore (M := mX10_cheapest) (pc := 22) (ls' := [.ref 0, .int x1, .int x2, .int x3, .int 1]) dX10_cheapest_22 (by decide) rfl ?_
    refine wp_iload_n (M := mX10_cheapest) (pc := 24) dX10_cheapest_24 rfl rfl ?_
    refine wp_iconst (M := mX10_cheapest) (pc := 25) dX10_cheapest_25 k_iconst_1 ?_
    refine wp_iconst (M := mX10_cheapest) (pc := 26) dX10_cheapest_26 k_iconst_5 ?_
    refine xs_callS (d := d + 2) (M := mX10_cheapest) (pc := 27) (As := [.int x1, .int 1, .int 5]) (st := []) (ls' := [.int x1, .int 1, .int 5]) dX10_cheapest_27 oX10_within nX10_within lX10_79 tX10_within (Nat.le_of_ble_eq_true rfl) rfl (Nat.le_of_ble_eq_true rfl) rfl ?_
    refine sp_X10_within   ?_
    refine xs_ifb_eq (M := mX10_cheapest) (pc := 30) (t := 62) dX10_cheapest_30 (by decide) (fun c2 => ?_) (fun c2 => ?_)
    · refine wp_iconst (M := mX10_cheapest) (pc := 62) dX10_cheapest_62 k_iconst_m1 ?_
      exact xs_iret (M := mX10_cheapest) (pc := 63) dX10_cheapest_63 rfl (p1 c1 c2)
    · refine wp_iload_n (M := mX10_cheapest) (pc := 33) dX10_cheapest_33 rfl rfl ?_
      refine wp_iconst (M := mX10_cheapest) (pc := 34) dX10_cheapest_34 k_iconst_1 ?_
      refine wp_sipush (M := mX10_cheapest) (pc := 35) dX10_cheapest_35 k_sipush_240 ?_
      refine xs_callS (d := d + 2) (M := mX10_cheapest) (pc := 38) (As := [.int x2, .int 1, .int 240]) (st := []) (ls' := [.int x2, .int 1, .int 240]) dX10_cheapest_38 oX10_within nX10_within lX10_79 tX10_within (Nat.le_of_ble_eq_true rfl) rfl (Nat.le_of_ble_eq_true rfl) rfl ?_
      refine sp_X10_within   ?_
      refine xs_ifb_eq (M := mX10_cheapest) (pc := 41) (t := 62) dX10_cheapest_41 (by decide) (fun c3 => ?_) (fun c3 => ?_)
      · refine wp_iconst (M := mX10_cheapest) (pc := 62) dX10_cheapest_62 k_iconst_m1 ?_
        exact xs_iret (M := mX10_cheapest) (pc := 63) dX10_cheapest_63 rfl (p2 c1 c2 c3)
      · refine wp_iload (M := mX10_cheapest) (pc := 44) dX10_cheapest_44 rfl ?_
        refine wp_if_eq (M := mX10_cheapest) (pc := 46) (t := 62) dX10_cheapest_46 (by decide) (fun c => absurd c (by decide)) (fun _ => ?_)
        refine wp_aload_n (M := mX10_cheapest) (pc := 49) dX10_cheapest_49 rfl rfl ?_
        refine xs_getr (M := mX10_cheapest) (pc := 50) (r := 1) dX10_cheapest_50 fX10_10 sh0 rfl (gr0_0 sw) ?_
        refine wp_iconst (M := mX10_cheapest) (pc := 53) dX10_cheapest_53 k_iconst_2 ?_
        refine wp_iload_n (M := mX10_cheapest) (pc := 54) dX10_cheapest_54 rfl rfl ?_
        refine wp_imul (M := mX10_cheapest) (pc := 55) dX10_cheapest_55 ?_
        refine xs_callV (d := d + 2) (M := mX10_cheapest) (pc := 56) (As := [.int (2 * x1)]) (st := []) (c := 8) (ls' := [.ref 1, .int (2 * x1)]) dX10_cheapest_56 oX8_take nX8_take lX10_117 vX8_take sX8_take rfl sh1 (Nat.le_of_ble_eq_true rfl) rfl (Nat.le_of_ble_eq_true rfl) rfl ?_
        exact p3 c1 c2 c3
  · refine wp_iload_n (M := mX10_cheapest) (pc := 6) dX10_cheapest_6 rfl rfl ?_
    refine wp_iconst (M := mX10_cheapest) (pc := 7) dX10_cheapest_7 k_iconst_0 ?_
    refine wp_iload_n (M := mX10_cheapest) (pc := 8) dX10_cheapest_8 rfl rfl ?_
    refine wp_iconst (M := mX10_cheapest) (pc := 9) dX10_cheapest_9 k_iconst_1 ?_
    refine wp_isub (M := mX10_cheapest) (pc := 10) dX10_cheapest_10 ?_
    refine xs_callS (d := d + 2) (M := mX10_cheapest) (pc := 11) (As := [.int x3, .int 0, .int (x1 - 1)]) (st := []) (ls' := [.int x3, .int 0, .int (x1 - 1)]) dX10_cheapest_11 oX10_within nX10_within lX10_79 tX10_within (Nat.le_of_ble_eq_true rfl) rfl (Nat.le_of_ble_eq_true rfl) rfl ?_
    refine sp_X10_within   ?_
    refine xs_ifb_eq (M := mX10_cheapest) (pc := 14) (t := 21) dX10_cheapest_14 (by decide) (fun c4 => ?_) (fun c4 => ?_)
    · refine wp_iconst (M := mX10_cheapest) (pc := 21) dX10_cheapest_21 k_iconst_0 ?_
      refine wp_istore (M := mX10_cheapest) (pc := 22) (ls' := [.ref 0, .int x1, .int x2, .int x3, .int 0]) dX10_cheapest_22 (by decide) rfl ?_
      refine wp_iload_n (M := mX10_cheapest) (pc := 24) dX10_cheapest_24 rfl rfl ?_
      refine wp_iconst (M := mX10_cheapest) (pc := 25) dX10_cheapest_25 k_iconst_1 ?_
      refine wp_iconst (M := mX10_cheapest) (pc := 26) dX10_cheapest_26 k_iconst_5 ?_
      refine xs_callS (d := d + 2) (M := mX10_cheapest) (pc := 27) (As := [.int x1, .int 1, .int 5]) (st := []) (ls' := [.int x1, .int 1, .int 5]) dX10_cheapest_27 oX10_within nX10_within lX10_79 tX10_within (Nat.le_of_ble_eq_true rfl) rfl (Nat.le_of_ble_eq_true rfl) rfl ?_
      refine sp_X10_within   ?_
      refine xs_ifb_eq (M := mX10_cheapest) (pc := 30) (t := 62) dX10_cheapest_30 (by decide) (fun c5 => ?_) (fun c5 => ?_)
      · refine wp_iconst (M := mX10_cheapest) (pc := 62) dX10_cheapest_62 k_iconst_m1 ?_
        exact xs_iret (M := mX10_cheapest) (pc := 63) dX10_cheapest_63 rfl (p4 c1 c4 c5)
      · refine wp_iload_n (M := mX10_cheapest) (pc := 33) dX10_cheapest_33 rfl rfl ?_
        refine wp_iconst (M := mX10_cheapest) (pc := 34) dX10_cheapest_34 k_iconst_1 ?_
        refine wp_sipush (M := mX10_cheapest) (pc := 35) dX10_cheapest_35 k_sipush_240 ?_
        refine xs_callS (d := d + 2) (M := mX10_cheapest) (pc := 38) (As := [.int x2, .int 1, .int 240]) (st := []) (ls' := [.int x2, .int 1, .int 240]) dX10_cheapest_38 oX10_within nX10_within lX10_79 tX10_within (Nat.le_of_ble_eq_true rfl) rfl (Nat.le_of_ble_eq_true rfl) rfl ?_
        refine sp_X10_within   ?_
        refine xs_ifb_eq (M := mX10_cheapest) (pc := 41) (t := 62) dX10_cheapest_41 (by decide) (fun c6 => ?_) (fun c6 => ?_)
        · refine wp_iconst (M := mX10_cheapest) (pc := 62) dX10_cheapest_62 k_iconst_m1 ?_
          exact xs_iret (M := mX10_cheapest) (pc := 63) dX10_cheapest_63 rfl (p5 c1 c4 c5 c6)
        · refine wp_iload (M := mX10_cheapest) (pc := 44) dX10_cheapest_44 rfl ?_
          refine wp_if_eq (M := mX10_cheapest) (pc := 46) (t := 62) dX10_cheapest_46 (by decide) (fun _ => ?_) (fun c => absurd c (by decide))
          refine wp_iconst (M := mX10_cheapest) (pc := 62) dX10_cheapest_62 k_iconst_m1 ?_
          exact xs_iret (M := mX10_cheapest) (pc := 63) dX10_cheapest_63 rfl (p6 c1 c4 c5 c6)
    · refine wp_iconst (M := mX10_cheapest) (pc := 17) dX10_cheapest_17 k_iconst_1 ?_
      refine wp_goto (M := mX10_cheapest) (pc := 18) (t := 22) dX10_cheapest_18 (by decide) ?_
      refine wp_istore (M := mX10_cheapest) (pc := 22) (ls' := [.ref 0, .int x1, .int x2, .int x3, .int 1]) dX10_cheapest_22 (by decide) rfl ?_
      refine wp_iload_n (M := mX10_cheapest) (pc := 24) dX10_cheapest_24 rfl rfl ?_
      refine wp_iconst (M := mX10_cheapest) (pc := 25) dX10_cheapest_25 k_iconst_1 ?_
      refine wp_iconst (M := mX10_cheapest) (pc := 26) dX10_cheapest_26 k_iconst_5 ?_
      refine xs_callS (d := d + 2) (M := mX10_cheapest) (pc := 27) (As := [.int x1, .int 1, .int 5]) (st := []) (ls' := [.int x1, .int 1, .int 5]) dX10_cheapest_27 oX10_within nX10_within lX10_79 tX10_within (Nat.le_of_ble_eq_true rfl) rfl (Nat.le_of_ble_eq_true rfl) rfl ?_
      refine sp_X10_within   ?_
      refine xs_ifb_eq (M := mX10_cheapest) (pc := 30) (t := 62) dX10_cheapest_30 (by decide) (fun c7 => ?_) (fun c7 => ?_)
      · refine wp_iconst (M := mX10_cheapest) (pc := 62) dX10_cheapest_62 k_iconst_m1 ?_
        exact xs_iret (M := mX10_cheapest) (pc := 63) dX10_cheapest_63 rfl (p7 c1 c4 c7)
      · refine wp_iload_n (M := mX10_cheapest) (pc := 33) dX10_cheapest_33 rfl rfl ?_
        refine wp_iconst (M := mX10_cheapest) (pc := 34) dX10_cheapest_34 k_iconst_1 ?_
        refine wp_sipush (M := mX10_cheapest) (pc := 35) dX10_cheapest_35 k_sipush_240 ?_
        refine xs_callS (d := d + 2) (M := mX10_cheapest) (pc := 38) (As := [.int x2, .int 1, .int 240]) (st := []) (ls' := [.int x2, .int 1, .int 240]) dX10_cheapest_38 oX10_within nX10_within lX10_79 tX10_within (Nat.le_of_ble_eq_true rfl) rfl (Nat.le_of_ble_eq_true rfl) rfl ?_
        refine sp_X10_within   ?_
        refine xs_ifb_eq (M := mX10_cheapest) (pc := 41) (t := 62) dX10_cheapest_41 (by decide) (fun c8 => ?_) (fun c8 => ?_)
        · refine wp_iconst (M := mX10_cheapest) (pc := 62) dX10_cheapest_62 k_iconst_m1 ?_
          exact xs_iret (M := mX10_cheapest) (pc := 63) dX10_cheapest_63 rfl (p8 c1 c4 c7 c8)
        · refine wp_iload (M := mX10_cheapest) (pc := 44) dX10_cheapest_44 rfl ?_
          refine wp_if_eq (M := mX10_cheapest) (pc := 46) (t := 62) dX10_cheapest_46 (by decide) (fun c => absurd c (by decide)) (fun _ => ?_)
          refine wp_aload_n (M := mX10_cheapest) (pc := 49) dX10_cheapest_49 rfl rfl ?_
          refine xs_getr (M := mX10_cheapest) (pc := 50) (r := 1) dX10_cheapest_50 fX10_10 sh0 rfl (gr0_0 sw) ?_
          refine wp_iconst (M := mX10_cheapest) (pc := 53) dX10_cheapest_53 k_iconst_2 ?_
          refine wp_iload_n (M := mX10_cheapest) (pc := 54) dX10_cheapest_54 rfl rfl ?_
          refine wp_imul (M := mX10_cheapest) (pc := 55) dX10_cheapest_55 ?_
          refine xs_callV (d := d + 2) (M := mX10_cheapest) (pc := 56) (As := [.int (2 * x1)]) (st := []) (c := 8) (ls' := [.ref 1, .int (2 * x1)]) dX10_cheapest_56 oX8_take nX8_take lX10_117 vX8_take sX8_take rfl sh1 (Nat.le_of_ble_eq_true rfl) rfl (Nat.le_of_ble_eq_true rfl) rfl ?_
          exact p9 c1 c4 c7 c8
theorem bX10_cheapest_59 {G : GC} {d : Nat} {sw : Bool} {f : FF} {Q : QQ} {x1 : Int32} {x2 : Int32} {x3 : Int32} {x4 : Int32} {s0 : Int32} (p1 : (¬ s0 = 0) → XP G mX6_readTariffs (d + 2) 0 [.ref 14, .int x1, .null] [] sw f (fun v sw' f' => XP G mX10_cheapest (d + 3) 72 [.ref 0, .int x1, .int x2, .int x3, .int x4] (retst v []) sw' f' Q)) (p2 : (s0 = 0) → Q (some (.int (-1))) sw f) : XP G mX10_cheapest (d + 3) 59 [.ref 0, .int x1, .int x2, .int x3, .int x4] [.int s0] sw f Q := by
  refine wp_if_ne (M := mX10_cheapest) (pc := 59) (t := 64) dX10_cheapest_59 (by decide) (fun c1 => ?_) (fun c1 => ?_)
  · refine wp_aload_n (M := mX10_cheapest) (pc := 64) dX10_cheapest_64 rfl rfl ?_
    refine xs_getr (M := mX10_cheapest) (pc := 65) (r := 14) dX10_cheapest_65 fX10_35 sh0 rfl (gr0_3 sw) ?_
    refine wp_iload_n (M := mX10_cheapest) (pc := 68) dX10_cheapest_68 rfl rfl ?_
    refine xs_callV (d := d + 2) (M := mX10_cheapest) (pc := 69) (As := [.int x1]) (st := []) (c := 6) (ls' := [.ref 14, .int x1, .null]) dX10_cheapest_69 oX6_readTariffs nX6_readTariffs lX10_255 vX6_readTariffs sX6_readTariffs rfl sh14 (Nat.le_of_ble_eq_true rfl) rfl (Nat.le_of_ble_eq_true rfl) rfl ?_
    exact p1 c1
  · refine wp_iconst (M := mX10_cheapest) (pc := 62) dX10_cheapest_62 k_iconst_m1 ?_
    exact xs_iret (M := mX10_cheapest) (pc := 63) dX10_cheapest_63 rfl (p2 c1)
theorem bX10_cheapest_72 {G : GC} {d : Nat} {sw : Bool} {f : FF} {Q : QQ} {x1 : Int32} {x2 : Int32} {x3 : Int32} {x4 : Int32} {s0 : Int32} (p1 : (¬ s0 = 0) → (¬ x3 = 100) → XP G mX6_howOften (d + 2) 0 [.ref 14, .int x1, .int x2, .int x3, .null, .null, .null, .null] [] sw f (fun v sw' f' => XP G mX10_cheapest (d + 3) 107 [.ref 0, .int x1, .int x2, .int x3, .int x4] (retst v []) sw' f' Q)) (p2 : (¬ s0 = 0) → (x3 = 100) → XP G mX6_leastPence (d + 2) 0 [.ref 14, .int 0, .int x1, .int x2, .null, .null] [] sw f (fun v sw' f' => XP G mX10_cheapest (d + 3) 94 [.ref 0, .int x1, .int x2, .int x3, .int x4] (retst v []) sw' f' Q)) (p3 : (s0 = 0) → Q (some (.int (-2))) sw f) : XP G mX10_cheapest (d + 3) 72 [.ref 0, .int x1, .int x2, .int x3, .int x4] [.int s0] sw f Q := by
  refine wp_if_ne (M := mX10_cheapest) (pc := 72) (t := 78) dX10_cheapest_72 (by decide) (fun c1 => ?_) (fun c1 => ?_)
  · refine wp_iload_n (M := mX10_cheapest) (pc := 78) dX10_cheapest_78 rfl rfl ?_
    refine wp_bipush (M := mX10_cheapest) (pc := 79) dX10_cheapest_79 k_bipush_100 ?_
    refine wp_icmp_ne (M := mX10_cheapest) (pc := 81) (t := 97) dX10_cheapest_81 (by decide) (fun c2 => ?_) (fun c2 => ?_)
    · refine wp_aload_n (M := mX10_cheapest) (pc := 97) dX10_cheapest_97 rfl rfl ?_
      refine xs_getr (M := mX10_cheapest) (pc := 98) (r := 14) dX10_cheapest_98 fX10_35 sh0 rfl (gr0_3 sw) ?_
      refine wp_iload_n (M := mX10_cheapest) (pc := 101) dX10_cheapest_101 rfl rfl ?_
      refine wp_iload_n (M := mX10_cheapest) (pc := 102) dX10_cheapest_102 rfl rfl ?_
      refine wp_iload_n (M := mX10_cheapest) (pc := 103) dX10_cheapest_103 rfl rfl ?_
      refine xs_callV (d := d + 2) (M := mX10_cheapest) (pc := 104) (As := [.int x1, .int x2, .int x3]) (st := []) (c := 6) (ls' := [.ref 14, .int x1, .int x2, .int x3, .null, .null, .null, .null]) dX10_cheapest_104 oX6_howOften nX6_howOften lX10_261 vX6_howOften sX6_howOften rfl sh14 (Nat.le_of_ble_eq_true rfl) rfl (Nat.le_of_ble_eq_true rfl) rfl ?_
      exact p1 c1 c2
    · refine wp_aload_n (M := mX10_cheapest) (pc := 84) dX10_cheapest_84 rfl rfl ?_
      refine xs_getr (M := mX10_cheapest) (pc := 85) (r := 14) dX10_cheapest_85 fX10_35 sh0 rfl (gr0_3 sw) ?_
      refine wp_iconst (M := mX10_cheapest) (pc := 88) dX10_cheapest_88 k_iconst_0 ?_
      refine wp_iload_n (M := mX10_cheapest) (pc := 89) dX10_cheapest_89 rfl rfl ?_
      refine wp_iload_n (M := mX10_cheapest) (pc := 90) dX10_cheapest_90 rfl rfl ?_
      refine xs_callV (d := d + 2) (M := mX10_cheapest) (pc := 91) (As := [.int 0, .int x1, .int x2]) (st := []) (c := 6) (ls' := [.ref 14, .int 0, .int x1, .int x2, .null, .null]) dX10_cheapest_91 oX6_leastPence nX6_leastPence lX10_258 vX6_leastPence sX6_leastPence rfl sh14 (Nat.le_of_ble_eq_true rfl) rfl (Nat.le_of_ble_eq_true rfl) rfl ?_
      exact p2 c1 c2
  · refine wp_bipush (M := mX10_cheapest) (pc := 75) dX10_cheapest_75 k_bipush_m2 ?_
    exact xs_iret (M := mX10_cheapest) (pc := 77) dX10_cheapest_77 rfl (p3 c1)
theorem bX10_cheapest_94 {G : GC} {d : Nat} {sw : Bool} {f : FF} {Q : QQ} {x1 : Int32} {x2 : Int32} {x3 : Int32} {x4 : Int32} {s0 : Int32} (p1 : Q (some (.int s0)) sw f) : XP G mX10_cheapest (d + 3) 94 [.ref 0, .int x1, .int x2, .int x3, .int x4] [.int s0] sw f Q := by
  refine wp_goto (M := mX10_cheapest) (pc := 94) (t := 107) dX10_cheapest_94 (by decide) ?_
  exact xs_iret (M := mX10_cheapest) (pc := 107) dX10_cheapest_107 rfl (p1)
theorem bX10_cheapest_107 {G : GC} {d : Nat} {sw : Bool} {f : FF} {Q : QQ} {x1 : Int32} {x2 : Int32} {x3 : Int32} {x4 : Int32} {s0 : Int32} (p1 : Q (some (.int s0)) sw f) : XP G mX10_cheapest (d + 3) 107 [.ref 0, .int x1, .int x2, .int x3, .int x4] [.int s0] sw f Q := by
  exact xs_iret (M := mX10_cheapest) (pc := 107) dX10_cheapest_107 rfl (p1)
theorem bX10_told_0 {G : GC} {d : Nat} {sw : Bool} {f : FF} {Q : QQ} {x1 : Int32} {x2 : Int32} (p1 : (¬ (2 ≤ x1 ∧ x1 ≤ 16)) → Q (some (.int (-1))) sw f) (p2 : (2 ≤ x1 ∧ x1 ≤ 16) → (¬ (0 ≤ x2 ∧ x2 ≤ 1)) → Q (some (.int (-1))) sw f) (p3 : (2 ≤ x1 ∧ x1 ≤ 16) → (0 ≤ x2 ∧ x2 ≤ 1) → XP G mX8_take (d + 2) 0 [.ref 1, .int x1] [] sw f (fun v sw' f' => XP G mX10_told (d + 3) 27 [.ref 0, .int x1, .int x2] (retst v []) sw' f' Q)) : XP G mX10_told (d + 3) 0 [.ref 0, .int x1, .int x2] [] sw f Q := by
  refine wp_iload_n (M := mX10_told) (pc := 0) dX10_told_0 rfl rfl ?_
  refine wp_iconst (M := mX10_told) (pc := 1) dX10_told_1 k_iconst_2 ?_
  refine wp_bipush (M := mX10_told) (pc := 2) dX10_told_2 k_bipush_16 ?_
  refine xs_callS (d := d + 2) (M := mX10_told) (pc := 4) (As := [.int x1, .int 2, .int 16]) (st := []) (ls' := [.int x1, .int 2, .int 16]) dX10_told_4 oX10_within nX10_within lX10_79 tX10_within (Nat.le_of_ble_eq_true rfl) rfl (Nat.le_of_ble_eq_true rfl) rfl ?_
  refine sp_X10_within   ?_
  refine xs_ifb_eq (M := mX10_told) (pc := 7) (t := 30) dX10_told_7 (by decide) (fun c1 => ?_) (fun c1 => ?_)
  · refine wp_iconst (M := mX10_told) (pc := 30) dX10_told_30 k_iconst_m1 ?_
    exact xs_iret (M := mX10_told) (pc := 31) dX10_told_31 rfl (p1 c1)
  · refine wp_iload_n (M := mX10_told) (pc := 10) dX10_told_10 rfl rfl ?_
    refine wp_iconst (M := mX10_told) (pc := 11) dX10_told_11 k_iconst_0 ?_
    refine wp_iconst (M := mX10_told) (pc := 12) dX10_told_12 k_iconst_1 ?_
    refine xs_callS (d := d + 2) (M := mX10_told) (pc := 13) (As := [.int x2, .int 0, .int 1]) (st := []) (ls' := [.int x2, .int 0, .int 1]) dX10_told_13 oX10_within nX10_within lX10_79 tX10_within (Nat.le_of_ble_eq_true rfl) rfl (Nat.le_of_ble_eq_true rfl) rfl ?_
    refine sp_X10_within   ?_
    refine xs_ifb_eq (M := mX10_told) (pc := 16) (t := 30) dX10_told_16 (by decide) (fun c2 => ?_) (fun c2 => ?_)
    · refine wp_iconst (M := mX10_told) (pc := 30) dX10_told_30 k_iconst_m1 ?_
      exact xs_iret (M := mX10_told) (pc := 31) dX10_told_31 rfl (p2 c1 c2)
    · refine wp_aload_n (M := mX10_told) (pc := 19) dX10_told_19 rfl rfl ?_
      refine xs_getr (M := mX10_told) (pc := 20) (r := 1) dX10_told_20 fX10_10 sh0 rfl (gr0_0 sw) ?_
      refine wp_iload_n (M := mX10_told) (pc := 23) dX10_told_23 rfl rfl ?_
      refine xs_callV (d := d + 2) (M := mX10_told) (pc := 24) (As := [.int x1]) (st := []) (c := 8) (ls' := [.ref 1, .int x1]) dX10_told_24 oX8_take nX8_take lX10_117 vX8_take sX8_take rfl sh1 (Nat.le_of_ble_eq_true rfl) rfl (Nat.le_of_ble_eq_true rfl) rfl ?_
      exact p3 c1 c2
theorem bX10_told_27 {G : GC} {d : Nat} {sw : Bool} {f : FF} {Q : QQ} {x1 : Int32} {x2 : Int32} {s0 : Int32} (p1 : (¬ s0 = 0) → XP G mX6_readTellers (d + 2) 0 [.ref 14, .int x1, .null] [] sw f (fun v sw' f' => XP G mX10_told (d + 3) 40 [.ref 0, .int x1, .int x2] (retst v []) sw' f' Q)) (p2 : (s0 = 0) → Q (some (.int (-1))) sw f) : XP G mX10_told (d + 3) 27 [.ref 0, .int x1, .int x2] [.int s0] sw f Q := by
  refine wp_if_ne (M := mX10_told) (pc := 27) (t := 32) dX10_told_27 (by decide) (fun c1 => ?_) (fun c1 => ?_)
  · refine wp_aload_n (M := mX10_told) (pc := 32) dX10_told_32 rfl rfl ?_
    refine xs_getr (M := mX10_told) (pc := 33) (r := 14) dX10_told_33 fX10_35 sh0 rfl (gr0_3 sw) ?_
    refine wp_iload_n (M := mX10_told) (pc := 36) dX10_told_36 rfl rfl ?_
    refine xs_callV (d := d + 2) (M := mX10_told) (pc := 37) (As := [.int x1]) (st := []) (c := 6) (ls' := [.ref 14, .int x1, .null]) dX10_told_37 oX6_readTellers nX6_readTellers lX10_264 vX6_readTellers sX6_readTellers rfl sh14 (Nat.le_of_ble_eq_true rfl) rfl (Nat.le_of_ble_eq_true rfl) rfl ?_
    exact p1 c1
  · refine wp_iconst (M := mX10_told) (pc := 30) dX10_told_30 k_iconst_m1 ?_
    exact xs_iret (M := mX10_told) (pc := 31) dX10_told_31 rfl (p2 c1)
theorem bX10_told_40 {G : GC} {d : Nat} {sw : Bool} {f : FF} {Q : QQ} {x1 : Int32} {x2 : Int32} {s0 : Int32} (p1 : (¬ s0 = 0) → (¬ x2 = 0) → XP G mX6_firstRung (d + 2) 0 [.ref 14, .int x1, .null] [] sw f (fun v sw' f' => XP G mX10_told (d + 3) 69 [.ref 0, .int x1, .int x2] (retst v []) sw' f' Q)) (p2 : (¬ s0 = 0) → (x2 = 0) → XP G mX6_soonest (d + 2) 0 [.ref 14, .int x1, .null, .null] [] sw f (fun v sw' f' => XP G mX10_told (d + 3) 58 [.ref 0, .int x1, .int x2] (retst v []) sw' f' Q)) (p3 : (s0 = 0) → Q (some (.int (-2))) sw f) : XP G mX10_told (d + 3) 40 [.ref 0, .int x1, .int x2] [.int s0] sw f Q := by
  refine wp_if_ne (M := mX10_told) (pc := 40) (t := 46) dX10_told_40 (by decide) (fun c1 => ?_) (fun c1 => ?_)
  · refine wp_iload_n (M := mX10_told) (pc := 46) dX10_told_46 rfl rfl ?_
    refine wp_if_ne (M := mX10_told) (pc := 47) (t := 61) dX10_told_47 (by decide) (fun c2 => ?_) (fun c2 => ?_)
    · refine wp_aload_n (M := mX10_told) (pc := 61) dX10_told_61 rfl rfl ?_
      refine xs_getr (M := mX10_told) (pc := 62) (r := 14) dX10_told_62 fX10_35 sh0 rfl (gr0_3 sw) ?_
      refine wp_iload_n (M := mX10_told) (pc := 65) dX10_told_65 rfl rfl ?_
      refine xs_callV (d := d + 2) (M := mX10_told) (pc := 66) (As := [.int x1]) (st := []) (c := 6) (ls' := [.ref 14, .int x1, .null]) dX10_told_66 oX6_firstRung nX6_firstRung lX10_270 vX6_firstRung sX6_firstRung rfl sh14 (Nat.le_of_ble_eq_true rfl) rfl (Nat.le_of_ble_eq_true rfl) rfl ?_
      exact p1 c1 c2
    · refine wp_aload_n (M := mX10_told) (pc := 50) dX10_told_50 rfl rfl ?_
      refine xs_getr (M := mX10_told) (pc := 51) (r := 14) dX10_told_51 fX10_35 sh0 rfl (gr0_3 sw) ?_
      refine wp_iload_n (M := mX10_told) (pc := 54) dX10_told_54 rfl rfl ?_
      refine xs_callV (d := d + 2) (M := mX10_told) (pc := 55) (As := [.int x1]) (st := []) (c := 6) (ls' := [.ref 14, .int x1, .null, .null]) dX10_told_55 oX6_soonest nX6_soonest lX10_267 vX6_soonest sX6_soonest rfl sh14 (Nat.le_of_ble_eq_true rfl) rfl (Nat.le_of_ble_eq_true rfl) rfl ?_
      exact p2 c1 c2
  · refine wp_bipush (M := mX10_told) (pc := 43) dX10_told_43 k_bipush_m2 ?_
    exact xs_iret (M := mX10_told) (pc := 45) dX10_told_45 rfl (p3 c1)
theorem bX10_told_58 {G : GC} {d : Nat} {sw : Bool} {f : FF} {Q : QQ} {x1 : Int32} {x2 : Int32} {s0 : Int32} (p1 : Q (some (.int s0)) sw f) : XP G mX10_told (d + 3) 58 [.ref 0, .int x1, .int x2] [.int s0] sw f Q := by
  refine wp_goto (M := mX10_told) (pc := 58) (t := 69) dX10_told_58 (by decide) ?_
  exact xs_iret (M := mX10_told) (pc := 69) dX10_told_69 rfl (p1)
theorem bX10_told_69 {G : GC} {d : Nat} {sw : Bool} {f : FF} {Q : QQ} {x1 : Int32} {x2 : Int32} {s0 : Int32} (p1 : Q (some (.int s0)) sw f) : XP G mX10_told (d + 3) 69 [.ref 0, .int x1, .int x2] [.int s0] sw f Q := by
  exact xs_iret (M := mX10_told) (pc := 69) dX10_told_69 rfl (p1)
theorem bX10_epitaph_0 {G : GC} {d : Nat} {sw : Bool} {f : FF} {Q : QQ} {x1 : Int32} {x2 : Int32} {x3 : Int32} {x4 : Int32} (p1 : (¬ (1 ≤ x1 ∧ x1 ≤ 30)) → Q (some (.int (-1))) sw f) (p2 : (1 ≤ x1 ∧ x1 ≤ 30) → (¬ (1 ≤ x2 ∧ x2 ≤ 30)) → Q (some (.int (-1))) sw f) (p3 : (1 ≤ x1 ∧ x1 ≤ 30) → (1 ≤ x2 ∧ x2 ≤ 30) → (¬ (0 ≤ x4 ∧ x4 ≤ (x2 - 1))) → Q (some (.int (-1))) sw f) (p4 : (1 ≤ x1 ∧ x1 ≤ 30) → (1 ≤ x2 ∧ x2 ≤ 30) → (0 ≤ x4 ∧ x4 ≤ (x2 - 1)) → XP G mX8_take (d + 2) 0 [.ref 1, .int (x1 + x2)] [] sw f (fun v sw' f' => XP G mX10_epitaph (d + 3) 42 [.ref 0, .int x1, .int x2, .int x3, .int x4] (retst v []) sw' f' Q)) : XP G mX10_epitaph (d + 3) 0 [.ref 0, .int x1, .int x2, .int x3, .int x4] [] sw f Q := by
  refine wp_iload_n (M := mX10_epitaph) (pc := 0) dX10_epitaph_0 rfl rfl ?_
  refine wp_iconst (M := mX10_epitaph) (pc := 1) dX10_epitaph_1 k_iconst_1 ?_
  refine wp_bipush (M := mX10_epitaph) (pc := 2) dX10_epitaph_2 k_bipush_30 ?_
  refine xs_callS (d := d + 2) (M := mX10_epitaph) (pc := 4) (As := [.int x1, .int 1, .int 30]) (st := []) (ls' := [.int x1, .int 1, .int 30]) dX10_epitaph_4 oX10_within nX10_within lX10_79 tX10_within (Nat.le_of_ble_eq_true rfl) rfl (Nat.le_of_ble_eq_true rfl) rfl ?_
  refine sp_X10_within   ?_
  refine xs_ifb_eq (M := mX10_epitaph) (pc := 7) (t := 45) dX10_epitaph_7 (by decide) (fun c1 => ?_) (fun c1 => ?_)
  · refine wp_iconst (M := mX10_epitaph) (pc := 45) dX10_epitaph_45 k_iconst_m1 ?_
    exact xs_iret (M := mX10_epitaph) (pc := 46) dX10_epitaph_46 rfl (p1 c1)
  · refine wp_iload_n (M := mX10_epitaph) (pc := 10) dX10_epitaph_10 rfl rfl ?_
    refine wp_iconst (M := mX10_epitaph) (pc := 11) dX10_epitaph_11 k_iconst_1 ?_
    refine wp_bipush (M := mX10_epitaph) (pc := 12) dX10_epitaph_12 k_bipush_30 ?_
    refine xs_callS (d := d + 2) (M := mX10_epitaph) (pc := 14) (As := [.int x2, .int 1, .int 30]) (st := []) (ls' := [.int x2, .int 1, .int 30]) dX10_epitaph_14 oX10_within nX10_within lX10_79 tX10_within (Nat.le_of_ble_eq_true rfl) rfl (Nat.le_of_ble_eq_true rfl) rfl ?_
    refine sp_X10_within   ?_
    refine xs_ifb_eq (M := mX10_epitaph) (pc := 17) (t := 45) dX10_epitaph_17 (by decide) (fun c2 => ?_) (fun c2 => ?_)
    · refine wp_iconst (M := mX10_epitaph) (pc := 45) dX10_epitaph_45 k_iconst_m1 ?_
      exact xs_iret (M := mX10_epitaph) (pc := 46) dX10_epitaph_46 rfl (p2 c1 c2)
    · refine wp_iload (M := mX10_epitaph) (pc := 20) dX10_epitaph_20 rfl ?_
      refine wp_iconst (M := mX10_epitaph) (pc := 22) dX10_epitaph_22 k_iconst_0 ?_
      refine wp_iload_n (M := mX10_epitaph) (pc := 23) dX10_epitaph_23 rfl rfl ?_
      refine wp_iconst (M := mX10_epitaph) (pc := 24) dX10_epitaph_24 k_iconst_1 ?_
      refine wp_isub (M := mX10_epitaph) (pc := 25) dX10_epitaph_25 ?_
      refine xs_callS (d := d + 2) (M := mX10_epitaph) (pc := 26) (As := [.int x4, .int 0, .int (x2 - 1)]) (st := []) (ls' := [.int x4, .int 0, .int (x2 - 1)]) dX10_epitaph_26 oX10_within nX10_within lX10_79 tX10_within (Nat.le_of_ble_eq_true rfl) rfl (Nat.le_of_ble_eq_true rfl) rfl ?_
      refine sp_X10_within   ?_
      refine xs_ifb_eq (M := mX10_epitaph) (pc := 29) (t := 45) dX10_epitaph_29 (by decide) (fun c3 => ?_) (fun c3 => ?_)
      · refine wp_iconst (M := mX10_epitaph) (pc := 45) dX10_epitaph_45 k_iconst_m1 ?_
        exact xs_iret (M := mX10_epitaph) (pc := 46) dX10_epitaph_46 rfl (p3 c1 c2 c3)
      · refine wp_aload_n (M := mX10_epitaph) (pc := 32) dX10_epitaph_32 rfl rfl ?_
        refine xs_getr (M := mX10_epitaph) (pc := 33) (r := 1) dX10_epitaph_33 fX10_10 sh0 rfl (gr0_0 sw) ?_
        refine wp_iload_n (M := mX10_epitaph) (pc := 36) dX10_epitaph_36 rfl rfl ?_
        refine wp_iload_n (M := mX10_epitaph) (pc := 37) dX10_epitaph_37 rfl rfl ?_
        refine wp_iadd (M := mX10_epitaph) (pc := 38) dX10_epitaph_38 ?_
        refine xs_callV (d := d + 2) (M := mX10_epitaph) (pc := 39) (As := [.int (x1 + x2)]) (st := []) (c := 8) (ls' := [.ref 1, .int (x1 + x2)]) dX10_epitaph_39 oX8_take nX8_take lX10_117 vX8_take sX8_take rfl sh1 (Nat.le_of_ble_eq_true rfl) rfl (Nat.le_of_ble_eq_true rfl) rfl ?_
        exact p4 c1 c2 c3
theorem bX10_epitaph_42 {G : GC} {d : Nat} {sw : Bool} {f : FF} {Q : QQ} {x1 : Int32} {x2 : Int32} {x3 : Int32} {x4 : Int32} {s0 : Int32} (p1 : (¬ s0 = 0) → XP G mX8_holdsOnly (d + 2) 0 [.ref 1, .int 65, .int 90] [] sw f (fun v sw' f' => XP G mX10_epitaph (d + 3) 58 [.ref 0, .int x1, .int x2, .int x3, .int x4] (retst v []) sw' f' Q)) (p2 : (s0 = 0) → Q (some (.int (-1))) sw f) : XP G mX10_epitaph (d + 3) 42 [.ref 0, .int x1, .int x2, .int x3, .int x4] [.int s0] sw f Q := by
  refine wp_if_ne (M := mX10_epitaph) (pc := 42) (t := 47) dX10_epitaph_42 (by decide) (fun c1 => ?_) (fun c1 => ?_)
  · refine wp_aload_n (M := mX10_epitaph) (pc := 47) dX10_epitaph_47 rfl rfl ?_
    refine xs_getr (M := mX10_epitaph) (pc := 48) (r := 1) dX10_epitaph_48 fX10_10 sh0 rfl (gr0_0 sw) ?_
    refine wp_bipush (M := mX10_epitaph) (pc := 51) dX10_epitaph_51 k_bipush_65 ?_
    refine wp_bipush (M := mX10_epitaph) (pc := 53) dX10_epitaph_53 k_bipush_90 ?_
    refine xs_callV (d := d + 2) (M := mX10_epitaph) (pc := 55) (As := [.int 65, .int 90]) (st := []) (c := 8) (ls' := [.ref 1, .int 65, .int 90]) dX10_epitaph_55 oX8_holdsOnly nX8_holdsOnly lX10_273 vX8_holdsOnly sX8_holdsOnly rfl sh1 (Nat.le_of_ble_eq_true rfl) rfl (Nat.le_of_ble_eq_true rfl) rfl ?_
    exact p1 c1
  · refine wp_iconst (M := mX10_epitaph) (pc := 45) dX10_epitaph_45 k_iconst_m1 ?_
    exact xs_iret (M := mX10_epitaph) (pc := 46) dX10_epitaph_46 rfl (p2 c1)
theorem bX10_epitaph_58 {G : GC} {d : Nat} {sw : Bool} {f : FF} {Q : QQ} {x1 : Int32} {x2 : Int32} {x3 : Int32} {x4 : Int32} {s0 : Int32} (p1 : (¬ s0 = 0) → XP G mX6_cipher (d + 2) 0 [.ref 14, .int x1, .int x3, .int (x1 + x4), .null, .null] [] sw f (fun v sw' f' => XP G mX10_epitaph (d + 3) 82 [.ref 0, .int x1, .int x2, .int x3, .int x4] (retst v []) sw' f' Q)) (p2 : (s0 = 0) → Q (some (.int (f 1 5))) sw f) : XP G mX10_epitaph (d + 3) 58 [.ref 0, .int x1, .int x2, .int x3, .int x4] [.int s0] sw f Q := by
  refine wp_if_ne (M := mX10_epitaph) (pc := 58) (t := 69) dX10_epitaph_58 (by decide) (fun c1 => ?_) (fun c1 => ?_)
  · refine wp_aload_n (M := mX10_epitaph) (pc := 69) dX10_epitaph_69 rfl rfl ?_
    refine xs_getr (M := mX10_epitaph) (pc := 70) (r := 14) dX10_epitaph_70 fX10_35 sh0 rfl (gr0_3 sw) ?_
    refine wp_iload_n (M := mX10_epitaph) (pc := 73) dX10_epitaph_73 rfl rfl ?_
    refine wp_iload_n (M := mX10_epitaph) (pc := 74) dX10_epitaph_74 rfl rfl ?_
    refine wp_iload_n (M := mX10_epitaph) (pc := 75) dX10_epitaph_75 rfl rfl ?_
    refine wp_iload (M := mX10_epitaph) (pc := 76) dX10_epitaph_76 rfl ?_
    refine wp_iadd (M := mX10_epitaph) (pc := 78) dX10_epitaph_78 ?_
    refine xs_callV (d := d + 2) (M := mX10_epitaph) (pc := 79) (As := [.int x1, .int x3, .int (x1 + x4)]) (st := []) (c := 6) (ls' := [.ref 14, .int x1, .int x3, .int (x1 + x4), .null, .null]) dX10_epitaph_79 oX6_cipher nX6_cipher lX10_279 vX6_cipher sX6_cipher rfl sh14 (Nat.le_of_ble_eq_true rfl) rfl (Nat.le_of_ble_eq_true rfl) rfl ?_
    exact p1 c1
  · refine wp_aload_n (M := mX10_epitaph) (pc := 61) dX10_epitaph_61 rfl rfl ?_
    refine xs_getr (M := mX10_epitaph) (pc := 62) (r := 1) dX10_epitaph_62 fX10_10 sh0 rfl (gr0_0 sw) ?_
    refine xs_geti (M := mX10_epitaph) (pc := 65) dX10_epitaph_65 fX10_276 sh1 rfl ?_
    exact xs_iret (M := mX10_epitaph) (pc := 68) dX10_epitaph_68 rfl (p2 c1)
theorem bX10_epitaph_82 {G : GC} {d : Nat} {sw : Bool} {f : FF} {Q : QQ} {x1 : Int32} {x2 : Int32} {x3 : Int32} {x4 : Int32} {s0 : Int32} (p1 : Q (some (.int s0)) sw f) : XP G mX10_epitaph (d + 3) 82 [.ref 0, .int x1, .int x2, .int x3, .int x4] [.int s0] sw f Q := by
  exact xs_iret (M := mX10_epitaph) (pc := 82) dX10_epitaph_82 rfl (p1)
theorem bX10_dialled_0 {G : GC} {d : Nat} {sw : Bool} {f : FF} {Q : QQ} {x1 : Int32} {x2 : Int32} (p1 : (¬ (1 ≤ x1 ∧ x1 ≤ 12)) → Q (some (.int (-1))) sw f) (p2 : (1 ≤ x1 ∧ x1 ≤ 12) → (¬ (0 ≤ x2 ∧ x2 ≤ 1)) → Q (some (.int (-1))) sw f) (p3 : (1 ≤ x1 ∧ x1 ≤ 12) → (0 ≤ x2 ∧ x2 ≤ 1) → XP G mX8_take (d + 2) 0 [.ref 1, .int x1] [] sw f (fun v sw' f' => XP G mX10_dialled (d + 3) 27 [.ref 0, .int x1, .int x2, .null, .null] (retst v []) sw' f' Q)) : XP G mX10_dialled (d + 3) 0 [.ref 0, .int x1, .int x2, .null, .null] [] sw f Q := by
  refine wp_iload_n (M := mX10_dialled) (pc := 0) dX10_dialled_0 rfl rfl ?_
  refine wp_iconst (M := mX10_dialled) (pc := 1) dX10_dialled_1 k_iconst_1 ?_
  refine wp_bipush (M := mX10_dialled) (pc := 2) dX10_dialled_2 k_bipush_12 ?_
  refine xs_callS (d := d + 2) (M := mX10_dialled) (pc := 4) (As := [.int x1, .int 1, .int 12]) (st := []) (ls' := [.int x1, .int 1, .int 12]) dX10_dialled_4 oX10_within nX10_within lX10_79 tX10_within (Nat.le_of_ble_eq_true rfl) rfl (Nat.le_of_ble_eq_true rfl) rfl ?_
  refine sp_X10_within   ?_
  refine xs_ifb_eq (M := mX10_dialled) (pc := 7) (t := 30) dX10_dialled_7 (by decide) (fun c1 => ?_) (fun c1 => ?_)
  · refine wp_iconst (M := mX10_dialled) (pc := 30) dX10_dialled_30 k_iconst_m1 ?_
    exact xs_iret (M := mX10_dialled) (pc := 31) dX10_dialled_31 rfl (p1 c1)
  · refine wp_iload_n (M := mX10_dialled) (pc := 10) dX10_dialled_10 rfl rfl ?_
    refine wp_iconst (M := mX10_dialled) (pc := 11) dX10_dialled_11 k_iconst_0 ?_
    refine wp_iconst (M := mX10_dialled) (pc := 12) dX10_dialled_12 k_iconst_1 ?_
    refine xs_callS (d := d + 2) (M := mX10_dialled) (pc := 13) (As := [.int x2, .int 0, .int 1]) (st := []) (ls' := [.int x2, .int 0, .int 1]) dX10_dialled_13 oX10_within nX10_within lX10_79 tX10_within (Nat.le_of_ble_eq_true rfl) rfl (Nat.le_of_ble_eq_true rfl) rfl ?_
    refine sp_X10_within   ?_
    refine xs_ifb_eq (M := mX10_dialled) (pc := 16) (t := 30) dX10_dialled_16 (by decide) (fun c2 => ?_) (fun c2 => ?_)
    · refine wp_iconst (M := mX10_dialled) (pc := 30) dX10_dialled_30 k_iconst_m1 ?_
      exact xs_iret (M := mX10_dialled) (pc := 31) dX10_dialled_31 rfl (p2 c1 c2)
    · refine wp_aload_n (M := mX10_dialled) (pc := 19) dX10_dialled_19 rfl rfl ?_
      refine xs_getr (M := mX10_dialled) (pc := 20) (r := 1) dX10_dialled_20 fX10_10 sh0 rfl (gr0_0 sw) ?_
      refine wp_iload_n (M := mX10_dialled) (pc := 23) dX10_dialled_23 rfl rfl ?_
      refine xs_callV (d := d + 2) (M := mX10_dialled) (pc := 24) (As := [.int x1]) (st := []) (c := 8) (ls' := [.ref 1, .int x1]) dX10_dialled_24 oX8_take nX8_take lX10_117 vX8_take sX8_take rfl sh1 (Nat.le_of_ble_eq_true rfl) rfl (Nat.le_of_ble_eq_true rfl) rfl ?_
      exact p3 c1 c2
theorem bX10_dialled_27 {G : GC} {d : Nat} {sw : Bool} {f : FF} {Q : QQ} {x1 : Int32} {x2 : Int32} {v3 : Value} {v4 : Value} {s0 : Int32} (p1 : (¬ s0 = 0) → XP G mX4_load (d + 2) 0 [.ref 11, .int 8, .int x1, .null] [] sw f (fun v sw' f' => XP G mX10_dialled (d + 3) 42 [.ref 0, .int x1, .int x2, v3, v4] (retst v []) sw' f' Q)) (p2 : (s0 = 0) → Q (some (.int (-1))) sw f) : XP G mX10_dialled (d + 3) 27 [.ref 0, .int x1, .int x2, v3, v4] [.int s0] sw f Q := by
  refine wp_if_ne (M := mX10_dialled) (pc := 27) (t := 32) dX10_dialled_27 (by decide) (fun c1 => ?_) (fun c1 => ?_)
  · refine wp_aload_n (M := mX10_dialled) (pc := 32) dX10_dialled_32 rfl rfl ?_
    refine xs_getr (M := mX10_dialled) (pc := 33) (r := 11) dX10_dialled_33 fX10_28 sh0 rfl (gr0_2 sw) ?_
    refine wp_bipush (M := mX10_dialled) (pc := 36) dX10_dialled_36 k_bipush_8 ?_
    refine wp_iload_n (M := mX10_dialled) (pc := 38) dX10_dialled_38 rfl rfl ?_
    refine xs_callV (d := d + 2) (M := mX10_dialled) (pc := 39) (As := [.int 8, .int x1]) (st := []) (c := 4) (ls' := [.ref 11, .int 8, .int x1, .null]) dX10_dialled_39 oX4_load nX4_load lX10_140 vX4_load sX4_load rfl sh11 (Nat.le_of_ble_eq_true rfl) rfl (Nat.le_of_ble_eq_true rfl) rfl ?_
    exact p1 c1
  · refine wp_iconst (M := mX10_dialled) (pc := 30) dX10_dialled_30 k_iconst_m1 ?_
    exact xs_iret (M := mX10_dialled) (pc := 31) dX10_dialled_31 rfl (p2 c1)
theorem bX10_dialled_42 {G : GC} {d : Nat} {sw : Bool} {f : FF} {Q : QQ} {x1 : Int32} {x2 : Int32} {v3 : Value} {v4 : Value} {s0 : Int32} (p1 : (0 ≤ s0) → XP G mX4_reached (d + 2) 0 [.ref 11, .null, .null] [] sw f (fun v sw' f' => XP G mX10_dialled (d + 3) 56 [.ref 0, .int x1, .int x2, .int s0, v4] (retst v []) sw' f' Q)) (p2 : (¬ 0 ≤ s0) → Q (some (.int s0)) sw f) : XP G mX10_dialled (d + 3) 42 [.ref 0, .int x1, .int x2, v3, v4] [.int s0] sw f Q := by
  refine wp_istore_n (M := mX10_dialled) (pc := 42) (ls' := [.ref 0, .int x1, .int x2, .int s0, v4]) dX10_dialled_42 rfl (by decide) rfl ?_
  refine wp_iload_n (M := mX10_dialled) (pc := 43) dX10_dialled_43 rfl rfl ?_
  refine wp_if_ge (M := mX10_dialled) (pc := 44) (t := 49) dX10_dialled_44 (by decide) (fun c1 => ?_) (fun c1 => ?_)
  · refine wp_aload_n (M := mX10_dialled) (pc := 49) dX10_dialled_49 rfl rfl ?_
    refine xs_getr (M := mX10_dialled) (pc := 50) (r := 11) dX10_dialled_50 fX10_28 sh0 rfl (gr0_2 sw) ?_
    refine xs_callV (d := d + 2) (M := mX10_dialled) (pc := 53) (As := []) (st := []) (c := 4) (ls' := [.ref 11, .null, .null]) dX10_dialled_53 oX4_reached nX4_reached lX10_283 vX4_reached sX4_reached rfl sh11 (Nat.le_of_ble_eq_true rfl) rfl (Nat.le_of_ble_eq_true rfl) rfl ?_
    exact p1 c1
  · refine wp_iload_n (M := mX10_dialled) (pc := 47) dX10_dialled_47 rfl rfl ?_
    exact xs_iret (M := mX10_dialled) (pc := 48) dX10_dialled_48 rfl (p2 c1)
theorem bX10_dialled_56 {G : GC} {d : Nat} {sw : Bool} {f : FF} {Q : QQ} {x1 : Int32} {x2 : Int32} {x3 : Int32} {v4 : Value} {s0 : Int32} (p1 : (¬ s0 = (-1)) → (¬ x2 = 0) → vp_in s0 9) (p2 : (¬ s0 = (-1)) → (¬ x2 = 0) → Q (some (.int (x1 - (f 13 s0.toNatClampNeg)))) sw f) (p3 : (¬ s0 = (-1)) → (x2 = 0) → Q (some (.int s0)) sw f) (p4 : (s0 = (-1)) → Q (some (.int (-2))) sw f) : XP G mX10_dialled (d + 3) 56 [.ref 0, .int x1, .int x2, .int x3, v4] [.int s0] sw f Q := by
  refine wp_istore (M := mX10_dialled) (pc := 56) (ls' := [.ref 0, .int x1, .int x2, .int x3, .int s0]) dX10_dialled_56 (by decide) rfl ?_
  refine wp_iload (M := mX10_dialled) (pc := 58) dX10_dialled_58 rfl ?_
  refine wp_iconst (M := mX10_dialled) (pc := 60) dX10_dialled_60 k_iconst_m1 ?_
  refine wp_icmp_ne (M := mX10_dialled) (pc := 61) (t := 67) dX10_dialled_61 (by decide) (fun c1 => ?_) (fun c1 => ?_)
  · refine wp_iload_n (M := mX10_dialled) (pc := 67) dX10_dialled_67 rfl rfl ?_
    refine wp_if_ne (M := mX10_dialled) (pc := 68) (t := 76) dX10_dialled_68 (by decide) (fun c2 => ?_) (fun c2 => ?_)
    · refine wp_iload_n (M := mX10_dialled) (pc := 76) dX10_dialled_76 rfl rfl ?_
      refine wp_aload_n (M := mX10_dialled) (pc := 77) dX10_dialled_77 rfl rfl ?_
      refine xs_getr (M := mX10_dialled) (pc := 78) (r := 11) dX10_dialled_78 fX10_28 sh0 rfl (gr0_2 sw) ?_
      refine xs_getr (M := mX10_dialled) (pc := 81) (r := 13) dX10_dialled_81 fX10_286 sh11 rfl (gr11_2 sw) ?_
      refine wp_iload (M := mX10_dialled) (pc := 84) dX10_dialled_84 rfl ?_
      refine xs_iald (M := mX10_dialled) (pc := 86) (j := s0.toNatClampNeg) dX10_dialled_86 sh13 (p1 c1 c2) rfl ?_
      refine wp_isub (M := mX10_dialled) (pc := 87) dX10_dialled_87 ?_
      exact xs_iret (M := mX10_dialled) (pc := 88) dX10_dialled_88 rfl (p2 c1 c2)
    · refine wp_iload (M := mX10_dialled) (pc := 71) dX10_dialled_71 rfl ?_
      refine wp_goto (M := mX10_dialled) (pc := 73) (t := 88) dX10_dialled_73 (by decide) ?_
      exact xs_iret (M := mX10_dialled) (pc := 88) dX10_dialled_88 rfl (p3 c1 c2)
  · refine wp_bipush (M := mX10_dialled) (pc := 64) dX10_dialled_64 k_bipush_m2 ?_
    exact xs_iret (M := mX10_dialled) (pc := 66) dX10_dialled_66 rfl (p4 c1)
theorem bX10_clear_0 {G : GC} {d : Nat} {sw : Bool} {f : FF} {Q : QQ}  (p1 : XP G mX4_isClear (d + 1) 0 [.ref 11, .null, .null] [] sw f (fun v sw' f' => XP G mX10_clear (d + 2) 7 [.ref 0] (retst v []) sw' f' Q)) : XP G mX10_clear (d + 2) 0 [.ref 0] [] sw f Q := by
  refine wp_aload_n (M := mX10_clear) (pc := 0) dX10_clear_0 rfl rfl ?_
  refine xs_getr (M := mX10_clear) (pc := 1) (r := 11) dX10_clear_1 fX10_28 sh0 rfl (gr0_2 sw) ?_
  refine xs_callV (d := d + 1) (M := mX10_clear) (pc := 4) (As := []) (st := []) (c := 4) (ls' := [.ref 11, .null, .null]) dX10_clear_4 oX4_isClear nX4_isClear lX10_289 vX4_isClear sX4_isClear rfl sh11 (Nat.le_of_ble_eq_true rfl) rfl (Nat.le_of_ble_eq_true rfl) rfl ?_
  exact p1
theorem bX10_clear_7 {G : GC} {d : Nat} {sw : Bool} {f : FF} {Q : QQ} {s0 : Int32} (p1 : (s0 = 0) → Q (some (.int 0)) sw f) (p2 : (¬ s0 = 0) → Q (some (.int 1)) sw f) : XP G mX10_clear (d + 2) 7 [.ref 0] [.int s0] sw f Q := by
  refine wp_if_eq (M := mX10_clear) (pc := 7) (t := 14) dX10_clear_7 (by decide) (fun c1 => ?_) (fun c1 => ?_)
  · refine wp_iconst (M := mX10_clear) (pc := 14) dX10_clear_14 k_iconst_0 ?_
    exact xs_iret (M := mX10_clear) (pc := 15) dX10_clear_15 rfl (p1 c1)
  · refine wp_iconst (M := mX10_clear) (pc := 10) dX10_clear_10 k_iconst_1 ?_
    refine wp_goto (M := mX10_clear) (pc := 11) (t := 15) dX10_clear_11 (by decide) ?_
    exact xs_iret (M := mX10_clear) (pc := 15) dX10_clear_15 rfl (p2 c1)
theorem bX10_freeCode_0 {G : GC} {d : Nat} {sw : Bool} {f : FF} {Q : QQ} {x1 : Int32} (p1 : (1 ≤ x1 ∧ x1 ≤ 3) → XP G mX4_isClear (d + 2) 0 [.ref 11, .null, .null] [] sw f (fun v sw' f' => XP G mX10_freeCode (d + 3) 18 [.ref 0, .int x1] (retst v []) sw' f' Q)) (p2 : (¬ (1 ≤ x1 ∧ x1 ≤ 3)) → Q (some (.int (-1))) sw f) : XP G mX10_freeCode (d + 3) 0 [.ref 0, .int x1] [] sw f Q := by
  refine wp_iload_n (M := mX10_freeCode) (pc := 0) dX10_freeCode_0 rfl rfl ?_
  refine wp_iconst (M := mX10_freeCode) (pc := 1) dX10_freeCode_1 k_iconst_1 ?_
  refine wp_iconst (M := mX10_freeCode) (pc := 2) dX10_freeCode_2 k_iconst_3 ?_
  refine xs_callS (d := d + 2) (M := mX10_freeCode) (pc := 3) (As := [.int x1, .int 1, .int 3]) (st := []) (ls' := [.int x1, .int 1, .int 3]) dX10_freeCode_3 oX10_within nX10_within lX10_79 tX10_within (Nat.le_of_ble_eq_true rfl) rfl (Nat.le_of_ble_eq_true rfl) rfl ?_
  refine sp_X10_within   ?_
  refine xs_ifb_ne (M := mX10_freeCode) (pc := 6) (t := 11) dX10_freeCode_6 (by decide) (fun c1 => ?_) (fun c1 => ?_)
  · refine wp_aload_n (M := mX10_freeCode) (pc := 11) dX10_freeCode_11 rfl rfl ?_
    refine xs_getr (M := mX10_freeCode) (pc := 12) (r := 11) dX10_freeCode_12 fX10_28 sh0 rfl (gr0_2 sw) ?_
    refine xs_callV (d := d + 2) (M := mX10_freeCode) (pc := 15) (As := []) (st := []) (c := 4) (ls' := [.ref 11, .null, .null]) dX10_freeCode_15 oX4_isClear nX4_isClear lX10_289 vX4_isClear sX4_isClear rfl sh11 (Nat.le_of_ble_eq_true rfl) rfl (Nat.le_of_ble_eq_true rfl) rfl ?_
    exact p1 c1
  · refine wp_iconst (M := mX10_freeCode) (pc := 9) dX10_freeCode_9 k_iconst_m1 ?_
    exact xs_iret (M := mX10_freeCode) (pc := 10) dX10_freeCode_10 rfl (p2 c1)
theorem bX10_freeCode_18 {G : GC} {d : Nat} {sw : Bool} {f : FF} {Q : QQ} {x1 : Int32} {s0 : Int32} (p1 : (s0 = 0) → Q (some (.int (-2))) sw f) (p2 : (¬ s0 = 0) → XP G mX4_leastFree (d + 2) 0 [.ref 11, .int x1, .null, .null] [] sw f (fun v sw' f' => XP G mX10_freeCode (d + 3) 29 [.ref 0, .int x1] (retst v []) sw' f' Q)) : XP G mX10_freeCode (d + 3) 18 [.ref 0, .int x1] [.int s0] sw f Q := by
  refine wp_if_eq (M := mX10_freeCode) (pc := 18) (t := 32) dX10_freeCode_18 (by decide) (fun c1 => ?_) (fun c1 => ?_)
  · refine wp_bipush (M := mX10_freeCode) (pc := 32) dX10_freeCode_32 k_bipush_m2 ?_
    exact xs_iret (M := mX10_freeCode) (pc := 34) dX10_freeCode_34 rfl (p1 c1)
  · refine wp_aload_n (M := mX10_freeCode) (pc := 21) dX10_freeCode_21 rfl rfl ?_
    refine xs_getr (M := mX10_freeCode) (pc := 22) (r := 11) dX10_freeCode_22 fX10_28 sh0 rfl (gr0_2 sw) ?_
    refine wp_iload_n (M := mX10_freeCode) (pc := 25) dX10_freeCode_25 rfl rfl ?_
    refine xs_callV (d := d + 2) (M := mX10_freeCode) (pc := 26) (As := [.int x1]) (st := []) (c := 4) (ls' := [.ref 11, .int x1, .null, .null]) dX10_freeCode_26 oX4_leastFree nX4_leastFree lX10_292 vX4_leastFree sX4_leastFree rfl sh11 (Nat.le_of_ble_eq_true rfl) rfl (Nat.le_of_ble_eq_true rfl) rfl ?_
    exact p2 c1
theorem bX10_freeCode_29 {G : GC} {d : Nat} {sw : Bool} {f : FF} {Q : QQ} {x1 : Int32} {s0 : Int32} (p1 : Q (some (.int s0)) sw f) : XP G mX10_freeCode (d + 3) 29 [.ref 0, .int x1] [.int s0] sw f Q := by
  refine wp_goto (M := mX10_freeCode) (pc := 29) (t := 34) dX10_freeCode_29 (by decide) ?_
  exact xs_iret (M := mX10_freeCode) (pc := 34) dX10_freeCode_34 rfl (p1)
theorem bX10_seed_0 {G : GC} {d : Nat} {sw : Bool} {f : FF} {Q : QQ} {x1 : Int32} (p1 : (0 ≤ x1 ∧ x1 ≤ 65535) → Q (some (.int 1)) sw (upd2 f 43 7 x1)) (p2 : (¬ (0 ≤ x1 ∧ x1 ≤ 65535)) → Q (some (.int 0)) sw f) : XP G mX10_seed (d + 1) 0 [.ref 0, .int x1] [] sw f Q := by
  refine wp_iload_n (M := mX10_seed) (pc := 0) dX10_seed_0 rfl rfl ?_
  refine wp_iconst (M := mX10_seed) (pc := 1) dX10_seed_1 k_iconst_0 ?_
  refine wp_ldcw (M := mX10_seed) (pc := 2) dX10_seed_2 kX10_295 ?_
  refine xs_callS (d := d) (M := mX10_seed) (pc := 5) (As := [.int x1, .int 0, .int 65535]) (st := []) (ls' := [.int x1, .int 0, .int 65535]) dX10_seed_5 oX10_within nX10_within lX10_79 tX10_within (Nat.le_of_ble_eq_true rfl) rfl (Nat.le_of_ble_eq_true rfl) rfl ?_
  refine sp_X10_within   ?_
  refine xs_ifb_ne (M := mX10_seed) (pc := 8) (t := 13) dX10_seed_8 (by decide) (fun c1 => ?_) (fun c1 => ?_)
  · refine wp_aload_n (M := mX10_seed) (pc := 13) dX10_seed_13 rfl rfl ?_
    refine xs_getr (M := mX10_seed) (pc := 14) (r := 43) dX10_seed_14 fX10_65 sh0 rfl (gr0_7 sw) ?_
    refine wp_iload_n (M := mX10_seed) (pc := 17) dX10_seed_17 rfl rfl ?_
    refine xs_puti (M := mX10_seed) (pc := 18) dX10_seed_18 pX10_296 sh43 rfl ?_
    refine wp_iconst (M := mX10_seed) (pc := 21) dX10_seed_21 k_iconst_1 ?_
    exact xs_zret (M := mX10_seed) (pc := 22) dX10_seed_22 rfl (by decide) (p1 c1)
  · refine wp_iconst (M := mX10_seed) (pc := 11) dX10_seed_11 k_iconst_0 ?_
    exact xs_zret (M := mX10_seed) (pc := 12) dX10_seed_12 rfl (by decide) (p2 c1)
theorem bX10_keep_0 {G : GC} {d : Nat} {sw : Bool} {f : FF} {Q : QQ}  (p1 : XP G mX9_copyFrom (d) 0 [.ref 56, .ref 43] [] sw f (fun v sw' f' => XP G mX10_keep (d + 1) 11 [.ref 0] (retst v []) sw' f' Q)) : XP G mX10_keep (d + 1) 0 [.ref 0] [] sw f Q := by
  refine wp_aload_n (M := mX10_keep) (pc := 0) dX10_keep_0 rfl rfl ?_
  refine xs_getr (M := mX10_keep) (pc := 1) (r := 56) dX10_keep_1 fX10_69 sh0 rfl (gr0_8 sw) ?_
  refine wp_aload_n (M := mX10_keep) (pc := 4) dX10_keep_4 rfl rfl ?_
  refine xs_getr (M := mX10_keep) (pc := 5) (r := 43) dX10_keep_5 fX10_65 sh0 rfl (gr0_7 sw) ?_
  refine xs_callV (d := d) (M := mX10_keep) (pc := 8) (As := [.ref 43]) (st := []) (c := 9) (ls' := [.ref 56, .ref 43]) dX10_keep_8 oX9_copyFrom nX9_copyFrom lX10_154 vX9_copyFrom sX9_copyFrom rfl sh56 (Nat.le_of_ble_eq_true rfl) rfl (Nat.le_of_ble_eq_true rfl) rfl ?_
  exact p1
theorem bX10_keep_11 {G : GC} {d : Nat} {sw : Bool} {f : FF} {Q : QQ}  (p1 : Q (some (.int ((upd2 f 0 10 1) 43 6))) sw (upd2 f 0 10 1)) : XP G mX10_keep (d + 1) 11 [.ref 0] [] sw f Q := by
  refine wp_aload_n (M := mX10_keep) (pc := 11) dX10_keep_11 rfl rfl ?_
  refine wp_iconst (M := mX10_keep) (pc := 12) dX10_keep_12 k_iconst_1 ?_
  refine xs_putz (M := mX10_keep) (pc := 13) dX10_keep_13 pX10_299 sh0 rfl (by decide) ?_
  refine wp_aload_n (M := mX10_keep) (pc := 16) dX10_keep_16 rfl rfl ?_
  refine xs_getr (M := mX10_keep) (pc := 17) (r := 43) dX10_keep_17 fX10_65 sh0 rfl (gr0_7 sw) ?_
  refine xs_geti (M := mX10_keep) (pc := 20) dX10_keep_20 fX10_303 sh43 rfl ?_
  exact xs_iret (M := mX10_keep) (pc := 23) dX10_keep_23 rfl (p1)
theorem bX10_undo_0 {G : GC} {d : Nat} {sw : Bool} {f : FF} {Q : QQ}  (p1 : (¬ (f 0 10) = 0) → XP G mX9_copyFrom (d) 0 [.ref 43, .ref 56] [] sw f (fun v sw' f' => XP G mX10_undo (d + 1) 20 [.ref 0] (retst v []) sw' f' Q)) (p2 : ((f 0 10) = 0) → Q (some (.int 0)) sw f) : XP G mX10_undo (d + 1) 0 [.ref 0] [] sw f Q := by
  refine wp_aload_n (M := mX10_undo) (pc := 0) dX10_undo_0 rfl rfl ?_
  refine xs_getz (M := mX10_undo) (pc := 1) dX10_undo_1 fX10_299 sh0 rfl ?_
  refine wp_if_ne (M := mX10_undo) (pc := 4) (t := 9) dX10_undo_4 (by decide) (fun c1 => ?_) (fun c1 => ?_)
  · refine wp_aload_n (M := mX10_undo) (pc := 9) dX10_undo_9 rfl rfl ?_
    refine xs_getr (M := mX10_undo) (pc := 10) (r := 43) dX10_undo_10 fX10_65 sh0 rfl (gr0_7 sw) ?_
    refine wp_aload_n (M := mX10_undo) (pc := 13) dX10_undo_13 rfl rfl ?_
    refine xs_getr (M := mX10_undo) (pc := 14) (r := 56) dX10_undo_14 fX10_69 sh0 rfl (gr0_8 sw) ?_
    refine xs_callV (d := d) (M := mX10_undo) (pc := 17) (As := [.ref 56]) (st := []) (c := 9) (ls' := [.ref 43, .ref 56]) dX10_undo_17 oX9_copyFrom nX9_copyFrom lX10_154 vX9_copyFrom sX9_copyFrom rfl sh43 (Nat.le_of_ble_eq_true rfl) rfl (Nat.le_of_ble_eq_true rfl) rfl ?_
    exact p1 c1
  · refine wp_iconst (M := mX10_undo) (pc := 7) dX10_undo_7 k_iconst_0 ?_
    exact xs_zret (M := mX10_undo) (pc := 8) dX10_undo_8 rfl (by decide) (p2 c1)
theorem bX10_undo_20 {G : GC} {d : Nat} {sw : Bool} {f : FF} {Q : QQ}  (p1 : Q (some (.int 1)) sw f) : XP G mX10_undo (d + 1) 20 [.ref 0] [] sw f Q := by
  refine wp_iconst (M := mX10_undo) (pc := 20) dX10_undo_20 k_iconst_1 ?_
  exact xs_zret (M := mX10_undo) (pc := 21) dX10_undo_21 rfl (by decide) (p1)
theorem bX10_check_0 {G : GC} {d : Nat} {sw : Bool} {f : FF} {Q : QQ} {x1 : Int32} (p1 : (¬ (0 ≤ x1 ∧ x1 ≤ 16)) → Q (some (.int (-2))) sw f) (p2 : (0 ≤ x1 ∧ x1 ≤ 16) → XP G mX8_take (d + 2) 0 [.ref 1, .int x1] [] sw f (fun v sw' f' => XP G mX10_check (d + 3) 18 [.ref 0, .int x1, .null] (retst v []) sw' f' Q)) : XP G mX10_check (d + 3) 0 [.ref 0, .int x1, .null] [] sw f Q := by
  refine wp_iload_n (M := mX10_check) (pc := 0) dX10_check_0 rfl rfl ?_
  refine wp_iconst (M := mX10_check) (pc := 1) dX10_check_1 k_iconst_0 ?_
  refine wp_bipush (M := mX10_check) (pc := 2) dX10_check_2 k_bipush_16 ?_
  refine xs_callS (d := d + 2) (M := mX10_check) (pc := 4) (As := [.int x1, .int 0, .int 16]) (st := []) (ls' := [.int x1, .int 0, .int 16]) dX10_check_4 oX10_within nX10_within lX10_79 tX10_within (Nat.le_of_ble_eq_true rfl) rfl (Nat.le_of_ble_eq_true rfl) rfl ?_
  refine sp_X10_within   ?_
  refine xs_ifb_eq (M := mX10_check) (pc := 7) (t := 21) dX10_check_7 (by decide) (fun c1 => ?_) (fun c1 => ?_)
  · refine wp_bipush (M := mX10_check) (pc := 21) dX10_check_21 k_bipush_m2 ?_
    exact xs_iret (M := mX10_check) (pc := 23) dX10_check_23 rfl (p1 c1)
  · refine wp_aload_n (M := mX10_check) (pc := 10) dX10_check_10 rfl rfl ?_
    refine xs_getr (M := mX10_check) (pc := 11) (r := 1) dX10_check_11 fX10_10 sh0 rfl (gr0_0 sw) ?_
    refine wp_iload_n (M := mX10_check) (pc := 14) dX10_check_14 rfl rfl ?_
    refine xs_callV (d := d + 2) (M := mX10_check) (pc := 15) (As := [.int x1]) (st := []) (c := 8) (ls' := [.ref 1, .int x1]) dX10_check_15 oX8_take nX8_take lX10_117 vX8_take sX8_take rfl sh1 (Nat.le_of_ble_eq_true rfl) rfl (Nat.le_of_ble_eq_true rfl) rfl ?_
    exact p2 c1
theorem bX10_check_18 {G : GC} {d : Nat} {sw : Bool} {f : FF} {Q : QQ} {x1 : Int32} {v2 : Value} {s0 : Int32} (p1 : (¬ s0 = 0) → XP G mX10_check (d + 3) 26 [.ref 0, .int x1, .int 0] [] sw f Q) (p2 : (s0 = 0) → Q (some (.int (-2))) sw f) : XP G mX10_check (d + 3) 18 [.ref 0, .int x1, v2] [.int s0] sw f Q := by
  refine wp_if_ne (M := mX10_check) (pc := 18) (t := 24) dX10_check_18 (by decide) (fun c1 => ?_) (fun c1 => ?_)
  · refine wp_iconst (M := mX10_check) (pc := 24) dX10_check_24 k_iconst_0 ?_
    refine wp_istore_n (M := mX10_check) (pc := 25) (ls' := [.ref 0, .int x1, .int 0]) dX10_check_25 rfl (by decide) rfl ?_
    exact p1 c1
  · refine wp_bipush (M := mX10_check) (pc := 21) dX10_check_21 k_bipush_m2 ?_
    exact xs_iret (M := mX10_check) (pc := 23) dX10_check_23 rfl (p2 c1)
theorem bX10_check_26 {G : GC} {d : Nat} {sw : Bool} {f : FF} {Q : QQ} {x1 : Int32} {x2 : Int32} (p1 : (x1 ≤ x2) → Q (some (.int (-1))) sw f) (p2 : (¬ x1 ≤ x2) → XP G mX9_arrearsOf (d + 2) 0 [.ref 43, .int x2] [] sw f (fun v sw' f' => XP G mX10_check (d + 3) 39 [.ref 0, .int x1, .int x2] (retst v []) sw' f' Q)) : XP G mX10_check (d + 3) 26 [.ref 0, .int x1, .int x2] [] sw f Q := by
  refine wp_iload_n (M := mX10_check) (pc := 26) dX10_check_26 rfl rfl ?_
  refine wp_iload_n (M := mX10_check) (pc := 27) dX10_check_27 rfl rfl ?_
  refine wp_icmp_ge (M := mX10_check) (pc := 28) (t := 62) dX10_check_28 (by decide) (fun c1 => ?_) (fun c1 => ?_)
  · refine wp_iconst (M := mX10_check) (pc := 62) dX10_check_62 k_iconst_m1 ?_
    exact xs_iret (M := mX10_check) (pc := 63) dX10_check_63 rfl (p1 c1)
  · refine wp_aload_n (M := mX10_check) (pc := 31) dX10_check_31 rfl rfl ?_
    refine xs_getr (M := mX10_check) (pc := 32) (r := 43) dX10_check_32 fX10_65 sh0 rfl (gr0_7 sw) ?_
    refine wp_iload_n (M := mX10_check) (pc := 35) dX10_check_35 rfl rfl ?_
    refine xs_callV (d := d + 2) (M := mX10_check) (pc := 36) (As := [.int x2]) (st := []) (c := 9) (ls' := [.ref 43, .int x2]) dX10_check_36 oX9_arrearsOf nX9_arrearsOf lX10_166 vX9_arrearsOf sX9_arrearsOf rfl sh43 (Nat.le_of_ble_eq_true rfl) rfl (Nat.le_of_ble_eq_true rfl) rfl ?_
    exact p2 c1
theorem bX10_check_39 {G : GC} {d : Nat} {sw : Bool} {f : FF} {Q : QQ} {x1 : Int32} {x2 : Int32} {s0 : Int32} (p1 : ((s0 - s0 / 256 * 256) = (tAt f x2)) → XP G mX10_check (d + 3) 26 [.ref 0, .int x1, .int (x2 + 1)] [] sw f Q) (p2 : (¬ (s0 - s0 / 256 * 256) = (tAt f x2)) → Q (some (.int x2)) sw f) : XP G mX10_check (d + 3) 39 [.ref 0, .int x1, .int x2] [.int s0] sw f Q := by
  refine wp_sipush (M := mX10_check) (pc := 39) dX10_check_39 k_sipush_256 ?_
  refine wp_irem (M := mX10_check) (pc := 42) dX10_check_42 (by decide) ?_
  refine wp_aload_n (M := mX10_check) (pc := 43) dX10_check_43 rfl rfl ?_
  refine xs_getr (M := mX10_check) (pc := 44) (r := 1) dX10_check_44 fX10_10 sh0 rfl (gr0_0 sw) ?_
  refine wp_iload_n (M := mX10_check) (pc := 47) dX10_check_47 rfl rfl ?_
  refine xs_callV (d := d + 2) (M := mX10_check) (pc := 48) (As := [.int x2]) (st := [.int (s0 - s0 / 256 * 256)]) (c := 8) (ls' := [.ref 1, .int x2]) dX10_check_48 oX8_at nX8_at lX10_306 vX8_at sX8_at rfl sh1 (Nat.le_of_ble_eq_true rfl) rfl (Nat.le_of_ble_eq_true rfl) rfl ?_
  refine sp_X8_at   ?_
  refine wp_icmp_eq (M := mX10_check) (pc := 51) (t := 56) dX10_check_51 (by decide) (fun c1 => ?_) (fun c1 => ?_)
  · refine wp_iinc (M := mX10_check) (pc := 56) (v := x2 + 1) (ls' := [.ref 0, .int x1, .int (x2 + 1)]) dX10_check_56 rfl (congrArg (fun z => _ + z) k_iconst_1) (by decide) rfl ?_
    refine wp_goto (M := mX10_check) (pc := 59) (t := 26) dX10_check_59 (by decide) ?_
    exact p1 c1
  · refine wp_iload_n (M := mX10_check) (pc := 54) dX10_check_54 rfl rfl ?_
    exact xs_iret (M := mX10_check) (pc := 55) dX10_check_55 rfl (p2 c1)
theorem bX10_count_0 {G : GC} {d : Nat} {sw : Bool} {f : FF} {Q : QQ} {x1 : Int32} (p1 : (x1 = 0) → Q (some (.int (f 43 6))) sw f) (p2 : (x1 = 1) → Q (some (.int (f 43 5))) sw f) (p3 : (x1 = 2) → Q (some (.int (f 43 0))) sw f) (p4 : (x1 = 3) → Q (some (.int (f 43 1))) sw f) (p5 : (x1 = 4) → Q (some (.int (f 43 2))) sw f) (p6 : (x1 = 5) → Q (some (.int (wFree f 43))) sw f) (p7 : (x1 = 6) → XP G mX9_calls (d + 1) 0 [.ref 43] [] sw f (fun v sw' f' => XP G mX10_count (d + 2) 111 [.ref 0, .int x1] (retst v []) sw' f' Q)) (p8 : (x1 = 7) → Q (some (.int (f (lwB sw) 0))) sw f) (p9 : (x1 = 8) → Q (some (.int (f 1 1))) sw f) (p10 : (x1 = 9) → Q (some (.int (f 43 7))) sw f) (p11 : (¬ x1 = 0) → (¬ x1 = 1) → (¬ x1 = 2) → (¬ x1 = 3) → (¬ x1 = 4) → (¬ x1 = 5) → (¬ x1 = 6) → (¬ x1 = 7) → (¬ x1 = 8) → (¬ x1 = 9) → (¬ (0 ≤ (x1 - 10) ∧ (x1 - 10) ≤ 7)) → Q (some (.int (-1))) sw f) (p12 : (¬ x1 = 0) → (¬ x1 = 1) → (¬ x1 = 2) → (¬ x1 = 3) → (¬ x1 = 4) → (¬ x1 = 5) → (¬ x1 = 6) → (¬ x1 = 7) → (¬ x1 = 8) → (¬ x1 = 9) → (0 ≤ (x1 - 10) ∧ (x1 - 10) ≤ 7) → vp_in (x1 - 10) 9) (p13 : (¬ x1 = 0) → (¬ x1 = 1) → (¬ x1 = 2) → (¬ x1 = 3) → (¬ x1 = 4) → (¬ x1 = 5) → (¬ x1 = 6) → (¬ x1 = 7) → (¬ x1 = 8) → (¬ x1 = 9) → (0 ≤ (x1 - 10) ∧ (x1 - 10) ≤ 7) → ((f 13 ((x1 - 10).toNatClampNeg)) ≤ 0) → Q (some (.int (-1))) sw f) (p14 : (¬ x1 = 0) → (¬ x1 = 1) → (¬ x1 = 2) → (¬ x1 = 3) → (¬ x1 = 4) → (¬ x1 = 5) → (¬ x1 = 6) → (¬ x1 = 7) → (¬ x1 = 8) → (¬ x1 = 9) → (0 ≤ (x1 - 10) ∧ (x1 - 10) ≤ 7) → (¬ (f 13 ((x1 - 10).toNatClampNeg)) ≤ 0) → vp_in (x1 - 10) 9) (p15 : (¬ x1 = 0) → (¬ x1 = 1) → (¬ x1 = 2) → (¬ x1 = 3) → (¬ x1 = 4) → (¬ x1 = 5) → (¬ x1 = 6) → (¬ x1 = 7) → (¬ x1 = 8) → (¬ x1 = 9) → (0 ≤ (x1 - 10) ∧ (x1 - 10) ≤ 7) → (¬ (f 13 ((x1 - 10).toNatClampNeg)) ≤ 0) → Q (some (.int (f 13 ((x1 - 10).toNatClampNeg)))) sw f) : XP G mX10_count (d + 2) 0 [.ref 0, .int x1] [] sw f Q := by
  refine wp_iload_n (M := mX10_count) (pc := 0) dX10_count_0 rfl rfl ?_
  by_cases c1 : x1 = 0
  · refine wp_tableIn (M := mX10_count) (pc := 1) (t := 56) (off := 55) dX10_count_1 (by rw [c1] <;> decide) (by rw [c1] <;> decide) (by rw [c1] <;> rfl) (by decide) ?_
    refine wp_aload_n (M := mX10_count) (pc := 56) dX10_count_56 rfl rfl ?_
    refine xs_getr (M := mX10_count) (pc := 57) (r := 43) dX10_count_57 fX10_65 sh0 rfl (gr0_7 sw) ?_
    refine xs_geti (M := mX10_count) (pc := 60) dX10_count_60 fX10_303 sh43 rfl ?_
    exact xs_iret (M := mX10_count) (pc := 63) dX10_count_63 rfl (p1 c1)
  by_cases c2 : x1 = 1
  · refine wp_tableIn (M := mX10_count) (pc := 1) (t := 64) (off := 63) dX10_count_1 (by rw [c2] <;> decide) (by rw [c2] <;> decide) (by rw [c2] <;> rfl) (by decide) ?_
    refine wp_aload_n (M := mX10_count) (pc := 64) dX10_count_64 rfl rfl ?_
    refine xs_getr (M := mX10_count) (pc := 65) (r := 43) dX10_count_65 fX10_65 sh0 rfl (gr0_7 sw) ?_
    refine xs_geti (M := mX10_count) (pc := 68) dX10_count_68 fX10_96 sh43 rfl ?_
    exact xs_iret (M := mX10_count) (pc := 71) dX10_count_71 rfl (p2 c2)
  by_cases c3 : x1 = 2
  · refine wp_tableIn (M := mX10_count) (pc := 1) (t := 72) (off := 71) dX10_count_1 (by rw [c3] <;> decide) (by rw [c3] <;> decide) (by rw [c3] <;> rfl) (by decide) ?_
    refine wp_aload_n (M := mX10_count) (pc := 72) dX10_count_72 rfl rfl ?_
    refine xs_getr (M := mX10_count) (pc := 73) (r := 43) dX10_count_73 fX10_65 sh0 rfl (gr0_7 sw) ?_
    refine xs_geti (M := mX10_count) (pc := 76) dX10_count_76 fX10_129 sh43 rfl ?_
    exact xs_iret (M := mX10_count) (pc := 79) dX10_count_79 rfl (p3 c3)
  by_cases c4 : x1 = 3
  · refine wp_tableIn (M := mX10_count) (pc := 1) (t := 80) (off := 79) dX10_count_1 (by rw [c4] <;> decide) (by rw [c4] <;> decide) (by rw [c4] <;> rfl) (by decide) ?_
    refine wp_aload_n (M := mX10_count) (pc := 80) dX10_count_80 rfl rfl ?_
    refine xs_getr (M := mX10_count) (pc := 81) (r := 43) dX10_count_81 fX10_65 sh0 rfl (gr0_7 sw) ?_
    refine xs_geti (M := mX10_count) (pc := 84) dX10_count_84 fX10_173 sh43 rfl ?_
    exact xs_iret (M := mX10_count) (pc := 87) dX10_count_87 rfl (p4 c4)
  by_cases c5 : x1 = 4
  · refine wp_tableIn (M := mX10_count) (pc := 1) (t := 88) (off := 87) dX10_count_1 (by rw [c5] <;> decide) (by rw [c5] <;> decide) (by rw [c5] <;> rfl) (by decide) ?_
    refine wp_aload_n (M := mX10_count) (pc := 88) dX10_count_88 rfl rfl ?_
    refine xs_getr (M := mX10_count) (pc := 89) (r := 43) dX10_count_89 fX10_65 sh0 rfl (gr0_7 sw) ?_
    refine xs_geti (M := mX10_count) (pc := 92) dX10_count_92 fX10_176 sh43 rfl ?_
    exact xs_iret (M := mX10_count) (pc := 95) dX10_count_95 rfl (p5 c5)
  by_cases c6 : x1 = 5
  · refine wp_tableIn (M := mX10_count) (pc := 1) (t := 96) (off := 95) dX10_count_1 (by rw [c6] <;> decide) (by rw [c6] <;> decide) (by rw [c6] <;> rfl) (by decide) ?_
    refine wp_aload_n (M := mX10_count) (pc := 96) dX10_count_96 rfl rfl ?_
    refine xs_getr (M := mX10_count) (pc := 97) (r := 43) dX10_count_97 fX10_65 sh0 rfl (gr0_7 sw) ?_
    refine xs_callV (d := d + 1) (M := mX10_count) (pc := 100) (As := []) (st := []) (c := 9) (ls' := [.ref 43]) dX10_count_100 oX9_free nX9_free lX10_309 vX9_free sX9_free rfl sh43 (Nat.le_of_ble_eq_true rfl) rfl (Nat.le_of_ble_eq_true rfl) rfl ?_
    refine sp_X9_free isW_43  ?_
    exact xs_iret (M := mX10_count) (pc := 103) dX10_count_103 rfl (p6 c6)
  by_cases c7 : x1 = 6
  · refine wp_tableIn (M := mX10_count) (pc := 1) (t := 104) (off := 103) dX10_count_1 (by rw [c7] <;> decide) (by rw [c7] <;> decide) (by rw [c7] <;> rfl) (by decide) ?_
    refine wp_aload_n (M := mX10_count) (pc := 104) dX10_count_104 rfl rfl ?_
    refine xs_getr (M := mX10_count) (pc := 105) (r := 43) dX10_count_105 fX10_65 sh0 rfl (gr0_7 sw) ?_
    refine xs_callV (d := d + 1) (M := mX10_count) (pc := 108) (As := []) (st := []) (c := 9) (ls' := [.ref 43]) dX10_count_108 oX9_calls nX9_calls lX10_163 vX9_calls sX9_calls rfl sh43 (Nat.le_of_ble_eq_true rfl) rfl (Nat.le_of_ble_eq_true rfl) rfl ?_
    exact p7 c7
  by_cases c8 : x1 = 7
  · refine wp_tableIn (M := mX10_count) (pc := 1) (t := 112) (off := 111) dX10_count_1 (by rw [c8] <;> decide) (by rw [c8] <;> decide) (by rw [c8] <;> rfl) (by decide) ?_
    refine wp_aload_n (M := mX10_count) (pc := 112) dX10_count_112 rfl rfl ?_
    refine xs_getr (M := mX10_count) (pc := 113) (r := 32) dX10_count_113 fX10_58 sh0 rfl (gr0_6 sw) ?_
    refine xs_getr (M := mX10_count) (pc := 116) (r := lwB sw) dX10_count_116 fX10_124 sh32 rfl (gr32_2 sw) ?_
    refine xs_geti (M := mX10_count) (pc := 119) dX10_count_119 fX10_312 (shL (isLw_B sw)) rfl ?_
    exact xs_iret (M := mX10_count) (pc := 122) dX10_count_122 rfl (p8 c8)
  by_cases c9 : x1 = 8
  · refine wp_tableIn (M := mX10_count) (pc := 1) (t := 123) (off := 122) dX10_count_1 (by rw [c9] <;> decide) (by rw [c9] <;> decide) (by rw [c9] <;> rfl) (by decide) ?_
    refine wp_aload_n (M := mX10_count) (pc := 123) dX10_count_123 rfl rfl ?_
    refine xs_getr (M := mX10_count) (pc := 124) (r := 1) dX10_count_124 fX10_10 sh0 rfl (gr0_0 sw) ?_
    refine xs_geti (M := mX10_count) (pc := 127) dX10_count_127 fX10_114 sh1 rfl ?_
    exact xs_iret (M := mX10_count) (pc := 130) dX10_count_130 rfl (p9 c9)
  by_cases c10 : x1 = 9
  · refine wp_tableIn (M := mX10_count) (pc := 1) (t := 131) (off := 130) dX10_count_1 (by rw [c10] <;> decide) (by rw [c10] <;> decide) (by rw [c10] <;> rfl) (by decide) ?_
    refine wp_aload_n (M := mX10_count) (pc := 131) dX10_count_131 rfl rfl ?_
    refine xs_getr (M := mX10_count) (pc := 132) (r := 43) dX10_count_132 fX10_65 sh0 rfl (gr0_7 sw) ?_
    refine xs_geti (M := mX10_count) (pc := 135) dX10_count_135 fX10_296 sh43 rfl ?_
    exact xs_iret (M := mX10_count) (pc := 138) dX10_count_138 rfl (p10 c10)
  refine wp_tableOut (M := mX10_count) (pc := 1) (t := 139) dX10_count_1 (tbl_out (fun q h1 h2 z => by
      have hq : q = 0 ∨ q = 1 ∨ q = 2 ∨ q = 3 ∨ q = 4 ∨ q = 5 ∨ q = 6 ∨ q = 7 ∨ q = 8 ∨ q = 9 := by omega
      rcases hq with rfl | rfl | rfl | rfl | rfl | rfl | rfl | rfl | rfl | rfl
      · exact c1 (Int32.toInt_inj.mp (by rw [z]; rfl))
      · exact c2 (Int32.toInt_inj.mp (by rw [z]; rfl))
      · exact c3 (Int32.toInt_inj.mp (by rw [z]; rfl))
      · exact c4 (Int32.toInt_inj.mp (by rw [z]; rfl))
      · exact c5 (Int32.toInt_inj.mp (by rw [z]; rfl))
      · exact c6 (Int32.toInt_inj.mp (by rw [z]; rfl))
      · exact c7 (Int32.toInt_inj.mp (by rw [z]; rfl))
      · exact c8 (Int32.toInt_inj.mp (by rw [z]; rfl))
      · exact c9 (Int32.toInt_inj.mp (by rw [z]; rfl))
      · exact c10 (Int32.toInt_inj.mp (by rw [z]; rfl))
      )) (by decide) ?_
  refine wp_iload_n (M := mX10_count) (pc := 139) dX10_count_139 rfl rfl ?_
  refine wp_bipush (M := mX10_count) (pc := 140) dX10_count_140 k_bipush_10 ?_
  refine wp_isub (M := mX10_count) (pc := 142) dX10_count_142 ?_
  refine xs_callS (d := d + 1) (M := mX10_count) (pc := 143) (As := [.int (x1 - 10)]) (st := []) (ls' := [.int (x1 - 10)]) dX10_count_143 oX10_isExchange nX10_isExchange lX10_87 tX10_isExchange (Nat.le_of_ble_eq_true rfl) rfl (Nat.le_of_ble_eq_true rfl) rfl ?_
  refine sp_X10_isExchange   ?_
  refine xs_ifb_eq (M := mX10_count) (pc := 146) (t := 179) dX10_count_146 (by decide) (fun c11 => ?_) (fun c11 => ?_)
  · refine wp_iconst (M := mX10_count) (pc := 179) dX10_count_179 k_iconst_m1 ?_
    exact xs_iret (M := mX10_count) (pc := 180) dX10_count_180 rfl (p11 c1 c2 c3 c4 c5 c6 c7 c8 c9 c10 c11)
  · refine wp_aload_n (M := mX10_count) (pc := 149) dX10_count_149 rfl rfl ?_
    refine xs_getr (M := mX10_count) (pc := 150) (r := 11) dX10_count_150 fX10_28 sh0 rfl (gr0_2 sw) ?_
    refine xs_getr (M := mX10_count) (pc := 153) (r := 13) dX10_count_153 fX10_286 sh11 rfl (gr11_2 sw) ?_
    refine wp_iload_n (M := mX10_count) (pc := 156) dX10_count_156 rfl rfl ?_
    refine wp_bipush (M := mX10_count) (pc := 157) dX10_count_157 k_bipush_10 ?_
    refine wp_isub (M := mX10_count) (pc := 159) dX10_count_159 ?_
    refine xs_iald (M := mX10_count) (pc := 160) (j := (x1 - 10).toNatClampNeg) dX10_count_160 sh13 (p12 c1 c2 c3 c4 c5 c6 c7 c8 c9 c10 c11) rfl ?_
    refine wp_if_le (M := mX10_count) (pc := 161) (t := 179) dX10_count_161 (by decide) (fun c12 => ?_) (fun c12 => ?_)
    · refine wp_iconst (M := mX10_count) (pc := 179) dX10_count_179 k_iconst_m1 ?_
      exact xs_iret (M := mX10_count) (pc := 180) dX10_count_180 rfl (p13 c1 c2 c3 c4 c5 c6 c7 c8 c9 c10 c11 c12)
    · refine wp_aload_n (M := mX10_count) (pc := 164) dX10_count_164 rfl rfl ?_
      refine xs_getr (M := mX10_count) (pc := 165) (r := 11) dX10_count_165 fX10_28 sh0 rfl (gr0_2 sw) ?_
      refine xs_getr (M := mX10_count) (pc := 168) (r := 13) dX10_count_168 fX10_286 sh11 rfl (gr11_2 sw) ?_
      refine wp_iload_n (M := mX10_count) (pc := 171) dX10_count_171 rfl rfl ?_
      refine wp_bipush (M := mX10_count) (pc := 172) dX10_count_172 k_bipush_10 ?_
      refine wp_isub (M := mX10_count) (pc := 174) dX10_count_174 ?_
      refine xs_iald (M := mX10_count) (pc := 175) (j := (x1 - 10).toNatClampNeg) dX10_count_175 sh13 (p14 c1 c2 c3 c4 c5 c6 c7 c8 c9 c10 c11 c12) rfl ?_
      refine wp_goto (M := mX10_count) (pc := 176) (t := 180) dX10_count_176 (by decide) ?_
      exact xs_iret (M := mX10_count) (pc := 180) dX10_count_180 rfl (p15 c1 c2 c3 c4 c5 c6 c7 c8 c9 c10 c11 c12)
theorem bX10_count_111 {G : GC} {d : Nat} {sw : Bool} {f : FF} {Q : QQ} {x1 : Int32} {s0 : Int32} (p1 : Q (some (.int s0)) sw f) : XP G mX10_count (d + 2) 111 [.ref 0, .int x1] [.int s0] sw f Q := by
  exact xs_iret (M := mX10_count) (pc := 111) dX10_count_111 rfl (p1)
