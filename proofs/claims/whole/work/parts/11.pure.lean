theorem bX10_within_0 {G : GC} {d : Nat} {sw : Bool} {f : FF} {Q : QQ} {x0 : Int32} {x1 : Int32} {x2 : Int32} (p1 : (x0 < x1) → Q (some (.int 0)) sw f) (p2 : (¬ x0 < x1) → (x2 < x0) → Q (some (.int 0)) sw f) (p3 : (¬ x0 < x1) → (¬ x2 < x0) → Q (some (.int 1)) sw f) : XP G mX10_within (d) 0 [.int x0, .int x1, .int x2] [] sw f Q := by
  refine wp_iload_n (M := mX10_within) (pc := 0) dX10_within_0 rfl rfl ?_
  refine wp_iload_n (M := mX10_within) (pc := 1) dX10_within_1 rfl rfl ?_
  refine wp_icmp_lt (M := mX10_within) (pc := 2) (t := 14) dX10_within_2 (by decide) (fun c1 => ?_) (fun c1 => ?_)
  · refine wp_iconst (M := mX10_within) (pc := 14) dX10_within_14 k_iconst_0 ?_
    exact xs_zret (M := mX10_within) (pc := 15) dX10_within_15 rfl (by decide) (p1 c1)
  · refine wp_iload_n (M := mX10_within) (pc := 5) dX10_within_5 rfl rfl ?_
    refine wp_iload_n (M := mX10_within) (pc := 6) dX10_within_6 rfl rfl ?_
    refine wp_icmp_gt (M := mX10_within) (pc := 7) (t := 14) dX10_within_7 (by decide) (fun c2 => ?_) (fun c2 => ?_)
    · refine wp_iconst (M := mX10_within) (pc := 14) dX10_within_14 k_iconst_0 ?_
      exact xs_zret (M := mX10_within) (pc := 15) dX10_within_15 rfl (by decide) (p2 c1 c2)
    · refine wp_iconst (M := mX10_within) (pc := 10) dX10_within_10 k_iconst_1 ?_
      refine wp_goto (M := mX10_within) (pc := 11) (t := 15) dX10_within_11 (by decide) ?_
      exact xs_zret (M := mX10_within) (pc := 15) dX10_within_15 rfl (by decide) (p3 c1 c2)
theorem sp_X10_within {G : GC} {d : Nat} {sw : Bool} {f : FF} {Q : QQ} {x0 x1 x2 : Int32} (hq : Q (some (.int (b2i (x1 ≤ x0 ∧ x0 ≤ x2)))) sw f) : XP G mX10_within (d) 0 [.int x0, .int x1, .int x2] [] sw f Q :=
  bX10_within_0 (fun c => by rw [b2i_f (fun h => absurd c (Int32.not_lt.mpr h.1))] at hq; exact hq) (fun _ c => by rw [b2i_f (fun h => absurd c (Int32.not_lt.mpr h.2))] at hq; exact hq) (fun c1 c2 => by rw [b2i_t ⟨Int32.not_lt.mp c1, Int32.not_lt.mp c2⟩] at hq; exact hq)
theorem bX10_isExchange_0 {G : GC} {d : Nat} {sw : Bool} {f : FF} {Q : QQ} {x0 : Int32} (p1 : Q (some (.int (b2i (0 ≤ x0 ∧ x0 ≤ 7)))) sw f) : XP G mX10_isExchange (d + 1) 0 [.int x0] [] sw f Q := by
  refine wp_iload_n (M := mX10_isExchange) (pc := 0) dX10_isExchange_0 rfl rfl ?_
  refine wp_iconst (M := mX10_isExchange) (pc := 1) dX10_isExchange_1 k_iconst_0 ?_
  refine wp_bipush (M := mX10_isExchange) (pc := 2) dX10_isExchange_2 k_bipush_7 ?_
  refine xs_callS (d := d) (M := mX10_isExchange) (pc := 4) (As := [.int x0, .int 0, .int 7]) (st := []) (ls' := [.int x0, .int 0, .int 7]) dX10_isExchange_4 oX10_within nX10_within lX10_79 tX10_within (Nat.le_of_ble_eq_true rfl) rfl (Nat.le_of_ble_eq_true rfl) rfl ?_
  refine sp_X10_within   ?_
  exact xs_zret (M := mX10_isExchange) (pc := 7) dX10_isExchange_7 rfl (b2i_01 _) (p1)
theorem sp_X10_isExchange {G : GC} {d : Nat} {sw : Bool} {f : FF} {Q : QQ} {x0 : Int32} (hq : Q (some (.int (b2i (0 ≤ x0 ∧ x0 ≤ 7)))) sw f) : XP G mX10_isExchange (d + 1) 0 [.int x0] [] sw f Q := bX10_isExchange_0 hq
/-- two exchanges -/
abbrev twoE (e q : Int32) : Prop := (0 ≤ e ∧ e ≤ 7) ∧ (0 ≤ q ∧ q ≤ 7) ∧ ¬ e = q
theorem bX10_areTwo_0 {G : GC} {d : Nat} {sw : Bool} {f : FF} {Q : QQ} {x0 : Int32} {x1 : Int32} (p1 : (¬ (0 ≤ x0 ∧ x0 ≤ 7)) → Q (some (.int 0)) sw f) (p2 : (0 ≤ x0 ∧ x0 ≤ 7) → (¬ (0 ≤ x1 ∧ x1 ≤ 7)) → Q (some (.int 0)) sw f) (p3 : (0 ≤ x0 ∧ x0 ≤ 7) → (0 ≤ x1 ∧ x1 ≤ 7) → (x0 = x1) → Q (some (.int 0)) sw f) (p4 : (0 ≤ x0 ∧ x0 ≤ 7) → (0 ≤ x1 ∧ x1 ≤ 7) → (¬ x0 = x1) → Q (some (.int 1)) sw f) : XP G mX10_areTwo (d + 2) 0 [.int x0, .int x1] [] sw f Q := by
  refine wp_iload_n (M := mX10_areTwo) (pc := 0) dX10_areTwo_0 rfl rfl ?_
  refine xs_callS (d := d + 1) (M := mX10_areTwo) (pc := 1) (As := [.int x0]) (st := []) (ls' := [.int x0]) dX10_areTwo_1 oX10_isExchange nX10_isExchange lX10_87 tX10_isExchange (Nat.le_of_ble_eq_true rfl) rfl (Nat.le_of_ble_eq_true rfl) rfl ?_
  refine sp_X10_isExchange   ?_
  refine xs_ifb_eq (M := mX10_areTwo) (pc := 4) (t := 23) dX10_areTwo_4 (by decide) (fun c1 => ?_) (fun c1 => ?_)
  · refine wp_iconst (M := mX10_areTwo) (pc := 23) dX10_areTwo_23 k_iconst_0 ?_
    exact xs_zret (M := mX10_areTwo) (pc := 24) dX10_areTwo_24 rfl (by decide) (p1 c1)
  · refine wp_iload_n (M := mX10_areTwo) (pc := 7) dX10_areTwo_7 rfl rfl ?_
    refine xs_callS (d := d + 1) (M := mX10_areTwo) (pc := 8) (As := [.int x1]) (st := []) (ls' := [.int x1]) dX10_areTwo_8 oX10_isExchange nX10_isExchange lX10_87 tX10_isExchange (Nat.le_of_ble_eq_true rfl) rfl (Nat.le_of_ble_eq_true rfl) rfl ?_
    refine sp_X10_isExchange   ?_
    refine xs_ifb_eq (M := mX10_areTwo) (pc := 11) (t := 23) dX10_areTwo_11 (by decide) (fun c2 => ?_) (fun c2 => ?_)
    · refine wp_iconst (M := mX10_areTwo) (pc := 23) dX10_areTwo_23 k_iconst_0 ?_
      exact xs_zret (M := mX10_areTwo) (pc := 24) dX10_areTwo_24 rfl (by decide) (p2 c1 c2)
    · refine wp_iload_n (M := mX10_areTwo) (pc := 14) dX10_areTwo_14 rfl rfl ?_
      refine wp_iload_n (M := mX10_areTwo) (pc := 15) dX10_areTwo_15 rfl rfl ?_
      refine wp_icmp_eq (M := mX10_areTwo) (pc := 16) (t := 23) dX10_areTwo_16 (by decide) (fun c3 => ?_) (fun c3 => ?_)
      · refine wp_iconst (M := mX10_areTwo) (pc := 23) dX10_areTwo_23 k_iconst_0 ?_
        exact xs_zret (M := mX10_areTwo) (pc := 24) dX10_areTwo_24 rfl (by decide) (p3 c1 c2 c3)
      · refine wp_iconst (M := mX10_areTwo) (pc := 19) dX10_areTwo_19 k_iconst_1 ?_
        refine wp_goto (M := mX10_areTwo) (pc := 20) (t := 24) dX10_areTwo_20 (by decide) ?_
        exact xs_zret (M := mX10_areTwo) (pc := 24) dX10_areTwo_24 rfl (by decide) (p4 c1 c2 c3)
theorem sp_X10_areTwo {G : GC} {d : Nat} {sw : Bool} {f : FF} {Q : QQ} {x0 x1 : Int32} (hq : Q (some (.int (b2i (twoE x0 x1)))) sw f) : XP G mX10_areTwo (d + 2) 0 [.int x0, .int x1] [] sw f Q :=
  bX10_areTwo_0 (fun c => by rw [b2i_f (fun h => c h.1)] at hq; exact hq) (fun _ c => by rw [b2i_f (fun h => c h.2.1)] at hq; exact hq) (fun _ _ c => by rw [b2i_f (fun h => h.2.2 c)] at hq; exact hq) (fun c1 c2 c3 => by rw [b2i_t ⟨c1, c2, c3⟩] at hq; exact hq)
theorem bX10_isDigit_0 {G : GC} {d : Nat} {sw : Bool} {f : FF} {Q : QQ} {x0 : Int32} (p1 : (x0 < 48) → Q (some (.int 0)) sw f) (p2 : (¬ x0 < 48) → (57 < x0) → Q (some (.int 0)) sw f) (p3 : (¬ x0 < 48) → (¬ 57 < x0) → Q (some (.int 1)) sw f) : XP G mX10_isDigit (d) 0 [.int x0] [] sw f Q := by
  refine wp_iload_n (M := mX10_isDigit) (pc := 0) dX10_isDigit_0 rfl rfl ?_
  refine wp_bipush (M := mX10_isDigit) (pc := 1) dX10_isDigit_1 k_bipush_48 ?_
  refine wp_icmp_lt (M := mX10_isDigit) (pc := 3) (t := 16) dX10_isDigit_3 (by decide) (fun c1 => ?_) (fun c1 => ?_)
  · refine wp_iconst (M := mX10_isDigit) (pc := 16) dX10_isDigit_16 k_iconst_0 ?_
    exact xs_zret (M := mX10_isDigit) (pc := 17) dX10_isDigit_17 rfl (by decide) (p1 c1)
  · refine wp_iload_n (M := mX10_isDigit) (pc := 6) dX10_isDigit_6 rfl rfl ?_
    refine wp_bipush (M := mX10_isDigit) (pc := 7) dX10_isDigit_7 k_bipush_57 ?_
    refine wp_icmp_gt (M := mX10_isDigit) (pc := 9) (t := 16) dX10_isDigit_9 (by decide) (fun c2 => ?_) (fun c2 => ?_)
    · refine wp_iconst (M := mX10_isDigit) (pc := 16) dX10_isDigit_16 k_iconst_0 ?_
      exact xs_zret (M := mX10_isDigit) (pc := 17) dX10_isDigit_17 rfl (by decide) (p2 c1 c2)
    · refine wp_iconst (M := mX10_isDigit) (pc := 12) dX10_isDigit_12 k_iconst_1 ?_
      refine wp_goto (M := mX10_isDigit) (pc := 13) (t := 17) dX10_isDigit_13 (by decide) ?_
      exact xs_zret (M := mX10_isDigit) (pc := 17) dX10_isDigit_17 rfl (by decide) (p3 c1 c2)
theorem sp_X10_isDigit {G : GC} {d : Nat} {sw : Bool} {f : FF} {Q : QQ} {x0 : Int32} (hq : Q (some (.int (b2i (48 ≤ x0 ∧ x0 ≤ 57)))) sw f) : XP G mX10_isDigit (d) 0 [.int x0] [] sw f Q :=
  bX10_isDigit_0 (fun c => by rw [b2i_f (fun h => absurd c (Int32.not_lt.mpr h.1))] at hq; exact hq) (fun _ c => by rw [b2i_f (fun h => absurd c (Int32.not_lt.mpr h.2))] at hq; exact hq) (fun c1 c2 => by rw [b2i_t ⟨Int32.not_lt.mp c1, Int32.not_lt.mp c2⟩] at hq; exact hq)
/-- Math.max(0, Math.min(v, m)) -/
def bnd (v m : Int32) : Int32 := if 0 < (if m < v then m else v) then (if m < v then m else v) else 0
theorem bX10_bounded_0 {G : GC} {d : Nat} {sw : Bool} {f : FF} {Q : QQ} {x0 : Int32} {x1 : Int32} (p1 : Q (some (.int (if 0 < (if x1 < x0 then x1 else x0) then (if x1 < x0 then x1 else x0) else 0))) sw f) : XP G mX10_bounded (d) 0 [.int x0, .int x1] [] sw f Q := by
  refine wp_iconst (M := mX10_bounded) (pc := 0) dX10_bounded_0 k_iconst_0 ?_
  refine wp_iload_n (M := mX10_bounded) (pc := 1) dX10_bounded_1 rfl rfl ?_
  refine wp_iload_n (M := mX10_bounded) (pc := 2) dX10_bounded_2 rfl rfl ?_
  refine xs_mmin (M := mX10_bounded) (pc := 3) dX10_bounded_3 lX10_317 (Nat.le_of_ble_eq_true rfl) ?_
  refine xs_mmax (M := mX10_bounded) (pc := 6) dX10_bounded_6 lX10_215 (Nat.le_of_ble_eq_true rfl) ?_
  exact xs_iret (M := mX10_bounded) (pc := 9) dX10_bounded_9 rfl (p1)
theorem sp_X10_bounded {G : GC} {d : Nat} {sw : Bool} {f : FF} {Q : QQ} {x0 x1 : Int32} (hq : Q (some (.int (bnd x0 x1))) sw f) : XP G mX10_bounded (d) 0 [.int x0, .int x1] [] sw f Q := bX10_bounded_0 hq
theorem bX8_hasRoom_0 {G : GC} {d : Nat} {sw : Bool} {f : FF} {Q : QQ}  (p1 : (260 < ((f 1 1) + 20)) → Q (some (.int 0)) sw f) (p2 : (¬ 260 < ((f 1 1) + 20)) → Q (some (.int 1)) sw f) : XP G mX8_hasRoom (d) 0 [.ref 1] [] sw f Q := by
  refine wp_aload_n (M := mX8_hasRoom) (pc := 0) dX8_hasRoom_0 rfl rfl ?_
  refine xs_geti (M := mX8_hasRoom) (pc := 1) dX8_hasRoom_1 fX8_15 sh1 rfl ?_
  refine wp_bipush (M := mX8_hasRoom) (pc := 4) dX8_hasRoom_4 k_bipush_20 ?_
  refine wp_iadd (M := mX8_hasRoom) (pc := 6) dX8_hasRoom_6 ?_
  refine wp_sipush (M := mX8_hasRoom) (pc := 7) dX8_hasRoom_7 k_sipush_260 ?_
  refine wp_icmp_gt (M := mX8_hasRoom) (pc := 10) (t := 17) dX8_hasRoom_10 (by decide) (fun c1 => ?_) (fun c1 => ?_)
  · refine wp_iconst (M := mX8_hasRoom) (pc := 17) dX8_hasRoom_17 k_iconst_0 ?_
    exact xs_zret (M := mX8_hasRoom) (pc := 18) dX8_hasRoom_18 rfl (by decide) (p1 c1)
  · refine wp_iconst (M := mX8_hasRoom) (pc := 13) dX8_hasRoom_13 k_iconst_1 ?_
    refine wp_goto (M := mX8_hasRoom) (pc := 14) (t := 18) dX8_hasRoom_14 (by decide) ?_
    exact xs_zret (M := mX8_hasRoom) (pc := 18) dX8_hasRoom_18 rfl (by decide) (p2 c1)
theorem sp_X8_hasRoom {G : GC} {d : Nat} {sw : Bool} {f : FF} {Q : QQ} (hq : Q (some (.int (b2i (f 1 1 + 20 ≤ 260)))) sw f) : XP G mX8_hasRoom (d) 0 [.ref 1] [] sw f Q :=
  bX8_hasRoom_0 (fun c => by rw [b2i_f (Int32.not_le.mpr c)] at hq; exact hq) (fun c => by rw [b2i_t (Int32.not_lt.mp c)] at hq; exact hq)
/-- the sign at a place of what was taken -/
def tAt (f : FF) (i : Int32) : Int32 := if 0 ≤ i ∧ i < f 1 2 ∧ i < 260 then f 2 i.toNatClampNeg else -1
theorem vin_of {x : Int32} {N : Nat} (h0 : ¬ x < 0) (hN : N < 2 ^ 31) (h1 : x < nI N) : vp_in x N := by
  rw [vp_in_iff]
  have a := Int32.le_iff_toInt_le.mp (Int32.not_lt.mp h0)
  have b := Int32.lt_iff_toInt_lt.mp h1
  rw [nI_toInt hN] at b
  simp at a
  omega
theorem bX8_at_0 {G : GC} {d : Nat} {sw : Bool} {f : FF} {Q : QQ} {x1 : Int32} (p1 : (x1 < 0) → Q (some (.int (-1))) sw f) (p2 : (¬ x1 < 0) → ((f 1 2) ≤ x1) → Q (some (.int (-1))) sw f) (p3 : (¬ x1 < 0) → (¬ (f 1 2) ≤ x1) → (260 ≤ x1) → Q (some (.int (-1))) sw f) (p4 : (¬ x1 < 0) → (¬ (f 1 2) ≤ x1) → (¬ 260 ≤ x1) → vp_in x1 260) (p5 : (¬ x1 < 0) → (¬ (f 1 2) ≤ x1) → (¬ 260 ≤ x1) → Q (some (.int (f 2 x1.toNatClampNeg))) sw f) : XP G mX8_at (d) 0 [.ref 1, .int x1] [] sw f Q := by
  refine wp_iload_n (M := mX8_at) (pc := 0) dX8_at_0 rfl rfl ?_
  refine wp_if_lt (M := mX8_at) (pc := 1) (t := 28) dX8_at_1 (by decide) (fun c1 => ?_) (fun c1 => ?_)
  · refine wp_iconst (M := mX8_at) (pc := 28) dX8_at_28 k_iconst_m1 ?_
    exact xs_iret (M := mX8_at) (pc := 29) dX8_at_29 rfl (p1 c1)
  · refine wp_iload_n (M := mX8_at) (pc := 4) dX8_at_4 rfl rfl ?_
    refine wp_aload_n (M := mX8_at) (pc := 5) dX8_at_5 rfl rfl ?_
    refine xs_geti (M := mX8_at) (pc := 6) dX8_at_6 fX8_19 sh1 rfl ?_
    refine wp_icmp_ge (M := mX8_at) (pc := 9) (t := 28) dX8_at_9 (by decide) (fun c2 => ?_) (fun c2 => ?_)
    · refine wp_iconst (M := mX8_at) (pc := 28) dX8_at_28 k_iconst_m1 ?_
      exact xs_iret (M := mX8_at) (pc := 29) dX8_at_29 rfl (p2 c1 c2)
    · refine wp_iload_n (M := mX8_at) (pc := 12) dX8_at_12 rfl rfl ?_
      refine wp_sipush (M := mX8_at) (pc := 13) dX8_at_13 k_sipush_260 ?_
      refine wp_icmp_ge (M := mX8_at) (pc := 16) (t := 28) dX8_at_16 (by decide) (fun c3 => ?_) (fun c3 => ?_)
      · refine wp_iconst (M := mX8_at) (pc := 28) dX8_at_28 k_iconst_m1 ?_
        exact xs_iret (M := mX8_at) (pc := 29) dX8_at_29 rfl (p3 c1 c2 c3)
      · refine wp_aload_n (M := mX8_at) (pc := 19) dX8_at_19 rfl rfl ?_
        refine xs_getr (M := mX8_at) (pc := 20) (r := 2) dX8_at_20 fX8_9 sh1 rfl (gr1_0 sw) ?_
        refine wp_iload_n (M := mX8_at) (pc := 23) dX8_at_23 rfl rfl ?_
        refine xs_iald (M := mX8_at) (pc := 24) (j := x1.toNatClampNeg) dX8_at_24 sh2 (p4 c1 c2 c3) rfl ?_
        refine wp_goto (M := mX8_at) (pc := 25) (t := 29) dX8_at_25 (by decide) ?_
        exact xs_iret (M := mX8_at) (pc := 29) dX8_at_29 rfl (p5 c1 c2 c3)
theorem sp_X8_at {G : GC} {d : Nat} {sw : Bool} {f : FF} {Q : QQ} {x1 : Int32} (hq : Q (some (.int (tAt f x1))) sw f) : XP G mX8_at (d) 0 [.ref 1, .int x1] [] sw f Q := by
  unfold tAt at hq
  exact bX8_at_0 (fun c => by rw [if_neg (fun h => absurd c (Int32.not_lt.mpr h.1))] at hq; exact hq) (fun _ c => by rw [if_neg (fun h => absurd h.2.1 (Int32.not_lt.mpr c))] at hq; exact hq) (fun _ _ c => by rw [if_neg (fun h => absurd h.2.2 (Int32.not_lt.mpr c))] at hq; exact hq) (fun c1 _ c3 => vin_of c1 (by decide) (Int32.not_le.mp c3)) (fun c1 c2 c3 => by rw [if_pos ⟨Int32.not_lt.mp c1, Int32.not_le.mp c2, Int32.not_le.mp c3⟩] at hq; exact hq)
theorem bX8_sign_0 {G : GC} {d : Nat} {sw : Bool} {f : FF} {Q : QQ}  (p1 : Q (some (.int (tAt f (f 1 3)))) sw f) : XP G mX8_sign (d + 1) 0 [.ref 1] [] sw f Q := by
  refine wp_aload_n (M := mX8_sign) (pc := 0) dX8_sign_0 rfl rfl ?_
  refine wp_aload_n (M := mX8_sign) (pc := 1) dX8_sign_1 rfl rfl ?_
  refine xs_geti (M := mX8_sign) (pc := 2) dX8_sign_2 fX8_22 sh1 rfl ?_
  refine xs_callV (d := d) (M := mX8_sign) (pc := 5) (As := [.int (f 1 3)]) (st := []) (c := 8) (ls' := [.ref 1, .int (f 1 3)]) dX8_sign_5 oX8_at nX8_at lX8_28 vX8_at sX8_at rfl sh1 (Nat.le_of_ble_eq_true rfl) rfl (Nat.le_of_ble_eq_true rfl) rfl ?_
  refine sp_X8_at   ?_
  exact xs_iret (M := mX8_sign) (pc := 8) dX8_sign_8 rfl (p1)
theorem sp_X8_sign {G : GC} {d : Nat} {sw : Bool} {f : FF} {Q : QQ} (hq : Q (some (.int (tAt f (f 1 3)))) sw f) : XP G mX8_sign (d + 1) 0 [.ref 1] [] sw f Q := bX8_sign_0 hq
theorem bX2_isTimes_0 {G : GC} {d : Nat} {sw : Bool} {f : FF} {Q : QQ} {x0 : Int32} (p1 : (x0 = 42) → Q (some (.int 1)) sw f) (p2 : (¬ x0 = 42) → (x0 = 47) → Q (some (.int 1)) sw f) (p3 : (¬ x0 = 42) → (¬ x0 = 47) → (¬ x0 = 37) → Q (some (.int 0)) sw f) (p4 : (¬ x0 = 42) → (¬ x0 = 47) → (x0 = 37) → Q (some (.int 1)) sw f) : XP G mX2_isTimes (d) 0 [.int x0] [] sw f Q := by
  refine wp_iload_n (M := mX2_isTimes) (pc := 0) dX2_isTimes_0 rfl rfl ?_
  refine wp_bipush (M := mX2_isTimes) (pc := 1) dX2_isTimes_1 k_bipush_42 ?_
  refine wp_icmp_eq (M := mX2_isTimes) (pc := 3) (t := 18) dX2_isTimes_3 (by decide) (fun c1 => ?_) (fun c1 => ?_)
  · refine wp_iconst (M := mX2_isTimes) (pc := 18) dX2_isTimes_18 k_iconst_1 ?_
    refine wp_goto (M := mX2_isTimes) (pc := 19) (t := 23) dX2_isTimes_19 (by decide) ?_
    exact xs_zret (M := mX2_isTimes) (pc := 23) dX2_isTimes_23 rfl (by decide) (p1 c1)
  · refine wp_iload_n (M := mX2_isTimes) (pc := 6) dX2_isTimes_6 rfl rfl ?_
    refine wp_bipush (M := mX2_isTimes) (pc := 7) dX2_isTimes_7 k_bipush_47 ?_
    refine wp_icmp_eq (M := mX2_isTimes) (pc := 9) (t := 18) dX2_isTimes_9 (by decide) (fun c2 => ?_) (fun c2 => ?_)
    · refine wp_iconst (M := mX2_isTimes) (pc := 18) dX2_isTimes_18 k_iconst_1 ?_
      refine wp_goto (M := mX2_isTimes) (pc := 19) (t := 23) dX2_isTimes_19 (by decide) ?_
      exact xs_zret (M := mX2_isTimes) (pc := 23) dX2_isTimes_23 rfl (by decide) (p2 c1 c2)
    · refine wp_iload_n (M := mX2_isTimes) (pc := 12) dX2_isTimes_12 rfl rfl ?_
      refine wp_bipush (M := mX2_isTimes) (pc := 13) dX2_isTimes_13 k_bipush_37 ?_
      refine wp_icmp_ne (M := mX2_isTimes) (pc := 15) (t := 22) dX2_isTimes_15 (by decide) (fun c3 => ?_) (fun c3 => ?_)
      · refine wp_iconst (M := mX2_isTimes) (pc := 22) dX2_isTimes_22 k_iconst_0 ?_
        exact xs_zret (M := mX2_isTimes) (pc := 23) dX2_isTimes_23 rfl (by decide) (p3 c1 c2 c3)
      · refine wp_iconst (M := mX2_isTimes) (pc := 18) dX2_isTimes_18 k_iconst_1 ?_
        refine wp_goto (M := mX2_isTimes) (pc := 19) (t := 23) dX2_isTimes_19 (by decide) ?_
        exact xs_zret (M := mX2_isTimes) (pc := 23) dX2_isTimes_23 rfl (by decide) (p4 c1 c2 c3)
theorem sp_X2_isTimes {G : GC} {d : Nat} {sw : Bool} {f : FF} {Q : QQ} {x0 : Int32} (hq : Q (some (.int (b2i (x0 = 42 ∨ x0 = 47 ∨ x0 = 37)))) sw f) : XP G mX2_isTimes (d) 0 [.int x0] [] sw f Q := by
  refine bX2_isTimes_0 ?_ ?_ ?_ ?_ <;> intros <;> simp_all [b2i]
theorem bX11_in_0 {G : GC} {d : Nat} {sw : Bool} {f : FF} {Q : QQ} {x0 : Int32} {x1 : Int32} {x2 : Int32} (p1 : (x0 < x1) → Q (some (.int 0)) sw f) (p2 : (¬ x0 < x1) → (x2 < x0) → Q (some (.int 0)) sw f) (p3 : (¬ x0 < x1) → (¬ x2 < x0) → Q (some (.int 1)) sw f) : XP G mX11_in (d) 0 [.int x0, .int x1, .int x2] [] sw f Q := by
  refine wp_iload_n (M := mX11_in) (pc := 0) dX11_in_0 rfl rfl ?_
  refine wp_iload_n (M := mX11_in) (pc := 1) dX11_in_1 rfl rfl ?_
  refine wp_icmp_lt (M := mX11_in) (pc := 2) (t := 14) dX11_in_2 (by decide) (fun c1 => ?_) (fun c1 => ?_)
  · refine wp_iconst (M := mX11_in) (pc := 14) dX11_in_14 k_iconst_0 ?_
    exact xs_zret (M := mX11_in) (pc := 15) dX11_in_15 rfl (by decide) (p1 c1)
  · refine wp_iload_n (M := mX11_in) (pc := 5) dX11_in_5 rfl rfl ?_
    refine wp_iload_n (M := mX11_in) (pc := 6) dX11_in_6 rfl rfl ?_
    refine wp_icmp_gt (M := mX11_in) (pc := 7) (t := 14) dX11_in_7 (by decide) (fun c2 => ?_) (fun c2 => ?_)
    · refine wp_iconst (M := mX11_in) (pc := 14) dX11_in_14 k_iconst_0 ?_
      exact xs_zret (M := mX11_in) (pc := 15) dX11_in_15 rfl (by decide) (p2 c1 c2)
    · refine wp_iconst (M := mX11_in) (pc := 10) dX11_in_10 k_iconst_1 ?_
      refine wp_goto (M := mX11_in) (pc := 11) (t := 15) dX11_in_11 (by decide) ?_
      exact xs_zret (M := mX11_in) (pc := 15) dX11_in_15 rfl (by decide) (p3 c1 c2)
theorem sp_X11_in {G : GC} {d : Nat} {sw : Bool} {f : FF} {Q : QQ} {x0 x1 x2 : Int32} (hq : Q (some (.int (b2i (x1 ≤ x0 ∧ x0 ≤ x2)))) sw f) : XP G mX11_in (d) 0 [.int x0, .int x1, .int x2] [] sw f Q :=
  bX11_in_0 (fun c => by rw [b2i_f (fun h => absurd c (Int32.not_lt.mpr h.1))] at hq; exact hq) (fun _ c => by rw [b2i_f (fun h => absurd c (Int32.not_lt.mpr h.2))] at hq; exact hq) (fun c1 c2 => by rw [b2i_t ⟨Int32.not_lt.mp c1, Int32.not_lt.mp c2⟩] at hq; exact hq)
theorem bX11_areTwo_0 {G : GC} {d : Nat} {sw : Bool} {f : FF} {Q : QQ} {x0 : Int32} {x1 : Int32} (p1 : (¬ (0 ≤ x0 ∧ x0 ≤ 7)) → Q (some (.int 0)) sw f) (p2 : (0 ≤ x0 ∧ x0 ≤ 7) → (¬ (0 ≤ x1 ∧ x1 ≤ 7)) → Q (some (.int 0)) sw f) (p3 : (0 ≤ x0 ∧ x0 ≤ 7) → (0 ≤ x1 ∧ x1 ≤ 7) → (x0 = x1) → Q (some (.int 0)) sw f) (p4 : (0 ≤ x0 ∧ x0 ≤ 7) → (0 ≤ x1 ∧ x1 ≤ 7) → (¬ x0 = x1) → Q (some (.int 1)) sw f) : XP G mX11_areTwo (d + 1) 0 [.int x0, .int x1] [] sw f Q := by
  refine wp_iload_n (M := mX11_areTwo) (pc := 0) dX11_areTwo_0 rfl rfl ?_
  refine wp_iconst (M := mX11_areTwo) (pc := 1) dX11_areTwo_1 k_iconst_0 ?_
  refine wp_bipush (M := mX11_areTwo) (pc := 2) dX11_areTwo_2 k_bipush_7 ?_
  refine xs_callS (d := d) (M := mX11_areTwo) (pc := 4) (As := [.int x0, .int 0, .int 7]) (st := []) (ls' := [.int x0, .int 0, .int 7]) dX11_areTwo_4 oX11_in nX11_in lX11_111 tX11_in (Nat.le_of_ble_eq_true rfl) rfl (Nat.le_of_ble_eq_true rfl) rfl ?_
  refine sp_X11_in   ?_
  refine xs_ifb_eq (M := mX11_areTwo) (pc := 7) (t := 29) dX11_areTwo_7 (by decide) (fun c1 => ?_) (fun c1 => ?_)
  · refine wp_iconst (M := mX11_areTwo) (pc := 29) dX11_areTwo_29 k_iconst_0 ?_
    exact xs_zret (M := mX11_areTwo) (pc := 30) dX11_areTwo_30 rfl (by decide) (p1 c1)
  · refine wp_iload_n (M := mX11_areTwo) (pc := 10) dX11_areTwo_10 rfl rfl ?_
    refine wp_iconst (M := mX11_areTwo) (pc := 11) dX11_areTwo_11 k_iconst_0 ?_
    refine wp_bipush (M := mX11_areTwo) (pc := 12) dX11_areTwo_12 k_bipush_7 ?_
    refine xs_callS (d := d) (M := mX11_areTwo) (pc := 14) (As := [.int x1, .int 0, .int 7]) (st := []) (ls' := [.int x1, .int 0, .int 7]) dX11_areTwo_14 oX11_in nX11_in lX11_111 tX11_in (Nat.le_of_ble_eq_true rfl) rfl (Nat.le_of_ble_eq_true rfl) rfl ?_
    refine sp_X11_in   ?_
    refine xs_ifb_eq (M := mX11_areTwo) (pc := 17) (t := 29) dX11_areTwo_17 (by decide) (fun c2 => ?_) (fun c2 => ?_)
    · refine wp_iconst (M := mX11_areTwo) (pc := 29) dX11_areTwo_29 k_iconst_0 ?_
      exact xs_zret (M := mX11_areTwo) (pc := 30) dX11_areTwo_30 rfl (by decide) (p2 c1 c2)
    · refine wp_iload_n (M := mX11_areTwo) (pc := 20) dX11_areTwo_20 rfl rfl ?_
      refine wp_iload_n (M := mX11_areTwo) (pc := 21) dX11_areTwo_21 rfl rfl ?_
      refine wp_icmp_eq (M := mX11_areTwo) (pc := 22) (t := 29) dX11_areTwo_22 (by decide) (fun c3 => ?_) (fun c3 => ?_)
      · refine wp_iconst (M := mX11_areTwo) (pc := 29) dX11_areTwo_29 k_iconst_0 ?_
        exact xs_zret (M := mX11_areTwo) (pc := 30) dX11_areTwo_30 rfl (by decide) (p3 c1 c2 c3)
      · refine wp_iconst (M := mX11_areTwo) (pc := 25) dX11_areTwo_25 k_iconst_1 ?_
        refine wp_goto (M := mX11_areTwo) (pc := 26) (t := 30) dX11_areTwo_26 (by decide) ?_
        exact xs_zret (M := mX11_areTwo) (pc := 30) dX11_areTwo_30 rfl (by decide) (p4 c1 c2 c3)
theorem sp_X11_areTwo {G : GC} {d : Nat} {sw : Bool} {f : FF} {Q : QQ} {x0 x1 : Int32} (hq : Q (some (.int (b2i (twoE x0 x1)))) sw f) : XP G mX11_areTwo (d + 1) 0 [.int x0, .int x1] [] sw f Q :=
  bX11_areTwo_0 (fun c => by rw [b2i_f (fun h => c h.1)] at hq; exact hq) (fun _ c => by rw [b2i_f (fun h => c h.2.1)] at hq; exact hq) (fun _ _ c => by rw [b2i_f (fun h => h.2.2 c)] at hq; exact hq) (fun c1 c2 c3 => by rw [b2i_t ⟨c1, c2, c3⟩] at hq; exact hq)
def mnI (a b : Int32) : Int32 := if a < b then a else b
def mxI (a b : Int32) : Int32 := if b < a then a else b
theorem bX11_min_0 {G : GC} {d : Nat} {sw : Bool} {f : FF} {Q : QQ} {x0 : Int32} {x1 : Int32} (p1 : (x1 ≤ x0) → Q (some (.int x1)) sw f) (p2 : (¬ x1 ≤ x0) → Q (some (.int x0)) sw f) : XP G mX11_min (d) 0 [.int x0, .int x1] [] sw f Q := by
  refine wp_iload_n (M := mX11_min) (pc := 0) dX11_min_0 rfl rfl ?_
  refine wp_iload_n (M := mX11_min) (pc := 1) dX11_min_1 rfl rfl ?_
  refine wp_icmp_ge (M := mX11_min) (pc := 2) (t := 9) dX11_min_2 (by decide) (fun c1 => ?_) (fun c1 => ?_)
  · refine wp_iload_n (M := mX11_min) (pc := 9) dX11_min_9 rfl rfl ?_
    exact xs_iret (M := mX11_min) (pc := 10) dX11_min_10 rfl (p1 c1)
  · refine wp_iload_n (M := mX11_min) (pc := 5) dX11_min_5 rfl rfl ?_
    refine wp_goto (M := mX11_min) (pc := 6) (t := 10) dX11_min_6 (by decide) ?_
    exact xs_iret (M := mX11_min) (pc := 10) dX11_min_10 rfl (p2 c1)
theorem sp_X11_min {G : GC} {d : Nat} {sw : Bool} {f : FF} {Q : QQ} {x0 x1 : Int32} (hq : Q (some (.int (mnI x0 x1))) sw f) : XP G mX11_min (d) 0 [.int x0, .int x1] [] sw f Q := by
  unfold mnI at hq
  exact bX11_min_0 (fun c => by rw [if_neg (Int32.not_lt.mpr c)] at hq; exact hq) (fun c => by rw [if_pos (Int32.not_le.mp c)] at hq; exact hq)
theorem bX11_max_0 {G : GC} {d : Nat} {sw : Bool} {f : FF} {Q : QQ} {x0 : Int32} {x1 : Int32} (p1 : (x0 ≤ x1) → Q (some (.int x1)) sw f) (p2 : (¬ x0 ≤ x1) → Q (some (.int x0)) sw f) : XP G mX11_max (d) 0 [.int x0, .int x1] [] sw f Q := by
  refine wp_iload_n (M := mX11_max) (pc := 0) dX11_max_0 rfl rfl ?_
  refine wp_iload_n (M := mX11_max) (pc := 1) dX11_max_1 rfl rfl ?_
  refine wp_icmp_le (M := mX11_max) (pc := 2) (t := 9) dX11_max_2 (by decide) (fun c1 => ?_) (fun c1 => ?_)
  · refine wp_iload_n (M := mX11_max) (pc := 9) dX11_max_9 rfl rfl ?_
    exact xs_iret (M := mX11_max) (pc := 10) dX11_max_10 rfl (p1 c1)
  · refine wp_iload_n (M := mX11_max) (pc := 5) dX11_max_5 rfl rfl ?_
    refine wp_goto (M := mX11_max) (pc := 6) (t := 10) dX11_max_6 (by decide) ?_
    exact xs_iret (M := mX11_max) (pc := 10) dX11_max_10 rfl (p2 c1)
theorem sp_X11_max {G : GC} {d : Nat} {sw : Bool} {f : FF} {Q : QQ} {x0 x1 : Int32} (hq : Q (some (.int (mxI x0 x1))) sw f) : XP G mX11_max (d) 0 [.int x0, .int x1] [] sw f Q := by
  unfold mxI at hq
  exact bX11_max_0 (fun c => by rw [if_neg (Int32.not_lt.mpr c)] at hq; exact hq) (fun c => by rw [if_pos (Int32.not_le.mp c)] at hq; exact hq)
abbrev hasB (s k : Int32) : Prop := (s >>> (k &&& 31)) &&& 1 = 1
theorem bX11_has_0 {G : GC} {d : Nat} {sw : Bool} {f : FF} {Q : QQ} {x0 : Int32} {x1 : Int32} (p1 : (¬ ((x0 >>> (x1 &&& 31)) &&& 1) = 1) → Q (some (.int 0)) sw f) (p2 : (((x0 >>> (x1 &&& 31)) &&& 1) = 1) → Q (some (.int 1)) sw f) : XP G mX11_has (d) 0 [.int x0, .int x1] [] sw f Q := by
  refine wp_iload_n (M := mX11_has) (pc := 0) dX11_has_0 rfl rfl ?_
  refine wp_iload_n (M := mX11_has) (pc := 1) dX11_has_1 rfl rfl ?_
  refine wp_ishr (M := mX11_has) (pc := 2) dX11_has_2 ?_
  refine wp_iconst (M := mX11_has) (pc := 3) dX11_has_3 k_iconst_1 ?_
  refine wp_iand (M := mX11_has) (pc := 4) dX11_has_4 ?_
  refine wp_iconst (M := mX11_has) (pc := 5) dX11_has_5 k_iconst_1 ?_
  refine wp_icmp_ne (M := mX11_has) (pc := 6) (t := 13) dX11_has_6 (by decide) (fun c1 => ?_) (fun c1 => ?_)
  · refine wp_iconst (M := mX11_has) (pc := 13) dX11_has_13 k_iconst_0 ?_
    exact xs_zret (M := mX11_has) (pc := 14) dX11_has_14 rfl (by decide) (p1 c1)
  · refine wp_iconst (M := mX11_has) (pc := 9) dX11_has_9 k_iconst_1 ?_
    refine wp_goto (M := mX11_has) (pc := 10) (t := 14) dX11_has_10 (by decide) ?_
    exact xs_zret (M := mX11_has) (pc := 14) dX11_has_14 rfl (by decide) (p2 c1)
theorem sp_X11_has {G : GC} {d : Nat} {sw : Bool} {f : FF} {Q : QQ} {x0 x1 : Int32} (hq : Q (some (.int (b2i (hasB x0 x1)))) sw f) : XP G mX11_has (d) 0 [.int x0, .int x1] [] sw f Q :=
  bX11_has_0 (fun c => by rw [b2i_f c] at hq; exact hq) (fun c => by rw [b2i_t c] at hq; exact hq)
def oct (f : FF) (k : Int32) : Int32 := f 90 k.toNatClampNeg &&& 255
theorem bX11_octet_0 {G : GC} {d : Nat} {sw : Bool} {f : FF} {Q : QQ} {x1 : Int32} (p1 : vp_in x1 260) (p2 : Q (some (.int ((f 90 x1.toNatClampNeg) &&& 255))) sw f) : XP G mX11_octet (d) 0 [.ref 82, .int x1] [] sw f Q := by
  refine wp_aload_n (M := mX11_octet) (pc := 0) dX11_octet_0 rfl rfl ?_
  refine xs_getr (M := mX11_octet) (pc := 1) (r := 90) dX11_octet_1 fX11_31 sh82 rfl (gr82_9 sw) ?_
  refine wp_iload_n (M := mX11_octet) (pc := 4) dX11_octet_4 rfl rfl ?_
  refine xs_bald (M := mX11_octet) (pc := 5) (j := x1.toNatClampNeg) dX11_octet_5 sh90 (p1) rfl ?_
  refine wp_sipush (M := mX11_octet) (pc := 6) dX11_octet_6 k_sipush_255 ?_
  refine wp_iand (M := mX11_octet) (pc := 9) dX11_octet_9 ?_
  exact xs_iret (M := mX11_octet) (pc := 10) dX11_octet_10 rfl (p2)
theorem sp_X11_octet {G : GC} {d : Nat} {sw : Bool} {f : FF} {Q : QQ} {x1 : Int32} (hk : vp_in x1 260) (hq : Q (some (.int (oct f x1))) sw f) : XP G mX11_octet (d) 0 [.ref 82, .int x1] [] sw f Q := bX11_octet_0 hk hq
def hereF (f : FF) : Int32 := if f 82 11 < f 82 12 then f 90 (f 82 11).toNatClampNeg &&& 255 else -1
theorem bX11_here_0 {G : GC} {d : Nat} {sw : Bool} {f : FF} {Q : QQ}  (p1 : ((f 82 12) ≤ (f 82 11)) → Q (some (.int (-1))) sw f) (p2 : (¬ (f 82 12) ≤ (f 82 11)) → vp_in (f 82 11) 260) (p3 : (¬ (f 82 12) ≤ (f 82 11)) → Q (some (.int ((f 90 ((f 82 11).toNatClampNeg)) &&& 255))) sw f) : XP G mX11_here (d) 0 [.ref 82] [] sw f Q := by
  refine wp_aload_n (M := mX11_here) (pc := 0) dX11_here_0 rfl rfl ?_
  refine xs_geti (M := mX11_here) (pc := 1) dX11_here_1 fX11_152 sh82 rfl ?_
  refine wp_aload_n (M := mX11_here) (pc := 4) dX11_here_4 rfl rfl ?_
  refine xs_geti (M := mX11_here) (pc := 5) dX11_here_5 fX11_155 sh82 rfl ?_
  refine wp_icmp_ge (M := mX11_here) (pc := 8) (t := 27) dX11_here_8 (by decide) (fun c1 => ?_) (fun c1 => ?_)
  · refine wp_iconst (M := mX11_here) (pc := 27) dX11_here_27 k_iconst_m1 ?_
    exact xs_iret (M := mX11_here) (pc := 28) dX11_here_28 rfl (p1 c1)
  · refine wp_aload_n (M := mX11_here) (pc := 11) dX11_here_11 rfl rfl ?_
    refine xs_getr (M := mX11_here) (pc := 12) (r := 90) dX11_here_12 fX11_31 sh82 rfl (gr82_9 sw) ?_
    refine wp_aload_n (M := mX11_here) (pc := 15) dX11_here_15 rfl rfl ?_
    refine xs_geti (M := mX11_here) (pc := 16) dX11_here_16 fX11_152 sh82 rfl ?_
    refine xs_bald (M := mX11_here) (pc := 19) (j := (f 82 11).toNatClampNeg) dX11_here_19 sh90 (p2 c1) rfl ?_
    refine wp_sipush (M := mX11_here) (pc := 20) dX11_here_20 k_sipush_255 ?_
    refine wp_iand (M := mX11_here) (pc := 23) dX11_here_23 ?_
    refine wp_goto (M := mX11_here) (pc := 24) (t := 28) dX11_here_24 (by decide) ?_
    exact xs_iret (M := mX11_here) (pc := 28) dX11_here_28 rfl (p3 c1)
theorem sp_X11_here {G : GC} {d : Nat} {sw : Bool} {f : FF} {Q : QQ} (hk : f 82 11 < f 82 12 → vp_in (f 82 11) 260) (hq : Q (some (.int (hereF f))) sw f) : XP G mX11_here (d) 0 [.ref 82] [] sw f Q := by
  unfold hereF at hq
  exact bX11_here_0 (fun c => by rw [if_neg (Int32.not_lt.mpr c)] at hq; exact hq) (fun c => hk (Int32.not_le.mp c)) (fun c => by rw [if_pos (Int32.not_le.mp c)] at hq; exact hq)
theorem bX11_isDigit_0 {G : GC} {d : Nat} {sw : Bool} {f : FF} {Q : QQ}  (p1 : f 82 11 < f 82 12 → vp_in (f 82 11) 260) (p2 : ((hereF f) < 48) → Q (some (.int 0)) sw f) (p3 : (¬ (hereF f) < 48) → f 82 11 < f 82 12 → vp_in (f 82 11) 260) (p4 : (¬ (hereF f) < 48) → (57 < (hereF f)) → Q (some (.int 0)) sw f) (p5 : (¬ (hereF f) < 48) → (¬ 57 < (hereF f)) → Q (some (.int 1)) sw f) : XP G mX11_isDigit (d + 1) 0 [.ref 82] [] sw f Q := by
  refine wp_aload_n (M := mX11_isDigit) (pc := 0) dX11_isDigit_0 rfl rfl ?_
  refine xs_callV (d := d) (M := mX11_isDigit) (pc := 1) (As := []) (st := []) (c := 11) (ls' := [.ref 82]) dX11_isDigit_1 oX11_here nX11_here lX11_158 vX11_here sX11_here rfl sh82 (Nat.le_of_ble_eq_true rfl) rfl (Nat.le_of_ble_eq_true rfl) rfl ?_
  refine sp_X11_here  (p1) ?_
  refine wp_bipush (M := mX11_isDigit) (pc := 4) dX11_isDigit_4 k_bipush_48 ?_
  refine wp_icmp_lt (M := mX11_isDigit) (pc := 6) (t := 22) dX11_isDigit_6 (by decide) (fun c1 => ?_) (fun c1 => ?_)
  · refine wp_iconst (M := mX11_isDigit) (pc := 22) dX11_isDigit_22 k_iconst_0 ?_
    exact xs_zret (M := mX11_isDigit) (pc := 23) dX11_isDigit_23 rfl (by decide) (p2 c1)
  · refine wp_aload_n (M := mX11_isDigit) (pc := 9) dX11_isDigit_9 rfl rfl ?_
    refine xs_callV (d := d) (M := mX11_isDigit) (pc := 10) (As := []) (st := []) (c := 11) (ls' := [.ref 82]) dX11_isDigit_10 oX11_here nX11_here lX11_158 vX11_here sX11_here rfl sh82 (Nat.le_of_ble_eq_true rfl) rfl (Nat.le_of_ble_eq_true rfl) rfl ?_
    refine sp_X11_here  (p3 c1) ?_
    refine wp_bipush (M := mX11_isDigit) (pc := 13) dX11_isDigit_13 k_bipush_57 ?_
    refine wp_icmp_gt (M := mX11_isDigit) (pc := 15) (t := 22) dX11_isDigit_15 (by decide) (fun c2 => ?_) (fun c2 => ?_)
    · refine wp_iconst (M := mX11_isDigit) (pc := 22) dX11_isDigit_22 k_iconst_0 ?_
      exact xs_zret (M := mX11_isDigit) (pc := 23) dX11_isDigit_23 rfl (by decide) (p4 c1 c2)
    · refine wp_iconst (M := mX11_isDigit) (pc := 18) dX11_isDigit_18 k_iconst_1 ?_
      refine wp_goto (M := mX11_isDigit) (pc := 19) (t := 23) dX11_isDigit_19 (by decide) ?_
      exact xs_zret (M := mX11_isDigit) (pc := 23) dX11_isDigit_23 rfl (by decide) (p5 c1 c2)
theorem sp_X11_isDigit {G : GC} {d : Nat} {sw : Bool} {f : FF} {Q : QQ} (hk : f 82 11 < f 82 12 → vp_in (f 82 11) 260) (hq : Q (some (.int (b2i (48 ≤ hereF f ∧ hereF f ≤ 57)))) sw f) : XP G mX11_isDigit (d + 1) 0 [.ref 82] [] sw f Q :=
  bX11_isDigit_0 hk (fun c => by rw [b2i_f (fun h => absurd c (Int32.not_lt.mpr h.1))] at hq; exact hq) (fun _ => hk) (fun _ c => by rw [b2i_f (fun h => absurd c (Int32.not_lt.mpr h.2))] at hq; exact hq) (fun c1 c2 => by rw [b2i_t ⟨Int32.not_lt.mp c1, Int32.not_lt.mp c2⟩] at hq; exact hq)
abbrev toldM (f : FF) (s : Int32) : Prop := (0 ≤ s ∧ s ≤ 15) ∧ f 83 s.toNatClampNeg = 1
theorem vin_le {x y : Int32} {N n : Nat} (h : 0 ≤ x ∧ x ≤ y) (hy : y.toInt = n) (hn : n < N) : vp_in x N := by
  rw [vp_in_iff]
  have a := Int32.le_iff_toInt_le.mp h.1
  have b := Int32.le_iff_toInt_le.mp h.2
  rw [hy] at b
  simp at a
  omega
theorem bX11_isTold_0 {G : GC} {d : Nat} {sw : Bool} {f : FF} {Q : QQ} {x1 : Int32} (p1 : (¬ (0 ≤ x1 ∧ x1 ≤ 15)) → Q (some (.int 0)) sw f) (p2 : (0 ≤ x1 ∧ x1 ≤ 15) → vp_in x1 391) (p3 : (0 ≤ x1 ∧ x1 ≤ 15) → (¬ (f 83 x1.toNatClampNeg) = 1) → Q (some (.int 0)) sw f) (p4 : (0 ≤ x1 ∧ x1 ≤ 15) → ((f 83 x1.toNatClampNeg) = 1) → Q (some (.int 1)) sw f) : XP G mX11_isTold (d + 1) 0 [.ref 82, .int x1] [] sw f Q := by
  refine wp_iload_n (M := mX11_isTold) (pc := 0) dX11_isTold_0 rfl rfl ?_
  refine wp_iconst (M := mX11_isTold) (pc := 1) dX11_isTold_1 k_iconst_0 ?_
  refine wp_bipush (M := mX11_isTold) (pc := 2) dX11_isTold_2 k_bipush_15 ?_
  refine xs_callS (d := d) (M := mX11_isTold) (pc := 4) (As := [.int x1, .int 0, .int 15]) (st := []) (ls' := [.int x1, .int 0, .int 15]) dX11_isTold_4 oX11_in nX11_in lX11_111 tX11_in (Nat.le_of_ble_eq_true rfl) rfl (Nat.le_of_ble_eq_true rfl) rfl ?_
  refine sp_X11_in   ?_
  refine xs_ifb_eq (M := mX11_isTold) (pc := 7) (t := 26) dX11_isTold_7 (by decide) (fun c1 => ?_) (fun c1 => ?_)
  · refine wp_iconst (M := mX11_isTold) (pc := 26) dX11_isTold_26 k_iconst_0 ?_
    exact xs_zret (M := mX11_isTold) (pc := 27) dX11_isTold_27 rfl (by decide) (p1 c1)
  · refine wp_aload_n (M := mX11_isTold) (pc := 10) dX11_isTold_10 rfl rfl ?_
    refine xs_getr (M := mX11_isTold) (pc := 11) (r := 83) dX11_isTold_11 fX11_7 sh82 rfl (gr82_0 sw) ?_
    refine wp_iconst (M := mX11_isTold) (pc := 14) dX11_isTold_14 k_iconst_0 ?_
    refine wp_iload_n (M := mX11_isTold) (pc := 15) dX11_isTold_15 rfl rfl ?_
    refine wp_iadd_0l (M := mX11_isTold) (pc := 16) dX11_isTold_16 ?_
    refine xs_iald (M := mX11_isTold) (pc := 17) (j := x1.toNatClampNeg) dX11_isTold_17 sh83 (p2 c1) rfl ?_
    refine wp_iconst (M := mX11_isTold) (pc := 18) dX11_isTold_18 k_iconst_1 ?_
    refine wp_icmp_ne (M := mX11_isTold) (pc := 19) (t := 26) dX11_isTold_19 (by decide) (fun c2 => ?_) (fun c2 => ?_)
    · refine wp_iconst (M := mX11_isTold) (pc := 26) dX11_isTold_26 k_iconst_0 ?_
      exact xs_zret (M := mX11_isTold) (pc := 27) dX11_isTold_27 rfl (by decide) (p3 c1 c2)
    · refine wp_iconst (M := mX11_isTold) (pc := 22) dX11_isTold_22 k_iconst_1 ?_
      refine wp_goto (M := mX11_isTold) (pc := 23) (t := 27) dX11_isTold_23 (by decide) ?_
      exact xs_zret (M := mX11_isTold) (pc := 27) dX11_isTold_27 rfl (by decide) (p4 c1 c2)
theorem sp_X11_isTold {G : GC} {d : Nat} {sw : Bool} {f : FF} {Q : QQ} {x1 : Int32} (hq : Q (some (.int (b2i (toldM f x1)))) sw f) : XP G mX11_isTold (d + 1) 0 [.ref 82, .int x1] [] sw f Q :=
  bX11_isTold_0 (fun c => by rw [b2i_f (fun h => c h.1)] at hq; exact hq) (fun c => vin_le c (n := 15) (by decide) (by decide)) (fun _ c => by rw [b2i_f (fun h => c h.2)] at hq; exact hq) (fun c1 c2 => by rw [b2i_t ⟨c1, c2⟩] at hq; exact hq)
theorem isW_43 : isW 43 := Or.inl rfl
theorem isW_56 : isW 56 := Or.inr (Or.inl rfl)
theorem isW_69 : isW 69 := Or.inr (Or.inr rfl)
abbrev bitI (m s : Int32) : Prop := (m >>> (s &&& 31)) &&& 1 = 1
theorem bX9_isTold_0 {G : GC} {d : Nat} {sw : Bool} {f : FF} {Q : QQ} {w : Nat} (hw : isW w) {x1 : Int32} (p1 : (¬ (0 ≤ x1 ∧ x1 ≤ 15)) → Q (some (.int 0)) sw f) (p2 : (0 ≤ x1 ∧ x1 ≤ 15) → (¬ (((f w 0) >>> (x1 &&& 31)) &&& 1) = 1) → Q (some (.int 0)) sw f) (p3 : (0 ≤ x1 ∧ x1 ≤ 15) → ((((f w 0) >>> (x1 &&& 31)) &&& 1) = 1) → Q (some (.int 1)) sw f) : XP G mX9_isTold (d + 1) 0 [.ref w, .int x1] [] sw f Q := by
  refine wp_iload_n (M := mX9_isTold) (pc := 0) dX9_isTold_0 rfl rfl ?_
  refine wp_iconst (M := mX9_isTold) (pc := 1) dX9_isTold_1 k_iconst_0 ?_
  refine wp_bipush (M := mX9_isTold) (pc := 2) dX9_isTold_2 k_bipush_15 ?_
  refine xs_callSN (d := d) (M := mX9_isTold) (pc := 4) (As := [.int x1, .int 0, .int 15]) (st := []) (ls' := [.int x1, .int 0, .int 15]) dX9_isTold_4 oX10_within nX10_within hX9_79 tX10_within (Nat.le_of_ble_eq_true rfl) rfl (Nat.le_of_ble_eq_true rfl) rfl ?_
  refine sp_X10_within   ?_
  refine xs_ifb_eq (M := mX9_isTold) (pc := 7) (t := 26) dX9_isTold_7 (by decide) (fun c1 => ?_) (fun c1 => ?_)
  · refine wp_iconst (M := mX9_isTold) (pc := 26) dX9_isTold_26 k_iconst_0 ?_
    exact xs_zret (M := mX9_isTold) (pc := 27) dX9_isTold_27 rfl (by decide) (p1 c1)
  · refine wp_aload_n (M := mX9_isTold) (pc := 10) dX9_isTold_10 rfl rfl ?_
    refine xs_geti (M := mX9_isTold) (pc := 11) dX9_isTold_11 fX9_52 (shW hw) rfl ?_
    refine wp_iload_n (M := mX9_isTold) (pc := 14) dX9_isTold_14 rfl rfl ?_
    refine wp_ishr (M := mX9_isTold) (pc := 15) dX9_isTold_15 ?_
    refine wp_iconst (M := mX9_isTold) (pc := 16) dX9_isTold_16 k_iconst_1 ?_
    refine wp_iand (M := mX9_isTold) (pc := 17) dX9_isTold_17 ?_
    refine wp_iconst (M := mX9_isTold) (pc := 18) dX9_isTold_18 k_iconst_1 ?_
    refine wp_icmp_ne (M := mX9_isTold) (pc := 19) (t := 26) dX9_isTold_19 (by decide) (fun c2 => ?_) (fun c2 => ?_)
    · refine wp_iconst (M := mX9_isTold) (pc := 26) dX9_isTold_26 k_iconst_0 ?_
      exact xs_zret (M := mX9_isTold) (pc := 27) dX9_isTold_27 rfl (by decide) (p2 c1 c2)
    · refine wp_iconst (M := mX9_isTold) (pc := 22) dX9_isTold_22 k_iconst_1 ?_
      refine wp_goto (M := mX9_isTold) (pc := 23) (t := 27) dX9_isTold_23 (by decide) ?_
      exact xs_zret (M := mX9_isTold) (pc := 27) dX9_isTold_27 rfl (by decide) (p3 c1 c2)
theorem sp_X9_isTold {G : GC} {d : Nat} {sw : Bool} {f : FF} {Q : QQ} {w : Nat} (hw : isW w) {x1 : Int32} (hq : Q (some (.int (b2i ((0 ≤ x1 ∧ x1 ≤ 15) ∧ bitI (f w 0) x1)))) sw f) : XP G mX9_isTold (d + 1) 0 [.ref w, .int x1] [] sw f Q :=
  bX9_isTold_0 hw (fun c => by rw [b2i_f (fun h => c h.1)] at hq; exact hq) (fun _ c => by rw [b2i_f (fun h => c h.2)] at hq; exact hq) (fun c1 c2 => by rw [b2i_t ⟨c1, c2⟩] at hq; exact hq)
/-- who is FREE, as bits -/
def wFree (f : FF) (w : Nat) : Int32 := (((f w 0) &&& ((f w 2) ^^^ (-1))) &&& ((f w 3) ^^^ (-1))) &&& ((f w 4) ^^^ (-1))
theorem bX9_free_0 {G : GC} {d : Nat} {sw : Bool} {f : FF} {Q : QQ} {w : Nat} (hw : isW w) (p1 : Q (some (.int ((((f w 0) &&& ((f w 2) ^^^ (-1))) &&& ((f w 3) ^^^ (-1))) &&& ((f w 4) ^^^ (-1))))) sw f) : XP G mX9_free (d) 0 [.ref w] [] sw f Q := by
  refine wp_aload_n (M := mX9_free) (pc := 0) dX9_free_0 rfl rfl ?_
  refine xs_geti (M := mX9_free) (pc := 1) dX9_free_1 fX9_52 (shW hw) rfl ?_
  refine wp_aload_n (M := mX9_free) (pc := 4) dX9_free_4 rfl rfl ?_
  refine xs_geti (M := mX9_free) (pc := 5) dX9_free_5 fX9_58 (shW hw) rfl ?_
  refine wp_iconst (M := mX9_free) (pc := 8) dX9_free_8 k_iconst_m1 ?_
  refine wp_ixor (M := mX9_free) (pc := 9) dX9_free_9 ?_
  refine wp_iand (M := mX9_free) (pc := 10) dX9_free_10 ?_
  refine wp_aload_n (M := mX9_free) (pc := 11) dX9_free_11 rfl rfl ?_
  refine xs_geti (M := mX9_free) (pc := 12) dX9_free_12 fX9_61 (shW hw) rfl ?_
  refine wp_iconst (M := mX9_free) (pc := 15) dX9_free_15 k_iconst_m1 ?_
  refine wp_ixor (M := mX9_free) (pc := 16) dX9_free_16 ?_
  refine wp_iand (M := mX9_free) (pc := 17) dX9_free_17 ?_
  refine wp_aload_n (M := mX9_free) (pc := 18) dX9_free_18 rfl rfl ?_
  refine xs_geti (M := mX9_free) (pc := 19) dX9_free_19 fX9_64 (shW hw) rfl ?_
  refine wp_iconst (M := mX9_free) (pc := 22) dX9_free_22 k_iconst_m1 ?_
  refine wp_ixor (M := mX9_free) (pc := 23) dX9_free_23 ?_
  refine wp_iand (M := mX9_free) (pc := 24) dX9_free_24 ?_
  exact xs_iret (M := mX9_free) (pc := 25) dX9_free_25 rfl (p1)
theorem sp_X9_free {G : GC} {d : Nat} {sw : Bool} {f : FF} {Q : QQ} {w : Nat} (hw : isW w) (hq : Q (some (.int (wFree f w))) sw f) : XP G mX9_free (d) 0 [.ref w] [] sw f Q := bX9_free_0 hw hq
