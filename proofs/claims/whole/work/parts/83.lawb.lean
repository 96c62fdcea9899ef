/-! ===== DeadLines.law: the two laws change places ===== -/
theorem GR_swap (sw : Bool) (f : FF) : ((SH, upr2 (upr2 (GR sw) 32 2 (some (lwR sw))) 24 1 (some (lwB sw)), f) : HP) = hp (!sw) f := by
  have e : upr2 (upr2 (GR sw) 32 2 (some (lwR sw))) 24 1 (some (lwB sw)) = GR (!sw) := by
    funext a b
    unfold upr2
    by_cases h1 : a = 24
    · subst h1
      by_cases h2 : b = 1
      · subst h2; cases sw <;> rfl
      · rw [if_pos rfl]
        show (if b = 1 then some (lwB sw) else _) = _
        rw [if_neg h2, if_neg (by omega)]
        unfold GR
        rw [if_neg (by omega), if_neg (by omega), if_neg (by omega), if_neg (by omega)]
    · rw [if_neg h1]
      by_cases h3 : a = 32
      · subst h3
        rw [if_pos rfl]
        by_cases h4 : b = 2
        · subst h4; cases sw <;> rfl
        · show (if b = 2 then some (lwR sw) else _) = _
          rw [if_neg h4]
          unfold GR
          rw [if_neg (by omega), if_neg (by omega), if_neg (by omega), if_neg (by omega)]
      · rw [if_neg h3]
        unfold GR
        rw [if_neg (by omega), if_neg (by omega), if_neg (by omega), if_neg (by omega)]
  rw [e]
  rfl
theorem bX10_law_0 {G : GC} {d : Nat} {sw : Bool} {f : FF} {Q : QQ} {x1 : Int32} (p1 : (¬ (1 ≤ x1 ∧ x1 ≤ 240)) → Q (some (.int (-1))) sw f) (p2 : (1 ≤ x1 ∧ x1 ≤ 240) → XP G mX8_take (d + 5) 0 [.ref 1, .int x1] [] sw f (fun v sw' f' => XP G mX10_law (d + 6) 19 [.ref 0, .int x1, .null, .null] (retst v []) sw' f' Q)) : XP G mX10_law (d + 6) 0 [.ref 0, .int x1, .null, .null] [] sw f Q := by
  refine wp_iload_n (M := mX10_law) (pc := 0) dX10_law_0 rfl rfl ?_
  refine wp_iconst (M := mX10_law) (pc := 1) dX10_law_1 k_iconst_1 ?_
  refine wp_sipush (M := mX10_law) (pc := 2) dX10_law_2 k_sipush_240 ?_
  refine xs_callS (d := d + 5) (M := mX10_law) (pc := 5) (As := [.int x1, .int 1, .int 240]) (st := []) (ls' := [.int x1, .int 1, .int 240]) dX10_law_5 oX10_within nX10_within lX10_79 tX10_within (Nat.le_of_ble_eq_true rfl) rfl (Nat.le_of_ble_eq_true rfl) rfl ?_
  refine sp_X10_within   ?_
  refine xs_ifb_eq (M := mX10_law) (pc := 8) (t := 22) dX10_law_8 (by decide) (fun c1 => ?_) (fun c1 => ?_)
  · refine wp_iconst (M := mX10_law) (pc := 22) dX10_law_22 k_iconst_m1 ?_
    exact xs_iret (M := mX10_law) (pc := 23) dX10_law_23 rfl (p1 c1)
  · refine wp_aload_n (M := mX10_law) (pc := 11) dX10_law_11 rfl rfl ?_
    refine xs_getr (M := mX10_law) (pc := 12) (r := 1) dX10_law_12 fX10_10 sh0 rfl (gr0_0 sw) ?_
    refine wp_iload_n (M := mX10_law) (pc := 15) dX10_law_15 rfl rfl ?_
    refine xs_callV (d := d + 5) (M := mX10_law) (pc := 16) (As := [.int x1]) (st := []) (c := 8) (ls' := [.ref 1, .int x1]) dX10_law_16 oX8_take nX8_take lX10_117 vX8_take sX8_take rfl sh1 (Nat.le_of_ble_eq_true rfl) rfl (Nat.le_of_ble_eq_true rfl) rfl ?_
    exact p2 c1
theorem bX10_law_19 {G : GC} {d : Nat} {sw : Bool} {f : FF} {Q : QQ} {x1 s0 : Int32} (p1 : (¬ s0 = 0) → XP G mX2_readLaw (d + 5) 0 [.ref 24, .null] [] sw f (fun v sw' f' => XP G mX10_law (d + 6) 31 [.ref 0, .int x1, .null, .null] (retst v []) sw' f' Q)) (p2 : (s0 = 0) → Q (some (.int (-1))) sw f) : XP G mX10_law (d + 6) 19 [.ref 0, .int x1, .null, .null] [.int s0] sw f Q := by
  refine wp_if_ne (M := mX10_law) (pc := 19) (t := 24) dX10_law_19 (by decide) (fun c1 => ?_) (fun c1 => ?_)
  · refine wp_aload_n (M := mX10_law) (pc := 24) dX10_law_24 rfl rfl ?_
    refine xs_getr (M := mX10_law) (pc := 25) (r := 24) dX10_law_25 fX10_49 sh0 rfl (gr0_5 sw) ?_
    refine xs_callV (d := d + 5) (M := mX10_law) (pc := 28) (As := []) (st := []) (c := 2) (ls' := [.ref 24, .null]) dX10_law_28 oX2_readLaw nX2_readLaw lX10_120 vX2_readLaw sX2_readLaw rfl sh24 (Nat.le_of_ble_eq_true rfl) rfl (Nat.le_of_ble_eq_true rfl) rfl ?_
    exact p1 c1
  · refine wp_iconst (M := mX10_law) (pc := 22) dX10_law_22 k_iconst_m1 ?_
    exact xs_iret (M := mX10_law) (pc := 23) dX10_law_23 rfl (p2 (by simpa using c1))
theorem bX10_law_31 {G : GC} {d : Nat} {sw : Bool} {f : FF} {Q : QQ} {x1 s0 : Int32} (p1 : s0 ≤ 0 → Q (some (.int s0)) sw f) (p2 : ¬ s0 ≤ 0 → Q (some (.int s0)) (!sw) f) : XP G mX10_law (d + 6) 31 [.ref 0, .int x1, .null, .null] [.int s0] sw f Q := by
  refine wp_istore_n (M := mX10_law) (pc := 31) (ls' := [.ref 0, .int x1, .int s0, .null]) dX10_law_31 rfl (Nat.le_of_ble_eq_true rfl) rfl ?_
  refine wp_iload_n (M := mX10_law) (pc := 32) dX10_law_32 rfl rfl ?_
  refine wp_if_le (M := mX10_law) (pc := 33) (t := 66) dX10_law_33 (by decide) (fun c1 => ?_) (fun c1 => ?_)
  · refine wp_iload_n (M := mX10_law) (pc := 66) dX10_law_66 rfl rfl ?_
    exact xs_iret (M := mX10_law) (pc := 67) dX10_law_67 rfl (p1 c1)
  · refine wp_aload_n (M := mX10_law) (pc := 36) dX10_law_36 rfl rfl ?_
    refine xs_getr (M := mX10_law) (pc := 37) (r := 32) dX10_law_37 fX10_58 sh0 rfl (gr0_6 sw) ?_
    refine xs_getr (M := mX10_law) (pc := 40) (r := lwB sw) dX10_law_40 fX10_124 sh32 rfl (gr32_2 sw) ?_
    refine wp_astore_n (M := mX10_law) (pc := 43) (ls' := [.ref 0, .int x1, .int s0, .ref (lwB sw)]) dX10_law_43 rfl (Nat.le_of_ble_eq_true rfl) rfl ?_
    refine wp_aload_n (M := mX10_law) (pc := 44) dX10_law_44 rfl rfl ?_
    refine xs_getr (M := mX10_law) (pc := 45) (r := 32) dX10_law_45 fX10_58 sh0 rfl (gr0_6 sw) ?_
    refine wp_aload_n (M := mX10_law) (pc := 48) dX10_law_48 rfl rfl ?_
    refine xs_getr (M := mX10_law) (pc := 49) (r := 24) dX10_law_49 fX10_49 sh0 rfl (gr0_5 sw) ?_
    refine xs_getr (M := mX10_law) (pc := 52) (r := lwR sw) dX10_law_52 fX10_128 sh24 rfl (gr24_1 sw) ?_
    refine wp_putr (M := mX10_law) (pc := 55) dX10_law_55 (Or.inl pX10_124) sh32 rfl ?_
    refine wp_aload_n (M := mX10_law) (pc := 58) dX10_law_58 rfl rfl ?_
    refine wp_getr (M := mX10_law) (pc := 59) (r := 24) dX10_law_59 fX10_49 sh0 rfl rfl ?_
    refine wp_aload_n (M := mX10_law) (pc := 62) dX10_law_62 rfl rfl ?_
    refine wp_putr (M := mX10_law) (pc := 63) dX10_law_63 (Or.inl pX10_128) sh24 rfl ?_
    refine wp_iload_n (M := mX10_law) (pc := 66) dX10_law_66 rfl rfl ?_
    show WP G mX10_law _ _ _ _ _ _ ((SH, upr2 (upr2 (GR sw) 32 2 (some (lwR sw))) 24 1 (some (lwB sw)), f) : HP) _
    rw [GR_swap]
    exact xs_iret (M := mX10_law) (pc := 67) dX10_law_67 rfl (p2 c1)
