/-! ===== LawReader.readFactor: its lines ===== -/
theorem fx_neg {c : Int32} (h : fx c < 0) : fx c = -1 := by
  unfold fx at h ⊢
  repeat' (split at h; exact absurd h (by decide))
  simp only [*, if_false]
theorem rf_85 {G : GC} {d : Nat} {sw : Bool} {f : FF} {Q : QQ} {x1 c : Int32}
    (p3 : ¬ fx c = -1 → XP G mX1_put (d + 9) 0 [.ref (lwR sw), .int 97, .int (fx c)] [] sw (upd2 f 1 3 (f 1 3 + 1)) (fun v sw' f' => (∃ i, v = some (.int i)) ∧ Q (some (.int 1)) sw' f'))
    (p4 : fx c = -1 → XP G mX8_readNumber (d + 9) 0 [.ref 1, .null] [] sw f (fun v sw' f' => (v = some (.int 0) ∧ Q (some (.int 0)) sw' f') ∨ (v = some (.int 1) ∧ XP G mX1_put (d + 9) 0 [.ref (lwR sw'), .int 48, .int (f' 1 4)] [] sw' f' (fun v2 sw2 f2 => (∃ i, v2 = some (.int i)) ∧ Q (some (.int 1)) sw2 f2)))) :
    XP G mX2_readFactor (d + 10) 85 [.ref 24, .int x1, .int c, .null] [.int (fx c)] sw f Q := by
  refine wp_istore_n (M := mX2_readFactor) (pc := 85) (ls' := [.ref 24, .int x1, .int c, .int (fx c)]) dX2_readFactor_85 rfl (by decide) rfl ?_
  refine wp_iload_n (M := mX2_readFactor) (pc := 86) dX2_readFactor_86 rfl rfl ?_
  refine wp_if_lt (M := mX2_readFactor) (pc := 87) (t := 116) dX2_readFactor_87 (by decide) (fun c1 => ?_) (fun c1 => ?_)
  · refine wp_aload_n (M := mX2_readFactor) (pc := 116) dX2_readFactor_116 rfl rfl ?_
    refine xs_getr (M := mX2_readFactor) (pc := 117) (r := 1) dX2_readFactor_117 fX2_18 sh24 rfl (gr24_0 sw) ?_
    refine xs_callV (d := d + 9) (M := mX2_readFactor) (pc := 120) (As := []) (st := []) (c := 8) (ls' := [.ref 1, .null]) dX2_readFactor_120 oX8_readNumber nX8_readNumber lX2_107 vX8_readNumber sX8_readNumber rfl sh1 (Nat.le_of_ble_eq_true rfl) rfl (Nat.le_of_ble_eq_true rfl) rfl ?_
    refine XP.mono (fun v s g hq => ?_) (p4 (fx_neg c1))
    rcases hq with ⟨rfl, hq⟩ | ⟨rfl, hq⟩
    · refine wp_if_ne (M := mX2_readFactor) (pc := 123) (t := 128) dX2_readFactor_123 (by decide) (fun c2 => absurd rfl c2) (fun _ => ?_)
      refine wp_iconst (M := mX2_readFactor) (pc := 126) dX2_readFactor_126 k_iconst_0 ?_
      exact xs_zret (M := mX2_readFactor) (pc := 127) dX2_readFactor_127 rfl (Or.inl rfl) hq
    · refine wp_if_ne (M := mX2_readFactor) (pc := 123) (t := 128) dX2_readFactor_123 (by decide) (fun _ => ?_) (fun c2 => absurd c2 (by decide))
      refine wp_aload_n (M := mX2_readFactor) (pc := 128) dX2_readFactor_128 rfl rfl ?_
      refine xs_getr (M := mX2_readFactor) (pc := 129) (r := lwR s) dX2_readFactor_129 fX2_12 sh24 rfl (gr24_1 s) ?_
      refine wp_bipush (M := mX2_readFactor) (pc := 132) dX2_readFactor_132 k_bipush_48 ?_
      refine wp_aload_n (M := mX2_readFactor) (pc := 134) dX2_readFactor_134 rfl rfl ?_
      refine xs_getr (M := mX2_readFactor) (pc := 135) (r := 1) dX2_readFactor_135 fX2_18 sh24 rfl (gr24_0 s) ?_
      refine xs_geti (M := mX2_readFactor) (pc := 138) dX2_readFactor_138 fX2_111 sh1 rfl ?_
      refine xs_callV (d := d + 9) (M := mX2_readFactor) (pc := 141) (As := [.int 48, .int (g 1 4)]) (st := []) (c := 1) (ls' := [.ref (lwR s), .int 48, .int (g 1 4)]) dX2_readFactor_141 oX1_put nX1_put lX2_80 vX1_put sX1_put rfl (shL (isLw_R s)) (Nat.le_of_ble_eq_true rfl) rfl (Nat.le_of_ble_eq_true rfl) rfl ?_
      refine XP.mono (fun v s2 g2 hq2 => ?_) hq
      obtain ⟨⟨i, rfl⟩, hq2⟩ := hq2
      refine wp_pop (M := mX2_readFactor) (pc := 144) dX2_readFactor_144 ?_
      refine wp_iconst (M := mX2_readFactor) (pc := 145) dX2_readFactor_145 k_iconst_1 ?_
      exact xs_zret (M := mX2_readFactor) (pc := 146) dX2_readFactor_146 rfl (Or.inr rfl) hq2
  · refine wp_aload_n (M := mX2_readFactor) (pc := 90) dX2_readFactor_90 rfl rfl ?_
    refine xs_getr (M := mX2_readFactor) (pc := 91) (r := 1) dX2_readFactor_91 fX2_18 sh24 rfl (gr24_0 sw) ?_
    refine wp_dup (M := mX2_readFactor) (pc := 94) dX2_readFactor_94 ?_
    refine xs_geti (M := mX2_readFactor) (pc := 95) dX2_readFactor_95 fX2_48 sh1 rfl ?_
    refine wp_iconst (M := mX2_readFactor) (pc := 98) dX2_readFactor_98 k_iconst_1 ?_
    refine wp_iadd (M := mX2_readFactor) (pc := 99) dX2_readFactor_99 ?_
    refine xs_puti (M := mX2_readFactor) (pc := 100) dX2_readFactor_100 pX2_48 sh1 rfl ?_
    refine wp_aload_n (M := mX2_readFactor) (pc := 103) dX2_readFactor_103 rfl rfl ?_
    refine xs_getr (M := mX2_readFactor) (pc := 104) (r := lwR sw) dX2_readFactor_104 fX2_12 sh24 rfl (gr24_1 sw) ?_
    refine wp_bipush (M := mX2_readFactor) (pc := 107) dX2_readFactor_107 k_bipush_97 ?_
    refine wp_iload_n (M := mX2_readFactor) (pc := 109) dX2_readFactor_109 rfl rfl ?_
    refine xs_callV (d := d + 9) (M := mX2_readFactor) (pc := 110) (As := [.int 97, .int (fx c)]) (st := []) (c := 1) (ls' := [.ref (lwR sw), .int 97, .int (fx c)]) dX2_readFactor_110 oX1_put nX1_put lX2_80 vX1_put sX1_put rfl (shL (isLw_R sw)) (Nat.le_of_ble_eq_true rfl) rfl (Nat.le_of_ble_eq_true rfl) rfl ?_
    refine XP.mono (fun v s g hq => ?_) (p3 (fun e => c1 (by rw [e]; decide)))
    obtain ⟨⟨i, rfl⟩, hq⟩ := hq
    refine wp_pop (M := mX2_readFactor) (pc := 113) dX2_readFactor_113 ?_
    refine wp_iconst (M := mX2_readFactor) (pc := 114) dX2_readFactor_114 k_iconst_1 ?_
    exact xs_zret (M := mX2_readFactor) (pc := 115) dX2_readFactor_115 rfl (Or.inr rfl) hq
theorem rfb (G : GC) : RFB G := by
  intro d sw f Q x1 c hc hcr p1 p2 p3 p4
  refine wp_aload_n (M := mX2_readFactor) (pc := 0) dX2_readFactor_0 rfl rfl ?_
  refine xs_getr (M := mX2_readFactor) (pc := 1) (r := 1) dX2_readFactor_1 fX2_18 sh24 rfl (gr24_0 sw) ?_
  refine xs_callV (d := d + 9) (M := mX2_readFactor) (pc := 4) (As := []) (st := []) (c := 8) (ls' := [.ref 1]) dX2_readFactor_4 oX8_sign nX8_sign lX2_38 vX8_sign sX8_sign rfl sh1 (Nat.le_of_ble_eq_true rfl) rfl (Nat.le_of_ble_eq_true rfl) rfl ?_
  refine sp_X8_sign ?_
  rw [← hc]
  refine wp_istore_n (M := mX2_readFactor) (pc := 7) (ls' := [.ref 24, .int x1, .int c, .null]) dX2_readFactor_7 rfl (by decide) rfl ?_
  refine wp_iload_n (M := mX2_readFactor) (pc := 8) dX2_readFactor_8 rfl rfl ?_
  refine wp_bipush (M := mX2_readFactor) (pc := 9) dX2_readFactor_9 k_bipush_91 ?_
  refine wp_icmp_ne (M := mX2_readFactor) (pc := 11) (t := 70) dX2_readFactor_11 (by decide) (fun c1 => ?_) (fun c1 => ?_)
  · refine wp_iload_n (M := mX2_readFactor) (pc := 70) dX2_readFactor_70 rfl rfl ?_
    refine wp_if_lt (M := mX2_readFactor) (pc := 71) (t := 84) dX2_readFactor_71 (by decide) (fun c2 => ?_) (fun c2 => ?_)
    · have e : c = -1 := by
        rcases hcr with h | ⟨i, hi, h⟩
        · exact h
        · rw [h] at c2; exact absurd c2 (ix_i2c i (by omega)).2.1
      refine wp_iconst (M := mX2_readFactor) (pc := 84) (v := fx c) dX2_readFactor_84 (by rw [e]; decide) ?_
      exact rf_85 (p3 c1) (p4 c1)
    · have e : ∃ i : Nat, i < 256 ∧ c = nI i := by
        rcases hcr with h | ⟨i, hi, h⟩
        · rw [h] at c2; exact absurd (by decide) c2
        · exact ⟨i, by omega, h⟩
      obtain ⟨i, hi, e⟩ := e
      obtain ⟨i1, i2, i3, i4⟩ := ix_i2c i hi
      rw [← e] at i1 i2 i3 i4
      refine wp_ldcT (M := mX2_readFactor) (pc := 74) dX2_readFactor_74 rfl ?_
      refine wp_iload_n (M := mX2_readFactor) (pc := 76) dX2_readFactor_76 rfl rfl ?_
      refine wp_i2c (M := mX2_readFactor) (pc := 77) dX2_readFactor_77 ?_
      rw [i1]
      refine xs_callVT (d := d + 9) (M := mX2_readFactor) (pc := 78) (As := [.int c]) (st := []) (ls' := [.retAddr 1, .int c]) dX2_readFactor_78 oJ0_indexOf_0f7a4 rfl nJ0_indexOf_0f7a4 lX2_101 vJ0_indexOf_0f7a4 sJ0_indexOf_0f7a4 (Nat.le_of_ble_eq_true rfl) rfl (Nat.le_of_ble_eq_true rfl) rfl ?_
      refine sp_indexOf1 (d := d + 6) i2 i3 ?_
      rw [i4]
      refine wp_goto (M := mX2_readFactor) (pc := 81) (t := 85) dX2_readFactor_81 (by decide) ?_
      exact rf_85 (p3 c1) (p4 c1)
  · refine wp_iload_n (M := mX2_readFactor) (pc := 14) dX2_readFactor_14 rfl rfl ?_
    refine wp_bipush (M := mX2_readFactor) (pc := 15) dX2_readFactor_15 k_bipush_6 ?_
    refine wp_icmp_lt (M := mX2_readFactor) (pc := 17) (t := 29) dX2_readFactor_17 (by decide) (fun c2 => ?_) (fun c2 => ?_)
    · refine wp_aload_n (M := mX2_readFactor) (pc := 29) dX2_readFactor_29 rfl rfl ?_
      refine xs_getr (M := mX2_readFactor) (pc := 30) (r := 1) dX2_readFactor_30 fX2_18 sh24 rfl (gr24_0 sw) ?_
      refine wp_dup (M := mX2_readFactor) (pc := 33) dX2_readFactor_33 ?_
      refine xs_geti (M := mX2_readFactor) (pc := 34) dX2_readFactor_34 fX2_48 sh1 rfl ?_
      refine wp_iconst (M := mX2_readFactor) (pc := 37) dX2_readFactor_37 k_iconst_1 ?_
      refine wp_iadd (M := mX2_readFactor) (pc := 38) dX2_readFactor_38 ?_
      refine xs_puti (M := mX2_readFactor) (pc := 39) dX2_readFactor_39 pX2_48 sh1 rfl ?_
      refine wp_aload_n (M := mX2_readFactor) (pc := 42) dX2_readFactor_42 rfl rfl ?_
      refine wp_iload_n (M := mX2_readFactor) (pc := 43) dX2_readFactor_43 rfl rfl ?_
      refine wp_iconst (M := mX2_readFactor) (pc := 44) dX2_readFactor_44 k_iconst_1 ?_
      refine wp_iadd (M := mX2_readFactor) (pc := 45) dX2_readFactor_45 ?_
      refine xs_callV (d := d + 9) (M := mX2_readFactor) (pc := 46) (As := [.int (x1 + 1)]) (st := []) (c := 2) (ls' := [.ref 24, .int (x1 + 1), .null, .null]) dX2_readFactor_46 oX2_readSum nX2_readSum lX2_58 vX2_readSum sX2_readSum rfl sh24 (Nat.le_of_ble_eq_true rfl) rfl (Nat.le_of_ble_eq_true rfl) rfl ?_
      refine XP.mono (fun v s g hq => ?_) (p1 c1 c2)
      rcases hq with ⟨rfl, hq⟩ | ⟨rfl, hq⟩
      · refine wp_if_eq (M := mX2_readFactor) (pc := 49) (t := 68) dX2_readFactor_49 (by decide) (fun _ => ?_) (fun c3 => absurd rfl c3)
        refine wp_iconst (M := mX2_readFactor) (pc := 68) dX2_readFactor_68 k_iconst_0 ?_
        exact xs_zret (M := mX2_readFactor) (pc := 69) dX2_readFactor_69 rfl (Or.inl rfl) hq
      · refine wp_if_eq (M := mX2_readFactor) (pc := 49) (t := 68) dX2_readFactor_49 (by decide) (fun c3 => absurd c3 (by decide)) (fun _ => ?_)
        refine wp_aload_n (M := mX2_readFactor) (pc := 52) dX2_readFactor_52 rfl rfl ?_
        refine xs_getr (M := mX2_readFactor) (pc := 53) (r := 1) dX2_readFactor_53 fX2_18 sh24 rfl (gr24_0 s) ?_
        refine wp_bipush (M := mX2_readFactor) (pc := 56) dX2_readFactor_56 k_bipush_93 ?_
        refine xs_callV (d := d + 9) (M := mX2_readFactor) (pc := 58) (As := [.int 93]) (st := []) (c := 8) (ls' := [.ref 1, .int 93]) dX2_readFactor_58 oX8_passes nX8_passes lX2_42 vX8_passes sX8_passes rfl sh1 (Nat.le_of_ble_eq_true rfl) rfl (Nat.le_of_ble_eq_true rfl) rfl ?_
        refine XP.mono (fun v2 s2 g2 hq2 => ?_) hq
        obtain ⟨hv, hq2⟩ := hq2
        rcases hv with rfl | rfl
        · refine wp_if_eq (M := mX2_readFactor) (pc := 61) (t := 68) dX2_readFactor_61 (by decide) (fun _ => ?_) (fun c3 => absurd rfl c3)
          refine wp_iconst (M := mX2_readFactor) (pc := 68) dX2_readFactor_68 k_iconst_0 ?_
          exact xs_zret (M := mX2_readFactor) (pc := 69) dX2_readFactor_69 rfl (Or.inl rfl) hq2
        · refine wp_if_eq (M := mX2_readFactor) (pc := 61) (t := 68) dX2_readFactor_61 (by decide) (fun c3 => absurd c3 (by decide)) (fun _ => ?_)
          refine wp_iconst (M := mX2_readFactor) (pc := 64) dX2_readFactor_64 k_iconst_1 ?_
          refine wp_goto (M := mX2_readFactor) (pc := 65) (t := 69) dX2_readFactor_65 (by decide) ?_
          exact xs_zret (M := mX2_readFactor) (pc := 69) dX2_readFactor_69 rfl (Or.inr rfl) hq2
    · refine wp_aload_n (M := mX2_readFactor) (pc := 20) dX2_readFactor_20 rfl rfl ?_
      refine xs_getr (M := mX2_readFactor) (pc := 21) (r := 1) dX2_readFactor_21 fX2_18 sh24 rfl (gr24_0 sw) ?_
      refine wp_iconst (M := mX2_readFactor) (pc := 24) dX2_readFactor_24 k_iconst_5 ?_
      refine xs_callV (d := d + 9) (M := mX2_readFactor) (pc := 25) (As := [.int 5]) (st := []) (c := 8) (ls' := [.ref 1, .int 5]) dX2_readFactor_25 oX8_fails nX8_fails lX2_45 vX8_fails sX8_fails rfl sh1 (Nat.le_of_ble_eq_true rfl) rfl (Nat.le_of_ble_eq_true rfl) rfl ?_
      refine XP.mono (fun v s g hq => ?_) (p2 c1 c2)
      obtain ⟨hv, hq⟩ := hq
      rcases hv with rfl | rfl
      · exact xs_zret (M := mX2_readFactor) (pc := 28) dX2_readFactor_28 rfl (Or.inl rfl) hq
      · exact xs_zret (M := mX2_readFactor) (pc := 28) dX2_readFactor_28 rfl (Or.inr rfl) hq
theorem op_law (G : GC) : OP5 G RR := op_lawF (rfb G)
