/-! ===== String.indexOf: calls on the text, and the bodies ===== -/
section WPT2
variable {G : GC} {M M' : MR} {d k n k' n' pc : Nat} {ls ls' st As : List Value} {h : HP} {Q : Option Value → HP → Prop}
/-- a call on the text, by the callee's contract -/
theorem wp_callVM {idx : Nat} (hd : decode (mC M) pc = .ok (.invokevirtual idx, 3)) (hM : MOk M') (hcl : (mY M').cls = "java/lang/String") (hna : nPar M' As.length) (hl : Cond.methodLink (mY M).cls idx (mY M') ∈ Tg) (hin : Cond.instanceMethod (mY M') ∈ Tg) (hse : Cond.selects (mY M').cls (mY M') (mY M') ∈ Tg) (hr : st.length ≤ 8)
    (hmt : Met G.1 (mY M') (Cond.code (mY M') (mC M') (mL M') (mR M') :: Tg) (wp_rm d k n) (wp_Pc G (.retAddr 1 :: As) h) (wp_Qc G (fun v h' => WP G M (d + 1) k' n' (pc + 3) ls (v.toList ++ st) h' Q)) k n (gA G)) : WP G M (d + 1) (k + k') (n + n') pc ls (As.reverse ++ .retAddr 1 :: st) h Q := by
  intro p e R s m args below meth cc H locs cells slots rls Z B q1 q2 q3 q4 hH hS hL hZ
  have hO := B.2.2.2.2.2.2.2.2.2.2
  have hrc := vk_recv hO.2.2.2.1 (i := 0) (by omega) hS
  rw [← hcl] at hrc
  refine wp_run (rest := st) (va_runV (As := As.map (rv G)) (rest := st.map (rv G)) (b := go G 1) (C := (mY M').cls) (nL := mL M) ⟨B.1, B.2.1, B.2.2.2.1, B.2.2.2.2.1, B.2.2.2.2.2.2.2.1⟩ hmt ⟨wp_callB B.2.2.2.2.2.2.2.1 hM hna hl q1 q2, B.2.2.2.2.2.2.2.1 _ hin, B.2.2.2.2.2.2.2.1 _ hse⟩ ⟨wp_blind, hrc, fun U hU hW => wp_pre (As := .retAddr 1 :: As) B hH hS hU hW⟩ rfl (by simp) hL.1 (by simp [rv]) (lv_room (by rw [rv_cats]; exact hr)) hd ⟨by omega, by omega⟩) hS ?_
  intro v h' H1 locs1 hq hH1 hS1
  refine hq p e R s m args below meth cc H1 locs1 (cells + k) (slots + n) rls Z B q1 q2 (by omega) (by omega) hH1 hS1 hL ?_
  rw [show cells + k + k' = cells + (k + k') by omega, show slots + n + n' = slots + (n + n') by omega]
  exact hZ
/-- coder(): 0 -/
theorem met_coder (hq : Q (some (.int 0)) h) : Met G.1 (mY mJ0_coder_7d493) (Cond.code (mY mJ0_coder_7d493) (mC mJ0_coder_7d493) (mL mJ0_coder_7d493) (mR mJ0_coder_7d493) :: Tg) (wp_rm d 0 0) (wp_Pc G [.retAddr 1] h) (wp_Qc G Q) 0 0 (gA G) := by
  refine Met.ofW (cc := mC mJ0_coder_7d493) (maxL := mL mJ0_coder_7d493) (ret := mR mJ0_coder_7d493) oJ0_coder_7d493.1 rfl ?_
  intro p e s m args below meth c s₁ B hml hv
  obtain ⟨rfl, hH, hK, hb, hO⟩ := hv
  have hts := atoms_spec (ws := Cond.code (mY mJ0_coder_7d493) (mC mJ0_coder_7d493) (mL mJ0_coder_7d493) (mR mJ0_coder_7d493) :: Tg) B.pre
  have hown : s.vm.findClass RJ0 = some m.cls := findClass_of_methodNamed B.named
  have hn : [Value.retAddr 1].length ≤ mL mJ0_coder_7d493 := Nat.le_of_ble_eq_true rfl
  have hl := lv_entry ([Value.retAddr 1].map (rv G)) (n := mL mJ0_coder_7d493) (by rw [lg_sl_rv]; simpa using hn)
  rw [lg_entry_eq]
  generalize (lg_sl ([Value.retAddr 1].map (rv G)) ++ List.replicate (mL mJ0_coder_7d493 - (lg_sl ([Value.retAddr 1].map (rv G))).length) Slot.unset).toArray = rls at hl ⊢
  have hl0 : rls[0]? = some (.val (.ref (go G 1))) := hl.2.2 _ (lv_args_rv (G := G) [.retAddr 1] 0 0 (.retAddr 1) rfl)
  have hS0 : va_S (gA G) s.heap s.heap [] := va_S.rf
  refine va_gets B.exec B.bytes hO.2.2.2.2.1 hS0 hown (hts _ (List.mem_cons_of_mem _ gJ0_38)) (fun x h => h) (pc := 0) dJ0_coder_7d493_0 ?_
  refine lv_if_eq B.exec B.bytes (pc := 3) (tgt := 13) dJ0_coder_7d493_3 (by decide) (fun q => absurd q (by decide)) (fun _ => ?_)
  refine lv_aload_n B.exec B.bytes (pc := 6) (i := 0) dJ0_coder_7d493_6 rfl hl0 ?_
  refine vk_getf B.exec B.bytes (pc := 7) (hO.2.2.2.1.1 0 (by omega)).2.1 hS0 hown (hts _ (List.mem_cons_of_mem _ gJ0_15)) (fun x h => h) dJ0_coder_7d493_7 ?_
  refine lv_goto B.exec B.bytes (pc := 10) (tgt := 14) dJ0_coder_7d493_10 (by decide) ?_
  exact W.zret (v := 0) (ty := .byte) B.exec B.bytes (B.returns.trans rfl) rfl (fun t ht hW => ⟨some (.int 0), h, rfl, hq, by rw [ht]; exact hH, hS0.F ht⟩) hS0.2.2 dJ0_coder_7d493_14
end WPT2
section XPT
variable {G : GC} {M M' : MR} {d pc : Nat} {ls ls' st st0 As : List Value} {sw : Bool} {f : FF} {Q : QQ}
theorem xs_callVT {idx : Nat} (hd : decode (mC M) pc = .ok (.invokevirtual idx, 3)) (hM : MOk M') (hcl : (mY M').cls = "java/lang/String") (hna : nPar M' As.length) (hl : Cond.methodLink (mY M).cls idx (mY M') ∈ Tg) (hin : Cond.instanceMethod (mY M') ∈ Tg) (hse : Cond.selects (mY M').cls (mY M') (mY M') ∈ Tg) (hn : As.length + 1 ≤ mL M') (hls : ls' = (.retAddr 1 :: As) ++ List.replicate (mL M' - (As.length + 1)) .null) (hr : st.length ≤ 8) (he : As.reverse ++ .retAddr 1 :: st = st0)
    (kk : XP G M' d 0 ls' [] sw f (fun v sw' f' => XP G M (d + 1) (pc + 3) ls (retst v st) sw' f' Q)) : XP G M (d + 1) pc ls st0 sw f Q := by
  subst he
  refine wp_callVM (k := 0) (k' := 0) (n := 0) (n' := 0) hd hM hcl hna hl hin hse hr (wp_met (As := .retAddr 1 :: As) hM.1 hn hls (WP.mono (fun v h' ⟨s, g, e, q⟩ => ?_) kk))
  subst e
  rw [retst_eq]
  exact q
theorem sp_isLatin1 (hq : Q (some (.int 1)) sw f) : XP G mJ0_isLatin1_aae02 d 0 [.retAddr 1] [] sw f Q := by
  refine wp_getsC (M := mJ0_isLatin1_aae02) (pc := 0) dJ0_isLatin1_aae02_0 rfl ?_
  refine wp_if_eq (M := mJ0_isLatin1_aae02) (pc := 3) (t := 17) dJ0_isLatin1_aae02_3 (by decide) (fun c1 => absurd c1 (by decide)) (fun _ => ?_)
  refine wp_aload_s (M := mJ0_isLatin1_aae02) (pc := 6) dJ0_isLatin1_aae02_6 rfl rfl ?_
  refine wp_getC (M := mJ0_isLatin1_aae02) (pc := 7) dJ0_isLatin1_aae02_7 rfl ?_
  refine wp_if_ne (M := mJ0_isLatin1_aae02) (pc := 10) (t := 17) dJ0_isLatin1_aae02_10 (by decide) (fun c1 => absurd rfl c1) (fun _ => ?_)
  refine wp_iconst (M := mJ0_isLatin1_aae02) (pc := 13) dJ0_isLatin1_aae02_13 k_iconst_1 ?_
  refine wp_goto (M := mJ0_isLatin1_aae02) (pc := 14) (t := 18) dJ0_isLatin1_aae02_14 (by decide) ?_
  exact xs_zret (M := mJ0_isLatin1_aae02) (pc := 18) dJ0_isLatin1_aae02_18 rfl (Or.inr rfl) hq
theorem sp_length (hq : Q (some (.int 10)) sw f) : XP G mJ0_length_8abf5 (d + 1) 0 [.retAddr 1] [] sw f Q := by
  refine wp_aload_s (M := mJ0_length_8abf5) (pc := 0) dJ0_length_8abf5_0 rfl rfl ?_
  refine wp_getT (M := mJ0_length_8abf5) (pc := 1) dJ0_length_8abf5_1 rfl ?_
  refine wp_lenT (M := mJ0_length_8abf5) (pc := 4) dJ0_length_8abf5_4 ?_
  refine wp_aload_s (M := mJ0_length_8abf5) (pc := 5) dJ0_length_8abf5_5 rfl rfl ?_
  refine wp_callVM (d := d) (k := 0) (k' := 0) (n := 0) (n' := 0) (M := mJ0_length_8abf5) (M' := mJ0_coder_7d493) (pc := 6) (As := []) (st := [.int 10]) dJ0_length_8abf5_6 oJ0_coder_7d493 rfl nJ0_coder_7d493 lJ0_335 vJ0_coder_7d493 sJ0_coder_7d493 (Nat.le_of_ble_eq_true rfl) (met_coder ?_)
  refine wp_ishr (M := mJ0_length_8abf5) (pc := 9) dJ0_length_8abf5_9 ?_
  rw [show (10 : Int32) >>> ((0 : Int32) &&& 31) = 10 from by decide]
  exact xs_iret (M := mJ0_length_8abf5) (pc := 10) dJ0_length_8abf5_10 rfl hq
theorem sp_canEncode {x : Int32} (h1 : ¬ x < 0) (h2 : ¬ 255 < x) (hq : Q (some (.int 1)) sw f) : XP G mJ1_canEncode_9a6ad d 0 [.int x] [] sw f Q := by
  refine wp_iload_n (M := mJ1_canEncode_9a6ad) (pc := 0) dJ1_canEncode_9a6ad_0 rfl rfl ?_
  refine wp_if_lt (M := mJ1_canEncode_9a6ad) (pc := 1) (t := 15) dJ1_canEncode_9a6ad_1 (by decide) (fun c1 => absurd c1 h1) (fun _ => ?_)
  refine wp_iload_n (M := mJ1_canEncode_9a6ad) (pc := 4) dJ1_canEncode_9a6ad_4 rfl rfl ?_
  refine wp_sipush (M := mJ1_canEncode_9a6ad) (pc := 5) dJ1_canEncode_9a6ad_5 k_sipush_255 ?_
  refine wp_icmp_gt (M := mJ1_canEncode_9a6ad) (pc := 8) (t := 15) dJ1_canEncode_9a6ad_8 (by decide) (fun c1 => absurd c1 h2) (fun _ => ?_)
  refine wp_iconst (M := mJ1_canEncode_9a6ad) (pc := 11) dJ1_canEncode_9a6ad_11 k_iconst_1 ?_
  refine wp_goto (M := mJ1_canEncode_9a6ad) (pc := 12) (t := 16) dJ1_canEncode_9a6ad_12 (by decide) ?_
  exact xs_zret (M := mJ1_canEncode_9a6ad) (pc := 16) dJ1_canEncode_9a6ad_16 rfl (Or.inr rfl) hq
theorem ixc_step {c b i j x : Int32} (hi : ¬ (10 : Int32) ≤ i) (hv : vp_in i 10) (hx : ([115, 101, 97, 111, 102, 116, 104, 107, 100, 110] : List Int32).getD i.toNatClampNeg 0 = x) (hj : i + Int32.ofInt 1 = j) (p1 : x = b → Q (some (.int i)) sw f) (p2 : ¬ x = b → XP G mJ1_indexOfChar_4cfef d 7 [.retAddr 2, .int c, .int 0, .int 10, .int b, .int j] [] sw f Q) : XP G mJ1_indexOfChar_4cfef d 7 [.retAddr 2, .int c, .int 0, .int 10, .int b, .int i] [] sw f Q := by
  refine wp_iload (M := mJ1_indexOfChar_4cfef) (pc := 7) dJ1_indexOfChar_4cfef_7 rfl ?_
  refine wp_iload_n (M := mJ1_indexOfChar_4cfef) (pc := 9) dJ1_indexOfChar_4cfef_9 rfl rfl ?_
  refine wp_icmp_ge (M := mJ1_indexOfChar_4cfef) (pc := 10) (t := 31) dJ1_indexOfChar_4cfef_10 (by decide) (fun c1 => absurd c1 hi) (fun _ => ?_)
  refine wp_aload_s (M := mJ1_indexOfChar_4cfef) (pc := 13) dJ1_indexOfChar_4cfef_13 rfl rfl ?_
  refine wp_iload (M := mJ1_indexOfChar_4cfef) (pc := 14) dJ1_indexOfChar_4cfef_14 rfl ?_
  refine wp_balT (M := mJ1_indexOfChar_4cfef) (pc := 16) dJ1_indexOfChar_4cfef_16 hv hx ?_
  refine wp_iload (M := mJ1_indexOfChar_4cfef) (pc := 17) dJ1_indexOfChar_4cfef_17 rfl ?_
  refine wp_icmp_ne (M := mJ1_indexOfChar_4cfef) (pc := 19) (t := 25) dJ1_indexOfChar_4cfef_19 (by decide) (fun c1 => ?_) (fun c1 => ?_)
  · refine wp_iinc (M := mJ1_indexOfChar_4cfef) (pc := 25) (v := j) (ls' := [.retAddr 2, .int c, .int 0, .int 10, .int b, .int j]) dJ1_indexOfChar_4cfef_25 rfl hj (by decide) rfl ?_
    refine wp_goto (M := mJ1_indexOfChar_4cfef) (pc := 28) (t := 7) dJ1_indexOfChar_4cfef_28 (by decide) ?_
    exact p2 c1
  · refine wp_iload (M := mJ1_indexOfChar_4cfef) (pc := 22) dJ1_indexOfChar_4cfef_22 rfl ?_
    exact xs_iret (M := mJ1_indexOfChar_4cfef) (pc := 24) dJ1_indexOfChar_4cfef_24 rfl (p1 c1)
theorem ixc_end {c b : Int32} (hq : Q (some (.int (-1))) sw f) : XP G mJ1_indexOfChar_4cfef d 7 [.retAddr 2, .int c, .int 0, .int 10, .int b, .int 10] [] sw f Q := by
  refine wp_iload (M := mJ1_indexOfChar_4cfef) (pc := 7) dJ1_indexOfChar_4cfef_7 rfl ?_
  refine wp_iload_n (M := mJ1_indexOfChar_4cfef) (pc := 9) dJ1_indexOfChar_4cfef_9 rfl rfl ?_
  refine wp_icmp_ge (M := mJ1_indexOfChar_4cfef) (pc := 10) (t := 31) dJ1_indexOfChar_4cfef_10 (by decide) (fun _ => ?_) (fun c1 => absurd (by decide) c1)
  refine wp_iconst (M := mJ1_indexOfChar_4cfef) (pc := 31) dJ1_indexOfChar_4cfef_31 k_iconst_m1 ?_
  exact xs_iret (M := mJ1_indexOfChar_4cfef) (pc := 32) dJ1_indexOfChar_4cfef_32 rfl hq
theorem sp_indexOfChar {c : Int32} (hq : Q (some (.int (fx c.toInt8.toInt32))) sw f) : XP G mJ1_indexOfChar_4cfef d 0 [.retAddr 2, .int c, .int 0, .int 10, .null, .null] [] sw f Q := by
  refine wp_iload_n (M := mJ1_indexOfChar_4cfef) (pc := 0) dJ1_indexOfChar_4cfef_0 rfl rfl ?_
  refine wp_i2b (M := mJ1_indexOfChar_4cfef) (pc := 1) dJ1_indexOfChar_4cfef_1 ?_
  generalize c.toInt8.toInt32 = b at hq ⊢
  refine wp_istore (M := mJ1_indexOfChar_4cfef) (pc := 2) (ls' := [.retAddr 2, .int c, .int 0, .int 10, .int b, .null]) dJ1_indexOfChar_4cfef_2 (by decide) rfl ?_
  refine wp_iload_n (M := mJ1_indexOfChar_4cfef) (pc := 4) dJ1_indexOfChar_4cfef_4 rfl rfl ?_
  refine wp_istore (M := mJ1_indexOfChar_4cfef) (pc := 5) (ls' := [.retAddr 2, .int c, .int 0, .int 10, .int b, .int 0]) dJ1_indexOfChar_4cfef_5 (by decide) rfl ?_
  refine ixc_step (j := 1) (x := 115) (by decide) (by unfold vp_in; decide) (by decide) (by decide) (fun e => ?_) (fun n0 => ?_)
  · subst e; exact hq
  refine ixc_step (j := 2) (x := 101) (by decide) (by unfold vp_in; decide) (by decide) (by decide) (fun e => ?_) (fun n1 => ?_)
  · subst e; exact hq
  refine ixc_step (j := 3) (x := 97) (by decide) (by unfold vp_in; decide) (by decide) (by decide) (fun e => ?_) (fun n2 => ?_)
  · subst e; exact hq
  refine ixc_step (j := 4) (x := 111) (by decide) (by unfold vp_in; decide) (by decide) (by decide) (fun e => ?_) (fun n3 => ?_)
  · subst e; exact hq
  refine ixc_step (j := 5) (x := 102) (by decide) (by unfold vp_in; decide) (by decide) (by decide) (fun e => ?_) (fun n4 => ?_)
  · subst e; exact hq
  refine ixc_step (j := 6) (x := 116) (by decide) (by unfold vp_in; decide) (by decide) (by decide) (fun e => ?_) (fun n5 => ?_)
  · subst e; exact hq
  refine ixc_step (j := 7) (x := 104) (by decide) (by unfold vp_in; decide) (by decide) (by decide) (fun e => ?_) (fun n6 => ?_)
  · subst e; exact hq
  refine ixc_step (j := 8) (x := 107) (by decide) (by unfold vp_in; decide) (by decide) (by decide) (fun e => ?_) (fun n7 => ?_)
  · subst e; exact hq
  refine ixc_step (j := 9) (x := 100) (by decide) (by unfold vp_in; decide) (by decide) (by decide) (fun e => ?_) (fun n8 => ?_)
  · subst e; exact hq
  refine ixc_step (j := 10) (x := 110) (by decide) (by unfold vp_in; decide) (by decide) (by decide) (fun e => ?_) (fun n9 => ?_)
  · subst e; exact hq
  refine ixc_end ?_
  have e : fx b = -1 := by
    unfold fx
    rw [if_neg (fun e => n0 e.symm), if_neg (fun e => n1 e.symm), if_neg (fun e => n2 e.symm), if_neg (fun e => n3 e.symm), if_neg (fun e => n4 e.symm), if_neg (fun e => n5 e.symm), if_neg (fun e => n6 e.symm), if_neg (fun e => n7 e.symm), if_neg (fun e => n8 e.symm), if_neg (fun e => n9 e.symm)]
  rw [e] at hq
  exact hq
theorem sp_latinIndex {c : Int32} (h1 : ¬ c < 0) (h2 : ¬ 255 < c) (hq : Q (some (.int (fx c.toInt8.toInt32))) sw f) : XP G mJ1_indexOf_4cfef (d + 1) 0 [.retAddr 2, .int c, .int 0, .int 10] [] sw f Q := by
  refine wp_iload_n (M := mJ1_indexOf_4cfef) (pc := 0) dJ1_indexOf_4cfef_0 rfl rfl ?_
  refine xs_callS (d := d) (M := mJ1_indexOf_4cfef) (pc := 1) (As := [.int c]) (st := []) (ls' := [.int c]) dJ1_indexOf_4cfef_1 oJ1_canEncode_9a6ad nJ1_canEncode_9a6ad lJ1_88 tJ1_canEncode_9a6ad (Nat.le_of_ble_eq_true rfl) rfl (Nat.le_of_ble_eq_true rfl) rfl ?_
  refine sp_canEncode h1 h2 ?_
  refine wp_if_ne (M := mJ1_indexOf_4cfef) (pc := 4) (t := 9) dJ1_indexOf_4cfef_4 (by decide) (fun _ => ?_) (fun c1 => absurd c1 (by decide))
  refine wp_iload_n (M := mJ1_indexOf_4cfef) (pc := 9) dJ1_indexOf_4cfef_9 rfl rfl ?_
  refine wp_iconst (M := mJ1_indexOf_4cfef) (pc := 10) dJ1_indexOf_4cfef_10 k_iconst_0 ?_
  refine xs_mmax (M := mJ1_indexOf_4cfef) (pc := 11) dJ1_indexOf_4cfef_11 lJ1_92 (Nat.le_of_ble_eq_true rfl) ?_
  rw [if_neg (show ¬ (0 : Int32) < 0 by decide)]
  refine wp_istore_n (M := mJ1_indexOf_4cfef) (pc := 14) (ls' := [.retAddr 2, .int c, .int 0, .int 10]) dJ1_indexOf_4cfef_14 rfl (by decide) rfl ?_
  refine wp_iload_n (M := mJ1_indexOf_4cfef) (pc := 15) dJ1_indexOf_4cfef_15 rfl rfl ?_
  refine wp_aload_s (M := mJ1_indexOf_4cfef) (pc := 16) dJ1_indexOf_4cfef_16 rfl rfl ?_
  refine wp_lenT (M := mJ1_indexOf_4cfef) (pc := 17) dJ1_indexOf_4cfef_17 ?_
  refine xs_mmin (M := mJ1_indexOf_4cfef) (pc := 18) dJ1_indexOf_4cfef_18 lJ1_38 (Nat.le_of_ble_eq_true rfl) ?_
  rw [if_neg (show ¬ (10 : Int32) < 10 by decide)]
  refine wp_istore_n (M := mJ1_indexOf_4cfef) (pc := 21) (ls' := [.retAddr 2, .int c, .int 0, .int 10]) dJ1_indexOf_4cfef_21 rfl (by decide) rfl ?_
  refine wp_iload_n (M := mJ1_indexOf_4cfef) (pc := 22) dJ1_indexOf_4cfef_22 rfl rfl ?_
  refine wp_iload_n (M := mJ1_indexOf_4cfef) (pc := 23) dJ1_indexOf_4cfef_23 rfl rfl ?_
  refine wp_icmp_lt (M := mJ1_indexOf_4cfef) (pc := 24) (t := 29) dJ1_indexOf_4cfef_24 (by decide) (fun _ => ?_) (fun c1 => absurd (by decide) c1)
  refine wp_aload_s (M := mJ1_indexOf_4cfef) (pc := 29) dJ1_indexOf_4cfef_29 rfl rfl ?_
  refine wp_iload_n (M := mJ1_indexOf_4cfef) (pc := 30) dJ1_indexOf_4cfef_30 rfl rfl ?_
  refine wp_iload_n (M := mJ1_indexOf_4cfef) (pc := 31) dJ1_indexOf_4cfef_31 rfl rfl ?_
  refine wp_iload_n (M := mJ1_indexOf_4cfef) (pc := 32) dJ1_indexOf_4cfef_32 rfl rfl ?_
  refine xs_callS (d := d) (M := mJ1_indexOf_4cfef) (pc := 33) (As := [.retAddr 2, .int c, .int 0, .int 10]) (st := []) (ls' := [.retAddr 2, .int c, .int 0, .int 10, .null, .null]) dJ1_indexOf_4cfef_33 oJ1_indexOfChar_4cfef nJ1_indexOfChar_4cfef lJ1_95 tJ1_indexOfChar_4cfef (Nat.le_of_ble_eq_true rfl) rfl (Nat.le_of_ble_eq_true rfl) rfl ?_
  refine sp_indexOfChar ?_
  exact xs_iret (M := mJ1_indexOf_4cfef) (pc := 36) dJ1_indexOf_4cfef_36 rfl hq
theorem sp_indexOf2 {c : Int32} (h1 : ¬ c < 0) (h2 : ¬ 255 < c) (hq : Q (some (.int (fx c.toInt8.toInt32))) sw f) : XP G mJ0_indexOf_7cf53 (d + 2) 0 [.retAddr 1, .int c, .int 0] [] sw f Q := by
  refine wp_aload_s (M := mJ0_indexOf_7cf53) (pc := 0) dJ0_indexOf_7cf53_0 rfl rfl ?_
  refine xs_callVT (d := d + 1) (M := mJ0_indexOf_7cf53) (pc := 1) (As := []) (st := []) (ls' := [.retAddr 1]) dJ0_indexOf_7cf53_1 oJ0_isLatin1_aae02 rfl nJ0_isLatin1_aae02 lJ0_492 vJ0_isLatin1_aae02 sJ0_isLatin1_aae02 (Nat.le_of_ble_eq_true rfl) rfl (Nat.le_of_ble_eq_true rfl) rfl ?_
  refine sp_isLatin1 ?_
  refine wp_if_eq (M := mJ0_indexOf_7cf53) (pc := 4) (t := 23) dJ0_indexOf_7cf53_4 (by decide) (fun c1 => absurd c1 (by decide)) (fun _ => ?_)
  refine wp_aload_s (M := mJ0_indexOf_7cf53) (pc := 7) dJ0_indexOf_7cf53_7 rfl rfl ?_
  refine wp_getT (M := mJ0_indexOf_7cf53) (pc := 8) dJ0_indexOf_7cf53_8 rfl ?_
  refine wp_iload_n (M := mJ0_indexOf_7cf53) (pc := 11) dJ0_indexOf_7cf53_11 rfl rfl ?_
  refine wp_iload_n (M := mJ0_indexOf_7cf53) (pc := 12) dJ0_indexOf_7cf53_12 rfl rfl ?_
  refine wp_aload_s (M := mJ0_indexOf_7cf53) (pc := 13) dJ0_indexOf_7cf53_13 rfl rfl ?_
  refine xs_callVT (d := d + 1) (M := mJ0_indexOf_7cf53) (pc := 14) (As := []) (st := [.int 0, .int c, .retAddr 2]) (ls' := [.retAddr 1]) dJ0_indexOf_7cf53_14 oJ0_length_8abf5 rfl nJ0_length_8abf5 lJ0_505 vJ0_length_8abf5 sJ0_length_8abf5 (Nat.le_of_ble_eq_true rfl) rfl (Nat.le_of_ble_eq_true rfl) rfl ?_
  refine sp_length ?_
  refine xs_callS (d := d + 1) (M := mJ0_indexOf_7cf53) (pc := 17) (As := [.retAddr 2, .int c, .int 0, .int 10]) (st := []) (ls' := [.retAddr 2, .int c, .int 0, .int 10]) dJ0_indexOf_7cf53_17 oJ1_indexOf_4cfef nJ1_indexOf_4cfef lJ0_637 tJ1_indexOf_4cfef (Nat.le_of_ble_eq_true rfl) rfl (Nat.le_of_ble_eq_true rfl) rfl ?_
  refine sp_latinIndex h1 h2 ?_
  refine wp_goto (M := mJ0_indexOf_7cf53) (pc := 20) (t := 36) dJ0_indexOf_7cf53_20 (by decide) ?_
  exact xs_iret (M := mJ0_indexOf_7cf53) (pc := 36) dJ0_indexOf_7cf53_36 rfl hq
theorem sp_indexOf1 {c : Int32} (h1 : ¬ c < 0) (h2 : ¬ 255 < c) (hq : Q (some (.int (fx c.toInt8.toInt32))) sw f) : XP G mJ0_indexOf_0f7a4 (d + 3) 0 [.retAddr 1, .int c] [] sw f Q := by
  refine wp_aload_s (M := mJ0_indexOf_0f7a4) (pc := 0) dJ0_indexOf_0f7a4_0 rfl rfl ?_
  refine wp_iload_n (M := mJ0_indexOf_0f7a4) (pc := 1) dJ0_indexOf_0f7a4_1 rfl rfl ?_
  refine wp_iconst (M := mJ0_indexOf_0f7a4) (pc := 2) dJ0_indexOf_0f7a4_2 k_iconst_0 ?_
  refine xs_callVT (d := d + 2) (M := mJ0_indexOf_0f7a4) (pc := 3) (As := [.int c, .int 0]) (st := []) (ls' := [.retAddr 1, .int c, .int 0]) dJ0_indexOf_0f7a4_3 oJ0_indexOf_7cf53 rfl nJ0_indexOf_7cf53 lJ0_633 vJ0_indexOf_7cf53 sJ0_indexOf_7cf53 (Nat.le_of_ble_eq_true rfl) rfl (Nat.le_of_ble_eq_true rfl) rfl ?_
  refine sp_indexOf2 h1 h2 ?_
  exact xs_iret (M := mJ0_indexOf_0f7a4) (pc := 6) dJ0_indexOf_0f7a4_6 rfl hq
end XPT
theorem ix_i2c : ∀ i : Nat, i < 256 → (((nI i).toUInt32 % 65536).toInt32 = nI i ∧ ¬ nI i < 0 ∧ ¬ 255 < nI i ∧ fx (nI i).toInt8.toInt32 = fx (nI i)) := by decide +kernel
