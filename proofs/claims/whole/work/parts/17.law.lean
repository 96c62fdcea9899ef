theorem k_bipush_31 : (Int8.ofInt (31)).toInt32 = 31 := by decide
theorem k_iconst_6 : Int32.ofInt (6) = 6 := by decide
theorem bL_law_16 {G : GC} {d : Nat} {sw : Bool} {f : FF} {Q : QQ}  (p1 : XP G mL_law (d + 14) 18 [.retAddr 0, .ref 0, .ref 82, .int 0] [] sw f Q) : XP G mL_law (d + 14) 16 [.retAddr 0, .ref 0, .ref 82, .null] [] sw f Q := by
  refine wp_iconst (M := mL_law) (pc := 16) dL_law_16 k_iconst_0 ?_
  refine wp_istore_n (M := mL_law) (pc := 17) (ls' := [.retAddr 0, .ref 0, .ref 82, .int 0]) dL_law_17 rfl (by decide) rfl ?_
  exact p1
theorem bL_law_18 {G : GC} {d : Nat} {sw : Bool} {f : FF} {Q : QQ} {x3 : Int32} (p1 : (((Int32.ofNat (gL G)) - 6) < x3) → Q (some (.int 1)) sw f) (p2 : (¬ ((Int32.ofNat (gL G)) - 6) < x3) → vp_in x3 (gL G)) (p3 : (¬ ((Int32.ofNat (gL G)) - 6) < x3) → (((gxs G x3.toNatClampNeg) &&& 31) = 0) → vp_in (x3 + 1) (gL G)) (p4 : (¬ ((Int32.ofNat (gL G)) - 6) < x3) → (((gxs G x3.toNatClampNeg) &&& 31) = 0) → vp_in (x3 + 2) (gL G)) (p5 : (¬ ((Int32.ofNat (gL G)) - 6) < x3) → (((gxs G x3.toNatClampNeg) &&& 31) = 0) → vp_in (x3 + 3) (gL G)) (p6 : (¬ ((Int32.ofNat (gL G)) - 6) < x3) → (((gxs G x3.toNatClampNeg) &&& 31) = 0) → XP G mX10_trunk (d + 13) 0 [.ref 0, .int (gxs G (x3 + 1).toNatClampNeg), .int (gxs G (x3 + 2).toNatClampNeg), .int (gxs G (x3 + 3).toNatClampNeg)] [] sw f (fun v sw' f' => XP G mL_law (d + 14) 195 [.retAddr 0, .ref 0, .ref 82, .int x3] (retst v []) sw' f' Q)) (p7 : (¬ ((Int32.ofNat (gL G)) - 6) < x3) → (((gxs G x3.toNatClampNeg) &&& 31) = 1) → vp_in (x3 + 1) (gL G)) (p8 : (¬ ((Int32.ofNat (gL G)) - 6) < x3) → (((gxs G x3.toNatClampNeg) &&& 31) = 1) → vp_in (x3 + 2) (gL G)) (p9 : (¬ ((Int32.ofNat (gL G)) - 6) < x3) → (((gxs G x3.toNatClampNeg) &&& 31) = 1) → vp_in (x3 + 3) (gL G)) (p10 : (¬ ((Int32.ofNat (gL G)) - 6) < x3) → (((gxs G x3.toNatClampNeg) &&& 31) = 1) → ((gxs G (x3 + 3).toNatClampNeg) = 0) → XP G mX10_subscriber (d + 13) 0 [.ref 0, .int (gxs G (x3 + 1).toNatClampNeg), .int (gxs G (x3 + 2).toNatClampNeg), .int 0] [] sw f (fun v sw' f' => XP G mL_law (d + 14) 246 [.retAddr 0, .ref 0, .ref 82, .int x3] (retst v []) sw' f' Q)) (p11 : (¬ ((Int32.ofNat (gL G)) - 6) < x3) → (((gxs G x3.toNatClampNeg) &&& 31) = 1) → (¬ (gxs G (x3 + 3).toNatClampNeg) = 0) → XP G mX10_subscriber (d + 13) 0 [.ref 0, .int (gxs G (x3 + 1).toNatClampNeg), .int (gxs G (x3 + 2).toNatClampNeg), .int 1] [] sw f (fun v sw' f' => XP G mL_law (d + 14) 246 [.retAddr 0, .ref 0, .ref 82, .int x3] (retst v []) sw' f' Q)) (p12 : (¬ ((Int32.ofNat (gL G)) - 6) < x3) → (((gxs G x3.toNatClampNeg) &&& 31) = 2) → vp_in (x3 + 1) (gL G)) (p13 : (¬ ((Int32.ofNat (gL G)) - 6) < x3) → (((gxs G x3.toNatClampNeg) &&& 31) = 2) → XP G mX10_fund (d + 13) 0 [.ref 0, .int (gxs G (x3 + 1).toNatClampNeg)] [] sw f (fun v sw' f' => XP G mL_law (d + 14) 287 [.retAddr 0, .ref 0, .ref 82, .int x3] (retst v []) sw' f' Q)) (p14 : (¬ ((Int32.ofNat (gL G)) - 6) < x3) → (((gxs G x3.toNatClampNeg) &&& 31) = 3) → vp_in (x3 + 1) (gL G)) (p15 : (¬ ((Int32.ofNat (gL G)) - 6) < x3) → (((gxs G x3.toNatClampNeg) &&& 31) = 3) → vp_in (x3 + 2) (gL G)) (p16 : (¬ ((Int32.ofNat (gL G)) - 6) < x3) → (((gxs G x3.toNatClampNeg) &&& 31) = 3) → XP G mX10_rate (d + 13) 0 [.ref 0, .int (gxs G (x3 + 1).toNatClampNeg), .int (gxs G (x3 + 2).toNatClampNeg)] [] sw f (fun v sw' f' => XP G mL_law (d + 14) 315 [.retAddr 0, .ref 0, .ref 82, .int x3] (retst v []) sw' f' Q)) (p17 : (¬ ((Int32.ofNat (gL G)) - 6) < x3) → (((gxs G x3.toNatClampNeg) &&& 31) = 4) → vp_in (x3 + 1) (gL G)) (p18 : (¬ ((Int32.ofNat (gL G)) - 6) < x3) → (((gxs G x3.toNatClampNeg) &&& 31) = 4) → vp_in (x3 + 2) (gL G)) (p19 : (¬ ((Int32.ofNat (gL G)) - 6) < x3) → (((gxs G x3.toNatClampNeg) &&& 31) = 4) → vp_in (x3 + 3) (gL G)) (p20 : (¬ ((Int32.ofNat (gL G)) - 6) < x3) → (((gxs G x3.toNatClampNeg) &&& 31) = 4) → vp_in (x3 + 4) (gL G)) (p21 : (¬ ((Int32.ofNat (gL G)) - 6) < x3) → (((gxs G x3.toNatClampNeg) &&& 31) = 4) → vp_in (x3 + 5) (gL G)) (p22 : (¬ ((Int32.ofNat (gL G)) - 6) < x3) → (((gxs G x3.toNatClampNeg) &&& 31) = 4) → XP G mX10_feed (d + 13) 0 [.ref 0, .int (gxs G (x3 + 1).toNatClampNeg), .int (gxs G (x3 + 2).toNatClampNeg), .int (gxs G (x3 + 3).toNatClampNeg), .int (gxs G (x3 + 4).toNatClampNeg), .int (gxs G (x3 + 5).toNatClampNeg)] [] sw f (fun v sw' f' => XP G mL_law (d + 14) 363 [.retAddr 0, .ref 0, .ref 82, .int x3] (retst v []) sw' f' Q)) (p23 : (¬ ((Int32.ofNat (gL G)) - 6) < x3) → (((gxs G x3.toNatClampNeg) &&& 31) = 5) → vp_in (x3 + 1) (gL G)) (p24 : (¬ ((Int32.ofNat (gL G)) - 6) < x3) → (((gxs G x3.toNatClampNeg) &&& 31) = 5) → XP G mX10_law (d + 13) 0 [.ref 0, .int (gxs G (x3 + 1).toNatClampNeg), .null, .null] [] sw f (fun v sw' f' => XP G mL_law (d + 14) 406 [.retAddr 0, .ref 0, .ref 82, .int x3] (retst v []) sw' f' Q)) (p25 : (¬ ((Int32.ofNat (gL G)) - 6) < x3) → (((gxs G x3.toNatClampNeg) &&& 31) = 6) → vp_in (x3 + 1) (gL G)) (p26 : (¬ ((Int32.ofNat (gL G)) - 6) < x3) → (((gxs G x3.toNatClampNeg) &&& 31) = 6) → XP G mX10_bill (d + 13) 0 [.ref 0, .int (gxs G (x3 + 1).toNatClampNeg), .null] [] sw f (fun v sw' f' => XP G mL_law (d + 14) 429 [.retAddr 0, .ref 0, .ref 82, .int x3] (retst v []) sw' f' Q)) (p27 : (¬ ((Int32.ofNat (gL G)) - 6) < x3) → (((gxs G x3.toNatClampNeg) &&& 31) = 7) → vp_in (x3 + 1) (gL G)) (p28 : (¬ ((Int32.ofNat (gL G)) - 6) < x3) → (((gxs G x3.toNatClampNeg) &&& 31) = 7) → vp_in (x3 + 2) (gL G)) (p29 : (¬ ((Int32.ofNat (gL G)) - 6) < x3) → (((gxs G x3.toNatClampNeg) &&& 31) = 7) → XP G mX10_code (d + 13) 0 [.ref 0, .int (gxs G (x3 + 1).toNatClampNeg), .int (gxs G (x3 + 2).toNatClampNeg)] [] sw f (fun v sw' f' => XP G mL_law (d + 14) 457 [.retAddr 0, .ref 0, .ref 82, .int x3] (retst v []) sw' f' Q)) (p30 : (¬ ((Int32.ofNat (gL G)) - 6) < x3) → (((gxs G x3.toNatClampNeg) &&& 31) = 8) → vp_in (x3 + 1) (gL G)) (p31 : (¬ ((Int32.ofNat (gL G)) - 6) < x3) → (((gxs G x3.toNatClampNeg) &&& 31) = 8) → XP G mX10_minutes (d + 13) 0 [.ref 0, .int (gxs G (x3 + 1).toNatClampNeg)] [] sw f (fun v sw' f' => XP G mL_law (d + 14) 485 [.retAddr 0, .ref 0, .ref 82, .int x3] (retst v []) sw' f' Q)) (p32 : (¬ ((Int32.ofNat (gL G)) - 6) < x3) → (((gxs G x3.toNatClampNeg) &&& 31) = 9) → vp_in (x3 + 1) (gL G)) (p33 : (¬ ((Int32.ofNat (gL G)) - 6) < x3) → (((gxs G x3.toNatClampNeg) &&& 31) = 9) → vp_in (x3 + 2) (gL G)) (p34 : (¬ ((Int32.ofNat (gL G)) - 6) < x3) → (((gxs G x3.toNatClampNeg) &&& 31) = 9) → XP G mX10_tried (d + 13) 0 [.ref 0, .int (gxs G (x3 + 1).toNatClampNeg), .int (gxs G (x3 + 2).toNatClampNeg), .null] [] sw f (fun v sw' f' => XP G mL_law (d + 14) 513 [.retAddr 0, .ref 0, .ref 82, .int x3] (retst v []) sw' f' Q)) (p35 : (¬ ((Int32.ofNat (gL G)) - 6) < x3) → (((gxs G x3.toNatClampNeg) &&& 31) = 10) → vp_in (x3 + 1) (gL G)) (p36 : (¬ ((Int32.ofNat (gL G)) - 6) < x3) → (((gxs G x3.toNatClampNeg) &&& 31) = 10) → vp_in (x3 + 2) (gL G)) (p37 : (¬ ((Int32.ofNat (gL G)) - 6) < x3) → (((gxs G x3.toNatClampNeg) &&& 31) = 10) → XP G mX10_subscriberIs (d + 13) 0 [.ref 0, .int (gxs G (x3 + 1).toNatClampNeg), .int (gxs G (x3 + 2).toNatClampNeg), .null] [] sw f (fun v sw' f' => XP G mL_law (d + 14) 546 [.retAddr 0, .ref 0, .ref 82, .int x3] (retst v []) sw' f' Q)) (p38 : (¬ ((Int32.ofNat (gL G)) - 6) < x3) → (((gxs G x3.toNatClampNeg) &&& 31) = 11) → vp_in (x3 + 1) (gL G)) (p39 : (¬ ((Int32.ofNat (gL G)) - 6) < x3) → (((gxs G x3.toNatClampNeg) &&& 31) = 11) → vp_in (x3 + 2) (gL G)) (p40 : (¬ ((Int32.ofNat (gL G)) - 6) < x3) → (((gxs G x3.toNatClampNeg) &&& 31) = 11) → XP G mX10_callIs (d + 13) 0 [.ref 0, .int (gxs G (x3 + 1).toNatClampNeg), .int (gxs G (x3 + 2).toNatClampNeg)] [] sw f (fun v sw' f' => XP G mL_law (d + 14) 579 [.retAddr 0, .ref 0, .ref 82, .int x3] (retst v []) sw' f' Q)) (p41 : (¬ ((Int32.ofNat (gL G)) - 6) < x3) → (((gxs G x3.toNatClampNeg) &&& 31) = 12) → vp_in (x3 + 1) (gL G)) (p42 : (¬ ((Int32.ofNat (gL G)) - 6) < x3) → (((gxs G x3.toNatClampNeg) &&& 31) = 12) → vp_in (x3 + 2) (gL G)) (p43 : (¬ ((Int32.ofNat (gL G)) - 6) < x3) → (((gxs G x3.toNatClampNeg) &&& 31) = 12) → vp_in (x3 + 3) (gL G)) (p44 : (¬ ((Int32.ofNat (gL G)) - 6) < x3) → (((gxs G x3.toNatClampNeg) &&& 31) = 12) → XP G mX10_circuits (d + 13) 0 [.ref 0, .int (gxs G (x3 + 1).toNatClampNeg), .int (gxs G (x3 + 2).toNatClampNeg), .int (gxs G (x3 + 3).toNatClampNeg), .null] [] sw f (fun v sw' f' => XP G mL_law (d + 14) 617 [.retAddr 0, .ref 0, .ref 82, .int x3] (retst v []) sw' f' Q)) (p45 : (¬ ((Int32.ofNat (gL G)) - 6) < x3) → (((gxs G x3.toNatClampNeg) &&& 31) = 13) → vp_in (x3 + 1) (gL G)) (p46 : (¬ ((Int32.ofNat (gL G)) - 6) < x3) → (((gxs G x3.toNatClampNeg) &&& 31) = 13) → vp_in (x3 + 2) (gL G)) (p47 : (¬ ((Int32.ofNat (gL G)) - 6) < x3) → (((gxs G x3.toNatClampNeg) &&& 31) = 13) → vp_in (x3 + 3) (gL G)) (p48 : (¬ ((Int32.ofNat (gL G)) - 6) < x3) → (((gxs G x3.toNatClampNeg) &&& 31) = 13) → XP G mX10_route (d + 13) 0 [.ref 0, .int (gxs G (x3 + 1).toNatClampNeg), .int (gxs G (x3 + 2).toNatClampNeg), .int (gxs G (x3 + 3).toNatClampNeg), .null] [] sw f (fun v sw' f' => XP G mL_law (d + 14) 660 [.retAddr 0, .ref 0, .ref 82, .int x3] (retst v []) sw' f' Q)) (p49 : (¬ ((Int32.ofNat (gL G)) - 6) < x3) → (((gxs G x3.toNatClampNeg) &&& 31) = 14) → vp_in (x3 + 1) (gL G)) (p50 : (¬ ((Int32.ofNat (gL G)) - 6) < x3) → (((gxs G x3.toNatClampNeg) &&& 31) = 14) → XP G mX10_fundLasts (d + 13) 0 [.ref 0, .int (gxs G (x3 + 1).toNatClampNeg)] [] sw f (fun v sw' f' => XP G mL_law (d + 14) 693 [.retAddr 0, .ref 0, .ref 82, .int x3] (retst v []) sw' f' Q)) (p51 : (¬ ((Int32.ofNat (gL G)) - 6) < x3) → (((gxs G x3.toNatClampNeg) &&& 31) = 15) → vp_in (x3 + 1) (gL G)) (p52 : (¬ ((Int32.ofNat (gL G)) - 6) < x3) → (((gxs G x3.toNatClampNeg) &&& 31) = 15) → vp_in (x3 + 2) (gL G)) (p53 : (¬ ((Int32.ofNat (gL G)) - 6) < x3) → (((gxs G x3.toNatClampNeg) &&& 31) = 15) → XP G mX10_atOnce (d + 13) 0 [.ref 0, .int (gxs G (x3 + 1).toNatClampNeg), .int (gxs G (x3 + 2).toNatClampNeg)] [] sw f (fun v sw' f' => XP G mL_law (d + 14) 721 [.retAddr 0, .ref 0, .ref 82, .int x3] (retst v []) sw' f' Q)) (p54 : (¬ ((Int32.ofNat (gL G)) - 6) < x3) → (((gxs G x3.toNatClampNeg) &&& 31) = 16) → vp_in (x3 + 1) (gL G)) (p55 : (¬ ((Int32.ofNat (gL G)) - 6) < x3) → (((gxs G x3.toNatClampNeg) &&& 31) = 16) → vp_in (x3 + 2) (gL G)) (p56 : (¬ ((Int32.ofNat (gL G)) - 6) < x3) → (((gxs G x3.toNatClampNeg) &&& 31) = 16) → XP G mX10_stops (d + 13) 0 [.ref 0, .int (gxs G (x3 + 1).toNatClampNeg), .int (gxs G (x3 + 2).toNatClampNeg)] [] sw f (fun v sw' f' => XP G mL_law (d + 14) 754 [.retAddr 0, .ref 0, .ref 82, .int x3] (retst v []) sw' f' Q)) (p57 : (¬ ((Int32.ofNat (gL G)) - 6) < x3) → (((gxs G x3.toNatClampNeg) &&& 31) = 17) → XP G mX10_inTheMiddle (d + 13) 0 [.ref 0] [] sw f (fun v sw' f' => XP G mL_law (d + 14) 777 [.retAddr 0, .ref 0, .ref 82, .int x3] (retst v []) sw' f' Q)) (p58 : (¬ ((Int32.ofNat (gL G)) - 6) < x3) → (((gxs G x3.toNatClampNeg) &&& 31) = 18) → vp_in (x3 + 1) (gL G)) (p59 : (¬ ((Int32.ofNat (gL G)) - 6) < x3) → (((gxs G x3.toNatClampNeg) &&& 31) = 18) → vp_in (x3 + 2) (gL G)) (p60 : (¬ ((Int32.ofNat (gL G)) - 6) < x3) → (((gxs G x3.toNatClampNeg) &&& 31) = 18) → vp_in (x3 + 3) (gL G)) (p61 : (¬ ((Int32.ofNat (gL G)) - 6) < x3) → (((gxs G x3.toNatClampNeg) &&& 31) = 18) → XP G mX10_cut (d + 13) 0 [.ref 0, .int (gxs G (x3 + 1).toNatClampNeg), .int (gxs G (x3 + 2).toNatClampNeg), .int (gxs G (x3 + 3).toNatClampNeg)] [] sw f (fun v sw' f' => XP G mL_law (d + 14) 805 [.retAddr 0, .ref 0, .ref 82, .int x3] (retst v []) sw' f' Q)) (p62 : (¬ ((Int32.ofNat (gL G)) - 6) < x3) → (((gxs G x3.toNatClampNeg) &&& 31) = 19) → vp_in (x3 + 1) (gL G)) (p63 : (¬ ((Int32.ofNat (gL G)) - 6) < x3) → (((gxs G x3.toNatClampNeg) &&& 31) = 19) → vp_in (x3 + 2) (gL G)) (p64 : (¬ ((Int32.ofNat (gL G)) - 6) < x3) → (((gxs G x3.toNatClampNeg) &&& 31) = 19) → vp_in (x3 + 3) (gL G)) (p65 : (¬ ((Int32.ofNat (gL G)) - 6) < x3) → (((gxs G x3.toNatClampNeg) &&& 31) = 19) → XP G mX10_heir (d + 13) 0 [.ref 0, .int (gxs G (x3 + 1).toNatClampNeg), .int (gxs G (x3 + 2).toNatClampNeg), .int (gxs G (x3 + 3).toNatClampNeg)] [] sw f (fun v sw' f' => XP G mL_law (d + 14) 848 [.retAddr 0, .ref 0, .ref 82, .int x3] (retst v []) sw' f' Q)) (p66 : (¬ ((Int32.ofNat (gL G)) - 6) < x3) → (((gxs G x3.toNatClampNeg) &&& 31) = 20) → vp_in (x3 + 1) (gL G)) (p67 : (¬ ((Int32.ofNat (gL G)) - 6) < x3) → (((gxs G x3.toNatClampNeg) &&& 31) = 20) → vp_in (x3 + 2) (gL G)) (p68 : (¬ ((Int32.ofNat (gL G)) - 6) < x3) → (((gxs G x3.toNatClampNeg) &&& 31) = 20) → XP G mX10_busy (d + 13) 0 [.ref 0, .int (gxs G (x3 + 1).toNatClampNeg), .int (gxs G (x3 + 2).toNatClampNeg), .null] [] sw f (fun v sw' f' => XP G mL_law (d + 14) 886 [.retAddr 0, .ref 0, .ref 82, .int x3] (retst v []) sw' f' Q)) (p69 : (¬ ((Int32.ofNat (gL G)) - 6) < x3) → (((gxs G x3.toNatClampNeg) &&& 31) = 21) → vp_in (x3 + 1) (gL G)) (p70 : (¬ ((Int32.ofNat (gL G)) - 6) < x3) → (((gxs G x3.toNatClampNeg) &&& 31) = 21) → vp_in (x3 + 2) (gL G)) (p71 : (¬ ((Int32.ofNat (gL G)) - 6) < x3) → (((gxs G x3.toNatClampNeg) &&& 31) = 21) → vp_in (x3 + 3) (gL G)) (p72 : (¬ ((Int32.ofNat (gL G)) - 6) < x3) → (((gxs G x3.toNatClampNeg) &&& 31) = 21) → XP G mX10_cheapest (d + 13) 0 [.ref 0, .int (gxs G (x3 + 1).toNatClampNeg), .int (gxs G (x3 + 2).toNatClampNeg), .int (gxs G (x3 + 3).toNatClampNeg), .null] [] sw f (fun v sw' f' => XP G mL_law (d + 14) 924 [.retAddr 0, .ref 0, .ref 82, .int x3] (retst v []) sw' f' Q)) (p73 : (¬ ((Int32.ofNat (gL G)) - 6) < x3) → (((gxs G x3.toNatClampNeg) &&& 31) = 22) → vp_in (x3 + 1) (gL G)) (p74 : (¬ ((Int32.ofNat (gL G)) - 6) < x3) → (((gxs G x3.toNatClampNeg) &&& 31) = 22) → vp_in (x3 + 2) (gL G)) (p75 : (¬ ((Int32.ofNat (gL G)) - 6) < x3) → (((gxs G x3.toNatClampNeg) &&& 31) = 22) → XP G mX10_told (d + 13) 0 [.ref 0, .int (gxs G (x3 + 1).toNatClampNeg), .int (gxs G (x3 + 2).toNatClampNeg)] [] sw f (fun v sw' f' => XP G mL_law (d + 14) 962 [.retAddr 0, .ref 0, .ref 82, .int x3] (retst v []) sw' f' Q)) (p76 : (¬ ((Int32.ofNat (gL G)) - 6) < x3) → (((gxs G x3.toNatClampNeg) &&& 31) = 23) → vp_in (x3 + 1) (gL G)) (p77 : (¬ ((Int32.ofNat (gL G)) - 6) < x3) → (((gxs G x3.toNatClampNeg) &&& 31) = 23) → vp_in (x3 + 2) (gL G)) (p78 : (¬ ((Int32.ofNat (gL G)) - 6) < x3) → (((gxs G x3.toNatClampNeg) &&& 31) = 23) → vp_in (x3 + 3) (gL G)) (p79 : (¬ ((Int32.ofNat (gL G)) - 6) < x3) → (((gxs G x3.toNatClampNeg) &&& 31) = 23) → ((gxs G (x3 + 3).toNatClampNeg) = 0) → vp_in (x3 + 4) (gL G)) (p80 : (¬ ((Int32.ofNat (gL G)) - 6) < x3) → (((gxs G x3.toNatClampNeg) &&& 31) = 23) → ((gxs G (x3 + 3).toNatClampNeg) = 0) → XP G mX10_epitaph (d + 13) 0 [.ref 0, .int (gxs G (x3 + 1).toNatClampNeg), .int (gxs G (x3 + 2).toNatClampNeg), .int 0, .int (gxs G (x3 + 4).toNatClampNeg)] [] sw f (fun v sw' f' => XP G mL_law (d + 14) 1013 [.retAddr 0, .ref 0, .ref 82, .int x3] (retst v []) sw' f' Q)) (p81 : (¬ ((Int32.ofNat (gL G)) - 6) < x3) → (((gxs G x3.toNatClampNeg) &&& 31) = 23) → (¬ (gxs G (x3 + 3).toNatClampNeg) = 0) → vp_in (x3 + 4) (gL G)) (p82 : (¬ ((Int32.ofNat (gL G)) - 6) < x3) → (((gxs G x3.toNatClampNeg) &&& 31) = 23) → (¬ (gxs G (x3 + 3).toNatClampNeg) = 0) → XP G mX10_epitaph (d + 13) 0 [.ref 0, .int (gxs G (x3 + 1).toNatClampNeg), .int (gxs G (x3 + 2).toNatClampNeg), .int 1, .int (gxs G (x3 + 4).toNatClampNeg)] [] sw f (fun v sw' f' => XP G mL_law (d + 14) 1013 [.retAddr 0, .ref 0, .ref 82, .int x3] (retst v []) sw' f' Q)) (p83 : (¬ ((Int32.ofNat (gL G)) - 6) < x3) → (((gxs G x3.toNatClampNeg) &&& 31) = 24) → vp_in (x3 + 1) (gL G)) (p84 : (¬ ((Int32.ofNat (gL G)) - 6) < x3) → (((gxs G x3.toNatClampNeg) &&& 31) = 24) → vp_in (x3 + 2) (gL G)) (p85 : (¬ ((Int32.ofNat (gL G)) - 6) < x3) → (((gxs G x3.toNatClampNeg) &&& 31) = 24) → XP G mX10_dialled (d + 13) 0 [.ref 0, .int (gxs G (x3 + 1).toNatClampNeg), .int (gxs G (x3 + 2).toNatClampNeg), .null, .null] [] sw f (fun v sw' f' => XP G mL_law (d + 14) 1064 [.retAddr 0, .ref 0, .ref 82, .int x3] (retst v []) sw' f' Q)) (p86 : (¬ ((Int32.ofNat (gL G)) - 6) < x3) → (((gxs G x3.toNatClampNeg) &&& 31) = 25) → XP G mX10_clear (d + 13) 0 [.ref 0] [] sw f (fun v sw' f' => XP G mL_law (d + 14) 1087 [.retAddr 0, .ref 0, .ref 82, .int x3] (retst v []) sw' f' Q)) (p87 : (¬ ((Int32.ofNat (gL G)) - 6) < x3) → (((gxs G x3.toNatClampNeg) &&& 31) = 26) → vp_in (x3 + 1) (gL G)) (p88 : (¬ ((Int32.ofNat (gL G)) - 6) < x3) → (((gxs G x3.toNatClampNeg) &&& 31) = 26) → XP G mX10_freeCode (d + 13) 0 [.ref 0, .int (gxs G (x3 + 1).toNatClampNeg)] [] sw f (fun v sw' f' => XP G mL_law (d + 14) 1105 [.retAddr 0, .ref 0, .ref 82, .int x3] (retst v []) sw' f' Q)) (p89 : (¬ ((Int32.ofNat (gL G)) - 6) < x3) → (((gxs G x3.toNatClampNeg) &&& 31) = 27) → vp_in (x3 + 1) (gL G)) (p90 : (¬ ((Int32.ofNat (gL G)) - 6) < x3) → (((gxs G x3.toNatClampNeg) &&& 31) = 27) → XP G mX10_seed (d + 13) 0 [.ref 0, .int (gxs G (x3 + 1).toNatClampNeg)] [] sw f (fun v sw' f' => XP G mL_law (d + 14) 1128 [.retAddr 0, .ref 0, .ref 82, .int x3] (retst v []) sw' f' Q)) (p91 : (¬ ((Int32.ofNat (gL G)) - 6) < x3) → (((gxs G x3.toNatClampNeg) &&& 31) = 28) → XP G mX10_keep (d + 13) 0 [.ref 0] [] sw f (fun v sw' f' => XP G mL_law (d + 14) 1146 [.retAddr 0, .ref 0, .ref 82, .int x3] (retst v []) sw' f' Q)) (p92 : (¬ ((Int32.ofNat (gL G)) - 6) < x3) → (((gxs G x3.toNatClampNeg) &&& 31) = 29) → XP G mX10_undo (d + 13) 0 [.ref 0] [] sw f (fun v sw' f' => XP G mL_law (d + 14) 1159 [.retAddr 0, .ref 0, .ref 82, .int x3] (retst v []) sw' f' Q)) (p93 : (¬ ((Int32.ofNat (gL G)) - 6) < x3) → (((gxs G x3.toNatClampNeg) &&& 31) = 30) → vp_in (x3 + 1) (gL G)) (p94 : (¬ ((Int32.ofNat (gL G)) - 6) < x3) → (((gxs G x3.toNatClampNeg) &&& 31) = 30) → XP G mX10_check (d + 13) 0 [.ref 0, .int (gxs G (x3 + 1).toNatClampNeg), .null] [] sw f (fun v sw' f' => XP G mL_law (d + 14) 1177 [.retAddr 0, .ref 0, .ref 82, .int x3] (retst v []) sw' f' Q)) (p95 : (¬ ((Int32.ofNat (gL G)) - 6) < x3) → (((gxs G x3.toNatClampNeg) &&& 31) = 31) → vp_in (x3 + 1) (gL G)) (p96 : (¬ ((Int32.ofNat (gL G)) - 6) < x3) → (((gxs G x3.toNatClampNeg) &&& 31) = 31) → XP G mX10_count (d + 13) 0 [.ref 0, .int (gxs G (x3 + 1).toNatClampNeg)] [] sw f (fun v sw' f' => XP G mL_law (d + 14) 1200 [.retAddr 0, .ref 0, .ref 82, .int x3] (retst v []) sw' f' Q)) (p97 : (¬ ((Int32.ofNat (gL G)) - 6) < x3) → (¬ ((gxs G x3.toNatClampNeg) &&& 31) = 0) → (¬ ((gxs G x3.toNatClampNeg) &&& 31) = 1) → (¬ ((gxs G x3.toNatClampNeg) &&& 31) = 2) → (¬ ((gxs G x3.toNatClampNeg) &&& 31) = 3) → (¬ ((gxs G x3.toNatClampNeg) &&& 31) = 4) → (¬ ((gxs G x3.toNatClampNeg) &&& 31) = 5) → (¬ ((gxs G x3.toNatClampNeg) &&& 31) = 6) → (¬ ((gxs G x3.toNatClampNeg) &&& 31) = 7) → (¬ ((gxs G x3.toNatClampNeg) &&& 31) = 8) → (¬ ((gxs G x3.toNatClampNeg) &&& 31) = 9) → (¬ ((gxs G x3.toNatClampNeg) &&& 31) = 10) → (¬ ((gxs G x3.toNatClampNeg) &&& 31) = 11) → (¬ ((gxs G x3.toNatClampNeg) &&& 31) = 12) → (¬ ((gxs G x3.toNatClampNeg) &&& 31) = 13) → (¬ ((gxs G x3.toNatClampNeg) &&& 31) = 14) → (¬ ((gxs G x3.toNatClampNeg) &&& 31) = 15) → (¬ ((gxs G x3.toNatClampNeg) &&& 31) = 16) → (¬ ((gxs G x3.toNatClampNeg) &&& 31) = 17) → (¬ ((gxs G x3.toNatClampNeg) &&& 31) = 18) → (¬ ((gxs G x3.toNatClampNeg) &&& 31) = 19) → (¬ ((gxs G x3.toNatClampNeg) &&& 31) = 20) → (¬ ((gxs G x3.toNatClampNeg) &&& 31) = 21) → (¬ ((gxs G x3.toNatClampNeg) &&& 31) = 22) → (¬ ((gxs G x3.toNatClampNeg) &&& 31) = 23) → (¬ ((gxs G x3.toNatClampNeg) &&& 31) = 24) → (¬ ((gxs G x3.toNatClampNeg) &&& 31) = 25) → (¬ ((gxs G x3.toNatClampNeg) &&& 31) = 26) → (¬ ((gxs G x3.toNatClampNeg) &&& 31) = 27) → (¬ ((gxs G x3.toNatClampNeg) &&& 31) = 28) → (¬ ((gxs G x3.toNatClampNeg) &&& 31) = 29) → (¬ ((gxs G x3.toNatClampNeg) &&& 31) = 30) → (¬ ((gxs G x3.toNatClampNeg) &&& 31) = 31) → XP G mL_law (d + 14) 1214 [.retAddr 0, .ref 0, .ref 82, .int x3] [] sw f Q) : XP G mL_law (d + 14) 18 [.retAddr 0, .ref 0, .ref 82, .int x3] [] sw f Q := by
  refine wp_iload_n (M := mL_law) (pc := 18) dL_law_18 rfl rfl ?_
  refine wp_aload_s (M := mL_law) (pc := 19) dL_law_19 rfl rfl ?_
  refine wp_slen (M := mL_law) (pc := 20) dL_law_20 rfl ?_
  refine wp_bipush (M := mL_law) (pc := 21) dL_law_21 k_bipush_6 ?_
  refine wp_isub (M := mL_law) (pc := 23) dL_law_23 ?_
  refine wp_icmp_gt (M := mL_law) (pc := 24) (t := 1220) dL_law_24 (by decide) (fun c1 => ?_) (fun c1 => ?_)
  · refine wp_iconst (M := mL_law) (pc := 1220) dL_law_1220 k_iconst_1 ?_
    exact xs_zret (M := mL_law) (pc := 1221) dL_law_1221 rfl (by decide) (p1 c1)
  · refine wp_aload_s (M := mL_law) (pc := 27) dL_law_27 rfl rfl ?_
    refine wp_iload_n (M := mL_law) (pc := 28) dL_law_28 rfl rfl ?_
    refine wp_sld (M := mL_law) (pc := 29) dL_law_29 (p2 c1) ?_
    refine wp_bipush (M := mL_law) (pc := 30) dL_law_30 k_bipush_31 ?_
    refine wp_iand (M := mL_law) (pc := 32) dL_law_32 ?_
    by_cases c2 : ((gxs G x3.toNatClampNeg) &&& 31) = 0
    · refine wp_tableIn (M := mL_law) (pc := 33) (t := 176) (off := 143) dL_law_33 (by rw [c2] <;> decide) (by rw [c2] <;> decide) (by rw [c2] <;> rfl) (by decide) ?_
      refine wp_aload_n (M := mL_law) (pc := 176) dL_law_176 rfl rfl ?_
      refine wp_aload_s (M := mL_law) (pc := 177) dL_law_177 rfl rfl ?_
      refine wp_iload_n (M := mL_law) (pc := 178) dL_law_178 rfl rfl ?_
      refine wp_iconst (M := mL_law) (pc := 179) dL_law_179 k_iconst_1 ?_
      refine wp_iadd (M := mL_law) (pc := 180) dL_law_180 ?_
      refine wp_sld (M := mL_law) (pc := 181) dL_law_181 (p3 c1 c2) ?_
      refine wp_aload_s (M := mL_law) (pc := 182) dL_law_182 rfl rfl ?_
      refine wp_iload_n (M := mL_law) (pc := 183) dL_law_183 rfl rfl ?_
      refine wp_iconst (M := mL_law) (pc := 184) dL_law_184 k_iconst_2 ?_
      refine wp_iadd (M := mL_law) (pc := 185) dL_law_185 ?_
      refine wp_sld (M := mL_law) (pc := 186) dL_law_186 (p4 c1 c2) ?_
      refine wp_aload_s (M := mL_law) (pc := 187) dL_law_187 rfl rfl ?_
      refine wp_iload_n (M := mL_law) (pc := 188) dL_law_188 rfl rfl ?_
      refine wp_iconst (M := mL_law) (pc := 189) dL_law_189 k_iconst_3 ?_
      refine wp_iadd (M := mL_law) (pc := 190) dL_law_190 ?_
      refine wp_sld (M := mL_law) (pc := 191) dL_law_191 (p5 c1 c2) ?_
      refine xs_callV (d := d + 13) (M := mL_law) (pc := 192) (As := [.int (gxs G (x3 + 1).toNatClampNeg), .int (gxs G (x3 + 2).toNatClampNeg), .int (gxs G (x3 + 3).toNatClampNeg)]) (st := []) (c := 10) (ls' := [.ref 0, .int (gxs G (x3 + 1).toNatClampNeg), .int (gxs G (x3 + 2).toNatClampNeg), .int (gxs G (x3 + 3).toNatClampNeg)]) dL_law_192 oX10_trunk nX10_trunk lL_13 vX10_trunk sX10_trunk rfl sh0 (Nat.le_of_ble_eq_true rfl) rfl (Nat.le_of_ble_eq_true rfl) rfl ?_
      exact p6 c1 c2
    by_cases c3 : ((gxs G x3.toNatClampNeg) &&& 31) = 1
    · refine wp_tableIn (M := mL_law) (pc := 33) (t := 219) (off := 186) dL_law_33 (by rw [c3] <;> decide) (by rw [c3] <;> decide) (by rw [c3] <;> rfl) (by decide) ?_
      refine wp_aload_n (M := mL_law) (pc := 219) dL_law_219 rfl rfl ?_
      refine wp_aload_s (M := mL_law) (pc := 220) dL_law_220 rfl rfl ?_
      refine wp_iload_n (M := mL_law) (pc := 221) dL_law_221 rfl rfl ?_
      refine wp_iconst (M := mL_law) (pc := 222) dL_law_222 k_iconst_1 ?_
      refine wp_iadd (M := mL_law) (pc := 223) dL_law_223 ?_
      refine wp_sld (M := mL_law) (pc := 224) dL_law_224 (p7 c1 c3) ?_
      refine wp_aload_s (M := mL_law) (pc := 225) dL_law_225 rfl rfl ?_
      refine wp_iload_n (M := mL_law) (pc := 226) dL_law_226 rfl rfl ?_
      refine wp_iconst (M := mL_law) (pc := 227) dL_law_227 k_iconst_2 ?_
      refine wp_iadd (M := mL_law) (pc := 228) dL_law_228 ?_
      refine wp_sld (M := mL_law) (pc := 229) dL_law_229 (p8 c1 c3) ?_
      refine wp_aload_s (M := mL_law) (pc := 230) dL_law_230 rfl rfl ?_
      refine wp_iload_n (M := mL_law) (pc := 231) dL_law_231 rfl rfl ?_
      refine wp_iconst (M := mL_law) (pc := 232) dL_law_232 k_iconst_3 ?_
      refine wp_iadd (M := mL_law) (pc := 233) dL_law_233 ?_
      refine wp_sld (M := mL_law) (pc := 234) dL_law_234 (p9 c1 c3) ?_
      refine wp_if_eq (M := mL_law) (pc := 235) (t := 242) dL_law_235 (by decide) (fun c4 => ?_) (fun c4 => ?_)
      · refine wp_iconst (M := mL_law) (pc := 242) dL_law_242 k_iconst_0 ?_
        refine xs_callV (d := d + 13) (M := mL_law) (pc := 243) (As := [.int (gxs G (x3 + 1).toNatClampNeg), .int (gxs G (x3 + 2).toNatClampNeg), .int 0]) (st := []) (c := 10) (ls' := [.ref 0, .int (gxs G (x3 + 1).toNatClampNeg), .int (gxs G (x3 + 2).toNatClampNeg), .int 0]) dL_law_243 oX10_subscriber nX10_subscriber lL_18 vX10_subscriber sX10_subscriber rfl sh0 (Nat.le_of_ble_eq_true rfl) rfl (Nat.le_of_ble_eq_true rfl) rfl ?_
        exact p10 c1 c3 c4
      · refine wp_iconst (M := mL_law) (pc := 238) dL_law_238 k_iconst_1 ?_
        refine wp_goto (M := mL_law) (pc := 239) (t := 243) dL_law_239 (by decide) ?_
        refine xs_callV (d := d + 13) (M := mL_law) (pc := 243) (As := [.int (gxs G (x3 + 1).toNatClampNeg), .int (gxs G (x3 + 2).toNatClampNeg), .int 1]) (st := []) (c := 10) (ls' := [.ref 0, .int (gxs G (x3 + 1).toNatClampNeg), .int (gxs G (x3 + 2).toNatClampNeg), .int 1]) dL_law_243 oX10_subscriber nX10_subscriber lL_18 vX10_subscriber sX10_subscriber rfl sh0 (Nat.le_of_ble_eq_true rfl) rfl (Nat.le_of_ble_eq_true rfl) rfl ?_
        exact p11 c1 c3 c4
    by_cases c5 : ((gxs G x3.toNatClampNeg) &&& 31) = 2
    · refine wp_tableIn (M := mL_law) (pc := 33) (t := 278) (off := 245) dL_law_33 (by rw [c5] <;> decide) (by rw [c5] <;> decide) (by rw [c5] <;> rfl) (by decide) ?_
      refine wp_aload_n (M := mL_law) (pc := 278) dL_law_278 rfl rfl ?_
      refine wp_aload_s (M := mL_law) (pc := 279) dL_law_279 rfl rfl ?_
      refine wp_iload_n (M := mL_law) (pc := 280) dL_law_280 rfl rfl ?_
      refine wp_iconst (M := mL_law) (pc := 281) dL_law_281 k_iconst_1 ?_
      refine wp_iadd (M := mL_law) (pc := 282) dL_law_282 ?_
      refine wp_sld (M := mL_law) (pc := 283) dL_law_283 (p12 c1 c5) ?_
      refine xs_callV (d := d + 13) (M := mL_law) (pc := 284) (As := [.int (gxs G (x3 + 1).toNatClampNeg)]) (st := []) (c := 10) (ls' := [.ref 0, .int (gxs G (x3 + 1).toNatClampNeg)]) dL_law_284 oX10_fund nX10_fund lL_23 vX10_fund sX10_fund rfl sh0 (Nat.le_of_ble_eq_true rfl) rfl (Nat.le_of_ble_eq_true rfl) rfl ?_
      exact p13 c1 c5
    by_cases c6 : ((gxs G x3.toNatClampNeg) &&& 31) = 3
    · refine wp_tableIn (M := mL_law) (pc := 33) (t := 301) (off := 268) dL_law_33 (by rw [c6] <;> decide) (by rw [c6] <;> decide) (by rw [c6] <;> rfl) (by decide) ?_
      refine wp_aload_n (M := mL_law) (pc := 301) dL_law_301 rfl rfl ?_
      refine wp_aload_s (M := mL_law) (pc := 302) dL_law_302 rfl rfl ?_
      refine wp_iload_n (M := mL_law) (pc := 303) dL_law_303 rfl rfl ?_
      refine wp_iconst (M := mL_law) (pc := 304) dL_law_304 k_iconst_1 ?_
      refine wp_iadd (M := mL_law) (pc := 305) dL_law_305 ?_
      refine wp_sld (M := mL_law) (pc := 306) dL_law_306 (p14 c1 c6) ?_
      refine wp_aload_s (M := mL_law) (pc := 307) dL_law_307 rfl rfl ?_
      refine wp_iload_n (M := mL_law) (pc := 308) dL_law_308 rfl rfl ?_
      refine wp_iconst (M := mL_law) (pc := 309) dL_law_309 k_iconst_2 ?_
      refine wp_iadd (M := mL_law) (pc := 310) dL_law_310 ?_
      refine wp_sld (M := mL_law) (pc := 311) dL_law_311 (p15 c1 c6) ?_
      refine xs_callV (d := d + 13) (M := mL_law) (pc := 312) (As := [.int (gxs G (x3 + 1).toNatClampNeg), .int (gxs G (x3 + 2).toNatClampNeg)]) (st := []) (c := 10) (ls' := [.ref 0, .int (gxs G (x3 + 1).toNatClampNeg), .int (gxs G (x3 + 2).toNatClampNeg)]) dL_law_312 oX10_rate nX10_rate lL_28 vX10_rate sX10_rate rfl sh0 (Nat.le_of_ble_eq_true rfl) rfl (Nat.le_of_ble_eq_true rfl) rfl ?_
      exact p16 c1 c6
    by_cases c7 : ((gxs G x3.toNatClampNeg) &&& 31) = 4
    · refine wp_tableIn (M := mL_law) (pc := 33) (t := 334) (off := 301) dL_law_33 (by rw [c7] <;> decide) (by rw [c7] <;> decide) (by rw [c7] <;> rfl) (by decide) ?_
      refine wp_aload_n (M := mL_law) (pc := 334) dL_law_334 rfl rfl ?_
      refine wp_aload_s (M := mL_law) (pc := 335) dL_law_335 rfl rfl ?_
      refine wp_iload_n (M := mL_law) (pc := 336) dL_law_336 rfl rfl ?_
      refine wp_iconst (M := mL_law) (pc := 337) dL_law_337 k_iconst_1 ?_
      refine wp_iadd (M := mL_law) (pc := 338) dL_law_338 ?_
      refine wp_sld (M := mL_law) (pc := 339) dL_law_339 (p17 c1 c7) ?_
      refine wp_aload_s (M := mL_law) (pc := 340) dL_law_340 rfl rfl ?_
      refine wp_iload_n (M := mL_law) (pc := 341) dL_law_341 rfl rfl ?_
      refine wp_iconst (M := mL_law) (pc := 342) dL_law_342 k_iconst_2 ?_
      refine wp_iadd (M := mL_law) (pc := 343) dL_law_343 ?_
      refine wp_sld (M := mL_law) (pc := 344) dL_law_344 (p18 c1 c7) ?_
      refine wp_aload_s (M := mL_law) (pc := 345) dL_law_345 rfl rfl ?_
      refine wp_iload_n (M := mL_law) (pc := 346) dL_law_346 rfl rfl ?_
      refine wp_iconst (M := mL_law) (pc := 347) dL_law_347 k_iconst_3 ?_
      refine wp_iadd (M := mL_law) (pc := 348) dL_law_348 ?_
      refine wp_sld (M := mL_law) (pc := 349) dL_law_349 (p19 c1 c7) ?_
      refine wp_aload_s (M := mL_law) (pc := 350) dL_law_350 rfl rfl ?_
      refine wp_iload_n (M := mL_law) (pc := 351) dL_law_351 rfl rfl ?_
      refine wp_iconst (M := mL_law) (pc := 352) dL_law_352 k_iconst_4 ?_
      refine wp_iadd (M := mL_law) (pc := 353) dL_law_353 ?_
      refine wp_sld (M := mL_law) (pc := 354) dL_law_354 (p20 c1 c7) ?_
      refine wp_aload_s (M := mL_law) (pc := 355) dL_law_355 rfl rfl ?_
      refine wp_iload_n (M := mL_law) (pc := 356) dL_law_356 rfl rfl ?_
      refine wp_iconst (M := mL_law) (pc := 357) dL_law_357 k_iconst_5 ?_
      refine wp_iadd (M := mL_law) (pc := 358) dL_law_358 ?_
      refine wp_sld (M := mL_law) (pc := 359) dL_law_359 (p21 c1 c7) ?_
      refine xs_callV (d := d + 13) (M := mL_law) (pc := 360) (As := [.int (gxs G (x3 + 1).toNatClampNeg), .int (gxs G (x3 + 2).toNatClampNeg), .int (gxs G (x3 + 3).toNatClampNeg), .int (gxs G (x3 + 4).toNatClampNeg), .int (gxs G (x3 + 5).toNatClampNeg)]) (st := []) (c := 10) (ls' := [.ref 0, .int (gxs G (x3 + 1).toNatClampNeg), .int (gxs G (x3 + 2).toNatClampNeg), .int (gxs G (x3 + 3).toNatClampNeg), .int (gxs G (x3 + 4).toNatClampNeg), .int (gxs G (x3 + 5).toNatClampNeg)]) dL_law_360 oX10_feed nX10_feed lL_33 vX10_feed sX10_feed rfl sh0 (Nat.le_of_ble_eq_true rfl) rfl (Nat.le_of_ble_eq_true rfl) rfl ?_
      exact p22 c1 c7
    by_cases c8 : ((gxs G x3.toNatClampNeg) &&& 31) = 5
    · refine wp_tableIn (M := mL_law) (pc := 33) (t := 397) (off := 364) dL_law_33 (by rw [c8] <;> decide) (by rw [c8] <;> decide) (by rw [c8] <;> rfl) (by decide) ?_
      refine wp_aload_n (M := mL_law) (pc := 397) dL_law_397 rfl rfl ?_
      refine wp_aload_s (M := mL_law) (pc := 398) dL_law_398 rfl rfl ?_
      refine wp_iload_n (M := mL_law) (pc := 399) dL_law_399 rfl rfl ?_
      refine wp_iconst (M := mL_law) (pc := 400) dL_law_400 k_iconst_1 ?_
      refine wp_iadd (M := mL_law) (pc := 401) dL_law_401 ?_
      refine wp_sld (M := mL_law) (pc := 402) dL_law_402 (p23 c1 c8) ?_
      refine xs_callV (d := d + 13) (M := mL_law) (pc := 403) (As := [.int (gxs G (x3 + 1).toNatClampNeg)]) (st := []) (c := 10) (ls' := [.ref 0, .int (gxs G (x3 + 1).toNatClampNeg), .null, .null]) dL_law_403 oX10_law nX10_law lL_38 vX10_law sX10_law rfl sh0 (Nat.le_of_ble_eq_true rfl) rfl (Nat.le_of_ble_eq_true rfl) rfl ?_
      exact p24 c1 c8
    by_cases c9 : ((gxs G x3.toNatClampNeg) &&& 31) = 6
    · refine wp_tableIn (M := mL_law) (pc := 33) (t := 420) (off := 387) dL_law_33 (by rw [c9] <;> decide) (by rw [c9] <;> decide) (by rw [c9] <;> rfl) (by decide) ?_
      refine wp_aload_n (M := mL_law) (pc := 420) dL_law_420 rfl rfl ?_
      refine wp_aload_s (M := mL_law) (pc := 421) dL_law_421 rfl rfl ?_
      refine wp_iload_n (M := mL_law) (pc := 422) dL_law_422 rfl rfl ?_
      refine wp_iconst (M := mL_law) (pc := 423) dL_law_423 k_iconst_1 ?_
      refine wp_iadd (M := mL_law) (pc := 424) dL_law_424 ?_
      refine wp_sld (M := mL_law) (pc := 425) dL_law_425 (p25 c1 c9) ?_
      refine xs_callV (d := d + 13) (M := mL_law) (pc := 426) (As := [.int (gxs G (x3 + 1).toNatClampNeg)]) (st := []) (c := 10) (ls' := [.ref 0, .int (gxs G (x3 + 1).toNatClampNeg), .null]) dL_law_426 oX10_bill nX10_bill lL_43 vX10_bill sX10_bill rfl sh0 (Nat.le_of_ble_eq_true rfl) rfl (Nat.le_of_ble_eq_true rfl) rfl ?_
      exact p26 c1 c9
    by_cases c10 : ((gxs G x3.toNatClampNeg) &&& 31) = 7
    · refine wp_tableIn (M := mL_law) (pc := 33) (t := 443) (off := 410) dL_law_33 (by rw [c10] <;> decide) (by rw [c10] <;> decide) (by rw [c10] <;> rfl) (by decide) ?_
      refine wp_aload_n (M := mL_law) (pc := 443) dL_law_443 rfl rfl ?_
      refine wp_aload_s (M := mL_law) (pc := 444) dL_law_444 rfl rfl ?_
      refine wp_iload_n (M := mL_law) (pc := 445) dL_law_445 rfl rfl ?_
      refine wp_iconst (M := mL_law) (pc := 446) dL_law_446 k_iconst_1 ?_
      refine wp_iadd (M := mL_law) (pc := 447) dL_law_447 ?_
      refine wp_sld (M := mL_law) (pc := 448) dL_law_448 (p27 c1 c10) ?_
      refine wp_aload_s (M := mL_law) (pc := 449) dL_law_449 rfl rfl ?_
      refine wp_iload_n (M := mL_law) (pc := 450) dL_law_450 rfl rfl ?_
      refine wp_iconst (M := mL_law) (pc := 451) dL_law_451 k_iconst_2 ?_
      refine wp_iadd (M := mL_law) (pc := 452) dL_law_452 ?_
      refine wp_sld (M := mL_law) (pc := 453) dL_law_453 (p28 c1 c10) ?_
      refine xs_callV (d := d + 13) (M := mL_law) (pc := 454) (As := [.int (gxs G (x3 + 1).toNatClampNeg), .int (gxs G (x3 + 2).toNatClampNeg)]) (st := []) (c := 10) (ls' := [.ref 0, .int (gxs G (x3 + 1).toNatClampNeg), .int (gxs G (x3 + 2).toNatClampNeg)]) dL_law_454 oX10_code nX10_code lL_47 vX10_code sX10_code rfl sh0 (Nat.le_of_ble_eq_true rfl) rfl (Nat.le_of_ble_eq_true rfl) rfl ?_
      exact p29 c1 c10
    by_cases c11 : ((gxs G x3.toNatClampNeg) &&& 31) = 8
    · refine wp_tableIn (M := mL_law) (pc := 33) (t := 476) (off := 443) dL_law_33 (by rw [c11] <;> decide) (by rw [c11] <;> decide) (by rw [c11] <;> rfl) (by decide) ?_
      refine wp_aload_n (M := mL_law) (pc := 476) dL_law_476 rfl rfl ?_
      refine wp_aload_s (M := mL_law) (pc := 477) dL_law_477 rfl rfl ?_
      refine wp_iload_n (M := mL_law) (pc := 478) dL_law_478 rfl rfl ?_
      refine wp_iconst (M := mL_law) (pc := 479) dL_law_479 k_iconst_1 ?_
      refine wp_iadd (M := mL_law) (pc := 480) dL_law_480 ?_
      refine wp_sld (M := mL_law) (pc := 481) dL_law_481 (p30 c1 c11) ?_
      refine xs_callV (d := d + 13) (M := mL_law) (pc := 482) (As := [.int (gxs G (x3 + 1).toNatClampNeg)]) (st := []) (c := 10) (ls' := [.ref 0, .int (gxs G (x3 + 1).toNatClampNeg)]) dL_law_482 oX10_minutes nX10_minutes lL_52 vX10_minutes sX10_minutes rfl sh0 (Nat.le_of_ble_eq_true rfl) rfl (Nat.le_of_ble_eq_true rfl) rfl ?_
      exact p31 c1 c11
    by_cases c12 : ((gxs G x3.toNatClampNeg) &&& 31) = 9
    · refine wp_tableIn (M := mL_law) (pc := 33) (t := 499) (off := 466) dL_law_33 (by rw [c12] <;> decide) (by rw [c12] <;> decide) (by rw [c12] <;> rfl) (by decide) ?_
      refine wp_aload_n (M := mL_law) (pc := 499) dL_law_499 rfl rfl ?_
      refine wp_aload_s (M := mL_law) (pc := 500) dL_law_500 rfl rfl ?_
      refine wp_iload_n (M := mL_law) (pc := 501) dL_law_501 rfl rfl ?_
      refine wp_iconst (M := mL_law) (pc := 502) dL_law_502 k_iconst_1 ?_
      refine wp_iadd (M := mL_law) (pc := 503) dL_law_503 ?_
      refine wp_sld (M := mL_law) (pc := 504) dL_law_504 (p32 c1 c12) ?_
      refine wp_aload_s (M := mL_law) (pc := 505) dL_law_505 rfl rfl ?_
      refine wp_iload_n (M := mL_law) (pc := 506) dL_law_506 rfl rfl ?_
      refine wp_iconst (M := mL_law) (pc := 507) dL_law_507 k_iconst_2 ?_
      refine wp_iadd (M := mL_law) (pc := 508) dL_law_508 ?_
      refine wp_sld (M := mL_law) (pc := 509) dL_law_509 (p33 c1 c12) ?_
      refine xs_callV (d := d + 13) (M := mL_law) (pc := 510) (As := [.int (gxs G (x3 + 1).toNatClampNeg), .int (gxs G (x3 + 2).toNatClampNeg)]) (st := []) (c := 10) (ls' := [.ref 0, .int (gxs G (x3 + 1).toNatClampNeg), .int (gxs G (x3 + 2).toNatClampNeg), .null]) dL_law_510 oX10_tried nX10_tried lL_56 vX10_tried sX10_tried rfl sh0 (Nat.le_of_ble_eq_true rfl) rfl (Nat.le_of_ble_eq_true rfl) rfl ?_
      exact p34 c1 c12
    by_cases c13 : ((gxs G x3.toNatClampNeg) &&& 31) = 10
    · refine wp_tableIn (M := mL_law) (pc := 33) (t := 532) (off := 499) dL_law_33 (by rw [c13] <;> decide) (by rw [c13] <;> decide) (by rw [c13] <;> rfl) (by decide) ?_
      refine wp_aload_n (M := mL_law) (pc := 532) dL_law_532 rfl rfl ?_
      refine wp_aload_s (M := mL_law) (pc := 533) dL_law_533 rfl rfl ?_
      refine wp_iload_n (M := mL_law) (pc := 534) dL_law_534 rfl rfl ?_
      refine wp_iconst (M := mL_law) (pc := 535) dL_law_535 k_iconst_1 ?_
      refine wp_iadd (M := mL_law) (pc := 536) dL_law_536 ?_
      refine wp_sld (M := mL_law) (pc := 537) dL_law_537 (p35 c1 c13) ?_
      refine wp_aload_s (M := mL_law) (pc := 538) dL_law_538 rfl rfl ?_
      refine wp_iload_n (M := mL_law) (pc := 539) dL_law_539 rfl rfl ?_
      refine wp_iconst (M := mL_law) (pc := 540) dL_law_540 k_iconst_2 ?_
      refine wp_iadd (M := mL_law) (pc := 541) dL_law_541 ?_
      refine wp_sld (M := mL_law) (pc := 542) dL_law_542 (p36 c1 c13) ?_
      refine xs_callV (d := d + 13) (M := mL_law) (pc := 543) (As := [.int (gxs G (x3 + 1).toNatClampNeg), .int (gxs G (x3 + 2).toNatClampNeg)]) (st := []) (c := 10) (ls' := [.ref 0, .int (gxs G (x3 + 1).toNatClampNeg), .int (gxs G (x3 + 2).toNatClampNeg), .null]) dL_law_543 oX10_subscriberIs nX10_subscriberIs lL_60 vX10_subscriberIs sX10_subscriberIs rfl sh0 (Nat.le_of_ble_eq_true rfl) rfl (Nat.le_of_ble_eq_true rfl) rfl ?_
      exact p37 c1 c13
    by_cases c14 : ((gxs G x3.toNatClampNeg) &&& 31) = 11
    · refine wp_tableIn (M := mL_law) (pc := 33) (t := 565) (off := 532) dL_law_33 (by rw [c14] <;> decide) (by rw [c14] <;> decide) (by rw [c14] <;> rfl) (by decide) ?_
      refine wp_aload_n (M := mL_law) (pc := 565) dL_law_565 rfl rfl ?_
      refine wp_aload_s (M := mL_law) (pc := 566) dL_law_566 rfl rfl ?_
      refine wp_iload_n (M := mL_law) (pc := 567) dL_law_567 rfl rfl ?_
      refine wp_iconst (M := mL_law) (pc := 568) dL_law_568 k_iconst_1 ?_
      refine wp_iadd (M := mL_law) (pc := 569) dL_law_569 ?_
      refine wp_sld (M := mL_law) (pc := 570) dL_law_570 (p38 c1 c14) ?_
      refine wp_aload_s (M := mL_law) (pc := 571) dL_law_571 rfl rfl ?_
      refine wp_iload_n (M := mL_law) (pc := 572) dL_law_572 rfl rfl ?_
      refine wp_iconst (M := mL_law) (pc := 573) dL_law_573 k_iconst_2 ?_
      refine wp_iadd (M := mL_law) (pc := 574) dL_law_574 ?_
      refine wp_sld (M := mL_law) (pc := 575) dL_law_575 (p39 c1 c14) ?_
      refine xs_callV (d := d + 13) (M := mL_law) (pc := 576) (As := [.int (gxs G (x3 + 1).toNatClampNeg), .int (gxs G (x3 + 2).toNatClampNeg)]) (st := []) (c := 10) (ls' := [.ref 0, .int (gxs G (x3 + 1).toNatClampNeg), .int (gxs G (x3 + 2).toNatClampNeg)]) dL_law_576 oX10_callIs nX10_callIs lL_64 vX10_callIs sX10_callIs rfl sh0 (Nat.le_of_ble_eq_true rfl) rfl (Nat.le_of_ble_eq_true rfl) rfl ?_
      exact p40 c1 c14
    by_cases c15 : ((gxs G x3.toNatClampNeg) &&& 31) = 12
    · refine wp_tableIn (M := mL_law) (pc := 33) (t := 598) (off := 565) dL_law_33 (by rw [c15] <;> decide) (by rw [c15] <;> decide) (by rw [c15] <;> rfl) (by decide) ?_
      refine wp_aload_n (M := mL_law) (pc := 598) dL_law_598 rfl rfl ?_
      refine wp_aload_s (M := mL_law) (pc := 599) dL_law_599 rfl rfl ?_
      refine wp_iload_n (M := mL_law) (pc := 600) dL_law_600 rfl rfl ?_
      refine wp_iconst (M := mL_law) (pc := 601) dL_law_601 k_iconst_1 ?_
      refine wp_iadd (M := mL_law) (pc := 602) dL_law_602 ?_
      refine wp_sld (M := mL_law) (pc := 603) dL_law_603 (p41 c1 c15) ?_
      refine wp_aload_s (M := mL_law) (pc := 604) dL_law_604 rfl rfl ?_
      refine wp_iload_n (M := mL_law) (pc := 605) dL_law_605 rfl rfl ?_
      refine wp_iconst (M := mL_law) (pc := 606) dL_law_606 k_iconst_2 ?_
      refine wp_iadd (M := mL_law) (pc := 607) dL_law_607 ?_
      refine wp_sld (M := mL_law) (pc := 608) dL_law_608 (p42 c1 c15) ?_
      refine wp_aload_s (M := mL_law) (pc := 609) dL_law_609 rfl rfl ?_
      refine wp_iload_n (M := mL_law) (pc := 610) dL_law_610 rfl rfl ?_
      refine wp_iconst (M := mL_law) (pc := 611) dL_law_611 k_iconst_3 ?_
      refine wp_iadd (M := mL_law) (pc := 612) dL_law_612 ?_
      refine wp_sld (M := mL_law) (pc := 613) dL_law_613 (p43 c1 c15) ?_
      refine xs_callV (d := d + 13) (M := mL_law) (pc := 614) (As := [.int (gxs G (x3 + 1).toNatClampNeg), .int (gxs G (x3 + 2).toNatClampNeg), .int (gxs G (x3 + 3).toNatClampNeg)]) (st := []) (c := 10) (ls' := [.ref 0, .int (gxs G (x3 + 1).toNatClampNeg), .int (gxs G (x3 + 2).toNatClampNeg), .int (gxs G (x3 + 3).toNatClampNeg), .null]) dL_law_614 oX10_circuits nX10_circuits lL_68 vX10_circuits sX10_circuits rfl sh0 (Nat.le_of_ble_eq_true rfl) rfl (Nat.le_of_ble_eq_true rfl) rfl ?_
      exact p44 c1 c15
    by_cases c16 : ((gxs G x3.toNatClampNeg) &&& 31) = 13
    · refine wp_tableIn (M := mL_law) (pc := 33) (t := 641) (off := 608) dL_law_33 (by rw [c16] <;> decide) (by rw [c16] <;> decide) (by rw [c16] <;> rfl) (by decide) ?_
      refine wp_aload_n (M := mL_law) (pc := 641) dL_law_641 rfl rfl ?_
      refine wp_aload_s (M := mL_law) (pc := 642) dL_law_642 rfl rfl ?_
      refine wp_iload_n (M := mL_law) (pc := 643) dL_law_643 rfl rfl ?_
      refine wp_iconst (M := mL_law) (pc := 644) dL_law_644 k_iconst_1 ?_
      refine wp_iadd (M := mL_law) (pc := 645) dL_law_645 ?_
      refine wp_sld (M := mL_law) (pc := 646) dL_law_646 (p45 c1 c16) ?_
      refine wp_aload_s (M := mL_law) (pc := 647) dL_law_647 rfl rfl ?_
      refine wp_iload_n (M := mL_law) (pc := 648) dL_law_648 rfl rfl ?_
      refine wp_iconst (M := mL_law) (pc := 649) dL_law_649 k_iconst_2 ?_
      refine wp_iadd (M := mL_law) (pc := 650) dL_law_650 ?_
      refine wp_sld (M := mL_law) (pc := 651) dL_law_651 (p46 c1 c16) ?_
      refine wp_aload_s (M := mL_law) (pc := 652) dL_law_652 rfl rfl ?_
      refine wp_iload_n (M := mL_law) (pc := 653) dL_law_653 rfl rfl ?_
      refine wp_iconst (M := mL_law) (pc := 654) dL_law_654 k_iconst_3 ?_
      refine wp_iadd (M := mL_law) (pc := 655) dL_law_655 ?_
      refine wp_sld (M := mL_law) (pc := 656) dL_law_656 (p47 c1 c16) ?_
      refine xs_callV (d := d + 13) (M := mL_law) (pc := 657) (As := [.int (gxs G (x3 + 1).toNatClampNeg), .int (gxs G (x3 + 2).toNatClampNeg), .int (gxs G (x3 + 3).toNatClampNeg)]) (st := []) (c := 10) (ls' := [.ref 0, .int (gxs G (x3 + 1).toNatClampNeg), .int (gxs G (x3 + 2).toNatClampNeg), .int (gxs G (x3 + 3).toNatClampNeg), .null]) dL_law_657 oX10_route nX10_route lL_73 vX10_route sX10_route rfl sh0 (Nat.le_of_ble_eq_true rfl) rfl (Nat.le_of_ble_eq_true rfl) rfl ?_
      exact p48 c1 c16
    by_cases c17 : ((gxs G x3.toNatClampNeg) &&& 31) = 14
    · refine wp_tableIn (M := mL_law) (pc := 33) (t := 684) (off := 651) dL_law_33 (by rw [c17] <;> decide) (by rw [c17] <;> decide) (by rw [c17] <;> rfl) (by decide) ?_
      refine wp_aload_n (M := mL_law) (pc := 684) dL_law_684 rfl rfl ?_
      refine wp_aload_s (M := mL_law) (pc := 685) dL_law_685 rfl rfl ?_
      refine wp_iload_n (M := mL_law) (pc := 686) dL_law_686 rfl rfl ?_
      refine wp_iconst (M := mL_law) (pc := 687) dL_law_687 k_iconst_1 ?_
      refine wp_iadd (M := mL_law) (pc := 688) dL_law_688 ?_
      refine wp_sld (M := mL_law) (pc := 689) dL_law_689 (p49 c1 c17) ?_
      refine xs_callV (d := d + 13) (M := mL_law) (pc := 690) (As := [.int (gxs G (x3 + 1).toNatClampNeg)]) (st := []) (c := 10) (ls' := [.ref 0, .int (gxs G (x3 + 1).toNatClampNeg)]) dL_law_690 oX10_fundLasts nX10_fundLasts lL_77 vX10_fundLasts sX10_fundLasts rfl sh0 (Nat.le_of_ble_eq_true rfl) rfl (Nat.le_of_ble_eq_true rfl) rfl ?_
      exact p50 c1 c17
    by_cases c18 : ((gxs G x3.toNatClampNeg) &&& 31) = 15
    · refine wp_tableIn (M := mL_law) (pc := 33) (t := 707) (off := 674) dL_law_33 (by rw [c18] <;> decide) (by rw [c18] <;> decide) (by rw [c18] <;> rfl) (by decide) ?_
      refine wp_aload_n (M := mL_law) (pc := 707) dL_law_707 rfl rfl ?_
      refine wp_aload_s (M := mL_law) (pc := 708) dL_law_708 rfl rfl ?_
      refine wp_iload_n (M := mL_law) (pc := 709) dL_law_709 rfl rfl ?_
      refine wp_iconst (M := mL_law) (pc := 710) dL_law_710 k_iconst_1 ?_
      refine wp_iadd (M := mL_law) (pc := 711) dL_law_711 ?_
      refine wp_sld (M := mL_law) (pc := 712) dL_law_712 (p51 c1 c18) ?_
      refine wp_aload_s (M := mL_law) (pc := 713) dL_law_713 rfl rfl ?_
      refine wp_iload_n (M := mL_law) (pc := 714) dL_law_714 rfl rfl ?_
      refine wp_iconst (M := mL_law) (pc := 715) dL_law_715 k_iconst_2 ?_
      refine wp_iadd (M := mL_law) (pc := 716) dL_law_716 ?_
      refine wp_sld (M := mL_law) (pc := 717) dL_law_717 (p52 c1 c18) ?_
      refine xs_callV (d := d + 13) (M := mL_law) (pc := 718) (As := [.int (gxs G (x3 + 1).toNatClampNeg), .int (gxs G (x3 + 2).toNatClampNeg)]) (st := []) (c := 10) (ls' := [.ref 0, .int (gxs G (x3 + 1).toNatClampNeg), .int (gxs G (x3 + 2).toNatClampNeg)]) dL_law_718 oX10_atOnce nX10_atOnce lL_81 vX10_atOnce sX10_atOnce rfl sh0 (Nat.le_of_ble_eq_true rfl) rfl (Nat.le_of_ble_eq_true rfl) rfl ?_
      exact p53 c1 c18
    by_cases c19 : ((gxs G x3.toNatClampNeg) &&& 31) = 16
    · refine wp_tableIn (M := mL_law) (pc := 33) (t := 740) (off := 707) dL_law_33 (by rw [c19] <;> decide) (by rw [c19] <;> decide) (by rw [c19] <;> rfl) (by decide) ?_
      refine wp_aload_n (M := mL_law) (pc := 740) dL_law_740 rfl rfl ?_
      refine wp_aload_s (M := mL_law) (pc := 741) dL_law_741 rfl rfl ?_
      refine wp_iload_n (M := mL_law) (pc := 742) dL_law_742 rfl rfl ?_
      refine wp_iconst (M := mL_law) (pc := 743) dL_law_743 k_iconst_1 ?_
      refine wp_iadd (M := mL_law) (pc := 744) dL_law_744 ?_
      refine wp_sld (M := mL_law) (pc := 745) dL_law_745 (p54 c1 c19) ?_
      refine wp_aload_s (M := mL_law) (pc := 746) dL_law_746 rfl rfl ?_
      refine wp_iload_n (M := mL_law) (pc := 747) dL_law_747 rfl rfl ?_
      refine wp_iconst (M := mL_law) (pc := 748) dL_law_748 k_iconst_2 ?_
      refine wp_iadd (M := mL_law) (pc := 749) dL_law_749 ?_
      refine wp_sld (M := mL_law) (pc := 750) dL_law_750 (p55 c1 c19) ?_
      refine xs_callV (d := d + 13) (M := mL_law) (pc := 751) (As := [.int (gxs G (x3 + 1).toNatClampNeg), .int (gxs G (x3 + 2).toNatClampNeg)]) (st := []) (c := 10) (ls' := [.ref 0, .int (gxs G (x3 + 1).toNatClampNeg), .int (gxs G (x3 + 2).toNatClampNeg)]) dL_law_751 oX10_stops nX10_stops lL_85 vX10_stops sX10_stops rfl sh0 (Nat.le_of_ble_eq_true rfl) rfl (Nat.le_of_ble_eq_true rfl) rfl ?_
      exact p56 c1 c19
    by_cases c20 : ((gxs G x3.toNatClampNeg) &&& 31) = 17
    · refine wp_tableIn (M := mL_law) (pc := 33) (t := 773) (off := 740) dL_law_33 (by rw [c20] <;> decide) (by rw [c20] <;> decide) (by rw [c20] <;> rfl) (by decide) ?_
      refine wp_aload_n (M := mL_law) (pc := 773) dL_law_773 rfl rfl ?_
      refine xs_callV (d := d + 13) (M := mL_law) (pc := 774) (As := []) (st := []) (c := 10) (ls' := [.ref 0]) dL_law_774 oX10_inTheMiddle nX10_inTheMiddle lL_89 vX10_inTheMiddle sX10_inTheMiddle rfl sh0 (Nat.le_of_ble_eq_true rfl) rfl (Nat.le_of_ble_eq_true rfl) rfl ?_
      exact p57 c1 c20
    by_cases c21 : ((gxs G x3.toNatClampNeg) &&& 31) = 18
    · refine wp_tableIn (M := mL_law) (pc := 33) (t := 786) (off := 753) dL_law_33 (by rw [c21] <;> decide) (by rw [c21] <;> decide) (by rw [c21] <;> rfl) (by decide) ?_
      refine wp_aload_n (M := mL_law) (pc := 786) dL_law_786 rfl rfl ?_
      refine wp_aload_s (M := mL_law) (pc := 787) dL_law_787 rfl rfl ?_
      refine wp_iload_n (M := mL_law) (pc := 788) dL_law_788 rfl rfl ?_
      refine wp_iconst (M := mL_law) (pc := 789) dL_law_789 k_iconst_1 ?_
      refine wp_iadd (M := mL_law) (pc := 790) dL_law_790 ?_
      refine wp_sld (M := mL_law) (pc := 791) dL_law_791 (p58 c1 c21) ?_
      refine wp_aload_s (M := mL_law) (pc := 792) dL_law_792 rfl rfl ?_
      refine wp_iload_n (M := mL_law) (pc := 793) dL_law_793 rfl rfl ?_
      refine wp_iconst (M := mL_law) (pc := 794) dL_law_794 k_iconst_2 ?_
      refine wp_iadd (M := mL_law) (pc := 795) dL_law_795 ?_
      refine wp_sld (M := mL_law) (pc := 796) dL_law_796 (p59 c1 c21) ?_
      refine wp_aload_s (M := mL_law) (pc := 797) dL_law_797 rfl rfl ?_
      refine wp_iload_n (M := mL_law) (pc := 798) dL_law_798 rfl rfl ?_
      refine wp_iconst (M := mL_law) (pc := 799) dL_law_799 k_iconst_3 ?_
      refine wp_iadd (M := mL_law) (pc := 800) dL_law_800 ?_
      refine wp_sld (M := mL_law) (pc := 801) dL_law_801 (p60 c1 c21) ?_
      refine xs_callV (d := d + 13) (M := mL_law) (pc := 802) (As := [.int (gxs G (x3 + 1).toNatClampNeg), .int (gxs G (x3 + 2).toNatClampNeg), .int (gxs G (x3 + 3).toNatClampNeg)]) (st := []) (c := 10) (ls' := [.ref 0, .int (gxs G (x3 + 1).toNatClampNeg), .int (gxs G (x3 + 2).toNatClampNeg), .int (gxs G (x3 + 3).toNatClampNeg)]) dL_law_802 oX10_cut nX10_cut lL_94 vX10_cut sX10_cut rfl sh0 (Nat.le_of_ble_eq_true rfl) rfl (Nat.le_of_ble_eq_true rfl) rfl ?_
      exact p61 c1 c21
    by_cases c22 : ((gxs G x3.toNatClampNeg) &&& 31) = 19
    · refine wp_tableIn (M := mL_law) (pc := 33) (t := 829) (off := 796) dL_law_33 (by rw [c22] <;> decide) (by rw [c22] <;> decide) (by rw [c22] <;> rfl) (by decide) ?_
      refine wp_aload_n (M := mL_law) (pc := 829) dL_law_829 rfl rfl ?_
      refine wp_aload_s (M := mL_law) (pc := 830) dL_law_830 rfl rfl ?_
      refine wp_iload_n (M := mL_law) (pc := 831) dL_law_831 rfl rfl ?_
      refine wp_iconst (M := mL_law) (pc := 832) dL_law_832 k_iconst_1 ?_
      refine wp_iadd (M := mL_law) (pc := 833) dL_law_833 ?_
      refine wp_sld (M := mL_law) (pc := 834) dL_law_834 (p62 c1 c22) ?_
      refine wp_aload_s (M := mL_law) (pc := 835) dL_law_835 rfl rfl ?_
      refine wp_iload_n (M := mL_law) (pc := 836) dL_law_836 rfl rfl ?_
      refine wp_iconst (M := mL_law) (pc := 837) dL_law_837 k_iconst_2 ?_
      refine wp_iadd (M := mL_law) (pc := 838) dL_law_838 ?_
      refine wp_sld (M := mL_law) (pc := 839) dL_law_839 (p63 c1 c22) ?_
      refine wp_aload_s (M := mL_law) (pc := 840) dL_law_840 rfl rfl ?_
      refine wp_iload_n (M := mL_law) (pc := 841) dL_law_841 rfl rfl ?_
      refine wp_iconst (M := mL_law) (pc := 842) dL_law_842 k_iconst_3 ?_
      refine wp_iadd (M := mL_law) (pc := 843) dL_law_843 ?_
      refine wp_sld (M := mL_law) (pc := 844) dL_law_844 (p64 c1 c22) ?_
      refine xs_callV (d := d + 13) (M := mL_law) (pc := 845) (As := [.int (gxs G (x3 + 1).toNatClampNeg), .int (gxs G (x3 + 2).toNatClampNeg), .int (gxs G (x3 + 3).toNatClampNeg)]) (st := []) (c := 10) (ls' := [.ref 0, .int (gxs G (x3 + 1).toNatClampNeg), .int (gxs G (x3 + 2).toNatClampNeg), .int (gxs G (x3 + 3).toNatClampNeg)]) dL_law_845 oX10_heir nX10_heir lL_98 vX10_heir sX10_heir rfl sh0 (Nat.le_of_ble_eq_true rfl) rfl (Nat.le_of_ble_eq_true rfl) rfl ?_
      exact p65 c1 c22
    by_cases c23 : ((gxs G x3.toNatClampNeg) &&& 31) = 20
    · refine wp_tableIn (M := mL_law) (pc := 33) (t := 872) (off := 839) dL_law_33 (by rw [c23] <;> decide) (by rw [c23] <;> decide) (by rw [c23] <;> rfl) (by decide) ?_
      refine wp_aload_n (M := mL_law) (pc := 872) dL_law_872 rfl rfl ?_
      refine wp_aload_s (M := mL_law) (pc := 873) dL_law_873 rfl rfl ?_
      refine wp_iload_n (M := mL_law) (pc := 874) dL_law_874 rfl rfl ?_
      refine wp_iconst (M := mL_law) (pc := 875) dL_law_875 k_iconst_1 ?_
      refine wp_iadd (M := mL_law) (pc := 876) dL_law_876 ?_
      refine wp_sld (M := mL_law) (pc := 877) dL_law_877 (p66 c1 c23) ?_
      refine wp_aload_s (M := mL_law) (pc := 878) dL_law_878 rfl rfl ?_
      refine wp_iload_n (M := mL_law) (pc := 879) dL_law_879 rfl rfl ?_
      refine wp_iconst (M := mL_law) (pc := 880) dL_law_880 k_iconst_2 ?_
      refine wp_iadd (M := mL_law) (pc := 881) dL_law_881 ?_
      refine wp_sld (M := mL_law) (pc := 882) dL_law_882 (p67 c1 c23) ?_
      refine xs_callV (d := d + 13) (M := mL_law) (pc := 883) (As := [.int (gxs G (x3 + 1).toNatClampNeg), .int (gxs G (x3 + 2).toNatClampNeg)]) (st := []) (c := 10) (ls' := [.ref 0, .int (gxs G (x3 + 1).toNatClampNeg), .int (gxs G (x3 + 2).toNatClampNeg), .null]) dL_law_883 oX10_busy nX10_busy lL_102 vX10_busy sX10_busy rfl sh0 (Nat.le_of_ble_eq_true rfl) rfl (Nat.le_of_ble_eq_true rfl) rfl ?_
      exact p68 c1 c23
    by_cases c24 : ((gxs G x3.toNatClampNeg) &&& 31) = 21
    · refine wp_tableIn (M := mL_law) (pc := 33) (t := 905) (off := 872) dL_law_33 (by rw [c24] <;> decide) (by rw [c24] <;> decide) (by rw [c24] <;> rfl) (by decide) ?_
      refine wp_aload_n (M := mL_law) (pc := 905) dL_law_905 rfl rfl ?_
      refine wp_aload_s (M := mL_law) (pc := 906) dL_law_906 rfl rfl ?_
      refine wp_iload_n (M := mL_law) (pc := 907) dL_law_907 rfl rfl ?_
      refine wp_iconst (M := mL_law) (pc := 908) dL_law_908 k_iconst_1 ?_
      refine wp_iadd (M := mL_law) (pc := 909) dL_law_909 ?_
      refine wp_sld (M := mL_law) (pc := 910) dL_law_910 (p69 c1 c24) ?_
      refine wp_aload_s (M := mL_law) (pc := 911) dL_law_911 rfl rfl ?_
      refine wp_iload_n (M := mL_law) (pc := 912) dL_law_912 rfl rfl ?_
      refine wp_iconst (M := mL_law) (pc := 913) dL_law_913 k_iconst_2 ?_
      refine wp_iadd (M := mL_law) (pc := 914) dL_law_914 ?_
      refine wp_sld (M := mL_law) (pc := 915) dL_law_915 (p70 c1 c24) ?_
      refine wp_aload_s (M := mL_law) (pc := 916) dL_law_916 rfl rfl ?_
      refine wp_iload_n (M := mL_law) (pc := 917) dL_law_917 rfl rfl ?_
      refine wp_iconst (M := mL_law) (pc := 918) dL_law_918 k_iconst_3 ?_
      refine wp_iadd (M := mL_law) (pc := 919) dL_law_919 ?_
      refine wp_sld (M := mL_law) (pc := 920) dL_law_920 (p71 c1 c24) ?_
      refine xs_callV (d := d + 13) (M := mL_law) (pc := 921) (As := [.int (gxs G (x3 + 1).toNatClampNeg), .int (gxs G (x3 + 2).toNatClampNeg), .int (gxs G (x3 + 3).toNatClampNeg)]) (st := []) (c := 10) (ls' := [.ref 0, .int (gxs G (x3 + 1).toNatClampNeg), .int (gxs G (x3 + 2).toNatClampNeg), .int (gxs G (x3 + 3).toNatClampNeg), .null]) dL_law_921 oX10_cheapest nX10_cheapest lL_106 vX10_cheapest sX10_cheapest rfl sh0 (Nat.le_of_ble_eq_true rfl) rfl (Nat.le_of_ble_eq_true rfl) rfl ?_
      exact p72 c1 c24
    by_cases c25 : ((gxs G x3.toNatClampNeg) &&& 31) = 22
    · refine wp_tableIn (M := mL_law) (pc := 33) (t := 948) (off := 915) dL_law_33 (by rw [c25] <;> decide) (by rw [c25] <;> decide) (by rw [c25] <;> rfl) (by decide) ?_
      refine wp_aload_n (M := mL_law) (pc := 948) dL_law_948 rfl rfl ?_
      refine wp_aload_s (M := mL_law) (pc := 949) dL_law_949 rfl rfl ?_
      refine wp_iload_n (M := mL_law) (pc := 950) dL_law_950 rfl rfl ?_
      refine wp_iconst (M := mL_law) (pc := 951) dL_law_951 k_iconst_1 ?_
      refine wp_iadd (M := mL_law) (pc := 952) dL_law_952 ?_
      refine wp_sld (M := mL_law) (pc := 953) dL_law_953 (p73 c1 c25) ?_
      refine wp_aload_s (M := mL_law) (pc := 954) dL_law_954 rfl rfl ?_
      refine wp_iload_n (M := mL_law) (pc := 955) dL_law_955 rfl rfl ?_
      refine wp_iconst (M := mL_law) (pc := 956) dL_law_956 k_iconst_2 ?_
      refine wp_iadd (M := mL_law) (pc := 957) dL_law_957 ?_
      refine wp_sld (M := mL_law) (pc := 958) dL_law_958 (p74 c1 c25) ?_
      refine xs_callV (d := d + 13) (M := mL_law) (pc := 959) (As := [.int (gxs G (x3 + 1).toNatClampNeg), .int (gxs G (x3 + 2).toNatClampNeg)]) (st := []) (c := 10) (ls' := [.ref 0, .int (gxs G (x3 + 1).toNatClampNeg), .int (gxs G (x3 + 2).toNatClampNeg)]) dL_law_959 oX10_told nX10_told lL_110 vX10_told sX10_told rfl sh0 (Nat.le_of_ble_eq_true rfl) rfl (Nat.le_of_ble_eq_true rfl) rfl ?_
      exact p75 c1 c25
    by_cases c26 : ((gxs G x3.toNatClampNeg) &&& 31) = 23
    · refine wp_tableIn (M := mL_law) (pc := 33) (t := 981) (off := 948) dL_law_33 (by rw [c26] <;> decide) (by rw [c26] <;> decide) (by rw [c26] <;> rfl) (by decide) ?_
      refine wp_aload_n (M := mL_law) (pc := 981) dL_law_981 rfl rfl ?_
      refine wp_aload_s (M := mL_law) (pc := 982) dL_law_982 rfl rfl ?_
      refine wp_iload_n (M := mL_law) (pc := 983) dL_law_983 rfl rfl ?_
      refine wp_iconst (M := mL_law) (pc := 984) dL_law_984 k_iconst_1 ?_
      refine wp_iadd (M := mL_law) (pc := 985) dL_law_985 ?_
      refine wp_sld (M := mL_law) (pc := 986) dL_law_986 (p76 c1 c26) ?_
      refine wp_aload_s (M := mL_law) (pc := 987) dL_law_987 rfl rfl ?_
      refine wp_iload_n (M := mL_law) (pc := 988) dL_law_988 rfl rfl ?_
      refine wp_iconst (M := mL_law) (pc := 989) dL_law_989 k_iconst_2 ?_
      refine wp_iadd (M := mL_law) (pc := 990) dL_law_990 ?_
      refine wp_sld (M := mL_law) (pc := 991) dL_law_991 (p77 c1 c26) ?_
      refine wp_aload_s (M := mL_law) (pc := 992) dL_law_992 rfl rfl ?_
      refine wp_iload_n (M := mL_law) (pc := 993) dL_law_993 rfl rfl ?_
      refine wp_iconst (M := mL_law) (pc := 994) dL_law_994 k_iconst_3 ?_
      refine wp_iadd (M := mL_law) (pc := 995) dL_law_995 ?_
      refine wp_sld (M := mL_law) (pc := 996) dL_law_996 (p78 c1 c26) ?_
      refine wp_if_eq (M := mL_law) (pc := 997) (t := 1004) dL_law_997 (by decide) (fun c27 => ?_) (fun c27 => ?_)
      · refine wp_iconst (M := mL_law) (pc := 1004) dL_law_1004 k_iconst_0 ?_
        refine wp_aload_s (M := mL_law) (pc := 1005) dL_law_1005 rfl rfl ?_
        refine wp_iload_n (M := mL_law) (pc := 1006) dL_law_1006 rfl rfl ?_
        refine wp_iconst (M := mL_law) (pc := 1007) dL_law_1007 k_iconst_4 ?_
        refine wp_iadd (M := mL_law) (pc := 1008) dL_law_1008 ?_
        refine wp_sld (M := mL_law) (pc := 1009) dL_law_1009 (p79 c1 c26 c27) ?_
        refine xs_callV (d := d + 13) (M := mL_law) (pc := 1010) (As := [.int (gxs G (x3 + 1).toNatClampNeg), .int (gxs G (x3 + 2).toNatClampNeg), .int 0, .int (gxs G (x3 + 4).toNatClampNeg)]) (st := []) (c := 10) (ls' := [.ref 0, .int (gxs G (x3 + 1).toNatClampNeg), .int (gxs G (x3 + 2).toNatClampNeg), .int 0, .int (gxs G (x3 + 4).toNatClampNeg)]) dL_law_1010 oX10_epitaph nX10_epitaph lL_114 vX10_epitaph sX10_epitaph rfl sh0 (Nat.le_of_ble_eq_true rfl) rfl (Nat.le_of_ble_eq_true rfl) rfl ?_
        exact p80 c1 c26 c27
      · refine wp_iconst (M := mL_law) (pc := 1000) dL_law_1000 k_iconst_1 ?_
        refine wp_goto (M := mL_law) (pc := 1001) (t := 1005) dL_law_1001 (by decide) ?_
        refine wp_aload_s (M := mL_law) (pc := 1005) dL_law_1005 rfl rfl ?_
        refine wp_iload_n (M := mL_law) (pc := 1006) dL_law_1006 rfl rfl ?_
        refine wp_iconst (M := mL_law) (pc := 1007) dL_law_1007 k_iconst_4 ?_
        refine wp_iadd (M := mL_law) (pc := 1008) dL_law_1008 ?_
        refine wp_sld (M := mL_law) (pc := 1009) dL_law_1009 (p81 c1 c26 c27) ?_
        refine xs_callV (d := d + 13) (M := mL_law) (pc := 1010) (As := [.int (gxs G (x3 + 1).toNatClampNeg), .int (gxs G (x3 + 2).toNatClampNeg), .int 1, .int (gxs G (x3 + 4).toNatClampNeg)]) (st := []) (c := 10) (ls' := [.ref 0, .int (gxs G (x3 + 1).toNatClampNeg), .int (gxs G (x3 + 2).toNatClampNeg), .int 1, .int (gxs G (x3 + 4).toNatClampNeg)]) dL_law_1010 oX10_epitaph nX10_epitaph lL_114 vX10_epitaph sX10_epitaph rfl sh0 (Nat.le_of_ble_eq_true rfl) rfl (Nat.le_of_ble_eq_true rfl) rfl ?_
        exact p82 c1 c26 c27
    by_cases c28 : ((gxs G x3.toNatClampNeg) &&& 31) = 24
    · refine wp_tableIn (M := mL_law) (pc := 33) (t := 1050) (off := 1017) dL_law_33 (by rw [c28] <;> decide) (by rw [c28] <;> decide) (by rw [c28] <;> rfl) (by decide) ?_
      refine wp_aload_n (M := mL_law) (pc := 1050) dL_law_1050 rfl rfl ?_
      refine wp_aload_s (M := mL_law) (pc := 1051) dL_law_1051 rfl rfl ?_
      refine wp_iload_n (M := mL_law) (pc := 1052) dL_law_1052 rfl rfl ?_
      refine wp_iconst (M := mL_law) (pc := 1053) dL_law_1053 k_iconst_1 ?_
      refine wp_iadd (M := mL_law) (pc := 1054) dL_law_1054 ?_
      refine wp_sld (M := mL_law) (pc := 1055) dL_law_1055 (p83 c1 c28) ?_
      refine wp_aload_s (M := mL_law) (pc := 1056) dL_law_1056 rfl rfl ?_
      refine wp_iload_n (M := mL_law) (pc := 1057) dL_law_1057 rfl rfl ?_
      refine wp_iconst (M := mL_law) (pc := 1058) dL_law_1058 k_iconst_2 ?_
      refine wp_iadd (M := mL_law) (pc := 1059) dL_law_1059 ?_
      refine wp_sld (M := mL_law) (pc := 1060) dL_law_1060 (p84 c1 c28) ?_
      refine xs_callV (d := d + 13) (M := mL_law) (pc := 1061) (As := [.int (gxs G (x3 + 1).toNatClampNeg), .int (gxs G (x3 + 2).toNatClampNeg)]) (st := []) (c := 10) (ls' := [.ref 0, .int (gxs G (x3 + 1).toNatClampNeg), .int (gxs G (x3 + 2).toNatClampNeg), .null, .null]) dL_law_1061 oX10_dialled nX10_dialled lL_119 vX10_dialled sX10_dialled rfl sh0 (Nat.le_of_ble_eq_true rfl) rfl (Nat.le_of_ble_eq_true rfl) rfl ?_
      exact p85 c1 c28
    by_cases c29 : ((gxs G x3.toNatClampNeg) &&& 31) = 25
    · refine wp_tableIn (M := mL_law) (pc := 33) (t := 1083) (off := 1050) dL_law_33 (by rw [c29] <;> decide) (by rw [c29] <;> decide) (by rw [c29] <;> rfl) (by decide) ?_
      refine wp_aload_n (M := mL_law) (pc := 1083) dL_law_1083 rfl rfl ?_
      refine xs_callV (d := d + 13) (M := mL_law) (pc := 1084) (As := []) (st := []) (c := 10) (ls' := [.ref 0]) dL_law_1084 oX10_clear nX10_clear lL_123 vX10_clear sX10_clear rfl sh0 (Nat.le_of_ble_eq_true rfl) rfl (Nat.le_of_ble_eq_true rfl) rfl ?_
      exact p86 c1 c29
    by_cases c30 : ((gxs G x3.toNatClampNeg) &&& 31) = 26
    · refine wp_tableIn (M := mL_law) (pc := 33) (t := 1096) (off := 1063) dL_law_33 (by rw [c30] <;> decide) (by rw [c30] <;> decide) (by rw [c30] <;> rfl) (by decide) ?_
      refine wp_aload_n (M := mL_law) (pc := 1096) dL_law_1096 rfl rfl ?_
      refine wp_aload_s (M := mL_law) (pc := 1097) dL_law_1097 rfl rfl ?_
      refine wp_iload_n (M := mL_law) (pc := 1098) dL_law_1098 rfl rfl ?_
      refine wp_iconst (M := mL_law) (pc := 1099) dL_law_1099 k_iconst_1 ?_
      refine wp_iadd (M := mL_law) (pc := 1100) dL_law_1100 ?_
      refine wp_sld (M := mL_law) (pc := 1101) dL_law_1101 (p87 c1 c30) ?_
      refine xs_callV (d := d + 13) (M := mL_law) (pc := 1102) (As := [.int (gxs G (x3 + 1).toNatClampNeg)]) (st := []) (c := 10) (ls' := [.ref 0, .int (gxs G (x3 + 1).toNatClampNeg)]) dL_law_1102 oX10_freeCode nX10_freeCode lL_127 vX10_freeCode sX10_freeCode rfl sh0 (Nat.le_of_ble_eq_true rfl) rfl (Nat.le_of_ble_eq_true rfl) rfl ?_
      exact p88 c1 c30
    by_cases c31 : ((gxs G x3.toNatClampNeg) &&& 31) = 27
    · refine wp_tableIn (M := mL_law) (pc := 33) (t := 1119) (off := 1086) dL_law_33 (by rw [c31] <;> decide) (by rw [c31] <;> decide) (by rw [c31] <;> rfl) (by decide) ?_
      refine wp_aload_n (M := mL_law) (pc := 1119) dL_law_1119 rfl rfl ?_
      refine wp_aload_s (M := mL_law) (pc := 1120) dL_law_1120 rfl rfl ?_
      refine wp_iload_n (M := mL_law) (pc := 1121) dL_law_1121 rfl rfl ?_
      refine wp_iconst (M := mL_law) (pc := 1122) dL_law_1122 k_iconst_1 ?_
      refine wp_iadd (M := mL_law) (pc := 1123) dL_law_1123 ?_
      refine wp_sld (M := mL_law) (pc := 1124) dL_law_1124 (p89 c1 c31) ?_
      refine xs_callV (d := d + 13) (M := mL_law) (pc := 1125) (As := [.int (gxs G (x3 + 1).toNatClampNeg)]) (st := []) (c := 10) (ls' := [.ref 0, .int (gxs G (x3 + 1).toNatClampNeg)]) dL_law_1125 oX10_seed nX10_seed lL_131 vX10_seed sX10_seed rfl sh0 (Nat.le_of_ble_eq_true rfl) rfl (Nat.le_of_ble_eq_true rfl) rfl ?_
      exact p90 c1 c31
    by_cases c32 : ((gxs G x3.toNatClampNeg) &&& 31) = 28
    · refine wp_tableIn (M := mL_law) (pc := 33) (t := 1142) (off := 1109) dL_law_33 (by rw [c32] <;> decide) (by rw [c32] <;> decide) (by rw [c32] <;> rfl) (by decide) ?_
      refine wp_aload_n (M := mL_law) (pc := 1142) dL_law_1142 rfl rfl ?_
      refine xs_callV (d := d + 13) (M := mL_law) (pc := 1143) (As := []) (st := []) (c := 10) (ls' := [.ref 0]) dL_law_1143 oX10_keep nX10_keep lL_135 vX10_keep sX10_keep rfl sh0 (Nat.le_of_ble_eq_true rfl) rfl (Nat.le_of_ble_eq_true rfl) rfl ?_
      exact p91 c1 c32
    by_cases c33 : ((gxs G x3.toNatClampNeg) &&& 31) = 29
    · refine wp_tableIn (M := mL_law) (pc := 33) (t := 1155) (off := 1122) dL_law_33 (by rw [c33] <;> decide) (by rw [c33] <;> decide) (by rw [c33] <;> rfl) (by decide) ?_
      refine wp_aload_n (M := mL_law) (pc := 1155) dL_law_1155 rfl rfl ?_
      refine xs_callV (d := d + 13) (M := mL_law) (pc := 1156) (As := []) (st := []) (c := 10) (ls' := [.ref 0]) dL_law_1156 oX10_undo nX10_undo lL_139 vX10_undo sX10_undo rfl sh0 (Nat.le_of_ble_eq_true rfl) rfl (Nat.le_of_ble_eq_true rfl) rfl ?_
      exact p92 c1 c33
    by_cases c34 : ((gxs G x3.toNatClampNeg) &&& 31) = 30
    · refine wp_tableIn (M := mL_law) (pc := 33) (t := 1168) (off := 1135) dL_law_33 (by rw [c34] <;> decide) (by rw [c34] <;> decide) (by rw [c34] <;> rfl) (by decide) ?_
      refine wp_aload_n (M := mL_law) (pc := 1168) dL_law_1168 rfl rfl ?_
      refine wp_aload_s (M := mL_law) (pc := 1169) dL_law_1169 rfl rfl ?_
      refine wp_iload_n (M := mL_law) (pc := 1170) dL_law_1170 rfl rfl ?_
      refine wp_iconst (M := mL_law) (pc := 1171) dL_law_1171 k_iconst_1 ?_
      refine wp_iadd (M := mL_law) (pc := 1172) dL_law_1172 ?_
      refine wp_sld (M := mL_law) (pc := 1173) dL_law_1173 (p93 c1 c34) ?_
      refine xs_callV (d := d + 13) (M := mL_law) (pc := 1174) (As := [.int (gxs G (x3 + 1).toNatClampNeg)]) (st := []) (c := 10) (ls' := [.ref 0, .int (gxs G (x3 + 1).toNatClampNeg), .null]) dL_law_1174 oX10_check nX10_check lL_144 vX10_check sX10_check rfl sh0 (Nat.le_of_ble_eq_true rfl) rfl (Nat.le_of_ble_eq_true rfl) rfl ?_
      exact p94 c1 c34
    by_cases c35 : ((gxs G x3.toNatClampNeg) &&& 31) = 31
    · refine wp_tableIn (M := mL_law) (pc := 33) (t := 1191) (off := 1158) dL_law_33 (by rw [c35] <;> decide) (by rw [c35] <;> decide) (by rw [c35] <;> rfl) (by decide) ?_
      refine wp_aload_n (M := mL_law) (pc := 1191) dL_law_1191 rfl rfl ?_
      refine wp_aload_s (M := mL_law) (pc := 1192) dL_law_1192 rfl rfl ?_
      refine wp_iload_n (M := mL_law) (pc := 1193) dL_law_1193 rfl rfl ?_
      refine wp_iconst (M := mL_law) (pc := 1194) dL_law_1194 k_iconst_1 ?_
      refine wp_iadd (M := mL_law) (pc := 1195) dL_law_1195 ?_
      refine wp_sld (M := mL_law) (pc := 1196) dL_law_1196 (p95 c1 c35) ?_
      refine xs_callV (d := d + 13) (M := mL_law) (pc := 1197) (As := [.int (gxs G (x3 + 1).toNatClampNeg)]) (st := []) (c := 10) (ls' := [.ref 0, .int (gxs G (x3 + 1).toNatClampNeg)]) dL_law_1197 oX10_count nX10_count lL_148 vX10_count sX10_count rfl sh0 (Nat.le_of_ble_eq_true rfl) rfl (Nat.le_of_ble_eq_true rfl) rfl ?_
      exact p96 c1 c35
    refine wp_tableOut (M := mL_law) (pc := 33) (t := 1214) dL_law_33 (tbl_out (fun q h1 h2 z => by
        have hq : q = 0 ∨ q = 1 ∨ q = 2 ∨ q = 3 ∨ q = 4 ∨ q = 5 ∨ q = 6 ∨ q = 7 ∨ q = 8 ∨ q = 9 ∨ q = 10 ∨ q = 11 ∨ q = 12 ∨ q = 13 ∨ q = 14 ∨ q = 15 ∨ q = 16 ∨ q = 17 ∨ q = 18 ∨ q = 19 ∨ q = 20 ∨ q = 21 ∨ q = 22 ∨ q = 23 ∨ q = 24 ∨ q = 25 ∨ q = 26 ∨ q = 27 ∨ q = 28 ∨ q = 29 ∨ q = 30 ∨ q = 31 := by omega
        rcases hq with rfl | rfl | rfl | rfl | rfl | rfl | rfl | rfl | rfl | rfl | rfl | rfl | rfl | rfl | rfl | rfl | rfl | rfl | rfl | rfl | rfl | rfl | rfl | rfl | rfl | rfl | rfl | rfl | rfl | rfl | rfl | rfl
        · exact c2 (Int32.toInt_inj.mp (by rw [z]; rfl))
        · exact c3 (Int32.toInt_inj.mp (by rw [z]; rfl))
        · exact c5 (Int32.toInt_inj.mp (by rw [z]; rfl))
        · exact c6 (Int32.toInt_inj.mp (by rw [z]; rfl))
        · exact c7 (Int32.toInt_inj.mp (by rw [z]; rfl))
        · exact c8 (Int32.toInt_inj.mp (by rw [z]; rfl))
        · exact c9 (Int32.toInt_inj.mp (by rw [z]; rfl))
        · exact c10 (Int32.toInt_inj.mp (by rw [z]; rfl))
        · exact c11 (Int32.toInt_inj.mp (by rw [z]; rfl))
        · exact c12 (Int32.toInt_inj.mp (by rw [z]; rfl))
        · exact c13 (Int32.toInt_inj.mp (by rw [z]; rfl))
        · exact c14 (Int32.toInt_inj.mp (by rw [z]; rfl))
        · exact c15 (Int32.toInt_inj.mp (by rw [z]; rfl))
        · exact c16 (Int32.toInt_inj.mp (by rw [z]; rfl))
        · exact c17 (Int32.toInt_inj.mp (by rw [z]; rfl))
        · exact c18 (Int32.toInt_inj.mp (by rw [z]; rfl))
        · exact c19 (Int32.toInt_inj.mp (by rw [z]; rfl))
        · exact c20 (Int32.toInt_inj.mp (by rw [z]; rfl))
        · exact c21 (Int32.toInt_inj.mp (by rw [z]; rfl))
        · exact c22 (Int32.toInt_inj.mp (by rw [z]; rfl))
        · exact c23 (Int32.toInt_inj.mp (by rw [z]; rfl))
        · exact c24 (Int32.toInt_inj.mp (by rw [z]; rfl))
        · exact c25 (Int32.toInt_inj.mp (by rw [z]; rfl))
        · exact c26 (Int32.toInt_inj.mp (by rw [z]; rfl))
        · exact c28 (Int32.toInt_inj.mp (by rw [z]; rfl))
        · exact c29 (Int32.toInt_inj.mp (by rw [z]; rfl))
        · exact c30 (Int32.toInt_inj.mp (by rw [z]; rfl))
        · exact c31 (Int32.toInt_inj.mp (by rw [z]; rfl))
        · exact c32 (Int32.toInt_inj.mp (by rw [z]; rfl))
        · exact c33 (Int32.toInt_inj.mp (by rw [z]; rfl))
        · exact c34 (Int32.toInt_inj.mp (by rw [z]; rfl))
        · exact c35 (Int32.toInt_inj.mp (by rw [z]; rfl))
        )) (by decide) ?_
    exact p97 c1 c2 c3 c5 c6 c7 c8 c9 c10 c11 c12 c13 c14 c15 c16 c17 c18 c19 c20 c21 c22 c23 c24 c25 c26 c28 c29 c30 c31 c32 c33 c34 c35
theorem bL_law_195 {G : GC} {d : Nat} {sw : Bool} {f : FF} {Q : QQ} {x3 : Int32} {s0 : Int32} (p1 : vp_in (x3 + 1) (gL G)) (p2 : vp_in (x3 + 2) (gL G)) (p3 : vp_in (x3 + 3) (gL G)) (p4 : XP G mX11_trunk (d + 13) 0 [.ref 82, .int (gxs G (x3 + 1).toNatClampNeg), .int (gxs G (x3 + 2).toNatClampNeg), .int (gxs G (x3 + 3).toNatClampNeg)] [] sw f (fun v sw' f' => XP G mL_law (d + 14) 214 [.retAddr 0, .ref 0, .ref 82, .int x3] (retst v [.int s0]) sw' f' Q)) : XP G mL_law (d + 14) 195 [.retAddr 0, .ref 0, .ref 82, .int x3] [.int s0] sw f Q := by
  refine wp_aload_n (M := mL_law) (pc := 195) dL_law_195 rfl rfl ?_
  refine wp_aload_s (M := mL_law) (pc := 196) dL_law_196 rfl rfl ?_
  refine wp_iload_n (M := mL_law) (pc := 197) dL_law_197 rfl rfl ?_
  refine wp_iconst (M := mL_law) (pc := 198) dL_law_198 k_iconst_1 ?_
  refine wp_iadd (M := mL_law) (pc := 199) dL_law_199 ?_
  refine wp_sld (M := mL_law) (pc := 200) dL_law_200 (p1) ?_
  refine wp_aload_s (M := mL_law) (pc := 201) dL_law_201 rfl rfl ?_
  refine wp_iload_n (M := mL_law) (pc := 202) dL_law_202 rfl rfl ?_
  refine wp_iconst (M := mL_law) (pc := 203) dL_law_203 k_iconst_2 ?_
  refine wp_iadd (M := mL_law) (pc := 204) dL_law_204 ?_
  refine wp_sld (M := mL_law) (pc := 205) dL_law_205 (p2) ?_
  refine wp_aload_s (M := mL_law) (pc := 206) dL_law_206 rfl rfl ?_
  refine wp_iload_n (M := mL_law) (pc := 207) dL_law_207 rfl rfl ?_
  refine wp_iconst (M := mL_law) (pc := 208) dL_law_208 k_iconst_3 ?_
  refine wp_iadd (M := mL_law) (pc := 209) dL_law_209 ?_
  refine wp_sld (M := mL_law) (pc := 210) dL_law_210 (p3) ?_
  refine xs_callV (d := d + 13) (M := mL_law) (pc := 211) (As := [.int (gxs G (x3 + 1).toNatClampNeg), .int (gxs G (x3 + 2).toNatClampNeg), .int (gxs G (x3 + 3).toNatClampNeg)]) (st := [.int s0]) (c := 11) (ls' := [.ref 82, .int (gxs G (x3 + 1).toNatClampNeg), .int (gxs G (x3 + 2).toNatClampNeg), .int (gxs G (x3 + 3).toNatClampNeg)]) dL_law_211 oX11_trunk nX11_trunk lL_17 vX11_trunk sX11_trunk rfl sh82 (Nat.le_of_ble_eq_true rfl) rfl (Nat.le_of_ble_eq_true rfl) rfl ?_
  exact p4
theorem bL_law_214 {G : GC} {d : Nat} {sw : Bool} {f : FF} {Q : QQ} {x3 : Int32} {s0 : Int32} {s1 : Int32} (p1 : (s1 = s0) → XP G mL_law (d + 14) 1214 [.retAddr 0, .ref 0, .ref 82, .int x3] [] sw f Q) (p2 : (¬ s1 = s0) → Q (some (.int 0)) sw f) : XP G mL_law (d + 14) 214 [.retAddr 0, .ref 0, .ref 82, .int x3] [.int s0, .int s1] sw f Q := by
  refine wp_icmp_eq (M := mL_law) (pc := 214) (t := 1214) dL_law_214 (by decide) (fun c1 => ?_) (fun c1 => ?_)
  · exact p1 c1
  · refine wp_iconst (M := mL_law) (pc := 217) dL_law_217 k_iconst_0 ?_
    exact xs_zret (M := mL_law) (pc := 218) dL_law_218 rfl (by decide) (p2 c1)
theorem bL_law_246 {G : GC} {d : Nat} {sw : Bool} {f : FF} {Q : QQ} {x3 : Int32} {s0 : Int32} (p1 : vp_in (x3 + 1) (gL G)) (p2 : vp_in (x3 + 2) (gL G)) (p3 : vp_in (x3 + 3) (gL G)) (p4 : ((gxs G (x3 + 3).toNatClampNeg) = 0) → XP G mX11_subscriber (d + 13) 0 [.ref 82, .int (gxs G (x3 + 1).toNatClampNeg), .int (gxs G (x3 + 2).toNatClampNeg), .int 0] [] sw f (fun v sw' f' => XP G mL_law (d + 14) 273 [.retAddr 0, .ref 0, .ref 82, .int x3] (retst v [.int s0]) sw' f' Q)) (p5 : (¬ (gxs G (x3 + 3).toNatClampNeg) = 0) → XP G mX11_subscriber (d + 13) 0 [.ref 82, .int (gxs G (x3 + 1).toNatClampNeg), .int (gxs G (x3 + 2).toNatClampNeg), .int 1] [] sw f (fun v sw' f' => XP G mL_law (d + 14) 273 [.retAddr 0, .ref 0, .ref 82, .int x3] (retst v [.int s0]) sw' f' Q)) : XP G mL_law (d + 14) 246 [.retAddr 0, .ref 0, .ref 82, .int x3] [.int s0] sw f Q := by
  refine wp_aload_n (M := mL_law) (pc := 246) dL_law_246 rfl rfl ?_
  refine wp_aload_s (M := mL_law) (pc := 247) dL_law_247 rfl rfl ?_
  refine wp_iload_n (M := mL_law) (pc := 248) dL_law_248 rfl rfl ?_
  refine wp_iconst (M := mL_law) (pc := 249) dL_law_249 k_iconst_1 ?_
  refine wp_iadd (M := mL_law) (pc := 250) dL_law_250 ?_
  refine wp_sld (M := mL_law) (pc := 251) dL_law_251 (p1) ?_
  refine wp_aload_s (M := mL_law) (pc := 252) dL_law_252 rfl rfl ?_
  refine wp_iload_n (M := mL_law) (pc := 253) dL_law_253 rfl rfl ?_
  refine wp_iconst (M := mL_law) (pc := 254) dL_law_254 k_iconst_2 ?_
  refine wp_iadd (M := mL_law) (pc := 255) dL_law_255 ?_
  refine wp_sld (M := mL_law) (pc := 256) dL_law_256 (p2) ?_
  refine wp_aload_s (M := mL_law) (pc := 257) dL_law_257 rfl rfl ?_
  refine wp_iload_n (M := mL_law) (pc := 258) dL_law_258 rfl rfl ?_
  refine wp_iconst (M := mL_law) (pc := 259) dL_law_259 k_iconst_3 ?_
  refine wp_iadd (M := mL_law) (pc := 260) dL_law_260 ?_
  refine wp_sld (M := mL_law) (pc := 261) dL_law_261 (p3) ?_
  refine wp_if_eq (M := mL_law) (pc := 262) (t := 269) dL_law_262 (by decide) (fun c1 => ?_) (fun c1 => ?_)
  · refine wp_iconst (M := mL_law) (pc := 269) dL_law_269 k_iconst_0 ?_
    refine xs_callV (d := d + 13) (M := mL_law) (pc := 270) (As := [.int (gxs G (x3 + 1).toNatClampNeg), .int (gxs G (x3 + 2).toNatClampNeg), .int 0]) (st := [.int s0]) (c := 11) (ls' := [.ref 82, .int (gxs G (x3 + 1).toNatClampNeg), .int (gxs G (x3 + 2).toNatClampNeg), .int 0]) dL_law_270 oX11_subscriber nX11_subscriber lL_22 vX11_subscriber sX11_subscriber rfl sh82 (Nat.le_of_ble_eq_true rfl) rfl (Nat.le_of_ble_eq_true rfl) rfl ?_
    exact p4 c1
  · refine wp_iconst (M := mL_law) (pc := 265) dL_law_265 k_iconst_1 ?_
    refine wp_goto (M := mL_law) (pc := 266) (t := 270) dL_law_266 (by decide) ?_
    refine xs_callV (d := d + 13) (M := mL_law) (pc := 270) (As := [.int (gxs G (x3 + 1).toNatClampNeg), .int (gxs G (x3 + 2).toNatClampNeg), .int 1]) (st := [.int s0]) (c := 11) (ls' := [.ref 82, .int (gxs G (x3 + 1).toNatClampNeg), .int (gxs G (x3 + 2).toNatClampNeg), .int 1]) dL_law_270 oX11_subscriber nX11_subscriber lL_22 vX11_subscriber sX11_subscriber rfl sh82 (Nat.le_of_ble_eq_true rfl) rfl (Nat.le_of_ble_eq_true rfl) rfl ?_
    exact p5 c1
theorem bL_law_273 {G : GC} {d : Nat} {sw : Bool} {f : FF} {Q : QQ} {x3 : Int32} {s0 : Int32} {s1 : Int32} (p1 : (s1 = s0) → XP G mL_law (d + 14) 1214 [.retAddr 0, .ref 0, .ref 82, .int x3] [] sw f Q) (p2 : (¬ s1 = s0) → Q (some (.int 0)) sw f) : XP G mL_law (d + 14) 273 [.retAddr 0, .ref 0, .ref 82, .int x3] [.int s0, .int s1] sw f Q := by
  refine wp_icmp_eq (M := mL_law) (pc := 273) (t := 1214) dL_law_273 (by decide) (fun c1 => ?_) (fun c1 => ?_)
  · exact p1 c1
  · refine wp_iconst (M := mL_law) (pc := 276) dL_law_276 k_iconst_0 ?_
    exact xs_zret (M := mL_law) (pc := 277) dL_law_277 rfl (by decide) (p2 c1)
theorem bL_law_287 {G : GC} {d : Nat} {sw : Bool} {f : FF} {Q : QQ} {x3 : Int32} {s0 : Int32} (p1 : vp_in (x3 + 1) (gL G)) (p2 : XP G mX11_fund (d + 13) 0 [.ref 82, .int (gxs G (x3 + 1).toNatClampNeg)] [] sw f (fun v sw' f' => XP G mL_law (d + 14) 296 [.retAddr 0, .ref 0, .ref 82, .int x3] (retst v [.int s0]) sw' f' Q)) : XP G mL_law (d + 14) 287 [.retAddr 0, .ref 0, .ref 82, .int x3] [.int s0] sw f Q := by
  refine wp_aload_n (M := mL_law) (pc := 287) dL_law_287 rfl rfl ?_
  refine wp_aload_s (M := mL_law) (pc := 288) dL_law_288 rfl rfl ?_
  refine wp_iload_n (M := mL_law) (pc := 289) dL_law_289 rfl rfl ?_
  refine wp_iconst (M := mL_law) (pc := 290) dL_law_290 k_iconst_1 ?_
  refine wp_iadd (M := mL_law) (pc := 291) dL_law_291 ?_
  refine wp_sld (M := mL_law) (pc := 292) dL_law_292 (p1) ?_
  refine xs_callV (d := d + 13) (M := mL_law) (pc := 293) (As := [.int (gxs G (x3 + 1).toNatClampNeg)]) (st := [.int s0]) (c := 11) (ls' := [.ref 82, .int (gxs G (x3 + 1).toNatClampNeg)]) dL_law_293 oX11_fund nX11_fund lL_27 vX11_fund sX11_fund rfl sh82 (Nat.le_of_ble_eq_true rfl) rfl (Nat.le_of_ble_eq_true rfl) rfl ?_
  exact p2
theorem bL_law_296 {G : GC} {d : Nat} {sw : Bool} {f : FF} {Q : QQ} {x3 : Int32} {s0 : Int32} {s1 : Int32} (p1 : (s1 = s0) → XP G mL_law (d + 14) 1214 [.retAddr 0, .ref 0, .ref 82, .int x3] [] sw f Q) (p2 : (¬ s1 = s0) → Q (some (.int 0)) sw f) : XP G mL_law (d + 14) 296 [.retAddr 0, .ref 0, .ref 82, .int x3] [.int s0, .int s1] sw f Q := by
  refine wp_icmp_eq (M := mL_law) (pc := 296) (t := 1214) dL_law_296 (by decide) (fun c1 => ?_) (fun c1 => ?_)
  · exact p1 c1
  · refine wp_iconst (M := mL_law) (pc := 299) dL_law_299 k_iconst_0 ?_
    exact xs_zret (M := mL_law) (pc := 300) dL_law_300 rfl (by decide) (p2 c1)
theorem bL_law_315 {G : GC} {d : Nat} {sw : Bool} {f : FF} {Q : QQ} {x3 : Int32} {s0 : Int32} (p1 : vp_in (x3 + 1) (gL G)) (p2 : vp_in (x3 + 2) (gL G)) (p3 : XP G mX11_rate (d + 13) 0 [.ref 82, .int (gxs G (x3 + 1).toNatClampNeg), .int (gxs G (x3 + 2).toNatClampNeg)] [] sw f (fun v sw' f' => XP G mL_law (d + 14) 329 [.retAddr 0, .ref 0, .ref 82, .int x3] (retst v [.int s0]) sw' f' Q)) : XP G mL_law (d + 14) 315 [.retAddr 0, .ref 0, .ref 82, .int x3] [.int s0] sw f Q := by
  refine wp_aload_n (M := mL_law) (pc := 315) dL_law_315 rfl rfl ?_
  refine wp_aload_s (M := mL_law) (pc := 316) dL_law_316 rfl rfl ?_
  refine wp_iload_n (M := mL_law) (pc := 317) dL_law_317 rfl rfl ?_
  refine wp_iconst (M := mL_law) (pc := 318) dL_law_318 k_iconst_1 ?_
  refine wp_iadd (M := mL_law) (pc := 319) dL_law_319 ?_
  refine wp_sld (M := mL_law) (pc := 320) dL_law_320 (p1) ?_
  refine wp_aload_s (M := mL_law) (pc := 321) dL_law_321 rfl rfl ?_
  refine wp_iload_n (M := mL_law) (pc := 322) dL_law_322 rfl rfl ?_
  refine wp_iconst (M := mL_law) (pc := 323) dL_law_323 k_iconst_2 ?_
  refine wp_iadd (M := mL_law) (pc := 324) dL_law_324 ?_
  refine wp_sld (M := mL_law) (pc := 325) dL_law_325 (p2) ?_
  refine xs_callV (d := d + 13) (M := mL_law) (pc := 326) (As := [.int (gxs G (x3 + 1).toNatClampNeg), .int (gxs G (x3 + 2).toNatClampNeg)]) (st := [.int s0]) (c := 11) (ls' := [.ref 82, .int (gxs G (x3 + 1).toNatClampNeg), .int (gxs G (x3 + 2).toNatClampNeg)]) dL_law_326 oX11_rate nX11_rate lL_32 vX11_rate sX11_rate rfl sh82 (Nat.le_of_ble_eq_true rfl) rfl (Nat.le_of_ble_eq_true rfl) rfl ?_
  exact p3
theorem bL_law_329 {G : GC} {d : Nat} {sw : Bool} {f : FF} {Q : QQ} {x3 : Int32} {s0 : Int32} {s1 : Int32} (p1 : (s1 = s0) → XP G mL_law (d + 14) 1214 [.retAddr 0, .ref 0, .ref 82, .int x3] [] sw f Q) (p2 : (¬ s1 = s0) → Q (some (.int 0)) sw f) : XP G mL_law (d + 14) 329 [.retAddr 0, .ref 0, .ref 82, .int x3] [.int s0, .int s1] sw f Q := by
  refine wp_icmp_eq (M := mL_law) (pc := 329) (t := 1214) dL_law_329 (by decide) (fun c1 => ?_) (fun c1 => ?_)
  · exact p1 c1
  · refine wp_iconst (M := mL_law) (pc := 332) dL_law_332 k_iconst_0 ?_
    exact xs_zret (M := mL_law) (pc := 333) dL_law_333 rfl (by decide) (p2 c1)
theorem bL_law_363 {G : GC} {d : Nat} {sw : Bool} {f : FF} {Q : QQ} {x3 : Int32} {s0 : Int32} (p1 : vp_in (x3 + 1) (gL G)) (p2 : vp_in (x3 + 2) (gL G)) (p3 : vp_in (x3 + 3) (gL G)) (p4 : vp_in (x3 + 4) (gL G)) (p5 : vp_in (x3 + 5) (gL G)) (p6 : XP G mX11_feed (d + 13) 0 [.ref 82, .int (gxs G (x3 + 1).toNatClampNeg), .int (gxs G (x3 + 2).toNatClampNeg), .int (gxs G (x3 + 3).toNatClampNeg), .int (gxs G (x3 + 4).toNatClampNeg), .int (gxs G (x3 + 5).toNatClampNeg)] [] sw f (fun v sw' f' => XP G mL_law (d + 14) 392 [.retAddr 0, .ref 0, .ref 82, .int x3] (retst v [.int s0]) sw' f' Q)) : XP G mL_law (d + 14) 363 [.retAddr 0, .ref 0, .ref 82, .int x3] [.int s0] sw f Q := by
  refine wp_aload_n (M := mL_law) (pc := 363) dL_law_363 rfl rfl ?_
  refine wp_aload_s (M := mL_law) (pc := 364) dL_law_364 rfl rfl ?_
  refine wp_iload_n (M := mL_law) (pc := 365) dL_law_365 rfl rfl ?_
  refine wp_iconst (M := mL_law) (pc := 366) dL_law_366 k_iconst_1 ?_
  refine wp_iadd (M := mL_law) (pc := 367) dL_law_367 ?_
  refine wp_sld (M := mL_law) (pc := 368) dL_law_368 (p1) ?_
  refine wp_aload_s (M := mL_law) (pc := 369) dL_law_369 rfl rfl ?_
  refine wp_iload_n (M := mL_law) (pc := 370) dL_law_370 rfl rfl ?_
  refine wp_iconst (M := mL_law) (pc := 371) dL_law_371 k_iconst_2 ?_
  refine wp_iadd (M := mL_law) (pc := 372) dL_law_372 ?_
  refine wp_sld (M := mL_law) (pc := 373) dL_law_373 (p2) ?_
  refine wp_aload_s (M := mL_law) (pc := 374) dL_law_374 rfl rfl ?_
  refine wp_iload_n (M := mL_law) (pc := 375) dL_law_375 rfl rfl ?_
  refine wp_iconst (M := mL_law) (pc := 376) dL_law_376 k_iconst_3 ?_
  refine wp_iadd (M := mL_law) (pc := 377) dL_law_377 ?_
  refine wp_sld (M := mL_law) (pc := 378) dL_law_378 (p3) ?_
  refine wp_aload_s (M := mL_law) (pc := 379) dL_law_379 rfl rfl ?_
  refine wp_iload_n (M := mL_law) (pc := 380) dL_law_380 rfl rfl ?_
  refine wp_iconst (M := mL_law) (pc := 381) dL_law_381 k_iconst_4 ?_
  refine wp_iadd (M := mL_law) (pc := 382) dL_law_382 ?_
  refine wp_sld (M := mL_law) (pc := 383) dL_law_383 (p4) ?_
  refine wp_aload_s (M := mL_law) (pc := 384) dL_law_384 rfl rfl ?_
  refine wp_iload_n (M := mL_law) (pc := 385) dL_law_385 rfl rfl ?_
  refine wp_iconst (M := mL_law) (pc := 386) dL_law_386 k_iconst_5 ?_
  refine wp_iadd (M := mL_law) (pc := 387) dL_law_387 ?_
  refine wp_sld (M := mL_law) (pc := 388) dL_law_388 (p5) ?_
  refine xs_callV (d := d + 13) (M := mL_law) (pc := 389) (As := [.int (gxs G (x3 + 1).toNatClampNeg), .int (gxs G (x3 + 2).toNatClampNeg), .int (gxs G (x3 + 3).toNatClampNeg), .int (gxs G (x3 + 4).toNatClampNeg), .int (gxs G (x3 + 5).toNatClampNeg)]) (st := [.int s0]) (c := 11) (ls' := [.ref 82, .int (gxs G (x3 + 1).toNatClampNeg), .int (gxs G (x3 + 2).toNatClampNeg), .int (gxs G (x3 + 3).toNatClampNeg), .int (gxs G (x3 + 4).toNatClampNeg), .int (gxs G (x3 + 5).toNatClampNeg)]) dL_law_389 oX11_feed nX11_feed lL_37 vX11_feed sX11_feed rfl sh82 (Nat.le_of_ble_eq_true rfl) rfl (Nat.le_of_ble_eq_true rfl) rfl ?_
  exact p6
theorem bL_law_392 {G : GC} {d : Nat} {sw : Bool} {f : FF} {Q : QQ} {x3 : Int32} {s0 : Int32} {s1 : Int32} (p1 : (s1 = s0) → XP G mL_law (d + 14) 1214 [.retAddr 0, .ref 0, .ref 82, .int x3] [] sw f Q) (p2 : (¬ s1 = s0) → Q (some (.int 0)) sw f) : XP G mL_law (d + 14) 392 [.retAddr 0, .ref 0, .ref 82, .int x3] [.int s0, .int s1] sw f Q := by
  refine wp_icmp_eq (M := mL_law) (pc := 392) (t := 1214) dL_law_392 (by decide) (fun c1 => ?_) (fun c1 => ?_)
  · exact p1 c1
  · refine wp_iconst (M := mL_law) (pc := 395) dL_law_395 k_iconst_0 ?_
    exact xs_zret (M := mL_law) (pc := 396) dL_law_396 rfl (by decide) (p2 c1)
theorem bL_law_406 {G : GC} {d : Nat} {sw : Bool} {f : FF} {Q : QQ} {x3 : Int32} {s0 : Int32} (p1 : vp_in (x3 + 1) (gL G)) (p2 : XP G mX11_law (d + 13) 0 [.ref 82, .int (gxs G (x3 + 1).toNatClampNeg), .null, .null] [] sw f (fun v sw' f' => XP G mL_law (d + 14) 415 [.retAddr 0, .ref 0, .ref 82, .int x3] (retst v [.int s0]) sw' f' Q)) : XP G mL_law (d + 14) 406 [.retAddr 0, .ref 0, .ref 82, .int x3] [.int s0] sw f Q := by
  refine wp_aload_n (M := mL_law) (pc := 406) dL_law_406 rfl rfl ?_
  refine wp_aload_s (M := mL_law) (pc := 407) dL_law_407 rfl rfl ?_
  refine wp_iload_n (M := mL_law) (pc := 408) dL_law_408 rfl rfl ?_
  refine wp_iconst (M := mL_law) (pc := 409) dL_law_409 k_iconst_1 ?_
  refine wp_iadd (M := mL_law) (pc := 410) dL_law_410 ?_
  refine wp_sld (M := mL_law) (pc := 411) dL_law_411 (p1) ?_
  refine xs_callV (d := d + 13) (M := mL_law) (pc := 412) (As := [.int (gxs G (x3 + 1).toNatClampNeg)]) (st := [.int s0]) (c := 11) (ls' := [.ref 82, .int (gxs G (x3 + 1).toNatClampNeg), .null, .null]) dL_law_412 oX11_law nX11_law lL_42 vX11_law sX11_law rfl sh82 (Nat.le_of_ble_eq_true rfl) rfl (Nat.le_of_ble_eq_true rfl) rfl ?_
  exact p2
theorem bL_law_415 {G : GC} {d : Nat} {sw : Bool} {f : FF} {Q : QQ} {x3 : Int32} {s0 : Int32} {s1 : Int32} (p1 : (s1 = s0) → XP G mL_law (d + 14) 1214 [.retAddr 0, .ref 0, .ref 82, .int x3] [] sw f Q) (p2 : (¬ s1 = s0) → Q (some (.int 0)) sw f) : XP G mL_law (d + 14) 415 [.retAddr 0, .ref 0, .ref 82, .int x3] [.int s0, .int s1] sw f Q := by
  refine wp_icmp_eq (M := mL_law) (pc := 415) (t := 1214) dL_law_415 (by decide) (fun c1 => ?_) (fun c1 => ?_)
  · exact p1 c1
  · refine wp_iconst (M := mL_law) (pc := 418) dL_law_418 k_iconst_0 ?_
    exact xs_zret (M := mL_law) (pc := 419) dL_law_419 rfl (by decide) (p2 c1)
theorem bL_law_429 {G : GC} {d : Nat} {sw : Bool} {f : FF} {Q : QQ} {x3 : Int32} {s0 : Int32} (p1 : vp_in (x3 + 1) (gL G)) (p2 : XP G mX11_bill (d + 13) 0 [.ref 82, .int (gxs G (x3 + 1).toNatClampNeg), .null] [] sw f (fun v sw' f' => XP G mL_law (d + 14) 438 [.retAddr 0, .ref 0, .ref 82, .int x3] (retst v [.int s0]) sw' f' Q)) : XP G mL_law (d + 14) 429 [.retAddr 0, .ref 0, .ref 82, .int x3] [.int s0] sw f Q := by
  refine wp_aload_n (M := mL_law) (pc := 429) dL_law_429 rfl rfl ?_
  refine wp_aload_s (M := mL_law) (pc := 430) dL_law_430 rfl rfl ?_
  refine wp_iload_n (M := mL_law) (pc := 431) dL_law_431 rfl rfl ?_
  refine wp_iconst (M := mL_law) (pc := 432) dL_law_432 k_iconst_1 ?_
  refine wp_iadd (M := mL_law) (pc := 433) dL_law_433 ?_
  refine wp_sld (M := mL_law) (pc := 434) dL_law_434 (p1) ?_
  refine xs_callV (d := d + 13) (M := mL_law) (pc := 435) (As := [.int (gxs G (x3 + 1).toNatClampNeg)]) (st := [.int s0]) (c := 11) (ls' := [.ref 82, .int (gxs G (x3 + 1).toNatClampNeg), .null]) dL_law_435 oX11_bill nX11_bill lL_46 vX11_bill sX11_bill rfl sh82 (Nat.le_of_ble_eq_true rfl) rfl (Nat.le_of_ble_eq_true rfl) rfl ?_
  exact p2
theorem bL_law_438 {G : GC} {d : Nat} {sw : Bool} {f : FF} {Q : QQ} {x3 : Int32} {s0 : Int32} {s1 : Int32} (p1 : (s1 = s0) → XP G mL_law (d + 14) 1214 [.retAddr 0, .ref 0, .ref 82, .int x3] [] sw f Q) (p2 : (¬ s1 = s0) → Q (some (.int 0)) sw f) : XP G mL_law (d + 14) 438 [.retAddr 0, .ref 0, .ref 82, .int x3] [.int s0, .int s1] sw f Q := by
  refine wp_icmp_eq (M := mL_law) (pc := 438) (t := 1214) dL_law_438 (by decide) (fun c1 => ?_) (fun c1 => ?_)
  · exact p1 c1
  · refine wp_iconst (M := mL_law) (pc := 441) dL_law_441 k_iconst_0 ?_
    exact xs_zret (M := mL_law) (pc := 442) dL_law_442 rfl (by decide) (p2 c1)
theorem bL_law_457 {G : GC} {d : Nat} {sw : Bool} {f : FF} {Q : QQ} {x3 : Int32} {s0 : Int32} (p1 : vp_in (x3 + 1) (gL G)) (p2 : vp_in (x3 + 2) (gL G)) (p3 : XP G mX11_code (d + 13) 0 [.ref 82, .int (gxs G (x3 + 1).toNatClampNeg), .int (gxs G (x3 + 2).toNatClampNeg), .null, .null] [] sw f (fun v sw' f' => XP G mL_law (d + 14) 471 [.retAddr 0, .ref 0, .ref 82, .int x3] (retst v [.int s0]) sw' f' Q)) : XP G mL_law (d + 14) 457 [.retAddr 0, .ref 0, .ref 82, .int x3] [.int s0] sw f Q := by
  refine wp_aload_n (M := mL_law) (pc := 457) dL_law_457 rfl rfl ?_
  refine wp_aload_s (M := mL_law) (pc := 458) dL_law_458 rfl rfl ?_
  refine wp_iload_n (M := mL_law) (pc := 459) dL_law_459 rfl rfl ?_
  refine wp_iconst (M := mL_law) (pc := 460) dL_law_460 k_iconst_1 ?_
  refine wp_iadd (M := mL_law) (pc := 461) dL_law_461 ?_
  refine wp_sld (M := mL_law) (pc := 462) dL_law_462 (p1) ?_
  refine wp_aload_s (M := mL_law) (pc := 463) dL_law_463 rfl rfl ?_
  refine wp_iload_n (M := mL_law) (pc := 464) dL_law_464 rfl rfl ?_
  refine wp_iconst (M := mL_law) (pc := 465) dL_law_465 k_iconst_2 ?_
  refine wp_iadd (M := mL_law) (pc := 466) dL_law_466 ?_
  refine wp_sld (M := mL_law) (pc := 467) dL_law_467 (p2) ?_
  refine xs_callV (d := d + 13) (M := mL_law) (pc := 468) (As := [.int (gxs G (x3 + 1).toNatClampNeg), .int (gxs G (x3 + 2).toNatClampNeg)]) (st := [.int s0]) (c := 11) (ls' := [.ref 82, .int (gxs G (x3 + 1).toNatClampNeg), .int (gxs G (x3 + 2).toNatClampNeg), .null, .null]) dL_law_468 oX11_code nX11_code lL_51 vX11_code sX11_code rfl sh82 (Nat.le_of_ble_eq_true rfl) rfl (Nat.le_of_ble_eq_true rfl) rfl ?_
  exact p3
theorem bL_law_471 {G : GC} {d : Nat} {sw : Bool} {f : FF} {Q : QQ} {x3 : Int32} {s0 : Int32} {s1 : Int32} (p1 : (s1 = s0) → XP G mL_law (d + 14) 1214 [.retAddr 0, .ref 0, .ref 82, .int x3] [] sw f Q) (p2 : (¬ s1 = s0) → Q (some (.int 0)) sw f) : XP G mL_law (d + 14) 471 [.retAddr 0, .ref 0, .ref 82, .int x3] [.int s0, .int s1] sw f Q := by
  refine wp_icmp_eq (M := mL_law) (pc := 471) (t := 1214) dL_law_471 (by decide) (fun c1 => ?_) (fun c1 => ?_)
  · exact p1 c1
  · refine wp_iconst (M := mL_law) (pc := 474) dL_law_474 k_iconst_0 ?_
    exact xs_zret (M := mL_law) (pc := 475) dL_law_475 rfl (by decide) (p2 c1)
theorem bL_law_485 {G : GC} {d : Nat} {sw : Bool} {f : FF} {Q : QQ} {x3 : Int32} {s0 : Int32} (p1 : vp_in (x3 + 1) (gL G)) (p2 : XP G mX11_minutes (d + 13) 0 [.ref 82, .int (gxs G (x3 + 1).toNatClampNeg)] [] sw f (fun v sw' f' => XP G mL_law (d + 14) 494 [.retAddr 0, .ref 0, .ref 82, .int x3] (retst v [.int s0]) sw' f' Q)) : XP G mL_law (d + 14) 485 [.retAddr 0, .ref 0, .ref 82, .int x3] [.int s0] sw f Q := by
  refine wp_aload_n (M := mL_law) (pc := 485) dL_law_485 rfl rfl ?_
  refine wp_aload_s (M := mL_law) (pc := 486) dL_law_486 rfl rfl ?_
  refine wp_iload_n (M := mL_law) (pc := 487) dL_law_487 rfl rfl ?_
  refine wp_iconst (M := mL_law) (pc := 488) dL_law_488 k_iconst_1 ?_
  refine wp_iadd (M := mL_law) (pc := 489) dL_law_489 ?_
  refine wp_sld (M := mL_law) (pc := 490) dL_law_490 (p1) ?_
  refine xs_callV (d := d + 13) (M := mL_law) (pc := 491) (As := [.int (gxs G (x3 + 1).toNatClampNeg)]) (st := [.int s0]) (c := 11) (ls' := [.ref 82, .int (gxs G (x3 + 1).toNatClampNeg)]) dL_law_491 oX11_minutes nX11_minutes lL_55 vX11_minutes sX11_minutes rfl sh82 (Nat.le_of_ble_eq_true rfl) rfl (Nat.le_of_ble_eq_true rfl) rfl ?_
  exact p2
theorem bL_law_494 {G : GC} {d : Nat} {sw : Bool} {f : FF} {Q : QQ} {x3 : Int32} {s0 : Int32} {s1 : Int32} (p1 : (s1 = s0) → XP G mL_law (d + 14) 1214 [.retAddr 0, .ref 0, .ref 82, .int x3] [] sw f Q) (p2 : (¬ s1 = s0) → Q (some (.int 0)) sw f) : XP G mL_law (d + 14) 494 [.retAddr 0, .ref 0, .ref 82, .int x3] [.int s0, .int s1] sw f Q := by
  refine wp_icmp_eq (M := mL_law) (pc := 494) (t := 1214) dL_law_494 (by decide) (fun c1 => ?_) (fun c1 => ?_)
  · exact p1 c1
  · refine wp_iconst (M := mL_law) (pc := 497) dL_law_497 k_iconst_0 ?_
    exact xs_zret (M := mL_law) (pc := 498) dL_law_498 rfl (by decide) (p2 c1)
theorem bL_law_513 {G : GC} {d : Nat} {sw : Bool} {f : FF} {Q : QQ} {x3 : Int32} {s0 : Int32} (p1 : vp_in (x3 + 1) (gL G)) (p2 : vp_in (x3 + 2) (gL G)) (p3 : XP G mX11_tried (d + 13) 0 [.ref 82, .int (gxs G (x3 + 1).toNatClampNeg), .int (gxs G (x3 + 2).toNatClampNeg), .null] [] sw f (fun v sw' f' => XP G mL_law (d + 14) 527 [.retAddr 0, .ref 0, .ref 82, .int x3] (retst v [.int s0]) sw' f' Q)) : XP G mL_law (d + 14) 513 [.retAddr 0, .ref 0, .ref 82, .int x3] [.int s0] sw f Q := by
  refine wp_aload_n (M := mL_law) (pc := 513) dL_law_513 rfl rfl ?_
  refine wp_aload_s (M := mL_law) (pc := 514) dL_law_514 rfl rfl ?_
  refine wp_iload_n (M := mL_law) (pc := 515) dL_law_515 rfl rfl ?_
  refine wp_iconst (M := mL_law) (pc := 516) dL_law_516 k_iconst_1 ?_
  refine wp_iadd (M := mL_law) (pc := 517) dL_law_517 ?_
  refine wp_sld (M := mL_law) (pc := 518) dL_law_518 (p1) ?_
  refine wp_aload_s (M := mL_law) (pc := 519) dL_law_519 rfl rfl ?_
  refine wp_iload_n (M := mL_law) (pc := 520) dL_law_520 rfl rfl ?_
  refine wp_iconst (M := mL_law) (pc := 521) dL_law_521 k_iconst_2 ?_
  refine wp_iadd (M := mL_law) (pc := 522) dL_law_522 ?_
  refine wp_sld (M := mL_law) (pc := 523) dL_law_523 (p2) ?_
  refine xs_callV (d := d + 13) (M := mL_law) (pc := 524) (As := [.int (gxs G (x3 + 1).toNatClampNeg), .int (gxs G (x3 + 2).toNatClampNeg)]) (st := [.int s0]) (c := 11) (ls' := [.ref 82, .int (gxs G (x3 + 1).toNatClampNeg), .int (gxs G (x3 + 2).toNatClampNeg), .null]) dL_law_524 oX11_tried nX11_tried lL_59 vX11_tried sX11_tried rfl sh82 (Nat.le_of_ble_eq_true rfl) rfl (Nat.le_of_ble_eq_true rfl) rfl ?_
  exact p3
theorem bL_law_527 {G : GC} {d : Nat} {sw : Bool} {f : FF} {Q : QQ} {x3 : Int32} {s0 : Int32} {s1 : Int32} (p1 : (s1 = s0) → XP G mL_law (d + 14) 1214 [.retAddr 0, .ref 0, .ref 82, .int x3] [] sw f Q) (p2 : (¬ s1 = s0) → Q (some (.int 0)) sw f) : XP G mL_law (d + 14) 527 [.retAddr 0, .ref 0, .ref 82, .int x3] [.int s0, .int s1] sw f Q := by
  refine wp_icmp_eq (M := mL_law) (pc := 527) (t := 1214) dL_law_527 (by decide) (fun c1 => ?_) (fun c1 => ?_)
  · exact p1 c1
  · refine wp_iconst (M := mL_law) (pc := 530) dL_law_530 k_iconst_0 ?_
    exact xs_zret (M := mL_law) (pc := 531) dL_law_531 rfl (by decide) (p2 c1)
theorem bL_law_546 {G : GC} {d : Nat} {sw : Bool} {f : FF} {Q : QQ} {x3 : Int32} {s0 : Int32} (p1 : vp_in (x3 + 1) (gL G)) (p2 : vp_in (x3 + 2) (gL G)) (p3 : XP G mX11_subscriberIs (d + 13) 0 [.ref 82, .int (gxs G (x3 + 1).toNatClampNeg), .int (gxs G (x3 + 2).toNatClampNeg)] [] sw f (fun v sw' f' => XP G mL_law (d + 14) 560 [.retAddr 0, .ref 0, .ref 82, .int x3] (retst v [.int s0]) sw' f' Q)) : XP G mL_law (d + 14) 546 [.retAddr 0, .ref 0, .ref 82, .int x3] [.int s0] sw f Q := by
  refine wp_aload_n (M := mL_law) (pc := 546) dL_law_546 rfl rfl ?_
  refine wp_aload_s (M := mL_law) (pc := 547) dL_law_547 rfl rfl ?_
  refine wp_iload_n (M := mL_law) (pc := 548) dL_law_548 rfl rfl ?_
  refine wp_iconst (M := mL_law) (pc := 549) dL_law_549 k_iconst_1 ?_
  refine wp_iadd (M := mL_law) (pc := 550) dL_law_550 ?_
  refine wp_sld (M := mL_law) (pc := 551) dL_law_551 (p1) ?_
  refine wp_aload_s (M := mL_law) (pc := 552) dL_law_552 rfl rfl ?_
  refine wp_iload_n (M := mL_law) (pc := 553) dL_law_553 rfl rfl ?_
  refine wp_iconst (M := mL_law) (pc := 554) dL_law_554 k_iconst_2 ?_
  refine wp_iadd (M := mL_law) (pc := 555) dL_law_555 ?_
  refine wp_sld (M := mL_law) (pc := 556) dL_law_556 (p2) ?_
  refine xs_callV (d := d + 13) (M := mL_law) (pc := 557) (As := [.int (gxs G (x3 + 1).toNatClampNeg), .int (gxs G (x3 + 2).toNatClampNeg)]) (st := [.int s0]) (c := 11) (ls' := [.ref 82, .int (gxs G (x3 + 1).toNatClampNeg), .int (gxs G (x3 + 2).toNatClampNeg)]) dL_law_557 oX11_subscriberIs nX11_subscriberIs lL_63 vX11_subscriberIs sX11_subscriberIs rfl sh82 (Nat.le_of_ble_eq_true rfl) rfl (Nat.le_of_ble_eq_true rfl) rfl ?_
  exact p3
theorem bL_law_560 {G : GC} {d : Nat} {sw : Bool} {f : FF} {Q : QQ} {x3 : Int32} {s0 : Int32} {s1 : Int32} (p1 : (s1 = s0) → XP G mL_law (d + 14) 1214 [.retAddr 0, .ref 0, .ref 82, .int x3] [] sw f Q) (p2 : (¬ s1 = s0) → Q (some (.int 0)) sw f) : XP G mL_law (d + 14) 560 [.retAddr 0, .ref 0, .ref 82, .int x3] [.int s0, .int s1] sw f Q := by
  refine wp_icmp_eq (M := mL_law) (pc := 560) (t := 1214) dL_law_560 (by decide) (fun c1 => ?_) (fun c1 => ?_)
  · exact p1 c1
  · refine wp_iconst (M := mL_law) (pc := 563) dL_law_563 k_iconst_0 ?_
    exact xs_zret (M := mL_law) (pc := 564) dL_law_564 rfl (by decide) (p2 c1)
theorem bL_law_579 {G : GC} {d : Nat} {sw : Bool} {f : FF} {Q : QQ} {x3 : Int32} {s0 : Int32} (p1 : vp_in (x3 + 1) (gL G)) (p2 : vp_in (x3 + 2) (gL G)) (p3 : XP G mX11_callIs (d + 13) 0 [.ref 82, .int (gxs G (x3 + 1).toNatClampNeg), .int (gxs G (x3 + 2).toNatClampNeg)] [] sw f (fun v sw' f' => XP G mL_law (d + 14) 593 [.retAddr 0, .ref 0, .ref 82, .int x3] (retst v [.int s0]) sw' f' Q)) : XP G mL_law (d + 14) 579 [.retAddr 0, .ref 0, .ref 82, .int x3] [.int s0] sw f Q := by
  refine wp_aload_n (M := mL_law) (pc := 579) dL_law_579 rfl rfl ?_
  refine wp_aload_s (M := mL_law) (pc := 580) dL_law_580 rfl rfl ?_
  refine wp_iload_n (M := mL_law) (pc := 581) dL_law_581 rfl rfl ?_
  refine wp_iconst (M := mL_law) (pc := 582) dL_law_582 k_iconst_1 ?_
  refine wp_iadd (M := mL_law) (pc := 583) dL_law_583 ?_
  refine wp_sld (M := mL_law) (pc := 584) dL_law_584 (p1) ?_
  refine wp_aload_s (M := mL_law) (pc := 585) dL_law_585 rfl rfl ?_
  refine wp_iload_n (M := mL_law) (pc := 586) dL_law_586 rfl rfl ?_
  refine wp_iconst (M := mL_law) (pc := 587) dL_law_587 k_iconst_2 ?_
  refine wp_iadd (M := mL_law) (pc := 588) dL_law_588 ?_
  refine wp_sld (M := mL_law) (pc := 589) dL_law_589 (p2) ?_
  refine xs_callV (d := d + 13) (M := mL_law) (pc := 590) (As := [.int (gxs G (x3 + 1).toNatClampNeg), .int (gxs G (x3 + 2).toNatClampNeg)]) (st := [.int s0]) (c := 11) (ls' := [.ref 82, .int (gxs G (x3 + 1).toNatClampNeg), .int (gxs G (x3 + 2).toNatClampNeg)]) dL_law_590 oX11_callIs nX11_callIs lL_67 vX11_callIs sX11_callIs rfl sh82 (Nat.le_of_ble_eq_true rfl) rfl (Nat.le_of_ble_eq_true rfl) rfl ?_
  exact p3
theorem bL_law_593 {G : GC} {d : Nat} {sw : Bool} {f : FF} {Q : QQ} {x3 : Int32} {s0 : Int32} {s1 : Int32} (p1 : (s1 = s0) → XP G mL_law (d + 14) 1214 [.retAddr 0, .ref 0, .ref 82, .int x3] [] sw f Q) (p2 : (¬ s1 = s0) → Q (some (.int 0)) sw f) : XP G mL_law (d + 14) 593 [.retAddr 0, .ref 0, .ref 82, .int x3] [.int s0, .int s1] sw f Q := by
  refine wp_icmp_eq (M := mL_law) (pc := 593) (t := 1214) dL_law_593 (by decide) (fun c1 => ?_) (fun c1 => ?_)
  · exact p1 c1
  · refine wp_iconst (M := mL_law) (pc := 596) dL_law_596 k_iconst_0 ?_
    exact xs_zret (M := mL_law) (pc := 597) dL_law_597 rfl (by decide) (p2 c1)
theorem bL_law_617 {G : GC} {d : Nat} {sw : Bool} {f : FF} {Q : QQ} {x3 : Int32} {s0 : Int32} (p1 : vp_in (x3 + 1) (gL G)) (p2 : vp_in (x3 + 2) (gL G)) (p3 : vp_in (x3 + 3) (gL G)) (p4 : XP G mX11_circuits (d + 13) 0 [.ref 82, .int (gxs G (x3 + 1).toNatClampNeg), .int (gxs G (x3 + 2).toNatClampNeg), .int (gxs G (x3 + 3).toNatClampNeg)] [] sw f (fun v sw' f' => XP G mL_law (d + 14) 636 [.retAddr 0, .ref 0, .ref 82, .int x3] (retst v [.int s0]) sw' f' Q)) : XP G mL_law (d + 14) 617 [.retAddr 0, .ref 0, .ref 82, .int x3] [.int s0] sw f Q := by
  refine wp_aload_n (M := mL_law) (pc := 617) dL_law_617 rfl rfl ?_
  refine wp_aload_s (M := mL_law) (pc := 618) dL_law_618 rfl rfl ?_
  refine wp_iload_n (M := mL_law) (pc := 619) dL_law_619 rfl rfl ?_
  refine wp_iconst (M := mL_law) (pc := 620) dL_law_620 k_iconst_1 ?_
  refine wp_iadd (M := mL_law) (pc := 621) dL_law_621 ?_
  refine wp_sld (M := mL_law) (pc := 622) dL_law_622 (p1) ?_
  refine wp_aload_s (M := mL_law) (pc := 623) dL_law_623 rfl rfl ?_
  refine wp_iload_n (M := mL_law) (pc := 624) dL_law_624 rfl rfl ?_
  refine wp_iconst (M := mL_law) (pc := 625) dL_law_625 k_iconst_2 ?_
  refine wp_iadd (M := mL_law) (pc := 626) dL_law_626 ?_
  refine wp_sld (M := mL_law) (pc := 627) dL_law_627 (p2) ?_
  refine wp_aload_s (M := mL_law) (pc := 628) dL_law_628 rfl rfl ?_
  refine wp_iload_n (M := mL_law) (pc := 629) dL_law_629 rfl rfl ?_
  refine wp_iconst (M := mL_law) (pc := 630) dL_law_630 k_iconst_3 ?_
  refine wp_iadd (M := mL_law) (pc := 631) dL_law_631 ?_
  refine wp_sld (M := mL_law) (pc := 632) dL_law_632 (p3) ?_
  refine xs_callV (d := d + 13) (M := mL_law) (pc := 633) (As := [.int (gxs G (x3 + 1).toNatClampNeg), .int (gxs G (x3 + 2).toNatClampNeg), .int (gxs G (x3 + 3).toNatClampNeg)]) (st := [.int s0]) (c := 11) (ls' := [.ref 82, .int (gxs G (x3 + 1).toNatClampNeg), .int (gxs G (x3 + 2).toNatClampNeg), .int (gxs G (x3 + 3).toNatClampNeg)]) dL_law_633 oX11_circuits nX11_circuits lL_72 vX11_circuits sX11_circuits rfl sh82 (Nat.le_of_ble_eq_true rfl) rfl (Nat.le_of_ble_eq_true rfl) rfl ?_
  exact p4
theorem bL_law_636 {G : GC} {d : Nat} {sw : Bool} {f : FF} {Q : QQ} {x3 : Int32} {s0 : Int32} {s1 : Int32} (p1 : (s1 = s0) → XP G mL_law (d + 14) 1214 [.retAddr 0, .ref 0, .ref 82, .int x3] [] sw f Q) (p2 : (¬ s1 = s0) → Q (some (.int 0)) sw f) : XP G mL_law (d + 14) 636 [.retAddr 0, .ref 0, .ref 82, .int x3] [.int s0, .int s1] sw f Q := by
  refine wp_icmp_eq (M := mL_law) (pc := 636) (t := 1214) dL_law_636 (by decide) (fun c1 => ?_) (fun c1 => ?_)
  · exact p1 c1
  · refine wp_iconst (M := mL_law) (pc := 639) dL_law_639 k_iconst_0 ?_
    exact xs_zret (M := mL_law) (pc := 640) dL_law_640 rfl (by decide) (p2 c1)
theorem bL_law_660 {G : GC} {d : Nat} {sw : Bool} {f : FF} {Q : QQ} {x3 : Int32} {s0 : Int32} (p1 : vp_in (x3 + 1) (gL G)) (p2 : vp_in (x3 + 2) (gL G)) (p3 : vp_in (x3 + 3) (gL G)) (p4 : XP G mX11_route (d + 13) 0 [.ref 82, .int (gxs G (x3 + 1).toNatClampNeg), .int (gxs G (x3 + 2).toNatClampNeg), .int (gxs G (x3 + 3).toNatClampNeg), .null] [] sw f (fun v sw' f' => XP G mL_law (d + 14) 679 [.retAddr 0, .ref 0, .ref 82, .int x3] (retst v [.int s0]) sw' f' Q)) : XP G mL_law (d + 14) 660 [.retAddr 0, .ref 0, .ref 82, .int x3] [.int s0] sw f Q := by
  refine wp_aload_n (M := mL_law) (pc := 660) dL_law_660 rfl rfl ?_
  refine wp_aload_s (M := mL_law) (pc := 661) dL_law_661 rfl rfl ?_
  refine wp_iload_n (M := mL_law) (pc := 662) dL_law_662 rfl rfl ?_
  refine wp_iconst (M := mL_law) (pc := 663) dL_law_663 k_iconst_1 ?_
  refine wp_iadd (M := mL_law) (pc := 664) dL_law_664 ?_
  refine wp_sld (M := mL_law) (pc := 665) dL_law_665 (p1) ?_
  refine wp_aload_s (M := mL_law) (pc := 666) dL_law_666 rfl rfl ?_
  refine wp_iload_n (M := mL_law) (pc := 667) dL_law_667 rfl rfl ?_
  refine wp_iconst (M := mL_law) (pc := 668) dL_law_668 k_iconst_2 ?_
  refine wp_iadd (M := mL_law) (pc := 669) dL_law_669 ?_
  refine wp_sld (M := mL_law) (pc := 670) dL_law_670 (p2) ?_
  refine wp_aload_s (M := mL_law) (pc := 671) dL_law_671 rfl rfl ?_
  refine wp_iload_n (M := mL_law) (pc := 672) dL_law_672 rfl rfl ?_
  refine wp_iconst (M := mL_law) (pc := 673) dL_law_673 k_iconst_3 ?_
  refine wp_iadd (M := mL_law) (pc := 674) dL_law_674 ?_
  refine wp_sld (M := mL_law) (pc := 675) dL_law_675 (p3) ?_
  refine xs_callV (d := d + 13) (M := mL_law) (pc := 676) (As := [.int (gxs G (x3 + 1).toNatClampNeg), .int (gxs G (x3 + 2).toNatClampNeg), .int (gxs G (x3 + 3).toNatClampNeg)]) (st := [.int s0]) (c := 11) (ls' := [.ref 82, .int (gxs G (x3 + 1).toNatClampNeg), .int (gxs G (x3 + 2).toNatClampNeg), .int (gxs G (x3 + 3).toNatClampNeg), .null]) dL_law_676 oX11_route nX11_route lL_76 vX11_route sX11_route rfl sh82 (Nat.le_of_ble_eq_true rfl) rfl (Nat.le_of_ble_eq_true rfl) rfl ?_
  exact p4
theorem bL_law_679 {G : GC} {d : Nat} {sw : Bool} {f : FF} {Q : QQ} {x3 : Int32} {s0 : Int32} {s1 : Int32} (p1 : (s1 = s0) → XP G mL_law (d + 14) 1214 [.retAddr 0, .ref 0, .ref 82, .int x3] [] sw f Q) (p2 : (¬ s1 = s0) → Q (some (.int 0)) sw f) : XP G mL_law (d + 14) 679 [.retAddr 0, .ref 0, .ref 82, .int x3] [.int s0, .int s1] sw f Q := by
  refine wp_icmp_eq (M := mL_law) (pc := 679) (t := 1214) dL_law_679 (by decide) (fun c1 => ?_) (fun c1 => ?_)
  · exact p1 c1
  · refine wp_iconst (M := mL_law) (pc := 682) dL_law_682 k_iconst_0 ?_
    exact xs_zret (M := mL_law) (pc := 683) dL_law_683 rfl (by decide) (p2 c1)
theorem bL_law_693 {G : GC} {d : Nat} {sw : Bool} {f : FF} {Q : QQ} {x3 : Int32} {s0 : Int32} (p1 : vp_in (x3 + 1) (gL G)) (p2 : XP G mX11_fundLasts (d + 13) 0 [.ref 82, .int (gxs G (x3 + 1).toNatClampNeg), .null, .null] [] sw f (fun v sw' f' => XP G mL_law (d + 14) 702 [.retAddr 0, .ref 0, .ref 82, .int x3] (retst v [.int s0]) sw' f' Q)) : XP G mL_law (d + 14) 693 [.retAddr 0, .ref 0, .ref 82, .int x3] [.int s0] sw f Q := by
  refine wp_aload_n (M := mL_law) (pc := 693) dL_law_693 rfl rfl ?_
  refine wp_aload_s (M := mL_law) (pc := 694) dL_law_694 rfl rfl ?_
  refine wp_iload_n (M := mL_law) (pc := 695) dL_law_695 rfl rfl ?_
  refine wp_iconst (M := mL_law) (pc := 696) dL_law_696 k_iconst_1 ?_
  refine wp_iadd (M := mL_law) (pc := 697) dL_law_697 ?_
  refine wp_sld (M := mL_law) (pc := 698) dL_law_698 (p1) ?_
  refine xs_callV (d := d + 13) (M := mL_law) (pc := 699) (As := [.int (gxs G (x3 + 1).toNatClampNeg)]) (st := [.int s0]) (c := 11) (ls' := [.ref 82, .int (gxs G (x3 + 1).toNatClampNeg), .null, .null]) dL_law_699 oX11_fundLasts nX11_fundLasts lL_80 vX11_fundLasts sX11_fundLasts rfl sh82 (Nat.le_of_ble_eq_true rfl) rfl (Nat.le_of_ble_eq_true rfl) rfl ?_
  exact p2
theorem bL_law_702 {G : GC} {d : Nat} {sw : Bool} {f : FF} {Q : QQ} {x3 : Int32} {s0 : Int32} {s1 : Int32} (p1 : (s1 = s0) → XP G mL_law (d + 14) 1214 [.retAddr 0, .ref 0, .ref 82, .int x3] [] sw f Q) (p2 : (¬ s1 = s0) → Q (some (.int 0)) sw f) : XP G mL_law (d + 14) 702 [.retAddr 0, .ref 0, .ref 82, .int x3] [.int s0, .int s1] sw f Q := by
  refine wp_icmp_eq (M := mL_law) (pc := 702) (t := 1214) dL_law_702 (by decide) (fun c1 => ?_) (fun c1 => ?_)
  · exact p1 c1
  · refine wp_iconst (M := mL_law) (pc := 705) dL_law_705 k_iconst_0 ?_
    exact xs_zret (M := mL_law) (pc := 706) dL_law_706 rfl (by decide) (p2 c1)
theorem bL_law_721 {G : GC} {d : Nat} {sw : Bool} {f : FF} {Q : QQ} {x3 : Int32} {s0 : Int32} (p1 : vp_in (x3 + 1) (gL G)) (p2 : vp_in (x3 + 2) (gL G)) (p3 : XP G mX11_atOnce (d + 13) 0 [.ref 82, .int (gxs G (x3 + 1).toNatClampNeg), .int (gxs G (x3 + 2).toNatClampNeg)] [] sw f (fun v sw' f' => XP G mL_law (d + 14) 735 [.retAddr 0, .ref 0, .ref 82, .int x3] (retst v [.int s0]) sw' f' Q)) : XP G mL_law (d + 14) 721 [.retAddr 0, .ref 0, .ref 82, .int x3] [.int s0] sw f Q := by
  refine wp_aload_n (M := mL_law) (pc := 721) dL_law_721 rfl rfl ?_
  refine wp_aload_s (M := mL_law) (pc := 722) dL_law_722 rfl rfl ?_
  refine wp_iload_n (M := mL_law) (pc := 723) dL_law_723 rfl rfl ?_
  refine wp_iconst (M := mL_law) (pc := 724) dL_law_724 k_iconst_1 ?_
  refine wp_iadd (M := mL_law) (pc := 725) dL_law_725 ?_
  refine wp_sld (M := mL_law) (pc := 726) dL_law_726 (p1) ?_
  refine wp_aload_s (M := mL_law) (pc := 727) dL_law_727 rfl rfl ?_
  refine wp_iload_n (M := mL_law) (pc := 728) dL_law_728 rfl rfl ?_
  refine wp_iconst (M := mL_law) (pc := 729) dL_law_729 k_iconst_2 ?_
  refine wp_iadd (M := mL_law) (pc := 730) dL_law_730 ?_
  refine wp_sld (M := mL_law) (pc := 731) dL_law_731 (p2) ?_
  refine xs_callV (d := d + 13) (M := mL_law) (pc := 732) (As := [.int (gxs G (x3 + 1).toNatClampNeg), .int (gxs G (x3 + 2).toNatClampNeg)]) (st := [.int s0]) (c := 11) (ls' := [.ref 82, .int (gxs G (x3 + 1).toNatClampNeg), .int (gxs G (x3 + 2).toNatClampNeg)]) dL_law_732 oX11_atOnce nX11_atOnce lL_84 vX11_atOnce sX11_atOnce rfl sh82 (Nat.le_of_ble_eq_true rfl) rfl (Nat.le_of_ble_eq_true rfl) rfl ?_
  exact p3
theorem bL_law_735 {G : GC} {d : Nat} {sw : Bool} {f : FF} {Q : QQ} {x3 : Int32} {s0 : Int32} {s1 : Int32} (p1 : (s1 = s0) → XP G mL_law (d + 14) 1214 [.retAddr 0, .ref 0, .ref 82, .int x3] [] sw f Q) (p2 : (¬ s1 = s0) → Q (some (.int 0)) sw f) : XP G mL_law (d + 14) 735 [.retAddr 0, .ref 0, .ref 82, .int x3] [.int s0, .int s1] sw f Q := by
  refine wp_icmp_eq (M := mL_law) (pc := 735) (t := 1214) dL_law_735 (by decide) (fun c1 => ?_) (fun c1 => ?_)
  · exact p1 c1
  · refine wp_iconst (M := mL_law) (pc := 738) dL_law_738 k_iconst_0 ?_
    exact xs_zret (M := mL_law) (pc := 739) dL_law_739 rfl (by decide) (p2 c1)
theorem bL_law_754 {G : GC} {d : Nat} {sw : Bool} {f : FF} {Q : QQ} {x3 : Int32} {s0 : Int32} (p1 : vp_in (x3 + 1) (gL G)) (p2 : vp_in (x3 + 2) (gL G)) (p3 : XP G mX11_stops (d + 13) 0 [.ref 82, .int (gxs G (x3 + 1).toNatClampNeg), .int (gxs G (x3 + 2).toNatClampNeg)] [] sw f (fun v sw' f' => XP G mL_law (d + 14) 768 [.retAddr 0, .ref 0, .ref 82, .int x3] (retst v [.int s0]) sw' f' Q)) : XP G mL_law (d + 14) 754 [.retAddr 0, .ref 0, .ref 82, .int x3] [.int s0] sw f Q := by
  refine wp_aload_n (M := mL_law) (pc := 754) dL_law_754 rfl rfl ?_
  refine wp_aload_s (M := mL_law) (pc := 755) dL_law_755 rfl rfl ?_
  refine wp_iload_n (M := mL_law) (pc := 756) dL_law_756 rfl rfl ?_
  refine wp_iconst (M := mL_law) (pc := 757) dL_law_757 k_iconst_1 ?_
  refine wp_iadd (M := mL_law) (pc := 758) dL_law_758 ?_
  refine wp_sld (M := mL_law) (pc := 759) dL_law_759 (p1) ?_
  refine wp_aload_s (M := mL_law) (pc := 760) dL_law_760 rfl rfl ?_
  refine wp_iload_n (M := mL_law) (pc := 761) dL_law_761 rfl rfl ?_
  refine wp_iconst (M := mL_law) (pc := 762) dL_law_762 k_iconst_2 ?_
  refine wp_iadd (M := mL_law) (pc := 763) dL_law_763 ?_
  refine wp_sld (M := mL_law) (pc := 764) dL_law_764 (p2) ?_
  refine xs_callV (d := d + 13) (M := mL_law) (pc := 765) (As := [.int (gxs G (x3 + 1).toNatClampNeg), .int (gxs G (x3 + 2).toNatClampNeg)]) (st := [.int s0]) (c := 11) (ls' := [.ref 82, .int (gxs G (x3 + 1).toNatClampNeg), .int (gxs G (x3 + 2).toNatClampNeg)]) dL_law_765 oX11_stops nX11_stops lL_88 vX11_stops sX11_stops rfl sh82 (Nat.le_of_ble_eq_true rfl) rfl (Nat.le_of_ble_eq_true rfl) rfl ?_
  exact p3
theorem bL_law_768 {G : GC} {d : Nat} {sw : Bool} {f : FF} {Q : QQ} {x3 : Int32} {s0 : Int32} {s1 : Int32} (p1 : (s1 = s0) → XP G mL_law (d + 14) 1214 [.retAddr 0, .ref 0, .ref 82, .int x3] [] sw f Q) (p2 : (¬ s1 = s0) → Q (some (.int 0)) sw f) : XP G mL_law (d + 14) 768 [.retAddr 0, .ref 0, .ref 82, .int x3] [.int s0, .int s1] sw f Q := by
  refine wp_icmp_eq (M := mL_law) (pc := 768) (t := 1214) dL_law_768 (by decide) (fun c1 => ?_) (fun c1 => ?_)
  · exact p1 c1
  · refine wp_iconst (M := mL_law) (pc := 771) dL_law_771 k_iconst_0 ?_
    exact xs_zret (M := mL_law) (pc := 772) dL_law_772 rfl (by decide) (p2 c1)
theorem bL_law_777 {G : GC} {d : Nat} {sw : Bool} {f : FF} {Q : QQ} {x3 : Int32} {s0 : Int32} (p1 : XP G mX11_inTheMiddle (d + 13) 0 [.ref 82, .null, .null, .null, .null, .null, .null, .null] [] sw f (fun v sw' f' => XP G mL_law (d + 14) 781 [.retAddr 0, .ref 0, .ref 82, .int x3] (retst v [.int s0]) sw' f' Q)) : XP G mL_law (d + 14) 777 [.retAddr 0, .ref 0, .ref 82, .int x3] [.int s0] sw f Q := by
  refine wp_aload_n (M := mL_law) (pc := 777) dL_law_777 rfl rfl ?_
  refine xs_callV (d := d + 13) (M := mL_law) (pc := 778) (As := []) (st := [.int s0]) (c := 11) (ls' := [.ref 82, .null, .null, .null, .null, .null, .null, .null]) dL_law_778 oX11_inTheMiddle nX11_inTheMiddle lL_93 vX11_inTheMiddle sX11_inTheMiddle rfl sh82 (Nat.le_of_ble_eq_true rfl) rfl (Nat.le_of_ble_eq_true rfl) rfl ?_
  exact p1
theorem bL_law_781 {G : GC} {d : Nat} {sw : Bool} {f : FF} {Q : QQ} {x3 : Int32} {s0 : Int32} {s1 : Int32} (p1 : (s1 = s0) → XP G mL_law (d + 14) 1214 [.retAddr 0, .ref 0, .ref 82, .int x3] [] sw f Q) (p2 : (¬ s1 = s0) → Q (some (.int 0)) sw f) : XP G mL_law (d + 14) 781 [.retAddr 0, .ref 0, .ref 82, .int x3] [.int s0, .int s1] sw f Q := by
  refine wp_icmp_eq (M := mL_law) (pc := 781) (t := 1214) dL_law_781 (by decide) (fun c1 => ?_) (fun c1 => ?_)
  · exact p1 c1
  · refine wp_iconst (M := mL_law) (pc := 784) dL_law_784 k_iconst_0 ?_
    exact xs_zret (M := mL_law) (pc := 785) dL_law_785 rfl (by decide) (p2 c1)
theorem bL_law_805 {G : GC} {d : Nat} {sw : Bool} {f : FF} {Q : QQ} {x3 : Int32} {s0 : Int32} (p1 : vp_in (x3 + 1) (gL G)) (p2 : vp_in (x3 + 2) (gL G)) (p3 : vp_in (x3 + 3) (gL G)) (p4 : XP G mX11_cut (d + 13) 0 [.ref 82, .int (gxs G (x3 + 1).toNatClampNeg), .int (gxs G (x3 + 2).toNatClampNeg), .int (gxs G (x3 + 3).toNatClampNeg), .null, .null, .null, .null] [] sw f (fun v sw' f' => XP G mL_law (d + 14) 824 [.retAddr 0, .ref 0, .ref 82, .int x3] (retst v [.int s0]) sw' f' Q)) : XP G mL_law (d + 14) 805 [.retAddr 0, .ref 0, .ref 82, .int x3] [.int s0] sw f Q := by
  refine wp_aload_n (M := mL_law) (pc := 805) dL_law_805 rfl rfl ?_
  refine wp_aload_s (M := mL_law) (pc := 806) dL_law_806 rfl rfl ?_
  refine wp_iload_n (M := mL_law) (pc := 807) dL_law_807 rfl rfl ?_
  refine wp_iconst (M := mL_law) (pc := 808) dL_law_808 k_iconst_1 ?_
  refine wp_iadd (M := mL_law) (pc := 809) dL_law_809 ?_
  refine wp_sld (M := mL_law) (pc := 810) dL_law_810 (p1) ?_
  refine wp_aload_s (M := mL_law) (pc := 811) dL_law_811 rfl rfl ?_
  refine wp_iload_n (M := mL_law) (pc := 812) dL_law_812 rfl rfl ?_
  refine wp_iconst (M := mL_law) (pc := 813) dL_law_813 k_iconst_2 ?_
  refine wp_iadd (M := mL_law) (pc := 814) dL_law_814 ?_
  refine wp_sld (M := mL_law) (pc := 815) dL_law_815 (p2) ?_
  refine wp_aload_s (M := mL_law) (pc := 816) dL_law_816 rfl rfl ?_
  refine wp_iload_n (M := mL_law) (pc := 817) dL_law_817 rfl rfl ?_
  refine wp_iconst (M := mL_law) (pc := 818) dL_law_818 k_iconst_3 ?_
  refine wp_iadd (M := mL_law) (pc := 819) dL_law_819 ?_
  refine wp_sld (M := mL_law) (pc := 820) dL_law_820 (p3) ?_
  refine xs_callV (d := d + 13) (M := mL_law) (pc := 821) (As := [.int (gxs G (x3 + 1).toNatClampNeg), .int (gxs G (x3 + 2).toNatClampNeg), .int (gxs G (x3 + 3).toNatClampNeg)]) (st := [.int s0]) (c := 11) (ls' := [.ref 82, .int (gxs G (x3 + 1).toNatClampNeg), .int (gxs G (x3 + 2).toNatClampNeg), .int (gxs G (x3 + 3).toNatClampNeg), .null, .null, .null, .null]) dL_law_821 oX11_cut nX11_cut lL_97 vX11_cut sX11_cut rfl sh82 (Nat.le_of_ble_eq_true rfl) rfl (Nat.le_of_ble_eq_true rfl) rfl ?_
  exact p4
theorem bL_law_824 {G : GC} {d : Nat} {sw : Bool} {f : FF} {Q : QQ} {x3 : Int32} {s0 : Int32} {s1 : Int32} (p1 : (s1 = s0) → XP G mL_law (d + 14) 1214 [.retAddr 0, .ref 0, .ref 82, .int x3] [] sw f Q) (p2 : (¬ s1 = s0) → Q (some (.int 0)) sw f) : XP G mL_law (d + 14) 824 [.retAddr 0, .ref 0, .ref 82, .int x3] [.int s0, .int s1] sw f Q := by
  refine wp_icmp_eq (M := mL_law) (pc := 824) (t := 1214) dL_law_824 (by decide) (fun c1 => ?_) (fun c1 => ?_)
  · exact p1 c1
  · refine wp_iconst (M := mL_law) (pc := 827) dL_law_827 k_iconst_0 ?_
    exact xs_zret (M := mL_law) (pc := 828) dL_law_828 rfl (by decide) (p2 c1)
theorem bL_law_848 {G : GC} {d : Nat} {sw : Bool} {f : FF} {Q : QQ} {x3 : Int32} {s0 : Int32} (p1 : vp_in (x3 + 1) (gL G)) (p2 : vp_in (x3 + 2) (gL G)) (p3 : vp_in (x3 + 3) (gL G)) (p4 : XP G mX11_heir (d + 13) 0 [.ref 82, .int (gxs G (x3 + 1).toNatClampNeg), .int (gxs G (x3 + 2).toNatClampNeg), .int (gxs G (x3 + 3).toNatClampNeg), .null, .null, .null] [] sw f (fun v sw' f' => XP G mL_law (d + 14) 867 [.retAddr 0, .ref 0, .ref 82, .int x3] (retst v [.int s0]) sw' f' Q)) : XP G mL_law (d + 14) 848 [.retAddr 0, .ref 0, .ref 82, .int x3] [.int s0] sw f Q := by
  refine wp_aload_n (M := mL_law) (pc := 848) dL_law_848 rfl rfl ?_
  refine wp_aload_s (M := mL_law) (pc := 849) dL_law_849 rfl rfl ?_
  refine wp_iload_n (M := mL_law) (pc := 850) dL_law_850 rfl rfl ?_
  refine wp_iconst (M := mL_law) (pc := 851) dL_law_851 k_iconst_1 ?_
  refine wp_iadd (M := mL_law) (pc := 852) dL_law_852 ?_
  refine wp_sld (M := mL_law) (pc := 853) dL_law_853 (p1) ?_
  refine wp_aload_s (M := mL_law) (pc := 854) dL_law_854 rfl rfl ?_
  refine wp_iload_n (M := mL_law) (pc := 855) dL_law_855 rfl rfl ?_
  refine wp_iconst (M := mL_law) (pc := 856) dL_law_856 k_iconst_2 ?_
  refine wp_iadd (M := mL_law) (pc := 857) dL_law_857 ?_
  refine wp_sld (M := mL_law) (pc := 858) dL_law_858 (p2) ?_
  refine wp_aload_s (M := mL_law) (pc := 859) dL_law_859 rfl rfl ?_
  refine wp_iload_n (M := mL_law) (pc := 860) dL_law_860 rfl rfl ?_
  refine wp_iconst (M := mL_law) (pc := 861) dL_law_861 k_iconst_3 ?_
  refine wp_iadd (M := mL_law) (pc := 862) dL_law_862 ?_
  refine wp_sld (M := mL_law) (pc := 863) dL_law_863 (p3) ?_
  refine xs_callV (d := d + 13) (M := mL_law) (pc := 864) (As := [.int (gxs G (x3 + 1).toNatClampNeg), .int (gxs G (x3 + 2).toNatClampNeg), .int (gxs G (x3 + 3).toNatClampNeg)]) (st := [.int s0]) (c := 11) (ls' := [.ref 82, .int (gxs G (x3 + 1).toNatClampNeg), .int (gxs G (x3 + 2).toNatClampNeg), .int (gxs G (x3 + 3).toNatClampNeg), .null, .null, .null]) dL_law_864 oX11_heir nX11_heir lL_101 vX11_heir sX11_heir rfl sh82 (Nat.le_of_ble_eq_true rfl) rfl (Nat.le_of_ble_eq_true rfl) rfl ?_
  exact p4
theorem bL_law_867 {G : GC} {d : Nat} {sw : Bool} {f : FF} {Q : QQ} {x3 : Int32} {s0 : Int32} {s1 : Int32} (p1 : (s1 = s0) → XP G mL_law (d + 14) 1214 [.retAddr 0, .ref 0, .ref 82, .int x3] [] sw f Q) (p2 : (¬ s1 = s0) → Q (some (.int 0)) sw f) : XP G mL_law (d + 14) 867 [.retAddr 0, .ref 0, .ref 82, .int x3] [.int s0, .int s1] sw f Q := by
  refine wp_icmp_eq (M := mL_law) (pc := 867) (t := 1214) dL_law_867 (by decide) (fun c1 => ?_) (fun c1 => ?_)
  · exact p1 c1
  · refine wp_iconst (M := mL_law) (pc := 870) dL_law_870 k_iconst_0 ?_
    exact xs_zret (M := mL_law) (pc := 871) dL_law_871 rfl (by decide) (p2 c1)
theorem bL_law_886 {G : GC} {d : Nat} {sw : Bool} {f : FF} {Q : QQ} {x3 : Int32} {s0 : Int32} (p1 : vp_in (x3 + 1) (gL G)) (p2 : vp_in (x3 + 2) (gL G)) (p3 : XP G mX11_busy (d + 13) 0 [.ref 82, .int (gxs G (x3 + 1).toNatClampNeg), .int (gxs G (x3 + 2).toNatClampNeg), .null, .null, .null] [] sw f (fun v sw' f' => XP G mL_law (d + 14) 900 [.retAddr 0, .ref 0, .ref 82, .int x3] (retst v [.int s0]) sw' f' Q)) : XP G mL_law (d + 14) 886 [.retAddr 0, .ref 0, .ref 82, .int x3] [.int s0] sw f Q := by
  refine wp_aload_n (M := mL_law) (pc := 886) dL_law_886 rfl rfl ?_
  refine wp_aload_s (M := mL_law) (pc := 887) dL_law_887 rfl rfl ?_
  refine wp_iload_n (M := mL_law) (pc := 888) dL_law_888 rfl rfl ?_
  refine wp_iconst (M := mL_law) (pc := 889) dL_law_889 k_iconst_1 ?_
  refine wp_iadd (M := mL_law) (pc := 890) dL_law_890 ?_
  refine wp_sld (M := mL_law) (pc := 891) dL_law_891 (p1) ?_
  refine wp_aload_s (M := mL_law) (pc := 892) dL_law_892 rfl rfl ?_
  refine wp_iload_n (M := mL_law) (pc := 893) dL_law_893 rfl rfl ?_
  refine wp_iconst (M := mL_law) (pc := 894) dL_law_894 k_iconst_2 ?_
  refine wp_iadd (M := mL_law) (pc := 895) dL_law_895 ?_
  refine wp_sld (M := mL_law) (pc := 896) dL_law_896 (p2) ?_
  refine xs_callV (d := d + 13) (M := mL_law) (pc := 897) (As := [.int (gxs G (x3 + 1).toNatClampNeg), .int (gxs G (x3 + 2).toNatClampNeg)]) (st := [.int s0]) (c := 11) (ls' := [.ref 82, .int (gxs G (x3 + 1).toNatClampNeg), .int (gxs G (x3 + 2).toNatClampNeg), .null, .null, .null]) dL_law_897 oX11_busy nX11_busy lL_105 vX11_busy sX11_busy rfl sh82 (Nat.le_of_ble_eq_true rfl) rfl (Nat.le_of_ble_eq_true rfl) rfl ?_
  exact p3
theorem bL_law_900 {G : GC} {d : Nat} {sw : Bool} {f : FF} {Q : QQ} {x3 : Int32} {s0 : Int32} {s1 : Int32} (p1 : (s1 = s0) → XP G mL_law (d + 14) 1214 [.retAddr 0, .ref 0, .ref 82, .int x3] [] sw f Q) (p2 : (¬ s1 = s0) → Q (some (.int 0)) sw f) : XP G mL_law (d + 14) 900 [.retAddr 0, .ref 0, .ref 82, .int x3] [.int s0, .int s1] sw f Q := by
  refine wp_icmp_eq (M := mL_law) (pc := 900) (t := 1214) dL_law_900 (by decide) (fun c1 => ?_) (fun c1 => ?_)
  · exact p1 c1
  · refine wp_iconst (M := mL_law) (pc := 903) dL_law_903 k_iconst_0 ?_
    exact xs_zret (M := mL_law) (pc := 904) dL_law_904 rfl (by decide) (p2 c1)
theorem bL_law_924 {G : GC} {d : Nat} {sw : Bool} {f : FF} {Q : QQ} {x3 : Int32} {s0 : Int32} (p1 : vp_in (x3 + 1) (gL G)) (p2 : vp_in (x3 + 2) (gL G)) (p3 : vp_in (x3 + 3) (gL G)) (p4 : XP G mX11_cheapest (d + 13) 0 [.ref 82, .int (gxs G (x3 + 1).toNatClampNeg), .int (gxs G (x3 + 2).toNatClampNeg), .int (gxs G (x3 + 3).toNatClampNeg), .null, .null] [] sw f (fun v sw' f' => XP G mL_law (d + 14) 943 [.retAddr 0, .ref 0, .ref 82, .int x3] (retst v [.int s0]) sw' f' Q)) : XP G mL_law (d + 14) 924 [.retAddr 0, .ref 0, .ref 82, .int x3] [.int s0] sw f Q := by
  refine wp_aload_n (M := mL_law) (pc := 924) dL_law_924 rfl rfl ?_
  refine wp_aload_s (M := mL_law) (pc := 925) dL_law_925 rfl rfl ?_
  refine wp_iload_n (M := mL_law) (pc := 926) dL_law_926 rfl rfl ?_
  refine wp_iconst (M := mL_law) (pc := 927) dL_law_927 k_iconst_1 ?_
  refine wp_iadd (M := mL_law) (pc := 928) dL_law_928 ?_
  refine wp_sld (M := mL_law) (pc := 929) dL_law_929 (p1) ?_
  refine wp_aload_s (M := mL_law) (pc := 930) dL_law_930 rfl rfl ?_
  refine wp_iload_n (M := mL_law) (pc := 931) dL_law_931 rfl rfl ?_
  refine wp_iconst (M := mL_law) (pc := 932) dL_law_932 k_iconst_2 ?_
  refine wp_iadd (M := mL_law) (pc := 933) dL_law_933 ?_
  refine wp_sld (M := mL_law) (pc := 934) dL_law_934 (p2) ?_
  refine wp_aload_s (M := mL_law) (pc := 935) dL_law_935 rfl rfl ?_
  refine wp_iload_n (M := mL_law) (pc := 936) dL_law_936 rfl rfl ?_
  refine wp_iconst (M := mL_law) (pc := 937) dL_law_937 k_iconst_3 ?_
  refine wp_iadd (M := mL_law) (pc := 938) dL_law_938 ?_
  refine wp_sld (M := mL_law) (pc := 939) dL_law_939 (p3) ?_
  refine xs_callV (d := d + 13) (M := mL_law) (pc := 940) (As := [.int (gxs G (x3 + 1).toNatClampNeg), .int (gxs G (x3 + 2).toNatClampNeg), .int (gxs G (x3 + 3).toNatClampNeg)]) (st := [.int s0]) (c := 11) (ls' := [.ref 82, .int (gxs G (x3 + 1).toNatClampNeg), .int (gxs G (x3 + 2).toNatClampNeg), .int (gxs G (x3 + 3).toNatClampNeg), .null, .null]) dL_law_940 oX11_cheapest nX11_cheapest lL_109 vX11_cheapest sX11_cheapest rfl sh82 (Nat.le_of_ble_eq_true rfl) rfl (Nat.le_of_ble_eq_true rfl) rfl ?_
  exact p4
theorem bL_law_943 {G : GC} {d : Nat} {sw : Bool} {f : FF} {Q : QQ} {x3 : Int32} {s0 : Int32} {s1 : Int32} (p1 : (s1 = s0) → XP G mL_law (d + 14) 1214 [.retAddr 0, .ref 0, .ref 82, .int x3] [] sw f Q) (p2 : (¬ s1 = s0) → Q (some (.int 0)) sw f) : XP G mL_law (d + 14) 943 [.retAddr 0, .ref 0, .ref 82, .int x3] [.int s0, .int s1] sw f Q := by
  refine wp_icmp_eq (M := mL_law) (pc := 943) (t := 1214) dL_law_943 (by decide) (fun c1 => ?_) (fun c1 => ?_)
  · exact p1 c1
  · refine wp_iconst (M := mL_law) (pc := 946) dL_law_946 k_iconst_0 ?_
    exact xs_zret (M := mL_law) (pc := 947) dL_law_947 rfl (by decide) (p2 c1)
theorem bL_law_962 {G : GC} {d : Nat} {sw : Bool} {f : FF} {Q : QQ} {x3 : Int32} {s0 : Int32} (p1 : vp_in (x3 + 1) (gL G)) (p2 : vp_in (x3 + 2) (gL G)) (p3 : XP G mX11_told (d + 13) 0 [.ref 82, .int (gxs G (x3 + 1).toNatClampNeg), .int (gxs G (x3 + 2).toNatClampNeg), .null, .null] [] sw f (fun v sw' f' => XP G mL_law (d + 14) 976 [.retAddr 0, .ref 0, .ref 82, .int x3] (retst v [.int s0]) sw' f' Q)) : XP G mL_law (d + 14) 962 [.retAddr 0, .ref 0, .ref 82, .int x3] [.int s0] sw f Q := by
  refine wp_aload_n (M := mL_law) (pc := 962) dL_law_962 rfl rfl ?_
  refine wp_aload_s (M := mL_law) (pc := 963) dL_law_963 rfl rfl ?_
  refine wp_iload_n (M := mL_law) (pc := 964) dL_law_964 rfl rfl ?_
  refine wp_iconst (M := mL_law) (pc := 965) dL_law_965 k_iconst_1 ?_
  refine wp_iadd (M := mL_law) (pc := 966) dL_law_966 ?_
  refine wp_sld (M := mL_law) (pc := 967) dL_law_967 (p1) ?_
  refine wp_aload_s (M := mL_law) (pc := 968) dL_law_968 rfl rfl ?_
  refine wp_iload_n (M := mL_law) (pc := 969) dL_law_969 rfl rfl ?_
  refine wp_iconst (M := mL_law) (pc := 970) dL_law_970 k_iconst_2 ?_
  refine wp_iadd (M := mL_law) (pc := 971) dL_law_971 ?_
  refine wp_sld (M := mL_law) (pc := 972) dL_law_972 (p2) ?_
  refine xs_callV (d := d + 13) (M := mL_law) (pc := 973) (As := [.int (gxs G (x3 + 1).toNatClampNeg), .int (gxs G (x3 + 2).toNatClampNeg)]) (st := [.int s0]) (c := 11) (ls' := [.ref 82, .int (gxs G (x3 + 1).toNatClampNeg), .int (gxs G (x3 + 2).toNatClampNeg), .null, .null]) dL_law_973 oX11_told nX11_told lL_113 vX11_told sX11_told rfl sh82 (Nat.le_of_ble_eq_true rfl) rfl (Nat.le_of_ble_eq_true rfl) rfl ?_
  exact p3
theorem bL_law_976 {G : GC} {d : Nat} {sw : Bool} {f : FF} {Q : QQ} {x3 : Int32} {s0 : Int32} {s1 : Int32} (p1 : (s1 = s0) → XP G mL_law (d + 14) 1214 [.retAddr 0, .ref 0, .ref 82, .int x3] [] sw f Q) (p2 : (¬ s1 = s0) → Q (some (.int 0)) sw f) : XP G mL_law (d + 14) 976 [.retAddr 0, .ref 0, .ref 82, .int x3] [.int s0, .int s1] sw f Q := by
  refine wp_icmp_eq (M := mL_law) (pc := 976) (t := 1214) dL_law_976 (by decide) (fun c1 => ?_) (fun c1 => ?_)
  · exact p1 c1
  · refine wp_iconst (M := mL_law) (pc := 979) dL_law_979 k_iconst_0 ?_
    exact xs_zret (M := mL_law) (pc := 980) dL_law_980 rfl (by decide) (p2 c1)
theorem bL_law_1013 {G : GC} {d : Nat} {sw : Bool} {f : FF} {Q : QQ} {x3 : Int32} {s0 : Int32} (p1 : vp_in (x3 + 1) (gL G)) (p2 : vp_in (x3 + 2) (gL G)) (p3 : vp_in (x3 + 3) (gL G)) (p4 : ((gxs G (x3 + 3).toNatClampNeg) = 0) → vp_in (x3 + 4) (gL G)) (p5 : ((gxs G (x3 + 3).toNatClampNeg) = 0) → XP G mX11_epitaph (d + 13) 0 [.ref 82, .int (gxs G (x3 + 1).toNatClampNeg), .int (gxs G (x3 + 2).toNatClampNeg), .int 0, .int (gxs G (x3 + 4).toNatClampNeg), .null, .null] [] sw f (fun v sw' f' => XP G mL_law (d + 14) 1045 [.retAddr 0, .ref 0, .ref 82, .int x3] (retst v [.int s0]) sw' f' Q)) (p6 : (¬ (gxs G (x3 + 3).toNatClampNeg) = 0) → vp_in (x3 + 4) (gL G)) (p7 : (¬ (gxs G (x3 + 3).toNatClampNeg) = 0) → XP G mX11_epitaph (d + 13) 0 [.ref 82, .int (gxs G (x3 + 1).toNatClampNeg), .int (gxs G (x3 + 2).toNatClampNeg), .int 1, .int (gxs G (x3 + 4).toNatClampNeg), .null, .null] [] sw f (fun v sw' f' => XP G mL_law (d + 14) 1045 [.retAddr 0, .ref 0, .ref 82, .int x3] (retst v [.int s0]) sw' f' Q)) : XP G mL_law (d + 14) 1013 [.retAddr 0, .ref 0, .ref 82, .int x3] [.int s0] sw f Q := by
  refine wp_aload_n (M := mL_law) (pc := 1013) dL_law_1013 rfl rfl ?_
  refine wp_aload_s (M := mL_law) (pc := 1014) dL_law_1014 rfl rfl ?_
  refine wp_iload_n (M := mL_law) (pc := 1015) dL_law_1015 rfl rfl ?_
  refine wp_iconst (M := mL_law) (pc := 1016) dL_law_1016 k_iconst_1 ?_
  refine wp_iadd (M := mL_law) (pc := 1017) dL_law_1017 ?_
  refine wp_sld (M := mL_law) (pc := 1018) dL_law_1018 (p1) ?_
  refine wp_aload_s (M := mL_law) (pc := 1019) dL_law_1019 rfl rfl ?_
  refine wp_iload_n (M := mL_law) (pc := 1020) dL_law_1020 rfl rfl ?_
  refine wp_iconst (M := mL_law) (pc := 1021) dL_law_1021 k_iconst_2 ?_
  refine wp_iadd (M := mL_law) (pc := 1022) dL_law_1022 ?_
  refine wp_sld (M := mL_law) (pc := 1023) dL_law_1023 (p2) ?_
  refine wp_aload_s (M := mL_law) (pc := 1024) dL_law_1024 rfl rfl ?_
  refine wp_iload_n (M := mL_law) (pc := 1025) dL_law_1025 rfl rfl ?_
  refine wp_iconst (M := mL_law) (pc := 1026) dL_law_1026 k_iconst_3 ?_
  refine wp_iadd (M := mL_law) (pc := 1027) dL_law_1027 ?_
  refine wp_sld (M := mL_law) (pc := 1028) dL_law_1028 (p3) ?_
  refine wp_if_eq (M := mL_law) (pc := 1029) (t := 1036) dL_law_1029 (by decide) (fun c1 => ?_) (fun c1 => ?_)
  · refine wp_iconst (M := mL_law) (pc := 1036) dL_law_1036 k_iconst_0 ?_
    refine wp_aload_s (M := mL_law) (pc := 1037) dL_law_1037 rfl rfl ?_
    refine wp_iload_n (M := mL_law) (pc := 1038) dL_law_1038 rfl rfl ?_
    refine wp_iconst (M := mL_law) (pc := 1039) dL_law_1039 k_iconst_4 ?_
    refine wp_iadd (M := mL_law) (pc := 1040) dL_law_1040 ?_
    refine wp_sld (M := mL_law) (pc := 1041) dL_law_1041 (p4 c1) ?_
    refine xs_callV (d := d + 13) (M := mL_law) (pc := 1042) (As := [.int (gxs G (x3 + 1).toNatClampNeg), .int (gxs G (x3 + 2).toNatClampNeg), .int 0, .int (gxs G (x3 + 4).toNatClampNeg)]) (st := [.int s0]) (c := 11) (ls' := [.ref 82, .int (gxs G (x3 + 1).toNatClampNeg), .int (gxs G (x3 + 2).toNatClampNeg), .int 0, .int (gxs G (x3 + 4).toNatClampNeg), .null, .null]) dL_law_1042 oX11_epitaph nX11_epitaph lL_118 vX11_epitaph sX11_epitaph rfl sh82 (Nat.le_of_ble_eq_true rfl) rfl (Nat.le_of_ble_eq_true rfl) rfl ?_
    exact p5 c1
  · refine wp_iconst (M := mL_law) (pc := 1032) dL_law_1032 k_iconst_1 ?_
    refine wp_goto (M := mL_law) (pc := 1033) (t := 1037) dL_law_1033 (by decide) ?_
    refine wp_aload_s (M := mL_law) (pc := 1037) dL_law_1037 rfl rfl ?_
    refine wp_iload_n (M := mL_law) (pc := 1038) dL_law_1038 rfl rfl ?_
    refine wp_iconst (M := mL_law) (pc := 1039) dL_law_1039 k_iconst_4 ?_
    refine wp_iadd (M := mL_law) (pc := 1040) dL_law_1040 ?_
    refine wp_sld (M := mL_law) (pc := 1041) dL_law_1041 (p6 c1) ?_
    refine xs_callV (d := d + 13) (M := mL_law) (pc := 1042) (As := [.int (gxs G (x3 + 1).toNatClampNeg), .int (gxs G (x3 + 2).toNatClampNeg), .int 1, .int (gxs G (x3 + 4).toNatClampNeg)]) (st := [.int s0]) (c := 11) (ls' := [.ref 82, .int (gxs G (x3 + 1).toNatClampNeg), .int (gxs G (x3 + 2).toNatClampNeg), .int 1, .int (gxs G (x3 + 4).toNatClampNeg), .null, .null]) dL_law_1042 oX11_epitaph nX11_epitaph lL_118 vX11_epitaph sX11_epitaph rfl sh82 (Nat.le_of_ble_eq_true rfl) rfl (Nat.le_of_ble_eq_true rfl) rfl ?_
    exact p7 c1
theorem bL_law_1045 {G : GC} {d : Nat} {sw : Bool} {f : FF} {Q : QQ} {x3 : Int32} {s0 : Int32} {s1 : Int32} (p1 : (s1 = s0) → XP G mL_law (d + 14) 1214 [.retAddr 0, .ref 0, .ref 82, .int x3] [] sw f Q) (p2 : (¬ s1 = s0) → Q (some (.int 0)) sw f) : XP G mL_law (d + 14) 1045 [.retAddr 0, .ref 0, .ref 82, .int x3] [.int s0, .int s1] sw f Q := by
  refine wp_icmp_eq (M := mL_law) (pc := 1045) (t := 1214) dL_law_1045 (by decide) (fun c1 => ?_) (fun c1 => ?_)
  · exact p1 c1
  · refine wp_iconst (M := mL_law) (pc := 1048) dL_law_1048 k_iconst_0 ?_
    exact xs_zret (M := mL_law) (pc := 1049) dL_law_1049 rfl (by decide) (p2 c1)
theorem bL_law_1064 {G : GC} {d : Nat} {sw : Bool} {f : FF} {Q : QQ} {x3 : Int32} {s0 : Int32} (p1 : vp_in (x3 + 1) (gL G)) (p2 : vp_in (x3 + 2) (gL G)) (p3 : XP G mX11_dialled (d + 13) 0 [.ref 82, .int (gxs G (x3 + 1).toNatClampNeg), .int (gxs G (x3 + 2).toNatClampNeg), .null, .null, .null] [] sw f (fun v sw' f' => XP G mL_law (d + 14) 1078 [.retAddr 0, .ref 0, .ref 82, .int x3] (retst v [.int s0]) sw' f' Q)) : XP G mL_law (d + 14) 1064 [.retAddr 0, .ref 0, .ref 82, .int x3] [.int s0] sw f Q := by
  refine wp_aload_n (M := mL_law) (pc := 1064) dL_law_1064 rfl rfl ?_
  refine wp_aload_s (M := mL_law) (pc := 1065) dL_law_1065 rfl rfl ?_
  refine wp_iload_n (M := mL_law) (pc := 1066) dL_law_1066 rfl rfl ?_
  refine wp_iconst (M := mL_law) (pc := 1067) dL_law_1067 k_iconst_1 ?_
  refine wp_iadd (M := mL_law) (pc := 1068) dL_law_1068 ?_
  refine wp_sld (M := mL_law) (pc := 1069) dL_law_1069 (p1) ?_
  refine wp_aload_s (M := mL_law) (pc := 1070) dL_law_1070 rfl rfl ?_
  refine wp_iload_n (M := mL_law) (pc := 1071) dL_law_1071 rfl rfl ?_
  refine wp_iconst (M := mL_law) (pc := 1072) dL_law_1072 k_iconst_2 ?_
  refine wp_iadd (M := mL_law) (pc := 1073) dL_law_1073 ?_
  refine wp_sld (M := mL_law) (pc := 1074) dL_law_1074 (p2) ?_
  refine xs_callV (d := d + 13) (M := mL_law) (pc := 1075) (As := [.int (gxs G (x3 + 1).toNatClampNeg), .int (gxs G (x3 + 2).toNatClampNeg)]) (st := [.int s0]) (c := 11) (ls' := [.ref 82, .int (gxs G (x3 + 1).toNatClampNeg), .int (gxs G (x3 + 2).toNatClampNeg), .null, .null, .null]) dL_law_1075 oX11_dialled nX11_dialled lL_122 vX11_dialled sX11_dialled rfl sh82 (Nat.le_of_ble_eq_true rfl) rfl (Nat.le_of_ble_eq_true rfl) rfl ?_
  exact p3
theorem bL_law_1078 {G : GC} {d : Nat} {sw : Bool} {f : FF} {Q : QQ} {x3 : Int32} {s0 : Int32} {s1 : Int32} (p1 : (s1 = s0) → XP G mL_law (d + 14) 1214 [.retAddr 0, .ref 0, .ref 82, .int x3] [] sw f Q) (p2 : (¬ s1 = s0) → Q (some (.int 0)) sw f) : XP G mL_law (d + 14) 1078 [.retAddr 0, .ref 0, .ref 82, .int x3] [.int s0, .int s1] sw f Q := by
  refine wp_icmp_eq (M := mL_law) (pc := 1078) (t := 1214) dL_law_1078 (by decide) (fun c1 => ?_) (fun c1 => ?_)
  · exact p1 c1
  · refine wp_iconst (M := mL_law) (pc := 1081) dL_law_1081 k_iconst_0 ?_
    exact xs_zret (M := mL_law) (pc := 1082) dL_law_1082 rfl (by decide) (p2 c1)
theorem bL_law_1087 {G : GC} {d : Nat} {sw : Bool} {f : FF} {Q : QQ} {x3 : Int32} {s0 : Int32} (p1 : XP G mX11_clear (d + 13) 0 [.ref 82, .null, .null] [] sw f (fun v sw' f' => XP G mL_law (d + 14) 1091 [.retAddr 0, .ref 0, .ref 82, .int x3] (retst v [.int s0]) sw' f' Q)) : XP G mL_law (d + 14) 1087 [.retAddr 0, .ref 0, .ref 82, .int x3] [.int s0] sw f Q := by
  refine wp_aload_n (M := mL_law) (pc := 1087) dL_law_1087 rfl rfl ?_
  refine xs_callV (d := d + 13) (M := mL_law) (pc := 1088) (As := []) (st := [.int s0]) (c := 11) (ls' := [.ref 82, .null, .null]) dL_law_1088 oX11_clear nX11_clear lL_126 vX11_clear sX11_clear rfl sh82 (Nat.le_of_ble_eq_true rfl) rfl (Nat.le_of_ble_eq_true rfl) rfl ?_
  exact p1
theorem bL_law_1091 {G : GC} {d : Nat} {sw : Bool} {f : FF} {Q : QQ} {x3 : Int32} {s0 : Int32} {s1 : Int32} (p1 : (s1 = s0) → XP G mL_law (d + 14) 1214 [.retAddr 0, .ref 0, .ref 82, .int x3] [] sw f Q) (p2 : (¬ s1 = s0) → Q (some (.int 0)) sw f) : XP G mL_law (d + 14) 1091 [.retAddr 0, .ref 0, .ref 82, .int x3] [.int s0, .int s1] sw f Q := by
  refine wp_icmp_eq (M := mL_law) (pc := 1091) (t := 1214) dL_law_1091 (by decide) (fun c1 => ?_) (fun c1 => ?_)
  · exact p1 c1
  · refine wp_iconst (M := mL_law) (pc := 1094) dL_law_1094 k_iconst_0 ?_
    exact xs_zret (M := mL_law) (pc := 1095) dL_law_1095 rfl (by decide) (p2 c1)
theorem bL_law_1105 {G : GC} {d : Nat} {sw : Bool} {f : FF} {Q : QQ} {x3 : Int32} {s0 : Int32} (p1 : vp_in (x3 + 1) (gL G)) (p2 : XP G mX11_freeCode (d + 13) 0 [.ref 82, .int (gxs G (x3 + 1).toNatClampNeg), .null, .null, .null, .null] [] sw f (fun v sw' f' => XP G mL_law (d + 14) 1114 [.retAddr 0, .ref 0, .ref 82, .int x3] (retst v [.int s0]) sw' f' Q)) : XP G mL_law (d + 14) 1105 [.retAddr 0, .ref 0, .ref 82, .int x3] [.int s0] sw f Q := by
  refine wp_aload_n (M := mL_law) (pc := 1105) dL_law_1105 rfl rfl ?_
  refine wp_aload_s (M := mL_law) (pc := 1106) dL_law_1106 rfl rfl ?_
  refine wp_iload_n (M := mL_law) (pc := 1107) dL_law_1107 rfl rfl ?_
  refine wp_iconst (M := mL_law) (pc := 1108) dL_law_1108 k_iconst_1 ?_
  refine wp_iadd (M := mL_law) (pc := 1109) dL_law_1109 ?_
  refine wp_sld (M := mL_law) (pc := 1110) dL_law_1110 (p1) ?_
  refine xs_callV (d := d + 13) (M := mL_law) (pc := 1111) (As := [.int (gxs G (x3 + 1).toNatClampNeg)]) (st := [.int s0]) (c := 11) (ls' := [.ref 82, .int (gxs G (x3 + 1).toNatClampNeg), .null, .null, .null, .null]) dL_law_1111 oX11_freeCode nX11_freeCode lL_130 vX11_freeCode sX11_freeCode rfl sh82 (Nat.le_of_ble_eq_true rfl) rfl (Nat.le_of_ble_eq_true rfl) rfl ?_
  exact p2
theorem bL_law_1114 {G : GC} {d : Nat} {sw : Bool} {f : FF} {Q : QQ} {x3 : Int32} {s0 : Int32} {s1 : Int32} (p1 : (s1 = s0) → XP G mL_law (d + 14) 1214 [.retAddr 0, .ref 0, .ref 82, .int x3] [] sw f Q) (p2 : (¬ s1 = s0) → Q (some (.int 0)) sw f) : XP G mL_law (d + 14) 1114 [.retAddr 0, .ref 0, .ref 82, .int x3] [.int s0, .int s1] sw f Q := by
  refine wp_icmp_eq (M := mL_law) (pc := 1114) (t := 1214) dL_law_1114 (by decide) (fun c1 => ?_) (fun c1 => ?_)
  · exact p1 c1
  · refine wp_iconst (M := mL_law) (pc := 1117) dL_law_1117 k_iconst_0 ?_
    exact xs_zret (M := mL_law) (pc := 1118) dL_law_1118 rfl (by decide) (p2 c1)
theorem bL_law_1128 {G : GC} {d : Nat} {sw : Bool} {f : FF} {Q : QQ} {x3 : Int32} {s0 : Int32} (p1 : vp_in (x3 + 1) (gL G)) (p2 : XP G mX11_seed (d + 13) 0 [.ref 82, .int (gxs G (x3 + 1).toNatClampNeg)] [] sw f (fun v sw' f' => XP G mL_law (d + 14) 1137 [.retAddr 0, .ref 0, .ref 82, .int x3] (retst v [.int s0]) sw' f' Q)) : XP G mL_law (d + 14) 1128 [.retAddr 0, .ref 0, .ref 82, .int x3] [.int s0] sw f Q := by
  refine wp_aload_n (M := mL_law) (pc := 1128) dL_law_1128 rfl rfl ?_
  refine wp_aload_s (M := mL_law) (pc := 1129) dL_law_1129 rfl rfl ?_
  refine wp_iload_n (M := mL_law) (pc := 1130) dL_law_1130 rfl rfl ?_
  refine wp_iconst (M := mL_law) (pc := 1131) dL_law_1131 k_iconst_1 ?_
  refine wp_iadd (M := mL_law) (pc := 1132) dL_law_1132 ?_
  refine wp_sld (M := mL_law) (pc := 1133) dL_law_1133 (p1) ?_
  refine xs_callV (d := d + 13) (M := mL_law) (pc := 1134) (As := [.int (gxs G (x3 + 1).toNatClampNeg)]) (st := [.int s0]) (c := 11) (ls' := [.ref 82, .int (gxs G (x3 + 1).toNatClampNeg)]) dL_law_1134 oX11_seed nX11_seed lL_134 vX11_seed sX11_seed rfl sh82 (Nat.le_of_ble_eq_true rfl) rfl (Nat.le_of_ble_eq_true rfl) rfl ?_
  exact p2
theorem bL_law_1137 {G : GC} {d : Nat} {sw : Bool} {f : FF} {Q : QQ} {x3 : Int32} {s0 : Int32} {s1 : Int32} (p1 : (s1 = s0) → XP G mL_law (d + 14) 1214 [.retAddr 0, .ref 0, .ref 82, .int x3] [] sw f Q) (p2 : (¬ s1 = s0) → Q (some (.int 0)) sw f) : XP G mL_law (d + 14) 1137 [.retAddr 0, .ref 0, .ref 82, .int x3] [.int s0, .int s1] sw f Q := by
  refine wp_icmp_eq (M := mL_law) (pc := 1137) (t := 1214) dL_law_1137 (by decide) (fun c1 => ?_) (fun c1 => ?_)
  · exact p1 c1
  · refine wp_iconst (M := mL_law) (pc := 1140) dL_law_1140 k_iconst_0 ?_
    exact xs_zret (M := mL_law) (pc := 1141) dL_law_1141 rfl (by decide) (p2 c1)
theorem bL_law_1146 {G : GC} {d : Nat} {sw : Bool} {f : FF} {Q : QQ} {x3 : Int32} {s0 : Int32} (p1 : XP G mX11_keep (d + 13) 0 [.ref 82] [] sw f (fun v sw' f' => XP G mL_law (d + 14) 1150 [.retAddr 0, .ref 0, .ref 82, .int x3] (retst v [.int s0]) sw' f' Q)) : XP G mL_law (d + 14) 1146 [.retAddr 0, .ref 0, .ref 82, .int x3] [.int s0] sw f Q := by
  refine wp_aload_n (M := mL_law) (pc := 1146) dL_law_1146 rfl rfl ?_
  refine xs_callV (d := d + 13) (M := mL_law) (pc := 1147) (As := []) (st := [.int s0]) (c := 11) (ls' := [.ref 82]) dL_law_1147 oX11_keep nX11_keep lL_138 vX11_keep sX11_keep rfl sh82 (Nat.le_of_ble_eq_true rfl) rfl (Nat.le_of_ble_eq_true rfl) rfl ?_
  exact p1
theorem bL_law_1150 {G : GC} {d : Nat} {sw : Bool} {f : FF} {Q : QQ} {x3 : Int32} {s0 : Int32} {s1 : Int32} (p1 : (s1 = s0) → XP G mL_law (d + 14) 1214 [.retAddr 0, .ref 0, .ref 82, .int x3] [] sw f Q) (p2 : (¬ s1 = s0) → Q (some (.int 0)) sw f) : XP G mL_law (d + 14) 1150 [.retAddr 0, .ref 0, .ref 82, .int x3] [.int s0, .int s1] sw f Q := by
  refine wp_icmp_eq (M := mL_law) (pc := 1150) (t := 1214) dL_law_1150 (by decide) (fun c1 => ?_) (fun c1 => ?_)
  · exact p1 c1
  · refine wp_iconst (M := mL_law) (pc := 1153) dL_law_1153 k_iconst_0 ?_
    exact xs_zret (M := mL_law) (pc := 1154) dL_law_1154 rfl (by decide) (p2 c1)
theorem bL_law_1159 {G : GC} {d : Nat} {sw : Bool} {f : FF} {Q : QQ} {x3 : Int32} {s0 : Int32} (p1 : XP G mX11_undo (d + 13) 0 [.ref 82] [] sw f (fun v sw' f' => XP G mL_law (d + 14) 1163 [.retAddr 0, .ref 0, .ref 82, .int x3] (retst v [.int s0]) sw' f' Q)) : XP G mL_law (d + 14) 1159 [.retAddr 0, .ref 0, .ref 82, .int x3] [.int s0] sw f Q := by
  refine wp_aload_n (M := mL_law) (pc := 1159) dL_law_1159 rfl rfl ?_
  refine xs_callV (d := d + 13) (M := mL_law) (pc := 1160) (As := []) (st := [.int s0]) (c := 11) (ls' := [.ref 82]) dL_law_1160 oX11_undo nX11_undo lL_143 vX11_undo sX11_undo rfl sh82 (Nat.le_of_ble_eq_true rfl) rfl (Nat.le_of_ble_eq_true rfl) rfl ?_
  exact p1
theorem bL_law_1163 {G : GC} {d : Nat} {sw : Bool} {f : FF} {Q : QQ} {x3 : Int32} {s0 : Int32} {s1 : Int32} (p1 : (s1 = s0) → XP G mL_law (d + 14) 1214 [.retAddr 0, .ref 0, .ref 82, .int x3] [] sw f Q) (p2 : (¬ s1 = s0) → Q (some (.int 0)) sw f) : XP G mL_law (d + 14) 1163 [.retAddr 0, .ref 0, .ref 82, .int x3] [.int s0, .int s1] sw f Q := by
  refine wp_icmp_eq (M := mL_law) (pc := 1163) (t := 1214) dL_law_1163 (by decide) (fun c1 => ?_) (fun c1 => ?_)
  · exact p1 c1
  · refine wp_iconst (M := mL_law) (pc := 1166) dL_law_1166 k_iconst_0 ?_
    exact xs_zret (M := mL_law) (pc := 1167) dL_law_1167 rfl (by decide) (p2 c1)
theorem bL_law_1177 {G : GC} {d : Nat} {sw : Bool} {f : FF} {Q : QQ} {x3 : Int32} {s0 : Int32} (p1 : vp_in (x3 + 1) (gL G)) (p2 : XP G mX11_check (d + 13) 0 [.ref 82, .int (gxs G (x3 + 1).toNatClampNeg), .null] [] sw f (fun v sw' f' => XP G mL_law (d + 14) 1186 [.retAddr 0, .ref 0, .ref 82, .int x3] (retst v [.int s0]) sw' f' Q)) : XP G mL_law (d + 14) 1177 [.retAddr 0, .ref 0, .ref 82, .int x3] [.int s0] sw f Q := by
  refine wp_aload_n (M := mL_law) (pc := 1177) dL_law_1177 rfl rfl ?_
  refine wp_aload_s (M := mL_law) (pc := 1178) dL_law_1178 rfl rfl ?_
  refine wp_iload_n (M := mL_law) (pc := 1179) dL_law_1179 rfl rfl ?_
  refine wp_iconst (M := mL_law) (pc := 1180) dL_law_1180 k_iconst_1 ?_
  refine wp_iadd (M := mL_law) (pc := 1181) dL_law_1181 ?_
  refine wp_sld (M := mL_law) (pc := 1182) dL_law_1182 (p1) ?_
  refine xs_callV (d := d + 13) (M := mL_law) (pc := 1183) (As := [.int (gxs G (x3 + 1).toNatClampNeg)]) (st := [.int s0]) (c := 11) (ls' := [.ref 82, .int (gxs G (x3 + 1).toNatClampNeg), .null]) dL_law_1183 oX11_check nX11_check lL_147 vX11_check sX11_check rfl sh82 (Nat.le_of_ble_eq_true rfl) rfl (Nat.le_of_ble_eq_true rfl) rfl ?_
  exact p2
theorem bL_law_1186 {G : GC} {d : Nat} {sw : Bool} {f : FF} {Q : QQ} {x3 : Int32} {s0 : Int32} {s1 : Int32} (p1 : (s1 = s0) → XP G mL_law (d + 14) 1214 [.retAddr 0, .ref 0, .ref 82, .int x3] [] sw f Q) (p2 : (¬ s1 = s0) → Q (some (.int 0)) sw f) : XP G mL_law (d + 14) 1186 [.retAddr 0, .ref 0, .ref 82, .int x3] [.int s0, .int s1] sw f Q := by
  refine wp_icmp_eq (M := mL_law) (pc := 1186) (t := 1214) dL_law_1186 (by decide) (fun c1 => ?_) (fun c1 => ?_)
  · exact p1 c1
  · refine wp_iconst (M := mL_law) (pc := 1189) dL_law_1189 k_iconst_0 ?_
    exact xs_zret (M := mL_law) (pc := 1190) dL_law_1190 rfl (by decide) (p2 c1)
theorem bL_law_1200 {G : GC} {d : Nat} {sw : Bool} {f : FF} {Q : QQ} {x3 : Int32} {s0 : Int32} (p1 : vp_in (x3 + 1) (gL G)) (p2 : XP G mX11_count (d + 13) 0 [.ref 82, .int (gxs G (x3 + 1).toNatClampNeg), .null, .null] [] sw f (fun v sw' f' => XP G mL_law (d + 14) 1209 [.retAddr 0, .ref 0, .ref 82, .int x3] (retst v [.int s0]) sw' f' Q)) : XP G mL_law (d + 14) 1200 [.retAddr 0, .ref 0, .ref 82, .int x3] [.int s0] sw f Q := by
  refine wp_aload_n (M := mL_law) (pc := 1200) dL_law_1200 rfl rfl ?_
  refine wp_aload_s (M := mL_law) (pc := 1201) dL_law_1201 rfl rfl ?_
  refine wp_iload_n (M := mL_law) (pc := 1202) dL_law_1202 rfl rfl ?_
  refine wp_iconst (M := mL_law) (pc := 1203) dL_law_1203 k_iconst_1 ?_
  refine wp_iadd (M := mL_law) (pc := 1204) dL_law_1204 ?_
  refine wp_sld (M := mL_law) (pc := 1205) dL_law_1205 (p1) ?_
  refine xs_callV (d := d + 13) (M := mL_law) (pc := 1206) (As := [.int (gxs G (x3 + 1).toNatClampNeg)]) (st := [.int s0]) (c := 11) (ls' := [.ref 82, .int (gxs G (x3 + 1).toNatClampNeg), .null, .null]) dL_law_1206 oX11_count nX11_count lL_151 vX11_count sX11_count rfl sh82 (Nat.le_of_ble_eq_true rfl) rfl (Nat.le_of_ble_eq_true rfl) rfl ?_
  exact p2
theorem bL_law_1209 {G : GC} {d : Nat} {sw : Bool} {f : FF} {Q : QQ} {x3 : Int32} {s0 : Int32} {s1 : Int32} (p1 : (s1 = s0) → XP G mL_law (d + 14) 1214 [.retAddr 0, .ref 0, .ref 82, .int x3] [] sw f Q) (p2 : (¬ s1 = s0) → Q (some (.int 0)) sw f) : XP G mL_law (d + 14) 1209 [.retAddr 0, .ref 0, .ref 82, .int x3] [.int s0, .int s1] sw f Q := by
  refine wp_icmp_eq (M := mL_law) (pc := 1209) (t := 1214) dL_law_1209 (by decide) (fun c1 => ?_) (fun c1 => ?_)
  · exact p1 c1
  · refine wp_iconst (M := mL_law) (pc := 1212) dL_law_1212 k_iconst_0 ?_
    exact xs_zret (M := mL_law) (pc := 1213) dL_law_1213 rfl (by decide) (p2 c1)
theorem bL_law_1214 {G : GC} {d : Nat} {sw : Bool} {f : FF} {Q : QQ} {x3 : Int32} (p1 : XP G mL_law (d + 14) 18 [.retAddr 0, .ref 0, .ref 82, .int (x3 + 6)] [] sw f Q) : XP G mL_law (d + 14) 1214 [.retAddr 0, .ref 0, .ref 82, .int x3] [] sw f Q := by
  refine wp_iinc (M := mL_law) (pc := 1214) (v := x3 + 6) (ls' := [.retAddr 0, .ref 0, .ref 82, .int (x3 + 6)]) dL_law_1214 rfl (congrArg (fun z => _ + z) k_iconst_6) (by decide) rfl ?_
  refine wp_goto (M := mL_law) (pc := 1217) (t := 18) dL_law_1217 (by decide) ?_
  exact p1
