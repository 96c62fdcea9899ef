/-! ===== lines on the text of the letters ===== -/
theorem gJ0_38 : Cond.fieldLink RJ0 38 RJ0 "COMPACT_STRINGS" "Z" ∈ Tg := mem_Tg 617 (by decide +kernel) rfl
section WPT
variable {G : GC} {M : MR} {d k n pc : Nat} {ls st : List Value} {h : HP} {Q : Option Value → HP → Prop}
theorem wp_ldcT (hd : decode (mC M) pc = .ok (.ldc 99, 2)) (hc : (mY M).cls = RX2) (kk : WP G M d k n (pc + 2) ls (.retAddr 1 :: st) h Q) : WP G M d k n pc ls st h Q := by
  refine WP.go (fun p e R s m args below meth c H locs cells slots rls Z B q1 q2 q3 q4 hH hS hL K => ?_) kk
  have hO := B.2.2.2.2.2.2.2.2.2.2
  have hw := B.2.2.2.2.1
  rw [hc] at hw
  exact va_ldcS B.1 B.2.1 hw hO.2.2.1 hd K
theorem wp_getT (hd : decode (mC M) pc = .ok (.getfield 9, 3)) (hc : (mY M).cls = RJ0) (kk : WP G M d k n (pc + 3) ls (.retAddr 2 :: st) h Q) : WP G M d k n pc ls (.retAddr 1 :: st) h Q := by
  refine WP.go (fun p e R s m args below meth c H locs cells slots rls Z B q1 q2 q3 q4 hH hS hL K => ?_) kk
  have hO := B.2.2.2.2.2.2.2.2.2.2
  have hw := B.2.2.2.2.1
  rw [hc] at hw
  exact vk_getf B.1 B.2.1 (hO.2.2.2.1.1 0 (by omega)).2.2.1 hS hw (B.2.2.2.2.2.2.2.1 _ gJ0_9) (fun x h => h) hd K
theorem wp_getC (hd : decode (mC M) pc = .ok (.getfield 15, 3)) (hc : (mY M).cls = RJ0) (kk : WP G M d k n (pc + 3) ls (.int 0 :: st) h Q) : WP G M d k n pc ls (.retAddr 1 :: st) h Q := by
  refine WP.go (fun p e R s m args below meth c H locs cells slots rls Z B q1 q2 q3 q4 hH hS hL K => ?_) kk
  have hO := B.2.2.2.2.2.2.2.2.2.2
  have hw := B.2.2.2.2.1
  rw [hc] at hw
  exact vk_getf B.1 B.2.1 (hO.2.2.2.1.1 0 (by omega)).2.1 hS hw (B.2.2.2.2.2.2.2.1 _ gJ0_15) (fun x h => h) hd K
theorem wp_lenT (hd : decode (mC M) pc = .ok (.arraylength, 1)) (kk : WP G M d k n (pc + 1) ls (.int 10 :: st) h Q) : WP G M d k n pc ls (.retAddr 2 :: st) h Q := by
  refine WP.go (fun p e R s m args below meth c H locs cells slots rls Z B q1 q2 q3 q4 hH hS hL K => ?_) kk
  have hO := B.2.2.2.2.2.2.2.2.2.2
  exact va_tlen B.1 B.2.1 (hO.2.2.2.1.1 0 (by omega)).2.2.2 hS (v := 10) rfl hd K
theorem wp_balT {i : Int32} {x : Int32} (hd : decode (mC M) pc = .ok (.baload, 1)) (hi : vp_in i 10) (hx : ([115, 101, 97, 111, 102, 116, 104, 107, 100, 110] : List Int32).getD i.toNatClampNeg 0 = x) (kk : WP G M d k n (pc + 1) ls (.int x :: st) h Q) : WP G M d k n pc ls (.int i :: .retAddr 2 :: st) h Q := by
  refine WP.go (fun p e R s m args below meth c H locs cells slots rls Z B q1 q2 q3 q4 hH hS hL K => ?_) kk
  have hO := B.2.2.2.2.2.2.2.2.2.2
  exact va_tb B.1 B.2.1 (hO.2.2.2.1.1 0 (by omega)).2.2.2 hS hi (v := .int x) (by rw [← hx]; rfl) hd K
theorem wp_getsC (hd : decode (mC M) pc = .ok (.getstatic 38, 3)) (hc : (mY M).cls = RJ0) (kk : WP G M d k n (pc + 3) ls (.int 1 :: st) h Q) : WP G M d k n pc ls st h Q := by
  refine WP.go (fun p e R s m args below meth c H locs cells slots rls Z B q1 q2 q3 q4 hH hS hL K => ?_) kk
  have hO := B.2.2.2.2.2.2.2.2.2.2
  have hw := B.2.2.2.2.1
  rw [hc] at hw
  exact va_gets B.1 B.2.1 hO.2.2.2.2.1 hS hw (B.2.2.2.2.2.2.2.1 _ gJ0_38) (fun x h => h) hd K
end WPT
