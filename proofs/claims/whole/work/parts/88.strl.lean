/-! ===== lines on the text of the letters ===== -/
section WPT
variable {G : GC} {M : MR} {d k n pc : Nat} {ls st : List Value} {h : HP} {Q : Option Value → HP → Prop}
theorem wp_ldcT (hd : decode (mC M) pc = .ok (.ldc 99, 2)) (hc : (mY M).cls = RX2) (kk : WP G M d k n (pc + 2) ls (.retAddr 1 :: st) h Q) : WP G M d k n pc ls st h Q := by
  refine WP.go (fun p e R s m args below meth c H locs cells slots rls Z B q1 q2 q3 q4 hH hS hL K => ?_) kk
  have hO := B.2.2.2.2.2.2.2.2.2.2
  have hw := B.2.2.2.2.1
  rw [hc] at hw
  exact va_ldcS B.1 B.2.1 hw hO.2.2.1 hd K
theorem wp_getT (hd : decode (mC M) pc = .ok (.getfield 9, 3)) (hc : (mY M).cls = RJ0) (kk : WP G M d k n (pc + 3) ls (.retAddr 2 :: st) h Q) : WP G M d k n pc ls (.retAddr 1 :: st) h Q := by
  refine WP.go (fun p e R s m args below meth c H locs cells slots rls Z B q1 q2 q3 q4 hH hS hL K => ?_) kk
  have hO := B.2.2.2.2.2.2.2.2.2.2
  have hw := B.2.2.2.2.1
  rw [hc] at hw
  exact vk_getf B.1 B.2.1 (hO.2.2.2.1.1 0 (by omega)).2.2.1 hS hw (B.2.2.2.2.2.2.2.1 _ gJ0_9) (fun x h => h) hd K
theorem wp_getC (hd : decode (mC M) pc = .ok (.getfield 15, 3)) (hc : (mY M).cls = RJ0) (kk : WP G M d k n (pc + 3) ls (.int 0 :: st) h Q) : WP G M d k n pc ls (.retAddr 1 :: st) h Q := by
  refine WP.go (fun p e R s m args below meth c H locs cells slots rls Z B q1 q2 q3 q4 hH hS hL K => ?_) kk
  have hO := B.2.2.2.2.2.2.2.2.2.2
  have hw := B.2.2.2.2.1
  rw [hc] at hw
  exact vk_getf B.1 B.2.1 (hO.2.2.2.1.1 0 (by omega)).2.1 hS hw (B.2.2.2.2.2.2.2.1 _ gJ0_15) (fun x h => h) hd K
end WPT
