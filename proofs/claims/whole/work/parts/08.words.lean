/-! ===== methods, and the words that link them (printed by words.py) ===== -/
def R_law : String := "DeadLinesLaw"
def mX10_init : MR := (yX10_init, cX10_init, 1, none)
set_option maxRecDepth 100000 in
theorem oX10_init : MOk mX10_init := ⟨by decide, mem_Tg 118 rfl rfl, mem_Tg 94 (by decide +kernel) rfl, ⟨by decide, by decide⟩, by decide⟩
theorem nX10_init : nPar mX10_init 0 := by unfold nPar; decide +kernel
theorem vX10_init : Cond.instanceMethod yX10_init ∈ Tg := mem_Tg 117 (by decide +kernel) rfl
def mX8_init : MR := (yX8_init, cX8_init, 1, none)
set_option maxRecDepth 100000 in
theorem oX8_init : MOk mX8_init := ⟨by decide, mem_Tg 126 rfl rfl, mem_Tg 95 (by decide +kernel) rfl, ⟨by decide, by decide⟩, by decide⟩
theorem nX8_init : nPar mX8_init 0 := by unfold nPar; decide +kernel
theorem vX8_init : Cond.instanceMethod yX8_init ∈ Tg := mem_Tg 125 (by decide +kernel) rfl
def mX3_init : MR := (yX3_init, cX3_init, 1, none)
set_option maxRecDepth 100000 in
theorem oX3_init : MOk mX3_init := ⟨by decide, mem_Tg 161 rfl rfl, mem_Tg 96 (by decide +kernel) rfl, ⟨by decide, by decide⟩, by decide⟩
theorem nX3_init : nPar mX3_init 0 := by unfold nPar; decide +kernel
theorem vX3_init : Cond.instanceMethod yX3_init ∈ Tg := mem_Tg 160 (by decide +kernel) rfl
def mX4_init : MR := (yX4_init, cX4_init, 2, none)
set_option maxRecDepth 100000 in
theorem oX4_init : MOk mX4_init := ⟨by decide, mem_Tg 192 rfl rfl, mem_Tg 97 (by decide +kernel) rfl, ⟨by decide, by decide⟩, by decide⟩
theorem nX4_init : nPar mX4_init 1 := by unfold nPar; decide +kernel
theorem vX4_init : Cond.instanceMethod yX4_init ∈ Tg := mem_Tg 191 (by decide +kernel) rfl
def mX6_init : MR := (yX6_init, cX6_init, 2, none)
set_option maxRecDepth 100000 in
theorem oX6_init : MOk mX6_init := ⟨by decide, mem_Tg 209 rfl rfl, mem_Tg 98 (by decide +kernel) rfl, ⟨by decide, by decide⟩, by decide⟩
theorem nX6_init : nPar mX6_init 1 := by unfold nPar; decide +kernel
theorem vX6_init : Cond.instanceMethod yX6_init ∈ Tg := mem_Tg 208 (by decide +kernel) rfl
def mX0_init : MR := (yX0_init, cX0_init, 2, none)
set_option maxRecDepth 100000 in
theorem oX0_init : MOk mX0_init := ⟨by decide, mem_Tg 234 rfl rfl, mem_Tg 99 (by decide +kernel) rfl, ⟨by decide, by decide⟩, by decide⟩
theorem nX0_init : nPar mX0_init 1 := by unfold nPar; decide +kernel
theorem vX0_init : Cond.instanceMethod yX0_init ∈ Tg := mem_Tg 233 (by decide +kernel) rfl
def mX2_init : MR := (yX2_init, cX2_init, 2, none)
set_option maxRecDepth 100000 in
theorem oX2_init : MOk mX2_init := ⟨by decide, mem_Tg 256 rfl rfl, mem_Tg 100 (by decide +kernel) rfl, ⟨by decide, by decide⟩, by decide⟩
theorem nX2_init : nPar mX2_init 1 := by unfold nPar; decide +kernel
theorem vX2_init : Cond.instanceMethod yX2_init ∈ Tg := mem_Tg 255 (by decide +kernel) rfl
def mX1_init : MR := (yX1_init, cX1_init, 1, none)
set_option maxRecDepth 100000 in
theorem oX1_init : MOk mX1_init := ⟨by decide, mem_Tg 262 rfl rfl, mem_Tg 101 (by decide +kernel) rfl, ⟨by decide, by decide⟩, by decide⟩
theorem nX1_init : nPar mX1_init 0 := by unfold nPar; decide +kernel
theorem vX1_init : Cond.instanceMethod yX1_init ∈ Tg := mem_Tg 261 (by decide +kernel) rfl
def mX7_init : MR := (yX7_init, cX7_init, 2, none)
set_option maxRecDepth 100000 in
theorem oX7_init : MOk mX7_init := ⟨by decide, mem_Tg 314 rfl rfl, mem_Tg 102 (by decide +kernel) rfl, ⟨by decide, by decide⟩, by decide⟩
theorem nX7_init : nPar mX7_init 1 := by unfold nPar; decide +kernel
theorem vX7_init : Cond.instanceMethod yX7_init ∈ Tg := mem_Tg 313 (by decide +kernel) rfl
def mX5_init : MR := (yX5_init, cX5_init, 1, none)
set_option maxRecDepth 100000 in
theorem oX5_init : MOk mX5_init := ⟨by decide, mem_Tg 320 rfl rfl, mem_Tg 103 (by decide +kernel) rfl, ⟨by decide, by decide⟩, by decide⟩
theorem nX5_init : nPar mX5_init 0 := by unfold nPar; decide +kernel
theorem vX5_init : Cond.instanceMethod yX5_init ∈ Tg := mem_Tg 319 (by decide +kernel) rfl
def mX9_init : MR := (yX9_init, cX9_init, 1, none)
set_option maxRecDepth 100000 in
theorem oX9_init : MOk mX9_init := ⟨by decide, mem_Tg 369 rfl rfl, mem_Tg 104 (by decide +kernel) rfl, ⟨by decide, by decide⟩, by decide⟩
theorem nX9_init : nPar mX9_init 0 := by unfold nPar; decide +kernel
theorem vX9_init : Cond.instanceMethod yX9_init ∈ Tg := mem_Tg 368 (by decide +kernel) rfl
def mX10_trunk : MR := (yX10_trunk, cX10_trunk, 4, some .boolean)
set_option maxRecDepth 100000 in
theorem oX10_trunk : MOk mX10_trunk := ⟨by decide, mem_Tg 504 rfl rfl, mem_Tg 94 (by decide +kernel) rfl, ⟨by decide, by decide⟩, by decide⟩
theorem nX10_trunk : nPar mX10_trunk 3 := by unfold nPar; decide +kernel
theorem vX10_trunk : Cond.instanceMethod yX10_trunk ∈ Tg := mem_Tg 502 (by decide +kernel) rfl
theorem sX10_trunk : Cond.selects RX10 yX10_trunk yX10_trunk ∈ Tg := mem_Tg 503 (by decide +kernel) rfl
def mX10_areTwo : MR := (yX10_areTwo, cX10_areTwo, 2, some .boolean)
set_option maxRecDepth 100000 in
theorem oX10_areTwo : MOk mX10_areTwo := ⟨by decide, mem_Tg 507 rfl rfl, mem_Tg 94 (by decide +kernel) rfl, ⟨by decide, by decide⟩, by decide⟩
theorem nX10_areTwo : nPar mX10_areTwo 2 := by unfold nPar; decide +kernel
theorem tX10_areTwo : Cond.static yX10_areTwo ∈ Tg := mem_Tg 506 (by decide +kernel) rfl
def mX10_isExchange : MR := (yX10_isExchange, cX10_isExchange, 1, some .boolean)
set_option maxRecDepth 100000 in
theorem oX10_isExchange : MOk mX10_isExchange := ⟨by decide, mem_Tg 510 rfl rfl, mem_Tg 94 (by decide +kernel) rfl, ⟨by decide, by decide⟩, by decide⟩
theorem nX10_isExchange : nPar mX10_isExchange 1 := by unfold nPar; decide +kernel
theorem tX10_isExchange : Cond.static yX10_isExchange ∈ Tg := mem_Tg 509 (by decide +kernel) rfl
def mX10_within : MR := (yX10_within, cX10_within, 3, some .boolean)
set_option maxRecDepth 100000 in
theorem oX10_within : MOk mX10_within := ⟨by decide, mem_Tg 513 rfl rfl, mem_Tg 94 (by decide +kernel) rfl, ⟨by decide, by decide⟩, by decide⟩
theorem nX10_within : nPar mX10_within 3 := by unfold nPar; decide +kernel
theorem tX10_within : Cond.static yX10_within ∈ Tg := mem_Tg 512 (by decide +kernel) rfl
def mX3_lay : MR := (yX3_lay, cX3_lay, 4, none)
set_option maxRecDepth 100000 in
theorem oX3_lay : MOk mX3_lay := ⟨by decide, mem_Tg 517 rfl rfl, mem_Tg 96 (by decide +kernel) rfl, ⟨by decide, by decide⟩, by decide⟩
theorem nX3_lay : nPar mX3_lay 3 := by unfold nPar; decide +kernel
theorem vX3_lay : Cond.instanceMethod yX3_lay ∈ Tg := mem_Tg 515 (by decide +kernel) rfl
theorem sX3_lay : Cond.selects RX3 yX3_lay yX3_lay ∈ Tg := mem_Tg 516 (by decide +kernel) rfl
def mX10_subscriber : MR := (yX10_subscriber, cX10_subscriber, 4, some .boolean)
set_option maxRecDepth 100000 in
theorem oX10_subscriber : MOk mX10_subscriber := ⟨by decide, mem_Tg 521 rfl rfl, mem_Tg 94 (by decide +kernel) rfl, ⟨by decide, by decide⟩, by decide⟩
theorem nX10_subscriber : nPar mX10_subscriber 3 := by unfold nPar; decide +kernel
theorem vX10_subscriber : Cond.instanceMethod yX10_subscriber ∈ Tg := mem_Tg 519 (by decide +kernel) rfl
theorem sX10_subscriber : Cond.selects RX10 yX10_subscriber yX10_subscriber ∈ Tg := mem_Tg 520 (by decide +kernel) rfl
def mX9_enter : MR := (yX9_enter, cX9_enter, 5, none)
set_option maxRecDepth 100000 in
theorem oX9_enter : MOk mX9_enter := ⟨by decide, mem_Tg 525 rfl rfl, mem_Tg 104 (by decide +kernel) rfl, ⟨by decide, by decide⟩, by decide⟩
theorem nX9_enter : nPar mX9_enter 3 := by unfold nPar; decide +kernel
theorem vX9_enter : Cond.instanceMethod yX9_enter ∈ Tg := mem_Tg 523 (by decide +kernel) rfl
theorem sX9_enter : Cond.selects RX9 yX9_enter yX9_enter ∈ Tg := mem_Tg 524 (by decide +kernel) rfl
def mX9_endCallOf : MR := (yX9_endCallOf, cX9_endCallOf, 2, none)
set_option maxRecDepth 100000 in
theorem oX9_endCallOf : MOk mX9_endCallOf := ⟨by decide, mem_Tg 529 rfl rfl, mem_Tg 104 (by decide +kernel) rfl, ⟨by decide, by decide⟩, by decide⟩
theorem nX9_endCallOf : nPar mX9_endCallOf 1 := by unfold nPar; decide +kernel
theorem vX9_endCallOf : Cond.instanceMethod yX9_endCallOf ∈ Tg := mem_Tg 527 (by decide +kernel) rfl
theorem sX9_endCallOf : Cond.selects RX9 yX9_endCallOf yX9_endCallOf ∈ Tg := mem_Tg 528 (by decide +kernel) rfl
def mX9_endCallAt : MR := (yX9_endCallAt, cX9_endCallAt, 2, none)
set_option maxRecDepth 100000 in
theorem oX9_endCallAt : MOk mX9_endCallAt := ⟨by decide, mem_Tg 533 rfl rfl, mem_Tg 104 (by decide +kernel) rfl, ⟨by decide, by decide⟩, by decide⟩
theorem nX9_endCallAt : nPar mX9_endCallAt 1 := by unfold nPar; decide +kernel
theorem vX9_endCallAt : Cond.instanceMethod yX9_endCallAt ∈ Tg := mem_Tg 531 (by decide +kernel) rfl
theorem sX9_endCallAt : Cond.selects RX9 yX9_endCallAt yX9_endCallAt ∈ Tg := mem_Tg 532 (by decide +kernel) rfl
def mX9_addUsed : MR := (yX9_addUsed, cX9_addUsed, 6, none)
set_option maxRecDepth 100000 in
theorem oX9_addUsed : MOk mX9_addUsed := ⟨by decide, mem_Tg 537 rfl rfl, mem_Tg 104 (by decide +kernel) rfl, ⟨by decide, by decide⟩, by decide⟩
theorem nX9_addUsed : nPar mX9_addUsed 2 := by unfold nPar; decide +kernel
theorem vX9_addUsed : Cond.instanceMethod yX9_addUsed ∈ Tg := mem_Tg 536 (by decide +kernel) rfl
theorem sX9_addUsed : Cond.selects RX9 yX9_addUsed yX9_addUsed ∈ Tg := mem_Tg 0 (by decide +kernel) rfl
def mX10_fund : MR := (yX10_fund, cX10_fund, 2, some .boolean)
set_option maxRecDepth 100000 in
theorem oX10_fund : MOk mX10_fund := ⟨by decide, mem_Tg 541 rfl rfl, mem_Tg 94 (by decide +kernel) rfl, ⟨by decide, by decide⟩, by decide⟩
theorem nX10_fund : nPar mX10_fund 1 := by unfold nPar; decide +kernel
theorem vX10_fund : Cond.instanceMethod yX10_fund ∈ Tg := mem_Tg 539 (by decide +kernel) rfl
theorem sX10_fund : Cond.selects RX10 yX10_fund yX10_fund ∈ Tg := mem_Tg 540 (by decide +kernel) rfl
def mX10_rate : MR := (yX10_rate, cX10_rate, 3, some .boolean)
set_option maxRecDepth 100000 in
theorem oX10_rate : MOk mX10_rate := ⟨by decide, mem_Tg 546 rfl rfl, mem_Tg 94 (by decide +kernel) rfl, ⟨by decide, by decide⟩, by decide⟩
theorem nX10_rate : nPar mX10_rate 2 := by unfold nPar; decide +kernel
theorem vX10_rate : Cond.instanceMethod yX10_rate ∈ Tg := mem_Tg 544 (by decide +kernel) rfl
theorem sX10_rate : Cond.selects RX10 yX10_rate yX10_rate ∈ Tg := mem_Tg 545 (by decide +kernel) rfl
def mX10_feed : MR := (yX10_feed, cX10_feed, 6, some .int)
set_option maxRecDepth 100000 in
theorem oX10_feed : MOk mX10_feed := ⟨by decide, mem_Tg 550 rfl rfl, mem_Tg 94 (by decide +kernel) rfl, ⟨by decide, by decide⟩, by decide⟩
theorem nX10_feed : nPar mX10_feed 5 := by unfold nPar; decide +kernel
theorem vX10_feed : Cond.instanceMethod yX10_feed ∈ Tg := mem_Tg 548 (by decide +kernel) rfl
theorem sX10_feed : Cond.selects RX10 yX10_feed yX10_feed ∈ Tg := mem_Tg 549 (by decide +kernel) rfl
def mX8_hasRoom : MR := (yX8_hasRoom, cX8_hasRoom, 1, some .boolean)
set_option maxRecDepth 100000 in
theorem oX8_hasRoom : MOk mX8_hasRoom := ⟨by decide, mem_Tg 554 rfl rfl, mem_Tg 95 (by decide +kernel) rfl, ⟨by decide, by decide⟩, by decide⟩
theorem nX8_hasRoom : nPar mX8_hasRoom 0 := by unfold nPar; decide +kernel
theorem vX8_hasRoom : Cond.instanceMethod yX8_hasRoom ∈ Tg := mem_Tg 552 (by decide +kernel) rfl
theorem sX8_hasRoom : Cond.selects RX8 yX8_hasRoom yX8_hasRoom ∈ Tg := mem_Tg 553 (by decide +kernel) rfl
def mX8_add : MR := (yX8_add, cX8_add, 3, none)
set_option maxRecDepth 100000 in
theorem oX8_add : MOk mX8_add := ⟨by decide, mem_Tg 558 rfl rfl, mem_Tg 95 (by decide +kernel) rfl, ⟨by decide, by decide⟩, by decide⟩
theorem nX8_add : nPar mX8_add 1 := by unfold nPar; decide +kernel
theorem vX8_add : Cond.instanceMethod yX8_add ∈ Tg := mem_Tg 556 (by decide +kernel) rfl
theorem sX8_add : Cond.selects RX8 yX8_add yX8_add ∈ Tg := mem_Tg 557 (by decide +kernel) rfl
def mX10_law : MR := (yX10_law, cX10_law, 4, some .int)
set_option maxRecDepth 100000 in
theorem oX10_law : MOk mX10_law := ⟨by decide, mem_Tg 562 rfl rfl, mem_Tg 94 (by decide +kernel) rfl, ⟨by decide, by decide⟩, by decide⟩
theorem nX10_law : nPar mX10_law 1 := by unfold nPar; decide +kernel
theorem vX10_law : Cond.instanceMethod yX10_law ∈ Tg := mem_Tg 560 (by decide +kernel) rfl
theorem sX10_law : Cond.selects RX10 yX10_law yX10_law ∈ Tg := mem_Tg 561 (by decide +kernel) rfl
def mX8_take : MR := (yX8_take, cX8_take, 2, some .boolean)
set_option maxRecDepth 100000 in
theorem oX8_take : MOk mX8_take := ⟨by decide, mem_Tg 566 rfl rfl, mem_Tg 95 (by decide +kernel) rfl, ⟨by decide, by decide⟩, by decide⟩
theorem nX8_take : nPar mX8_take 1 := by unfold nPar; decide +kernel
theorem vX8_take : Cond.instanceMethod yX8_take ∈ Tg := mem_Tg 564 (by decide +kernel) rfl
theorem sX8_take : Cond.selects RX8 yX8_take yX8_take ∈ Tg := mem_Tg 565 (by decide +kernel) rfl
def mX2_readLaw : MR := (yX2_readLaw, cX2_readLaw, 2, some .int)
set_option maxRecDepth 100000 in
theorem oX2_readLaw : MOk mX2_readLaw := ⟨by decide, mem_Tg 570 rfl rfl, mem_Tg 100 (by decide +kernel) rfl, ⟨by decide, by decide⟩, by decide⟩
theorem nX2_readLaw : nPar mX2_readLaw 0 := by unfold nPar; decide +kernel
theorem vX2_readLaw : Cond.instanceMethod yX2_readLaw ∈ Tg := mem_Tg 568 (by decide +kernel) rfl
theorem sX2_readLaw : Cond.selects RX2 yX2_readLaw yX2_readLaw ∈ Tg := mem_Tg 569 (by decide +kernel) rfl
def mX2_readRule : MR := (yX2_readRule, cX2_readRule, 4, some .boolean)
set_option maxRecDepth 100000 in
theorem oX2_readRule : MOk mX2_readRule := ⟨by decide, mem_Tg 574 rfl rfl, mem_Tg 100 (by decide +kernel) rfl, ⟨by decide, by decide⟩, by decide⟩
theorem nX2_readRule : nPar mX2_readRule 1 := by unfold nPar; decide +kernel
theorem vX2_readRule : Cond.instanceMethod yX2_readRule ∈ Tg := mem_Tg 573 (by decide +kernel) rfl
theorem sX2_readRule : Cond.selects RX2 yX2_readRule yX2_readRule ∈ Tg := mem_Tg 1 (by decide +kernel) rfl
def mX8_sign : MR := (yX8_sign, cX8_sign, 1, some .int)
set_option maxRecDepth 100000 in
theorem oX8_sign : MOk mX8_sign := ⟨by decide, mem_Tg 578 rfl rfl, mem_Tg 95 (by decide +kernel) rfl, ⟨by decide, by decide⟩, by decide⟩
theorem nX8_sign : nPar mX8_sign 0 := by unfold nPar; decide +kernel
theorem vX8_sign : Cond.instanceMethod yX8_sign ∈ Tg := mem_Tg 576 (by decide +kernel) rfl
theorem sX8_sign : Cond.selects RX8 yX8_sign yX8_sign ∈ Tg := mem_Tg 577 (by decide +kernel) rfl
def mX8_at : MR := (yX8_at, cX8_at, 2, some .int)
set_option maxRecDepth 100000 in
theorem oX8_at : MOk mX8_at := ⟨by decide, mem_Tg 582 rfl rfl, mem_Tg 95 (by decide +kernel) rfl, ⟨by decide, by decide⟩, by decide⟩
theorem nX8_at : nPar mX8_at 1 := by unfold nPar; decide +kernel
theorem vX8_at : Cond.instanceMethod yX8_at ∈ Tg := mem_Tg 580 (by decide +kernel) rfl
theorem sX8_at : Cond.selects RX8 yX8_at yX8_at ∈ Tg := mem_Tg 581 (by decide +kernel) rfl
def mX8_fails : MR := (yX8_fails, cX8_fails, 2, some .boolean)
set_option maxRecDepth 100000 in
theorem oX8_fails : MOk mX8_fails := ⟨by decide, mem_Tg 586 rfl rfl, mem_Tg 95 (by decide +kernel) rfl, ⟨by decide, by decide⟩, by decide⟩
theorem nX8_fails : nPar mX8_fails 1 := by unfold nPar; decide +kernel
theorem vX8_fails : Cond.instanceMethod yX8_fails ∈ Tg := mem_Tg 584 (by decide +kernel) rfl
theorem sX8_fails : Cond.selects RX8 yX8_fails yX8_fails ∈ Tg := mem_Tg 585 (by decide +kernel) rfl
def mX2_readSum : MR := (yX2_readSum, cX2_readSum, 4, some .boolean)
set_option maxRecDepth 100000 in
theorem oX2_readSum : MOk mX2_readSum := ⟨by decide, mem_Tg 590 rfl rfl, mem_Tg 100 (by decide +kernel) rfl, ⟨by decide, by decide⟩, by decide⟩
theorem nX2_readSum : nPar mX2_readSum 1 := by unfold nPar; decide +kernel
theorem vX2_readSum : Cond.instanceMethod yX2_readSum ∈ Tg := mem_Tg 589 (by decide +kernel) rfl
theorem sX2_readSum : Cond.selects RX2 yX2_readSum yX2_readSum ∈ Tg := mem_Tg 2 (by decide +kernel) rfl
def mX2_readProduct : MR := (yX2_readProduct, cX2_readProduct, 4, some .boolean)
set_option maxRecDepth 100000 in
theorem oX2_readProduct : MOk mX2_readProduct := ⟨by decide, mem_Tg 594 rfl rfl, mem_Tg 100 (by decide +kernel) rfl, ⟨by decide, by decide⟩, by decide⟩
theorem nX2_readProduct : nPar mX2_readProduct 1 := by unfold nPar; decide +kernel
theorem vX2_readProduct : Cond.instanceMethod yX2_readProduct ∈ Tg := mem_Tg 593 (by decide +kernel) rfl
theorem sX2_readProduct : Cond.selects RX2 yX2_readProduct yX2_readProduct ∈ Tg := mem_Tg 3 (by decide +kernel) rfl
def mX2_readFactor : MR := (yX2_readFactor, cX2_readFactor, 4, some .boolean)
set_option maxRecDepth 100000 in
theorem oX2_readFactor : MOk mX2_readFactor := ⟨by decide, mem_Tg 598 rfl rfl, mem_Tg 100 (by decide +kernel) rfl, ⟨by decide, by decide⟩, by decide⟩
theorem nX2_readFactor : nPar mX2_readFactor 1 := by unfold nPar; decide +kernel
theorem vX2_readFactor : Cond.instanceMethod yX2_readFactor ∈ Tg := mem_Tg 597 (by decide +kernel) rfl
theorem sX2_readFactor : Cond.selects RX2 yX2_readFactor yX2_readFactor ∈ Tg := mem_Tg 4 (by decide +kernel) rfl
def mX8_passes : MR := (yX8_passes, cX8_passes, 2, some .boolean)
set_option maxRecDepth 100000 in
theorem oX8_passes : MOk mX8_passes := ⟨by decide, mem_Tg 602 rfl rfl, mem_Tg 95 (by decide +kernel) rfl, ⟨by decide, by decide⟩, by decide⟩
theorem nX8_passes : nPar mX8_passes 1 := by unfold nPar; decide +kernel
theorem vX8_passes : Cond.instanceMethod yX8_passes ∈ Tg := mem_Tg 600 (by decide +kernel) rfl
theorem sX8_passes : Cond.selects RX8 yX8_passes yX8_passes ∈ Tg := mem_Tg 601 (by decide +kernel) rfl
def mX1_put : MR := (yX1_put, cX1_put, 3, some .int)
set_option maxRecDepth 100000 in
theorem oX1_put : MOk mX1_put := ⟨by decide, mem_Tg 694 rfl rfl, mem_Tg 101 (by decide +kernel) rfl, ⟨by decide, by decide⟩, by decide⟩
theorem nX1_put : nPar mX1_put 2 := by unfold nPar; decide +kernel
theorem vX1_put : Cond.instanceMethod yX1_put ∈ Tg := mem_Tg 692 (by decide +kernel) rfl
theorem sX1_put : Cond.selects RX1 yX1_put yX1_put ∈ Tg := mem_Tg 693 (by decide +kernel) rfl
def mX8_readNumber : MR := (yX8_readNumber, cX8_readNumber, 2, some .boolean)
set_option maxRecDepth 100000 in
theorem oX8_readNumber : MOk mX8_readNumber := ⟨by decide, mem_Tg 698 rfl rfl, mem_Tg 95 (by decide +kernel) rfl, ⟨by decide, by decide⟩, by decide⟩
theorem nX8_readNumber : nPar mX8_readNumber 0 := by unfold nPar; decide +kernel
theorem vX8_readNumber : Cond.instanceMethod yX8_readNumber ∈ Tg := mem_Tg 696 (by decide +kernel) rfl
theorem sX8_readNumber : Cond.selects RX8 yX8_readNumber yX8_readNumber ∈ Tg := mem_Tg 697 (by decide +kernel) rfl
def mX10_isDigit : MR := (yX10_isDigit, cX10_isDigit, 1, some .boolean)
set_option maxRecDepth 100000 in
theorem oX10_isDigit : MOk mX10_isDigit := ⟨by decide, mem_Tg 701 rfl rfl, mem_Tg 94 (by decide +kernel) rfl, ⟨by decide, by decide⟩, by decide⟩
theorem nX10_isDigit : nPar mX10_isDigit 1 := by unfold nPar; decide +kernel
theorem tX10_isDigit : Cond.static yX10_isDigit ∈ Tg := mem_Tg 700 (by decide +kernel) rfl
def mX2_isTimes : MR := (yX2_isTimes, cX2_isTimes, 1, some .boolean)
set_option maxRecDepth 100000 in
theorem oX2_isTimes : MOk mX2_isTimes := ⟨by decide, mem_Tg 704 rfl rfl, mem_Tg 100 (by decide +kernel) rfl, ⟨by decide, by decide⟩, by decide⟩
theorem nX2_isTimes : nPar mX2_isTimes 1 := by unfold nPar; decide +kernel
theorem tX2_isTimes : Cond.static yX2_isTimes ∈ Tg := mem_Tg 703 (by decide +kernel) rfl
def mX2_readBracket : MR := (yX2_readBracket, cX2_readBracket, 2, some .boolean)
set_option maxRecDepth 100000 in
theorem oX2_readBracket : MOk mX2_readBracket := ⟨by decide, mem_Tg 708 rfl rfl, mem_Tg 100 (by decide +kernel) rfl, ⟨by decide, by decide⟩, by decide⟩
theorem nX2_readBracket : nPar mX2_readBracket 1 := by unfold nPar; decide +kernel
theorem vX2_readBracket : Cond.instanceMethod yX2_readBracket ∈ Tg := mem_Tg 707 (by decide +kernel) rfl
theorem sX2_readBracket : Cond.selects RX2 yX2_readBracket yX2_readBracket ∈ Tg := mem_Tg 5 (by decide +kernel) rfl
def mX2_readCondition : MR := (yX2_readCondition, cX2_readCondition, 4, some .boolean)
set_option maxRecDepth 100000 in
theorem oX2_readCondition : MOk mX2_readCondition := ⟨by decide, mem_Tg 712 rfl rfl, mem_Tg 100 (by decide +kernel) rfl, ⟨by decide, by decide⟩, by decide⟩
theorem nX2_readCondition : nPar mX2_readCondition 1 := by unfold nPar; decide +kernel
theorem vX2_readCondition : Cond.instanceMethod yX2_readCondition ∈ Tg := mem_Tg 711 (by decide +kernel) rfl
theorem sX2_readCondition : Cond.selects RX2 yX2_readCondition yX2_readCondition ∈ Tg := mem_Tg 6 (by decide +kernel) rfl
def mX2_readPart : MR := (yX2_readPart, cX2_readPart, 4, some .boolean)
set_option maxRecDepth 100000 in
theorem oX2_readPart : MOk mX2_readPart := ⟨by decide, mem_Tg 716 rfl rfl, mem_Tg 100 (by decide +kernel) rfl, ⟨by decide, by decide⟩, by decide⟩
theorem nX2_readPart : nPar mX2_readPart 1 := by unfold nPar; decide +kernel
theorem vX2_readPart : Cond.instanceMethod yX2_readPart ∈ Tg := mem_Tg 715 (by decide +kernel) rfl
theorem sX2_readPart : Cond.selects RX2 yX2_readPart yX2_readPart ∈ Tg := mem_Tg 7 (by decide +kernel) rfl
def mX2_readTest : MR := (yX2_readTest, cX2_readTest, 2, some .boolean)
set_option maxRecDepth 100000 in
theorem oX2_readTest : MOk mX2_readTest := ⟨by decide, mem_Tg 720 rfl rfl, mem_Tg 100 (by decide +kernel) rfl, ⟨by decide, by decide⟩, by decide⟩
theorem nX2_readTest : nPar mX2_readTest 1 := by unfold nPar; decide +kernel
theorem vX2_readTest : Cond.instanceMethod yX2_readTest ∈ Tg := mem_Tg 719 (by decide +kernel) rfl
theorem sX2_readTest : Cond.selects RX2 yX2_readTest yX2_readTest ∈ Tg := mem_Tg 8 (by decide +kernel) rfl
def mX2_readComparison : MR := (yX2_readComparison, cX2_readComparison, 3, some .boolean)
set_option maxRecDepth 100000 in
theorem oX2_readComparison : MOk mX2_readComparison := ⟨by decide, mem_Tg 724 rfl rfl, mem_Tg 100 (by decide +kernel) rfl, ⟨by decide, by decide⟩, by decide⟩
theorem nX2_readComparison : nPar mX2_readComparison 1 := by unfold nPar; decide +kernel
theorem vX2_readComparison : Cond.instanceMethod yX2_readComparison ∈ Tg := mem_Tg 723 (by decide +kernel) rfl
theorem sX2_readComparison : Cond.selects RX2 yX2_readComparison yX2_readComparison ∈ Tg := mem_Tg 9 (by decide +kernel) rfl
def mX1_land : MR := (yX1_land, cX1_land, 2, none)
set_option maxRecDepth 100000 in
theorem oX1_land : MOk mX1_land := ⟨by decide, mem_Tg 728 rfl rfl, mem_Tg 101 (by decide +kernel) rfl, ⟨by decide, by decide⟩, by decide⟩
theorem nX1_land : nPar mX1_land 1 := by unfold nPar; decide +kernel
theorem vX1_land : Cond.instanceMethod yX1_land ∈ Tg := mem_Tg 726 (by decide +kernel) rfl
theorem sX1_land : Cond.selects RX1 yX1_land yX1_land ∈ Tg := mem_Tg 727 (by decide +kernel) rfl
def mX10_bill : MR := (yX10_bill, cX10_bill, 3, some .int)
set_option maxRecDepth 100000 in
theorem oX10_bill : MOk mX10_bill := ⟨by decide, mem_Tg 733 rfl rfl, mem_Tg 94 (by decide +kernel) rfl, ⟨by decide, by decide⟩, by decide⟩
theorem nX10_bill : nPar mX10_bill 1 := by unfold nPar; decide +kernel
theorem vX10_bill : Cond.instanceMethod yX10_bill ∈ Tg := mem_Tg 731 (by decide +kernel) rfl
theorem sX10_bill : Cond.selects RX10 yX10_bill yX10_bill ∈ Tg := mem_Tg 732 (by decide +kernel) rfl
def mX0_readLines : MR := (yX0_readLines, cX0_readLines, 3, some .int)
set_option maxRecDepth 100000 in
theorem oX0_readLines : MOk mX0_readLines := ⟨by decide, mem_Tg 737 rfl rfl, mem_Tg 99 (by decide +kernel) rfl, ⟨by decide, by decide⟩, by decide⟩
theorem nX0_readLines : nPar mX0_readLines 1 := by unfold nPar; decide +kernel
theorem vX0_readLines : Cond.instanceMethod yX0_readLines ∈ Tg := mem_Tg 735 (by decide +kernel) rfl
theorem sX0_readLines : Cond.selects RX0 yX0_readLines yX0_readLines ∈ Tg := mem_Tg 736 (by decide +kernel) rfl
def mX0_readWhose : MR := (yX0_readWhose, cX0_readWhose, 6, some .boolean)
set_option maxRecDepth 100000 in
theorem oX0_readWhose : MOk mX0_readWhose := ⟨by decide, mem_Tg 741 rfl rfl, mem_Tg 99 (by decide +kernel) rfl, ⟨by decide, by decide⟩, by decide⟩
theorem nX0_readWhose : nPar mX0_readWhose 2 := by unfold nPar; decide +kernel
theorem vX0_readWhose : Cond.instanceMethod yX0_readWhose ∈ Tg := mem_Tg 740 (by decide +kernel) rfl
theorem sX0_readWhose : Cond.selects RX0 yX0_readWhose yX0_readWhose ∈ Tg := mem_Tg 10 (by decide +kernel) rfl
def mX0_readWhat : MR := (yX0_readWhat, cX0_readWhat, 4, some .boolean)
set_option maxRecDepth 100000 in
theorem oX0_readWhat : MOk mX0_readWhat := ⟨by decide, mem_Tg 748 rfl rfl, mem_Tg 99 (by decide +kernel) rfl, ⟨by decide, by decide⟩, by decide⟩
theorem nX0_readWhat : nPar mX0_readWhat 1 := by unfold nPar; decide +kernel
theorem vX0_readWhat : Cond.instanceMethod yX0_readWhat ∈ Tg := mem_Tg 747 (by decide +kernel) rfl
theorem sX0_readWhat : Cond.selects RX0 yX0_readWhat yX0_readWhat ∈ Tg := mem_Tg 11 (by decide +kernel) rfl
def mX0_settle : MR := (yX0_settle, cX0_settle, 3, none)
set_option maxRecDepth 100000 in
theorem oX0_settle : MOk mX0_settle := ⟨by decide, mem_Tg 754 rfl rfl, mem_Tg 99 (by decide +kernel) rfl, ⟨by decide, by decide⟩, by decide⟩
theorem nX0_settle : nPar mX0_settle 1 := by unfold nPar; decide +kernel
theorem vX0_settle : Cond.instanceMethod yX0_settle ∈ Tg := mem_Tg 752 (by decide +kernel) rfl
theorem sX0_settle : Cond.selects RX0 yX0_settle yX0_settle ∈ Tg := mem_Tg 753 (by decide +kernel) rfl
def mX9_addFund : MR := (yX9_addFund, cX9_addFund, 2, none)
set_option maxRecDepth 100000 in
theorem oX9_addFund : MOk mX9_addFund := ⟨by decide, mem_Tg 758 rfl rfl, mem_Tg 104 (by decide +kernel) rfl, ⟨by decide, by decide⟩, by decide⟩
theorem nX9_addFund : nPar mX9_addFund 1 := by unfold nPar; decide +kernel
theorem vX9_addFund : Cond.instanceMethod yX9_addFund ∈ Tg := mem_Tg 756 (by decide +kernel) rfl
theorem sX9_addFund : Cond.selects RX9 yX9_addFund yX9_addFund ∈ Tg := mem_Tg 757 (by decide +kernel) rfl
def mX10_bounded : MR := (yX10_bounded, cX10_bounded, 2, some .int)
set_option maxRecDepth 100000 in
theorem oX10_bounded : MOk mX10_bounded := ⟨by decide, mem_Tg 762 rfl rfl, mem_Tg 94 (by decide +kernel) rfl, ⟨by decide, by decide⟩, by decide⟩
theorem nX10_bounded : nPar mX10_bounded 2 := by unfold nPar; decide +kernel
theorem tX10_bounded : Cond.static yX10_bounded ∈ Tg := mem_Tg 761 (by decide +kernel) rfl
def mX0_settleLine : MR := (yX0_settleLine, cX0_settleLine, 4, none)
set_option maxRecDepth 100000 in
theorem oX0_settleLine : MOk mX0_settleLine := ⟨by decide, mem_Tg 768 rfl rfl, mem_Tg 99 (by decide +kernel) rfl, ⟨by decide, by decide⟩, by decide⟩
theorem nX0_settleLine : nPar mX0_settleLine 3 := by unfold nPar; decide +kernel
theorem vX0_settleLine : Cond.instanceMethod yX0_settleLine ∈ Tg := mem_Tg 767 (by decide +kernel) rfl
theorem sX0_settleLine : Cond.selects RX0 yX0_settleLine yX0_settleLine ∈ Tg := mem_Tg 12 (by decide +kernel) rfl
def mX9_cutOffNow : MR := (yX9_cutOffNow, cX9_cutOffNow, 2, none)
set_option maxRecDepth 100000 in
theorem oX9_cutOffNow : MOk mX9_cutOffNow := ⟨by decide, mem_Tg 772 rfl rfl, mem_Tg 104 (by decide +kernel) rfl, ⟨by decide, by decide⟩, by decide⟩
theorem nX9_cutOffNow : nPar mX9_cutOffNow 1 := by unfold nPar; decide +kernel
theorem vX9_cutOffNow : Cond.instanceMethod yX9_cutOffNow ∈ Tg := mem_Tg 770 (by decide +kernel) rfl
theorem sX9_cutOffNow : Cond.selects RX9 yX9_cutOffNow yX9_cutOffNow ∈ Tg := mem_Tg 771 (by decide +kernel) rfl
def mX9_addArrears : MR := (yX9_addArrears, cX9_addArrears, 3, none)
set_option maxRecDepth 100000 in
theorem oX9_addArrears : MOk mX9_addArrears := ⟨by decide, mem_Tg 776 rfl rfl, mem_Tg 104 (by decide +kernel) rfl, ⟨by decide, by decide⟩, by decide⟩
theorem nX9_addArrears : nPar mX9_addArrears 2 := by unfold nPar; decide +kernel
theorem vX9_addArrears : Cond.instanceMethod yX9_addArrears ∈ Tg := mem_Tg 774 (by decide +kernel) rfl
theorem sX9_addArrears : Cond.selects RX9 yX9_addArrears yX9_addArrears ∈ Tg := mem_Tg 775 (by decide +kernel) rfl
def mX10_code : MR := (yX10_code, cX10_code, 3, some .int)
set_option maxRecDepth 100000 in
theorem oX10_code : MOk mX10_code := ⟨by decide, mem_Tg 780 rfl rfl, mem_Tg 94 (by decide +kernel) rfl, ⟨by decide, by decide⟩, by decide⟩
theorem nX10_code : nPar mX10_code 2 := by unfold nPar; decide +kernel
theorem vX10_code : Cond.instanceMethod yX10_code ∈ Tg := mem_Tg 778 (by decide +kernel) rfl
theorem sX10_code : Cond.selects RX10 yX10_code yX10_code ∈ Tg := mem_Tg 779 (by decide +kernel) rfl
def mX4_load : MR := (yX4_load, cX4_load, 4, some .int)
set_option maxRecDepth 100000 in
theorem oX4_load : MOk mX4_load := ⟨by decide, mem_Tg 784 rfl rfl, mem_Tg 97 (by decide +kernel) rfl, ⟨by decide, by decide⟩, by decide⟩
theorem nX4_load : nPar mX4_load 2 := by unfold nPar; decide +kernel
theorem vX4_load : Cond.instanceMethod yX4_load ∈ Tg := mem_Tg 782 (by decide +kernel) rfl
theorem sX4_load : Cond.selects RX4 yX4_load yX4_load ∈ Tg := mem_Tg 783 (by decide +kernel) rfl
def mX8_holdsOnly : MR := (yX8_holdsOnly, cX8_holdsOnly, 3, some .boolean)
set_option maxRecDepth 100000 in
theorem oX8_holdsOnly : MOk mX8_holdsOnly := ⟨by decide, mem_Tg 788 rfl rfl, mem_Tg 95 (by decide +kernel) rfl, ⟨by decide, by decide⟩, by decide⟩
theorem nX8_holdsOnly : nPar mX8_holdsOnly 2 := by unfold nPar; decide +kernel
theorem vX8_holdsOnly : Cond.instanceMethod yX8_holdsOnly ∈ Tg := mem_Tg 786 (by decide +kernel) rfl
theorem sX8_holdsOnly : Cond.selects RX8 yX8_holdsOnly yX8_holdsOnly ∈ Tg := mem_Tg 787 (by decide +kernel) rfl
def mX10_minutes : MR := (yX10_minutes, cX10_minutes, 2, some .int)
set_option maxRecDepth 100000 in
theorem oX10_minutes : MOk mX10_minutes := ⟨by decide, mem_Tg 794 rfl rfl, mem_Tg 94 (by decide +kernel) rfl, ⟨by decide, by decide⟩, by decide⟩
theorem nX10_minutes : nPar mX10_minutes 1 := by unfold nPar; decide +kernel
theorem vX10_minutes : Cond.instanceMethod yX10_minutes ∈ Tg := mem_Tg 792 (by decide +kernel) rfl
theorem sX10_minutes : Cond.selects RX10 yX10_minutes yX10_minutes ∈ Tg := mem_Tg 793 (by decide +kernel) rfl
def mX7_run : MR := (yX7_run, cX7_run, 4, none)
set_option maxRecDepth 100000 in
theorem oX7_run : MOk mX7_run := ⟨by decide, mem_Tg 798 rfl rfl, mem_Tg 102 (by decide +kernel) rfl, ⟨by decide, by decide⟩, by decide⟩
theorem nX7_run : nPar mX7_run 2 := by unfold nPar; decide +kernel
theorem vX7_run : Cond.instanceMethod yX7_run ∈ Tg := mem_Tg 796 (by decide +kernel) rfl
theorem sX7_run : Cond.selects RX7 yX7_run yX7_run ∈ Tg := mem_Tg 797 (by decide +kernel) rfl
def mX7_goBy : MR := (yX7_goBy, cX7_goBy, 3, none)
set_option maxRecDepth 100000 in
theorem oX7_goBy : MOk mX7_goBy := ⟨by decide, mem_Tg 803 rfl rfl, mem_Tg 102 (by decide +kernel) rfl, ⟨by decide, by decide⟩, by decide⟩
theorem nX7_goBy : nPar mX7_goBy 1 := by unfold nPar; decide +kernel
theorem vX7_goBy : Cond.instanceMethod yX7_goBy ∈ Tg := mem_Tg 802 (by decide +kernel) rfl
theorem sX7_goBy : Cond.selects RX7 yX7_goBy yX7_goBy ∈ Tg := mem_Tg 13 (by decide +kernel) rfl
def mX7_charge : MR := (yX7_charge, cX7_charge, 5, none)
set_option maxRecDepth 100000 in
theorem oX7_charge : MOk mX7_charge := ⟨by decide, mem_Tg 807 rfl rfl, mem_Tg 102 (by decide +kernel) rfl, ⟨by decide, by decide⟩, by decide⟩
theorem nX7_charge : nPar mX7_charge 2 := by unfold nPar; decide +kernel
theorem vX7_charge : Cond.instanceMethod yX7_charge ∈ Tg := mem_Tg 806 (by decide +kernel) rfl
theorem sX7_charge : Cond.selects RX7 yX7_charge yX7_charge ∈ Tg := mem_Tg 14 (by decide +kernel) rfl
def mX9_free : MR := (yX9_free, cX9_free, 1, some .int)
set_option maxRecDepth 100000 in
theorem oX9_free : MOk mX9_free := ⟨by decide, mem_Tg 814 rfl rfl, mem_Tg 104 (by decide +kernel) rfl, ⟨by decide, by decide⟩, by decide⟩
theorem nX9_free : nPar mX9_free 0 := by unfold nPar; decide +kernel
theorem vX9_free : Cond.instanceMethod yX9_free ∈ Tg := mem_Tg 812 (by decide +kernel) rfl
theorem sX9_free : Cond.selects RX9 yX9_free yX9_free ∈ Tg := mem_Tg 813 (by decide +kernel) rfl
def mX7_mayRing : MR := (yX7_mayRing, cX7_mayRing, 9, none)
set_option maxRecDepth 100000 in
theorem oX7_mayRing : MOk mX7_mayRing := ⟨by decide, mem_Tg 818 rfl rfl, mem_Tg 102 (by decide +kernel) rfl, ⟨by decide, by decide⟩, by decide⟩
theorem nX7_mayRing : nPar mX7_mayRing 2 := by unfold nPar; decide +kernel
theorem vX7_mayRing : Cond.instanceMethod yX7_mayRing ∈ Tg := mem_Tg 817 (by decide +kernel) rfl
theorem sX7_mayRing : Cond.selects RX7 yX7_mayRing yX7_mayRing ∈ Tg := mem_Tg 15 (by decide +kernel) rfl
def mX5_lookAt : MR := (yX5_lookAt, cX5_lookAt, 3, none)
set_option maxRecDepth 100000 in
theorem oX5_lookAt : MOk mX5_lookAt := ⟨by decide, mem_Tg 822 rfl rfl, mem_Tg 103 (by decide +kernel) rfl, ⟨by decide, by decide⟩, by decide⟩
theorem nX5_lookAt : nPar mX5_lookAt 2 := by unfold nPar; decide +kernel
theorem vX5_lookAt : Cond.instanceMethod yX5_lookAt ∈ Tg := mem_Tg 820 (by decide +kernel) rfl
theorem sX5_lookAt : Cond.selects RX5 yX5_lookAt yX5_lookAt ∈ Tg := mem_Tg 821 (by decide +kernel) rfl
def mX5_valueOf : MR := (yX5_valueOf, cX5_valueOf, 5, some .int)
set_option maxRecDepth 100000 in
theorem oX5_valueOf : MOk mX5_valueOf := ⟨by decide, mem_Tg 826 rfl rfl, mem_Tg 103 (by decide +kernel) rfl, ⟨by decide, by decide⟩, by decide⟩
theorem nX5_valueOf : nPar mX5_valueOf 3 := by unfold nPar; decide +kernel
theorem vX5_valueOf : Cond.instanceMethod yX5_valueOf ∈ Tg := mem_Tg 824 (by decide +kernel) rfl
theorem sX5_valueOf : Cond.selects RX5 yX5_valueOf yX5_valueOf ∈ Tg := mem_Tg 825 (by decide +kernel) rfl
def mX5_firstHolding : MR := (yX5_firstHolding, cX5_firstHolding, 4, some .int)
set_option maxRecDepth 100000 in
theorem oX5_firstHolding : MOk mX5_firstHolding := ⟨by decide, mem_Tg 830 rfl rfl, mem_Tg 103 (by decide +kernel) rfl, ⟨by decide, by decide⟩, by decide⟩
theorem nX5_firstHolding : nPar mX5_firstHolding 2 := by unfold nPar; decide +kernel
theorem vX5_firstHolding : Cond.instanceMethod yX5_firstHolding ∈ Tg := mem_Tg 828 (by decide +kernel) rfl
theorem sX5_firstHolding : Cond.selects RX5 yX5_firstHolding yX5_firstHolding ∈ Tg := mem_Tg 829 (by decide +kernel) rfl
def mX5_reckon : MR := (yX5_reckon, cX5_reckon, 9, some .int)
set_option maxRecDepth 100000 in
theorem oX5_reckon : MOk mX5_reckon := ⟨by decide, mem_Tg 834 rfl rfl, mem_Tg 103 (by decide +kernel) rfl, ⟨by decide, by decide⟩, by decide⟩
theorem nX5_reckon : nPar mX5_reckon 3 := by unfold nPar; decide +kernel
theorem vX5_reckon : Cond.instanceMethod yX5_reckon ∈ Tg := mem_Tg 833 (by decide +kernel) rfl
theorem sX5_reckon : Cond.selects RX5 yX5_reckon yX5_reckon ∈ Tg := mem_Tg 16 (by decide +kernel) rfl
def mX5_join : MR := (yX5_join, cX5_join, 4, some .int)
set_option maxRecDepth 100000 in
theorem oX5_join : MOk mX5_join := ⟨by decide, mem_Tg 839 rfl rfl, mem_Tg 103 (by decide +kernel) rfl, ⟨by decide, by decide⟩, by decide⟩
theorem nX5_join : nPar mX5_join 3 := by unfold nPar; decide +kernel
theorem vX5_join : Cond.instanceMethod yX5_join ∈ Tg := mem_Tg 838 (by decide +kernel) rfl
theorem sX5_join : Cond.selects RX5 yX5_join yX5_join ∈ Tg := mem_Tg 17 (by decide +kernel) rfl
def mX9_draw : MR := (yX9_draw, cX9_draw, 1, some .int)
set_option maxRecDepth 100000 in
theorem oX9_draw : MOk mX9_draw := ⟨by decide, mem_Tg 844 rfl rfl, mem_Tg 104 (by decide +kernel) rfl, ⟨by decide, by decide⟩, by decide⟩
theorem nX9_draw : nPar mX9_draw 0 := by unfold nPar; decide +kernel
theorem vX9_draw : Cond.instanceMethod yX9_draw ∈ Tg := mem_Tg 842 (by decide +kernel) rfl
theorem sX9_draw : Cond.selects RX9 yX9_draw yX9_draw ∈ Tg := mem_Tg 843 (by decide +kernel) rfl
def mX3_findRoute : MR := (yX3_findRoute, cX3_findRoute, 5, some .int)
set_option maxRecDepth 100000 in
theorem oX3_findRoute : MOk mX3_findRoute := ⟨by decide, mem_Tg 849 rfl rfl, mem_Tg 96 (by decide +kernel) rfl, ⟨by decide, by decide⟩, by decide⟩
theorem nX3_findRoute : nPar mX3_findRoute 3 := by unfold nPar; decide +kernel
theorem vX3_findRoute : Cond.instanceMethod yX3_findRoute ∈ Tg := mem_Tg 847 (by decide +kernel) rfl
theorem sX3_findRoute : Cond.selects RX3 yX3_findRoute yX3_findRoute ∈ Tg := mem_Tg 848 (by decide +kernel) rfl
def mX3_leaveRoom : MR := (yX3_leaveRoom, cX3_leaveRoom, 4, none)
set_option maxRecDepth 100000 in
theorem oX3_leaveRoom : MOk mX3_leaveRoom := ⟨by decide, mem_Tg 853 rfl rfl, mem_Tg 96 (by decide +kernel) rfl, ⟨by decide, by decide⟩, by decide⟩
theorem nX3_leaveRoom : nPar mX3_leaveRoom 2 := by unfold nPar; decide +kernel
theorem vX3_leaveRoom : Cond.instanceMethod yX3_leaveRoom ∈ Tg := mem_Tg 852 (by decide +kernel) rfl
theorem sX3_leaveRoom : Cond.selects RX3 yX3_leaveRoom yX3_leaveRoom ∈ Tg := mem_Tg 18 (by decide +kernel) rfl
def mX3_spread : MR := (yX3_spread, cX3_spread, 6, some .int)
set_option maxRecDepth 100000 in
theorem oX3_spread : MOk mX3_spread := ⟨by decide, mem_Tg 858 rfl rfl, mem_Tg 96 (by decide +kernel) rfl, ⟨by decide, by decide⟩, by decide⟩
theorem nX3_spread : nPar mX3_spread 1 := by unfold nPar; decide +kernel
theorem vX3_spread : Cond.instanceMethod yX3_spread ∈ Tg := mem_Tg 857 (by decide +kernel) rfl
theorem sX3_spread : Cond.selects RX3 yX3_spread yX3_spread ∈ Tg := mem_Tg 19 (by decide +kernel) rfl
def mX3_nearer : MR := (yX3_nearer, cX3_nearer, 3, some .int)
set_option maxRecDepth 100000 in
theorem oX3_nearer : MOk mX3_nearer := ⟨by decide, mem_Tg 862 rfl rfl, mem_Tg 96 (by decide +kernel) rfl, ⟨by decide, by decide⟩, by decide⟩
theorem nX3_nearer : nPar mX3_nearer 1 := by unfold nPar; decide +kernel
theorem vX3_nearer : Cond.instanceMethod yX3_nearer ∈ Tg := mem_Tg 861 (by decide +kernel) rfl
theorem sX3_nearer : Cond.selects RX3 yX3_nearer yX3_nearer ∈ Tg := mem_Tg 20 (by decide +kernel) rfl
def mX9_lowestFreePlace : MR := (yX9_lowestFreePlace, cX9_lowestFreePlace, 2, some .int)
set_option maxRecDepth 100000 in
theorem oX9_lowestFreePlace : MOk mX9_lowestFreePlace := ⟨by decide, mem_Tg 866 rfl rfl, mem_Tg 104 (by decide +kernel) rfl, ⟨by decide, by decide⟩, by decide⟩
theorem nX9_lowestFreePlace : nPar mX9_lowestFreePlace 0 := by unfold nPar; decide +kernel
theorem vX9_lowestFreePlace : Cond.instanceMethod yX9_lowestFreePlace ∈ Tg := mem_Tg 864 (by decide +kernel) rfl
theorem sX9_lowestFreePlace : Cond.selects RX9 yX9_lowestFreePlace yX9_lowestFreePlace ∈ Tg := mem_Tg 865 (by decide +kernel) rfl
def mX5_lookAtCall : MR := (yX5_lookAtCall, cX5_lookAtCall, 4, none)
set_option maxRecDepth 100000 in
theorem oX5_lookAtCall : MOk mX5_lookAtCall := ⟨by decide, mem_Tg 870 rfl rfl, mem_Tg 103 (by decide +kernel) rfl, ⟨by decide, by decide⟩, by decide⟩
theorem nX5_lookAtCall : nPar mX5_lookAtCall 3 := by unfold nPar; decide +kernel
theorem vX5_lookAtCall : Cond.instanceMethod yX5_lookAtCall ∈ Tg := mem_Tg 868 (by decide +kernel) rfl
theorem sX5_lookAtCall : Cond.selects RX5 yX5_lookAtCall yX5_lookAtCall ∈ Tg := mem_Tg 869 (by decide +kernel) rfl
def mX9_begin : MR := (yX9_begin, cX9_begin, 5, none)
set_option maxRecDepth 100000 in
theorem oX9_begin : MOk mX9_begin := ⟨by decide, mem_Tg 875 rfl rfl, mem_Tg 104 (by decide +kernel) rfl, ⟨by decide, by decide⟩, by decide⟩
theorem nX9_begin : nPar mX9_begin 4 := by unfold nPar; decide +kernel
theorem vX9_begin : Cond.instanceMethod yX9_begin ∈ Tg := mem_Tg 873 (by decide +kernel) rfl
theorem sX9_begin : Cond.selects RX9 yX9_begin yX9_begin ∈ Tg := mem_Tg 874 (by decide +kernel) rfl
def mX9_seize : MR := (yX9_seize, cX9_seize, 4, none)
set_option maxRecDepth 100000 in
theorem oX9_seize : MOk mX9_seize := ⟨by decide, mem_Tg 880 rfl rfl, mem_Tg 104 (by decide +kernel) rfl, ⟨by decide, by decide⟩, by decide⟩
theorem nX9_seize : nPar mX9_seize 3 := by unfold nPar; decide +kernel
theorem vX9_seize : Cond.instanceMethod yX9_seize ∈ Tg := mem_Tg 878 (by decide +kernel) rfl
theorem sX9_seize : Cond.selects RX9 yX9_seize yX9_seize ∈ Tg := mem_Tg 879 (by decide +kernel) rfl
def mX7_mayStop : MR := (yX7_mayStop, cX7_mayStop, 3, none)
set_option maxRecDepth 100000 in
theorem oX7_mayStop : MOk mX7_mayStop := ⟨by decide, mem_Tg 887 rfl rfl, mem_Tg 102 (by decide +kernel) rfl, ⟨by decide, by decide⟩, by decide⟩
theorem nX7_mayStop : nPar mX7_mayStop 2 := by unfold nPar; decide +kernel
theorem vX7_mayStop : Cond.instanceMethod yX7_mayStop ∈ Tg := mem_Tg 886 (by decide +kernel) rfl
theorem sX7_mayStop : Cond.selects RX7 yX7_mayStop yX7_mayStop ∈ Tg := mem_Tg 21 (by decide +kernel) rfl
def mX10_tried : MR := (yX10_tried, cX10_tried, 4, some .int)
set_option maxRecDepth 100000 in
theorem oX10_tried : MOk mX10_tried := ⟨by decide, mem_Tg 892 rfl rfl, mem_Tg 94 (by decide +kernel) rfl, ⟨by decide, by decide⟩, by decide⟩
theorem nX10_tried : nPar mX10_tried 2 := by unfold nPar; decide +kernel
theorem vX10_tried : Cond.instanceMethod yX10_tried ∈ Tg := mem_Tg 890 (by decide +kernel) rfl
theorem sX10_tried : Cond.selects RX10 yX10_tried yX10_tried ∈ Tg := mem_Tg 891 (by decide +kernel) rfl
def mX9_isTold : MR := (yX9_isTold, cX9_isTold, 2, some .boolean)
set_option maxRecDepth 100000 in
theorem oX9_isTold : MOk mX9_isTold := ⟨by decide, mem_Tg 896 rfl rfl, mem_Tg 104 (by decide +kernel) rfl, ⟨by decide, by decide⟩, by decide⟩
theorem nX9_isTold : nPar mX9_isTold 1 := by unfold nPar; decide +kernel
theorem vX9_isTold : Cond.instanceMethod yX9_isTold ∈ Tg := mem_Tg 894 (by decide +kernel) rfl
theorem sX9_isTold : Cond.selects RX9 yX9_isTold yX9_isTold ∈ Tg := mem_Tg 895 (by decide +kernel) rfl
def mX9_copyFrom : MR := (yX9_copyFrom, cX9_copyFrom, 2, none)
set_option maxRecDepth 100000 in
theorem oX9_copyFrom : MOk mX9_copyFrom := ⟨by decide, mem_Tg 901 rfl rfl, mem_Tg 104 (by decide +kernel) rfl, ⟨by decide, by decide⟩, by decide⟩
theorem nX9_copyFrom : nPar mX9_copyFrom 1 := by unfold nPar; decide +kernel
theorem vX9_copyFrom : Cond.instanceMethod yX9_copyFrom ∈ Tg := mem_Tg 899 (by decide +kernel) rfl
theorem sX9_copyFrom : Cond.selects RX9 yX9_copyFrom yX9_copyFrom ∈ Tg := mem_Tg 900 (by decide +kernel) rfl
def mX9_calls : MR := (yX9_calls, cX9_calls, 1, some .int)
set_option maxRecDepth 100000 in
theorem oX9_calls : MOk mX9_calls := ⟨by decide, mem_Tg 905 rfl rfl, mem_Tg 104 (by decide +kernel) rfl, ⟨by decide, by decide⟩, by decide⟩
theorem nX9_calls : nPar mX9_calls 0 := by unfold nPar; decide +kernel
theorem vX9_calls : Cond.instanceMethod yX9_calls ∈ Tg := mem_Tg 903 (by decide +kernel) rfl
theorem sX9_calls : Cond.selects RX9 yX9_calls yX9_calls ∈ Tg := mem_Tg 904 (by decide +kernel) rfl
def mJ6_bitCount_0f7a4 : MR := (yJ6_bitCount_0f7a4, cJ6_bitCount_0f7a4, 1, some .int)
set_option maxRecDepth 100000 in
theorem oJ6_bitCount_0f7a4 : MOk mJ6_bitCount_0f7a4 := ⟨by decide, mem_Tg 908 rfl rfl, mem_Tg 113 (by decide +kernel) rfl, ⟨by decide, by decide⟩, by decide⟩
theorem nJ6_bitCount_0f7a4 : nPar mJ6_bitCount_0f7a4 1 := by unfold nPar; decide +kernel
theorem tJ6_bitCount_0f7a4 : Cond.static yJ6_bitCount_0f7a4 ∈ Tg := mem_Tg 907 (by decide +kernel) rfl
def mX9_arrearsOf : MR := (yX9_arrearsOf, cX9_arrearsOf, 2, some .int)
set_option maxRecDepth 100000 in
theorem oX9_arrearsOf : MOk mX9_arrearsOf := ⟨by decide, mem_Tg 915 rfl rfl, mem_Tg 104 (by decide +kernel) rfl, ⟨by decide, by decide⟩, by decide⟩
theorem nX9_arrearsOf : nPar mX9_arrearsOf 1 := by unfold nPar; decide +kernel
theorem vX9_arrearsOf : Cond.instanceMethod yX9_arrearsOf ∈ Tg := mem_Tg 913 (by decide +kernel) rfl
theorem sX9_arrearsOf : Cond.selects RX9 yX9_arrearsOf yX9_arrearsOf ∈ Tg := mem_Tg 914 (by decide +kernel) rfl
def mX10_subscriberIs : MR := (yX10_subscriberIs, cX10_subscriberIs, 4, some .int)
set_option maxRecDepth 100000 in
theorem oX10_subscriberIs : MOk mX10_subscriberIs := ⟨by decide, mem_Tg 920 rfl rfl, mem_Tg 94 (by decide +kernel) rfl, ⟨by decide, by decide⟩, by decide⟩
theorem nX10_subscriberIs : nPar mX10_subscriberIs 2 := by unfold nPar; decide +kernel
theorem vX10_subscriberIs : Cond.instanceMethod yX10_subscriberIs ∈ Tg := mem_Tg 918 (by decide +kernel) rfl
theorem sX10_subscriberIs : Cond.selects RX10 yX10_subscriberIs yX10_subscriberIs ∈ Tg := mem_Tg 919 (by decide +kernel) rfl
def mX9_partnerOf : MR := (yX9_partnerOf, cX9_partnerOf, 3, some .int)
set_option maxRecDepth 100000 in
theorem oX9_partnerOf : MOk mX9_partnerOf := ⟨by decide, mem_Tg 924 rfl rfl, mem_Tg 104 (by decide +kernel) rfl, ⟨by decide, by decide⟩, by decide⟩
theorem nX9_partnerOf : nPar mX9_partnerOf 1 := by unfold nPar; decide +kernel
theorem vX9_partnerOf : Cond.instanceMethod yX9_partnerOf ∈ Tg := mem_Tg 922 (by decide +kernel) rfl
theorem sX9_partnerOf : Cond.selects RX9 yX9_partnerOf yX9_partnerOf ∈ Tg := mem_Tg 923 (by decide +kernel) rfl
def mX10_callIs : MR := (yX10_callIs, cX10_callIs, 3, some .int)
set_option maxRecDepth 100000 in
theorem oX10_callIs : MOk mX10_callIs := ⟨by decide, mem_Tg 928 rfl rfl, mem_Tg 94 (by decide +kernel) rfl, ⟨by decide, by decide⟩, by decide⟩
theorem nX10_callIs : nPar mX10_callIs 2 := by unfold nPar; decide +kernel
theorem vX10_callIs : Cond.instanceMethod yX10_callIs ∈ Tg := mem_Tg 926 (by decide +kernel) rfl
theorem sX10_callIs : Cond.selects RX10 yX10_callIs yX10_callIs ∈ Tg := mem_Tg 927 (by decide +kernel) rfl
def mX10_circuits : MR := (yX10_circuits, cX10_circuits, 5, some .int)
set_option maxRecDepth 100000 in
theorem oX10_circuits : MOk mX10_circuits := ⟨by decide, mem_Tg 932 rfl rfl, mem_Tg 94 (by decide +kernel) rfl, ⟨by decide, by decide⟩, by decide⟩
theorem nX10_circuits : nPar mX10_circuits 3 := by unfold nPar; decide +kernel
theorem vX10_circuits : Cond.instanceMethod yX10_circuits ∈ Tg := mem_Tg 930 (by decide +kernel) rfl
theorem sX10_circuits : Cond.selects RX10 yX10_circuits yX10_circuits ∈ Tg := mem_Tg 931 (by decide +kernel) rfl
def mX10_route : MR := (yX10_route, cX10_route, 5, some .int)
set_option maxRecDepth 100000 in
theorem oX10_route : MOk mX10_route := ⟨by decide, mem_Tg 936 rfl rfl, mem_Tg 94 (by decide +kernel) rfl, ⟨by decide, by decide⟩, by decide⟩
theorem nX10_route : nPar mX10_route 3 := by unfold nPar; decide +kernel
theorem vX10_route : Cond.instanceMethod yX10_route ∈ Tg := mem_Tg 934 (by decide +kernel) rfl
theorem sX10_route : Cond.selects RX10 yX10_route yX10_route ∈ Tg := mem_Tg 935 (by decide +kernel) rfl
def mX10_fundLasts : MR := (yX10_fundLasts, cX10_fundLasts, 2, some .int)
set_option maxRecDepth 100000 in
theorem oX10_fundLasts : MOk mX10_fundLasts := ⟨by decide, mem_Tg 941 rfl rfl, mem_Tg 94 (by decide +kernel) rfl, ⟨by decide, by decide⟩, by decide⟩
theorem nX10_fundLasts : nPar mX10_fundLasts 1 := by unfold nPar; decide +kernel
theorem vX10_fundLasts : Cond.instanceMethod yX10_fundLasts ∈ Tg := mem_Tg 939 (by decide +kernel) rfl
theorem sX10_fundLasts : Cond.selects RX10 yX10_fundLasts yX10_fundLasts ∈ Tg := mem_Tg 940 (by decide +kernel) rfl
def mX7_minutesTillPoor : MR := (yX7_minutesTillPoor, cX7_minutesTillPoor, 4, some .int)
set_option maxRecDepth 100000 in
theorem oX7_minutesTillPoor : MOk mX7_minutesTillPoor := ⟨by decide, mem_Tg 945 rfl rfl, mem_Tg 102 (by decide +kernel) rfl, ⟨by decide, by decide⟩, by decide⟩
theorem nX7_minutesTillPoor : nPar mX7_minutesTillPoor 2 := by unfold nPar; decide +kernel
theorem vX7_minutesTillPoor : Cond.instanceMethod yX7_minutesTillPoor ∈ Tg := mem_Tg 943 (by decide +kernel) rfl
theorem sX7_minutesTillPoor : Cond.selects RX7 yX7_minutesTillPoor yX7_minutesTillPoor ∈ Tg := mem_Tg 944 (by decide +kernel) rfl
def mX10_atOnce : MR := (yX10_atOnce, cX10_atOnce, 3, some .int)
set_option maxRecDepth 100000 in
theorem oX10_atOnce : MOk mX10_atOnce := ⟨by decide, mem_Tg 949 rfl rfl, mem_Tg 94 (by decide +kernel) rfl, ⟨by decide, by decide⟩, by decide⟩
theorem nX10_atOnce : nPar mX10_atOnce 2 := by unfold nPar; decide +kernel
theorem vX10_atOnce : Cond.instanceMethod yX10_atOnce ∈ Tg := mem_Tg 947 (by decide +kernel) rfl
theorem sX10_atOnce : Cond.selects RX10 yX10_atOnce yX10_atOnce ∈ Tg := mem_Tg 948 (by decide +kernel) rfl
def mX3_flow : MR := (yX3_flow, cX3_flow, 6, some .int)
set_option maxRecDepth 100000 in
theorem oX3_flow : MOk mX3_flow := ⟨by decide, mem_Tg 953 rfl rfl, mem_Tg 96 (by decide +kernel) rfl, ⟨by decide, by decide⟩, by decide⟩
theorem nX3_flow : nPar mX3_flow 3 := by unfold nPar; decide +kernel
theorem vX3_flow : Cond.instanceMethod yX3_flow ∈ Tg := mem_Tg 951 (by decide +kernel) rfl
theorem sX3_flow : Cond.selects RX3 yX3_flow yX3_flow ∈ Tg := mem_Tg 952 (by decide +kernel) rfl
def mX3_push : MR := (yX3_push, cX3_push, 5, some .int)
set_option maxRecDepth 100000 in
theorem oX3_push : MOk mX3_push := ⟨by decide, mem_Tg 957 rfl rfl, mem_Tg 96 (by decide +kernel) rfl, ⟨by decide, by decide⟩, by decide⟩
theorem nX3_push : nPar mX3_push 1 := by unfold nPar; decide +kernel
theorem vX3_push : Cond.instanceMethod yX3_push ∈ Tg := mem_Tg 956 (by decide +kernel) rfl
theorem sX3_push : Cond.selects RX3 yX3_push yX3_push ∈ Tg := mem_Tg 22 (by decide +kernel) rfl
def mX10_stops : MR := (yX10_stops, cX10_stops, 3, some .int)
set_option maxRecDepth 100000 in
theorem oX10_stops : MOk mX10_stops := ⟨by decide, mem_Tg 962 rfl rfl, mem_Tg 94 (by decide +kernel) rfl, ⟨by decide, by decide⟩, by decide⟩
theorem nX10_stops : nPar mX10_stops 2 := by unfold nPar; decide +kernel
theorem vX10_stops : Cond.instanceMethod yX10_stops ∈ Tg := mem_Tg 960 (by decide +kernel) rfl
theorem sX10_stops : Cond.selects RX10 yX10_stops yX10_stops ∈ Tg := mem_Tg 961 (by decide +kernel) rfl
def mX10_inTheMiddle : MR := (yX10_inTheMiddle, cX10_inTheMiddle, 1, some .int)
set_option maxRecDepth 100000 in
theorem oX10_inTheMiddle : MOk mX10_inTheMiddle := ⟨by decide, mem_Tg 966 rfl rfl, mem_Tg 94 (by decide +kernel) rfl, ⟨by decide, by decide⟩, by decide⟩
theorem nX10_inTheMiddle : nPar mX10_inTheMiddle 0 := by unfold nPar; decide +kernel
theorem vX10_inTheMiddle : Cond.instanceMethod yX10_inTheMiddle ∈ Tg := mem_Tg 964 (by decide +kernel) rfl
theorem sX10_inTheMiddle : Cond.selects RX10 yX10_inTheMiddle yX10_inTheMiddle ∈ Tg := mem_Tg 965 (by decide +kernel) rfl
def mX3_middle : MR := (yX3_middle, cX3_middle, 8, some .int)
set_option maxRecDepth 100000 in
theorem oX3_middle : MOk mX3_middle := ⟨by decide, mem_Tg 970 rfl rfl, mem_Tg 96 (by decide +kernel) rfl, ⟨by decide, by decide⟩, by decide⟩
theorem nX3_middle : nPar mX3_middle 0 := by unfold nPar; decide +kernel
theorem vX3_middle : Cond.instanceMethod yX3_middle ∈ Tg := mem_Tg 968 (by decide +kernel) rfl
theorem sX3_middle : Cond.selects RX3 yX3_middle yX3_middle ∈ Tg := mem_Tg 969 (by decide +kernel) rfl
def mX10_cut : MR := (yX10_cut, cX10_cut, 4, some .int)
set_option maxRecDepth 100000 in
theorem oX10_cut : MOk mX10_cut := ⟨by decide, mem_Tg 975 rfl rfl, mem_Tg 94 (by decide +kernel) rfl, ⟨by decide, by decide⟩, by decide⟩
theorem nX10_cut : nPar mX10_cut 3 := by unfold nPar; decide +kernel
theorem vX10_cut : Cond.instanceMethod yX10_cut ∈ Tg := mem_Tg 973 (by decide +kernel) rfl
theorem sX10_cut : Cond.selects RX10 yX10_cut yX10_cut ∈ Tg := mem_Tg 974 (by decide +kernel) rfl
def mX6_savedMost : MR := (yX6_savedMost, cX6_savedMost, 10, some .int)
set_option maxRecDepth 100000 in
theorem oX6_savedMost : MOk mX6_savedMost := ⟨by decide, mem_Tg 979 rfl rfl, mem_Tg 98 (by decide +kernel) rfl, ⟨by decide, by decide⟩, by decide⟩
theorem nX6_savedMost : nPar mX6_savedMost 3 := by unfold nPar; decide +kernel
theorem vX6_savedMost : Cond.instanceMethod yX6_savedMost ∈ Tg := mem_Tg 977 (by decide +kernel) rfl
theorem sX6_savedMost : Cond.selects RX6 yX6_savedMost yX6_savedMost ∈ Tg := mem_Tg 978 (by decide +kernel) rfl
def mX6_readSteps : MR := (yX6_readSteps, cX6_readSteps, 8, none)
set_option maxRecDepth 100000 in
theorem oX6_readSteps : MOk mX6_readSteps := ⟨by decide, mem_Tg 983 rfl rfl, mem_Tg 98 (by decide +kernel) rfl, ⟨by decide, by decide⟩, by decide⟩
theorem nX6_readSteps : nPar mX6_readSteps 4 := by unfold nPar; decide +kernel
theorem vX6_readSteps : Cond.instanceMethod yX6_readSteps ∈ Tg := mem_Tg 982 (by decide +kernel) rfl
theorem sX6_readSteps : Cond.selects RX6 yX6_readSteps yX6_readSteps ∈ Tg := mem_Tg 23 (by decide +kernel) rfl
def mX6_lowestOf : MR := (yX6_lowestOf, cX6_lowestOf, 2, some .int)
set_option maxRecDepth 100000 in
theorem oX6_lowestOf : MOk mX6_lowestOf := ⟨by decide, mem_Tg 987 rfl rfl, mem_Tg 98 (by decide +kernel) rfl, ⟨by decide, by decide⟩, by decide⟩
theorem nX6_lowestOf : nPar mX6_lowestOf 1 := by unfold nPar; decide +kernel
theorem tX6_lowestOf : Cond.static yX6_lowestOf ∈ Tg := mem_Tg 986 (by decide +kernel) rfl
def mX10_heir : MR := (yX10_heir, cX10_heir, 4, some .int)
set_option maxRecDepth 100000 in
theorem oX10_heir : MOk mX10_heir := ⟨by decide, mem_Tg 991 rfl rfl, mem_Tg 94 (by decide +kernel) rfl, ⟨by decide, by decide⟩, by decide⟩
theorem nX10_heir : nPar mX10_heir 3 := by unfold nPar; decide +kernel
theorem vX10_heir : Cond.instanceMethod yX10_heir ∈ Tg := mem_Tg 989 (by decide +kernel) rfl
theorem sX10_heir : Cond.selects RX10 yX10_heir yX10_heir ∈ Tg := mem_Tg 990 (by decide +kernel) rfl
def mX6_tracedBy : MR := (yX6_tracedBy, cX6_tracedBy, 9, some .int)
set_option maxRecDepth 100000 in
theorem oX6_tracedBy : MOk mX6_tracedBy := ⟨by decide, mem_Tg 995 rfl rfl, mem_Tg 98 (by decide +kernel) rfl, ⟨by decide, by decide⟩, by decide⟩
theorem nX6_tracedBy : nPar mX6_tracedBy 3 := by unfold nPar; decide +kernel
theorem vX6_tracedBy : Cond.instanceMethod yX6_tracedBy ∈ Tg := mem_Tg 993 (by decide +kernel) rfl
theorem sX6_tracedBy : Cond.selects RX6 yX6_tracedBy yX6_tracedBy ∈ Tg := mem_Tg 994 (by decide +kernel) rfl
def mX10_busy : MR := (yX10_busy, cX10_busy, 4, some .int)
set_option maxRecDepth 100000 in
theorem oX10_busy : MOk mX10_busy := ⟨by decide, mem_Tg 1000 rfl rfl, mem_Tg 94 (by decide +kernel) rfl, ⟨by decide, by decide⟩, by decide⟩
theorem nX10_busy : nPar mX10_busy 2 := by unfold nPar; decide +kernel
theorem vX10_busy : Cond.instanceMethod yX10_busy ∈ Tg := mem_Tg 998 (by decide +kernel) rfl
theorem sX10_busy : Cond.selects RX10 yX10_busy yX10_busy ∈ Tg := mem_Tg 999 (by decide +kernel) rfl
def mX6_readHours : MR := (yX6_readHours, cX6_readHours, 3, some .boolean)
set_option maxRecDepth 100000 in
theorem oX6_readHours : MOk mX6_readHours := ⟨by decide, mem_Tg 1004 rfl rfl, mem_Tg 98 (by decide +kernel) rfl, ⟨by decide, by decide⟩, by decide⟩
theorem nX6_readHours : nPar mX6_readHours 1 := by unfold nPar; decide +kernel
theorem vX6_readHours : Cond.instanceMethod yX6_readHours ∈ Tg := mem_Tg 1002 (by decide +kernel) rfl
theorem sX6_readHours : Cond.selects RX6 yX6_readHours yX6_readHours ∈ Tg := mem_Tg 1003 (by decide +kernel) rfl
def mX6_readPairs : MR := (yX6_readPairs, cX6_readPairs, 3, none)
set_option maxRecDepth 100000 in
theorem oX6_readPairs : MOk mX6_readPairs := ⟨by decide, mem_Tg 1008 rfl rfl, mem_Tg 98 (by decide +kernel) rfl, ⟨by decide, by decide⟩, by decide⟩
theorem nX6_readPairs : nPar mX6_readPairs 1 := by unfold nPar; decide +kernel
theorem vX6_readPairs : Cond.instanceMethod yX6_readPairs ∈ Tg := mem_Tg 1007 (by decide +kernel) rfl
theorem sX6_readPairs : Cond.selects RX6 yX6_readPairs yX6_readPairs ∈ Tg := mem_Tg 24 (by decide +kernel) rfl
def mX6_fewestCircuits : MR := (yX6_fewestCircuits, cX6_fewestCircuits, 4, some .int)
set_option maxRecDepth 100000 in
theorem oX6_fewestCircuits : MOk mX6_fewestCircuits := ⟨by decide, mem_Tg 1012 rfl rfl, mem_Tg 98 (by decide +kernel) rfl, ⟨by decide, by decide⟩, by decide⟩
theorem nX6_fewestCircuits : nPar mX6_fewestCircuits 2 := by unfold nPar; decide +kernel
theorem vX6_fewestCircuits : Cond.instanceMethod yX6_fewestCircuits ∈ Tg := mem_Tg 1010 (by decide +kernel) rfl
theorem sX6_fewestCircuits : Cond.selects RX6 yX6_fewestCircuits yX6_fewestCircuits ∈ Tg := mem_Tg 1011 (by decide +kernel) rfl
def mX6_sortByBeginning : MR := (yX6_sortByBeginning, cX6_sortByBeginning, 6, none)
set_option maxRecDepth 100000 in
theorem oX6_sortByBeginning : MOk mX6_sortByBeginning := ⟨by decide, mem_Tg 1016 rfl rfl, mem_Tg 98 (by decide +kernel) rfl, ⟨by decide, by decide⟩, by decide⟩
theorem nX6_sortByBeginning : nPar mX6_sortByBeginning 1 := by unfold nPar; decide +kernel
theorem vX6_sortByBeginning : Cond.instanceMethod yX6_sortByBeginning ∈ Tg := mem_Tg 1015 (by decide +kernel) rfl
theorem sX6_sortByBeginning : Cond.selects RX6 yX6_sortByBeginning yX6_sortByBeginning ∈ Tg := mem_Tg 25 (by decide +kernel) rfl
def mX6_suffices : MR := (yX6_suffices, cX6_suffices, 7, some .boolean)
set_option maxRecDepth 100000 in
theorem oX6_suffices : MOk mX6_suffices := ⟨by decide, mem_Tg 1020 rfl rfl, mem_Tg 98 (by decide +kernel) rfl, ⟨by decide, by decide⟩, by decide⟩
theorem nX6_suffices : nPar mX6_suffices 3 := by unfold nPar; decide +kernel
theorem vX6_suffices : Cond.instanceMethod yX6_suffices ∈ Tg := mem_Tg 1019 (by decide +kernel) rfl
theorem sX6_suffices : Cond.selects RX6 yX6_suffices yX6_suffices ∈ Tg := mem_Tg 26 (by decide +kernel) rfl
def mX6_busiest : MR := (yX6_busiest, cX6_busiest, 8, some .int)
set_option maxRecDepth 100000 in
theorem oX6_busiest : MOk mX6_busiest := ⟨by decide, mem_Tg 1025 rfl rfl, mem_Tg 98 (by decide +kernel) rfl, ⟨by decide, by decide⟩, by decide⟩
theorem nX6_busiest : nPar mX6_busiest 2 := by unfold nPar; decide +kernel
theorem vX6_busiest : Cond.instanceMethod yX6_busiest ∈ Tg := mem_Tg 1023 (by decide +kernel) rfl
theorem sX6_busiest : Cond.selects RX6 yX6_busiest yX6_busiest ∈ Tg := mem_Tg 1024 (by decide +kernel) rfl
def mX10_cheapest : MR := (yX10_cheapest, cX10_cheapest, 5, some .int)
set_option maxRecDepth 100000 in
theorem oX10_cheapest : MOk mX10_cheapest := ⟨by decide, mem_Tg 1029 rfl rfl, mem_Tg 94 (by decide +kernel) rfl, ⟨by decide, by decide⟩, by decide⟩
theorem nX10_cheapest : nPar mX10_cheapest 3 := by unfold nPar; decide +kernel
theorem vX10_cheapest : Cond.instanceMethod yX10_cheapest ∈ Tg := mem_Tg 1027 (by decide +kernel) rfl
theorem sX10_cheapest : Cond.selects RX10 yX10_cheapest yX10_cheapest ∈ Tg := mem_Tg 1028 (by decide +kernel) rfl
def mX6_readTariffs : MR := (yX6_readTariffs, cX6_readTariffs, 3, some .boolean)
set_option maxRecDepth 100000 in
theorem oX6_readTariffs : MOk mX6_readTariffs := ⟨by decide, mem_Tg 1033 rfl rfl, mem_Tg 98 (by decide +kernel) rfl, ⟨by decide, by decide⟩, by decide⟩
theorem nX6_readTariffs : nPar mX6_readTariffs 1 := by unfold nPar; decide +kernel
theorem vX6_readTariffs : Cond.instanceMethod yX6_readTariffs ∈ Tg := mem_Tg 1031 (by decide +kernel) rfl
theorem sX6_readTariffs : Cond.selects RX6 yX6_readTariffs yX6_readTariffs ∈ Tg := mem_Tg 1032 (by decide +kernel) rfl
def mX6_leastPence : MR := (yX6_leastPence, cX6_leastPence, 6, some .int)
set_option maxRecDepth 100000 in
theorem oX6_leastPence : MOk mX6_leastPence := ⟨by decide, mem_Tg 1038 rfl rfl, mem_Tg 98 (by decide +kernel) rfl, ⟨by decide, by decide⟩, by decide⟩
theorem nX6_leastPence : nPar mX6_leastPence 3 := by unfold nPar; decide +kernel
theorem vX6_leastPence : Cond.instanceMethod yX6_leastPence ∈ Tg := mem_Tg 1036 (by decide +kernel) rfl
theorem sX6_leastPence : Cond.selects RX6 yX6_leastPence yX6_leastPence ∈ Tg := mem_Tg 1037 (by decide +kernel) rfl
def mX6_howOften : MR := (yX6_howOften, cX6_howOften, 8, some .int)
set_option maxRecDepth 100000 in
theorem oX6_howOften : MOk mX6_howOften := ⟨by decide, mem_Tg 1044 rfl rfl, mem_Tg 98 (by decide +kernel) rfl, ⟨by decide, by decide⟩, by decide⟩
theorem nX6_howOften : nPar mX6_howOften 3 := by unfold nPar; decide +kernel
theorem vX6_howOften : Cond.instanceMethod yX6_howOften ∈ Tg := mem_Tg 1042 (by decide +kernel) rfl
theorem sX6_howOften : Cond.selects RX6 yX6_howOften yX6_howOften ∈ Tg := mem_Tg 1043 (by decide +kernel) rfl
def mX6_mostOf : MR := (yX6_mostOf, cX6_mostOf, 6, some .int)
set_option maxRecDepth 100000 in
theorem oX6_mostOf : MOk mX6_mostOf := ⟨by decide, mem_Tg 1049 rfl rfl, mem_Tg 98 (by decide +kernel) rfl, ⟨by decide, by decide⟩, by decide⟩
theorem nX6_mostOf : nPar mX6_mostOf 3 := by unfold nPar; decide +kernel
theorem vX6_mostOf : Cond.instanceMethod yX6_mostOf ∈ Tg := mem_Tg 1048 (by decide +kernel) rfl
theorem sX6_mostOf : Cond.selects RX6 yX6_mostOf yX6_mostOf ∈ Tg := mem_Tg 27 (by decide +kernel) rfl
def mX10_told : MR := (yX10_told, cX10_told, 3, some .int)
set_option maxRecDepth 100000 in
theorem oX10_told : MOk mX10_told := ⟨by decide, mem_Tg 1053 rfl rfl, mem_Tg 94 (by decide +kernel) rfl, ⟨by decide, by decide⟩, by decide⟩
theorem nX10_told : nPar mX10_told 2 := by unfold nPar; decide +kernel
theorem vX10_told : Cond.instanceMethod yX10_told ∈ Tg := mem_Tg 1051 (by decide +kernel) rfl
theorem sX10_told : Cond.selects RX10 yX10_told yX10_told ∈ Tg := mem_Tg 1052 (by decide +kernel) rfl
def mX6_readTellers : MR := (yX6_readTellers, cX6_readTellers, 3, some .boolean)
set_option maxRecDepth 100000 in
theorem oX6_readTellers : MOk mX6_readTellers := ⟨by decide, mem_Tg 1057 rfl rfl, mem_Tg 98 (by decide +kernel) rfl, ⟨by decide, by decide⟩, by decide⟩
theorem nX6_readTellers : nPar mX6_readTellers 1 := by unfold nPar; decide +kernel
theorem vX6_readTellers : Cond.instanceMethod yX6_readTellers ∈ Tg := mem_Tg 1055 (by decide +kernel) rfl
theorem sX6_readTellers : Cond.selects RX6 yX6_readTellers yX6_readTellers ∈ Tg := mem_Tg 1056 (by decide +kernel) rfl
def mX6_soonest : MR := (yX6_soonest, cX6_soonest, 4, some .int)
set_option maxRecDepth 100000 in
theorem oX6_soonest : MOk mX6_soonest := ⟨by decide, mem_Tg 1061 rfl rfl, mem_Tg 98 (by decide +kernel) rfl, ⟨by decide, by decide⟩, by decide⟩
theorem nX6_soonest : nPar mX6_soonest 1 := by unfold nPar; decide +kernel
theorem vX6_soonest : Cond.instanceMethod yX6_soonest ∈ Tg := mem_Tg 1059 (by decide +kernel) rfl
theorem sX6_soonest : Cond.selects RX6 yX6_soonest yX6_soonest ∈ Tg := mem_Tg 1060 (by decide +kernel) rfl
def mX6_turnOf : MR := (yX6_turnOf, cX6_turnOf, 6, some .int)
set_option maxRecDepth 100000 in
theorem oX6_turnOf : MOk mX6_turnOf := ⟨by decide, mem_Tg 1065 rfl rfl, mem_Tg 98 (by decide +kernel) rfl, ⟨by decide, by decide⟩, by decide⟩
theorem nX6_turnOf : nPar mX6_turnOf 2 := by unfold nPar; decide +kernel
theorem vX6_turnOf : Cond.instanceMethod yX6_turnOf ∈ Tg := mem_Tg 1064 (by decide +kernel) rfl
theorem sX6_turnOf : Cond.selects RX6 yX6_turnOf yX6_turnOf ∈ Tg := mem_Tg 28 (by decide +kernel) rfl
def mX6_firstRung : MR := (yX6_firstRung, cX6_firstRung, 3, some .int)
set_option maxRecDepth 100000 in
theorem oX6_firstRung : MOk mX6_firstRung := ⟨by decide, mem_Tg 1069 rfl rfl, mem_Tg 98 (by decide +kernel) rfl, ⟨by decide, by decide⟩, by decide⟩
theorem nX6_firstRung : nPar mX6_firstRung 1 := by unfold nPar; decide +kernel
theorem vX6_firstRung : Cond.instanceMethod yX6_firstRung ∈ Tg := mem_Tg 1067 (by decide +kernel) rfl
theorem sX6_firstRung : Cond.selects RX6 yX6_firstRung yX6_firstRung ∈ Tg := mem_Tg 1068 (by decide +kernel) rfl
def mX10_epitaph : MR := (yX10_epitaph, cX10_epitaph, 5, some .int)
set_option maxRecDepth 100000 in
theorem oX10_epitaph : MOk mX10_epitaph := ⟨by decide, mem_Tg 1074 rfl rfl, mem_Tg 94 (by decide +kernel) rfl, ⟨by decide, by decide⟩, by decide⟩
theorem nX10_epitaph : nPar mX10_epitaph 4 := by unfold nPar; decide +kernel
theorem vX10_epitaph : Cond.instanceMethod yX10_epitaph ∈ Tg := mem_Tg 1072 (by decide +kernel) rfl
theorem sX10_epitaph : Cond.selects RX10 yX10_epitaph yX10_epitaph ∈ Tg := mem_Tg 1073 (by decide +kernel) rfl
def mX6_cipher : MR := (yX6_cipher, cX6_cipher, 6, some .int)
set_option maxRecDepth 100000 in
theorem oX6_cipher : MOk mX6_cipher := ⟨by decide, mem_Tg 1079 rfl rfl, mem_Tg 98 (by decide +kernel) rfl, ⟨by decide, by decide⟩, by decide⟩
theorem nX6_cipher : nPar mX6_cipher 3 := by unfold nPar; decide +kernel
theorem vX6_cipher : Cond.instanceMethod yX6_cipher ∈ Tg := mem_Tg 1077 (by decide +kernel) rfl
theorem sX6_cipher : Cond.selects RX6 yX6_cipher yX6_cipher ∈ Tg := mem_Tg 1078 (by decide +kernel) rfl
def mX6_layAlphabet : MR := (yX6_layAlphabet, cX6_layAlphabet, 6, none)
set_option maxRecDepth 100000 in
theorem oX6_layAlphabet : MOk mX6_layAlphabet := ⟨by decide, mem_Tg 1083 rfl rfl, mem_Tg 98 (by decide +kernel) rfl, ⟨by decide, by decide⟩, by decide⟩
theorem nX6_layAlphabet : nPar mX6_layAlphabet 1 := by unfold nPar; decide +kernel
theorem vX6_layAlphabet : Cond.instanceMethod yX6_layAlphabet ∈ Tg := mem_Tg 1082 (by decide +kernel) rfl
theorem sX6_layAlphabet : Cond.selects RX6 yX6_layAlphabet yX6_layAlphabet ∈ Tg := mem_Tg 29 (by decide +kernel) rfl
def mX10_dialled : MR := (yX10_dialled, cX10_dialled, 5, some .int)
set_option maxRecDepth 100000 in
theorem oX10_dialled : MOk mX10_dialled := ⟨by decide, mem_Tg 1087 rfl rfl, mem_Tg 94 (by decide +kernel) rfl, ⟨by decide, by decide⟩, by decide⟩
theorem nX10_dialled : nPar mX10_dialled 2 := by unfold nPar; decide +kernel
theorem vX10_dialled : Cond.instanceMethod yX10_dialled ∈ Tg := mem_Tg 1085 (by decide +kernel) rfl
theorem sX10_dialled : Cond.selects RX10 yX10_dialled yX10_dialled ∈ Tg := mem_Tg 1086 (by decide +kernel) rfl
def mX4_reached : MR := (yX4_reached, cX4_reached, 3, some .int)
set_option maxRecDepth 100000 in
theorem oX4_reached : MOk mX4_reached := ⟨by decide, mem_Tg 1091 rfl rfl, mem_Tg 97 (by decide +kernel) rfl, ⟨by decide, by decide⟩, by decide⟩
theorem nX4_reached : nPar mX4_reached 0 := by unfold nPar; decide +kernel
theorem vX4_reached : Cond.instanceMethod yX4_reached ∈ Tg := mem_Tg 1089 (by decide +kernel) rfl
theorem sX4_reached : Cond.selects RX4 yX4_reached yX4_reached ∈ Tg := mem_Tg 1090 (by decide +kernel) rfl
def mX4_begins : MR := (yX4_begins, cX4_begins, 4, some .boolean)
set_option maxRecDepth 100000 in
theorem oX4_begins : MOk mX4_begins := ⟨by decide, mem_Tg 1095 rfl rfl, mem_Tg 97 (by decide +kernel) rfl, ⟨by decide, by decide⟩, by decide⟩
theorem nX4_begins : nPar mX4_begins 2 := by unfold nPar; decide +kernel
theorem vX4_begins : Cond.instanceMethod yX4_begins ∈ Tg := mem_Tg 1094 (by decide +kernel) rfl
theorem sX4_begins : Cond.selects RX4 yX4_begins yX4_begins ∈ Tg := mem_Tg 30 (by decide +kernel) rfl
def mX10_clear : MR := (yX10_clear, cX10_clear, 1, some .int)
set_option maxRecDepth 100000 in
theorem oX10_clear : MOk mX10_clear := ⟨by decide, mem_Tg 1099 rfl rfl, mem_Tg 94 (by decide +kernel) rfl, ⟨by decide, by decide⟩, by decide⟩
theorem nX10_clear : nPar mX10_clear 0 := by unfold nPar; decide +kernel
theorem vX10_clear : Cond.instanceMethod yX10_clear ∈ Tg := mem_Tg 1097 (by decide +kernel) rfl
theorem sX10_clear : Cond.selects RX10 yX10_clear yX10_clear ∈ Tg := mem_Tg 1098 (by decide +kernel) rfl
def mX4_isClear : MR := (yX4_isClear, cX4_isClear, 3, some .boolean)
set_option maxRecDepth 100000 in
theorem oX4_isClear : MOk mX4_isClear := ⟨by decide, mem_Tg 1103 rfl rfl, mem_Tg 97 (by decide +kernel) rfl, ⟨by decide, by decide⟩, by decide⟩
theorem nX4_isClear : nPar mX4_isClear 0 := by unfold nPar; decide +kernel
theorem vX4_isClear : Cond.instanceMethod yX4_isClear ∈ Tg := mem_Tg 1101 (by decide +kernel) rfl
theorem sX4_isClear : Cond.selects RX4 yX4_isClear yX4_isClear ∈ Tg := mem_Tg 1102 (by decide +kernel) rfl
def mX10_freeCode : MR := (yX10_freeCode, cX10_freeCode, 2, some .int)
set_option maxRecDepth 100000 in
theorem oX10_freeCode : MOk mX10_freeCode := ⟨by decide, mem_Tg 1107 rfl rfl, mem_Tg 94 (by decide +kernel) rfl, ⟨by decide, by decide⟩, by decide⟩
theorem nX10_freeCode : nPar mX10_freeCode 1 := by unfold nPar; decide +kernel
theorem vX10_freeCode : Cond.instanceMethod yX10_freeCode ∈ Tg := mem_Tg 1105 (by decide +kernel) rfl
theorem sX10_freeCode : Cond.selects RX10 yX10_freeCode yX10_freeCode ∈ Tg := mem_Tg 1106 (by decide +kernel) rfl
def mX4_leastFree : MR := (yX4_leastFree, cX4_leastFree, 4, some .int)
set_option maxRecDepth 100000 in
theorem oX4_leastFree : MOk mX4_leastFree := ⟨by decide, mem_Tg 1111 rfl rfl, mem_Tg 97 (by decide +kernel) rfl, ⟨by decide, by decide⟩, by decide⟩
theorem nX4_leastFree : nPar mX4_leastFree 1 := by unfold nPar; decide +kernel
theorem vX4_leastFree : Cond.instanceMethod yX4_leastFree ∈ Tg := mem_Tg 1109 (by decide +kernel) rfl
theorem sX4_leastFree : Cond.selects RX4 yX4_leastFree yX4_leastFree ∈ Tg := mem_Tg 1110 (by decide +kernel) rfl
def mX4_staysClear : MR := (yX4_staysClear, cX4_staysClear, 5, some .boolean)
set_option maxRecDepth 100000 in
theorem oX4_staysClear : MOk mX4_staysClear := ⟨by decide, mem_Tg 1115 rfl rfl, mem_Tg 97 (by decide +kernel) rfl, ⟨by decide, by decide⟩, by decide⟩
theorem nX4_staysClear : nPar mX4_staysClear 2 := by unfold nPar; decide +kernel
theorem vX4_staysClear : Cond.instanceMethod yX4_staysClear ∈ Tg := mem_Tg 1114 (by decide +kernel) rfl
theorem sX4_staysClear : Cond.selects RX4 yX4_staysClear yX4_staysClear ∈ Tg := mem_Tg 31 (by decide +kernel) rfl
def mX10_seed : MR := (yX10_seed, cX10_seed, 2, some .boolean)
set_option maxRecDepth 100000 in
theorem oX10_seed : MOk mX10_seed := ⟨by decide, mem_Tg 1119 rfl rfl, mem_Tg 94 (by decide +kernel) rfl, ⟨by decide, by decide⟩, by decide⟩
theorem nX10_seed : nPar mX10_seed 1 := by unfold nPar; decide +kernel
theorem vX10_seed : Cond.instanceMethod yX10_seed ∈ Tg := mem_Tg 1117 (by decide +kernel) rfl
theorem sX10_seed : Cond.selects RX10 yX10_seed yX10_seed ∈ Tg := mem_Tg 1118 (by decide +kernel) rfl
def mX10_keep : MR := (yX10_keep, cX10_keep, 1, some .int)
set_option maxRecDepth 100000 in
theorem oX10_keep : MOk mX10_keep := ⟨by decide, mem_Tg 1124 rfl rfl, mem_Tg 94 (by decide +kernel) rfl, ⟨by decide, by decide⟩, by decide⟩
theorem nX10_keep : nPar mX10_keep 0 := by unfold nPar; decide +kernel
theorem vX10_keep : Cond.instanceMethod yX10_keep ∈ Tg := mem_Tg 1122 (by decide +kernel) rfl
theorem sX10_keep : Cond.selects RX10 yX10_keep yX10_keep ∈ Tg := mem_Tg 1123 (by decide +kernel) rfl
def mX10_undo : MR := (yX10_undo, cX10_undo, 1, some .boolean)
set_option maxRecDepth 100000 in
theorem oX10_undo : MOk mX10_undo := ⟨by decide, mem_Tg 1128 rfl rfl, mem_Tg 94 (by decide +kernel) rfl, ⟨by decide, by decide⟩, by decide⟩
theorem nX10_undo : nPar mX10_undo 0 := by unfold nPar; decide +kernel
theorem vX10_undo : Cond.instanceMethod yX10_undo ∈ Tg := mem_Tg 1126 (by decide +kernel) rfl
theorem sX10_undo : Cond.selects RX10 yX10_undo yX10_undo ∈ Tg := mem_Tg 1127 (by decide +kernel) rfl
def mX10_check : MR := (yX10_check, cX10_check, 3, some .int)
set_option maxRecDepth 100000 in
theorem oX10_check : MOk mX10_check := ⟨by decide, mem_Tg 1132 rfl rfl, mem_Tg 94 (by decide +kernel) rfl, ⟨by decide, by decide⟩, by decide⟩
theorem nX10_check : nPar mX10_check 1 := by unfold nPar; decide +kernel
theorem vX10_check : Cond.instanceMethod yX10_check ∈ Tg := mem_Tg 1130 (by decide +kernel) rfl
theorem sX10_check : Cond.selects RX10 yX10_check yX10_check ∈ Tg := mem_Tg 1131 (by decide +kernel) rfl
def mX10_count : MR := (yX10_count, cX10_count, 2, some .int)
set_option maxRecDepth 100000 in
theorem oX10_count : MOk mX10_count := ⟨by decide, mem_Tg 1137 rfl rfl, mem_Tg 94 (by decide +kernel) rfl, ⟨by decide, by decide⟩, by decide⟩
theorem nX10_count : nPar mX10_count 1 := by unfold nPar; decide +kernel
theorem vX10_count : Cond.instanceMethod yX10_count ∈ Tg := mem_Tg 1135 (by decide +kernel) rfl
theorem sX10_count : Cond.selects RX10 yX10_count yX10_count ∈ Tg := mem_Tg 1136 (by decide +kernel) rfl
def mX11_init : MR := (yX11_init, cX11_init, 1, none)
set_option maxRecDepth 100000 in
theorem oX11_init : MOk mX11_init := ⟨by decide, mem_Tg 1143 rfl rfl, mem_Tg 105 (by decide +kernel) rfl, ⟨by decide, by decide⟩, by decide⟩
theorem nX11_init : nPar mX11_init 0 := by unfold nPar; decide +kernel
theorem vX11_init : Cond.instanceMethod yX11_init ∈ Tg := mem_Tg 1142 (by decide +kernel) rfl
def mX11_trunk : MR := (yX11_trunk, cX11_trunk, 4, some .boolean)
set_option maxRecDepth 100000 in
theorem oX11_trunk : MOk mX11_trunk := ⟨by decide, mem_Tg 1293 rfl rfl, mem_Tg 105 (by decide +kernel) rfl, ⟨by decide, by decide⟩, by decide⟩
theorem nX11_trunk : nPar mX11_trunk 3 := by unfold nPar; decide +kernel
theorem vX11_trunk : Cond.instanceMethod yX11_trunk ∈ Tg := mem_Tg 1291 (by decide +kernel) rfl
theorem sX11_trunk : Cond.selects RX11 yX11_trunk yX11_trunk ∈ Tg := mem_Tg 1292 (by decide +kernel) rfl
def mX11_areTwo : MR := (yX11_areTwo, cX11_areTwo, 2, some .boolean)
set_option maxRecDepth 100000 in
theorem oX11_areTwo : MOk mX11_areTwo := ⟨by decide, mem_Tg 1296 rfl rfl, mem_Tg 105 (by decide +kernel) rfl, ⟨by decide, by decide⟩, by decide⟩
theorem nX11_areTwo : nPar mX11_areTwo 2 := by unfold nPar; decide +kernel
theorem tX11_areTwo : Cond.static yX11_areTwo ∈ Tg := mem_Tg 1295 (by decide +kernel) rfl
def mX11_in : MR := (yX11_in, cX11_in, 3, some .boolean)
set_option maxRecDepth 100000 in
theorem oX11_in : MOk mX11_in := ⟨by decide, mem_Tg 1299 rfl rfl, mem_Tg 105 (by decide +kernel) rfl, ⟨by decide, by decide⟩, by decide⟩
theorem nX11_in : nPar mX11_in 3 := by unfold nPar; decide +kernel
theorem tX11_in : Cond.static yX11_in ∈ Tg := mem_Tg 1298 (by decide +kernel) rfl
def mX11_subscriber : MR := (yX11_subscriber, cX11_subscriber, 4, some .boolean)
set_option maxRecDepth 100000 in
theorem oX11_subscriber : MOk mX11_subscriber := ⟨by decide, mem_Tg 1303 rfl rfl, mem_Tg 105 (by decide +kernel) rfl, ⟨by decide, by decide⟩, by decide⟩
theorem nX11_subscriber : nPar mX11_subscriber 3 := by unfold nPar; decide +kernel
theorem vX11_subscriber : Cond.instanceMethod yX11_subscriber ∈ Tg := mem_Tg 1301 (by decide +kernel) rfl
theorem sX11_subscriber : Cond.selects RX11 yX11_subscriber yX11_subscriber ∈ Tg := mem_Tg 1302 (by decide +kernel) rfl
def mX11_isTold : MR := (yX11_isTold, cX11_isTold, 2, some .boolean)
set_option maxRecDepth 100000 in
theorem oX11_isTold : MOk mX11_isTold := ⟨by decide, mem_Tg 1307 rfl rfl, mem_Tg 105 (by decide +kernel) rfl, ⟨by decide, by decide⟩, by decide⟩
theorem nX11_isTold : nPar mX11_isTold 1 := by unfold nPar; decide +kernel
theorem vX11_isTold : Cond.instanceMethod yX11_isTold ∈ Tg := mem_Tg 1306 (by decide +kernel) rfl
theorem sX11_isTold : Cond.selects RX11 yX11_isTold yX11_isTold ∈ Tg := mem_Tg 32 (by decide +kernel) rfl
def mX11_endsCallOf : MR := (yX11_endsCallOf, cX11_endsCallOf, 3, none)
set_option maxRecDepth 100000 in
theorem oX11_endsCallOf : MOk mX11_endsCallOf := ⟨by decide, mem_Tg 1311 rfl rfl, mem_Tg 105 (by decide +kernel) rfl, ⟨by decide, by decide⟩, by decide⟩
theorem nX11_endsCallOf : nPar mX11_endsCallOf 1 := by unfold nPar; decide +kernel
theorem vX11_endsCallOf : Cond.instanceMethod yX11_endsCallOf ∈ Tg := mem_Tg 1310 (by decide +kernel) rfl
theorem sX11_endsCallOf : Cond.selects RX11 yX11_endsCallOf yX11_endsCallOf ∈ Tg := mem_Tg 33 (by decide +kernel) rfl
def mX11_callOf : MR := (yX11_callOf, cX11_callOf, 3, some .int)
set_option maxRecDepth 100000 in
theorem oX11_callOf : MOk mX11_callOf := ⟨by decide, mem_Tg 1315 rfl rfl, mem_Tg 105 (by decide +kernel) rfl, ⟨by decide, by decide⟩, by decide⟩
theorem nX11_callOf : nPar mX11_callOf 1 := by unfold nPar; decide +kernel
theorem vX11_callOf : Cond.instanceMethod yX11_callOf ∈ Tg := mem_Tg 1314 (by decide +kernel) rfl
theorem sX11_callOf : Cond.selects RX11 yX11_callOf yX11_callOf ∈ Tg := mem_Tg 34 (by decide +kernel) rfl
def mX11_fund : MR := (yX11_fund, cX11_fund, 2, some .boolean)
set_option maxRecDepth 100000 in
theorem oX11_fund : MOk mX11_fund := ⟨by decide, mem_Tg 1319 rfl rfl, mem_Tg 105 (by decide +kernel) rfl, ⟨by decide, by decide⟩, by decide⟩
theorem nX11_fund : nPar mX11_fund 1 := by unfold nPar; decide +kernel
theorem vX11_fund : Cond.instanceMethod yX11_fund ∈ Tg := mem_Tg 1317 (by decide +kernel) rfl
theorem sX11_fund : Cond.selects RX11 yX11_fund yX11_fund ∈ Tg := mem_Tg 1318 (by decide +kernel) rfl
def mX11_rate : MR := (yX11_rate, cX11_rate, 3, some .boolean)
set_option maxRecDepth 100000 in
theorem oX11_rate : MOk mX11_rate := ⟨by decide, mem_Tg 1324 rfl rfl, mem_Tg 105 (by decide +kernel) rfl, ⟨by decide, by decide⟩, by decide⟩
theorem nX11_rate : nPar mX11_rate 2 := by unfold nPar; decide +kernel
theorem vX11_rate : Cond.instanceMethod yX11_rate ∈ Tg := mem_Tg 1322 (by decide +kernel) rfl
theorem sX11_rate : Cond.selects RX11 yX11_rate yX11_rate ∈ Tg := mem_Tg 1323 (by decide +kernel) rfl
def mX11_feed : MR := (yX11_feed, cX11_feed, 6, some .int)
set_option maxRecDepth 100000 in
theorem oX11_feed : MOk mX11_feed := ⟨by decide, mem_Tg 1328 rfl rfl, mem_Tg 105 (by decide +kernel) rfl, ⟨by decide, by decide⟩, by decide⟩
theorem nX11_feed : nPar mX11_feed 5 := by unfold nPar; decide +kernel
theorem vX11_feed : Cond.instanceMethod yX11_feed ∈ Tg := mem_Tg 1326 (by decide +kernel) rfl
theorem sX11_feed : Cond.selects RX11 yX11_feed yX11_feed ∈ Tg := mem_Tg 1327 (by decide +kernel) rfl
def mX11_types : MR := (yX11_types, cX11_types, 3, none)
set_option maxRecDepth 100000 in
theorem oX11_types : MOk mX11_types := ⟨by decide, mem_Tg 1332 rfl rfl, mem_Tg 105 (by decide +kernel) rfl, ⟨by decide, by decide⟩, by decide⟩
theorem nX11_types : nPar mX11_types 1 := by unfold nPar; decide +kernel
theorem vX11_types : Cond.instanceMethod yX11_types ∈ Tg := mem_Tg 1331 (by decide +kernel) rfl
theorem sX11_types : Cond.selects RX11 yX11_types yX11_types ∈ Tg := mem_Tg 35 (by decide +kernel) rfl
def mX11_law : MR := (yX11_law, cX11_law, 4, some .int)
set_option maxRecDepth 100000 in
theorem oX11_law : MOk mX11_law := ⟨by decide, mem_Tg 1336 rfl rfl, mem_Tg 105 (by decide +kernel) rfl, ⟨by decide, by decide⟩, by decide⟩
theorem nX11_law : nPar mX11_law 1 := by unfold nPar; decide +kernel
theorem vX11_law : Cond.instanceMethod yX11_law ∈ Tg := mem_Tg 1334 (by decide +kernel) rfl
theorem sX11_law : Cond.selects RX11 yX11_law yX11_law ∈ Tg := mem_Tg 1335 (by decide +kernel) rfl
def mX11_beginsText : MR := (yX11_beginsText, cX11_beginsText, 2, none)
set_option maxRecDepth 100000 in
theorem oX11_beginsText : MOk mX11_beginsText := ⟨by decide, mem_Tg 1340 rfl rfl, mem_Tg 105 (by decide +kernel) rfl, ⟨by decide, by decide⟩, by decide⟩
theorem nX11_beginsText : nPar mX11_beginsText 1 := by unfold nPar; decide +kernel
theorem vX11_beginsText : Cond.instanceMethod yX11_beginsText ∈ Tg := mem_Tg 1339 (by decide +kernel) rfl
theorem sX11_beginsText : Cond.selects RX11 yX11_beginsText yX11_beginsText ∈ Tg := mem_Tg 36 (by decide +kernel) rfl
def mX11_readsRule : MR := (yX11_readsRule, cX11_readsRule, 2, some .boolean)
set_option maxRecDepth 100000 in
theorem oX11_readsRule : MOk mX11_readsRule := ⟨by decide, mem_Tg 1344 rfl rfl, mem_Tg 105 (by decide +kernel) rfl, ⟨by decide, by decide⟩, by decide⟩
theorem nX11_readsRule : nPar mX11_readsRule 0 := by unfold nPar; decide +kernel
theorem vX11_readsRule : Cond.instanceMethod yX11_readsRule ∈ Tg := mem_Tg 1343 (by decide +kernel) rfl
theorem sX11_readsRule : Cond.selects RX11 yX11_readsRule yX11_readsRule ∈ Tg := mem_Tg 37 (by decide +kernel) rfl
def mX11_here : MR := (yX11_here, cX11_here, 1, some .int)
set_option maxRecDepth 100000 in
theorem oX11_here : MOk mX11_here := ⟨by decide, mem_Tg 1348 rfl rfl, mem_Tg 105 (by decide +kernel) rfl, ⟨by decide, by decide⟩, by decide⟩
theorem nX11_here : nPar mX11_here 0 := by unfold nPar; decide +kernel
theorem vX11_here : Cond.instanceMethod yX11_here ∈ Tg := mem_Tg 1347 (by decide +kernel) rfl
theorem sX11_here : Cond.selects RX11 yX11_here yX11_here ∈ Tg := mem_Tg 38 (by decide +kernel) rfl
def mX11_wrongAt : MR := (yX11_wrongAt, cX11_wrongAt, 3, some .boolean)
set_option maxRecDepth 100000 in
theorem oX11_wrongAt : MOk mX11_wrongAt := ⟨by decide, mem_Tg 1352 rfl rfl, mem_Tg 105 (by decide +kernel) rfl, ⟨by decide, by decide⟩, by decide⟩
theorem nX11_wrongAt : nPar mX11_wrongAt 2 := by unfold nPar; decide +kernel
theorem vX11_wrongAt : Cond.instanceMethod yX11_wrongAt ∈ Tg := mem_Tg 1351 (by decide +kernel) rfl
theorem sX11_wrongAt : Cond.selects RX11 yX11_wrongAt yX11_wrongAt ∈ Tg := mem_Tg 39 (by decide +kernel) rfl
def mX11_readsSum : MR := (yX11_readsSum, cX11_readsSum, 3, some .boolean)
set_option maxRecDepth 100000 in
theorem oX11_readsSum : MOk mX11_readsSum := ⟨by decide, mem_Tg 1356 rfl rfl, mem_Tg 105 (by decide +kernel) rfl, ⟨by decide, by decide⟩, by decide⟩
theorem nX11_readsSum : nPar mX11_readsSum 0 := by unfold nPar; decide +kernel
theorem vX11_readsSum : Cond.instanceMethod yX11_readsSum ∈ Tg := mem_Tg 1355 (by decide +kernel) rfl
theorem sX11_readsSum : Cond.selects RX11 yX11_readsSum yX11_readsSum ∈ Tg := mem_Tg 40 (by decide +kernel) rfl
def mX11_readsFactor : MR := (yX11_readsFactor, cX11_readsFactor, 2, some .boolean)
set_option maxRecDepth 100000 in
theorem oX11_readsFactor : MOk mX11_readsFactor := ⟨by decide, mem_Tg 1360 rfl rfl, mem_Tg 105 (by decide +kernel) rfl, ⟨by decide, by decide⟩, by decide⟩
theorem nX11_readsFactor : nPar mX11_readsFactor 0 := by unfold nPar; decide +kernel
theorem vX11_readsFactor : Cond.instanceMethod yX11_readsFactor ∈ Tg := mem_Tg 1359 (by decide +kernel) rfl
theorem sX11_readsFactor : Cond.selects RX11 yX11_readsFactor yX11_readsFactor ∈ Tg := mem_Tg 41 (by decide +kernel) rfl
def mX11_opens : MR := (yX11_opens, cX11_opens, 2, some .boolean)
set_option maxRecDepth 100000 in
theorem oX11_opens : MOk mX11_opens := ⟨by decide, mem_Tg 1364 rfl rfl, mem_Tg 105 (by decide +kernel) rfl, ⟨by decide, by decide⟩, by decide⟩
theorem nX11_opens : nPar mX11_opens 1 := by unfold nPar; decide +kernel
theorem vX11_opens : Cond.instanceMethod yX11_opens ∈ Tg := mem_Tg 1363 (by decide +kernel) rfl
theorem sX11_opens : Cond.selects RX11 yX11_opens yX11_opens ∈ Tg := mem_Tg 42 (by decide +kernel) rfl
def mX11_isDigit : MR := (yX11_isDigit, cX11_isDigit, 1, some .boolean)
set_option maxRecDepth 100000 in
theorem oX11_isDigit : MOk mX11_isDigit := ⟨by decide, mem_Tg 1369 rfl rfl, mem_Tg 105 (by decide +kernel) rfl, ⟨by decide, by decide⟩, by decide⟩
theorem nX11_isDigit : nPar mX11_isDigit 0 := by unfold nPar; decide +kernel
theorem vX11_isDigit : Cond.instanceMethod yX11_isDigit ∈ Tg := mem_Tg 1368 (by decide +kernel) rfl
theorem sX11_isDigit : Cond.selects RX11 yX11_isDigit yX11_isDigit ∈ Tg := mem_Tg 43 (by decide +kernel) rfl
def mX11_readsNumber : MR := (yX11_readsNumber, cX11_readsNumber, 2, some .boolean)
set_option maxRecDepth 100000 in
theorem oX11_readsNumber : MOk mX11_readsNumber := ⟨by decide, mem_Tg 1373 rfl rfl, mem_Tg 105 (by decide +kernel) rfl, ⟨by decide, by decide⟩, by decide⟩
theorem nX11_readsNumber : nPar mX11_readsNumber 0 := by unfold nPar; decide +kernel
theorem vX11_readsNumber : Cond.instanceMethod yX11_readsNumber ∈ Tg := mem_Tg 1372 (by decide +kernel) rfl
theorem sX11_readsNumber : Cond.selects RX11 yX11_readsNumber yX11_readsNumber ∈ Tg := mem_Tg 44 (by decide +kernel) rfl
def mX11_notes : MR := (yX11_notes, cX11_notes, 3, none)
set_option maxRecDepth 100000 in
theorem oX11_notes : MOk mX11_notes := ⟨by decide, mem_Tg 1377 rfl rfl, mem_Tg 105 (by decide +kernel) rfl, ⟨by decide, by decide⟩, by decide⟩
theorem nX11_notes : nPar mX11_notes 2 := by unfold nPar; decide +kernel
theorem vX11_notes : Cond.instanceMethod yX11_notes ∈ Tg := mem_Tg 1376 (by decide +kernel) rfl
theorem sX11_notes : Cond.selects RX11 yX11_notes yX11_notes ∈ Tg := mem_Tg 45 (by decide +kernel) rfl
def mX11_factOf : MR := (yX11_factOf, cX11_factOf, 1, some .int)
set_option maxRecDepth 100000 in
theorem oX11_factOf : MOk mX11_factOf := ⟨by decide, mem_Tg 1380 rfl rfl, mem_Tg 105 (by decide +kernel) rfl, ⟨by decide, by decide⟩, by decide⟩
theorem nX11_factOf : nPar mX11_factOf 1 := by unfold nPar; decide +kernel
theorem tX11_factOf : Cond.static yX11_factOf ∈ Tg := mem_Tg 1379 (by decide +kernel) rfl
def mX11_sumSign : MR := (yX11_sumSign, cX11_sumSign, 1, some .int)
set_option maxRecDepth 100000 in
theorem oX11_sumSign : MOk mX11_sumSign := ⟨by decide, mem_Tg 1383 rfl rfl, mem_Tg 105 (by decide +kernel) rfl, ⟨by decide, by decide⟩, by decide⟩
theorem nX11_sumSign : nPar mX11_sumSign 1 := by unfold nPar; decide +kernel
theorem tX11_sumSign : Cond.static yX11_sumSign ∈ Tg := mem_Tg 1382 (by decide +kernel) rfl
def mX11_closesSums : MR := (yX11_closesSums, cX11_closesSums, 2, none)
set_option maxRecDepth 100000 in
theorem oX11_closesSums : MOk mX11_closesSums := ⟨by decide, mem_Tg 1387 rfl rfl, mem_Tg 105 (by decide +kernel) rfl, ⟨by decide, by decide⟩, by decide⟩
theorem nX11_closesSums : nPar mX11_closesSums 1 := by unfold nPar; decide +kernel
theorem vX11_closesSums : Cond.instanceMethod yX11_closesSums ∈ Tg := mem_Tg 1386 (by decide +kernel) rfl
theorem sX11_closesSums : Cond.selects RX11 yX11_closesSums yX11_closesSums ∈ Tg := mem_Tg 46 (by decide +kernel) rfl
def mX11_waitTop : MR := (yX11_waitTop, cX11_waitTop, 1, some .int)
set_option maxRecDepth 100000 in
theorem oX11_waitTop : MOk mX11_waitTop := ⟨by decide, mem_Tg 1391 rfl rfl, mem_Tg 105 (by decide +kernel) rfl, ⟨by decide, by decide⟩, by decide⟩
theorem nX11_waitTop : nPar mX11_waitTop 0 := by unfold nPar; decide +kernel
theorem vX11_waitTop : Cond.instanceMethod yX11_waitTop ∈ Tg := mem_Tg 1390 (by decide +kernel) rfl
theorem sX11_waitTop : Cond.selects RX11 yX11_waitTop yX11_waitTop ∈ Tg := mem_Tg 47 (by decide +kernel) rfl
def mX11_hasOpenSum : MR := (yX11_hasOpenSum, cX11_hasOpenSum, 3, some .boolean)
set_option maxRecDepth 100000 in
theorem oX11_hasOpenSum : MOk mX11_hasOpenSum := ⟨by decide, mem_Tg 1395 rfl rfl, mem_Tg 105 (by decide +kernel) rfl, ⟨by decide, by decide⟩, by decide⟩
theorem nX11_hasOpenSum : nPar mX11_hasOpenSum 1 := by unfold nPar; decide +kernel
theorem vX11_hasOpenSum : Cond.instanceMethod yX11_hasOpenSum ∈ Tg := mem_Tg 1394 (by decide +kernel) rfl
theorem sX11_hasOpenSum : Cond.selects RX11 yX11_hasOpenSum yX11_hasOpenSum ∈ Tg := mem_Tg 48 (by decide +kernel) rfl
def mX11_readsCondition : MR := (yX11_readsCondition, cX11_readsCondition, 1, some .boolean)
set_option maxRecDepth 100000 in
theorem oX11_readsCondition : MOk mX11_readsCondition := ⟨by decide, mem_Tg 1399 rfl rfl, mem_Tg 105 (by decide +kernel) rfl, ⟨by decide, by decide⟩, by decide⟩
theorem nX11_readsCondition : nPar mX11_readsCondition 0 := by unfold nPar; decide +kernel
theorem vX11_readsCondition : Cond.instanceMethod yX11_readsCondition ∈ Tg := mem_Tg 1398 (by decide +kernel) rfl
theorem sX11_readsCondition : Cond.selects RX11 yX11_readsCondition yX11_readsCondition ∈ Tg := mem_Tg 49 (by decide +kernel) rfl
def mX11_readsCompared : MR := (yX11_readsCompared, cX11_readsCompared, 2, some .boolean)
set_option maxRecDepth 100000 in
theorem oX11_readsCompared : MOk mX11_readsCompared := ⟨by decide, mem_Tg 1403 rfl rfl, mem_Tg 105 (by decide +kernel) rfl, ⟨by decide, by decide⟩, by decide⟩
theorem nX11_readsCompared : nPar mX11_readsCompared 0 := by unfold nPar; decide +kernel
theorem vX11_readsCompared : Cond.instanceMethod yX11_readsCompared ∈ Tg := mem_Tg 1402 (by decide +kernel) rfl
theorem sX11_readsCompared : Cond.selects RX11 yX11_readsCompared yX11_readsCompared ∈ Tg := mem_Tg 50 (by decide +kernel) rfl
def mX11_endsPiece : MR := (yX11_endsPiece, cX11_endsPiece, 1, none)
set_option maxRecDepth 100000 in
theorem oX11_endsPiece : MOk mX11_endsPiece := ⟨by decide, mem_Tg 1407 rfl rfl, mem_Tg 105 (by decide +kernel) rfl, ⟨by decide, by decide⟩, by decide⟩
theorem nX11_endsPiece : nPar mX11_endsPiece 0 := by unfold nPar; decide +kernel
theorem vX11_endsPiece : Cond.instanceMethod yX11_endsPiece ∈ Tg := mem_Tg 1406 (by decide +kernel) rfl
theorem sX11_endsPiece : Cond.selects RX11 yX11_endsPiece yX11_endsPiece ∈ Tg := mem_Tg 51 (by decide +kernel) rfl
def mX11_lands : MR := (yX11_lands, cX11_lands, 3, none)
set_option maxRecDepth 100000 in
theorem oX11_lands : MOk mX11_lands := ⟨by decide, mem_Tg 1411 rfl rfl, mem_Tg 105 (by decide +kernel) rfl, ⟨by decide, by decide⟩, by decide⟩
theorem nX11_lands : nPar mX11_lands 1 := by unfold nPar; decide +kernel
theorem vX11_lands : Cond.instanceMethod yX11_lands ∈ Tg := mem_Tg 1410 (by decide +kernel) rfl
theorem sX11_lands : Cond.selects RX11 yX11_lands yX11_lands ∈ Tg := mem_Tg 52 (by decide +kernel) rfl
def mX11_jumps : MR := (yX11_jumps, cX11_jumps, 2, none)
set_option maxRecDepth 100000 in
theorem oX11_jumps : MOk mX11_jumps := ⟨by decide, mem_Tg 1415 rfl rfl, mem_Tg 105 (by decide +kernel) rfl, ⟨by decide, by decide⟩, by decide⟩
theorem nX11_jumps : nPar mX11_jumps 1 := by unfold nPar; decide +kernel
theorem vX11_jumps : Cond.instanceMethod yX11_jumps ∈ Tg := mem_Tg 1414 (by decide +kernel) rfl
theorem sX11_jumps : Cond.selects RX11 yX11_jumps yX11_jumps ∈ Tg := mem_Tg 53 (by decide +kernel) rfl
def mX11_takes : MR := (yX11_takes, cX11_takes, 2, some .boolean)
set_option maxRecDepth 100000 in
theorem oX11_takes : MOk mX11_takes := ⟨by decide, mem_Tg 1419 rfl rfl, mem_Tg 105 (by decide +kernel) rfl, ⟨by decide, by decide⟩, by decide⟩
theorem nX11_takes : nPar mX11_takes 1 := by unfold nPar; decide +kernel
theorem vX11_takes : Cond.instanceMethod yX11_takes ∈ Tg := mem_Tg 1418 (by decide +kernel) rfl
theorem sX11_takes : Cond.selects RX11 yX11_takes yX11_takes ∈ Tg := mem_Tg 54 (by decide +kernel) rfl
def mX11_bill : MR := (yX11_bill, cX11_bill, 3, some .int)
set_option maxRecDepth 100000 in
theorem oX11_bill : MOk mX11_bill := ⟨by decide, mem_Tg 1423 rfl rfl, mem_Tg 105 (by decide +kernel) rfl, ⟨by decide, by decide⟩, by decide⟩
theorem nX11_bill : nPar mX11_bill 1 := by unfold nPar; decide +kernel
theorem vX11_bill : Cond.instanceMethod yX11_bill ∈ Tg := mem_Tg 1421 (by decide +kernel) rfl
theorem sX11_bill : Cond.selects RX11 yX11_bill yX11_bill ∈ Tg := mem_Tg 1422 (by decide +kernel) rfl
def mX11_copies : MR := (yX11_copies, cX11_copies, 3, none)
set_option maxRecDepth 100000 in
theorem oX11_copies : MOk mX11_copies := ⟨by decide, mem_Tg 1426 rfl rfl, mem_Tg 105 (by decide +kernel) rfl, ⟨by decide, by decide⟩, by decide⟩
theorem nX11_copies : nPar mX11_copies 2 := by unfold nPar; decide +kernel
theorem tX11_copies : Cond.static yX11_copies ∈ Tg := mem_Tg 1425 (by decide +kernel) rfl
def mX11_readsLine : MR := (yX11_readsLine, cX11_readsLine, 3, some .boolean)
set_option maxRecDepth 100000 in
theorem oX11_readsLine : MOk mX11_readsLine := ⟨by decide, mem_Tg 1430 rfl rfl, mem_Tg 105 (by decide +kernel) rfl, ⟨by decide, by decide⟩, by decide⟩
theorem nX11_readsLine : nPar mX11_readsLine 0 := by unfold nPar; decide +kernel
theorem vX11_readsLine : Cond.instanceMethod yX11_readsLine ∈ Tg := mem_Tg 1429 (by decide +kernel) rfl
theorem sX11_readsLine : Cond.selects RX11 yX11_readsLine yX11_readsLine ∈ Tg := mem_Tg 55 (by decide +kernel) rfl
def mX11_readsMore : MR := (yX11_readsMore, cX11_readsMore, 3, some .boolean)
set_option maxRecDepth 100000 in
theorem oX11_readsMore : MOk mX11_readsMore := ⟨by decide, mem_Tg 1434 rfl rfl, mem_Tg 105 (by decide +kernel) rfl, ⟨by decide, by decide⟩, by decide⟩
theorem nX11_readsMore : nPar mX11_readsMore 1 := by unfold nPar; decide +kernel
theorem vX11_readsMore : Cond.instanceMethod yX11_readsMore ∈ Tg := mem_Tg 1433 (by decide +kernel) rfl
theorem sX11_readsMore : Cond.selects RX11 yX11_readsMore yX11_readsMore ∈ Tg := mem_Tg 56 (by decide +kernel) rfl
def mX11_readsPence : MR := (yX11_readsPence, cX11_readsPence, 2, some .boolean)
set_option maxRecDepth 100000 in
theorem oX11_readsPence : MOk mX11_readsPence := ⟨by decide, mem_Tg 1438 rfl rfl, mem_Tg 105 (by decide +kernel) rfl, ⟨by decide, by decide⟩, by decide⟩
theorem nX11_readsPence : nPar mX11_readsPence 0 := by unfold nPar; decide +kernel
theorem vX11_readsPence : Cond.instanceMethod yX11_readsPence ∈ Tg := mem_Tg 1437 (by decide +kernel) rfl
theorem sX11_readsPence : Cond.selects RX11 yX11_readsPence yX11_readsPence ∈ Tg := mem_Tg 57 (by decide +kernel) rfl
def mX11_min : MR := (yX11_min, cX11_min, 2, some .int)
set_option maxRecDepth 100000 in
theorem oX11_min : MOk mX11_min := ⟨by decide, mem_Tg 1441 rfl rfl, mem_Tg 105 (by decide +kernel) rfl, ⟨by decide, by decide⟩, by decide⟩
theorem nX11_min : nPar mX11_min 2 := by unfold nPar; decide +kernel
theorem tX11_min : Cond.static yX11_min ∈ Tg := mem_Tg 1440 (by decide +kernel) rfl
def mX11_max : MR := (yX11_max, cX11_max, 2, some .int)
set_option maxRecDepth 100000 in
theorem oX11_max : MOk mX11_max := ⟨by decide, mem_Tg 1444 rfl rfl, mem_Tg 105 (by decide +kernel) rfl, ⟨by decide, by decide⟩, by decide⟩
theorem nX11_max : nPar mX11_max 2 := by unfold nPar; decide +kernel
theorem tX11_max : Cond.static yX11_max ∈ Tg := mem_Tg 1443 (by decide +kernel) rfl
def mX11_minutes : MR := (yX11_minutes, cX11_minutes, 2, some .int)
set_option maxRecDepth 100000 in
theorem oX11_minutes : MOk mX11_minutes := ⟨by decide, mem_Tg 1448 rfl rfl, mem_Tg 105 (by decide +kernel) rfl, ⟨by decide, by decide⟩, by decide⟩
theorem nX11_minutes : nPar mX11_minutes 1 := by unfold nPar; decide +kernel
theorem vX11_minutes : Cond.instanceMethod yX11_minutes ∈ Tg := mem_Tg 1446 (by decide +kernel) rfl
theorem sX11_minutes : Cond.selects RX11 yX11_minutes yX11_minutes ∈ Tg := mem_Tg 1447 (by decide +kernel) rfl
def mX11_minutesGo : MR := (yX11_minutesGo, cX11_minutesGo, 3, none)
set_option maxRecDepth 100000 in
theorem oX11_minutesGo : MOk mX11_minutesGo := ⟨by decide, mem_Tg 1452 rfl rfl, mem_Tg 105 (by decide +kernel) rfl, ⟨by decide, by decide⟩, by decide⟩
theorem nX11_minutesGo : nPar mX11_minutesGo 1 := by unfold nPar; decide +kernel
theorem vX11_minutesGo : Cond.instanceMethod yX11_minutesGo ∈ Tg := mem_Tg 1451 (by decide +kernel) rfl
theorem sX11_minutesGo : Cond.selects RX11 yX11_minutesGo yX11_minutesGo ∈ Tg := mem_Tg 58 (by decide +kernel) rfl
def mX11_beginsMinutes : MR := (yX11_beginsMinutes, cX11_beginsMinutes, 1, none)
set_option maxRecDepth 100000 in
theorem oX11_beginsMinutes : MOk mX11_beginsMinutes := ⟨by decide, mem_Tg 1456 rfl rfl, mem_Tg 105 (by decide +kernel) rfl, ⟨by decide, by decide⟩, by decide⟩
theorem nX11_beginsMinutes : nPar mX11_beginsMinutes 0 := by unfold nPar; decide +kernel
theorem vX11_beginsMinutes : Cond.instanceMethod yX11_beginsMinutes ∈ Tg := mem_Tg 1455 (by decide +kernel) rfl
theorem sX11_beginsMinutes : Cond.selects RX11 yX11_beginsMinutes yX11_beginsMinutes ∈ Tg := mem_Tg 59 (by decide +kernel) rfl
def mX11_minuteGoes : MR := (yX11_minuteGoes, cX11_minuteGoes, 2, none)
set_option maxRecDepth 100000 in
theorem oX11_minuteGoes : MOk mX11_minuteGoes := ⟨by decide, mem_Tg 1461 rfl rfl, mem_Tg 105 (by decide +kernel) rfl, ⟨by decide, by decide⟩, by decide⟩
theorem nX11_minuteGoes : nPar mX11_minuteGoes 0 := by unfold nPar; decide +kernel
theorem vX11_minuteGoes : Cond.instanceMethod yX11_minuteGoes ∈ Tg := mem_Tg 1460 (by decide +kernel) rfl
theorem sX11_minuteGoes : Cond.selects RX11 yX11_minuteGoes yX11_minuteGoes ∈ Tg := mem_Tg 60 (by decide +kernel) rfl
def mX11_charges : MR := (yX11_charges, cX11_charges, 4, none)
set_option maxRecDepth 100000 in
theorem oX11_charges : MOk mX11_charges := ⟨by decide, mem_Tg 1465 rfl rfl, mem_Tg 105 (by decide +kernel) rfl, ⟨by decide, by decide⟩, by decide⟩
theorem nX11_charges : nPar mX11_charges 1 := by unfold nPar; decide +kernel
theorem vX11_charges : Cond.instanceMethod yX11_charges ∈ Tg := mem_Tg 1464 (by decide +kernel) rfl
theorem sX11_charges : Cond.selects RX11 yX11_charges yX11_charges ∈ Tg := mem_Tg 61 (by decide +kernel) rfl
def mX11_isFree : MR := (yX11_isFree, cX11_isFree, 2, some .boolean)
set_option maxRecDepth 100000 in
theorem oX11_isFree : MOk mX11_isFree := ⟨by decide, mem_Tg 1469 rfl rfl, mem_Tg 105 (by decide +kernel) rfl, ⟨by decide, by decide⟩, by decide⟩
theorem nX11_isFree : nPar mX11_isFree 1 := by unfold nPar; decide +kernel
theorem vX11_isFree : Cond.instanceMethod yX11_isFree ∈ Tg := mem_Tg 1468 (by decide +kernel) rfl
theorem sX11_isFree : Cond.selects RX11 yX11_isFree yX11_isFree ∈ Tg := mem_Tg 62 (by decide +kernel) rfl
def mX11_turnOf : MR := (yX11_turnOf, cX11_turnOf, 4, none)
set_option maxRecDepth 100000 in
theorem oX11_turnOf : MOk mX11_turnOf := ⟨by decide, mem_Tg 1473 rfl rfl, mem_Tg 105 (by decide +kernel) rfl, ⟨by decide, by decide⟩, by decide⟩
theorem nX11_turnOf : nPar mX11_turnOf 1 := by unfold nPar; decide +kernel
theorem vX11_turnOf : Cond.instanceMethod yX11_turnOf ∈ Tg := mem_Tg 1472 (by decide +kernel) rfl
theorem sX11_turnOf : Cond.selects RX11 yX11_turnOf yX11_turnOf ∈ Tg := mem_Tg 63 (by decide +kernel) rfl
def mX11_feels : MR := (yX11_feels, cX11_feels, 2, none)
set_option maxRecDepth 100000 in
theorem oX11_feels : MOk mX11_feels := ⟨by decide, mem_Tg 1477 rfl rfl, mem_Tg 105 (by decide +kernel) rfl, ⟨by decide, by decide⟩, by decide⟩
theorem nX11_feels : nPar mX11_feels 1 := by unfold nPar; decide +kernel
theorem vX11_feels : Cond.instanceMethod yX11_feels ∈ Tg := mem_Tg 1476 (by decide +kernel) rfl
theorem sX11_feels : Cond.selects RX11 yX11_feels yX11_feels ∈ Tg := mem_Tg 64 (by decide +kernel) rfl
def mX11_byLaw : MR := (yX11_byLaw, cX11_byLaw, 5, some .int)
set_option maxRecDepth 100000 in
theorem oX11_byLaw : MOk mX11_byLaw := ⟨by decide, mem_Tg 1481 rfl rfl, mem_Tg 105 (by decide +kernel) rfl, ⟨by decide, by decide⟩, by decide⟩
theorem nX11_byLaw : nPar mX11_byLaw 2 := by unfold nPar; decide +kernel
theorem vX11_byLaw : Cond.instanceMethod yX11_byLaw ∈ Tg := mem_Tg 1480 (by decide +kernel) rfl
theorem sX11_byLaw : Cond.selects RX11 yX11_byLaw yX11_byLaw ∈ Tg := mem_Tg 65 (by decide +kernel) rfl
def mX11_comesTo : MR := (yX11_comesTo, cX11_comesTo, 8, some .int)
set_option maxRecDepth 100000 in
theorem oX11_comesTo : MOk mX11_comesTo := ⟨by decide, mem_Tg 1485 rfl rfl, mem_Tg 105 (by decide +kernel) rfl, ⟨by decide, by decide⟩, by decide⟩
theorem nX11_comesTo : nPar mX11_comesTo 2 := by unfold nPar; decide +kernel
theorem vX11_comesTo : Cond.instanceMethod yX11_comesTo ∈ Tg := mem_Tg 1484 (by decide +kernel) rfl
theorem sX11_comesTo : Cond.selects RX11 yX11_comesTo yX11_comesTo ∈ Tg := mem_Tg 66 (by decide +kernel) rfl
def mX11_reckon : MR := (yX11_reckon, cX11_reckon, 3, some .int)
set_option maxRecDepth 100000 in
theorem oX11_reckon : MOk mX11_reckon := ⟨by decide, mem_Tg 1488 rfl rfl, mem_Tg 105 (by decide +kernel) rfl, ⟨by decide, by decide⟩, by decide⟩
theorem nX11_reckon : nPar mX11_reckon 3 := by unfold nPar; decide +kernel
theorem tX11_reckon : Cond.static yX11_reckon ∈ Tg := mem_Tg 1487 (by decide +kernel) rfl
def mX11_rings : MR := (yX11_rings, cX11_rings, 7, none)
set_option maxRecDepth 100000 in
theorem oX11_rings : MOk mX11_rings := ⟨by decide, mem_Tg 1493 rfl rfl, mem_Tg 105 (by decide +kernel) rfl, ⟨by decide, by decide⟩, by decide⟩
theorem nX11_rings : nPar mX11_rings 2 := by unfold nPar; decide +kernel
theorem vX11_rings : Cond.instanceMethod yX11_rings ∈ Tg := mem_Tg 1492 (by decide +kernel) rfl
theorem sX11_rings : Cond.selects RX11 yX11_rings yX11_rings ∈ Tg := mem_Tg 67 (by decide +kernel) rfl
def mX11_laysRoute : MR := (yX11_laysRoute, cX11_laysRoute, 6, some .int)
set_option maxRecDepth 100000 in
theorem oX11_laysRoute : MOk mX11_laysRoute := ⟨by decide, mem_Tg 1497 rfl rfl, mem_Tg 105 (by decide +kernel) rfl, ⟨by decide, by decide⟩, by decide⟩
theorem nX11_laysRoute : nPar mX11_laysRoute 2 := by unfold nPar; decide +kernel
theorem vX11_laysRoute : Cond.instanceMethod yX11_laysRoute ∈ Tg := mem_Tg 1496 (by decide +kernel) rfl
theorem sX11_laysRoute : Cond.selects RX11 yX11_laysRoute yX11_laysRoute ∈ Tg := mem_Tg 68 (by decide +kernel) rfl
def mX11_laysTrunks : MR := (yX11_laysTrunks, cX11_laysTrunks, 6, none)
set_option maxRecDepth 100000 in
theorem oX11_laysTrunks : MOk mX11_laysTrunks := ⟨by decide, mem_Tg 1501 rfl rfl, mem_Tg 105 (by decide +kernel) rfl, ⟨by decide, by decide⟩, by decide⟩
theorem nX11_laysTrunks : nPar mX11_laysTrunks 2 := by unfold nPar; decide +kernel
theorem vX11_laysTrunks : Cond.instanceMethod yX11_laysTrunks ∈ Tg := mem_Tg 1500 (by decide +kernel) rfl
theorem sX11_laysTrunks : Cond.selects RX11 yX11_laysTrunks yX11_laysTrunks ∈ Tg := mem_Tg 69 (by decide +kernel) rfl
def mX11_freeBetween : MR := (yX11_freeBetween, cX11_freeBetween, 3, some .int)
set_option maxRecDepth 100000 in
theorem oX11_freeBetween : MOk mX11_freeBetween := ⟨by decide, mem_Tg 1505 rfl rfl, mem_Tg 105 (by decide +kernel) rfl, ⟨by decide, by decide⟩, by decide⟩
theorem nX11_freeBetween : nPar mX11_freeBetween 2 := by unfold nPar; decide +kernel
theorem vX11_freeBetween : Cond.instanceMethod yX11_freeBetween ∈ Tg := mem_Tg 1504 (by decide +kernel) rfl
theorem sX11_freeBetween : Cond.selects RX11 yX11_freeBetween yX11_freeBetween ∈ Tg := mem_Tg 70 (by decide +kernel) rfl
def mX11_usedBetween : MR := (yX11_usedBetween, cX11_usedBetween, 8, some .int)
set_option maxRecDepth 100000 in
theorem oX11_usedBetween : MOk mX11_usedBetween := ⟨by decide, mem_Tg 1509 rfl rfl, mem_Tg 105 (by decide +kernel) rfl, ⟨by decide, by decide⟩, by decide⟩
theorem nX11_usedBetween : nPar mX11_usedBetween 2 := by unfold nPar; decide +kernel
theorem vX11_usedBetween : Cond.instanceMethod yX11_usedBetween ∈ Tg := mem_Tg 1508 (by decide +kernel) rfl
theorem sX11_usedBetween : Cond.selects RX11 yX11_usedBetween yX11_usedBetween ∈ Tg := mem_Tg 71 (by decide +kernel) rfl
def mX11_freePlace : MR := (yX11_freePlace, cX11_freePlace, 2, some .int)
set_option maxRecDepth 100000 in
theorem oX11_freePlace : MOk mX11_freePlace := ⟨by decide, mem_Tg 1513 rfl rfl, mem_Tg 105 (by decide +kernel) rfl, ⟨by decide, by decide⟩, by decide⟩
theorem nX11_freePlace : nPar mX11_freePlace 0 := by unfold nPar; decide +kernel
theorem vX11_freePlace : Cond.instanceMethod yX11_freePlace ∈ Tg := mem_Tg 1512 (by decide +kernel) rfl
theorem sX11_freePlace : Cond.selects RX11 yX11_freePlace yX11_freePlace ∈ Tg := mem_Tg 72 (by decide +kernel) rfl
def mX11_holdsAny : MR := (yX11_holdsAny, cX11_holdsAny, 3, some .boolean)
set_option maxRecDepth 100000 in
theorem oX11_holdsAny : MOk mX11_holdsAny := ⟨by decide, mem_Tg 1517 rfl rfl, mem_Tg 105 (by decide +kernel) rfl, ⟨by decide, by decide⟩, by decide⟩
theorem nX11_holdsAny : nPar mX11_holdsAny 1 := by unfold nPar; decide +kernel
theorem vX11_holdsAny : Cond.instanceMethod yX11_holdsAny ∈ Tg := mem_Tg 1516 (by decide +kernel) rfl
theorem sX11_holdsAny : Cond.selects RX11 yX11_holdsAny yX11_holdsAny ∈ Tg := mem_Tg 73 (by decide +kernel) rfl
def mX11_mayBeCut : MR := (yX11_mayBeCut, cX11_mayBeCut, 2, none)
set_option maxRecDepth 100000 in
theorem oX11_mayBeCut : MOk mX11_mayBeCut := ⟨by decide, mem_Tg 1521 rfl rfl, mem_Tg 105 (by decide +kernel) rfl, ⟨by decide, by decide⟩, by decide⟩
theorem nX11_mayBeCut : nPar mX11_mayBeCut 1 := by unfold nPar; decide +kernel
theorem vX11_mayBeCut : Cond.instanceMethod yX11_mayBeCut ∈ Tg := mem_Tg 1520 (by decide +kernel) rfl
theorem sX11_mayBeCut : Cond.selects RX11 yX11_mayBeCut yX11_mayBeCut ∈ Tg := mem_Tg 74 (by decide +kernel) rfl
def mX11_tried : MR := (yX11_tried, cX11_tried, 4, some .int)
set_option maxRecDepth 100000 in
theorem oX11_tried : MOk mX11_tried := ⟨by decide, mem_Tg 1525 rfl rfl, mem_Tg 105 (by decide +kernel) rfl, ⟨by decide, by decide⟩, by decide⟩
theorem nX11_tried : nPar mX11_tried 2 := by unfold nPar; decide +kernel
theorem vX11_tried : Cond.instanceMethod yX11_tried ∈ Tg := mem_Tg 1523 (by decide +kernel) rfl
theorem sX11_tried : Cond.selects RX11 yX11_tried yX11_tried ∈ Tg := mem_Tg 1524 (by decide +kernel) rfl
def mX11_callsNow : MR := (yX11_callsNow, cX11_callsNow, 3, some .int)
set_option maxRecDepth 100000 in
theorem oX11_callsNow : MOk mX11_callsNow := ⟨by decide, mem_Tg 1529 rfl rfl, mem_Tg 105 (by decide +kernel) rfl, ⟨by decide, by decide⟩, by decide⟩
theorem nX11_callsNow : nPar mX11_callsNow 0 := by unfold nPar; decide +kernel
theorem vX11_callsNow : Cond.instanceMethod yX11_callsNow ∈ Tg := mem_Tg 1528 (by decide +kernel) rfl
theorem sX11_callsNow : Cond.selects RX11 yX11_callsNow yX11_callsNow ∈ Tg := mem_Tg 75 (by decide +kernel) rfl
def mX11_subscriberIs : MR := (yX11_subscriberIs, cX11_subscriberIs, 3, some .int)
set_option maxRecDepth 100000 in
theorem oX11_subscriberIs : MOk mX11_subscriberIs := ⟨by decide, mem_Tg 1533 rfl rfl, mem_Tg 105 (by decide +kernel) rfl, ⟨by decide, by decide⟩, by decide⟩
theorem nX11_subscriberIs : nPar mX11_subscriberIs 2 := by unfold nPar; decide +kernel
theorem vX11_subscriberIs : Cond.instanceMethod yX11_subscriberIs ∈ Tg := mem_Tg 1531 (by decide +kernel) rfl
theorem sX11_subscriberIs : Cond.selects RX11 yX11_subscriberIs yX11_subscriberIs ∈ Tg := mem_Tg 1532 (by decide +kernel) rfl
def mX11_talksWith : MR := (yX11_talksWith, cX11_talksWith, 3, some .int)
set_option maxRecDepth 100000 in
theorem oX11_talksWith : MOk mX11_talksWith := ⟨by decide, mem_Tg 1537 rfl rfl, mem_Tg 105 (by decide +kernel) rfl, ⟨by decide, by decide⟩, by decide⟩
theorem nX11_talksWith : nPar mX11_talksWith 1 := by unfold nPar; decide +kernel
theorem vX11_talksWith : Cond.instanceMethod yX11_talksWith ∈ Tg := mem_Tg 1536 (by decide +kernel) rfl
theorem sX11_talksWith : Cond.selects RX11 yX11_talksWith yX11_talksWith ∈ Tg := mem_Tg 76 (by decide +kernel) rfl
def mX11_callIs : MR := (yX11_callIs, cX11_callIs, 3, some .int)
set_option maxRecDepth 100000 in
theorem oX11_callIs : MOk mX11_callIs := ⟨by decide, mem_Tg 1541 rfl rfl, mem_Tg 105 (by decide +kernel) rfl, ⟨by decide, by decide⟩, by decide⟩
theorem nX11_callIs : nPar mX11_callIs 2 := by unfold nPar; decide +kernel
theorem vX11_callIs : Cond.instanceMethod yX11_callIs ∈ Tg := mem_Tg 1539 (by decide +kernel) rfl
theorem sX11_callIs : Cond.selects RX11 yX11_callIs yX11_callIs ∈ Tg := mem_Tg 1540 (by decide +kernel) rfl
def mX11_circuits : MR := (yX11_circuits, cX11_circuits, 4, some .int)
set_option maxRecDepth 100000 in
theorem oX11_circuits : MOk mX11_circuits := ⟨by decide, mem_Tg 1545 rfl rfl, mem_Tg 105 (by decide +kernel) rfl, ⟨by decide, by decide⟩, by decide⟩
theorem nX11_circuits : nPar mX11_circuits 3 := by unfold nPar; decide +kernel
theorem vX11_circuits : Cond.instanceMethod yX11_circuits ∈ Tg := mem_Tg 1543 (by decide +kernel) rfl
theorem sX11_circuits : Cond.selects RX11 yX11_circuits yX11_circuits ∈ Tg := mem_Tg 1544 (by decide +kernel) rfl
def mX11_route : MR := (yX11_route, cX11_route, 5, some .int)
set_option maxRecDepth 100000 in
theorem oX11_route : MOk mX11_route := ⟨by decide, mem_Tg 1549 rfl rfl, mem_Tg 105 (by decide +kernel) rfl, ⟨by decide, by decide⟩, by decide⟩
theorem nX11_route : nPar mX11_route 3 := by unfold nPar; decide +kernel
theorem vX11_route : Cond.instanceMethod yX11_route ∈ Tg := mem_Tg 1547 (by decide +kernel) rfl
theorem sX11_route : Cond.selects RX11 yX11_route yX11_route ∈ Tg := mem_Tg 1548 (by decide +kernel) rfl
def mX11_fundLasts : MR := (yX11_fundLasts, cX11_fundLasts, 4, some .int)
set_option maxRecDepth 100000 in
theorem oX11_fundLasts : MOk mX11_fundLasts := ⟨by decide, mem_Tg 1553 rfl rfl, mem_Tg 105 (by decide +kernel) rfl, ⟨by decide, by decide⟩, by decide⟩
theorem nX11_fundLasts : nPar mX11_fundLasts 1 := by unfold nPar; decide +kernel
theorem vX11_fundLasts : Cond.instanceMethod yX11_fundLasts ∈ Tg := mem_Tg 1551 (by decide +kernel) rfl
theorem sX11_fundLasts : Cond.selects RX11 yX11_fundLasts yX11_fundLasts ∈ Tg := mem_Tg 1552 (by decide +kernel) rfl
def mX11_atOnce : MR := (yX11_atOnce, cX11_atOnce, 3, some .int)
set_option maxRecDepth 100000 in
theorem oX11_atOnce : MOk mX11_atOnce := ⟨by decide, mem_Tg 1557 rfl rfl, mem_Tg 105 (by decide +kernel) rfl, ⟨by decide, by decide⟩, by decide⟩
theorem nX11_atOnce : nPar mX11_atOnce 2 := by unfold nPar; decide +kernel
theorem vX11_atOnce : Cond.instanceMethod yX11_atOnce ∈ Tg := mem_Tg 1555 (by decide +kernel) rfl
theorem sX11_atOnce : Cond.selects RX11 yX11_atOnce yX11_atOnce ∈ Tg := mem_Tg 1556 (by decide +kernel) rfl
def mX11_flowBetween : MR := (yX11_flowBetween, cX11_flowBetween, 5, some .int)
set_option maxRecDepth 100000 in
theorem oX11_flowBetween : MOk mX11_flowBetween := ⟨by decide, mem_Tg 1561 rfl rfl, mem_Tg 105 (by decide +kernel) rfl, ⟨by decide, by decide⟩, by decide⟩
theorem nX11_flowBetween : nPar mX11_flowBetween 3 := by unfold nPar; decide +kernel
theorem vX11_flowBetween : Cond.instanceMethod yX11_flowBetween ∈ Tg := mem_Tg 1560 (by decide +kernel) rfl
theorem sX11_flowBetween : Cond.selects RX11 yX11_flowBetween yX11_flowBetween ∈ Tg := mem_Tg 77 (by decide +kernel) rfl
def mX11_oneMore : MR := (yX11_oneMore, cX11_oneMore, 6, some .boolean)
set_option maxRecDepth 100000 in
theorem oX11_oneMore : MOk mX11_oneMore := ⟨by decide, mem_Tg 1565 rfl rfl, mem_Tg 105 (by decide +kernel) rfl, ⟨by decide, by decide⟩, by decide⟩
theorem nX11_oneMore : nPar mX11_oneMore 2 := by unfold nPar; decide +kernel
theorem vX11_oneMore : Cond.instanceMethod yX11_oneMore ∈ Tg := mem_Tg 1564 (by decide +kernel) rfl
theorem sX11_oneMore : Cond.selects RX11 yX11_oneMore yX11_oneMore ∈ Tg := mem_Tg 78 (by decide +kernel) rfl
def mX11_stops : MR := (yX11_stops, cX11_stops, 3, some .int)
set_option maxRecDepth 100000 in
theorem oX11_stops : MOk mX11_stops := ⟨by decide, mem_Tg 1569 rfl rfl, mem_Tg 105 (by decide +kernel) rfl, ⟨by decide, by decide⟩, by decide⟩
theorem nX11_stops : nPar mX11_stops 2 := by unfold nPar; decide +kernel
theorem vX11_stops : Cond.instanceMethod yX11_stops ∈ Tg := mem_Tg 1567 (by decide +kernel) rfl
theorem sX11_stops : Cond.selects RX11 yX11_stops yX11_stops ∈ Tg := mem_Tg 1568 (by decide +kernel) rfl
def mX11_inTheMiddle : MR := (yX11_inTheMiddle, cX11_inTheMiddle, 8, some .int)
set_option maxRecDepth 100000 in
theorem oX11_inTheMiddle : MOk mX11_inTheMiddle := ⟨by decide, mem_Tg 1573 rfl rfl, mem_Tg 105 (by decide +kernel) rfl, ⟨by decide, by decide⟩, by decide⟩
theorem nX11_inTheMiddle : nPar mX11_inTheMiddle 0 := by unfold nPar; decide +kernel
theorem vX11_inTheMiddle : Cond.instanceMethod yX11_inTheMiddle ∈ Tg := mem_Tg 1571 (by decide +kernel) rfl
theorem sX11_inTheMiddle : Cond.selects RX11 yX11_inTheMiddle yX11_inTheMiddle ∈ Tg := mem_Tg 1572 (by decide +kernel) rfl
def mX11_cut : MR := (yX11_cut, cX11_cut, 8, some .int)
set_option maxRecDepth 100000 in
theorem oX11_cut : MOk mX11_cut := ⟨by decide, mem_Tg 1577 rfl rfl, mem_Tg 105 (by decide +kernel) rfl, ⟨by decide, by decide⟩, by decide⟩
theorem nX11_cut : nPar mX11_cut 3 := by unfold nPar; decide +kernel
theorem vX11_cut : Cond.instanceMethod yX11_cut ∈ Tg := mem_Tg 1575 (by decide +kernel) rfl
theorem sX11_cut : Cond.selects RX11 yX11_cut yX11_cut ∈ Tg := mem_Tg 1576 (by decide +kernel) rfl
def mX11_sumOf : MR := (yX11_sumOf, cX11_sumOf, 7, some .int)
set_option maxRecDepth 100000 in
theorem oX11_sumOf : MOk mX11_sumOf := ⟨by decide, mem_Tg 1581 rfl rfl, mem_Tg 105 (by decide +kernel) rfl, ⟨by decide, by decide⟩, by decide⟩
theorem nX11_sumOf : nPar mX11_sumOf 4 := by unfold nPar; decide +kernel
theorem vX11_sumOf : Cond.instanceMethod yX11_sumOf ∈ Tg := mem_Tg 1580 (by decide +kernel) rfl
theorem sX11_sumOf : Cond.selects RX11 yX11_sumOf yX11_sumOf ∈ Tg := mem_Tg 79 (by decide +kernel) rfl
def mX11_has : MR := (yX11_has, cX11_has, 2, some .boolean)
set_option maxRecDepth 100000 in
theorem oX11_has : MOk mX11_has := ⟨by decide, mem_Tg 1584 rfl rfl, mem_Tg 105 (by decide +kernel) rfl, ⟨by decide, by decide⟩, by decide⟩
theorem nX11_has : nPar mX11_has 2 := by unfold nPar; decide +kernel
theorem tX11_has : Cond.static yX11_has ∈ Tg := mem_Tg 1583 (by decide +kernel) rfl
def mX11_octet : MR := (yX11_octet, cX11_octet, 2, some .int)
set_option maxRecDepth 100000 in
theorem oX11_octet : MOk mX11_octet := ⟨by decide, mem_Tg 1588 rfl rfl, mem_Tg 105 (by decide +kernel) rfl, ⟨by decide, by decide⟩, by decide⟩
theorem nX11_octet : nPar mX11_octet 1 := by unfold nPar; decide +kernel
theorem vX11_octet : Cond.instanceMethod yX11_octet ∈ Tg := mem_Tg 1587 (by decide +kernel) rfl
theorem sX11_octet : Cond.selects RX11 yX11_octet yX11_octet ∈ Tg := mem_Tg 80 (by decide +kernel) rfl
def mX11_heir : MR := (yX11_heir, cX11_heir, 7, some .int)
set_option maxRecDepth 100000 in
theorem oX11_heir : MOk mX11_heir := ⟨by decide, mem_Tg 1592 rfl rfl, mem_Tg 105 (by decide +kernel) rfl, ⟨by decide, by decide⟩, by decide⟩
theorem nX11_heir : nPar mX11_heir 3 := by unfold nPar; decide +kernel
theorem vX11_heir : Cond.instanceMethod yX11_heir ∈ Tg := mem_Tg 1590 (by decide +kernel) rfl
theorem sX11_heir : Cond.selects RX11 yX11_heir yX11_heir ∈ Tg := mem_Tg 1591 (by decide +kernel) rfl
def mX11_bits : MR := (yX11_bits, cX11_bits, 3, some .int)
set_option maxRecDepth 100000 in
theorem oX11_bits : MOk mX11_bits := ⟨by decide, mem_Tg 1595 rfl rfl, mem_Tg 105 (by decide +kernel) rfl, ⟨by decide, by decide⟩, by decide⟩
theorem nX11_bits : nPar mX11_bits 1 := by unfold nPar; decide +kernel
theorem tX11_bits : Cond.static yX11_bits ∈ Tg := mem_Tg 1594 (by decide +kernel) rfl
def mX11_busy : MR := (yX11_busy, cX11_busy, 6, some .int)
set_option maxRecDepth 100000 in
theorem oX11_busy : MOk mX11_busy := ⟨by decide, mem_Tg 1599 rfl rfl, mem_Tg 105 (by decide +kernel) rfl, ⟨by decide, by decide⟩, by decide⟩
theorem nX11_busy : nPar mX11_busy 2 := by unfold nPar; decide +kernel
theorem vX11_busy : Cond.instanceMethod yX11_busy ∈ Tg := mem_Tg 1597 (by decide +kernel) rfl
theorem sX11_busy : Cond.selects RX11 yX11_busy yX11_busy ∈ Tg := mem_Tg 1598 (by decide +kernel) rfl
def mX11_laysRow : MR := (yX11_laysRow, cX11_laysRow, 4, none)
set_option maxRecDepth 100000 in
theorem oX11_laysRow : MOk mX11_laysRow := ⟨by decide, mem_Tg 1603 rfl rfl, mem_Tg 105 (by decide +kernel) rfl, ⟨by decide, by decide⟩, by decide⟩
theorem nX11_laysRow : nPar mX11_laysRow 1 := by unfold nPar; decide +kernel
theorem vX11_laysRow : Cond.instanceMethod yX11_laysRow ∈ Tg := mem_Tg 1602 (by decide +kernel) rfl
theorem sX11_laysRow : Cond.selects RX11 yX11_laysRow yX11_laysRow ∈ Tg := mem_Tg 81 (by decide +kernel) rfl
def mX11_areEnough : MR := (yX11_areEnough, cX11_areEnough, 8, some .boolean)
set_option maxRecDepth 100000 in
theorem oX11_areEnough : MOk mX11_areEnough := ⟨by decide, mem_Tg 1607 rfl rfl, mem_Tg 105 (by decide +kernel) rfl, ⟨by decide, by decide⟩, by decide⟩
theorem nX11_areEnough : nPar mX11_areEnough 3 := by unfold nPar; decide +kernel
theorem vX11_areEnough : Cond.instanceMethod yX11_areEnough ∈ Tg := mem_Tg 1606 (by decide +kernel) rfl
theorem sX11_areEnough : Cond.selects RX11 yX11_areEnough yX11_areEnough ∈ Tg := mem_Tg 82 (by decide +kernel) rfl
def mX11_atOnceIn : MR := (yX11_atOnceIn, cX11_atOnceIn, 5, some .int)
set_option maxRecDepth 100000 in
theorem oX11_atOnceIn : MOk mX11_atOnceIn := ⟨by decide, mem_Tg 1611 rfl rfl, mem_Tg 105 (by decide +kernel) rfl, ⟨by decide, by decide⟩, by decide⟩
theorem nX11_atOnceIn : nPar mX11_atOnceIn 2 := by unfold nPar; decide +kernel
theorem vX11_atOnceIn : Cond.instanceMethod yX11_atOnceIn ∈ Tg := mem_Tg 1610 (by decide +kernel) rfl
theorem sX11_atOnceIn : Cond.selects RX11 yX11_atOnceIn yX11_atOnceIn ∈ Tg := mem_Tg 83 (by decide +kernel) rfl
def mX11_cheapest : MR := (yX11_cheapest, cX11_cheapest, 6, some .int)
set_option maxRecDepth 100000 in
theorem oX11_cheapest : MOk mX11_cheapest := ⟨by decide, mem_Tg 1615 rfl rfl, mem_Tg 105 (by decide +kernel) rfl, ⟨by decide, by decide⟩, by decide⟩
theorem nX11_cheapest : nPar mX11_cheapest 3 := by unfold nPar; decide +kernel
theorem vX11_cheapest : Cond.instanceMethod yX11_cheapest ∈ Tg := mem_Tg 1613 (by decide +kernel) rfl
theorem sX11_cheapest : Cond.selects RX11 yX11_cheapest yX11_cheapest ∈ Tg := mem_Tg 1614 (by decide +kernel) rfl
def mX11_timesOf : MR := (yX11_timesOf, cX11_timesOf, 10, some .int)
set_option maxRecDepth 100000 in
theorem oX11_timesOf : MOk mX11_timesOf := ⟨by decide, mem_Tg 1620 rfl rfl, mem_Tg 105 (by decide +kernel) rfl, ⟨by decide, by decide⟩, by decide⟩
theorem nX11_timesOf : nPar mX11_timesOf 3 := by unfold nPar; decide +kernel
theorem vX11_timesOf : Cond.instanceMethod yX11_timesOf ∈ Tg := mem_Tg 1619 (by decide +kernel) rfl
theorem sX11_timesOf : Cond.selects RX11 yX11_timesOf yX11_timesOf ∈ Tg := mem_Tg 84 (by decide +kernel) rfl
def mX11_laysPence : MR := (yX11_laysPence, cX11_laysPence, 6, none)
set_option maxRecDepth 100000 in
theorem oX11_laysPence : MOk mX11_laysPence := ⟨by decide, mem_Tg 1624 rfl rfl, mem_Tg 105 (by decide +kernel) rfl, ⟨by decide, by decide⟩, by decide⟩
theorem nX11_laysPence : nPar mX11_laysPence 2 := by unfold nPar; decide +kernel
theorem vX11_laysPence : Cond.instanceMethod yX11_laysPence ∈ Tg := mem_Tg 1623 (by decide +kernel) rfl
theorem sX11_laysPence : Cond.selects RX11 yX11_laysPence yX11_laysPence ∈ Tg := mem_Tg 85 (by decide +kernel) rfl
def mX11_told : MR := (yX11_told, cX11_told, 5, some .int)
set_option maxRecDepth 100000 in
theorem oX11_told : MOk mX11_told := ⟨by decide, mem_Tg 1628 rfl rfl, mem_Tg 105 (by decide +kernel) rfl, ⟨by decide, by decide⟩, by decide⟩
theorem nX11_told : nPar mX11_told 2 := by unfold nPar; decide +kernel
theorem vX11_told : Cond.instanceMethod yX11_told ∈ Tg := mem_Tg 1626 (by decide +kernel) rfl
theorem sX11_told : Cond.selects RX11 yX11_told yX11_told ∈ Tg := mem_Tg 1627 (by decide +kernel) rfl
def mX11_longFor : MR := (yX11_longFor, cX11_longFor, 7, some .int)
set_option maxRecDepth 100000 in
theorem oX11_longFor : MOk mX11_longFor := ⟨by decide, mem_Tg 1632 rfl rfl, mem_Tg 105 (by decide +kernel) rfl, ⟨by decide, by decide⟩, by decide⟩
theorem nX11_longFor : nPar mX11_longFor 2 := by unfold nPar; decide +kernel
theorem vX11_longFor : Cond.instanceMethod yX11_longFor ∈ Tg := mem_Tg 1631 (by decide +kernel) rfl
theorem sX11_longFor : Cond.selects RX11 yX11_longFor yX11_longFor ∈ Tg := mem_Tg 86 (by decide +kernel) rfl
def mX11_epitaph : MR := (yX11_epitaph, cX11_epitaph, 7, some .int)
set_option maxRecDepth 100000 in
theorem oX11_epitaph : MOk mX11_epitaph := ⟨by decide, mem_Tg 1636 rfl rfl, mem_Tg 105 (by decide +kernel) rfl, ⟨by decide, by decide⟩, by decide⟩
theorem nX11_epitaph : nPar mX11_epitaph 4 := by unfold nPar; decide +kernel
theorem vX11_epitaph : Cond.instanceMethod yX11_epitaph ∈ Tg := mem_Tg 1634 (by decide +kernel) rfl
theorem sX11_epitaph : Cond.selects RX11 yX11_epitaph yX11_epitaph ∈ Tg := mem_Tg 1635 (by decide +kernel) rfl
def mX11_laysAlphabet : MR := (yX11_laysAlphabet, cX11_laysAlphabet, 6, none)
set_option maxRecDepth 100000 in
theorem oX11_laysAlphabet : MOk mX11_laysAlphabet := ⟨by decide, mem_Tg 1640 rfl rfl, mem_Tg 105 (by decide +kernel) rfl, ⟨by decide, by decide⟩, by decide⟩
theorem nX11_laysAlphabet : nPar mX11_laysAlphabet 1 := by unfold nPar; decide +kernel
theorem vX11_laysAlphabet : Cond.instanceMethod yX11_laysAlphabet ∈ Tg := mem_Tg 1639 (by decide +kernel) rfl
theorem sX11_laysAlphabet : Cond.selects RX11 yX11_laysAlphabet yX11_laysAlphabet ∈ Tg := mem_Tg 87 (by decide +kernel) rfl
def mX11_code : MR := (yX11_code, cX11_code, 5, some .int)
set_option maxRecDepth 100000 in
theorem oX11_code : MOk mX11_code := ⟨by decide, mem_Tg 1644 rfl rfl, mem_Tg 105 (by decide +kernel) rfl, ⟨by decide, by decide⟩, by decide⟩
theorem nX11_code : nPar mX11_code 2 := by unfold nPar; decide +kernel
theorem vX11_code : Cond.instanceMethod yX11_code ∈ Tg := mem_Tg 1642 (by decide +kernel) rfl
theorem sX11_code : Cond.selects RX11 yX11_code yX11_code ∈ Tg := mem_Tg 1643 (by decide +kernel) rfl
def mX11_faultOfDigits : MR := (yX11_faultOfDigits, cX11_faultOfDigits, 3, some .int)
set_option maxRecDepth 100000 in
theorem oX11_faultOfDigits : MOk mX11_faultOfDigits := ⟨by decide, mem_Tg 1648 rfl rfl, mem_Tg 105 (by decide +kernel) rfl, ⟨by decide, by decide⟩, by decide⟩
theorem nX11_faultOfDigits : nPar mX11_faultOfDigits 1 := by unfold nPar; decide +kernel
theorem vX11_faultOfDigits : Cond.instanceMethod yX11_faultOfDigits ∈ Tg := mem_Tg 1647 (by decide +kernel) rfl
theorem sX11_faultOfDigits : Cond.selects RX11 yX11_faultOfDigits yX11_faultOfDigits ∈ Tg := mem_Tg 88 (by decide +kernel) rfl
def mX11_dialled : MR := (yX11_dialled, cX11_dialled, 6, some .int)
set_option maxRecDepth 100000 in
theorem oX11_dialled : MOk mX11_dialled := ⟨by decide, mem_Tg 1652 rfl rfl, mem_Tg 105 (by decide +kernel) rfl, ⟨by decide, by decide⟩, by decide⟩
theorem nX11_dialled : nPar mX11_dialled 2 := by unfold nPar; decide +kernel
theorem vX11_dialled : Cond.instanceMethod yX11_dialled ∈ Tg := mem_Tg 1650 (by decide +kernel) rfl
theorem sX11_dialled : Cond.selects RX11 yX11_dialled yX11_dialled ∈ Tg := mem_Tg 1651 (by decide +kernel) rfl
def mX11_beginsWith : MR := (yX11_beginsWith, cX11_beginsWith, 4, some .boolean)
set_option maxRecDepth 100000 in
theorem oX11_beginsWith : MOk mX11_beginsWith := ⟨by decide, mem_Tg 1656 rfl rfl, mem_Tg 105 (by decide +kernel) rfl, ⟨by decide, by decide⟩, by decide⟩
theorem nX11_beginsWith : nPar mX11_beginsWith 2 := by unfold nPar; decide +kernel
theorem vX11_beginsWith : Cond.instanceMethod yX11_beginsWith ∈ Tg := mem_Tg 1655 (by decide +kernel) rfl
theorem sX11_beginsWith : Cond.selects RX11 yX11_beginsWith yX11_beginsWith ∈ Tg := mem_Tg 89 (by decide +kernel) rfl
def mX11_clear : MR := (yX11_clear, cX11_clear, 3, some .int)
set_option maxRecDepth 100000 in
theorem oX11_clear : MOk mX11_clear := ⟨by decide, mem_Tg 1660 rfl rfl, mem_Tg 105 (by decide +kernel) rfl, ⟨by decide, by decide⟩, by decide⟩
theorem nX11_clear : nPar mX11_clear 0 := by unfold nPar; decide +kernel
theorem vX11_clear : Cond.instanceMethod yX11_clear ∈ Tg := mem_Tg 1658 (by decide +kernel) rfl
theorem sX11_clear : Cond.selects RX11 yX11_clear yX11_clear ∈ Tg := mem_Tg 1659 (by decide +kernel) rfl
def mX11_isWithin : MR := (yX11_isWithin, cX11_isWithin, 4, some .boolean)
set_option maxRecDepth 100000 in
theorem oX11_isWithin : MOk mX11_isWithin := ⟨by decide, mem_Tg 1664 rfl rfl, mem_Tg 105 (by decide +kernel) rfl, ⟨by decide, by decide⟩, by decide⟩
theorem nX11_isWithin : nPar mX11_isWithin 2 := by unfold nPar; decide +kernel
theorem vX11_isWithin : Cond.instanceMethod yX11_isWithin ∈ Tg := mem_Tg 1663 (by decide +kernel) rfl
theorem sX11_isWithin : Cond.selects RX11 yX11_isWithin yX11_isWithin ∈ Tg := mem_Tg 90 (by decide +kernel) rfl
def mX11_freeCode : MR := (yX11_freeCode, cX11_freeCode, 6, some .int)
set_option maxRecDepth 100000 in
theorem oX11_freeCode : MOk mX11_freeCode := ⟨by decide, mem_Tg 1668 rfl rfl, mem_Tg 105 (by decide +kernel) rfl, ⟨by decide, by decide⟩, by decide⟩
theorem nX11_freeCode : nPar mX11_freeCode 1 := by unfold nPar; decide +kernel
theorem vX11_freeCode : Cond.instanceMethod yX11_freeCode ∈ Tg := mem_Tg 1666 (by decide +kernel) rfl
theorem sX11_freeCode : Cond.selects RX11 yX11_freeCode yX11_freeCode ∈ Tg := mem_Tg 1667 (by decide +kernel) rfl
def mX11_clashes : MR := (yX11_clashes, cX11_clashes, 5, some .boolean)
set_option maxRecDepth 100000 in
theorem oX11_clashes : MOk mX11_clashes := ⟨by decide, mem_Tg 1673 rfl rfl, mem_Tg 105 (by decide +kernel) rfl, ⟨by decide, by decide⟩, by decide⟩
theorem nX11_clashes : nPar mX11_clashes 3 := by unfold nPar; decide +kernel
theorem vX11_clashes : Cond.instanceMethod yX11_clashes ∈ Tg := mem_Tg 1672 (by decide +kernel) rfl
theorem sX11_clashes : Cond.selects RX11 yX11_clashes yX11_clashes ∈ Tg := mem_Tg 91 (by decide +kernel) rfl
def mX11_digitOf : MR := (yX11_digitOf, cX11_digitOf, 5, some .int)
set_option maxRecDepth 100000 in
theorem oX11_digitOf : MOk mX11_digitOf := ⟨by decide, mem_Tg 1676 rfl rfl, mem_Tg 105 (by decide +kernel) rfl, ⟨by decide, by decide⟩, by decide⟩
theorem nX11_digitOf : nPar mX11_digitOf 3 := by unfold nPar; decide +kernel
theorem tX11_digitOf : Cond.static yX11_digitOf ∈ Tg := mem_Tg 1675 (by decide +kernel) rfl
def mX11_seed : MR := (yX11_seed, cX11_seed, 2, some .boolean)
set_option maxRecDepth 100000 in
theorem oX11_seed : MOk mX11_seed := ⟨by decide, mem_Tg 1680 rfl rfl, mem_Tg 105 (by decide +kernel) rfl, ⟨by decide, by decide⟩, by decide⟩
theorem nX11_seed : nPar mX11_seed 1 := by unfold nPar; decide +kernel
theorem vX11_seed : Cond.instanceMethod yX11_seed ∈ Tg := mem_Tg 1678 (by decide +kernel) rfl
theorem sX11_seed : Cond.selects RX11 yX11_seed yX11_seed ∈ Tg := mem_Tg 1679 (by decide +kernel) rfl
def mX11_keep : MR := (yX11_keep, cX11_keep, 1, some .int)
set_option maxRecDepth 100000 in
theorem oX11_keep : MOk mX11_keep := ⟨by decide, mem_Tg 1685 rfl rfl, mem_Tg 105 (by decide +kernel) rfl, ⟨by decide, by decide⟩, by decide⟩
theorem nX11_keep : nPar mX11_keep 0 := by unfold nPar; decide +kernel
theorem vX11_keep : Cond.instanceMethod yX11_keep ∈ Tg := mem_Tg 1683 (by decide +kernel) rfl
theorem sX11_keep : Cond.selects RX11 yX11_keep yX11_keep ∈ Tg := mem_Tg 1684 (by decide +kernel) rfl
def mX11_undo : MR := (yX11_undo, cX11_undo, 1, some .boolean)
set_option maxRecDepth 100000 in
theorem oX11_undo : MOk mX11_undo := ⟨by decide, mem_Tg 1689 rfl rfl, mem_Tg 105 (by decide +kernel) rfl, ⟨by decide, by decide⟩, by decide⟩
theorem nX11_undo : nPar mX11_undo 0 := by unfold nPar; decide +kernel
theorem vX11_undo : Cond.instanceMethod yX11_undo ∈ Tg := mem_Tg 1687 (by decide +kernel) rfl
theorem sX11_undo : Cond.selects RX11 yX11_undo yX11_undo ∈ Tg := mem_Tg 1688 (by decide +kernel) rfl
def mX11_check : MR := (yX11_check, cX11_check, 3, some .int)
set_option maxRecDepth 100000 in
theorem oX11_check : MOk mX11_check := ⟨by decide, mem_Tg 1693 rfl rfl, mem_Tg 105 (by decide +kernel) rfl, ⟨by decide, by decide⟩, by decide⟩
theorem nX11_check : nPar mX11_check 1 := by unfold nPar; decide +kernel
theorem vX11_check : Cond.instanceMethod yX11_check ∈ Tg := mem_Tg 1691 (by decide +kernel) rfl
theorem sX11_check : Cond.selects RX11 yX11_check yX11_check ∈ Tg := mem_Tg 1692 (by decide +kernel) rfl
def mX11_count : MR := (yX11_count, cX11_count, 4, some .int)
set_option maxRecDepth 100000 in
theorem oX11_count : MOk mX11_count := ⟨by decide, mem_Tg 1697 rfl rfl, mem_Tg 105 (by decide +kernel) rfl, ⟨by decide, by decide⟩, by decide⟩
theorem nX11_count : nPar mX11_count 1 := by unfold nPar; decide +kernel
theorem vX11_count : Cond.instanceMethod yX11_count ∈ Tg := mem_Tg 1695 (by decide +kernel) rfl
theorem sX11_count : Cond.selects RX11 yX11_count yX11_count ∈ Tg := mem_Tg 1696 (by decide +kernel) rfl
def mX11_setOf : MR := (yX11_setOf, cX11_setOf, 5, some .int)
set_option maxRecDepth 100000 in
theorem oX11_setOf : MOk mX11_setOf := ⟨by decide, mem_Tg 1701 rfl rfl, mem_Tg 105 (by decide +kernel) rfl, ⟨by decide, by decide⟩, by decide⟩
theorem nX11_setOf : nPar mX11_setOf 2 := by unfold nPar; decide +kernel
theorem vX11_setOf : Cond.instanceMethod yX11_setOf ∈ Tg := mem_Tg 1700 (by decide +kernel) rfl
theorem sX11_setOf : Cond.selects RX11 yX11_setOf yX11_setOf ∈ Tg := mem_Tg 92 (by decide +kernel) rfl
theorem fX8_9 : FLk RX8 9 8 0 := ⟨_, _, rfl, by decide, mem_Tg 128 (by decide +kernel) rfl⟩
theorem qX8_9 : FLf RX8 9 8 0 := ⟨_, _, rfl, by decide, mem_Tg 128 (by decide +kernel) rfl, rfl, rfl⟩
theorem fX8_15 : FLk RX8 15 8 1 := ⟨_, _, rfl, by decide, mem_Tg 129 (by decide +kernel) rfl⟩
theorem pX8_15 : FLp RX8 15 8 1 := ⟨_, _, rfl, by decide, mem_Tg 129 (by decide +kernel) rfl, rfl⟩
theorem fX10_114 : FLk RX10 114 8 1 := ⟨_, _, rfl, by decide, mem_Tg 130 (by decide +kernel) rfl⟩
theorem pX10_114 : FLp RX10 114 8 1 := ⟨_, _, rfl, by decide, mem_Tg 130 (by decide +kernel) rfl, rfl⟩
theorem fX8_19 : FLk RX8 19 8 2 := ⟨_, _, rfl, by decide, mem_Tg 131 (by decide +kernel) rfl⟩
theorem pX8_19 : FLp RX8 19 8 2 := ⟨_, _, rfl, by decide, mem_Tg 131 (by decide +kernel) rfl, rfl⟩
theorem fX2_48 : FLk RX2 48 8 3 := ⟨_, _, rfl, by decide, mem_Tg 132 (by decide +kernel) rfl⟩
theorem pX2_48 : FLp RX2 48 8 3 := ⟨_, _, rfl, by decide, mem_Tg 132 (by decide +kernel) rfl, rfl⟩
theorem fX0_55 : FLk RX0 55 8 3 := ⟨_, _, rfl, by decide, mem_Tg 133 (by decide +kernel) rfl⟩
theorem pX0_55 : FLp RX0 55 8 3 := ⟨_, _, rfl, by decide, mem_Tg 133 (by decide +kernel) rfl, rfl⟩
theorem fX8_22 : FLk RX8 22 8 3 := ⟨_, _, rfl, by decide, mem_Tg 134 (by decide +kernel) rfl⟩
theorem pX8_22 : FLp RX8 22 8 3 := ⟨_, _, rfl, by decide, mem_Tg 134 (by decide +kernel) rfl, rfl⟩
theorem fX0_62 : FLk RX0 62 8 4 := ⟨_, _, rfl, by decide, mem_Tg 135 (by decide +kernel) rfl⟩
theorem pX0_62 : FLp RX0 62 8 4 := ⟨_, _, rfl, by decide, mem_Tg 135 (by decide +kernel) rfl, rfl⟩
theorem fX8_39 : FLk RX8 39 8 4 := ⟨_, _, rfl, by decide, mem_Tg 136 (by decide +kernel) rfl⟩
theorem pX8_39 : FLp RX8 39 8 4 := ⟨_, _, rfl, by decide, mem_Tg 136 (by decide +kernel) rfl, rfl⟩
theorem fX2_111 : FLk RX2 111 8 4 := ⟨_, _, rfl, by decide, mem_Tg 137 (by decide +kernel) rfl⟩
theorem pX2_111 : FLp RX2 111 8 4 := ⟨_, _, rfl, by decide, mem_Tg 137 (by decide +kernel) rfl, rfl⟩
theorem fX4_28 : FLk RX4 28 8 5 := ⟨_, _, rfl, by decide, mem_Tg 138 (by decide +kernel) rfl⟩
theorem pX4_28 : FLp RX4 28 8 5 := ⟨_, _, rfl, by decide, mem_Tg 138 (by decide +kernel) rfl, rfl⟩
theorem fX0_33 : FLk RX0 33 8 5 := ⟨_, _, rfl, by decide, mem_Tg 139 (by decide +kernel) rfl⟩
theorem pX0_33 : FLp RX0 33 8 5 := ⟨_, _, rfl, by decide, mem_Tg 139 (by decide +kernel) rfl, rfl⟩
theorem fX2_33 : FLk RX2 33 8 5 := ⟨_, _, rfl, by decide, mem_Tg 140 (by decide +kernel) rfl⟩
theorem pX2_33 : FLp RX2 33 8 5 := ⟨_, _, rfl, by decide, mem_Tg 140 (by decide +kernel) rfl, rfl⟩
theorem fX8_25 : FLk RX8 25 8 5 := ⟨_, _, rfl, by decide, mem_Tg 141 (by decide +kernel) rfl⟩
theorem pX8_25 : FLp RX8 25 8 5 := ⟨_, _, rfl, by decide, mem_Tg 141 (by decide +kernel) rfl, rfl⟩
theorem fX10_276 : FLk RX10 276 8 5 := ⟨_, _, rfl, by decide, mem_Tg 142 (by decide +kernel) rfl⟩
theorem pX10_276 : FLp RX10 276 8 5 := ⟨_, _, rfl, by decide, mem_Tg 142 (by decide +kernel) rfl, rfl⟩
theorem fX3_9 : FLk RX3 9 3 0 := ⟨_, _, rfl, by decide, mem_Tg 163 (by decide +kernel) rfl⟩
theorem qX3_9 : FLf RX3 9 3 0 := ⟨_, _, rfl, by decide, mem_Tg 163 (by decide +kernel) rfl, rfl, rfl⟩
theorem fX10_209 : FLk RX10 209 3 0 := ⟨_, _, rfl, by decide, mem_Tg 164 (by decide +kernel) rfl⟩
theorem fX3_15 : FLk RX3 15 3 1 := ⟨_, _, rfl, by decide, mem_Tg 165 (by decide +kernel) rfl⟩
theorem qX3_15 : FLf RX3 15 3 1 := ⟨_, _, rfl, by decide, mem_Tg 165 (by decide +kernel) rfl, rfl, rfl⟩
theorem fX7_139 : FLk RX7 139 3 1 := ⟨_, _, rfl, by decide, mem_Tg 166 (by decide +kernel) rfl⟩
theorem fX10_224 : FLk RX10 224 3 1 := ⟨_, _, rfl, by decide, mem_Tg 167 (by decide +kernel) rfl⟩
theorem fX3_18 : FLk RX3 18 3 2 := ⟨_, _, rfl, by decide, mem_Tg 168 (by decide +kernel) rfl⟩
theorem qX3_18 : FLf RX3 18 3 2 := ⟨_, _, rfl, by decide, mem_Tg 168 (by decide +kernel) rfl, rfl, rfl⟩
theorem fX3_21 : FLk RX3 21 3 3 := ⟨_, _, rfl, by decide, mem_Tg 169 (by decide +kernel) rfl⟩
theorem qX3_21 : FLf RX3 21 3 3 := ⟨_, _, rfl, by decide, mem_Tg 169 (by decide +kernel) rfl, rfl, rfl⟩
theorem fX3_24 : FLk RX3 24 3 4 := ⟨_, _, rfl, by decide, mem_Tg 170 (by decide +kernel) rfl⟩
theorem qX3_24 : FLf RX3 24 3 4 := ⟨_, _, rfl, by decide, mem_Tg 170 (by decide +kernel) rfl, rfl, rfl⟩
theorem fX3_27 : FLk RX3 27 3 5 := ⟨_, _, rfl, by decide, mem_Tg 171 (by decide +kernel) rfl⟩
theorem qX3_27 : FLf RX3 27 3 5 := ⟨_, _, rfl, by decide, mem_Tg 171 (by decide +kernel) rfl, rfl, rfl⟩
theorem fX3_30 : FLk RX3 30 3 6 := ⟨_, _, rfl, by decide, mem_Tg 172 (by decide +kernel) rfl⟩
theorem qX3_30 : FLf RX3 30 3 6 := ⟨_, _, rfl, by decide, mem_Tg 172 (by decide +kernel) rfl, rfl, rfl⟩
theorem fX4_18 : FLk RX4 18 4 0 := ⟨_, _, rfl, by decide, mem_Tg 194 (by decide +kernel) rfl⟩
theorem qX4_18 : FLf RX4 18 4 0 := ⟨_, _, rfl, by decide, mem_Tg 194 (by decide +kernel) rfl, rfl, rfl⟩
theorem fX4_9 : FLk RX4 9 4 1 := ⟨_, _, rfl, by decide, mem_Tg 195 (by decide +kernel) rfl⟩
theorem qX4_9 : FLf RX4 9 4 1 := ⟨_, _, rfl, by decide, mem_Tg 195 (by decide +kernel) rfl, rfl, rfl⟩
theorem fX4_15 : FLk RX4 15 4 2 := ⟨_, _, rfl, by decide, mem_Tg 196 (by decide +kernel) rfl⟩
theorem qX4_15 : FLf RX4 15 4 2 := ⟨_, _, rfl, by decide, mem_Tg 196 (by decide +kernel) rfl, rfl, rfl⟩
theorem fX10_286 : FLk RX10 286 4 2 := ⟨_, _, rfl, by decide, mem_Tg 197 (by decide +kernel) rfl⟩
theorem fX6_27 : FLk RX6 27 6 0 := ⟨_, _, rfl, by decide, mem_Tg 211 (by decide +kernel) rfl⟩
theorem qX6_27 : FLf RX6 27 6 0 := ⟨_, _, rfl, by decide, mem_Tg 211 (by decide +kernel) rfl, rfl, rfl⟩
theorem fX6_9 : FLk RX6 9 6 1 := ⟨_, _, rfl, by decide, mem_Tg 212 (by decide +kernel) rfl⟩
theorem qX6_9 : FLf RX6 9 6 1 := ⟨_, _, rfl, by decide, mem_Tg 212 (by decide +kernel) rfl, rfl, rfl⟩
theorem fX6_15 : FLk RX6 15 6 2 := ⟨_, _, rfl, by decide, mem_Tg 213 (by decide +kernel) rfl⟩
theorem qX6_15 : FLf RX6 15 6 2 := ⟨_, _, rfl, by decide, mem_Tg 213 (by decide +kernel) rfl, rfl, rfl⟩
theorem fX6_18 : FLk RX6 18 6 3 := ⟨_, _, rfl, by decide, mem_Tg 214 (by decide +kernel) rfl⟩
theorem qX6_18 : FLf RX6 18 6 3 := ⟨_, _, rfl, by decide, mem_Tg 214 (by decide +kernel) rfl, rfl, rfl⟩
theorem fX6_21 : FLk RX6 21 6 4 := ⟨_, _, rfl, by decide, mem_Tg 215 (by decide +kernel) rfl⟩
theorem qX6_21 : FLf RX6 21 6 4 := ⟨_, _, rfl, by decide, mem_Tg 215 (by decide +kernel) rfl, rfl, rfl⟩
theorem fX6_24 : FLk RX6 24 6 5 := ⟨_, _, rfl, by decide, mem_Tg 216 (by decide +kernel) rfl⟩
theorem qX6_24 : FLf RX6 24 6 5 := ⟨_, _, rfl, by decide, mem_Tg 216 (by decide +kernel) rfl, rfl, rfl⟩
theorem fX0_21 : FLk RX0 21 0 0 := ⟨_, _, rfl, by decide, mem_Tg 236 (by decide +kernel) rfl⟩
theorem qX0_21 : FLf RX0 21 0 0 := ⟨_, _, rfl, by decide, mem_Tg 236 (by decide +kernel) rfl, rfl, rfl⟩
theorem fX0_9 : FLk RX0 9 0 1 := ⟨_, _, rfl, by decide, mem_Tg 237 (by decide +kernel) rfl⟩
theorem qX0_9 : FLf RX0 9 0 1 := ⟨_, _, rfl, by decide, mem_Tg 237 (by decide +kernel) rfl, rfl, rfl⟩
theorem fX0_15 : FLk RX0 15 0 2 := ⟨_, _, rfl, by decide, mem_Tg 238 (by decide +kernel) rfl⟩
theorem qX0_15 : FLf RX0 15 0 2 := ⟨_, _, rfl, by decide, mem_Tg 238 (by decide +kernel) rfl, rfl, rfl⟩
theorem fX0_18 : FLk RX0 18 0 3 := ⟨_, _, rfl, by decide, mem_Tg 239 (by decide +kernel) rfl⟩
theorem qX0_18 : FLf RX0 18 0 3 := ⟨_, _, rfl, by decide, mem_Tg 239 (by decide +kernel) rfl, rfl, rfl⟩
theorem fX0_39 : FLk RX0 39 0 4 := ⟨_, _, rfl, by decide, mem_Tg 240 (by decide +kernel) rfl⟩
theorem pX0_39 : FLp RX0 39 0 4 := ⟨_, _, rfl, by decide, mem_Tg 240 (by decide +kernel) rfl, rfl⟩
theorem fX2_22 : FLk RX2 22 1 0 := ⟨_, _, rfl, by decide, mem_Tg 264 (by decide +kernel) rfl⟩
theorem pX2_22 : FLp RX2 22 1 0 := ⟨_, _, rfl, by decide, mem_Tg 264 (by decide +kernel) rfl, rfl⟩
theorem fX5_56 : FLk RX5 56 1 0 := ⟨_, _, rfl, by decide, mem_Tg 265 (by decide +kernel) rfl⟩
theorem pX5_56 : FLp RX5 56 1 0 := ⟨_, _, rfl, by decide, mem_Tg 265 (by decide +kernel) rfl, rfl⟩
theorem fX10_312 : FLk RX10 312 1 0 := ⟨_, _, rfl, by decide, mem_Tg 266 (by decide +kernel) rfl⟩
theorem pX10_312 : FLp RX10 312 1 0 := ⟨_, _, rfl, by decide, mem_Tg 266 (by decide +kernel) rfl, rfl⟩
theorem fX1_30 : FLk RX1 30 1 1 := ⟨_, _, rfl, by decide, mem_Tg 267 (by decide +kernel) rfl⟩
theorem pX1_30 : FLp RX1 30 1 1 := ⟨_, _, rfl, by decide, mem_Tg 267 (by decide +kernel) rfl, rfl⟩
theorem fX2_26 : FLk RX2 26 1 1 := ⟨_, _, rfl, by decide, mem_Tg 268 (by decide +kernel) rfl⟩
theorem pX2_26 : FLp RX2 26 1 1 := ⟨_, _, rfl, by decide, mem_Tg 268 (by decide +kernel) rfl, rfl⟩
theorem fX1_9 : FLk RX1 9 1 2 := ⟨_, _, rfl, by decide, mem_Tg 269 (by decide +kernel) rfl⟩
theorem qX1_9 : FLf RX1 9 1 2 := ⟨_, _, rfl, by decide, mem_Tg 269 (by decide +kernel) rfl, rfl, rfl⟩
theorem fX2_51 : FLk RX2 51 1 2 := ⟨_, _, rfl, by decide, mem_Tg 270 (by decide +kernel) rfl⟩
theorem fX5_59 : FLk RX5 59 1 2 := ⟨_, _, rfl, by decide, mem_Tg 271 (by decide +kernel) rfl⟩
theorem fX1_15 : FLk RX1 15 1 3 := ⟨_, _, rfl, by decide, mem_Tg 272 (by decide +kernel) rfl⟩
theorem qX1_15 : FLf RX1 15 1 3 := ⟨_, _, rfl, by decide, mem_Tg 272 (by decide +kernel) rfl, rfl, rfl⟩
theorem fX2_55 : FLk RX2 55 1 3 := ⟨_, _, rfl, by decide, mem_Tg 273 (by decide +kernel) rfl⟩
theorem fX5_40 : FLk RX5 40 1 3 := ⟨_, _, rfl, by decide, mem_Tg 274 (by decide +kernel) rfl⟩
theorem fX1_18 : FLk RX1 18 1 4 := ⟨_, _, rfl, by decide, mem_Tg 275 (by decide +kernel) rfl⟩
theorem qX1_18 : FLf RX1 18 1 4 := ⟨_, _, rfl, by decide, mem_Tg 275 (by decide +kernel) rfl, rfl, rfl⟩
theorem fX2_61 : FLk RX2 61 1 4 := ⟨_, _, rfl, by decide, mem_Tg 276 (by decide +kernel) rfl⟩
theorem fX5_45 : FLk RX5 45 1 4 := ⟨_, _, rfl, by decide, mem_Tg 277 (by decide +kernel) rfl⟩
theorem fX1_21 : FLk RX1 21 1 5 := ⟨_, _, rfl, by decide, mem_Tg 278 (by decide +kernel) rfl⟩
theorem qX1_21 : FLf RX1 21 1 5 := ⟨_, _, rfl, by decide, mem_Tg 278 (by decide +kernel) rfl, rfl, rfl⟩
theorem fX2_67 : FLk RX2 67 1 5 := ⟨_, _, rfl, by decide, mem_Tg 279 (by decide +kernel) rfl⟩
theorem fX5_62 : FLk RX5 62 1 5 := ⟨_, _, rfl, by decide, mem_Tg 280 (by decide +kernel) rfl⟩
theorem fX1_24 : FLk RX1 24 1 6 := ⟨_, _, rfl, by decide, mem_Tg 281 (by decide +kernel) rfl⟩
theorem qX1_24 : FLf RX1 24 1 6 := ⟨_, _, rfl, by decide, mem_Tg 281 (by decide +kernel) rfl, rfl, rfl⟩
theorem fX5_69 : FLk RX5 69 1 6 := ⟨_, _, rfl, by decide, mem_Tg 282 (by decide +kernel) rfl⟩
theorem fX1_27 : FLk RX1 27 1 7 := ⟨_, _, rfl, by decide, mem_Tg 283 (by decide +kernel) rfl⟩
theorem qX1_27 : FLf RX1 27 1 7 := ⟨_, _, rfl, by decide, mem_Tg 283 (by decide +kernel) rfl, rfl, rfl⟩
theorem fX5_72 : FLk RX5 72 1 7 := ⟨_, _, rfl, by decide, mem_Tg 284 (by decide +kernel) rfl⟩
theorem fX2_18 : FLk RX2 18 2 0 := ⟨_, _, rfl, by decide, mem_Tg 302 (by decide +kernel) rfl⟩
theorem qX2_18 : FLf RX2 18 2 0 := ⟨_, _, rfl, by decide, mem_Tg 302 (by decide +kernel) rfl, rfl, rfl⟩
theorem fX2_12 : FLk RX2 12 2 1 := ⟨_, _, rfl, by decide, mem_Tg 303 (by decide +kernel) rfl⟩
theorem pX2_12 : FLp RX2 12 2 1 := ⟨_, _, rfl, by decide, mem_Tg 303 (by decide +kernel) rfl, rfl⟩
theorem fX10_128 : FLk RX10 128 2 1 := ⟨_, _, rfl, by decide, mem_Tg 304 (by decide +kernel) rfl⟩
theorem pX10_128 : FLp RX10 128 2 1 := ⟨_, _, rfl, by decide, mem_Tg 304 (by decide +kernel) rfl, rfl⟩
theorem fX5_11 : FLk RX5 11 5 0 := ⟨_, _, rfl, by decide, mem_Tg 322 (by decide +kernel) rfl⟩
theorem qX5_11 : FLf RX5 11 5 0 := ⟨_, _, rfl, by decide, mem_Tg 322 (by decide +kernel) rfl, rfl, rfl⟩
theorem fX5_15 : FLk RX5 15 5 1 := ⟨_, _, rfl, by decide, mem_Tg 323 (by decide +kernel) rfl⟩
theorem qX5_15 : FLf RX5 15 5 1 := ⟨_, _, rfl, by decide, mem_Tg 323 (by decide +kernel) rfl, rfl, rfl⟩
theorem fX5_65 : FLk RX5 65 5 2 := ⟨_, _, rfl, by decide, mem_Tg 324 (by decide +kernel) rfl⟩
theorem pX5_65 : FLp RX5 65 5 2 := ⟨_, _, rfl, by decide, mem_Tg 324 (by decide +kernel) rfl, rfl⟩
theorem fX7_32 : FLk RX7 32 7 0 := ⟨_, _, rfl, by decide, mem_Tg 334 (by decide +kernel) rfl⟩
theorem qX7_32 : FLf RX7 32 7 0 := ⟨_, _, rfl, by decide, mem_Tg 334 (by decide +kernel) rfl, rfl, rfl⟩
theorem fX7_12 : FLk RX7 12 7 1 := ⟨_, _, rfl, by decide, mem_Tg 335 (by decide +kernel) rfl⟩
theorem qX7_12 : FLf RX7 12 7 1 := ⟨_, _, rfl, by decide, mem_Tg 335 (by decide +kernel) rfl, rfl, rfl⟩
theorem fX7_21 : FLk RX7 21 7 2 := ⟨_, _, rfl, by decide, mem_Tg 336 (by decide +kernel) rfl⟩
theorem pX7_21 : FLp RX7 21 7 2 := ⟨_, _, rfl, by decide, mem_Tg 336 (by decide +kernel) rfl, rfl⟩
theorem fX10_124 : FLk RX10 124 7 2 := ⟨_, _, rfl, by decide, mem_Tg 337 (by decide +kernel) rfl⟩
theorem pX10_124 : FLp RX10 124 7 2 := ⟨_, _, rfl, by decide, mem_Tg 337 (by decide +kernel) rfl, rfl⟩
theorem fX7_25 : FLk RX7 25 7 3 := ⟨_, _, rfl, by decide, mem_Tg 338 (by decide +kernel) rfl⟩
theorem pX7_25 : FLp RX7 25 7 3 := ⟨_, _, rfl, by decide, mem_Tg 338 (by decide +kernel) rfl, rfl⟩
theorem fX10_100 : FLk RX10 100 7 3 := ⟨_, _, rfl, by decide, mem_Tg 339 (by decide +kernel) rfl⟩
theorem pX10_100 : FLp RX10 100 7 3 := ⟨_, _, rfl, by decide, mem_Tg 339 (by decide +kernel) rfl, rfl⟩
theorem fX7_29 : FLk RX7 29 7 4 := ⟨_, _, rfl, by decide, mem_Tg 340 (by decide +kernel) rfl⟩
theorem pX7_29 : FLp RX7 29 7 4 := ⟨_, _, rfl, by decide, mem_Tg 340 (by decide +kernel) rfl, rfl⟩
theorem fX10_103 : FLk RX10 103 7 4 := ⟨_, _, rfl, by decide, mem_Tg 341 (by decide +kernel) rfl⟩
theorem pX10_103 : FLp RX10 103 7 4 := ⟨_, _, rfl, by decide, mem_Tg 341 (by decide +kernel) rfl, rfl⟩
theorem fX7_36 : FLk RX7 36 7 5 := ⟨_, _, rfl, by decide, mem_Tg 342 (by decide +kernel) rfl⟩
theorem pX7_36 : FLp RX7 36 7 5 := ⟨_, _, rfl, by decide, mem_Tg 342 (by decide +kernel) rfl, rfl⟩
theorem fX10_148 : FLk RX10 148 7 5 := ⟨_, _, rfl, by decide, mem_Tg 343 (by decide +kernel) rfl⟩
theorem pX10_148 : FLp RX10 148 7 5 := ⟨_, _, rfl, by decide, mem_Tg 343 (by decide +kernel) rfl, rfl⟩
theorem fX7_39 : FLk RX7 39 7 6 := ⟨_, _, rfl, by decide, mem_Tg 344 (by decide +kernel) rfl⟩
theorem pX7_39 : FLp RX7 39 7 6 := ⟨_, _, rfl, by decide, mem_Tg 344 (by decide +kernel) rfl, rfl⟩
theorem fX10_157 : FLk RX10 157 7 6 := ⟨_, _, rfl, by decide, mem_Tg 345 (by decide +kernel) rfl⟩
theorem pX10_157 : FLp RX10 157 7 6 := ⟨_, _, rfl, by decide, mem_Tg 345 (by decide +kernel) rfl, rfl⟩
theorem fX7_42 : FLk RX7 42 7 7 := ⟨_, _, rfl, by decide, mem_Tg 346 (by decide +kernel) rfl⟩
theorem pX7_42 : FLp RX7 42 7 7 := ⟨_, _, rfl, by decide, mem_Tg 346 (by decide +kernel) rfl, rfl⟩
theorem fX10_160 : FLk RX10 160 7 7 := ⟨_, _, rfl, by decide, mem_Tg 347 (by decide +kernel) rfl⟩
theorem pX10_160 : FLp RX10 160 7 7 := ⟨_, _, rfl, by decide, mem_Tg 347 (by decide +kernel) rfl, rfl⟩
theorem fX9_52 : FLk RX9 52 9 0 := ⟨_, _, rfl, by decide, mem_Tg 371 (by decide +kernel) rfl⟩
theorem pX9_52 : FLp RX9 52 9 0 := ⟨_, _, rfl, by decide, mem_Tg 371 (by decide +kernel) rfl, rfl⟩
theorem fX7_73 : FLk RX7 73 9 0 := ⟨_, _, rfl, by decide, mem_Tg 372 (by decide +kernel) rfl⟩
theorem pX7_73 : FLp RX7 73 9 0 := ⟨_, _, rfl, by decide, mem_Tg 372 (by decide +kernel) rfl, rfl⟩
theorem fX10_129 : FLk RX10 129 9 0 := ⟨_, _, rfl, by decide, mem_Tg 373 (by decide +kernel) rfl⟩
theorem pX10_129 : FLp RX10 129 9 0 := ⟨_, _, rfl, by decide, mem_Tg 373 (by decide +kernel) rfl, rfl⟩
theorem fX9_55 : FLk RX9 55 9 1 := ⟨_, _, rfl, by decide, mem_Tg 374 (by decide +kernel) rfl⟩
theorem pX9_55 : FLp RX9 55 9 1 := ⟨_, _, rfl, by decide, mem_Tg 374 (by decide +kernel) rfl, rfl⟩
theorem fX5_23 : FLk RX5 23 9 1 := ⟨_, _, rfl, by decide, mem_Tg 375 (by decide +kernel) rfl⟩
theorem pX5_23 : FLp RX5 23 9 1 := ⟨_, _, rfl, by decide, mem_Tg 375 (by decide +kernel) rfl, rfl⟩
theorem fX7_88 : FLk RX7 88 9 1 := ⟨_, _, rfl, by decide, mem_Tg 376 (by decide +kernel) rfl⟩
theorem pX7_88 : FLp RX7 88 9 1 := ⟨_, _, rfl, by decide, mem_Tg 376 (by decide +kernel) rfl, rfl⟩
theorem fX0_81 : FLk RX0 81 9 1 := ⟨_, _, rfl, by decide, mem_Tg 377 (by decide +kernel) rfl⟩
theorem pX0_81 : FLp RX0 81 9 1 := ⟨_, _, rfl, by decide, mem_Tg 377 (by decide +kernel) rfl, rfl⟩
theorem fX10_173 : FLk RX10 173 9 1 := ⟨_, _, rfl, by decide, mem_Tg 378 (by decide +kernel) rfl⟩
theorem pX10_173 : FLp RX10 173 9 1 := ⟨_, _, rfl, by decide, mem_Tg 378 (by decide +kernel) rfl, rfl⟩
theorem fX9_58 : FLk RX9 58 9 2 := ⟨_, _, rfl, by decide, mem_Tg 379 (by decide +kernel) rfl⟩
theorem pX9_58 : FLp RX9 58 9 2 := ⟨_, _, rfl, by decide, mem_Tg 379 (by decide +kernel) rfl, rfl⟩
theorem fX7_76 : FLk RX7 76 9 2 := ⟨_, _, rfl, by decide, mem_Tg 380 (by decide +kernel) rfl⟩
theorem pX7_76 : FLp RX7 76 9 2 := ⟨_, _, rfl, by decide, mem_Tg 380 (by decide +kernel) rfl, rfl⟩
theorem fX0_78 : FLk RX0 78 9 2 := ⟨_, _, rfl, by decide, mem_Tg 381 (by decide +kernel) rfl⟩
theorem pX0_78 : FLp RX0 78 9 2 := ⟨_, _, rfl, by decide, mem_Tg 381 (by decide +kernel) rfl, rfl⟩
theorem fX10_176 : FLk RX10 176 9 2 := ⟨_, _, rfl, by decide, mem_Tg 382 (by decide +kernel) rfl⟩
theorem pX10_176 : FLp RX10 176 9 2 := ⟨_, _, rfl, by decide, mem_Tg 382 (by decide +kernel) rfl, rfl⟩
theorem fX9_61 : FLk RX9 61 9 3 := ⟨_, _, rfl, by decide, mem_Tg 383 (by decide +kernel) rfl⟩
theorem pX9_61 : FLp RX9 61 9 3 := ⟨_, _, rfl, by decide, mem_Tg 383 (by decide +kernel) rfl, rfl⟩
theorem fX0_84 : FLk RX0 84 9 3 := ⟨_, _, rfl, by decide, mem_Tg 384 (by decide +kernel) rfl⟩
theorem pX0_84 : FLp RX0 84 9 3 := ⟨_, _, rfl, by decide, mem_Tg 384 (by decide +kernel) rfl, rfl⟩
theorem fX10_179 : FLk RX10 179 9 3 := ⟨_, _, rfl, by decide, mem_Tg 385 (by decide +kernel) rfl⟩
theorem pX10_179 : FLp RX10 179 9 3 := ⟨_, _, rfl, by decide, mem_Tg 385 (by decide +kernel) rfl, rfl⟩
theorem fX9_64 : FLk RX9 64 9 4 := ⟨_, _, rfl, by decide, mem_Tg 386 (by decide +kernel) rfl⟩
theorem pX9_64 : FLp RX9 64 9 4 := ⟨_, _, rfl, by decide, mem_Tg 386 (by decide +kernel) rfl, rfl⟩
theorem fX9_67 : FLk RX9 67 9 5 := ⟨_, _, rfl, by decide, mem_Tg 387 (by decide +kernel) rfl⟩
theorem pX9_67 : FLp RX9 67 9 5 := ⟨_, _, rfl, by decide, mem_Tg 387 (by decide +kernel) rfl, rfl⟩
theorem fX5_30 : FLk RX5 30 9 5 := ⟨_, _, rfl, by decide, mem_Tg 388 (by decide +kernel) rfl⟩
theorem pX5_30 : FLp RX5 30 9 5 := ⟨_, _, rfl, by decide, mem_Tg 388 (by decide +kernel) rfl, rfl⟩
theorem fX7_55 : FLk RX7 55 9 5 := ⟨_, _, rfl, by decide, mem_Tg 389 (by decide +kernel) rfl⟩
theorem pX7_55 : FLp RX7 55 9 5 := ⟨_, _, rfl, by decide, mem_Tg 389 (by decide +kernel) rfl, rfl⟩
theorem fX10_96 : FLk RX10 96 9 5 := ⟨_, _, rfl, by decide, mem_Tg 390 (by decide +kernel) rfl⟩
theorem pX10_96 : FLp RX10 96 9 5 := ⟨_, _, rfl, by decide, mem_Tg 390 (by decide +kernel) rfl, rfl⟩
theorem fX7_45 : FLk RX7 45 9 6 := ⟨_, _, rfl, by decide, mem_Tg 391 (by decide +kernel) rfl⟩
theorem pX7_45 : FLp RX7 45 9 6 := ⟨_, _, rfl, by decide, mem_Tg 391 (by decide +kernel) rfl, rfl⟩
theorem fX9_70 : FLk RX9 70 9 6 := ⟨_, _, rfl, by decide, mem_Tg 392 (by decide +kernel) rfl⟩
theorem pX9_70 : FLp RX9 70 9 6 := ⟨_, _, rfl, by decide, mem_Tg 392 (by decide +kernel) rfl, rfl⟩
theorem fX5_33 : FLk RX5 33 9 6 := ⟨_, _, rfl, by decide, mem_Tg 393 (by decide +kernel) rfl⟩
theorem pX5_33 : FLp RX5 33 9 6 := ⟨_, _, rfl, by decide, mem_Tg 393 (by decide +kernel) rfl, rfl⟩
theorem fX10_303 : FLk RX10 303 9 6 := ⟨_, _, rfl, by decide, mem_Tg 394 (by decide +kernel) rfl⟩
theorem pX10_303 : FLp RX10 303 9 6 := ⟨_, _, rfl, by decide, mem_Tg 394 (by decide +kernel) rfl, rfl⟩
theorem fX9_9 : FLk RX9 9 9 7 := ⟨_, _, rfl, by decide, mem_Tg 395 (by decide +kernel) rfl⟩
theorem pX9_9 : FLp RX9 9 9 7 := ⟨_, _, rfl, by decide, mem_Tg 395 (by decide +kernel) rfl, rfl⟩
theorem fX10_296 : FLk RX10 296 9 7 := ⟨_, _, rfl, by decide, mem_Tg 396 (by decide +kernel) rfl⟩
theorem pX10_296 : FLp RX10 296 9 7 := ⟨_, _, rfl, by decide, mem_Tg 396 (by decide +kernel) rfl, rfl⟩
theorem fX9_15 : FLk RX9 15 9 8 := ⟨_, _, rfl, by decide, mem_Tg 397 (by decide +kernel) rfl⟩
theorem qX9_15 : FLf RX9 15 9 8 := ⟨_, _, rfl, by decide, mem_Tg 397 (by decide +kernel) rfl, rfl, rfl⟩
theorem fX5_18 : FLk RX5 18 9 8 := ⟨_, _, rfl, by decide, mem_Tg 398 (by decide +kernel) rfl⟩
theorem fX7_112 : FLk RX7 112 9 8 := ⟨_, _, rfl, by decide, mem_Tg 399 (by decide +kernel) rfl⟩
theorem fX10_169 : FLk RX10 169 9 8 := ⟨_, _, rfl, by decide, mem_Tg 400 (by decide +kernel) rfl⟩
theorem fX9_19 : FLk RX9 19 9 9 := ⟨_, _, rfl, by decide, mem_Tg 401 (by decide +kernel) rfl⟩
theorem qX9_19 : FLf RX9 19 9 9 := ⟨_, _, rfl, by decide, mem_Tg 401 (by decide +kernel) rfl, rfl, rfl⟩
theorem fX5_27 : FLk RX5 27 9 9 := ⟨_, _, rfl, by decide, mem_Tg 402 (by decide +kernel) rfl⟩
theorem fX10_182 : FLk RX10 182 9 9 := ⟨_, _, rfl, by decide, mem_Tg 403 (by decide +kernel) rfl⟩
theorem fX9_22 : FLk RX9 22 9 10 := ⟨_, _, rfl, by decide, mem_Tg 404 (by decide +kernel) rfl⟩
theorem qX9_22 : FLf RX9 22 9 10 := ⟨_, _, rfl, by decide, mem_Tg 404 (by decide +kernel) rfl, rfl, rfl⟩
theorem fX10_188 : FLk RX10 188 9 10 := ⟨_, _, rfl, by decide, mem_Tg 405 (by decide +kernel) rfl⟩
theorem fX9_25 : FLk RX9 25 9 11 := ⟨_, _, rfl, by decide, mem_Tg 406 (by decide +kernel) rfl⟩
theorem qX9_25 : FLf RX9 25 9 11 := ⟨_, _, rfl, by decide, mem_Tg 406 (by decide +kernel) rfl, rfl, rfl⟩
theorem fX10_191 : FLk RX10 191 9 11 := ⟨_, _, rfl, by decide, mem_Tg 407 (by decide +kernel) rfl⟩
theorem fX9_28 : FLk RX9 28 9 12 := ⟨_, _, rfl, by decide, mem_Tg 408 (by decide +kernel) rfl⟩
theorem qX9_28 : FLf RX9 28 9 12 := ⟨_, _, rfl, by decide, mem_Tg 408 (by decide +kernel) rfl, rfl, rfl⟩
theorem fX9_31 : FLk RX9 31 9 13 := ⟨_, _, rfl, by decide, mem_Tg 409 (by decide +kernel) rfl⟩
theorem qX9_31 : FLf RX9 31 9 13 := ⟨_, _, rfl, by decide, mem_Tg 409 (by decide +kernel) rfl, rfl, rfl⟩
theorem fX10_197 : FLk RX10 197 9 13 := ⟨_, _, rfl, by decide, mem_Tg 410 (by decide +kernel) rfl⟩
theorem fX9_34 : FLk RX9 34 9 14 := ⟨_, _, rfl, by decide, mem_Tg 411 (by decide +kernel) rfl⟩
theorem qX9_34 : FLf RX9 34 9 14 := ⟨_, _, rfl, by decide, mem_Tg 411 (by decide +kernel) rfl, rfl, rfl⟩
theorem fX10_200 : FLk RX10 200 9 14 := ⟨_, _, rfl, by decide, mem_Tg 412 (by decide +kernel) rfl⟩
theorem fX9_37 : FLk RX9 37 9 15 := ⟨_, _, rfl, by decide, mem_Tg 413 (by decide +kernel) rfl⟩
theorem qX9_37 : FLf RX9 37 9 15 := ⟨_, _, rfl, by decide, mem_Tg 413 (by decide +kernel) rfl, rfl, rfl⟩
theorem fX7_85 : FLk RX7 85 9 15 := ⟨_, _, rfl, by decide, mem_Tg 414 (by decide +kernel) rfl⟩
theorem fX10_203 : FLk RX10 203 9 15 := ⟨_, _, rfl, by decide, mem_Tg 415 (by decide +kernel) rfl⟩
theorem fX9_40 : FLk RX9 40 9 16 := ⟨_, _, rfl, by decide, mem_Tg 416 (by decide +kernel) rfl⟩
theorem qX9_40 : FLf RX9 40 9 16 := ⟨_, _, rfl, by decide, mem_Tg 416 (by decide +kernel) rfl, rfl, rfl⟩
theorem fX7_58 : FLk RX7 58 9 16 := ⟨_, _, rfl, by decide, mem_Tg 417 (by decide +kernel) rfl⟩
theorem fX10_194 : FLk RX10 194 9 16 := ⟨_, _, rfl, by decide, mem_Tg 418 (by decide +kernel) rfl⟩
theorem fX9_43 : FLk RX9 43 9 17 := ⟨_, _, rfl, by decide, mem_Tg 419 (by decide +kernel) rfl⟩
theorem qX9_43 : FLf RX9 43 9 17 := ⟨_, _, rfl, by decide, mem_Tg 419 (by decide +kernel) rfl, rfl, rfl⟩
theorem fX7_82 : FLk RX7 82 9 17 := ⟨_, _, rfl, by decide, mem_Tg 420 (by decide +kernel) rfl⟩
theorem fX10_206 : FLk RX10 206 9 17 := ⟨_, _, rfl, by decide, mem_Tg 421 (by decide +kernel) rfl⟩
theorem fX9_46 : FLk RX9 46 9 18 := ⟨_, _, rfl, by decide, mem_Tg 422 (by decide +kernel) rfl⟩
theorem qX9_46 : FLf RX9 46 9 18 := ⟨_, _, rfl, by decide, mem_Tg 422 (by decide +kernel) rfl, rfl, rfl⟩
theorem fX9_49 : FLk RX9 49 9 19 := ⟨_, _, rfl, by decide, mem_Tg 423 (by decide +kernel) rfl⟩
theorem qX9_49 : FLf RX9 49 9 19 := ⟨_, _, rfl, by decide, mem_Tg 423 (by decide +kernel) rfl, rfl, rfl⟩
theorem fX7_115 : FLk RX7 115 9 19 := ⟨_, _, rfl, by decide, mem_Tg 424 (by decide +kernel) rfl⟩
theorem fX10_212 : FLk RX10 212 9 19 := ⟨_, _, rfl, by decide, mem_Tg 425 (by decide +kernel) rfl⟩
theorem fX10_10 : FLk RX10 10 10 0 := ⟨_, _, rfl, by decide, mem_Tg 467 (by decide +kernel) rfl⟩
theorem qX10_10 : FLf RX10 10 10 0 := ⟨_, _, rfl, by decide, mem_Tg 467 (by decide +kernel) rfl, rfl, rfl⟩
theorem fX10_19 : FLk RX10 19 10 1 := ⟨_, _, rfl, by decide, mem_Tg 468 (by decide +kernel) rfl⟩
theorem qX10_19 : FLf RX10 19 10 1 := ⟨_, _, rfl, by decide, mem_Tg 468 (by decide +kernel) rfl, rfl, rfl⟩
theorem fX10_28 : FLk RX10 28 10 2 := ⟨_, _, rfl, by decide, mem_Tg 469 (by decide +kernel) rfl⟩
theorem qX10_28 : FLf RX10 28 10 2 := ⟨_, _, rfl, by decide, mem_Tg 469 (by decide +kernel) rfl, rfl, rfl⟩
theorem fX10_35 : FLk RX10 35 10 3 := ⟨_, _, rfl, by decide, mem_Tg 470 (by decide +kernel) rfl⟩
theorem qX10_35 : FLf RX10 35 10 3 := ⟨_, _, rfl, by decide, mem_Tg 470 (by decide +kernel) rfl, rfl, rfl⟩
theorem fX10_42 : FLk RX10 42 10 4 := ⟨_, _, rfl, by decide, mem_Tg 471 (by decide +kernel) rfl⟩
theorem qX10_42 : FLf RX10 42 10 4 := ⟨_, _, rfl, by decide, mem_Tg 471 (by decide +kernel) rfl, rfl, rfl⟩
theorem fX10_49 : FLk RX10 49 10 5 := ⟨_, _, rfl, by decide, mem_Tg 472 (by decide +kernel) rfl⟩
theorem qX10_49 : FLf RX10 49 10 5 := ⟨_, _, rfl, by decide, mem_Tg 472 (by decide +kernel) rfl, rfl, rfl⟩
theorem fX10_58 : FLk RX10 58 10 6 := ⟨_, _, rfl, by decide, mem_Tg 473 (by decide +kernel) rfl⟩
theorem qX10_58 : FLf RX10 58 10 6 := ⟨_, _, rfl, by decide, mem_Tg 473 (by decide +kernel) rfl, rfl, rfl⟩
theorem fX10_65 : FLk RX10 65 10 7 := ⟨_, _, rfl, by decide, mem_Tg 474 (by decide +kernel) rfl⟩
theorem qX10_65 : FLf RX10 65 10 7 := ⟨_, _, rfl, by decide, mem_Tg 474 (by decide +kernel) rfl, rfl, rfl⟩
theorem fX10_69 : FLk RX10 69 10 8 := ⟨_, _, rfl, by decide, mem_Tg 475 (by decide +kernel) rfl⟩
theorem qX10_69 : FLf RX10 69 10 8 := ⟨_, _, rfl, by decide, mem_Tg 475 (by decide +kernel) rfl, rfl, rfl⟩
theorem fX10_72 : FLk RX10 72 10 9 := ⟨_, _, rfl, by decide, mem_Tg 476 (by decide +kernel) rfl⟩
theorem qX10_72 : FLf RX10 72 10 9 := ⟨_, _, rfl, by decide, mem_Tg 476 (by decide +kernel) rfl, rfl, rfl⟩
theorem fX10_299 : FLk RX10 299 10 10 := ⟨_, _, rfl, by decide, mem_Tg 477 (by decide +kernel) rfl⟩
theorem pX10_299 : FLp RX10 299 10 10 := ⟨_, _, rfl, by decide, mem_Tg 477 (by decide +kernel) rfl, rfl⟩
theorem fX11_7 : FLk RX11 7 11 0 := ⟨_, _, rfl, by decide, mem_Tg 1145 (by decide +kernel) rfl⟩
theorem qX11_7 : FLf RX11 7 11 0 := ⟨_, _, rfl, by decide, mem_Tg 1145 (by decide +kernel) rfl, rfl, rfl⟩
theorem fX11_13 : FLk RX11 13 11 1 := ⟨_, _, rfl, by decide, mem_Tg 1146 (by decide +kernel) rfl⟩
theorem qX11_13 : FLf RX11 13 11 1 := ⟨_, _, rfl, by decide, mem_Tg 1146 (by decide +kernel) rfl, rfl, rfl⟩
theorem fX11_16 : FLk RX11 16 11 2 := ⟨_, _, rfl, by decide, mem_Tg 1147 (by decide +kernel) rfl⟩
theorem qX11_16 : FLf RX11 16 11 2 := ⟨_, _, rfl, by decide, mem_Tg 1147 (by decide +kernel) rfl, rfl, rfl⟩
theorem fX11_19 : FLk RX11 19 11 3 := ⟨_, _, rfl, by decide, mem_Tg 1148 (by decide +kernel) rfl⟩
theorem qX11_19 : FLf RX11 19 11 3 := ⟨_, _, rfl, by decide, mem_Tg 1148 (by decide +kernel) rfl, rfl, rfl⟩
theorem fX11_104 : FLk RX11 104 11 4 := ⟨_, _, rfl, by decide, mem_Tg 1149 (by decide +kernel) rfl⟩
theorem pX11_104 : FLp RX11 104 11 4 := ⟨_, _, rfl, by decide, mem_Tg 1149 (by decide +kernel) rfl, rfl⟩
theorem fX11_108 : FLk RX11 108 11 5 := ⟨_, _, rfl, by decide, mem_Tg 1150 (by decide +kernel) rfl⟩
theorem pX11_108 : FLp RX11 108 11 5 := ⟨_, _, rfl, by decide, mem_Tg 1150 (by decide +kernel) rfl, rfl⟩
theorem fX11_22 : FLk RX11 22 11 6 := ⟨_, _, rfl, by decide, mem_Tg 1151 (by decide +kernel) rfl⟩
theorem qX11_22 : FLf RX11 22 11 6 := ⟨_, _, rfl, by decide, mem_Tg 1151 (by decide +kernel) rfl, rfl, rfl⟩
theorem fX11_25 : FLk RX11 25 11 7 := ⟨_, _, rfl, by decide, mem_Tg 1152 (by decide +kernel) rfl⟩
theorem qX11_25 : FLf RX11 25 11 7 := ⟨_, _, rfl, by decide, mem_Tg 1152 (by decide +kernel) rfl, rfl, rfl⟩
theorem fX11_28 : FLk RX11 28 11 8 := ⟨_, _, rfl, by decide, mem_Tg 1153 (by decide +kernel) rfl⟩
theorem qX11_28 : FLf RX11 28 11 8 := ⟨_, _, rfl, by decide, mem_Tg 1153 (by decide +kernel) rfl, rfl, rfl⟩
theorem fX11_31 : FLk RX11 31 11 9 := ⟨_, _, rfl, by decide, mem_Tg 1154 (by decide +kernel) rfl⟩
theorem qX11_31 : FLf RX11 31 11 9 := ⟨_, _, rfl, by decide, mem_Tg 1154 (by decide +kernel) rfl, rfl, rfl⟩
theorem fX11_146 : FLk RX11 146 11 10 := ⟨_, _, rfl, by decide, mem_Tg 1155 (by decide +kernel) rfl⟩
theorem pX11_146 : FLp RX11 146 11 10 := ⟨_, _, rfl, by decide, mem_Tg 1155 (by decide +kernel) rfl, rfl⟩
theorem fX11_152 : FLk RX11 152 11 11 := ⟨_, _, rfl, by decide, mem_Tg 1156 (by decide +kernel) rfl⟩
theorem pX11_152 : FLp RX11 152 11 11 := ⟨_, _, rfl, by decide, mem_Tg 1156 (by decide +kernel) rfl, rfl⟩
theorem fX11_155 : FLk RX11 155 11 12 := ⟨_, _, rfl, by decide, mem_Tg 1157 (by decide +kernel) rfl⟩
theorem pX11_155 : FLp RX11 155 11 12 := ⟨_, _, rfl, by decide, mem_Tg 1157 (by decide +kernel) rfl, rfl⟩
theorem fX11_162 : FLk RX11 162 11 13 := ⟨_, _, rfl, by decide, mem_Tg 1158 (by decide +kernel) rfl⟩
theorem pX11_162 : FLp RX11 162 11 13 := ⟨_, _, rfl, by decide, mem_Tg 1158 (by decide +kernel) rfl, rfl⟩
theorem fX11_168 : FLk RX11 168 11 14 := ⟨_, _, rfl, by decide, mem_Tg 1159 (by decide +kernel) rfl⟩
theorem pX11_168 : FLp RX11 168 11 14 := ⟨_, _, rfl, by decide, mem_Tg 1159 (by decide +kernel) rfl, rfl⟩
theorem fX11_179 : FLk RX11 179 11 15 := ⟨_, _, rfl, by decide, mem_Tg 1160 (by decide +kernel) rfl⟩
theorem pX11_179 : FLp RX11 179 11 15 := ⟨_, _, rfl, by decide, mem_Tg 1160 (by decide +kernel) rfl, rfl⟩
theorem fX11_175 : FLk RX11 175 11 16 := ⟨_, _, rfl, by decide, mem_Tg 1161 (by decide +kernel) rfl⟩
theorem pX11_175 : FLp RX11 175 11 16 := ⟨_, _, rfl, by decide, mem_Tg 1161 (by decide +kernel) rfl, rfl⟩
theorem fX11_182 : FLk RX11 182 11 17 := ⟨_, _, rfl, by decide, mem_Tg 1162 (by decide +kernel) rfl⟩
theorem pX11_182 : FLp RX11 182 11 17 := ⟨_, _, rfl, by decide, mem_Tg 1162 (by decide +kernel) rfl, rfl⟩
theorem fX11_229 : FLk RX11 229 11 18 := ⟨_, _, rfl, by decide, mem_Tg 1163 (by decide +kernel) rfl⟩
theorem pX11_229 : FLp RX11 229 11 18 := ⟨_, _, rfl, by decide, mem_Tg 1163 (by decide +kernel) rfl, rfl⟩
theorem fX11_244 : FLk RX11 244 11 19 := ⟨_, _, rfl, by decide, mem_Tg 1164 (by decide +kernel) rfl⟩
theorem pX11_244 : FLp RX11 244 11 19 := ⟨_, _, rfl, by decide, mem_Tg 1164 (by decide +kernel) rfl, rfl⟩
theorem fX11_35 : FLk RX11 35 11 20 := ⟨_, _, rfl, by decide, mem_Tg 1165 (by decide +kernel) rfl⟩
theorem qX11_35 : FLf RX11 35 11 20 := ⟨_, _, rfl, by decide, mem_Tg 1165 (by decide +kernel) rfl, rfl, rfl⟩
theorem fX11_38 : FLk RX11 38 11 21 := ⟨_, _, rfl, by decide, mem_Tg 1166 (by decide +kernel) rfl⟩
theorem qX11_38 : FLf RX11 38 11 21 := ⟨_, _, rfl, by decide, mem_Tg 1166 (by decide +kernel) rfl, rfl, rfl⟩
theorem fX11_41 : FLk RX11 41 11 22 := ⟨_, _, rfl, by decide, mem_Tg 1167 (by decide +kernel) rfl⟩
theorem qX11_41 : FLf RX11 41 11 22 := ⟨_, _, rfl, by decide, mem_Tg 1167 (by decide +kernel) rfl, rfl, rfl⟩
theorem fX11_44 : FLk RX11 44 11 23 := ⟨_, _, rfl, by decide, mem_Tg 1168 (by decide +kernel) rfl⟩
theorem qX11_44 : FLf RX11 44 11 23 := ⟨_, _, rfl, by decide, mem_Tg 1168 (by decide +kernel) rfl, rfl, rfl⟩
theorem fX11_47 : FLk RX11 47 11 24 := ⟨_, _, rfl, by decide, mem_Tg 1169 (by decide +kernel) rfl⟩
theorem qX11_47 : FLf RX11 47 11 24 := ⟨_, _, rfl, by decide, mem_Tg 1169 (by decide +kernel) rfl, rfl, rfl⟩
theorem fX11_50 : FLk RX11 50 11 25 := ⟨_, _, rfl, by decide, mem_Tg 1170 (by decide +kernel) rfl⟩
theorem qX11_50 : FLf RX11 50 11 25 := ⟨_, _, rfl, by decide, mem_Tg 1170 (by decide +kernel) rfl, rfl, rfl⟩
theorem fX11_53 : FLk RX11 53 11 26 := ⟨_, _, rfl, by decide, mem_Tg 1171 (by decide +kernel) rfl⟩
theorem qX11_53 : FLf RX11 53 11 26 := ⟨_, _, rfl, by decide, mem_Tg 1171 (by decide +kernel) rfl, rfl, rfl⟩
theorem fX11_56 : FLk RX11 56 11 27 := ⟨_, _, rfl, by decide, mem_Tg 1172 (by decide +kernel) rfl⟩
theorem qX11_56 : FLf RX11 56 11 27 := ⟨_, _, rfl, by decide, mem_Tg 1172 (by decide +kernel) rfl, rfl, rfl⟩
theorem fX11_59 : FLk RX11 59 11 28 := ⟨_, _, rfl, by decide, mem_Tg 1173 (by decide +kernel) rfl⟩
theorem qX11_59 : FLf RX11 59 11 28 := ⟨_, _, rfl, by decide, mem_Tg 1173 (by decide +kernel) rfl, rfl, rfl⟩
theorem fX11_62 : FLk RX11 62 11 29 := ⟨_, _, rfl, by decide, mem_Tg 1174 (by decide +kernel) rfl⟩
theorem qX11_62 : FLf RX11 62 11 29 := ⟨_, _, rfl, by decide, mem_Tg 1174 (by decide +kernel) rfl, rfl, rfl⟩
theorem fX11_65 : FLk RX11 65 11 30 := ⟨_, _, rfl, by decide, mem_Tg 1175 (by decide +kernel) rfl⟩
theorem qX11_65 : FLf RX11 65 11 30 := ⟨_, _, rfl, by decide, mem_Tg 1175 (by decide +kernel) rfl, rfl, rfl⟩
theorem fX11_68 : FLk RX11 68 11 31 := ⟨_, _, rfl, by decide, mem_Tg 1176 (by decide +kernel) rfl⟩
theorem qX11_68 : FLf RX11 68 11 31 := ⟨_, _, rfl, by decide, mem_Tg 1176 (by decide +kernel) rfl, rfl, rfl⟩
theorem fX11_71 : FLk RX11 71 11 32 := ⟨_, _, rfl, by decide, mem_Tg 1177 (by decide +kernel) rfl⟩
theorem qX11_71 : FLf RX11 71 11 32 := ⟨_, _, rfl, by decide, mem_Tg 1177 (by decide +kernel) rfl, rfl, rfl⟩
theorem fX11_260 : FLk RX11 260 11 33 := ⟨_, _, rfl, by decide, mem_Tg 1178 (by decide +kernel) rfl⟩
theorem pX11_260 : FLp RX11 260 11 33 := ⟨_, _, rfl, by decide, mem_Tg 1178 (by decide +kernel) rfl, rfl⟩
theorem fX11_294 : FLk RX11 294 11 34 := ⟨_, _, rfl, by decide, mem_Tg 1179 (by decide +kernel) rfl⟩
theorem pX11_294 : FLp RX11 294 11 34 := ⟨_, _, rfl, by decide, mem_Tg 1179 (by decide +kernel) rfl, rfl⟩
theorem fX11_282 : FLk RX11 282 11 35 := ⟨_, _, rfl, by decide, mem_Tg 1180 (by decide +kernel) rfl⟩
theorem pX11_282 : FLp RX11 282 11 35 := ⟨_, _, rfl, by decide, mem_Tg 1180 (by decide +kernel) rfl, rfl⟩
theorem fX11_301 : FLk RX11 301 11 36 := ⟨_, _, rfl, by decide, mem_Tg 1181 (by decide +kernel) rfl⟩
theorem pX11_301 : FLp RX11 301 11 36 := ⟨_, _, rfl, by decide, mem_Tg 1181 (by decide +kernel) rfl, rfl⟩
theorem fX11_74 : FLk RX11 74 11 37 := ⟨_, _, rfl, by decide, mem_Tg 1182 (by decide +kernel) rfl⟩
theorem qX11_74 : FLf RX11 74 11 37 := ⟨_, _, rfl, by decide, mem_Tg 1182 (by decide +kernel) rfl, rfl, rfl⟩
theorem fX11_77 : FLk RX11 77 11 38 := ⟨_, _, rfl, by decide, mem_Tg 1183 (by decide +kernel) rfl⟩
theorem qX11_77 : FLf RX11 77 11 38 := ⟨_, _, rfl, by decide, mem_Tg 1183 (by decide +kernel) rfl, rfl, rfl⟩
theorem fX11_80 : FLk RX11 80 11 39 := ⟨_, _, rfl, by decide, mem_Tg 1184 (by decide +kernel) rfl⟩
theorem qX11_80 : FLf RX11 80 11 39 := ⟨_, _, rfl, by decide, mem_Tg 1184 (by decide +kernel) rfl, rfl, rfl⟩
theorem fX11_83 : FLk RX11 83 11 40 := ⟨_, _, rfl, by decide, mem_Tg 1185 (by decide +kernel) rfl⟩
theorem qX11_83 : FLf RX11 83 11 40 := ⟨_, _, rfl, by decide, mem_Tg 1185 (by decide +kernel) rfl, rfl, rfl⟩
theorem fX11_86 : FLk RX11 86 11 41 := ⟨_, _, rfl, by decide, mem_Tg 1186 (by decide +kernel) rfl⟩
theorem qX11_86 : FLf RX11 86 11 41 := ⟨_, _, rfl, by decide, mem_Tg 1186 (by decide +kernel) rfl, rfl, rfl⟩
theorem fX11_89 : FLk RX11 89 11 42 := ⟨_, _, rfl, by decide, mem_Tg 1187 (by decide +kernel) rfl⟩
theorem qX11_89 : FLf RX11 89 11 42 := ⟨_, _, rfl, by decide, mem_Tg 1187 (by decide +kernel) rfl, rfl, rfl⟩
theorem fX11_92 : FLk RX11 92 11 43 := ⟨_, _, rfl, by decide, mem_Tg 1188 (by decide +kernel) rfl⟩
theorem qX11_92 : FLf RX11 92 11 43 := ⟨_, _, rfl, by decide, mem_Tg 1188 (by decide +kernel) rfl, rfl, rfl⟩
theorem fX11_95 : FLk RX11 95 11 44 := ⟨_, _, rfl, by decide, mem_Tg 1189 (by decide +kernel) rfl⟩
theorem qX11_95 : FLf RX11 95 11 44 := ⟨_, _, rfl, by decide, mem_Tg 1189 (by decide +kernel) rfl, rfl, rfl⟩
theorem fX11_98 : FLk RX11 98 11 45 := ⟨_, _, rfl, by decide, mem_Tg 1190 (by decide +kernel) rfl⟩
theorem qX11_98 : FLf RX11 98 11 45 := ⟨_, _, rfl, by decide, mem_Tg 1190 (by decide +kernel) rfl, rfl, rfl⟩
theorem fX11_101 : FLk RX11 101 11 46 := ⟨_, _, rfl, by decide, mem_Tg 1191 (by decide +kernel) rfl⟩
theorem qX11_101 : FLf RX11 101 11 46 := ⟨_, _, rfl, by decide, mem_Tg 1191 (by decide +kernel) rfl, rfl, rfl⟩
theorem fX11_389 : FLk RX11 389 11 47 := ⟨_, _, rfl, by decide, mem_Tg 1192 (by decide +kernel) rfl⟩
theorem pX11_389 : FLp RX11 389 11 47 := ⟨_, _, rfl, by decide, mem_Tg 1192 (by decide +kernel) rfl, rfl⟩
theorem lL_9 : Cond.methodLink RL 9 yX10_init ∈ Tg := mem_Tg 116 (by decide +kernel) rfl
theorem lX10_1 : Cond.methodLink RX10 1 Lib.objectInit ∈ Tg := mem_Tg 119 (by decide +kernel) rfl
theorem lX8_3 : Cond.methodLink RX8 3 Lib.objectInit ∈ Tg := mem_Tg 127 (by decide +kernel) rfl
theorem lX3_3 : Cond.methodLink RX3 3 Lib.objectInit ∈ Tg := mem_Tg 162 (by decide +kernel) rfl
theorem lX10_25 : Cond.methodLink RX10 25 yX4_init ∈ Tg := mem_Tg 190 (by decide +kernel) rfl
theorem lX4_3 : Cond.methodLink RX4 3 Lib.objectInit ∈ Tg := mem_Tg 193 (by decide +kernel) rfl
theorem lX10_34 : Cond.methodLink RX10 34 yX6_init ∈ Tg := mem_Tg 207 (by decide +kernel) rfl
theorem lX6_3 : Cond.methodLink RX6 3 Lib.objectInit ∈ Tg := mem_Tg 210 (by decide +kernel) rfl
theorem lX10_41 : Cond.methodLink RX10 41 yX0_init ∈ Tg := mem_Tg 232 (by decide +kernel) rfl
theorem lX0_3 : Cond.methodLink RX0 3 Lib.objectInit ∈ Tg := mem_Tg 235 (by decide +kernel) rfl
theorem lX10_48 : Cond.methodLink RX10 48 yX2_init ∈ Tg := mem_Tg 254 (by decide +kernel) rfl
theorem lX2_3 : Cond.methodLink RX2 3 Lib.objectInit ∈ Tg := mem_Tg 257 (by decide +kernel) rfl
theorem lX1_3 : Cond.methodLink RX1 3 Lib.objectInit ∈ Tg := mem_Tg 263 (by decide +kernel) rfl
theorem lX10_55 : Cond.methodLink RX10 55 yX7_init ∈ Tg := mem_Tg 312 (by decide +kernel) rfl
theorem lX7_3 : Cond.methodLink RX7 3 Lib.objectInit ∈ Tg := mem_Tg 315 (by decide +kernel) rfl
theorem lX5_3 : Cond.methodLink RX5 3 Lib.objectInit ∈ Tg := mem_Tg 321 (by decide +kernel) rfl
theorem lX9_3 : Cond.methodLink RX9 3 Lib.objectInit ∈ Tg := mem_Tg 370 (by decide +kernel) rfl
theorem lL_13 : Cond.methodLink RL 13 yX10_trunk ∈ Tg := mem_Tg 501 (by decide +kernel) rfl
theorem lX10_75 : Cond.methodLink RX10 75 yX10_areTwo ∈ Tg := mem_Tg 505 (by decide +kernel) rfl
theorem lX10_87 : Cond.methodLink RX10 87 yX10_isExchange ∈ Tg := mem_Tg 508 (by decide +kernel) rfl
theorem lX10_79 : Cond.methodLink RX10 79 yX10_within ∈ Tg := mem_Tg 511 (by decide +kernel) rfl
theorem lX10_83 : Cond.methodLink RX10 83 yX3_lay ∈ Tg := mem_Tg 514 (by decide +kernel) rfl
theorem lL_18 : Cond.methodLink RL 18 yX10_subscriber ∈ Tg := mem_Tg 518 (by decide +kernel) rfl
theorem lX10_91 : Cond.methodLink RX10 91 yX9_enter ∈ Tg := mem_Tg 522 (by decide +kernel) rfl
theorem lX9_93 : Cond.methodLink RX9 93 yX9_endCallOf ∈ Tg := mem_Tg 526 (by decide +kernel) rfl
theorem lX9_112 : Cond.methodLink RX9 112 yX9_endCallAt ∈ Tg := mem_Tg 530 (by decide +kernel) rfl
theorem lX9_108 : Cond.methodLink RX9 108 yX9_addUsed ∈ Tg := mem_Tg 534 (by decide +kernel) rfl
theorem lL_23 : Cond.methodLink RL 23 yX10_fund ∈ Tg := mem_Tg 538 (by decide +kernel) rfl
theorem lL_28 : Cond.methodLink RL 28 yX10_rate ∈ Tg := mem_Tg 543 (by decide +kernel) rfl
theorem lL_33 : Cond.methodLink RL 33 yX10_feed ∈ Tg := mem_Tg 547 (by decide +kernel) rfl
theorem lX10_106 : Cond.methodLink RX10 106 yX8_hasRoom ∈ Tg := mem_Tg 551 (by decide +kernel) rfl
theorem lX10_110 : Cond.methodLink RX10 110 yX8_add ∈ Tg := mem_Tg 555 (by decide +kernel) rfl
theorem lL_38 : Cond.methodLink RL 38 yX10_law ∈ Tg := mem_Tg 559 (by decide +kernel) rfl
theorem lX10_117 : Cond.methodLink RX10 117 yX8_take ∈ Tg := mem_Tg 563 (by decide +kernel) rfl
theorem lX10_120 : Cond.methodLink RX10 120 yX2_readLaw ∈ Tg := mem_Tg 567 (by decide +kernel) rfl
theorem lX2_29 : Cond.methodLink RX2 29 yX2_readRule ∈ Tg := mem_Tg 571 (by decide +kernel) rfl
theorem lX2_38 : Cond.methodLink RX2 38 yX8_sign ∈ Tg := mem_Tg 575 (by decide +kernel) rfl
theorem lX8_28 : Cond.methodLink RX8 28 yX8_at ∈ Tg := mem_Tg 579 (by decide +kernel) rfl
theorem lX2_45 : Cond.methodLink RX2 45 yX8_fails ∈ Tg := mem_Tg 583 (by decide +kernel) rfl
theorem lX2_58 : Cond.methodLink RX2 58 yX2_readSum ∈ Tg := mem_Tg 587 (by decide +kernel) rfl
theorem lX2_90 : Cond.methodLink RX2 90 yX2_readProduct ∈ Tg := mem_Tg 591 (by decide +kernel) rfl
theorem lX2_93 : Cond.methodLink RX2 93 yX2_readFactor ∈ Tg := mem_Tg 595 (by decide +kernel) rfl
theorem lX2_42 : Cond.methodLink RX2 42 yX8_passes ∈ Tg := mem_Tg 599 (by decide +kernel) rfl
theorem lX8_32 : Cond.methodLink RX8 32 yX8_fails ∈ Tg := mem_Tg 603 (by decide +kernel) rfl
theorem lX2_101 : Cond.methodLink RX2 101 yJ0_indexOf_0f7a4 ∈ Tg := mem_Tg 605 (by decide +kernel) rfl
theorem lX2_80 : Cond.methodLink RX2 80 yX1_put ∈ Tg := mem_Tg 691 (by decide +kernel) rfl
theorem lX2_107 : Cond.methodLink RX2 107 yX8_readNumber ∈ Tg := mem_Tg 695 (by decide +kernel) rfl
theorem lX2_96 : Cond.methodLink RX2 96 yX2_isTimes ∈ Tg := mem_Tg 702 (by decide +kernel) rfl
theorem lX2_64 : Cond.methodLink RX2 64 yX2_readBracket ∈ Tg := mem_Tg 705 (by decide +kernel) rfl
theorem lX2_70 : Cond.methodLink RX2 70 yX2_readCondition ∈ Tg := mem_Tg 709 (by decide +kernel) rfl
theorem lX2_73 : Cond.methodLink RX2 73 yX2_readPart ∈ Tg := mem_Tg 713 (by decide +kernel) rfl
theorem lX2_84 : Cond.methodLink RX2 84 yX2_readTest ∈ Tg := mem_Tg 717 (by decide +kernel) rfl
theorem lX2_87 : Cond.methodLink RX2 87 yX2_readComparison ∈ Tg := mem_Tg 721 (by decide +kernel) rfl
theorem lX2_76 : Cond.methodLink RX2 76 yX1_land ∈ Tg := mem_Tg 725 (by decide +kernel) rfl
theorem lL_43 : Cond.methodLink RL 43 yX10_bill ∈ Tg := mem_Tg 730 (by decide +kernel) rfl
theorem lX10_132 : Cond.methodLink RX10 132 yX0_readLines ∈ Tg := mem_Tg 734 (by decide +kernel) rfl
theorem lX0_25 : Cond.methodLink RX0 25 yX0_readWhose ∈ Tg := mem_Tg 738 (by decide +kernel) rfl
theorem lX0_42 : Cond.methodLink RX0 42 yX8_sign ∈ Tg := mem_Tg 742 (by decide +kernel) rfl
theorem lX0_52 : Cond.methodLink RX0 52 yX8_fails ∈ Tg := mem_Tg 744 (by decide +kernel) rfl
theorem lX0_29 : Cond.methodLink RX0 29 yX0_readWhat ∈ Tg := mem_Tg 745 (by decide +kernel) rfl
theorem lX0_58 : Cond.methodLink RX0 58 yX8_readNumber ∈ Tg := mem_Tg 749 (by decide +kernel) rfl
theorem lX0_45 : Cond.methodLink RX0 45 yX8_passes ∈ Tg := mem_Tg 750 (by decide +kernel) rfl
theorem lX10_136 : Cond.methodLink RX10 136 yX0_settle ∈ Tg := mem_Tg 751 (by decide +kernel) rfl
theorem lX0_65 : Cond.methodLink RX0 65 yX9_addFund ∈ Tg := mem_Tg 755 (by decide +kernel) rfl
theorem lX10_317 : Cond.methodLink RX10 317 Lib.Math.min.name ∈ Tg := mem_Tg 763 (by decide +kernel) rfl
theorem lX10_215 : Cond.methodLink RX10 215 Lib.Math.max.name ∈ Tg := mem_Tg 764 (by decide +kernel) rfl
theorem lX0_71 : Cond.methodLink RX0 71 yX0_settleLine ∈ Tg := mem_Tg 765 (by decide +kernel) rfl
theorem lX0_75 : Cond.methodLink RX0 75 yX9_cutOffNow ∈ Tg := mem_Tg 769 (by decide +kernel) rfl
theorem lX0_87 : Cond.methodLink RX0 87 yX9_addArrears ∈ Tg := mem_Tg 773 (by decide +kernel) rfl
theorem lL_47 : Cond.methodLink RL 47 yX10_code ∈ Tg := mem_Tg 777 (by decide +kernel) rfl
theorem lX10_140 : Cond.methodLink RX10 140 yX4_load ∈ Tg := mem_Tg 781 (by decide +kernel) rfl
theorem lX4_22 : Cond.methodLink RX4 22 yX8_holdsOnly ∈ Tg := mem_Tg 785 (by decide +kernel) rfl
theorem lX4_32 : Cond.methodLink RX4 32 yX8_at ∈ Tg := mem_Tg 790 (by decide +kernel) rfl
theorem lL_52 : Cond.methodLink RL 52 yX10_minutes ∈ Tg := mem_Tg 791 (by decide +kernel) rfl
theorem lX10_144 : Cond.methodLink RX10 144 yX7_run ∈ Tg := mem_Tg 795 (by decide +kernel) rfl
theorem lX7_51 : Cond.methodLink RX7 51 yX7_goBy ∈ Tg := mem_Tg 800 (by decide +kernel) rfl
theorem lX7_62 : Cond.methodLink RX7 62 yX7_charge ∈ Tg := mem_Tg 804 (by decide +kernel) rfl
theorem lX7_91 : Cond.methodLink RX7 91 yX9_addFund ∈ Tg := mem_Tg 808 (by decide +kernel) rfl
theorem lX7_95 : Cond.methodLink RX7 95 yX9_addArrears ∈ Tg := mem_Tg 809 (by decide +kernel) rfl
theorem lX7_99 : Cond.methodLink RX7 99 yX9_endCallAt ∈ Tg := mem_Tg 810 (by decide +kernel) rfl
theorem lX7_66 : Cond.methodLink RX7 66 yX9_free ∈ Tg := mem_Tg 811 (by decide +kernel) rfl
theorem lX7_70 : Cond.methodLink RX7 70 yX7_mayRing ∈ Tg := mem_Tg 815 (by decide +kernel) rfl
theorem lX7_102 : Cond.methodLink RX7 102 yX5_lookAt ∈ Tg := mem_Tg 819 (by decide +kernel) rfl
theorem lX7_105 : Cond.methodLink RX7 105 yX5_valueOf ∈ Tg := mem_Tg 823 (by decide +kernel) rfl
theorem lX5_36 : Cond.methodLink RX5 36 yX5_firstHolding ∈ Tg := mem_Tg 827 (by decide +kernel) rfl
theorem lX5_48 : Cond.methodLink RX5 48 yX5_reckon ∈ Tg := mem_Tg 831 (by decide +kernel) rfl
theorem lX5_75 : Cond.methodLink RX5 75 Lib.Math.max.name ∈ Tg := mem_Tg 835 (by decide +kernel) rfl
theorem lX5_80 : Cond.methodLink RX5 80 yX5_join ∈ Tg := mem_Tg 836 (by decide +kernel) rfl
theorem lX7_109 : Cond.methodLink RX7 109 yX9_draw ∈ Tg := mem_Tg 841 (by decide +kernel) rfl
theorem lX7_118 : Cond.methodLink RX7 118 yX3_findRoute ∈ Tg := mem_Tg 846 (by decide +kernel) rfl
theorem lX3_33 : Cond.methodLink RX3 33 yX3_leaveRoom ∈ Tg := mem_Tg 850 (by decide +kernel) rfl
theorem lX3_37 : Cond.methodLink RX3 37 yX3_spread ∈ Tg := mem_Tg 855 (by decide +kernel) rfl
theorem lX3_41 : Cond.methodLink RX3 41 yX3_nearer ∈ Tg := mem_Tg 859 (by decide +kernel) rfl
theorem lX7_124 : Cond.methodLink RX7 124 yX9_lowestFreePlace ∈ Tg := mem_Tg 863 (by decide +kernel) rfl
theorem lX7_127 : Cond.methodLink RX7 127 yX5_lookAtCall ∈ Tg := mem_Tg 867 (by decide +kernel) rfl
theorem lX7_131 : Cond.methodLink RX7 131 yX5_firstHolding ∈ Tg := mem_Tg 871 (by decide +kernel) rfl
theorem lX7_135 : Cond.methodLink RX7 135 yX9_begin ∈ Tg := mem_Tg 872 (by decide +kernel) rfl
theorem lX9_103 : Cond.methodLink RX9 103 Lib.Math.min.name ∈ Tg := mem_Tg 876 (by decide +kernel) rfl
theorem lX7_142 : Cond.methodLink RX7 142 yX9_seize ∈ Tg := mem_Tg 877 (by decide +kernel) rfl
theorem lX9_73 : Cond.methodLink RX9 73 arraycopyName ∈ Tg := mem_Tg 881 (by decide +kernel) rfl
theorem lX7_79 : Cond.methodLink RX7 79 yX7_mayStop ∈ Tg := mem_Tg 884 (by decide +kernel) rfl
theorem lX7_146 : Cond.methodLink RX7 146 yX9_cutOffNow ∈ Tg := mem_Tg 888 (by decide +kernel) rfl
theorem lL_56 : Cond.methodLink RL 56 yX10_tried ∈ Tg := mem_Tg 889 (by decide +kernel) rfl
theorem lX10_151 : Cond.methodLink RX10 151 yX9_isTold ∈ Tg := mem_Tg 893 (by decide +kernel) rfl
theorem lX10_154 : Cond.methodLink RX10 154 yX9_copyFrom ∈ Tg := mem_Tg 898 (by decide +kernel) rfl
theorem lX10_163 : Cond.methodLink RX10 163 yX9_calls ∈ Tg := mem_Tg 902 (by decide +kernel) rfl
theorem lX9_83 : Cond.methodLink RX9 83 yJ6_bitCount_0f7a4 ∈ Tg := mem_Tg 906 (by decide +kernel) rfl
theorem lX10_166 : Cond.methodLink RX10 166 yX9_arrearsOf ∈ Tg := mem_Tg 912 (by decide +kernel) rfl
theorem lX9_89 : Cond.methodLink RX9 89 yX9_isTold ∈ Tg := mem_Tg 916 (by decide +kernel) rfl
theorem lL_60 : Cond.methodLink RL 60 yX10_subscriberIs ∈ Tg := mem_Tg 917 (by decide +kernel) rfl
theorem lX10_185 : Cond.methodLink RX10 185 yX9_partnerOf ∈ Tg := mem_Tg 921 (by decide +kernel) rfl
theorem lL_64 : Cond.methodLink RL 64 yX10_callIs ∈ Tg := mem_Tg 925 (by decide +kernel) rfl
theorem lL_68 : Cond.methodLink RL 68 yX10_circuits ∈ Tg := mem_Tg 929 (by decide +kernel) rfl
theorem lL_73 : Cond.methodLink RL 73 yX10_route ∈ Tg := mem_Tg 933 (by decide +kernel) rfl
theorem lX10_220 : Cond.methodLink RX10 220 yX3_findRoute ∈ Tg := mem_Tg 937 (by decide +kernel) rfl
theorem lL_77 : Cond.methodLink RL 77 yX10_fundLasts ∈ Tg := mem_Tg 938 (by decide +kernel) rfl
theorem lX10_227 : Cond.methodLink RX10 227 yX7_minutesTillPoor ∈ Tg := mem_Tg 942 (by decide +kernel) rfl
theorem lL_81 : Cond.methodLink RL 81 yX10_atOnce ∈ Tg := mem_Tg 946 (by decide +kernel) rfl
theorem lX10_231 : Cond.methodLink RX10 231 yX3_flow ∈ Tg := mem_Tg 950 (by decide +kernel) rfl
theorem lX3_44 : Cond.methodLink RX3 44 yX3_push ∈ Tg := mem_Tg 954 (by decide +kernel) rfl
theorem lX3_56 : Cond.methodLink RX3 56 Lib.Math.min.name ∈ Tg := mem_Tg 958 (by decide +kernel) rfl
theorem lL_85 : Cond.methodLink RL 85 yX10_stops ∈ Tg := mem_Tg 959 (by decide +kernel) rfl
theorem lL_89 : Cond.methodLink RL 89 yX10_inTheMiddle ∈ Tg := mem_Tg 963 (by decide +kernel) rfl
theorem lX10_235 : Cond.methodLink RX10 235 yX3_middle ∈ Tg := mem_Tg 967 (by decide +kernel) rfl
theorem lX3_47 : Cond.methodLink RX3 47 Lib.Math.max.name ∈ Tg := mem_Tg 971 (by decide +kernel) rfl
theorem lL_94 : Cond.methodLink RL 94 yX10_cut ∈ Tg := mem_Tg 972 (by decide +kernel) rfl
theorem lX10_238 : Cond.methodLink RX10 238 yX6_savedMost ∈ Tg := mem_Tg 976 (by decide +kernel) rfl
theorem lX6_37 : Cond.methodLink RX6 37 yX6_readSteps ∈ Tg := mem_Tg 980 (by decide +kernel) rfl
theorem lX6_31 : Cond.methodLink RX6 31 yX8_at ∈ Tg := mem_Tg 984 (by decide +kernel) rfl
theorem lX6_41 : Cond.methodLink RX6 41 yX6_lowestOf ∈ Tg := mem_Tg 985 (by decide +kernel) rfl
theorem lL_98 : Cond.methodLink RL 98 yX10_heir ∈ Tg := mem_Tg 988 (by decide +kernel) rfl
theorem lX10_242 : Cond.methodLink RX10 242 yX6_tracedBy ∈ Tg := mem_Tg 992 (by decide +kernel) rfl
theorem lX6_44 : Cond.methodLink RX6 44 yJ6_bitCount_0f7a4 ∈ Tg := mem_Tg 996 (by decide +kernel) rfl
theorem lL_102 : Cond.methodLink RL 102 yX10_busy ∈ Tg := mem_Tg 997 (by decide +kernel) rfl
theorem lX10_245 : Cond.methodLink RX10 245 yX6_readHours ∈ Tg := mem_Tg 1001 (by decide +kernel) rfl
theorem lX6_49 : Cond.methodLink RX6 49 yX6_readPairs ∈ Tg := mem_Tg 1005 (by decide +kernel) rfl
theorem lX10_248 : Cond.methodLink RX10 248 yX6_fewestCircuits ∈ Tg := mem_Tg 1009 (by decide +kernel) rfl
theorem lX6_53 : Cond.methodLink RX6 53 yX6_sortByBeginning ∈ Tg := mem_Tg 1013 (by decide +kernel) rfl
theorem lX6_56 : Cond.methodLink RX6 56 yX6_suffices ∈ Tg := mem_Tg 1017 (by decide +kernel) rfl
theorem lX6_60 : Cond.methodLink RX6 60 Lib.Math.max.name ∈ Tg := mem_Tg 1021 (by decide +kernel) rfl
theorem lX10_251 : Cond.methodLink RX10 251 yX6_busiest ∈ Tg := mem_Tg 1022 (by decide +kernel) rfl
theorem lL_106 : Cond.methodLink RL 106 yX10_cheapest ∈ Tg := mem_Tg 1026 (by decide +kernel) rfl
theorem lX10_255 : Cond.methodLink RX10 255 yX6_readTariffs ∈ Tg := mem_Tg 1030 (by decide +kernel) rfl
theorem lX10_258 : Cond.methodLink RX10 258 yX6_leastPence ∈ Tg := mem_Tg 1035 (by decide +kernel) rfl
theorem lX6_70 : Cond.methodLink RX6 70 Lib.Math.min.name ∈ Tg := mem_Tg 1040 (by decide +kernel) rfl
theorem lX10_261 : Cond.methodLink RX10 261 yX6_howOften ∈ Tg := mem_Tg 1041 (by decide +kernel) rfl
theorem lX6_73 : Cond.methodLink RX6 73 yX6_leastPence ∈ Tg := mem_Tg 1045 (by decide +kernel) rfl
theorem lX6_77 : Cond.methodLink RX6 77 yX6_mostOf ∈ Tg := mem_Tg 1046 (by decide +kernel) rfl
theorem lL_110 : Cond.methodLink RL 110 yX10_told ∈ Tg := mem_Tg 1050 (by decide +kernel) rfl
theorem lX10_264 : Cond.methodLink RX10 264 yX6_readTellers ∈ Tg := mem_Tg 1054 (by decide +kernel) rfl
theorem lX10_267 : Cond.methodLink RX10 267 yX6_soonest ∈ Tg := mem_Tg 1058 (by decide +kernel) rfl
theorem lX6_80 : Cond.methodLink RX6 80 yX6_turnOf ∈ Tg := mem_Tg 1062 (by decide +kernel) rfl
theorem lX10_270 : Cond.methodLink RX10 270 yX6_firstRung ∈ Tg := mem_Tg 1066 (by decide +kernel) rfl
theorem lX6_83 : Cond.methodLink RX6 83 yX6_soonest ∈ Tg := mem_Tg 1070 (by decide +kernel) rfl
theorem lL_114 : Cond.methodLink RL 114 yX10_epitaph ∈ Tg := mem_Tg 1071 (by decide +kernel) rfl
theorem lX10_273 : Cond.methodLink RX10 273 yX8_holdsOnly ∈ Tg := mem_Tg 1075 (by decide +kernel) rfl
theorem lX10_279 : Cond.methodLink RX10 279 yX6_cipher ∈ Tg := mem_Tg 1076 (by decide +kernel) rfl
theorem lX6_86 : Cond.methodLink RX6 86 yX6_layAlphabet ∈ Tg := mem_Tg 1080 (by decide +kernel) rfl
theorem lL_119 : Cond.methodLink RL 119 yX10_dialled ∈ Tg := mem_Tg 1084 (by decide +kernel) rfl
theorem lX10_283 : Cond.methodLink RX10 283 yX4_reached ∈ Tg := mem_Tg 1088 (by decide +kernel) rfl
theorem lX4_36 : Cond.methodLink RX4 36 yX4_begins ∈ Tg := mem_Tg 1092 (by decide +kernel) rfl
theorem lL_123 : Cond.methodLink RL 123 yX10_clear ∈ Tg := mem_Tg 1096 (by decide +kernel) rfl
theorem lX10_289 : Cond.methodLink RX10 289 yX4_isClear ∈ Tg := mem_Tg 1100 (by decide +kernel) rfl
theorem lL_127 : Cond.methodLink RL 127 yX10_freeCode ∈ Tg := mem_Tg 1104 (by decide +kernel) rfl
theorem lX10_292 : Cond.methodLink RX10 292 yX4_leastFree ∈ Tg := mem_Tg 1108 (by decide +kernel) rfl
theorem lX4_39 : Cond.methodLink RX4 39 yX4_staysClear ∈ Tg := mem_Tg 1112 (by decide +kernel) rfl
theorem lL_131 : Cond.methodLink RL 131 yX10_seed ∈ Tg := mem_Tg 1116 (by decide +kernel) rfl
theorem lL_135 : Cond.methodLink RL 135 yX10_keep ∈ Tg := mem_Tg 1121 (by decide +kernel) rfl
theorem lL_139 : Cond.methodLink RL 139 yX10_undo ∈ Tg := mem_Tg 1125 (by decide +kernel) rfl
theorem lL_144 : Cond.methodLink RL 144 yX10_check ∈ Tg := mem_Tg 1129 (by decide +kernel) rfl
theorem lX10_306 : Cond.methodLink RX10 306 yX8_at ∈ Tg := mem_Tg 1133 (by decide +kernel) rfl
theorem lL_148 : Cond.methodLink RL 148 yX10_count ∈ Tg := mem_Tg 1134 (by decide +kernel) rfl
theorem lX10_309 : Cond.methodLink RX10 309 yX9_free ∈ Tg := mem_Tg 1138 (by decide +kernel) rfl
theorem lL_12 : Cond.methodLink RL 12 yX11_init ∈ Tg := mem_Tg 1141 (by decide +kernel) rfl
theorem lX11_1 : Cond.methodLink RX11 1 Lib.objectInit ∈ Tg := mem_Tg 1144 (by decide +kernel) rfl
theorem lL_17 : Cond.methodLink RL 17 yX11_trunk ∈ Tg := mem_Tg 1290 (by decide +kernel) rfl
theorem lX11_123 : Cond.methodLink RX11 123 yX11_areTwo ∈ Tg := mem_Tg 1294 (by decide +kernel) rfl
theorem lX11_111 : Cond.methodLink RX11 111 yX11_in ∈ Tg := mem_Tg 1297 (by decide +kernel) rfl
theorem lL_22 : Cond.methodLink RL 22 yX11_subscriber ∈ Tg := mem_Tg 1300 (by decide +kernel) rfl
theorem lX11_119 : Cond.methodLink RX11 119 yX11_isTold ∈ Tg := mem_Tg 1304 (by decide +kernel) rfl
theorem lX11_127 : Cond.methodLink RX11 127 yX11_endsCallOf ∈ Tg := mem_Tg 1308 (by decide +kernel) rfl
theorem lX11_115 : Cond.methodLink RX11 115 yX11_callOf ∈ Tg := mem_Tg 1312 (by decide +kernel) rfl
theorem lL_27 : Cond.methodLink RL 27 yX11_fund ∈ Tg := mem_Tg 1316 (by decide +kernel) rfl
theorem lL_32 : Cond.methodLink RL 32 yX11_rate ∈ Tg := mem_Tg 1321 (by decide +kernel) rfl
theorem lL_37 : Cond.methodLink RL 37 yX11_feed ∈ Tg := mem_Tg 1325 (by decide +kernel) rfl
theorem lX11_149 : Cond.methodLink RX11 149 yX11_types ∈ Tg := mem_Tg 1329 (by decide +kernel) rfl
theorem lL_42 : Cond.methodLink RL 42 yX11_law ∈ Tg := mem_Tg 1333 (by decide +kernel) rfl
theorem lX11_235 : Cond.methodLink RX11 235 yX11_beginsText ∈ Tg := mem_Tg 1337 (by decide +kernel) rfl
theorem lX11_238 : Cond.methodLink RX11 238 yX11_readsRule ∈ Tg := mem_Tg 1341 (by decide +kernel) rfl
theorem lX11_158 : Cond.methodLink RX11 158 yX11_here ∈ Tg := mem_Tg 1345 (by decide +kernel) rfl
theorem lX11_165 : Cond.methodLink RX11 165 yX11_wrongAt ∈ Tg := mem_Tg 1349 (by decide +kernel) rfl
theorem lX11_214 : Cond.methodLink RX11 214 yX11_readsSum ∈ Tg := mem_Tg 1353 (by decide +kernel) rfl
theorem lX11_201 : Cond.methodLink RX11 201 yX11_readsFactor ∈ Tg := mem_Tg 1357 (by decide +kernel) rfl
theorem lX11_192 : Cond.methodLink RX11 192 yX11_opens ∈ Tg := mem_Tg 1361 (by decide +kernel) rfl
theorem lX11_171 : Cond.methodLink RX11 171 yX11_isDigit ∈ Tg := mem_Tg 1366 (by decide +kernel) rfl
theorem lX11_195 : Cond.methodLink RX11 195 yX11_readsNumber ∈ Tg := mem_Tg 1370 (by decide +kernel) rfl
theorem lX11_188 : Cond.methodLink RX11 188 yX11_notes ∈ Tg := mem_Tg 1374 (by decide +kernel) rfl
theorem lX11_198 : Cond.methodLink RX11 198 yX11_factOf ∈ Tg := mem_Tg 1378 (by decide +kernel) rfl
theorem lX11_204 : Cond.methodLink RX11 204 yX11_sumSign ∈ Tg := mem_Tg 1381 (by decide +kernel) rfl
theorem lX11_207 : Cond.methodLink RX11 207 yX11_closesSums ∈ Tg := mem_Tg 1384 (by decide +kernel) rfl
theorem lX11_185 : Cond.methodLink RX11 185 yX11_waitTop ∈ Tg := mem_Tg 1388 (by decide +kernel) rfl
theorem lX11_211 : Cond.methodLink RX11 211 yX11_hasOpenSum ∈ Tg := mem_Tg 1392 (by decide +kernel) rfl
theorem lX11_232 : Cond.methodLink RX11 232 yX11_readsCondition ∈ Tg := mem_Tg 1396 (by decide +kernel) rfl
theorem lX11_220 : Cond.methodLink RX11 220 yX11_readsCompared ∈ Tg := mem_Tg 1400 (by decide +kernel) rfl
theorem lX11_217 : Cond.methodLink RX11 217 yX11_endsPiece ∈ Tg := mem_Tg 1404 (by decide +kernel) rfl
theorem lX11_223 : Cond.methodLink RX11 223 yX11_lands ∈ Tg := mem_Tg 1408 (by decide +kernel) rfl
theorem lX11_226 : Cond.methodLink RX11 226 yX11_jumps ∈ Tg := mem_Tg 1412 (by decide +kernel) rfl
theorem lX11_241 : Cond.methodLink RX11 241 yX11_takes ∈ Tg := mem_Tg 1416 (by decide +kernel) rfl
theorem lL_46 : Cond.methodLink RL 46 yX11_bill ∈ Tg := mem_Tg 1420 (by decide +kernel) rfl
theorem lX11_266 : Cond.methodLink RX11 266 yX11_copies ∈ Tg := mem_Tg 1424 (by decide +kernel) rfl
theorem lX11_270 : Cond.methodLink RX11 270 yX11_readsLine ∈ Tg := mem_Tg 1427 (by decide +kernel) rfl
theorem lX11_263 : Cond.methodLink RX11 263 yX11_readsMore ∈ Tg := mem_Tg 1431 (by decide +kernel) rfl
theorem lX11_254 : Cond.methodLink RX11 254 yX11_readsPence ∈ Tg := mem_Tg 1435 (by decide +kernel) rfl
theorem lX11_257 : Cond.methodLink RX11 257 yX11_min ∈ Tg := mem_Tg 1439 (by decide +kernel) rfl
theorem lX11_136 : Cond.methodLink RX11 136 yX11_max ∈ Tg := mem_Tg 1442 (by decide +kernel) rfl
theorem lL_55 : Cond.methodLink RL 55 yX11_minutes ∈ Tg := mem_Tg 1445 (by decide +kernel) rfl
theorem lX11_320 : Cond.methodLink RX11 320 yX11_minutesGo ∈ Tg := mem_Tg 1449 (by decide +kernel) rfl
theorem lX11_313 : Cond.methodLink RX11 313 yX11_beginsMinutes ∈ Tg := mem_Tg 1453 (by decide +kernel) rfl
theorem lX11_317 : Cond.methodLink RX11 317 yX11_minuteGoes ∈ Tg := mem_Tg 1458 (by decide +kernel) rfl
theorem lX11_304 : Cond.methodLink RX11 304 yX11_charges ∈ Tg := mem_Tg 1462 (by decide +kernel) rfl
theorem lX11_273 : Cond.methodLink RX11 273 yX11_isFree ∈ Tg := mem_Tg 1466 (by decide +kernel) rfl
theorem lX11_307 : Cond.methodLink RX11 307 yX11_turnOf ∈ Tg := mem_Tg 1470 (by decide +kernel) rfl
theorem lX11_285 : Cond.methodLink RX11 285 yX11_feels ∈ Tg := mem_Tg 1474 (by decide +kernel) rfl
theorem lX11_288 : Cond.methodLink RX11 288 yX11_byLaw ∈ Tg := mem_Tg 1478 (by decide +kernel) rfl
theorem lX11_251 : Cond.methodLink RX11 251 yX11_comesTo ∈ Tg := mem_Tg 1482 (by decide +kernel) rfl
theorem lX11_247 : Cond.methodLink RX11 247 yX11_reckon ∈ Tg := mem_Tg 1486 (by decide +kernel) rfl
theorem lX11_298 : Cond.methodLink RX11 298 yX11_rings ∈ Tg := mem_Tg 1490 (by decide +kernel) rfl
theorem lX11_276 : Cond.methodLink RX11 276 yX11_laysRoute ∈ Tg := mem_Tg 1494 (by decide +kernel) rfl
theorem lX11_142 : Cond.methodLink RX11 142 yX11_laysTrunks ∈ Tg := mem_Tg 1498 (by decide +kernel) rfl
theorem lX11_139 : Cond.methodLink RX11 139 yX11_freeBetween ∈ Tg := mem_Tg 1502 (by decide +kernel) rfl
theorem lX11_132 : Cond.methodLink RX11 132 yX11_usedBetween ∈ Tg := mem_Tg 1506 (by decide +kernel) rfl
theorem lX11_279 : Cond.methodLink RX11 279 yX11_freePlace ∈ Tg := mem_Tg 1510 (by decide +kernel) rfl
theorem lX11_291 : Cond.methodLink RX11 291 yX11_holdsAny ∈ Tg := mem_Tg 1514 (by decide +kernel) rfl
theorem lX11_310 : Cond.methodLink RX11 310 yX11_mayBeCut ∈ Tg := mem_Tg 1518 (by decide +kernel) rfl
theorem lL_59 : Cond.methodLink RL 59 yX11_tried ∈ Tg := mem_Tg 1522 (by decide +kernel) rfl
theorem lX11_323 : Cond.methodLink RX11 323 yX11_callsNow ∈ Tg := mem_Tg 1526 (by decide +kernel) rfl
theorem lL_63 : Cond.methodLink RL 63 yX11_subscriberIs ∈ Tg := mem_Tg 1530 (by decide +kernel) rfl
theorem lX11_326 : Cond.methodLink RX11 326 yX11_talksWith ∈ Tg := mem_Tg 1534 (by decide +kernel) rfl
theorem lL_67 : Cond.methodLink RL 67 yX11_callIs ∈ Tg := mem_Tg 1538 (by decide +kernel) rfl
theorem lL_72 : Cond.methodLink RL 72 yX11_circuits ∈ Tg := mem_Tg 1542 (by decide +kernel) rfl
theorem lL_76 : Cond.methodLink RL 76 yX11_route ∈ Tg := mem_Tg 1546 (by decide +kernel) rfl
theorem lL_80 : Cond.methodLink RL 80 yX11_fundLasts ∈ Tg := mem_Tg 1550 (by decide +kernel) rfl
theorem lL_84 : Cond.methodLink RL 84 yX11_atOnce ∈ Tg := mem_Tg 1554 (by decide +kernel) rfl
theorem lX11_332 : Cond.methodLink RX11 332 yX11_flowBetween ∈ Tg := mem_Tg 1558 (by decide +kernel) rfl
theorem lX11_329 : Cond.methodLink RX11 329 yX11_oneMore ∈ Tg := mem_Tg 1562 (by decide +kernel) rfl
theorem lL_88 : Cond.methodLink RL 88 yX11_stops ∈ Tg := mem_Tg 1566 (by decide +kernel) rfl
theorem lL_93 : Cond.methodLink RL 93 yX11_inTheMiddle ∈ Tg := mem_Tg 1570 (by decide +kernel) rfl
theorem lL_97 : Cond.methodLink RL 97 yX11_cut ∈ Tg := mem_Tg 1574 (by decide +kernel) rfl
theorem lX11_341 : Cond.methodLink RX11 341 yX11_sumOf ∈ Tg := mem_Tg 1578 (by decide +kernel) rfl
theorem lX11_335 : Cond.methodLink RX11 335 yX11_has ∈ Tg := mem_Tg 1582 (by decide +kernel) rfl
theorem lX11_338 : Cond.methodLink RX11 338 yX11_octet ∈ Tg := mem_Tg 1585 (by decide +kernel) rfl
theorem lL_101 : Cond.methodLink RL 101 yX11_heir ∈ Tg := mem_Tg 1589 (by decide +kernel) rfl
theorem lX11_345 : Cond.methodLink RX11 345 yX11_bits ∈ Tg := mem_Tg 1593 (by decide +kernel) rfl
theorem lL_105 : Cond.methodLink RL 105 yX11_busy ∈ Tg := mem_Tg 1596 (by decide +kernel) rfl
theorem lX11_348 : Cond.methodLink RX11 348 yX11_laysRow ∈ Tg := mem_Tg 1600 (by decide +kernel) rfl
theorem lX11_351 : Cond.methodLink RX11 351 yX11_areEnough ∈ Tg := mem_Tg 1604 (by decide +kernel) rfl
theorem lX11_354 : Cond.methodLink RX11 354 yX11_atOnceIn ∈ Tg := mem_Tg 1608 (by decide +kernel) rfl
theorem lL_109 : Cond.methodLink RL 109 yX11_cheapest ∈ Tg := mem_Tg 1612 (by decide +kernel) rfl
theorem lX11_358 : Cond.methodLink RX11 358 yX11_timesOf ∈ Tg := mem_Tg 1617 (by decide +kernel) rfl
theorem lX11_361 : Cond.methodLink RX11 361 yX11_laysPence ∈ Tg := mem_Tg 1621 (by decide +kernel) rfl
theorem lL_113 : Cond.methodLink RL 113 yX11_told ∈ Tg := mem_Tg 1625 (by decide +kernel) rfl
theorem lX11_364 : Cond.methodLink RX11 364 yX11_longFor ∈ Tg := mem_Tg 1629 (by decide +kernel) rfl
theorem lL_118 : Cond.methodLink RL 118 yX11_epitaph ∈ Tg := mem_Tg 1633 (by decide +kernel) rfl
theorem lX11_367 : Cond.methodLink RX11 367 yX11_laysAlphabet ∈ Tg := mem_Tg 1637 (by decide +kernel) rfl
theorem lL_51 : Cond.methodLink RL 51 yX11_code ∈ Tg := mem_Tg 1641 (by decide +kernel) rfl
theorem lX11_370 : Cond.methodLink RX11 370 yX11_faultOfDigits ∈ Tg := mem_Tg 1645 (by decide +kernel) rfl
theorem lL_122 : Cond.methodLink RL 122 yX11_dialled ∈ Tg := mem_Tg 1649 (by decide +kernel) rfl
theorem lX11_373 : Cond.methodLink RX11 373 yX11_beginsWith ∈ Tg := mem_Tg 1653 (by decide +kernel) rfl
theorem lL_126 : Cond.methodLink RL 126 yX11_clear ∈ Tg := mem_Tg 1657 (by decide +kernel) rfl
theorem lX11_376 : Cond.methodLink RX11 376 yX11_isWithin ∈ Tg := mem_Tg 1661 (by decide +kernel) rfl
theorem lL_130 : Cond.methodLink RL 130 yX11_freeCode ∈ Tg := mem_Tg 1665 (by decide +kernel) rfl
theorem lX11_382 : Cond.methodLink RX11 382 yX11_clear ∈ Tg := mem_Tg 1669 (by decide +kernel) rfl
theorem lX11_385 : Cond.methodLink RX11 385 yX11_clashes ∈ Tg := mem_Tg 1670 (by decide +kernel) rfl
theorem lX11_379 : Cond.methodLink RX11 379 yX11_digitOf ∈ Tg := mem_Tg 1674 (by decide +kernel) rfl
theorem lL_134 : Cond.methodLink RL 134 yX11_seed ∈ Tg := mem_Tg 1677 (by decide +kernel) rfl
theorem lL_138 : Cond.methodLink RL 138 yX11_keep ∈ Tg := mem_Tg 1682 (by decide +kernel) rfl
theorem lL_143 : Cond.methodLink RL 143 yX11_undo ∈ Tg := mem_Tg 1686 (by decide +kernel) rfl
theorem lL_147 : Cond.methodLink RL 147 yX11_check ∈ Tg := mem_Tg 1690 (by decide +kernel) rfl
theorem lL_151 : Cond.methodLink RL 151 yX11_count ∈ Tg := mem_Tg 1694 (by decide +kernel) rfl
theorem lX11_393 : Cond.methodLink RX11 393 yX11_setOf ∈ Tg := mem_Tg 1698 (by decide +kernel) rfl
theorem hX10_9 : Cond.methodLinkNest RX10 9 yX8_init "DeadLines" ∈ lw_tbl := List.mem_of_getElem? (i := 124) (by decide +kernel)
theorem hX10_18 : Cond.methodLinkNest RX10 18 yX3_init "DeadLines" ∈ lw_tbl := List.mem_of_getElem? (i := 159) (by decide +kernel)
theorem hX2_11 : Cond.methodLinkNest RX2 11 yX1_init "DeadLines" ∈ lw_tbl := List.mem_of_getElem? (i := 260) (by decide +kernel)
theorem hX7_11 : Cond.methodLinkNest RX7 11 yX5_init "DeadLines" ∈ lw_tbl := List.mem_of_getElem? (i := 318) (by decide +kernel)
theorem hX7_20 : Cond.methodLinkNest RX7 20 yX1_init "DeadLines" ∈ lw_tbl := List.mem_of_getElem? (i := 333) (by decide +kernel)
theorem hX10_64 : Cond.methodLinkNest RX10 64 yX9_init "DeadLines" ∈ lw_tbl := List.mem_of_getElem? (i := 367) (by decide +kernel)
theorem hX8_36 : Cond.methodLinkNest RX8 36 yX10_isDigit "DeadLines" ∈ lw_tbl := List.mem_of_getElem? (i := 699) (by decide +kernel)
theorem hX0_48 : Cond.methodLinkNest RX0 48 yX10_within "DeadLines" ∈ lw_tbl := List.mem_of_getElem? (i := 743) (by decide +kernel)
theorem hX9_98 : Cond.methodLinkNest RX9 98 yX10_bounded "DeadLines" ∈ lw_tbl := List.mem_of_getElem? (i := 760) (by decide +kernel)
theorem hX8_42 : Cond.methodLinkNest RX8 42 yX10_within "DeadLines" ∈ lw_tbl := List.mem_of_getElem? (i := 789) (by decide +kernel)
theorem hX5_52 : Cond.methodLinkNest RX5 52 yX10_bounded "DeadLines" ∈ lw_tbl := List.mem_of_getElem? (i := 840) (by decide +kernel)
theorem hX3_53 : Cond.methodLinkNest RX3 53 yX10_bounded "DeadLines" ∈ lw_tbl := List.mem_of_getElem? (i := 854) (by decide +kernel)
theorem hX9_79 : Cond.methodLinkNest RX9 79 yX10_within "DeadLines" ∈ lw_tbl := List.mem_of_getElem? (i := 897) (by decide +kernel)
theorem hX6_66 : Cond.methodLinkNest RX6 66 yX10_within "DeadLines" ∈ lw_tbl := List.mem_of_getElem? (i := 1034) (by decide +kernel)
theorem kX10_95 : Cond.constant RX10 95 999999 ∈ Tg := mem_Tg 542 (by decide +kernel) rfl
theorem kX9_97 : Cond.constant RX9 97 999999 ∈ Tg := mem_Tg 759 (by decide +kernel) rfl
theorem kX7_50 : Cond.constant RX7 50 99999 ∈ Tg := mem_Tg 799 (by decide +kernel) rfl
theorem kX9_102 : Cond.constant RX9 102 65535 ∈ Tg := mem_Tg 845 (by decide +kernel) rfl
theorem kJ6_265 : Cond.constant RJ6 265 1431655765 ∈ Tg := mem_Tg 909 (by decide +kernel) rfl
theorem kJ6_266 : Cond.constant RJ6 266 858993459 ∈ Tg := mem_Tg 910 (by decide +kernel) rfl
theorem kJ6_267 : Cond.constant RJ6 267 252645135 ∈ Tg := mem_Tg 911 (by decide +kernel) rfl
theorem kX6_69 : Cond.constant RX6 69 1000000 ∈ Tg := mem_Tg 1039 (by decide +kernel) rfl
theorem kX10_295 : Cond.constant RX10 295 65535 ∈ Tg := mem_Tg 1120 (by decide +kernel) rfl
theorem kX11_131 : Cond.constant RX11 131 999999 ∈ Tg := mem_Tg 1320 (by decide +kernel) rfl
theorem kX11_178 : Cond.constant RX11 178 1048576 ∈ Tg := mem_Tg 1365 (by decide +kernel) rfl
theorem kX11_316 : Cond.constant RX11 316 99999 ∈ Tg := mem_Tg 1457 (by decide +kernel) rfl
theorem kX11_297 : Cond.constant RX11 297 65536 ∈ Tg := mem_Tg 1489 (by decide +kernel) rfl
theorem kX11_357 : Cond.constant RX11 357 1000000 ∈ Tg := mem_Tg 1616 (by decide +kernel) rfl
theorem kX11_388 : Cond.constant RX11 388 65535 ∈ Tg := mem_Tg 1681 (by decide +kernel) rfl
theorem eL_7 : Cond.classLink RL 7 RX10 ∈ Tg := mem_Tg 114 (by decide +kernel) rfl
theorem eX10_7 : Cond.classLink RX10 7 RX8 ∈ Tg := mem_Tg 122 (by decide +kernel) rfl
theorem eX10_16 : Cond.classLink RX10 16 RX3 ∈ Tg := mem_Tg 157 (by decide +kernel) rfl
theorem eX10_23 : Cond.classLink RX10 23 RX4 ∈ Tg := mem_Tg 188 (by decide +kernel) rfl
theorem eX10_32 : Cond.classLink RX10 32 RX6 ∈ Tg := mem_Tg 205 (by decide +kernel) rfl
theorem eX10_39 : Cond.classLink RX10 39 RX0 ∈ Tg := mem_Tg 230 (by decide +kernel) rfl
theorem eX10_46 : Cond.classLink RX10 46 RX2 ∈ Tg := mem_Tg 252 (by decide +kernel) rfl
theorem eX2_9 : Cond.classLink RX2 9 RX1 ∈ Tg := mem_Tg 258 (by decide +kernel) rfl
theorem eX10_53 : Cond.classLink RX10 53 RX7 ∈ Tg := mem_Tg 310 (by decide +kernel) rfl
theorem eX7_9 : Cond.classLink RX7 9 RX5 ∈ Tg := mem_Tg 316 (by decide +kernel) rfl
theorem eX7_18 : Cond.classLink RX7 18 RX1 ∈ Tg := mem_Tg 332 (by decide +kernel) rfl
theorem eX10_62 : Cond.classLink RX10 62 RX9 ∈ Tg := mem_Tg 365 (by decide +kernel) rfl
theorem eL_10 : Cond.classLink RL 10 RX11 ∈ Tg := mem_Tg 1139 (by decide +kernel) rfl
theorem i0_ok : Cond.instantiable RX0 5 ∈ Tg := mem_Tg 231 (by decide +kernel) rfl
theorem z0_ok : Cond.initialized RX0 ∈ Tg := mem_Tg 99 (by decide +kernel) rfl
theorem i1_ok : Cond.instantiable RX1 8 ∈ Tg := mem_Tg 259 (by decide +kernel) rfl
theorem z1_ok : Cond.initialized RX1 ∈ Tg := mem_Tg 101 (by decide +kernel) rfl
theorem i2_ok : Cond.instantiable RX2 2 ∈ Tg := mem_Tg 253 (by decide +kernel) rfl
theorem z2_ok : Cond.initialized RX2 ∈ Tg := mem_Tg 100 (by decide +kernel) rfl
theorem i3_ok : Cond.instantiable RX3 7 ∈ Tg := mem_Tg 158 (by decide +kernel) rfl
theorem z3_ok : Cond.initialized RX3 ∈ Tg := mem_Tg 96 (by decide +kernel) rfl
theorem i4_ok : Cond.instantiable RX4 3 ∈ Tg := mem_Tg 189 (by decide +kernel) rfl
theorem z4_ok : Cond.initialized RX4 ∈ Tg := mem_Tg 97 (by decide +kernel) rfl
theorem i5_ok : Cond.instantiable RX5 3 ∈ Tg := mem_Tg 317 (by decide +kernel) rfl
theorem z5_ok : Cond.initialized RX5 ∈ Tg := mem_Tg 103 (by decide +kernel) rfl
theorem i6_ok : Cond.instantiable RX6 6 ∈ Tg := mem_Tg 206 (by decide +kernel) rfl
theorem z6_ok : Cond.initialized RX6 ∈ Tg := mem_Tg 98 (by decide +kernel) rfl
theorem i7_ok : Cond.instantiable RX7 8 ∈ Tg := mem_Tg 311 (by decide +kernel) rfl
theorem z7_ok : Cond.initialized RX7 ∈ Tg := mem_Tg 102 (by decide +kernel) rfl
theorem i8_ok : Cond.instantiable RX8 6 ∈ Tg := mem_Tg 123 (by decide +kernel) rfl
theorem z8_ok : Cond.initialized RX8 ∈ Tg := mem_Tg 95 (by decide +kernel) rfl
theorem i9_ok : Cond.instantiable RX9 20 ∈ Tg := mem_Tg 366 (by decide +kernel) rfl
theorem z9_ok : Cond.initialized RX9 ∈ Tg := mem_Tg 104 (by decide +kernel) rfl
theorem i10_ok : Cond.instantiable RX10 11 ∈ Tg := mem_Tg 115 (by decide +kernel) rfl
theorem z10_ok : Cond.initialized RX10 ∈ Tg := mem_Tg 94 (by decide +kernel) rfl
theorem i11_ok : Cond.instantiable RX11 48 ∈ Tg := mem_Tg 1140 (by decide +kernel) rfl
theorem z11_ok : Cond.initialized RX11 ∈ Tg := mem_Tg 105 (by decide +kernel) rfl
theorem oi_v : Cond.instanceMethod Lib.objectInit ∈ Tg := mem_Tg 120 (by decide +kernel) rfl
theorem oi_c : Cond.code Lib.objectInit ⟨#[0xb1]⟩ 1 none ∈ Tg := mem_Tg 121 (by decide +kernel) rfl
theorem mmax_t : Cond.static Lib.Math.max.name ∈ Tg := mem_Tg 634 (by decide +kernel) rfl
theorem mmax_c : Cond.code Lib.Math.max.name Lib.Math.max.code 2 (some .int) ∈ Tg := mem_Tg 635 (by decide +kernel) rfl
theorem mmin_t : Cond.static Lib.Math.min.name ∈ Tg := mem_Tg 637 (by decide +kernel) rfl
theorem mmin_c : Cond.code Lib.Math.min.name Lib.Math.min.code 2 (some .int) ∈ Tg := mem_Tg 638 (by decide +kernel) rfl
theorem math_z : Cond.initialized "java/lang/Math" ∈ Tg := mem_Tg 108 (by decide +kernel) rfl
theorem ac_n : Cond.native arraycopyName ∈ Tg := mem_Tg 883 (by decide +kernel) rfl
theorem ac_t : Cond.static arraycopyName ∈ Tg := mem_Tg 882 (by decide +kernel) rfl
theorem sys_z : Cond.initialized "java/lang/System" ∈ Tg := mem_Tg 112 (by decide +kernel) rfl
theorem ai_ok : Cond.arrayClass .int ∈ Tg := mem_Tg 156 (by decide +kernel) rfl
theorem ab_ok : Cond.arrayClass .byte ∈ Tg := mem_Tg 729 (by decide +kernel) rfl
