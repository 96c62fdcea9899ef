/-! ===== String.indexOf: records and words (printed by gen87w.py) ===== -/
def mJ0_indexOf_0f7a4 : MR := (yJ0_indexOf_0f7a4, cJ0_indexOf_0f7a4, 2, some .int)
set_option maxRecDepth 100000 in
theorem oJ0_indexOf_0f7a4 : MOk mJ0_indexOf_0f7a4 := ⟨by decide, mem_Tg 608 rfl rfl, mem_Tg 106 (by decide +kernel) rfl, ⟨by decide, by decide⟩, by decide⟩
theorem nJ0_indexOf_0f7a4 : nPar mJ0_indexOf_0f7a4 1 := by unfold nPar; decide +kernel
theorem vJ0_indexOf_0f7a4 : Cond.instanceMethod yJ0_indexOf_0f7a4 ∈ Tg := mem_Tg 606 (by decide +kernel) rfl
theorem sJ0_indexOf_0f7a4 : Cond.selects RJ0 yJ0_indexOf_0f7a4 yJ0_indexOf_0f7a4 ∈ Tg := mem_Tg 607 (by decide +kernel) rfl
def mJ0_indexOf_7cf53 : MR := (yJ0_indexOf_7cf53, cJ0_indexOf_7cf53, 3, some .int)
set_option maxRecDepth 100000 in
theorem oJ0_indexOf_7cf53 : MOk mJ0_indexOf_7cf53 := ⟨by decide, mem_Tg 612 rfl rfl, mem_Tg 106 (by decide +kernel) rfl, ⟨by decide, by decide⟩, by decide⟩
theorem nJ0_indexOf_7cf53 : nPar mJ0_indexOf_7cf53 2 := by unfold nPar; decide +kernel
theorem vJ0_indexOf_7cf53 : Cond.instanceMethod yJ0_indexOf_7cf53 ∈ Tg := mem_Tg 610 (by decide +kernel) rfl
theorem sJ0_indexOf_7cf53 : Cond.selects RJ0 yJ0_indexOf_7cf53 yJ0_indexOf_7cf53 ∈ Tg := mem_Tg 611 (by decide +kernel) rfl
def mJ0_isLatin1_aae02 : MR := (yJ0_isLatin1_aae02, cJ0_isLatin1_aae02, 1, some .boolean)
set_option maxRecDepth 100000 in
theorem oJ0_isLatin1_aae02 : MOk mJ0_isLatin1_aae02 := ⟨by decide, mem_Tg 616 rfl rfl, mem_Tg 106 (by decide +kernel) rfl, ⟨by decide, by decide⟩, by decide⟩
theorem nJ0_isLatin1_aae02 : nPar mJ0_isLatin1_aae02 0 := by unfold nPar; decide +kernel
theorem vJ0_isLatin1_aae02 : Cond.instanceMethod yJ0_isLatin1_aae02 ∈ Tg := mem_Tg 614 (by decide +kernel) rfl
theorem sJ0_isLatin1_aae02 : Cond.selects RJ0 yJ0_isLatin1_aae02 yJ0_isLatin1_aae02 ∈ Tg := mem_Tg 615 (by decide +kernel) rfl
def mJ0_length_8abf5 : MR := (yJ0_length_8abf5, cJ0_length_8abf5, 1, some .int)
set_option maxRecDepth 100000 in
theorem oJ0_length_8abf5 : MOk mJ0_length_8abf5 := ⟨by decide, mem_Tg 622 rfl rfl, mem_Tg 106 (by decide +kernel) rfl, ⟨by decide, by decide⟩, by decide⟩
theorem nJ0_length_8abf5 : nPar mJ0_length_8abf5 0 := by unfold nPar; decide +kernel
theorem vJ0_length_8abf5 : Cond.instanceMethod yJ0_length_8abf5 ∈ Tg := mem_Tg 620 (by decide +kernel) rfl
theorem sJ0_length_8abf5 : Cond.selects RJ0 yJ0_length_8abf5 yJ0_length_8abf5 ∈ Tg := mem_Tg 621 (by decide +kernel) rfl
def mJ0_coder_7d493 : MR := (yJ0_coder_7d493, cJ0_coder_7d493, 1, some .byte)
set_option maxRecDepth 100000 in
theorem oJ0_coder_7d493 : MOk mJ0_coder_7d493 := ⟨by decide, mem_Tg 626 rfl rfl, mem_Tg 106 (by decide +kernel) rfl, ⟨by decide, by decide⟩, by decide⟩
theorem nJ0_coder_7d493 : nPar mJ0_coder_7d493 0 := by unfold nPar; decide +kernel
theorem vJ0_coder_7d493 : Cond.instanceMethod yJ0_coder_7d493 ∈ Tg := mem_Tg 624 (by decide +kernel) rfl
theorem sJ0_coder_7d493 : Cond.selects RJ0 yJ0_coder_7d493 yJ0_coder_7d493 ∈ Tg := mem_Tg 625 (by decide +kernel) rfl
def mJ1_indexOf_4cfef : MR := (yJ1_indexOf_4cfef, cJ1_indexOf_4cfef, 4, some .int)
set_option maxRecDepth 100000 in
theorem oJ1_indexOf_4cfef : MOk mJ1_indexOf_4cfef := ⟨by decide, mem_Tg 629 rfl rfl, mem_Tg 107 (by decide +kernel) rfl, ⟨by decide, by decide⟩, by decide⟩
theorem nJ1_indexOf_4cfef : nPar mJ1_indexOf_4cfef 4 := by unfold nPar; decide +kernel
theorem tJ1_indexOf_4cfef : Cond.static yJ1_indexOf_4cfef ∈ Tg := mem_Tg 628 (by decide +kernel) rfl
def mJ1_canEncode_9a6ad : MR := (yJ1_canEncode_9a6ad, cJ1_canEncode_9a6ad, 1, some .boolean)
set_option maxRecDepth 100000 in
theorem oJ1_canEncode_9a6ad : MOk mJ1_canEncode_9a6ad := ⟨by decide, mem_Tg 632 rfl rfl, mem_Tg 107 (by decide +kernel) rfl, ⟨by decide, by decide⟩, by decide⟩
theorem nJ1_canEncode_9a6ad : nPar mJ1_canEncode_9a6ad 1 := by unfold nPar; decide +kernel
theorem tJ1_canEncode_9a6ad : Cond.static yJ1_canEncode_9a6ad ∈ Tg := mem_Tg 631 (by decide +kernel) rfl
def mJ1_indexOfChar_4cfef : MR := (yJ1_indexOfChar_4cfef, cJ1_indexOfChar_4cfef, 6, some .int)
set_option maxRecDepth 100000 in
theorem oJ1_indexOfChar_4cfef : MOk mJ1_indexOfChar_4cfef := ⟨by decide, mem_Tg 641 rfl rfl, mem_Tg 107 (by decide +kernel) rfl, ⟨by decide, by decide⟩, by decide⟩
theorem nJ1_indexOfChar_4cfef : nPar mJ1_indexOfChar_4cfef 4 := by unfold nPar; decide +kernel
theorem tJ1_indexOfChar_4cfef : Cond.static yJ1_indexOfChar_4cfef ∈ Tg := mem_Tg 640 (by decide +kernel) rfl
theorem lJ0_633 : Cond.methodLink RJ0 633 yJ0_indexOf_7cf53 ∈ Tg := mem_Tg 609 (by decide +kernel) rfl
theorem lJ0_492 : Cond.methodLink RJ0 492 yJ0_isLatin1_aae02 ∈ Tg := mem_Tg 613 (by decide +kernel) rfl
theorem lJ0_505 : Cond.methodLink RJ0 505 yJ0_length_8abf5 ∈ Tg := mem_Tg 619 (by decide +kernel) rfl
theorem lJ0_335 : Cond.methodLink RJ0 335 yJ0_coder_7d493 ∈ Tg := mem_Tg 623 (by decide +kernel) rfl
theorem lJ0_637 : Cond.methodLink RJ0 637 yJ1_indexOf_4cfef ∈ Tg := mem_Tg 627 (by decide +kernel) rfl
theorem lJ1_88 : Cond.methodLink RJ1 88 yJ1_canEncode_9a6ad ∈ Tg := mem_Tg 630 (by decide +kernel) rfl
theorem lJ1_92 : Cond.methodLink RJ1 92 Lib.Math.max.name ∈ Tg := mem_Tg 633 (by decide +kernel) rfl
theorem lJ1_38 : Cond.methodLink RJ1 38 Lib.Math.min.name ∈ Tg := mem_Tg 636 (by decide +kernel) rfl
theorem lJ1_95 : Cond.methodLink RJ1 95 yJ1_indexOfChar_4cfef ∈ Tg := mem_Tg 639 (by decide +kernel) rfl
theorem gJ0_15 : Cond.fieldLink RJ0 15 RJ0 "coder" "B" ∈ Tg := mem_Tg 1702 (by decide +kernel) rfl
theorem gJ0_9 : Cond.fieldLink RJ0 9 RJ0 "value" "[B" ∈ Tg := mem_Tg 1703 (by decide +kernel) rfl
