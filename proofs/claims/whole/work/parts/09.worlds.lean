abbrev Z5 (cB cI cJ cL cS : ClassId) : List (ClassId × FieldType) := [(cB, .byte), (cI, .int), (cJ, .long), (cL, .object "TailRecorder$Ledger"), (cS, .object "TailRecorder$Step")]
def wM (cB cI cJ : ClassId) (a : Nat → Nat) (c_tape : Nat → Int32) (c_taped : Int32) (c_set : Nat → Int32) (c_highest : Nat → Int64) (c_units : Nat → Int64) (c_kinds : Nat → Int32) (c_sideKind : Nat → Int32) (c_side : Nat → Int32) (c_active : Int32) (c_rests : Int32) (c_writes : Nat → Int32) (c_more : Nat → Int64) (c_packed : Nat → Int32) (c_packedMany : Int32) (c_at : Int32) (c_wrong : Int32) (c_number : Int64) (c_readSort : Int32) (c_readDigits : Int32) (c_readHighest : Int64) (c_wasSet : Nat → Int32) (c_wasHighest : Nat → Int64) (c_wasUnits : Nat → Int64) (c_wasKinds : Nat → Int32) (c_wasSideKind : Nat → Int32) (c_wasSide : Nat → Int32) (c_undone : Int32) : va_W := [(a 0, .inr (8, [.ref (a 1), .int c_taped, .ref (a 2), .ref (a 3), .ref (a 4), .ref (a 5), .ref (a 6), .ref (a 7), .int c_active, .int c_rests, .ref (a 8), .ref (a 9), .ref (a 10), .int c_packedMany, .int c_at, .int c_wrong, .long c_number, .int c_readSort, .int c_readDigits, .long c_readHighest, .ref (a 11), .ref (a 12), .ref (a 13), .ref (a 14), .ref (a 15), .ref (a 16), .int c_undone])), (a 1, .inl (cB, 400, .inl c_tape)), (a 2, .inl (cI, 16, .inl c_set)), (a 3, .inl (cJ, 4, .inr (.inl c_highest))), (a 4, .inl (cJ, 17408, .inr (.inl c_units))), (a 5, .inl (cB, 1088, .inl c_kinds)), (a 6, .inl (cB, 1088, .inl c_sideKind)), (a 7, .inl (cB, 17408, .inl c_side)), (a 8, .inl (cI, 4, .inl c_writes)), (a 9, .inl (cJ, 4352, .inr (.inl c_more))), (a 10, .inl (cB, 400, .inl c_packed)), (a 11, .inl (cI, 176, .inl c_wasSet)), (a 12, .inl (cJ, 32, .inr (.inl c_wasHighest))), (a 13, .inl (cJ, 139264, .inr (.inl c_wasUnits))), (a 14, .inl (cB, 8704, .inl c_wasKinds)), (a 15, .inl (cB, 8704, .inl c_wasSideKind)), (a 16, .inl (cB, 139264, .inl c_wasSide))]
def wL (cB cI cJ : ClassId) (a : Nat → Nat) (c_made : Int32) (c_sort : Int32) (c_digits : Int32) (c_slots : Int32) (c_pages : Int32) (c_highest : Int64) (c_units : Nat → Int64) (c_kinds : Nat → Int32) (c_rows : Nat → Int32) (c_marks : Nat → Int32) : va_W := [(a 0, .inr (1, [.int c_made, .int c_sort, .int c_digits, .int c_slots, .int c_pages, .long c_highest, .ref (a 1), .ref (a 2), .ref (a 3), .ref (a 4)])), (a 1, .inl (cJ, 4336, .inr (.inl c_units))), (a 2, .inl (cI, 271, .inl c_kinds)), (a 3, .inl (cI, 271, .inl c_rows)), (a 4, .inl (cI, 4336, .inl c_marks))]
def wPr (cB cI cJ : ClassId) (a : Nat → Nat) (c_active : Int32) (c_rests : Int32) (c_writers : Nat → Int32) : va_W := [(a 0, .inr (2, [.int c_active, .int c_rests, .ref (a 1)])), (a 1, .inl (cI, 4, .inl c_writers))]
def wPd (cB cI cJ : ClassId) (a : Nat → Nat) (c_highHigh : Int64) (c_highLow : Int64) (c_lowHigh : Int64) (c_lowLow : Int64) : va_W := [(a 0, .inr (3, [.long c_highHigh, .long c_highLow, .long c_lowHigh, .long c_lowLow]))]
def wTp (cB cI cJ : ClassId) (a : Nat → Nat) (c_bytes : Nat → Int32) (c_length : Int32) : va_W := [(a 0, .inr (5, [.ref (a 1), .int c_length])), (a 1, .inl (cI, 400, .inl c_bytes))]
def wU (cB cI cJ : ClassId) (a : Nat → Nat) (r_tape : Nat) (c_place : Int32) (c_fault : Int32) (c_sort : Int32) (c_digits : Int32) (c_highest : Int64) : va_W := [(a 0, .inr (6, [.ref r_tape, .int c_place, .int c_fault, .int c_sort, .int c_digits, .long c_highest]))]
theorem u_X0 : ∀ w ∈ u_ws RX0 TX0 3, w ∈ TT := by
  intro w hw
  obtain ⟨k, hk, rfl⟩ := List.mem_map.mp hw
  have hk := List.mem_range.mp hk
  match k, hk with
  | 0, _ => exact k_203
  | 1, _ => exact k_205
  | 2, _ => exact k_207
  | k + 3, hk => exact absurd hk (by omega)
theorem u_X1 : ∀ w ∈ u_ws RX1 TX1 10, w ∈ TT := by
  intro w hw
  obtain ⟨k, hk, rfl⟩ := List.mem_map.mp hw
  have hk := List.mem_range.mp hk
  match k, hk with
  | 0, _ => exact k_162
  | 1, _ => exact k_164
  | 2, _ => exact k_166
  | 3, _ => exact k_168
  | 4, _ => exact k_170
  | 5, _ => exact k_172
  | 6, _ => exact k_174
  | 7, _ => exact k_176
  | 8, _ => exact k_178
  | 9, _ => exact k_180
  | k + 10, hk => exact absurd hk (by omega)
theorem u_X2 : ∀ w ∈ u_ws RX2 TX2 3, w ∈ TT := by
  intro w hw
  obtain ⟨k, hk, rfl⟩ := List.mem_map.mp hw
  have hk := List.mem_range.mp hk
  match k, hk with
  | 0, _ => exact k_104
  | 1, _ => exact k_106
  | 2, _ => exact k_108
  | k + 3, hk => exact absurd hk (by omega)
theorem u_X3 : ∀ w ∈ u_ws RX3 TX3 4, w ∈ TT := by
  intro w hw
  obtain ⟨k, hk, rfl⟩ := List.mem_map.mp hw
  have hk := List.mem_range.mp hk
  match k, hk with
  | 0, _ => exact k_601
  | 1, _ => exact k_603
  | 2, _ => exact k_605
  | 3, _ => exact k_607
  | k + 4, hk => exact absurd hk (by omega)
theorem u_X4 : ∀ w ∈ u_ws RX4 TX4 3, w ∈ TT := by
  intro w hw
  obtain ⟨k, hk, rfl⟩ := List.mem_map.mp hw
  have hk := List.mem_range.mp hk
  match k, hk with
  | 0, _ => exact k_192
  | 1, _ => exact k_194
  | 2, _ => exact k_196
  | k + 3, hk => exact absurd hk (by omega)
theorem u_X5 : ∀ w ∈ u_ws RX5 TX5 2, w ∈ TT := by
  intro w hw
  obtain ⟨k, hk, rfl⟩ := List.mem_map.mp hw
  have hk := List.mem_range.mp hk
  match k, hk with
  | 0, _ => exact k_122
  | 1, _ => exact k_124
  | k + 2, hk => exact absurd hk (by omega)
theorem u_X6 : ∀ w ∈ u_ws RX6 TX6 6, w ∈ TT := by
  intro w hw
  obtain ⟨k, hk, rfl⟩ := List.mem_map.mp hw
  have hk := List.mem_range.mp hk
  match k, hk with
  | 0, _ => exact k_320
  | 1, _ => exact k_322
  | 2, _ => exact k_324
  | 3, _ => exact k_326
  | 4, _ => exact k_328
  | 5, _ => exact k_330
  | k + 6, hk => exact absurd hk (by omega)
theorem u_X7 : ∀ w ∈ u_ws RX7 TX7 5, w ∈ TT := by
  intro w hw
  obtain ⟨k, hk, rfl⟩ := List.mem_map.mp hw
  have hk := List.mem_range.mp hk
  match k, hk with
  | 0, _ => exact k_216
  | 1, _ => exact k_218
  | 2, _ => exact k_220
  | 3, _ => exact k_222
  | 4, _ => exact k_224
  | k + 5, hk => exact absurd hk (by omega)
theorem u_X8 : ∀ w ∈ u_ws RX8 TX8 27, w ∈ TT := by
  intro w hw
  obtain ⟨k, hk, rfl⟩ := List.mem_map.mp hw
  have hk := List.mem_range.mp hk
  match k, hk with
  | 0, _ => exact k_845
  | 1, _ => exact k_847
  | 2, _ => exact k_849
  | 3, _ => exact k_851
  | 4, _ => exact k_853
  | 5, _ => exact k_855
  | 6, _ => exact k_857
  | 7, _ => exact k_859
  | 8, _ => exact k_861
  | 9, _ => exact k_863
  | 10, _ => exact k_865
  | 11, _ => exact k_867
  | 12, _ => exact k_869
  | 13, _ => exact k_871
  | 14, _ => exact k_873
  | 15, _ => exact k_875
  | 16, _ => exact k_877
  | 17, _ => exact k_879
  | 18, _ => exact k_881
  | 19, _ => exact k_883
  | 20, _ => exact k_885
  | 21, _ => exact k_887
  | 22, _ => exact k_889
  | 23, _ => exact k_891
  | 24, _ => exact k_893
  | 25, _ => exact k_895
  | 26, _ => exact k_897
  | k + 27, hk => exact absurd hk (by omega)
theorem f_X7_init : FactsV yX7_init cX7_init 2 (Option.none : Option Jvm.ClassFile.FieldType) 0 := ⟨⟨k_83, k_63, k_84⟩, by decide +kernel⟩
theorem f_X2_init : FactsV yX2_init cX2_init 1 (Option.none : Option Jvm.ClassFile.FieldType) 0 := ⟨⟨k_93, k_64, k_94⟩, by decide +kernel⟩
theorem f_J7_fill_53178 : FactsS yJ7_fill_53178 cJ7_fill_53178 4 (Option.none : Option Jvm.ClassFile.FieldType) 2 := ⟨⟨k_97, k_65, k_98⟩, by decide +kernel⟩
theorem f_X5_init : FactsV yX5_init cX5_init 1 (Option.none : Option Jvm.ClassFile.FieldType) 0 := ⟨⟨k_115, k_66, k_116⟩, by decide +kernel⟩
theorem f_X0_init : FactsV yX0_init cX0_init 2 (Option.none : Option Jvm.ClassFile.FieldType) 0 := ⟨⟨k_130, k_67, k_131⟩, by decide +kernel⟩
theorem f_X4_init : FactsV yX4_init cX4_init 1 (Option.none : Option Jvm.ClassFile.FieldType) 0 := ⟨⟨k_137, k_68, k_138⟩, by decide +kernel⟩
theorem f_X1_init : FactsV yX1_init cX1_init 1 (Option.none : Option Jvm.ClassFile.FieldType) 0 := ⟨⟨k_143, k_69, k_144⟩, by decide +kernel⟩
theorem f_X7_feed : FactsV yX7_feed cX7_feed 6 (Option.some Jvm.ClassFile.FieldType.int) 5 := ⟨⟨k_228, k_63, k_230⟩, by decide +kernel⟩
theorem f_X5_appendInt : FactsV yX5_appendInt cX5_appendInt 2 (Option.none : Option Jvm.ClassFile.FieldType) 1 := ⟨⟨k_232, k_66, k_234⟩, by decide +kernel⟩
theorem f_X5_append : FactsV yX5_append cX5_append 2 (Option.some Jvm.ClassFile.FieldType.boolean) 1 := ⟨⟨k_236, k_66, k_238⟩, by decide +kernel⟩
theorem f_X7_end : FactsV yX7_end cX7_end 2 (Option.some Jvm.ClassFile.FieldType.int) 1 := ⟨⟨k_240, k_63, k_242⟩, by decide +kernel⟩
theorem f_X7_octet : FactsV yX7_octet cX7_octet 2 (Option.some Jvm.ClassFile.FieldType.int) 1 := ⟨⟨k_244, k_63, k_246⟩, by decide +kernel⟩
theorem f_X5_byteAt : FactsV yX5_byteAt cX5_byteAt 2 (Option.some Jvm.ClassFile.FieldType.int) 1 := ⟨⟨k_248, k_66, k_250⟩, by decide +kernel⟩
theorem f_X7_pack : FactsV yX7_pack cX7_pack 3 (Option.some Jvm.ClassFile.FieldType.int) 1 := ⟨⟨k_252, k_63, k_254⟩, by decide +kernel⟩
theorem f_X7_madeAt : FactsV yX7_madeAt cX7_madeAt 3 (Option.some (Jvm.ClassFile.FieldType.object "TailRecorder$Ledger")) 1 := ⟨⟨k_257, k_63, k_258⟩, by decide +kernel⟩
theorem f_X7_ledgerAt : FactsV yX7_ledgerAt cX7_ledgerAt 2 (Option.some (Jvm.ClassFile.FieldType.object "TailRecorder$Ledger")) 1 := ⟨⟨k_261, k_63, k_262⟩, by decide +kernel⟩
theorem f_X1_packTo : FactsV yX1_packTo cX1_packTo 9 (Option.some Jvm.ClassFile.FieldType.boolean) 1 := ⟨⟨k_264, k_69, k_266⟩, by decide +kernel⟩
theorem f_X5_appendNumber : FactsV yX5_appendNumber cX5_appendNumber 6 (Option.some Jvm.ClassFile.FieldType.boolean) 1 := ⟨⟨k_269, k_66, k_271⟩, by decide +kernel⟩
theorem f_X1_lastUsed : FactsV yX1_lastUsed cX1_lastUsed 3 (Option.some Jvm.ClassFile.FieldType.int) 0 := ⟨⟨k_274, k_69, k_276⟩, by decide +kernel⟩
theorem f_X1_endOf : FactsV yX1_endOf cX1_endOf 2 (Option.some Jvm.ClassFile.FieldType.int) 1 := ⟨⟨k_279, k_69, k_280⟩, by decide +kernel⟩
theorem f_X1_kindOf : FactsV yX1_kindOf cX1_kindOf 2 (Option.some Jvm.ClassFile.FieldType.int) 1 := ⟨⟨k_282, k_69, k_284⟩, by decide +kernel⟩
theorem f_J9_min_7cf53 : FactsS yJ9_min_7cf53 cJ9_min_7cf53 2 (Option.some Jvm.ClassFile.FieldType.int) 2 := ⟨⟨k_286, k_71, k_287⟩, by decide +kernel⟩
theorem f_X1_unitsOf : FactsV yX1_unitsOf cX1_unitsOf 2 (Option.some Jvm.ClassFile.FieldType.long) 1 := ⟨⟨k_289, k_69, k_291⟩, by decide +kernel⟩
theorem f_X5_become : FactsV yX5_become cX5_become 2 (Option.none : Option Jvm.ClassFile.FieldType) 1 := ⟨⟨k_294, k_66, k_296⟩, by decide +kernel⟩
theorem f_J9_max_7cf53 : FactsS yJ9_max_7cf53 cJ9_max_7cf53 2 (Option.some Jvm.ClassFile.FieldType.int) 2 := ⟨⟨k_299, k_71, k_300⟩, by decide +kernel⟩
theorem f_X7_unpack : FactsV yX7_unpack cX7_unpack 5 (Option.some Jvm.ClassFile.FieldType.int) 1 := ⟨⟨k_305, k_63, k_307⟩, by decide +kernel⟩
theorem f_X6_init : FactsV yX6_init cX6_init 2 (Option.none : Option Jvm.ClassFile.FieldType) 1 := ⟨⟨k_311, k_79, k_312⟩, by decide +kernel⟩
theorem f_X6_faultOfAll : FactsV yX6_faultOfAll cX6_faultOfAll 1 (Option.some Jvm.ClassFile.FieldType.int) 0 := ⟨⟨k_334, k_79, k_336⟩, by decide +kernel⟩
theorem f_X6_readHead : FactsV yX6_readHead cX6_readHead 2 (Option.none : Option Jvm.ClassFile.FieldType) 0 := ⟨⟨k_339, k_79, k_340⟩, by decide +kernel⟩
theorem f_X6_nextByte : FactsV yX6_nextByte cX6_nextByte 4 (Option.some Jvm.ClassFile.FieldType.int) 2 := ⟨⟨k_343, k_79, k_344⟩, by decide +kernel⟩
theorem f_X6_fail : FactsV yX6_fail cX6_fail 3 (Option.none : Option Jvm.ClassFile.FieldType) 2 := ⟨⟨k_348, k_79, k_349⟩, by decide +kernel⟩
theorem f_X6_nextNumber : FactsV yX6_nextNumber cX6_nextNumber 6 (Option.some Jvm.ClassFile.FieldType.long) 0 := ⟨⟨k_352, k_79, k_353⟩, by decide +kernel⟩
theorem f_X7_isSetting : FactsS yX7_isSetting cX7_isSetting 4 (Option.some Jvm.ClassFile.FieldType.boolean) 3 := ⟨⟨k_356, k_63, k_357⟩, by decide +kernel⟩
theorem f_X7_slotOf : FactsS yX7_slotOf cX7_slotOf 5 (Option.some Jvm.ClassFile.FieldType.int) 2 := ⟨⟨k_361, k_63, k_362⟩, by decide +kernel⟩
theorem f_X7_bitsOf : FactsS yX7_bitsOf cX7_bitsOf 1 (Option.some Jvm.ClassFile.FieldType.int) 1 := ⟨⟨k_364, k_63, k_365⟩, by decide +kernel⟩
theorem f_J13_numberOfLeadingZeros_95d88 : FactsS yJ13_numberOfLeadingZeros_95d88 cJ13_numberOfLeadingZeros_95d88 3 (Option.some Jvm.ClassFile.FieldType.int) 1 := ⟨⟨k_367, k_74, k_368⟩, by decide +kernel⟩
theorem f_J6_numberOfLeadingZeros_0f7a4 : FactsS yJ6_numberOfLeadingZeros_0f7a4 cJ6_numberOfLeadingZeros_0f7a4 2 (Option.some Jvm.ClassFile.FieldType.int) 1 := ⟨⟨k_370, k_75, k_371⟩, by decide +kernel⟩
theorem f_X6_checkSlots : FactsV yX6_checkSlots cX6_checkSlots 9 (Option.none : Option Jvm.ClassFile.FieldType) 1 := ⟨⟨k_376, k_79, k_377⟩, by decide +kernel⟩
theorem f_X6_isZeros : FactsS yX6_isZeros cX6_isZeros 2 (Option.some Jvm.ClassFile.FieldType.boolean) 1 := ⟨⟨k_379, k_79, k_380⟩, by decide +kernel⟩
theorem f_X6_slotsOf : FactsS yX6_slotsOf cX6_slotsOf 2 (Option.some Jvm.ClassFile.FieldType.long) 1 := ⟨⟨k_384, k_79, k_385⟩, by decide +kernel⟩
theorem f_X7_remember : FactsV yX7_remember cX7_remember 4 (Option.none : Option Jvm.ClassFile.FieldType) 1 := ⟨⟨k_388, k_63, k_389⟩, by decide +kernel⟩
theorem f_X0_another : FactsV yX0_another cX0_another 2 (Option.some (Jvm.ClassFile.FieldType.object "TailRecorder$Step")) 0 := ⟨⟨k_391, k_67, k_393⟩, by decide +kernel⟩
theorem f_X0_stepAt : FactsV yX0_stepAt cX0_stepAt 2 (Option.some (Jvm.ClassFile.FieldType.object "TailRecorder$Step")) 1 := ⟨⟨k_396, k_67, k_397⟩, by decide +kernel⟩
theorem f_X2_become : FactsV yX2_become cX2_become 3 (Option.none : Option Jvm.ClassFile.FieldType) 1 := ⟨⟨k_400, k_64, k_402⟩, by decide +kernel⟩
theorem f_X2_recorderOf : FactsV yX2_recorderOf cX2_recorderOf 2 (Option.some Jvm.ClassFile.FieldType.int) 1 := ⟨⟨k_404, k_64, k_406⟩, by decide +kernel⟩
theorem f_X2_setRecorderOf : FactsV yX2_setRecorderOf cX2_setRecorderOf 3 (Option.none : Option Jvm.ClassFile.FieldType) 2 := ⟨⟨k_408, k_64, k_410⟩, by decide +kernel⟩
theorem f_X1_become : FactsV yX1_become cX1_become 3 (Option.none : Option Jvm.ClassFile.FieldType) 1 := ⟨⟨k_412, k_69, k_414⟩, by decide +kernel⟩
theorem f_X6_fill : FactsV yX6_fill cX6_fill 7 (Option.none : Option Jvm.ClassFile.FieldType) 1 := ⟨⟨k_418, k_79, k_420⟩, by decide +kernel⟩
theorem f_X1_open : FactsV yX1_open cX1_open 5 (Option.none : Option Jvm.ClassFile.FieldType) 3 := ⟨⟨k_422, k_69, k_424⟩, by decide +kernel⟩
theorem f_X1_clear : FactsV yX1_clear cX1_clear 1 (Option.none : Option Jvm.ClassFile.FieldType) 0 := ⟨⟨k_427, k_69, k_429⟩, by decide +kernel⟩
theorem f_J7_fill_d0a16 : FactsS yJ7_fill_d0a16 cJ7_fill_d0a16 5 (Option.none : Option Jvm.ClassFile.FieldType) 2 := ⟨⟨k_431, k_65, k_432⟩, by decide +kernel⟩
theorem f_X1_rewrite : FactsV yX1_rewrite cX1_rewrite 5 (Option.none : Option Jvm.ClassFile.FieldType) 2 := ⟨⟨k_435, k_69, k_437⟩, by decide +kernel⟩
theorem f_X1_rowToWrite : FactsV yX1_rowToWrite cX1_rowToWrite 6 (Option.some Jvm.ClassFile.FieldType.int) 2 := ⟨⟨k_440, k_69, k_441⟩, by decide +kernel⟩
theorem f_X1_firstRow : FactsV yX1_firstRow cX1_firstRow 1 (Option.some Jvm.ClassFile.FieldType.int) 0 := ⟨⟨k_444, k_69, k_445⟩, by decide +kernel⟩
theorem f_X1_mostOf : FactsV yX1_mostOf cX1_mostOf 5 (Option.some Jvm.ClassFile.FieldType.long) 1 := ⟨⟨k_448, k_69, k_449⟩, by decide +kernel⟩
theorem f_J9_max_f86c9 : FactsS yJ9_max_f86c9 cJ9_max_f86c9 4 (Option.some Jvm.ClassFile.FieldType.long) 2 := ⟨⟨k_451, k_71, k_452⟩, by decide +kernel⟩
theorem f_X1_rowThatHolds : FactsV yX1_rowThatHolds cX1_rowThatHolds 6 (Option.some Jvm.ClassFile.FieldType.int) 2 := ⟨⟨k_455, k_69, k_456⟩, by decide +kernel⟩
theorem f_X1_shelveAll : FactsV yX1_shelveAll cX1_shelveAll 4 (Option.some Jvm.ClassFile.FieldType.int) 0 := ⟨⟨k_460, k_69, k_462⟩, by decide +kernel⟩
theorem f_X1_shelfOf : FactsV yX1_shelfOf cX1_shelfOf 4 (Option.some Jvm.ClassFile.FieldType.int) 1 := ⟨⟨k_465, k_69, k_466⟩, by decide +kernel⟩
theorem f_X1_isLevel : FactsV yX1_isLevel cX1_isLevel 3 (Option.some Jvm.ClassFile.FieldType.boolean) 1 := ⟨⟨k_469, k_69, k_470⟩, by decide +kernel⟩
theorem f_X7_slot : FactsV yX7_slot cX7_slot 4 (Option.some Jvm.ClassFile.FieldType.int) 2 := ⟨⟨k_473, k_63, k_475⟩, by decide +kernel⟩
theorem f_X7_edge : FactsV yX7_edge cX7_edge 6 (Option.some Jvm.ClassFile.FieldType.long) 3 := ⟨⟨k_478, k_63, k_480⟩, by decide +kernel⟩
theorem f_X7_lowOf : FactsS yX7_lowOf cX7_lowOf 4 (Option.some Jvm.ClassFile.FieldType.long) 2 := ⟨⟨k_483, k_63, k_484⟩, by decide +kernel⟩
theorem f_X7_shiftOf : FactsS yX7_shiftOf cX7_shiftOf 2 (Option.some Jvm.ClassFile.FieldType.int) 2 := ⟨⟨k_486, k_63, k_487⟩, by decide +kernel⟩
theorem f_X7_highOf : FactsS yX7_highOf cX7_highOf 2 (Option.some Jvm.ClassFile.FieldType.long) 2 := ⟨⟨k_489, k_63, k_490⟩, by decide +kernel⟩
theorem f_X7_reachOf : FactsS yX7_reachOf cX7_reachOf 2 (Option.some Jvm.ClassFile.FieldType.long) 2 := ⟨⟨k_492, k_63, k_493⟩, by decide +kernel⟩
theorem f_X7_middleOf : FactsS yX7_middleOf cX7_middleOf 2 (Option.some Jvm.ClassFile.FieldType.long) 2 := ⟨⟨k_495, k_63, k_496⟩, by decide +kernel⟩
theorem f_X7_make : FactsV yX7_make cX7_make 7 (Option.some Jvm.ClassFile.FieldType.int) 4 := ⟨⟨k_499, k_63, k_501⟩, by decide +kernel⟩
theorem f_X7_record : FactsV yX7_record cX7_record 9 (Option.some Jvm.ClassFile.FieldType.long) 4 := ⟨⟨k_505, k_63, k_507⟩, by decide +kernel⟩
theorem f_X1_pour : FactsV yX1_pour cX1_pour 16 (Option.some Jvm.ClassFile.FieldType.boolean) 4 := ⟨⟨k_509, k_69, k_511⟩, by decide +kernel⟩
theorem f_X1_reaches : FactsV yX1_reaches cX1_reaches 3 (Option.some Jvm.ClassFile.FieldType.boolean) 1 := ⟨⟨k_513, k_69, k_515⟩, by decide +kernel⟩
theorem f_X1_awaitedIn : FactsV yX1_awaitedIn cX1_awaitedIn 8 (Option.some Jvm.ClassFile.FieldType.long) 3 := ⟨⟨k_519, k_69, k_520⟩, by decide +kernel⟩
theorem f_X7_at : FactsV yX7_at cX7_at 5 (Option.some Jvm.ClassFile.FieldType.long) 2 := ⟨⟨k_527, k_63, k_529⟩, by decide +kernel⟩
theorem f_X7_below : FactsV yX7_below cX7_below 5 (Option.some Jvm.ClassFile.FieldType.long) 2 := ⟨⟨k_532, k_63, k_534⟩, by decide +kernel⟩
theorem f_X1_unitsAhead : FactsV yX1_unitsAhead cX1_unitsAhead 7 (Option.some Jvm.ClassFile.FieldType.long) 1 := ⟨⟨k_536, k_69, k_538⟩, by decide +kernel⟩
theorem f_X7_total : FactsV yX7_total cX7_total 3 (Option.some Jvm.ClassFile.FieldType.long) 1 := ⟨⟨k_540, k_63, k_542⟩, by decide +kernel⟩
theorem f_X1_allUnits : FactsV yX1_allUnits cX1_allUnits 1 (Option.some Jvm.ClassFile.FieldType.long) 0 := ⟨⟨k_544, k_69, k_546⟩, by decide +kernel⟩
theorem f_X7_rank : FactsV yX7_rank cX7_rank 6 (Option.some Jvm.ClassFile.FieldType.long) 2 := ⟨⟨k_549, k_63, k_551⟩, by decide +kernel⟩
theorem f_X7_wanted : FactsS yX7_wanted cX7_wanted 5 (Option.some Jvm.ClassFile.FieldType.long) 2 := ⟨⟨k_554, k_63, k_555⟩, by decide +kernel⟩
theorem f_X1_valueWith : FactsV yX1_valueWith cX1_valueWith 8 (Option.some Jvm.ClassFile.FieldType.long) 1 := ⟨⟨k_559, k_69, k_561⟩, by decide +kernel⟩
theorem f_X1_cappedHigh : FactsV yX1_cappedHigh cX1_cappedHigh 2 (Option.some Jvm.ClassFile.FieldType.long) 1 := ⟨⟨k_564, k_69, k_565⟩, by decide +kernel⟩
theorem f_J9_min_f86c9 : FactsS yJ9_min_f86c9 cJ9_min_f86c9 4 (Option.some Jvm.ClassFile.FieldType.long) 2 := ⟨⟨k_568, k_71, k_569⟩, by decide +kernel⟩
theorem f_X7_about : FactsV yX7_about cX7_about 4 (Option.some Jvm.ClassFile.FieldType.long) 2 := ⟨⟨k_571, k_63, k_573⟩, by decide +kernel⟩
theorem f_X1_least : FactsV yX1_least cX1_least 1 (Option.some Jvm.ClassFile.FieldType.long) 0 := ⟨⟨k_576, k_69, k_578⟩, by decide +kernel⟩
theorem f_X1_firstUsed : FactsV yX1_firstUsed cX1_firstUsed 4 (Option.some Jvm.ClassFile.FieldType.int) 0 := ⟨⟨k_581, k_69, k_582⟩, by decide +kernel⟩
theorem f_X1_greatest : FactsV yX1_greatest cX1_greatest 1 (Option.some Jvm.ClassFile.FieldType.long) 0 := ⟨⟨k_584, k_69, k_586⟩, by decide +kernel⟩
theorem f_X1_mean : FactsV yX1_mean cX1_mean 5 (Option.some Jvm.ClassFile.FieldType.long) 0 := ⟨⟨k_588, k_69, k_590⟩, by decide +kernel⟩
theorem f_X3_init : FactsV yX3_init cX3_init 1 (Option.none : Option Jvm.ClassFile.FieldType) 0 := ⟨⟨k_594, k_76, k_595⟩, by decide +kernel⟩
theorem f_X3_include : FactsV yX3_include cX3_include 13 (Option.none : Option Jvm.ClassFile.FieldType) 2 := ⟨⟨k_612, k_76, k_614⟩, by decide +kernel⟩
theorem f_X3_dividedBy : FactsV yX3_dividedBy cX3_dividedBy 12 (Option.some Jvm.ClassFile.FieldType.long) 1 := ⟨⟨k_619, k_76, k_621⟩, by decide +kernel⟩
theorem f_X7_add : FactsV yX7_add cX7_add 3 (Option.some Jvm.ClassFile.FieldType.long) 2 := ⟨⟨k_625, k_63, k_627⟩, by decide +kernel⟩
theorem f_X7_merge : FactsV yX7_merge cX7_merge 6 (Option.some Jvm.ClassFile.FieldType.long) 3 := ⟨⟨k_630, k_63, k_631⟩, by decide +kernel⟩
theorem f_X1_canMerge : FactsV yX1_canMerge cX1_canMerge 13 (Option.some Jvm.ClassFile.FieldType.boolean) 2 := ⟨⟨k_633, k_69, k_635⟩, by decide +kernel⟩
theorem f_X1_mergeFrom : FactsV yX1_mergeFrom cX1_mergeFrom 9 (Option.none : Option Jvm.ClassFile.FieldType) 2 := ⟨⟨k_637, k_69, k_639⟩, by decide +kernel⟩
theorem f_X7_takeOff : FactsV yX7_takeOff cX7_takeOff 3 (Option.some Jvm.ClassFile.FieldType.long) 2 := ⟨⟨k_641, k_63, k_643⟩, by decide +kernel⟩
theorem f_X7_halve : FactsV yX7_halve cX7_halve 3 (Option.some Jvm.ClassFile.FieldType.long) 1 := ⟨⟨k_645, k_63, k_647⟩, by decide +kernel⟩
theorem f_X1_halveAll : FactsV yX1_halveAll cX1_halveAll 4 (Option.none : Option Jvm.ClassFile.FieldType) 0 := ⟨⟨k_649, k_69, k_651⟩, by decide +kernel⟩
theorem f_X7_same : FactsV yX7_same cX7_same 5 (Option.some Jvm.ClassFile.FieldType.int) 2 := ⟨⟨k_653, k_63, k_655⟩, by decide +kernel⟩
theorem f_X1_isLike : FactsV yX1_isLike cX1_isLike 5 (Option.some Jvm.ClassFile.FieldType.boolean) 1 := ⟨⟨k_657, k_69, k_659⟩, by decide +kernel⟩
theorem f_X7_setting : FactsV yX7_setting cX7_setting 4 (Option.some Jvm.ClassFile.FieldType.long) 2 := ⟨⟨k_661, k_63, k_663⟩, by decide +kernel⟩
theorem f_X1_usedSlots : FactsV yX1_usedSlots cX1_usedSlots 5 (Option.some Jvm.ClassFile.FieldType.int) 0 := ⟨⟨k_665, k_69, k_667⟩, by decide +kernel⟩
theorem f_X7_shelve : FactsV yX7_shelve cX7_shelve 3 (Option.some Jvm.ClassFile.FieldType.int) 1 := ⟨⟨k_669, k_63, k_671⟩, by decide +kernel⟩
theorem f_X7_kind : FactsV yX7_kind cX7_kind 4 (Option.some Jvm.ClassFile.FieldType.int) 2 := ⟨⟨k_674, k_63, k_676⟩, by decide +kernel⟩
theorem f_X1_hasPage : FactsV yX1_hasPage cX1_hasPage 2 (Option.some Jvm.ClassFile.FieldType.boolean) 1 := ⟨⟨k_678, k_69, k_680⟩, by decide +kernel⟩
theorem f_X7_room : FactsV yX7_room cX7_room 3 (Option.some Jvm.ClassFile.FieldType.int) 1 := ⟨⟨k_683, k_63, k_685⟩, by decide +kernel⟩
theorem f_X1_bytesOfPages : FactsV yX1_bytesOfPages cX1_bytesOfPages 4 (Option.some Jvm.ClassFile.FieldType.int) 0 := ⟨⟨k_687, k_69, k_689⟩, by decide +kernel⟩
theorem f_X7_peek : FactsV yX7_peek cX7_peek 10 (Option.some Jvm.ClassFile.FieldType.long) 5 := ⟨⟨k_693, k_63, k_695⟩, by decide +kernel⟩
theorem f_X1_rowOf : FactsV yX1_rowOf cX1_rowOf 2 (Option.some Jvm.ClassFile.FieldType.int) 1 := ⟨⟨k_698, k_69, k_700⟩, by decide +kernel⟩
theorem f_X7_refusal : FactsS yX7_refusal cX7_refusal 5 (Option.some Jvm.ClassFile.FieldType.int) 4 := ⟨⟨k_704, k_63, k_705⟩, by decide +kernel⟩
theorem f_X7_told : FactsS yX7_told cX7_told 5 (Option.some Jvm.ClassFile.FieldType.long) 3 := ⟨⟨k_707, k_63, k_708⟩, by decide +kernel⟩
theorem f_X7_floatBits : FactsS yX7_floatBits cX7_floatBits 11 (Option.some Jvm.ClassFile.FieldType.long) 2 := ⟨⟨k_710, k_63, k_711⟩, by decide +kernel⟩
theorem f_X7_withExponent : FactsS yX7_withExponent cX7_withExponent 4 (Option.some Jvm.ClassFile.FieldType.long) 3 := ⟨⟨k_713, k_63, k_714⟩, by decide +kernel⟩
theorem f_X7_doubleBits : FactsS yX7_doubleBits cX7_doubleBits 4 (Option.some Jvm.ClassFile.FieldType.long) 2 := ⟨⟨k_716, k_63, k_717⟩, by decide +kernel⟩
theorem f_X1_markOf : FactsV yX1_markOf cX1_markOf 2 (Option.some Jvm.ClassFile.FieldType.int) 1 := ⟨⟨k_719, k_69, k_721⟩, by decide +kernel⟩
theorem f_X7_poke : FactsV yX7_poke cX7_poke 12 (Option.some Jvm.ClassFile.FieldType.int) 6 := ⟨⟨k_723, k_63, k_725⟩, by decide +kernel⟩
theorem f_X7_isPokeHow : FactsS yX7_isPokeHow cX7_isPokeHow 1 (Option.some Jvm.ClassFile.FieldType.boolean) 1 := ⟨⟨k_727, k_63, k_728⟩, by decide +kernel⟩
theorem f_X7_isMark : FactsS yX7_isMark cX7_isMark 1 (Option.some Jvm.ClassFile.FieldType.boolean) 1 := ⟨⟨k_730, k_63, k_731⟩, by decide +kernel⟩
theorem f_X1_putMark : FactsV yX1_putMark cX1_putMark 3 (Option.none : Option Jvm.ClassFile.FieldType) 2 := ⟨⟨k_735, k_69, k_737⟩, by decide +kernel⟩
theorem f_X7_example : FactsV yX7_example cX7_example 10 (Option.some Jvm.ClassFile.FieldType.int) 4 := ⟨⟨k_741, k_63, k_743⟩, by decide +kernel⟩
theorem f_X1_putRow : FactsV yX1_putRow cX1_putRow 3 (Option.none : Option Jvm.ClassFile.FieldType) 2 := ⟨⟨k_745, k_69, k_747⟩, by decide +kernel⟩
theorem f_X7_examples : FactsV yX7_examples cX7_examples 3 (Option.some Jvm.ClassFile.FieldType.int) 1 := ⟨⟨k_749, k_63, k_751⟩, by decide +kernel⟩
theorem f_X1_marksInAll : FactsV yX1_marksInAll cX1_marksInAll 3 (Option.some Jvm.ClassFile.FieldType.int) 0 := ⟨⟨k_753, k_69, k_755⟩, by decide +kernel⟩
theorem f_X7_begin : FactsV yX7_begin cX7_begin 2 (Option.some Jvm.ClassFile.FieldType.int) 1 := ⟨⟨k_758, k_63, k_760⟩, by decide +kernel⟩
theorem f_X7_write : FactsV yX7_write cX7_write 8 (Option.some Jvm.ClassFile.FieldType.long) 4 := ⟨⟨k_764, k_63, k_766⟩, by decide +kernel⟩
theorem f_X7_stop : FactsV yX7_stop cX7_stop 2 (Option.some Jvm.ClassFile.FieldType.int) 1 := ⟨⟨k_769, k_63, k_771⟩, by decide +kernel⟩
theorem f_X2_writerBits : FactsV yX2_writerBits cX2_writerBits 3 (Option.some Jvm.ClassFile.FieldType.int) 0 := ⟨⟨k_773, k_64, k_775⟩, by decide +kernel⟩
theorem f_J6_bitCount_0f7a4 : FactsS yJ6_bitCount_0f7a4 cJ6_bitCount_0f7a4 1 (Option.some Jvm.ClassFile.FieldType.int) 1 := ⟨⟨k_777, k_75, k_778⟩, by decide +kernel⟩
theorem f_X7_swap : FactsV yX7_swap cX7_swap 2 (Option.some Jvm.ClassFile.FieldType.int) 0 := ⟨⟨k_783, k_63, k_785⟩, by decide +kernel⟩
theorem f_X2_isWrittenTo : FactsV yX2_isWrittenTo cX2_isWrittenTo 3 (Option.some Jvm.ClassFile.FieldType.boolean) 1 := ⟨⟨k_787, k_64, k_789⟩, by decide +kernel⟩
theorem f_X7_read : FactsV yX7_read cX7_read 2 (Option.some Jvm.ClassFile.FieldType.long) 0 := ⟨⟨k_792, k_63, k_794⟩, by decide +kernel⟩
theorem f_X7_undo : FactsV yX7_undo cX7_undo 3 (Option.some Jvm.ClassFile.FieldType.int) 0 := ⟨⟨k_796, k_63, k_798⟩, by decide +kernel⟩
theorem f_X0_takeLast : FactsV yX0_takeLast cX0_takeLast 1 (Option.some (Jvm.ClassFile.FieldType.object "TailRecorder$Step")) 0 := ⟨⟨k_800, k_67, k_802⟩, by decide +kernel⟩
theorem f_X7_count : FactsV yX7_count cX7_count 2 (Option.some Jvm.ClassFile.FieldType.int) 1 := ⟨⟨k_804, k_63, k_806⟩, by decide +kernel⟩
theorem f_X7_madeBits : FactsV yX7_madeBits cX7_madeBits 3 (Option.some Jvm.ClassFile.FieldType.int) 0 := ⟨⟨k_809, k_63, k_810⟩, by decide +kernel⟩
theorem f_X8_init : FactsV yX8_init cX8_init 2 (Option.none : Option Jvm.ClassFile.FieldType) 0 := ⟨⟨k_814, k_70, k_815⟩, by decide +kernel⟩
theorem f_X8_feed : FactsV yX8_feed cX8_feed 8 (Option.some Jvm.ClassFile.FieldType.int) 5 := ⟨⟨k_902, k_70, k_904⟩, by decide +kernel⟩
theorem f_X8_end : FactsV yX8_end cX8_end 2 (Option.some Jvm.ClassFile.FieldType.int) 1 := ⟨⟨k_906, k_70, k_908⟩, by decide +kernel⟩
theorem f_X8_isIn : FactsS yX8_isIn cX8_isIn 6 (Option.some Jvm.ClassFile.FieldType.boolean) 3 := ⟨⟨k_910, k_70, k_911⟩, by decide +kernel⟩
theorem f_X8_octet : FactsV yX8_octet cX8_octet 2 (Option.some Jvm.ClassFile.FieldType.int) 1 := ⟨⟨k_913, k_70, k_915⟩, by decide +kernel⟩
theorem f_X8_slot : FactsV yX8_slot cX8_slot 4 (Option.some Jvm.ClassFile.FieldType.int) 2 := ⟨⟨k_917, k_70, k_919⟩, by decide +kernel⟩
theorem f_X8_slotOf : FactsS yX8_slotOf cX8_slotOf 5 (Option.some Jvm.ClassFile.FieldType.int) 2 := ⟨⟨k_922, k_70, k_923⟩, by decide +kernel⟩
theorem f_X8_bitsOf : FactsS yX8_bitsOf cX8_bitsOf 1 (Option.some Jvm.ClassFile.FieldType.int) 1 := ⟨⟨k_925, k_70, k_926⟩, by decide +kernel⟩
theorem f_X8_lengthOf : FactsS yX8_lengthOf cX8_lengthOf 5 (Option.some Jvm.ClassFile.FieldType.int) 1 := ⟨⟨k_928, k_70, k_929⟩, by decide +kernel⟩
theorem f_X8_edge : FactsV yX8_edge cX8_edge 6 (Option.some Jvm.ClassFile.FieldType.long) 3 := ⟨⟨k_931, k_70, k_933⟩, by decide +kernel⟩
theorem f_X8_lowOf : FactsS yX8_lowOf cX8_lowOf 3 (Option.some Jvm.ClassFile.FieldType.long) 2 := ⟨⟨k_936, k_70, k_937⟩, by decide +kernel⟩
theorem f_X8_shiftOf : FactsS yX8_shiftOf cX8_shiftOf 3 (Option.some Jvm.ClassFile.FieldType.int) 2 := ⟨⟨k_939, k_70, k_940⟩, by decide +kernel⟩
theorem f_X8_highOf : FactsS yX8_highOf cX8_highOf 2 (Option.some Jvm.ClassFile.FieldType.long) 2 := ⟨⟨k_942, k_70, k_943⟩, by decide +kernel⟩
theorem f_X8_middleOf : FactsS yX8_middleOf cX8_middleOf 2 (Option.some Jvm.ClassFile.FieldType.long) 2 := ⟨⟨k_945, k_70, k_946⟩, by decide +kernel⟩
theorem f_X8_make : FactsV yX8_make cX8_make 6 (Option.some Jvm.ClassFile.FieldType.int) 4 := ⟨⟨k_948, k_70, k_950⟩, by decide +kernel⟩
theorem f_X8_keepsAct : FactsV yX8_keepsAct cX8_keepsAct 3 (Option.none : Option Jvm.ClassFile.FieldType) 0 := ⟨⟨k_956, k_70, k_957⟩, by decide +kernel⟩
theorem f_X8_moves : FactsV yX8_moves cX8_moves 3 (Option.none : Option Jvm.ClassFile.FieldType) 1 := ⟨⟨k_960, k_70, k_961⟩, by decide +kernel⟩
theorem f_X8_becomes : FactsV yX8_becomes cX8_becomes 6 (Option.none : Option Jvm.ClassFile.FieldType) 4 := ⟨⟨k_964, k_70, k_965⟩, by decide +kernel⟩
theorem f_X8_clears : FactsV yX8_clears cX8_clears 3 (Option.none : Option Jvm.ClassFile.FieldType) 1 := ⟨⟨k_968, k_70, k_969⟩, by decide +kernel⟩
theorem f_X8_of : FactsV yX8_of cX8_of 3 (Option.some Jvm.ClassFile.FieldType.int) 2 := ⟨⟨k_972, k_70, k_973⟩, by decide +kernel⟩
theorem f_X8_shelve : FactsV yX8_shelve cX8_shelve 2 (Option.some Jvm.ClassFile.FieldType.int) 1 := ⟨⟨k_975, k_70, k_977⟩, by decide +kernel⟩
theorem f_X8_isMade : FactsV yX8_isMade cX8_isMade 2 (Option.some Jvm.ClassFile.FieldType.boolean) 1 := ⟨⟨k_980, k_70, k_981⟩, by decide +kernel⟩
theorem f_X8_shelves : FactsV yX8_shelves cX8_shelves 5 (Option.some Jvm.ClassFile.FieldType.int) 1 := ⟨⟨k_984, k_70, k_985⟩, by decide +kernel⟩
theorem f_X8_pagesOf : FactsV yX8_pagesOf cX8_pagesOf 2 (Option.some Jvm.ClassFile.FieldType.int) 1 := ⟨⟨k_988, k_70, k_989⟩, by decide +kernel⟩
theorem f_X8_shelvedKind : FactsV yX8_shelvedKind cX8_shelvedKind 5 (Option.some Jvm.ClassFile.FieldType.int) 2 := ⟨⟨k_992, k_70, k_993⟩, by decide +kernel⟩
theorem f_X8_mostOf : FactsV yX8_mostOf cX8_mostOf 8 (Option.some Jvm.ClassFile.FieldType.long) 2 := ⟨⟨k_996, k_70, k_997⟩, by decide +kernel⟩
theorem f_X8_isLevel : FactsV yX8_isLevel cX8_isLevel 4 (Option.some Jvm.ClassFile.FieldType.boolean) 2 := ⟨⟨k_1000, k_70, k_1001⟩, by decide +kernel⟩
theorem f_X8_firstKind : FactsV yX8_firstKind cX8_firstKind 2 (Option.some Jvm.ClassFile.FieldType.int) 1 := ⟨⟨k_1005, k_70, k_1006⟩, by decide +kernel⟩
theorem f_X8_kindFor : FactsS yX8_kindFor cX8_kindFor 4 (Option.some Jvm.ClassFile.FieldType.int) 2 := ⟨⟨k_1008, k_70, k_1009⟩, by decide +kernel⟩
theorem f_X8_holds : FactsS yX8_holds cX8_holds 3 (Option.some Jvm.ClassFile.FieldType.boolean) 2 := ⟨⟨k_1011, k_70, k_1012⟩, by decide +kernel⟩
theorem f_X8_kind : FactsV yX8_kind cX8_kind 3 (Option.some Jvm.ClassFile.FieldType.int) 2 := ⟨⟨k_1018, k_70, k_1020⟩, by decide +kernel⟩
theorem f_X8_room : FactsV yX8_room cX8_room 4 (Option.some Jvm.ClassFile.FieldType.int) 1 := ⟨⟨k_1022, k_70, k_1024⟩, by decide +kernel⟩
theorem f_X8_roomOf : FactsS yX8_roomOf cX8_roomOf 1 (Option.some Jvm.ClassFile.FieldType.int) 1 := ⟨⟨k_1026, k_70, k_1027⟩, by decide +kernel⟩
theorem f_X8_record : FactsV yX8_record cX8_record 8 (Option.some Jvm.ClassFile.FieldType.long) 4 := ⟨⟨k_1029, k_70, k_1031⟩, by decide +kernel⟩
theorem f_X8_records : FactsV yX8_records cX8_records 8 (Option.some Jvm.ClassFile.FieldType.long) 4 := ⟨⟨k_1034, k_70, k_1035⟩, by decide +kernel⟩
theorem f_X8_laysRecording : FactsV yX8_laysRecording cX8_laysRecording 10 (Option.some Jvm.ClassFile.FieldType.boolean) 4 := ⟨⟨k_1038, k_70, k_1039⟩, by decide +kernel⟩
theorem f_X8_laysNone : FactsV yX8_laysNone cX8_laysNone 2 (Option.none : Option Jvm.ClassFile.FieldType) 0 := ⟨⟨k_1042, k_70, k_1043⟩, by decide +kernel⟩
theorem f_X8_isRoom : FactsV yX8_isRoom cX8_isRoom 3 (Option.some Jvm.ClassFile.FieldType.boolean) 1 := ⟨⟨k_1046, k_70, k_1047⟩, by decide +kernel⟩
theorem f_X8_addsLaid : FactsV yX8_addsLaid cX8_addsLaid 3 (Option.none : Option Jvm.ClassFile.FieldType) 1 := ⟨⟨k_1052, k_70, k_1053⟩, by decide +kernel⟩
theorem f_X8_writesPlace : FactsV yX8_writesPlace cX8_writesPlace 7 (Option.none : Option Jvm.ClassFile.FieldType) 3 := ⟨⟨k_1056, k_70, k_1057⟩, by decide +kernel⟩
theorem f_X8_isRow : FactsV yX8_isRow cX8_isRow 3 (Option.some Jvm.ClassFile.FieldType.boolean) 2 := ⟨⟨k_1060, k_70, k_1061⟩, by decide +kernel⟩
theorem f_X8_at : FactsV yX8_at cX8_at 4 (Option.some Jvm.ClassFile.FieldType.long) 2 := ⟨⟨k_1064, k_70, k_1066⟩, by decide +kernel⟩
theorem f_X8_below : FactsV yX8_below cX8_below 4 (Option.some Jvm.ClassFile.FieldType.long) 2 := ⟨⟨k_1068, k_70, k_1070⟩, by decide +kernel⟩
theorem f_X8_sumOf : FactsV yX8_sumOf cX8_sumOf 6 (Option.some Jvm.ClassFile.FieldType.long) 2 := ⟨⟨k_1073, k_70, k_1074⟩, by decide +kernel⟩
theorem f_X8_total : FactsV yX8_total cX8_total 2 (Option.some Jvm.ClassFile.FieldType.long) 1 := ⟨⟨k_1076, k_70, k_1078⟩, by decide +kernel⟩
theorem f_X8_totalOf : FactsV yX8_totalOf cX8_totalOf 2 (Option.some Jvm.ClassFile.FieldType.long) 1 := ⟨⟨k_1081, k_70, k_1082⟩, by decide +kernel⟩
theorem f_X8_rank : FactsV yX8_rank cX8_rank 10 (Option.some Jvm.ClassFile.FieldType.long) 2 := ⟨⟨k_1084, k_70, k_1086⟩, by decide +kernel⟩
theorem f_X8_highAt : FactsV yX8_highAt cX8_highAt 5 (Option.some Jvm.ClassFile.FieldType.long) 2 := ⟨⟨k_1090, k_70, k_1091⟩, by decide +kernel⟩
theorem f_X8_about : FactsV yX8_about cX8_about 5 (Option.some Jvm.ClassFile.FieldType.long) 2 := ⟨⟨k_1093, k_70, k_1095⟩, by decide +kernel⟩
theorem f_X8_firstSlot : FactsV yX8_firstSlot cX8_firstSlot 3 (Option.some Jvm.ClassFile.FieldType.int) 1 := ⟨⟨k_1098, k_70, k_1099⟩, by decide +kernel⟩
theorem f_X8_lastSlot : FactsV yX8_lastSlot cX8_lastSlot 3 (Option.some Jvm.ClassFile.FieldType.int) 1 := ⟨⟨k_1102, k_70, k_1103⟩, by decide +kernel⟩
theorem f_X8_meanOf : FactsV yX8_meanOf cX8_meanOf 12 (Option.some Jvm.ClassFile.FieldType.long) 2 := ⟨⟨k_1106, k_70, k_1107⟩, by decide +kernel⟩
theorem f_X8_add : FactsV yX8_add cX8_add 3 (Option.some Jvm.ClassFile.FieldType.long) 2 := ⟨⟨k_1109, k_70, k_1111⟩, by decide +kernel⟩
theorem f_X8_laysOther : FactsV yX8_laysOther cX8_laysOther 8 (Option.some Jvm.ClassFile.FieldType.boolean) 2 := ⟨⟨k_1114, k_70, k_1115⟩, by decide +kernel⟩
theorem f_X8_takeOff : FactsV yX8_takeOff cX8_takeOff 4 (Option.some Jvm.ClassFile.FieldType.long) 2 := ⟨⟨k_1118, k_70, k_1120⟩, by decide +kernel⟩
theorem f_X8_isEnough : FactsV yX8_isEnough cX8_isEnough 3 (Option.some Jvm.ClassFile.FieldType.boolean) 1 := ⟨⟨k_1123, k_70, k_1124⟩, by decide +kernel⟩
theorem f_X8_halve : FactsV yX8_halve cX8_halve 3 (Option.some Jvm.ClassFile.FieldType.long) 1 := ⟨⟨k_1126, k_70, k_1128⟩, by decide +kernel⟩
theorem f_X8_peek : FactsV yX8_peek cX8_peek 8 (Option.some Jvm.ClassFile.FieldType.long) 5 := ⟨⟨k_1130, k_70, k_1132⟩, by decide +kernel⟩
theorem f_X8_isPage : FactsV yX8_isPage cX8_isPage 3 (Option.some Jvm.ClassFile.FieldType.boolean) 2 := ⟨⟨k_1135, k_70, k_1136⟩, by decide +kernel⟩
theorem f_X8_tells : FactsS yX8_tells cX8_tells 2 (Option.some Jvm.ClassFile.FieldType.boolean) 2 := ⟨⟨k_1142, k_70, k_1143⟩, by decide +kernel⟩
theorem f_X8_toldBy : FactsS yX8_toldBy cX8_toldBy 5 (Option.some Jvm.ClassFile.FieldType.long) 3 := ⟨⟨k_1145, k_70, k_1146⟩, by decide +kernel⟩
theorem f_Jxe99ae_doubleToLongBits_ccdee : FactsS yJxe99ae_doubleToLongBits_ccdee cJxe99ae_doubleToLongBits_ccdee 2 (Option.some Jvm.ClassFile.FieldType.long) 1 := ⟨⟨k_1149, k_77, k_1150⟩, by decide +kernel⟩
theorem f_Jxe99ae_isNaN_b9ae7 : FactsS yJxe99ae_isNaN_b9ae7 cJxe99ae_isNaN_b9ae7 2 (Option.some Jvm.ClassFile.FieldType.boolean) 1 := ⟨⟨k_1152, k_77, k_1153⟩, by decide +kernel⟩
theorem f_Jxf58ca_floatToIntBits_5c35a : FactsS yJxf58ca_floatToIntBits_5c35a cJxf58ca_floatToIntBits_5c35a 1 (Option.some Jvm.ClassFile.FieldType.int) 1 := ⟨⟨k_1159, k_78, k_1160⟩, by decide +kernel⟩
theorem f_Jxf58ca_isNaN_12338 : FactsS yJxf58ca_isNaN_12338 cJxf58ca_isNaN_12338 1 (Option.some Jvm.ClassFile.FieldType.boolean) 1 := ⟨⟨k_1162, k_78, k_1163⟩, by decide +kernel⟩
theorem f_X8_poke : FactsV yX8_poke cX8_poke 10 (Option.some Jvm.ClassFile.FieldType.int) 6 := ⟨⟨k_1170, k_70, k_1172⟩, by decide +kernel⟩
theorem f_X8_isHow : FactsS yX8_isHow cX8_isHow 1 (Option.some Jvm.ClassFile.FieldType.boolean) 1 := ⟨⟨k_1174, k_70, k_1175⟩, by decide +kernel⟩
theorem f_X8_takes : FactsS yX8_takes cX8_takes 2 (Option.some Jvm.ClassFile.FieldType.boolean) 2 := ⟨⟨k_1180, k_70, k_1181⟩, by decide +kernel⟩
theorem f_X8_example : FactsV yX8_example cX8_example 9 (Option.some Jvm.ClassFile.FieldType.int) 4 := ⟨⟨k_1184, k_70, k_1186⟩, by decide +kernel⟩
theorem f_X8_examples : FactsV yX8_examples cX8_examples 4 (Option.some Jvm.ClassFile.FieldType.int) 1 := ⟨⟨k_1188, k_70, k_1190⟩, by decide +kernel⟩
theorem f_X8_pack : FactsV yX8_pack cX8_pack 3 (Option.some Jvm.ClassFile.FieldType.int) 1 := ⟨⟨k_1192, k_70, k_1194⟩, by decide +kernel⟩
theorem f_X8_packs : FactsV yX8_packs cX8_packs 7 (Option.some Jvm.ClassFile.FieldType.boolean) 1 := ⟨⟨k_1197, k_70, k_1198⟩, by decide +kernel⟩
theorem f_X8_puts : FactsV yX8_puts cX8_puts 2 (Option.some Jvm.ClassFile.FieldType.boolean) 1 := ⟨⟨k_1201, k_70, k_1202⟩, by decide +kernel⟩
theorem f_X8_putsNumber : FactsV yX8_putsNumber cX8_putsNumber 5 (Option.some Jvm.ClassFile.FieldType.boolean) 1 := ⟨⟨k_1205, k_70, k_1206⟩, by decide +kernel⟩
theorem f_X8_unpack : FactsV yX8_unpack cX8_unpack 4 (Option.some Jvm.ClassFile.FieldType.int) 1 := ⟨⟨k_1208, k_70, k_1210⟩, by decide +kernel⟩
theorem f_X8_readsHead : FactsV yX8_readsHead cX8_readsHead 1 (Option.some Jvm.ClassFile.FieldType.boolean) 0 := ⟨⟨k_1213, k_70, k_1214⟩, by decide +kernel⟩
theorem f_X8_fails : FactsV yX8_fails cX8_fails 3 (Option.some Jvm.ClassFile.FieldType.boolean) 2 := ⟨⟨k_1217, k_70, k_1218⟩, by decide +kernel⟩
theorem f_X8_readsNumber : FactsV yX8_readsNumber cX8_readsNumber 5 (Option.some Jvm.ClassFile.FieldType.boolean) 0 := ⟨⟨k_1221, k_70, k_1222⟩, by decide +kernel⟩
theorem f_X8_readsSlots : FactsV yX8_readsSlots cX8_readsSlots 8 (Option.some Jvm.ClassFile.FieldType.boolean) 0 := ⟨⟨k_1226, k_70, k_1227⟩, by decide +kernel⟩
theorem f_X8_begin : FactsV yX8_begin cX8_begin 2 (Option.some Jvm.ClassFile.FieldType.int) 1 := ⟨⟨k_1229, k_70, k_1231⟩, by decide +kernel⟩
theorem f_X8_isWriting : FactsV yX8_isWriting cX8_isWriting 2 (Option.some Jvm.ClassFile.FieldType.boolean) 1 := ⟨⟨k_1234, k_70, k_1235⟩, by decide +kernel⟩
theorem f_X8_write : FactsV yX8_write cX8_write 8 (Option.some Jvm.ClassFile.FieldType.long) 4 := ⟨⟨k_1237, k_70, k_1239⟩, by decide +kernel⟩
theorem f_X8_stop : FactsV yX8_stop cX8_stop 2 (Option.some Jvm.ClassFile.FieldType.int) 1 := ⟨⟨k_1241, k_70, k_1243⟩, by decide +kernel⟩
theorem f_X8_writing : FactsV yX8_writing cX8_writing 3 (Option.some Jvm.ClassFile.FieldType.int) 0 := ⟨⟨k_1246, k_70, k_1247⟩, by decide +kernel⟩
theorem f_X8_swap : FactsV yX8_swap cX8_swap 1 (Option.some Jvm.ClassFile.FieldType.int) 0 := ⟨⟨k_1249, k_70, k_1251⟩, by decide +kernel⟩
theorem f_X8_isWrittenTo : FactsV yX8_isWrittenTo cX8_isWrittenTo 3 (Option.some Jvm.ClassFile.FieldType.boolean) 1 := ⟨⟨k_1254, k_70, k_1255⟩, by decide +kernel⟩
theorem f_X8_read : FactsV yX8_read cX8_read 1 (Option.some Jvm.ClassFile.FieldType.long) 0 := ⟨⟨k_1257, k_70, k_1259⟩, by decide +kernel⟩
theorem f_X8_undo : FactsV yX8_undo cX8_undo 3 (Option.some Jvm.ClassFile.FieldType.int) 0 := ⟨⟨k_1261, k_70, k_1263⟩, by decide +kernel⟩
theorem f_X8_same : FactsV yX8_same cX8_same 4 (Option.some Jvm.ClassFile.FieldType.int) 2 := ⟨⟨k_1265, k_70, k_1267⟩, by decide +kernel⟩
theorem f_X8_count : FactsV yX8_count cX8_count 2 (Option.some Jvm.ClassFile.FieldType.int) 1 := ⟨⟨k_1269, k_70, k_1271⟩, by decide +kernel⟩
theorem f_X8_madeSet : FactsV yX8_madeSet cX8_madeSet 3 (Option.some Jvm.ClassFile.FieldType.int) 0 := ⟨⟨k_1274, k_70, k_1275⟩, by decide +kernel⟩
theorem f_X8_writersSet : FactsV yX8_writersSet cX8_writersSet 3 (Option.some Jvm.ClassFile.FieldType.int) 0 := ⟨⟨k_1278, k_70, k_1279⟩, by decide +kernel⟩
theorem f_X8_setting : FactsV yX8_setting cX8_setting 3 (Option.some Jvm.ClassFile.FieldType.long) 2 := ⟨⟨k_1281, k_70, k_1283⟩, by decide +kernel⟩
theorem f_X8_filled : FactsV yX8_filled cX8_filled 4 (Option.some Jvm.ClassFile.FieldType.int) 1 := ⟨⟨k_1286, k_70, k_1287⟩, by decide +kernel⟩
theorem f_imax : Cond.static Lib.Math.max.name ∈ TT ∧ Cond.initialized "java/lang/Math" ∈ TT ∧ Cond.code Lib.Math.max.name Lib.Math.max.code 2 (Option.some Jvm.ClassFile.FieldType.int) ∈ TT := ⟨k_299, k_71, k_300⟩
theorem f_imin : Cond.static Lib.Math.min.name ∈ TT ∧ Cond.initialized "java/lang/Math" ∈ TT ∧ Cond.code Lib.Math.min.name Lib.Math.min.code 2 (Option.some Jvm.ClassFile.FieldType.int) ∈ TT := ⟨k_286, k_71, k_287⟩
theorem f_lmax : Cond.static Lib.MathLoose.max_long.x ∈ TT ∧ Cond.initialized "java/lang/Math" ∈ TT ∧ Cond.code Lib.MathLoose.max_long.x Lib.MathLoose.max_long.code 4 (Option.some Jvm.ClassFile.FieldType.long) ∈ TT := ⟨k_451, k_71, k_452⟩
theorem f_lmin : Cond.static Lib.MathLoose.min_long.x ∈ TT ∧ Cond.initialized "java/lang/Math" ∈ TT ∧ Cond.code Lib.MathLoose.min_long.x Lib.MathLoose.min_long.code 4 (Option.some Jvm.ClassFile.FieldType.long) ∈ TT := ⟨k_568, k_71, k_569⟩
set_option maxHeartbeats 4000000 in
set_option maxRecDepth 100000 in
theorem c_fillJ {l : Launch} {D : va_G} {cB cI cJ cL cS : ClassId} {T : Nat × Nat × Nat × Nat} {a : Nat} (N : Nat) (hN : N < 2 ^ 31) {f : Nat → Int64} {v : Int64} : CtV l D (Z5 cB cI cJ cL cS) T yJ7_fill_d0a16 cJ7_fill_d0a16 5 ({ frames := 0, cells := 0, slots := 0, locals := 0 } : Room) none [.ref a, .long v] [(a, .inl (cJ, N, .inr (.inl f)))] (fun (u : Nat → Int64) => [(a, .inl (cJ, N, .inr (.inl u)))]) (fun (u : Nat → Int64) => ∀ j : Nat, j < N → u j = v) 0 0 := by
  refine ctV_of (own := RJ7) (by decide +kernel) rfl (Nat.le_of_ble_eq_true rfl) (fun p e s m below meth c A C => ?_)
  refine w_sub (lv' := [(0, .ref a), (1, .long v)]) C [0, 1] rfl ?_
  refine w_iconst C (v := (0 : Int32)) dJ7_fill_d0a16_0 (by decide) ?_
  refine w_istore_n C (fun x => [(3, .int x), (0, .ref a), (1, .long v)]) dJ7_fill_d0a16_1 (by decide) (fun _ => rfl) (fun x3 e3 => ?_)
  refine w_aload_n C 1 dJ7_fill_d0a16_2 rfl ?_
  refine w_alen C (v := nI N) 0 2 rfl rfl rfl dJ7_fill_d0a16_3 ?_
  refine w_istore C (fun x => [(4, .int x), (3, .int x3), (0, .ref a), (1, .long v)]) dJ7_fill_d0a16_4 (by decide) (fun _ => rfl) (fun x4 e4 => ?_)
  subst e4
  have key : ∀ (n i : Nat) (u : Nat → Int64), i ≤ N → N + 1 ≤ i + n → (∀ j : Nat, j < i → u j = v) → ww p l e ({ frames := 0, cells := 0, slots := 0, locals := 0 } : Room) s m #[Value.ref a, Value.long v] below meth c D A 5 (MQ below (va_Qv (fun (u : Nat → Int64) => ∀ j : Nat, j < N → u j = v) (OutP D (fun (u : Nat → Int64) => [(a, .inl (cJ, N, .inr (.inl u)))])) A) #[Value.ref a, Value.long v] s 0 0 A) 0 0 [(a, .inl (cJ, N, .inr (.inl u)))] 6 [(4, .int (nI N)), (3, .int (nI i)), (0, .ref a), (1, .long v)] [] := by
    intro n
    induction n with
    | zero => intro i u h1 h2; exact absurd h2 (by omega)
    | succ n ih =>
      intro i u h1 h2 h3
      refine w_iload_n C 1 dJ7_fill_d0a16_6 rfl ?_
      refine w_iload C 0 dJ7_fill_d0a16_7 rfl ?_
      refine w_icmp_ge C 22 (by decide) dJ7_fill_d0a16_9 (fun q => ?_) (fun q => ?_)
      · have hi : ¬ i < N := fun z => nI_ge z hN q
        exact w_vret C u (fun j hj => h3 j (by omega)) rfl (Nat.le_of_ble_eq_true rfl) (Nat.le_of_ble_eq_true rfl) dJ7_fill_d0a16_22
      · have hi : i < N := by
          rcases Nat.lt_or_ge i N with z | z
          · exact z
          · exact absurd (nI_le z (by omega)) q
        refine w_aload_n C 2 dJ7_fill_d0a16_12 rfl ?_
        refine w_iload_n C 1 dJ7_fill_d0a16_13 rfl ?_
        refine w_lload_n C 3 dJ7_fill_d0a16_14 rfl ?_
        refine w_lastore C 0 2 (fun z => [(a, .inl (cJ, N, .inr (.inl z)))]) rfl rfl (vp_in_nI hi hN) (fun _ => rfl) dJ7_fill_d0a16_15 (fun u2 e2 => ?_)
        refine w_iinc C (v := nI (i + 1)) 1 (fun x => [(3, .int x), (4, .int (nI N)), (0, .ref a), (1, .long v)]) dJ7_fill_d0a16_16 rfl (by rw [nI_succ]; rfl) (by decide) (fun _ => rfl) (fun x5 e5 => ?_)
        subst e5
        refine w_goto C 6 (by decide) dJ7_fill_d0a16_19 ?_
        refine w_sub (lv' := [(4, .int (nI N)), (3, .int (nI (i + 1))), (0, .ref a), (1, .long v)]) C [1, 0, 2, 3] rfl ?_
        refine ih (i + 1) u2 hi (by omega) (fun j hj => ?_)
        rw [e2, nI_clamp (by omega)]
        by_cases z : j = i
        · subst z; exact pk_uLs
        · rw [pk_uLn z]; exact h3 j (by omega)
  rw [e3]
  exact key (N + 1) 0 f (Nat.zero_le _) (by omega) (fun j hj => absurd hj (Nat.not_lt_zero _))
set_option maxHeartbeats 4000000 in
set_option maxRecDepth 100000 in
theorem c_fillI {l : Launch} {D : va_G} {cB cI cJ cL cS : ClassId} {T : Nat × Nat × Nat × Nat} {a : Nat} (N : Nat) (hN : N < 2 ^ 31) {f : Nat → Int32} {v : Int32} : CtV l D (Z5 cB cI cJ cL cS) T yJ7_fill_53178 cJ7_fill_53178 4 ({ frames := 0, cells := 0, slots := 0, locals := 0 } : Room) none [.ref a, .int v] [(a, .inl (cI, N, .inl f))] (fun (u : Nat → Int32) => [(a, .inl (cI, N, .inl u))]) (fun (u : Nat → Int32) => ∀ j : Nat, j < N → u j = v) 0 0 := by
  refine ctV_of (own := RJ7) (by decide +kernel) rfl (Nat.le_of_ble_eq_true rfl) (fun p e s m below meth c A C => ?_)
  refine w_sub (lv' := [(0, .ref a), (1, .int v)]) C [0, 1] rfl ?_
  refine w_iconst C (v := (0 : Int32)) dJ7_fill_53178_0 (by decide) ?_
  refine w_istore_n C (fun x => [(2, .int x), (0, .ref a), (1, .int v)]) dJ7_fill_53178_1 (by decide) (fun _ => rfl) (fun x3 e3 => ?_)
  refine w_aload_n C 1 dJ7_fill_53178_2 rfl ?_
  refine w_alen C (v := nI N) 0 1 rfl rfl rfl dJ7_fill_53178_3 ?_
  refine w_istore_n C (fun x => [(3, .int x), (2, .int x3), (0, .ref a), (1, .int v)]) dJ7_fill_53178_4 (by decide) (fun _ => rfl) (fun x4 e4 => ?_)
  subst e4
  have key : ∀ (n i : Nat) (u : Nat → Int32), i ≤ N → N + 1 ≤ i + n → (∀ j : Nat, j < i → u j = v) → ww p l e ({ frames := 0, cells := 0, slots := 0, locals := 0 } : Room) s m #[Value.ref a, Value.int v] below meth c D A 4 (MQ below (va_Qv (fun (u : Nat → Int32) => ∀ j : Nat, j < N → u j = v) (OutP D (fun (u : Nat → Int32) => [(a, .inl (cI, N, .inl u))])) A) #[Value.ref a, Value.int v] s 0 0 A) 0 0 [(a, .inl (cI, N, .inl u))] 5 [(3, .int (nI N)), (2, .int (nI i)), (0, .ref a), (1, .int v)] [] := by
    intro n
    induction n with
    | zero => intro i u h1 h2; exact absurd h2 (by omega)
    | succ n ih =>
      intro i u h1 h2 h3
      refine w_iload_n C 1 dJ7_fill_53178_5 rfl ?_
      refine w_iload_n C 0 dJ7_fill_53178_6 rfl ?_
      refine w_icmp_ge C 20 (by decide) dJ7_fill_53178_7 (fun q => ?_) (fun q => ?_)
      · have hi : ¬ i < N := fun z => nI_ge z hN q
        exact w_vret C u (fun j hj => h3 j (by omega)) rfl (Nat.le_of_ble_eq_true rfl) (Nat.le_of_ble_eq_true rfl) dJ7_fill_53178_20
      · have hi : i < N := by
          rcases Nat.lt_or_ge i N with z | z
          · exact z
          · exact absurd (nI_le z (by omega)) q
        refine w_aload_n C 2 dJ7_fill_53178_10 rfl ?_
        refine w_iload_n C 1 dJ7_fill_53178_11 rfl ?_
        refine w_iload_n C 3 dJ7_fill_53178_12 rfl ?_
        refine w_iastore C 0 1 (fun z => [(a, .inl (cI, N, .inl z))]) rfl rfl (vp_in_nI hi hN) (fun _ => rfl) dJ7_fill_53178_13 (fun u2 e2 => ?_)
        refine w_iinc C (v := nI (i + 1)) 1 (fun x => [(2, .int x), (3, .int (nI N)), (0, .ref a), (1, .int v)]) dJ7_fill_53178_14 rfl (by rw [nI_succ]; rfl) (by decide) (fun _ => rfl) (fun x5 e5 => ?_)
        subst e5
        refine w_goto C 5 (by decide) dJ7_fill_53178_17 ?_
        refine w_sub (lv' := [(3, .int (nI N)), (2, .int (nI (i + 1))), (0, .ref a), (1, .int v)]) C [1, 0, 2, 3] rfl ?_
        refine ih (i + 1) u2 hi (by omega) (fun j hj => ?_)
        rw [e2, nI_clamp (by omega)]
        by_cases z : j = i
        · subst z; exact pk_us
        · rw [pk_un z]; exact h3 j (by omega)
  rw [e3]
  exact key (N + 1) 0 f (Nat.zero_le _) (by omega) (fun j hj => absurd hj (Nat.not_lt_zero _))
