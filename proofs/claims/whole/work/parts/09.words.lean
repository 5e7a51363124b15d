/-! ===== the tables' words, each by its place (by program, gen_words.py) ===== -/
theorem ab_in1 (w : Cond) (h : w ∈ tables_1_1) (hg : goodWord w = true) : w ∈ ab_tb := List.mem_filter.mpr ⟨List.mem_append_right _ (List.mem_append_left _ (h)), hg⟩
theorem ab_in2 (w : Cond) (h : w ∈ tables_1_2) (hg : goodWord w = true) : w ∈ ab_tb := List.mem_filter.mpr ⟨List.mem_append_right _ (List.mem_append_right _ (List.mem_append_left _ (h))), hg⟩
theorem ab_in3 (w : Cond) (h : w ∈ tables_1_3) (hg : goodWord w = true) : w ∈ ab_tb := List.mem_filter.mpr ⟨List.mem_append_right _ (List.mem_append_right _ (List.mem_append_right _ (List.mem_append_left _ (h)))), hg⟩
theorem ab_in4 (w : Cond) (h : w ∈ tables_1_4) (hg : goodWord w = true) : w ∈ ab_tb := List.mem_filter.mpr ⟨List.mem_append_right _ (List.mem_append_right _ (List.mem_append_right _ (List.mem_append_right _ (List.mem_append_left _ (h))))), hg⟩
theorem ab_in5 (w : Cond) (h : w ∈ tables_1_5) (hg : goodWord w = true) : w ∈ ab_tb := List.mem_filter.mpr ⟨List.mem_append_right _ (List.mem_append_right _ (List.mem_append_right _ (List.mem_append_right _ (List.mem_append_right _ (List.mem_append_left _ (h)))))), hg⟩
theorem ab_in6 (w : Cond) (h : w ∈ tables_1_6) (hg : goodWord w = true) : w ∈ ab_tb := List.mem_filter.mpr ⟨List.mem_append_right _ (List.mem_append_right _ (List.mem_append_right _ (List.mem_append_right _ (List.mem_append_right _ (List.mem_append_right _ (List.mem_append_left _ (h))))))), hg⟩
theorem ab_in7 (w : Cond) (h : w ∈ tables_1_7) (hg : goodWord w = true) : w ∈ ab_tb := List.mem_filter.mpr ⟨List.mem_append_right _ (List.mem_append_right _ (List.mem_append_right _ (List.mem_append_right _ (List.mem_append_right _ (List.mem_append_right _ (List.mem_append_right _ (List.mem_append_left _ (h)))))))), hg⟩
theorem ab_in8 (w : Cond) (h : w ∈ tables_1_8) (hg : goodWord w = true) : w ∈ ab_tb := List.mem_filter.mpr ⟨List.mem_append_right _ (List.mem_append_right _ (List.mem_append_right _ (List.mem_append_right _ (List.mem_append_right _ (List.mem_append_right _ (List.mem_append_right _ (List.mem_append_right _ (List.mem_append_left _ (h))))))))), hg⟩
theorem ab_in9 (w : Cond) (h : w ∈ tables_1_9) (hg : goodWord w = true) : w ∈ ab_tb := List.mem_filter.mpr ⟨List.mem_append_right _ (List.mem_append_right _ (List.mem_append_right _ (List.mem_append_right _ (List.mem_append_right _ (List.mem_append_right _ (List.mem_append_right _ (List.mem_append_right _ (List.mem_append_right _ (h))))))))), hg⟩
theorem ab_inp1 (w : Cond) (h : w ∈ k2_sels lw_privs_1) (hg : goodWord w = true) : w ∈ ab_tb := by
  obtain ⟨q, h1, h2⟩ := List.mem_map.mp h
  exact List.mem_filter.mpr ⟨List.mem_append_left _ (List.mem_map.mpr ⟨q, List.mem_append_left _ (h1), h2⟩), hg⟩
theorem ab_inp2 (w : Cond) (h : w ∈ k2_sels lw_privs_2) (hg : goodWord w = true) : w ∈ ab_tb := by
  obtain ⟨q, h1, h2⟩ := List.mem_map.mp h
  exact List.mem_filter.mpr ⟨List.mem_append_left _ (List.mem_map.mpr ⟨q, List.mem_append_right _ (List.mem_append_left _ (h1)), h2⟩), hg⟩
theorem ab_inp3 (w : Cond) (h : w ∈ k2_sels lw_privs_3) (hg : goodWord w = true) : w ∈ ab_tb := by
  obtain ⟨q, h1, h2⟩ := List.mem_map.mp h
  exact List.mem_filter.mpr ⟨List.mem_append_left _ (List.mem_map.mpr ⟨q, List.mem_append_right _ (List.mem_append_right _ (List.mem_append_left _ (h1))), h2⟩), hg⟩
theorem ab_inp4 (w : Cond) (h : w ∈ k2_sels lw_privs_4) (hg : goodWord w = true) : w ∈ ab_tb := by
  obtain ⟨q, h1, h2⟩ := List.mem_map.mp h
  exact List.mem_filter.mpr ⟨List.mem_append_left _ (List.mem_map.mpr ⟨q, List.mem_append_right _ (List.mem_append_right _ (List.mem_append_right _ (List.mem_append_left _ (h1)))), h2⟩), hg⟩
theorem ab_inp5 (w : Cond) (h : w ∈ k2_sels lw_privs_5) (hg : goodWord w = true) : w ∈ ab_tb := by
  obtain ⟨q, h1, h2⟩ := List.mem_map.mp h
  exact List.mem_filter.mpr ⟨List.mem_append_left _ (List.mem_map.mpr ⟨q, List.mem_append_right _ (List.mem_append_right _ (List.mem_append_right _ (List.mem_append_right _ (List.mem_append_left _ (h1))))), h2⟩), hg⟩
theorem ab_inp6 (w : Cond) (h : w ∈ k2_sels lw_privs_6) (hg : goodWord w = true) : w ∈ ab_tb := by
  obtain ⟨q, h1, h2⟩ := List.mem_map.mp h
  exact List.mem_filter.mpr ⟨List.mem_append_left _ (List.mem_map.mpr ⟨q, List.mem_append_right _ (List.mem_append_right _ (List.mem_append_right _ (List.mem_append_right _ (List.mem_append_right _ (List.mem_append_left _ (h1)))))), h2⟩), hg⟩
theorem ab_inp7 (w : Cond) (h : w ∈ k2_sels lw_privs_7) (hg : goodWord w = true) : w ∈ ab_tb := by
  obtain ⟨q, h1, h2⟩ := List.mem_map.mp h
  exact List.mem_filter.mpr ⟨List.mem_append_left _ (List.mem_map.mpr ⟨q, List.mem_append_right _ (List.mem_append_right _ (List.mem_append_right _ (List.mem_append_right _ (List.mem_append_right _ (List.mem_append_right _ (h1)))))), h2⟩), hg⟩
theorem kw_e382c795c0 : Cond.initialized "HungFacesLaw" ∈ ab_tb := ab_in1 _ (List.mem_of_getElem? (i := 0) rfl) rfl
theorem kw_62b61b7ad3 : Cond.initialized "HungFaces" ∈ ab_tb := ab_in1 _ (List.mem_of_getElem? (i := 1) rfl) rfl
theorem kw_0069db34e3 : Cond.initialized "HungFaces$Law" ∈ ab_tb := ab_in1 _ (List.mem_of_getElem? (i := 2) rfl) rfl
theorem kw_c3645950e5 : Cond.initialized "java/lang/Math" ∈ ab_tb := ab_in1 _ (List.mem_of_getElem? (i := 3) rfl) rfl
theorem kw_65fe9e2a2b : Cond.initialized "HungFaces$Tape" ∈ ab_tb := ab_in1 _ (List.mem_of_getElem? (i := 4) rfl) rfl
theorem kw_a869362287 : Cond.initialized "HungFaces$State" ∈ ab_tb := ab_in1 _ (List.mem_of_getElem? (i := 5) rfl) rfl
theorem kw_06778cebd2 : Cond.initialized "HungFaces$Log" ∈ ab_tb := ab_in1 _ (List.mem_of_getElem? (i := 6) rfl) rfl
theorem kw_3ce11cf026 : Cond.initialized "java/util/Arrays" ∈ ab_tb := ab_in1 _ (List.mem_of_getElem? (i := 7) rfl) rfl
theorem kw_252be10908 : Cond.initialized "HungFaces$Past" ∈ ab_tb := ab_in1 _ (List.mem_of_getElem? (i := 8) rfl) rfl
theorem kw_284a064ce4 : Cond.initialized "HungFaces$Cutter" ∈ ab_tb := ab_in1 _ (List.mem_of_getElem? (i := 9) rfl) rfl
theorem kw_564260d124 : Cond.initialized "HungFaces$TextReader" ∈ ab_tb := ab_in1 _ (List.mem_of_getElem? (i := 10) rfl) rfl
theorem kw_9c5cf83101 : Cond.initialized "HungFaces$DoorReader" ∈ ab_tb := ab_in1 _ (List.mem_of_getElem? (i := 11) rfl) rfl
theorem kw_c1639047af : Cond.initialized "HungFaces$LawReader" ∈ ab_tb := ab_in1 _ (List.mem_of_getElem? (i := 12) rfl) rfl
theorem kw_7a4ae534b5 : Cond.initialized "HungFaces$Said" ∈ ab_tb := ab_in1 _ (List.mem_of_getElem? (i := 13) rfl) rfl
theorem kw_c0673d947a : Cond.initialized "HungFaces$Market" ∈ ab_tb := ab_in1 _ (List.mem_of_getElem? (i := 14) rfl) rfl
theorem kw_30b3f7d7c6 : Cond.initialized "HungFacesModel" ∈ ab_tb := ab_in1 _ (List.mem_of_getElem? (i := 15) rfl) rfl
theorem kw_4ab949b2e2 : Cond.initialized "java/lang/String" ∈ ab_tb := ab_in1 _ (List.mem_of_getElem? (i := 16) rfl) rfl
theorem kw_427013edf0 : Cond.initialized "java/lang/StringLatin1" ∈ ab_tb := ab_in1 _ (List.mem_of_getElem? (i := 17) rfl) rfl
theorem kw_486cb45063 : Cond.initialized "jdk/internal/util/Preconditions" ∈ ab_tb := ab_in1 _ (List.mem_of_getElem? (i := 18) rfl) rfl
theorem kw_968cd42d7c : Cond.initialized "java/lang/StringUTF16" ∈ ab_tb := ab_in1 _ (List.mem_of_getElem? (i := 19) rfl) rfl
theorem kw_eddd547dac : Cond.initialized "java/lang/System" ∈ ab_tb := ab_in1 _ (List.mem_of_getElem? (i := 20) rfl) rfl
theorem kw_74dceafcc4 : Cond.initialized "java/lang/Throwable" ∈ ab_tb := ab_in1 _ (List.mem_of_getElem? (i := 21) rfl) rfl
theorem kw_a78310d53e : Cond.initialized "java/lang/Exception" ∈ ab_tb := ab_in1 _ (List.mem_of_getElem? (i := 22) rfl) rfl
theorem kw_1bf81849cc : Cond.initialized "java/lang/RuntimeException" ∈ ab_tb := ab_in1 _ (List.mem_of_getElem? (i := 23) rfl) rfl
theorem kw_aece5bb2b1 : Cond.initialized "java/lang/IllegalArgumentException" ∈ ab_tb := ab_in1 _ (List.mem_of_getElem? (i := 24) rfl) rfl
theorem kw_f75a9724e0 : Cond.initialized "java/lang/UnsupportedOperationException" ∈ ab_tb := ab_in1 _ (List.mem_of_getElem? (i := 25) rfl) rfl
theorem kw_f96c1aa156 : Cond.initialized "java/lang/IndexOutOfBoundsException" ∈ ab_tb := ab_in1 _ (List.mem_of_getElem? (i := 26) rfl) rfl
theorem kw_07ed4d2a7f : Cond.initialized "java/util/NoSuchElementException" ∈ ab_tb := ab_in1 _ (List.mem_of_getElem? (i := 27) rfl) rfl
theorem kw_609cc98142 : Cond.initialized "java/lang/IllegalStateException" ∈ ab_tb := ab_in1 _ (List.mem_of_getElem? (i := 28) rfl) rfl
theorem kw_8b11e55748 : Cond.initialized "java/lang/Integer" ∈ ab_tb := ab_in1 _ (List.mem_of_getElem? (i := 29) rfl) rfl
theorem kw_9f24be8112 : Cond.classLink "HungFacesLaw" 8 "HungFaces" ∈ ab_tb := ab_in1 _ (List.mem_of_getElem? (i := 30) rfl) rfl
theorem kw_79188535fa : Cond.instantiable "HungFaces" 11 ∈ ab_tb := ab_in1 _ (List.mem_of_getElem? (i := 31) rfl) rfl
theorem kw_4bf560daf9 : Cond.methodLink "HungFacesLaw" 118 yX11_init ∈ ab_tb := ab_in1 _ (List.mem_of_getElem? (i := 32) rfl) rfl
theorem kw_34453529c4 : Cond.instanceMethod yX11_init ∈ ab_tb := ab_in1 _ (List.mem_of_getElem? (i := 33) rfl) rfl
theorem kw_71822d604c : Cond.code yX11_init cX11_init 3 none ∈ ab_tb := ab_in1 _ (List.mem_of_getElem? (i := 34) rfl) rfl
theorem kw_25b5eb70d8 : Cond.methodLink "HungFaces" 1 ⟨"java/lang/Object", "<init>", "()V"⟩ ∈ ab_tb := ab_in1 _ (List.mem_of_getElem? (i := 35) rfl) rfl
theorem kw_3e5ce616d8 : Cond.instanceMethod ⟨"java/lang/Object", "<init>", "()V"⟩ ∈ ab_tb := ab_in1 _ (List.mem_of_getElem? (i := 36) rfl) rfl
theorem kw_90b5ae3dba : Cond.code objectInit ⟨#[0xb1]⟩ 1 none ∈ ab_tb := ab_in1 _ (List.mem_of_getElem? (i := 37) rfl) rfl
theorem kw_be440b0eb3 : Cond.classLink "HungFaces" 7 "HungFaces$Law" ∈ ab_tb := ab_in1 _ (List.mem_of_getElem? (i := 38) rfl) rfl
theorem kw_94bfbe3342 : Cond.instantiable "HungFaces$Law" 3 ∈ ab_tb := ab_in1 _ (List.mem_of_getElem? (i := 39) rfl) rfl
theorem kw_36c729004d : Cond.methodLink "HungFaces" 11 yX2_init ∈ ab_tb := ab_in1 _ (List.mem_of_getElem? (i := 40) rfl) rfl
theorem kw_89b138e392 : Cond.instanceMethod yX2_init ∈ ab_tb := ab_in1 _ (List.mem_of_getElem? (i := 41) rfl) rfl
theorem kw_06d7f937b8 : Cond.code yX2_init cX2_init 3 none ∈ ab_tb := ab_in1 _ (List.mem_of_getElem? (i := 42) rfl) rfl
theorem kw_85734ee1d3 : Cond.methodLink "HungFaces$Law" 3 ⟨"java/lang/Object", "<init>", "()V"⟩ ∈ ab_tb := ab_in1 _ (List.mem_of_getElem? (i := 43) rfl) rfl
theorem kw_881f9b9da5 : Cond.methodLink "HungFaces$Law" 19 yJ9_max_7cf53 ∈ ab_tb := ab_in1 _ (List.mem_of_getElem? (i := 44) rfl) rfl
theorem kw_cd9e564d81 : Cond.static yJ9_max_7cf53 ∈ ab_tb := ab_in1 _ (List.mem_of_getElem? (i := 45) rfl) rfl
theorem kw_6646532787 : Cond.code yJ9_max_7cf53 cJ9_max_7cf53 2 (some .int) ∈ ab_tb := ab_in1 _ (List.mem_of_getElem? (i := 46) rfl) rfl
theorem kw_a8f041ab6f : Cond.fieldLink "HungFaces$Law" 15 "HungFaces$Law" "lines" "I" ∈ ab_tb := ab_in1 _ (List.mem_of_getElem? (i := 47) rfl) rfl
theorem kw_1bf7635260 : Cond.fieldLink "HungFaces" 128 "HungFaces$Law" "lines" "I" ∈ ab_tb := ab_in1 _ (List.mem_of_getElem? (i := 48) rfl) rfl
theorem kw_82bac2eeb4 : Cond.fieldLink "HungFaces$Law" 25 "HungFaces$Law" "code" "[I" ∈ ab_tb := ab_in1 _ (List.mem_of_getElem? (i := 49) rfl) rfl
theorem kw_df876ddaab : Cond.fieldLink "HungFaces$Law" 9 "HungFaces$Law" "stack" "[I" ∈ ab_tb := ab_in1 _ (List.mem_of_getElem? (i := 50) rfl) rfl
theorem kw_b5d2f4680e : Cond.arrayClass Jvm.ClassFile.FieldType.int ∈ ab_tb := ab_in1 _ (List.mem_of_getElem? (i := 58) rfl) rfl
theorem kw_5bf64fe815 : Cond.classLink "HungFaces" 14 "HungFaces$Tape" ∈ ab_tb := ab_in1 _ (List.mem_of_getElem? (i := 59) rfl) rfl
theorem kw_3717d64de8 : Cond.instantiable "HungFaces$Tape" 2 ∈ ab_tb := ab_in1 _ (List.mem_of_getElem? (i := 60) rfl) rfl
theorem kw_0255b2231e : Cond.instanceMethod yX9_init ∈ ab_tb := ab_in1 _ (List.mem_of_getElem? (i := 62) rfl) rfl
theorem kw_94eef37604 : Cond.code yX9_init cX9_init 1 none ∈ ab_tb := ab_in1 _ (List.mem_of_getElem? (i := 63) rfl) rfl
theorem kw_c37b3403bb : Cond.methodLink "HungFaces$Tape" 3 ⟨"java/lang/Object", "<init>", "()V"⟩ ∈ ab_tb := ab_in1 _ (List.mem_of_getElem? (i := 64) rfl) rfl
theorem kw_9c1f7c9728 : Cond.fieldLink "HungFaces$Tape" 9 "HungFaces$Tape" "bytes" "[I" ∈ ab_tb := ab_in1 _ (List.mem_of_getElem? (i := 65) rfl) rfl
theorem kw_9e5251b172 : Cond.fieldLink "HungFaces" 84 "HungFaces$Tape" "length" "I" ∈ ab_tb := ab_in1 _ (List.mem_of_getElem? (i := 66) rfl) rfl
theorem kw_ee7e4750cc : Cond.fieldLink "HungFaces$Tape" 15 "HungFaces$Tape" "length" "I" ∈ ab_tb := ab_in1 _ (List.mem_of_getElem? (i := 67) rfl) rfl
theorem kw_a521e56c5b : Cond.fieldLink "HungFaces$Said" 38 "HungFaces$Tape" "length" "I" ∈ ab_tb := ab_in1 _ (List.mem_of_getElem? (i := 68) rfl) rfl
theorem kw_b3a7d165a5 : Cond.fieldLink "HungFaces$Cutter" 29 "HungFaces$Tape" "length" "I" ∈ ab_tb := ab_in1 _ (List.mem_of_getElem? (i := 69) rfl) rfl
theorem kw_4bb695162e : Cond.classLink "HungFaces" 21 "HungFaces$State" ∈ ab_tb := ab_in1 _ (List.mem_of_getElem? (i := 75) rfl) rfl
theorem kw_2c41f44828 : Cond.instantiable "HungFaces$State" 18 ∈ ab_tb := ab_in1 _ (List.mem_of_getElem? (i := 76) rfl) rfl
theorem kw_73cc50e2e1 : Cond.methodLink "HungFaces" 23 yX8_init ∈ ab_tb := ab_in1 _ (List.mem_of_getElem? (i := 77) rfl) rfl
theorem kw_9235d33151 : Cond.instanceMethod yX8_init ∈ ab_tb := ab_in1 _ (List.mem_of_getElem? (i := 78) rfl) rfl
theorem kw_9635c25e63 : Cond.code yX8_init cX8_init 2 none ∈ ab_tb := ab_in1 _ (List.mem_of_getElem? (i := 79) rfl) rfl
theorem kw_16838330eb : Cond.methodLink "HungFaces$State" 3 ⟨"java/lang/Object", "<init>", "()V"⟩ ∈ ab_tb := ab_in1 _ (List.mem_of_getElem? (i := 80) rfl) rfl
theorem kw_47985f4953 : Cond.classLink "HungFaces$State" 18 "HungFaces$Log" ∈ ab_tb := ab_in1 _ (List.mem_of_getElem? (i := 81) rfl) rfl
theorem kw_30b1a15709 : Cond.instantiable "HungFaces$Log" 3 ∈ ab_tb := ab_in1 _ (List.mem_of_getElem? (i := 82) rfl) rfl
theorem kw_891ce07921 : Cond.instanceMethod yX4_init ∈ ab_tb := ab_in1 _ (List.mem_of_getElem? (i := 84) rfl) rfl
theorem kw_197f2085db : Cond.code yX4_init cX4_init 1 none ∈ ab_tb := ab_in1 _ (List.mem_of_getElem? (i := 85) rfl) rfl
theorem kw_d4f68bb669 : Cond.methodLink "HungFaces$Log" 3 ⟨"java/lang/Object", "<init>", "()V"⟩ ∈ ab_tb := ab_in1 _ (List.mem_of_getElem? (i := 86) rfl) rfl
theorem kw_a2fcd6506e : Cond.fieldLink "HungFaces$Log" 9 "HungFaces$Log" "cells" "[J" ∈ ab_tb := ab_in1 _ (List.mem_of_getElem? (i := 87) rfl) rfl
theorem kw_c605154314 : Cond.fieldLink "HungFaces$Log" 21 "HungFaces$Log" "rows" "I" ∈ ab_tb := ab_in1 _ (List.mem_of_getElem? (i := 88) rfl) rfl
theorem kw_8aeb1c35de : Cond.fieldLink "HungFaces" 352 "HungFaces$Log" "rows" "I" ∈ ab_tb := ab_in1 _ (List.mem_of_getElem? (i := 89) rfl) rfl
theorem kw_4142701b16 : Cond.fieldLink "HungFaces$Log" 25 "HungFaces$Log" "nextRow" "I" ∈ ab_tb := ab_in1 _ (List.mem_of_getElem? (i := 90) rfl) rfl
theorem kw_c205ee8a62 : Cond.arrayClass Jvm.ClassFile.FieldType.long ∈ ab_tb := ab_in1 _ (List.mem_of_getElem? (i := 98) rfl) rfl
theorem kw_52fa57294b : Cond.methodLink "HungFaces$State" 57 yJ7_fill_53178 ∈ ab_tb := ab_in1 _ (List.mem_of_getElem? (i := 99) rfl) rfl
theorem kw_7d558e229b : Cond.static yJ7_fill_53178 ∈ ab_tb := ab_in1 _ (List.mem_of_getElem? (i := 100) rfl) rfl
theorem kw_dcb52b59ce : Cond.code yJ7_fill_53178 cJ7_fill_53178 4 none ∈ ab_tb := ab_in1 _ (List.mem_of_getElem? (i := 101) rfl) rfl
theorem kw_e4029279b0 : Cond.fieldLink "HungFaces$State" 63 "HungFaces$State" "people" "I" ∈ ab_tb := ab_in1 _ (List.mem_of_getElem? (i := 102) rfl) rfl
theorem kw_477168c563 : Cond.fieldLink "HungFaces$Market" 24 "HungFaces$State" "people" "I" ∈ ab_tb := ab_in1 _ (List.mem_of_getElem? (i := 103) rfl) rfl
theorem kw_2cddf85344 : Cond.fieldLink "HungFaces$DoorReader" 90 "HungFaces$State" "people" "I" ∈ ab_tb := ab_in1 _ (List.mem_of_getElem? (i := 104) rfl) rfl
theorem kw_f24d1d8cd5 : Cond.fieldLink "HungFaces" 180 "HungFaces$State" "people" "I" ∈ ab_tb := ab_in1 _ (List.mem_of_getElem? (i := 105) rfl) rfl
theorem kw_b9f4e5e06f : Cond.fieldLink "HungFaces$State" 9 "HungFaces$State" "hooks" "I" ∈ ab_tb := ab_in1 _ (List.mem_of_getElem? (i := 106) rfl) rfl
theorem kw_eea1447ffa : Cond.fieldLink "HungFaces$DoorReader" 74 "HungFaces$State" "hooks" "I" ∈ ab_tb := ab_in1 _ (List.mem_of_getElem? (i := 107) rfl) rfl
theorem kw_0b39f61e92 : Cond.fieldLink "HungFaces" 257 "HungFaces$State" "hooks" "I" ∈ ab_tb := ab_in1 _ (List.mem_of_getElem? (i := 108) rfl) rfl
theorem kw_820a2edb31 : Cond.fieldLink "HungFaces$State" 66 "HungFaces$State" "hour" "I" ∈ ab_tb := ab_in1 _ (List.mem_of_getElem? (i := 109) rfl) rfl
theorem kw_1cec1e4163 : Cond.fieldLink "HungFaces" 373 "HungFaces$State" "hour" "I" ∈ ab_tb := ab_in1 _ (List.mem_of_getElem? (i := 110) rfl) rfl
theorem kw_3c19b47d41 : Cond.fieldLink "HungFaces$State" 69 "HungFaces$State" "mix" "I" ∈ ab_tb := ab_in1 _ (List.mem_of_getElem? (i := 111) rfl) rfl
theorem kw_f930b7cc35 : Cond.fieldLink "HungFaces$DoorReader" 78 "HungFaces$State" "mix" "I" ∈ ab_tb := ab_in1 _ (List.mem_of_getElem? (i := 112) rfl) rfl
theorem kw_3bab25ef47 : Cond.fieldLink "HungFaces" 376 "HungFaces$State" "mix" "I" ∈ ab_tb := ab_in1 _ (List.mem_of_getElem? (i := 113) rfl) rfl
theorem kw_f49183602c : Cond.fieldLink "HungFaces$State" 72 "HungFaces$State" "thief" "I" ∈ ab_tb := ab_in1 _ (List.mem_of_getElem? (i := 114) rfl) rfl
theorem kw_8461984beb : Cond.fieldLink "HungFaces$DoorReader" 81 "HungFaces$State" "thief" "I" ∈ ab_tb := ab_in1 _ (List.mem_of_getElem? (i := 115) rfl) rfl
theorem kw_28546fdfd0 : Cond.fieldLink "HungFaces" 379 "HungFaces$State" "thief" "I" ∈ ab_tb := ab_in1 _ (List.mem_of_getElem? (i := 116) rfl) rfl
theorem kw_f02d739f66 : Cond.fieldLink "HungFaces$State" 15 "HungFaces$State" "seed" "I" ∈ ab_tb := ab_in1 _ (List.mem_of_getElem? (i := 117) rfl) rfl
theorem kw_ca39cf94ba : Cond.fieldLink "HungFaces" 334 "HungFaces$State" "seed" "I" ∈ ab_tb := ab_in1 _ (List.mem_of_getElem? (i := 118) rfl) rfl
theorem kw_4cf4de23a7 : Cond.fieldLink "HungFaces$State" 75 "HungFaces$State" "texts" "I" ∈ ab_tb := ab_in1 _ (List.mem_of_getElem? (i := 119) rfl) rfl
theorem kw_a8cae229b7 : Cond.fieldLink "HungFaces" 102 "HungFaces$State" "texts" "I" ∈ ab_tb := ab_in1 _ (List.mem_of_getElem? (i := 120) rfl) rfl
theorem kw_e4bc2b3f90 : Cond.fieldLink "HungFaces$State" 53 "HungFaces$State" "law" "LHungFaces$Law;" ∈ ab_tb := ab_in1 _ (List.mem_of_getElem? (i := 121) rfl) rfl
theorem kw_db2b3c379b : Cond.fieldLink "HungFaces" 124 "HungFaces$State" "law" "LHungFaces$Law;" ∈ ab_tb := ab_in1 _ (List.mem_of_getElem? (i := 122) rfl) rfl
theorem kw_24bdf1315e : Cond.fieldLink "HungFaces$State" 21 "HungFaces$State" "log" "LHungFaces$Log;" ∈ ab_tb := ab_in1 _ (List.mem_of_getElem? (i := 123) rfl) rfl
theorem kw_469e62afe5 : Cond.fieldLink "HungFaces" 348 "HungFaces$State" "log" "LHungFaces$Log;" ∈ ab_tb := ab_in1 _ (List.mem_of_getElem? (i := 124) rfl) rfl
theorem kw_9c44bf415f : Cond.fieldLink "HungFaces$State" 25 "HungFaces$State" "faceMarks" "[I" ∈ ab_tb := ab_in1 _ (List.mem_of_getElem? (i := 125) rfl) rfl
theorem kw_7f3e0329ac : Cond.fieldLink "HungFaces" 159 "HungFaces$State" "faceMarks" "[I" ∈ ab_tb := ab_in1 _ (List.mem_of_getElem? (i := 126) rfl) rfl
theorem kw_81dcc02d66 : Cond.fieldLink "HungFaces$State" 29 "HungFaces$State" "maskMarks" "[I" ∈ ab_tb := ab_in1 _ (List.mem_of_getElem? (i := 127) rfl) rfl
theorem kw_71666e70ca : Cond.fieldLink "HungFaces" 134 "HungFaces$State" "maskMarks" "[I" ∈ ab_tb := ab_in1 _ (List.mem_of_getElem? (i := 128) rfl) rfl
theorem kw_a35fdec95e : Cond.fieldLink "HungFaces$State" 32 "HungFaces$State" "wears" "[I" ∈ ab_tb := ab_in1 _ (List.mem_of_getElem? (i := 129) rfl) rfl
theorem kw_0e5de4e36d : Cond.fieldLink "HungFaces$Market" 30 "HungFaces$State" "wears" "[I" ∈ ab_tb := ab_in1 _ (List.mem_of_getElem? (i := 130) rfl) rfl
theorem kw_7142800102 : Cond.fieldLink "HungFaces" 138 "HungFaces$State" "wears" "[I" ∈ ab_tb := ab_in1 _ (List.mem_of_getElem? (i := 131) rfl) rfl
theorem kw_cb229e0239 : Cond.fieldLink "HungFaces$State" 35 "HungFaces$State" "tickets" "[I" ∈ ab_tb := ab_in1 _ (List.mem_of_getElem? (i := 132) rfl) rfl
theorem kw_eddb40906a : Cond.fieldLink "HungFaces" 141 "HungFaces$State" "tickets" "[I" ∈ ab_tb := ab_in1 _ (List.mem_of_getElem? (i := 133) rfl) rfl
theorem kw_87d58e7f95 : Cond.fieldLink "HungFaces$State" 38 "HungFaces$State" "spouses" "[I" ∈ ab_tb := ab_in1 _ (List.mem_of_getElem? (i := 134) rfl) rfl
theorem kw_31b585b32d : Cond.fieldLink "HungFaces" 144 "HungFaces$State" "spouses" "[I" ∈ ab_tb := ab_in1 _ (List.mem_of_getElem? (i := 135) rfl) rfl
theorem kw_a88d281792 : Cond.fieldLink "HungFaces$DoorReader" 121 "HungFaces$State" "spouses" "[I" ∈ ab_tb := ab_in1 _ (List.mem_of_getElem? (i := 136) rfl) rfl
theorem kw_5da63037ab : Cond.fieldLink "HungFaces$State" 41 "HungFaces$State" "knows" "[I" ∈ ab_tb := ab_in1 _ (List.mem_of_getElem? (i := 137) rfl) rfl
theorem kw_6ce0a8a391 : Cond.fieldLink "HungFaces" 147 "HungFaces$State" "knows" "[I" ∈ ab_tb := ab_in1 _ (List.mem_of_getElem? (i := 138) rfl) rfl
theorem kw_c1b6a39bf7 : Cond.fieldLink "HungFaces$DoorReader" 124 "HungFaces$State" "knows" "[I" ∈ ab_tb := ab_in1 _ (List.mem_of_getElem? (i := 139) rfl) rfl
theorem kw_e04860d972 : Cond.fieldLink "HungFaces$State" 44 "HungFaces$State" "thinks" "[I" ∈ ab_tb := ab_in1 _ (List.mem_of_getElem? (i := 140) rfl) rfl
theorem kw_10ca28e377 : Cond.fieldLink "HungFaces" 189 "HungFaces$State" "thinks" "[I" ∈ ab_tb := ab_in1 _ (List.mem_of_getElem? (i := 141) rfl) rfl
theorem kw_6661018f8f : Cond.fieldLink "HungFaces$State" 47 "HungFaces$State" "wishes" "[I" ∈ ab_tb := ab_in1 _ (List.mem_of_getElem? (i := 142) rfl) rfl
theorem kw_bf327f1c6d : Cond.fieldLink "HungFaces$Market" 49 "HungFaces$State" "wishes" "[I" ∈ ab_tb := ab_in1 _ (List.mem_of_getElem? (i := 143) rfl) rfl
theorem kw_7bff572ce2 : Cond.fieldLink "HungFaces" 183 "HungFaces$State" "wishes" "[I" ∈ ab_tb := ab_in1 _ (List.mem_of_getElem? (i := 144) rfl) rfl
theorem kw_8ba2afe56d : Cond.fieldLink "HungFaces$State" 50 "HungFaces$State" "hung" "[I" ∈ ab_tb := ab_in1 _ (List.mem_of_getElem? (i := 145) rfl) rfl
theorem kw_991866c442 : Cond.fieldLink "HungFaces" 177 "HungFaces$State" "hung" "[I" ∈ ab_tb := ab_in1 _ (List.mem_of_getElem? (i := 146) rfl) rfl
theorem kw_54d7dc853b : Cond.classLink "HungFaces" 36 "HungFaces$Past" ∈ ab_tb := ab_in1 _ (List.mem_of_getElem? (i := 184) rfl) rfl
theorem kw_4f09a742d1 : Cond.instantiable "HungFaces$Past" 3 ∈ ab_tb := ab_in1 _ (List.mem_of_getElem? (i := 185) rfl) rfl
theorem kw_c9cfe67345 : Cond.methodLink "HungFaces" 38 yX6_init ∈ ab_tb := ab_in1 _ (List.mem_of_getElem? (i := 186) rfl) rfl
theorem kw_cde69b1455 : Cond.instanceMethod yX6_init ∈ ab_tb := ab_in1 _ (List.mem_of_getElem? (i := 187) rfl) rfl
theorem kw_c0a783dfe9 : Cond.code yX6_init cX6_init 3 none ∈ ab_tb := ab_in1 _ (List.mem_of_getElem? (i := 188) rfl) rfl
theorem kw_d76795631b : Cond.methodLink "HungFaces$Past" 3 ⟨"java/lang/Object", "<init>", "()V"⟩ ∈ ab_tb := ab_in1 _ (List.mem_of_getElem? (i := 189) rfl) rfl
theorem kw_0983522d55 : Cond.classLink "HungFaces$Past" 9 "HungFaces$State" ∈ ab_tb := ab_in1 _ (List.mem_of_getElem? (i := 190) rfl) rfl
theorem kw_ee2f48e8ee : Cond.methodLink "HungFaces$Past" 17 yX8_init ∈ ab_tb := ab_in1 _ (List.mem_of_getElem? (i := 192) rfl) rfl
theorem kw_805964c26f : Cond.fieldLink "HungFaces$Past" 11 "HungFaces$Past" "states" "[LHungFaces$State;" ∈ ab_tb := ab_in1 _ (List.mem_of_getElem? (i := 193) rfl) rfl
theorem kw_b0445ca2d3 : Cond.fieldLink "HungFaces$Past" 24 "HungFaces$Past" "first" "I" ∈ ab_tb := ab_in1 _ (List.mem_of_getElem? (i := 194) rfl) rfl
theorem kw_e3ea5116ac : Cond.fieldLink "HungFaces$Past" 20 "HungFaces$Past" "size" "I" ∈ ab_tb := ab_in1 _ (List.mem_of_getElem? (i := 195) rfl) rfl
theorem kw_459fe3e788 : Cond.fieldLink "HungFaces" 385 "HungFaces$Past" "size" "I" ∈ ab_tb := ab_in1 _ (List.mem_of_getElem? (i := 196) rfl) rfl
theorem kw_69939e130d : Cond.classLink "HungFaces" 43 "HungFaces$Cutter" ∈ ab_tb := ab_in1 _ (List.mem_of_getElem? (i := 204) rfl) rfl
theorem kw_c32a25656b : Cond.instantiable "HungFaces$Cutter" 5 ∈ ab_tb := ab_in1 _ (List.mem_of_getElem? (i := 205) rfl) rfl
theorem kw_30f2a429ae : Cond.methodLink "HungFaces" 45 yX0_init ∈ ab_tb := ab_in1 _ (List.mem_of_getElem? (i := 206) rfl) rfl
theorem kw_0b14fbdd2c : Cond.instanceMethod yX0_init ∈ ab_tb := ab_in1 _ (List.mem_of_getElem? (i := 207) rfl) rfl
theorem kw_60548edafd : Cond.code yX0_init cX0_init 2 none ∈ ab_tb := ab_in1 _ (List.mem_of_getElem? (i := 208) rfl) rfl
theorem kw_ef5a62e6b9 : Cond.methodLink "HungFaces$Cutter" 3 ⟨"java/lang/Object", "<init>", "()V"⟩ ∈ ab_tb := ab_in1 _ (List.mem_of_getElem? (i := 209) rfl) rfl
theorem kw_123f6f3cc6 : Cond.fieldLink "HungFaces$Cutter" 21 "HungFaces$Cutter" "tape" "LHungFaces$Tape;" ∈ ab_tb := ab_in1 _ (List.mem_of_getElem? (i := 210) rfl) rfl
theorem kw_e01c56dfe3 : Cond.fieldLink "HungFaces$Cutter" 9 "HungFaces$Cutter" "kinds" "[I" ∈ ab_tb := ab_in1 _ (List.mem_of_getElem? (i := 211) rfl) rfl
theorem kw_ef0dfa5806 : Cond.fieldLink "HungFaces$Cutter" 15 "HungFaces$Cutter" "begins" "[I" ∈ ab_tb := ab_in1 _ (List.mem_of_getElem? (i := 212) rfl) rfl
theorem kw_948dfad1e9 : Cond.fieldLink "HungFaces$Cutter" 18 "HungFaces$Cutter" "ends" "[I" ∈ ab_tb := ab_in1 _ (List.mem_of_getElem? (i := 213) rfl) rfl
theorem kw_a610ef6262 : Cond.fieldLink "HungFaces$Cutter" 45 "HungFaces$Cutter" "at" "I" ∈ ab_tb := ab_in1 _ (List.mem_of_getElem? (i := 214) rfl) rfl
theorem kw_7eee0ace2f : Cond.classLink "HungFaces" 48 "HungFaces$DoorReader" ∈ ab_tb := ab_in1 _ (List.mem_of_getElem? (i := 226) rfl) rfl
theorem kw_c94e1a1a8b : Cond.instantiable "HungFaces$DoorReader" 7 ∈ ab_tb := ab_in1 _ (List.mem_of_getElem? (i := 227) rfl) rfl
theorem kw_ec0ddf06c6 : Cond.methodLink "HungFaces" 50 yX1_init ∈ ab_tb := ab_in1 _ (List.mem_of_getElem? (i := 228) rfl) rfl
theorem kw_05c796293e : Cond.instanceMethod yX1_init ∈ ab_tb := ab_in1 _ (List.mem_of_getElem? (i := 229) rfl) rfl
theorem kw_9a1b3a33f2 : Cond.code yX1_init cX1_init 4 none ∈ ab_tb := ab_in1 _ (List.mem_of_getElem? (i := 230) rfl) rfl
theorem kw_039b9f854d : Cond.methodLink "HungFaces$DoorReader" 3 yX10_init ∈ ab_tb := ab_in1 _ (List.mem_of_getElem? (i := 231) rfl) rfl
theorem kw_5cf7b5f4c3 : Cond.instanceMethod yX10_init ∈ ab_tb := ab_in1 _ (List.mem_of_getElem? (i := 232) rfl) rfl
theorem kw_e889e5871b : Cond.code yX10_init cX10_init 3 none ∈ ab_tb := ab_in1 _ (List.mem_of_getElem? (i := 233) rfl) rfl
theorem kw_b90bc2242b : Cond.methodLink "HungFaces$TextReader" 3 ⟨"java/lang/Object", "<init>", "()V"⟩ ∈ ab_tb := ab_in1 _ (List.mem_of_getElem? (i := 234) rfl) rfl
theorem kw_902e51a40f : Cond.fieldLink "HungFaces$DoorReader" 15 "HungFaces$DoorReader" "now" "LHungFaces$State;" ∈ ab_tb := ab_in1 _ (List.mem_of_getElem? (i := 235) rfl) rfl
theorem kw_a3785f8df5 : Cond.fieldLink "HungFaces$DoorReader" 19 "HungFaces$DoorReader" "draft" "LHungFaces$State;" ∈ ab_tb := ab_in1 _ (List.mem_of_getElem? (i := 236) rfl) rfl
theorem kw_9d9b9d8825 : Cond.fieldLink "HungFaces$DoorReader" 9 "HungFaces$DoorReader" "toldFaces" "[I" ∈ ab_tb := ab_in1 _ (List.mem_of_getElem? (i := 237) rfl) rfl
theorem kw_b36ea4d996 : Cond.fieldLink "HungFaces$TextReader" 9 "HungFaces$TextReader" "cutter" "LHungFaces$Cutter;" ∈ ab_tb := ab_in1 _ (List.mem_of_getElem? (i := 238) rfl) rfl
theorem kw_5eb5999dca : Cond.fieldLink "HungFaces$DoorReader" 28 "HungFaces$DoorReader" "cutter" "LHungFaces$Cutter;" ∈ ab_tb := ab_in1 _ (List.mem_of_getElem? (i := 239) rfl) rfl
theorem kw_6a61a7f83a : Cond.fieldLink "HungFaces$LawReader" 19 "HungFaces$LawReader" "cutter" "LHungFaces$Cutter;" ∈ ab_tb := ab_in2 _ (List.mem_of_getElem? (i := 1) rfl) rfl
theorem kw_5d156dbbfb : Cond.fieldLink "HungFaces$TextReader" 15 "HungFaces$TextReader" "mostLines" "I" ∈ ab_tb := ab_in2 _ (List.mem_of_getElem? (i := 3) rfl) rfl
theorem kw_63ca8c8ee9 : Cond.fieldLink "HungFaces$TextReader" 19 "HungFaces$TextReader" "wrongByte" "I" ∈ ab_tb := ab_in2 _ (List.mem_of_getElem? (i := 4) rfl) rfl
theorem kw_2da0326e3f : Cond.fieldLink "HungFaces$LawReader" 54 "HungFaces$LawReader" "lines" "I" ∈ ab_tb := ab_in2 _ (List.mem_of_getElem? (i := 5) rfl) rfl
theorem kw_5dc59aea9f : Cond.fieldLink "HungFaces$TextReader" 22 "HungFaces$TextReader" "lines" "I" ∈ ab_tb := ab_in2 _ (List.mem_of_getElem? (i := 7) rfl) rfl
theorem kw_5fc9bb5b3b : Cond.classLink "HungFaces" 57 "HungFaces$LawReader" ∈ ab_tb := ab_in2 _ (List.mem_of_getElem? (i := 23) rfl) rfl
theorem kw_d368eafe48 : Cond.instantiable "HungFaces$LawReader" 6 ∈ ab_tb := ab_in2 _ (List.mem_of_getElem? (i := 24) rfl) rfl
theorem kw_6261927462 : Cond.methodLink "HungFaces" 59 yX3_init ∈ ab_tb := ab_in2 _ (List.mem_of_getElem? (i := 25) rfl) rfl
theorem kw_7dea033f9f : Cond.instanceMethod yX3_init ∈ ab_tb := ab_in2 _ (List.mem_of_getElem? (i := 26) rfl) rfl
theorem kw_82cc971c6b : Cond.code yX3_init cX3_init 2 none ∈ ab_tb := ab_in2 _ (List.mem_of_getElem? (i := 27) rfl) rfl
theorem kw_1854f0df33 : Cond.methodLink "HungFaces$LawReader" 3 yX10_init ∈ ab_tb := ab_in2 _ (List.mem_of_getElem? (i := 28) rfl) rfl
theorem kw_ec5d29589d : Cond.fieldLink "HungFaces$LawReader" 9 "HungFaces$LawReader" "code" "[I" ∈ ab_tb := ab_in2 _ (List.mem_of_getElem? (i := 29) rfl) rfl
theorem kw_dbe59339e7 : Cond.fieldLink "HungFaces$LawReader" 15 "HungFaces$LawReader" "size" "I" ∈ ab_tb := ab_in2 _ (List.mem_of_getElem? (i := 30) rfl) rfl
theorem kw_a73866eb83 : Cond.classLink "HungFaces" 66 "HungFaces$Said" ∈ ab_tb := ab_in2 _ (List.mem_of_getElem? (i := 40) rfl) rfl
theorem kw_e0c74b5556 : Cond.instantiable "HungFaces$Said" 9 ∈ ab_tb := ab_in2 _ (List.mem_of_getElem? (i := 41) rfl) rfl
theorem kw_33772d6053 : Cond.instanceMethod yX7_init ∈ ab_tb := ab_in2 _ (List.mem_of_getElem? (i := 43) rfl) rfl
theorem kw_b5690207f4 : Cond.code yX7_init cX7_init 1 none ∈ ab_tb := ab_in2 _ (List.mem_of_getElem? (i := 44) rfl) rfl
theorem kw_8825f2d268 : Cond.methodLink "HungFaces$Said" 3 ⟨"java/lang/Object", "<init>", "()V"⟩ ∈ ab_tb := ab_in2 _ (List.mem_of_getElem? (i := 45) rfl) rfl
theorem kw_d36f358377 : Cond.fieldLink "HungFaces$Said" 9 "HungFaces$Said" "persons" "[I" ∈ ab_tb := ab_in2 _ (List.mem_of_getElem? (i := 46) rfl) rfl
theorem kw_16ec5a8b2d : Cond.fieldLink "HungFaces$Said" 15 "HungFaces$Said" "faces" "[I" ∈ ab_tb := ab_in2 _ (List.mem_of_getElem? (i := 47) rfl) rfl
theorem kw_b65876c956 : Cond.fieldLink "HungFaces$Said" 18 "HungFaces$Said" "are" "[Z" ∈ ab_tb := ab_in2 _ (List.mem_of_getElem? (i := 48) rfl) rfl
theorem kw_0c864148b6 : Cond.fieldLink "HungFaces$Said" 22 "HungFaces$Said" "allowed" "[I" ∈ ab_tb := ab_in2 _ (List.mem_of_getElem? (i := 49) rfl) rfl
theorem kw_1d222a9a6c : Cond.fieldLink "HungFaces$Said" 25 "HungFaces$Said" "ownerOf" "[I" ∈ ab_tb := ab_in2 _ (List.mem_of_getElem? (i := 50) rfl) rfl
theorem kw_304737f5b9 : Cond.fieldLink "HungFaces$Said" 28 "HungFaces$Said" "orders" "[I" ∈ ab_tb := ab_in2 _ (List.mem_of_getElem? (i := 51) rfl) rfl
theorem kw_d4bd9bab76 : Cond.fieldLink "HungFaces$Said" 31 "HungFaces$Said" "people" "I" ∈ ab_tb := ab_in2 _ (List.mem_of_getElem? (i := 52) rfl) rfl
theorem kw_973bc370fb : Cond.fieldLink "HungFaces$Said" 35 "HungFaces$Said" "size" "I" ∈ ab_tb := ab_in2 _ (List.mem_of_getElem? (i := 53) rfl) rfl
theorem kw_3386c906a2 : Cond.fieldLink "HungFaces$Said" 89 "HungFaces$Said" "tried" "I" ∈ ab_tb := ab_in2 _ (List.mem_of_getElem? (i := 54) rfl) rfl
theorem kw_93b502cba4 : Cond.arrayClass Jvm.ClassFile.FieldType.boolean ∈ ab_tb := ab_in2 _ (List.mem_of_getElem? (i := 74) rfl) rfl
theorem kw_2c97c60217 : Cond.classLink "HungFaces" 73 "HungFaces$Market" ∈ ab_tb := ab_in2 _ (List.mem_of_getElem? (i := 75) rfl) rfl
theorem kw_e396ef81f0 : Cond.instantiable "HungFaces$Market" 2 ∈ ab_tb := ab_in2 _ (List.mem_of_getElem? (i := 76) rfl) rfl
theorem kw_61b8a12035 : Cond.instanceMethod yX5_init ∈ ab_tb := ab_in2 _ (List.mem_of_getElem? (i := 78) rfl) rfl
theorem kw_a68027d742 : Cond.code yX5_init cX5_init 1 none ∈ ab_tb := ab_in2 _ (List.mem_of_getElem? (i := 79) rfl) rfl
theorem kw_75f01edb0e : Cond.methodLink "HungFaces$Market" 3 ⟨"java/lang/Object", "<init>", "()V"⟩ ∈ ab_tb := ab_in2 _ (List.mem_of_getElem? (i := 80) rfl) rfl
theorem kw_b431cb59f0 : Cond.fieldLink "HungFaces$Market" 9 "HungFaces$Market" "gets" "[I" ∈ ab_tb := ab_in2 _ (List.mem_of_getElem? (i := 81) rfl) rfl
theorem kw_519f601868 : Cond.fieldLink "HungFaces" 284 "HungFaces$Market" "gets" "[I" ∈ ab_tb := ab_in2 _ (List.mem_of_getElem? (i := 82) rfl) rfl
theorem kw_af0959c9a1 : Cond.fieldLink "HungFaces$Market" 15 "HungFaces$Market" "pointsTo" "[I" ∈ ab_tb := ab_in2 _ (List.mem_of_getElem? (i := 83) rfl) rfl
theorem kw_26c097cf38 : Cond.fieldLink "HungFaces" 17 "HungFaces" "tape" "LHungFaces$Tape;" ∈ ab_tb := ab_in2 _ (List.mem_of_getElem? (i := 89) rfl) rfl
theorem kw_73b5365f5a : Cond.fieldLink "HungFaces" 26 "HungFaces" "now" "LHungFaces$State;" ∈ ab_tb := ab_in2 _ (List.mem_of_getElem? (i := 90) rfl) rfl
theorem kw_7576bb0a34 : Cond.fieldLink "HungFaces" 30 "HungFaces" "scratch" "LHungFaces$State;" ∈ ab_tb := ab_in2 _ (List.mem_of_getElem? (i := 91) rfl) rfl
theorem kw_f00018994e : Cond.fieldLink "HungFaces" 33 "HungFaces" "kept" "LHungFaces$State;" ∈ ab_tb := ab_in2 _ (List.mem_of_getElem? (i := 92) rfl) rfl
theorem kw_e4a7006f75 : Cond.fieldLink "HungFaces" 39 "HungFaces" "past" "LHungFaces$Past;" ∈ ab_tb := ab_in2 _ (List.mem_of_getElem? (i := 93) rfl) rfl
theorem kw_328a770c80 : Cond.fieldLink "HungFaces" 53 "HungFaces" "doorReader" "LHungFaces$DoorReader;" ∈ ab_tb := ab_in2 _ (List.mem_of_getElem? (i := 94) rfl) rfl
theorem kw_ef9b71707c : Cond.fieldLink "HungFaces" 62 "HungFaces" "lawReader" "LHungFaces$LawReader;" ∈ ab_tb := ab_in2 _ (List.mem_of_getElem? (i := 95) rfl) rfl
theorem kw_ab1a62c3da : Cond.fieldLink "HungFaces" 69 "HungFaces" "said" "LHungFaces$Said;" ∈ ab_tb := ab_in2 _ (List.mem_of_getElem? (i := 96) rfl) rfl
theorem kw_260e5113dd : Cond.fieldLink "HungFaces" 76 "HungFaces" "market" "LHungFaces$Market;" ∈ ab_tb := ab_in2 _ (List.mem_of_getElem? (i := 97) rfl) rfl
theorem kw_01b65f725d : Cond.fieldLink "HungFaces" 366 "HungFaces" "imageKept" "Z" ∈ ab_tb := ab_in2 _ (List.mem_of_getElem? (i := 98) rfl) rfl
theorem kw_a577412949 : Cond.fieldLink "HungFaces" 80 "HungFaces" "fault" "I" ∈ ab_tb := ab_in2 _ (List.mem_of_getElem? (i := 99) rfl) rfl
theorem kw_f3cfa6e2fe : Cond.methodLink "HungFacesLaw" 122 yX11_feed ∈ ab_tb := ab_in2 _ (List.mem_of_getElem? (i := 123) rfl) rfl
theorem kw_99767b3f22 : Cond.instanceMethod yX11_feed ∈ ab_tb := ab_in2 _ (List.mem_of_getElem? (i := 124) rfl) rfl
theorem kw_5d62ff0358 : Cond.selects "HungFaces" yX11_feed yX11_feed ∈ ab_tb := ab_in2 _ (List.mem_of_getElem? (i := 125) rfl) rfl
theorem kw_6c674df420 : Cond.code yX11_feed cX11_feed 6 (some .int) ∈ ab_tb := ab_in2 _ (List.mem_of_getElem? (i := 126) rfl) rfl
theorem kw_e14f8b4d1e : Cond.methodLink "HungFaces" 87 yX9_addFour ∈ ab_tb := ab_in2 _ (List.mem_of_getElem? (i := 127) rfl) rfl
theorem kw_f44cbd55d6 : Cond.instanceMethod yX9_addFour ∈ ab_tb := ab_in2 _ (List.mem_of_getElem? (i := 128) rfl) rfl
theorem kw_be8e6ed018 : Cond.selects "HungFaces$Tape" yX9_addFour yX9_addFour ∈ ab_tb := ab_in2 _ (List.mem_of_getElem? (i := 129) rfl) rfl
theorem kw_b4001cd4c2 : Cond.code yX9_addFour cX9_addFour 3 none ∈ ab_tb := ab_in2 _ (List.mem_of_getElem? (i := 130) rfl) rfl
theorem kw_6a33eb7b4b : Cond.methodLink "HungFacesLaw" 127 yX11_end ∈ ab_tb := ab_in2 _ (List.mem_of_getElem? (i := 131) rfl) rfl
theorem kw_8111628a1d : Cond.instanceMethod yX11_end ∈ ab_tb := ab_in2 _ (List.mem_of_getElem? (i := 132) rfl) rfl
theorem kw_7d7fd662cb : Cond.selects "HungFaces" yX11_end yX11_end ∈ ab_tb := ab_in2 _ (List.mem_of_getElem? (i := 133) rfl) rfl
theorem kw_89bdb778af : Cond.code yX11_end cX11_end 2 (some .boolean) ∈ ab_tb := ab_in2 _ (List.mem_of_getElem? (i := 134) rfl) rfl
theorem kw_3610eec33a : Cond.methodLink "HungFacesLaw" 143 yX11_fault ∈ ab_tb := ab_in2 _ (List.mem_of_getElem? (i := 135) rfl) rfl
theorem kw_5b23294c90 : Cond.instanceMethod yX11_fault ∈ ab_tb := ab_in2 _ (List.mem_of_getElem? (i := 136) rfl) rfl
theorem kw_159d67b5be : Cond.selects "HungFaces" yX11_fault yX11_fault ∈ ab_tb := ab_in2 _ (List.mem_of_getElem? (i := 137) rfl) rfl
theorem kw_2a5719aca8 : Cond.code yX11_fault cX11_fault 1 (some .int) ∈ ab_tb := ab_in2 _ (List.mem_of_getElem? (i := 138) rfl) rfl
theorem kw_66d020e48c : Cond.methodLink "HungFacesLaw" 192 yX11_wrong ∈ ab_tb := ab_in2 _ (List.mem_of_getElem? (i := 139) rfl) rfl
theorem kw_9580d7688b : Cond.instanceMethod yX11_wrong ∈ ab_tb := ab_in2 _ (List.mem_of_getElem? (i := 140) rfl) rfl
theorem kw_211727bd68 : Cond.selects "HungFaces" yX11_wrong yX11_wrong ∈ ab_tb := ab_in2 _ (List.mem_of_getElem? (i := 141) rfl) rfl
theorem kw_a662eda436 : Cond.code yX11_wrong cX11_wrong 1 (some .int) ∈ ab_tb := ab_in2 _ (List.mem_of_getElem? (i := 142) rfl) rfl
theorem kw_c3a2e195ec : Cond.methodLink "HungFaces" 250 yX8_wrongOnes ∈ ab_tb := ab_in2 _ (List.mem_of_getElem? (i := 143) rfl) rfl
theorem kw_44942dcf8f : Cond.instanceMethod yX8_wrongOnes ∈ ab_tb := ab_in2 _ (List.mem_of_getElem? (i := 144) rfl) rfl
theorem kw_c43794c5c8 : Cond.selects "HungFaces$State" yX8_wrongOnes yX8_wrongOnes ∈ ab_tb := ab_in2 _ (List.mem_of_getElem? (i := 145) rfl) rfl
theorem kw_335ea9f5d6 : Cond.code yX8_wrongOnes cX8_wrongOnes 3 (some .int) ∈ ab_tb := ab_in2 _ (List.mem_of_getElem? (i := 146) rfl) rfl
theorem kw_fb50ea8ed6 : Cond.methodLink "HungFacesLaw" 196 yX11_lost ∈ ab_tb := ab_in2 _ (List.mem_of_getElem? (i := 147) rfl) rfl
theorem kw_a105686883 : Cond.instanceMethod yX11_lost ∈ ab_tb := ab_in2 _ (List.mem_of_getElem? (i := 148) rfl) rfl
theorem kw_228926cc78 : Cond.selects "HungFaces" yX11_lost yX11_lost ∈ ab_tb := ab_in2 _ (List.mem_of_getElem? (i := 149) rfl) rfl
theorem kw_fee5651b01 : Cond.code yX11_lost cX11_lost 3 (some .int) ∈ ab_tb := ab_in2 _ (List.mem_of_getElem? (i := 150) rfl) rfl
theorem kw_d8e7f6c9ca : Cond.methodLink "HungFaces" 253 yX8_isLost ∈ ab_tb := ab_in2 _ (List.mem_of_getElem? (i := 151) rfl) rfl
theorem kw_b505c8cc90 : Cond.instanceMethod yX8_isLost ∈ ab_tb := ab_in2 _ (List.mem_of_getElem? (i := 152) rfl) rfl
theorem kw_2981689498 : Cond.selects "HungFaces$State" yX8_isLost yX8_isLost ∈ ab_tb := ab_in2 _ (List.mem_of_getElem? (i := 153) rfl) rfl
theorem kw_10dd594e1b : Cond.code yX8_isLost cX8_isLost 2 (some .boolean) ∈ ab_tb := ab_in2 _ (List.mem_of_getElem? (i := 154) rfl) rfl
theorem kw_0db52b08f8 : Cond.methodLink "HungFaces$State" 173 yX8_wearerOf ∈ ab_tb := ab_in2 _ (List.mem_of_getElem? (i := 155) rfl) rfl
theorem kw_0deb8a4514 : Cond.instanceMethod yX8_wearerOf ∈ ab_tb := ab_in2 _ (List.mem_of_getElem? (i := 156) rfl) rfl
theorem kw_de2ddc2a66 : Cond.selects "HungFaces$State" yX8_wearerOf yX8_wearerOf ∈ ab_tb := ab_in2 _ (List.mem_of_getElem? (i := 157) rfl) rfl
theorem kw_b842addda7 : Cond.code yX8_wearerOf cX8_wearerOf 3 (some .int) ∈ ab_tb := ab_in2 _ (List.mem_of_getElem? (i := 158) rfl) rfl
theorem kw_25a4fc2403 : Cond.methodLink "HungFaces$State" 176 yX8_hookOf ∈ ab_tb := ab_in2 _ (List.mem_of_getElem? (i := 159) rfl) rfl
theorem kw_0067924a63 : Cond.instanceMethod yX8_hookOf ∈ ab_tb := ab_in2 _ (List.mem_of_getElem? (i := 160) rfl) rfl
theorem kw_8689d31930 : Cond.selects "HungFaces$State" yX8_hookOf yX8_hookOf ∈ ab_tb := ab_in2 _ (List.mem_of_getElem? (i := 161) rfl) rfl
theorem kw_fd3e4132fd : Cond.code yX8_hookOf cX8_hookOf 3 (some .int) ∈ ab_tb := ab_in2 _ (List.mem_of_getElem? (i := 162) rfl) rfl
theorem kw_37b24af4ca : Cond.methodLink "HungFacesLaw" 200 yX11_unclaimed ∈ ab_tb := ab_in2 _ (List.mem_of_getElem? (i := 163) rfl) rfl
theorem kw_16398d1ff3 : Cond.instanceMethod yX11_unclaimed ∈ ab_tb := ab_in2 _ (List.mem_of_getElem? (i := 164) rfl) rfl
theorem kw_3e8b2077bd : Cond.selects "HungFaces" yX11_unclaimed yX11_unclaimed ∈ ab_tb := ab_in2 _ (List.mem_of_getElem? (i := 165) rfl) rfl
theorem kw_02eea8d4d9 : Cond.code yX11_unclaimed cX11_unclaimed 3 (some .int) ∈ ab_tb := ab_in2 _ (List.mem_of_getElem? (i := 166) rfl) rfl
theorem kw_776fc7df61 : Cond.methodLink "HungFaces" 260 yX8_ticketIsOut ∈ ab_tb := ab_in2 _ (List.mem_of_getElem? (i := 167) rfl) rfl
theorem kw_efd12e97e5 : Cond.instanceMethod yX8_ticketIsOut ∈ ab_tb := ab_in2 _ (List.mem_of_getElem? (i := 168) rfl) rfl
theorem kw_6ff38e8ada : Cond.selects "HungFaces$State" yX8_ticketIsOut yX8_ticketIsOut ∈ ab_tb := ab_in2 _ (List.mem_of_getElem? (i := 169) rfl) rfl
theorem kw_9aa026f0c4 : Cond.code yX8_ticketIsOut cX8_ticketIsOut 3 (some .boolean) ∈ ab_tb := ab_in2 _ (List.mem_of_getElem? (i := 170) rfl) rfl
theorem kw_74c35ac650 : Cond.methodLink "HungFacesLaw" 204 yX11_swaps ∈ ab_tb := ab_in2 _ (List.mem_of_getElem? (i := 171) rfl) rfl
theorem kw_3f11d2111f : Cond.instanceMethod yX11_swaps ∈ ab_tb := ab_in2 _ (List.mem_of_getElem? (i := 172) rfl) rfl
theorem kw_941b9bed68 : Cond.selects "HungFaces" yX11_swaps yX11_swaps ∈ ab_tb := ab_in2 _ (List.mem_of_getElem? (i := 173) rfl) rfl
theorem kw_c9b548176e : Cond.code yX11_swaps cX11_swaps 4 (some .int) ∈ ab_tb := ab_in2 _ (List.mem_of_getElem? (i := 174) rfl) rfl
theorem kw_a62bc90a64 : Cond.methodLink "HungFaces" 263 yX11_leadsClosedRing ∈ ab_tb := ab_in2 _ (List.mem_of_getElem? (i := 175) rfl) rfl
theorem kw_f6dffb250f : Cond.instanceMethod yX11_leadsClosedRing ∈ ab_tb := ab_in2 _ (List.mem_of_getElem? (i := 177) rfl) rfl
theorem kw_7dbdc8c75a : Cond.code yX11_leadsClosedRing cX11_leadsClosedRing 4 (some .boolean) ∈ ab_tb := ab_in2 _ (List.mem_of_getElem? (i := 178) rfl) rfl
theorem kw_a3bf0b26a2 : Cond.methodLink "HungFaces" 150 yX8_ringOf ∈ ab_tb := ab_in2 _ (List.mem_of_getElem? (i := 179) rfl) rfl
theorem kw_92b0703127 : Cond.instanceMethod yX8_ringOf ∈ ab_tb := ab_in2 _ (List.mem_of_getElem? (i := 180) rfl) rfl
theorem kw_2d871096d2 : Cond.selects "HungFaces$State" yX8_ringOf yX8_ringOf ∈ ab_tb := ab_in2 _ (List.mem_of_getElem? (i := 181) rfl) rfl
theorem kw_da4b413e2b : Cond.code yX8_ringOf cX8_ringOf 5 (some .int) ∈ ab_tb := ab_in2 _ (List.mem_of_getElem? (i := 182) rfl) rfl
theorem kw_96047adf0f : Cond.methodLink "HungFaces" 224 yX11_has ∈ ab_tb := ab_in2 _ (List.mem_of_getElem? (i := 183) rfl) rfl
theorem kw_b5c7c9a43d : Cond.static yX11_has ∈ ab_tb := ab_in2 _ (List.mem_of_getElem? (i := 184) rfl) rfl
theorem kw_51884ab04c : Cond.code yX11_has cX11_has 2 (some .boolean) ∈ ab_tb := ab_in2 _ (List.mem_of_getElem? (i := 185) rfl) rfl
theorem kw_25572f7209 : Cond.methodLink "HungFaces" 266 yJ6_numberOfTrailingZeros_0f7a4 ∈ ab_tb := ab_in2 _ (List.mem_of_getElem? (i := 186) rfl) rfl
theorem kw_4bc08f7158 : Cond.static yJ6_numberOfTrailingZeros_0f7a4 ∈ ab_tb := ab_in2 _ (List.mem_of_getElem? (i := 187) rfl) rfl
theorem kw_2553d9b814 : Cond.code yJ6_numberOfTrailingZeros_0f7a4 cJ6_numberOfTrailingZeros_0f7a4 2 (some .int) ∈ ab_tb := ab_in2 _ (List.mem_of_getElem? (i := 188) rfl) rfl
theorem kw_e219bae37d : Cond.constant "java/lang/Integer" 264 (65536) ∈ ab_tb := ab_in2 _ (List.mem_of_getElem? (i := 189) rfl) rfl
theorem kw_9feb55e401 : Cond.methodLink "HungFacesLaw" 208 yX11_saved ∈ ab_tb := ab_in2 _ (List.mem_of_getElem? (i := 190) rfl) rfl
theorem kw_97647a6f95 : Cond.instanceMethod yX11_saved ∈ ab_tb := ab_in2 _ (List.mem_of_getElem? (i := 191) rfl) rfl
theorem kw_3d4f90a1ee : Cond.selects "HungFaces" yX11_saved yX11_saved ∈ ab_tb := ab_in2 _ (List.mem_of_getElem? (i := 192) rfl) rfl
theorem kw_2b8a3afe76 : Cond.code yX11_saved cX11_saved 4 (some .int) ∈ ab_tb := ab_in2 _ (List.mem_of_getElem? (i := 193) rfl) rfl
theorem kw_c19453f077 : Cond.methodLink "HungFacesLaw" 212 yX11_marks ∈ ab_tb := ab_in2 _ (List.mem_of_getElem? (i := 194) rfl) rfl
theorem kw_fb043b5479 : Cond.instanceMethod yX11_marks ∈ ab_tb := ab_in2 _ (List.mem_of_getElem? (i := 195) rfl) rfl
theorem kw_0cd721bec0 : Cond.selects "HungFaces" yX11_marks yX11_marks ∈ ab_tb := ab_in2 _ (List.mem_of_getElem? (i := 196) rfl) rfl
theorem kw_0f6a0098e3 : Cond.code yX11_marks cX11_marks 3 (some .int) ∈ ab_tb := ab_in2 _ (List.mem_of_getElem? (i := 197) rfl) rfl
theorem kw_fad36d8330 : Cond.methodLink "HungFaces" 269 yX11_isFewer ∈ ab_tb := ab_in2 _ (List.mem_of_getElem? (i := 198) rfl) rfl
theorem kw_785778782c : Cond.static yX11_isFewer ∈ ab_tb := ab_in2 _ (List.mem_of_getElem? (i := 199) rfl) rfl
theorem kw_3339c2d09d : Cond.code yX11_isFewer cX11_isFewer 2 (some .boolean) ∈ ab_tb := ab_in2 _ (List.mem_of_getElem? (i := 200) rfl) rfl
theorem kw_1348376e2c : Cond.methodLink "HungFaces" 230 yJ6_bitCount_0f7a4 ∈ ab_tb := ab_in2 _ (List.mem_of_getElem? (i := 201) rfl) rfl
theorem kw_8cce87de8d : Cond.static yJ6_bitCount_0f7a4 ∈ ab_tb := ab_in2 _ (List.mem_of_getElem? (i := 202) rfl) rfl
theorem kw_b600e86590 : Cond.code yJ6_bitCount_0f7a4 cJ6_bitCount_0f7a4 1 (some .int) ∈ ab_tb := ab_in2 _ (List.mem_of_getElem? (i := 203) rfl) rfl
theorem kw_ec7718c27a : Cond.constant "java/lang/Integer" 265 (1431655765) ∈ ab_tb := ab_in2 _ (List.mem_of_getElem? (i := 204) rfl) rfl
theorem kw_c724338b0f : Cond.constant "java/lang/Integer" 266 (858993459) ∈ ab_tb := ab_in2 _ (List.mem_of_getElem? (i := 205) rfl) rfl
theorem kw_44a5bdf80b : Cond.constant "java/lang/Integer" 267 (252645135) ∈ ab_tb := ab_in2 _ (List.mem_of_getElem? (i := 206) rfl) rfl
theorem kw_2633286fe3 : Cond.methodLink "HungFaces" 272 yX11_partsAllFaces ∈ ab_tb := ab_in2 _ (List.mem_of_getElem? (i := 207) rfl) rfl
theorem kw_2adc971f76 : Cond.instanceMethod yX11_partsAllFaces ∈ ab_tb := ab_in2 _ (List.mem_of_getElem? (i := 209) rfl) rfl
theorem kw_313ddf7b87 : Cond.code yX11_partsAllFaces cX11_partsAllFaces 4 (some .boolean) ∈ ab_tb := ab_in2 _ (List.mem_of_getElem? (i := 210) rfl) rfl
theorem kw_6d761e6a80 : Cond.methodLink "HungFacesLaw" 216 yX11_unknown ∈ ab_tb := ab_in2 _ (List.mem_of_getElem? (i := 211) rfl) rfl
theorem kw_190153105b : Cond.instanceMethod yX11_unknown ∈ ab_tb := ab_in2 _ (List.mem_of_getElem? (i := 212) rfl) rfl
theorem kw_499b5ec7b5 : Cond.selects "HungFaces" yX11_unknown yX11_unknown ∈ ab_tb := ab_in2 _ (List.mem_of_getElem? (i := 213) rfl) rfl
theorem kw_5767e5c001 : Cond.code yX11_unknown cX11_unknown 3 (some .int) ∈ ab_tb := ab_in2 _ (List.mem_of_getElem? (i := 214) rfl) rfl
theorem kw_ff4b1f9a5e : Cond.methodLink "HungFaces" 168 yX8_sameAs ∈ ab_tb := ab_in2 _ (List.mem_of_getElem? (i := 215) rfl) rfl
theorem kw_bf967c452a : Cond.instanceMethod yX8_sameAs ∈ ab_tb := ab_in2 _ (List.mem_of_getElem? (i := 216) rfl) rfl
theorem kw_092254e7e6 : Cond.selects "HungFaces$State" yX8_sameAs yX8_sameAs ∈ ab_tb := ab_in2 _ (List.mem_of_getElem? (i := 217) rfl) rfl
theorem kw_09e1f336cf : Cond.code yX8_sameAs cX8_sameAs 5 (some .int) ∈ ab_tb := ab_in2 _ (List.mem_of_getElem? (i := 218) rfl) rfl
theorem kw_9ff8f9b665 : Cond.methodLink "HungFacesLaw" 226 yX11_gains ∈ ab_tb := ab_in2 _ (List.mem_of_getElem? (i := 219) rfl) rfl
theorem kw_22545fb10b : Cond.instanceMethod yX11_gains ∈ ab_tb := ab_in2 _ (List.mem_of_getElem? (i := 220) rfl) rfl
theorem kw_9c9a17e0c5 : Cond.selects "HungFaces" yX11_gains yX11_gains ∈ ab_tb := ab_in2 _ (List.mem_of_getElem? (i := 221) rfl) rfl
theorem kw_e153ce7bbc : Cond.code yX11_gains cX11_gains 3 (some .int) ∈ ab_tb := ab_in2 _ (List.mem_of_getElem? (i := 222) rfl) rfl
theorem kw_44f5f2d686 : Cond.methodLink "HungFaces" 281 yX5_trade ∈ ab_tb := ab_in2 _ (List.mem_of_getElem? (i := 223) rfl) rfl
theorem kw_b1763dde8f : Cond.instanceMethod yX5_trade ∈ ab_tb := ab_in2 _ (List.mem_of_getElem? (i := 224) rfl) rfl
theorem kw_07f0f4c591 : Cond.selects "HungFaces$Market" yX5_trade yX5_trade ∈ ab_tb := ab_in2 _ (List.mem_of_getElem? (i := 225) rfl) rfl
theorem kw_3ddbfd60eb : Cond.code yX5_trade cX5_trade 4 none ∈ ab_tb := ab_in2 _ (List.mem_of_getElem? (i := 226) rfl) rfl
theorem kw_d06cf07c08 : Cond.methodLink "HungFaces$Market" 18 yJ7_fill_53178 ∈ ab_tb := ab_in2 _ (List.mem_of_getElem? (i := 227) rfl) rfl
theorem kw_fe0163dbe0 : Cond.methodLink "HungFaces$Market" 33 yX5_point ∈ ab_tb := ab_in2 _ (List.mem_of_getElem? (i := 228) rfl) rfl
theorem kw_104db6be24 : Cond.instanceMethod yX5_point ∈ ab_tb := ab_in2 _ (List.mem_of_getElem? (i := 230) rfl) rfl
theorem kw_5bc1c08057 : Cond.code yX5_point cX5_point 4 none ∈ ab_tb := ab_in2 _ (List.mem_of_getElem? (i := 231) rfl) rfl
theorem kw_ed3f0db62e : Cond.methodLink "HungFaces$Market" 45 yX5_bringerOfDearest ∈ ab_tb := ab_in2 _ (List.mem_of_getElem? (i := 233) rfl) rfl
theorem kw_51c1fa9183 : Cond.static yX5_bringerOfDearest ∈ ab_tb := ab_in2 _ (List.mem_of_getElem? (i := 234) rfl) rfl
theorem kw_9dffdf74a2 : Cond.code yX5_bringerOfDearest cX5_bringerOfDearest 5 (some .int) ∈ ab_tb := ab_in2 _ (List.mem_of_getElem? (i := 235) rfl) rfl
theorem kw_dd95f7d7ee : Cond.methodLink "HungFaces$Market" 52 yX8_wearerOf ∈ ab_tb := ab_in2 _ (List.mem_of_getElem? (i := 236) rfl) rfl
theorem kw_336af1bab5 : Cond.methodLink "HungFaces$Market" 37 yX5_giveRing ∈ ab_tb := ab_in2 _ (List.mem_of_getElem? (i := 237) rfl) rfl
theorem kw_b05fcbb103 : Cond.instanceMethod yX5_giveRing ∈ ab_tb := ab_in2 _ (List.mem_of_getElem? (i := 239) rfl) rfl
theorem kw_834e583e10 : Cond.code yX5_giveRing cX5_giveRing 6 (some .int) ∈ ab_tb := ab_in3 _ (List.mem_of_getElem? (i := 0) rfl) rfl
theorem kw_a7672fc1bd : Cond.methodLink "HungFaces$Market" 56 yJ6_numberOfTrailingZeros_0f7a4 ∈ ab_tb := ab_in3 _ (List.mem_of_getElem? (i := 1) rfl) rfl
theorem kw_8464367436 : Cond.methodLink "HungFacesLaw" 242 yX11_queue ∈ ab_tb := ab_in3 _ (List.mem_of_getElem? (i := 2) rfl) rfl
theorem kw_58ea9fe02c : Cond.instanceMethod yX11_queue ∈ ab_tb := ab_in3 _ (List.mem_of_getElem? (i := 3) rfl) rfl
theorem kw_22f4e6f965 : Cond.selects "HungFaces" yX11_queue yX11_queue ∈ ab_tb := ab_in3 _ (List.mem_of_getElem? (i := 4) rfl) rfl
theorem kw_04598ded97 : Cond.code yX11_queue cX11_queue 3 (some .int) ∈ ab_tb := ab_in3 _ (List.mem_of_getElem? (i := 5) rfl) rfl
theorem kw_5cc98e091f : Cond.methodLink "HungFaces" 313 yX11_minutesAlongTheRow ∈ ab_tb := ab_in3 _ (List.mem_of_getElem? (i := 6) rfl) rfl
theorem kw_39d8b77805 : Cond.instanceMethod yX11_minutesAlongTheRow ∈ ab_tb := ab_in3 _ (List.mem_of_getElem? (i := 8) rfl) rfl
theorem kw_55f6b4599f : Cond.code yX11_minutesAlongTheRow cX11_minutesAlongTheRow 4 (some .int) ∈ ab_tb := ab_in3 _ (List.mem_of_getElem? (i := 9) rfl) rfl
theorem kw_e418ba8b5b : Cond.methodLink "HungFaces" 316 yX11_servedAheadOf ∈ ab_tb := ab_in3 _ (List.mem_of_getElem? (i := 10) rfl) rfl
theorem kw_18c30ab7dd : Cond.instanceMethod yX11_servedAheadOf ∈ ab_tb := ab_in3 _ (List.mem_of_getElem? (i := 12) rfl) rfl
theorem kw_2ed46a8d10 : Cond.code yX11_servedAheadOf cX11_servedAheadOf 5 (some .int) ∈ ab_tb := ab_in3 _ (List.mem_of_getElem? (i := 13) rfl) rfl
theorem kw_0169b5a054 : Cond.methodLink "HungFacesLaw" 255 yX11_row ∈ ab_tb := ab_in3 _ (List.mem_of_getElem? (i := 14) rfl) rfl
theorem kw_547d81426a : Cond.instanceMethod yX11_row ∈ ab_tb := ab_in3 _ (List.mem_of_getElem? (i := 15) rfl) rfl
theorem kw_11e4b83a70 : Cond.selects "HungFaces" yX11_row yX11_row ∈ ab_tb := ab_in3 _ (List.mem_of_getElem? (i := 16) rfl) rfl
theorem kw_8628063e5c : Cond.code yX11_row cX11_row 6 (some .int) ∈ ab_tb := ab_in3 _ (List.mem_of_getElem? (i := 17) rfl) rfl
theorem kw_f84aa22aa8 : Cond.methodLink "HungFacesLaw" 279 yX11_seed ∈ ab_tb := ab_in3 _ (List.mem_of_getElem? (i := 18) rfl) rfl
theorem kw_635f086b06 : Cond.instanceMethod yX11_seed ∈ ab_tb := ab_in3 _ (List.mem_of_getElem? (i := 19) rfl) rfl
theorem kw_4d3de8e843 : Cond.selects "HungFaces" yX11_seed yX11_seed ∈ ab_tb := ab_in3 _ (List.mem_of_getElem? (i := 20) rfl) rfl
theorem kw_b4452f4692 : Cond.code yX11_seed cX11_seed 3 (some .int) ∈ ab_tb := ab_in3 _ (List.mem_of_getElem? (i := 21) rfl) rfl
theorem kw_0d57794e61 : Cond.methodLink "HungFacesLaw" 283 yX11_undo ∈ ab_tb := ab_in3 _ (List.mem_of_getElem? (i := 22) rfl) rfl
theorem kw_8bb4188745 : Cond.instanceMethod yX11_undo ∈ ab_tb := ab_in3 _ (List.mem_of_getElem? (i := 23) rfl) rfl
theorem kw_777b7100cb : Cond.selects "HungFaces" yX11_undo yX11_undo ∈ ab_tb := ab_in3 _ (List.mem_of_getElem? (i := 24) rfl) rfl
theorem kw_9ab2999f31 : Cond.code yX11_undo cX11_undo 1 (some .boolean) ∈ ab_tb := ab_in3 _ (List.mem_of_getElem? (i := 25) rfl) rfl
theorem kw_82ed09611b : Cond.methodLink "HungFaces" 362 yX6_takeBack ∈ ab_tb := ab_in3 _ (List.mem_of_getElem? (i := 26) rfl) rfl
theorem kw_a298633482 : Cond.instanceMethod yX6_takeBack ∈ ab_tb := ab_in3 _ (List.mem_of_getElem? (i := 27) rfl) rfl
theorem kw_77ea53ef0d : Cond.selects "HungFaces$Past" yX6_takeBack yX6_takeBack ∈ ab_tb := ab_in3 _ (List.mem_of_getElem? (i := 28) rfl) rfl
theorem kw_8af719ab7a : Cond.code yX6_takeBack cX6_takeBack 2 (some .boolean) ∈ ab_tb := ab_in3 _ (List.mem_of_getElem? (i := 29) rfl) rfl
theorem kw_d07945861a : Cond.methodLink "HungFaces$Past" 27 yX8_copyFrom ∈ ab_tb := ab_in3 _ (List.mem_of_getElem? (i := 30) rfl) rfl
theorem kw_5db67fc933 : Cond.instanceMethod yX8_copyFrom ∈ ab_tb := ab_in3 _ (List.mem_of_getElem? (i := 31) rfl) rfl
theorem kw_ac67004cea : Cond.selects "HungFaces$State" yX8_copyFrom yX8_copyFrom ∈ ab_tb := ab_in3 _ (List.mem_of_getElem? (i := 32) rfl) rfl
theorem kw_b310338095 : Cond.code yX8_copyFrom cX8_copyFrom 2 none ∈ ab_tb := ab_in3 _ (List.mem_of_getElem? (i := 33) rfl) rfl
theorem kw_cdf1095238 : Cond.methodLink "HungFaces$State" 78 yX4_copyFrom ∈ ab_tb := ab_in3 _ (List.mem_of_getElem? (i := 34) rfl) rfl
theorem kw_a2bd75486f : Cond.instanceMethod yX4_copyFrom ∈ ab_tb := ab_in3 _ (List.mem_of_getElem? (i := 35) rfl) rfl
theorem kw_80c695ed8f : Cond.selects "HungFaces$Log" yX4_copyFrom yX4_copyFrom ∈ ab_tb := ab_in3 _ (List.mem_of_getElem? (i := 36) rfl) rfl
theorem kw_9bed101ad5 : Cond.code yX4_copyFrom cX4_copyFrom 2 none ∈ ab_tb := ab_in3 _ (List.mem_of_getElem? (i := 37) rfl) rfl
theorem kw_16fd81cbdd : Cond.methodLink "HungFaces$Log" 15 ⟨"java/lang/System", "arraycopy", "(Ljava/lang/Object;ILjava/lang/Object;II)V"⟩ ∈ ab_tb := ab_in3 _ (List.mem_of_getElem? (i := 38) rfl) rfl
theorem kw_e17af2abaf : Cond.static ⟨"java/lang/System", "arraycopy", "(Ljava/lang/Object;ILjava/lang/Object;II)V"⟩ ∈ ab_tb := ab_in3 _ (List.mem_of_getElem? (i := 39) rfl) rfl
theorem kw_0e4095fa1c : Cond.native ⟨"java/lang/System", "arraycopy", "(Ljava/lang/Object;ILjava/lang/Object;II)V"⟩ ∈ ab_tb := ab_in3 _ (List.mem_of_getElem? (i := 40) rfl) rfl
theorem kw_dfe8a52311 : Cond.methodLink "HungFaces$State" 82 ⟨"java/lang/System", "arraycopy", "(Ljava/lang/Object;ILjava/lang/Object;II)V"⟩ ∈ ab_tb := ab_in3 _ (List.mem_of_getElem? (i := 41) rfl) rfl
theorem kw_67a74cb34f : Cond.methodLink "HungFacesLaw" 288 yX11_image ∈ ab_tb := ab_in3 _ (List.mem_of_getElem? (i := 42) rfl) rfl
theorem kw_3346f4829b : Cond.instanceMethod yX11_image ∈ ab_tb := ab_in3 _ (List.mem_of_getElem? (i := 43) rfl) rfl
theorem kw_dd22385579 : Cond.selects "HungFaces" yX11_image yX11_image ∈ ab_tb := ab_in3 _ (List.mem_of_getElem? (i := 44) rfl) rfl
theorem kw_8824cb4a7c : Cond.code yX11_image cX11_image 1 none ∈ ab_tb := ab_in3 _ (List.mem_of_getElem? (i := 45) rfl) rfl
theorem kw_1bd88c5252 : Cond.methodLink "HungFaces" 110 yX8_copyFrom ∈ ab_tb := ab_in3 _ (List.mem_of_getElem? (i := 46) rfl) rfl
theorem kw_735769b287 : Cond.methodLink "HungFacesLaw" 292 yX11_back ∈ ab_tb := ab_in3 _ (List.mem_of_getElem? (i := 47) rfl) rfl
theorem kw_af5248c0c4 : Cond.instanceMethod yX11_back ∈ ab_tb := ab_in3 _ (List.mem_of_getElem? (i := 48) rfl) rfl
theorem kw_4e1bf8dc61 : Cond.selects "HungFaces" yX11_back yX11_back ∈ ab_tb := ab_in3 _ (List.mem_of_getElem? (i := 49) rfl) rfl
theorem kw_04309e1da2 : Cond.code yX11_back cX11_back 1 (some .boolean) ∈ ab_tb := ab_in3 _ (List.mem_of_getElem? (i := 50) rfl) rfl
theorem kw_67d84de063 : Cond.methodLink "HungFaces" 114 yX6_forget ∈ ab_tb := ab_in3 _ (List.mem_of_getElem? (i := 51) rfl) rfl
theorem kw_7db70b2ba7 : Cond.instanceMethod yX6_forget ∈ ab_tb := ab_in3 _ (List.mem_of_getElem? (i := 52) rfl) rfl
theorem kw_7ec6027f1a : Cond.selects "HungFaces$Past" yX6_forget yX6_forget ∈ ab_tb := ab_in3 _ (List.mem_of_getElem? (i := 53) rfl) rfl
theorem kw_0ae69df129 : Cond.code yX6_forget cX6_forget 1 none ∈ ab_tb := ab_in3 _ (List.mem_of_getElem? (i := 54) rfl) rfl
theorem kw_ce661f59ed : Cond.methodLink "HungFacesLaw" 296 yX11_count ∈ ab_tb := ab_in3 _ (List.mem_of_getElem? (i := 55) rfl) rfl
theorem kw_b0cb0755bd : Cond.instanceMethod yX11_count ∈ ab_tb := ab_in3 _ (List.mem_of_getElem? (i := 56) rfl) rfl
theorem kw_cfc57ef12a : Cond.selects "HungFaces" yX11_count yX11_count ∈ ab_tb := ab_in3 _ (List.mem_of_getElem? (i := 57) rfl) rfl
theorem kw_cfc83d982e : Cond.code yX11_count cX11_count 2 (some .int) ∈ ab_tb := ab_in3 _ (List.mem_of_getElem? (i := 58) rfl) rfl
theorem kw_b063277f08 : Cond.methodLink "HungFaces" 370 yX8_hungCount ∈ ab_tb := ab_in3 _ (List.mem_of_getElem? (i := 59) rfl) rfl
theorem kw_ba52473642 : Cond.instanceMethod yX8_hungCount ∈ ab_tb := ab_in3 _ (List.mem_of_getElem? (i := 60) rfl) rfl
theorem kw_168d9b4df9 : Cond.selects "HungFaces$State" yX8_hungCount yX8_hungCount ∈ ab_tb := ab_in3 _ (List.mem_of_getElem? (i := 61) rfl) rfl
theorem kw_3438f228a5 : Cond.code yX8_hungCount cX8_hungCount 3 (some .int) ∈ ab_tb := ab_in3 _ (List.mem_of_getElem? (i := 62) rfl) rfl
theorem kw_0959ff00f0 : Cond.methodLink "HungFaces" 319 yX8_ticketHolders ∈ ab_tb := ab_in3 _ (List.mem_of_getElem? (i := 63) rfl) rfl
theorem kw_be734bbbad : Cond.instanceMethod yX8_ticketHolders ∈ ab_tb := ab_in3 _ (List.mem_of_getElem? (i := 64) rfl) rfl
theorem kw_1b98d06c3b : Cond.selects "HungFaces$State" yX8_ticketHolders yX8_ticketHolders ∈ ab_tb := ab_in3 _ (List.mem_of_getElem? (i := 65) rfl) rfl
theorem kw_7d681695be : Cond.code yX8_ticketHolders cX8_ticketHolders 3 (some .int) ∈ ab_tb := ab_in3 _ (List.mem_of_getElem? (i := 66) rfl) rfl
theorem kw_7c5bd7e8d6 : Cond.methodLink "HungFaces" 382 yX8_allMarksCount ∈ ab_tb := ab_in3 _ (List.mem_of_getElem? (i := 67) rfl) rfl
theorem kw_c4a77471e2 : Cond.instanceMethod yX8_allMarksCount ∈ ab_tb := ab_in3 _ (List.mem_of_getElem? (i := 68) rfl) rfl
theorem kw_4961201be8 : Cond.selects "HungFaces$State" yX8_allMarksCount yX8_allMarksCount ∈ ab_tb := ab_in3 _ (List.mem_of_getElem? (i := 69) rfl) rfl
theorem kw_42cbfede3e : Cond.code yX8_allMarksCount cX8_allMarksCount 3 (some .int) ∈ ab_tb := ab_in3 _ (List.mem_of_getElem? (i := 70) rfl) rfl
theorem kw_4de251fdec : Cond.methodLink "HungFaces$State" 155 yJ6_bitCount_0f7a4 ∈ ab_tb := ab_in3 _ (List.mem_of_getElem? (i := 71) rfl) rfl
theorem kw_6294b35443 : Cond.methodLink "HungFacesLaw" 131 yL_door ∈ ab_tb := ab_in3 _ (List.mem_of_getElem? (i := 72) rfl) rfl
theorem kw_af0e6fddf3 : Cond.static yL_door ∈ ab_tb := ab_in3 _ (List.mem_of_getElem? (i := 73) rfl) rfl
theorem kw_4b4fa47a39 : Cond.classLink "HungFacesLaw" 13 "java/lang/IllegalArgumentException" ∈ ab_tb := ab_in3 _ (List.mem_of_getElem? (i := 75) rfl) rfl
theorem kw_7f6b02b40d : Cond.classLink "HungFacesLaw" 15 "java/lang/UnsupportedOperationException" ∈ ab_tb := ab_in3 _ (List.mem_of_getElem? (i := 76) rfl) rfl
theorem kw_c415dd85eb : Cond.methodLink "HungFacesLaw" 7 yX11_door ∈ ab_tb := ab_in3 _ (List.mem_of_getElem? (i := 77) rfl) rfl
theorem kw_b1b1210ae5 : Cond.instanceMethod yX11_door ∈ ab_tb := ab_in3 _ (List.mem_of_getElem? (i := 78) rfl) rfl
theorem kw_1c71821ce0 : Cond.selects "HungFaces" yX11_door yX11_door ∈ ab_tb := ab_in3 _ (List.mem_of_getElem? (i := 79) rfl) rfl
theorem kw_877fff2476 : Cond.code yX11_door cX11_door 1 (some .int) ∈ ab_tb := ab_in3 _ (List.mem_of_getElem? (i := 80) rfl) rfl
theorem kw_66f87130f7 : Cond.methodLink "HungFaces" 91 ⟨"HungFaces$DoorReader", "readText", "()I"⟩ ∈ ab_tb := ab_in3 _ (List.mem_of_getElem? (i := 81) rfl) rfl
theorem kw_ddcdd5fd6f : Cond.sameMethod "HungFaces$DoorReader" "HungFaces$TextReader" "readText" "()I" ∈ ab_tb := ab_in3 _ (List.mem_of_getElem? (i := 82) rfl) rfl
theorem kw_1387db8c1f : Cond.selects "HungFaces$DoorReader" ⟨"HungFaces$DoorReader", "readText", "()I"⟩ yX10_readText ∈ ab_tb := ab_in3 _ (List.mem_of_getElem? (i := 84) rfl) rfl
theorem kw_7b520196f1 : Cond.instanceMethod yX10_readText ∈ ab_tb := ab_in3 _ (List.mem_of_getElem? (i := 85) rfl) rfl
theorem kw_27571194c5 : Cond.code yX10_readText cX10_readText 2 (some .int) ∈ ab_tb := ab_in3 _ (List.mem_of_getElem? (i := 86) rfl) rfl
theorem kw_c6cb7d389f : Cond.methodLink "HungFaces$TextReader" 25 yX0_cutText ∈ ab_tb := ab_in3 _ (List.mem_of_getElem? (i := 87) rfl) rfl
theorem kw_402fe861f4 : Cond.instanceMethod yX0_cutText ∈ ab_tb := ab_in3 _ (List.mem_of_getElem? (i := 88) rfl) rfl
theorem kw_9449f89d4d : Cond.selects "HungFaces$Cutter" yX0_cutText yX0_cutText ∈ ab_tb := ab_in3 _ (List.mem_of_getElem? (i := 89) rfl) rfl
theorem kw_fe43318c43 : Cond.code yX0_cutText cX0_cutText 3 none ∈ ab_tb := ab_in3 _ (List.mem_of_getElem? (i := 90) rfl) rfl
theorem kw_92ab88c4ee : Cond.methodLink "HungFaces$Cutter" 25 yX0_pastBlanks ∈ ab_tb := ab_in3 _ (List.mem_of_getElem? (i := 91) rfl) rfl
theorem kw_22cdbaa079 : Cond.instanceMethod yX0_pastBlanks ∈ ab_tb := ab_in3 _ (List.mem_of_getElem? (i := 93) rfl) rfl
theorem kw_d066469d8d : Cond.code yX0_pastBlanks cX0_pastBlanks 3 (some .int) ∈ ab_tb := ab_in3 _ (List.mem_of_getElem? (i := 94) rfl) rfl
theorem kw_3d87881958 : Cond.methodLink "HungFaces$Cutter" 48 yX9_byteAt ∈ ab_tb := ab_in3 _ (List.mem_of_getElem? (i := 95) rfl) rfl
theorem kw_6610f83393 : Cond.instanceMethod yX9_byteAt ∈ ab_tb := ab_in3 _ (List.mem_of_getElem? (i := 96) rfl) rfl
theorem kw_f2124ba335 : Cond.selects "HungFaces$Tape" yX9_byteAt yX9_byteAt ∈ ab_tb := ab_in3 _ (List.mem_of_getElem? (i := 97) rfl) rfl
theorem kw_f32588fae5 : Cond.code yX9_byteAt cX9_byteAt 2 (some .int) ∈ ab_tb := ab_in3 _ (List.mem_of_getElem? (i := 98) rfl) rfl
theorem kw_7e37a78b7f : Cond.methodLink "HungFaces$Cutter" 35 yX0_kindAt ∈ ab_tb := ab_in3 _ (List.mem_of_getElem? (i := 99) rfl) rfl
theorem kw_28178a1639 : Cond.instanceMethod yX0_kindAt ∈ ab_tb := ab_in3 _ (List.mem_of_getElem? (i := 101) rfl) rfl
theorem kw_a1fc95ab5e : Cond.code yX0_kindAt cX0_kindAt 3 (some .int) ∈ ab_tb := ab_in3 _ (List.mem_of_getElem? (i := 102) rfl) rfl
theorem kw_d2610858f7 : Cond.methodLink "HungFaces$Cutter" 38 yX0_endOf ∈ ab_tb := ab_in3 _ (List.mem_of_getElem? (i := 103) rfl) rfl
theorem kw_9ad763d419 : Cond.instanceMethod yX0_endOf ∈ ab_tb := ab_in3 _ (List.mem_of_getElem? (i := 105) rfl) rfl
theorem kw_c6c6b85061 : Cond.code yX0_endOf cX0_endOf 4 (some .int) ∈ ab_tb := ab_in3 _ (List.mem_of_getElem? (i := 106) rfl) rfl
theorem kw_51d5bc7ee1 : Cond.methodLink "HungFaces$Cutter" 42 yX0_wordOf ∈ ab_tb := ab_in3 _ (List.mem_of_getElem? (i := 107) rfl) rfl
theorem kw_184868011e : Cond.instanceMethod yX0_wordOf ∈ ab_tb := ab_in3 _ (List.mem_of_getElem? (i := 109) rfl) rfl
theorem kw_683f6b34e1 : Cond.code yX0_wordOf cX0_wordOf 6 (some .int) ∈ ab_tb := ab_in3 _ (List.mem_of_getElem? (i := 110) rfl) rfl
theorem kw_284567147f : Cond.methodLink "HungFaces$Cutter" 53 yJ0_length_8abf5 ∈ ab_tb := ab_in3 _ (List.mem_of_getElem? (i := 112) rfl) rfl
theorem kw_a4669d76c9 : Cond.instanceMethod yJ0_length_8abf5 ∈ ab_tb := ab_in3 _ (List.mem_of_getElem? (i := 113) rfl) rfl
theorem kw_6241048d1d : Cond.selects "java/lang/String" yJ0_length_8abf5 yJ0_length_8abf5 ∈ ab_tb := ab_in3 _ (List.mem_of_getElem? (i := 114) rfl) rfl
theorem kw_e410ee9f80 : Cond.code yJ0_length_8abf5 cJ0_length_8abf5 1 (some .int) ∈ ab_tb := ab_in3 _ (List.mem_of_getElem? (i := 115) rfl) rfl
theorem kw_3f0ee5a89e : Cond.methodLink "java/lang/String" 335 yJ0_coder_7d493 ∈ ab_tb := ab_in3 _ (List.mem_of_getElem? (i := 116) rfl) rfl
theorem kw_e22512472a : Cond.instanceMethod yJ0_coder_7d493 ∈ ab_tb := ab_in3 _ (List.mem_of_getElem? (i := 117) rfl) rfl
theorem kw_ff81b469d5 : Cond.selects "java/lang/String" yJ0_coder_7d493 yJ0_coder_7d493 ∈ ab_tb := ab_in3 _ (List.mem_of_getElem? (i := 118) rfl) rfl
theorem kw_d05b5d2117 : Cond.code yJ0_coder_7d493 cJ0_coder_7d493 1 (some .byte) ∈ ab_tb := ab_in3 _ (List.mem_of_getElem? (i := 119) rfl) rfl
theorem kw_f02d67166e : Cond.fieldLink "java/lang/String" 38 "java/lang/String" "COMPACT_STRINGS" "Z" ∈ ab_tb := ab_in3 _ (List.mem_of_getElem? (i := 120) rfl) rfl
theorem kw_74e48f0b05 : Cond.methodLink "HungFaces$Cutter" 58 yJ0_charAt_5068e ∈ ab_tb := ab_in3 _ (List.mem_of_getElem? (i := 122) rfl) rfl
theorem kw_4aa780f2d5 : Cond.instanceMethod yJ0_charAt_5068e ∈ ab_tb := ab_in3 _ (List.mem_of_getElem? (i := 123) rfl) rfl
theorem kw_36ffa5c8dc : Cond.selects "java/lang/String" yJ0_charAt_5068e yJ0_charAt_5068e ∈ ab_tb := ab_in3 _ (List.mem_of_getElem? (i := 124) rfl) rfl
theorem kw_ee9e8bc571 : Cond.code yJ0_charAt_5068e cJ0_charAt_5068e 2 (some .char) ∈ ab_tb := ab_in3 _ (List.mem_of_getElem? (i := 125) rfl) rfl
theorem kw_b9407f5aef : Cond.methodLink "java/lang/String" 492 yJ0_isLatin1_aae02 ∈ ab_tb := ab_in3 _ (List.mem_of_getElem? (i := 126) rfl) rfl
theorem kw_80dfc3feb3 : Cond.instanceMethod yJ0_isLatin1_aae02 ∈ ab_tb := ab_in3 _ (List.mem_of_getElem? (i := 127) rfl) rfl
theorem kw_10843aa6d5 : Cond.selects "java/lang/String" yJ0_isLatin1_aae02 yJ0_isLatin1_aae02 ∈ ab_tb := ab_in3 _ (List.mem_of_getElem? (i := 128) rfl) rfl
theorem kw_4336588a1b : Cond.code yJ0_isLatin1_aae02 cJ0_isLatin1_aae02 1 (some .boolean) ∈ ab_tb := ab_in3 _ (List.mem_of_getElem? (i := 129) rfl) rfl
theorem kw_67f9e9bae6 : Cond.methodLink "java/lang/String" 495 yJ1_charAt_3b067 ∈ ab_tb := ab_in3 _ (List.mem_of_getElem? (i := 130) rfl) rfl
theorem kw_b8f24e5b34 : Cond.static yJ1_charAt_3b067 ∈ ab_tb := ab_in3 _ (List.mem_of_getElem? (i := 131) rfl) rfl
theorem kw_54f844accf : Cond.code yJ1_charAt_3b067 cJ1_charAt_3b067 2 (some .char) ∈ ab_tb := ab_in3 _ (List.mem_of_getElem? (i := 132) rfl) rfl
theorem kw_d3a662c0cd : Cond.methodLink "java/lang/StringLatin1" 9 yJ0_checkIndex_df160 ∈ ab_tb := ab_in3 _ (List.mem_of_getElem? (i := 133) rfl) rfl
theorem kw_d64912fc73 : Cond.static yJ0_checkIndex_df160 ∈ ab_tb := ab_in3 _ (List.mem_of_getElem? (i := 134) rfl) rfl
theorem kw_e10bf8a9a6 : Cond.code yJ0_checkIndex_df160 cJ0_checkIndex_df160 2 none ∈ ab_tb := ab_in3 _ (List.mem_of_getElem? (i := 135) rfl) rfl
theorem kw_069c58578e : Cond.fieldLink "java/lang/String" 1053 "jdk/internal/util/Preconditions" "SIOOBE_FORMATTER" "Ljava/util/function/BiFunction;" ∈ ab_tb := ab_in3 _ (List.mem_of_getElem? (i := 136) rfl) rfl
theorem kw_2d6ea18b91 : Cond.methodLink "java/lang/String" 1059 yJ3_checkIndex_8e157 ∈ ab_tb := ab_in3 _ (List.mem_of_getElem? (i := 138) rfl) rfl
theorem kw_32dd2d4250 : Cond.static yJ3_checkIndex_8e157 ∈ ab_tb := ab_in3 _ (List.mem_of_getElem? (i := 139) rfl) rfl
theorem kw_afa48f1cec : Cond.code yJ3_checkIndex_8e157 cJ3_checkIndex_8e157 3 (some .int) ∈ ab_tb := ab_in3 _ (List.mem_of_getElem? (i := 140) rfl) rfl
theorem kw_aa9e6d9624 : Cond.methodLink "java/lang/String" 498 yJ2_charAt_3b067 ∈ ab_tb := ab_in3 _ (List.mem_of_getElem? (i := 141) rfl) rfl
theorem kw_8db17435cb : Cond.static yJ2_charAt_3b067 ∈ ab_tb := ab_in3 _ (List.mem_of_getElem? (i := 142) rfl) rfl
theorem kw_2298b3dfd4 : Cond.code yJ2_charAt_3b067 cJ2_charAt_3b067 2 (some .char) ∈ ab_tb := ab_in3 _ (List.mem_of_getElem? (i := 143) rfl) rfl
theorem kw_138810fbc0 : Cond.methodLink "java/lang/StringUTF16" 67 yJ2_checkIndex_2214a ∈ ab_tb := ab_in3 _ (List.mem_of_getElem? (i := 144) rfl) rfl
theorem kw_314e95daa8 : Cond.static yJ2_checkIndex_2214a ∈ ab_tb := ab_in3 _ (List.mem_of_getElem? (i := 145) rfl) rfl
theorem kw_70b18e0dec : Cond.code yJ2_checkIndex_2214a cJ2_checkIndex_2214a 2 none ∈ ab_tb := ab_in3 _ (List.mem_of_getElem? (i := 146) rfl) rfl
theorem kw_67b9d1d0d1 : Cond.methodLink "java/lang/StringUTF16" 48 yJ2_length_9d52b ∈ ab_tb := ab_in3 _ (List.mem_of_getElem? (i := 147) rfl) rfl
theorem kw_f2a9dbc7a9 : Cond.static yJ2_length_9d52b ∈ ab_tb := ab_in3 _ (List.mem_of_getElem? (i := 148) rfl) rfl
theorem kw_8e30f6760f : Cond.code yJ2_length_9d52b cJ2_length_9d52b 1 (some .int) ∈ ab_tb := ab_in3 _ (List.mem_of_getElem? (i := 149) rfl) rfl
theorem kw_8531674eb3 : Cond.methodLink "java/lang/StringUTF16" 414 yJ0_checkIndex_df160 ∈ ab_tb := ab_in3 _ (List.mem_of_getElem? (i := 150) rfl) rfl
theorem kw_db2023d938 : Cond.methodLink "java/lang/StringUTF16" 71 yJ2_getChar_3b067 ∈ ab_tb := ab_in3 _ (List.mem_of_getElem? (i := 151) rfl) rfl
theorem kw_738af5d00b : Cond.static yJ2_getChar_3b067 ∈ ab_tb := ab_in3 _ (List.mem_of_getElem? (i := 152) rfl) rfl
theorem kw_aded7de506 : Cond.code yJ2_getChar_3b067 cJ2_getChar_3b067 2 (some .char) ∈ ab_tb := ab_in3 _ (List.mem_of_getElem? (i := 153) rfl) rfl
theorem kw_c1a8e51cee : Cond.fieldLink "java/lang/StringUTF16" 44 "java/lang/StringUTF16" "$assertionsDisabled" "Z" ∈ ab_tb := ab_in3 _ (List.mem_of_getElem? (i := 154) rfl) rfl
theorem kw_9edf389c75 : Cond.fieldLink "java/lang/StringUTF16" 59 "java/lang/StringUTF16" "HI_BYTE_SHIFT" "I" ∈ ab_tb := ab_in3 _ (List.mem_of_getElem? (i := 156) rfl) rfl
theorem kw_849cd1bb17 : Cond.fieldLink "java/lang/StringUTF16" 63 "java/lang/StringUTF16" "LO_BYTE_SHIFT" "I" ∈ ab_tb := ab_in3 _ (List.mem_of_getElem? (i := 158) rfl) rfl
theorem kw_4488d2bdc0 : Cond.methodLink "HungFaces$Cutter" 62 yX0_isSpelt ∈ ab_tb := ab_in3 _ (List.mem_of_getElem? (i := 160) rfl) rfl
theorem kw_0ff4de8111 : Cond.instanceMethod yX0_isSpelt ∈ ab_tb := ab_in3 _ (List.mem_of_getElem? (i := 162) rfl) rfl
theorem kw_a97f4ea335 : Cond.code yX0_isSpelt cX0_isSpelt 6 (some .boolean) ∈ ab_tb := ab_in3 _ (List.mem_of_getElem? (i := 163) rfl) rfl
theorem kw_cac350d902 : Cond.methodLink "HungFaces$TextReader" 30 ⟨"HungFaces$TextReader", "startText", "()V"⟩ ∈ ab_tb := ab_in3 _ (List.mem_of_getElem? (i := 164) rfl) rfl
theorem kw_93e6ea99cf : Cond.sameMethod "HungFaces$TextReader" "HungFaces$TextReader" "startText" "()V" ∈ ab_tb := ab_in3 _ (List.mem_of_getElem? (i := 166) rfl) rfl
theorem kw_e4bc3ccd88 : Cond.selects "HungFaces$DoorReader" ⟨"HungFaces$TextReader", "startText", "()V"⟩ yX1_startText ∈ ab_tb := ab_in3 _ (List.mem_of_getElem? (i := 167) rfl) rfl
theorem kw_d27bb7fbff : Cond.instanceMethod yX1_startText ∈ ab_tb := ab_in3 _ (List.mem_of_getElem? (i := 168) rfl) rfl
theorem kw_53603ecda1 : Cond.code yX1_startText cX1_startText 1 none ∈ ab_tb := ab_in3 _ (List.mem_of_getElem? (i := 169) rfl) rfl
theorem kw_546af516fc : Cond.methodLink "HungFaces$DoorReader" 22 yX8_copyFrom ∈ ab_tb := ab_in3 _ (List.mem_of_getElem? (i := 170) rfl) rfl
theorem kw_e1809ee4cf : Cond.selects "HungFaces$LawReader" ⟨"HungFaces$TextReader", "startText", "()V"⟩ yX3_startText ∈ ab_tb := ab_in3 _ (List.mem_of_getElem? (i := 171) rfl) rfl
theorem kw_4fc0664c01 : Cond.instanceMethod yX3_startText ∈ ab_tb := ab_in3 _ (List.mem_of_getElem? (i := 172) rfl) rfl
theorem kw_559bbccb85 : Cond.code yX3_startText cX3_startText 1 none ∈ ab_tb := ab_in3 _ (List.mem_of_getElem? (i := 173) rfl) rfl
theorem kw_6d6475e775 : Cond.methodLink "HungFaces$TextReader" 33 yX10_isHere ∈ ab_tb := ab_in3 _ (List.mem_of_getElem? (i := 174) rfl) rfl
theorem kw_9240b532f5 : Cond.instanceMethod yX10_isHere ∈ ab_tb := ab_in3 _ (List.mem_of_getElem? (i := 175) rfl) rfl
theorem kw_4a0b73de13 : Cond.sameMethod "HungFaces$TextReader" "HungFaces$TextReader" "isHere" "(I)Z" ∈ ab_tb := ab_in3 _ (List.mem_of_getElem? (i := 176) rfl) rfl
theorem kw_d9fcfcac3c : Cond.selects "HungFaces$DoorReader" yX10_isHere yX10_isHere ∈ ab_tb := ab_in3 _ (List.mem_of_getElem? (i := 177) rfl) rfl
theorem kw_7a2acdffce : Cond.selects "HungFaces$LawReader" yX10_isHere yX10_isHere ∈ ab_tb := ab_in3 _ (List.mem_of_getElem? (i := 178) rfl) rfl
theorem kw_fdc3127235 : Cond.code yX10_isHere cX10_isHere 2 (some .boolean) ∈ ab_tb := ab_in3 _ (List.mem_of_getElem? (i := 179) rfl) rfl
theorem kw_2ffa2a8d18 : Cond.methodLink "HungFaces$TextReader" 51 yX0_kindHere ∈ ab_tb := ab_in3 _ (List.mem_of_getElem? (i := 180) rfl) rfl
theorem kw_8205f23004 : Cond.instanceMethod yX0_kindHere ∈ ab_tb := ab_in3 _ (List.mem_of_getElem? (i := 181) rfl) rfl
theorem kw_455e2d1259 : Cond.selects "HungFaces$Cutter" yX0_kindHere yX0_kindHere ∈ ab_tb := ab_in3 _ (List.mem_of_getElem? (i := 182) rfl) rfl
theorem kw_94450343dd : Cond.code yX0_kindHere cX0_kindHere 1 (some .int) ∈ ab_tb := ab_in3 _ (List.mem_of_getElem? (i := 183) rfl) rfl
theorem kw_172fb4e6c8 : Cond.methodLink "HungFaces$TextReader" 37 ⟨"HungFaces$TextReader", "readLine", "()V"⟩ ∈ ab_tb := ab_in3 _ (List.mem_of_getElem? (i := 184) rfl) rfl
theorem kw_dc9e5374e8 : Cond.sameMethod "HungFaces$TextReader" "HungFaces$TextReader" "readLine" "()V" ∈ ab_tb := ab_in3 _ (List.mem_of_getElem? (i := 186) rfl) rfl
theorem kw_881e6731c6 : Cond.selects "HungFaces$DoorReader" ⟨"HungFaces$TextReader", "readLine", "()V"⟩ yX1_readLine ∈ ab_tb := ab_in3 _ (List.mem_of_getElem? (i := 187) rfl) rfl
theorem kw_a6b370eec8 : Cond.instanceMethod yX1_readLine ∈ ab_tb := ab_in3 _ (List.mem_of_getElem? (i := 188) rfl) rfl
theorem kw_9c4b506085 : Cond.code yX1_readLine cX1_readLine 1 none ∈ ab_tb := ab_in3 _ (List.mem_of_getElem? (i := 189) rfl) rfl
theorem kw_1b8d71030a : Cond.methodLink "HungFaces$DoorReader" 32 yX0_kindHere ∈ ab_tb := ab_in3 _ (List.mem_of_getElem? (i := 190) rfl) rfl
theorem kw_6724f2a791 : Cond.methodLink "HungFaces$DoorReader" 38 yX1_readPerson ∈ ab_tb := ab_in3 _ (List.mem_of_getElem? (i := 191) rfl) rfl
theorem kw_1544c6933d : Cond.instanceMethod yX1_readPerson ∈ ab_tb := ab_in3 _ (List.mem_of_getElem? (i := 193) rfl) rfl
theorem kw_9a45051ee2 : Cond.code yX1_readPerson cX1_readPerson 3 none ∈ ab_tb := ab_in3 _ (List.mem_of_getElem? (i := 194) rfl) rfl
theorem kw_c6ebc4d85f : Cond.methodLink "HungFaces$DoorReader" 54 ⟨"HungFaces$DoorReader", "accept", "(Z)V"⟩ ∈ ab_tb := ab_in3 _ (List.mem_of_getElem? (i := 195) rfl) rfl
theorem kw_239f1e27a6 : Cond.sameMethod "HungFaces$DoorReader" "HungFaces$TextReader" "accept" "(Z)V" ∈ ab_tb := ab_in3 _ (List.mem_of_getElem? (i := 196) rfl) rfl
theorem kw_6d598fa2ff : Cond.selects "HungFaces$DoorReader" ⟨"HungFaces$DoorReader", "accept", "(Z)V"⟩ yX10_accept ∈ ab_tb := ab_in3 _ (List.mem_of_getElem? (i := 198) rfl) rfl
theorem kw_eb4c2f4eb0 : Cond.instanceMethod yX10_accept ∈ ab_tb := ab_in3 _ (List.mem_of_getElem? (i := 199) rfl) rfl
theorem kw_a37be495fd : Cond.code yX10_accept cX10_accept 2 none ∈ ab_tb := ab_in3 _ (List.mem_of_getElem? (i := 200) rfl) rfl
theorem kw_8e080cb74d : Cond.methodLink "HungFaces$TextReader" 40 yX10_isRight ∈ ab_tb := ab_in3 _ (List.mem_of_getElem? (i := 201) rfl) rfl
theorem kw_bfebedbedb : Cond.instanceMethod yX10_isRight ∈ ab_tb := ab_in3 _ (List.mem_of_getElem? (i := 202) rfl) rfl
theorem kw_30a31ea8db : Cond.sameMethod "HungFaces$TextReader" "HungFaces$TextReader" "isRight" "()Z" ∈ ab_tb := ab_in3 _ (List.mem_of_getElem? (i := 203) rfl) rfl
theorem kw_e550c08623 : Cond.selects "HungFaces$DoorReader" yX10_isRight yX10_isRight ∈ ab_tb := ab_in3 _ (List.mem_of_getElem? (i := 204) rfl) rfl
theorem kw_27a447b283 : Cond.selects "HungFaces$LawReader" yX10_isRight yX10_isRight ∈ ab_tb := ab_in3 _ (List.mem_of_getElem? (i := 205) rfl) rfl
theorem kw_545b036d1d : Cond.code yX10_isRight cX10_isRight 1 (some .boolean) ∈ ab_tb := ab_in3 _ (List.mem_of_getElem? (i := 206) rfl) rfl
theorem kw_61490161a9 : Cond.methodLink "HungFaces$TextReader" 44 yX0_goOn ∈ ab_tb := ab_in3 _ (List.mem_of_getElem? (i := 207) rfl) rfl
theorem kw_1fb8729816 : Cond.instanceMethod yX0_goOn ∈ ab_tb := ab_in3 _ (List.mem_of_getElem? (i := 208) rfl) rfl
theorem kw_e22b894205 : Cond.selects "HungFaces$Cutter" yX0_goOn yX0_goOn ∈ ab_tb := ab_in3 _ (List.mem_of_getElem? (i := 209) rfl) rfl
theorem kw_7d2a32a1c0 : Cond.code yX0_goOn cX0_goOn 1 none ∈ ab_tb := ab_in3 _ (List.mem_of_getElem? (i := 210) rfl) rfl
theorem kw_ca5696855e : Cond.methodLink "HungFaces$TextReader" 55 yX0_beginHere ∈ ab_tb := ab_in3 _ (List.mem_of_getElem? (i := 211) rfl) rfl
theorem kw_eae7dbebb8 : Cond.instanceMethod yX0_beginHere ∈ ab_tb := ab_in3 _ (List.mem_of_getElem? (i := 212) rfl) rfl
theorem kw_dacbd4fda9 : Cond.selects "HungFaces$Cutter" yX0_beginHere yX0_beginHere ∈ ab_tb := ab_in3 _ (List.mem_of_getElem? (i := 213) rfl) rfl
theorem kw_4317fc3e08 : Cond.code yX0_beginHere cX0_beginHere 1 (some .int) ∈ ab_tb := ab_in3 _ (List.mem_of_getElem? (i := 214) rfl) rfl
theorem kw_507147582f : Cond.methodLink "HungFaces$DoorReader" 93 yX1_readFigures ∈ ab_tb := ab_in3 _ (List.mem_of_getElem? (i := 215) rfl) rfl
theorem kw_aaaaa38977 : Cond.instanceMethod yX1_readFigures ∈ ab_tb := ab_in3 _ (List.mem_of_getElem? (i := 217) rfl) rfl
theorem kw_de23861c8c : Cond.code yX1_readFigures cX1_readFigures 2 (some .int) ∈ ab_tb := ab_in3 _ (List.mem_of_getElem? (i := 218) rfl) rfl
theorem kw_c31ffba161 : Cond.methodLink "HungFaces$DoorReader" 87 yX0_figuresHere ∈ ab_tb := ab_in3 _ (List.mem_of_getElem? (i := 219) rfl) rfl
theorem kw_277e59a91c : Cond.instanceMethod yX0_figuresHere ∈ ab_tb := ab_in3 _ (List.mem_of_getElem? (i := 220) rfl) rfl
theorem kw_943f120fa2 : Cond.selects "HungFaces$Cutter" yX0_figuresHere yX0_figuresHere ∈ ab_tb := ab_in3 _ (List.mem_of_getElem? (i := 221) rfl) rfl
theorem kw_e7895b6682 : Cond.code yX0_figuresHere cX0_figuresHere 4 (some .int) ∈ ab_tb := ab_in3 _ (List.mem_of_getElem? (i := 222) rfl) rfl
theorem kw_994849a03c : Cond.methodLink "HungFaces$DoorReader" 58 ⟨"HungFaces$DoorReader", "isRight", "()Z"⟩ ∈ ab_tb := ab_in3 _ (List.mem_of_getElem? (i := 223) rfl) rfl
theorem kw_e77c7a285b : Cond.sameMethod "HungFaces$DoorReader" "HungFaces$TextReader" "isRight" "()Z" ∈ ab_tb := ab_in3 _ (List.mem_of_getElem? (i := 224) rfl) rfl
theorem kw_d35918f7ae : Cond.selects "HungFaces$DoorReader" ⟨"HungFaces$DoorReader", "isRight", "()Z"⟩ yX10_isRight ∈ ab_tb := ab_in3 _ (List.mem_of_getElem? (i := 226) rfl) rfl
theorem kw_9e8a651deb : Cond.methodLink "HungFaces$DoorReader" 96 yX8_addPerson ∈ ab_tb := ab_in3 _ (List.mem_of_getElem? (i := 227) rfl) rfl
theorem kw_c128aa524b : Cond.instanceMethod yX8_addPerson ∈ ab_tb := ab_in3 _ (List.mem_of_getElem? (i := 228) rfl) rfl
theorem kw_6f71730fbd : Cond.selects "HungFaces$State" yX8_addPerson yX8_addPerson ∈ ab_tb := ab_in3 _ (List.mem_of_getElem? (i := 229) rfl) rfl
theorem kw_ac8b4ac544 : Cond.code yX8_addPerson cX8_addPerson 5 none ∈ ab_tb := ab_in3 _ (List.mem_of_getElem? (i := 230) rfl) rfl
theorem kw_b19f60fcc2 : Cond.methodLink "HungFaces$State" 92 yX8_setWishes ∈ ab_tb := ab_in3 _ (List.mem_of_getElem? (i := 231) rfl) rfl
theorem kw_b37458f022 : Cond.instanceMethod yX8_setWishes ∈ ab_tb := ab_in3 _ (List.mem_of_getElem? (i := 232) rfl) rfl
theorem kw_c712b47560 : Cond.selects "HungFaces$State" yX8_setWishes yX8_setWishes ∈ ab_tb := ab_in3 _ (List.mem_of_getElem? (i := 233) rfl) rfl
theorem kw_a2164676d1 : Cond.code yX8_setWishes cX8_setWishes 7 none ∈ ab_tb := ab_in3 _ (List.mem_of_getElem? (i := 234) rfl) rfl
theorem kw_2fcb5ed094 : Cond.methodLink "HungFaces$DoorReader" 42 yX1_readWish ∈ ab_tb := ab_in3 _ (List.mem_of_getElem? (i := 236) rfl) rfl
theorem kw_ca659646ac : Cond.instanceMethod yX1_readWish ∈ ab_tb := ab_in3 _ (List.mem_of_getElem? (i := 238) rfl) rfl
theorem kw_c5731a8bda : Cond.code yX1_readWish cX1_readWish 6 none ∈ ab_tb := ab_in3 _ (List.mem_of_getElem? (i := 239) rfl) rfl
theorem kw_d042d3e010 : Cond.methodLink "HungFaces$DoorReader" 100 yX0_goOn ∈ ab_tb := ab_in4 _ (List.mem_of_getElem? (i := 0) rfl) rfl
theorem kw_de0aebe4f7 : Cond.methodLink "HungFaces$DoorReader" 71 yX1_readNumber ∈ ab_tb := ab_in4 _ (List.mem_of_getElem? (i := 1) rfl) rfl
theorem kw_724bba1972 : Cond.instanceMethod yX1_readNumber ∈ ab_tb := ab_in4 _ (List.mem_of_getElem? (i := 3) rfl) rfl
theorem kw_5518bdc77a : Cond.code yX1_readNumber cX1_readNumber 4 (some .int) ∈ ab_tb := ab_in4 _ (List.mem_of_getElem? (i := 4) rfl) rfl
theorem kw_c557820b00 : Cond.methodLink "HungFaces$DoorReader" 84 yX0_numberHere ∈ ab_tb := ab_in4 _ (List.mem_of_getElem? (i := 5) rfl) rfl
theorem kw_467487164e : Cond.instanceMethod yX0_numberHere ∈ ab_tb := ab_in4 _ (List.mem_of_getElem? (i := 6) rfl) rfl
theorem kw_119fd82199 : Cond.selects "HungFaces$Cutter" yX0_numberHere yX0_numberHere ∈ ab_tb := ab_in4 _ (List.mem_of_getElem? (i := 7) rfl) rfl
theorem kw_fed26a20e2 : Cond.code yX0_numberHere cX0_numberHere 3 (some .int) ∈ ab_tb := ab_in4 _ (List.mem_of_getElem? (i := 8) rfl) rfl
theorem kw_4c94179ded : Cond.methodLink "HungFaces$DoorReader" 103 yX8_hasPerson ∈ ab_tb := ab_in4 _ (List.mem_of_getElem? (i := 9) rfl) rfl
theorem kw_1a6b271e78 : Cond.instanceMethod yX8_hasPerson ∈ ab_tb := ab_in4 _ (List.mem_of_getElem? (i := 10) rfl) rfl
theorem kw_58b468e312 : Cond.selects "HungFaces$State" yX8_hasPerson yX8_hasPerson ∈ ab_tb := ab_in4 _ (List.mem_of_getElem? (i := 11) rfl) rfl
theorem kw_7a79123178 : Cond.code yX8_hasPerson cX8_hasPerson 2 (some .boolean) ∈ ab_tb := ab_in4 _ (List.mem_of_getElem? (i := 12) rfl) rfl
theorem kw_4c0b5a7454 : Cond.methodLink "HungFaces$DoorReader" 111 ⟨"HungFaces$DoorReader", "isHere", "(I)Z"⟩ ∈ ab_tb := ab_in4 _ (List.mem_of_getElem? (i := 14) rfl) rfl
theorem kw_bf6c965765 : Cond.sameMethod "HungFaces$DoorReader" "HungFaces$TextReader" "isHere" "(I)Z" ∈ ab_tb := ab_in4 _ (List.mem_of_getElem? (i := 15) rfl) rfl
theorem kw_a8b0565896 : Cond.selects "HungFaces$DoorReader" ⟨"HungFaces$DoorReader", "isHere", "(I)Z"⟩ yX10_isHere ∈ ab_tb := ab_in4 _ (List.mem_of_getElem? (i := 17) rfl) rfl
theorem kw_84bdd8b8c5 : Cond.methodLink "HungFaces$DoorReader" 114 yX8_setWishes ∈ ab_tb := ab_in4 _ (List.mem_of_getElem? (i := 18) rfl) rfl
theorem kw_71c7f2ec20 : Cond.methodLink "HungFaces$DoorReader" 45 yX1_readWed ∈ ab_tb := ab_in4 _ (List.mem_of_getElem? (i := 19) rfl) rfl
theorem kw_5138a3b46c : Cond.instanceMethod yX1_readWed ∈ ab_tb := ab_in4 _ (List.mem_of_getElem? (i := 21) rfl) rfl
theorem kw_fac52efb85 : Cond.code yX1_readWed cX1_readWed 3 none ∈ ab_tb := ab_in4 _ (List.mem_of_getElem? (i := 22) rfl) rfl
theorem kw_0fcf16cbdb : Cond.methodLink "HungFaces$DoorReader" 118 yX8_canWed ∈ ab_tb := ab_in4 _ (List.mem_of_getElem? (i := 23) rfl) rfl
theorem kw_58acdb1b74 : Cond.instanceMethod yX8_canWed ∈ ab_tb := ab_in4 _ (List.mem_of_getElem? (i := 24) rfl) rfl
theorem kw_f42e340b02 : Cond.selects "HungFaces$State" yX8_canWed yX8_canWed ∈ ab_tb := ab_in4 _ (List.mem_of_getElem? (i := 25) rfl) rfl
theorem kw_c5c6e00074 : Cond.code yX8_canWed cX8_canWed 2 (some .boolean) ∈ ab_tb := ab_in4 _ (List.mem_of_getElem? (i := 26) rfl) rfl
theorem kw_8d3801c66a : Cond.methodLink "HungFaces$State" 88 yX8_hasPerson ∈ ab_tb := ab_in4 _ (List.mem_of_getElem? (i := 27) rfl) rfl
theorem kw_9d811dbebd : Cond.methodLink "HungFaces$DoorReader" 48 yX1_readKnows ∈ ab_tb := ab_in4 _ (List.mem_of_getElem? (i := 28) rfl) rfl
theorem kw_e20c0d7c4b : Cond.instanceMethod yX1_readKnows ∈ ab_tb := ab_in4 _ (List.mem_of_getElem? (i := 30) rfl) rfl
theorem kw_038f604f4a : Cond.code yX1_readKnows cX1_readKnows 5 none ∈ ab_tb := ab_in4 _ (List.mem_of_getElem? (i := 31) rfl) rfl
theorem kw_d4a96c9d5f : Cond.methodLink "HungFaces$DoorReader" 51 yX1_readSetting ∈ ab_tb := ab_in4 _ (List.mem_of_getElem? (i := 32) rfl) rfl
theorem kw_1d27cb4cd7 : Cond.instanceMethod yX1_readSetting ∈ ab_tb := ab_in4 _ (List.mem_of_getElem? (i := 34) rfl) rfl
theorem kw_5d07343378 : Cond.code yX1_readSetting cX1_readSetting 5 none ∈ ab_tb := ab_in4 _ (List.mem_of_getElem? (i := 35) rfl) rfl
theorem kw_a3b889f7c8 : Cond.methodLink "HungFaces$DoorReader" 62 yX8_lastTakenHook ∈ ab_tb := ab_in4 _ (List.mem_of_getElem? (i := 36) rfl) rfl
theorem kw_a1529f4a2f : Cond.instanceMethod yX8_lastTakenHook ∈ ab_tb := ab_in4 _ (List.mem_of_getElem? (i := 37) rfl) rfl
theorem kw_23fa986f40 : Cond.selects "HungFaces$State" yX8_lastTakenHook yX8_lastTakenHook ∈ ab_tb := ab_in4 _ (List.mem_of_getElem? (i := 38) rfl) rfl
theorem kw_22636a88b5 : Cond.code yX8_lastTakenHook cX8_lastTakenHook 3 (some .int) ∈ ab_tb := ab_in4 _ (List.mem_of_getElem? (i := 39) rfl) rfl
theorem kw_7a22ef7001 : Cond.methodLink "HungFaces$State" 100 yX8_ticketIsOut ∈ ab_tb := ab_in4 _ (List.mem_of_getElem? (i := 40) rfl) rfl
theorem kw_04921a8266 : Cond.methodLink "HungFaces$DoorReader" 65 yJ9_max_7cf53 ∈ ab_tb := ab_in4 _ (List.mem_of_getElem? (i := 41) rfl) rfl
theorem kw_109fd16dc0 : Cond.selects "HungFaces$LawReader" ⟨"HungFaces$TextReader", "readLine", "()V"⟩ yX3_readLine ∈ ab_tb := ab_in4 _ (List.mem_of_getElem? (i := 42) rfl) rfl
theorem kw_ea76a122e9 : Cond.instanceMethod yX3_readLine ∈ ab_tb := ab_in4 _ (List.mem_of_getElem? (i := 43) rfl) rfl
theorem kw_5fedb07664 : Cond.code yX3_readLine cX3_readLine 2 none ∈ ab_tb := ab_in4 _ (List.mem_of_getElem? (i := 44) rfl) rfl
theorem kw_68c9891701 : Cond.methodLink "HungFaces$LawReader" 23 yX0_kindHere ∈ ab_tb := ab_in4 _ (List.mem_of_getElem? (i := 45) rfl) rfl
theorem kw_28beaa0564 : Cond.methodLink "HungFaces$LawReader" 29 ⟨"HungFaces$LawReader", "accept", "(Z)V"⟩ ∈ ab_tb := ab_in4 _ (List.mem_of_getElem? (i := 46) rfl) rfl
theorem kw_4873b1cda7 : Cond.sameMethod "HungFaces$LawReader" "HungFaces$TextReader" "accept" "(Z)V" ∈ ab_tb := ab_in4 _ (List.mem_of_getElem? (i := 47) rfl) rfl
theorem kw_3200b46021 : Cond.selects "HungFaces$LawReader" ⟨"HungFaces$LawReader", "accept", "(Z)V"⟩ yX10_accept ∈ ab_tb := ab_in4 _ (List.mem_of_getElem? (i := 48) rfl) rfl
theorem kw_61cf872c46 : Cond.methodLink "HungFaces$LawReader" 33 ⟨"HungFaces$LawReader", "isRight", "()Z"⟩ ∈ ab_tb := ab_in4 _ (List.mem_of_getElem? (i := 49) rfl) rfl
theorem kw_d47633671a : Cond.sameMethod "HungFaces$LawReader" "HungFaces$TextReader" "isRight" "()Z" ∈ ab_tb := ab_in4 _ (List.mem_of_getElem? (i := 50) rfl) rfl
theorem kw_b93c2e3d47 : Cond.selects "HungFaces$LawReader" ⟨"HungFaces$LawReader", "isRight", "()Z"⟩ yX10_isRight ∈ ab_tb := ab_in4 _ (List.mem_of_getElem? (i := 51) rfl) rfl
theorem kw_96db8f6ce3 : Cond.methodLink "HungFaces$LawReader" 37 ⟨"HungFaces$LawReader", "isHere", "(I)Z"⟩ ∈ ab_tb := ab_in4 _ (List.mem_of_getElem? (i := 52) rfl) rfl
theorem kw_66500deaa5 : Cond.sameMethod "HungFaces$LawReader" "HungFaces$TextReader" "isHere" "(I)Z" ∈ ab_tb := ab_in4 _ (List.mem_of_getElem? (i := 53) rfl) rfl
theorem kw_c6473eefd5 : Cond.selects "HungFaces$LawReader" ⟨"HungFaces$LawReader", "isHere", "(I)Z"⟩ yX10_isHere ∈ ab_tb := ab_in4 _ (List.mem_of_getElem? (i := 54) rfl) rfl
theorem kw_6b1fe0f78f : Cond.methodLink "HungFaces$LawReader" 41 yX0_goOn ∈ ab_tb := ab_in4 _ (List.mem_of_getElem? (i := 55) rfl) rfl
theorem kw_903067feec : Cond.methodLink "HungFaces$LawReader" 45 yX3_readCondition ∈ ab_tb := ab_in4 _ (List.mem_of_getElem? (i := 56) rfl) rfl
theorem kw_f2842eb1ce : Cond.instanceMethod yX3_readCondition ∈ ab_tb := ab_in4 _ (List.mem_of_getElem? (i := 58) rfl) rfl
theorem kw_afcc1c1f84 : Cond.code yX3_readCondition cX3_readCondition 6 none ∈ ab_tb := ab_in4 _ (List.mem_of_getElem? (i := 59) rfl) rfl
theorem kw_69652ce14f : Cond.methodLink "HungFaces$LawReader" 64 yX3_readAtom ∈ ab_tb := ab_in4 _ (List.mem_of_getElem? (i := 60) rfl) rfl
theorem kw_fab71a6510 : Cond.instanceMethod yX3_readAtom ∈ ab_tb := ab_in4 _ (List.mem_of_getElem? (i := 62) rfl) rfl
theorem kw_a7b5596400 : Cond.code yX3_readAtom cX3_readAtom 3 none ∈ ab_tb := ab_in4 _ (List.mem_of_getElem? (i := 63) rfl) rfl
theorem kw_ca08972f62 : Cond.methodLink "HungFaces$LawReader" 49 yX3_emit ∈ ab_tb := ab_in4 _ (List.mem_of_getElem? (i := 64) rfl) rfl
theorem kw_4243a32eb7 : Cond.instanceMethod yX3_emit ∈ ab_tb := ab_in4 _ (List.mem_of_getElem? (i := 66) rfl) rfl
theorem kw_cc23d8af96 : Cond.code yX3_emit cX3_emit 2 none ∈ ab_tb := ab_in4 _ (List.mem_of_getElem? (i := 67) rfl) rfl
theorem kw_86f644d7b0 : Cond.methodLink "HungFaces$LawReader" 67 yX3_readSum ∈ ab_tb := ab_in4 _ (List.mem_of_getElem? (i := 68) rfl) rfl
theorem kw_ac1c36fa29 : Cond.instanceMethod yX3_readSum ∈ ab_tb := ab_in4 _ (List.mem_of_getElem? (i := 70) rfl) rfl
theorem kw_561617c722 : Cond.code yX3_readSum cX3_readSum 5 none ∈ ab_tb := ab_in4 _ (List.mem_of_getElem? (i := 71) rfl) rfl
theorem kw_637bc9ee0b : Cond.methodLink "HungFaces$LawReader" 70 yX0_numberHere ∈ ab_tb := ab_in4 _ (List.mem_of_getElem? (i := 72) rfl) rfl
theorem kw_085170e901 : Cond.methodLink "HungFaces$TextReader" 47 yX10_accept ∈ ab_tb := ab_in4 _ (List.mem_of_getElem? (i := 73) rfl) rfl
theorem kw_3a4ee01bea : Cond.classLink "HungFaces" 95 "java/lang/IllegalArgumentException" ∈ ab_tb := ab_in4 _ (List.mem_of_getElem? (i := 74) rfl) rfl
theorem kw_d3fbd8b86e : Cond.instantiable "java/lang/IllegalArgumentException" 6 ∈ ab_tb := ab_in4 _ (List.mem_of_getElem? (i := 75) rfl) rfl
theorem kw_c58cfbfb14 : Cond.selects "java/lang/IllegalArgumentException" ⟨"java/lang/Throwable", "fillInStackTrace", "(I)Ljava/lang/Throwable;"⟩ ⟨"java/lang/Throwable", "fillInStackTrace", "(I)Ljava/lang/Throwable;"⟩ ∈ ab_tb := ab_in4 _ (List.mem_of_getElem? (i := 83) rfl) rfl
theorem kw_4573371f5a : Cond.selects "java/lang/IllegalArgumentException" ⟨"java/lang/Throwable", "fillInStackTrace", "()Ljava/lang/Throwable;"⟩ ⟨"java/lang/Throwable", "fillInStackTrace", "()Ljava/lang/Throwable;"⟩ ∈ ab_tb := ab_in4 _ (List.mem_of_getElem? (i := 84) rfl) rfl
theorem kw_cfbeb12bc1 : Cond.fieldLink "java/lang/Throwable" 198 "java/lang/Throwable" "backtrace" "Ljava/lang/Object;" ∈ ab_tb := ab_in4 _ (List.mem_of_getElem? (i := 95) rfl) rfl
theorem kw_21f6ea2f83 : Cond.instanceMethod ⟨"java/lang/Throwable", "<init>", "()V"⟩ ∈ ab_tb := ab_in4 _ (List.mem_of_getElem? (i := 97) rfl) rfl
theorem kw_0517aff19d : Cond.methodLink "java/lang/Throwable" 1 ⟨"java/lang/Object", "<init>", "()V"⟩ ∈ ab_tb := ab_in4 _ (List.mem_of_getElem? (i := 99) rfl) rfl
theorem kw_f022d55b48 : Cond.fieldLink "java/lang/Throwable" 13 "java/lang/Throwable" "UNASSIGNED_STACK" "[Ljava/lang/StackTraceElement;" ∈ ab_tb := ab_in4 _ (List.mem_of_getElem? (i := 100) rfl) rfl
theorem kw_f4adaebedf : Cond.fieldLink "java/lang/Throwable" 20 "java/lang/Throwable" "SUPPRESSED_SENTINEL" "Ljava/util/List;" ∈ ab_tb := ab_in4 _ (List.mem_of_getElem? (i := 102) rfl) rfl
theorem kw_93ebf1c08f : Cond.methodLink "java/lang/Throwable" 27 ⟨"java/lang/Throwable", "fillInStackTrace", "()Ljava/lang/Throwable;"⟩ ∈ ab_tb := ab_in4 _ (List.mem_of_getElem? (i := 104) rfl) rfl
theorem kw_8bc372ca0e : Cond.instanceMethod ⟨"java/lang/Throwable", "fillInStackTrace", "()Ljava/lang/Throwable;"⟩ ∈ ab_tb := ab_in4 _ (List.mem_of_getElem? (i := 105) rfl) rfl
theorem kw_0838fea534 : Cond.sameMethod "java/lang/Throwable" "java/lang/Throwable" "fillInStackTrace" "()Ljava/lang/Throwable;" ∈ ab_tb := ab_in4 _ (List.mem_of_getElem? (i := 106) rfl) rfl
theorem kw_ae8ea335d4 : Cond.selects "java/lang/IllegalStateException" ⟨"java/lang/Throwable", "fillInStackTrace", "()Ljava/lang/Throwable;"⟩ ⟨"java/lang/Throwable", "fillInStackTrace", "()Ljava/lang/Throwable;"⟩ ∈ ab_tb := ab_in4 _ (List.mem_of_getElem? (i := 107) rfl) rfl
theorem kw_7d3bb790a5 : Cond.selects "java/lang/IndexOutOfBoundsException" ⟨"java/lang/Throwable", "fillInStackTrace", "()Ljava/lang/Throwable;"⟩ ⟨"java/lang/Throwable", "fillInStackTrace", "()Ljava/lang/Throwable;"⟩ ∈ ab_tb := ab_in4 _ (List.mem_of_getElem? (i := 108) rfl) rfl
theorem kw_aaef46a683 : Cond.selects "java/lang/UnsupportedOperationException" ⟨"java/lang/Throwable", "fillInStackTrace", "()Ljava/lang/Throwable;"⟩ ⟨"java/lang/Throwable", "fillInStackTrace", "()Ljava/lang/Throwable;"⟩ ∈ ab_tb := ab_in4 _ (List.mem_of_getElem? (i := 109) rfl) rfl
theorem kw_d947b0b91b : Cond.selects "java/util/NoSuchElementException" ⟨"java/lang/Throwable", "fillInStackTrace", "()Ljava/lang/Throwable;"⟩ ⟨"java/lang/Throwable", "fillInStackTrace", "()Ljava/lang/Throwable;"⟩ ∈ ab_tb := ab_in4 _ (List.mem_of_getElem? (i := 110) rfl) rfl
theorem kw_e2d4dc87a8 : Cond.methodLink "java/lang/Throwable" 202 ⟨"java/lang/Throwable", "fillInStackTrace", "(I)Ljava/lang/Throwable;"⟩ ∈ ab_tb := ab_in4 _ (List.mem_of_getElem? (i := 112) rfl) rfl
theorem kw_006671ef6c : Cond.instanceMethod ⟨"java/lang/Throwable", "fillInStackTrace", "(I)Ljava/lang/Throwable;"⟩ ∈ ab_tb := ab_in4 _ (List.mem_of_getElem? (i := 114) rfl) rfl
theorem kw_4e7071bc30 : Cond.instantiable "java/lang/Throwable" 6 ∈ ab_tb := ab_in4 _ (List.mem_of_getElem? (i := 115) rfl) rfl
theorem kw_140b9a1395 : Cond.native ⟨"java/lang/Throwable", "fillInStackTrace", "(I)Ljava/lang/Throwable;"⟩ ∈ ab_tb := ab_in4 _ (List.mem_of_getElem? (i := 116) rfl) rfl
theorem kw_a84a6daa2b : Cond.methodLink "HungFaces" 99 ⟨"java/lang/IllegalArgumentException", "<init>", "(Ljava/lang/String;)V"⟩ ∈ ab_tb := ab_in4 _ (List.mem_of_getElem? (i := 118) rfl) rfl
theorem kw_7bd01c5cf7 : Cond.instanceMethod ⟨"java/lang/IllegalArgumentException", "<init>", "(Ljava/lang/String;)V"⟩ ∈ ab_tb := ab_in4 _ (List.mem_of_getElem? (i := 119) rfl) rfl
theorem kw_ec1f23ece2 : Cond.methodLink "java/lang/IllegalArgumentException" 7 ⟨"java/lang/RuntimeException", "<init>", "(Ljava/lang/String;)V"⟩ ∈ ab_tb := ab_in4 _ (List.mem_of_getElem? (i := 121) rfl) rfl
theorem kw_8d219f0602 : Cond.instanceMethod ⟨"java/lang/RuntimeException", "<init>", "(Ljava/lang/String;)V"⟩ ∈ ab_tb := ab_in4 _ (List.mem_of_getElem? (i := 122) rfl) rfl
theorem kw_c0db8ee634 : Cond.methodLink "java/lang/RuntimeException" 7 ⟨"java/lang/Exception", "<init>", "(Ljava/lang/String;)V"⟩ ∈ ab_tb := ab_in4 _ (List.mem_of_getElem? (i := 124) rfl) rfl
theorem kw_7643160c43 : Cond.instanceMethod ⟨"java/lang/Exception", "<init>", "(Ljava/lang/String;)V"⟩ ∈ ab_tb := ab_in4 _ (List.mem_of_getElem? (i := 125) rfl) rfl
theorem kw_3786ec696f : Cond.methodLink "java/lang/Exception" 7 ⟨"java/lang/Throwable", "<init>", "(Ljava/lang/String;)V"⟩ ∈ ab_tb := ab_in4 _ (List.mem_of_getElem? (i := 127) rfl) rfl
theorem kw_2e263a322f : Cond.instanceMethod ⟨"java/lang/Throwable", "<init>", "(Ljava/lang/String;)V"⟩ ∈ ab_tb := ab_in4 _ (List.mem_of_getElem? (i := 128) rfl) rfl
theorem kw_55e39759d7 : Cond.fieldLink "java/lang/Throwable" 31 "java/lang/Throwable" "detailMessage" "Ljava/lang/String;" ∈ ab_tb := ab_in4 _ (List.mem_of_getElem? (i := 131) rfl) rfl
theorem kw_377dd55701 : Cond.fieldLink "java/lang/Throwable" 7 "java/lang/Throwable" "cause" "Ljava/lang/Throwable;" ∈ ab_tb := ab_in4 _ (List.mem_of_getElem? (i := 132) rfl) rfl
theorem kw_457b147255 : Cond.fieldLink "java/lang/Throwable" 17 "java/lang/Throwable" "stackTrace" "[Ljava/lang/StackTraceElement;" ∈ ab_tb := ab_in4 _ (List.mem_of_getElem? (i := 133) rfl) rfl
theorem kw_7b64ec0306 : Cond.fieldLink "java/lang/Throwable" 24 "java/lang/Throwable" "suppressedExceptions" "Ljava/util/List;" ∈ ab_tb := ab_in4 _ (List.mem_of_getElem? (i := 134) rfl) rfl
theorem kw_ce080a456c : Cond.arrayClass Jvm.ClassFile.FieldType.byte ∈ ab_tb := ab_in4 _ (List.mem_of_getElem? (i := 143) rfl) rfl
theorem kw_f47d82ba5c : Cond.classLink "HungFaces" 105 "java/lang/UnsupportedOperationException" ∈ ab_tb := ab_in4 _ (List.mem_of_getElem? (i := 144) rfl) rfl
theorem kw_921c13205b : Cond.instantiable "java/lang/UnsupportedOperationException" 6 ∈ ab_tb := ab_in4 _ (List.mem_of_getElem? (i := 145) rfl) rfl
theorem kw_d0e69f542f : Cond.selects "java/lang/UnsupportedOperationException" ⟨"java/lang/Throwable", "fillInStackTrace", "(I)Ljava/lang/Throwable;"⟩ ⟨"java/lang/Throwable", "fillInStackTrace", "(I)Ljava/lang/Throwable;"⟩ ∈ ab_tb := ab_in4 _ (List.mem_of_getElem? (i := 147) rfl) rfl
theorem kw_b26476fe90 : Cond.methodLink "HungFaces" 109 ⟨"java/lang/UnsupportedOperationException", "<init>", "(Ljava/lang/String;)V"⟩ ∈ ab_tb := ab_in4 _ (List.mem_of_getElem? (i := 154) rfl) rfl
theorem kw_c1ead48c64 : Cond.instanceMethod ⟨"java/lang/UnsupportedOperationException", "<init>", "(Ljava/lang/String;)V"⟩ ∈ ab_tb := ab_in4 _ (List.mem_of_getElem? (i := 155) rfl) rfl
theorem kw_289cd0f8ef : Cond.methodLink "java/lang/UnsupportedOperationException" 7 ⟨"java/lang/RuntimeException", "<init>", "(Ljava/lang/String;)V"⟩ ∈ ab_tb := ab_in4 _ (List.mem_of_getElem? (i := 157) rfl) rfl
theorem kw_ac8fa0b130 : Cond.methodLink "HungFacesLaw" 140 yL_law ∈ ab_tb := ab_in4 _ (List.mem_of_getElem? (i := 160) rfl) rfl
theorem kw_6e27b9e99f : Cond.static yL_law ∈ ab_tb := ab_in4 _ (List.mem_of_getElem? (i := 161) rfl) rfl
theorem kw_ec86d91324 : Cond.methodLink "HungFacesLaw" 17 yX11_law ∈ ab_tb := ab_in4 _ (List.mem_of_getElem? (i := 163) rfl) rfl
theorem kw_0e01751995 : Cond.instanceMethod yX11_law ∈ ab_tb := ab_in4 _ (List.mem_of_getElem? (i := 164) rfl) rfl
theorem kw_7aa515d58b : Cond.selects "HungFaces" yX11_law yX11_law ∈ ab_tb := ab_in4 _ (List.mem_of_getElem? (i := 165) rfl) rfl
theorem kw_cc63f0977f : Cond.code yX11_law cX11_law 1 (some .int) ∈ ab_tb := ab_in4 _ (List.mem_of_getElem? (i := 166) rfl) rfl
theorem kw_57dce7a24a : Cond.methodLink "HungFaces" 117 ⟨"HungFaces$LawReader", "readText", "()I"⟩ ∈ ab_tb := ab_in4 _ (List.mem_of_getElem? (i := 167) rfl) rfl
theorem kw_b68cdbef81 : Cond.sameMethod "HungFaces$LawReader" "HungFaces$TextReader" "readText" "()I" ∈ ab_tb := ab_in4 _ (List.mem_of_getElem? (i := 168) rfl) rfl
theorem kw_a0ef928395 : Cond.selects "HungFaces$LawReader" ⟨"HungFaces$LawReader", "readText", "()I"⟩ yX10_readText ∈ ab_tb := ab_in4 _ (List.mem_of_getElem? (i := 169) rfl) rfl
theorem kw_5a5a8ecff9 : Cond.methodLink "HungFaces" 120 yX3_madeLaw ∈ ab_tb := ab_in4 _ (List.mem_of_getElem? (i := 171) rfl) rfl
theorem kw_aed06cf66a : Cond.instanceMethod yX3_madeLaw ∈ ab_tb := ab_in4 _ (List.mem_of_getElem? (i := 172) rfl) rfl
theorem kw_0a63aa7f63 : Cond.selects "HungFaces$LawReader" yX3_madeLaw yX3_madeLaw ∈ ab_tb := ab_in4 _ (List.mem_of_getElem? (i := 173) rfl) rfl
theorem kw_105bf793c6 : Cond.code yX3_madeLaw cX3_madeLaw 2 (some (.object "HungFaces$Law")) ∈ ab_tb := ab_in4 _ (List.mem_of_getElem? (i := 174) rfl) rfl
theorem kw_3e600746c4 : Cond.classLink "HungFaces$LawReader" 52 "HungFaces$Law" ∈ ab_tb := ab_in4 _ (List.mem_of_getElem? (i := 175) rfl) rfl
theorem kw_14bcf9e0cd : Cond.methodLink "HungFaces$LawReader" 57 yX2_init ∈ ab_tb := ab_in4 _ (List.mem_of_getElem? (i := 176) rfl) rfl
theorem kw_54bab627f1 : Cond.methodLink "HungFaces$LawReader" 60 yX2_takeCode ∈ ab_tb := ab_in4 _ (List.mem_of_getElem? (i := 177) rfl) rfl
theorem kw_30f1e5be2f : Cond.instanceMethod yX2_takeCode ∈ ab_tb := ab_in4 _ (List.mem_of_getElem? (i := 178) rfl) rfl
theorem kw_8623b807e0 : Cond.selects "HungFaces$Law" yX2_takeCode yX2_takeCode ∈ ab_tb := ab_in4 _ (List.mem_of_getElem? (i := 179) rfl) rfl
theorem kw_805ae04129 : Cond.code yX2_takeCode cX2_takeCode 3 none ∈ ab_tb := ab_in4 _ (List.mem_of_getElem? (i := 180) rfl) rfl
theorem kw_05fb3f1cb1 : Cond.methodLink "HungFacesLaw" 147 yL_person ∈ ab_tb := ab_in4 _ (List.mem_of_getElem? (i := 181) rfl) rfl
theorem kw_974b8c88e5 : Cond.static yL_person ∈ ab_tb := ab_in4 _ (List.mem_of_getElem? (i := 182) rfl) rfl
theorem kw_3b86422439 : Cond.classLink "HungFacesLaw" 24 "java/lang/IndexOutOfBoundsException" ∈ ab_tb := ab_in4 _ (List.mem_of_getElem? (i := 184) rfl) rfl
theorem kw_3ea7abf6d9 : Cond.classLink "HungFacesLaw" 26 "java/util/NoSuchElementException" ∈ ab_tb := ab_in4 _ (List.mem_of_getElem? (i := 185) rfl) rfl
theorem kw_10acb615e9 : Cond.methodLink "HungFacesLaw" 20 yX11_person ∈ ab_tb := ab_in4 _ (List.mem_of_getElem? (i := 186) rfl) rfl
theorem kw_f916f64ed4 : Cond.instanceMethod yX11_person ∈ ab_tb := ab_in4 _ (List.mem_of_getElem? (i := 187) rfl) rfl
theorem kw_995890be89 : Cond.selects "HungFaces" yX11_person yX11_person ∈ ab_tb := ab_in4 _ (List.mem_of_getElem? (i := 188) rfl) rfl
theorem kw_4748449d69 : Cond.code yX11_person cX11_person 3 (some .int) ∈ ab_tb := ab_in4 _ (List.mem_of_getElem? (i := 189) rfl) rfl
theorem kw_a072a97f88 : Cond.methodLink "HungFaces" 131 yX11_needPerson ∈ ab_tb := ab_in4 _ (List.mem_of_getElem? (i := 190) rfl) rfl
theorem kw_4f3fe4aaaa : Cond.instanceMethod yX11_needPerson ∈ ab_tb := ab_in4 _ (List.mem_of_getElem? (i := 192) rfl) rfl
theorem kw_85c1b9bbad : Cond.code yX11_needPerson cX11_needPerson 2 none ∈ ab_tb := ab_in4 _ (List.mem_of_getElem? (i := 193) rfl) rfl
theorem kw_79a18c124d : Cond.methodLink "HungFaces" 388 yX8_hasPerson ∈ ab_tb := ab_in4 _ (List.mem_of_getElem? (i := 194) rfl) rfl
theorem kw_bbc37775ce : Cond.classLink "HungFaces" 391 "java/lang/IndexOutOfBoundsException" ∈ ab_tb := ab_in4 _ (List.mem_of_getElem? (i := 195) rfl) rfl
theorem kw_37bf8a77a4 : Cond.instantiable "java/lang/IndexOutOfBoundsException" 6 ∈ ab_tb := ab_in4 _ (List.mem_of_getElem? (i := 196) rfl) rfl
theorem kw_687c431410 : Cond.selects "java/lang/IndexOutOfBoundsException" ⟨"java/lang/Throwable", "fillInStackTrace", "(I)Ljava/lang/Throwable;"⟩ ⟨"java/lang/Throwable", "fillInStackTrace", "(I)Ljava/lang/Throwable;"⟩ ∈ ab_tb := ab_in4 _ (List.mem_of_getElem? (i := 198) rfl) rfl
theorem kw_4e1971ec51 : Cond.methodLink "HungFaces" 395 ⟨"java/lang/IndexOutOfBoundsException", "<init>", "(Ljava/lang/String;)V"⟩ ∈ ab_tb := ab_in4 _ (List.mem_of_getElem? (i := 205) rfl) rfl
theorem kw_4c5d807ffc : Cond.instanceMethod ⟨"java/lang/IndexOutOfBoundsException", "<init>", "(Ljava/lang/String;)V"⟩ ∈ ab_tb := ab_in4 _ (List.mem_of_getElem? (i := 206) rfl) rfl
theorem kw_44a067eec3 : Cond.methodLink "java/lang/IndexOutOfBoundsException" 7 ⟨"java/lang/RuntimeException", "<init>", "(Ljava/lang/String;)V"⟩ ∈ ab_tb := ab_in4 _ (List.mem_of_getElem? (i := 208) rfl) rfl
theorem kw_2a5a1ca848 : Cond.classLink "HungFaces" 154 "java/util/NoSuchElementException" ∈ ab_tb := ab_in4 _ (List.mem_of_getElem? (i := 211) rfl) rfl
theorem kw_d14b02ec8e : Cond.instantiable "java/util/NoSuchElementException" 6 ∈ ab_tb := ab_in4 _ (List.mem_of_getElem? (i := 212) rfl) rfl
theorem kw_11f9fabad7 : Cond.selects "java/util/NoSuchElementException" ⟨"java/lang/Throwable", "fillInStackTrace", "(I)Ljava/lang/Throwable;"⟩ ⟨"java/lang/Throwable", "fillInStackTrace", "(I)Ljava/lang/Throwable;"⟩ ∈ ab_tb := ab_in4 _ (List.mem_of_getElem? (i := 214) rfl) rfl
theorem kw_6fed52a300 : Cond.methodLink "HungFaces" 158 ⟨"java/util/NoSuchElementException", "<init>", "(Ljava/lang/String;)V"⟩ ∈ ab_tb := ab_in4 _ (List.mem_of_getElem? (i := 221) rfl) rfl
theorem kw_5c396261d9 : Cond.instanceMethod ⟨"java/util/NoSuchElementException", "<init>", "(Ljava/lang/String;)V"⟩ ∈ ab_tb := ab_in4 _ (List.mem_of_getElem? (i := 222) rfl) rfl
theorem kw_15cd74013a : Cond.methodLink "java/util/NoSuchElementException" 13 ⟨"java/lang/RuntimeException", "<init>", "(Ljava/lang/String;)V"⟩ ∈ ab_tb := ab_in4 _ (List.mem_of_getElem? (i := 224) rfl) rfl
theorem kw_a840126fb0 : Cond.methodLink "HungFacesLaw" 151 yL_face ∈ ab_tb := ab_in4 _ (List.mem_of_getElem? (i := 227) rfl) rfl
theorem kw_1025e870f4 : Cond.static yL_face ∈ ab_tb := ab_in4 _ (List.mem_of_getElem? (i := 228) rfl) rfl
theorem kw_b68d3765f5 : Cond.methodLink "HungFacesLaw" 28 yX11_face ∈ ab_tb := ab_in4 _ (List.mem_of_getElem? (i := 230) rfl) rfl
theorem kw_c6931383b4 : Cond.instanceMethod yX11_face ∈ ab_tb := ab_in4 _ (List.mem_of_getElem? (i := 231) rfl) rfl
theorem kw_23a1020da0 : Cond.selects "HungFaces" yX11_face yX11_face ∈ ab_tb := ab_in4 _ (List.mem_of_getElem? (i := 232) rfl) rfl
theorem kw_f773c66988 : Cond.code yX11_face cX11_face 3 (some .int) ∈ ab_tb := ab_in4 _ (List.mem_of_getElem? (i := 233) rfl) rfl
theorem kw_6f9fdd56c9 : Cond.methodLink "HungFaces" 162 yX8_wearerOf ∈ ab_tb := ab_in4 _ (List.mem_of_getElem? (i := 234) rfl) rfl
theorem kw_e455790fbd : Cond.methodLink "HungFaces" 165 yX8_hookOf ∈ ab_tb := ab_in4 _ (List.mem_of_getElem? (i := 235) rfl) rfl
theorem kw_7ffbb1beb5 : Cond.methodLink "HungFacesLaw" 154 yL_hook ∈ ab_tb := ab_in4 _ (List.mem_of_getElem? (i := 237) rfl) rfl
theorem kw_90bf407335 : Cond.static yL_hook ∈ ab_tb := ab_in4 _ (List.mem_of_getElem? (i := 238) rfl) rfl
theorem kw_7fefd193b1 : Cond.methodLink "HungFacesLaw" 31 yX11_hook ∈ ab_tb := ab_in5 _ (List.mem_of_getElem? (i := 0) rfl) rfl
theorem kw_9aef4e1d25 : Cond.instanceMethod yX11_hook ∈ ab_tb := ab_in5 _ (List.mem_of_getElem? (i := 1) rfl) rfl
theorem kw_d0295b5ca9 : Cond.selects "HungFaces" yX11_hook yX11_hook ∈ ab_tb := ab_in5 _ (List.mem_of_getElem? (i := 2) rfl) rfl
theorem kw_56a69246b1 : Cond.code yX11_hook cX11_hook 2 (some .int) ∈ ab_tb := ab_in5 _ (List.mem_of_getElem? (i := 3) rfl) rfl
theorem kw_c4d863ffe7 : Cond.methodLink "HungFaces" 174 yX11_needHook ∈ ab_tb := ab_in5 _ (List.mem_of_getElem? (i := 4) rfl) rfl
theorem kw_cb8cafecf0 : Cond.instanceMethod yX11_needHook ∈ ab_tb := ab_in5 _ (List.mem_of_getElem? (i := 6) rfl) rfl
theorem kw_72e4878a2e : Cond.code yX11_needHook cX11_needHook 2 none ∈ ab_tb := ab_in5 _ (List.mem_of_getElem? (i := 7) rfl) rfl
theorem kw_8e1f765a66 : Cond.methodLink "HungFacesLaw" 158 yL_wish ∈ ab_tb := ab_in5 _ (List.mem_of_getElem? (i := 9) rfl) rfl
theorem kw_bb1af3b881 : Cond.static yL_wish ∈ ab_tb := ab_in5 _ (List.mem_of_getElem? (i := 10) rfl) rfl
theorem kw_c075fb9a45 : Cond.methodLink "HungFacesLaw" 35 yX11_wish ∈ ab_tb := ab_in5 _ (List.mem_of_getElem? (i := 12) rfl) rfl
theorem kw_0d57d9995f : Cond.instanceMethod yX11_wish ∈ ab_tb := ab_in5 _ (List.mem_of_getElem? (i := 13) rfl) rfl
theorem kw_148859bacb : Cond.selects "HungFaces" yX11_wish yX11_wish ∈ ab_tb := ab_in5 _ (List.mem_of_getElem? (i := 14) rfl) rfl
theorem kw_a0df284087 : Cond.code yX11_wish cX11_wish 3 (some .int) ∈ ab_tb := ab_in5 _ (List.mem_of_getElem? (i := 15) rfl) rfl
theorem kw_5a4b4cdd8e : Cond.methodLink "HungFacesLaw" 161 yL_thinks ∈ ab_tb := ab_in5 _ (List.mem_of_getElem? (i := 16) rfl) rfl
theorem kw_87ac35e358 : Cond.static yL_thinks ∈ ab_tb := ab_in5 _ (List.mem_of_getElem? (i := 17) rfl) rfl
theorem kw_8cf3197e1b : Cond.methodLink "HungFacesLaw" 38 yX11_thinks ∈ ab_tb := ab_in5 _ (List.mem_of_getElem? (i := 19) rfl) rfl
theorem kw_c0436d0437 : Cond.instanceMethod yX11_thinks ∈ ab_tb := ab_in5 _ (List.mem_of_getElem? (i := 20) rfl) rfl
theorem kw_909f0bbcbf : Cond.selects "HungFaces" yX11_thinks yX11_thinks ∈ ab_tb := ab_in5 _ (List.mem_of_getElem? (i := 21) rfl) rfl
theorem kw_451a06c0e2 : Cond.code yX11_thinks cX11_thinks 3 (some .int) ∈ ab_tb := ab_in5 _ (List.mem_of_getElem? (i := 22) rfl) rfl
theorem kw_bb855b7794 : Cond.methodLink "HungFaces" 186 yX11_needTwo ∈ ab_tb := ab_in5 _ (List.mem_of_getElem? (i := 23) rfl) rfl
theorem kw_2813276f89 : Cond.instanceMethod yX11_needTwo ∈ ab_tb := ab_in5 _ (List.mem_of_getElem? (i := 25) rfl) rfl
theorem kw_df79217736 : Cond.code yX11_needTwo cX11_needTwo 3 none ∈ ab_tb := ab_in5 _ (List.mem_of_getElem? (i := 26) rfl) rfl
theorem kw_f606e120d9 : Cond.methodLink "HungFaces" 235 yX11_needUnlike ∈ ab_tb := ab_in5 _ (List.mem_of_getElem? (i := 27) rfl) rfl
theorem kw_0269c8c734 : Cond.static yX11_needUnlike ∈ ab_tb := ab_in5 _ (List.mem_of_getElem? (i := 28) rfl) rfl
theorem kw_784b9256da : Cond.code yX11_needUnlike cX11_needUnlike 2 none ∈ ab_tb := ab_in5 _ (List.mem_of_getElem? (i := 29) rfl) rfl
theorem kw_792af0bdc4 : Cond.methodLink "HungFacesLaw" 164 yL_hand ∈ ab_tb := ab_in5 _ (List.mem_of_getElem? (i := 31) rfl) rfl
theorem kw_12015cfb71 : Cond.static yL_hand ∈ ab_tb := ab_in5 _ (List.mem_of_getElem? (i := 32) rfl) rfl
theorem kw_f315dddca6 : Cond.classLink "HungFacesLaw" 44 "java/lang/IllegalStateException" ∈ ab_tb := ab_in5 _ (List.mem_of_getElem? (i := 34) rfl) rfl
theorem kw_462c9634a1 : Cond.methodLink "HungFacesLaw" 41 yX11_hand ∈ ab_tb := ab_in5 _ (List.mem_of_getElem? (i := 35) rfl) rfl
theorem kw_908895c6db : Cond.instanceMethod yX11_hand ∈ ab_tb := ab_in5 _ (List.mem_of_getElem? (i := 36) rfl) rfl
theorem kw_853f060e90 : Cond.selects "HungFaces" yX11_hand yX11_hand ∈ ab_tb := ab_in5 _ (List.mem_of_getElem? (i := 37) rfl) rfl
theorem kw_b86de16856 : Cond.code yX11_hand cX11_hand 3 (some .int) ∈ ab_tb := ab_in5 _ (List.mem_of_getElem? (i := 38) rfl) rfl
theorem kw_4f341191ef : Cond.classLink "HungFaces" 192 "java/lang/IllegalStateException" ∈ ab_tb := ab_in5 _ (List.mem_of_getElem? (i := 39) rfl) rfl
theorem kw_37e36d1b10 : Cond.instantiable "java/lang/IllegalStateException" 6 ∈ ab_tb := ab_in5 _ (List.mem_of_getElem? (i := 40) rfl) rfl
theorem kw_5b350c8d78 : Cond.selects "java/lang/IllegalStateException" ⟨"java/lang/Throwable", "fillInStackTrace", "(I)Ljava/lang/Throwable;"⟩ ⟨"java/lang/Throwable", "fillInStackTrace", "(I)Ljava/lang/Throwable;"⟩ ∈ ab_tb := ab_in5 _ (List.mem_of_getElem? (i := 42) rfl) rfl
theorem kw_d1ae44ef02 : Cond.methodLink "HungFaces" 196 ⟨"java/lang/IllegalStateException", "<init>", "(Ljava/lang/String;)V"⟩ ∈ ab_tb := ab_in5 _ (List.mem_of_getElem? (i := 49) rfl) rfl
theorem kw_d4153d4983 : Cond.instanceMethod ⟨"java/lang/IllegalStateException", "<init>", "(Ljava/lang/String;)V"⟩ ∈ ab_tb := ab_in5 _ (List.mem_of_getElem? (i := 50) rfl) rfl
theorem kw_7b0a40f92f : Cond.methodLink "java/lang/IllegalStateException" 7 ⟨"java/lang/RuntimeException", "<init>", "(Ljava/lang/String;)V"⟩ ∈ ab_tb := ab_in5 _ (List.mem_of_getElem? (i := 52) rfl) rfl
theorem kw_0bd601763e : Cond.methodLink "HungFaces" 197 yX6_keep ∈ ab_tb := ab_in5 _ (List.mem_of_getElem? (i := 55) rfl) rfl
theorem kw_e1b7e1284f : Cond.instanceMethod yX6_keep ∈ ab_tb := ab_in5 _ (List.mem_of_getElem? (i := 56) rfl) rfl
theorem kw_07eff70fb6 : Cond.selects "HungFaces$Past" yX6_keep yX6_keep ∈ ab_tb := ab_in5 _ (List.mem_of_getElem? (i := 57) rfl) rfl
theorem kw_7c0605a5a3 : Cond.code yX6_keep cX6_keep 2 none ∈ ab_tb := ab_in5 _ (List.mem_of_getElem? (i := 58) rfl) rfl
theorem kw_414d7c6555 : Cond.methodLink "HungFaces" 200 yX8_handIn ∈ ab_tb := ab_in5 _ (List.mem_of_getElem? (i := 59) rfl) rfl
theorem kw_843df95416 : Cond.instanceMethod yX8_handIn ∈ ab_tb := ab_in5 _ (List.mem_of_getElem? (i := 60) rfl) rfl
theorem kw_13e1f6c47d : Cond.selects "HungFaces$State" yX8_handIn yX8_handIn ∈ ab_tb := ab_in5 _ (List.mem_of_getElem? (i := 61) rfl) rfl
theorem kw_4c008cb362 : Cond.code yX8_handIn cX8_handIn 4 (some .int) ∈ ab_tb := ab_in5 _ (List.mem_of_getElem? (i := 62) rfl) rfl
theorem kw_675530c1c0 : Cond.methodLink "HungFaces$State" 103 yX4_addRow ∈ ab_tb := ab_in5 _ (List.mem_of_getElem? (i := 63) rfl) rfl
theorem kw_8e95c3d963 : Cond.instanceMethod yX4_addRow ∈ ab_tb := ab_in5 _ (List.mem_of_getElem? (i := 64) rfl) rfl
theorem kw_7f0a72833f : Cond.selects "HungFaces$Log" yX4_addRow yX4_addRow ∈ ab_tb := ab_in5 _ (List.mem_of_getElem? (i := 65) rfl) rfl
theorem kw_48c0d5ad67 : Cond.code yX4_addRow cX4_addRow 6 none ∈ ab_tb := ab_in5 _ (List.mem_of_getElem? (i := 66) rfl) rfl
theorem kw_51cb630d57 : Cond.methodLink "HungFaces$Log" 28 yJ9_min_7cf53 ∈ ab_tb := ab_in5 _ (List.mem_of_getElem? (i := 67) rfl) rfl
theorem kw_c73d724a51 : Cond.static yJ9_min_7cf53 ∈ ab_tb := ab_in5 _ (List.mem_of_getElem? (i := 68) rfl) rfl
theorem kw_1b87f90f54 : Cond.code yJ9_min_7cf53 cJ9_min_7cf53 2 (some .int) ∈ ab_tb := ab_in5 _ (List.mem_of_getElem? (i := 69) rfl) rfl
theorem kw_633b92c4cb : Cond.methodLink "HungFacesLaw" 167 yL_fetch ∈ ab_tb := ab_in5 _ (List.mem_of_getElem? (i := 70) rfl) rfl
theorem kw_19f07f0af7 : Cond.static yL_fetch ∈ ab_tb := ab_in5 _ (List.mem_of_getElem? (i := 71) rfl) rfl
theorem kw_a42ed21a26 : Cond.methodLink "HungFacesLaw" 46 yX11_fetch ∈ ab_tb := ab_in5 _ (List.mem_of_getElem? (i := 73) rfl) rfl
theorem kw_83dfa9ee5f : Cond.instanceMethod yX11_fetch ∈ ab_tb := ab_in5 _ (List.mem_of_getElem? (i := 74) rfl) rfl
theorem kw_20014428ab : Cond.selects "HungFaces" yX11_fetch yX11_fetch ∈ ab_tb := ab_in5 _ (List.mem_of_getElem? (i := 75) rfl) rfl
theorem kw_300708d667 : Cond.code yX11_fetch cX11_fetch 2 (some .int) ∈ ab_tb := ab_in5 _ (List.mem_of_getElem? (i := 76) rfl) rfl
theorem kw_f3261cde86 : Cond.methodLink "HungFaces" 206 yX8_fetchBy ∈ ab_tb := ab_in5 _ (List.mem_of_getElem? (i := 78) rfl) rfl
theorem kw_766dbb3dff : Cond.instanceMethod yX8_fetchBy ∈ ab_tb := ab_in5 _ (List.mem_of_getElem? (i := 79) rfl) rfl
theorem kw_72a35fa1f0 : Cond.selects "HungFaces$State" yX8_fetchBy yX8_fetchBy ∈ ab_tb := ab_in5 _ (List.mem_of_getElem? (i := 80) rfl) rfl
theorem kw_6dcc791eb6 : Cond.code yX8_fetchBy cX8_fetchBy 4 (some .int) ∈ ab_tb := ab_in5 _ (List.mem_of_getElem? (i := 81) rfl) rfl
theorem kw_5d818f97d0 : Cond.methodLink "HungFaces$State" 107 yX8_faceAt ∈ ab_tb := ab_in5 _ (List.mem_of_getElem? (i := 82) rfl) rfl
theorem kw_d54ff91715 : Cond.instanceMethod yX8_faceAt ∈ ab_tb := ab_in5 _ (List.mem_of_getElem? (i := 83) rfl) rfl
theorem kw_5e6b017aef : Cond.selects "HungFaces$State" yX8_faceAt yX8_faceAt ∈ ab_tb := ab_in5 _ (List.mem_of_getElem? (i := 84) rfl) rfl
theorem kw_b0dcc2f304 : Cond.code yX8_faceAt cX8_faceAt 2 (some .int) ∈ ab_tb := ab_in5 _ (List.mem_of_getElem? (i := 85) rfl) rfl
theorem kw_06d65f06c5 : Cond.methodLink "HungFacesLaw" 170 yL_mix ∈ ab_tb := ab_in5 _ (List.mem_of_getElem? (i := 86) rfl) rfl
theorem kw_5ba51c57e7 : Cond.static yL_mix ∈ ab_tb := ab_in5 _ (List.mem_of_getElem? (i := 87) rfl) rfl
theorem kw_bca3848f42 : Cond.methodLink "HungFacesLaw" 49 yX11_mix ∈ ab_tb := ab_in5 _ (List.mem_of_getElem? (i := 89) rfl) rfl
theorem kw_da9246f853 : Cond.instanceMethod yX11_mix ∈ ab_tb := ab_in5 _ (List.mem_of_getElem? (i := 90) rfl) rfl
theorem kw_de44712d1e : Cond.selects "HungFaces" yX11_mix yX11_mix ∈ ab_tb := ab_in5 _ (List.mem_of_getElem? (i := 91) rfl) rfl
theorem kw_339531dc0a : Cond.code yX11_mix cX11_mix 3 (some .int) ∈ ab_tb := ab_in5 _ (List.mem_of_getElem? (i := 92) rfl) rfl
theorem kw_c02356f110 : Cond.methodLink "HungFaces" 211 yX8_changeTickets ∈ ab_tb := ab_in5 _ (List.mem_of_getElem? (i := 94) rfl) rfl
theorem kw_b0187a6841 : Cond.instanceMethod yX8_changeTickets ∈ ab_tb := ab_in5 _ (List.mem_of_getElem? (i := 95) rfl) rfl
theorem kw_4e98c4157d : Cond.selects "HungFaces$State" yX8_changeTickets yX8_changeTickets ∈ ab_tb := ab_in5 _ (List.mem_of_getElem? (i := 96) rfl) rfl
theorem kw_ed040e90a1 : Cond.code yX8_changeTickets cX8_changeTickets 6 none ∈ ab_tb := ab_in5 _ (List.mem_of_getElem? (i := 97) rfl) rfl
theorem kw_b0221e9e66 : Cond.methodLink "HungFaces$State" 111 yJ9_min_7cf53 ∈ ab_tb := ab_in5 _ (List.mem_of_getElem? (i := 98) rfl) rfl
theorem kw_6aabad306d : Cond.methodLink "HungFaces$State" 117 yJ9_max_7cf53 ∈ ab_tb := ab_in5 _ (List.mem_of_getElem? (i := 99) rfl) rfl
theorem kw_efd036df1e : Cond.methodLink "HungFacesLaw" 173 yL_steal ∈ ab_tb := ab_in5 _ (List.mem_of_getElem? (i := 100) rfl) rfl
theorem kw_52f1341922 : Cond.static yL_steal ∈ ab_tb := ab_in5 _ (List.mem_of_getElem? (i := 101) rfl) rfl
theorem kw_92aefca298 : Cond.methodLink "HungFacesLaw" 52 yX11_steal ∈ ab_tb := ab_in5 _ (List.mem_of_getElem? (i := 103) rfl) rfl
theorem kw_bc07218ebb : Cond.instanceMethod yX11_steal ∈ ab_tb := ab_in5 _ (List.mem_of_getElem? (i := 104) rfl) rfl
theorem kw_4117738f0a : Cond.selects "HungFaces" yX11_steal yX11_steal ∈ ab_tb := ab_in5 _ (List.mem_of_getElem? (i := 105) rfl) rfl
theorem kw_9eb56be18c : Cond.code yX11_steal cX11_steal 3 (some .int) ∈ ab_tb := ab_in5 _ (List.mem_of_getElem? (i := 106) rfl) rfl
theorem kw_87457582e9 : Cond.methodLink "HungFaces" 216 yX8_stealBy ∈ ab_tb := ab_in5 _ (List.mem_of_getElem? (i := 108) rfl) rfl
theorem kw_34fa33513d : Cond.instanceMethod yX8_stealBy ∈ ab_tb := ab_in5 _ (List.mem_of_getElem? (i := 109) rfl) rfl
theorem kw_0d99c778ba : Cond.selects "HungFaces$State" yX8_stealBy yX8_stealBy ∈ ab_tb := ab_in5 _ (List.mem_of_getElem? (i := 110) rfl) rfl
theorem kw_ac263cff7d : Cond.code yX8_stealBy cX8_stealBy 4 (some .int) ∈ ab_tb := ab_in5 _ (List.mem_of_getElem? (i := 111) rfl) rfl
theorem kw_6d893e9320 : Cond.methodLink "HungFacesLaw" 176 yL_change ∈ ab_tb := ab_in5 _ (List.mem_of_getElem? (i := 112) rfl) rfl
theorem kw_581339e9dc : Cond.static yL_change ∈ ab_tb := ab_in5 _ (List.mem_of_getElem? (i := 113) rfl) rfl
theorem kw_c9998ddb1f : Cond.methodLink "HungFacesLaw" 55 yX11_change ∈ ab_tb := ab_in5 _ (List.mem_of_getElem? (i := 115) rfl) rfl
theorem kw_64a07c9e4c : Cond.instanceMethod yX11_change ∈ ab_tb := ab_in5 _ (List.mem_of_getElem? (i := 116) rfl) rfl
theorem kw_cec4dbfb21 : Cond.selects "HungFaces" yX11_change yX11_change ∈ ab_tb := ab_in5 _ (List.mem_of_getElem? (i := 117) rfl) rfl
theorem kw_9e2db42282 : Cond.code yX11_change cX11_change 4 (some .int) ∈ ab_tb := ab_in5 _ (List.mem_of_getElem? (i := 118) rfl) rfl
theorem kw_849481ad25 : Cond.methodLink "HungFacesLaw" 179 yL_shave ∈ ab_tb := ab_in5 _ (List.mem_of_getElem? (i := 120) rfl) rfl
theorem kw_1a036db800 : Cond.static yL_shave ∈ ab_tb := ab_in5 _ (List.mem_of_getElem? (i := 121) rfl) rfl
theorem kw_894186f74a : Cond.methodLink "HungFacesLaw" 58 yX11_shave ∈ ab_tb := ab_in5 _ (List.mem_of_getElem? (i := 123) rfl) rfl
theorem kw_2e1df418e0 : Cond.instanceMethod yX11_shave ∈ ab_tb := ab_in5 _ (List.mem_of_getElem? (i := 124) rfl) rfl
theorem kw_acce640f68 : Cond.selects "HungFaces" yX11_shave yX11_shave ∈ ab_tb := ab_in5 _ (List.mem_of_getElem? (i := 125) rfl) rfl
theorem kw_2d7744f5f9 : Cond.code yX11_shave cX11_shave 3 (some .int) ∈ ab_tb := ab_in5 _ (List.mem_of_getElem? (i := 126) rfl) rfl
theorem kw_4735db3dec : Cond.methodLink "HungFaces" 221 yX11_needMark ∈ ab_tb := ab_in5 _ (List.mem_of_getElem? (i := 127) rfl) rfl
theorem kw_81b107be9a : Cond.static yX11_needMark ∈ ab_tb := ab_in5 _ (List.mem_of_getElem? (i := 128) rfl) rfl
theorem kw_ac26da9ec8 : Cond.code yX11_needMark cX11_needMark 1 none ∈ ab_tb := ab_in5 _ (List.mem_of_getElem? (i := 129) rfl) rfl
theorem kw_caa433c019 : Cond.methodLink "HungFacesLaw" 182 yL_graft ∈ ab_tb := ab_in5 _ (List.mem_of_getElem? (i := 132) rfl) rfl
theorem kw_c54ea2fea4 : Cond.static yL_graft ∈ ab_tb := ab_in5 _ (List.mem_of_getElem? (i := 133) rfl) rfl
theorem kw_42885a6d80 : Cond.methodLink "HungFacesLaw" 61 yX11_graft ∈ ab_tb := ab_in5 _ (List.mem_of_getElem? (i := 135) rfl) rfl
theorem kw_c458ad33fa : Cond.instanceMethod yX11_graft ∈ ab_tb := ab_in5 _ (List.mem_of_getElem? (i := 136) rfl) rfl
theorem kw_0ad59d2833 : Cond.selects "HungFaces" yX11_graft yX11_graft ∈ ab_tb := ab_in5 _ (List.mem_of_getElem? (i := 137) rfl) rfl
theorem kw_b4a691d2df : Cond.code yX11_graft cX11_graft 4 (some .int) ∈ ab_tb := ab_in5 _ (List.mem_of_getElem? (i := 138) rfl) rfl
theorem kw_557ef061f4 : Cond.methodLink "HungFacesLaw" 186 yL_meet ∈ ab_tb := ab_in5 _ (List.mem_of_getElem? (i := 140) rfl) rfl
theorem kw_4065ac6237 : Cond.static yL_meet ∈ ab_tb := ab_in5 _ (List.mem_of_getElem? (i := 141) rfl) rfl
theorem kw_6d6e51a8f9 : Cond.methodLink "HungFacesLaw" 65 yX11_meet ∈ ab_tb := ab_in5 _ (List.mem_of_getElem? (i := 143) rfl) rfl
theorem kw_20d2cffecc : Cond.instanceMethod yX11_meet ∈ ab_tb := ab_in5 _ (List.mem_of_getElem? (i := 144) rfl) rfl
theorem kw_c953183235 : Cond.selects "HungFaces" yX11_meet yX11_meet ∈ ab_tb := ab_in5 _ (List.mem_of_getElem? (i := 145) rfl) rfl
theorem kw_c2451c6232 : Cond.code yX11_meet cX11_meet 3 (some .int) ∈ ab_tb := ab_in5 _ (List.mem_of_getElem? (i := 146) rfl) rfl
theorem kw_82c5593b6a : Cond.methodLink "HungFaces" 240 yX8_tellAll ∈ ab_tb := ab_in5 _ (List.mem_of_getElem? (i := 147) rfl) rfl
theorem kw_a85892a7aa : Cond.instanceMethod yX8_tellAll ∈ ab_tb := ab_in5 _ (List.mem_of_getElem? (i := 148) rfl) rfl
theorem kw_1bd746fe68 : Cond.selects "HungFaces$State" yX8_tellAll yX8_tellAll ∈ ab_tb := ab_in5 _ (List.mem_of_getElem? (i := 149) rfl) rfl
theorem kw_8eab48fe65 : Cond.code yX8_tellAll cX8_tellAll 4 (some .int) ∈ ab_tb := ab_in5 _ (List.mem_of_getElem? (i := 150) rfl) rfl
theorem kw_26f39f445c : Cond.methodLink "HungFacesLaw" 189 yL_hours ∈ ab_tb := ab_in5 _ (List.mem_of_getElem? (i := 151) rfl) rfl
theorem kw_6bb23c8af4 : Cond.static yL_hours ∈ ab_tb := ab_in5 _ (List.mem_of_getElem? (i := 152) rfl) rfl
theorem kw_797ed38989 : Cond.methodLink "HungFacesLaw" 68 yX11_hours ∈ ab_tb := ab_in5 _ (List.mem_of_getElem? (i := 154) rfl) rfl
theorem kw_0adc4725be : Cond.instanceMethod yX11_hours ∈ ab_tb := ab_in5 _ (List.mem_of_getElem? (i := 155) rfl) rfl
theorem kw_133cfc6a90 : Cond.selects "HungFaces" yX11_hours yX11_hours ∈ ab_tb := ab_in5 _ (List.mem_of_getElem? (i := 156) rfl) rfl
theorem kw_2deb922c06 : Cond.code yX11_hours cX11_hours 4 (some .int) ∈ ab_tb := ab_in5 _ (List.mem_of_getElem? (i := 157) rfl) rfl
theorem kw_e8918706b1 : Cond.methodLink "HungFaces" 243 yX11_needNumber ∈ ab_tb := ab_in5 _ (List.mem_of_getElem? (i := 158) rfl) rfl
theorem kw_82507dedd6 : Cond.static yX11_needNumber ∈ ab_tb := ab_in5 _ (List.mem_of_getElem? (i := 159) rfl) rfl
theorem kw_830d30b985 : Cond.code yX11_needNumber cX11_needNumber 3 none ∈ ab_tb := ab_in5 _ (List.mem_of_getElem? (i := 160) rfl) rfl
theorem kw_fb517262f3 : Cond.methodLink "HungFaces" 247 yX8_passHour ∈ ab_tb := ab_in5 _ (List.mem_of_getElem? (i := 162) rfl) rfl
theorem kw_f4f54d6afd : Cond.instanceMethod yX8_passHour ∈ ab_tb := ab_in5 _ (List.mem_of_getElem? (i := 163) rfl) rfl
theorem kw_4dddbfadfc : Cond.selects "HungFaces$State" yX8_passHour yX8_passHour ∈ ab_tb := ab_in5 _ (List.mem_of_getElem? (i := 164) rfl) rfl
theorem kw_9d7f94515c : Cond.code yX8_passHour cX8_passHour 3 (some .int) ∈ ab_tb := ab_in5 _ (List.mem_of_getElem? (i := 165) rfl) rfl
theorem kw_9b01148a35 : Cond.methodLink "HungFaces$State" 123 yX8_takesTurn ∈ ab_tb := ab_in5 _ (List.mem_of_getElem? (i := 166) rfl) rfl
theorem kw_4b9f4ddf42 : Cond.instanceMethod yX8_takesTurn ∈ ab_tb := ab_in5 _ (List.mem_of_getElem? (i := 168) rfl) rfl
theorem kw_e968f7651e : Cond.code yX8_takesTurn cX8_takesTurn 5 (some .boolean) ∈ ab_tb := ab_in5 _ (List.mem_of_getElem? (i := 169) rfl) rfl
theorem kw_32e31f8a1a : Cond.methodLink "HungFaces$State" 136 yX8_leastFreeHook ∈ ab_tb := ab_in5 _ (List.mem_of_getElem? (i := 170) rfl) rfl
theorem kw_71aced3ed6 : Cond.instanceMethod yX8_leastFreeHook ∈ ab_tb := ab_in5 _ (List.mem_of_getElem? (i := 172) rfl) rfl
theorem kw_90796326ba : Cond.code yX8_leastFreeHook cX8_leastFreeHook 2 (some .int) ∈ ab_tb := ab_in5 _ (List.mem_of_getElem? (i := 173) rfl) rfl
theorem kw_2b301b5694 : Cond.methodLink "HungFaces$State" 139 yX2_allows ∈ ab_tb := ab_in5 _ (List.mem_of_getElem? (i := 174) rfl) rfl
theorem kw_a192b876ee : Cond.instanceMethod yX2_allows ∈ ab_tb := ab_in5 _ (List.mem_of_getElem? (i := 175) rfl) rfl
theorem kw_12c2fceaeb : Cond.selects "HungFaces$Law" yX2_allows yX2_allows ∈ ab_tb := ab_in5 _ (List.mem_of_getElem? (i := 176) rfl) rfl
theorem kw_4d5c9f234e : Cond.code yX2_allows cX2_allows 7 (some .boolean) ∈ ab_tb := ab_in5 _ (List.mem_of_getElem? (i := 177) rfl) rfl
theorem kw_1ac3e03edc : Cond.methodLink "HungFaces$Law" 28 yX2_joined ∈ ab_tb := ab_in5 _ (List.mem_of_getElem? (i := 178) rfl) rfl
theorem kw_9beb299a3c : Cond.static yX2_joined ∈ ab_tb := ab_in5 _ (List.mem_of_getElem? (i := 179) rfl) rfl
theorem kw_cc2ccf2aca : Cond.code yX2_joined cX2_joined 3 (some .int) ∈ ab_tb := ab_in5 _ (List.mem_of_getElem? (i := 180) rfl) rfl
theorem kw_97b650e251 : Cond.methodLink "HungFaces$Law" 32 yX8_valueOf ∈ ab_tb := ab_in5 _ (List.mem_of_getElem? (i := 181) rfl) rfl
theorem kw_70b37669e4 : Cond.instanceMethod yX8_valueOf ∈ ab_tb := ab_in5 _ (List.mem_of_getElem? (i := 182) rfl) rfl
theorem kw_a19a998cf1 : Cond.selects "HungFaces$State" yX8_valueOf yX8_valueOf ∈ ab_tb := ab_in5 _ (List.mem_of_getElem? (i := 183) rfl) rfl
theorem kw_d9405a1cb2 : Cond.code yX8_valueOf cX8_valueOf 4 (some .int) ∈ ab_tb := ab_in5 _ (List.mem_of_getElem? (i := 184) rfl) rfl
theorem kw_fe25333ea5 : Cond.methodLink "HungFaces$State" 167 yX8_hungCount ∈ ab_tb := ab_in5 _ (List.mem_of_getElem? (i := 185) rfl) rfl
theorem kw_71d729c40d : Cond.methodLink "HungFaces$State" 145 yX8_handIn ∈ ab_tb := ab_in5 _ (List.mem_of_getElem? (i := 186) rfl) rfl
theorem kw_4aaaa1db28 : Cond.methodLink "HungFaces$State" 148 yX8_fetchBy ∈ ab_tb := ab_in5 _ (List.mem_of_getElem? (i := 187) rfl) rfl
theorem kw_9dd6b6a094 : Cond.methodLink "HungFaces$State" 126 yX8_draw ∈ ab_tb := ab_in5 _ (List.mem_of_getElem? (i := 188) rfl) rfl
theorem kw_073276b0b1 : Cond.instanceMethod yX8_draw ∈ ab_tb := ab_in5 _ (List.mem_of_getElem? (i := 190) rfl) rfl
theorem kw_4e1a156db6 : Cond.code yX8_draw cX8_draw 1 (some .int) ∈ ab_tb := ab_in5 _ (List.mem_of_getElem? (i := 191) rfl) rfl
theorem kw_f38cebfdf5 : Cond.constant "HungFaces$State" 151 (1103515245) ∈ ab_tb := ab_in5 _ (List.mem_of_getElem? (i := 192) rfl) rfl
theorem kw_d3e2b69332 : Cond.methodLink "HungFaces$State" 130 yX8_mixByDraws ∈ ab_tb := ab_in5 _ (List.mem_of_getElem? (i := 193) rfl) rfl
theorem kw_d107608195 : Cond.instanceMethod yX8_mixByDraws ∈ ab_tb := ab_in5 _ (List.mem_of_getElem? (i := 195) rfl) rfl
theorem kw_05dcc08725 : Cond.code yX8_mixByDraws cX8_mixByDraws 5 none ∈ ab_tb := ab_in5 _ (List.mem_of_getElem? (i := 196) rfl) rfl
theorem kw_bc59df176f : Cond.methodLink "HungFaces$State" 152 yX8_ticketHolders ∈ ab_tb := ab_in5 _ (List.mem_of_getElem? (i := 197) rfl) rfl
theorem kw_0cfb296dec : Cond.methodLink "HungFaces$State" 160 yX8_nthOf ∈ ab_tb := ab_in5 _ (List.mem_of_getElem? (i := 198) rfl) rfl
theorem kw_749115ba53 : Cond.static yX8_nthOf ∈ ab_tb := ab_in5 _ (List.mem_of_getElem? (i := 199) rfl) rfl
theorem kw_2de1d034c0 : Cond.code yX8_nthOf cX8_nthOf 4 (some .int) ∈ ab_tb := ab_in5 _ (List.mem_of_getElem? (i := 200) rfl) rfl
theorem kw_42172dd726 : Cond.methodLink "HungFaces$State" 170 yJ6_numberOfTrailingZeros_0f7a4 ∈ ab_tb := ab_in5 _ (List.mem_of_getElem? (i := 201) rfl) rfl
theorem kw_8621c4dddb : Cond.methodLink "HungFaces$State" 163 yX8_changeTickets ∈ ab_tb := ab_in5 _ (List.mem_of_getElem? (i := 202) rfl) rfl
theorem kw_7d58608b5c : Cond.methodLink "HungFaces$State" 133 yX8_robByDraw ∈ ab_tb := ab_in5 _ (List.mem_of_getElem? (i := 203) rfl) rfl
theorem kw_8f395df697 : Cond.instanceMethod yX8_robByDraw ∈ ab_tb := ab_in5 _ (List.mem_of_getElem? (i := 205) rfl) rfl
theorem kw_e561d5a6ba : Cond.code yX8_robByDraw cX8_robByDraw 4 none ∈ ab_tb := ab_in5 _ (List.mem_of_getElem? (i := 206) rfl) rfl
theorem kw_0c57827517 : Cond.methodLink "HungFacesLaw" 220 yL_passes ∈ ab_tb := ab_in5 _ (List.mem_of_getElem? (i := 207) rfl) rfl
theorem kw_381b567ac3 : Cond.static yL_passes ∈ ab_tb := ab_in5 _ (List.mem_of_getElem? (i := 208) rfl) rfl
theorem kw_85f03187d3 : Cond.methodLink "HungFacesLaw" 71 yX11_passes ∈ ab_tb := ab_in5 _ (List.mem_of_getElem? (i := 210) rfl) rfl
theorem kw_6820b4bfdb : Cond.instanceMethod yX11_passes ∈ ab_tb := ab_in5 _ (List.mem_of_getElem? (i := 211) rfl) rfl
theorem kw_98b319a85f : Cond.selects "HungFaces" yX11_passes yX11_passes ∈ ab_tb := ab_in5 _ (List.mem_of_getElem? (i := 212) rfl) rfl
theorem kw_b0244451d5 : Cond.code yX11_passes cX11_passes 5 (some .int) ∈ ab_tb := ab_in5 _ (List.mem_of_getElem? (i := 213) rfl) rfl
theorem kw_324c9f5fd0 : Cond.methodLink "HungFacesLaw" 223 yL_core ∈ ab_tb := ab_in5 _ (List.mem_of_getElem? (i := 214) rfl) rfl
theorem kw_97d894dd80 : Cond.static yL_core ∈ ab_tb := ab_in5 _ (List.mem_of_getElem? (i := 215) rfl) rfl
theorem kw_eca451aafa : Cond.methodLink "HungFacesLaw" 74 yX11_core ∈ ab_tb := ab_in5 _ (List.mem_of_getElem? (i := 217) rfl) rfl
theorem kw_c00ff496f2 : Cond.instanceMethod yX11_core ∈ ab_tb := ab_in5 _ (List.mem_of_getElem? (i := 218) rfl) rfl
theorem kw_b0fe5c4b00 : Cond.selects "HungFaces" yX11_core yX11_core ∈ ab_tb := ab_in5 _ (List.mem_of_getElem? (i := 219) rfl) rfl
theorem kw_845c0e5c1c : Cond.code yX11_core cX11_core 2 (some .int) ∈ ab_tb := ab_in5 _ (List.mem_of_getElem? (i := 220) rfl) rfl
theorem kw_54b48a57ea : Cond.methodLink "HungFacesLaw" 230 yL_block ∈ ab_tb := ab_in5 _ (List.mem_of_getElem? (i := 221) rfl) rfl
theorem kw_4efbd00e9e : Cond.static yL_block ∈ ab_tb := ab_in5 _ (List.mem_of_getElem? (i := 222) rfl) rfl
theorem kw_0ab905bced : Cond.methodLink "HungFacesLaw" 77 yX11_block ∈ ab_tb := ab_in5 _ (List.mem_of_getElem? (i := 224) rfl) rfl
theorem kw_84805cb4cc : Cond.instanceMethod yX11_block ∈ ab_tb := ab_in5 _ (List.mem_of_getElem? (i := 225) rfl) rfl
theorem kw_8cc66ef9d1 : Cond.selects "HungFaces" yX11_block yX11_block ∈ ab_tb := ab_in5 _ (List.mem_of_getElem? (i := 226) rfl) rfl
theorem kw_583bfb2384 : Cond.code yX11_block cX11_block 4 (some .boolean) ∈ ab_tb := ab_in5 _ (List.mem_of_getElem? (i := 227) rfl) rfl
theorem kw_1338d3794e : Cond.methodLink "HungFaces" 289 yX5_hasDearerRing ∈ ab_tb := ab_in5 _ (List.mem_of_getElem? (i := 229) rfl) rfl
theorem kw_84a381d75d : Cond.instanceMethod yX5_hasDearerRing ∈ ab_tb := ab_in5 _ (List.mem_of_getElem? (i := 230) rfl) rfl
theorem kw_549ce777ca : Cond.selects "HungFaces$Market" yX5_hasDearerRing yX5_hasDearerRing ∈ ab_tb := ab_in5 _ (List.mem_of_getElem? (i := 231) rfl) rfl
theorem kw_6f4a7deca2 : Cond.code yX5_hasDearerRing cX5_hasDearerRing 7 (some .boolean) ∈ ab_tb := ab_in5 _ (List.mem_of_getElem? (i := 232) rfl) rfl
theorem kw_a8a9ffdf1c : Cond.methodLink "HungFaces$Market" 61 yX5_wantsAny ∈ ab_tb := ab_in5 _ (List.mem_of_getElem? (i := 233) rfl) rfl
theorem kw_0c71179482 : Cond.static yX5_wantsAny ∈ ab_tb := ab_in5 _ (List.mem_of_getElem? (i := 234) rfl) rfl
theorem kw_2d565a4ae4 : Cond.code yX5_wantsAny cX5_wantsAny 6 (some .boolean) ∈ ab_tb := ab_in5 _ (List.mem_of_getElem? (i := 235) rfl) rfl
theorem kw_88cd8c89de : Cond.methodLink "HungFacesLaw" 233 yL_fits ∈ ab_tb := ab_in5 _ (List.mem_of_getElem? (i := 236) rfl) rfl
theorem kw_71c4e9d16c : Cond.static yL_fits ∈ ab_tb := ab_in5 _ (List.mem_of_getElem? (i := 237) rfl) rfl
theorem kw_5196e0ca0b : Cond.methodLink "HungFacesLaw" 81 yX11_fits ∈ ab_tb := ab_in5 _ (List.mem_of_getElem? (i := 239) rfl) rfl
theorem kw_af41bfbd76 : Cond.instanceMethod yX11_fits ∈ ab_tb := ab_in6 _ (List.mem_of_getElem? (i := 0) rfl) rfl
theorem kw_71034ec7f6 : Cond.selects "HungFaces" yX11_fits yX11_fits ∈ ab_tb := ab_in6 _ (List.mem_of_getElem? (i := 1) rfl) rfl
theorem kw_658581f95d : Cond.code yX11_fits cX11_fits 3 (some .int) ∈ ab_tb := ab_in6 _ (List.mem_of_getElem? (i := 2) rfl) rfl
theorem kw_3d467fe9ca : Cond.methodLink "HungFaces" 293 yX7_readTape ∈ ab_tb := ab_in6 _ (List.mem_of_getElem? (i := 3) rfl) rfl
theorem kw_a83fb6502e : Cond.instanceMethod yX7_readTape ∈ ab_tb := ab_in6 _ (List.mem_of_getElem? (i := 4) rfl) rfl
theorem kw_9af0024c78 : Cond.selects "HungFaces$Said" yX7_readTape yX7_readTape ∈ ab_tb := ab_in6 _ (List.mem_of_getElem? (i := 5) rfl) rfl
theorem kw_8d5bcfc380 : Cond.code yX7_readTape cX7_readTape 5 (some .boolean) ∈ ab_tb := ab_in6 _ (List.mem_of_getElem? (i := 6) rfl) rfl
theorem kw_87d15de978 : Cond.methodLink "HungFaces$Said" 43 yX9_byteAt ∈ ab_tb := ab_in6 _ (List.mem_of_getElem? (i := 7) rfl) rfl
theorem kw_0bf6629ab7 : Cond.methodLink "HungFaces" 297 yX11_needTold ∈ ab_tb := ab_in6 _ (List.mem_of_getElem? (i := 8) rfl) rfl
theorem kw_e6e56ddf7e : Cond.static yX11_needTold ∈ ab_tb := ab_in6 _ (List.mem_of_getElem? (i := 9) rfl) rfl
theorem kw_fe0be2f1bf : Cond.code yX11_needTold cX11_needTold 1 none ∈ ab_tb := ab_in6 _ (List.mem_of_getElem? (i := 10) rfl) rfl
theorem kw_1889b8082f : Cond.methodLink "HungFaces" 301 yX7_ownersOfAll ∈ ab_tb := ab_in6 _ (List.mem_of_getElem? (i := 12) rfl) rfl
theorem kw_f88b345808 : Cond.instanceMethod yX7_ownersOfAll ∈ ab_tb := ab_in6 _ (List.mem_of_getElem? (i := 13) rfl) rfl
theorem kw_1c5895f2a2 : Cond.selects "HungFaces$Said" yX7_ownersOfAll yX7_ownersOfAll ∈ ab_tb := ab_in6 _ (List.mem_of_getElem? (i := 14) rfl) rfl
theorem kw_2955ef86ff : Cond.code yX7_ownersOfAll cX7_ownersOfAll 1 (some .int) ∈ ab_tb := ab_in6 _ (List.mem_of_getElem? (i := 15) rfl) rfl
theorem kw_65c3a52e43 : Cond.methodLink "HungFaces$Said" 57 yX7_allowBy ∈ ab_tb := ab_in6 _ (List.mem_of_getElem? (i := 16) rfl) rfl
theorem kw_57aa26b26b : Cond.instanceMethod yX7_allowBy ∈ ab_tb := ab_in6 _ (List.mem_of_getElem? (i := 18) rfl) rfl
theorem kw_49ac383c4b : Cond.code yX7_allowBy cX7_allowBy 4 none ∈ ab_tb := ab_in6 _ (List.mem_of_getElem? (i := 19) rfl) rfl
theorem kw_a07e5b419c : Cond.methodLink "HungFaces$Said" 47 yJ7_fill_53178 ∈ ab_tb := ab_in6 _ (List.mem_of_getElem? (i := 20) rfl) rfl
theorem kw_96598896f5 : Cond.methodLink "HungFaces$Said" 61 yX7_countOwners ∈ ab_tb := ab_in6 _ (List.mem_of_getElem? (i := 22) rfl) rfl
theorem kw_166c80c19f : Cond.instanceMethod yX7_countOwners ∈ ab_tb := ab_in6 _ (List.mem_of_getElem? (i := 24) rfl) rfl
theorem kw_0cbbc3d115 : Cond.code yX7_countOwners cX7_countOwners 5 (some .int) ∈ ab_tb := ab_in6 _ (List.mem_of_getElem? (i := 25) rfl) rfl
theorem kw_c92199e964 : Cond.methodLink "HungFaces$Said" 65 yJ6_bitCount_0f7a4 ∈ ab_tb := ab_in6 _ (List.mem_of_getElem? (i := 26) rfl) rfl
theorem kw_f91bde1197 : Cond.methodLink "HungFaces" 304 yX7_sureFace ∈ ab_tb := ab_in6 _ (List.mem_of_getElem? (i := 27) rfl) rfl
theorem kw_278a93d0b9 : Cond.instanceMethod yX7_sureFace ∈ ab_tb := ab_in6 _ (List.mem_of_getElem? (i := 28) rfl) rfl
theorem kw_36661c4139 : Cond.selects "HungFaces$Said" yX7_sureFace yX7_sureFace ∈ ab_tb := ab_in6 _ (List.mem_of_getElem? (i := 29) rfl) rfl
theorem kw_eca22eafcc : Cond.code yX7_sureFace cX7_sureFace 4 (some .int) ∈ ab_tb := ab_in6 _ (List.mem_of_getElem? (i := 30) rfl) rfl
theorem kw_0b943afaff : Cond.methodLink "HungFaces$Said" 70 yX7_ownersOfAll ∈ ab_tb := ab_in6 _ (List.mem_of_getElem? (i := 31) rfl) rfl
theorem kw_8aef0af504 : Cond.methodLink "HungFaces$Said" 73 yX7_ownersWith ∈ ab_tb := ab_in6 _ (List.mem_of_getElem? (i := 32) rfl) rfl
theorem kw_56cfb0e8ac : Cond.instanceMethod yX7_ownersWith ∈ ab_tb := ab_in6 _ (List.mem_of_getElem? (i := 34) rfl) rfl
theorem kw_f11a86dfeb : Cond.code yX7_ownersWith cX7_ownersWith 3 (some .int) ∈ ab_tb := ab_in6 _ (List.mem_of_getElem? (i := 35) rfl) rfl
theorem kw_234a341cce : Cond.methodLink "HungFacesLaw" 236 yL_ask ∈ ab_tb := ab_in6 _ (List.mem_of_getElem? (i := 36) rfl) rfl
theorem kw_caf5a0ed29 : Cond.static yL_ask ∈ ab_tb := ab_in6 _ (List.mem_of_getElem? (i := 37) rfl) rfl
theorem kw_265be02879 : Cond.methodLink "HungFacesLaw" 84 yX11_ask ∈ ab_tb := ab_in6 _ (List.mem_of_getElem? (i := 39) rfl) rfl
theorem kw_5b2b086690 : Cond.instanceMethod yX11_ask ∈ ab_tb := ab_in6 _ (List.mem_of_getElem? (i := 40) rfl) rfl
theorem kw_6f63b06790 : Cond.selects "HungFaces" yX11_ask yX11_ask ∈ ab_tb := ab_in6 _ (List.mem_of_getElem? (i := 41) rfl) rfl
theorem kw_96fd7bfaf6 : Cond.code yX11_ask cX11_ask 3 (some .int) ∈ ab_tb := ab_in6 _ (List.mem_of_getElem? (i := 42) rfl) rfl
theorem kw_37fc9c81ef : Cond.methodLink "HungFaces" 307 yX7_bestQuestion ∈ ab_tb := ab_in6 _ (List.mem_of_getElem? (i := 43) rfl) rfl
theorem kw_c1d9287951 : Cond.instanceMethod yX7_bestQuestion ∈ ab_tb := ab_in6 _ (List.mem_of_getElem? (i := 44) rfl) rfl
theorem kw_9441d5f140 : Cond.selects "HungFaces$Said" yX7_bestQuestion yX7_bestQuestion ∈ ab_tb := ab_in6 _ (List.mem_of_getElem? (i := 45) rfl) rfl
theorem kw_69a0e654aa : Cond.code yX7_bestQuestion cX7_bestQuestion 8 (some .int) ∈ ab_tb := ab_in6 _ (List.mem_of_getElem? (i := 46) rfl) rfl
theorem kw_93956b9666 : Cond.methodLink "HungFaces$Said" 77 yJ9_max_7cf53 ∈ ab_tb := ab_in6 _ (List.mem_of_getElem? (i := 47) rfl) rfl
theorem kw_da9bc1dedf : Cond.methodLink "HungFacesLaw" 239 yL_clash ∈ ab_tb := ab_in6 _ (List.mem_of_getElem? (i := 48) rfl) rfl
theorem kw_9ac3d027cf : Cond.static yL_clash ∈ ab_tb := ab_in6 _ (List.mem_of_getElem? (i := 49) rfl) rfl
theorem kw_6df8b59552 : Cond.methodLink "HungFacesLaw" 87 yX11_clash ∈ ab_tb := ab_in6 _ (List.mem_of_getElem? (i := 51) rfl) rfl
theorem kw_2202969ecb : Cond.instanceMethod yX11_clash ∈ ab_tb := ab_in6 _ (List.mem_of_getElem? (i := 52) rfl) rfl
theorem kw_3da41b4d27 : Cond.selects "HungFaces" yX11_clash yX11_clash ∈ ab_tb := ab_in6 _ (List.mem_of_getElem? (i := 53) rfl) rfl
theorem kw_b7c7db1744 : Cond.code yX11_clash cX11_clash 2 (some .int) ∈ ab_tb := ab_in6 _ (List.mem_of_getElem? (i := 54) rfl) rfl
theorem kw_03196f1378 : Cond.methodLink "HungFaces" 310 yX7_fewestApart ∈ ab_tb := ab_in6 _ (List.mem_of_getElem? (i := 55) rfl) rfl
theorem kw_b92e700fb3 : Cond.instanceMethod yX7_fewestApart ∈ ab_tb := ab_in6 _ (List.mem_of_getElem? (i := 56) rfl) rfl
theorem kw_bb104f800d : Cond.selects "HungFaces$Said" yX7_fewestApart yX7_fewestApart ∈ ab_tb := ab_in6 _ (List.mem_of_getElem? (i := 57) rfl) rfl
theorem kw_24b7b03e98 : Cond.code yX7_fewestApart cX7_fewestApart 4 (some .int) ∈ ab_tb := ab_in6 _ (List.mem_of_getElem? (i := 58) rfl) rfl
theorem kw_8f8a6e2379 : Cond.methodLink "HungFaces$Said" 82 yX7_canBe ∈ ab_tb := ab_in6 _ (List.mem_of_getElem? (i := 59) rfl) rfl
theorem kw_ce7f072502 : Cond.instanceMethod yX7_canBe ∈ ab_tb := ab_in6 _ (List.mem_of_getElem? (i := 61) rfl) rfl
theorem kw_c5b6a2da47 : Cond.code yX7_canBe cX7_canBe 3 (some .boolean) ∈ ab_tb := ab_in6 _ (List.mem_of_getElem? (i := 62) rfl) rfl
theorem kw_c4e869cef9 : Cond.methodLink "HungFaces$Said" 92 yX7_findsFace ∈ ab_tb := ab_in6 _ (List.mem_of_getElem? (i := 63) rfl) rfl
theorem kw_aff2469dc3 : Cond.instanceMethod yX7_findsFace ∈ ab_tb := ab_in6 _ (List.mem_of_getElem? (i := 65) rfl) rfl
theorem kw_b1cc792ebe : Cond.code yX7_findsFace cX7_findsFace 4 (some .boolean) ∈ ab_tb := ab_in6 _ (List.mem_of_getElem? (i := 66) rfl) rfl
theorem kw_01e063bfa7 : Cond.methodLink "HungFacesLaw" 246 yL_forged ∈ ab_tb := ab_in6 _ (List.mem_of_getElem? (i := 68) rfl) rfl
theorem kw_f98261d0f3 : Cond.static yL_forged ∈ ab_tb := ab_in6 _ (List.mem_of_getElem? (i := 69) rfl) rfl
theorem kw_de4d722dee : Cond.methodLink "HungFacesLaw" 90 yX11_forged ∈ ab_tb := ab_in6 _ (List.mem_of_getElem? (i := 71) rfl) rfl
theorem kw_dd1a30bc71 : Cond.instanceMethod yX11_forged ∈ ab_tb := ab_in6 _ (List.mem_of_getElem? (i := 72) rfl) rfl
theorem kw_c1db86a226 : Cond.selects "HungFaces" yX11_forged yX11_forged ∈ ab_tb := ab_in6 _ (List.mem_of_getElem? (i := 73) rfl) rfl
theorem kw_0f7cd97427 : Cond.code yX11_forged cX11_forged 5 (some .int) ∈ ab_tb := ab_in6 _ (List.mem_of_getElem? (i := 74) rfl) rfl
theorem kw_c3b95b545a : Cond.methodLink "HungFaces" 275 yX8_hangingFaces ∈ ab_tb := ab_in6 _ (List.mem_of_getElem? (i := 75) rfl) rfl
theorem kw_02a0898d6b : Cond.instanceMethod yX8_hangingFaces ∈ ab_tb := ab_in6 _ (List.mem_of_getElem? (i := 76) rfl) rfl
theorem kw_b67fec2c3e : Cond.selects "HungFaces$State" yX8_hangingFaces yX8_hangingFaces ∈ ab_tb := ab_in6 _ (List.mem_of_getElem? (i := 77) rfl) rfl
theorem kw_94d8a7d2d3 : Cond.code yX8_hangingFaces cX8_hangingFaces 3 (some .int) ∈ ab_tb := ab_in6 _ (List.mem_of_getElem? (i := 78) rfl) rfl
theorem kw_b522af8ee7 : Cond.methodLink "HungFaces" 278 yX11_marksTogether ∈ ab_tb := ab_in6 _ (List.mem_of_getElem? (i := 79) rfl) rfl
theorem kw_0e51781446 : Cond.instanceMethod yX11_marksTogether ∈ ab_tb := ab_in6 _ (List.mem_of_getElem? (i := 81) rfl) rfl
theorem kw_312ec42c34 : Cond.code yX11_marksTogether cX11_marksTogether 4 (some .int) ∈ ab_tb := ab_in6 _ (List.mem_of_getElem? (i := 82) rfl) rfl
theorem kw_e91bcd3d88 : Cond.methodLink "HungFacesLaw" 249 yL_ways ∈ ab_tb := ab_in6 _ (List.mem_of_getElem? (i := 83) rfl) rfl
theorem kw_5f3b378b85 : Cond.static yL_ways ∈ ab_tb := ab_in6 _ (List.mem_of_getElem? (i := 84) rfl) rfl
theorem kw_65c47ab0a2 : Cond.methodLink "HungFacesLaw" 93 yX11_ways ∈ ab_tb := ab_in6 _ (List.mem_of_getElem? (i := 86) rfl) rfl
theorem kw_8f3d904980 : Cond.instanceMethod yX11_ways ∈ ab_tb := ab_in6 _ (List.mem_of_getElem? (i := 87) rfl) rfl
theorem kw_5e384e4fc1 : Cond.selects "HungFaces" yX11_ways yX11_ways ∈ ab_tb := ab_in6 _ (List.mem_of_getElem? (i := 88) rfl) rfl
theorem kw_6401ef1d56 : Cond.code yX11_ways cX11_ways 3 (some .int) ∈ ab_tb := ab_in6 _ (List.mem_of_getElem? (i := 89) rfl) rfl
theorem kw_1c4abae796 : Cond.methodLink "HungFaces" 322 yX11_chosen ∈ ab_tb := ab_in6 _ (List.mem_of_getElem? (i := 90) rfl) rfl
theorem kw_7d33d659eb : Cond.static yX11_chosen ∈ ab_tb := ab_in6 _ (List.mem_of_getElem? (i := 91) rfl) rfl
theorem kw_ef3ae8c531 : Cond.code yX11_chosen cX11_chosen 4 (some .int) ∈ ab_tb := ab_in6 _ (List.mem_of_getElem? (i := 92) rfl) rfl
theorem kw_bf483c2433 : Cond.methodLink "HungFaces" 325 yX11_allElsewhere ∈ ab_tb := ab_in6 _ (List.mem_of_getElem? (i := 93) rfl) rfl
theorem kw_5126f29f14 : Cond.static yX11_allElsewhere ∈ ab_tb := ab_in6 _ (List.mem_of_getElem? (i := 94) rfl) rfl
theorem kw_325241993e : Cond.code yX11_allElsewhere cX11_allElsewhere 5 (some .int) ∈ ab_tb := ab_in6 _ (List.mem_of_getElem? (i := 95) rfl) rfl
theorem kw_a4646a4f6b : Cond.methodLink "HungFacesLaw" 252 yL_talk ∈ ab_tb := ab_in6 _ (List.mem_of_getElem? (i := 96) rfl) rfl
theorem kw_a2fbc7bd74 : Cond.static yL_talk ∈ ab_tb := ab_in6 _ (List.mem_of_getElem? (i := 97) rfl) rfl
theorem kw_7a2d812899 : Cond.methodLink "HungFacesLaw" 96 yX11_talk ∈ ab_tb := ab_in6 _ (List.mem_of_getElem? (i := 99) rfl) rfl
theorem kw_5e93a51259 : Cond.instanceMethod yX11_talk ∈ ab_tb := ab_in6 _ (List.mem_of_getElem? (i := 100) rfl) rfl
theorem kw_8ab7a7057a : Cond.selects "HungFaces" yX11_talk yX11_talk ∈ ab_tb := ab_in6 _ (List.mem_of_getElem? (i := 101) rfl) rfl
theorem kw_295c30c4f3 : Cond.code yX11_talk cX11_talk 4 (some .int) ∈ ab_tb := ab_in6 _ (List.mem_of_getElem? (i := 102) rfl) rfl
theorem kw_76490011e4 : Cond.methodLink "HungFacesLaw" 260 yL_chain ∈ ab_tb := ab_in6 _ (List.mem_of_getElem? (i := 103) rfl) rfl
theorem kw_bfdb80ef6c : Cond.static yL_chain ∈ ab_tb := ab_in6 _ (List.mem_of_getElem? (i := 104) rfl) rfl
theorem kw_cb090274e9 : Cond.methodLink "HungFacesLaw" 99 yX11_chain ∈ ab_tb := ab_in6 _ (List.mem_of_getElem? (i := 106) rfl) rfl
theorem kw_ab03ebce6d : Cond.instanceMethod yX11_chain ∈ ab_tb := ab_in6 _ (List.mem_of_getElem? (i := 107) rfl) rfl
theorem kw_4ea6c830e8 : Cond.selects "HungFaces" yX11_chain yX11_chain ∈ ab_tb := ab_in6 _ (List.mem_of_getElem? (i := 108) rfl) rfl
theorem kw_b89adddefa : Cond.code yX11_chain cX11_chain 5 (some .int) ∈ ab_tb := ab_in6 _ (List.mem_of_getElem? (i := 109) rfl) rfl
theorem kw_ecb3e7c7eb : Cond.methodLink "HungFaces" 328 yX8_knownToAny ∈ ab_tb := ab_in6 _ (List.mem_of_getElem? (i := 110) rfl) rfl
theorem kw_49cf399bc7 : Cond.instanceMethod yX8_knownToAny ∈ ab_tb := ab_in6 _ (List.mem_of_getElem? (i := 111) rfl) rfl
theorem kw_a25cd0b985 : Cond.selects "HungFaces$State" yX8_knownToAny yX8_knownToAny ∈ ab_tb := ab_in6 _ (List.mem_of_getElem? (i := 112) rfl) rfl
theorem kw_ddeb8f59c1 : Cond.code yX8_knownToAny cX8_knownToAny 4 (some .int) ∈ ab_tb := ab_in6 _ (List.mem_of_getElem? (i := 113) rfl) rfl
theorem kw_6bf32a6890 : Cond.methodLink "HungFacesLaw" 263 yL_hears ∈ ab_tb := ab_in6 _ (List.mem_of_getElem? (i := 114) rfl) rfl
theorem kw_bc35ed9142 : Cond.static yL_hears ∈ ab_tb := ab_in6 _ (List.mem_of_getElem? (i := 115) rfl) rfl
theorem kw_b555e7e388 : Cond.methodLink "HungFacesLaw" 102 yX11_hears ∈ ab_tb := ab_in6 _ (List.mem_of_getElem? (i := 117) rfl) rfl
theorem kw_563d43d52f : Cond.instanceMethod yX11_hears ∈ ab_tb := ab_in6 _ (List.mem_of_getElem? (i := 118) rfl) rfl
theorem kw_6054fdee34 : Cond.selects "HungFaces" yX11_hears yX11_hears ∈ ab_tb := ab_in6 _ (List.mem_of_getElem? (i := 119) rfl) rfl
theorem kw_e7b2d4a4dc : Cond.code yX11_hears cX11_hears 4 (some .int) ∈ ab_tb := ab_in6 _ (List.mem_of_getElem? (i := 120) rfl) rfl
theorem kw_fd3ab819b5 : Cond.methodLink "HungFaces" 331 yX8_meetAllWhoKnow ∈ ab_tb := ab_in6 _ (List.mem_of_getElem? (i := 121) rfl) rfl
theorem kw_ca18759d62 : Cond.instanceMethod yX8_meetAllWhoKnow ∈ ab_tb := ab_in6 _ (List.mem_of_getElem? (i := 122) rfl) rfl
theorem kw_a60a296c52 : Cond.selects "HungFaces$State" yX8_meetAllWhoKnow yX8_meetAllWhoKnow ∈ ab_tb := ab_in6 _ (List.mem_of_getElem? (i := 123) rfl) rfl
theorem kw_d9f7fd8f56 : Cond.code yX8_meetAllWhoKnow cX8_meetAllWhoKnow 3 none ∈ ab_tb := ab_in6 _ (List.mem_of_getElem? (i := 124) rfl) rfl
theorem kw_59dcb3d3dd : Cond.methodLink "HungFaces$State" 120 yX8_tellAll ∈ ab_tb := ab_in6 _ (List.mem_of_getElem? (i := 125) rfl) rfl
theorem kw_6afba4afed : Cond.methodLink "HungFacesLaw" 266 yL_trial ∈ ab_tb := ab_in6 _ (List.mem_of_getElem? (i := 126) rfl) rfl
theorem kw_df6f294edf : Cond.static yL_trial ∈ ab_tb := ab_in6 _ (List.mem_of_getElem? (i := 127) rfl) rfl
theorem kw_f85ccfe5dc : Cond.methodLink "HungFacesLaw" 105 yX11_trial ∈ ab_tb := ab_in6 _ (List.mem_of_getElem? (i := 129) rfl) rfl
theorem kw_c47c854cfc : Cond.instanceMethod yX11_trial ∈ ab_tb := ab_in6 _ (List.mem_of_getElem? (i := 130) rfl) rfl
theorem kw_1283126c1c : Cond.selects "HungFaces" yX11_trial yX11_trial ∈ ab_tb := ab_in6 _ (List.mem_of_getElem? (i := 131) rfl) rfl
theorem kw_aa339dcf8d : Cond.code yX11_trial cX11_trial 2 (some .int) ∈ ab_tb := ab_in6 _ (List.mem_of_getElem? (i := 132) rfl) rfl
theorem kw_edd63067c7 : Cond.methodLink "HungFaces" 337 yX11_wrongAfter ∈ ab_tb := ab_in6 _ (List.mem_of_getElem? (i := 133) rfl) rfl
theorem kw_11b8c8a97c : Cond.instanceMethod yX11_wrongAfter ∈ ab_tb := ab_in6 _ (List.mem_of_getElem? (i := 135) rfl) rfl
theorem kw_bbe1879501 : Cond.code yX11_wrongAfter cX11_wrongAfter 4 (some .int) ∈ ab_tb := ab_in6 _ (List.mem_of_getElem? (i := 136) rfl) rfl
theorem kw_e32b3ace72 : Cond.methodLink "HungFacesLaw" 269 yL_span ∈ ab_tb := ab_in6 _ (List.mem_of_getElem? (i := 137) rfl) rfl
theorem kw_aefbd99813 : Cond.static yL_span ∈ ab_tb := ab_in6 _ (List.mem_of_getElem? (i := 138) rfl) rfl
theorem kw_caa3ae0642 : Cond.methodLink "HungFacesLaw" 108 yX11_span ∈ ab_tb := ab_in6 _ (List.mem_of_getElem? (i := 140) rfl) rfl
theorem kw_1ddc414e75 : Cond.instanceMethod yX11_span ∈ ab_tb := ab_in6 _ (List.mem_of_getElem? (i := 141) rfl) rfl
theorem kw_6348a497f0 : Cond.selects "HungFaces" yX11_span yX11_span ∈ ab_tb := ab_in6 _ (List.mem_of_getElem? (i := 142) rfl) rfl
theorem kw_1ea98ffb2d : Cond.code yX11_span cX11_span 6 (some .int) ∈ ab_tb := ab_in6 _ (List.mem_of_getElem? (i := 143) rfl) rfl
theorem kw_412a87fe87 : Cond.methodLink "HungFaces" 340 yJ9_max_7cf53 ∈ ab_tb := ab_in6 _ (List.mem_of_getElem? (i := 144) rfl) rfl
theorem kw_34de86d93b : Cond.methodLink "HungFaces" 345 yJ9_min_7cf53 ∈ ab_tb := ab_in6 _ (List.mem_of_getElem? (i := 145) rfl) rfl
theorem kw_9426653c76 : Cond.methodLink "HungFacesLaw" 273 yL_led ∈ ab_tb := ab_in6 _ (List.mem_of_getElem? (i := 146) rfl) rfl
theorem kw_1d6fcb4c63 : Cond.static yL_led ∈ ab_tb := ab_in6 _ (List.mem_of_getElem? (i := 147) rfl) rfl
theorem kw_8c126f64b8 : Cond.methodLink "HungFacesLaw" 112 yX11_led ∈ ab_tb := ab_in6 _ (List.mem_of_getElem? (i := 149) rfl) rfl
theorem kw_36aedd4809 : Cond.instanceMethod yX11_led ∈ ab_tb := ab_in6 _ (List.mem_of_getElem? (i := 150) rfl) rfl
theorem kw_48332e8704 : Cond.selects "HungFaces" yX11_led yX11_led ∈ ab_tb := ab_in6 _ (List.mem_of_getElem? (i := 151) rfl) rfl
theorem kw_6be3a5848c : Cond.code yX11_led cX11_led 7 (some .int) ∈ ab_tb := ab_in6 _ (List.mem_of_getElem? (i := 152) rfl) rfl
theorem kw_b7f98934f2 : Cond.methodLink "HungFaces" 357 yX4_cell ∈ ab_tb := ab_in6 _ (List.mem_of_getElem? (i := 153) rfl) rfl
theorem kw_d4df24f002 : Cond.instanceMethod yX4_cell ∈ ab_tb := ab_in6 _ (List.mem_of_getElem? (i := 154) rfl) rfl
theorem kw_f0821e4d99 : Cond.selects "HungFaces$Log" yX4_cell yX4_cell ∈ ab_tb := ab_in6 _ (List.mem_of_getElem? (i := 155) rfl) rfl
theorem kw_ee616f0f26 : Cond.code yX4_cell cX4_cell 5 (some .int) ∈ ab_tb := ab_in6 _ (List.mem_of_getElem? (i := 156) rfl) rfl
theorem kw_52cddeaf54 : Cond.methodLink "HungFaces$Log" 34 yJ9_floorMod_7cf53 ∈ ab_tb := ab_in6 _ (List.mem_of_getElem? (i := 157) rfl) rfl
theorem kw_757bf6934d : Cond.static yJ9_floorMod_7cf53 ∈ ab_tb := ab_in6 _ (List.mem_of_getElem? (i := 158) rfl) rfl
theorem kw_bd9f94cd9a : Cond.code yJ9_floorMod_7cf53 cJ9_floorMod_7cf53 3 (some .int) ∈ ab_tb := ab_in6 _ (List.mem_of_getElem? (i := 159) rfl) rfl
theorem kw_7d1c1e25ec : Cond.methodLink "HungFacesLaw" 276 yL_log ∈ ab_tb := ab_in6 _ (List.mem_of_getElem? (i := 160) rfl) rfl
theorem kw_06939c1cde : Cond.static yL_log ∈ ab_tb := ab_in6 _ (List.mem_of_getElem? (i := 161) rfl) rfl
theorem kw_7030a8d521 : Cond.methodLink "HungFacesLaw" 115 yX11_log ∈ ab_tb := ab_in6 _ (List.mem_of_getElem? (i := 163) rfl) rfl
theorem kw_8f298ba697 : Cond.instanceMethod yX11_log ∈ ab_tb := ab_in6 _ (List.mem_of_getElem? (i := 164) rfl) rfl
theorem kw_b2f4652565 : Cond.selects "HungFaces" yX11_log yX11_log ∈ ab_tb := ab_in6 _ (List.mem_of_getElem? (i := 165) rfl) rfl
theorem kw_acf01c2bc8 : Cond.code yX11_log cX11_log 3 (some .int) ∈ ab_tb := ab_in6 _ (List.mem_of_getElem? (i := 166) rfl) rfl
theorem kw_e85a041f3a : Cond.classLink "HungFacesLaw" 119 "HungFacesModel" ∈ ab_tb := ab_in6 _ (List.mem_of_getElem? (i := 168) rfl) rfl
theorem kw_58c50cec89 : Cond.instantiable "HungFacesModel" 26 ∈ ab_tb := ab_in6 _ (List.mem_of_getElem? (i := 169) rfl) rfl
theorem kw_b3b2e51396 : Cond.methodLink "HungFacesLaw" 121 yX12_init ∈ ab_tb := ab_in6 _ (List.mem_of_getElem? (i := 170) rfl) rfl
theorem kw_0b63f192da : Cond.instanceMethod yX12_init ∈ ab_tb := ab_in6 _ (List.mem_of_getElem? (i := 171) rfl) rfl
theorem kw_a058811cfe : Cond.code yX12_init cX12_init 2 none ∈ ab_tb := ab_in6 _ (List.mem_of_getElem? (i := 172) rfl) rfl
theorem kw_f82e361710 : Cond.methodLink "HungFacesModel" 1 ⟨"java/lang/Object", "<init>", "()V"⟩ ∈ ab_tb := ab_in6 _ (List.mem_of_getElem? (i := 173) rfl) rfl
theorem kw_7f126a5286 : Cond.fieldLink "HungFacesModel" 50 "HungFacesModel" "thrown" "I" ∈ ab_tb := ab_in6 _ (List.mem_of_getElem? (i := 174) rfl) rfl
theorem kw_d453bfa9f1 : Cond.fieldLink "HungFacesModel" 7 "HungFacesModel" "m" "[I" ∈ ab_tb := ab_in6 _ (List.mem_of_getElem? (i := 175) rfl) rfl
theorem kw_64f6dc1e9f : Cond.fieldLink "HungFacesModel" 13 "HungFacesModel" "kept" "[I" ∈ ab_tb := ab_in6 _ (List.mem_of_getElem? (i := 176) rfl) rfl
theorem kw_865ba3ce58 : Cond.fieldLink "HungFacesModel" 381 "HungFacesModel" "hasImage" "Z" ∈ ab_tb := ab_in6 _ (List.mem_of_getElem? (i := 177) rfl) rfl
theorem kw_94e838bae2 : Cond.fieldLink "HungFacesModel" 16 "HungFacesModel" "aside" "[I" ∈ ab_tb := ab_in6 _ (List.mem_of_getElem? (i := 178) rfl) rfl
theorem kw_9e98ab2d7f : Cond.fieldLink "HungFacesModel" 19 "HungFacesModel" "acts" "[I" ∈ ab_tb := ab_in6 _ (List.mem_of_getElem? (i := 179) rfl) rfl
theorem kw_4ed0cd8e10 : Cond.fieldLink "HungFacesModel" 182 "HungFacesModel" "acted" "I" ∈ ab_tb := ab_in6 _ (List.mem_of_getElem? (i := 180) rfl) rfl
theorem kw_5229d5915a : Cond.fieldLink "HungFacesModel" 22 "HungFacesModel" "tape" "[I" ∈ ab_tb := ab_in6 _ (List.mem_of_getElem? (i := 181) rfl) rfl
theorem kw_f49b5fd001 : Cond.fieldLink "HungFacesModel" 61 "HungFacesModel" "taped" "I" ∈ ab_tb := ab_in6 _ (List.mem_of_getElem? (i := 182) rfl) rfl
theorem kw_b20aa4f05e : Cond.fieldLink "HungFacesModel" 64 "HungFacesModel" "base" "I" ∈ ab_tb := ab_in6 _ (List.mem_of_getElem? (i := 183) rfl) rfl
theorem kw_f394c3969c : Cond.fieldLink "HungFacesModel" 70 "HungFacesModel" "end" "I" ∈ ab_tb := ab_in6 _ (List.mem_of_getElem? (i := 184) rfl) rfl
theorem kw_f5a9cf47f3 : Cond.fieldLink "HungFacesModel" 67 "HungFacesModel" "at" "I" ∈ ab_tb := ab_in6 _ (List.mem_of_getElem? (i := 185) rfl) rfl
theorem kw_54eb31d40f : Cond.fieldLink "HungFacesModel" 25 "HungFacesModel" "fault" "I" ∈ ab_tb := ab_in6 _ (List.mem_of_getElem? (i := 186) rfl) rfl
theorem kw_dd6cc828b4 : Cond.fieldLink "HungFacesModel" 157 "HungFacesModel" "deep" "I" ∈ ab_tb := ab_in6 _ (List.mem_of_getElem? (i := 187) rfl) rfl
theorem kw_b692ea2d80 : Cond.fieldLink "HungFacesModel" 29 "HungFacesModel" "fact" "[I" ∈ ab_tb := ab_in6 _ (List.mem_of_getElem? (i := 188) rfl) rfl
theorem kw_e78808173e : Cond.fieldLink "HungFacesModel" 202 "HungFacesModel" "isOwn" "Z" ∈ ab_tb := ab_in6 _ (List.mem_of_getElem? (i := 189) rfl) rfl
theorem kw_670c162b39 : Cond.fieldLink "HungFacesModel" 206 "HungFacesModel" "isWed" "Z" ∈ ab_tb := ab_in6 _ (List.mem_of_getElem? (i := 190) rfl) rfl
theorem kw_49dacadb9b : Cond.fieldLink "HungFacesModel" 236 "HungFacesModel" "hands" "Z" ∈ ab_tb := ab_in6 _ (List.mem_of_getElem? (i := 191) rfl) rfl
theorem kw_ebcb13749b : Cond.fieldLink "HungFacesModel" 239 "HungFacesModel" "fetches" "Z" ∈ ab_tb := ab_in6 _ (List.mem_of_getElem? (i := 192) rfl) rfl
theorem kw_f210a956e5 : Cond.fieldLink "HungFacesModel" 32 "HungFacesModel" "said" "[I" ∈ ab_tb := ab_in6 _ (List.mem_of_getElem? (i := 193) rfl) rfl
theorem kw_a2a983d887 : Cond.fieldLink "HungFacesModel" 341 "HungFacesModel" "saidMany" "I" ∈ ab_tb := ab_in6 _ (List.mem_of_getElem? (i := 194) rfl) rfl
theorem kw_3819c39406 : Cond.fieldLink "HungFacesModel" 35 "HungFacesModel" "may" "[I" ∈ ab_tb := ab_in6 _ (List.mem_of_getElem? (i := 195) rfl) rfl
theorem kw_9cb5f45a83 : Cond.fieldLink "HungFacesModel" 38 "HungFacesModel" "owns" "[I" ∈ ab_tb := ab_in6 _ (List.mem_of_getElem? (i := 196) rfl) rfl
theorem kw_6aaf01681b : Cond.fieldLink "HungFacesModel" 41 "HungFacesModel" "gets" "[I" ∈ ab_tb := ab_in6 _ (List.mem_of_getElem? (i := 197) rfl) rfl
theorem kw_164aa06b18 : Cond.fieldLink "HungFacesModel" 44 "HungFacesModel" "least" "[I" ∈ ab_tb := ab_in6 _ (List.mem_of_getElem? (i := 198) rfl) rfl
theorem kw_213d9e8e48 : Cond.fieldLink "HungFacesModel" 47 "HungFacesModel" "far" "[I" ∈ ab_tb := ab_in6 _ (List.mem_of_getElem? (i := 199) rfl) rfl
theorem kw_3a20f3984e : Cond.methodLink "HungFacesLaw" 137 yX12_thrown ∈ ab_tb := ab_in7 _ (List.mem_of_getElem? (i := 13) rfl) rfl
theorem kw_5ecf1a43fc : Cond.instanceMethod yX12_thrown ∈ ab_tb := ab_in7 _ (List.mem_of_getElem? (i := 14) rfl) rfl
theorem kw_b4788dccf4 : Cond.selects "HungFacesModel" yX12_thrown yX12_thrown ∈ ab_tb := ab_in7 _ (List.mem_of_getElem? (i := 15) rfl) rfl
theorem kw_11af59c785 : Cond.code yX12_thrown cX12_thrown 1 (some .int) ∈ ab_tb := ab_in7 _ (List.mem_of_getElem? (i := 16) rfl) rfl
theorem kw_a0715b1d4d : Cond.methodLink "HungFacesLaw" 126 yX12_feed ∈ ab_tb := ab_in7 _ (List.mem_of_getElem? (i := 17) rfl) rfl
theorem kw_aba7d5cd33 : Cond.instanceMethod yX12_feed ∈ ab_tb := ab_in7 _ (List.mem_of_getElem? (i := 18) rfl) rfl
theorem kw_46786007c4 : Cond.selects "HungFacesModel" yX12_feed yX12_feed ∈ ab_tb := ab_in7 _ (List.mem_of_getElem? (i := 19) rfl) rfl
theorem kw_5d511be48c : Cond.code yX12_feed cX12_feed 8 (some .int) ∈ ab_tb := ab_in7 _ (List.mem_of_getElem? (i := 20) rfl) rfl
theorem kw_ff78c0f6f5 : Cond.methodLink "HungFacesLaw" 130 yX12_end ∈ ab_tb := ab_in7 _ (List.mem_of_getElem? (i := 21) rfl) rfl
theorem kw_28fab573a3 : Cond.instanceMethod yX12_end ∈ ab_tb := ab_in7 _ (List.mem_of_getElem? (i := 22) rfl) rfl
theorem kw_a73bcd5942 : Cond.selects "HungFacesModel" yX12_end yX12_end ∈ ab_tb := ab_in7 _ (List.mem_of_getElem? (i := 23) rfl) rfl
theorem kw_3ce965e95a : Cond.code yX12_end cX12_end 2 (some .boolean) ∈ ab_tb := ab_in7 _ (List.mem_of_getElem? (i := 24) rfl) rfl
theorem kw_9e0dc1c65a : Cond.methodLink "HungFacesModel" 53 yX12_isIn ∈ ab_tb := ab_in7 _ (List.mem_of_getElem? (i := 25) rfl) rfl
theorem kw_ca4392cf3b : Cond.static yX12_isIn ∈ ab_tb := ab_in7 _ (List.mem_of_getElem? (i := 26) rfl) rfl
theorem kw_4d871a4fc2 : Cond.code yX12_isIn cX12_isIn 3 (some .boolean) ∈ ab_tb := ab_in7 _ (List.mem_of_getElem? (i := 27) rfl) rfl
theorem kw_334619a0dc : Cond.methodLink "HungFacesLaw" 136 yX12_door ∈ ab_tb := ab_in7 _ (List.mem_of_getElem? (i := 28) rfl) rfl
theorem kw_9b9d96264a : Cond.instanceMethod yX12_door ∈ ab_tb := ab_in7 _ (List.mem_of_getElem? (i := 29) rfl) rfl
theorem kw_24ca37544b : Cond.selects "HungFacesModel" yX12_door yX12_door ∈ ab_tb := ab_in7 _ (List.mem_of_getElem? (i := 30) rfl) rfl
theorem kw_92d9c1eb75 : Cond.code yX12_door cX12_door 2 (some .int) ∈ ab_tb := ab_in7 _ (List.mem_of_getElem? (i := 31) rfl) rfl
theorem kw_f935d73389 : Cond.methodLink "HungFacesModel" 169 yX12_putsAside ∈ ab_tb := ab_in7 _ (List.mem_of_getElem? (i := 32) rfl) rfl
theorem kw_ce0c877844 : Cond.instanceMethod yX12_putsAside ∈ ab_tb := ab_in7 _ (List.mem_of_getElem? (i := 34) rfl) rfl
theorem kw_aa2fcf4a69 : Cond.code yX12_putsAside cX12_putsAside 2 none ∈ ab_tb := ab_in7 _ (List.mem_of_getElem? (i := 35) rfl) rfl
theorem kw_e832613799 : Cond.methodLink "HungFacesModel" 172 yX12_begins ∈ ab_tb := ab_in7 _ (List.mem_of_getElem? (i := 36) rfl) rfl
theorem kw_fb3af41cac : Cond.instanceMethod yX12_begins ∈ ab_tb := ab_in7 _ (List.mem_of_getElem? (i := 38) rfl) rfl
theorem kw_b617f22485 : Cond.code yX12_begins cX12_begins 1 none ∈ ab_tb := ab_in7 _ (List.mem_of_getElem? (i := 39) rfl) rfl
theorem kw_33ea2e95f1 : Cond.methodLink "HungFacesModel" 175 yX12_read ∈ ab_tb := ab_in7 _ (List.mem_of_getElem? (i := 40) rfl) rfl
theorem kw_61eb0f3e34 : Cond.instanceMethod yX12_read ∈ ab_tb := ab_in7 _ (List.mem_of_getElem? (i := 42) rfl) rfl
theorem kw_230fe9a945 : Cond.code yX12_read cX12_read 4 (some .int) ∈ ab_tb := ab_in7 _ (List.mem_of_getElem? (i := 43) rfl) rfl
theorem kw_043c433e15 : Cond.methodLink "HungFacesModel" 77 yX12_skip ∈ ab_tb := ab_in7 _ (List.mem_of_getElem? (i := 44) rfl) rfl
theorem kw_70c2eb0005 : Cond.instanceMethod yX12_skip ∈ ab_tb := ab_in7 _ (List.mem_of_getElem? (i := 46) rfl) rfl
theorem kw_7ba47adbe6 : Cond.code yX12_skip cX12_skip 1 none ∈ ab_tb := ab_in7 _ (List.mem_of_getElem? (i := 47) rfl) rfl
theorem kw_730712e755 : Cond.methodLink "HungFacesModel" 73 yX12_letter ∈ ab_tb := ab_in7 _ (List.mem_of_getElem? (i := 48) rfl) rfl
theorem kw_4c0f2ff20d : Cond.instanceMethod yX12_letter ∈ ab_tb := ab_in7 _ (List.mem_of_getElem? (i := 50) rfl) rfl
theorem kw_1b5cc514bc : Cond.code yX12_letter cX12_letter 2 (some .int) ∈ ab_tb := ab_in7 _ (List.mem_of_getElem? (i := 51) rfl) rfl
theorem kw_e2cd1ea8ed : Cond.methodLink "HungFacesModel" 93 yX12_wrong ∈ ab_tb := ab_in7 _ (List.mem_of_getElem? (i := 52) rfl) rfl
theorem kw_44b151cf55 : Cond.instanceMethod yX12_wrong ∈ ab_tb := ab_in7 _ (List.mem_of_getElem? (i := 54) rfl) rfl
theorem kw_2b35e14d73 : Cond.code yX12_wrong cX12_wrong 2 none ∈ ab_tb := ab_in7 _ (List.mem_of_getElem? (i := 55) rfl) rfl
theorem kw_172267c61e : Cond.methodLink "HungFacesModel" 160 yX12_lawLine ∈ ab_tb := ab_in7 _ (List.mem_of_getElem? (i := 56) rfl) rfl
theorem kw_75582998da : Cond.instanceMethod yX12_lawLine ∈ ab_tb := ab_in7 _ (List.mem_of_getElem? (i := 58) rfl) rfl
theorem kw_1f623c14b7 : Cond.code yX12_lawLine cX12_lawLine 3 none ∈ ab_tb := ab_in7 _ (List.mem_of_getElem? (i := 59) rfl) rfl
theorem kw_7724aa6c9b : Cond.methodLink "HungFacesModel" 124 yX12_has_ ∈ ab_tb := ab_in7 _ (List.mem_of_getElem? (i := 61) rfl) rfl
theorem kw_433804e720 : Cond.instanceMethod yX12_has_ ∈ ab_tb := ab_in7 _ (List.mem_of_getElem? (i := 63) rfl) rfl
theorem kw_f7ef36c1dc : Cond.code yX12_has_ cX12_has_ 4 (some .boolean) ∈ ab_tb := ab_in7 _ (List.mem_of_getElem? (i := 64) rfl) rfl
theorem kw_131db231b3 : Cond.methodLink "HungFacesModel" 80 yJ0_length_8abf5 ∈ ab_tb := ab_in7 _ (List.mem_of_getElem? (i := 65) rfl) rfl
theorem kw_e9488f81cd : Cond.methodLink "HungFacesModel" 86 yJ0_charAt_5068e ∈ ab_tb := ab_in7 _ (List.mem_of_getElem? (i := 66) rfl) rfl
theorem kw_d6a3e27115 : Cond.methodLink "HungFacesModel" 220 yX12_some ∈ ab_tb := ab_in7 _ (List.mem_of_getElem? (i := 69) rfl) rfl
theorem kw_25357b7df3 : Cond.instanceMethod yX12_some ∈ ab_tb := ab_in7 _ (List.mem_of_getElem? (i := 71) rfl) rfl
theorem kw_16266debe5 : Cond.code yX12_some cX12_some 3 (some .boolean) ∈ ab_tb := ab_in7 _ (List.mem_of_getElem? (i := 72) rfl) rfl
theorem kw_6af6e4997d : Cond.methodLink "HungFacesModel" 225 yX12_every ∈ ab_tb := ab_in7 _ (List.mem_of_getElem? (i := 73) rfl) rfl
theorem kw_3de8e7115f : Cond.instanceMethod yX12_every ∈ ab_tb := ab_in7 _ (List.mem_of_getElem? (i := 75) rfl) rfl
theorem kw_c41873c832 : Cond.code yX12_every cX12_every 3 (some .boolean) ∈ ab_tb := ab_in7 _ (List.mem_of_getElem? (i := 76) rfl) rfl
theorem kw_6992593c63 : Cond.methodLink "HungFacesModel" 217 yX12_atom ∈ ab_tb := ab_in7 _ (List.mem_of_getElem? (i := 77) rfl) rfl
theorem kw_9f3989e237 : Cond.instanceMethod yX12_atom ∈ ab_tb := ab_in7 _ (List.mem_of_getElem? (i := 79) rfl) rfl
theorem kw_1449184af0 : Cond.code yX12_atom cX12_atom 4 (some .boolean) ∈ ab_tb := ab_in7 _ (List.mem_of_getElem? (i := 80) rfl) rfl
theorem kw_c6207ff7ee : Cond.methodLink "HungFacesModel" 90 yX12_place ∈ ab_tb := ab_in7 _ (List.mem_of_getElem? (i := 81) rfl) rfl
theorem kw_ab2d5b979e : Cond.instanceMethod yX12_place ∈ ab_tb := ab_in7 _ (List.mem_of_getElem? (i := 83) rfl) rfl
theorem kw_039d341fa6 : Cond.code yX12_place cX12_place 1 (some .int) ∈ ab_tb := ab_in7 _ (List.mem_of_getElem? (i := 84) rfl) rfl
theorem kw_43a9ec9924 : Cond.methodLink "HungFacesModel" 166 yX12_isSign ∈ ab_tb := ab_in7 _ (List.mem_of_getElem? (i := 86) rfl) rfl
theorem kw_e136005786 : Cond.instanceMethod yX12_isSign ∈ ab_tb := ab_in7 _ (List.mem_of_getElem? (i := 88) rfl) rfl
theorem kw_8774b7bf8f : Cond.code yX12_isSign cX12_isSign 2 (some .boolean) ∈ ab_tb := ab_in7 _ (List.mem_of_getElem? (i := 89) rfl) rfl
theorem kw_16a6bd5141 : Cond.methodLink "HungFacesModel" 214 yX12_plain ∈ ab_tb := ab_in7 _ (List.mem_of_getElem? (i := 90) rfl) rfl
theorem kw_ff87f62c8d : Cond.instanceMethod yX12_plain ∈ ab_tb := ab_in7 _ (List.mem_of_getElem? (i := 92) rfl) rfl
theorem kw_a371a0358a : Cond.code yX12_plain cX12_plain 4 (some .boolean) ∈ ab_tb := ab_in7 _ (List.mem_of_getElem? (i := 93) rfl) rfl
theorem kw_9427cdf033 : Cond.methodLink "HungFacesModel" 209 yX12_sum ∈ ab_tb := ab_in7 _ (List.mem_of_getElem? (i := 96) rfl) rfl
theorem kw_5ca12c8e86 : Cond.instanceMethod yX12_sum ∈ ab_tb := ab_in7 _ (List.mem_of_getElem? (i := 98) rfl) rfl
theorem kw_42d966721b : Cond.code yX12_sum cX12_sum 2 (some .int) ∈ ab_tb := ab_in7 _ (List.mem_of_getElem? (i := 99) rfl) rfl
theorem kw_3654749424 : Cond.methodLink "HungFacesModel" 197 yX12_part ∈ ab_tb := ab_in7 _ (List.mem_of_getElem? (i := 100) rfl) rfl
theorem kw_1981e51509 : Cond.instanceMethod yX12_part ∈ ab_tb := ab_in7 _ (List.mem_of_getElem? (i := 102) rfl) rfl
theorem kw_a49f04a5d5 : Cond.code yX12_part cX12_part 2 (some .int) ∈ ab_tb := ab_in7 _ (List.mem_of_getElem? (i := 103) rfl) rfl
theorem kw_9125871b6c : Cond.methodLink "HungFacesModel" 104 yX12_figures ∈ ab_tb := ab_in7 _ (List.mem_of_getElem? (i := 104) rfl) rfl
theorem kw_bd09a27232 : Cond.instanceMethod yX12_figures ∈ ab_tb := ab_in7 _ (List.mem_of_getElem? (i := 106) rfl) rfl
theorem kw_750ee8150b : Cond.code yX12_figures cX12_figures 5 (some .int) ∈ ab_tb := ab_in7 _ (List.mem_of_getElem? (i := 107) rfl) rfl
theorem kw_9effc26ce5 : Cond.methodLink "HungFacesModel" 163 yX12_doorLine ∈ ab_tb := ab_in7 _ (List.mem_of_getElem? (i := 116) rfl) rfl
theorem kw_aa6bb93c8e : Cond.instanceMethod yX12_doorLine ∈ ab_tb := ab_in7 _ (List.mem_of_getElem? (i := 118) rfl) rfl
theorem kw_449615578f : Cond.code yX12_doorLine cX12_doorLine 3 none ∈ ab_tb := ab_in7 _ (List.mem_of_getElem? (i := 119) rfl) rfl
theorem kw_22d3c8552e : Cond.methodLink "HungFacesModel" 127 yX12_personLine ∈ ab_tb := ab_in7 _ (List.mem_of_getElem? (i := 121) rfl) rfl
theorem kw_ba13613759 : Cond.instanceMethod yX12_personLine ∈ ab_tb := ab_in7 _ (List.mem_of_getElem? (i := 123) rfl) rfl
theorem kw_1d5d0e0a44 : Cond.code yX12_personLine cX12_personLine 6 none ∈ ab_tb := ab_in7 _ (List.mem_of_getElem? (i := 124) rfl) rfl
theorem kw_0bd1e7d829 : Cond.methodLink "HungFacesModel" 97 yX12_eight ∈ ab_tb := ab_in7 _ (List.mem_of_getElem? (i := 125) rfl) rfl
theorem kw_9a506d17bc : Cond.instanceMethod yX12_eight ∈ ab_tb := ab_in7 _ (List.mem_of_getElem? (i := 127) rfl) rfl
theorem kw_1a0c62aaf6 : Cond.code yX12_eight cX12_eight 5 (some .int) ∈ ab_tb := ab_in7 _ (List.mem_of_getElem? (i := 128) rfl) rfl
theorem kw_54cf38ce2e : Cond.methodLink "HungFacesModel" 100 yX12_has ∈ ab_tb := ab_in7 _ (List.mem_of_getElem? (i := 129) rfl) rfl
theorem kw_df0a97be28 : Cond.instanceMethod yX12_has ∈ ab_tb := ab_in7 _ (List.mem_of_getElem? (i := 131) rfl) rfl
theorem kw_a21108d11c : Cond.code yX12_has cX12_has 4 none ∈ ab_tb := ab_in7 _ (List.mem_of_getElem? (i := 132) rfl) rfl
theorem kw_d01d26ffdb : Cond.methodLink "HungFacesModel" 132 yX12_wishLine ∈ ab_tb := ab_in7 _ (List.mem_of_getElem? (i := 134) rfl) rfl
theorem kw_ced5d6446c : Cond.instanceMethod yX12_wishLine ∈ ab_tb := ab_in7 _ (List.mem_of_getElem? (i := 136) rfl) rfl
theorem kw_60f30f8193 : Cond.code yX12_wishLine cX12_wishLine 8 none ∈ ab_tb := ab_in7 _ (List.mem_of_getElem? (i := 137) rfl) rfl
theorem kw_cc2604b9c2 : Cond.methodLink "HungFacesModel" 107 yX12_isOf ∈ ab_tb := ab_in7 _ (List.mem_of_getElem? (i := 138) rfl) rfl
theorem kw_ff615fe2fa : Cond.static yX12_isOf ∈ ab_tb := ab_in7 _ (List.mem_of_getElem? (i := 139) rfl) rfl
theorem kw_64073513b1 : Cond.code yX12_isOf cX12_isOf 2 (some .boolean) ∈ ab_tb := ab_in7 _ (List.mem_of_getElem? (i := 140) rfl) rfl
theorem kw_1ee35cd06e : Cond.methodLink "HungFacesModel" 111 yX12_isFigure ∈ ab_tb := ab_in7 _ (List.mem_of_getElem? (i := 141) rfl) rfl
theorem kw_8bab8cbbb8 : Cond.instanceMethod yX12_isFigure ∈ ab_tb := ab_in7 _ (List.mem_of_getElem? (i := 143) rfl) rfl
theorem kw_1ec463fcd5 : Cond.code yX12_isFigure cX12_isFigure 1 (some .boolean) ∈ ab_tb := ab_in7 _ (List.mem_of_getElem? (i := 144) rfl) rfl
theorem kw_9e1087c54e : Cond.methodLink "HungFacesModel" 137 yX12_wedLine ∈ ab_tb := ab_in7 _ (List.mem_of_getElem? (i := 145) rfl) rfl
theorem kw_99f7f71336 : Cond.instanceMethod yX12_wedLine ∈ ab_tb := ab_in7 _ (List.mem_of_getElem? (i := 147) rfl) rfl
theorem kw_ad52778d8c : Cond.code yX12_wedLine cX12_wedLine 3 none ∈ ab_tb := ab_in7 _ (List.mem_of_getElem? (i := 148) rfl) rfl
theorem kw_7ecda438f2 : Cond.methodLink "HungFacesModel" 115 yX12_single ∈ ab_tb := ab_in7 _ (List.mem_of_getElem? (i := 149) rfl) rfl
theorem kw_5586911afc : Cond.instanceMethod yX12_single ∈ ab_tb := ab_in7 _ (List.mem_of_getElem? (i := 151) rfl) rfl
theorem kw_f46fcff4b9 : Cond.code yX12_single cX12_single 4 (some .int) ∈ ab_tb := ab_in7 _ (List.mem_of_getElem? (i := 152) rfl) rfl
theorem kw_2aabdf5f88 : Cond.methodLink "HungFacesModel" 57 yX12_of ∈ ab_tb := ab_in7 _ (List.mem_of_getElem? (i := 153) rfl) rfl
theorem kw_248e6211e5 : Cond.instanceMethod yX12_of ∈ ab_tb := ab_in7 _ (List.mem_of_getElem? (i := 155) rfl) rfl
theorem kw_23da93a77e : Cond.code yX12_of cX12_of 3 (some .int) ∈ ab_tb := ab_in7 _ (List.mem_of_getElem? (i := 156) rfl) rfl
theorem kw_6480a54891 : Cond.methodLink "HungFacesModel" 142 yX12_knowsLine ∈ ab_tb := ab_in7 _ (List.mem_of_getElem? (i := 158) rfl) rfl
theorem kw_fd9aaac8da : Cond.instanceMethod yX12_knowsLine ∈ ab_tb := ab_in7 _ (List.mem_of_getElem? (i := 160) rfl) rfl
theorem kw_f6da3fec15 : Cond.code yX12_knowsLine cX12_knowsLine 5 none ∈ ab_tb := ab_in7 _ (List.mem_of_getElem? (i := 161) rfl) rfl
theorem kw_5c013ebef4 : Cond.methodLink "HungFacesModel" 147 yX12_lastTaken ∈ ab_tb := ab_in7 _ (List.mem_of_getElem? (i := 163) rfl) rfl
theorem kw_bd07cdef94 : Cond.instanceMethod yX12_lastTaken ∈ ab_tb := ab_in7 _ (List.mem_of_getElem? (i := 165) rfl) rfl
theorem kw_ef9038eaee : Cond.code yX12_lastTaken cX12_lastTaken 3 (some .int) ∈ ab_tb := ab_in7 _ (List.mem_of_getElem? (i := 166) rfl) rfl
theorem kw_da21116af0 : Cond.methodLink "HungFacesModel" 118 yX12_hasTicketOf ∈ ab_tb := ab_in7 _ (List.mem_of_getElem? (i := 167) rfl) rfl
theorem kw_99416bea91 : Cond.instanceMethod yX12_hasTicketOf ∈ ab_tb := ab_in7 _ (List.mem_of_getElem? (i := 169) rfl) rfl
theorem kw_1e492149bb : Cond.code yX12_hasTicketOf cX12_hasTicketOf 3 (some .boolean) ∈ ab_tb := ab_in7 _ (List.mem_of_getElem? (i := 170) rfl) rfl
theorem kw_9adc154ca0 : Cond.methodLink "HungFacesModel" 150 yX12_greater ∈ ab_tb := ab_in7 _ (List.mem_of_getElem? (i := 171) rfl) rfl
theorem kw_8502913d98 : Cond.static yX12_greater ∈ ab_tb := ab_in7 _ (List.mem_of_getElem? (i := 172) rfl) rfl
theorem kw_412be09eff : Cond.code yX12_greater cX12_greater 2 (some .int) ∈ ab_tb := ab_in7 _ (List.mem_of_getElem? (i := 173) rfl) rfl
theorem kw_e80e92618c : Cond.methodLink "HungFacesModel" 179 yX12_comesBack ∈ ab_tb := ab_in7 _ (List.mem_of_getElem? (i := 176) rfl) rfl
theorem kw_6cac0fa560 : Cond.instanceMethod yX12_comesBack ∈ ab_tb := ab_in7 _ (List.mem_of_getElem? (i := 178) rfl) rfl
theorem kw_e9702c811d : Cond.code yX12_comesBack cX12_comesBack 2 none ∈ ab_tb := ab_in7 _ (List.mem_of_getElem? (i := 179) rfl) rfl
theorem kw_9d0930b665 : Cond.methodLink "HungFacesLaw" 142 yX12_law ∈ ab_tb := ab_in7 _ (List.mem_of_getElem? (i := 180) rfl) rfl
theorem kw_d6ccd4b341 : Cond.instanceMethod yX12_law ∈ ab_tb := ab_in7 _ (List.mem_of_getElem? (i := 181) rfl) rfl
theorem kw_8e192497ef : Cond.selects "HungFacesModel" yX12_law yX12_law ∈ ab_tb := ab_in7 _ (List.mem_of_getElem? (i := 182) rfl) rfl
theorem kw_af8ceae23e : Cond.code yX12_law cX12_law 3 (some .int) ∈ ab_tb := ab_in7 _ (List.mem_of_getElem? (i := 183) rfl) rfl
theorem kw_4db63a942a : Cond.methodLink "HungFacesLaw" 146 yX12_fault ∈ ab_tb := ab_in7 _ (List.mem_of_getElem? (i := 184) rfl) rfl
theorem kw_f6ca66e41d : Cond.instanceMethod yX12_fault ∈ ab_tb := ab_in7 _ (List.mem_of_getElem? (i := 185) rfl) rfl
theorem kw_b9b424e674 : Cond.selects "HungFacesModel" yX12_fault yX12_fault ∈ ab_tb := ab_in7 _ (List.mem_of_getElem? (i := 186) rfl) rfl
theorem kw_4c0fe8cfb4 : Cond.code yX12_fault cX12_fault 1 (some .int) ∈ ab_tb := ab_in7 _ (List.mem_of_getElem? (i := 187) rfl) rfl
theorem kw_6e29922285 : Cond.methodLink "HungFacesLaw" 150 yX12_person ∈ ab_tb := ab_in7 _ (List.mem_of_getElem? (i := 188) rfl) rfl
theorem kw_8e08b2cb33 : Cond.instanceMethod yX12_person ∈ ab_tb := ab_in7 _ (List.mem_of_getElem? (i := 189) rfl) rfl
theorem kw_2a14d05b31 : Cond.selects "HungFacesModel" yX12_person yX12_person ∈ ab_tb := ab_in7 _ (List.mem_of_getElem? (i := 190) rfl) rfl
theorem kw_3a3cad029a : Cond.code yX12_person cX12_person 3 (some .int) ∈ ab_tb := ab_in7 _ (List.mem_of_getElem? (i := 191) rfl) rfl
theorem kw_62391ec76f : Cond.methodLink "HungFacesModel" 250 yX12_isPerson ∈ ab_tb := ab_in7 _ (List.mem_of_getElem? (i := 192) rfl) rfl
theorem kw_ee4a17dd17 : Cond.instanceMethod yX12_isPerson ∈ ab_tb := ab_in7 _ (List.mem_of_getElem? (i := 194) rfl) rfl
theorem kw_a1855671f5 : Cond.code yX12_isPerson cX12_isPerson 2 (some .boolean) ∈ ab_tb := ab_in7 _ (List.mem_of_getElem? (i := 195) rfl) rfl
theorem kw_a80f2da9c6 : Cond.methodLink "HungFacesModel" 253 yX12_ring ∈ ab_tb := ab_in7 _ (List.mem_of_getElem? (i := 196) rfl) rfl
theorem kw_b985f2f9d2 : Cond.instanceMethod yX12_ring ∈ ab_tb := ab_in7 _ (List.mem_of_getElem? (i := 198) rfl) rfl
theorem kw_1fd16a4c50 : Cond.code yX12_ring cX12_ring 4 (some .int) ∈ ab_tb := ab_in7 _ (List.mem_of_getElem? (i := 199) rfl) rfl
theorem kw_344f3453c8 : Cond.methodLink "HungFacesModel" 247 yX12_wearer ∈ ab_tb := ab_in7 _ (List.mem_of_getElem? (i := 200) rfl) rfl
theorem kw_ec700c763b : Cond.instanceMethod yX12_wearer ∈ ab_tb := ab_in7 _ (List.mem_of_getElem? (i := 202) rfl) rfl
theorem kw_2d361791a2 : Cond.code yX12_wearer cX12_wearer 3 (some .int) ∈ ab_tb := ab_in7 _ (List.mem_of_getElem? (i := 203) rfl) rfl
theorem kw_e2f88ddd04 : Cond.methodLink "HungFacesLaw" 153 yX12_face ∈ ab_tb := ab_in7 _ (List.mem_of_getElem? (i := 204) rfl) rfl
theorem kw_0a4325a7fc : Cond.instanceMethod yX12_face ∈ ab_tb := ab_in7 _ (List.mem_of_getElem? (i := 205) rfl) rfl
theorem kw_bfa4d226c6 : Cond.selects "HungFacesModel" yX12_face yX12_face ∈ ab_tb := ab_in7 _ (List.mem_of_getElem? (i := 206) rfl) rfl
theorem kw_0d1d2035c9 : Cond.code yX12_face cX12_face 3 (some .int) ∈ ab_tb := ab_in7 _ (List.mem_of_getElem? (i := 207) rfl) rfl
theorem kw_4f509058fd : Cond.methodLink "HungFacesModel" 256 yX12_hookOf ∈ ab_tb := ab_in7 _ (List.mem_of_getElem? (i := 208) rfl) rfl
theorem kw_f32432b618 : Cond.instanceMethod yX12_hookOf ∈ ab_tb := ab_in7 _ (List.mem_of_getElem? (i := 210) rfl) rfl
theorem kw_26133e7747 : Cond.code yX12_hookOf cX12_hookOf 3 (some .int) ∈ ab_tb := ab_in7 _ (List.mem_of_getElem? (i := 211) rfl) rfl
theorem kw_9e915c447a : Cond.methodLink "HungFacesModel" 259 yX12_alike ∈ ab_tb := ab_in7 _ (List.mem_of_getElem? (i := 212) rfl) rfl
theorem kw_acb5ebd508 : Cond.instanceMethod yX12_alike ∈ ab_tb := ab_in7 _ (List.mem_of_getElem? (i := 214) rfl) rfl
theorem kw_cd4da646a8 : Cond.code yX12_alike cX12_alike 4 (some .int) ∈ ab_tb := ab_in7 _ (List.mem_of_getElem? (i := 215) rfl) rfl
theorem kw_ad27f3257c : Cond.methodLink "HungFacesLaw" 157 yX12_hook ∈ ab_tb := ab_in7 _ (List.mem_of_getElem? (i := 216) rfl) rfl
theorem kw_dfa7b448e9 : Cond.instanceMethod yX12_hook ∈ ab_tb := ab_in7 _ (List.mem_of_getElem? (i := 217) rfl) rfl
theorem kw_0d5d9d848a : Cond.selects "HungFacesModel" yX12_hook yX12_hook ∈ ab_tb := ab_in7 _ (List.mem_of_getElem? (i := 218) rfl) rfl
theorem kw_76d5bc2010 : Cond.code yX12_hook cX12_hook 2 (some .int) ∈ ab_tb := ab_in7 _ (List.mem_of_getElem? (i := 219) rfl) rfl
theorem kw_a2518c1123 : Cond.methodLink "HungFacesModel" 262 yX12_isHook ∈ ab_tb := ab_in7 _ (List.mem_of_getElem? (i := 220) rfl) rfl
theorem kw_83d3c4b1f2 : Cond.instanceMethod yX12_isHook ∈ ab_tb := ab_in7 _ (List.mem_of_getElem? (i := 222) rfl) rfl
theorem kw_b25671662c : Cond.code yX12_isHook cX12_isHook 2 (some .boolean) ∈ ab_tb := ab_in7 _ (List.mem_of_getElem? (i := 223) rfl) rfl
theorem kw_80ee283043 : Cond.methodLink "HungFacesLaw" 160 yX12_wish ∈ ab_tb := ab_in7 _ (List.mem_of_getElem? (i := 224) rfl) rfl
theorem kw_06fca52864 : Cond.instanceMethod yX12_wish ∈ ab_tb := ab_in7 _ (List.mem_of_getElem? (i := 225) rfl) rfl
theorem kw_c85542687c : Cond.selects "HungFacesModel" yX12_wish yX12_wish ∈ ab_tb := ab_in7 _ (List.mem_of_getElem? (i := 226) rfl) rfl
theorem kw_7d136c3240 : Cond.code yX12_wish cX12_wish 5 (some .int) ∈ ab_tb := ab_in7 _ (List.mem_of_getElem? (i := 227) rfl) rfl
theorem kw_b0f8274dd6 : Cond.methodLink "HungFacesLaw" 163 yX12_thinks ∈ ab_tb := ab_in7 _ (List.mem_of_getElem? (i := 228) rfl) rfl
theorem kw_b742915529 : Cond.instanceMethod yX12_thinks ∈ ab_tb := ab_in7 _ (List.mem_of_getElem? (i := 229) rfl) rfl
theorem kw_62557ea5ec : Cond.selects "HungFacesModel" yX12_thinks yX12_thinks ∈ ab_tb := ab_in7 _ (List.mem_of_getElem? (i := 230) rfl) rfl
theorem kw_85c4937652 : Cond.code yX12_thinks cX12_thinks 3 (some .int) ∈ ab_tb := ab_in7 _ (List.mem_of_getElem? (i := 231) rfl) rfl
theorem kw_e526f929ec : Cond.methodLink "HungFacesModel" 265 yX12_two ∈ ab_tb := ab_in7 _ (List.mem_of_getElem? (i := 232) rfl) rfl
theorem kw_175f2c8ff3 : Cond.instanceMethod yX12_two ∈ ab_tb := ab_in7 _ (List.mem_of_getElem? (i := 234) rfl) rfl
theorem kw_ebba7dcbac : Cond.code yX12_two cX12_two 3 (some .int) ∈ ab_tb := ab_in7 _ (List.mem_of_getElem? (i := 235) rfl) rfl
theorem kw_f9c694e219 : Cond.methodLink "HungFacesModel" 268 yX12_thought ∈ ab_tb := ab_in7 _ (List.mem_of_getElem? (i := 236) rfl) rfl
theorem kw_7adf59bd04 : Cond.instanceMethod yX12_thought ∈ ab_tb := ab_in7 _ (List.mem_of_getElem? (i := 238) rfl) rfl
theorem kw_907a859c94 : Cond.code yX12_thought cX12_thought 3 (some .int) ∈ ab_tb := ab_in7 _ (List.mem_of_getElem? (i := 239) rfl) rfl
theorem kw_5934eab39c : Cond.methodLink "HungFacesLaw" 166 yX12_hand ∈ ab_tb := ab_in8 _ (List.mem_of_getElem? (i := 0) rfl) rfl
theorem kw_318e887356 : Cond.instanceMethod yX12_hand ∈ ab_tb := ab_in8 _ (List.mem_of_getElem? (i := 1) rfl) rfl
theorem kw_c247464b56 : Cond.selects "HungFacesModel" yX12_hand yX12_hand ∈ ab_tb := ab_in8 _ (List.mem_of_getElem? (i := 2) rfl) rfl
theorem kw_54147e1aba : Cond.code yX12_hand cX12_hand 3 (some .int) ∈ ab_tb := ab_in8 _ (List.mem_of_getElem? (i := 3) rfl) rfl
theorem kw_b09372d5a1 : Cond.methodLink "HungFacesModel" 279 yX12_remembers ∈ ab_tb := ab_in8 _ (List.mem_of_getElem? (i := 4) rfl) rfl
theorem kw_c3df27dd03 : Cond.instanceMethod yX12_remembers ∈ ab_tb := ab_in8 _ (List.mem_of_getElem? (i := 6) rfl) rfl
theorem kw_329fdc5faa : Cond.code yX12_remembers cX12_remembers 2 none ∈ ab_tb := ab_in8 _ (List.mem_of_getElem? (i := 7) rfl) rfl
theorem kw_0964c3baa0 : Cond.methodLink "HungFacesModel" 282 yX12_handsIn ∈ ab_tb := ab_in8 _ (List.mem_of_getElem? (i := 8) rfl) rfl
theorem kw_356b06350d : Cond.instanceMethod yX12_handsIn ∈ ab_tb := ab_in8 _ (List.mem_of_getElem? (i := 10) rfl) rfl
theorem kw_359480fed8 : Cond.code yX12_handsIn cX12_handsIn 4 (some .int) ∈ ab_tb := ab_in8 _ (List.mem_of_getElem? (i := 11) rfl) rfl
theorem kw_2e48b58cfc : Cond.methodLink "HungFacesModel" 275 yX12_writes ∈ ab_tb := ab_in8 _ (List.mem_of_getElem? (i := 12) rfl) rfl
theorem kw_d5f9c9686e : Cond.instanceMethod yX12_writes ∈ ab_tb := ab_in8 _ (List.mem_of_getElem? (i := 14) rfl) rfl
theorem kw_a937d4e968 : Cond.code yX12_writes cX12_writes 6 none ∈ ab_tb := ab_in8 _ (List.mem_of_getElem? (i := 15) rfl) rfl
theorem kw_49b0aad20e : Cond.methodLink "HungFacesModel" 272 yX12_lesser ∈ ab_tb := ab_in8 _ (List.mem_of_getElem? (i := 16) rfl) rfl
theorem kw_eb9835ca42 : Cond.static yX12_lesser ∈ ab_tb := ab_in8 _ (List.mem_of_getElem? (i := 17) rfl) rfl
theorem kw_755de892af : Cond.code yX12_lesser cX12_lesser 2 (some .int) ∈ ab_tb := ab_in8 _ (List.mem_of_getElem? (i := 18) rfl) rfl
theorem kw_f6386a65ad : Cond.methodLink "HungFacesLaw" 169 yX12_fetch ∈ ab_tb := ab_in8 _ (List.mem_of_getElem? (i := 19) rfl) rfl
theorem kw_bea78bc22c : Cond.instanceMethod yX12_fetch ∈ ab_tb := ab_in8 _ (List.mem_of_getElem? (i := 20) rfl) rfl
theorem kw_efe67a7106 : Cond.selects "HungFacesModel" yX12_fetch yX12_fetch ∈ ab_tb := ab_in8 _ (List.mem_of_getElem? (i := 21) rfl) rfl
theorem kw_2ddc9e2ed2 : Cond.code yX12_fetch cX12_fetch 2 (some .int) ∈ ab_tb := ab_in8 _ (List.mem_of_getElem? (i := 22) rfl) rfl
theorem kw_d47cdc35f7 : Cond.methodLink "HungFacesModel" 285 yX12_gets ∈ ab_tb := ab_in8 _ (List.mem_of_getElem? (i := 23) rfl) rfl
theorem kw_3fd0bfd2fd : Cond.instanceMethod yX12_gets ∈ ab_tb := ab_in8 _ (List.mem_of_getElem? (i := 25) rfl) rfl
theorem kw_0097abf862 : Cond.code yX12_gets cX12_gets 4 (some .int) ∈ ab_tb := ab_in8 _ (List.mem_of_getElem? (i := 26) rfl) rfl
theorem kw_d86e6ac29d : Cond.methodLink "HungFacesLaw" 172 yX12_mix ∈ ab_tb := ab_in8 _ (List.mem_of_getElem? (i := 27) rfl) rfl
theorem kw_7e9c7a349e : Cond.instanceMethod yX12_mix ∈ ab_tb := ab_in8 _ (List.mem_of_getElem? (i := 28) rfl) rfl
theorem kw_82e5bbbc13 : Cond.selects "HungFacesModel" yX12_mix yX12_mix ∈ ab_tb := ab_in8 _ (List.mem_of_getElem? (i := 29) rfl) rfl
theorem kw_3c4a8aa63d : Cond.code yX12_mix cX12_mix 3 (some .int) ∈ ab_tb := ab_in8 _ (List.mem_of_getElem? (i := 30) rfl) rfl
theorem kw_a8913a47d2 : Cond.methodLink "HungFacesModel" 287 yX12_mixes ∈ ab_tb := ab_in8 _ (List.mem_of_getElem? (i := 31) rfl) rfl
theorem kw_028eb26732 : Cond.instanceMethod yX12_mixes ∈ ab_tb := ab_in8 _ (List.mem_of_getElem? (i := 33) rfl) rfl
theorem kw_3218aa3178 : Cond.code yX12_mixes cX12_mixes 6 none ∈ ab_tb := ab_in8 _ (List.mem_of_getElem? (i := 34) rfl) rfl
theorem kw_88cb7723f3 : Cond.methodLink "HungFacesLaw" 175 yX12_steal ∈ ab_tb := ab_in8 _ (List.mem_of_getElem? (i := 35) rfl) rfl
theorem kw_f3bb474dd5 : Cond.instanceMethod yX12_steal ∈ ab_tb := ab_in8 _ (List.mem_of_getElem? (i := 36) rfl) rfl
theorem kw_64ccb32e86 : Cond.selects "HungFacesModel" yX12_steal yX12_steal ∈ ab_tb := ab_in8 _ (List.mem_of_getElem? (i := 37) rfl) rfl
theorem kw_a47596697d : Cond.code yX12_steal cX12_steal 4 (some .int) ∈ ab_tb := ab_in8 _ (List.mem_of_getElem? (i := 38) rfl) rfl
theorem kw_0a416e877d : Cond.methodLink "HungFacesLaw" 178 yX12_change ∈ ab_tb := ab_in8 _ (List.mem_of_getElem? (i := 39) rfl) rfl
theorem kw_fcbb41727c : Cond.instanceMethod yX12_change ∈ ab_tb := ab_in8 _ (List.mem_of_getElem? (i := 40) rfl) rfl
theorem kw_0387afb894 : Cond.selects "HungFacesModel" yX12_change yX12_change ∈ ab_tb := ab_in8 _ (List.mem_of_getElem? (i := 41) rfl) rfl
theorem kw_d3eaf643c9 : Cond.code yX12_change cX12_change 4 (some .int) ∈ ab_tb := ab_in8 _ (List.mem_of_getElem? (i := 42) rfl) rfl
theorem kw_c8333852a5 : Cond.methodLink "HungFacesLaw" 181 yX12_shave ∈ ab_tb := ab_in8 _ (List.mem_of_getElem? (i := 43) rfl) rfl
theorem kw_9cb7244901 : Cond.instanceMethod yX12_shave ∈ ab_tb := ab_in8 _ (List.mem_of_getElem? (i := 44) rfl) rfl
theorem kw_20e84fb347 : Cond.selects "HungFacesModel" yX12_shave yX12_shave ∈ ab_tb := ab_in8 _ (List.mem_of_getElem? (i := 45) rfl) rfl
theorem kw_faf3befc78 : Cond.code yX12_shave cX12_shave 3 (some .int) ∈ ab_tb := ab_in8 _ (List.mem_of_getElem? (i := 46) rfl) rfl
theorem kw_d58bd56479 : Cond.methodLink "HungFacesModel" 242 yX12_bits ∈ ab_tb := ab_in8 _ (List.mem_of_getElem? (i := 47) rfl) rfl
theorem kw_352f77ef36 : Cond.static yX12_bits ∈ ab_tb := ab_in8 _ (List.mem_of_getElem? (i := 48) rfl) rfl
theorem kw_05134ea3ae : Cond.code yX12_bits cX12_bits 3 (some .int) ∈ ab_tb := ab_in8 _ (List.mem_of_getElem? (i := 49) rfl) rfl
theorem kw_918d08d236 : Cond.methodLink "HungFacesLaw" 185 yX12_graft ∈ ab_tb := ab_in8 _ (List.mem_of_getElem? (i := 50) rfl) rfl
theorem kw_517fa3ce04 : Cond.instanceMethod yX12_graft ∈ ab_tb := ab_in8 _ (List.mem_of_getElem? (i := 51) rfl) rfl
theorem kw_76a8ef6e47 : Cond.selects "HungFacesModel" yX12_graft yX12_graft ∈ ab_tb := ab_in8 _ (List.mem_of_getElem? (i := 52) rfl) rfl
theorem kw_92faaea9a9 : Cond.code yX12_graft cX12_graft 4 (some .int) ∈ ab_tb := ab_in8 _ (List.mem_of_getElem? (i := 53) rfl) rfl
theorem kw_168c0eaffb : Cond.methodLink "HungFacesLaw" 188 yX12_meet ∈ ab_tb := ab_in8 _ (List.mem_of_getElem? (i := 54) rfl) rfl
theorem kw_7c218c35a5 : Cond.instanceMethod yX12_meet ∈ ab_tb := ab_in8 _ (List.mem_of_getElem? (i := 55) rfl) rfl
theorem kw_1e83a77dba : Cond.selects "HungFacesModel" yX12_meet yX12_meet ∈ ab_tb := ab_in8 _ (List.mem_of_getElem? (i := 56) rfl) rfl
theorem kw_cf709f48ab : Cond.code yX12_meet cX12_meet 3 (some .int) ∈ ab_tb := ab_in8 _ (List.mem_of_getElem? (i := 57) rfl) rfl
theorem kw_e30f85ffab : Cond.methodLink "HungFacesModel" 291 yX12_meets ∈ ab_tb := ab_in8 _ (List.mem_of_getElem? (i := 58) rfl) rfl
theorem kw_ed08052cd4 : Cond.instanceMethod yX12_meets ∈ ab_tb := ab_in8 _ (List.mem_of_getElem? (i := 60) rfl) rfl
theorem kw_4c7682a2d0 : Cond.code yX12_meets cX12_meets 4 (some .int) ∈ ab_tb := ab_in8 _ (List.mem_of_getElem? (i := 61) rfl) rfl
theorem kw_bcd0756bf6 : Cond.methodLink "HungFacesLaw" 191 yX12_hours ∈ ab_tb := ab_in8 _ (List.mem_of_getElem? (i := 62) rfl) rfl
theorem kw_e3071d3dae : Cond.instanceMethod yX12_hours ∈ ab_tb := ab_in8 _ (List.mem_of_getElem? (i := 63) rfl) rfl
theorem kw_c617562c4c : Cond.selects "HungFacesModel" yX12_hours yX12_hours ∈ ab_tb := ab_in8 _ (List.mem_of_getElem? (i := 64) rfl) rfl
theorem kw_1ed073525b : Cond.code yX12_hours cX12_hours 2 (some .int) ∈ ab_tb := ab_in8 _ (List.mem_of_getElem? (i := 65) rfl) rfl
theorem kw_1243dbca55 : Cond.methodLink "HungFacesModel" 314 yX12_goes ∈ ab_tb := ab_in8 _ (List.mem_of_getElem? (i := 66) rfl) rfl
theorem kw_50d1af4ff9 : Cond.instanceMethod yX12_goes ∈ ab_tb := ab_in8 _ (List.mem_of_getElem? (i := 68) rfl) rfl
theorem kw_552d265ae2 : Cond.code yX12_goes cX12_goes 4 (some .int) ∈ ab_tb := ab_in8 _ (List.mem_of_getElem? (i := 69) rfl) rfl
theorem kw_b4bf83333c : Cond.methodLink "HungFacesModel" 312 yX12_hour ∈ ab_tb := ab_in8 _ (List.mem_of_getElem? (i := 70) rfl) rfl
theorem kw_55b1d4b10d : Cond.instanceMethod yX12_hour ∈ ab_tb := ab_in8 _ (List.mem_of_getElem? (i := 72) rfl) rfl
theorem kw_47dad5bcef : Cond.code yX12_hour cX12_hour 6 (some .int) ∈ ab_tb := ab_in8 _ (List.mem_of_getElem? (i := 73) rfl) rfl
theorem kw_cfb8f9c4e2 : Cond.methodLink "HungFacesModel" 297 yX12_asks ∈ ab_tb := ab_in8 _ (List.mem_of_getElem? (i := 74) rfl) rfl
theorem kw_8c3643e11f : Cond.instanceMethod yX12_asks ∈ ab_tb := ab_in8 _ (List.mem_of_getElem? (i := 76) rfl) rfl
theorem kw_252f3ae5a7 : Cond.code yX12_asks cX12_asks 6 none ∈ ab_tb := ab_in8 _ (List.mem_of_getElem? (i := 77) rfl) rfl
theorem kw_80fde0dae0 : Cond.methodLink "HungFacesModel" 245 yX12_hung ∈ ab_tb := ab_in8 _ (List.mem_of_getElem? (i := 78) rfl) rfl
theorem kw_8958dc5d9c : Cond.instanceMethod yX12_hung ∈ ab_tb := ab_in8 _ (List.mem_of_getElem? (i := 80) rfl) rfl
theorem kw_11e45ae5c4 : Cond.code yX12_hung cX12_hung 3 (some .int) ∈ ab_tb := ab_in8 _ (List.mem_of_getElem? (i := 81) rfl) rfl
theorem kw_168821bbb2 : Cond.methodLink "HungFacesModel" 300 yX12_freeHook ∈ ab_tb := ab_in8 _ (List.mem_of_getElem? (i := 82) rfl) rfl
theorem kw_11c298297c : Cond.instanceMethod yX12_freeHook ∈ ab_tb := ab_in8 _ (List.mem_of_getElem? (i := 84) rfl) rfl
theorem kw_48360f345a : Cond.code yX12_freeHook cX12_freeHook 2 (some .int) ∈ ab_tb := ab_in8 _ (List.mem_of_getElem? (i := 85) rfl) rfl
theorem kw_233bcfc443 : Cond.methodLink "HungFacesModel" 294 yX12_draw ∈ ab_tb := ab_in8 _ (List.mem_of_getElem? (i := 86) rfl) rfl
theorem kw_a3f08503e5 : Cond.instanceMethod yX12_draw ∈ ab_tb := ab_in8 _ (List.mem_of_getElem? (i := 88) rfl) rfl
theorem kw_566098c68d : Cond.code yX12_draw cX12_draw 2 (some .int) ∈ ab_tb := ab_in8 _ (List.mem_of_getElem? (i := 89) rfl) rfl
theorem kw_795a21753c : Cond.constant "HungFacesModel" 271 (1103515245) ∈ ab_tb := ab_in8 _ (List.mem_of_getElem? (i := 90) rfl) rfl
theorem kw_06c2d8d631 : Cond.methodLink "HungFacesModel" 303 yX12_holders ∈ ab_tb := ab_in8 _ (List.mem_of_getElem? (i := 91) rfl) rfl
theorem kw_1cdd3359af : Cond.instanceMethod yX12_holders ∈ ab_tb := ab_in8 _ (List.mem_of_getElem? (i := 93) rfl) rfl
theorem kw_39ce814707 : Cond.code yX12_holders cX12_holders 3 (some .int) ∈ ab_tb := ab_in8 _ (List.mem_of_getElem? (i := 94) rfl) rfl
theorem kw_ebccb7270c : Cond.methodLink "HungFacesModel" 306 yX12_holder ∈ ab_tb := ab_in8 _ (List.mem_of_getElem? (i := 95) rfl) rfl
theorem kw_1762b3d81e : Cond.instanceMethod yX12_holder ∈ ab_tb := ab_in8 _ (List.mem_of_getElem? (i := 97) rfl) rfl
theorem kw_4658a0e829 : Cond.code yX12_holder cX12_holder 5 (some .int) ∈ ab_tb := ab_in8 _ (List.mem_of_getElem? (i := 98) rfl) rfl
theorem kw_88f7264ecf : Cond.methodLink "HungFacesModel" 309 yX12_robs ∈ ab_tb := ab_in8 _ (List.mem_of_getElem? (i := 99) rfl) rfl
theorem kw_c63aa803d7 : Cond.instanceMethod yX12_robs ∈ ab_tb := ab_in8 _ (List.mem_of_getElem? (i := 101) rfl) rfl
theorem kw_eb73ca5016 : Cond.code yX12_robs cX12_robs 4 none ∈ ab_tb := ab_in8 _ (List.mem_of_getElem? (i := 102) rfl) rfl
theorem kw_c20b232312 : Cond.methodLink "HungFacesLaw" 195 yX12_wrong_ ∈ ab_tb := ab_in8 _ (List.mem_of_getElem? (i := 103) rfl) rfl
theorem kw_b04e71337a : Cond.instanceMethod yX12_wrong_ ∈ ab_tb := ab_in8 _ (List.mem_of_getElem? (i := 104) rfl) rfl
theorem kw_7d3863fcfe : Cond.selects "HungFacesModel" yX12_wrong_ yX12_wrong_ ∈ ab_tb := ab_in8 _ (List.mem_of_getElem? (i := 105) rfl) rfl
theorem kw_a4e0b94c96 : Cond.code yX12_wrong_ cX12_wrong_ 1 (some .int) ∈ ab_tb := ab_in8 _ (List.mem_of_getElem? (i := 106) rfl) rfl
theorem kw_0b8b24f371 : Cond.methodLink "HungFacesModel" 317 yX12_wrongs ∈ ab_tb := ab_in8 _ (List.mem_of_getElem? (i := 107) rfl) rfl
theorem kw_15b5bfc8ed : Cond.instanceMethod yX12_wrongs ∈ ab_tb := ab_in8 _ (List.mem_of_getElem? (i := 109) rfl) rfl
theorem kw_13da73d7ef : Cond.code yX12_wrongs cX12_wrongs 3 (some .int) ∈ ab_tb := ab_in8 _ (List.mem_of_getElem? (i := 110) rfl) rfl
theorem kw_39f94cb955 : Cond.methodLink "HungFacesLaw" 199 yX12_lost ∈ ab_tb := ab_in8 _ (List.mem_of_getElem? (i := 111) rfl) rfl
theorem kw_cd0e38505b : Cond.instanceMethod yX12_lost ∈ ab_tb := ab_in8 _ (List.mem_of_getElem? (i := 112) rfl) rfl
theorem kw_f7f3880ce6 : Cond.selects "HungFacesModel" yX12_lost yX12_lost ∈ ab_tb := ab_in8 _ (List.mem_of_getElem? (i := 113) rfl) rfl
theorem kw_ed8e262061 : Cond.code yX12_lost cX12_lost 3 (some .int) ∈ ab_tb := ab_in8 _ (List.mem_of_getElem? (i := 114) rfl) rfl
theorem kw_b3176e9335 : Cond.methodLink "HungFacesModel" 320 yX12_isLost ∈ ab_tb := ab_in8 _ (List.mem_of_getElem? (i := 115) rfl) rfl
theorem kw_4e3501f9c4 : Cond.instanceMethod yX12_isLost ∈ ab_tb := ab_in8 _ (List.mem_of_getElem? (i := 117) rfl) rfl
theorem kw_0647726703 : Cond.code yX12_isLost cX12_isLost 2 (some .boolean) ∈ ab_tb := ab_in8 _ (List.mem_of_getElem? (i := 118) rfl) rfl
theorem kw_f98667c30c : Cond.methodLink "HungFacesLaw" 203 yX12_unclaimed ∈ ab_tb := ab_in8 _ (List.mem_of_getElem? (i := 119) rfl) rfl
theorem kw_3cc5436515 : Cond.instanceMethod yX12_unclaimed ∈ ab_tb := ab_in8 _ (List.mem_of_getElem? (i := 120) rfl) rfl
theorem kw_8c387928e6 : Cond.selects "HungFacesModel" yX12_unclaimed yX12_unclaimed ∈ ab_tb := ab_in8 _ (List.mem_of_getElem? (i := 121) rfl) rfl
theorem kw_549fb038e1 : Cond.code yX12_unclaimed cX12_unclaimed 3 (some .int) ∈ ab_tb := ab_in8 _ (List.mem_of_getElem? (i := 122) rfl) rfl
theorem kw_fb627b4cba : Cond.methodLink "HungFacesLaw" 207 yX12_swaps ∈ ab_tb := ab_in8 _ (List.mem_of_getElem? (i := 123) rfl) rfl
theorem kw_ed966a8fe6 : Cond.instanceMethod yX12_swaps ∈ ab_tb := ab_in8 _ (List.mem_of_getElem? (i := 124) rfl) rfl
theorem kw_c288804d66 : Cond.selects "HungFacesModel" yX12_swaps yX12_swaps ∈ ab_tb := ab_in8 _ (List.mem_of_getElem? (i := 125) rfl) rfl
theorem kw_4feaa30f44 : Cond.code yX12_swaps cX12_swaps 4 (some .int) ∈ ab_tb := ab_in8 _ (List.mem_of_getElem? (i := 126) rfl) rfl
theorem kw_c9a26f7260 : Cond.methodLink "HungFacesModel" 323 yX12_comesRound ∈ ab_tb := ab_in8 _ (List.mem_of_getElem? (i := 127) rfl) rfl
theorem kw_942783d34e : Cond.instanceMethod yX12_comesRound ∈ ab_tb := ab_in8 _ (List.mem_of_getElem? (i := 129) rfl) rfl
theorem kw_78c9a15d21 : Cond.code yX12_comesRound cX12_comesRound 3 (some .boolean) ∈ ab_tb := ab_in8 _ (List.mem_of_getElem? (i := 130) rfl) rfl
theorem kw_dd59af1aa3 : Cond.methodLink "HungFacesLaw" 211 yX12_saved ∈ ab_tb := ab_in8 _ (List.mem_of_getElem? (i := 131) rfl) rfl
theorem kw_8c5f94581e : Cond.instanceMethod yX12_saved ∈ ab_tb := ab_in8 _ (List.mem_of_getElem? (i := 132) rfl) rfl
theorem kw_ea815391a3 : Cond.selects "HungFacesModel" yX12_saved yX12_saved ∈ ab_tb := ab_in8 _ (List.mem_of_getElem? (i := 133) rfl) rfl
theorem kw_c2cb15c099 : Cond.code yX12_saved cX12_saved 4 (some .int) ∈ ab_tb := ab_in8 _ (List.mem_of_getElem? (i := 134) rfl) rfl
theorem kw_95756b48a5 : Cond.methodLink "HungFacesLaw" 215 yX12_marks ∈ ab_tb := ab_in8 _ (List.mem_of_getElem? (i := 135) rfl) rfl
theorem kw_e2b0cb3046 : Cond.instanceMethod yX12_marks ∈ ab_tb := ab_in8 _ (List.mem_of_getElem? (i := 136) rfl) rfl
theorem kw_7a0af04ffa : Cond.selects "HungFacesModel" yX12_marks yX12_marks ∈ ab_tb := ab_in8 _ (List.mem_of_getElem? (i := 137) rfl) rfl
theorem kw_c6efadbaaf : Cond.code yX12_marks cX12_marks 3 (some .int) ∈ ab_tb := ab_in8 _ (List.mem_of_getElem? (i := 138) rfl) rfl
theorem kw_76a52bfc86 : Cond.methodLink "HungFacesModel" 326 yX12_areUnlike ∈ ab_tb := ab_in8 _ (List.mem_of_getElem? (i := 139) rfl) rfl
theorem kw_0e18af8544 : Cond.instanceMethod yX12_areUnlike ∈ ab_tb := ab_in8 _ (List.mem_of_getElem? (i := 141) rfl) rfl
theorem kw_f18986c901 : Cond.code yX12_areUnlike cX12_areUnlike 4 (some .boolean) ∈ ab_tb := ab_in8 _ (List.mem_of_getElem? (i := 142) rfl) rfl
theorem kw_0090bd0648 : Cond.methodLink "HungFacesLaw" 219 yX12_unknown ∈ ab_tb := ab_in8 _ (List.mem_of_getElem? (i := 143) rfl) rfl
theorem kw_0dcdec5c28 : Cond.instanceMethod yX12_unknown ∈ ab_tb := ab_in8 _ (List.mem_of_getElem? (i := 144) rfl) rfl
theorem kw_a55da1b5c2 : Cond.selects "HungFacesModel" yX12_unknown yX12_unknown ∈ ab_tb := ab_in8 _ (List.mem_of_getElem? (i := 145) rfl) rfl
theorem kw_02cdb523a9 : Cond.code yX12_unknown cX12_unknown 4 (some .int) ∈ ab_tb := ab_in8 _ (List.mem_of_getElem? (i := 146) rfl) rfl
theorem kw_22979888be : Cond.methodLink "HungFacesLaw" 222 yX12_passes ∈ ab_tb := ab_in8 _ (List.mem_of_getElem? (i := 147) rfl) rfl
theorem kw_0eccef1f65 : Cond.instanceMethod yX12_passes ∈ ab_tb := ab_in8 _ (List.mem_of_getElem? (i := 148) rfl) rfl
theorem kw_f7b57236e8 : Cond.selects "HungFacesModel" yX12_passes yX12_passes ∈ ab_tb := ab_in8 _ (List.mem_of_getElem? (i := 149) rfl) rfl
theorem kw_f1171cc758 : Cond.code yX12_passes cX12_passes 5 (some .int) ∈ ab_tb := ab_in8 _ (List.mem_of_getElem? (i := 150) rfl) rfl
theorem kw_b713535df6 : Cond.methodLink "HungFacesLaw" 225 yX12_core ∈ ab_tb := ab_in8 _ (List.mem_of_getElem? (i := 151) rfl) rfl
theorem kw_431f0dd68b : Cond.instanceMethod yX12_core ∈ ab_tb := ab_in8 _ (List.mem_of_getElem? (i := 152) rfl) rfl
theorem kw_df04291dd0 : Cond.selects "HungFacesModel" yX12_core yX12_core ∈ ab_tb := ab_in8 _ (List.mem_of_getElem? (i := 153) rfl) rfl
theorem kw_70ba4f2474 : Cond.code yX12_core cX12_core 2 (some .int) ∈ ab_tb := ab_in8 _ (List.mem_of_getElem? (i := 154) rfl) rfl
theorem kw_ef8314d15b : Cond.methodLink "HungFacesModel" 335 yX12_trades ∈ ab_tb := ab_in8 _ (List.mem_of_getElem? (i := 155) rfl) rfl
theorem kw_6265c59347 : Cond.instanceMethod yX12_trades ∈ ab_tb := ab_in8 _ (List.mem_of_getElem? (i := 157) rfl) rfl
theorem kw_7cba3a19c5 : Cond.code yX12_trades cX12_trades 5 none ∈ ab_tb := ab_in8 _ (List.mem_of_getElem? (i := 158) rfl) rfl
theorem kw_26b13b1227 : Cond.methodLink "HungFacesModel" 332 yX12_pointsTo ∈ ab_tb := ab_in8 _ (List.mem_of_getElem? (i := 159) rfl) rfl
theorem kw_3ed6c678c6 : Cond.instanceMethod yX12_pointsTo ∈ ab_tb := ab_in8 _ (List.mem_of_getElem? (i := 161) rfl) rfl
theorem kw_96c33c6dee : Cond.code yX12_pointsTo cX12_pointsTo 5 (some .int) ∈ ab_tb := ab_in8 _ (List.mem_of_getElem? (i := 162) rfl) rfl
theorem kw_c7e2ae02fc : Cond.methodLink "HungFacesModel" 329 yX12_dear ∈ ab_tb := ab_in8 _ (List.mem_of_getElem? (i := 163) rfl) rfl
theorem kw_045aea2a15 : Cond.instanceMethod yX12_dear ∈ ab_tb := ab_in8 _ (List.mem_of_getElem? (i := 165) rfl) rfl
theorem kw_74bc19f0e8 : Cond.code yX12_dear cX12_dear 4 (some .int) ∈ ab_tb := ab_in8 _ (List.mem_of_getElem? (i := 166) rfl) rfl
theorem kw_22388a2872 : Cond.methodLink "HungFacesLaw" 229 yX12_gains ∈ ab_tb := ab_in8 _ (List.mem_of_getElem? (i := 167) rfl) rfl
theorem kw_61cc91f6ca : Cond.instanceMethod yX12_gains ∈ ab_tb := ab_in8 _ (List.mem_of_getElem? (i := 168) rfl) rfl
theorem kw_25fa3f436e : Cond.selects "HungFacesModel" yX12_gains yX12_gains ∈ ab_tb := ab_in8 _ (List.mem_of_getElem? (i := 169) rfl) rfl
theorem kw_4a80fbbbcc : Cond.code yX12_gains cX12_gains 3 (some .int) ∈ ab_tb := ab_in8 _ (List.mem_of_getElem? (i := 170) rfl) rfl
theorem kw_c30ad135e9 : Cond.methodLink "HungFacesLaw" 232 yX12_block ∈ ab_tb := ab_in8 _ (List.mem_of_getElem? (i := 171) rfl) rfl
theorem kw_4ca2ed2ed5 : Cond.instanceMethod yX12_block ∈ ab_tb := ab_in8 _ (List.mem_of_getElem? (i := 172) rfl) rfl
theorem kw_2f548397f4 : Cond.selects "HungFacesModel" yX12_block yX12_block ∈ ab_tb := ab_in8 _ (List.mem_of_getElem? (i := 173) rfl) rfl
theorem kw_cb539f4a3e : Cond.code yX12_block cX12_block 6 (some .boolean) ∈ ab_tb := ab_in8 _ (List.mem_of_getElem? (i := 174) rfl) rfl
theorem kw_5366d730d3 : Cond.methodLink "HungFacesModel" 338 yX12_hasDearer ∈ ab_tb := ab_in8 _ (List.mem_of_getElem? (i := 175) rfl) rfl
theorem kw_df92a7c415 : Cond.instanceMethod yX12_hasDearer ∈ ab_tb := ab_in8 _ (List.mem_of_getElem? (i := 177) rfl) rfl
theorem kw_8f5ff7cd16 : Cond.code yX12_hasDearer cX12_hasDearer 4 (some .boolean) ∈ ab_tb := ab_in8 _ (List.mem_of_getElem? (i := 178) rfl) rfl
theorem kw_53ab0ee6c9 : Cond.methodLink "HungFacesLaw" 235 yX12_fits ∈ ab_tb := ab_in8 _ (List.mem_of_getElem? (i := 179) rfl) rfl
theorem kw_b2c66d18f8 : Cond.instanceMethod yX12_fits ∈ ab_tb := ab_in8 _ (List.mem_of_getElem? (i := 180) rfl) rfl
theorem kw_6ec881a4fa : Cond.selects "HungFacesModel" yX12_fits yX12_fits ∈ ab_tb := ab_in8 _ (List.mem_of_getElem? (i := 181) rfl) rfl
theorem kw_3b6242edb4 : Cond.code yX12_fits cX12_fits 5 (some .int) ∈ ab_tb := ab_in8 _ (List.mem_of_getElem? (i := 182) rfl) rfl
theorem kw_71fdbdf63b : Cond.methodLink "HungFacesModel" 350 yX12_hears ∈ ab_tb := ab_in8 _ (List.mem_of_getElem? (i := 183) rfl) rfl
theorem kw_f3c4effcf4 : Cond.instanceMethod yX12_hears ∈ ab_tb := ab_in8 _ (List.mem_of_getElem? (i := 185) rfl) rfl
theorem kw_3a40b267f4 : Cond.code yX12_hears cX12_hears 4 (some .boolean) ∈ ab_tb := ab_in8 _ (List.mem_of_getElem? (i := 186) rfl) rfl
theorem kw_fdaee16430 : Cond.methodLink "HungFacesModel" 347 yX12_owned ∈ ab_tb := ab_in8 _ (List.mem_of_getElem? (i := 187) rfl) rfl
theorem kw_c7616b1074 : Cond.instanceMethod yX12_owned ∈ ab_tb := ab_in8 _ (List.mem_of_getElem? (i := 189) rfl) rfl
theorem kw_724dee189e : Cond.code yX12_owned cX12_owned 5 (some .int) ∈ ab_tb := ab_in8 _ (List.mem_of_getElem? (i := 190) rfl) rfl
theorem kw_b51737b0b5 : Cond.methodLink "HungFacesModel" 344 yX12_counts ∈ ab_tb := ab_in8 _ (List.mem_of_getElem? (i := 191) rfl) rfl
theorem kw_2ca23270eb : Cond.instanceMethod yX12_counts ∈ ab_tb := ab_in8 _ (List.mem_of_getElem? (i := 193) rfl) rfl
theorem kw_377da0fcaf : Cond.code yX12_counts cX12_counts 6 (some .int) ∈ ab_tb := ab_in8 _ (List.mem_of_getElem? (i := 194) rfl) rfl
theorem kw_bdf65f0ac0 : Cond.methodLink "HungFacesModel" 353 yX12_waysOf ∈ ab_tb := ab_in8 _ (List.mem_of_getElem? (i := 195) rfl) rfl
theorem kw_6ad3b7115f : Cond.instanceMethod yX12_waysOf ∈ ab_tb := ab_in8 _ (List.mem_of_getElem? (i := 197) rfl) rfl
theorem kw_9962739730 : Cond.code yX12_waysOf cX12_waysOf 4 (some .int) ∈ ab_tb := ab_in8 _ (List.mem_of_getElem? (i := 198) rfl) rfl
theorem kw_96ed4a7d8d : Cond.methodLink "HungFacesLaw" 238 yX12_ask ∈ ab_tb := ab_in8 _ (List.mem_of_getElem? (i := 199) rfl) rfl
theorem kw_a173a6348b : Cond.instanceMethod yX12_ask ∈ ab_tb := ab_in8 _ (List.mem_of_getElem? (i := 200) rfl) rfl
theorem kw_654002429c : Cond.selects "HungFacesModel" yX12_ask yX12_ask ∈ ab_tb := ab_in8 _ (List.mem_of_getElem? (i := 201) rfl) rfl
theorem kw_0c9a468408 : Cond.code yX12_ask cX12_ask 8 (some .int) ∈ ab_tb := ab_in8 _ (List.mem_of_getElem? (i := 202) rfl) rfl
theorem kw_aec56b78e5 : Cond.constant "HungFacesModel" 356 (2000000000) ∈ ab_tb := ab_in8 _ (List.mem_of_getElem? (i := 203) rfl) rfl
theorem kw_9d047f13d9 : Cond.methodLink "HungFacesLaw" 241 yX12_clash ∈ ab_tb := ab_in8 _ (List.mem_of_getElem? (i := 204) rfl) rfl
theorem kw_a268bab608 : Cond.instanceMethod yX12_clash ∈ ab_tb := ab_in8 _ (List.mem_of_getElem? (i := 205) rfl) rfl
theorem kw_e8fdca3a6d : Cond.selects "HungFacesModel" yX12_clash yX12_clash ∈ ab_tb := ab_in8 _ (List.mem_of_getElem? (i := 206) rfl) rfl
theorem kw_5b175cd1de : Cond.code yX12_clash cX12_clash 4 (some .int) ∈ ab_tb := ab_in8 _ (List.mem_of_getElem? (i := 207) rfl) rfl
theorem kw_f1538a9888 : Cond.methodLink "HungFacesLaw" 245 yX12_queue ∈ ab_tb := ab_in8 _ (List.mem_of_getElem? (i := 208) rfl) rfl
theorem kw_6597b71977 : Cond.instanceMethod yX12_queue ∈ ab_tb := ab_in8 _ (List.mem_of_getElem? (i := 209) rfl) rfl
theorem kw_727485b042 : Cond.selects "HungFacesModel" yX12_queue yX12_queue ∈ ab_tb := ab_in8 _ (List.mem_of_getElem? (i := 210) rfl) rfl
theorem kw_e7af56657e : Cond.code yX12_queue cX12_queue 11 (some .int) ∈ ab_tb := ab_in8 _ (List.mem_of_getElem? (i := 211) rfl) rfl
theorem kw_16447114f2 : Cond.methodLink "HungFacesModel" 363 yX12_serves ∈ ab_tb := ab_in8 _ (List.mem_of_getElem? (i := 212) rfl) rfl
theorem kw_1bea150de5 : Cond.instanceMethod yX12_serves ∈ ab_tb := ab_in8 _ (List.mem_of_getElem? (i := 214) rfl) rfl
theorem kw_3a4b7d2d53 : Cond.code yX12_serves cX12_serves 6 none ∈ ab_tb := ab_in8 _ (List.mem_of_getElem? (i := 215) rfl) rfl
theorem kw_d7e40cf7d7 : Cond.methodLink "HungFacesModel" 357 yX12_step ∈ ab_tb := ab_in8 _ (List.mem_of_getElem? (i := 216) rfl) rfl
theorem kw_549b6e458e : Cond.instanceMethod yX12_step ∈ ab_tb := ab_in8 _ (List.mem_of_getElem? (i := 218) rfl) rfl
theorem kw_fcd8407ceb : Cond.code yX12_step cX12_step 5 (some .int) ∈ ab_tb := ab_in8 _ (List.mem_of_getElem? (i := 219) rfl) rfl
theorem kw_a7938b8896 : Cond.methodLink "HungFacesModel" 360 yX12_left ∈ ab_tb := ab_in8 _ (List.mem_of_getElem? (i := 220) rfl) rfl
theorem kw_4a4df94fb6 : Cond.instanceMethod yX12_left ∈ ab_tb := ab_in8 _ (List.mem_of_getElem? (i := 222) rfl) rfl
theorem kw_6b0d46cb54 : Cond.code yX12_left cX12_left 3 (some .int) ∈ ab_tb := ab_in8 _ (List.mem_of_getElem? (i := 223) rfl) rfl
theorem kw_0dc74e6cb2 : Cond.methodLink "HungFacesLaw" 248 yX12_forged ∈ ab_tb := ab_in8 _ (List.mem_of_getElem? (i := 224) rfl) rfl
theorem kw_5bac1a6d55 : Cond.instanceMethod yX12_forged ∈ ab_tb := ab_in8 _ (List.mem_of_getElem? (i := 225) rfl) rfl
theorem kw_4b125c1b8b : Cond.selects "HungFacesModel" yX12_forged yX12_forged ∈ ab_tb := ab_in8 _ (List.mem_of_getElem? (i := 226) rfl) rfl
theorem kw_1f27e9aa1e : Cond.code yX12_forged cX12_forged 5 (some .int) ∈ ab_tb := ab_in8 _ (List.mem_of_getElem? (i := 227) rfl) rfl
theorem kw_a54777b555 : Cond.methodLink "HungFacesModel" 366 yX12_marksOf ∈ ab_tb := ab_in8 _ (List.mem_of_getElem? (i := 228) rfl) rfl
theorem kw_592c5f06d0 : Cond.instanceMethod yX12_marksOf ∈ ab_tb := ab_in8 _ (List.mem_of_getElem? (i := 230) rfl) rfl
theorem kw_ebeaee7255 : Cond.code yX12_marksOf cX12_marksOf 4 (some .int) ∈ ab_tb := ab_in8 _ (List.mem_of_getElem? (i := 231) rfl) rfl
theorem kw_58b32ca686 : Cond.methodLink "HungFacesLaw" 251 yX12_ways ∈ ab_tb := ab_in8 _ (List.mem_of_getElem? (i := 232) rfl) rfl
theorem kw_1d831837ca : Cond.instanceMethod yX12_ways ∈ ab_tb := ab_in8 _ (List.mem_of_getElem? (i := 233) rfl) rfl
theorem kw_a98301d0bb : Cond.selects "HungFacesModel" yX12_ways yX12_ways ∈ ab_tb := ab_in8 _ (List.mem_of_getElem? (i := 234) rfl) rfl
theorem kw_272228bfa3 : Cond.code yX12_ways cX12_ways 5 (some .int) ∈ ab_tb := ab_in8 _ (List.mem_of_getElem? (i := 235) rfl) rfl
theorem kw_4bece59216 : Cond.methodLink "HungFacesModel" 369 yX12_none ∈ ab_tb := ab_in8 _ (List.mem_of_getElem? (i := 236) rfl) rfl
theorem kw_f6ff5ff335 : Cond.static yX12_none ∈ ab_tb := ab_in8 _ (List.mem_of_getElem? (i := 237) rfl) rfl
theorem kw_0cf6493155 : Cond.code yX12_none cX12_none 5 (some .int) ∈ ab_tb := ab_in8 _ (List.mem_of_getElem? (i := 238) rfl) rfl
theorem kw_a25fe5a1e9 : Cond.methodLink "HungFacesLaw" 254 yX12_talk ∈ ab_tb := ab_in8 _ (List.mem_of_getElem? (i := 239) rfl) rfl
theorem kw_f127965b99 : Cond.instanceMethod yX12_talk ∈ ab_tb := ab_in9 _ (List.mem_of_getElem? (i := 0) rfl) rfl
theorem kw_c9b3be8f08 : Cond.selects "HungFacesModel" yX12_talk yX12_talk ∈ ab_tb := ab_in9 _ (List.mem_of_getElem? (i := 1) rfl) rfl
theorem kw_44a741759c : Cond.code yX12_talk cX12_talk 5 (some .int) ∈ ab_tb := ab_in9 _ (List.mem_of_getElem? (i := 2) rfl) rfl
theorem kw_5803424014 : Cond.methodLink "HungFacesModel" 372 yX12_rowFrom ∈ ab_tb := ab_in9 _ (List.mem_of_getElem? (i := 3) rfl) rfl
theorem kw_6cef08ee55 : Cond.instanceMethod yX12_rowFrom ∈ ab_tb := ab_in9 _ (List.mem_of_getElem? (i := 5) rfl) rfl
theorem kw_339dd06f4e : Cond.code yX12_rowFrom cX12_rowFrom 3 (some .int) ∈ ab_tb := ab_in9 _ (List.mem_of_getElem? (i := 6) rfl) rfl
theorem kw_99e3ba8370 : Cond.methodLink "HungFacesLaw" 259 yX12_row ∈ ab_tb := ab_in9 _ (List.mem_of_getElem? (i := 7) rfl) rfl
theorem kw_c27a7d83b5 : Cond.instanceMethod yX12_row ∈ ab_tb := ab_in9 _ (List.mem_of_getElem? (i := 8) rfl) rfl
theorem kw_cc9c541c31 : Cond.selects "HungFacesModel" yX12_row yX12_row ∈ ab_tb := ab_in9 _ (List.mem_of_getElem? (i := 9) rfl) rfl
theorem kw_230265eebb : Cond.code yX12_row cX12_row 5 (some .int) ∈ ab_tb := ab_in9 _ (List.mem_of_getElem? (i := 10) rfl) rfl
theorem kw_553639b388 : Cond.methodLink "HungFacesLaw" 262 yX12_chain ∈ ab_tb := ab_in9 _ (List.mem_of_getElem? (i := 11) rfl) rfl
theorem kw_dbcdb8fc1f : Cond.instanceMethod yX12_chain ∈ ab_tb := ab_in9 _ (List.mem_of_getElem? (i := 12) rfl) rfl
theorem kw_5a38be9191 : Cond.selects "HungFacesModel" yX12_chain yX12_chain ∈ ab_tb := ab_in9 _ (List.mem_of_getElem? (i := 13) rfl) rfl
theorem kw_23c0046559 : Cond.code yX12_chain cX12_chain 6 (some .int) ∈ ab_tb := ab_in9 _ (List.mem_of_getElem? (i := 14) rfl) rfl
theorem kw_52af1f510a : Cond.methodLink "HungFacesLaw" 265 yX12_hears_ ∈ ab_tb := ab_in9 _ (List.mem_of_getElem? (i := 15) rfl) rfl
theorem kw_84f78ede83 : Cond.instanceMethod yX12_hears_ ∈ ab_tb := ab_in9 _ (List.mem_of_getElem? (i := 16) rfl) rfl
theorem kw_ca1f0b2996 : Cond.selects "HungFacesModel" yX12_hears_ yX12_hears_ ∈ ab_tb := ab_in9 _ (List.mem_of_getElem? (i := 17) rfl) rfl
theorem kw_e6f9d75a7b : Cond.code yX12_hears_ cX12_hears_ 7 (some .int) ∈ ab_tb := ab_in9 _ (List.mem_of_getElem? (i := 18) rfl) rfl
theorem kw_34c34d9721 : Cond.methodLink "HungFacesLaw" 268 yX12_trial ∈ ab_tb := ab_in9 _ (List.mem_of_getElem? (i := 19) rfl) rfl
theorem kw_c0dc3ab8be : Cond.instanceMethod yX12_trial ∈ ab_tb := ab_in9 _ (List.mem_of_getElem? (i := 20) rfl) rfl
theorem kw_743889af68 : Cond.selects "HungFacesModel" yX12_trial yX12_trial ∈ ab_tb := ab_in9 _ (List.mem_of_getElem? (i := 21) rfl) rfl
theorem kw_73699a81e2 : Cond.code yX12_trial cX12_trial 2 (some .int) ∈ ab_tb := ab_in9 _ (List.mem_of_getElem? (i := 22) rfl) rfl
theorem kw_11e888ff86 : Cond.methodLink "HungFacesModel" 375 yX12_tries ∈ ab_tb := ab_in9 _ (List.mem_of_getElem? (i := 23) rfl) rfl
theorem kw_a5ea3e1796 : Cond.instanceMethod yX12_tries ∈ ab_tb := ab_in9 _ (List.mem_of_getElem? (i := 25) rfl) rfl
theorem kw_6b31bc054e : Cond.code yX12_tries cX12_tries 4 (some .int) ∈ ab_tb := ab_in9 _ (List.mem_of_getElem? (i := 26) rfl) rfl
theorem kw_f6f7ad1754 : Cond.methodLink "HungFacesLaw" 272 yX12_span ∈ ab_tb := ab_in9 _ (List.mem_of_getElem? (i := 27) rfl) rfl
theorem kw_e76bd083c8 : Cond.instanceMethod yX12_span ∈ ab_tb := ab_in9 _ (List.mem_of_getElem? (i := 28) rfl) rfl
theorem kw_75f0033107 : Cond.selects "HungFacesModel" yX12_span yX12_span ∈ ab_tb := ab_in9 _ (List.mem_of_getElem? (i := 29) rfl) rfl
theorem kw_29335a7925 : Cond.code yX12_span cX12_span 6 (some .int) ∈ ab_tb := ab_in9 _ (List.mem_of_getElem? (i := 30) rfl) rfl
theorem kw_717c66282a : Cond.methodLink "HungFacesLaw" 275 yX12_led ∈ ab_tb := ab_in9 _ (List.mem_of_getElem? (i := 31) rfl) rfl
theorem kw_7b6c78abd9 : Cond.instanceMethod yX12_led ∈ ab_tb := ab_in9 _ (List.mem_of_getElem? (i := 32) rfl) rfl
theorem kw_2528f6c79e : Cond.selects "HungFacesModel" yX12_led yX12_led ∈ ab_tb := ab_in9 _ (List.mem_of_getElem? (i := 33) rfl) rfl
theorem kw_c17653543f : Cond.code yX12_led cX12_led 6 (some .int) ∈ ab_tb := ab_in9 _ (List.mem_of_getElem? (i := 34) rfl) rfl
theorem kw_8d8a5ad994 : Cond.methodLink "HungFacesModel" 378 yX12_logged ∈ ab_tb := ab_in9 _ (List.mem_of_getElem? (i := 35) rfl) rfl
theorem kw_5627d439fb : Cond.instanceMethod yX12_logged ∈ ab_tb := ab_in9 _ (List.mem_of_getElem? (i := 37) rfl) rfl
theorem kw_eeb1f95d3a : Cond.code yX12_logged cX12_logged 3 (some .int) ∈ ab_tb := ab_in9 _ (List.mem_of_getElem? (i := 38) rfl) rfl
theorem kw_3288cd6e8d : Cond.methodLink "HungFacesLaw" 278 yX12_log ∈ ab_tb := ab_in9 _ (List.mem_of_getElem? (i := 39) rfl) rfl
theorem kw_c3ae7e4f64 : Cond.instanceMethod yX12_log ∈ ab_tb := ab_in9 _ (List.mem_of_getElem? (i := 40) rfl) rfl
theorem kw_5042727515 : Cond.selects "HungFacesModel" yX12_log yX12_log ∈ ab_tb := ab_in9 _ (List.mem_of_getElem? (i := 41) rfl) rfl
theorem kw_1ed4d8b1d8 : Cond.code yX12_log cX12_log 3 (some .int) ∈ ab_tb := ab_in9 _ (List.mem_of_getElem? (i := 42) rfl) rfl
theorem kw_93623c30b5 : Cond.methodLink "HungFacesLaw" 282 yX12_seed ∈ ab_tb := ab_in9 _ (List.mem_of_getElem? (i := 43) rfl) rfl
theorem kw_84a253d4ce : Cond.instanceMethod yX12_seed ∈ ab_tb := ab_in9 _ (List.mem_of_getElem? (i := 44) rfl) rfl
theorem kw_e72dfbdaf7 : Cond.selects "HungFacesModel" yX12_seed yX12_seed ∈ ab_tb := ab_in9 _ (List.mem_of_getElem? (i := 45) rfl) rfl
theorem kw_f1f1325057 : Cond.code yX12_seed cX12_seed 3 (some .int) ∈ ab_tb := ab_in9 _ (List.mem_of_getElem? (i := 46) rfl) rfl
theorem kw_01ad378a12 : Cond.methodLink "HungFacesLaw" 287 yX12_undo ∈ ab_tb := ab_in9 _ (List.mem_of_getElem? (i := 47) rfl) rfl
theorem kw_558c8e371a : Cond.instanceMethod yX12_undo ∈ ab_tb := ab_in9 _ (List.mem_of_getElem? (i := 48) rfl) rfl
theorem kw_b0037bf7fa : Cond.selects "HungFacesModel" yX12_undo yX12_undo ∈ ab_tb := ab_in9 _ (List.mem_of_getElem? (i := 49) rfl) rfl
theorem kw_4637b5fc72 : Cond.code yX12_undo cX12_undo 2 (some .boolean) ∈ ab_tb := ab_in9 _ (List.mem_of_getElem? (i := 50) rfl) rfl
theorem kw_1f1cfe6b1c : Cond.methodLink "HungFacesLaw" 291 yX12_image ∈ ab_tb := ab_in9 _ (List.mem_of_getElem? (i := 51) rfl) rfl
theorem kw_aecaf9245a : Cond.instanceMethod yX12_image ∈ ab_tb := ab_in9 _ (List.mem_of_getElem? (i := 52) rfl) rfl
theorem kw_8820436dac : Cond.selects "HungFacesModel" yX12_image yX12_image ∈ ab_tb := ab_in9 _ (List.mem_of_getElem? (i := 53) rfl) rfl
theorem kw_0abdd6b7c9 : Cond.code yX12_image cX12_image 2 none ∈ ab_tb := ab_in9 _ (List.mem_of_getElem? (i := 54) rfl) rfl
theorem kw_a810037efa : Cond.methodLink "HungFacesLaw" 295 yX12_back ∈ ab_tb := ab_in9 _ (List.mem_of_getElem? (i := 55) rfl) rfl
theorem kw_aea1585f81 : Cond.instanceMethod yX12_back ∈ ab_tb := ab_in9 _ (List.mem_of_getElem? (i := 56) rfl) rfl
theorem kw_ab84a52277 : Cond.selects "HungFacesModel" yX12_back yX12_back ∈ ab_tb := ab_in9 _ (List.mem_of_getElem? (i := 57) rfl) rfl
theorem kw_6e373aca91 : Cond.code yX12_back cX12_back 2 (some .boolean) ∈ ab_tb := ab_in9 _ (List.mem_of_getElem? (i := 58) rfl) rfl
theorem kw_0be89d0893 : Cond.methodLink "HungFacesLaw" 299 yX12_count ∈ ab_tb := ab_in9 _ (List.mem_of_getElem? (i := 59) rfl) rfl
theorem kw_2e9c577628 : Cond.instanceMethod yX12_count ∈ ab_tb := ab_in9 _ (List.mem_of_getElem? (i := 60) rfl) rfl
theorem kw_18426f833d : Cond.selects "HungFacesModel" yX12_count yX12_count ∈ ab_tb := ab_in9 _ (List.mem_of_getElem? (i := 61) rfl) rfl
theorem kw_8af889ea33 : Cond.code yX12_count cX12_count 2 (some .int) ∈ ab_tb := ab_in9 _ (List.mem_of_getElem? (i := 62) rfl) rfl
theorem kw_fc6bb041ca : Cond.methodLink "HungFacesModel" 384 yX12_marksNow ∈ ab_tb := ab_in9 _ (List.mem_of_getElem? (i := 63) rfl) rfl
theorem kw_ba08f97812 : Cond.instanceMethod yX12_marksNow ∈ ab_tb := ab_in9 _ (List.mem_of_getElem? (i := 65) rfl) rfl
theorem kw_5a7c7fc744 : Cond.code yX12_marksNow cX12_marksNow 3 (some .int) ∈ ab_tb := ab_in9 _ (List.mem_of_getElem? (i := 66) rfl) rfl
theorem kw_7ef7d7a3f6 : Cond.sameMethod "HungFaces$TextReader" "HungFaces$TextReader" "accept" "(Z)V" ∈ ab_tb := ab_in9 _ (List.mem_of_getElem? (i := 67) rfl) rfl
theorem kw_1de8740f35 : Cond.selects "HungFaces$DoorReader" yX10_accept yX10_accept ∈ ab_tb := ab_in9 _ (List.mem_of_getElem? (i := 68) rfl) rfl
theorem kw_25b2d2d748 : Cond.selects "HungFaces$LawReader" yX10_accept yX10_accept ∈ ab_tb := ab_in9 _ (List.mem_of_getElem? (i := 69) rfl) rfl
theorem kw_f3cdf2a8e2 : Cond.sameMethod "java/lang/Throwable" "java/lang/Throwable" "fillInStackTrace" "(I)Ljava/lang/Throwable;" ∈ ab_tb := ab_in9 _ (List.mem_of_getElem? (i := 70) rfl) rfl
theorem kw_d318968a1d : Cond.fieldLink "java/lang/String" 9 "java/lang/String" "value" "[B" ∈ ab_tb := ab_in9 _ (List.mem_of_getElem? (i := 90) rfl) rfl
theorem kw_8baacb1265 : Cond.fieldLink "java/lang/String" 15 "java/lang/String" "coder" "B" ∈ ab_tb := ab_in9 _ (List.mem_of_getElem? (i := 91) rfl) rfl
theorem kw_909e64702b : Cond.selects "HungFaces" yX11_leadsClosedRing yX11_leadsClosedRing ∈ ab_tb := ab_inp1 _ (List.mem_of_getElem? (i := 0) rfl) rfl
theorem kw_59b996c00e : Cond.selects "HungFaces" yX11_partsAllFaces yX11_partsAllFaces ∈ ab_tb := ab_inp1 _ (List.mem_of_getElem? (i := 1) rfl) rfl
theorem kw_91f77ba5c5 : Cond.selects "HungFaces$Market" yX5_point yX5_point ∈ ab_tb := ab_inp1 _ (List.mem_of_getElem? (i := 2) rfl) rfl
theorem kw_e4748d22fe : Cond.selects "HungFaces$Market" yX5_giveRing yX5_giveRing ∈ ab_tb := ab_inp1 _ (List.mem_of_getElem? (i := 3) rfl) rfl
theorem kw_ffa070594e : Cond.selects "HungFaces" yX11_minutesAlongTheRow yX11_minutesAlongTheRow ∈ ab_tb := ab_inp1 _ (List.mem_of_getElem? (i := 4) rfl) rfl
theorem kw_969ec9703f : Cond.selects "HungFaces" yX11_servedAheadOf yX11_servedAheadOf ∈ ab_tb := ab_inp1 _ (List.mem_of_getElem? (i := 5) rfl) rfl
theorem kw_2bd7ba8ece : Cond.selects "HungFaces$Cutter" yX0_pastBlanks yX0_pastBlanks ∈ ab_tb := ab_inp1 _ (List.mem_of_getElem? (i := 6) rfl) rfl
theorem kw_7b422c388a : Cond.selects "HungFaces$Cutter" yX0_kindAt yX0_kindAt ∈ ab_tb := ab_inp1 _ (List.mem_of_getElem? (i := 7) rfl) rfl
theorem kw_898593fa21 : Cond.selects "HungFaces$Cutter" yX0_endOf yX0_endOf ∈ ab_tb := ab_inp1 _ (List.mem_of_getElem? (i := 8) rfl) rfl
theorem kw_74d475dc9b : Cond.selects "HungFaces$Cutter" yX0_wordOf yX0_wordOf ∈ ab_tb := ab_inp1 _ (List.mem_of_getElem? (i := 9) rfl) rfl
theorem kw_e71f2cb08d : Cond.selects "HungFaces$Cutter" yX0_isSpelt yX0_isSpelt ∈ ab_tb := ab_inp1 _ (List.mem_of_getElem? (i := 10) rfl) rfl
theorem kw_5e6d468096 : Cond.selects "HungFaces$DoorReader" yX1_readPerson yX1_readPerson ∈ ab_tb := ab_inp1 _ (List.mem_of_getElem? (i := 11) rfl) rfl
theorem kw_1b153853eb : Cond.selects "HungFaces$DoorReader" yX1_readFigures yX1_readFigures ∈ ab_tb := ab_inp1 _ (List.mem_of_getElem? (i := 12) rfl) rfl
theorem kw_2d64c4e5ad : Cond.selects "HungFaces$DoorReader" yX1_readWish yX1_readWish ∈ ab_tb := ab_inp1 _ (List.mem_of_getElem? (i := 13) rfl) rfl
theorem kw_0abd82ceeb : Cond.selects "HungFaces$DoorReader" yX1_readNumber yX1_readNumber ∈ ab_tb := ab_inp1 _ (List.mem_of_getElem? (i := 14) rfl) rfl
theorem kw_852a83ac31 : Cond.selects "HungFaces$DoorReader" yX1_readWed yX1_readWed ∈ ab_tb := ab_inp1 _ (List.mem_of_getElem? (i := 15) rfl) rfl
theorem kw_1b322e4a34 : Cond.selects "HungFaces$DoorReader" yX1_readKnows yX1_readKnows ∈ ab_tb := ab_inp2 _ (List.mem_of_getElem? (i := 0) rfl) rfl
theorem kw_713965d082 : Cond.selects "HungFaces$DoorReader" yX1_readSetting yX1_readSetting ∈ ab_tb := ab_inp2 _ (List.mem_of_getElem? (i := 1) rfl) rfl
theorem kw_d50bea8440 : Cond.selects "HungFaces$LawReader" yX3_readCondition yX3_readCondition ∈ ab_tb := ab_inp2 _ (List.mem_of_getElem? (i := 2) rfl) rfl
theorem kw_2778d4d5ee : Cond.selects "HungFaces$LawReader" yX3_readAtom yX3_readAtom ∈ ab_tb := ab_inp2 _ (List.mem_of_getElem? (i := 3) rfl) rfl
theorem kw_4ff21f2d08 : Cond.selects "HungFaces$LawReader" yX3_emit yX3_emit ∈ ab_tb := ab_inp2 _ (List.mem_of_getElem? (i := 4) rfl) rfl
theorem kw_504e8a4980 : Cond.selects "HungFaces$LawReader" yX3_readSum yX3_readSum ∈ ab_tb := ab_inp2 _ (List.mem_of_getElem? (i := 5) rfl) rfl
theorem kw_33efd31f9c : Cond.selects "java/lang/Throwable" ⟨"java/lang/Throwable", "fillInStackTrace", "(I)Ljava/lang/Throwable;"⟩ ⟨"java/lang/Throwable", "fillInStackTrace", "(I)Ljava/lang/Throwable;"⟩ ∈ ab_tb := ab_inp2 _ (List.mem_of_getElem? (i := 6) rfl) rfl
theorem kw_a95798ba67 : Cond.selects "HungFaces" yX11_needPerson yX11_needPerson ∈ ab_tb := ab_inp2 _ (List.mem_of_getElem? (i := 7) rfl) rfl
theorem kw_f3cfcef3b9 : Cond.selects "HungFaces" yX11_needHook yX11_needHook ∈ ab_tb := ab_inp2 _ (List.mem_of_getElem? (i := 8) rfl) rfl
theorem kw_fb80f7a220 : Cond.selects "HungFaces" yX11_needTwo yX11_needTwo ∈ ab_tb := ab_inp2 _ (List.mem_of_getElem? (i := 9) rfl) rfl
theorem kw_68a6eccad8 : Cond.selects "HungFaces$State" yX8_takesTurn yX8_takesTurn ∈ ab_tb := ab_inp2 _ (List.mem_of_getElem? (i := 10) rfl) rfl
theorem kw_97ec2e7b36 : Cond.selects "HungFaces$State" yX8_leastFreeHook yX8_leastFreeHook ∈ ab_tb := ab_inp2 _ (List.mem_of_getElem? (i := 11) rfl) rfl
theorem kw_213fe1a084 : Cond.selects "HungFaces$State" yX8_draw yX8_draw ∈ ab_tb := ab_inp2 _ (List.mem_of_getElem? (i := 12) rfl) rfl
theorem kw_7e6e0c3e57 : Cond.selects "HungFaces$State" yX8_mixByDraws yX8_mixByDraws ∈ ab_tb := ab_inp2 _ (List.mem_of_getElem? (i := 13) rfl) rfl
theorem kw_877ec9f895 : Cond.selects "HungFaces$State" yX8_robByDraw yX8_robByDraw ∈ ab_tb := ab_inp2 _ (List.mem_of_getElem? (i := 14) rfl) rfl
theorem kw_c896f58a87 : Cond.selects "HungFaces$Said" yX7_allowBy yX7_allowBy ∈ ab_tb := ab_inp2 _ (List.mem_of_getElem? (i := 15) rfl) rfl
theorem kw_4f99d1c718 : Cond.selects "HungFaces$Said" yX7_countOwners yX7_countOwners ∈ ab_tb := ab_inp3 _ (List.mem_of_getElem? (i := 0) rfl) rfl
theorem kw_39c830670f : Cond.selects "HungFaces$Said" yX7_ownersWith yX7_ownersWith ∈ ab_tb := ab_inp3 _ (List.mem_of_getElem? (i := 1) rfl) rfl
theorem kw_87f53e0eec : Cond.selects "HungFaces$Said" yX7_canBe yX7_canBe ∈ ab_tb := ab_inp3 _ (List.mem_of_getElem? (i := 2) rfl) rfl
theorem kw_b3ab92eb1b : Cond.selects "HungFaces$Said" yX7_findsFace yX7_findsFace ∈ ab_tb := ab_inp3 _ (List.mem_of_getElem? (i := 3) rfl) rfl
theorem kw_a084ea9b83 : Cond.selects "HungFaces" yX11_marksTogether yX11_marksTogether ∈ ab_tb := ab_inp3 _ (List.mem_of_getElem? (i := 4) rfl) rfl
theorem kw_a450031dfb : Cond.selects "HungFaces" yX11_wrongAfter yX11_wrongAfter ∈ ab_tb := ab_inp3 _ (List.mem_of_getElem? (i := 5) rfl) rfl
theorem kw_c7e26fd2a0 : Cond.selects "HungFacesModel" yX12_putsAside yX12_putsAside ∈ ab_tb := ab_inp3 _ (List.mem_of_getElem? (i := 6) rfl) rfl
theorem kw_e37112cb36 : Cond.selects "HungFacesModel" yX12_begins yX12_begins ∈ ab_tb := ab_inp3 _ (List.mem_of_getElem? (i := 7) rfl) rfl
theorem kw_9bc19b208f : Cond.selects "HungFacesModel" yX12_read yX12_read ∈ ab_tb := ab_inp3 _ (List.mem_of_getElem? (i := 8) rfl) rfl
theorem kw_e50515c236 : Cond.selects "HungFacesModel" yX12_skip yX12_skip ∈ ab_tb := ab_inp3 _ (List.mem_of_getElem? (i := 9) rfl) rfl
theorem kw_481e552cd2 : Cond.selects "HungFacesModel" yX12_letter yX12_letter ∈ ab_tb := ab_inp3 _ (List.mem_of_getElem? (i := 10) rfl) rfl
theorem kw_4c04c20346 : Cond.selects "HungFacesModel" yX12_wrong yX12_wrong ∈ ab_tb := ab_inp3 _ (List.mem_of_getElem? (i := 11) rfl) rfl
theorem kw_17ae66ec85 : Cond.selects "HungFacesModel" yX12_lawLine yX12_lawLine ∈ ab_tb := ab_inp3 _ (List.mem_of_getElem? (i := 12) rfl) rfl
theorem kw_035d50949e : Cond.selects "HungFacesModel" yX12_has_ yX12_has_ ∈ ab_tb := ab_inp3 _ (List.mem_of_getElem? (i := 13) rfl) rfl
theorem kw_884808be4f : Cond.selects "HungFacesModel" yX12_some yX12_some ∈ ab_tb := ab_inp3 _ (List.mem_of_getElem? (i := 14) rfl) rfl
theorem kw_52a26f5028 : Cond.selects "HungFacesModel" yX12_every yX12_every ∈ ab_tb := ab_inp3 _ (List.mem_of_getElem? (i := 15) rfl) rfl
theorem kw_4db50fc199 : Cond.selects "HungFacesModel" yX12_atom yX12_atom ∈ ab_tb := ab_inp4 _ (List.mem_of_getElem? (i := 0) rfl) rfl
theorem kw_1139187b65 : Cond.selects "HungFacesModel" yX12_place yX12_place ∈ ab_tb := ab_inp4 _ (List.mem_of_getElem? (i := 1) rfl) rfl
theorem kw_74bab2aaeb : Cond.selects "HungFacesModel" yX12_isSign yX12_isSign ∈ ab_tb := ab_inp4 _ (List.mem_of_getElem? (i := 2) rfl) rfl
theorem kw_32293cbc54 : Cond.selects "HungFacesModel" yX12_plain yX12_plain ∈ ab_tb := ab_inp4 _ (List.mem_of_getElem? (i := 3) rfl) rfl
theorem kw_465f8a9778 : Cond.selects "HungFacesModel" yX12_sum yX12_sum ∈ ab_tb := ab_inp4 _ (List.mem_of_getElem? (i := 4) rfl) rfl
theorem kw_4eeef77e90 : Cond.selects "HungFacesModel" yX12_part yX12_part ∈ ab_tb := ab_inp4 _ (List.mem_of_getElem? (i := 5) rfl) rfl
theorem kw_ce1d23828d : Cond.selects "HungFacesModel" yX12_figures yX12_figures ∈ ab_tb := ab_inp4 _ (List.mem_of_getElem? (i := 6) rfl) rfl
theorem kw_815f522fff : Cond.selects "HungFacesModel" yX12_doorLine yX12_doorLine ∈ ab_tb := ab_inp4 _ (List.mem_of_getElem? (i := 7) rfl) rfl
theorem kw_d81c6b4366 : Cond.selects "HungFacesModel" yX12_personLine yX12_personLine ∈ ab_tb := ab_inp4 _ (List.mem_of_getElem? (i := 8) rfl) rfl
theorem kw_0fd2c52651 : Cond.selects "HungFacesModel" yX12_eight yX12_eight ∈ ab_tb := ab_inp4 _ (List.mem_of_getElem? (i := 9) rfl) rfl
theorem kw_13dc32b385 : Cond.selects "HungFacesModel" yX12_has yX12_has ∈ ab_tb := ab_inp4 _ (List.mem_of_getElem? (i := 10) rfl) rfl
theorem kw_1c692b8264 : Cond.selects "HungFacesModel" yX12_wishLine yX12_wishLine ∈ ab_tb := ab_inp4 _ (List.mem_of_getElem? (i := 11) rfl) rfl
theorem kw_29967af9e1 : Cond.selects "HungFacesModel" yX12_isFigure yX12_isFigure ∈ ab_tb := ab_inp4 _ (List.mem_of_getElem? (i := 12) rfl) rfl
theorem kw_34606ac613 : Cond.selects "HungFacesModel" yX12_wedLine yX12_wedLine ∈ ab_tb := ab_inp4 _ (List.mem_of_getElem? (i := 13) rfl) rfl
theorem kw_1402bef122 : Cond.selects "HungFacesModel" yX12_single yX12_single ∈ ab_tb := ab_inp4 _ (List.mem_of_getElem? (i := 14) rfl) rfl
theorem kw_7e06e93d77 : Cond.selects "HungFacesModel" yX12_of yX12_of ∈ ab_tb := ab_inp4 _ (List.mem_of_getElem? (i := 15) rfl) rfl
theorem kw_89e7bdbcee : Cond.selects "HungFacesModel" yX12_knowsLine yX12_knowsLine ∈ ab_tb := ab_inp5 _ (List.mem_of_getElem? (i := 0) rfl) rfl
theorem kw_1f72e17a58 : Cond.selects "HungFacesModel" yX12_lastTaken yX12_lastTaken ∈ ab_tb := ab_inp5 _ (List.mem_of_getElem? (i := 1) rfl) rfl
theorem kw_cb10f25681 : Cond.selects "HungFacesModel" yX12_hasTicketOf yX12_hasTicketOf ∈ ab_tb := ab_inp5 _ (List.mem_of_getElem? (i := 2) rfl) rfl
theorem kw_82509c8458 : Cond.selects "HungFacesModel" yX12_comesBack yX12_comesBack ∈ ab_tb := ab_inp5 _ (List.mem_of_getElem? (i := 3) rfl) rfl
theorem kw_52d462f113 : Cond.selects "HungFacesModel" yX12_isPerson yX12_isPerson ∈ ab_tb := ab_inp5 _ (List.mem_of_getElem? (i := 4) rfl) rfl
theorem kw_0d52396c27 : Cond.selects "HungFacesModel" yX12_ring yX12_ring ∈ ab_tb := ab_inp5 _ (List.mem_of_getElem? (i := 5) rfl) rfl
theorem kw_abaa3c82b5 : Cond.selects "HungFacesModel" yX12_wearer yX12_wearer ∈ ab_tb := ab_inp5 _ (List.mem_of_getElem? (i := 6) rfl) rfl
theorem kw_b5c4fef769 : Cond.selects "HungFacesModel" yX12_hookOf yX12_hookOf ∈ ab_tb := ab_inp5 _ (List.mem_of_getElem? (i := 7) rfl) rfl
theorem kw_0852e85837 : Cond.selects "HungFacesModel" yX12_alike yX12_alike ∈ ab_tb := ab_inp5 _ (List.mem_of_getElem? (i := 8) rfl) rfl
theorem kw_a6f7a54d83 : Cond.selects "HungFacesModel" yX12_isHook yX12_isHook ∈ ab_tb := ab_inp5 _ (List.mem_of_getElem? (i := 9) rfl) rfl
theorem kw_dda2f6f22a : Cond.selects "HungFacesModel" yX12_two yX12_two ∈ ab_tb := ab_inp5 _ (List.mem_of_getElem? (i := 10) rfl) rfl
theorem kw_8a08c65417 : Cond.selects "HungFacesModel" yX12_thought yX12_thought ∈ ab_tb := ab_inp5 _ (List.mem_of_getElem? (i := 11) rfl) rfl
theorem kw_1e7cd25983 : Cond.selects "HungFacesModel" yX12_remembers yX12_remembers ∈ ab_tb := ab_inp5 _ (List.mem_of_getElem? (i := 12) rfl) rfl
theorem kw_7f20fa65d7 : Cond.selects "HungFacesModel" yX12_handsIn yX12_handsIn ∈ ab_tb := ab_inp5 _ (List.mem_of_getElem? (i := 13) rfl) rfl
theorem kw_d64ba3eb8d : Cond.selects "HungFacesModel" yX12_writes yX12_writes ∈ ab_tb := ab_inp5 _ (List.mem_of_getElem? (i := 14) rfl) rfl
theorem kw_61c176a075 : Cond.selects "HungFacesModel" yX12_gets yX12_gets ∈ ab_tb := ab_inp5 _ (List.mem_of_getElem? (i := 15) rfl) rfl
theorem kw_8d08bfd576 : Cond.selects "HungFacesModel" yX12_mixes yX12_mixes ∈ ab_tb := ab_inp6 _ (List.mem_of_getElem? (i := 0) rfl) rfl
theorem kw_6202b64648 : Cond.selects "HungFacesModel" yX12_meets yX12_meets ∈ ab_tb := ab_inp6 _ (List.mem_of_getElem? (i := 1) rfl) rfl
theorem kw_41e21fe8a2 : Cond.selects "HungFacesModel" yX12_goes yX12_goes ∈ ab_tb := ab_inp6 _ (List.mem_of_getElem? (i := 2) rfl) rfl
theorem kw_8efd24ff76 : Cond.selects "HungFacesModel" yX12_hour yX12_hour ∈ ab_tb := ab_inp6 _ (List.mem_of_getElem? (i := 3) rfl) rfl
theorem kw_5777e5c4f1 : Cond.selects "HungFacesModel" yX12_asks yX12_asks ∈ ab_tb := ab_inp6 _ (List.mem_of_getElem? (i := 4) rfl) rfl
theorem kw_5b93acc087 : Cond.selects "HungFacesModel" yX12_hung yX12_hung ∈ ab_tb := ab_inp6 _ (List.mem_of_getElem? (i := 5) rfl) rfl
theorem kw_0523cccab4 : Cond.selects "HungFacesModel" yX12_freeHook yX12_freeHook ∈ ab_tb := ab_inp6 _ (List.mem_of_getElem? (i := 6) rfl) rfl
theorem kw_48d147b75f : Cond.selects "HungFacesModel" yX12_draw yX12_draw ∈ ab_tb := ab_inp6 _ (List.mem_of_getElem? (i := 7) rfl) rfl
theorem kw_c3e4e51b60 : Cond.selects "HungFacesModel" yX12_holders yX12_holders ∈ ab_tb := ab_inp6 _ (List.mem_of_getElem? (i := 8) rfl) rfl
theorem kw_9ed9e4b28a : Cond.selects "HungFacesModel" yX12_holder yX12_holder ∈ ab_tb := ab_inp6 _ (List.mem_of_getElem? (i := 9) rfl) rfl
theorem kw_ccbdc19f37 : Cond.selects "HungFacesModel" yX12_robs yX12_robs ∈ ab_tb := ab_inp6 _ (List.mem_of_getElem? (i := 10) rfl) rfl
theorem kw_e3f29b9329 : Cond.selects "HungFacesModel" yX12_wrongs yX12_wrongs ∈ ab_tb := ab_inp6 _ (List.mem_of_getElem? (i := 11) rfl) rfl
theorem kw_d20e8db5d8 : Cond.selects "HungFacesModel" yX12_isLost yX12_isLost ∈ ab_tb := ab_inp6 _ (List.mem_of_getElem? (i := 12) rfl) rfl
theorem kw_eb02aba5a6 : Cond.selects "HungFacesModel" yX12_comesRound yX12_comesRound ∈ ab_tb := ab_inp6 _ (List.mem_of_getElem? (i := 13) rfl) rfl
theorem kw_41c37a220c : Cond.selects "HungFacesModel" yX12_areUnlike yX12_areUnlike ∈ ab_tb := ab_inp6 _ (List.mem_of_getElem? (i := 14) rfl) rfl
theorem kw_703c677023 : Cond.selects "HungFacesModel" yX12_trades yX12_trades ∈ ab_tb := ab_inp6 _ (List.mem_of_getElem? (i := 15) rfl) rfl
theorem kw_f530eb0464 : Cond.selects "HungFacesModel" yX12_pointsTo yX12_pointsTo ∈ ab_tb := ab_inp7 _ (List.mem_of_getElem? (i := 0) rfl) rfl
theorem kw_9047945b66 : Cond.selects "HungFacesModel" yX12_dear yX12_dear ∈ ab_tb := ab_inp7 _ (List.mem_of_getElem? (i := 1) rfl) rfl
theorem kw_30af94adf6 : Cond.selects "HungFacesModel" yX12_hasDearer yX12_hasDearer ∈ ab_tb := ab_inp7 _ (List.mem_of_getElem? (i := 2) rfl) rfl
theorem kw_3d7752b25a : Cond.selects "HungFacesModel" yX12_hears yX12_hears ∈ ab_tb := ab_inp7 _ (List.mem_of_getElem? (i := 3) rfl) rfl
theorem kw_6697b22524 : Cond.selects "HungFacesModel" yX12_owned yX12_owned ∈ ab_tb := ab_inp7 _ (List.mem_of_getElem? (i := 4) rfl) rfl
theorem kw_f8dba9d1ef : Cond.selects "HungFacesModel" yX12_counts yX12_counts ∈ ab_tb := ab_inp7 _ (List.mem_of_getElem? (i := 5) rfl) rfl
theorem kw_7ebfb5a511 : Cond.selects "HungFacesModel" yX12_waysOf yX12_waysOf ∈ ab_tb := ab_inp7 _ (List.mem_of_getElem? (i := 6) rfl) rfl
theorem kw_391103f9a6 : Cond.selects "HungFacesModel" yX12_serves yX12_serves ∈ ab_tb := ab_inp7 _ (List.mem_of_getElem? (i := 7) rfl) rfl
theorem kw_a5b6ab5719 : Cond.selects "HungFacesModel" yX12_step yX12_step ∈ ab_tb := ab_inp7 _ (List.mem_of_getElem? (i := 8) rfl) rfl
theorem kw_e33c84ad67 : Cond.selects "HungFacesModel" yX12_left yX12_left ∈ ab_tb := ab_inp7 _ (List.mem_of_getElem? (i := 9) rfl) rfl
theorem kw_91a25bf4a1 : Cond.selects "HungFacesModel" yX12_marksOf yX12_marksOf ∈ ab_tb := ab_inp7 _ (List.mem_of_getElem? (i := 10) rfl) rfl
theorem kw_a6604a3225 : Cond.selects "HungFacesModel" yX12_rowFrom yX12_rowFrom ∈ ab_tb := ab_inp7 _ (List.mem_of_getElem? (i := 11) rfl) rfl
theorem kw_7ea26dde3f : Cond.selects "HungFacesModel" yX12_tries yX12_tries ∈ ab_tb := ab_inp7 _ (List.mem_of_getElem? (i := 12) rfl) rfl
theorem kw_02f5145f40 : Cond.selects "HungFacesModel" yX12_logged yX12_logged ∈ ab_tb := ab_inp7 _ (List.mem_of_getElem? (i := 13) rfl) rfl
theorem kw_90f5243a96 : Cond.selects "HungFacesModel" yX12_marksNow yX12_marksNow ∈ ab_tb := ab_inp7 _ (List.mem_of_getElem? (i := 14) rfl) rfl
