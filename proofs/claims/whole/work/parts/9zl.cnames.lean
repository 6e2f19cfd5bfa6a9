/-! the constructors: names, words, decode rows (written by wip/whole/gen_ctor.py) -/
def zk_y0 : MethodName := ⟨zt_R0, "<init>", "()V"⟩
abbrev zk_b0 : ByteArray := prog_2_method_1_code
def zk_y1 : MethodName := ⟨zt_R1, "<init>", "()V"⟩
abbrev zk_b1 : ByteArray := prog_3_method_1_code
def zk_y2 : MethodName := ⟨zt_R2, "<init>", "()V"⟩
abbrev zk_b2 : ByteArray := prog_4_method_1_code
def zk_y3 : MethodName := ⟨zt_R3, "<init>", "()V"⟩
abbrev zk_b3 : ByteArray := prog_5_method_1_code
def zk_y4 : MethodName := ⟨zt_R4, "<init>", "(LQuadricFlats$Side;LQuadricFlats$Side;)V"⟩
abbrev zk_b4 : ByteArray := prog_6_method_1_code
def zk_y5 : MethodName := ⟨zt_R5, "<init>", "()V"⟩
abbrev zk_b5 : ByteArray := prog_7_method_1_code
def zk_y6 : MethodName := ⟨zt_R6, "<init>", "()V"⟩
abbrev zk_b6 : ByteArray := prog_1_method_1_code
def zk_y7 : MethodName := ⟨zt_R7, "<init>", "()V"⟩
abbrev zk_b7 : ByteArray := prog_9_method_1_code
theorem zk_k0 : Jvm.Cond.code zk_y0 zk_b0 1 none ∈ zt_gw := zt_in 266 (by decide +kernel) rfl
theorem zk_i0 : Jvm.Cond.initialized zt_R0 ∈ zt_gw := zt_in 143 (by decide +kernel) rfl
theorem zk_m0 : Jvm.Cond.instanceMethod zk_y0 ∈ zt_gw := zt_in 265 (by decide +kernel) rfl
theorem zk_t0 : Jvm.Cond.instantiable zt_R0 6 ∈ zt_gw := zt_in 263 (by decide +kernel) rfl
theorem zk_o0 : Jvm.Cond.methodLink zt_R0 3 objectInit ∈ zt_gw := zt_in 267 (by decide +kernel) rfl
abbrev zk_f0 : List Value := [.null, .null, .null, .int 0, .int 0, .int 0]
theorem zk_df0 : ∀ j, j < 6 → defaultValue (zt_y0 j) = vp_V zk_f0 j := by
  intro j hj
  rcases (show j = 0 ∨ j = 1 ∨ j = 2 ∨ j = 3 ∨ j = 4 ∨ j = 5 by omega) with rfl | rfl | rfl | rfl | rfl | rfl <;> rfl
theorem zd_0_0 : decode zk_b0 0 = .ok (.aload_n 0, 1) := by decide +kernel
theorem zd_0_1 : decode zk_b0 1 = .ok (.invokespecial 3, 3) := by decide +kernel
theorem zd_0_4 : decode zk_b0 4 = .ok (.aload_n 0, 1) := by decide +kernel
theorem zd_0_5 : decode zk_b0 5 = .ok (.bipush 64, 2) := by decide +kernel
theorem zd_0_7 : decode zk_b0 7 = .ok (.newarray .long, 2) := by decide +kernel
theorem zd_0_9 : decode zk_b0 9 = .ok (.putfield 9, 3) := by decide +kernel
theorem zk_l0_9 : Jvm.Cond.fieldLink zt_R0 9 "QuadricFlats$Flats" "links" "[J" ∈ zt_gw := zt_in 268 (by decide +kernel) rfl
theorem zd_0_12 : decode zk_b0 12 = .ok (.aload_n 0, 1) := by decide +kernel
theorem zd_0_13 : decode zk_b0 13 = .ok (.bipush 105, 2) := by decide +kernel
theorem zd_0_15 : decode zk_b0 15 = .ok (.newarray .long, 2) := by decide +kernel
theorem zd_0_17 : decode zk_b0 17 = .ok (.putfield 15, 3) := by decide +kernel
theorem zk_l0_15 : Jvm.Cond.fieldLink zt_R0 15 "QuadricFlats$Flats" "lines" "[J" ∈ zt_gw := zt_in 270 (by decide +kernel) rfl
theorem zd_0_20 : decode zk_b0 20 = .ok (.aload_n 0, 1) := by decide +kernel
theorem zd_0_21 : decode zk_b0 21 = .ok (.bipush 30, 2) := by decide +kernel
theorem zd_0_23 : decode zk_b0 23 = .ok (.newarray .long, 2) := by decide +kernel
theorem zd_0_25 : decode zk_b0 25 = .ok (.putfield 18, 3) := by decide +kernel
theorem zk_l0_18 : Jvm.Cond.fieldLink zt_R0 18 "QuadricFlats$Flats" "planes" "[J" ∈ zt_gw := zt_in 271 (by decide +kernel) rfl
theorem zd_0_28 : decode zk_b0 28 = .ok (.return_, 1) := by decide +kernel
theorem zk_k1 : Jvm.Cond.code zk_y1 zk_b1 1 none ∈ zt_gw := zt_in 190 (by decide +kernel) rfl
theorem zk_i1 : Jvm.Cond.initialized zt_R1 ∈ zt_gw := zt_in 141 (by decide +kernel) rfl
theorem zk_m1 : Jvm.Cond.instanceMethod zk_y1 ∈ zt_gw := zt_in 189 (by decide +kernel) rfl
theorem zk_t1 : Jvm.Cond.instantiable zt_R1 4 ∈ zt_gw := zt_in 187 (by decide +kernel) rfl
theorem zk_o1 : Jvm.Cond.methodLink zt_R1 3 objectInit ∈ zt_gw := zt_in 191 (by decide +kernel) rfl
abbrev zk_f1 : List Value := [.int 0, .int 0, .null, .null]
theorem zk_df1 : ∀ j, j < 4 → defaultValue (zt_y1 j) = vp_V zk_f1 j := by
  intro j hj
  rcases (show j = 0 ∨ j = 1 ∨ j = 2 ∨ j = 3 by omega) with rfl | rfl | rfl | rfl <;> rfl
theorem zd_1_0 : decode zk_b1 0 = .ok (.aload_n 0, 1) := by decide +kernel
theorem zd_1_1 : decode zk_b1 1 = .ok (.invokespecial 3, 3) := by decide +kernel
theorem zd_1_4 : decode zk_b1 4 = .ok (.aload_n 0, 1) := by decide +kernel
theorem zd_1_5 : decode zk_b1 5 = .ok (.iconst 2, 1) := by decide +kernel
theorem zd_1_6 : decode zk_b1 6 = .ok (.putfield 9, 3) := by decide +kernel
theorem zk_l1_9 : Jvm.Cond.fieldLink zt_R1 9 "QuadricFlats$Form" "prime" "I" ∈ zt_gw := zt_in 192 (by decide +kernel) rfl
theorem zd_1_9 : decode zk_b1 9 = .ok (.aload_n 0, 1) := by decide +kernel
theorem zd_1_10 : decode zk_b1 10 = .ok (.bipush 36, 2) := by decide +kernel
theorem zd_1_12 : decode zk_b1 12 = .ok (.newarray .int, 2) := by decide +kernel
theorem zd_1_14 : decode zk_b1 14 = .ok (.putfield 15, 3) := by decide +kernel
theorem zk_l1_15 : Jvm.Cond.fieldLink zt_R1 15 "QuadricFlats$Form" "cells" "[I" ∈ zt_gw := zt_in 200 (by decide +kernel) rfl
theorem zd_1_17 : decode zk_b1 17 = .ok (.aload_n 0, 1) := by decide +kernel
theorem zd_1_18 : decode zk_b1 18 = .ok (.bipush 36, 2) := by decide +kernel
theorem zd_1_20 : decode zk_b1 20 = .ok (.newarray .int, 2) := by decide +kernel
theorem zd_1_22 : decode zk_b1 22 = .ok (.putfield 19, 3) := by decide +kernel
theorem zk_l1_19 : Jvm.Cond.fieldLink zt_R1 19 "QuadricFlats$Form" "matrix" "[I" ∈ zt_gw := zt_in 201 (by decide +kernel) rfl
theorem zd_1_25 : decode zk_b1 25 = .ok (.return_, 1) := by decide +kernel
theorem zk_k2 : Jvm.Cond.code zk_y2 zk_b2 1 none ∈ zt_gw := zt_in 162 (by decide +kernel) rfl
theorem zk_i2 : Jvm.Cond.initialized zt_R2 ∈ zt_gw := zt_in 140 (by decide +kernel) rfl
theorem zk_m2 : Jvm.Cond.instanceMethod zk_y2 ∈ zt_gw := zt_in 161 (by decide +kernel) rfl
theorem zk_t2 : Jvm.Cond.instantiable zt_R2 6 ∈ zt_gw := zt_in 159 (by decide +kernel) rfl
theorem zk_o2 : Jvm.Cond.methodLink zt_R2 3 objectInit ∈ zt_gw := zt_in 163 (by decide +kernel) rfl
abbrev zk_f2 : List Value := [.null, .int 0, .int 0, .int 0, .int 0, .int 0]
theorem zk_df2 : ∀ j, j < 6 → defaultValue (zt_y2 j) = vp_V zk_f2 j := by
  intro j hj
  rcases (show j = 0 ∨ j = 1 ∨ j = 2 ∨ j = 3 ∨ j = 4 ∨ j = 5 by omega) with rfl | rfl | rfl | rfl | rfl | rfl <;> rfl
theorem zd_2_0 : decode zk_b2 0 = .ok (.aload_n 0, 1) := by decide +kernel
theorem zd_2_1 : decode zk_b2 1 = .ok (.invokespecial 3, 3) := by decide +kernel
theorem zd_2_4 : decode zk_b2 4 = .ok (.aload_n 0, 1) := by decide +kernel
theorem zd_2_5 : decode zk_b2 5 = .ok (.bipush 28, 2) := by decide +kernel
theorem zd_2_7 : decode zk_b2 7 = .ok (.newarray .int, 2) := by decide +kernel
theorem zd_2_9 : decode zk_b2 9 = .ok (.putfield 9, 3) := by decide +kernel
theorem zk_l2_9 : Jvm.Cond.fieldLink zt_R2 9 "QuadricFlats$Page" "codes" "[I" ∈ zt_gw := zt_in 164 (by decide +kernel) rfl
theorem zd_2_12 : decode zk_b2 12 = .ok (.return_, 1) := by decide +kernel
theorem zk_k3 : Jvm.Cond.code zk_y3 zk_b3 1 none ∈ zt_gw := zt_in 215 (by decide +kernel) rfl
theorem zk_i3 : Jvm.Cond.initialized zt_R3 ∈ zt_gw := zt_in 142 (by decide +kernel) rfl
theorem zk_m3 : Jvm.Cond.instanceMethod zk_y3 ∈ zt_gw := zt_in 214 (by decide +kernel) rfl
theorem zk_t3 : Jvm.Cond.instantiable zt_R3 11 ∈ zt_gw := zt_in 212 (by decide +kernel) rfl
theorem zk_o3 : Jvm.Cond.methodLink zt_R3 3 objectInit ∈ zt_gw := zt_in 216 (by decide +kernel) rfl
abbrev zk_f3 : List Value := [.int 0, .int 0, .int 0, .null, .null, .null, .null, .null, .int 0, .int 0, .null]
theorem zk_df3 : ∀ j, j < 11 → defaultValue (zt_y3 j) = vp_V zk_f3 j := by
  intro j hj
  rcases (show j = 0 ∨ j = 1 ∨ j = 2 ∨ j = 3 ∨ j = 4 ∨ j = 5 ∨ j = 6 ∨ j = 7 ∨ j = 8 ∨ j = 9 ∨ j = 10 by omega) with rfl | rfl | rfl | rfl | rfl | rfl | rfl | rfl | rfl | rfl | rfl <;> rfl
theorem zd_3_0 : decode zk_b3 0 = .ok (.aload_n 0, 1) := by decide +kernel
theorem zd_3_1 : decode zk_b3 1 = .ok (.invokespecial 3, 3) := by decide +kernel
theorem zd_3_4 : decode zk_b3 4 = .ok (.aload_n 0, 1) := by decide +kernel
theorem zd_3_5 : decode zk_b3 5 = .ok (.iconst 2, 1) := by decide +kernel
theorem zd_3_6 : decode zk_b3 6 = .ok (.putfield 9, 3) := by decide +kernel
theorem zk_l3_9 : Jvm.Cond.fieldLink zt_R3 9 "QuadricFlats$Quadric" "prime" "I" ∈ zt_gw := zt_in 217 (by decide +kernel) rfl
theorem zd_3_9 : decode zk_b3 9 = .ok (.aload_n 0, 1) := by decide +kernel
theorem zd_3_10 : decode zk_b3 10 = .ok (.sipush 936, 3) := by decide +kernel
theorem zd_3_13 : decode zk_b3 13 = .ok (.newarray .int, 2) := by decide +kernel
theorem zd_3_15 : decode zk_b3 15 = .ok (.putfield 15, 3) := by decide +kernel
theorem zk_l3_15 : Jvm.Cond.fieldLink zt_R3 15 "QuadricFlats$Quadric" "numbers" "[I" ∈ zt_gw := zt_in 221 (by decide +kernel) rfl
theorem zd_3_18 : decode zk_b3 18 = .ok (.aload_n 0, 1) := by decide +kernel
theorem zd_3_19 : decode zk_b3 19 = .ok (.sipush 936, 3) := by decide +kernel
theorem zd_3_22 : decode zk_b3 22 = .ok (.newarray .int, 2) := by decide +kernel
theorem zd_3_24 : decode zk_b3 24 = .ok (.putfield 19, 3) := by decide +kernel
theorem zk_l3_19 : Jvm.Cond.fieldLink zt_R3 19 "QuadricFlats$Quadric" "normals" "[I" ∈ zt_gw := zt_in 223 (by decide +kernel) rfl
theorem zd_3_27 : decode zk_b3 27 = .ok (.aload_n 0, 1) := by decide +kernel
theorem zd_3_28 : decode zk_b3 28 = .ok (.sipush 156, 3) := by decide +kernel
theorem zd_3_31 : decode zk_b3 31 = .ok (.newarray .int, 2) := by decide +kernel
theorem zd_3_33 : decode zk_b3 33 = .ok (.putfield 22, 3) := by decide +kernel
theorem zk_l3_22 : Jvm.Cond.fieldLink zt_R3 22 "QuadricFlats$Quadric" "values" "[I" ∈ zt_gw := zt_in 226 (by decide +kernel) rfl
theorem zd_3_36 : decode zk_b3 36 = .ok (.aload_n 0, 1) := by decide +kernel
theorem zd_3_37 : decode zk_b3 37 = .ok (.sipush 156, 3) := by decide +kernel
theorem zd_3_40 : decode zk_b3 40 = .ok (.newarray .int, 2) := by decide +kernel
theorem zd_3_42 : decode zk_b3 42 = .ok (.putfield 25, 3) := by decide +kernel
theorem zk_l3_25 : Jvm.Cond.fieldLink zt_R3 25 "QuadricFlats$Quadric" "members" "[I" ∈ zt_gw := zt_in 228 (by decide +kernel) rfl
theorem zd_3_45 : decode zk_b3 45 = .ok (.aload_n 0, 1) := by decide +kernel
theorem zd_3_46 : decode zk_b3 46 = .ok (.sipush 156, 3) := by decide +kernel
theorem zd_3_49 : decode zk_b3 49 = .ok (.newarray .int, 2) := by decide +kernel
theorem zd_3_51 : decode zk_b3 51 = .ok (.putfield 28, 3) := by decide +kernel
theorem zk_l3_28 : Jvm.Cond.fieldLink zt_R3 28 "QuadricFlats$Quadric" "ranks" "[I" ∈ zt_gw := zt_in 231 (by decide +kernel) rfl
theorem zd_3_54 : decode zk_b3 54 = .ok (.aload_n 0, 1) := by decide +kernel
theorem zd_3_55 : decode zk_b3 55 = .ok (.bipush 6, 2) := by decide +kernel
theorem zd_3_57 : decode zk_b3 57 = .ok (.newarray .int, 2) := by decide +kernel
theorem zd_3_59 : decode zk_b3 59 = .ok (.putfield 31, 3) := by decide +kernel
theorem zk_l3_31 : Jvm.Cond.fieldLink zt_R3 31 "QuadricFlats$Quadric" "vector" "[I" ∈ zt_gw := zt_in 238 (by decide +kernel) rfl
theorem zd_3_62 : decode zk_b3 62 = .ok (.return_, 1) := by decide +kernel
theorem zk_k4 : Jvm.Cond.code zk_y4 zk_b4 3 none ∈ zt_gw := zt_in 324 (by decide +kernel) rfl
theorem zk_i4 : Jvm.Cond.initialized zt_R4 ∈ zt_gw := zt_in 145 (by decide +kernel) rfl
theorem zk_m4 : Jvm.Cond.instanceMethod zk_y4 ∈ zt_gw := zt_in 323 (by decide +kernel) rfl
theorem zk_t4 : Jvm.Cond.instantiable zt_R4 4 ∈ zt_gw := zt_in 321 (by decide +kernel) rfl
theorem zk_o4 : Jvm.Cond.methodLink zt_R4 3 objectInit ∈ zt_gw := zt_in 325 (by decide +kernel) rfl
abbrev zk_f4 : List Value := [.null, .null, .int 0, .long 0]
theorem zk_df4 : ∀ j, j < 4 → defaultValue (zt_y4 j) = vp_V zk_f4 j := by
  intro j hj
  rcases (show j = 0 ∨ j = 1 ∨ j = 2 ∨ j = 3 by omega) with rfl | rfl | rfl | rfl <;> rfl
theorem zd_4_0 : decode zk_b4 0 = .ok (.aload_n 0, 1) := by decide +kernel
theorem zd_4_1 : decode zk_b4 1 = .ok (.invokespecial 3, 3) := by decide +kernel
theorem zd_4_4 : decode zk_b4 4 = .ok (.aload_n 0, 1) := by decide +kernel
theorem zd_4_5 : decode zk_b4 5 = .ok (.aload_n 1, 1) := by decide +kernel
theorem zd_4_6 : decode zk_b4 6 = .ok (.putfield 9, 3) := by decide +kernel
theorem zk_l4_9 : Jvm.Cond.fieldLink zt_R4 9 "QuadricFlats$Search" "side" "LQuadricFlats$Side;" ∈ zt_gw := zt_in 326 (by decide +kernel) rfl
theorem zd_4_9 : decode zk_b4 9 = .ok (.aload_n 0, 1) := by decide +kernel
theorem zd_4_10 : decode zk_b4 10 = .ok (.aload_n 2, 1) := by decide +kernel
theorem zd_4_11 : decode zk_b4 11 = .ok (.putfield 15, 3) := by decide +kernel
theorem zk_l4_15 : Jvm.Cond.fieldLink zt_R4 15 "QuadricFlats$Search" "other" "LQuadricFlats$Side;" ∈ zt_gw := zt_in 327 (by decide +kernel) rfl
theorem zd_4_14 : decode zk_b4 14 = .ok (.return_, 1) := by decide +kernel
theorem zk_k5 : Jvm.Cond.code zk_y5 zk_b5 1 none ∈ zt_gw := zt_in 294 (by decide +kernel) rfl
theorem zk_i5 : Jvm.Cond.initialized zt_R5 ∈ zt_gw := zt_in 144 (by decide +kernel) rfl
theorem zk_m5 : Jvm.Cond.instanceMethod zk_y5 ∈ zt_gw := zt_in 293 (by decide +kernel) rfl
theorem zk_t5 : Jvm.Cond.instantiable zt_R5 5 ∈ zt_gw := zt_in 291 (by decide +kernel) rfl
theorem zk_o5 : Jvm.Cond.methodLink zt_R5 3 objectInit ∈ zt_gw := zt_in 295 (by decide +kernel) rfl
abbrev zk_f5 : List Value := [.int 0, .null, .null, .null, .int 0]
theorem zk_df5 : ∀ j, j < 5 → defaultValue (zt_y5 j) = vp_V zk_f5 j := by
  intro j hj
  rcases (show j = 0 ∨ j = 1 ∨ j = 2 ∨ j = 3 ∨ j = 4 by omega) with rfl | rfl | rfl | rfl | rfl <;> rfl
theorem zd_5_0 : decode zk_b5 0 = .ok (.aload_n 0, 1) := by decide +kernel
theorem zd_5_1 : decode zk_b5 1 = .ok (.invokespecial 3, 3) := by decide +kernel
theorem zd_5_4 : decode zk_b5 4 = .ok (.aload_n 0, 1) := by decide +kernel
theorem zd_5_5 : decode zk_b5 5 = .ok (.bipush 64, 2) := by decide +kernel
theorem zd_5_7 : decode zk_b5 7 = .ok (.newarray .long, 2) := by decide +kernel
theorem zd_5_9 : decode zk_b5 9 = .ok (.putfield 9, 3) := by decide +kernel
theorem zk_l5_9 : Jvm.Cond.fieldLink zt_R5 9 "QuadricFlats$Side" "covers" "[J" ∈ zt_gw := zt_in 299 (by decide +kernel) rfl
theorem zd_5_12 : decode zk_b5 12 = .ok (.aload_n 0, 1) := by decide +kernel
theorem zd_5_13 : decode zk_b5 13 = .ok (.bipush 64, 2) := by decide +kernel
theorem zd_5_15 : decode zk_b5 15 = .ok (.newarray .long, 2) := by decide +kernel
theorem zd_5_17 : decode zk_b5 17 = .ok (.putfield 15, 3) := by decide +kernel
theorem zk_l5_15 : Jvm.Cond.fieldLink zt_R5 15 "QuadricFlats$Side" "clashes" "[J" ∈ zt_gw := zt_in 302 (by decide +kernel) rfl
theorem zd_5_20 : decode zk_b5 20 = .ok (.aload_n 0, 1) := by decide +kernel
theorem zd_5_21 : decode zk_b5 21 = .ok (.bipush 64, 2) := by decide +kernel
theorem zd_5_23 : decode zk_b5 23 = .ok (.newarray .int, 2) := by decide +kernel
theorem zd_5_25 : decode zk_b5 25 = .ok (.putfield 18, 3) := by decide +kernel
theorem zk_l5_18 : Jvm.Cond.fieldLink zt_R5 18 "QuadricFlats$Side" "entries" "[I" ∈ zt_gw := zt_in 304 (by decide +kernel) rfl
theorem zd_5_28 : decode zk_b5 28 = .ok (.return_, 1) := by decide +kernel
theorem zk_k6 : Jvm.Cond.code zk_y6 zk_b6 1 none ∈ zt_gw := zt_in 154 (by decide +kernel) rfl
theorem zk_i6 : Jvm.Cond.initialized zt_R6 ∈ zt_gw := zt_in 139 (by decide +kernel) rfl
theorem zk_m6 : Jvm.Cond.instanceMethod zk_y6 ∈ zt_gw := zt_in 153 (by decide +kernel) rfl
theorem zk_t6 : Jvm.Cond.instantiable zt_R6 15 ∈ zt_gw := zt_in 151 (by decide +kernel) rfl
theorem zk_o6 : Jvm.Cond.methodLink zt_R6 3 objectInit ∈ zt_gw := zt_in 155 (by decide +kernel) rfl
abbrev zk_f6 : List Value := [.null, .null, .null, .null, .null, .null, .null, .null, .null, .int 0, .int 0, .int 0, .int 0, .int 0, .int 0]
theorem zk_df6 : ∀ j, j < 15 → defaultValue (zt_y6 j) = vp_V zk_f6 j := by
  intro j hj
  rcases (show j = 0 ∨ j = 1 ∨ j = 2 ∨ j = 3 ∨ j = 4 ∨ j = 5 ∨ j = 6 ∨ j = 7 ∨ j = 8 ∨ j = 9 ∨ j = 10 ∨ j = 11 ∨ j = 12 ∨ j = 13 ∨ j = 14 by omega) with rfl | rfl | rfl | rfl | rfl | rfl | rfl | rfl | rfl | rfl | rfl | rfl | rfl | rfl | rfl <;> rfl
theorem zd_6_0 : decode zk_b6 0 = .ok (.aload_n 0, 1) := by decide +kernel
theorem zd_6_1 : decode zk_b6 1 = .ok (.invokespecial 3, 3) := by decide +kernel
theorem zd_6_4 : decode zk_b6 4 = .ok (.aload_n 0, 1) := by decide +kernel
theorem zd_6_5 : decode zk_b6 5 = .ok (.new 9, 3) := by decide +kernel
theorem zk_c6_9 : Jvm.Cond.classLink zt_R6 9 zt_R2 ∈ zt_gw := zt_in 158 (by decide +kernel) rfl
theorem zd_6_8 : decode zk_b6 8 = .ok (.dup, 1) := by decide +kernel
theorem zd_6_9 : decode zk_b6 9 = .ok (.invokespecial 11, 3) := by decide +kernel
theorem zk_n6_11 : Jvm.Cond.methodLinkNest zt_R6 11 zk_y2 "QuadricFlats" ∈ zt_nw := zt_inN 160 (by decide +kernel) rfl
theorem zd_6_12 : decode zk_b6 12 = .ok (.putfield 12, 3) := by decide +kernel
theorem zk_l6_12 : Jvm.Cond.fieldLink zt_R6 12 "QuadricFlats" "page" "LQuadricFlats$Page;" ∈ zt_gw := zt_in 341 (by decide +kernel) rfl
theorem zd_6_15 : decode zk_b6 15 = .ok (.aload_n 0, 1) := by decide +kernel
theorem zd_6_16 : decode zk_b6 16 = .ok (.new 16, 3) := by decide +kernel
theorem zk_c6_16 : Jvm.Cond.classLink zt_R6 16 zt_R1 ∈ zt_gw := zt_in 186 (by decide +kernel) rfl
theorem zd_6_19 : decode zk_b6 19 = .ok (.dup, 1) := by decide +kernel
theorem zd_6_20 : decode zk_b6 20 = .ok (.invokespecial 18, 3) := by decide +kernel
theorem zk_n6_18 : Jvm.Cond.methodLinkNest zt_R6 18 zk_y1 "QuadricFlats" ∈ zt_nw := zt_inN 188 (by decide +kernel) rfl
theorem zd_6_23 : decode zk_b6 23 = .ok (.putfield 19, 3) := by decide +kernel
theorem zk_l6_19 : Jvm.Cond.fieldLink zt_R6 19 "QuadricFlats" "current" "LQuadricFlats$Form;" ∈ zt_gw := zt_in 342 (by decide +kernel) rfl
theorem zd_6_26 : decode zk_b6 26 = .ok (.aload_n 0, 1) := by decide +kernel
theorem zd_6_27 : decode zk_b6 27 = .ok (.new 16, 3) := by decide +kernel
theorem zd_6_30 : decode zk_b6 30 = .ok (.dup, 1) := by decide +kernel
theorem zd_6_31 : decode zk_b6 31 = .ok (.invokespecial 18, 3) := by decide +kernel
theorem zd_6_34 : decode zk_b6 34 = .ok (.putfield 23, 3) := by decide +kernel
theorem zk_l6_23 : Jvm.Cond.fieldLink zt_R6 23 "QuadricFlats" "kept" "LQuadricFlats$Form;" ∈ zt_gw := zt_in 343 (by decide +kernel) rfl
theorem zd_6_37 : decode zk_b6 37 = .ok (.aload_n 0, 1) := by decide +kernel
theorem zd_6_38 : decode zk_b6 38 = .ok (.new 26, 3) := by decide +kernel
theorem zk_c6_26 : Jvm.Cond.classLink zt_R6 26 zt_R3 ∈ zt_gw := zt_in 211 (by decide +kernel) rfl
theorem zd_6_41 : decode zk_b6 41 = .ok (.dup, 1) := by decide +kernel
theorem zd_6_42 : decode zk_b6 42 = .ok (.invokespecial 28, 3) := by decide +kernel
theorem zk_n6_28 : Jvm.Cond.methodLinkNest zt_R6 28 zk_y3 "QuadricFlats" ∈ zt_nw := zt_inN 213 (by decide +kernel) rfl
theorem zd_6_45 : decode zk_b6 45 = .ok (.putfield 29, 3) := by decide +kernel
theorem zk_l6_29 : Jvm.Cond.fieldLink zt_R6 29 "QuadricFlats" "quadric" "LQuadricFlats$Quadric;" ∈ zt_gw := zt_in 344 (by decide +kernel) rfl
theorem zd_6_48 : decode zk_b6 48 = .ok (.aload_n 0, 1) := by decide +kernel
theorem zd_6_49 : decode zk_b6 49 = .ok (.new 33, 3) := by decide +kernel
theorem zk_c6_33 : Jvm.Cond.classLink zt_R6 33 zt_R0 ∈ zt_gw := zt_in 262 (by decide +kernel) rfl
theorem zd_6_52 : decode zk_b6 52 = .ok (.dup, 1) := by decide +kernel
theorem zd_6_53 : decode zk_b6 53 = .ok (.invokespecial 35, 3) := by decide +kernel
theorem zk_n6_35 : Jvm.Cond.methodLinkNest zt_R6 35 zk_y0 "QuadricFlats" ∈ zt_nw := zt_inN 264 (by decide +kernel) rfl
theorem zd_6_56 : decode zk_b6 56 = .ok (.putfield 36, 3) := by decide +kernel
theorem zk_l6_36 : Jvm.Cond.fieldLink zt_R6 36 "QuadricFlats" "known" "LQuadricFlats$Flats;" ∈ zt_gw := zt_in 345 (by decide +kernel) rfl
theorem zd_6_59 : decode zk_b6 59 = .ok (.aload_n 0, 1) := by decide +kernel
theorem zd_6_60 : decode zk_b6 60 = .ok (.new 40, 3) := by decide +kernel
theorem zk_c6_40 : Jvm.Cond.classLink zt_R6 40 zt_R5 ∈ zt_gw := zt_in 290 (by decide +kernel) rfl
theorem zd_6_63 : decode zk_b6 63 = .ok (.dup, 1) := by decide +kernel
theorem zd_6_64 : decode zk_b6 64 = .ok (.invokespecial 42, 3) := by decide +kernel
theorem zk_n6_42 : Jvm.Cond.methodLinkNest zt_R6 42 zk_y5 "QuadricFlats" ∈ zt_nw := zt_inN 292 (by decide +kernel) rfl
theorem zd_6_67 : decode zk_b6 67 = .ok (.putfield 43, 3) := by decide +kernel
theorem zk_l6_43 : Jvm.Cond.fieldLink zt_R6 43 "QuadricFlats" "picked" "LQuadricFlats$Side;" ∈ zt_gw := zt_in 346 (by decide +kernel) rfl
theorem zd_6_70 : decode zk_b6 70 = .ok (.aload_n 0, 1) := by decide +kernel
theorem zd_6_71 : decode zk_b6 71 = .ok (.new 40, 3) := by decide +kernel
theorem zd_6_74 : decode zk_b6 74 = .ok (.dup, 1) := by decide +kernel
theorem zd_6_75 : decode zk_b6 75 = .ok (.invokespecial 42, 3) := by decide +kernel
theorem zd_6_78 : decode zk_b6 78 = .ok (.putfield 47, 3) := by decide +kernel
theorem zk_l6_47 : Jvm.Cond.fieldLink zt_R6 47 "QuadricFlats" "gathered" "LQuadricFlats$Side;" ∈ zt_gw := zt_in 347 (by decide +kernel) rfl
theorem zd_6_81 : decode zk_b6 81 = .ok (.aload_n 0, 1) := by decide +kernel
theorem zd_6_82 : decode zk_b6 82 = .ok (.new 50, 3) := by decide +kernel
theorem zk_c6_50 : Jvm.Cond.classLink zt_R6 50 zt_R4 ∈ zt_gw := zt_in 320 (by decide +kernel) rfl
theorem zd_6_85 : decode zk_b6 85 = .ok (.dup, 1) := by decide +kernel
theorem zd_6_86 : decode zk_b6 86 = .ok (.aload_n 0, 1) := by decide +kernel
theorem zd_6_87 : decode zk_b6 87 = .ok (.getfield 43, 3) := by decide +kernel
theorem zd_6_90 : decode zk_b6 90 = .ok (.aload_n 0, 1) := by decide +kernel
theorem zd_6_91 : decode zk_b6 91 = .ok (.getfield 47, 3) := by decide +kernel
theorem zd_6_94 : decode zk_b6 94 = .ok (.invokespecial 52, 3) := by decide +kernel
theorem zk_n6_52 : Jvm.Cond.methodLinkNest zt_R6 52 zk_y4 "QuadricFlats" ∈ zt_nw := zt_inN 322 (by decide +kernel) rfl
theorem zd_6_97 : decode zk_b6 97 = .ok (.putfield 55, 3) := by decide +kernel
theorem zk_l6_55 : Jvm.Cond.fieldLink zt_R6 55 "QuadricFlats" "ovoids" "LQuadricFlats$Search;" ∈ zt_gw := zt_in 348 (by decide +kernel) rfl
theorem zd_6_100 : decode zk_b6 100 = .ok (.aload_n 0, 1) := by decide +kernel
theorem zd_6_101 : decode zk_b6 101 = .ok (.new 50, 3) := by decide +kernel
theorem zd_6_104 : decode zk_b6 104 = .ok (.dup, 1) := by decide +kernel
theorem zd_6_105 : decode zk_b6 105 = .ok (.aload_n 0, 1) := by decide +kernel
theorem zd_6_106 : decode zk_b6 106 = .ok (.getfield 47, 3) := by decide +kernel
theorem zd_6_109 : decode zk_b6 109 = .ok (.aload_n 0, 1) := by decide +kernel
theorem zd_6_110 : decode zk_b6 110 = .ok (.getfield 43, 3) := by decide +kernel
theorem zd_6_113 : decode zk_b6 113 = .ok (.invokespecial 52, 3) := by decide +kernel
theorem zd_6_116 : decode zk_b6 116 = .ok (.putfield 59, 3) := by decide +kernel
theorem zk_l6_59 : Jvm.Cond.fieldLink zt_R6 59 "QuadricFlats" "spreads" "LQuadricFlats$Search;" ∈ zt_gw := zt_in 349 (by decide +kernel) rfl
theorem zd_6_119 : decode zk_b6 119 = .ok (.return_, 1) := by decide +kernel
theorem zk_k7 : Jvm.Cond.code zk_y7 zk_b7 1 none ∈ zt_gw := zt_in 856 (by decide +kernel) rfl
theorem zk_i7 : Jvm.Cond.initialized zt_R7 ∈ zt_gw := zt_in 146 (by decide +kernel) rfl
theorem zk_m7 : Jvm.Cond.instanceMethod zk_y7 ∈ zt_gw := zt_in 855 (by decide +kernel) rfl
theorem zk_t7 : Jvm.Cond.instantiable zt_R7 47 ∈ zt_gw := zt_in 853 (by decide +kernel) rfl
theorem zk_o7 : Jvm.Cond.methodLink zt_R7 1 objectInit ∈ zt_gw := zt_in 857 (by decide +kernel) rfl
abbrev zk_f7 : List Value := [.int 0, .int 0, .null, .int 0, .int 0, .null, .int 0, .null, .null, .null, .int 0, .int 0, .int 0, .null, .int 0, .null, .int 0, .int 0, .int 0, .int 0, .null, .null, .null, .null, .null, .int 0, .null, .null, .null, .null, .null, .int 0, .null, .null, .null, .null, .int 0, .int 0, .null, .null, .int 0, .int 0, .int 0, .int 0, .null, .long 0, .long 0]
theorem zk_df7 : ∀ j, j < 47 → defaultValue (zt_y7 j) = vp_V zk_f7 j := by
  intro j hj
  rcases (show j = 0 ∨ j = 1 ∨ j = 2 ∨ j = 3 ∨ j = 4 ∨ j = 5 ∨ j = 6 ∨ j = 7 ∨ j = 8 ∨ j = 9 ∨ j = 10 ∨ j = 11 ∨ j = 12 ∨ j = 13 ∨ j = 14 ∨ j = 15 ∨ j = 16 ∨ j = 17 ∨ j = 18 ∨ j = 19 ∨ j = 20 ∨ j = 21 ∨ j = 22 ∨ j = 23 ∨ j = 24 ∨ j = 25 ∨ j = 26 ∨ j = 27 ∨ j = 28 ∨ j = 29 ∨ j = 30 ∨ j = 31 ∨ j = 32 ∨ j = 33 ∨ j = 34 ∨ j = 35 ∨ j = 36 ∨ j = 37 ∨ j = 38 ∨ j = 39 ∨ j = 40 ∨ j = 41 ∨ j = 42 ∨ j = 43 ∨ j = 44 ∨ j = 45 ∨ j = 46 by omega) with rfl | rfl | rfl | rfl | rfl | rfl | rfl | rfl | rfl | rfl | rfl | rfl | rfl | rfl | rfl | rfl | rfl | rfl | rfl | rfl | rfl | rfl | rfl | rfl | rfl | rfl | rfl | rfl | rfl | rfl | rfl | rfl | rfl | rfl | rfl | rfl | rfl | rfl | rfl | rfl | rfl | rfl | rfl | rfl | rfl | rfl | rfl <;> rfl
theorem zd_7_0 : decode zk_b7 0 = .ok (.aload_n 0, 1) := by decide +kernel
theorem zd_7_1 : decode zk_b7 1 = .ok (.invokespecial 1, 3) := by decide +kernel
theorem zd_7_4 : decode zk_b7 4 = .ok (.aload_n 0, 1) := by decide +kernel
theorem zd_7_5 : decode zk_b7 5 = .ok (.bipush 36, 2) := by decide +kernel
theorem zd_7_7 : decode zk_b7 7 = .ok (.newarray .int, 2) := by decide +kernel
theorem zd_7_9 : decode zk_b7 9 = .ok (.putfield 7, 3) := by decide +kernel
theorem zk_l7_7 : Jvm.Cond.fieldLink zt_R7 7 "QuadricFlatsModel" "table" "[I" ∈ zt_gw := zt_in 860 (by decide +kernel) rfl
theorem zd_7_12 : decode zk_b7 12 = .ok (.aload_n 0, 1) := by decide +kernel
theorem zd_7_13 : decode zk_b7 13 = .ok (.bipush 28, 2) := by decide +kernel
theorem zd_7_15 : decode zk_b7 15 = .ok (.newarray .int, 2) := by decide +kernel
theorem zd_7_17 : decode zk_b7 17 = .ok (.putfield 13, 3) := by decide +kernel
theorem zk_l7_13 : Jvm.Cond.fieldLink zt_R7 13 "QuadricFlatsModel" "page" "[I" ∈ zt_gw := zt_in 863 (by decide +kernel) rfl
theorem zd_7_20 : decode zk_b7 20 = .ok (.aload_n 0, 1) := by decide +kernel
theorem zd_7_21 : decode zk_b7 21 = .ok (.sipush 936, 3) := by decide +kernel
theorem zd_7_24 : decode zk_b7 24 = .ok (.newarray .int, 2) := by decide +kernel
theorem zd_7_26 : decode zk_b7 26 = .ok (.putfield 16, 3) := by decide +kernel
theorem zk_l7_16 : Jvm.Cond.fieldLink zt_R7 16 "QuadricFlatsModel" "rows" "[I" ∈ zt_gw := zt_in 865 (by decide +kernel) rfl
theorem zd_7_29 : decode zk_b7 29 = .ok (.aload_n 0, 1) := by decide +kernel
theorem zd_7_30 : decode zk_b7 30 = .ok (.sipush 729, 3) := by decide +kernel
theorem zd_7_33 : decode zk_b7 33 = .ok (.newarray .int, 2) := by decide +kernel
theorem zd_7_35 : decode zk_b7 35 = .ok (.putfield 19, 3) := by decide +kernel
theorem zk_l7_19 : Jvm.Cond.fieldLink zt_R7 19 "QuadricFlatsModel" "numbered" "[I" ∈ zt_gw := zt_in 866 (by decide +kernel) rfl
theorem zd_7_38 : decode zk_b7 38 = .ok (.aload_n 0, 1) := by decide +kernel
theorem zd_7_39 : decode zk_b7 39 = .ok (.sipush 156, 3) := by decide +kernel
theorem zd_7_42 : decode zk_b7 42 = .ok (.newarray .boolean, 2) := by decide +kernel
theorem zd_7_44 : decode zk_b7 44 = .ok (.putfield 22, 3) := by decide +kernel
theorem zk_l7_22 : Jvm.Cond.fieldLink zt_R7 22 "QuadricFlatsModel" "isOn" "[Z" ∈ zt_gw := zt_in 867 (by decide +kernel) rfl
theorem zd_7_47 : decode zk_b7 47 = .ok (.aload_n 0, 1) := by decide +kernel
theorem zd_7_48 : decode zk_b7 48 = .ok (.sipush 768, 3) := by decide +kernel
theorem zd_7_51 : decode zk_b7 51 = .ok (.newarray .int, 2) := by decide +kernel
theorem zd_7_53 : decode zk_b7 53 = .ok (.putfield 26, 3) := by decide +kernel
theorem zk_l7_26 : Jvm.Cond.fieldLink zt_R7 26 "QuadricFlatsModel" "line" "[I" ∈ zt_gw := zt_in 871 (by decide +kernel) rfl
theorem zd_7_56 : decode zk_b7 56 = .ok (.aload_n 0, 1) := by decide +kernel
theorem zd_7_57 : decode zk_b7 57 = .ok (.sipush 280, 3) := by decide +kernel
theorem zd_7_60 : decode zk_b7 60 = .ok (.newarray .int, 2) := by decide +kernel
theorem zd_7_62 : decode zk_b7 62 = .ok (.putfield 29, 3) := by decide +kernel
theorem zk_l7_29 : Jvm.Cond.fieldLink zt_R7 29 "QuadricFlatsModel" "plane" "[I" ∈ zt_gw := zt_in 873 (by decide +kernel) rfl
theorem zd_7_65 : decode zk_b7 65 = .ok (.aload_n 0, 1) := by decide +kernel
theorem zd_7_66 : decode zk_b7 66 = .ok (.bipush 36, 2) := by decide +kernel
theorem zd_7_68 : decode zk_b7 68 = .ok (.newarray .int, 2) := by decide +kernel
theorem zd_7_70 : decode zk_b7 70 = .ok (.putfield 32, 3) := by decide +kernel
theorem zk_l7_32 : Jvm.Cond.fieldLink zt_R7 32 "QuadricFlatsModel" "newTable" "[I" ∈ zt_gw := zt_in 878 (by decide +kernel) rfl
theorem zd_7_73 : decode zk_b7 73 = .ok (.aload_n 0, 1) := by decide +kernel
theorem zd_7_74 : decode zk_b7 74 = .ok (.bipush 6, 2) := by decide +kernel
theorem zd_7_76 : decode zk_b7 76 = .ok (.newarray .int, 2) := by decide +kernel
theorem zd_7_78 : decode zk_b7 78 = .ok (.putfield 35, 3) := by decide +kernel
theorem zk_l7_35 : Jvm.Cond.fieldLink zt_R7 35 "QuadricFlatsModel" "at" "[I" ∈ zt_gw := zt_in 879 (by decide +kernel) rfl
theorem zd_7_81 : decode zk_b7 81 = .ok (.aload_n 0, 1) := by decide +kernel
theorem zd_7_82 : decode zk_b7 82 = .ok (.bipush 6, 2) := by decide +kernel
theorem zd_7_84 : decode zk_b7 84 = .ok (.newarray .int, 2) := by decide +kernel
theorem zd_7_86 : decode zk_b7 86 = .ok (.putfield 38, 3) := by decide +kernel
theorem zk_l7_38 : Jvm.Cond.fieldLink zt_R7 38 "QuadricFlatsModel" "other" "[I" ∈ zt_gw := zt_in 880 (by decide +kernel) rfl
theorem zd_7_89 : decode zk_b7 89 = .ok (.aload_n 0, 1) := by decide +kernel
theorem zd_7_90 : decode zk_b7 90 = .ok (.bipush 6, 2) := by decide +kernel
theorem zd_7_92 : decode zk_b7 92 = .ok (.newarray .int, 2) := by decide +kernel
theorem zd_7_94 : decode zk_b7 94 = .ok (.putfield 41, 3) := by decide +kernel
theorem zk_l7_41 : Jvm.Cond.fieldLink zt_R7 41 "QuadricFlatsModel" "sums" "[I" ∈ zt_gw := zt_in 881 (by decide +kernel) rfl
theorem zd_7_97 : decode zk_b7 97 = .ok (.aload_n 0, 1) := by decide +kernel
theorem zd_7_98 : decode zk_b7 98 = .ok (.bipush 6, 2) := by decide +kernel
theorem zd_7_100 : decode zk_b7 100 = .ok (.newarray .int, 2) := by decide +kernel
theorem zd_7_102 : decode zk_b7 102 = .ok (.putfield 44, 3) := by decide +kernel
theorem zk_l7_44 : Jvm.Cond.fieldLink zt_R7 44 "QuadricFlatsModel" "mixed" "[I" ∈ zt_gw := zt_in 882 (by decide +kernel) rfl
theorem zd_7_105 : decode zk_b7 105 = .ok (.aload_n 0, 1) := by decide +kernel
theorem zd_7_106 : decode zk_b7 106 = .ok (.bipush 31, 2) := by decide +kernel
theorem zd_7_108 : decode zk_b7 108 = .ok (.newarray .int, 2) := by decide +kernel
theorem zd_7_110 : decode zk_b7 110 = .ok (.putfield 47, 3) := by decide +kernel
theorem zk_l7_47 : Jvm.Cond.fieldLink zt_R7 47 "QuadricFlatsModel" "flatAt" "[I" ∈ zt_gw := zt_in 884 (by decide +kernel) rfl
theorem zd_7_113 : decode zk_b7 113 = .ok (.aload_n 0, 1) := by decide +kernel
theorem zd_7_114 : decode zk_b7 114 = .ok (.bipush 6, 2) := by decide +kernel
theorem zd_7_116 : decode zk_b7 116 = .ok (.newarray .int, 2) := by decide +kernel
theorem zd_7_118 : decode zk_b7 118 = .ok (.putfield 50, 3) := by decide +kernel
theorem zk_l7_50 : Jvm.Cond.fieldLink zt_R7 50 "QuadricFlatsModel" "base" "[I" ∈ zt_gw := zt_in 885 (by decide +kernel) rfl
theorem zd_7_121 : decode zk_b7 121 = .ok (.aload_n 0, 1) := by decide +kernel
theorem zd_7_122 : decode zk_b7 122 = .ok (.bipush 36, 2) := by decide +kernel
theorem zd_7_124 : decode zk_b7 124 = .ok (.newarray .int, 2) := by decide +kernel
theorem zd_7_126 : decode zk_b7 126 = .ok (.putfield 53, 3) := by decide +kernel
theorem zk_l7_53 : Jvm.Cond.fieldLink zt_R7 53 "QuadricFlatsModel" "matrix" "[I" ∈ zt_gw := zt_in 886 (by decide +kernel) rfl
theorem zd_7_129 : decode zk_b7 129 = .ok (.aload_n 0, 1) := by decide +kernel
theorem zd_7_130 : decode zk_b7 130 = .ok (.iconst 2, 1) := by decide +kernel
theorem zd_7_131 : decode zk_b7 131 = .ok (.newarray .int, 2) := by decide +kernel
theorem zd_7_133 : decode zk_b7 133 = .ok (.putfield 56, 3) := by decide +kernel
theorem zk_l7_56 : Jvm.Cond.fieldLink zt_R7 56 "QuadricFlatsModel" "chosenMany" "[I" ∈ zt_gw := zt_in 887 (by decide +kernel) rfl
theorem zd_7_136 : decode zk_b7 136 = .ok (.aload_n 0, 1) := by decide +kernel
theorem zd_7_137 : decode zk_b7 137 = .ok (.sipush 128, 3) := by decide +kernel
theorem zd_7_140 : decode zk_b7 140 = .ok (.newarray .int, 2) := by decide +kernel
theorem zd_7_142 : decode zk_b7 142 = .ok (.putfield 59, 3) := by decide +kernel
theorem zk_l7_59 : Jvm.Cond.fieldLink zt_R7 59 "QuadricFlatsModel" "chosenAt" "[I" ∈ zt_gw := zt_in 888 (by decide +kernel) rfl
theorem zd_7_145 : decode zk_b7 145 = .ok (.aload_n 0, 1) := by decide +kernel
theorem zd_7_146 : decode zk_b7 146 = .ok (.bipush 64, 2) := by decide +kernel
theorem zd_7_148 : decode zk_b7 148 = .ok (.newarray .long, 2) := by decide +kernel
theorem zd_7_150 : decode zk_b7 150 = .ok (.putfield 62, 3) := by decide +kernel
theorem zk_l7_62 : Jvm.Cond.fieldLink zt_R7 62 "QuadricFlatsModel" "can" "[J" ∈ zt_gw := zt_in 890 (by decide +kernel) rfl
theorem zd_7_153 : decode zk_b7 153 = .ok (.aload_n 0, 1) := by decide +kernel
theorem zd_7_154 : decode zk_b7 154 = .ok (.bipush 64, 2) := by decide +kernel
theorem zd_7_156 : decode zk_b7 156 = .ok (.newarray .int, 2) := by decide +kernel
theorem zd_7_158 : decode zk_b7 158 = .ok (.putfield 66, 3) := by decide +kernel
theorem zk_l7_66 : Jvm.Cond.fieldLink zt_R7 66 "QuadricFlatsModel" "canNumber" "[I" ∈ zt_gw := zt_in 891 (by decide +kernel) rfl
theorem zd_7_161 : decode zk_b7 161 = .ok (.aload_n 0, 1) := by decide +kernel
theorem zd_7_162 : decode zk_b7 162 = .ok (.bipush 64, 2) := by decide +kernel
theorem zd_7_164 : decode zk_b7 164 = .ok (.newarray .int, 2) := by decide +kernel
theorem zd_7_166 : decode zk_b7 166 = .ok (.putfield 69, 3) := by decide +kernel
theorem zk_l7_69 : Jvm.Cond.fieldLink zt_R7 69 "QuadricFlatsModel" "tried" "[I" ∈ zt_gw := zt_in 892 (by decide +kernel) rfl
theorem zd_7_169 : decode zk_b7 169 = .ok (.aload_n 0, 1) := by decide +kernel
theorem zd_7_170 : decode zk_b7 170 = .ok (.bipush 64, 2) := by decide +kernel
theorem zd_7_172 : decode zk_b7 172 = .ok (.newarray .long, 2) := by decide +kernel
theorem zd_7_174 : decode zk_b7 174 = .ok (.putfield 72, 3) := by decide +kernel
theorem zk_l7_72 : Jvm.Cond.fieldLink zt_R7 72 "QuadricFlatsModel" "covered" "[J" ∈ zt_gw := zt_in 893 (by decide +kernel) rfl
theorem zd_7_177 : decode zk_b7 177 = .ok (.aload_n 0, 1) := by decide +kernel
theorem zd_7_178 : decode zk_b7 178 = .ok (.bipush 36, 2) := by decide +kernel
theorem zd_7_180 : decode zk_b7 180 = .ok (.newarray .int, 2) := by decide +kernel
theorem zd_7_182 : decode zk_b7 182 = .ok (.putfield 75, 3) := by decide +kernel
theorem zk_l7_75 : Jvm.Cond.fieldLink zt_R7 75 "QuadricFlatsModel" "images" "[I" ∈ zt_gw := zt_in 896 (by decide +kernel) rfl
theorem zd_7_185 : decode zk_b7 185 = .ok (.aload_n 0, 1) := by decide +kernel
theorem zd_7_186 : decode zk_b7 186 = .ok (.bipush 36, 2) := by decide +kernel
theorem zd_7_188 : decode zk_b7 188 = .ok (.newarray .int, 2) := by decide +kernel
theorem zd_7_190 : decode zk_b7 190 = .ok (.putfield 78, 3) := by decide +kernel
theorem zk_l7_78 : Jvm.Cond.fieldLink zt_R7 78 "QuadricFlatsModel" "made" "[I" ∈ zt_gw := zt_in 897 (by decide +kernel) rfl
theorem zd_7_193 : decode zk_b7 193 = .ok (.aload_n 0, 1) := by decide +kernel
theorem zd_7_194 : decode zk_b7 194 = .ok (.bipush 36, 2) := by decide +kernel
theorem zd_7_196 : decode zk_b7 196 = .ok (.newarray .int, 2) := by decide +kernel
theorem zd_7_198 : decode zk_b7 198 = .ok (.putfield 81, 3) := by decide +kernel
theorem zk_l7_81 : Jvm.Cond.fieldLink zt_R7 81 "QuadricFlatsModel" "keptTable" "[I" ∈ zt_gw := zt_in 902 (by decide +kernel) rfl
theorem zd_7_201 : decode zk_b7 201 = .ok (.return_, 1) := by decide +kernel
theorem zk_oi : Jvm.Cond.instanceMethod objectInit ∈ zt_gw := zt_in 156 (by decide +kernel) rfl
theorem zk_oc : Jvm.Cond.code objectInit ⟨#[0xb1]⟩ 1 none ∈ zt_gw := zt_in 157 (by decide +kernel) rfl
theorem zk_a0 : Jvm.Cond.arrayClass .int ∈ zt_gw := zt_in 185 (by decide +kernel) rfl
theorem zk_a1 : Jvm.Cond.arrayClass .long ∈ zt_gw := zt_in 289 (by decide +kernel) rfl
theorem zk_a2 : Jvm.Cond.arrayClass .boolean ∈ zt_gw := zt_in 1000 (by decide +kernel) rfl
