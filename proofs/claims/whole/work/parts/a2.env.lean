/-! WHAT THE MACHINE GIVES at the start of the law -/
def gvF : List Cond := flatC (Jvm.Cond.and given_1 narrow_1)
def tmS (k : Nat) : Term := .string (ownN (STl.getD k (0, 0, "")).1) (STl.getD k (0, 0, "")).2.1
set_option maxRecDepth 100000 in
theorem fl_ex : ∀ k, k < STl.length → Cond.exactly (tmS k) "java/lang/String" ∈ gvF := by decide +kernel
set_option maxRecDepth 100000 in
theorem fl_co : ∀ k, k < SLen.length → Cond.eq (.field (tmS k) "java/lang/String" "coder" "B") (.int 0) ∈ gvF := by decide +kernel
set_option maxRecDepth 100000 in
theorem fl_ar : ∀ k, k < SLen.length → Cond.arrayOf (.field (tmS k) "java/lang/String" "value" "[B") .byte ∈ gvF := by decide +kernel
set_option maxRecDepth 100000 in
theorem fl_le : ∀ k, k < SLen.length → Cond.eq (.length (.field (tmS k) "java/lang/String" "value" "[B")) (.int (Int32.ofNat (SLen.getD k 0))) ∈ gvF := by decide +kernel
set_option maxRecDepth 100000 in
theorem fe_0_0 : Cond.eq (.elem (.field (tmS 0) "java/lang/String" "value" "[B") (.int (Int32.ofNat 0))) (.int (Int32.ofInt (schr 0 0))) ∈ gvF := List.mem_of_getElem? (i := 152) (by decide +kernel)
set_option maxRecDepth 100000 in
theorem fe_0_1 : Cond.eq (.elem (.field (tmS 0) "java/lang/String" "value" "[B") (.int (Int32.ofNat 1))) (.int (Int32.ofInt (schr 0 1))) ∈ gvF := List.mem_of_getElem? (i := 153) (by decide +kernel)
set_option maxRecDepth 100000 in
theorem fe_0_2 : Cond.eq (.elem (.field (tmS 0) "java/lang/String" "value" "[B") (.int (Int32.ofNat 2))) (.int (Int32.ofInt (schr 0 2))) ∈ gvF := List.mem_of_getElem? (i := 154) (by decide +kernel)
set_option maxRecDepth 100000 in
theorem fe_0_3 : Cond.eq (.elem (.field (tmS 0) "java/lang/String" "value" "[B") (.int (Int32.ofNat 3))) (.int (Int32.ofInt (schr 0 3))) ∈ gvF := List.mem_of_getElem? (i := 155) (by decide +kernel)
set_option maxRecDepth 100000 in
theorem fe_1_0 : Cond.eq (.elem (.field (tmS 1) "java/lang/String" "value" "[B") (.int (Int32.ofNat 0))) (.int (Int32.ofInt (schr 1 0))) ∈ gvF := List.mem_of_getElem? (i := 160) (by decide +kernel)
set_option maxRecDepth 100000 in
theorem fe_1_1 : Cond.eq (.elem (.field (tmS 1) "java/lang/String" "value" "[B") (.int (Int32.ofNat 1))) (.int (Int32.ofInt (schr 1 1))) ∈ gvF := List.mem_of_getElem? (i := 161) (by decide +kernel)
set_option maxRecDepth 100000 in
theorem fe_1_2 : Cond.eq (.elem (.field (tmS 1) "java/lang/String" "value" "[B") (.int (Int32.ofNat 2))) (.int (Int32.ofInt (schr 1 2))) ∈ gvF := List.mem_of_getElem? (i := 162) (by decide +kernel)
set_option maxRecDepth 100000 in
theorem fe_1_3 : Cond.eq (.elem (.field (tmS 1) "java/lang/String" "value" "[B") (.int (Int32.ofNat 3))) (.int (Int32.ofInt (schr 1 3))) ∈ gvF := List.mem_of_getElem? (i := 163) (by decide +kernel)
set_option maxRecDepth 100000 in
theorem fe_1_4 : Cond.eq (.elem (.field (tmS 1) "java/lang/String" "value" "[B") (.int (Int32.ofNat 4))) (.int (Int32.ofInt (schr 1 4))) ∈ gvF := List.mem_of_getElem? (i := 164) (by decide +kernel)
set_option maxRecDepth 100000 in
theorem fe_2_0 : Cond.eq (.elem (.field (tmS 2) "java/lang/String" "value" "[B") (.int (Int32.ofNat 0))) (.int (Int32.ofInt (schr 2 0))) ∈ gvF := List.mem_of_getElem? (i := 169) (by decide +kernel)
set_option maxRecDepth 100000 in
theorem fe_2_1 : Cond.eq (.elem (.field (tmS 2) "java/lang/String" "value" "[B") (.int (Int32.ofNat 1))) (.int (Int32.ofInt (schr 2 1))) ∈ gvF := List.mem_of_getElem? (i := 170) (by decide +kernel)
set_option maxRecDepth 100000 in
theorem fe_2_2 : Cond.eq (.elem (.field (tmS 2) "java/lang/String" "value" "[B") (.int (Int32.ofNat 2))) (.int (Int32.ofInt (schr 2 2))) ∈ gvF := List.mem_of_getElem? (i := 171) (by decide +kernel)
set_option maxRecDepth 100000 in
theorem fe_2_3 : Cond.eq (.elem (.field (tmS 2) "java/lang/String" "value" "[B") (.int (Int32.ofNat 3))) (.int (Int32.ofInt (schr 2 3))) ∈ gvF := List.mem_of_getElem? (i := 172) (by decide +kernel)
set_option maxRecDepth 100000 in
theorem fe_2_4 : Cond.eq (.elem (.field (tmS 2) "java/lang/String" "value" "[B") (.int (Int32.ofNat 4))) (.int (Int32.ofInt (schr 2 4))) ∈ gvF := List.mem_of_getElem? (i := 173) (by decide +kernel)
set_option maxRecDepth 100000 in
theorem fe_3_0 : Cond.eq (.elem (.field (tmS 3) "java/lang/String" "value" "[B") (.int (Int32.ofNat 0))) (.int (Int32.ofInt (schr 3 0))) ∈ gvF := List.mem_of_getElem? (i := 178) (by decide +kernel)
set_option maxRecDepth 100000 in
theorem fe_3_1 : Cond.eq (.elem (.field (tmS 3) "java/lang/String" "value" "[B") (.int (Int32.ofNat 1))) (.int (Int32.ofInt (schr 3 1))) ∈ gvF := List.mem_of_getElem? (i := 179) (by decide +kernel)
set_option maxRecDepth 100000 in
theorem fe_3_2 : Cond.eq (.elem (.field (tmS 3) "java/lang/String" "value" "[B") (.int (Int32.ofNat 2))) (.int (Int32.ofInt (schr 3 2))) ∈ gvF := List.mem_of_getElem? (i := 180) (by decide +kernel)
set_option maxRecDepth 100000 in
theorem fe_3_3 : Cond.eq (.elem (.field (tmS 3) "java/lang/String" "value" "[B") (.int (Int32.ofNat 3))) (.int (Int32.ofInt (schr 3 3))) ∈ gvF := List.mem_of_getElem? (i := 181) (by decide +kernel)
set_option maxRecDepth 100000 in
theorem fe_3_4 : Cond.eq (.elem (.field (tmS 3) "java/lang/String" "value" "[B") (.int (Int32.ofNat 4))) (.int (Int32.ofInt (schr 3 4))) ∈ gvF := List.mem_of_getElem? (i := 182) (by decide +kernel)
set_option maxRecDepth 100000 in
theorem fe_3_5 : Cond.eq (.elem (.field (tmS 3) "java/lang/String" "value" "[B") (.int (Int32.ofNat 5))) (.int (Int32.ofInt (schr 3 5))) ∈ gvF := List.mem_of_getElem? (i := 183) (by decide +kernel)
set_option maxRecDepth 100000 in
theorem fe_4_0 : Cond.eq (.elem (.field (tmS 4) "java/lang/String" "value" "[B") (.int (Int32.ofNat 0))) (.int (Int32.ofInt (schr 4 0))) ∈ gvF := List.mem_of_getElem? (i := 188) (by decide +kernel)
set_option maxRecDepth 100000 in
theorem fe_4_1 : Cond.eq (.elem (.field (tmS 4) "java/lang/String" "value" "[B") (.int (Int32.ofNat 1))) (.int (Int32.ofInt (schr 4 1))) ∈ gvF := List.mem_of_getElem? (i := 189) (by decide +kernel)
set_option maxRecDepth 100000 in
theorem fe_4_2 : Cond.eq (.elem (.field (tmS 4) "java/lang/String" "value" "[B") (.int (Int32.ofNat 2))) (.int (Int32.ofInt (schr 4 2))) ∈ gvF := List.mem_of_getElem? (i := 190) (by decide +kernel)
set_option maxRecDepth 100000 in
theorem fe_4_3 : Cond.eq (.elem (.field (tmS 4) "java/lang/String" "value" "[B") (.int (Int32.ofNat 3))) (.int (Int32.ofInt (schr 4 3))) ∈ gvF := List.mem_of_getElem? (i := 191) (by decide +kernel)
set_option maxRecDepth 100000 in
theorem fe_5_0 : Cond.eq (.elem (.field (tmS 5) "java/lang/String" "value" "[B") (.int (Int32.ofNat 0))) (.int (Int32.ofInt (schr 5 0))) ∈ gvF := List.mem_of_getElem? (i := 785) (by decide +kernel)
set_option maxRecDepth 100000 in
theorem fe_5_1 : Cond.eq (.elem (.field (tmS 5) "java/lang/String" "value" "[B") (.int (Int32.ofNat 1))) (.int (Int32.ofInt (schr 5 1))) ∈ gvF := List.mem_of_getElem? (i := 786) (by decide +kernel)
set_option maxRecDepth 100000 in
theorem fe_5_2 : Cond.eq (.elem (.field (tmS 5) "java/lang/String" "value" "[B") (.int (Int32.ofNat 2))) (.int (Int32.ofInt (schr 5 2))) ∈ gvF := List.mem_of_getElem? (i := 787) (by decide +kernel)
set_option maxRecDepth 100000 in
theorem fe_5_3 : Cond.eq (.elem (.field (tmS 5) "java/lang/String" "value" "[B") (.int (Int32.ofNat 3))) (.int (Int32.ofInt (schr 5 3))) ∈ gvF := List.mem_of_getElem? (i := 788) (by decide +kernel)
set_option maxRecDepth 100000 in
theorem fe_6_0 : Cond.eq (.elem (.field (tmS 6) "java/lang/String" "value" "[B") (.int (Int32.ofNat 0))) (.int (Int32.ofInt (schr 6 0))) ∈ gvF := List.mem_of_getElem? (i := 804) (by decide +kernel)
set_option maxRecDepth 100000 in
theorem fe_6_1 : Cond.eq (.elem (.field (tmS 6) "java/lang/String" "value" "[B") (.int (Int32.ofNat 1))) (.int (Int32.ofInt (schr 6 1))) ∈ gvF := List.mem_of_getElem? (i := 805) (by decide +kernel)
set_option maxRecDepth 100000 in
theorem fe_6_2 : Cond.eq (.elem (.field (tmS 6) "java/lang/String" "value" "[B") (.int (Int32.ofNat 2))) (.int (Int32.ofInt (schr 6 2))) ∈ gvF := List.mem_of_getElem? (i := 806) (by decide +kernel)
set_option maxRecDepth 100000 in
theorem fe_6_3 : Cond.eq (.elem (.field (tmS 6) "java/lang/String" "value" "[B") (.int (Int32.ofNat 3))) (.int (Int32.ofInt (schr 6 3))) ∈ gvF := List.mem_of_getElem? (i := 807) (by decide +kernel)
set_option maxRecDepth 100000 in
theorem fe_6_4 : Cond.eq (.elem (.field (tmS 6) "java/lang/String" "value" "[B") (.int (Int32.ofNat 4))) (.int (Int32.ofInt (schr 6 4))) ∈ gvF := List.mem_of_getElem? (i := 808) (by decide +kernel)
set_option maxRecDepth 100000 in
theorem fe_7_0 : Cond.eq (.elem (.field (tmS 7) "java/lang/String" "value" "[B") (.int (Int32.ofNat 0))) (.int (Int32.ofInt (schr 7 0))) ∈ gvF := List.mem_of_getElem? (i := 825) (by decide +kernel)
set_option maxRecDepth 100000 in
theorem fe_7_1 : Cond.eq (.elem (.field (tmS 7) "java/lang/String" "value" "[B") (.int (Int32.ofNat 1))) (.int (Int32.ofInt (schr 7 1))) ∈ gvF := List.mem_of_getElem? (i := 826) (by decide +kernel)
set_option maxRecDepth 100000 in
theorem fe_7_2 : Cond.eq (.elem (.field (tmS 7) "java/lang/String" "value" "[B") (.int (Int32.ofNat 2))) (.int (Int32.ofInt (schr 7 2))) ∈ gvF := List.mem_of_getElem? (i := 827) (by decide +kernel)
set_option maxRecDepth 100000 in
theorem fe_7_3 : Cond.eq (.elem (.field (tmS 7) "java/lang/String" "value" "[B") (.int (Int32.ofNat 3))) (.int (Int32.ofInt (schr 7 3))) ∈ gvF := List.mem_of_getElem? (i := 828) (by decide +kernel)
set_option maxRecDepth 100000 in
theorem fe_8_0 : Cond.eq (.elem (.field (tmS 8) "java/lang/String" "value" "[B") (.int (Int32.ofNat 0))) (.int (Int32.ofInt (schr 8 0))) ∈ gvF := List.mem_of_getElem? (i := 794) (by decide +kernel)
set_option maxRecDepth 100000 in
theorem fe_8_1 : Cond.eq (.elem (.field (tmS 8) "java/lang/String" "value" "[B") (.int (Int32.ofNat 1))) (.int (Int32.ofInt (schr 8 1))) ∈ gvF := List.mem_of_getElem? (i := 795) (by decide +kernel)
set_option maxRecDepth 100000 in
theorem fe_8_2 : Cond.eq (.elem (.field (tmS 8) "java/lang/String" "value" "[B") (.int (Int32.ofNat 2))) (.int (Int32.ofInt (schr 8 2))) ∈ gvF := List.mem_of_getElem? (i := 796) (by decide +kernel)
set_option maxRecDepth 100000 in
theorem fe_8_3 : Cond.eq (.elem (.field (tmS 8) "java/lang/String" "value" "[B") (.int (Int32.ofNat 3))) (.int (Int32.ofInt (schr 8 3))) ∈ gvF := List.mem_of_getElem? (i := 797) (by decide +kernel)
set_option maxRecDepth 100000 in
theorem fe_8_4 : Cond.eq (.elem (.field (tmS 8) "java/lang/String" "value" "[B") (.int (Int32.ofNat 4))) (.int (Int32.ofInt (schr 8 4))) ∈ gvF := List.mem_of_getElem? (i := 798) (by decide +kernel)
set_option maxRecDepth 100000 in
theorem fe_9_0 : Cond.eq (.elem (.field (tmS 9) "java/lang/String" "value" "[B") (.int (Int32.ofNat 0))) (.int (Int32.ofInt (schr 9 0))) ∈ gvF := List.mem_of_getElem? (i := 814) (by decide +kernel)
set_option maxRecDepth 100000 in
theorem fe_9_1 : Cond.eq (.elem (.field (tmS 9) "java/lang/String" "value" "[B") (.int (Int32.ofNat 1))) (.int (Int32.ofInt (schr 9 1))) ∈ gvF := List.mem_of_getElem? (i := 815) (by decide +kernel)
set_option maxRecDepth 100000 in
theorem fe_9_2 : Cond.eq (.elem (.field (tmS 9) "java/lang/String" "value" "[B") (.int (Int32.ofNat 2))) (.int (Int32.ofInt (schr 9 2))) ∈ gvF := List.mem_of_getElem? (i := 816) (by decide +kernel)
set_option maxRecDepth 100000 in
theorem fe_9_3 : Cond.eq (.elem (.field (tmS 9) "java/lang/String" "value" "[B") (.int (Int32.ofNat 3))) (.int (Int32.ofInt (schr 9 3))) ∈ gvF := List.mem_of_getElem? (i := 817) (by decide +kernel)
set_option maxRecDepth 100000 in
theorem fe_9_4 : Cond.eq (.elem (.field (tmS 9) "java/lang/String" "value" "[B") (.int (Int32.ofNat 4))) (.int (Int32.ofInt (schr 9 4))) ∈ gvF := List.mem_of_getElem? (i := 818) (by decide +kernel)
set_option maxRecDepth 100000 in
theorem fe_9_5 : Cond.eq (.elem (.field (tmS 9) "java/lang/String" "value" "[B") (.int (Int32.ofNat 5))) (.int (Int32.ofInt (schr 9 5))) ∈ gvF := List.mem_of_getElem? (i := 819) (by decide +kernel)
theorem fl_el : ∀ k j, k < SLen.length → j < SLen.getD k 0 → Cond.eq (.elem (.field (tmS k) "java/lang/String" "value" "[B") (.int (Int32.ofNat j))) (.int (Int32.ofInt (schr k j))) ∈ gvF
  | 0, 0, _, _ => fe_0_0
  | 0, 1, _, _ => fe_0_1
  | 0, 2, _, _ => fe_0_2
  | 0, 3, _, _ => fe_0_3
  | 0, j + 4, _, h => absurd h (by show ¬ (j + 4 < 4); omega)
  | 1, 0, _, _ => fe_1_0
  | 1, 1, _, _ => fe_1_1
  | 1, 2, _, _ => fe_1_2
  | 1, 3, _, _ => fe_1_3
  | 1, 4, _, _ => fe_1_4
  | 1, j + 5, _, h => absurd h (by show ¬ (j + 5 < 5); omega)
  | 2, 0, _, _ => fe_2_0
  | 2, 1, _, _ => fe_2_1
  | 2, 2, _, _ => fe_2_2
  | 2, 3, _, _ => fe_2_3
  | 2, 4, _, _ => fe_2_4
  | 2, j + 5, _, h => absurd h (by show ¬ (j + 5 < 5); omega)
  | 3, 0, _, _ => fe_3_0
  | 3, 1, _, _ => fe_3_1
  | 3, 2, _, _ => fe_3_2
  | 3, 3, _, _ => fe_3_3
  | 3, 4, _, _ => fe_3_4
  | 3, 5, _, _ => fe_3_5
  | 3, j + 6, _, h => absurd h (by show ¬ (j + 6 < 6); omega)
  | 4, 0, _, _ => fe_4_0
  | 4, 1, _, _ => fe_4_1
  | 4, 2, _, _ => fe_4_2
  | 4, 3, _, _ => fe_4_3
  | 4, j + 4, _, h => absurd h (by show ¬ (j + 4 < 4); omega)
  | 5, 0, _, _ => fe_5_0
  | 5, 1, _, _ => fe_5_1
  | 5, 2, _, _ => fe_5_2
  | 5, 3, _, _ => fe_5_3
  | 5, j + 4, _, h => absurd h (by show ¬ (j + 4 < 4); omega)
  | 6, 0, _, _ => fe_6_0
  | 6, 1, _, _ => fe_6_1
  | 6, 2, _, _ => fe_6_2
  | 6, 3, _, _ => fe_6_3
  | 6, 4, _, _ => fe_6_4
  | 6, j + 5, _, h => absurd h (by show ¬ (j + 5 < 5); omega)
  | 7, 0, _, _ => fe_7_0
  | 7, 1, _, _ => fe_7_1
  | 7, 2, _, _ => fe_7_2
  | 7, 3, _, _ => fe_7_3
  | 7, j + 4, _, h => absurd h (by show ¬ (j + 4 < 4); omega)
  | 8, 0, _, _ => fe_8_0
  | 8, 1, _, _ => fe_8_1
  | 8, 2, _, _ => fe_8_2
  | 8, 3, _, _ => fe_8_3
  | 8, 4, _, _ => fe_8_4
  | 8, j + 5, _, h => absurd h (by show ¬ (j + 5 < 5); omega)
  | 9, 0, _, _ => fe_9_0
  | 9, 1, _, _ => fe_9_1
  | 9, 2, _, _ => fe_9_2
  | 9, 3, _, _ => fe_9_3
  | 9, 4, _, _ => fe_9_4
  | 9, 5, _, _ => fe_9_5
  | 9, j + 6, _, h => absurd h (by show ¬ (j + 6 < 6); omega)
  | k + 10, _, h, _ => absurd h (by show ¬ (k + 10 < 10); omega)
set_option maxRecDepth 100000 in
theorem fl_pa : Cond.arrayOf (.static "PrimeCoins$Numbers" "PRIMES" "[I") .int ∈ gvF := by decide +kernel
set_option maxRecDepth 100000 in
theorem fl_pl : Cond.eq (.length (.static "PrimeCoins$Numbers" "PRIMES" "[I")) (.int (Int32.ofNat 25)) ∈ gvF := by decide +kernel
set_option maxRecDepth 100000 in
theorem fl_pe : ∀ j, j < 25 → Cond.eq (.elem (.static "PrimeCoins$Numbers" "PRIMES" "[I") (.int (Int32.ofNat j))) (.int (Int32.ofInt (prm j))) ∈ gvF := by decide +kernel
set_option maxRecDepth 100000 in
theorem fl_us : Cond.isRef (.static "java/lang/Throwable" "UNASSIGNED_STACK" "[Ljava/lang/StackTraceElement;") ∈ gvF := by decide +kernel
set_option maxRecDepth 100000 in
theorem fl_ss : Cond.isRef (.static "java/lang/Throwable" "SUPPRESSED_SENTINEL" "Ljava/util/List;") ∈ gvF := by decide +kernel
set_option maxRecDepth 100000 in
theorem fl_cs : Cond.eq (.static "java/lang/String" "COMPACT_STRINGS" "Z") (.int 1) ∈ gvF := by decide +kernel
set_option maxRecDepth 100000 in
theorem fl_sf : Cond.isRef (.static "jdk/internal/util/Preconditions" "SIOOBE_FORMATTER" "Ljava/util/function/BiFunction;") ∈ gvF := by decide +kernel
set_option maxRecDepth 100000 in
theorem fn_1_2 : Cond.not (.castable (excN 1) (excN 2)) ∈ gvF := List.mem_of_getElem? (i := 50) (by decide +kernel)
set_option maxRecDepth 100000 in
theorem fn_1_3 : Cond.not (.castable (excN 1) (excN 3)) ∈ gvF := List.mem_of_getElem? (i := 79) (by decide +kernel)
set_option maxRecDepth 100000 in
theorem fn_1_4 : Cond.not (.castable (excN 1) (excN 4)) ∈ gvF := List.mem_of_getElem? (i := 93) (by decide +kernel)
set_option maxRecDepth 100000 in
theorem fn_2_1 : Cond.not (.castable (excN 2) (excN 1)) ∈ gvF := List.mem_of_getElem? (i := 64) (by decide +kernel)
set_option maxRecDepth 100000 in
theorem fn_2_3 : Cond.not (.castable (excN 2) (excN 3)) ∈ gvF := List.mem_of_getElem? (i := 78) (by decide +kernel)
set_option maxRecDepth 100000 in
theorem fn_2_4 : Cond.not (.castable (excN 2) (excN 4)) ∈ gvF := List.mem_of_getElem? (i := 92) (by decide +kernel)
set_option maxRecDepth 100000 in
theorem fn_3_1 : Cond.not (.castable (excN 3) (excN 1)) ∈ gvF := List.mem_of_getElem? (i := 65) (by decide +kernel)
set_option maxRecDepth 100000 in
theorem fn_3_2 : Cond.not (.castable (excN 3) (excN 2)) ∈ gvF := List.mem_of_getElem? (i := 51) (by decide +kernel)
set_option maxRecDepth 100000 in
theorem fn_3_4 : Cond.not (.castable (excN 3) (excN 4)) ∈ gvF := List.mem_of_getElem? (i := 94) (by decide +kernel)
set_option maxRecDepth 100000 in
theorem fn_4_1 : Cond.not (.castable (excN 4) (excN 1)) ∈ gvF := List.mem_of_getElem? (i := 66) (by decide +kernel)
set_option maxRecDepth 100000 in
theorem fn_4_2 : Cond.not (.castable (excN 4) (excN 2)) ∈ gvF := List.mem_of_getElem? (i := 52) (by decide +kernel)
set_option maxRecDepth 100000 in
theorem fn_4_3 : Cond.not (.castable (excN 4) (excN 3)) ∈ gvF := List.mem_of_getElem? (i := 80) (by decide +kernel)
theorem fl_nc : ∀ E F, E < 5 → 1 ≤ E → F < 5 → 1 ≤ F → E ≠ F → Cond.not (.castable (excN E) (excN F)) ∈ gvF
  | 1, 1, _, _, _, _, h => absurd rfl h
  | 1, 2, _, _, _, _, _ => fn_1_2
  | 1, 3, _, _, _, _, _ => fn_1_3
  | 1, 4, _, _, _, _, _ => fn_1_4
  | 2, 1, _, _, _, _, _ => fn_2_1
  | 2, 2, _, _, _, _, h => absurd rfl h
  | 2, 3, _, _, _, _, _ => fn_2_3
  | 2, 4, _, _, _, _, _ => fn_2_4
  | 3, 1, _, _, _, _, _ => fn_3_1
  | 3, 2, _, _, _, _, _ => fn_3_2
  | 3, 3, _, _, _, _, h => absurd rfl h
  | 3, 4, _, _, _, _, _ => fn_3_4
  | 4, 1, _, _, _, _, _ => fn_4_1
  | 4, 2, _, _, _, _, _ => fn_4_2
  | 4, 3, _, _, _, _, _ => fn_4_3
  | 4, 4, _, _, _, _, h => absurd rfl h
  | 0, _, _, h, _, _, _ => absurd h (by decide)
  | _, 0, _, _, _, h, _ => absurd h (by decide)
  | E + 5, _, h, _, _, _, _ => absurd h (by omega)
  | _, F + 5, _, _, h, _, _ => absurd h (by omega)
set_option maxRecDepth 100000 in
theorem sr_in {s : State} {args : Array Value} (hts : ∀ w ∈ lw_tbl, w.before args s = true) (k : Nat) (hk : k < 40) : (Cond.stringRef (ownN (STl.getD k (0, 0, "")).1) (STl.getD k (0, 0, "")).2.1 (STl.getD k (0, 0, "")).2.2).before args s = true := match k, hk with
  | 0, _ => by show (Cond.stringRef "PrimeCoins$Tokens" 76 "mint").before _ s = true; exact hts _ (tbk_in (k := 3) (List.mem_of_getElem? (i := 55) (rfl : tables_1_3[55]? = some (Cond.stringRef "PrimeCoins$Tokens" 76 "mint"))))
  | 1, _ => by show (Cond.stringRef "PrimeCoins$Tokens" 82 "purse").before _ s = true; exact hts _ (tbk_in (k := 3) (List.mem_of_getElem? (i := 108) (rfl : tables_1_3[108]? = some (Cond.stringRef "PrimeCoins$Tokens" 82 "purse"))))
  | 2, _ => by show (Cond.stringRef "PrimeCoins$Tokens" 84 "times").before _ s = true; exact hts _ (tbk_in (k := 3) (List.mem_of_getElem? (i := 109) (rfl : tables_1_3[109]? = some (Cond.stringRef "PrimeCoins$Tokens" 84 "times"))))
  | 3, _ => by show (Cond.stringRef "PrimeCoins$Tokens" 86 "change").before _ s = true; exact hts _ (tbk_in (k := 3) (List.mem_of_getElem? (i := 110) (rfl : tables_1_3[110]? = some (Cond.stringRef "PrimeCoins$Tokens" 86 "change"))))
  | 4, _ => by show (Cond.stringRef "PrimeCoins$Tokens" 88 "into").before _ s = true; exact hts _ (tbk_in (k := 3) (List.mem_of_getElem? (i := 111) (rfl : tables_1_3[111]? = some (Cond.stringRef "PrimeCoins$Tokens" 88 "into"))))
  | 5, _ => by show (Cond.stringRef "PrimeCoinsModel" 144 "mint").before _ s = true; exact hts _ (tbk_in (k := 7) (List.mem_of_getElem? (i := 67) (rfl : tables_1_7[67]? = some (Cond.stringRef "PrimeCoinsModel" 144 "mint"))))
  | 6, _ => by show (Cond.stringRef "PrimeCoinsModel" 156 "times").before _ s = true; exact hts _ (tbk_in (k := 7) (List.mem_of_getElem? (i := 119) (rfl : tables_1_7[119]? = some (Cond.stringRef "PrimeCoinsModel" 156 "times"))))
  | 7, _ => by show (Cond.stringRef "PrimeCoinsModel" 163 "into").before _ s = true; exact hts _ (tbk_in (k := 7) (List.mem_of_getElem? (i := 130) (rfl : tables_1_7[130]? = some (Cond.stringRef "PrimeCoinsModel" 163 "into"))))
  | 8, _ => by show (Cond.stringRef "PrimeCoinsModel" 165 "purse").before _ s = true; exact hts _ (tbk_in (k := 7) (List.mem_of_getElem? (i := 110) (rfl : tables_1_7[110]? = some (Cond.stringRef "PrimeCoinsModel" 165 "purse"))))
  | 9, _ => by show (Cond.stringRef "PrimeCoinsModel" 170 "change").before _ s = true; exact hts _ (tbk_in (k := 7) (List.mem_of_getElem? (i := 121) (rfl : tables_1_7[121]? = some (Cond.stringRef "PrimeCoinsModel" 170 "change"))))
  | 10, _ => by show (Cond.stringRef "PrimeCoins" 92 "not so many bytes").before _ s = true; exact hts _ (tbk_in (k := 2) (List.mem_of_getElem? (i := 228) (rfl : tables_1_2[228]? = some (Cond.stringRef "PrimeCoins" 92 "not so many bytes"))))
  | 11, _ => by show (Cond.stringRef "PrimeCoins" 122 "no such coin").before _ s = true; exact hts _ (tbk_in (k := 3) (List.mem_of_getElem? (i := 224) (rfl : tables_1_3[224]? = some (Cond.stringRef "PrimeCoins" 122 "no such coin"))))
  | 12, _ => by show (Cond.stringRef "PrimeCoins" 185 "no coin").before _ s = true; exact hts _ (tbk_in (k := 4) (List.mem_of_getElem? (i := 127) (rfl : tables_1_4[127]? = some (Cond.stringRef "PrimeCoins" 185 "no coin"))))
  | 13, _ => by show (Cond.stringRef "PrimeCoins" 189 "the purse is full").before _ s = true; exact hts _ (tbk_in (k := 4) (List.mem_of_getElem? (i := 137) (rfl : tables_1_4[137]? = some (Cond.stringRef "PrimeCoins" 189 "the purse is full"))))
  | 14, _ => by show (Cond.stringRef "PrimeCoins" 201 "not 1 to 1,000,000,000").before _ s = true; exact hts _ (tbk_in (k := 4) (List.mem_of_getElem? (i := 153) (rfl : tables_1_4[153]? = some (Cond.stringRef "PrimeCoins" 201 "not 1 to 1,000,000,000"))))
  | 15, _ => by show (Cond.stringRef "PrimeCoins" 209 "not 1 to 60 times").before _ s = true; exact hts _ (tbk_in (k := 4) (List.mem_of_getElem? (i := 164) (rfl : tables_1_4[164]? = some (Cond.stringRef "PrimeCoins" 209 "not 1 to 60 times"))))
  | 16, _ => by show (Cond.stringRef "PrimeCoins" 214 "no people").before _ s = true; exact hts _ (tbk_in (k := 4) (List.mem_of_getElem? (i := 165) (rfl : tables_1_4[165]? = some (Cond.stringRef "PrimeCoins" 214 "no people"))))
  | 17, _ => by show (Cond.stringRef "PrimeCoins" 308 "not 0 to 6").before _ s = true; exact hts _ (tbk_in (k := 5) (List.mem_of_getElem? (i := 147) (rfl : tables_1_5[147]? = some (Cond.stringRef "PrimeCoins" 308 "not 0 to 6"))))
  | 18, _ => by show (Cond.stringRef "PrimeCoins" 337 "no such number or remainder").before _ s = true; exact hts _ (tbk_in (k := 5) (List.mem_of_getElem? (i := 193) (rfl : tables_1_5[193]? = some (Cond.stringRef "PrimeCoins" 337 "no such number or remainder"))))
  | 19, _ => by show (Cond.stringRef "PrimeCoins" 342 "no such bags or remainders").before _ s = true; exact hts _ (tbk_in (k := 5) (List.mem_of_getElem? (i := 208) (rfl : tables_1_5[208]? = some (Cond.stringRef "PrimeCoins" 342 "no such bags or remainders"))))
  | 20, _ => by show (Cond.stringRef "PrimeCoins" 355 "no odd number to 1,000,000").before _ s = true; exact hts _ (tbk_in (k := 6) (List.mem_of_getElem? (i := 18) (rfl : tables_1_6[18]? = some (Cond.stringRef "PrimeCoins" 355 "no odd number to 1,000,000"))))
  | 21, _ => by show (Cond.stringRef "PrimeCoins" 360 "not 0 to 99").before _ s = true; exact hts _ (tbk_in (k := 6) (List.mem_of_getElem? (i := 29) (rfl : tables_1_6[29]? = some (Cond.stringRef "PrimeCoins" 360 "not 0 to 99"))))
  | 22, _ => by show (Cond.stringRef "PrimeCoins" 372 "no such numbers").before _ s = true; exact hts _ (tbk_in (k := 6) (List.mem_of_getElem? (i := 74) (rfl : tables_1_6[74]? = some (Cond.stringRef "PrimeCoins" 372 "no such numbers"))))
  | 23, _ => by show (Cond.stringRef "PrimeCoins" 376 "not 1 to 1,000,000").before _ s = true; exact hts _ (tbk_in (k := 6) (List.mem_of_getElem? (i := 83) (rfl : tables_1_6[83]? = some (Cond.stringRef "PrimeCoins" 376 "not 1 to 1,000,000"))))
  | 24, _ => by show (Cond.stringRef "PrimeCoins" 388 "above 1,000,000,000").before _ s = true; exact hts _ (tbk_in (k := 6) (List.mem_of_getElem? (i := 85) (rfl : tables_1_6[85]? = some (Cond.stringRef "PrimeCoins" 388 "above 1,000,000,000"))))
  | 25, _ => by show (Cond.stringRef "PrimeCoins" 397 "no such tray").before _ s = true; exact hts _ (tbk_in (k := 4) (List.mem_of_getElem? (i := 186) (rfl : tables_1_4[186]? = some (Cond.stringRef "PrimeCoins" 397 "no such tray"))))
  | 26, _ => by show (Cond.stringRef "PrimeCoins" 399 "no such sort, or not so many").before _ s = true; exact hts _ (tbk_in (k := 6) (List.mem_of_getElem? (i := 101) (rfl : tables_1_6[101]? = some (Cond.stringRef "PrimeCoins" 399 "no such sort, or not so many"))))
  | 27, _ => by show (Cond.stringRef "PrimeCoins" 406 "no such place").before _ s = true; exact hts _ (tbk_in (k := 6) (List.mem_of_getElem? (i := 126) (rfl : tables_1_6[126]? = some (Cond.stringRef "PrimeCoins" 406 "no such place"))))
  | 28, _ => by show (Cond.stringRef "PrimeCoins" 419 "no image was made").before _ s = true; exact hts _ (tbk_in (k := 6) (List.mem_of_getElem? (i := 168) (rfl : tables_1_6[168]? = some (Cond.stringRef "PrimeCoins" 419 "no image was made"))))
  | 29, _ => by show (Cond.stringRef "PrimeCoins" 437 "no such person").before _ s = true; exact hts _ (tbk_in (k := 4) (List.mem_of_getElem? (i := 3) (rfl : tables_1_4[3]? = some (Cond.stringRef "PrimeCoins" 437 "no such person"))))
  | 30, _ => by show (Cond.stringRef "PrimeCoins" 439 "both are one").before _ s = true; exact hts _ (tbk_in (k := 4) (List.mem_of_getElem? (i := 65) (rfl : tables_1_4[65]? = some (Cond.stringRef "PrimeCoins" 439 "both are one"))))
  | 31, _ => by show (Cond.stringRef "PrimeCoins" 441 "no such change").before _ s = true; exact hts _ (tbk_in (k := 4) (List.mem_of_getElem? (i := 53) (rfl : tables_1_4[53]? = some (Cond.stringRef "PrimeCoins" 441 "no such change"))))
  | 32, _ => by show (Cond.stringRef "PrimeCoins" 443 "no such what").before _ s = true; exact hts _ (tbk_in (k := 4) (List.mem_of_getElem? (i := 16) (rfl : tables_1_4[16]? = some (Cond.stringRef "PrimeCoins" 443 "no such what"))))
  | 33, _ => by show (Cond.stringRef "PrimeCoins" 445 "a set with others").before _ s = true; exact hts _ (tbk_in (k := 5) (List.mem_of_getElem? (i := 115) (rfl : tables_1_5[115]? = some (Cond.stringRef "PrimeCoins" 445 "a set with others"))))
  | 34, _ => by show (Cond.stringRef "PrimeCoins" 447 "no price of coins").before _ s = true; exact hts _ (tbk_in (k := 5) (List.mem_of_getElem? (i := 64) (rfl : tables_1_5[64]? = some (Cond.stringRef "PrimeCoins" 447 "no price of coins"))))
  | 35, _ => by show (Cond.stringRef "PrimeCoins" 450 "no such number").before _ s = true; exact hts _ (tbk_in (k := 6) (List.mem_of_getElem? (i := 6) (rfl : tables_1_6[6]? = some (Cond.stringRef "PrimeCoins" 450 "no such number"))))
  | 36, _ => by show (Cond.stringRef "PrimeCoins" 452 "not 1 to 5,000").before _ s = true; exact hts _ (tbk_in (k := 6) (List.mem_of_getElem? (i := 49) (rfl : tables_1_6[49]? = some (Cond.stringRef "PrimeCoins" 452 "not 1 to 5,000"))))
  | 37, _ => by show (Cond.stringRef "PrimeCoins" 457 "no prime from 2 to 97").before _ s = true; exact hts _ (tbk_in (k := 5) (List.mem_of_getElem? (i := 139) (rfl : tables_1_5[139]? = some (Cond.stringRef "PrimeCoins" 457 "no prime from 2 to 97"))))
  | 38, _ => by show (Cond.stringRef "PrimeCoins" 459 "no such image").before _ s = true; exact hts _ (tbk_in (k := 6) (List.mem_of_getElem? (i := 160) (rfl : tables_1_6[160]? = some (Cond.stringRef "PrimeCoins" 459 "no such image"))))
  | 39, _ => by show (Cond.stringRef "PrimeCoins" 464 "the tray is missing").before _ s = true; exact hts _ (tbk_in (k := 4) (List.mem_of_getElem? (i := 187) (rfl : tables_1_4[187]? = some (Cond.stringRef "PrimeCoins" 464 "the tray is missing"))))
  | k + 40, hk => absurd hk (by omega)
set_option maxRecDepth 100000 in
theorem ngw_in {s : State} {args : Array Value} (hts : ∀ w ∈ lw_tbl, w.before args s = true) : ∀ w ∈ NGW, va_Nw w s := by
  intro w hw
  unfold NGW at hw
  simp only [List.mem_cons, List.not_mem_nil, or_false] at hw
  rcases hw with rfl | rfl | rfl | rfl | rfl | rfl | rfl
  · exact va_Nw.of rfl (hts _ (tbk_in (k := 3) (List.mem_of_getElem? (i := 217) (rfl : tables_1_3[217]? = some (Cond.castable "java/util/NoSuchElementException" "java/util/NoSuchElementException")))))
  · exact va_Nw.of rfl (hts _ (tbk_in (k := 2) (List.mem_of_getElem? (i := 188) (rfl : tables_1_2[188]? = some (Cond.castable "java/lang/IllegalArgumentException" "java/lang/IllegalArgumentException")))))
  · exact va_Nw.of rfl (hts _ (tbk_in (k := 4) (List.mem_of_getElem? (i := 130) (rfl : tables_1_4[130]? = some (Cond.castable "java/lang/IllegalStateException" "java/lang/IllegalStateException")))))
  · exact va_Nw.of rfl (hts _ (tbk_in (k := 6) (List.mem_of_getElem? (i := 119) (rfl : tables_1_6[119]? = some (Cond.castable "java/lang/IndexOutOfBoundsException" "java/lang/IndexOutOfBoundsException")))))
  · exact va_Nw.of rfl (hts _ (tbk_in (k := 2) (List.mem_of_getElem? (i := 190) (rfl : tables_1_2[190]? = some (Cond.declares ⟨"java/lang/RuntimeException", "<init>", "(Ljava/lang/String;)V"⟩)))))
  · exact va_Nw.of rfl (hts _ (tbk_in (k := 2) (List.mem_of_getElem? (i := 192) (rfl : tables_1_2[192]? = some (Cond.declares ⟨"java/lang/Exception", "<init>", "(Ljava/lang/String;)V"⟩)))))
  · exact va_Nw.of rfl (hts _ (tbk_in (k := 2) (List.mem_of_getElem? (i := 194) (rfl : tables_1_2[194]? = some (Cond.declares ⟨"java/lang/Throwable", "<init>", "(Ljava/lang/String;)V"⟩)))))
abbrev A0 (s : State) : Nat → Prop := fun q => s.heap.size ≤ q
theorem nc_start {s : State} {args : Array Value} (hgv : (Jvm.Cond.and given_1 narrow_1).before args s = true) : NC s := fun E F h1 h2 h3 h4 h5 => va_Nc.of (flat_of_before _ hgv _ (fl_nc E F (by omega) h1 (by omega) h3 h5))
set_option maxRecDepth 100000 in
theorem en_start {s : State} {args : Array Value} (hts : ∀ w ∈ lw_tbl, w.before args s = true) (hgv : (Jvm.Cond.and given_1 narrow_1).before args s = true) : ∃ (ad : Nat → Nat) (fv : Value), ∀ (K : KT), (∀ i, 1000 ≤ i → i ≤ 3000 → K.2.2.1 i = ad i) → K.2.2.2 = fv → EN K (A0 s) s s.heap := by
  have hs : ∀ w ∈ gvF, w.before args s = true := flat_of_before _ hgv
  have hA : ∀ a : Nat, a < s.heap.size → ¬ A0 s a := fun a h g => absurd h (Nat.not_lt.mpr g)
  have hl1 : SLen.length = 10 := rfl
  have hl2 : STl.length = 40 := rfl
  have h0 : ∀ k : Nat, ∃ q : Nat × Nat, (k < STl.length → (tmS k).eval args s none [] s = some (.ref q.1)) ∧ (k < SLen.length → va_O "java/lang/String" q.1 (A0 s) s s.heap ∧ va_OF "java/lang/String" "coder" "B" (.int 0) q.1 (A0 s) s s.heap ∧ va_OF "java/lang/String" "value" "[B" (.ref q.2) q.1 (A0 s) s s.heap ∧ va_T .byte q.2 (SLen.getD k 0) (fun j => .int (Int32.ofInt (schr k j))) (A0 s) s s.heap) := by
    intro k
    by_cases hk : k < STl.length
    · obtain ⟨a, c, cA, kA, q1, q2, q3, q4, q5, q6, -⟩ := Cond.exactly_spec (args := args) (first := s) (o := none) (s := s) (idx := []) (t := tmS k) (cls := "java/lang/String") (hs _ (fl_ex k hk))
      by_cases hk2 : k < SLen.length
      · obtain ⟨t, ht, hT⟩ := va_Tof (f := fun j => .int (Int32.ofInt (schr k j))) (A := A0 s) (Nat.lt_trans (schr_in k hk2).1 (by decide)) (hs _ (fl_ar k hk2)) (va_eqt (hs _ (fl_le k hk2))) (fun j hj => va_eqt (hs _ (fl_el k j hk2 hj))) hA
        exact ⟨(a, t), fun _ => q1, fun _ => ⟨⟨cA, q3, q5, by rw [q6]; exact q2, hA a (Array.getElem?_eq_some_iff.mp q3).1⟩, vk_OFof q1 (va_eqt (hs _ (fl_co k hk2))) hA, vk_OFof q1 ht hA, hT⟩⟩
      · exact ⟨(a, 0), fun _ => q1, fun h => absurd h hk2⟩
    · exact ⟨(0, 0), fun h => absurd h hk, fun h => absurd h (by omega)⟩
  obtain ⟨ad, had⟩ := Classical.axiomOfChoice h0
  obtain ⟨tp, htp, hTp⟩ := va_Tof (f := fun j => .int (Int32.ofInt (prm j))) (A := A0 s) (N := 25) (by decide) (hs _ fl_pa) (va_eqt (hs _ fl_pl)) (fun j hj => va_eqt (hs _ (fl_pe j hj))) hA
  obtain ⟨fv, hfv, hfr⟩ := Cond.isRef_spec (hs _ fl_sf)
  refine ⟨fun i => if i < 2000 then (ad (i - 1000)).1 else if i < 3000 then (ad (i - 2000)).2 else tp, fv, ?_⟩
  intro K hK hF
  have e1 : ∀ k, k < 100 → K.2.2.1 (1000 + k) = (ad k).1 := fun k hk => (hK (1000 + k) (by omega) (by omega)).trans (by show (if 1000 + k < 2000 then (ad (1000 + k - 1000)).1 else _) = _; rw [if_pos (by omega), Nat.add_sub_cancel_left])
  have e2 : ∀ k, k < 100 → K.2.2.1 (2000 + k) = (ad k).2 := fun k hk => (hK (2000 + k) (by omega) (by omega)).trans (by show (if 2000 + k < 2000 then _ else if 2000 + k < 3000 then (ad (2000 + k - 2000)).2 else _) = _; rw [if_neg (by omega), if_pos (by omega), Nat.add_sub_cancel_left])
  have e3 : K.2.2.1 3000 = tp := by rw [hK 3000 (by decide) (by decide)]; rfl
  refine ⟨vx_Zqof (hts _ (tbk_in (k := 2) (List.mem_of_getElem? (i := 213) (rfl : tables_1_2[213]? = some (Cond.laysStatic "java/lang/Throwable" "UNASSIGNED_STACK" "[Ljava/lang/StackTraceElement;"))))) (hts _ (tbk_in (k := 1) (List.mem_of_getElem? (i := 13) (rfl : tables_1_1[13]? = some (Cond.initialized "java/lang/Throwable"))))) (hs _ fl_us) hA, vx_Zqof (hts _ (tbk_in (k := 2) (List.mem_of_getElem? (i := 215) (rfl : tables_1_2[215]? = some (Cond.laysStatic "java/lang/Throwable" "SUPPRESSED_SENTINEL" "Ljava/util/List;"))))) (hts _ (tbk_in (k := 1) (List.mem_of_getElem? (i := 13) (rfl : tables_1_1[13]? = some (Cond.initialized "java/lang/Throwable"))))) (hs _ fl_ss) hA, fun k hk => ?_, ?_, ?_, ?_, ?_, ?_, fun j q hj => ?_, ngw_in hts⟩
  · rw [e1 k (by omega), e2 k (by omega)]; exact (had k).2 hk
  · rw [e3]; exact va_Zref (hts _ (tbk_in (k := 3) (List.mem_of_getElem? (i := 158) (rfl : tables_1_3[158]? = some (Cond.laysStatic "PrimeCoins$Numbers" "PRIMES" "[I"))))) (hts _ (tbk_in (k := 1) (List.mem_of_getElem? (i := 23) (rfl : tables_1_1[23]? = some (Cond.initialized "PrimeCoins$Numbers"))))) htp hA
  · rw [e3]; exact hTp
  · exact va_Zof (hts _ (tbk_in (k := 3) (List.mem_of_getElem? (i := 69) (rfl : tables_1_3[69]? = some (Cond.laysStatic "java/lang/String" "COMPACT_STRINGS" "Z"))))) (hts _ (tbk_in (k := 1) (List.mem_of_getElem? (i := 19) (rfl : tables_1_1[19]? = some (Cond.initialized "java/lang/String"))))) (va_eqt (hs _ fl_cs)) hA
  · rw [hF]; exact va_Zof (hts _ (tbk_in (k := 3) (List.mem_of_getElem? (i := 85) (rfl : tables_1_3[85]? = some (Cond.laysStatic "jdk/internal/util/Preconditions" "SIOOBE_FORMATTER" "Ljava/util/function/BiFunction;"))))) (hts _ (tbk_in (k := 1) (List.mem_of_getElem? (i := 21) (rfl : tables_1_1[21]? = some (Cond.initialized "jdk/internal/util/Preconditions"))))) hfv hA
  · rw [hF]
    cases fv with
    | null => exact Or.inl rfl
    | ref a => exact Or.inr ⟨a, rfl⟩
    | _ => cases hfr
  · have hl := (List.getElem?_eq_some_iff.mp hj).1
    have hq : STl.getD j (0, 0, "") = q := by rw [List.getD_eq_getElem?_getD, hj]; rfl
    rw [e1 j (by omega)]
    have h1 := sr_in hts j (by omega)
    have h2 := (had j).1 hl
    unfold tmS at h2
    rw [hq] at h1 h2
    exact vk_R.of h1 h2
theorem rA_prim {s : State} {args : Array Value} {ty : FieldType} (h : (Cond.arrayClass ty).before args s = true) (hn : ∀ C, ty ≠ .object C) : ∃ cA, ArrOfT s cA ty ∧ va_RA s cA ty := by
  obtain ⟨c, k, comp, h1, h2, h3⟩ := Cond.arrayClass_spec h
  refine ⟨c, fun n z => ⟨fun k h => (by cases h), k, h2, comp, h3⟩, ?_⟩
  cases ty with
  | object C => exact absurd rfl (hn C)
  | _ => exact h1
theorem rA_obj {s : State} {args : Array Value} {C : String} (h : (Cond.arrayOver (.object C)).before args s = true) : ∃ cA, ArrOfT s cA (.object C) ∧ va_RA s cA (.object C) := by
  obtain ⟨comp, c, k, h1, h2, h3, h4, h5⟩ := Cond.arrayOver_spec h
  exact ⟨c, fun n z => ⟨fun k h => (by cases h), k, h3, comp, h4⟩, k, comp, h3, h4, h1, h5⟩
theorem ins_in {s : State} {args : Array Value} (hgi : ∀ w ∈ GI, w.before args s = true) : ∀ ci, ci < 11 → (Cond.instantiable (cTb ci).1 (cTb ci).2.2).before args s = true
  | 0, _ => hgi _ gi6
  | 1, _ => hgi _ gi11
  | 2, _ => hgi _ gi16
  | 3, _ => hgi _ gi21
  | 4, _ => hgi _ gi28
  | 5, _ => hgi _ gi33
  | 6, _ => hgi _ gi38
  | 7, _ => hgi _ gi45
  | 8, _ => hgi _ gi50
  | 9, _ => hgi _ gi63
  | 10, _ => hgi _ gi68
  | k + 11, h => absurd h (by omega)
theorem ei_start {s : State} {args : Array Value} (hts : ∀ w ∈ lw_tbl, w.before args s = true) : ∃ (D : va_G) (kA : Nat → ClassId), EI D kA s := by
  have hgi : ∀ w ∈ GI, w.before args s = true := fun w hw => hts w (gi_ok w hw).1
  have h1 : ∀ c : Nat, ∃ q : ClassId × (Nat → Nat), c < 11 → u_Kn s (cTb c).1 (cTb c).2.1 (cTb c).2.2 q.1 q.2 := by
    intro c
    by_cases hc : c < 11
    · obtain ⟨cC, iS, h⟩ := u_known hgi (fun w hw => List.mem_append_right _ (cl_lay hc w hw)) (ins_in hgi c hc)
      exact ⟨(cC, iS), fun _ => h⟩
    · exact ⟨(0, fun _ => 0), fun h => absurd h hc⟩
  obtain ⟨q, hq⟩ := Classical.axiomOfChoice h1
  obtain ⟨k1, a1, b1⟩ := rA_prim (hgi _ gi2) (fun C h => by cases h)
  obtain ⟨k2, a2, b2⟩ := rA_prim (hgi _ gi3) (fun C h => by cases h)
  obtain ⟨k3, a3, b3⟩ := rA_prim (hgi _ gi4) (fun C h => by cases h)
  have ho4 := hts _ (tbk_in (k := 1) (List.mem_of_getElem? (i := 98) (rfl : tables_1_1[98]? = some (Cond.arrayOver (.object "PrimeCoins$Town")))))
  have ho5 := hts _ (tbk_in (k := 1) (List.mem_of_getElem? (i := 100) (rfl : tables_1_1[100]? = some (Cond.arrayOver (.object "PrimeCoins$Tray")))))
  obtain ⟨k4, a4, b4⟩ := rA_obj ho4
  obtain ⟨k5, a5, b5⟩ := rA_obj ho5
  refine ⟨(fun c => (q c).1, fun c => (q c).2), fun i => match i with
    | 1 => k1
    | 2 => k2
    | 3 => k3
    | 4 => k4
    | _ => k5, ⟨fun c x hx => ?_, fun k x hx => ?_⟩, va_AO.of ho4, va_AO.of ho5, fun w hw => ?_⟩
  · have hc : c < 11 := (List.getElem?_eq_some_iff.mp hx).1
    have e : x = ((cTb c).1, (cTb c).2.1, (cTb c).2.2) := Option.some.inj (hx.symm.trans (cl_get hc))
    rw [e]
    exact hq c hc
  · match k, hx with
    | 0, hx => cases hx; exact ⟨a1, b1⟩
    | 1, hx => cases hx; exact ⟨a2, b2⟩
    | 2, hx => cases hx; exact ⟨a3, b3⟩
    | 3, hx => cases hx; exact ⟨a4, b4⟩
    | 4, hx => cases hx; exact ⟨a5, b5⟩
  · unfold NIW at hw
    simp only [List.mem_cons, List.not_mem_nil, or_false] at hw
    rcases hw with rfl | rfl | rfl | rfl | rfl | rfl | rfl | rfl
    · exact va_Nw.of rfl (hts _ (tbk_in (k := 1) (List.mem_of_getElem? (i := 38) (rfl : tables_1_1[38]? = some (Cond.methodLinkNest RX10 25 yX8_init RX10)))))
    · exact va_Nw.of rfl (hts _ (tbk_in (k := 1) (List.mem_of_getElem? (i := 103) (rfl : tables_1_1[103]? = some (Cond.methodLinkNest RX10 52 yX5_init RX10)))))
    · exact va_Nw.of rfl (hts _ (tbk_in (k := 1) (List.mem_of_getElem? (i := 108) (rfl : tables_1_1[108]? = some (Cond.methodLinkNest RX5 20 yX8_init RX10)))))
    · exact va_Nw.of rfl (hts _ (tbk_in (k := 1) (List.mem_of_getElem? (i := 111) (rfl : tables_1_1[111]? = some (Cond.methodLinkNest RX5 27 yX7_init RX10)))))
    · exact va_Nw.of rfl (hts _ (tbk_in (k := 1) (List.mem_of_getElem? (i := 159) (rfl : tables_1_1[159]? = some (Cond.methodLinkNest RX10 59 yX4_init RX10)))))
    · exact va_Nw.of rfl (hts _ (tbk_in (k := 1) (List.mem_of_getElem? (i := 208) (rfl : tables_1_1[208]? = some (Cond.methodLinkNest RX10 73 yX0_init RX10)))))
    · exact va_Nw.of rfl (hts _ (tbk_in (k := 1) (List.mem_of_getElem? (i := 218) (rfl : tables_1_1[218]? = some (Cond.methodLinkNest RX10 80 yX2_init RX10)))))
    · exact va_Nw.of rfl (hts _ (tbk_in (k := 1) (List.mem_of_getElem? (i := 228) (rfl : tables_1_1[228]? = some (Cond.methodLinkNest RX10 85 yX9_init RX10)))))
